theorem v_slen {m : MInfo} {kc ks pc : Nat} {E st : List AV} {ρ : Rho} {h : Hh} {Q : PQ} {X : PX} (hd : decode (am_cc m) pc = .ok (.arraylength, 1)) (k : 0 ≤ h 1001 0 → h 1001 0 ≤ 260 → am_V m kc ks (pc + 1) E (aI (h 1001 0) :: st) ρ h Q X) : am_V m kc ks pc E (aR 1000 :: st) ρ h Q X := by
  intro l p e R s q args below meth c D cA B b g0 g1 Z H locs cells slots ls hC hZ hR hL hS hF hc hs
  obtain ⟨hX, hbB, hg0, hg1, hg2⟩ := hC.2.2.2.2.2.2.2.2.2.2.2.2.2.2.2.2.2.2.2
  have e1 : h 1001 0 = g1 0 := by rw [hR.2.2.2.2.2.2]
  have hok : am_i (h 1001 0) := by rw [e1]; exact ⟨by omega, by omega⟩
  have k := k (by omega) (by omega)
  show W p l e R s q args below meth c H locs cells slots Z (F0 q pc ls (.ref b :: st.map (am_v B b)))
  refine va_slen hC.2.1 hC.2.2.1 hX (Nat.lt_of_lt_of_le hbB hC.2.2.2.2.2.2.2.2.2.2.2.2.2.1) (Nat.not_le.mpr hbB) hF hd ?_
  have e2 : Int32.ofNat (g1 0).toNat = Int32.ofInt (h 1001 0) := am_asI (by rw [Int32.toInt_ofNat', e1, Int.toNat_of_nonneg hg1]; exact am_bmI ⟨by omega, by omega⟩)
  rw [e2]
  exact (k l p e R s q args below meth c D cA B b g0 g1 Z H locs cells slots ls hC hZ hR hL (am_StC (v := aI (h 1001 0)) hok (am_StT hS)) hF hc hs)
theorem v_sld {m : MInfo} {kc ks pc : Nat} {E st : List AV} {ρ : Rho} {h : Hh} {Q : PQ} {X : PX} {i : Int} (hd : decode (am_cc m) pc = .ok (.iaload, 1)) (h0 : 0 ≤ i) (h1 : i < h 1001 0) (k : am_i (h 1000 i) → am_V m kc ks (pc + 1) E (aI (h 1000 i) :: st) ρ h Q X) : am_V m kc ks pc E (aI i :: aR 1000 :: st) ρ h Q X := by
  intro l p e R s q args below meth c D cA B b g0 g1 Z H locs cells slots ls hC hZ hR hL hS hF hc hs
  obtain ⟨hX, hbB, hg0, hg1, hg2⟩ := hC.2.2.2.2.2.2.2.2.2.2.2.2.2.2.2.2.2.2.2
  have hi : am_i i := am_StH hS
  have e1 : h 1001 0 = g1 0 := by rw [hR.2.2.2.2.2.2]
  have e2 : h 1000 = g0 := hR.2.2.2.2.2.1
  have hok : am_i (h 1000 i) := by rw [e2]; exact hg0 i
  have k := k hok
  obtain ⟨e3, e4⟩ := am_ix (n := (g1 0).toNat) h0 (by rw [Int.toNat_of_nonneg hg1]; omega) hi
  show W p l e R s q args below meth c H locs cells slots Z (F0 q pc ls (.int (Int32.ofInt i) :: .ref b :: st.map (am_v B b)))
  refine va_sld hC.2.1 hC.2.2.1 hX (Nat.lt_of_lt_of_le hbB hC.2.2.2.2.2.2.2.2.2.2.2.2.2.1) (Nat.not_le.mpr hbB) hF e3 hd ?_
  rw [e4, ← e2]
  exact (k l p e R s q args below meth c D cA B b g0 g1 Z H locs cells slots ls hC hZ hR hL (am_StC (v := aI (h 1000 i)) hok (am_StT (am_StT hS))) hF hc hs)
theorem v_tswIn {m : MInfo} {kc ks pc : Nat} {E st : List AV} {ρ : Rho} {h : Hh} {Q : PQ} {X : PX} {dflt lo hi x off : Int} {offs : Array Int} {len tgt : Nat} (hd : decode (am_cc m) pc = .ok (.tableswitch dflt lo hi offs, len)) (h1 : lo ≤ x) (h2 : x ≤ hi) (ho : offs[(x - lo).toNat]? = some off) (ht : (pc : Int) + off = (tgt : Int)) (k : am_V m kc ks tgt E st ρ h Q X) : am_V m kc ks pc E (aI x :: st) ρ h Q X := by
  intro l p e R s q args below meth c D cA B b g0 g1 Z H locs cells slots ls hC hZ hR hL hS hF hc hs
  have hx : am_i x := am_StH hS
  have e1 := am_toI hx
  exact lv_tableIn hC.2.1 hC.2.2.1 hd (by rw [e1]; omega) (by rw [e1]; omega) (by rw [e1]; exact ho) ht (k l p e R s q args below meth c D cA B b g0 g1 Z H locs cells slots ls hC hZ hR hL (am_StT hS) hF hc hs)
theorem v_tswOut {m : MInfo} {kc ks pc : Nat} {E st : List AV} {ρ : Rho} {h : Hh} {Q : PQ} {X : PX} {dflt lo hi x : Int} {offs : Array Int} {len tgt : Nat} (hd : decode (am_cc m) pc = .ok (.tableswitch dflt lo hi offs, len)) (h1 : x < lo ∨ hi < x) (ht : (pc : Int) + dflt = (tgt : Int)) (k : am_V m kc ks tgt E st ρ h Q X) : am_V m kc ks pc E (aI x :: st) ρ h Q X := by
  intro l p e R s q args below meth c D cA B b g0 g1 Z H locs cells slots ls hC hZ hR hL hS hF hc hs
  have hx : am_i x := am_StH hS
  have e1 := am_toI hx
  exact lv_tableOut hC.2.1 hC.2.2.1 hd (by rw [e1]; exact h1) ht (k l p e R s q args below meth c D cA B b g0 g1 Z H locs cells slots ls hC hZ hR hL (am_StT hS) hF hc hs)
/-- the handler that takes an exception -/
def am_HD (own : String) (hh : List (Nat × Nat × Nat × Nat)) (pc : Nat) (Ex : String) (hpc : Nat) : Prop := ∃ (pre : List (Nat × Nat × Nat × Nat)) (x : Nat × Nat × Nat × Nat) (suf : List (Nat × Nat × Nat × Nat)), hh = pre ++ x :: suf ∧ (∀ z ∈ pre, z.2.2.2 ≠ 0 ∧ ∃ nm, Cond.classLink own z.2.2.2 nm ∈ am_W0 ∧ nm ∈ am_X6 ∧ Ex ≠ nm) ∧ x.1 ≤ pc ∧ pc < x.2.1 ∧ x.2.2.2 ≠ 0 ∧ Cond.classLink own x.2.2.2 Ex ∈ am_W0 ∧ Cond.castable Ex Ex ∈ am_W1 ∧ Ex ∈ am_X6 ∧ x.2.2.1 = hpc
theorem am_LR.s0 {B b nL i : Nat} {ls ls' : Array Slot} {E : List AV} {w9 : Value} (hL : am_LR B b ls nL E) (h' : lv_has ls' nL ((i, w9) :: (am_all ls nL).filter (fun q => !(q.1 == i) && !(q.1 + 1 == i && q.2.category == 2)))) : am_LR B b ls' nL (am_s1 E i aU) := by
  obtain ⟨h1, h2, h3, h4⟩ := hL
  refine ⟨h'.1, by unfold am_s1; rw [List.length_set, am_kill_len, h2], h'.2.1, fun j w hj => ?_⟩
  unfold am_s1 at hj
  rw [List.getElem?_set] at hj
  by_cases q : i = j
  · subst q
    rw [if_pos rfl] at hj
    split at hj
    · exact Or.inl (Option.some.inj hj).symm
    · cases hj
  · rw [if_neg q] at hj
    rcases am_kill_get hj with z | ⟨z1, z2⟩
    · exact Or.inl z
    · rcases h4 j w z1 with z | ⟨z3, z4⟩
      · exact Or.inl z
      · refine Or.inr ⟨h'.2.2 (j, am_v B b w) (List.mem_cons_of_mem _ (List.mem_filter.mpr ⟨am_all_mem h1 z3, ?_⟩)), z4⟩
        by_cases y : j + 1 = i
        · have := am_cat (B := B) (b := b) (z2 y)
          simp [this]
          omega
        · simp [y]
          omega
theorem am_cov {z : Nat × Nat × Nat × Nat} {pc : Nat} (h1 : z.1 ≤ pc) (h2 : pc < z.2.1) : covers ⟨z.1, z.2.1, z.2.2.1, z.2.2.2⟩ pc = true := by
  simp [covers, h1, h2]
set_option maxHeartbeats 1000000 in
theorem v_callH {m : MInfo} {kc ks pc : Nat} {E st : List AV} {ρ : Rho} {h : Hh} {Q : PQ} {X : PX} {j : MInfo} {idx n : Nat} {As E0 : List AV} {a ci N : Nat} {q9 : vw_C} (hd : decode (am_cc m) pc = .ok (.invokevirtual idx, 3)) (hlk : Cond.methodLink (am_own m) idx (am_y j) ∈ am_W0 ∧ Cond.instanceMethod (am_y j) ∈ am_W0 ∧ Cond.selects (am_y j).cls (am_y j) (am_y j) ∈ am_W0) (hJ : am_J j) (hkc : am_kc j ≤ kc) (hks : am_ks j ≤ ks) (hfr : am_fr j + 1 ≤ am_fr m) (hst : am_ct st ≤ 8) (h1 : ∀ v ∈ (aR a :: As), am_one v = true) (h2 : (aR a :: As).length ≤ am_ml j) (hE : am_E j (aR a :: As) = E0) (hk : ρ.1[a]? = some (10 + ci, N)) (hcl : am_cl[ci]? = some q9) (hq9 : q9.1 = (am_y j).cls) (hn : (parseMethodDescriptor (am_y j).desc).map (fun d => d.parameters.length) = some n) (hAn : As.length = n)
    (k : am_V j (am_kc j) (am_ks j) 0 E0 [] ρ h (fun v ρ' h' => am_V m (kc - am_kc j) (ks - am_ks j) (pc + 3) E (v ++ st) ρ' h' Q X) (fun Ex ρ' h' => ∃ (hpc i9 ln : Nat), am_HD (am_own m) (am_hh m) pc Ex hpc ∧ i9 < am_ml m ∧ ((∃ f9 : Fin 4, decode (am_cc m) hpc = .ok (.astore_n f9, 1) ∧ (f9 : Nat) = i9 ∧ ln = 1) ∨ (decode (am_cc m) hpc = .ok (.astore i9, 2) ∧ ln = 2)) ∧ am_V m (kc - am_kc j) (ks - am_ks j) (hpc + ln) (am_s1 E i9 aU) [] ρ' h' Q X)) : am_V m kc ks pc E (As.reverse ++ aR a :: st) ρ h Q X := by
  intro l p e R s q args below meth c D cA B b g0 g1 Z H locs cells slots ls hC hZ hR hL hS hF hc hs
  subst hE
  obtain ⟨j1, j2, j3, j4, j5, j6, j7, j8⟩ := id hJ
  have hw := hC.2.2.2.2.2.2.1
  have hfr9 := hC.2.2.2.2.2.2.2.2.2.2.2.2.2.2.2.2.1
  have hlo9 := hC.2.2.2.2.2.2.2.2.2.2.2.2.2.2.2.2.2.1
  have hsum := am_sum B b st
  have hroom := am_room (j := j) hfr9 hlo9 hfr j8
  have hlt := hR.lt hk
  have ha9 := am_w_get (B := B) (cA := cA) (h := h) hk
  rw [am_cellO] at ha9
  have hcell := va_recv hC.2.2.2.2.2.2.2.2.2.2.1 hR.1 hcl ha9
  rw [hq9] at hcell
  have hSs : am_St st := fun w9 hw9 => hS w9 (List.mem_append_right _ (List.mem_cons_of_mem _ hw9))
  have hSa : am_St (aR a :: As) := am_StC trivial (fun w9 hw9 => hS w9 (List.mem_append_left _ (List.mem_reverse.mpr hw9)))
  have hM := am_met (l := l) hC.1 hJ (D := D) (cA := cA) (B := B) (b := b) (g0 := g0) (g1 := g1) h1 h2 hSa k
  have hr := vx_runV (e := e) (below := below) (meth := meth) (As := As.map (am_v B b)) (b := B + a) (H := H) (locs := locs) (cells := cells) (slots := slots) (g := F0 q pc ls ((As.reverse ++ aR a :: st).map (am_v B b))) (rest := st.map (am_v B b)) ⟨hC.2.1, hC.2.2.1, hC.2.2.2.2.1, hC.2.2.2.2.2.1, hw⟩ hM (cwV n hw (am_goodIn (fun w9 hw9 => by
    rcases List.mem_append.mp hw9 with z | z
    · simp only [List.mem_cons, List.mem_nil_iff, or_false] at z
      rcases z with rfl | rfl | rfl | rfl
      · exact hlk.1
      · exact hlk.2.1
      · exact hlk.2.2
      · exact j1
    · rcases List.mem_cons.mp z with rfl | z
      · exact j2
      · exact z)) rfl rfl rfl ⟨rfl, j4.1, j4.2, hn⟩ hroom) ⟨am_FB, hcell, fun U hU hW => ⟨by rw [List.map_cons]; show _ = (Value.ref (am_ad B b a) :: _).toArray; rw [am_adL hlt], hC.G hF hU hW, by rw [hU]; exact hR⟩⟩ rfl (by rw [List.length_map]; exact hAn) hL.1 (by
    show (As.reverse ++ aR a :: st).map (am_v B b) = _
    rw [List.map_append, List.map_cons, List.map_reverse]
    show _ ++ Value.ref (am_ad B b a) :: _ = _
    rw [am_adL hlt]) (lv_room (by omega)) hd ⟨by omega, by omega⟩
  intro T hT Xs
  rcases hr T hT Xs with ⟨v, st₀, t, T', L, h0, X', hLq, e1, e2, ⟨v9, ρ9, h9, q1, q2, q3, q4, q5, q6⟩, stp⟩ | ⟨q9, st₀, t, T', L, Ex, ce, h0, X', hLq, e1, e2, ⟨ρ9, h9, q1, q2, q3⟩, hce, hcv, hcl9, stp⟩
  · cases q1
    obtain ⟨k1, k2, k3⟩ := vx_keep h0 e1 hF (fun _ _ z => z) (fun _ z => z) hLq q6
    rw [← e1] at q5
    obtain ⟨t2, a1, b1⟩ := q3 l p e R s q args below meth c D cA B b g0 g1 Z T'.heap (locs ++ L) (cells + am_kc j) (slots + am_ks j) ls hC hZ q5 hL (am_StA q4 hSs) k3 (by omega) (by omega) T' rfl X'
    rw [← am_goes q2] at a1
    exact ⟨t2, stp t2 a1, b1⟩
  · obtain ⟨k1, k2, k3⟩ := vx_keep h0 e1 hF (fun _ _ z => z) (fun _ z => z) hLq q3
    obtain ⟨hpc, i9, ln, ⟨pre, x, suf, d1, d2, d3, d4, d5, d6, d7, d8, d9⟩, hi9, hdec, hV⟩ := q1
    subst d9
    have htab : c.exceptionTable.toList = tableOf pre ++ ⟨x.1, x.2.1, x.2.2.1, x.2.2.2⟩ :: tableOf suf := by
      rw [hC.2.2.2.2.2.2.2.2.2.2.2.2.2.2.1.resolve_left (fun z9 => by rw [d1] at z9; simp at z9), d1]
      simp [tableOf]
    have hwv : vx_W p l e R s q args below meth c T'.heap (locs ++ L) (cells + am_kc j) (slots + am_ks j) Z (F0 q pc ls (st.map (am_v B b))) q9 := by
      refine vx_catch (name := Ex) hC.2.2.2.2.2.1 _ _ _ htab (fun z hz => ?_) (am_cov d3 d4) d5 (hw _ d6) (va_Nw.use rfl (hC.2.2.2.2.2.2.2.1 _ d7)) (by rw [e1]; exact hce) hcv hcl9 ?_
      · obtain ⟨z9, hz9, rfl⟩ := List.mem_map.mp hz
        obtain ⟨y1, nm, y2, y3, y4⟩ := d2 z9 hz9
        exact Or.inr ⟨y1, nm, hw _ y2, hC.2.2.2.2.2.2.2.2.2.2.2.2.2.2.2.2.2.2.1 Ex d8 nm y3 y4⟩
      · have hgo : ∀ ls2 : Array Slot, lv_has ls2 (am_ml m) ((i9, .ref q9) :: (am_all ls (am_ml m)).filter (fun q => !(q.1 == i9) && !(q.1 + 1 == i9 && q.2.category == 2))) → W p l e R s q args below meth c T'.heap (locs ++ L) (cells + am_kc j) (slots + am_ks j) Z (F0 q (x.2.2.1 + ln) ls2 []) := fun ls2 h2 => hV l p e R s q args below meth c D cA B b g0 g1 Z T'.heap (locs ++ L) (cells + am_kc j) (slots + am_ks j) ls2 hC hZ (by rw [e1]; exact q2) (hL.s0 h2) (fun w9 hw9 => by cases hw9) k3 (by omega) (by omega)
        rcases hdec with ⟨f9, y1, y2, y3⟩ | ⟨y1, y3⟩
        · subst y3
          exact lv_astore_n hC.2.1 hC.2.2.1 y1 y2 (am_all_has hL.1 hL.2.2.1) hi9 rfl hgo
        · subst y3
          exact lv_astore hC.2.1 hC.2.2.1 y1 (am_all_has hL.1 hL.2.2.1) hi9 rfl hgo
    obtain ⟨t2, a1, b1⟩ := hwv T' rfl X'
    exact ⟨t2, stp.trans a1, b1⟩
/-- a method with a table of its own -/
def am_wsW (j : MInfo) : List Cond := .codeWith (am_y j) (am_cc j) (am_ml j) (am_rt j) (am_hh j) :: am_W0
def am_JW (j : MInfo) : Prop := Cond.initialized (am_y j).cls ∈ am_W0 ∧ Cond.codeWith (am_y j) (am_cc j) (am_ml j) (am_rt j) (am_hh j) ∈ am_W0 ∧ plainName (am_y j).cls = true ∧ ((am_y j).cls ≠ "java/lang/invoke/MethodHandle" ∧ (am_y j).cls ≠ "java/lang/invoke/VarHandle") ∧ am_own j = (am_y j).cls ∧ am_law j = false ∧ am_ml j ≤ 60
set_option maxHeartbeats 1000000 in
theorem am_metW {j : MInfo} {l : Launch} (hl : l.stackTraces = false) (hJ : am_JW j) {D : va_G} {cA : Nat → ClassId} {B b : Nat} {g0 g1 : Int → Int} {ρ : Rho} {h : Hh} {Q : PQ} {X : PX} {As : List AV} (h1 : ∀ v ∈ As, am_one v = true) (h2 : As.length ≤ am_ml j) (h3 : am_St As) (hV : am_V j (am_kc j) (am_ks j) 0 (am_E j As) [] ρ h Q X) :
    vx_Met l (am_y j) (am_wsW j) (am_rm j) (am_Pc D cA B b g0 g1 ρ h As) (am_QC D cA B b g0 g1 Q) (am_XC D cA B g0 g1 X) (am_kc j) (am_ks j) (am_A B) := by
  obtain ⟨j1, j2, j3, j4, j5, j6, j8⟩ := hJ
  refine vx_ofWH (cc := am_cc j) (maxL := am_ml j) (ret := am_rt j) (hh := am_hh j) j3 rfl ?_
  intro p e s m args below meth c s₁ B0 hml hv
  obtain ⟨rfl, hG, hHR⟩ := hv
  obtain ⟨G1, G2, G3, G4, G5, G6, G7, G8⟩ := hG
  have hws := atoms_spec (ws := am_wsW j) B0.pre
  have htab : c.exceptionTable.toList = tableOf (am_hh j) := vx_table (x := am_y j) B0 (hws _ List.mem_cons_self)
  rw [lg_entry_eq]
  refine hV l p e (am_rm j) s m _ below meth c D cA B b g0 g1 _ s.heap [] 0 0 _ ⟨hl, B0.exec, B0.bytes, B0.returns, hml, ?_, fun w hw => hws w (List.mem_cons_of_mem _ hw), G1, G2, B0.notSynchronized, G3, G4, G5, G6, Or.inr htab, Or.inr (name_of_methodNamed B0.named B0.method).1, Nat.le_refl _, Nat.le_refl _, G7, G8⟩ (Or.inl ⟨j6, rfl⟩) hHR (am_entry h1 h2 h3) (fun v hv => by cases hv) va_S.rf (by show 0 + am_kc j ≤ am_kc j; omega) (by show 0 + am_ks j ≤ am_ks j; omega)
  · rw [j5]
    exact findClass_of_methodNamed B0.named
set_option maxHeartbeats 1000000 in
theorem v_callSX {m : MInfo} {kc ks pc : Nat} {E st : List AV} {ρ : Rho} {h : Hh} {Q : PQ} {X : PX} {j : MInfo} {idx n : Nat} {As E0 : List AV}  (hd : decode (am_cc m) pc = .ok (.invokestatic idx, 3)) (hlk : Cond.methodLink (am_own m) idx (am_y j) ∈ am_W0 ∧ Cond.static (am_y j) ∈ am_W0) (hJ : am_JW j) (hkc : am_kc j ≤ kc) (hks : am_ks j ≤ ks) (hfr : am_fr j + 1 ≤ am_fr m) (hhh : am_hh m = []) (hst : am_ct st ≤ 8) (h1 : ∀ v ∈ As, am_one v = true) (h2 : (As).length ≤ am_ml j) (hE : am_E j (As) = E0)  (hn : (parseMethodDescriptor (am_y j).desc).map (fun d => d.parameters.length) = some n) (hAn : As.length = n) (k : am_V j (am_kc j) (am_ks j) 0 E0 [] ρ h (fun v ρ' h' => am_V m (kc - am_kc j) (ks - am_ks j) (pc + 3) E (v ++ st) ρ' h' Q X) X) : am_V m kc ks pc E (As.reverse ++ st) ρ h Q X := by
  intro l p e R s q args below meth c D cA B b g0 g1 Z H locs cells slots ls hC hZ hR hL hS hF hc hs
  subst hE
  obtain ⟨j1, j2, j3, j4, j5, j6, j8⟩ := id hJ
  have hw := hC.2.2.2.2.2.2.1
  have hfr9 := hC.2.2.2.2.2.2.2.2.2.2.2.2.2.2.2.2.1
  have hlo9 := hC.2.2.2.2.2.2.2.2.2.2.2.2.2.2.2.2.2.1
  have hsum := am_sum B b st
  have hroom := am_room (j := j) hfr9 hlo9 hfr j8
  have hSs : am_St st := fun w9 hw9 => hS w9 (List.mem_append_right _ hw9)
  have hSa : am_St As := fun w9 hw9 => hS w9 (List.mem_append_left _ (List.mem_reverse.mpr hw9))
  have hM := am_metW (l := l) hC.1 hJ (D := D) (cA := cA) (B := B) (b := b) (g0 := g0) (g1 := g1) h1 h2 hSa k
  refine am_after hC hZ hL hSs hF hc hs hkc hks hhh (a9 := (As.map (am_v B b)).toArray) (vx_runSX (As := As.map (am_v B b)) ⟨hC.2.1, hC.2.2.1, hC.2.2.2.2.1, hC.2.2.2.2.2.1, hw⟩ hM (vx_cwSW n hw (am_goodIn (fun w9 hw9 => by
    rcases List.mem_append.mp hw9 with z | z
    · simp only [List.mem_cons, List.mem_nil_iff, or_false] at z
      rcases z with rfl | rfl | rfl
      · exact hlk.1
      · exact hlk.2
      · exact j1
    · rcases List.mem_cons.mp z with rfl | z
      · exact j2
      · exact z)) rfl rfl rfl ⟨j4.1, j4.2, hn⟩ hroom) ⟨am_FB, fun U hU hW => ⟨rfl, hC.G hF hU hW, by rw [hU]; exact hR⟩⟩ rfl (by rw [List.length_map]; exact hAn) hL.1 ?_ (lv_room (by omega)) hd ⟨by omega, by omega⟩)
  rw [List.map_append, List.map_reverse]
