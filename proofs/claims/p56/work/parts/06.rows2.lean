def am_st (h : Hh) (a : Nat) (j v : Int) : Hh := fun a' j' => if a' = a ∧ j' = j then v else h a' j'
theorem am_st_o {h : Hh} {a a' : Nat} {j v : Int} (hn : a' ≠ a) : am_st h a j v a' = h a' := funext fun j' => if_neg fun z => hn z.1
theorem am_st_s {h : Hh} {a : Nat} {j v : Int} : am_st h a j v a j = v := if_pos ⟨rfl, rfl⟩
theorem am_st_n {h : Hh} {a a' : Nat} {j j' v : Int} (hn : a' ≠ a ∨ j' ≠ j) : am_st h a j v a' j' = h a' j' := if_neg fun z => hn.elim (fun y => y z.1) (fun y => y z.2)
theorem am_st_f {h : Hh} {a : Nat} {j v : Int} : am_st h a j v a = fun j' => if j' = j then v else h a j' := funext fun j' => by simp [am_st]
theorem am_w_get {B a : Nat} {cA : Nat → ClassId} {ρ : Rho} {h : Hh} {kd : Nat × Nat} (hk : ρ.1[a]? = some kd) : (am_w B cA ρ h)[a]? = some (B + a, am_cell B cA kd (ρ.2.1 a) (h a)) := by
  unfold am_w
  rw [List.getElem?_mapIdx, hk]
  rfl
theorem am_w_len {B : Nat} {cA : Nat → ClassId} {ρ : Rho} {h : Hh} : (am_w B cA ρ h).length = ρ.1.length := by
  unfold am_w
  rw [List.length_mapIdx]
theorem am_lt {ρ : Rho} {a : Nat} {kd : Nat × Nat} (hk : ρ.1[a]? = some kd) : a < ρ.1.length := (List.getElem?_eq_some_iff.mp hk).1
theorem am_w_set {B a : Nat} {cA : Nat → ClassId} {ρ ρ' : Rho} {h h' : Hh} {kd : Nat × Nat} {e : va_E} (hk : ρ.1[a]? = some kd) (h1 : ρ'.1 = ρ.1) (he : am_cell B cA kd (ρ'.2.1 a) (h' a) = e) (ho : ∀ a', a' ≠ a → h' a' = h a' ∧ ρ'.2.1 a' = ρ.2.1 a') : (am_w B cA ρ h).set a (B + a, e) = am_w B cA ρ' h' := by
  apply List.ext_getElem?
  intro j
  rw [List.getElem?_set, am_w_len]
  by_cases q : a = j
  · subst q
    rw [if_pos rfl, if_pos (am_lt hk), am_w_get (ρ := ρ') (by rw [h1]; exact hk), he]
  · rw [if_neg q]
    unfold am_w
    rw [List.getElem?_mapIdx, List.getElem?_mapIdx, h1, (ho j (fun z => q z.symm)).1, (ho j (fun z => q z.symm)).2]
theorem am_wD {B : Nat} {cA : Nat → ClassId} {ρ : Rho} {h : Hh} : va_D (am_A B) (am_w B cA ρ h) := by
  have key : ∀ (i : Nat) (p : Nat × va_E), (am_w B cA ρ h)[i]? = some p → p.1 = B + i := by
    intro i p hp
    unfold am_w at hp
    rw [List.getElem?_mapIdx] at hp
    cases hz : ρ.1[i]? with
    | none => rw [hz] at hp; cases hp
    | some kd => rw [hz] at hp; cases hp; rfl
  refine ⟨fun i j p q hp hq hpq => ?_, fun k q hq => ?_⟩
  · have h1 := key i p hp
    have h2 := key j q hq
    omega
  · have h1 := key k q hq
    show B ≤ q.1
    omega
theorem am_HR.lt {D : va_G} {cA : Nat → ClassId} {B a : Nat} {g0 g1 : Int → Int} {ρ : Rho} {h : Hh} {H : Heap} {kd : Nat × Nat} (hR : am_HR D cA B g0 g1 ρ h H) (hk : ρ.1[a]? = some kd) : a < 1000 := Nat.lt_of_lt_of_le (am_lt hk) hR.2.2.1
theorem am_adL {B b a : Nat} (h : a < 1000) : am_ad B b a = B + a := if_neg (by omega)
theorem am_HR.rg {D : va_G} {cA : Nat → ClassId} {B a : Nat} {g0 g1 : Int → Int} {ρ : Rho} {h : Hh} {H : Heap} {kd : Nat × Nat} (hR : am_HR D cA B g0 g1 ρ h H) (hk : ρ.1[a]? = some kd) : am_rg kd (h a) := hR.2.2.2.2.1 a kd hk
theorem am_HR.set {D : va_G} {cA : Nat → ClassId} {B a : Nat} {g0 g1 : Int → Int} {ρ : Rho} {h : Hh} {H H1 : Heap} {kd : Nat × Nat} {j v : Int} {e : va_E} (hR : am_HR D cA B g0 g1 ρ h H) (hk : ρ.1[a]? = some kd) (hP : va_P D am_cl ((am_w B cA ρ h).set a (B + a, e)) H1) (hz : H1.size = H.size) (he : am_cell B cA kd (ρ.2.1 a) (am_st h a j v a) = e) (hg : am_rg kd (am_st h a j v a)) : am_HR D cA B g0 g1 ρ (am_st h a j v) H1 := by
  obtain ⟨h1, h2, h3, h4, h5, h6, h7⟩ := id hR
  have hlt := hR.lt hk
  rw [am_w_set (ρ' := ρ) (h' := am_st h a j v) hk rfl he (fun a' hn => ⟨am_st_o hn, rfl⟩)] at hP
  refine ⟨hP, fun z => by rw [hz]; exact h2 z, h3, h4, fun a' kd' hk' => ?_, ?_, ?_⟩
  · by_cases q : a' = a
    · subst q
      cases hk.symm.trans hk'
      exact hg
    · rw [am_st_o q]
      exact h5 a' kd' hk'
  · rw [am_st_o (by omega)]; exact h6
  · rw [am_st_o (by omega)]; exact h7
theorem am_cellO {B ci N : Nat} {cA : Nat → ClassId} {r : Int → Option Nat} {h : Int → Int} : am_cell B cA (10 + ci, N) r h = .inr (ci, (List.range N).map (fun (k : Nat) => am_fv B ci k (r k) (h k))) := by
  unfold am_cell
  dsimp only
  rw [if_neg (by omega), if_neg (by omega), if_neg (by omega), if_neg (by omega), if_neg (by omega), if_neg (by omega), Nat.add_sub_cancel_left]
/-- an entry of a class's pool for a field, and the field's place -/
def am_FL (own : String) (idx ci k N : Nat) : Prop := ∃ (C : String) (T : u_T), am_cl[ci]? = some (C, T, N) ∧ k < N ∧ Cond.fieldLink own idx (T k).1 (T k).2.1 (T k).2.2.1 ∈ am_W0
/-- the classes' own words, field types and names -/
def am_clsOK (q : vw_C) : Prop := (∀ w ∈ u_ws q.1 q.2.1 q.2.2, w ∈ am_W0) ∧ (∀ a, a < q.2.2 → ∀ b, b < q.2.2 → a ≠ b → (q.2.1 a).2.1 ≠ (q.2.1 b).2.1)
theorem am_mem {w : Cond} (i : Nat) (h : lw_tbl[i]? = some w) (g : goodWord w = true) : w ∈ am_W0 := List.mem_filter.mpr ⟨List.mem_of_getElem? h, g⟩
theorem am_mem1 {w : Cond} (i : Nat) (h : lw_tbl[i]? = some w) (g : am_w1 w = true) : w ∈ am_W1 := List.mem_filter.mpr ⟨List.mem_of_getElem? h, g⟩
theorem v_getI {m : MInfo} {kc ks pc : Nat} {E st : List AV} {ρ : Rho} {h : Hh} {Q : PQ} {X : PX} {idx ci k0 N a : Nat} {j : Int} (hd : decode (am_cc m) pc = .ok (.getfield idx, 3)) (hf : am_FL (am_own m) idx ci k0 N) (hcl : ∀ q ∈ am_cl, am_clsOK q) (hr : am_ref ci k0 = false) (hj : ((k0 : Nat) : Int) = j) (hk : ρ.1[a]? = some (10 + ci, N)) (k : am_V m kc ks (pc + 3) E (aI (h a j) :: st) ρ h Q X) : am_V m kc ks pc E (aR a :: st) ρ h Q X := by
  intro l p e R s q args below meth c D cA B b g0 g1 Z H locs cells slots ls hC hZ hR hL hS hF hc hs
  subst hj
  obtain ⟨C, T, f1, f2, f3⟩ := hf
  have hok := (hR.rg hk).2.1 (by show 10 + ci ≠ 2; omega) (by show 10 + ci ≠ 3; omega) (k0 : Int)
  have hg := am_w_get (B := B) (cA := cA) (h := h) hk
  rw [am_cellO] at hg
  show W p l e R s q args below meth c H locs cells slots Z (F0 q pc ls (.ref (am_ad B b a) :: st.map (am_v B b)))
  rw [am_adL (hR.lt hk)]
  refine va_get (Ts := am_W0) (ref := (T k0).1) hC.2.1 hC.2.2.1 hC.2.2.2.2.2.2.1 (hcl _ (List.mem_of_getElem? f1)).1 hC.2.2.2.2.2.1 hC.2.2.2.2.2.2.2.2.2.2.1 hR.1 a hg f1 k0 f2 (hC.2.2.2.2.2.2.1 _ f3) (fun x hx => hx) (v := .int (Int32.ofInt (h a k0))) ?_ hd ?_
  · rw [List.getElem?_map, List.getElem?_range f2]
    simp only [Option.map_some, am_fv, hr]
    rfl
  · exact (k l p e R s q args below meth c D cA B b g0 g1 Z H locs cells slots ls hC hZ hR hL (am_StC (v := aI (h a k0)) hok (am_StT hS)) hF hc hs)
theorem v_getR {m : MInfo} {kc ks pc : Nat} {E st : List AV} {ρ : Rho} {h : Hh} {Q : PQ} {X : PX} {idx ci k0 N a x : Nat} (hd : decode (am_cc m) pc = .ok (.getfield idx, 3)) (hf : am_FL (am_own m) idx ci k0 N) (hcl : ∀ q ∈ am_cl, am_clsOK q) (hr : am_ref ci k0 = true) (hk : ρ.1[a]? = some (10 + ci, N)) (hx : ρ.2.1 a k0 = some x) (k : am_V m kc ks (pc + 3) E (aR x :: st) ρ h Q X) : am_V m kc ks pc E (aR a :: st) ρ h Q X := by
  intro l p e R s q args below meth c D cA B b g0 g1 Z H locs cells slots ls hC hZ hR hL hS hF hc hs
  obtain ⟨C, T, f1, f2, f3⟩ := hf
  have hx9 := hR.2.2.2.1 _ _ _ hx
  have hg := am_w_get (B := B) (cA := cA) (h := h) hk
  rw [am_cellO] at hg
  show W p l e R s q args below meth c H locs cells slots Z (F0 q pc ls (.ref (am_ad B b a) :: st.map (am_v B b)))
  rw [am_adL (hR.lt hk)]
  refine va_get (Ts := am_W0) (ref := (T k0).1) hC.2.1 hC.2.2.1 hC.2.2.2.2.2.2.1 (hcl _ (List.mem_of_getElem? f1)).1 hC.2.2.2.2.2.1 hC.2.2.2.2.2.2.2.2.2.2.1 hR.1 a hg f1 k0 f2 (hC.2.2.2.2.2.2.1 _ f3) (fun x hx => hx) (v := .ref (am_ad B b x)) ?_ hd ?_
  · rw [List.getElem?_map, List.getElem?_range f2]
    simp only [Option.map_some, am_fv, hr, hx, am_adL hx9]
    rfl
  · exact (k l p e R s q args below meth c D cA B b g0 g1 Z H locs cells slots ls hC hZ hR hL (am_StC trivial (am_StT hS)) hF hc hs)
theorem am_map_set {α : Type} {N k : Nat} {f g : Nat → α} {v : α} (hk : k < N) (h1 : g k = v) (h2 : ∀ j, j ≠ k → g j = f j) : ((List.range N).map f).set k v = (List.range N).map g := by
  apply List.ext_getElem?
  intro j
  rw [List.getElem?_set, List.getElem?_map, List.getElem?_map, List.length_map, List.length_range]
  by_cases q : k = j
  · subst q
    rw [if_pos rfl, if_pos hk, List.getElem?_range hk, Option.map_some, h1]
  · rw [if_neg q]
    cases hz : (List.range N)[j]? with
    | none => rfl
    | some y =>
      have hy := List.getElem?_eq_some_iff.mp hz
      obtain ⟨hy1, hy2⟩ := hy
      rw [List.getElem_range] at hy2
      subst hy2
      rw [Option.map_some, Option.map_some, h2 j (fun z => q z.symm)]
theorem am_puts {p : Program} {l : Launch} {e : Env} {R : Room} {s : State} {m : MethodId} {args : Array Value} {below : List Frame} {meth : Method} {c : Code} {H : Heap} {locs : List Loc} {cells slots : Nat} {Q : State → Prop} {cc : ByteArray} {pc : Nat} {ls : Array Slot} {rest : List Value} {D : va_G} {cl : List vw_C} {A : Nat → Prop} {a : Nat} {tys : List (ClassId × FieldType)} {ws : va_W} {H0 : Heap} (hexec : p.tables.exec = Jvm.exec) (hb : c.code = cc) {own ref C : String} {T : u_T} {N ci index : Nat} {Ts : List Cond} (hts : ∀ w ∈ Ts, w.before args s = true) (hin : ∀ w ∈ u_ws C T N, w ∈ Ts) (ty0 : Nat → FieldType) (hty : ∀ k, k < N → parseFieldDescriptor (T k).2.2.1 = some (ty0 k)) (hnm : ∀ a, a < N → ∀ b, b < N → a ≠ b → (T a).2.1 ≠ (T b).2.1) (hown : s.vm.findClass own = some m.cls) (hK : va_K D cl tys s) (hP : va_P D cl ws H) (hD : va_D A ws) (hS0 : va_S A H0 H locs) (q0 : Nat) {fs : List Value} (he : ws[q0]? = some (a, .inr (ci, fs))) (hc : cl[ci]? = some (C, T, N)) (k : Nat) (hk : k < N) (hlink : (Cond.fieldLink own index ref (T k).2.1 (T k).2.2.1).before args s = true) (hsame : ∀ x, s.fieldFound? (T k).1 (T k).2.1 (T k).2.2.1 = some x → s.fieldFound? ref (T k).2.1 (T k).2.2.1 = some x) (hfin : (T k).2.2.2 = false) {ty : FieldType} {v : Value} (hd : parseFieldDescriptor (T k).2.2.1 = some ty) (hn : narrow ty v = v) (hfit : fits ty v = true) (hl : k < fs.length)
    (hdg : decode cc pc = .ok (.putfield index, 3)) (kk : ∀ (H1 : Heap) (locs1 : List Loc), va_P D cl (ws.set q0 (a, .inr (ci, fs.set k v))) H1 → va_S A H0 H1 locs1 → H1.size = H.size → W p l e R s m args below meth c H1 locs1 cells slots Q (F0 m (pc + 3) ls rest)) : W p l e R s m args below meth c H locs cells slots Q (F0 m pc ls (v :: .ref a :: rest)) := by
  have hap := va_apart (own := own) hts hin ty0 hty hnm hK hc
  obtain ⟨r, h1, cell, q1, q2, q3, q4⟩ := hP q0 _ he
  have hr : r = (C, T, N) := Option.some.inj (h1.symm.trans hc)
  subst hr
  obtain ⟨hS, hfc, kC, hkC, hkind⟩ := hK.1 ci _ hc
  obtain ⟨cf, kf, fi, f, hi, hsl⟩ := hS k hk
  have hlay := hts _ (hin _ (u_in_lay hk))
  unfold u_lay at hlay
  rw [if_neg (by rw [hfin]; decide)] at hlay
  have hst := (u_facts hfc hkC (u_lays hts hin hk) hi).1
  have h6 := u_store hfc hkC hkind hlay hi hd hn hfit
  refine W.putK hexec hb (f := f) ⟨hown, hlink, ⟨_, _, _, hsame _ hi⟩, hst⟩ (by rw [q2]; exact h6) q1 q3 (by rw [hsl]; exact k2_hasslot (q4 k hk)) rfl rfl hdg fun H' e1 e2 e3 => ?_
  rw [hsl] at e1 ⊢
  exact kk H' _ (hP.set hD he ⟨_, hc, t_OB.to (V := updV (vp_V fs) k v) ⟨_, e1, q2, q3, t_set q4 hap hk v⟩ (fun j _ => vp_updV_set hl v j)⟩ e3) (hS0.put e2 e3 (hD.2 q0 _ he)) e2
/-- the types of a class's fields -/
def am_tyOf (q : vw_C) (k : Nat) : FieldType := (parseFieldDescriptor (q.2.1 k).2.2.1).getD .int
/-- a field of numbers may be written -/
def am_PL (own : String) (idx ci k N : Nat) : Prop := ∃ (C : String) (T : u_T), am_cl[ci]? = some (C, T, N) ∧ k < N ∧ Cond.fieldLink own idx (T k).1 (T k).2.1 (T k).2.2.1 ∈ am_W0 ∧ (T k).2.2.2 = false ∧ parseFieldDescriptor (T k).2.2.1 = some .int ∧ ∀ j, j < N → (parseFieldDescriptor (T j).2.2.1).isSome = true
theorem v_putI {m : MInfo} {kc ks pc : Nat} {E st : List AV} {ρ : Rho} {h : Hh} {Q : PQ} {X : PX} {idx ci k0 N a : Nat} {j x : Int} (hd : decode (am_cc m) pc = .ok (.putfield idx, 3)) (hf : am_PL (am_own m) idx ci k0 N) (hcl : ∀ q ∈ am_cl, am_clsOK q) (hr : am_ref ci k0 = false) (hj : ((k0 : Nat) : Int) = j) (hk : ρ.1[a]? = some (10 + ci, N)) (k : am_V m kc ks (pc + 3) E st ρ (am_st h a j x) Q X) : am_V m kc ks pc E (aI x :: aR a :: st) ρ h Q X := by
  intro l p e R s q args below meth c D cA B b g0 g1 Z H locs cells slots ls hC hZ hR hL hS hF hc hs
  subst hj
  obtain ⟨C, T, f1, f2, f3, f4, f5, f6⟩ := hf
  have hx : am_i x := am_StH hS
  have hg := am_w_get (B := B) (cA := cA) (h := h) hk
  rw [am_cellO] at hg
  have hlt := hR.lt hk
  show W p l e R s q args below meth c H locs cells slots Z (F0 q pc ls (.int (Int32.ofInt x) :: .ref (am_ad B b a) :: st.map (am_v B b)))
  rw [am_adL hlt]
  have hcq := hcl _ (List.mem_of_getElem? f1)
  refine am_puts (Ts := am_W0) (ref := (T k0).1) hC.2.1 hC.2.2.1 hC.2.2.2.2.2.2.1 hcq.1 (am_tyOf (C, T, N)) (fun k9 h9 => ?_) hcq.2 hC.2.2.2.2.2.1 hC.2.2.2.2.2.2.2.2.2.2.1 hR.1 am_wD hF a hg f1 k0 f2 (hC.2.2.2.2.2.2.1 _ f3) (fun x hx => hx) f4 f5 rfl rfl (by rw [List.length_map, List.length_range]; exact f2) hd (fun H1 locs1 hP1 hF1 hz => ?_)
  · have := f6 k9 h9
    show _ = some ((parseFieldDescriptor (T k9).2.2.1).getD .int)
    cases hz : parseFieldDescriptor (T k9).2.2.1 with
    | none => rw [hz] at this; cases this
    | some y => rfl
  · have hrg := hR.rg hk
    have h9 : am_cell B cA (10 + ci, N) (ρ.2.1 a) (am_st h a k0 x a) = .inr (ci, ((List.range N).map (fun (k : Nat) => am_fv B ci k (ρ.2.1 a k) (h a k))).set k0 (.int (Int32.ofInt x))) := by
      rw [am_cellO, am_map_set (g := fun (k : Nat) => am_fv B ci k (ρ.2.1 a k) (am_st h a k0 x a k)) f2]
      · show am_fv B ci k0 _ (am_st h a k0 x a k0) = _
        rw [am_st_s]
        simp only [am_fv, hr]
        rfl
      · intro j hj
        show am_fv B ci j _ (am_st h a k0 x a j) = _
        rw [am_st_n (Or.inr (by omega))]
    have hR1 := hR.set hk hP1 hz h9 ⟨fun z => absurd z (by show 10 + ci ≠ 2; omega), fun _ _ i => by
      rw [am_st_f]
      show am_i (if i = (k0 : Int) then x else h a i)
      split
      · exact hx
      · exact hrg.2.1 (by show 10 + ci ≠ 2; omega) (by show 10 + ci ≠ 3; omega) i, fun z => absurd z (by show 10 + ci ≠ 1; omega), fun z => absurd z (by show 10 + ci ≠ 3; omega)⟩
    exact (k l p e R s q args below meth c D cA B b g0 g1 Z H1 locs1 cells slots ls hC hZ hR1 hL (am_StT (am_StT hS)) hF1 hc hs)
theorem am_ix {i : Int} {n : Nat} (h0 : 0 ≤ i) (h1 : i < n) (hi : am_i i) : vp_in (Int32.ofInt i) n ∧ (((Int32.ofInt i).toNatClampNeg : Nat) : Int) = i := by
  refine ⟨am_in h0 h1 hi, ?_⟩
  rw [am_cl0 h0 hi]
  exact Int.toNat_of_nonneg h0
theorem v_iald {m : MInfo} {kc ks pc : Nat} {E st : List AV} {ρ : Rho} {h : Hh} {Q : PQ} {X : PX} {a n : Nat} {i : Int} (hd : decode (am_cc m) pc = .ok (.iaload, 1)) (hk : ρ.1[a]? = some (0, n)) (h0 : 0 ≤ i) (h1 : i < n) (k : am_V m kc ks (pc + 1) E (aI (h a i) :: st) ρ h Q X) : am_V m kc ks pc E (aI i :: aR a :: st) ρ h Q X := by
  intro l p e R s q args below meth c D cA B b g0 g1 Z H locs cells slots ls hC hZ hR hL hS hF hc hs
  have hi : am_i i := am_StH hS
  obtain ⟨e1, e2⟩ := am_ix h0 h1 hi
  have hrg := hR.rg hk
  show W p l e R s q args below meth c H locs cells slots Z (F0 q pc ls (.int (Int32.ofInt i) :: .ref (am_ad B b a) :: st.map (am_v B b)))
  rw [am_adL (hR.lt hk)]
  refine va_iald hC.2.1 hC.2.2.1 hC.2.2.2.2.2.2.2.2.2.2.1 hR.1 a 0 (am_w_get hk) rfl e1 hd ?_
  show W p l e R s q args below meth c H locs cells slots Z (F0 q (pc + 1) ls (.int (Int32.ofInt (h a (((Int32.ofInt i).toNatClampNeg : Nat) : Int))) :: st.map (am_v B b)))
  rw [e2]
  exact (k l p e R s q args below meth c D cA B b g0 g1 Z H locs cells slots ls hC hZ hR hL (am_StC (hrg.2.1 (by simp) (by simp) i) (am_StT (am_StT hS))) hF hc hs)
theorem v_cald {m : MInfo} {kc ks pc : Nat} {E st : List AV} {ρ : Rho} {h : Hh} {Q : PQ} {X : PX} {a n : Nat} {i : Int} (hd : decode (am_cc m) pc = .ok (.caload, 1)) (hk : ρ.1[a]? = some (1, n)) (h0 : 0 ≤ i) (h1 : i < n) (k : am_V m kc ks (pc + 1) E (aI (h a i) :: st) ρ h Q X) : am_V m kc ks pc E (aI i :: aR a :: st) ρ h Q X := by
  intro l p e R s q args below meth c D cA B b g0 g1 Z H locs cells slots ls hC hZ hR hL hS hF hc hs
  have hi : am_i i := am_StH hS
  obtain ⟨e1, e2⟩ := am_ix h0 h1 hi
  have hrg := hR.rg hk
  show W p l e R s q args below meth c H locs cells slots Z (F0 q pc ls (.int (Int32.ofInt i) :: .ref (am_ad B b a) :: st.map (am_v B b)))
  rw [am_adL (hR.lt hk)]
  refine va_cald hC.2.1 hC.2.2.1 hC.2.2.2.2.2.2.2.2.2.2.1 hR.1 a 1 (am_w_get hk) rfl e1 hd ?_
  show W p l e R s q args below meth c H locs cells slots Z (F0 q (pc + 1) ls (.int (Int32.ofInt (h a (((Int32.ofInt i).toNatClampNeg : Nat) : Int))) :: st.map (am_v B b)))
  rw [e2]
  exact (k l p e R s q args below meth c D cA B b g0 g1 Z H locs cells slots ls hC hZ hR hL (am_StC (hrg.2.1 (by simp) (by simp) i) (am_StT (am_StT hS))) hF hc hs)
theorem v_cald2 {m : MInfo} {kc ks pc : Nat} {E st : List AV} {ρ : Rho} {h : Hh} {Q : PQ} {X : PX} {a n : Nat} {i : Int} (hd : decode (am_cc m) pc = .ok (.caload, 1)) (hk : ρ.1[a]? = some (1, n)) (h0 : 0 ≤ i) (h1 : i < n) (k : 0 ≤ h a i → h a i < 65536 → am_V m kc ks (pc + 1) E (aI (h a i) :: st) ρ h Q X) : am_V m kc ks pc E (aI i :: aR a :: st) ρ h Q X := by
  intro l p e R s q args below meth c D cA B b g0 g1 Z H locs cells slots ls hC hZ hR hL hS hF hc hs
  have hrg := (hR.rg hk).2.2.1 rfl i
  exact v_cald hd hk h0 h1 (k hrg.1 hrg.2) l p e R s q args below meth c D cA B b g0 g1 Z H locs cells slots ls hC hZ hR hL hS hF hc hs
theorem v_aaldT {m : MInfo} {kc ks pc : Nat} {E st : List AV} {ρ : Rho} {h : Hh} {Q : PQ} {X : PX} {a n x : Nat} {i : Int} (hd : decode (am_cc m) pc = .ok (.aaload, 1)) (hk : ρ.1[a]? = some (4, n)) (h0 : 0 ≤ i) (h1 : i < n) (hx : ρ.2.1 a i = some x) (k : am_V m kc ks (pc + 1) E (aR x :: st) ρ h Q X) : am_V m kc ks pc E (aI i :: aR a :: st) ρ h Q X := by
  intro l p e R s q args below meth c D cA B b g0 g1 Z H locs cells slots ls hC hZ hR hL hS hF hc hs
  have hi : am_i i := am_StH hS
  obtain ⟨e1, e2⟩ := am_ix h0 h1 hi
  have hx9 := hR.2.2.2.1 _ _ _ hx
  show W p l e R s q args below meth c H locs cells slots Z (F0 q pc ls (.int (Int32.ofInt i) :: .ref (am_ad B b a) :: st.map (am_v B b)))
  rw [am_adL (hR.lt hk)]
  have ha := am_w_get (B := B) (cA := cA) (h := h) hk
  have hlt : (Int32.ofInt i).toNatClampNeg < n := Nat.not_le.mp fun z => e1 (Or.inr z)
  have hP9 : H[B + a]? = some (vp_cell (cA 4) (n, .inr (.inr (.inr (.inr (fun (i : Nat) => (ρ.2.1 a i).map (B + ·))))))) := hR.1 a _ ha
  refine W.aald (v := va_rf ((ρ.2.1 a ((Int32.ofInt i).toNatClampNeg : Nat)).map (B + ·))) (ty := .object RX6) hC.2.1 hC.2.2.1 hP9 ((hC.2.2.2.2.2.2.2.2.2.2.1.2 4 _ rfl).1 n _) rfl (fun z => by cases z) (by show ¬ (_ < _ ∨ (arrV _ _ _).slots.size ≤ _); rw [arrV_size]; exact e1) (by show (arrV _ _ _).slots[_]? = _; rw [arrV_read _ _ hlt]) rfl rfl hd ?_
  rw [e2, hx]
  have k9 := (k l p e R s q args below meth c D cA B b g0 g1 Z H locs cells slots ls hC hZ hR hL (am_StC (v := aR x) trivial (am_StT (am_StT hS))) hF hc hs)
  have e9 : am_v B b (aR x) = .ref (B + x) := by show Value.ref (am_ad B b x) = _; rw [am_adL hx9]
  rw [List.map_cons, e9] at k9
  exact k9
theorem v_aaldI {m : MInfo} {kc ks pc : Nat} {E st : List AV} {ρ : Rho} {h : Hh} {Q : PQ} {X : PX} {a n x : Nat} {i : Int} (hd : decode (am_cc m) pc = .ok (.aaload, 1)) (hk : ρ.1[a]? = some (5, n)) (h0 : 0 ≤ i) (h1 : i < n) (hx : ρ.2.1 a i = some x) (k : am_V m kc ks (pc + 1) E (aR x :: st) ρ h Q X) : am_V m kc ks pc E (aI i :: aR a :: st) ρ h Q X := by
  intro l p e R s q args below meth c D cA B b g0 g1 Z H locs cells slots ls hC hZ hR hL hS hF hc hs
  have hi : am_i i := am_StH hS
  obtain ⟨e1, e2⟩ := am_ix h0 h1 hi
  have hx9 := hR.2.2.2.1 _ _ _ hx
  show W p l e R s q args below meth c H locs cells slots Z (F0 q pc ls (.int (Int32.ofInt i) :: .ref (am_ad B b a) :: st.map (am_v B b)))
  rw [am_adL (hR.lt hk)]
  have ha := am_w_get (B := B) (cA := cA) (h := h) hk
  have hlt : (Int32.ofInt i).toNatClampNeg < n := Nat.not_le.mp fun z => e1 (Or.inr z)
  have hP9 : H[B + a]? = some (vp_cell (cA 5) (n, .inr (.inr (.inr (.inr (fun (i : Nat) => (ρ.2.1 a i).map (B + ·))))))) := hR.1 a _ ha
  refine W.aald (v := va_rf ((ρ.2.1 a ((Int32.ofInt i).toNatClampNeg : Nat)).map (B + ·))) (ty := .array .int) hC.2.1 hC.2.2.1 hP9 ((hC.2.2.2.2.2.2.2.2.2.2.1.2 5 _ rfl).1 n _) rfl (fun z => by cases z) (by show ¬ (_ < _ ∨ (arrV _ _ _).slots.size ≤ _); rw [arrV_size]; exact e1) (by show (arrV _ _ _).slots[_]? = _; rw [arrV_read _ _ hlt]) rfl rfl hd ?_
  rw [e2, hx]
  have k9 := (k l p e R s q args below meth c D cA B b g0 g1 Z H locs cells slots ls hC hZ hR hL (am_StC (v := aR x) trivial (am_StT (am_StT hS))) hF hc hs)
  have e9 : am_v B b (aR x) = .ref (B + x) := by show Value.ref (am_ad B b x) = _; rw [am_adL hx9]
  rw [List.map_cons, e9] at k9
  exact k9
theorem v_iast {m : MInfo} {kc ks pc : Nat} {E st : List AV} {ρ : Rho} {h : Hh} {Q : PQ} {X : PX} {a n : Nat} {i : Int} {x : Int} (hd : decode (am_cc m) pc = .ok (.iastore, 1)) (hk : ρ.1[a]? = some (0, n)) (h0 : 0 ≤ i) (h1 : i < n) (k : am_V m kc ks (pc + 1) E st ρ (am_st h a i x) Q X) : am_V m kc ks pc E (aI x :: aI i :: aR a :: st) ρ h Q X := by
  intro l p e R s q args below meth c D cA B b g0 g1 Z H locs cells slots ls hC hZ hR hL hS hF hc hs
  have hi : am_i i := am_StH (am_StT hS)
  have hx : am_ok (aI x) := am_StH hS
  obtain ⟨e1, e2⟩ := am_ix h0 h1 hi
  have hrg := hR.rg hk
  show W p l e R s q args below meth c H locs cells slots Z (F0 q pc ls (.int (Int32.ofInt x) :: .int (Int32.ofInt i) :: .ref (am_ad B b a) :: st.map (am_v B b)))
  rw [am_adL (hR.lt hk)]
  have ha := am_w_get (B := B) (cA := cA) (h := h) hk
  refine W.iast hC.2.1 hC.2.2.1 (hR.1 a _ ha) ((hC.2.2.2.2.2.2.2.2.2.2.1.2 0 _ rfl).1 n (fun (j : Nat) => .int (Int32.ofInt (h a j)))) (fun z => by cases z) (by show ¬ (_ < _ ∨ (arrV _ _ _).slots.size ≤ _); rw [arrV_size]; exact e1) rfl rfl hd fun H1 e3 z oq => ?_
  have hfun : (fun (j : Nat) => Int32.ofInt (if ((j : Nat) : Int) = i then x else h a j)) = (fun (j : Nat) => (if j = (Int32.ofInt i).toNatClampNeg then Int32.ofInt x else Int32.ofInt (h a j))) := by
    funext j
    by_cases z9 : j = (Int32.ofInt i).toNatClampNeg
    · subst z9
      simp [e2]
    · have : ¬ ((j : Nat) : Int) = i := fun z8 => z9 (by omega)
      simp [z9, this]
  have hcell : am_cell B cA (0, n) (ρ.2.1 a) (am_st h a i x a) = .inl (cA 0, n, .inl (fun j => if j = (Int32.ofInt i).toNatClampNeg then Int32.ofInt x else Int32.ofInt (h a j))) := by
    rw [am_st_f]
    exact congrArg (fun (f : Nat → _) => (Sum.inl (cA 0, n, .inl f) : va_E)) hfun
  have hP1 : va_P D am_cl ((am_w B cA ρ h).set a (B + a, am_cell B cA (0, n) (ρ.2.1 a) (am_st h a i x a))) H1 := by
    refine hR.1.set am_wD ha ?_ oq
    rw [hcell]
    show H1[B + a]? = some (vp_cell _ _)
    rw [e3]
    refine congrArg some ?_
    refine (arrV_store (cA 0) n _ (fun (j : Nat) => .int (Int32.ofInt (h a j))) _).trans ?_
    show arrV (cA 0) n _ = arrV (cA 0) n (fun (j : Nat) => .int (if j = (Int32.ofInt i).toNatClampNeg then Int32.ofInt x else Int32.ofInt (h a j)))
    refine congrArg (arrV (cA 0) n) (funext fun j => ?_)
    show ((if j = (Int32.ofInt i).toNatClampNeg then .int (Int32.ofInt x) else .int (Int32.ofInt (h a j))) : Value) = _
    by_cases z9 : j = (Int32.ofInt i).toNatClampNeg <;> simp [z9]
  have hR1 := hR.set hk hP1 z rfl (by rw [am_st_f]; exact ⟨fun z8 => absurd z8 (by simp), fun _ _ i9 => by show am_i (if i9 = i then x else h a i9); split; exact hx; exact hrg.2.1 (by simp) (by simp) i9, fun z8 => absurd z8 (by simp), fun z8 => absurd z8 (by simp)⟩)
  exact (k l p e R s q args below meth c D cA B b g0 g1 Z H1 _ cells slots ls hC hZ hR1 hL (am_StT (am_StT (am_StT hS))) (hF.put z oq (Nat.le_add_right B a)) hc hs)
theorem am_nar {x : Int} : vp_nar .char (Int32.ofInt x) = Int32.ofInt (x % 65536) := by
  rw [vp_nar_char]
  have := am_char (x := x)
  rw [← this]
  congr 1
theorem v_cast {m : MInfo} {kc ks pc : Nat} {E st : List AV} {ρ : Rho} {h : Hh} {Q : PQ} {X : PX} {a n : Nat} {i : Int} {x : Int} (hd : decode (am_cc m) pc = .ok (.castore, 1)) (hk : ρ.1[a]? = some (1, n)) (h0 : 0 ≤ i) (h1 : i < n) (k : am_V m kc ks (pc + 1) E st ρ (am_st h a i (x % 65536)) Q X) : am_V m kc ks pc E (aI x :: aI i :: aR a :: st) ρ h Q X := by
  intro l p e R s q args below meth c D cA B b g0 g1 Z H locs cells slots ls hC hZ hR hL hS hF hc hs
  have hi : am_i i := am_StH (am_StT hS)
  have hx : am_ok (aI x) := am_StH hS
  obtain ⟨e1, e2⟩ := am_ix h0 h1 hi
  have hrg := hR.rg hk
  show W p l e R s q args below meth c H locs cells slots Z (F0 q pc ls (.int (Int32.ofInt x) :: .int (Int32.ofInt i) :: .ref (am_ad B b a) :: st.map (am_v B b)))
  rw [am_adL (hR.lt hk)]
  have ha := am_w_get (B := B) (cA := cA) (h := h) hk
  refine W.cast hC.2.1 hC.2.2.1 (hR.1 a _ ha) ((hC.2.2.2.2.2.2.2.2.2.2.1.2 1 _ rfl).1 n (fun (j : Nat) => .int (Int32.ofInt (h a j)))) (fun z => by cases z) (by show ¬ (_ < _ ∨ (arrV _ _ _).slots.size ≤ _); rw [arrV_size]; exact e1) rfl rfl hd fun H1 e3 z oq => ?_
  have hfun : (fun (j : Nat) => Int32.ofInt (if ((j : Nat) : Int) = i then x % 65536 else h a j)) = (fun (j : Nat) => (if j = (Int32.ofInt i).toNatClampNeg then Int32.ofInt (x % 65536) else Int32.ofInt (h a j))) := by
    funext j
    by_cases z9 : j = (Int32.ofInt i).toNatClampNeg
    · subst z9
      simp [e2]
    · have : ¬ ((j : Nat) : Int) = i := fun z8 => z9 (by omega)
      simp [z9, this]
  have hcell : am_cell B cA (1, n) (ρ.2.1 a) (am_st h a i (x % 65536) a) = .inl (cA 1, n, .inl (fun j => if j = (Int32.ofInt i).toNatClampNeg then Int32.ofInt (x % 65536) else Int32.ofInt (h a j))) := by
    rw [am_st_f]
    exact congrArg (fun (f : Nat → _) => (Sum.inl (cA 1, n, .inl f) : va_E)) hfun
  have hP1 : va_P D am_cl ((am_w B cA ρ h).set a (B + a, am_cell B cA (1, n) (ρ.2.1 a) (am_st h a i (x % 65536) a))) H1 := by
    refine hR.1.set am_wD ha ?_ oq
    rw [hcell]
    show H1[B + a]? = some (vp_cell _ _)
    rw [e3]
    refine congrArg some ?_
    refine (arrV_store (cA 1) n _ (fun (j : Nat) => .int (Int32.ofInt (h a j))) _).trans ?_
    show arrV (cA 1) n _ = arrV (cA 1) n (fun (j : Nat) => .int (if j = (Int32.ofInt i).toNatClampNeg then Int32.ofInt (x % 65536) else Int32.ofInt (h a j)))
    refine congrArg (arrV (cA 1) n) (funext fun j => ?_)
    show ((if j = (Int32.ofInt i).toNatClampNeg then narrow .char (.int (Int32.ofInt x)) else .int (Int32.ofInt (h a j))) : Value) = _
    by_cases z9 : j = (Int32.ofInt i).toNatClampNeg <;> simp [z9, show narrow .char (.int (Int32.ofInt x)) = .int (Int32.ofInt (x % 65536)) from congrArg Value.int am_nar]
  have hR1 := hR.set hk hP1 z rfl (by rw [am_st_f]; exact ⟨fun z8 => absurd z8 (by simp), fun _ _ i9 => by show am_i (if i9 = i then x % 65536 else h a i9); split; exact ⟨by omega, by omega⟩; exact hrg.2.1 (by simp) (by simp) i9, fun _ i9 => by show 0 ≤ (if i9 = i then x % 65536 else h a i9) ∧ (if i9 = i then x % 65536 else h a i9) < 65536; split; exact ⟨by omega, by omega⟩; exact hrg.2.2.1 rfl i9, fun z8 => absurd z8 (by simp)⟩)
  exact (k l p e R s q args below meth c D cA B b g0 g1 Z H1 _ cells slots ls hC hZ hR1 hL (am_StT (am_StT (am_StT hS))) (hF.put z oq (Nat.le_add_right B a)) hc hs)
theorem v_alen {m : MInfo} {kc ks pc : Nat} {E st : List AV} {ρ : Rho} {h : Hh} {Q : PQ} {X : PX} {a n tag : Nat} {N : Int} (hd : decode (am_cc m) pc = .ok (.arraylength, 1)) (hk : ρ.1[a]? = some (tag, n)) (ht : tag < 6) (hn : ((n : Nat) : Int) = N) (hN : am_i N) (k : am_V m kc ks (pc + 1) E (aI N :: st) ρ h Q X) : am_V m kc ks pc E (aR a :: st) ρ h Q X := by
  intro l p e R s q args below meth c D cA B b g0 g1 Z H locs cells slots ls hC hZ hR hL hS hF hc hs
  subst hn
  show W p l e R s q args below meth c H locs cells slots Z (F0 q pc ls (.ref (am_ad B b a) :: st.map (am_v B b)))
  rw [am_adL (hR.lt hk)]
  have ha := am_w_get (B := B) (cA := cA) (h := h) hk
  have key : ∃ x : vp_A, am_cell B cA (tag, n) (ρ.2.1 a) (h a) = .inl (cA tag, x) ∧ x.1 = n ∧ ∃ ty, (am_tys cA)[tag]? = some (cA tag, ty) := by
    match tag, ht with
    | 0, _ => exact ⟨_, rfl, rfl, _, rfl⟩
    | 1, _ => exact ⟨_, rfl, rfl, _, rfl⟩
    | 2, _ => exact ⟨_, rfl, rfl, _, rfl⟩
    | 3, _ => exact ⟨_, rfl, rfl, _, rfl⟩
    | 4, _ => exact ⟨_, rfl, rfl, _, rfl⟩
    | 5, _ => exact ⟨_, rfl, rfl, _, rfl⟩
  obtain ⟨x, x1, x2, ty, x3⟩ := key
  rw [x1] at ha
  refine va_alen hC.2.1 hC.2.2.1 hC.2.2.2.2.2.2.2.2.2.2.1 hR.1 a tag ha x3 (v := Int32.ofInt n) (by rw [x2]; exact am_asI (by rw [Int32.toInt_ofNat']; exact am_bmI hN)) hd ?_
  exact (k l p e R s q args below meth c D cA B b g0 g1 Z H locs cells slots ls hC hZ hR hL (am_StC (v := aI n) hN (am_StT hS)) hF hc hs)
