/-! CELLS THAT ARE MADE, in order, while nothing else was made behind the world -/
theorem am_w_app {B : Nat} {cA : Nat → ClassId} {ρ : Rho} {h : Hh} {kd : Nat × Nat} : am_w B cA (ρ.1 ++ [kd], ρ.2.1, true) h = am_w B cA ρ h ++ [(B + ρ.1.length, am_cell B cA kd (ρ.2.1 ρ.1.length) (h ρ.1.length))] := by
  unfold am_w
  rw [List.mapIdx_append]
  simp
theorem am_HR.ext {D : va_G} {cA : Nat → ClassId} {B : Nat} {g0 g1 : Int → Int} {ρ : Rho} {h : Hh} {H H1 : Heap} {kd : Nat × Nat} (hR : am_HR D cA B g0 g1 ρ h H) (hl : ρ.1.length < 1000) (hd : ρ.2.2 = true) (z1 : H1.size = H.size + 1) (o1 : ∀ q, q < H.size → H1[q]? = H[q]?) (hn : va_at D am_cl (H.size, am_cell B cA kd (ρ.2.1 ρ.1.length) (h ρ.1.length)) H1) (hg : am_rg kd (h ρ.1.length)) : am_HR D cA B g0 g1 (ρ.1 ++ [kd], ρ.2.1, true) h H1 := by
  obtain ⟨h1, h2, h3, h4, h5, h6, h7⟩ := id hR
  have e := h2 hd
  refine ⟨?_, fun _ => ?_, ?_, h4, fun a kd' hk' => ?_, h6, h7⟩
  · rw [am_w_app]
    refine (va_P.kept h1 (fun k x hx => o1 x.1 ((h1 k x hx).lt))).app (fun k x hx => ?_)
    have hz : k < 1 := (List.getElem?_eq_some_iff.mp hx).1
    rw [show k = 0 by omega] at hx
    cases hx
    rw [← e]
    exact hn
  · show H1.size = B + (ρ.1 ++ [kd]).length
    rw [z1, e, List.length_append, List.length_singleton, Nat.add_assoc]
  · show (ρ.1 ++ [kd]).length ≤ 1000
    rw [List.length_append, List.length_singleton]
    exact hl
  · by_cases q : a < ρ.1.length
    · rw [List.getElem?_append_left q] at hk'
      exact h5 a kd' hk'
    · rw [List.getElem?_append_right (by omega)] at hk'
      have hz : a - ρ.1.length < 1 := (List.getElem?_eq_some_iff.mp hk').1
      rw [show a - ρ.1.length = 0 by omega] at hk'
      cases hk'
      rw [show a = ρ.1.length by omega]
      exact hg
theorem am_S_ext {A : Nat → Prop} {H0 H H1 : Heap} {locs : List Loc} {k : Nat} (h : va_S A H0 H locs) (z1 : H1.size = H.size + k) (o1 : ∀ q, q < H.size → H1[q]? = H[q]?) : va_S A H0 H1 locs := ⟨Nat.le_trans h.1 (by omega), fun x h1 h2 => (o1 x (Nat.lt_of_lt_of_le h1 h.1)).trans (h.2.1 x h1 h2), h.2.2⟩
theorem am_rg0 {kd : Nat × Nat} {g : Int → Int} (hz : ∀ i, g i = 0) : am_rg kd g := ⟨fun _ i => by rw [hz]; exact ⟨by decide, by decide⟩, fun _ _ i => by rw [hz]; exact am_i0, fun _ i => by rw [hz]; exact ⟨by decide, by decide⟩, fun _ i => by rw [hz]; exact ⟨by decide, by decide⟩⟩
theorem v_newa {m : MInfo} {kc ks pc : Nat} {E st : List AV} {ρ : Rho} {h : Hh} {Q : PQ} {X : PX} {aty : ArrayType} (t N : Nat) {x : Int} (hd : decode (am_cc m) pc = .ok (.newarray aty, 2)) (harr : Cond.arrayClass (newarray.typeOf aty) ∈ am_W0) (hT : ∀ cA : Nat → ClassId, (am_tys cA)[t]? = some (cA t, newarray.typeOf aty)) (hRA : ∀ (U : State) (c : ClassId), va_RA U c (newarray.typeOf aty) → U.vm.findClass ("[" ++ (newarray.typeOf aty).toString) = some c)
    (hC : ∀ (B : Nat) (cA : Nat → ClassId) (r : Int → Option Nat) (g : Int → Int), (∀ i, g i = 0) → ∃ a0, am_cell B cA (t, N) r g = .inl (cA t, a0) ∧ vp_cell (cA t) a0 = arrV (cA t) N (fun _ => defaultValue (newarray.typeOf aty))) (hx : x = (N : Int)) (hN : N ≤ 3000) (hb : N * componentBytes (newarray.typeOf aty) ≤ 536870912) (hdn : ρ.2.2 = true) (hl : ρ.1.length < 1000) (hz : ∀ i, h ρ.1.length i = 0) (hkc : 1 ≤ kc) (hks : N ≤ ks)
    (k : am_V m (kc - 1) (ks - N) (pc + 2) E (aR ρ.1.length :: st) (ρ.1 ++ [(t, N)], ρ.2.1, true) h Q X) : am_V m kc ks pc E (aI x :: st) ρ h Q X := by
  intro l p e R s q args below meth c D cA B b g0 g1 Z H locs cells slots ls hC9 hZ hR hL hS hF hc hs
  subst hx
  have hi : am_i (N : Int) := ⟨by omega, by omega⟩
  show W p l e R s q args below meth c H locs cells slots Z (F0 q pc ls (.int (Int32.ofInt (N : Int)) :: st.map (am_v B b)))
  refine va_newaK (N := N) hC9.2.1 hC9.2.2.1 (hC9.2.2.2.2.2.2.1 _ harr) rfl hd rfl ?_ ?_ hb (by omega) (by omega) rfl fun H1 cA1 e1 z1 o1 hAr hNm => ?_
  · rw [show (0 : Int32) = Int32.ofInt 0 from rfl, am_ltI hi am_i0]
    omega
  · rw [am_cl0 (by omega) hi, Int.toNat_natCast]
  · have hcA : cA1 = cA t := Option.some.inj (hNm.symm.trans (hRA _ _ (hC9.2.2.2.2.2.2.2.2.2.2.1.2 t _ (hT cA)).2))
    subst hcA
    obtain ⟨a0, y1, y2⟩ := hC B cA (ρ.2.1 ρ.1.length) (h ρ.1.length) hz
    have hR1 : am_HR D cA B g0 g1 (ρ.1 ++ [(t, N)], ρ.2.1, true) h H1 := hR.ext hl hdn z1 o1 (by
      rw [y1]
      show H1[H.size]? = some (vp_cell (cA t) a0)
      rw [y2]
      exact e1) (am_rg0 hz)
    have := k l p e R s q args below meth c D cA B b g0 g1 Z H1 locs (cells + 1) (slots + N) ls hC9 hZ hR1 hL (am_StC trivial (am_StT hS)) (am_S_ext hF z1 o1) (by omega) (by omega)
    rw [List.map_cons] at this
    rw [hR.2.1 hdn]
    rw [show am_v B b (aR ρ.1.length) = .ref (B + ρ.1.length) from congrArg Value.ref (am_adL hl)] at this
    exact this
theorem am_cN0 {N B : Nat} {cA : Nat → ClassId} {r : Int → Option Nat} {g : Int → Int} (hz : ∀ i, g i = 0) : ∃ a0, am_cell B cA (0, N) r g = .inl (cA 0, a0) ∧ vp_cell (cA 0) a0 = arrV (cA 0) N (fun _ => defaultValue .int) := ⟨(N, .inl (fun i => Int32.ofInt (g i))), rfl, by rw [vp_cell_i]; congr 1; funext j; rw [hz]; rfl⟩
theorem am_cN1 {N B : Nat} {cA : Nat → ClassId} {r : Int → Option Nat} {g : Int → Int} (hz : ∀ i, g i = 0) : ∃ a0, am_cell B cA (1, N) r g = .inl (cA 1, a0) ∧ vp_cell (cA 1) a0 = arrV (cA 1) N (fun _ => defaultValue .char) := ⟨(N, .inl (fun i => Int32.ofInt (g i))), rfl, by rw [vp_cell_i]; congr 1; funext j; rw [hz]; rfl⟩
theorem v_newI {m : MInfo} {kc ks pc : Nat} {E st : List AV} {ρ : Rho} {h : Hh} {Q : PQ} {X : PX} (N : Nat) {x : Int} (hd : decode (am_cc m) pc = .ok (.newarray .int, 2)) (harr : Cond.arrayClass .int ∈ am_W0) (hx : x = (N : Int)) (hN : N ≤ 3000) (hdn : ρ.2.2 = true) (hl : ρ.1.length < 1000) (hz : ∀ i, h ρ.1.length i = 0) (hkc : 1 ≤ kc) (hks : N ≤ ks)
    (k : am_V m (kc - 1) (ks - N) (pc + 2) E (aR ρ.1.length :: st) (ρ.1 ++ [(0, N)], ρ.2.1, true) h Q X) : am_V m kc ks pc E (aI x :: st) ρ h Q X :=
  v_newa 0 N hd harr (fun _ => rfl) (fun _ _ h => h) (fun _ _ _ _ z => am_cN0 z) hx hN (by show N * 4 ≤ _; omega) hdn hl hz hkc hks k
theorem v_newC {m : MInfo} {kc ks pc : Nat} {E st : List AV} {ρ : Rho} {h : Hh} {Q : PQ} {X : PX} (N : Nat) {x : Int} (hd : decode (am_cc m) pc = .ok (.newarray .char, 2)) (harr : Cond.arrayClass .char ∈ am_W0) (hx : x = (N : Int)) (hN : N ≤ 3000) (hdn : ρ.2.2 = true) (hl : ρ.1.length < 1000) (hz : ∀ i, h ρ.1.length i = 0) (hkc : 1 ≤ kc) (hks : N ≤ ks)
    (k : am_V m (kc - 1) (ks - N) (pc + 2) E (aR ρ.1.length :: st) (ρ.1 ++ [(1, N)], ρ.2.1, true) h Q X) : am_V m kc ks pc E (aI x :: st) ρ h Q X :=
  v_newa 1 N hd harr (fun _ => rfl) (fun _ _ h => h) (fun _ _ _ _ z => am_cN1 z) hx hN (by show N * 2 ≤ _; omega) hdn hl hz hkc hks k
/-- an object of a class of the world -/
def am_NW (own : String) (idx ci N : Nat) : Prop := ∃ (C : String) (T : u_T), am_cl[ci]? = some (C, T, N) ∧ Cond.classLink own idx C ∈ am_W0 ∧ Cond.instantiable C N ∈ am_W0 ∧ Cond.initialized C ∈ am_W0 ∧ ∀ j, j < N → ∃ ty, parseFieldDescriptor (T j).2.2.1 = some ty ∧ defaultValue ty = (if am_ref ci j = true then Value.null else .int 0)
theorem v_new {m : MInfo} {kc ks pc : Nat} {E st : List AV} {ρ : Rho} {h : Hh} {Q : PQ} {X : PX} {idx ci N : Nat} (hd : decode (am_cc m) pc = .ok (.new idx, 3)) (hcl : ∀ q ∈ am_cl, am_clsOK q) (hnw : am_NW (am_own m) idx ci N) (hdn : ρ.2.2 = true) (hl : ρ.1.length < 1000) (hz : ∀ i, h ρ.1.length i = 0) (hr : ∀ i, ρ.2.1 ρ.1.length i = none) (hkc : 1 ≤ kc) (hks : N ≤ ks)
    (k : am_V m (kc - 1) (ks - N) (pc + 3) E (aR ρ.1.length :: st) (ρ.1 ++ [(10 + ci, N)], ρ.2.1, true) h Q X) : am_V m kc ks pc E st ρ h Q X := by
  intro l p e R s q args below meth c D cA B b g0 g1 Z H locs cells slots ls hC9 hZ hR hL hS hF hc hs
  obtain ⟨C, T, f1, f2, f3, f4, f5⟩ := hnw
  have hw := hC9.2.2.2.2.2.2.1
  have hK := hC9.2.2.2.2.2.2.2.2.2.2.1
  have hKn := hK.1 ci _ f1
  have hcq := hcl _ (List.mem_of_getElem? f1)
  refine W.newcK hC9.2.1 hC9.2.2.1 hC9.2.2.2.2.2.1 (hw _ f2) (hw _ f3) (hw _ f4) rfl hd (by omega) (by omega) hKn.2.1 rfl fun H1 kC hkC e1 z1 o1 => ?_
  have hR1 : am_HR D cA B g0 g1 (ρ.1 ++ [(10 + ci, N)], ρ.2.1, true) h H1 := hR.ext hl hdn z1 o1 (by
    rw [am_cellO]
    refine ⟨_, f1, (u_born (am_tyOf (C, T, N)) hw hcq.1 hKn hkC e1 (fun j hj => ?_)).to (fun j hj => ?_)⟩
    · obtain ⟨ty, g1, g2⟩ := f5 j hj
      show _ = some ((parseFieldDescriptor (T j).2.2.1).getD .int)
      rw [g1]
      rfl
    · obtain ⟨ty, g1, g2⟩ := f5 j hj
      show defaultValue ((parseFieldDescriptor (T j).2.2.1).getD .int) = _
      rw [g1]
      show defaultValue ty = _
      rw [g2]
      unfold vp_V
      rw [List.getD_eq_getElem?_getD, List.getElem?_map, List.getElem?_range hj]
      show _ = am_fv B ci j (ρ.2.1 ρ.1.length j) (h ρ.1.length j)
      rw [hr, hz]
      unfold am_fv
      split <;> rfl) (am_rg0 hz)
  have := k l p e R s q args below meth c D cA B b g0 g1 Z H1 locs (cells + 1) (slots + N) ls hC9 hZ hR1 hL (am_StC trivial hS) (am_S_ext hF z1 o1) (by omega) (by omega)
  rw [List.map_cons] at this
  rw [hR.2.1 hdn]
  rw [show am_v B b (aR ρ.1.length) = .ref (B + ρ.1.length) from congrArg Value.ref (am_adL hl)] at this
  exact this

def am_sr (r : Nat → Int → Option Nat) (a : Nat) (j : Int) (x : Nat) : Nat → Int → Option Nat := fun b i => if b = a ∧ i = j then some x else r b i
theorem am_sr_o {r : Nat → Int → Option Nat} {a b x : Nat} {j : Int} (hn : b ≠ a) : am_sr r a j x b = r b := funext fun i => if_neg fun z => hn z.1
theorem am_sr_s {r : Nat → Int → Option Nat} {a x : Nat} {j : Int} : am_sr r a j x a j = some x := if_pos ⟨rfl, rfl⟩
theorem am_sr_n {r : Nat → Int → Option Nat} {a b x : Nat} {j i : Int} (hn : b ≠ a ∨ i ≠ j) : am_sr r a j x b i = r b i := if_neg fun z => hn.elim (fun y => y z.1) (fun y => y z.2)
theorem am_HR.setR {D : va_G} {cA : Nat → ClassId} {B a x : Nat} {g0 g1 : Int → Int} {ρ : Rho} {h : Hh} {H H1 : Heap} {kd : Nat × Nat} {j : Int} {e : va_E} (hR : am_HR D cA B g0 g1 ρ h H) (hk : ρ.1[a]? = some kd) (hx : x < 1000) (hP : va_P D am_cl ((am_w B cA ρ h).set a (B + a, e)) H1) (hz : H1.size = H.size) (he : am_cell B cA kd (am_sr ρ.2.1 a j x a) (h a) = e) : am_HR D cA B g0 g1 (ρ.1, am_sr ρ.2.1 a j x, ρ.2.2) h H1 := by
  obtain ⟨h1, h2, h3, h4, h5, h6, h7⟩ := id hR
  rw [am_w_set (ρ' := (ρ.1, am_sr ρ.2.1 a j x, ρ.2.2)) (h' := h) hk rfl he (fun a' hn => ⟨rfl, am_sr_o hn⟩)] at hP
  refine ⟨hP, fun z => by rw [hz]; exact h2 z, h3, fun a' i y hy => ?_, h5, h6, h7⟩
  change am_sr ρ.2.1 a j x a' i = some y at hy
  unfold am_sr at hy
  split at hy
  · cases hy
    exact hx
  · exact h4 a' i y hy
theorem am_putsF {p : Program} {l : Launch} {e : Env} {R : Room} {s : State} {m : MethodId} {args : Array Value} {below : List Frame} {meth : Method} {c : Code} {H : Heap} {locs : List Loc} {cells slots : Nat} {Q : State → Prop} {cc : ByteArray} {pc : Nat} {ls : Array Slot} {rest : List Value} {D : va_G} {cl : List vw_C} {A : Nat → Prop} {a : Nat} {tys : List (ClassId × FieldType)} {ws : va_W} {H0 : Heap} (hexec : p.tables.exec = Jvm.exec) (hb : c.code = cc) {own ref C : String} {T : u_T} {N ci index : Nat} {Ts : List Cond} (hts : ∀ w ∈ Ts, w.before args s = true) (hin : ∀ w ∈ u_ws C T N, w ∈ Ts) (ty0 : Nat → FieldType) (hty : ∀ k, k < N → parseFieldDescriptor (T k).2.2.1 = some (ty0 k)) (hnm : ∀ a, a < N → ∀ b, b < N → a ≠ b → (T a).2.1 ≠ (T b).2.1) (hown : s.vm.findClass own = some m.cls) (hK : va_K D cl tys s) (hP : va_P D cl ws H) (hD : va_D A ws) (hS0 : va_S A H0 H locs) (q0 : Nat) {fs : List Value} (he : ws[q0]? = some (a, .inr (ci, fs))) (hc : cl[ci]? = some (C, T, N)) (k : Nat) (hk : k < N) (hlink : (Cond.fieldLink own index ref (T k).2.1 (T k).2.2.1).before args s = true) (hsame : ∀ x, s.fieldFound? (T k).1 (T k).2.1 (T k).2.2.1 = some x → s.fieldFound? ref (T k).2.1 (T k).2.2.1 = some x) (hfin : (T k).2.2.2 = true) (hin2 : meth.name = "<init>") (hdecl : (T k).1 = own) {ty : FieldType} {v : Value} (hd : parseFieldDescriptor (T k).2.2.1 = some ty) (hn : narrow ty v = v) (hfit : fits ty v = true) (hl : k < fs.length)
    (hdg : decode cc pc = .ok (.putfield index, 3)) (kk : ∀ (H1 : Heap) (locs1 : List Loc), va_P D cl (ws.set q0 (a, .inr (ci, fs.set k v))) H1 → va_S A H0 H1 locs1 → H1.size = H.size → W p l e R s m args below meth c H1 locs1 cells slots Q (F0 m (pc + 3) ls rest)) : W p l e R s m args below meth c H locs cells slots Q (F0 m pc ls (v :: .ref a :: rest)) := by
  have hap := va_apart (own := own) hts hin ty0 hty hnm hK hc
  obtain ⟨r, h1, cell, q1, q2, q3, q4⟩ := hP q0 _ he
  have hr : r = (C, T, N) := Option.some.inj (h1.symm.trans hc)
  subst hr
  obtain ⟨hS, hfc, kC, hkC, hkind⟩ := hK.1 ci _ hc
  obtain ⟨cf, kf, fi, f, hi, hsl⟩ := hS k hk
  have hlay := hts _ (hin _ (u_in_lay hk))
  unfold u_lay at hlay
  rw [if_pos hfin] at hlay
  have hst := (u_facts hfc hkC (u_lays hts hin hk) hi).1
  have hcf : m.cls = cf := by
    obtain ⟨_, _, c', _, _, _, -, -, hf', -, -, -, hown2, -⟩ := Cond.laysFinal_spec hlay
    have e1 : c' = cf := by have := hi.symm.trans hf'; simp at this; exact this.1.symm
    rw [hdecl] at hown2
    rw [← e1]; exact Option.some.inj (hown.symm.trans hown2)
  have h6 := u_fits hfc hkC hkind (Or.inr hlay) hi hd hn hfit
  refine W.putFinK hexec hb hown hlink (hsame _ hi) hst hcf hin2 (by rw [q2]; exact h6) q1 q3 (by rw [hsl]; exact k2_hasslot (q4 k hk)) rfl rfl hdg fun H' e1 e2 e3 => ?_
  rw [hsl] at e1 ⊢
  exact kk H' _ (hP.set hD he ⟨_, hc, t_OB.to (V := updV (vp_V fs) k v) ⟨_, e1, q2, q3, t_set q4 hap hk v⟩ (fun j _ => vp_updV_set hl v j)⟩ e3) (hS0.put e2 e3 (hD.2 q0 _ he)) e2
/-- a final field that holds a reference -/
def am_PR (own : String) (idx ci k N : Nat) : Prop := ∃ (C : String) (T : u_T) (ty : FieldType), am_cl[ci]? = some (C, T, N) ∧ k < N ∧ Cond.fieldLink own idx (T k).1 (T k).2.1 (T k).2.2.1 ∈ am_W0 ∧ (T k).2.2.2 = true ∧ (T k).1 = own ∧ parseFieldDescriptor (T k).2.2.1 = some ty ∧ (∀ a : Nat, narrow ty (.ref a) = .ref a ∧ fits ty (.ref a) = true) ∧ ∀ j, j < N → (parseFieldDescriptor (T j).2.2.1).isSome = true
theorem v_putR {m : MInfo} {kc ks pc : Nat} {E st : List AV} {ρ : Rho} {h : Hh} {Q : PQ} {X : PX} {idx ci k0 N a x : Nat} {j : Int} {kx : Nat × Nat} (hd : decode (am_cc m) pc = .ok (.putfield idx, 3)) (hf : am_PR (am_own m) idx ci k0 N) (hcl : ∀ q ∈ am_cl, am_clsOK q) (hr : am_ref ci k0 = true) (hlaw : am_law m = false) (hini : (am_y m).name = "<init>") (hj : ((k0 : Nat) : Int) = j) (hk : ρ.1[a]? = some (10 + ci, N)) (hx : ρ.1[x]? = some kx) (k : am_V m kc ks (pc + 3) E st (ρ.1, am_sr ρ.2.1 a j x, ρ.2.2) h Q X) : am_V m kc ks pc E (aR x :: aR a :: st) ρ h Q X := by
  intro l p e R s q args below meth c D cA B b g0 g1 Z H locs cells slots ls hC hZ hR hL hS hF hc hs
  subst hj
  obtain ⟨C, T, ty, f1, f2, f3, f4, f5, f6, f7, f8⟩ := hf
  have hg := am_w_get (B := B) (cA := cA) (h := h) hk
  rw [am_cellO] at hg
  have hlt := hR.lt hk
  have hltx := hR.lt hx
  show W p l e R s q args below meth c H locs cells slots Z (F0 q pc ls (.ref (am_ad B b x) :: .ref (am_ad B b a) :: st.map (am_v B b)))
  rw [am_adL hlt, am_adL hltx]
  have hcq := hcl _ (List.mem_of_getElem? f1)
  have hnm : meth.name = "<init>" := (hC.2.2.2.2.2.2.2.2.2.2.2.2.2.2.2.1.resolve_left (by rw [hlaw]; decide)).trans hini
  refine am_putsF (Ts := am_W0) (ref := (T k0).1) hC.2.1 hC.2.2.1 hC.2.2.2.2.2.2.1 hcq.1 (am_tyOf (C, T, N)) (fun k9 h9 => ?_) hcq.2 hC.2.2.2.2.2.1 hC.2.2.2.2.2.2.2.2.2.2.1 hR.1 am_wD hF a hg f1 k0 f2 (hC.2.2.2.2.2.2.1 _ f3) (fun x hx => hx) f4 hnm f5 f6 (f7 _).1 (f7 _).2 (by rw [List.length_map, List.length_range]; exact f2) hd (fun H1 locs1 hP1 hF1 hz => ?_)
  · have := f8 k9 h9
    show _ = some ((parseFieldDescriptor (T k9).2.2.1).getD .int)
    cases hz : parseFieldDescriptor (T k9).2.2.1 with
    | none => rw [hz] at this; cases this
    | some y => rfl
  · have h9 : am_cell B cA (10 + ci, N) (am_sr ρ.2.1 a k0 x a) (h a) = .inr (ci, ((List.range N).map (fun (k : Nat) => am_fv B ci k (ρ.2.1 a k) (h a k))).set k0 (.ref (B + x))) := by
      rw [am_cellO, am_map_set (g := fun (k : Nat) => am_fv B ci k (am_sr ρ.2.1 a k0 x a k) (h a k)) f2]
      · show am_fv B ci k0 (am_sr ρ.2.1 a k0 x a k0) _ = _
        rw [am_sr_s]
        simp only [am_fv, hr]
        rfl
      · intro j hj
        show am_fv B ci j (am_sr ρ.2.1 a k0 x a j) _ = _
        rw [am_sr_n (Or.inr (by omega))]
    have hR1 := hR.setR hk hltx hP1 hz h9
    exact k l p e R s q args below meth c D cA B b g0 g1 Z H1 locs1 cells slots ls hC hZ hR1 hL (am_StT (am_StT hS)) hF1 hc hs
/-- Object's constructor -/
def am_OI (own : String) (idx : Nat) : Prop := Cond.methodLink own idx Lib.objectInit ∈ am_W0 ∧ Cond.instanceMethod Lib.objectInit ∈ am_W0 ∧ Cond.code Lib.objectInit ⟨#[0xb1]⟩ 1 none ∈ am_W0
theorem v_objI {m : MInfo} {kc ks pc : Nat} {E st : List AV} {ρ : Rho} {h : Hh} {Q : PQ} {X : PX} {idx a : Nat} (hd : decode (am_cc m) pc = .ok (.invokespecial idx, 3)) (ho : am_OI (am_own m) idx) (hfr : 1 ≤ am_fr m) (hst : am_ct st ≤ 8) (k : am_V m kc ks (pc + 3) E st ρ h Q X) : am_V m kc ks pc E (aR a :: st) ρ h Q X := by
  intro l p e R s q args below meth c D cA B b g0 g1 Z H locs cells slots ls hC hZ hR hL hS hF hc hs
  have hw := hC.2.2.2.2.2.2.1
  have hfr9 := hC.2.2.2.2.2.2.2.2.2.2.2.2.2.2.2.2.1
  have hlo9 := hC.2.2.2.2.2.2.2.2.2.2.2.2.2.2.2.2.2.1
  have hsum := am_sum B b st
  refine W.objInit (a := am_ad B b a) (rest := st.map (am_v B b)) hC.2.1 hC.2.2.1 hC.2.2.2.2.2.1 (hw _ ho.1) (hw _ ho.2.1) (hw _ ho.2.2) rfl (hL.1.trans hC.2.2.2.2.1.symm) rfl hd (by omega) ?_ ?_
  · show 2 * 0 + _ + 12 ≤ R.locals
    omega
  · exact k l p e R s q args below meth c D cA B b g0 g1 Z H locs cells slots ls hC hZ hR hL (am_StT hS) hF hc hs
set_option maxHeartbeats 1000000 in
theorem v_callI {m : MInfo} {kc ks pc : Nat} {E st : List AV} {ρ : Rho} {h : Hh} {Q : PQ} {X : PX} {j : MInfo} {idx a : Nat} {E0 : List AV} (hd : decode (am_cc m) pc = .ok (.invokespecial idx, 3)) (hlk : Cond.methodLink (am_own m) idx (am_y j) ∈ am_W0 ∧ Cond.instanceMethod (am_y j) ∈ am_W0) (hin : (am_y j).name = "<init>") (hJ : am_J j) (hrt : am_rt j = none) (hkc : am_kc j ≤ kc) (hks : am_ks j ≤ ks) (hfr : am_fr j + 1 ≤ am_fr m) (hhh : am_hh m = []) (hst : am_ct st ≤ 8) (h2 : 1 ≤ am_ml j) (hE : am_E j [aR a] = E0) (hk : a < ρ.1.length) (hn : (parseMethodDescriptor (am_y j).desc).map (fun d => d.parameters.length) = some 0) (k : am_V j (am_kc j) (am_ks j) 0 E0 [] ρ h (fun v ρ' h' => am_V m (kc - am_kc j) (ks - am_ks j) (pc + 3) E (v ++ st) ρ' h' Q X) X) : am_V m kc ks pc E (aR a :: st) ρ h Q X := by
  intro l p e R s q args below meth c D cA B b g0 g1 Z H locs cells slots ls hC hZ hR hL hS hF hc hs
  subst hE
  obtain ⟨j1, j2, j3, j4, j5, j6, j7, j8⟩ := id hJ
  have hw := hC.2.2.2.2.2.2.1
  have hfr9 := hC.2.2.2.2.2.2.2.2.2.2.2.2.2.2.2.2.1
  have hlo9 := hC.2.2.2.2.2.2.2.2.2.2.2.2.2.2.2.2.2.1
  have hsum := am_sum B b st
  have hroom := am_room (j := j) hfr9 hlo9 hfr j8
  have hlt : a < 1000 := Nat.lt_of_lt_of_le hk hR.2.2.1
  have hSs : am_St st := am_StT hS
  have hSa : am_St [aR a] := am_StC trivial (fun v hv => by cases hv)
  have hM := am_met (l := l) hC.1 hJ (D := D) (cA := cA) (B := B) (b := b) (g0 := g0) (g1 := g1) (As := [aR a]) (fun v hv => by cases hv with | head => rfl | tail _ h => cases h) h2 hSa k
  rw [show ((aR a :: st).map (am_v B b)) = Value.ref (B + a) :: st.map (am_v B b) from by rw [List.map_cons]; exact congrArg (· :: st.map (am_v B b)) (congrArg Value.ref (am_adL hlt))]
  have hws : am_ws j = Cond.code (am_y j) (am_cc j) (am_ml j) none :: am_W0 := by rw [← hrt]; rfl
  refine am_after hC hZ hL hSs hF hc hs hkc hks hhh (a9 := #[Value.ref (B + a)]) (vx_runI (As := []) (b := B + a) ⟨hC.2.1, hC.2.2.1, hC.2.2.2.2.1, hC.2.2.2.2.2.1, hw⟩ hM (cwI 0 hw (am_goodIn (fun w9 hw9 => by
    rcases List.mem_cons.mp hw9 with rfl | z
    · exact j2
    · exact z)) hws rfl rfl (hw _ j1) (hw _ hlk.1) (hw _ hlk.2) hin ⟨j4.1, j4.2, hn⟩ hroom) ⟨am_FB, fun U hU hW => ⟨by show _ = #[Value.ref (am_ad B b a)]; rw [am_adL hlt], hC.G hF hU hW, by rw [hU]; exact hR⟩⟩ rfl rfl hL.1 rfl (lv_room (by omega)) hd ⟨by omega, by omega⟩)
set_option maxHeartbeats 1000000 in
theorem v_callIN {m : MInfo} {kc ks pc : Nat} {E st : List AV} {ρ : Rho} {h : Hh} {Q : PQ} {X : PX} {j : MInfo} {idx a : Nat} {E0 : List AV} {host : String} (hd : decode (am_cc m) pc = .ok (.invokespecial idx, 3)) (hlk : Cond.methodLinkNest (am_own m) idx (am_y j) host ∈ am_W1 ∧ Cond.instanceMethod (am_y j) ∈ am_W0) (hin : (am_y j).name = "<init>") (hJ : am_J j) (hrt : am_rt j = none) (hkc : am_kc j ≤ kc) (hks : am_ks j ≤ ks) (hfr : am_fr j + 1 ≤ am_fr m) (hhh : am_hh m = []) (hst : am_ct st ≤ 8) (h2 : 1 ≤ am_ml j) (hE : am_E j [aR a] = E0) (hk : a < ρ.1.length) (hn : (parseMethodDescriptor (am_y j).desc).map (fun d => d.parameters.length) = some 0) (k : am_V j (am_kc j) (am_ks j) 0 E0 [] ρ h (fun v ρ' h' => am_V m (kc - am_kc j) (ks - am_ks j) (pc + 3) E (v ++ st) ρ' h' Q X) X) : am_V m kc ks pc E (aR a :: st) ρ h Q X := by
  intro l p e R s q args below meth c D cA B b g0 g1 Z H locs cells slots ls hC hZ hR hL hS hF hc hs
  subst hE
  obtain ⟨j1, j2, j3, j4, j5, j6, j7, j8⟩ := id hJ
  have hw := hC.2.2.2.2.2.2.1
  have hfr9 := hC.2.2.2.2.2.2.2.2.2.2.2.2.2.2.2.2.1
  have hlo9 := hC.2.2.2.2.2.2.2.2.2.2.2.2.2.2.2.2.2.1
  have hsum := am_sum B b st
  have hroom := am_room (j := j) hfr9 hlo9 hfr j8
  have hlt : a < 1000 := Nat.lt_of_lt_of_le hk hR.2.2.1
  have hSs : am_St st := am_StT hS
  have hSa : am_St [aR a] := am_StC trivial (fun v hv => by cases hv)
  have hM := am_met (l := l) hC.1 hJ (D := D) (cA := cA) (B := B) (b := b) (g0 := g0) (g1 := g1) (As := [aR a]) (fun v hv => by cases hv with | head => rfl | tail _ h => cases h) h2 hSa k
  rw [show ((aR a :: st).map (am_v B b)) = Value.ref (B + a) :: st.map (am_v B b) from by rw [List.map_cons]; exact congrArg (· :: st.map (am_v B b)) (congrArg Value.ref (am_adL hlt))]
  have hws : am_ws j = Cond.code (am_y j) (am_cc j) (am_ml j) none :: am_W0 := by rw [← hrt]; rfl
  refine am_after hC hZ hL hSs hF hc hs hkc hks hhh (a9 := #[Value.ref (B + a)]) (vx_runIN (As := []) (b := B + a) ⟨hC.2.1, hC.2.2.1, hC.2.2.2.2.1, hC.2.2.2.2.2.1, hw⟩ hM ⟨va_cnB 0 hw (am_goodIn (fun w9 hw9 => by
    rcases List.mem_cons.mp hw9 with rfl | z
    · exact j2
    · exact z)) hws rfl rfl (hC.2.2.2.2.2.2.2.1 _ hlk.1) (hw _ j1) ⟨j4.1, j4.2, hn⟩ hroom, hin, hw _ hlk.2⟩ ⟨am_FB, fun U hU hW => ⟨by show _ = #[Value.ref (am_ad B b a)]; rw [am_adL hlt], hC.G hF hU hW, by rw [hU]; exact hR⟩⟩ rfl rfl hL.1 rfl (lv_room (by omega)) hd ⟨by omega, by omega⟩)
theorem am_HR.exts {D : va_G} {cA : Nat → ClassId} {B : Nat} {g0 g1 : Int → Int} {ρ : Rho} {h : Hh} {H H1 : Heap} (M : List (Nat × Nat)) (r' : Nat → Int → Option Nat) (hR : am_HR D cA B g0 g1 ρ h H) (hl : ρ.1.length + M.length ≤ 1000) (hd : ρ.2.2 = true) (z1 : H1.size = H.size + M.length) (o1 : ∀ q, q < H.size → H1[q]? = H[q]?) (hn : ∀ (k : Nat) (kd : Nat × Nat), M[k]? = some kd → va_at D am_cl (H.size + k, am_cell B cA kd (r' (ρ.1.length + k)) (h (ρ.1.length + k))) H1) (hg : ∀ (k : Nat) (kd : Nat × Nat), M[k]? = some kd → am_rg kd (h (ρ.1.length + k))) (hr : ∀ b, b < ρ.1.length → r' b = ρ.2.1 b) (hb : ∀ (a : Nat) (i : Int) (x : Nat), r' a i = some x → x < 1000) : am_HR D cA B g0 g1 (ρ.1 ++ M, r', true) h H1 := by
  obtain ⟨h1, h2, h3, h4, h5, h6, h7⟩ := id hR
  have e := h2 hd
  refine ⟨fun k q hq => ?_, fun _ => ?_, ?_, hb, fun a kd' hk' => ?_, h6, h7⟩
  · unfold am_w at hq
    rw [List.getElem?_mapIdx] at hq
    by_cases hlt : k < ρ.1.length
    · change (((ρ.1 ++ M)[k]?).map _) = _ at hq
      rw [List.getElem?_append_left hlt] at hq
      refine va_P.kept h1 (fun k x hx => o1 x.1 ((h1 k x hx).lt)) k q ?_
      unfold am_w
      rw [List.getElem?_mapIdx]
      change ((ρ.1[k]?).map fun kd => (B + k, am_cell B cA kd (r' k) (h k))) = _ at hq
      rw [hr k hlt] at hq
      exact hq
    · change (((ρ.1 ++ M)[k]?).map fun kd => (B + k, am_cell B cA kd (r' k) (h k))) = _ at hq
      rw [List.getElem?_append_right (by omega)] at hq
      cases hz : M[k - ρ.1.length]? with
      | none => rw [hz] at hq; cases hq
      | some kd =>
        rw [hz] at hq
        have h9 := hn _ kd hz
        rw [show ρ.1.length + (k - ρ.1.length) = k by omega, e, show B + ρ.1.length + (k - ρ.1.length) = B + k by omega] at h9
        cases hq
        exact h9
  · show H1.size = B + (ρ.1 ++ M).length
    rw [z1, e, List.length_append, Nat.add_assoc]
  · show (ρ.1 ++ M).length ≤ 1000
    rw [List.length_append]
    exact hl
  · by_cases q : a < ρ.1.length
    · rw [List.getElem?_append_left q] at hk'
      exact h5 a kd' hk'
    · rw [List.getElem?_append_right (by omega)] at hk'
      have h9 := hg _ kd' hk'
      rw [show ρ.1.length + (a - ρ.1.length) = a by omega] at h9
      exact h9
/-- a row of Text -/
theorem v_newT {m : MInfo} {kc ks pc : Nat} {E st : List AV} {ρ : Rho} {h : Hh} {Q : PQ} {X : PX} {idx : Nat} (N : Nat) {x : Int} (hd : decode (am_cc m) pc = .ok (.anewarray idx, 3)) (hlk : Cond.classLink (am_own m) idx RX6 ∈ am_W0) (hx : x = (N : Int)) (hN : N ≤ 3000) (hdn : ρ.2.2 = true) (hl : ρ.1.length < 1000) (hz : ∀ i, h ρ.1.length i = 0) (hr : ∀ i, ρ.2.1 ρ.1.length i = none) (hkc : 1 ≤ kc) (hks : N ≤ ks)
    (k : am_V m (kc - 1) (ks - N) (pc + 3) E (aR ρ.1.length :: st) (ρ.1 ++ [(4, N)], ρ.2.1, true) h Q X) : am_V m kc ks pc E (aI x :: st) ρ h Q X := by
  intro l p e R s q args below meth c D cA B b g0 g1 Z H locs cells slots ls hC9 hZ hR hL hS hF hc hs
  subst hx
  have hi : am_i (N : Int) := ⟨by omega, by omega⟩
  have hw := hC9.2.2.2.2.2.2.1
  have hn9 : (Int32.ofInt (N : Int)).toNatClampNeg = N := by rw [am_cl0 (by omega) hi, Int.toNat_natCast]
  show W p l e R s q args below meth c H locs cells slots Z (F0 q pc ls (.int (Int32.ofInt (N : Int)) :: st.map (am_v B b)))
  refine W.anew hC9.2.1 hC9.2.2.1 hC9.2.2.2.2.2.1 (hw _ hlk) hC9.2.2.2.2.2.2.2.2.1.2.1 rfl hd rfl ?_ ?_ (by omega) (by omega) fun cA1 kA comp f1 f2 f3 f4 => ?_
  · rw [show (0 : Int32) = Int32.ofInt 0 from rfl, am_ltI hi am_i0]
    omega
  · rw [hn9]
    omega
  · obtain ⟨kA2, comp2, y1, y2, y3, y4⟩ := (hC9.2.2.2.2.2.2.2.2.2.2.1.2 4 _ rfl).2
    have hcA : cA1 = cA 4 := Option.some.inj (f1.symm.trans y4)
    subst hcA
    rw [hn9]
    generalize hH1 : H.push ({ cls := cA 4, slots := Array.replicate N .null, vm := .none } : Cell) = H1
    have z1 : H1.size = H.size + 1 := by rw [← hH1, Array.size_push]
    have e1 : H1[H.size]? = some (arrV (cA 4) N (fun _ => .null)) := by rw [← hH1, Array.getElem?_push_size, ← arrV_new]
    have o1 : ∀ q : Nat, q < H.size → H1[q]? = H[q]? := fun q hq => by rw [← hH1, Array.getElem?_push, if_neg (Nat.ne_of_lt hq)]
    have hR1 : am_HR D cA B g0 g1 (ρ.1 ++ [(4, N)], ρ.2.1, true) h H1 := hR.ext hl hdn z1 o1 (by
      show H1[H.size]? = some (vp_cell (cA 4) (N, .inr (.inr (.inr (.inr (fun i => (ρ.2.1 ρ.1.length i).map (B + ·)))))))
      rw [vp_cell_q, e1]
      congr 2
      funext j
      rw [hr]
      rfl) (am_rg0 hz)
    have := k l p e R s q args below meth c D cA B b g0 g1 Z H1 locs (cells + 1) (slots + N) ls hC9 hZ hR1 hL (am_StC trivial (am_StT hS)) (am_S_ext hF z1 o1) (by omega) (by omega)
    rw [List.map_cons] at this
    rw [hR.2.1 hdn]
    rw [show am_v B b (aR ρ.1.length) = .ref (B + ρ.1.length) from congrArg Value.ref (am_adL hl)] at this
    exact this
theorem am_outer (c : ClassId) (N h0 : Nat) : ∀ i, Jvm.Free.Multi.outerC c N h0 i = { cls := c, slots := (Jvm.Free.Multi.outerC c N h0 i).slots, vm := .none }
  | 0 => rfl
  | i + 1 => by
    have ih := am_outer c N h0 i
    show (Jvm.Free.Multi.outerC c N h0 i).setSlot i (.ref (h0 + 1 + i)) = { cls := c, slots := ((Jvm.Free.Multi.outerC c N h0 i).setSlot i (.ref (h0 + 1 + i))).slots, vm := .none }
    generalize Jvm.Free.Multi.outerC c N h0 i = C at ih ⊢
    generalize hz : C.slots = z at ih
    subst ih
    rfl
/-- int[8][64] -/
def am_mr (r : Nat → Int → Option Nat) (n : Nat) : Nat → Int → Option Nat := fun b i => if b = n ∧ 0 ≤ i ∧ i < 8 then some (n + 1 + i.toNat) else r b i
theorem v_multi {m : MInfo} {kc ks pc : Nat} {E st : List AV} {ρ : Rho} {h : Hh} {Q : PQ} {X : PX} {idx : Nat} (hd : decode (am_cc m) pc = .ok (.multianewarray idx 2, 4)) (hlk : Cond.classLink (am_own m) idx "[[I" ∈ am_W0) (harr : Cond.arrayClass .int ∈ am_W0) (hdn : ρ.2.2 = true) (hl : ρ.1.length + 9 ≤ 999) (hz : ∀ (k : Nat) (i : Int), k < 9 → h (ρ.1.length + k) i = 0) (hr : ∀ i, ρ.2.1 ρ.1.length i = none) (hkc : 9 ≤ kc) (hks : 520 ≤ ks)
    (k : am_V m (kc - 9) (ks - 520) (pc + 4) E (aR ρ.1.length :: st) (ρ.1 ++ [(5, 8), (0, 64), (0, 64), (0, 64), (0, 64), (0, 64), (0, 64), (0, 64), (0, 64)], am_mr ρ.2.1 ρ.1.length, true) h Q X) : am_V m kc ks pc E (aI 64 :: aI 8 :: st) ρ h Q X := by
  intro l p e R s q args below meth c D cA B b g0 g1 Z H locs cells slots ls hC9 hZ hR hL hS hF hc hs
  have hw := hC9.2.2.2.2.2.2.1
  have hK := hC9.2.2.2.2.2.2.2.2.2.2.1
  show W p l e R s q args below meth c H locs cells slots Z (F0 q pc ls (.int (Int32.ofInt 64) :: .int (Int32.ofInt 8) :: st.map (am_v B b)))
  intro T hT Xs
  subst hT
  have hb := hC9.2.2.1
  obtain ⟨vm₁, cA1, comp, hW, hfA, hfC, hO, hI, X', step⟩ := Xs.multianewarray2F (ty := .int) (index := idx) (g := F0 q pc ls (.int (Int32.ofInt 64) :: .int (Int32.ofInt 8) :: st.map (am_v B b))) (n := Int32.ofInt 8) (k := Int32.ofInt 64) (rest := st.map (am_v B b)) hC9.2.1 hC9.2.2.2.2.2.1 (hw _ hlk) hC9.2.2.2.2.2.2.2.2.1.2.2 (hw _ harr) rfl (by rw [hb]; exact hd) rfl (by decide) (by decide) (by decide) (by decide) (by decide) (by decide) (by decide) (by show cells + (1 + 8) ≤ _; omega) (by show slots + (8 + 8 * 64) ≤ _; omega)
  have c1 : cA1 = cA 5 := Option.some.inj (hfA.symm.trans (hK.2 5 _ rfl).2)
  have c2 : comp = cA 0 := Option.some.inj (hfC.symm.trans (hK.2 0 _ rfl).2)
  subst c1
  subst c2
  have ff := Jvm.Free.Multi.fill_facts (T.setVm vm₁) (cA 5) (cA 0) 8 64 (defaultValue .int) 8
  have fo := fun (a : Nat) (ha : a < T.heap.size) => Jvm.Free.Multi.fill_old (T.setVm vm₁) (cA 5) (cA 0) 8 64 (defaultValue .int) (a := a) ha 8
  have fi := Jvm.Free.Multi.fill_inner (T.setVm vm₁) (cA 5) (cA 0) 8 64 (defaultValue .int) 8
  change Stand p l e R s q args below meth c (Jvm.Free.Multi.fill (T.setVm vm₁) (cA 5) (cA 0) 8 64 (defaultValue .int) 8) locs (cells + 1 + 8) (slots + 8 + 8 * 64) at X'
  generalize hU : Jvm.Free.Multi.fill (T.setVm vm₁) (cA 5) (cA 0) 8 64 (defaultValue .int) 8 = U at ff fo fi X'
  have z1 : U.heap.size = T.heap.size + 9 := by rw [ff.1]; rfl
  have hsz := hR.2.1 hdn
  have e1 : Jvm.Free.Multi.outerC (cA 5) 8 T.heap.size 8 = arrV (cA 5) 8 (fun j => va_rf ((am_mr ρ.2.1 ρ.1.length ρ.1.length (j : Nat)).map (B + ·))) := by
    have o := Jvm.Free.Multi.outerC_facts (cA 5) 8 T.heap.size 8
    have os := Jvm.Free.Multi.outerC_slot (cA 5) 8 T.heap.size 8
    have hco := am_outer (cA 5) 8 T.heap.size 8
    generalize Jvm.Free.Multi.outerC (cA 5) 8 T.heap.size 8 = Co at o os hco
    obtain ⟨o1, o2, o3⟩ := o
    have hs9 : Co.slots = (arrV (cA 5) 8 (fun j => va_rf ((am_mr ρ.2.1 ρ.1.length ρ.1.length (j : Nat)).map (B + ·)))).slots := by
      apply Array.ext_getElem?
      intro j
      by_cases hj : j < 8
      · rw [os j hj, if_pos hj]
        show _ = (Array.ofFn (n := 8) fun j => va_rf ((am_mr ρ.2.1 ρ.1.length ρ.1.length (j.val : Nat)).map (B + ·)))[j]?
        rw [Array.getElem?_ofFn, dif_pos hj]
        show _ = some (va_rf ((am_mr ρ.2.1 ρ.1.length ρ.1.length (j : Nat)).map (B + ·)))
        unfold am_mr
        rw [if_pos ⟨rfl, by omega, by omega⟩]
        show _ = some (Value.ref (B + (ρ.1.length + 1 + (j : Int).toNat)))
        rw [Int.toNat_natCast, hsz, show B + (ρ.1.length + 1 + j) = B + ρ.1.length + 1 + j by omega]
      · rw [Array.getElem?_eq_none (by rw [o3]; omega), Array.getElem?_eq_none (by rw [arrV_size]; omega)]
    rw [hco, hs9]
    rfl
  have hR1 : am_HR D cA B g0 g1 (ρ.1 ++ [(5, 8), (0, 64), (0, 64), (0, 64), (0, 64), (0, 64), (0, 64), (0, 64), (0, 64)], am_mr ρ.2.1 ρ.1.length, true) h U.heap := by
    refine hR.exts _ _ (by show ρ.1.length + 9 ≤ 1000; omega) hdn z1 fo (fun k9 kd hk9 => ?_) (fun k9 kd hk9 => am_rg0 (fun i => hz k9 i (List.getElem?_eq_some_iff.mp hk9).1)) (fun b9 h9 => funext fun i => if_neg fun z => by omega) (fun a i x hx => ?_)
    · have hlt9 : k9 < 9 := (List.getElem?_eq_some_iff.mp hk9).1
      have hz9 := fun i => hz k9 i hlt9
      cases k9 with
      | zero =>
        cases hk9
        show U.heap[T.heap.size]? = some (vp_cell (cA 5) (8, .inr (.inr (.inr (.inr (fun i => (am_mr ρ.2.1 ρ.1.length ρ.1.length i).map (B + ·)))))))
        rw [vp_cell_q, ← e1]
        exact ff.2.1
      | succ j =>
        have hkd : kd = (0, 64) := by
          match j, hk9 with
          | 0, hk9 => cases hk9; rfl
          | 1, hk9 => cases hk9; rfl
          | 2, hk9 => cases hk9; rfl
          | 3, hk9 => cases hk9; rfl
          | 4, hk9 => cases hk9; rfl
          | 5, hk9 => cases hk9; rfl
          | 6, hk9 => cases hk9; rfl
          | 7, hk9 => cases hk9; rfl
          | j + 8, _ => omega
        subst hkd
        show U.heap[T.heap.size + (j + 1)]? = some (vp_cell (cA 0) (64, .inl (fun i => Int32.ofInt (h (ρ.1.length + (j + 1)) i))))
        rw [show T.heap.size + (j + 1) = T.heap.size + 1 + j by omega]
        refine (fi j (by omega)).trans ?_
        rw [vp_cell_i]
        unfold Jvm.Free.Multi.innerC
        rw [arrV_new]
        congr 2
        funext i
        rw [hz9]
        rfl
    · unfold am_mr at hx
      split at hx
      · cases hx
        omega
      · exact hR.2.2.2.1 a i x hx
  have := k l p e R s q args below meth c D cA B b g0 g1 Z U.heap locs (cells + 1 + 8) (slots + 8 + 8 * 64) ls hC9 hZ hR1 hL (am_StC trivial (am_StT (am_StT hS))) (am_S_ext hF z1 fo) (by omega) (by omega)
  rw [List.map_cons, show am_v B b (aR ρ.1.length) = .ref T.heap.size from by rw [hsz]; exact congrArg Value.ref (am_adL (by omega))] at this
  obtain ⟨t, a1, b1⟩ := this U rfl X'
  refine ⟨t, step t ?_, b1⟩
  subst hU
  exact a1
/-- a Text into a row of Texts -/
theorem v_astT {m : MInfo} {kc ks pc : Nat} {E st : List AV} {ρ : Rho} {h : Hh} {Q : PQ} {X : PX} {a x N n9 : Nat} {j : Int} (hd : decode (am_cc m) pc = .ok (.aastore, 1)) (hk : ρ.1[a]? = some (4, N)) (hx : ρ.1[x]? = some (10 + 4, n9)) (hj : 0 ≤ j ∧ j < N) (k : am_V m kc ks (pc + 1) E st (ρ.1, am_sr ρ.2.1 a j x, ρ.2.2) h Q X) : am_V m kc ks pc E (aR x :: aI j :: aR a :: st) ρ h Q X := by
  intro l p e R s q args below meth c D cA B b g0 g1 Z H locs cells slots ls hC hZ hR hL hS hF hc hs
  have hji : am_i j := am_StH (am_StT hS)
  have hK := hC.2.2.2.2.2.2.2.2.2.2.1
  have hlt := hR.lt hk
  have hltx := hR.lt hx
  have ha := am_w_get (B := B) (cA := cA) (h := h) hk
  have hv := am_w_get (B := B) (cA := cA) (h := h) hx
  rw [am_cellO] at hv
  show W p l e R s q args below meth c H locs cells slots Z (F0 q pc ls (.ref (am_ad B b x) :: .int (Int32.ofInt j) :: .ref (am_ad B b a) :: st.map (am_v B b)))
  rw [am_adL hlt, am_adL hltx]
  have hP := hR.1
  have hin : vp_in (Int32.ofInt j) N := am_in hj.1 hj.2 hji
  have hcl0 := am_cl0 hj.1 hji
  have hlt9 : (Int32.ofInt j).toNatClampNeg < N := Nat.not_le.mp fun q => hin (Or.inr q)
  have h0 : ¬ Int32.ofInt j < 0 := fun q => hin (Or.inl q)
  obtain ⟨r', hr', cellV, g1', g2, g3, -⟩ := hP x _ hv
  have hc4 : am_cl[4]? = some (RX6, TX6, 5) := rfl
  have hcls := (hK.1 4 _ hc4).2
  obtain ⟨kA, comp, k1, k2, k3, -⟩ := (hK.2 4 _ rfl).2
  have hcomp : comp = D.1 4 := Option.some.inj (k3.symm.trans hcls.1)
  subst hcomp
  obtain ⟨kC, hkC, -⟩ := hcls.2
  refine W.aast hC.2.1 hC.2.2.1 (hP a _ ha) (fun q h => by cases h) (fun h => by cases h) k1 k2 rfl hkC ⟨h0, by show _ < (arrV _ _ _).slots.size; rw [arrV_size]; exact hlt9⟩ g1' (fun q h => by rw [g3] at h; cases h) (by rw [g2]; exact hkC) (by rw [g2]; exact va_assign hcls) rfl rfl hd fun H1 e9 z oq => ?_
  have he : am_cell B cA (4, N) (am_sr ρ.2.1 a j x a) (h a) = .inl (cA 4, N, .inr (.inr (.inr (.inr (va_up (fun i => (ρ.2.1 a i).map (B + ·)) (Int32.ofInt j).toNatClampNeg (some (B + x))))))) := by
    show Sum.inl (cA 4, N, Sum.inr (Sum.inr (Sum.inr (Sum.inr (fun i : Nat => (am_sr ρ.2.1 a j x a i).map (B + ·)))))) = _
    refine congrArg (fun f => Sum.inl (cA 4, N, Sum.inr (Sum.inr (Sum.inr (Sum.inr f))))) (funext fun i => ?_)
    by_cases hi : i = (Int32.ofInt j).toNatClampNeg
    · subst hi
      rw [hcl0, Int.toNat_of_nonneg hj.1, am_sr_s]
      simp [va_up]
    · rw [am_sr_n (Or.inr (by rw [hcl0] at hi; omega))]
      simp [va_up, hi]
  have hP1 : va_P D am_cl ((am_w B cA ρ h).set a (B + a, .inl (cA 4, N, .inr (.inr (.inr (.inr (va_up (fun i => (ρ.2.1 a i).map (B + ·)) (Int32.ofInt j).toNatClampNeg (some (B + x))))))))) H1 := by
    refine hP.set am_wD ha ?_ oq
    show H1[B + a]? = some (vp_cell _ _)
    rw [e9]
    show some ((vp_cell (cA 4) (N, .inr (.inr (.inr (.inr (fun i => (ρ.2.1 a i).map (B + ·))))))).setSlot _ _) = _
    rw [vp_cell_q, vp_cell_q, arrV_store]
    congr 2
    funext q
    by_cases hq : q = (Int32.ofInt j).toNatClampNeg
    · subst hq
      simp [updV, va_up, va_rf]
    · simp [updV, va_up, hq]
  have hR1 := hR.setR hk hltx hP1 z he
  exact k l p e R s q args below meth c D cA B b g0 g1 Z H1 _ cells slots ls hC hZ hR1 hL (am_StT (am_StT (am_StT hS))) (hF.put z oq (by show B ≤ B + a; omega)) hc hs
