def am_c2 : Option AV → Bool
  | some (.inr (.inl _)) => true
  | some (.inr (.inr (.inr (.inl _)))) => true
  | _ => false
def am_kill (E : List AV) : Nat → List AV
  | 0 => E
  | i + 1 => cond (am_c2 E[i]?) (E.set i aU) E
def am_s1 (E : List AV) (i : Nat) (v : AV) : List AV := (am_kill E i).set i v
def am_s2 (E : List AV) (i : Nat) (v : AV) : List AV := ((am_kill E i).set i v).set (i + 1) aU
theorem am_LR.at {B b nL i : Nat} {ls : Array Slot} {E : List AV} {v : AV} (hL : am_LR B b ls nL E) (he : E[i]? = some v) (hv : v ≠ aU) : ls[i]? = some (.val (am_v B b v)) ∧ am_ok v := (hL.2.2.2 i v he).resolve_left hv
theorem am_LR.lt {B b nL i : Nat} {ls : Array Slot} {E : List AV} {v : AV} (hL : am_LR B b ls nL E) (he : E[i]? = some v) : i < nL := by
  have := (List.getElem?_eq_some_iff.mp he).1
  rw [hL.2.1] at this
  exact this
def am_all (ls : Array Slot) (nL : Nat) : List (Nat × Value) := (List.range nL).filterMap fun (j : Nat) => match (ls[j]? : Option Slot) with
  | some (.val w) => some (j, w)
  | _ => none
theorem am_all_has {ls : Array Slot} {nL : Nat} (h1 : ls.size = nL) (h2 : lv_wf ls) : lv_has ls nL (am_all ls nL) := by
  refine ⟨h1, h2, fun q hq => ?_⟩
  obtain ⟨j, -, hj⟩ := List.mem_filterMap.mp hq
  split at hj
  · rename_i w hw
    cases hj
    exact hw
  · cases hj
theorem am_all_mem {ls : Array Slot} {nL j : Nat} {w : Value} (h1 : ls.size = nL) (h : ls[j]? = some (.val w)) : (j, w) ∈ am_all ls nL := by
  refine List.mem_filterMap.mpr ⟨j, List.mem_range.mpr (by rw [← h1]; exact lv_lt h), ?_⟩
  rw [h]
theorem am_kill_get {E : List AV} {i j : Nat} {v : AV} (h : (am_kill E i)[j]? = some v) : v = aU ∨ (E[j]? = some v ∧ (j + 1 = i → am_c2 (some v) = false)) := by
  cases i with
  | zero => exact Or.inr ⟨h, fun q => by omega⟩
  | succ i =>
    cases hc : am_c2 E[i]? with
    | true =>
      have h : (cond (am_c2 E[i]?) (E.set i aU) E)[j]? = some v := h
      rw [hc] at h
      rw [cond_true, List.getElem?_set] at h
      by_cases q : i = j
      · rw [if_pos q] at h
        split at h
        · exact Or.inl (Option.some.inj h).symm
        · cases h
      · rw [if_neg q] at h
        exact Or.inr ⟨h, fun z => by omega⟩
    | false =>
      have h : (cond (am_c2 E[i]?) (E.set i aU) E)[j]? = some v := h
      rw [hc, cond_false] at h
      refine Or.inr ⟨h, fun z => ?_⟩
      have : i = j := by omega
      subst this
      rw [h] at hc
      exact hc
theorem am_kill_len (E : List AV) (i : Nat) : (am_kill E i).length = E.length := by
  cases i with
  | zero => rfl
  | succ i =>
    show (cond (am_c2 E[i]?) (E.set i aU) E).length = E.length
    cases am_c2 E[i]?
    · rfl
    · exact List.length_set
theorem am_cat {B b : Nat} {v : AV} (h : am_c2 (some v) = false) : (am_v B b v).category = 1 := by
  rcases v with x | x | x | x | x | x <;> first | rfl | (simp [am_c2] at h)
theorem am_LR.s1 {B b nL i : Nat} {ls ls' : Array Slot} {E : List AV} {v : AV} (hL : am_LR B b ls nL E) (hok : am_ok v) (h' : lv_has ls' nL ((i, am_v B b v) :: (am_all ls nL).filter (fun q => !(q.1 == i) && !(q.1 + 1 == i && q.2.category == 2)))) : am_LR B b ls' nL (am_s1 E i v) := by
  obtain ⟨h1, h2, h3, h4⟩ := hL
  refine ⟨h'.1, by unfold am_s1; rw [List.length_set, am_kill_len, h2], h'.2.1, fun j w hj => ?_⟩
  unfold am_s1 at hj
  rw [List.getElem?_set] at hj
  by_cases q : i = j
  · subst q
    rw [if_pos rfl] at hj
    split at hj
    · cases hj
      exact Or.inr ⟨h'.2.2 _ List.mem_cons_self, hok⟩
    · cases hj
  · rw [if_neg q] at hj
    rcases am_kill_get hj with z | ⟨z1, z2⟩
    · exact Or.inl z
    · rcases h4 j w z1 with z | ⟨z3, z4⟩
      · exact Or.inl z
      · refine Or.inr ⟨h'.2.2 (j, am_v B b w) (List.mem_cons_of_mem _ (List.mem_filter.mpr ⟨am_all_mem h1 z3, ?_⟩)), z4⟩
        by_cases y : j + 1 = i
        · have := am_cat (B := B) (b := b) (z2 y)
          simp [this]
          omega
        · simp [y]
          omega
theorem am_LR.s2 {B b nL i : Nat} {ls ls' : Array Slot} {E : List AV} {v : AV} (hL : am_LR B b ls nL E) (hok : am_ok v) (h' : lv_has ls' nL ((i, am_v B b v) :: (am_all ls nL).filter (fun q => !(q.1 == i) && (!(q.1 == i + 1) && !(q.1 + 1 == i && q.2.category == 2))))) : am_LR B b ls' nL (am_s2 E i v) := by
  obtain ⟨h1, h2, h3, h4⟩ := hL
  refine ⟨h'.1, by unfold am_s2; rw [List.length_set, List.length_set, am_kill_len, h2], h'.2.1, fun j w hj => ?_⟩
  unfold am_s2 at hj
  rw [List.getElem?_set] at hj
  by_cases q0 : i + 1 = j
  · rw [if_pos q0] at hj
    split at hj
    · exact Or.inl (Option.some.inj hj).symm
    · cases hj
  rw [if_neg q0, List.getElem?_set] at hj
  by_cases q : i = j
  · subst q
    rw [if_pos rfl] at hj
    split at hj
    · cases hj
      exact Or.inr ⟨h'.2.2 _ List.mem_cons_self, hok⟩
    · cases hj
  · rw [if_neg q] at hj
    rcases am_kill_get hj with z | ⟨z1, z2⟩
    · exact Or.inl z
    · rcases h4 j w z1 with z | ⟨z3, z4⟩
      · exact Or.inl z
      · refine Or.inr ⟨h'.2.2 (j, am_v B b w) (List.mem_cons_of_mem _ (List.mem_filter.mpr ⟨am_all_mem h1 z3, ?_⟩)), z4⟩
        by_cases y : j + 1 = i
        · have := am_cat (B := B) (b := b) (z2 y)
          simp [this]
          omega
        · simp [y]
          omega
/-- fewer places are known -/
def am_le : List AV → List AV → Prop
  | [], [] => True
  | x :: xs, y :: ys => (x = y ∨ x = aU) ∧ am_le xs ys
  | _, _ => False
theorem am_le_get : ∀ {E' E : List AV}, am_le E' E → E'.length = E.length ∧ ∀ (i : Nat) (v : AV), E'[i]? = some v → v = aU ∨ E[i]? = some v
  | [], [], _ => ⟨rfl, fun i v h => by simp at h⟩
  | x :: xs, y :: ys, h => by
    obtain ⟨h1, h2⟩ := am_le_get h.2
    refine ⟨by simp [h1], fun i v hv => ?_⟩
    cases i with
    | zero =>
      simp only [List.getElem?_cons_zero, Option.some.injEq] at hv ⊢
      rcases h.1 with z | z
      · exact Or.inr (by rw [← z, hv])
      · exact Or.inl (by rw [← hv, z])
    | succ i =>
      simp only [List.getElem?_cons_succ] at hv ⊢
      exact h2 i v hv
  | [], _ :: _, h => h.elim
  | _ :: _, [], h => h.elim
theorem v_weak {m : MInfo} {kc ks pc : Nat} {E st : List AV} {ρ : Rho} {h : Hh} {Q : PQ} {X : PX} {E2 : List AV} (hle : am_le E2 E) (k : am_V m kc ks pc E2 st ρ h Q X) : am_V m kc ks pc E st ρ h Q X := by
  intro l p e R s q args below meth c D cA B b g0 g1 Z H locs cells slots ls hC hZ hR hL hS hF hc hs
  obtain ⟨h1, h2⟩ := am_le_get hle
  refine k l p e R s q args below meth c D cA B b g0 g1 Z H locs cells slots ls hC hZ hR ⟨hL.1, h1.trans hL.2.1, hL.2.2.1, fun i v hv => ?_⟩ hS hF hc hs
  rcases h2 i v hv with z | z
  · exact Or.inl z
  · exact hL.2.2.2 i v z
theorem v_lessR {m : MInfo} {kc ks pc : Nat} {E st : List AV} {ρ : Rho} {h : Hh} {Q : PQ} {X : PX} {kc2 ks2 : Nat} (h1 : kc2 ≤ kc) (h2 : ks2 ≤ ks) (k : am_V m kc2 ks2 pc E st ρ h Q X) : am_V m kc ks pc E st ρ h Q X := by
  intro l p e R s q args below meth c D cA B b g0 g1 Z H locs cells slots ls hC hZ hR hL hS hF hc hs
  exact k l p e R s q args below meth c D cA B b g0 g1 Z H locs cells slots ls hC hZ hR hL hS hF (by omega) (by omega)
theorem am_b8 {n : Int} (h1 : -128 ≤ n) (h2 : n ≤ 127) : (Int8.ofInt n).toInt32 = Int32.ofInt n := by
  apply am_asI
  rw [Int8.toInt_toInt32, Int8.toInt_ofInt]
  exact Int.bmod_eq_of_le (by show -(((256 : Nat) : Int) / 2) ≤ n; omega) (by show n < (((256 : Nat) : Int) + 1) / 2; omega)
theorem am_b16 {n : Int} (h1 : -32768 ≤ n) (h2 : n ≤ 32767) : (Int16.ofInt n).toInt32 = Int32.ofInt n := by
  apply am_asI
  rw [Int16.toInt_toInt32, Int16.toInt_ofInt]
  exact Int.bmod_eq_of_le (by show -(((65536 : Nat) : Int) / 2) ≤ n; omega) (by show n < (((65536 : Nat) : Int) + 1) / 2; omega)
theorem am_char {x : Int} : ((Int32.ofInt x).toUInt32 % 65536).toInt32 = Int32.ofInt (x % 65536) := by
  apply am_asI
  have h1 := pk_char (Int32.ofInt x)
  rw [h1]
  have h2 : (Int32.ofInt x).toBitVec.toNat = (x % 4294967296).toNat := by
    show (BitVec.ofInt 32 x).toNat = _
    rw [BitVec.toNat_ofInt]
    rfl
  rw [h2, nI_toInt (by omega)]
  omega
theorem am_divI {x y : Int} (hx : 0 ≤ x) (hy : 0 < y) (ix : am_i x) (iy : am_i y) : Int32.ofInt x / Int32.ofInt y = Int32.ofInt (x / y) := by
  apply am_asI
  have h1 : 0 ≤ x / y := Int.ediv_nonneg hx (by omega)
  have h2 : x / y ≤ x := Int.ediv_le_self _ hx
  rw [Int32.toInt_div, am_toI ix, am_toI iy, Int.tdiv_eq_ediv_of_nonneg hx]
  exact am_bmI ⟨by omega, by have := ix.2; omega⟩
theorem am_ne0 {y : Int} (hy : 0 < y) (iy : am_i y) : ¬ Int32.ofInt y = 0 := by
  intro q
  have := (am_eqI iy am_i0).mp (q.trans am_0I.symm)
  omega
theorem am_divL {x y : Int} (hx : 0 ≤ x) (hy : 0 < y) (ix : am_l x) (iy : am_l y) : Int64.ofInt x / Int64.ofInt y = Int64.ofInt (x / y) := by
  apply am_asL
  have h1 : 0 ≤ x / y := Int.ediv_nonneg hx (by omega)
  have h2 : x / y ≤ x := Int.ediv_le_self _ hx
  rw [Int64.toInt_div, am_toL ix, am_toL iy, Int.tdiv_eq_ediv_of_nonneg hx]
  exact am_bmL ⟨by omega, by have := ix.2; omega⟩
theorem am_ne0L {y : Int} (hy : 0 < y) (iy : am_l y) : ¬ Int64.ofInt y = 0 := by
  intro q
  have h0 : Int64.ofInt y = Int64.ofInt 0 := q
  have := congrArg Int64.toInt h0
  rw [am_toL iy, am_toL ⟨by decide, by decide⟩] at this
  omega
theorem am_wL (z : Int) : am_l (z.bmod (2 ^ 64)) := by
  have h1 := Int.le_bmod (x := z) (m := 2 ^ 64) (by decide)
  have h2 := Int.bmod_lt (x := z) (m := 2 ^ 64) (by decide)
  exact ⟨by omega, by omega⟩
theorem am_asW {z : Int64} {x : Int} (h : z.toInt = x.bmod (2 ^ 64)) : z = Int64.ofInt (x.bmod (2 ^ 64)) := am_asL h
theorem am_addL {x y : Int} (hx : am_l x) (hy : am_l y) : Int64.ofInt x + Int64.ofInt y = Int64.ofInt ((x + y).bmod (2 ^ 64)) := am_asL (by rw [Int64.toInt_add, am_toL hx, am_toL hy])
theorem am_subL {x y : Int} (hx : am_l x) (hy : am_l y) : Int64.ofInt x - Int64.ofInt y = Int64.ofInt ((x - y).bmod (2 ^ 64)) := am_asL (by rw [Int64.toInt_sub, am_toL hx, am_toL hy])
theorem am_mulL {x y : Int} (hx : am_l x) (hy : am_l y) : Int64.ofInt x * Int64.ofInt y = Int64.ofInt ((x * y).bmod (2 ^ 64)) := am_asL (by rw [Int64.toInt_mul, am_toL hx, am_toL hy])
theorem am_i2l {x : Int} (hx : am_i x) : (Int32.ofInt x).toInt64 = Int64.ofInt x := am_asL (by rw [Int32.toInt_toInt64, am_toI hx])
theorem am_lOf {x : Int} (hx : am_i x) : am_l x := ⟨by have := hx.1; omega, by have := hx.2; omega⟩
theorem am_cmpL {x y : Int} (hx : am_l x) (hy : am_l y) : lg_cmp (Int64.ofInt x) (Int64.ofInt y) = Int32.ofInt (if y < x then 1 else if x = y then 0 else -1) := by
  unfold lg_cmp
  have e1 : (Int64.ofInt x > Int64.ofInt y) = (y < x) := by
    show (Int64.ofInt y < Int64.ofInt x) = _
    rw [Int64.lt_iff_toInt_lt, am_toL hx, am_toL hy]
  have e2 : (Int64.ofInt x = Int64.ofInt y) = (x = y) := by
    rw [← Int64.toInt_inj, am_toL hx, am_toL hy]
  simp only [e1, e2]
  split
  · rfl
  · split <;> rfl
theorem am_andI (x y : Int) : am_i (Int32.ofInt x &&& Int32.ofInt y).toInt := am_rI _
theorem v_iconst {m : MInfo} {kc ks pc : Nat} {E st : List AV} {ρ : Rho} {h : Hh} {Q : PQ} {X : PX} {n : Int} (hd : decode (am_cc m) pc = .ok (.iconst n, 1)) (hn : am_i n) (k : am_V m kc ks (pc + 1) E (aI n :: st) ρ h Q X) : am_V m kc ks pc E st ρ h Q X := by
  intro l p e R s q args below meth c D cA B b g0 g1 Z H locs cells slots ls hC hZ hR hL hS hF hc hs
  exact lv_iconst hC.2.1 hC.2.2.1 hd rfl (k l p e R s q args below meth c D cA B b g0 g1 Z H locs cells slots ls hC hZ hR hL (am_StC hn hS) hF hc hs)
theorem v_bipush {m : MInfo} {kc ks pc : Nat} {E st : List AV} {ρ : Rho} {h : Hh} {Q : PQ} {X : PX} {n : Int} (hd : decode (am_cc m) pc = .ok (.bipush n, 2)) (h1 : -128 ≤ n) (h2 : n ≤ 127) (k : am_V m kc ks (pc + 2) E (aI n :: st) ρ h Q X) : am_V m kc ks pc E st ρ h Q X := by
  intro l p e R s q args below meth c D cA B b g0 g1 Z H locs cells slots ls hC hZ hR hL hS hF hc hs
  exact lv_bipush hC.2.1 hC.2.2.1 hd (am_b8 h1 h2) (k l p e R s q args below meth c D cA B b g0 g1 Z H locs cells slots ls hC hZ hR hL (am_StC ⟨by omega, by omega⟩ hS) hF hc hs)
theorem v_sipush {m : MInfo} {kc ks pc : Nat} {E st : List AV} {ρ : Rho} {h : Hh} {Q : PQ} {X : PX} {n : Int} (hd : decode (am_cc m) pc = .ok (.sipush n, 3)) (h1 : -32768 ≤ n) (h2 : n ≤ 32767) (k : am_V m kc ks (pc + 3) E (aI n :: st) ρ h Q X) : am_V m kc ks pc E st ρ h Q X := by
  intro l p e R s q args below meth c D cA B b g0 g1 Z H locs cells slots ls hC hZ hR hL hS hF hc hs
  exact lv_sipush hC.2.1 hC.2.2.1 hd (am_b16 h1 h2) (k l p e R s q args below meth c D cA B b g0 g1 Z H locs cells slots ls hC hZ hR hL (am_StC ⟨by omega, by omega⟩ hS) hF hc hs)
theorem v_lconst {m : MInfo} {kc ks pc : Nat} {E st : List AV} {ρ : Rho} {h : Hh} {Q : PQ} {X : PX} {n : Fin 2} {x : Int} (hd : decode (am_cc m) pc = .ok (.lconst n, 1)) (hx : ((n : Nat) : Int) = x) (k : am_V m kc ks (pc + 1) E (aL x :: st) ρ h Q X) : am_V m kc ks pc E st ρ h Q X := by
  intro l p e R s q args below meth c D cA B b g0 g1 Z H locs cells slots ls hC hZ hR hL hS hF hc hs
  exact lv_lconst hC.2.1 hC.2.2.1 hd (show Int64.ofNat _ = Int64.ofInt x by rw [← hx]; rfl) (k l p e R s q args below meth c D cA B b g0 g1 Z H locs cells slots ls hC hZ hR hL (am_StC ⟨by omega, by omega⟩ hS) hF hc hs)
theorem v_fconst0 {m : MInfo} {kc ks pc : Nat} {E st : List AV} {ρ : Rho} {h : Hh} {Q : PQ} {X : PX}  (hd : decode (am_cc m) pc = .ok (.fconst 0, 1))  (k : am_V m kc ks (pc + 1) E (aF 0 :: st) ρ h Q X) : am_V m kc ks pc E st ρ h Q X := by
  intro l p e R s q args below meth c D cA B b g0 g1 Z H locs cells slots ls hC hZ hR hL hS hF hc hs
  exact lv_fconst0 hC.2.1 hC.2.2.1 hd (k l p e R s q args below meth c D cA B b g0 g1 Z H locs cells slots ls hC hZ hR hL (am_StC trivial hS) hF hc hs)
theorem v_dconst0 {m : MInfo} {kc ks pc : Nat} {E st : List AV} {ρ : Rho} {h : Hh} {Q : PQ} {X : PX}  (hd : decode (am_cc m) pc = .ok (.dconst 0, 1))  (k : am_V m kc ks (pc + 1) E (aD 0 :: st) ρ h Q X) : am_V m kc ks pc E st ρ h Q X := by
  intro l p e R s q args below meth c D cA B b g0 g1 Z H locs cells slots ls hC hZ hR hL hS hF hc hs
  exact lv_dconst0 hC.2.1 hC.2.2.1 hd (k l p e R s q args below meth c D cA B b g0 g1 Z H locs cells slots ls hC hZ hR hL (am_StC trivial hS) hF hc hs)
theorem v_ldc2l {m : MInfo} {kc ks pc : Nat} {E st : List AV} {ρ : Rho} {h : Hh} {Q : PQ} {X : PX} {n : Nat} {x : Int} (hd : decode (am_cc m) pc = .ok (.ldc2_w n, 3)) (hw : Cond.constantLong (am_own m) n (Int64.ofInt x) ∈ am_W0) (hx : am_l x) (k : am_V m kc ks (pc + 3) E (aL x :: st) ρ h Q X) : am_V m kc ks pc E st ρ h Q X := by
  intro l p e R s q args below meth c D cA B b g0 g1 Z H locs cells slots ls hC hZ hR hL hS hF hc hs
  exact lv_ldc2 hC.2.1 hC.2.2.1 hC.2.2.2.2.2.1 (hC.2.2.2.2.2.2.1 _ hw) hd (k l p e R s q args below meth c D cA B b g0 g1 Z H locs cells slots ls hC hZ hR hL (am_StC hx hS) hF hc hs)
theorem v_iload_n {m : MInfo} {kc ks pc : Nat} {E st : List AV} {ρ : Rho} {h : Hh} {Q : PQ} {X : PX} {i : Fin 4} {j : Nat} {x : Int} (hd : decode (am_cc m) pc = .ok (.iload_n i, 1)) (hi : (i : Nat) = j) (he : E[j]? = some (aI x)) (k : am_V m kc ks (pc + 1) E (aI x :: st) ρ h Q X) : am_V m kc ks pc E st ρ h Q X := by
  intro l p e R s q args below meth c D cA B b g0 g1 Z H locs cells slots ls hC hZ hR hL hS hF hc hs
  exact lv_iload_n hC.2.1 hC.2.2.1 hd hi (hL.at he (by intro z; cases z)).1 (k l p e R s q args below meth c D cA B b g0 g1 Z H locs cells slots ls hC hZ hR hL (am_StC (hL.at he (by intro z; cases z)).2 hS) hF hc hs)
theorem v_iload {m : MInfo} {kc ks pc : Nat} {E st : List AV} {ρ : Rho} {h : Hh} {Q : PQ} {X : PX} {i : Nat} {x : Int} (hd : decode (am_cc m) pc = .ok (.iload i, 2)) (he : E[i]? = some (aI x)) (k : am_V m kc ks (pc + 2) E (aI x :: st) ρ h Q X) : am_V m kc ks pc E st ρ h Q X := by
  intro l p e R s q args below meth c D cA B b g0 g1 Z H locs cells slots ls hC hZ hR hL hS hF hc hs
  exact lv_iload hC.2.1 hC.2.2.1 hd (hL.at he (by intro z; cases z)).1 (k l p e R s q args below meth c D cA B b g0 g1 Z H locs cells slots ls hC hZ hR hL (am_StC (hL.at he (by intro z; cases z)).2 hS) hF hc hs)
theorem v_lload_n {m : MInfo} {kc ks pc : Nat} {E st : List AV} {ρ : Rho} {h : Hh} {Q : PQ} {X : PX} {i : Fin 4} {j : Nat} {x : Int} (hd : decode (am_cc m) pc = .ok (.lload_n i, 1)) (hi : (i : Nat) = j) (he : E[j]? = some (aL x)) (k : am_V m kc ks (pc + 1) E (aL x :: st) ρ h Q X) : am_V m kc ks pc E st ρ h Q X := by
  intro l p e R s q args below meth c D cA B b g0 g1 Z H locs cells slots ls hC hZ hR hL hS hF hc hs
  exact lv_lload_n hC.2.1 hC.2.2.1 hd hi (hL.at he (by intro z; cases z)).1 (k l p e R s q args below meth c D cA B b g0 g1 Z H locs cells slots ls hC hZ hR hL (am_StC (hL.at he (by intro z; cases z)).2 hS) hF hc hs)
theorem v_lload {m : MInfo} {kc ks pc : Nat} {E st : List AV} {ρ : Rho} {h : Hh} {Q : PQ} {X : PX} {i : Nat} {x : Int} (hd : decode (am_cc m) pc = .ok (.lload i, 2)) (he : E[i]? = some (aL x)) (k : am_V m kc ks (pc + 2) E (aL x :: st) ρ h Q X) : am_V m kc ks pc E st ρ h Q X := by
  intro l p e R s q args below meth c D cA B b g0 g1 Z H locs cells slots ls hC hZ hR hL hS hF hc hs
  exact lv_lload hC.2.1 hC.2.2.1 hd (hL.at he (by intro z; cases z)).1 (k l p e R s q args below meth c D cA B b g0 g1 Z H locs cells slots ls hC hZ hR hL (am_StC (hL.at he (by intro z; cases z)).2 hS) hF hc hs)
theorem v_fload_n {m : MInfo} {kc ks pc : Nat} {E st : List AV} {ρ : Rho} {h : Hh} {Q : PQ} {X : PX} {i : Fin 4} {j : Nat} {x : UInt32} (hd : decode (am_cc m) pc = .ok (.fload_n i, 1)) (hi : (i : Nat) = j) (he : E[j]? = some (aF x)) (k : am_V m kc ks (pc + 1) E (aF x :: st) ρ h Q X) : am_V m kc ks pc E st ρ h Q X := by
  intro l p e R s q args below meth c D cA B b g0 g1 Z H locs cells slots ls hC hZ hR hL hS hF hc hs
  exact lv_fload_n hC.2.1 hC.2.2.1 hd hi (hL.at he (by intro z; cases z)).1 (k l p e R s q args below meth c D cA B b g0 g1 Z H locs cells slots ls hC hZ hR hL (am_StC (hL.at he (by intro z; cases z)).2 hS) hF hc hs)
theorem v_fload {m : MInfo} {kc ks pc : Nat} {E st : List AV} {ρ : Rho} {h : Hh} {Q : PQ} {X : PX} {i : Nat} {x : UInt32} (hd : decode (am_cc m) pc = .ok (.fload i, 2)) (he : E[i]? = some (aF x)) (k : am_V m kc ks (pc + 2) E (aF x :: st) ρ h Q X) : am_V m kc ks pc E st ρ h Q X := by
  intro l p e R s q args below meth c D cA B b g0 g1 Z H locs cells slots ls hC hZ hR hL hS hF hc hs
  exact lv_fload hC.2.1 hC.2.2.1 hd (hL.at he (by intro z; cases z)).1 (k l p e R s q args below meth c D cA B b g0 g1 Z H locs cells slots ls hC hZ hR hL (am_StC (hL.at he (by intro z; cases z)).2 hS) hF hc hs)
theorem v_dload_n {m : MInfo} {kc ks pc : Nat} {E st : List AV} {ρ : Rho} {h : Hh} {Q : PQ} {X : PX} {i : Fin 4} {j : Nat} {x : UInt64} (hd : decode (am_cc m) pc = .ok (.dload_n i, 1)) (hi : (i : Nat) = j) (he : E[j]? = some (aD x)) (k : am_V m kc ks (pc + 1) E (aD x :: st) ρ h Q X) : am_V m kc ks pc E st ρ h Q X := by
  intro l p e R s q args below meth c D cA B b g0 g1 Z H locs cells slots ls hC hZ hR hL hS hF hc hs
  exact lv_dload_n hC.2.1 hC.2.2.1 hd hi (hL.at he (by intro z; cases z)).1 (k l p e R s q args below meth c D cA B b g0 g1 Z H locs cells slots ls hC hZ hR hL (am_StC (hL.at he (by intro z; cases z)).2 hS) hF hc hs)
theorem v_dload {m : MInfo} {kc ks pc : Nat} {E st : List AV} {ρ : Rho} {h : Hh} {Q : PQ} {X : PX} {i : Nat} {x : UInt64} (hd : decode (am_cc m) pc = .ok (.dload i, 2)) (he : E[i]? = some (aD x)) (k : am_V m kc ks (pc + 2) E (aD x :: st) ρ h Q X) : am_V m kc ks pc E st ρ h Q X := by
  intro l p e R s q args below meth c D cA B b g0 g1 Z H locs cells slots ls hC hZ hR hL hS hF hc hs
  exact lv_dload hC.2.1 hC.2.2.1 hd (hL.at he (by intro z; cases z)).1 (k l p e R s q args below meth c D cA B b g0 g1 Z H locs cells slots ls hC hZ hR hL (am_StC (hL.at he (by intro z; cases z)).2 hS) hF hc hs)
theorem v_aload_n {m : MInfo} {kc ks pc : Nat} {E st : List AV} {ρ : Rho} {h : Hh} {Q : PQ} {X : PX} {i : Fin 4} {j x : Nat} (hd : decode (am_cc m) pc = .ok (.aload_n i, 1)) (hi : (i : Nat) = j) (he : E[j]? = some (aR x)) (k : am_V m kc ks (pc + 1) E (aR x :: st) ρ h Q X) : am_V m kc ks pc E st ρ h Q X := by
  intro l p e R s q args below meth c D cA B b g0 g1 Z H locs cells slots ls hC hZ hR hL hS hF hc hs
  exact lv_aload_n hC.2.1 hC.2.2.1 hd hi (hL.at he (by intro z; cases z)).1 (k l p e R s q args below meth c D cA B b g0 g1 Z H locs cells slots ls hC hZ hR hL (am_StC trivial hS) hF hc hs)
theorem v_aload {m : MInfo} {kc ks pc : Nat} {E st : List AV} {ρ : Rho} {h : Hh} {Q : PQ} {X : PX} {i x : Nat} (hd : decode (am_cc m) pc = .ok (.aload i, 2)) (he : E[i]? = some (aR x)) (k : am_V m kc ks (pc + 2) E (aR x :: st) ρ h Q X) : am_V m kc ks pc E st ρ h Q X := by
  intro l p e R s q args below meth c D cA B b g0 g1 Z H locs cells slots ls hC hZ hR hL hS hF hc hs
  exact lv_aload hC.2.1 hC.2.2.1 hd (hL.at he (by intro z; cases z)).1 (k l p e R s q args below meth c D cA B b g0 g1 Z H locs cells slots ls hC hZ hR hL (am_StC trivial hS) hF hc hs)
theorem v_istore {m : MInfo} {kc ks pc : Nat} {E st : List AV} {ρ : Rho} {h : Hh} {Q : PQ} {X : PX} {E2 : List AV} {i : Nat} {x : Int} (hd : decode (am_cc m) pc = .ok (.istore i, 2)) (hi : i < am_ml m) (hE : am_s1 E i (aI x) = E2) (k : am_V m kc ks (pc + 2) E2 st ρ h Q X) : am_V m kc ks pc E (aI x :: st) ρ h Q X := by
  intro l p e R s q args below meth c D cA B b g0 g1 Z H locs cells slots ls hC hZ hR hL hS hF hc hs
  subst hE
  exact lv_istore hC.2.1 hC.2.2.1 hd (am_all_has hL.1 hL.2.2.1) hi rfl (fun ls2 h2 => (k l p e R s q args below meth c D cA B b g0 g1 Z H locs cells slots ls2 hC hZ hR (hL.s1 (am_StH hS) h2) (am_StT hS) hF hc hs))
theorem v_istore_n {m : MInfo} {kc ks pc : Nat} {E st : List AV} {ρ : Rho} {h : Hh} {Q : PQ} {X : PX} {E2 : List AV} {j : Fin 4} {i : Nat} {x : Int} (hd : decode (am_cc m) pc = .ok (.istore_n j, 1)) (hj : (j : Nat) = i) (hi : i < am_ml m) (hE : am_s1 E i (aI x) = E2) (k : am_V m kc ks (pc + 1) E2 st ρ h Q X) : am_V m kc ks pc E (aI x :: st) ρ h Q X := by
  intro l p e R s q args below meth c D cA B b g0 g1 Z H locs cells slots ls hC hZ hR hL hS hF hc hs
  subst hE
  exact lv_istore_n hC.2.1 hC.2.2.1 hd hj (am_all_has hL.1 hL.2.2.1) hi rfl (fun ls2 h2 => (k l p e R s q args below meth c D cA B b g0 g1 Z H locs cells slots ls2 hC hZ hR (hL.s1 (am_StH hS) h2) (am_StT hS) hF hc hs))
theorem v_lstore {m : MInfo} {kc ks pc : Nat} {E st : List AV} {ρ : Rho} {h : Hh} {Q : PQ} {X : PX} {E2 : List AV} {i : Nat} {x : Int} (hd : decode (am_cc m) pc = .ok (.lstore i, 2)) (hi : i + 1 < am_ml m) (hE : am_s2 E i (aL x) = E2) (k : am_V m kc ks (pc + 2) E2 st ρ h Q X) : am_V m kc ks pc E (aL x :: st) ρ h Q X := by
  intro l p e R s q args below meth c D cA B b g0 g1 Z H locs cells slots ls hC hZ hR hL hS hF hc hs
  subst hE
  exact lv_lstore hC.2.1 hC.2.2.1 hd (am_all_has hL.1 hL.2.2.1) hi rfl (fun ls2 h2 => (k l p e R s q args below meth c D cA B b g0 g1 Z H locs cells slots ls2 hC hZ hR (hL.s2 (am_StH hS) h2) (am_StT hS) hF hc hs))
theorem v_lstore_n {m : MInfo} {kc ks pc : Nat} {E st : List AV} {ρ : Rho} {h : Hh} {Q : PQ} {X : PX} {E2 : List AV} {j : Fin 4} {i : Nat} {x : Int} (hd : decode (am_cc m) pc = .ok (.lstore_n j, 1)) (hj : (j : Nat) = i) (hi : i + 1 < am_ml m) (hE : am_s2 E i (aL x) = E2) (k : am_V m kc ks (pc + 1) E2 st ρ h Q X) : am_V m kc ks pc E (aL x :: st) ρ h Q X := by
  intro l p e R s q args below meth c D cA B b g0 g1 Z H locs cells slots ls hC hZ hR hL hS hF hc hs
  subst hE
  exact lv_lstore_n hC.2.1 hC.2.2.1 hd hj (am_all_has hL.1 hL.2.2.1) hi rfl (fun ls2 h2 => (k l p e R s q args below meth c D cA B b g0 g1 Z H locs cells slots ls2 hC hZ hR (hL.s2 (am_StH hS) h2) (am_StT hS) hF hc hs))
theorem v_fstore {m : MInfo} {kc ks pc : Nat} {E st : List AV} {ρ : Rho} {h : Hh} {Q : PQ} {X : PX} {E2 : List AV} {i : Nat} {x : UInt32} (hd : decode (am_cc m) pc = .ok (.fstore i, 2)) (hi : i < am_ml m) (hE : am_s1 E i (aF x) = E2) (k : am_V m kc ks (pc + 2) E2 st ρ h Q X) : am_V m kc ks pc E (aF x :: st) ρ h Q X := by
  intro l p e R s q args below meth c D cA B b g0 g1 Z H locs cells slots ls hC hZ hR hL hS hF hc hs
  subst hE
  exact lv_fstore hC.2.1 hC.2.2.1 hd (am_all_has hL.1 hL.2.2.1) hi rfl (fun ls2 h2 => (k l p e R s q args below meth c D cA B b g0 g1 Z H locs cells slots ls2 hC hZ hR (hL.s1 (am_StH hS) h2) (am_StT hS) hF hc hs))
theorem v_fstore_n {m : MInfo} {kc ks pc : Nat} {E st : List AV} {ρ : Rho} {h : Hh} {Q : PQ} {X : PX} {E2 : List AV} {j : Fin 4} {i : Nat} {x : UInt32} (hd : decode (am_cc m) pc = .ok (.fstore_n j, 1)) (hj : (j : Nat) = i) (hi : i < am_ml m) (hE : am_s1 E i (aF x) = E2) (k : am_V m kc ks (pc + 1) E2 st ρ h Q X) : am_V m kc ks pc E (aF x :: st) ρ h Q X := by
  intro l p e R s q args below meth c D cA B b g0 g1 Z H locs cells slots ls hC hZ hR hL hS hF hc hs
  subst hE
  exact lv_fstore_n hC.2.1 hC.2.2.1 hd hj (am_all_has hL.1 hL.2.2.1) hi rfl (fun ls2 h2 => (k l p e R s q args below meth c D cA B b g0 g1 Z H locs cells slots ls2 hC hZ hR (hL.s1 (am_StH hS) h2) (am_StT hS) hF hc hs))
theorem v_dstore {m : MInfo} {kc ks pc : Nat} {E st : List AV} {ρ : Rho} {h : Hh} {Q : PQ} {X : PX} {E2 : List AV} {i : Nat} {x : UInt64} (hd : decode (am_cc m) pc = .ok (.dstore i, 2)) (hi : i + 1 < am_ml m) (hE : am_s2 E i (aD x) = E2) (k : am_V m kc ks (pc + 2) E2 st ρ h Q X) : am_V m kc ks pc E (aD x :: st) ρ h Q X := by
  intro l p e R s q args below meth c D cA B b g0 g1 Z H locs cells slots ls hC hZ hR hL hS hF hc hs
  subst hE
  exact lv_dstore hC.2.1 hC.2.2.1 hd (am_all_has hL.1 hL.2.2.1) hi rfl (fun ls2 h2 => (k l p e R s q args below meth c D cA B b g0 g1 Z H locs cells slots ls2 hC hZ hR (hL.s2 (am_StH hS) h2) (am_StT hS) hF hc hs))
theorem v_dstore_n {m : MInfo} {kc ks pc : Nat} {E st : List AV} {ρ : Rho} {h : Hh} {Q : PQ} {X : PX} {E2 : List AV} {j : Fin 4} {i : Nat} {x : UInt64} (hd : decode (am_cc m) pc = .ok (.dstore_n j, 1)) (hj : (j : Nat) = i) (hi : i + 1 < am_ml m) (hE : am_s2 E i (aD x) = E2) (k : am_V m kc ks (pc + 1) E2 st ρ h Q X) : am_V m kc ks pc E (aD x :: st) ρ h Q X := by
  intro l p e R s q args below meth c D cA B b g0 g1 Z H locs cells slots ls hC hZ hR hL hS hF hc hs
  subst hE
  exact lv_dstore_n hC.2.1 hC.2.2.1 hd hj (am_all_has hL.1 hL.2.2.1) hi rfl (fun ls2 h2 => (k l p e R s q args below meth c D cA B b g0 g1 Z H locs cells slots ls2 hC hZ hR (hL.s2 (am_StH hS) h2) (am_StT hS) hF hc hs))
theorem v_astore {m : MInfo} {kc ks pc : Nat} {E st : List AV} {ρ : Rho} {h : Hh} {Q : PQ} {X : PX} {E2 : List AV} {i : Nat} {x : Nat} (hd : decode (am_cc m) pc = .ok (.astore i, 2)) (hi : i < am_ml m) (hE : am_s1 E i (aR x) = E2) (k : am_V m kc ks (pc + 2) E2 st ρ h Q X) : am_V m kc ks pc E (aR x :: st) ρ h Q X := by
  intro l p e R s q args below meth c D cA B b g0 g1 Z H locs cells slots ls hC hZ hR hL hS hF hc hs
  subst hE
  exact lv_astore hC.2.1 hC.2.2.1 hd (am_all_has hL.1 hL.2.2.1) hi rfl (fun ls2 h2 => (k l p e R s q args below meth c D cA B b g0 g1 Z H locs cells slots ls2 hC hZ hR (hL.s1 (am_StH hS) h2) (am_StT hS) hF hc hs))
theorem v_astore_n {m : MInfo} {kc ks pc : Nat} {E st : List AV} {ρ : Rho} {h : Hh} {Q : PQ} {X : PX} {E2 : List AV} {j : Fin 4} {i : Nat} {x : Nat} (hd : decode (am_cc m) pc = .ok (.astore_n j, 1)) (hj : (j : Nat) = i) (hi : i < am_ml m) (hE : am_s1 E i (aR x) = E2) (k : am_V m kc ks (pc + 1) E2 st ρ h Q X) : am_V m kc ks pc E (aR x :: st) ρ h Q X := by
  intro l p e R s q args below meth c D cA B b g0 g1 Z H locs cells slots ls hC hZ hR hL hS hF hc hs
  subst hE
  exact lv_astore_n hC.2.1 hC.2.2.1 hd hj (am_all_has hL.1 hL.2.2.1) hi rfl (fun ls2 h2 => (k l p e R s q args below meth c D cA B b g0 g1 Z H locs cells slots ls2 hC hZ hR (hL.s1 (am_StH hS) h2) (am_StT hS) hF hc hs))
theorem am_getAll {ls : Array Slot} {nL j : Nat} {w : Value} (h1 : ls.size = nL) (h : ls[j]? = some (.val w)) : ∃ k : Nat, (am_all ls nL)[k]? = some (j, w) := by
  obtain ⟨k, hk⟩ := List.getElem?_of_mem (am_all_mem h1 h)
  exact ⟨k, hk⟩
theorem v_iinc {m : MInfo} {kc ks pc : Nat} {E st : List AV} {ρ : Rho} {h : Hh} {Q : PQ} {X : PX} {E2 : List AV} {i : Nat} {n x : Int} (hd : decode (am_cc m) pc = .ok (.iinc i n, 3)) (he : E[i]? = some (aI x)) (hr : am_i (x + n)) (hE : am_s1 E i (aI (x + n)) = E2) (k : am_V m kc ks (pc + 3) E2 st ρ h Q X) : am_V m kc ks pc E st ρ h Q X := by
  intro l p e R s q args below meth c D cA B b g0 g1 Z H locs cells slots ls hC hZ hR hL hS hF hc hs
  subst hE
  obtain ⟨k9, hk9⟩ := am_getAll hL.1 (hL.at he (by intro z; cases z)).1
  exact lv_iinc hC.2.1 hC.2.2.1 hd (am_all_has hL.1 hL.2.2.1) hk9 am_add (hL.lt he) rfl (fun ls2 h2 => (k l p e R s q args below meth c D cA B b g0 g1 Z H locs cells slots ls2 hC hZ hR (hL.s1 (v := aI (x + n)) hr h2) hS hF hc hs))
theorem v_iadd {m : MInfo} {kc ks pc : Nat} {E st : List AV} {ρ : Rho} {h : Hh} {Q : PQ} {X : PX} {x y : Int} (hd : decode (am_cc m) pc = .ok (.iadd, 1)) (hr : am_i (x + y)) (k : am_V m kc ks (pc + 1) E (aI (x + y) :: st) ρ h Q X) : am_V m kc ks pc E (aI y :: aI x :: st) ρ h Q X := by
  intro l p e R s q args below meth c D cA B b g0 g1 Z H locs cells slots ls hC hZ hR hL hS hF hc hs
  have hy := am_StH hS
  have hx := am_StH (am_StT hS)
  refine lv_iadd hC.2.1 hC.2.2.1 hd ?_
  rw [am_add]
  exact (k l p e R s q args below meth c D cA B b g0 g1 Z H locs cells slots ls hC hZ hR hL (am_StC hr (am_StT (am_StT hS))) hF hc hs)
theorem v_isub {m : MInfo} {kc ks pc : Nat} {E st : List AV} {ρ : Rho} {h : Hh} {Q : PQ} {X : PX} {x y : Int} (hd : decode (am_cc m) pc = .ok (.isub, 1)) (hr : am_i (x - y)) (k : am_V m kc ks (pc + 1) E (aI (x - y) :: st) ρ h Q X) : am_V m kc ks pc E (aI y :: aI x :: st) ρ h Q X := by
  intro l p e R s q args below meth c D cA B b g0 g1 Z H locs cells slots ls hC hZ hR hL hS hF hc hs
  have hy := am_StH hS
  have hx := am_StH (am_StT hS)
  refine lv_isub hC.2.1 hC.2.2.1 hd ?_
  rw [am_sub]
  exact (k l p e R s q args below meth c D cA B b g0 g1 Z H locs cells slots ls hC hZ hR hL (am_StC hr (am_StT (am_StT hS))) hF hc hs)
theorem v_imul {m : MInfo} {kc ks pc : Nat} {E st : List AV} {ρ : Rho} {h : Hh} {Q : PQ} {X : PX} {x y : Int} (hd : decode (am_cc m) pc = .ok (.imul, 1)) (hr : am_i (x * y)) (k : am_V m kc ks (pc + 1) E (aI (x * y) :: st) ρ h Q X) : am_V m kc ks pc E (aI y :: aI x :: st) ρ h Q X := by
  intro l p e R s q args below meth c D cA B b g0 g1 Z H locs cells slots ls hC hZ hR hL hS hF hc hs
  have hy := am_StH hS
  have hx := am_StH (am_StT hS)
  refine lv_imul hC.2.1 hC.2.2.1 hd ?_
  rw [am_mul]
  exact (k l p e R s q args below meth c D cA B b g0 g1 Z H locs cells slots ls hC hZ hR hL (am_StC hr (am_StT (am_StT hS))) hF hc hs)
theorem v_idiv {m : MInfo} {kc ks pc : Nat} {E st : List AV} {ρ : Rho} {h : Hh} {Q : PQ} {X : PX} {x y : Int} (hd : decode (am_cc m) pc = .ok (.idiv, 1)) (h1 : 0 ≤ x) (h2 : 0 < y) (k : am_V m kc ks (pc + 1) E (aI (x / y) :: st) ρ h Q X) : am_V m kc ks pc E (aI y :: aI x :: st) ρ h Q X := by
  intro l p e R s q args below meth c D cA B b g0 g1 Z H locs cells slots ls hC hZ hR hL hS hF hc hs
  have hy := am_StH hS
  have hx := am_StH (am_StT hS)
  refine lv_idiv hC.2.1 hC.2.2.1 hd (am_ne0 h2 hy) ?_
  rw [am_divI h1 h2 hx hy]
  exact (k l p e R s q args below meth c D cA B b g0 g1 Z H locs cells slots ls hC hZ hR hL (am_StC (show am_i (x / y) from ⟨by have := Int.ediv_nonneg h1 (Int.le_of_lt h2); omega, by have := Int.ediv_le_self y h1; have h9 : am_i x := hx; have := h9.2; omega⟩) (am_StT (am_StT hS))) hF hc hs)
theorem v_irem {m : MInfo} {kc ks pc : Nat} {E st : List AV} {ρ : Rho} {h : Hh} {Q : PQ} {X : PX} {x y : Int} (hd : decode (am_cc m) pc = .ok (.irem, 1)) (h1 : 0 ≤ x) (h2 : 0 < y) (k : am_V m kc ks (pc + 1) E (aI (x % y) :: st) ρ h Q X) : am_V m kc ks pc E (aI y :: aI x :: st) ρ h Q X := by
  intro l p e R s q args below meth c D cA B b g0 g1 Z H locs cells slots ls hC hZ hR hL hS hF hc hs
  have hy := am_StH hS
  have hx := am_StH (am_StT hS)
  refine lv_irem hC.2.1 hC.2.2.1 hd (am_ne0 h2 hy) ?_
  rw [am_divI h1 h2 hx hy, am_mul, am_sub, show x - x / y * y = x % y by rw [Int.emod_def, Int.mul_comm]]
  exact (k l p e R s q args below meth c D cA B b g0 g1 Z H locs cells slots ls hC hZ hR hL (am_StC (show am_i (x % y) from ⟨by have := Int.emod_nonneg x (by omega : y ≠ 0); omega, by have := Int.emod_lt_of_pos x h2; have h9 : am_i y := hy; have := h9.2; omega⟩) (am_StT (am_StT hS))) hF hc hs)
theorem v_iand {m : MInfo} {kc ks pc : Nat} {E st : List AV} {ρ : Rho} {h : Hh} {Q : PQ} {X : PX} {x y : Int} (hd : decode (am_cc m) pc = .ok (.iand, 1))  (k : am_V m kc ks (pc + 1) E (aI (Int32.ofInt x &&& Int32.ofInt y).toInt :: st) ρ h Q X) : am_V m kc ks pc E (aI y :: aI x :: st) ρ h Q X := by
  intro l p e R s q args below meth c D cA B b g0 g1 Z H locs cells slots ls hC hZ hR hL hS hF hc hs
  have hy := am_StH hS
  have hx := am_StH (am_StT hS)
  refine lv_iand hC.2.1 hC.2.2.1 hd ?_
  rw [show Int32.ofInt x &&& Int32.ofInt y = Int32.ofInt (Int32.ofInt x &&& Int32.ofInt y).toInt from (Int32.ofInt_toInt _).symm]
  exact (k l p e R s q args below meth c D cA B b g0 g1 Z H locs cells slots ls hC hZ hR hL (am_StC (am_andI x y) (am_StT (am_StT hS))) hF hc hs)
theorem v_ladd {m : MInfo} {kc ks pc : Nat} {E st : List AV} {ρ : Rho} {h : Hh} {Q : PQ} {X : PX} {x y : Int} (hd : decode (am_cc m) pc = .ok (.ladd, 1))  (k : am_V m kc ks (pc + 1) E (aL ((x + y).bmod (2 ^ 64)) :: st) ρ h Q X) : am_V m kc ks pc E (aL y :: aL x :: st) ρ h Q X := by
  intro l p e R s q args below meth c D cA B b g0 g1 Z H locs cells slots ls hC hZ hR hL hS hF hc hs
  have hy := am_StH hS
  have hx := am_StH (am_StT hS)
  refine lv_ladd hC.2.1 hC.2.2.1 hd ?_
  rw [am_addL hx hy]
  exact (k l p e R s q args below meth c D cA B b g0 g1 Z H locs cells slots ls hC hZ hR hL (am_StC (am_wL _) (am_StT (am_StT hS))) hF hc hs)
theorem v_lsub {m : MInfo} {kc ks pc : Nat} {E st : List AV} {ρ : Rho} {h : Hh} {Q : PQ} {X : PX} {x y : Int} (hd : decode (am_cc m) pc = .ok (.lsub, 1))  (k : am_V m kc ks (pc + 1) E (aL ((x - y).bmod (2 ^ 64)) :: st) ρ h Q X) : am_V m kc ks pc E (aL y :: aL x :: st) ρ h Q X := by
  intro l p e R s q args below meth c D cA B b g0 g1 Z H locs cells slots ls hC hZ hR hL hS hF hc hs
  have hy := am_StH hS
  have hx := am_StH (am_StT hS)
  refine lv_lsub hC.2.1 hC.2.2.1 hd ?_
  rw [am_subL hx hy]
  exact (k l p e R s q args below meth c D cA B b g0 g1 Z H locs cells slots ls hC hZ hR hL (am_StC (am_wL _) (am_StT (am_StT hS))) hF hc hs)
theorem v_lmul {m : MInfo} {kc ks pc : Nat} {E st : List AV} {ρ : Rho} {h : Hh} {Q : PQ} {X : PX} {x y : Int} (hd : decode (am_cc m) pc = .ok (.lmul, 1))  (k : am_V m kc ks (pc + 1) E (aL ((x * y).bmod (2 ^ 64)) :: st) ρ h Q X) : am_V m kc ks pc E (aL y :: aL x :: st) ρ h Q X := by
  intro l p e R s q args below meth c D cA B b g0 g1 Z H locs cells slots ls hC hZ hR hL hS hF hc hs
  have hy := am_StH hS
  have hx := am_StH (am_StT hS)
  refine lv_lmul hC.2.1 hC.2.2.1 hd ?_
  rw [am_mulL hx hy]
  exact (k l p e R s q args below meth c D cA B b g0 g1 Z H locs cells slots ls hC hZ hR hL (am_StC (am_wL _) (am_StT (am_StT hS))) hF hc hs)
theorem v_ldiv {m : MInfo} {kc ks pc : Nat} {E st : List AV} {ρ : Rho} {h : Hh} {Q : PQ} {X : PX} {x y : Int} (hd : decode (am_cc m) pc = .ok (.ldiv, 1)) (h1 : 0 ≤ x) (h2 : 0 < y) (k : am_V m kc ks (pc + 1) E (aL (x / y) :: st) ρ h Q X) : am_V m kc ks pc E (aL y :: aL x :: st) ρ h Q X := by
  intro l p e R s q args below meth c D cA B b g0 g1 Z H locs cells slots ls hC hZ hR hL hS hF hc hs
  have hy := am_StH hS
  have hx := am_StH (am_StT hS)
  refine lv_ldiv hC.2.1 hC.2.2.1 hd (am_ne0L h2 hy) ?_
  rw [am_divL h1 h2 hx hy]
  exact (k l p e R s q args below meth c D cA B b g0 g1 Z H locs cells slots ls hC hZ hR hL (am_StC (show am_l (x / y) from ⟨by have := Int.ediv_nonneg h1 (Int.le_of_lt h2); omega, by have := Int.ediv_le_self y h1; have h9 : am_l x := hx; have := h9.2; omega⟩) (am_StT (am_StT hS))) hF hc hs)
theorem v_lcmp {m : MInfo} {kc ks pc : Nat} {E st : List AV} {ρ : Rho} {h : Hh} {Q : PQ} {X : PX} {x y : Int} (hd : decode (am_cc m) pc = .ok (.lcmp, 1))  (k : am_V m kc ks (pc + 1) E (aI (if y < x then 1 else if x = y then 0 else -1) :: st) ρ h Q X) : am_V m kc ks pc E (aL y :: aL x :: st) ρ h Q X := by
  intro l p e R s q args below meth c D cA B b g0 g1 Z H locs cells slots ls hC hZ hR hL hS hF hc hs
  have hy := am_StH hS
  have hx := am_StH (am_StT hS)
  refine W.lcmp hC.2.1 hC.2.2.1 hd ?_
  rw [am_cmpL hx hy]
  exact (k l p e R s q args below meth c D cA B b g0 g1 Z H locs cells slots ls hC hZ hR hL (am_StC (show am_i _ by split; exact ⟨by decide, by decide⟩; split <;> exact ⟨by decide, by decide⟩) (am_StT (am_StT hS))) hF hc hs)
theorem v_fdiv {m : MInfo} {kc ks pc : Nat} {E st : List AV} {ρ : Rho} {h : Hh} {Q : PQ} {X : PX} {x y : UInt32} (hd : decode (am_cc m) pc = .ok (.fdiv, 1)) (hn : vf_n32 (FP.fdiv x y)) (k : am_V m kc ks (pc + 1) E (aF (FP.fdiv x y) :: st) ρ h Q X) : am_V m kc ks pc E (aF y :: aF x :: st) ρ h Q X := by
  intro l p e R s q args below meth c D cA B b g0 g1 Z H locs cells slots ls hC hZ hR hL hS hF hc hs
  have hy := am_StH hS
  have hx := am_StH (am_StT hS)
  refine lv_fdiv hC.2.1 hC.2.2.1 hd hn ?_
  exact (k l p e R s q args below meth c D cA B b g0 g1 Z H locs cells slots ls hC hZ hR hL (am_StC trivial (am_StT (am_StT hS))) hF hc hs)
theorem v_ddiv {m : MInfo} {kc ks pc : Nat} {E st : List AV} {ρ : Rho} {h : Hh} {Q : PQ} {X : PX} {x y : UInt64} (hd : decode (am_cc m) pc = .ok (.ddiv, 1)) (hn : vf_n64 (FP.ddiv x y)) (k : am_V m kc ks (pc + 1) E (aD (FP.ddiv x y) :: st) ρ h Q X) : am_V m kc ks pc E (aD y :: aD x :: st) ρ h Q X := by
  intro l p e R s q args below meth c D cA B b g0 g1 Z H locs cells slots ls hC hZ hR hL hS hF hc hs
  have hy := am_StH hS
  have hx := am_StH (am_StT hS)
  refine lv_ddiv hC.2.1 hC.2.2.1 hd hn ?_
  exact (k l p e R s q args below meth c D cA B b g0 g1 Z H locs cells slots ls hC hZ hR hL (am_StC trivial (am_StT (am_StT hS))) hF hc hs)
theorem v_dcmp {m : MInfo} {kc ks pc : Nat} {E st : List AV} {ρ : Rho} {h : Hh} {Q : PQ} {X : PX} {op : CmpOp} {x y : UInt64} (hd : decode (am_cc m) pc = .ok (.dcmp op, 1)) (k : am_V m kc ks (pc + 1) E (aI (Op.cmpValue (FP.dcmp x y) op).toInt :: st) ρ h Q X) : am_V m kc ks pc E (aD y :: aD x :: st) ρ h Q X := by
  intro l p e R s q args below meth c D cA B b g0 g1 Z H locs cells slots ls hC hZ hR hL hS hF hc hs
  refine lv_dcmp hC.2.1 hC.2.2.1 hd ?_
  rw [← Int32.ofInt_toInt (Op.cmpValue (FP.dcmp x y) op)]
  exact (k l p e R s q args below meth c D cA B b g0 g1 Z H locs cells slots ls hC hZ hR hL (am_StC (am_rI _) (am_StT (am_StT hS))) hF hc hs)
theorem v_fcmp {m : MInfo} {kc ks pc : Nat} {E st : List AV} {ρ : Rho} {h : Hh} {Q : PQ} {X : PX} {op : CmpOp} {x y : UInt32} (hd : decode (am_cc m) pc = .ok (.fcmp op, 1)) (k : am_V m kc ks (pc + 1) E (aI (Op.cmpValue (FP.fcmp x y) op).toInt :: st) ρ h Q X) : am_V m kc ks pc E (aF y :: aF x :: st) ρ h Q X := by
  intro l p e R s q args below meth c D cA B b g0 g1 Z H locs cells slots ls hC hZ hR hL hS hF hc hs
  refine lv_fcmp hC.2.1 hC.2.2.1 hd ?_
  rw [← Int32.ofInt_toInt (Op.cmpValue (FP.fcmp x y) op)]
  exact (k l p e R s q args below meth c D cA B b g0 g1 Z H locs cells slots ls hC hZ hR hL (am_StC (am_rI _) (am_StT (am_StT hS))) hF hc hs)
theorem v_i2c {m : MInfo} {kc ks pc : Nat} {E st : List AV} {ρ : Rho} {h : Hh} {Q : PQ} {X : PX} {x : Int} (hd : decode (am_cc m) pc = .ok (.i2c, 1))  (k : am_V m kc ks (pc + 1) E (aI (x % 65536) :: st) ρ h Q X) : am_V m kc ks pc E (aI x :: st) ρ h Q X := by
  intro l p e R s q args below meth c D cA B b g0 g1 Z H locs cells slots ls hC hZ hR hL hS hF hc hs
  have hx := am_StH hS
  exact lv_i2c hC.2.1 hC.2.2.1 hd am_char (k l p e R s q args below meth c D cA B b g0 g1 Z H locs cells slots ls hC hZ hR hL (am_StC (show am_i (x % 65536) from ⟨by omega, by omega⟩) (am_StT hS)) hF hc hs)
theorem v_i2l {m : MInfo} {kc ks pc : Nat} {E st : List AV} {ρ : Rho} {h : Hh} {Q : PQ} {X : PX} {x : Int} (hd : decode (am_cc m) pc = .ok (.i2l, 1))  (k : am_V m kc ks (pc + 1) E (aL x :: st) ρ h Q X) : am_V m kc ks pc E (aI x :: st) ρ h Q X := by
  intro l p e R s q args below meth c D cA B b g0 g1 Z H locs cells slots ls hC hZ hR hL hS hF hc hs
  have hx := am_StH hS
  exact lv_i2l hC.2.1 hC.2.2.1 hd (am_i2l hx) (k l p e R s q args below meth c D cA B b g0 g1 Z H locs cells slots ls hC hZ hR hL (am_StC (am_lOf hx) (am_StT hS)) hF hc hs)
theorem v_i2f {m : MInfo} {kc ks pc : Nat} {E st : List AV} {ρ : Rho} {h : Hh} {Q : PQ} {X : PX} {x : Int} (hd : decode (am_cc m) pc = .ok (.i2f, 1))  (k : am_V m kc ks (pc + 1) E (aF (FP.i2f (Int32.ofInt x)) :: st) ρ h Q X) : am_V m kc ks pc E (aI x :: st) ρ h Q X := by
  intro l p e R s q args below meth c D cA B b g0 g1 Z H locs cells slots ls hC hZ hR hL hS hF hc hs
  have hx := am_StH hS
  exact lv_i2f hC.2.1 hC.2.2.1 hd (k l p e R s q args below meth c D cA B b g0 g1 Z H locs cells slots ls hC hZ hR hL (am_StC trivial (am_StT hS)) hF hc hs)
theorem v_i2d {m : MInfo} {kc ks pc : Nat} {E st : List AV} {ρ : Rho} {h : Hh} {Q : PQ} {X : PX} {x : Int} (hd : decode (am_cc m) pc = .ok (.i2d, 1))  (k : am_V m kc ks (pc + 1) E (aD (FP.i2d (Int32.ofInt x)) :: st) ρ h Q X) : am_V m kc ks pc E (aI x :: st) ρ h Q X := by
  intro l p e R s q args below meth c D cA B b g0 g1 Z H locs cells slots ls hC hZ hR hL hS hF hc hs
  have hx := am_StH hS
  exact lv_i2d hC.2.1 hC.2.2.1 hd (k l p e R s q args below meth c D cA B b g0 g1 Z H locs cells slots ls hC hZ hR hL (am_StC trivial (am_StT hS)) hF hc hs)
theorem v_f2d {m : MInfo} {kc ks pc : Nat} {E st : List AV} {ρ : Rho} {h : Hh} {Q : PQ} {X : PX} {x : UInt32} (hd : decode (am_cc m) pc = .ok (.f2d, 1)) (hn : vf_n64 (FP.f2d x)) (k : am_V m kc ks (pc + 1) E (aD (FP.f2d x) :: st) ρ h Q X) : am_V m kc ks pc E (aF x :: st) ρ h Q X := by
  intro l p e R s q args below meth c D cA B b g0 g1 Z H locs cells slots ls hC hZ hR hL hS hF hc hs
  have hx := am_StH hS
  exact lv_f2d hC.2.1 hC.2.2.1 hd hn (k l p e R s q args below meth c D cA B b g0 g1 Z H locs cells slots ls hC hZ hR hL (am_StC trivial (am_StT hS)) hF hc hs)
theorem v_dupR {m : MInfo} {kc ks pc : Nat} {E st : List AV} {ρ : Rho} {h : Hh} {Q : PQ} {X : PX} {x : Nat} (hd : decode (am_cc m) pc = .ok (.dup, 1)) (k : am_V m kc ks (pc + 1) E (aR x :: aR x :: st) ρ h Q X) : am_V m kc ks pc E (aR x :: st) ρ h Q X := by
  intro l p e R s q args below meth c D cA B b g0 g1 Z H locs cells slots ls hC hZ hR hL hS hF hc hs
  exact lv_dup hC.2.1 hC.2.2.1 hd rfl (k l p e R s q args below meth c D cA B b g0 g1 Z H locs cells slots ls hC hZ hR hL (am_StC trivial hS) hF hc hs)
theorem v_dupI {m : MInfo} {kc ks pc : Nat} {E st : List AV} {ρ : Rho} {h : Hh} {Q : PQ} {X : PX} {x : Int} (hd : decode (am_cc m) pc = .ok (.dup, 1)) (k : am_V m kc ks (pc + 1) E (aI x :: aI x :: st) ρ h Q X) : am_V m kc ks pc E (aI x :: st) ρ h Q X := by
  intro l p e R s q args below meth c D cA B b g0 g1 Z H locs cells slots ls hC hZ hR hL hS hF hc hs
  exact lv_dup hC.2.1 hC.2.2.1 hd rfl (k l p e R s q args below meth c D cA B b g0 g1 Z H locs cells slots ls hC hZ hR hL (am_StC (am_StH hS) hS) hF hc hs)
theorem v_dup2 {m : MInfo} {kc ks pc : Nat} {E st : List AV} {ρ : Rho} {h : Hh} {Q : PQ} {X : PX} {x : Int} {a : Nat} (hd : decode (am_cc m) pc = .ok (.dup2, 1)) (k : am_V m kc ks (pc + 1) E (aI x :: aR a :: aI x :: aR a :: st) ρ h Q X) : am_V m kc ks pc E (aI x :: aR a :: st) ρ h Q X := by
  intro l p e R s q args below meth c D cA B b g0 g1 Z H locs cells slots ls hC hZ hR hL hS hF hc hs
  exact lv_dup2_11 hC.2.1 hC.2.2.1 hd rfl rfl (k l p e R s q args below meth c D cA B b g0 g1 Z H locs cells slots ls hC hZ hR hL (am_StC (am_StH hS) (am_StC trivial hS)) hF hc hs)
theorem v_if_eq {m : MInfo} {kc ks pc : Nat} {E st : List AV} {ρ : Rho} {h : Hh} {Q : PQ} {X : PX} {x off : Int} {tgt : Nat} (hd : decode (am_cc m) pc = .ok (.ifCond .eq off, 3)) (ht : (pc : Int) + off = (tgt : Int)) (kt : x = 0 → am_V m kc ks tgt E st ρ h Q X) (kf : x ≠ 0 → am_V m kc ks (pc + 3) E st ρ h Q X) : am_V m kc ks pc E (aI x :: st) ρ h Q X := by
  intro l p e R s q args below meth c D cA B b g0 g1 Z H locs cells slots ls hC hZ hR hL hS hF hc hs
  have hx : am_i x := am_StH hS
  have eq9 := am_eqI hx am_i0
  refine lv_if_eq hC.2.1 hC.2.2.1 hd ht (fun z => kt ?_ l p e R s q args below meth c D cA B b g0 g1 Z H locs cells slots ls hC hZ hR hL (am_StT hS) hF hc hs) (fun z => kf ?_ l p e R s q args below meth c D cA B b g0 g1 Z H locs cells slots ls hC hZ hR hL (am_StT hS) hF hc hs)
  · exact eq9.mp z
  · exact fun y => z (eq9.mpr y)
theorem v_if_ne {m : MInfo} {kc ks pc : Nat} {E st : List AV} {ρ : Rho} {h : Hh} {Q : PQ} {X : PX} {x off : Int} {tgt : Nat} (hd : decode (am_cc m) pc = .ok (.ifCond .ne off, 3)) (ht : (pc : Int) + off = (tgt : Int)) (kt : x ≠ 0 → am_V m kc ks tgt E st ρ h Q X) (kf : x = 0 → am_V m kc ks (pc + 3) E st ρ h Q X) : am_V m kc ks pc E (aI x :: st) ρ h Q X := by
  intro l p e R s q args below meth c D cA B b g0 g1 Z H locs cells slots ls hC hZ hR hL hS hF hc hs
  have hx : am_i x := am_StH hS
  have eq9 := am_eqI hx am_i0
  refine lv_if_ne hC.2.1 hC.2.2.1 hd ht (fun z => kt ?_ l p e R s q args below meth c D cA B b g0 g1 Z H locs cells slots ls hC hZ hR hL (am_StT hS) hF hc hs) (fun z => kf ?_ l p e R s q args below meth c D cA B b g0 g1 Z H locs cells slots ls hC hZ hR hL (am_StT hS) hF hc hs)
  · exact fun y => z (eq9.mpr y)
  · exact eq9.mp z
theorem v_if_lt {m : MInfo} {kc ks pc : Nat} {E st : List AV} {ρ : Rho} {h : Hh} {Q : PQ} {X : PX} {x off : Int} {tgt : Nat} (hd : decode (am_cc m) pc = .ok (.ifCond .lt off, 3)) (ht : (pc : Int) + off = (tgt : Int)) (kt : x < 0 → am_V m kc ks tgt E st ρ h Q X) (kf : 0 ≤ x → am_V m kc ks (pc + 3) E st ρ h Q X) : am_V m kc ks pc E (aI x :: st) ρ h Q X := by
  intro l p e R s q args below meth c D cA B b g0 g1 Z H locs cells slots ls hC hZ hR hL hS hF hc hs
  have hx : am_i x := am_StH hS
  have eq9 := am_ltI hx am_i0
  refine lv_if_lt hC.2.1 hC.2.2.1 hd ht (fun z => kt ?_ l p e R s q args below meth c D cA B b g0 g1 Z H locs cells slots ls hC hZ hR hL (am_StT hS) hF hc hs) (fun z => kf ?_ l p e R s q args below meth c D cA B b g0 g1 Z H locs cells slots ls hC hZ hR hL (am_StT hS) hF hc hs)
  · exact eq9.mp z
  · have := mt eq9.mpr z; omega
theorem v_if_ge {m : MInfo} {kc ks pc : Nat} {E st : List AV} {ρ : Rho} {h : Hh} {Q : PQ} {X : PX} {x off : Int} {tgt : Nat} (hd : decode (am_cc m) pc = .ok (.ifCond .ge off, 3)) (ht : (pc : Int) + off = (tgt : Int)) (kt : 0 ≤ x → am_V m kc ks tgt E st ρ h Q X) (kf : x < 0 → am_V m kc ks (pc + 3) E st ρ h Q X) : am_V m kc ks pc E (aI x :: st) ρ h Q X := by
  intro l p e R s q args below meth c D cA B b g0 g1 Z H locs cells slots ls hC hZ hR hL hS hF hc hs
  have hx : am_i x := am_StH hS
  have eq9 := am_leI am_i0 hx
  refine lv_if_ge hC.2.1 hC.2.2.1 hd ht (fun z => kt ?_ l p e R s q args below meth c D cA B b g0 g1 Z H locs cells slots ls hC hZ hR hL (am_StT hS) hF hc hs) (fun z => kf ?_ l p e R s q args below meth c D cA B b g0 g1 Z H locs cells slots ls hC hZ hR hL (am_StT hS) hF hc hs)
  · exact eq9.mp z
  · have := mt eq9.mpr z; omega
theorem v_if_gt {m : MInfo} {kc ks pc : Nat} {E st : List AV} {ρ : Rho} {h : Hh} {Q : PQ} {X : PX} {x off : Int} {tgt : Nat} (hd : decode (am_cc m) pc = .ok (.ifCond .gt off, 3)) (ht : (pc : Int) + off = (tgt : Int)) (kt : 0 < x → am_V m kc ks tgt E st ρ h Q X) (kf : x ≤ 0 → am_V m kc ks (pc + 3) E st ρ h Q X) : am_V m kc ks pc E (aI x :: st) ρ h Q X := by
  intro l p e R s q args below meth c D cA B b g0 g1 Z H locs cells slots ls hC hZ hR hL hS hF hc hs
  have hx : am_i x := am_StH hS
  have eq9 := am_ltI am_i0 hx
  refine lv_if_gt hC.2.1 hC.2.2.1 hd ht (fun z => kt ?_ l p e R s q args below meth c D cA B b g0 g1 Z H locs cells slots ls hC hZ hR hL (am_StT hS) hF hc hs) (fun z => kf ?_ l p e R s q args below meth c D cA B b g0 g1 Z H locs cells slots ls hC hZ hR hL (am_StT hS) hF hc hs)
  · exact eq9.mp z
  · have := mt eq9.mpr z; omega
theorem v_if_le {m : MInfo} {kc ks pc : Nat} {E st : List AV} {ρ : Rho} {h : Hh} {Q : PQ} {X : PX} {x off : Int} {tgt : Nat} (hd : decode (am_cc m) pc = .ok (.ifCond .le off, 3)) (ht : (pc : Int) + off = (tgt : Int)) (kt : x ≤ 0 → am_V m kc ks tgt E st ρ h Q X) (kf : 0 < x → am_V m kc ks (pc + 3) E st ρ h Q X) : am_V m kc ks pc E (aI x :: st) ρ h Q X := by
  intro l p e R s q args below meth c D cA B b g0 g1 Z H locs cells slots ls hC hZ hR hL hS hF hc hs
  have hx : am_i x := am_StH hS
  have eq9 := am_leI hx am_i0
  refine lv_if_le hC.2.1 hC.2.2.1 hd ht (fun z => kt ?_ l p e R s q args below meth c D cA B b g0 g1 Z H locs cells slots ls hC hZ hR hL (am_StT hS) hF hc hs) (fun z => kf ?_ l p e R s q args below meth c D cA B b g0 g1 Z H locs cells slots ls hC hZ hR hL (am_StT hS) hF hc hs)
  · exact eq9.mp z
  · have := mt eq9.mpr z; omega
theorem v_icmp_eq {m : MInfo} {kc ks pc : Nat} {E st : List AV} {ρ : Rho} {h : Hh} {Q : PQ} {X : PX} {x y off : Int} {tgt : Nat} (hd : decode (am_cc m) pc = .ok (.if_icmp .eq off, 3)) (ht : (pc : Int) + off = (tgt : Int)) (kt : x = y → am_V m kc ks tgt E st ρ h Q X) (kf : x ≠ y → am_V m kc ks (pc + 3) E st ρ h Q X) : am_V m kc ks pc E (aI y :: aI x :: st) ρ h Q X := by
  intro l p e R s q args below meth c D cA B b g0 g1 Z H locs cells slots ls hC hZ hR hL hS hF hc hs
  have hy : am_i y := am_StH hS
  have hx : am_i x := am_StH (am_StT hS)
  have eq9 := am_eqI hx hy
  refine lv_icmp_eq hC.2.1 hC.2.2.1 hd ht (fun z => kt ?_ l p e R s q args below meth c D cA B b g0 g1 Z H locs cells slots ls hC hZ hR hL (am_StT (am_StT hS)) hF hc hs) (fun z => kf ?_ l p e R s q args below meth c D cA B b g0 g1 Z H locs cells slots ls hC hZ hR hL (am_StT (am_StT hS)) hF hc hs)
  · exact eq9.mp z
  · exact fun y => z (eq9.mpr y)
theorem v_icmp_ne {m : MInfo} {kc ks pc : Nat} {E st : List AV} {ρ : Rho} {h : Hh} {Q : PQ} {X : PX} {x y off : Int} {tgt : Nat} (hd : decode (am_cc m) pc = .ok (.if_icmp .ne off, 3)) (ht : (pc : Int) + off = (tgt : Int)) (kt : x ≠ y → am_V m kc ks tgt E st ρ h Q X) (kf : x = y → am_V m kc ks (pc + 3) E st ρ h Q X) : am_V m kc ks pc E (aI y :: aI x :: st) ρ h Q X := by
  intro l p e R s q args below meth c D cA B b g0 g1 Z H locs cells slots ls hC hZ hR hL hS hF hc hs
  have hy : am_i y := am_StH hS
  have hx : am_i x := am_StH (am_StT hS)
  have eq9 := am_eqI hx hy
  refine lv_icmp_ne hC.2.1 hC.2.2.1 hd ht (fun z => kt ?_ l p e R s q args below meth c D cA B b g0 g1 Z H locs cells slots ls hC hZ hR hL (am_StT (am_StT hS)) hF hc hs) (fun z => kf ?_ l p e R s q args below meth c D cA B b g0 g1 Z H locs cells slots ls hC hZ hR hL (am_StT (am_StT hS)) hF hc hs)
  · exact fun y => z (eq9.mpr y)
  · exact eq9.mp z
theorem v_icmp_lt {m : MInfo} {kc ks pc : Nat} {E st : List AV} {ρ : Rho} {h : Hh} {Q : PQ} {X : PX} {x y off : Int} {tgt : Nat} (hd : decode (am_cc m) pc = .ok (.if_icmp .lt off, 3)) (ht : (pc : Int) + off = (tgt : Int)) (kt : x < y → am_V m kc ks tgt E st ρ h Q X) (kf : y ≤ x → am_V m kc ks (pc + 3) E st ρ h Q X) : am_V m kc ks pc E (aI y :: aI x :: st) ρ h Q X := by
  intro l p e R s q args below meth c D cA B b g0 g1 Z H locs cells slots ls hC hZ hR hL hS hF hc hs
  have hy : am_i y := am_StH hS
  have hx : am_i x := am_StH (am_StT hS)
  have eq9 := am_ltI hx hy
  refine lv_icmp_lt hC.2.1 hC.2.2.1 hd ht (fun z => kt ?_ l p e R s q args below meth c D cA B b g0 g1 Z H locs cells slots ls hC hZ hR hL (am_StT (am_StT hS)) hF hc hs) (fun z => kf ?_ l p e R s q args below meth c D cA B b g0 g1 Z H locs cells slots ls hC hZ hR hL (am_StT (am_StT hS)) hF hc hs)
  · exact eq9.mp z
  · have := mt eq9.mpr z; omega
theorem v_icmp_ge {m : MInfo} {kc ks pc : Nat} {E st : List AV} {ρ : Rho} {h : Hh} {Q : PQ} {X : PX} {x y off : Int} {tgt : Nat} (hd : decode (am_cc m) pc = .ok (.if_icmp .ge off, 3)) (ht : (pc : Int) + off = (tgt : Int)) (kt : y ≤ x → am_V m kc ks tgt E st ρ h Q X) (kf : x < y → am_V m kc ks (pc + 3) E st ρ h Q X) : am_V m kc ks pc E (aI y :: aI x :: st) ρ h Q X := by
  intro l p e R s q args below meth c D cA B b g0 g1 Z H locs cells slots ls hC hZ hR hL hS hF hc hs
  have hy : am_i y := am_StH hS
  have hx : am_i x := am_StH (am_StT hS)
  have eq9 := am_leI hy hx
  refine lv_icmp_ge hC.2.1 hC.2.2.1 hd ht (fun z => kt ?_ l p e R s q args below meth c D cA B b g0 g1 Z H locs cells slots ls hC hZ hR hL (am_StT (am_StT hS)) hF hc hs) (fun z => kf ?_ l p e R s q args below meth c D cA B b g0 g1 Z H locs cells slots ls hC hZ hR hL (am_StT (am_StT hS)) hF hc hs)
  · exact eq9.mp z
  · have := mt eq9.mpr z; omega
theorem v_icmp_gt {m : MInfo} {kc ks pc : Nat} {E st : List AV} {ρ : Rho} {h : Hh} {Q : PQ} {X : PX} {x y off : Int} {tgt : Nat} (hd : decode (am_cc m) pc = .ok (.if_icmp .gt off, 3)) (ht : (pc : Int) + off = (tgt : Int)) (kt : y < x → am_V m kc ks tgt E st ρ h Q X) (kf : x ≤ y → am_V m kc ks (pc + 3) E st ρ h Q X) : am_V m kc ks pc E (aI y :: aI x :: st) ρ h Q X := by
  intro l p e R s q args below meth c D cA B b g0 g1 Z H locs cells slots ls hC hZ hR hL hS hF hc hs
  have hy : am_i y := am_StH hS
  have hx : am_i x := am_StH (am_StT hS)
  have eq9 := am_ltI hy hx
  refine lv_icmp_gt hC.2.1 hC.2.2.1 hd ht (fun z => kt ?_ l p e R s q args below meth c D cA B b g0 g1 Z H locs cells slots ls hC hZ hR hL (am_StT (am_StT hS)) hF hc hs) (fun z => kf ?_ l p e R s q args below meth c D cA B b g0 g1 Z H locs cells slots ls hC hZ hR hL (am_StT (am_StT hS)) hF hc hs)
  · exact eq9.mp z
  · have := mt eq9.mpr z; omega
theorem v_icmp_le {m : MInfo} {kc ks pc : Nat} {E st : List AV} {ρ : Rho} {h : Hh} {Q : PQ} {X : PX} {x y off : Int} {tgt : Nat} (hd : decode (am_cc m) pc = .ok (.if_icmp .le off, 3)) (ht : (pc : Int) + off = (tgt : Int)) (kt : x ≤ y → am_V m kc ks tgt E st ρ h Q X) (kf : y < x → am_V m kc ks (pc + 3) E st ρ h Q X) : am_V m kc ks pc E (aI y :: aI x :: st) ρ h Q X := by
  intro l p e R s q args below meth c D cA B b g0 g1 Z H locs cells slots ls hC hZ hR hL hS hF hc hs
  have hy : am_i y := am_StH hS
  have hx : am_i x := am_StH (am_StT hS)
  have eq9 := am_leI hx hy
  refine lv_icmp_le hC.2.1 hC.2.2.1 hd ht (fun z => kt ?_ l p e R s q args below meth c D cA B b g0 g1 Z H locs cells slots ls hC hZ hR hL (am_StT (am_StT hS)) hF hc hs) (fun z => kf ?_ l p e R s q args below meth c D cA B b g0 g1 Z H locs cells slots ls hC hZ hR hL (am_StT (am_StT hS)) hF hc hs)
  · exact eq9.mp z
  · have := mt eq9.mpr z; omega
theorem v_goto {m : MInfo} {kc ks pc : Nat} {E st : List AV} {ρ : Rho} {h : Hh} {Q : PQ} {X : PX} {off : Int} {tgt : Nat} (hd : decode (am_cc m) pc = .ok (.goto off, 3)) (ht : (pc : Int) + off = (tgt : Int)) (k : am_V m kc ks tgt E st ρ h Q X) : am_V m kc ks pc E st ρ h Q X := by
  intro l p e R s q args below meth c D cA B b g0 g1 Z H locs cells slots ls hC hZ hR hL hS hF hc hs
  exact lv_goto hC.2.1 hC.2.2.1 hd ht (k l p e R s q args below meth c D cA B b g0 g1 Z H locs cells slots ls hC hZ hR hL hS hF hc hs)
theorem am_toI32 {x : Int} : (Int64.ofInt x).toInt32 = Int32.ofInt x := by
  rw [← Int32.toInt_inj, Int64.toInt_toInt32, Int64.toInt_ofInt, Int32.toInt_ofInt]
  apply Int.bmod_bmod_of_dvd
  exact ⟨2 ^ 32, by decide⟩
theorem v_l2i {m : MInfo} {kc ks pc : Nat} {E st : List AV} {ρ : Rho} {h : Hh} {Q : PQ} {X : PX} {x : Int} (hd : decode (am_cc m) pc = .ok (.l2i, 1)) (hx : am_i x) (k : am_V m kc ks (pc + 1) E (aI x :: st) ρ h Q X) : am_V m kc ks pc E (aL x :: st) ρ h Q X := by
  intro l p e R s q args below meth c D cA B b g0 g1 Z H locs cells slots ls hC hZ hR hL hS hF hc hs
  exact lv_l2i hC.2.1 hC.2.2.1 hd am_toI32 (k l p e R s q args below meth c D cA B b g0 g1 Z H locs cells slots ls hC hZ hR hL (am_StC hx (am_StT hS)) hF hc hs)
theorem v_pop2l {m : MInfo} {kc ks pc : Nat} {E st : List AV} {ρ : Rho} {h : Hh} {Q : PQ} {X : PX} {x : Int} (hd : decode (am_cc m) pc = .ok (.pop2, 1)) (k : am_V m kc ks (pc + 1) E st ρ h Q X) : am_V m kc ks pc E (aL x :: st) ρ h Q X := by
  intro l p e R s q args below meth c D cA B b g0 g1 Z H locs cells slots ls hC hZ hR hL hS hF hc hs
  exact lv_pop2_2 hC.2.1 hC.2.2.1 hd rfl (k l p e R s q args below meth c D cA B b g0 g1 Z H locs cells slots ls hC hZ hR hL (am_StT hS) hF hc hs)
theorem v_ldci {m : MInfo} {kc ks pc : Nat} {E st : List AV} {ρ : Rho} {h : Hh} {Q : PQ} {X : PX} {n : Nat} {x : Int} (hd : decode (am_cc m) pc = .ok (.ldc n, 2)) (hw : Cond.constant (am_own m) n (Int32.ofInt x) ∈ am_W0) (hx : am_i x) (k : am_V m kc ks (pc + 2) E (aI x :: st) ρ h Q X) : am_V m kc ks pc E st ρ h Q X := by
  intro l p e R s q args below meth c D cA B b g0 g1 Z H locs cells slots ls hC hZ hR hL hS hF hc hs
  exact lv_ldc hC.2.1 hC.2.2.1 hC.2.2.2.2.2.1 (hC.2.2.2.2.2.2.1 _ hw) hd (k l p e R s q args below meth c D cA B b g0 g1 Z H locs cells slots ls hC hZ hR hL (am_StC hx hS) hF hc hs)
/-- iadd, whatever comes out -/
theorem v_iaddA {m : MInfo} {kc ks pc : Nat} {E st : List AV} {ρ : Rho} {h : Hh} {Q : PQ} {X : PX} {x y : Int} (hd : decode (am_cc m) pc = .ok (.iadd, 1)) (k : ∀ z, am_i z → am_V m kc ks (pc + 1) E (aI z :: st) ρ h Q X) : am_V m kc ks pc E (aI y :: aI x :: st) ρ h Q X := by
  intro l p e R s q args below meth c D cA B b g0 g1 Z H locs cells slots ls hC hZ hR hL hS hF hc hs
  refine lv_iadd hC.2.1 hC.2.2.1 hd ?_
  rw [am_asI (z := Int32.ofInt x + Int32.ofInt y) rfl]
  exact k _ (am_rI _) l p e R s q args below meth c D cA B b g0 g1 Z H locs cells slots ls hC hZ hR hL (am_StC (am_rI _) (am_StT (am_StT hS))) hF hc hs
/-- isub, whatever comes out -/
theorem v_isubA {m : MInfo} {kc ks pc : Nat} {E st : List AV} {ρ : Rho} {h : Hh} {Q : PQ} {X : PX} {x y : Int} (hd : decode (am_cc m) pc = .ok (.isub, 1)) (k : ∀ z, am_i z → am_V m kc ks (pc + 1) E (aI z :: st) ρ h Q X) : am_V m kc ks pc E (aI y :: aI x :: st) ρ h Q X := by
  intro l p e R s q args below meth c D cA B b g0 g1 Z H locs cells slots ls hC hZ hR hL hS hF hc hs
  refine lv_isub hC.2.1 hC.2.2.1 hd ?_
  rw [am_asI (z := Int32.ofInt x - Int32.ofInt y) rfl]
  exact k _ (am_rI _) l p e R s q args below meth c D cA B b g0 g1 Z H locs cells slots ls hC hZ hR hL (am_StC (am_rI _) (am_StT (am_StT hS))) hF hc hs
/-- imul, whatever comes out -/
theorem v_imulA {m : MInfo} {kc ks pc : Nat} {E st : List AV} {ρ : Rho} {h : Hh} {Q : PQ} {X : PX} {x y : Int} (hd : decode (am_cc m) pc = .ok (.imul, 1)) (k : ∀ z, am_i z → am_V m kc ks (pc + 1) E (aI z :: st) ρ h Q X) : am_V m kc ks pc E (aI y :: aI x :: st) ρ h Q X := by
  intro l p e R s q args below meth c D cA B b g0 g1 Z H locs cells slots ls hC hZ hR hL hS hF hc hs
  refine lv_imul hC.2.1 hC.2.2.1 hd ?_
  rw [am_asI (z := Int32.ofInt x * Int32.ofInt y) rfl]
  exact k _ (am_rI _) l p e R s q args below meth c D cA B b g0 g1 Z H locs cells slots ls hC hZ hR hL (am_StC (am_rI _) (am_StT (am_StT hS))) hF hc hs
/-- ixor, whatever comes out -/
theorem v_ixorA {m : MInfo} {kc ks pc : Nat} {E st : List AV} {ρ : Rho} {h : Hh} {Q : PQ} {X : PX} {x y : Int} (hd : decode (am_cc m) pc = .ok (.ixor, 1)) (k : ∀ z, am_i z → am_V m kc ks (pc + 1) E (aI z :: st) ρ h Q X) : am_V m kc ks pc E (aI y :: aI x :: st) ρ h Q X := by
  intro l p e R s q args below meth c D cA B b g0 g1 Z H locs cells slots ls hC hZ hR hL hS hF hc hs
  refine lv_ixor hC.2.1 hC.2.2.1 hd ?_
  rw [am_asI (z := Int32.ofInt x ^^^ Int32.ofInt y) rfl]
  exact k _ (am_rI _) l p e R s q args below meth c D cA B b g0 g1 Z H locs cells slots ls hC hZ hR hL (am_StC (am_rI _) (am_StT (am_StT hS))) hF hc hs
theorem v_iushrA {m : MInfo} {kc ks pc : Nat} {E st : List AV} {ρ : Rho} {h : Hh} {Q : PQ} {X : PX} {x y : Int} (hd : decode (am_cc m) pc = .ok (.iushr, 1)) (k : ∀ z, am_i z → am_V m kc ks (pc + 1) E (aI z :: st) ρ h Q X) : am_V m kc ks pc E (aI y :: aI x :: st) ρ h Q X := by
  intro l p e R s q args below meth c D cA B b g0 g1 Z H locs cells slots ls hC hZ hR hL hS hF hc hs
  exact lv_iushr hC.2.1 hC.2.2.1 hd (am_asI rfl) (k _ (am_rI _) l p e R s q args below meth c D cA B b g0 g1 Z H locs cells slots ls hC hZ hR hL (am_StC (am_rI _) (am_StT (am_StT hS))) hF hc hs)
theorem v_iandA {m : MInfo} {kc ks pc : Nat} {E st : List AV} {ρ : Rho} {h : Hh} {Q : PQ} {X : PX} {x y : Int} (hd : decode (am_cc m) pc = .ok (.iand, 1)) (k : ∀ z, am_i z → am_V m kc ks (pc + 1) E (aI z :: st) ρ h Q X) : am_V m kc ks pc E (aI y :: aI x :: st) ρ h Q X :=
  v_iand hd (k _ (am_rI _))
