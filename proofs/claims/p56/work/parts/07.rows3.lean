theorem am_sum (B b : Nat) : ∀ st : List AV, ((st.map (am_v B b)).map fun v => v.category).sum ≤ am_ct st
  | [] => Nat.le_refl 0
  | x :: st => by
    have h1 := am_sum B b st
    have h2 : (am_v B b x).category ≤ am_c1 x := by rcases x with x | x | x | x | x | x <;> exact Nat.le_refl _
    simp only [List.map_cons, List.sum_cons, am_ct]
    omega
theorem am_good {w : Cond} (h : w ∈ am_W0) : goodWord w = true := (List.mem_filter.mp h).2
theorem am_goodIn {ws : List Cond} (h : ∀ w ∈ ws, w ∈ am_W0) : GoodIn am_W0 ws := fun w hw => ⟨h w hw, good_of_word (am_good (h w hw))⟩
theorem v_iret {m : MInfo} {kc ks pc : Nat} {E : List AV} {ρ : Rho} {h : Hh} {Q : PQ} {X : PX} {x : Int} (hd : decode (am_cc m) pc = .ok (.ireturn, 1)) (hlaw : am_law m = false) (hr : am_rt m = some .int) (hQ : Q [aI x] ρ h) : am_V m kc ks pc E [aI x] ρ h Q X := by
  intro l p e R s q args below meth c D cA B b g0 g1 Z H locs cells slots ls hC hZ hR hL hS hF hc hs
  rcases hZ with ⟨-, hZ⟩ | ⟨z, -⟩
  · subst hZ
    refine W.widen (Nat.le_trans (Nat.le_add_right _ _) hc) (Nat.le_trans (Nat.le_add_right _ _) hs) (vx_ret ?_)
    have hrt := hC.2.2.2.1
    rw [hr] at hrt
    exact W.iret hC.2.1 hC.2.2.1 hrt (fun t ht hW => ⟨[aI x], ρ, h, rfl, by simp, hQ, hS, by rw [ht]; exact hR, hF.F ht⟩) hF.2.2 hd hC.2.2.2.2.2.2.2.2.2.1
  · rw [hlaw] at z
    cases z
theorem v_zret {m : MInfo} {kc ks pc : Nat} {E : List AV} {ρ : Rho} {h : Hh} {Q : PQ} {X : PX} {x : Int} (hd : decode (am_cc m) pc = .ok (.ireturn, 1)) (hlaw : am_law m = false) (hr : am_rt m = some .boolean) (hx : x = 0 ∨ x = 1) (hQ : Q [aI x] ρ h) : am_V m kc ks pc E [aI x] ρ h Q X := by
  intro l p e R s q args below meth c D cA B b g0 g1 Z H locs cells slots ls hC hZ hR hL hS hF hc hs
  rcases hZ with ⟨-, hZ⟩ | ⟨z, -⟩
  · subst hZ
    refine W.widen (Nat.le_trans (Nat.le_add_right _ _) hc) (Nat.le_trans (Nat.le_add_right _ _) hs) (vx_ret ?_)
    have hrt := hC.2.2.2.1
    rw [hr] at hrt
    have hn : narrow .boolean (.int (Int32.ofInt x)) = .int (Int32.ofInt x) := by rcases hx with rfl | rfl <;> rfl
    exact W.zret hC.2.1 hC.2.2.1 hrt hn (fun t ht hW => ⟨[aI x], ρ, h, rfl, by simp, hQ, hS, by rw [ht]; exact hR, hF.F ht⟩) hF.2.2 hd hC.2.2.2.2.2.2.2.2.2.1
  · rw [hlaw] at z
    cases z
theorem v_cret {m : MInfo} {kc ks pc : Nat} {E : List AV} {ρ : Rho} {h : Hh} {Q : PQ} {X : PX} {x : Int} (hd : decode (am_cc m) pc = .ok (.ireturn, 1)) (hlaw : am_law m = false) (hr : am_rt m = some .char) (h0 : 0 ≤ x) (h1 : x < 65536) (hQ : Q [aI x] ρ h) : am_V m kc ks pc E [aI x] ρ h Q X := by
  intro l p e R s q args below meth c D cA B b g0 g1 Z H locs cells slots ls hC hZ hR hL hS hF hc hs
  rcases hZ with ⟨-, hZ⟩ | ⟨z, -⟩
  · subst hZ
    refine W.widen (Nat.le_trans (Nat.le_add_right _ _) hc) (Nat.le_trans (Nat.le_add_right _ _) hs) (vx_ret ?_)
    have hrt := hC.2.2.2.1
    rw [hr] at hrt
    have hn : narrow .char (.int (Int32.ofInt x)) = .int (Int32.ofInt x) := by
      have h9 : narrow .char (.int (Int32.ofInt x)) = .int (Int32.ofInt (x % 65536)) := congrArg Value.int am_nar
      rw [h9, show x % 65536 = x by omega]
    exact W.zret hC.2.1 hC.2.2.1 hrt hn (fun t ht hW => ⟨[aI x], ρ, h, rfl, by simp, hQ, hS, by rw [ht]; exact hR, hF.F ht⟩) hF.2.2 hd hC.2.2.2.2.2.2.2.2.2.1
  · rw [hlaw] at z
    cases z
theorem v_lret {m : MInfo} {kc ks pc : Nat} {E : List AV} {ρ : Rho} {h : Hh} {Q : PQ} {X : PX} {x : Int} (hd : decode (am_cc m) pc = .ok (.lreturn, 1)) (hlaw : am_law m = false) (hr : am_rt m = some .long) (hQ : Q [aL x] ρ h) : am_V m kc ks pc E [aL x] ρ h Q X := by
  intro l p e R s q args below meth c D cA B b g0 g1 Z H locs cells slots ls hC hZ hR hL hS hF hc hs
  rcases hZ with ⟨-, hZ⟩ | ⟨z, -⟩
  · subst hZ
    refine W.widen (Nat.le_trans (Nat.le_add_right _ _) hc) (Nat.le_trans (Nat.le_add_right _ _) hs) (vx_ret ?_)
    have hrt := hC.2.2.2.1
    rw [hr] at hrt
    exact W.lret hC.2.1 hC.2.2.1 hrt (fun t ht hW => ⟨[aL x], ρ, h, rfl, by simp, hQ, hS, by rw [ht]; exact hR, hF.F ht⟩) hF.2.2 hd hC.2.2.2.2.2.2.2.2.2.1
  · rw [hlaw] at z
    cases z
theorem v_fret {m : MInfo} {kc ks pc : Nat} {E : List AV} {ρ : Rho} {h : Hh} {Q : PQ} {X : PX} {x : UInt32} (hd : decode (am_cc m) pc = .ok (.freturn, 1)) (hlaw : am_law m = false) (hr : am_rt m = some .float) (hQ : Q [aF x] ρ h) : am_V m kc ks pc E [aF x] ρ h Q X := by
  intro l p e R s q args below meth c D cA B b g0 g1 Z H locs cells slots ls hC hZ hR hL hS hF hc hs
  rcases hZ with ⟨-, hZ⟩ | ⟨z, -⟩
  · subst hZ
    refine W.widen (Nat.le_trans (Nat.le_add_right _ _) hc) (Nat.le_trans (Nat.le_add_right _ _) hs) (vx_ret ?_)
    have hrt := hC.2.2.2.1
    rw [hr] at hrt
    exact W.fret hC.2.1 hC.2.2.1 hrt (fun t ht hW => ⟨[aF x], ρ, h, rfl, by simp, hQ, hS, by rw [ht]; exact hR, hF.F ht⟩) hF.2.2 hd hC.2.2.2.2.2.2.2.2.2.1
  · rw [hlaw] at z
    cases z
theorem v_dret {m : MInfo} {kc ks pc : Nat} {E : List AV} {ρ : Rho} {h : Hh} {Q : PQ} {X : PX} {x : UInt64} (hd : decode (am_cc m) pc = .ok (.dreturn, 1)) (hlaw : am_law m = false) (hr : am_rt m = some .double) (hQ : Q [aD x] ρ h) : am_V m kc ks pc E [aD x] ρ h Q X := by
  intro l p e R s q args below meth c D cA B b g0 g1 Z H locs cells slots ls hC hZ hR hL hS hF hc hs
  rcases hZ with ⟨-, hZ⟩ | ⟨z, -⟩
  · subst hZ
    refine W.widen (Nat.le_trans (Nat.le_add_right _ _) hc) (Nat.le_trans (Nat.le_add_right _ _) hs) (vx_ret ?_)
    have hrt := hC.2.2.2.1
    rw [hr] at hrt
    exact W.dret hC.2.1 hC.2.2.1 hrt (fun t ht hW => ⟨[aD x], ρ, h, rfl, by simp, hQ, hS, by rw [ht]; exact hR, hF.F ht⟩) hF.2.2 hd hC.2.2.2.2.2.2.2.2.2.1
  · rw [hlaw] at z
    cases z
theorem v_aret {m : MInfo} {kc ks pc : Nat} {E : List AV} {ρ : Rho} {h : Hh} {Q : PQ} {X : PX} {x : Nat} (hd : decode (am_cc m) pc = .ok (.areturn, 1)) (hlaw : am_law m = false) {C9 : String} (hr : am_rt m = some (.object C9)) (hQ : Q [aR x] ρ h) : am_V m kc ks pc E [aR x] ρ h Q X := by
  intro l p e R s q args below meth c D cA B b g0 g1 Z H locs cells slots ls hC hZ hR hL hS hF hc hs
  rcases hZ with ⟨-, hZ⟩ | ⟨z, -⟩
  · subst hZ
    refine W.widen (Nat.le_trans (Nat.le_add_right _ _) hc) (Nat.le_trans (Nat.le_add_right _ _) hs) (vx_ret ?_)
    have hrt := hC.2.2.2.1
    rw [hr] at hrt
    exact W.aret hC.2.1 hC.2.2.1 hrt (Or.inl ⟨_, rfl⟩) (Or.inr ⟨_, rfl⟩) (fun t ht hW => ⟨[aR x], ρ, h, rfl, by simp, hQ, hS, by rw [ht]; exact hR, hF.F ht⟩) hF.2.2 hd hC.2.2.2.2.2.2.2.2.2.1
  · rw [hlaw] at z
    cases z
theorem v_aretA {m : MInfo} {kc ks pc : Nat} {E : List AV} {ρ : Rho} {h : Hh} {Q : PQ} {X : PX} {x : Nat} (hd : decode (am_cc m) pc = .ok (.areturn, 1)) (hlaw : am_law m = false) {C9 : FieldType} (hr : am_rt m = some (.array C9)) (hQ : Q [aR x] ρ h) : am_V m kc ks pc E [aR x] ρ h Q X := by
  intro l p e R s q args below meth c D cA B b g0 g1 Z H locs cells slots ls hC hZ hR hL hS hF hc hs
  rcases hZ with ⟨-, hZ⟩ | ⟨z, -⟩
  · subst hZ
    refine W.widen (Nat.le_trans (Nat.le_add_right _ _) hc) (Nat.le_trans (Nat.le_add_right _ _) hs) (vx_ret ?_)
    have hrt := hC.2.2.2.1
    rw [hr] at hrt
    exact W.aret hC.2.1 hC.2.2.1 hrt (Or.inr ⟨_, rfl⟩) (Or.inr ⟨_, rfl⟩) (fun t ht hW => ⟨[aR x], ρ, h, rfl, by simp, hQ, hS, by rw [ht]; exact hR, hF.F ht⟩) hF.2.2 hd hC.2.2.2.2.2.2.2.2.2.1
  · rw [hlaw] at z
    cases z
theorem v_vret {m : MInfo} {kc ks pc : Nat} {E : List AV} {ρ : Rho} {h : Hh} {Q : PQ} {X : PX}  (hd : decode (am_cc m) pc = .ok (.return_, 1)) (hlaw : am_law m = false) (hr : am_rt m = none) (hQ : Q [] ρ h) : am_V m kc ks pc E [] ρ h Q X := by
  intro l p e R s q args below meth c D cA B b g0 g1 Z H locs cells slots ls hC hZ hR hL hS hF hc hs
  rcases hZ with ⟨-, hZ⟩ | ⟨z, -⟩
  · subst hZ
    refine W.widen (Nat.le_trans (Nat.le_add_right _ _) hc) (Nat.le_trans (Nat.le_add_right _ _) hs) (vx_ret ?_)
    have hrt := hC.2.2.2.1
    rw [hr] at hrt
    exact W.vret hC.2.1 hC.2.2.1 hrt (fun t ht hW => ⟨[], ρ, h, rfl, by simp, hQ, hS, by rw [ht]; exact hR, hF.F ht⟩) hF.2.2 hd hC.2.2.2.2.2.2.2.2.2.1
  · rw [hlaw] at z
    cases z
theorem v_lawret {m : MInfo} {kc ks pc : Nat} {E : List AV} {ρ : Rho} {h : Hh} {Q : PQ} {X : PX} {x : Int} (hd : decode (am_cc m) pc = .ok (.ireturn, 1)) (hlaw : am_law m = true) (hQ : Q [aI x] ρ h) : am_V m kc ks pc E [aI x] ρ h Q X := by
  intro l p e R s q args below meth c D cA B b g0 g1 Z H locs cells slots ls hC hZ hR hL hS hF hc hs
  rcases hZ with ⟨z, -⟩ | ⟨-, -, hZ⟩
  · rw [hlaw] at z
    cases z
  · exact hZ x ρ h pc H locs cells slots ls hQ (am_StH hS) hd hF (Nat.le_trans (Nat.le_add_right _ _) hc) (Nat.le_trans (Nat.le_add_right _ _) hs)
theorem v_mmin {m : MInfo} {kc ks pc : Nat} {E st : List AV} {ρ : Rho} {h : Hh} {Q : PQ} {X : PX} {x y : Int} {idx : Nat} (hd : decode (am_cc m) pc = .ok (.invokestatic idx, 3)) (hl : Cond.methodLink (am_own m) idx Lib.Math.min.name ∈ am_W0 ∧ Cond.static Lib.Math.min.name ∈ am_W0 ∧ Cond.initialized "java/lang/Math" ∈ am_W0 ∧ Cond.code Lib.Math.min.name Lib.Math.min.code 2 (some .int) ∈ am_W0) (hfr : 1 ≤ am_fr m) (hst : am_ct st ≤ 16) (k : am_V m kc ks (pc + 3) E (aI (min x y) :: st) ρ h Q X) : am_V m kc ks pc E (aI y :: aI x :: st) ρ h Q X := by
  intro l p e R s q args below meth c D cA B b g0 g1 Z H locs cells slots ls hC hZ hR hL hS hF hc hs
  have hy : am_i y := am_StH hS
  have hx : am_i x := am_StH (am_StT hS)
  have hw := hC.2.2.2.2.2.2.1
  have hsum := am_sum B b st
  have hfr9 := hC.2.2.2.2.2.2.2.2.2.2.2.2.2.2.2.2.1
  have hlo9 := hC.2.2.2.2.2.2.2.2.2.2.2.2.2.2.2.2.2.1
  refine va_mmin hC.2.1 hC.2.2.1 (hC.2.2.2.2.1.trans hL.1.symm) hC.2.2.2.2.2.1 (hw _ hl.1) (hw _ hl.2.1) (hw _ hl.2.2.1) (hw _ hl.2.2.2) (by omega) (by omega) (by omega) (by omega) hd ?_
  have e9 : (if Int32.ofInt y < Int32.ofInt x then Int32.ofInt y else Int32.ofInt x) = Int32.ofInt (min x y) := by
    by_cases z : y < x
    · rw [if_pos ((am_ltI hy hx).mpr z), show min x y = y by omega]
    · rw [if_neg (mt ((am_ltI hy hx).mp) z), show min x y = x by omega]
  rw [e9]
  exact (k l p e R s q args below meth c D cA B b g0 g1 Z H locs cells slots ls hC hZ hR hL (am_StC (v := aI (min x y)) (show am_i _ by obtain ⟨a1, a2⟩ := hx; obtain ⟨b1, b2⟩ := hy; exact ⟨by omega, by omega⟩) (am_StT (am_StT hS))) hF hc hs)
theorem v_mmax {m : MInfo} {kc ks pc : Nat} {E st : List AV} {ρ : Rho} {h : Hh} {Q : PQ} {X : PX} {x y : Int} {idx : Nat} (hd : decode (am_cc m) pc = .ok (.invokestatic idx, 3)) (hl : Cond.methodLink (am_own m) idx Lib.Math.max.name ∈ am_W0 ∧ Cond.static Lib.Math.max.name ∈ am_W0 ∧ Cond.initialized "java/lang/Math" ∈ am_W0 ∧ Cond.code Lib.Math.max.name Lib.Math.max.code 2 (some .int) ∈ am_W0) (hfr : 1 ≤ am_fr m) (hst : am_ct st ≤ 16) (k : am_V m kc ks (pc + 3) E (aI (max x y) :: st) ρ h Q X) : am_V m kc ks pc E (aI y :: aI x :: st) ρ h Q X := by
  intro l p e R s q args below meth c D cA B b g0 g1 Z H locs cells slots ls hC hZ hR hL hS hF hc hs
  have hy : am_i y := am_StH hS
  have hx : am_i x := am_StH (am_StT hS)
  have hw := hC.2.2.2.2.2.2.1
  have hsum := am_sum B b st
  have hfr9 := hC.2.2.2.2.2.2.2.2.2.2.2.2.2.2.2.2.1
  have hlo9 := hC.2.2.2.2.2.2.2.2.2.2.2.2.2.2.2.2.2.1
  refine va_mmax hC.2.1 hC.2.2.1 (hC.2.2.2.2.1.trans hL.1.symm) hC.2.2.2.2.2.1 (hw _ hl.1) (hw _ hl.2.1) (hw _ hl.2.2.1) (hw _ hl.2.2.2) (by omega) (by omega) (by omega) (by omega) hd ?_
  have e9 : (if Int32.ofInt x < Int32.ofInt y then Int32.ofInt y else Int32.ofInt x) = Int32.ofInt (max x y) := by
    by_cases z : x < y
    · rw [if_pos ((am_ltI hx hy).mpr z), show max x y = y by omega]
    · rw [if_neg (mt ((am_ltI hx hy).mp) z), show max x y = x by omega]
  rw [e9]
  exact (k l p e R s q args below meth c D cA B b g0 g1 Z H locs cells slots ls hC hZ hR hL (am_StC (v := aI (max x y)) (show am_i _ by obtain ⟨a1, a2⟩ := hx; obtain ⟨b1, b2⟩ := hy; exact ⟨by omega, by omega⟩) (am_StT (am_StT hS))) hF hc hs)
theorem v_mmaxL {m : MInfo} {kc ks pc : Nat} {E st : List AV} {ρ : Rho} {h : Hh} {Q : PQ} {X : PX} {x y : Int} {idx : Nat} (hd : decode (am_cc m) pc = .ok (.invokestatic idx, 3)) (hl : Cond.methodLink (am_own m) idx Lib.MathLoose.max_long.x ∈ am_W0 ∧ Cond.static Lib.MathLoose.max_long.x ∈ am_W0 ∧ Cond.initialized "java/lang/Math" ∈ am_W0 ∧ Cond.code Lib.MathLoose.max_long.x Lib.MathLoose.max_long.code 4 (some .long) ∈ am_W0) (hfr : 1 ≤ am_fr m) (hst : am_ct st ≤ 8) (k : am_V m kc ks (pc + 3) E (aL (max x y) :: st) ρ h Q X) : am_V m kc ks pc E (aL y :: aL x :: st) ρ h Q X := by
  intro l p e R s q args below meth c D cA B b g0 g1 Z H locs cells slots ls hC hZ hR hL hS hF hc hs
  have hy : am_l y := am_StH hS
  have hx : am_l x := am_StH (am_StT hS)
  have hw := hC.2.2.2.2.2.2.1
  have hsum := am_sum B b st
  have hfr9 := hC.2.2.2.2.2.2.2.2.2.2.2.2.2.2.2.2.1
  have hlo9 := hC.2.2.2.2.2.2.2.2.2.2.2.2.2.2.2.2.2.1
  refine va_mmax_long hC.2.1 hC.2.2.1 (hC.2.2.2.2.1.trans hL.1.symm) hC.2.2.2.2.2.1 (hw _ hl.1) (hw _ hl.2.1) (hw _ hl.2.2.1) (hw _ hl.2.2.2) (by omega) (by omega) (by omega) (by omega) hd ?_
  have hlt : Int64.ofInt y < Int64.ofInt x ↔ y < x := by rw [Int64.lt_iff_toInt_lt, am_toL hx, am_toL hy]
  have e9 : (if Int64.ofInt y < Int64.ofInt x then Int64.ofInt x else Int64.ofInt y) = Int64.ofInt (max x y) := by
    by_cases z : y < x
    · rw [if_pos (hlt.mpr z), show max x y = x by omega]
    · rw [if_neg (mt hlt.mp z), show max x y = y by omega]
  rw [e9]
  exact (k l p e R s q args below meth c D cA B b g0 g1 Z H locs cells slots ls hC hZ hR hL (am_StC (v := aL (max x y)) (show am_l _ by obtain ⟨a1, a2⟩ := hx; obtain ⟨b1, b2⟩ := hy; exact ⟨by omega, by omega⟩) (am_StT (am_StT hS))) hF hc hs)
/-- a place that throws: 'new E("text")' -/
def am_TH (own : String) (ik is ic : Nat) (cls : String) : Prop := Cond.classLink own ik cls ∈ am_W0 ∧ Cond.initialized cls ∈ am_W0 ∧ (∃ tx, Cond.stringRef own is tx ∈ lw_tbl) ∧ (∀ w ∈ vx_atS own ic cls ["java/lang/RuntimeException", "java/lang/Exception"], w ∈ am_W0 ∨ w ∈ am_W1) ∧ (∀ w ∈ Cond.classLink own ik cls :: Cond.initialized cls :: vx_atS own ic cls ["java/lang/RuntimeException", "java/lang/Exception"], vx_ot w = true) ∧ Bundle.fit cls = true
theorem am_tab {m : MInfo} {x : List ExceptionTableEntry} (h : (am_law m = true ∧ am_hh m = []) ∨ x = tableOf (am_hh m)) (hlaw : am_law m = false) : x = tableOf (am_hh m) := h.resolve_left (fun z => by rw [hlaw] at z; exact absurd z.1 (by decide))
theorem am_nil {hh : List (Nat × Nat × Nat × Nat)} (h : hh = []) : tableOf hh = [] := by rw [h]; rfl
theorem am_W1ot {w : Cond} (h : w ∈ am_W1) : w.onTables = true := by
  have h1 := (List.mem_filter.mp h).2
  cases w <;> first | rfl | (simp [am_w1] at h1)
theorem am_HR.up {D : va_G} {cA : Nat → ClassId} {B : Nat} {g0 g1 : Int → Int} {ρ : Rho} {h : Hh} {H H1 : Heap} (hR : am_HR D cA B g0 g1 ρ h H) (ho : ∀ q : Nat, q < H.size → H1[q]? = H[q]?) : am_HR D cA B g0 g1 (ρ.1, ρ.2.1, false) h H1 :=
  ⟨hR.1.kept fun k x hx => ho x.1 ((hR.1 k x hx).lt), fun z => (by cases z), hR.2.2.1, hR.2.2.2.1, hR.2.2.2.2.1, hR.2.2.2.2.2.1, hR.2.2.2.2.2.2⟩
theorem v_throw {m : MInfo} {kc ks pc : Nat} {E st : List AV} {ρ : Rho} {h : Hh} {Q : PQ} {X : PX} {ik is ic : Nat} {cls : String} (d0 : decode (am_cc m) pc = .ok (.new ik, 3)) (d3 : decode (am_cc m) (pc + 3) = .ok (.dup, 1)) (d4 : decode (am_cc m) (pc + 4) = .ok (.ldc is, 2)) (d6 : decode (am_cc m) (pc + 6) = .ok (.invokespecial ic, 3)) (d9 : decode (am_cc m) (pc + 9) = .ok (.athrow, 1)) (ht : am_TH (am_own m) ik is ic cls) (hlaw : am_law m = false) (hhh : am_hh m = []) (hfr : 6 ≤ am_fr m) (hst : am_ct st ≤ 16) (h1 : 1 ≤ kc) (h6 : 6 ≤ ks) (hX : X cls (ρ.1, ρ.2.1, false) h) : am_V m kc ks pc E st ρ h Q X := by
  intro l p e R s q args below meth c D cA B b g0 g1 Z H locs cells slots ls hC hZ hR hL hS hF hc hs
  rcases hZ with ⟨-, hZ⟩ | ⟨z, -⟩
  · subst hZ
    obtain ⟨t1, t2, ⟨tx, t3⟩, t4, t5, t6⟩ := ht
    have hw := hC.2.2.2.2.2.2.1
    have hsum := am_sum B b st
    have hfr9 := hC.2.2.2.2.2.2.2.2.2.2.2.2.2.2.2.2.1
    have hlo9 := hC.2.2.2.2.2.2.2.2.2.2.2.2.2.2.2.2.2.1
    obtain ⟨sa, hsa⟩ := hC.2.2.2.2.2.2.2.2.1.1 _ _ _ t3
    have htab : c.exceptionTable.toList = [] := (am_tab hC.2.2.2.2.2.2.2.2.2.2.2.2.2.2.1 hlaw).trans (am_nil hhh)
    refine vx_throwS (names := ["java/lang/RuntimeException", "java/lang/Exception"]) (sa := sa) hC.2.1 hC.2.2.1 hC.1 hC.2.2.2.2.2.1 t6 (by decide) (hw _ t1) (hw _ t2) hsa (fun w9 hw9 => ?_) t5 hC.2.2.2.2.2.2.2.2.2.2.2.1 hC.2.2.2.2.2.2.2.2.2.2.2.2.1 hF (hL.1.trans hC.2.2.2.2.1.symm) d0 d3 d4 d6 d9 (fun x9 hx9 => by rw [htab] at hx9; cases hx9) ?_ ?_ (by omega) (by omega) hC.2.2.2.2.2.2.2.2.2.1 (fun t hal hsz ho => ⟨_, h, hX, hR.up ho, ?_⟩) hF.2.2 (by omega) (by omega)
    · rcases t4 w9 hw9 with z | z
      · exact hw _ z
      · exact va_Nw.use (am_W1ot z) (hC.2.2.2.2.2.2.2.1 _ z)
    · show 2 + 3 < R.frames
      omega
    · show _ + (13 * (2 + 1) + 43) ≤ R.locals
      omega
    · exact ⟨Nat.le_trans hF.1 hsz, fun q1 k1 k2 => (ho q1 (Nat.lt_of_lt_of_le k1 hF.1)).trans (hF.2.1 q1 k1 k2)⟩
  · rw [hlaw] at z
    cases z
theorem v_throwW {m : MInfo} {kc ks pc : Nat} {E st : List AV} {ρ : Rho} {h : Hh} {Q : PQ} {X : PX} {ik is ic : Nat} {cls : String} (d0 : decode (am_cc m) pc = .ok (.new ik, 3)) (d3 : decode (am_cc m) (pc + 3) = .ok (.dup, 1)) (d4 : decode (am_cc m) (pc + 4) = .ok (.ldc_w is, 3)) (d6 : decode (am_cc m) (pc + 7) = .ok (.invokespecial ic, 3)) (d9 : decode (am_cc m) (pc + 10) = .ok (.athrow, 1)) (ht : am_TH (am_own m) ik is ic cls) (hlaw : am_law m = false) (hhh : am_hh m = []) (hfr : 6 ≤ am_fr m) (hst : am_ct st ≤ 16) (h1 : 1 ≤ kc) (h6 : 6 ≤ ks) (hX : X cls (ρ.1, ρ.2.1, false) h) : am_V m kc ks pc E st ρ h Q X := by
  intro l p e R s q args below meth c D cA B b g0 g1 Z H locs cells slots ls hC hZ hR hL hS hF hc hs
  rcases hZ with ⟨-, hZ⟩ | ⟨z, -⟩
  · subst hZ
    obtain ⟨t1, t2, ⟨tx, t3⟩, t4, t5, t6⟩ := ht
    have hw := hC.2.2.2.2.2.2.1
    have hsum := am_sum B b st
    have hfr9 := hC.2.2.2.2.2.2.2.2.2.2.2.2.2.2.2.2.1
    have hlo9 := hC.2.2.2.2.2.2.2.2.2.2.2.2.2.2.2.2.2.1
    obtain ⟨sa, hsa⟩ := hC.2.2.2.2.2.2.2.2.1.1 _ _ _ t3
    have htab : c.exceptionTable.toList = [] := (am_tab hC.2.2.2.2.2.2.2.2.2.2.2.2.2.2.1 hlaw).trans (am_nil hhh)
    refine vx_throwSW (names := ["java/lang/RuntimeException", "java/lang/Exception"]) (sa := sa) hC.2.1 hC.2.2.1 hC.1 hC.2.2.2.2.2.1 t6 (by decide) (hw _ t1) (hw _ t2) hsa (fun w9 hw9 => ?_) t5 hC.2.2.2.2.2.2.2.2.2.2.2.1 hC.2.2.2.2.2.2.2.2.2.2.2.2.1 hF (hL.1.trans hC.2.2.2.2.1.symm) d0 d3 d4 d6 d9 (fun x9 hx9 => by rw [htab] at hx9; cases hx9) ?_ ?_ (by omega) (by omega) hC.2.2.2.2.2.2.2.2.2.1 (fun t hal hsz ho => ⟨_, h, hX, hR.up ho, ?_⟩) hF.2.2 (by omega) (by omega)
    · rcases t4 w9 hw9 with z | z
      · exact hw _ z
      · exact va_Nw.use (am_W1ot z) (hC.2.2.2.2.2.2.2.1 _ z)
    · show 2 + 3 < R.frames
      omega
    · show _ + (13 * (2 + 1) + 43) ≤ R.locals
      omega
    · exact ⟨Nat.le_trans hF.1 hsz, fun q1 k1 k2 => (ho q1 (Nat.lt_of_lt_of_le k1 hF.1)).trans (hF.2.1 q1 k1 k2)⟩
  · rw [hlaw] at z
    cases z
/-- what is the same for every state that the method is called in -/
def am_G (D : va_G) (cA : Nat → ClassId) (B b : Nat) (g0 g1 : Int → Int) (U : State) : Prop := (∀ w ∈ am_W1, va_Nw w U) ∧ am_strs U ∧ va_K D am_cl (am_tys cA) U ∧ vx_Zq Bundle.tN "UNASSIGNED_STACK" Bundle.steD (am_A B) U U.heap ∧ vx_Zq Bundle.tN "SUPPRESSED_SENTINEL" Bundle.listD (am_A B) U U.heap ∧ B ≤ U.heap.size ∧ (∀ E1 ∈ am_X6, ∀ E2 ∈ am_X6, E1 ≠ E2 → va_Nc E1 E2 U) ∧ (va_X b (g1 0).toNat (fun j => Int32.ofInt (g0 j)) U U.heap ∧ b < B ∧ (∀ j, am_i (g0 j)) ∧ 0 ≤ g1 0 ∧ g1 0 ≤ 260)
def am_ws (j : MInfo) : List Cond := .code (am_y j) (am_cc j) (am_ml j) (am_rt j) :: am_W0
def am_rm (j : MInfo) : Room := { frames := am_fr j, cells := am_kc j, slots := am_ks j, locals := 100 * am_fr j }
def am_E (j : MInfo) (As : List AV) : List AV := As ++ List.replicate (am_ml j - As.length) aU
def am_Pc (D : va_G) (cA : Nat → ClassId) (B b : Nat) (g0 g1 : Int → Int) (ρ : Rho) (h : Hh) (As : List AV) : Array Value → State → Prop := va_Pc (As.map (am_v B b)) (fun U => am_G D cA B b g0 g1 U ∧ am_HR D cA B g0 g1 ρ h U.heap)
/-- a method's own facts -/
def am_J (j : MInfo) : Prop := Cond.initialized (am_y j).cls ∈ am_W0 ∧ Cond.code (am_y j) (am_cc j) (am_ml j) (am_rt j) ∈ am_W0 ∧ plainName (am_y j).cls = true ∧ ((am_y j).cls ≠ "java/lang/invoke/MethodHandle" ∧ (am_y j).cls ≠ "java/lang/invoke/VarHandle") ∧ am_own j = (am_y j).cls ∧ am_law j = false ∧ am_hh j = [] ∧ am_ml j ≤ 60
/-- arguments of one slot each -/
def am_one : AV → Bool
  | .inr (.inl _) => false
  | .inr (.inr (.inr (.inl _))) => false
  | _ => true
theorem am_one_cat {B b : Nat} {v : AV} (h : am_one v = true) : (am_v B b v).category = 1 := by
  rcases v with x | x | x | x | x | x <;> first | rfl | (simp [am_one] at h)
theorem am_sl {B b : Nat} : ∀ {As : List AV}, (∀ v ∈ As, am_one v = true) → lg_sl (As.map (am_v B b)) = As.map (fun v => Slot.val (am_v B b v))
  | [], _ => rfl
  | v :: As, h => by
    have h1 := am_sl (B := B) (b := b) (As := As) (fun w hw => h w (List.mem_cons_of_mem _ hw))
    have h2 := am_one_cat (B := B) (b := b) (h v List.mem_cons_self)
    show (if (am_v B b v).category = 2 then [Slot.val (am_v B b v), Slot.second] else [Slot.val (am_v B b v)]) ++ lg_sl (As.map (am_v B b)) = _
    rw [h1, if_neg (by omega)]
    rfl
theorem am_entry {B b : Nat} {j : MInfo} {As : List AV} (h1 : ∀ v ∈ As, am_one v = true) (h2 : As.length ≤ am_ml j) (h3 : am_St As) : am_LR B b ((lg_sl (As.map (am_v B b)) ++ List.replicate (am_ml j - (lg_sl (As.map (am_v B b))).length) Slot.unset).toArray) (am_ml j) (am_E j As) := by
  have e1 := am_sl (B := B) (b := b) h1
  have hw := lv_entry (As.map (am_v B b)) (n := am_ml j) (by rw [e1, List.length_map]; exact h2)
  refine ⟨hw.1, by unfold am_E; rw [List.length_append, List.length_replicate]; omega, hw.2.1, fun i v hv => ?_⟩
  unfold am_E at hv
  rw [e1]
  by_cases z : i < As.length
  · rw [List.getElem?_append_left z] at hv
    refine Or.inr ⟨?_, h3 v (List.mem_of_getElem? hv)⟩
    rw [List.getElem?_toArray, List.getElem?_append_left (by rw [List.length_map]; exact z), List.getElem?_map, hv]
    rfl
  · rw [List.getElem?_append_right (by omega), List.getElem?_replicate] at hv
    split at hv
    · exact Or.inl (Option.some.inj hv).symm
    · cases hv
set_option maxHeartbeats 1000000 in
/-- the contract of a method, from its abstract run -/
theorem am_met {j : MInfo} {l : Launch} (hl : l.stackTraces = false) (hJ : am_J j) {D : va_G} {cA : Nat → ClassId} {B b : Nat} {g0 g1 : Int → Int} {ρ : Rho} {h : Hh} {Q : PQ} {X : PX} {As : List AV} (h1 : ∀ v ∈ As, am_one v = true) (h2 : As.length ≤ am_ml j) (h3 : am_St As) (hV : am_V j (am_kc j) (am_ks j) 0 (am_E j As) [] ρ h Q X) :
    vx_Met l (am_y j) (am_ws j) (am_rm j) (am_Pc D cA B b g0 g1 ρ h As) (am_QC D cA B b g0 g1 Q) (am_XC D cA B g0 g1 X) (am_kc j) (am_ks j) (am_A B) := by
  obtain ⟨j1, j2, j3, j4, j5, j6, j7, j8⟩ := hJ
  refine vx_ofW (cc := am_cc j) (maxL := am_ml j) (ret := am_rt j) j3 rfl ?_
  intro p e s m args below meth c s₁ B0 hml ht hv
  obtain ⟨rfl, hG, hHR⟩ := hv
  obtain ⟨G1, G2, G3, G4, G5, G6, G7, G8⟩ := hG
  have hws := atoms_spec (ws := am_ws j) B0.pre
  have htab : c.exceptionTable.toList = tableOf (am_hh j) := by
    rw [am_nil j7]
    cases hz : c.exceptionTable.toList with
    | nil => rfl
    | cons x xs => exact (ht x (by rw [hz]; exact List.mem_cons_self)).elim
  rw [lg_entry_eq]
  refine hV l p e (am_rm j) s m _ below meth c D cA B b g0 g1 _ s.heap [] 0 0 _ ⟨hl, B0.exec, B0.bytes, B0.returns, hml, ?_, fun w hw => hws w (List.mem_cons_of_mem _ hw), G1, G2, B0.notSynchronized, G3, G4, G5, G6, Or.inr htab, Or.inr (name_of_methodNamed B0.named B0.method).1, Nat.le_refl _, Nat.le_refl _, G7, G8⟩ (Or.inl ⟨j6, rfl⟩) hHR (am_entry h1 h2 h3) (fun v hv => by cases hv) va_S.rf (by show 0 + am_kc j ≤ am_kc j; omega) (by show 0 + am_ks j ≤ am_ks j; omega)
  · rw [j5]
    exact findClass_of_methodNamed B0.named
theorem am_AO.moved {u U : State} (hvm : u.vm.Alike U.vm) (h : am_AO u) : am_AO U := by
  refine ⟨(va_AO.moved hvm (va_AO.of h.1)).use, ?_⟩
  have h := h.2
  simp only [Cond.before, Cond.holds, Cond.value, beq_iff_eq] at h
  cases hc : u.vm.findClass (FieldType.array .int).toString with
  | none => simp [hc] at h
  | some comp =>
    simp only [hc, Option.bind_some, Option.bind_eq_some_iff, Option.map_eq_some_iff] at h
    obtain ⟨c, hi, k, hk, hb⟩ := h
    obtain ⟨k', hk', he⟩ := hvm.2.2 _ _ hk
    have hi' : (U.vm.classes.findIdx? fun (x : Class) => match x.kind with | .array component _ => component == comp | _ => false) = some c := by
      refine Eq.trans (va_idx_bare U.vm comp).symm ?_
      first | rw [hvm.bare_eq] | rw [← hvm.bare_eq]
      exact (va_idx_bare u.vm comp).trans hi
    cases hkind : k.kind with
    | array component ty =>
      rw [hkind] at hb
      simp at hb
      have hkind' : k'.kind = .array component ty := by rw [he]; exact hkind
      have f1 : U.vm.findClass (FieldType.array .int).toString = some comp := by rw [hvm.findClass]; exact hc
      have f2 : U.vm.findClass ("[" ++ (FieldType.array .int).toString) = some c := by rw [hvm.findClass]; exact hb.2
      unfold Cond.before Cond.holds
      simp only [Cond.value]
      rw [f1, Option.bind_some]
      refine (congrArg (fun o : Option Nat => (o.bind (fun c => (U.vm.classes[c]?).map fun (k : Class) => match k.kind with | .array _ ty => decide (ty = FieldType.array .int) && decide (U.vm.findClass ("[" ++ (FieldType.array .int).toString) = some c) | _ => false) == some true)) hi').trans ?_
      simp [hk', hkind', f2, hb.1]
    | _ => rw [hkind] at hb; simp at hb
theorem am_C.G {m : MInfo} {l : Launch} {p : Program} {s : State} {R : Room} {i : MethodId} {args : Array Value} {meth : Method} {c : Code} {D : va_G} {cA : Nat → ClassId} {B b : Nat} {g0 g1 : Int → Int} {H : Heap} {locs : List Loc} (hC : am_C m l p s R i args meth c D cA B b g0 g1) (hF : va_S (am_A B) s.heap H locs) {U : State} (hU : U.heap = H) (hW : s.WarmedH U.vm) : am_G D cA B b g0 g1 U := by
  refine ⟨fun w hw => ?_, ⟨fun own k tx hk => ?_, am_AO.moved hW.alike hC.2.2.2.2.2.2.2.2.1.2⟩, va_K.moved hW.alike hC.2.2.2.2.2.2.2.2.2.2.1, ?_, ?_, ?_, fun E1 h1 E2 h2 hn => (hC.2.2.2.2.2.2.2.2.2.2.2.2.2.2.2.2.2.2.1 E1 h1 E2 h2 hn).moved hW.alike, ?_⟩
  · have h1 := hC.2.2.2.2.2.2.2.1 w hw
    have h2 := (List.mem_filter.mp hw).2
    cases w <;> first | exact va_Nw.warmC hW h1 | exact va_Nw.warmM hW h1 | exact va_Nw.warmD hW h1 | (simp [am_w1] at h2)
  · obtain ⟨a, ha⟩ := hC.2.2.2.2.2.2.2.2.1.1 own k tx hk
    exact ⟨a, ha.warm hW⟩
  · rw [hU]
    exact vx_Zq.moved hW.alike (vx_Zq.kept hC.2.2.2.2.2.2.2.2.2.2.2.1 (fun a h1 h2 => hF.2.1 a h1 h2))
  · rw [hU]
    exact vx_Zq.moved hW.alike (vx_Zq.kept hC.2.2.2.2.2.2.2.2.2.2.2.2.1 (fun a h1 h2 => hF.2.1 a h1 h2))
  · rw [hU]
    exact Nat.le_trans hC.2.2.2.2.2.2.2.2.2.2.2.2.2.1 hF.1
  · obtain ⟨x1, x2, x3⟩ := hC.2.2.2.2.2.2.2.2.2.2.2.2.2.2.2.2.2.2.2
    refine ⟨?_, x2, x3⟩
    rw [hU]
    exact va_X.moved hW.alike (x1.kept (hF.2.1 b (Nat.lt_of_lt_of_le x2 hC.2.2.2.2.2.2.2.2.2.2.2.2.2.1) (Nat.not_le.mpr x2)))
theorem am_FB {D : va_G} {cA : Nat → ClassId} {B b : Nat} {g0 g1 : Int → Int} {ρ : Rho} {h : Hh} {As : List AV} : FrameBlind (am_Pc D cA B b g0 g1 ρ h As) := by
  intro a U g mk hq
  obtain ⟨q1, ⟨G1, G2, G3, G4, G5, G6, G7, G8⟩, q3⟩ := hq
  have hvm : U.vm = (U.calling g mk a).vm := rfl
  have hal : U.vm.Alike (U.calling g mk a).vm := Vm.Alike.refl U.vm
  refine ⟨q1, ⟨fun w hw => va_Nw.same (am_W1ot hw) hvm (G1 w hw), ⟨fun own k tx hk => ?_, am_AO.moved hal G2.2⟩, va_K.moved hal G3, vx_Zq.moved hal G4, vx_Zq.moved hal G5, G6, fun E1 h1 E2 h2 hn => (G7 E1 h1 E2 h2 hn).moved hal, va_X.moved hal G8.1, G8.2⟩, q3⟩
  obtain ⟨a9, h9⟩ := G2.1 own k tx hk
  exact ⟨a9, vk_R.same hvm.symm h9⟩
theorem am_room {j m : MInfo} {R : Room} (h1 : am_fr m ≤ R.frames) (h2 : 100 * am_fr m ≤ R.locals) (h3 : am_fr j + 1 ≤ am_fr m) (h4 : am_ml j ≤ 60) : (am_rm j).frames + 1 ≤ R.frames ∧ 8 + (am_ml j + 11) + (am_rm j).locals ≤ R.locals := by
  constructor
  · show am_fr j + 1 ≤ R.frames
    omega
  · show 8 + (am_ml j + 11) + 100 * am_fr j ≤ R.locals
    omega
theorem am_goes {B b : Nat} {v : List AV} {st : List AV} (h : v.length ≤ 1) : (v.head?.map (am_v B b)).toList ++ st.map (am_v B b) = (v ++ st).map (am_v B b) := by
  match v, h with
  | [], _ => rfl
  | [x], _ => rfl
theorem am_StA {v st : List AV} (h1 : am_St v) (h2 : am_St st) : am_St (v ++ st) := fun w hw => (List.mem_append.mp hw).elim (h1 w) (h2 w)
/-- behind a call -/
theorem am_after {m : MInfo} {kc ks pc : Nat} {E st : List AV} {Q : PQ} {X : PX} {kcj ksj : Nat} {l : Launch} {p : Program} {e : Env} {R : Room} {s : State} {q : MethodId} {args : Array Value} {below : List Frame} {meth : Method} {c : Code} {D : va_G} {cA : Nat → ClassId} {B b : Nat} {g0 g1 : Int → Int} {Z : State → Prop} {H : Heap} {locs : List Loc} {cells slots : Nat} {ls : Array Slot} {st0 : List Value} {a9 : Array Value}
    (hC : am_C m l p s R q args meth c D cA B b g0 g1) (hZ : am_Z m l p e R s q args below meth c D cA B b g0 g1 Q X Z) (hL : am_LR B b ls (am_ml m) E) (hS : am_St st) (hF : va_S (am_A B) s.heap H locs) (hc : cells + kc ≤ R.cells) (hs : slots + ks ≤ R.slots) (hkc : kcj ≤ kc) (hks : ksj ≤ ks) (hhh : am_hh m = [])
    (hr : vx_Run p l e R s q args below meth c H locs cells slots kcj ksj (F0 q pc ls st0) (st.map (am_v B b)) (am_QC D cA B b g0 g1 (fun v ρ h => am_V m (kc - kcj) (ks - ksj) (pc + 3) E (v ++ st) ρ h Q X) a9) (am_XC D cA B g0 g1 X) (am_A B)) : W p l e R s q args below meth c H locs cells slots Z (F0 q pc ls st0) := by
  intro T hT Xs
  rcases hr T hT Xs with ⟨v, st₀, t, T', L, h0, X', hLq, e1, e2, ⟨v9, ρ9, h9, q1, q2, q3, q4, q5, q6⟩, stp⟩ | ⟨q9, st₀, t, T', L, Ex, ce, h0, X', hLq, e1, e2, ⟨ρ9, h9, q1, q2, q3⟩, hce, hcv, hcl, stp⟩
  · cases q1
    obtain ⟨k1, k2, k3⟩ := vx_keep h0 e1 hF (fun _ _ z => z) (fun _ z => z) hLq q6
    rw [← e1] at q5
    obtain ⟨t2, a1, b1⟩ := q3 l p e R s q args below meth c D cA B b g0 g1 Z T'.heap (locs ++ L) (cells + kcj) (slots + ksj) ls hC hZ q5 hL (am_StA q4 hS) k3 (by omega) (by omega) T' rfl X'
    rw [← am_goes q2] at a1
    exact ⟨t2, stp t2 a1, b1⟩
  · obtain ⟨k1, k2, k3⟩ := vx_keep h0 e1 hF (fun _ _ z => z) (fun _ z => z) hLq q3
    rcases hZ with ⟨hlaw, hZ⟩ | ⟨-, hX, -⟩
    · subst hZ
      have htab : c.exceptionTable.toList = [] := (am_tab hC.2.2.2.2.2.2.2.2.2.2.2.2.2.2.1 hlaw).trans (am_nil hhh)
      have hw : vx_W p l e R s q args below meth c T'.heap (locs ++ L) (cells + kcj) (slots + ksj) (vx_MQ below (am_QC D cA B b g0 g1 Q) (am_XC D cA B g0 g1 X) args s R.cells R.slots (am_A B)) (F0 q pc ls (st.map (am_v B b))) q9 :=
        vx_out (fun x9 hx9 => by rw [htab] at hx9; cases hx9) hC.2.2.2.2.2.2.2.2.2.1 (by rw [e1]; exact hce) hcv hcl (fun t9 ht9 _ => ⟨ρ9, h9, q1, by rw [ht9, e1]; exact q2, k3.F ht9⟩) k3.2.2 (by omega) (by omega)
      obtain ⟨t2, a1, b1⟩ := hw T' rfl X'
      exact ⟨t2, stp.trans a1, b1⟩
    · exact (hX Ex ρ9 h9 q1).elim
set_option maxHeartbeats 1000000 in
theorem v_callV {m : MInfo} {kc ks pc : Nat} {E st : List AV} {ρ : Rho} {h : Hh} {Q : PQ} {X : PX} {j : MInfo} {idx n : Nat} {As E0 : List AV} {a ci N : Nat} {q9 : vw_C} (hd : decode (am_cc m) pc = .ok (.invokevirtual idx, 3)) (hlk : Cond.methodLink (am_own m) idx (am_y j) ∈ am_W0 ∧ Cond.instanceMethod (am_y j) ∈ am_W0 ∧ Cond.selects (am_y j).cls (am_y j) (am_y j) ∈ am_W0) (hJ : am_J j) (hkc : am_kc j ≤ kc) (hks : am_ks j ≤ ks) (hfr : am_fr j + 1 ≤ am_fr m) (hhh : am_hh m = []) (hst : am_ct st ≤ 8) (h1 : ∀ v ∈ (aR a :: As), am_one v = true) (h2 : ((aR a :: As)).length ≤ am_ml j) (hE : am_E j ((aR a :: As)) = E0) (hk : ρ.1[a]? = some (10 + ci, N)) (hcl : am_cl[ci]? = some q9) (hq9 : q9.1 = (am_y j).cls) (hn : (parseMethodDescriptor (am_y j).desc).map (fun d => d.parameters.length) = some n) (hAn : As.length = n) (k : am_V j (am_kc j) (am_ks j) 0 E0 [] ρ h (fun v ρ' h' => am_V m (kc - am_kc j) (ks - am_ks j) (pc + 3) E (v ++ st) ρ' h' Q X) X) : am_V m kc ks pc E (As.reverse ++ aR a :: st) ρ h Q X := by
  intro l p e R s q args below meth c D cA B b g0 g1 Z H locs cells slots ls hC hZ hR hL hS hF hc hs
  subst hE
  obtain ⟨j1, j2, j3, j4, j5, j6, j7, j8⟩ := id hJ
  have hw := hC.2.2.2.2.2.2.1
  have hfr9 := hC.2.2.2.2.2.2.2.2.2.2.2.2.2.2.2.2.1
  have hlo9 := hC.2.2.2.2.2.2.2.2.2.2.2.2.2.2.2.2.2.1
  have hsum := am_sum B b st
  have hroom := am_room (j := j) hfr9 hlo9 hfr j8
  have hlt := hR.lt hk
  have ha9 := am_w_get (B := B) (cA := cA) (h := h) hk
  rw [am_cellO] at ha9
  have hcell := va_recv hC.2.2.2.2.2.2.2.2.2.2.1 hR.1 hcl ha9
  rw [hq9] at hcell
  have hSs : am_St st := fun w9 hw9 => hS w9 (List.mem_append_right _ (List.mem_cons_of_mem _ hw9))
  have hSa : am_St (aR a :: As) := am_StC trivial (fun w9 hw9 => hS w9 (List.mem_append_left _ (List.mem_reverse.mpr hw9)))
  have hM := am_met (l := l) hC.1 hJ (D := D) (cA := cA) (B := B) (b := b) (g0 := g0) (g1 := g1) h1 h2 hSa k
  refine am_after hC hZ hL hSs hF hc hs hkc hks hhh (a9 := (Value.ref (B + a) :: As.map (am_v B b)).toArray) (vx_runV (As := As.map (am_v B b)) (b := B + a) ⟨hC.2.1, hC.2.2.1, hC.2.2.2.2.1, hC.2.2.2.2.2.1, hw⟩ hM (cwV n hw (am_goodIn (fun w9 hw9 => by
    rcases List.mem_append.mp hw9 with z | z
    · simp only [List.mem_cons, List.mem_nil_iff, or_false] at z
      rcases z with rfl | rfl | rfl | rfl
      · exact hlk.1
      · exact hlk.2.1
      · exact hlk.2.2
      · exact j1
    · rcases List.mem_cons.mp z with rfl | z
      · exact j2
      · exact z)) rfl rfl rfl ⟨rfl, j4.1, j4.2, hn⟩ hroom) ⟨am_FB, hcell, fun U hU hW => ⟨by rw [List.map_cons]; show _ = (Value.ref (am_ad B b a) :: _).toArray; rw [am_adL hlt], hC.G hF hU hW, by rw [hU]; exact hR⟩⟩ rfl (by rw [List.length_map]; exact hAn) hL.1 ?_ (lv_room (by omega)) hd ⟨by omega, by omega⟩)
  rw [List.map_append, List.map_cons, List.map_reverse]
  show _ ++ Value.ref (am_ad B b a) :: _ = _
  rw [am_adL hlt]
set_option maxHeartbeats 1000000 in
theorem v_callU {m : MInfo} {kc ks pc : Nat} {E st : List AV} {ρ : Rho} {h : Hh} {Q : PQ} {X : PX} {j : MInfo} {idx n : Nat} {As E0 : List AV} {a ci N : Nat} {q9 : vw_C} {x9 : MethodName} {owner : String} (hd : decode (am_cc m) pc = .ok (.invokevirtual idx, 3)) (hlk : Cond.methodLink (am_own m) idx x9 ∈ am_W0 ∧ Cond.sameMethod x9.cls owner x9.name x9.desc ∈ am_W0 ∧ Cond.selects q9.1 x9 (am_y j) ∈ am_W0 ∧ Cond.instanceMethod (am_y j) ∈ am_W0 ∧ Cond.declares ⟨owner, x9.name, x9.desc⟩ ∈ am_W1 ∧ owner ≠ "java/lang/invoke/MethodHandle" ∧ owner ≠ "java/lang/invoke/VarHandle") (hJ : am_J j) (hkc : am_kc j ≤ kc) (hks : am_ks j ≤ ks) (hfr : am_fr j + 1 ≤ am_fr m) (hhh : am_hh m = []) (hst : am_ct st ≤ 8) (h1 : ∀ v ∈ (aR a :: As), am_one v = true) (h2 : ((aR a :: As)).length ≤ am_ml j) (hE : am_E j ((aR a :: As)) = E0) (hk : ρ.1[a]? = some (10 + ci, N)) (hcl : am_cl[ci]? = some q9) (hn : (parseMethodDescriptor x9.desc).map (fun d => d.parameters.length) = some n) (hAn : As.length = n) (k : am_V j (am_kc j) (am_ks j) 0 E0 [] ρ h (fun v ρ' h' => am_V m (kc - am_kc j) (ks - am_ks j) (pc + 3) E (v ++ st) ρ' h' Q X) X) : am_V m kc ks pc E (As.reverse ++ aR a :: st) ρ h Q X := by
  intro l p e R s q args below meth c D cA B b g0 g1 Z H locs cells slots ls hC hZ hR hL hS hF hc hs
  subst hE
  obtain ⟨j1, j2, j3, j4, j5, j6, j7, j8⟩ := id hJ
  have hw := hC.2.2.2.2.2.2.1
  have hfr9 := hC.2.2.2.2.2.2.2.2.2.2.2.2.2.2.2.2.1
  have hlo9 := hC.2.2.2.2.2.2.2.2.2.2.2.2.2.2.2.2.2.1
  have hsum := am_sum B b st
  have hroom := am_room (j := j) hfr9 hlo9 hfr j8
  have hlt := hR.lt hk
  have ha9 := am_w_get (B := B) (cA := cA) (h := h) hk
  rw [am_cellO] at ha9
  have hcell := va_recv hC.2.2.2.2.2.2.2.2.2.2.1 hR.1 hcl ha9
  have hSs : am_St st := fun w9 hw9 => hS w9 (List.mem_append_right _ (List.mem_cons_of_mem _ hw9))
  have hSa : am_St (aR a :: As) := am_StC trivial (fun w9 hw9 => hS w9 (List.mem_append_left _ (List.mem_reverse.mpr hw9)))
  have hM := am_met (l := l) hC.1 hJ (D := D) (cA := cA) (B := B) (b := b) (g0 := g0) (g1 := g1) h1 h2 hSa k
  refine am_after hC hZ hL hSs hF hc hs hkc hks hhh (a9 := (Value.ref (B + a) :: As.map (am_v B b)).toArray) (vx_runU (As := As.map (am_v B b)) (b := B + a) ⟨hC.2.1, hC.2.2.1, hC.2.2.2.2.1, hC.2.2.2.2.2.1, hw⟩ hM (va_cwA (C := q9.1) (owner := owner) (x := x9) n hw (am_goodIn (fun w9 hw9 => by
    rcases List.mem_append.mp hw9 with z | z
    · simp only [List.mem_cons, List.mem_nil_iff, or_false] at z
      rcases z with rfl | rfl | rfl | rfl | rfl
      · exact hlk.1
      · exact hlk.2.1
      · exact hlk.2.2.1
      · exact hlk.2.2.2.1
      · exact j1
    · rcases List.mem_cons.mp z with rfl | z
      · exact j2
      · exact z)) rfl rfl rfl (hC.2.2.2.2.2.2.2.1 _ hlk.2.2.2.2.1) ⟨hlk.2.2.2.2.2.1, hlk.2.2.2.2.2.2, hn⟩ hroom) ⟨am_FB, hcell, fun U hU hW => ⟨by rw [List.map_cons]; show _ = (Value.ref (am_ad B b a) :: _).toArray; rw [am_adL hlt], hC.G hF hU hW, by rw [hU]; exact hR⟩⟩ rfl (by rw [List.length_map]; exact hAn) hL.1 ?_ (lv_room (by omega)) hd ⟨by omega, by omega⟩)
  rw [List.map_append, List.map_cons, List.map_reverse]
  show _ ++ Value.ref (am_ad B b a) :: _ = _
  rw [am_adL hlt]
set_option maxHeartbeats 1000000 in
theorem v_callS {m : MInfo} {kc ks pc : Nat} {E st : List AV} {ρ : Rho} {h : Hh} {Q : PQ} {X : PX} {j : MInfo} {idx n : Nat} {As E0 : List AV}  (hd : decode (am_cc m) pc = .ok (.invokestatic idx, 3)) (hlk : Cond.methodLink (am_own m) idx (am_y j) ∈ am_W0 ∧ Cond.static (am_y j) ∈ am_W0) (hJ : am_J j) (hkc : am_kc j ≤ kc) (hks : am_ks j ≤ ks) (hfr : am_fr j + 1 ≤ am_fr m) (hhh : am_hh m = []) (hst : am_ct st ≤ 8) (h1 : ∀ v ∈ As, am_one v = true) (h2 : (As).length ≤ am_ml j) (hE : am_E j (As) = E0)  (hn : (parseMethodDescriptor (am_y j).desc).map (fun d => d.parameters.length) = some n) (hAn : As.length = n) (k : am_V j (am_kc j) (am_ks j) 0 E0 [] ρ h (fun v ρ' h' => am_V m (kc - am_kc j) (ks - am_ks j) (pc + 3) E (v ++ st) ρ' h' Q X) X) : am_V m kc ks pc E (As.reverse ++ st) ρ h Q X := by
  intro l p e R s q args below meth c D cA B b g0 g1 Z H locs cells slots ls hC hZ hR hL hS hF hc hs
  subst hE
  obtain ⟨j1, j2, j3, j4, j5, j6, j7, j8⟩ := id hJ
  have hw := hC.2.2.2.2.2.2.1
  have hfr9 := hC.2.2.2.2.2.2.2.2.2.2.2.2.2.2.2.2.1
  have hlo9 := hC.2.2.2.2.2.2.2.2.2.2.2.2.2.2.2.2.2.1
  have hsum := am_sum B b st
  have hroom := am_room (j := j) hfr9 hlo9 hfr j8
  have hSs : am_St st := fun w9 hw9 => hS w9 (List.mem_append_right _ hw9)
  have hSa : am_St As := fun w9 hw9 => hS w9 (List.mem_append_left _ (List.mem_reverse.mpr hw9))
  have hM := am_met (l := l) hC.1 hJ (D := D) (cA := cA) (B := B) (b := b) (g0 := g0) (g1 := g1) h1 h2 hSa k
  refine am_after hC hZ hL hSs hF hc hs hkc hks hhh (a9 := (As.map (am_v B b)).toArray) (vx_runS (As := As.map (am_v B b)) ⟨hC.2.1, hC.2.2.1, hC.2.2.2.2.1, hC.2.2.2.2.2.1, hw⟩ hM (va_cwS n hw (am_goodIn (fun w9 hw9 => by
    rcases List.mem_append.mp hw9 with z | z
    · simp only [List.mem_cons, List.mem_nil_iff, or_false] at z
      rcases z with rfl | rfl | rfl
      · exact hlk.1
      · exact hlk.2
      · exact j1
    · rcases List.mem_cons.mp z with rfl | z
      · exact j2
      · exact z)) rfl rfl rfl ⟨j4.1, j4.2, hn⟩ hroom) ⟨am_FB, fun U hU hW => ⟨rfl, hC.G hF hU hW, by rw [hU]; exact hR⟩⟩ rfl (by rw [List.length_map]; exact hAn) hL.1 ?_ (lv_room (by omega)) hd ⟨by omega, by omega⟩)
  rw [List.map_append, List.map_reverse]
set_option maxHeartbeats 1000000 in
theorem v_callSN {m : MInfo} {kc ks pc : Nat} {E st : List AV} {ρ : Rho} {h : Hh} {Q : PQ} {X : PX} {j : MInfo} {idx n : Nat} {As E0 : List AV} {host : String} (hd : decode (am_cc m) pc = .ok (.invokestatic idx, 3)) (hlk : Cond.methodLinkNest (am_own m) idx (am_y j) host ∈ am_W1 ∧ Cond.static (am_y j) ∈ am_W0) (hJ : am_J j) (hkc : am_kc j ≤ kc) (hks : am_ks j ≤ ks) (hfr : am_fr j + 1 ≤ am_fr m) (hhh : am_hh m = []) (hst : am_ct st ≤ 8) (h1 : ∀ v ∈ As, am_one v = true) (h2 : (As).length ≤ am_ml j) (hE : am_E j (As) = E0)  (hn : (parseMethodDescriptor (am_y j).desc).map (fun d => d.parameters.length) = some n) (hAn : As.length = n) (k : am_V j (am_kc j) (am_ks j) 0 E0 [] ρ h (fun v ρ' h' => am_V m (kc - am_kc j) (ks - am_ks j) (pc + 3) E (v ++ st) ρ' h' Q X) X) : am_V m kc ks pc E (As.reverse ++ st) ρ h Q X := by
  intro l p e R s q args below meth c D cA B b g0 g1 Z H locs cells slots ls hC hZ hR hL hS hF hc hs
  subst hE
  obtain ⟨j1, j2, j3, j4, j5, j6, j7, j8⟩ := id hJ
  have hw := hC.2.2.2.2.2.2.1
  have hfr9 := hC.2.2.2.2.2.2.2.2.2.2.2.2.2.2.2.2.1
  have hlo9 := hC.2.2.2.2.2.2.2.2.2.2.2.2.2.2.2.2.2.1
  have hsum := am_sum B b st
  have hroom := am_room (j := j) hfr9 hlo9 hfr j8
  have hSs : am_St st := fun w9 hw9 => hS w9 (List.mem_append_right _ hw9)
  have hSa : am_St As := fun w9 hw9 => hS w9 (List.mem_append_left _ (List.mem_reverse.mpr hw9))
  have hM := am_met (l := l) hC.1 hJ (D := D) (cA := cA) (B := B) (b := b) (g0 := g0) (g1 := g1) h1 h2 hSa k
  refine am_after hC hZ hL hSs hF hc hs hkc hks hhh (a9 := (As.map (am_v B b)).toArray) (vx_runSN (As := As.map (am_v B b)) ⟨hC.2.1, hC.2.2.1, hC.2.2.2.2.1, hC.2.2.2.2.2.1, hw⟩ hM ⟨va_cnB n hw (am_goodIn (fun w9 hw9 => by
    rcases List.mem_cons.mp hw9 with rfl | z
    · exact j2
    · exact z)) rfl rfl rfl (hC.2.2.2.2.2.2.2.1 _ hlk.1) (hw _ j1) ⟨j4.1, j4.2, hn⟩ hroom, hw _ hlk.2, trivial⟩ ⟨am_FB, fun U hU hW => ⟨rfl, hC.G hF hU hW, by rw [hU]; exact hR⟩⟩ rfl (by rw [List.length_map]; exact hAn) hL.1 ?_ (lv_room (by omega)) hd ⟨by omega, by omega⟩)
  rw [List.map_append, List.map_reverse]
