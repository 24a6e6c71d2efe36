variable {WM : List (Nat × Nat)} {wd : Bool}
/-! classOf, classes, rounds -/
def mx (f : Int → Int) : Nat → Int
  | 0 => 0
  | m + 1 => max (mx f m) (f m)
theorem mx_le {f : Int → Int} {c : Int} (hc : 0 ≤ c) : ∀ m : Nat, mx f m ≤ c ↔ ∀ r, 0 ≤ r → r < (m : Int) → f r ≤ c
  | 0 => ⟨fun _ r r0 r1 => by omega, fun _ => hc⟩
  | m + 1 => by
    have ih := mx_le (f := f) hc m
    unfold mx
    rw [Int.max_le, ih]
    constructor
    · intro ⟨h1, h2⟩ r r0 r1
      by_cases e : r = m
      · rw [e]; exact h2
      · exact h1 r r0 (by omega)
    · intro h
      exact ⟨fun r r0 r1 => h r r0 (by omega), h m (by omega) (by omega)⟩
theorem mx_0 {f : Int → Int} : ∀ m : Nat, 0 ≤ mx f m
  | 0 => Int.le_refl 0
  | m + 1 => by
    have := mx_0 (f := f) m
    unfold mx
    omega
theorem le_mx {f : Int → Int} {k : Int} (hk : 0 < k) {m : Nat} : k ≤ mx f m ↔ ∃ r, 0 ≤ r ∧ r < (m : Int) ∧ k ≤ f r := by
  have h1 := mx_le (f := f) (c := k - 1) (by omega) m
  constructor
  · intro h
    apply Classical.byContradiction
    intro y
    have := h1.mpr (fun r r0 r1 => by
      apply Classical.byContradiction
      intro w
      exact y ⟨r, r0, r1, by omega⟩)
    omega
  · intro ⟨r, r0, r1, r2⟩
    apply Classical.byContradiction
    intro y
    have := h1.mp (by omega) r r0 r1
    omega
theorem mx_congr {f g : Int → Int} : ∀ m : Nat, (∀ r, 0 ≤ r → r < (m : Int) → f r = g r) → mx f m = mx g m
  | 0, _ => rfl
  | m + 1, h => by
    unfold mx
    rw [mx_congr m (fun r r0 r1 => h r r0 (by omega)), h m (by omega) (by omega)]
theorem cnt_lt_iff {P : Int → Prop} {m : Nat} : cnt P m < m ↔ ∃ r : Int, 0 ≤ r ∧ r < m ∧ ¬ P r := by
  have h1 := cnt_not P m
  constructor
  · intro h
    exact cnt_ex (P := fun i => ¬ P i) (by omega)
  · intro ⟨r, r0, r1, r2⟩
    have := cnt_pos (P := fun i => ¬ P i) r0 r1 r2
    omega
theorem Uc_lt {s pl : Int → Int} {n k : Nat} (hk : 0 < k) : Uc s n pl k n < n ↔ (k : Int) ≤ mx (fun r => cmv s n pl r) n := by
  rw [le_mx (by omega)]
  unfold Uc
  rw [cnt_lt_iff]
  constructor
  · intro ⟨r, r0, r1, r2⟩
    exact ⟨r, r0, r1, by omega⟩
  · intro ⟨r, r0, r1, r2⟩
    exact ⟨r, r0, r1, by omega⟩
theorem mxc_lt {s pl ra : Int → Int} {n : Nat} (hs : WS s n) (h : SA s n pl ra) : mx (fun r => cmv s n pl r) n < n ∨ n = 0 := by
  by_cases e : n = 0
  · exact Or.inr e
  · left
    have := (mx_le (f := fun r => (cmv s n pl r : Int)) (c := (n : Int) - 1) (by omega) n).mpr (fun r r0 r1 => by
      have h1 := cmv_le hs h r0 r1
      by_cases e0 : r = 0
      · rw [e0, cmv_0]; omega
      · obtain ⟨a0, a1, -, -⟩ := h.at hs r0 r1
        obtain ⟨b0, b1, -, -⟩ := h.at hs (r := r - 1) (by omega) (by omega)
        have ne := h.ne hs (i := r - 1) (j := r) (by omega) (by omega) r0 r1 (by omega)
        have l1 := Lc_1 (s := s) (t := s) (n := n) (m := n) (p := pl (r - 1)) (q := pl r) (by omega) (by omega)
        have l2 := Lc_2 (s := s) (t := s) (n := n) (m := n) (p := pl (r - 1)) (q := pl r) (by omega) (by omega)
        unfold cmv
        rw [if_neg e0]
        omega)
    omega
theorem C_ub_1 {kc ks : Nat} {h : Hh} {Q : PQ} {X : PX} {a n : Nat} {s pl ra : Int → Int} (hC : CT h a n s pl ra) {K m : Nat} (hm : m ≤ n) {r : Int} (hr : r + 1 = m) (hQ : Q [aI (Uc s n pl K m)] (RM WM wd) h) : ∀ (d i : Nat), i + d = m → am_V M_X6_unlikeBeginnings kc ks 5 [aR a, aI K, aI r, aI (Uc s n pl K i), aI i] [] (RM WM wd) h Q X := by
  obtain ⟨t0, n64, hn, e1, e2, e3, hs, hSA, hcm⟩ := hC
  intro d
  induction d with
  | zero =>
    intro i hd
    have : i = m := by omega
    subst this
    exact S_X6_unlikeBeginnings_5 t0 ⟨fun _ => hQ, fun z => absurd z (by omega)⟩
  | succ d ih =>
    intro i hd
    have hle : Uc s n pl K i ≤ i := cnt_le (fun r => cmv s n pl r < K) i
    have hnext := ih (i + 1) (by omega)
    have e := hcm i (by omega) (by omega)
    refine S_X6_unlikeBeginnings_5 t0 ⟨fun z => absurd z (by omega), fun _ => ⟨by omega, fun z => ⟨by omega, ?_⟩, fun z => ⟨by omega, ?_⟩⟩⟩
    · rw [show Uc s n pl K (i + 1) = Uc s n pl K i from cnt_f (by omega)] at hnext
      exact hnext
    · rw [show Uc s n pl K (i + 1) = Uc s n pl K i + 1 from cnt_t (by omega)] at hnext
      exact hnext
theorem C_unlike {kc ks : Nat} {h : Hh} {Q : PQ} {X : PX} {a n : Nat} {s pl ra : Int → Int} (hC : CT h a n s pl ra) {K : Nat} {r : Int} (hr : -1 ≤ r) (hrn : r < n) (hQ : Q [aI (Uc s n pl K (r + 1).toNat)] (RM WM wd) h) : am_V M_X6_unlikeBeginnings kc ks 0 [aR a, aI K, aI r, aU, aU] [] (RM WM wd) h Q X :=
  S_X6_unlikeBeginnings_0 hC.1 (C_ub_1 hC (m := (r + 1).toNat) (by omega) (by omega) hQ (r + 1).toNat 0 (by omega))
theorem C_gc_1 {kc ks : Nat} {h : Hh} {Q : PQ} {X : PX} {a n : Nat} {s pl ra : Int → Int} (hC : CT h a n s pl ra) (hQ : Q [aI (mx (fun r => cmv s n pl r) n)] (RM WM wd) h) : ∀ (d i : Nat), i + d = n → am_V M_X6_greatestCommon kc ks 4 [aR a, aI (mx (fun r => cmv s n pl r) i), aI i] [] (RM WM wd) h Q X := by
  obtain ⟨t0, n64, hn, e1, e2, e3, hs, hSA, hcm⟩ := hC
  intro d
  induction d with
  | zero =>
    intro i hd
    have : i = n := by omega
    subst this
    exact S_X6_greatestCommon_4 t0 ⟨fun _ => hQ, fun z => absurd z (by omega)⟩
  | succ d ih =>
    intro i hd
    have hnext := ih (i + 1) (by omega)
    have e := hcm i (by omega) (by omega)
    refine S_X6_greatestCommon_4 t0 ⟨fun z => absurd z (by omega), fun _ => ⟨by omega, ?_⟩⟩
    rw [e]
    exact hnext
theorem C_greatest {kc ks : Nat} {h : Hh} {Q : PQ} {X : PX} {a n : Nat} {s pl ra : Int → Int} (hC : CT h a n s pl ra) (hQ : Q [aI (mx (fun r => cmv s n pl r) n)] (RM WM wd) h) : am_V M_X6_greatestCommon kc ks 0 [aR a, aU, aU] [] (RM WM wd) h Q X :=
  S_X6_greatestCommon_0 hC.1 (C_gc_1 hC hQ n 0 (by omega))
theorem C_refuse {kc ks : Nat} {h : Hh} {Q : PQ} {X : PX} {k : Int} (hkc : 1 ≤ kc) (hks : 6 ≤ ks) (hQ : 1 ≤ k → k ≤ 64 → Q [] (RM WM wd) h) (hX : ¬ (1 ≤ k ∧ k ≤ 64) → X xIA (RM WM false) h) : am_V M_X10_refuseClassSize kc ks 0 [aR 0, aI k] [] (RM WM wd) h Q X :=
  S_X10_refuseClassSize_0 ⟨fun z => ⟨⟨hkc, hks⟩, hX (by omega)⟩, fun z => ⟨fun y => hQ z y, fun y => ⟨⟨hkc, hks⟩, hX (by omega)⟩⟩⟩
/-- how many rounds follow the j-th, d at most -/
def rdc (g : Int) : Nat → Nat → Nat
  | _, 0 => 0
  | j, d + 1 => if ((2 ^ j : Nat) : Int) ≤ g then rdc g (j + 1) d + 1 else 0
theorem C_rounds_1 {kc ks : Nat} {h : Hh} {Q : PQ} {X : PX} {g : Int} (hg : g ≤ 63) : ∀ (d j : Nat) (L : Int), j + d = 7 → 0 ≤ L → L ≤ 10 + j → Q [aI (L + rdc g j d)] (RM WM wd) h → am_V M_X10_rounds kc ks 26 [aU, aU, aU, aI g, aI L, aI ((2 ^ j : Nat) : Int)] [] (RM WM wd) h Q X := by
  intro d
  induction d with
  | zero =>
    intro j L hj h0 h1 hQ
    have : j = 7 := by omega
    subst this
    exact S_X10_rounds_26 ⟨fun _ => by simpa [rdc] using hQ, fun z => absurd z (by omega)⟩
  | succ d ih =>
    intro j L hj h0 h1 hQ
    have hp : 2 ^ j ≤ 2 ^ 6 := Nat.pow_le_pow_right (by decide) (by omega)
    unfold rdc at hQ
    have ih := ih (j + 1) (L + 1)
    rw [Nat.pow_succ] at ih
    generalize 2 ^ j = K at hp hQ ih ⊢
    refine S_X10_rounds_26 ⟨fun z => ?_, fun z => ⟨by omega, ?_⟩⟩
    · rw [if_neg (by omega)] at hQ
      simpa using hQ
    · rw [if_pos z] at hQ
      have := ih (by omega) (by omega) (by omega) (by rw [show L + 1 + (rdc g (j + 1) d : Int) = L + ((rdc g (j + 1) d + 1 : Nat) : Int) by omega]; exact hQ)
      rw [Int.natCast_mul] at this
      exact this
theorem W_classes {kc ks : Nat} {h : Hh} {Q : PQ} {X : PX} {t : Int} {n : Nat} {s pl ra : Int → Int} {K : Nat} (hS : SIM h) (z : isTx h t) (hC : CT h (ta t) n s pl ra) (k1 : 1 ≤ K) (k64 : K ≤ 64) (hkc : 2 ≤ kc) (hks : 12 ≤ ks) (hQ : Q [aL (Uc s n pl K n)] (RM WM wd) h) : am_V M_L_classes kc ks 0 [aR 0, aI t, aI (K : Int), aU] [] (RM WM wd) h Q X := by
  obtain ⟨ct0, n64, cn, e1, e2, e3, hs, hSA, hcm⟩ := id hC
  refine S_L_classes_0 ⟨⟨hkc, hks⟩, S_X10_classes_0 ⟨by omega, C_known hS z (by omega) (by omega) (S_X10_classes_5 hC.1 ⟨by omega, C_refuse (by omega) (by omega) (fun _ _ => ?_) (fun w => absurd ⟨by omega, by omega⟩ w)⟩)⟩⟩
  refine S_X10_classes_11 hC.1 ⟨by omega, ?_⟩
  rw [cn]
  refine C_unlike hC (by omega) (by omega) (S_X10_classes_22 (S_L_classes_6 ?_))
  rw [show ((n : Int) - 1 + 1).toNat = n by omega]
  exact hQ
theorem W_rounds {kc ks : Nat} {h : Hh} {Q : PQ} {X : PX} {t : Int} {n : Nat} {s pl ra : Int → Int} (hS : SIM h) (z : isTx h t) (hC : CT h (ta t) n s pl ra) (hkc : 1 ≤ kc) (hks : 6 ≤ ks) (hQ0 : n = 0 → Q [aL 0] (RM WM wd) h) (hQ1 : n ≠ 0 → Q [aL (1 + rdc (mx (fun r => cmv s n pl r) n) 0 7)] (RM WM wd) h) : am_V M_L_rounds kc ks 0 [aR 0, aI t, aU] [] (RM WM wd) h Q X := by
  obtain ⟨ct0, n64, cn, e1, e2, e3, hs, hSA, hcm⟩ := id hC
  have hg := mxc_lt hs hSA
  refine S_L_rounds_0 ⟨⟨hkc, hks⟩, S_X10_rounds_0 ⟨by omega, C_known hS z (by omega) (by omega) (S_X10_rounds_5 hC.1 ⟨fun y => C_greatest hC (S_X10_rounds_19 (C_rounds_1 (by omega) 7 0 1 (by omega) (by omega) (by omega) (S_L_rounds_5 (hQ1 (by omega))))), fun y => S_L_rounds_5 (hQ0 (by omega))⟩)⟩⟩
