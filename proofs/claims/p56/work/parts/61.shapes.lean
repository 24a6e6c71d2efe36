variable {WM : List (Nat × Nat)} {wd : Bool}
/-! squares, squareAt, period, turnAt -/
theorem Lc_step {s : Int → Int} {n : Nat} {p q : Int} (hp : p < n) (hq : q < n) : Lc s n s n p q = if s p = s q then Lc s n s n (p + 1) (q + 1) + 1 else 0 := by
  unfold Lc
  rw [show (min ((n : Int) - p) (n - q)).toNat = (min ((n : Int) - (p + 1)) (n - (q + 1))).toNat + 1 by omega]
  rfl
theorem C_as_2 {kc ks : Nat} {h : Hh} {Q : PQ} {X : PX} {a n : Nat} {s pl ra : Int → Int} (hC : CT h a n s pl ra) {l : Int} (hl : 1 ≤ l) (hln : 2 * l ≤ n) {b : Int} (hb0 : 0 ≤ b) (hb : b ≤ 2048) (hQ : am_V M_X4_allSquares kc ks 4 [aR a, aI (b + cnt (fun p => sq s n p l) n), aI (l + 1), aU, aU] [] (RM WM wd) h Q X) : ∀ (d : Nat) (j x k : Int), j + 1 = d → d ≤ n - l → k = Lc s n s n (j + 1) (j + 1 + l) → x + cnt (fun p => sq s n p l) d = b + cnt (fun p => sq s n p l) n → 0 ≤ x → x ≤ 4096 → am_V M_X4_allSquares kc ks 26 [aR a, aI x, aI l, aI k, aI j] [] (RM WM wd) h Q X := by
  obtain ⟨t0, n64, hn, rfl, rfl, rfl, hs, hSA, hcm⟩ := id hC
  intro d
  induction d with
  | zero =>
    intro j x k hj hd hk hx x0 x1
    refine S_X4_allSquares_26 t0 ⟨fun _ => ⟨by omega, ?_⟩, fun z => absurd z (by omega)⟩
    have : x = b + cnt (fun p => sq (h (a + 1)) n p l) n := by
      have e : cnt (fun p => sq (h (a + 1)) n p l) 0 = 0 := rfl
      omega
    rw [this]
    exact hQ
  | succ d ih =>
    intro j x k hj hd hk hx x0 x1
    have hjd : j = d := by omega
    have l1 := Lc_2 (s := h (a + 1)) (t := h (a + 1)) (n := n) (m := n) (p := j) (q := j + l) (by omega) (by omega)
    have st := Lc_step (s := h (a + 1)) (n := n) (p := j) (q := j + l) (by omega) (by omega)
    have l3 := Lc_2 (s := h (a + 1)) (t := h (a + 1)) (n := n) (m := n) (p := j + 1) (q := j + l + 1) (by omega) (by omega)
    have hle := cnt_le (fun p => sq (h (a + 1)) n p l) n
    have hsq : sq (h (a + 1)) n d l ↔ l ≤ Lc (h (a + 1)) n (h (a + 1)) n j (j + l) := by
      unfold sq
      rw [← hjd]
      exact ⟨fun z => z.2, fun z => ⟨by omega, z⟩⟩
    have hT : sq (h (a + 1)) n d l → cnt (fun p => sq (h (a + 1)) n p l) (d + 1) = cnt (fun p => sq (h (a + 1)) n p l) d + 1 := fun z => cnt_t z
    have hF : ¬ sq (h (a + 1)) n d l → cnt (fun p => sq (h (a + 1)) n p l) (d + 1) = cnt (fun p => sq (h (a + 1)) n p l) d := fun z => cnt_f z
    rw [show j + 1 + l = j + l + 1 by omega] at hk
    refine S_X4_allSquares_26 t0 ⟨fun z => absurd z (by omega), fun _ => ⟨by omega, fun e => ⟨fun z => ⟨by omega, ?_⟩, fun z => absurd z (by omega)⟩, fun e => ⟨by omega, fun z => ⟨by omega, ?_⟩, fun z => ⟨by omega, ?_⟩⟩⟩⟩
    · rw [if_neg e] at st
      have := hF (fun y => by have := hsq.mp y; omega)
      exact ih (j + -1) x 0 (by omega) (by omega) (by rw [show j + -1 + 1 = j by omega]; omega) (by omega) x0 x1
    · rw [if_pos e] at st
      have := hF (fun y => by have := hsq.mp y; omega)
      exact ih (j + -1) x (k + 1) (by omega) (by omega) (by rw [show j + -1 + 1 = j by omega]; omega) (by omega) x0 x1
    · rw [if_pos e] at st
      have := hT (hsq.mpr (by omega))
      exact ih (j + -1) (x + 1) (k + 1) (by omega) (by omega) (by rw [show j + -1 + 1 = j by omega]; omega) (by omega) (by omega) (by omega)
theorem C_as_1 {kc ks : Nat} {h : Hh} {Q : PQ} {X : PX} {a n : Nat} {s pl ra : Int → Int} (hC : CT h a n s pl ra) (hQ : ∀ m : Nat, m ≤ 32 → (n : Int) < 2 * (m + 1) → Q [aI (sm (sqs s n) m)] (RM WM wd) h) : ∀ (d m : Nat), m + d = 32 → am_V M_X4_allSquares kc ks 4 [aR a, aI (sm (sqs s n) m), aI ((m : Int) + 1), aU, aU] [] (RM WM wd) h Q X := by
  obtain ⟨t0, n64, hn, rfl, rfl, rfl, hs, hSA, hcm⟩ := id hC
  intro d
  induction d with
  | zero =>
    intro m hm
    exact S_X4_allSquares_4 t0 ⟨by omega, fun _ => hQ m (by omega) (by omega), fun z => absurd z (by omega)⟩
  | succ d ih =>
    intro m hm
    have b := sqs_bd (s := h (a + 1)) (n := n) n64 (m := m) (by omega)
    refine S_X4_allSquares_4 t0 ⟨by omega, fun z => hQ m (by omega) (by omega), fun z => ⟨by omega, ?_⟩⟩
    rw [hn]
    have hz : cnt (fun p => sq (h (a + 1)) n p ((m : Int) + 1)) (n - (m + 1)) = cnt (fun p => sq (h (a + 1)) n p ((m : Int) + 1)) n := by
      have := (cnt_same (P := fun p => sq (h (a + 1)) n p ((m : Int) + 1)) (i := n - (m + 1)) (m + 1)).mpr (fun t t0 t1 y => by
        have := y.1
        omega)
      rw [this, show n - (m + 1) + (m + 1) = n by omega]
    refine C_as_2 hC (l := (m : Int) + 1) (by omega) (by omega) b.1 b.2 ?_ (n - (m + 1)) ((n : Int) - (m + 1) - 1) _ 0 (by omega) (by omega) ?_ (by rw [hz]) b.1 (by omega)
    · have := ih (m + 1) (by omega)
      exact this
    · have := Lc_2 (s := h (a + 1)) (t := h (a + 1)) (n := n) (m := n) (p := (n : Int) - (m + 1) - 1 + 1) (q := (n : Int) - (m + 1) - 1 + 1 + (m + 1)) (by omega) (by omega)
      omega
/-- the least period -/
def PD (s : Int → Int) (n : Nat) (y : Int) : Prop := 1 ≤ y ∧ y ≤ n ∧ (y = n ∨ (n : Int) - y ≤ Lc s n s n 0 y) ∧ ∀ l, 1 ≤ l → l < y → (Lc s n s n 0 l : Int) < n - l
theorem PD.uniq {s : Int → Int} {n : Nat} {x y : Int} (h : PD s n x) (h' : PD s n y) : x = y := by
  obtain ⟨a1, a2, a3, a4⟩ := h
  obtain ⟨b1, b2, b3, b4⟩ := h'
  rcases Int.lt_trichotomy x y with z | z | z
  · have := b4 x a1 z
    omega
  · exact z
  · have := a4 y b1 z
    omega
theorem C_pd_1 {kc ks : Nat} {h : Hh} {Q : PQ} {X : PX} {a n : Nat} {s pl ra : Int → Int} (hC : CT h a n s pl ra) (hQ : ∀ y, PD s n y → Q [aI y] (RM WM wd) h) : ∀ (d : Nat) (l : Int), l + d = n → 1 ≤ l → (∀ k, 1 ≤ k → k < l → (Lc s n s n 0 k : Int) < n - k) → am_V M_X4_leastPeriod kc ks 2 [aR a, aI l] [] (RM WM wd) h Q X := by
  obtain ⟨t0, n64, hn, rfl, rfl, rfl, hs, hSA, hcm⟩ := id hC
  intro d
  induction d with
  | zero =>
    intro l hl l1 hz
    refine S_X4_leastPeriod_2 t0 ⟨fun _ => ?_, fun z => absurd z (by omega)⟩
    rw [hn]
    exact hQ n ⟨by omega, Int.le_refl _, Or.inl rfl, fun k k1 k2 => hz k k1 (by omega)⟩
  | succ d ih =>
    intro l hl l1 hz
    refine S_X4_leastPeriod_2 t0 ⟨fun z => absurd z (by omega), fun _ => C_likeSigns hC hC (by omega) (by omega) (Int.le_refl 0) (by omega) ?_⟩
    have l2 := Lc_2 (s := h (a + 1)) (t := h (a + 1)) (n := n) (m := n) (p := 0) (q := l) (by omega) (by omega)
    rw [Lc_sym]
    refine S_X4_leastPeriod_17 t0 ⟨by omega, fun y => ⟨by omega, ih (l + 1) (by omega) (by omega) fun k k1 k2 => ?_⟩, fun y => hQ l ⟨l1, by omega, Or.inr (by omega), hz⟩⟩
    by_cases e : k = l
    · rw [e]; omega
    · exact hz k k1 (by omega)
/-- the signs of a text going round -/
def rs (s : Int → Int) (n : Nat) (i : Int) : Int := s (i % n)
def TL (x : Int → Int) (n : Nat) (p q : Int) : Prop := ∃ j, j < n ∧ (∀ i : Nat, i < j → x (p + i) = x (q + i)) ∧ x (p + j) < x (q + j)
theorem TL.asymm {x : Int → Int} {n : Nat} {p q : Int} (h : TL x n p q) {k : Nat} (hk : ∀ i : Nat, i < k → x (p + i) = x (q + i)) (hlt : x (q + k) < x (p + k)) : False := by
  obtain ⟨j, j0, j1, j2⟩ := h
  rcases Nat.lt_trichotomy j k with z | z | z
  · have := hk j z; omega
  · subst z; omega
  · have := j1 k z; omega
theorem W_squares {kc ks : Nat} {h : Hh} {Q : PQ} {X : PX} {t : Int} {n : Nat} {s pl ra : Int → Int} (hS : SIM h) (z : isTx h t) (hC : CT h (ta t) n s pl ra) (hkc : 1 ≤ kc) (hks : 6 ≤ ks) (hQ : ∀ m : Nat, m ≤ 32 → (n : Int) < 2 * (m + 1) → Q [aL (sm (sqs s n) m)] (RM WM wd) h) : am_V M_L_squares kc ks 0 [aR 0, aI t, aU] [] (RM WM wd) h Q X :=
  S_L_squares_0 ⟨⟨hkc, hks⟩, S_X10_squares_0 ⟨by omega, C_known hS z (by omega) (by omega) (S_X10_squares_5 hC.1 (S_X4_allSquares_0 hC.1 (C_as_1 hC (fun m hm hm2 => S_X10_squares_8 (S_L_squares_5 (hQ m hm hm2))) 32 0 (by omega))))⟩⟩
theorem W_period {kc ks : Nat} {h : Hh} {Q : PQ} {X : PX} {t : Int} {n : Nat} {s pl ra : Int → Int} (hS : SIM h) (z : isTx h t) (hC : CT h (ta t) n s pl ra) (hkc : 2 ≤ kc) (hks : 12 ≤ ks) (hQ0 : n = 0 → Q [aL (-4000000000000000002)] (RM WM false) h) (hQ1 : n ≠ 0 → ∀ y, PD s n y → Q [aL y] (RM WM false) h) : am_V M_L_period kc ks 0 [aR 0, aI t, aU] [] (RM WM false) h Q X := by
  have hn := hC.2.2.1
  refine S_L_period_0 ⟨⟨hkc, hks⟩, S_X10_period_0 ⟨by omega, L_knownNotEmpty hS.1.2.1 (by omega) (by omega) (fun _ y => ?_) (fun y => absurd z y) (fun _ y => Or.inr ⟨rfl, S_L_period_13 (hQ0 (by omega))⟩)⟩⟩
  exact S_X10_period_5 hC.1 (S_X4_leastPeriod_0 hC.1 (C_pd_1 hC (fun y hy => S_X10_period_8 (S_L_period_5 (hQ1 (by omega) y hy))) (n - 1) 1 (by omega) (by omega) (fun k k1 k2 => by omega)))
