/-! squares, squareAt, period, turnAt -/
theorem Lc_step {s : Int → Int} {n : Nat} {p q : Int} (hp : p < n) (hq : q < n) : Lc s n s n p q = if s p = s q then Lc s n s n (p + 1) (q + 1) + 1 else 0 := by
  unfold Lc
  rw [show (min ((n : Int) - p) (n - q)).toNat = (min ((n : Int) - (p + 1)) (n - (q + 1))).toNat + 1 by omega]
  rfl
theorem C_as_2 {kc ks : Nat} {h : Hh} {Q : PQ} {X : PX} {a n : Nat} {s pl ra : Int → Int} (hC : CT h a n s pl ra) {l : Int} (hl : 1 ≤ l) (hln : 2 * l ≤ n) {b : Int} (hb0 : 0 ≤ b) (hb : b ≤ 2048) (hQ : am_V M_X4_allSquares kc ks 4 [aR a, aI (b + cnt (fun p => sq s n p l) n), aI (l + 1), aU, aU] [] am_R0 h Q X) : ∀ (d : Nat) (j x k : Int), j + 1 = d → d ≤ n - l → k = Lc s n s n (j + 1) (j + 1 + l) → x + cnt (fun p => sq s n p l) d = b + cnt (fun p => sq s n p l) n → 0 ≤ x → x ≤ 4096 → am_V M_X4_allSquares kc ks 26 [aR a, aI x, aI l, aI k, aI j] [] am_R0 h Q X := by
  obtain ⟨t0, n64, hn, rfl, rfl, rfl, hs, hSA, hcm⟩ := id hC
  intro d
  induction d with
  | zero =>
    intro j x k hj hd hk hx x0 x1
    refine S_X4_allSquares_26 t0 ⟨fun _ => ⟨by omega, ?_⟩, fun z => absurd z (by omega)⟩
    have : x = b + cnt (fun p => sq (h (a + 1)) n p l) n := by
      have e : cnt (fun p => sq (h (a + 1)) n p l) 0 = 0 := rfl
      omega
    rw [this]
    exact hQ
  | succ d ih =>
    intro j x k hj hd hk hx x0 x1
    have hjd : j = d := by omega
    have l1 := Lc_2 (s := h (a + 1)) (t := h (a + 1)) (n := n) (m := n) (p := j) (q := j + l) (by omega) (by omega)
    have st := Lc_step (s := h (a + 1)) (n := n) (p := j) (q := j + l) (by omega) (by omega)
    have l3 := Lc_2 (s := h (a + 1)) (t := h (a + 1)) (n := n) (m := n) (p := j + 1) (q := j + l + 1) (by omega) (by omega)
    have hle := cnt_le (fun p => sq (h (a + 1)) n p l) n
    have hsq : sq (h (a + 1)) n d l ↔ l ≤ Lc (h (a + 1)) n (h (a + 1)) n j (j + l) := by
      unfold sq
      rw [← hjd]
      exact ⟨fun z => z.2, fun z => ⟨by omega, z⟩⟩
    have hT : sq (h (a + 1)) n d l → cnt (fun p => sq (h (a + 1)) n p l) (d + 1) = cnt (fun p => sq (h (a + 1)) n p l) d + 1 := fun z => cnt_t z
    have hF : ¬ sq (h (a + 1)) n d l → cnt (fun p => sq (h (a + 1)) n p l) (d + 1) = cnt (fun p => sq (h (a + 1)) n p l) d := fun z => cnt_f z
    rw [show j + 1 + l = j + l + 1 by omega] at hk
    refine S_X4_allSquares_26 t0 ⟨fun z => absurd z (by omega), fun _ => ⟨by omega, fun e => ⟨fun z => ⟨by omega, ?_⟩, fun z => absurd z (by omega)⟩, fun e => ⟨by omega, fun z => ⟨by omega, ?_⟩, fun z => ⟨by omega, ?_⟩⟩⟩⟩
    · rw [if_neg e] at st
      have := hF (fun y => by have := hsq.mp y; omega)
      exact ih (j + -1) x 0 (by omega) (by omega) (by rw [show j + -1 + 1 = j by omega]; omega) (by omega) x0 x1
    · rw [if_pos e] at st
      have := hF (fun y => by have := hsq.mp y; omega)
      exact ih (j + -1) x (k + 1) (by omega) (by omega) (by rw [show j + -1 + 1 = j by omega]; omega) (by omega) x0 x1
    · rw [if_pos e] at st
      have := hT (hsq.mpr (by omega))
      exact ih (j + -1) (x + 1) (k + 1) (by omega) (by omega) (by rw [show j + -1 + 1 = j by omega]; omega) (by omega) (by omega) (by omega)
theorem C_as_1 {kc ks : Nat} {h : Hh} {Q : PQ} {X : PX} {a n : Nat} {s pl ra : Int → Int} (hC : CT h a n s pl ra) (hQ : ∀ m : Nat, m ≤ 32 → (n : Int) < 2 * (m + 1) → Q [aI (sm (sqs s n) m)] am_R0 h) : ∀ (d m : Nat), m + d = 32 → am_V M_X4_allSquares kc ks 4 [aR a, aI (sm (sqs s n) m), aI ((m : Int) + 1), aU, aU] [] am_R0 h Q X := by
  obtain ⟨t0, n64, hn, rfl, rfl, rfl, hs, hSA, hcm⟩ := id hC
  intro d
  induction d with
  | zero =>
    intro m hm
    exact S_X4_allSquares_4 t0 ⟨by omega, fun _ => hQ m (by omega) (by omega), fun z => absurd z (by omega)⟩
  | succ d ih =>
    intro m hm
    have b := sqs_bd (s := h (a + 1)) (n := n) n64 (m := m) (by omega)
    refine S_X4_allSquares_4 t0 ⟨by omega, fun z => hQ m (by omega) (by omega), fun z => ⟨by omega, ?_⟩⟩
    rw [hn]
    have hz : cnt (fun p => sq (h (a + 1)) n p ((m : Int) + 1)) (n - (m + 1)) = cnt (fun p => sq (h (a + 1)) n p ((m : Int) + 1)) n := by
      have := (cnt_same (P := fun p => sq (h (a + 1)) n p ((m : Int) + 1)) (i := n - (m + 1)) (m + 1)).mpr (fun t t0 t1 y => by
        have := y.1
        omega)
      rw [this, show n - (m + 1) + (m + 1) = n by omega]
    refine C_as_2 hC (l := (m : Int) + 1) (by omega) (by omega) b.1 b.2 ?_ (n - (m + 1)) ((n : Int) - (m + 1) - 1) _ 0 (by omega) (by omega) ?_ (by rw [hz]) b.1 (by omega)
    · have := ih (m + 1) (by omega)
      exact this
    · have := Lc_2 (s := h (a + 1)) (t := h (a + 1)) (n := n) (m := n) (p := (n : Int) - (m + 1) - 1 + 1) (q := (n : Int) - (m + 1) - 1 + 1 + (m + 1)) (by omega) (by omega)
      omega
theorem M_isSquare {kc ks : Nat} {h : Hh} {Q : PQ} {X : PX} {t p l : Int} {n : Nat} {s : Int → Int} (hT : MT h t n s) (hp : 0 ≤ p) (hpn : p ≤ n) (hl : 1 ≤ l) (hl32 : l ≤ 32) (h1 : sq s n p l → Q [aI 1] am_R0 h) (h0 : ¬ sq s n p l → Q [aI 0] am_R0 h) : am_V M_X11_isSquare kc ks 0 [aR 72, aI t, aI p, aI l] [] am_R0 h Q X := by
  have h64 := hT.2.1
  have hn := hT.2.2.1
  have ht := hT.1
  exact S_X11_isSquare_0 ⟨by omega, fun z => h0 fun y => by have := y.1; omega, fun z => ⟨by omega, M_together hT hT hp hpn (by omega) (by omega) (S_X11_isSquare_24 ⟨fun y => h0 fun w => by have := w.2; omega, fun y => h1 ⟨by omega, y⟩⟩)⟩⟩
theorem M_sq_2 {kc ks : Nat} {h : Hh} {Q : PQ} {X : PX} {t : Int} {n : Nat} {s : Int → Int} (hT : MT h t n s) {p : Nat} (hpn : p < n) {b : Int} (hb0 : 0 ≤ b) (hb : b ≤ 2048) (hQ : am_V M_X11_squares kc ks 14 [aR 72, aI t, aI (b + cnt (fun j => sq s n p (j + 1)) 32), aI ((p : Int) + 1), aU] [] am_R0 h Q X) : ∀ (d j : Nat), j + d = 32 → am_V M_X11_squares kc ks 27 [aR 72, aI t, aI (b + cnt (fun j => sq s n p (j + 1)) j), aI p, aI ((j : Int) + 1)] [] am_R0 h Q X := by
  have h64 := hT.2.1
  intro d
  induction d with
  | zero =>
    intro j hj
    have : j = 32 := by omega
    subst this
    exact S_X11_squares_27 ⟨fun _ => ⟨by omega, hQ⟩, fun z => absurd z (by omega)⟩
  | succ d ih =>
    intro j hj
    have hle := cnt_le (fun j => sq s n p (j + 1)) j
    have hnext := ih (j + 1) (by omega)
    refine S_X11_squares_27 ⟨fun z => absurd z (by omega), fun _ => M_isSquare hT (by omega) (by omega) (by omega) (by omega) (fun y => S_X11_squares_43 ⟨fun z => absurd z (by decide), fun _ => ⟨by omega, ?_⟩⟩) (fun y => S_X11_squares_43 ⟨fun _ => ⟨by omega, ?_⟩, fun z => absurd rfl z⟩)⟩
    · rw [cnt_t (P := fun j => sq s n p (j + 1)) y] at hnext
      rw [Int.add_assoc]
      exact hnext
    · rw [cnt_f (P := fun j => sq s n p (j + 1)) y] at hnext
      rw [Int.add_zero]
      exact hnext
theorem M_sq_1 {kc ks : Nat} {h : Hh} {Q : PQ} {X : PX} {t : Int} {n : Nat} {s : Int → Int} (hT : MT h t n s) (hQ : Q [aI (sm (fun p => (cnt (fun j => sq s n p (j + 1)) 32 : Int)) n)] am_R0 h) : ∀ (d i : Nat), i + d = n → am_V M_X11_squares kc ks 14 [aR 72, aI t, aI (sm (fun p => (cnt (fun j => sq s n p (j + 1)) 32 : Int)) i), aI i, aU] [] am_R0 h Q X := by
  have h64 := hT.2.1
  have hn := hT.2.2.1
  intro d
  induction d with
  | zero =>
    intro i hi
    have : i = n := by omega
    subst this
    exact S_X11_squares_14 ⟨hT.1, fun _ => hQ, fun z => absurd z (by omega)⟩
  | succ d ih =>
    intro i hi
    have b := sm_bd (f := fun p => (cnt (fun j => sq s n p (j + 1)) 32 : Int)) (c := 32) (m := i) (fun j j0 j1 => by
      have := cnt_le (fun k => sq s n j (k + 1)) 32
      omega)
    have hnext := ih (i + 1) (by omega)
    refine S_X11_squares_14 ⟨hT.1, fun z => absurd z (by omega), fun _ => ?_⟩
    have := M_sq_2 (kc := kc) (ks := ks) (Q := Q) (X := X) hT (p := i) (by omega) (b := sm (fun p => (cnt (fun j => sq s n p (j + 1)) 32 : Int)) i) b.1 (by omega) hnext 32 0 (by omega)
    simpa [cnt] using this
theorem T_squares {kc ks : Nat} {h : Hh} {t : Int} (hS : SIM h) (hkc : 1 ≤ kc) (hks : 6 ≤ ks) : am_V M_X10_squares kc ks 0 [aR 0, aI t] [] am_R0 h (PQok M_X11_squares [aR 72, aI t, aU, aU, aU] aI) (PXok M_X11_squares [aR 72, aI t, aU, aU, aU] aI [xIO]) := by
  by_cases z : isTx h t
  · obtain ⟨n, s, pl, ra, hC, hM⟩ := hS.txt z
    have h64 := hC.2.1
    refine S_X10_squares_0 ⟨by omega, C_known hS z (by omega) (by omega) (S_X10_squares_5 hC.1 (S_X4_allSquares_0 hC.1 (C_as_1 hC (fun m hm hm2 => S_X10_squares_8 ?_) 32 0 (by omega))))⟩
    rw [sqs_all hm h64 hm2]
    exact PQ.good hS (NK.rf h) fun kc ks Q X g hN hS' k => S_X11_squares_0 (M_isNone1 hS' (hN.tx.mpr z) fun h2 m y => S_X11_squares_5 ⟨fun _ => M_sq_1 (m.mt (hN.mt hM)) (k h2 m y) n 0 (by omega), fun w => absurd rfl w⟩)
  · exact S_X10_squares_0 ⟨by omega, C_known0 hS z (by omega) (by omega) (PX.bad 0 hS (NK.rf h) rfl fun kc ks Q X hS' k => S_X11_squares_0 (M_isNone0 hS z fun h2 m y => S_X11_squares_5 ⟨fun w => absurd w (by decide), fun _ => k 0 h2 m y⟩))⟩
theorem C_lsq_1 {kc ks : Nat} {h : Hh} {Q : PQ} {X : PX} {a n : Nat} {s pl ra : Int → Int} (hC : CT h a n s pl ra) {p : Int} (hp : 0 ≤ p) (hpn : p < n) (h1 : ∀ l, 1 ≤ l → l ≤ 32 → sq s n p l → (∀ k, 1 ≤ k → k < l → ¬ sq s n p k) → Q [aI l] am_R0 h) (h0 : (∀ k, 1 ≤ k → ¬ sq s n p k) → Q [aI 0] am_R0 h) : ∀ (d : Nat) (l : Int), l + d = 33 → 1 ≤ l → (∀ k, 1 ≤ k → k < l → ¬ sq s n p k) → am_V M_X4_leastSquare kc ks 2 [aR a, aI p, aI l] [] am_R0 h Q X := by
  obtain ⟨t0, n64, hn, rfl, rfl, rfl, hs, hSA, hcm⟩ := id hC
  intro d
  induction d with
  | zero =>
    intro l hl l1 hz
    refine S_X4_leastSquare_2 t0 ⟨by omega, fun z => h0 fun k k1 w => ?_, fun z => absurd z (by omega)⟩
    by_cases y : k < l
    · exact hz k k1 y w
    · have := w.1; omega
  | succ d ih =>
    intro l hl l1 hz
    refine S_X4_leastSquare_2 t0 ⟨by omega, fun z => h0 fun k k1 w => ?_, fun z => ⟨by omega, C_likeSigns hC hC hp (by omega) (by omega) (by omega) (S_X4_leastSquare_23 t0 ⟨fun y => ⟨by omega, ih (l + 1) (by omega) (by omega) fun k k1 k2 => ?_⟩, fun y => h1 l l1 (by omega) ⟨by omega, y⟩ hz⟩)⟩⟩
    · by_cases y : k < l
      · exact hz k k1 y w
      · have := w.1; omega
    · by_cases e : k = l
      · rw [e]
        exact fun w => by have := w.2; omega
      · exact hz k k1 (by omega)
theorem M_sqa_1 {kc ks : Nat} {h : Hh} {Q : PQ} {X : PX} {t p : Int} {n : Nat} {s : Int → Int} (hT : MT h t n s) (hp : 0 ≤ p) (hpn : p < n) (h1 : ∀ l, 1 ≤ l → sq s n p l → (∀ k, 1 ≤ k → k < l → ¬ sq s n p k) → Q [aI l] am_R0 h) (h0 : (∀ k, 1 ≤ k → k ≤ 32 → ¬ sq s n p k) → Q [aI 0] am_R0 (am_st h 72 10 2)) : ∀ (d : Nat) (l : Int), l + d = 33 → 1 ≤ l → (∀ k, 1 ≤ k → k < l → ¬ sq s n p k) → am_V M_X11_squareAt kc ks 13 [aR 72, aI t, aI p, aI l] [] am_R0 h Q X := by
  intro d
  induction d with
  | zero =>
    intro l hl l1 hz
    exact S_X11_squareAt_13 ⟨fun z => h0 fun k k1 k2 => hz k k1 (by omega), fun z => absurd z (by omega)⟩
  | succ d ih =>
    intro l hl l1 hz
    refine S_X11_squareAt_13 ⟨fun z => absurd z (by omega), fun _ => M_isSquare hT hp (by omega) l1 (by omega) (fun y => S_X11_squareAt_26 ⟨fun z => absurd z (by decide), fun _ => h1 l l1 y hz⟩) (fun y => S_X11_squareAt_26 ⟨fun _ => ⟨by omega, ih (l + 1) (by omega) (by omega) fun k k1 k2 => ?_⟩, fun z => absurd rfl z⟩)⟩
    by_cases e : k = l
    · rw [e]; exact y
    · exact hz k k1 (by omega)
theorem T_squareAt {kc ks : Nat} {h : Hh} {t p : Int} (hS : SIM h) (hkc : 3 ≤ kc) (hks : 18 ≤ ks) : am_V M_X10_squareAt kc ks 0 [aR 0, aI t, aI p, aU] [] am_R0 h (PQok M_X11_squareAt [aR 72, aI t, aI p, aU] aI) (PXok M_X11_squareAt [aR 72, aI t, aI p, aU] aI [xIO, xNS]) := by
  by_cases z : isPx h t p
  · obtain ⟨n, s, pl, ra, hC, hM, hpn⟩ := z.get hS
    have p0 := z.2.1
    have h64 := hC.2.1
    refine S_X10_squareAt_0 ⟨by omega, C_knownWith hS z.1 hC p0 hpn (by omega) (by omega) (S_X10_squareAt_6 hC.1 (S_X4_leastSquare_0 hC.1 (C_lsq_1 hC p0 hpn (fun l l1 l32 hl hz => S_X10_squareAt_10 ⟨fun _ => PQ.good hS (NK.rf h) fun kc ks Q X g hN hS' k => S_X11_squareAt_0 (M_isNoPlace1 hS' (hN.px.mpr z) fun h2 m y => S_X11_squareAt_6 ⟨fun _ => M_sqa_1 (m.mt (hN.mt hM)) p0 hpn (fun l' l1' hl' hz' => ?_) (fun w => absurd hl (w l l1 l32)) 32 1 (by omega) (by omega) (fun k k1 k2 => by omega), fun w => absurd rfl w⟩), fun w => absurd w (by omega)⟩) (fun hz => S_X10_squareAt_10 ⟨fun w => absurd rfl w, fun _ => ⟨by omega, PX.bad 1 hS (NK.rf h) rfl fun kc ks Q X hS' k => S_X11_squareAt_0 (M_isNoPlace1 hS' z fun h2 m y => S_X11_squareAt_6 ⟨fun _ => M_sqa_1 (m.mt hM) p0 hpn (fun l' l1' hl' hz' => absurd hl' (hz l' l1')) (fun w => k 0 _ m.th am_st_s) 32 1 (by omega) (by omega) (fun k k1 k2 => by omega), fun w => absurd rfl w⟩)⟩⟩) 32 1 (by omega) (by omega) (fun k k1 k2 => by omega))))⟩
    have : l' = l := by
      rcases Int.lt_trichotomy l' l with w | w | w
      · exact absurd hl' (hz l' l1' w)
      · exact w
      · exact absurd hl (hz' l l1 w)
    rw [this]
    exact k h2 m y
  · exact S_X10_squareAt_0 ⟨by omega, C_knownWith0 hS z (by omega) (by omega) (PX.bad 0 hS (NK.rf h) rfl fun kc ks Q X hS' k => S_X11_squareAt_0 (M_isNoPlace0 hS z fun h2 m y => S_X11_squareAt_6 ⟨fun w => absurd w (by decide), fun _ => k 0 h2 m y⟩))⟩
/-- the least period -/
def PD (s : Int → Int) (n : Nat) (y : Int) : Prop := 1 ≤ y ∧ y ≤ n ∧ (y = n ∨ (n : Int) - y ≤ Lc s n s n 0 y) ∧ ∀ l, 1 ≤ l → l < y → (Lc s n s n 0 l : Int) < n - l
theorem PD.uniq {s : Int → Int} {n : Nat} {x y : Int} (h : PD s n x) (h' : PD s n y) : x = y := by
  obtain ⟨a1, a2, a3, a4⟩ := h
  obtain ⟨b1, b2, b3, b4⟩ := h'
  rcases Int.lt_trichotomy x y with z | z | z
  · have := b4 x a1 z
    omega
  · exact z
  · have := a4 y b1 z
    omega
theorem C_pd_1 {kc ks : Nat} {h : Hh} {Q : PQ} {X : PX} {a n : Nat} {s pl ra : Int → Int} (hC : CT h a n s pl ra) (hQ : ∀ y, PD s n y → Q [aI y] am_R0 h) : ∀ (d : Nat) (l : Int), l + d = n → 1 ≤ l → (∀ k, 1 ≤ k → k < l → (Lc s n s n 0 k : Int) < n - k) → am_V M_X4_leastPeriod kc ks 2 [aR a, aI l] [] am_R0 h Q X := by
  obtain ⟨t0, n64, hn, rfl, rfl, rfl, hs, hSA, hcm⟩ := id hC
  intro d
  induction d with
  | zero =>
    intro l hl l1 hz
    refine S_X4_leastPeriod_2 t0 ⟨fun _ => ?_, fun z => absurd z (by omega)⟩
    rw [hn]
    exact hQ n ⟨by omega, Int.le_refl _, Or.inl rfl, fun k k1 k2 => hz k k1 (by omega)⟩
  | succ d ih =>
    intro l hl l1 hz
    refine S_X4_leastPeriod_2 t0 ⟨fun z => absurd z (by omega), fun _ => C_likeSigns hC hC (by omega) (by omega) (Int.le_refl 0) (by omega) ?_⟩
    have l2 := Lc_2 (s := h (a + 1)) (t := h (a + 1)) (n := n) (m := n) (p := 0) (q := l) (by omega) (by omega)
    rw [Lc_sym]
    refine S_X4_leastPeriod_17 t0 ⟨by omega, fun y => ⟨by omega, ih (l + 1) (by omega) (by omega) fun k k1 k2 => ?_⟩, fun y => hQ l ⟨l1, by omega, Or.inr (by omega), hz⟩⟩
    by_cases e : k = l
    · rw [e]; omega
    · exact hz k k1 (by omega)
theorem M_pd_1 {kc ks : Nat} {h : Hh} {Q : PQ} {X : PX} {t : Int} {n : Nat} {s : Int → Int} (hT : MT h t n s) (hQ : ∀ y, PD s n y → Q [aI y] am_R0 h) : ∀ (d : Nat) (l : Int), l + d = n → 1 ≤ l → (∀ k, 1 ≤ k → k < l → (Lc s n s n 0 k : Int) < n - k) → am_V M_X11_period kc ks 12 [aR 72, aI t, aI l] [] am_R0 h Q X := by
  have h64 := hT.2.1
  have hn := hT.2.2.1
  intro d
  induction d with
  | zero =>
    intro l hl l1 hz
    exact S_X11_period_12 ⟨hT.1, fun _ => hQ l ⟨l1, by omega, Or.inl (by omega), hz⟩, fun z => absurd z (by omega)⟩
  | succ d ih =>
    intro l hl l1 hz
    have ht := hT.1
    refine S_X11_period_12 ⟨hT.1, fun z => absurd z (by omega), fun _ => M_together hT hT (Int.le_refl 0) (by omega) (by omega) (by omega) (S_X11_period_30 ⟨by omega, fun y => hQ l ⟨l1, by omega, Or.inr (by omega), hz⟩, fun y => ⟨by omega, ih (l + 1) (by omega) (by omega) fun k k1 k2 => ?_⟩⟩)⟩
    by_cases e : k = l
    · rw [e]; omega
    · exact hz k k1 (by omega)
theorem T_period {kc ks : Nat} {h : Hh} {t : Int} (hS : SIM h) (hkc : 2 ≤ kc) (hks : 12 ≤ ks) : am_V M_X10_period kc ks 0 [aR 0, aI t] [] am_R0 h (PQok M_X11_period [aR 72, aI t, aU] aI) (PXok M_X11_period [aR 72, aI t, aU] aI [xIO, xNS]) := by
  refine S_X10_period_0 ⟨by omega, C_knownNotEmpty hS (by omega) (by omega) (fun z => ?_) (fun z => PX.bad 0 hS (NK.rf h) rfl fun kc ks Q X hS' k => S_X11_period_0 (M_isEmpty0 hS z fun h2 m y => S_X11_period_5 ⟨fun w => absurd w (by decide), fun _ => k 0 h2 m y⟩)) (fun z w => PX.bad 1 hS (NK.rf h) rfl fun kc ks Q X hS' k => S_X11_period_0 (M_isEmpty2 hS z w fun h2 m y => S_X11_period_5 ⟨fun w => absurd w (by decide), fun _ => k 0 h2 m y⟩))⟩
  obtain ⟨n, s, pl, ra, hC, hM, n0⟩ := z.get hS
  refine S_X10_period_5 hC.1 (S_X4_leastPeriod_0 hC.1 (C_pd_1 hC (fun y hy => S_X10_period_8 (PQ.good hS (NK.rf h) fun kc ks Q X g hN hS' k => S_X11_period_0 (M_isEmpty1 hS' (hN.e.mpr z) fun h2 m x => S_X11_period_5 ⟨fun _ => M_pd_1 (m.mt (hN.mt hM)) (fun y' hy' => ?_) (n - 1) 1 (by omega) (by omega) (fun k k1 k2 => by omega), fun w => absurd rfl w⟩))) (n - 1) 1 (by omega) (by omega) (fun k k1 k2 => by omega)))
  rw [hy'.uniq hy]
  exact k h2 m x
/-- the signs of a text going round -/
def rs (s : Int → Int) (n : Nat) (i : Int) : Int := s (i % n)
theorem C_roundSign {kc ks : Nat} {h : Hh} {Q : PQ} {X : PX} {a n : Nat} {s pl ra : Int → Int} (hC : CT h a n s pl ra) {p : Int} (hp : 0 ≤ p) (hpn : p < 2 * n) (hQ : 97 ≤ rs s n p → rs s n p ≤ 122 → Q [aI (rs s n p)] am_R0 h) : am_V M_X4_roundSign kc ks 0 [aR a, aI p] [] am_R0 h Q X := by
  obtain ⟨t0, n64, hn, rfl, rfl, rfl, hs, hSA, hcm⟩ := id hC
  unfold rs at hQ
  refine S_X4_roundSign_0 t0 ⟨fun z => ?_, fun z => ?_⟩
  · rw [hn]
    have e : p % n = p - n := by
      rw [← Int.sub_emod_right p n]
      exact Int.emod_eq_of_lt (by omega) (by omega)
    rw [e] at hQ
    have := hs (p - n) (by omega) (by omega)
    exact ⟨by omega, hQ this.1 this.2⟩
  · rw [Int.emod_eq_of_lt hp (by omega)] at hQ
    have := hs p hp (by omega)
    exact ⟨by omega, hQ this.1 this.2⟩
def TL (x : Int → Int) (n : Nat) (p q : Int) : Prop := ∃ j, j < n ∧ (∀ i : Nat, i < j → x (p + i) = x (q + i)) ∧ x (p + j) < x (q + j)
theorem TL.asymm {x : Int → Int} {n : Nat} {p q : Int} (h : TL x n p q) {k : Nat} (hk : ∀ i : Nat, i < k → x (p + i) = x (q + i)) (hlt : x (q + k) < x (p + k)) : False := by
  obtain ⟨j, j0, j1, j2⟩ := h
  rcases Nat.lt_trichotomy j k with z | z | z
  · have := hk j z; omega
  · subst z; omega
  · have := j1 k z; omega
theorem C_tl_1 {kc ks : Nat} {h : Hh} {Q : PQ} {X : PX} {a n : Nat} {s pl ra : Int → Int} (hC : CT h a n s pl ra) {p q : Int} (hp : 0 ≤ p) (hpn : p < n) (hq : 0 ≤ q) (hqn : q < n) (h1 : TL (rs s n) n p q → Q [aI 1] am_R0 h) (h0 : ¬ TL (rs s n) n p q → Q [aI 0] am_R0 h) : ∀ (d k : Nat), k + d = n → (∀ i : Nat, i < k → rs s n (p + i) = rs s n (q + i)) → am_V M_X4_isTurnLess kc ks 2 [aR a, aI p, aI q, aI k, aU] [] am_R0 h Q X := by
  have t0 := hC.1
  have n64 := hC.2.1
  have hn := hC.2.2.1
  intro d
  induction d with
  | zero =>
    intro k hk hz
    refine S_X4_isTurnLess_2 t0 ⟨fun _ => h0 fun ⟨j, j0, j1, j2⟩ => ?_, fun z => absurd z (by omega)⟩
    have := hz j (by omega)
    omega
  | succ d ih =>
    intro k hk hz
    refine S_X4_isTurnLess_2 t0 ⟨fun z => absurd z (by omega), fun _ => ⟨by omega, C_roundSign hC (by omega) (by omega) fun a1 a2 => S_X4_isTurnLess_17 t0 ⟨by omega, C_roundSign hC (by omega) (by omega) fun b1 b2 => S_X4_isTurnLess_24 t0 ⟨by omega, fun y => ⟨by omega, ih (k + 1) (by omega) fun i hi => ?_⟩, fun y => ⟨fun w => h0 fun v => v.asymm hz (by omega), fun w => h1 ⟨k, by omega, hz, by omega⟩⟩⟩⟩⟩⟩
    by_cases e : i = k
    · rw [e]; omega
    · exact hz i (by omega)
theorem C_lt_1 {kc ks : Nat} {h : Hh} {Q : PQ} {X : PX} {a n : Nat} {s pl ra : Int → Int} (hC : CT h a n s pl ra) (hQ : Q [aI (bt (rs s n) n (n - 1))] am_R0 h) : ∀ (d m : Nat), m + 1 + d = n → am_V M_X4_leastTurn kc ks 4 [aR a, aI (bt (rs s n) n m), aI ((m : Int) + 1)] [] am_R0 h Q X := by
  have t0 := hC.1
  have n64 := hC.2.1
  have hn := hC.2.2.1
  intro d
  induction d with
  | zero =>
    intro m hm
    have : m = n - 1 := by omega
    subst this
    exact S_X4_leastTurn_4 t0 ⟨fun _ => hQ, fun z => absurd z (by omega)⟩
  | succ d ih =>
    intro m hm
    have b := bt_bd (x := rs s n) (n := n) m
    have hnext := ih (m + 1) (by omega)
    refine S_X4_leastTurn_4 t0 ⟨fun z => absurd z (by omega), fun _ => S_X4_isTurnLess_0 t0 (C_tl_1 hC (p := (m : Int) + 1) (q := bt (rs s n) n m) (by omega) (by omega) b.1 (by omega) (fun y => S_X4_leastTurn_18 t0 ⟨fun z => absurd z (by decide), fun _ => ⟨by omega, ?_⟩⟩) (fun y => S_X4_leastTurn_18 t0 ⟨fun _ => ⟨by omega, ?_⟩, fun z => absurd rfl z⟩) n 0 (by omega) (fun i hi => absurd hi (Nat.not_lt_zero i)))⟩
    · rw [bt_t y] at hnext
      exact hnext
    · rw [bt_f y] at hnext
      exact hnext
theorem M_tl_1 {kc ks : Nat} {h : Hh} {Q : PQ} {X : PX} {t : Int} {n : Nat} {s : Int → Int} (hT : MT h t n s) {p q : Int} (hp : 0 ≤ p) (hpn : p < n) (hq : 0 ≤ q) (hqn : q < n) (h1 : TL (rs s n) n p q → am_V M_X11_turnAt kc ks 22 [aR 72, aI t, aI n, aI p, aI (p + 1), aU] [] am_R0 h Q X) (h0 : ¬ TL (rs s n) n p q → am_V M_X11_turnAt kc ks 22 [aR 72, aI t, aI n, aI q, aI (p + 1), aU] [] am_R0 h Q X) : ∀ (d k : Nat), k + d = n → (∀ i : Nat, i < k → rs s n (p + i) = rs s n (q + i)) → am_V M_X11_turnAt kc ks 31 [aR 72, aI t, aI n, aI q, aI p, aI k] [] am_R0 h Q X := by
  have n64 := hT.2.1
  have ht := hT.1
  have e73 : ∀ i : Int, 0 ≤ i → h 73 (64 * t + i % n) = rs s n i := fun i i0 => by
    have := hT.2.2.2.2 (i % n) (Int.emod_nonneg i (by omega)) (Int.emod_lt_of_pos i (by omega))
    exact this
  intro d
  induction d with
  | zero =>
    intro k hk hz
    refine S_X11_turnAt_31 ⟨fun _ => ⟨fun _ => ⟨by omega, h0 fun ⟨j, j0, j1, j2⟩ => ?_⟩, fun z => absurd z (by omega)⟩, fun z => absurd z (by omega)⟩
    have := hz j (by omega)
    omega
  | succ d ih =>
    intro k hk hz
    have m1 := Int.emod_nonneg (p + k) (show (n : Int) ≠ 0 by omega)
    have m2 := Int.emod_lt_of_pos (p + k) (show 0 < (n : Int) by omega)
    have m3 := Int.emod_nonneg (q + k) (show (n : Int) ≠ 0 by omega)
    have m4 := Int.emod_lt_of_pos (q + k) (show 0 < (n : Int) by omega)
    have e1 := e73 (p + k) (by omega)
    have e2 := e73 (q + k) (by omega)
    refine S_X11_turnAt_31 ⟨fun z => absurd z (by omega), fun _ => ⟨by omega, fun y => ⟨fun z => absurd z (by omega), fun _ => ⟨by omega, fun w => ⟨by omega, h0 fun v => v.asymm hz (by omega)⟩, fun w => ⟨by omega, h1 ⟨k, by omega, hz, by omega⟩⟩⟩⟩, fun y => ⟨by omega, ih (k + 1) (by omega) fun i hi => ?_⟩⟩⟩
    by_cases e : i = k
    · rw [e]; omega
    · exact hz i (by omega)
theorem M_lturn_1 {kc ks : Nat} {h : Hh} {Q : PQ} {X : PX} {t : Int} {n : Nat} {s : Int → Int} (hT : MT h t n s) (hQ : Q [aI (bt (rs s n) n (n - 1))] am_R0 h) : ∀ (d m : Nat), m + 1 + d = n → am_V M_X11_turnAt kc ks 22 [aR 72, aI t, aI n, aI (bt (rs s n) n m), aI ((m : Int) + 1), aU] [] am_R0 h Q X := by
  have n64 := hT.2.1
  intro d
  induction d with
  | zero =>
    intro m hm
    have : m = n - 1 := by omega
    subst this
    exact S_X11_turnAt_22 ⟨fun _ => hQ, fun z => absurd z (by omega)⟩
  | succ d ih =>
    intro m hm
    have b := bt_bd (x := rs s n) (n := n) m
    have hnext := ih (m + 1) (by omega)
    refine S_X11_turnAt_22 ⟨fun z => absurd z (by omega), fun _ => M_tl_1 hT (p := (m : Int) + 1) (q := bt (rs s n) n m) (by omega) (by omega) b.1 (by omega) (fun y => ?_) (fun y => ?_) n 0 (by omega) (fun i hi => absurd hi (Nat.not_lt_zero i))⟩
    · rw [bt_t y] at hnext
      exact hnext
    · rw [bt_f y] at hnext
      exact hnext
theorem T_turnAt {kc ks : Nat} {h : Hh} {t : Int} (hS : SIM h) (hkc : 2 ≤ kc) (hks : 12 ≤ ks) : am_V M_X10_turnAt kc ks 0 [aR 0, aI t] [] am_R0 h (PQok M_X11_turnAt [aR 72, aI t, aU, aU, aU, aU] aI) (PXok M_X11_turnAt [aR 72, aI t, aU, aU, aU, aU] aI [xIO, xNS]) := by
  refine S_X10_turnAt_0 ⟨by omega, C_knownNotEmpty hS (by omega) (by omega) (fun z => ?_) (fun z => PX.bad 0 hS (NK.rf h) rfl fun kc ks Q X hS' k => S_X11_turnAt_0 (M_isEmpty0 hS z fun h2 m y => S_X11_turnAt_5 ⟨fun w => absurd w (by decide), fun _ => k 0 h2 m y⟩)) (fun z w => PX.bad 1 hS (NK.rf h) rfl fun kc ks Q X hS' k => S_X11_turnAt_0 (M_isEmpty2 hS z w fun h2 m y => S_X11_turnAt_5 ⟨fun w => absurd w (by decide), fun _ => k 0 h2 m y⟩))⟩
  obtain ⟨n, s, pl, ra, hC, hM, n0⟩ := z.get hS
  refine S_X10_turnAt_5 hC.1 (S_X4_leastTurn_0 hC.1 (C_lt_1 hC (S_X10_turnAt_8 (PQ.good hS (NK.rf h) fun kc ks Q X g hN hS' k => S_X11_turnAt_0 (M_isEmpty1 hS' (hN.e.mpr z) fun h2 m y => S_X11_turnAt_5 ⟨fun _ => ⟨hM.1, ?_⟩, fun w => absurd rfl w⟩))) (n - 1) 0 (by omega)))
  rw [(m.mt (hN.mt hM)).2.2.1]
  exact M_lturn_1 (m.mt (hN.mt hM)) (k h2 m y) (n - 1) 0 (by omega)
