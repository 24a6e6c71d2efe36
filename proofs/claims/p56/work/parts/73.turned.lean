variable {WM : List (Nat × Nat)} {wd : Bool}
/-! TURNED ROWS: first, last, back, runs, column -/
theorem ar_rg {s : Int → Int} {n : Nat} (hs : WS s n) {i : Int} (hi : 0 ≤ i) : 36 ≤ ar s n i ∧ ar s n i ≤ 122 := by
  have h0 := Int.emod_nonneg i (show (n : Int) + 1 ≠ 0 by omega)
  have h1 := Int.emod_lt_of_pos i (show 0 < (n : Int) + 1 by omega)
  unfold ar
  by_cases e : i % ((n : Int) + 1) = n
  · rw [if_pos e]; omega
  · rw [if_neg e]
    have := hs (i % ((n : Int) + 1)) h0 (by omega)
    omega
theorem C_placeOfRow {kc ks : Nat} {h : Hh} {Q : PQ} {X : PX} {a n : Nat} {s pl ra : Int → Int} (hC : CT h a n s pl ra) {r : Int} (hr : 0 ≤ r) (hrn : r ≤ n) (hQ : Q [aI (tp n pl r)] (RM WM wd) h) : am_V M_X6_placeOfRow kc ks 0 [aR a, aI r] [] (RM WM wd) h Q X := by
  obtain ⟨t0, n64, hn, rfl, rfl, rfl, hs, hSA, hcm⟩ := id hC
  unfold tp at hQ
  refine S_X6_placeOfRow_0 t0 ⟨fun z => ⟨by omega, by rw [if_neg z] at hQ; exact hQ⟩, fun z => by rw [if_pos z] at hQ; rw [hn]; exact hQ⟩
theorem C_lastSign {kc ks : Nat} {h : Hh} {Q : PQ} {X : PX} {a n : Nat} {s pl ra : Int → Int} (hC : CT h a n s pl ra) {r : Int} (hr : 0 ≤ r) (hrn : r ≤ n) (hQ : Q [aI (LSg s n pl r)] (RM WM wd) h) : am_V M_X6_lastSign kc ks 0 [aR a, aI r, aU] [] (RM WM wd) h Q X := by
  refine S_X6_lastSign_0 hC.1 (C_placeOfRow hC hr hrn ?_)
  obtain ⟨t0, n64, hn, rfl, rfl, rfl, hs, hSA, hcm⟩ := id hC
  obtain ⟨a0, a1, -⟩ := rk1_tp hs hSA hr hrn
  unfold LSg at hQ
  refine S_X6_lastSign_5 t0 ⟨fun z => ?_, fun z => by rw [if_pos z] at hQ; exact hQ⟩
  have := hs (tp n (h (a + 2)) r - 1) (by omega) (by omega)
  rw [if_neg z] at hQ
  exact ⟨by omega, hQ⟩
/-- the place that comes ahead, going round -/
def wp (n : Nat) (p : Int) : Int := if p = 0 then n else p - 1
theorem wp_mod {n : Nat} {p : Int} (hp : 0 ≤ p) (hpn : p ≤ n) : (p + n) % ((n : Int) + 1) = wp n p := by
  unfold wp
  by_cases e : p = 0
  · rw [if_pos e, e, Int.zero_add, Int.emod_eq_of_lt (by omega) (by omega)]
  · rw [if_neg e, show p + (n : Int) = p - 1 + (n + 1) by omega, Int.add_emod_right]
    exact Int.emod_eq_of_lt (by omega) (by omega)
theorem wp_rg {n : Nat} {p : Int} (hp : 0 ≤ p) (hpn : p ≤ n) : 0 ≤ wp n p ∧ wp n p ≤ n := by
  unfold wp
  by_cases e : p = 0
  · rw [if_pos e]; omega
  · rw [if_neg e]; omega
theorem C_rowAhead {kc ks : Nat} {h : Hh} {Q : PQ} {X : PX} {a n : Nat} {s pl ra : Int → Int} (hC : CT h a n s pl ra) {r : Int} (hr : 0 ≤ r) (hrn : r ≤ n) (hQ : Q [aI (rk1 s n (wp n (tp n pl r)))] (RM WM wd) h) : am_V M_X6_rowAhead kc ks 0 [aR a, aI r, aU] [] (RM WM wd) h Q X := by
  refine S_X6_rowAhead_0 hC.1 (C_placeOfRow hC hr hrn ?_)
  obtain ⟨t0, n64, hn, rfl, rfl, rfl, hs, hSA, hcm⟩ := id hC
  obtain ⟨a0, a1, -⟩ := rk1_tp hs hSA hr hrn
  refine S_X6_rowAhead_5 t0 ⟨fun z => ?_, fun z => ?_⟩
  · have e : wp n (tp n (h (a + 2)) r) = tp n (h (a + 2)) r - 1 := if_neg z
    rw [e, rk1_at hs (by omega) (by omega)] at hQ
    have er := (hSA (tp n (h (a + 2)) r - 1) (by omega) (by omega)).1
    have b := rk_bd (s := h (a + 1)) (n := n) (p := tp n (h (a + 2)) r - 1) (by omega) (by omega)
    rw [er]
    exact ⟨by omega, hQ⟩
  · have e : wp n (tp n (h (a + 2)) r) = n := if_pos z
    rw [e, rk1_end hs] at hQ
    exact hQ
theorem C_co_1 {kc ks : Nat} {Q : PQ} {X : PX} {a n : Nat} {s pl ra : Int → Int} (h0 : Hh) (hC : CT h0 a n s pl ra) (hQ : ∀ h, (∀ d, d ≠ 2 → d ≠ 3 → h d = h0 d) → h 2 1 = (n : Int) + 1 → (∀ k, 0 ≤ k → k < (n : Int) + 1 → h 3 k = LSg s n pl k) → Q [aI ((n : Int) + 1)] (RM WM wd) h) : ∀ (d i : Nat) (h : Hh), i + d = n + 1 → (∀ d, d ≠ 2 → d ≠ 3 → h d = h0 d) → h 2 1 = i → (∀ k, 0 ≤ k → k < (i : Int) → h 3 k = LSg s n pl k) → am_V M_X10_column kc ks 16 [aR 0, aU, aR a, aI i] [] (RM WM wd) h Q X := by
  obtain ⟨t0, h64, hn, -, -, -, hs, hSA, -⟩ := id hC
  have hat : ∃ i : Nat, i < 8 ∧ a = 32 + 5 * i := t0
  obtain ⟨ia, ia8, iae⟩ := hat
  intro d
  induction d with
  | zero =>
    intro i h hi hf h21 hz
    have : i = n + 1 := by omega
    subst this
    have e4 : h a 4 = n := by rw [hf a (by omega) (by omega)]; exact hn
    refine S_X10_column_16 t0 ⟨fun _ => ?_, fun z => absurd z (by omega)⟩
    rw [h21, show ((n + 1 : Nat) : Int) = (n : Int) + 1 by omega]
    exact hQ h hf (by omega) (fun k k0 k1 => hz k k0 (by omega))
  | succ d ih =>
    intro i h hi hf h21 hz
    have e4 : h a 4 = n := by rw [hf a (by omega) (by omega)]; exact hn
    have hC' : CT h a n s pl ra := by
      obtain ⟨q1, q2, q3, q4, q5, q6, q7, q8, q9⟩ := hC
      exact ⟨q1, q2, e4, by rw [hf _ (by omega) (by omega)]; exact q4, by rw [hf _ (by omega) (by omega)]; exact q5, by rw [hf _ (by omega) (by omega)]; exact q6, q7, q8, fun r r0 r1 => by rw [hf _ (by omega) (by omega)]; exact q9 r r0 r1⟩
    have rg := LS_ty hs hSA (r := i) (by omega) (by omega)
    refine S_X10_column_16 t0 ⟨fun z => absurd z (by omega), fun _ => C_lastSign hC' (by omega) (by omega) (S_X10_column_33 t0 (S_X8_put_0 ⟨fun z => absurd z (by omega), fun _ => ?_⟩))⟩
    rw [Int.emod_eq_of_lt (by omega) (by omega), am_st_n (h := h) (a := 3) (a' := 2) (Or.inl (by decide)), h21]
    refine ⟨by omega, S_X10_column_36 t0 ⟨by omega, ih (i + 1) _ (by omega) (fun d d1 d2 => by rw [am_st_o d1, am_st_o d2]; exact hf d d1 d2) (by rw [am_st_s]; omega) (fun k k0 k1 => ?_)⟩⟩
    rw [am_st_o (by decide), am_st_i]
    by_cases e : k = i
    · rw [if_pos e, e]
    · rw [if_neg e]
      exact hz k k0 (by omega)
/-- a sign of the first column -/
def FSg (s : Int → Int) (pl : Int → Int) (r : Int) : Int := if r = 0 then 36 else s (pl (r - 1))
theorem W_first {kc ks : Nat} {h : Hh} {Q : PQ} {X : PX} {t : Int} {n : Nat} {s pl ra : Int → Int} {r : Int} (hS : SIM h) (z : isTx h t) (hC : CT h (ta t) n s pl ra) (hr : 0 ≤ r) (hrn : r ≤ n) (hkc : 2 ≤ kc) (hks : 12 ≤ ks) (hQ : Q [aL (FSg s pl r)] (RM WM wd) h) : am_V M_L_first kc ks 0 [aR 0, aI t, aI r, aU] [] (RM WM wd) h Q X := by
  obtain ⟨t0, n64, hn, e1, e2, e3, hs, hSA, hcm⟩ := id hC
  unfold FSg at hQ
  refine S_L_first_0 ⟨⟨hkc, hks⟩, S_X10_first_0 ⟨by omega, C_knownWithRow hS z hC hr hrn (by omega) (by omega) (S_X10_first_6 hC.1 (S_X6_firstSign_0 hC.1 ⟨fun w => ?_, fun w => S_X10_first_10 ⟨by decide, S_L_first_6 ?_⟩⟩))⟩⟩
  · obtain ⟨b0, b1, -, -⟩ := hSA.at hs (r := r - 1) (by omega) (by omega)
    have sg := hs _ b0 b1
    rw [e1, e2]
    refine ⟨by omega, S_X10_first_10 ⟨by omega, S_L_first_6 ?_⟩⟩
    rw [if_neg w] at hQ
    exact hQ
  · rw [if_pos w] at hQ
    exact hQ
theorem W_last {kc ks : Nat} {h : Hh} {Q : PQ} {X : PX} {t : Int} {n : Nat} {s pl ra : Int → Int} {r : Int} (hS : SIM h) (z : isTx h t) (hC : CT h (ta t) n s pl ra) (hr : 0 ≤ r) (hrn : r ≤ n) (hkc : 2 ≤ kc) (hks : 12 ≤ ks) (hQ : Q [aL (LSg s n pl r)] (RM WM wd) h) : am_V M_L_last kc ks 0 [aR 0, aI t, aI r, aU] [] (RM WM wd) h Q X := by
  have hs := hC.2.2.2.2.2.2.1
  have hSA := hC.2.2.2.2.2.2.2.1
  have rg := LS_ty hs hSA hr hrn
  exact S_L_last_0 ⟨⟨hkc, hks⟩, S_X10_last_0 ⟨by omega, C_knownWithRow hS z hC hr hrn (by omega) (by omega) (S_X10_last_6 hC.1 (C_lastSign hC hr hrn (S_X10_last_10 ⟨by omega, S_L_last_6 hQ⟩)))⟩⟩
theorem W_back {kc ks : Nat} {h : Hh} {Q : PQ} {X : PX} {t : Int} {n : Nat} {s pl ra : Int → Int} {r : Int} (hS : SIM h) (z : isTx h t) (hC : CT h (ta t) n s pl ra) (hr : 0 ≤ r) (hrn : r ≤ n) (hkc : 2 ≤ kc) (hks : 12 ≤ ks) (hQ : Q [aL (rk1 s n (wp n (tp n pl r)))] (RM WM wd) h) : am_V M_L_back kc ks 0 [aR 0, aI t, aI r, aU] [] (RM WM wd) h Q X :=
  S_L_back_0 ⟨⟨hkc, hks⟩, S_X10_back_0 ⟨by omega, C_knownWithRow hS z hC hr hrn (by omega) (by omega) (S_X10_back_6 hC.1 (C_rowAhead hC hr hrn (S_X10_back_10 (S_L_back_6 hQ))))⟩⟩
theorem W_column {kc ks : Nat} {h : Hh} {Q : PQ} {X : PX} {t : Int} {n : Nat} {s pl ra : Int → Int} (hS : SIM h) (z : isTx h t) (hC : CT h (ta t) n s pl ra) (hkc : 1 ≤ kc) (hks : 6 ≤ ks) (hQ : ∀ h', SIM h' → (∀ d, d ≠ 2 → d ≠ 3 → h' d = h d) → h' 2 1 = (n : Int) + 1 → (∀ k, 0 ≤ k → k < (n : Int) + 1 → h' 3 k = LSg s n pl k) → Q [aL ((n : Int) + 1)] (RM WM wd) h') : am_V M_L_column kc ks 0 [aR 0, aI t, aU] [] (RM WM wd) h Q X := by
  obtain ⟨t0, n64, hn, e1, e2, e3, hs, hSA, hcm⟩ := id hC
  obtain ⟨ia, ia8, iae⟩ := id t0
  have hC2 : CT (am_st h 2 1 0) (ta t) n s pl ra := hC.keep fun j hj => am_st_o (by omega)
  refine S_L_column_0 ⟨⟨hkc, hks⟩, S_X10_column_0 ⟨by omega, C_known hS z (by omega) (by omega) (S_X10_column_5 t0 (C_co_1 _ hC2 (fun h' hf h21 hh3 => S_L_column_5 ?_) (n + 1) 0 _ (by omega) (fun _ _ _ => rfl) am_st_s (fun k k0 k1 => by omega)))⟩⟩
  have fc : ∀ d, d ≠ 2 → d ≠ 3 → h' d = h d := fun d d2 d3 => by rw [hf d d2 d3, am_st_o d2]
  refine hQ h' (hS.row (fun d hd => fc d (by omega) (by omega)) (by omega) (by omega) (fun k k0 k1 => ?_)) fc h21 hh3
  rw [hh3 k k0 (by omega)]
  exact LS_ty hs hSA k0 (by omega)
