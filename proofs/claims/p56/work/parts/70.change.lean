variable {WM : List (Nat × Nat)} {wd : Bool}
/-! A TEXT CHANGES: change, ahead, chop -/
theorem C_resort {kc ks : Nat} {h0 : Hh} {Q : PQ} {X : PX} {a n : Nat} {w : Int → Int} (t0 : isT a) (hn : h0 a 4 = n) (hn64 : n ≤ 64) (hs : WS w n) (hw : ∀ k, 0 ≤ k → k < (n : Int) → h0 (a + 1) k = w k) (hQ : ∀ h, (∀ d, d ≠ 6 → d ≠ 7 → d ≠ 8 → d ≠ a + 2 → d ≠ a + 3 → d ≠ a + 4 → h d = h0 d) → NT h a n w → Q [] (RM WM wd) h) : am_V M_X1_sortEnds kc ks 0 [aR 5, aR a, aU, aU] [] (RM WM wd) h0 Q X := by
  have hs' : WS (h0 (a + 1)) n := hs.congr (fun k k0 k1 => (hw k k0 k1).symm)
  obtain ⟨i, i8, ia⟩ := id t0
  refine L_sortEnds t0 h0 hn hn64 hs' (fun h hSF hSA hcm => hQ h (fun d d1 d2 d3 d4 d5 d6 => hSF d d1 d2 d3 d4 d5 d6) ?_)
  have ea : ∀ j, j < 2 → h (a + j) = h0 (a + j) := fun j hj => hSF _ (by omega) (by omega) (by omega) (by omega) (by omega) (by omega)
  have q0 := ea 0 (by omega)
  rw [Nat.add_zero] at q0
  have q1 := ea 1 (by omega)
  unfold NT
  rw [q0, q1]
  exact ⟨hn64, hn, hs', hw, hSA, hcm⟩
/-- the text with a sign ahead -/
def cns (x : Int) (s : Int → Int) (i : Int) : Int := if i = 0 then x else s (i - 1)
theorem C_pa_1 {kc ks : Nat} {Q : PQ} {X : PX} {a n : Nat} (t0 : isT a) {s : Int → Int} {x : Int} (hn64 : n < 64) (hx : 0 ≤ x ∧ x < 65536) (hs : WS s n) (h0 : Hh) (h4 : h0 a 4 = n) (hQ : ∀ h, (∀ d, d ≠ a → d ≠ a + 1 → h d = h0 d) → h a 4 = (n : Int) + 1 → (∀ k, 0 ≤ k → k < (n : Int) + 1 → h (a + 1) k = cns x s k) → Q [] (RM WM wd) h) : ∀ (i : Nat) (h : Hh), i ≤ n → (∀ d, d ≠ a + 1 → h d = h0 d) → (∀ k, 0 ≤ k → k < (i : Int) → h (a + 1) k = s k) → (∀ k, (i : Int) < k → k ≤ n → h (a + 1) k = s (k - 1)) → am_V M_X6_putAhead kc ks 17 [aR a, aI x, aI i] [] (RM WM wd) h Q X := by
  intro i
  induction i with
  | zero =>
    intro h hi hf hlo hhi
    refine S_X6_putAhead_17 t0 ⟨fun _ => ?_, fun z => absurd z (by omega)⟩
    rw [Int.emod_eq_of_lt hx.1 hx.2, am_st_n (h := h) (a := a + 1) (a' := a) (Or.inl (by omega)), hf a (by omega), h4]
    refine ⟨by omega, hQ _ (fun d d1 d2 => by rw [am_st_o d1, am_st_o d2]; exact hf d d2) am_st_s (fun k k0 k1 => ?_)⟩
    rw [am_st_o (by omega), am_st_i]
    unfold cns
    by_cases e : k = 0
    · rw [if_pos e, if_pos e]
    · rw [if_neg e, if_neg e]
      exact hhi k (by omega) (by omega)
  | succ i ih =>
    intro h hi hf hlo hhi
    have e := hlo i (by omega) (by omega)
    have sg := hs i (by omega) (by omega)
    refine S_X6_putAhead_17 t0 ⟨fun z => absurd z (by omega), fun _ => ?_⟩
    rw [show ((i + 1 : Nat) : Int) - 1 = i by omega, e, Int.emod_eq_of_lt (by omega) (by omega), show ((i + 1 : Nat) : Int) + -1 = i by omega]
    refine ⟨by omega, ih _ (by omega) (fun d d1 => by rw [am_st_o d1]; exact hf d d1) (fun k k0 k1 => ?_) (fun k k0 k1 => ?_)⟩
    · rw [am_st_n (Or.inr (by omega))]
      exact hlo k k0 (by omega)
    · rw [am_st_i]
      by_cases y : k = ((i + 1 : Nat) : Int)
      · rw [if_pos y, y, show ((i + 1 : Nat) : Int) - 1 = i by omega]
      · rw [if_neg y]
        exact hhi k (by omega) k1
theorem C_df_1 {kc ks : Nat} {Q : PQ} {X : PX} {a n : Nat} (t0 : isT a) {s : Int → Int} (hn64 : n ≤ 64) (n0 : 0 < n) (hs : WS s n) (h0 : Hh) (h4 : h0 a 4 = n) (hQ : ∀ h, (∀ d, d ≠ a → d ≠ a + 1 → h d = h0 d) → h a 4 = (n : Int) - 1 → (∀ k, 0 ≤ k → k < (n : Int) - 1 → h (a + 1) k = s (k + 1)) → Q [] (RM WM wd) h) : ∀ (d : Nat) (i : Int) (h : Hh), i + d = n → 1 ≤ i → (∀ d, d ≠ a + 1 → h d = h0 d) → (∀ k, 0 ≤ k → k < i - 1 → h (a + 1) k = s (k + 1)) → (∀ k, i ≤ k → k < (n : Int) → h (a + 1) k = s k) → am_V M_X6_dropFirst kc ks 2 [aR a, aI i] [] (RM WM wd) h Q X := by
  intro d
  induction d with
  | zero =>
    intro i h hi i1 hf hlo hhi
    have e4 : h a 4 = n := by rw [hf a (by omega)]; exact h4
    refine S_X6_dropFirst_2 t0 ⟨fun _ => ⟨fun z => absurd z (by omega), fun _ => ?_⟩, fun z => absurd z (by omega)⟩
    rw [e4]
    exact ⟨by omega, hQ _ (fun d d1 d2 => by rw [am_st_o d1]; exact hf d d2) am_st_s (fun k k0 k1 => by rw [am_st_o (by omega)]; exact hlo k k0 (by omega))⟩
  | succ d ih =>
    intro i h hi i1 hf hlo hhi
    have e4 : h a 4 = n := by rw [hf a (by omega)]; exact h4
    have e := hhi i (Int.le_refl _) (by omega)
    have sg := hs i (by omega) (by omega)
    refine S_X6_dropFirst_2 t0 ⟨fun z => absurd z (by omega), fun _ => ?_⟩
    rw [e, Int.emod_eq_of_lt (by omega) (by omega)]
    refine ⟨by omega, ih (i + 1) _ (by omega) (by omega) (fun d d1 => by rw [am_st_o d1]; exact hf d d1) (fun k k0 k1 => ?_) (fun k k0 k1 => ?_)⟩
    · rw [am_st_i]
      by_cases y : k = i - 1
      · rw [if_pos y, y, show i - 1 + 1 = i by omega]
      · rw [if_neg y]
        exact hlo k k0 (by omega)
    · rw [am_st_n (Or.inr (by omega))]
      exact hhi k (by omega) k1
theorem cns_WS {s : Int → Int} {n : Nat} {x : Int} (hs : WS s n) (l0 : 97 ≤ x) (l1 : x ≤ 122) : WS (cns x s) ((n + 1 : Nat) : Int) := fun k k0 k1 => by
  unfold cns
  by_cases e : k = 0
  · rw [if_pos e]; exact ⟨l0, l1⟩
  · rw [if_neg e]; exact hs (k - 1) (by omega) (by omega)
theorem W_ahead {kc ks : Nat} {h : Hh} {Q : PQ} {X : PX} {t : Int} {n : Nat} {s pl ra : Int → Int} {x : Int} (hS : SIM h) (z : isTx h t) (hC : CT h (ta t) n s pl ra) (hx : 97 ≤ x ∧ x ≤ 122) (hn64 : n < 64) (hkc : 2 ≤ kc) (hks : 12 ≤ ks) (hQ : ∀ h', SIM h' → (∀ d, d ≠ 6 → d ≠ 7 → d ≠ 8 → (d < ta t ∨ ta t + 4 < d) → h' d = h d) → NT h' (ta t) (n + 1) (cns x s) → Q [aL (((n + 1 : Nat) : Int) - 1 - rk (cns x s) ((n + 1 : Nat) : Int) 0)] (RM WM wd) h') : am_V M_L_ahead kc ks 0 [aR 0, aI t, aI x, aU] [] (RM WM wd) h Q X := by
  obtain ⟨t0, n64, hn, es, e2, e3, hs, hSA, hcm⟩ := id hC
  have hz2 := z.2
  have c8 := hS.1.2.1
  have ha : 32 ≤ ta t ∧ ta t ≤ 67 := by unfold ta; omega
  refine S_L_ahead_0 ⟨⟨hkc, hks⟩, S_X10_ahead_0 ⟨by omega, C_known hS z (by omega) (by omega) (S_X10_ahead_5 t0 (C_isLetter (fun l0 l1 => S_X10_ahead_10 t0 ⟨fun _ => ⟨fun w => ?_, fun w => absurd w (by omega)⟩, fun v => absurd v (by decide)⟩) (fun l => absurd hx l)))⟩⟩
  refine S_X6_putAhead_0 t0 ⟨fun v => absurd v (by omega), fun _ => ?_⟩
  rw [hn]
  refine C_pa_1 t0 hn64 (by omega) hs h hn (fun h1 f1 z1 z2 => S_X10_ahead_47 t0 (C_resort (n := n + 1) (w := cns x s) t0 (by rw [z1]; omega) (by omega) (cns_WS hs l0 l1) (fun k k0 k1 => z2 k k0 (by omega)) (fun hc f2 hNT => S_X10_ahead_55 t0 (S_X6_endsAboveWhole_0 t0 ?_)))) n h (by omega) (fun _ _ => rfl) (fun k k0 k1 => by rw [es]) (fun k k0 k1 => by omega)
  obtain ⟨-, q4, qs, qw, qSA, qcm⟩ := id hNT
  have qr : hc (ta t + 3) 0 = rk (cns x s) ((n + 1 : Nat) : Int) 0 := by
    rw [(qSA 0 (by omega) (by omega)).1, rk_congr qw (by omega)]
  have b0 := rk_bd (s := cns x s) (n := ((n + 1 : Nat) : Int)) (p := 0) (by omega) (by omega)
  rw [q4, qr]
  have fc : ∀ d, d ≠ 6 → d ≠ 7 → d ≠ 8 → (d < ta t ∨ ta t + 4 < d) → hc d = h d := fun d d6 d7 d8 dr => by rw [f2 d d6 d7 d8 (by omega) (by omega) (by omega), f1 d (by omega) (by omega)]
  exact ⟨by omega, S_X10_ahead_59 (S_L_ahead_6 (hQ hc (hS.mod z (fun d hd => fc d (by omega) (by omega) (by omega) (by omega)) hNT) fc hNT))⟩
theorem W_chop {kc ks : Nat} {h : Hh} {Q : PQ} {X : PX} {t : Int} {n : Nat} {s pl ra : Int → Int} (hS : SIM h) (z : isTx h t) (hC : CT h (ta t) (n + 1) s pl ra) (hkc : 2 ≤ kc) (hks : 12 ≤ ks) (hQ : ∀ h', SIM h' → (∀ d, d ≠ 6 → d ≠ 7 → d ≠ 8 → (d < ta t ∨ ta t + 4 < d) → h' d = h d) → NT h' (ta t) n (fun i => s (i + 1)) → Q [aL (((n + 1 : Nat) : Int) - 1 - rk s ((n + 1 : Nat) : Int) 0)] (RM WM wd) h') : am_V M_L_chop kc ks 0 [aR 0, aI t, aU] [] (RM WM wd) h Q X := by
  obtain ⟨t0, n64, hn, es, e2, e3, hs, hSA, hcm⟩ := id hC
  have hz2 := z.2
  have c8 := hS.1.2.1
  have ha : 32 ≤ ta t ∧ ta t ≤ 67 := by unfold ta; omega
  have b0 := rk_bd (s := s) (n := ((n + 1 : Nat) : Int)) (p := 0) (by omega) (by omega)
  have hs2 : WS (fun i => s (i + 1)) n := fun k k0 k1 => hs (k + 1) (by omega) (by omega)
  refine S_L_chop_0 ⟨⟨hkc, hks⟩, S_X10_chop_0 ⟨by omega, L_knownNotEmpty hS.1.2.1 (by omega) (by omega) (fun _ _ => S_X10_chop_5 t0 (S_X6_endsAboveWhole_0 t0 ?_)) (fun y => absurd z y) (fun _ y => absurd y (by omega))⟩⟩
  rw [hn, e3, (hSA 0 (by omega) (by omega)).1]
  refine ⟨by omega, S_X10_chop_10 t0 (S_X6_dropFirst_0 t0 (C_df_1 t0 n64 (by omega) hs h hn (fun h1 f1 z1 z2 => S_X10_chop_15 t0 (C_resort (n := n) (w := fun i => s (i + 1)) t0 (by rw [z1]; omega) (by omega) hs2 (fun k k0 k1 => z2 k k0 (by omega)) (fun hc f2 hNT => S_X10_chop_23 (S_L_chop_5 ?_)))) n 1 h (by omega) (Int.le_refl 1) (fun _ _ => rfl) (fun k k0 k1 => by omega) (fun k k0 k1 => by rw [es])))⟩
  have fc : ∀ d, d ≠ 6 → d ≠ 7 → d ≠ 8 → (d < ta t ∨ ta t + 4 < d) → hc d = h d := fun d d6 d7 d8 dr => by rw [f2 d d6 d7 d8 (by omega) (by omega) (by omega), f1 d (by omega) (by omega)]
  exact hQ hc (hS.mod z (fun d hd => fc d (by omega) (by omega) (by omega) (by omega)) hNT) fc hNT
