variable {WM : List (Nat × Nat)} {wd : Bool}
/-! join, mirror -/
theorem ta_lt {t u : Int} (h0 : 0 ≤ t) (h : t < u) : ta t + 5 ≤ ta u := by unfold ta; omega
theorem C_atr_1 {kc ks : Nat} {Q : PQ} {X : PX} {a a1 n : Nat} (t0 : isT a) (t1 : isT a1) (ha : a1 ≠ a) {s : Int → Int} (hn64 : n ≤ 64) (h0 : Hh) (hs : ∀ k, 0 ≤ k → k < (n : Int) → h0 (a1 + 1) k = s k ∧ 0 ≤ s k ∧ s k < 65536) (hQ : ∀ h, (∀ d, d ≠ a → d ≠ a + 1 → h d = h0 d) → h a 4 = (n : Int) → (∀ k, 0 ≤ k → k < (n : Int) → h (a + 1) k = s (n - 1 - k)) → Q [] (RM WM wd) h) : ∀ (d : Nat) (i : Int) (h : Hh), i + 1 = d → i < n → (∀ d, d ≠ a → d ≠ a + 1 → h d = h0 d) → h a 4 = n - 1 - i → (∀ k, 0 ≤ k → k < (n : Int) - 1 - i → h (a + 1) k = s (n - 1 - k)) → am_V M_X6_addTurnedRound kc ks 7 [aR a, aR a1, aI i] [] (RM WM wd) h Q X := by
  have hne : a1 + 1 ≠ a ∧ a1 + 1 ≠ a + 1 := by
    obtain ⟨i, i8, ia⟩ := id t0
    obtain ⟨j, j8, ja⟩ := id t1
    omega
  intro d
  induction d with
  | zero =>
    intro i h hi hin hf h4 hz
    exact S_X6_addTurnedRound_7 t0 t1 ⟨fun _ => hQ h hf (by omega) (fun k k0 k1 => hz k k0 (by omega)), fun z => absurd z (by omega)⟩
  | succ d ih =>
    intro i h hi hin hf h4 hz
    obtain ⟨w1, w2, w3⟩ := hs i (by omega) hin
    refine S_X6_addTurnedRound_7 t0 t1 ⟨fun z => absurd z (by omega), fun _ => ⟨fun z => absurd z (by omega), fun _ => ?_⟩⟩
    rw [hf (a1 + 1) hne.1 hne.2, w1, Int.emod_eq_of_lt w2 w3, am_st_n (h := h) (a := a + 1) (a' := a) (Or.inl (by omega)), h4]
    refine ⟨by omega, ih (i + -1) _ (by omega) (by omega) (fun d d1 d2 => by rw [am_st_o d1, am_st_o d2]; exact hf d d1 d2) (by rw [am_st_s]; omega) (fun k k0 k1 => ?_)⟩
    rw [am_st_o (by omega), am_st_i]
    by_cases e : k = (n : Int) - 1 - i
    · rw [if_pos e, e, show (n : Int) - 1 - (n - 1 - i) = i by omega]
    · rw [if_neg e]
      exact hz k k0 (by omega)
theorem W_mirror {kc ks : Nat} {h : Hh} {Q : PQ} {X : PX} {t : Int} {n : Nat} {s pl ra : Int → Int} (hS : SIM h) (z : isTx h t) (hC : CT h (ta t) n s pl ra) (hM : h 0 9 < 8) (hkc : 2 ≤ kc) (hks : 12 ≤ ks) (hQ : ∀ h', SIM h' → h' 0 9 = h 0 9 + 1 → (∀ d, 72 ≤ d → h' d = h d) → (∀ d, 32 ≤ d → d ≤ 71 → (d < ta (h 0 9) ∨ ta (h 0 9) + 4 < d) → h' d = h d) → NT h' (ta (h 0 9)) n (fun k => s (n - 1 - k)) → Q [aL (h 0 9)] (RM WM wd) h') : am_V M_L_mirror kc ks 0 [aR 0, aI t, aU] [] (RM WM wd) h Q X := by
  obtain ⟨b0, b1, b2⟩ := hS.2.1
  obtain ⟨c0, c1, c2⟩ := hS.1
  have hrow := hS.2.2.1
  have h64 := hC.2.1
  have hn := hC.2.2.1
  refine S_L_mirror_0 ⟨⟨hkc, hks⟩, S_X10_mirror_0 ⟨by omega, C_known hS z (by omega) (by omega) (S_X10_mirror_5 hC.1 ⟨by omega, C_freshText hS (by omega) (by omega) (fun _ => ?_) (fun hM8 => absurd hM8 (by omega))⟩)⟩⟩
  have f0 : isT (ta (h 0 9)) := ta_isT c0 (by omega)
  have ha : 32 ≤ ta (h 0 9) ∧ ta (h 0 9) ≤ 67 := by unfold ta; omega
  have hat := ta_lt z.1 z.2
  have h40 := hS.2.2.2.2 (h 0 9) (Int.le_refl _) hM
  obtain ⟨-, -, -, es, -, -, ws, -, -⟩ := id hC
  have hw : WS (fun k => s (n - 1 - k)) (n : Int) := fun k k0 k1 => ws (n - 1 - k) (by omega) (by omega)
  refine S_X10_mirror_10 hC.1 f0 (S_X6_addTurnedRound_0 f0 hC.1 ⟨by omega, ?_⟩)
  rw [hn]
  refine C_atr_1 (n := n) (s := s) f0 hC.1 (by omega) h64 h (fun k k0 k1 => by rw [es]; have := ws k k0 k1; omega) (fun h2 f2 z3 z4 => S_X10_mirror_16 f0 (C_keep (n := n) (w := fun k => s (n - 1 - k)) f0 z3 (by omega) hw z4 (by rw [f2 0 (by omega) (by omega)]; omega) (fun hc f3 g09 hNT => S_X10_mirror_21 (S_L_mirror_5 ?_)))) n ((n : Int) - 1) h (by omega) (by omega) (fun _ _ _ => rfl) (by omega) (fun k k0 k1 => by omega)
  have e09 : h2 0 9 = h 0 9 := by rw [f2 0 (by omega) (by omega)]
  rw [e09]
  rw [e09] at g09
  have fc : ∀ d, d ≠ 0 → d ≠ 6 → d ≠ 7 → d ≠ 8 → (d < ta (h 0 9) ∨ ta (h 0 9) + 4 < d) → hc d = h d := fun d d0 d6 d7 d8 dr => by rw [f3 d d0 d6 d7 d8 (by omega) (by omega) (by omega), f2 d (by omega) (by omega)]
  have q2 := fc 2 (by decide) (by decide) (by decide) (by decide) (by omega)
  have q3 := fc 3 (by decide) (by decide) (by decide) (by decide) (by omega)
  refine hQ hc (hS.add rfl hM (fun d d0 d1 d2 => fc d (by omega) (by omega) (by omega) (by omega) d2) g09 (by rw [q2]; omega) (by rw [q2]; omega) (fun k k0 k1 => ?_) hNT) g09 (fun d hd => fc d (by omega) (by omega) (by omega) (by omega) (by omega)) (fun d d0 d1 d2 => fc d (by omega) (by omega) (by omega) (by omega) d2) hNT
  rw [q2] at k1
  rw [q3]
  exact (hrow k k0 k1).2
