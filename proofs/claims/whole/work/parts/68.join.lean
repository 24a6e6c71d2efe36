/-! join, mirror -/
theorem M_join_2 {kc ks : Nat} {Q : PQ} {X : PX} {M t u : Int} {n m : Nat} {s s' : Int → Int} (g : Hh) (hM0 : 0 ≤ M) (hM8 : M < 8) (hnm : n + m ≤ 64) (hT : MT g t n s) (ht : t < M) (hU : MT g u m s') (hu : u < M) (hQ : ∀ h, MN2 g h M (n + m) (fun k => if k < n then s k else s' (k - n)) (g 72 9) → Q [aI M] am_R0 h) : ∀ (d i : Nat) (h : Hh), i + d = m → (∀ d, d ≠ 72 → d ≠ 73 → h d = g d) → h 72 8 = M → h 72 9 = g 72 9 → h 72 10 = 0 → (∀ j, j < 64 * M → h 73 j = g 73 j) → (∀ k, 0 ≤ k → k < (n : Int) + i → h 73 (64 * M + k) = if k < n then s k else s' (k - n)) → am_V M_X11_join kc ks 110 [aR 72, aI t, aI u, aI i] [] am_R0 h Q X := by
  have t0 := hT.1
  have u0 := hU.1
  intro d
  induction d with
  | zero =>
    intro i h hi hf h8 h9 h10 hlow hz
    have : i = m := by omega
    subst this
    have e1 : h 74 t = n := by rw [hf 74 (by decide) (by decide)]; exact hT.2.2.1
    have e2 : h 74 u = i := by rw [hf 74 (by decide) (by decide)]; exact hU.2.2.1
    refine S_X11_join_110 ⟨u0, fun _ => ?_, fun z => absurd z (by omega)⟩
    rw [h8, e1, e2]
    have e3 : am_st h 74 M ((n : Int) + i) 72 8 = M := by rw [am_st_n (Or.inl (by decide))]; exact h8
    rw [e3, am_st_s]
    refine ⟨by omega, ?_⟩
    rw [show M + 1 - 1 = M by omega]
    refine hQ _ ⟨fun d d1 d2 d3 _ _ => by rw [am_st_o d1, am_st_o d3]; exact hf d d1 d2, am_st_s, ?_, ?_, fun t ht => ?_, ?_, fun j hj => ?_, fun k k0 k1 => ?_⟩
    · rw [am_st_n (Or.inr (by decide)), am_st_n (Or.inl (by decide))]; exact h9
    · rw [am_st_n (Or.inr (by decide)), am_st_n (Or.inl (by decide))]; exact h10
    · rw [am_st_o (by decide), am_st_n (Or.inr ht), hf 74 (by decide) (by decide)]
    · rw [am_st_o (by decide), am_st_s]; omega
    · rw [am_st_o (by decide), am_st_o (by decide)]; exact hlow j hj
    · rw [am_st_o (by decide), am_st_o (by decide)]; exact hz k k0 (by omega)
  | succ d ih =>
    intro i h hi hf h8 h9 h10 hlow hz
    have e1 : h 74 t = n := by rw [hf 74 (by decide) (by decide)]; exact hT.2.2.1
    have e2 : h 74 u = m := by rw [hf 74 (by decide) (by decide)]; exact hU.2.2.1
    have e4 := hU.2.2.2.2 i (by omega) (by omega)
    have e5 := hU.2.2.2.1 i (by omega) (by omega)
    unfold ms at e4
    rw [← hlow (64 * u + i) (by omega)] at e4
    refine S_X11_join_110 ⟨u0, fun z => absurd z (by omega), fun _ => ?_⟩
    rw [h8, e1, e4, Int.emod_eq_of_lt (by omega) (by omega)]
    refine ⟨by omega, ih (i + 1) _ (by omega) (fun d d1 d2 => by rw [am_st_o d2]; exact hf d d1 d2) (by rw [am_st_o (by decide)]; exact h8) (by rw [am_st_o (by decide)]; exact h9) (by rw [am_st_o (by decide)]; exact h10) (fun j hj => by rw [am_st_n (Or.inr (by omega))]; exact hlow j hj) (fun k k0 k1 => ?_)⟩
    rw [am_st_i]
    by_cases e : k = (n : Int) + i
    · rw [if_pos (by omega), if_neg (by omega), e, show (n : Int) + i - n = i by omega]
    · rw [if_neg (by omega)]
      exact hz k k0 (by omega)
theorem M_join_1 {kc ks : Nat} {Q : PQ} {X : PX} {M t u : Int} {n m : Nat} {s s' : Int → Int} (g : Hh) (hM0 : 0 ≤ M) (hM8 : M < 8) (hnm : n + m ≤ 64) (hT : MT g t n s) (ht : t < M) (hU : MT g u m s') (hu : u < M) (hQ : ∀ h, MN2 g h M (n + m) (fun k => if k < n then s k else s' (k - n)) (g 72 9) → Q [aI M] am_R0 h) : ∀ (d i : Nat) (h : Hh), i + d = n → (∀ d, d ≠ 72 → d ≠ 73 → h d = g d) → h 72 8 = M → h 72 9 = g 72 9 → h 72 10 = 0 → (∀ j, j < 64 * M → h 73 j = g 73 j) → (∀ k, 0 ≤ k → k < (i : Int) → h 73 (64 * M + k) = s k) → am_V M_X11_join kc ks 67 [aR 72, aI t, aI u, aI i] [] am_R0 h Q X := by
  have t0 := hT.1
  intro d
  induction d with
  | zero =>
    intro i h hi hf h8 h9 h10 hlow hz
    have : i = n := by omega
    subst this
    have e1 : h 74 t = i := by rw [hf 74 (by decide) (by decide)]; exact hT.2.2.1
    refine S_X11_join_67 ⟨t0, fun _ => M_join_2 g hM0 hM8 hnm hT ht hU hu hQ m 0 h (by omega) hf h8 h9 h10 hlow (fun k k0 k1 => ?_), fun z => absurd z (by omega)⟩
    rw [if_pos (by omega)]
    exact hz k k0 (by omega)
  | succ d ih =>
    intro i h hi hf h8 h9 h10 hlow hz
    have e1 : h 74 t = n := by rw [hf 74 (by decide) (by decide)]; exact hT.2.2.1
    have e4 := hT.2.2.2.2 i (by omega) (by omega)
    have e5 := hT.2.2.2.1 i (by omega) (by omega)
    unfold ms at e4
    rw [← hlow (64 * t + i) (by omega)] at e4
    refine S_X11_join_67 ⟨t0, fun z => absurd z (by omega), fun _ => ?_⟩
    rw [h8, e4, Int.emod_eq_of_lt (by omega) (by omega)]
    refine ⟨by omega, ih (i + 1) _ (by omega) (fun d d1 d2 => by rw [am_st_o d2]; exact hf d d1 d2) (by rw [am_st_o (by decide)]; exact h8) (by rw [am_st_o (by decide)]; exact h9) (by rw [am_st_o (by decide)]; exact h10) (fun j hj => by rw [am_st_n (Or.inr (by omega))]; exact hlow j hj) (fun k k0 k1 => ?_)⟩
    rw [am_st_i]
    by_cases e : k = i
    · rw [if_pos (by omega), e]
    · rw [if_neg (by omega)]
      exact hz k k0 (by omega)
theorem ta_lt {t u : Int} (h0 : 0 ≤ t) (h : t < u) : ta t + 5 ≤ ta u := by unfold ta; omega
theorem T_join {kc ks : Nat} {h : Hh} {t u : Int} (hS : SIM h) (hkc : 4 ≤ kc) (hks : 24 ≤ ks) : am_V M_X10_join kc ks 0 [aR 0, aI t, aI u, aU, aU, aU] [] am_R0 h (PQok M_X11_join [aR 72, aI t, aI u, aU] aI) (PXok M_X11_join [aR 72, aI t, aI u, aU] aI [xIO, xUO, xIS]) := by
  by_cases z : isTx h t
  · obtain ⟨n, s, pl, ra, hC, hM⟩ := hS.txt z
    refine S_X10_join_0 ⟨by omega, C_known hS z (by omega) (by omega) (S_X10_join_5 hC.1 ⟨by omega, ?_⟩)⟩
    by_cases zu : isTx h u
    · obtain ⟨m, s', pl', ra', hC', hM'⟩ := hS.txt zu
      obtain ⟨b0, b1, b2⟩ := hS.2.1
      obtain ⟨c0, c1, c2⟩ := hS.1
      have h64 := hC.2.1
      have h64' := hC'.2.1
      have hn := hC.2.2.1
      have hm := hC'.2.2.1
      have e74 := hM.2.2.1
      have e74' := hM'.2.2.1
      have t0 := hM.1
      have u0 := hM'.1
      refine C_known hS zu (by omega) (by omega) (S_X10_join_11 hC.1 hC'.1 ⟨by omega, fun w => ⟨by omega, C_freshText hS (by omega) (by omega) (fun hM8 => ?_) (fun hM8 => PX.bad 2 hS (NK.rf h) rfl fun kc ks Q X hS' k => S_X11_join_0 (M_isText1 hS z (S_X11_join_6 ⟨fun v => absurd v (by decide), fun _ => M_isText1 hS zu (S_X11_join_14 ⟨fun _ => ⟨by omega, fun _ => ⟨fun v => absurd v (by omega), fun _ => M_isWrong fun h2 m2 y2 => S_X11_join_60 ⟨fun v => absurd v (by decide), fun _ => k 0 h2 m2 y2⟩⟩, fun v => absurd v (by omega)⟩, fun v => absurd v (by decide)⟩)⟩)))⟩, fun w => ⟨by omega, PX.bad 1 hS (NK.rf h) rfl fun kc ks Q X hS' k => S_X11_join_0 (M_isText1 hS z (S_X11_join_6 ⟨fun v => absurd v (by decide), fun _ => M_isText1 hS zu (S_X11_join_14 ⟨fun _ => ⟨by omega, fun v => absurd v (by omega), fun _ => M_isWrong fun h2 m2 y2 => S_X11_join_60 ⟨fun v => absurd v (by decide), fun _ => k 0 h2 m2 y2⟩⟩, fun v => absurd v (by decide)⟩)⟩))⟩⟩)
      have f0 : isT (ta (h 0 9)) := ta_isT c0 (by omega)
      have ha : 32 ≤ ta (h 0 9) ∧ ta (h 0 9) ≤ 67 := by unfold ta; omega
      have hat := ta_lt z.1 z.2
      have hau := ta_lt zu.1 zu.2
      have h40 := hS.2.2.2.2 (h 0 9) (Int.le_refl _) hM8
      obtain ⟨-, -, -, es, -, -, ws, -, -⟩ := id hC
      obtain ⟨-, -, -, es', -, -, ws', -, -⟩ := id hC'
      have hw : WS (fun k => if k < (n : Int) then s k else s' (k - n)) ((n + m : Nat) : Int) := fun k k0 k1 => by
        dsimp only
        by_cases e : k < n
        · rw [if_pos e]; exact ws k k0 e
        · rw [if_neg e]; exact ws' (k - n) (by omega) (by omega)
      refine S_X10_join_42 hC.1 hC'.1 f0 ?_
      rw [hn]
      refine C_add (b := 0) (m := n) (w := s) f0 (tr_sg hC.1) (by omega) (by omega) (by omega) h40 (fun k k0 k1 => by omega) (fun i i0 i1 => by have := ws i i0 i1; rw [show ((0 : Nat) : Int) + i = i by omega, es]; omega) (fun h1 f1 z1 z2 => S_X10_join_57 hC'.1 f0 ?_)
      have em : h1 (ta u) 4 = m := by rw [f1 (ta u) (by omega) (by omega)]; exact hm
      rw [em]
      refine C_add (b := n) (m := m) (w := fun k => if k < (n : Int) then s k else s' (k - n)) f0 (tr_sg hC'.1) (by omega) (by omega) (by omega) (by rw [z1]; omega) (fun k k0 k1 => by rw [if_pos k1]; exact z2 k k0 (by omega)) (fun i i0 i1 => ?_) (fun h2 f2 z3 z4 => S_X10_join_72 f0 (C_keep (n := n + m) (w := fun k => if k < (n : Int) then s k else s' (k - n)) f0 (by rw [z3]; omega) (by omega) hw (fun k k0 k1 => z4 k k0 (by omega)) (by rw [f2 0 (by omega) (by omega), f1 0 (by omega) (by omega)]; omega) (fun hc f3 g09 hNT => S_X10_join_78 ?_)))
      · rw [if_neg (by omega), f1 (ta u + 1) (by omega) (by omega), es', show (n : Int) + i - n = i by omega]
        have := ws' i i0 i1
        omega
      · have e09 : h2 0 9 = h 0 9 := by rw [f2 0 (by omega) (by omega), f1 0 (by omega) (by omega)]
        rw [e09]
        rw [e09] at g09
        refine GM.raw fun kc ks Q X k => ?_
        obtain ⟨g, hg⟩ : ∃ g : Hh, g = am_st hc 81 0 (h 0 9) := ⟨_, rfl⟩
        rw [← hg]
        have g81 : g 81 = am_st hc 81 0 (h 0 9) 81 := by rw [hg]
        rw [← g81] at k
        have gc : ∀ d, d ≠ 81 → g d = hc d := fun d hd => by rw [hg, am_st_o hd]
        have fc' : ∀ d, d ≠ 0 → d ≠ 6 → d ≠ 7 → d ≠ 8 → (d < ta (h 0 9) ∨ ta (h 0 9) + 4 < d) → hc d = h d := fun d d0 d6 d7 d8 dr => by rw [f3 d d0 d6 d7 d8 (by omega) (by omega) (by omega), f2 d (by omega) (by omega), f1 d (by omega) (by omega)]
        have fc : ∀ d, d ≠ 0 → d ≠ 2 → d ≠ 6 → d ≠ 7 → d ≠ 8 → d ≠ 10 → d ≠ 11 → d ≠ 12 → d ≠ 13 → (d < ta (h 0 9) ∨ ta (h 0 9) + 4 < d) → hc d = h d := fun d d0 d2 d6 d7 d8 _ _ _ _ dr => fc' d d0 d6 d7 d8 dr
        have gh : ∀ d, d ≠ 81 → 72 ≤ d → g d = h d := fun d d1 d2 => by rw [gc d d1, fc' d (by omega) (by omega) (by omega) (by omega) (by omega)]
        have q72 := gh 72 (by decide) (by decide)
        have hc2 : hc 2 1 = h 2 1 := by rw [fc' 2 (by decide) (by decide) (by decide) (by decide) (by omega)]
        have hTg : MT g t n s := hM.of (gh 73 (by decide) (by decide)) (gh 74 (by decide) (by decide))
        have hUg : MT g u m s' := hM'.of (gh 73 (by decide) (by decide)) (gh 74 (by decide) (by decide))
        have g9 : g 72 9 = h 2 1 := by rw [q72]; exact b2
        have g8 : g 72 8 = h 0 9 := by rw [q72]; exact c2
        have gtx : ∀ v, isTx h v → 0 ≤ v ∧ v < g 72 8 := fun v zv => by rw [q72]; exact hS.tx8.mpr zv
        have e1 : g 74 t = n := hTg.2.2.1
        have e2 : g 74 u = m := hUg.2.2.1
        have g8b : 0 ≤ g 72 8 ∧ g 72 8 ≤ 8 := by omega
        have fin : am_V M_X11_join kc ks 60 [aR 72, aI t, aI u, aU] [aI (if (0 : Int) = 0 then 0 else 1)] am_R0 (am_st g 72 10 0) Q X := by
          refine S_X11_join_60 ⟨fun _ => M_join_1 (M := h 0 9) g c0 hM8 (by omega) hTg z.2 hUg zu.2 (fun h2 hR => k h2 hR.2.2.2.1 (hR.1 81 (by decide) (by decide) (by decide) (by decide) (by decide)) (SIM.made hS rfl hM8 fc g09 (by rw [hc2, g9]) (by omega) (by omega) hNT gc hR)) n 0 _ (by omega) (fun d d1 d2 => am_st_o d1) (by rw [am_st_n (Or.inr (by decide))]; exact g8) (am_st_n (Or.inr (by decide))) am_st_s (fun j hj => by rw [am_st_o (by decide)]) (fun i i0 i1 => by omega), fun w => absurd rfl w⟩
        exact S_X11_join_0 (L_isText g8b (fun _ => S_X11_join_6 ⟨fun v => absurd v (by decide), fun _ => L_isText g8b (fun _ => S_X11_join_14 ⟨fun _ => ⟨by omega, fun _ => ⟨fun _ => L_isWrong fin, fun v => absurd v (by omega)⟩, fun v => absurd v (by omega)⟩, fun v => absurd v (by decide)⟩) (fun v => absurd (gtx u zu) v)⟩) (fun v => absurd (gtx t z) v))
    · exact C_known0 hS zu (by omega) (by omega) (PX.bad 0 hS (NK.rf h) rfl fun kc ks Q X hS' k => S_X11_join_0 (M_isText1 hS z (S_X11_join_6 ⟨fun v => absurd v (by decide), fun _ => M_isText0 hS zu (S_X11_join_14 ⟨fun v => absurd rfl v, fun _ => M_isWrong fun h2 m2 y2 => S_X11_join_60 ⟨fun v => absurd v (by decide), fun _ => k 0 h2 m2 y2⟩⟩)⟩)))
  · exact S_X10_join_0 ⟨by omega, C_known0 hS z (by omega) (by omega) (PX.bad 0 hS (NK.rf h) rfl fun kc ks Q X hS' k => S_X11_join_0 (M_isText0 hS z (S_X11_join_6 ⟨fun _ => M_isWrong fun h2 m2 y2 => S_X11_join_60 ⟨fun v => absurd v (by decide), fun _ => k 0 h2 m2 y2⟩, fun v => absurd rfl v⟩)))⟩
theorem C_atr_1 {kc ks : Nat} {Q : PQ} {X : PX} {a a1 n : Nat} (t0 : isT a) (t1 : isT a1) (ha : a1 ≠ a) {s : Int → Int} (hn64 : n ≤ 64) (h0 : Hh) (hs : ∀ k, 0 ≤ k → k < (n : Int) → h0 (a1 + 1) k = s k ∧ 0 ≤ s k ∧ s k < 65536) (hQ : ∀ h, (∀ d, d ≠ a → d ≠ a + 1 → h d = h0 d) → h a 4 = (n : Int) → (∀ k, 0 ≤ k → k < (n : Int) → h (a + 1) k = s (n - 1 - k)) → Q [] am_R0 h) : ∀ (d : Nat) (i : Int) (h : Hh), i + 1 = d → i < n → (∀ d, d ≠ a → d ≠ a + 1 → h d = h0 d) → h a 4 = n - 1 - i → (∀ k, 0 ≤ k → k < (n : Int) - 1 - i → h (a + 1) k = s (n - 1 - k)) → am_V M_X6_addTurnedRound kc ks 7 [aR a, aR a1, aI i] [] am_R0 h Q X := by
  have hne : a1 + 1 ≠ a ∧ a1 + 1 ≠ a + 1 := by
    obtain ⟨i, i8, ia⟩ := id t0
    obtain ⟨j, j8, ja⟩ := id t1
    omega
  intro d
  induction d with
  | zero =>
    intro i h hi hin hf h4 hz
    exact S_X6_addTurnedRound_7 t0 t1 ⟨fun _ => hQ h hf (by omega) (fun k k0 k1 => hz k k0 (by omega)), fun z => absurd z (by omega)⟩
  | succ d ih =>
    intro i h hi hin hf h4 hz
    obtain ⟨w1, w2, w3⟩ := hs i (by omega) hin
    refine S_X6_addTurnedRound_7 t0 t1 ⟨fun z => absurd z (by omega), fun _ => ⟨fun z => absurd z (by omega), fun _ => ?_⟩⟩
    rw [hf (a1 + 1) hne.1 hne.2, w1, Int.emod_eq_of_lt w2 w3, am_st_n (h := h) (a := a + 1) (a' := a) (Or.inl (by omega)), h4]
    refine ⟨by omega, ih (i + -1) _ (by omega) (by omega) (fun d d1 d2 => by rw [am_st_o d1, am_st_o d2]; exact hf d d1 d2) (by rw [am_st_s]; omega) (fun k k0 k1 => ?_)⟩
    rw [am_st_o (by omega), am_st_i]
    by_cases e : k = (n : Int) - 1 - i
    · rw [if_pos e, e, show (n : Int) - 1 - (n - 1 - i) = i by omega]
    · rw [if_neg e]
      exact hz k k0 (by omega)
theorem M_mir_1 {kc ks : Nat} {Q : PQ} {X : PX} {M t : Int} {n : Nat} {s : Int → Int} (g : Hh) (hM0 : 0 ≤ M) (hM8 : M < 8) (hT : MT g t n s) (ht : t < M) (hQ : ∀ h, MN2 g h M n (fun k => s (n - 1 - k)) (g 72 9) → Q [aI M] am_R0 h) : ∀ (d i : Nat) (h : Hh), i + d = n → (∀ d, d ≠ 72 → d ≠ 73 → h d = g d) → h 72 8 = M → h 72 9 = g 72 9 → h 72 10 = 0 → (∀ j, j < 64 * M → h 73 j = g 73 j) → (∀ k, 0 ≤ k → k < (i : Int) → h 73 (64 * M + k) = s (n - 1 - k)) → am_V M_X11_mirror kc ks 37 [aR 72, aI t, aI i] [] am_R0 h Q X := by
  have t0 := hT.1
  have h64 := hT.2.1
  intro d
  induction d with
  | zero =>
    intro i h hi hf h8 h9 h10 hlow hz
    have : i = n := by omega
    subst this
    have e1 : h 74 t = i := by rw [hf 74 (by decide) (by decide)]; exact hT.2.2.1
    refine S_X11_mirror_37 ⟨t0, fun _ => ?_, fun z => absurd z (by omega)⟩
    rw [h8, e1]
    have e3 : am_st h 74 M (i : Int) 72 8 = M := by rw [am_st_n (Or.inl (by decide))]; exact h8
    rw [e3, am_st_s]
    refine ⟨by omega, ?_⟩
    rw [show M + 1 - 1 = M by omega]
    refine hQ _ ⟨fun d d1 d2 d3 _ _ => by rw [am_st_o d1, am_st_o d3]; exact hf d d1 d2, am_st_s, ?_, ?_, fun t ht => ?_, ?_, fun j hj => ?_, fun k k0 k1 => ?_⟩
    · rw [am_st_n (Or.inr (by decide)), am_st_n (Or.inl (by decide))]; exact h9
    · rw [am_st_n (Or.inr (by decide)), am_st_n (Or.inl (by decide))]; exact h10
    · rw [am_st_o (by decide), am_st_n (Or.inr ht), hf 74 (by decide) (by decide)]
    · rw [am_st_o (by decide), am_st_s]
    · rw [am_st_o (by decide), am_st_o (by decide)]; exact hlow j hj
    · rw [am_st_o (by decide), am_st_o (by decide)]; exact hz k k0 k1
  | succ d ih =>
    intro i h hi hf h8 h9 h10 hlow hz
    have e1 : h 74 t = n := by rw [hf 74 (by decide) (by decide)]; exact hT.2.2.1
    have e4 := hT.2.2.2.2 (n - 1 - i) (by omega) (by omega)
    have e5 := hT.2.2.2.1 (n - 1 - i) (by omega) (by omega)
    unfold ms at e4
    rw [← hlow (64 * t + (n - 1 - i)) (by omega), show 64 * t + ((n : Int) - 1 - i) = 64 * t + n - 1 - i by omega] at e4
    refine S_X11_mirror_37 ⟨t0, fun z => absurd z (by omega), fun _ => ?_⟩
    rw [h8, e1, e4, Int.emod_eq_of_lt (by omega) (by omega)]
    refine ⟨by omega, ih (i + 1) _ (by omega) (fun d d1 d2 => by rw [am_st_o d2]; exact hf d d1 d2) (by rw [am_st_o (by decide)]; exact h8) (by rw [am_st_o (by decide)]; exact h9) (by rw [am_st_o (by decide)]; exact h10) (fun j hj => by rw [am_st_n (Or.inr (by omega))]; exact hlow j hj) (fun k k0 k1 => ?_)⟩
    rw [am_st_i]
    by_cases e : k = i
    · rw [if_pos (by omega), e]
    · rw [if_neg (by omega)]
      exact hz k k0 (by omega)
theorem T_mirror {kc ks : Nat} {h : Hh} {t : Int} (hS : SIM h) (hkc : 2 ≤ kc) (hks : 12 ≤ ks) : am_V M_X10_mirror kc ks 0 [aR 0, aI t, aU, aU] [] am_R0 h (PQok M_X11_mirror [aR 72, aI t, aU] aI) (PXok M_X11_mirror [aR 72, aI t, aU] aI [xIO, xIS]) := by
  by_cases z : isTx h t
  · obtain ⟨n, s, pl, ra, hC, hM⟩ := hS.txt z
    obtain ⟨b0, b1, b2⟩ := hS.2.1
    obtain ⟨c0, c1, c2⟩ := hS.1
    have h64 := hC.2.1
    have hn := hC.2.2.1
    have t0 := hM.1
    refine S_X10_mirror_0 ⟨by omega, C_known hS z (by omega) (by omega) (S_X10_mirror_5 hC.1 ⟨by omega, C_freshText hS (by omega) (by omega) (fun hM8 => ?_) (fun hM8 => PX.bad 1 hS (NK.rf h) rfl fun kc ks Q X hS' k => S_X11_mirror_0 (M_isText1 hS z (S_X11_mirror_6 ⟨fun _ => ⟨fun v => absurd v (by omega), fun _ => M_isWrong fun h2 m2 y2 => S_X11_mirror_30 ⟨fun v => absurd v (by decide), fun _ => k 0 h2 m2 y2⟩⟩, fun v => absurd v (by decide)⟩)))⟩)⟩
    have f0 : isT (ta (h 0 9)) := ta_isT c0 (by omega)
    have ha : 32 ≤ ta (h 0 9) ∧ ta (h 0 9) ≤ 67 := by unfold ta; omega
    have hat := ta_lt z.1 z.2
    have h40 := hS.2.2.2.2 (h 0 9) (Int.le_refl _) hM8
    obtain ⟨-, -, -, es, -, -, ws, -, -⟩ := id hC
    have hw : WS (fun k => s (n - 1 - k)) (n : Int) := fun k k0 k1 => ws (n - 1 - k) (by omega) (by omega)
    refine S_X10_mirror_10 hC.1 f0 (S_X6_addTurnedRound_0 f0 hC.1 ⟨by omega, ?_⟩)
    rw [hn]
    refine C_atr_1 (n := n) (s := s) f0 hC.1 (by omega) h64 h (fun k k0 k1 => by rw [es]; have := ws k k0 k1; omega) (fun h2 f2 z3 z4 => S_X10_mirror_16 f0 (C_keep (n := n) (w := fun k => s (n - 1 - k)) f0 z3 (by omega) hw z4 (by rw [f2 0 (by omega) (by omega)]; omega) (fun hc f3 g09 hNT => S_X10_mirror_21 ?_))) n ((n : Int) - 1) h (by omega) (by omega) (fun _ _ _ => rfl) (by omega) (fun k k0 k1 => by omega)
    have e09 : h2 0 9 = h 0 9 := by rw [f2 0 (by omega) (by omega)]
    rw [e09]
    rw [e09] at g09
    refine GM.raw fun kc ks Q X k => ?_
    obtain ⟨g, hg⟩ : ∃ g : Hh, g = am_st hc 81 0 (h 0 9) := ⟨_, rfl⟩
    rw [← hg]
    have g81 : g 81 = am_st hc 81 0 (h 0 9) 81 := by rw [hg]
    rw [← g81] at k
    have gc : ∀ d, d ≠ 81 → g d = hc d := fun d hd => by rw [hg, am_st_o hd]
    have fc' : ∀ d, d ≠ 0 → d ≠ 6 → d ≠ 7 → d ≠ 8 → (d < ta (h 0 9) ∨ ta (h 0 9) + 4 < d) → hc d = h d := fun d d0 d6 d7 d8 dr => by rw [f3 d d0 d6 d7 d8 (by omega) (by omega) (by omega), f2 d (by omega) (by omega)]
    have fc : ∀ d, d ≠ 0 → d ≠ 2 → d ≠ 6 → d ≠ 7 → d ≠ 8 → d ≠ 10 → d ≠ 11 → d ≠ 12 → d ≠ 13 → (d < ta (h 0 9) ∨ ta (h 0 9) + 4 < d) → hc d = h d := fun d d0 d2 d6 d7 d8 _ _ _ _ dr => fc' d d0 d6 d7 d8 dr
    have gh : ∀ d, d ≠ 81 → 72 ≤ d → g d = h d := fun d d1 d2 => by rw [gc d d1, fc' d (by omega) (by omega) (by omega) (by omega) (by omega)]
    have q72 := gh 72 (by decide) (by decide)
    have hc2 : hc 2 1 = h 2 1 := by rw [fc' 2 (by decide) (by decide) (by decide) (by decide) (by omega)]
    have hTg : MT g t n s := hM.of (gh 73 (by decide) (by decide)) (gh 74 (by decide) (by decide))
    have g9 : g 72 9 = h 2 1 := by rw [q72]; exact b2
    have g8 : g 72 8 = h 0 9 := by rw [q72]; exact c2
    have gtx : ∀ v, isTx h v → 0 ≤ v ∧ v < g 72 8 := fun v zv => by rw [q72]; exact hS.tx8.mpr zv
    have g8b : 0 ≤ g 72 8 ∧ g 72 8 ≤ 8 := by omega
    have fin : am_V M_X11_mirror kc ks 30 [aR 72, aI t, aU] [aI (if (0 : Int) = 0 then 0 else 1)] am_R0 (am_st g 72 10 0) Q X := by
      refine S_X11_mirror_30 ⟨fun _ => M_mir_1 (M := h 0 9) g c0 hM8 hTg z.2 (fun h2 hR => k h2 hR.2.2.2.1 (hR.1 81 (by decide) (by decide) (by decide) (by decide) (by decide)) (SIM.made hS rfl hM8 fc g09 (by rw [hc2, g9]) (by omega) (by omega) hNT gc hR)) n 0 _ (by omega) (fun d d1 d2 => am_st_o d1) (by rw [am_st_n (Or.inr (by decide))]; exact g8) (am_st_n (Or.inr (by decide))) am_st_s (fun j hj => by rw [am_st_o (by decide)]) (fun i i0 i1 => by omega), fun w => absurd rfl w⟩
    exact S_X11_mirror_0 (L_isText g8b (fun _ => S_X11_mirror_6 ⟨fun _ => ⟨fun _ => L_isWrong fin, fun v => absurd v (by omega)⟩, fun v => absurd v (by decide)⟩) (fun v => absurd (gtx t z) v))
  · exact S_X10_mirror_0 ⟨by omega, C_known0 hS z (by omega) (by omega) (PX.bad 0 hS (NK.rf h) rfl fun kc ks Q X hS' k => S_X11_mirror_0 (M_isText0 hS z (S_X11_mirror_6 ⟨fun v => absurd rfl v, fun _ => M_isWrong fun h2 m2 y2 => S_X11_mirror_30 ⟨fun v => absurd v (by decide), fun _ => k 0 h2 m2 y2⟩⟩)))⟩
