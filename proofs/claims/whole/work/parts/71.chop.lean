/-! chop -/
theorem M_ch_2 {kc ks : Nat} {h : Hh} {Q : PQ} {X : PX} {t : Int} {n : Nat} {x y : Int → Int} (hT : MT h t n y) (h78 : ∀ p, 0 ≤ p → p < (n : Int) + 1 → h 78 p = (rk x ((n + 1 : Nat) : Int) p : Int)) (hn64 : n < 64) (hQ : Q [aI (cnt (fun p => (rk y n p : Int) ≠ rk x ((n + 1 : Nat) : Int) (p + 1)) n)] am_R0 h) : ∀ (d i : Nat), i + d = n → am_V M_X11_chop kc ks 96 [aR 72, aI t, aI (cnt (fun p => (rk y n p : Int) ≠ rk x ((n + 1 : Nat) : Int) (p + 1)) i), aI i] [] am_R0 h Q X := by
  have hn := hT.2.2.1
  intro d
  induction d with
  | zero =>
    intro i hi
    have : i = n := by omega
    subst this
    exact S_X11_chop_96 ⟨hT.1, fun _ => hQ, fun z => absurd z (by omega)⟩
  | succ d ih =>
    intro i hi
    have hle := cnt_le (fun p => (rk y n p : Int) ≠ rk x ((n + 1 : Nat) : Int) (p + 1)) i
    have hnext := ih (i + 1) (by omega)
    have e := h78 ((i : Int) + 1) (by omega) (by omega)
    refine S_X11_chop_96 ⟨hT.1, fun z => absurd z (by omega), fun _ => M_rank hT (by omega) (by omega) (S_X11_chop_113 ?_)⟩
    rw [e]
    refine ⟨by omega, fun z => ⟨by omega, ?_⟩, fun z => ⟨by omega, ?_⟩⟩
    · rw [cnt_t (P := fun p => (rk y n p : Int) ≠ rk x ((n + 1 : Nat) : Int) (p + 1)) z] at hnext
      exact hnext
    · rw [cnt_f (P := fun p => (rk y n p : Int) ≠ rk x ((n + 1 : Nat) : Int) (p + 1)) (fun w => w z)] at hnext
      rw [Int.add_zero]
      exact hnext
theorem M_ch_1 {kc ks : Nat} {Q : PQ} {X : PX} {t : Int} {n : Nat} {s : Int → Int} (g : Hh) (ht : 0 ≤ t ∧ t < 9) (hn64 : n < 64) (hs : WS s ((n + 1 : Nat) : Int)) (g74 : g 74 t = n) (hms : ∀ k, 0 ≤ k → k < (n : Int) + 1 → ms g t k = s k) (g78 : ∀ p, 0 ≤ p → p < (n : Int) + 1 → g 78 p = (rk s ((n + 1 : Nat) : Int) p : Int)) (hQ : ∀ h, (∀ d, d ≠ 73 → h d = g d) → (∀ i, (i < 64 * t ∨ 64 * t + 64 ≤ i) → h 73 i = g 73 i) → MT h t n (fun i => s (i + 1)) → Q [aI (cnt (fun p => (rk (fun i => s (i + 1)) n p : Int) ≠ rk s ((n + 1 : Nat) : Int) (p + 1)) n)] am_R0 h) : ∀ (d i : Nat) (h : Hh), i + d = n → (∀ d, d ≠ 73 → h d = g d) → (∀ j, (j < 64 * t ∨ 64 * t + 64 ≤ j) → h 73 j = g 73 j) → (∀ k, 0 ≤ k → k < (i : Int) → ms h t k = s (k + 1)) → (∀ k, (i : Int) ≤ k → k < (n : Int) + 1 → ms h t k = s k) → am_V M_X11_chop kc ks 52 [aR 72, aI t, aI i, aU] [] am_R0 h Q X := by
  have hs2 : WS (fun i => s (i + 1)) n := fun k k0 k1 => hs (k + 1) (by omega) (by omega)
  intro d
  induction d with
  | zero =>
    intro i h hi hf hout hlo hhi
    have : i = n := by omega
    subst this
    have e74 : h 74 t = i := by rw [hf 74 (by decide)]; exact g74
    have hT : MT h t i (fun i => s (i + 1)) := ⟨ht, by omega, e74, hs2, hlo⟩
    exact S_X11_chop_52 ⟨ht, fun _ => M_ch_2 hT (fun p p0 p1 => by rw [hf 78 (by decide)]; exact g78 p p0 p1) hn64 (hQ h hf hout hT) i 0 (by omega), fun z => absurd z (by omega)⟩
  | succ d ih =>
    intro i h hi hf hout hlo hhi
    have e74 : h 74 t = n := by rw [hf 74 (by decide)]; exact g74
    have e := hhi ((i : Int) + 1) (by omega) (by omega)
    have sg := hs ((i : Int) + 1) (by omega) (by omega)
    unfold ms at e
    refine S_X11_chop_52 ⟨ht, fun z => absurd z (by omega), fun _ => ?_⟩
    rw [show 64 * t + (i : Int) + 1 = 64 * t + ((i : Int) + 1) by omega, e, Int.emod_eq_of_lt (by omega) (by omega)]
    refine ⟨by omega, ih (i + 1) _ (by omega) (fun d d1 => by rw [am_st_o d1]; exact hf d d1) (fun j hj => by rw [am_st_n (Or.inr (by omega))]; exact hout j hj) (fun k k0 k1 => ?_) (fun k k0 k1 => ?_)⟩
    · unfold ms
      rw [am_st_i]
      by_cases y : k = i
      · rw [if_pos (by omega), y]
      · rw [if_neg (by omega)]
        exact hlo k k0 (by omega)
    · unfold ms
      rw [am_st_n (Or.inr (by omega))]
      exact hhi k (by omega) k1
theorem T_chop {kc ks : Nat} {h : Hh} {t : Int} (hS : SIM h) (hkc : 2 ≤ kc) (hks : 12 ≤ ks) : am_V M_X10_chop kc ks 0 [aR 0, aI t, aU, aU] [] am_R0 h (PQok M_X11_chop [aR 72, aI t, aU, aU] aI) (PXok M_X11_chop [aR 72, aI t, aU, aU] aI [xIO, xNS]) := by
  refine S_X10_chop_0 ⟨by omega, C_knownNotEmpty hS (by omega) (by omega) (fun z => ?_) (fun z => PX.bad 0 hS (NK.rf h) rfl fun kc ks Q X hS' k => S_X11_chop_0 (M_isText0 hS z (S_X11_chop_6 ⟨fun v => absurd rfl v, fun _ => M_isWrong fun h2 m2 y2 => S_X11_chop_30 ⟨fun v => absurd v (by decide), fun _ => k 0 h2 m2 y2⟩⟩))) (fun z w => PX.bad 1 hS (NK.rf h) rfl fun kc ks Q X hS' k => ?_)⟩
  · obtain ⟨N, s, pl, ra, hC, hM, n0⟩ := z.get hS
    obtain ⟨n, rfl⟩ : ∃ n : Nat, N = n + 1 := ⟨N - 1, by omega⟩
    obtain ⟨t0, n64, hn, es, e2, e3, hs, hSA, hcm⟩ := id hC
    have tt := hM.1
    have hz2 := z.1.2
    have c8 := hS.1.2.1
    have ha : 32 ≤ ta t ∧ ta t ≤ 67 := by unfold ta; omega
    have e74 := hM.2.2.1
    have b0 := rk_bd (s := s) (n := ((n + 1 : Nat) : Int)) (p := 0) (by omega) (by omega)
    have hmv := mvd (x := s) (y := fun i => s (i + 1)) (n := n) hs (fun i i0 i1 => rfl) hSA
    have hs2 : WS (fun i => s (i + 1)) n := fun k k0 k1 => hs (k + 1) (by omega) (by omega)
    refine S_X10_chop_5 t0 (S_X6_endsAboveWhole_0 t0 ?_)
    rw [hn, e3, (hSA 0 (by omega) (by omega)).1, show ((n + 1 : Nat) : Int) - 1 - rk s ((n + 1 : Nat) : Int) 0 = cnt (fun p => (rk (fun i => s (i + 1)) n p : Int) ≠ rk s ((n + 1 : Nat) : Int) (p + 1)) n by omega]
    refine ⟨by omega, S_X10_chop_10 t0 (S_X6_dropFirst_0 t0 (C_df_1 t0 n64 (by omega) hs h hn (fun h1 f1 z1 z2 => S_X10_chop_15 t0 (C_resort (n := n) (w := fun i => s (i + 1)) t0 (by rw [z1]; omega) (by omega) hs2 (fun k k0 k1 => z2 k k0 (by omega)) (fun hc f2 hNT => S_X10_chop_23 ?_))) n 1 h (by omega) (Int.le_refl 1) (fun _ _ => rfl) (fun k k0 k1 => by omega) (fun k k0 k1 => by rw [es])))⟩
    refine GM.raw fun kc ks Q X k => ?_
    obtain ⟨v, hv⟩ : ∃ v : Int, v = cnt (fun p => (rk (fun i => s (i + 1)) n p : Int) ≠ rk s ((n + 1 : Nat) : Int) (p + 1)) n := ⟨_, rfl⟩
    rw [← hv] at k ⊢
    obtain ⟨g, hg⟩ : ∃ g : Hh, g = am_st hc 81 0 v := ⟨_, rfl⟩
    rw [← hg]
    have g81 : g 81 = am_st hc 81 0 v 81 := by rw [hg]
    rw [← g81] at k
    have gc : ∀ d, d ≠ 81 → g d = hc d := fun d hd => by rw [hg, am_st_o hd]
    have gh : ∀ d, d ≠ 81 → d ≠ 6 → d ≠ 7 → d ≠ 8 → (d < ta t ∨ ta t + 4 < d) → g d = h d := fun d d1 d2 d3 d4 d5 => by rw [gc d d1, f2 d d2 d3 d4 (by omega) (by omega) (by omega), f1 d (by omega) (by omega)]
    have q : ∀ d, d ≠ 81 → 72 ≤ d → g d = h d := fun d d1 d2 => gh d d1 (by omega) (by omega) (by omega) (by omega)
    have hTg : MT g t (n + 1) s := hM.of (q 73 (by decide) (by decide)) (q 74 (by decide) (by decide))
    have g8b : 0 ≤ g 72 8 ∧ g 72 8 ≤ 8 := by rw [q 72 (by decide) (by decide)]; exact hS.m8
    have gtx : 0 ≤ t ∧ t < g 72 8 := by rw [q 72 (by decide) (by decide)]; exact hS.tx8.mpr z.1
    have g74 := hTg.2.2.1
    have hTg2 : MT (am_st g 72 10 0) t (n + 1) s := hTg.of (am_st_o (by decide)) (am_st_o (by decide))
    have fin : am_V M_X11_chop kc ks 30 [aR 72, aI t, aU, aU] [aI (if (0 : Int) = 0 then 0 else 1)] am_R0 (am_st g 72 10 0) Q X := by
      refine S_X11_chop_30 ⟨fun _ => M_keepRanks hTg2 (fun h3 f3 h78 => S_X11_chop_40 ?_), fun v => absurd rfl v⟩
      have hT3 : MT h3 t (n + 1) s := hTg2.of (f3 73 (by decide)) (f3 74 (by decide))
      rw [hT3.2.2.1, show ((n + 1 : Nat) : Int) - 1 = n by omega]
      refine ⟨by omega, M_ch_1 (am_st h3 74 t n) tt (by omega) hs am_st_s (fun k k0 k1 => by unfold ms; rw [am_st_o (by decide)]; exact hT3.2.2.2.2 k k0 (by omega)) (fun p p0 p1 => by rw [am_st_o (by decide)]; exact h78 p p0 (by omega)) (fun h4 f4 f73 hT4 => ?_) n 0 _ (by omega) (fun _ _ => rfl) (fun _ _ => rfl) (fun i i0 i1 => by omega) (fun k k0 k1 => by unfold ms; rw [am_st_o (by decide)]; exact hT3.2.2.2.2 k (by omega) (by omega))⟩
      rw [← hv]
      refine k h4 ?_ ?_ ?_
      · rw [f4 72 (by decide), am_st_o (by decide), f3 72 (by decide), am_st_s]
      · rw [f4 81 (by decide), am_st_o (by decide), f3 81 (by decide), am_st_o (by decide)]
      · have r : ∀ d, d ≠ 72 → d ≠ 73 → d ≠ 74 → d ≠ 78 → h4 d = g d := fun d d1 d2 d3 d4 => by rw [f4 d d2, am_st_o d3, f3 d d4, am_st_o d1]
        refine hS.mod z.1 (n := n) (w := fun i => s (i + 1)) (fun d hd => by rw [r d (by omega) (by omega) (by omega) (by omega), gh d (by omega) (by omega) (by omega) (by omega) (by omega)]) ?_ ?_ (fun u hu => ?_) (fun i hi => ?_) (hNT.of fun j hj => by rw [r _ (by omega) (by omega) (by omega) (by omega), gc _ (by omega)]) hT4.2.2.1 (fun i i0 i1 => hT4.2.2.2.2 i i0 i1)
        · rw [f4 72 (by decide), am_st_o (by decide), f3 72 (by decide), am_st_n (Or.inr (by decide)), q 72 (by decide) (by decide)]
        · rw [f4 72 (by decide), am_st_o (by decide), f3 72 (by decide), am_st_n (Or.inr (by decide)), q 72 (by decide) (by decide)]
        · rw [f4 74 (by decide), am_st_n (Or.inr hu), f3 74 (by decide), am_st_o (by decide), q 74 (by decide) (by decide)]
        · rw [f73 i hi, am_st_o (by decide), f3 73 (by decide), am_st_o (by decide), q 73 (by decide) (by decide)]
    exact S_X11_chop_0 (L_isText g8b (fun _ => S_X11_chop_6 ⟨fun _ => ⟨tt, fun _ => L_isWrong fin, fun v => absurd v (by omega)⟩, fun v => absurd v (by decide)⟩) (fun v => absurd gtx v))
  · obtain ⟨n, s, pl, ra, hC, hM⟩ := hS.txt z
    exact S_X11_chop_0 (M_isText1 hS z (S_X11_chop_6 ⟨fun _ => ⟨hM.1, fun v => absurd ⟨z, v⟩ w, fun _ => M_isWrong fun h2 m2 y2 => S_X11_chop_30 ⟨fun v => absurd v (by decide), fun _ => k 0 h2 m2 y2⟩⟩, fun v => absurd v (by decide)⟩))
