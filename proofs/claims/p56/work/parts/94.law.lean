/-! THE LAW, from its end to its beginning -/
section
variable {WM : List (Nat × Nat)} {Q : PQ} {X : PX} {n : Nat} {s pl ra : Int → Int}
theorem law519 {kc ks : Nat} {h : Hh} (hS : SIM h) (hQ : ∀ ρ h, Q [aI 1] ρ h) : am_V M_L_law kc ks 519 [aU, aR 0, aU, aU, aU, aU, aU, aU, aU, aU, aU, aU, aU, aU, aU, aU] [] (RM WM false) h Q X := by
  obtain ⟨v, hv⟩ := W_checksum (WM := WM) (wd := false) hS
  exact S_law_519 (hv (S_law_523 (hv (S_law_527 ⟨fun w => absurd (cmp0 _) w, fun _ => W_isSound hS fun h' _ => S_law_535 ⟨fun w => absurd (cmp0 _) w, fun _ => S_law_545 (hQ _ _)⟩⟩))))
/-- a sign that is put ahead and taken away moves as many ends -/
theorem law489 {kc ks : Nat} {h : Hh} {a b M : Int} (hL : LAW h M n s pl ra) (hab : a = b) (hQ : ∀ ρ h, Q [aI 1] ρ h) (hkc : 10 ≤ kc) (hks : 60 ≤ ks) : am_V M_L_law kc ks 489 [aU, aR 0, aU, aI n, aU, aU, aU, aU, aU, aU, aU, aU, aU, aU, aU, aU] [aL a, aL b] (RM WM false) h Q X := by
  have n63 := hL.2.2.2.1
  refine S_law_489 ⟨fun _ => ⟨fun w => absurd w (by omega), fun _ => ⟨⟨by omega, by omega⟩, W_ahead hL.1 hL.tx hL.ct ⟨by decide, by decide⟩ (by omega) (Nat.le_refl _) (Nat.le_refl _) (fun h2 hS2 f2 hN2 => ?_)⟩⟩, fun w => absurd (cmp_eq hab) w⟩
  have hN2' : NT h2 32 (n + 1) (cns 98 s) := hN2
  have hC2 := hN2'.ct ⟨0, by decide, rfl⟩
  have e0 : h2 0 = h 0 := f2 0 (by decide) (by decide) (by decide) (Or.inl (by decide))
  have tx2 : isTx h2 0 := by
    have := hL.tx
    exact ⟨this.1, by rw [e0]; exact this.2⟩
  refine S_law_508 ⟨⟨by omega, by omega⟩, W_chop hS2 tx2 hC2 (Nat.le_refl _) (Nat.le_refl _) (fun h3 hS3 f3 hN3 => ?_)⟩
  refine S_law_513 ⟨fun _ => law519 hS3 hQ, fun w => absurd (cmp_eq ?_) w⟩
  rw [rk_congr (s := h2 (32 + 1)) (s' := cns 98 s) (fun i i0 i1 => hN2'.2.2.2.1 i i0 i1) (Int.le_refl 0)]
/-- the text turned round -/
theorem law422 {kc ks : Nat} {h : Hh} (hL : LAW h 2 n s pl ra) (hQ : ∀ ρ h, Q [aI 1] ρ h) (hkc : 100 ≤ kc) (hks : 600 ≤ ks) : am_V M_L_law kc ks 422 [aU, aR 0, aU, aI n, aU, aU, aU, aU, aU, aU, aU, aU, aU, aU, aU, aU] [] (RM WM false) h Q X := by
  have e0 : h 0 9 = 2 := hL.2.1
  have n63 := hL.2.2.2.1
  refine S_law_422 ⟨⟨by omega, by omega⟩, W_mirror hL.1 hL.tx hL.ct (by rw [e0]; decide) (Nat.le_refl _) (Nat.le_refl _) (fun h1 hS1 g09 gu gt hN => ?_)⟩
  rw [e0] at g09 gt hN ⊢
  have hN' : NT h1 42 n (fun k => s (n - 1 - k)) := hN
  have hL1 : LAW h1 3 n s pl ra := ⟨hS1, g09, by decide, n63, hL.2.2.2.2.1.keep (fun j hj => gt _ (by omega) (by omega) (by show 32 + j < 42 ∨ _; omega)), fun k k0 k1 => by rw [gu 72 (by decide)]; exact hL.2.2.2.2.2 k k0 k1⟩
  have hC1 := hN'.ct ⟨2, by decide, rfl⟩
  have hr : RVT s (h1 (42 + 1)) n := fun k k0 k1 => hN'.2.2.2.1 k k0 k1
  have z2 : isTx h1 2 := ⟨by decide, by rw [g09]; decide⟩
  have hs := hL.ct.2.2.2.2.2.2.1
  have hSA := hL.ct.2.2.2.2.2.2.2.1
  have hs1 := hC1.2.2.2.2.2.2.1
  have hSA1 := hC1.2.2.2.2.2.2.2.1
  have sq : ∀ kc ks : Nat, 20 ≤ kc → 120 ≤ ks → am_V M_L_squares 1 6 0 [aR 0, aI 2, aU] [] (RM WM false) h1 (fun v ρ' h' => am_V M_L_law (kc - 1) (ks - 6) 484 [aU, aR 0, aU, aI n, aU, aU, aU, aU, aU, aU, aU, aU, aU, aU, aU, aU] (v ++ []) ρ' h' Q X) X := fun kc ks hkc hks =>
    W_squares hS1 z2 hC1 (Nat.le_refl _) (Nat.le_refl _) fun m hm hm2 => S_law_484 ⟨⟨by omega, by omega⟩, W_squares hS1 hL1.tx hL1.ct (Nat.le_refl _) (Nat.le_refl _) fun m' hm' hm2' => law489 hL1 (sm_sqs_rev hr (by omega) hm' hm hm2' hm2).symm hQ (by omega) (by omega)⟩
  refine S_law_427 ⟨⟨by omega, by omega, by omega⟩, W_words hS1 z2 hC1 (Nat.le_refl _) (Nat.le_refl _) ?_⟩
  refine S_law_436 ⟨⟨by omega, by omega⟩, W_words hS1 hL1.tx hL1.ct (Nat.le_refl _) (Nat.le_refl _) ?_⟩
  refine S_law_441 ⟨fun w => absurd (cmp_eq (words_rev hs hSA hs1 hSA1 hr).symm) w, fun _ => ⟨⟨by omega, by omega, by omega⟩, W_twice hS1 z2 hC1 (Nat.le_refl _) (Nat.le_refl _) ?_⟩⟩
  refine S_law_452 ⟨⟨by omega, by omega⟩, W_twice hS1 hL1.tx hL1.ct (Nat.le_refl _) (Nat.le_refl _) ?_⟩
  refine S_law_457 ⟨fun w => absurd (cmp_eq (mx_rev hs hSA hs1 hSA1 hr).symm) w, fun _ => ⟨⟨by omega, by omega, by omega⟩, W_period hS1 z2 hC1 (Nat.le_refl _) (Nat.le_refl _) (fun n0 => ?_) (fun n1 y' hy' => ?_)⟩⟩
  · refine S_law_468 ⟨⟨by omega, by omega⟩, W_period hS1 hL1.tx hL1.ct (Nat.le_refl _) (Nat.le_refl _) (fun _ => ?_) (fun n1 => absurd n0 n1)⟩
    exact S_law_473 ⟨fun w => absurd (cmp0 _) w, fun _ => ⟨⟨by omega, by omega, by omega⟩, sq _ _ (by omega) (by omega)⟩⟩
  · refine S_law_468 ⟨⟨by omega, by omega⟩, W_period hS1 hL1.tx hL1.ct (Nat.le_refl _) (Nat.le_refl _) (fun n0 => absurd n0 n1) (fun _ y hy => ?_)⟩
    exact S_law_473 ⟨fun w => absurd (cmp_eq (hy.uniq (PD_rev hr hy'))) w, fun _ => ⟨⟨by omega, by omega, by omega⟩, sq _ _ (by omega) (by omega)⟩⟩
/-- three of its words -/
theorem law356 (hQ : ∀ ρ h, Q [aI 1] ρ h) : ∀ (d k kc ks : Nat) (h : Hh), k + d = 3 → 2001 * d + 200 ≤ kc → 12010 * d + 1200 ≤ ks → LAW h 2 n s pl ra → am_V M_L_law kc ks 356 [aR 1000, aR 0, aR 72, aI n, aU, aU, aU, aU, aU, aU, aU, aU, aU, aU, aI k, aU] [] (RM [(1, n), (0, 128), (0, n + 1)] false) h Q X := by
  intro d
  induction d with
  | zero =>
    intro k kc ks h hk hkc hks hL
    exact S_law_356 rfl ⟨fun _ => law422 hL hQ (by omega) (by omega), fun w => absurd w (by omega)⟩
  | succ d ih =>
    intro k kc ks h hk hkc hks hL
    have n63 := hL.2.2.2.1
    refine S_law_356 rfl ⟨fun w => absurd w (by omega), fun _ => ⟨fun _ => law422 hL hQ (by omega) (by omega), fun n0 => ⟨⟨by omega, by omega⟩, L_cell (by omega) fun z1 _ => S_law_377 rfl (L_chosen n0 fun v v0 v1 => S_law_381 rfl ⟨⟨by omega, by omega⟩, L_cell (by omega) fun z2 _ => S_law_400 rfl rfl ⟨by omega, L_chosen (by omega) fun u u0 u1 => S_law_407 rfl rfl ⟨⟨by omega, by omega, by omega⟩, ?_⟩⟩⟩)⟩⟩⟩
    obtain ⟨f, rfl⟩ : ∃ f : Nat, v = f := ⟨v.toNat, by omega⟩
    obtain ⟨m, hm⟩ : ∃ m : Nat, 1 + u = m := ⟨(1 + u).toNat, by omega⟩
    rw [hm]
    exact L_isRun hL (by omega) (by omega) (Nat.le_refl _) (Nat.le_refl _) (fun h' hL' => S_law_411 rfl ⟨fun _ => ⟨by omega, ih (k + 1) _ _ h' (by omega) (by omega) (by omega) hL'⟩, fun w => absurd w (by decide)⟩)
/-- the rounds -/
theorem law297 {h : Hh} (hQ : ∀ ρ h, Q [aI 1] ρ h) (hL : LAW h 2 n s pl ra) (n0 : n ≠ 0) : ∀ (d j kc ks : Nat), j + d = 7 → 2 * d + 7000 ≤ kc → 12 * d + 42000 ≤ ks → (∀ i : Nat, i < j → ((2 ^ i : Nat) : Int) ≤ mx (fun r => (cmv s n pl r : Int)) n) → am_V M_L_law kc ks 297 [aR 1000, aR 0, aR 72, aI n, aU, aU, aU, aU, aU, aU, aU, aU, aI ((2 ^ j : Nat) : Int), aI j, aI 0, aU] [] (RM [(1, n), (0, 128), (0, n + 1)] false) h Q X := by
  have n63 := hL.2.2.2.1
  have hs := hL.ct.2.2.2.2.2.2.1
  have hSA := hL.ct.2.2.2.2.2.2.2.1
  have hg := mxc_lt hs hSA
  intro d
  induction d with
  | zero =>
    intro j kc ks hj hkc hks hi
    have := hi 6 (by omega)
    have e : (2 ^ 6 : Nat) = 64 := by decide
    rw [e] at this
    omega
  | succ d ih =>
    intro j kc ks hj hkc hks hi
    have h64 : 2 ^ j ≤ 64 := by
      have h6 : 2 ^ j ≤ 2 ^ 6 := Nat.pow_le_pow_right (by decide) (show j ≤ 6 by omega)
      exact Nat.le_trans h6 (by decide)
    have h1 : 1 ≤ 2 ^ j := Nat.one_le_two_pow
    have hU := Uc_lt (s := s) (pl := pl) (n := n) (k := 2 ^ j) (by omega)
    have hUn : Uc s n pl (2 ^ j) n ≤ n := cnt_le _ n
    have e2 : 2 ^ (j + 1) = 2 ^ j * 2 := Nat.pow_succ ..
    refine S_law_297 rfl ⟨fun w => absurd rfl w, fun _ => ⟨⟨by omega, by omega⟩, ?_⟩⟩
    rw [show min 64 ((2 ^ j : Nat) : Int) = ((2 ^ j : Nat) : Int) by omega]
    refine W_classes hL.1 hL.tx hL.ct h1 h64 (Nat.le_refl _) (Nat.le_refl _) ?_
    by_cases y : Uc s n pl (2 ^ j) n < n
    · refine S_law_314 rfl ⟨fun _ => S_law_325 rfl ⟨⟨by omega, by omega⟩, ?_⟩, fun w => absurd (w.symm.trans (cmp_gt (by omega))) (by decide)⟩
      rw [show ((2 ^ j : Nat) : Int) * 2 = ((2 ^ (j + 1) : Nat) : Int) by omega]
      refine ih (j + 1) _ _ (by omega) (by omega) (by omega) (fun i hij => ?_)
      by_cases e : i = j
      · rw [e]; exact hU.mp y
      · exact hi i (by omega)
    · have hgj : mx (fun r => (cmv s n pl r : Int)) n < ((2 ^ j : Nat) : Int) := by
        apply Int.not_le.mp
        intro z
        exact y (hU.mpr z)
      have hr := rdc_to hi hgj 7 0 (Nat.zero_le _) (by omega)
      refine S_law_314 rfl ⟨fun w => absurd (cmp_eq (by omega)) w, fun _ => S_law_325 rfl ⟨⟨by omega, by omega⟩, S_law_297 rfl ⟨fun _ => ⟨⟨by omega, by omega⟩, W_rounds hL.1 hL.tx hL.ct (Nat.le_refl _) (Nat.le_refl _) (fun z => absurd z n0) (fun _ => ?_)⟩, fun w => absurd w (by decide)⟩⟩⟩
      rw [hr]
      exact S_law_344 rfl ⟨fun _ => law356 hQ 3 0 _ _ h (by omega) (by omega) (by omega) hL, fun w => absurd (cmp_eq (by omega)) w⟩
/-- the parts, the pieces -/
theorem law199 {N : Nat} {h : Hh} (hQ : ∀ ρ h, Q [aI 1] ρ h) (hL : LAW h 2 n s pl ra) (hN : CUT (psz s n) n N) : ∀ (d p i kc ks : Nat) (lr : Int), p + d = n → 6 * d + 8000 ≤ kc → 36 * d + 48000 ≤ ks → JJ s n N i p lr → am_V M_L_law kc ks 199 [aR 1000, aR 0, aR 72, aI n, aU, aU, aU, aU, aU, aI i, aL lr, aU, aI p, aU, aU, aU] [] (RM [(1, n), (0, 128), (0, n + 1)] false) h Q X := by
  have n63 := hL.2.2.2.1
  have hs := hL.ct.2.2.2.2.2.2.1
  have hSA := hL.ct.2.2.2.2.2.2.2.1
  have hNn := hN.le (psz_SZ s n)
  intro d
  induction d with
  | zero =>
    intro p i kc ks lr hp hkc hks hJ
    have : p = n := by omega
    subst this
    obtain ⟨K, hK⟩ := CUT.ex (qsz_SZ s p)
    refine S_law_199 rfl ⟨fun _ => ⟨⟨by omega, by omega⟩, W_parts hL.1 hL.tx hL.ct hN (Nat.le_refl _) (Nat.le_refl _) ?_⟩, fun w => absurd w (by omega)⟩
    refine S_law_257 rfl ⟨fun w => absurd (cmp_eq (by rw [hJ.end hN])) w, fun _ => ⟨⟨by omega, by omega⟩, W_pieces hL.1 hL.tx hL.ct hK (Nat.le_refl _) (Nat.le_refl _) ?_⟩⟩
    refine S_law_269 rfl ⟨⟨by omega, by omega⟩, W_fewest hL.1 hL.tx hL.ct (Nat.le_refl _) (Nat.le_refl _) (fun h1 f1 hR => ?_)⟩
    have e := REC.cut (qsz_SZ s p) (fun q q0 q1 => qsz_mono hs q0 q1) hR hK
    have hL1 : LAW h1 2 p s pl ra := hL.keep (hL.1.keep fun d hd => f1 d (by omega)) (by rw [f1 0 (by decide)]) (fun d d0 d1 => f1 d (by omega)) (f1 72 (by decide))
    refine S_law_274 rfl ⟨fun _ => ⟨fun n0 => S_law_295 rfl ?_, fun n0 => S_law_295 rfl ?_⟩, fun w => absurd (cmp_eq e) w⟩
    · exact law297 hQ hL1 (by omega) 7 0 _ _ (by omega) (by omega) (by omega) (fun i hi => absurd hi (Nat.not_lt_zero i))
    · refine S_law_297 rfl ⟨fun _ => ⟨⟨by omega, by omega⟩, W_rounds hL1.1 hL1.tx hL1.ct (Nat.le_refl _) (Nat.le_refl _) (fun _ => ?_) (fun z => absurd z (by omega))⟩, fun w => absurd w (by decide)⟩
      exact S_law_344 rfl ⟨fun _ => law356 hQ 3 0 _ _ h1 (by omega) (by omega) (by omega) hL1, fun w => absurd (cmp0 _) w⟩
  | succ d ih =>
    intro p i kc ks lr hp hkc hks hJ
    obtain ⟨j1, j2, j3⟩ := hJ.at hs hN (by omega) (by omega)
    have hiN := hJ.1
    refine S_law_199 rfl ⟨fun w => absurd w (by omega), fun _ => ⟨⟨by omega, by omega⟩, W_rankOf hL.1 hL.tx hL.ct (by omega) (by omega) (Nat.le_refl _) (Nat.le_refl _) ?_⟩⟩
    refine S_law_212 rfl ⟨fun y => S_law_246 rfl ⟨by omega, ?_⟩, fun y => ?_⟩
    · have y := cmp_nneg.mp y
      exact ih (p + 1) i _ _ lr (by omega) (by omega) (by omega) (j3 fun e => by have := j1.mpr e; omega)
    · have y := j1.mp (cmp_neg.mp y)
      obtain ⟨k1, k2⟩ := j2 y
      refine ⟨⟨by omega, by omega⟩, W_partAt hL.1 hL.tx hL.ct hN k1 (Nat.le_refl _) (Nat.le_refl _) ?_⟩
      refine S_law_225 rfl ⟨fun _ => ⟨⟨by omega, by omega⟩, W_rankOf hL.1 hL.tx hL.ct (by omega) (by omega) (Nat.le_refl _) (Nat.le_refl _) ?_⟩, fun w => absurd (cmp_eq y) w⟩
      exact S_law_241 rfl ⟨by omega, S_law_246 rfl ⟨by omega, ih (p + 1) (i + 1) _ _ _ (by omega) (by omega) (by omega) k2⟩⟩
/-- words, the longest that stands twice -/
theorem law128 {kc ks : Nat} {h : Hh} (hQ : ∀ ρ h, Q [aI 1] ρ h) (hL : LAW h 2 n s pl ra) (hkc : 10000 ≤ kc) (hks : 60000 ≤ ks) : am_V M_L_law kc ks 128 [aR 1000, aR 0, aR 72, aI n, aU, aL (sm (fun r => (cmv s n pl r : Int)) n), aU, aL (mx (fun r => (cmv s n pl r : Int)) n), aU, aU, aU, aU, aU, aU, aU, aU] [aL (sm (fr s n pl) n)] (RM [(1, n), (0, 128), (0, n + 1)] false) h Q X := by
  have n63 := hL.2.2.2.1
  have hs := hL.ct.2.2.2.2.2.2.1
  have hSA := hL.ct.2.2.2.2.2.2.2.1
  obtain ⟨N, hN⟩ := CUT.ex (psz_SZ s n)
  have t1 : ∀ _ : Unit, ((n : Int) * (((n : Int) + 1).bmod (2 ^ 64))).bmod (2 ^ 64) = (n : Int) * n + n := fun _ => (tri_val (by omega) (by omega)).1
  have t2 := (tri_val (n := (n : Int)) (by omega) (by omega)).2
  have wc := words_cm hs hSA
  have bn := sm_fr hs hSA (m := n) (Nat.le_refl n) (by omega)
  have t3 : ∀ _ : Unit, (((n : Int) * n + n) / 2 - sm (fun r => (cmv s n pl r : Int)) n).bmod (2 ^ 64) = sm (fr s n pl) n := fun _ => by
    rw [show ((n : Int) * n + n) / 2 - sm (fun r => (cmv s n pl r : Int)) n = sm (fr s n pl) n by omega]
    exact bmod_id bn.1 (by omega)
  have go : ∀ kc ks : Nat, 9000 ≤ kc → 54000 ≤ ks → am_V M_L_law kc ks 199 [aR 1000, aR 0, aR 72, aI n, aU, aU, aU, aU, aU, aI 0, aL n, aU, aI 0, aU, aU, aU] [] (RM [(1, n), (0, 128), (0, n + 1)] false) h Q X := fun kc ks h1 h2 => law199 hQ hL hN n 0 0 kc ks n (by omega) (by omega) (by omega) JJ.start
  refine S_law_128 rfl ⟨⟨by rw [t1 ()]; exact t2, by decide⟩, fun w => absurd (by rw [t1 (), t3 ()]; exact cmp0 _) w, fun _ => ⟨⟨by omega, by omega⟩, W_twice hL.1 hL.tx hL.ct (Nat.le_refl _) (Nat.le_refl _) ?_⟩⟩
  refine S_law_151 rfl ⟨fun w => absurd (cmp0 _) w, fun _ => ⟨⟨by omega, by omega⟩, W_twiceAt hL.1 hL.tx hL.ct (Nat.le_refl _) (Nat.le_refl _) (fun m0 => ?_) (fun m1 E E0 E1 => ?_)⟩⟩
  · refine S_law_162 rfl ⟨fun w => absurd (cmp_nneg.mp w) (by decide), fun _ => S_law_172 rfl ⟨fun w => absurd (cmp_eq m0.symm) w, fun _ => S_law_184 rfl ⟨fun _ => go _ _ (by omega) (by omega), fun w => absurd rfl w⟩⟩⟩
  · refine S_law_162 rfl ⟨fun _ => S_law_172 rfl ⟨fun _ => S_law_184 rfl ⟨fun _ => go _ _ (by omega) (by omega), fun w => absurd rfl w⟩, fun w => absurd ?_ m1⟩, fun w => absurd (cmp_neg.mp w) (by omega)⟩
    rcases Int.lt_trichotomy 0 (mx (fun r => (cmv s n pl r : Int)) n) with y | y | y
    · rw [cmp_lt y] at w; exact absurd w (by decide)
    · exact y.symm
    · rw [cmp_gt y] at w; exact absurd w (by decide)
/-- common beginnings -/
theorem law49 {h : Hh} (hQ : ∀ ρ h, Q [aI 1] ρ h) (hL : LAW h 2 n s pl ra) : ∀ (d i kc ks : Nat), i + d = n → 10 * d + 20000 ≤ kc → 60 * d + 120000 ≤ ks → am_V M_L_law kc ks 49 [aR 1000, aR 0, aR 72, aI n, aU, aL (sm (fun r => (cmv s n pl r : Int)) i), aU, aL (mx (fun r => (cmv s n pl r : Int)) i), aU, aI i, aU, aU, aU, aU, aU, aU] [] (RM [(1, n), (0, 128), (0, n + 1)] false) h Q X := by
  have n63 := hL.2.2.2.1
  have hs := hL.ct.2.2.2.2.2.2.1
  have hSA := hL.ct.2.2.2.2.2.2.2.1
  intro d
  induction d with
  | zero =>
    intro i kc ks hi hkc hks
    have : i = n := by omega
    subst this
    exact S_law_49 rfl ⟨fun _ => ⟨⟨by omega, by omega⟩, W_words hL.1 hL.tx hL.ct (Nat.le_refl _) (Nat.le_refl _) (law128 hQ hL (by omega) (by omega))⟩, fun w => absurd w (by omega)⟩
  | succ d ih =>
    intro i kc ks hi hkc hks
    have bs : ∀ m : Nat, m ≤ n → 0 ≤ sm (fun r => (cmv s n pl r : Int)) m ∧ sm (fun r => (cmv s n pl r : Int)) m ≤ 64 * m := fun m hm => sm_bd (f := fun r => (cmv s n pl r : Int)) (c := 64) (m := m) (fun r r0 r1 => by
      have := cmv_le hs hSA (r := r) r0 (by omega)
      have := (hSA.at hs (r := r) r0 (by omega)).1
      show 0 ≤ (cmv s n pl r : Int) ∧ (cmv s n pl r : Int) ≤ 64
      omega)
    have e1 : sm (fun r => (cmv s n pl r : Int)) (i + 1) = sm (fun r => (cmv s n pl r : Int)) i + cmv s n pl i := rfl
    have e2 : mx (fun r => (cmv s n pl r : Int)) (i + 1) = max (mx (fun r => (cmv s n pl r : Int)) i) (cmv s n pl i) := rfl
    have b1 := bs (i + 1) (by omega)
    have bm : ∀ _ : Unit, (sm (fun r => (cmv s n pl r : Int)) i + cmv s n pl i).bmod (2 ^ 64) = sm (fun r => (cmv s n pl r : Int)) (i + 1) := fun _ => by
      rw [← e1]
      exact bmod_id b1.1 (by omega)
    refine S_law_49 rfl ⟨fun w => absurd w (by omega), fun _ => ⟨⟨by omega, by omega⟩, W_common hL.1 hL.tx hL.ct (by omega) (by omega) (Nat.le_refl _) (Nat.le_refl _) ?_⟩⟩
    refine S_law_62 rfl ⟨fun _ => ?_, fun i0 => ?_⟩
    · rw [bm (), ← e2]
      exact S_law_117 rfl ⟨by omega, ih (i + 1) _ _ (by omega) (by omega) (by omega)⟩
    · rw [bm (), ← e2]
      have p1 := hSA.at hs (r := (i : Int) - 1) (by omega) (by omega)
      have p2 := hSA.at hs (r := (i : Int)) (by omega) (by omega)
      refine ⟨⟨by omega, by omega, by omega⟩, W_endAt hL.1 hL.tx hL.ct (by omega) (by omega) (Nat.le_refl _) (Nat.le_refl _) ?_⟩
      refine S_law_98 rfl ⟨⟨by omega, by omega, by omega⟩, W_endAt hL.1 hL.tx hL.ct (by omega) (by omega) (Nat.le_refl _) (Nat.le_refl _) ?_⟩
      refine S_law_107 rfl ⟨⟨by omega, by omega, by omega⟩, W_shared hL.1 hL.tx hL.ct hL.tx hL.ct p1.1 p1.2.1 p2.1 p2.2.1 (Nat.le_refl _) (Nat.le_refl _) ?_⟩
      have ec : cmv s n pl i = Lc s n s n (pl ((i : Int) - 1)) (pl i) := if_neg (by omega)
      refine S_law_111 rfl ⟨fun _ => S_law_117 rfl ⟨by omega, ih (i + 1) _ _ (by omega) (by omega) (by omega)⟩, fun w => absurd (cmp_eq (by rw [ec])) w⟩
theorem SIM.zero {h : Hh} (hz : ∀ (b : Nat) (i : Int), b < 72 → h b i = 0) : SIM h := by
  have e1 : h 0 9 = 0 := hz 0 9 (by decide)
  have e2 : h 2 1 = 0 := hz 2 1 (by decide)
  refine ⟨⟨by omega, by omega, trivial⟩, ⟨by omega, by omega, trivial⟩, fun k k0 k1 => by omega, fun t t0 t1 => by omega, fun t t0 t1 => hz _ _ (by unfold ta; omega)⟩
theorem law7 {g0 g1 : Int → Int} (hQ : ∀ ρ h, Q [aI 1] ρ h) : am_V M_L_law 600000 7200000 7 [aR 1000, aU, aU, aU, aU, aU, aU, aU, aU, aU, aU, aU, aU, aU, aU, aU] [aR 0] (RM [] true) (am_h0 g0 g1) Q X := by
  have hz : ∀ (b : Nat) (i : Int), b < 1000 → am_h0 g0 g1 b i = 0 := fun b i hb => am_h0_z g0 g1 b i hb
  refine S_law_7 ⟨⟨by omega, by omega⟩, L_signs (fun i => hz 72 i (by decide)) (Nat.le_refl _) (Nat.le_refl _) (fun n h1 hn f1 hl => ?_)⟩
  have hS1 : SIM h1 := SIM.zero fun b i hb => by rw [f1 b (by omega)]; exact hz b i (by omega)
  have e09 : h1 0 9 = 0 := by rw [f1 0 (by decide)]; exact hz 0 9 (by decide)
  refine S_law_12 rfl ⟨⟨by omega, by omega, by omega⟩, L_tells hS1 e09 hn hl (Nat.le_refl _) (Nat.le_refl _) (fun h2 hS2 g09 gu hN => ?_)⟩
  have hL : LAW h2 1 n (h2 (32 + 1)) (h2 (32 + 2)) (h2 (32 + 3)) := ⟨hS2, g09, by decide, hn, hN.ct ⟨0, by decide, rfl⟩, fun k k0 k1 => by rw [gu 72 (by decide)]; exact (hN.2.2.2.1 k k0 k1).symm⟩
  refine S_law_21 rfl ⟨fun w => absurd rfl w, fun _ => ⟨⟨by omega, by omega⟩, L_comesBack hL (fun i => by rw [gu 73 (by decide), f1 73 (by decide)]; exact hz 73 i (by decide)) (fun i => by rw [gu 74 (by decide), f1 74 (by decide)]; exact hz 74 i (by decide)) (Nat.le_refl _) (Nat.le_refl _) (fun h3 hL3 _ => ?_)⟩⟩
  exact S_law_35 rfl ⟨fun _ => v_wd (law49 hQ hL3 n 0 _ _ (by omega) (by omega) (by omega)), fun w => absurd w (by decide)⟩
end
