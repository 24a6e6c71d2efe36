/-! once, onceAt -/
theorem C_stba {kc ks : Nat} {h : Hh} {Q : PQ} {X : PX} {a n : Nat} {s pl ra : Int → Int} (hC : CT h a n s pl ra) {r : Int} (hr : 0 ≤ r) (hrn : r < n) (hQ : Q [aI (need s n pl r)] am_R0 h) : am_V M_X6_signsToBeAlone kc ks 0 [aR a, aI r, aU] [] am_R0 h Q X := by
  obtain ⟨t0, n64, hn, rfl, rfl, rfl, hs, hSA, hcm⟩ := id hC
  have e1 := hcm r hr hrn
  have b1 := cmv_le hs hSA hr hrn
  have a0 := (hSA.at hs hr hrn).1
  unfold need at hQ
  refine S_X6_signsToBeAlone_0 t0 ⟨by omega, fun z => ⟨by omega, ?_⟩, fun z => ?_⟩
  · rw [if_neg (by omega)] at hQ
    rw [e1, show max ((cmv (h (a + 1)) n (h (a + 2)) r : Nat) : Int) 0 + 1 = ((max (cmv (h (a + 1)) n (h (a + 2)) r) 0 + 1 : Nat) : Int) by omega]
    exact hQ
  · rw [if_pos (by omega)] at hQ
    have e2 := hcm (r + 1) (by omega) (by omega)
    have b2 := cmv_le hs hSA (r := r + 1) (by omega) (by omega)
    have a2 := (hSA.at hs (r := r + 1) (by omega) (by omega)).1
    refine ⟨by omega, ?_⟩
    rw [e1, e2, show max ((cmv (h (a + 1)) n (h (a + 2)) r : Nat) : Int) ((cmv (h (a + 1)) n (h (a + 2)) (r + 1) : Nat) : Int) + 1 = ((max (cmv (h (a + 1)) n (h (a + 2)) r) (cmv (h (a + 1)) n (h (a + 2)) (r + 1)) + 1 : Nat) : Int) by omega]
    exact hQ
theorem need_bd {s pl ra : Int → Int} {n : Nat} (hs : WS s n) (hSA : SA s n pl ra) {r : Int} (hr : 0 ≤ r) (hrn : r < n) : 1 ≤ need s n pl r ∧ need s n pl r ≤ n + 1 := by
  have b1 := cmv_le hs hSA hr hrn
  have a0 := (hSA.at hs hr hrn).1
  unfold need
  by_cases z : r + 1 < n
  · have b2 := cmv_le hs hSA (r := r + 1) (by omega) (by omega)
    have a2 := (hSA.at hs (r := r + 1) (by omega) (by omega)).1
    rw [if_pos z]
    omega
  · rw [if_neg z]
    omega
theorem C_sha_1 {kc ks : Nat} {h : Hh} {Q : PQ} {X : PX} {a n : Nat} {s pl ra : Int → Int} (hC : CT h a n s pl ra) (n0 : 0 < n) (hQ : ∀ S, SH s n pl S → Q [aI S] am_R0 h) : ∀ (d i : Nat) (x : Int), i + d = n → 0 ≤ x → x ≤ n → (∀ r, 0 ≤ r → r < (i : Int) → pl r + need s n pl r ≤ n → x ≤ need s n pl r) → (x = n ∨ ∃ r, 0 ≤ r ∧ r < (i : Int) ∧ pl r + need s n pl r ≤ n ∧ x = need s n pl r) → am_V M_X6_shortestAlone kc ks 7 [aR a, aI x, aI i, aU] [] am_R0 h Q X := by
  obtain ⟨t0, n64, hn, rfl, rfl, rfl, hs, hSA, hcm⟩ := id hC
  intro d
  induction d with
  | zero =>
    intro i x hd x0 x1 hlow hat
    have : i = n := by omega
    subst this
    refine S_X6_shortestAlone_7 t0 ⟨fun _ => hQ x ⟨hlow, ?_⟩, fun z => absurd z (by omega)⟩
    rcases hat with z | z
    · have b := rk_bd (s := h (a + 1)) (n := i) (p := 0) (by omega) (by omega)
      have e := (hSA 0 (by omega) (by omega)).2
      have n1 := need_0 hs hSA n0
      have := hlow (rk (h (a + 1)) i 0) (by omega) b (by rw [e]; omega)
      exact ⟨rk (h (a + 1)) i 0, by omega, b, by rw [e]; omega, by omega⟩
    · exact z
  | succ d ih =>
    intro i x hd x0 x1 hlow hat
    have b1 := need_bd hs hSA (r := i) (by omega) (by omega)
    obtain ⟨a0, a1, -, -⟩ := hSA.at hs (r := i) (by omega) (by omega)
    refine S_X6_shortestAlone_7 t0 ⟨fun z => absurd z (by omega), fun _ => C_stba hC (by omega) (by omega) (S_X6_shortestAlone_20 t0 ⟨by omega, fun z => ⟨by omega, ih (i + 1) x (by omega) x0 x1 (fun r q0 q1 q2 => ?_) ?_⟩, fun z => ⟨by omega, ih (i + 1) _ (by omega) (by omega) (by omega) (fun r q0 q1 q2 => ?_) ?_⟩⟩)⟩
    · by_cases e : r = i
      · rw [e] at q2; omega
      · exact hlow r q0 (by omega) q2
    · rcases hat with y | ⟨r, q0, q1, q2, q3⟩
      · exact Or.inl y
      · exact Or.inr ⟨r, q0, by omega, q2, q3⟩
    · by_cases e : r = i
      · rw [e]; omega
      · have := hlow r q0 (by omega) q2
        omega
    · by_cases y : x ≤ need (h (a + 1)) n (h (a + 2)) i
      · rcases hat with y2 | ⟨r, q0, q1, q2, q3⟩
        · exact Or.inl (by omega)
        · exact Or.inr ⟨r, q0, by omega, q2, by omega⟩
      · exact Or.inr ⟨i, by omega, by omega, by omega, by omega⟩
theorem C_shortestAlone {kc ks : Nat} {h : Hh} {Q : PQ} {X : PX} {a n : Nat} {s pl ra : Int → Int} (hC : CT h a n s pl ra) (n0 : 0 < n) (hQ : ∀ S, SH s n pl S → Q [aI S] am_R0 h) : am_V M_X6_shortestAlone kc ks 0 [aR a, aU, aU, aU] [] am_R0 h Q X := by
  refine S_X6_shortestAlone_0 hC.1 ?_
  rw [hC.2.2.1]
  exact C_sha_1 hC n0 hQ n 0 n (by omega) (by omega) (Int.le_refl _) (fun r q0 q1 => by omega) (Or.inl rfl)
theorem M_al_1 {kc ks : Nat} {h : Hh} {Q : PQ} {X : PX} {t : Int} {n L : Nat} {s : Int → Int} (hT : MT h t n s) (hL : 0 < L) (hLn : L ≤ n) (h1 : ∀ p, al s n L p → (∀ q, 0 ≤ q → q < p → ¬ al s n L q) → Q [aI p] am_R0 h) (h0 : (∀ p, ¬ al s n L p) → Q [aI (-1)] am_R0 h) : ∀ (d i : Nat), i + d = n + 1 → (i : Int) + L ≤ n + 1 → (∀ q, 0 ≤ q → q < (i : Int) → ¬ al s n L q) → am_V M_X11_alone kc ks 2 [aR 72, aI t, aI L, aI i] [] am_R0 h Q X := by
  have h64 := hT.2.1
  have hn := hT.2.2.1
  have hs := hT.2.2.2.1
  intro d
  induction d with
  | zero => intro i hd hi hz; omega
  | succ d ih =>
    intro i hd hi hz
    refine S_X11_alone_2 ⟨⟨by omega, hT.1⟩, fun z => h0 fun p hp => ?_, fun z => ?_⟩
    · have h1 := hp.1
      have h2 := hp.2.1
      exact hz p h1 (by omega) hp
    · obtain ⟨c1, c2⟩ := plc_tw (L := L) hs (p := i) (by omega) (by omega) (by omega)
      refine M_places hT hT (by omega) (by omega) hL (by omega) (S_X11_alone_22 ⟨fun y => ⟨by omega, ih (i + 1) (by omega) (by omega) fun q q0 q1 => ?_⟩, fun y => h1 i ⟨by omega, by omega, fun w => by have := c2.mpr w; omega⟩ hz⟩)
      by_cases e : q = i
      · rw [e]
        exact fun w => w.2.2 (c2.mp (by omega))
      · exact hz q q0 (by omega)
theorem M_alone {kc ks : Nat} {h : Hh} {Q : PQ} {X : PX} {t : Int} {n L : Nat} {s : Int → Int} (hT : MT h t n s) (hL : 0 < L) (hLn : L ≤ n) (h1 : ∀ p, al s n L p → (∀ q, 0 ≤ q → q < p → ¬ al s n L q) → Q [aI p] am_R0 h) (h0 : (∀ p, ¬ al s n L p) → Q [aI (-1)] am_R0 h) : am_V M_X11_alone kc ks 0 [aR 72, aI t, aI L, aU] [] am_R0 h Q X :=
  S_X11_alone_0 (M_al_1 hT hL hLn h1 h0 (n + 1) 0 (by omega) (by omega) (fun q q0 q1 => by omega))
theorem M_sha_1 {kc ks : Nat} {h : Hh} {Q : PQ} {X : PX} {t : Int} {n : Nat} {s pl ra : Int → Int} {S : Int} (hT : MT h t n s) (hSA : SA s n pl ra) (hS : SH s n pl S) (hQ : Q [aI S] am_R0 h) : ∀ (d i : Nat), i + d = n → 0 < i → (i : Int) ≤ S → am_V M_X11_shortestAlone kc ks 2 [aR 72, aI t, aI i] [] am_R0 h Q X := by
  have h64 := hT.2.1
  have hs := hT.2.2.2.1
  obtain ⟨S1, Sn, ⟨p, hp⟩, -⟩ := hS.at hs hSA
  have step : ∀ i : Nat, 0 < i → (i : Int) ≤ S → (i : Int) ≤ n → (∀ (_ : (i : Int) < S), am_V M_X11_shortestAlone kc ks 2 [aR 72, aI t, aI ((i : Int) + 1)] [] am_R0 h Q X) → am_V M_X11_shortestAlone kc ks 2 [aR 72, aI t, aI i] [] am_R0 h Q X := by
    intro i hi hiS hin k
    refine S_X11_shortestAlone_2 (M_alone hT hi (by omega) (fun p hp _ => S_X11_shortestAlone_8 ⟨fun _ => ?_, fun z => ?_⟩) (fun hno => S_X11_shortestAlone_8 ⟨fun z => absurd z (by decide), fun _ => ⟨by omega, k ?_⟩⟩))
    · have : (i : Int) = S := by
        apply Classical.byContradiction
        intro z
        exact hS.low hs hSA hi (by omega) hp
      rw [this]
      exact hQ
    · have := hp.1
      omega
    · apply Classical.byContradiction
      intro z
      refine hno p ?_
      rw [show i = S.toNat by omega]
      exact hp
  intro d
  induction d with
  | zero =>
    intro i hd hi hiS
    exact step i hi hiS (by omega) (fun z => by omega)
  | succ d ih =>
    intro i hd hi hiS
    exact step i hi hiS (by omega) (fun z => ih (i + 1) (by omega) (by omega) (by omega))
theorem M_shortestAlone {kc ks : Nat} {h : Hh} {Q : PQ} {X : PX} {t : Int} {n : Nat} {s pl ra : Int → Int} {S : Int} (hT : MT h t n s) (hSA : SA s n pl ra) (hS : SH s n pl S) (hQ : Q [aI S] am_R0 h) : am_V M_X11_shortestAlone kc ks 0 [aR 72, aI t, aU] [] am_R0 h Q X := by
  obtain ⟨S1, Sn, -, -⟩ := hS.at hT.2.2.2.1 hSA
  exact S_X11_shortestAlone_0 (M_sha_1 hT hSA hS hQ (n - 1) 1 (by omega) (by omega) (by omega))
theorem T_once {kc ks : Nat} {h : Hh} {t : Int} (hS : SIM h) (hkc : 2 ≤ kc) (hks : 12 ≤ ks) : am_V M_X10_once kc ks 0 [aR 0, aI t] [] am_R0 h (PQok M_X11_once [aR 72, aI t] aI) (PXok M_X11_once [aR 72, aI t] aI [xIO, xNS]) := by
  refine S_X10_once_0 ⟨by omega, C_knownNotEmpty hS (by omega) (by omega) (fun z => ?_) (fun z => PX.bad 0 hS (NK.rf h) rfl fun kc ks Q X hS' k => S_X11_once_0 (M_isEmpty0 hS z fun h2 m y => S_X11_once_5 ⟨fun w => absurd w (by decide), fun _ => k 0 h2 m y⟩)) (fun z w => PX.bad 1 hS (NK.rf h) rfl fun kc ks Q X hS' k => S_X11_once_0 (M_isEmpty2 hS z w fun h2 m y => S_X11_once_5 ⟨fun w => absurd w (by decide), fun _ => k 0 h2 m y⟩))⟩
  obtain ⟨n, s, pl, ra, hC, hM, n0⟩ := z.get hS
  exact S_X10_once_5 hC.1 (C_shortestAlone hC n0 fun S hSH => S_X10_once_8 (PQ.good hS (NK.rf h) fun kc ks Q X g hN hS' k => S_X11_once_0 (M_isEmpty1 hS' (hN.e.mpr z) fun h2 m y => S_X11_once_5 ⟨fun _ => M_shortestAlone (m.mt (hN.mt hM)) hC.2.2.2.2.2.2.2.1 hSH (S_X11_once_17 (k h2 m y)), fun w => absurd rfl w⟩)))
theorem C_fsa_1 {kc ks : Nat} {h : Hh} {Q : PQ} {X : PX} {a n : Nat} {s pl ra : Int → Int} {S : Int} (hC : CT h a n s pl ra) (hSH : SH s n pl S) (hQ : ∀ p, al s n S.toNat p → (∀ q, 0 ≤ q → q < p → ¬ al s n S.toNat q) → Q [aI p] am_R0 h) : ∀ (d i : Nat), i + d = n + 1 → (∀ q, 0 ≤ q → q < (i : Int) → ¬ al s n S.toNat q) → am_V M_X6_firstPlaceOfShortestAlone kc ks 7 [aR a, aI S, aI i] [] am_R0 h Q X := by
  obtain ⟨t0, n64, hn, rfl, rfl, rfl, hs, hSA, hcm⟩ := id hC
  obtain ⟨S1, Sn, ⟨p, hp⟩, hal⟩ := hSH.at hs hSA
  intro d
  induction d with
  | zero =>
    intro i hd hz
    exfalso
    have h1 := hp.1
    have h2 := hp.2.1
    exact hz p h1 (by omega) hp
  | succ d ih =>
    intro i hd hz
    refine S_X6_firstPlaceOfShortestAlone_7 t0 ⟨by omega, fun z => ?_, fun z => ⟨by omega, ?_⟩⟩
    · exfalso
      have h1 := hp.1
      have h2 := hp.2.1
      exact hz p h1 (by omega) hp
    · have er := (hSA i (by omega) (by omega)).1
      have b := rk_bd (s := h (a + 1)) (n := n) (p := i) (by omega) (by omega)
      rw [er]
      refine C_stba hC (by omega) b (S_X6_firstPlaceOfShortestAlone_27 t0 ⟨fun y => ⟨by omega, ih (i + 1) (by omega) fun q q0 q1 => ?_⟩, fun y => hQ i ((hal i).mpr ⟨by omega, by omega, y⟩) hz⟩)
      by_cases e : q = i
      · rw [e]
        exact fun w => y ((hal i).mp w).2.2
      · exact hz q q0 (by omega)
theorem T_onceAt {kc ks : Nat} {h : Hh} {t : Int} (hS : SIM h) (hkc : 2 ≤ kc) (hks : 12 ≤ ks) : am_V M_X10_onceAt kc ks 0 [aR 0, aI t] [] am_R0 h (PQok M_X11_onceAt [aR 72, aI t] aI) (PXok M_X11_onceAt [aR 72, aI t] aI [xIO, xNS]) := by
  refine S_X10_onceAt_0 ⟨by omega, C_knownNotEmpty hS (by omega) (by omega) (fun z => ?_) (fun z => PX.bad 0 hS (NK.rf h) rfl fun kc ks Q X hS' k => S_X11_onceAt_0 (M_isEmpty0 hS z fun h2 m y => S_X11_onceAt_5 ⟨fun w => absurd w (by decide), fun _ => k 0 h2 m y⟩)) (fun z w => PX.bad 1 hS (NK.rf h) rfl fun kc ks Q X hS' k => S_X11_onceAt_0 (M_isEmpty2 hS z w fun h2 m y => S_X11_onceAt_5 ⟨fun w => absurd w (by decide), fun _ => k 0 h2 m y⟩))⟩
  obtain ⟨n, s, pl, ra, hC, hM, n0⟩ := z.get hS
  have hs := hC.2.2.2.2.2.2.1
  have hSA := hC.2.2.2.2.2.2.2.1
  refine S_X10_onceAt_5 hC.1 (S_X6_firstPlaceOfShortestAlone_0 hC.1 (C_shortestAlone hC n0 fun S hSH => S_X6_firstPlaceOfShortestAlone_4 hC.1 (C_fsa_1 hC hSH (fun p hp hp1 => S_X10_onceAt_8 (PQ.good hS (NK.rf h) fun kc ks Q X g hN hS' k => S_X11_onceAt_0 (M_isEmpty1 hS' (hN.e.mpr z) fun h2 m y => S_X11_onceAt_5 ⟨fun _ => M_shortestAlone (m.mt (hN.mt hM)) hSA hSH (S_X11_onceAt_19 ?_), fun w => absurd rfl w⟩))) (n + 1) 0 (by omega) (fun q q0 q1 => by omega))))
  obtain ⟨S1, Sn, -, -⟩ := hSH.at hs hSA
  obtain ⟨K, rfl⟩ : ∃ K : Nat, S = K := ⟨S.toNat, by omega⟩
  rw [Int.toNat_natCast] at hp hp1
  refine M_alone (m.mt (hN.mt hM)) (by omega) (by omega) (fun q hq hq1 => S_X11_onceAt_22 ?_) (fun hno => absurd hp (hno p))
  have : q = p := by
    rcases Int.lt_trichotomy q p with w | w | w
    · exact absurd hq (hp1 q hq.1 w)
    · exact w
    · exact absurd hp (hq1 p hp.1 w)
  rw [this]
  exact k h2 m y
