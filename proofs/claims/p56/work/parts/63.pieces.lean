variable {WM : List (Nat × Nat)} {wd : Bool}
/-! pieces, pieceLength, pieceFrom, fewest -/
theorem C_low_1 {kc ks : Nat} {h : Hh} {Q : PQ} {X : PX} {a n : Nat} {s pl ra : Int → Int} (hC : CT h a n s pl ra) {p : Int} (hp : 0 ≤ p) (hpn : p < n) (hQ : ∀ v, LOWQ s n p v → Q [aI v] (RM WM wd) h) : ∀ (d : Nat) (r v : Int), r = d → r ≤ rk s n p → 0 ≤ v → v ≤ n - p → (∀ q, r ≤ q → q ≤ rk s n p → p ≤ pl q) → (∀ k : Nat, 0 < k → ((k : Int) ≤ v ↔ (k : Int) ≤ n - p ∧ ∀ q, r < q → q ≤ rk s n p → k ≤ cmv s n pl q)) → am_V M_X2_commonWithLowerAhead kc ks 15 [aU, aR a, aI p, aI v, aI r] [] (RM WM wd) h Q X := by
  obtain ⟨t0, n64, hn, rfl, rfl, rfl, hs, hSA, hcm⟩ := id hC
  have b := rk_bd (s := h (a + 1)) (n := n) hp hpn
  have ep := (hSA p hp hpn).2
  intro d
  induction d with
  | zero =>
    intro r v hr hrp v0 v1 hz hv
    refine S_X2_commonWithLowerAhead_15 t0 ⟨fun _ => hQ 0 ⟨Int.le_refl 0, by omega, fun k hk => ⟨fun z => by omega, fun ⟨q, q0, q1, q2, q3⟩ => ?_⟩⟩, fun z => absurd z (by omega)⟩
    have := hz (rk (h (a + 1)) n q) (by omega) (by omega)
    rw [(hSA q q0 (by omega)).2] at this
    omega
  | succ d ih =>
    intro r v hr hrp v0 v1 hz hv
    have e := hcm r (by omega) (by omega)
    obtain ⟨a0, a1, a2, -⟩ := hSA.at hs (r := r - 1) (by omega) (by omega)
    have hv2 : ∀ k : Nat, 0 < k → ((k : Int) ≤ min v (h (a + 4) r) ↔ (k : Int) ≤ n - p ∧ ∀ q, r - 1 < q → q ≤ rk (h (a + 1)) n p → k ≤ cmv (h (a + 1)) n (h (a + 2)) q) := by
      intro k hk
      rw [e, Int.le_min, hv k hk]
      constructor
      · intro ⟨⟨z1, z2⟩, z3⟩
        refine ⟨z1, fun q q0 q1 => ?_⟩
        by_cases y : q = r
        · rw [y]; omega
        · exact z2 q (by omega) q1
      · intro ⟨z1, z2⟩
        have := z2 r (by omega) hrp
        exact ⟨⟨z1, fun q q0 q1 => z2 q (by omega) q1⟩, by omega⟩
    refine S_X2_commonWithLowerAhead_15 t0 ⟨fun z => absurd z (by omega), fun _ => ⟨by omega, fun z => ⟨by omega, ih (r + -1) _ (by omega) (by omega) (by omega) (by omega) (fun q q0 q1 => ?_) (fun k hk => ?_)⟩, fun z => hQ _ ⟨by omega, by omega, fun k hk => ?_⟩⟩⟩
    · by_cases y : q = r + -1
      · rw [y, show r + -1 = r - 1 by omega]; exact z
      · exact hz q (by omega) q1
    · rw [hv2 k hk, show r + -1 = r - 1 by omega]
    · rw [hv2 k hk]
      constructor
      · intro ⟨z1, z2⟩
        refine ⟨h (a + 2) (r - 1), a0, z, by omega, ?_⟩
        have := (cmv_range hs hSA (i := r - 1) (j := rk (h (a + 1)) n p) (k := k) (by omega) (by omega) b).mpr (fun t t0 t1 => z2 t (by omega) t1)
        rw [ep] at this
        exact this
      · intro ⟨q, q0, q1, q2, q3⟩
        have bq := rk_bd (s := h (a + 1)) (n := n) q0 (by omega)
        have eq := (hSA q q0 (by omega)).2
        have hqr : (rk (h (a + 1)) n q : Int) ≤ r - 1 := by
          apply Classical.byContradiction
          intro y
          have := hz (rk (h (a + 1)) n q) (by omega) (by omega)
          rw [eq] at this
          omega
        have hle := len_ag hs hk q0 hp q3 (by
          have := (le_LcE hs q0 (by omega) hp hpn (by omega)).mpr q3
          have l1 := Lc_1 (s := h (a + 1)) (t := h (a + 1)) (n := n) (m := n) (p := q) (q := p) (by omega) (by omega)
          omega)
        refine ⟨by omega, fun t t0 t1 => ?_⟩
        rw [← eq, ← ep] at q3
        rw [eq, ep] at q3
        have q4 : AG (en (h (a + 1)) n) (en (h (a + 1)) n) (h (a + 2) (rk (h (a + 1)) n q)) (h (a + 2) (rk (h (a + 1)) n p)) k := by
          rw [eq, ep]; exact q3
        exact (cmv_range hs hSA (by omega) (by omega) b).mp q4 t (by omega) t1
theorem C_upp_1 {kc ks : Nat} {h : Hh} {Q : PQ} {X : PX} {a n : Nat} {s pl ra : Int → Int} (hC : CT h a n s pl ra) {p : Int} (hp : 0 ≤ p) (hpn : p < n) (hQ : ∀ v, UPPQ s n p v → Q [aI v] (RM WM wd) h) : ∀ (d : Nat) (r v : Int), r + d = n → rk s n p < r → 0 ≤ v → v ≤ n - p → (∀ q : Int, rk s n p ≤ q → q < r → p ≤ pl q) → (∀ k : Nat, 0 < k → ((k : Int) ≤ v ↔ (k : Int) ≤ n - p ∧ ∀ q : Int, rk s n p < q → q < r → k ≤ cmv s n pl q)) → am_V M_X2_commonWithUpperAhead kc ks 17 [aU, aR a, aI p, aI v, aI r] [] (RM WM wd) h Q X := by
  obtain ⟨t0, n64, hn, rfl, rfl, rfl, hs, hSA, hcm⟩ := id hC
  have b := rk_bd (s := h (a + 1)) (n := n) hp hpn
  have ep := (hSA p hp hpn).2
  intro d
  induction d with
  | zero =>
    intro r v hr hrp v0 v1 hz hv
    refine S_X2_commonWithUpperAhead_17 t0 ⟨fun _ => hQ 0 ⟨Int.le_refl 0, by omega, fun k hk => ⟨fun z => by omega, fun ⟨q, q0, q1, q2, q3⟩ => ?_⟩⟩, fun z => absurd z (by omega)⟩
    have bq := rk_bd (s := h (a + 1)) (n := n) q0 (by omega)
    have := hz (rk (h (a + 1)) n q) (by omega) (by omega)
    rw [(hSA q q0 (by omega)).2] at this
    omega
  | succ d ih =>
    intro r v hr hrp v0 v1 hz hv
    have e := hcm r (by omega) (by omega)
    obtain ⟨a0, a1, a2, -⟩ := hSA.at hs (r := r) (by omega) (by omega)
    have hv2 : ∀ k : Nat, 0 < k → ((k : Int) ≤ min v (h (a + 4) r) ↔ (k : Int) ≤ n - p ∧ ∀ q : Int, rk (h (a + 1)) n p < q → q < r + 1 → k ≤ cmv (h (a + 1)) n (h (a + 2)) q) := by
      intro k hk
      rw [e, Int.le_min, hv k hk]
      constructor
      · intro ⟨⟨z1, z2⟩, z3⟩
        refine ⟨z1, fun q q0 q1 => ?_⟩
        by_cases y : q = r
        · rw [y]; omega
        · exact z2 q q0 (by omega)
      · intro ⟨z1, z2⟩
        have := z2 r (by omega) (by omega)
        exact ⟨⟨z1, fun q q0 q1 => z2 q q0 (by omega)⟩, by omega⟩
    refine S_X2_commonWithUpperAhead_17 t0 ⟨fun z => absurd z (by omega), fun _ => ⟨by omega, fun z => ⟨by omega, ih (r + 1) _ (by omega) (by omega) (by omega) (by omega) (fun q q0 q1 => ?_) hv2⟩, fun z => hQ _ ⟨by omega, by omega, fun k hk => ?_⟩⟩⟩
    · by_cases y : q = r
      · rw [y]; exact z
      · exact hz q q0 (by omega)
    · rw [hv2 k hk]
      constructor
      · intro ⟨z1, z2⟩
        refine ⟨h (a + 2) r, a0, z, by omega, ?_⟩
        have := (cmv_range hs hSA (i := rk (h (a + 1)) n p) (j := r) (k := k) (by omega) (by omega) (by omega)).mpr (fun t t0 t1 => z2 t (by omega) (by omega))
        rw [ep] at this
        exact this.sym
      · intro ⟨q, q0, q1, q2, q3⟩
        have bq := rk_bd (s := h (a + 1)) (n := n) q0 (by omega)
        have eq := (hSA q q0 (by omega)).2
        have hqr : r ≤ (rk (h (a + 1)) n q : Int) := by
          apply Classical.byContradiction
          intro y
          have := hz (rk (h (a + 1)) n q) (by omega) (by omega)
          rw [eq] at this
          omega
        have hle := len_ag hs hk q0 hp q3 (by
          have := (le_LcE hs q0 (by omega) hp hpn (by omega)).mpr q3
          have l1 := Lc_1 (s := h (a + 1)) (t := h (a + 1)) (n := n) (m := n) (p := q) (q := p) (by omega) (by omega)
          omega)
        refine ⟨by omega, fun t t0 t1 => ?_⟩
        have q4 : AG (en (h (a + 1)) n) (en (h (a + 1)) n) (h (a + 2) (rk (h (a + 1)) n p)) (h (a + 2) (rk (h (a + 1)) n q)) k := by
          rw [eq, ep]; exact q3.sym
        exact (cmv_range hs hSA (by omega) (by omega) bq).mp q4 t t0 (by omega)
theorem C_qsz {kc ks : Nat} {h : Hh} {Q : PQ} {X : PX} {a n : Nat} {s pl ra : Int → Int} (hC : CT h a n s pl ra) {p : Int} (hp : 0 ≤ p) (hpn : p < n) (hQ : Q [aI (qsz s n p)] (RM WM wd) h) : am_V M_X2_sizeFrom kc ks 0 [aR 30, aR a, aI p, aU] [] (RM WM wd) h Q X := by
  obtain ⟨t0, n64, hn, rfl, rfl, rfl, hs, hSA, hcm⟩ := id hC
  have b := rk_bd (s := h (a + 1)) (n := n) hp hpn
  have er := (hSA p hp hpn).1
  have ep := (hSA p hp hpn).2
  refine S_X2_sizeFrom_0 t0 ⟨fun z => absurd z (by omega), fun _ => S_X2_commonWithLowerAhead_0 t0 ⟨by omega, ?_⟩⟩
  rw [er]
  refine C_low_1 hC hp hpn (fun v hv => S_X2_sizeFrom_17 t0 (S_X2_commonWithUpperAhead_0 t0 ⟨by omega, ?_⟩)) (rk (h (a + 1)) n p) _ _ (by omega) (Int.le_refl _) (by omega) (by omega) (fun q q0 q1 => ?_) (fun k hk => ⟨fun z => ⟨by omega, fun q q0 q1 => by omega⟩, fun z => by omega⟩)
  · rw [er]
    refine C_upp_1 hC hp hpn (fun u hu => S_X2_sizeFrom_28 ?_) (n - (rk (h (a + 1)) n p + 1)) _ _ (by omega) (by omega) (by omega) (by omega) (fun q q0 q1 => ?_) (fun k hk => ⟨fun z => ⟨by omega, fun q q0 q1 => by omega⟩, fun z => by omega⟩)
    · rw [hv.size hs hp hpn hu]
      exact hQ
    · rw [show q = rk (h (a + 1)) n p by omega, ep]
      exact Int.le_refl _
  · rw [show q = rk (h (a + 1)) n p by omega, ep]
    exact Int.le_refl _
theorem C_ac2_1 {kc ks : Nat} {h : Hh} {Q : PQ} {X : PX} {a n N : Nat} {s pl ra : Int → Int} (hC : CT h a n s pl ra) (hN : CUT (qsz s n) n N) (hQ : Q [aI N] (RM WM wd) h) : ∀ (d i : Nat) (p : Int), p + d = n → i ≤ N → 0 ≤ p → p ≤ stt (qsz s n) i → am_V M_X0_allCuts_2 kc ks 7 [aR 30, aR a, aI i, aI (stt (qsz s n) i), aI p] [] (RM WM wd) h Q X := by
  have t0 := hC.1
  have h64 := hC.2.1
  have hn := hC.2.2.1
  have hZ := qsz_SZ s n
  have hNn := hN.le hZ
  intro d
  induction d with
  | zero =>
    intro i p hp hi p0 hps
    refine S_X0_allCuts_2_7 t0 ⟨fun _ => ?_, fun z => absurd z (by omega)⟩
    have : i = N := by
      apply Classical.byContradiction
      intro z
      have := hN.2 i (by omega)
      omega
    rw [this]
    exact hQ
  | succ d ih =>
    intro i p hp hi p0 hps
    refine S_X0_allCuts_2_7 t0 ⟨fun z => absurd z (by omega), fun _ => ⟨fun z => ⟨by omega, ih i (p + 1) (by omega) hi (by omega) (by omega)⟩, fun z => ⟨by omega, C_qsz hC p0 (by omega) (S_X0_allCuts_2_33 t0 ?_)⟩⟩⟩
    have hlt : i < N := by
      apply Nat.lt_of_le_of_ne hi
      intro e
      rw [e, hN.1] at z
      omega
    have hz := hZ p p0 (by omega)
    have e : stt (qsz s n) i + qsz s n p = stt (qsz s n) (i + 1) := by rw [z]; rfl
    rw [e]
    exact ⟨by omega, ih (i + 1) (p + 1) (by omega) hlt (by omega) (by omega)⟩
theorem C_allCuts2 {kc ks : Nat} {h : Hh} {Q : PQ} {X : PX} {a n N : Nat} {s pl ra : Int → Int} (hC : CT h a n s pl ra) (hN : CUT (qsz s n) n N) (hQ : Q [aI N] (RM WM wd) h) : am_V M_X0_allCuts_2 kc ks 0 [aR 30, aR a, aU, aU, aU] [] (RM WM wd) h Q X :=
  S_X0_allCuts_2_0 hC.1 (C_ac2_1 hC hN hQ n 0 0 (by omega) (by omega) (Int.le_refl 0) (Int.le_refl 0))
theorem W_pieces {kc ks : Nat} {h : Hh} {Q : PQ} {X : PX} {t : Int} {n : Nat} {s pl ra : Int → Int} {N : Nat} (hS : SIM h) (z : isTx h t) (hC : CT h (ta t) n s pl ra) (hN : CUT (qsz s n) n N) (hkc : 1 ≤ kc) (hks : 6 ≤ ks) (hQ : Q [aL N] (RM WM wd) h) : am_V M_L_pieces kc ks 0 [aR 0, aI t, aU] [] (RM WM wd) h Q X :=
  S_L_pieces_0 ⟨⟨hkc, hks⟩, S_X10_pieces_0 ⟨by omega, C_known hS z (by omega) (by omega) (S_X10_pieces_9 hC.1 (C_allCuts2 hC hN (S_X10_pieces_12 (S_L_pieces_5 hQ))))⟩⟩
