/-! pieces, pieceLength, pieceFrom, fewest -/
theorem C_low_1 {kc ks : Nat} {h : Hh} {Q : PQ} {X : PX} {a n : Nat} {s pl ra : Int → Int} (hC : CT h a n s pl ra) {p : Int} (hp : 0 ≤ p) (hpn : p < n) (hQ : ∀ v, LOWQ s n p v → Q [aI v] am_R0 h) : ∀ (d : Nat) (r v : Int), r = d → r ≤ rk s n p → 0 ≤ v → v ≤ n - p → (∀ q, r ≤ q → q ≤ rk s n p → p ≤ pl q) → (∀ k : Nat, 0 < k → ((k : Int) ≤ v ↔ (k : Int) ≤ n - p ∧ ∀ q, r < q → q ≤ rk s n p → k ≤ cmv s n pl q)) → am_V M_X2_commonWithLowerAhead kc ks 15 [aU, aR a, aI p, aI v, aI r] [] am_R0 h Q X := by
  obtain ⟨t0, n64, hn, rfl, rfl, rfl, hs, hSA, hcm⟩ := id hC
  have b := rk_bd (s := h (a + 1)) (n := n) hp hpn
  have ep := (hSA p hp hpn).2
  intro d
  induction d with
  | zero =>
    intro r v hr hrp v0 v1 hz hv
    refine S_X2_commonWithLowerAhead_15 t0 ⟨fun _ => hQ 0 ⟨Int.le_refl 0, by omega, fun k hk => ⟨fun z => by omega, fun ⟨q, q0, q1, q2, q3⟩ => ?_⟩⟩, fun z => absurd z (by omega)⟩
    have := hz (rk (h (a + 1)) n q) (by omega) (by omega)
    rw [(hSA q q0 (by omega)).2] at this
    omega
  | succ d ih =>
    intro r v hr hrp v0 v1 hz hv
    have e := hcm r (by omega) (by omega)
    obtain ⟨a0, a1, a2, -⟩ := hSA.at hs (r := r - 1) (by omega) (by omega)
    have hv2 : ∀ k : Nat, 0 < k → ((k : Int) ≤ min v (h (a + 4) r) ↔ (k : Int) ≤ n - p ∧ ∀ q, r - 1 < q → q ≤ rk (h (a + 1)) n p → k ≤ cmv (h (a + 1)) n (h (a + 2)) q) := by
      intro k hk
      rw [e, Int.le_min, hv k hk]
      constructor
      · intro ⟨⟨z1, z2⟩, z3⟩
        refine ⟨z1, fun q q0 q1 => ?_⟩
        by_cases y : q = r
        · rw [y]; omega
        · exact z2 q (by omega) q1
      · intro ⟨z1, z2⟩
        have := z2 r (by omega) hrp
        exact ⟨⟨z1, fun q q0 q1 => z2 q (by omega) q1⟩, by omega⟩
    refine S_X2_commonWithLowerAhead_15 t0 ⟨fun z => absurd z (by omega), fun _ => ⟨by omega, fun z => ⟨by omega, ih (r + -1) _ (by omega) (by omega) (by omega) (by omega) (fun q q0 q1 => ?_) (fun k hk => ?_)⟩, fun z => hQ _ ⟨by omega, by omega, fun k hk => ?_⟩⟩⟩
    · by_cases y : q = r + -1
      · rw [y, show r + -1 = r - 1 by omega]; exact z
      · exact hz q (by omega) q1
    · rw [hv2 k hk, show r + -1 = r - 1 by omega]
    · rw [hv2 k hk]
      constructor
      · intro ⟨z1, z2⟩
        refine ⟨h (a + 2) (r - 1), a0, z, by omega, ?_⟩
        have := (cmv_range hs hSA (i := r - 1) (j := rk (h (a + 1)) n p) (k := k) (by omega) (by omega) b).mpr (fun t t0 t1 => z2 t (by omega) t1)
        rw [ep] at this
        exact this
      · intro ⟨q, q0, q1, q2, q3⟩
        have bq := rk_bd (s := h (a + 1)) (n := n) q0 (by omega)
        have eq := (hSA q q0 (by omega)).2
        have hqr : (rk (h (a + 1)) n q : Int) ≤ r - 1 := by
          apply Classical.byContradiction
          intro y
          have := hz (rk (h (a + 1)) n q) (by omega) (by omega)
          rw [eq] at this
          omega
        have hle := len_ag hs hk q0 hp q3 (by
          have := (le_LcE hs q0 (by omega) hp hpn (by omega)).mpr q3
          have l1 := Lc_1 (s := h (a + 1)) (t := h (a + 1)) (n := n) (m := n) (p := q) (q := p) (by omega) (by omega)
          omega)
        refine ⟨by omega, fun t t0 t1 => ?_⟩
        rw [← eq, ← ep] at q3
        rw [eq, ep] at q3
        have q4 : AG (en (h (a + 1)) n) (en (h (a + 1)) n) (h (a + 2) (rk (h (a + 1)) n q)) (h (a + 2) (rk (h (a + 1)) n p)) k := by
          rw [eq, ep]; exact q3
        exact (cmv_range hs hSA (by omega) (by omega) b).mp q4 t (by omega) t1
theorem C_upp_1 {kc ks : Nat} {h : Hh} {Q : PQ} {X : PX} {a n : Nat} {s pl ra : Int → Int} (hC : CT h a n s pl ra) {p : Int} (hp : 0 ≤ p) (hpn : p < n) (hQ : ∀ v, UPPQ s n p v → Q [aI v] am_R0 h) : ∀ (d : Nat) (r v : Int), r + d = n → rk s n p < r → 0 ≤ v → v ≤ n - p → (∀ q : Int, rk s n p ≤ q → q < r → p ≤ pl q) → (∀ k : Nat, 0 < k → ((k : Int) ≤ v ↔ (k : Int) ≤ n - p ∧ ∀ q : Int, rk s n p < q → q < r → k ≤ cmv s n pl q)) → am_V M_X2_commonWithUpperAhead kc ks 17 [aU, aR a, aI p, aI v, aI r] [] am_R0 h Q X := by
  obtain ⟨t0, n64, hn, rfl, rfl, rfl, hs, hSA, hcm⟩ := id hC
  have b := rk_bd (s := h (a + 1)) (n := n) hp hpn
  have ep := (hSA p hp hpn).2
  intro d
  induction d with
  | zero =>
    intro r v hr hrp v0 v1 hz hv
    refine S_X2_commonWithUpperAhead_17 t0 ⟨fun _ => hQ 0 ⟨Int.le_refl 0, by omega, fun k hk => ⟨fun z => by omega, fun ⟨q, q0, q1, q2, q3⟩ => ?_⟩⟩, fun z => absurd z (by omega)⟩
    have bq := rk_bd (s := h (a + 1)) (n := n) q0 (by omega)
    have := hz (rk (h (a + 1)) n q) (by omega) (by omega)
    rw [(hSA q q0 (by omega)).2] at this
    omega
  | succ d ih =>
    intro r v hr hrp v0 v1 hz hv
    have e := hcm r (by omega) (by omega)
    obtain ⟨a0, a1, a2, -⟩ := hSA.at hs (r := r) (by omega) (by omega)
    have hv2 : ∀ k : Nat, 0 < k → ((k : Int) ≤ min v (h (a + 4) r) ↔ (k : Int) ≤ n - p ∧ ∀ q : Int, rk (h (a + 1)) n p < q → q < r + 1 → k ≤ cmv (h (a + 1)) n (h (a + 2)) q) := by
      intro k hk
      rw [e, Int.le_min, hv k hk]
      constructor
      · intro ⟨⟨z1, z2⟩, z3⟩
        refine ⟨z1, fun q q0 q1 => ?_⟩
        by_cases y : q = r
        · rw [y]; omega
        · exact z2 q q0 (by omega)
      · intro ⟨z1, z2⟩
        have := z2 r (by omega) (by omega)
        exact ⟨⟨z1, fun q q0 q1 => z2 q q0 (by omega)⟩, by omega⟩
    refine S_X2_commonWithUpperAhead_17 t0 ⟨fun z => absurd z (by omega), fun _ => ⟨by omega, fun z => ⟨by omega, ih (r + 1) _ (by omega) (by omega) (by omega) (by omega) (fun q q0 q1 => ?_) hv2⟩, fun z => hQ _ ⟨by omega, by omega, fun k hk => ?_⟩⟩⟩
    · by_cases y : q = r
      · rw [y]; exact z
      · exact hz q q0 (by omega)
    · rw [hv2 k hk]
      constructor
      · intro ⟨z1, z2⟩
        refine ⟨h (a + 2) r, a0, z, by omega, ?_⟩
        have := (cmv_range hs hSA (i := rk (h (a + 1)) n p) (j := r) (k := k) (by omega) (by omega) (by omega)).mpr (fun t t0 t1 => z2 t (by omega) (by omega))
        rw [ep] at this
        exact this.sym
      · intro ⟨q, q0, q1, q2, q3⟩
        have bq := rk_bd (s := h (a + 1)) (n := n) q0 (by omega)
        have eq := (hSA q q0 (by omega)).2
        have hqr : r ≤ (rk (h (a + 1)) n q : Int) := by
          apply Classical.byContradiction
          intro y
          have := hz (rk (h (a + 1)) n q) (by omega) (by omega)
          rw [eq] at this
          omega
        have hle := len_ag hs hk q0 hp q3 (by
          have := (le_LcE hs q0 (by omega) hp hpn (by omega)).mpr q3
          have l1 := Lc_1 (s := h (a + 1)) (t := h (a + 1)) (n := n) (m := n) (p := q) (q := p) (by omega) (by omega)
          omega)
        refine ⟨by omega, fun t t0 t1 => ?_⟩
        have q4 : AG (en (h (a + 1)) n) (en (h (a + 1)) n) (h (a + 2) (rk (h (a + 1)) n p)) (h (a + 2) (rk (h (a + 1)) n q)) k := by
          rw [eq, ep]; exact q3.sym
        exact (cmv_range hs hSA (by omega) (by omega) bq).mp q4 t t0 (by omega)
theorem C_qsz {kc ks : Nat} {h : Hh} {Q : PQ} {X : PX} {a n : Nat} {s pl ra : Int → Int} (hC : CT h a n s pl ra) {p : Int} (hp : 0 ≤ p) (hpn : p < n) (hQ : Q [aI (qsz s n p)] am_R0 h) : am_V M_X2_sizeFrom kc ks 0 [aR 30, aR a, aI p, aU] [] am_R0 h Q X := by
  obtain ⟨t0, n64, hn, rfl, rfl, rfl, hs, hSA, hcm⟩ := id hC
  have b := rk_bd (s := h (a + 1)) (n := n) hp hpn
  have er := (hSA p hp hpn).1
  have ep := (hSA p hp hpn).2
  refine S_X2_sizeFrom_0 t0 ⟨fun z => absurd z (by omega), fun _ => S_X2_commonWithLowerAhead_0 t0 ⟨by omega, ?_⟩⟩
  rw [er]
  refine C_low_1 hC hp hpn (fun v hv => S_X2_sizeFrom_17 t0 (S_X2_commonWithUpperAhead_0 t0 ⟨by omega, ?_⟩)) (rk (h (a + 1)) n p) _ _ (by omega) (Int.le_refl _) (by omega) (by omega) (fun q q0 q1 => ?_) (fun k hk => ⟨fun z => ⟨by omega, fun q q0 q1 => by omega⟩, fun z => by omega⟩)
  · rw [er]
    refine C_upp_1 hC hp hpn (fun u hu => S_X2_sizeFrom_28 ?_) (n - (rk (h (a + 1)) n p + 1)) _ _ (by omega) (by omega) (by omega) (by omega) (fun q q0 q1 => ?_) (fun k hk => ⟨fun z => ⟨by omega, fun q q0 q1 => by omega⟩, fun z => by omega⟩)
    · rw [hv.size hs hp hpn hu]
      exact hQ
    · rw [show q = rk (h (a + 1)) n p by omega, ep]
      exact Int.le_refl _
  · rw [show q = rk (h (a + 1)) n p by omega, ep]
    exact Int.le_refl _
theorem C_ac2_1 {kc ks : Nat} {h : Hh} {Q : PQ} {X : PX} {a n N : Nat} {s pl ra : Int → Int} (hC : CT h a n s pl ra) (hN : CUT (qsz s n) n N) (hQ : Q [aI N] am_R0 h) : ∀ (d i : Nat) (p : Int), p + d = n → i ≤ N → 0 ≤ p → p ≤ stt (qsz s n) i → am_V M_X0_allCuts_2 kc ks 7 [aR 30, aR a, aI i, aI (stt (qsz s n) i), aI p] [] am_R0 h Q X := by
  have t0 := hC.1
  have h64 := hC.2.1
  have hn := hC.2.2.1
  have hZ := qsz_SZ s n
  have hNn := hN.le hZ
  intro d
  induction d with
  | zero =>
    intro i p hp hi p0 hps
    refine S_X0_allCuts_2_7 t0 ⟨fun _ => ?_, fun z => absurd z (by omega)⟩
    have : i = N := by
      apply Classical.byContradiction
      intro z
      have := hN.2 i (by omega)
      omega
    rw [this]
    exact hQ
  | succ d ih =>
    intro i p hp hi p0 hps
    refine S_X0_allCuts_2_7 t0 ⟨fun z => absurd z (by omega), fun _ => ⟨fun z => ⟨by omega, ih i (p + 1) (by omega) hi (by omega) (by omega)⟩, fun z => ⟨by omega, C_qsz hC p0 (by omega) (S_X0_allCuts_2_33 t0 ?_)⟩⟩⟩
    have hlt : i < N := by
      apply Nat.lt_of_le_of_ne hi
      intro e
      rw [e, hN.1] at z
      omega
    have hz := hZ p p0 (by omega)
    have e : stt (qsz s n) i + qsz s n p = stt (qsz s n) (i + 1) := by rw [z]; rfl
    rw [e]
    exact ⟨by omega, ih (i + 1) (p + 1) (by omega) hlt (by omega) (by omega)⟩
theorem C_allCuts2 {kc ks : Nat} {h : Hh} {Q : PQ} {X : PX} {a n N : Nat} {s pl ra : Int → Int} (hC : CT h a n s pl ra) (hN : CUT (qsz s n) n N) (hQ : Q [aI N] am_R0 h) : am_V M_X0_allCuts_2 kc ks 0 [aR 30, aR a, aU, aU, aU] [] am_R0 h Q X :=
  S_X0_allCuts_2_0 hC.1 (C_ac2_1 hC hN hQ n 0 0 (by omega) (by omega) (Int.le_refl 0) (Int.le_refl 0))
theorem C_so2_1 {kc ks : Nat} {h : Hh} {Q : PQ} {X : PX} {a n N I : Nat} {s pl ra : Int → Int} (hC : CT h a n s pl ra) (hN : CUT (qsz s n) n N) (hI : I < N) (hQ : Q [aI (stt (qsz s n) I)] am_R0 h) : ∀ (d i : Nat) (p : Int), p + d = n → i ≤ I → 0 ≤ p → p ≤ stt (qsz s n) i → am_V M_X0_startOf_2 kc ks 8 [aR 30, aR a, aI I, aI i, aI (stt (qsz s n) i), aI p] [] am_R0 h Q X := by
  have t0 := hC.1
  have h64 := hC.2.1
  have hn := hC.2.2.1
  have hZ := qsz_SZ s n
  have hNn := hN.le hZ
  intro d
  induction d with
  | zero =>
    intro i p hp hi p0 hps
    have := hN.2 i (by omega)
    omega
  | succ d ih =>
    intro i p hp hi p0 hps
    refine S_X0_startOf_2_8 t0 ⟨fun z => absurd z (by omega), fun _ => ⟨fun z => ⟨by omega, ih i (p + 1) (by omega) hi (by omega) (by omega)⟩, fun z => ⟨fun y => ⟨by omega, C_qsz hC p0 (by omega) (S_X0_startOf_2_44 t0 ?_)⟩, fun y => ?_⟩⟩⟩
    · have hz := hZ p p0 (by omega)
      have e : stt (qsz s n) i + qsz s n p = stt (qsz s n) (i + 1) := by rw [z]; rfl
      rw [e]
      exact ⟨by omega, ih (i + 1) (p + 1) (by omega) (by omega) (by omega) (by omega)⟩
    · have : i = I := by omega
      rw [z, this]
      exact hQ
theorem C_startOf2 {kc ks : Nat} {h : Hh} {Q : PQ} {X : PX} {a n N I : Nat} {s pl ra : Int → Int} (hC : CT h a n s pl ra) (hN : CUT (qsz s n) n N) (hI : I < N) (hQ : Q [aI (stt (qsz s n) I)] am_R0 h) : am_V M_X0_startOf_2 kc ks 0 [aR 30, aR a, aI I, aU, aU, aU] [] am_R0 h Q X :=
  S_X0_startOf_2_0 hC.1 (C_so2_1 hC hN hI hQ n 0 0 (by omega) (by omega) (Int.le_refl 0) (Int.le_refl 0))
theorem M_longestAhead {kc ks : Nat} {h : Hh} {Q : PQ} {X : PX} {t p : Int} {n : Nat} {s : Int → Int} (hT : MT h t n s) (hp : 0 ≤ p) (hpn : p < n) (hQ : Q [aI (kn s n p p.toNat)] am_R0 h) : am_V M_X11_longestAhead kc ks 0 [aR 72, aI t, aI p] [] am_R0 h Q X := by
  have h64 := hT.2.1
  have ht := hT.1
  have hn := hT.2.2.1
  have hk := kn_le (s := s) (n := n) (p := p) hp (by omega) (m := p.toNat) (by omega)
  refine S_X11_longestAhead_0 ⟨by omega, M_newWords hT hp hpn (S_X11_longestAhead_14 ?_)⟩
  rw [hn, show (n : Int) - p - ((n : Int) - p - (kn s n p p.toNat : Int)) = kn s n p p.toNat by omega]
  exact ⟨by omega, hQ⟩
theorem M_fpc_1 {kc ks : Nat} {Q : PQ} {X : PX} {t : Int} {n N : Nat} {s : Int → Int} (h : Hh) (hT : MT h t n s) (hN : CUT (qsz s n) n N) (hQ : ∀ h', FD (qsz s n) (N + 1) h h' → Q [aI N] am_R0 h') : ∀ (d i : Nat) (h' : Hh), i + d = N → FD (qsz s n) i h h' → am_V M_X11_findPieces kc ks 4 [aR 72, aI t, aI i, aI (stt (qsz s n) i), aU] [] am_R0 h' Q X := by
  have h64 := hT.2.1
  have hZ := qsz_SZ s n
  have hNn := hN.le hZ
  have ht := hT.1
  have put : ∀ (i : Nat) (h' : Hh) (v : Int), v = stt (qsz s n) i → FD (qsz s n) i h h' → FD (qsz s n) (i + 1) h (am_st h' 79 i v) := by
    intro i h' v hv hF
    refine ⟨fun d hd => by rw [am_st_o hd]; exact hF.1 d hd, fun j hj => ?_⟩
    by_cases e : j = i
    · rw [e, am_st_s]; exact hv
    · rw [am_st_n (Or.inr (by omega))]
      exact hF.2 j (by omega)
  intro d
  induction d with
  | zero =>
    intro i h' hi hF
    have : i = N := by omega
    subst this
    have e74 : h' 74 t = n := by rw [hF.1 74 (by decide)]; exact hT.2.2.1
    refine S_X11_findPieces_4 ⟨hT.1, fun _ => ⟨by omega, hQ _ (put i h' _ (by rw [e74, hN.1]) hF)⟩, fun z => ?_⟩
    rw [hN.1] at z
    omega
  | succ d ih =>
    intro i h' hi hF
    obtain ⟨b0, b1⟩ := hN.at hZ (i := i) (by omega)
    have hF2 := put i h' _ rfl hF
    have hT' : MT h' t n s := hT.of (hF.1 73 (by decide)) (hF.1 74 (by decide))
    have hT2 : MT (am_st h' 79 i (stt (qsz s n) i)) t n s := hT.of (hF2.1 73 (by decide)) (hF2.1 74 (by decide))
    have e74 := hT'.2.2.1
    have hz := hZ _ b0 b1
    refine S_X11_findPieces_4 ⟨hT.1, fun z => absurd z (by omega), fun _ => ⟨by omega, M_longestAhead hT2 b0 b1 (S_X11_findPieces_30 ⟨fun z => ⟨by omega, ?_⟩, fun z => ⟨?_, ?_⟩⟩)⟩⟩
    · have e : stt (qsz s n) i + 1 = stt (qsz s n) (i + 1) := by
        show _ = stt (qsz s n) i + qsz s n (stt (qsz s n) i)
        unfold qsz
        unfold qsz at z
        omega
      rw [e]
      exact ih (i + 1) _ (by omega) hF2
    · have hk := kn_le (s := s) (n := n) (p := stt (qsz s n) i) b0 (by omega) (m := (stt (qsz s n) i).toNat) (by omega)
      omega
    · have e : stt (qsz s n) i + (kn s n (stt (qsz s n) i) (stt (qsz s n) i).toNat : Int) = stt (qsz s n) (i + 1) := by
        show _ = stt (qsz s n) i + qsz s n (stt (qsz s n) i)
        unfold qsz
        unfold qsz at z
        omega
      rw [e]
      exact ih (i + 1) _ (by omega) hF2
theorem M_findPieces {kc ks : Nat} {h : Hh} {Q : PQ} {X : PX} {t : Int} {n N : Nat} {s : Int → Int} (hT : MT h t n s) (hN : CUT (qsz s n) n N) (hQ : ∀ h', FD (qsz s n) (N + 1) h h' → Q [aI N] am_R0 h') : am_V M_X11_findPieces kc ks 0 [aR 72, aI t, aU, aU, aU] [] am_R0 h Q X :=
  S_X11_findPieces_0 (M_fpc_1 h hT hN hQ N 0 h (by omega) ⟨fun _ _ => rfl, fun i hi => absurd hi (Nat.not_lt_zero i)⟩)
theorem T_pieces {kc ks : Nat} {h : Hh} {t : Int} (hS : SIM h) (hkc : 1 ≤ kc) (hks : 6 ≤ ks) : am_V M_X10_pieces kc ks 0 [aR 0, aI t] [] am_R0 h (PQok M_X11_pieces [aR 72, aI t] aI) (PXok M_X11_pieces [aR 72, aI t] aI [xIO]) := by
  by_cases z : isTx h t
  · obtain ⟨n, s, pl, ra, hC, hM⟩ := hS.txt z
    obtain ⟨N, hN⟩ := CUT.ex (qsz_SZ s n)
    exact S_X10_pieces_0 ⟨by omega, C_known hS z (by omega) (by omega) (S_X10_pieces_9 hC.1 (C_allCuts2 hC hN (S_X10_pieces_12 (PQ.good hS (NK.rf h) fun kc ks Q X g hN2 hS' k => S_X11_pieces_0 (M_isNone1 hS' (hN2.tx.mpr z) fun h2 m y => S_X11_pieces_5 ⟨fun _ => M_findPieces (m.mt (hN2.mt hM)) hN (fun h3 hF => S_X11_pieces_17 (k h3 (m.tr hF.mk) (by rw [hF.1 72 (by decide)]; exact y))), fun w => absurd rfl w⟩)))))⟩
  · exact S_X10_pieces_0 ⟨by omega, C_known0 hS z (by omega) (by omega) (PX.bad 0 hS (NK.rf h) rfl fun kc ks Q X hS' k => S_X11_pieces_0 (M_isNone0 hS z fun h2 m y => S_X11_pieces_5 ⟨fun w => absurd w (by decide), fun _ => k 0 h2 m y⟩))⟩
theorem C_knownWithPiece {kc ks : Nat} {h : Hh} {Q : PQ} {X : PX} {t x : Int} (hS : SIM h) (hkc : 2 ≤ kc) (hks : 12 ≤ ks) (hQ : ∀ (n N I : Nat) (s pl ra : Int → Int), isTx h t → CT h (ta t) n s pl ra → MT h t n s → CUT (qsz s n) n N → x = I → I < N → Q [aR (ta t)] am_R0 h) (hX0 : ¬ isTx h t → X xIO am_R0 h) (hX1 : ∀ (n N : Nat) (s : Int → Int), isTx h t → MT h t n s → CUT (qsz s n) n N → N ≤ 64 → ¬ (0 ≤ x ∧ x < N) → X xIO am_R0 h) : am_V M_X10_knownWithPiece kc ks 0 [aR 0, aI t, aI x, aU] [] am_R0 h Q X := by
  by_cases z : isTx h t
  · obtain ⟨n, s, pl, ra, hC, hM⟩ := hS.txt z
    obtain ⟨N, hN⟩ := CUT.ex (qsz_SZ s n)
    have h64 := hC.2.1
    have hNn := hN.le (qsz_SZ s n)
    exact S_X10_knownWithPiece_0 ⟨by omega, C_known hS z (by omega) (by omega) (S_X10_knownWithPiece_5 hC.1 ⟨fun v => ⟨by omega, hX1 n N s z hM hN (by omega) (by omega)⟩, fun v => C_allCuts2 hC hN (S_X10_knownWithPiece_19 hC.1 ⟨fun w => hQ n N x.toNat s pl ra z hC hM hN (by omega) (by omega), fun w => ⟨by omega, hX1 n N s z hM hN (by omega) (by omega)⟩⟩)⟩)⟩
  · exact S_X10_knownWithPiece_0 ⟨by omega, C_known0 hS z (by omega) (by omega) (hX0 z)⟩
theorem M_isNoPiece1 {kc ks : Nat} {h : Hh} {Q : PQ} {X : PX} {t : Int} {n N I : Nat} {s : Int → Int} (hS : SIM h) (z : isTx h t) (hM : MT h t n s) (hN : CUT (qsz s n) n N) (hI : I < N) (hQ : ∀ h2, MK h h2 → (∀ i : Nat, i ≤ N → h2 79 i = stt (qsz s n) i) → h2 72 10 = 0 → Q [aI 0] am_R0 h2) : am_V M_X11_isNoPiece kc ks 0 [aR 72, aI t, aI I] [] am_R0 h Q X := by
  have h64 := hM.2.1
  have hNn := hN.le (qsz_SZ s n)
  refine S_X11_isNoPiece_0 (M_isText1 hS z (S_X11_isNoPiece_6 ⟨fun w => absurd w (by decide), fun _ => M_findPieces hM hN (fun h3 hF => S_X11_isNoPiece_16 ⟨by omega, L_isBetween (fun _ => S_X11_isNoPiece_21 ⟨fun u => absurd u (by decide), fun _ => M_isWrongK fun h4 m4 f4 y4 => S_X11_isNoPiece_32 ⟨Or.inl rfl, hQ h4 (hF.mk.tr m4) (fun i hi => ?_) y4⟩⟩) (fun u => absurd ⟨by omega, by omega⟩ u)⟩)⟩))
  rw [f4 79 (by decide)]
  exact hF.2 i (by omega)
theorem M_isNoPiece0 {kc ks : Nat} {h : Hh} {Q : PQ} {X : PX} {t x : Int} {n N : Nat} {s : Int → Int} (hS : SIM h) (z : isTx h t) (hM : MT h t n s) (hN : CUT (qsz s n) n N) (hI : ¬ (0 ≤ x ∧ x < N)) (hQ : ∀ h2, MK h h2 → h2 72 10 = 1 → Q [aI 1] am_R0 h2) : am_V M_X11_isNoPiece kc ks 0 [aR 72, aI t, aI x] [] am_R0 h Q X := by
  have h64 := hM.2.1
  have hNn := hN.le (qsz_SZ s n)
  exact S_X11_isNoPiece_0 (M_isText1 hS z (S_X11_isNoPiece_6 ⟨fun w => absurd w (by decide), fun _ => M_findPieces hM hN (fun h3 hF => S_X11_isNoPiece_16 ⟨by omega, L_isBetween (fun u => absurd ⟨u.1, by omega⟩ hI) (fun _ => S_X11_isNoPiece_21 ⟨fun _ => M_isWrong fun h4 m4 y4 => S_X11_isNoPiece_32 ⟨Or.inr rfl, hQ h4 (hF.mk.tr m4) y4⟩, fun u => absurd rfl u⟩)⟩)⟩))
theorem M_isNoPieceX {kc ks : Nat} {h : Hh} {Q : PQ} {X : PX} {t x : Int} (hS : SIM h) (z : ¬ isTx h t) (hQ : ∀ h2, MK h h2 → h2 72 10 = 1 → Q [aI 1] am_R0 h2) : am_V M_X11_isNoPiece kc ks 0 [aR 72, aI t, aI x] [] am_R0 h Q X :=
  S_X11_isNoPiece_0 (M_isText0 hS z (S_X11_isNoPiece_6 ⟨fun _ => M_isWrong fun h4 m4 y4 => S_X11_isNoPiece_32 ⟨Or.inr rfl, hQ h4 m4 y4⟩, fun w => absurd rfl w⟩))
theorem T_pieceLength {kc ks : Nat} {h : Hh} {t x : Int} (hS : SIM h) (hkc : 2 ≤ kc) (hks : 12 ≤ ks) : am_V M_X10_pieceLength kc ks 0 [aR 0, aI t, aI x, aU] [] am_R0 h (PQok M_X11_pieceLength [aR 72, aI t, aI x] aI) (PXok M_X11_pieceLength [aR 72, aI t, aI x] aI [xIO]) := by
  refine S_X10_pieceLength_0 ⟨by omega, C_knownWithPiece hS (by omega) (by omega) (fun n N I s pl ra z hC hM hN hx hI => ?_) (fun z => PX.bad 0 hS (NK.rf h) rfl fun kc ks Q X hS' k => S_X11_pieceLength_0 (M_isNoPieceX hS z fun h2 m y => S_X11_pieceLength_6 ⟨fun w => absurd w (by decide), fun _ => k 0 h2 m y⟩)) (fun n N s z hM hN _ hI => PX.bad 0 hS (NK.rf h) rfl fun kc ks Q X hS' k => S_X11_pieceLength_0 (M_isNoPiece0 hS z hM hN hI fun h2 m y => S_X11_pieceLength_6 ⟨fun w => absurd w (by decide), fun _ => k 0 h2 m y⟩))⟩
  subst hx
  obtain ⟨b0, b1⟩ := hN.at (qsz_SZ s n) hI
  have h64 := hC.2.1
  have hNn := hN.le (qsz_SZ s n)
  refine S_X10_pieceLength_6 hC.1 (C_startOf2 hC hN hI (S_X10_pieceLength_21 hC.1 (C_qsz hC b0 b1 (S_X10_pieceLength_24 (PQ.good hS (NK.rf h) fun kc ks Q X g hN2 hS' k => S_X11_pieceLength_0 (M_isNoPiece1 hS' (hN2.tx.mpr z) (hN2.mt hM) hN hI fun h2 m hF y => S_X11_pieceLength_6 ⟨fun _ => ?_, fun w => absurd rfl w⟩))))))
  have e1 := hF (I + 1) (by omega)
  have e0 := hF I (by omega)
  have e2 : stt (qsz s n) (I + 1) = stt (qsz s n) I + qsz s n (stt (qsz s n) I) := rfl
  have hz := qsz_SZ s n _ b0 b1
  rw [show ((I + 1 : Nat) : Int) = (I : Int) + 1 by omega] at e1
  rw [e1, e0, show stt (qsz s n) (I + 1) - stt (qsz s n) I = qsz s n (stt (qsz s n) I) by omega]
  exact ⟨by omega, k h2 m y⟩
