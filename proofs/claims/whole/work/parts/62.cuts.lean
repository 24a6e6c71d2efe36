/-! parts, partAt -/
theorem am_st_i {h : Hh} {a : Nat} {i j v : Int} : am_st h a j v a i = if i = j then v else h a i := by simp [am_st]
theorem C_psz_1 {kc ks : Nat} {h : Hh} {Q : PQ} {X : PX} {a n : Nat} {s pl ra : Int → Int} (hC : CT h a n s pl ra) {p : Int} (hp : 0 ≤ p) (hpn : p < n) (hQ : Q [aI (psz s n p)] am_R0 h) : ∀ (d : Nat) (c j : Int), j + d = n → DUV s p c j → am_V M_X3_sizeFrom kc ks 7 [aU, aR a, aI p, aI c, aI j] [] am_R0 h Q X := by
  obtain ⟨t0, n64, hn, rfl, rfl, rfl, hs, hSA, hcm⟩ := id hC
  have fin : ∀ c j : Int, j ≤ n → DUV (h (a + 1)) p c j → (j = n ∨ h (a + 1) j < h (a + 1) c) → Q [aI (j - c)] am_R0 h := by
    intro c j hj hD he
    rw [(hD.done hj he).uniq (psz_at hp hpn)]
    exact hQ
  intro d
  induction d with
  | zero =>
    intro c j hj hD
    have h1 := hD.1
    have h2 := hD.2.1
    exact S_X3_sizeFrom_7 t0 ⟨fun _ => ⟨by omega, fin c j (by omega) hD (Or.inl (by omega))⟩, fun z => absurd z (by omega)⟩
  | succ d ih =>
    intro c j hj hD
    have h1 := hD.1
    have h2 := hD.2.1
    refine S_X3_sizeFrom_7 t0 ⟨fun z => absurd z (by omega), fun _ => ⟨by omega, fun y => ⟨by omega, fin c j (by omega) hD (Or.inr y)⟩, fun y => ⟨by omega, fun w => ⟨by omega, ih (c + 1) (j + 1) (by omega) (hD.same (by omega))⟩, fun w => ⟨by omega, ih p (j + 1) (by omega) (hD.up w)⟩⟩⟩⟩
theorem C_psz {kc ks : Nat} {h : Hh} {Q : PQ} {X : PX} {a n : Nat} {s pl ra : Int → Int} (hC : CT h a n s pl ra) {p : Int} (hp : 0 ≤ p) (hpn : p < n) (hQ : Q [aI (psz s n p)] am_R0 h) : am_V M_X3_sizeFrom kc ks 0 [aR 29, aR a, aI p, aU, aU] [] am_R0 h Q X := by
  have h64 := hC.2.1
  exact S_X3_sizeFrom_0 hC.1 ⟨by omega, C_psz_1 hC hp hpn hQ (n - (p + 1)).toNat p (p + 1) (by omega) DUV.init⟩
theorem C_ac3_1 {kc ks : Nat} {h : Hh} {Q : PQ} {X : PX} {a n N : Nat} {s pl ra : Int → Int} (hC : CT h a n s pl ra) (hN : CUT (psz s n) n N) (hQ : Q [aI N] am_R0 h) : ∀ (d i : Nat) (p : Int), p + d = n → i ≤ N → 0 ≤ p → p ≤ stt (psz s n) i → am_V M_X0_allCuts_3 kc ks 7 [aR 29, aR a, aI i, aI (stt (psz s n) i), aI p] [] am_R0 h Q X := by
  have t0 := hC.1
  have h64 := hC.2.1
  have hn := hC.2.2.1
  have hZ := psz_SZ s n
  have hNn := hN.le hZ
  intro d
  induction d with
  | zero =>
    intro i p hp hi p0 hps
    refine S_X0_allCuts_3_7 t0 ⟨fun _ => ?_, fun z => absurd z (by omega)⟩
    have : i = N := by
      apply Classical.byContradiction
      intro z
      have := hN.2 i (by omega)
      omega
    rw [this]
    exact hQ
  | succ d ih =>
    intro i p hp hi p0 hps
    refine S_X0_allCuts_3_7 t0 ⟨fun z => absurd z (by omega), fun _ => ⟨fun z => ⟨by omega, ih i (p + 1) (by omega) hi (by omega) (by omega)⟩, fun z => ⟨by omega, C_psz hC p0 (by omega) (S_X0_allCuts_3_33 t0 ?_)⟩⟩⟩
    have hlt : i < N := by
      apply Nat.lt_of_le_of_ne hi
      intro e
      rw [e, hN.1] at z
      omega
    have hz := hZ p p0 (by omega)
    have e : stt (psz s n) i + psz s n p = stt (psz s n) (i + 1) := by rw [z]; rfl
    rw [e]
    exact ⟨by omega, ih (i + 1) (p + 1) (by omega) hlt (by omega) (by omega)⟩
theorem C_allCuts3 {kc ks : Nat} {h : Hh} {Q : PQ} {X : PX} {a n N : Nat} {s pl ra : Int → Int} (hC : CT h a n s pl ra) (hN : CUT (psz s n) n N) (hQ : Q [aI N] am_R0 h) : am_V M_X0_allCuts_3 kc ks 0 [aR 29, aR a, aU, aU, aU] [] am_R0 h Q X :=
  S_X0_allCuts_3_0 hC.1 (C_ac3_1 hC hN hQ n 0 0 (by omega) (by omega) (Int.le_refl 0) (Int.le_refl 0))
theorem C_so3_1 {kc ks : Nat} {h : Hh} {Q : PQ} {X : PX} {a n N I : Nat} {s pl ra : Int → Int} (hC : CT h a n s pl ra) (hN : CUT (psz s n) n N) (hI : I < N) (hQ : Q [aI (stt (psz s n) I)] am_R0 h) : ∀ (d i : Nat) (p : Int), p + d = n → i ≤ I → 0 ≤ p → p ≤ stt (psz s n) i → am_V M_X0_startOf_3 kc ks 8 [aR 29, aR a, aI I, aI i, aI (stt (psz s n) i), aI p] [] am_R0 h Q X := by
  have t0 := hC.1
  have h64 := hC.2.1
  have hn := hC.2.2.1
  have hZ := psz_SZ s n
  have hNn := hN.le hZ
  intro d
  induction d with
  | zero =>
    intro i p hp hi p0 hps
    have := hN.2 i (by omega)
    omega
  | succ d ih =>
    intro i p hp hi p0 hps
    refine S_X0_startOf_3_8 t0 ⟨fun z => absurd z (by omega), fun _ => ⟨fun z => ⟨by omega, ih i (p + 1) (by omega) hi (by omega) (by omega)⟩, fun z => ⟨fun y => ⟨by omega, C_psz hC p0 (by omega) (S_X0_startOf_3_44 t0 ?_)⟩, fun y => ?_⟩⟩⟩
    · have hz := hZ p p0 (by omega)
      have e : stt (psz s n) i + psz s n p = stt (psz s n) (i + 1) := by rw [z]; rfl
      rw [e]
      exact ⟨by omega, ih (i + 1) (p + 1) (by omega) (by omega) (by omega) (by omega)⟩
    · have : i = I := by omega
      rw [z, this]
      exact hQ
theorem C_startOf3 {kc ks : Nat} {h : Hh} {Q : PQ} {X : PX} {a n N I : Nat} {s pl ra : Int → Int} (hC : CT h a n s pl ra) (hN : CUT (psz s n) n N) (hI : I < N) (hQ : Q [aI (stt (psz s n) I)] am_R0 h) : am_V M_X0_startOf_3 kc ks 0 [aR 29, aR a, aI I, aU, aU, aU] [] am_R0 h Q X :=
  S_X0_startOf_3_0 hC.1 (C_so3_1 hC hN hI hQ n 0 0 (by omega) (by omega) (Int.le_refl 0) (Int.le_refl 0))
theorem M_pl_1 {kc ks : Nat} {h : Hh} {Q : PQ} {X : PX} {t p L : Int} {n : Nat} {s : Int → Int} (hT : MT h t n s) (hp : 0 ≤ p) (hL : p + L ≤ n) (h1 : PLN s p L → Q [aI 1] am_R0 h) (h0 : ¬ PLN s p L → Q [aI 0] am_R0 h) : ∀ (d : Nat) (e : Int), e + d = L → 1 ≤ e → (∀ f, 1 ≤ f → f < e → ∃ k : Nat, f + k < L ∧ AG s s p (p + f) k ∧ s (p + k) < s (p + f + k)) → am_V M_X11_isPlain kc ks 3 [aR 72, aI t, aI p, aI L, aI e, aU] [] am_R0 h Q X := by
  have h64 := hT.2.1
  have hn := hT.2.2.1
  have ht := hT.1
  have hms := hT.2.2.2.2
  intro d
  induction d with
  | zero =>
    intro e he e1 hz
    exact S_X11_isPlain_3 ⟨fun _ => h1 fun f f1 f2 => hz f f1 (by omega), fun z => absurd z (by omega)⟩
  | succ d ih =>
    intro e he e1 hz
    have hat := PLN_at (s := s) (n := n) hp e1 (show e < L by omega) hL
    refine S_X11_isPlain_3 ⟨fun z => absurd z (by omega), fun _ => ⟨by omega, M_together hT hT hp (by omega) (by omega) (by omega) ?_⟩⟩
    have l1 := Lc_1 (s := s) (t := s) (n := n) (m := n) (p := p) (q := p + e) (by omega) (by omega)
    have l2 := Lc_2 (s := s) (t := s) (n := n) (m := n) (p := p) (q := p + e) (by omega) (by omega)
    have ne := @Lc_ne s s n n p (p + e)
    generalize Lc s n s n p (p + e) = k at hat l1 l2 ne ⊢
    refine S_X11_isPlain_20 ⟨by omega, fun z => h0 fun w => ?_, fun z => ?_⟩
    · have := (hat.mp (w e e1 (by omega))).1
      omega
    · have q1 := hms (p + k) (by omega) (by omega)
      have q2 := hms (p + e + k) (by omega) (by omega)
      unfold ms at q1 q2
      rw [show 64 * t + (p + (k : Int)) = 64 * t + p + k by omega] at q1
      rw [show 64 * t + (p + e + (k : Int)) = 64 * t + p + e + k by omega] at q2
      have ne2 := ne (by omega) (by omega)
      refine ⟨by omega, fun w => ⟨by omega, ih (e + 1) (by omega) (by omega) fun f f1 f2 => ?_⟩, fun w => h0 fun v => ?_⟩
      · by_cases y : f = e
        · rw [y]
          exact hat.mpr ⟨z, by omega⟩
        · exact hz f f1 (by omega)
      · have := (hat.mp (v e e1 (by omega))).2
        omega
theorem M_isPlain {kc ks : Nat} {h : Hh} {Q : PQ} {X : PX} {t p L : Int} {n : Nat} {s : Int → Int} (hT : MT h t n s) (hp : 0 ≤ p) (hL1 : 1 ≤ L) (hL : p + L ≤ n) (h1 : PLN s p L → Q [aI 1] am_R0 h) (h0 : ¬ PLN s p L → Q [aI 0] am_R0 h) : am_V M_X11_isPlain kc ks 0 [aR 72, aI t, aI p, aI L, aU, aU] [] am_R0 h Q X :=
  S_X11_isPlain_0 (M_pl_1 hT hp hL h1 h0 (L - 1).toNat 1 (by omega) (Int.le_refl 1) (fun f f1 f2 => by omega))
theorem M_fp_2 {kc ks : Nat} {h : Hh} {Q : PQ} {X : PX} {t : Int} {n i : Nat} {s : Int → Int} (hT : MT h t n s) {p : Int} (hp : 0 ≤ p) (hpn : p < n) (hi : i < 64) (hQ : am_V M_X11_findParts kc ks 4 [aR 72, aI t, aI ((i : Int) + 1), aI (p + psz s n p), aU] [] am_R0 (am_st h 79 i p) Q X) : ∀ (d : Nat) (L : Int), L = psz s n p + d → p + L ≤ n → am_V M_X11_findParts kc ks 24 [aR 72, aI t, aI i, aI p, aI L] [] am_R0 h Q X := by
  have h64 := hT.2.1
  have hz := psz_at (s := s) hp hpn
  intro d
  induction d with
  | zero =>
    intro L hL hLn
    have : L = psz s n p := by omega
    subst this
    have h1 := hz.1
    exact S_X11_findParts_24 (M_isPlain hT hp hz.1 hLn (fun _ => S_X11_findParts_32 ⟨fun _ => ⟨by omega, hQ⟩, fun z => absurd z (by decide)⟩) (fun z => absurd hz.2.2.1 z))
  | succ d ih =>
    intro L hL hLn
    have h1 := hz.1
    exact S_X11_findParts_24 (M_isPlain hT hp (by omega) hLn (fun z => absurd z (hz.2.2.2 L (by omega) hLn)) (fun _ => S_X11_findParts_32 ⟨fun z => absurd rfl z, fun _ => ⟨by omega, ih (L + -1) (by omega) (by omega)⟩⟩))
/-- the places that were found -/
def FD (sz : Int → Int) (N : Nat) (h h' : Hh) : Prop := (∀ d, d ≠ 79 → h' d = h d) ∧ ∀ i : Nat, i < N → h' 79 i = stt sz i
theorem M_fp_1 {kc ks : Nat} {Q : PQ} {X : PX} {t : Int} {n N : Nat} {s : Int → Int} (h : Hh) (hT : MT h t n s) (hN : CUT (psz s n) n N) (hQ : ∀ h', FD (psz s n) N h h' → Q [aI N] am_R0 h') : ∀ (d i : Nat) (h' : Hh), i + d = N → FD (psz s n) i h h' → am_V M_X11_findParts kc ks 4 [aR 72, aI t, aI i, aI (stt (psz s n) i), aU] [] am_R0 h' Q X := by
  have h64 := hT.2.1
  have hZ := psz_SZ s n
  have hNn := hN.le hZ
  intro d
  induction d with
  | zero =>
    intro i h' hi hF
    have : i = N := by omega
    subst this
    have e74 : h' 74 t = n := by rw [hF.1 74 (by decide)]; exact hT.2.2.1
    refine S_X11_findParts_4 ⟨hT.1, fun _ => hQ h' hF, fun z => ?_⟩
    rw [hN.1] at z
    omega
  | succ d ih =>
    intro i h' hi hF
    have hT' : MT h' t n s := hT.of (hF.1 73 (by decide)) (hF.1 74 (by decide))
    have e74 := hT'.2.2.1
    obtain ⟨b0, b1⟩ := hN.at hZ (i := i) (by omega)
    have hz := hZ _ b0 b1
    refine S_X11_findParts_4 ⟨hT.1, fun z => absurd z (by omega), fun _ => ⟨by have := hT.1; omega, ?_⟩⟩
    rw [e74]
    refine M_fp_2 hT' b0 b1 (by omega) ?_ (n - stt (psz s n) i - psz s n (stt (psz s n) i)).toNat _ (by omega) (by omega)
    refine ih (i + 1) _ (by omega) ⟨fun d hd => by rw [am_st_o hd]; exact hF.1 d hd, fun j hj => ?_⟩
    by_cases e : j = i
    · rw [e, am_st_s]
    · rw [am_st_n (Or.inr (by omega))]
      exact hF.2 j (by omega)
theorem M_findParts {kc ks : Nat} {h : Hh} {Q : PQ} {X : PX} {t : Int} {n N : Nat} {s : Int → Int} (hT : MT h t n s) (hN : CUT (psz s n) n N) (hQ : ∀ h', FD (psz s n) N h h' → Q [aI N] am_R0 h') : am_V M_X11_findParts kc ks 0 [aR 72, aI t, aU, aU, aU] [] am_R0 h Q X :=
  S_X11_findParts_0 (M_fp_1 h hT hN hQ N 0 h (by omega) ⟨fun _ _ => rfl, fun i hi => absurd hi (Nat.not_lt_zero i)⟩)
theorem FD.mk {sz : Int → Int} {N : Nat} {h h' : Hh} (hF : FD sz N h h') : MK h h' := MK.of (fun d _ _ _ d4 _ => hF.1 d d4)
theorem M_isWrongK {kc ks : Nat} {h : Hh} {Q : PQ} {X : PX} {c : Int} (hQ : ∀ h2, MK h h2 → (∀ d, d ≠ 72 → h2 d = h d) → h2 72 10 = c → Q [aI (if c = 0 then 0 else 1)] am_R0 h2) : am_V M_X11_isWrong kc ks 0 [aR 72, aI c] [] am_R0 h Q X := L_isWrong (hQ _ (MK.rf h).th (fun d hd => am_st_o hd) am_st_s)
theorem T_parts {kc ks : Nat} {h : Hh} {t : Int} (hS : SIM h) (hkc : 1 ≤ kc) (hks : 6 ≤ ks) : am_V M_X10_parts kc ks 0 [aR 0, aI t] [] am_R0 h (PQok M_X11_parts [aR 72, aI t] aI) (PXok M_X11_parts [aR 72, aI t] aI [xIO]) := by
  by_cases z : isTx h t
  · obtain ⟨n, s, pl, ra, hC, hM⟩ := hS.txt z
    obtain ⟨N, hN⟩ := CUT.ex (psz_SZ s n)
    exact S_X10_parts_0 ⟨by omega, C_known hS z (by omega) (by omega) (S_X10_parts_9 hC.1 (C_allCuts3 hC hN (S_X10_parts_12 (PQ.good hS (NK.rf h) fun kc ks Q X g hN2 hS' k => S_X11_parts_0 (M_isNone1 hS' (hN2.tx.mpr z) fun h2 m y => S_X11_parts_5 ⟨fun _ => M_findParts (m.mt (hN2.mt hM)) hN (fun h3 hF => S_X11_parts_17 (k h3 (m.tr hF.mk) (by rw [hF.1 72 (by decide)]; exact y))), fun w => absurd rfl w⟩)))))⟩
  · exact S_X10_parts_0 ⟨by omega, C_known0 hS z (by omega) (by omega) (PX.bad 0 hS (NK.rf h) rfl fun kc ks Q X hS' k => S_X11_parts_0 (M_isNone0 hS z fun h2 m y => S_X11_parts_5 ⟨fun w => absurd w (by decide), fun _ => k 0 h2 m y⟩))⟩
theorem T_partAt {kc ks : Nat} {h : Hh} {t x : Int} (hS : SIM h) (hkc : 2 ≤ kc) (hks : 12 ≤ ks) : am_V M_X10_partAt kc ks 0 [aR 0, aI t, aI x, aU] [] am_R0 h (PQok M_X11_partAt [aR 72, aI t, aI x, aU] aI) (PXok M_X11_partAt [aR 72, aI t, aI x, aU] aI [xIO]) := by
  by_cases z : isTx h t
  · obtain ⟨n, s, pl, ra, hC, hM⟩ := hS.txt z
    obtain ⟨N, hN⟩ := CUT.ex (psz_SZ s n)
    have hNn := hN.le (psz_SZ s n)
    have h64 := hC.2.1
    have bad : ¬ (0 ≤ x ∧ x < N) → PXok M_X11_partAt [aR 72, aI t, aI x, aU] aI [xIO] xIO am_R0 h := fun v => PX.bad 0 hS (NK.rf h) rfl fun kc ks Q X hS' k => S_X11_partAt_0 (M_isText1 hS' z (S_X11_partAt_5 ⟨fun w => absurd w (by decide), fun _ => M_findParts hM hN (fun h3 hF => S_X11_partAt_15 ⟨by omega, L_isBetween (fun u => absurd ⟨u.1, by omega⟩ v) (fun _ => S_X11_partAt_20 ⟨fun _ => M_isWrong fun h4 m4 y4 => S_X11_partAt_42 ⟨fun u => absurd u (by decide), fun _ => k 0 h4 (hF.mk.tr m4) y4⟩, fun u => absurd rfl u⟩)⟩)⟩))
    refine S_X10_partAt_0 ⟨by omega, C_known hS z (by omega) (by omega) (S_X10_partAt_5 hC.1 ⟨fun v => ⟨by omega, bad (by omega)⟩, fun v => C_allCuts3 hC hN (S_X10_partAt_19 hC.1 ⟨fun w => ?_, fun w => ⟨by omega, bad (by omega)⟩⟩)⟩)⟩
    obtain ⟨I, rfl⟩ : ∃ I : Nat, x = I := ⟨x.toNat, by omega⟩
    refine C_startOf3 hC hN (by omega) (S_X10_partAt_42 (PQ.good hS (NK.rf h) fun kc ks Q X g hN2 hS' k => S_X11_partAt_0 (M_isText1 hS' (hN2.tx.mpr z) (S_X11_partAt_5 ⟨fun w => absurd w (by decide), fun _ => M_findParts (hN2.mt hM) hN (fun h3 hF => S_X11_partAt_15 ⟨by omega, L_isBetween (fun _ => S_X11_partAt_20 ⟨fun u => absurd u (by decide), fun _ => M_isWrongK fun h4 m4 f4 y4 => S_X11_partAt_42 ⟨fun _ => ⟨by omega, ?_⟩, fun u => absurd rfl u⟩⟩) (fun u => absurd ⟨v, by omega⟩ u)⟩)⟩))))
    rw [f4 79 (by decide), hF.2 I (by omega)]
    exact k h4 (hF.mk.tr m4) y4
  · exact S_X10_partAt_0 ⟨by omega, C_known0 hS z (by omega) (by omega) (PX.bad 0 hS (NK.rf h) rfl fun kc ks Q X hS' k => S_X11_partAt_0 (M_isText0 hS z (S_X11_partAt_5 ⟨fun _ => M_isWrong fun h4 m4 y4 => S_X11_partAt_42 ⟨fun u => absurd u (by decide), fun _ => k 0 h4 m4 y4⟩, fun w => absurd rfl w⟩)))⟩
