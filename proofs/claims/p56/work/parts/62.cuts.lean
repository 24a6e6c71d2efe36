variable {WM : List (Nat × Nat)} {wd : Bool}
/-! parts, partAt -/
theorem am_st_i {h : Hh} {a : Nat} {i j v : Int} : am_st h a j v a i = if i = j then v else h a i := by simp [am_st]
theorem C_psz_1 {kc ks : Nat} {h : Hh} {Q : PQ} {X : PX} {a n : Nat} {s pl ra : Int → Int} (hC : CT h a n s pl ra) {p : Int} (hp : 0 ≤ p) (hpn : p < n) (hQ : Q [aI (psz s n p)] (RM WM wd) h) : ∀ (d : Nat) (c j : Int), j + d = n → DUV s p c j → am_V M_X3_sizeFrom kc ks 7 [aU, aR a, aI p, aI c, aI j] [] (RM WM wd) h Q X := by
  obtain ⟨t0, n64, hn, rfl, rfl, rfl, hs, hSA, hcm⟩ := id hC
  have fin : ∀ c j : Int, j ≤ n → DUV (h (a + 1)) p c j → (j = n ∨ h (a + 1) j < h (a + 1) c) → Q [aI (j - c)] (RM WM wd) h := by
    intro c j hj hD he
    rw [(hD.done hj he).uniq (psz_at hp hpn)]
    exact hQ
  intro d
  induction d with
  | zero =>
    intro c j hj hD
    have h1 := hD.1
    have h2 := hD.2.1
    exact S_X3_sizeFrom_7 t0 ⟨fun _ => ⟨by omega, fin c j (by omega) hD (Or.inl (by omega))⟩, fun z => absurd z (by omega)⟩
  | succ d ih =>
    intro c j hj hD
    have h1 := hD.1
    have h2 := hD.2.1
    refine S_X3_sizeFrom_7 t0 ⟨fun z => absurd z (by omega), fun _ => ⟨by omega, fun y => ⟨by omega, fin c j (by omega) hD (Or.inr y)⟩, fun y => ⟨by omega, fun w => ⟨by omega, ih (c + 1) (j + 1) (by omega) (hD.same (by omega))⟩, fun w => ⟨by omega, ih p (j + 1) (by omega) (hD.up w)⟩⟩⟩⟩
theorem C_psz {kc ks : Nat} {h : Hh} {Q : PQ} {X : PX} {a n : Nat} {s pl ra : Int → Int} (hC : CT h a n s pl ra) {p : Int} (hp : 0 ≤ p) (hpn : p < n) (hQ : Q [aI (psz s n p)] (RM WM wd) h) : am_V M_X3_sizeFrom kc ks 0 [aR 29, aR a, aI p, aU, aU] [] (RM WM wd) h Q X := by
  have h64 := hC.2.1
  exact S_X3_sizeFrom_0 hC.1 ⟨by omega, C_psz_1 hC hp hpn hQ (n - (p + 1)).toNat p (p + 1) (by omega) DUV.init⟩
theorem C_ac3_1 {kc ks : Nat} {h : Hh} {Q : PQ} {X : PX} {a n N : Nat} {s pl ra : Int → Int} (hC : CT h a n s pl ra) (hN : CUT (psz s n) n N) (hQ : Q [aI N] (RM WM wd) h) : ∀ (d i : Nat) (p : Int), p + d = n → i ≤ N → 0 ≤ p → p ≤ stt (psz s n) i → am_V M_X0_allCuts_3 kc ks 7 [aR 29, aR a, aI i, aI (stt (psz s n) i), aI p] [] (RM WM wd) h Q X := by
  have t0 := hC.1
  have h64 := hC.2.1
  have hn := hC.2.2.1
  have hZ := psz_SZ s n
  have hNn := hN.le hZ
  intro d
  induction d with
  | zero =>
    intro i p hp hi p0 hps
    refine S_X0_allCuts_3_7 t0 ⟨fun _ => ?_, fun z => absurd z (by omega)⟩
    have : i = N := by
      apply Classical.byContradiction
      intro z
      have := hN.2 i (by omega)
      omega
    rw [this]
    exact hQ
  | succ d ih =>
    intro i p hp hi p0 hps
    refine S_X0_allCuts_3_7 t0 ⟨fun z => absurd z (by omega), fun _ => ⟨fun z => ⟨by omega, ih i (p + 1) (by omega) hi (by omega) (by omega)⟩, fun z => ⟨by omega, C_psz hC p0 (by omega) (S_X0_allCuts_3_33 t0 ?_)⟩⟩⟩
    have hlt : i < N := by
      apply Nat.lt_of_le_of_ne hi
      intro e
      rw [e, hN.1] at z
      omega
    have hz := hZ p p0 (by omega)
    have e : stt (psz s n) i + psz s n p = stt (psz s n) (i + 1) := by rw [z]; rfl
    rw [e]
    exact ⟨by omega, ih (i + 1) (p + 1) (by omega) hlt (by omega) (by omega)⟩
theorem C_allCuts3 {kc ks : Nat} {h : Hh} {Q : PQ} {X : PX} {a n N : Nat} {s pl ra : Int → Int} (hC : CT h a n s pl ra) (hN : CUT (psz s n) n N) (hQ : Q [aI N] (RM WM wd) h) : am_V M_X0_allCuts_3 kc ks 0 [aR 29, aR a, aU, aU, aU] [] (RM WM wd) h Q X :=
  S_X0_allCuts_3_0 hC.1 (C_ac3_1 hC hN hQ n 0 0 (by omega) (by omega) (Int.le_refl 0) (Int.le_refl 0))
theorem C_so3_1 {kc ks : Nat} {h : Hh} {Q : PQ} {X : PX} {a n N I : Nat} {s pl ra : Int → Int} (hC : CT h a n s pl ra) (hN : CUT (psz s n) n N) (hI : I < N) (hQ : Q [aI (stt (psz s n) I)] (RM WM wd) h) : ∀ (d i : Nat) (p : Int), p + d = n → i ≤ I → 0 ≤ p → p ≤ stt (psz s n) i → am_V M_X0_startOf_3 kc ks 8 [aR 29, aR a, aI I, aI i, aI (stt (psz s n) i), aI p] [] (RM WM wd) h Q X := by
  have t0 := hC.1
  have h64 := hC.2.1
  have hn := hC.2.2.1
  have hZ := psz_SZ s n
  have hNn := hN.le hZ
  intro d
  induction d with
  | zero =>
    intro i p hp hi p0 hps
    have := hN.2 i (by omega)
    omega
  | succ d ih =>
    intro i p hp hi p0 hps
    refine S_X0_startOf_3_8 t0 ⟨fun z => absurd z (by omega), fun _ => ⟨fun z => ⟨by omega, ih i (p + 1) (by omega) hi (by omega) (by omega)⟩, fun z => ⟨fun y => ⟨by omega, C_psz hC p0 (by omega) (S_X0_startOf_3_44 t0 ?_)⟩, fun y => ?_⟩⟩⟩
    · have hz := hZ p p0 (by omega)
      have e : stt (psz s n) i + psz s n p = stt (psz s n) (i + 1) := by rw [z]; rfl
      rw [e]
      exact ⟨by omega, ih (i + 1) (p + 1) (by omega) (by omega) (by omega) (by omega)⟩
    · have : i = I := by omega
      rw [z, this]
      exact hQ
theorem C_startOf3 {kc ks : Nat} {h : Hh} {Q : PQ} {X : PX} {a n N I : Nat} {s pl ra : Int → Int} (hC : CT h a n s pl ra) (hN : CUT (psz s n) n N) (hI : I < N) (hQ : Q [aI (stt (psz s n) I)] (RM WM wd) h) : am_V M_X0_startOf_3 kc ks 0 [aR 29, aR a, aI I, aU, aU, aU] [] (RM WM wd) h Q X :=
  S_X0_startOf_3_0 hC.1 (C_so3_1 hC hN hI hQ n 0 0 (by omega) (by omega) (Int.le_refl 0) (Int.le_refl 0))
/-- the places that were found -/
def FD (sz : Int → Int) (N : Nat) (h h' : Hh) : Prop := (∀ d, d ≠ 79 → h' d = h d) ∧ ∀ i : Nat, i < N → h' 79 i = stt sz i
theorem W_parts {kc ks : Nat} {h : Hh} {Q : PQ} {X : PX} {t : Int} {n : Nat} {s pl ra : Int → Int} {N : Nat} (hS : SIM h) (z : isTx h t) (hC : CT h (ta t) n s pl ra) (hN : CUT (psz s n) n N) (hkc : 1 ≤ kc) (hks : 6 ≤ ks) (hQ : Q [aL N] (RM WM wd) h) : am_V M_L_parts kc ks 0 [aR 0, aI t, aU] [] (RM WM wd) h Q X :=
  S_L_parts_0 ⟨⟨hkc, hks⟩, S_X10_parts_0 ⟨by omega, C_known hS z (by omega) (by omega) (S_X10_parts_9 hC.1 (C_allCuts3 hC hN (S_X10_parts_12 (S_L_parts_5 hQ))))⟩⟩
theorem W_partAt {kc ks : Nat} {h : Hh} {Q : PQ} {X : PX} {t : Int} {n : Nat} {s pl ra : Int → Int} {N I : Nat} (hS : SIM h) (z : isTx h t) (hC : CT h (ta t) n s pl ra) (hN : CUT (psz s n) n N) (hI : I < N) (hkc : 2 ≤ kc) (hks : 12 ≤ ks) (hQ : Q [aL (stt (psz s n) I)] (RM WM wd) h) : am_V M_L_partAt kc ks 0 [aR 0, aI t, aI (I : Int), aU] [] (RM WM wd) h Q X :=
  S_L_partAt_0 ⟨⟨hkc, hks⟩, S_X10_partAt_0 ⟨by omega, C_known hS z (by omega) (by omega) (S_X10_partAt_5 hC.1 ⟨fun v => absurd v (by omega), fun v => C_allCuts3 hC hN (S_X10_partAt_19 hC.1 ⟨fun w => C_startOf3 hC hN hI (S_X10_partAt_42 (S_L_partAt_6 hQ)), fun w => absurd w (by omega)⟩)⟩)⟩⟩
