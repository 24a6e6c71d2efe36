/-! isSound: both sides -/
theorem bmod_id {x : Int} (h0 : 0 ≤ x) (h1 : x < 9223372036854775808) : x.bmod (2 ^ 64) = x := by
  rw [Int.bmod_def, Int.emod_eq_of_lt h0 (by omega), if_pos (by omega)]
theorem tri_val {n : Int} (h0 : 0 ≤ n) (h1 : n ≤ 64) : (n * ((n + 1).bmod (2 ^ 64))).bmod (2 ^ 64) = n * n + n ∧ 0 ≤ n * n + n := by
  have a7 : n * n ≤ 64 * 64 := Int.mul_le_mul h1 h1 h0 (by omega)
  have a8 : 0 ≤ n * n := Int.mul_nonneg h0 h0
  have e : 0 ≤ n * n + n := by omega
  have e2 : n * n + n < 9223372036854775808 := by omega
  rw [bmod_id (x := n + 1) (by omega) (by omega), Int.mul_add, Int.mul_one]
  exact ⟨bmod_id e e2, e⟩
/-- the cells that the class keeps -/
def SOF (h0 h : Hh) : Prop := ∀ d, (d < 10 ∨ 13 < d) → (d < 25 ∨ 28 < d) → d ≠ 31 → h d = h0 d
theorem C_is_2 {kc ks : Nat} {Q : PQ} {X : PX} {M : Nat} {N : Int → Nat} {S PL RA : Int → Int → Int} (h0 : Hh) (hM : h0 0 9 = M) (hC : CTS h0 M N S PL RA) (hQ : ∀ h, SOF h0 h → Q [aI 1] am_R0 h) : ∀ (d t : Nat) (h : Hh), t + d = M → SOF h0 h → am_V M_X10_isSound kc ks 2 [aR 0, aI t, aU, aU] [] am_R0 h Q X := by
  have hM8 := hC.1
  intro d
  induction d with
  | zero =>
    intro t h ht hF
    have e0 : h 0 9 = M := by rw [hF 0 (by omega) (by omega) (by omega)]; exact hM
    exact S_X10_isSound_2 ⟨fun _ => hQ h hF, fun z => absurd z (by omega)⟩
  | succ d ih =>
    intro t h ht hF
    have e0 : h 0 9 = M := by rw [hF 0 (by omega) (by omega) (by omega)]; exact hM
    have hCt := (hC.low (h' := h) (fun d d0 d1 => hF d (by omega) (by omega) (by omega))).2 t (by omega) (by omega)
    have hs := hCt.2.2.2.2.2.2.1
    have t0 : isT (32 + 5 * (t : Int).toNat) := hCt.1
    refine S_X10_isSound_2 ⟨fun z => absurd z (by omega), fun _ => ⟨by omega, ?_⟩⟩
    refine C_comesBack hCt (fun h1 f1 => S_X10_isSound_25 t0 ⟨fun z => absurd z (by decide), fun _ => ?_⟩)
    have hC1 := hCt.low (h' := h1) (fun d d0 d1 => f1 d (by omega) (by omega) (by omega) (by omega))
    refine C_agrees9 hC1 (fun h2 f2 => S_X10_isSound_36 t0 ⟨fun z => absurd z (by decide), fun _ => ?_⟩)
    have hC2 := hC1.low (h' := h2) (fun d d0 d1 => f2 d (by omega) (by omega) (by omega) (by omega))
    refine C_agrees3 hC2 (S_X10_isSound_47 t0 ⟨fun z => absurd z (by decide), fun _ => ?_⟩)
    obtain ⟨K, hK⟩ := CUT.ex (qsz_SZ (S t) (N t))
    refine C_allCuts2 hC2 hK (S_X10_isSound_58 t0 (C_fewestWords hC2 (fun h3 f3 hR => ?_)))
    have e := REC.cut (qsz_SZ (S t) (N t)) (fun p p0 p1 => qsz_mono hs p0 p1) hR hK
    refine S_X10_isSound_66 ⟨fun z => absurd (by rw [e]) z, fun _ => ⟨by omega, ?_⟩⟩
    have := ih (t + 1) h3 (by omega) (fun d d1 d2 d3 => by rw [f3 d d3, f2 d (by omega) (by omega) (by omega) (by omega), f1 d (by omega) (by omega) (by omega) (by omega)]; exact hF d d1 d2 d3)
    exact this
theorem M_is_150 {kc ks : Nat} {h : Hh} {Q : PQ} {X : PX} {t : Int} {n K : Nat} {s : Int → Int} (hT : MT h t n s) (hK : CUT (psz s n) n K) (h79 : ∀ i : Nat, i < K → h 79 i = stt (psz s n) i) (hQ : am_V M_X11_isSound kc ks 9 [aR 72, aI 1, aI (t + 1), aU, aU, aU, aU, aU, aU] [] am_R0 h Q X) : ∀ (d p i : Nat) (lr : Int), p + d = n → JJ s n K i p lr → am_V M_X11_isSound kc ks 150 [aR 72, aI 1, aI t, aI n, aU, aI K, aI lr, aI i, aI p] [] am_R0 h Q X := by
  have h64 := hT.2.1
  have ht := hT.1
  have hs := hT.2.2.2.1
  have hKn := CUT.le (psz_SZ s n) hK
  have f1 : (Int32.ofInt 1 &&& Int32.ofInt 1).toInt = 1 := by decide
  intro d
  induction d with
  | zero =>
    intro p i lr hp hJ
    have : p = n := by omega
    subst this
    have e := hJ.end hK
    subst e
    refine S_X11_isSound_150 ⟨fun _ => ⟨fun z => absurd rfl z, fun _ => ⟨by omega, ?_⟩⟩, fun z => absurd z (by omega)⟩
    rw [f1]
    exact hQ
  | succ d ih =>
    intro p i lr hp hJ
    obtain ⟨j1, j2, j3⟩ := hJ.at hs hK (by omega) (by omega)
    have hb := rk_bd (s := s) (n := n) (p := p) (by omega) (by omega)
    refine S_X11_isSound_150 ⟨fun z => absurd z (by omega), fun _ => M_rank hT (by omega) (by omega) (S_X11_isSound_163 ⟨fun z => ⟨by omega, ?_⟩, fun z => ⟨fun y => ?_, fun y => ⟨by omega, fun w => ?_, fun w => M_rank hT (by omega) (by omega) (S_X11_isSound_202 ⟨by omega, ?_⟩)⟩⟩⟩)⟩
    · have := ih (p + 1) i lr (by omega) (j3 (fun e => by have := j1.mpr e; omega))
      exact this
    · have := (j2 (j1.mp z)).1
      omega
    · exact absurd ((h79 i (by omega)).trans (j1.mp z).symm) w
    · have := ih (p + 1) (i + 1) (rk s n p) (by omega) (j2 (j1.mp z)).2
      rw [f1]
      exact this
theorem M_is_65 {kc ks : Nat} {g h : Hh} {Q : PQ} {X : PX} {t : Int} {n : Nat} {s pl ra : Int → Int} (hg : MK g h) (hT : MT h t n s) (hSA : SA s n pl ra) (h76 : ∀ r, 0 ≤ r → r < (n : Int) → h 76 r = pl r) (hQ : ∀ h2, MK g h2 → am_V M_X11_isSound kc ks 9 [aR 72, aI 1, aI (t + 1), aU, aU, aU, aU, aU, aU] [] am_R0 h2 Q X) : ∀ (d i : Nat), i + d = n → am_V M_X11_isSound kc ks 65 [aR 72, aI 1, aI t, aI n, aI (mx (fun r => cmv s n pl r) i), aI i, aU, aU, aU] [] am_R0 h Q X := by
  have h64 := hT.2.1
  have hs := hT.2.2.2.1
  have f1 : (Int32.ofInt 1 &&& Int32.ofInt 1).toInt = 1 := by decide
  intro d
  induction d with
  | zero =>
    intro i hi
    have : i = n := by omega
    subst this
    refine S_X11_isSound_65 ⟨fun _ => M_longestTwice hT hSA (S_X11_isSound_111 ⟨fun z => absurd rfl z, fun _ => ?_⟩), fun z => absurd z (by omega)⟩
    obtain ⟨K, hK⟩ := CUT.ex (qsz_SZ s i)
    obtain ⟨K2, hK2⟩ := CUT.ex (psz_SZ s i)
    refine M_findPieces hT hK (fun h1 k1 => S_X11_isSound_119 (M_fewestOf (hT.of (k1.1 73 (by decide)) (k1.1 74 (by decide))) (fun h2 k2 hR => ?_)))
    have e := REC.cut (qsz_SZ s i) (fun p p0 p1 => qsz_mono hs p0 p1) hR hK
    refine S_X11_isSound_124 ⟨fun z => absurd e.symm z, fun _ => ?_⟩
    have hT2 : MT h2 t i s := hT.of (by rw [k2 73 (by decide), k1.1 73 (by decide)]) (by rw [k2 74 (by decide), k1.1 74 (by decide)])
    rw [f1]
    refine M_findParts hT2 hK2 (fun h3 k3 => S_X11_isSound_139 ?_)
    have hT3 : MT h3 t i s := hT2.of (k3.1 73 (by decide)) (k3.1 74 (by decide))
    refine M_is_150 hT3 hK2 k3.2 (hQ h3 (hg.tr (MK.of fun d _ _ _ d4 _ => by rw [k3.1 d d4, k2 d d4, k1.1 d d4]))) i 0 0 i (by omega) JJ.start
  | succ d ih =>
    intro i hi
    have hnext := ih (i + 1) (by omega)
    have em : mx (fun r => cmv s n pl r) (i + 1) = max (mx (fun r => cmv s n pl r) i) (cmv s n pl i) := rfl
    refine S_X11_isSound_65 ⟨fun z => absurd z (by omega), fun _ => M_commonAt hT hSA (by omega) (by omega) h76 (S_X11_isSound_78 ⟨fun z => ⟨by omega, ?_⟩, fun z => M_commonAt hT hSA (by omega) (by omega) h76 (S_X11_isSound_90 ⟨by omega, ?_⟩)⟩)⟩
    · rw [em, show max (mx (fun r => cmv s n pl r) i) (cmv s n pl i : Int) = mx (fun r => cmv s n pl r) i by omega] at hnext
      exact hnext
    · rw [em, show max (mx (fun r => cmv s n pl r) i) (cmv s n pl i : Int) = cmv s n pl i by omega] at hnext
      exact hnext
theorem M_is_9 {kc ks : Nat} {Q : PQ} {X : PX} {M : Nat} {N : Int → Nat} {S PL RA : Int → Int → Int} (g : Hh) (hT : MTS g M N S) (hA : ∀ t, 0 ≤ t → t < (M : Int) → SA (S t) (N t) (PL t) (RA t)) (hQ : ∀ h, MK g h → Q [aI 1] am_R0 h) : ∀ (d t : Nat) (h : Hh), t + d = M → MK g h → am_V M_X11_isSound kc ks 9 [aR 72, aI 1, aI t, aU, aU, aU, aU, aU, aU] [] am_R0 h Q X := by
  have hM8 := hT.1
  have f1 : (Int32.ofInt 1 &&& Int32.ofInt 1).toInt = 1 := by decide
  intro d
  induction d with
  | zero =>
    intro t h ht hk
    have e8 : h 72 8 = M := by rw [hk.2.1]; exact hT.2.1
    exact S_X11_isSound_9 ⟨fun _ => ⟨Or.inr rfl, hQ h hk⟩, fun z => absurd z (by omega)⟩
  | succ d ih =>
    intro t h ht hk
    have e8 : h 72 8 = M := by rw [hk.2.1]; exact hT.2.1
    have hMt := hk.mt (hT.2.2 t (by omega) (by omega))
    have hSA := hA t (by omega) (by omega)
    obtain ⟨n, hn⟩ : ∃ n, n = N t := ⟨_, rfl⟩
    rw [← hn] at hMt hSA
    have h64 := hMt.2.1
    have hs := hMt.2.2.2.1
    have c1 := sm_cmv hs hSA (m := n) (Nat.le_refl n) h64
    have nb := sm_nw (s := S t) (n := n) (m := n) (Nat.le_refl n) h64
    have we : sm (fr (S t) n (PL t)) n = sm (nw (S t) n) n := words_eq hs hSA
    have a1 : sm (fr (S t) n (PL t)) n = sm (fun r => (n : Int) - PL t r) n - sm (fun r => (cmv (S t) n (PL t) r : Int)) n := sm_sub (fun r => (n : Int) - PL t r) (fun r => (cmv (S t) n (PL t) r : Int)) n
    have a2 : sm (fun r => (n : Int) - PL t r) n = sm (fun _ => (n : Int)) n - sm (fun r => PL t r) n := sm_sub (fun _ => (n : Int)) (fun r => PL t r) n
    have a3 := sm_const (n : Int) n
    have a4 : sm (fun r => PL t r) n = sm (fun i => i) n := sm_SA hs hSA (fun i => i)
    have a5 := sm_id n
    have b0 : ((n : Int) * n + n) / 2 - sm (fun r => (cmv (S t) n (PL t) r : Int)) n = sm (nw (S t) n) n := by omega
    have b5 : sm (nw (S t) n) n < 9223372036854775808 := by omega
    have b6 : (t : Int) < M ∧ (0 : Int) ≤ t ∧ (t : Int) < 9 := by omega
    have b7 : (n : Int) ≤ 64 := by omega
    refine S_X11_isSound_9 ⟨fun z => absurd z (by omega), fun _ => ⟨b6.2, M_allWords hMt (S_X11_isSound_30 ?_)⟩⟩
    rw [hMt.2.2.1, (tri_val (Int.natCast_nonneg n) b7).1]
    refine ⟨⟨(tri_val (Int.natCast_nonneg n) b7).2, by decide⟩, M_commons hMt hSA (fun h2 f2 h76 => S_X11_isSound_46 ?_)⟩
    rw [b0, bmod_id nb.1 b5]
    refine ⟨fun z => absurd (by rw [if_neg (Int.lt_irrefl _), if_pos rfl]) z, fun _ => ?_⟩
    rw [f1]
    have hk2 : MK g h2 := hk.tr (MK.so f2)
    exact M_is_65 hk2 (hMt.of (f2 73 (by decide)) (f2 74 (by decide))) hSA h76 (fun h3 k3 => by
      have := ih (t + 1) h3 (by omega) k3
      exact this) n 0 (by omega)
theorem T_isSound {kc ks : Nat} {h : Hh} {X : PX} (hS : SIM h) : am_V M_X10_isSound kc ks 0 [aR 0, aU, aU, aU] [] am_R0 h (PQv M_X11_isSound [aR 72, aU, aU, aU, aU, aU, aU, aU, aU] aI) X := by
  obtain ⟨M, N, S, PL, RA, hM, hC, hMT⟩ := hS.cts
  refine S_X10_isSound_0 (C_is_2 h hM hC (fun h1 f1 => ⟨1, rfl, rfl, fun kc ks Q X k => S_X11_isSound_0 ?_⟩) M 0 h (by omega) (fun _ _ _ _ => rfl))
  have hN : NK h h1 := fun d hd => f1 d (by unfold SIMcell at hd; omega) (by unfold SIMcell at hd; omega) (by unfold SIMcell at hd; omega)
  have hS1 := hN.sim hS
  have hT1 : MTS h1 M N S := ⟨hC.1, by rw [hS1.1.2.2, hN.c0]; exact hM, fun t t0 t1 => (hMT t t0 t1).of (f1 73 (by decide) (by decide) (by decide)) (f1 74 (by decide) (by decide) (by decide))⟩
  exact M_is_9 h1 hT1 (fun t t0 t1 => (hC.tx t t0 t1).2.2) (fun h2 k2 => k h2 (k2.sim hS1)) M 0 _ (by omega) (MK.rf h1).th
