variable {WM : List (Nat × Nat)} {wd : Bool}
/-! isSound: both sides -/
theorem bmod_id {x : Int} (h0 : 0 ≤ x) (h1 : x < 9223372036854775808) : x.bmod (2 ^ 64) = x := by
  rw [Int.bmod_def, Int.emod_eq_of_lt h0 (by omega), if_pos (by omega)]
theorem tri_val {n : Int} (h0 : 0 ≤ n) (h1 : n ≤ 64) : (n * ((n + 1).bmod (2 ^ 64))).bmod (2 ^ 64) = n * n + n ∧ 0 ≤ n * n + n := by
  have a7 : n * n ≤ 64 * 64 := Int.mul_le_mul h1 h1 h0 (by omega)
  have a8 : 0 ≤ n * n := Int.mul_nonneg h0 h0
  have e : 0 ≤ n * n + n := by omega
  have e2 : n * n + n < 9223372036854775808 := by omega
  rw [bmod_id (x := n + 1) (by omega) (by omega), Int.mul_add, Int.mul_one]
  exact ⟨bmod_id e e2, e⟩
/-- the cells that the class keeps -/
def SOF (h0 h : Hh) : Prop := ∀ d, (d < 10 ∨ 13 < d) → (d < 25 ∨ 28 < d) → d ≠ 31 → h d = h0 d
theorem C_is_2 {kc ks : Nat} {Q : PQ} {X : PX} {M : Nat} {N : Int → Nat} {S PL RA : Int → Int → Int} (h0 : Hh) (hM : h0 0 9 = M) (hC : CTS h0 M N S PL RA) (hQ : ∀ h, SOF h0 h → Q [aI 1] (RM WM wd) h) : ∀ (d t : Nat) (h : Hh), t + d = M → SOF h0 h → am_V M_X10_isSound kc ks 2 [aR 0, aI t, aU, aU] [] (RM WM wd) h Q X := by
  have hM8 := hC.1
  intro d
  induction d with
  | zero =>
    intro t h ht hF
    have e0 : h 0 9 = M := by rw [hF 0 (by omega) (by omega) (by omega)]; exact hM
    exact S_X10_isSound_2 ⟨fun _ => hQ h hF, fun z => absurd z (by omega)⟩
  | succ d ih =>
    intro t h ht hF
    have e0 : h 0 9 = M := by rw [hF 0 (by omega) (by omega) (by omega)]; exact hM
    have hCt := (hC.low (h' := h) (fun d d0 d1 => hF d (by omega) (by omega) (by omega))).2 t (by omega) (by omega)
    have hs := hCt.2.2.2.2.2.2.1
    have t0 : isT (32 + 5 * (t : Int).toNat) := hCt.1
    refine S_X10_isSound_2 ⟨fun z => absurd z (by omega), fun _ => ⟨by omega, ?_⟩⟩
    refine C_comesBack hCt (fun h1 f1 => S_X10_isSound_25 t0 ⟨fun z => absurd z (by decide), fun _ => ?_⟩)
    have hC1 := hCt.low (h' := h1) (fun d d0 d1 => f1 d (by omega) (by omega) (by omega) (by omega))
    refine C_agrees9 hC1 (fun h2 f2 => S_X10_isSound_36 t0 ⟨fun z => absurd z (by decide), fun _ => ?_⟩)
    have hC2 := hC1.low (h' := h2) (fun d d0 d1 => f2 d (by omega) (by omega) (by omega) (by omega))
    refine C_agrees3 hC2 (S_X10_isSound_47 t0 ⟨fun z => absurd z (by decide), fun _ => ?_⟩)
    obtain ⟨K, hK⟩ := CUT.ex (qsz_SZ (S t) (N t))
    refine C_allCuts2 hC2 hK (S_X10_isSound_58 t0 (C_fewestWords hC2 (fun h3 f3 hR => ?_)))
    have e := REC.cut (qsz_SZ (S t) (N t)) (fun p p0 p1 => qsz_mono hs p0 p1) hR hK
    refine S_X10_isSound_66 ⟨fun z => absurd (by rw [e]) z, fun _ => ⟨by omega, ?_⟩⟩
    have := ih (t + 1) h3 (by omega) (fun d d1 d2 d3 => by rw [f3 d d3, f2 d (by omega) (by omega) (by omega) (by omega), f1 d (by omega) (by omega) (by omega) (by omega)]; exact hF d d1 d2 d3)
    exact this
theorem SIM.cts {h : Hh} (hS : SIM h) : ∃ (M : Nat) (N : Int → Nat) (S PL RA : Int → Int → Int), h 0 9 = M ∧ CTS h M N S PL RA := by
  obtain ⟨a0, a1, a2⟩ := hS.1
  refine ⟨(h 0 9).toNat, fun t => (h (ta t) 4).toNat, fun t => h (ta t + 1), fun t => h (ta t + 2), fun t => h (ta t + 3), by omega, ⟨by omega, fun t t0 t1 => ?_⟩⟩
  obtain ⟨n, s, pl, ra, hC⟩ := hS.txt (t := t) ⟨t0, by omega⟩
  obtain ⟨q1, q2, q3, q4, q5, q6, q7, q8, q9⟩ := id hC
  have e : (h (ta t) 4).toNat = n := by omega
  show CT h (ta t) (h (ta t) 4).toNat (h (ta t + 1)) (h (ta t + 2)) (h (ta t + 3))
  rw [e, q4, q5, q6]
  exact hC
theorem W_isSound {kc ks : Nat} {h : Hh} {Q : PQ} {X : PX} (hS : SIM h) (hQ : ∀ h', SOF h h' → Q [aL 1] (RM WM wd) h') : am_V M_L_isSound kc ks 0 [aR 0] [] (RM WM wd) h Q X := by
  obtain ⟨M, N, S, PL, RA, hM, hC⟩ := hS.cts
  exact S_L_isSound_0 (S_X10_isSound_0 (C_is_2 h hM hC (fun h1 f1 => S_L_isSound_4 ⟨fun z => absurd z (by decide), fun _ => hQ h1 f1⟩) M 0 h (by omega) (fun _ _ _ _ => rfl)))
