variable {WM : List (Nat × Nat)} {wd : Bool}
/-! twice, twiceAt, once, onceAt -/
/-- the longest common beginning of the pairs seen so far -/
def LPQ (s : Int → Int) (n : Nat) (i j x : Int) : Prop := 0 ≤ x ∧ x ≤ 64 ∧ (∀ a b, 0 ≤ a → a < b → b < (n : Int) → (a < i ∨ (a = i ∧ b < j)) → (Lc s n s n a b : Int) ≤ x) ∧ (x = 0 ∨ ∃ a b, 0 ≤ a ∧ a < b ∧ b < (n : Int) ∧ (Lc s n s n a b : Int) = x)
theorem plc_tw {s : Int → Int} {n L : Nat} (hs : WS s n) {p : Int} (hp : 0 ≤ p) (hpn : p < n) (hL : p + L ≤ n) : (cnt (fun q => L ≤ Lc s n s n p q) n = 1 ∨ 1 < cnt (fun q => L ≤ Lc s n s n p q) n) ∧ (1 < cnt (fun q => L ≤ Lc s n s n p q) n ↔ tw s n L p) := by
  have self : L ≤ Lc s n s n p p := (le_Lc (by omega) (by omega)).mpr ⟨hL, hL, AG.refl _ _ _⟩
  have d := cnt_del (P := fun q => L ≤ Lc s n s n p q) n hp hpn self
  refine ⟨by omega, ?_, ?_⟩
  · intro z
    obtain ⟨q, q0, q1, q2, q3⟩ := cnt_ex (P := fun q => L ≤ Lc s n s n p q ∧ q ≠ p) (m := n) (by omega)
    exact ⟨q, q0, q1, q3, (le_LcE hs hp hpn q0 q1 (Ne.symm q3)).mp q2⟩
  · intro ⟨q, q0, q1, q2, q3⟩
    have := cnt_pos (P := fun q => L ≤ Lc s n s n p q ∧ q ≠ p) q0 q1 ⟨(le_LcE hs hp hpn q0 q1 (Ne.symm q2)).mpr q3, q2⟩
    omega
theorem C_fp_2 {kc ks : Nat} {h : Hh} {Q : PQ} {X : PX} {a n : Nat} {s pl ra : Int → Int} (hC : CT h a n s pl ra) {L r0 : Nat} (hL : 0 < L) (h0 : 1 ≤ r0) (h0n : r0 < n) (hlow : ∀ r, 1 ≤ r → r < (r0 : Int) → cmv s n pl r < L) (h1 : L ≤ cmv s n pl r0) (hmax : ∀ r, 0 ≤ r → r < (n : Int) → cmv s n pl r ≤ L) (hQ : ∀ E, TW s n L E → Q [aI E] (RM WM wd) h) : ∀ (d i : Nat) (E : Int), i + d = n → r0 ≤ i → (∀ r, (r0 : Int) ≤ r → r < i → L ≤ cmv s n pl r) → (∃ r, (r0 : Int) - 1 ≤ r ∧ r < i ∧ E = pl r) → (∀ r, (r0 : Int) - 1 ≤ r → r < i → E ≤ pl r) → am_V M_X6_firstPlaceOfLongestTwice kc ks 40 [aR a, aI L, aI i, aI E] [] (RM WM wd) h Q X := by
  obtain ⟨t0, n64, hn, rfl, rfl, rfl, hs, hSA, hcm⟩ := id hC
  intro d
  induction d with
  | zero =>
    intro i E hd hi hrun hE hmin
    have : i = n := by omega
    subst this
    exact S_X6_firstPlaceOfLongestTwice_40 t0 ⟨fun _ => hQ E (TW.of hs hSA hL (r0 := r0) (r1 := i) (by omega) (by omega) (by omega) hlow hrun (fun z => by omega) hE hmin), fun z => absurd z (by omega)⟩
  | succ d ih =>
    intro i E hd hi hrun hE hmin
    have e := hcm i (by omega) (by omega)
    have hmi := hmax i (by omega) (by omega)
    refine S_X6_firstPlaceOfLongestTwice_40 t0 ⟨fun z => absurd z (by omega), fun _ => ⟨by omega, fun z => hQ E ?_, fun z => ⟨by omega, ih (i + 1) _ (by omega) (by omega) (fun r q0 q1 => ?_) ?_ (fun r q0 q1 => ?_)⟩⟩⟩
    · have : (r0 : Int) < i := by
        apply Classical.byContradiction
        intro y
        have : i = r0 := by omega
        subst this
        omega
      exact TW.of hs hSA hL (r0 := r0) (r1 := i) (by omega) this (by omega) hlow hrun (fun _ => by omega) hE hmin
    · by_cases y : r = i
      · rw [y]; omega
      · exact hrun r q0 (by omega)
    · by_cases y : E ≤ h (a + 2) i
      · obtain ⟨r, q0, q1, q2⟩ := hE
        exact ⟨r, q0, by omega, by omega⟩
      · exact ⟨i, by omega, by omega, by omega⟩
    · by_cases y : r = i
      · rw [y]; omega
      · have := hmin r q0 (by omega)
        omega
theorem C_fp_1 {kc ks : Nat} {h : Hh} {Q : PQ} {X : PX} {a n : Nat} {s pl ra : Int → Int} (hC : CT h a n s pl ra) {L : Nat} (hL : 0 < L) (hex : ∃ r, 0 ≤ r ∧ r < (n : Int) ∧ L ≤ cmv s n pl r) (hmax : ∀ r, 0 ≤ r → r < (n : Int) → cmv s n pl r ≤ L) (hQ : ∀ E, TW s n L E → Q [aI E] (RM WM wd) h) : ∀ (d i : Nat), i + d = n → 1 ≤ i → (∀ r, 1 ≤ r → r < (i : Int) → cmv s n pl r < L) → am_V M_X6_firstPlaceOfLongestTwice kc ks 7 [aR a, aI L, aI i, aU] [] (RM WM wd) h Q X := by
  obtain ⟨t0, n64, hn, rfl, rfl, rfl, hs, hSA, hcm⟩ := id hC
  intro d
  induction d with
  | zero =>
    intro i hd hi hlow
    exfalso
    obtain ⟨r, r0, r1, r2⟩ := hex
    by_cases e : r = 0
    · rw [e, cmv_0] at r2
      omega
    · have := hlow r (by omega) (by omega)
      omega
  | succ d ih =>
    intro i hd hi hlow
    have e := hcm i (by omega) (by omega)
    refine S_X6_firstPlaceOfLongestTwice_7 t0 ⟨fun z => absurd z (by omega), fun _ => ⟨by omega, fun z => ⟨by omega, C_fp_2 hC hL hi (by omega) hlow (by omega) hmax hQ (d + 1) i _ hd (Nat.le_refl i) (fun r q0 q1 => by omega) ⟨(i : Int) - 1, by omega, by omega, rfl⟩ (fun r q0 q1 => ?_)⟩, fun z => ⟨by omega, ih (i + 1) (by omega) (by omega) (fun r q0 q1 => ?_)⟩⟩⟩
    · rw [show r = (i : Int) - 1 by omega]
      exact Int.le_refl _
    · by_cases y : r = i
      · rw [y]; omega
      · exact hlow r q0 (by omega)
theorem W_twice {kc ks : Nat} {h : Hh} {Q : PQ} {X : PX} {t : Int} {n : Nat} {s pl ra : Int → Int} (hS : SIM h) (z : isTx h t) (hC : CT h (ta t) n s pl ra) (hkc : 1 ≤ kc) (hks : 6 ≤ ks) (hQ : Q [aL (mx (fun r => cmv s n pl r) n)] (RM WM wd) h) : am_V M_L_twice kc ks 0 [aR 0, aI t, aU] [] (RM WM wd) h Q X :=
  S_L_twice_0 ⟨⟨hkc, hks⟩, S_X10_twice_0 ⟨by omega, C_known hS z (by omega) (by omega) (S_X10_twice_5 hC.1 (C_greatest hC (S_X10_twice_8 (S_L_twice_5 hQ))))⟩⟩
theorem W_twiceAt {kc ks : Nat} {h : Hh} {Q : PQ} {X : PX} {t : Int} {n : Nat} {s pl ra : Int → Int} (hS : SIM h) (z : isTx h t) (hC : CT h (ta t) n s pl ra) (hkc : 2 ≤ kc) (hks : 12 ≤ ks) (hQ0 : mx (fun r => cmv s n pl r) n = 0 → Q [aL (-4000000000000000002)] (RM WM false) h) (hQ1 : mx (fun r => cmv s n pl r) n ≠ 0 → ∀ E : Int, 0 ≤ E → E < n → Q [aL E] (RM WM false) h) : am_V M_L_twiceAt kc ks 0 [aR 0, aI t, aU] [] (RM WM false) h Q X := by
  have hs := hC.2.2.2.2.2.2.1
  have hSA := hC.2.2.2.2.2.2.2.1
  have hL0 := mx_0 (f := fun r => (cmv s n pl r : Int)) n
  obtain ⟨L, hL⟩ : ∃ L : Nat, mx (fun r => (cmv s n pl r : Int)) n = L := ⟨(mx (fun r => (cmv s n pl r : Int)) n).toNat, by omega⟩
  have hlt := mxc_lt hs hSA
  rw [hL] at hlt hQ0 hQ1
  refine S_L_twiceAt_0 ⟨⟨hkc, hks⟩, S_X10_twiceAt_0 ⟨by omega, C_known hS z (by omega) (by omega) (S_X10_twiceAt_5 hC.1 (C_greatest hC ?_))⟩⟩
  rw [hL]
  refine S_X10_twiceAt_10 hC.1 ⟨fun y => ?_, fun y => ⟨by omega, Or.inr ⟨rfl, S_L_twiceAt_13 (hQ0 (by omega))⟩⟩⟩
  have hex := (le_mx (f := fun r => (cmv s n pl r : Int)) (k := L) (by omega) (m := n)).mp (by omega)
  obtain ⟨r, r0, r1, r2⟩ := hex
  have hmax : ∀ r, 0 ≤ r → r < (n : Int) → cmv s n pl r ≤ L := fun r r0 r1 => by
    have := (mx_le hL0 n).mp (Int.le_refl _) r r0 r1
    omega
  refine S_X6_firstPlaceOfLongestTwice_0 hC.1 (C_greatest hC ?_)
  rw [hL]
  exact S_X6_firstPlaceOfLongestTwice_4 hC.1 (C_fp_1 hC (by omega) ⟨r, r0, r1, by omega⟩ hmax (fun E hE => S_X10_twiceAt_27 (S_L_twiceAt_5 (hQ1 (by omega) E hE.1 hE.2.1))) (n - 1) 1 (by omega) (Nat.le_refl 1) (fun r q0 q1 => by omega))
