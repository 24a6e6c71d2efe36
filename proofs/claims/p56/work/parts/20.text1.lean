variable {WM : List (Nat × Nat)} {wd : Bool}
/-! THE METHODS OF A TEXT, read only -/
/-- how many signs two rows have in common from two places on, of so many at most -/
def lc (s t : Int → Int) : Int → Int → Nat → Nat
  | _, _, 0 => 0
  | p, q, m + 1 => if s p = t q then lc s t (p + 1) (q + 1) m + 1 else 0
theorem lc_le (s t : Int → Int) : ∀ (m : Nat) (p q : Int), lc s t p q m ≤ m
  | 0, _, _ => Nat.le_refl 0
  | m + 1, p, q => by
    have := lc_le s t m (p + 1) (q + 1)
    unfold lc
    split <;> omega
theorem L_likeSigns_loop {kc ks : Nat} {h : Hh} {Q : PQ} {X : PX} {a0 a2 : Nat} (t0 : isT a0) (t2 : isT a2) {p q x4 : Int} (hp : 0 ≤ p) (hq : 0 ≤ q) (hp4 : p + x4 ≤ 64) (hq4 : q + x4 ≤ 64) :
    ∀ (m : Nat) (i : Int), 0 ≤ i → x4 - i = m → Q [aI (i + lc (h (a0 + 1)) (h (a2 + 1)) (p + i) (q + i) m)] (RM WM wd) h → am_V M_X6_likeSigns kc ks 20 [aR a0, aI p, aR a2, aI q, aI x4, aI i] [] (RM WM wd) h Q X := by
  intro m
  induction m with
  | zero =>
    intro i hi hm hQ
    refine S_X6_likeSigns_20 t0 t2 ⟨fun _ => ?_, fun c => absurd c (by omega)⟩
    simpa [lc] using hQ
  | succ m ih =>
    intro i hi hm hQ
    refine S_X6_likeSigns_20 t0 t2 ⟨fun c => absurd c (by omega), fun c => ⟨by omega, fun e => ?_, fun e => ⟨by omega, ?_⟩⟩⟩
    · unfold lc at hQ
      rw [if_neg e] at hQ
      simpa using hQ
    · unfold lc at hQ
      rw [if_pos e] at hQ
      refine ih (i + 1) (by omega) (by omega) ?_
      have e1 : i + 1 + (lc (h (a0 + 1)) (h (a2 + 1)) (p + (i + 1)) (q + (i + 1)) m : Int) = i + ((lc (h (a0 + 1)) (h (a2 + 1)) (p + i + 1) (q + i + 1) m + 1 : Nat) : Int) := by
        rw [Int.add_assoc p i 1, Int.add_assoc q i 1]
        omega
      rw [e1]
      exact hQ
theorem L_likeSigns {kc ks : Nat} {h : Hh} {Q : PQ} {X : PX} {a0 a2 : Nat} (t0 : isT a0) (t2 : isT a2) {p q : Int} (hp : 0 ≤ p) (hq : 0 ≤ q) (hp4 : p ≤ h a0 4) (hq4 : q ≤ h a2 4) (h0 : h a0 4 ≤ 64) (h2 : h a2 4 ≤ 64)
    (hQ : Q [aI (lc (h (a0 + 1)) (h (a2 + 1)) p q (min (h a0 4 - p) (h a2 4 - q)).toNat)] (RM WM wd) h) : am_V M_X6_likeSigns kc ks 0 [aR a0, aI p, aR a2, aI q, aU, aU] [] (RM WM wd) h Q X := by
  refine S_X6_likeSigns_0 t0 t2 ⟨by omega, ?_⟩
  refine L_likeSigns_loop t0 t2 hp hq (by omega) (by omega) (min (h a0 4 - p) (h a2 4 - q)).toNat 0 (by omega) (by omega) ?_
  simpa using hQ

