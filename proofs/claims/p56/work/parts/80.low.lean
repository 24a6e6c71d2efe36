variable {WM : List (Nat × Nat)} {wd : Bool}
theorem CT.of {h h' : Hh} {a n : Nat} {s pl ra : Int → Int} (hC : CT h a n s pl ra) (hc : ∀ j, j < 5 → h' (a + j) = h (a + j)) : CT h' a n s pl ra := by
  obtain ⟨q1, q2, q3, q4, q5, q6, q7, q8, q9⟩ := hC
  have e0 := hc 0 (by omega)
  rw [Nat.add_zero] at e0
  exact ⟨q1, q2, by rw [e0]; exact q3, by rw [hc 1 (by omega)]; exact q4, by rw [hc 2 (by omega)]; exact q5, by rw [hc 3 (by omega)]; exact q6, q7, q8, fun r r0 r1 => by rw [hc 4 (by omega)]; exact q9 r r0 r1⟩
theorem CT.low {h h' : Hh} {a n : Nat} {s pl ra : Int → Int} (hC : CT h a n s pl ra) (hf : ∀ d, 32 ≤ d → d ≤ 71 → h' d = h d) : CT h' a n s pl ra := hC.of (fun j hj => by
  obtain ⟨i, i8, ia⟩ := hC.1
  exact hf _ (by omega) (by omega))
/-- all texts -/
def CTS (h : Hh) (M : Nat) (N : Int → Nat) (S PL RA : Int → Int → Int) : Prop := M ≤ 8 ∧ ∀ t, 0 ≤ t → t < (M : Int) → CT h (ta t) (N t) (S t) (PL t) (RA t)
theorem CTS.low {h h' : Hh} {M : Nat} {N : Int → Nat} {S PL RA : Int → Int → Int} (hC : CTS h M N S PL RA) (hf : ∀ d, 32 ≤ d → d ≤ 71 → h' d = h d) : CTS h' M N S PL RA := ⟨hC.1, fun t t0 t1 => (hC.2 t t0 t1).low hf⟩
