variable {WM : List (Nat × Nat)} {wd : Bool}
/-! WHAT SEVERAL CALLS ASK, on both sides -/
def isTx (h : Hh) (t : Int) : Prop := 0 ≤ t ∧ t < h 0 9
theorem L_known {kc ks : Nat} {h : Hh} {Q : PQ} {X : PX} {t : Int} (hm : h 0 9 ≤ 8) (hkc : 1 ≤ kc) (hks : 6 ≤ ks) (hQ : isTx h t → Q [aR (ta t)] (RM WM wd) h) (hX : ¬ isTx h t → X "java/lang/IndexOutOfBoundsException" (RM WM false) h) : am_V M_X10_known kc ks 0 [aR 0, aI t] [] (RM WM wd) h Q X := by
  unfold isTx at *
  refine S_X10_known_0 ⟨fun z => ⟨⟨hkc, hks⟩, hX (by omega)⟩, fun z => ⟨fun y => ⟨by omega, hQ ⟨z, y⟩⟩, fun y => ⟨⟨hkc, hks⟩, hX (by omega)⟩⟩⟩
theorem L_knownWith {kc ks : Nat} {h : Hh} {Q : PQ} {X : PX} {t p : Int} (hm : h 0 9 ≤ 8) (hkc : 2 ≤ kc) (hks : 12 ≤ ks) (hQ : isTx h t → 0 ≤ p → p < h (ta t) 4 → Q [aR (ta t)] (RM WM wd) h) (hX : ¬ (isTx h t ∧ 0 ≤ p ∧ p < h (ta t) 4) → X "java/lang/IndexOutOfBoundsException" (RM WM false) h) : am_V M_X10_knownWith kc ks 0 [aR 0, aI t, aI p, aU] [] (RM WM wd) h Q X := by
  refine S_X10_knownWith_0 ⟨by omega, L_known hm (by omega) (by omega) (fun z => ?_) (fun z => hX (fun y => z y.1))⟩
  have hT : isT (ta t) := ta_isT z.1 (by have := z.2; omega)
  show am_V M_X10_knownWith (kc - 1) (ks - 6) 5 _ [aR (ta t)] (RM WM wd) h Q X
  exact S_X10_knownWith_5 hT ⟨fun y => ⟨by omega, hX (by omega)⟩, fun y => ⟨fun w => hQ z y w, fun w => ⟨by omega, hX (by omega)⟩⟩⟩
theorem L_knownWithRow {kc ks : Nat} {h : Hh} {Q : PQ} {X : PX} {t p : Int} (hm : h 0 9 ≤ 8) (hkc : 2 ≤ kc) (hks : 12 ≤ ks) (hQ : isTx h t → 0 ≤ p → p ≤ h (ta t) 4 → Q [aR (ta t)] (RM WM wd) h) (hX : ¬ (isTx h t ∧ 0 ≤ p ∧ p ≤ h (ta t) 4) → X "java/lang/IndexOutOfBoundsException" (RM WM false) h) : am_V M_X10_knownWithRow kc ks 0 [aR 0, aI t, aI p, aU] [] (RM WM wd) h Q X := by
  refine S_X10_knownWithRow_0 ⟨by omega, L_known hm (by omega) (by omega) (fun z => ?_) (fun z => hX (fun y => z y.1))⟩
  have hT : isT (ta t) := ta_isT z.1 (by have := z.2; omega)
  show am_V M_X10_knownWithRow (kc - 1) (ks - 6) 5 _ [aR (ta t)] (RM WM wd) h Q X
  exact S_X10_knownWithRow_5 hT ⟨fun y => ⟨by omega, hX (by omega)⟩, fun y => ⟨fun w => hQ z y w, fun w => ⟨by omega, hX (by omega)⟩⟩⟩
theorem L_knownNotEmpty {kc ks : Nat} {h : Hh} {Q : PQ} {X : PX} {t : Int} (hm : h 0 9 ≤ 8) (hkc : 2 ≤ kc) (hks : 12 ≤ ks) (hQ : isTx h t → h (ta t) 4 ≠ 0 → Q [aR (ta t)] (RM WM wd) h) (hX : ¬ isTx h t → X "java/lang/IndexOutOfBoundsException" (RM WM false) h) (hN : isTx h t → h (ta t) 4 = 0 → X "java/util/NoSuchElementException" (RM WM false) h) : am_V M_X10_knownNotEmpty kc ks 0 [aR 0, aI t, aU] [] (RM WM wd) h Q X := by
  refine S_X10_knownNotEmpty_0 ⟨by omega, L_known hm (by omega) (by omega) (fun z => ?_) hX⟩
  have hT : isT (ta t) := ta_isT z.1 (by have := z.2; omega)
  show am_V M_X10_knownNotEmpty (kc - 1) (ks - 6) 5 _ [aR (ta t)] (RM WM wd) h Q X
  exact S_X10_knownNotEmpty_5 hT ⟨fun y => hQ z y, fun y => ⟨by omega, hN z y⟩⟩

