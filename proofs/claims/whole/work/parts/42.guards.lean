/-! WHAT SEVERAL CALLS ASK, on both sides -/
def isTx (h : Hh) (t : Int) : Prop := 0 ≤ t ∧ t < h 0 9
theorem L_isWrong {kc ks : Nat} {h : Hh} {Q : PQ} {X : PX} {c : Int} (hQ : Q [aI (if c = 0 then 0 else 1)] am_R0 (am_st h 72 10 c)) : am_V M_X11_isWrong kc ks 0 [aR 72, aI c] [] am_R0 h Q X := by
  refine S_X11_isWrong_0 ⟨fun z => ?_, fun z => ?_⟩
  · rw [if_pos z] at hQ
    exact hQ
  · rw [if_neg z] at hQ
    exact hQ
theorem L_isBetween {kc ks : Nat} {h : Hh} {Q : PQ} {X : PX} {v lo hi : Int} (h1 : lo ≤ v ∧ v ≤ hi → Q [aI 1] am_R0 h) (h0 : ¬ (lo ≤ v ∧ v ≤ hi) → Q [aI 0] am_R0 h) : am_V M_X11_isBetween kc ks 0 [aI v, aI lo, aI hi] [] am_R0 h Q X :=
  S_X11_isBetween_0 ⟨fun z => h0 (by omega), fun z => ⟨fun y => h0 (by omega), fun y => h1 ⟨z, y⟩⟩⟩
theorem L_isText {kc ks : Nat} {h : Hh} {Q : PQ} {X : PX} {t : Int} (hm : 0 ≤ h 72 8 ∧ h 72 8 ≤ 8) (h1 : 0 ≤ t ∧ t < h 72 8 → Q [aI 1] am_R0 h) (h0 : ¬ (0 ≤ t ∧ t < h 72 8) → Q [aI 0] am_R0 h) : am_V M_X11_isText kc ks 0 [aR 72, aI t] [] am_R0 h Q X := by
  refine S_X11_isText_0 ⟨by omega, ?_⟩
  refine L_isBetween (fun z => ?_) (fun z => ?_)
  · show am_V M_X11_isText kc ks 11 _ [aI 1] am_R0 h Q X
    exact S_X11_isText_11 ⟨Or.inr rfl, h1 (by omega)⟩
  · show am_V M_X11_isText kc ks 11 _ [aI 0] am_R0 h Q X
    exact S_X11_isText_11 ⟨Or.inl rfl, h0 (by omega)⟩
theorem L_isPlace {kc ks : Nat} {h : Hh} {Q : PQ} {X : PX} {t p : Int} (hm : 0 ≤ h 72 8 ∧ h 72 8 ≤ 8) (hl : ∀ t, 0 ≤ t → t < h 72 8 → 0 ≤ h 74 t ∧ h 74 t ≤ 64) (h1 : (0 ≤ t ∧ t < h 72 8) ∧ 0 ≤ p ∧ p < h 74 t → Q [aI 1] am_R0 h) (h0 : ¬ ((0 ≤ t ∧ t < h 72 8) ∧ 0 ≤ p ∧ p < h 74 t) → Q [aI 0] am_R0 h) : am_V M_X11_isPlace kc ks 0 [aR 72, aI t, aI p] [] am_R0 h Q X := by
  refine S_X11_isPlace_0 (L_isText hm (fun z => ?_) (fun z => ?_))
  · have := hl t z.1 z.2
    show am_V M_X11_isPlace kc ks 5 _ [aI 1] am_R0 h Q X
    refine S_X11_isPlace_5 ⟨fun y => absurd y (by decide), fun _ => ⟨by omega, L_isBetween (fun y => ?_) (fun y => ?_)⟩⟩
    · show am_V M_X11_isPlace kc ks 21 _ [aI 1] am_R0 h Q X
      exact S_X11_isPlace_21 ⟨fun w => absurd w (by decide), fun _ => h1 ⟨z, by omega⟩⟩
    · show am_V M_X11_isPlace kc ks 21 _ [aI 0] am_R0 h Q X
      exact S_X11_isPlace_21 ⟨fun _ => h0 (by omega), fun w => absurd rfl w⟩
  · show am_V M_X11_isPlace kc ks 5 _ [aI 0] am_R0 h Q X
    exact S_X11_isPlace_5 ⟨fun _ => h0 (fun y => z y.1), fun w => absurd rfl w⟩
theorem L_isNone {kc ks : Nat} {h : Hh} {Q : PQ} {X : PX} {t : Int} (hm : 0 ≤ h 72 8 ∧ h 72 8 ≤ 8) (h0 : 0 ≤ t ∧ t < h 72 8 → Q [aI 0] am_R0 (am_st h 72 10 0)) (h1 : ¬ (0 ≤ t ∧ t < h 72 8) → Q [aI 1] am_R0 (am_st h 72 10 1)) : am_V M_X11_isNone kc ks 0 [aR 72, aI t] [] am_R0 h Q X := by
  refine S_X11_isNone_0 (L_isText hm (fun z => ?_) (fun z => ?_))
  · show am_V M_X11_isNone kc ks 6 _ [aI 1, aR 72] am_R0 h Q X
    refine S_X11_isNone_6 ⟨fun w => absurd w (by decide), fun _ => L_isWrong ?_⟩
    show am_V M_X11_isNone kc ks 17 _ [aI 0] am_R0 _ Q X
    exact S_X11_isNone_17 ⟨Or.inl rfl, h0 z⟩
  · show am_V M_X11_isNone kc ks 6 _ [aI 0, aR 72] am_R0 h Q X
    refine S_X11_isNone_6 ⟨fun _ => L_isWrong ?_, fun w => absurd rfl w⟩
    show am_V M_X11_isNone kc ks 17 _ [aI 1] am_R0 _ Q X
    exact S_X11_isNone_17 ⟨Or.inr rfl, h1 z⟩
theorem L_isNoPlace {kc ks : Nat} {h : Hh} {Q : PQ} {X : PX} {t p : Int} (hm : 0 ≤ h 72 8 ∧ h 72 8 ≤ 8) (hl : ∀ t, 0 ≤ t → t < h 72 8 → 0 ≤ h 74 t ∧ h 74 t ≤ 64) (h0 : (0 ≤ t ∧ t < h 72 8) ∧ 0 ≤ p ∧ p < h 74 t → Q [aI 0] am_R0 (am_st h 72 10 0)) (h1 : ¬ ((0 ≤ t ∧ t < h 72 8) ∧ 0 ≤ p ∧ p < h 74 t) → Q [aI 1] am_R0 (am_st h 72 10 1)) : am_V M_X11_isNoPlace kc ks 0 [aR 72, aI t, aI p] [] am_R0 h Q X := by
  refine S_X11_isNoPlace_0 (L_isPlace hm hl (fun z => ?_) (fun z => ?_))
  · show am_V M_X11_isNoPlace kc ks 7 _ [aI 1, aR 72] am_R0 h Q X
    refine S_X11_isNoPlace_7 ⟨fun w => absurd w (by decide), fun _ => L_isWrong ?_⟩
    show am_V M_X11_isNoPlace kc ks 18 _ [aI 0] am_R0 _ Q X
    exact S_X11_isNoPlace_18 ⟨Or.inl rfl, h0 z⟩
  · show am_V M_X11_isNoPlace kc ks 7 _ [aI 0, aR 72] am_R0 h Q X
    refine S_X11_isNoPlace_7 ⟨fun _ => L_isWrong ?_, fun w => absurd rfl w⟩
    show am_V M_X11_isNoPlace kc ks 18 _ [aI 1] am_R0 _ Q X
    exact S_X11_isNoPlace_18 ⟨Or.inr rfl, h1 z⟩
theorem L_isNoRank {kc ks : Nat} {h : Hh} {Q : PQ} {X : PX} {t p : Int} (hm : 0 ≤ h 72 8 ∧ h 72 8 ≤ 8) (hl : ∀ t, 0 ≤ t → t < h 72 8 → 0 ≤ h 74 t ∧ h 74 t ≤ 64) (h0 : (0 ≤ t ∧ t < h 72 8) ∧ 0 ≤ p ∧ p < h 74 t → Q [aI 0] am_R0 (am_st h 72 10 0)) (h1 : ¬ ((0 ≤ t ∧ t < h 72 8) ∧ 0 ≤ p ∧ p < h 74 t) → Q [aI 1] am_R0 (am_st h 72 10 1)) : am_V M_X11_isNoRank kc ks 0 [aR 72, aI t, aI p] [] am_R0 h Q X := by
  refine S_X11_isNoRank_0 (L_isPlace hm hl (fun z => ?_) (fun z => ?_))
  · show am_V M_X11_isNoRank kc ks 7 _ [aI 1, aR 72] am_R0 h Q X
    refine S_X11_isNoRank_7 ⟨fun w => absurd w (by decide), fun _ => L_isWrong ?_⟩
    show am_V M_X11_isNoRank kc ks 18 _ [aI 0] am_R0 _ Q X
    exact S_X11_isNoRank_18 ⟨Or.inl rfl, h0 z⟩
  · show am_V M_X11_isNoRank kc ks 7 _ [aI 0, aR 72] am_R0 h Q X
    refine S_X11_isNoRank_7 ⟨fun _ => L_isWrong ?_, fun w => absurd rfl w⟩
    show am_V M_X11_isNoRank kc ks 18 _ [aI 1] am_R0 _ Q X
    exact S_X11_isNoRank_18 ⟨Or.inr rfl, h1 z⟩
theorem L_known {kc ks : Nat} {h : Hh} {Q : PQ} {X : PX} {t : Int} (hm : h 0 9 ≤ 8) (hkc : 1 ≤ kc) (hks : 6 ≤ ks) (hQ : isTx h t → Q [aR (ta t)] am_R0 h) (hX : ¬ isTx h t → X "java/lang/IndexOutOfBoundsException" am_R0 h) : am_V M_X10_known kc ks 0 [aR 0, aI t] [] am_R0 h Q X := by
  unfold isTx at *
  refine S_X10_known_0 ⟨fun z => ⟨⟨hkc, hks⟩, hX (by omega)⟩, fun z => ⟨fun y => ⟨by omega, hQ ⟨z, y⟩⟩, fun y => ⟨⟨hkc, hks⟩, hX (by omega)⟩⟩⟩
theorem L_knownWith {kc ks : Nat} {h : Hh} {Q : PQ} {X : PX} {t p : Int} (hm : h 0 9 ≤ 8) (hkc : 2 ≤ kc) (hks : 12 ≤ ks) (hQ : isTx h t → 0 ≤ p → p < h (ta t) 4 → Q [aR (ta t)] am_R0 h) (hX : ¬ (isTx h t ∧ 0 ≤ p ∧ p < h (ta t) 4) → X "java/lang/IndexOutOfBoundsException" am_R0 h) : am_V M_X10_knownWith kc ks 0 [aR 0, aI t, aI p, aU] [] am_R0 h Q X := by
  refine S_X10_knownWith_0 ⟨by omega, L_known hm (by omega) (by omega) (fun z => ?_) (fun z => hX (fun y => z y.1))⟩
  have hT : isT (ta t) := ta_isT z.1 (by have := z.2; omega)
  show am_V M_X10_knownWith (kc - 1) (ks - 6) 5 _ [aR (ta t)] am_R0 h Q X
  exact S_X10_knownWith_5 hT ⟨fun y => ⟨by omega, hX (by omega)⟩, fun y => ⟨fun w => hQ z y w, fun w => ⟨by omega, hX (by omega)⟩⟩⟩
theorem L_knownWithRow {kc ks : Nat} {h : Hh} {Q : PQ} {X : PX} {t p : Int} (hm : h 0 9 ≤ 8) (hkc : 2 ≤ kc) (hks : 12 ≤ ks) (hQ : isTx h t → 0 ≤ p → p ≤ h (ta t) 4 → Q [aR (ta t)] am_R0 h) (hX : ¬ (isTx h t ∧ 0 ≤ p ∧ p ≤ h (ta t) 4) → X "java/lang/IndexOutOfBoundsException" am_R0 h) : am_V M_X10_knownWithRow kc ks 0 [aR 0, aI t, aI p, aU] [] am_R0 h Q X := by
  refine S_X10_knownWithRow_0 ⟨by omega, L_known hm (by omega) (by omega) (fun z => ?_) (fun z => hX (fun y => z y.1))⟩
  have hT : isT (ta t) := ta_isT z.1 (by have := z.2; omega)
  show am_V M_X10_knownWithRow (kc - 1) (ks - 6) 5 _ [aR (ta t)] am_R0 h Q X
  exact S_X10_knownWithRow_5 hT ⟨fun y => ⟨by omega, hX (by omega)⟩, fun y => ⟨fun w => hQ z y w, fun w => ⟨by omega, hX (by omega)⟩⟩⟩
theorem L_knownNotEmpty {kc ks : Nat} {h : Hh} {Q : PQ} {X : PX} {t : Int} (hm : h 0 9 ≤ 8) (hkc : 2 ≤ kc) (hks : 12 ≤ ks) (hQ : isTx h t → h (ta t) 4 ≠ 0 → Q [aR (ta t)] am_R0 h) (hX : ¬ isTx h t → X "java/lang/IndexOutOfBoundsException" am_R0 h) (hN : isTx h t → h (ta t) 4 = 0 → X "java/util/NoSuchElementException" am_R0 h) : am_V M_X10_knownNotEmpty kc ks 0 [aR 0, aI t, aU] [] am_R0 h Q X := by
  refine S_X10_knownNotEmpty_0 ⟨by omega, L_known hm (by omega) (by omega) (fun z => ?_) hX⟩
  have hT : isT (ta t) := ta_isT z.1 (by have := z.2; omega)
  show am_V M_X10_knownNotEmpty (kc - 1) (ks - 6) 5 _ [aR (ta t)] am_R0 h Q X
  exact S_X10_knownNotEmpty_5 hT ⟨fun y => hQ z y, fun y => ⟨by omega, hN z y⟩⟩
