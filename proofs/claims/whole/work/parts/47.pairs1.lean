/-! count on both sides -/
theorem L_L_count {kc ks : Nat} {h : Hh} {Q : PQ} {X : PX} {t : Int} (hS : SIM h) (hkc : 2 ≤ kc) (hks : 12 ≤ ks) (hQ1 : ¬ isTx h t → Q [aI 1] am_R0 h) (hQ2 : isTx h t → ¬ (h 2 1 ≠ 0 ∧ ¬ endIn (h 3) (h 2 1)) → Q [aI 2] am_R0 h) (hQ0 : isTx h t → h 2 1 ≠ 0 → ¬ endIn (h 3) (h 2 1) → Q [aI 0] am_R0 (am_st h 81 0 (cnt (fun p => AG (en (h (ta t + 1)) (h (ta t) 4)) (h 3) p 0 (h 2 1).toNat) (h (ta t) 4).toNat))) : am_V M_L_count kc ks 0 [aR 0, aI t, aR 81, aU] [] am_R0 h Q X := by
  refine S_L_count_0 ⟨⟨hkc, hks⟩, L_X10_count hS (Nat.le_refl _) (Nat.le_refl _) (fun z => Or.inl ⟨rfl, S_L_count_13 (hQ1 z)⟩) (fun z y => Or.inr ⟨rfl, S_L_count_16 (hQ2 z y)⟩) (fun z y0 y1 => ?_)⟩
  show am_V M_L_count (kc - 2) (ks - 12) 7 _ [aI _, aI 0, aR 81] am_R0 h Q X
  exact S_L_count_7 ⟨by omega, hQ0 z y0 y1⟩
theorem L_isNoWord {kc ks : Nat} {h : Hh} {Q : PQ} {X : PX} {t : Int} (hm : 0 ≤ h 72 8 ∧ h 72 8 ≤ 8) (h9 : h 72 9 ≤ 65) (h0 : (0 ≤ t ∧ t < h 72 8) → h 72 9 ≠ 0 → ¬ endIn (h 75) (h 72 9) → Q [aI 0] am_R0 (am_st h 72 10 0)) (h1 : ¬ (0 ≤ t ∧ t < h 72 8) → Q [aI 1] am_R0 (am_st h 72 10 1)) (h2 : (0 ≤ t ∧ t < h 72 8) → ¬ (h 72 9 ≠ 0 ∧ ¬ endIn (h 75) (h 72 9)) → Q [aI 1] am_R0 (am_st h 72 10 2)) : am_V M_X11_isNoWord kc ks 0 [aR 72, aI t] [] am_R0 h Q X := by
  refine S_X11_isNoWord_0 (L_isText hm (fun z => ?_) (fun z => ?_))
  · show am_V M_X11_isNoWord kc ks 6 _ [aI 1, aR 72] am_R0 h Q X
    refine S_X11_isNoWord_6 ⟨fun _ => ⟨fun y => L_isWrong ?_, fun y => L_hasEnd h9 (fun w => ?_) (fun w => ?_)⟩, fun w => absurd w (by decide)⟩
    · show am_V M_X11_isNoWord kc ks 35 _ [aI 1] am_R0 _ Q X
      exact S_X11_isNoWord_35 ⟨Or.inr rfl, h2 z fun w => w.1 y⟩
    · show am_V M_X11_isNoWord kc ks 24 _ [aI 1, aR 72] am_R0 h Q X
      refine S_X11_isNoWord_24 ⟨fun v => absurd v (by decide), fun _ => L_isWrong ?_⟩
      show am_V M_X11_isNoWord kc ks 35 _ [aI 1] am_R0 _ Q X
      exact S_X11_isNoWord_35 ⟨Or.inr rfl, h2 z fun v => v.2 w⟩
    · show am_V M_X11_isNoWord kc ks 24 _ [aI 0, aR 72] am_R0 h Q X
      refine S_X11_isNoWord_24 ⟨fun _ => L_isWrong ?_, fun v => absurd rfl v⟩
      show am_V M_X11_isNoWord kc ks 35 _ [aI 0] am_R0 _ Q X
      exact S_X11_isNoWord_35 ⟨Or.inl rfl, h0 z y w⟩
  · show am_V M_X11_isNoWord kc ks 6 _ [aI 0, aR 72] am_R0 h Q X
    refine S_X11_isNoWord_6 ⟨fun w => absurd rfl w, fun _ => L_isWrong ?_⟩
    show am_V M_X11_isNoWord kc ks 35 _ [aI 1] am_R0 _ Q X
    exact S_X11_isNoWord_35 ⟨Or.inr rfl, h1 z⟩
theorem L_X11_count {kc ks : Nat} {h : Hh} {Q : PQ} {X : PX} {t : Int} (hm : 0 ≤ h 72 8 ∧ h 72 8 ≤ 8) (hl : ∀ t, 0 ≤ t → t < h 72 8 → 0 ≤ h 74 t ∧ h 74 t ≤ 64) (h90 : 0 ≤ h 72 9) (h9 : h 72 9 ≤ 65) (h0 : (0 ≤ t ∧ t < h 72 8) → h 72 9 ≠ 0 → ¬ endIn (h 75) (h 72 9) → Q [aI (cnt (standsAt (h 75) (h 72 9) 0 (ms h t) (h 74 t)) (h 74 t).toNat)] am_R0 (am_st h 72 10 0)) (h1 : ¬ (0 ≤ t ∧ t < h 72 8) → Q [aI 0] am_R0 (am_st h 72 10 1)) (h2 : (0 ≤ t ∧ t < h 72 8) → ¬ (h 72 9 ≠ 0 ∧ ¬ endIn (h 75) (h 72 9)) → Q [aI 0] am_R0 (am_st h 72 10 2)) : am_V M_X11_count kc ks 0 [aR 72, aI t] [] am_R0 h Q X := by
  refine S_X11_count_0 (L_isNoWord hm h9 (fun z y0 y1 => ?_) (fun z => ?_) (fun z y => ?_))
  · show am_V M_X11_count kc ks 5 _ [aI 0] am_R0 (am_st h 72 10 0) Q X
    obtain ⟨n0, n64⟩ := hl t z.1 z.2
    obtain ⟨n, hn⟩ : ∃ n : Nat, h 74 t = n := ⟨(h 74 t).toNat, by omega⟩
    have h0 := h0 z y0 y1
    rw [hn, Int.toNat_natCast] at h0
    have e9 : am_st h 72 10 0 72 9 = h 72 9 := am_st_n (Or.inr (by decide))
    have e75 : am_st h 72 10 0 75 = h 75 := am_st_o (by decide)
    have e74 : am_st h 72 10 0 74 = h 74 := am_st_o (by decide)
    have ems : ms (am_st h 72 10 0) t = ms h t := by unfold ms; rw [am_st_o (by decide)]
    refine S_X11_count_5 ⟨fun _ => L_countFrom z.1 (by omega) (by rw [e9]; exact h90) (by rw [e9]; exact h9) (by omega) (by rw [e9]; exact h90) (n := n) (by rw [e74]; exact hn) (by omega) ?_, fun w => absurd rfl w⟩
    rw [e9, e75, ems]
    show am_V M_X11_count kc ks 18 _ [aI _] am_R0 (am_st h 72 10 0) Q X
    exact S_X11_count_18 h0
  · show am_V M_X11_count kc ks 5 _ [aI 1] am_R0 (am_st h 72 10 1) Q X
    exact S_X11_count_5 ⟨fun w => absurd w (by decide), fun _ => h1 z⟩
  · show am_V M_X11_count kc ks 5 _ [aI 1] am_R0 (am_st h 72 10 2) Q X
    exact S_X11_count_5 ⟨fun w => absurd w (by decide), fun _ => h2 z y⟩
