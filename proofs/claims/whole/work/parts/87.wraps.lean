/-! THE CALLS AS THE LAW MAKES THEM -/
theorem W_type {kc ks : Nat} {h : Hh} {x : Int} {Q : PQ} {X : PX} (hS : SIM h) (hx : 0 ≤ x ∧ x < 65536) (hkc : 1 ≤ kc) (hks : 6 ≤ ks) (kw : ∀ (c : Int) (g : Hh), g 1000 = h 1000 → g 1001 = h 1001 → GM M_X11_type [aR 72, aI x] aI c g → Q [aI c] am_R0 g) : am_V M_L_type kc ks 0 [aR 0, aI x, aR 81, aU] [] am_R0 h Q X := by
  refine v_same rfl (S_L_type_0 ⟨⟨by omega, by omega⟩, v_mono (T_type hS hx (Nat.le_refl _) (Nat.le_refl _)) (fun v ρ' h' z => ?_) (fun Ex ρ' h' z => ?_)⟩)
  · obtain ⟨y, rfl, rfl, g⟩ := z
    exact S_L_type_7 ⟨by decide, fun e1 e2 => kw 0 _ e1 e2 g⟩
  · obtain ⟨rfl, c, he, g⟩ := z
    rcases c with _ | _ | c
    · cases he
      exact Or.inl ⟨rfl, S_L_type_13 (fun e1 e2 => kw 1 _ e1 e2 g)⟩
    · cases he
      exact Or.inr (⟨rfl, S_L_type_16 (fun e1 e2 => kw 2 _ e1 e2 g)⟩)
    · exact absurd he (by intro h9; cases h9)
theorem W_typeMore {kc ks : Nat} {h : Hh} {m a1 a2 a3 a4 a5 a6 a7 a8 : Int} {Q : PQ} {X : PX} (hS : SIM h) (h1 : am_ch a1) (h2 : am_ch a2) (h3 : am_ch a3) (h4 : am_ch a4) (h5 : am_ch a5) (h6 : am_ch a6) (h7 : am_ch a7) (h8 : am_ch a8) (hkc : 1 ≤ kc) (hks : 6 ≤ ks) (kw : ∀ (c : Int) (g : Hh), g 1000 = h 1000 → g 1001 = h 1001 → GM M_X11_typeMore [aR 72, aI m, aI a1, aI a2, aI a3, aI a4, aI a5, aI a6, aI a7, aI a8, aU, aU, aU] aI c g → Q [aI c] am_R0 g) : am_V M_L_typeMore kc ks 0 [aR 0, aI m, aI a1, aI a2, aI a3, aI a4, aI a5, aI a6, aI a7, aI a8, aR 81, aU] [] am_R0 h Q X := by
  refine v_same rfl (S_L_typeMore_0 ⟨⟨by omega, by omega⟩, v_mono (T_typeMore hS h1 h2 h3 h4 h5 h6 h7 h8 (Nat.le_refl _) (Nat.le_refl _)) (fun v ρ' h' z => ?_) (fun Ex ρ' h' z => ?_)⟩)
  · obtain ⟨y, rfl, rfl, g⟩ := z
    exact S_L_typeMore_22 ⟨by decide, fun e1 e2 => kw 0 _ e1 e2 g⟩
  · obtain ⟨rfl, c, he, g⟩ := z
    rcases c with _ | _ | c
    · cases he
      exact Or.inl ⟨rfl, S_L_typeMore_29 (fun e1 e2 => kw 1 _ e1 e2 g)⟩
    · cases he
      exact Or.inr (⟨rfl, S_L_typeMore_33 (fun e1 e2 => kw 2 _ e1 e2 g)⟩)
    · exact absurd he (by intro h9; cases h9)
theorem W_typed {kc ks : Nat} {h : Hh} {x : Int} {Q : PQ} {X : PX} (hS : SIM h) (hkc : 1 ≤ kc) (hks : 6 ≤ ks) (kw : ∀ (c : Int) (g : Hh), g 1000 = h 1000 → g 1001 = h 1001 → GM M_X11_typed [aR 72, aI x] aI c g → Q [aI c] am_R0 g) : am_V M_L_typed kc ks 0 [aR 0, aI x, aR 81, aU] [] am_R0 h Q X := by
  refine v_same rfl (S_L_typed_0 ⟨⟨by omega, by omega⟩, v_mono (T_typed hS (Nat.le_refl _) (Nat.le_refl _)) (fun v ρ' h' z => ?_) (fun Ex ρ' h' z => ?_)⟩)
  · obtain ⟨y, rfl, rfl, g⟩ := z
    exact S_L_typed_7 ⟨by decide, fun e1 e2 => kw 0 _ e1 e2 g⟩
  · obtain ⟨rfl, c, he, g⟩ := z
    rcases c with _ | c
    · cases he
      exact ⟨rfl, S_L_typed_13 (fun e1 e2 => kw 1 _ e1 e2 g)⟩
    · exact absurd he (by intro h9; cases h9)
theorem W_text {kc ks : Nat} {h : Hh} {Q : PQ} {X : PX} (hS : SIM h) (hkc : 2 ≤ kc) (hks : 12 ≤ ks) (kw : ∀ (c : Int) (g : Hh), g 1000 = h 1000 → g 1001 = h 1001 → GM M_X11_text [aR 72, aU] aI c g → Q [aI c] am_R0 g) : am_V M_L_text kc ks 0 [aR 0, aR 81, aU] [] am_R0 h Q X := by
  refine v_same rfl (S_L_text_0 ⟨⟨by omega, by omega⟩, v_mono (T_text hS (Nat.le_refl _) (Nat.le_refl _)) (fun v ρ' h' z => ?_) (fun Ex ρ' h' z => ?_)⟩)
  · obtain ⟨y, rfl, rfl, g⟩ := z
    exact S_L_text_6 ⟨by decide, fun e1 e2 => kw 0 _ e1 e2 g⟩
  · obtain ⟨rfl, c, he, g⟩ := z
    rcases c with _ | _ | c
    · cases he
      exact Or.inl ⟨rfl, S_L_text_12 (fun e1 e2 => kw 1 _ e1 e2 g)⟩
    · cases he
      exact Or.inr (⟨rfl, S_L_text_15 (fun e1 e2 => kw 2 _ e1 e2 g)⟩)
    · exact absurd he (by intro h9; cases h9)
theorem W_take {kc ks : Nat} {h : Hh} {t : Int} {Q : PQ} {X : PX} (hS : SIM h) (hkc : 1 ≤ kc) (hks : 6 ≤ ks) (kw : ∀ (c : Int) (g : Hh), g 1000 = h 1000 → g 1001 = h 1001 → GM M_X11_take [aR 72, aI t, aU] aI c g → Q [aI c] am_R0 g) : am_V M_L_take kc ks 0 [aR 0, aI t, aR 81, aU] [] am_R0 h Q X := by
  refine v_same rfl (S_L_take_0 ⟨⟨by omega, by omega⟩, v_mono (T_take hS (Nat.le_refl _) (Nat.le_refl _)) (fun v ρ' h' z => ?_) (fun Ex ρ' h' z => ?_)⟩)
  · obtain ⟨y, rfl, rfl, g⟩ := z
    exact S_L_take_7 ⟨by decide, fun e1 e2 => kw 0 _ e1 e2 g⟩
  · obtain ⟨rfl, c, he, g⟩ := z
    rcases c with _ | c
    · cases he
      exact ⟨rfl, S_L_take_13 (fun e1 e2 => kw 1 _ e1 e2 g)⟩
    · exact absurd he (by intro h9; cases h9)
theorem W_length {kc ks : Nat} {h : Hh} {t : Int} {Q : PQ} {X : PX} (hS : SIM h) (hkc : 1 ≤ kc) (hks : 6 ≤ ks) (kw : ∀ (c : Int) (g : Hh), g 1000 = h 1000 → g 1001 = h 1001 → GM M_X11_length [aR 72, aI t] aI c g → Q [aI c] am_R0 g) : am_V M_L_length kc ks 0 [aR 0, aI t, aR 81, aU] [] am_R0 h Q X := by
  refine v_same rfl (S_L_length_0 ⟨⟨by omega, by omega⟩, v_mono (T_length hS (Nat.le_refl _) (Nat.le_refl _)) (fun v ρ' h' z => ?_) (fun Ex ρ' h' z => ?_)⟩)
  · obtain ⟨y, rfl, rfl, g⟩ := z
    exact S_L_length_7 ⟨by decide, fun e1 e2 => kw 0 _ e1 e2 g⟩
  · obtain ⟨rfl, c, he, g⟩ := z
    rcases c with _ | c
    · cases he
      exact ⟨rfl, S_L_length_13 (fun e1 e2 => kw 1 _ e1 e2 g)⟩
    · exact absurd he (by intro h9; cases h9)
theorem W_signAt {kc ks : Nat} {h : Hh} {t p : Int} {Q : PQ} {X : PX} (hS : SIM h) (hkc : 2 ≤ kc) (hks : 12 ≤ ks) (kw : ∀ (c : Int) (g : Hh), g 1000 = h 1000 → g 1001 = h 1001 → GM M_X11_signAt [aR 72, aI t, aI p] aI c g → Q [aI c] am_R0 g) : am_V M_L_signAt kc ks 0 [aR 0, aI t, aI p, aR 81, aU] [] am_R0 h Q X := by
  refine v_same rfl (S_L_signAt_0 ⟨⟨by omega, by omega⟩, v_mono (T_signAt hS (Nat.le_refl _) (Nat.le_refl _)) (fun v ρ' h' z => ?_) (fun Ex ρ' h' z => ?_)⟩)
  · obtain ⟨y, rfl, rfl, g⟩ := z
    exact S_L_signAt_8 ⟨by decide, fun e1 e2 => kw 0 _ e1 e2 g⟩
  · obtain ⟨rfl, c, he, g⟩ := z
    rcases c with _ | c
    · cases he
      exact ⟨rfl, S_L_signAt_15 (fun e1 e2 => kw 1 _ e1 e2 g)⟩
    · exact absurd he (by intro h9; cases h9)
theorem W_join {kc ks : Nat} {h : Hh} {t u : Int} {Q : PQ} {X : PX} (hS : SIM h) (hkc : 4 ≤ kc) (hks : 24 ≤ ks) (kw : ∀ (c : Int) (g : Hh), g 1000 = h 1000 → g 1001 = h 1001 → GM M_X11_join [aR 72, aI t, aI u, aU] aI c g → Q [aI c] am_R0 g) : am_V M_L_join kc ks 0 [aR 0, aI t, aI u, aR 81, aU] [] am_R0 h Q X := by
  refine v_same rfl (S_L_join_0 ⟨⟨by omega, by omega⟩, v_mono (T_join hS (Nat.le_refl _) (Nat.le_refl _)) (fun v ρ' h' z => ?_) (fun Ex ρ' h' z => ?_)⟩)
  · obtain ⟨y, rfl, rfl, g⟩ := z
    exact S_L_join_8 ⟨by decide, fun e1 e2 => kw 0 _ e1 e2 g⟩
  · obtain ⟨rfl, c, he, g⟩ := z
    rcases c with _ | _ | _ | c
    · cases he
      exact Or.inl ⟨rfl, S_L_join_15 (fun e1 e2 => kw 1 _ e1 e2 g)⟩
    · cases he
      exact Or.inr (Or.inl ⟨rfl, S_L_join_19 (fun e1 e2 => kw 2 _ e1 e2 g)⟩)
    · cases he
      exact Or.inr (Or.inr (⟨rfl, S_L_join_23 (fun e1 e2 => kw 3 _ e1 e2 g)⟩))
    · exact absurd he (by intro h9; cases h9)
theorem W_mirror {kc ks : Nat} {h : Hh} {t : Int} {Q : PQ} {X : PX} (hS : SIM h) (hkc : 2 ≤ kc) (hks : 12 ≤ ks) (kw : ∀ (c : Int) (g : Hh), g 1000 = h 1000 → g 1001 = h 1001 → GM M_X11_mirror [aR 72, aI t, aU] aI c g → Q [aI c] am_R0 g) : am_V M_L_mirror kc ks 0 [aR 0, aI t, aR 81, aU] [] am_R0 h Q X := by
  refine v_same rfl (S_L_mirror_0 ⟨⟨by omega, by omega⟩, v_mono (T_mirror hS (Nat.le_refl _) (Nat.le_refl _)) (fun v ρ' h' z => ?_) (fun Ex ρ' h' z => ?_)⟩)
  · obtain ⟨y, rfl, rfl, g⟩ := z
    exact S_L_mirror_7 ⟨by decide, fun e1 e2 => kw 0 _ e1 e2 g⟩
  · obtain ⟨rfl, c, he, g⟩ := z
    rcases c with _ | _ | c
    · cases he
      exact Or.inl ⟨rfl, S_L_mirror_13 (fun e1 e2 => kw 1 _ e1 e2 g)⟩
    · cases he
      exact Or.inr (⟨rfl, S_L_mirror_16 (fun e1 e2 => kw 2 _ e1 e2 g)⟩)
    · exact absurd he (by intro h9; cases h9)
theorem W_change {kc ks : Nat} {h : Hh} {t p x : Int} {Q : PQ} {X : PX} (hS : SIM h) (hx : 0 ≤ x ∧ x < 65536) (hkc : 3 ≤ kc) (hks : 18 ≤ ks) (kw : ∀ (c : Int) (g : Hh), g 1000 = h 1000 → g 1001 = h 1001 → GM M_X11_change [aR 72, aI t, aI p, aI x, aU] aI c g → Q [aI c] am_R0 g) : am_V M_L_change kc ks 0 [aR 0, aI t, aI p, aI x, aR 81, aU] [] am_R0 h Q X := by
  refine v_same rfl (S_L_change_0 ⟨⟨by omega, by omega⟩, v_mono (T_change hS hx (Nat.le_refl _) (Nat.le_refl _)) (fun v ρ' h' z => ?_) (fun Ex ρ' h' z => ?_)⟩)
  · obtain ⟨y, rfl, rfl, g⟩ := z
    exact S_L_change_10 ⟨by decide, fun e1 e2 => kw 0 _ e1 e2 g⟩
  · obtain ⟨rfl, c, he, g⟩ := z
    rcases c with _ | _ | c
    · cases he
      exact Or.inl ⟨rfl, S_L_change_17 (fun e1 e2 => kw 1 _ e1 e2 g)⟩
    · cases he
      exact Or.inr (⟨rfl, S_L_change_21 (fun e1 e2 => kw 2 _ e1 e2 g)⟩)
    · exact absurd he (by intro h9; cases h9)
theorem W_ahead {kc ks : Nat} {h : Hh} {t x : Int} {Q : PQ} {X : PX} (hS : SIM h) (hx : 0 ≤ x ∧ x < 65536) (hkc : 2 ≤ kc) (hks : 12 ≤ ks) (kw : ∀ (c : Int) (g : Hh), g 1000 = h 1000 → g 1001 = h 1001 → GM M_X11_ahead [aR 72, aI t, aI x, aU, aU] aI c g → Q [aI c] am_R0 g) : am_V M_L_ahead kc ks 0 [aR 0, aI t, aI x, aR 81, aU] [] am_R0 h Q X := by
  refine v_same rfl (S_L_ahead_0 ⟨⟨by omega, by omega⟩, v_mono (T_ahead hS hx (Nat.le_refl _) (Nat.le_refl _)) (fun v ρ' h' z => ?_) (fun Ex ρ' h' z => ?_)⟩)
  · obtain ⟨y, rfl, rfl, g⟩ := z
    exact S_L_ahead_8 ⟨by decide, fun e1 e2 => kw 0 _ e1 e2 g⟩
  · obtain ⟨rfl, c, he, g⟩ := z
    rcases c with _ | _ | _ | c
    · cases he
      exact Or.inl ⟨rfl, S_L_ahead_15 (fun e1 e2 => kw 1 _ e1 e2 g)⟩
    · cases he
      exact Or.inr (Or.inl ⟨rfl, S_L_ahead_19 (fun e1 e2 => kw 2 _ e1 e2 g)⟩)
    · cases he
      exact Or.inr (Or.inr (⟨rfl, S_L_ahead_23 (fun e1 e2 => kw 3 _ e1 e2 g)⟩))
    · exact absurd he (by intro h9; cases h9)
theorem W_chop {kc ks : Nat} {h : Hh} {t : Int} {Q : PQ} {X : PX} (hS : SIM h) (hkc : 2 ≤ kc) (hks : 12 ≤ ks) (kw : ∀ (c : Int) (g : Hh), g 1000 = h 1000 → g 1001 = h 1001 → GM M_X11_chop [aR 72, aI t, aU, aU] aI c g → Q [aI c] am_R0 g) : am_V M_L_chop kc ks 0 [aR 0, aI t, aR 81, aU] [] am_R0 h Q X := by
  refine v_same rfl (S_L_chop_0 ⟨⟨by omega, by omega⟩, v_mono (T_chop hS (Nat.le_refl _) (Nat.le_refl _)) (fun v ρ' h' z => ?_) (fun Ex ρ' h' z => ?_)⟩)
  · obtain ⟨y, rfl, rfl, g⟩ := z
    exact S_L_chop_7 ⟨by decide, fun e1 e2 => kw 0 _ e1 e2 g⟩
  · obtain ⟨rfl, c, he, g⟩ := z
    rcases c with _ | _ | c
    · cases he
      exact Or.inl ⟨rfl, S_L_chop_13 (fun e1 e2 => kw 1 _ e1 e2 g)⟩
    · cases he
      exact Or.inr (⟨rfl, S_L_chop_16 (fun e1 e2 => kw 2 _ e1 e2 g)⟩)
    · exact absurd he (by intro h9; cases h9)
theorem W_endAt {kc ks : Nat} {h : Hh} {t p : Int} {Q : PQ} {X : PX} (hS : SIM h) (hkc : 2 ≤ kc) (hks : 12 ≤ ks) (kw : ∀ (c : Int) (g : Hh), g 1000 = h 1000 → g 1001 = h 1001 → GM M_X11_endAt [aR 72, aI t, aI p] aI c g → Q [aI c] am_R0 g) : am_V M_L_endAt kc ks 0 [aR 0, aI t, aI p, aR 81, aU] [] am_R0 h Q X := by
  refine v_same rfl (S_L_endAt_0 ⟨⟨by omega, by omega⟩, v_mono (T_endAt hS (Nat.le_refl _) (Nat.le_refl _)) (fun v ρ' h' z => ?_) (fun Ex ρ' h' z => ?_)⟩)
  · obtain ⟨y, rfl, rfl, g⟩ := z
    exact S_L_endAt_8 ⟨by decide, fun e1 e2 => kw 0 _ e1 e2 g⟩
  · obtain ⟨rfl, c, he, g⟩ := z
    rcases c with _ | c
    · cases he
      exact ⟨rfl, S_L_endAt_15 (fun e1 e2 => kw 1 _ e1 e2 g)⟩
    · exact absurd he (by intro h9; cases h9)
theorem W_rankOf {kc ks : Nat} {h : Hh} {t p : Int} {Q : PQ} {X : PX} (hS : SIM h) (hkc : 2 ≤ kc) (hks : 12 ≤ ks) (kw : ∀ (c : Int) (g : Hh), g 1000 = h 1000 → g 1001 = h 1001 → GM M_X11_rankOf [aR 72, aI t, aI p] aI c g → Q [aI c] am_R0 g) : am_V M_L_rankOf kc ks 0 [aR 0, aI t, aI p, aR 81, aU] [] am_R0 h Q X := by
  refine v_same rfl (S_L_rankOf_0 ⟨⟨by omega, by omega⟩, v_mono (T_rankOf hS (Nat.le_refl _) (Nat.le_refl _)) (fun v ρ' h' z => ?_) (fun Ex ρ' h' z => ?_)⟩)
  · obtain ⟨y, rfl, rfl, g⟩ := z
    exact S_L_rankOf_8 ⟨by decide, fun e1 e2 => kw 0 _ e1 e2 g⟩
  · obtain ⟨rfl, c, he, g⟩ := z
    rcases c with _ | c
    · cases he
      exact ⟨rfl, S_L_rankOf_15 (fun e1 e2 => kw 1 _ e1 e2 g)⟩
    · exact absurd he (by intro h9; cases h9)
theorem W_classOf {kc ks : Nat} {h : Hh} {t p k : Int} {Q : PQ} {X : PX} (hS : SIM h) (hkc : 3 ≤ kc) (hks : 18 ≤ ks) (kw : ∀ (c : Int) (g : Hh), g 1000 = h 1000 → g 1001 = h 1001 → GM M_X11_classOf [aR 72, aI t, aI p, aI k, aU, aU] aI c g → Q [aI c] am_R0 g) : am_V M_L_classOf kc ks 0 [aR 0, aI t, aI p, aI k, aR 81, aU] [] am_R0 h Q X := by
  refine v_same rfl (S_L_classOf_0 ⟨⟨by omega, by omega⟩, v_mono (T_classOf hS (Nat.le_refl _) (Nat.le_refl _)) (fun v ρ' h' z => ?_) (fun Ex ρ' h' z => ?_)⟩)
  · obtain ⟨y, rfl, rfl, g⟩ := z
    exact S_L_classOf_10 ⟨by decide, fun e1 e2 => kw 0 _ e1 e2 g⟩
  · obtain ⟨rfl, c, he, g⟩ := z
    rcases c with _ | _ | c
    · cases he
      exact Or.inl ⟨rfl, S_L_classOf_17 (fun e1 e2 => kw 1 _ e1 e2 g)⟩
    · cases he
      exact Or.inr (⟨rfl, S_L_classOf_21 (fun e1 e2 => kw 2 _ e1 e2 g)⟩)
    · exact absurd he (by intro h9; cases h9)
theorem W_classes {kc ks : Nat} {h : Hh} {t k : Int} {Q : PQ} {X : PX} (hS : SIM h) (hkc : 2 ≤ kc) (hks : 12 ≤ ks) (kw : ∀ (c : Int) (g : Hh), g 1000 = h 1000 → g 1001 = h 1001 → GM M_X11_classes [aR 72, aI t, aI k] aI c g → Q [aI c] am_R0 g) : am_V M_L_classes kc ks 0 [aR 0, aI t, aI k, aR 81, aU] [] am_R0 h Q X := by
  refine v_same rfl (S_L_classes_0 ⟨⟨by omega, by omega⟩, v_mono (T_classes hS (Nat.le_refl _) (Nat.le_refl _)) (fun v ρ' h' z => ?_) (fun Ex ρ' h' z => ?_)⟩)
  · obtain ⟨y, rfl, rfl, g⟩ := z
    exact S_L_classes_8 ⟨by decide, fun e1 e2 => kw 0 _ e1 e2 g⟩
  · obtain ⟨rfl, c, he, g⟩ := z
    rcases c with _ | _ | c
    · cases he
      exact Or.inl ⟨rfl, S_L_classes_15 (fun e1 e2 => kw 1 _ e1 e2 g)⟩
    · cases he
      exact Or.inr (⟨rfl, S_L_classes_19 (fun e1 e2 => kw 2 _ e1 e2 g)⟩)
    · exact absurd he (by intro h9; cases h9)
theorem W_rounds {kc ks : Nat} {h : Hh} {t : Int} {Q : PQ} {X : PX} (hS : SIM h) (hkc : 1 ≤ kc) (hks : 6 ≤ ks) (kw : ∀ (c : Int) (g : Hh), g 1000 = h 1000 → g 1001 = h 1001 → GM M_X11_rounds [aR 72, aI t, aU, aU] aI c g → Q [aI c] am_R0 g) : am_V M_L_rounds kc ks 0 [aR 0, aI t, aR 81, aU] [] am_R0 h Q X := by
  refine v_same rfl (S_L_rounds_0 ⟨⟨by omega, by omega⟩, v_mono (T_rounds hS (Nat.le_refl _) (Nat.le_refl _)) (fun v ρ' h' z => ?_) (fun Ex ρ' h' z => ?_)⟩)
  · obtain ⟨y, rfl, rfl, g⟩ := z
    exact S_L_rounds_7 ⟨by decide, fun e1 e2 => kw 0 _ e1 e2 g⟩
  · obtain ⟨rfl, c, he, g⟩ := z
    rcases c with _ | c
    · cases he
      exact ⟨rfl, S_L_rounds_13 (fun e1 e2 => kw 1 _ e1 e2 g)⟩
    · exact absurd he (by intro h9; cases h9)
theorem W_common {kc ks : Nat} {h : Hh} {t p : Int} {Q : PQ} {X : PX} (hS : SIM h) (hkc : 2 ≤ kc) (hks : 12 ≤ ks) (kw : ∀ (c : Int) (g : Hh), g 1000 = h 1000 → g 1001 = h 1001 → GM M_X11_common [aR 72, aI t, aI p] aI c g → Q [aI c] am_R0 g) : am_V M_L_common kc ks 0 [aR 0, aI t, aI p, aR 81, aU] [] am_R0 h Q X := by
  refine v_same rfl (S_L_common_0 ⟨⟨by omega, by omega⟩, v_mono (T_common hS (Nat.le_refl _) (Nat.le_refl _)) (fun v ρ' h' z => ?_) (fun Ex ρ' h' z => ?_)⟩)
  · obtain ⟨y, rfl, rfl, g⟩ := z
    exact S_L_common_8 ⟨by decide, fun e1 e2 => kw 0 _ e1 e2 g⟩
  · obtain ⟨rfl, c, he, g⟩ := z
    rcases c with _ | c
    · cases he
      exact ⟨rfl, S_L_common_15 (fun e1 e2 => kw 1 _ e1 e2 g)⟩
    · exact absurd he (by intro h9; cases h9)
theorem W_shared {kc ks : Nat} {h : Hh} {t p u q : Int} {Q : PQ} {X : PX} (hS : SIM h) (hkc : 4 ≤ kc) (hks : 24 ≤ ks) (kw : ∀ (c : Int) (g : Hh), g 1000 = h 1000 → g 1001 = h 1001 → GM M_X11_shared [aR 72, aI t, aI p, aI u, aI q] aI c g → Q [aI c] am_R0 g) : am_V M_L_shared kc ks 0 [aR 0, aI t, aI p, aI u, aI q, aR 81, aU] [] am_R0 h Q X := by
  refine v_same rfl (S_L_shared_0 ⟨⟨by omega, by omega⟩, v_mono (T_shared hS (Nat.le_refl _) (Nat.le_refl _)) (fun v ρ' h' z => ?_) (fun Ex ρ' h' z => ?_)⟩)
  · obtain ⟨y, rfl, rfl, g⟩ := z
    exact S_L_shared_12 ⟨by decide, fun e1 e2 => kw 0 _ e1 e2 g⟩
  · obtain ⟨rfl, c, he, g⟩ := z
    rcases c with _ | c
    · cases he
      exact ⟨rfl, S_L_shared_19 (fun e1 e2 => kw 1 _ e1 e2 g)⟩
    · exact absurd he (by intro h9; cases h9)
theorem W_count {kc ks : Nat} {h : Hh} {t : Int} {Q : PQ} {X : PX} (hS : SIM h) (hkc : 2 ≤ kc) (hks : 12 ≤ ks) (kw : ∀ (c : Int) (g : Hh), g 1000 = h 1000 → g 1001 = h 1001 → GM M_X11_count [aR 72, aI t] aI c g → Q [aI c] am_R0 g) : am_V M_L_count kc ks 0 [aR 0, aI t, aR 81, aU] [] am_R0 h Q X := by
  refine v_same rfl (S_L_count_0 ⟨⟨by omega, by omega⟩, v_mono (T_count hS (Nat.le_refl _) (Nat.le_refl _)) (fun v ρ' h' z => ?_) (fun Ex ρ' h' z => ?_)⟩)
  · obtain ⟨y, rfl, rfl, g⟩ := z
    exact S_L_count_7 ⟨by decide, fun e1 e2 => kw 0 _ e1 e2 g⟩
  · obtain ⟨rfl, c, he, g⟩ := z
    rcases c with _ | _ | c
    · cases he
      exact Or.inl ⟨rfl, S_L_count_13 (fun e1 e2 => kw 1 _ e1 e2 g)⟩
    · cases he
      exact Or.inr (⟨rfl, S_L_count_16 (fun e1 e2 => kw 2 _ e1 e2 g)⟩)
    · exact absurd he (by intro h9; cases h9)
theorem W_runFrom {kc ks : Nat} {h : Hh} {t : Int} {Q : PQ} {X : PX} (hS : SIM h) (hkc : 3 ≤ kc) (hks : 18 ≤ ks) (kw : ∀ (c : Int) (g : Hh), g 1000 = h 1000 → g 1001 = h 1001 → GM M_X11_runFrom [aR 72, aI t, aU, aU] aI c g → Q [aI c] am_R0 g) : am_V M_L_runFrom kc ks 0 [aR 0, aI t, aR 81, aU] [] am_R0 h Q X := by
  refine v_same rfl (S_L_runFrom_0 ⟨⟨by omega, by omega⟩, v_mono (T_runFrom hS (Nat.le_refl _) (Nat.le_refl _)) (fun v ρ' h' z => ?_) (fun Ex ρ' h' z => ?_)⟩)
  · obtain ⟨y, rfl, rfl, g⟩ := z
    exact S_L_runFrom_7 ⟨by decide, fun e1 e2 => kw 0 _ e1 e2 g⟩
  · obtain ⟨rfl, c, he, g⟩ := z
    rcases c with _ | _ | _ | c
    · cases he
      exact Or.inl ⟨rfl, S_L_runFrom_13 (fun e1 e2 => kw 1 _ e1 e2 g)⟩
    · cases he
      exact Or.inr (Or.inl ⟨rfl, S_L_runFrom_16 (fun e1 e2 => kw 2 _ e1 e2 g)⟩)
    · cases he
      exact Or.inr (Or.inr (⟨rfl, S_L_runFrom_19 (fun e1 e2 => kw 3 _ e1 e2 g)⟩))
    · exact absurd he (by intro h9; cases h9)
theorem W_standsAt {kc ks : Nat} {h : Hh} {t x : Int} {Q : PQ} {X : PX} (hS : SIM h) (hx : am_i x) (hkc : 3 ≤ kc) (hks : 18 ≤ ks) (kw : ∀ (c : Int) (g : Hh), g 1000 = h 1000 → g 1001 = h 1001 → GM M_X11_standsAt [aR 72, aI t, aI x, aU, aU] aI c g → Q [aI c] am_R0 g) : am_V M_L_standsAt kc ks 0 [aR 0, aI t, aI x, aR 81, aU] [] am_R0 h Q X := by
  refine v_same rfl (S_L_standsAt_0 ⟨⟨by omega, by omega⟩, v_mono (T_standsAt hS hx (Nat.le_refl _) (Nat.le_refl _)) (fun v ρ' h' z => ?_) (fun Ex ρ' h' z => ?_)⟩)
  · obtain ⟨y, rfl, rfl, g⟩ := z
    exact S_L_standsAt_8 ⟨by decide, fun e1 e2 => kw 0 _ e1 e2 g⟩
  · obtain ⟨rfl, c, he, g⟩ := z
    rcases c with _ | _ | _ | c
    · cases he
      exact Or.inl ⟨rfl, S_L_standsAt_15 (fun e1 e2 => kw 1 _ e1 e2 g)⟩
    · cases he
      exact Or.inr (Or.inl ⟨rfl, S_L_standsAt_19 (fun e1 e2 => kw 2 _ e1 e2 g)⟩)
    · cases he
      exact Or.inr (Or.inr (⟨rfl, S_L_standsAt_23 (fun e1 e2 => kw 3 _ e1 e2 g)⟩))
    · exact absurd he (by intro h9; cases h9)
theorem W_tail {kc ks : Nat} {h : Hh} {t x : Int} {Q : PQ} {X : PX} (hS : SIM h) (hkc : 3 ≤ kc) (hks : 18 ≤ ks) (kw : ∀ (c : Int) (g : Hh), g 1000 = h 1000 → g 1001 = h 1001 → GM M_X11_tail [aR 72, aI t, aI x] aI c g → Q [aI c] am_R0 g) : am_V M_L_tail kc ks 0 [aR 0, aI t, aI x, aR 81, aU] [] am_R0 h Q X := by
  refine v_same rfl (S_L_tail_0 ⟨⟨by omega, by omega⟩, v_mono (T_tail hS (Nat.le_refl _) (Nat.le_refl _)) (fun v ρ' h' z => ?_) (fun Ex ρ' h' z => ?_)⟩)
  · obtain ⟨y, rfl, rfl, g⟩ := z
    exact S_L_tail_8 ⟨by decide, fun e1 e2 => kw 0 _ e1 e2 g⟩
  · obtain ⟨rfl, c, he, g⟩ := z
    rcases c with _ | _ | _ | c
    · cases he
      exact Or.inl ⟨rfl, S_L_tail_15 (fun e1 e2 => kw 1 _ e1 e2 g)⟩
    · cases he
      exact Or.inr (Or.inl ⟨rfl, S_L_tail_19 (fun e1 e2 => kw 2 _ e1 e2 g)⟩)
    · cases he
      exact Or.inr (Or.inr (⟨rfl, S_L_tail_23 (fun e1 e2 => kw 3 _ e1 e2 g)⟩))
    · exact absurd he (by intro h9; cases h9)
theorem W_words {kc ks : Nat} {h : Hh} {t : Int} {Q : PQ} {X : PX} (hS : SIM h) (hkc : 1 ≤ kc) (hks : 6 ≤ ks) (kw : ∀ (c : Int) (g : Hh), g 1000 = h 1000 → g 1001 = h 1001 → GM M_X11_words [aR 72, aI t] aL c g → Q [aI c] am_R0 g) : am_V M_L_words kc ks 0 [aR 0, aI t, aR 81, aU] [] am_R0 h Q X := by
  refine v_same rfl (S_L_words_0 ⟨⟨by omega, by omega⟩, v_mono (T_words hS (Nat.le_refl _) (Nat.le_refl _)) (fun v ρ' h' z => ?_) (fun Ex ρ' h' z => ?_)⟩)
  · obtain ⟨y, rfl, rfl, g⟩ := z
    exact S_L_words_7 ⟨by decide, fun e1 e2 => kw 0 _ e1 e2 g⟩
  · obtain ⟨rfl, c, he, g⟩ := z
    rcases c with _ | c
    · cases he
      exact ⟨rfl, S_L_words_12 (fun e1 e2 => kw 1 _ e1 e2 g)⟩
    · exact absurd he (by intro h9; cases h9)
theorem W_word {kc ks : Nat} {h : Hh} {t x : Int} {Q : PQ} {X : PX} (hS : SIM h) (hx : am_i x) (hkc : 2 ≤ kc) (hks : 12 ≤ ks) (kw : ∀ (c : Int) (g : Hh), g 1000 = h 1000 → g 1001 = h 1001 → GM M_X11_word [aR 72, aI t, aI x, aU, aU, aU, aU, aU] aI c g → Q [aI c] am_R0 g) : am_V M_L_word kc ks 0 [aR 0, aI t, aI x, aR 81, aU] [] am_R0 h Q X := by
  refine v_same rfl (S_L_word_0 ⟨⟨by omega, by omega⟩, v_mono (T_word hS hx (Nat.le_refl _) (Nat.le_refl _)) (fun v ρ' h' z => ?_) (fun Ex ρ' h' z => ?_)⟩)
  · obtain ⟨y, rfl, rfl, g⟩ := z
    exact S_L_word_8 ⟨by decide, fun e1 e2 => kw 0 _ e1 e2 g⟩
  · obtain ⟨rfl, c, he, g⟩ := z
    rcases c with _ | _ | c
    · cases he
      exact Or.inl ⟨rfl, S_L_word_15 (fun e1 e2 => kw 1 _ e1 e2 g)⟩
    · cases he
      exact Or.inr (⟨rfl, S_L_word_19 (fun e1 e2 => kw 2 _ e1 e2 g)⟩)
    · exact absurd he (by intro h9; cases h9)
theorem W_numberOf {kc ks : Nat} {h : Hh} {t : Int} {Q : PQ} {X : PX} (hS : SIM h) (hkc : 3 ≤ kc) (hks : 18 ≤ ks) (kw : ∀ (c : Int) (g : Hh), g 1000 = h 1000 → g 1001 = h 1001 → GM M_X11_numberOf [aR 72, aI t, aU, aU, aU] aI c g → Q [aI c] am_R0 g) : am_V M_L_numberOf kc ks 0 [aR 0, aI t, aR 81, aU] [] am_R0 h Q X := by
  refine v_same rfl (S_L_numberOf_0 ⟨⟨by omega, by omega⟩, v_mono (T_numberOf hS (Nat.le_refl _) (Nat.le_refl _)) (fun v ρ' h' z => ?_) (fun Ex ρ' h' z => ?_)⟩)
  · obtain ⟨y, rfl, rfl, g⟩ := z
    exact S_L_numberOf_7 ⟨by decide, fun e1 e2 => kw 0 _ e1 e2 g⟩
  · obtain ⟨rfl, c, he, g⟩ := z
    rcases c with _ | _ | _ | c
    · cases he
      exact Or.inl ⟨rfl, S_L_numberOf_13 (fun e1 e2 => kw 1 _ e1 e2 g)⟩
    · cases he
      exact Or.inr (Or.inl ⟨rfl, S_L_numberOf_16 (fun e1 e2 => kw 2 _ e1 e2 g)⟩)
    · cases he
      exact Or.inr (Or.inr (⟨rfl, S_L_numberOf_19 (fun e1 e2 => kw 3 _ e1 e2 g)⟩))
    · exact absurd he (by intro h9; cases h9)
theorem W_twice {kc ks : Nat} {h : Hh} {t : Int} {Q : PQ} {X : PX} (hS : SIM h) (hkc : 1 ≤ kc) (hks : 6 ≤ ks) (kw : ∀ (c : Int) (g : Hh), g 1000 = h 1000 → g 1001 = h 1001 → GM M_X11_twice [aR 72, aI t] aI c g → Q [aI c] am_R0 g) : am_V M_L_twice kc ks 0 [aR 0, aI t, aR 81, aU] [] am_R0 h Q X := by
  refine v_same rfl (S_L_twice_0 ⟨⟨by omega, by omega⟩, v_mono (T_twice hS (Nat.le_refl _) (Nat.le_refl _)) (fun v ρ' h' z => ?_) (fun Ex ρ' h' z => ?_)⟩)
  · obtain ⟨y, rfl, rfl, g⟩ := z
    exact S_L_twice_7 ⟨by decide, fun e1 e2 => kw 0 _ e1 e2 g⟩
  · obtain ⟨rfl, c, he, g⟩ := z
    rcases c with _ | c
    · cases he
      exact ⟨rfl, S_L_twice_13 (fun e1 e2 => kw 1 _ e1 e2 g)⟩
    · exact absurd he (by intro h9; cases h9)
theorem W_twiceAt {kc ks : Nat} {h : Hh} {t : Int} {Q : PQ} {X : PX} (hS : SIM h) (hkc : 2 ≤ kc) (hks : 12 ≤ ks) (kw : ∀ (c : Int) (g : Hh), g 1000 = h 1000 → g 1001 = h 1001 → GM M_X11_twiceAt [aR 72, aI t, aU, aU, aU] aI c g → Q [aI c] am_R0 g) : am_V M_L_twiceAt kc ks 0 [aR 0, aI t, aR 81, aU] [] am_R0 h Q X := by
  refine v_same rfl (S_L_twiceAt_0 ⟨⟨by omega, by omega⟩, v_mono (T_twiceAt hS (Nat.le_refl _) (Nat.le_refl _)) (fun v ρ' h' z => ?_) (fun Ex ρ' h' z => ?_)⟩)
  · obtain ⟨y, rfl, rfl, g⟩ := z
    exact S_L_twiceAt_7 ⟨by decide, fun e1 e2 => kw 0 _ e1 e2 g⟩
  · obtain ⟨rfl, c, he, g⟩ := z
    rcases c with _ | _ | c
    · cases he
      exact Or.inl ⟨rfl, S_L_twiceAt_13 (fun e1 e2 => kw 1 _ e1 e2 g)⟩
    · cases he
      exact Or.inr (⟨rfl, S_L_twiceAt_16 (fun e1 e2 => kw 2 _ e1 e2 g)⟩)
    · exact absurd he (by intro h9; cases h9)
theorem W_once {kc ks : Nat} {h : Hh} {t : Int} {Q : PQ} {X : PX} (hS : SIM h) (hkc : 2 ≤ kc) (hks : 12 ≤ ks) (kw : ∀ (c : Int) (g : Hh), g 1000 = h 1000 → g 1001 = h 1001 → GM M_X11_once [aR 72, aI t] aI c g → Q [aI c] am_R0 g) : am_V M_L_once kc ks 0 [aR 0, aI t, aR 81, aU] [] am_R0 h Q X := by
  refine v_same rfl (S_L_once_0 ⟨⟨by omega, by omega⟩, v_mono (T_once hS (Nat.le_refl _) (Nat.le_refl _)) (fun v ρ' h' z => ?_) (fun Ex ρ' h' z => ?_)⟩)
  · obtain ⟨y, rfl, rfl, g⟩ := z
    exact S_L_once_7 ⟨by decide, fun e1 e2 => kw 0 _ e1 e2 g⟩
  · obtain ⟨rfl, c, he, g⟩ := z
    rcases c with _ | _ | c
    · cases he
      exact Or.inl ⟨rfl, S_L_once_13 (fun e1 e2 => kw 1 _ e1 e2 g)⟩
    · cases he
      exact Or.inr (⟨rfl, S_L_once_16 (fun e1 e2 => kw 2 _ e1 e2 g)⟩)
    · exact absurd he (by intro h9; cases h9)
theorem W_onceAt {kc ks : Nat} {h : Hh} {t : Int} {Q : PQ} {X : PX} (hS : SIM h) (hkc : 2 ≤ kc) (hks : 12 ≤ ks) (kw : ∀ (c : Int) (g : Hh), g 1000 = h 1000 → g 1001 = h 1001 → GM M_X11_onceAt [aR 72, aI t] aI c g → Q [aI c] am_R0 g) : am_V M_L_onceAt kc ks 0 [aR 0, aI t, aR 81, aU] [] am_R0 h Q X := by
  refine v_same rfl (S_L_onceAt_0 ⟨⟨by omega, by omega⟩, v_mono (T_onceAt hS (Nat.le_refl _) (Nat.le_refl _)) (fun v ρ' h' z => ?_) (fun Ex ρ' h' z => ?_)⟩)
  · obtain ⟨y, rfl, rfl, g⟩ := z
    exact S_L_onceAt_7 ⟨by decide, fun e1 e2 => kw 0 _ e1 e2 g⟩
  · obtain ⟨rfl, c, he, g⟩ := z
    rcases c with _ | _ | c
    · cases he
      exact Or.inl ⟨rfl, S_L_onceAt_13 (fun e1 e2 => kw 1 _ e1 e2 g)⟩
    · cases he
      exact Or.inr (⟨rfl, S_L_onceAt_16 (fun e1 e2 => kw 2 _ e1 e2 g)⟩)
    · exact absurd he (by intro h9; cases h9)
theorem W_longestIn {kc ks : Nat} {h : Hh} {t : Int} {Q : PQ} {X : PX} (hS : SIM h) (hkc : 1 ≤ kc) (hks : 6 ≤ ks) (kw : ∀ (c : Int) (g : Hh), g 1000 = h 1000 → g 1001 = h 1001 → GM M_X11_longestIn [aR 72, aI t, aU, aU, aU, aU, aU] aI c g → Q [aI c] am_R0 g) : am_V M_L_longestIn kc ks 0 [aR 0, aI t, aR 81, aU] [] am_R0 h Q X := by
  refine v_same rfl (S_L_longestIn_0 ⟨⟨by omega, by omega⟩, v_mono (T_longestIn hS (Nat.le_refl _) (Nat.le_refl _)) (fun v ρ' h' z => ?_) (fun Ex ρ' h' z => ?_)⟩)
  · obtain ⟨y, rfl, rfl, g⟩ := z
    exact S_L_longestIn_7 ⟨by decide, fun e1 e2 => kw 0 _ e1 e2 g⟩
  · obtain ⟨rfl, c, he, g⟩ := z
    rcases c with _ | _ | c
    · cases he
      exact Or.inl ⟨rfl, S_L_longestIn_13 (fun e1 e2 => kw 1 _ e1 e2 g)⟩
    · cases he
      exact Or.inr (⟨rfl, S_L_longestIn_16 (fun e1 e2 => kw 2 _ e1 e2 g)⟩)
    · exact absurd he (by intro h9; cases h9)
theorem W_first {kc ks : Nat} {h : Hh} {t r : Int} {Q : PQ} {X : PX} (hS : SIM h) (hkc : 2 ≤ kc) (hks : 12 ≤ ks) (kw : ∀ (c : Int) (g : Hh), g 1000 = h 1000 → g 1001 = h 1001 → GM M_X11_first [aR 72, aI t, aI r] aI c g → Q [aI c] am_R0 g) : am_V M_L_first kc ks 0 [aR 0, aI t, aI r, aR 81, aU] [] am_R0 h Q X := by
  refine v_same rfl (S_L_first_0 ⟨⟨by omega, by omega⟩, v_mono (T_first hS (Nat.le_refl _) (Nat.le_refl _)) (fun v ρ' h' z => ?_) (fun Ex ρ' h' z => ?_)⟩)
  · obtain ⟨y, rfl, rfl, g⟩ := z
    exact S_L_first_8 ⟨by decide, fun e1 e2 => kw 0 _ e1 e2 g⟩
  · obtain ⟨rfl, c, he, g⟩ := z
    rcases c with _ | c
    · cases he
      exact ⟨rfl, S_L_first_15 (fun e1 e2 => kw 1 _ e1 e2 g)⟩
    · exact absurd he (by intro h9; cases h9)
theorem W_last {kc ks : Nat} {h : Hh} {t r : Int} {Q : PQ} {X : PX} (hS : SIM h) (hkc : 2 ≤ kc) (hks : 12 ≤ ks) (kw : ∀ (c : Int) (g : Hh), g 1000 = h 1000 → g 1001 = h 1001 → GM M_X11_last [aR 72, aI t, aI r] aI c g → Q [aI c] am_R0 g) : am_V M_L_last kc ks 0 [aR 0, aI t, aI r, aR 81, aU] [] am_R0 h Q X := by
  refine v_same rfl (S_L_last_0 ⟨⟨by omega, by omega⟩, v_mono (T_last hS (Nat.le_refl _) (Nat.le_refl _)) (fun v ρ' h' z => ?_) (fun Ex ρ' h' z => ?_)⟩)
  · obtain ⟨y, rfl, rfl, g⟩ := z
    exact S_L_last_8 ⟨by decide, fun e1 e2 => kw 0 _ e1 e2 g⟩
  · obtain ⟨rfl, c, he, g⟩ := z
    rcases c with _ | c
    · cases he
      exact ⟨rfl, S_L_last_15 (fun e1 e2 => kw 1 _ e1 e2 g)⟩
    · exact absurd he (by intro h9; cases h9)
theorem W_back {kc ks : Nat} {h : Hh} {t r : Int} {Q : PQ} {X : PX} (hS : SIM h) (hkc : 2 ≤ kc) (hks : 12 ≤ ks) (kw : ∀ (c : Int) (g : Hh), g 1000 = h 1000 → g 1001 = h 1001 → GM M_X11_back [aR 72, aI t, aI r, aU, aU] aI c g → Q [aI c] am_R0 g) : am_V M_L_back kc ks 0 [aR 0, aI t, aI r, aR 81, aU] [] am_R0 h Q X := by
  refine v_same rfl (S_L_back_0 ⟨⟨by omega, by omega⟩, v_mono (T_back hS (Nat.le_refl _) (Nat.le_refl _)) (fun v ρ' h' z => ?_) (fun Ex ρ' h' z => ?_)⟩)
  · obtain ⟨y, rfl, rfl, g⟩ := z
    exact S_L_back_8 ⟨by decide, fun e1 e2 => kw 0 _ e1 e2 g⟩
  · obtain ⟨rfl, c, he, g⟩ := z
    rcases c with _ | c
    · cases he
      exact ⟨rfl, S_L_back_15 (fun e1 e2 => kw 1 _ e1 e2 g)⟩
    · exact absurd he (by intro h9; cases h9)
theorem W_runs {kc ks : Nat} {h : Hh} {t : Int} {Q : PQ} {X : PX} (hS : SIM h) (hkc : 1 ≤ kc) (hks : 6 ≤ ks) (kw : ∀ (c : Int) (g : Hh), g 1000 = h 1000 → g 1001 = h 1001 → GM M_X11_runs [aR 72, aI t, aU, aU] aI c g → Q [aI c] am_R0 g) : am_V M_L_runs kc ks 0 [aR 0, aI t, aR 81, aU] [] am_R0 h Q X := by
  refine v_same rfl (S_L_runs_0 ⟨⟨by omega, by omega⟩, v_mono (T_runs hS (Nat.le_refl _) (Nat.le_refl _)) (fun v ρ' h' z => ?_) (fun Ex ρ' h' z => ?_)⟩)
  · obtain ⟨y, rfl, rfl, g⟩ := z
    exact S_L_runs_7 ⟨by decide, fun e1 e2 => kw 0 _ e1 e2 g⟩
  · obtain ⟨rfl, c, he, g⟩ := z
    rcases c with _ | c
    · cases he
      exact ⟨rfl, S_L_runs_13 (fun e1 e2 => kw 1 _ e1 e2 g)⟩
    · exact absurd he (by intro h9; cases h9)
theorem W_front {kc ks : Nat} {h : Hh} {t r : Int} {Q : PQ} {X : PX} (hS : SIM h) (hkc : 2 ≤ kc) (hks : 12 ≤ ks) (kw : ∀ (c : Int) (g : Hh), g 1000 = h 1000 → g 1001 = h 1001 → GM M_X11_front [aR 72, aI t, aI r, aU, aU, aU] aI c g → Q [aI c] am_R0 g) : am_V M_L_front kc ks 0 [aR 0, aI t, aI r, aR 81, aU] [] am_R0 h Q X := by
  refine v_same rfl (S_L_front_0 ⟨⟨by omega, by omega⟩, v_mono (T_front hS (Nat.le_refl _) (Nat.le_refl _)) (fun v ρ' h' z => ?_) (fun Ex ρ' h' z => ?_)⟩)
  · obtain ⟨y, rfl, rfl, g⟩ := z
    exact S_L_front_8 ⟨by decide, fun e1 e2 => kw 0 _ e1 e2 g⟩
  · obtain ⟨rfl, c, he, g⟩ := z
    rcases c with _ | c
    · cases he
      exact ⟨rfl, S_L_front_15 (fun e1 e2 => kw 1 _ e1 e2 g)⟩
    · exact absurd he (by intro h9; cases h9)
theorem W_column {kc ks : Nat} {h : Hh} {t : Int} {Q : PQ} {X : PX} (hS : SIM h) (hkc : 1 ≤ kc) (hks : 6 ≤ ks) (kw : ∀ (c : Int) (g : Hh), g 1000 = h 1000 → g 1001 = h 1001 → GM M_X11_column [aR 72, aI t, aU] aI c g → Q [aI c] am_R0 g) : am_V M_L_column kc ks 0 [aR 0, aI t, aR 81, aU] [] am_R0 h Q X := by
  refine v_same rfl (S_L_column_0 ⟨⟨by omega, by omega⟩, v_mono (T_column hS (Nat.le_refl _) (Nat.le_refl _)) (fun v ρ' h' z => ?_) (fun Ex ρ' h' z => ?_)⟩)
  · obtain ⟨y, rfl, rfl, g⟩ := z
    exact S_L_column_7 ⟨by decide, fun e1 e2 => kw 0 _ e1 e2 g⟩
  · obtain ⟨rfl, c, he, g⟩ := z
    rcases c with _ | c
    · cases he
      exact ⟨rfl, S_L_column_13 (fun e1 e2 => kw 1 _ e1 e2 g)⟩
    · exact absurd he (by intro h9; cases h9)
theorem W_undo {kc ks : Nat} {h : Hh} {Q : PQ} {X : PX} (hS : SIM h) (hkc : 2 ≤ kc) (hks : 12 ≤ ks) (kw : ∀ (c : Int) (g : Hh), g 1000 = h 1000 → g 1001 = h 1001 → GM M_X11_undo [aR 72] aI c g → Q [aI c] am_R0 g) : am_V M_L_undo kc ks 0 [aR 0, aR 81, aU] [] am_R0 h Q X := by
  refine v_same rfl (S_L_undo_0 ⟨⟨by omega, by omega⟩, v_mono (T_undo hS (Nat.le_refl _) (Nat.le_refl _)) (fun v ρ' h' z => ?_) (fun Ex ρ' h' z => ?_)⟩)
  · obtain ⟨y, rfl, rfl, g⟩ := z
    exact S_L_undo_6 ⟨by decide, fun e1 e2 => kw 0 _ e1 e2 g⟩
  · obtain ⟨rfl, c, he, g⟩ := z
    rcases c with _ | _ | c
    · cases he
      exact Or.inl ⟨rfl, S_L_undo_12 (fun e1 e2 => kw 1 _ e1 e2 g)⟩
    · cases he
      exact Or.inr (⟨rfl, S_L_undo_15 (fun e1 e2 => kw 2 _ e1 e2 g)⟩)
    · exact absurd he (by intro h9; cases h9)
theorem W_squares {kc ks : Nat} {h : Hh} {t : Int} {Q : PQ} {X : PX} (hS : SIM h) (hkc : 1 ≤ kc) (hks : 6 ≤ ks) (kw : ∀ (c : Int) (g : Hh), g 1000 = h 1000 → g 1001 = h 1001 → GM M_X11_squares [aR 72, aI t, aU, aU, aU] aI c g → Q [aI c] am_R0 g) : am_V M_L_squares kc ks 0 [aR 0, aI t, aR 81, aU] [] am_R0 h Q X := by
  refine v_same rfl (S_L_squares_0 ⟨⟨by omega, by omega⟩, v_mono (T_squares hS (Nat.le_refl _) (Nat.le_refl _)) (fun v ρ' h' z => ?_) (fun Ex ρ' h' z => ?_)⟩)
  · obtain ⟨y, rfl, rfl, g⟩ := z
    exact S_L_squares_7 ⟨by decide, fun e1 e2 => kw 0 _ e1 e2 g⟩
  · obtain ⟨rfl, c, he, g⟩ := z
    rcases c with _ | c
    · cases he
      exact ⟨rfl, S_L_squares_13 (fun e1 e2 => kw 1 _ e1 e2 g)⟩
    · exact absurd he (by intro h9; cases h9)
theorem W_squareAt {kc ks : Nat} {h : Hh} {t p : Int} {Q : PQ} {X : PX} (hS : SIM h) (hkc : 3 ≤ kc) (hks : 18 ≤ ks) (kw : ∀ (c : Int) (g : Hh), g 1000 = h 1000 → g 1001 = h 1001 → GM M_X11_squareAt [aR 72, aI t, aI p, aU] aI c g → Q [aI c] am_R0 g) : am_V M_L_squareAt kc ks 0 [aR 0, aI t, aI p, aR 81, aU] [] am_R0 h Q X := by
  refine v_same rfl (S_L_squareAt_0 ⟨⟨by omega, by omega⟩, v_mono (T_squareAt hS (Nat.le_refl _) (Nat.le_refl _)) (fun v ρ' h' z => ?_) (fun Ex ρ' h' z => ?_)⟩)
  · obtain ⟨y, rfl, rfl, g⟩ := z
    exact S_L_squareAt_8 ⟨by decide, fun e1 e2 => kw 0 _ e1 e2 g⟩
  · obtain ⟨rfl, c, he, g⟩ := z
    rcases c with _ | _ | c
    · cases he
      exact Or.inl ⟨rfl, S_L_squareAt_15 (fun e1 e2 => kw 1 _ e1 e2 g)⟩
    · cases he
      exact Or.inr (⟨rfl, S_L_squareAt_19 (fun e1 e2 => kw 2 _ e1 e2 g)⟩)
    · exact absurd he (by intro h9; cases h9)
theorem W_period {kc ks : Nat} {h : Hh} {t : Int} {Q : PQ} {X : PX} (hS : SIM h) (hkc : 2 ≤ kc) (hks : 12 ≤ ks) (kw : ∀ (c : Int) (g : Hh), g 1000 = h 1000 → g 1001 = h 1001 → GM M_X11_period [aR 72, aI t, aU] aI c g → Q [aI c] am_R0 g) : am_V M_L_period kc ks 0 [aR 0, aI t, aR 81, aU] [] am_R0 h Q X := by
  refine v_same rfl (S_L_period_0 ⟨⟨by omega, by omega⟩, v_mono (T_period hS (Nat.le_refl _) (Nat.le_refl _)) (fun v ρ' h' z => ?_) (fun Ex ρ' h' z => ?_)⟩)
  · obtain ⟨y, rfl, rfl, g⟩ := z
    exact S_L_period_7 ⟨by decide, fun e1 e2 => kw 0 _ e1 e2 g⟩
  · obtain ⟨rfl, c, he, g⟩ := z
    rcases c with _ | _ | c
    · cases he
      exact Or.inl ⟨rfl, S_L_period_13 (fun e1 e2 => kw 1 _ e1 e2 g)⟩
    · cases he
      exact Or.inr (⟨rfl, S_L_period_16 (fun e1 e2 => kw 2 _ e1 e2 g)⟩)
    · exact absurd he (by intro h9; cases h9)
theorem W_turnAt {kc ks : Nat} {h : Hh} {t : Int} {Q : PQ} {X : PX} (hS : SIM h) (hkc : 2 ≤ kc) (hks : 12 ≤ ks) (kw : ∀ (c : Int) (g : Hh), g 1000 = h 1000 → g 1001 = h 1001 → GM M_X11_turnAt [aR 72, aI t, aU, aU, aU, aU] aI c g → Q [aI c] am_R0 g) : am_V M_L_turnAt kc ks 0 [aR 0, aI t, aR 81, aU] [] am_R0 h Q X := by
  refine v_same rfl (S_L_turnAt_0 ⟨⟨by omega, by omega⟩, v_mono (T_turnAt hS (Nat.le_refl _) (Nat.le_refl _)) (fun v ρ' h' z => ?_) (fun Ex ρ' h' z => ?_)⟩)
  · obtain ⟨y, rfl, rfl, g⟩ := z
    exact S_L_turnAt_7 ⟨by decide, fun e1 e2 => kw 0 _ e1 e2 g⟩
  · obtain ⟨rfl, c, he, g⟩ := z
    rcases c with _ | _ | c
    · cases he
      exact Or.inl ⟨rfl, S_L_turnAt_13 (fun e1 e2 => kw 1 _ e1 e2 g)⟩
    · cases he
      exact Or.inr (⟨rfl, S_L_turnAt_16 (fun e1 e2 => kw 2 _ e1 e2 g)⟩)
    · exact absurd he (by intro h9; cases h9)
theorem W_parts {kc ks : Nat} {h : Hh} {t : Int} {Q : PQ} {X : PX} (hS : SIM h) (hkc : 1 ≤ kc) (hks : 6 ≤ ks) (kw : ∀ (c : Int) (g : Hh), g 1000 = h 1000 → g 1001 = h 1001 → GM M_X11_parts [aR 72, aI t] aI c g → Q [aI c] am_R0 g) : am_V M_L_parts kc ks 0 [aR 0, aI t, aR 81, aU] [] am_R0 h Q X := by
  refine v_same rfl (S_L_parts_0 ⟨⟨by omega, by omega⟩, v_mono (T_parts hS (Nat.le_refl _) (Nat.le_refl _)) (fun v ρ' h' z => ?_) (fun Ex ρ' h' z => ?_)⟩)
  · obtain ⟨y, rfl, rfl, g⟩ := z
    exact S_L_parts_7 ⟨by decide, fun e1 e2 => kw 0 _ e1 e2 g⟩
  · obtain ⟨rfl, c, he, g⟩ := z
    rcases c with _ | c
    · cases he
      exact ⟨rfl, S_L_parts_13 (fun e1 e2 => kw 1 _ e1 e2 g)⟩
    · exact absurd he (by intro h9; cases h9)
theorem W_partAt {kc ks : Nat} {h : Hh} {t x : Int} {Q : PQ} {X : PX} (hS : SIM h) (hkc : 2 ≤ kc) (hks : 12 ≤ ks) (kw : ∀ (c : Int) (g : Hh), g 1000 = h 1000 → g 1001 = h 1001 → GM M_X11_partAt [aR 72, aI t, aI x, aU] aI c g → Q [aI c] am_R0 g) : am_V M_L_partAt kc ks 0 [aR 0, aI t, aI x, aR 81, aU] [] am_R0 h Q X := by
  refine v_same rfl (S_L_partAt_0 ⟨⟨by omega, by omega⟩, v_mono (T_partAt hS (Nat.le_refl _) (Nat.le_refl _)) (fun v ρ' h' z => ?_) (fun Ex ρ' h' z => ?_)⟩)
  · obtain ⟨y, rfl, rfl, g⟩ := z
    exact S_L_partAt_8 ⟨by decide, fun e1 e2 => kw 0 _ e1 e2 g⟩
  · obtain ⟨rfl, c, he, g⟩ := z
    rcases c with _ | c
    · cases he
      exact ⟨rfl, S_L_partAt_15 (fun e1 e2 => kw 1 _ e1 e2 g)⟩
    · exact absurd he (by intro h9; cases h9)
theorem W_pieces {kc ks : Nat} {h : Hh} {t : Int} {Q : PQ} {X : PX} (hS : SIM h) (hkc : 1 ≤ kc) (hks : 6 ≤ ks) (kw : ∀ (c : Int) (g : Hh), g 1000 = h 1000 → g 1001 = h 1001 → GM M_X11_pieces [aR 72, aI t] aI c g → Q [aI c] am_R0 g) : am_V M_L_pieces kc ks 0 [aR 0, aI t, aR 81, aU] [] am_R0 h Q X := by
  refine v_same rfl (S_L_pieces_0 ⟨⟨by omega, by omega⟩, v_mono (T_pieces hS (Nat.le_refl _) (Nat.le_refl _)) (fun v ρ' h' z => ?_) (fun Ex ρ' h' z => ?_)⟩)
  · obtain ⟨y, rfl, rfl, g⟩ := z
    exact S_L_pieces_7 ⟨by decide, fun e1 e2 => kw 0 _ e1 e2 g⟩
  · obtain ⟨rfl, c, he, g⟩ := z
    rcases c with _ | c
    · cases he
      exact ⟨rfl, S_L_pieces_13 (fun e1 e2 => kw 1 _ e1 e2 g)⟩
    · exact absurd he (by intro h9; cases h9)
theorem W_pieceLength {kc ks : Nat} {h : Hh} {t x : Int} {Q : PQ} {X : PX} (hS : SIM h) (hkc : 2 ≤ kc) (hks : 12 ≤ ks) (kw : ∀ (c : Int) (g : Hh), g 1000 = h 1000 → g 1001 = h 1001 → GM M_X11_pieceLength [aR 72, aI t, aI x] aI c g → Q [aI c] am_R0 g) : am_V M_L_pieceLength kc ks 0 [aR 0, aI t, aI x, aR 81, aU] [] am_R0 h Q X := by
  refine v_same rfl (S_L_pieceLength_0 ⟨⟨by omega, by omega⟩, v_mono (T_pieceLength hS (Nat.le_refl _) (Nat.le_refl _)) (fun v ρ' h' z => ?_) (fun Ex ρ' h' z => ?_)⟩)
  · obtain ⟨y, rfl, rfl, g⟩ := z
    exact S_L_pieceLength_8 ⟨by decide, fun e1 e2 => kw 0 _ e1 e2 g⟩
  · obtain ⟨rfl, c, he, g⟩ := z
    rcases c with _ | c
    · cases he
      exact ⟨rfl, S_L_pieceLength_15 (fun e1 e2 => kw 1 _ e1 e2 g)⟩
    · exact absurd he (by intro h9; cases h9)
theorem W_pieceFrom {kc ks : Nat} {h : Hh} {t x : Int} {Q : PQ} {X : PX} (hS : SIM h) (hkc : 3 ≤ kc) (hks : 18 ≤ ks) (kw : ∀ (c : Int) (g : Hh), g 1000 = h 1000 → g 1001 = h 1001 → GM M_X11_pieceFrom [aR 72, aI t, aI x, aU, aU] aI c g → Q [aI c] am_R0 g) : am_V M_L_pieceFrom kc ks 0 [aR 0, aI t, aI x, aR 81, aU] [] am_R0 h Q X := by
  refine v_same rfl (S_L_pieceFrom_0 ⟨⟨by omega, by omega⟩, v_mono (T_pieceFrom hS (Nat.le_refl _) (Nat.le_refl _)) (fun v ρ' h' z => ?_) (fun Ex ρ' h' z => ?_)⟩)
  · obtain ⟨y, rfl, rfl, g⟩ := z
    exact S_L_pieceFrom_8 ⟨by decide, fun e1 e2 => kw 0 _ e1 e2 g⟩
  · obtain ⟨rfl, c, he, g⟩ := z
    rcases c with _ | _ | c
    · cases he
      exact Or.inl ⟨rfl, S_L_pieceFrom_15 (fun e1 e2 => kw 1 _ e1 e2 g)⟩
    · cases he
      exact Or.inr (⟨rfl, S_L_pieceFrom_19 (fun e1 e2 => kw 2 _ e1 e2 g)⟩)
    · exact absurd he (by intro h9; cases h9)
theorem W_fewest {kc ks : Nat} {h : Hh} {t : Int} {Q : PQ} {X : PX} (hS : SIM h) (hkc : 1 ≤ kc) (hks : 6 ≤ ks) (kw : ∀ (c : Int) (g : Hh), g 1000 = h 1000 → g 1001 = h 1001 → GM M_X11_fewest [aR 72, aI t] aI c g → Q [aI c] am_R0 g) : am_V M_L_fewest kc ks 0 [aR 0, aI t, aR 81, aU] [] am_R0 h Q X := by
  refine v_same rfl (S_L_fewest_0 ⟨⟨by omega, by omega⟩, v_mono (T_fewest hS (Nat.le_refl _) (Nat.le_refl _)) (fun v ρ' h' z => ?_) (fun Ex ρ' h' z => ?_)⟩)
  · obtain ⟨y, rfl, rfl, g⟩ := z
    exact S_L_fewest_7 ⟨by decide, fun e1 e2 => kw 0 _ e1 e2 g⟩
  · obtain ⟨rfl, c, he, g⟩ := z
    rcases c with _ | c
    · cases he
      exact ⟨rfl, S_L_fewest_13 (fun e1 e2 => kw 1 _ e1 e2 g)⟩
    · exact absurd he (by intro h9; cases h9)
theorem W_commonShare {kc ks : Nat} {h : Hh} {t : Int} {Q : PQ} {X : PX} (hS : SIM h) (hkc : 2 ≤ kc) (hks : 12 ≤ ks) (kw : ∀ (c : Int) (g : Hh), g 1000 = h 1000 → g 1001 = h 1001 → ((c = 0 ∧ ∃ y : UInt32, vf_n32 y ∧ g 82 0 = ((FP.f2d y).toNat : Int) ∧ GW M_X11_commonShare [aR 72, aI t, aU, aU] [aF y] 0 g) ∨ (c ≠ 0 ∧ GW M_X11_commonShare [aR 72, aI t, aU, aU] [aF 0] c g)) → Q [aI c] am_R0 g) : am_V M_L_commonShare kc ks 0 [aR 0, aI t, aR 82, aU] [] am_R0 h Q X := by
  refine v_same rfl (S_L_commonShare_0 ⟨⟨by omega, by omega⟩, v_mono (T_commonShare hS (Nat.le_refl _) (Nat.le_refl _)) (fun v ρ' h' z => ?_) (fun Ex ρ' h' z => ?_)⟩)
  · obtain ⟨y, rfl, rfl, y1, y2, g⟩ := z
    exact S_L_commonShare_7 ⟨⟨(Jvm.Free.Fl.noNaN_f2d y).mpr y1, by decide, by decide⟩, fun e1 e2 => kw 0 _ e1 e2 (Or.inl ⟨rfl, y, y1, am_st_s, g _ (fun d hd => am_st_o (by unfold SIMcell at hd; omega))⟩)⟩
  · obtain ⟨rfl, c, he, g⟩ := z
    rcases c with _ | _ | c
    · cases he
      exact Or.inl ⟨rfl, S_L_commonShare_13 (fun e1 e2 => kw 1 _ e1 e2 (Or.inr ⟨by decide, g⟩))⟩
    · cases he
      exact Or.inr (⟨rfl, S_L_commonShare_16 (fun e1 e2 => kw 2 _ e1 e2 (Or.inr ⟨by decide, g⟩))⟩)
    · exact absurd he (by intro h9; cases h9)
theorem W_meanCommon {kc ks : Nat} {h : Hh} {t : Int} {Q : PQ} {X : PX} (hS : SIM h) (hkc : 2 ≤ kc) (hks : 12 ≤ ks) (kw : ∀ (c : Int) (g : Hh), g 1000 = h 1000 → g 1001 = h 1001 → ((c = 0 ∧ ∃ y : UInt64, vf_n64 y ∧ g 82 0 = ((y).toNat : Int) ∧ GW M_X11_meanCommon [aR 72, aI t] [aD y] 0 g) ∨ (c ≠ 0 ∧ GW M_X11_meanCommon [aR 72, aI t] [aD 0] c g)) → Q [aI c] am_R0 g) : am_V M_L_meanCommon kc ks 0 [aR 0, aI t, aR 82, aU] [] am_R0 h Q X := by
  refine v_same rfl (S_L_meanCommon_0 ⟨⟨by omega, by omega⟩, v_mono (T_meanCommon hS (Nat.le_refl _) (Nat.le_refl _)) (fun v ρ' h' z => ?_) (fun Ex ρ' h' z => ?_)⟩)
  · obtain ⟨y, rfl, rfl, y1, y2, g⟩ := z
    exact S_L_meanCommon_7 ⟨by decide, fun e1 e2 => kw 0 _ e1 e2 (Or.inl ⟨rfl, y, y1, am_st_s, g _ (fun d hd => am_st_o (by unfold SIMcell at hd; omega))⟩)⟩
  · obtain ⟨rfl, c, he, g⟩ := z
    rcases c with _ | _ | c
    · cases he
      exact Or.inl ⟨rfl, S_L_meanCommon_12 (fun e1 e2 => kw 1 _ e1 e2 (Or.inr ⟨by decide, g⟩))⟩
    · cases he
      exact Or.inr (⟨rfl, S_L_meanCommon_15 (fun e1 e2 => kw 2 _ e1 e2 (Or.inr ⟨by decide, g⟩))⟩)
    · exact absurd he (by intro h9; cases h9)
