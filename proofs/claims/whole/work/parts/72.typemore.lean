/-! typeMore -/
def ag (a b c d e f g i : Int) (k : Int) : Int := if k = 0 then a else if k = 1 then b else if k = 2 then c else if k = 3 then d else if k = 4 then e else if k = 5 then f else if k = 6 then g else i
def am_ch (x : Int) : Prop := 0 ≤ x ∧ x < 65536
theorem M_of {kc ks : Nat} {h : Hh} {Q : PQ} {X : PX} {k a b c d e f g i : Int} (k0 : 0 ≤ k) (k8 : k < 8) (ha : am_ch a) (hb : am_ch b) (hc : am_ch c) (hd : am_ch d) (he : am_ch e) (hf : am_ch f) (hg : am_ch g) (hi : am_ch i) (hQ : Q [aI (ag a b c d e f g i k)] am_R0 h) : am_V M_X11_of kc ks 0 [aI k, aI a, aI b, aI c, aI d, aI e, aI f, aI g, aI i] [] am_R0 h Q X := by
  unfold ag at hQ
  refine S_X11_of_0 ⟨fun z => ?_, fun z => ?_⟩
  · rw [if_neg (by omega), if_neg (by omega), if_neg (by omega), if_neg (by omega)] at hQ
    refine ⟨fun y => ?_, fun y => ?_⟩
    · rw [if_neg y] at hQ
      refine ⟨fun y => ?_, fun y => ?_⟩
      · rw [if_neg y] at hQ
        refine ⟨fun y => ?_, fun y => ?_⟩
        · rw [if_neg y] at hQ
          exact ⟨hi, hQ⟩
        · rw [if_pos y] at hQ
          exact ⟨hg, hQ⟩
      · rw [if_pos y] at hQ
        exact ⟨hf, hQ⟩
    · rw [if_pos y] at hQ
      exact ⟨he, hQ⟩
  · refine ⟨fun y => ?_, fun y => ?_⟩
    · rw [if_neg y] at hQ
      refine ⟨fun y => ?_, fun y => ?_⟩
      · rw [if_neg y] at hQ
        refine ⟨fun y => ?_, fun y => ?_⟩
        · rw [if_neg y, if_pos (by omega)] at hQ
          exact ⟨hd, hQ⟩
        · rw [if_pos y] at hQ
          exact ⟨hc, hQ⟩
      · rw [if_pos y] at hQ
        exact ⟨hb, hQ⟩
    · rw [if_pos y] at hQ
      exact ⟨ha, hQ⟩
/-- all of the first signs can be typed -/
def allty (w : Int → Int) (m : Int) : Prop := ∀ k, 0 ≤ k → k < m → ty (w k)
theorem C_tm_2 {kc ks : Nat} {Q : PQ} {X : PX} {w : Int → Int} {b m : Int} (h0 : Hh) (hb0 : 0 ≤ b) (hm0 : 0 ≤ m) (hm8 : m ≤ 8) (hbm : b + m ≤ 65) (h21 : h0 2 1 = b) (h4 : ∀ k, 0 ≤ k → k < 8 → h0 4 k = w k) (hty : allty w m) (hQ : ∀ h, (∀ d, d ≠ 2 → d ≠ 3 → h d = h0 d) → h 2 1 = b + m → (∀ k, 0 ≤ k → k < b → h 3 k = h0 3 k) → (∀ k, 0 ≤ k → k < m → h 3 (b + k) = w k) → Q [aI (b + m)] am_R0 h) : ∀ (d : Nat) (i : Int) (h : Hh), i + d = m → 0 ≤ i → (∀ d, d ≠ 2 → d ≠ 3 → h d = h0 d) → h 2 1 = b + i → (∀ k, 0 ≤ k → k < b → h 3 k = h0 3 k) → (∀ k, 0 ≤ k → k < i → h 3 (b + k) = w k) → am_V M_X10_typeMore kc ks 150 [aR 0, aI m, aU, aU, aU, aU, aU, aU, aU, aU, aI i] [] am_R0 h Q X := by
  intro d
  induction d with
  | zero =>
    intro i h hi i0 hf hb hlo hz
    have : i = m := by omega
    subst this
    refine S_X10_typeMore_150 ⟨fun _ => ?_, fun z => absurd z (by omega)⟩
    rw [hb]
    exact hQ h hf hb hlo hz
  | succ d ih =>
    intro i h hi i0 hf hb hlo hz
    have e4 := h4 i i0 (by omega)
    rw [← hf 4 (by decide) (by decide)] at e4
    have ht := hty i i0 (by omega)
    unfold ty at ht
    refine S_X10_typeMore_150 ⟨fun z => absurd z (by omega), fun _ => ⟨by omega, ?_⟩⟩
    rw [e4]
    refine S_X8_put_0 ⟨fun z => absurd z (by omega), fun _ => ?_⟩
    rw [Int.emod_eq_of_lt (by omega) (by omega), am_st_n (h := h) (a := 3) (a' := 2) (Or.inl (by decide)), hb]
    refine ⟨by omega, S_X10_typeMore_170 ⟨by omega, ih (i + 1) _ (by omega) (by omega) (fun d d1 d2 => by rw [am_st_o d1, am_st_o d2]; exact hf d d1 d2) (by rw [am_st_s]; omega) (fun k k0 k1 => ?_) (fun k k0 k1 => ?_)⟩⟩
    · rw [am_st_o (by decide), am_st_n (Or.inr (by omega))]
      exact hlo k k0 k1
    · rw [am_st_o (by decide), am_st_i]
      by_cases e : k = i
      · rw [if_pos (by omega), e]
      · rw [if_neg (by omega)]
        exact hz k k0 (by omega)
theorem C_tm_1 {kc ks : Nat} {Q : PQ} {X : PX} {w : Int → Int} {m : Int} {h : Hh} (hkc : 1 ≤ kc) (hks : 6 ≤ ks) (hm0 : 0 ≤ m) (hm8 : m ≤ 8) (hb : 0 ≤ h 2 1 ∧ h 2 1 ≤ 65) (h4 : ∀ k, 0 ≤ k → k < 8 → h 4 k = w k) (hQ : allty w m → h 2 1 + m ≤ 65 → ∀ h', (∀ d, d ≠ 2 → d ≠ 3 → h' d = h d) → h' 2 1 = h 2 1 + m → (∀ k, 0 ≤ k → k < h 2 1 → h' 3 k = h 3 k) → (∀ k, 0 ≤ k → k < m → h' 3 (h 2 1 + k) = w k) → Q [aI (h 2 1 + m)] am_R0 h') (hX0 : ¬ allty w m → X xIA am_R0 h) (hX1 : allty w m → 65 < h 2 1 + m → X xIS am_R0 h) : ∀ (d : Nat) (i : Int), i + d = m → 0 ≤ i → allty w i → am_V M_X10_typeMore kc ks 88 [aR 0, aI m, aU, aU, aU, aU, aU, aU, aU, aU, aI i] [] am_R0 h Q X := by
  intro d
  induction d with
  | zero =>
    intro i hi i0 hz
    have : i = m := by omega
    subst this
    refine S_X10_typeMore_88 ⟨fun _ => ⟨by omega, fun y => C_tm_2 h hb.1 hm0 hm8 y rfl h4 hz (hQ hz y) i.toNat 0 h (by omega) (Int.le_refl 0) (fun _ _ _ => rfl) (by omega) (fun _ _ _ => rfl) (fun k k0 k1 => by omega), fun y => ⟨⟨hkc, hks⟩, hX1 hz y⟩⟩, fun z => absurd z (by omega)⟩
  | succ d ih =>
    intro i hi i0 hz
    refine S_X10_typeMore_88 ⟨fun z => absurd z (by omega), fun _ => ⟨by omega, ?_⟩⟩
    rw [h4 i i0 (by omega)]
    refine C_isTypable (fun y => S_X10_typeMore_104 ⟨fun _ => ⟨by omega, ih (i + 1) (by omega) (by omega) fun k k0 k1 => ?_⟩, fun v => absurd v (by decide)⟩) (fun y => S_X10_typeMore_104 ⟨fun v => absurd rfl v, fun _ => ⟨⟨hkc, hks⟩, hX0 fun v => y (v i i0 (by omega))⟩⟩)
    by_cases e : k = i
    · rw [e]; exact y
    · exact hz k k0 (by omega)
theorem M_tm_2 {kc ks : Nat} {Q : PQ} {X : PX} {m b a1 a2 a3 a4 a5 a6 a7 a8 : Int} (h1 : am_ch a1) (h2 : am_ch a2) (h3 : am_ch a3) (h4 : am_ch a4) (h5 : am_ch a5) (h6 : am_ch a6) (h7 : am_ch a7) (h8 : am_ch a8) (g : Hh) (hb0 : 0 ≤ b) (hm0 : 0 ≤ m) (hm8 : m ≤ 8) (hbm : b + m ≤ 65) (hQ : ∀ h, (∀ d, d ≠ 72 → d ≠ 75 → h d = g d) → h 72 8 = g 72 8 → h 72 10 = 0 → h 72 9 = b + m → (∀ k, 0 ≤ k → k < b → h 75 k = g 75 k) → (∀ k, 0 ≤ k → k < m → h 75 (b + k) = ag a1 a2 a3 a4 a5 a6 a7 a8 k) → Q [aI (b + m)] am_R0 h) : ∀ (d : Nat) (i : Int) (h : Hh), i + d = m → 0 ≤ i → (∀ d, d ≠ 72 → d ≠ 75 → h d = g d) → h 72 8 = g 72 8 → h 72 10 = 0 → h 72 9 = b + i → (∀ k, 0 ≤ k → k < b → h 75 k = g 75 k) → (∀ k, 0 ≤ k → k < i → h 75 (b + k) = ag a1 a2 a3 a4 a5 a6 a7 a8 k) → am_V M_X11_typeMore kc ks 109 [aR 72, aI m, aI a1, aI a2, aI a3, aI a4, aI a5, aI a6, aI a7, aI a8, aU, aI i, aU] [] am_R0 h Q X := by
  intro d
  induction d with
  | zero =>
    intro i h hi i0 hf e8 e10 e9 hlo hz
    have : i = m := by omega
    subst this
    refine S_X11_typeMore_109 ⟨fun _ => ?_, fun z => absurd z (by omega)⟩
    rw [e9]
    exact hQ h hf e8 e10 e9 hlo hz
  | succ d ih =>
    intro i h hi i0 hf e8 e10 e9 hlo hz
    refine S_X11_typeMore_109 ⟨fun z => absurd z (by omega), fun _ => M_of i0 (by omega) h1 h2 h3 h4 h5 h6 h7 h8 (S_X11_typeMore_142 ?_)⟩
    have hr : 0 ≤ ag a1 a2 a3 a4 a5 a6 a7 a8 i ∧ ag a1 a2 a3 a4 a5 a6 a7 a8 i < 65536 := by
      unfold ag
      unfold am_ch at h1 h2 h3 h4 h5 h6 h7 h8
      repeat' (first | assumption | split)
    rw [e9, Int.emod_eq_of_lt hr.1 hr.2, am_st_n (h := h) (a := 75) (a' := 72) (Or.inl (by decide)), e9]
    refine ⟨by omega, ih (i + 1) _ (by omega) (by omega) (fun d d1 d2 => by rw [am_st_o d1, am_st_o d2]; exact hf d d1 d2) (by rw [am_st_n (Or.inr (by decide)), am_st_n (Or.inl (by decide))]; exact e8) (by rw [am_st_n (Or.inr (by decide)), am_st_n (Or.inl (by decide))]; exact e10) (by rw [am_st_s]; omega) (fun k k0 k1 => ?_) (fun k k0 k1 => ?_)⟩
    · rw [am_st_o (by decide), am_st_n (Or.inr (by omega))]
      exact hlo k k0 k1
    · rw [am_st_o (by decide), am_st_i]
      by_cases e : k = i
      · rw [if_pos (by omega), e]
      · rw [if_neg (by omega)]
        exact hz k k0 (by omega)
theorem M_tm_1 {kc ks : Nat} {Q : PQ} {X : PX} {h : Hh} {m a1 a2 a3 a4 a5 a6 a7 a8 : Int} (h1 : am_ch a1) (h2 : am_ch a2) (h3 : am_ch a3) (h4 : am_ch a4) (h5 : am_ch a5) (h6 : am_ch a6) (h7 : am_ch a7) (h8 : am_ch a8) (hm0 : 0 ≤ m) (hm8 : m ≤ 8) (h9 : 0 ≤ h 72 9 ∧ h 72 9 ≤ 65) (k0 : allty (ag a1 a2 a3 a4 a5 a6 a7 a8) m → h 72 9 + m ≤ 65 → am_V M_X11_typeMore kc ks 109 [aR 72, aI m, aI a1, aI a2, aI a3, aI a4, aI a5, aI a6, aI a7, aI a8, aU, aI 0, aU] [] am_R0 (am_st h 72 10 0) Q X) (k1 : ¬ allty (ag a1 a2 a3 a4 a5 a6 a7 a8) m → Q [aI 0] am_R0 (am_st h 72 10 1)) (k2 : allty (ag a1 a2 a3 a4 a5 a6 a7 a8) m → 65 < h 72 9 + m → Q [aI 0] am_R0 (am_st h 72 10 2)) : ∀ (d : Nat) (i x : Int), i + d = m → 0 ≤ i → (x = 0 ∧ ¬ allty (ag a1 a2 a3 a4 a5 a6 a7 a8) m ∨ x = 1 ∧ allty (ag a1 a2 a3 a4 a5 a6 a7 a8) i) → am_V M_X11_typeMore kc ks 12 [aR 72, aI m, aI a1, aI a2, aI a3, aI a4, aI a5, aI a6, aI a7, aI a8, aI x, aI i, aU] [] am_R0 h Q X := by
  have w1 : ¬ allty (ag a1 a2 a3 a4 a5 a6 a7 a8) m → am_V M_X11_isWrong 0 0 0 [aR 72, aI 1] [] am_R0 h (fun v ρ' h' => am_V M_X11_typeMore kc ks 101 [aR 72, aI m, aI a1, aI a2, aI a3, aI a4, aI a5, aI a6, aI a7, aI a8, aU, aU, aU] (v ++ []) ρ' h' Q X) X := fun y => L_isWrong (S_X11_typeMore_101 ⟨fun v => absurd v (by decide), fun _ => k1 y⟩)
  intro d
  induction d with
  | zero =>
    intro i x hi i0 hz
    have : i = m := by omega
    subst this
    refine S_X11_typeMore_12 ⟨fun z => ⟨fun v => absurd z v, fun _ => w1 (by rcases hz with y | y; exact y.2; omega)⟩, fun z => ⟨fun _ => ⟨fun _ => ⟨by omega, fun y => ?_, fun y => ?_⟩, fun v => absurd v z⟩, fun v => absurd v (by omega)⟩⟩
    · have hz2 : allty (ag a1 a2 a3 a4 a5 a6 a7 a8) i := by rcases hz with y | y; omega; exact y.2
      exact L_isWrong (S_X11_typeMore_101 ⟨fun _ => k0 hz2 y, fun v => absurd rfl v⟩)
    · have hz2 : allty (ag a1 a2 a3 a4 a5 a6 a7 a8) i := by rcases hz with y | y; omega; exact y.2
      exact L_isWrong (S_X11_typeMore_101 ⟨fun v => absurd v (by decide), fun _ => k2 hz2 y⟩)
  | succ d ih =>
    intro i x hi i0 hz
    refine S_X11_typeMore_12 ⟨fun z => ⟨fun v => absurd z v, fun _ => w1 (by rcases hz with y | y; exact y.2; omega)⟩, fun z => ⟨fun v => absurd v (by omega), fun _ => M_of i0 (by omega) h1 h2 h3 h4 h5 h6 h7 h8 (S_X11_typeMore_42 ?_)⟩⟩
    have hz2 : allty (ag a1 a2 a3 a4 a5 a6 a7 a8) i := by rcases hz with y | y; omega; exact y.2
    have grow : ty (ag a1 a2 a3 a4 a5 a6 a7 a8 i) → allty (ag a1 a2 a3 a4 a5 a6 a7 a8) (i + 1) := fun y k k0 k1 => by
      by_cases e : k = i
      · rw [e]; exact y
      · exact hz2 k k0 (by omega)
    refine M_isLetter (fun y0 y1 => S_X11_typeMore_49 ⟨fun _ => ⟨by omega, ih (i + 1) 1 (by omega) (by omega) (Or.inr ⟨rfl, grow (Or.inr ⟨y0, y1⟩)⟩)⟩, fun v => absurd v (by decide)⟩) (fun y => S_X11_typeMore_49 ⟨fun v => absurd rfl v, fun _ => ⟨fun v => ⟨by omega, ih (i + 1) 0 (by omega) (by omega) (Or.inl ⟨rfl, fun w => ?_⟩)⟩, fun v => ⟨by omega, ih (i + 1) 1 (by omega) (by omega) (Or.inr ⟨rfl, grow (Or.inl v)⟩)⟩⟩⟩)
    rcases w i i0 (by omega) with u | u
    · exact v u
    · exact y u
theorem T_typeMore {kc ks : Nat} {h : Hh} {m a1 a2 a3 a4 a5 a6 a7 a8 : Int} (hS : SIM h) (h1 : am_ch a1) (h2 : am_ch a2) (h3 : am_ch a3) (h4 : am_ch a4) (h5 : am_ch a5) (h6 : am_ch a6) (h7 : am_ch a7) (h8 : am_ch a8) (hkc : 1 ≤ kc) (hks : 6 ≤ ks) : am_V M_X10_typeMore kc ks 0 [aR 0, aI m, aI a1, aI a2, aI a3, aI a4, aI a5, aI a6, aI a7, aI a8, aU] [] am_R0 h (PQok M_X11_typeMore [aR 72, aI m, aI a1, aI a2, aI a3, aI a4, aI a5, aI a6, aI a7, aI a8, aU, aU, aU] aI) (PXok M_X11_typeMore [aR 72, aI m, aI a1, aI a2, aI a3, aI a4, aI a5, aI a6, aI a7, aI a8, aU, aU, aU] aI [xIA, xIS]) := by
  obtain ⟨b0, b1, b2⟩ := hS.2.1
  have hrow := hS.2.2.1
  have bad : ¬ (1 ≤ m ∧ m ≤ 8) → PXok M_X11_typeMore [aR 72, aI m, aI a1, aI a2, aI a3, aI a4, aI a5, aI a6, aI a7, aI a8, aU, aU, aU] aI [xIA, xIS] xIA am_R0 h := fun v => PX.bad 0 hS (NK.rf h) rfl fun kc ks Q X hS' k => S_X11_typeMore_0 (L_isBetween (fun u => absurd u v) (fun _ => S_X11_typeMore_7 (S_X11_typeMore_12 ⟨fun _ => ⟨fun u => absurd rfl u, fun _ => M_isWrong fun h2 m2 y2 => S_X11_typeMore_101 ⟨fun u => absurd u (by decide), fun _ => k 0 h2 m2 y2⟩⟩, fun u => absurd rfl u⟩)))
  refine S_X10_typeMore_0 ⟨fun v => ⟨by omega, bad (by omega)⟩, fun v => ⟨fun w => ⟨by decide, ?_⟩, fun w => ⟨by omega, bad (by omega)⟩⟩⟩
  obtain ⟨e, he⟩ : ∃ e : Hh, e = (am_st (am_st (am_st (am_st (am_st (am_st (am_st (am_st h 4 0 (a1 % 65536)) 4 1 (a2 % 65536)) 4 2 (a3 % 65536)) 4 3 (a4 % 65536)) 4 4 (a5 % 65536)) 4 5 (a6 % 65536)) 4 6 (a7 % 65536)) 4 7 (a8 % 65536)) := ⟨_, rfl⟩
  rw [← he]
  have ef : ∀ d, d ≠ 4 → e d = h d := fun d hd => by rw [he, am_st_o hd, am_st_o hd, am_st_o hd, am_st_o hd, am_st_o hd, am_st_o hd, am_st_o hd, am_st_o hd]
  have e4 : ∀ k, 0 ≤ k → k < 8 → e 4 k = ag a1 a2 a3 a4 a5 a6 a7 a8 k := fun k k0 k1 => by
    rw [he]
    simp only [Int.emod_eq_of_lt h1.1 h1.2, Int.emod_eq_of_lt h2.1 h2.2, Int.emod_eq_of_lt h3.1 h3.2, Int.emod_eq_of_lt h4.1 h4.2, Int.emod_eq_of_lt h5.1 h5.2, Int.emod_eq_of_lt h6.1 h6.2, Int.emod_eq_of_lt h7.1 h7.2, Int.emod_eq_of_lt h8.1 h8.2]
    rcases (by omega : k = 0 ∨ k = 1 ∨ k = 2 ∨ k = 3 ∨ k = 4 ∨ k = 5 ∨ k = 6 ∨ k = 7) with rfl | rfl | rfl | rfl | rfl | rfl | rfl | rfl <;> simp [am_st, ag]
  have hNK : NK h e := fun d hd => ef d (by unfold SIMcell at hd; omega)
  have e21 : e 2 1 = h 2 1 := by rw [ef 2 (by decide)]
  have e729 : e 72 9 = h 2 1 := by rw [ef 72 (by decide)]; exact b2
  refine C_tm_1 hkc hks (by omega) w (by rw [e21]; exact ⟨b0, b1⟩) e4 (fun hty hle h' hf h21 hlo hhi => ?_) (fun hty => PX.bad 0 hS hNK rfl fun kc ks Q X hS' k => S_X11_typeMore_0 (L_isBetween (fun _ => S_X11_typeMore_7 (M_tm_1 h1 h2 h3 h4 h5 h6 h7 h8 (by omega) w (by rw [e729]; omega) (fun u => absurd u hty) (fun _ => k 0 _ (MK.rf e).th am_st_s) (fun u => absurd u hty) m.toNat 0 1 (by omega) (Int.le_refl 0) (Or.inr ⟨rfl, fun k k0 k1 => by omega⟩))) (fun u => absurd ⟨v, w⟩ u))) (fun hty hgt => PX.bad 1 hS hNK rfl fun kc ks Q X hS' k => S_X11_typeMore_0 (L_isBetween (fun _ => S_X11_typeMore_7 (M_tm_1 h1 h2 h3 h4 h5 h6 h7 h8 (by omega) w (by rw [e729]; omega) (fun _ u => absurd u (by omega)) (fun u => absurd hty u) (fun _ _ => k 0 _ (MK.rf e).th am_st_s) m.toNat 0 1 (by omega) (Int.le_refl 0) (Or.inr ⟨rfl, fun k k0 k1 => by omega⟩))) (fun u => absurd ⟨v, w⟩ u))) m.toNat 0 (by omega) (Int.le_refl 0) (fun k k0 k1 => by omega)
  refine GM.raw fun kc ks Q X k => ?_
  obtain ⟨g, hg⟩ : ∃ g : Hh, g = am_st h' 81 0 (e 2 1 + m) := ⟨_, rfl⟩
  rw [← hg]
  have g81 : g 81 = am_st h' 81 0 (e 2 1 + m) 81 := by rw [hg]
  rw [← g81] at k
  have gc : ∀ d, d ≠ 81 → g d = h' d := fun d hd => by rw [hg, am_st_o hd]
  have gh : ∀ d, d ≠ 81 → d ≠ 2 → d ≠ 3 → d ≠ 4 → g d = h d := fun d d1 d2 d3 d4 => by rw [gc d d1, hf d d2 d3, ef d d4]
  have q72 := gh 72 (by decide) (by decide) (by decide) (by decide)
  have q75 := gh 75 (by decide) (by decide) (by decide) (by decide)
  have g9 : g 72 9 = h 2 1 := by rw [q72]; exact b2
  rw [e21] at hle k h21 hlo hhi
  refine S_X11_typeMore_0 (L_isBetween (fun _ => S_X11_typeMore_7 (M_tm_1 h1 h2 h3 h4 h5 h6 h7 h8 (by omega) w (by rw [g9]; omega) (fun _ _ => M_tm_2 (b := h 2 1) h1 h2 h3 h4 h5 h6 h7 h8 g b0 (by omega) w hle (fun h2' f2 e8 e10 e9 lo hi => k h2' e10 (f2 81 (by decide) (by decide)) ?_) m.toNat 0 _ (by omega) (Int.le_refl 0) (fun d d1 d2 => am_st_o d1) (am_st_n (Or.inr (by decide))) am_st_s (by rw [am_st_n (Or.inr (by decide)), g9]; omega) (fun i i0 i1 => by rw [am_st_o (by decide)]) (fun i i0 i1 => by omega)) (fun u => absurd hty u) (fun _ u => absurd u (by rw [g9]; omega)) m.toNat 0 1 (by omega) (Int.le_refl 0) (Or.inr ⟨rfl, fun k k0 k1 => by omega⟩))) (fun u => absurd ⟨v, w⟩ u))
  have r : ∀ d, d ≠ 72 → d ≠ 75 → h2' d = g d := fun d d1 d2 => f2 d d1 d2
  have s2 : h2' 2 1 = h 2 1 + m := by rw [r 2 (by decide) (by decide), gc 2 (by decide)]; exact h21
  refine hS.row (fun d hd => by rw [r d (by omega) (by omega), gh d (by omega) (by omega) (by omega) (by omega)]) (by rw [e8, q72]) (by omega) (by omega) (by omega) (fun i i0 i1 => ?_)
  rw [s2] at i1
  rw [r 3 (by decide) (by decide), gc 3 (by decide)]
  by_cases y : i < h 2 1
  · rw [lo i i0 y, hlo i i0 y, ef 3 (by decide), q75]
    exact hrow i i0 y
  · have a1' := hi (i - h 2 1) (by omega) (by omega)
    have a2' := hhi (i - h 2 1) (by omega) (by omega)
    rw [show h 2 1 + (i - h 2 1) = i by omega] at a1' a2'
    rw [a1', a2']
    exact ⟨rfl, hty (i - h 2 1) (by omega) (by omega)⟩
