/-! A TEXT MORE: text, join, mirror -/
theorem TXT.keep {h h' : Hh} {t : Int} (hT : TXT h t) (hc : ∀ j, j < 5 → h' (ta t + j) = h (ta t + j)) (h74 : h' 74 t = h 74 t) (hms : ∀ k, 0 ≤ k → k < 64 → ms h' t k = ms h t k) : TXT h' t := by
  have e0 := hc 0 (by omega)
  rw [Nat.add_zero] at e0
  obtain ⟨⟨a1, a2, a3⟩, b, c, d, e⟩ := hT
  unfold TXT
  rw [e0, hc 1 (by omega), hc 2 (by omega), hc 3 (by omega), hc 4 (by omega), h74]
  exact ⟨⟨a1, a2, a3⟩, b, fun k k0 k1 => by rw [hms k k0 (by omega)]; exact c k k0 k1, d, e⟩
/-- a new text as the class holds it -/
def NT (h : Hh) (a : Nat) (n : Nat) (w : Int → Int) : Prop := n ≤ 64 ∧ h a 4 = n ∧ WS (h (a + 1)) n ∧ (∀ k, 0 ≤ k → k < (n : Int) → h (a + 1) k = w k) ∧ SA (h (a + 1)) n (h (a + 2)) (h (a + 3)) ∧ ∀ r, 0 ≤ r → r < (n : Int) → h (a + 4) r = cmv (h (a + 1)) n (h (a + 2)) r
theorem NT.of {h h' : Hh} {a n : Nat} {w : Int → Int} (hN : NT h a n w) (hc : ∀ j, j < 5 → h' (a + j) = h (a + j)) : NT h' a n w := by
  have e0 := hc 0 (by omega)
  rw [Nat.add_zero] at e0
  unfold NT
  rw [e0, hc 1 (by omega), hc 2 (by omega), hc 3 (by omega), hc 4 (by omega)]
  exact hN
theorem NT.txt {h : Hh} {t : Int} {n : Nat} {w : Int → Int} (hN : NT h (ta t) n w) (h74 : h 74 t = n) (hms : ∀ k, 0 ≤ k → k < (n : Int) → ms h t k = w k) : TXT h t := by
  obtain ⟨h1, h2, h3, h4, h5, h6⟩ := hN
  unfold TXT
  rw [h2]
  exact ⟨⟨by omega, by omega, h74⟩, h3, fun k k0 k1 => by rw [h4 k k0 k1, hms k k0 k1], h5, h6⟩
theorem SIM.add {h h' : Hh} {M : Int} {n : Nat} {w : Int → Int} (hS : SIM h) (hM : h 0 9 = M) (hM8 : M < 8) (hf : ∀ d, 32 ≤ d → d ≤ 71 → (d < ta M ∨ ta M + 4 < d) → h' d = h d) (h09 : h' 0 9 = M + 1) (h728 : h' 72 8 = M + 1) (hm0 : 0 ≤ h' 2 1) (hm : h' 2 1 ≤ 65) (h9 : h' 72 9 = h' 2 1) (hr : ∀ k, 0 ≤ k → k < h' 2 1 → h' 75 k = h' 3 k ∧ (h' 3 k = 36 ∨ 97 ≤ h' 3 k ∧ h' 3 k ≤ 122)) (h74 : ∀ t, 0 ≤ t → t < M → h' 74 t = h 74 t) (h73 : ∀ i, 0 ≤ i → i < 64 * M → h' 73 i = h 73 i) (hN : NT h' (ta M) n w) (h74M : h' 74 M = n) (hms : ∀ k, 0 ≤ k → k < (n : Int) → ms h' M k = w k) : SIM h' := by
  obtain ⟨⟨a1, a2, a3⟩, -, -, d1, f1⟩ := hS
  refine ⟨by omega, ⟨hm0, hm, h9⟩, hr, fun t t0 t1 => ?_, fun t t0 t1 => ?_⟩
  · by_cases e : t = M
    · rw [e]
      exact hN.txt h74M hms
    · refine (d1 t t0 (by omega)).keep (fun j hj => hf _ (by unfold ta; omega) (by unfold ta; omega) (by unfold ta; omega)) (h74 t t0 (by omega)) (fun k k0 k1 => ?_)
      unfold ms
      exact h73 _ (by omega) (by omega)
  · have x0 := hf (ta t) (by unfold ta; omega) (by unfold ta; omega) (by unfold ta; omega)
    rw [x0]
    exact f1 t (by omega) t1
theorem C_freshText {kc ks : Nat} {h : Hh} {Q : PQ} {X : PX} (hS : SIM h) (hkc : 1 ≤ kc) (hks : 6 ≤ ks) (hQ : h 0 9 < 8 → Q [aR (ta (h 0 9))] am_R0 h) (hX : h 0 9 = 8 → X xIS am_R0 h) : am_V M_X10_freshText kc ks 0 [aR 0] [] am_R0 h Q X := by
  have := hS.1
  exact S_X10_freshText_0 ⟨fun z => ⟨by omega, hQ z⟩, fun z => ⟨⟨hkc, hks⟩, hX (by omega)⟩⟩
/-- signs are added to a text -/
theorem C_add_1 {kc ks : Nat} {Q : PQ} {X : PX} {a a1 n1 : Nat} (t0 : isT a) (q1 : am_R0.1[a1]? = some (1, n1)) {b m : Nat} {w : Int → Int} (hbm : b + m ≤ 64) (hm1 : m ≤ n1) (h0 : Hh) (ha : a1 ≠ a ∧ a1 ≠ a + 1) (hw2 : ∀ i, 0 ≤ i → i < (m : Int) → h0 a1 i = w (b + i) ∧ 0 ≤ w (b + i) ∧ w (b + i) < 65536) (hQ : ∀ h, (∀ d, d ≠ a → d ≠ a + 1 → h d = h0 d) → h a 4 = (b : Int) + m → (∀ k, 0 ≤ k → k < (b : Int) + m → h (a + 1) k = w k) → Q [] am_R0 h) : ∀ (d i : Nat) (h : Hh), i + d = m → (∀ d, d ≠ a → d ≠ a + 1 → h d = h0 d) → h a 4 = (b : Int) + i → (∀ k, 0 ≤ k → k < (b : Int) + i → h (a + 1) k = w k) → am_V M_X6_add kc ks 2 [aR a, aR a1, aI m, aI i] [] am_R0 h Q X := by
  intro d
  induction d with
  | zero =>
    intro i h hi hf h4 hz
    have : i = m := by omega
    subst this
    exact S_X6_add_2 t0 q1 ⟨fun _ => hQ h hf h4 hz, fun z => absurd z (by omega)⟩
  | succ d ih =>
    intro i h hi hf h4 hz
    have e1 := hf a1 ha.1 ha.2
    obtain ⟨w1, w2, w3⟩ := hw2 i (by omega) (by omega)
    refine S_X6_add_2 t0 q1 ⟨fun z => absurd z (by omega), fun _ => ⟨fun z => absurd z (by omega), fun _ => ?_⟩⟩
    rw [e1, w1, Int.emod_eq_of_lt w2 w3, am_st_n (h := h) (a := a + 1) (a' := a) (Or.inl (by omega)), h4]
    refine ⟨by omega, ih (i + 1) _ (by omega) (fun d d1 d2 => by rw [am_st_o d1, am_st_o d2]; exact hf d d1 d2) (by rw [am_st_s]; omega) (fun k k0 k1 => ?_)⟩
    rw [am_st_o (by omega), am_st_i]
    by_cases e : k = (b : Int) + i
    · rw [if_pos e, e]
    · rw [if_neg e]
      exact hz k k0 (by omega)
theorem C_add {kc ks : Nat} {h0 : Hh} {Q : PQ} {X : PX} {a a1 n1 : Nat} (t0 : isT a) (q1 : am_R0.1[a1]? = some (1, n1)) {b m : Nat} {w : Int → Int} (hbm : b + m ≤ 64) (hm1 : m ≤ n1) (ha : a1 ≠ a ∧ a1 ≠ a + 1) (h4 : h0 a 4 = b) (hw1 : ∀ k, 0 ≤ k → k < (b : Int) → h0 (a + 1) k = w k) (hw2 : ∀ i, 0 ≤ i → i < (m : Int) → h0 a1 i = w (b + i) ∧ 0 ≤ w (b + i) ∧ w (b + i) < 65536) (hQ : ∀ h, (∀ d, d ≠ a → d ≠ a + 1 → h d = h0 d) → h a 4 = (b : Int) + m → (∀ k, 0 ≤ k → k < (b : Int) + m → h (a + 1) k = w k) → Q [] am_R0 h) : am_V M_X6_add kc ks 0 [aR a, aR a1, aI m, aU] [] am_R0 h0 Q X :=
  S_X6_add_0 t0 q1 (C_add_1 t0 q1 hbm hm1 h0 ha hw2 hQ m 0 h0 (by omega) (fun _ _ _ => rfl) (by omega) (fun k k0 k1 => hw1 k k0 (by omega)))
/-- .. and it is kept -/
theorem C_keep {kc ks : Nat} {h0 : Hh} {Q : PQ} {X : PX} {a n : Nat} {w : Int → Int} (t0 : isT a) (hn : h0 a 4 = n) (hn64 : n ≤ 64) (hs : WS w n) (hw : ∀ k, 0 ≤ k → k < (n : Int) → h0 (a + 1) k = w k) (hM : 0 ≤ h0 0 9 ∧ h0 0 9 ≤ 8) (hQ : ∀ h, (∀ d, d ≠ 0 → d ≠ 6 → d ≠ 7 → d ≠ 8 → d ≠ a + 2 → d ≠ a + 3 → d ≠ a + 4 → h d = h0 d) → h 0 9 = h0 0 9 + 1 → NT h a n w → Q [aI (h0 0 9)] am_R0 h) : am_V M_X10_keep kc ks 0 [aR 0, aR a] [] am_R0 h0 Q X := by
  have hs' : WS (h0 (a + 1)) n := hs.congr (fun k k0 k1 => (hw k k0 k1).symm)
  obtain ⟨i, i8, ia⟩ := id t0
  refine S_X10_keep_0 t0 (L_sortEnds t0 h0 hn hn64 hs' (fun h hSF hSA hcm => S_X10_keep_8 ?_))
  have e0 : h 0 = h0 0 := hSF 0 (by decide) (by decide) (by decide) (by omega) (by omega) (by omega)
  have ea : ∀ j, j < 2 → h (a + j) = h0 (a + j) := fun j hj => hSF _ (by omega) (by omega) (by omega) (by omega) (by omega) (by omega)
  rw [am_st_s, e0]
  refine ⟨by omega, ?_⟩
  rw [show h0 0 9 + 1 - 1 = h0 0 9 by omega]
  have ek : ∀ d, d ≠ 0 → am_st h 0 9 (h0 0 9 + 1) d = h d := fun d hd => am_st_o hd
  refine hQ _ (fun d d0 d1 d2 d3 d4 d5 d6 => by rw [ek d d0]; exact hSF d d1 d2 d3 d4 d5 d6) am_st_s ?_
  have q0 := ea 0 (by omega)
  rw [Nat.add_zero] at q0
  have q1 := ea 1 (by omega)
  refine NT.of (h := h) ?_ (fun j hj => ek _ (by omega))
  unfold NT
  rw [q0, q1]
  exact ⟨hn64, hn, hs', hw, hSA, hcm⟩
/-- the model's text behind all others -/
def MN2 (g h : Hh) (M : Int) (n : Nat) (w : Int → Int) (ty : Int) : Prop := (∀ d, d ≠ 72 → d ≠ 73 → d ≠ 74 → d ≠ 76 → d ≠ 77 → h d = g d) ∧ h 72 8 = M + 1 ∧ h 72 9 = ty ∧ h 72 10 = 0 ∧ (∀ t, t ≠ M → h 74 t = g 74 t) ∧ h 74 M = n ∧ (∀ i, i < 64 * M → h 73 i = g 73 i) ∧ ∀ k, 0 ≤ k → k < (n : Int) → h 73 (64 * M + k) = w k
theorem SIM.made {h hc g h' : Hh} {M ty : Int} {n : Nat} {w : Int → Int} (hS : SIM h) (hM : h 0 9 = M) (hM8 : M < 8) (hf : ∀ d, d ≠ 0 → d ≠ 2 → d ≠ 6 → d ≠ 7 → d ≠ 8 → d ≠ 10 → d ≠ 11 → d ≠ 12 → d ≠ 13 → (d < ta M ∨ ta M + 4 < d) → hc d = h d) (h09 : hc 0 9 = M + 1) (hty : hc 2 1 = ty) (hty0 : 0 ≤ ty) (hty1 : ty ≤ h 2 1) (hN : NT hc (ta M) n w) (hg : ∀ d, d ≠ 81 → g d = hc d) (hR : MN2 g h' M n w ty) : SIM h' := by
  obtain ⟨r1, r2, r3, r4, r5, r6, r7, r8⟩ := hR
  have hM0 := hS.1.1
  have hrow := hS.2.2.1
  have hty2 := hS.2.1
  have hA : ∀ d, d ≠ 81 → d ≠ 72 → d ≠ 73 → d ≠ 74 → d ≠ 76 → d ≠ 77 → h' d = hc d := fun d d1 d2 d3 d4 d5 d6 => by rw [r1 d d2 d3 d4 d5 d6, hg d d1]
  have e2 : h' 2 1 = ty := by rw [hA 2 (by decide) (by decide) (by decide) (by decide) (by decide) (by decide)]; exact hty
  have tM : 32 ≤ ta M ∧ ta M ≤ 67 := by unfold ta; omega
  refine hS.add hM hM8 (fun d d0 d1 d2 => by rw [hA d (by omega) (by omega) (by omega) (by omega) (by omega) (by omega), hf d (by omega) (by omega) (by omega) (by omega) (by omega) (by omega) (by omega) (by omega) (by omega) d2]) (by rw [hA 0 (by decide) (by decide) (by decide) (by decide) (by decide) (by decide)]; exact h09) r2 (by omega) (by omega) (by omega) (fun k k0 k1 => ?_) (fun t t0 t1 => ?_) (fun i i0 i1 => ?_) (hN.of fun j hj => hA _ (by omega) (by omega) (by omega) (by omega) (by omega) (by omega)) r6 r8
  · rw [e2] at k1
    rw [hA 3 (by decide) (by decide) (by decide) (by decide) (by decide) (by decide), hA 75 (by decide) (by decide) (by decide) (by decide) (by decide) (by decide), hf 3 (by decide) (by decide) (by decide) (by decide) (by decide) (by decide) (by decide) (by decide) (by decide) (by omega), hf 75 (by decide) (by decide) (by decide) (by decide) (by decide) (by decide) (by decide) (by decide) (by decide) (by omega)]
    exact hrow k k0 (by omega)
  · rw [r5 t (by omega), hg 74 (by decide), hf 74 (by decide) (by decide) (by decide) (by decide) (by decide) (by decide) (by decide) (by decide) (by decide) (by omega)]
  · rw [r7 i i1, hg 73 (by decide), hf 73 (by decide) (by decide) (by decide) (by decide) (by decide) (by decide) (by decide) (by decide) (by decide) (by omega)]
theorem M_text_1 {kc ks : Nat} {Q : PQ} {X : PX} {M : Int} {n : Nat} {w : Int → Int} (g : Hh) (hM0 : 0 ≤ M) (hM8 : M < 8) (hn64 : n ≤ 64) (hw : ∀ k, 0 ≤ k → k < (n : Int) → g 75 k = w k ∧ 0 ≤ w k ∧ w k < 65536) (hQ : ∀ h, MN2 g h M n w 0 → Q [aI M] am_R0 h) : ∀ (d i : Nat) (h : Hh), i + d = n → (∀ d, d ≠ 72 → d ≠ 73 → h d = g d) → h 72 8 = M → h 72 9 = n → h 72 10 = 0 → (∀ j, j < 64 * M → h 73 j = g 73 j) → (∀ k, 0 ≤ k → k < (i : Int) → h 73 (64 * M + k) = w k) → am_V M_X11_text kc ks 45 [aR 72, aI i] [] am_R0 h Q X := by
  intro d
  induction d with
  | zero =>
    intro i h hi hf h8 h9 h10 hlow hz
    have : i = n := by omega
    subst this
    refine S_X11_text_45 ⟨fun _ => ?_, fun z => absurd z (by omega)⟩
    rw [h8, h9]
    have e1 : am_st (am_st h 74 M i) 72 9 0 72 8 = M := by rw [am_st_n (Or.inr (by decide)), am_st_n (Or.inl (by decide))]; exact h8
    rw [e1, am_st_s]
    refine ⟨by omega, ?_⟩
    rw [show M + 1 - 1 = M by omega]
    refine hQ _ ⟨fun d d1 d2 d3 _ _ => by rw [am_st_o d1, am_st_o d1, am_st_o d3]; exact hf d d1 d2, am_st_s, ?_, ?_, fun t ht => ?_, ?_, fun j hj => ?_, fun k k0 k1 => ?_⟩
    · rw [am_st_n (Or.inr (by decide)), am_st_s]
    · rw [am_st_n (Or.inr (by decide)), am_st_n (Or.inr (by decide)), am_st_n (Or.inl (by decide))]; exact h10
    · rw [am_st_o (by decide), am_st_o (by decide), am_st_n (Or.inr ht), hf 74 (by decide) (by decide)]
    · rw [am_st_o (by decide), am_st_o (by decide), am_st_s]
    · rw [am_st_o (by decide), am_st_o (by decide), am_st_o (by decide)]; exact hlow j hj
    · rw [am_st_o (by decide), am_st_o (by decide), am_st_o (by decide)]; exact hz k k0 k1
  | succ d ih =>
    intro i h hi hf h8 h9 h10 hlow hz
    obtain ⟨w1, w2, w3⟩ := hw i (by omega) (by omega)
    refine S_X11_text_45 ⟨fun z => absurd z (by omega), fun _ => ?_⟩
    rw [h8, hf 75 (by decide) (by decide), w1, Int.emod_eq_of_lt w2 w3]
    refine ⟨by omega, ih (i + 1) _ (by omega) (fun d d1 d2 => by rw [am_st_o d2]; exact hf d d1 d2) (by rw [am_st_o (by decide)]; exact h8) (by rw [am_st_o (by decide)]; exact h9) (by rw [am_st_o (by decide)]; exact h10) (fun j hj => by rw [am_st_n (Or.inr (by omega))]; exact hlow j hj) (fun k k0 k1 => ?_)⟩
    rw [am_st_i]
    by_cases e : k = i
    · rw [if_pos (by omega), e]
    · rw [if_neg (by omega)]
      exact hz k k0 (by omega)
theorem T_text {kc ks : Nat} {h : Hh} (hS : SIM h) (hkc : 2 ≤ kc) (hks : 12 ≤ ks) : am_V M_X10_text kc ks 0 [aR 0, aU] [] am_R0 h (PQok M_X11_text [aR 72, aU] aI) (PXok M_X11_text [aR 72, aU] aI [xUO, xIS]) := by
  obtain ⟨b0, b1, b2⟩ := hS.2.1
  obtain ⟨c0, c1, c2⟩ := hS.1
  have hrow := hS.2.2.1
  have hE : endIn (h 75) (h 72 9) ↔ endIn (h 3) (h 2 1) := by
    rw [b2]
    exact ⟨fun ⟨k, k0, k1, k2⟩ => ⟨k, k0, k1, by rw [← (hrow k k0 k1).1]; exact k2⟩, fun ⟨k, k0, k1, k2⟩ => ⟨k, k0, k1, by rw [(hrow k k0 k1).1]; exact k2⟩⟩
  have bad : endIn (h 3) (h 2 1) ∨ 64 < h 2 1 → PXok M_X11_text [aR 72, aU] aI [xUO, xIS] xUO am_R0 h := fun v => PX.bad 0 hS (NK.rf h) rfl fun kc ks Q X hS' k => by
    have q : am_V M_X11_isWrong 0 0 0 [aR 72, aI 1] [] am_R0 h (fun v ρ' h' => am_V M_X11_text kc ks 38 [aR 72, aU] (v ++ []) ρ' h' Q X) X := M_isWrong fun h2 m y2 => S_X11_text_38 ⟨fun w => absurd w (by decide), fun _ => k 0 h2 m y2⟩
    exact S_X11_text_0 (L_hasEnd (by omega) (fun _ => S_X11_text_5 ⟨fun _ => q, fun w => absurd w (by decide)⟩) (fun w => S_X11_text_5 ⟨fun y => absurd rfl y, fun _ => ⟨fun y => absurd (v.resolve_left fun u => w (hE.mpr u)) (by omega), fun _ => q⟩⟩))
  refine S_X10_text_0 ⟨fun z => ⟨by omega, bad (Or.inr z)⟩, fun z => L_hasEndSign b1 (fun y => S_X10_text_19 ⟨fun w => absurd w (by decide), fun _ => ⟨by omega, bad (Or.inl y)⟩⟩) (fun y => S_X10_text_19 ⟨fun _ => ⟨by omega, C_freshText hS (by omega) (by omega) (fun hM => ?_) (fun hM => PX.bad 1 hS (NK.rf h) rfl fun kc ks Q X hS' k => S_X11_text_0 (L_hasEnd (by omega) (fun w => absurd (hE.mp w) y) (fun _ => S_X11_text_5 ⟨fun w => absurd rfl w, fun _ => ⟨fun _ => ⟨fun w => absurd w (by omega), fun _ => M_isWrong fun h2 m y2 => S_X11_text_38 ⟨fun w => absurd w (by decide), fun _ => k 0 h2 m y2⟩⟩, fun w => absurd w (by omega)⟩⟩)))⟩, fun w => absurd rfl w⟩)⟩
  have t0 : isT (ta (h 0 9)) := ta_isT c0 (by omega)
  obtain ⟨n, hn⟩ : ∃ n : Nat, h 2 1 = n := ⟨(h 2 1).toNat, by omega⟩
  have hlet : ∀ k, 0 ≤ k → k < (n : Int) → 97 ≤ h 3 k ∧ h 3 k ≤ 122 := fun k k0 k1 => hS.letters y k0 (by omega)
  have h40 := hS.2.2.2.2 (h 0 9) (Int.le_refl _) hM
  have ha : 32 ≤ ta (h 0 9) ∧ ta (h 0 9) ≤ 67 := by unfold ta; omega
  refine S_X10_text_36 t0 ?_
  rw [hn]
  refine C_add (b := 0) (m := n) (w := h 3) t0 (q1 := rfl) (by omega) (by omega) (by omega) h40 (fun k k0 k1 => by omega) (fun i i0 i1 => by have := hlet i i0 i1; rw [show ((0 : Nat) : Int) + i = i by omega]; omega) (fun h1 f1 z1 z2 => S_X10_text_55 t0 ?_)
  have e1 : am_st h1 2 1 0 0 9 = h 0 9 := by rw [am_st_n (Or.inl (by decide)), f1 0 (by omega) (by omega)]
  have z1' : h1 (ta (h 0 9)) 4 = n := by rw [z1]; omega
  refine C_keep (n := n) (w := h 3) t0 (by rw [am_st_n (Or.inl (by omega))]; exact z1') (by omega) (fun k k0 k1 => hlet k k0 k1) (fun k k0 k1 => by rw [am_st_n (Or.inl (by omega))]; exact z2 k k0 (by omega)) (by omega) (fun hc f2 g09 hNT => S_X10_text_68 ?_)
  rw [e1]
  rw [e1] at g09
  refine GM.raw fun kc ks Q X k => ?_
  obtain ⟨g, hg⟩ : ∃ g : Hh, g = am_st hc 81 0 (h 0 9) := ⟨_, rfl⟩
  rw [← hg]
  have g81 : g 81 = am_st hc 81 0 (h 0 9) 81 := by rw [hg]
  rw [← g81] at k
  have gc : ∀ d, d ≠ 81 → g d = hc d := fun d hd => by rw [hg, am_st_o hd]
  have fc : ∀ d, d ≠ 0 → d ≠ 2 → d ≠ 6 → d ≠ 7 → d ≠ 8 → d ≠ 10 → d ≠ 11 → d ≠ 12 → d ≠ 13 → (d < ta (h 0 9) ∨ ta (h 0 9) + 4 < d) → hc d = h d := fun d d0 d2 d6 d7 d8 _ _ _ _ dr => by rw [f2 d d0 d6 d7 d8 (by omega) (by omega) (by omega), am_st_o d2, f1 d (by omega) (by omega)]
  have gh : ∀ d, d ≠ 81 → 72 ≤ d → g d = h d := fun d d1 d2 => by rw [gc d d1, fc d (by omega) (by omega) (by omega) (by omega) (by omega) (by omega) (by omega) (by omega) (by omega) (by omega)]
  have hc2 : hc 2 1 = 0 := by rw [f2 2 (by decide) (by decide) (by decide) (by decide) (by omega) (by omega) (by omega), am_st_s]
  have q72 := gh 72 (by decide) (by decide)
  have q75 := gh 75 (by decide) (by decide)
  have fin : am_V M_X11_text kc ks 38 [aR 72, aU] [aI (if (0 : Int) = 0 then 0 else 1)] am_R0 (am_st g 72 10 0) Q X := by
    refine S_X11_text_38 ⟨fun _ => M_text_1 (M := h 0 9) (n := n) (w := h 3) g c0 hM (by omega) (fun i i0 i1 => ?_) (fun h2 hR => k h2 hR.2.2.2.1 (hR.1 81 (by decide) (by decide) (by decide) (by decide) (by decide)) (SIM.made hS rfl hM fc g09 hc2 (Int.le_refl 0) b0 hNT gc hR)) n 0 _ (by omega) (fun d d1 d2 => am_st_o d1) ?_ ?_ am_st_s (fun j hj => by rw [am_st_o (by decide)]) (fun i i0 i1 => by omega), fun w => absurd rfl w⟩
    · rw [q75]
      have := hlet i i0 i1
      have := (hrow i i0 (by omega)).1
      omega
    · rw [am_st_n (Or.inr (by decide)), q72]; exact c2
    · rw [am_st_n (Or.inr (by decide)), q72, b2]; exact hn
  exact S_X11_text_0 (L_hasEnd (by rw [q72]; omega) (fun w => absurd (hE.mp (by rw [q75, q72] at w; exact w)) y) (fun _ => S_X11_text_5 ⟨fun w => absurd rfl w, fun _ => ⟨fun _ => ⟨fun _ => L_isWrong fin, fun w => absurd w (by rw [q72]; omega)⟩, fun w => absurd w (by rw [q72]; omega)⟩⟩))
