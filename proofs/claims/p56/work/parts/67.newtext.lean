variable {WM : List (Nat × Nat)} {wd : Bool}
/-! A TEXT MORE: text, join, mirror -/
/-- a new text as the class holds it -/
def NT (h : Hh) (a : Nat) (n : Nat) (w : Int → Int) : Prop := n ≤ 64 ∧ h a 4 = n ∧ WS (h (a + 1)) n ∧ (∀ k, 0 ≤ k → k < (n : Int) → h (a + 1) k = w k) ∧ SA (h (a + 1)) n (h (a + 2)) (h (a + 3)) ∧ ∀ r, 0 ≤ r → r < (n : Int) → h (a + 4) r = cmv (h (a + 1)) n (h (a + 2)) r
theorem NT.of {h h' : Hh} {a n : Nat} {w : Int → Int} (hN : NT h a n w) (hc : ∀ j, j < 5 → h' (a + j) = h (a + j)) : NT h' a n w := by
  have e0 := hc 0 (by omega)
  rw [Nat.add_zero] at e0
  unfold NT
  rw [e0, hc 1 (by omega), hc 2 (by omega), hc 3 (by omega), hc 4 (by omega)]
  exact hN
theorem NT.txt {h : Hh} {t : Int} {n : Nat} {w : Int → Int} (hN : NT h (ta t) n w) : TXT h t := by
  obtain ⟨h1, h2, h3, h4, h5, h6⟩ := hN
  unfold TXT
  rw [h2]
  exact ⟨⟨by omega, by omega, trivial⟩, h3, trivial, h5, h6⟩
theorem NT.ct {h : Hh} {a n : Nat} {w : Int → Int} (t0 : isT a) (hN : NT h a n w) : CT h a n (h (a + 1)) (h (a + 2)) (h (a + 3)) := ⟨t0, hN.1, hN.2.1, rfl, rfl, rfl, hN.2.2.1, hN.2.2.2.2.1, hN.2.2.2.2.2⟩
theorem SIM.add {h h' : Hh} {M : Int} {n : Nat} {w : Int → Int} (hS : SIM h) (hM : h 0 9 = M) (hM8 : M < 8) (hf : ∀ d, 32 ≤ d → d ≤ 71 → (d < ta M ∨ ta M + 4 < d) → h' d = h d) (h09 : h' 0 9 = M + 1) (hm0 : 0 ≤ h' 2 1) (hm : h' 2 1 ≤ 65) (hr : ∀ k, 0 ≤ k → k < h' 2 1 → h' 3 k = 36 ∨ 97 ≤ h' 3 k ∧ h' 3 k ≤ 122) (hN : NT h' (ta M) n w) : SIM h' := by
  obtain ⟨⟨a1, a2, a3⟩, -, -, d1, f1⟩ := hS
  refine ⟨⟨by omega, by omega, trivial⟩, ⟨hm0, hm, trivial⟩, fun k k0 k1 => ⟨trivial, hr k k0 k1⟩, fun t t0 t1 => ?_, fun t t0 t1 => ?_⟩
  · by_cases e : t = M
    · rw [e]
      exact hN.txt
    · exact (d1 t t0 (by omega)).keep (fun j hj => hf _ (by unfold ta; omega) (by unfold ta; omega) (by unfold ta; omega))
  · have x0 := hf (ta t) (by unfold ta; omega) (by unfold ta; omega) (by unfold ta; omega)
    rw [x0]
    exact f1 t (by omega) t1
theorem SIM.mod {h h' : Hh} {t : Int} {n : Nat} {w : Int → Int} (hS : SIM h) (z : isTx h t) (hf : ∀ d, d = 0 ∨ d = 2 ∨ d = 3 ∨ (32 ≤ d ∧ d ≤ 71 ∧ (d < ta t ∨ ta t + 4 < d)) → h' d = h d) (hN : NT h' (ta t) n w) : SIM h' := by
  have e0 : h' 0 = h 0 := hf 0 (by omega)
  have e2 : h' 2 = h 2 := hf 2 (by omega)
  have e3 : h' 3 = h 3 := hf 3 (by omega)
  have hz1 := z.1
  have hz2 := z.2
  obtain ⟨a1, b1, c1, d1, f1⟩ := hS
  have a2 := a1.2.1
  refine ⟨by rw [e0]; exact a1, by rw [e2]; exact b1, by rw [e2, e3]; exact c1, fun u u0 u1 => ?_, fun u u0 u1 => ?_⟩
  · rw [e0] at u1
    by_cases e : u = t
    · rw [e]
      exact hN.txt
    · exact (d1 u u0 u1).keep (fun j hj => hf _ (by unfold ta; omega))
  · rw [e0] at u0
    have := hf (ta u) (by unfold ta; omega)
    rw [this]
    exact f1 u u0 u1
theorem C_freshText {kc ks : Nat} {h : Hh} {Q : PQ} {X : PX} (hS : SIM h) (hkc : 1 ≤ kc) (hks : 6 ≤ ks) (hQ : h 0 9 < 8 → Q [aR (ta (h 0 9))] (RM WM wd) h) (hX : h 0 9 = 8 → X xIS (RM WM false) h) : am_V M_X10_freshText kc ks 0 [aR 0] [] (RM WM wd) h Q X := by
  have := hS.1
  exact S_X10_freshText_0 ⟨fun z => ⟨by omega, hQ z⟩, fun z => ⟨⟨hkc, hks⟩, hX (by omega)⟩⟩
/-- signs are added to a text -/
theorem C_add_1 {kc ks : Nat} {Q : PQ} {X : PX} {a a1 n1 : Nat} (t0 : isT a) (q1 : (RM WM wd).1[a1]? = some (1, n1)) {b m : Nat} {w : Int → Int} (hbm : b + m ≤ 64) (hm1 : m ≤ n1) (h0 : Hh) (ha : a1 ≠ a ∧ a1 ≠ a + 1) (hw2 : ∀ i, 0 ≤ i → i < (m : Int) → h0 a1 i = w (b + i) ∧ 0 ≤ w (b + i) ∧ w (b + i) < 65536) (hQ : ∀ h, (∀ d, d ≠ a → d ≠ a + 1 → h d = h0 d) → h a 4 = (b : Int) + m → (∀ k, 0 ≤ k → k < (b : Int) + m → h (a + 1) k = w k) → Q [] (RM WM wd) h) : ∀ (d i : Nat) (h : Hh), i + d = m → (∀ d, d ≠ a → d ≠ a + 1 → h d = h0 d) → h a 4 = (b : Int) + i → (∀ k, 0 ≤ k → k < (b : Int) + i → h (a + 1) k = w k) → am_V M_X6_add kc ks 2 [aR a, aR a1, aI m, aI i] [] (RM WM wd) h Q X := by
  intro d
  induction d with
  | zero =>
    intro i h hi hf h4 hz
    have : i = m := by omega
    subst this
    exact S_X6_add_2 t0 q1 ⟨fun _ => hQ h hf h4 hz, fun z => absurd z (by omega)⟩
  | succ d ih =>
    intro i h hi hf h4 hz
    have e1 := hf a1 ha.1 ha.2
    obtain ⟨w1, w2, w3⟩ := hw2 i (by omega) (by omega)
    refine S_X6_add_2 t0 q1 ⟨fun z => absurd z (by omega), fun _ => ⟨fun z => absurd z (by omega), fun _ => ?_⟩⟩
    rw [e1, w1, Int.emod_eq_of_lt w2 w3, am_st_n (h := h) (a := a + 1) (a' := a) (Or.inl (by omega)), h4]
    refine ⟨by omega, ih (i + 1) _ (by omega) (fun d d1 d2 => by rw [am_st_o d1, am_st_o d2]; exact hf d d1 d2) (by rw [am_st_s]; omega) (fun k k0 k1 => ?_)⟩
    rw [am_st_o (by omega), am_st_i]
    by_cases e : k = (b : Int) + i
    · rw [if_pos e, e]
    · rw [if_neg e]
      exact hz k k0 (by omega)
theorem C_add {kc ks : Nat} {h0 : Hh} {Q : PQ} {X : PX} {a a1 n1 : Nat} (t0 : isT a) (q1 : (RM WM wd).1[a1]? = some (1, n1)) {b m : Nat} {w : Int → Int} (hbm : b + m ≤ 64) (hm1 : m ≤ n1) (ha : a1 ≠ a ∧ a1 ≠ a + 1) (h4 : h0 a 4 = b) (hw1 : ∀ k, 0 ≤ k → k < (b : Int) → h0 (a + 1) k = w k) (hw2 : ∀ i, 0 ≤ i → i < (m : Int) → h0 a1 i = w (b + i) ∧ 0 ≤ w (b + i) ∧ w (b + i) < 65536) (hQ : ∀ h, (∀ d, d ≠ a → d ≠ a + 1 → h d = h0 d) → h a 4 = (b : Int) + m → (∀ k, 0 ≤ k → k < (b : Int) + m → h (a + 1) k = w k) → Q [] (RM WM wd) h) : am_V M_X6_add kc ks 0 [aR a, aR a1, aI m, aU] [] (RM WM wd) h0 Q X :=
  S_X6_add_0 t0 q1 (C_add_1 t0 q1 hbm hm1 h0 ha hw2 hQ m 0 h0 (by omega) (fun _ _ _ => rfl) (by omega) (fun k k0 k1 => hw1 k k0 (by omega)))
/-- .. and it is kept -/
theorem C_keep {kc ks : Nat} {h0 : Hh} {Q : PQ} {X : PX} {a n : Nat} {w : Int → Int} (t0 : isT a) (hn : h0 a 4 = n) (hn64 : n ≤ 64) (hs : WS w n) (hw : ∀ k, 0 ≤ k → k < (n : Int) → h0 (a + 1) k = w k) (hM : 0 ≤ h0 0 9 ∧ h0 0 9 ≤ 8) (hQ : ∀ h, (∀ d, d ≠ 0 → d ≠ 6 → d ≠ 7 → d ≠ 8 → d ≠ a + 2 → d ≠ a + 3 → d ≠ a + 4 → h d = h0 d) → h 0 9 = h0 0 9 + 1 → NT h a n w → Q [aI (h0 0 9)] (RM WM wd) h) : am_V M_X10_keep kc ks 0 [aR 0, aR a] [] (RM WM wd) h0 Q X := by
  have hs' : WS (h0 (a + 1)) n := hs.congr (fun k k0 k1 => (hw k k0 k1).symm)
  obtain ⟨i, i8, ia⟩ := id t0
  refine S_X10_keep_0 t0 (L_sortEnds t0 h0 hn hn64 hs' (fun h hSF hSA hcm => S_X10_keep_8 ?_))
  have e0 : h 0 = h0 0 := hSF 0 (by decide) (by decide) (by decide) (by omega) (by omega) (by omega)
  have ea : ∀ j, j < 2 → h (a + j) = h0 (a + j) := fun j hj => hSF _ (by omega) (by omega) (by omega) (by omega) (by omega) (by omega)
  rw [am_st_s, e0]
  refine ⟨by omega, ?_⟩
  rw [show h0 0 9 + 1 - 1 = h0 0 9 by omega]
  have ek : ∀ d, d ≠ 0 → am_st h 0 9 (h0 0 9 + 1) d = h d := fun d hd => am_st_o hd
  refine hQ _ (fun d d0 d1 d2 d3 d4 d5 d6 => by rw [ek d d0]; exact hSF d d1 d2 d3 d4 d5 d6) am_st_s ?_
  have q0 := ea 0 (by omega)
  rw [Nat.add_zero] at q0
  have q1 := ea 1 (by omega)
  refine NT.of (h := h) ?_ (fun j hj => ek _ (by omega))
  unfold NT
  rw [q0, q1]
  exact ⟨hn64, hn, hs', hw, hSA, hcm⟩
theorem W_text {kc ks : Nat} {h : Hh} {Q : PQ} {X : PX} {n : Nat} (hS : SIM h) (hn : h 2 1 = n) (n64 : n ≤ 64) (hl : ∀ k, 0 ≤ k → k < (n : Int) → 97 ≤ h 3 k ∧ h 3 k ≤ 122) (hM : h 0 9 < 8) (hkc : 2 ≤ kc) (hks : 12 ≤ ks) (hQ : ∀ h', SIM h' → h' 0 9 = h 0 9 + 1 → h' 2 1 = 0 → (∀ d, 72 ≤ d → h' d = h d) → (∀ d, 32 ≤ d → d ≤ 71 → (d < ta (h 0 9) ∨ ta (h 0 9) + 4 < d) → h' d = h d) → NT h' (ta (h 0 9)) n (h 3) → Q [aL (h 0 9)] (RM WM wd) h') : am_V M_L_text kc ks 0 [aR 0, aU] [] (RM WM wd) h Q X := by
  obtain ⟨b0, b1, -⟩ := hS.2.1
  obtain ⟨c0, c1, -⟩ := hS.1
  have hE : ¬ endIn (h 3) (h 2 1) := fun ⟨k, k0, k1, k2⟩ => by
    have := hl k k0 (by omega)
    omega
  refine S_L_text_0 ⟨⟨hkc, hks⟩, S_X10_text_0 ⟨fun z => absurd z (by omega), fun z => L_hasEndSign b1 (fun y => absurd y hE) (fun y => S_X10_text_19 ⟨fun _ => ⟨by omega, C_freshText hS (by omega) (by omega) (fun _ => ?_) (fun hM' => absurd hM' (by omega))⟩, fun w => absurd rfl w⟩)⟩⟩
  have t0 : isT (ta (h 0 9)) := ta_isT c0 (by omega)
  have h40 := hS.2.2.2.2 (h 0 9) (Int.le_refl _) hM
  have ha : 32 ≤ ta (h 0 9) ∧ ta (h 0 9) ≤ 67 := by unfold ta; omega
  refine S_X10_text_36 t0 ?_
  rw [hn]
  refine C_add (b := 0) (m := n) (w := h 3) t0 (q1 := rfl) (by omega) (by omega) (by omega) h40 (fun k k0 k1 => by omega) (fun i i0 i1 => by have := hl i i0 i1; rw [show ((0 : Nat) : Int) + i = i by omega]; omega) (fun h1 f1 z1 z2 => S_X10_text_55 t0 ?_)
  have e1 : am_st h1 2 1 0 0 9 = h 0 9 := by rw [am_st_n (Or.inl (by decide)), f1 0 (by omega) (by omega)]
  have z1' : h1 (ta (h 0 9)) 4 = n := by rw [z1]; omega
  refine C_keep (n := n) (w := h 3) t0 (by rw [am_st_n (Or.inl (by omega))]; exact z1') (by omega) (fun k k0 k1 => hl k k0 k1) (fun k k0 k1 => by rw [am_st_n (Or.inl (by omega))]; exact z2 k k0 (by omega)) (by omega) (fun hc f2 g09 hNT => S_X10_text_68 (S_L_text_4 ?_))
  rw [e1]
  rw [e1] at g09
  have fc : ∀ d, d ≠ 0 → d ≠ 2 → d ≠ 6 → d ≠ 7 → d ≠ 8 → (d < ta (h 0 9) ∨ ta (h 0 9) + 4 < d) → hc d = h d := fun d d0 d2 d6 d7 d8 dr => by rw [f2 d d0 d6 d7 d8 (by omega) (by omega) (by omega), am_st_o d2, f1 d (by omega) (by omega)]
  have hc2 : hc 2 1 = 0 := by rw [f2 2 (by decide) (by decide) (by decide) (by decide) (by omega) (by omega) (by omega), am_st_s]
  refine hQ hc (hS.add rfl hM (fun d d0 d1 d2 => fc d (by omega) (by omega) (by omega) (by omega) (by omega) d2) g09 (by omega) (by omega) (fun k k0 k1 => by omega) hNT) g09 hc2 (fun d hd => fc d (by omega) (by omega) (by omega) (by omega) (by omega) (by omega)) (fun d d0 d1 d2 => fc d (by omega) (by omega) (by omega) (by omega) (by omega) d2) hNT
