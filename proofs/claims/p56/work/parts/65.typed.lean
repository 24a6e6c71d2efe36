variable {WM : List (Nat × Nat)} {wd : Bool}
/-! THE TYPED ROW CHANGES: type, wipe, typed, take, word -/
/-- a sign that can be typed -/
def ty (x : Int) : Prop := x = 36 ∨ 97 ≤ x ∧ x ≤ 122
theorem C_isLetter {kc ks : Nat} {h : Hh} {Q : PQ} {X : PX} {x : Int} (h1 : 97 ≤ x → x ≤ 122 → Q [aI 1] (RM WM wd) h) (h0 : ¬ (97 ≤ x ∧ x ≤ 122) → Q [aI 0] (RM WM wd) h) : am_V M_X10_isLetter kc ks 0 [aI x] [] (RM WM wd) h Q X := S_X10_isLetter_0 ⟨fun z => h0 (by omega), fun z => ⟨fun y => h0 (by omega), fun y => h1 z y⟩⟩
theorem C_isTypable {kc ks : Nat} {h : Hh} {Q : PQ} {X : PX} {x : Int} (h1 : ty x → Q [aI 1] (RM WM wd) h) (h0 : ¬ ty x → Q [aI 0] (RM WM wd) h) : am_V M_X10_isTypable kc ks 0 [aI x] [] (RM WM wd) h Q X := by
  unfold ty at h1 h0
  exact S_X10_isTypable_0 ⟨fun z => h1 (Or.inl z), fun z => C_isLetter (fun y0 y1 => S_X10_isTypable_10 ⟨fun w => absurd w (by decide), fun _ => h1 (Or.inr ⟨y0, y1⟩)⟩) (fun y => S_X10_isTypable_10 ⟨fun _ => h0 (by omega), fun w => absurd rfl w⟩)⟩
/-- signs are held in the typed row -/
theorem C_hold_1 {kc ks : Nat} {Q : PQ} {X : PX} {a1 n1 : Nat} (q1 : (RM WM wd).1[a1]? = some (1, n1)) {f m : Int} (hf0 : 0 ≤ f) (hm0 : 0 ≤ m) (hm : m ≤ 65) (hfm : f + m ≤ n1) (hn1 : n1 ≤ 65) (h0 : Hh) (ha : a1 ≠ 2 ∧ a1 ≠ 3) (hsg : ∀ k, 0 ≤ k → k < m → 0 ≤ h0 a1 (f + k) ∧ h0 a1 (f + k) < 65536) (hQ : ∀ h, (∀ d, d ≠ 2 → d ≠ 3 → h d = h0 d) → h 2 1 = m → (∀ k, 0 ≤ k → k < m → h 3 k = h0 a1 (f + k)) → Q [] (RM WM wd) h) : ∀ (d : Nat) (i : Int) (h : Hh), i + d = m → 0 ≤ i → (∀ d, d ≠ 2 → d ≠ 3 → h d = h0 d) → h 2 1 = i → (∀ k, 0 ≤ k → k < i → h 3 k = h0 a1 (f + k)) → am_V M_X8_hold kc ks 8 [aR 2, aR a1, aI f, aI m, aI i] [] (RM WM wd) h Q X := by
  intro d
  induction d with
  | zero =>
    intro i h hi i0 hf h21 hz
    exact S_X8_hold_8 q1 ⟨fun _ => hQ h hf (by omega) (fun k k0 k1 => hz k k0 (by omega)), fun z => absurd z (by omega)⟩
  | succ d ih =>
    intro i h hi i0 hf h21 hz
    have e1 := hf a1 ha.1 ha.2
    have sg := hsg i i0 (by omega)
    refine S_X8_hold_8 q1 ⟨fun z => absurd z (by omega), fun _ => ⟨by omega, S_X8_put_0 ⟨fun z => absurd z (by omega), fun _ => ?_⟩⟩⟩
    rw [e1, Int.emod_eq_of_lt sg.1 sg.2, am_st_n (h := h) (a := 3) (a' := 2) (Or.inl (by decide)), h21]
    refine ⟨by omega, S_X8_hold_24 q1 ⟨by omega, ih (i + 1) _ (by omega) (by omega) (fun d d1 d2 => by rw [am_st_o d1, am_st_o d2]; exact hf d d1 d2) am_st_s (fun k k0 k1 => ?_)⟩⟩
    rw [am_st_n (Or.inl (by decide)), am_st_i]
    by_cases e : k = i
    · rw [if_pos e, e]
    · rw [if_neg e]
      exact hz k k0 (by omega)
theorem C_hold {kc ks : Nat} {h0 : Hh} {Q : PQ} {X : PX} {a1 n1 : Nat} (q1 : (RM WM wd).1[a1]? = some (1, n1)) {f m : Int} (hf0 : 0 ≤ f) (hm0 : 0 ≤ m) (hm : m ≤ 65) (hfm : f + m ≤ n1) (hn1 : n1 ≤ 65) (ha : a1 ≠ 2 ∧ a1 ≠ 3) (hsg : ∀ k, 0 ≤ k → k < m → 0 ≤ h0 a1 (f + k) ∧ h0 a1 (f + k) < 65536) (hQ : ∀ h, (∀ d, d ≠ 2 → d ≠ 3 → h d = h0 d) → h 2 1 = m → (∀ k, 0 ≤ k → k < m → h 3 k = h0 a1 (f + k)) → Q [] (RM WM wd) h) : am_V M_X8_hold kc ks 0 [aR 2, aR a1, aI f, aI m, aU] [] (RM WM wd) h0 Q X :=
  S_X8_hold_0 q1 (C_hold_1 q1 hf0 hm0 hm hfm hn1 h0 ha hsg hQ m.toNat 0 _ (by omega) (by omega) (fun d d1 d2 => am_st_o d1) am_st_s (fun k k0 k1 => by omega))
theorem tr_sg {a : Nat} (h : isT a) : (RM WM wd).1[a + 1]? = some (1, 64) := tk1 h
theorem W_type {kc ks : Nat} {h : Hh} {Q : PQ} {X : PX} {x : Int} (hS : SIM h) (hx : ty x) (hr : h 2 1 < 65) (hkc : 1 ≤ kc) (hks : 6 ≤ ks) (hQ : ∀ h', SIM h' → (∀ d, d ≠ 2 → d ≠ 3 → h' d = h d) → h' 2 1 = h 2 1 + 1 → (∀ k, h' 3 k = if k = h 2 1 then x else h 3 k) → Q [aL (h 2 1 + 1)] (RM WM wd) h') : am_V M_L_type kc ks 0 [aR 0, aI x, aU] [] (RM WM wd) h Q X := by
  obtain ⟨b0, b1, -⟩ := hS.2.1
  have hrow := hS.2.2.1
  have hx2 : 0 ≤ x ∧ x < 65536 := by unfold ty at hx; omega
  refine S_L_type_0 ⟨⟨hkc, hks⟩, S_X10_type_0 (C_isTypable (fun _ => S_X10_type_4 ⟨fun _ => ⟨fun y => S_X8_put_0 ⟨fun w => absurd w (by omega), fun _ => ⟨?_, S_X10_type_47 (S_L_type_5 ?_)⟩⟩, fun y => absurd y (by omega)⟩, fun y => absurd y (by decide)⟩) (fun z => absurd hx z))⟩
  · have : am_st h 3 (h 2 1) (x % 65536) 2 1 = h 2 1 := am_st_n (Or.inl (by decide))
    rw [this]
    omega
  · have e1 : am_st h 3 (h 2 1) (x % 65536) 2 1 = h 2 1 := am_st_n (Or.inl (by decide))
    rw [e1, Int.emod_eq_of_lt hx2.1 hx2.2, am_st_s]
    have go : ∀ d, d ≠ 2 → d ≠ 3 → am_st (am_st h 3 (h 2 1) x) 2 1 (h 2 1 + 1) d = h d := fun d d2 d3 => by rw [am_st_o d2, am_st_o d3]
    have g3 : ∀ i, am_st (am_st h 3 (h 2 1) x) 2 1 (h 2 1 + 1) 3 i = if i = h 2 1 then x else h 3 i := fun i => by rw [am_st_n (Or.inl (by decide)), am_st_i]
    refine hQ _ (hS.row (fun d hd => go d (by omega) (by omega)) ?_ ?_ ?_) go am_st_s g3
    · rw [am_st_s]; omega
    · rw [am_st_s]; omega
    · intro k k0 k1
      rw [am_st_s] at k1
      rw [g3]
      by_cases e : k = h 2 1
      · rw [if_pos e]; exact hx
      · rw [if_neg e]; exact (hrow k k0 (by omega)).2
theorem W_wipe {kc ks : Nat} {h : Hh} {Q : PQ} {X : PX} (hS : SIM h) (hQ : ∀ h', SIM h' → (∀ d, d ≠ 2 → h' d = h d) → h' 2 1 = 0 → Q [aL (h 2 1)] (RM WM wd) h') : am_V M_L_wipe kc ks 0 [aR 0] [] (RM WM wd) h Q X := by
  refine S_L_wipe_0 (S_X10_wipe_0 (S_L_wipe_4 (hQ _ (hS.row (fun d hd => am_st_o (by omega)) ?_ ?_ ?_) (fun d hd => am_st_o hd) am_st_s)))
  · rw [am_st_s]; exact Int.le_refl 0
  · rw [am_st_s]; decide
  · intro k k0 k1
    rw [am_st_s] at k1
    omega
theorem W_typed {kc ks : Nat} {h : Hh} {Q : PQ} {X : PX} {x : Int} (hS : SIM h) (h0 : 0 ≤ x) (h1 : x < h 2 1) (hkc : 1 ≤ kc) (hks : 6 ≤ ks) (hQ : Q [aL (h 3 x)] (RM WM wd) h) : am_V M_L_typed kc ks 0 [aR 0, aI x, aU] [] (RM WM wd) h Q X := by
  obtain ⟨b0, b1, -⟩ := hS.2.1
  have hr := (hS.2.2.1 x h0 h1).2
  exact S_L_typed_0 ⟨⟨hkc, hks⟩, S_X10_typed_0 ⟨fun z => absurd z (by omega), fun z => ⟨fun y => ⟨by omega, S_L_typed_5 hQ⟩, fun y => absurd y (by omega)⟩⟩⟩
