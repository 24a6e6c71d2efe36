/-! THE TYPED WORD: whether it is one, and where it stands -/
def endIn (row : Int → Int) (n : Int) : Prop := ∃ k, 0 ≤ k ∧ k < n ∧ row k = 36
theorem L_hes_1 {kc ks : Nat} {h : Hh} {Q : PQ} {X : PX} (hn : h 2 1 ≤ 65) (h1 : endIn (h 3) (h 2 1) → Q [aI 1] am_R0 h) (h0 : ¬ endIn (h 3) (h 2 1) → Q [aI 0] am_R0 h) :
    ∀ (d : Nat) (i : Int), h 2 1 - i ≤ d → 0 ≤ i → (∀ k, 0 ≤ k → k < i → h 3 k ≠ 36) → am_V M_X8_hasEndSign kc ks 2 [aR 2, aI i] [] am_R0 h Q X := by
  intro d
  induction d with
  | zero =>
    intro i hd hi hz
    exact S_X8_hasEndSign_2 ⟨fun _ => h0 fun ⟨k, k0, k1, k2⟩ => hz k k0 (by omega) k2, fun z => absurd z (by omega)⟩
  | succ d ih =>
    intro i hd hi hz
    refine S_X8_hasEndSign_2 ⟨fun z => h0 fun ⟨k, k0, k1, k2⟩ => hz k k0 (by omega) k2, fun z => ⟨by omega, fun y => ⟨by omega, ih (i + 1) (by omega) (by omega) fun k k0 k1 => ?_⟩, fun y => h1 ⟨i, hi, z, y⟩⟩⟩
    by_cases e : k = i
    · rw [e]
      exact y
    · exact hz k k0 (by omega)
theorem L_hasEndSign {kc ks : Nat} {h : Hh} {Q : PQ} {X : PX} (hn : h 2 1 ≤ 65) (h1 : endIn (h 3) (h 2 1) → Q [aI 1] am_R0 h) (h0 : ¬ endIn (h 3) (h 2 1) → Q [aI 0] am_R0 h) : am_V M_X8_hasEndSign kc ks 0 [aR 2, aU] [] am_R0 h Q X :=
  S_X8_hasEndSign_0 (L_hes_1 hn h1 h0 (h 2 1).toNat 0 (by omega) (by omega) (fun k k0 k1 => by omega))
theorem L_he_1 {kc ks : Nat} {h : Hh} {Q : PQ} {X : PX} (hn : h 72 9 ≤ 65) (h1 : endIn (h 75) (h 72 9) → Q [aI 1] am_R0 h) (h0 : ¬ endIn (h 75) (h 72 9) → Q [aI 0] am_R0 h) :
    ∀ (d : Nat) (i : Int), h 72 9 - i ≤ d → 0 ≤ i → (∀ k, 0 ≤ k → k < i → h 75 k ≠ 36) → am_V M_X11_hasEnd kc ks 2 [aR 72, aI i] [] am_R0 h Q X := by
  intro d
  induction d with
  | zero =>
    intro i hd hi hz
    exact S_X11_hasEnd_2 ⟨fun _ => h0 fun ⟨k, k0, k1, k2⟩ => hz k k0 (by omega) k2, fun z => absurd z (by omega)⟩
  | succ d ih =>
    intro i hd hi hz
    refine S_X11_hasEnd_2 ⟨fun z => h0 fun ⟨k, k0, k1, k2⟩ => hz k k0 (by omega) k2, fun z => ⟨by omega, fun y => ⟨by omega, ih (i + 1) (by omega) (by omega) fun k k0 k1 => ?_⟩, fun y => h1 ⟨i, hi, z, y⟩⟩⟩
    by_cases e : k = i
    · rw [e]
      exact y
    · exact hz k k0 (by omega)
theorem L_hasEnd {kc ks : Nat} {h : Hh} {Q : PQ} {X : PX} (hn : h 72 9 ≤ 65) (h1 : endIn (h 75) (h 72 9) → Q [aI 1] am_R0 h) (h0 : ¬ endIn (h 75) (h 72 9) → Q [aI 0] am_R0 h) : am_V M_X11_hasEnd kc ks 0 [aR 72, aU] [] am_R0 h Q X :=
  S_X11_hasEnd_0 (L_he_1 hn h1 h0 (h 72 9).toNat 0 (by omega) (by omega) (fun k k0 k1 => by omega))
theorem L_refuseNoWord {kc ks : Nat} {h : Hh} {Q : PQ} {X : PX} (hn : h 2 1 ≤ 65) (hkc : 1 ≤ kc) (hks : 6 ≤ ks) (hQ : h 2 1 ≠ 0 → ¬ endIn (h 3) (h 2 1) → Q [] am_R0 h) (hX : ¬ (h 2 1 ≠ 0 ∧ ¬ endIn (h 3) (h 2 1)) → X "java/lang/UnsupportedOperationException" am_R0 h) : am_V M_X10_refuseNoWord kc ks 0 [aR 0] [] am_R0 h Q X := by
  refine S_X10_refuseNoWord_0 ⟨fun z => ⟨⟨hkc, hks⟩, hX fun y => y.1 z⟩, fun z => L_hasEndSign hn (fun y => ?_) (fun y => ?_)⟩
  · show am_V M_X10_refuseNoWord kc ks 17 _ [aI 1] am_R0 h Q X
    exact S_X10_refuseNoWord_17 ⟨fun w => absurd w (by decide), fun _ => ⟨⟨hkc, hks⟩, hX fun w => w.2 y⟩⟩
  · show am_V M_X10_refuseNoWord kc ks 17 _ [aI 0] am_R0 h Q X
    exact S_X10_refuseNoWord_17 ⟨fun _ => hQ z y, fun w => absurd rfl w⟩
/-- the typed signs from f on stand at p -/
def standsAt (row : Int → Int) (m f : Int) (s : Int → Int) (n p : Int) : Prop := p + m - f ≤ n ∧ ∀ k, f ≤ k → k < m → s (p + k - f) = row k
theorem L_st_1 {kc ks : Nat} {h : Hh} {Q : PQ} {X : PX} {f t p : Int} (ht : 0 ≤ t) (ht9 : t < 9) (hm : h 72 9 ≤ 65) (hf : 0 ≤ f) (hp : 0 ≤ p) (hfit : p + h 72 9 - f ≤ 64) (h1 : (∀ k, f ≤ k → k < h 72 9 → ms h t (p + k - f) = h 75 k) → Q [aI 1] am_R0 h) (h0 : ¬ (∀ k, f ≤ k → k < h 72 9 → ms h t (p + k - f) = h 75 k) → Q [aI 0] am_R0 h) :
    ∀ (d : Nat) (i : Int), h 72 9 - i ≤ d → f ≤ i → (∀ k, f ≤ k → k < i → ms h t (p + k - f) = h 75 k) → am_V M_X11_stands kc ks 22 [aR 72, aI f, aI t, aI p, aI i] [] am_R0 h Q X := by
  intro d
  induction d with
  | zero =>
    intro i hd hi hz
    exact S_X11_stands_22 ⟨fun _ => h1 fun k k0 k1 => hz k k0 (by omega), fun z => absurd z (by omega)⟩
  | succ d ih =>
    intro i hd hi hz
    have e9 : h 73 (64 * t + p + i - f) = ms h t (p + i - f) := by
      unfold ms
      rw [show 64 * t + (p + i - f) = 64 * t + p + i - f by omega]
    refine S_X11_stands_22 ⟨fun z => h1 fun k k0 k1 => hz k k0 (by omega), fun z => ⟨by omega, fun y => ⟨by omega, ih (i + 1) (by omega) (by omega) fun k k0 k1 => ?_⟩, fun y => h0 fun w => y (by rw [e9]; exact w i hi z)⟩⟩
    by_cases e : k = i
    · rw [e, ← e9]
      exact y
    · exact hz k k0 (by omega)
theorem L_stands {kc ks : Nat} {h : Hh} {Q : PQ} {X : PX} {f t p n : Int} (ht : 0 ≤ t) (ht9 : t < 9) (hm0 : 0 ≤ h 72 9) (hm : h 72 9 ≤ 65) (hf : 0 ≤ f) (hfm : f ≤ h 72 9) (hp : 0 ≤ p) (hp64 : p ≤ 64) (hn : h 74 t = n) (hn64 : n ≤ 64) (h1 : standsAt (h 75) (h 72 9) f (ms h t) n p → Q [aI 1] am_R0 h) (h0 : ¬ standsAt (h 75) (h 72 9) f (ms h t) n p → Q [aI 0] am_R0 h) : am_V M_X11_stands kc ks 0 [aR 72, aI f, aI t, aI p, aU] [] am_R0 h Q X := by
  subst hn
  refine S_X11_stands_0 ⟨by omega, fun z => ?_, fun z => h0 fun y => by have := y.1; omega⟩
  exact L_st_1 ht ht9 hm hf hp (by omega) (fun y => h1 ⟨z, y⟩) (fun y => h0 fun w => y w.2) (h 72 9 - f).toNat f (by omega) (by omega) (fun k k0 k1 => by omega)
theorem L_cf_1 {kc ks : Nat} {h : Hh} {Q : PQ} {X : PX} {f t : Int} {n : Nat} (ht : 0 ≤ t) (ht9 : t < 9) (hm0 : 0 ≤ h 72 9) (hm : h 72 9 ≤ 65) (hf : 0 ≤ f) (hfm : f ≤ h 72 9) (hn : h 74 t = n) (hn64 : n ≤ 64) (hQ : Q [aI (cnt (standsAt (h 75) (h 72 9) f (ms h t) n) n)] am_R0 h) :
    ∀ (d i : Nat), i + d = n → am_V M_X11_countFrom kc ks 5 [aR 72, aI f, aI t, aI (cnt (standsAt (h 75) (h 72 9) f (ms h t) n) i), aI i] [] am_R0 h Q X := by
  intro d
  induction d with
  | zero =>
    intro i hd
    have hi : i = n := by omega
    subst hi
    exact S_X11_countFrom_5 ⟨by omega, fun _ => hQ, fun z => absurd z (by omega)⟩
  | succ d ih =>
    intro i hd
    have hle := cnt_le (standsAt (h 75) (h 72 9) f (ms h t) n) i
    have hnext := ih (i + 1) (by omega)
    refine S_X11_countFrom_5 ⟨by omega, fun z => absurd z (by omega), fun _ => L_stands ht ht9 hm0 hm hf hfm (by omega) (by omega) hn (by omega) (fun z => ?_) (fun z => ?_)⟩
    · show am_V M_X11_countFrom kc ks 25 _ [aI 1, aI _] am_R0 h Q X
      rw [cnt_t (P := standsAt (h 75) (h 72 9) f (ms h t) n) z] at hnext
      exact S_X11_countFrom_25 ⟨fun w => absurd w (by decide), fun _ => ⟨by omega, hnext⟩⟩
    · show am_V M_X11_countFrom kc ks 25 _ [aI 0, aI _] am_R0 h Q X
      rw [cnt_f (P := standsAt (h 75) (h 72 9) f (ms h t) n) z] at hnext
      exact S_X11_countFrom_25 ⟨fun _ => ⟨by omega, by rw [Int.add_zero]; exact hnext⟩, fun w => absurd rfl w⟩
theorem L_countFrom {kc ks : Nat} {h : Hh} {Q : PQ} {X : PX} {f t : Int} {n : Nat} (ht : 0 ≤ t) (ht9 : t < 9) (hm0 : 0 ≤ h 72 9) (hm : h 72 9 ≤ 65) (hf : 0 ≤ f) (hfm : f ≤ h 72 9) (hn : h 74 t = n) (hn64 : n ≤ 64) (hQ : Q [aI (cnt (standsAt (h 75) (h 72 9) f (ms h t) n) n)] am_R0 h) : am_V M_X11_countFrom kc ks 0 [aR 72, aI f, aI t, aU, aU] [] am_R0 h Q X :=
  S_X11_countFrom_0 (L_cf_1 ht ht9 hm0 hm hf hfm hn hn64 hQ n 0 (by omega))
/-- the model's standing is the class's agreeing -/
theorem standsAt_iff {row w s : Int → Int} {m f n p : Int} {W : Nat} (hW : m - f = W) (hf : 0 ≤ f) (hp : 0 ≤ p) (hpn : p ≤ n) (hr : ∀ k, f ≤ k → k < m → row k = w k) (hw : ∀ k, f ≤ k → k < m → 97 ≤ w k) : standsAt row m f s n p ↔ AG (en s n) w p f W := by
  constructor
  · intro ⟨h1, h2⟩ i hi
    rw [en_lt (by omega), ← hr (f + i) (by omega) (by omega), ← h2 (f + i) (by omega) (by omega), show p + (f + (i : Int)) - f = p + i by omega]
  · intro h
    have hb : p + m - f ≤ n := by
      apply Int.not_lt.mp
      intro z
      have hW0 : 0 < W := by omega
      have h1 := h (W - 1) (by omega)
      have h2 := hw (f + ((W - 1 : Nat) : Int)) (by omega) (by omega)
      rw [en_ge (i := p + ((W - 1 : Nat) : Int)) (by omega)] at h1
      omega
    refine ⟨hb, fun k k0 k1 => ?_⟩
    have h1 := h (k - f).toNat (by omega)
    rw [show p + (((k - f).toNat : Nat) : Int) = p + k - f by omega, show f + (((k - f).toNat : Nat) : Int) = k by omega, en_lt (by omega)] at h1
    rw [h1, hr k k0 k1]
