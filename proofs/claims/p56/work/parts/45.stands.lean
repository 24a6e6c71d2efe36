variable {WM : List (Nat × Nat)} {wd : Bool}
/-! THE TYPED WORD: whether it is one, and where it stands -/
def endIn (row : Int → Int) (n : Int) : Prop := ∃ k, 0 ≤ k ∧ k < n ∧ row k = 36
theorem L_hes_1 {kc ks : Nat} {h : Hh} {Q : PQ} {X : PX} (hn : h 2 1 ≤ 65) (h1 : endIn (h 3) (h 2 1) → Q [aI 1] (RM WM wd) h) (h0 : ¬ endIn (h 3) (h 2 1) → Q [aI 0] (RM WM wd) h) :
    ∀ (d : Nat) (i : Int), h 2 1 - i ≤ d → 0 ≤ i → (∀ k, 0 ≤ k → k < i → h 3 k ≠ 36) → am_V M_X8_hasEndSign kc ks 2 [aR 2, aI i] [] (RM WM wd) h Q X := by
  intro d
  induction d with
  | zero =>
    intro i hd hi hz
    exact S_X8_hasEndSign_2 ⟨fun _ => h0 fun ⟨k, k0, k1, k2⟩ => hz k k0 (by omega) k2, fun z => absurd z (by omega)⟩
  | succ d ih =>
    intro i hd hi hz
    refine S_X8_hasEndSign_2 ⟨fun z => h0 fun ⟨k, k0, k1, k2⟩ => hz k k0 (by omega) k2, fun z => ⟨by omega, fun y => ⟨by omega, ih (i + 1) (by omega) (by omega) fun k k0 k1 => ?_⟩, fun y => h1 ⟨i, hi, z, y⟩⟩⟩
    by_cases e : k = i
    · rw [e]
      exact y
    · exact hz k k0 (by omega)
theorem L_hasEndSign {kc ks : Nat} {h : Hh} {Q : PQ} {X : PX} (hn : h 2 1 ≤ 65) (h1 : endIn (h 3) (h 2 1) → Q [aI 1] (RM WM wd) h) (h0 : ¬ endIn (h 3) (h 2 1) → Q [aI 0] (RM WM wd) h) : am_V M_X8_hasEndSign kc ks 0 [aR 2, aU] [] (RM WM wd) h Q X :=
  S_X8_hasEndSign_0 (L_hes_1 hn h1 h0 (h 2 1).toNat 0 (by omega) (by omega) (fun k k0 k1 => by omega))
theorem L_refuseNoWord {kc ks : Nat} {h : Hh} {Q : PQ} {X : PX} (hn : h 2 1 ≤ 65) (hkc : 1 ≤ kc) (hks : 6 ≤ ks) (hQ : h 2 1 ≠ 0 → ¬ endIn (h 3) (h 2 1) → Q [] (RM WM wd) h) (hX : ¬ (h 2 1 ≠ 0 ∧ ¬ endIn (h 3) (h 2 1)) → X "java/lang/UnsupportedOperationException" (RM WM false) h) : am_V M_X10_refuseNoWord kc ks 0 [aR 0] [] (RM WM wd) h Q X := by
  refine S_X10_refuseNoWord_0 ⟨fun z => ⟨⟨hkc, hks⟩, hX fun y => y.1 z⟩, fun z => L_hasEndSign hn (fun y => ?_) (fun y => ?_)⟩
  · show am_V M_X10_refuseNoWord kc ks 17 _ [aI 1] (RM WM wd) h Q X
    exact S_X10_refuseNoWord_17 ⟨fun w => absurd w (by decide), fun _ => ⟨⟨hkc, hks⟩, hX fun w => w.2 y⟩⟩
  · show am_V M_X10_refuseNoWord kc ks 17 _ [aI 0] (RM WM wd) h Q X
    exact S_X10_refuseNoWord_17 ⟨fun _ => hQ z y, fun w => absurd rfl w⟩
/-- the typed signs from f on stand at p -/
def standsAt (row : Int → Int) (m f : Int) (s : Int → Int) (n p : Int) : Prop := p + m - f ≤ n ∧ ∀ k, f ≤ k → k < m → s (p + k - f) = row k
/-- the model's standing is the class's agreeing -/
theorem standsAt_iff {row w s : Int → Int} {m f n p : Int} {W : Nat} (hW : m - f = W) (hf : 0 ≤ f) (hp : 0 ≤ p) (hpn : p ≤ n) (hr : ∀ k, f ≤ k → k < m → row k = w k) (hw : ∀ k, f ≤ k → k < m → 97 ≤ w k) : standsAt row m f s n p ↔ AG (en s n) w p f W := by
  constructor
  · intro ⟨h1, h2⟩ i hi
    rw [en_lt (by omega), ← hr (f + i) (by omega) (by omega), ← h2 (f + i) (by omega) (by omega), show p + (f + (i : Int)) - f = p + i by omega]
  · intro h
    have hb : p + m - f ≤ n := by
      apply Int.not_lt.mp
      intro z
      have hW0 : 0 < W := by omega
      have h1 := h (W - 1) (by omega)
      have h2 := hw (f + ((W - 1 : Nat) : Int)) (by omega) (by omega)
      rw [en_ge (i := p + ((W - 1 : Nat) : Int)) (by omega)] at h1
      omega
    refine ⟨hb, fun k k0 k1 => ?_⟩
    have h1 := h (k - f).toNat (by omega)
    rw [show p + (((k - f).toNat : Nat) : Int) = p + k - f by omega, show f + (((k - f).toNat : Nat) : Int) = k by omega, en_lt (by omega)] at h1
    rw [h1, hr k k0 k1]

