variable {WM : List (Nat × Nat)} {wd : Bool}
/-! THE TYPED WORD AGAINST THE ENDS -/
/-- less within so many signs -/
def E2 (x y : Int → Int) (k : Nat) (p q : Int) : Prop := ∃ j, j < k ∧ AG x y p q j ∧ x (p + j) < y (q + j)
theorem E2.nag {x y : Int → Int} {k : Nat} {p q : Int} (h : E2 x y k p q) : ¬ AG x y p q k := fun z => by
  obtain ⟨j, h0, h1, h2⟩ := h
  have := z j h0
  omega
theorem E2.asymm {x y : Int → Int} {k : Nat} {p q : Int} (h : E2 x y k p q) : ¬ E2 y x k q p := fun ⟨j, h0, h1, h2⟩ => by
  obtain ⟨i, i0, i1, i2⟩ := h
  exact EL.asymm ⟨i, i1, i2⟩ ⟨j, h1, h2⟩
theorem E2.tri {x y : Int → Int} {k : Nat} {p q : Int} (h : ¬ AG x y p q k) : E2 x y k p q ∨ E2 y x k q p := by
  rcases AG_or (x := x) (y := y) (p := p) (q := q) k with h1 | ⟨j, h1, h2, h3⟩
  · exact absurd h1 h
  · rcases Int.lt_or_gt_of_ne h3 with h4 | h4
    · exact Or.inl ⟨j, h1, h2, h4⟩
    · exact Or.inr ⟨j, h1, h2.sym, h4⟩
theorem E2.left {x y z : Int → Int} {k : Nat} {p q r : Int} (h : EL x y p q) (h' : E2 y z k q r) : E2 x z k p r := by
  obtain ⟨i, i1, i2⟩ := h
  obtain ⟨j, j0, j1, j2⟩ := h'
  rcases Nat.lt_trichotomy i j with w | w | w
  · exact ⟨i, by omega, i1.trans (j1.mono (by omega)), by rw [← j1 i w]; exact i2⟩
  · subst w
    exact ⟨i, j0, i1.trans j1, Int.lt_trans i2 j2⟩
  · exact ⟨j, j0, (i1.mono (by omega)).trans j1, by rw [i1 j w]; exact j2⟩
theorem E2.right {x y z : Int → Int} {k : Nat} {p q r : Int} (h : E2 x y k p q) (h' : EL y z q r) : E2 x z k p r := by
  obtain ⟨i, i0, i1, i2⟩ := h
  obtain ⟨j, j1, j2⟩ := h'
  rcases Nat.lt_trichotomy i j with w | w | w
  · exact ⟨i, i0, i1.trans (j1.mono (by omega)), by rw [← j1 i w]; exact i2⟩
  · subst w
    exact ⟨i, i0, i1.trans j1, Int.lt_trans i2 j2⟩
  · exact ⟨j, by omega, (i1.mono (by omega)).trans j1, by rw [i1 j w]; exact j2⟩
theorem L_aw_1 {kc ks : Nat} {h : Hh} {Q : PQ} {X : PX} {a : Nat} (t0 : isT a) {n p f : Int} {W M : Nat} (hn : h a 4 = n) (hn64 : n ≤ 64) (hs : WS (h (a + 1)) n) (hp : 0 ≤ p) (hpn : p ≤ n) (hf : 0 ≤ f) (hW : f + W ≤ 65) (hw : ∀ k : Int, f ≤ k → k < f + W → 97 ≤ h 3 k ∧ h 3 k ≤ 122) (hM : (M : Int) = min (n - p) W) (hQ : ∀ v, (v < 0 ↔ E2 (en (h (a + 1)) n) (h 3) W p f) → (v = 0 ↔ AG (en (h (a + 1)) n) (h 3) p f W) → Q [aI v] (RM WM wd) h) :
    ∀ (d k : Nat), k + d = M → AG (en (h (a + 1)) n) (h 3) p f k → am_V M_X6_againstWord kc ks 24 [aR a, aI p, aR 2, aI f, aI W, aI M, aI k, aU] [] (RM WM wd) h Q X := by
  intro d
  induction d with
  | zero =>
    intro k hd hag
    have hk : k = M := by omega
    subst hk
    refine S_X6_againstWord_24 t0 ⟨fun _ => ⟨by omega, ?_⟩, fun z => absurd z (by omega)⟩
    by_cases e : k = W
    · rw [e] at hag
      exact hQ _ ⟨fun z => by omega, fun z => absurd hag z.nag⟩ ⟨fun _ => hag, fun _ => by omega⟩
    · have h1 : E2 (en (h (a + 1)) n) (h 3) W p f := ⟨k, by omega, hag, by
        have := hw (f + k) (by omega) (by omega)
        rw [en_ge (by omega)]
        omega⟩
      exact hQ _ ⟨fun _ => h1, fun _ => by omega⟩ ⟨fun z => by omega, fun z => absurd z h1.nag⟩
  | succ d ih =>
    intro k hd hag
    have e1 := hs (p + k) (by omega) (by omega)
    have e2 := hw (f + k) (by omega) (by omega)
    refine S_X6_againstWord_24 t0 ⟨fun z => absurd z (by omega), fun _ => ⟨by omega, fun z => ⟨by omega, ?_⟩, fun z => ?_⟩⟩
    · exact ih (k + 1) (by omega) (fun i hi => by
        by_cases e : i = k
        · rw [e, en_lt (by omega)]
          omega
        · exact hag i (by omega))
    · by_cases hl : h (a + 1) (p + k) < h 3 (f + k)
      · have h1 : E2 (en (h (a + 1)) n) (h 3) W p f := ⟨k, by omega, hag, by rw [en_lt (by omega)]; exact hl⟩
        exact hQ _ ⟨fun _ => h1, fun _ => by omega⟩ ⟨fun y => by omega, fun y => absurd y h1.nag⟩
      · have h1 : E2 (h 3) (en (h (a + 1)) n) W f p := ⟨k, by omega, hag.sym, by rw [en_lt (by omega)]; omega⟩
        exact hQ _ ⟨fun y => by omega, fun y => absurd h1 y.asymm⟩ ⟨fun y => by omega, fun y => absurd y.sym h1.nag⟩
theorem L_againstWord {kc ks : Nat} {h : Hh} {Q : PQ} {X : PX} {a : Nat} (t0 : isT a) {n p f : Int} {W : Nat} (hn : h a 4 = n) (hn64 : n ≤ 64) (hs : WS (h (a + 1)) n) (hp : 0 ≤ p) (hpn : p ≤ n) (hf : 0 ≤ f) (h65 : h 2 1 ≤ 65) (hW : h 2 1 - f = W) (hw : ∀ k : Int, f ≤ k → k < f + W → 97 ≤ h 3 k ∧ h 3 k ≤ 122) (hQ : ∀ v, (v < 0 ↔ E2 (en (h (a + 1)) n) (h 3) W p f) → (v = 0 ↔ AG (en (h (a + 1)) n) (h 3) p f W) → Q [aI v] (RM WM wd) h) : am_V M_X6_againstWord kc ks 0 [aR a, aI p, aR 2, aI f, aU, aU, aU, aU] [] (RM WM wd) h Q X := by
  refine S_X6_againstWord_0 t0 ⟨by omega, ?_⟩
  rw [hn, hW]
  obtain ⟨M, hM⟩ : ∃ M : Nat, (M : Int) = min (n - p) W := ⟨(min (n - p) W).toNat, by omega⟩
  rw [← hM]
  exact L_aw_1 t0 hn hn64 hs hp hpn hf (by omega) hw hM hQ M 0 (by omega) (fun i hi => absurd hi (Nat.not_lt_zero i))
/-- the search by halves; B: what the ends below the bound have -/
theorem L_eu_1 {kc ks : Nat} {h : Hh} {Q : PQ} {X : PX} {a : Nat} (t0 : isT a) {n f bd : Int} {W : Nat} {B : Int → Prop} (hn : h a 4 = n) (hn64 : n ≤ 64) (hs : WS (h (a + 1)) n) (hpl : ∀ r, 0 ≤ r → r < n → 0 ≤ h (a + 2) r ∧ h (a + 2) r < n) (hf : 0 ≤ f) (h65 : h 2 1 ≤ 65) (hW : h 2 1 - f = W) (hw : ∀ k : Int, f ≤ k → k < f + W → 97 ≤ h 3 k ∧ h 3 k ≤ 122) (hB : ∀ r v, 0 ≤ r → r < n → (v < 0 ↔ E2 (en (h (a + 1)) n) (h 3) W (h (a + 2) r) f) → (v = 0 ↔ AG (en (h (a + 1)) n) (h 3) (h (a + 2) r) f W) → (v < bd ↔ B r)) (hm : ∀ r r', 0 ≤ r → r ≤ r' → r' < n → B r' → B r)
    (hQ : ∀ lo, 0 ≤ lo → lo ≤ n → (∀ r, 0 ≤ r → r < lo → B r) → (∀ r, lo ≤ r → r < n → ¬ B r) → Q [aI lo] (RM WM wd) h) :
    ∀ (d : Nat) (lo hi : Int), hi - lo ≤ d → 0 ≤ lo → lo ≤ hi → hi ≤ n → (∀ r, 0 ≤ r → r < lo → B r) → (∀ r, hi ≤ r → r < n → ¬ B r) → am_V M_X6_endsUnder kc ks 9 [aR a, aR 2, aI f, aI bd, aI lo, aI hi, aU] [] (RM WM wd) h Q X := by
  intro d
  induction d with
  | zero =>
    intro lo hi hd h0 h1 h2 h3 h4
    exact S_X6_endsUnder_9 t0 ⟨fun _ => hQ lo h0 (by omega) h3 (fun r r0 r1 => h4 r (by omega) r1), fun z => absurd z (by omega)⟩
  | succ d ih =>
    intro lo hi hd h0 h1 h2 h3 h4
    refine S_X6_endsUnder_9 t0 ⟨fun z => hQ lo h0 (by omega) h3 (fun r r0 r1 => h4 r (by omega) r1), fun z => ⟨by omega, ?_⟩⟩
    have hmid := hpl ((lo + hi) / 2) (by omega) (by omega)
    refine L_againstWord t0 hn hn64 hs hmid.1 (by omega) hf h65 hW hw (fun v v1 v2 => ?_)
    have hb := hB ((lo + hi) / 2) v (by omega) (by omega) v1 v2
    show am_V M_X6_endsUnder kc ks 38 _ [aI v] (RM WM wd) h Q X
    refine S_X6_endsUnder_38 t0 ⟨fun y => ?_, fun y => ⟨by omega, ?_⟩⟩
    · exact ih lo ((lo + hi) / 2) (by omega) h0 (by omega) (by omega) h3 (fun r r0 r1 w => by
        have := hm ((lo + hi) / 2) r (by omega) r0 r1 w
        have := hb.mpr this
        omega)
    · exact ih ((lo + hi) / 2 + 1) hi (by omega) (by omega) (by omega) h2 (fun r r0 r1 => hm r ((lo + hi) / 2) r0 (by omega) (by omega) (hb.mp y)) h4

