variable {WM : List (Nat × Nat)} {wd : Bool}
/-! EndSorter.sortEnds -/
def SF (a : Nat) (h h0 : Hh) : Prop := ∀ d, d ≠ 6 → d ≠ 7 → d ≠ 8 → d ≠ a + 2 → d ≠ a + 3 → d ≠ a + 4 → h d = h0 d
theorem SF.trans {a : Nat} {h h1 h2 : Hh} (x : SF a h h1) (y : SF a h1 h2) : SF a h h2 := fun d d1 d2 d3 d4 d5 d6 => (x d d1 d2 d3 d4 d5 d6).trans (y d d1 d2 d3 d4 d5 d6)
theorem CK.double {s c c' : Int → Int} {n k : Nat} (hs : WS s n) (h : CK (en s n) n k c) (hk : 0 < k) (hc : ∀ p, 0 ≤ p → p < (n : Int) → 0 ≤ c p) (h' : ∀ p q, 0 ≤ p → p < (n : Int) → 0 ≤ q → q < (n : Int) → (c' p < c' q ↔ KL c n k p q) ∧ (c' p = c' q ↔ ¬ un c n k p q)) : CK (en s n) n (k + k) c' := by
  intro p q p0 p1 q0 q1
  have e1 := h p q p0 p1 q0 q1
  have e2 := CK.enX hs h hk hc (p := p + k) (q := q + k) (by omega) (by omega)
  have e3 := h' p q p0 p1 q0 q1
  constructor
  · rw [e3.1, ELk_double, ← e1.1, ← e1.2, ← e2.1]
    rfl
  · rw [e3.2, AG_double, ← e1.2, ← e2.2]
    unfold un
    exact Classical.not_not
theorem L_se_2 {kc ks : Nat} {Q : PQ} {X : PX} {a : Nat} (ta : isT a) (h0 : Hh) {n : Nat} (hn : h0 a 4 = n) (hn64 : n ≤ 64) (hs : WS (h0 (a + 1)) n) (k : ∀ h : Hh, (∀ d, d ≠ 7 → d ≠ a + 3 → h d = h0 d) → (∀ p, 0 ≤ p → p < (n : Int) → h (a + 3) p = h0 (a + 1) p - 97 ∧ h 7 p = p) → am_V M_X1_orderByClass 0 0 0 [aR 5, aR a, aU, aU, aU] [] (RM WM wd) h (fun v ρ' h' => am_V M_X1_sortEnds kc ks 43 [aR 5, aR a, aU, aU] (v ++ []) ρ' h' Q X) X) :
    ∀ (m i : Nat) (h : Hh), i + m = n → (∀ d, d ≠ 7 → d ≠ a + 3 → h d = h0 d) → (∀ p, 0 ≤ p → p < (i : Int) → h (a + 3) p = h0 (a + 1) p - 97 ∧ h 7 p = p) → am_V M_X1_sortEnds kc ks 2 [aR 5, aR a, aI i, aU] [] (RM WM wd) h Q X := by
  have ha : a ≠ 7 ∧ a ≠ a + 3 ∧ a + 1 ≠ 7 ∧ a + 1 ≠ a + 3 ∧ a + 3 ≠ 7 := by obtain ⟨_, _, z9⟩ := id ta; omega
  intro m
  induction m with
  | zero =>
    intro i h hm hfr hz
    have hin : i = n := by omega
    subst hin
    refine S_X1_sortEnds_2 ta ⟨fun _ => k h hfr hz, fun z => ?_⟩
    rw [hfr a ha.1 ha.2.1, hn] at z
    omega
  | succ m ih =>
    intro i h hm hfr hz
    have hsi := hs i (by omega) (by omega)
    refine S_X1_sortEnds_2 ta ⟨fun z => ?_, fun _ => ?_⟩
    · rw [hfr a ha.1 ha.2.1, hn] at z
      omega
    · rw [hfr (a + 1) ha.2.2.1 ha.2.2.2.1]
      refine ⟨by omega, ih (i + 1) _ (by omega) (fun d d1 d2 => by rw [am_st_o d1, am_st_o d2]; exact hfr d d1 d2) (fun p p0 p1 => ?_)⟩
      rw [am_st_n (Or.inl ha.2.2.2.2)]
      by_cases e : p = i
      · rw [e, am_st_s, am_st_s]
        exact ⟨rfl, rfl⟩
      · rw [am_st_n (Or.inr e), am_st_n (Or.inr e), am_st_n (Or.inl (Ne.symm ha.2.2.2.2))]
        exact hz p p0 (by omega)
theorem L_se_loop {kc ks : Nat} {Q : PQ} {X : PX} {a : Nat} (ta : isT a) (h0 : Hh) {n : Nat} (hn : h0 a 4 = n) (hn64 : n ≤ 64) (hs : WS (h0 (a + 1)) n) (hQ : ∀ h : Hh, SF a h h0 → SA (h0 (a + 1)) n (h (a + 2)) (h (a + 3)) → (∀ r, 0 ≤ r → r < (n : Int) → h (a + 4) r = cmv (h0 (a + 1)) n (h (a + 2)) r) → Q [] (RM WM wd) h) :
    ∀ (m hf u : Nat) (h : Hh), n ≤ hf + m → 1 ≤ hf → hf ≤ 128 → SF a h h0 → RowI n (h (a + 2)) (h (a + 3)) u → CK (en (h0 (a + 1)) n) n hf (h (a + 3)) → am_V M_X1_sortEnds kc ks 55 [aR 5, aR a, aI u, aI hf] [] (RM WM wd) h Q X := by
  have ha : a ≠ 6 ∧ a ≠ 7 ∧ a ≠ 8 ∧ a ≠ a + 2 ∧ a ≠ a + 3 ∧ a ≠ a + 4 := by obtain ⟨_, _, z9⟩ := id ta; omega
  have ha1 : a + 1 ≠ 6 ∧ a + 1 ≠ 7 ∧ a + 1 ≠ 8 ∧ a + 1 ≠ a + 2 ∧ a + 1 ≠ a + 3 ∧ a + 1 ≠ a + 4 := by obtain ⟨_, _, z9⟩ := id ta; omega
  have ha2 : a + 2 ≠ 6 ∧ a + 2 ≠ 7 ∧ a + 2 ≠ 8 ∧ a + 2 ≠ a + 3 ∧ a + 2 ≠ a + 4 ∧ a + 3 ≠ 6 ∧ a + 3 ≠ 7 ∧ a + 3 ≠ 8 ∧ a + 3 ≠ a + 4 ∧ a + 3 ≠ a + 2 := by obtain ⟨_, _, z9⟩ := id ta; omega
  have fin : ∀ (hf u : Nat) (h : Hh), SF a h h0 → RowI n (h (a + 2)) (h (a + 3)) u → CK (en (h0 (a + 1)) n) n hf (h (a + 3)) → n ≤ u ∨ n ≤ hf → am_V M_X1_tellCommons 0 0 0 [aR 5, aR a, aU, aU, aU, aU] [] (RM WM wd) h (fun v ρ' h' => am_V M_X1_sortEnds kc ks 101 [aU, aU, aU, aU] (v ++ []) ρ' h' Q X) X := by
    intro hf u h hfr hrow hck hor
    have e1 : h (a + 1) = h0 (a + 1) := hfr _ ha1.1 ha1.2.1 ha1.2.2.1 ha1.2.2.2.1 ha1.2.2.2.2.1 ha1.2.2.2.2.2
    have e0 : h a 4 = n := by rw [hfr _ ha.1 ha.2.1 ha.2.2.1 ha.2.2.2.1 ha.2.2.2.2.1 ha.2.2.2.2.2]; exact hn
    have hsa := hrow.done hs hck hor
    refine L_tellCommons ta h e0 hn64 (by rw [e1]; exact hs) (by rw [e1]; exact hsa) (fun h' f' z' => ?_)
    show am_V M_X1_sortEnds kc ks 101 [aU, aU, aU, aU] [] (RM WM wd) h' Q X
    refine S_X1_sortEnds_101 (hQ h' (SF.trans (fun d _ _ _ _ _ d6 => f' d d6) hfr) ?_ ?_)
    · rw [f' _ ha2.2.2.2.2.1, f' _ ha2.2.2.2.2.2.2.2.2.1]
      exact hsa
    · rw [f' _ ha2.2.2.2.2.1, ← e1]
      exact z'
  intro m
  induction m with
  | zero =>
    intro hf u h hm h1 h128 hfr hrow hck
    have e0 : h a 4 = n := by rw [hfr _ ha.1 ha.2.1 ha.2.2.1 ha.2.2.2.1 ha.2.2.2.2.1 ha.2.2.2.2.2]; exact hn
    refine S_X1_sortEnds_55 ta ⟨fun _ => fin hf u h hfr hrow hck (Or.inr (by omega)), fun z => ?_⟩
    rw [e0] at z
    omega
  | succ m ih =>
    intro hf u h hm h1 h128 hfr hrow hck
    have e0 : h a 4 = n := by rw [hfr _ ha.1 ha.2.1 ha.2.2.1 ha.2.2.2.1 ha.2.2.2.2.1 ha.2.2.2.2.2]; exact hn
    refine S_X1_sortEnds_55 ta ⟨fun z => fin hf u h hfr hrow hck (Or.inr (by rw [e0] at z; omega)), fun z => ⟨fun y => fin hf u h hfr hrow hck (Or.inl (by rw [e0] at y; omega)), fun y => ?_⟩⟩
    rw [e0] at z y
    have hc0 : ∀ p, 0 ≤ p → p < (n : Int) → 0 ≤ h (a + 3) p := fun p p0 p1 => (hrow.rg p0 p1).1
    refine L_listBySecondHalf ta h (h (a + 3)) (h (a + 2)) e0 hn64 (by omega) (fun i i0 i1 => ⟨rfl, hrow.prm.1 i i0 i1⟩) hrow.prm.2 hc0 (fun t t' t0 t1 t2 => hrow.mono t0 t1 t2) (fun h1' f1 b1 b2 b3 => ?_)
    show am_V M_X1_sortEnds kc ks 77 [aR 5, aR a, aU, aI hf] [] (RM WM wd) h1' Q X
    refine S_X1_sortEnds_77 ta ?_
    refine L_orderByClass ta h1' (h (a + 3)) (h1' 7) (n := n) (by rw [f1 a ha.2.1]; exact e0) hn64 (fun p p0 p1 => ⟨by rw [f1 _ ha2.2.2.2.2.2.2.1], hc0 p p0 p1, by have := (hrow.rg p0 p1).2; omega⟩) (fun _ _ _ => rfl) b1 b2 (fun h2 f2 z2 => ?_)
    show am_V M_X1_sortEnds kc ks 82 [aR 5, aR a, aU, aI hf] [] (RM WM wd) h2 Q X
    refine S_X1_sortEnds_82 ta ?_
    have hso := sorted_by (n := n) (c := h (a + 3)) (b := h1' 7) (pl := h2 (a + 2)) ⟨b1, b2⟩ z2
    have e23 : h2 (a + 3) = h (a + 3) := by rw [f2 _ ha2.2.2.2.2.2.1 ha2.2.2.2.2.2.2.2.2.2, f1 _ ha2.2.2.2.2.2.2.1]
    refine L_numberClasses ta h2 (h (a + 3)) (h2 (a + 2)) (n := n) (hf := hf) (by rw [f2 a ha.1 ha.2.2.2.1, f1 a ha.2.1]; exact e0) hn64 (fun p _ _ => by rw [e23]) (fun i i0 i1 => ⟨rfl, hso.1.1 i i0 i1⟩) hso.1.2 (by omega) (by omega) (fun h3 f3 z3 => ?_)
    show am_V M_X1_sortEnds kc ks 88 [aR 5, aR a, aU, aI hf] [aI _] (RM WM wd) h3 Q X
    have e32 : h3 (a + 2) = h2 (a + 2) := f3 _ ha2.2.2.1 ha2.2.2.2.1
    have hro := RowI.of (n := n) (pl := h2 (a + 2)) (c := h (a + 3)) (c' := h3 (a + 3)) (hf := hf) hso.1 (fun t t' t0 t1 t2 => by
      obtain ⟨i, j, i0, i1, j0, j1, i3, j3, hT⟩ := hso.2 t t' t0 t1 t2
      rw [i3, j3]
      unfold pT at hT
      unfold KLE
      rcases hT with hT | ⟨hT, hij⟩
      · exact Or.inl hT
      · exact Or.inr ⟨hT, b3 i j i0 hij j1⟩) z3
    refine S_X1_sortEnds_88 ta ⟨by omega, ?_⟩
    have := ih (hf + hf) _ h3 (by omega) (by omega) (by omega) (SF.trans (fun d d1 d2 d3 d4 d5 d6 => by rw [f3 d d3 d5, f2 d d1 d4, f1 d d2]) hfr) (by rw [e32]; exact hro.1) (hck.double hs (by omega) hc0 hro.2)
    rw [show (hf : Int) * 2 = ((hf + hf : Nat) : Int) by omega]
    exact this
theorem L_sortEnds {kc ks : Nat} {Q : PQ} {X : PX} {a : Nat} (ta : isT a) (h0 : Hh) {n : Nat} (hn : h0 a 4 = n) (hn64 : n ≤ 64) (hs : WS (h0 (a + 1)) n) (hQ : ∀ h : Hh, SF a h h0 → SA (h0 (a + 1)) n (h (a + 2)) (h (a + 3)) → (∀ r, 0 ≤ r → r < (n : Int) → h (a + 4) r = cmv (h0 (a + 1)) n (h (a + 2)) r) → Q [] (RM WM wd) h) : am_V M_X1_sortEnds kc ks 0 [aR 5, aR a, aU, aU] [] (RM WM wd) h0 Q X := by
  have ha : a ≠ 6 ∧ a ≠ 7 ∧ a ≠ 8 ∧ a ≠ a + 2 ∧ a ≠ a + 3 ∧ a ≠ a + 4 := by obtain ⟨_, _, z9⟩ := id ta; omega
  have ha2 : a + 2 ≠ 6 ∧ a + 2 ≠ 7 ∧ a + 2 ≠ 8 ∧ a + 2 ≠ a + 3 ∧ a + 2 ≠ a + 4 ∧ a + 3 ≠ 6 ∧ a + 3 ≠ 7 ∧ a + 3 ≠ 8 ∧ a + 3 ≠ a + 4 ∧ a + 3 ≠ a + 2 := by obtain ⟨_, _, z9⟩ := id ta; omega
  refine S_X1_sortEnds_0 ta ?_
  refine L_se_2 ta h0 hn hn64 hs (fun h1 f1 z1 => ?_) n 0 h0 (by omega) (fun _ _ _ => rfl) (fun p _ _ => by omega)
  have hc : ∀ p, 0 ≤ p → p < (n : Int) → h1 (a + 3) p = h0 (a + 1) p - 97 ∧ 0 ≤ h0 (a + 1) p - 97 ∧ h0 (a + 1) p - 97 < 64 := fun p p0 p1 => ⟨(z1 p p0 p1).1, by have := hs p p0 p1; omega⟩
  refine L_orderByClass ta h1 (fun p => h0 (a + 1) p - 97) (fun p => p) (n := n) (by rw [f1 a ha.2.1 ha.2.2.2.2.1]; exact hn) hn64 hc (fun p p0 p1 => (z1 p p0 p1).2) (fun i i0 i1 => ⟨i0, i1⟩) (fun i j _ _ _ _ e => e) (fun h2 f2 z2 => ?_)
  show am_V M_X1_sortEnds kc ks 43 [aR 5, aR a, aU, aU] [] (RM WM wd) h2 Q X
  refine S_X1_sortEnds_43 ta ?_
  have e24 : h2 a 4 = n := by rw [f2 a ha.1 ha.2.2.2.1, f1 a ha.2.1 ha.2.2.2.2.1]; exact hn
  rw [e24]
  have hso := sorted_by (n := n) (c := fun p => h0 (a + 1) p - 97) (b := fun p => p) (pl := h2 (a + 2)) ⟨fun i i0 i1 => ⟨i0, i1⟩, fun i j _ _ _ _ e => e⟩ z2
  have hen : ∀ p : Int, 0 ≤ p → en (fun p => h0 (a + 1) p - 97) n (p + n) = -1 := fun p p0 => en_ge (by omega)
  refine L_numberClasses ta h2 (fun p => h0 (a + 1) p - 97) (h2 (a + 2)) (n := n) (hf := n) e24 hn64 (fun p p0 p1 => by rw [f2 _ ha2.2.2.2.2.2.1 ha2.2.2.2.2.2.2.2.2.2]; exact (hc p p0 p1).1) (fun i i0 i1 => ⟨rfl, hso.1.1 i i0 i1⟩) hso.1.2 (by omega) (by omega) (fun h3 f3 z3 => ?_)
  show am_V M_X1_sortEnds kc ks 52 [aR 5, aR a, aU, aU] [aI _] (RM WM wd) h3 Q X
  refine S_X1_sortEnds_52 ta ?_
  have e32 : h3 (a + 2) = h2 (a + 2) := f3 _ ha2.2.2.1 ha2.2.2.2.1
  have hro := RowI.of (n := n) (pl := h2 (a + 2)) (c := fun p => h0 (a + 1) p - 97) (c' := h3 (a + 3)) (hf := n) hso.1 (fun t t' t0 t1 t2 => by
    obtain ⟨i, j, i0, i1, j0, j1, i3, j3, hT⟩ := hso.2 t t' t0 t1 t2
    rw [i3, j3]
    unfold pT at hT
    unfold KLE
    rw [hen i i0, hen j j0]
    rcases hT with hT | ⟨hT, hij⟩
    · exact Or.inl hT
    · exact Or.inr ⟨hT, by omega⟩) z3
  have hck : CK (en (h0 (a + 1)) n) n 1 (h3 (a + 3)) := by
    intro p q p0 p1 q0 q1
    have e := hro.2 p q p0 p1 q0 q1
    unfold KL un at e
    rw [hen p p0, hen q q0] at e
    dsimp only at e
    constructor
    · rw [e.1]
      constructor
      · intro z
        refine ⟨0, by omega, fun i hi => absurd hi (Nat.not_lt_zero i), ?_⟩
        rw [en_lt (by omega), en_lt (by omega), show p + ((0 : Nat) : Int) = p by omega, show q + ((0 : Nat) : Int) = q by omega]
        omega
      · intro ⟨j, j1, j2, j3⟩
        rw [show j = 0 by omega, en_lt (by omega), en_lt (by omega), show p + ((0 : Nat) : Int) = p by omega, show q + ((0 : Nat) : Int) = q by omega] at j3
        omega
    · rw [e.2]
      constructor
      · intro z i hi
        rw [show i = 0 by omega, en_lt (by omega), en_lt (by omega), show p + ((0 : Nat) : Int) = p by omega, show q + ((0 : Nat) : Int) = q by omega]
        omega
      · intro z
        have := z 0 (by omega)
        rw [en_lt (by omega), en_lt (by omega), show p + ((0 : Nat) : Int) = p by omega, show q + ((0 : Nat) : Int) = q by omega] at this
        omega
  exact L_se_loop ta h0 hn hn64 hs hQ n 1 _ h3 (by omega) (by omega) (by omega) (fun d d1 d2 d3 d4 d5 d6 => by rw [f3 d d3 d5, f2 d d1 d4, f1 d d2 d5]) (by rw [e32]; exact hro.1) hck

