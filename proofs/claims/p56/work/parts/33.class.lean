variable {WM : List (Nat × Nat)} {wd : Bool}
/-! CLASSES BY BEGINNINGS -/
/-- less by so many first signs -/
def ELk (x : Int → Int) (k : Nat) (p q : Int) : Prop := ∃ j, j < k ∧ AG x x p q j ∧ x (p + j) < x (q + j)
theorem ELk.el {x : Int → Int} {k : Nat} {p q : Int} (h : ELk x k p q) : EL x x p q := by
  obtain ⟨j, -, h1, h2⟩ := h
  exact ⟨j, h1, h2⟩
theorem ELk.of {x : Int → Int} {k : Nat} {p q : Int} (h : EL x x p q) (hn : ¬ AG x x p q k) : ELk x k p q := by
  obtain ⟨j, h1, h2⟩ := h
  refine ⟨j, Nat.lt_of_not_le fun z => hn (h1.mono z), h1, h2⟩
theorem ELk.nag {x : Int → Int} {k : Nat} {p q : Int} (h : ELk x k p q) : ¬ AG x x p q k := by
  obtain ⟨j, h0, h1, h2⟩ := h
  intro z
  have := z j h0
  omega
theorem ELk.tri {x : Int → Int} {k : Nat} {p q : Int} (hn : ¬ AG x x p q k) : ELk x k p q ∨ ELk x k q p := by
  rcases AG_or (x := x) (y := x) (p := p) (q := q) k with h | ⟨j, h1, h2, h3⟩
  · exact absurd h hn
  · rcases Int.lt_or_gt_of_ne h3 with h4 | h4
    · exact Or.inl ⟨j, h1, h2, h4⟩
    · exact Or.inr ⟨j, h1, h2.sym, h4⟩
/-- c tells the class of each end by its first k signs -/
def CK (x : Int → Int) (n : Int) (k : Nat) (c : Int → Int) : Prop := ∀ p q, 0 ≤ p → p < n → 0 ≤ q → q < n → (c p < c q ↔ ELk x k p q) ∧ (c p = c q ↔ AG x x p q k)
/-- the class behind, -1 behind the text -/
theorem CK.enX {s : Int → Int} {n : Int} {k : Nat} {c : Int → Int} (hs : WS s n) (h : CK (en s n) n k c) (hk : 0 < k) (hc : ∀ p, 0 ≤ p → p < n → 0 ≤ c p) {p q : Int} (hp : 0 ≤ p) (hq : 0 ≤ q) : (en c n p < en c n q ↔ ELk (en s n) k p q) ∧ (en c n p = en c n q ↔ AG (en s n) (en s n) p q k) := by
  by_cases h1 : p < n
  · by_cases h2 : q < n
    · rw [en_lt h1, en_lt h2]
      exact h p q hp h1 hq h2
    · have h3 := hc p hp h1
      rw [en_lt h1, en_ge (s := c) (i := q) (by omega)]
      have e1 : en s n p ≠ -1 := fun z => by have := (en_m1 hs hp).mp z; omega
      have e2 : ∀ j : Nat, en s n (q + j) = -1 := fun j => en_ge (by omega)
      constructor
      · refine ⟨fun z => by omega, fun ⟨j, _, _, z⟩ => ?_⟩
        rw [e2 j] at z
        have := en_ge1 hs (i := p + j) (by omega)
        omega
      · refine ⟨fun z => by omega, fun z => ?_⟩
        have := z 0 hk
        rw [e2 0] at this
        exact absurd (by simpa using this) e1
  · rw [en_ge (s := c) (i := p) (by omega)]
    have e2 : ∀ j : Nat, en s n (p + j) = -1 := fun j => en_ge (by omega)
    by_cases h2 : q < n
    · have h3 := hc q hq h2
      rw [en_lt h2]
      have e1 : -1 < en s n q := by
        have := en_ge1 hs hq
        have : en s n q ≠ -1 := fun z => by have := (en_m1 hs hq).mp z; omega
        omega
      constructor
      · refine ⟨fun _ => ⟨0, hk, fun i hi => absurd hi (Nat.not_lt_zero i), ?_⟩, fun _ => by omega⟩
        rw [e2 0]
        simpa using e1
      · refine ⟨fun z => by omega, fun z => ?_⟩
        have := z 0 hk
        rw [e2 0] at this
        rw [show q + ((0 : Nat) : Int) = q by omega] at this
        omega
    · rw [en_ge (s := c) (i := q) (by omega)]
      have e3 : ∀ j : Nat, en s n (q + j) = -1 := fun j => en_ge (by omega)
      constructor
      · refine ⟨fun z => by omega, fun ⟨j, _, _, z⟩ => ?_⟩
        rw [e2, e3] at z
        omega
      · exact ⟨fun _ j _ => by rw [e2, e3], fun _ => rfl⟩
/-- twice as many signs -/
theorem AG_double {x : Int → Int} {p q : Int} {k : Nat} : AG x x p q (k + k) ↔ AG x x p q k ∧ AG x x (p + k) (q + k) k := ⟨fun h => ⟨h.mono (by omega), h.shift k⟩, fun h => h.1.append h.2⟩
theorem ELk_double {x : Int → Int} {p q : Int} {k : Nat} : ELk x (k + k) p q ↔ ELk x k p q ∨ AG x x p q k ∧ ELk x k (p + k) (q + k) := by
  constructor
  · intro ⟨j, h1, h2, h3⟩
    by_cases hj : j < k
    · exact Or.inl ⟨j, hj, h2, h3⟩
    · refine Or.inr ⟨h2.mono (by omega), j - k, by omega, ?_, ?_⟩
      · exact AG.shift k (by rw [show k + (j - k) = j by omega]; exact h2)
      · rw [show p + (k : Int) + ((j - k : Nat) : Int) = p + j by omega, show q + (k : Int) + ((j - k : Nat) : Int) = q + j by omega]
        exact h3
  · intro h
    rcases h with ⟨j, h1, h2, h3⟩ | ⟨h0, j, h1, h2, h3⟩
    · exact ⟨j, by omega, h2, h3⟩
    · refine ⟨k + j, by omega, h0.append h2, ?_⟩
      rw [show p + ((k + j : Nat) : Int) = p + k + j by omega, show q + ((k + j : Nat) : Int) = q + k + j by omega]
      exact h3
/-- changes of a key along a row -/
noncomputable def chg (d : Int → Int → Prop) (pl : Int → Int) (r : Nat) : Nat := cnt (fun t => d (pl t) (pl (t + 1))) r
theorem chg_up {d : Int → Int → Prop} {pl : Int → Int} {i j : Nat} (h : i ≤ j) : chg d pl i ≤ chg d pl j := cnt_up h
theorem chg_same {d : Int → Int → Prop} {pl : Int → Int} {i : Nat} : ∀ (m : Nat), (chg d pl i = chg d pl (i + m) ↔ ∀ t : Nat, i ≤ t → t < i + m → ¬ d (pl t) (pl ((t : Int) + 1)))
  | 0 => ⟨fun _ t h1 h2 => by omega, fun _ => rfl⟩
  | m + 1 => by
    have ih := chg_same (d := d) (pl := pl) (i := i) m
    have hu := chg_up (d := d) (pl := pl) (show i ≤ i + m by omega)
    rw [show i + (m + 1) = i + m + 1 by omega]
    by_cases e : d (pl ((i + m : Nat) : Int)) (pl (((i + m : Nat) : Int) + 1))
    · have h1 : chg d pl (i + m + 1) = chg d pl (i + m) + 1 := cnt_t (P := fun t => d (pl t) (pl (t + 1))) e
      rw [h1]
      constructor
      · intro z
        omega
      · intro z
        exact absurd e (z (i + m) (by omega) (by omega))
    · have h1 : chg d pl (i + m + 1) = chg d pl (i + m) := cnt_f (P := fun t => d (pl t) (pl (t + 1))) e
      rw [h1, ih]
      constructor
      · intro z t t1 t2
        by_cases ht : t = i + m
        · rw [ht]
          exact e
        · exact z t t1 (by omega)
      · intro z t t1 t2
        exact z t t1 (by omega)

