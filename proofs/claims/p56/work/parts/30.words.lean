variable {WM : List (Nat × Nat)} {wd : Bool}
/-! WORDS: rows of signs, the order of their ends, counting -/
def en (s : Int → Int) (n : Int) (i : Int) : Int := if i < n then s i else -1
def AG (x y : Int → Int) (p q : Int) (k : Nat) : Prop := ∀ i : Nat, i < k → x (p + i) = y (q + i)
theorem AG.sym {x y : Int → Int} {p q : Int} {k : Nat} (h : AG x y p q k) : AG y x q p k := fun i hi => (h i hi).symm
theorem AG.trans {x y z : Int → Int} {p q r : Int} {k : Nat} (h : AG x y p q k) (h' : AG y z q r k) : AG x z p r k := fun i hi => (h i hi).trans (h' i hi)
theorem AG.mono {x y : Int → Int} {p q : Int} {k l : Nat} (h : AG x y p q k) (hl : l ≤ k) : AG x y p q l := fun i hi => h i (Nat.lt_of_lt_of_le hi hl)
theorem AG.refl (x : Int → Int) (p : Int) (k : Nat) : AG x x p p k := fun _ _ => rfl
theorem AG.shift {x y : Int → Int} {p q : Int} {k : Nat} (j : Nat) (h : AG x y p q (j + k)) : AG x y (p + j) (q + j) k := fun i hi => by
  have := h (j + i) (by omega)
  rw [show p + ((j + i : Nat) : Int) = p + j + i by omega, show q + ((j + i : Nat) : Int) = q + j + i by omega] at this
  exact this
theorem AG.succ {x y : Int → Int} {p q : Int} {k : Nat} (h0 : x p = y q) (h : AG x y (p + 1) (q + 1) k) : AG x y p q (k + 1) := fun i hi => by
  cases i with
  | zero => simpa using h0
  | succ j =>
    have := h j (by omega)
    rw [show p + ((j + 1 : Nat) : Int) = p + 1 + j by omega, show q + ((j + 1 : Nat) : Int) = q + 1 + j by omega]
    exact this
theorem AG.append {x y : Int → Int} {p q : Int} {k l : Nat} (h : AG x y p q k) (h' : AG x y (p + k) (q + k) l) : AG x y p q (k + l) := fun i hi => by
  by_cases hk : i < k
  · exact h i hk
  · have := h' (i - k) (by omega)
    rw [show p + (k : Int) + ((i - k : Nat) : Int) = p + i by omega, show q + (k : Int) + ((i - k : Nat) : Int) = q + i by omega] at this
    exact this
theorem lc_ag (s t : Int → Int) : ∀ (m : Nat) (p q : Int), AG s t p q (lc s t p q m)
  | 0, p, q => fun i hi => absurd hi (Nat.not_lt_zero i)
  | m + 1, p, q => by
    unfold lc
    by_cases h : s p = t q
    · rw [if_pos h]
      exact AG.succ h (lc_ag s t m (p + 1) (q + 1))
    · rw [if_neg h]
      exact fun i hi => absurd hi (Nat.not_lt_zero i)
theorem lc_ne (s t : Int → Int) : ∀ (m : Nat) (p q : Int), lc s t p q m < m → s (p + lc s t p q m) ≠ t (q + lc s t p q m)
  | 0, p, q => fun h => absurd h (Nat.not_lt_zero _)
  | m + 1, p, q => by
    intro h
    unfold lc at h ⊢
    by_cases e : s p = t q
    · rw [if_pos e] at h ⊢
      have := lc_ne s t m (p + 1) (q + 1) (by omega)
      rw [show p + ((lc s t (p + 1) (q + 1) m + 1 : Nat) : Int) = p + 1 + lc s t (p + 1) (q + 1) m by omega, show q + ((lc s t (p + 1) (q + 1) m + 1 : Nat) : Int) = q + 1 + lc s t (p + 1) (q + 1) m by omega]
      exact this
    · rw [if_neg e]
      simpa using e
theorem le_lc {s t : Int → Int} {p q : Int} {m k : Nat} : k ≤ lc s t p q m ↔ k ≤ m ∧ AG s t p q k := by
  constructor
  · intro h
    exact ⟨Nat.le_trans h (lc_le s t m p q), (lc_ag s t m p q).mono h⟩
  · intro ⟨h1, h2⟩
    apply Nat.le_of_not_lt
    intro h
    exact lc_ne s t m p q (by omega) (h2 _ h)
theorem lc_eq {s t s' t' : Int → Int} {p q p' q' : Int} {m m' : Nat} (h : ∀ k : Nat, (k ≤ m ∧ AG s t p q k) ↔ (k ≤ m' ∧ AG s' t' p' q' k)) : lc s t p q m = lc s' t' p' q' m' := by
  apply Nat.le_antisymm
  · exact le_lc.mpr ((h _).mp (le_lc.mp (Nat.le_refl _)))
  · exact le_lc.mpr ((h _).mpr (le_lc.mp (Nat.le_refl _)))
theorem lc_sym (s t : Int → Int) (p q : Int) (m : Nat) : lc s t p q m = lc t s q p m := lc_eq fun k => ⟨fun h => ⟨h.1, h.2.sym⟩, fun h => ⟨h.1, h.2.sym⟩⟩
/-- what two ends have in common -/
def Lc (s : Int → Int) (n : Int) (t : Int → Int) (m p q : Int) : Nat := lc s t p q (min (n - p) (m - q)).toNat
theorem le_Lc {s t : Int → Int} {n m p q : Int} (hp : p ≤ n) (hq : q ≤ m) {k : Nat} : k ≤ Lc s n t m p q ↔ p + k ≤ n ∧ q + k ≤ m ∧ AG s t p q k := by
  unfold Lc
  rw [le_lc]
  constructor
  · intro ⟨h1, h2⟩
    exact ⟨by omega, by omega, h2⟩
  · intro ⟨h1, h2, h3⟩
    exact ⟨by omega, h3⟩
theorem Lc_1 {s t : Int → Int} {n m p q : Int} (hp : p ≤ n) (hq : q ≤ m) : p + Lc s n t m p q ≤ n := ((le_Lc hp hq).mp (Nat.le_refl _)).1
theorem Lc_2 {s t : Int → Int} {n m p q : Int} (hp : p ≤ n) (hq : q ≤ m) : q + Lc s n t m p q ≤ m := ((le_Lc hp hq).mp (Nat.le_refl _)).2.1
theorem Lc_ag {s t : Int → Int} {n m p q : Int} : AG s t p q (Lc s n t m p q) := lc_ag _ _ _ _ _
theorem Lc_ne {s t : Int → Int} {n m p q : Int} (h1 : p + Lc s n t m p q < n) (h2 : q + Lc s n t m p q < m) : s (p + Lc s n t m p q) ≠ t (q + Lc s n t m p q) := lc_ne _ _ _ _ _ (by unfold Lc at h1 h2; omega)
theorem Lc_sym (s t : Int → Int) (n m p q : Int) : Lc s n t m p q = Lc t m s n q p := by
  unfold Lc
  rw [lc_sym, Int.min_comm]
theorem Lc_uniq {s t : Int → Int} {n m p q : Int} {k : Nat} (h1 : p + k ≤ n) (h2 : q + k ≤ m) (h3 : AG s t p q k) (h4 : p + k = n ∨ q + k = m ∨ s (p + k) ≠ t (q + k)) : Lc s n t m p q = k := by
  apply Nat.le_antisymm
  · apply Nat.le_of_not_lt
    intro h
    have h5 := (le_Lc (s := s) (t := t) (n := n) (m := m) (p := p) (q := q) (by omega) (by omega) (k := k + 1)).mp h
    rcases h4 with h4 | h4 | h4
    · omega
    · omega
    · exact h4 (h5.2.2 k (by omega))
  · exact (le_Lc (by omega) (by omega)).mpr ⟨h1, h2, h3⟩
/-- a text's signs are letters -/
def WS (s : Int → Int) (n : Int) : Prop := ∀ i, 0 ≤ i → i < n → 97 ≤ s i ∧ s i ≤ 122
theorem en_lt {s : Int → Int} {n i : Int} (h : i < n) : en s n i = s i := if_pos h
theorem en_ge {s : Int → Int} {n i : Int} (h : n ≤ i) : en s n i = -1 := if_neg (by omega)
theorem en_m1 {s : Int → Int} {n i : Int} (hs : WS s n) (h0 : 0 ≤ i) : en s n i = -1 ↔ n ≤ i := by
  constructor
  · intro h
    apply Int.not_lt.mp
    intro hl
    have := hs i h0 hl
    rw [en_lt hl] at h
    omega
  · exact en_ge
theorem en_ge1 {s : Int → Int} {n i : Int} (hs : WS s n) (h0 : 0 ≤ i) : -1 ≤ en s n i := by
  by_cases h : i < n
  · have := hs i h0 h
    rw [en_lt h]
    omega
  · rw [en_ge (by omega)]
    omega
/-- the end at p of x is less than that at q of y -/
def EL (x y : Int → Int) (p q : Int) : Prop := ∃ k : Nat, AG x y p q k ∧ x (p + k) < y (q + k)
theorem EL.irrefl {x : Int → Int} {p : Int} : ¬ EL x x p p := fun ⟨_, _, h⟩ => Int.lt_irrefl _ h
theorem EL.trans {x y z : Int → Int} {p q r : Int} (h : EL x y p q) (h' : EL y z q r) : EL x z p r := by
  obtain ⟨k, h1, h2⟩ := h
  obtain ⟨l, h3, h4⟩ := h'
  rcases Nat.lt_trichotomy k l with hk | hk | hk
  · exact ⟨k, h1.trans (h3.mono (by omega)), by rw [← h3 k hk]; exact h2⟩
  · subst hk
    exact ⟨k, h1.trans h3, Int.lt_trans h2 h4⟩
  · exact ⟨l, (h1.mono (by omega)).trans h3, by rw [h1 l hk]; exact h4⟩
theorem EL.asymm {x y : Int → Int} {p q : Int} (h : EL x y p q) : ¬ EL y x q p := fun h' => EL.irrefl (h.trans h')
/-- the least place where two rows differ -/
theorem AG_or {x y : Int → Int} {p q : Int} : ∀ m : Nat, AG x y p q m ∨ ∃ k, k < m ∧ AG x y p q k ∧ x (p + k) ≠ y (q + k)
  | 0 => Or.inl fun i hi => absurd hi (Nat.not_lt_zero i)
  | m + 1 => by
    rcases AG_or (x := x) (y := y) (p := p) (q := q) m with h | ⟨k, h1, h2, h3⟩
    · by_cases e : x (p + m) = y (q + m)
      · left
        intro i hi
        by_cases hm : i < m
        · exact h i hm
        · rw [show i = m by omega]
          exact e
      · exact Or.inr ⟨m, by omega, h, e⟩
    · exact Or.inr ⟨k, by omega, h2, h3⟩
theorem EL.tri {x y : Int → Int} {p q : Int} {m : Nat} (h : x (p + m) ≠ y (q + m)) : EL x y p q ∨ EL y x q p := by
  rcases AG_or (x := x) (y := y) (p := p) (q := q) (m + 1) with h1 | ⟨k, -, h2, h3⟩
  · exact absurd (h1 m (by omega)) h
  · rcases Int.lt_or_gt_of_ne h3 with h4 | h4
    · exact Or.inl ⟨k, h2, h4⟩
    · exact Or.inr ⟨k, h2.sym, h4⟩
theorem en_tri {s : Int → Int} {n p q : Int} (hs : WS s n) (hp : 0 ≤ p) (hpn : p < n) (hq : 0 ≤ q) (hqn : q < n) (hne : p ≠ q) : EL (en s n) (en s n) p q ∨ EL (en s n) (en s n) q p := by
  rcases Int.lt_or_gt_of_ne hne with h | h
  · refine EL.tri (m := (n - q).toNat) ?_
    rw [en_ge (i := q + ((n - q).toNat : Int)) (by omega)]
    intro e
    have := (en_m1 hs (by omega)).mp e
    omega
  · refine EL.tri (m := (n - p).toNat) ?_
    rw [en_ge (i := p + ((n - p).toNat : Int)) (by omega)]
    intro e
    have := (en_m1 hs (by omega)).mp e.symm
    omega
/-- the order by what they have in common -/
theorem EL_iff {s t : Int → Int} {n m p q : Int} (hs : WS s n) (ht : WS t m) (hp0 : 0 ≤ p) (hp : p ≤ n) (hq0 : 0 ≤ q) (hq : q ≤ m) : EL (en s n) (en t m) p q ↔ (q + Lc s n t m p q < m ∧ (n ≤ p + Lc s n t m p q ∨ s (p + Lc s n t m p q) < t (q + Lc s n t m p q))) := by
  have l1 := Lc_1 (s := s) (t := t) hp hq
  have l2 := Lc_2 (s := s) (t := t) hp hq
  have l3 := Lc_ag (s := s) (t := t) (n := n) (m := m) (p := p) (q := q)
  have l4 := @Lc_ne s t n m p q
  generalize Lc s n t m p q = k at l1 l2 l3 l4 ⊢
  constructor
  · intro ⟨j, h1, h2⟩
    have hjk : j = k := by
      rcases Nat.lt_trichotomy j k with h | h | h
      · rw [en_lt (by omega), en_lt (by omega), l3 j h] at h2
        omega
      · exact h
      · exfalso
        have h3 := h1 k h
        by_cases a1 : p + k < n
        · by_cases a2 : q + k < m
          · rw [en_lt a1, en_lt a2] at h3
            exact l4 a1 a2 h3
          · rw [en_ge (i := q + k) (by omega)] at h3
            have := (en_m1 hs (by omega)).mp h3
            omega
        · rw [en_ge (i := p + k) (by omega)] at h3
          have h5 := (en_m1 ht (by omega)).mp h3.symm
          rw [en_ge (i := p + j) (by omega), en_ge (i := q + j) (by omega)] at h2
          omega
    subst hjk
    have h5 : ¬ m ≤ q + j := by
      intro h6
      rw [en_ge (i := q + j) h6] at h2
      have := en_ge1 hs (i := p + j) (by omega)
      omega
    refine ⟨by omega, ?_⟩
    by_cases a1 : p + j < n
    · rw [en_lt a1, en_lt (by omega)] at h2
      exact Or.inr h2
    · exact Or.inl (by omega)
  · intro ⟨h1, h2⟩
    refine ⟨k, fun i hi => ?_, ?_⟩
    · rw [en_lt (by omega), en_lt (by omega)]
      exact l3 i hi
    · rw [en_lt (i := q + k) h1]
      have := ht (q + k) (by omega) h1
      rcases h2 with h2 | h2
      · rw [en_ge h2]
        omega
      · by_cases a1 : p + k < n
        · rw [en_lt a1]
          exact h2
        · rw [en_ge (by omega)]
          omega
/-! counting -/
noncomputable def cnt (P : Int → Prop) : Nat → Nat
  | 0 => 0
  | m + 1 => cnt P m + @ite Nat (P m) (Classical.propDecidable (P m)) 1 0
theorem cnt_t {P : Int → Prop} {m : Nat} (h : P m) : cnt P (m + 1) = cnt P m + 1 := by rw [cnt, if_pos h]
theorem cnt_f {P : Int → Prop} {m : Nat} (h : ¬ P m) : cnt P (m + 1) = cnt P m := by rw [cnt, if_neg h, Nat.add_zero]
theorem cnt_le (P : Int → Prop) : ∀ m, cnt P m ≤ m
  | 0 => Nat.le_refl 0
  | m + 1 => by
    have := cnt_le P m
    by_cases h : P m
    · rw [cnt_t h]; omega
    · rw [cnt_f h]; omega
theorem cnt_mono {P Q : Int → Prop} : ∀ m : Nat, (∀ i : Int, 0 ≤ i → i < m → P i → Q i) → cnt P m ≤ cnt Q m
  | 0, _ => Nat.le_refl 0
  | m + 1, h => by
    have := cnt_mono (P := P) (Q := Q) m (fun i h0 h1 => h i h0 (by omega))
    by_cases hp : P m
    · rw [cnt_t hp, cnt_t (h m (by omega) (by omega) hp)]
      omega
    · rw [cnt_f hp]
      by_cases hq : Q m
      · rw [cnt_t hq]; omega
      · rw [cnt_f hq]; exact this
theorem cnt_congr {P Q : Int → Prop} (m : Nat) (h : ∀ i : Int, 0 ≤ i → i < m → (P i ↔ Q i)) : cnt P m = cnt Q m := Nat.le_antisymm (cnt_mono m fun i h0 h1 => (h i h0 h1).mp) (cnt_mono m fun i h0 h1 => (h i h0 h1).mpr)
theorem cnt_up {P : Int → Prop} {m m' : Nat} (h : m ≤ m') : cnt P m ≤ cnt P m' := by
  induction m' with
  | zero => rw [show m = 0 by omega]; exact Nat.le_refl _
  | succ k ih =>
    by_cases e : m = k + 1
    · rw [e]; exact Nat.le_refl _
    · have := ih (by omega)
      by_cases hp : P k
      · rw [cnt_t hp]; omega
      · rw [cnt_f hp]; exact this
/-- one of them taken away -/
theorem cnt_del {P : Int → Prop} {a : Int} : ∀ m : Nat, 0 ≤ a → a < m → P a → cnt (fun i => P i ∧ i ≠ a) m + 1 = cnt P m
  | 0, h0, h1, _ => by omega
  | m + 1, h0, h1, hp => by
    by_cases e : a = m
    · subst e
      rw [cnt_t hp, cnt_f (by simp)]
      rw [cnt_congr m (Q := P) (fun i h2 h3 => ⟨fun h => h.1, fun h => ⟨h, by omega⟩⟩)]
    · have := cnt_del m h0 (by omega) hp
      by_cases hm : P m
      · rw [cnt_t hm, cnt_t (P := fun i => P i ∧ i ≠ a) ⟨hm, fun z => e z.symm⟩]
        omega
      · rw [cnt_f hm, cnt_f (P := fun i => P i ∧ i ≠ a) (fun z => hm z.1)]
        exact this
theorem cnt_lt {P Q : Int → Prop} {m : Nat} {a : Int} (h : ∀ i : Int, 0 ≤ i → i < m → P i → Q i) (h0 : 0 ≤ a) (h1 : a < m) (hq : Q a) (hp : ¬ P a) : cnt P m < cnt Q m := by
  have e := cnt_del m h0 h1 hq
  have := cnt_mono (P := P) (Q := fun i => Q i ∧ i ≠ a) m (fun i a0 a1 z => ⟨h i a0 a1 z, fun e => hp (e ▸ z)⟩)
  omega
theorem cnt_not (P : Int → Prop) : ∀ m : Nat, cnt P m + cnt (fun i => ¬ P i) m = m
  | 0 => rfl
  | m + 1 => by
    have := cnt_not P m
    by_cases h : P m
    · rw [cnt_t h, cnt_f (P := fun i => ¬ P i) (fun z => z h)]; omega
    · rw [cnt_f h, cnt_t (P := fun i => ¬ P i) h]; omega
theorem cnt_or {P Q : Int → Prop} (m : Nat) (h : ∀ i : Int, 0 ≤ i → i < m → P i → ¬ Q i) : cnt (fun i => P i ∨ Q i) m = cnt P m + cnt Q m := by
  induction m with
  | zero => rfl
  | succ k ih =>
    have := ih (fun i h0 h1 => h i h0 (by omega))
    by_cases hp : P k
    · rw [cnt_t hp, cnt_t (P := fun i => P i ∨ Q i) (Or.inl hp), cnt_f (h k (by omega) (by omega) hp)]; omega
    · rw [cnt_f hp]
      by_cases hq : Q k
      · rw [cnt_t hq, cnt_t (P := fun i => P i ∨ Q i) (Or.inr hq)]; omega
      · rw [cnt_f hq, cnt_f (P := fun i => P i ∨ Q i) (fun z => z.elim hp hq)]; exact this
theorem cnt_zero {P : Int → Prop} {m : Nat} (h : ∀ i : Int, 0 ≤ i → i < m → ¬ P i) : cnt P m = 0 := by
  induction m with
  | zero => rfl
  | succ k ih => rw [cnt_f (h k (by omega) (by omega))]; exact ih fun i h0 h1 => h i h0 (by omega)
theorem cnt_pos {P : Int → Prop} {m : Nat} {a : Int} (h0 : 0 ≤ a) (h1 : a < m) (hp : P a) : 0 < cnt P m := by
  have := cnt_del m h0 h1 hp
  omega
theorem cnt_ex {P : Int → Prop} {m : Nat} (h : 0 < cnt P m) : ∃ i : Int, 0 ≤ i ∧ i < m ∧ P i := by
  apply Classical.byContradiction
  intro hn
  rw [cnt_zero (fun i h0 h1 hp => hn ⟨i, h0, h1, hp⟩)] at h
  omega
/-- an injection -/
theorem cnt_inj {P : Int → Prop} (f : Int → Int) : ∀ (m : Nat) {Q : Int → Prop} {m' : Nat}, (∀ i : Int, 0 ≤ i → i < m → P i → 0 ≤ f i ∧ f i < m' ∧ Q (f i)) → (∀ i j : Int, 0 ≤ i → i < m → P i → 0 ≤ j → j < m → P j → f i = f j → i = j) → cnt P m ≤ cnt Q m'
  | 0, _, _, _, _ => Nat.zero_le _
  | m + 1, Q, m', h, hi => by
    by_cases hp : P m
    · obtain ⟨a0, a1, a2⟩ := h m (by omega) (by omega) hp
      have e := cnt_del m' a0 a1 a2
      have := cnt_inj (P := P) f m (Q := fun i => Q i ∧ i ≠ f m) (m' := m') (fun i h0 h1 z => by
        obtain ⟨b0, b1, b2⟩ := h i h0 (by omega) z
        exact ⟨b0, b1, b2, fun e => by have := hi i m h0 (by omega) z (by omega) (by omega) hp e; omega⟩) (fun i j h0 h1 z h2 h3 z' e => hi i j h0 (by omega) z h2 (by omega) z' e)
      rw [cnt_t hp]
      omega
    · rw [cnt_f hp]
      exact cnt_inj f m (fun i h0 h1 z => h i h0 (by omega) z) (fun i j h0 h1 z h2 h3 z' e => hi i j h0 (by omega) z h2 (by omega) z' e)
theorem cnt_bij {P Q : Int → Prop} (f g : Int → Int) {m m' : Nat} (h1 : ∀ i : Int, 0 ≤ i → i < m → P i → 0 ≤ f i ∧ f i < m' ∧ Q (f i) ∧ g (f i) = i) (h2 : ∀ i : Int, 0 ≤ i → i < m' → Q i → 0 ≤ g i ∧ g i < m ∧ P (g i) ∧ f (g i) = i) : cnt P m = cnt Q m' := by
  apply Nat.le_antisymm
  · exact cnt_inj f m (fun i a b c => ⟨(h1 i a b c).1, (h1 i a b c).2.1, (h1 i a b c).2.2.1⟩) (fun i j a b c a' b' c' e => by
      rw [← (h1 i a b c).2.2.2, e, (h1 j a' b' c').2.2.2])
  · exact cnt_inj g m' (fun i a b c => ⟨(h2 i a b c).1, (h2 i a b c).2.1, (h2 i a b c).2.2.1⟩) (fun i j a b c a' b' c' e => by
      rw [← (h2 i a b c).2.2.2, e, (h2 j a' b' c').2.2.2])
/-- below a bound -/
theorem cnt_below {m : Nat} {k : Nat} (h : k ≤ m) : cnt (fun i => i < (k : Int)) m = k := by
  induction m with
  | zero => simp [cnt]; omega
  | succ j ih =>
    by_cases e : k = j + 1
    · subst e
      rw [cnt_t (by omega)]
      rw [cnt_congr j (Q := fun i => i < ((j : Nat) : Int)) (fun i h0 h1 => ⟨fun _ => by omega, fun _ => by omega⟩)]
      have : ∀ j : Nat, cnt (fun i => i < (j : Int)) j = j := by
        intro j
        have h1 := cnt_not (fun i => i < (j : Int)) j
        rw [cnt_zero (P := fun i => ¬ i < (j : Int)) (fun i h0 h1 z => z (by omega))] at h1
        omega
      rw [this]
    · rw [cnt_f (by omega)]
      exact ih (by omega)

