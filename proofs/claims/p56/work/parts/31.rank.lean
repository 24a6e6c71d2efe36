variable {WM : List (Nat × Nat)} {wd : Bool}
/-! RANKS -/
theorem cnt_true {P : Int → Prop} {m : Nat} (h : ∀ i : Int, 0 ≤ i → i < m → P i) : cnt P m = m := by
  have h1 := cnt_not P m
  rw [cnt_zero (P := fun i => ¬ P i) (fun i h0 h1 z => z (h i h0 h1))] at h1
  omega
noncomputable def rk (s : Int → Int) (n q : Int) : Nat := cnt (fun p => EL (en s n) (en s n) p q) n.toNat
theorem rk_lt {s : Int → Int} {n p q : Int} (hp : 0 ≤ p) (hpn : p < n) (h : EL (en s n) (en s n) p q) : rk s n p < rk s n q :=
  cnt_lt (a := p) (fun _ _ _ z => z.trans h) hp (by omega) h EL.irrefl
theorem rk_iff {s : Int → Int} {n p q : Int} (hs : WS s n) (hp : 0 ≤ p) (hpn : p < n) (hq : 0 ≤ q) (hqn : q < n) : EL (en s n) (en s n) p q ↔ rk s n p < rk s n q := by
  refine ⟨rk_lt hp hpn, fun h => ?_⟩
  by_cases e : p = q
  · subst e
    omega
  · rcases en_tri hs hp hpn hq hqn e with h1 | h1
    · exact h1
    · have := rk_lt hq hqn h1
      omega
theorem rk_inj {s : Int → Int} {n p q : Int} (hs : WS s n) (hp : 0 ≤ p) (hpn : p < n) (hq : 0 ≤ q) (hqn : q < n) (h : rk s n p = rk s n q) : p = q := by
  apply Classical.byContradiction
  intro e
  rcases en_tri hs hp hpn hq hqn e with h1 | h1
  · have := rk_lt hp hpn h1
    omega
  · have := rk_lt hq hqn h1
    omega
theorem rk_bd {s : Int → Int} {n p : Int} (hp : 0 ≤ p) (hpn : p < n) : (rk s n p : Int) < n := by
  have h1 := cnt_lt (P := fun q => EL (en s n) (en s n) q p) (Q := fun _ => True) (m := n.toNat) (a := p) (fun _ _ _ _ => trivial) hp (by omega) trivial EL.irrefl
  have h2 := cnt_le (fun _ => True) n.toNat
  unfold rk
  omega
theorem rk_sur {s : Int → Int} {n r : Int} (hs : WS s n) (hr : 0 ≤ r) (hrn : r < n) : ∃ p, 0 ≤ p ∧ p < n ∧ (rk s n p : Int) = r := by
  apply Classical.byContradiction
  intro hn
  have h1 := cnt_inj (P := fun _ => True) (fun p => (rk s n p : Int)) n.toNat (Q := fun i => True ∧ i ≠ r) (m' := n.toNat) (fun i h0 h1 _ => ⟨by omega, by have := rk_bd (s := s) (n := n) h0 (by omega); omega, trivial, fun e => hn ⟨i, h0, by omega, e⟩⟩) (fun i j h0 h1 _ h2 h3 _ e => rk_inj hs h0 (by omega) h2 (by omega) (by omega))
  have h2 := cnt_del (P := fun _ => True) (a := r) n.toNat hr (by omega) trivial
  omega
/-- ranks and places of a text -/
def SA (s : Int → Int) (n : Int) (pl ra : Int → Int) : Prop := ∀ p, 0 ≤ p → p < n → ra p = rk s n p ∧ pl (rk s n p) = p
theorem SA.at {s : Int → Int} {n : Int} {pl ra : Int → Int} (hs : WS s n) (h : SA s n pl ra) {r : Int} (hr : 0 ≤ r) (hrn : r < n) : 0 ≤ pl r ∧ pl r < n ∧ (rk s n (pl r) : Int) = r ∧ ra (pl r) = r := by
  obtain ⟨p, h0, h1, h2⟩ := rk_sur hs hr hrn
  obtain ⟨h3, h4⟩ := h p h0 h1
  rw [h2] at h3 h4
  rw [h4]
  exact ⟨h0, h1, h2, h3⟩
theorem SA.lt {s : Int → Int} {n : Int} {pl ra : Int → Int} (hs : WS s n) (h : SA s n pl ra) {i j : Int} (hi : 0 ≤ i) (hij : i < j) (hj : j < n) : EL (en s n) (en s n) (pl i) (pl j) := by
  obtain ⟨a1, a2, a3, -⟩ := h.at hs hi (show i < n by omega)
  obtain ⟨b1, b2, b3, -⟩ := h.at hs (show 0 ≤ j by omega) hj
  exact (rk_iff hs a1 a2 b1 b2).mpr (by omega)
theorem SA.ne {s : Int → Int} {n : Int} {pl ra : Int → Int} (hs : WS s n) (h : SA s n pl ra) {i j : Int} (hi : 0 ≤ i) (hin : i < n) (hj : 0 ≤ j) (hjn : j < n) (hij : i ≠ j) : pl i ≠ pl j := by
  intro e
  obtain ⟨a1, a2, a3, -⟩ := h.at hs hi hin
  obtain ⟨b1, b2, b3, -⟩ := h.at hs hj hjn
  rw [e] at a3
  omega
/-- unlike ends of a text agree as far as what they have in common -/
theorem le_LcE {s : Int → Int} {n p q : Int} (hs : WS s n) (hp : 0 ≤ p) (hpn : p < n) (hq : 0 ≤ q) (hqn : q < n) (hne : p ≠ q) {k : Nat} : k ≤ Lc s n s n p q ↔ AG (en s n) (en s n) p q k := by
  rw [le_Lc (by omega) (by omega)]
  constructor
  · intro ⟨h1, h2, h3⟩ i hi
    rw [en_lt (by omega), en_lt (by omega)]
    exact h3 i hi
  · intro h
    have hb : p + k ≤ n ∧ q + k ≤ n := by
      rcases Int.lt_or_gt_of_ne hne with h1 | h1
      · have : ¬ (n - q).toNat < k := by
          intro z
          have h2 := h _ z
          rw [en_ge (i := q + ((n - q).toNat : Int)) (by omega)] at h2
          have := (en_m1 hs (by omega)).mp h2
          omega
        omega
      · have : ¬ (n - p).toNat < k := by
          intro z
          have h2 := h _ z
          rw [en_ge (i := p + ((n - p).toNat : Int)) (by omega)] at h2
          have := (en_m1 hs (by omega)).mp h2.symm
          omega
        omega
    refine ⟨hb.1, hb.2, fun i hi => ?_⟩
    have := h i hi
    rw [en_lt (by omega), en_lt (by omega)] at this
    exact this
/-- between two rows that agree so far a third one agrees, too -/
theorem AG_mid {x y z : Int → Int} {p q r : Int} {k : Nat} (h1 : EL x y p q) (h2 : EL y z q r) (h : AG x z p r k) : AG x y p q k := by
  rcases AG_or (x := x) (y := y) (p := p) (q := q) k with h3 | ⟨j, j1, j2, j3⟩
  · exact h3
  · exfalso
    obtain ⟨a, a1, a2⟩ := h1
    have ha : a = j := by
      rcases Nat.lt_trichotomy a j with w | w | w
      · have := j2 a w
        omega
      · exact w
      · exact absurd (a1 j w) j3
    subst ha
    have h4 : EL z y r q := ⟨a, ((h.mono (by omega)).sym).trans j2, by rw [← h a j1]; exact a2⟩
    exact EL.asymm h2 h4
theorem Lc_min {s : Int → Int} {n a b c : Int} (hs : WS s n) (ha : 0 ≤ a) (han : a < n) (hb : 0 ≤ b) (hbn : b < n) (hc : 0 ≤ c) (hcn : c < n) (h1 : EL (en s n) (en s n) a b) (h2 : EL (en s n) (en s n) b c) : Lc s n s n a c = min (Lc s n s n a b) (Lc s n s n b c) := by
  have n1 : a ≠ b := fun e => by subst e; exact EL.irrefl h1
  have n2 : b ≠ c := fun e => by subst e; exact EL.irrefl h2
  have n3 : a ≠ c := fun e => by subst e; exact EL.asymm h1 h2
  apply Nat.le_antisymm
  · have h3 := (le_LcE hs ha han hc hcn n3).mp (Nat.le_refl (Lc s n s n a c))
    have h4 := AG_mid h1 h2 h3
    have h5 : AG (en s n) (en s n) b c (Lc s n s n a c) := h4.sym.trans h3
    exact Nat.le_min.mpr ⟨(le_LcE hs ha han hb hbn n1).mpr h4, (le_LcE hs hb hbn hc hcn n2).mpr h5⟩
  · refine (le_LcE hs ha han hc hcn n3).mpr ?_
    have h3 := (le_LcE hs ha han hb hbn n1).mp (Nat.min_le_left (Lc s n s n a b) (Lc s n s n b c))
    have h4 := (le_LcE hs hb hbn hc hcn n2).mp (Nat.min_le_right (Lc s n s n a b) (Lc s n s n b c))
    exact h3.trans h4
/-- common beginnings of neighbours -/
def CM (s : Int → Int) (n : Int) (pl cm : Int → Int) : Prop := ∀ r, 0 ≤ r → r < n → cm r = if r = 0 then 0 else (Lc s n s n (pl (r - 1)) (pl r) : Int)
theorem CM.range {s : Int → Int} {n : Int} {pl ra cm : Int → Int} (hs : WS s n) (h : SA s n pl ra) (hc : CM s n pl cm) {i : Int} (hi : 0 ≤ i) : ∀ (d : Nat), i + d + 1 < n → ∀ k : Nat, k ≤ Lc s n s n (pl i) (pl (i + d + 1)) ↔ ∀ t, i < t → t ≤ i + d + 1 → (k : Int) ≤ cm t
  | 0, hd, k => by
    have e := hc (i + 1) (by omega) (by omega)
    rw [if_neg (by omega), show i + 1 - 1 = i by omega] at e
    rw [show i + ((0 : Nat) : Int) + 1 = i + 1 by omega]
    constructor
    · intro h1 t h2 h3
      rw [show t = i + 1 by omega, e]
      omega
    · intro h1
      have := h1 (i + 1) (by omega) (by omega)
      rw [e] at this
      omega
  | d + 1, hd, k => by
    have ih := CM.range hs h hc hi d (by omega) k
    have e := hc (i + d + 2) (by omega) (by omega)
    rw [if_neg (by omega), show i + (d : Int) + 2 - 1 = i + d + 1 by omega] at e
    obtain ⟨a1, a2, -, -⟩ := h.at hs hi (show i < n by omega)
    obtain ⟨b1, b2, -, -⟩ := h.at hs (show 0 ≤ i + (d : Int) + 1 by omega) (by omega)
    obtain ⟨c1, c2, -, -⟩ := h.at hs (show 0 ≤ i + (d : Int) + 2 by omega) (by omega)
    have hm := Lc_min hs a1 a2 b1 b2 c1 c2 (h.lt hs hi (show i < i + (d : Int) + 1 by omega) (by omega)) (h.lt hs (by omega) (show i + (d : Int) + 1 < i + d + 2 by omega) (by omega))
    rw [show i + ((d + 1 : Nat) : Int) + 1 = i + d + 2 by omega, hm, Nat.le_min, ih]
    constructor
    · intro ⟨h1, h2⟩ t h3 h4
      by_cases ht : t = i + d + 2
      · rw [ht, e]
        omega
      · exact h1 t h3 (by omega)
    · intro h1
      refine ⟨fun t h3 h4 => h1 t h3 (by omega), ?_⟩
      have := h1 (i + d + 2) (by omega) (by omega)
      rw [e] at this
      omega

