variable {WM : List (Nat × Nat)} {wd : Bool}
/-! SORTING THE ENDS -/
def Prm (n : Nat) (b : Int → Int) : Prop := (∀ i, 0 ≤ i → i < (n : Int) → 0 ≤ b i ∧ b i < n) ∧ ∀ i j, 0 ≤ i → i < (n : Int) → 0 ≤ j → j < (n : Int) → b i = b j → i = j
theorem Prm.sur {n : Nat} {b : Int → Int} (h : Prm n b) {r : Int} (h0 : 0 ≤ r) (h1 : r < n) : ∃ i : Nat, i < n ∧ b i = r := by
  obtain ⟨p, p0, p1, p2⟩ := inj_sur h.1 h.2 h0 h1
  exact ⟨p.toNat, by omega, by rw [Int.toNat_of_nonneg p0]; exact p2⟩
/-- what the counting sort leaves -/
theorem sorted_by {n : Nat} {c b pl : Int → Int} (hb : Prm n b) (hpl : ∀ i, 0 ≤ i → i < (n : Int) → pl (rT (pT c b) n i) = b i) : Prm n pl ∧ ∀ t t', 0 ≤ t → t < t' → t' < (n : Int) → ∃ i j, 0 ≤ i ∧ i < (n : Int) ∧ 0 ≤ j ∧ j < (n : Int) ∧ pl t = b i ∧ pl t' = b j ∧ pT c b i j := by
  have key : ∀ t, 0 ≤ t → t < (n : Int) → ∃ i, 0 ≤ i ∧ i < (n : Int) ∧ (rT (pT c b) n i : Int) = t ∧ pl t = b i := by
    intro t t0 t1
    obtain ⟨i, i0, i1, i2⟩ := rT_sur (pT_sto c b n) t0 t1
    have := hpl i i0 i1
    rw [i2] at this
    exact ⟨i, i0, i1, i2, this⟩
  refine ⟨⟨fun t t0 t1 => ?_, fun t u t0 t1 u0 u1 e => ?_⟩, fun t u t0 tu u1 => ?_⟩
  · obtain ⟨i, i0, i1, -, i3⟩ := key t t0 t1
    rw [i3]
    exact hb.1 i i0 i1
  · obtain ⟨i, i0, i1, i2, i3⟩ := key t t0 t1
    obtain ⟨j, j0, j1, j2, j3⟩ := key u u0 u1
    rw [i3, j3] at e
    have := hb.2 i j i0 i1 j0 j1 e
    subst this
    omega
  · obtain ⟨i, i0, i1, i2, i3⟩ := key t t0 (by omega)
    obtain ⟨j, j0, j1, j2, j3⟩ := key u (by omega) u1
    exact ⟨i, j, i0, i1, j0, j1, i3, j3, (rT_iff (pT_sto c b n) i0 i1 j0 j1).mpr (by omega)⟩
/-- pairs of keys, less -/
def KL (c : Int → Int) (n hf : Int) (p q : Int) : Prop := c p < c q ∨ c p = c q ∧ en c n (p + hf) < en c n (q + hf)
def KLE (c : Int → Int) (n hf : Int) (p q : Int) : Prop := c p < c q ∨ c p = c q ∧ en c n (p + hf) ≤ en c n (q + hf)
/-- a row sorted by a pair of keys: how the numbers of its changes compare -/
theorem chg_key {c pl : Int → Int} {n : Nat} {hf : Int} (hm : ∀ t t', 0 ≤ t → t < t' → t' < (n : Int) → KLE c n hf (pl t) (pl t')) {i m : Nat} (hj : i + m < n) : (chg (un c n hf) pl i = chg (un c n hf) pl (i + m) ↔ ¬ un c n hf (pl i) (pl ((i + m : Nat) : Int))) := by
  rw [chg_same m]
  constructor
  · intro h
    have key : ∀ d : Nat, d ≤ m → ¬ un c n hf (pl i) (pl ((i + d : Nat) : Int)) := by
      intro d
      induction d with
      | zero => exact fun _ z => z ⟨rfl, rfl⟩
      | succ d ih =>
        intro hd z
        have h1 := Classical.not_not.mp (ih (by omega))
        have h2 := Classical.not_not.mp (h (i + d) (by omega) (by omega))
        rw [show ((i + d : Nat) : Int) + 1 = ((i + (d + 1) : Nat) : Int) by omega] at h2
        exact z ⟨h1.1.trans h2.1, h1.2.trans h2.2⟩
    exact key m (Nat.le_refl m)
  · intro h t t0 t1 z
    have h := Classical.not_not.mp h
    have e1 : i = t ∨ KLE c n hf (pl i) (pl t) := by
      by_cases e : i = t
      · exact Or.inl e
      · exact Or.inr (hm i t (by omega) (by omega) (by omega))
    have e2 := hm t (t + 1) (by omega) (by omega) (by omega)
    have e3 : ((t : Int) + 1 = ((i + m : Nat) : Int)) ∨ KLE c n hf (pl ((t : Int) + 1)) (pl ((i + m : Nat) : Int)) := by
      by_cases e : (t : Int) + 1 = ((i + m : Nat) : Int)
      · exact Or.inl e
      · exact Or.inr (hm _ _ (by omega) (by omega) (by omega))
    apply z
    unfold KLE at e1 e2 e3
    rcases e1 with e1 | e1
    · subst e1
      rcases e3 with e3 | e3
      · rw [e3]
        exact h
      · omega
    · rcases e3 with e3 | e3
      · rw [e3] at e2 ⊢
        omega
      · omega
/-- places in order, classes that rise by one at most -/
def RowI (n : Nat) (pl c : Int → Int) (u : Nat) : Prop := Prm n pl ∧ (0 < n → c (pl 0) = 0) ∧ (∀ i m : Nat, i + m < n → c (pl i) ≤ c (pl ((i + m : Nat) : Int)) ∧ c (pl ((i + m : Nat) : Int)) ≤ c (pl i) + m) ∧ (u : Int) = if n = 0 then 0 else c (pl ((n : Int) - 1)) + 1
theorem RowI.prm {n : Nat} {pl c : Int → Int} {u : Nat} (h : RowI n pl c u) : Prm n pl := h.1
theorem RowI.z {n : Nat} {pl c : Int → Int} {u : Nat} (h : RowI n pl c u) : 0 < n → c (pl 0) = 0 := h.2.1
theorem RowI.up {n : Nat} {pl c : Int → Int} {u : Nat} (h : RowI n pl c u) : ∀ i m : Nat, i + m < n → c (pl i) ≤ c (pl ((i + m : Nat) : Int)) ∧ c (pl ((i + m : Nat) : Int)) ≤ c (pl i) + m := h.2.2.1
theorem RowI.u {n : Nat} {pl c : Int → Int} {u : Nat} (h : RowI n pl c u) : (u : Int) = if n = 0 then 0 else c (pl ((n : Int) - 1)) + 1 := h.2.2.2
theorem RowI.rg {n : Nat} {pl c : Int → Int} {u : Nat} (h : RowI n pl c u) {p : Int} (h0 : 0 ≤ p) (h1 : p < n) : 0 ≤ c p ∧ c p < n := by
  obtain ⟨i, i1, i2⟩ := h.prm.sur h0 h1
  have h2 := h.up 0 i (by omega)
  have h3 := h.z (by omega)
  rw [show ((0 + i : Nat) : Int) = i by omega, i2, show ((0 : Nat) : Int) = 0 from rfl, h3] at h2
  omega
theorem RowI.mono {n : Nat} {pl c : Int → Int} {u : Nat} (h : RowI n pl c u) {t t' : Int} (h0 : 0 ≤ t) (h1 : t ≤ t') (h2 : t' < n) : c (pl t) ≤ c (pl t') := by
  have := (h.up t.toNat (t' - t).toNat (by omega)).1
  rw [show ((t.toNat : Nat) : Int) = t by omega, show ((t.toNat + (t' - t).toNat : Nat) : Int) = t' by omega] at this
  exact this
/-- numbering the classes of a row that is sorted by two keys -/
theorem RowI.of {n : Nat} {pl c c' : Int → Int} {hf : Int} (hp : Prm n pl) (hm : ∀ t t', 0 ≤ t → t < t' → t' < (n : Int) → KLE c n hf (pl t) (pl t')) (hc : ∀ j : Nat, j < n → c' (pl j) = chg (un c n hf) pl j) : RowI n pl c' (if n = 0 then 0 else chg (un c n hf) pl (n - 1) + 1) ∧ ∀ p q, 0 ≤ p → p < (n : Int) → 0 ≤ q → q < (n : Int) → (c' p < c' q ↔ KL c n hf p q) ∧ (c' p = c' q ↔ ¬ un c n hf p q) := by
  have step : ∀ i m : Nat, chg (un c n hf) pl (i + m) ≤ chg (un c n hf) pl i + m := by
    intro i m
    induction m with
    | zero => exact Nat.le_refl _
    | succ m ih =>
      by_cases e : un c n hf (pl ((i + m : Nat) : Int)) (pl (((i + m : Nat) : Int) + 1))
      · have h1 : chg (un c n hf) pl (i + m + 1) = chg (un c n hf) pl (i + m) + 1 := cnt_t (P := fun t => un c n hf (pl t) (pl (t + 1))) e
        rw [show i + (m + 1) = i + m + 1 by omega, h1]
        omega
      · have h1 : chg (un c n hf) pl (i + m + 1) = chg (un c n hf) pl (i + m) := cnt_f (P := fun t => un c n hf (pl t) (pl (t + 1))) e
        rw [show i + (m + 1) = i + m + 1 by omega, h1]
        omega
  refine ⟨⟨hp, fun h => ?_, fun i m h => ?_, ?_⟩, ?_⟩
  · have := hc 0 h
    rw [show ((0 : Nat) : Int) = 0 from rfl] at this
    rw [this]
    rfl
  · rw [hc i (by omega), hc (i + m) h]
    have h1 := step i m
    have h2 := chg_up (d := un c n hf) (pl := pl) (show i ≤ i + m by omega)
    omega
  · by_cases h : n = 0
    · rw [if_pos h, if_pos h]
      rfl
    · rw [if_neg h, if_neg h]
      have := hc (n - 1) (by omega)
      rw [show ((n - 1 : Nat) : Int) = (n : Int) - 1 by omega] at this
      rw [this]
      omega
  · have key : ∀ i m : Nat, i + m < n → (c' (pl i) = c' (pl ((i + m : Nat) : Int)) ↔ ¬ un c n hf (pl i) (pl ((i + m : Nat) : Int))) ∧ c' (pl i) ≤ c' (pl ((i + m : Nat) : Int)) ∧ (m = 0 ∨ KLE c n hf (pl i) (pl ((i + m : Nat) : Int))) := by
      intro i m h
      rw [hc i (by omega), hc (i + m) h]
      have h2 := chg_up (d := un c n hf) (pl := pl) (show i ≤ i + m by omega)
      refine ⟨by rw [← chg_key hm h]; omega, by omega, ?_⟩
      by_cases e : m = 0
      · exact Or.inl e
      · exact Or.inr (hm _ _ (by omega) (by omega) (by omega))
    intro p q p0 p1 q0 q1
    obtain ⟨i, i1, rfl⟩ := hp.sur p0 p1
    obtain ⟨j, j1, rfl⟩ := hp.sur q0 q1
    rcases Nat.le_total i j with hij | hij
    · obtain ⟨k1, k2, k3⟩ := key i (j - i) (by omega)
      rw [show i + (j - i) = j by omega] at k1 k2 k3
      refine ⟨?_, k1⟩
      unfold un KL KLE at *
      rcases k3 with k3 | k3
      · have : i = j := by omega
        subst this
        omega
      · omega
    · obtain ⟨k1, k2, k3⟩ := key j (i - j) (by omega)
      rw [show j + (i - j) = i by omega] at k1 k2 k3
      unfold un KL KLE at *
      rcases k3 with k3 | k3
      · have : i = j := by omega
        subst this
        omega
      · refine ⟨by omega, ?_⟩
        constructor
        · intro z
          have := k1.mp z.symm
          omega
        · intro z
          exact (k1.mpr (by omega)).symm
/-- all classes unlike: they are the ranks -/
theorem RowI.done {s pl c : Int → Int} {n u k : Nat} (hs : WS s n) (h : RowI n pl c u) (hk : CK (en s n) n k c) (hu : n ≤ u ∨ n ≤ k) : SA s n pl c := by
  have hinj : ∀ p q, 0 ≤ p → p < (n : Int) → 0 ≤ q → q < (n : Int) → c p = c q → p = q := by
    intro p q p0 p1 q0 q1 e
    rcases hu with hu | hu
    · obtain ⟨i, i1, rfl⟩ := h.prm.sur p0 p1
      obtain ⟨j, j1, rfl⟩ := h.prm.sur q0 q1
      have hun := h.u
      rw [if_neg (by omega)] at hun
      have hz := h.z (by omega)
      have idx : ∀ i : Nat, i < n → c (pl i) = i := by
        intro i hi
        have h1 := h.up 0 i (by omega)
        have h2 := h.up i (n - 1 - i) (by omega)
        rw [show ((0 + i : Nat) : Int) = i by omega, show ((0 : Nat) : Int) = 0 from rfl, hz] at h1
        rw [show ((i + (n - 1 - i) : Nat) : Int) = (n : Int) - 1 by omega] at h2
        omega
      rw [idx i i1, idx j j1] at e
      rw [show i = j by omega]
    · apply Classical.byContradiction
      intro hne
      have h1 := (hk p q p0 p1 q0 q1).2.mp e
      have h2 := (le_LcE hs p0 p1 q0 q1 hne).mpr h1
      have h3 := Lc_1 (s := s) (t := s) (n := n) (m := n) (p := p) (q := q) (by omega) (by omega)
      have h4 := Lc_2 (s := s) (t := s) (n := n) (m := n) (p := p) (q := q) (by omega) (by omega)
      omega
  have hlt : ∀ p q, 0 ≤ p → p < (n : Int) → 0 ≤ q → q < (n : Int) → (EL (en s n) (en s n) p q ↔ c p < c q) := by
    intro p q p0 p1 q0 q1
    constructor
    · intro z
      refine (hk p q p0 p1 q0 q1).1.mpr (ELk.of z fun y => ?_)
      have := hinj p q p0 p1 q0 q1 ((hk p q p0 p1 q0 q1).2.mpr y)
      subst this
      exact EL.irrefl z
    · intro z
      exact ((hk p q p0 p1 q0 q1).1.mp z).el
  have hcp : Prm n c := ⟨fun p p0 p1 => h.rg p0 p1, hinj⟩
  have hrk : ∀ p, 0 ≤ p → p < (n : Int) → (rk s n p : Int) = c p := by
    intro p p0 p1
    have hb := h.rg p0 p1
    unfold rk
    rw [Int.toNat_natCast, cnt_congr n (Q := fun q => c q < c p) (fun q q0 q1 => hlt q p q0 q1 p0 p1), cnt_perm (P := fun v => v < c p) hcp.1 hcp.2]
    have := cnt_below (m := n) (k := (c p).toNat) (by omega)
    rw [Int.toNat_of_nonneg hb.1] at this
    rw [this]
    omega
  intro p p0 p1
  refine ⟨(hrk p p0 p1).symm, ?_⟩
  rw [hrk p p0 p1]
  obtain ⟨i, i1, rfl⟩ := h.prm.sur p0 p1
  have hz := h.z (by omega)
  have idx : c (pl i) = i := by
    -- strictly rising from 0 by one at most
    have h1 := h.up 0 i (by omega)
    rw [show ((0 + i : Nat) : Int) = i by omega, show ((0 : Nat) : Int) = 0 from rfl, hz] at h1
    have low : ∀ j : Nat, j < n → (j : Int) ≤ c (pl j) := by
      intro j
      induction j with
      | zero => intro hj; rw [show ((0 : Nat) : Int) = 0 from rfl, hz]; omega
      | succ j ih =>
        intro hj
        have h2 := ih (by omega)
        have h3 := h.up j 1 hj
        have e1 := h.prm.1 j (by omega) (by omega)
        have e2 := h.prm.1 (j + 1 : Nat) (by omega) (by omega)
        have h4 : c (pl j) ≠ c (pl ((j + 1 : Nat) : Int)) := fun e => by
          have := h.prm.2 j ((j + 1 : Nat) : Int) (by omega) (by omega) (by omega) (by omega) (hinj _ _ e1.1 e1.2 e2.1 e2.2 e)
          omega
        omega
    have := low i i1
    omega
  rw [idx]

