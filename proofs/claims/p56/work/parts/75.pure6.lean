variable {WM : List (Nat × Nat)} {wd : Bool}
/-! THE TEXT THAT COMES BACK FROM A LAST COLUMN -/
noncomputable def LFm (w : Int → Int) (m : Nat) (i : Int) : Nat := cnt (fun j => w j < w i ∨ w j = w i ∧ j < i) m
theorem LFm_eq (w : Int → Int) (m : Nat) (i : Int) : LFm w m i = rT (pT w (fun x => x)) m i := by
  unfold rT
  rw [Int.toNat_natCast]
  rfl
theorem LFm_bd {w : Int → Int} {m : Nat} {i : Int} (h0 : 0 ≤ i) (h1 : i < m) : (LFm w m i : Int) < m := by
  rw [LFm_eq]
  exact rT_bd (pT_sto w (fun x => x) m) h0 h1
theorem LFm_inj {w : Int → Int} {m : Nat} {i j : Int} (i0 : 0 ≤ i) (i1 : i < m) (j0 : 0 ≤ j) (j1 : j < m) (h : LFm w m i = LFm w m j) : i = j := by
  rw [LFm_eq, LFm_eq] at h
  exact rT_inj (pT_sto w (fun x => x) m) i0 i1 j0 j1 h
theorem LFm_lt {w : Int → Int} {m : Nat} {i j : Int} (i0 : 0 ≤ i) (i1 : i < m) (j0 : 0 ≤ j) (j1 : j < m) : LFm w m i < LFm w m j ↔ (w i < w j ∨ w i = w j ∧ i < j) := by
  rw [LFm_eq, LFm_eq]
  exact (rT_iff (pT_sto w (fun x => x) m) i0 i1 j0 j1).symm
/-- the walk from row to row -/
noncomputable def wk (w : Int → Int) (m : Nat) : Nat → Int
  | 0 => 0
  | j + 1 => LFm w m (wk w m j)
theorem wk_bd {w : Int → Int} {m : Nat} (hm : 0 < m) : ∀ j : Nat, 0 ≤ wk w m j ∧ wk w m j < m
  | 0 => ⟨Int.le_refl 0, by show (0 : Int) < m; omega⟩
  | j + 1 => by
    have := wk_bd (w := w) hm j
    exact ⟨by show 0 ≤ (LFm w m (wk w m j) : Int); omega, LFm_bd this.1 this.2⟩
theorem cnt_one {P : Int → Prop} {m : Nat} (h : cnt P m = 1) : ∃ z, 0 ≤ z ∧ z < (m : Int) ∧ P z ∧ ∀ i, 0 ≤ i → i < (m : Int) → P i → i = z := by
  obtain ⟨z, z0, z1, z2⟩ := cnt_ex (P := P) (m := m) (by omega)
  have d := cnt_del m z0 z1 z2
  refine ⟨z, z0, z1, z2, fun i i0 i1 i2 => ?_⟩
  apply Classical.byContradiction
  intro y
  have := cnt_pos (P := fun i => P i ∧ i ≠ z) i0 i1 ⟨i2, y⟩
  omega
theorem one_cnt {P : Int → Prop} {m : Nat} {z : Int} (z0 : 0 ≤ z) (z1 : z < m) (z2 : P z) (h : ∀ i, 0 ≤ i → i < (m : Int) → P i → i = z) : cnt P m = 1 := by
  have d := cnt_del m z0 z1 z2
  rw [cnt_zero (P := fun i => P i ∧ i ≠ z) (fun i i0 i1 y => y.2 (h i i0 i1 y.1))] at d
  omega
/-- the walk meets no end sign too early -/
def WOK (w : Int → Int) (n : Nat) : Prop := ∀ j : Nat, j < n → w (wk w (n + 1) j) ≠ 36
def tys (w : Int → Int) (m : Int) : Prop := ∀ i, 0 ≤ i → i < m → w i = 36 ∨ 97 ≤ w i ∧ w i ≤ 122
theorem EL_succ {s : Int → Int} {n : Nat} {p q : Int} (hp : p < n) (hq : q < n) : EL (en s n) (en s n) p q ↔ (s p < s q ∨ s p = s q ∧ EL (en s n) (en s n) (p + 1) (q + 1)) := by
  constructor
  · intro ⟨k, k1, k2⟩
    cases k with
    | zero =>
      left
      rw [show p + ((0 : Nat) : Int) = p by omega, show q + ((0 : Nat) : Int) = q by omega, en_lt hp, en_lt hq] at k2
      exact k2
    | succ k =>
      right
      have h0 := k1 0 (by omega)
      rw [show p + ((0 : Nat) : Int) = p by omega, show q + ((0 : Nat) : Int) = q by omega, en_lt hp, en_lt hq] at h0
      refine ⟨h0, k, ?_, ?_⟩
      · have := AG.shift 1 (k := k) (by rw [Nat.add_comm]; exact k1)
        exact this
      · rw [show p + 1 + (k : Int) = p + ((k + 1 : Nat) : Int) by omega, show q + 1 + (k : Int) = q + ((k + 1 : Nat) : Int) by omega]
        exact k2
  · intro h
    rcases h with h | ⟨h, k, k1, k2⟩
    · refine ⟨0, fun i hi => absurd hi (Nat.not_lt_zero i), ?_⟩
      rw [show p + ((0 : Nat) : Int) = p by omega, show q + ((0 : Nat) : Int) = q by omega, en_lt hp, en_lt hq]
      exact h
    · refine ⟨k + 1, AG.succ (by rw [en_lt hp, en_lt hq]; exact h) k1, ?_⟩
      rw [show p + ((k + 1 : Nat) : Int) = p + 1 + k by omega, show q + ((k + 1 : Nat) : Int) = q + 1 + k by omega]
      exact k2
/-- the walked text has the row as its last column -/
theorem bwt_back {w T pl ra : Int → Int} {n : Nat} (hw : tys w ((n + 1 : Nat) : Int)) (h1 : cnt (fun i => w i = 36) (n + 1) = 1) (hok : WOK w n) (hT : ∀ j : Nat, j < n → T ((n : Int) - 1 - j) = w (wk w (n + 1) j)) (hs : WS T n) (hSA : SA T n pl ra) : ∀ k, 0 ≤ k → k ≤ (n : Int) → LSg T n pl k = w k := by
  obtain ⟨z, z0, z1, z2, z3⟩ := cnt_one h1
  have hbd := fun j : Nat => wk_bd (w := w) (m := n + 1) (by omega) j
  have hLz : LFm w (n + 1) z = 0 := cnt_zero (fun i i0 i1 y => by
    rcases y with y | ⟨y, y2⟩
    · rw [z2] at y
      rcases hw i i0 i1 with v | v <;> omega
    · rw [z2] at y
      have := z3 i i0 i1 y
      omega)
  have hinj : ∀ i j : Nat, i < j → j ≤ n → wk w (n + 1) i ≠ wk w (n + 1) j := by
    intro i
    induction i with
    | zero =>
      intro j hj hjn e
      obtain ⟨l, rfl⟩ : ∃ l : Nat, j = l + 1 := ⟨j - 1, by omega⟩
      have e2 : (0 : Int) = LFm w (n + 1) (wk w (n + 1) l) := e
      have := LFm_inj (w := w) (m := n + 1) (hbd l).1 (hbd l).2 z0 z1 (by omega)
      exact hok l (by omega) (by rw [this]; exact z2)
    | succ i ih =>
      intro j hj hjn e
      obtain ⟨l, rfl⟩ : ∃ l : Nat, j = l + 1 := ⟨j - 1, by omega⟩
      have e2 : (LFm w (n + 1) (wk w (n + 1) i) : Int) = LFm w (n + 1) (wk w (n + 1) l) := e
      exact ih l (by omega) (by omega) (LFm_inj (w := w) (m := n + 1) (hbd i).1 (hbd i).2 (hbd l).1 (hbd l).2 (by omega))
  -- the row of a place
  let A : Int → Int := fun p => wk w (n + 1) ((n : Int) - p).toNat
  have A0 : ∀ p, 0 ≤ A p ∧ A p < ((n + 1 : Nat) : Int) := fun p => hbd _
  have An : A n = 0 := by show wk w (n + 1) ((n : Int) - n).toNat = 0; rw [show ((n : Int) - n).toNat = 0 by omega]; rfl
  have As : ∀ p, 0 ≤ p → p < (n : Int) → A p = LFm w (n + 1) (A (p + 1)) ∧ T p = w (A (p + 1)) := by
    intro p p0 p1
    have e : ((n : Int) - p).toNat = ((n : Int) - (p + 1)).toNat + 1 := by omega
    refine ⟨?_, ?_⟩
    · show wk w (n + 1) ((n : Int) - p).toNat = _
      rw [e]
      rfl
    · have := hT ((n : Int) - (p + 1)).toNat (by omega)
      rw [show (n : Int) - 1 - ((((n : Int) - (p + 1)).toNat : Nat) : Int) = p by omega] at this
      exact this
  have Ai : ∀ p q, 0 ≤ p → p ≤ (n : Int) → 0 ≤ q → q ≤ (n : Int) → A p = A q → p = q := by
    intro p q p0 p1 q0 q1 e
    rcases Nat.lt_trichotomy ((n : Int) - p).toNat ((n : Int) - q).toNat with y | y | y
    · exact absurd e (hinj _ _ y (by omega))
    · omega
    · exact absurd e.symm (hinj _ _ y (by omega))
  have Aprm : Prm (n + 1) A := ⟨fun i i0 i1 => A0 i, fun i j i0 i1 j0 j1 e => Ai i j i0 (by omega) j0 (by omega) e⟩
  have Az : A 0 = z := by
    obtain ⟨p, hp, e⟩ := Aprm.sur z0 z1
    by_cases y : p = 0
    · rw [y] at e; exact e
    · exfalso
      have := hok ((n : Int) - p).toNat (by omega)
      exact this (by show w (A p) = 36; rw [e]; exact z2)
  -- rows are in the order of the ends
  have ord : ∀ (k : Nat) (p q : Int), 0 ≤ p → p ≤ n → 0 ≤ q → q ≤ n → AG (en T n) (en T n) p q k → en T n (p + k) < en T n (q + k) → A p < A q := by
    intro k
    induction k with
    | zero =>
      intro p q p0 p1 q0 q1 hag hlt
      rw [show p + ((0 : Nat) : Int) = p by omega, show q + ((0 : Nat) : Int) = q by omega] at hlt
      by_cases y : q = n
      · rw [en_ge (i := q) (by omega)] at hlt
        have := en_ge1 hs p0
        omega
      · by_cases x : p = n
        · rw [x, An]
          have h2 := (A0 q).1
          have h3 : A q ≠ A n := fun e => y (Ai q n q0 q1 (by omega) (Int.le_refl _) e)
          rw [An] at h3
          omega
        · rw [en_lt (by omega), en_lt (by omega)] at hlt
          have a1 := As p p0 (by omega)
          have a2 := As q q0 (by omega)
          have := (LFm_lt (w := w) (m := n + 1) (A0 (p + 1)).1 (A0 (p + 1)).2 (A0 (q + 1)).1 (A0 (q + 1)).2).mpr (Or.inl (by rw [← a1.2, ← a2.2]; exact hlt))
          rw [a1.1, a2.1]
          omega
    | succ k ih =>
      intro p q p0 p1 q0 q1 hag hlt
      have h0 := hag 0 (by omega)
      rw [show p + ((0 : Nat) : Int) = p by omega, show q + ((0 : Nat) : Int) = q by omega] at h0
      by_cases x : p = n
      · have := (en_m1 hs q0).mp (by rw [← h0]; exact en_ge (by omega))
        rw [show p = q by omega] at hlt
        omega
      · by_cases y : q = n
        · have := (en_m1 hs p0).mp (by rw [h0]; exact en_ge (by omega))
          omega
        · rw [en_lt (by omega), en_lt (by omega)] at h0
          have a1 := As p p0 (by omega)
          have a2 := As q q0 (by omega)
          have hag2 : AG (en T n) (en T n) (p + 1) (q + 1) k := AG.shift 1 (by rw [Nat.add_comm]; exact hag)
          have := ih (p + 1) (q + 1) (by omega) (by omega) (by omega) (by omega) hag2 (by rw [show p + 1 + (k : Int) = p + ((k + 1 : Nat) : Int) by omega, show q + 1 + (k : Int) = q + ((k + 1 : Nat) : Int) by omega]; exact hlt)
          have := (LFm_lt (w := w) (m := n + 1) (A0 (p + 1)).1 (A0 (p + 1)).2 (A0 (q + 1)).1 (A0 (q + 1)).2).mpr (Or.inr ⟨by rw [← a1.2, ← a2.2]; exact h0, this⟩)
          rw [a1.1, a2.1]
          omega
  have ordi : ∀ p q, 0 ≤ p → p ≤ (n : Int) → 0 ≤ q → q ≤ (n : Int) → (EL (en T n) (en T n) p q ↔ A p < A q) := by
    intro p q p0 p1 q0 q1
    constructor
    · intro ⟨k, k1, k2⟩
      exact ord k p q p0 p1 q0 q1 k1 k2
    · intro h
      by_cases e : p = q
      · rw [e] at h; omega
      · have tri : EL (en T n) (en T n) p q ∨ EL (en T n) (en T n) q p := by
          by_cases x : p = n
          · rw [x]; exact Or.inl (EL_ofEnd hs q0 (by omega))
          · by_cases y : q = n
            · rw [y]; exact Or.inr (EL_ofEnd hs p0 (by omega))
            · exact en_tri hs p0 (by omega) q0 (by omega) e
        rcases tri with t | ⟨k, k1, k2⟩
        · exact t
        · have := ord k q p q0 q1 p0 p1 k1 k2
          omega
  have hrk : ∀ p, 0 ≤ p → p ≤ (n : Int) → (rk1 T n p : Int) = A p := by
    intro p p0 p1
    unfold rk1
    rw [cnt_congr (n + 1) (Q := fun o => A o < A p) (fun o o0 o1 => ordi o p o0 (by omega) p0 p1)]
    rw [cnt_perm (P := fun i => i < A p) (b := A) (n := n + 1) Aprm.1 Aprm.2]
    have hA := A0 p
    have := cnt_below (m := n + 1) (k := (A p).toNat) (by omega)
    rw [show (((A p).toNat : Nat) : Int) = A p by omega] at this
    rw [this]
    omega
  intro k k0 k1
  obtain ⟨p, hp, e⟩ := Aprm.sur k0 (show k < ((n + 1 : Nat) : Int) by omega)
  have e2 := hrk p (by omega) (by omega)
  have e3 := tp_rk1 hs hSA (p := p) (by omega) (by omega)
  rw [e2, e] at e3
  unfold LSg
  rw [e3]
  by_cases y : (p : Int) = 0
  · rw [if_pos y, ← e, y, Az, z2]
  · rw [if_neg y, (As ((p : Int) - 1) (by omega) (by omega)).2, show (p : Int) - 1 + 1 = p by omega, e]
/-- a last column has one end sign -/
theorem LSg_one {s pl ra : Int → Int} {n : Nat} (hs : WS s n) (h : SA s n pl ra) : cnt (fun i => LSg s n pl i = 36) (n + 1) = 1 := by
  have hb := rk1_bd hs (p := 0) (Int.le_refl 0) (by omega)
  refine one_cnt (z := rk1 s n 0) (by omega) (by omega) ?_ (fun i i0 i1 y => ?_)
  · unfold LSg
    rw [tp_rk1 hs h (Int.le_refl 0) (by omega), if_pos rfl]
  · obtain ⟨a0, a1, a2⟩ := rk1_tp hs h (r := i) i0 (by omega)
    unfold LSg at y
    by_cases e : tp n pl i = 0
    · rw [← a2, e]
    · rw [if_neg e] at y
      have := hs (tp n pl i - 1) (by omega) (by omega)
      omega
theorem LSg_rk1 {s pl ra : Int → Int} {n : Nat} (hs : WS s n) (h : SA s n pl ra) {p : Int} (hp : 0 ≤ p) (hpn : p ≤ n) : LSg s n pl (rk1 s n p) = if p = 0 then 36 else s (p - 1) := by
  unfold LSg
  rw [tp_rk1 hs h hp hpn]
theorem rk1_iff {s : Int → Int} {n : Nat} (hs : WS s n) {p q : Int} (hp : 0 ≤ p) (hpn : p ≤ n) (hq : 0 ≤ q) (hqn : q ≤ n) : EL (en s n) (en s n) p q ↔ rk1 s n p < rk1 s n q := by
  by_cases x : q = n
  · rw [x, rk1_end hs]
    exact ⟨fun y => absurd y (EL_end hs hp), fun y => by omega⟩
  · by_cases y : p = n
    · rw [y, rk1_end hs, rk1_at hs hq (by omega)]
      exact ⟨fun _ => by omega, fun _ => EL_ofEnd hs hq (by omega)⟩
    · rw [rk_iff hs hp (by omega) hq (by omega), rk1_at hs hp (by omega), rk1_at hs hq (by omega)]
      omega
/-- like signs stand in one order in the first and the last column -/
theorem LF_col {s pl ra : Int → Int} {n : Nat} (hs : WS s n) (h : SA s n pl ra) {p : Int} (hp : 0 ≤ p) (hpn : p ≤ n) : LFm (LSg s n pl) (n + 1) (rk1 s n p) = rk1 s n (wp n p) := by
  have prm1 : Prm (n + 1) (fun q => (rk1 s n q : Int)) := ⟨fun i i0 i1 => ⟨by show (0 : Int) ≤ (rk1 s n i : Int); omega, by show (rk1 s n i : Int) < _; have := rk1_bd hs i0 (show i ≤ n by omega); omega⟩, fun i j i0 i1 j0 j1 e => by
    have e1 := tp_rk1 hs h i0 (show i ≤ n by omega)
    have e2 := tp_rk1 hs h j0 (show j ≤ n by omega)
    dsimp only at e
    rw [e] at e1
    rw [← e1, e2]⟩
  have prm2 : Prm (n + 1) (wp n) := ⟨fun i i0 i1 => by unfold wp; by_cases e : i = 0; (rw [if_pos e]; omega); (rw [if_neg e]; omega), fun i j i0 i1 j0 j1 e => by
    unfold wp at e
    by_cases x : i = 0
    · by_cases y : j = 0
      · omega
      · rw [if_pos x, if_neg y] at e; omega
    · by_cases y : j = 0
      · rw [if_neg x, if_pos y] at e; omega
      · rw [if_neg x, if_neg y] at e; omega⟩
  unfold LFm
  rw [← cnt_perm (P := fun j => LSg s n pl j < LSg s n pl (rk1 s n p) ∨ LSg s n pl j = LSg s n pl (rk1 s n p) ∧ j < (rk1 s n p : Int)) prm1.1 prm1.2]
  rw [show rk1 s n (wp n p) = cnt (fun o => EL (en s n) (en s n) o (wp n p)) (n + 1) from rfl, ← cnt_perm (P := fun o => EL (en s n) (en s n) o (wp n p)) prm2.1 prm2.2]
  refine cnt_congr (n + 1) (fun q q0 q1 => ?_)
  rw [LSg_rk1 hs h q0 (by omega), LSg_rk1 hs h hp hpn]
  have ri := rk1_iff hs q0 (show q ≤ n by omega) hp hpn
  have ri2 : (rk1 s n q : Int) < rk1 s n p ↔ EL (en s n) (en s n) q p := by rw [ri]; omega
  rw [ri2]
  unfold wp
  by_cases x : p = 0
  · rw [if_pos x, if_pos x]
    refine ⟨fun y => ?_, fun y => ?_⟩
    · exfalso
      by_cases z : q = 0
      · rw [if_pos z, z, x] at y
        rcases y with y | y
        · omega
        · exact EL.irrefl y.2
      · rw [if_neg z] at y
        have := hs (q - 1) (by omega) (by omega)
        rcases y with y | y <;> omega
    · by_cases z : q = 0
      · rw [if_pos z] at y
        exact absurd y (EL_end hs (by omega))
      · rw [if_neg z] at y
        exact absurd y (EL_end hs (by omega))
  · rw [if_neg x, if_neg x]
    have sp := hs (p - 1) (by omega) (by omega)
    by_cases z : q = 0
    · rw [if_pos z, if_pos z]
      exact ⟨fun _ => EL_ofEnd hs (by omega) (by omega), fun _ => Or.inl (by omega)⟩
    · rw [if_neg z, if_neg z, EL_succ (p := q - 1) (q := p - 1) (by omega) (by omega), show q - 1 + 1 = q by omega, show p - 1 + 1 = p by omega]
theorem wk_col {s pl ra : Int → Int} {n : Nat} (hs : WS s n) (h : SA s n pl ra) : ∀ j : Nat, j ≤ n → wk (LSg s n pl) (n + 1) j = rk1 s n ((n : Int) - j)
  | 0, _ => by
    show (0 : Int) = _
    rw [show (n : Int) - ((0 : Nat) : Int) = n by omega, rk1_end hs]
    rfl
  | j + 1, hj => by
    have ih := wk_col hs h j (by omega)
    show (LFm (LSg s n pl) (n + 1) (wk (LSg s n pl) (n + 1) j) : Int) = _
    rw [ih, LF_col hs h (by omega) (by omega)]
    unfold wp
    rw [if_neg (by omega), show (n : Int) - j - 1 = n - ((j + 1 : Nat) : Int) by omega]
theorem col_walk {s pl ra : Int → Int} {n : Nat} (hs : WS s n) (h : SA s n pl ra) {j : Nat} (hj : j < n) : LSg s n pl (wk (LSg s n pl) (n + 1) j) = s ((n : Int) - 1 - j) := by
  rw [wk_col hs h j (by omega), LSg_rk1 hs h (by omega) (by omega), if_neg (by omega), show (n : Int) - j - 1 = n - 1 - j by omega]
theorem col_WOK {s pl ra : Int → Int} {n : Nat} (hs : WS s n) (h : SA s n pl ra) : WOK (LSg s n pl) n := fun j hj => by
  rw [col_walk hs h hj]
  have := hs ((n : Int) - 1 - j) (by omega) (by omega)
  omega

