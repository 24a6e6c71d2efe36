variable {WM : List (Nat × Nat)} {wd : Bool}
/-! A SIGN PUT AHEAD, TURNED ROWS, THE LAST COLUMN -/
theorem cnt_shift (P : Int → Prop) : ∀ m : Nat, cnt P (m + 1) = @ite Nat (P 0) (Classical.propDecidable (P 0)) 1 0 + cnt (fun i => P (i + 1)) m
  | 0 => by
    by_cases h : P 0
    · rw [cnt_t (P := P) (m := 0) h, if_pos h]
      rfl
    · rw [cnt_f (P := P) (m := 0) h, if_neg h]
      rfl
  | m + 1 => by
    have ih := cnt_shift P m
    by_cases h : P ((m + 1 : Nat) : Int)
    · rw [cnt_t h, ih, cnt_t (P := fun i => P (i + 1)) (m := m) (by exact h)]
      omega
    · rw [cnt_f h, ih, cnt_f (P := fun i => P (i + 1)) (m := m) (by exact h)]
/-- y is x without its first sign -/
theorem EL_tail {x y : Int → Int} {n : Nat} (h : ∀ i, 0 ≤ i → i < (n : Int) → y i = x (i + 1)) {p q : Int} (hp : 0 ≤ p) (hq : 0 ≤ q) : EL (en x ((n + 1 : Nat) : Int)) (en x ((n + 1 : Nat) : Int)) (p + 1) (q + 1) ↔ EL (en y n) (en y n) p q := by
  have e : ∀ i, 0 ≤ i → en x ((n + 1 : Nat) : Int) (i + 1) = en y n i := fun i i0 => by
    by_cases z : i < n
    · rw [en_lt (by omega), en_lt z, h i i0 z]
    · rw [en_ge (by omega), en_ge (by omega)]
  constructor
  · intro ⟨k, k1, k2⟩
    refine ⟨k, fun i hi => ?_, ?_⟩
    · have := k1 i hi
      rw [show p + 1 + (i : Int) = p + i + 1 by omega, show q + 1 + (i : Int) = q + i + 1 by omega, e _ (by omega), e _ (by omega)] at this
      exact this
    · rw [show p + 1 + (k : Int) = p + k + 1 by omega, show q + 1 + (k : Int) = q + k + 1 by omega, e _ (by omega), e _ (by omega)] at k2
      exact k2
  · intro ⟨k, k1, k2⟩
    refine ⟨k, fun i hi => ?_, ?_⟩
    · rw [show p + 1 + (i : Int) = p + i + 1 by omega, show q + 1 + (i : Int) = q + i + 1 by omega, e _ (by omega), e _ (by omega)]
      exact k1 i hi
    · rw [show p + 1 + (k : Int) = p + k + 1 by omega, show q + 1 + (k : Int) = q + k + 1 by omega, e _ (by omega), e _ (by omega)]
      exact k2
theorem rk_tail {x y : Int → Int} {n : Nat} (hx : WS x ((n + 1 : Nat) : Int)) (h : ∀ i, 0 ≤ i → i < (n : Int) → y i = x (i + 1)) {p : Int} (hp : 0 ≤ p) (hpn : p < n) : (rk x ((n + 1 : Nat) : Int) (p + 1) : Int) = rk y n p + @ite Int (rk x ((n + 1 : Nat) : Int) 0 < rk x ((n + 1 : Nat) : Int) (p + 1)) (Classical.propDecidable _) 1 0 := by
  have e : rk x ((n + 1 : Nat) : Int) (p + 1) = @ite Nat (EL (en x ((n + 1 : Nat) : Int)) (en x ((n + 1 : Nat) : Int)) 0 (p + 1)) (Classical.propDecidable _) 1 0 + rk y n p := by
    unfold rk
    rw [show (((n + 1 : Nat) : Int)).toNat = n + 1 by omega, cnt_shift, Int.toNat_natCast]
    rw [cnt_congr n (P := fun i => EL (en x ((n + 1 : Nat) : Int)) (en x ((n + 1 : Nat) : Int)) (i + 1) (p + 1)) (Q := fun i => EL (en y n) (en y n) i p) (fun i i0 i1 => EL_tail h i0 hp)]
  have e2 := rk_iff hx (p := 0) (q := p + 1) (by omega) (by omega) (by omega) (by omega)
  by_cases z : EL (en x ((n + 1 : Nat) : Int)) (en x ((n + 1 : Nat) : Int)) 0 (p + 1)
  · rw [if_pos z] at e
    rw [if_pos (e2.mp z)]
    omega
  · rw [if_neg z] at e
    rw [if_neg (fun y => z (e2.mpr y))]
    omega
/-- how many ends move -/
theorem mvd {x y pl ra : Int → Int} {n : Nat} (hx : WS x ((n + 1 : Nat) : Int)) (h : ∀ i, 0 ≤ i → i < (n : Int) → y i = x (i + 1)) (hSA : SA x ((n + 1 : Nat) : Int) pl ra) : (cnt (fun p => (rk y n p : Int) ≠ rk x ((n + 1 : Nat) : Int) (p + 1)) n : Int) = n - rk x ((n + 1 : Nat) : Int) 0 := by
  have b0 := rk_bd (s := x) (n := ((n + 1 : Nat) : Int)) (p := 0) (by omega) (by omega)
  have e1 : cnt (fun p => (rk y n p : Int) ≠ rk x ((n + 1 : Nat) : Int) (p + 1)) n = cnt (fun p => (rk x ((n + 1 : Nat) : Int) 0 : Int) < rk x ((n + 1 : Nat) : Int) (p + 1)) n := cnt_congr n (fun p p0 p1 => by
    have := rk_tail hx h p0 p1
    by_cases z : rk x ((n + 1 : Nat) : Int) 0 < rk x ((n + 1 : Nat) : Int) (p + 1)
    · rw [if_pos z] at this
      exact ⟨fun _ => by omega, fun _ => by omega⟩
    · rw [if_neg z] at this
      exact ⟨fun y => by omega, fun y => by omega⟩)
  rw [e1]
  have e2 := cnt_shift (fun p => (rk x ((n + 1 : Nat) : Int) 0 : Int) < rk x ((n + 1 : Nat) : Int) p) n
  rw [if_neg (by omega), Nat.zero_add] at e2
  rw [← e2]
  have hp := SA.perm hx hSA
  have e3 := cnt_perm (P := fun p => (rk x ((n + 1 : Nat) : Int) 0 : Int) < rk x ((n + 1 : Nat) : Int) p) (b := pl) (n := n + 1) hp.1 hp.2
  rw [← e3, cnt_congr (n + 1) (Q := fun r => ((rk x ((n + 1 : Nat) : Int) 0 + 1 : Nat) : Int) ≤ r) (fun r r0 r1 => by
    have := (hSA.at hx r0 r1).2.2.1
    omega), cnt_ge (by omega)]
  omega
/-! the turned rows -/
/-- a place's row among the turned rows -/
noncomputable def rk1 (s : Int → Int) (n : Nat) (p : Int) : Nat := cnt (fun o => EL (en s n) (en s n) o p) (n + 1)
/-- a row's place -/
def tp (n : Nat) (pl : Int → Int) (r : Int) : Int := if r = 0 then n else pl (r - 1)
/-- a sign of the last column -/
def LSg (s : Int → Int) (n : Nat) (pl : Int → Int) (r : Int) : Int := if tp n pl r = 0 then 36 else s (tp n pl r - 1)
/-- the signs going round, the end sign among them -/
def ar (s : Int → Int) (n : Nat) (i : Int) : Int := if i % (n + 1) = n then 36 else s (i % (n + 1))
theorem EL_end {s : Int → Int} {n : Nat} (hs : WS s n) {p : Int} (hp : 0 ≤ p) : ¬ EL (en s n) (en s n) p n := fun ⟨k, k1, k2⟩ => by
  rw [en_ge (i := (n : Int) + k) (by omega)] at k2
  have := en_ge1 hs (i := p + k) (by omega)
  omega
theorem EL_ofEnd {s : Int → Int} {n : Nat} (hs : WS s n) {p : Int} (hp : 0 ≤ p) (hpn : p < n) : EL (en s n) (en s n) n p := ⟨0, fun i hi => absurd hi (Nat.not_lt_zero i), by
  have := hs p hp hpn
  rw [en_ge (by omega), en_lt (by omega)]
  simp
  omega⟩
theorem rk1_end {s : Int → Int} {n : Nat} (hs : WS s n) : rk1 s n n = 0 := cnt_zero (fun i i0 i1 => EL_end hs i0)
theorem rk1_at {s : Int → Int} {n : Nat} (hs : WS s n) {p : Int} (hp : 0 ≤ p) (hpn : p < n) : rk1 s n p = rk s n p + 1 := by
  unfold rk1
  rw [cnt_t (P := fun o => EL (en s n) (en s n) o p) (m := n) (EL_ofEnd hs hp hpn)]
  rfl
theorem rk1_bd {s : Int → Int} {n : Nat} (hs : WS s n) {p : Int} (hp : 0 ≤ p) (hpn : p ≤ n) : (rk1 s n p : Int) ≤ n := by
  by_cases e : p = n
  · rw [e, rk1_end hs]; omega
  · rw [rk1_at hs hp (by omega)]
    have := rk_bd (s := s) (n := n) hp (by omega)
    omega
theorem tp_rk1 {s pl ra : Int → Int} {n : Nat} (hs : WS s n) (h : SA s n pl ra) {p : Int} (hp : 0 ≤ p) (hpn : p ≤ n) : tp n pl (rk1 s n p) = p := by
  unfold tp
  by_cases e : p = n
  · rw [e, rk1_end hs, if_pos (show ((0 : Nat) : Int) = 0 from rfl)]
  · rw [rk1_at hs hp (by omega), if_neg (by omega), show ((rk s n p + 1 : Nat) : Int) - 1 = rk s n p by omega]
    exact (h p hp (by omega)).2
theorem rk1_tp {s pl ra : Int → Int} {n : Nat} (hs : WS s n) (h : SA s n pl ra) {r : Int} (hr : 0 ≤ r) (hrn : r ≤ n) : 0 ≤ tp n pl r ∧ tp n pl r ≤ n ∧ (rk1 s n (tp n pl r) : Int) = r := by
  unfold tp
  by_cases e : r = 0
  · rw [if_pos e, rk1_end hs]; omega
  · rw [if_neg e]
    obtain ⟨a0, a1, a2, -⟩ := h.at hs (r := r - 1) (by omega) (by omega)
    rw [rk1_at hs a0 a1]
    omega
theorem LS_ty {s pl ra : Int → Int} {n : Nat} (hs : WS s n) (h : SA s n pl ra) {r : Int} (hr : 0 ≤ r) (hrn : r ≤ n) : LSg s n pl r = 36 ∨ 97 ≤ LSg s n pl r ∧ LSg s n pl r ≤ 122 := by
  obtain ⟨a0, a1, -⟩ := rk1_tp hs h hr hrn
  unfold LSg
  by_cases e : tp n pl r = 0
  · exact Or.inl (if_pos e)
  · rw [if_neg e]
    exact Or.inr (hs _ (by omega) (by omega))
theorem ar_at {s : Int → Int} {n : Nat} {i : Int} (h0 : 0 ≤ i) (h1 : i ≤ n) : ar s n i = if i = n then 36 else s i := by
  unfold ar
  rw [Int.emod_eq_of_lt h0 (by omega)]
theorem ar_last {s pl ra : Int → Int} {n : Nat} (hs : WS s n) (h : SA s n pl ra) {r : Int} (hr : 0 ≤ r) (hrn : r ≤ n) : ar s n (tp n pl r + n) = LSg s n pl r := by
  obtain ⟨a0, a1, -⟩ := rk1_tp hs h hr hrn
  unfold LSg
  by_cases e : tp n pl r = 0
  · rw [if_pos e, e, Int.zero_add, ar_at (by omega) (by omega), if_pos rfl]
  · rw [if_neg e]
    unfold ar
    have e2 : (tp n pl r + n) % ((n : Int) + 1) = tp n pl r - 1 := by
      rw [show tp n pl r + (n : Int) = tp n pl r - 1 + (n + 1) by omega, Int.add_emod_right]
      exact Int.emod_eq_of_lt (by omega) (by omega)
    rw [e2, if_neg (by omega)]
/-- turned rows are in the order of the ends -/
theorem turn_EL {s : Int → Int} {n : Nat} (hs : WS s n) {p q : Int} (hp : 0 ≤ p) (hpn : p ≤ n) (hq : 0 ≤ q) (hqn : q ≤ n) : (∃ k : Nat, (k : Int) ≤ n ∧ (∀ i : Nat, i < k → ar s n (p + i) = ar s n (q + i)) ∧ ar s n (p + k) < ar s n (q + k)) ↔ EL (en s n) (en s n) p q := by
  by_cases hne : p = q
  · subst hne
    exact ⟨fun ⟨k, k0, k1, k2⟩ => by omega, fun h => absurd h EL.irrefl⟩
  have conv : ∀ i, 0 ≤ i → i ≤ (n : Int) → (ar s n i = 36 ↔ i = n) ∧ (i < n → ar s n i = en s n i ∧ 97 ≤ en s n i) ∧ (i = n → en s n i = -1) := by
    intro i i0 i1
    rw [ar_at i0 i1]
    by_cases z : i = n
    · rw [if_pos z]
      exact ⟨⟨fun _ => z, fun _ => rfl⟩, fun y => by omega, fun _ => en_ge (by omega)⟩
    · have := hs i i0 (by omega)
      rw [if_neg z, en_lt (by omega)]
      exact ⟨⟨fun y => by omega, fun y => absurd y z⟩, fun _ => ⟨rfl, this.1⟩, fun y => absurd y z⟩
  have hK : ∀ K : Nat, (∀ i : Nat, i < K → ar s n (p + i) = ar s n (q + i)) → p + K ≤ n ∧ q + K ≤ n := by
    intro K hK
    rcases Int.lt_or_gt_of_ne hne with z | z
    · have : ¬ (n - q).toNat < K := by
        intro y
        have h1 := hK _ y
        have c1 := (conv (q + ((n - q).toNat : Int)) (by omega) (by omega)).1
        have c2 := (conv (p + ((n - q).toNat : Int)) (by omega) (by omega)).1
        rw [← h1] at c1
        omega
      omega
    · have : ¬ (n - p).toNat < K := by
        intro y
        have h1 := hK _ y
        have c1 := (conv (p + ((n - p).toNat : Int)) (by omega) (by omega)).1
        have c2 := (conv (q + ((n - p).toNat : Int)) (by omega) (by omega)).1
        rw [h1] at c1
        omega
      omega
  have hL : ∀ K : Nat, AG (en s n) (en s n) p q K → p + K ≤ n ∧ q + K ≤ n := by
    intro K hK
    rcases Int.lt_or_gt_of_ne hne with z | z
    · have : ¬ (n - q).toNat < K := by
        intro y
        have h1 := hK _ y
        have c1 := (conv (q + ((n - q).toNat : Int)) (by omega) (by omega)).2.2 (by omega)
        have c2 := (conv (p + ((n - q).toNat : Int)) (by omega) (by omega)).2.1 (by omega)
        omega
      omega
    · have : ¬ (n - p).toNat < K := by
        intro y
        have h1 := hK _ y
        have c1 := (conv (p + ((n - p).toNat : Int)) (by omega) (by omega)).2.2 (by omega)
        have c2 := (conv (q + ((n - p).toNat : Int)) (by omega) (by omega)).2.1 (by omega)
        omega
      omega
  constructor
  · intro ⟨k, k0, k1, k2⟩
    obtain ⟨b1, b2⟩ := hK k k1
    refine ⟨k, fun i hi => ?_, ?_⟩
    · have h1 := k1 i hi
      have c1 := conv (p + i) (by omega) (by omega)
      have c2 := conv (q + i) (by omega) (by omega)
      have := (c1.2.1 (by omega)).1
      have := (c2.2.1 (by omega)).1
      omega
    · have c1 := conv (p + k) (by omega) (by omega)
      have c2 := conv (q + k) (by omega) (by omega)
      by_cases y : p + k = n
      · have := c1.2.2 y
        have := (c2.2.1 (by omega)).2
        omega
      · have d1 := c1.2.1 (by omega)
        by_cases y2 : q + k = n
        · have := c2.1.mpr y2
          omega
        · have d2 := c2.2.1 (by omega)
          omega
  · intro ⟨k, k1, k2⟩
    obtain ⟨b1, b2⟩ := hL k k1
    refine ⟨k, by omega, fun i hi => ?_, ?_⟩
    · have h1 := k1 i hi
      have c1 := conv (p + i) (by omega) (by omega)
      have c2 := conv (q + i) (by omega) (by omega)
      have := (c1.2.1 (by omega)).1
      have := (c2.2.1 (by omega)).1
      omega
    · have c1 := conv (p + k) (by omega) (by omega)
      have c2 := conv (q + k) (by omega) (by omega)
      by_cases y2 : q + k = n
      · have := c2.2.2 y2
        have := en_ge1 hs (i := p + k) (by omega)
        omega
      · have d2 := c2.2.1 (by omega)
        by_cases y : p + k = n
        · have := c1.1.mpr y
          omega
        · have d1 := c1.2.1 (by omega)
          omega

