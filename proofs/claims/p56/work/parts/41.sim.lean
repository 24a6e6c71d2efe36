variable {WM : List (Nat × Nat)} {wd : Bool}
/-! THE CLASS AND THE MODEL SIDE BY SIDE -/
theorem en_congr {s s' : Int → Int} {n i : Int} (h : ∀ i, 0 ≤ i → i < n → s i = s' i) (hi : 0 ≤ i) : en s n i = en s' n i := by
  unfold en
  by_cases e : i < n
  · rw [if_pos e, if_pos e]
    exact h i hi e
  · rw [if_neg e, if_neg e]
theorem AG_congr {x x' y y' : Int → Int} {p q : Int} {k : Nat} (hx : ∀ i, 0 ≤ i → x i = x' i) (hy : ∀ i, 0 ≤ i → y i = y' i) (hp : 0 ≤ p) (hq : 0 ≤ q) : AG x y p q k ↔ AG x' y' p q k := by
  constructor
  · intro h i hi
    rw [← hx (p + i) (by omega), ← hy (q + i) (by omega)]
    exact h i hi
  · intro h i hi
    rw [hx (p + i) (by omega), hy (q + i) (by omega)]
    exact h i hi
theorem EL_congr {x x' y y' : Int → Int} {p q : Int} (hx : ∀ i, 0 ≤ i → x i = x' i) (hy : ∀ i, 0 ≤ i → y i = y' i) (hp : 0 ≤ p) (hq : 0 ≤ q) : EL x y p q ↔ EL x' y' p q := by
  constructor
  · intro ⟨k, h1, h2⟩
    exact ⟨k, (AG_congr hx hy hp hq).mp h1, by rw [← hx (p + k) (by omega), ← hy (q + k) (by omega)]; exact h2⟩
  · intro ⟨k, h1, h2⟩
    exact ⟨k, (AG_congr hx hy hp hq).mpr h1, by rw [hx (p + k) (by omega), hy (q + k) (by omega)]; exact h2⟩
theorem rk_congr {s s' : Int → Int} {n p : Int} (h : ∀ i, 0 ≤ i → i < n → s i = s' i) (hp : 0 ≤ p) : rk s n p = rk s' n p := by
  unfold rk
  exact cnt_congr _ fun i i0 _ => EL_congr (fun j hj => en_congr h hj) (fun j hj => en_congr h hj) i0 hp
theorem Lc_congr {s s' t t' : Int → Int} {n m p q : Int} (h : ∀ i, 0 ≤ i → i < n → s i = s' i) (h' : ∀ i, 0 ≤ i → i < m → t i = t' i) (hp : 0 ≤ p) (hpn : p ≤ n) (hq : 0 ≤ q) (hqm : q ≤ m) : Lc s n t m p q = Lc s' n t' m p q := by
  unfold Lc
  refine lc_eq fun k => ⟨fun ⟨h1, h2⟩ => ⟨h1, fun i hi => ?_⟩, fun ⟨h1, h2⟩ => ⟨h1, fun i hi => ?_⟩⟩
  · rw [← h (p + i) (by omega) (by omega), ← h' (q + i) (by omega) (by omega)]
    exact h2 i hi
  · rw [h (p + i) (by omega) (by omega), h' (q + i) (by omega) (by omega)]
    exact h2 i hi
theorem WS.congr {s s' : Int → Int} {n : Int} (h : WS s n) (e : ∀ i, 0 ≤ i → i < n → s i = s' i) : WS s' n := fun i i0 i1 => by
  rw [← e i i0 i1]
  exact h i i0 i1
theorem SA.congr {s s' : Int → Int} {n : Int} {pl ra : Int → Int} (h : SA s n pl ra) (e : ∀ i, 0 ≤ i → i < n → s i = s' i) : SA s' n pl ra := fun p p0 p1 => by
  rw [← rk_congr e p0]
  exact h p p0 p1
theorem cmv_congr {s s' : Int → Int} {n : Int} {pl pl' : Int → Int} (e : ∀ i, 0 ≤ i → i < n → s i = s' i) (hp : ∀ r, 0 ≤ r → r < n → 0 ≤ pl r ∧ pl r < n ∧ pl r = pl' r) {r : Int} (hr : 0 ≤ r) (hrn : r < n) : cmv s n pl r = cmv s' n pl' r := by
  unfold cmv
  by_cases z : r = 0
  · rw [if_pos z, if_pos z]
  · rw [if_neg z, if_neg z]
    have e1 := hp (r - 1) (by omega) (by omega)
    have e2 := hp r hr hrn
    rw [← e1.2.2, ← e2.2.2]
    exact Lc_congr e e e1.1 (by omega) e2.1 (by omega)
/-- the number of a text's cell -/
def ta (t : Int) : Nat := 32 + 5 * t.toNat
theorem ta_isT {t : Int} (h0 : 0 ≤ t) (h1 : t < 8) : isT (ta t) := isT_of h0 h1
/-- cells of the shelf that calls which ask only keep -/
def SIMcell (d : Nat) : Prop := d = 0 ∨ d = 2 ∨ d = 3 ∨ (32 ≤ d ∧ d ≤ 71) ∨ 72 ≤ d
/-- a text of the class -/
def TXT (h : Hh) (t : Int) : Prop := (0 ≤ h (ta t) 4 ∧ h (ta t) 4 ≤ 64 ∧ True) ∧ WS (h (ta t + 1)) (h (ta t) 4) ∧ True ∧ SA (h (ta t + 1)) (h (ta t) 4) (h (ta t + 2)) (h (ta t + 3)) ∧ ∀ r, 0 ≤ r → r < h (ta t) 4 → h (ta t + 4) r = cmv (h (ta t + 1)) (h (ta t) 4) (h (ta t + 2)) r
/-- what holds of the class between two calls -/
def SIM (h : Hh) : Prop := (0 ≤ h 0 9 ∧ h 0 9 ≤ 8 ∧ True) ∧ (0 ≤ h 2 1 ∧ h 2 1 ≤ 65 ∧ True) ∧ (∀ k, 0 ≤ k → k < h 2 1 → True ∧ (h 3 k = 36 ∨ 97 ≤ h 3 k ∧ h 3 k ≤ 122)) ∧ (∀ t, 0 ≤ t → t < h 0 9 → TXT h t) ∧ ∀ t, h 0 9 ≤ t → t < 8 → h (ta t) 4 = 0
theorem TXT.keep {h h' : Hh} {t : Int} (hT : TXT h t) (e : ∀ k, k < 5 → h' (ta t + k) = h (ta t + k)) : TXT h' t := by
  have x0 := e 0 (by omega)
  rw [Nat.add_zero] at x0
  unfold TXT at hT ⊢
  rw [x0, e 1 (by omega), e 2 (by omega), e 3 (by omega), e 4 (by omega)]
  exact hT
theorem SIM.keep {h h' : Hh} (hS : SIM h) (hf : ∀ d, d = 0 ∨ d = 2 ∨ d = 3 ∨ (32 ≤ d ∧ d ≤ 71) → h' d = h d) : SIM h' := by
  have e0 : h' 0 = h 0 := hf 0 (Or.inl rfl)
  have e2 : h' 2 = h 2 := hf 2 (Or.inr (Or.inl rfl))
  have e3 : h' 3 = h 3 := hf 3 (Or.inr (Or.inr (Or.inl rfl)))
  have et : ∀ t k, t < 8 → k < 5 → h' (ta t + k) = h (ta t + k) := fun t k ht hk => hf _ (Or.inr (Or.inr (Or.inr (by unfold ta; omega))))
  obtain ⟨a1, b1, c1, d1, f1⟩ := hS
  have a2 := a1.2.1
  refine ⟨by rw [e0]; exact a1, by rw [e2]; exact b1, by rw [e2, e3]; exact c1, fun t t0 t1 => ?_, fun t t0 t1 => ?_⟩
  · rw [e0] at t1
    exact (d1 t t0 t1).keep (fun k hk => et t k (by omega) hk)
  · rw [e0] at t0
    have x0 := et t 0 t1 (by omega)
    rw [Nat.add_zero] at x0
    rw [x0]
    exact f1 t t0 t1
theorem SIM.row {h h' : Hh} (hS : SIM h) (hf : ∀ d, d = 0 ∨ (32 ≤ d ∧ d ≤ 71) → h' d = h d) (hm0 : 0 ≤ h' 2 1) (hm : h' 2 1 ≤ 65) (hr : ∀ k, 0 ≤ k → k < h' 2 1 → h' 3 k = 36 ∨ 97 ≤ h' 3 k ∧ h' 3 k ≤ 122) : SIM h' := by
  have e0 : h' 0 = h 0 := hf 0 (Or.inl rfl)
  have et : ∀ t k, t < 8 → k < 5 → h' (ta t + k) = h (ta t + k) := fun t k ht hk => hf _ (Or.inr (by unfold ta; omega))
  obtain ⟨a1, -, -, d1, f1⟩ := hS
  have a2 := a1.2.1
  refine ⟨by rw [e0]; exact a1, ⟨hm0, hm, trivial⟩, fun k k0 k1 => ⟨trivial, hr k k0 k1⟩, fun t t0 t1 => ?_, fun t t0 t1 => ?_⟩
  · rw [e0] at t1
    exact (d1 t t0 t1).keep (fun k hk => et t k (by omega) hk)
  · rw [e0] at t0
    have x0 := et t 0 t1 (by omega)
    rw [Nat.add_zero] at x0
    rw [x0]
    exact f1 t t0 t1
