variable {WM : List (Nat × Nat)} {wd : Bool}
/-! WORDS THAT STAND TWICE, WORDS THAT STAND ALONE -/
theorem AG_nb {s pl ra : Int → Int} {n : Nat} (hs : WS s n) (h : SA s n pl ra) {i j : Int} (hi : 0 ≤ i) (hin : i < n) (hj : 0 ≤ j) (hjn : j < n) (hne : i ≠ j) {k : Nat} (hag : AG (en s n) (en s n) (pl i) (pl j) k) : (i < j ∧ k ≤ cmv s n pl (i + 1) ∧ k ≤ cmv s n pl j) ∨ (j < i ∧ k ≤ cmv s n pl i ∧ k ≤ cmv s n pl (j + 1)) := by
  rcases Int.lt_or_gt_of_ne hne with z | z
  · have := (cmv_range hs h hi z hjn).mp hag
    exact Or.inl ⟨z, this _ (by omega) (by omega), this _ z (by omega)⟩
  · have := (cmv_range hs h hj z hin).mp hag.sym
    exact Or.inr ⟨z, this _ z (by omega), this _ (by omega) (by omega)⟩
theorem cmv_ag {s pl ra : Int → Int} {n : Nat} (hs : WS s n) (h : SA s n pl ra) {i : Int} (hi : 0 ≤ i) (hin : i + 1 < n) {k : Nat} (hk : k ≤ cmv s n pl (i + 1)) : AG (en s n) (en s n) (pl i) (pl (i + 1)) k :=
  (cmv_range hs h hi (by omega) hin).mpr fun t t0 t1 => by
    rw [show t = i + 1 by omega]
    exact hk
/-- whether an end has k signs in common with another one -/
def tw (s : Int → Int) (n : Nat) (k : Nat) (p : Int) : Prop := ∃ q, 0 ≤ q ∧ q < (n : Int) ∧ q ≠ p ∧ AG (en s n) (en s n) p q k
theorem tw_len {s : Int → Int} {n k : Nat} (hs : WS s n) {p : Int} (hp : 0 ≤ p) (hpn : p < n) (h : tw s n k p) : p + k ≤ n := by
  obtain ⟨q, q0, q1, q2, q3⟩ := h
  have h1 := (le_LcE hs hp hpn q0 q1 (Ne.symm q2)).mpr q3
  have h2 := Lc_1 (s := s) (t := s) (n := n) (m := n) (p := p) (q := q) (by omega) (by omega)
  omega
/-- one sign more than with either neighbour -/
def need (s : Int → Int) (n : Nat) (pl : Int → Int) (r : Int) : Nat := max (cmv s n pl r) (if r + 1 < n then cmv s n pl (r + 1) else 0) + 1
theorem tw_need {s pl ra : Int → Int} {n k : Nat} (hs : WS s n) (h : SA s n pl ra) (hk : 0 < k) {r : Int} (hr : 0 ≤ r) (hrn : r < n) : tw s n k (pl r) ↔ k < need s n pl r := by
  obtain ⟨a0, a1, a2, a3⟩ := h.at hs hr hrn
  unfold need
  constructor
  · intro ⟨q, q0, q1, q2, q3⟩
    have b := rk_bd (s := s) (n := n) q0 q1
    have e := (h q q0 q1).2
    rw [← e] at q3
    have hne : r ≠ rk s n q := fun y => q2 (by rw [← e, ← y])
    rcases AG_nb hs h hr hrn (by omega) b hne q3 with ⟨z, z1, z2⟩ | ⟨z, z1, z2⟩
    · rw [if_pos (by omega)]
      omega
    · omega
  · intro z
    by_cases y : k ≤ cmv s n pl r
    · have r0 : r ≠ 0 := fun e => by rw [e, cmv_0] at y; omega
      obtain ⟨b0, b1, -, -⟩ := h.at hs (r := r - 1) (by omega) (by omega)
      have := cmv_ag hs h (i := r - 1) (by omega) (by omega) (k := k) (by rw [show r - 1 + 1 = r by omega]; exact y)
      rw [show r - 1 + 1 = r by omega] at this
      exact ⟨pl (r - 1), b0, b1, h.ne hs (by omega) (by omega) hr hrn (by omega), this.sym⟩
    · by_cases w : r + 1 < n
      · rw [if_pos w] at z
        obtain ⟨b0, b1, -, -⟩ := h.at hs (r := r + 1) (by omega) (by omega)
        exact ⟨pl (r + 1), b0, b1, h.ne hs (by omega) (by omega) hr hrn (by omega), cmv_ag hs h hr w (by omega)⟩
      · rw [if_neg w] at z
        omega
/-- the first place of the least one of the words of k signs that stand twice -/
def TW (s : Int → Int) (n k : Nat) (p : Int) : Prop := 0 ≤ p ∧ p < n ∧ tw s n k p ∧ ∀ q, 0 ≤ q → q < (n : Int) → tw s n k q → ¬ ELk (en s n) k q p ∧ (AG (en s n) (en s n) q p k → p ≤ q)
theorem TW.uniq {s : Int → Int} {n k : Nat} {p q : Int} (hp : TW s n k p) (hq : TW s n k q) : p = q := by
  obtain ⟨a0, a1, a2, a3⟩ := hp
  obtain ⟨b0, b1, b2, b3⟩ := hq
  have c1 := a3 q b0 b1 b2
  have c2 := b3 p a0 a1 a2
  by_cases z : AG (en s n) (en s n) p q k
  · have := c1.2 z.sym
    have := c2.2 z
    omega
  · rcases ELk.tri z with y | y
    · exact absurd y c2.1
    · exact absurd y c1.1
theorem TW.of {s pl ra : Int → Int} {n k : Nat} (hs : WS s n) (h : SA s n pl ra) (hk : 0 < k) {r0 r1 E : Int} (h0 : 1 ≤ r0) (h01 : r0 < r1) (h1n : r1 ≤ n) (hlow : ∀ r, 1 ≤ r → r < r0 → cmv s n pl r < k) (hrun : ∀ r, r0 ≤ r → r < r1 → k ≤ cmv s n pl r) (hup : r1 < n → cmv s n pl r1 < k) (hE : ∃ r, r0 - 1 ≤ r ∧ r < r1 ∧ E = pl r) (hmin : ∀ r, r0 - 1 ≤ r → r < r1 → E ≤ pl r) : TW s n k E := by
  obtain ⟨e, e0, e1, rfl⟩ := hE
  obtain ⟨a0, a1, a2, a3⟩ := h.at hs (r := e) (by omega) (by omega)
  refine ⟨a0, a1, ?_, fun q q0 q1 q2 => ?_⟩
  · refine (tw_need hs h hk (by omega) (by omega)).mpr ?_
    unfold need
    by_cases z : r0 ≤ e
    · have := hrun e z e1
      omega
    · rw [if_pos (by omega)]
      have := hrun (e + 1) (by omega) (by omega)
      omega
  · have b := rk_bd (s := s) (n := n) q0 q1
    have eq := (h q q0 q1).2
    rw [← eq] at q2 ⊢
    have hn := (tw_need hs h hk (by omega) b).mp q2
    obtain ⟨j, hj⟩ : ∃ j : Int, j = rk s n q := ⟨_, rfl⟩
    rw [← hj] at hn b ⊢
    have j0 : 0 ≤ j := by omega
    have jn : j < n := b
    by_cases c1 : j < r0 - 1
    · exfalso
      unfold need at hn
      rw [if_pos (by omega)] at hn
      have l1 := hlow (j + 1) (by omega) (by omega)
      by_cases z : j = 0
      · rw [z, cmv_0] at hn
        rw [z] at l1
        omega
      · have := hlow j (by omega) (by omega)
        omega
    · have hag : j < r1 → AG (en s n) (en s n) (pl j) (pl e) k := by
        intro y
        rcases Int.lt_trichotomy j e with z | z | z
        · exact (cmv_range hs h j0 z (by omega)).mpr fun t t0 t1 => hrun t (by omega) (by omega)
        · rw [z]; exact AG.refl _ _ _
        · exact ((cmv_range hs h (by omega) z jn).mpr fun t t0 t1 => hrun t (by omega) (by omega)).sym
      by_cases y : j < r1
      · exact ⟨fun w => w.nag (hag y), fun _ => hmin j (by omega) y⟩
      · refine ⟨fun w => ?_, fun w => ?_⟩
        · exact EL.asymm w.el (h.lt hs (by omega) (by omega) jn)
        · have := (cmv_range hs h (by omega) (show e < j by omega) jn).mp w.sym r1 (by omega) (by omega)
          have := hup (by omega)
          omega
/-- the length of the longest word that stands twice, as pairs of places tell it -/
theorem LT_le {s pl ra : Int → Int} {n : Nat} (hs : WS s n) (h : SA s n pl ra) {p q : Int} (hp : 0 ≤ p) (hpn : p < n) (hq : 0 ≤ q) (hqn : q < n) (hne : p ≠ q) {L : Int} (hL : ∀ r, 0 ≤ r → r < (n : Int) → (cmv s n pl r : Int) ≤ L) : (Lc s n s n p q : Int) ≤ L := by
  have b1 := rk_bd (s := s) (n := n) hp hpn
  have b2 := rk_bd (s := s) (n := n) hq hqn
  have hag := (le_LcE hs hp hpn hq hqn hne).mp (Nat.le_refl _)
  rw [← (h p hp hpn).2, ← (h q hq hqn).2] at hag
  rw [(h p hp hpn).2, (h q hq hqn).2] at hag
  have hag2 : AG (en s n) (en s n) (pl (rk s n p)) (pl (rk s n q)) (Lc s n s n p q) := by
    rw [(h p hp hpn).2, (h q hq hqn).2]
    exact hag
  have hr : (rk s n p : Int) ≠ rk s n q := fun e => hne (rk_inj hs hp hpn hq hqn (by omega))
  rcases AG_nb hs h (by omega) b1 (by omega) b2 hr hag2 with ⟨z, z1, z2⟩ | ⟨z, z1, z2⟩
  · have := hL (rk s n q) (by omega) b2
    omega
  · have := hL (rk s n p) (by omega) b1
    omega
theorem LT_at {s pl ra : Int → Int} {n : Nat} (hs : WS s n) (h : SA s n pl ra) {r : Int} (hr : 0 ≤ r) (hrn : r < n) (h0 : 0 < cmv s n pl r) : ∃ p q, 0 ≤ p ∧ p < q ∧ q < (n : Int) ∧ Lc s n s n p q = cmv s n pl r := by
  have r0 : r ≠ 0 := fun e => by rw [e, cmv_0] at h0; omega
  obtain ⟨a0, a1, -, -⟩ := h.at hs (r := r - 1) (by omega) (by omega)
  obtain ⟨b0, b1, -, -⟩ := h.at hs hr hrn
  have hne := h.ne hs (i := r - 1) (j := r) (by omega) (by omega) hr hrn (by omega)
  have e : cmv s n pl r = Lc s n s n (pl (r - 1)) (pl r) := by unfold cmv; rw [if_neg r0]
  rcases Int.lt_or_gt_of_ne hne with z | z
  · exact ⟨_, _, a0, z, b1, e.symm⟩
  · exact ⟨_, _, b0, z, a1, by rw [e]; exact Lc_sym _ _ _ _ _ _⟩
/-- the shortest word that stands alone -/
def SH (s : Int → Int) (n : Nat) (pl : Int → Int) (S : Int) : Prop := (∀ r, 0 ≤ r → r < (n : Int) → pl r + need s n pl r ≤ n → S ≤ need s n pl r) ∧ ∃ r, 0 ≤ r ∧ r < (n : Int) ∧ pl r + need s n pl r ≤ n ∧ S = need s n pl r
theorem need_0 {s pl ra : Int → Int} {n : Nat} (hs : WS s n) (h : SA s n pl ra) (hn : 0 < n) : (need s n pl (rk s n 0) : Int) ≤ n := by
  have b := rk_bd (s := s) (n := n) (p := 0) (by omega) (by omega)
  have e := (h 0 (by omega) (by omega)).2
  apply Classical.byContradiction
  intro z
  have h2 := (tw_need hs h hn (r := rk s n 0) (by omega) b).mpr (by omega)
  rw [e] at h2
  obtain ⟨q, q0, q1, q2, q3⟩ := h2
  have h1 := (le_LcE hs (Int.le_refl 0) (by omega) q0 q1 (Ne.symm q2)).mpr q3
  have h2 := Lc_2 (s := s) (t := s) (n := n) (m := n) (p := 0) (q := q) (by omega) (by omega)
  omega
/-- a word that stands alone -/
def al (s : Int → Int) (n k : Nat) (p : Int) : Prop := 0 ≤ p ∧ p + k ≤ n ∧ ¬ tw s n k p
theorem al_need {s pl ra : Int → Int} {n k : Nat} (hs : WS s n) (h : SA s n pl ra) (hk : 0 < k) {p : Int} : al s n k p ↔ 0 ≤ p ∧ p + k ≤ n ∧ need s n pl (rk s n p) ≤ k := by
  unfold al
  constructor
  · intro ⟨h1, h2, h3⟩
    have b := rk_bd (s := s) (n := n) h1 (show p < n by omega)
    have e := tw_need hs h hk (r := rk s n p) (by omega) b
    rw [(h p h1 (by omega)).2] at e
    exact ⟨h1, h2, Nat.le_of_not_lt fun y => h3 (e.mpr y)⟩
  · intro ⟨h1, h2, h3⟩
    have b := rk_bd (s := s) (n := n) h1 (show p < n by omega)
    have e := tw_need hs h hk (r := rk s n p) (by omega) b
    rw [(h p h1 (by omega)).2] at e
    exact ⟨h1, h2, fun y => by have := e.mp y; omega⟩
theorem SH.low {s pl ra : Int → Int} {n k : Nat} {S : Int} (hs : WS s n) (h : SA s n pl ra) (hS : SH s n pl S) (hk : 0 < k) (hkS : (k : Int) < S) {p : Int} : ¬ al s n k p := by
  intro z
  obtain ⟨h1, h2, h3⟩ := (al_need hs h hk).mp z
  have b := rk_bd (s := s) (n := n) h1 (show p < n by omega)
  have := hS.1 (rk s n p) (by omega) b (by rw [(h p h1 (by omega)).2]; omega)
  omega
theorem SH.at {s pl ra : Int → Int} {n : Nat} {S : Int} (hs : WS s n) (h : SA s n pl ra) (hS : SH s n pl S) : 1 ≤ S ∧ S ≤ n ∧ (∃ p, al s n S.toNat p) ∧ ∀ p, al s n S.toNat p ↔ 0 ≤ p ∧ p + S ≤ n ∧ need s n pl (rk s n p) = S := by
  obtain ⟨h1, r, r0, r1, r2, r3⟩ := hS
  obtain ⟨a0, a1, a2, a3⟩ := h.at hs r0 r1
  have hp : 1 ≤ need s n pl r := by unfold need; omega
  have key : ∀ p, al s n S.toNat p ↔ 0 ≤ p ∧ p + S ≤ n ∧ need s n pl (rk s n p) = S := by
    intro p
    rw [al_need hs h (by omega)]
    constructor
    · intro ⟨z1, z2, z3⟩
      have b := rk_bd (s := s) (n := n) z1 (show p < n by omega)
      have := h1 (rk s n p) (by omega) b (by rw [(h p z1 (by omega)).2]; omega)
      exact ⟨z1, by omega, by omega⟩
    · intro ⟨z1, z2, z3⟩
      exact ⟨z1, by omega, by omega⟩
  refine ⟨by omega, by omega, ⟨pl r, (key _).mpr ⟨a0, by omega, by rw [a2]; omega⟩⟩, key⟩

