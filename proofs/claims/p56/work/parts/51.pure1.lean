variable {WM : List (Nat × Nat)} {wd : Bool}
/-! FIRSTS, CLASSES, SUMS -/
theorem first_of {P : Int → Prop} : ∀ (d : Nat) (o : Int), o = d → P o → ∃ q, 0 ≤ q ∧ q ≤ o ∧ P q ∧ ∀ r, 0 ≤ r → r < q → ¬ P r := by
  intro d
  induction d using Nat.strongRecOn with
  | ind d ih =>
    intro o ho hp
    by_cases h : ∃ r, 0 ≤ r ∧ r < o ∧ P r
    · obtain ⟨r, r0, r1, r2⟩ := h
      obtain ⟨q, q0, q1, q2, q3⟩ := ih r.toNat (by omega) r (by omega) r2
      exact ⟨q, q0, by omega, q2, q3⟩
    · exact ⟨o, by omega, Int.le_refl o, hp, fun r r0 r1 r2 => h ⟨r, r0, r1, r2⟩⟩
theorem first_ex {P : Int → Prop} {o : Int} (h0 : 0 ≤ o) (h : P o) : ∃ q, 0 ≤ q ∧ q ≤ o ∧ P q ∧ ∀ r, 0 ≤ r → r < q → ¬ P r := first_of o.toNat o (by omega) h
theorem cnt_first {c : Int → Int} {φ : Int → Prop} {n C : Nat} (h1 : ∀ o, 0 ≤ o → o < (n : Int) → φ (c o) → 0 ≤ c o ∧ c o < C) (h2 : ∀ v, 0 ≤ v → v < (C : Int) → φ v → ∃ o, 0 ≤ o ∧ o < (n : Int) ∧ c o = v) : cnt (fun o => (∀ q, 0 ≤ q → q < o → c q ≠ c o) ∧ φ (c o)) n = cnt φ C := by
  have hg : ∀ v : Int, ∃ o : Int, 0 ≤ v → v < (C : Int) → φ v → 0 ≤ o ∧ o < (n : Int) ∧ c o = v ∧ ∀ q, 0 ≤ q → q < o → c q ≠ v := by
    intro v
    by_cases h : 0 ≤ v ∧ v < (C : Int) ∧ φ v
    · obtain ⟨o, o0, o1, o2⟩ := h2 v h.1 h.2.1 h.2.2
      obtain ⟨q, q0, q1, q2, q3⟩ := first_ex (P := fun o => c o = v) o0 o2
      exact ⟨q, fun _ _ _ => ⟨q0, by omega, q2, q3⟩⟩
    · exact ⟨0, fun a b d => absurd ⟨a, b, d⟩ h⟩
  obtain ⟨g, hg⟩ := Classical.skolem.mp hg
  apply Nat.le_antisymm
  · refine cnt_inj c n (fun i i0 i1 hi => ⟨(h1 i i0 i1 hi.2).1, (h1 i i0 i1 hi.2).2, hi.2⟩) (fun i j i0 i1 hi j0 j1 hj e => ?_)
    rcases Int.lt_trichotomy i j with h | h | h
    · exact absurd e (hj.1 i i0 h)
    · exact h
    · exact absurd e.symm (hi.1 j j0 h)
  · refine cnt_inj g C (fun v v0 v1 hv => ?_) (fun v w v0 v1 hv w0 w1 hw e => ?_)
    · obtain ⟨a, b, d, e⟩ := hg v v0 v1 hv
      exact ⟨a, b, by rw [d]; exact e, by rw [d]; exact hv⟩
    · have e1 := (hg v v0 v1 hv).2.2.1
      have e2 := (hg w w0 w1 hw).2.2.1
      rw [← e1, ← e2, e]
/-- the counts go up by ones -/
theorem cnt_sur {P : Int → Prop} {v : Nat} : ∀ m : Nat, v < cnt P m → ∃ r : Nat, r < m ∧ P r ∧ cnt P r = v
  | 0, h => absurd h (Nat.not_lt_zero _)
  | m + 1, h => by
    by_cases hv : v < cnt P m
    · obtain ⟨r, r0, r1⟩ := cnt_sur m hv
      exact ⟨r, by omega, r1⟩
    · by_cases hp : P m
      · rw [cnt_t hp] at h
        exact ⟨m, by omega, hp, by omega⟩
      · rw [cnt_f hp] at h
        exact absurd h hv
theorem cnt_same {P : Int → Prop} {i : Nat} : ∀ d : Nat, (cnt P i = cnt P (i + d) ↔ ∀ t : Int, (i : Int) ≤ t → t < (i : Int) + d → ¬ P t)
  | 0 => ⟨fun _ t h0 h1 => by omega, fun _ => rfl⟩
  | d + 1 => by
    have ih := cnt_same (P := P) (i := i) d
    have up := cnt_up (P := P) (show i ≤ i + d by omega)
    rw [← Nat.add_assoc]
    by_cases hp : P ((i + d : Nat) : Int)
    · rw [cnt_t hp]
      exact ⟨fun h => by omega, fun h => absurd hp (h _ (by omega) (by omega))⟩
    · rw [cnt_f hp, ih]
      constructor
      · intro h t h0 h1
        by_cases e : t = ((i + d : Nat) : Int)
        · rw [e]; exact hp
        · exact h t h0 (by omega)
      · intro h t h0 h1
        exact h t h0 (by omega)
/-- what the commons tell of two ranks -/
theorem cmv_range {s pl ra : Int → Int} {n : Nat} (hs : WS s n) (h : SA s n pl ra) {i j : Int} (hi : 0 ≤ i) (hij : i < j) (hj : j < n) {k : Nat} : AG (en s n) (en s n) (pl i) (pl j) k ↔ ∀ t, i < t → t ≤ j → k ≤ cmv s n pl t := by
  have e : i + ((j - i - 1).toNat : Int) + 1 = j := by omega
  have h1 := CM.range (cm := fun r => (cmv s n pl r : Int)) hs h (fun r r0 r1 => by
    unfold cmv
    dsimp only
    by_cases z : r = 0
    · rw [if_pos z, if_pos z]; rfl
    · rw [if_neg z, if_neg z]) hi (j - i - 1).toNat (by omega) k
  rw [e] at h1
  obtain ⟨a0, a1, -, -⟩ := h.at hs hi (show i < n by omega)
  obtain ⟨b0, b1, -, -⟩ := h.at hs (show 0 ≤ j by omega) hj
  rw [← le_LcE hs a0 a1 b0 b1 (h.ne hs hi (by omega) (by omega) hj (by omega)), h1]
  exact ⟨fun w t t0 t1 => by have := w t t0 t1; omega, fun w t t0 t1 => by have := w t t0 t1; omega⟩
/-- how many ranks below m open a class by k signs -/
noncomputable def Uc (s : Int → Int) (n : Int) (pl : Int → Int) (k : Nat) (m : Nat) : Nat := cnt (fun r => cmv s n pl r < k) m
theorem cmv_0 {s pl : Int → Int} {n : Int} : cmv s n pl 0 = 0 := if_pos rfl
theorem Uc_pos {s pl : Int → Int} {n : Int} {k m : Nat} (hk : 0 < k) (hm : 0 < m) : 0 < Uc s n pl k m := cnt_pos (a := 0) (by omega) (by omega) (by rw [cmv_0]; exact hk)
/-- the class of a place -/
noncomputable def cno (s : Int → Int) (n : Int) (pl : Int → Int) (k : Nat) (p : Int) : Int := (Uc s n pl k (rk s n p + 1) : Int) - 1
theorem Uc_ag {s pl ra : Int → Int} {n : Nat} (hs : WS s n) (h : SA s n pl ra) {k i j : Nat} (hij : i ≤ j) (hj : j < n) : Uc s n pl k (i + 1) = Uc s n pl k (j + 1) ↔ AG (en s n) (en s n) (pl i) (pl j) k := by
  by_cases e : i = j
  · subst e
    exact ⟨fun _ => AG.refl _ _ _, fun _ => rfl⟩
  · rw [cmv_range hs h (by omega) (show (i : Int) < j by omega) (by omega)]
    unfold Uc
    rw [show j + 1 = i + 1 + (j - i) by omega, cnt_same]
    constructor
    · intro w t t0 t1
      have := w t (by omega) (by omega)
      omega
    · intro w t t0 t1
      have := w t (by omega) (by omega)
      omega
theorem cno_ag {s pl ra : Int → Int} {n : Nat} (hs : WS s n) (h : SA s n pl ra) {k : Nat} {p q : Int} (hp : 0 ≤ p) (hpn : p < n) (hq : 0 ≤ q) (hqn : q < n) : cno s n pl k p = cno s n pl k q ↔ AG (en s n) (en s n) p q k := by
  have e1 := (h p hp hpn).2
  have e2 := (h q hq hqn).2
  have b1 := rk_bd (s := s) (n := n) hp hpn
  have b2 := rk_bd (s := s) (n := n) hq hqn
  unfold cno
  rcases Nat.le_total (rk s n p) (rk s n q) with z | z
  · have := Uc_ag hs h (k := k) z (by omega)
    rw [e1, e2] at this
    rw [← this]
    omega
  · have := Uc_ag hs h (k := k) z (by omega)
    rw [e1, e2] at this
    constructor
    · intro y
      exact (this.mp (by omega)).sym
    · intro y
      have := this.mpr y.sym
      omega
theorem Uc_up {s pl : Int → Int} {n : Int} {k i j : Nat} (h : i ≤ j) : Uc s n pl k i ≤ Uc s n pl k j := cnt_up h
theorem cno_lt {s pl ra : Int → Int} {n : Nat} (hs : WS s n) (h : SA s n pl ra) {k : Nat} {p q : Int} (hp : 0 ≤ p) (hpn : p < n) (hq : 0 ≤ q) (hqn : q < n) : cno s n pl k p < cno s n pl k q ↔ ELk (en s n) k p q := by
  have ag := cno_ag hs h (k := k) hp hpn hq hqn
  constructor
  · intro z
    have hn : ¬ AG (en s n) (en s n) p q k := fun y => by have := ag.mpr y; omega
    refine ELk.of ((rk_iff hs hp hpn hq hqn).mpr ?_) hn
    apply Nat.lt_of_not_le
    intro y
    have := Uc_up (s := s) (n := n) (pl := pl) (k := k) (show rk s n q + 1 ≤ rk s n p + 1 by omega)
    unfold cno at z
    omega
  · intro z
    have h1 := (rk_iff hs hp hpn hq hqn).mp z.el
    have := Uc_up (s := s) (n := n) (pl := pl) (k := k) (show rk s n p + 1 ≤ rk s n q + 1 by omega)
    have h2 : ¬ cno s n pl k p = cno s n pl k q := fun y => z.nag (ag.mp y)
    unfold cno at h2 ⊢
    omega
theorem cno_bd {s pl : Int → Int} {n : Nat} {k : Nat} (hk : 0 < k) {p : Int} (hp : 0 ≤ p) (hpn : p < n) : 0 ≤ cno s n pl k p ∧ cno s n pl k p < Uc s n pl k n := by
  have b1 := rk_bd (s := s) (n := n) hp hpn
  have h1 := Uc_pos (s := s) (n := n) (pl := pl) (k := k) (m := rk s n p + 1) hk (by omega)
  have h2 := Uc_up (s := s) (n := n) (pl := pl) (k := k) (show rk s n p + 1 ≤ n by omega)
  unfold cno
  omega
theorem cno_sur {s pl ra : Int → Int} {n : Nat} (hs : WS s n) (h : SA s n pl ra) {k : Nat} {m : Nat} (hm : m ≤ n) {v : Int} (hv : 0 ≤ v) (hvm : v < Uc s n pl k m) : ∃ o, 0 ≤ o ∧ o < (n : Int) ∧ cno s n pl k o = v ∧ rk s n o < m ∧ cmv s n pl (rk s n o) < k := by
  obtain ⟨r, r0, r1, r2⟩ := cnt_sur (P := fun r => cmv s n pl r < k) (v := v.toNat) m (by unfold Uc at hvm; omega)
  obtain ⟨a0, a1, a2, -⟩ := h.at hs (r := r) (by omega) (by omega)
  refine ⟨pl r, a0, a1, ?_, by omega, by rw [a2]; exact r1⟩
  unfold cno Uc
  rw [show rk s n (pl r) = r by omega, cnt_t r1, r2]
  omega
/-- a place ahead of which no end of the same class begins -/
def firstBy (s : Int → Int) (n : Int) (k : Nat) (p : Int) : Prop := ∀ q, 0 ≤ q → q < p → ¬ AG (en s n) (en s n) q p k
theorem firstBy_cno {s pl ra : Int → Int} {n : Nat} (hs : WS s n) (h : SA s n pl ra) {k : Nat} {p : Int} (hp : 0 ≤ p) (hpn : p < n) : firstBy s n k p ↔ ∀ q, 0 ≤ q → q < p → cno s n pl k q ≠ cno s n pl k p := by
  constructor
  · intro w q q0 q1 e
    exact w q q0 q1 ((cno_ag hs h q0 (by omega) hp hpn).mp e)
  · intro w q q0 q1 e
    exact w q q0 q1 ((cno_ag hs h q0 (by omega) hp hpn).mpr e)
theorem classOf_eq {s pl ra : Int → Int} {n : Nat} (hs : WS s n) (h : SA s n pl ra) {k : Nat} (hk : 0 < k) {p : Int} (hp : 0 ≤ p) (hpn : p < n) : (cnt (fun o => firstBy s n k o ∧ ELk (en s n) k o p) n : Int) = (Uc s n pl k (rk s n p + 1) : Int) - 1 := by
  have b := cno_bd (s := s) (pl := pl) hk hp hpn
  have hb := rk_bd (s := s) (n := n) hp hpn
  have e := cnt_first (c := cno s n pl k) (φ := fun v => v < cno s n pl k p) (n := n) (C := (cno s n pl k p).toNat) (fun o o0 o1 ho => ⟨(cno_bd hk o0 o1).1, by omega⟩) (fun v v0 v1 _ => by
    obtain ⟨o, o0, o1, o2, -⟩ := cno_sur hs h (k := k) (m := n) (by omega) v0 (by omega)
    exact ⟨o, o0, o1, o2⟩)
  have e2 := cnt_congr n (P := fun o => firstBy s n k o ∧ ELk (en s n) k o p) (Q := fun o => (∀ q, 0 ≤ q → q < o → cno s n pl k q ≠ cno s n pl k o) ∧ cno s n pl k o < cno s n pl k p) (fun o o0 o1 => by
    rw [firstBy_cno hs h o0 o1, cno_lt hs h o0 o1 hp hpn])
  rw [e2, e, cnt_true (fun i i0 i1 => by omega)]
  show ((cno s n pl k p).toNat : Int) = cno s n pl k p
  omega
theorem classes_eq {s pl ra : Int → Int} {n : Nat} (hs : WS s n) (h : SA s n pl ra) {k : Nat} (hk : 0 < k) : cnt (fun o => firstBy s n k o) n = Uc s n pl k n := by
  have e := cnt_first (c := cno s n pl k) (φ := fun v => True) (n := n) (C := Uc s n pl k n) (fun o o0 o1 ho => cno_bd hk o0 o1) (fun v v0 v1 _ => by
    obtain ⟨o, o0, o1, o2, -⟩ := cno_sur hs h (k := k) (m := n) (by omega) v0 (by omega)
    exact ⟨o, o0, o1, o2⟩)
  rw [cnt_true (P := fun _ => True) (fun _ _ _ => trivial)] at e
  rw [← e]
  exact cnt_congr n (fun o o0 o1 => by rw [firstBy_cno hs h o0 o1]; exact ⟨fun z => ⟨z, trivial⟩, fun z => z.1⟩)

