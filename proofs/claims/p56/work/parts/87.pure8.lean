variable {WM : List (Nat × Nat)} {wd : Bool}
/-! WHAT THE LAW'S CHECKS REST ON: rows that go back, rounds, runs, and a text that is turned round -/
theorem FSg_rk1 {s pl ra : Int → Int} {n : Nat} (hs : WS s n) (h : SA s n pl ra) {p : Int} (hp : 0 ≤ p) (hpn : p ≤ n) : FSg s pl (rk1 s n p) = if p = n then 36 else s p := by
  unfold FSg
  by_cases e : p = n
  · rw [if_pos e, e, rk1_end hs]
    exact if_pos rfl
  · have e2 := tp_rk1 hs h hp hpn
    unfold tp at e2
    have e1 := rk1_at hs hp (show p < n by omega)
    rw [if_neg (by omega)] at e2
    rw [if_neg (by omega), if_neg e, e2]
theorem EL_le {x y : Int → Int} {p q : Int} (h : EL x y p q) : x p ≤ y q := by
  obtain ⟨k, h1, h2⟩ := h
  cases k with
  | zero =>
    rw [show p + ((0 : Nat) : Int) = p by omega, show q + ((0 : Nat) : Int) = q by omega] at h2
    omega
  | succ k =>
    have := h1 0 (Nat.succ_pos k)
    rw [show p + ((0 : Nat) : Int) = p by omega, show q + ((0 : Nat) : Int) = q by omega] at this
    omega
theorem FSg_mono {s pl ra : Int → Int} {n : Nat} (hs : WS s n) (h : SA s n pl ra) {r : Int} (hr : 0 < r) (hrn : r ≤ n) : FSg s pl (r - 1) ≤ FSg s pl r := by
  unfold FSg
  obtain ⟨b0, b1, -, -⟩ := h.at hs (r := r - 1) (by omega) (by omega)
  have l1 := hs _ b0 b1
  rw [if_neg (show ¬ r = 0 by omega)]
  by_cases e : r - 1 = 0
  · rw [if_pos e]; omega
  · rw [if_neg e]
    obtain ⟨c0, c1, -, -⟩ := h.at hs (r := r - 1 - 1) (by omega) (by omega)
    have := EL_le (h.lt hs (i := r - 1 - 1) (j := r - 1) (by omega) (by omega) (by omega))
    rw [en_lt c1, en_lt b1] at this
    exact this
/-- the row from which one comes back -/
noncomputable def BK (s : Int → Int) (n : Nat) (pl : Int → Int) (r : Int) : Nat := rk1 s n (wp n (tp n pl r))
theorem BK_LF {s pl ra : Int → Int} {n : Nat} (hs : WS s n) (h : SA s n pl ra) {r : Int} (hr : 0 ≤ r) (hrn : r ≤ n) : BK s n pl r = LFm (LSg s n pl) (n + 1) r := by
  obtain ⟨a0, a1, a2⟩ := rk1_tp hs h hr hrn
  have := LF_col hs h a0 a1
  rw [a2] at this
  exact this.symm
theorem BK_lt {s pl ra : Int → Int} {n : Nat} (hs : WS s n) (h : SA s n pl ra) {i j : Int} (hi : 0 ≤ i) (hij : i < j) (hj : j ≤ n) (e : LSg s n pl i = LSg s n pl j) : BK s n pl i < BK s n pl j := by
  rw [BK_LF hs h hi (by omega), BK_LF hs h (by omega) hj]
  exact (LFm_lt hi (by omega) (by omega) (by omega)).mpr (Or.inr ⟨e, hij⟩)
theorem BK_bd {s pl ra : Int → Int} {n : Nat} (hs : WS s n) (h : SA s n pl ra) {r : Int} (hr : 0 ≤ r) (hrn : r ≤ n) : (BK s n pl r : Int) ≤ n := by
  obtain ⟨a0, a1, a2⟩ := rk1_tp hs h hr hrn
  have b := wp_rg a0 a1
  exact rk1_bd hs b.1 b.2
theorem FSg_BK {s pl ra : Int → Int} {n : Nat} (hs : WS s n) (h : SA s n pl ra) {r : Int} (hr : 0 ≤ r) (hrn : r ≤ n) : FSg s pl (BK s n pl r) = LSg s n pl r := by
  obtain ⟨a0, a1, a2⟩ := rk1_tp hs h hr hrn
  have b := wp_rg a0 a1
  unfold BK
  rw [FSg_rk1 hs h b.1 b.2]
  unfold LSg wp
  by_cases e : tp n pl r = 0
  · rw [if_pos e, if_pos e, if_pos rfl]
  · rw [if_neg e, if_neg e, if_neg (by omega)]
theorem BK_rk1 {s pl ra : Int → Int} {n : Nat} (hs : WS s n) (h : SA s n pl ra) {p : Int} (hp : 0 < p) (hpn : p ≤ n) : BK s n pl (rk1 s n p) = rk1 s n (p - 1) := by
  unfold BK
  rw [tp_rk1 hs h (by omega) hpn]
  unfold wp
  rw [if_neg (by omega)]
/-- words, by the common beginnings -/
theorem words_cm {s pl ra : Int → Int} {n : Nat} (hs : WS s n) (h : SA s n pl ra) : 2 * (sm (fr s n pl) n + sm (fun r => (cmv s n pl r : Int)) n) = (n : Int) * n + n := by
  have e1 : sm (fr s n pl) n = sm (fun r => ((n : Int) - pl r) - cmv s n pl r) n := sm_congr n fun i _ _ => rfl
  have e2 : sm (fun r => ((n : Int) - pl r) - cmv s n pl r) n = sm (fun r => (n : Int) - pl r) n - sm (fun r => (cmv s n pl r : Int)) n := sm_sub _ _ n
  have e3 : sm (fun r => (n : Int) - pl r) n = sm (fun p => (n : Int) - p) n := sm_SA hs h _
  have e4 : sm (fun p => (n : Int) - p) n = sm (fun _ => (n : Int)) n - sm (fun p => p) n := sm_sub _ _ n
  have e5 := sm_const (n : Int) n
  have e6 := sm_id n
  omega
/-- the rounds, counted up -/
theorem rdc_to {g : Int} {j : Nat} (h1 : ∀ i : Nat, i < j → ((2 ^ i : Nat) : Int) ≤ g) (h2 : g < ((2 ^ j : Nat) : Int)) : ∀ (d i : Nat), i ≤ j → j - i ≤ d → rdc g i d = j - i := by
  intro d
  induction d with
  | zero => intro i hi hd; show 0 = _; omega
  | succ d ih =>
    intro i hi hd
    by_cases e : i = j
    · rw [e]
      show (if ((2 ^ j : Nat) : Int) ≤ g then rdc g (j + 1) d + 1 else 0) = _
      rw [if_neg (by omega)]
      omega
    · show (if ((2 ^ i : Nat) : Int) ≤ g then rdc g (i + 1) d + 1 else 0) = _
      rw [if_pos (h1 i (by omega)), ih (i + 1) (by omega) (by omega)]
      omega
/-- a run of ranks is one, for words of like signs -/
theorem RUN.lo_uniq {s w w' pl : Int → Int} {n m lo hi lo' hi' : Nat} (h : RUN s w pl n 0 m lo hi) (h' : RUN s w' pl n 0 m lo' hi') (e : ∀ k, 0 ≤ k → k < (m : Int) → w k = w' k) (hlt : lo < hi) (hlt' : lo' < hi') : lo = lo' := by
  have hag : ∀ p : Int, AG (en s n) w p ((0 : Nat) : Int) m ↔ AG (en s n) w' p ((0 : Nat) : Int) m := fun p => by
    constructor
    · intro z i hi
      rw [← e (((0 : Nat) : Int) + i) (by omega) (by omega)]
      exact z i hi
    · intro z i hi
      rw [e (((0 : Nat) : Int) + i) (by omega) (by omega)]
      exact z i hi
  have b1 := h.2.1
  have b2 := h'.2.1
  have c1 := (h'.2.2.2 lo (by omega) (by omega)).mp ((hag _).mp ((h.2.2.2 lo (by omega) (by omega)).mpr ⟨by omega, by omega⟩))
  have c2 := (h.2.2.2 lo' (by omega) (by omega)).mp ((hag _).mpr ((h'.2.2.2 lo' (by omega) (by omega)).mpr ⟨by omega, by omega⟩))
  omega
theorem AG_end {s w : Int → Int} {n m : Nat} {p : Int} (hw : ∀ k, 0 ≤ k → k < (m : Int) → 97 ≤ w k ∧ w k ≤ 122) (m0 : 0 < m) (h : AG (en s n) w p 0 m) : p + m ≤ n := by
  apply Classical.byContradiction
  intro z
  have := h (m - 1) (by omega)
  rw [en_ge (by omega)] at this
  have := hw (0 + ((m - 1 : Nat) : Int)) (by omega) (by omega)
  omega
/-- a word's number lies among those of its least rank -/
theorem RUN.num {s w pl ra : Int → Int} {n m lo hi : Nat} (hs : WS s n) (hSA : SA s n pl ra) (hw : ∀ k, 0 ≤ k → k < (m : Int) → 97 ≤ w k ∧ w k ≤ 122) (m0 : 0 < m) (h : RUN s w pl n 0 m lo hi) (hlt : lo < hi) : (cmv s n pl lo : Int) < m ∧ (m : Int) ≤ n - pl lo ∧ ∀ k, 0 ≤ k → k < (m : Int) → s (pl lo + k) = w k := by
  have b1 := h.2.1
  have ag := (h.2.2.2 lo (by omega) (by omega)).mpr ⟨by omega, by omega⟩
  have hend := AG_end hw m0 ag
  refine ⟨?_, by omega, fun k k0 k1 => ?_⟩
  · apply Classical.byContradiction
    intro z
    by_cases e : lo = 0
    · subst e
      rw [show ((0 : Nat) : Int) = 0 from rfl, cmv_0] at z
      omega
    · have c := cmv_ag hs hSA (i := (lo : Int) - 1) (by omega) (by omega) (k := m) (by rw [show (lo : Int) - 1 + 1 = lo by omega]; omega)
      rw [show (lo : Int) - 1 + 1 = lo by omega] at c
      have := (h.2.2.2 ((lo : Int) - 1) (by omega) (by omega)).mp (c.trans ag)
      omega
  · have := ag k.toNat (by omega)
    rw [show ((k.toNat : Nat) : Int) = k by omega, en_lt (by omega), show ((0 : Nat) : Int) + k = k by omega] at this
    exact this
/-! first and last of their kind -/
theorem last_ex {P : Int → Prop} : ∀ (m : Nat), (∃ q, 0 ≤ q ∧ q < (m : Int) ∧ P q) → ∃ a, 0 ≤ a ∧ a < (m : Int) ∧ P a ∧ ∀ q, a < q → q < (m : Int) → ¬ P q
  | 0, ⟨q, q0, q1, _⟩ => by omega
  | m + 1, ⟨q, q0, q1, q2⟩ => by
    by_cases z : P m
    · exact ⟨m, by omega, by omega, z, fun r r0 r1 => by omega⟩
    · have hq : q ≠ m := fun e => z (e ▸ q2)
      obtain ⟨a, a0, a1, a2, a3⟩ := last_ex m ⟨q, q0, by omega, q2⟩
      refine ⟨a, a0, by omega, a2, fun r r0 r1 y => ?_⟩
      by_cases e : r = m
      · exact z (e ▸ y)
      · exact a3 r r0 (by omega) y
theorem first_last {R : Int → Int → Prop} (hy : ∀ a b, R a b → R b a) (ht : ∀ a b c, R a b → R b c → R a c) : ∀ m : Nat, cnt (fun p => ∀ q, 0 ≤ q → q < p → ¬ R q p) m = cnt (fun p => ∀ q, p < q → q < (m : Int) → ¬ R q p) m
  | 0 => rfl
  | m + 1 => by
    have ih := first_last hy ht m
    have hl : cnt (fun p => ∀ q, p < q → q < ((m + 1 : Nat) : Int) → ¬ R q p) (m + 1) = cnt (fun p => ∀ q, p < q → q < ((m + 1 : Nat) : Int) → ¬ R q p) m + 1 := cnt_t fun q q0 q1 => by omega
    rw [hl]
    by_cases z : ∃ q, 0 ≤ q ∧ q < (m : Int) ∧ R q m
    · have e1 : cnt (fun p => ∀ q, 0 ≤ q → q < p → ¬ R q p) (m + 1) = cnt (fun p => ∀ q, 0 ≤ q → q < p → ¬ R q p) m := cnt_f fun y => by
        obtain ⟨q, q0, q1, q2⟩ := z
        exact y q q0 q1 q2
      rw [e1, ih]
      obtain ⟨a, a0, a1, a2, a3⟩ := last_ex m z
      have e2 := cnt_del (P := fun p => ∀ q, p < q → q < (m : Int) → ¬ R q p) (a := a) m a0 a1 (fun q q0 q1 y => a3 q q0 q1 (ht _ _ _ y a2))
      rw [← e2]
      refine congrArg (· + 1) (cnt_congr m fun p p0 p1 => ⟨fun y q q0 q1 => ?_, fun y => ⟨fun q q0 q1 => y q q0 (by omega), fun e => ?_⟩⟩)
      · by_cases e : q = m
        · subst e
          intro w
          have w' := hy _ _ w
          have hpa : p ≠ a := y.2
          rcases Int.lt_trichotomy p a with l | l | l
          · exact y.1 a l a1 (ht _ _ _ a2 w)
          · exact hpa l
          · exact a3 p l p1 w'
        · exact y.1 q q0 (by omega)
      · subst e
        exact y m p1 (by omega) (hy _ _ a2)
    · have e1 : cnt (fun p => ∀ q, 0 ≤ q → q < p → ¬ R q p) (m + 1) = cnt (fun p => ∀ q, 0 ≤ q → q < p → ¬ R q p) m + 1 := cnt_t fun q q0 q1 y => z ⟨q, q0, q1, y⟩
      rw [e1, ih]
      refine congrArg (· + 1) (cnt_congr m fun p p0 p1 => ⟨fun y q q0 q1 => ?_, fun y q q0 q1 => y q q0 (by omega)⟩)
      by_cases e : q = m
      · subst e
        exact fun w => z ⟨p, p0, p1, hy _ _ w⟩
      · exact y q q0 (by omega)
/-! a text turned round -/
def RVT (s s' : Int → Int) (n : Nat) : Prop := ∀ k, 0 ≤ k → k < (n : Int) → s' k = s (n - 1 - k)
theorem RVT.sym {s s' : Int → Int} {n : Nat} (h : RVT s s' n) : RVT s' s n := fun k k0 k1 => by
  rw [h ((n : Int) - 1 - k) (by omega) (by omega), show (n : Int) - 1 - (n - 1 - k) = k by omega]
theorem AG_rev {s s' : Int → Int} {n k : Nat} (h : RVT s s' n) {p q : Int} (hp : 0 ≤ p) (hpk : p + k ≤ n) (hq : 0 ≤ q) (hqk : q + k ≤ n) (z : AG s' s' p q k) : AG s s ((n : Int) - p - k) ((n : Int) - q - k) k := by
  intro i hi
  have := z (k - 1 - i) (by omega)
  rw [h (p + ((k - 1 - i : Nat) : Int)) (by omega) (by omega), h (q + ((k - 1 - i : Nat) : Int)) (by omega) (by omega)] at this
  rw [show (n : Int) - p - k + i = n - 1 - (p + ((k - 1 - i : Nat) : Int)) by omega, show (n : Int) - q - k + i = n - 1 - (q + ((k - 1 - i : Nat) : Int)) by omega]
  exact this
theorem sq_AG {s : Int → Int} {n : Nat} {p : Int} {l : Nat} (hp : 0 ≤ p) : sq s n p l ↔ p + 2 * (l : Int) ≤ n ∧ AG s s p (p + l) l := by
  unfold sq
  constructor
  · intro ⟨h1, h2⟩
    exact ⟨h1, ((le_Lc (by omega) (by omega)).mp (show l ≤ Lc s n s n p (p + l) by omega)).2.2⟩
  · intro ⟨h1, h2⟩
    have : l ≤ Lc s n s n p (p + l) := (le_Lc (by omega) (by omega)).mpr ⟨by omega, by omega, h2⟩
    exact ⟨h1, by omega⟩
theorem sq_rev {s s' : Int → Int} {n : Nat} (h : RVT s s' n) {p : Int} {l : Nat} (hp : 0 ≤ p) (z : sq s' n p l) : sq s n ((n : Int) - p - 2 * l) l := by
  obtain ⟨h1, h2⟩ := (sq_AG hp).mp z
  refine (sq_AG (by omega)).mpr ⟨by omega, ?_⟩
  have := AG_rev h hp (by omega) (by omega) (by omega) h2
  rw [show (n : Int) - p - l = n - p - 2 * l + l by omega, show (n : Int) - (p + l) - l = n - p - 2 * l by omega] at this
  exact this.sym
theorem sqs_rev {s s' : Int → Int} {n : Nat} (h : RVT s s' n) {j : Int} (hj : 0 ≤ j) : sqs s' n j = sqs s n j := by
  unfold sqs
  obtain ⟨l, hl⟩ : ∃ l : Nat, j + 1 = l := ⟨(j + 1).toNat, by omega⟩
  rw [hl]
  refine congrArg Int.ofNat (cnt_bij (fun p => (n : Int) - p - 2 * l) (fun p => (n : Int) - p - 2 * l) (fun i i0 i1 z => ?_) (fun i i0 i1 z => ?_))
  · have b := ((sq_AG i0).mp z).1
    exact ⟨by omega, by omega, sq_rev h i0 z, by omega⟩
  · have b := ((sq_AG i0).mp z).1
    exact ⟨by omega, by omega, sq_rev h.sym i0 z, by omega⟩
theorem sm_sqs_rev {s s' : Int → Int} {n m m' : Nat} (h : RVT s s' n) (h64 : n ≤ 64) (hm : m ≤ 32) (hm' : m' ≤ 32) (h2 : (n : Int) < 2 * (m + 1)) (h2' : (n : Int) < 2 * (m' + 1)) : sm (sqs s' n) m' = sm (sqs s n) m := by
  rw [sm_congr (f := sqs s' n) (g := sqs s n) m' (fun i i0 _ => sqs_rev h i0), sqs_all hm' h64 h2', sqs_all hm h64 h2]
theorem per_rev {s s' : Int → Int} {n : Nat} (h : RVT s s' n) {l : Int} (hl : 1 ≤ l) (hln : l ≤ n) (z : (n : Int) - l ≤ Lc s' n s' n 0 l) : (n : Int) - l ≤ Lc s n s n 0 l := by
  obtain ⟨k, hk⟩ : ∃ k : Nat, (n : Int) - l = k := ⟨((n : Int) - l).toNat, by omega⟩
  have z1 := ((le_Lc (by omega) hln).mp (show k ≤ Lc s' n s' n 0 l by omega)).2.2
  have := AG_rev h (by omega) (by omega) (by omega) (by omega) z1
  rw [show (n : Int) - 0 - k = l by omega, show (n : Int) - l - k = 0 by omega] at this
  have : k ≤ Lc s n s n 0 l := (le_Lc (by omega) hln).mpr ⟨by omega, by omega, this.sym⟩
  omega
theorem PD_rev {s s' : Int → Int} {n : Nat} (h : RVT s s' n) {y : Int} (z : PD s' n y) : PD s n y := by
  obtain ⟨h1, h2, h3, h4⟩ := z
  refine ⟨h1, h2, h3.imp id (fun w => per_rev h h1 h2 w), fun l l1 l2 => ?_⟩
  apply Classical.byContradiction
  intro w
  have := per_rev h.sym l1 (by omega) (show (n : Int) - l ≤ Lc s n s n 0 l by omega)
  have := h4 l l1 l2
  omega
theorem mx_rev_le {s s' pl ra pl' ra' : Int → Int} {n : Nat} (hs : WS s n) (hSA : SA s n pl ra) (hs' : WS s' n) (hSA' : SA s' n pl' ra') (h : RVT s s' n) : mx (fun r => (cmv s' n pl' r : Int)) n ≤ mx (fun r => (cmv s n pl r : Int)) n := by
  have h0 := mx_0 (f := fun r => (cmv s n pl r : Int)) n
  refine (mx_le h0 n).mpr fun r r0 r1 => ?_
  by_cases e : cmv s' n pl' r = 0
  · show (cmv s' n pl' r : Int) ≤ _
    omega
  · obtain ⟨p, q, p0, pq, qn, hL⟩ := LT_at hs' hSA' r0 r1 (by omega)
    obtain ⟨c1, c2, c3⟩ := (le_Lc (show p ≤ (n : Int) by omega) (show q ≤ (n : Int) by omega)).mp (Nat.le_of_eq hL.symm)
    have ag := AG_rev h p0 c1 (by omega) c2 c3
    have l2 : cmv s' n pl' r ≤ Lc s n s n ((n : Int) - p - cmv s' n pl' r) ((n : Int) - q - cmv s' n pl' r) := (le_Lc (by omega) (by omega)).mpr ⟨by omega, by omega, ag⟩
    have := LT_le hs hSA (p := (n : Int) - p - cmv s' n pl' r) (q := (n : Int) - q - cmv s' n pl' r) (by omega) (by omega) (by omega) (by omega) (by omega) (L := mx (fun r => (cmv s n pl r : Int)) n) (fun r r0 r1 => (mx_le h0 n).mp (Int.le_refl _) r r0 r1)
    show (cmv s' n pl' r : Int) ≤ _
    omega
theorem mx_rev {s s' pl ra pl' ra' : Int → Int} {n : Nat} (hs : WS s n) (hSA : SA s n pl ra) (hs' : WS s' n) (hSA' : SA s' n pl' ra') (h : RVT s s' n) : mx (fun r => (cmv s' n pl' r : Int)) n = mx (fun r => (cmv s n pl r : Int)) n :=
  Int.le_antisymm (mx_rev_le hs hSA hs' hSA' h) (mx_rev_le hs' hSA' hs hSA h.sym)
/-- how many words of a length there are: the first places of each -/
theorem layer_first {s : Int → Int} {n K : Nat} (hK : 0 < K) (hKn : K ≤ n) : cnt (fun p => kn s n p p.toNat < K ∧ (K : Int) ≤ n - p) n = cnt (fun p => ∀ q, 0 ≤ q → q < p → ¬ AG s s q p K) (n - K + 1) := by
  rw [← cnt_cut (P := fun p => ∀ q, 0 ≤ q → q < p → ¬ AG s s q p K) (k := n - K + 1) n (by omega)]
  refine cnt_congr n fun p p0 p1 => ?_
  have e : (K : Int) ≤ n - p ↔ p < ((n - K + 1 : Nat) : Int) := by omega
  rw [e]
  refine and_congr_left fun hp => ?_
  rw [kn_lt hK]
  constructor
  · intro z q q0 q1 y
    have := z q q0 (by omega)
    have h2 : K ≤ Lc s n s n q p := (le_Lc (by omega) (by omega)).mpr ⟨by omega, by omega, y⟩
    omega
  · intro z q q0 q1
    apply Classical.byContradiction
    intro y
    exact z q q0 (by omega) ((le_Lc (show q ≤ (n : Int) by omega) (show p ≤ (n : Int) by omega)).mp (show K ≤ Lc s n s n q p by omega)).2.2
theorem layer_rev {s s' : Int → Int} {n K : Nat} (h : RVT s s' n) (hK : 0 < K) (hKn : K ≤ n) : cnt (fun p => kn s' n p p.toNat < K ∧ (K : Int) ≤ n - p) n = cnt (fun p => kn s n p p.toNat < K ∧ (K : Int) ≤ n - p) n := by
  rw [layer_first hK hKn, layer_first hK hKn, first_last (R := fun a b => AG s s a b K) (fun a b z => z.sym) (fun a b c z y => z.trans y) (n - K + 1)]
  have rv : ∀ (u u' : Int → Int) (a b : Int), RVT u u' n → 0 ≤ a → a < ((n - K + 1 : Nat) : Int) → 0 ≤ b → b < ((n - K + 1 : Nat) : Int) → AG u' u' a b K → AG u u (((n - K : Nat) : Int) - a) (((n - K : Nat) : Int) - b) K := fun u u' a b hu a0 a1 b0 b1 z => by
    have := AG_rev hu a0 (by omega) b0 (by omega) z
    rw [show ((n - K : Nat) : Int) - a = n - a - K by omega, show ((n - K : Nat) : Int) - b = n - b - K by omega]
    exact this
  refine cnt_bij (fun p => ((n - K : Nat) : Int) - p) (fun p => ((n - K : Nat) : Int) - p) (fun i i0 i1 z => ⟨by omega, by omega, fun q q0 q1 y => ?_, by omega⟩) (fun i i0 i1 z => ⟨by omega, by omega, fun q q0 q1 y => ?_, by omega⟩)
  · have := rv s' s q (((n - K : Nat) : Int) - i) h.sym (by omega) q1 (by omega) (by omega) y
    rw [show ((n - K : Nat) : Int) - (((n - K : Nat) : Int) - i) = i by omega] at this
    exact z _ (by omega) (by omega) this
  · have := rv s s' q (((n - K : Nat) : Int) - i) h q0 (by omega) (by omega) (by omega) y
    rw [show ((n - K : Nat) : Int) - (((n - K : Nat) : Int) - i) = i by omega] at this
    exact z _ (by omega) (by omega) this
theorem words_rev {s s' pl ra pl' ra' : Int → Int} {n : Nat} (hs : WS s n) (hSA : SA s n pl ra) (hs' : WS s' n) (hSA' : SA s' n pl' ra') (h : RVT s s' n) : sm (fr s' n pl') n = sm (fr s n pl) n := by
  have e1 : sm (fr s' n pl') n = sm (fun p => (n : Int) - p - kn s' n p p.toNat) n := words_eq hs' hSA'
  have e2 : sm (fr s n pl) n = sm (fun p => (n : Int) - p - kn s n p p.toNat) n := words_eq hs hSA
  have lay : ∀ u : Int → Int, sm (fun p => (n : Int) - p - kn u n p p.toNat) n = sm (fun k => (cnt (fun p => (kn u n p p.toNat : Int) < k + 1 ∧ k + 1 ≤ (n : Int) - p) n : Int)) n := fun u => sm_layers (a := fun p => (n : Int) - p) (b := fun p => (kn u n p p.toNat : Int)) (N := n) n (fun r r0 r1 => by
    have := kn_le (s := u) (n := n) (p := r) r0 (by omega) (m := r.toNat) (by omega)
    omega)
  rw [e1, e2, lay s', lay s]
  refine sm_congr n fun k k0 k1 => ?_
  obtain ⟨K, hK⟩ : ∃ K : Nat, k + 1 = K := ⟨(k + 1).toNat, by omega⟩
  have := layer_rev h (K := K) (by omega) (by omega)
  rw [hK]
  have q : ∀ u : Int → Int, cnt (fun p => (kn u n p p.toNat : Int) < (K : Int) ∧ (K : Int) ≤ (n : Int) - p) n = cnt (fun p => kn u n p p.toNat < K ∧ (K : Int) ≤ (n : Int) - p) n := fun u => cnt_congr n fun p _ _ => by rw [Int.ofNat_lt]
  rw [q s', q s, this]
