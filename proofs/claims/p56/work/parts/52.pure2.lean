variable {WM : List (Nat × Nat)} {wd : Bool}
/-! SUMS -/
def sm (f : Int → Int) : Nat → Int
  | 0 => 0
  | m + 1 => sm f m + f m
theorem sm_congr {f g : Int → Int} : ∀ m : Nat, (∀ i : Int, 0 ≤ i → i < m → f i = g i) → sm f m = sm g m
  | 0, _ => rfl
  | m + 1, h => by
    unfold sm
    rw [sm_congr m (fun i h0 h1 => h i h0 (by omega)), h m (by omega) (by omega)]
theorem sm_add (f g : Int → Int) : ∀ m : Nat, sm (fun i => f i + g i) m = sm f m + sm g m
  | 0 => rfl
  | m + 1 => by
    unfold sm
    rw [sm_add f g m]
    omega
theorem sm_sub (f g : Int → Int) : ∀ m : Nat, sm (fun i => f i - g i) m = sm f m - sm g m
  | 0 => rfl
  | m + 1 => by
    unfold sm
    rw [sm_sub f g m]
    omega
theorem sm_le {f g : Int → Int} : ∀ m : Nat, (∀ i : Int, 0 ≤ i → i < m → f i ≤ g i) → sm f m ≤ sm g m
  | 0, _ => Int.le_refl _
  | m + 1, h => by
    unfold sm
    have := sm_le (f := f) (g := g) m (fun i h0 h1 => h i h0 (by omega))
    have := h m (by omega) (by omega)
    omega
theorem sm_const (c : Int) : ∀ m : Nat, sm (fun _ => c) m = c * m
  | 0 => by simp [sm]
  | m + 1 => by
    unfold sm
    rw [sm_const c m, show ((m + 1 : Nat) : Int) = (m : Int) + 1 by omega, Int.mul_add, Int.mul_one]
theorem sm_bd {f : Int → Int} {c : Int} {m : Nat} (h : ∀ i : Int, 0 ≤ i → i < m → 0 ≤ f i ∧ f i ≤ c) : 0 ≤ sm f m ∧ sm f m ≤ c * m := by
  have h1 := sm_le (f := fun _ => 0) (g := f) m (fun i i0 i1 => (h i i0 i1).1)
  have h2 := sm_le (f := f) (g := fun _ => c) m (fun i i0 i1 => (h i i0 i1).2)
  rw [sm_const] at h1 h2
  omega
theorem sm_mono {f : Int → Int} {i j : Nat} (hij : i ≤ j) (h : ∀ r : Int, (i : Int) ≤ r → r < j → 0 ≤ f r) : sm f i ≤ sm f j := by
  induction j with
  | zero => rw [show i = 0 by omega]; exact Int.le_refl _
  | succ j ih =>
    by_cases e : i = j + 1
    · rw [e]; exact Int.le_refl _
    · have := ih (by omega) (fun r r0 r1 => h r r0 (by omega))
      have := h j (by omega) (by omega)
      show sm f i ≤ sm f j + f j
      omega
/-- a count is a sum -/
theorem cnt_sm (P : Int → Prop) : ∀ m : Nat, (cnt P m : Int) = sm (fun i => @ite Int (P i) (Classical.propDecidable (P i)) 1 0) m
  | 0 => rfl
  | m + 1 => by
    unfold sm
    rw [← cnt_sm P m]
    by_cases h : P m
    · rw [cnt_t h, if_pos h]; omega
    · rw [cnt_f h, if_neg h]; omega
theorem cnt_iv {a b : Int} {N : Nat} (hb : 0 ≤ b) (hba : b ≤ a) (ha : a ≤ N) : (cnt (fun k => b < k + 1 ∧ k + 1 ≤ a) N : Int) = a - b := by
  have e1 := cnt_below (m := N) (k := a.toNat) (by omega)
  have e2 := cnt_below (m := N) (k := b.toNat) (by omega)
  have e3 := cnt_or (P := fun k => b < k + 1 ∧ k + 1 ≤ a) (Q := fun i => i < (b.toNat : Int)) N (fun i i0 i1 z y => by omega)
  rw [cnt_congr N (P := fun i => (b < i + 1 ∧ i + 1 ≤ a) ∨ i < (b.toNat : Int)) (Q := fun i => i < (a.toNat : Int)) (fun i i0 i1 => by omega)] at e3
  omega
theorem sm_layers {a b : Int → Int} {N : Nat} : ∀ m : Nat, (∀ r : Int, 0 ≤ r → r < m → 0 ≤ b r ∧ b r ≤ a r ∧ a r ≤ N) → sm (fun r => a r - b r) m = sm (fun k => (cnt (fun r => b r < k + 1 ∧ k + 1 ≤ a r) m : Int)) N
  | 0, h => by
    rw [sm_congr N (f := fun k => (cnt (fun r => b r < k + 1 ∧ k + 1 ≤ a r) 0 : Int)) (g := fun _ => 0) (fun _ _ _ => rfl), sm_const]
    simp [sm]
  | m + 1, h => by
    have ih := sm_layers (a := a) (b := b) (N := N) m (fun r r0 r1 => h r r0 (by omega))
    obtain ⟨h1, h2, h3⟩ := h m (by omega) (by omega)
    have e := cnt_iv h1 h2 h3
    rw [cnt_sm] at e
    have e2 := sm_add (fun k => (cnt (fun r => b r < k + 1 ∧ k + 1 ≤ a r) m : Int)) (fun i => @ite Int (b m < i + 1 ∧ i + 1 ≤ a m) (Classical.propDecidable _) 1 0) N
    rw [show sm (fun r => a r - b r) (m + 1) = sm (fun r => a r - b r) m + (a m - b m) from rfl, ih, ← e, ← e2]
    refine sm_congr N (fun k k0 k1 => ?_)
    by_cases z : b m < k + 1 ∧ k + 1 ≤ a m
    · rw [if_pos z, cnt_t (P := fun r => b r < k + 1 ∧ k + 1 ≤ a r) z]
      omega
    · rw [if_neg z, cnt_f (P := fun r => b r < k + 1 ∧ k + 1 ≤ a r) z]
      omega
/-- a sum of counts the other way round -/
theorem cnt_swap {P : Int → Int → Prop} (N : Nat) : ∀ m : Nat, sm (fun i => (cnt (fun j => P i j) N : Int)) m = sm (fun j => (cnt (fun i => P i j) m : Int)) N
  | 0 => by
    rw [sm_congr N (f := fun j => (cnt (fun i => P i j) 0 : Int)) (g := fun _ => 0) (fun _ _ _ => rfl), sm_const]
    simp [sm]
  | m + 1 => by
    have ih := cnt_swap (P := P) N m
    rw [show sm (fun i => (cnt (fun j => P i j) N : Int)) (m + 1) = sm (fun i => (cnt (fun j => P i j) N : Int)) m + (cnt (fun j => P m j) N : Int) from rfl, ih, cnt_sm (fun j => P m j) N, ← sm_add]
    refine sm_congr N (fun k k0 k1 => ?_)
    by_cases z : P m k
    · rw [if_pos z, cnt_t (P := fun i => P i k) z]
      omega
    · rw [if_neg z, cnt_f (P := fun i => P i k) z]
      omega
/-- a sum over ranks is one over places -/
theorem sm_del {f : Int → Int} {a : Int} : ∀ m : Nat, 0 ≤ a → a < m → sm (fun i => if i = a then 0 else f i) m + f a = sm f m
  | 0, h0, h1 => by omega
  | m + 1, h0, h1 => by
    unfold sm
    by_cases e : a = m
    · subst e
      rw [if_pos rfl, sm_congr m (g := f) (fun i i0 i1 => if_neg (by omega))]
      omega
    · have := sm_del (f := f) m h0 (by omega)
      rw [if_neg (fun z => e z.symm)]
      omega
theorem sm_perm {b : Int → Int} {n : Nat} : ∀ (m : Nat) (f : Int → Int), m ≤ n → (∀ i, 0 ≤ i → i < (m : Int) → 0 ≤ b i ∧ b i < n) → (∀ i j, 0 ≤ i → i < (m : Int) → 0 ≤ j → j < (m : Int) → b i = b j → i = j) → (∀ p, 0 ≤ p → p < (n : Int) → (∀ i, 0 ≤ i → i < (m : Int) → b i ≠ p) → f p = 0) → sm (fun i => f (b i)) m = sm f n
  | 0, f, hm, h1, h2, h3 => by
    rw [sm_congr n (f := f) (g := fun _ => 0) (fun i i0 i1 => h3 i i0 i1 (fun j j0 j1 => by omega)), sm_const]
    simp [sm]
  | m + 1, f, hm, h1, h2, h3 => by
    obtain ⟨b0, b1⟩ := h1 m (by omega) (by omega)
    have ih := sm_perm (b := b) (n := n) m (fun p => if p = b m then 0 else f p) (by omega) (fun i i0 i1 => h1 i i0 (by omega)) (fun i j i0 i1 j0 j1 e => h2 i j i0 (by omega) j0 (by omega) e) (fun p p0 p1 z => by
      by_cases e : p = b m
      · rw [if_pos e]
      · rw [if_neg e]
        refine h3 p p0 p1 (fun i i0 i1 y => ?_)
        by_cases w : i = m
        · subst w
          exact e y.symm
        · exact z i i0 (by omega) y)
    have d := sm_del (f := f) n b0 b1
    rw [← d, ← ih]
    show sm (fun i => f (b i)) m + f (b m) = _
    rw [sm_congr m (f := fun i => f (b i)) (g := fun i => if b i = b m then 0 else f (b i)) (fun i i0 i1 => (if_neg (fun e => by have := h2 i m i0 (by omega) (by omega) (by omega) e; omega)).symm)]
theorem sm_SA {s pl ra : Int → Int} {n : Nat} (hs : WS s n) (h : SA s n pl ra) (f : Int → Int) : sm (fun r => f (pl r)) n = sm f n := by
  have hp := SA.perm hs h
  refine sm_perm n f (Nat.le_refl n) hp.1 hp.2 (fun p p0 p1 z => ?_)
  have b := rk_bd (s := s) (n := n) p0 p1
  exact absurd (h p p0 p1).2 (z _ (by omega) b)
/-- 0 + 1 + .. + (m - 1), twice -/
theorem sm_id : ∀ m : Nat, 2 * sm (fun i => i) m = (m : Int) * m - m
  | 0 => by simp [sm]
  | m + 1 => by
    unfold sm
    have := sm_id m
    rw [show ((m + 1 : Nat) : Int) = (m : Int) + 1 by omega, Int.add_mul, Int.mul_add (m : Int) m 1]
    omega
/-! HOW MANY WORDS -/
/-- the most that an end has in common with one ahead of it -/
noncomputable def kn (s : Int → Int) (n : Int) (p : Int) : Nat → Nat
  | 0 => 0
  | m + 1 => max (kn s n p m) (Lc s n s n m p)
theorem kn_lt {s : Int → Int} {n p : Int} {k : Nat} (hk : 0 < k) : ∀ m : Nat, kn s n p m < k ↔ ∀ q : Int, 0 ≤ q → q < m → Lc s n s n q p < k
  | 0 => ⟨fun _ q q0 q1 => by omega, fun _ => hk⟩
  | m + 1 => by
    have ih := kn_lt (s := s) (n := n) (p := p) hk m
    unfold kn
    rw [Nat.max_lt, ih]
    constructor
    · intro ⟨h1, h2⟩ q q0 q1
      by_cases e : q = m
      · rw [e]; exact h2
      · exact h1 q q0 (by omega)
    · intro h
      exact ⟨fun q q0 q1 => h q q0 (by omega), h m (by omega) (by omega)⟩
theorem kn_le {s : Int → Int} {n p : Int} (hp : 0 ≤ p) (hpn : p ≤ n) {m : Nat} (hm : (m : Int) ≤ n) : (kn s n p m : Int) ≤ n - p := by
  have h := (kn_lt (s := s) (n := n) (p := p) (k := (n - p).toNat + 1) (by omega) m).mpr (fun q q0 q1 => by
    have := Lc_2 (s := s) (t := s) (n := n) (m := n) (p := q) (q := p) (by omega) hpn
    omega)
  omega
theorem firstBy_kn {s : Int → Int} {n : Nat} (hs : WS s n) {k : Nat} (hk : 0 < k) {p : Int} (hp : 0 ≤ p) (hpn : p < n) : firstBy s n k p ↔ kn s n p p.toNat < k := by
  rw [kn_lt hk]
  unfold firstBy
  constructor
  · intro h q q0 q1
    apply Nat.lt_of_not_le
    intro z
    exact h q q0 (by omega) ((le_LcE hs q0 (by omega) hp hpn (by omega)).mp z)
  · intro h q q0 q1 z
    have := h q q0 (by omega)
    have := (le_LcE hs q0 (by omega) hp hpn (by omega)).mpr z
    omega
theorem len_ag {s : Int → Int} {n : Nat} (hs : WS s n) {k : Nat} (hk : 0 < k) {p q : Int} (hp : 0 ≤ p) (hq : 0 ≤ q) (h : AG (en s n) (en s n) p q k) (hk2 : p + k ≤ n) : q + k ≤ n := by
  have := h (k - 1) (by omega)
  rw [en_lt (i := p + ((k - 1 : Nat) : Int)) (by omega)] at this
  apply Int.not_lt.mp
  intro z
  have h2 := hs (p + ((k - 1 : Nat) : Int)) (by omega) (by omega)
  rw [this, en_ge (by omega)] at h2
  omega
theorem words_layer {s pl ra : Int → Int} {n : Nat} (hs : WS s n) (h : SA s n pl ra) {k : Nat} (hk : 0 < k) : cnt (fun r => cmv s n pl r < k ∧ (k : Int) ≤ n - pl r) n = cnt (fun p => kn s n p p.toNat < k ∧ (k : Int) ≤ n - p) n := by
  let φ : Int → Prop := fun v => ∃ p, 0 ≤ p ∧ p < (n : Int) ∧ cno s n pl k p = v ∧ (k : Int) ≤ n - p
  have hφ : ∀ p, 0 ≤ p → p < (n : Int) → (φ (cno s n pl k p) ↔ (k : Int) ≤ n - p) := by
    intro p p0 p1
    constructor
    · intro ⟨q, q0, q1, q2, q3⟩
      have := len_ag hs hk q0 p0 ((cno_ag hs h q0 q1 p0 p1).mp q2) (by omega)
      omega
    · intro z
      exact ⟨p, p0, p1, rfl, z⟩
  have e1 := cnt_first (c := cno s n pl k) (φ := φ) (n := n) (C := Uc s n pl k n) (fun o o0 o1 ho => cno_bd hk o0 o1) (fun v v0 v1 _ => by
    obtain ⟨o, o0, o1, o2, -⟩ := cno_sur hs h (k := k) (m := n) (by omega) v0 (by omega)
    exact ⟨o, o0, o1, o2⟩)
  have e2 := cnt_first (c := fun r => cno s n pl k (pl r)) (φ := φ) (n := n) (C := Uc s n pl k n) (fun r r0 r1 hr => cno_bd hk (h.at hs r0 r1).1 (h.at hs r0 r1).2.1) (fun v v0 v1 _ => by
    obtain ⟨o, o0, o1, o2, -⟩ := cno_sur hs h (k := k) (m := n) (by omega) v0 (by omega)
    have b := rk_bd (s := s) (n := n) o0 o1
    exact ⟨rk s n o, by omega, b, by rw [(h o o0 o1).2]; exact o2⟩)
  rw [cnt_congr n (P := fun r => cmv s n pl r < k ∧ (k : Int) ≤ n - pl r) (Q := fun o => (∀ q, 0 ≤ q → q < o → cno s n pl k (pl q) ≠ cno s n pl k (pl o)) ∧ φ (cno s n pl k (pl o))) ?_, e2, ← e1]
  · refine cnt_congr n (fun p p0 p1 => ?_)
    rw [hφ p p0 p1, ← firstBy_kn hs hk p0 p1, firstBy_cno hs h p0 p1]
  · intro r r0 r1
    obtain ⟨a0, a1, a2, -⟩ := h.at hs r0 r1
    rw [hφ _ a0 a1]
    refine and_congr ?_ Iff.rfl
    constructor
    · intro z q q0 q1 e
      obtain ⟨b0, b1, b2, -⟩ := h.at hs q0 (show q < n by omega)
      have := (cmv_range hs h q0 q1 r1).mp ((cno_ag hs h b0 b1 a0 a1).mp e) r q1 (by omega)
      omega
    · intro z
      by_cases e : r = 0
      · rw [e, cmv_0]
        exact hk
      · apply Nat.lt_of_not_le
        intro y
        obtain ⟨b0, b1, b2, -⟩ := h.at hs (r := r - 1) (by omega) (by omega)
        refine z (r - 1) (by omega) (by omega) ((cno_ag hs h b0 b1 a0 a1).mpr ((cmv_range hs h (by omega) (by omega) r1).mpr (fun t t0 t1 => ?_)))
        rw [show t = r by omega]
        exact y
theorem cmv_le {s pl ra : Int → Int} {n : Nat} (hs : WS s n) (h : SA s n pl ra) {r : Int} (hr : 0 ≤ r) (hrn : r < n) : (cmv s n pl r : Int) ≤ n - pl r := by
  obtain ⟨a0, a1, -, -⟩ := h.at hs hr hrn
  unfold cmv
  by_cases e : r = 0
  · rw [if_pos e]; omega
  · rw [if_neg e]
    obtain ⟨b0, b1, -, -⟩ := h.at hs (r := r - 1) (by omega) (by omega)
    have := Lc_2 (s := s) (t := s) (n := n) (m := n) (p := pl (r - 1)) (q := pl r) (by omega) (by omega)
    omega
/-- the words that the ends bring, by ranks and by places -/
theorem words_eq {s pl ra : Int → Int} {n : Nat} (hs : WS s n) (h : SA s n pl ra) : sm (fun r => (n : Int) - pl r - cmv s n pl r) n = sm (fun p => (n : Int) - p - kn s n p p.toNat) n := by
  rw [sm_layers (a := fun r => (n : Int) - pl r) (b := fun r => (cmv s n pl r : Int)) (N := n) n (fun r r0 r1 => by
    have := cmv_le hs h r0 r1
    have := (h.at hs r0 r1).1
    omega), sm_layers (a := fun p => (n : Int) - p) (b := fun p => (kn s n p p.toNat : Int)) (N := n) n (fun r r0 r1 => by
    have := kn_le (s := s) (n := n) (p := r) r0 (by omega) (m := r.toNat) (by omega)
    omega)]
  refine sm_congr n (fun k k0 k1 => ?_)
  have e := words_layer hs h (k := k.toNat + 1) (by omega)
  rw [cnt_congr n (Q := fun r => cmv s n pl r < k.toNat + 1 ∧ ((k.toNat + 1 : Nat) : Int) ≤ n - pl r) (fun i i0 i1 => by omega), e]
  rw [cnt_congr n (P := fun p => kn s n p p.toNat < k.toNat + 1 ∧ ((k.toNat + 1 : Nat) : Int) ≤ n - p) (fun i i0 i1 => ?_)]
  omega

