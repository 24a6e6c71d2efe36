variable {WM : List (Nat × Nat)} {wd : Bool}
/-! SQUARES, TURNS, CUTS, PLAIN WORDS, PIECES -/
theorem sm_same {f : Int → Int} {i : Nat} : ∀ d : Nat, (∀ r : Int, (i : Int) ≤ r → r < (i : Int) + d → f r = 0) → sm f (i + d) = sm f i
  | 0, _ => rfl
  | d + 1, h => by
    have := sm_same (f := f) (i := i) d (fun r r0 r1 => h r r0 (by omega))
    have e := h ((i + d : Nat) : Int) (by omega) (by omega)
    show sm f (i + d) + f ((i + d : Nat) : Int) = sm f i
    omega
def sq (s : Int → Int) (n : Nat) (p l : Int) : Prop := p + 2 * l ≤ n ∧ l ≤ Lc s n s n p (p + l)
noncomputable def sqs (s : Int → Int) (n : Nat) (j : Int) : Int := cnt (fun p => sq s n p (j + 1)) n
theorem sqs_0 {s : Int → Int} {n : Nat} {j : Int} (h : (n : Int) < 2 * (j + 1)) : sqs s n j = 0 := by
  unfold sqs
  rw [cnt_zero (fun i i0 i1 z => by have := z.1; omega)]
  rfl
theorem sqs_all {s : Int → Int} {n m : Nat} (hm : m ≤ 32) (h64 : n ≤ 64) (h : (n : Int) < 2 * (m + 1)) : sm (sqs s n) m = sm (fun p => (cnt (fun j => sq s n p (j + 1)) 32 : Int)) n := by
  rw [cnt_swap]
  have := sm_same (f := sqs s n) (i := m) (32 - m) (fun r r0 r1 => sqs_0 (by omega))
  rw [show m + (32 - m) = 32 by omega] at this
  rw [← this]
  rfl
theorem sqs_bd {s : Int → Int} {n : Nat} (h64 : n ≤ 64) {m : Nat} (hm : m ≤ 32) : 0 ≤ sm (sqs s n) m ∧ sm (sqs s n) m ≤ 2048 := by
  have := sm_bd (f := sqs s n) (c := 64) (m := m) (fun i i0 i1 => by
    have := cnt_le (fun p => sq s n p (i + 1)) n
    unfold sqs
    omega)
  omega
/-- the least turn, seen up to a place -/
noncomputable def bt (x : Int → Int) (n : Nat) : Nat → Int
  | 0 => 0
  | m + 1 => @ite Int (∃ j, j < n ∧ (∀ i : Nat, i < j → x ((m : Int) + 1 + i) = x (bt x n m + i)) ∧ x ((m : Int) + 1 + j) < x (bt x n m + j)) (Classical.propDecidable _) ((m : Int) + 1) (bt x n m)
theorem bt_t {x : Int → Int} {n m : Nat} (h : ∃ j, j < n ∧ (∀ i : Nat, i < j → x ((m : Int) + 1 + i) = x (bt x n m + i)) ∧ x ((m : Int) + 1 + j) < x (bt x n m + j)) : bt x n (m + 1) = (m : Int) + 1 := by rw [bt, if_pos h]
theorem bt_f {x : Int → Int} {n m : Nat} (h : ¬ ∃ j, j < n ∧ (∀ i : Nat, i < j → x ((m : Int) + 1 + i) = x (bt x n m + i)) ∧ x ((m : Int) + 1 + j) < x (bt x n m + j)) : bt x n (m + 1) = bt x n m := by rw [bt, if_neg h]
theorem bt_bd {x : Int → Int} {n : Nat} : ∀ m : Nat, 0 ≤ bt x n m ∧ bt x n m ≤ m
  | 0 => ⟨Int.le_refl 0, Int.le_refl 0⟩
  | m + 1 => by
    have := bt_bd (x := x) (n := n) m
    by_cases h : ∃ j, j < n ∧ (∀ i : Nat, i < j → x ((m : Int) + 1 + i) = x (bt x n m + i)) ∧ x ((m : Int) + 1 + j) < x (bt x n m + j)
    · rw [bt_t h]; omega
    · rw [bt_f h]; omega
/-! cuts -/
def stt (sz : Int → Int) : Nat → Int
  | 0 => 0
  | i + 1 => stt sz i + sz (stt sz i)
def SZ (sz : Int → Int) (n : Nat) : Prop := ∀ p, 0 ≤ p → p < (n : Int) → 1 ≤ sz p ∧ p + sz p ≤ n
/-- N cuts make the whole -/
def CUT (sz : Int → Int) (n N : Nat) : Prop := stt sz N = n ∧ ∀ i : Nat, i < N → stt sz i < n
theorem stt_at {sz : Int → Int} {n : Nat} (h : SZ sz n) : ∀ i : Nat, (∀ j : Nat, j < i → stt sz j < n) → (i : Int) ≤ stt sz i ∧ stt sz i ≤ n
  | 0, _ => ⟨Int.le_refl 0, by show (0 : Int) ≤ n; omega⟩
  | i + 1, hj => by
    have ih := stt_at h i (fun j hji => hj j (by omega))
    have := h (stt sz i) (by omega) (hj i (by omega))
    show ((i + 1 : Nat) : Int) ≤ stt sz i + sz (stt sz i) ∧ stt sz i + sz (stt sz i) ≤ n
    omega
theorem CUT.uniq {sz : Int → Int} {n N M : Nat} (h : CUT sz n N) (h' : CUT sz n M) : N = M := by
  rcases Nat.lt_trichotomy N M with z | z | z
  · have := h'.2 N z
    rw [h.1] at this
    omega
  · exact z
  · have := h.2 M z
    rw [h'.1] at this
    omega
theorem CUT.le {sz : Int → Int} {n N : Nat} (hs : SZ sz n) (h : CUT sz n N) : N ≤ n := by
  have := stt_at hs N h.2
  rw [h.1] at this
  omega
theorem CUT.at {sz : Int → Int} {n N : Nat} (hs : SZ sz n) (h : CUT sz n N) {i : Nat} (hi : i < N) : 0 ≤ stt sz i ∧ stt sz i < n := by
  have := stt_at hs i (fun j hj => h.2 j (by omega))
  exact ⟨by omega, h.2 i hi⟩
theorem CUT.ex {sz : Int → Int} {n : Nat} (hs : SZ sz n) : ∃ N, CUT sz n N := by
  have key : ∀ (d : Nat) (i : Nat), (∀ j : Nat, j < i → stt sz j < n) → n - i ≤ d → ∃ N, CUT sz n N := by
    intro d
    induction d with
    | zero =>
      intro i hj hd
      have := stt_at hs i hj
      exact ⟨i, by omega, hj⟩
    | succ d ih =>
      intro i hj hd
      by_cases z : stt sz i < n
      · refine ih (i + 1) (fun j hji => ?_) (by omega)
        by_cases e : j = i
        · rw [e]; exact z
        · exact hj j (by omega)
      · have := stt_at hs i hj
        exact ⟨i, by omega, hj⟩
  exact key n 0 (fun j hj => absurd hj (Nat.not_lt_zero j)) (by omega)
/-! plain words -/
def PLN (s : Int → Int) (p L : Int) : Prop := ∀ e, 1 ≤ e → e < L → ∃ k : Nat, e + k < L ∧ AG s s p (p + e) k ∧ s (p + k) < s (p + e + k)
def LPL (s : Int → Int) (n : Nat) (p L : Int) : Prop := 1 ≤ L ∧ p + L ≤ n ∧ PLN s p L ∧ ∀ M, L < M → p + M ≤ n → ¬ PLN s p M
theorem LPL.uniq {s : Int → Int} {n : Nat} {p L M : Int} (h : LPL s n p L) (h' : LPL s n p M) : L = M := by
  rcases Int.lt_trichotomy L M with z | z | z
  · exact absurd h'.2.2.1 (h.2.2.2 M z h'.2.1)
  · exact z
  · exact absurd h.2.2.1 (h'.2.2.2 L z h.2.1)
theorem PLN_1 {s : Int → Int} {p : Int} : PLN s p 1 := fun e e1 e2 => by omega
/-- the place that Lc tells decides -/
theorem PLN_at {s : Int → Int} {n : Nat} {p e L : Int} (hp : 0 ≤ p) (he : 1 ≤ e) (heL : e < L) (hL : p + L ≤ n) : (∃ k : Nat, e + k < L ∧ AG s s p (p + e) k ∧ s (p + k) < s (p + e + k)) ↔ e + Lc s n s n p (p + e) < L ∧ s (p + Lc s n s n p (p + e)) < s (p + e + Lc s n s n p (p + e)) := by
  constructor
  · intro ⟨k, k1, k2, k3⟩
    have e9 := Lc_uniq (s := s) (t := s) (n := n) (m := n) (p := p) (q := p + e) (k := k) (by omega) (by omega) k2 (Or.inr (Or.inr (by omega)))
    rw [e9]
    exact ⟨k1, k3⟩
  · intro ⟨k1, k2⟩
    exact ⟨_, k1, Lc_ag, k2⟩
/-- Duval's invariant: a plain word d long, again and again -/
def DUV (s : Int → Int) (p c j : Int) : Prop := p ≤ c ∧ c < j ∧ (∀ i, p ≤ i → i + (j - c) < j → s i = s (i + (j - c))) ∧ PLN s p (j - c)
theorem per_mul {w : Int → Int} {d m : Int} (h : ∀ i, 0 ≤ i → i + d < m → w i = w (i + d)) (hd : 0 ≤ d) : ∀ (q : Nat) (i : Int), 0 ≤ i → i + q * d < m → w i = w (i + q * d)
  | 0, i, _, _ => by simp
  | q + 1, i, hi, hm => by
    rw [show ((q + 1 : Nat) : Int) * d = q * d + d by rw [show ((q + 1 : Nat) : Int) = (q : Int) + 1 by omega, Int.add_mul, Int.one_mul]] at hm ⊢
    have hq : 0 ≤ (q : Int) * d := Int.mul_nonneg (by omega) hd
    have e1 := per_mul h hd q i hi (by omega)
    have e2 := h (i + q * d) (by omega) (by omega)
    rw [e1, e2, Int.add_assoc]
theorem DUV.init {s : Int → Int} {p : Int} : DUV s p p (p + 1) := ⟨Int.le_refl _, by omega, fun i i0 i1 => by omega, by rw [show p + 1 - p = 1 by omega]; exact PLN_1⟩
theorem DUV.same {s : Int → Int} {p c j : Int} (h : DUV s p c j) (e : s c = s j) : DUV s p (c + 1) (j + 1) := by
  obtain ⟨h1, h2, h3, h4⟩ := h
  refine ⟨by omega, by omega, fun i i0 i1 => ?_, by rw [show j + 1 - (c + 1) = j - c by omega]; exact h4⟩
  rw [show j + 1 - (c + 1) = j - c by omega] at i1 ⊢
  by_cases z : i = c
  · rw [z, show c + (j - c) = j by omega]; exact e
  · exact h3 i i0 (by omega)
theorem DUV.up {s : Int → Int} {p c j : Int} (h : DUV s p c j) (e : s c < s j) : DUV s p p (j + 1) := by
  obtain ⟨h1, h2, h3, h4⟩ := h
  refine ⟨Int.le_refl _, by omega, fun i i0 i1 => by omega, ?_⟩
  obtain ⟨d, hd⟩ : ∃ d : Int, d = j - c := ⟨_, rfl⟩
  obtain ⟨m, hm⟩ : ∃ m : Int, m = j - p := ⟨_, rfl⟩
  rw [← hd] at h3 h4
  have per := per_mul (w := fun i => s (p + i)) (d := d) (m := m) (fun i i0 i1 => by
    have := h3 (p + i) (by omega) (by omega)
    rw [Int.add_assoc] at this
    exact this) (by omega)
  have hlast : s (p + (m - d)) < s (p + m) := by
    rw [show p + (m - d) = c by omega, show p + m = j by omega]
    exact e
  intro f f1 f2
  have hf : f ≤ m := by omega
  obtain ⟨Q, r, hQ, hr0, hrd⟩ : ∃ (Q : Nat) (r : Int), f = Q * d + r ∧ 0 ≤ r ∧ r < d := by
    refine ⟨(f / d).toNat, f % d, ?_, Int.emod_nonneg f (by omega), Int.emod_lt_of_pos f (by omega)⟩
    rw [Int.toNat_of_nonneg (Int.ediv_nonneg (by omega) (by omega)), Int.mul_comm]
    exact (Int.mul_ediv_add_emod f d).symm
  have hmul : ∀ q : Nat, q ≤ Q → (q : Int) * d ≤ Q * d ∧ 0 ≤ (q : Int) * d := fun q hq => ⟨Int.mul_le_mul_of_nonneg_right (by omega) (by omega), Int.mul_nonneg (by omega) (by omega)⟩
  -- the sign that comes where a whole copy would end
  have hback : ∀ q : Nat, 1 ≤ q → q ≤ Q → s (p + (m - q * d)) = s (p + (m - d)) := by
    intro q q1 q2
    have h5 := hmul (q - 1) (by omega)
    have h6 := hmul q q2
    have e1 : ((q - 1 : Nat) : Int) * d = q * d - d := by
      rw [show ((q - 1 : Nat) : Int) = (q : Int) - 1 by omega, Int.sub_mul, Int.one_mul]
    have := per (q - 1) (m - q * d) (by omega) (by omega)
    rw [e1, show p + (m - q * d + (q * d - d)) = p + (m - d) by omega] at this
    exact this
  have hcopy : ∀ i : Int, 0 ≤ i → f + i < m → s (p + (f + i)) = s (p + (r + i)) := by
    intro i i0 i1
    have h6 := hmul Q (Nat.le_refl Q)
    have := per Q (r + i) (by omega) (by omega)
    rw [this, show r + i + Q * d = f + i by omega]
  have h6 := hmul Q (Nat.le_refl Q)
  by_cases hr : r = 0
  · have hQ1 : 1 ≤ Q := by
      apply Nat.pos_of_ne_zero
      intro z
      rw [z] at hQ
      simp at hQ
      omega
    refine ⟨(m - f).toNat, by omega, fun i hi => ?_, ?_⟩
    · have := hcopy i (by omega) (by omega)
      rw [hr, Int.zero_add] at this
      rw [← this, Int.add_assoc]
    · have := hback Q hQ1 (Nat.le_refl Q)
      rw [show p + (((m - f).toNat : Nat) : Int) = p + (m - Q * d) by omega, this, show p + f + (((m - f).toNat : Nat) : Int) = p + m by omega]
      exact hlast
  · obtain ⟨k0, k1, k2, k3⟩ := h4 r (by omega) hrd
    by_cases hk : f + k0 < m
    · refine ⟨k0, by omega, fun i hi => ?_, ?_⟩
      · have := hcopy i (by omega) (by omega)
        rw [Int.add_assoc, this, ← Int.add_assoc]
        exact k2 i hi
      · have := hcopy k0 (by omega) hk
        rw [Int.add_assoc p f, this, ← Int.add_assoc]
        exact k3
    · refine ⟨(m - f).toNat, by omega, fun i hi => ?_, ?_⟩
      · have := hcopy i (by omega) (by omega)
        rw [Int.add_assoc, this, ← Int.add_assoc]
        exact k2 i (by omega)
      · have hQ1 : 1 ≤ Q := by
          apply Nat.pos_of_ne_zero
          intro z
          rw [z] at hQ
          simp at hQ
          omega
        have hb := hback Q hQ1 (Nat.le_refl Q)
        rw [show p + f + (((m - f).toNat : Nat) : Int) = p + m by omega]
        have h7 : s (p + (((m - f).toNat : Nat) : Int)) ≤ s (p + (m - Q * d)) := by
          rw [show p + (m - Q * d) = p + r + (((m - f).toNat : Nat) : Int) by omega]
          by_cases z : (m - f).toNat = k0
          · rw [z]; omega
          · have := k2 (m - f).toNat (by omega)
            omega
        omega
theorem DUV.done {s : Int → Int} {n : Nat} {p c j : Int} (h : DUV s p c j) (hj : j ≤ n) (hend : j = n ∨ s j < s c) : LPL s n p (j - c) := by
  obtain ⟨h1, h2, h3, h4⟩ := h
  refine ⟨by omega, by omega, h4, fun M hM hMn hP => ?_⟩
  obtain ⟨k, k1, k2, k3⟩ := hP (j - c) (by omega) hM
  by_cases z : p + (j - c) + k < j
  · have := h3 (p + k) (by omega) (by omega)
    rw [show p + (k : Int) + (j - c) = p + (j - c) + k by omega] at this
    omega
  · rcases hend with y | y
    · omega
    · by_cases w : c - p < k
      · have := k2 (c - p).toNat (by omega)
        rw [show p + (((c - p).toNat : Nat) : Int) = c by omega, show p + (j - c) + (((c - p).toNat : Nat) : Int) = j by omega] at this
        omega
      · rw [show p + (k : Int) = c by omega, show p + (j - c) + (k : Int) = j by omega] at k3
        omega
theorem LPL.ex {s : Int → Int} {n : Nat} {p : Int} (hp : 0 ≤ p) (hpn : p < n) : ∃ L, LPL s n p L := by
  obtain ⟨d, d0, d1, d2, d3⟩ := first_ex (P := fun d => PLN s p (n - p - d)) (o := n - p - 1) (by omega) (by
    show PLN s p (n - p - (n - p - 1))
    rw [show (n : Int) - p - (n - p - 1) = 1 by omega]
    exact PLN_1)
  refine ⟨n - p - d, by omega, by omega, d2, fun M hM hMn hP => ?_⟩
  have := d3 (n - p - M) (by omega) (by omega)
  rw [show (n : Int) - p - (n - p - M) = M by omega] at this
  exact this hP
noncomputable def psz (s : Int → Int) (n : Nat) (p : Int) : Int := @dite Int (∃ L, LPL s n p L) (Classical.propDecidable _) (fun h => Classical.choose h) (fun _ => 1)
theorem psz_at {s : Int → Int} {n : Nat} {p : Int} (hp : 0 ≤ p) (hpn : p < n) : LPL s n p (psz s n p) := by
  have h := LPL.ex (s := s) hp hpn
  unfold psz
  rw [dif_pos h]
  exact Classical.choose_spec h
theorem psz_SZ (s : Int → Int) (n : Nat) : SZ (psz s n) n := fun p p0 p1 => ⟨(psz_at p0 p1).1, (psz_at p0 p1).2.1⟩
/-! pieces -/
noncomputable def qsz (s : Int → Int) (n : Nat) (p : Int) : Int := max 1 (kn s n p p.toNat : Int)
theorem qsz_SZ (s : Int → Int) (n : Nat) : SZ (qsz s n) n := fun p p0 p1 => by
  have := kn_le (s := s) (n := n) (p := p) p0 (by omega) (m := p.toNat) (by omega)
  unfold qsz
  omega
theorem le_kn {s : Int → Int} {n : Nat} (hs : WS s n) {k : Nat} (hk : 0 < k) {p : Int} (hp : 0 ≤ p) (hpn : p < n) : k ≤ kn s n p p.toNat ↔ ∃ q, 0 ≤ q ∧ q < p ∧ AG (en s n) (en s n) q p k := by
  have e := kn_lt (s := s) (n := n) (p := p) hk p.toNat
  constructor
  · intro h
    apply Classical.byContradiction
    intro z
    have := e.mpr (fun q q0 q1 => by
      apply Nat.lt_of_not_le
      intro y
      exact z ⟨q, q0, by omega, (le_LcE hs q0 (by omega) hp hpn (by omega)).mp y⟩)
    omega
  · intro ⟨q, q0, q1, q2⟩
    apply Nat.le_of_not_lt
    intro y
    have := e.mp y q q0 (by omega)
    have := (le_LcE hs q0 (by omega) hp hpn (by omega)).mpr q2
    omega
/-- what the two nearest ends that begin ahead have in common with it -/
def LOWQ (s : Int → Int) (n : Nat) (p v : Int) : Prop := 0 ≤ v ∧ v ≤ n - p ∧ ∀ k : Nat, 0 < k → ((k : Int) ≤ v ↔ ∃ q, 0 ≤ q ∧ q < p ∧ rk s n q < rk s n p ∧ AG (en s n) (en s n) q p k)
def UPPQ (s : Int → Int) (n : Nat) (p v : Int) : Prop := 0 ≤ v ∧ v ≤ n - p ∧ ∀ k : Nat, 0 < k → ((k : Int) ≤ v ↔ ∃ q, 0 ≤ q ∧ q < p ∧ rk s n p < rk s n q ∧ AG (en s n) (en s n) q p k)
theorem LOWQ.size {s : Int → Int} {n : Nat} (hs : WS s n) {p v u : Int} (hp : 0 ≤ p) (hpn : p < n) (h1 : LOWQ s n p v) (h2 : UPPQ s n p u) : max (max 1 v) u = qsz s n p := by
  have key : ∀ k : Nat, 0 < k → ((k : Int) ≤ max v u ↔ (k : Int) ≤ kn s n p p.toNat) := by
    intro k hk
    have e := le_kn hs hk hp hpn
    constructor
    · intro z
      have : k ≤ kn s n p p.toNat := by
        apply e.mpr
        by_cases y : (k : Int) ≤ v
        · obtain ⟨q, a, b, c, d⟩ := (h1.2.2 k hk).mp y
          exact ⟨q, a, b, d⟩
        · obtain ⟨q, a, b, c, d⟩ := (h2.2.2 k hk).mp (by omega)
          exact ⟨q, a, b, d⟩
      omega
    · intro z
      obtain ⟨q, q0, q1, q2⟩ := e.mp (by omega)
      rcases Nat.lt_trichotomy (rk s n q) (rk s n p) with w | w | w
      · have := (h1.2.2 k hk).mpr ⟨q, q0, q1, w, q2⟩
        omega
      · have := rk_inj hs q0 (by omega) hp hpn w
        omega
      · have := (h2.2.2 k hk).mpr ⟨q, q0, q1, w, q2⟩
        omega
  have h3 := h1.1
  have h4 := h2.1
  have k1 := key (max v u).toNat
  have k2 := key (kn s n p p.toNat)
  unfold qsz
  by_cases z : max v u ≤ 0
  · by_cases y : kn s n p p.toNat = 0
    · omega
    · have := (k2 (by omega)).mpr (Int.le_refl _)
      omega
  · have a1 := (k1 (by omega)).mp (by omega)
    by_cases y : kn s n p p.toNat = 0
    · omega
    · have := (k2 (by omega)).mpr (Int.le_refl _)
      omega
/-- the fewest words from a place on -/
def REC (sz : Int → Int) (n : Nat) (f : Int → Int) : Prop := f n = 0 ∧ ∀ p, 0 ≤ p → p < (n : Int) → (∀ l, 1 ≤ l → l ≤ sz p → f p ≤ f (p + l) + 1) ∧ ∃ l, 1 ≤ l ∧ l ≤ sz p ∧ f p = f (p + l) + 1
theorem REC.uniq {sz f g : Int → Int} {n : Nat} (hs : SZ sz n) (hf : REC sz n f) (hg : REC sz n g) : ∀ (d : Nat) (p : Int), 0 ≤ p → p ≤ n → n - p ≤ d → f p = g p := by
  intro d
  induction d with
  | zero =>
    intro p p0 p1 hd
    rw [show p = n by omega, hf.1, hg.1]
  | succ d ih =>
    intro p p0 p1 hd
    by_cases e : p = n
    · rw [e, hf.1, hg.1]
    · obtain ⟨a1, l, l1, l2, l3⟩ := hf.2 p p0 (by omega)
      obtain ⟨b1, m, m1, m2, m3⟩ := hg.2 p p0 (by omega)
      have h9 := hs p p0 (by omega)
      have e1 := ih (p + l) (by omega) (by omega) (by omega)
      have e2 := ih (p + m) (by omega) (by omega) (by omega)
      have := a1 m m1 m2
      have := b1 l l1 l2
      omega
theorem qsz_mono {s : Int → Int} {n : Nat} (hs : WS s n) {p : Int} (hp : 0 ≤ p) (hpn : p + 1 < n) : p + qsz s n p ≤ p + 1 + qsz s n (p + 1) := by
  unfold qsz
  by_cases z : kn s n p p.toNat ≤ 1
  · omega
  · obtain ⟨q, q0, q1, q2⟩ := (le_kn hs (k := kn s n p p.toNat) (by omega) hp (by omega)).mp (Nat.le_refl _)
    have h3 : AG (en s n) (en s n) (q + 1) (p + 1) (kn s n p p.toNat - 1) := AG.shift 1 (by rw [show 1 + (kn s n p p.toNat - 1) = kn s n p p.toNat by omega]; exact q2)
    have := (le_kn hs (k := kn s n p p.toNat - 1) (by omega) (show 0 ≤ p + 1 by omega) hpn).mpr ⟨q + 1, by omega, by omega, h3⟩
    omega
/-- taking the longest each time makes the fewest -/
theorem REC.greedy {sz f : Int → Int} {n : Nat} (hs : SZ sz n) (hm : ∀ p, 0 ≤ p → p + 1 < (n : Int) → p + sz p ≤ p + 1 + sz (p + 1)) (hf : REC sz n f) : (∀ (d : Nat) (p : Int), 0 ≤ p → p < (n : Int) → n - p ≤ d → f (p + 1) ≤ f p) := by
  intro d
  induction d with
  | zero => intro p p0 p1 hd; omega
  | succ d ih =>
    intro p p0 p1 hd
    obtain ⟨a1, l, l1, l2, l3⟩ := hf.2 p p0 p1
    have h9 := hs p p0 p1
    by_cases e : l = 1
    · rw [e] at l3; omega
    · have h5 := hm p p0 (by omega)
      have := (hf.2 (p + 1) (by omega) (by omega)).1 (l - 1) (by omega) (by omega)
      rw [show p + 1 + (l - 1) = p + l by omega] at this
      omega
theorem REC.down {sz f : Int → Int} {n : Nat} (hs : SZ sz n) (hm : ∀ p, 0 ≤ p → p + 1 < (n : Int) → p + sz p ≤ p + 1 + sz (p + 1)) (hf : REC sz n f) {p : Int} (hp : 0 ≤ p) : ∀ (d : Nat), p + d ≤ n → f (p + d) ≤ f p
  | 0, _ => by simp
  | d + 1, h => by
    have := REC.down hs hm hf hp d (by omega)
    have := REC.greedy hs hm hf n (p + d) (by omega) (by omega) (by omega)
    rw [show p + ((d + 1 : Nat) : Int) = p + d + 1 by omega]
    omega
theorem REC.cut {sz f : Int → Int} {n N : Nat} (hs : SZ sz n) (hm : ∀ p, 0 ≤ p → p + 1 < (n : Int) → p + sz p ≤ p + 1 + sz (p + 1)) (hf : REC sz n f) (hN : CUT sz n N) : f 0 = N := by
  have key : ∀ d i : Nat, i + d = N → f (stt sz i) = d := by
    intro d
    induction d with
    | zero =>
      intro i hi
      rw [show i = N by omega, hN.1, hf.1]
      rfl
    | succ d ih =>
      intro i hi
      have h1 := ih (i + 1) (by omega)
      obtain ⟨b0, b1⟩ := hN.at hs (i := i) (by omega)
      obtain ⟨a1, l, l1, l2, l3⟩ := hf.2 _ b0 b1
      have h9 := hs _ b0 b1
      have h2 : stt sz (i + 1) = stt sz i + sz (stt sz i) := rfl
      rw [h2] at h1
      have h3 := a1 (sz (stt sz i)) (by omega) (Int.le_refl _)
      have h4 := REC.down hs hm hf (p := stt sz i + l) (by omega) (sz (stt sz i) - l).toNat (by omega)
      rw [show stt sz i + l + (((sz (stt sz i) - l).toNat : Nat) : Int) = stt sz i + sz (stt sz i) by omega] at h4
      omega
  have := key N 0 (by omega)
  exact this

