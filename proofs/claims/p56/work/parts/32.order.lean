variable {WM : List (Nat × Nat)} {wd : Bool}
/-! STRICT ORDERS OF NUMBERS, and the counting sort -/
def STO (T : Int → Int → Prop) (n : Int) : Prop := (∀ i, ¬ T i i) ∧ (∀ i j k, T i j → T j k → T i k) ∧ ∀ i j, 0 ≤ i → i < n → 0 ≤ j → j < n → i ≠ j → T i j ∨ T j i
noncomputable def rT (T : Int → Int → Prop) (n q : Int) : Nat := cnt (fun p => T p q) n.toNat
theorem rT_lt {T : Int → Int → Prop} {n p q : Int} (hT : STO T n) (hp : 0 ≤ p) (hpn : p < n) (h : T p q) : rT T n p < rT T n q :=
  cnt_lt (a := p) (fun _ _ _ z => hT.2.1 _ _ _ z h) hp (by omega) h (hT.1 p)
theorem rT_iff {T : Int → Int → Prop} {n p q : Int} (hT : STO T n) (hp : 0 ≤ p) (hpn : p < n) (hq : 0 ≤ q) (hqn : q < n) : T p q ↔ rT T n p < rT T n q := by
  refine ⟨rT_lt hT hp hpn, fun h => ?_⟩
  by_cases e : p = q
  · subst e
    omega
  · rcases hT.2.2 p q hp hpn hq hqn e with h1 | h1
    · exact h1
    · have := rT_lt hT hq hqn h1
      omega
theorem rT_inj {T : Int → Int → Prop} {n p q : Int} (hT : STO T n) (hp : 0 ≤ p) (hpn : p < n) (hq : 0 ≤ q) (hqn : q < n) (h : rT T n p = rT T n q) : p = q := by
  apply Classical.byContradiction
  intro e
  rcases hT.2.2 p q hp hpn hq hqn e with h1 | h1
  · have := rT_lt hT hp hpn h1
    omega
  · have := rT_lt hT hq hqn h1
    omega
theorem rT_bd {T : Int → Int → Prop} {n p : Int} (hT : STO T n) (hp : 0 ≤ p) (hpn : p < n) : (rT T n p : Int) < n := by
  have h1 := cnt_lt (P := fun q => T q p) (Q := fun _ => True) (m := n.toNat) (a := p) (fun _ _ _ _ => trivial) hp (by omega) trivial (hT.1 p)
  have h2 := cnt_le (fun _ => True) n.toNat
  unfold rT
  omega
/-- an injection of the first numbers into themselves meets all -/
theorem inj_sur {f : Int → Int} {n r : Int} (h1 : ∀ i, 0 ≤ i → i < n → 0 ≤ f i ∧ f i < n) (h2 : ∀ i j, 0 ≤ i → i < n → 0 ≤ j → j < n → f i = f j → i = j) (hr : 0 ≤ r) (hrn : r < n) : ∃ p, 0 ≤ p ∧ p < n ∧ f p = r := by
  apply Classical.byContradiction
  intro hn
  have h3 := cnt_inj (P := fun _ => True) f n.toNat (Q := fun i => True ∧ i ≠ r) (m' := n.toNat) (fun i h0 h4 _ => ⟨(h1 i h0 (by omega)).1, by have := (h1 i h0 (by omega)).2; omega, trivial, fun e => hn ⟨i, h0, by omega, e⟩⟩) (fun i j h0 h4 _ h5 h6 _ e => h2 i j h0 (by omega) h5 (by omega) e)
  have h4 := cnt_del (P := fun _ => True) (a := r) n.toNat hr (by omega) trivial
  omega
theorem rT_sur {T : Int → Int → Prop} {n r : Int} (hT : STO T n) (hr : 0 ≤ r) (hrn : r < n) : ∃ p, 0 ≤ p ∧ p < n ∧ (rT T n p : Int) = r :=
  inj_sur (f := fun p => (rT T n p : Int)) (fun i h0 h1 => ⟨by omega, rT_bd hT h0 h1⟩) (fun i j a b c d e => rT_inj hT a b c d (by omega)) hr hrn
/-- counting along a row that holds each number once -/
theorem cnt_perm {P : Int → Prop} {b : Int → Int} {n : Nat} (h1 : ∀ i, 0 ≤ i → i < (n : Int) → 0 ≤ b i ∧ b i < n) (h2 : ∀ i j, 0 ≤ i → i < (n : Int) → 0 ≤ j → j < (n : Int) → b i = b j → i = j) : cnt (fun i => P (b i)) n = cnt P n := by
  have key : ∀ P : Int → Prop, cnt (fun i => P (b i)) n ≤ cnt P n := fun P => cnt_inj b n (fun i a c d => ⟨(h1 i a c).1, (h1 i a c).2, d⟩) (fun i j a c _ a' c' _ e => h2 i j a c a' c' e)
  apply Nat.le_antisymm (key P)
  have h3 := key (fun i => ¬ P i)
  have h4 := cnt_not P n
  have h5 := cnt_not (fun i => P (b i)) n
  omega
theorem cnt_cut {P : Int → Prop} {k : Nat} : ∀ m : Nat, k ≤ m → cnt (fun i => P i ∧ i < (k : Int)) m = cnt P k
  | 0, h => by
    rw [show k = 0 by omega]
    rfl
  | m + 1, h => by
    by_cases e : k = m + 1
    · rw [e]
      exact cnt_congr _ fun i h0 h1 => ⟨fun z => z.1, fun z => ⟨z, h1⟩⟩
    · rw [cnt_f (P := fun i => P i ∧ i < (k : Int)) (fun z => by have := z.2; omega)]
      exact cnt_cut m (by omega)
/-- the place that the counting sort gives the i-th of b, by the keys c -/
def pT (c b : Int → Int) (j i : Int) : Prop := c (b j) < c (b i) ∨ c (b j) = c (b i) ∧ j < i
theorem pT_sto (c b : Int → Int) (n : Int) : STO (pT c b) n := by
  refine ⟨fun i z => ?_, fun i j k z1 z2 => ?_, fun i j _ _ _ _ e => ?_⟩
  · unfold pT at z
    omega
  · unfold pT at z1 z2 ⊢
    omega
  · unfold pT
    omega
theorem pT_cnt {c b : Int → Int} {n : Nat} {i : Int} (h1 : ∀ i, 0 ≤ i → i < (n : Int) → 0 ≤ b i ∧ b i < n) (h2 : ∀ i j, 0 ≤ i → i < (n : Int) → 0 ≤ j → j < (n : Int) → b i = b j → i = j) (hi : 0 ≤ i) (hin : i < n) : cnt (fun p => c p < c (b i)) n + cnt (fun j => c (b j) = c (b i)) i.toNat = rT (pT c b) n i := by
  unfold rT
  rw [Int.toNat_natCast]
  rw [← cnt_perm (P := fun p => c p < c (b i)) h1 h2, ← cnt_cut (P := fun j => c (b j) = c (b i)) (k := i.toNat) n (by omega), ← cnt_or n (fun j _ _ z1 z2 => by omega)]
  refine cnt_congr n fun j h3 h4 => ?_
  unfold pT
  rw [Int.toNat_of_nonneg hi]
theorem L_obc_1 {kc ks : Nat} {Q : PQ} {X : PX} {a : Nat} (ta : isT a) (h0 : Hh) (k : ∀ h : Hh, (∀ d, d ≠ 6 → h d = h0 d) → (∀ v, 0 ≤ v → v < 65 → h 6 v = 0) → am_V M_X1_orderByClass kc ks 26 [aR 5, aR a, aI 0, aU, aU] [] (RM WM wd) h Q X) :
    ∀ (m : Nat) (x : Int) (h : Hh), 65 - x = m → 0 ≤ x → (∀ d, d ≠ 6 → h d = h0 d) → (∀ v, 0 ≤ v → v < x → h 6 v = 0) → am_V M_X1_orderByClass kc ks 2 [aR 5, aR a, aI x, aU, aU] [] (RM WM wd) h Q X := by
  intro m
  induction m with
  | zero =>
    intro x h hm hx hf hz
    exact S_X1_orderByClass_2 ta ⟨fun _ => k h hf (fun v h1 h2 => hz v h1 (by omega)), fun c => absurd c (by omega)⟩
  | succ m ih =>
    intro x h hm hx hf hz
    refine S_X1_orderByClass_2 ta ⟨fun c => absurd c (by omega), fun c => ⟨by omega, ih (x + 1) _ (by omega) (by omega) (fun d hd => by rw [am_st_o hd]; exact hf d hd) (fun v h1 h2 => ?_)⟩⟩
    by_cases e : v = x
    · rw [e, am_st_s]
    · rw [am_st_n (Or.inr e)]
      exact hz v h1 (by omega)
theorem L_obc_2 {kc ks : Nat} {Q : PQ} {X : PX} {a : Nat} (ta : isT a) (h0 : Hh) (c : Int → Int) {n : Nat} (hn : h0 a 4 = n) (hn64 : n ≤ 64) (hc : ∀ p, 0 ≤ p → p < (n : Int) → h0 (a + 3) p = c p ∧ 0 ≤ c p ∧ c p < 64) (k : ∀ h : Hh, (∀ d, d ≠ 6 → h d = h0 d) → (∀ v, 0 ≤ v → v < 65 → h 6 v = cnt (fun p => c p + 1 = v) n) → am_V M_X1_orderByClass kc ks 59 [aR 5, aR a, aI 1, aU, aU] [] (RM WM wd) h Q X) :
    ∀ (m i : Nat) (h : Hh), i + m = n → (∀ d, d ≠ 6 → h d = h0 d) → (∀ v, 0 ≤ v → v < 65 → h 6 v = cnt (fun p => c p + 1 = v) i) → am_V M_X1_orderByClass kc ks 26 [aR 5, aR a, aI i, aU, aU] [] (RM WM wd) h Q X := by
  have ha : a ≠ 6 ∧ a + 3 ≠ 6 := by obtain ⟨_, _, z9⟩ := id ta; omega
  intro m
  induction m with
  | zero =>
    intro i h hm hf hz
    refine S_X1_orderByClass_26 ta ⟨fun _ => k h hf (by rw [show n = i by omega]; exact hz), fun z => ?_⟩
    rw [hf a ha.1, hn] at z
    omega
  | succ m ih =>
    intro i h hm hf hz
    have hci := hc i (by omega) (by omega)
    have h3 : h (a + 3) i = c i := by rw [hf _ ha.2]; exact hci.1
    have hle := cnt_le (fun p => c p + 1 = c i + 1) i
    refine S_X1_orderByClass_26 ta ⟨fun z => ?_, fun _ => ?_⟩
    · rw [hf a ha.1, hn] at z
      omega
    · rw [h3, hz (c i + 1) (by omega) (by omega)]
      refine ⟨by omega, ih (i + 1) _ (by omega) (fun d hd => by rw [am_st_o hd]; exact hf d hd) (fun v h1 h2 => ?_)⟩
      by_cases e : v = c i + 1
      · rw [e, am_st_s, cnt_t (P := fun p => c p + 1 = c i + 1) rfl]
        omega
      · rw [am_st_n (Or.inr e), cnt_f (P := fun p => c p + 1 = v) (fun z => e z.symm)]
        exact hz v h1 h2
theorem L_obc_3 {kc ks : Nat} {Q : PQ} {X : PX} {a : Nat} (ta : isT a) (h0 : Hh) (c : Int → Int) {n : Nat} (hn64 : n ≤ 64) (hc0 : ∀ p, 0 ≤ p → p < (n : Int) → 0 ≤ c p ∧ c p < 64) (k : ∀ h : Hh, (∀ d, d ≠ 6 → h d = h0 d) → (∀ v, 0 ≤ v → v < 65 → h 6 v = cnt (fun p => c p < v) n) → am_V M_X1_orderByClass kc ks 93 [aR 5, aR a, aI 0, aU, aU] [] (RM WM wd) h Q X) :
    ∀ (m : Nat) (x : Int) (h : Hh), 65 - x = m → 1 ≤ x → (∀ d, d ≠ 6 → h d = h0 d) → (∀ v, 0 ≤ v → v < x → h 6 v = cnt (fun p => c p < v) n) → (∀ v, x ≤ v → v < 65 → h 6 v = cnt (fun p => c p + 1 = v) n) → am_V M_X1_orderByClass kc ks 59 [aR 5, aR a, aI x, aU, aU] [] (RM WM wd) h Q X := by
  intro m
  induction m with
  | zero =>
    intro x h hm hx hf hz hy
    exact S_X1_orderByClass_59 ta ⟨fun _ => k h hf (fun v h1 h2 => hz v h1 (by omega)), fun c => absurd c (by omega)⟩
  | succ m ih =>
    intro x h hm hx hf hz hy
    have e1 := hy x (by omega) (by omega)
    have e2 := hz (x - 1) (by omega) (by omega)
    have l1 := cnt_le (fun p => c p + 1 = x) n
    have l2 := cnt_le (fun p => c p < x - 1) n
    refine S_X1_orderByClass_59 ta ⟨fun c => absurd c (by omega), fun _ => ?_⟩
    rw [e1, e2]
    refine ⟨by omega, ih (x + 1) _ (by omega) (by omega) (fun d hd => by rw [am_st_o hd]; exact hf d hd) (fun v h1 h2 => ?_) (fun v h1 h2 => ?_)⟩
    · by_cases e : v = x
      · rw [e, am_st_s]
        have h3 := cnt_or (P := fun p => c p + 1 = x) (Q := fun p => c p < x - 1) n (fun i _ _ z1 z2 => by omega)
        rw [cnt_congr n (P := fun p => c p < x) (Q := fun i => c i + 1 = x ∨ c i < x - 1) (fun i _ _ => ⟨fun z => by omega, fun z => by omega⟩)]
        omega
      · rw [am_st_n (Or.inr e)]
        exact hz v h1 (by omega)
    · rw [am_st_n (Or.inr (by omega))]
      exact hy v (by omega) h2
theorem L_obc_4 {kc ks : Nat} {Q : PQ} {X : PX} {a : Nat} (ta : isT a) (h0 : Hh) (c b : Int → Int) {n : Nat} (hn : h0 a 4 = n) (hn64 : n ≤ 64) (hc : ∀ p, 0 ≤ p → p < (n : Int) → h0 (a + 3) p = c p ∧ 0 ≤ c p ∧ c p < 64) (hb : ∀ i, 0 ≤ i → i < (n : Int) → h0 7 i = b i) (h1 : ∀ i, 0 ≤ i → i < (n : Int) → 0 ≤ b i ∧ b i < n) (h2 : ∀ i j, 0 ≤ i → i < (n : Int) → 0 ≤ j → j < (n : Int) → b i = b j → i = j) (hQ : ∀ h : Hh, (∀ d, d ≠ 6 → d ≠ a + 2 → h d = h0 d) → (∀ i, 0 ≤ i → i < (n : Int) → h (a + 2) (rT (pT c b) n i) = b i) → Q [] (RM WM wd) h) :
    ∀ (m i : Nat) (h : Hh), i + m = n → (∀ d, d ≠ 6 → d ≠ a + 2 → h d = h0 d) → (∀ v, 0 ≤ v → v < 65 → h 6 v = cnt (fun p => c p < v) n + cnt (fun j => c (b j) = v) i) → (∀ j, 0 ≤ j → j < (i : Int) → h (a + 2) (rT (pT c b) n j) = b j) → am_V M_X1_orderByClass kc ks 93 [aR 5, aR a, aI i, aU, aU] [] (RM WM wd) h Q X := by
  have ha : a ≠ 6 ∧ a ≠ a + 2 ∧ a + 3 ≠ 6 ∧ a + 3 ≠ a + 2 ∧ (7 : Nat) ≠ 6 ∧ 7 ≠ a + 2 ∧ a + 2 ≠ 6 := by obtain ⟨_, _, z9⟩ := id ta; omega
  intro m
  induction m with
  | zero =>
    intro i h hm hf hz hp
    refine S_X1_orderByClass_93 ta ⟨fun _ => hQ h hf (by rw [show n = i by omega] at hp ⊢; exact hp), fun z => ?_⟩
    rw [hf a ha.1 ha.2.1, hn] at z
    omega
  | succ m ih =>
    intro i h hm hf hz hp
    have hbi := hb i (by omega) (by omega)
    have hb1 := h1 i (by omega) (by omega)
    have hci := hc (b i) hb1.1 hb1.2
    have e7 : h 7 i = b i := by rw [hf _ ha.2.2.2.2.1 ha.2.2.2.2.2.1]; exact hbi
    have e3 : h (a + 3) (b i) = c (b i) := by rw [hf _ ha.2.2.1 ha.2.2.2.1]; exact hci.1
    have e6 := hz (c (b i)) hci.2.1 (by omega)
    have hpos := pT_cnt (c := c) (b := b) (n := n) (i := i) h1 h2 (by omega) (by omega)
    rw [Int.toNat_natCast] at hpos
    have e6' : h 6 (c (b i)) = rT (pT c b) n i := by rw [e6, ← hpos]; omega
    have hbd := rT_bd (pT_sto c b n) (p := i) (by omega) (by omega)
    refine S_X1_orderByClass_93 ta ⟨fun z => ?_, fun _ => ?_⟩
    · rw [hf a ha.1 ha.2.1, hn] at z
      omega
    · rw [e7, e3, e6', am_st_n (Or.inl (show 6 ≠ a + 2 by omega)), e6']
      refine ⟨by omega, ih (i + 1) _ (by omega) (fun d d1 d2 => by rw [am_st_o d1, am_st_o d2]; exact hf d d1 d2) (fun v v1 v2 => ?_) (fun j j1 j2 => ?_)⟩
      · by_cases e : v = c (b i)
        · rw [e, am_st_s, cnt_t (P := fun j => c (b j) = c (b i)) rfl, ← hpos]
          omega
        · rw [am_st_n (Or.inr e), am_st_n (Or.inl (show 6 ≠ a + 2 by omega)), cnt_f (P := fun j => c (b j) = v) (fun z => e z.symm)]
          exact hz v v1 v2
      · rw [am_st_n (Or.inl ha.2.2.2.2.2.2)]
        by_cases e : j = i
        · rw [e, am_st_s]
        · rw [am_st_n (Or.inr (fun z => e (rT_inj (pT_sto c b n) j1 (by omega) (by omega) (by omega) (by omega))))]
          exact hp j j1 (by omega)
theorem L_orderByClass {kc ks : Nat} {Q : PQ} {X : PX} {a : Nat} (ta : isT a) (h0 : Hh) (c b : Int → Int) {n : Nat} (hn : h0 a 4 = n) (hn64 : n ≤ 64) (hc : ∀ p, 0 ≤ p → p < (n : Int) → h0 (a + 3) p = c p ∧ 0 ≤ c p ∧ c p < 64) (hb : ∀ i, 0 ≤ i → i < (n : Int) → h0 7 i = b i) (h1 : ∀ i, 0 ≤ i → i < (n : Int) → 0 ≤ b i ∧ b i < n) (h2 : ∀ i j, 0 ≤ i → i < (n : Int) → 0 ≤ j → j < (n : Int) → b i = b j → i = j) (hQ : ∀ h : Hh, (∀ d, d ≠ 6 → d ≠ a + 2 → h d = h0 d) → (∀ i, 0 ≤ i → i < (n : Int) → h (a + 2) (rT (pT c b) n i) = b i) → Q [] (RM WM wd) h) :
    am_V M_X1_orderByClass kc ks 0 [aR 5, aR a, aU, aU, aU] [] (RM WM wd) h0 Q X := by
  refine S_X1_orderByClass_0 ta ?_
  refine L_obc_1 ta h0 (fun h f1 z1 => ?_) 65 0 h0 (by omega) (by omega) (fun _ _ => rfl) (fun v _ _ => by omega)
  refine L_obc_2 ta h0 c hn hn64 hc (fun h f2 z2 => ?_) n 0 h (by omega) f1 (fun v v1 v2 => z1 v v1 v2)
  refine L_obc_3 ta h0 c hn64 (fun p p1 p2 => (hc p p1 p2).2) (fun h f3 z3 => ?_) 64 1 h (by omega) (by omega) f2 (fun v v1 v2 => ?_) (fun v v1 v2 => z2 v (by omega) v2)
  · exact L_obc_4 ta h0 c b hn hn64 hc hb h1 h2 hQ n 0 h (by omega) (fun d d1 d2 => f3 d d1) (fun v v1 v2 => by rw [z3 v v1 v2]; rfl) (fun j _ _ => by omega)
  · rw [show v = 0 by omega, z2 0 (by omega) (by omega), cnt_zero (P := fun p => c p + 1 = 0) (fun p p1 p2 z => by have := (hc p p1 p2).2.1; omega), cnt_zero (P := fun p => c p < 0) (fun p p1 p2 z => by have := (hc p p1 p2).2.1; omega)]

