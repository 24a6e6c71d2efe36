/-! THE LONGEST WORD OF SEVERAL TEXTS -/
theorem AGe {s s' : Int → Int} {n m : Nat} (hs : WS s n) (hs' : WS s' m) {p q : Int} {l : Nat} (hp : 0 ≤ p) (hpl : p + l ≤ n) (hq : 0 ≤ q) (hqm : q ≤ m) : AG (en s n) (en s' m) p q l ↔ l ≤ Lc s n s' m p q := by
  rw [le_Lc (by omega) hqm]
  constructor
  · intro h
    have hb : ∀ i : Nat, i < l → q + i < m := fun i hi => by
      have e := h i hi
      rw [en_lt (by omega)] at e
      have b := hs (p + i) (by omega) (by omega)
      apply Classical.byContradiction
      intro y
      rw [en_ge (by omega)] at e
      omega
    have hl : q + l ≤ m := by
      cases l with
      | zero => omega
      | succ l => have := hb l (by omega); omega
    refine ⟨hpl, hl, fun i hi => ?_⟩
    have e := h i hi
    rw [en_lt (by omega), en_lt (by omega)] at e
    exact e
  · intro ⟨_, h2, h3⟩ i hi
    rw [en_lt (by omega), en_lt (by omega)]
    exact h3 i hi
theorem Lc_le_trans {s s' s2 : Int → Int} {n m k p q r : Int} {l : Nat} (hp : p ≤ n) (hq : q ≤ m) (hr : r ≤ k) (h1 : l ≤ Lc s n s' m p q) (h2 : l ≤ Lc s' m s2 k q r) : l ≤ Lc s n s2 k p r := by
  rw [le_Lc hp hq] at h1
  rw [le_Lc hq hr] at h2
  rw [le_Lc hp hr]
  exact ⟨h1.1, h2.2.1, h1.2.2.trans h2.2.2⟩
/-- what the end has in common with the next one above -/
def RV (s : Int → Int) (n : Nat) (s' : Int → Int) (m : Nat) (pl' : Int → Int) (p : Int) (r : Nat) : Prop := ∃ u : Nat, u ≤ m ∧ (∀ k : Int, 0 ≤ k → k < u → EL (en s' m) (en s n) (pl' k) p) ∧ (u < m → ¬ EL (en s' m) (en s n) (pl' u) p) ∧ r = if u < m then Lc s n s' m p (pl' u) else 0
theorem RV_1 {s s' pl' ra' : Int → Int} {n m : Nat} {p : Int} {r : Nat} (hs' : WS s' m) (h : SA s' m pl' ra') (hr : RV s n s' m pl' p r) (h0 : 0 < r) : ∃ q, 0 ≤ q ∧ q < (m : Int) ∧ Lc s n s' m p q = r := by
  obtain ⟨u, u0, u1, u2, u3⟩ := hr
  by_cases e : u < m
  · rw [if_pos e] at u3
    have := h.at hs' (r := u) (by omega) (by omega)
    exact ⟨pl' u, this.1, this.2.1, u3.symm⟩
  · rw [if_neg e] at u3
    omega
theorem RV_2 {s s' pl' ra' : Int → Int} {n m : Nat} {p q : Int} {r l : Nat} (hs : WS s n) (hs' : WS s' m) (h : SA s' m pl' ra') (hp : 0 ≤ p) (hpn : p ≤ n) (hr : RV s n s' m pl' p r) (hq : 0 ≤ q) (hqm : q < m) (hl : l ≤ Lc s n s' m p q) (hn : ¬ EL (en s' m) (en s n) q p) : l ≤ r := by
  obtain ⟨u, u0, u1, u2, u3⟩ := hr
  have hk := h q hq hqm
  have hb := rk_bd (s := s') hq hqm
  have hku : u ≤ rk s' m q := by
    apply Classical.byContradiction
    intro y
    have := u1 (rk s' m q) (by omega) (by omega)
    rw [hk.2] at this
    exact hn this
  rw [if_pos (by omega)] at u3
  rw [u3]
  by_cases e : u = rk s' m q
  · rw [e, hk.2]
    exact hl
  · have y := h.at hs' (r := u) (by omega) (by omega)
    have e1 := h.lt hs' (i := u) (j := rk s' m q) (by omega) (by omega) hb
    rw [hk.2] at e1
    have hl2 := (le_Lc hpn (by omega)).mp hl
    apply Classical.byContradiction
    intro hc
    have n1 := u2 (by omega)
    rw [EL_iff hs' hs y.1 (by omega) hp hpn, Lc_sym] at n1
    have c1 := Lc_2 (s := s) (t := s') (n := n) (m := m) (p := p) (q := pl' u) hpn (by omega)
    have c2 : p + Lc s n s' m p (pl' u) < n := by omega
    have c3 : pl' u + Lc s n s' m p (pl' u) < m := by
      apply Classical.byContradiction
      intro z
      exact n1 ⟨c2, Or.inl (by omega)⟩
    have c4 := Lc_ne (s := s) (t := s') c2 c3
    have c5 : s (p + Lc s n s' m p (pl' u)) < s' (pl' u + Lc s n s' m p (pl' u)) := by
      apply Classical.byContradiction
      intro z
      exact n1 ⟨c2, Or.inr (by omega)⟩
    have e2 : EL (en s n) (en s' m) p (pl' u) := (EL_iff hs hs' hp hpn y.1 (by omega)).mpr ⟨c3, Or.inr c5⟩
    have e3 := AG_mid e2 e1 ((AGe hs hs' hp (by omega) hq (by omega)).mpr hl)
    exact hc ((AGe hs hs' hp (by omega) y.1 (by omega)).mp e3)
/-- a least one -/
theorem min_ex {P : Int → Prop} {T : Int → Int → Prop} (irr : ∀ a, ¬ T a a) (tr : ∀ a b c, T a b → T b c → T a c) : ∀ m : Nat, (∃ i : Int, 0 ≤ i ∧ i < m ∧ P i) → ∃ i : Int, 0 ≤ i ∧ i < m ∧ P i ∧ ∀ o : Int, 0 ≤ o → o < m → P o → ¬ T o i := by
  intro m
  induction m with
  | zero => intro ⟨i, i0, i1, _⟩; omega
  | succ m ih =>
    intro ⟨i, i0, i1, i2⟩
    by_cases hz : ∃ i : Int, 0 ≤ i ∧ i < m ∧ P i
    · obtain ⟨j, j0, j1, j2, j3⟩ := ih hz
      by_cases hm : P m ∧ T m j
      · refine ⟨m, by omega, by omega, hm.1, fun o o0 o1 o2 o3 => ?_⟩
        by_cases e : o = m
        · rw [e] at o3; exact irr _ o3
        · exact j3 o o0 (by omega) o2 (tr _ _ _ o3 hm.2)
      · refine ⟨j, j0, by omega, j2, fun o o0 o1 o2 o3 => ?_⟩
        by_cases e : o = m
        · rw [e] at o2 o3; exact hm ⟨o2, o3⟩
        · exact j3 o o0 (by omega) o2 o3
    · have : i = m := by
        apply Classical.byContradiction
        intro y
        exact hz ⟨i, i0, by omega, i2⟩
      rw [this] at i2
      refine ⟨m, by omega, by omega, i2, fun o o0 o1 o2 o3 => ?_⟩
      by_cases e : o = m
      · rw [e] at o3; exact irr _ o3
      · exact hz ⟨o, o0, by omega, o2⟩
/-- what is reached in so many texts -/
def RIM (R : Int → Int) (M many : Nat) (r : Int) : Prop := 0 ≤ r ∧ (r = 0 ∨ ∃ i : Int, 0 ≤ i ∧ i < M ∧ r = R i ∧ many ≤ cnt (fun o => R i ≤ R o) M) ∧ ∀ i : Int, 0 ≤ i → i < M → many ≤ cnt (fun o => R i ≤ R o) M → R i ≤ r
theorem RIM_ge {R : Int → Int} {M many : Nat} {r l : Int} (hr : RIM R M many r) (h1 : 1 ≤ many) (hl : many ≤ cnt (fun o => l ≤ R o) M) : l ≤ r := by
  obtain ⟨i, i0, i1, i2, i3⟩ := min_ex (P := fun o => l ≤ R o) (T := fun a b => R a < R b) (fun a => Int.lt_irrefl _) (fun a b c x y => Int.lt_trans x y) M (cnt_ex (by omega))
  have := hr.2.2 i i0 i1 (Nat.le_trans hl (cnt_mono M (fun o o0 o1 o2 => by have := i3 o o0 o1 o2; omega)))
  omega
/-- the word stands in the text o -/
def ST (N : Int → Nat) (S : Int → Int → Int) (i p : Int) (l : Nat) (o : Int) : Prop := ∃ q, 0 ≤ q ∧ q < (N o : Int) ∧ l ≤ Lc (S i) (N i) (S o) (N o) p q
def PW (M many : Nat) (N : Int → Nat) (S : Int → Int → Int) (i p : Int) (l : Nat) : Prop := (0 ≤ i ∧ i < (M : Int)) ∧ 1 ≤ l ∧ (0 ≤ p ∧ p + l ≤ N i) ∧ many ≤ cnt (fun o => ST N S i p l o) M
def TX (M : Nat) (N : Int → Nat) (S PL RA : Int → Int → Int) : Prop := ∀ t, 0 ≤ t → t < (M : Int) → N t ≤ 64 ∧ WS (S t) (N t) ∧ SA (S t) (N t) (PL t) (RA t)
theorem ST_same {M : Nat} {N : Int → Nat} {S : Int → Int → Int} {i p j q o : Int} {l : Nat} (hp : p ≤ N i) (hq : q ≤ N j) (h : l ≤ Lc (S i) (N i) (S j) (N j) p q) : ST N S i p l o ↔ ST N S j q l o := by
  constructor
  · intro ⟨r, r0, r1, r2⟩
    rw [Lc_sym] at h
    exact ⟨r, r0, r1, Lc_le_trans hq hp (by omega) h r2⟩
  · intro ⟨r, r0, r1, r2⟩
    exact ⟨r, r0, r1, Lc_le_trans hp hq (by omega) h r2⟩
/-- of all ends that begin with the word, a least one -/
theorem PW_min {M many : Nat} {N : Int → Nat} {S PL RA : Int → Int → Int} (hT : TX M N S PL RA) {i p : Int} {l : Nat} (h : PW M many N S i p l) : ∃ j q, PW M many N S j q l ∧ l ≤ Lc (S i) (N i) (S j) (N j) p q ∧ ∀ o r, 0 ≤ o → o < (M : Int) → 0 ≤ r → r < (N o : Int) → l ≤ Lc (S j) (N j) (S o) (N o) q r → ¬ EL (en (S o) (N o)) (en (S j) (N j)) r q := by
  obtain ⟨⟨i0, i1⟩, l1, ⟨p0, p1⟩, hm⟩ := h
  have ti := hT i i0 i1
  obtain ⟨z, z0, z1, ⟨z2, z3⟩, z4⟩ := min_ex (P := fun z => z % 64 < (N (z / 64) : Int) ∧ l ≤ Lc (S i) (N i) (S (z / 64)) (N (z / 64)) p (z % 64)) (T := fun a b => EL (en (S (a / 64)) (N (a / 64))) (en (S (b / 64)) (N (b / 64))) (a % 64) (b % 64)) (fun a => EL.irrefl) (fun a b c x y => x.trans y) (64 * M) ⟨64 * i + p, by omega, by omega, by
    have e1 : (64 * i + p) / 64 = i := by omega
    have e2 : (64 * i + p) % 64 = p := by omega
    rw [e1, e2]
    exact ⟨by omega, (le_Lc (by omega) (by omega)).mpr ⟨p1, p1, AG.refl _ _ _⟩⟩⟩
  have j0 : 0 ≤ z / 64 ∧ z / 64 < (M : Int) := by omega
  have q0 : 0 ≤ z % 64 := by omega
  have hb := (le_Lc (by omega) (by omega)).mp z3
  refine ⟨z / 64, z % 64, ⟨j0, l1, ⟨q0, hb.2.1⟩, ?_⟩, z3, fun o r o0 o1 r0 r1 r2 r3 => ?_⟩
  · rw [← cnt_congr M (fun o _ _ => ST_same (M := M) (N := N) (S := S) (o := o) (by omega) (by omega) z3)]
    exact hm
  · have to := hT o o0 o1
    have := z4 (64 * o + r) (by omega) (by omega)
    have e1 : (64 * o + r) / 64 = o := by omega
    have e2 : (64 * o + r) % 64 = r := by omega
    rw [e1, e2] at this
    exact this ⟨r1, Lc_le_trans (by omega) (by omega) (by omega) z3 r2⟩ r3
/-- a word is less than another of its length -/
def WL (s s' : Int → Int) (p q : Int) (l : Nat) : Prop := ∃ k : Nat, k < l ∧ AG s s' p q k ∧ s (p + k) < s' (q + k)
theorem WL.trans {s s' s2 : Int → Int} {p q r : Int} {l : Nat} (a : WL s s' p q l) (b : WL s' s2 q r l) : WL s s2 p r l := by
  obtain ⟨k, k0, k1, k2⟩ := a
  obtain ⟨j, j0, j1, j2⟩ := b
  rcases Nat.lt_trichotomy k j with h | h | h
  · exact ⟨k, k0, fun i hi => (k1 i hi).trans (j1 i (by omega)), by rw [← j1 k h]; exact k2⟩
  · subst h
    exact ⟨k, k0, k1.trans j1, Int.lt_trans k2 j2⟩
  · exact ⟨j, j0, fun i hi => (k1 i (by omega)).trans (j1 i hi), by rw [k1 j h]; exact j2⟩
theorem WL_Lc {s s' : Int → Int} {n m p q : Int} {l : Nat} (hp : p + l ≤ n) (hq : q + l ≤ m) : WL s s' p q l ↔ (Lc s n s' m p q < l ∧ s (p + Lc s n s' m p q) < s' (q + Lc s n s' m p q)) := by
  constructor
  · intro ⟨k, k0, k1, k2⟩
    have e : Lc s n s' m p q = k := Lc_uniq (by omega) (by omega) k1 (Or.inr (Or.inr (by omega)))
    rw [e]
    exact ⟨k0, k2⟩
  · intro ⟨h1, h2⟩
    exact ⟨_, h1, Lc_ag, h2⟩
theorem WL_tri {s s' : Int → Int} {p q : Int} {l : Nat} (h1 : ¬ WL s s' p q l) (h2 : ¬ WL s' s q p l) : AG s s' p q l := by
  rcases AG_or (x := s) (y := s') (p := p) (q := q) l with h | ⟨k, k0, k1, k2⟩
  · exact h
  · exfalso
    rcases Int.lt_or_gt_of_ne k2 with y | y
    · exact h1 ⟨k, k0, k1, y⟩
    · exact h2 ⟨k, k0, k1.sym, y⟩
/-- the best word -/
def BW (M many : Nat) (N : Int → Nat) (S : Int → Int → Int) (b p : Int) (l : Nat) : Prop := PW M many N S b p l ∧ ∀ i q k, PW M many N S i q k → k < l ∨ k = l ∧ ¬ WL (S i) (S b) q p l
theorem BW_one {M many : Nat} {N : Int → Nat} {S : Int → Int → Int} {b p b' p' : Int} {l l' : Nat} (h : BW M many N S b p l) (h' : BW M many N S b' p' l') : l = l' ∧ AG (S b) (S b') p p' l := by
  have x := h.2 b' p' l' h'.1
  have y := h'.2 b p l h.1
  have e : l = l' := by omega
  subst e
  rcases x with x | ⟨-, x⟩
  · omega
  rcases y with y | ⟨-, y⟩
  · omega
  exact ⟨rfl, WL_tri y x⟩
/-- what the class finds: by place, what is reached in so many texts -/
def RCH (M many : Nat) (N : Int → Nat) (S PL : Int → Int → Int) (i p r : Int) : Prop := ∃ R : Int → Int, (∀ o, 0 ≤ o → o < (M : Int) → ∃ v : Nat, R o = v ∧ RV (S i) (N i) (S o) (N o) (PL o) p v) ∧ RIM R M many r
theorem RCH_PW {M many : Nat} {N : Int → Nat} {S PL RA : Int → Int → Int} (hT : TX M N S PL RA) {i p r : Int} (hi : 0 ≤ i) (hiM : i < M) (hp : 0 ≤ p) (hpn : p < N i) (h : RCH M many N S PL i p r) (h1 : 1 ≤ many) (h0 : 0 < r) : PW M many N S i p r.toNat := by
  obtain ⟨R, h2, h3, h4, h5⟩ := h
  rcases h4 with h4 | ⟨j, j0, j1, j2, j3⟩
  · omega
  have key : ∀ o, 0 ≤ o → o < (M : Int) → R j ≤ R o → ∃ q, 0 ≤ q ∧ q < (N o : Int) ∧ r.toNat ≤ Lc (S i) (N i) (S o) (N o) p q := fun o o0 o1 o2 => by
    obtain ⟨v, v0, v1⟩ := h2 o o0 o1
    obtain ⟨q, q0, q1, q2⟩ := RV_1 (hT o o0 o1).2.1 (hT o o0 o1).2.2 v1 (by omega)
    exact ⟨q, q0, q1, by omega⟩
  obtain ⟨q, q0, q1, q2⟩ := key j j0 j1 (Int.le_refl _)
  have := (le_Lc (by omega) (by omega)).mp q2
  exact ⟨⟨hi, hiM⟩, by omega, ⟨hp, by omega⟩, Nat.le_trans j3 (cnt_mono M (fun o o0 o1 o2 => key o o0 o1 o2))⟩
theorem PW_RCH {M many : Nat} {N : Int → Nat} {S PL RA : Int → Int → Int} (hT : TX M N S PL RA) (h1 : 1 ≤ many) {i p : Int} {l : Nat} (h : PW M many N S i p l) : ∃ j q, PW M many N S j q l ∧ l ≤ Lc (S i) (N i) (S j) (N j) p q ∧ ∀ r, RCH M many N S PL j q r → (l : Int) ≤ r := by
  obtain ⟨j, q, a, b, c⟩ := PW_min hT h
  refine ⟨j, q, a, b, fun r hr => ?_⟩
  obtain ⟨R, h2, h3⟩ := hr
  refine RIM_ge h3 h1 (Nat.le_trans a.2.2.2 (cnt_mono M (fun o o0 o1 o2 => ?_)))
  obtain ⟨x, x0, x1, x2⟩ := o2
  obtain ⟨v, v0, v1⟩ := h2 o o0 o1
  have tj := hT j a.1.1 a.1.2
  have to := hT o o0 o1
  have := RV_2 tj.2.1 to.2.1 to.2.2 a.2.2.1.1 (by have := a.2.2.1.2; omega) v1 x0 x1 x2 (c o x o0 o1 x0 x1 x2)
  omega
/-- the class's best one, so far: f says what was looked at -/
def CB (M many : Nat) (N : Int → Nat) (S PL : Int → Int → Int) (f : Int → Int → Prop) (b p l : Int) : Prop := 0 ≤ l ∧ ((b = -1 ∧ l = 0) ∨ (0 < l ∧ PW M many N S b p l.toNat)) ∧ ∀ i q, f i q → (∃ r, RCH M many N S PL i q r ∧ (r < l ∨ r = l ∧ (l = 0 ∨ ¬ WL (S i) (S b) q p l.toNat))) ∨ (N i : Int) - q < l
theorem CB_BW {M many : Nat} {N : Int → Nat} {S PL RA : Int → Int → Int} (hT : TX M N S PL RA) (h1 : 1 ≤ many) {f : Int → Int → Prop} {b p l : Int} (hf : ∀ i q, 0 ≤ i → i < (M : Int) → 0 ≤ q → q < (N i : Int) → f i q) (h : CB M many N S PL f b p l) : (l = 0 → ∀ i q k, ¬ PW M many N S i q k) ∧ (0 < l → BW M many N S b p l.toNat) := by
  obtain ⟨l0, h2, h3⟩ := h
  have key : ∀ i q k, PW M many N S i q k → ∃ j x, PW M many N S j x k ∧ k ≤ Lc (S i) (N i) (S j) (N j) q x ∧ ((k : Int) < l ∨ (k : Int) = l ∧ ¬ WL (S j) (S b) x p l.toNat) := by
    intro i q k hk
    obtain ⟨j, x, a, e, c⟩ := PW_RCH hT h1 hk
    have b1 := a.2.2.1
    have b2 := a.2.1
    refine ⟨j, x, a, e, ?_⟩
    rcases h3 j x (hf j x a.1.1 a.1.2 b1.1 (by omega)) with ⟨r, hr, z⟩ | z
    · have y := c r hr
      rcases z with z | ⟨z, w⟩
      · exact Or.inl (by omega)
      · by_cases u : (k : Int) < l
        · exact Or.inl u
        · refine Or.inr ⟨by omega, ?_⟩
          rcases w with w | w
          · omega
          · exact w
    · exact Or.inl (by omega)
  constructor
  · intro e i q k hk
    obtain ⟨j, x, a, -, c⟩ := key i q k hk
    have b2 := a.2.1
    omega
  · intro e
    rcases h2 with h2 | h2
    · omega
    refine ⟨h2.2, fun i q k hk => ?_⟩
    obtain ⟨j, x, a, a2, c⟩ := key i q k hk
    rcases c with c | ⟨c, d⟩
    · exact Or.inl (by omega)
    · refine Or.inr ⟨by omega, fun w => d ?_⟩
      obtain ⟨m, m0, m1, m2⟩ := w
      have hA := ((le_Lc (by have := hk.2.2.1; omega) (by have := a.2.2.1; omega)).mp a2).2.2
      refine ⟨m, m0, fun y hy => (hA y (by omega)).symm.trans (m1 y hy), ?_⟩
      rw [← hA m (by omega)]
      exact m2
theorem CB_no {M many : Nat} {N : Int → Nat} {S PL : Int → Int → Int} {f g : Int → Int → Prop} {b p l i q r : Int} (h : CB M many N S PL f b p l) (hg : ∀ a x, g a x → f a x ∨ a = i ∧ x = q) (hr : RCH M many N S PL i q r) (hn : r < l ∨ r = l ∧ (l = 0 ∨ ¬ WL (S i) (S b) q p l.toNat)) : CB M many N S PL g b p l := by
  refine ⟨h.1, h.2.1, fun a x z => ?_⟩
  rcases hg a x z with y | ⟨rfl, rfl⟩
  · exact h.2.2 a x y
  · exact Or.inl ⟨r, hr, hn⟩
theorem CB_yes {M many : Nat} {N : Int → Nat} {S PL : Int → Int → Int} {f g : Int → Int → Prop} {b p l i q r : Int} (h : CB M many N S PL f b p l) (hg : ∀ a x, g a x → f a x ∨ a = i ∧ x = q) (hr : RCH M many N S PL i q r) (h0 : 0 < r) (hp : PW M many N S i q r.toNat) (hn : l < r ∨ r = l ∧ WL (S i) (S b) q p l.toNat) : CB M many N S PL g i q r := by
  refine ⟨by omega, Or.inr ⟨h0, hp⟩, fun a x z => ?_⟩
  rcases hg a x z with y | ⟨rfl, rfl⟩
  · rcases h.2.2 a x y with ⟨r', h3, h4⟩ | h3
    · refine Or.inl ⟨r', h3, ?_⟩
      rcases hn with hn | ⟨rfl, hn⟩
      · exact Or.inl (by omega)
      · rcases h4 with h4 | ⟨h4, h5⟩
        · exact Or.inl h4
        · refine Or.inr ⟨h4, Or.inr fun w => ?_⟩
          rcases h5 with h5 | h5
          · omega
          · exact h5 (w.trans hn)
    · exact Or.inr (by omega)
  · exact Or.inl ⟨r, hr, Or.inr ⟨rfl, Or.inr fun ⟨k, _, _, k2⟩ => Int.lt_irrefl _ k2⟩⟩
theorem CB_end {M many : Nat} {N : Int → Nat} {S PL : Int → Int → Int} {f g : Int → Int → Prop} {b p l : Int} (h : CB M many N S PL f b p l) (hg : ∀ a x, g a x → f a x ∨ (N a : Int) - x < l) : CB M many N S PL g b p l := by
  refine ⟨h.1, h.2.1, fun a x z => ?_⟩
  rcases hg a x z with y | y
  · exact h.2.2 a x y
  · exact Or.inr y
