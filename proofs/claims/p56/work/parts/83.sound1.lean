variable {WM : List (Nat × Nat)} {wd : Bool}
/-! isSound: what comes back, and the parts -/
theorem C_cb_9 {kc ks : Nat} {Q : PQ} {X : PX} {a n : Nat} {s pl ra : Int → Int} (h0 : Hh) (hC : CT h0 a n s pl ra) (hQ : ∀ h : Hh, (∀ d, d ≠ 11 → h d = h0 d) → (∀ k, 0 ≤ k → k < ((n + 1 : Nat) : Int) → h 11 k = LSg s n pl k) → am_V M_X7_turnBack 0 0 0 [aR 9, aR 11, aI ((n + 1 : Nat) : Int), aU, aU] [] (RM WM wd) h (fun v ρ' h' => am_V M_X7_comesBack kc ks 40 [aR 9, aR a, aI ((n + 1 : Nat) : Int), aU] (v ++ []) ρ' h' Q X) X) : ∀ (d i : Nat) (h : Hh), i + d = n + 1 → (∀ d, d ≠ 11 → h d = h0 d) → (∀ k, 0 ≤ k → k < (i : Int) → h 11 k = LSg s n pl k) → am_V M_X7_comesBack kc ks 9 [aR 9, aR a, aI ((n + 1 : Nat) : Int), aI i] [] (RM WM wd) h Q X := by
  obtain ⟨t0, h64, hn, -, -, -, hs, hSA, -⟩ := id hC
  have hat : ∃ i : Nat, i < 8 ∧ a = 32 + 5 * i := t0
  obtain ⟨ia, ia8, iae⟩ := hat
  intro d
  induction d with
  | zero =>
    intro i h hi hf hz
    exact S_X7_comesBack_9 t0 ⟨fun _ => hQ h hf (fun k k0 k1 => hz k k0 (by omega)), fun z => absurd z (by omega)⟩
  | succ d ih =>
    intro i h hi hf hz
    have hCh : CT h a n s pl ra := hC.of (fun j hj => hf _ (by omega))
    have rg := LS_ty hs hSA (r := i) (by omega) (by omega)
    refine S_X7_comesBack_9 t0 ⟨fun z => absurd z (by omega), fun _ => C_lastSign hCh (by omega) (by omega) (S_X7_comesBack_24 t0 ?_)⟩
    rw [Int.emod_eq_of_lt (by omega) (by omega)]
    refine ⟨by omega, ih (i + 1) _ (by omega) (fun d hd => by rw [am_st_o hd]; exact hf d hd) (fun k k0 k1 => ?_)⟩
    rw [am_st_i]
    by_cases e : k = i
    · rw [if_pos e, e]
    · rw [if_neg e]
      exact hz k k0 (by omega)
theorem C_cb_47 {kc ks : Nat} {h : Hh} {Q : PQ} {X : PX} {a n : Nat} {s pl ra : Int → Int} (hC : CT h a n s pl ra) (h12 : ∀ i : Int, 0 ≤ i → i < ((n + 1 : Nat) : Int) → h 12 i = LFm (LSg s n pl) (n + 1) i) (hQ : am_V M_X7_comesBack kc ks 76 [aR 9, aR a, aU, aI 0] [] (RM WM wd) h Q X) : ∀ (d i : Nat), i + d = n + 1 → am_V M_X7_comesBack kc ks 47 [aR 9, aR a, aI ((n + 1 : Nat) : Int), aI i] [] (RM WM wd) h Q X := by
  obtain ⟨t0, h64, hn, -, -, -, hs, hSA, -⟩ := id hC
  intro d
  induction d with
  | zero =>
    intro i hi
    exact S_X7_comesBack_47 t0 ⟨fun _ => hQ, fun z => absurd z (by omega)⟩
  | succ d ih =>
    intro i hi
    obtain ⟨a0, a1, a2⟩ := rk1_tp hs hSA (r := i) (by omega) (by omega)
    have e := LF_col hs hSA a0 a1
    rw [a2] at e
    refine S_X7_comesBack_47 t0 ⟨fun z => absurd z (by omega), fun _ => ⟨by omega, C_rowAhead hC (by omega) (by omega) (S_X7_comesBack_63 t0 ⟨fun _ => ⟨by omega, ih (i + 1) (by omega)⟩, fun z => absurd ?_ z⟩)⟩⟩
    rw [h12 i (by omega) (by omega), e]
theorem C_cb_76 {kc ks : Nat} {h : Hh} {Q : PQ} {X : PX} {a n : Nat} {s pl ra : Int → Int} (hC : CT h a n s pl ra) (h10 : ∀ k, 0 ≤ k → k < (n : Int) → h 10 k = s k) (hQ : Q [aI 1] (RM WM wd) h) : ∀ (d i : Nat), i + d = n → am_V M_X7_comesBack kc ks 76 [aR 9, aR a, aU, aI i] [] (RM WM wd) h Q X := by
  obtain ⟨t0, h64, hn, e1, -, -, hs, hSA, -⟩ := id hC
  intro d
  induction d with
  | zero =>
    intro i hi
    exact S_X7_comesBack_76 t0 ⟨fun _ => hQ, fun z => absurd z (by omega)⟩
  | succ d ih =>
    intro i hi
    refine S_X7_comesBack_76 t0 ⟨fun z => absurd z (by omega), fun _ => ⟨by omega, fun _ => ⟨by omega, ih (i + 1) (by omega)⟩, fun z => absurd ?_ z⟩⟩
    rw [h10 i (by omega) (by omega), e1]
theorem C_comesBack {kc ks : Nat} {h : Hh} {Q : PQ} {X : PX} {a n : Nat} {s pl ra : Int → Int} (hC : CT h a n s pl ra) (hQ : ∀ h' : Hh, (∀ d, d ≠ 10 → d ≠ 11 → d ≠ 12 → d ≠ 13 → h' d = h d) → Q [aI 1] (RM WM wd) h') : am_V M_X7_comesBack kc ks 0 [aR 9, aR a, aU, aU] [] (RM WM wd) h Q X := by
  obtain ⟨t0, h64, hn, -, -, -, hs, hSA, -⟩ := id hC
  have hat : ∃ i : Nat, i < 8 ∧ a = 32 + 5 * i := t0
  obtain ⟨ia, ia8, iae⟩ := hat
  refine S_X7_comesBack_0 t0 ?_
  rw [hn]
  refine ⟨by omega, C_cb_9 h hC (fun h1 f1 y1 => ?_) (n + 1) 0 h (by omega) (fun _ _ => rfl) (fun k k0 k1 => by omega)⟩
  refine C_turnBack (w := LSg s n pl) (m := n + 1) (a1 := 11) rfl (by omega) (by omega) (by decide) (fun i i0 i1 => ?_) h1 y1 (fun h2 n' f2 hn' z1 z2 z3 z4 => S_X7_comesBack_40 t0 ⟨fun _ => ?_, fun z => absurd z (by decide)⟩) (fun h2 f2 hno => absurd (col_WOK hs hSA) (hno n rfl (LSg_one hs hSA)))
  · exact LS_ty hs hSA i0 (by omega)
  · have en : n' = n := by omega
    subst en
    have hC2 : CT h2 a n' s pl ra := hC.of (fun j hj => by rw [f2 _ (by omega) (by omega) (by omega), f1 _ (by omega)])
    refine C_cb_47 hC2 z4 (C_cb_76 hC2 (fun k k0 k1 => ?_) (hQ h2 (fun d d1 d2 d3 d4 => by rw [f2 d d1 d3 d4, f1 d d2])) n' 0 (by omega)) (n' + 1) 0 (by omega)
    rw [z3 k k0 k1]
    unfold wt
    rw [col_walk hs hSA (j := ((n' : Int) - 1 - k).toNat) (by omega), show (n' : Int) - 1 - ((((n' : Int) - 1 - k).toNat : Nat) : Int) = k by omega]
/-! the parts and the ranks -/
theorem PLN_EL {s : Int → Int} {n : Nat} {p L e : Int} (hP : PLN s p L) (hL : p + L ≤ n) (e1 : 1 ≤ e) (eL : e < L) : EL (en s n) (en s n) p (p + e) := by
  obtain ⟨k, k0, k1, k2⟩ := hP e e1 eL
  refine ⟨k, fun i hi => ?_, ?_⟩
  · rw [en_lt (by omega), en_lt (by omega)]
    exact k1 i hi
  · rw [en_lt (by omega), en_lt (by omega)]
    exact k2
theorem DUV.run {s : Int → Int} {n : Nat} {p : Int} : ∀ (d : Nat) (c j : Int), j + d = n → DUV s p c j → ∃ c j, DUV s p c j ∧ j ≤ n ∧ (j = n ∨ s j < s c)
  | 0, c, j, hj, h => ⟨c, j, h, by omega, Or.inl (by omega)⟩
  | d + 1, c, j, hj, h => by
    rcases Int.lt_trichotomy (s c) (s j) with z | z | z
    · exact DUV.run d p (j + 1) (by omega) (h.up z)
    · exact DUV.run d (c + 1) (j + 1) (by omega) (h.same z)
    · exact ⟨c, j, h, by omega, Or.inr z⟩
theorem LPL_EL {s : Int → Int} {n : Nat} {p L : Int} (hs : WS s n) (hp : 0 ≤ p) (hpn : p < n) (h : LPL s n p L) (hL : p + L < n) : EL (en s n) (en s n) (p + L) p := by
  obtain ⟨c, j, h1, h2, h3⟩ := DUV.run (s := s) (n := n) (p := p) (n - p - 1).toNat p (p + 1) (by omega) DUV.init
  have e := LPL.uniq h (h1.done h2 h3)
  obtain ⟨d1, d2, d3, d4⟩ := h1
  refine ⟨(j - (p + L)).toNat, fun i hi => ?_, ?_⟩
  · rw [en_lt (by omega), en_lt (by omega)]
    have := d3 (p + i) (by omega) (by omega)
    rw [show p + (i : Int) + (j - c) = p + L + i by omega] at this
    exact this.symm
  · rw [show p + L + (((j - (p + L)).toNat : Nat) : Int) = j by omega, show p + (((j - (p + L)).toNat : Nat) : Int) = c by omega]
    have sc := hs c (by omega) (by omega)
    rw [en_lt (i := c) (by omega)]
    rcases h3 with h3 | h3
    · rw [h3, en_ge (Int.le_refl _)]; omega
    · by_cases y : j < n
      · rw [en_lt y]; exact h3
      · rw [en_ge (by omega)]; omega
/-- where a walk over all places stands: before the i-th part's start, behind the one ahead -/
def JJ (s : Int → Int) (n N i : Nat) (p lr : Int) : Prop := i ≤ N ∧ p ≤ stt (psz s n) i ∧ (i = 0 → p = 0 ∧ lr = n) ∧ ∀ j : Nat, i = j + 1 → stt (psz s n) j < p ∧ lr = rk s n (stt (psz s n) j)
theorem JJ.start {s : Int → Int} {n N : Nat} : JJ s n N 0 0 n := ⟨Nat.zero_le _, Int.le_refl 0, fun _ => ⟨rfl, rfl⟩, fun j e => by omega⟩
theorem JJ.at {s : Int → Int} {n N i : Nat} {p lr : Int} (hs : WS s n) (hN : CUT (psz s n) n N) (h : JJ s n N i p lr) (hp : 0 ≤ p) (hpn : p < n) : ((rk s n p : Int) < lr ↔ p = stt (psz s n) i) ∧ (p = stt (psz s n) i → i < N ∧ JJ s n N (i + 1) (p + 1) (rk s n p)) ∧ (p ≠ stt (psz s n) i → JJ s n N i (p + 1) lr) := by
  obtain ⟨h1, h2, h3, h4⟩ := h
  have key : (rk s n p : Int) < lr ↔ p = stt (psz s n) i := by
    cases i with
    | zero =>
      obtain ⟨e1, e2⟩ := h3 rfl
      have hb := rk_bd (s := s) hp hpn
      refine ⟨fun _ => e1, fun _ => by omega⟩
    | succ j =>
      obtain ⟨e1, e2⟩ := h4 j rfl
      have b := hN.at (psz_SZ s n) (i := j) (by omega)
      have hl := psz_at (s := s) (n := n) b.1 b.2
      have es : stt (psz s n) (j + 1) = stt (psz s n) j + psz s n (stt (psz s n) j) := rfl
      rw [es] at h2 ⊢
      constructor
      · intro y
        apply Classical.byContradiction
        intro z
        have := PLN_EL (n := n) (p := stt (psz s n) j) (L := psz s n (stt (psz s n) j)) (e := p - stt (psz s n) j) hl.2.2.1 hl.2.1 (by omega) (by omega)
        rw [show stt (psz s n) j + (p - stt (psz s n) j) = p by omega, rk_iff hs b.1 b.2 hp hpn] at this
        omega
      · intro y
        have := LPL_EL hs b.1 b.2 hl (by omega)
        rw [← y, rk_iff hs hp hpn b.1 b.2] at this
        omega
  refine ⟨key, fun e => ?_, fun e => ⟨h1, by omega, fun z => ?_, fun j z => ?_⟩⟩
  · have hi : i < N := by
      apply Classical.byContradiction
      intro y
      have : i = N := by omega
      rw [this, hN.1] at e
      omega
    have b := hN.at (psz_SZ s n) hi
    have hl := psz_at (s := s) (n := n) b.1 b.2
    refine ⟨hi, by omega, ?_, fun z => by omega, fun j z => ?_⟩
    · show p + 1 ≤ stt (psz s n) i + psz s n (stt (psz s n) i)
      have := hl.1
      omega
    · have : j = i := by omega
      subst this
      rw [← e]
      exact ⟨by omega, rfl⟩
  · have e3 := h3 z
    subst z
    exact absurd e3.1 e
  · have := h4 j z
    exact ⟨by omega, this.2⟩
theorem JJ.end {s : Int → Int} {n N i : Nat} {lr : Int} (hN : CUT (psz s n) n N) (h : JJ s n N i n lr) : i = N := by
  have := h.1
  have h2 := h.2.1
  apply Classical.byContradiction
  intro y
  have := hN.2 i (by omega)
  omega
theorem C_ag_10 {kc ks : Nat} {h : Hh} {Q : PQ} {X : PX} {a n N : Nat} {s pl ra : Int → Int} (hC : CT h a n s pl ra) (hN : CUT (psz s n) n N) (hQ : Q [aI 1] (RM WM wd) h) : ∀ (d p i : Nat) (lr : Int), p + d = n → JJ s n N i p lr → am_V M_X3_agreesWith kc ks 10 [aR 29, aR a, aI (stt (psz s n) i), aI lr, aI p, aU] [] (RM WM wd) h Q X := by
  obtain ⟨t0, h64, hn, e1, e2, e3, hs, hSA, -⟩ := id hC
  intro d
  induction d with
  | zero =>
    intro p i lr hp hJ
    exact S_X3_agreesWith_10 t0 ⟨fun _ => hQ, fun z => absurd z (by omega)⟩
  | succ d ih =>
    intro p i lr hp hJ
    have er : h (a + 3) p = rk s n p := by rw [e3]; exact (hSA p (by omega) (by omega)).1
    obtain ⟨j1, j2, j3⟩ := hJ.at hs hN (by omega) (by omega)
    refine S_X3_agreesWith_10 t0 ⟨fun z => absurd z (by omega), fun _ => ?_⟩
    rw [er]
    refine ⟨by omega, fun z => ⟨fun y => ⟨by omega, ?_⟩, fun y => absurd (j1.mpr y) (by omega)⟩, fun z => ⟨fun y => absurd (j1.mp z) y, fun y => ⟨by omega, C_psz hC (by omega) (by omega) (S_X3_agreesWith_76 t0 ?_)⟩⟩⟩
    · have := ih (p + 1) i lr (by omega) (j3 y)
      exact this
    · have b := psz_SZ s n p (by omega) (by omega)
      have := ih (p + 1) (i + 1) (rk s n p) (by omega) (j2 y).2
      rw [show stt (psz s n) (i + 1) = stt (psz s n) i + psz s n p by rw [y]; rfl] at this
      exact ⟨by omega, this⟩
theorem C_agrees3 {kc ks : Nat} {h : Hh} {Q : PQ} {X : PX} {a n : Nat} {s pl ra : Int → Int} (hC : CT h a n s pl ra) (hQ : Q [aI 1] (RM WM wd) h) : am_V M_X3_agreesWith kc ks 0 [aR 29, aR a, aU, aU, aU, aU] [] (RM WM wd) h Q X := by
  obtain ⟨N, hN⟩ := CUT.ex (psz_SZ s n)
  refine S_X3_agreesWith_0 hC.1 ?_
  rw [hC.2.2.1]
  exact C_ag_10 hC hN hQ n 0 0 n (by omega) JJ.start

