variable {WM : List (Nat × Nat)} {wd : Bool}
/-! THE WALK FROM ROW TO ROW: undo -/
theorem SA_ex {s : Int → Int} {n : Nat} (hs : WS s n) : ∃ pl ra, SA s n pl ra := by
  refine ⟨fun r => if hr : 0 ≤ r ∧ r < (n : Int) then Classical.choose (rk_sur hs hr.1 hr.2) else 0, fun p => rk s n p, fun p p0 p1 => ⟨rfl, ?_⟩⟩
  have hb := rk_bd (s := s) p0 p1
  have hr : 0 ≤ (rk s n p : Int) ∧ (rk s n p : Int) < n := ⟨by omega, hb⟩
  have hc := Classical.choose_spec (rk_sur hs hr.1 hr.2)
  show (if hr : 0 ≤ (rk s n p : Int) ∧ (rk s n p : Int) < n then Classical.choose (rk_sur hs hr.1 hr.2) else 0) = p
  rw [dif_pos hr]
  exact rk_inj hs hc.1 hc.2.1 p0 p1 (by omega)
/-- the index of a sign in a row of 27 -/
def ix (x : Int) : Int := if 97 ≤ x ∧ x ≤ 122 then x - 96 else 0
theorem ix_bd (x : Int) : 0 ≤ ix x ∧ ix x ≤ 26 := by
  unfold ix
  by_cases e : 97 ≤ x ∧ x ≤ 122
  · rw [if_pos e]; omega
  · rw [if_neg e]; omega
theorem ix_lt {x y : Int} (hx : x = 36 ∨ 97 ≤ x ∧ x ≤ 122) (hy : y = 36 ∨ 97 ≤ y ∧ y ≤ 122) : ix x < ix y ↔ x < y := by
  unfold ix
  by_cases e : 97 ≤ x ∧ x ≤ 122
  · by_cases f : 97 ≤ y ∧ y ≤ 122
    · rw [if_pos e, if_pos f]; omega
    · rw [if_pos e, if_neg f]; omega
  · by_cases f : 97 ≤ y ∧ y ≤ 122
    · rw [if_neg e, if_pos f]; omega
    · rw [if_neg e, if_neg f]; omega
theorem C_indexOfSign {kc ks : Nat} {h : Hh} {Q : PQ} {X : PX} {x : Int} (hQ : Q [aI (ix x)] (RM WM wd) h) : am_V M_X7_indexOfSign kc ks 0 [aI x] [] (RM WM wd) h Q X := by
  unfold ix at hQ
  refine S_X7_indexOfSign_0 (C_isLetter (fun z0 z1 => S_X7_indexOfSign_4 ⟨fun w => absurd w (by decide), fun _ => ?_⟩) (fun z => S_X7_indexOfSign_4 ⟨fun _ => by rw [if_neg z] at hQ; exact hQ, fun w => absurd rfl w⟩))
  rw [if_pos ⟨z0, z1⟩] at hQ
  rw [show x - 97 + 1 = x - 96 by omega]
  exact ⟨by omega, hQ⟩
theorem C_endSigns_1 {kc ks : Nat} {h : Hh} {Q : PQ} {X : PX} {a1 n1 m : Nat} (q1 : (RM WM wd).1[a1]? = some (1, n1)) (hm : m ≤ n1) (hm65 : m ≤ 65) (hQ : Q [aI (cnt (fun i => h a1 i = 36) m)] (RM WM wd) h) : ∀ (d i : Nat), i + d = m → am_V M_X7_endSigns kc ks 5 [aU, aR a1, aI m, aI (cnt (fun i => h a1 i = 36) i), aI i] [] (RM WM wd) h Q X := by
  intro d
  induction d with
  | zero =>
    intro i hi
    have : i = m := by omega
    subst this
    exact S_X7_endSigns_5 q1 ⟨fun _ => hQ, fun z => absurd z (by omega)⟩
  | succ d ih =>
    intro i hi
    have hle := cnt_le (fun i => h a1 i = 36) i
    have hnext := ih (i + 1) (by omega)
    refine S_X7_endSigns_5 q1 ⟨fun z => absurd z (by omega), fun _ => ⟨by omega, fun z => ⟨by omega, ?_⟩, fun z => ⟨by omega, ?_⟩⟩⟩
    · rw [cnt_f (P := fun i => h a1 i = 36) z] at hnext
      exact hnext
    · rw [cnt_t (P := fun i => h a1 i = 36) z] at hnext
      exact hnext
/-- the starts of the signs: zero, counted, added up -/
theorem C_tra_2 {kc ks : Nat} {Q : PQ} {X : PX} {a1 n1 m : Nat} (q1 : (RM WM wd).1[a1]? = some (1, n1)) (h0 : Hh) (hQ : ∀ h : Hh, (∀ d, d ≠ 13 → h d = h0 d) → (∀ k, 0 ≤ k → k < 28 → h 13 k = 0) → am_V M_X7_tellRowsAhead kc ks 26 [aR 9, aR a1, aI m, aI 0, aU] [] (RM WM wd) h Q X) : ∀ (d i : Nat) (h : Hh), i + d = 28 → (∀ d, d ≠ 13 → h d = h0 d) → (∀ k : Int, 0 ≤ k → k < (i : Int) → h 13 k = 0) → am_V M_X7_tellRowsAhead kc ks 2 [aR 9, aR a1, aI m, aI i, aU] [] (RM WM wd) h Q X := by
  intro d
  induction d with
  | zero =>
    intro i h hi hf hz
    exact S_X7_tellRowsAhead_2 q1 ⟨fun _ => hQ h hf (fun k k0 k1 => hz k k0 (by omega)), fun z => absurd z (by omega)⟩
  | succ d ih =>
    intro i h hi hf hz
    refine S_X7_tellRowsAhead_2 q1 ⟨fun z => absurd z (by omega), fun _ => ⟨by omega, ih (i + 1) _ (by omega) (fun d hd => by rw [am_st_o hd]; exact hf d hd) (fun k k0 k1 => ?_)⟩⟩
    rw [am_st_i]
    by_cases e : k = i
    · rw [if_pos e]
    · rw [if_neg e]
      exact hz k k0 (by omega)
theorem C_tra_26 {kc ks : Nat} {Q : PQ} {X : PX} {a1 n1 m : Nat} {w : Int → Int} (q1 : (RM WM wd).1[a1]? = some (1, n1)) (hm : m ≤ n1) (hm65 : m ≤ 65) (ha : a1 ≠ 13) (h0 : Hh) (hw : ∀ i, 0 ≤ i → i < (m : Int) → h0 a1 i = w i) (hQ : ∀ h : Hh, (∀ d, d ≠ 13 → h d = h0 d) → (∀ k : Int, 0 ≤ k → k < 28 → h 13 k = cnt (fun j => ix (w j) + 1 = k) m) → am_V M_X7_tellRowsAhead kc ks 56 [aR 9, aR a1, aI m, aI 1, aU] [] (RM WM wd) h Q X) : ∀ (d i : Nat) (h : Hh), i + d = m → (∀ d, d ≠ 13 → h d = h0 d) → (∀ k : Int, 0 ≤ k → k < 28 → h 13 k = cnt (fun j => ix (w j) + 1 = k) i) → am_V M_X7_tellRowsAhead kc ks 26 [aR 9, aR a1, aI m, aI i, aU] [] (RM WM wd) h Q X := by
  intro d
  induction d with
  | zero =>
    intro i h hi hf hz
    have : i = m := by omega
    subst this
    exact S_X7_tellRowsAhead_26 q1 ⟨fun _ => hQ h hf hz, fun z => absurd z (by omega)⟩
  | succ d ih =>
    intro i h hi hf hz
    have ew : h a1 i = w i := by rw [hf a1 ha]; exact hw i (by omega) (by omega)
    have hb := ix_bd (w i)
    refine S_X7_tellRowsAhead_26 q1 ⟨fun z => absurd z (by omega), fun _ => ⟨by omega, ?_⟩⟩
    rw [ew]
    refine C_indexOfSign (S_X7_tellRowsAhead_41 q1 ?_)
    have e1 := hz (ix (w i) + 1) (by omega) (by omega)
    have hle := cnt_le (fun j => ix (w j) + 1 = ix (w i) + 1) i
    rw [e1]
    refine ⟨by omega, ih (i + 1) _ (by omega) (fun d hd => by rw [am_st_o hd]; exact hf d hd) (fun k k0 k1 => ?_)⟩
    rw [am_st_i]
    by_cases e : k = ix (w i) + 1
    · rw [if_pos e, e, cnt_t (P := fun j => ix (w j) + 1 = ix (w i) + 1) rfl]
      omega
    · rw [if_neg e, hz k k0 k1, cnt_f (P := fun j => ix (w j) + 1 = k) (fun v => e v.symm)]
theorem C_tra_56 {kc ks : Nat} {Q : PQ} {X : PX} {a1 n1 m : Nat} {w : Int → Int} (q1 : (RM WM wd).1[a1]? = some (1, n1)) (hm65 : m ≤ 65) (h0 : Hh) (hQ : ∀ h : Hh, (∀ d, d ≠ 13 → h d = h0 d) → (∀ k : Int, 0 ≤ k → k < 28 → h 13 k = cnt (fun j => ix (w j) < k) m) → am_V M_X7_tellRowsAhead kc ks 90 [aR 9, aR a1, aI m, aI 0, aU] [] (RM WM wd) h Q X) : ∀ (d i : Nat) (h : Hh), i + d = 28 → 1 ≤ i → (∀ d, d ≠ 13 → h d = h0 d) → (∀ k : Int, 0 ≤ k → k < (i : Int) → h 13 k = cnt (fun j => ix (w j) < k) m) → (∀ k : Int, (i : Int) ≤ k → k < 28 → h 13 k = cnt (fun j => ix (w j) + 1 = k) m) → am_V M_X7_tellRowsAhead kc ks 56 [aR 9, aR a1, aI m, aI i, aU] [] (RM WM wd) h Q X := by
  intro d
  induction d with
  | zero =>
    intro i h hi hi1 hf hz hy
    exact S_X7_tellRowsAhead_56 q1 ⟨fun _ => hQ h hf (fun k k0 k1 => hz k k0 (by omega)), fun z => absurd z (by omega)⟩
  | succ d ih =>
    intro i h hi hi1 hf hz hy
    have e1 := hz ((i : Int) - 1) (by omega) (by omega)
    have e2 := hy i (Int.le_refl _) (by omega)
    have b1 := cnt_le (fun j => ix (w j) < (i : Int) - 1) m
    have b2 := cnt_le (fun j => ix (w j) + 1 = (i : Int)) m
    have hs : cnt (fun j => ix (w j) < (i : Int)) m = cnt (fun j => ix (w j) < (i : Int) - 1) m + cnt (fun j => ix (w j) + 1 = (i : Int)) m := by
      rw [← cnt_or m (fun j j0 j1 x y => by omega)]
      exact cnt_congr m (fun j j0 j1 => by omega)
    refine S_X7_tellRowsAhead_56 q1 ⟨fun z => absurd z (by omega), fun _ => ?_⟩
    rw [e1, e2]
    refine ⟨by omega, ih (i + 1) _ (by omega) (by omega) (fun d hd => by rw [am_st_o hd]; exact hf d hd) (fun k k0 k1 => ?_) (fun k k0 k1 => ?_)⟩
    · rw [am_st_i]
      by_cases e : k = i
      · rw [if_pos e, e, hs]
        omega
      · rw [if_neg e]
        exact hz k k0 (by omega)
    · rw [am_st_i, if_neg (by omega)]
      exact hy k (by omega) k1
theorem LFm_ix {w : Int → Int} {m : Nat} (hw : tys w m) {i : Nat} (hi : i < m) : LFm w m i = cnt (fun j => ix (w j) < ix (w i)) m + cnt (fun j => ix (w j) = ix (w i)) i := by
  unfold LFm
  rw [cnt_or m (fun j j0 j1 x y => by omega), cnt_cut (P := fun j => w j = w i) (k := i) m (by omega)]
  have wi := hw i (by omega) (by omega)
  rw [cnt_congr (P := fun j => ix (w j) < ix (w i)) (Q := fun j => w j < w i) m (fun j j0 j1 => ix_lt (hw j j0 j1) wi)]
  rw [cnt_congr (P := fun j => ix (w j) = ix (w i)) (Q := fun j => w j = w i) i (fun j j0 j1 => ?_)]
  have a := ix_lt (hw j j0 (by omega)) wi
  have b := ix_lt wi (hw j j0 (by omega))
  omega
theorem C_tra_90 {kc ks : Nat} {Q : PQ} {X : PX} {a1 n1 m : Nat} {w : Int → Int} (q1 : (RM WM wd).1[a1]? = some (1, n1)) (hm : m ≤ n1) (hm65 : m ≤ 65) (ha : a1 ≠ 13 ∧ a1 ≠ 12) (hty : tys w m) (h0 : Hh) (hw : ∀ i, 0 ≤ i → i < (m : Int) → h0 a1 i = w i) (hQ : ∀ h : Hh, (∀ d, d ≠ 13 → d ≠ 12 → h d = h0 d) → (∀ i : Int, 0 ≤ i → i < (m : Int) → h 12 i = LFm w m i) → Q [] (RM WM wd) h) : ∀ (d i : Nat) (h : Hh), i + d = m → (∀ d, d ≠ 13 → d ≠ 12 → h d = h0 d) → (∀ k : Int, 0 ≤ k → k < 28 → h 13 k = cnt (fun j => ix (w j) < k) m + cnt (fun j => ix (w j) = k) i) → (∀ k : Int, 0 ≤ k → k < (i : Int) → h 12 k = LFm w m k) → am_V M_X7_tellRowsAhead kc ks 90 [aR 9, aR a1, aI m, aI i, aU] [] (RM WM wd) h Q X := by
  intro d
  induction d with
  | zero =>
    intro i h hi hf hz hy
    have : i = m := by omega
    subst this
    exact S_X7_tellRowsAhead_90 q1 ⟨fun _ => hQ h hf hy, fun z => absurd z (by omega)⟩
  | succ d ih =>
    intro i h hi hf hz hy
    have ew : h a1 i = w i := by rw [hf a1 ha.1 ha.2]; exact hw i (by omega) (by omega)
    have hb := ix_bd (w i)
    refine S_X7_tellRowsAhead_90 q1 ⟨fun z => absurd z (by omega), fun _ => ⟨by omega, ?_⟩⟩
    rw [ew]
    refine C_indexOfSign (S_X7_tellRowsAhead_101 q1 ?_)
    have e1 := hz (ix (w i)) (by omega) (by omega)
    have e2 := LFm_ix hty (i := i) (by omega)
    have b1 := cnt_le (fun j => ix (w j) < ix (w i)) m
    have b2 := cnt_le (fun j => ix (w j) = ix (w i)) i
    rw [am_st_n (h := h) (a := 12) (a' := 13) (Or.inl (by decide)), e1]
    refine ⟨by omega, ih (i + 1) _ (by omega) (fun d d1 d2 => by rw [am_st_o d1, am_st_o d2]; exact hf d d1 d2) (fun k k0 k1 => ?_) (fun k k0 k1 => ?_)⟩
    · rw [am_st_i]
      by_cases e : k = ix (w i)
      · rw [if_pos e, e, cnt_t (P := fun j => ix (w j) = ix (w i)) rfl]
        omega
      · rw [if_neg e, am_st_o (by decide), hz k k0 k1, cnt_f (P := fun j => ix (w j) = k) (fun v => e v.symm)]
    · rw [am_st_o (by decide), am_st_i]
      by_cases e : k = i
      · rw [if_pos e, e, e2]
        omega
      · rw [if_neg e]
        exact hy k k0 (by omega)
/-- the text of the walk -/
noncomputable def wt (w : Int → Int) (n : Nat) (k : Int) : Int := w (wk w (n + 1) ((n : Int) - 1 - k).toNat)
theorem wt_ws {w : Int → Int} {n : Nat} (hty : tys w ((n + 1 : Nat) : Int)) (hok : WOK w n) : WS (wt w n) n := fun i i0 i1 => by
  have b := wk_bd (w := w) (m := n + 1) (by omega) ((n : Int) - 1 - i).toNat
  have := hty _ b.1 b.2
  have := hok ((n : Int) - 1 - i).toNat (by omega)
  unfold wt
  omega
theorem C_tb_25 {kc ks : Nat} {Q : PQ} {X : PX} {a1 n1 n : Nat} {w : Int → Int} (q1 : (RM WM wd).1[a1]? = some (1, n1)) (hm : n + 1 ≤ n1) (h64 : n ≤ 64) (ha : a1 ≠ 10) (hty : tys w ((n + 1 : Nat) : Int)) (h0 : Hh) (hw : ∀ i, 0 ≤ i → i < ((n + 1 : Nat) : Int) → h0 a1 i = w i) (h12 : ∀ i, 0 ≤ i → i < ((n + 1 : Nat) : Int) → h0 12 i = LFm w (n + 1) i) (hQ1 : ∀ h : Hh, (∀ d, d ≠ 10 → h d = h0 d) → WOK w n → (∀ k, 0 ≤ k → k < (n : Int) → h 10 k = wt w n k) → Q [aI 1] (RM WM wd) h) (hQ0 : ∀ h : Hh, (∀ d, d ≠ 10 → h d = h0 d) → ¬ WOK w n → Q [aI 0] (RM WM wd) h) : ∀ (d j : Nat) (h : Hh), j + d = n → (∀ d, d ≠ 10 → h d = h0 d) → (∀ i : Nat, i < j → w (wk w (n + 1) i) ≠ 36 ∧ h 10 ((n : Int) - 1 - i) = w (wk w (n + 1) i)) → am_V M_X7_turnBack kc ks 25 [aR 9, aR a1, aU, aI (wk w (n + 1) j), aI ((n : Int) - 1 - j)] [] (RM WM wd) h Q X := by
  intro d
  induction d with
  | zero =>
    intro j h hj hf hz
    have : j = n := by omega
    subst this
    refine S_X7_turnBack_25 q1 ⟨fun _ => hQ1 h hf (fun i hi => (hz i hi).1) (fun k k0 k1 => ?_), fun z => absurd z (by omega)⟩
    have := (hz ((j : Int) - 1 - k).toNat (by omega)).2
    rw [show (j : Int) - 1 - ((((j : Int) - 1 - k).toNat : Nat) : Int) = k by omega] at this
    exact this
  | succ d ih =>
    intro j h hj hf hz
    have b := wk_bd (w := w) (m := n + 1) (by omega) j
    have ew : h a1 (wk w (n + 1) j) = w (wk w (n + 1) j) := by rw [hf a1 ha]; exact hw _ b.1 b.2
    have ety := hty _ b.1 b.2
    have e12 := h12 _ b.1 b.2
    refine S_X7_turnBack_25 q1 ⟨fun z => absurd z (by omega), fun _ => ?_⟩
    rw [ew]
    refine ⟨by omega, fun z => ?_, fun z => hQ0 h hf (fun y => y j (by omega) z)⟩
    rw [Int.emod_eq_of_lt (by omega) (by omega), am_st_o (by decide), hf 12 (by decide), e12]
    have hnext := ih (j + 1) (am_st h 10 ((n : Int) - 1 - j) (w (wk w (n + 1) j))) (by omega) (fun d hd => by rw [am_st_o hd]; exact hf d hd) (fun i hi => ?_)
    · rw [show (n : Int) - 1 - ((j + 1 : Nat) : Int) = (n : Int) - 1 - j + -1 by omega] at hnext
      exact ⟨by omega, hnext⟩
    · rw [am_st_i]
      by_cases e : i = j
      · rw [e, if_pos rfl]
        exact ⟨z, rfl⟩
      · rw [if_neg (by omega)]
        exact hz i (by omega)
theorem C_turnBack {kc ks : Nat} {Q : PQ} {X : PX} {a1 n1 m : Nat} {w : Int → Int} (q1 : (RM WM wd).1[a1]? = some (1, n1)) (hm : m ≤ n1) (hm65 : m ≤ 65) (ha : a1 ≠ 10 ∧ a1 ≠ 12 ∧ a1 ≠ 13) (hty : tys w m) (h0 : Hh) (hw : ∀ i, 0 ≤ i → i < (m : Int) → h0 a1 i = w i) (hQ1 : ∀ (h : Hh) (n : Nat), (∀ d, d ≠ 10 → d ≠ 12 → d ≠ 13 → h d = h0 d) → m = n + 1 → cnt (fun i => w i = 36) (n + 1) = 1 → WOK w n → (∀ k, 0 ≤ k → k < (n : Int) → h 10 k = wt w n k) → (∀ i : Int, 0 ≤ i → i < (m : Int) → h 12 i = LFm w m i) → Q [aI 1] (RM WM wd) h) (hQ0 : ∀ h : Hh, (∀ d, d ≠ 10 → d ≠ 12 → d ≠ 13 → h d = h0 d) → (∀ n, m = n + 1 → cnt (fun i => w i = 36) (n + 1) = 1 → ¬ WOK w n) → Q [aI 0] (RM WM wd) h) : am_V M_X7_turnBack kc ks 0 [aR 9, aR a1, aI m, aU, aU] [] (RM WM wd) h0 Q X := by
  have ec : cnt (fun i => h0 a1 i = 36) m = cnt (fun i => w i = 36) m := cnt_congr m (fun i i0 i1 => by rw [hw i i0 i1])
  refine S_X7_turnBack_0 q1 (S_X7_endSigns_0 q1 (C_endSigns_1 q1 hm hm65 ?_ m 0 (by omega)))
  rw [ec]
  refine S_X7_turnBack_6 q1 ⟨fun z => ?_, fun z => hQ0 h0 (fun _ _ _ _ => rfl) (fun n e y => absurd (by rw [e, y]; rfl) z)⟩
  have z1 : cnt (fun i => w i = 36) m = 1 := by omega
  cases m with
  | zero => exact absurd z1 (by show (0 : Nat) ≠ 1; decide)
  | succ n =>
    refine S_X7_tellRowsAhead_0 q1 (C_tra_2 q1 h0 (fun h1 f1 y1 => ?_) 28 0 h0 rfl (fun _ _ => rfl) (fun k k0 k1 => by omega))
    refine C_tra_26 (w := w) q1 hm hm65 ha.2.2 h0 hw (fun h2 f2 y2 => ?_) (n + 1) 0 h1 (by omega) f1 (fun k k0 k1 => by rw [y1 k k0 k1]; rfl)
    refine C_tra_56 (w := w) q1 hm65 h0 (fun h3 f3 y3 => ?_) 27 1 h2 rfl (Nat.le_refl 1) f2 (fun k k0 k1 => ?_) (fun k k0 k1 => y2 k (by omega) k1)
    · refine C_tra_90 (w := w) q1 hm hm65 ⟨ha.2.2, ha.2.1⟩ hty h0 hw (fun h4 f4 y4 => S_X7_turnBack_18 q1 ?_) (n + 1) 0 h3 (by omega) (fun d d1 d2 => f3 d d1) (fun k k0 k1 => by rw [y3 k k0 k1]; exact (Int.add_zero _).symm) (fun k k0 k1 => by omega)
      have := C_tb_25 (WM := WM) (wd := wd) (kc := kc) (ks := ks) (Q := Q) (X := X) (w := w) q1 hm (by omega) ha.1 hty h4 (fun i i0 i1 => by rw [f4 a1 ha.2.2 ha.2.1]; exact hw i i0 i1) y4 (fun h f ok y => hQ1 h n (fun d d1 d2 d3 => by rw [f d d1]; exact f4 d d3 d2) rfl z1 ok y (fun i i0 i1 => by rw [f 12 (by decide)]; exact y4 i i0 i1)) (fun h f ok => hQ0 h (fun d d1 d2 d3 => by rw [f d d1]; exact f4 d d3 d2) (fun n' e _ => by
        have : n' = n := by omega
        rw [this]
        exact ok)) n 0 h4 (by omega) (fun _ _ => rfl) (fun i hi => absurd hi (Nat.not_lt_zero i))
      rw [show ((n : Int) - 1 - ((0 : Nat) : Int)) = ((n + 1 : Nat) : Int) - 2 by omega] at this
      exact ⟨by omega, this⟩
    · have : k = 0 := by omega
      subst this
      have b := fun j : Int => (ix_bd (w j)).1
      rw [y2 0 (by omega) (by omega), cnt_zero (fun i i0 i1 y => by have := b i; omega), cnt_zero (fun i i0 i1 y => by have := b i; omega)]

