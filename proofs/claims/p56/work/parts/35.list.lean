variable {WM : List (Nat × Nat)} {wd : Bool}
/-! ENDS BY THEIR SECOND HALF -/
theorem cnt_ge {n : Nat} {k : Nat} (h : k ≤ n) : cnt (fun p => (k : Int) ≤ p) n = n - k := by
  have h1 := cnt_not (fun p => p < (k : Int)) n
  rw [cnt_below h] at h1
  rw [cnt_congr n (P := fun p => (k : Int) ≤ p) (Q := fun p => ¬ p < (k : Int)) (fun i _ _ => ⟨fun z => by omega, fun z => by omega⟩)]
  omega
/-- what is known of the ends listed so far -/
def LB (c pl : Int → Int) (n hf : Nat) (r L : Nat) (b : Int → Int) : Prop := L = hf + cnt (fun t => (hf : Int) ≤ pl t) r ∧ (∀ i, 0 ≤ i → i < (hf : Int) → b i = (n : Int) - hf + i) ∧ ∀ i, (hf : Int) ≤ i → i < (L : Int) → ∃ t, 0 ≤ t ∧ t < (r : Int) ∧ (hf : Int) ≤ pl t ∧ b i = pl t - hf ∧ i = hf + cnt (fun t => (hf : Int) ≤ pl t) t.toNat
theorem LB.end {c pl b : Int → Int} {n hf : Nat} (hhf : hf ≤ n) (h1 : ∀ i, 0 ≤ i → i < (n : Int) → 0 ≤ pl i ∧ pl i < n) (h2 : ∀ i j, 0 ≤ i → i < (n : Int) → 0 ≤ j → j < (n : Int) → pl i = pl j → i = j) (hc0 : ∀ p, 0 ≤ p → p < (n : Int) → 0 ≤ c p) (hm : ∀ t t', 0 ≤ t → t ≤ t' → t' < (n : Int) → c (pl t) ≤ c (pl t')) {L : Nat} (h : LB c pl n hf n L b) : (∀ i, 0 ≤ i → i < (n : Int) → 0 ≤ b i ∧ b i < n) ∧ (∀ i j, 0 ≤ i → i < (n : Int) → 0 ≤ j → j < (n : Int) → b i = b j → i = j) ∧ ∀ i j, 0 ≤ i → i < j → j < (n : Int) → en c n (b i + hf) ≤ en c n (b j + hf) := by
  obtain ⟨hL, ha, hb⟩ := h
  have hLn : L = n := by
    rw [hL, cnt_perm (P := fun p => (hf : Int) ≤ p) h1 h2, cnt_ge hhf]
    omega
  subst hLn
  refine ⟨fun i i0 i1 => ?_, fun i j i0 i1 j0 j1 e => ?_, fun i j i0 ij j1 => ?_⟩
  · by_cases hi : i < (hf : Int)
    · rw [ha i i0 hi]
      omega
    · obtain ⟨t, t0, t1, t2, t3, -⟩ := hb i (by omega) i1
      have := h1 t t0 t1
      omega
  · by_cases hi : i < (hf : Int)
    · have e1 := ha i i0 hi
      by_cases hj : j < (hf : Int)
      · have e2 := ha j j0 hj
        omega
      · obtain ⟨t, t0, t1, t2, t3, -⟩ := hb j (by omega) j1
        have := h1 t t0 t1
        omega
    · obtain ⟨t, t0, t1, t2, t3, t4⟩ := hb i (by omega) i1
      by_cases hj : j < (hf : Int)
      · have e2 := ha j j0 hj
        have := h1 t t0 t1
        omega
      · obtain ⟨u, u0, u1, u2, u3, u4⟩ := hb j (by omega) j1
        have := h2 t u t0 t1 u0 u1 (by omega)
        rw [this] at t4
        omega
  · by_cases hi : i < (hf : Int)
    · rw [ha i i0 hi, en_ge (s := c) (i := (L : Int) - hf + i + hf) (by omega)]
      by_cases hj : j < (hf : Int)
      · rw [ha j (by omega) hj, en_ge (s := c) (i := (L : Int) - hf + j + hf) (by omega)]
        omega
      · obtain ⟨t, t0, t1, t2, t3, -⟩ := hb j (by omega) j1
        have e1 := h1 t t0 t1
        have := hc0 (pl t) e1.1 e1.2
        rw [t3, show pl t - (hf : Int) + hf = pl t by omega, en_lt e1.2]
        omega
    · obtain ⟨t, t0, t1, t2, t3, t4⟩ := hb i (by omega) (by omega)
      obtain ⟨u, u0, u1, u2, u3, u4⟩ := hb j (by omega) j1
      have e1 := h1 t t0 t1
      have e2 := h1 u u0 u1
      rw [t3, u3, show pl t - (hf : Int) + hf = pl t by omega, show pl u - (hf : Int) + hf = pl u by omega, en_lt e1.2, en_lt e2.2]
      refine hm t u t0 ?_ u1
      apply Int.not_lt.mp
      intro z
      have := cnt_up (P := fun t => (hf : Int) ≤ pl t) (show u.toNat ≤ t.toNat by omega)
      omega
theorem L_lbs_1 {kc ks : Nat} {Q : PQ} {X : PX} {a : Nat} (ta : isT a) (h0 : Hh) {n hf : Nat} (hn : h0 a 4 = n) (hn64 : n ≤ 64) (hhf : hf ≤ n) (k : ∀ h : Hh, (∀ d, d ≠ 7 → h d = h0 d) → (∀ i, 0 ≤ i → i < (hf : Int) → h 7 i = (n : Int) - hf + i) → am_V M_X1_listBySecondHalf kc ks 39 [aR 5, aR a, aI hf, aI hf, aI 0] [] (RM WM wd) h Q X) :
    ∀ (m i : Nat) (h : Hh), i + m = hf → (∀ d, d ≠ 7 → h d = h0 d) → (∀ j, 0 ≤ j → j < (i : Int) → h 7 j = (n : Int) - hf + j) → am_V M_X1_listBySecondHalf kc ks 10 [aR 5, aR a, aI hf, aI i, aI ((n : Int) - hf + i)] [] (RM WM wd) h Q X := by
  have ha : a ≠ 7 := by obtain ⟨_, _, z9⟩ := id ta; omega
  intro m
  induction m with
  | zero =>
    intro i h hm hfr hz
    have hin : i = hf := by omega
    subst hin
    refine S_X1_listBySecondHalf_10 ta ⟨fun _ => k h hfr hz, fun z => ?_⟩
    rw [hfr a ha, hn] at z
    omega
  | succ m ih =>
    intro i h hm hfr hz
    refine S_X1_listBySecondHalf_10 ta ⟨fun z => ?_, fun _ => ⟨by omega, ?_⟩⟩
    · rw [hfr a ha, hn] at z
      omega
    · have := ih (i + 1) (am_st h 7 i ((n : Int) - hf + i)) (by omega) (fun d hd => by rw [am_st_o hd]; exact hfr d hd) (fun j j0 j1 => ?_)
      · rw [show (n : Int) - hf + ((i + 1 : Nat) : Int) = (n : Int) - hf + i + 1 by omega] at this
        exact this
      · by_cases e : j = i
        · rw [e, am_st_s]
        · rw [am_st_n (Or.inr e)]
          exact hz j j0 (by omega)
theorem L_lbs_2 {kc ks : Nat} {Q : PQ} {X : PX} {a : Nat} (ta : isT a) (h0 : Hh) (c pl : Int → Int) {n hf : Nat} (hn : h0 a 4 = n) (hn64 : n ≤ 64) (hhf : hf ≤ n) (hp : ∀ i, 0 ≤ i → i < (n : Int) → h0 (a + 2) i = pl i ∧ 0 ≤ pl i ∧ pl i < n) (h2 : ∀ i j, 0 ≤ i → i < (n : Int) → 0 ≤ j → j < (n : Int) → pl i = pl j → i = j)
    (hQ : ∀ (h : Hh) (L : Nat), (∀ d, d ≠ 7 → h d = h0 d) → LB c pl n hf n L (h 7) → Q [] (RM WM wd) h) :
    ∀ (m r L : Nat) (h : Hh), r + m = n → (∀ d, d ≠ 7 → h d = h0 d) → LB c pl n hf r L (h 7) → am_V M_X1_listBySecondHalf kc ks 39 [aR 5, aR a, aI hf, aI L, aI r] [] (RM WM wd) h Q X := by
  have ha : a ≠ 7 ∧ a + 2 ≠ 7 := by obtain ⟨_, _, z9⟩ := id ta; omega
  have htot : cnt (fun t => (hf : Int) ≤ pl t) n = n - hf := by
    rw [cnt_perm (P := fun p => (hf : Int) ≤ p) (fun i i0 i1 => (hp i i0 i1).2) h2, cnt_ge hhf]
  intro m
  induction m with
  | zero =>
    intro r L h hm hfr hz
    have hrn : r = n := by omega
    subst hrn
    refine S_X1_listBySecondHalf_39 ta ⟨fun _ => hQ h L hfr hz, fun z => ?_⟩
    rw [hfr a ha.1, hn] at z
    omega
  | succ m ih =>
    intro r L h hm hfr hz
    have hpr := hp r (by omega) (by omega)
    have e2 : h (a + 2) r = pl r := by rw [hfr _ ha.2]; exact hpr.1
    obtain ⟨hL, hA, hB⟩ := id hz
    have hup := cnt_up (P := fun t => (hf : Int) ≤ pl t) (show r + 1 ≤ n by omega)
    refine S_X1_listBySecondHalf_39 ta ⟨fun z => ?_, fun _ => ⟨by omega, fun z => ?_, fun z => ?_⟩⟩
    · rw [hfr a ha.1, hn] at z
      omega
    · rw [e2] at z
      refine ⟨by omega, ih (r + 1) L h (by omega) hfr ⟨?_, hA, fun i i0 i1 => ?_⟩⟩
      · rw [cnt_f (P := fun t => (hf : Int) ≤ pl t) (by omega)]
        exact hL
      · obtain ⟨t, t0, t1, t2⟩ := hB i i0 i1
        exact ⟨t, t0, by omega, t2⟩
    · rw [e2] at z ⊢
      rw [cnt_t (P := fun t => (hf : Int) ≤ pl t) (by omega)] at hup
      refine ⟨by omega, ih (r + 1) (L + 1) _ (by omega) (fun d hd => by rw [am_st_o hd]; exact hfr d hd) ⟨?_, fun i i0 i1 => ?_, fun i i0 i1 => ?_⟩⟩
      · rw [cnt_t (P := fun t => (hf : Int) ≤ pl t) (by omega)]
        omega
      · rw [am_st_n (Or.inr (by omega))]
        exact hA i i0 i1
      · by_cases e : i = L
        · refine ⟨r, by omega, by omega, by omega, ?_, ?_⟩
          · rw [e, am_st_s]
          · rw [e, Int.toNat_natCast]
            omega
        · obtain ⟨t, t0, t1, t2, t3, t4⟩ := hB i i0 (by omega)
          exact ⟨t, t0, by omega, t2, by rw [am_st_n (Or.inr e)]; exact t3, t4⟩
theorem L_listBySecondHalf {kc ks : Nat} {Q : PQ} {X : PX} {a : Nat} (ta : isT a) (h0 : Hh) (c pl : Int → Int) {n hf : Nat} (hn : h0 a 4 = n) (hn64 : n ≤ 64) (hhf : hf ≤ n) (hp : ∀ i, 0 ≤ i → i < (n : Int) → h0 (a + 2) i = pl i ∧ 0 ≤ pl i ∧ pl i < n) (h2 : ∀ i j, 0 ≤ i → i < (n : Int) → 0 ≤ j → j < (n : Int) → pl i = pl j → i = j) (hc0 : ∀ p, 0 ≤ p → p < (n : Int) → 0 ≤ c p) (hm : ∀ t t', 0 ≤ t → t ≤ t' → t' < (n : Int) → c (pl t) ≤ c (pl t'))
    (hQ : ∀ h : Hh, (∀ d, d ≠ 7 → h d = h0 d) → (∀ i, 0 ≤ i → i < (n : Int) → 0 ≤ h 7 i ∧ h 7 i < n) → (∀ i j, 0 ≤ i → i < (n : Int) → 0 ≤ j → j < (n : Int) → h 7 i = h 7 j → i = j) → (∀ i j, 0 ≤ i → i < j → j < (n : Int) → en c n (h 7 i + hf) ≤ en c n (h 7 j + hf)) → Q [] (RM WM wd) h) :
    am_V M_X1_listBySecondHalf kc ks 0 [aR 5, aR a, aI hf, aU, aU] [] (RM WM wd) h0 Q X := by
  refine S_X1_listBySecondHalf_0 ta ?_
  rw [hn]
  refine ⟨by omega, ?_⟩
  have := L_lbs_1 (WM := WM) (wd := wd) (kc := kc) (ks := ks) (Q := Q) (X := X) ta h0 hn hn64 hhf (fun h f1 z1 => ?_) hf 0 h0 (by omega) (fun _ _ => rfl) (fun j _ _ => by omega)
  · rw [show (n : Int) - hf + ((0 : Nat) : Int) = (n : Int) - hf by omega] at this
    exact this
  · refine L_lbs_2 ta h0 c pl hn hn64 hhf hp h2 (fun h' L f2 z2 => ?_) n 0 hf h (by omega) f1 ⟨by simp [cnt], z1, fun i i0 i1 => by omega⟩
    have h9 := z2.end hhf (fun i i0 i1 => (hp i i0 i1).2) h2 hc0 hm
    exact hQ h' f2 h9.1 h9.2.1 h9.2.2

