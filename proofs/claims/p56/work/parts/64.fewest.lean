variable {WM : List (Nat × Nat)} {wd : Bool}
/-! pieceFrom, fewest -/
/-- the fewest from a place on, so far -/
def RP (sz : Int → Int) (n : Nat) (f : Int → Int) (p0 : Int) : Prop := f n = 0 ∧ ∀ p, p0 ≤ p → p < (n : Int) → (∀ l, 1 ≤ l → l ≤ sz p → f p ≤ f (p + l) + 1) ∧ (∃ l, 1 ≤ l ∧ l ≤ sz p ∧ f p = f (p + l) + 1) ∧ 0 ≤ f p ∧ f p ≤ n - p
theorem RP.bd {sz : Int → Int} {n : Nat} {f : Int → Int} {p0 p : Int} (h : RP sz n f p0) (hp : p0 ≤ p) (hpn : p ≤ n) : 0 ≤ f p ∧ f p ≤ n - p := by
  by_cases e : p = n
  · rw [e, h.1]; omega
  · exact (h.2 p hp (by omega)).2.2
theorem RP.rec {sz : Int → Int} {n : Nat} {f : Int → Int} (h : RP sz n f 0) : REC sz n f := ⟨h.1, fun p p0 p1 => ⟨(h.2 p p0 p1).1, (h.2 p p0 p1).2.1⟩⟩
theorem RP.step {sz : Int → Int} {n : Nat} {f g : Int → Int} {p : Int} (hs : SZ sz n) (hp : 0 ≤ p) (hpn : p < n) (h : RP sz n f (p + 1)) (hg : ∀ q, q ≠ p → p < q → g q = f q) (h1 : ∀ l, 1 ≤ l → l ≤ sz p → g p ≤ f (p + l) + 1) (h2 : ∃ l, 1 ≤ l ∧ l ≤ sz p ∧ g p = f (p + l) + 1) : RP sz n g p := by
  refine ⟨by rw [hg n (by omega) hpn]; exact h.1, fun q q0 q1 => ?_⟩
  by_cases e : q = p
  · rw [e]
    have hz := hs p hp hpn
    refine ⟨fun l l1 l2 => by rw [hg (p + l) (by omega) (by omega)]; exact h1 l l1 l2, ?_, ?_⟩
    · obtain ⟨l, l1, l2, l3⟩ := h2
      exact ⟨l, l1, l2, by rw [hg (p + l) (by omega) (by omega)]; exact l3⟩
    · obtain ⟨l, l1, l2, l3⟩ := h2
      have b1 := h.bd (p := p + l) (by omega) (by omega)
      omega
  · have hz := hs q (by omega) q1
    obtain ⟨a1, ⟨l, l1, l2, l3⟩, a3⟩ := h.2 q (by omega) q1
    rw [hg q e (by omega)]
    refine ⟨fun m m1 m2 => by rw [hg (q + m) (by omega) (by omega)]; exact a1 m m1 m2, ⟨l, l1, l2, by rw [hg (q + l) (by omega) (by omega)]; exact l3⟩, a3⟩
/-- the least of the first ones -/
def MN (f : Int → Int) (p : Int) (m x : Int) : Prop := (∀ l, 1 ≤ l → l ≤ m → x ≤ f (p + l)) ∧ ∃ l, 1 ≤ l ∧ l ≤ m ∧ x = f (p + l)
theorem C_fw_2 {kc ks : Nat} {h : Hh} {Q : PQ} {X : PX} {a n : Nat} {s pl ra : Int → Int} (hC : CT h a n s pl ra) {p S : Int} (hp : 0 ≤ p) (hpS : p + S ≤ n) (hbd : ∀ q, p < q → q ≤ n → 0 ≤ h 31 q ∧ h 31 q ≤ 64) (hQ : ∀ x, MN (h 31) p S x → 0 ≤ x → x ≤ 64 → am_V M_X2_fewestWords kc ks 17 [aR 30, aR a, aI (p + -1), aU, aU, aU] [] (RM WM wd) (am_st h 31 p (x + 1)) Q X) : ∀ (d : Nat) (l x : Int), l + d = S + 1 → 2 ≤ l → MN (h 31) p (l - 1) x → 0 ≤ x → x ≤ 64 → am_V M_X2_fewestWords kc ks 41 [aR 30, aR a, aI p, aI S, aI x, aI l] [] (RM WM wd) h Q X := by
  have t0 := hC.1
  have h64 := hC.2.1
  intro d
  induction d with
  | zero =>
    intro l x hl l2 hx x0 x1
    have : l - 1 = S := by omega
    rw [this] at hx
    exact S_X2_fewestWords_41 t0 ⟨fun _ => ⟨by omega, hQ x hx x0 x1⟩, fun z => absurd z (by omega)⟩
  | succ d ih =>
    intro l x hl l2 hx x0 x1
    have b := hbd (p + l) (by omega) (by omega)
    refine S_X2_fewestWords_41 t0 ⟨fun z => absurd z (by omega), fun _ => ⟨by omega, ih (l + 1) _ (by omega) (by omega) ⟨fun m m1 m2 => ?_, ?_⟩ (by omega) (by omega)⟩⟩
    · by_cases e : m = l
      · rw [e]; omega
      · have := hx.1 m m1 (by omega)
        omega
    · obtain ⟨m, m1, m2, m3⟩ := hx.2
      by_cases y : x ≤ h 31 (p + l)
      · exact ⟨m, m1, by omega, by omega⟩
      · exact ⟨l, by omega, by omega, by omega⟩
theorem C_fw_1 {kc ks : Nat} {Q : PQ} {X : PX} {a n : Nat} {s pl ra : Int → Int} (h : Hh) (hC : CT h a n s pl ra) (hQ : ∀ h', (∀ d, d ≠ 31 → h' d = h d) → REC (qsz s n) n (h' 31) → Q [aI (h' 31 0)] (RM WM wd) h') : ∀ (d : Nat) (p : Int) (h' : Hh), p + 1 = d → p < n → (∀ d, d ≠ 31 → h' d = h d) → RP (qsz s n) n (h' 31) (p + 1) → am_V M_X2_fewestWords kc ks 17 [aR 30, aR a, aI p, aU, aU, aU] [] (RM WM wd) h' Q X := by
  have t0 := hC.1
  have h64 := hC.2.1
  have hZ := qsz_SZ s n
  intro d
  induction d with
  | zero =>
    intro p h' hp hpn hf hR
    rw [show p + 1 = 0 by omega] at hR
    exact S_X2_fewestWords_17 t0 ⟨fun _ => ⟨by omega, hQ h' hf hR.rec⟩, fun z => absurd z (by omega)⟩
  | succ d ih =>
    intro p h' hp hpn hf hR
    have hC' : CT h' a n s pl ra := NK.ct (h := h) (fun d hd => hf d (by unfold SIMcell at hd; omega)) hC
    have hz := hZ p (by omega) hpn
    have hb : ∀ q, p < q → q ≤ n → 0 ≤ h' 31 q ∧ h' 31 q ≤ 64 := fun q q0 q1 => by
      have := hR.bd (p := q) (by omega) q1
      omega
    have hb1 := hb (p + 1) (by omega) (by omega)
    refine S_X2_fewestWords_17 t0 ⟨fun z => absurd z (by omega), fun _ => C_qsz hC' (by omega) hpn (S_X2_fewestWords_27 t0 ⟨by omega, C_fw_2 hC' (by omega) (by omega) hb (fun x hx x0 x1 => ih (p + -1) _ (by omega) (by omega) (fun d hd => by rw [am_st_o hd]; exact hf d hd) ?_) (qsz s n p - 1).toNat 2 _ (by omega) (by omega) ⟨fun l l1 l2 => by rw [show l = 1 by omega]; exact Int.le_refl _, 1, Int.le_refl 1, by omega, rfl⟩ hb1.1 hb1.2⟩)⟩
    rw [show p + -1 + 1 = p by omega, am_st_f]
    refine RP.step hZ (by omega) hpn hR (fun q q0 q1 => if_neg q0) (fun l l1 l2 => ?_) ?_
    · rw [if_pos rfl]
      have := hx.1 l l1 l2
      omega
    · obtain ⟨l, l1, l2, l3⟩ := hx.2
      exact ⟨l, l1, l2, by rw [if_pos rfl, l3]⟩
theorem C_fewestWords {kc ks : Nat} {h : Hh} {Q : PQ} {X : PX} {a n : Nat} {s pl ra : Int → Int} (hC : CT h a n s pl ra) (hQ : ∀ h', (∀ d, d ≠ 31 → h' d = h d) → REC (qsz s n) n (h' 31) → Q [aI (h' 31 0)] (RM WM wd) h') : am_V M_X2_fewestWords kc ks 0 [aR 30, aR a, aU, aU, aU, aU] [] (RM WM wd) h Q X := by
  obtain ⟨t0, n64, hn, -⟩ := id hC
  have ha : a ≠ 31 := by obtain ⟨i, i8, ia⟩ := id t0; omega
  refine S_X2_fewestWords_0 t0 ?_
  rw [am_st_o (h := h) (a := 31) (a' := a) ha, hn]
  refine ⟨by omega, C_fw_1 h hC hQ n ((n : Int) - 1) _ (by omega) (by omega) (fun d hd => am_st_o hd) ⟨?_, fun p p0 p1 => by omega⟩⟩
  exact am_st_s
theorem W_fewest {kc ks : Nat} {h : Hh} {Q : PQ} {X : PX} {t : Int} {n : Nat} {s pl ra : Int → Int} (hS : SIM h) (z : isTx h t) (hC : CT h (ta t) n s pl ra) (hkc : 1 ≤ kc) (hks : 6 ≤ ks) (hQ : ∀ h', (∀ d, d ≠ 31 → h' d = h d) → REC (qsz s n) n (h' 31) → Q [aL (h' 31 0)] (RM WM wd) h') : am_V M_L_fewest kc ks 0 [aR 0, aI t, aU] [] (RM WM wd) h Q X :=
  S_L_fewest_0 ⟨⟨hkc, hks⟩, S_X10_fewest_0 ⟨by omega, C_known hS z (by omega) (by omega) (S_X10_fewest_9 hC.1 (C_fewestWords hC fun h' hf hR => S_X10_fewest_12 (S_L_fewest_5 (hQ h' hf hR))))⟩⟩
