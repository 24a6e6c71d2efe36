/-! pieceFrom, fewest -/
theorem C_fa_1 {kc ks : Nat} {h : Hh} {Q : PQ} {X : PX} {a n : Nat} {s pl ra : Int → Int} (hC : CT h a n s pl ra) {p L : Int} (hp : 0 ≤ p) (hpn : p < n) (h1 : ∀ q, 0 ≤ q → q < p → L ≤ Lc s n s n q p → (∀ r, 0 ≤ r → r < q → (Lc s n s n r p : Int) < L) → Q [aI q] am_R0 h) (h0 : (∀ r, 0 ≤ r → r < p → (Lc s n s n r p : Int) < L) → Q [aI p] am_R0 h) : ∀ (d : Nat) (q : Int), q + d = p → 0 ≤ q → (∀ r, 0 ≤ r → r < q → (Lc s n s n r p : Int) < L) → am_V M_X6_firstAhead kc ks 2 [aR a, aI p, aI L, aI q] [] am_R0 h Q X := by
  have t0 := hC.1
  have h64 := hC.2.1
  intro d
  induction d with
  | zero =>
    intro q hq q0 hz
    exact S_X6_firstAhead_2 t0 ⟨fun _ => h0 fun r r0 r1 => hz r r0 (by omega), fun z => absurd z (by omega)⟩
  | succ d ih =>
    intro q hq q0 hz
    refine S_X6_firstAhead_2 t0 ⟨fun z => absurd z (by omega), fun _ => C_likeSigns hC hC q0 (by omega) hp (by omega) (S_X6_firstAhead_14 t0 ⟨fun y => ⟨by omega, ih (q + 1) (by omega) (by omega) fun r r0 r1 => ?_⟩, fun y => h1 q q0 (by omega) y hz⟩)⟩
    by_cases e : r = q
    · rw [e]; exact y
    · exact hz r r0 (by omega)
theorem M_pf_1 {kc ks : Nat} {h : Hh} {Q : PQ} {X : PX} {t : Int} {n I : Nat} {s : Int → Int} (hT : MT h t n s) {p L : Int} (hp : 0 ≤ p) (hpn : p < n) (hI : I < 64) (h79 : h 79 I = p) (h1 : ∀ q, 0 ≤ q → q < p → L ≤ Lc s n s n q p → (∀ r, 0 ≤ r → r < q → (Lc s n s n r p : Int) < L) → Q [aI q] am_R0 h) (h0 : (∀ r, 0 ≤ r → r < p → (Lc s n s n r p : Int) < L) → Q [aI 0] am_R0 (am_st h 72 10 2)) : ∀ (d : Nat) (q : Int), q + d = p → 0 ≤ q → (∀ r, 0 ≤ r → r < q → (Lc s n s n r p : Int) < L) → am_V M_X11_pieceFrom kc ks 30 [aR 72, aI t, aI I, aI L, aI q] [] am_R0 h Q X := by
  have h64 := hT.2.1
  intro d
  induction d with
  | zero =>
    intro q hq q0 hz
    exact S_X11_pieceFrom_30 ⟨by omega, fun _ => h0 fun r r0 r1 => hz r r0 (by omega), fun z => absurd z (by omega)⟩
  | succ d ih =>
    intro q hq q0 hz
    refine S_X11_pieceFrom_30 ⟨by omega, fun z => absurd z (by omega), fun _ => ⟨by omega, ?_⟩⟩
    rw [h79]
    refine M_together hT hT q0 (by omega) hp (by omega) (S_X11_pieceFrom_55 ⟨fun y => ⟨by omega, ih (q + 1) (by omega) (by omega) fun r r0 r1 => ?_⟩, fun y => h1 q q0 (by omega) y hz⟩)
    by_cases e : r = q
    · rw [e]; exact y
    · exact hz r r0 (by omega)
theorem T_pieceFrom {kc ks : Nat} {h : Hh} {t x : Int} (hS : SIM h) (hkc : 3 ≤ kc) (hks : 18 ≤ ks) : am_V M_X10_pieceFrom kc ks 0 [aR 0, aI t, aI x, aU, aU, aU] [] am_R0 h (PQok M_X11_pieceFrom [aR 72, aI t, aI x, aU, aU] aI) (PXok M_X11_pieceFrom [aR 72, aI t, aI x, aU, aU] aI [xIO, xNS]) := by
  refine S_X10_pieceFrom_0 ⟨by omega, C_knownWithPiece hS (by omega) (by omega) (fun n N I s pl ra z hC hM hN hx hI => ?_) (fun z => PX.bad 0 hS (NK.rf h) rfl fun kc ks Q X hS' k => S_X11_pieceFrom_0 (M_isNoPieceX hS z fun h2 m y => S_X11_pieceFrom_6 ⟨fun w => absurd w (by decide), fun _ => k 0 h2 m y⟩)) (fun n N s z hM hN _ hI => PX.bad 0 hS (NK.rf h) rfl fun kc ks Q X hS' k => S_X11_pieceFrom_0 (M_isNoPiece0 hS z hM hN hI fun h2 m y => S_X11_pieceFrom_6 ⟨fun w => absurd w (by decide), fun _ => k 0 h2 m y⟩))⟩
  subst hx
  obtain ⟨b0, b1⟩ := hN.at (qsz_SZ s n) hI
  have h64 := hC.2.1
  have hNn := hN.le (qsz_SZ s n)
  have e2 : stt (qsz s n) (I + 1) = stt (qsz s n) I + qsz s n (stt (qsz s n) I) := rfl
  have hz := qsz_SZ s n _ b0 b1
  -- the model's part up to its loop
  have go : ∀ {kc ks : Nat} {Q : PQ} {X : PX} (g : Hh), SIM g → isTx g t → MT g t n s → (∀ h2, MK g h2 → h2 72 10 = 0 → (∀ i : Nat, i ≤ N → h2 79 i = stt (qsz s n) i) → am_V M_X11_pieceFrom kc ks 30 [aR 72, aI t, aI I, aI (qsz s n (stt (qsz s n) I)), aI 0] [] am_R0 h2 Q X) → am_V M_X11_pieceFrom kc ks 0 [aR 72, aI t, aI I, aU, aU] [] am_R0 g Q X := by
    intro kc ks Q X g hS' z' hM' k
    refine S_X11_pieceFrom_0 (M_isNoPiece1 hS' z' hM' hN hI fun h2 m hF y => S_X11_pieceFrom_6 ⟨fun _ => ?_, fun w => absurd rfl w⟩)
    have e1 := hF (I + 1) (by omega)
    have e0 := hF I (by omega)
    rw [show ((I + 1 : Nat) : Int) = (I : Int) + 1 by omega] at e1
    rw [e1, e0, show stt (qsz s n) (I + 1) - stt (qsz s n) I = qsz s n (stt (qsz s n) I) by omega]
    exact ⟨by omega, k h2 m y hF⟩
  refine S_X10_pieceFrom_6 hC.1 (C_startOf2 hC hN hI (S_X10_pieceFrom_16 hC.1 (C_qsz hC b0 b1 (S_X10_pieceFrom_31 hC.1 (S_X6_firstAhead_0 hC.1 (C_fa_1 hC b0 b1 (fun q q0 q1 hq hql => S_X10_pieceFrom_34 ⟨fun _ => PQ.good hS (NK.rf h) fun kc ks Q X g hN2 hS' k => go g hS' (hN2.tx.mpr z) (hN2.mt hM) fun h2 m y hF => M_pf_1 (m.mt (hN2.mt hM)) b0 b1 (by omega) (hF I (by omega)) (fun q' q0' q1' hq' hql' => ?_) (fun w => ?_) (stt (qsz s n) I).toNat 0 (by omega) (by omega) (fun r r0 r1 => by omega), fun w => absurd w (by omega)⟩) (fun hno => S_X10_pieceFrom_34 ⟨fun w => absurd rfl w, fun _ => ⟨by omega, PX.bad 1 hS (NK.rf h) rfl fun kc ks Q X hS' k => go h hS' z hM fun h2 m y hF => M_pf_1 (m.mt hM) b0 b1 (by omega) (hF I (by omega)) (fun q' q0' q1' hq' hql' => ?_) (fun w => k 0 _ m.th am_st_s) (stt (qsz s n) I).toNat 0 (by omega) (by omega) (fun r r0 r1 => by omega)⟩⟩) (stt (qsz s n) I).toNat 0 (by omega) (by omega) (fun r r0 r1 => by omega)))))))
  · have : q' = q := by
      rcases Int.lt_trichotomy q' q with v | v | v
      · have := hql q' q0' v; omega
      · exact v
      · have := hql' q q0 v; omega
    rw [this]
    exact k h2 m y
  · have := w q q0 q1; omega
  · have := hno q' q0' q1'; omega
/-- the fewest from a place on, so far -/
def RP (sz : Int → Int) (n : Nat) (f : Int → Int) (p0 : Int) : Prop := f n = 0 ∧ ∀ p, p0 ≤ p → p < (n : Int) → (∀ l, 1 ≤ l → l ≤ sz p → f p ≤ f (p + l) + 1) ∧ (∃ l, 1 ≤ l ∧ l ≤ sz p ∧ f p = f (p + l) + 1) ∧ 0 ≤ f p ∧ f p ≤ n - p
theorem RP.bd {sz : Int → Int} {n : Nat} {f : Int → Int} {p0 p : Int} (h : RP sz n f p0) (hp : p0 ≤ p) (hpn : p ≤ n) : 0 ≤ f p ∧ f p ≤ n - p := by
  by_cases e : p = n
  · rw [e, h.1]; omega
  · exact (h.2 p hp (by omega)).2.2
theorem RP.rec {sz : Int → Int} {n : Nat} {f : Int → Int} (h : RP sz n f 0) : REC sz n f := ⟨h.1, fun p p0 p1 => ⟨(h.2 p p0 p1).1, (h.2 p p0 p1).2.1⟩⟩
theorem RP.step {sz : Int → Int} {n : Nat} {f g : Int → Int} {p : Int} (hs : SZ sz n) (hp : 0 ≤ p) (hpn : p < n) (h : RP sz n f (p + 1)) (hg : ∀ q, q ≠ p → p < q → g q = f q) (h1 : ∀ l, 1 ≤ l → l ≤ sz p → g p ≤ f (p + l) + 1) (h2 : ∃ l, 1 ≤ l ∧ l ≤ sz p ∧ g p = f (p + l) + 1) : RP sz n g p := by
  refine ⟨by rw [hg n (by omega) hpn]; exact h.1, fun q q0 q1 => ?_⟩
  by_cases e : q = p
  · rw [e]
    have hz := hs p hp hpn
    refine ⟨fun l l1 l2 => by rw [hg (p + l) (by omega) (by omega)]; exact h1 l l1 l2, ?_, ?_⟩
    · obtain ⟨l, l1, l2, l3⟩ := h2
      exact ⟨l, l1, l2, by rw [hg (p + l) (by omega) (by omega)]; exact l3⟩
    · obtain ⟨l, l1, l2, l3⟩ := h2
      have b1 := h.bd (p := p + l) (by omega) (by omega)
      omega
  · have hz := hs q (by omega) q1
    obtain ⟨a1, ⟨l, l1, l2, l3⟩, a3⟩ := h.2 q (by omega) q1
    rw [hg q e (by omega)]
    refine ⟨fun m m1 m2 => by rw [hg (q + m) (by omega) (by omega)]; exact a1 m m1 m2, ⟨l, l1, l2, by rw [hg (q + l) (by omega) (by omega)]; exact l3⟩, a3⟩
/-- the least of the first ones -/
def MN (f : Int → Int) (p : Int) (m x : Int) : Prop := (∀ l, 1 ≤ l → l ≤ m → x ≤ f (p + l)) ∧ ∃ l, 1 ≤ l ∧ l ≤ m ∧ x = f (p + l)
theorem C_fw_2 {kc ks : Nat} {h : Hh} {Q : PQ} {X : PX} {a n : Nat} {s pl ra : Int → Int} (hC : CT h a n s pl ra) {p S : Int} (hp : 0 ≤ p) (hpS : p + S ≤ n) (hbd : ∀ q, p < q → q ≤ n → 0 ≤ h 31 q ∧ h 31 q ≤ 64) (hQ : ∀ x, MN (h 31) p S x → 0 ≤ x → x ≤ 64 → am_V M_X2_fewestWords kc ks 17 [aR 30, aR a, aI (p + -1), aU, aU, aU] [] am_R0 (am_st h 31 p (x + 1)) Q X) : ∀ (d : Nat) (l x : Int), l + d = S + 1 → 2 ≤ l → MN (h 31) p (l - 1) x → 0 ≤ x → x ≤ 64 → am_V M_X2_fewestWords kc ks 41 [aR 30, aR a, aI p, aI S, aI x, aI l] [] am_R0 h Q X := by
  have t0 := hC.1
  have h64 := hC.2.1
  intro d
  induction d with
  | zero =>
    intro l x hl l2 hx x0 x1
    have : l - 1 = S := by omega
    rw [this] at hx
    exact S_X2_fewestWords_41 t0 ⟨fun _ => ⟨by omega, hQ x hx x0 x1⟩, fun z => absurd z (by omega)⟩
  | succ d ih =>
    intro l x hl l2 hx x0 x1
    have b := hbd (p + l) (by omega) (by omega)
    refine S_X2_fewestWords_41 t0 ⟨fun z => absurd z (by omega), fun _ => ⟨by omega, ih (l + 1) _ (by omega) (by omega) ⟨fun m m1 m2 => ?_, ?_⟩ (by omega) (by omega)⟩⟩
    · by_cases e : m = l
      · rw [e]; omega
      · have := hx.1 m m1 (by omega)
        omega
    · obtain ⟨m, m1, m2, m3⟩ := hx.2
      by_cases y : x ≤ h 31 (p + l)
      · exact ⟨m, m1, by omega, by omega⟩
      · exact ⟨l, by omega, by omega, by omega⟩
theorem C_fw_1 {kc ks : Nat} {Q : PQ} {X : PX} {a n : Nat} {s pl ra : Int → Int} (h : Hh) (hC : CT h a n s pl ra) (hQ : ∀ h', (∀ d, d ≠ 31 → h' d = h d) → REC (qsz s n) n (h' 31) → Q [aI (h' 31 0)] am_R0 h') : ∀ (d : Nat) (p : Int) (h' : Hh), p + 1 = d → p < n → (∀ d, d ≠ 31 → h' d = h d) → RP (qsz s n) n (h' 31) (p + 1) → am_V M_X2_fewestWords kc ks 17 [aR 30, aR a, aI p, aU, aU, aU] [] am_R0 h' Q X := by
  have t0 := hC.1
  have h64 := hC.2.1
  have hZ := qsz_SZ s n
  intro d
  induction d with
  | zero =>
    intro p h' hp hpn hf hR
    rw [show p + 1 = 0 by omega] at hR
    exact S_X2_fewestWords_17 t0 ⟨fun _ => ⟨by omega, hQ h' hf hR.rec⟩, fun z => absurd z (by omega)⟩
  | succ d ih =>
    intro p h' hp hpn hf hR
    have hC' : CT h' a n s pl ra := NK.ct (h := h) (fun d hd => hf d (by unfold SIMcell at hd; omega)) hC
    have hz := hZ p (by omega) hpn
    have hb : ∀ q, p < q → q ≤ n → 0 ≤ h' 31 q ∧ h' 31 q ≤ 64 := fun q q0 q1 => by
      have := hR.bd (p := q) (by omega) q1
      omega
    have hb1 := hb (p + 1) (by omega) (by omega)
    refine S_X2_fewestWords_17 t0 ⟨fun z => absurd z (by omega), fun _ => C_qsz hC' (by omega) hpn (S_X2_fewestWords_27 t0 ⟨by omega, C_fw_2 hC' (by omega) (by omega) hb (fun x hx x0 x1 => ih (p + -1) _ (by omega) (by omega) (fun d hd => by rw [am_st_o hd]; exact hf d hd) ?_) (qsz s n p - 1).toNat 2 _ (by omega) (by omega) ⟨fun l l1 l2 => by rw [show l = 1 by omega]; exact Int.le_refl _, 1, Int.le_refl 1, by omega, rfl⟩ hb1.1 hb1.2⟩)⟩
    rw [show p + -1 + 1 = p by omega, am_st_f]
    refine RP.step hZ (by omega) hpn hR (fun q q0 q1 => if_neg q0) (fun l l1 l2 => ?_) ?_
    · rw [if_pos rfl]
      have := hx.1 l l1 l2
      omega
    · obtain ⟨l, l1, l2, l3⟩ := hx.2
      exact ⟨l, l1, l2, by rw [if_pos rfl, l3]⟩
theorem C_fewestWords {kc ks : Nat} {h : Hh} {Q : PQ} {X : PX} {a n : Nat} {s pl ra : Int → Int} (hC : CT h a n s pl ra) (hQ : ∀ h', (∀ d, d ≠ 31 → h' d = h d) → REC (qsz s n) n (h' 31) → Q [aI (h' 31 0)] am_R0 h') : am_V M_X2_fewestWords kc ks 0 [aR 30, aR a, aU, aU, aU, aU] [] am_R0 h Q X := by
  obtain ⟨t0, n64, hn, -⟩ := id hC
  have ha : a ≠ 31 := by obtain ⟨i, i8, ia⟩ := id t0; omega
  refine S_X2_fewestWords_0 t0 ?_
  rw [am_st_o (h := h) (a := 31) (a' := a) ha, hn]
  refine ⟨by omega, C_fw_1 h hC hQ n ((n : Int) - 1) _ (by omega) (by omega) (fun d hd => am_st_o hd) ⟨?_, fun p p0 p1 => by omega⟩⟩
  exact am_st_s
theorem M_fw_2 {kc ks : Nat} {Q : PQ} {X : PX} {t : Int} {p S : Int} {n : Nat} (f : Int → Int) (hp : 0 ≤ p) (hn64 : n ≤ 64) (hpS : p + S ≤ n) (hpn : p < n) (hbd : ∀ q, p < q → q ≤ n → 0 ≤ f q ∧ f q ≤ 64) (h0 : Hh) (hQ : ∀ h x, MN f p (max 1 S) x → (∀ d, d ≠ 79 → h d = h0 d) → (∀ q, q ≠ p → h 79 q = f q) → h 79 p = x + 1 → am_V M_X11_fewestOf kc ks 21 [aR 72, aI t, aI (p + -1), aU, aU] [] am_R0 h Q X) : ∀ (d : Nat) (l x : Int) (h : Hh), l + d = max 1 S + 1 → 2 ≤ l → MN f p (l - 1) x → 0 ≤ x → x ≤ 64 → (∀ d, d ≠ 79 → h d = h0 d) → (∀ q, q ≠ p → h 79 q = f q) → h 79 p = x + 1 → am_V M_X11_fewestOf kc ks 51 [aR 72, aI t, aI p, aI S, aI l] [] am_R0 h Q X := by
  intro d
  induction d with
  | zero =>
    intro l x h hl l2 hx x0 x1 hf hq hpx
    have : l - 1 = max 1 S := by omega
    rw [this] at hx
    exact S_X11_fewestOf_51 ⟨fun _ => ⟨by omega, hQ h x hx hf hq hpx⟩, fun z => absurd z (by omega)⟩
  | succ d ih =>
    intro l x h hl l2 hx x0 x1 hf hq hpx
    have b := hbd (p + l) (by omega) (by omega)
    have e := hq (p + l) (by omega)
    have grow : ∀ v, (x ≤ f (p + l) ∧ v = x) ∨ (f (p + l) < x ∧ v = f (p + l)) → MN f p (l + 1 - 1) v := by
      intro v hv
      refine ⟨fun m m1 m2 => ?_, ?_⟩
      · by_cases y : m = l
        · rw [y]; omega
        · have := hx.1 m m1 (by omega)
          omega
      · obtain ⟨m, m1, m2, m3⟩ := hx.2
        rcases hv with ⟨v1, v2⟩ | ⟨v1, v2⟩
        · exact ⟨m, m1, by omega, by omega⟩
        · exact ⟨l, by omega, by omega, v2⟩
    refine S_X11_fewestOf_51 ⟨fun z => absurd z (by omega), fun _ => ⟨by omega, fun z => ⟨by omega, ih (l + 1) x _ (by omega) (by omega) (grow x (Or.inl ⟨by omega, rfl⟩)) x0 x1 (fun d hd => by rw [am_st_o hd]; exact hf d hd) (fun q q0 => by rw [am_st_n (Or.inr q0)]; exact hq q q0) (by rw [am_st_s]; exact hpx)⟩, fun z => ⟨by omega, ih (l + 1) (f (p + l)) _ (by omega) (by omega) (grow _ (Or.inr ⟨by omega, rfl⟩)) (by omega) (by omega) (fun d hd => by rw [am_st_o hd]; exact hf d hd) (fun q q0 => by rw [am_st_n (Or.inr q0)]; exact hq q q0) (by rw [am_st_s, e])⟩⟩⟩
theorem M_fw_1 {kc ks : Nat} {Q : PQ} {X : PX} {t : Int} {n : Nat} {s : Int → Int} (h : Hh) (hT : MT h t n s) (hQ : ∀ h', (∀ d, d ≠ 79 → h' d = h d) → REC (qsz s n) n (h' 79) → Q [aI (h' 79 0)] am_R0 h') : ∀ (d : Nat) (p : Int) (h' : Hh), p + 1 = d → p < n → (∀ d, d ≠ 79 → h' d = h d) → RP (qsz s n) n (h' 79) (p + 1) → am_V M_X11_fewestOf kc ks 21 [aR 72, aI t, aI p, aU, aU] [] am_R0 h' Q X := by
  have h64 := hT.2.1
  have hZ := qsz_SZ s n
  intro d
  induction d with
  | zero =>
    intro p h' hp hpn hf hR
    rw [show p + 1 = 0 by omega] at hR
    exact S_X11_fewestOf_21 ⟨fun _ => ⟨by omega, hQ h' hf hR.rec⟩, fun z => absurd z (by omega)⟩
  | succ d ih =>
    intro p h' hp hpn hf hR
    have hT' : MT h' t n s := hT.of (hf 73 (by decide)) (hf 74 (by decide))
    have hz := hZ p (by omega) hpn
    have hb : ∀ q, p < q → q ≤ n → 0 ≤ h' 79 q ∧ h' 79 q ≤ 64 := fun q q0 q1 => by
      have := hR.bd (p := q) (by omega) q1
      omega
    have hb1 := hb (p + 1) (by omega) (by omega)
    have hkn := kn_le (s := s) (n := n) (p := p) (by omega) (by omega) (m := p.toNat) (by omega)
    refine S_X11_fewestOf_21 ⟨fun z => absurd z (by omega), fun _ => M_longestAhead hT' (by omega) hpn (S_X11_fewestOf_31 ⟨by omega, M_fw_2 (h' 79) (by omega) h64 (by omega) hpn hb h (fun h2 x hx hf2 hq hpx => ih (p + -1) h2 (by omega) (by omega) hf2 ?_) (qsz s n p - 1).toNat 2 (h' 79 (p + 1)) _ (by unfold qsz at hz ⊢; omega) (by omega) ⟨fun l l1 l2 => by rw [show l = 1 by omega]; exact Int.le_refl _, 1, Int.le_refl 1, by omega, rfl⟩ hb1.1 hb1.2 (fun d hd => by rw [am_st_o hd]; exact hf d hd) (fun q q0 => am_st_n (Or.inr q0)) am_st_s⟩)⟩
    rw [show p + -1 + 1 = p by omega]
    refine RP.step hZ (by omega) hpn hR (fun q q0 q1 => hq q q0) (fun l l1 l2 => ?_) ?_
    · have := hx.1 l l1 l2
      omega
    · obtain ⟨l, l1, l2, l3⟩ := hx.2
      exact ⟨l, l1, l2, by omega⟩
theorem M_fewestOf {kc ks : Nat} {h : Hh} {Q : PQ} {X : PX} {t : Int} {n : Nat} {s : Int → Int} (hT : MT h t n s) (hQ : ∀ h', (∀ d, d ≠ 79 → h' d = h d) → REC (qsz s n) n (h' 79) → Q [aI (h' 79 0)] am_R0 h') : am_V M_X11_fewestOf kc ks 0 [aR 72, aI t, aU, aU, aU] [] am_R0 h Q X := by
  have h64 := hT.2.1
  have ht := hT.1
  have hn := hT.2.2.1
  refine S_X11_fewestOf_0 ?_
  rw [am_st_o (h := h) (a := 79) (a' := 74) (by decide), hn]
  refine ⟨by omega, M_fw_1 h hT hQ n ((n : Int) - 1) _ (by omega) (by omega) (fun d hd => am_st_o hd) ⟨?_, fun p p0 p1 => by omega⟩⟩
  exact am_st_s
theorem T_fewest {kc ks : Nat} {h : Hh} {t : Int} (hS : SIM h) (hkc : 1 ≤ kc) (hks : 6 ≤ ks) : am_V M_X10_fewest kc ks 0 [aR 0, aI t] [] am_R0 h (PQok M_X11_fewest [aR 72, aI t] aI) (PXok M_X11_fewest [aR 72, aI t] aI [xIO]) := by
  by_cases z : isTx h t
  · obtain ⟨n, s, pl, ra, hC, hM⟩ := hS.txt z
    have hZ := qsz_SZ s n
    refine S_X10_fewest_0 ⟨by omega, C_known hS z (by omega) (by omega) (S_X10_fewest_9 hC.1 (C_fewestWords hC fun h' hf hR => S_X10_fewest_12 (PQ.good hS (fun d hd => hf d (by unfold SIMcell at hd; omega)) fun kc ks Q X g hN hS' k => S_X11_fewest_0 (M_isNone1 hS' (hN.tx.mpr z) fun h2 m y => S_X11_fewest_5 ⟨fun _ => M_fewestOf (m.mt (hN.mt hM)) (fun h3 hf3 hR3 => S_X11_fewest_17 ?_), fun w => absurd rfl w⟩))))⟩
    rw [hR3.uniq hZ hR n 0 (Int.le_refl 0) (by omega) (by omega)]
    exact k h3 (m.tr (MK.of (fun d _ _ _ d4 _ => hf3 d d4))) (by rw [hf3 72 (by decide)]; exact y)
  · exact S_X10_fewest_0 ⟨by omega, C_known0 hS z (by omega) (by omega) (PX.bad 0 hS (NK.rf h) rfl fun kc ks Q X hS' k => S_X11_fewest_0 (M_isNone0 hS z fun h2 m y => S_X11_fewest_5 ⟨fun w => absurd w (by decide), fun _ => k 0 h2 m y⟩))⟩
