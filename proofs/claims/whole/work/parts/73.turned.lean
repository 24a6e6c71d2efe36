/-! TURNED ROWS: first, last, back, runs, column -/
theorem ar_rg {s : Int → Int} {n : Nat} (hs : WS s n) {i : Int} (hi : 0 ≤ i) : 36 ≤ ar s n i ∧ ar s n i ≤ 122 := by
  have h0 := Int.emod_nonneg i (show (n : Int) + 1 ≠ 0 by omega)
  have h1 := Int.emod_lt_of_pos i (show 0 < (n : Int) + 1 by omega)
  unfold ar
  by_cases e : i % ((n : Int) + 1) = n
  · rw [if_pos e]; omega
  · rw [if_neg e]
    have := hs (i % ((n : Int) + 1)) h0 (by omega)
    omega
theorem M_around {kc ks : Nat} {h : Hh} {Q : PQ} {X : PX} {t i : Int} {n : Nat} {s : Int → Int} (hT : MT h t n s) (hi : 0 ≤ i) (hQ : Q [aI (ar s n i)] am_R0 h) : am_V M_X11_around kc ks 0 [aR 72, aI t, aI i, aU] [] am_R0 h Q X := by
  have h64 := hT.2.1
  have hn := hT.2.2.1
  have ht := hT.1
  have h0 := Int.emod_nonneg i (show (n : Int) + 1 ≠ 0 by omega)
  have h1 := Int.emod_lt_of_pos i (show 0 < (n : Int) + 1 by omega)
  unfold ar at hQ
  refine S_X11_around_0 ?_
  rw [hn]
  refine ⟨by omega, fun z => ?_, fun z => by rw [if_pos z] at hQ; exact hQ⟩
  have e := hT.2.2.2.2 (i % ((n : Int) + 1)) h0 (by omega)
  have sg := hT.2.2.2.1 (i % ((n : Int) + 1)) h0 (by omega)
  unfold ms at e
  rw [if_neg z] at hQ
  rw [e]
  exact ⟨by omega, hQ⟩
theorem M_itl_1 {kc ks : Nat} {h : Hh} {Q : PQ} {X : PX} {t p q : Int} {n : Nat} {s : Int → Int} (hT : MT h t n s) (hp : 0 ≤ p) (hpn : p ≤ n) (hq : 0 ≤ q) (hqn : q ≤ n) (h1 : EL (en s n) (en s n) p q → Q [aI 1] am_R0 h) (h0 : ¬ EL (en s n) (en s n) p q → Q [aI 0] am_R0 h) : ∀ (d k : Nat), k + d = n + 1 → (∀ i : Nat, i < k → ar s n (p + i) = ar s n (q + i)) → am_V M_X11_isTurnedLess kc ks 3 [aR 72, aI t, aI p, aI q, aI k] [] am_R0 h Q X := by
  have h64 := hT.2.1
  have hn := hT.2.2.1
  have ht := hT.1
  have hs := hT.2.2.2.1
  have hEL := turn_EL hs hp hpn hq hqn
  intro d
  induction d with
  | zero =>
    intro k hk hz
    refine S_X11_isTurnedLess_3 ⟨ht, fun _ => h0 fun y => ?_, fun z => absurd z (by omega)⟩
    obtain ⟨j, j0, j1, j2⟩ := hEL.mpr y
    have := hz j (by omega)
    omega
  | succ d ih =>
    intro k hk hz
    refine S_X11_isTurnedLess_3 ⟨ht, fun z => absurd z (by omega), fun _ => ⟨by omega, M_around hT (by omega) (S_X11_isTurnedLess_23 ⟨by omega, M_around hT (by omega) (S_X11_isTurnedLess_32 ⟨fun z => ⟨by omega, ih (k + 1) (by omega) fun i hi => ?_⟩, fun z => ⟨by omega, M_around hT (by omega) (S_X11_isTurnedLess_44 ⟨by omega, M_around hT (by omega) (S_X11_isTurnedLess_53 ⟨fun y => h0 fun w => ?_, fun y => h1 (hEL.mp ⟨k, by omega, hz, y⟩)⟩)⟩)⟩⟩)⟩)⟩⟩
    · by_cases e : i = k
      · rw [e]; exact z
      · exact hz i (by omega)
    · obtain ⟨j, j0, j1, j2⟩ := hEL.mpr w
      rcases Nat.lt_trichotomy j k with v | v | v
      · have := hz j v; omega
      · subst v; omega
      · exact z (j1 k v)
theorem M_tn_2 {kc ks : Nat} {h : Hh} {Q : PQ} {X : PX} {t : Int} {n p : Nat} {s : Int → Int} (hT : MT h t n s) (hpn : p ≤ n) (hQ : am_V M_X11_turns kc ks 2 [aR 72, aI t, aI ((p : Int) + 1), aU, aU] [] am_R0 (am_st h 77 (rk1 s n p) p) Q X) : ∀ (d i : Nat), i + d = n + 1 → am_V M_X11_turns kc ks 17 [aR 72, aI t, aI p, aI (cnt (fun o => EL (en s n) (en s n) o p) i), aI i] [] am_R0 h Q X := by
  have h64 := hT.2.1
  have hn := hT.2.2.1
  have ht := hT.1
  have hs := hT.2.2.2.1
  have hb := rk1_bd hs (p := p) (by omega) (by omega)
  intro d
  induction d with
  | zero =>
    intro i hi
    have : i = n + 1 := by omega
    subst this
    refine S_X11_turns_17 ⟨ht, fun _ => ⟨?_, hQ⟩, fun z => absurd z (by omega)⟩
    unfold rk1 at hb
    omega
  | succ d ih =>
    intro i hi
    have hle := cnt_le (fun o => EL (en s n) (en s n) o p) i
    have hnext := ih (i + 1) (by omega)
    refine S_X11_turns_17 ⟨ht, fun z => absurd z (by omega), fun _ => S_X11_isTurnedLess_0 (M_itl_1 hT (p := i) (q := p) (by omega) (by omega) (by omega) (by omega) (fun y => S_X11_turns_37 ⟨fun v => absurd v (by decide), fun _ => ⟨by omega, ?_⟩⟩) (fun y => S_X11_turns_37 ⟨fun _ => ⟨by omega, ?_⟩, fun v => absurd rfl v⟩) (n + 1) 0 (by omega) (fun i hi => absurd hi (Nat.not_lt_zero i)))⟩
    · rw [cnt_t (P := fun o => EL (en s n) (en s n) o p) y] at hnext
      exact hnext
    · rw [cnt_f (P := fun o => EL (en s n) (en s n) o p) y] at hnext
      rw [Int.add_zero]
      exact hnext
theorem M_tn_1 {kc ks : Nat} {Q : PQ} {X : PX} {t : Int} {n : Nat} {s pl ra : Int → Int} (g : Hh) (hT : MT g t n s) (hSA : SA s n pl ra) (hQ : ∀ h, (∀ d, d ≠ 77 → h d = g d) → (∀ r, 0 ≤ r → r ≤ (n : Int) → h 77 r = tp n pl r) → Q [] am_R0 h) : ∀ (d i : Nat) (h : Hh), i + d = n + 1 → (∀ d, d ≠ 77 → h d = g d) → (∀ p, 0 ≤ p → p < (i : Int) → h 77 (rk1 s n p) = p) → am_V M_X11_turns kc ks 2 [aR 72, aI t, aI i, aU, aU] [] am_R0 h Q X := by
  have h64 := hT.2.1
  have hs := hT.2.2.2.1
  intro d
  induction d with
  | zero =>
    intro i h hi hf hz
    have e := (hT.of (hf 73 (by decide)) (hf 74 (by decide))).2.2.1
    refine S_X11_turns_2 ⟨hT.1, fun _ => hQ h hf (fun r r0 r1 => ?_), fun z => absurd z (by omega)⟩
    obtain ⟨a0, a1, a2⟩ := rk1_tp hs hSA r0 r1
    have := hz (tp n pl r) a0 (by omega)
    rw [a2] at this
    exact this
  | succ d ih =>
    intro i h hi hf hz
    have hT' := hT.of (hf 73 (by decide)) (hf 74 (by decide))
    have e := hT'.2.2.1
    refine S_X11_turns_2 ⟨hT.1, fun z => absurd z (by omega), fun _ => M_tn_2 hT' (p := i) (by omega) (ih (i + 1) _ (by omega) (fun d hd => by rw [am_st_o hd]; exact hf d hd) (fun p p0 p1 => ?_)) (n + 1) 0 (by omega)⟩
    rw [am_st_i]
    by_cases y : p = i
    · rw [y, if_pos rfl]
    · rw [if_neg (fun w => ?_)]
      · exact hz p p0 (by omega)
      · have e1 := tp_rk1 hs hSA p0 (show p ≤ n by omega)
        have e2 := tp_rk1 hs hSA (p := i) (by omega) (by omega)
        rw [w, e2] at e1
        omega
theorem M_turns {kc ks : Nat} {g : Hh} {Q : PQ} {X : PX} {t : Int} {n : Nat} {s pl ra : Int → Int} (hT : MT g t n s) (hSA : SA s n pl ra) (hQ : ∀ h, (∀ d, d ≠ 77 → h d = g d) → (∀ r, 0 ≤ r → r ≤ (n : Int) → h 77 r = tp n pl r) → Q [] am_R0 h) : am_V M_X11_turns kc ks 0 [aR 72, aI t, aU, aU, aU] [] am_R0 g Q X :=
  S_X11_turns_0 (M_tn_1 g hT hSA hQ (n + 1) 0 g (by omega) (fun _ _ => rfl) (fun p p0 p1 => by omega))
theorem M_lastAt {kc ks : Nat} {h : Hh} {Q : PQ} {X : PX} {t r : Int} {n : Nat} {s pl ra : Int → Int} (hT : MT h t n s) (hSA : SA s n pl ra) (h77 : ∀ r, 0 ≤ r → r ≤ (n : Int) → h 77 r = tp n pl r) (hr : 0 ≤ r) (hrn : r ≤ n) (hQ : Q [aI (LSg s n pl r)] am_R0 h) : am_V M_X11_lastAt kc ks 0 [aR 72, aI t, aI r] [] am_R0 h Q X := by
  have h64 := hT.2.1
  have hn := hT.2.2.1
  have ht := hT.1
  have hs := hT.2.2.2.1
  obtain ⟨a0, a1, -⟩ := rk1_tp hs hSA hr hrn
  have e := h77 r hr hrn
  refine S_X11_lastAt_0 ⟨by omega, ?_⟩
  rw [e, hn]
  refine M_around hT (by omega) ?_
  have rg := ar_rg hs (n := n) (i := tp n pl r + n) (by omega)
  refine S_X11_lastAt_18 ⟨by omega, ?_⟩
  rw [ar_last hs hSA hr hrn]
  exact hQ
/-- whether there is such a row -/
def isRx (h : Hh) (t r : Int) : Prop := isTx h t ∧ 0 ≤ r ∧ r ≤ h 74 t
theorem isRx.get {h : Hh} {t r : Int} (hS : SIM h) (z : isRx h t r) : ∃ (n : Nat) (s pl ra : Int → Int), CT h (ta t) n s pl ra ∧ MT h t n s ∧ r ≤ n := by
  obtain ⟨n, s, pl, ra, hC, hM⟩ := hS.txt z.1
  have := z.2.2
  rw [hM.2.2.1] at this
  exact ⟨n, s, pl, ra, hC, hM, this⟩
theorem NK.rx {h h' : Hh} {t r : Int} (k : NK h h') : isRx h' t r ↔ isRx h t r := by unfold isRx; rw [k.tx, k.c74]
theorem isRx.z {h : Hh} {t : Int} (hS : SIM h) (z : isTx h t) : isRx h t 0 := by
  have := hS.ln t z.1 (hS.tx8.mpr z).2
  exact ⟨z, Int.le_refl 0, this.1⟩
theorem M_isNoRow1 {kc ks : Nat} {h : Hh} {Q : PQ} {X : PX} {t r : Int} {n : Nat} {s pl ra : Int → Int} (hS : SIM h) (z : isRx h t r) (hM : MT h t n s) (hSA : SA s n pl ra) (hQ : ∀ h2, MK h h2 → (∀ r, 0 ≤ r → r ≤ (n : Int) → h2 77 r = tp n pl r) → h2 72 10 = 0 → Q [aI 0] am_R0 h2) : am_V M_X11_isNoRow kc ks 0 [aR 72, aI t, aI r] [] am_R0 h Q X := by
  refine S_X11_isNoRow_0 (M_isText1 hS z.1 (S_X11_isNoRow_6 ⟨fun v => absurd v (by decide), fun _ => ⟨hM.1, L_isBetween (fun _ => S_X11_isNoRow_20 ⟨fun v => absurd v (by decide), fun _ => M_isWrong fun h2 m y => S_X11_isNoRow_31 ⟨fun _ => M_turns (m.mt hM) hSA (fun h3 hf h77 => S_X11_isNoRow_41 (hQ h3 (m.tr (MK.of fun d _ d2 _ _ _ => hf d d2)) h77 (by rw [hf 72 (by decide)]; exact y))), fun v => absurd rfl v⟩⟩) (fun v => absurd z.2 v)⟩⟩))
theorem M_isNoRow0 {kc ks : Nat} {h : Hh} {Q : PQ} {X : PX} {t r : Int} (hS : SIM h) (z : ¬ isRx h t r) (hQ : ∀ h2, MK h h2 → h2 72 10 = 1 → Q [aI 1] am_R0 h2) : am_V M_X11_isNoRow kc ks 0 [aR 72, aI t, aI r] [] am_R0 h Q X := by
  by_cases w : isTx h t
  · have h8 := hS.tx8.mpr w
    have := hS.m8
    exact S_X11_isNoRow_0 (M_isText1 hS w (S_X11_isNoRow_6 ⟨fun v => absurd v (by decide), fun _ => ⟨by omega, L_isBetween (fun v => absurd ⟨w, v⟩ z) (fun _ => S_X11_isNoRow_20 ⟨fun _ => M_isWrong fun h2 m y => S_X11_isNoRow_31 ⟨fun v => absurd v (by decide), fun _ => hQ h2 m y⟩, fun v => absurd rfl v⟩)⟩⟩))
  · exact S_X11_isNoRow_0 (M_isText0 hS w (S_X11_isNoRow_6 ⟨fun _ => M_isWrong fun h2 m y => S_X11_isNoRow_31 ⟨fun v => absurd v (by decide), fun _ => hQ h2 m y⟩, fun v => absurd rfl v⟩))
theorem C_placeOfRow {kc ks : Nat} {h : Hh} {Q : PQ} {X : PX} {a n : Nat} {s pl ra : Int → Int} (hC : CT h a n s pl ra) {r : Int} (hr : 0 ≤ r) (hrn : r ≤ n) (hQ : Q [aI (tp n pl r)] am_R0 h) : am_V M_X6_placeOfRow kc ks 0 [aR a, aI r] [] am_R0 h Q X := by
  obtain ⟨t0, n64, hn, rfl, rfl, rfl, hs, hSA, hcm⟩ := id hC
  unfold tp at hQ
  refine S_X6_placeOfRow_0 t0 ⟨fun z => ⟨by omega, by rw [if_neg z] at hQ; exact hQ⟩, fun z => by rw [if_pos z] at hQ; rw [hn]; exact hQ⟩
theorem C_lastSign {kc ks : Nat} {h : Hh} {Q : PQ} {X : PX} {a n : Nat} {s pl ra : Int → Int} (hC : CT h a n s pl ra) {r : Int} (hr : 0 ≤ r) (hrn : r ≤ n) (hQ : Q [aI (LSg s n pl r)] am_R0 h) : am_V M_X6_lastSign kc ks 0 [aR a, aI r, aU] [] am_R0 h Q X := by
  refine S_X6_lastSign_0 hC.1 (C_placeOfRow hC hr hrn ?_)
  obtain ⟨t0, n64, hn, rfl, rfl, rfl, hs, hSA, hcm⟩ := id hC
  obtain ⟨a0, a1, -⟩ := rk1_tp hs hSA hr hrn
  unfold LSg at hQ
  refine S_X6_lastSign_5 t0 ⟨fun z => ?_, fun z => by rw [if_pos z] at hQ; exact hQ⟩
  have := hs (tp n (h (a + 2)) r - 1) (by omega) (by omega)
  rw [if_neg z] at hQ
  exact ⟨by omega, hQ⟩
theorem T_first {kc ks : Nat} {h : Hh} {t r : Int} (hS : SIM h) (hkc : 2 ≤ kc) (hks : 12 ≤ ks) : am_V M_X10_first kc ks 0 [aR 0, aI t, aI r] [] am_R0 h (PQok M_X11_first [aR 72, aI t, aI r] aI) (PXok M_X11_first [aR 72, aI t, aI r] aI [xIO]) := by
  by_cases z : isRx h t r
  · obtain ⟨n, s, pl, ra, hC, hM, hrn⟩ := z.get hS
    have r0 := z.2.1
    obtain ⟨t0, n64, hn, e1, e2, e3, hs, hSA, hcm⟩ := id hC
    obtain ⟨a0, a1, -⟩ := rk1_tp hs hSA r0 hrn
    have e : (if r = 0 then 36 else s (pl (r - 1))) = ar s n (tp n pl r) := by
      rw [ar_at a0 a1]
      by_cases w : r = 0
      · rw [if_pos w, if_pos]
        unfold tp
        rw [if_pos w]
      · obtain ⟨b0, b1, -, -⟩ := hSA.at hs (r := r - 1) (by omega) (by omega)
        have et : tp n pl r = pl (r - 1) := if_neg w
        rw [if_neg w, et, if_neg (by omega)]
    have rg := ar_rg hs (n := n) (i := tp n pl r) a0
    have fin : PQok M_X11_first [aR 72, aI t, aI r] aI [aI (ar s n (tp n pl r))] am_R0 h := PQ.good hS (NK.rf h) fun kc ks Q X g hN hS' k => S_X11_first_0 (M_isNoRow1 hS' (hN.rx.mpr z) (hN.mt hM) hSA fun h2 m h77 y => S_X11_first_6 ⟨fun _ => ⟨by omega, by rw [h77 r r0 hrn]; exact M_around (m.mt (hN.mt hM)) a0 (S_X11_first_24 ⟨by omega, k h2 m y⟩)⟩, fun w => absurd rfl w⟩)
    refine S_X10_first_0 ⟨by omega, C_knownWithRow hS z.1 hC r0 hrn (by omega) (by omega) (S_X10_first_6 hC.1 (S_X6_firstSign_0 hC.1 ⟨fun w => ?_, fun w => S_X10_first_10 ⟨by decide, ?_⟩⟩))⟩
    · obtain ⟨b0, b1, -, -⟩ := hSA.at hs (r := r - 1) (by omega) (by omega)
      have sg := hs _ b0 b1
      rw [e1, e2]
      refine ⟨by omega, S_X10_first_10 ⟨by omega, ?_⟩⟩
      rw [if_neg w] at e
      rw [e]
      exact fin
    · rw [if_pos w] at e
      rw [e]
      exact fin
  · exact S_X10_first_0 ⟨by omega, C_knownWithRow0 hS z (by omega) (by omega) (PX.bad 0 hS (NK.rf h) rfl fun kc ks Q X hS' k => S_X11_first_0 (M_isNoRow0 hS z fun h2 m y => S_X11_first_6 ⟨fun w => absurd w (by decide), fun _ => k 0 h2 m y⟩))⟩
theorem T_last {kc ks : Nat} {h : Hh} {t r : Int} (hS : SIM h) (hkc : 2 ≤ kc) (hks : 12 ≤ ks) : am_V M_X10_last kc ks 0 [aR 0, aI t, aI r] [] am_R0 h (PQok M_X11_last [aR 72, aI t, aI r] aI) (PXok M_X11_last [aR 72, aI t, aI r] aI [xIO]) := by
  by_cases z : isRx h t r
  · obtain ⟨n, s, pl, ra, hC, hM, hrn⟩ := z.get hS
    have r0 := z.2.1
    have hs := hC.2.2.2.2.2.2.1
    have hSA := hC.2.2.2.2.2.2.2.1
    have rg := LS_ty hs hSA r0 hrn
    exact S_X10_last_0 ⟨by omega, C_knownWithRow hS z.1 hC r0 hrn (by omega) (by omega) (S_X10_last_6 hC.1 (C_lastSign hC r0 hrn (S_X10_last_10 ⟨by omega, PQ.good hS (NK.rf h) fun kc ks Q X g hN hS' k => S_X11_last_0 (M_isNoRow1 hS' (hN.rx.mpr z) (hN.mt hM) hSA fun h2 m h77 y => S_X11_last_6 ⟨fun _ => M_lastAt (m.mt (hN.mt hM)) hSA h77 r0 hrn (S_X11_last_19 ⟨by omega, k h2 m y⟩), fun w => absurd rfl w⟩)⟩)))⟩
  · exact S_X10_last_0 ⟨by omega, C_knownWithRow0 hS z (by omega) (by omega) (PX.bad 0 hS (NK.rf h) rfl fun kc ks Q X hS' k => S_X11_last_0 (M_isNoRow0 hS z fun h2 m y => S_X11_last_6 ⟨fun w => absurd w (by decide), fun _ => k 0 h2 m y⟩))⟩
/-- the place that comes ahead, going round -/
def wp (n : Nat) (p : Int) : Int := if p = 0 then n else p - 1
theorem wp_mod {n : Nat} {p : Int} (hp : 0 ≤ p) (hpn : p ≤ n) : (p + n) % ((n : Int) + 1) = wp n p := by
  unfold wp
  by_cases e : p = 0
  · rw [if_pos e, e, Int.zero_add, Int.emod_eq_of_lt (by omega) (by omega)]
  · rw [if_neg e, show p + (n : Int) = p - 1 + (n + 1) by omega, Int.add_emod_right]
    exact Int.emod_eq_of_lt (by omega) (by omega)
theorem wp_rg {n : Nat} {p : Int} (hp : 0 ≤ p) (hpn : p ≤ n) : 0 ≤ wp n p ∧ wp n p ≤ n := by
  unfold wp
  by_cases e : p = 0
  · rw [if_pos e]; omega
  · rw [if_neg e]; omega
theorem C_rowAhead {kc ks : Nat} {h : Hh} {Q : PQ} {X : PX} {a n : Nat} {s pl ra : Int → Int} (hC : CT h a n s pl ra) {r : Int} (hr : 0 ≤ r) (hrn : r ≤ n) (hQ : Q [aI (rk1 s n (wp n (tp n pl r)))] am_R0 h) : am_V M_X6_rowAhead kc ks 0 [aR a, aI r, aU] [] am_R0 h Q X := by
  refine S_X6_rowAhead_0 hC.1 (C_placeOfRow hC hr hrn ?_)
  obtain ⟨t0, n64, hn, rfl, rfl, rfl, hs, hSA, hcm⟩ := id hC
  obtain ⟨a0, a1, -⟩ := rk1_tp hs hSA hr hrn
  refine S_X6_rowAhead_5 t0 ⟨fun z => ?_, fun z => ?_⟩
  · have e : wp n (tp n (h (a + 2)) r) = tp n (h (a + 2)) r - 1 := if_neg z
    rw [e, rk1_at hs (by omega) (by omega)] at hQ
    have er := (hSA (tp n (h (a + 2)) r - 1) (by omega) (by omega)).1
    have b := rk_bd (s := h (a + 1)) (n := n) (p := tp n (h (a + 2)) r - 1) (by omega) (by omega)
    rw [er]
    exact ⟨by omega, hQ⟩
  · have e : wp n (tp n (h (a + 2)) r) = n := if_pos z
    rw [e, rk1_end hs] at hQ
    exact hQ
theorem M_bk_1 {kc ks : Nat} {h : Hh} {Q : PQ} {X : PX} {n : Nat} {s pl ra : Int → Int} (hs : WS s n) (hSA : SA s n pl ra) (h64 : n ≤ 64) (h77 : ∀ r, 0 ≤ r → r ≤ (n : Int) → h 77 r = tp n pl r) {p : Int} (hp : 0 ≤ p) (hpn : p ≤ n) (hQ : Q [aI (rk1 s n p)] am_R0 h) : ∀ (d i : Nat), i + d = rk1 s n p → am_V M_X11_back kc ks 37 [aR 72, aU, aU, aI p, aI i] [] am_R0 h Q X := by
  have hb := rk1_bd hs hp hpn
  intro d
  induction d with
  | zero =>
    intro i hi
    have e := h77 i (by omega) (by omega)
    have e2 := tp_rk1 hs hSA hp hpn
    rw [← hi] at e2 hQ
    refine S_X11_back_37 ⟨by omega, fun _ => hQ, fun z => absurd (e.trans e2) z⟩
  | succ d ih =>
    intro i hi
    have e := h77 i (by omega) (by omega)
    refine S_X11_back_37 ⟨by omega, fun z => ?_, fun z => ⟨by omega, ih (i + 1) (by omega)⟩⟩
    have := (rk1_tp hs hSA (r := i) (by omega) (by omega)).2.2
    rw [← e, z] at this
    omega
theorem T_back {kc ks : Nat} {h : Hh} {t r : Int} (hS : SIM h) (hkc : 2 ≤ kc) (hks : 12 ≤ ks) : am_V M_X10_back kc ks 0 [aR 0, aI t, aI r] [] am_R0 h (PQok M_X11_back [aR 72, aI t, aI r, aU, aU] aI) (PXok M_X11_back [aR 72, aI t, aI r, aU, aU] aI [xIO]) := by
  by_cases z : isRx h t r
  · obtain ⟨n, s, pl, ra, hC, hM, hrn⟩ := z.get hS
    have r0 := z.2.1
    have hs := hC.2.2.2.2.2.2.1
    have hSA := hC.2.2.2.2.2.2.2.1
    have h64 := hC.2.1
    have tt := hM.1
    obtain ⟨a0, a1, -⟩ := rk1_tp hs hSA r0 hrn
    have wr := wp_rg a0 a1
    refine S_X10_back_0 ⟨by omega, C_knownWithRow hS z.1 hC r0 hrn (by omega) (by omega) (S_X10_back_6 hC.1 (C_rowAhead hC r0 hrn (S_X10_back_10 (PQ.good hS (NK.rf h) fun kc ks Q X g hN hS' k => S_X11_back_0 (M_isNoRow1 hS' (hN.rx.mpr z) (hN.mt hM) hSA fun h2 m h77 y => S_X11_back_6 ⟨fun _ => ?_, fun w => absurd rfl w⟩)))))⟩
    rw [h77 r r0 hrn, (m.mt (hN.mt hM)).2.2.1, wp_mod a0 a1]
    exact ⟨by omega, M_bk_1 hs hSA h64 h77 wr.1 wr.2 (k h2 m y) (rk1 s n (wp n (tp n pl r))) 0 (Nat.zero_add _)⟩
  · exact S_X10_back_0 ⟨by omega, C_knownWithRow0 hS z (by omega) (by omega) (PX.bad 0 hS (NK.rf h) rfl fun kc ks Q X hS' k => S_X11_back_0 (M_isNoRow0 hS z fun h2 m y => S_X11_back_6 ⟨fun w => absurd w (by decide), fun _ => k 0 h2 m y⟩))⟩
theorem C_ru_1 {kc ks : Nat} {h : Hh} {Q : PQ} {X : PX} {a n : Nat} {s pl ra : Int → Int} (hC : CT h a n s pl ra) (hQ : Q [aI (1 + cnt (fun k => LSg s n pl (k + 1) ≠ LSg s n pl k) n)] am_R0 h) : ∀ (d i : Nat), i + d = n → am_V M_X10_runs kc ks 11 [aU, aU, aR a, aI (1 + cnt (fun k => LSg s n pl (k + 1) ≠ LSg s n pl k) i), aI ((i : Int) + 1)] [] am_R0 h Q X := by
  have t0 := hC.1
  have h64 := hC.2.1
  have hn := hC.2.2.1
  intro d
  induction d with
  | zero =>
    intro i hi
    have : i = n := by omega
    subst this
    exact S_X10_runs_11 t0 ⟨fun _ => hQ, fun z => absurd z (by omega)⟩
  | succ d ih =>
    intro i hi
    have hle := cnt_le (fun k => LSg s n pl (k + 1) ≠ LSg s n pl k) i
    have hnext := ih (i + 1) (by omega)
    refine S_X10_runs_11 t0 ⟨fun z => absurd z (by omega), fun _ => C_lastSign hC (by omega) (by omega) (S_X10_runs_26 t0 ⟨by omega, ?_⟩)⟩
    rw [show (i : Int) + 1 - 1 = i by omega]
    refine C_lastSign hC (by omega) (by omega) (S_X10_runs_34 t0 ⟨fun z => ⟨by omega, ?_⟩, fun z => ⟨by omega, ?_⟩⟩)
    · rw [cnt_f (P := fun k => LSg s n pl (k + 1) ≠ LSg s n pl k) (fun w => w z)] at hnext
      exact hnext
    · rw [cnt_t (P := fun k => LSg s n pl (k + 1) ≠ LSg s n pl k) z] at hnext
      rw [show 1 + (cnt (fun k => LSg s n pl (k + 1) ≠ LSg s n pl k) i : Int) + 1 = 1 + ((cnt (fun k => LSg s n pl (k + 1) ≠ LSg s n pl k) i + 1 : Nat) : Int) by omega]
      exact hnext
theorem M_ru_1 {kc ks : Nat} {h : Hh} {Q : PQ} {X : PX} {t : Int} {n : Nat} {s pl ra : Int → Int} (hT : MT h t n s) (hSA : SA s n pl ra) (h77 : ∀ r, 0 ≤ r → r ≤ (n : Int) → h 77 r = tp n pl r) (hQ : Q [aI (1 + cnt (fun k => LSg s n pl (k + 1) ≠ LSg s n pl k) n)] am_R0 h) : ∀ (d i : Nat), i + d = n → am_V M_X11_runs kc ks 15 [aR 72, aI t, aI (1 + cnt (fun k => LSg s n pl (k + 1) ≠ LSg s n pl k) i), aI ((i : Int) + 1)] [] am_R0 h Q X := by
  have h64 := hT.2.1
  have hn := hT.2.2.1
  intro d
  induction d with
  | zero =>
    intro i hi
    have : i = n := by omega
    subst this
    exact S_X11_runs_15 ⟨hT.1, fun _ => hQ, fun z => absurd z (by omega)⟩
  | succ d ih =>
    intro i hi
    have hle := cnt_le (fun k => LSg s n pl (k + 1) ≠ LSg s n pl k) i
    have hnext := ih (i + 1) (by omega)
    refine S_X11_runs_15 ⟨hT.1, fun z => absurd z (by omega), fun _ => M_lastAt hT hSA h77 (by omega) (by omega) (S_X11_runs_32 ⟨by omega, ?_⟩)⟩
    rw [show (i : Int) + 1 - 1 = i by omega]
    refine M_lastAt hT hSA h77 (by omega) (by omega) (S_X11_runs_40 ⟨fun z => ⟨by omega, ?_⟩, fun z => ⟨by omega, ?_⟩⟩)
    · rw [cnt_t (P := fun k => LSg s n pl (k + 1) ≠ LSg s n pl k) z] at hnext
      rw [show 1 + (cnt (fun k => LSg s n pl (k + 1) ≠ LSg s n pl k) i : Int) + 1 = 1 + ((cnt (fun k => LSg s n pl (k + 1) ≠ LSg s n pl k) i + 1 : Nat) : Int) by omega]
      exact hnext
    · rw [cnt_f (P := fun k => LSg s n pl (k + 1) ≠ LSg s n pl k) (fun w => w z)] at hnext
      rw [Int.add_zero]
      exact hnext
theorem T_runs {kc ks : Nat} {h : Hh} {t : Int} (hS : SIM h) (hkc : 1 ≤ kc) (hks : 6 ≤ ks) : am_V M_X10_runs kc ks 0 [aR 0, aI t, aU, aU, aU] [] am_R0 h (PQok M_X11_runs [aR 72, aI t, aU, aU] aI) (PXok M_X11_runs [aR 72, aI t, aU, aU] aI [xIO]) := by
  by_cases z : isTx h t
  · obtain ⟨n, s, pl, ra, hC, hM⟩ := hS.txt z
    have hSA := hC.2.2.2.2.2.2.2.1
    refine S_X10_runs_0 ⟨by omega, C_known hS z (by omega) (by omega) (S_X10_runs_5 hC.1 (C_ru_1 hC (PQ.good hS (NK.rf h) fun kc ks Q X g hN hS' k => S_X11_runs_0 (M_isNoRow1 hS' (isRx.z hS' (hN.tx.mpr z)) (hN.mt hM) hSA fun h2 m h77 y => S_X11_runs_6 ⟨fun _ => M_ru_1 (m.mt (hN.mt hM)) hSA h77 (k h2 m y) n 0 (by omega), fun w => absurd rfl w⟩)) n 0 (by omega)))⟩
  · exact S_X10_runs_0 ⟨by omega, C_known0 hS z (by omega) (by omega) (PX.bad 0 hS (NK.rf h) rfl fun kc ks Q X hS' k => S_X11_runs_0 (M_isNoRow0 hS (fun w => z w.1) fun h2 m y => S_X11_runs_6 ⟨fun w => absurd w (by decide), fun _ => k 0 h2 m y⟩))⟩
theorem C_co_1 {kc ks : Nat} {Q : PQ} {X : PX} {a n : Nat} {s pl ra : Int → Int} (h0 : Hh) (hC : CT h0 a n s pl ra) (hQ : ∀ h, (∀ d, d ≠ 2 → d ≠ 3 → h d = h0 d) → h 2 1 = (n : Int) + 1 → (∀ k, 0 ≤ k → k < (n : Int) + 1 → h 3 k = LSg s n pl k) → Q [aI ((n : Int) + 1)] am_R0 h) : ∀ (d i : Nat) (h : Hh), i + d = n + 1 → (∀ d, d ≠ 2 → d ≠ 3 → h d = h0 d) → h 2 1 = i → (∀ k, 0 ≤ k → k < (i : Int) → h 3 k = LSg s n pl k) → am_V M_X10_column kc ks 16 [aR 0, aU, aR a, aI i] [] am_R0 h Q X := by
  obtain ⟨t0, h64, hn, -, -, -, hs, hSA, -⟩ := id hC
  have hat : ∃ i : Nat, i < 8 ∧ a = 32 + 5 * i := t0
  obtain ⟨ia, ia8, iae⟩ := hat
  intro d
  induction d with
  | zero =>
    intro i h hi hf h21 hz
    have : i = n + 1 := by omega
    subst this
    have e4 : h a 4 = n := by rw [hf a (by omega) (by omega)]; exact hn
    refine S_X10_column_16 t0 ⟨fun _ => ?_, fun z => absurd z (by omega)⟩
    rw [h21, show ((n + 1 : Nat) : Int) = (n : Int) + 1 by omega]
    exact hQ h hf (by omega) (fun k k0 k1 => hz k k0 (by omega))
  | succ d ih =>
    intro i h hi hf h21 hz
    have e4 : h a 4 = n := by rw [hf a (by omega) (by omega)]; exact hn
    have hC' : CT h a n s pl ra := by
      obtain ⟨q1, q2, q3, q4, q5, q6, q7, q8, q9⟩ := hC
      exact ⟨q1, q2, e4, by rw [hf _ (by omega) (by omega)]; exact q4, by rw [hf _ (by omega) (by omega)]; exact q5, by rw [hf _ (by omega) (by omega)]; exact q6, q7, q8, fun r r0 r1 => by rw [hf _ (by omega) (by omega)]; exact q9 r r0 r1⟩
    have rg := LS_ty hs hSA (r := i) (by omega) (by omega)
    refine S_X10_column_16 t0 ⟨fun z => absurd z (by omega), fun _ => C_lastSign hC' (by omega) (by omega) (S_X10_column_33 t0 (S_X8_put_0 ⟨fun z => absurd z (by omega), fun _ => ?_⟩))⟩
    rw [Int.emod_eq_of_lt (by omega) (by omega), am_st_n (h := h) (a := 3) (a' := 2) (Or.inl (by decide)), h21]
    refine ⟨by omega, S_X10_column_36 t0 ⟨by omega, ih (i + 1) _ (by omega) (fun d d1 d2 => by rw [am_st_o d1, am_st_o d2]; exact hf d d1 d2) (by rw [am_st_s]; omega) (fun k k0 k1 => ?_)⟩⟩
    rw [am_st_o (by decide), am_st_i]
    by_cases e : k = i
    · rw [if_pos e, e]
    · rw [if_neg e]
      exact hz k k0 (by omega)
theorem M_co2_1 {kc ks : Nat} {Q : PQ} {X : PX} {t : Int} {n : Nat} {s pl ra : Int → Int} (g : Hh) (hT : MT g t n s) (hSA : SA s n pl ra) (hQ : ∀ h, RW g h (LSg s n pl) ((n : Int) + 1) → Q [aI ((n : Int) + 1)] am_R0 h) : ∀ (d i : Nat) (h : Hh), i + d = n + 1 → (∀ d, d ≠ 72 → d ≠ 75 → d ≠ 76 → d ≠ 77 → h d = g d) → h 72 8 = g 72 8 → h 72 10 = 0 → (∀ r, 0 ≤ r → r ≤ (n : Int) → h 77 r = tp n pl r) → (∀ k, 0 ≤ k → k < (i : Int) → h 75 k = LSg s n pl k) → am_V M_X11_column kc ks 13 [aR 72, aI t, aI i] [] am_R0 h Q X := by
  have h64 := hT.2.1
  have ht := hT.1
  have hs := hT.2.2.2.1
  intro d
  induction d with
  | zero =>
    intro i h hi hf h8 h10 h77 hz
    have : i = n + 1 := by omega
    subst this
    have hT' : MT h t n s := hT.of (hf 73 (by decide) (by decide) (by decide) (by decide)) (hf 74 (by decide) (by decide) (by decide) (by decide))
    refine S_X11_column_13 ⟨ht, fun _ => ?_, fun z => absurd z (by have := hT'.2.2.1; omega)⟩
    rw [hT'.2.2.1, am_st_s]
    refine ⟨by omega, hQ _ ⟨fun d d1 d2 d3 d4 => by rw [am_st_o d1]; exact hf d d1 d2 d3 d4, by rw [am_st_n (Or.inr (by decide))]; exact h8, by rw [am_st_n (Or.inr (by decide))]; exact h10, am_st_s, fun k k0 k1 => by rw [am_st_o (by decide)]; exact hz k k0 (by omega)⟩⟩
  | succ d ih =>
    intro i h hi hf h8 h10 h77 hz
    have hT' : MT h t n s := hT.of (hf 73 (by decide) (by decide) (by decide) (by decide)) (hf 74 (by decide) (by decide) (by decide) (by decide))
    have e74 := hT'.2.2.1
    have rg := LS_ty hs hSA (r := i) (by omega) (by omega)
    refine S_X11_column_13 ⟨ht, fun z => absurd z (by omega), fun _ => M_lastAt hT' hSA h77 (by omega) (by omega) (S_X11_column_34 ?_)⟩
    rw [Int.emod_eq_of_lt (by omega) (by omega)]
    refine ⟨by omega, ih (i + 1) _ (by omega) (fun d d1 d2 d3 d4 => by rw [am_st_o d2]; exact hf d d1 d2 d3 d4) (by rw [am_st_o (by decide)]; exact h8) (by rw [am_st_o (by decide)]; exact h10) (fun r r0 r1 => by rw [am_st_o (by decide)]; exact h77 r r0 r1) (fun k k0 k1 => ?_)⟩
    rw [am_st_i]
    by_cases e : k = i
    · rw [if_pos e, e]
    · rw [if_neg e]
      exact hz k k0 (by omega)
theorem T_column {kc ks : Nat} {h : Hh} {t : Int} (hS : SIM h) (hkc : 1 ≤ kc) (hks : 6 ≤ ks) : am_V M_X10_column kc ks 0 [aR 0, aI t, aU, aU] [] am_R0 h (PQok M_X11_column [aR 72, aI t, aU] aI) (PXok M_X11_column [aR 72, aI t, aU] aI [xIO]) := by
  by_cases z : isTx h t
  · obtain ⟨n, s, pl, ra, hC, hM⟩ := hS.txt z
    obtain ⟨t0, n64, hn, e1, e2, e3, hs, hSA, hcm⟩ := id hC
    obtain ⟨ia, ia8, iae⟩ := id t0
    have hC2 : CT (am_st h 2 1 0) (ta t) n s pl ra := by
      obtain ⟨q1, q2, q3, q4, q5, q6, q7, q8, q9⟩ := hC
      have e : ∀ j, am_st h 2 1 0 (ta t + j) = h (ta t + j) := fun j => am_st_o (by omega)
      have e0 := e 0
      rw [Nat.add_zero] at e0
      exact ⟨q1, q2, by rw [e0]; exact q3, by rw [e]; exact q4, by rw [e]; exact q5, by rw [e]; exact q6, q7, q8, fun r r0 r1 => by rw [e]; exact q9 r r0 r1⟩
    refine S_X10_column_0 ⟨by omega, C_known hS z (by omega) (by omega) (S_X10_column_5 t0 (C_co_1 _ hC2 (fun h' hf h21 hh3 => ?_) (n + 1) 0 _ (by omega) (fun _ _ _ => rfl) am_st_s (fun k k0 k1 => by omega)))⟩
    refine GM.raw fun kc ks Q X k => ?_
    obtain ⟨g, hg⟩ : ∃ g : Hh, g = am_st h' 81 0 ((n : Int) + 1) := ⟨_, rfl⟩
    rw [← hg]
    have g81 : g 81 = am_st h' 81 0 ((n : Int) + 1) 81 := by rw [hg]
    rw [← g81] at k
    have gf : ∀ d, d ≠ 2 → d ≠ 3 → d ≠ 81 → g d = h d := fun d d1 d2 d3 => by rw [hg, am_st_o d3, hf d d1 d2, am_st_o d1]
    have q : ∀ d, 72 ≤ d → d ≠ 81 → g d = h d := fun d d1 d2 => gf d (by omega) (by omega) d2
    have hMg : MT g t n s := hM.of (q 73 (by decide) (by decide)) (q 74 (by decide) (by decide))
    have e8 : 0 ≤ g 72 8 ∧ g 72 8 ≤ 8 := by rw [q 72 (by decide) (by decide)]; exact hS.m8
    have gtx : 0 ≤ t ∧ t < g 72 8 := by rw [q 72 (by decide) (by decide)]; exact hS.tx8.mpr z
    have hMg2 : MT (am_st g 72 10 0) t n s := hMg.of (am_st_o (by decide)) (am_st_o (by decide))
    have fin : am_V M_X11_isNoRow 0 0 31 [aR 72, aI t, aU] [aI (if (0 : Int) = 0 then 0 else 1)] am_R0 (am_st g 72 10 0) (fun v ρ' h' => am_V M_X11_column kc ks 6 [aR 72, aI t, aU] (v ++ []) ρ' h' Q X) X := by
      refine S_X11_isNoRow_31 ⟨fun _ => M_turns hMg2 hSA (fun h3 hf3 h77 => S_X11_isNoRow_41 (S_X11_column_6 ⟨fun _ => M_co2_1 g hMg hSA (fun h4 hR => k h4 hR.2.2.1 (hR.1 81 (by decide) (by decide) (by decide) (by decide)) (RW.sim hS gf ?_ ?_ (by omega) (by omega) (fun i i0 i1 => LS_ty hs hSA i0 (by omega)) hR)) (n + 1) 0 h3 (by omega) (fun d d1 d2 d3 d4 => by rw [hf3 d d4, am_st_o d1]) ?_ ?_ h77 (fun i i0 i1 => by omega), fun w => absurd rfl w⟩)), fun v => absurd rfl v⟩
      · rw [hg, am_st_o (by decide)]; exact h21
      · intro i i0 i1
        rw [hg, am_st_o (by decide)]
        exact hh3 i i0 i1
      · rw [hf3 72 (by decide), am_st_n (Or.inr (by decide))]
      · rw [hf3 72 (by decide), am_st_s]
    refine S_X11_column_0 (S_X11_isNoRow_0 (L_isText e8 (fun _ => S_X11_isNoRow_6 ⟨fun v => absurd v (by decide), fun _ => ⟨hM.1, L_isBetween (fun _ => S_X11_isNoRow_20 ⟨fun v => absurd v (by decide), fun _ => L_isWrong fin⟩) (fun v => absurd ⟨Int.le_refl 0, by rw [hMg.2.2.1]; omega⟩ v)⟩⟩) (fun v => absurd gtx v)))
  · exact S_X10_column_0 ⟨by omega, C_known0 hS z (by omega) (by omega) (PX.bad 0 hS (NK.rf h) rfl fun kc ks Q X hS' k => S_X11_column_0 (M_isNoRow0 hS (fun w => z w.1) fun h2 m y => S_X11_column_6 ⟨fun w => absurd w (by decide), fun _ => k 0 h2 m y⟩))⟩
