/-! THE TYPED WORD: count, tail, runFrom, standsAt, numberOf; words -/
def isW (h : Hh) : Prop := h 2 1 ≠ 0 ∧ ¬ endIn (h 3) (h 2 1)
def CW (h : Hh) (w : Int → Int) (m : Nat) : Prop := h 2 1 = m ∧ m ≤ 65 ∧ h 3 = w ∧ ∀ k, 0 ≤ k → k < (m : Int) → 97 ≤ w k ∧ w k ≤ 122
def MW (h : Hh) (w : Int → Int) (m : Nat) : Prop := h 72 9 = m ∧ m ≤ 65 ∧ ∀ k, 0 ≤ k → k < (m : Int) → h 75 k = w k ∧ 97 ≤ w k ∧ w k ≤ 122
theorem SIM.word {h : Hh} (hS : SIM h) (z : isW h) : ∃ (m : Nat) (w : Int → Int), 0 < m ∧ CW h w m ∧ MW h w m := by
  obtain ⟨b0, b1, b2⟩ := hS.2.1
  obtain ⟨m, hm⟩ : ∃ m : Nat, h 2 1 = m := ⟨(h 2 1).toNat, by omega⟩
  have z1 := z.1
  exact ⟨m, h 3, by omega, ⟨hm, by omega, rfl, fun k k0 k1 => hS.letters z.2 k0 (by omega)⟩, by omega, by omega, fun k k0 k1 => ⟨(hS.2.2.1 k k0 (by omega)).1, hS.letters z.2 k0 (by omega)⟩⟩
theorem NK.w {h h' : Hh} (k : NK h h') : isW h' ↔ isW h := by unfold isW; rw [k.c2, k.c3]
theorem NK.mw {h h' : Hh} {w : Int → Int} {m : Nat} (k : NK h h') (hW : MW h w m) : MW h' w m := ⟨by rw [k.c72]; exact hW.1, hW.2.1, fun i i0 i1 => by rw [k.c75]; exact hW.2.2 i i0 i1⟩
theorem MK.mw {h h' : Hh} {w : Int → Int} {m : Nat} (k : MK h h') (hW : MW h w m) : MW h' w m := ⟨by rw [k.2.2]; exact hW.1, hW.2.1, fun i i0 i1 => by rw [k.c75]; exact hW.2.2 i i0 i1⟩
theorem SIM.w {h : Hh} (hS : SIM h) : (h 72 9 ≠ 0 ∧ ¬ endIn (h 75) (h 72 9)) ↔ isW h := by
  unfold isW
  rw [hS.2.1.2.2]
  have e : endIn (h 75) (h 2 1) ↔ endIn (h 3) (h 2 1) := by
    constructor
    · intro ⟨k, k0, k1, k2⟩
      exact ⟨k, k0, k1, by rw [← (hS.2.2.1 k k0 k1).1]; exact k2⟩
    · intro ⟨k, k0, k1, k2⟩
      exact ⟨k, k0, k1, by rw [(hS.2.2.1 k k0 k1).1]; exact k2⟩
  rw [e]
theorem C_refuseNoWord {kc ks : Nat} {h : Hh} {Q : PQ} {X : PX} (hS : SIM h) (hkc : 1 ≤ kc) (hks : 6 ≤ ks) (hQ : isW h → Q [] am_R0 h) (hX : ¬ isW h → X xUO am_R0 h) : am_V M_X10_refuseNoWord kc ks 0 [aR 0] [] am_R0 h Q X := L_refuseNoWord hS.2.1.2.1 hkc hks (fun y0 y1 => hQ ⟨y0, y1⟩) hX
theorem M_isNoWord1 {kc ks : Nat} {h : Hh} {Q : PQ} {X : PX} {t : Int} (hS : SIM h) (z : isTx h t) (w : isW h) (hQ : ∀ h2, MK h h2 → h2 72 10 = 0 → Q [aI 0] am_R0 h2) : am_V M_X11_isNoWord kc ks 0 [aR 72, aI t] [] am_R0 h Q X := L_isNoWord hS.m8 (by have := hS.2.1; omega) (fun _ _ _ => hQ _ (MK.rf h).th am_st_s) (fun y => absurd (hS.tx8.mpr z) y) (fun _ y => absurd (hS.w.mpr w) y)
theorem M_isNoWord2 {kc ks : Nat} {h : Hh} {Q : PQ} {X : PX} {t : Int} (hS : SIM h) (z : isTx h t) (w : ¬ isW h) (hQ : ∀ h2, MK h h2 → h2 72 10 = 2 → Q [aI 1] am_R0 h2) : am_V M_X11_isNoWord kc ks 0 [aR 72, aI t] [] am_R0 h Q X := L_isNoWord hS.m8 (by have := hS.2.1; omega) (fun _ y0 y1 => absurd (hS.w.mp ⟨y0, y1⟩) w) (fun y => absurd (hS.tx8.mpr z) y) (fun _ _ => hQ _ (MK.rf h).th am_st_s)
theorem M_isNoWord0 {kc ks : Nat} {h : Hh} {Q : PQ} {X : PX} {t : Int} (hS : SIM h) (z : ¬ isTx h t) (hQ : ∀ h2, MK h h2 → h2 72 10 = 1 → Q [aI 1] am_R0 h2) : am_V M_X11_isNoWord kc ks 0 [aR 72, aI t] [] am_R0 h Q X := L_isNoWord hS.m8 (by have := hS.2.1; omega) (fun y _ _ => absurd (hS.tx8.mp y) z) (fun _ => hQ _ (MK.rf h).th am_st_s) (fun y _ => absurd (hS.tx8.mp y) z)
theorem standsAt_W {h : Hh} {t p : Int} {n m f : Nat} {s w : Int → Int} (hT : MT h t n s) (hW : MW h w m) (hf : f ≤ m) (hp : 0 ≤ p) (hpn : p ≤ n) : standsAt (h 75) (h 72 9) f (ms h t) n p ↔ AG (en s n) w p f (m - f) := by
  rw [standsAt_iff (row := h 75) (w := w) (W := m - f) (by rw [hW.1]; omega) (by omega) hp hpn (fun k k0 k1 => (hW.2.2 k (by omega) (by rw [← hW.1]; exact k1)).1) (fun k k0 k1 => (hW.2.2 k (by omega) (by rw [← hW.1]; exact k1)).2.1)]
  exact ⟨fun y i hi => by rw [← y i hi]; exact (en_congr hT.2.2.2.2 (by omega)).symm, fun y i hi => by rw [← y i hi]; exact en_congr hT.2.2.2.2 (by omega)⟩
theorem M_stands {kc ks : Nat} {h : Hh} {Q : PQ} {X : PX} {t p : Int} {n m f : Nat} {s w : Int → Int} (hT : MT h t n s) (hW : MW h w m) (hf : f ≤ m) (hp : 0 ≤ p) (hpn : p ≤ n) (h1 : AG (en s n) w p f (m - f) → Q [aI 1] am_R0 h) (h0 : ¬ AG (en s n) w p f (m - f) → Q [aI 0] am_R0 h) : am_V M_X11_stands kc ks 0 [aR 72, aI f, aI t, aI p, aU] [] am_R0 h Q X := by
  have e := standsAt_W hT hW hf hp hpn
  have h9 := hW.1
  have h65 := hW.2.1
  have h64 := hT.2.1
  exact L_stands hT.1.1 hT.1.2 (by omega) (by omega) (by omega) (by omega) hp (by omega) hT.2.2.1 (by omega) (fun y => h1 (e.mp y)) (fun y => h0 fun w => y (e.mpr w))
theorem M_countFrom {kc ks : Nat} {h : Hh} {Q : PQ} {X : PX} {t : Int} {n m f : Nat} {s w : Int → Int} (hT : MT h t n s) (hW : MW h w m) (hf : f ≤ m) (hQ : Q [aI (cnt (fun p => AG (en s n) w p f (m - f)) n)] am_R0 h) : am_V M_X11_countFrom kc ks 0 [aR 72, aI f, aI t, aU, aU] [] am_R0 h Q X := by
  have h9 := hW.1
  have h65 := hW.2.1
  have h64 := hT.2.1
  refine L_countFrom hT.1.1 hT.1.2 (by omega) (by omega) (by omega) (by omega) hT.2.2.1 h64 ?_
  rw [cnt_congr n (fun p p0 p1 => standsAt_W hT hW hf p0 (by omega))]
  exact hQ
/-- the ranks of the ends that begin with the word -/
def RUN (s w pl : Int → Int) (n f W lo hi : Nat) : Prop := lo ≤ hi ∧ hi ≤ n ∧ cnt (fun p => AG (en s n) w p f W) n + lo = hi ∧ ∀ r, 0 ≤ r → r < (n : Int) → (AG (en s n) w (pl r) f W ↔ (lo : Int) ≤ r ∧ r < hi)
theorem C_below {kc ks : Nat} {h : Hh} {Q : PQ} {X : PX} {a n m : Nat} {s pl ra w : Int → Int} (hC : CT h a n s pl ra) (hW : CW h w m) {f : Nat} (hf : f ≤ m) (hQ : ∀ lo : Nat, lo ≤ n → (∀ r, 0 ≤ r → r < (lo : Int) → E2 (en s n) w (m - f) (pl r) f) → (∀ r, (lo : Int) ≤ r → r < n → ¬ E2 (en s n) w (m - f) (pl r) f) → Q [aI lo] am_R0 h) : am_V M_X6_endsBelow kc ks 0 [aR a, aR 2, aI f] [] am_R0 h Q X := by
  obtain ⟨t0, n64, hn, rfl, rfl, rfl, hs, hSA, hcm⟩ := hC
  obtain ⟨w1, w2, rfl, w4⟩ := hW
  exact L_endsBelow t0 hn n64 hs hSA (by omega) (by omega) (by omega) (fun k k0 k1 => w4 k (by omega) (by omega)) hQ
theorem C_upTo {kc ks : Nat} {h : Hh} {Q : PQ} {X : PX} {a n m : Nat} {s pl ra w : Int → Int} (hC : CT h a n s pl ra) (hW : CW h w m) {f : Nat} (hf : f ≤ m) (hQ : ∀ lo : Nat, lo ≤ n → (∀ r, 0 ≤ r → r < (lo : Int) → ¬ E2 w (en s n) (m - f) f (pl r)) → (∀ r, (lo : Int) ≤ r → r < n → E2 w (en s n) (m - f) f (pl r)) → Q [aI lo] am_R0 h) : am_V M_X6_endsUpTo kc ks 0 [aR a, aR 2, aI f] [] am_R0 h Q X := by
  obtain ⟨t0, n64, hn, rfl, rfl, rfl, hs, hSA, hcm⟩ := hC
  obtain ⟨w1, w2, rfl, w4⟩ := hW
  exact L_endsUpTo t0 hn n64 hs hSA (by omega) (by omega) (by omega) (fun k k0 k1 => w4 k (by omega) (by omega)) hQ
theorem RUN.mk {s w pl ra : Int → Int} {n f W lo hi : Nat} (hs : WS s n) (hSA : SA s n pl ra) (l1 : lo ≤ n) (v1 : ∀ r, 0 ≤ r → r < (lo : Int) → E2 (en s n) w W (pl r) f) (v2 : ∀ r, (lo : Int) ≤ r → r < n → ¬ E2 (en s n) w W (pl r) f) (l2 : hi ≤ n) (u1 : ∀ r, 0 ≤ r → r < (hi : Int) → ¬ E2 w (en s n) W f (pl r)) (u2 : ∀ r, (hi : Int) ≤ r → r < n → E2 w (en s n) W f (pl r)) : RUN s w pl n f W lo hi :=
  ⟨run_le l1 v1 u2, l2, run_cnt (hSA.perm hs) l1 l2 v1 v2 u1 u2, fun r r0 r1 => run_in v1 v2 u1 u2 r0 r1⟩
theorem RUN.pl {s w pl ra : Int → Int} {n f W lo hi : Nat} (hSA : SA s n pl ra) (hR : RUN s w pl n f W lo hi) {p : Int} (hp : 0 ≤ p) (hpn : p < n) : AG (en s n) w p f W ↔ lo ≤ rk s n p ∧ rk s n p < hi := by
  have b := rk_bd (s := s) (n := n) hp hpn
  have := hR.2.2.2 (rk s n p) (by omega) b
  rw [(hSA p hp hpn).2] at this
  rw [this]
  omega
theorem T_count {kc ks : Nat} {h : Hh} {t : Int} (hS : SIM h) (hkc : 2 ≤ kc) (hks : 12 ≤ ks) : am_V M_X10_count kc ks 0 [aR 0, aI t, aU] [] am_R0 h (PQok M_X11_count [aR 72, aI t] aI) (PXok M_X11_count [aR 72, aI t] aI [xIO, xUO]) := by
  by_cases z : isTx h t
  · obtain ⟨n, s, pl, ra, hC, hM⟩ := hS.txt z
    refine S_X10_count_0 ⟨by omega, C_known hS z (by omega) (by omega) (S_X10_count_5 hC.1 ⟨by omega, C_refuseNoWord hS (by omega) (by omega) (fun y => ?_) (fun y => PX.bad 1 hS (NK.rf h) rfl fun kc ks Q X hS' k => S_X11_count_0 (M_isNoWord2 hS z y fun h2 m x => S_X11_count_5 ⟨fun w => absurd w (by decide), fun _ => k 0 h2 m x⟩))⟩)⟩
    obtain ⟨m, w, m0, hCW, hMW⟩ := hS.word y
    refine S_X10_count_10 hC.1 (C_upTo hC hCW (f := 0) (by omega) fun hi l2 u1 u2 => S_X10_count_19 hC.1 (C_below hC hCW (f := 0) (by omega) fun lo l1 v1 v2 => ?_))
    have hR := RUN.mk hC.2.2.2.2.2.2.1 hC.2.2.2.2.2.2.2.1 l1 v1 v2 l2 u1 u2
    have h64 := hC.2.1
    refine S_X10_count_28 ⟨by omega, ?_⟩
    rw [show (hi : Int) - lo = (cnt (fun p => AG (en s n) w p ((0 : Nat) : Int) (m - 0)) n : Int) by have := hR.2.2.1; omega]
    exact PQ.good hS (NK.rf h) fun kc ks Q X g hN hS' k => S_X11_count_0 (M_isNoWord1 hS' (hN.tx.mpr z) (hN.w.mpr y) fun h2 m x => S_X11_count_5 ⟨fun _ => M_countFrom (f := 0) (m.mt (hN.mt hM)) (m.mw (hN.mw hMW)) (by omega) (S_X11_count_18 (k h2 m x)), fun w => absurd rfl w⟩)
  · exact S_X10_count_0 ⟨by omega, C_known0 hS z (by omega) (by omega) (PX.bad 0 hS (NK.rf h) rfl fun kc ks Q X hS' k => S_X11_count_0 (M_isNoWord0 hS z fun h2 m y => S_X11_count_5 ⟨fun w => absurd w (by decide), fun _ => k 0 h2 m y⟩))⟩
theorem T_tail {kc ks : Nat} {h : Hh} {t x : Int} (hS : SIM h) (hkc : 3 ≤ kc) (hks : 18 ≤ ks) : am_V M_X10_tail kc ks 0 [aR 0, aI t, aI x, aU, aU] [] am_R0 h (PQok M_X11_tail [aR 72, aI t, aI x] aI) (PXok M_X11_tail [aR 72, aI t, aI x] aI [xIO, xUO, xIA]) := by
  by_cases z : isTx h t
  · obtain ⟨n, s, pl, ra, hC, hM⟩ := hS.txt z
    refine S_X10_tail_0 ⟨by omega, C_known hS z (by omega) (by omega) (S_X10_tail_5 hC.1 ⟨by omega, C_refuseNoWord hS (by omega) (by omega) (fun y => ?_) (fun y => PX.bad 1 hS (NK.rf h) rfl fun kc ks Q X hS' k => S_X11_tail_0 (M_isNoWord2 hS z y fun h2 m x => S_X11_tail_5 ⟨fun w => absurd w (by decide), fun _ => k 0 h2 m x⟩))⟩)⟩
    obtain ⟨m, w, m0, hCW, hMW⟩ := hS.word y
    have bad : ¬ (1 ≤ x ∧ x ≤ m) → PXok M_X11_tail [aR 72, aI t, aI x] aI [xIO, xUO, xIA] xIA am_R0 h := fun v => PX.bad 2 hS (NK.rf h) rfl fun kc ks Q X hS' k => S_X11_tail_0 (M_isNoWord1 hS z y fun h2 m2 x2 => S_X11_tail_5 ⟨fun _ => L_isBetween (fun u => absurd ⟨u.1, by rw [(m2.mw hMW).1] at u; exact u.2⟩ v) (fun _ => S_X11_tail_20 ⟨fun _ => M_isWrong fun h3 m3 x3 => S_X11_tail_31 ⟨fun u => absurd u (by decide), fun _ => k 0 h3 (m2.tr m3) x3⟩, fun u => absurd rfl u⟩), fun w => absurd rfl w⟩)
    have hm := hCW.1
    have h65 := hCW.2.1
    refine S_X10_tail_10 hC.1 ⟨fun v => ⟨by omega, bad (by omega)⟩, fun v => ⟨fun v2 => ⟨by omega, ?_⟩, fun v2 => ⟨by omega, bad (by omega)⟩⟩⟩
    obtain ⟨f, hf⟩ : ∃ f : Nat, h 2 1 - x = f := ⟨(h 2 1 - x).toNat, by omega⟩
    rw [hf]
    refine C_upTo hC hCW (f := f) (by omega) fun hi l2 u1 u2 => S_X10_tail_57 hC.1 (C_below hC hCW (f := f) (by omega) fun lo l1 v1 v2 => ?_)
    have hR := RUN.mk hC.2.2.2.2.2.2.1 hC.2.2.2.2.2.2.2.1 l1 v1 v2 l2 u1 u2
    have h64 := hC.2.1
    refine S_X10_tail_67 ⟨by omega, ?_⟩
    rw [show (hi : Int) - lo = (cnt (fun p => AG (en s n) w p f (m - f)) n : Int) by have := hR.2.2.1; omega]
    refine PQ.good hS (NK.rf h) fun kc ks Q X g hN hS' k => S_X11_tail_0 (M_isNoWord1 hS' (hN.tx.mpr z) (hN.w.mpr y) fun h2 m2 x2 => S_X11_tail_5 ⟨fun _ => L_isBetween (fun _ => S_X11_tail_20 ⟨fun u => absurd u (by decide), fun _ => M_isWrong fun h3 m3 x3 => S_X11_tail_31 ⟨fun _ => ?_, fun u => absurd rfl u⟩⟩) (fun u => absurd ⟨v, by rw [(m2.mw (hN.mw hMW)).1]; omega⟩ u), fun w => absurd rfl w⟩)
    have e9 := ((m2.tr m3).mw (hN.mw hMW)).1
    refine ⟨by omega, ?_⟩
    rw [show h3 72 9 - x = f by omega]
    exact M_countFrom ((m2.tr m3).mt (hN.mt hM)) ((m2.tr m3).mw (hN.mw hMW)) (by omega) (S_X11_tail_49 (k h3 (m2.tr m3) x3))
  · exact S_X10_tail_0 ⟨by omega, C_known0 hS z (by omega) (by omega) (PX.bad 0 hS (NK.rf h) rfl fun kc ks Q X hS' k => S_X11_tail_0 (M_isNoWord0 hS z fun h2 m y => S_X11_tail_5 ⟨fun w => absurd w (by decide), fun _ => k 0 h2 m y⟩))⟩
theorem C_leastRank {kc ks : Nat} {h : Hh} {Q : PQ} {X : PX} {a n m : Nat} {s pl ra w : Int → Int} (hC : CT h a n s pl ra) (hW : CW h w m) (hkc : 1 ≤ kc) (hks : 6 ≤ ks) (hQ : ∀ lo hi : Nat, RUN s w pl n 0 m lo hi → lo < hi → Q [aI lo] am_R0 h) (hX : ∀ lo : Nat, RUN s w pl n 0 m lo lo → X xNS am_R0 h) : am_V M_X10_leastRank kc ks 0 [aR 0, aR a, aU] [] am_R0 h Q X := by
  refine S_X10_leastRank_0 hC.1 (C_below hC hW (f := 0) (by omega) fun lo l1 v1 v2 => S_X10_leastRank_9 hC.1 (C_upTo hC hW (f := 0) (by omega) fun hi l2 u1 u2 => ?_))
  have hR : RUN s w pl n 0 m lo hi := RUN.mk hC.2.2.2.2.2.2.1 hC.2.2.2.2.2.2.2.1 l1 v1 v2 l2 u1 u2
  refine S_X10_leastRank_20 ⟨fun z => hQ lo hi hR (by omega), fun z => ⟨⟨hkc, hks⟩, hX lo ?_⟩⟩
  have := hR.1
  have e : hi = lo := by omega
  subst e
  exact hR
theorem M_runFrom_1 {kc ks : Nat} {h : Hh} {Q : PQ} {X : PX} {t : Int} {n m : Nat} {s w : Int → Int} (hS : SIM h) (hT : MT h t n s) (hW : MW h w m) (h0 : (∀ q, 0 ≤ q → q < (n : Int) → ¬ AG (en s n) w q 0 m) → ∀ h2, MK h h2 → h2 72 10 = 3 → Q [aI 0] am_R0 h2) (h1 : ∀ p, 0 ≤ p → p < (n : Int) → AG (en s n) w p 0 m → (∀ q, 0 ≤ q → q < (n : Int) → AG (en s n) w q 0 m → rk s n p ≤ rk s n q) → ∀ h2, MK h h2 → h2 72 10 = 0 → Q [aI (rk s n p)] am_R0 h2) : ∀ (d i : Nat) (x : Int), i + d = n → ((x = 64 ∧ ∀ q, 0 ≤ q → q < (i : Int) → ¬ AG (en s n) w q 0 m) ∨ ∃ p, 0 ≤ p ∧ p < (i : Int) ∧ AG (en s n) w p 0 m ∧ x = rk s n p ∧ ∀ q, 0 ≤ q → q < (i : Int) → AG (en s n) w q 0 m → rk s n p ≤ rk s n q) → am_V M_X11_runFrom kc ks 15 [aR 72, aI t, aI x, aI i] [] am_R0 h Q X := by
  have h64 := hT.2.1
  have hn := hT.2.2.1
  intro d
  induction d with
  | zero =>
    intro i x hd hz
    have : i = n := by omega
    subst this
    refine S_X11_runFrom_15 ⟨hT.1, fun _ => ⟨fun y => M_isWrong fun h2 m2 x2 => S_X11_runFrom_73 ⟨fun _ => ?_, fun u => absurd rfl u⟩, fun y => M_isWrong fun h2 m2 x2 => S_X11_runFrom_73 ⟨fun u => absurd u (by decide), fun _ => ?_⟩⟩, fun z => absurd z (by omega)⟩
    · rcases hz with ⟨z, -⟩ | ⟨p, p0, p1, p2, p3, p4⟩
      · exact absurd z y
      · rw [p3]
        exact h1 p p0 p1 p2 p4 h2 m2 x2
    · rcases hz with ⟨-, z⟩ | ⟨p, p0, p1, p2, p3, p4⟩
      · exact h0 z h2 m2 x2
      · have := rk_bd (s := s) (n := i) p0 p1
        omega
  | succ d ih =>
    intro i x hd hz
    refine S_X11_runFrom_15 ⟨hT.1, fun z => absurd z (by omega), fun _ => M_stands hT hW (f := 0) (by omega) (by omega) (by omega) (fun z => S_X11_runFrom_32 ⟨fun u => absurd u (by decide), fun _ => M_rank hT (by omega) (by omega) (S_X11_runFrom_41 ⟨fun y => ⟨by omega, ih (i + 1) x (by omega) ?_⟩, fun y => M_rank hT (by omega) (by omega) (S_X11_runFrom_51 ⟨by omega, ih (i + 1) _ (by omega) ?_⟩)⟩)⟩) (fun z => S_X11_runFrom_32 ⟨fun _ => ⟨by omega, ih (i + 1) x (by omega) ?_⟩, fun u => absurd rfl u⟩)⟩
    · rcases hz with ⟨e, z1⟩ | ⟨p, p0, p1, p2, p3, p4⟩
      · have := rk_bd (s := s) (n := n) (p := i) (by omega) (by omega)
        omega
      · refine Or.inr ⟨p, p0, by omega, p2, p3, fun q q0 q1 q2 => ?_⟩
        by_cases e : q = i
        · rw [e]; omega
        · exact p4 q q0 (by omega) q2
    · refine Or.inr ⟨i, by omega, by omega, z, rfl, fun q q0 q1 q2 => ?_⟩
      by_cases e : q = i
      · rw [e]; exact Nat.le_refl _
      · rcases hz with ⟨e, z1⟩ | ⟨p, p0, p1, p2, p3, p4⟩
        · exact absurd q2 (z1 q q0 (by omega))
        · have := p4 q q0 (by omega) q2
          omega
    · rcases hz with ⟨e, z1⟩ | ⟨p, p0, p1, p2, p3, p4⟩
      · refine Or.inl ⟨e, fun q q0 q1 => ?_⟩
        by_cases e : q = i
        · rw [e]; exact z
        · exact z1 q q0 (by omega)
      · refine Or.inr ⟨p, p0, by omega, p2, p3, fun q q0 q1 q2 => ?_⟩
        by_cases e : q = i
        · rw [e] at q2; exact absurd q2 z
        · exact p4 q q0 (by omega) q2
theorem T_runFrom {kc ks : Nat} {h : Hh} {t : Int} (hS : SIM h) (hkc : 3 ≤ kc) (hks : 18 ≤ ks) : am_V M_X10_runFrom kc ks 0 [aR 0, aI t, aU] [] am_R0 h (PQok M_X11_runFrom [aR 72, aI t, aU, aU] aI) (PXok M_X11_runFrom [aR 72, aI t, aU, aU] aI [xIO, xUO, xNS]) := by
  by_cases z : isTx h t
  · obtain ⟨n, s, pl, ra, hC, hM⟩ := hS.txt z
    refine S_X10_runFrom_0 ⟨by omega, C_known hS z (by omega) (by omega) (S_X10_runFrom_5 hC.1 ⟨by omega, C_refuseNoWord hS (by omega) (by omega) (fun y => ?_) (fun y => PX.bad 1 hS (NK.rf h) rfl fun kc ks Q X hS' k => S_X11_runFrom_0 (M_isNoWord2 hS z y fun h2 m x => S_X11_runFrom_5 ⟨fun w => absurd w (by decide), fun _ => k 0 h2 m x⟩))⟩)⟩
    obtain ⟨m, w, m0, hCW, hMW⟩ := hS.word y
    have hs := hC.2.2.2.2.2.2.1
    have hSA := hC.2.2.2.2.2.2.2.1
    refine S_X10_runFrom_10 hC.1 ⟨by omega, C_leastRank hC hCW (by omega) (by omega) (fun lo hi hR hlt => S_X10_runFrom_15 (PQ.good hS (NK.rf h) fun kc ks Q X g hN hS' k => S_X11_runFrom_0 (M_isNoWord1 hS' (hN.tx.mpr z) (hN.w.mpr y) fun h2 m2 x2 => S_X11_runFrom_5 ⟨fun _ => M_runFrom_1 (m2.sim hS') (m2.mt (hN.mt hM)) (m2.mw (hN.mw hMW)) (fun u => ?_) (fun p p0 p1 p2 p3 h3 m3 x3 => ?_) n 0 64 (by omega) (Or.inl ⟨rfl, fun q q0 q1 => by omega⟩), fun w => absurd rfl w⟩))) (fun lo hR => PX.bad 2 hS (NK.rf h) rfl fun kc ks Q X hS' k => S_X11_runFrom_0 (M_isNoWord1 hS' z y fun h2 m2 x2 => S_X11_runFrom_5 ⟨fun _ => M_runFrom_1 (m2.sim hS') (m2.mt hM) (m2.mw hMW) (fun _ h3 m3 x3 => k 0 h3 (m2.tr m3) x3) (fun p p0 p1 p2 p3 => ?_) n 0 64 (by omega) (Or.inl ⟨rfl, fun q q0 q1 => by omega⟩), fun w => absurd rfl w⟩))⟩
    · have hle := hR.2.1
      obtain ⟨a0, a1, a2, -⟩ := hSA.at hs (r := lo) (by omega) (by omega)
      exact absurd ((hR.2.2.2 lo (by omega) (by omega)).mpr ⟨by omega, by omega⟩) (u _ a0 a1)
    · have hle := hR.2.1
      obtain ⟨a0, a1, a2, -⟩ := hSA.at hs (r := lo) (by omega) (by omega)
      have l1 := p3 _ a0 a1 ((hR.2.2.2 lo (by omega) (by omega)).mpr ⟨by omega, by omega⟩)
      have l2 := (hR.pl hSA p0 p1).mp p2
      rw [show rk s n p = lo by omega]
      exact k h3 (m2.tr m3) x3
    · have l2 := (hR.pl hSA p0 p1).mp p2
      omega
  · exact S_X10_runFrom_0 ⟨by omega, C_known0 hS z (by omega) (by omega) (PX.bad 0 hS (NK.rf h) rfl fun kc ks Q X hS' k => S_X11_runFrom_0 (M_isNoWord0 hS z fun h2 m y => S_X11_runFrom_5 ⟨fun w => absurd w (by decide), fun _ => k 0 h2 m y⟩))⟩
