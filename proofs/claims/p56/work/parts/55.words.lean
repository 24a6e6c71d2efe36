variable {WM : List (Nat × Nat)} {wd : Bool}
/-! THE TYPED WORD: count, tail, runFrom, standsAt, numberOf; words -/
def isW (h : Hh) : Prop := h 2 1 ≠ 0 ∧ ¬ endIn (h 3) (h 2 1)
def CW (h : Hh) (w : Int → Int) (m : Nat) : Prop := h 2 1 = m ∧ m ≤ 65 ∧ h 3 = w ∧ ∀ k, 0 ≤ k → k < (m : Int) → 97 ≤ w k ∧ w k ≤ 122
theorem NK.w {h h' : Hh} (k : NK h h') : isW h' ↔ isW h := by unfold isW; rw [k.c2, k.c3]
theorem C_refuseNoWord {kc ks : Nat} {h : Hh} {Q : PQ} {X : PX} (hS : SIM h) (hkc : 1 ≤ kc) (hks : 6 ≤ ks) (hQ : isW h → Q [] (RM WM wd) h) (hX : ¬ isW h → X xUO (RM WM false) h) : am_V M_X10_refuseNoWord kc ks 0 [aR 0] [] (RM WM wd) h Q X := L_refuseNoWord hS.2.1.2.1 hkc hks (fun y0 y1 => hQ ⟨y0, y1⟩) hX
/-- the ranks of the ends that begin with the word -/
def RUN (s w pl : Int → Int) (n f W lo hi : Nat) : Prop := lo ≤ hi ∧ hi ≤ n ∧ cnt (fun p => AG (en s n) w p f W) n + lo = hi ∧ ∀ r, 0 ≤ r → r < (n : Int) → (AG (en s n) w (pl r) f W ↔ (lo : Int) ≤ r ∧ r < hi)
theorem C_below {kc ks : Nat} {h : Hh} {Q : PQ} {X : PX} {a n m : Nat} {s pl ra w : Int → Int} (hC : CT h a n s pl ra) (hW : CW h w m) {f : Nat} (hf : f ≤ m) (hQ : ∀ lo : Nat, lo ≤ n → (∀ r, 0 ≤ r → r < (lo : Int) → E2 (en s n) w (m - f) (pl r) f) → (∀ r, (lo : Int) ≤ r → r < n → ¬ E2 (en s n) w (m - f) (pl r) f) → Q [aI lo] (RM WM wd) h) : am_V M_X6_endsBelow kc ks 0 [aR a, aR 2, aI f] [] (RM WM wd) h Q X := by
  obtain ⟨t0, n64, hn, rfl, rfl, rfl, hs, hSA, hcm⟩ := hC
  obtain ⟨w1, w2, rfl, w4⟩ := hW
  exact L_endsBelow t0 hn n64 hs hSA (by omega) (by omega) (by omega) (fun k k0 k1 => w4 k (by omega) (by omega)) hQ
theorem C_upTo {kc ks : Nat} {h : Hh} {Q : PQ} {X : PX} {a n m : Nat} {s pl ra w : Int → Int} (hC : CT h a n s pl ra) (hW : CW h w m) {f : Nat} (hf : f ≤ m) (hQ : ∀ lo : Nat, lo ≤ n → (∀ r, 0 ≤ r → r < (lo : Int) → ¬ E2 w (en s n) (m - f) f (pl r)) → (∀ r, (lo : Int) ≤ r → r < n → E2 w (en s n) (m - f) f (pl r)) → Q [aI lo] (RM WM wd) h) : am_V M_X6_endsUpTo kc ks 0 [aR a, aR 2, aI f] [] (RM WM wd) h Q X := by
  obtain ⟨t0, n64, hn, rfl, rfl, rfl, hs, hSA, hcm⟩ := hC
  obtain ⟨w1, w2, rfl, w4⟩ := hW
  exact L_endsUpTo t0 hn n64 hs hSA (by omega) (by omega) (by omega) (fun k k0 k1 => w4 k (by omega) (by omega)) hQ
theorem RUN.mk {s w pl ra : Int → Int} {n f W lo hi : Nat} (hs : WS s n) (hSA : SA s n pl ra) (l1 : lo ≤ n) (v1 : ∀ r, 0 ≤ r → r < (lo : Int) → E2 (en s n) w W (pl r) f) (v2 : ∀ r, (lo : Int) ≤ r → r < n → ¬ E2 (en s n) w W (pl r) f) (l2 : hi ≤ n) (u1 : ∀ r, 0 ≤ r → r < (hi : Int) → ¬ E2 w (en s n) W f (pl r)) (u2 : ∀ r, (hi : Int) ≤ r → r < n → E2 w (en s n) W f (pl r)) : RUN s w pl n f W lo hi :=
  ⟨run_le l1 v1 u2, l2, run_cnt (hSA.perm hs) l1 l2 v1 v2 u1 u2, fun r r0 r1 => run_in v1 v2 u1 u2 r0 r1⟩
theorem RUN.pl {s w pl ra : Int → Int} {n f W lo hi : Nat} (hSA : SA s n pl ra) (hR : RUN s w pl n f W lo hi) {p : Int} (hp : 0 ≤ p) (hpn : p < n) : AG (en s n) w p f W ↔ lo ≤ rk s n p ∧ rk s n p < hi := by
  have b := rk_bd (s := s) (n := n) hp hpn
  have := hR.2.2.2 (rk s n p) (by omega) b
  rw [(hSA p hp hpn).2] at this
  rw [this]
  omega
theorem C_leastRank {kc ks : Nat} {h : Hh} {Q : PQ} {X : PX} {a n m : Nat} {s pl ra w : Int → Int} (hC : CT h a n s pl ra) (hW : CW h w m) (hkc : 1 ≤ kc) (hks : 6 ≤ ks) (hQ : ∀ lo hi : Nat, RUN s w pl n 0 m lo hi → lo < hi → Q [aI lo] (RM WM wd) h) (hX : ∀ lo : Nat, RUN s w pl n 0 m lo lo → X xNS (RM WM false) h) : am_V M_X10_leastRank kc ks 0 [aR 0, aR a, aU] [] (RM WM wd) h Q X := by
  refine S_X10_leastRank_0 hC.1 (C_below hC hW (f := 0) (by omega) fun lo l1 v1 v2 => S_X10_leastRank_9 hC.1 (C_upTo hC hW (f := 0) (by omega) fun hi l2 u1 u2 => ?_))
  have hR : RUN s w pl n 0 m lo hi := RUN.mk hC.2.2.2.2.2.2.1 hC.2.2.2.2.2.2.2.1 l1 v1 v2 l2 u1 u2
  refine S_X10_leastRank_20 ⟨fun z => hQ lo hi hR (by omega), fun z => ⟨⟨hkc, hks⟩, hX lo ?_⟩⟩
  have := hR.1
  have e : hi = lo := by omega
  subst e
  exact hR
theorem CW.isW {h : Hh} {w : Int → Int} {m : Nat} (hW : CW h w m) (m0 : 0 < m) : isW h := by
  obtain ⟨a, b, c, d⟩ := hW
  refine ⟨by omega, fun ⟨k, k0, k1, k2⟩ => ?_⟩
  have := d k k0 (by omega)
  rw [c] at k2
  omega
theorem C_word {kc ks : Nat} {h : Hh} {Q : PQ} {X : PX} {w : Int → Int} {m : Nat} (hS : SIM h) (hW : CW h w m) (m0 : 0 < m) (hkc : 1 ≤ kc) (hks : 6 ≤ ks) (hQ : Q [] (RM WM wd) h) : am_V M_X10_refuseNoWord kc ks 0 [aR 0] [] (RM WM wd) h Q X := C_refuseNoWord hS hkc hks (fun _ => hQ) (fun y => absurd (hW.isW m0) y)
theorem W_count {kc ks : Nat} {h : Hh} {Q : PQ} {X : PX} {t : Int} {n : Nat} {s pl ra : Int → Int} {w : Int → Int} {m : Nat} (hS : SIM h) (z : isTx h t) (hC : CT h (ta t) n s pl ra) (hW : CW h w m) (m0 : 0 < m) (hkc : 2 ≤ kc) (hks : 12 ≤ ks) (hQ : Q [aL (cnt (fun p => AG (en s n) w p 0 m) n)] (RM WM wd) h) : am_V M_L_count kc ks 0 [aR 0, aI t, aU] [] (RM WM wd) h Q X := by
  refine S_L_count_0 ⟨⟨hkc, hks⟩, S_X10_count_0 ⟨by omega, C_known hS z (by omega) (by omega) (S_X10_count_5 hC.1 ⟨by omega, C_word hS hW m0 (by omega) (by omega) ?_⟩)⟩⟩
  refine S_X10_count_10 hC.1 (C_upTo hC hW (f := 0) (by omega) fun hi l2 u1 u2 => S_X10_count_19 hC.1 (C_below hC hW (f := 0) (by omega) fun lo l1 v1 v2 => ?_))
  have hR := RUN.mk hC.2.2.2.2.2.2.1 hC.2.2.2.2.2.2.2.1 l1 v1 v2 l2 u1 u2
  have h64 := hC.2.1
  refine S_X10_count_28 ⟨by omega, S_L_count_5 ?_⟩
  rw [show (hi : Int) - lo = (cnt (fun p => AG (en s n) w p ((0 : Nat) : Int) (m - 0)) n : Int) by have := hR.2.2.1; omega]
  exact hQ
theorem W_tail {kc ks : Nat} {h : Hh} {Q : PQ} {X : PX} {t : Int} {n : Nat} {s pl ra : Int → Int} {w : Int → Int} {m : Nat} (hS : SIM h) (z : isTx h t) (hC : CT h (ta t) n s pl ra) (hW : CW h w m) (m0 : 0 < m) (hkc : 3 ≤ kc) (hks : 18 ≤ ks) (hQ : Q [aL (cnt (fun p => AG (en s n) w p 0 m) n)] (RM WM wd) h) : am_V M_L_tail kc ks 0 [aR 0, aI t, aI (m : Int), aU] [] (RM WM wd) h Q X := by
  have hm := hW.1
  have h65 := hW.2.1
  refine S_L_tail_0 ⟨⟨hkc, hks⟩, S_X10_tail_0 ⟨by omega, C_known hS z (by omega) (by omega) (S_X10_tail_5 hC.1 ⟨by omega, C_word hS hW m0 (by omega) (by omega) ?_⟩)⟩⟩
  refine S_X10_tail_10 hC.1 ⟨fun v => absurd v (by omega), fun v => ⟨fun v2 => ⟨by omega, ?_⟩, fun v2 => absurd v2 (by omega)⟩⟩
  rw [show h 2 1 - (m : Int) = ((0 : Nat) : Int) by omega]
  refine C_upTo hC hW (f := 0) (by omega) fun hi l2 u1 u2 => S_X10_tail_57 hC.1 (C_below hC hW (f := 0) (by omega) fun lo l1 v1 v2 => ?_)
  have hR := RUN.mk hC.2.2.2.2.2.2.1 hC.2.2.2.2.2.2.2.1 l1 v1 v2 l2 u1 u2
  have h64 := hC.2.1
  refine S_X10_tail_67 ⟨by omega, S_L_tail_6 ?_⟩
  rw [show (hi : Int) - lo = (cnt (fun p => AG (en s n) w p ((0 : Nat) : Int) (m - 0)) n : Int) by have := hR.2.2.1; omega]
  exact hQ
theorem RUN.pos {s w pl : Int → Int} {n f W lo hi : Nat} (hR : RUN s w pl n f W lo hi) (hc : 0 < cnt (fun p => AG (en s n) w p f W) n) : lo < hi := by
  have := hR.2.2.1
  omega
theorem W_runFrom {kc ks : Nat} {h : Hh} {Q : PQ} {X : PX} {t : Int} {n : Nat} {s pl ra : Int → Int} {w : Int → Int} {m : Nat} (hS : SIM h) (z : isTx h t) (hC : CT h (ta t) n s pl ra) (hW : CW h w m) (m0 : 0 < m) (hc : 0 < cnt (fun p => AG (en s n) w p 0 m) n) (hkc : 3 ≤ kc) (hks : 18 ≤ ks) (hQ : ∀ lo hi : Nat, RUN s w pl n 0 m lo hi → lo < hi → Q [aL lo] (RM WM wd) h) : am_V M_L_runFrom kc ks 0 [aR 0, aI t, aU] [] (RM WM wd) h Q X := by
  refine S_L_runFrom_0 ⟨⟨hkc, hks⟩, S_X10_runFrom_0 ⟨by omega, C_known hS z (by omega) (by omega) (S_X10_runFrom_5 hC.1 ⟨by omega, C_word hS hW m0 (by omega) (by omega) ?_⟩)⟩⟩
  exact S_X10_runFrom_10 hC.1 ⟨by omega, C_leastRank hC hW (by omega) (by omega) (fun lo hi hR hlt => S_X10_runFrom_15 (S_L_runFrom_5 (hQ lo hi hR hlt))) (fun lo hR => absurd (hR.pos hc) (Nat.lt_irrefl _))⟩
