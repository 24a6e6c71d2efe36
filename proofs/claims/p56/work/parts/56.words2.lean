variable {WM : List (Nat × Nat)} {wd : Bool}
/-! standsAt, words, numberOf -/
theorem cnt_at {P : Int → Prop} {n i p : Nat} (hp : P p) (hi : P i) (hin : i < n) (h : cnt P i = cnt P p) : i = p := by
  rcases Nat.lt_trichotomy i p with z | z | z
  · have := cnt_up (P := P) (show i + 1 ≤ p by omega)
    rw [cnt_t hi] at this
    omega
  · exact z
  · have := cnt_up (P := P) (show p + 1 ≤ i by omega)
    rw [cnt_t hp] at this
    omega
theorem C_rp_1 {kc ks : Nat} {h : Hh} {Q : PQ} {X : PX} {a n m : Nat} {s pl ra w : Int → Int} (hC : CT h a n s pl ra) {lo hi : Nat} (hR : RUN s w pl n 0 m lo hi) {p : Nat} {idx : Int} (hpn : p < n) (hp : AG (en s n) w p 0 m) (hidx : (cnt (fun p => AG (en s n) w p 0 m) p : Int) = idx) (hQ : Q [aI p] (RM WM wd) h) : ∀ (d i : Nat), i + d = p → am_V M_X6_risingPlace kc ks 6 [aR a, aI lo, aI hi, aI idx, aI (cnt (fun p => AG (en s n) w p 0 m) i), aI i] [] (RM WM wd) h Q X := by
  obtain ⟨t0, n64, hn, rfl, rfl, rfl, hs, hSA, hcm⟩ := id hC
  intro d
  induction d with
  | zero =>
    intro i hd
    have : i = p := by omega
    subst this
    have := (hR.pl hSA (by omega) (by omega)).mp hp
    have er := (hSA i (by omega) (by omega)).1
    refine S_X6_risingPlace_6 t0 ⟨fun z => absurd z (by omega), fun _ => ⟨by omega, fun z => absurd z (by omega), fun _ => ⟨by omega, fun z => absurd z (by omega), fun _ => ⟨fun z => absurd hidx z, fun _ => hQ⟩⟩⟩⟩
  | succ d ih =>
    intro i hd
    have hb := hR.pl hSA (p := i) (by omega) (by omega)
    have er := (hSA i (by omega) (by omega)).1
    have hle := cnt_le (fun p => AG (en (h (a + 1)) n) w p 0 m) i
    have hnext := ih (i + 1) (by omega)
    refine S_X6_risingPlace_6 t0 ⟨fun z => absurd z (by omega), fun _ => ⟨by omega, fun z => ⟨by omega, ?_⟩, fun z => ⟨by omega, fun y => ⟨by omega, ?_⟩, fun y => ⟨fun x => ⟨by omega, ?_⟩, fun x => ?_⟩⟩⟩⟩
    · rw [cnt_f (P := fun p => AG (en (h (a + 1)) n) w p 0 m) (fun u => by have := hb.mp u; omega)] at hnext
      exact hnext
    · rw [cnt_f (P := fun p => AG (en (h (a + 1)) n) w p 0 m) (fun u => by have := hb.mp u; omega)] at hnext
      exact hnext
    · rw [cnt_t (P := fun p => AG (en (h (a + 1)) n) w p 0 m) (hb.mpr (by omega))] at hnext
      exact hnext
    · have := cnt_at (P := fun p => AG (en (h (a + 1)) n) w p 0 m) (n := n) (i := i) (p := p) hp (hb.mpr (by omega)) (by omega) (by omega)
      omega
/-- the words that a rank brings -/
def fr (s : Int → Int) (n : Nat) (pl : Int → Int) (r : Int) : Int := (n : Int) - pl r - cmv s n pl r
theorem fr_bd {s pl ra : Int → Int} {n : Nat} (hs : WS s n) (hSA : SA s n pl ra) {r : Int} (hr : 0 ≤ r) (hrn : r < n) : 0 ≤ fr s n pl r ∧ fr s n pl r ≤ n := by
  have h1 := cmv_le hs hSA hr hrn
  have h2 := (hSA.at hs hr hrn).1
  unfold fr
  omega
theorem sm_fr {s pl ra : Int → Int} {n m : Nat} (hs : WS s n) (hSA : SA s n pl ra) (hm : m ≤ n) (h64 : n ≤ 64) : 0 ≤ sm (fr s n pl) m ∧ sm (fr s n pl) m ≤ 4096 := by
  have h1 := sm_bd (f := fr s n pl) (c := 64) (m := m) (fun i i0 i1 => by
    have := fr_bd hs hSA i0 (show i < n by omega)
    omega)
  omega
theorem C_nwb_1 {kc ks : Nat} {h : Hh} {Q : PQ} {X : PX} {a n : Nat} {s pl ra : Int → Int} (hC : CT h a n s pl ra) {r : Nat} (hr : r ≤ n) (hQ : Q [aI (sm (fr s n pl) r)] (RM WM wd) h) : ∀ (d i : Nat), i + d = r → am_V M_X6_newWordsBelow kc ks 4 [aR a, aI r, aI (sm (fr s n pl) i), aI i] [] (RM WM wd) h Q X := by
  obtain ⟨t0, n64, hn, rfl, rfl, rfl, hs, hSA, hcm⟩ := id hC
  intro d
  induction d with
  | zero =>
    intro i hd
    have : i = r := by omega
    subst this
    exact S_X6_newWordsBelow_4 t0 ⟨fun _ => hQ, fun z => absurd z (by omega)⟩
  | succ d ih =>
    intro i hd
    have hnext := ih (i + 1) (by omega)
    have e := hcm i (by omega) (by omega)
    have b1 := sm_fr hs hSA (m := i) (by omega) n64
    have b2 := fr_bd hs hSA (r := i) (by omega) (by omega)
    have b3 := hSA.at hs (r := i) (by omega) (by omega)
    have e2 : h a 4 - h (a + 2) i - h (a + 4) i = fr (h (a + 1)) n (h (a + 2)) i := by unfold fr; omega
    refine S_X6_newWordsBelow_4 t0 ⟨fun z => absurd z (by omega), fun _ => ?_⟩
    rw [e2]
    exact ⟨by omega, hnext⟩
theorem C_newWordsBelow {kc ks : Nat} {h : Hh} {Q : PQ} {X : PX} {a n : Nat} {s pl ra : Int → Int} (hC : CT h a n s pl ra) {r : Nat} (hr : r ≤ n) (hQ : Q [aI (sm (fr s n pl) r)] (RM WM wd) h) : am_V M_X6_newWordsBelow kc ks 0 [aR a, aI r, aU, aU] [] (RM WM wd) h Q X :=
  S_X6_newWordsBelow_0 hC.1 (C_nwb_1 hC hr hQ r 0 (by omega))
/-- the words that a place brings -/
noncomputable def nw (s : Int → Int) (n : Nat) (p : Int) : Int := (n : Int) - p - kn s n p p.toNat
theorem sm_nw {s : Int → Int} {n m : Nat} (hm : m ≤ n) (h64 : n ≤ 64) : 0 ≤ sm (nw s n) m ∧ sm (nw s n) m ≤ 4096 := by
  have h1 := sm_bd (f := nw s n) (c := 64) (m := m) (fun i i0 i1 => by
    have := kn_le (s := s) (n := n) (p := i) i0 (by omega) (m := i.toNat) (by omega)
    unfold nw
    omega)
  omega
theorem W_standsAt {kc ks : Nat} {h : Hh} {Q : PQ} {X : PX} {t : Int} {n : Nat} {s pl ra : Int → Int} {w : Int → Int} {m p : Nat} {x : Int} (hS : SIM h) (z : isTx h t) (hC : CT h (ta t) n s pl ra) (hW : CW h w m) (m0 : 0 < m) (hpn : p < n) (hp : AG (en s n) w p 0 m) (hx : x = cnt (fun p => AG (en s n) w p 0 m) p) (hkc : 3 ≤ kc) (hks : 18 ≤ ks) (hQ : Q [aL p] (RM WM wd) h) : am_V M_L_standsAt kc ks 0 [aR 0, aI t, aI x, aU] [] (RM WM wd) h Q X := by
  refine S_L_standsAt_0 ⟨⟨hkc, hks⟩, S_X10_standsAt_0 ⟨by omega, C_known hS z (by omega) (by omega) (S_X10_standsAt_5 hC.1 ⟨by omega, C_word hS hW m0 (by omega) (by omega) ?_⟩)⟩⟩
  refine S_X10_standsAt_10 hC.1 (C_below hC hW (f := 0) (by omega) fun lo l1 v1 v2 => S_X10_standsAt_19 hC.1 (C_upTo hC hW (f := 0) (by omega) fun hi l2 u1 u2 => ?_))
  have hR : RUN s w pl n 0 m lo hi := RUN.mk hC.2.2.2.2.2.2.1 hC.2.2.2.2.2.2.2.1 l1 v1 v2 l2 u1 u2
  have h64 := hC.2.1
  have hcn := hR.2.2.1
  simp only [Int.natCast_zero] at hcn
  have hlt : cnt (fun p => AG (en s n) w p 0 m) p < cnt (fun p => AG (en s n) w p 0 m) n := by
    have e1 := cnt_t (P := fun p => AG (en s n) w p 0 m) hp
    have e2 := cnt_up (P := fun p => AG (en s n) w p 0 m) (show p + 1 ≤ n by omega)
    omega
  refine S_X10_standsAt_30 hC.1 ⟨fun v => absurd v (by omega), fun v => ⟨by omega, fun v2 => ?_, fun v2 => absurd v2 (by omega)⟩⟩
  exact S_X6_risingPlace_0 hC.1 (C_rp_1 hC hR hpn hp hx.symm (S_X10_standsAt_64 (S_L_standsAt_6 hQ)) p 0 (by omega))
theorem W_standsAt0 {kc ks : Nat} {h : Hh} {Q : PQ} {X : PX} {t : Int} {n : Nat} {s pl ra : Int → Int} {w : Int → Int} {m : Nat} {x : Int} (hS : SIM h) (z : isTx h t) (hC : CT h (ta t) n s pl ra) (hW : CW h w m) (m0 : 0 < m) (hx : x = cnt (fun p => AG (en s n) w p 0 m) n) (hkc : 3 ≤ kc) (hks : 18 ≤ ks) (hQ : Q [aL (-4000000000000000003)] (RM WM false) h) : am_V M_L_standsAt kc ks 0 [aR 0, aI t, aI x, aU] [] (RM WM false) h Q X := by
  refine S_L_standsAt_0 ⟨⟨hkc, hks⟩, S_X10_standsAt_0 ⟨by omega, C_known hS z (by omega) (by omega) (S_X10_standsAt_5 hC.1 ⟨by omega, C_word hS hW m0 (by omega) (by omega) ?_⟩)⟩⟩
  refine S_X10_standsAt_10 hC.1 (C_below hC hW (f := 0) (by omega) fun lo l1 v1 v2 => S_X10_standsAt_19 hC.1 (C_upTo hC hW (f := 0) (by omega) fun hi l2 u1 u2 => ?_))
  have hR : RUN s w pl n 0 m lo hi := RUN.mk hC.2.2.2.2.2.2.1 hC.2.2.2.2.2.2.2.1 l1 v1 v2 l2 u1 u2
  have h64 := hC.2.1
  have hcn := hR.2.2.1
  simp only [Int.natCast_zero] at hcn
  refine S_X10_standsAt_30 hC.1 ⟨fun v => absurd v (by omega), fun v => ⟨by omega, fun v2 => absurd v2 (by omega), fun v2 => ⟨by omega, ?_⟩⟩⟩
  exact Or.inr (Or.inr ⟨rfl, S_L_standsAt_19 hQ⟩)
theorem W_words {kc ks : Nat} {h : Hh} {Q : PQ} {X : PX} {t : Int} {n : Nat} {s pl ra : Int → Int} (hS : SIM h) (z : isTx h t) (hC : CT h (ta t) n s pl ra) (hkc : 1 ≤ kc) (hks : 6 ≤ ks) (hQ : Q [aL (sm (fr s n pl) n)] (RM WM wd) h) : am_V M_L_words kc ks 0 [aR 0, aI t, aU] [] (RM WM wd) h Q X := by
  refine S_L_words_0 ⟨⟨hkc, hks⟩, S_X10_words_0 ⟨by omega, C_known hS z (by omega) (by omega) (S_X10_words_5 hC.1 ?_)⟩⟩
  rw [hC.2.2.1]
  exact C_newWordsBelow hC (Nat.le_refl n) (S_X10_words_14 (S_L_words_5 hQ))
theorem W_numberOf {kc ks : Nat} {h : Hh} {Q : PQ} {X : PX} {t : Int} {n : Nat} {s pl ra : Int → Int} {w : Int → Int} {m : Nat} (hS : SIM h) (z : isTx h t) (hC : CT h (ta t) n s pl ra) (hW : CW h w m) (m0 : 0 < m) (hc : 0 < cnt (fun p => AG (en s n) w p 0 m) n) (hkc : 3 ≤ kc) (hks : 18 ≤ ks) (hQ : ∀ lo hi : Nat, RUN s w pl n 0 m lo hi → lo < hi → Q [aL (sm (fr s n pl) lo + m - cmv s n pl lo - 1)] (RM WM wd) h) : am_V M_L_numberOf kc ks 0 [aR 0, aI t, aU] [] (RM WM wd) h Q X := by
  have hs := hC.2.2.2.2.2.2.1
  have hSA := hC.2.2.2.2.2.2.2.1
  have h64 := hC.2.1
  have h65 := hW.2.1
  refine S_L_numberOf_0 ⟨⟨hkc, hks⟩, S_X10_numberOf_0 ⟨by omega, C_known hS z (by omega) (by omega) (S_X10_numberOf_5 hC.1 ⟨by omega, C_word hS hW m0 (by omega) (by omega) ?_⟩)⟩⟩
  refine S_X10_numberOf_10 hC.1 ⟨by omega, C_leastRank hC hW (by omega) (by omega) (fun lo hi hR hlt => S_X10_numberOf_15 hC.1 (C_newWordsBelow hC (by have := hR.2.1; omega) (S_X10_numberOf_21 hC.1 ?_))) (fun lo hR => absurd (hR.pos hc) (Nat.lt_irrefl _))⟩
  have hhi := hR.2.1
  have b1 := sm_fr hs hSA (m := lo) (by omega) h64
  have b3 := cmv_le hs hSA (r := lo) (by omega) (by omega)
  have a0 := (hSA.at hs (r := lo) (by omega) (by omega)).1
  have ec := hC.2.2.2.2.2.2.2.2 lo (by omega) (by omega)
  rw [hW.1, ec]
  exact ⟨by omega, S_L_numberOf_5 (hQ lo hi hR hlt)⟩
