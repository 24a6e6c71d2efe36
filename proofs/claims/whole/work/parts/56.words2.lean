/-! standsAt, words, numberOf -/
theorem cnt_at {P : Int → Prop} {n i p : Nat} (hp : P p) (hi : P i) (hin : i < n) (h : cnt P i = cnt P p) : i = p := by
  rcases Nat.lt_trichotomy i p with z | z | z
  · have := cnt_up (P := P) (show i + 1 ≤ p by omega)
    rw [cnt_t hi] at this
    omega
  · exact z
  · have := cnt_up (P := P) (show p + 1 ≤ i by omega)
    rw [cnt_t hp] at this
    omega
theorem C_rp_1 {kc ks : Nat} {h : Hh} {Q : PQ} {X : PX} {a n m : Nat} {s pl ra w : Int → Int} (hC : CT h a n s pl ra) {lo hi : Nat} (hR : RUN s w pl n 0 m lo hi) {p : Nat} {idx : Int} (hpn : p < n) (hp : AG (en s n) w p 0 m) (hidx : (cnt (fun p => AG (en s n) w p 0 m) p : Int) = idx) (hQ : Q [aI p] am_R0 h) : ∀ (d i : Nat), i + d = p → am_V M_X6_risingPlace kc ks 6 [aR a, aI lo, aI hi, aI idx, aI (cnt (fun p => AG (en s n) w p 0 m) i), aI i] [] am_R0 h Q X := by
  obtain ⟨t0, n64, hn, rfl, rfl, rfl, hs, hSA, hcm⟩ := id hC
  intro d
  induction d with
  | zero =>
    intro i hd
    have : i = p := by omega
    subst this
    have := (hR.pl hSA (by omega) (by omega)).mp hp
    have er := (hSA i (by omega) (by omega)).1
    refine S_X6_risingPlace_6 t0 ⟨fun z => absurd z (by omega), fun _ => ⟨by omega, fun z => absurd z (by omega), fun _ => ⟨by omega, fun z => absurd z (by omega), fun _ => ⟨fun z => absurd hidx z, fun _ => hQ⟩⟩⟩⟩
  | succ d ih =>
    intro i hd
    have hb := hR.pl hSA (p := i) (by omega) (by omega)
    have er := (hSA i (by omega) (by omega)).1
    have hle := cnt_le (fun p => AG (en (h (a + 1)) n) w p 0 m) i
    have hnext := ih (i + 1) (by omega)
    refine S_X6_risingPlace_6 t0 ⟨fun z => absurd z (by omega), fun _ => ⟨by omega, fun z => ⟨by omega, ?_⟩, fun z => ⟨by omega, fun y => ⟨by omega, ?_⟩, fun y => ⟨fun x => ⟨by omega, ?_⟩, fun x => ?_⟩⟩⟩⟩
    · rw [cnt_f (P := fun p => AG (en (h (a + 1)) n) w p 0 m) (fun u => by have := hb.mp u; omega)] at hnext
      exact hnext
    · rw [cnt_f (P := fun p => AG (en (h (a + 1)) n) w p 0 m) (fun u => by have := hb.mp u; omega)] at hnext
      exact hnext
    · rw [cnt_t (P := fun p => AG (en (h (a + 1)) n) w p 0 m) (hb.mpr (by omega))] at hnext
      exact hnext
    · have := cnt_at (P := fun p => AG (en (h (a + 1)) n) w p 0 m) (n := n) (i := i) (p := p) hp (hb.mpr (by omega)) (by omega) (by omega)
      omega
theorem M_sa_1 {kc ks : Nat} {h : Hh} {Q : PQ} {X : PX} {t : Int} {n m : Nat} {s w : Int → Int} (hT : MT h t n s) (hW : MW h w m) {p : Nat} {idx : Int} (hi0 : 0 ≤ idx) (hi1 : idx ≤ 64) (hpn : p < n) (hp : AG (en s n) w p 0 m) (hidx : (cnt (fun p => AG (en s n) w p 0 m) p : Int) = idx) (hQ : Q [aI p] am_R0 h) : ∀ (d i : Nat), i + d = p → am_V M_X11_standsAt kc ks 15 [aR 72, aI t, aI idx, aI (idx - cnt (fun p => AG (en s n) w p 0 m) i), aI i] [] am_R0 h Q X := by
  have h64 := hT.2.1
  have hn := hT.2.2.1
  intro d
  induction d with
  | zero =>
    intro i hd
    have : i = p := by omega
    subst this
    exact S_X11_standsAt_15 ⟨hT.1, fun z => absurd z (by omega), fun _ => ⟨fun z => absurd z (by omega), fun _ => M_stands hT hW (f := 0) (by omega) (by omega) (by omega) (fun _ => S_X11_standsAt_38 ⟨fun z => absurd z (by decide), fun _ => ⟨fun z => absurd z (by omega), fun _ => hQ⟩⟩) (fun z => absurd hp z)⟩⟩
  | succ d ih =>
    intro i hd
    have hle := cnt_le (fun p => AG (en s n) w p 0 m) i
    have hnext := ih (i + 1) (by omega)
    refine S_X11_standsAt_15 ⟨hT.1, fun z => absurd z (by omega), fun _ => ⟨fun z => absurd z (by omega), fun _ => M_stands hT hW (f := 0) (by omega) (by omega) (by omega) (fun u => S_X11_standsAt_38 ⟨fun z => absurd z (by decide), fun _ => ⟨fun z => ⟨by omega, ?_⟩, fun z => ?_⟩⟩) (fun u => S_X11_standsAt_38 ⟨fun _ => ⟨by omega, ?_⟩, fun z => absurd rfl z⟩)⟩⟩
    · rw [cnt_t (P := fun p => AG (en s n) w p 0 m) u] at hnext
      rw [show idx - (cnt (fun p => AG (en s n) w p 0 m) i : Int) + -1 = idx - ((cnt (fun p => AG (en s n) w p 0 m) i + 1 : Nat) : Int) by omega]
      exact hnext
    · have := cnt_at (P := fun p => AG (en s n) w p 0 m) (n := n) (i := i) (p := p) hp u (by omega) (by omega)
      omega
    · rw [cnt_f (P := fun p => AG (en s n) w p 0 m) u] at hnext
      exact hnext
theorem M_sa_2 {kc ks : Nat} {h : Hh} {Q : PQ} {X : PX} {t : Int} {n m : Nat} {s w : Int → Int} (hT : MT h t n s) (hW : MW h w m) {idx : Int} (hi : am_i idx) (hidx : idx < 0 ∨ (cnt (fun p => AG (en s n) w p 0 m) n : Int) ≤ idx) (hQ : Q [aI 0] am_R0 (am_st h 72 10 3)) : ∀ (d i : Nat), i + d = n → am_V M_X11_standsAt kc ks 15 [aR 72, aI t, aI idx, aI (idx - cnt (fun p => AG (en s n) w p 0 m) i), aI i] [] am_R0 h Q X := by
  have h64 := hT.2.1
  have hn := hT.2.2.1
  intro d
  induction d with
  | zero =>
    intro i hd
    exact S_X11_standsAt_15 ⟨hT.1, fun _ => hQ, fun z => absurd z (by omega)⟩
  | succ d ih =>
    intro i hd
    have hle := cnt_le (fun p => AG (en s n) w p 0 m) i
    have hnext := ih (i + 1) (by omega)
    have hup := cnt_up (P := fun p => AG (en s n) w p 0 m) (show i + 1 ≤ n by omega)
    unfold am_i at hi
    refine S_X11_standsAt_15 ⟨hT.1, fun z => absurd z (by omega), fun _ => ⟨fun _ => hQ, fun y => M_stands hT hW (f := 0) (by omega) (by omega) (by omega) (fun u => S_X11_standsAt_38 ⟨fun z => absurd z (by decide), fun _ => ⟨fun z => ⟨by omega, ?_⟩, fun z => ?_⟩⟩) (fun u => S_X11_standsAt_38 ⟨fun _ => ⟨by omega, ?_⟩, fun z => absurd rfl z⟩)⟩⟩
    · rw [cnt_t (P := fun p => AG (en s n) w p 0 m) u] at hnext
      rw [show idx - (cnt (fun p => AG (en s n) w p 0 m) i : Int) + -1 = idx - ((cnt (fun p => AG (en s n) w p 0 m) i + 1 : Nat) : Int) by omega]
      exact hnext
    · rw [cnt_t (P := fun p => AG (en s n) w p 0 m) u] at hup
      omega
    · rw [cnt_f (P := fun p => AG (en s n) w p 0 m) u] at hnext
      exact hnext
theorem T_standsAt {kc ks : Nat} {h : Hh} {t x : Int} (hS : SIM h) (hx : am_i x) (hkc : 3 ≤ kc) (hks : 18 ≤ ks) : am_V M_X10_standsAt kc ks 0 [aR 0, aI t, aI x, aU, aU, aU] [] am_R0 h (PQok M_X11_standsAt [aR 72, aI t, aI x, aU, aU] aI) (PXok M_X11_standsAt [aR 72, aI t, aI x, aU, aU] aI [xIO, xUO, xNS]) := by
  by_cases z : isTx h t
  · obtain ⟨n, s, pl, ra, hC, hM⟩ := hS.txt z
    refine S_X10_standsAt_0 ⟨by omega, C_known hS z (by omega) (by omega) (S_X10_standsAt_5 hC.1 ⟨by omega, C_refuseNoWord hS (by omega) (by omega) (fun y => ?_) (fun y => PX.bad 1 hS (NK.rf h) rfl fun kc ks Q X hS' k => S_X11_standsAt_0 (M_isNoWord2 hS z y fun h2 m x => S_X11_standsAt_5 ⟨fun w => absurd w (by decide), fun _ => k 0 h2 m x⟩))⟩)⟩
    obtain ⟨m, w, m0, hCW, hMW⟩ := hS.word y
    refine S_X10_standsAt_10 hC.1 (C_below hC hCW (f := 0) (by omega) fun lo l1 v1 v2 => S_X10_standsAt_19 hC.1 (C_upTo hC hCW (f := 0) (by omega) fun hi l2 u1 u2 => ?_))
    have hs := hC.2.2.2.2.2.2.1
    have hSA := hC.2.2.2.2.2.2.2.1
    have hR : RUN s w pl n 0 m lo hi := RUN.mk hs hSA l1 v1 v2 l2 u1 u2
    have h64 := hC.2.1
    have hcn := hR.2.2.1
    have bad : x < 0 ∨ (hi : Int) - lo ≤ x → PXok M_X11_standsAt [aR 72, aI t, aI x, aU, aU] aI [xIO, xUO, xNS] xNS am_R0 h := fun v => PX.bad 2 hS (NK.rf h) rfl fun kc ks Q X hS' k => S_X11_standsAt_0 (M_isNoWord1 hS z y fun h2 m2 x2 => S_X11_standsAt_5 ⟨fun _ => by
      have := M_sa_2 (kc := kc) (ks := ks) (Q := Q) (X := X) (m2.mt hM) (m2.mw hMW) hx (by rcases v with v | v; exact Or.inl v; right; have := hR.2.2.1; simp only [Int.natCast_zero] at this; omega) (k 0 _ m2.th am_st_s) n 0 (by omega)
      simpa [cnt] using this, fun w => absurd rfl w⟩)
    refine S_X10_standsAt_30 hC.1 ⟨fun v => ⟨by omega, bad (Or.inl v)⟩, fun v => ⟨by omega, fun v2 => ?_, fun v2 => ⟨by omega, bad (Or.inr v2)⟩⟩⟩
    obtain ⟨p, p1, p2, p3⟩ := cnt_sur (P := fun p => AG (en s n) w p 0 m) (v := x.toNat) n (by simp only [Int.natCast_zero] at hcn; omega)
    refine S_X6_risingPlace_0 hC.1 (C_rp_1 hC hR p1 p2 (by omega) (S_X10_standsAt_64 (PQ.good hS (NK.rf h) fun kc ks Q X g hN hS' k => S_X11_standsAt_0 (M_isNoWord1 hS' (hN.tx.mpr z) (hN.w.mpr y) fun h2 m2 x2 => S_X11_standsAt_5 ⟨fun _ => ?_, fun w => absurd rfl w⟩))) p 0 (by omega))
    have := M_sa_1 (kc := kc) (ks := ks) (Q := Q) (X := X) (m2.mt (hN.mt hM)) (m2.mw (hN.mw hMW)) (idx := x) (by omega) (by omega) p1 p2 (by omega) (k h2 m2 x2) p 0 (by omega)
    simpa [cnt] using this
  · exact S_X10_standsAt_0 ⟨by omega, C_known0 hS z (by omega) (by omega) (PX.bad 0 hS (NK.rf h) rfl fun kc ks Q X hS' k => S_X11_standsAt_0 (M_isNoWord0 hS z fun h2 m y => S_X11_standsAt_5 ⟨fun w => absurd w (by decide), fun _ => k 0 h2 m y⟩))⟩
/-- the words that a rank brings -/
def fr (s : Int → Int) (n : Nat) (pl : Int → Int) (r : Int) : Int := (n : Int) - pl r - cmv s n pl r
theorem fr_bd {s pl ra : Int → Int} {n : Nat} (hs : WS s n) (hSA : SA s n pl ra) {r : Int} (hr : 0 ≤ r) (hrn : r < n) : 0 ≤ fr s n pl r ∧ fr s n pl r ≤ n := by
  have h1 := cmv_le hs hSA hr hrn
  have h2 := (hSA.at hs hr hrn).1
  unfold fr
  omega
theorem sm_fr {s pl ra : Int → Int} {n m : Nat} (hs : WS s n) (hSA : SA s n pl ra) (hm : m ≤ n) (h64 : n ≤ 64) : 0 ≤ sm (fr s n pl) m ∧ sm (fr s n pl) m ≤ 4096 := by
  have h1 := sm_bd (f := fr s n pl) (c := 64) (m := m) (fun i i0 i1 => by
    have := fr_bd hs hSA i0 (show i < n by omega)
    omega)
  omega
theorem C_nwb_1 {kc ks : Nat} {h : Hh} {Q : PQ} {X : PX} {a n : Nat} {s pl ra : Int → Int} (hC : CT h a n s pl ra) {r : Nat} (hr : r ≤ n) (hQ : Q [aI (sm (fr s n pl) r)] am_R0 h) : ∀ (d i : Nat), i + d = r → am_V M_X6_newWordsBelow kc ks 4 [aR a, aI r, aI (sm (fr s n pl) i), aI i] [] am_R0 h Q X := by
  obtain ⟨t0, n64, hn, rfl, rfl, rfl, hs, hSA, hcm⟩ := id hC
  intro d
  induction d with
  | zero =>
    intro i hd
    have : i = r := by omega
    subst this
    exact S_X6_newWordsBelow_4 t0 ⟨fun _ => hQ, fun z => absurd z (by omega)⟩
  | succ d ih =>
    intro i hd
    have hnext := ih (i + 1) (by omega)
    have e := hcm i (by omega) (by omega)
    have b1 := sm_fr hs hSA (m := i) (by omega) n64
    have b2 := fr_bd hs hSA (r := i) (by omega) (by omega)
    have b3 := hSA.at hs (r := i) (by omega) (by omega)
    have e2 : h a 4 - h (a + 2) i - h (a + 4) i = fr (h (a + 1)) n (h (a + 2)) i := by unfold fr; omega
    refine S_X6_newWordsBelow_4 t0 ⟨fun z => absurd z (by omega), fun _ => ?_⟩
    rw [e2]
    exact ⟨by omega, hnext⟩
theorem C_newWordsBelow {kc ks : Nat} {h : Hh} {Q : PQ} {X : PX} {a n : Nat} {s pl ra : Int → Int} (hC : CT h a n s pl ra) {r : Nat} (hr : r ≤ n) (hQ : Q [aI (sm (fr s n pl) r)] am_R0 h) : am_V M_X6_newWordsBelow kc ks 0 [aR a, aI r, aU, aU] [] am_R0 h Q X :=
  S_X6_newWordsBelow_0 hC.1 (C_nwb_1 hC hr hQ r 0 (by omega))
theorem M_nw_1 {kc ks : Nat} {h : Hh} {Q : PQ} {X : PX} {t p : Int} {n : Nat} {s : Int → Int} (hT : MT h t n s) (hp : 0 ≤ p) (hpn : p < n) (hQ : Q [aI ((n : Int) - p - kn s n p p.toNat)] am_R0 h) : ∀ (d i : Nat), i + d = p.toNat → am_V M_X11_newWords kc ks 5 [aR 72, aI t, aI p, aI (kn s n p i), aI i, aU] [] am_R0 h Q X := by
  have h64 := hT.2.1
  have hn := hT.2.2.1
  intro d
  induction d with
  | zero =>
    intro i hd
    have : i = p.toNat := by omega
    subst this
    have hb := kn_le (s := s) (n := n) (p := p) hp (by omega) (m := p.toNat) (by omega)
    refine S_X11_newWords_5 ⟨fun _ => ⟨?_, ?_⟩, fun z => absurd z (by omega)⟩
    · rw [hn]
      exact ⟨hT.1.1, hT.1.2, by omega⟩
    · rw [hn]
      exact hQ
  | succ d ih =>
    intro i hd
    have hnext := ih (i + 1) (by omega)
    refine S_X11_newWords_5 ⟨fun z => absurd z (by omega), fun _ => M_together hT hT (by omega) (by omega) hp (by omega) (S_X11_newWords_20 ⟨fun y => ⟨by omega, ?_⟩, fun y => ⟨by omega, ?_⟩⟩)⟩
    · rw [show kn s n p (i + 1) = kn s n p i by rw [kn]; omega] at hnext
      exact hnext
    · rw [show kn s n p (i + 1) = Lc s n s n i p by rw [kn]; omega] at hnext
      exact hnext
theorem M_newWords {kc ks : Nat} {h : Hh} {Q : PQ} {X : PX} {t p : Int} {n : Nat} {s : Int → Int} (hT : MT h t n s) (hp : 0 ≤ p) (hpn : p < n) (hQ : Q [aI ((n : Int) - p - kn s n p p.toNat)] am_R0 h) : am_V M_X11_newWords kc ks 0 [aR 72, aI t, aI p, aU, aU, aU] [] am_R0 h Q X :=
  S_X11_newWords_0 (M_nw_1 hT hp hpn hQ p.toNat 0 (by omega))
/-- the words that a place brings -/
noncomputable def nw (s : Int → Int) (n : Nat) (p : Int) : Int := (n : Int) - p - kn s n p p.toNat
theorem sm_nw {s : Int → Int} {n m : Nat} (hm : m ≤ n) (h64 : n ≤ 64) : 0 ≤ sm (nw s n) m ∧ sm (nw s n) m ≤ 4096 := by
  have h1 := sm_bd (f := nw s n) (c := 64) (m := m) (fun i i0 i1 => by
    have := kn_le (s := s) (n := n) (p := i) i0 (by omega) (m := i.toNat) (by omega)
    unfold nw
    omega)
  omega
theorem M_aw_1 {kc ks : Nat} {h : Hh} {Q : PQ} {X : PX} {t : Int} {n : Nat} {s : Int → Int} (hT : MT h t n s) (hQ : Q [aL (sm (nw s n) n)] am_R0 h) : ∀ (d i : Nat), i + d = n → am_V M_X11_allWords kc ks 5 [aR 72, aI t, aL (sm (nw s n) i), aU, aI i] [] am_R0 h Q X := by
  have h64 := hT.2.1
  have hn := hT.2.2.1
  intro d
  induction d with
  | zero =>
    intro i hd
    have : i = n := by omega
    subst this
    exact S_X11_allWords_5 ⟨hT.1, fun _ => hQ, fun z => absurd z (by omega)⟩
  | succ d ih =>
    intro i hd
    have hnext := ih (i + 1) (by omega)
    have b1 := sm_nw (s := s) (n := n) (m := i + 1) (by omega) h64
    refine S_X11_allWords_5 ⟨hT.1, fun z => absurd z (by omega), fun _ => M_newWords hT (by omega) (by omega) (S_X11_allWords_24 ⟨by omega, ?_⟩)⟩
    rw [am_bmL (z := sm (nw s n) i + ((n : Int) - i - kn s n i (i : Int).toNat)) (by
      show am_l (sm (nw s n) (i + 1))
      unfold am_l
      omega)]
    exact hnext
theorem M_allWords {kc ks : Nat} {h : Hh} {Q : PQ} {X : PX} {t : Int} {n : Nat} {s : Int → Int} (hT : MT h t n s) (hQ : Q [aL (sm (nw s n) n)] am_R0 h) : am_V M_X11_allWords kc ks 0 [aR 72, aI t, aU, aU, aU] [] am_R0 h Q X :=
  S_X11_allWords_0 (M_aw_1 hT hQ n 0 (by omega))
theorem T_words {kc ks : Nat} {h : Hh} {t : Int} (hS : SIM h) (hkc : 1 ≤ kc) (hks : 6 ≤ ks) : am_V M_X10_words kc ks 0 [aR 0, aI t, aU] [] am_R0 h (PQok M_X11_words [aR 72, aI t] aL) (PXok M_X11_words [aR 72, aI t] aL [xIO]) := by
  by_cases z : isTx h t
  · obtain ⟨n, s, pl, ra, hC, hM⟩ := hS.txt z
    refine S_X10_words_0 ⟨by omega, C_known hS z (by omega) (by omega) (S_X10_words_5 hC.1 ?_)⟩
    rw [hC.2.2.1]
    refine C_newWordsBelow hC (Nat.le_refl n) (S_X10_words_14 ?_)
    rw [show sm (fr s n pl) n = sm (nw s n) n from words_eq hC.2.2.2.2.2.2.1 hC.2.2.2.2.2.2.2.1]
    exact PQ.good hS (NK.rf h) fun kc ks Q X g hN hS' k => S_X11_words_0 (M_isNone1 hS' (hN.tx.mpr z) fun h2 m y => S_X11_words_5 ⟨fun _ => M_allWords (m.mt (hN.mt hM)) (S_X11_words_17 (k h2 m y)), fun w => absurd rfl w⟩)
  · exact S_X10_words_0 ⟨by omega, C_known0 hS z (by omega) (by omega) (PX.bad 0 hS (NK.rf h) rfl fun kc ks Q X hS' k => S_X11_words_0 (M_isNone0 hS z fun h2 m y => S_X11_words_5 ⟨fun w => absurd w (by decide), fun _ => k 0 h2 m y⟩))⟩
theorem M_no_1 {kc ks : Nat} {h : Hh} {Q : PQ} {X : PX} {t : Int} {n m : Nat} {s w pl ra : Int → Int} (hT : MT h t n s) (hW : MW h w m) (hSA : SA s n pl ra) (he : ∀ r, 0 ≤ r → r < (n : Int) → h 76 r = pl r) {hi lo : Nat} (hR : RUN s w pl n 0 m lo hi) (h1 : lo < hi → Q [aI (sm (fr s n pl) lo + m - cmv s n pl lo - 1)] am_R0 h) (h0 : lo = hi → Q [aI 0] am_R0 (am_st h 72 10 3)) : ∀ (d i : Nat), i + d = n → (i ≤ lo ∨ lo = hi) → am_V M_X11_numberOf kc ks 19 [aR 72, aI t, aI (sm (fr s n pl) i), aI i, aU] [] am_R0 h Q X := by
  have h64 := hT.2.1
  have hn := hT.2.2.1
  have hs := hT.2.2.2.1
  have hm := hW.1
  have h65 := hW.2.1
  have hl := hR.1
  have hl2 := hR.2.1
  intro d
  induction d with
  | zero =>
    intro i hd hi
    exact S_X11_numberOf_19 ⟨hT.1, fun _ => h0 (by omega), fun z => absurd z (by omega)⟩
  | succ d ih =>
    intro i hd hi
    have e := he i (by omega) (by omega)
    obtain ⟨a0, a1, a2, -⟩ := hSA.at hs (r := i) (by omega) (by omega)
    have b1 := sm_fr hs hSA (m := i) (by omega) h64
    have b2 := fr_bd hs hSA (r := i) (by omega) (by omega)
    have b3 := cmv_le hs hSA (r := i) (by omega) (by omega)
    have hr := hR.2.2.2 i (by omega) (by omega)
    refine S_X11_numberOf_19 ⟨hT.1, fun z => absurd z (by omega), fun _ => M_commonAt hT hSA (by omega) (by omega) he (S_X11_numberOf_35 ⟨by omega, ?_⟩)⟩
    rw [e]
    refine M_stands hT hW (f := 0) (by omega) a0 (by omega) (fun z => S_X11_numberOf_49 ⟨fun y => absurd y (by decide), fun _ => ?_⟩) (fun z => S_X11_numberOf_49 ⟨fun _ => ?_, fun y => absurd rfl y⟩)
    · have := hr.mp z
      have : i = lo := by omega
      subst this
      rw [hm]
      exact ⟨by omega, h1 (by omega)⟩
    · have e2 : h 74 t - h 76 i - cmv s n pl i = fr s n pl i := by unfold fr; omega
      rw [e2]
      refine ⟨?_, ih (i + 1) (by omega) ?_⟩
      · have := hT.1
        rw [hn, e]
        omega
      · rcases hi with y | y
        · by_cases e : i = lo
          · right
            apply Classical.byContradiction
            intro x
            exact z (hr.mpr (by omega))
          · left
            omega
        · exact Or.inr y
theorem T_numberOf {kc ks : Nat} {h : Hh} {t : Int} (hS : SIM h) (hkc : 3 ≤ kc) (hks : 18 ≤ ks) : am_V M_X10_numberOf kc ks 0 [aR 0, aI t, aU, aU] [] am_R0 h (PQok M_X11_numberOf [aR 72, aI t, aU, aU, aU] aI) (PXok M_X11_numberOf [aR 72, aI t, aU, aU, aU] aI [xIO, xUO, xNS]) := by
  by_cases z : isTx h t
  · obtain ⟨n, s, pl, ra, hC, hM⟩ := hS.txt z
    refine S_X10_numberOf_0 ⟨by omega, C_known hS z (by omega) (by omega) (S_X10_numberOf_5 hC.1 ⟨by omega, C_refuseNoWord hS (by omega) (by omega) (fun y => ?_) (fun y => PX.bad 1 hS (NK.rf h) rfl fun kc ks Q X hS' k => S_X11_numberOf_0 (M_isNoWord2 hS z y fun h2 m x => S_X11_numberOf_5 ⟨fun w => absurd w (by decide), fun _ => k 0 h2 m x⟩))⟩)⟩
    obtain ⟨m, w, m0, hCW, hMW⟩ := hS.word y
    have hs := hC.2.2.2.2.2.2.1
    have hSA := hC.2.2.2.2.2.2.2.1
    have h64 := hC.2.1
    have h65 := hCW.2.1
    refine S_X10_numberOf_10 hC.1 ⟨by omega, C_leastRank hC hCW (by omega) (by omega) (fun lo hi hR hlt => S_X10_numberOf_15 hC.1 (C_newWordsBelow hC (by have := hR.2.1; omega) (S_X10_numberOf_21 hC.1 ?_))) (fun lo hR => PX.bad 2 hS (NK.rf h) rfl fun kc ks Q X hS' k => S_X11_numberOf_0 (M_isNoWord1 hS' z y fun h2 m2 x2 => S_X11_numberOf_5 ⟨fun _ => M_sorts (m2.mt hM) hSA fun h3 hf he => S_X11_numberOf_15 (M_no_1 ((MK.so hf).mt (m2.mt hM)) ((MK.so hf).mw (m2.mw hMW)) hSA he hR (fun v => by omega) (fun _ => k 0 _ (m2.tr (MK.so hf)).th am_st_s) n 0 (by omega) (Or.inr rfl)), fun w => absurd rfl w⟩))⟩
    have hhi := hR.2.1
    have b1 := sm_fr hs hSA (m := lo) (by omega) h64
    have b3 := cmv_le hs hSA (r := lo) (by omega) (by omega)
    have a0 := (hSA.at hs (r := lo) (by omega) (by omega)).1
    have ec := hC.2.2.2.2.2.2.2.2 lo (by omega) (by omega)
    rw [hCW.1, ec]
    refine ⟨by omega, PQ.good hS (NK.rf h) fun kc ks Q X g hN hS' k => S_X11_numberOf_0 (M_isNoWord1 hS' (hN.tx.mpr z) (hN.w.mpr y) fun h2 m2 x2 => S_X11_numberOf_5 ⟨fun _ => M_sorts (m2.mt (hN.mt hM)) hSA fun h3 hf he => S_X11_numberOf_15 (M_no_1 ((MK.so hf).mt (m2.mt (hN.mt hM))) ((MK.so hf).mw (m2.mw (hN.mw hMW))) hSA he hR (fun _ => k h3 (m2.tr (MK.so hf)) (by rw [hf 72 (by decide)]; exact x2)) (fun v => by omega) n 0 (by omega) (Or.inl (by omega))), fun w => absurd rfl w⟩)⟩
  · exact S_X10_numberOf_0 ⟨by omega, C_known0 hS z (by omega) (by omega) (PX.bad 0 hS (NK.rf h) rfl fun kc ks Q X hS' k => S_X11_numberOf_0 (M_isNoWord0 hS z fun h2 m y => S_X11_numberOf_5 ⟨fun w => absurd w (by decide), fun _ => k 0 h2 m y⟩))⟩
