/-! word, wipe, checksum -/
theorem C_rb_1 {kc ks : Nat} {h : Hh} {Q : PQ} {X : PX} {a n : Nat} {s pl ra : Int → Int} (hC : CT h a n s pl ra) {x : Int} (hx0 : 0 ≤ x) (hx : x < sm (fr s n pl) n) (hQ : ∀ r : Nat, r < n → sm (fr s n pl) r ≤ x → x < sm (fr s n pl) (r + 1) → Q [aI r] am_R0 h) : ∀ (d r : Nat), r + 1 + d = n → sm (fr s n pl) r ≤ x → am_V M_X6_rankBringing kc ks 4 [aR a, aI x, aI r, aI (sm (fr s n pl) r)] [] am_R0 h Q X := by
  obtain ⟨t0, n64, hn, rfl, rfl, rfl, hs, hSA, hcm⟩ := id hC
  intro d
  induction d with
  | zero =>
    intro r hr hle
    refine S_X6_rankBringing_4 t0 ⟨by omega, fun _ => hQ r (by omega) hle (by rw [show r + 1 = n by omega]; exact hx), fun z => absurd z (by omega)⟩
  | succ d ih =>
    intro r hr hle
    have e := hcm r (by omega) (by omega)
    have b1 := sm_fr hs hSA (m := r) (by omega) n64
    have b2 := fr_bd hs hSA (r := r) (by omega) (by omega)
    have b3 := hSA.at hs (r := r) (by omega) (by omega)
    have b4 := cmv_le hs hSA (r := r) (by omega) (by omega)
    have e2 : h a 4 - h (a + 2) r - h (a + 4) r = fr (h (a + 1)) n (h (a + 2)) r := by unfold fr; omega
    have e3 : sm (fr (h (a + 1)) n (h (a + 2))) (r + 1) = sm (fr (h (a + 1)) n (h (a + 2))) r + fr (h (a + 1)) n (h (a + 2)) r := rfl
    refine S_X6_rankBringing_4 t0 ⟨by omega, fun z => absurd z (by omega), fun _ => ⟨by omega, fun z => hQ r (by omega) hle (by omega), fun z => ⟨by omega, ?_⟩⟩⟩
    rw [e2]
    exact ih (r + 1) (by omega) (by omega)
theorem M_word_2 {kc ks : Nat} {Q : PQ} {X : PX} {t : Int} {n r : Nat} {s pl ra : Int → Int} {m : Int} (g : Hh) (hT : MT g t n s) (hSA : SA s n pl ra) (hr : r < n) (hm0 : 0 ≤ m) (hm : m ≤ n - pl r) (hQ : ∀ h, RW g h (fun k => s (pl r + k)) m → Q [aI m] am_R0 h) : ∀ (d : Nat) (i : Int) (h : Hh), i + d = m → 0 ≤ i → (∀ d, d ≠ 72 → d ≠ 75 → d ≠ 76 → h d = g d) → h 72 8 = g 72 8 → h 72 10 = 0 → h 72 9 = m → h 76 r = pl r → (∀ k, 0 ≤ k → k < i → h 75 k = s (pl r + k)) → am_V M_X11_word kc ks 82 [aR 72, aI t, aU, aU, aI r, aU, aU, aI i] [] am_R0 h Q X := by
  have h64 := hT.2.1
  have ht := hT.1
  have hs := hT.2.2.2.1
  obtain ⟨a0, a1, -, -⟩ := hSA.at hs (r := r) (by omega) (by omega)
  intro d
  induction d with
  | zero =>
    intro i h hi i0 hf h8 h10 h9 h76 hz
    have : i = m := by omega
    subst this
    refine S_X11_word_82 ⟨fun _ => ?_, fun z => absurd z (by omega)⟩
    rw [h9]
    exact hQ h ⟨fun d d1 d2 d3 _ => hf d d1 d2 d3, h8, h10, h9, hz⟩
  | succ d ih =>
    intro i h hi i0 hf h8 h10 h9 h76 hz
    have e := hT.2.2.2.2 (pl r + i) (by omega) (by omega)
    have sg := hs (pl r + i) (by omega) (by omega)
    unfold ms at e
    rw [← hf 73 (by decide) (by decide) (by decide), ← Int.add_assoc] at e
    refine S_X11_word_82 ⟨fun z => absurd z (by omega), fun _ => ?_⟩
    rw [h76, e, Int.emod_eq_of_lt (by omega) (by omega)]
    refine ⟨by omega, ih (i + 1) _ (by omega) (by omega) (fun d d1 d2 d3 => by rw [am_st_o d2]; exact hf d d1 d2 d3) (by rw [am_st_o (by decide)]; exact h8) (by rw [am_st_o (by decide)]; exact h10) (by rw [am_st_o (by decide)]; exact h9) (by rw [am_st_o (by decide)]; exact h76) (fun k k0 k1 => ?_)⟩
    rw [am_st_i]
    by_cases y : k = i
    · rw [if_pos y, y]
    · rw [if_neg y]
      exact hz k k0 (by omega)
theorem M_word_1 {kc ks : Nat} {h : Hh} {Q : PQ} {X : PX} {t x : Int} {n : Nat} {s pl ra : Int → Int} (hT : MT h t n s) (hSA : SA s n pl ra) (he : ∀ r, 0 ≤ r → r < (n : Int) → h 76 r = pl r) (hxi : am_i x) (h1 : ∀ r : Nat, r < n → 0 ≤ x → sm (fr s n pl) r ≤ x → x < sm (fr s n pl) (r + 1) → am_V M_X11_word kc ks 82 [aR 72, aI t, aU, aU, aI r, aU, aU, aI 0] [] am_R0 (am_st h 72 9 (cmv s n pl r + (x - sm (fr s n pl) r) + 1)) Q X) (h0 : x < 0 ∨ sm (fr s n pl) n ≤ x → Q [aI 0] am_R0 (am_st h 72 10 2)) : ∀ (d r : Nat), r + d = n → (x < 0 ∨ sm (fr s n pl) r ≤ x) → am_V M_X11_word kc ks 20 [aR 72, aI t, aI x, aI (x - sm (fr s n pl) r), aI r, aU, aU, aU] [] am_R0 h Q X := by
  have h64 := hT.2.1
  have ht := hT.1
  have hn := hT.2.2.1
  have hs := hT.2.2.2.1
  unfold am_i at hxi
  intro d
  induction d with
  | zero =>
    intro r hr hz
    have : r = n := by omega
    subst this
    exact S_X11_word_20 ⟨ht, fun _ => h0 hz, fun z => absurd z (by omega)⟩
  | succ d ih =>
    intro r hr hz
    have b1 := sm_fr hs hSA (m := r) (by omega) h64
    have b2 := fr_bd hs hSA (r := r) (by omega) (by omega)
    have b3 := hSA.at hs (r := r) (by omega) (by omega)
    have b4 := cmv_le hs hSA (r := r) (by omega) (by omega)
    have e2 : (n : Int) - pl r - cmv s n pl r = fr s n pl r := rfl
    have e3 : sm (fr s n pl) (r + 1) = sm (fr s n pl) r + fr s n pl r := rfl
    refine S_X11_word_20 ⟨ht, fun z => absurd z (by omega), fun _ => ⟨fun z => h0 (Or.inl z), fun z => M_commonAt hT hSA (by omega) (by omega) he (S_X11_word_42 ?_)⟩⟩
    rw [hn, he r (by omega) (by omega), e2]
    refine ⟨by omega, fun y => ⟨by omega, ?_⟩, fun y => ⟨by omega, h1 r (by omega) z (by omega) (by omega)⟩⟩
    rw [show x - sm (fr s n pl) r - fr s n pl r = x - sm (fr s n pl) (r + 1) by omega]
    exact ih (r + 1) (by omega) (by omega)
theorem T_word {kc ks : Nat} {h : Hh} {t x : Int} (hS : SIM h) (hx : am_i x) (hkc : 2 ≤ kc) (hks : 12 ≤ ks) : am_V M_X10_word kc ks 0 [aR 0, aI t, aI x, aU, aU, aU] [] am_R0 h (PQok M_X11_word [aR 72, aI t, aI x, aU, aU, aU, aU, aU] aI) (PXok M_X11_word [aR 72, aI t, aI x, aU, aU, aU, aU, aU] aI [xIO, xNS]) := by
  by_cases z : isTx h t
  · obtain ⟨n, s, pl, ra, hC, hM⟩ := hS.txt z
    obtain ⟨t0, n64, hn, e1, e2, e3, hs, hSA, hcm⟩ := id hC
    have bn := sm_fr hs hSA (m := n) (Nat.le_refl n) n64
    have ha : ta t + 1 ≠ 2 ∧ ta t + 1 ≠ 3 := by unfold ta; omega
    have bad : x < 0 ∨ sm (fr s n pl) n ≤ x → PXok M_X11_word [aR 72, aI t, aI x, aU, aU, aU, aU, aU] aI [xIO, xNS] xNS am_R0 h := fun v => PX.bad 1 hS (NK.rf h) rfl fun kc ks Q X hS' k => S_X11_word_0 (M_isNone1 hS' z fun h2 m y => S_X11_word_5 ⟨fun _ => M_sorts (m.mt hM) hSA (fun h3 hf he => S_X11_word_15 ?_), fun w => absurd rfl w⟩)
    · refine S_X10_word_0 ⟨by omega, C_known hS z (by omega) (by omega) (S_X10_word_5 t0 ⟨fun v => ⟨by omega, bad (Or.inl v)⟩, fun v => ?_⟩)⟩
      rw [hn]
      refine C_newWordsBelow hC (Nat.le_refl n) (S_X10_word_19 t0 ⟨fun w => ?_, fun w => ⟨by omega, bad (Or.inr w)⟩⟩)
      have n0 : 0 < n := by
        apply Nat.pos_of_ne_zero
        intro y
        subst y
        have : sm (fr s 0 pl) 0 = 0 := rfl
        omega
      refine S_X6_rankBringing_0 t0 (C_rb_1 hC v w (fun r hr hle hlt => S_X10_word_37 t0 ?_) (n - 1) 0 (by omega) v)
      have b1 := sm_fr hs hSA (m := r) (by omega) n64
      have b4 := cmv_le hs hSA (r := r) (by omega) (by omega)
      have b3 := hSA.at hs (r := r) (by omega) (by omega)
      have ec := hcm r (by omega) (by omega)
      have e5 : sm (fr s n pl) (r + 1) = sm (fr s n pl) r + fr s n pl r := rfl
      have e6 : fr s n pl r = (n : Int) - pl r - cmv s n pl r := rfl
      rw [ec]
      refine ⟨by omega, C_newWordsBelow hC (by omega) (S_X10_word_56 t0 ⟨by omega, ?_⟩)⟩
      obtain ⟨m, hm⟩ : ∃ m : Int, m = (cmv s n pl r : Int) + 1 + x - sm (fr s n pl) r := ⟨_, rfl⟩
      rw [← hm, e2]
      refine C_hold (tr_sg t0) b3.1 (by omega) (by omega) (by omega) (by omega) ha (fun k k0 k1 => by rw [e1]; have := hs (pl r + k) (by omega) (by omega); omega) (fun h' hf h21 h3 => S_X10_word_79 ?_)
      rw [h21]
      rw [e1] at h3
      refine GM.raw fun kc ks Q X k => ?_
      obtain ⟨g, hg⟩ : ∃ g : Hh, g = am_st h' 81 0 m := ⟨_, rfl⟩
      rw [← hg]
      have g81 : g 81 = am_st h' 81 0 m 81 := by rw [hg]
      rw [← g81] at k
      have gf : ∀ d, d ≠ 2 → d ≠ 3 → d ≠ 81 → g d = h d := fun d d1 d2 d3 => by rw [hg, am_st_o d3]; exact hf d d1 d2
      have hMg : MT g t n s := hM.of (gf 73 (by decide) (by decide) (by decide)) (gf 74 (by decide) (by decide) (by decide))
      have e8 : 0 ≤ g 72 8 ∧ g 72 8 ≤ 8 := by rw [gf 72 (by decide) (by decide) (by decide)]; exact hS.m8
      have hMg2 : MT (am_st g 72 10 0) t n s := hMg.of (am_st_o (by decide)) (am_st_o (by decide))
      refine S_X11_word_0 (L_isNone e8 (fun _ => S_X11_word_5 ⟨fun _ => M_sorts hMg2 hSA (fun h3' hf3 he => S_X11_word_15 ?_), fun w => absurd rfl w⟩) (fun y => absurd (by rw [gf 72 (by decide) (by decide) (by decide)]; exact hS.tx8.mpr z) y))
      have hMg3 : MT h3' t n s := hMg2.of (hf3 73 (by decide)) (hf3 74 (by decide))
      have := M_word_1 (kc := kc) (ks := ks) (Q := Q) (X := X) (x := x) hMg3 hSA he hx (fun r' hr' _ hle' hlt' => ?_) (fun y => by omega) n 0 (by omega) (Or.inr v)
      · have s0 : sm (fr s n pl) 0 = 0 := rfl
        rw [s0, Int.sub_zero] at this
        exact this
      · have err : r' = r := by
          rcases Nat.lt_trichotomy r' r with y | y | y
          · have := sm_mono (f := fr s n pl) (i := r' + 1) (j := r) (by omega) (fun i i0 i1 => (fr_bd hs hSA (by omega) (by omega)).1)
            omega
          · exact y
          · have := sm_mono (f := fr s n pl) (i := r + 1) (j := r') (by omega) (fun i i0 i1 => (fr_bd hs hSA (by omega) (by omega)).1)
            omega
        subst err
        rw [show (cmv s n pl r' : Int) + (x - sm (fr s n pl) r') + 1 = m by omega]
        refine M_word_2 g hMg hSA hr' (by omega) (by omega) (fun h4 hR => k h4 hR.2.2.1 (hR.1 81 (by decide) (by decide) (by decide) (by decide)) (RW.sim hS gf ?_ ?_ (by omega) (by omega) (fun i i0 i1 => Or.inr (hs (pl r' + i) (by omega) (by omega))) hR)) m.toNat 0 _ (by omega) (Int.le_refl 0) (fun d d1 d2 d3 => by rw [am_st_o d1, hf3 d d3, am_st_o d1]) ?_ ?_ am_st_s ?_ (fun i i0 i1 => by omega)
        · rw [hg, am_st_o (by decide)]; exact h21
        · intro i i0 i1
          rw [hg, am_st_o (by decide), h3 i i0 i1]
        · rw [am_st_n (Or.inr (by decide)), hf3 72 (by decide), am_st_n (Or.inr (by decide))]
        · rw [am_st_n (Or.inr (by decide)), hf3 72 (by decide), am_st_s]
        · rw [am_st_o (by decide), he r' (by omega) (by omega)]
    · have := M_word_1 (kc := kc) (ks := ks) (Q := Q) (X := X) (x := x) ((MK.so hf).mt (m.mt hM)) hSA he hx (fun r' hr' x0 hle' hlt' => by
        exfalso
        have := sm_mono (f := fr s n pl) (i := r' + 1) (j := n) (by omega) (fun i i0 i1 => (fr_bd hs hSA (by omega) (by omega)).1)
        omega) (fun _ => k 0 _ (m.tr (MK.so hf)).th am_st_s) n 0 (by omega) (by
        have s0 : sm (fr s n pl) 0 = 0 := rfl
        rw [s0]
        omega)
      have s0 : sm (fr s n pl) 0 = 0 := rfl
      rw [s0, Int.sub_zero] at this
      exact this
  · exact S_X10_word_0 ⟨by omega, C_known0 hS z (by omega) (by omega) (PX.bad 0 hS (NK.rf h) rfl fun kc ks Q X hS' k => S_X11_word_0 (M_isNone0 hS z fun h2 m y => S_X11_word_5 ⟨fun w => absurd w (by decide), fun _ => k 0 h2 m y⟩))⟩
/-- calls that throw nothing -/
def GV (j : MInfo) (As : List AV) (mk : Int → AV) (x : Int) (h1 : Hh) : Prop := ∀ (kc ks : Nat) (Q : PQ) (X : PX), (∀ h2, SIM h2 → Q [mk x] am_R0 h2) → am_V j kc ks 0 As [] am_R0 h1 Q X
def PQv (j : MInfo) (As : List AV) (mk : Int → AV) : PQ := fun v ρ' h' => ∃ x, v = [mk x] ∧ ρ' = am_R0 ∧ GV j As mk x h'
theorem T_wipe {kc ks : Nat} {h : Hh} {X : PX} (hS : SIM h) : am_V M_X10_wipe kc ks 0 [aR 0, aU] [] am_R0 h (PQv M_X11_wipe [aR 72, aU] aI) X := by
  refine S_X10_wipe_0 ⟨h 2 1, rfl, rfl, fun kc ks Q X k => S_X11_wipe_0 ?_⟩
  have e : am_st (am_st h 2 1 0) 72 10 0 72 9 = h 2 1 := by rw [am_st_n (Or.inr (by decide)), am_st_n (Or.inl (by decide))]; exact hS.2.1.2.2
  rw [e]
  have e2 : am_st (am_st (am_st h 2 1 0) 72 10 0) 72 9 0 2 1 = 0 := by rw [am_st_n (Or.inl (by decide)), am_st_n (Or.inl (by decide)), am_st_s]
  refine k _ (hS.row (fun d hd => by rw [am_st_o (by omega), am_st_o (by omega), am_st_o (by omega)]) ?_ ?_ ?_ ?_ ?_)
  · rw [am_st_n (Or.inr (by decide)), am_st_n (Or.inr (by decide)), am_st_n (Or.inl (by decide))]
  · rw [e2]; exact Int.le_refl 0
  · rw [e2]; decide
  · rw [e2, am_st_s]
  · intro k k0 k1
    rw [e2] at k1
    omega
/-- a checksum's part of one text, and of all -/
def ckr (s : Int → Int) (n : Nat) (pl : Int → Int) (x : Int) : Nat → Int
  | 0 => x
  | r + 1 => ((31 * ((31 * ckr s n pl x r).bmod (2 ^ 64) + pl r).bmod (2 ^ 64)).bmod (2 ^ 64) + (cmv s n pl r : Int)).bmod (2 ^ 64)
def cks (N : Int → Nat) (S PL : Int → Int → Int) : Nat → Int
  | 0 => 7
  | t + 1 => ckr (S t) (N t) (PL t) (((31 * cks N S PL t).bmod (2 ^ 64) + (N t : Int)).bmod (2 ^ 64)) (N t)
theorem C_ck_2 {kc ks : Nat} {h : Hh} {Q : PQ} {X : PX} {a n : Nat} {s pl ra : Int → Int} (hC : CT h a n s pl ra) {x t : Int} (ht : 0 ≤ t ∧ t < 8) (hQ : am_V M_X10_checksum kc ks 6 [aR 0, aL (ckr s n pl x n), aU, aI (t + 1), aU, aU] [] am_R0 h Q X) : ∀ (d r : Nat), r + d = n → am_V M_X10_checksum kc ks 38 [aR 0, aL (ckr s n pl x r), aU, aI t, aR a, aI r] [] am_R0 h Q X := by
  obtain ⟨t0, n64, hn, rfl, rfl, rfl, hs, hSA, hcm⟩ := id hC
  intro d
  induction d with
  | zero =>
    intro r hr
    have : r = n := by omega
    subst this
    exact S_X10_checksum_38 t0 ⟨fun _ => ⟨by omega, hQ⟩, fun z => absurd z (by omega)⟩
  | succ d ih =>
    intro r hr
    have e := hcm r (by omega) (by omega)
    refine S_X10_checksum_38 t0 ⟨fun z => absurd z (by omega), fun _ => ⟨by omega, ?_⟩⟩
    rw [e]
    exact ih (r + 1) (by omega)
theorem C_ck_1 {kc ks : Nat} {h : Hh} {Q : PQ} {X : PX} {N : Int → Nat} {S PL RA : Int → Int → Int} {M : Nat} (hM : h 0 9 = M) (hM8 : M ≤ 8) (hC : ∀ t, 0 ≤ t → t < (M : Int) → CT h (ta t) (N t) (S t) (PL t) (RA t)) (hQ : Q [aL (cks N S PL M)] am_R0 h) : ∀ (d t : Nat), t + d = M → am_V M_X10_checksum kc ks 6 [aR 0, aL (cks N S PL t), aU, aI t, aU, aU] [] am_R0 h Q X := by
  intro d
  induction d with
  | zero =>
    intro t ht
    have : t = M := by omega
    subst this
    exact S_X10_checksum_6 ⟨fun _ => hQ, fun z => absurd z (by omega)⟩
  | succ d ih =>
    intro t ht
    have c := hC t (by omega) (by omega)
    refine S_X10_checksum_6 ⟨fun z => absurd z (by omega), fun _ => ⟨by omega, ?_⟩⟩
    have e : h (ta t) 4 = N t := c.2.2.1
    show am_V M_X10_checksum kc ks 38 [aR 0, aL (((31 * cks N S PL t).bmod (2 ^ 64) + h (ta t) 4).bmod (2 ^ 64)), aU, aI t, aR (ta t), aI 0] [] am_R0 h Q X
    rw [e]
    exact C_ck_2 c (by omega) (ih (t + 1) (by omega)) (N t) 0 (by omega)
theorem M_ck_2 {kc ks : Nat} {h : Hh} {Q : PQ} {X : PX} {n : Nat} {s pl ra : Int → Int} {x t : Int} (hT : MT h t n s) (hSA : SA s n pl ra) (he : ∀ r, 0 ≤ r → r < (n : Int) → h 76 r = pl r) (hQ : am_V M_X11_checksum kc ks 11 [aR 72, aL (ckr s n pl x n), aU, aI (t + 1), aU] [] am_R0 h Q X) : ∀ (d r : Nat), r + d = n → am_V M_X11_checksum kc ks 41 [aR 72, aL (ckr s n pl x r), aU, aI t, aI r] [] am_R0 h Q X := by
  have h64 := hT.2.1
  have ht := hT.1
  have hn := hT.2.2.1
  intro d
  induction d with
  | zero =>
    intro r hr
    have : r = n := by omega
    subst this
    exact S_X11_checksum_41 ⟨ht, fun _ => ⟨by omega, hQ⟩, fun z => absurd z (by omega)⟩
  | succ d ih =>
    intro r hr
    have e := he r (by omega) (by omega)
    refine S_X11_checksum_41 ⟨ht, fun z => absurd z (by omega), fun _ => ⟨by omega, M_commonAt hT hSA (by omega) (by omega) he (S_X11_checksum_77 ⟨by omega, ?_⟩)⟩⟩
    rw [e]
    exact ih (r + 1) (by omega)
theorem M_ck_1 {kc ks : Nat} {Q : PQ} {X : PX} {N : Int → Nat} {S PL RA : Int → Int → Int} {M : Nat} (g : Hh) (hM : g 72 8 = M) (hM8 : M ≤ 8) (hT : ∀ t, 0 ≤ t → t < (M : Int) → MT g t (N t) (S t) ∧ SA (S t) (N t) (PL t) (RA t)) (hQ : ∀ h, (∀ d, d ≠ 76 → h d = g d) → Q [aL (cks N S PL M)] am_R0 h) : ∀ (d t : Nat) (h : Hh), t + d = M → (∀ d, d ≠ 76 → h d = g d) → am_V M_X11_checksum kc ks 11 [aR 72, aL (cks N S PL t), aU, aI t, aU] [] am_R0 h Q X := by
  intro d
  induction d with
  | zero =>
    intro t h ht hf
    have : t = M := by omega
    subst this
    exact S_X11_checksum_11 ⟨fun _ => hQ h hf, fun z => absurd z (by rw [hf 72 (by decide)]; omega)⟩
  | succ d ih =>
    intro t h ht hf
    obtain ⟨c, hSA⟩ := hT t (by omega) (by omega)
    have c1 : MT h t (N t) (S t) := c.of (hf 73 (by decide)) (hf 74 (by decide))
    refine S_X11_checksum_11 ⟨fun z => absurd z (by rw [hf 72 (by decide)]; omega), fun _ => ⟨by omega, M_sorts c1 hSA (fun h2 hf2 he => S_X11_checksum_38 ?_)⟩⟩
    have c2 : MT h2 t (N t) (S t) := c1.of (hf2 73 (by decide)) (hf2 74 (by decide))
    rw [c1.2.2.1]
    exact M_ck_2 c2 hSA he (ih (t + 1) h2 (by omega) (fun d hd => by rw [hf2 d hd]; exact hf d hd)) (N t) 0 (by omega)
theorem SIM.all {h : Hh} (hS : SIM h) : ∃ (N : Int → Nat) (S PL RA : Int → Int → Int), ∀ t, isTx h t → CT h (ta t) (N t) (S t) (PL t) (RA t) ∧ MT h t (N t) (S t) := by
  have h1 : ∀ t : Int, ∃ q : Nat × (Int → Int) × (Int → Int) × (Int → Int), isTx h t → CT h (ta t) q.1 q.2.1 q.2.2.1 q.2.2.2 ∧ MT h t q.1 q.2.1 := by
    intro t
    by_cases z : isTx h t
    · obtain ⟨n, s, pl, ra, hC, hM⟩ := hS.txt z
      exact ⟨(n, s, pl, ra), fun _ => ⟨hC, hM⟩⟩
    · exact ⟨(0, fun _ => 0, fun _ => 0, fun _ => 0), fun y => absurd y z⟩
  obtain ⟨f, hf⟩ := Classical.skolem.mp h1
  exact ⟨fun t => (f t).1, fun t => (f t).2.1, fun t => (f t).2.2.1, fun t => (f t).2.2.2, hf⟩
theorem T_checksum {kc ks : Nat} {h : Hh} {X : PX} (hS : SIM h) : am_V M_X10_checksum kc ks 0 [aR 0, aU, aU, aU, aU, aU] [] am_R0 h (PQv M_X11_checksum [aR 72, aU, aU, aU, aU] aL) X := by
  obtain ⟨N, S, PL, RA, hall⟩ := hS.all
  obtain ⟨M, hM⟩ : ∃ M : Nat, h 0 9 = M := ⟨(h 0 9).toNat, by have := hS.1; omega⟩
  have h8 := hS.1
  have hC : ∀ t, 0 ≤ t → t < (M : Int) → CT h (ta t) (N t) (S t) (PL t) (RA t) ∧ MT h t (N t) (S t) := fun t t0 t1 => hall t ⟨t0, by omega⟩
  refine S_X10_checksum_0 (C_ck_1 hM (by omega) (fun t t0 t1 => (hC t t0 t1).1) ⟨_, rfl, rfl, fun kc ks Q X k => S_X11_checksum_0 ?_⟩ M 0 (by omega))
  refine M_ck_1 (am_st h 72 10 0) (by rw [am_st_n (Or.inr (by decide))]; omega) (by omega) (fun t t0 t1 => ⟨(hC t t0 t1).2.of (am_st_o (by decide)) (am_st_o (by decide)), (hC t t0 t1).1.2.2.2.2.2.2.2.1⟩) (fun h2 hf => k h2 (MK.sim hS ((MK.rf h).th.tr (MK.so hf)))) M 0 _ (by omega) (fun _ _ => rfl)
