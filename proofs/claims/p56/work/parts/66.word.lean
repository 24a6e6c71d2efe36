variable {WM : List (Nat × Nat)} {wd : Bool}
/-! word, wipe, checksum -/
theorem C_rb_1 {kc ks : Nat} {h : Hh} {Q : PQ} {X : PX} {a n : Nat} {s pl ra : Int → Int} (hC : CT h a n s pl ra) {x : Int} (hx0 : 0 ≤ x) (hx : x < sm (fr s n pl) n) (hQ : ∀ r : Nat, r < n → sm (fr s n pl) r ≤ x → x < sm (fr s n pl) (r + 1) → Q [aI r] (RM WM wd) h) : ∀ (d r : Nat), r + 1 + d = n → sm (fr s n pl) r ≤ x → am_V M_X6_rankBringing kc ks 4 [aR a, aI x, aI r, aI (sm (fr s n pl) r)] [] (RM WM wd) h Q X := by
  obtain ⟨t0, n64, hn, rfl, rfl, rfl, hs, hSA, hcm⟩ := id hC
  intro d
  induction d with
  | zero =>
    intro r hr hle
    refine S_X6_rankBringing_4 t0 ⟨by omega, fun _ => hQ r (by omega) hle (by rw [show r + 1 = n by omega]; exact hx), fun z => absurd z (by omega)⟩
  | succ d ih =>
    intro r hr hle
    have e := hcm r (by omega) (by omega)
    have b1 := sm_fr hs hSA (m := r) (by omega) n64
    have b2 := fr_bd hs hSA (r := r) (by omega) (by omega)
    have b3 := hSA.at hs (r := r) (by omega) (by omega)
    have b4 := cmv_le hs hSA (r := r) (by omega) (by omega)
    have e2 : h a 4 - h (a + 2) r - h (a + 4) r = fr (h (a + 1)) n (h (a + 2)) r := by unfold fr; omega
    have e3 : sm (fr (h (a + 1)) n (h (a + 2))) (r + 1) = sm (fr (h (a + 1)) n (h (a + 2))) r + fr (h (a + 1)) n (h (a + 2)) r := rfl
    refine S_X6_rankBringing_4 t0 ⟨by omega, fun z => absurd z (by omega), fun _ => ⟨by omega, fun z => hQ r (by omega) hle (by omega), fun z => ⟨by omega, ?_⟩⟩⟩
    rw [e2]
    exact ih (r + 1) (by omega) (by omega)
/-- a checksum's part of one text, and of all -/
def ckr (s : Int → Int) (n : Nat) (pl : Int → Int) (x : Int) : Nat → Int
  | 0 => x
  | r + 1 => ((31 * ((31 * ckr s n pl x r).bmod (2 ^ 64) + pl r).bmod (2 ^ 64)).bmod (2 ^ 64) + (cmv s n pl r : Int)).bmod (2 ^ 64)
def cks (N : Int → Nat) (S PL : Int → Int → Int) : Nat → Int
  | 0 => 7
  | t + 1 => ckr (S t) (N t) (PL t) (((31 * cks N S PL t).bmod (2 ^ 64) + (N t : Int)).bmod (2 ^ 64)) (N t)
theorem C_ck_2 {kc ks : Nat} {h : Hh} {Q : PQ} {X : PX} {a n : Nat} {s pl ra : Int → Int} (hC : CT h a n s pl ra) {x t : Int} (ht : 0 ≤ t ∧ t < 8) (hQ : am_V M_X10_checksum kc ks 6 [aR 0, aL (ckr s n pl x n), aU, aI (t + 1), aU, aU] [] (RM WM wd) h Q X) : ∀ (d r : Nat), r + d = n → am_V M_X10_checksum kc ks 38 [aR 0, aL (ckr s n pl x r), aU, aI t, aR a, aI r] [] (RM WM wd) h Q X := by
  obtain ⟨t0, n64, hn, rfl, rfl, rfl, hs, hSA, hcm⟩ := id hC
  intro d
  induction d with
  | zero =>
    intro r hr
    have : r = n := by omega
    subst this
    exact S_X10_checksum_38 t0 ⟨fun _ => ⟨by omega, hQ⟩, fun z => absurd z (by omega)⟩
  | succ d ih =>
    intro r hr
    have e := hcm r (by omega) (by omega)
    refine S_X10_checksum_38 t0 ⟨fun z => absurd z (by omega), fun _ => ⟨by omega, ?_⟩⟩
    rw [e]
    exact ih (r + 1) (by omega)
theorem C_ck_1 {kc ks : Nat} {h : Hh} {Q : PQ} {X : PX} {N : Int → Nat} {S PL RA : Int → Int → Int} {M : Nat} (hM : h 0 9 = M) (hM8 : M ≤ 8) (hC : ∀ t, 0 ≤ t → t < (M : Int) → CT h (ta t) (N t) (S t) (PL t) (RA t)) (hQ : Q [aL (cks N S PL M)] (RM WM wd) h) : ∀ (d t : Nat), t + d = M → am_V M_X10_checksum kc ks 6 [aR 0, aL (cks N S PL t), aU, aI t, aU, aU] [] (RM WM wd) h Q X := by
  intro d
  induction d with
  | zero =>
    intro t ht
    have : t = M := by omega
    subst this
    exact S_X10_checksum_6 ⟨fun _ => hQ, fun z => absurd z (by omega)⟩
  | succ d ih =>
    intro t ht
    have c := hC t (by omega) (by omega)
    refine S_X10_checksum_6 ⟨fun z => absurd z (by omega), fun _ => ⟨by omega, ?_⟩⟩
    have e : h (ta t) 4 = N t := c.2.2.1
    show am_V M_X10_checksum kc ks 38 [aR 0, aL (((31 * cks N S PL t).bmod (2 ^ 64) + h (ta t) 4).bmod (2 ^ 64)), aU, aI t, aR (ta t), aI 0] [] (RM WM wd) h Q X
    rw [e]
    exact C_ck_2 c (by omega) (ih (t + 1) (by omega)) (N t) 0 (by omega)
theorem W_word {kc ks : Nat} {h : Hh} {Q : PQ} {X : PX} {t : Int} {n : Nat} {s pl ra : Int → Int} {x : Int} {r : Nat} (hS : SIM h) (z : isTx h t) (hC : CT h (ta t) n s pl ra) (hr : r < n) (hle : sm (fr s n pl) r ≤ x) (hlt : x < sm (fr s n pl) (r + 1)) (hkc : 2 ≤ kc) (hks : 12 ≤ ks) (hQ : ∀ h', SIM h' → (∀ d, d ≠ 2 → d ≠ 3 → h' d = h d) → h' 2 1 = (cmv s n pl r : Int) + 1 + x - sm (fr s n pl) r → (∀ k, 0 ≤ k → k < (cmv s n pl r : Int) + 1 + x - sm (fr s n pl) r → h' 3 k = s (pl r + k)) → Q [aL ((cmv s n pl r : Int) + 1 + x - sm (fr s n pl) r)] (RM WM wd) h') : am_V M_L_word kc ks 0 [aR 0, aI t, aI x, aU] [] (RM WM wd) h Q X := by
  obtain ⟨t0, n64, hn, e1, e2, e3, hs, hSA, hcm⟩ := id hC
  have bn := sm_fr hs hSA (m := n) (Nat.le_refl n) n64
  have br := sm_fr hs hSA (m := r) (by omega) n64
  have ha : ta t + 1 ≠ 2 ∧ ta t + 1 ≠ 3 := by unfold ta; omega
  have mn := sm_mono (f := fr s n pl) (i := r + 1) (j := n) (by omega) (fun i i0 i1 => (fr_bd hs hSA (by omega) (by omega)).1)
  refine S_L_word_0 ⟨⟨hkc, hks⟩, S_X10_word_0 ⟨by omega, C_known hS z (by omega) (by omega) (S_X10_word_5 t0 ⟨fun v => absurd v (by omega), fun v => ?_⟩)⟩⟩
  rw [hn]
  refine C_newWordsBelow hC (Nat.le_refl n) (S_X10_word_19 t0 ⟨fun w => ?_, fun w => absurd w (by omega)⟩)
  refine S_X6_rankBringing_0 t0 (C_rb_1 hC v w (fun r' hr' hle' hlt' => S_X10_word_37 t0 ?_) (n - 1) 0 (by omega) v)
  have err : r' = r := by
    rcases Nat.lt_trichotomy r' r with y | y | y
    · have := sm_mono (f := fr s n pl) (i := r' + 1) (j := r) (by omega) (fun i i0 i1 => (fr_bd hs hSA (by omega) (by omega)).1)
      omega
    · exact y
    · have := sm_mono (f := fr s n pl) (i := r + 1) (j := r') (by omega) (fun i i0 i1 => (fr_bd hs hSA (by omega) (by omega)).1)
      omega
  subst err
  have b1 := sm_fr hs hSA (m := r') (by omega) n64
  have b4 := cmv_le hs hSA (r := r') (by omega) (by omega)
  have b3 := hSA.at hs (r := r') (by omega) (by omega)
  have ec := hcm r' (by omega) (by omega)
  have e5 : sm (fr s n pl) (r' + 1) = sm (fr s n pl) r' + fr s n pl r' := rfl
  have e6 : fr s n pl r' = (n : Int) - pl r' - cmv s n pl r' := rfl
  rw [ec]
  refine ⟨by omega, C_newWordsBelow hC (by omega) (S_X10_word_56 t0 ⟨by omega, ?_⟩)⟩
  obtain ⟨m, hm⟩ : ∃ m : Int, m = (cmv s n pl r' : Int) + 1 + x - sm (fr s n pl) r' := ⟨_, rfl⟩
  rw [← hm] at hQ ⊢
  rw [e2]
  refine C_hold (tr_sg t0) b3.1 (by omega) (by omega) (by omega) (by omega) ha (fun k k0 k1 => by rw [e1]; have := hs (pl r' + k) (by omega) (by omega); omega) (fun h' hf h21 h3 => S_X10_word_79 ?_)
  rw [h21]
  rw [e1] at h3
  refine S_L_word_6 (hQ h' (hS.row (fun d hd => hf d (by omega) (by omega)) (by omega) (by omega) (fun k k0 k1 => ?_)) hf h21 h3)
  rw [h3 k k0 (by omega)]
  exact Or.inr (hs _ (by omega) (by omega))
theorem SIM.all {h : Hh} (hS : SIM h) : ∃ (N : Int → Nat) (S PL RA : Int → Int → Int), ∀ t, isTx h t → CT h (ta t) (N t) (S t) (PL t) (RA t) := by
  have h1 : ∀ t : Int, ∃ q : Nat × (Int → Int) × (Int → Int) × (Int → Int), isTx h t → CT h (ta t) q.1 q.2.1 q.2.2.1 q.2.2.2 := by
    intro t
    by_cases z : isTx h t
    · obtain ⟨n, s, pl, ra, hC⟩ := hS.txt z
      exact ⟨(n, s, pl, ra), fun _ => hC⟩
    · exact ⟨(0, fun _ => 0, fun _ => 0, fun _ => 0), fun y => absurd y z⟩
  obtain ⟨f, hf⟩ := Classical.skolem.mp h1
  exact ⟨fun t => (f t).1, fun t => (f t).2.1, fun t => (f t).2.2.1, fun t => (f t).2.2.2, hf⟩
/-- the checksum is told by the heap alone -/
theorem W_checksum {h : Hh} (hS : SIM h) : ∃ v : Int, ∀ {kc ks : Nat} {Q : PQ} {X : PX}, Q [aL v] (RM WM wd) h → am_V M_L_checksum kc ks 0 [aR 0] [] (RM WM wd) h Q X := by
  obtain ⟨N, S, PL, RA, hall⟩ := hS.all
  obtain ⟨M, hM⟩ : ∃ M : Nat, h 0 9 = M := ⟨(h 0 9).toNat, by have := hS.1; omega⟩
  have h8 := hS.1
  exact ⟨cks N S PL M, fun hQ => S_L_checksum_0 (S_X10_checksum_0 (C_ck_1 hM (by omega) (fun t t0 t1 => hall t ⟨t0, by omega⟩) (S_L_checksum_4 hQ) M 0 (by omega)))⟩
