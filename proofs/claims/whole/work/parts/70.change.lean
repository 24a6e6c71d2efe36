/-! A TEXT CHANGES: change, ahead, chop -/
theorem SIM.mod {h h' : Hh} {t : Int} {n : Nat} {w : Int → Int} (hS : SIM h) (z : isTx h t) (hf : ∀ d, d = 0 ∨ d = 2 ∨ d = 3 ∨ d = 75 ∨ (32 ≤ d ∧ d ≤ 71 ∧ (d < ta t ∨ ta t + 4 < d)) → h' d = h d) (h728 : h' 72 8 = h 72 8) (h729 : h' 72 9 = h 72 9) (h74 : ∀ u, u ≠ t → h' 74 u = h 74 u) (h73 : ∀ i, (i < 64 * t ∨ 64 * t + 64 ≤ i) → h' 73 i = h 73 i) (hN : NT h' (ta t) n w) (h74t : h' 74 t = n) (hms : ∀ k, 0 ≤ k → k < (n : Int) → ms h' t k = w k) : SIM h' := by
  have e0 : h' 0 = h 0 := hf 0 (by omega)
  have e2 : h' 2 = h 2 := hf 2 (by omega)
  have e3 : h' 3 = h 3 := hf 3 (by omega)
  have e75 : h' 75 = h 75 := hf 75 (by omega)
  have hz1 := z.1
  have hz2 := z.2
  obtain ⟨⟨a1, a2, a3⟩, ⟨b1, b2, b3⟩, c1, d1, f1⟩ := hS
  refine ⟨by rw [e0, h728]; exact ⟨a1, a2, a3⟩, by rw [e2, h729]; exact ⟨b1, b2, b3⟩, by rw [e2, e3, e75]; exact c1, fun u u0 u1 => ?_, fun u u0 u1 => ?_⟩
  · rw [e0] at u1
    by_cases e : u = t
    · rw [e]
      exact hN.txt h74t hms
    · refine (d1 u u0 u1).keep (fun j hj => hf _ (by unfold ta; omega)) (h74 u e) (fun k k0 k1 => ?_)
      unfold ms
      exact h73 _ (by omega)
  · rw [e0] at u0
    have := hf (ta u) (by unfold ta; omega)
    rw [this]
    exact f1 u u0 u1
theorem C_resort {kc ks : Nat} {h0 : Hh} {Q : PQ} {X : PX} {a n : Nat} {w : Int → Int} (t0 : isT a) (hn : h0 a 4 = n) (hn64 : n ≤ 64) (hs : WS w n) (hw : ∀ k, 0 ≤ k → k < (n : Int) → h0 (a + 1) k = w k) (hQ : ∀ h, (∀ d, d ≠ 6 → d ≠ 7 → d ≠ 8 → d ≠ a + 2 → d ≠ a + 3 → d ≠ a + 4 → h d = h0 d) → NT h a n w → Q [] am_R0 h) : am_V M_X1_sortEnds kc ks 0 [aR 5, aR a, aU, aU] [] am_R0 h0 Q X := by
  have hs' : WS (h0 (a + 1)) n := hs.congr (fun k k0 k1 => (hw k k0 k1).symm)
  obtain ⟨i, i8, ia⟩ := id t0
  refine L_sortEnds t0 h0 hn hn64 hs' (fun h hSF hSA hcm => hQ h (fun d d1 d2 d3 d4 d5 d6 => hSF d d1 d2 d3 d4 d5 d6) ?_)
  have ea : ∀ j, j < 2 → h (a + j) = h0 (a + j) := fun j hj => hSF _ (by omega) (by omega) (by omega) (by omega) (by omega) (by omega)
  have q0 := ea 0 (by omega)
  rw [Nat.add_zero] at q0
  have q1 := ea 1 (by omega)
  unfold NT
  rw [q0, q1]
  exact ⟨hn64, hn, hs', hw, hSA, hcm⟩
theorem T_change {kc ks : Nat} {h : Hh} {t p x : Int} (hS : SIM h) (hx : 0 ≤ x ∧ x < 65536) (hkc : 3 ≤ kc) (hks : 18 ≤ ks) : am_V M_X10_change kc ks 0 [aR 0, aI t, aI p, aI x, aU, aU] [] am_R0 h (PQok M_X11_change [aR 72, aI t, aI p, aI x, aU] aI) (PXok M_X11_change [aR 72, aI t, aI p, aI x, aU] aI [xIO, xIA]) := by
  by_cases z : isPx h t p
  · obtain ⟨n, s, pl, ra, hC, hM, hpn⟩ := z.get hS
    have p0 := z.2.1
    obtain ⟨t0, n64, hn, es, e2, e3, hs, hSA, hcm⟩ := id hC
    have tt := hM.1
    have hz2 := z.1.2
    have c8 := hS.1.2.1
    have ha : 32 ≤ ta t ∧ ta t ≤ 67 := by unfold ta; omega
    refine S_X10_change_0 ⟨by omega, C_knownWith hS z.1 hC p0 hpn (by omega) (by omega) (S_X10_change_6 t0 (C_isLetter (fun l0 l1 => S_X10_change_12 t0 ⟨fun _ => ⟨by omega, ?_⟩, fun v => absurd v (by decide)⟩) (fun l => S_X10_change_12 t0 ⟨fun v => absurd rfl v, fun _ => ⟨by omega, PX.bad 1 hS (NK.rf h) rfl fun kc ks Q X hS' k => S_X11_change_0 (M_isPlace1 hS' z (S_X11_change_7 ⟨fun _ => M_isLetter (fun y0 y1 => absurd ⟨y0, y1⟩ l) (fun _ => S_X11_change_18 ⟨fun v => absurd rfl v, fun _ => M_isWrong fun h2 m2 y2 => S_X11_change_29 ⟨fun v => absurd v (by decide), fun _ => k 0 h2 m2 y2⟩⟩), fun v => absurd v (by decide)⟩))⟩⟩)))⟩
    rw [Int.emod_eq_of_lt hx.1 hx.2]
    have hw : WS (fun k => if k = p then x else s k) n := fun k k0 k1 => by
      dsimp only
      by_cases e : k = p
      · rw [if_pos e]; exact ⟨l0, l1⟩
      · rw [if_neg e]; exact hs k k0 k1
    have sp := hs p p0 hpn
    refine C_resort (n := n) (w := fun k => if k = p then x else s k) t0 (by rw [am_st_n (Or.inl (by omega))]; exact hn) n64 hw (fun k k0 k1 => by rw [am_st_i, es]) (fun hc f1 hNT => S_X10_change_51 ⟨by rw [es]; omega, ?_⟩)
    rw [es]
    refine GM.raw fun kc ks Q X k => ?_
    obtain ⟨g, hg⟩ : ∃ g : Hh, g = am_st hc 81 0 (s p) := ⟨_, rfl⟩
    rw [← hg]
    have g81 : g 81 = am_st hc 81 0 (s p) 81 := by rw [hg]
    rw [← g81] at k
    have gc : ∀ d, d ≠ 81 → g d = hc d := fun d hd => by rw [hg, am_st_o hd]
    have gh : ∀ d, d ≠ 81 → d ≠ 6 → d ≠ 7 → d ≠ 8 → (d < ta t ∨ ta t + 4 < d) → g d = h d := fun d d1 d2 d3 d4 d5 => by rw [gc d d1, f1 d d2 d3 d4 (by omega) (by omega) (by omega), am_st_o (by omega)]
    have q : ∀ d, d ≠ 81 → 72 ≤ d → g d = h d := fun d d1 d2 => gh d d1 (by omega) (by omega) (by omega) (by omega)
    have hTg : MT g t n s := hM.of (q 73 (by decide) (by decide)) (q 74 (by decide) (by decide))
    have g8b : 0 ≤ g 72 8 ∧ g 72 8 ≤ 8 := by rw [q 72 (by decide) (by decide)]; exact hS.m8
    have gl : ∀ t, 0 ≤ t → t < g 72 8 → 0 ≤ g 74 t ∧ g 74 t ≤ 64 := by rw [q 72 (by decide) (by decide), q 74 (by decide) (by decide)]; exact hS.ln
    have gpx : (0 ≤ t ∧ t < g 72 8) ∧ 0 ≤ p ∧ p < g 74 t := by
      rw [q 72 (by decide) (by decide), q 74 (by decide) (by decide)]
      exact ⟨hS.tx8.mpr z.1, z.2⟩
    have ep := hTg.2.2.2.2 p p0 hpn
    unfold ms at ep
    refine S_X11_change_0 (L_isPlace g8b gl (fun _ => S_X11_change_7 ⟨fun _ => M_isLetter (fun _ _ => S_X11_change_18 ⟨fun _ => L_isWrong (S_X11_change_29 ⟨fun _ => ?_, fun v => absurd rfl v⟩), fun v => absurd v (by decide)⟩) (fun v => absurd ⟨l0, l1⟩ v), fun v => absurd v (by decide)⟩) (fun v => absurd gpx v))
    rw [am_st_o (h := g) (a := 72) (a' := 73) (by decide), ep, Int.emod_eq_of_lt hx.1 hx.2]
    refine ⟨by omega, k _ ?_ ?_ ?_⟩
    · rw [am_st_o (by decide), am_st_s]
    · rw [am_st_o (by decide), am_st_o (by decide)]
    · have r : ∀ d, d ≠ 72 → d ≠ 73 → am_st (am_st g 72 10 0) 73 (64 * t + p) x d = g d := fun d d1 d2 => by rw [am_st_o d2, am_st_o d1]
      refine hS.mod z.1 (n := n) (w := fun k => if k = p then x else s k) (fun d hd => by rw [r d (by omega) (by omega), gh d (by omega) (by omega) (by omega) (by omega) (by omega)]) ?_ ?_ (fun u _ => ?_) (fun i hi => ?_) (hNT.of fun j hj => by rw [r _ (by omega) (by omega), gc _ (by omega)]) ?_ (fun i i0 i1 => ?_)
      · rw [am_st_o (by decide), am_st_n (Or.inr (by decide)), q 72 (by decide) (by decide)]
      · rw [am_st_o (by decide), am_st_n (Or.inr (by decide)), q 72 (by decide) (by decide)]
      · rw [r 74 (by decide) (by decide), q 74 (by decide) (by decide)]
      · rw [am_st_n (Or.inr (by omega)), am_st_o (by decide), q 73 (by decide) (by decide)]
      · rw [r 74 (by decide) (by decide)]; exact hTg.2.2.1
      · unfold ms
        rw [am_st_i]
        by_cases e : i = p
        · rw [if_pos (by omega), if_pos e]
        · rw [if_neg (by omega), if_neg e, am_st_o (by decide)]
          exact hTg.2.2.2.2 i i0 i1
  · exact S_X10_change_0 ⟨by omega, C_knownWith0 hS z (by omega) (by omega) (PX.bad 0 hS (NK.rf h) rfl fun kc ks Q X hS' k => S_X11_change_0 (M_isPlace0 hS z (S_X11_change_7 ⟨fun v => absurd rfl v, fun _ => M_isWrong fun h2 m2 y2 => S_X11_change_29 ⟨fun v => absurd v (by decide), fun _ => k 0 h2 m2 y2⟩⟩)))⟩
/-- the ranks are kept -/
theorem M_kr_1 {kc ks : Nat} {Q : PQ} {X : PX} {t : Int} {n : Nat} {s : Int → Int} (g : Hh) (hT : MT g t n s) (hQ : ∀ h, (∀ d, d ≠ 78 → h d = g d) → (∀ p, 0 ≤ p → p < (n : Int) → h 78 p = (rk s n p : Int)) → Q [] am_R0 h) : ∀ (d i : Nat) (h : Hh), i + d = n → (∀ d, d ≠ 78 → h d = g d) → (∀ p, 0 ≤ p → p < (i : Int) → h 78 p = (rk s n p : Int)) → am_V M_X11_keepRanks kc ks 2 [aR 72, aI t, aI i] [] am_R0 h Q X := by
  have h64 := hT.2.1
  intro d
  induction d with
  | zero =>
    intro i h hi hf hz
    have : i = n := by omega
    subst this
    have e := (hT.of (hf 73 (by decide)) (hf 74 (by decide))).2.2.1
    exact S_X11_keepRanks_2 ⟨hT.1, fun _ => hQ h hf hz, fun z => absurd z (by omega)⟩
  | succ d ih =>
    intro i h hi hf hz
    have hT' := hT.of (hf 73 (by decide)) (hf 74 (by decide))
    have e := hT'.2.2.1
    refine S_X11_keepRanks_2 ⟨hT.1, fun z => absurd z (by omega), fun _ => M_rank hT' (by omega) (by omega) (S_X11_keepRanks_23 ⟨by omega, ih (i + 1) _ (by omega) (fun d hd => by rw [am_st_o hd]; exact hf d hd) (fun p p0 p1 => ?_)⟩)⟩
    rw [am_st_i]
    by_cases y : p = i
    · rw [if_pos y, y]
    · rw [if_neg y]
      exact hz p p0 (by omega)
theorem M_keepRanks {kc ks : Nat} {g : Hh} {Q : PQ} {X : PX} {t : Int} {n : Nat} {s : Int → Int} (hT : MT g t n s) (hQ : ∀ h, (∀ d, d ≠ 78 → h d = g d) → (∀ p, 0 ≤ p → p < (n : Int) → h 78 p = (rk s n p : Int)) → Q [] am_R0 h) : am_V M_X11_keepRanks kc ks 0 [aR 72, aI t, aU] [] am_R0 g Q X :=
  S_X11_keepRanks_0 (M_kr_1 g hT hQ n 0 g (by omega) (fun _ _ => rfl) (fun p p0 p1 => by omega))
/-- the text with a sign ahead -/
def cns (x : Int) (s : Int → Int) (i : Int) : Int := if i = 0 then x else s (i - 1)
theorem C_pa_1 {kc ks : Nat} {Q : PQ} {X : PX} {a n : Nat} (t0 : isT a) {s : Int → Int} {x : Int} (hn64 : n < 64) (hx : 0 ≤ x ∧ x < 65536) (hs : WS s n) (h0 : Hh) (h4 : h0 a 4 = n) (hQ : ∀ h, (∀ d, d ≠ a → d ≠ a + 1 → h d = h0 d) → h a 4 = (n : Int) + 1 → (∀ k, 0 ≤ k → k < (n : Int) + 1 → h (a + 1) k = cns x s k) → Q [] am_R0 h) : ∀ (i : Nat) (h : Hh), i ≤ n → (∀ d, d ≠ a + 1 → h d = h0 d) → (∀ k, 0 ≤ k → k < (i : Int) → h (a + 1) k = s k) → (∀ k, (i : Int) < k → k ≤ n → h (a + 1) k = s (k - 1)) → am_V M_X6_putAhead kc ks 17 [aR a, aI x, aI i] [] am_R0 h Q X := by
  intro i
  induction i with
  | zero =>
    intro h hi hf hlo hhi
    refine S_X6_putAhead_17 t0 ⟨fun _ => ?_, fun z => absurd z (by omega)⟩
    rw [Int.emod_eq_of_lt hx.1 hx.2, am_st_n (h := h) (a := a + 1) (a' := a) (Or.inl (by omega)), hf a (by omega), h4]
    refine ⟨by omega, hQ _ (fun d d1 d2 => by rw [am_st_o d1, am_st_o d2]; exact hf d d2) am_st_s (fun k k0 k1 => ?_)⟩
    rw [am_st_o (by omega), am_st_i]
    unfold cns
    by_cases e : k = 0
    · rw [if_pos e, if_pos e]
    · rw [if_neg e, if_neg e]
      exact hhi k (by omega) (by omega)
  | succ i ih =>
    intro h hi hf hlo hhi
    have e := hlo i (by omega) (by omega)
    have sg := hs i (by omega) (by omega)
    refine S_X6_putAhead_17 t0 ⟨fun z => absurd z (by omega), fun _ => ?_⟩
    rw [show ((i + 1 : Nat) : Int) - 1 = i by omega, e, Int.emod_eq_of_lt (by omega) (by omega), show ((i + 1 : Nat) : Int) + -1 = i by omega]
    refine ⟨by omega, ih _ (by omega) (fun d d1 => by rw [am_st_o d1]; exact hf d d1) (fun k k0 k1 => ?_) (fun k k0 k1 => ?_)⟩
    · rw [am_st_n (Or.inr (by omega))]
      exact hlo k k0 (by omega)
    · rw [am_st_i]
      by_cases y : k = ((i + 1 : Nat) : Int)
      · rw [if_pos y, y, show ((i + 1 : Nat) : Int) - 1 = i by omega]
      · rw [if_neg y]
        exact hhi k (by omega) k1
theorem C_df_1 {kc ks : Nat} {Q : PQ} {X : PX} {a n : Nat} (t0 : isT a) {s : Int → Int} (hn64 : n ≤ 64) (n0 : 0 < n) (hs : WS s n) (h0 : Hh) (h4 : h0 a 4 = n) (hQ : ∀ h, (∀ d, d ≠ a → d ≠ a + 1 → h d = h0 d) → h a 4 = (n : Int) - 1 → (∀ k, 0 ≤ k → k < (n : Int) - 1 → h (a + 1) k = s (k + 1)) → Q [] am_R0 h) : ∀ (d : Nat) (i : Int) (h : Hh), i + d = n → 1 ≤ i → (∀ d, d ≠ a + 1 → h d = h0 d) → (∀ k, 0 ≤ k → k < i - 1 → h (a + 1) k = s (k + 1)) → (∀ k, i ≤ k → k < (n : Int) → h (a + 1) k = s k) → am_V M_X6_dropFirst kc ks 2 [aR a, aI i] [] am_R0 h Q X := by
  intro d
  induction d with
  | zero =>
    intro i h hi i1 hf hlo hhi
    have e4 : h a 4 = n := by rw [hf a (by omega)]; exact h4
    refine S_X6_dropFirst_2 t0 ⟨fun _ => ⟨fun z => absurd z (by omega), fun _ => ?_⟩, fun z => absurd z (by omega)⟩
    rw [e4]
    exact ⟨by omega, hQ _ (fun d d1 d2 => by rw [am_st_o d1]; exact hf d d2) am_st_s (fun k k0 k1 => by rw [am_st_o (by omega)]; exact hlo k k0 (by omega))⟩
  | succ d ih =>
    intro i h hi i1 hf hlo hhi
    have e4 : h a 4 = n := by rw [hf a (by omega)]; exact h4
    have e := hhi i (Int.le_refl _) (by omega)
    have sg := hs i (by omega) (by omega)
    refine S_X6_dropFirst_2 t0 ⟨fun z => absurd z (by omega), fun _ => ?_⟩
    rw [e, Int.emod_eq_of_lt (by omega) (by omega)]
    refine ⟨by omega, ih (i + 1) _ (by omega) (by omega) (fun d d1 => by rw [am_st_o d1]; exact hf d d1) (fun k k0 k1 => ?_) (fun k k0 k1 => ?_)⟩
    · rw [am_st_i]
      by_cases y : k = i - 1
      · rw [if_pos y, y, show i - 1 + 1 = i by omega]
      · rw [if_neg y]
        exact hlo k k0 (by omega)
    · rw [am_st_n (Or.inr (by omega))]
      exact hhi k (by omega) k1
theorem cns_WS {s : Int → Int} {n : Nat} {x : Int} (hs : WS s n) (l0 : 97 ≤ x) (l1 : x ≤ 122) : WS (cns x s) ((n + 1 : Nat) : Int) := fun k k0 k1 => by
  unfold cns
  by_cases e : k = 0
  · rw [if_pos e]; exact ⟨l0, l1⟩
  · rw [if_neg e]; exact hs (k - 1) (by omega) (by omega)
/-- the model counts what moved -/
theorem M_ah_2 {kc ks : Nat} {h : Hh} {Q : PQ} {X : PX} {t : Int} {n : Nat} {x y : Int → Int} (hT : MT h t (n + 1) x) (h78 : ∀ p, 0 ≤ p → p < (n : Int) → h 78 p = (rk y n p : Int)) (hQ : Q [aI (cnt (fun p => (rk y n p : Int) ≠ rk x ((n + 1 : Nat) : Int) (p + 1)) n)] am_R0 h) : ∀ (d i : Nat), i + d = n → am_V M_X11_ahead kc ks 121 [aR 72, aI t, aU, aI (cnt (fun p => (rk y n p : Int) ≠ rk x ((n + 1 : Nat) : Int) (p + 1)) i), aI ((i : Int) + 1)] [] am_R0 h Q X := by
  have h64 := hT.2.1
  have hn := hT.2.2.1
  intro d
  induction d with
  | zero =>
    intro i hi
    have : i = n := by omega
    subst this
    exact S_X11_ahead_121 ⟨hT.1, fun _ => hQ, fun z => absurd z (by omega)⟩
  | succ d ih =>
    intro i hi
    have hle := cnt_le (fun p => (rk y n p : Int) ≠ rk x ((n + 1 : Nat) : Int) (p + 1)) i
    have hnext := ih (i + 1) (by omega)
    have e := h78 i (by omega) (by omega)
    refine S_X11_ahead_121 ⟨hT.1, fun z => absurd z (by omega), fun _ => M_rank hT (by omega) (by omega) (S_X11_ahead_140 ?_)⟩
    rw [show (i : Int) + 1 - 1 = i by omega, e]
    refine ⟨by omega, fun z => ⟨by omega, ?_⟩, fun z => ⟨by omega, ?_⟩⟩
    · rw [cnt_t (P := fun p => (rk y n p : Int) ≠ rk x ((n + 1 : Nat) : Int) (p + 1)) (fun w => z w.symm)] at hnext
      exact hnext
    · rw [cnt_f (P := fun p => (rk y n p : Int) ≠ rk x ((n + 1 : Nat) : Int) (p + 1)) (fun w => w z.symm)] at hnext
      rw [Int.add_zero]
      exact hnext
theorem M_ah_1 {kc ks : Nat} {Q : PQ} {X : PX} {t : Int} {n : Nat} {s : Int → Int} {x : Int} (g : Hh) (hT : MT g t n s) (hn64 : n < 64) (l0 : 97 ≤ x) (l1 : x ≤ 122) (g78 : ∀ p, 0 ≤ p → p < (n : Int) → g 78 p = (rk s n p : Int)) (hQ : ∀ h, (∀ d, d ≠ 73 → d ≠ 74 → h d = g d) → (∀ u, u ≠ t → h 74 u = g 74 u) → (∀ i, (i < 64 * t ∨ 64 * t + 64 ≤ i) → h 73 i = g 73 i) → MT h t (n + 1) (cns x s) → Q [aI (cnt (fun p => (rk s n p : Int) ≠ rk (cns x s) ((n + 1 : Nat) : Int) (p + 1)) n)] am_R0 h) : ∀ (i : Nat) (h : Hh), i ≤ n → (∀ d, d ≠ 73 → h d = g d) → (∀ j, (j < 64 * t ∨ 64 * t + 64 ≤ j) → h 73 j = g 73 j) → (∀ k, 0 ≤ k → k < (i : Int) → ms h t k = s k) → (∀ k, (i : Int) < k → k ≤ n → ms h t k = s (k - 1)) → am_V M_X11_ahead kc ks 60 [aR 72, aI t, aI x, aI i, aU] [] am_R0 h Q X := by
  have ht := hT.1
  have hs := hT.2.2.2.1
  intro i
  induction i with
  | zero =>
    intro h hi hf hout hlo hhi
    have e74 : h 74 t = n := by rw [hf 74 (by decide)]; exact hT.2.2.1
    refine S_X11_ahead_60 ⟨fun _ => ?_, fun z => absurd z (by omega)⟩
    rw [Int.emod_eq_of_lt (by omega) (by omega), am_st_o (h := h) (a := 73) (a' := 74) (by decide), e74]
    obtain ⟨h2, hh2⟩ : ∃ h2 : Hh, h2 = am_st (am_st h 73 (64 * t + 0) x) 74 t ((n : Int) + 1) := ⟨_, rfl⟩
    rw [← hh2]
    have f2 : ∀ d, d ≠ 73 → d ≠ 74 → h2 d = g d := fun d d1 d2 => by rw [hh2, am_st_o d2, am_st_o d1]; exact hf d d1
    have hT2 : MT h2 t (n + 1) (cns x s) := by
      refine ⟨hT.1, by omega, by rw [hh2, am_st_s]; omega, cns_WS hs l0 l1, fun k k0 k1 => ?_⟩
      unfold ms cns
      rw [hh2, am_st_o (by decide), am_st_i]
      by_cases e : k = 0
      · rw [if_pos (by omega), if_pos e]
      · rw [if_neg (by omega), if_neg e]
        exact hhi k (by omega) (by omega)
    have h78 : ∀ p, 0 ≤ p → p < (n : Int) → h2 78 p = (rk s n p : Int) := fun p p0 p1 => by rw [f2 78 (by decide) (by decide)]; exact g78 p p0 p1
    exact ⟨by omega, M_ah_2 hT2 h78 (hQ h2 f2 (fun u hu => by rw [hh2, am_st_n (Or.inr hu), am_st_o (by decide), hf 74 (by decide)]) (fun j hj => by rw [hh2, am_st_o (by decide), am_st_n (Or.inr (by omega))]; exact hout j hj) hT2) n 0 (by omega)⟩
  | succ i ih =>
    intro h hi hf hout hlo hhi
    have e := hlo i (by omega) (by omega)
    have sg := hs i (by omega) (by omega)
    unfold ms at e
    refine S_X11_ahead_60 ⟨fun z => absurd z (by omega), fun _ => ?_⟩
    rw [show 64 * t + ((i + 1 : Nat) : Int) - 1 = 64 * t + i by omega, e, Int.emod_eq_of_lt (by omega) (by omega), show ((i + 1 : Nat) : Int) + -1 = i by omega]
    refine ⟨by omega, ih _ (by omega) (fun d d1 => by rw [am_st_o d1]; exact hf d d1) (fun j hj => by rw [am_st_n (Or.inr (by omega))]; exact hout j hj) (fun k k0 k1 => ?_) (fun k k0 k1 => ?_)⟩
    · unfold ms
      rw [am_st_n (Or.inr (by omega))]
      exact hlo k k0 (by omega)
    · unfold ms
      rw [am_st_i]
      by_cases y : k = ((i + 1 : Nat) : Int)
      · rw [if_pos (by omega), y, show ((i + 1 : Nat) : Int) - 1 = i by omega]
      · rw [if_neg (by omega)]
        exact hhi k (by omega) k1
theorem T_ahead {kc ks : Nat} {h : Hh} {t x : Int} (hS : SIM h) (hx : 0 ≤ x ∧ x < 65536) (hkc : 2 ≤ kc) (hks : 12 ≤ ks) : am_V M_X10_ahead kc ks 0 [aR 0, aI t, aI x, aU] [] am_R0 h (PQok M_X11_ahead [aR 72, aI t, aI x, aU, aU] aI) (PXok M_X11_ahead [aR 72, aI t, aI x, aU, aU] aI [xIO, xIA, xIS]) := by
  by_cases z : isTx h t
  · obtain ⟨n, s, pl, ra, hC, hM⟩ := hS.txt z
    obtain ⟨t0, n64, hn, es, e2, e3, hs, hSA, hcm⟩ := id hC
    have tt := hM.1
    have hz2 := z.2
    have c8 := hS.1.2.1
    have ha : 32 ≤ ta t ∧ ta t ≤ 67 := by unfold ta; omega
    have e74 := hM.2.2.1
    refine S_X10_ahead_0 ⟨by omega, C_known hS z (by omega) (by omega) (S_X10_ahead_5 t0 (C_isLetter (fun l0 l1 => S_X10_ahead_10 t0 ⟨fun _ => ⟨fun w => ?_, fun w => ⟨by omega, PX.bad 2 hS (NK.rf h) rfl fun kc ks Q X hS' k => S_X11_ahead_0 (M_isText1 hS' z (S_X11_ahead_6 ⟨fun _ => M_isLetter (fun _ _ => S_X11_ahead_17 ⟨fun _ => ⟨tt, fun v => absurd v (by omega), fun _ => M_isWrong fun h2 m2 y2 => S_X11_ahead_43 ⟨fun v => absurd v (by decide), fun _ => k 0 h2 m2 y2⟩⟩, fun v => absurd v (by decide)⟩) (fun v => absurd ⟨l0, l1⟩ v), fun v => absurd v (by decide)⟩))⟩⟩, fun v => absurd v (by decide)⟩) (fun l => S_X10_ahead_10 t0 ⟨fun v => absurd rfl v, fun _ => ⟨by omega, PX.bad 1 hS (NK.rf h) rfl fun kc ks Q X hS' k => S_X11_ahead_0 (M_isText1 hS' z (S_X11_ahead_6 ⟨fun _ => M_isLetter (fun y0 y1 => absurd ⟨y0, y1⟩ l) (fun _ => S_X11_ahead_17 ⟨fun v => absurd rfl v, fun _ => M_isWrong fun h2 m2 y2 => S_X11_ahead_43 ⟨fun v => absurd v (by decide), fun _ => k 0 h2 m2 y2⟩⟩), fun v => absurd v (by decide)⟩))⟩⟩)))⟩
    have hn64 : n < 64 := by omega
    refine S_X6_putAhead_0 t0 ⟨fun v => absurd v (by omega), fun _ => ?_⟩
    rw [hn]
    refine C_pa_1 t0 hn64 hx hs h hn (fun h1 f1 z1 z2 => S_X10_ahead_47 t0 (C_resort (n := n + 1) (w := cns x s) t0 (by rw [z1]; omega) (by omega) (cns_WS hs l0 l1) (fun k k0 k1 => z2 k k0 (by omega)) (fun hc f2 hNT => S_X10_ahead_55 t0 (S_X6_endsAboveWhole_0 t0 ?_)))) n h (by omega) (fun _ _ => rfl) (fun k k0 k1 => by rw [es]) (fun k k0 k1 => by omega)
    obtain ⟨-, q4, qs, qw, qSA, qcm⟩ := id hNT
    have qr : hc (ta t + 3) 0 = rk (cns x s) ((n + 1 : Nat) : Int) 0 := by
      rw [(qSA 0 (by omega) (by omega)).1, rk_congr qw (by omega)]
    have b0 := rk_bd (s := cns x s) (n := ((n + 1 : Nat) : Int)) (p := 0) (by omega) (by omega)
    have hmv := mvd (x := cns x s) (y := s) (n := n) (cns_WS hs l0 l1) (fun i i0 i1 => by unfold cns; rw [if_neg (by omega), show i + 1 - 1 = i by omega]) (qSA.congr qw)
    rw [q4, qr]
    refine ⟨by omega, S_X10_ahead_59 ?_⟩
    rw [show ((n + 1 : Nat) : Int) - 1 - rk (cns x s) ((n + 1 : Nat) : Int) 0 = cnt (fun p => (rk s n p : Int) ≠ rk (cns x s) ((n + 1 : Nat) : Int) (p + 1)) n by omega]
    refine GM.raw fun kc ks Q X k => ?_
    obtain ⟨g, hg⟩ : ∃ g : Hh, g = am_st hc 81 0 (cnt (fun p => (rk s n p : Int) ≠ rk (cns x s) ((n + 1 : Nat) : Int) (p + 1)) n) := ⟨_, rfl⟩
    rw [← hg]
    have g81 : g 81 = am_st hc 81 0 (cnt (fun p => (rk s n p : Int) ≠ rk (cns x s) ((n + 1 : Nat) : Int) (p + 1)) n) 81 := by rw [hg]
    rw [← g81] at k
    have gc : ∀ d, d ≠ 81 → g d = hc d := fun d hd => by rw [hg, am_st_o hd]
    have gh : ∀ d, d ≠ 81 → d ≠ 6 → d ≠ 7 → d ≠ 8 → (d < ta t ∨ ta t + 4 < d) → g d = h d := fun d d1 d2 d3 d4 d5 => by rw [gc d d1, f2 d d2 d3 d4 (by omega) (by omega) (by omega), f1 d (by omega) (by omega)]
    have q : ∀ d, d ≠ 81 → 72 ≤ d → g d = h d := fun d d1 d2 => gh d d1 (by omega) (by omega) (by omega) (by omega)
    have hTg : MT g t n s := hM.of (q 73 (by decide) (by decide)) (q 74 (by decide) (by decide))
    have g8b : 0 ≤ g 72 8 ∧ g 72 8 ≤ 8 := by rw [q 72 (by decide) (by decide)]; exact hS.m8
    have gtx : 0 ≤ t ∧ t < g 72 8 := by rw [q 72 (by decide) (by decide)]; exact hS.tx8.mpr z
    have g74 := hTg.2.2.1
    have hTg2 : MT (am_st g 72 10 0) t n s := hTg.of (am_st_o (by decide)) (am_st_o (by decide))
    have fin : am_V M_X11_ahead kc ks 43 [aR 72, aI t, aI x, aU, aU] [aI (if (0 : Int) = 0 then 0 else 1)] am_R0 (am_st g 72 10 0) Q X := by
      refine S_X11_ahead_43 ⟨fun _ => M_keepRanks hTg2 (fun h3 f3 h78 => S_X11_ahead_53 ⟨tt, ?_⟩), fun v => absurd rfl v⟩
      have hT3 : MT h3 t n s := hTg2.of (f3 73 (by decide)) (f3 74 (by decide))
      rw [hT3.2.2.1]
      refine M_ah_1 h3 hT3 hn64 l0 l1 h78 (fun h4 f4 f74 f73 hT4 => k h4 ?_ ?_ ?_) n h3 (by omega) (fun _ _ => rfl) (fun _ _ => rfl) (fun i i0 i1 => hT3.2.2.2.2 i i0 i1) (fun i i0 i1 => by omega)
      · rw [f4 72 (by decide) (by decide), f3 72 (by decide), am_st_s]
      · rw [f4 81 (by decide) (by decide), f3 81 (by decide), am_st_o (by decide)]
      · have r : ∀ d, d ≠ 72 → d ≠ 73 → d ≠ 74 → d ≠ 78 → h4 d = g d := fun d d1 d2 d3 d4 => by rw [f4 d d2 d3, f3 d d4, am_st_o d1]
        refine hS.mod z (n := n + 1) (w := cns x s) (fun d hd => by rw [r d (by omega) (by omega) (by omega) (by omega), gh d (by omega) (by omega) (by omega) (by omega) (by omega)]) ?_ ?_ (fun u hu => ?_) (fun i hi => ?_) (hNT.of fun j hj => by rw [r _ (by omega) (by omega) (by omega) (by omega), gc _ (by omega)]) hT4.2.2.1 (fun i i0 i1 => hT4.2.2.2.2 i i0 i1)
        · rw [f4 72 (by decide) (by decide), f3 72 (by decide), am_st_n (Or.inr (by decide)), q 72 (by decide) (by decide)]
        · rw [f4 72 (by decide) (by decide), f3 72 (by decide), am_st_n (Or.inr (by decide)), q 72 (by decide) (by decide)]
        · rw [f74 u hu, f3 74 (by decide), am_st_o (by decide), q 74 (by decide) (by decide)]
        · rw [f73 i hi, f3 73 (by decide), am_st_o (by decide), q 73 (by decide) (by decide)]
    exact S_X11_ahead_0 (L_isText g8b (fun _ => S_X11_ahead_6 ⟨fun _ => M_isLetter (fun _ _ => S_X11_ahead_17 ⟨fun _ => ⟨tt, fun _ => L_isWrong fin, fun v => absurd v (by omega)⟩, fun v => absurd v (by decide)⟩) (fun v => absurd ⟨l0, l1⟩ v), fun v => absurd v (by decide)⟩) (fun v => absurd gtx v))
  · exact S_X10_ahead_0 ⟨by omega, C_known0 hS z (by omega) (by omega) (PX.bad 0 hS (NK.rf h) rfl fun kc ks Q X hS' k => S_X11_ahead_0 (M_isText0 hS z (S_X11_ahead_6 ⟨fun v => absurd rfl v, fun _ => M_isWrong fun h2 m2 y2 => S_X11_ahead_43 ⟨fun v => absurd v (by decide), fun _ => k 0 h2 m2 y2⟩⟩)))⟩
