/-! undo -/
/-- what the model's comparison writes -/
def LY (g h : Hh) (M : Int) : Prop := (∀ d, d ≠ 72 → d ≠ 73 → d ≠ 74 → d ≠ 76 → d ≠ 77 → h d = g d) ∧ (h 72 8 = g 72 8 ∧ h 72 9 = g 72 9) ∧ (∀ t, t ≠ M → h 74 t = g 74 t) ∧ ∀ i, i < 64 * M → h 73 i = g 73 i
theorem LY.sim {g h : Hh} {M : Int} (hS : SIM g) (hM : g 0 9 = M) (hL : LY g h M) : SIM h := by
  obtain ⟨l1, ⟨l2, l3⟩, l4, l5⟩ := hL
  obtain ⟨⟨a1, a2, a3⟩, ⟨b1, b2, b3⟩, c, d1, f1⟩ := hS
  have k0 : h 0 = g 0 := l1 0 (by decide) (by decide) (by decide) (by decide) (by decide)
  have k2 : h 2 = g 2 := l1 2 (by decide) (by decide) (by decide) (by decide) (by decide)
  have k3 : h 3 = g 3 := l1 3 (by decide) (by decide) (by decide) (by decide) (by decide)
  have k75 : h 75 = g 75 := l1 75 (by decide) (by decide) (by decide) (by decide) (by decide)
  unfold SIM
  rw [k0, k2, k3, k75, l2, l3]
  refine ⟨⟨a1, a2, a3⟩, ⟨b1, b2, b3⟩, c, fun t t0 t1 => ?_, fun t t0 t1 => ?_⟩
  · refine (d1 t t0 t1).keep (fun j hj => by rw [l1 _ (by unfold ta; omega) (by unfold ta; omega) (by unfold ta; omega) (by unfold ta; omega) (by unfold ta; omega)]) (l4 t (by omega)) (fun k k0 k1 => ?_)
    unfold ms
    exact l5 _ (by omega)
  · rw [l1 _ (by unfold ta; omega) (by unfold ta; omega) (by unfold ta; omega) (by unfold ta; omega) (by unfold ta; omega)]
    exact f1 t t0 t1
theorem M_ly_66 {kc ks : Nat} {h : Hh} {Q : PQ} {X : PX} {m : Nat} {w : Int → Int} {x2 : Int} (hm65 : m ≤ 65) (h9 : h 72 9 = m) (hw : ∀ i, 0 ≤ i → i < (m : Int) → h 75 i = w i) {p : Int} (p0 : 0 ≤ p) (p1 : p < m) (hx2 : -2147483648 ≤ x2 + -1 ∧ x2 + -1 < 2147483648) (hQ : am_V M_X11_lays kc ks 24 [aR 72, aI (LFm w m p), aI (x2 + -1), aU, aU] [] am_R0 h Q X) : ∀ (d i : Nat), i + d = m → am_V M_X11_lays kc ks 66 [aR 72, aI p, aI x2, aI (cnt (fun j => w j < w p ∨ w j = w p ∧ j < p) i), aI i] [] am_R0 h Q X := by
  intro d
  induction d with
  | zero =>
    intro i hi
    have : i = m := by omega
    subst this
    exact S_X11_lays_66 ⟨fun _ => ⟨hx2, hQ⟩, fun z => absurd z (by omega)⟩
  | succ d ih =>
    intro i hi
    have hle := cnt_le (fun j => w j < w p ∨ w j = w p ∧ j < p) i
    have hnext := ih (i + 1) (by omega)
    have yes : (w i < w p ∨ w i = w p ∧ (i : Int) < p) → am_V M_X11_lays kc ks 66 [aR 72, aI p, aI x2, aI (cnt (fun j => w j < w p ∨ w j = w p ∧ j < p) i + 1), aI ((i : Int) + 1)] [] am_R0 h Q X := fun z => by
      rw [cnt_t (P := fun j => w j < w p ∨ w j = w p ∧ j < p) z] at hnext
      exact hnext
    have no : ¬ (w i < w p ∨ w i = w p ∧ (i : Int) < p) → am_V M_X11_lays kc ks 66 [aR 72, aI p, aI x2, aI (cnt (fun j => w j < w p ∨ w j = w p ∧ j < p) i + 0), aI ((i : Int) + 1)] [] am_R0 h Q X := fun z => by
      rw [cnt_f (P := fun j => w j < w p ∨ w j = w p ∧ j < p) z] at hnext
      rw [Int.add_zero]
      exact hnext
    refine S_X11_lays_66 ⟨fun z => absurd z (by omega), fun _ => ?_⟩
    rw [hw i (by omega) (by omega), hw p p0 p1]
    exact ⟨by omega, fun z => ⟨by omega, yes (Or.inl z)⟩, fun z => ⟨by omega, fun y => ⟨by omega, no (by omega)⟩, fun y => ⟨fun x => ⟨by omega, no (by omega)⟩, fun x => ⟨by omega, yes (by omega)⟩⟩⟩⟩
theorem M_ly_145 {kc ks : Nat} {h : Hh} {Q : PQ} {X : PX} {t : Int} {n : Nat} {T pl ra w : Int → Int} (hT : MT h t n T) (hSA : SA T n pl ra) (h8 : h 72 8 = t) (h9 : h 72 9 = (n : Int) + 1) (hw : ∀ i, 0 ≤ i → i < (n : Int) + 1 → h 75 i = w i) (h77 : ∀ r, 0 ≤ r → r ≤ (n : Int) → h 77 r = tp n pl r) (hQ1 : (∀ r, 0 ≤ r → r ≤ (n : Int) → LSg T n pl r = w r) → Q [aI 1] am_R0 h) (hQ0 : ¬ (∀ r, 0 ≤ r → r ≤ (n : Int) → LSg T n pl r = w r) → Q [aI 0] am_R0 h) : ∀ (d i : Nat), i + d = n + 1 → (∀ r, 0 ≤ r → r < (i : Int) → LSg T n pl r = w r) → am_V M_X11_lays kc ks 145 [aR 72, aU, aI i, aU, aU] [] am_R0 h Q X := by
  have h64 := hT.2.1
  intro d
  induction d with
  | zero =>
    intro i hi hz
    exact S_X11_lays_145 ⟨fun _ => hQ1 (fun r r0 r1 => hz r r0 (by omega)), fun z => absurd z (by omega)⟩
  | succ d ih =>
    intro i hi hz
    refine S_X11_lays_145 ⟨fun z => absurd z (by omega), fun _ => ?_⟩
    rw [h8]
    refine M_lastAt hT hSA h77 (by omega) (by omega) (S_X11_lays_162 ?_)
    rw [hw i (by omega) (by omega)]
    refine ⟨by omega, fun z => ⟨by omega, ih (i + 1) (by omega) (fun r r0 r1 => ?_)⟩, fun z => hQ0 (fun y => z (y i (by omega) (by omega)))⟩
    by_cases e : r = i
    · rw [e]; exact z
    · exact hz r r0 (by omega)
theorem M_ly_24 {kc ks : Nat} {Q : PQ} {X : PX} {M : Int} {n : Nat} {w : Int → Int} (hM0 : 0 ≤ M) (hM8 : M ≤ 8) (h64 : n ≤ 64) (hty : tys w ((n + 1 : Nat) : Int)) (g : Hh) (h8 : g 72 8 = M) (h9 : g 72 9 = (n : Int) + 1) (hw : ∀ i, 0 ≤ i → i < ((n + 1 : Nat) : Int) → g 75 i = w i) (hQ1 : ∀ h : Hh, LY g h M → h 72 10 = g 72 10 → cnt (fun i => w i = 36) (n + 1) = 1 → WOK w n → h 74 M = n → (∀ k, 0 ≤ k → k < (n : Int) → h 73 (64 * M + k) = wt w n k) → Q [aI 1] am_R0 h) (hQ0 : ∀ h : Hh, LY g h M → ¬ (cnt (fun i => w i = 36) (n + 1) = 1 ∧ WOK w n) → Q [aI 0] am_R0 h) : ∀ (d j : Nat) (h : Hh), j + d = n → (∀ d, d ≠ 73 → d ≠ 74 → h d = g d) → (∀ t, t ≠ M → h 74 t = g 74 t) → h 74 M = n → (∀ i, i < 64 * M → h 73 i = g 73 i) → (∀ i : Nat, i < j → w (wk w (n + 1) i) ≠ 36 ∧ h 73 (64 * M + ((n : Int) - 1 - i)) = w (wk w (n + 1) i)) → am_V M_X11_lays kc ks 24 [aR 72, aI (wk w (n + 1) j), aI ((n : Int) - 1 - j), aU, aU] [] am_R0 h Q X := by
  intro d
  induction d with
  | zero =>
    intro j h hj hf h74 hn hlow hz
    have : j = n := by omega
    subst this
    have e72 := hf 72 (by decide) (by decide)
    have hok : WOK w j := fun i hi => (hz i hi).1
    have hT : ∀ k, 0 ≤ k → k < (j : Int) → h 73 (64 * M + k) = wt w j k := fun k k0 k1 => by
      have := (hz ((j : Int) - 1 - k).toNat (by omega)).2
      rw [show (j : Int) - 1 - ((((j : Int) - 1 - k).toNat : Nat) : Int) = k by omega] at this
      exact this
    have hs := wt_ws hty hok
    obtain ⟨pl, ra, hSA⟩ := SA_ex hs
    have hMT : MT h M j (wt w j) := ⟨by omega, h64, hn, hs, hT⟩
    refine S_X11_lays_24 ⟨fun _ => ?_, fun z => absurd z (by omega)⟩
    rw [e72, h8]
    refine M_turns hMT hSA (fun h2 f2 h77 => S_X11_lays_143 ?_)
    have hL : LY g h2 M := ⟨fun d d1 d2 d3 d4 d5 => by rw [f2 d d5, hf d d2 d3], ⟨by rw [f2 72 (by decide), e72], by rw [f2 72 (by decide), e72]⟩, fun t ht => by rw [f2 74 (by decide)]; exact h74 t ht, fun i hi => by rw [f2 73 (by decide)]; exact hlow i hi⟩
    have hb : (∀ r, 0 ≤ r → r ≤ (j : Int) → LSg (wt w j) j pl r = w r) ↔ cnt (fun i => w i = 36) (j + 1) = 1 ∧ WOK w j := by
      constructor
      · intro y
        exact ⟨(cnt_congr (j + 1) (fun i i0 i1 => by rw [y i i0 (by omega)])).trans (LSg_one hs hSA), hok⟩
      · intro y
        exact bwt_back hty y.1 y.2 (fun l hl => by unfold wt; rw [show ((j : Int) - 1 - ((j : Int) - 1 - l)).toNat = l by omega]) hs hSA
    refine M_ly_145 (w := w) (hMT.of (f2 73 (by decide)) (f2 74 (by decide))) hSA (by rw [f2 72 (by decide), e72]; exact h8) (by rw [f2 72 (by decide), e72]; exact h9) (fun i i0 i1 => by rw [f2 75 (by decide), hf 75 (by decide) (by decide)]; exact hw i i0 (by omega)) h77 (fun y => ?_) (fun y => hQ0 h2 hL (fun v => y (hb.mpr v))) (j + 1) 0 (by omega) (fun r r0 r1 => by omega)
    have := hb.mp y
    exact hQ1 h2 hL (by rw [f2 72 (by decide), e72]) this.1 this.2 (by rw [f2 74 (by decide)]; exact hn) (fun k k0 k1 => by rw [f2 73 (by decide)]; exact hT k k0 k1)
  | succ d ih =>
    intro j h hj hf h74 hn hlow hz
    have b := wk_bd (w := w) (m := n + 1) (by omega) j
    have e72 := hf 72 (by decide) (by decide)
    have e75 := hf 75 (by decide) (by decide)
    have ew : h 75 (wk w (n + 1) j) = w (wk w (n + 1) j) := by rw [e75]; exact hw _ b.1 b.2
    have ety := hty _ b.1 b.2
    refine S_X11_lays_24 ⟨fun z => absurd z (by omega), fun _ => ?_⟩
    rw [ew]
    refine ⟨by omega, fun z => ?_, fun z => hQ0 h ⟨fun d d1 d2 d3 d4 d5 => hf d d2 d3, ⟨by rw [e72], by rw [e72]⟩, h74, hlow⟩ (fun y => y.2 j (by omega) z)⟩
    rw [Int.emod_eq_of_lt (by omega) (by omega), e72, h8]
    have hnext := ih (j + 1) (am_st h 73 (64 * M + ((n : Int) - 1 - j)) (w (wk w (n + 1) j))) (by omega) (fun d d1 d2 => by rw [am_st_o d1]; exact hf d d1 d2) (fun t ht => by rw [am_st_o (by decide)]; exact h74 t ht) (by rw [am_st_o (by decide)]; exact hn) (fun i hi => by rw [am_st_n (Or.inr (by omega))]; exact hlow i hi) (fun i hi => ?_)
    · rw [show (n : Int) - 1 - ((j + 1 : Nat) : Int) = (n : Int) - 1 - j + -1 by omega] at hnext
      refine ⟨by omega, ?_⟩
      have := M_ly_66 (kc := kc) (ks := ks) (Q := Q) (X := X) (h := am_st h 73 (64 * M + ((n : Int) - 1 - j)) (w (wk w (n + 1) j))) (m := n + 1) (w := w) (x2 := (n : Int) - 1 - j) (by omega) (by rw [am_st_o (by decide), e72, h9]; omega) (fun i i0 i1 => by rw [am_st_o (by decide), e75]; exact hw i i0 i1) b.1 b.2 (by omega) hnext (n + 1) 0 (by omega)
      exact this
    · rw [am_st_i]
      by_cases e : i = j
      · rw [e, if_pos rfl]
        exact ⟨z, rfl⟩
      · rw [if_neg (by omega)]
        exact hz i (by omega)
theorem M_lays {kc ks : Nat} {Q : PQ} {X : PX} {M : Int} {n : Nat} {w : Int → Int} (hM0 : 0 ≤ M) (hM8 : M ≤ 8) (h64 : n ≤ 64) (hty : tys w ((n + 1 : Nat) : Int)) (g : Hh) (h8 : g 72 8 = M) (h9 : g 72 9 = (n : Int) + 1) (hw : ∀ i, 0 ≤ i → i < ((n + 1 : Nat) : Int) → g 75 i = w i) (hQ1 : ∀ h : Hh, LY g h M → h 72 10 = g 72 10 → cnt (fun i => w i = 36) (n + 1) = 1 → WOK w n → h 74 M = n → (∀ k, 0 ≤ k → k < (n : Int) → h 73 (64 * M + k) = wt w n k) → Q [aI 1] am_R0 h) (hQ0 : ∀ h : Hh, LY g h M → ¬ (cnt (fun i => w i = 36) (n + 1) = 1 ∧ WOK w n) → Q [aI 0] am_R0 h) : am_V M_X11_lays kc ks 0 [aR 72, aU, aU, aU, aU] [] am_R0 g Q X := by
  refine S_X11_lays_0 ?_
  rw [am_st_n (h := g) (a := 74) (a' := 72) (Or.inl (by decide)), h8, h9]
  refine ⟨by omega, ?_⟩
  rw [show (n : Int) + 1 - 1 = n by omega]
  have := M_ly_24 (kc := kc) (ks := ks) (Q := Q) (X := X) hM0 hM8 h64 hty g h8 h9 hw hQ1 hQ0 n 0 (am_st g 74 M n) (by omega) (fun d d1 d2 => am_st_o d2) (fun t ht => am_st_n (Or.inr ht)) am_st_s (fun i _ => by rw [am_st_o (by decide)]) (fun i hi => absurd hi (Nat.not_lt_zero i))
  rw [show (n : Int) - 1 - ((0 : Nat) : Int) = n + 1 - 2 by omega] at this
  exact this
/-- the model refuses -/
theorem LY.th {g h : Hh} {M c : Int} (hL : LY g h M) : LY g (am_st h 72 10 c) M := ⟨fun d d1 d2 d3 d4 d5 => by rw [am_st_o d1]; exact hL.1 d d1 d2 d3 d4 d5, ⟨by rw [am_st_n (Or.inr (by decide))]; exact hL.2.1.1, by rw [am_st_n (Or.inr (by decide))]; exact hL.2.1.2⟩, fun t ht => by rw [am_st_o (by decide)]; exact hL.2.2.1 t ht, fun i hi => by rw [am_st_o (by decide)]; exact hL.2.2.2 i hi⟩
theorem M_ud0 {kc ks : Nat} {g : Hh} {Q : PQ} {X : PX} (hS : SIM g) {m : Nat} (hm : g 2 1 = m) (hty : tys (g 3) m) (hno : ∀ n, m = n + 1 → cnt (fun i => g 3 i = 36) (n + 1) = 1 → ¬ WOK (g 3) n) (hQ : ∀ h, h 72 10 = 1 → h 81 = g 81 → SIM h → Q [aI 0] am_R0 h) : am_V M_X11_undo kc ks 0 [aR 72] [] am_R0 g Q X := by
  obtain ⟨b0, b1, b2⟩ := hS.2.1
  obtain ⟨c0, c1, c2⟩ := hS.1
  have hrow := hS.2.2.1
  refine S_X11_undo_0 ⟨fun z => M_isWrong fun h2 k y => S_X11_undo_36 ⟨fun v => absurd v (by decide), fun _ => hQ h2 y k.c81 (k.sim hS)⟩, fun z => ?_⟩
  cases m with
  | zero => exact absurd (by rw [b2, hm]; rfl) z
  | succ n =>
    refine M_lays (M := g 0 9) (n := n) (w := g 3) c0 c1 (by omega) hty g c2 (by rw [b2, hm]; omega) (fun i i0 i1 => (hrow i i0 (by omega)).1) (fun h2 hL _ y1 y2 _ _ => absurd y2 (hno n rfl y1)) (fun h2 hL _ => S_X11_undo_12 ⟨fun v => absurd rfl v, fun _ => L_isWrong (S_X11_undo_36 ⟨fun v => absurd v (by decide), fun _ => hQ _ am_st_s ?_ (hL.th.sim hS rfl)⟩)⟩)
    rw [am_st_o (by decide)]
    exact hL.1 81 (by decide) (by decide) (by decide) (by decide) (by decide)
theorem T_undo {kc ks : Nat} {h : Hh} (hS : SIM h) (hkc : 2 ≤ kc) (hks : 12 ≤ ks) : am_V M_X10_undo kc ks 0 [aR 0, aU] [] am_R0 h (PQok M_X11_undo [aR 72] aI) (PXok M_X11_undo [aR 72] aI [xUO, xIS]) := by
  obtain ⟨b0, b1, b2⟩ := hS.2.1
  obtain ⟨c0, c1, c2⟩ := hS.1
  have hrow := hS.2.2.1
  obtain ⟨m, hm⟩ : ∃ m : Nat, h 2 1 = m := ⟨(h 2 1).toNat, by omega⟩
  have hty : tys (h 3) m := fun i i0 i1 => (hrow i i0 (by omega)).2
  have nk : ∀ h' : Hh, (∀ d, d ≠ 10 → d ≠ 12 → d ≠ 13 → h' d = h d) → NK h h' := fun h' f d hd => f d (by unfold SIMcell at hd; omega) (by unfold SIMcell at hd; omega) (by unfold SIMcell at hd; omega)
  refine S_X10_undo_0 ?_
  rw [hm]
  refine C_turnBack (w := h 3) rfl (by omega) (by omega) (by decide) hty h (fun _ _ _ => rfl) (fun h1 n f1 hmn y1 y2 y3 _ => S_X10_undo_21 ⟨fun _ => ⟨by omega, ?_⟩, fun z => absurd z (by decide)⟩) (fun h1 f1 hno => S_X10_undo_21 ⟨fun z => absurd rfl z, fun _ => ⟨by omega, ⟨rfl, 0, rfl, fun kc ks Q X k => ?_⟩⟩⟩)
  · have hN := nk h1 f1
    have hS1 := hN.sim hS
    have e0 : h1 0 9 = h 0 9 := by rw [hN.c0]
    have e2 : h1 2 = h 2 := f1 2 (by decide) (by decide) (by decide)
    have e3 : h1 3 = h 3 := f1 3 (by decide) (by decide) (by decide)
    refine C_freshText hS1 (by omega) (by omega) (fun hM => ?_) (fun hM => ⟨rfl, 1, rfl, fun kc ks Q X k => ?_⟩)
    · have t0 : isT (ta (h1 0 9)) := ta_isT hS1.1.1 hM
      have h40 := hS1.2.2.2.2 (h1 0 9) (Int.le_refl _) hM
      have hM0 := hS1.1.1
      have haa : 32 ≤ ta (h1 0 9) ∧ ta (h1 0 9) ≤ 67 := by unfold ta; omega
      have hws := wt_ws (w := h 3) (n := n) (by rw [← hmn]; exact hty) y2
      refine S_X10_undo_39 t0 ?_
      rw [e2, hm, hmn, show ((n + 1 : Nat) : Int) - 1 = n by omega]
      refine ⟨by omega, C_add (b := 0) (m := n) (w := wt (h 3) n) t0 (q1 := rfl) (by omega) (by omega) (by omega) h40 (fun k k0 k1 => by omega) (fun i i0 i1 => by have := hws i i0 i1; rw [show ((0 : Nat) : Int) + i = i by omega, y3 i i0 i1]; omega) (fun h2 f2 z1 z2 => S_X10_undo_60 t0 ?_)⟩
      have q0 : h2 0 9 = h1 0 9 := by rw [f2 0 (by omega) (by omega)]
      refine C_keep (n := n) (w := wt (h 3) n) t0 (by rw [z1]; omega) (by omega) hws (fun k k0 k1 => z2 k k0 (by omega)) (by omega) (fun hc f3 g09 hNT => S_X10_undo_65 ?_)
      rw [q0]
      rw [q0] at g09
      refine GM.raw fun kc ks Q X k => ?_
      obtain ⟨g, hg⟩ : ∃ g : Hh, g = am_st hc 81 0 (h1 0 9) := ⟨_, rfl⟩
      rw [← hg]
      have g81 : g 81 = am_st hc 81 0 (h1 0 9) 81 := by rw [hg]
      rw [← g81] at k
      have gc : ∀ d, d ≠ 81 → g d = hc d := fun d hd => by rw [hg, am_st_o hd]
      have fc : ∀ d, d ≠ 0 → d ≠ 2 → d ≠ 6 → d ≠ 7 → d ≠ 8 → d ≠ 10 → d ≠ 11 → d ≠ 12 → d ≠ 13 → (d < ta (h1 0 9) ∨ ta (h1 0 9) + 4 < d) → hc d = h1 d := fun d d0 d2 d6 d7 d8 _ _ _ _ dr => by rw [f3 d d0 d6 d7 d8 (by omega) (by omega) (by omega), f2 d (by omega) (by omega)]
      have gh : ∀ d, d ≠ 81 → 72 ≤ d → g d = h1 d := fun d d1 d2 => by rw [gc d d1, fc d (by omega) (by omega) (by omega) (by omega) (by omega) (by omega) (by omega) (by omega) (by omega) (by omega)]
      have hc2 : hc 2 1 = h1 2 1 := by rw [f3 2 (by decide) (by decide) (by decide) (by decide) (by omega) (by omega) (by omega), f2 2 (by omega) (by omega)]
      have q72 := gh 72 (by decide) (by decide)
      have q75 := gh 75 (by decide) (by decide)
      have k9 : g 72 9 = (n : Int) + 1 := by rw [q72, hS1.2.1.2.2, e2, hm, hmn]; omega
      have k8 : g 72 8 = h1 0 9 := by rw [q72, hS1.1.2.2]
      refine S_X11_undo_0 ⟨fun z => absurd z (by omega), fun _ => M_lays (M := h1 0 9) (n := n) (w := h 3) hM0 (by omega) (by omega) (by rw [← hmn]; exact hty) g k8 k9 (fun i i0 i1 => ?_) (fun h5 hL h10 _ _ l74 l73 => S_X11_undo_12 ⟨fun _ => ⟨fun _ => L_isWrong (S_X11_undo_36 ⟨fun _ => ?_, fun v => absurd rfl v⟩), fun z => absurd z (by rw [hL.2.1.1, k8]; omega)⟩, fun z => absurd z (by decide)⟩) (fun h5 hL z => absurd ⟨y1, y2⟩ z)⟩
      · rw [q75, (hS1.2.2.1 i i0 (by rw [e2, hm, hmn]; exact i1)).1, e3]
      · rw [am_st_s, am_st_n (h := h5) (a := 72) (a' := 72) (Or.inr (by decide)), hL.2.1.1, k8]
        refine ⟨by omega, ?_⟩
        rw [show h1 0 9 + 1 - 1 = h1 0 9 by omega]
        have hR : MN2 g (am_st (am_st h5 72 10 0) 72 8 (h1 0 9 + 1)) (h1 0 9) n (wt (h 3) n) (h1 2 1) := by
          refine ⟨fun d d1 d2 d3 d4 d5 => by rw [am_st_o d1, am_st_o d1]; exact hL.1 d d1 d2 d3 d4 d5, am_st_s, ?_, ?_, fun t ht => ?_, ?_, fun i hi => ?_, fun k k0 k1 => ?_⟩
          · rw [am_st_n (Or.inr (by decide)), am_st_n (Or.inr (by decide)), hL.2.1.2, k9, e2, hm, hmn]; omega
          · rw [am_st_n (Or.inr (by decide)), am_st_s]
          · rw [am_st_o (by decide), am_st_o (by decide)]; exact hL.2.2.1 t ht
          · rw [am_st_o (by decide), am_st_o (by decide)]; exact l74
          · rw [am_st_o (by decide), am_st_o (by decide)]; exact hL.2.2.2 i hi
          · rw [am_st_o (by decide), am_st_o (by decide)]; exact l73 k k0 k1
        exact k _ hR.2.2.2.1 (hR.1 81 (by decide) (by decide) (by decide) (by decide) (by decide)) (SIM.made hS1 rfl hM fc g09 hc2 (by rw [e2]; exact b0) (Int.le_refl _) hNT gc hR)
    · have q := hS1.2.1.2.2
      refine S_X11_undo_0 ⟨fun z => absurd z (by rw [q, e2, hm, hmn]; omega), fun _ => M_lays (M := h1 0 9) (n := n) (w := h 3) hS1.1.1 hS1.1.2.1 (by omega) (by rw [← hmn]; exact hty) h1 hS1.1.2.2 (by rw [q, e2, hm, hmn]; omega) (fun i i0 i1 => by rw [(hS1.2.2.1 i i0 (by rw [e2, hm, hmn]; exact i1)).1, e3]) (fun h5 hL h10 _ _ l74 l73 => S_X11_undo_12 ⟨fun _ => ⟨fun z => absurd ((hL.2.1.1.trans hS1.1.2.2).trans hM) z, fun z => L_isWrong (S_X11_undo_36 ⟨fun v => absurd v (by decide), fun _ => k 0 _ am_st_s (fun v => absurd v (by decide)) ?_ (hL.th.sim hS1 rfl)⟩)⟩, fun z => absurd z (by decide)⟩) (fun h5 hL z => absurd ⟨y1, y2⟩ z)⟩
      rw [am_st_o (by decide)]
      exact hL.1 81 (by decide) (by decide) (by decide) (by decide) (by decide)
  · have hN := nk h1 f1
    have e2 : h1 2 = h 2 := f1 2 (by decide) (by decide) (by decide)
    have e3 : h1 3 = h 3 := f1 3 (by decide) (by decide) (by decide)
    exact M_ud0 (m := m) (hN.sim hS) (by rw [e2]; exact hm) (by rw [e3]; exact hty) (by rw [e3]; exact hno) (fun h5 a b c => k 0 h5 a (fun v => absurd v (by decide)) b c)
