variable {WM : List (Nat × Nat)} {wd : Bool}
/-! THE LAW'S OWN METHODS: cell, chosen, size, signs, tells -/
theorem v_scr {m : MInfo} {kc ks pc : Nat} {E st : List AV} {ρ : Rho} {h : Hh} {Q : PQ} {X : PX} (k : 0 ≤ h 1001 0 → h 1001 0 ≤ 260 → (∀ j, am_i (h 1000 j)) → am_V m kc ks pc E st ρ h Q X) : am_V m kc ks pc E st ρ h Q X := by
  intro l p e R s q args below meth c D cA B b g0 g1 Z H locs cells slots ls hC hZ hR hL hS hF hc hs
  obtain ⟨hX, hbB, hg0, hg1, hg2⟩ := hC.2.2.2.2.2.2.2.2.2.2.2.2.2.2.2.2.2.2.2
  have e1 := hR.2.2.2.2.2.1
  have e2 := hR.2.2.2.2.2.2
  exact k (by rw [e2]; exact hg1) (by rw [e2]; exact hg2) (by rw [e1]; exact hg0) l p e R s q args below meth c D cA B b g0 g1 Z H locs cells slots ls hC hZ hR hL hS hF hc hs
theorem L_cell {kc ks : Nat} {h : Hh} {Q : PQ} {X : PX} {x1 : Int} (h0 : 0 ≤ x1) (hQ : ∀ z, am_i z → Q [aI z] (RM WM wd) h) : am_V M_L_cell kc ks 0 [aR 1000, aI x1, aU, aU, aU, aU, aU] [] (RM WM wd) h Q X := by
  refine v_scr fun g0 g1 g2 => S_L_cell_0 fun z1 _ z2 _ => ?_
  have key : ∀ (d : Nat) (x5 z : Int), 0 ≤ x5 → x5 + d = h 1001 0 → am_V M_L_cell kc ks 19 [aR 1000, aI x1, aI z, aR 1000, aI (h 1001 0), aI x5, aU] [] (RM WM wd) h Q X := by
    intro d
    induction d with
    | zero =>
      intro x5 z h5 hd
      exact S_L_cell_19 ⟨fun _ z3 _ z4 _ => ⟨fun _ z5 _ z6 _ z7 _ z8 _ z9 _ z10 _ z11 _ z12 i12 => hQ z12 i12, fun _ => ⟨fun _ z13 _ z14 i14 => hQ z14 i14, fun w => ⟨⟨h0, w⟩, hQ _ (g2 _)⟩⟩⟩, fun w => absurd w (by omega)⟩
    | succ d ih =>
      intro x5 z h5 hd
      exact S_L_cell_19 ⟨fun w => absurd w (by omega), fun w => ⟨⟨h5, w⟩, fun z15 _ z16 _ z17 _ => ⟨by omega, ih (x5 + 1) z17 (by omega) (by omega)⟩⟩⟩
  exact key (h 1001 0).toNat 0 z2 (Int.le_refl 0) (by omega)
theorem am_and0 (z : Int32) : 0 ≤ (z &&& Int32.ofInt 2147483647).toInt := by
  have h1 : (z &&& Int32.ofInt 2147483647).toBitVec.msb = false := by
    rw [Int32.toBitVec_and, BitVec.msb_and]
    have : (Int32.ofInt 2147483647).toBitVec.msb = false := by decide
    rw [this, Bool.and_false]
  show 0 ≤ (z &&& Int32.ofInt 2147483647).toBitVec.toInt
  rw [BitVec.toInt_eq_toNat_of_msb h1]
  exact Int.natCast_nonneg _
theorem L_chosen {kc ks : Nat} {h : Hh} {Q : PQ} {X : PX} {x n : Int} (hn : 0 < n) (hQ : ∀ v, 0 ≤ v → v < n → Q [aI v] (RM WM wd) h) : am_V M_L_chosen kc ks 0 [aI x, aI n] [] (RM WM wd) h Q X :=
  S_L_chosen_0 ⟨⟨am_and0 _, hn⟩, hQ _ (Int.emod_nonneg _ (by omega)) (Int.emod_lt_of_pos _ hn)⟩
theorem L_size {kc ks : Nat} {h : Hh} {Q : PQ} {X : PX} (hQ : ∀ v, 0 ≤ v → v ≤ 63 → Q [aI v] (RM WM wd) h) : am_V M_L_size kc ks 0 [aR 1000] [] (RM WM wd) h Q X := by
  refine S_L_size_0 (L_cell (by decide) fun z _ => S_L_size_5 (L_chosen (by decide) fun v v0 v1 => S_L_size_10 ⟨fun _ => ?_, fun _ => ?_⟩))
  · exact L_cell (by decide) fun z _ => S_L_size_32 (L_chosen (by decide) fun v v0 v1 => S_L_size_37 ⟨by omega, hQ _ (by omega) (by omega)⟩)
  · exact L_cell (by decide) fun z _ => S_L_size_18 (L_chosen (by decide) fun v v0 v1 => S_L_size_23 (hQ _ (by omega) (by omega)))
/-- the letters up to a place -/
def lts (a : Int → Int) (i : Int) : Prop := ∀ k, 0 ≤ k → k < i → 97 ≤ a k ∧ a k ≤ 122
theorem lts.st {h : Hh} {i v : Int} (hl : lts (h 72) i) (hv : 97 ≤ v ∧ v ≤ 122) : lts (am_st h 72 i v 72) (i + 1) := by
  intro k k0 k1
  rw [am_st_i]
  by_cases e : k = i
  · rw [if_pos e]; exact hv
  · rw [if_neg e]; exact hl k k0 (by omega)
theorem L_signs_1 {kc ks : Nat} {Q : PQ} {X : PX} {n : Nat} {x2 x3 : Int} (h0 : Hh) (hn : n ≤ 63) (h2 : 1 ≤ x2 ∧ x2 ≤ 4) (h3 : 1 ≤ x3 ∧ x3 ≤ 9) (hQ : ∀ h, (∀ d, d ≠ 72 → h d = h0 d) → lts (h 72) n → Q [aR 72] (RM [(1, n)] wd) h) : ∀ (d i : Nat) (h : Hh), i + d = n → (∀ d, d ≠ 72 → h d = h0 d) → lts (h 72) i → am_V M_L_signs kc ks 35 [aR 1000, aR 72, aI x2, aI x3, aI i, aU] [] (RM [(1, n)] wd) h Q X := by
  intro d
  induction d with
  | zero =>
    intro i h hi hf hl
    have : i = n := by omega
    subst this
    exact S_L_signs_35 rfl ⟨by omega, fun _ => hQ h hf hl, fun w => absurd w (by omega)⟩
  | succ d ih =>
    intro i h hi hf hl
    have nx : ∀ v : Int, 97 ≤ v ∧ v ≤ 122 → am_V M_L_signs kc ks 35 [aR 1000, aR 72, aI x2, aI x3, aI ((i : Int) + 1), aU] [] (RM [(1, n)] wd) (am_st h 72 i v) Q X := fun v hv => ih (i + 1) _ (by omega) (fun d hd => by rw [am_st_o hd]; exact hf d hd) (hl.st hv)
    refine S_L_signs_35 rfl ⟨by omega, fun w => absurd w (by omega), fun _ => ⟨by omega, L_cell (by omega) fun z _ => S_L_signs_50 rfl ⟨by omega, fun z1 _ => L_chosen (by decide) fun v v0 v1 => ?_⟩⟩⟩
    have m0 : 0 ≤ v / 3 % x2 := Int.emod_nonneg _ (by omega)
    have m1 : v / 3 % x2 < x2 := Int.emod_lt_of_pos _ (by omega)
    have m2 : 0 ≤ v / 3 := Int.ediv_nonneg v0 (by decide)
    have new : am_V M_L_signs kc ks 35 [aR 1000, aR 72, aI x2, aI x3, aI ((i : Int) + 1), aU] [] (RM [(1, n)] wd) (am_st h 72 i (((97 + ((v / 3) % x2)) % 65536) % 65536)) Q X := by
      rw [Int.emod_eq_of_lt (a := 97 + v / 3 % x2) (by omega) (by omega), Int.emod_eq_of_lt (by omega) (by omega)]
      exact nx _ (by omega)
    refine S_L_signs_62 rfl ⟨fun _ => ⟨⟨v0, by decide, m2, by omega, by omega, by omega, by omega, by omega⟩, new⟩, fun w => ⟨⟨v0, by decide⟩, fun _ => ⟨⟨v0, by decide, m2, by omega, by omega, by omega, by omega, by omega⟩, new⟩, fun _ => ⟨by omega, ?_⟩⟩⟩
    have hk := hl ((i : Int) - x3) (by omega) (by omega)
    rw [Int.emod_eq_of_lt (by omega) (by omega)]
    exact nx _ hk
theorem L_signs {kc ks : Nat} {h : Hh} {Q : PQ} {X : PX} (hz : ∀ i, h 72 i = 0) (hkc : 1 ≤ kc) (hks : 64 ≤ ks) (hQ : ∀ (n : Nat) (h' : Hh), n ≤ 63 → (∀ d, d ≠ 72 → h' d = h d) → lts (h' 72) n → Q [aR 72] (RM [(1, n)] true) h') : am_V M_L_signs kc ks 0 [aR 1000, aU, aU, aU, aU, aU] [] (RM [] true) h Q X := by
  refine S_L_signs_0 (L_size fun n n0 n1 => S_L_signs_4 ⟨⟨n0, by omega, Nat.le_of_ble_eq_true rfl, hz, hkc, by omega⟩, ?_⟩)
  refine L_cell (by decide) fun z _ => S_L_signs_13 rfl (L_chosen (by decide) fun v v0 v1 => S_L_signs_17 rfl ⟨by omega, L_cell (by decide) fun z2 _ => S_L_signs_25 rfl (L_chosen (by decide) fun u u0 u1 => S_L_signs_30 rfl ⟨by omega, ?_⟩)⟩)
  exact L_signs_1 h (by omega) (by omega) (by omega) (fun h' hf hl => hQ n.toNat h' (by omega) hf hl) n.toNat 0 h (by omega) (fun _ _ => rfl) (fun k k0 k1 => by omega)
theorem L_tells_1 {kc' ks' : Nat} {Q : PQ} {X : PX} {n : Nat} (h0 : Hh) (h09 : h0 0 9 = 0) (hn : n ≤ 63) (hl : lts (h0 72) n) (hQ : ∀ h, SIM h → h 0 9 = 1 → (∀ d, 72 ≤ d → h d = h0 d) → NT h 32 n (h0 72) → Q [aI 0] (RM [(1, n)] wd) h) : ∀ (d i kc ks : Nat) (h : Hh), i + d = n → 2 + 2 * d + kc' ≤ kc → 12 + 12 * d + ks' ≤ ks → SIM h → (∀ d, d ≠ 2 → d ≠ 3 → h d = h0 d) → h 2 1 = i → (∀ k, 0 ≤ k → k < (i : Int) → h 3 k = h0 72 k) → am_V M_L_tells kc ks 13 [aR 0, aU, aR 72, aI n, aI i, aU] [] (RM [(1, n)] wd) h Q X := by
  intro d
  induction d with
  | zero =>
    intro i kc ks h hi hkc hks hS hf h2 h3
    have : i = n := by omega
    subst this
    have e0 : h 0 9 = 0 := by rw [hf 0 (by decide) (by decide)]; exact h09
    refine S_L_tells_13 rfl ⟨fun _ => ⟨⟨by omega, by omega⟩, W_text hS h2 (by omega) (fun k k0 k1 => by rw [h3 k k0 k1]; exact hl k k0 k1) (by omega) (Nat.le_refl _) (Nat.le_refl _) (fun h' hS' g09 g21 gu gt hN => S_L_tells_42 ⟨by omega, ?_⟩)⟩, fun w => absurd w (by omega)⟩
    rw [e0] at g09 hN ⊢
    refine hQ h' hS' g09 (fun d hd => by rw [gu d hd, hf d (by omega) (by omega)]) ?_
    obtain ⟨q1, q2, q3, q4, q5, q6⟩ := hN
    exact ⟨q1, q2, q3, fun k k0 k1 => by rw [← h3 k k0 k1]; exact q4 k k0 k1, q5, q6⟩
  | succ d ih =>
    intro i kc ks h hi hkc hks hS hf h2 h3
    have e72 : h 72 = h0 72 := hf 72 (by decide) (by decide)
    have li := hl i (by omega) (by omega)
    refine S_L_tells_13 rfl ⟨fun w => absurd w (by omega), fun _ => ⟨⟨by omega, by omega, by omega, by omega⟩, ?_⟩⟩
    refine W_type hS (by rw [e72]; exact Or.inr li) (by omega) (Nat.le_refl _) (Nat.le_refl _) (fun h' hS' g g21 g3 => S_L_tells_31 rfl ⟨by omega, ?_⟩)
    refine ih (i + 1) _ _ h' (by omega) (by omega) (by omega) hS' (fun d d2 d3 => by rw [g d d2 d3]; exact hf d d2 d3) (by rw [g21, h2]; omega) (fun k k0 k1 => ?_)
    rw [g3, h2, e72]
    by_cases e : k = i
    · rw [if_pos e, e]
    · rw [if_neg e]; exact h3 k k0 (by omega)
theorem L_tells {kc ks : Nat} {h : Hh} {Q : PQ} {X : PX} {n : Nat} (hS : SIM h) (h09 : h 0 9 = 0) (hn : n ≤ 63) (hl : lts (h 72) n) (hkc : 400 ≤ kc) (hks : 2400 ≤ ks) (hQ : ∀ h', SIM h' → h' 0 9 = 1 → (∀ d, 72 ≤ d → h' d = h d) → NT h' 32 n (h 72) → Q [aI 0] (RM [(1, n)] wd) h') : am_V M_L_tells kc ks 0 [aR 0, aR 72, aU, aU, aU, aU] [] (RM [(1, n)] wd) h Q X := by
  refine S_L_tells_0 rfl (W_wipe hS fun h1 hS1 f1 z1 => S_L_tells_4 rfl ⟨by omega, ?_⟩)
  have e72 : h1 72 = h 72 := f1 72 (by decide)
  refine L_tells_1 (kc' := 0) (ks' := 0) h1 (by rw [f1 0 (by decide)]; exact h09) hn (by rw [e72]; exact hl) (fun h' a b c d => hQ h' a b (fun d hd => by rw [c d hd, f1 d (by omega)]) (by rw [← e72]; exact d)) n 0 kc ks h1 (by omega) (by omega) (by omega) hS1 (fun _ _ _ => rfl) z1 (fun k k0 k1 => by omega)
