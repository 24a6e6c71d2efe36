variable {WM : List (Nat × Nat)} {wd : Bool}
/-! THE LAW'S comesBack -/
theorem cmp0 (x : Int) : (if x < x then (1 : Int) else if x = x then 0 else -1) = 0 := by rw [if_neg (Int.lt_irrefl _), if_pos rfl]
theorem cmp_eq {x y : Int} (h : x = y) : (if x < y then (1 : Int) else if y = x then 0 else -1) = 0 := by rw [h]; exact cmp0 y
theorem cmp_ge {x y : Int} (h : x ≤ y) : 0 ≤ (if x < y then (1 : Int) else if y = x then 0 else -1) := by
  by_cases z : x < y
  · rw [if_pos z]; decide
  · rw [if_neg z, if_pos (by omega)]; decide
theorem cmp_lt {x y : Int} (h : x < y) : (if x < y then (1 : Int) else if y = x then 0 else -1) = 1 := if_pos h
theorem cmp_gt {x y : Int} (h : y < x) : (if x < y then (1 : Int) else if y = x then 0 else -1) = -1 := by rw [if_neg (by omega), if_neg (by omega)]
/-- the state that the law's checks keep: one text, s, that the row a holds too -/
def LAW (h : Hh) (M : Int) (n : Nat) (s pl ra : Int → Int) : Prop := SIM h ∧ h 0 9 = M ∧ 0 < M ∧ n ≤ 63 ∧ CT h 32 n s pl ra ∧ ∀ k, 0 ≤ k → k < (n : Int) → h 72 k = s k
theorem LAW.tx {h : Hh} {M : Int} {n : Nat} {s pl ra : Int → Int} (hL : LAW h M n s pl ra) : isTx h 0 := ⟨Int.le_refl 0, by rw [hL.2.1]; exact hL.2.2.1⟩
theorem LAW.ct {h : Hh} {M : Int} {n : Nat} {s pl ra : Int → Int} (hL : LAW h M n s pl ra) : CT h (ta 0) n s pl ra := hL.2.2.2.2.1
theorem LAW.keep {h h' : Hh} {M : Int} {n : Nat} {s pl ra : Int → Int} (hL : LAW h M n s pl ra) (hS : SIM h') (e0 : h' 0 9 = h 0 9) (e1 : ∀ d, 32 ≤ d → d ≤ 36 → h' d = h d) (e72 : h' 72 = h 72) : LAW h' M n s pl ra :=
  ⟨hS, by rw [e0]; exact hL.2.1, hL.2.2.1, hL.2.2.2.1, hL.2.2.2.2.1.keep (fun j hj => e1 _ (by omega) (by omega)), fun k k0 k1 => by rw [e72]; exact hL.2.2.2.2.2 k k0 k1⟩
theorem LAW.up {h h' : Hh} {M : Int} {n : Nat} {s pl ra : Int → Int} (hL : LAW h M n s pl ra) (e : ∀ d, d < 72 → h' d = h d) (e72 : h' 72 = h 72) : LAW h' M n s pl ra :=
  hL.keep (hL.1.keep fun d hd => e d (by omega)) (by rw [e 0 (by decide)]) (fun d d0 d1 => e d (by omega)) e72
/-- from row to row, back through the text -/
theorem CB3 {Q : PQ} {X : PX} {n : Nat} {s pl ra s1 pl1 ra1 : Int → Int} {h : Hh} (hL : LAW h 2 n s pl ra) (hC1 : CT h 37 n s1 pl1 ra1) (h1 : ∀ k, 0 ≤ k → k < (n : Int) → s1 k = s k) (h74 : ∀ j, 0 ≤ j → j ≤ (n : Int) → h 74 j = BK s n pl j) (hQ : Q [aI 1] (RM [(1, n), (0, 128), (0, n + 1)] wd) h) : ∀ (d kc ks : Nat) (x9 x8 : Int), x9 + 1 = d → x9 < n → x8 = rk1 s n (x9 + 1) → 4 * d + 2 ≤ kc → 24 * d + 12 ≤ ks → am_V M_L_comesBack kc ks 210 [aR 0, aI 0, aR 72, aU, aU, aR 74, aL 1, aU, aI x8, aI x9] [] (RM [(1, n), (0, 128), (0, n + 1)] wd) h Q X := by
  have hS := hL.1
  have hC := hL.ct
  have n63 := hL.2.2.2.1
  have z0 := hL.tx
  have z1 : isTx h 1 := ⟨by decide, by rw [hL.2.1]; decide⟩
  have hs := hC.2.2.2.2.2.2.1
  have hSA := hC.2.2.2.2.2.2.2.1
  intro d
  induction d with
  | zero =>
    intro kc ks x9 x8 hd hn hx hkc hks
    have e9 : x9 + 1 = 0 := by omega
    rw [e9] at hx
    have b := rk1_bd hs (p := 0) (Int.le_refl 0) (by omega)
    have hl := LSg_rk1 hs hSA (p := 0) (Int.le_refl 0) (by omega)
    rw [if_pos rfl] at hl
    refine S_L_comesBack_210 rfl rfl ⟨fun _ => ⟨⟨by omega, by omega⟩, W_last hS z0 hC (by omega) (by omega) (Nat.le_refl _) (Nat.le_refl _) ?_⟩, fun w => absurd w (by omega)⟩
    rw [hx, hl]
    exact S_L_comesBack_271 ⟨fun w => absurd (cmp0 36) w, fun _ => hQ⟩
  | succ d ih =>
    intro kc ks x9 x8 hd hn hx hkc hks
    have b := rk1_bd hs (p := x9 + 1) (by omega) (by omega)
    have hl := LSg_rk1 hs hSA (p := x9 + 1) (by omega) (by omega)
    rw [if_neg (by omega), show x9 + 1 - 1 = x9 by omega] at hl
    have e72 := hL.2.2.2.2.2 x9 (by omega) (by omega)
    refine S_L_comesBack_210 rfl rfl ⟨fun w => absurd w (by omega), fun _ => ⟨⟨by omega, by omega⟩, W_last hS z0 hC (by omega) (by omega) (Nat.le_refl _) (Nat.le_refl _) ?_⟩⟩
    rw [hx, hl]
    refine S_L_comesBack_222 rfl rfl ⟨⟨by omega, by omega⟩, fun w => absurd (cmp_eq e72) w, fun _ => ⟨⟨by decide, by omega, by omega⟩, W_signAt hS z1 hC1 (by omega) (by omega) (Nat.le_refl _) (Nat.le_refl _) ?_⟩⟩
    rw [h1 x9 (by omega) (by omega)]
    refine S_L_comesBack_240 rfl rfl ⟨⟨by omega, by omega⟩, fun _ => ⟨⟨by omega, by omega, by omega⟩, ?_⟩, fun w => absurd (cmp_eq e72) w⟩
    refine ih _ _ (x9 + (-1)) _ (by omega) (by omega) ?_ (by omega) (by omega)
    rw [h74 _ (by omega) b, BK_rk1 hs hSA (by omega) (by omega), show x9 + 1 - 1 = x9 by omega, show x9 + -1 + 1 = x9 by omega]
/-- the rows that one comes from rise for each sign -/
theorem CB2 {Q : PQ} {X : PX} {n : Nat} {s pl ra : Int → Int} (h0 : Hh) (hL0 : LAW h0 1 n s pl ra) (h21 : h0 2 1 = (n : Int) + 1) (h3 : ∀ k, 0 ≤ k → k < (n : Int) + 1 → h0 3 k = LSg s n pl k) (hQ : ∀ h, LAW h 2 n s pl ra → (∀ d, 1000 ≤ d → h d = h0 d) → Q [aI 1] (RM [(1, n), (0, 128), (0, n + 1)] wd) h) : ∀ (d k kc ks : Nat) (h : Hh), k + d = n + 1 → 6 * d + 300 ≤ kc → 36 * d + 1800 ≤ ks → (∀ d, d ≠ 73 → d ≠ 74 → h d = h0 d) → (∀ j, 0 ≤ j → j < (k : Int) → h 74 j = BK s n pl j) → (∀ j, (k : Int) ≤ j → j ≤ n → h 73 (LSg s n pl j) ≤ BK s n pl j) → am_V M_L_comesBack kc ks 94 [aR 0, aI 0, aR 72, aI n, aR 73, aR 74, aI k, aU, aU, aU] [] (RM [(1, n), (0, 128), (0, n + 1)] wd) h Q X := by
  have hC0 := hL0.ct
  have n63 := hL0.2.2.2.1
  have hs := hC0.2.2.2.2.2.2.1
  have hSA := hC0.2.2.2.2.2.2.2.1
  intro d
  induction d with
  | zero =>
    intro k kc ks h hk hkc hks hf h74 h73
    have hL : LAW h 1 n s pl ra := hL0.up (fun d hd => hf d (by omega) (by omega)) (hf 72 (by decide) (by decide))
    have e0 : h 0 9 = 1 := hL.2.1
    refine S_L_comesBack_94 rfl rfl rfl ⟨fun _ => ⟨⟨by omega, by omega⟩, ?_⟩, fun w => absurd w (by omega)⟩
    refine W_undo hL.1 (by omega) hs hSA (by rw [hf 2 (by decide) (by decide)]; exact h21) (fun k k0 k1 => by rw [hf 3 (by decide) (by decide)]; exact h3 k k0 k1) (by omega) (Nat.le_refl _) (Nat.le_refl _) (fun h' hS' g09 gu gt hN => ?_)
    rw [e0] at g09 gt hN ⊢
    have hL' : LAW h' 2 n s pl ra := ⟨hS', g09, by decide, n63, hL.2.2.2.2.1.keep (fun j hj => gt _ (by omega) (by omega) (by show 32 + j < 37 ∨ _; omega)), fun k k0 k1 => by rw [gu 72 (by decide)]; exact hL.2.2.2.2.2 k k0 k1⟩
    have hN' : NT h' 37 n s := hN
    have hC1 := hN'.ct ⟨1, by decide, rfl⟩
    have z1 : isTx h' 1 := ⟨by decide, by rw [g09]; decide⟩
    refine S_L_comesBack_178 rfl rfl ⟨fun w => absurd w (by decide), fun _ => ⟨⟨by decide, by omega, by omega⟩, W_length hS' z1 hC1 (Nat.le_refl _) (Nat.le_refl _) ?_⟩⟩
    refine S_L_comesBack_194 rfl rfl ⟨fun _ => ⟨by omega, ?_⟩, fun w => absurd (cmp0 _) w⟩
    refine CB3 hL' hC1 (fun k k0 k1 => hN'.2.2.2.1 k k0 k1) (fun j j0 j1 => by rw [gu 74 (by decide)]; exact h74 j j0 (by omega)) (hQ h' hL' (fun d hd => by rw [gu d (by omega), hf d (by omega) (by omega)])) n _ _ ((n : Int) - 1) 0 (by omega) (by omega) ?_ (by omega) (by omega)
    rw [show (n : Int) - 1 + 1 = n by omega, rk1_end hs]
    rfl
  | succ d ih =>
    intro k kc ks h hk hkc hks hf h74 h73
    have hL : LAW h 1 n s pl ra := hL0.up (fun d hd => hf d (by omega) (by omega)) (hf 72 (by decide) (by decide))
    have bB := BK_bd hs hSA (r := k) (by omega) (by omega)
    have lt := LS_ty hs hSA (r := k) (by omega) (by omega)
    refine S_L_comesBack_94 rfl rfl rfl ⟨fun w => absurd w (by omega), fun _ => ⟨⟨by omega, by omega⟩, W_back hL.1 hL.tx hL.ct (by omega) (by omega) (Nat.le_refl _) (Nat.le_refl _) ?_⟩⟩
    show am_V M_L_comesBack _ _ 111 _ ([aL (BK s n pl k : Int)] ++ _) _ h Q X
    obtain ⟨g, hg⟩ : ∃ g : Hh, g = am_st h 74 k (BK s n pl k) := ⟨_, rfl⟩
    have gf : ∀ d, d ≠ 74 → g d = h d := fun d hd => by rw [hg, am_st_o hd]
    have hLg : LAW g 1 n s pl ra := hL.up (fun d hd => gf d (by omega)) (gf 72 (by decide))
    have g74 : g 74 k = BK s n pl k := by rw [hg, am_st_s]
    refine S_L_comesBack_111 rfl rfl rfl rfl ⟨⟨by omega, by omega, by omega, by omega, by omega⟩, ?_⟩
    rw [← hg]
    refine W_last hLg.1 hLg.tx hLg.ct (by omega) (by omega) (Nat.le_refl _) (Nat.le_refl _) ?_
    refine S_L_comesBack_120 rfl rfl rfl ⟨⟨by omega, by omega, by omega, by omega, by omega⟩, ?_⟩
    rw [g74, Int.emod_eq_of_lt (by omega) (by omega)]
    refine W_first hLg.1 hLg.tx hLg.ct (by omega) bB (Nat.le_refl _) (Nat.le_refl _) ?_
    rw [FSg_BK hs hSA (by omega) (by omega)]
    have e73 : g 73 = h 73 := gf 73 (by decide)
    have le := h73 k (Int.le_refl _) (by omega)
    refine S_L_comesBack_134 rfl rfl rfl ⟨fun w => absurd (cmp0 _) w, fun _ => ⟨⟨by omega, by omega, by omega, by omega⟩, fun _ => ⟨⟨by omega, by omega, by rw [g74]; omega, by omega, by omega, by omega⟩, ?_⟩, fun w => absurd w (by rw [g74, e73]; omega)⟩⟩
    rw [g74]
    refine ih (k + 1) _ _ _ (by omega) (by omega) (by omega) (fun d d1 d2 => by rw [am_st_o d1, gf d d2]; exact hf d d1 d2) (fun j j0 j1 => ?_) (fun j j0 j1 => ?_)
    · rw [am_st_o (by decide), hg, am_st_i]
      by_cases e : j = k
      · rw [if_pos e, e]
      · rw [if_neg e]; exact h74 j j0 (by omega)
    · rw [am_st_i]
      by_cases e : LSg s n pl j = LSg s n pl k
      · rw [if_pos e]
        have := BK_lt hs hSA (i := k) (j := j) (by omega) (by omega) j1 e.symm
        omega
      · rw [if_neg e, e73]
        exact h73 j (by omega) j1
/-- the typed row is the last column, and the first column rises -/
theorem CB1 {Q : PQ} {X : PX} {n : Nat} {s pl ra : Int → Int} {h : Hh} (hL : LAW h 1 n s pl ra) (h21 : h 2 1 = (n : Int) + 1) (h3 : ∀ k, 0 ≤ k → k < (n : Int) + 1 → h 3 k = LSg s n pl k) (h73 : ∀ i, h 73 i = 0) (h74 : ∀ i, h 74 i = 0) (hQ : ∀ h', LAW h' 2 n s pl ra → (∀ d, 1000 ≤ d → h' d = h d) → Q [aI 1] (RM [(1, n), (0, 128), (0, n + 1)] true) h') : ∀ (d k kc ks : Nat), k + d = n + 1 → 7 * d + 800 ≤ kc → 42 * d + 5000 ≤ ks → am_V M_L_comesBack kc ks 21 [aR 0, aI 0, aR 72, aI n, aI k, aU, aU, aU, aU, aU] [] (RM [(1, n)] true) h Q X := by
  have hS := hL.1
  have hC := hL.ct
  have n63 := hL.2.2.2.1
  have z0 := hL.tx
  have hs := hC.2.2.2.2.2.2.1
  have hSA := hC.2.2.2.2.2.2.2.1
  intro d
  induction d with
  | zero =>
    intro k kc ks hk hkc hks
    refine S_L_comesBack_21 rfl ⟨fun _ => ⟨⟨by decide, by decide, Nat.le_of_ble_eq_true rfl, h73, by omega, by omega, by omega, by omega, by omega, Nat.le_of_ble_eq_true rfl, h74, by omega, by omega⟩, ?_⟩, fun w => absurd w (by omega)⟩
    rw [show ((n : Int) + 1).toNat = n + 1 by omega]
    exact CB2 h hL h21 h3 hQ (n + 1) 0 _ _ h (by omega) (by omega) (by omega) (fun _ _ _ => rfl) (fun j j0 j1 => by omega) (fun j j0 j1 => by rw [h73]; omega)
  | succ d ih =>
    intro k kc ks hk hkc hks
    refine S_L_comesBack_21 rfl ⟨fun w => absurd w (by omega), fun _ => ⟨⟨by omega, by omega⟩, W_typed hS (by omega) (by omega) (Nat.le_refl _) (Nat.le_refl _) ?_⟩⟩
    rw [h3 k (by omega) (by omega)]
    refine S_L_comesBack_33 rfl ⟨⟨by omega, by omega⟩, W_last hS z0 hC (by omega) (by omega) (Nat.le_refl _) (Nat.le_refl _) ?_⟩
    refine S_L_comesBack_40 rfl ⟨fun w => absurd (cmp0 _) w, fun _ => ⟨fun _ => ⟨by omega, ih (k + 1) _ _ (by omega) (by omega) (by omega)⟩, fun k0 => ⟨⟨by omega, by omega⟩, W_first hS z0 hC (by omega) (by omega) (Nat.le_refl _) (Nat.le_refl _) ?_⟩⟩⟩
    refine S_L_comesBack_56 rfl ⟨⟨by omega, by omega, by omega⟩, W_first hS z0 hC (by omega) (by omega) (Nat.le_refl _) (Nat.le_refl _) ?_⟩
    have hm := cmp_ge (FSg_mono hs hSA k0 (by omega))
    exact S_L_comesBack_65 rfl ⟨fun _ => ⟨by omega, ih (k + 1) _ _ (by omega) (by omega) (by omega)⟩, fun w => absurd w (by omega)⟩
theorem L_comesBack {kc ks : Nat} {h : Hh} {Q : PQ} {X : PX} {n : Nat} {s pl ra : Int → Int} (hL : LAW h 1 n s pl ra) (h73 : ∀ i, h 73 i = 0) (h74 : ∀ i, h 74 i = 0) (hkc : 4002 ≤ kc) (hks : 24300 ≤ ks) (hQ : ∀ h', LAW h' 2 n s pl ra → (∀ d, 1000 ≤ d → h' d = h d) → Q [aI 1] (RM [(1, n), (0, 128), (0, n + 1)] true) h') : am_V M_L_comesBack kc ks 0 [aR 0, aI 0, aR 72, aU, aU, aU, aU, aU, aU, aU] [] (RM [(1, n)] true) h Q X := by
  have n63 := hL.2.2.2.1
  refine S_L_comesBack_0 rfl ⟨⟨by omega, by omega, by omega⟩, W_column hL.1 hL.tx hL.ct (Nat.le_refl _) (Nat.le_refl _) (fun h1 hS1 f1 g21 g3 => ?_)⟩
  have hL1 : LAW h1 1 n s pl ra := hL.keep hS1 (by rw [f1 0 (by decide) (by decide)]) (fun d d0 d1 => f1 d (by omega) (by omega)) (f1 72 (by decide) (by decide))
  have e : ((n : Int) + 1).bmod (2 ^ 64) = (n : Int) + 1 := bmod_id (by omega) (by omega)
  refine S_L_comesBack_8 rfl ⟨fun _ => ?_, fun w => absurd (by rw [e]; exact cmp0 _) w⟩
  exact CB1 hL1 g21 g3 (fun i => by rw [f1 73 (by decide) (by decide)]; exact h73 i) (fun i => by rw [f1 74 (by decide) (by decide)]; exact h74 i) (fun h' a b => hQ h' a (fun d hd => by rw [b d hd, f1 d (by omega) (by omega)])) (n + 1) 0 _ _ (by omega) (by omega) (by omega)
