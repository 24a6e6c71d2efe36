/-! front: moves to the front -/
def HASV (f : Int → Int) : Prop := (∀ k, 0 ≤ k → k ≤ 26 → ty (f k)) ∧ ∀ x, ty x → ∃ k, 0 ≤ k ∧ k ≤ 26 ∧ f k = x
def LK (f : Int → Int) (x k : Int) : Prop := 0 ≤ k ∧ k ≤ 26 ∧ f k = x ∧ ∀ j, 0 ≤ j → j < k → f j ≠ x
def mvk (f : Int → Int) (x k i : Int) : Int := if i = 0 then x else if i ≤ k then f (i - 1) else f i
theorem LK.uniq {f : Int → Int} {x k l : Int} (h : LK f x k) (h' : LK f x l) : k = l := by
  rcases Int.lt_trichotomy k l with z | z | z
  · exact absurd h.2.2.1 (h'.2.2.2 k h.1 z)
  · exact z
  · exact absurd h'.2.2.1 (h.2.2.2 l h'.1 z)
theorem LK.ex {f : Int → Int} {x : Int} (hf : HASV f) (hx : ty x) : ∃ k, LK f x k := by
  obtain ⟨k, k0, k1, k2⟩ := hf.2 x hx
  obtain ⟨q, q0, q1, q2, q3⟩ := first_ex (P := fun k => f k = x) k0 k2
  exact ⟨q, q0, by omega, q2, q3⟩
theorem HASV.mv {f : Int → Int} {x k : Int} (hf : HASV f) (hx : ty x) (hk : LK f x k) : HASV (mvk f x k) := by
  refine ⟨fun i i0 i1 => ?_, fun y hy => ?_⟩
  · unfold mvk
    by_cases e : i = 0
    · rw [if_pos e]; exact hx
    · rw [if_neg e]
      by_cases e2 : i ≤ k
      · rw [if_pos e2]; exact hf.1 _ (by omega) (by omega)
      · rw [if_neg e2]; exact hf.1 i i0 i1
  · by_cases e : y = x
    · exact ⟨0, Int.le_refl 0, by omega, by unfold mvk; rw [if_pos rfl, e]⟩
    · obtain ⟨j, j0, j1, j2⟩ := hf.2 y hy
      have h1 := hk.1
      have h2 := hk.2.1
      by_cases c : j < k
      · exact ⟨j + 1, by omega, by omega, by unfold mvk; rw [if_neg (by omega), if_pos (by omega), show j + 1 - 1 = j by omega]; exact j2⟩
      · have : j ≠ k := fun w => e (by rw [← j2, w]; exact hk.2.2.1)
        exact ⟨j, j0, j1, by unfold mvk; rw [if_neg (by omega), if_neg (by omega)]; exact j2⟩
noncomputable def lk (f : Int → Int) (x : Int) : Int := @dite Int (∃ k, LK f x k) (Classical.propDecidable _) (fun h => Classical.choose h) (fun _ => 0)
theorem lk_at {f : Int → Int} {x : Int} (hf : HASV f) (hx : ty x) : LK f x (lk f x) := by
  have h := LK.ex hf hx
  unfold lk
  rw [dif_pos h]
  exact Classical.choose_spec h
noncomputable def fro (L : Int → Int) : Nat → Int → Int
  | 0 => fun i => if i = 0 then 36 else 96 + i
  | m + 1 => mvk (fro L m) (L m) (lk (fro L m) (L m))
theorem fro_HASV {L : Int → Int} : ∀ m : Nat, (∀ i, 0 ≤ i → i < (m : Int) → ty (L i)) → HASV (fro L m)
  | 0, _ => by
    refine ⟨fun k k0 k1 => ?_, fun x hx => ?_⟩
    · show ty (if k = 0 then 36 else 96 + k)
      by_cases e : k = 0
      · rw [if_pos e]; exact Or.inl rfl
      · rw [if_neg e]; exact Or.inr (by omega)
    · rcases hx with e | e
      · exact ⟨0, Int.le_refl 0, by omega, by show (if (0 : Int) = 0 then 36 else 96 + 0) = x; rw [if_pos rfl, e]⟩
      · exact ⟨x - 96, by omega, by omega, by show (if x - 96 = 0 then 36 else 96 + (x - 96)) = x; rw [if_neg (by omega)]; omega⟩
  | m + 1, h => by
    have ih := fro_HASV m (fun i i0 i1 => h i i0 (by omega))
    have hx := h m (by omega) (by omega)
    exact ih.mv hx (lk_at ih hx)
theorem C_mtf_2 {kc ks : Nat} {Q : PQ} {X : PX} {f : Int → Int} {x k : Int} (h0 : Hh) (hf : ∀ i, 0 ≤ i → i ≤ 26 → 0 ≤ f i ∧ f i < 65536) (hx : 0 ≤ x ∧ x < 65536) (hk0 : 0 ≤ k) (hk : k ≤ 26) (hQ : ∀ h, (∀ d, d ≠ 14 → h d = h0 d) → (∀ i, 0 ≤ i → i ≤ 26 → h 14 i = mvk f x k i) → Q [aI k] am_R0 h) : ∀ (d : Nat) (i : Int) (h : Hh), i = d → i ≤ k → (∀ d, d ≠ 14 → h d = h0 d) → (∀ j, 0 ≤ j → j ≤ 26 → h 14 j = if i < j ∧ j ≤ k then f (j - 1) else f j) → am_V M_X7_moveToFront kc ks 31 [aR 9, aI x, aI k, aI i] [] am_R0 h Q X := by
  intro d
  induction d with
  | zero =>
    intro i h hi hik hfr hz
    refine S_X7_moveToFront_31 ⟨fun _ => ⟨by omega, ?_⟩, fun z => absurd z (by omega)⟩
    rw [Int.emod_eq_of_lt hx.1 hx.2]
    refine hQ _ (fun d hd => by rw [am_st_o hd]; exact hfr d hd) (fun j j0 j1 => ?_)
    rw [am_st_i]
    unfold mvk
    by_cases e : j = 0
    · rw [if_pos e, if_pos e]
    · rw [if_neg e, if_neg e, hz j j0 j1]
      by_cases e2 : j ≤ k
      · rw [if_pos ⟨by omega, e2⟩, if_pos e2]
      · rw [if_neg (fun y => e2 y.2), if_neg e2]
  | succ d ih =>
    intro i h hi hik hfr hz
    have e1 := hz (i - 1) (by omega) (by omega)
    rw [if_neg (by omega)] at e1
    have hr := hf (i - 1) (by omega) (by omega)
    refine S_X7_moveToFront_31 ⟨fun z => absurd z (by omega), fun _ => ⟨by omega, ?_⟩⟩
    rw [e1, Int.emod_eq_of_lt hr.1 hr.2]
    refine ih (i + -1) _ (by omega) (by omega) (fun d hd => by rw [am_st_o hd]; exact hfr d hd) (fun j j0 j1 => ?_)
    rw [am_st_i]
    by_cases e : j = i
    · rw [if_pos e, if_pos (by omega), e]
    · rw [if_neg e, hz j j0 j1]
      by_cases e2 : i < j ∧ j ≤ k
      · rw [if_pos e2, if_pos (by omega)]
      · rw [if_neg e2, if_neg (by omega)]
theorem C_mtf_1 {kc ks : Nat} {Q : PQ} {X : PX} {f : Int → Int} {x k : Int} (h : Hh) (hf : HASV f) (hx : ty x) (hk : LK f x k) (h14 : ∀ i, 0 ≤ i → i ≤ 26 → h 14 i = f i) (hQ : ∀ h', (∀ d, d ≠ 14 → h' d = h d) → (∀ i, 0 ≤ i → i ≤ 26 → h' 14 i = mvk f x k i) → Q [aI k] am_R0 h') : ∀ (d : Nat) (i : Int), i + d = k → 0 ≤ i → am_V M_X7_moveToFront kc ks 2 [aR 9, aI x, aI i, aU] [] am_R0 h Q X := by
  have hr : ∀ i, 0 ≤ i → i ≤ 26 → 0 ≤ f i ∧ f i < 65536 := fun i i0 i1 => by
    have := hf.1 i i0 i1
    unfold ty at this
    omega
  have hx2 : 0 ≤ x ∧ x < 65536 := by unfold ty at hx; omega
  obtain ⟨k0, k1, k2, k3⟩ := hk
  intro d
  induction d with
  | zero =>
    intro i hi i0
    have : i = k := by omega
    subst this
    have fin : am_V M_X7_moveToFront kc ks 31 [aR 9, aI x, aI i, aI i] [] am_R0 h Q X := C_mtf_2 h hr hx2 k0 k1 hQ i.toNat i h (by omega) (Int.le_refl _) (fun _ _ => rfl) (fun j j0 j1 => by rw [if_neg (by omega)]; exact h14 j j0 j1)
    exact S_X7_moveToFront_2 ⟨by omega, fun _ => fin, fun z => ⟨by omega, fun _ => fin, fun y => absurd (by rw [h14 i i0 k1]; exact k2) y⟩⟩
  | succ d ih =>
    intro i hi i0
    have e := h14 i i0 (by omega)
    exact S_X7_moveToFront_2 ⟨by omega, fun z => absurd z (by omega), fun z => ⟨by omega, fun y => absurd (e.symm.trans y) (k3 i i0 (by omega)), fun y => ⟨by omega, ih (i + 1) (by omega) (by omega)⟩⟩⟩
theorem C_mor_2 {kc ks : Nat} {Q : PQ} {X : PX} {a n R : Nat} {s pl ra : Int → Int} (h0 : Hh) (hC : CT h0 a n s pl ra) (hR : R ≤ n) (hQ : ∀ h, (∀ d, d ≠ 14 → h d = h0 d) → Q [aI (lk (fro (LSg s n pl) R) (LSg s n pl R))] am_R0 h) : ∀ (d m : Nat) (x : Int) (h : Hh), m + d = R + 1 → (m = R + 1 → x = lk (fro (LSg s n pl) R) (LSg s n pl R)) → (∀ d, d ≠ 14 → h d = h0 d) → (∀ i, 0 ≤ i → i ≤ 26 → h 14 i = fro (LSg s n pl) m i) → am_V M_X7_moveOfRow kc ks 43 [aR 9, aR a, aI R, aI x, aI m] [] am_R0 h Q X := by
  obtain ⟨t0, h64, hn, -, -, -, hs, hSA, -⟩ := id hC
  intro d
  induction d with
  | zero =>
    intro m x h hm hx hf hz
    refine S_X7_moveOfRow_43 t0 ⟨fun _ => ?_, fun z => absurd z (by omega)⟩
    rw [hx (by omega)]
    exact hQ h hf
  | succ d ih =>
    intro m x h hm hx hf hz
    have hC' : CT h a n s pl ra := NK.ct (h := h0) (fun d hd => hf d (by unfold SIMcell at hd; omega)) hC
    have hty : ty (LSg s n pl m) := LS_ty hs hSA (by omega) (by omega)
    have hH := fro_HASV (L := LSg s n pl) m (fun i i0 i1 => LS_ty hs hSA i0 (by omega))
    refine S_X7_moveOfRow_43 t0 ⟨fun z => absurd z (by omega), fun _ => C_lastSign hC' (by omega) (by omega) (S_X7_moveOfRow_56 t0 (S_X7_moveToFront_0 (C_mtf_1 h hH hty (lk_at hH hty) hz (fun h' hf' hz' => S_X7_moveOfRow_59 t0 ⟨by omega, ih (m + 1) _ h' (by omega) (fun e => ?_) (fun d hd => by rw [hf' d hd]; exact hf d hd) hz'⟩) (lk (fro (LSg s n pl) m) (LSg s n pl m)).toNat 0 (by have := (lk_at hH hty).1; omega) (Int.le_refl 0))))⟩
    have : m = R := by omega
    rw [this]
theorem C_mor_1 {kc ks : Nat} {Q : PQ} {X : PX} {a : Nat} {R : Int} (t0 : isT a) (h0 : Hh) (k : ∀ h, (∀ d, d ≠ 14 → h d = h0 d) → (∀ i, 0 ≤ i → i ≤ 26 → h 14 i = if i = 0 then 36 else 96 + i) → am_V M_X7_moveOfRow kc ks 43 [aR 9, aR a, aI R, aI 0, aI 0] [] am_R0 h Q X) : ∀ (d : Nat) (i : Int) (h : Hh), i + d = 27 → 1 ≤ i → (∀ d, d ≠ 14 → h d = h0 d) → (∀ j, 0 ≤ j → j < i → h 14 j = if j = 0 then 36 else 96 + j) → am_V M_X7_moveOfRow kc ks 10 [aR 9, aR a, aI R, aI i, aU] [] am_R0 h Q X := by
  intro d
  induction d with
  | zero =>
    intro i h hi i1 hf hz
    exact S_X7_moveOfRow_10 t0 ⟨fun _ => k h hf (fun j j0 j1 => hz j j0 (by omega)), fun z => absurd z (by omega)⟩
  | succ d ih =>
    intro i h hi i1 hf hz
    refine S_X7_moveOfRow_10 t0 ⟨fun z => absurd z (by omega), fun _ => ⟨by omega, ?_⟩⟩
    rw [Int.emod_eq_of_lt (a := 97 + i - 1) (by omega) (by omega), Int.emod_eq_of_lt (by omega) (by omega)]
    refine ih (i + 1) _ (by omega) (by omega) (fun d hd => by rw [am_st_o hd]; exact hf d hd) (fun j j0 j1 => ?_)
    rw [am_st_i]
    by_cases e : j = i
    · rw [if_pos e, if_neg (by omega)]; omega
    · rw [if_neg e]
      exact hz j j0 (by omega)
theorem M_fr_3 {kc ks : Nat} {Q : PQ} {X : PX} {t R m : Int} {n : Nat} {s pl ra : Int → Int} {f : Int → Int} {k : Int} (g : Hh) (hT : MT g t n s) (hSA : SA s n pl ra) (h77 : ∀ r, 0 ≤ r → r ≤ (n : Int) → g 77 r = tp n pl r) (hm : 0 ≤ m) (hmn : m ≤ n) (hf : ∀ i, 0 ≤ i → i ≤ 26 → 0 ≤ f i ∧ f i < 65536) (hk0 : 0 ≤ k) (hk : k ≤ 26) (hQ : ∀ h, (∀ d, d ≠ 80 → h d = g d) → (∀ i, 0 ≤ i → i ≤ 26 → h 80 i = mvk f (LSg s n pl m) k i) → am_V M_X11_front kc ks 51 [aR 72, aI t, aI R, aI k, aI (m + 1), aU] [] am_R0 h Q X) : ∀ (d : Nat) (i : Int) (h : Hh), i = d → i ≤ k → (∀ d, d ≠ 80 → h d = g d) → (∀ j, 0 ≤ j → j ≤ 26 → h 80 j = if i < j ∧ j ≤ k then f (j - 1) else f j) → am_V M_X11_front kc ks 84 [aR 72, aI t, aI R, aI k, aI m, aI i] [] am_R0 h Q X := by
  have hs := hT.2.2.2.1
  have h64 := hT.2.1
  intro d
  induction d with
  | zero =>
    intro i h hi hik hfr hz
    have hT' : MT h t n s := hT.of (hfr 73 (by decide)) (hfr 74 (by decide))
    have hty := LS_ty hs hSA hm hmn
    refine S_X11_front_84 ⟨fun _ => M_lastAt hT' hSA (fun r r0 r1 => by rw [hfr 77 (by decide)]; exact h77 r r0 r1) hm hmn (S_X11_front_123 ⟨by omega, ?_⟩), fun z => absurd z (by omega)⟩
    rw [Int.emod_eq_of_lt (by omega) (by omega)]
    refine hQ _ (fun d hd => by rw [am_st_o hd]; exact hfr d hd) (fun j j0 j1 => ?_)
    rw [am_st_i]
    unfold mvk
    by_cases e : j = 0
    · rw [if_pos e, if_pos e]
    · rw [if_neg e, if_neg e, hz j j0 j1]
      by_cases e2 : j ≤ k
      · rw [if_pos ⟨by omega, e2⟩, if_pos e2]
      · rw [if_neg (fun y => e2 y.2), if_neg e2]
  | succ d ih =>
    intro i h hi hik hfr hz
    have e1 := hz (i - 1) (by omega) (by omega)
    rw [if_neg (by omega)] at e1
    have hr := hf (i - 1) (by omega) (by omega)
    refine S_X11_front_84 ⟨fun z => absurd z (by omega), fun _ => ⟨by omega, ?_⟩⟩
    rw [e1, Int.emod_eq_of_lt hr.1 hr.2]
    refine ih (i + -1) _ (by omega) (by omega) (fun d hd => by rw [am_st_o hd]; exact hfr d hd) (fun j j0 j1 => ?_)
    rw [am_st_i]
    by_cases e : j = i
    · rw [if_pos e, if_pos (by omega), e]
    · rw [if_neg e, hz j j0 j1]
      by_cases e2 : i < j ∧ j ≤ k
      · rw [if_pos e2, if_pos (by omega)]
      · rw [if_neg e2, if_neg (by omega)]
theorem M_fr_2 {kc ks : Nat} {Q : PQ} {X : PX} {t R m : Int} {n : Nat} {s pl ra : Int → Int} {f : Int → Int} {k : Int} (h : Hh) (hT : MT h t n s) (hSA : SA s n pl ra) (h77 : ∀ r, 0 ≤ r → r ≤ (n : Int) → h 77 r = tp n pl r) (hm : 0 ≤ m) (hmn : m ≤ n) (hk : LK f (LSg s n pl m) k) (h80 : ∀ i, 0 ≤ i → i ≤ 26 → h 80 i = f i) (hQ : am_V M_X11_front kc ks 84 [aR 72, aI t, aI R, aI k, aI m, aI k] [] am_R0 h Q X) : ∀ (d : Nat) (i : Int), i + d = k → 0 ≤ i → am_V M_X11_front kc ks 59 [aR 72, aI t, aI R, aI i, aI m, aU] [] am_R0 h Q X := by
  obtain ⟨k0, k1, k2, k3⟩ := hk
  intro d
  induction d with
  | zero =>
    intro i hi i0
    have : i = k := by omega
    subst this
    exact S_X11_front_59 ⟨by omega, M_lastAt hT hSA h77 hm hmn (S_X11_front_72 ⟨fun _ => hQ, fun y => absurd (by rw [h80 i i0 k1]; exact k2) y⟩)⟩
  | succ d ih =>
    intro i hi i0
    exact S_X11_front_59 ⟨by omega, M_lastAt hT hSA h77 hm hmn (S_X11_front_72 ⟨fun y => absurd ((h80 i i0 (by omega)).symm.trans y) (k3 i i0 (by omega)), fun y => ⟨by omega, ih (i + 1) (by omega) (by omega)⟩⟩)⟩
theorem M_fr_1 {kc ks : Nat} {Q : PQ} {X : PX} {t : Int} {n R : Nat} {s pl ra : Int → Int} (g : Hh) (hT : MT g t n s) (hSA : SA s n pl ra) (h77 : ∀ r, 0 ≤ r → r ≤ (n : Int) → g 77 r = tp n pl r) (hR : R ≤ n) (hQ : ∀ h, (∀ d, d ≠ 80 → h d = g d) → Q [aI (lk (fro (LSg s n pl) R) (LSg s n pl R))] am_R0 h) : ∀ (d m : Nat) (x : Int) (h : Hh), m + d = R + 1 → (m = R + 1 → x = lk (fro (LSg s n pl) R) (LSg s n pl R)) → (∀ d, d ≠ 80 → h d = g d) → (∀ i, 0 ≤ i → i ≤ 26 → h 80 i = fro (LSg s n pl) m i) → am_V M_X11_front kc ks 51 [aR 72, aI t, aI R, aI x, aI m, aU] [] am_R0 h Q X := by
  have hs := hT.2.2.2.1
  have h64 := hT.2.1
  intro d
  induction d with
  | zero =>
    intro m x h hm hx hf hz
    refine S_X11_front_51 ⟨fun _ => ?_, fun z => absurd z (by omega)⟩
    rw [hx (by omega)]
    exact hQ h hf
  | succ d ih =>
    intro m x h hm hx hf hz
    have hT' : MT h t n s := hT.of (hf 73 (by decide)) (hf 74 (by decide))
    have h77' : ∀ r, 0 ≤ r → r ≤ (n : Int) → h 77 r = tp n pl r := fun r r0 r1 => by rw [hf 77 (by decide)]; exact h77 r r0 r1
    have hty : ty (LSg s n pl m) := LS_ty hs hSA (by omega) (by omega)
    have hH := fro_HASV (L := LSg s n pl) m (fun i i0 i1 => LS_ty hs hSA i0 (by omega))
    have hL := lk_at hH hty
    have hr : ∀ i, 0 ≤ i → i ≤ 26 → 0 ≤ fro (LSg s n pl) m i ∧ fro (LSg s n pl) m i < 65536 := fun i i0 i1 => by
      have := hH.1 i i0 i1
      unfold ty at this
      omega
    refine S_X11_front_51 ⟨fun z => absurd z (by omega), fun _ => M_fr_2 h hT' hSA h77' (by omega) (by omega) hL hz (M_fr_3 h hT' hSA h77' (m := m) (by omega) (by omega) hr hL.1 hL.2.1 (fun h' hf' hz' => ih (m + 1) _ h' (by omega) (fun e => ?_) (fun d hd => by rw [hf' d hd]; exact hf d hd) hz') (lk (fro (LSg s n pl) m) (LSg s n pl m)).toNat _ h (by have := hL.1; omega) (Int.le_refl _) (fun _ _ => rfl) (fun j j0 j1 => by rw [if_neg (by omega)]; exact hz j j0 j1)) (lk (fro (LSg s n pl) m) (LSg s n pl m)).toNat 0 (by have := hL.1; omega) (Int.le_refl 0)⟩
    have : m = R := by omega
    rw [this]
theorem M_fr_0 {kc ks : Nat} {Q : PQ} {X : PX} {t R : Int} (h0 : Hh) (k : ∀ h, (∀ d, d ≠ 80 → h d = h0 d) → (∀ i, 0 ≤ i → i ≤ 26 → h 80 i = if i = 0 then 36 else 96 + i) → am_V M_X11_front kc ks 51 [aR 72, aI t, aI R, aI 0, aI 0, aU] [] am_R0 h Q X) : ∀ (d : Nat) (i : Int) (h : Hh), i + d = 27 → 1 ≤ i → (∀ d, d ≠ 80 → h d = h0 d) → (∀ j, 0 ≤ j → j < i → h 80 j = if j = 0 then 36 else 96 + j) → am_V M_X11_front kc ks 21 [aR 72, aI t, aI R, aI i, aU, aU] [] am_R0 h Q X := by
  intro d
  induction d with
  | zero =>
    intro i h hi i1 hf hz
    exact S_X11_front_21 ⟨fun _ => k h hf (fun j j0 j1 => hz j j0 (by omega)), fun z => absurd z (by omega)⟩
  | succ d ih =>
    intro i h hi i1 hf hz
    refine S_X11_front_21 ⟨fun z => absurd z (by omega), fun _ => ⟨by omega, ?_⟩⟩
    rw [Int.emod_eq_of_lt (a := 97 + i - 1) (by omega) (by omega), Int.emod_eq_of_lt (by omega) (by omega)]
    refine ih (i + 1) _ (by omega) (by omega) (fun d hd => by rw [am_st_o hd]; exact hf d hd) (fun j j0 j1 => ?_)
    rw [am_st_i]
    by_cases e : j = i
    · rw [if_pos e, if_neg (by omega)]; omega
    · rw [if_neg e]
      exact hz j j0 (by omega)
theorem T_front {kc ks : Nat} {h : Hh} {t r : Int} (hS : SIM h) (hkc : 2 ≤ kc) (hks : 12 ≤ ks) : am_V M_X10_front kc ks 0 [aR 0, aI t, aI r] [] am_R0 h (PQok M_X11_front [aR 72, aI t, aI r, aU, aU, aU] aI) (PXok M_X11_front [aR 72, aI t, aI r, aU, aU, aU] aI [xIO]) := by
  by_cases z : isRx h t r
  · obtain ⟨n, s, pl, ra, hC, hM, hrn⟩ := z.get hS
    have r0 := z.2.1
    have hSA := hC.2.2.2.2.2.2.2.1
    obtain ⟨R, rfl⟩ : ∃ R : Nat, r = R := ⟨r.toNat, by omega⟩
    refine S_X10_front_0 ⟨by omega, C_knownWithRow hS z.1 hC r0 hrn (by omega) (by omega) (S_X10_front_10 hC.1 (S_X7_moveOfRow_0 hC.1 ⟨by omega, C_mor_1 hC.1 h (fun h1 f1 z1 => C_mor_2 h hC (by omega) (fun h2 f2 => S_X10_front_14 (PQ.good hS (fun d hd => f2 d (by unfold SIMcell at hd; omega)) fun kc ks Q X g hN hS' k => S_X11_front_0 (M_isNoRow1 hS' (hN.rx.mpr z) (hN.mt hM) hSA fun h3 m h77 y => S_X11_front_6 ⟨fun _ => ⟨by omega, M_fr_0 h3 (fun h4 f4 z4 => M_fr_1 h3 (m.mt (hN.mt hM)) hSA h77 (by omega) (fun h5 f5 => k h5 (m.tr (MK.of fun d _ _ _ _ d5 => f5 d d5)) (by rw [f5 72 (by decide)]; exact y)) (R + 1) 0 0 h4 (by omega) (fun e => by omega) f4 z4) 26 1 _ (by omega) (Int.le_refl 1) (fun d hd => am_st_o hd) (fun j j0 j1 => by rw [show j = 0 by omega, am_st_s]; rfl)⟩, fun w => absurd rfl w⟩))) (R + 1) 0 0 h1 (by omega) (fun e => by omega) f1 z1) 26 1 _ (by omega) (Int.le_refl 1) (fun d hd => am_st_o hd) (fun j j0 j1 => by rw [show j = 0 by omega, am_st_s]; rfl)⟩))⟩
  · exact S_X10_front_0 ⟨by omega, C_knownWithRow0 hS z (by omega) (by omega) (PX.bad 0 hS (NK.rf h) rfl fun kc ks Q X hS' k => S_X11_front_0 (M_isNoRow0 hS z fun h2 m y => S_X11_front_6 ⟨fun w => absurd w (by decide), fun _ => k 0 h2 m y⟩))⟩
