/-! longestIn: the class's best word -/
theorem RIM_of {R : Int → Int} {M many : Nat} {r : Int} (h0 : 0 ≤ r) (h1 : r = 0 ∨ ∃ i : Int, 0 ≤ i ∧ i < M ∧ r = R i ∧ many ≤ cnt (fun o => R i ≤ R o) M) (h2 : ∀ i : Int, 0 ≤ i → i < M → many ≤ cnt (fun o => R i ≤ R o) M → R i ≤ r) : RIM R M many r := ⟨h0, h1, h2⟩
theorem C_rim_18 {kc ks : Nat} {h : Hh} {Q : PQ} {X : PX} {x1 x4 : Int} {M i : Nat} {many : Int} {R : Int → Int} (hR : ∀ o, 0 ≤ o → o < (M : Int) → h (17 + o.toNat) x1 = R o) (hM : M ≤ 8) (hi : i < M) (hx1 : 0 ≤ x1 ∧ x1 < 64) (hQ1 : many ≤ cnt (fun o => R i ≤ R o) M → am_V M_X5_reachedInMany kc ks 6 [aR 15, aI x1, aI M, aI many, aI (max x4 (R i)), aI ((i : Int) + 1), aU, aU] [] am_R0 h Q X) (hQ0 : cnt (fun o => R i ≤ R o) M < many → am_V M_X5_reachedInMany kc ks 6 [aR 15, aI x1, aI M, aI many, aI x4, aI ((i : Int) + 1), aU, aU] [] am_R0 h Q X) : ∀ (d o : Nat), o + d = M → am_V M_X5_reachedInMany kc ks 18 [aR 15, aI x1, aI M, aI many, aI x4, aI i, aI (cnt (fun o => R i ≤ R o) o), aI o] [] am_R0 h Q X := by
  intro d
  induction d with
  | zero =>
    intro o ho
    have : o = M := by omega
    subst this
    refine S_X5_reachedInMany_18 ⟨fun _ => ⟨fun z => ⟨by omega, hQ0 z⟩, fun z => ⟨by omega, ?_⟩⟩, fun z => absurd z (by omega)⟩
    rw [hR i (by omega) (by omega)]
    exact hQ1 z
  | succ d ih =>
    intro o ho
    have hle := cnt_le (fun o => R i ≤ R o) o
    have hnext := ih (o + 1) (by omega)
    refine S_X5_reachedInMany_18 ⟨fun z => absurd z (by omega), fun _ => ⟨by omega, ?_⟩⟩
    rw [hR i (by omega) (by omega), hR o (by omega) (by omega)]
    refine ⟨fun z => ⟨by omega, ?_⟩, fun z => ⟨by omega, ?_⟩⟩
    · rw [cnt_f (P := fun o => R i ≤ R o) (by omega)] at hnext
      exact hnext
    · rw [cnt_t (P := fun o => R i ≤ R o) z] at hnext
      exact hnext
theorem C_rim_6 {kc ks : Nat} {h : Hh} {Q : PQ} {X : PX} {x1 : Int} {M many : Nat} {R : Int → Int} (hR : ∀ o, 0 ≤ o → o < (M : Int) → h (17 + o.toNat) x1 = R o) (hM : M ≤ 8) (hx1 : 0 ≤ x1 ∧ x1 < 64) (hQ : ∀ r, RIM R M many r → Q [aI r] am_R0 h) : ∀ (d i : Nat) (r : Int), i + d = M → 0 ≤ r → (r = 0 ∨ ∃ i : Int, 0 ≤ i ∧ i < M ∧ r = R i ∧ many ≤ cnt (fun o => R i ≤ R o) M) → (∀ j : Int, 0 ≤ j → j < i → many ≤ cnt (fun o => R j ≤ R o) M → R j ≤ r) → am_V M_X5_reachedInMany kc ks 6 [aR 15, aI x1, aI M, aI many, aI r, aI i, aU, aU] [] am_R0 h Q X := by
  intro d
  induction d with
  | zero =>
    intro i r hi r0 r1 r2
    have : i = M := by omega
    subst this
    exact S_X5_reachedInMany_6 ⟨fun _ => hQ r ⟨r0, r1, r2⟩, fun z => absurd z (by omega)⟩
  | succ d ih =>
    intro i r hi r0 r1 r2
    refine S_X5_reachedInMany_6 ⟨fun z => absurd z (by omega), fun _ => C_rim_18 hR hM (by omega) hx1 (fun z => ih (i + 1) _ (by omega) (by omega) ?_ (fun j j0 j1 j2 => ?_)) (fun z => ih (i + 1) r (by omega) r0 r1 (fun j j0 j1 j2 => ?_)) M 0 (by omega)⟩
    · by_cases e : R i ≤ r
      · rw [show max r (R i) = r by omega]; exact r1
      · rw [show max r (R i) = R i by omega]; exact Or.inr ⟨i, by omega, by omega, rfl, by omega⟩
    · by_cases e : j = i
      · rw [e]; omega
      · have := r2 j j0 (by omega) j2; omega
    · by_cases e : j = i
      · rw [e] at j2; omega
      · exact r2 j j0 (by omega) j2
theorem C_isBetter {kc ks : Nat} {h : Hh} {Q : PQ} {X : PX} {a b n m : Nat} {s pl ra s' pl' ra' : Int → Int} {p q r l : Int} (hC : CT h a n s pl ra) (hC' : CT h b m s' pl' ra') (hp : 0 ≤ p) (hpr : p + r ≤ n) (hq : 0 ≤ q) (hql : q + l ≤ m) (hl : 0 ≤ l) (h151 : h 15 1 = q) (h152 : h 15 2 = l) (h1 : (l < r ∨ r = l ∧ WL s s' p q l.toNat) → Q [aI 1] am_R0 h) (h0 : (r < l ∨ r = l ∧ ¬ WL s s' p q l.toNat) → Q [aI 0] am_R0 h) : am_V M_X5_isBetter kc ks 0 [aR 15, aR a, aI p, aI r, aR b, aU] [] am_R0 h Q X := by
  obtain ⟨t0, n64, hn, e1, -, -, hs, -, -⟩ := id hC
  obtain ⟨t0', m64, hm, e1', -, -, hs', -, -⟩ := id hC'
  refine S_X5_isBetter_0 t0 t0' ?_
  rw [h151, h152]
  refine ⟨fun z => ?_, fun z => ⟨fun y => h0 (Or.inl (by omega)), fun y => h1 (Or.inl y)⟩⟩
  have hw := WL_Lc (s := s) (s' := s') (n := n) (m := m) (p := p) (q := q) (l := l.toNat) (by omega) (by omega)
  refine C_likeSigns hC hC' hp (by omega) hq (by omega) (S_X5_isBetter_33 t0 t0' ?_)
  have c1 := Lc_1 (s := s) (t := s') (n := n) (m := m) (p := p) (q := q) (by omega) (by omega)
  have c2 := Lc_2 (s := s) (t := s') (n := n) (m := m) (p := p) (q := q) (by omega) (by omega)
  rw [h151, e1, e1']
  refine ⟨fun y => h0 (Or.inr ⟨z, fun w => ?_⟩), fun y => ⟨by omega, fun x => h0 (Or.inr ⟨z, fun w => ?_⟩), fun x => h1 (Or.inr ⟨z, hw.mpr ⟨by omega, x⟩⟩)⟩⟩
  · have := (hw.mp w).1; omega
  · have := (hw.mp w).2; omega
/-- all texts -/
def CTS (h : Hh) (M : Nat) (N : Int → Nat) (S PL RA : Int → Int → Int) : Prop := M ≤ 8 ∧ ∀ t, 0 ≤ t → t < (M : Int) → CT h (ta t) (N t) (S t) (PL t) (RA t)
theorem CTS.low {h h' : Hh} {M : Nat} {N : Int → Nat} {S PL RA : Int → Int → Int} (hC : CTS h M N S PL RA) (hf : ∀ d, 32 ≤ d → d ≤ 71 → h' d = h d) : CTS h' M N S PL RA := ⟨hC.1, fun t t0 t1 => (hC.2 t t0 t1).low hf⟩
theorem CTS.tx {h : Hh} {M : Nat} {N : Int → Nat} {S PL RA : Int → Int → Int} (hC : CTS h M N S PL RA) : TX M N S PL RA := fun t t0 t1 => ⟨(hC.2 t t0 t1).2.1, (hC.2 t t0 t1).2.2.2.2.2.2.1, (hC.2 t t0 t1).2.2.2.2.2.2.2.1⟩
theorem SIM.cts {h : Hh} (hS : SIM h) : ∃ (M : Nat) (N : Int → Nat) (S PL RA : Int → Int → Int), h 0 9 = M ∧ CTS h M N S PL RA ∧ ∀ t, 0 ≤ t → t < (M : Int) → MT h t (N t) (S t) := by
  obtain ⟨a0, a1, a2⟩ := hS.1
  refine ⟨(h 0 9).toNat, fun t => (h (ta t) 4).toNat, fun t => h (ta t + 1), fun t => h (ta t + 2), fun t => h (ta t + 3), by omega, ⟨by omega, fun t t0 t1 => ?_⟩, fun t t0 t1 => ?_⟩
  · obtain ⟨n, s, pl, ra, hC, hM⟩ := hS.txt (t := t) ⟨t0, by omega⟩
    obtain ⟨q1, q2, q3, q4, q5, q6, q7, q8, q9⟩ := id hC
    have e : (h (ta t) 4).toNat = n := by omega
    show CT h (ta t) (h (ta t) 4).toNat (h (ta t + 1)) (h (ta t + 2)) (h (ta t + 3))
    rw [e, q4, q5, q6]
    exact hC
  · obtain ⟨n, s, pl, ra, hC, hM⟩ := hS.txt (t := t) ⟨t0, by omega⟩
    obtain ⟨q1, q2, q3, q4, q5, q6, q7, q8, q9⟩ := id hC
    have e : (h (ta t) 4).toNat = n := by omega
    show MT h t (h (ta t) 4).toNat (h (ta t + 1))
    rw [e, q4]
    exact hM
/-- looked at: all texts below i, and of i the places below c -/
def LKD (N : Int → Nat) (i c : Int) (a q : Int) : Prop := 0 ≤ a ∧ 0 ≤ q ∧ q < N a ∧ (a < i ∨ a = i ∧ q < c)
theorem k17 {o : Int} (h0 : 0 ≤ o) (h8 : o < 8) : am_R0.1[17 + o.toNat]? = some (0, 64) := by
  obtain ⟨n, rfl⟩ : ∃ n : Nat, o = n := ⟨o.toNat, by omega⟩
  rw [Int.toNat_natCast]
  have : n < 8 := by omega
  rcases n with _ | _ | _ | _ | _ | _ | _ | _ | n
  iterate 8 rfl
  omega
def SFR (h0 h : Hh) : Prop := ∀ d, d ≠ 15 → (d < 17 ∨ 24 < d) → h d = h0 d
theorem C_se_31 {kc ks : Nat} {Q : PQ} {X : PX} {M : Nat} {N : Int → Nat} {S PL RA : Int → Int → Int} {x3 x4 i : Int} (h0 : Hh) (hC : CTS h0 M N S PL RA) (hi0 : 0 ≤ i) (hiM : i < M) (hQ : ∀ h : Hh, (∀ d, (d < 17 ∨ 24 < d) → h d = h0 d) → (∀ o p, 0 ≤ o → o < (M : Int) → 0 ≤ p → p < (N i : Int) → ∃ v : Nat, h (17 + o.toNat) p = v ∧ RV (S i) (N i) (S o) (N o) (PL o) p v) → am_V M_X5_search kc ks 63 [aR 15, aR 1, aI M, aI x3, aI x4, aI i, aR (ta i), aI 0, aU] [] am_R0 h Q X) : ∀ (d j : Nat) (h : Hh), j + d = M → (∀ d, (d < 17 ∨ 24 < d) → h d = h0 d) → (∀ o p, 0 ≤ o → o < (j : Int) → 0 ≤ p → p < (N i : Int) → ∃ v : Nat, h (17 + o.toNat) p = v ∧ RV (S i) (N i) (S o) (N o) (PL o) p v) → am_V M_X5_search kc ks 31 [aR 15, aR 1, aI M, aI x3, aI x4, aI i, aR (ta i), aI j, aU] [] am_R0 h Q X := by
  have hM8 := hC.1
  have ti : isT (ta i) := (hC.2 i hi0 hiM).1
  intro d
  induction d with
  | zero =>
    intro j h hj hf hz
    have : j = M := by omega
    subst this
    exact S_X5_search_31 ti ⟨fun _ => hQ h hf hz, fun z => absurd z (by omega)⟩
  | succ d ih =>
    intro j h hj hf hz
    have hCh := hC.low (h' := h) (fun d d0 d1 => hf d (by omega))
    refine S_X5_search_31 ti ⟨fun z => absurd z (by omega), fun _ => ⟨by omega, ?_⟩⟩
    have := C_tellReach (kc := 0) (ks := 0) (X := X) (Q := fun v ρ' h' => am_V M_X5_search kc ks 54 [aR 15, aR 1, aI M, aI x3, aI x4, aI i, aR (ta i), aI j, aU] (v ++ []) ρ' h' Q X) (a3 := 17 + (j : Int).toNat) (k17 (by omega) (by omega)) rfl (by omega) h (hCh.2 i hi0 hiM) (hCh.2 j (by omega) (by omega)) (fun h2 f2 y2 => S_X5_search_54 ti ⟨by omega, ih (j + 1) h2 (by omega) (fun d hd => by rw [f2 d (by omega)]; exact hf d hd) (fun o p o0 o1 p0 p1 => ?_)⟩)
    · exact this
    · by_cases e : o = j
      · rw [e]; exact y2 p p0 p1
      · rw [f2 _ (by omega)]
        exact hz o p o0 (by omega) p0 p1
theorem C_se_63 {kc ks : Nat} {Q : PQ} {X : PX} {M many : Nat} {N : Int → Nat} {S PL RA : Int → Int → Int} {i : Int} (h1 : 1 ≤ many) (h0 : Hh) (hC : CTS h0 M N S PL RA) (hi0 : 0 ≤ i) (hiM : i < M) (hz : ∀ o p, 0 ≤ o → o < (M : Int) → 0 ≤ p → p < (N i : Int) → ∃ v : Nat, h0 (17 + o.toNat) p = v ∧ RV (S i) (N i) (S o) (N o) (PL o) p v) (hQ : ∀ (h : Hh) (b : Int), (∀ d, d ≠ 15 → h d = h0 d) → CB M many N S PL (LKD N (i + 1) 0) b (h 15 1) (h 15 2) → am_V M_X5_search kc ks 16 [aR 15, aR 1, aI M, aI many, aI b, aI (i + 1), aU, aU, aU] [] am_R0 h Q X) : ∀ (d c : Nat) (b : Int) (h : Hh), c + d = N i → (∀ d, d ≠ 15 → h d = h0 d) → CB M many N S PL (LKD N i c) b (h 15 1) (h 15 2) → am_V M_X5_search kc ks 63 [aR 15, aR 1, aI M, aI many, aI b, aI i, aR (ta i), aI c, aU] [] am_R0 h Q X := by
  have hM8 := hC.1
  have hCi := hC.2 i hi0 hiM
  have ti : isT (ta i) := hCi.1
  have n64 := hCi.2.1
  have hT := hC.tx
  have h32 : 32 ≤ ta i := by unfold ta; omega
  intro d
  induction d with
  | zero =>
    intro c b h hc hf hB
    have e4 : h (ta i) 4 = N i := by rw [hf _ (by omega)]; exact hCi.2.2.1
    refine S_X5_search_63 ti ⟨fun _ => ⟨by omega, hQ h b hf (CB_end hB (fun a x z => Or.inl ?_))⟩, fun z => absurd z (by omega)⟩
    obtain ⟨z0, z1, z2, z3⟩ := z
    refine ⟨z0, z1, z2, ?_⟩
    by_cases e : a = i
    · rw [e] at z2; exact Or.inr ⟨e, by omega⟩
    · exact Or.inl (by omega)
  | succ d ih =>
    intro c b h hc hf hB
    have hCh := hC.low (h' := h) (fun d d0 d1 => hf d (by omega))
    have e4 : h (ta i) 4 = N i := by rw [hf _ (by omega)]; exact hCi.2.2.1
    have hl0 := hB.1
    have hl64 : h 15 2 ≤ 64 := by
      rcases hB.2.1 with y | y
      · omega
      · have := y.2.2.2.1
        have := hT b y.2.1.1 y.2.1.2
        omega
    refine S_X5_search_63 ti ⟨fun z => absurd z (by omega), fun _ => ⟨by omega, fun z => ⟨by omega, hQ h b hf (CB_end hB (fun a x w => ?_))⟩, fun z => ?_⟩⟩
    · obtain ⟨z0, z1, z2, z3⟩ := w
      by_cases e : a = i ∧ ¬ x < c
      · exact Or.inr (by rw [e.1]; omega)
      · refine Or.inl ⟨z0, z1, z2, ?_⟩
        by_cases e2 : a = i
        · exact Or.inr ⟨e2, by omega⟩
        · exact Or.inl (by omega)
    · refine S_X5_reachedInMany_0 (C_rim_6 (R := fun o => h (17 + o.toNat) c) (many := many) (fun o _ _ => rfl) hM8 (by omega) (fun r hr => ?_) M 0 0 (by omega) (Int.le_refl 0) (Or.inl rfl) (fun j j0 j1 => by omega))
      have hRC : RCH M many N S PL i c r := ⟨fun o => h (17 + o.toNat) c, fun o o0 o1 => by
        obtain ⟨v, v0, v1⟩ := hz o c o0 o1 (by omega) (by omega)
        refine ⟨v, ?_, v1⟩
        show h (17 + o.toNat) c = v
        rw [hf _ (by omega)]
        exact v0, hr⟩
      have hr0 := hr.1
      have hg : ∀ a x, LKD N i ((c + 1 : Nat) : Int) a x → LKD N i c a x ∨ a = i ∧ x = c := fun a x w => by
        obtain ⟨z0, z1, z2, z3⟩ := w
        by_cases e : a = i ∧ x = c
        · exact Or.inr e
        · exact Or.inl ⟨z0, z1, z2, by omega⟩
      have new : 0 < r → (b < 0 ∨ h 15 2 < r ∨ r = h 15 2 ∧ WL (S i) (S b) c (h 15 1) (h 15 2).toNat) → am_V M_X5_search kc ks 63 [aR 15, aR 1, aI M, aI many, aI i, aI i, aR (ta i), aI ((c : Int) + 1), aU] [] am_R0 (am_st (am_st h 15 1 c) 15 2 r) Q X := fun r1 w => by
        have hP := RCH_PW hT hi0 hiM (p := c) (by omega) (by omega) hRC h1 r1
        have e1 : am_st (am_st h 15 1 c) 15 2 r 15 1 = c := by rw [am_st_n (Or.inr (by decide)), am_st_s]
        refine ih (c + 1) i _ (by omega) (fun d hd => by rw [am_st_o hd, am_st_o hd]; exact hf d hd) ?_
        rw [e1, am_st_s]
        refine CB_yes hB hg hRC r1 hP ?_
        rcases w with w | w | w
        · rcases hB.2.1 with y | y
          · exact Or.inl (by omega)
          · have := y.2.1.1; omega
        · exact Or.inl w
        · exact Or.inr w
      have old : (r < h 15 2 ∨ r = h 15 2 ∧ (h 15 2 = 0 ∨ ¬ WL (S i) (S b) c (h 15 1) (h 15 2).toNat)) → am_V M_X5_search kc ks 63 [aR 15, aR 1, aI M, aI many, aI b, aI i, aR (ta i), aI ((c : Int) + 1), aU] [] am_R0 h Q X := fun w => ih (c + 1) b h (by omega) hf (CB_no hB hg hRC w)
      refine S_X5_search_96 ti ⟨fun y => ⟨by omega, old (by omega)⟩, fun y => ⟨fun w => ⟨by omega, new y (Or.inl w)⟩, fun w => ?_⟩⟩
      have hP := RCH_PW hT hi0 hiM (p := c) (by omega) (by omega) hRC h1 y
      have hPr := hP.2.2.1.2
      rcases hB.2.1 with ⟨v, -⟩ | ⟨v, hb⟩
      · omega
      have hbr := hb.2.2.1
      refine ⟨by have := hb.1; omega, ?_⟩
      have := C_isBetter (kc := 0) (ks := 0) (X := X) (Q := fun v ρ' h' => am_V M_X5_search kc ks 122 [aR 15, aR 1, aI M, aI many, aI b, aI i, aR (ta i), aI c, aI r] (v ++ []) ρ' h' Q X) (p := c) (q := h 15 1) (r := r) (l := h 15 2) (hCh.2 i hi0 hiM) (hCh.2 b hb.1.1 hb.1.2) (by omega) (by omega) hbr.1 (by omega) hl0 rfl rfl (fun u => S_X5_search_122 ti ⟨fun k => absurd k (by decide), fun _ => ⟨by omega, new y (Or.inr u)⟩⟩) (fun u => S_X5_search_122 ti ⟨fun _ => ⟨by omega, old (by
        rcases u with u | u
        · exact Or.inl u
        · exact Or.inr ⟨u.1, Or.inr u.2⟩)⟩, fun k => absurd rfl k⟩)
      exact this
theorem C_se_16 {kc ks : Nat} {Q : PQ} {X : PX} {M many : Nat} {N : Int → Nat} {S PL RA : Int → Int → Int} (h1 : 1 ≤ many) (h0 : Hh) (hC : CTS h0 M N S PL RA) (hQ : ∀ (h : Hh) (b : Int), SFR h0 h → ((b = -1 ∧ ∀ i q k, ¬ PW M many N S i q k) ∨ (0 < h 15 2 ∧ BW M many N S b (h 15 1) (h 15 2).toNat)) → Q [aI b] am_R0 h) : ∀ (d i : Nat) (b : Int) (h : Hh), i + d = M → SFR h0 h → CB M many N S PL (LKD N i 0) b (h 15 1) (h 15 2) → am_V M_X5_search kc ks 16 [aR 15, aR 1, aI M, aI many, aI b, aI i, aU, aU, aU] [] am_R0 h Q X := by
  have hM8 := hC.1
  have hT := hC.tx
  intro d
  induction d with
  | zero =>
    intro i b h hi hf hB
    have : i = M := by omega
    subst this
    have hbw := CB_BW hT h1 (fun a q a0 a1 q0 q1 => ⟨a0, q0, q1, Or.inl a1⟩) hB
    refine S_X5_search_16 ⟨fun _ => hQ h b hf ?_, fun z => absurd z (by omega)⟩
    rcases hB.2.1 with y | y
    · exact Or.inl ⟨y.1, hbw.1 y.2⟩
    · exact Or.inr ⟨y.1, hbw.2 y.1⟩
  | succ d ih =>
    intro i b h hi hf hB
    have hCh := hC.low (h' := h) (fun d d0 d1 => hf d (by omega) (by omega))
    refine S_X5_search_16 ⟨fun z => absurd z (by omega), fun _ => ⟨by omega, ?_⟩⟩
    have := C_se_31 (kc := kc) (ks := ks) (Q := Q) (X := X) (x3 := many) (x4 := b) (i := i) h hCh (by omega) (by omega) (fun h2 f2 y2 => C_se_63 h1 h2 (hCh.low (fun d d0 d1 => f2 d (by omega))) (by omega) (by omega) y2 (fun h3 b3 f3 hB3 => by
      have := ih (i + 1) b3 h3 (by omega) (fun d d1 d2 => by rw [f3 d d1, f2 d d2]; exact hf d d1 d2) hB3
      exact this) (N i) 0 b h2 (by omega) (fun _ _ => rfl) (by rw [f2 15 (by decide)]; exact hB)) M 0 h (by omega) (fun _ _ => rfl) (fun o p o0 o1 => by omega)
    exact this
theorem C_search {kc ks : Nat} {Q : PQ} {X : PX} {M many : Nat} {N : Int → Nat} {S PL RA : Int → Int → Int} (h1 : 1 ≤ many) (h0 : Hh) (hC : CTS h0 M N S PL RA) (hQ : ∀ (h : Hh) (b : Int), SFR h0 h → ((b = -1 ∧ ∀ i q k, ¬ PW M many N S i q k) ∨ (0 < h 15 2 ∧ BW M many N S b (h 15 1) (h 15 2).toNat)) → Q [aI b] am_R0 h) : am_V M_X5_search kc ks 0 [aR 15, aR 1, aI M, aI many, aU, aU, aU, aU, aU] [] am_R0 h0 Q X := by
  refine S_X5_search_0 (C_se_16 h1 h0 hC hQ M 0 (-1) _ (by omega) (fun d d1 d2 => by rw [am_st_o d1, am_st_o d1]) ?_)
  rw [am_st_s]
  exact ⟨Int.le_refl 0, Or.inl ⟨rfl, rfl⟩, fun a q z => absurd z.2.2.2 (by have := z.1; have := z.2.1; omega)⟩
