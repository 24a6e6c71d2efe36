/-! classOf, classes, rounds -/
def mx (f : Int → Int) : Nat → Int
  | 0 => 0
  | m + 1 => max (mx f m) (f m)
theorem mx_le {f : Int → Int} {c : Int} (hc : 0 ≤ c) : ∀ m : Nat, mx f m ≤ c ↔ ∀ r, 0 ≤ r → r < (m : Int) → f r ≤ c
  | 0 => ⟨fun _ r r0 r1 => by omega, fun _ => hc⟩
  | m + 1 => by
    have ih := mx_le (f := f) hc m
    unfold mx
    rw [Int.max_le, ih]
    constructor
    · intro ⟨h1, h2⟩ r r0 r1
      by_cases e : r = m
      · rw [e]; exact h2
      · exact h1 r r0 (by omega)
    · intro h
      exact ⟨fun r r0 r1 => h r r0 (by omega), h m (by omega) (by omega)⟩
theorem mx_0 {f : Int → Int} : ∀ m : Nat, 0 ≤ mx f m
  | 0 => Int.le_refl 0
  | m + 1 => by
    have := mx_0 (f := f) m
    unfold mx
    omega
theorem le_mx {f : Int → Int} {k : Int} (hk : 0 < k) {m : Nat} : k ≤ mx f m ↔ ∃ r, 0 ≤ r ∧ r < (m : Int) ∧ k ≤ f r := by
  have h1 := mx_le (f := f) (c := k - 1) (by omega) m
  constructor
  · intro h
    apply Classical.byContradiction
    intro y
    have := h1.mpr (fun r r0 r1 => by
      apply Classical.byContradiction
      intro w
      exact y ⟨r, r0, r1, by omega⟩)
    omega
  · intro ⟨r, r0, r1, r2⟩
    apply Classical.byContradiction
    intro y
    have := h1.mp (by omega) r r0 r1
    omega
theorem mx_congr {f g : Int → Int} : ∀ m : Nat, (∀ r, 0 ≤ r → r < (m : Int) → f r = g r) → mx f m = mx g m
  | 0, _ => rfl
  | m + 1, h => by
    unfold mx
    rw [mx_congr m (fun r r0 r1 => h r r0 (by omega)), h m (by omega) (by omega)]
theorem cnt_lt_iff {P : Int → Prop} {m : Nat} : cnt P m < m ↔ ∃ r : Int, 0 ≤ r ∧ r < m ∧ ¬ P r := by
  have h1 := cnt_not P m
  constructor
  · intro h
    exact cnt_ex (P := fun i => ¬ P i) (by omega)
  · intro ⟨r, r0, r1, r2⟩
    have := cnt_pos (P := fun i => ¬ P i) r0 r1 r2
    omega
theorem Uc_lt {s pl : Int → Int} {n k : Nat} (hk : 0 < k) : Uc s n pl k n < n ↔ (k : Int) ≤ mx (fun r => cmv s n pl r) n := by
  rw [le_mx (by omega)]
  unfold Uc
  rw [cnt_lt_iff]
  constructor
  · intro ⟨r, r0, r1, r2⟩
    exact ⟨r, r0, r1, by omega⟩
  · intro ⟨r, r0, r1, r2⟩
    exact ⟨r, r0, r1, by omega⟩
theorem mxc_lt {s pl ra : Int → Int} {n : Nat} (hs : WS s n) (h : SA s n pl ra) : mx (fun r => cmv s n pl r) n < n ∨ n = 0 := by
  by_cases e : n = 0
  · exact Or.inr e
  · left
    have := (mx_le (f := fun r => (cmv s n pl r : Int)) (c := (n : Int) - 1) (by omega) n).mpr (fun r r0 r1 => by
      have h1 := cmv_le hs h r0 r1
      by_cases e0 : r = 0
      · rw [e0, cmv_0]; omega
      · obtain ⟨a0, a1, -, -⟩ := h.at hs r0 r1
        obtain ⟨b0, b1, -, -⟩ := h.at hs (r := r - 1) (by omega) (by omega)
        have ne := h.ne hs (i := r - 1) (j := r) (by omega) (by omega) r0 r1 (by omega)
        have l1 := Lc_1 (s := s) (t := s) (n := n) (m := n) (p := pl (r - 1)) (q := pl r) (by omega) (by omega)
        have l2 := Lc_2 (s := s) (t := s) (n := n) (m := n) (p := pl (r - 1)) (q := pl r) (by omega) (by omega)
        unfold cmv
        rw [if_neg e0]
        omega)
    omega
theorem C_ub_1 {kc ks : Nat} {h : Hh} {Q : PQ} {X : PX} {a n : Nat} {s pl ra : Int → Int} (hC : CT h a n s pl ra) {K m : Nat} (hm : m ≤ n) {r : Int} (hr : r + 1 = m) (hQ : Q [aI (Uc s n pl K m)] am_R0 h) : ∀ (d i : Nat), i + d = m → am_V M_X6_unlikeBeginnings kc ks 5 [aR a, aI K, aI r, aI (Uc s n pl K i), aI i] [] am_R0 h Q X := by
  obtain ⟨t0, n64, hn, e1, e2, e3, hs, hSA, hcm⟩ := hC
  intro d
  induction d with
  | zero =>
    intro i hd
    have : i = m := by omega
    subst this
    exact S_X6_unlikeBeginnings_5 t0 ⟨fun _ => hQ, fun z => absurd z (by omega)⟩
  | succ d ih =>
    intro i hd
    have hle : Uc s n pl K i ≤ i := cnt_le (fun r => cmv s n pl r < K) i
    have hnext := ih (i + 1) (by omega)
    have e := hcm i (by omega) (by omega)
    refine S_X6_unlikeBeginnings_5 t0 ⟨fun z => absurd z (by omega), fun _ => ⟨by omega, fun z => ⟨by omega, ?_⟩, fun z => ⟨by omega, ?_⟩⟩⟩
    · rw [show Uc s n pl K (i + 1) = Uc s n pl K i from cnt_f (by omega)] at hnext
      exact hnext
    · rw [show Uc s n pl K (i + 1) = Uc s n pl K i + 1 from cnt_t (by omega)] at hnext
      exact hnext
theorem C_unlike {kc ks : Nat} {h : Hh} {Q : PQ} {X : PX} {a n : Nat} {s pl ra : Int → Int} (hC : CT h a n s pl ra) {K : Nat} {r : Int} (hr : -1 ≤ r) (hrn : r < n) (hQ : Q [aI (Uc s n pl K (r + 1).toNat)] am_R0 h) : am_V M_X6_unlikeBeginnings kc ks 0 [aR a, aI K, aI r, aU, aU] [] am_R0 h Q X :=
  S_X6_unlikeBeginnings_0 hC.1 (C_ub_1 hC (m := (r + 1).toNat) (by omega) (by omega) hQ (r + 1).toNat 0 (by omega))
theorem C_gc_1 {kc ks : Nat} {h : Hh} {Q : PQ} {X : PX} {a n : Nat} {s pl ra : Int → Int} (hC : CT h a n s pl ra) (hQ : Q [aI (mx (fun r => cmv s n pl r) n)] am_R0 h) : ∀ (d i : Nat), i + d = n → am_V M_X6_greatestCommon kc ks 4 [aR a, aI (mx (fun r => cmv s n pl r) i), aI i] [] am_R0 h Q X := by
  obtain ⟨t0, n64, hn, e1, e2, e3, hs, hSA, hcm⟩ := hC
  intro d
  induction d with
  | zero =>
    intro i hd
    have : i = n := by omega
    subst this
    exact S_X6_greatestCommon_4 t0 ⟨fun _ => hQ, fun z => absurd z (by omega)⟩
  | succ d ih =>
    intro i hd
    have hnext := ih (i + 1) (by omega)
    have e := hcm i (by omega) (by omega)
    refine S_X6_greatestCommon_4 t0 ⟨fun z => absurd z (by omega), fun _ => ⟨by omega, ?_⟩⟩
    rw [e]
    exact hnext
theorem C_greatest {kc ks : Nat} {h : Hh} {Q : PQ} {X : PX} {a n : Nat} {s pl ra : Int → Int} (hC : CT h a n s pl ra) (hQ : Q [aI (mx (fun r => cmv s n pl r) n)] am_R0 h) : am_V M_X6_greatestCommon kc ks 0 [aR a, aU, aU] [] am_R0 h Q X :=
  S_X6_greatestCommon_0 hC.1 (C_gc_1 hC hQ n 0 (by omega))
theorem M_if_1 {kc ks : Nat} {h : Hh} {Q : PQ} {X : PX} {t p : Int} {n k : Nat} {s : Int → Int} (hT : MT h t n s) (hk : k ≤ 64) (hp : 0 ≤ p) (hpn : p < n) (h1 : firstBy s n k p → Q [aI 1] am_R0 h) (h0 : ¬ firstBy s n k p → Q [aI 0] am_R0 h) : ∀ (d : Nat) (i : Int), i + d = p → 0 ≤ i → (∀ q, 0 ≤ q → q < i → ¬ AG (en s n) (en s n) q p k) → am_V M_X11_isFirst kc ks 3 [aR 72, aI t, aI p, aI k, aI i] [] am_R0 h Q X := by
  intro d
  induction d with
  | zero =>
    intro i hd hi hz
    exact S_X11_isFirst_3 ⟨fun _ => h1 fun q q0 q1 => hz q q0 (by omega), fun z => absurd z (by omega)⟩
  | succ d ih =>
    intro i hd hi hz
    have h64 := hT.2.1
    refine S_X11_isFirst_3 ⟨fun z => absurd z (by omega), fun z => M_compared hT hk hi (by omega) hp (by omega) fun v v1 v2 => S_X11_isFirst_18 ⟨fun y => ⟨by omega, ih (i + 1) (by omega) (by omega) fun q q0 q1 => ?_⟩, fun y => h0 fun w => w i hi z (v2.mp y)⟩⟩
    by_cases e : q = i
    · rw [e]
      exact fun w => y (v2.mpr w)
    · exact hz q q0 (by omega)
theorem M_isFirst {kc ks : Nat} {h : Hh} {Q : PQ} {X : PX} {t p : Int} {n k : Nat} {s : Int → Int} (hT : MT h t n s) (hk : k ≤ 64) (hp : 0 ≤ p) (hpn : p < n) (h1 : firstBy s n k p → Q [aI 1] am_R0 h) (h0 : ¬ firstBy s n k p → Q [aI 0] am_R0 h) : am_V M_X11_isFirst kc ks 0 [aR 72, aI t, aI p, aI k, aU] [] am_R0 h Q X :=
  S_X11_isFirst_0 (M_if_1 hT hk hp hpn h1 h0 p.toNat 0 (by omega) (by omega) (fun q q0 q1 => by omega))
theorem M_cb_1 {kc ks : Nat} {h : Hh} {Q : PQ} {X : PX} {t : Int} {n k : Nat} {s : Int → Int} (hT : MT h t n s) (hk : k ≤ 64) (hQ : Q [aI (cnt (firstBy s n k) n)] am_R0 h) : ∀ (d i : Nat), i + d = n → am_V M_X11_classesBy kc ks 5 [aR 72, aI t, aI k, aI (cnt (firstBy s n k) i), aI i] [] am_R0 h Q X := by
  have h64 := hT.2.1
  have hn := hT.2.2.1
  intro d
  induction d with
  | zero =>
    intro i hd
    have : i = n := by omega
    subst this
    exact S_X11_classesBy_5 ⟨hT.1, fun _ => hQ, fun z => absurd z (by omega)⟩
  | succ d ih =>
    intro i hd
    have hle := cnt_le (firstBy s n k) i
    have hnext := ih (i + 1) (by omega)
    refine S_X11_classesBy_5 ⟨hT.1, fun z => absurd z (by omega), fun _ => M_isFirst hT hk (by omega) (by omega) (fun z => S_X11_classesBy_25 ⟨fun y => absurd y (by decide), fun _ => ⟨by omega, ?_⟩⟩) (fun z => S_X11_classesBy_25 ⟨fun _ => ⟨by omega, ?_⟩, fun y => absurd rfl y⟩)⟩
    · rw [cnt_t z] at hnext
      exact hnext
    · rw [cnt_f z] at hnext
      rw [Int.add_zero]
      exact hnext
theorem M_classesBy {kc ks : Nat} {h : Hh} {Q : PQ} {X : PX} {t : Int} {n k : Nat} {s : Int → Int} (hT : MT h t n s) (hk : k ≤ 64) (hQ : Q [aI (cnt (firstBy s n k) n)] am_R0 h) : am_V M_X11_classesBy kc ks 0 [aR 72, aI t, aI k, aU, aU] [] am_R0 h Q X :=
  S_X11_classesBy_0 (M_cb_1 hT hk hQ n 0 (by omega))
theorem M_co_1 {kc ks : Nat} {h : Hh} {Q : PQ} {X : PX} {t p : Int} {n k : Nat} {s : Int → Int} (hT : MT h t n s) (hk : k ≤ 64) (hp : 0 ≤ p) (hpn : p < n) (hQ : Q [aI (cnt (fun o => firstBy s n k o ∧ ELk (en s n) k o p) n)] am_R0 h) : ∀ (d i : Nat), i + d = n → am_V M_X11_classOf kc ks 43 [aR 72, aI t, aI p, aI k, aI (cnt (fun o => firstBy s n k o ∧ ELk (en s n) k o p) i), aI i] [] am_R0 h Q X := by
  have h64 := hT.2.1
  have hn := hT.2.2.1
  intro d
  induction d with
  | zero =>
    intro i hd
    have : i = n := by omega
    subst this
    exact S_X11_classOf_43 ⟨hT.1, fun _ => hQ, fun z => absurd z (by omega)⟩
  | succ d ih =>
    intro i hd
    have hle := cnt_le (fun o => firstBy s n k o ∧ ELk (en s n) k o p) i
    have hnext := ih (i + 1) (by omega)
    refine S_X11_classOf_43 ⟨hT.1, fun z => absurd z (by omega), fun _ => M_isFirst hT hk (by omega) (by omega) (fun z => S_X11_classOf_64 ⟨fun y => absurd y (by decide), fun _ => M_compared hT hk (by omega) (by omega) hp (by omega) fun v v1 v2 => S_X11_classOf_76 ⟨fun y => ⟨by omega, ?_⟩, fun y => ⟨by omega, ?_⟩⟩⟩) (fun z => S_X11_classOf_64 ⟨fun _ => ⟨by omega, ?_⟩, fun y => absurd rfl y⟩)⟩
    · rw [cnt_f (P := fun o => firstBy s n k o ∧ ELk (en s n) k o p) (fun w => by have := v1.mpr w.2; omega)] at hnext
      rw [Int.add_zero]
      exact hnext
    · rw [cnt_t (P := fun o => firstBy s n k o ∧ ELk (en s n) k o p) ⟨z, v1.mp y⟩] at hnext
      exact hnext
    · rw [cnt_f (P := fun o => firstBy s n k o ∧ ELk (en s n) k o p) (fun w => z w.1)] at hnext
      rw [Int.add_zero]
      exact hnext
theorem C_refuse {kc ks : Nat} {h : Hh} {Q : PQ} {X : PX} {k : Int} (hkc : 1 ≤ kc) (hks : 6 ≤ ks) (hQ : 1 ≤ k → k ≤ 64 → Q [] am_R0 h) (hX : ¬ (1 ≤ k ∧ k ≤ 64) → X xIA am_R0 h) : am_V M_X10_refuseClassSize kc ks 0 [aR 0, aI k] [] am_R0 h Q X :=
  S_X10_refuseClassSize_0 ⟨fun z => ⟨⟨hkc, hks⟩, hX (by omega)⟩, fun z => ⟨fun y => hQ z y, fun y => ⟨⟨hkc, hks⟩, hX (by omega)⟩⟩⟩
theorem T_classOf {kc ks : Nat} {h : Hh} {t p k : Int} (hS : SIM h) (hkc : 3 ≤ kc) (hks : 18 ≤ ks) : am_V M_X10_classOf kc ks 0 [aR 0, aI t, aI p, aI k, aU] [] am_R0 h (PQok M_X11_classOf [aR 72, aI t, aI p, aI k, aU, aU] aI) (PXok M_X11_classOf [aR 72, aI t, aI p, aI k, aU, aU] aI [xIO, xIA]) := by
  by_cases z : isPx h t p
  · obtain ⟨n, s, pl, ra, hC, hM, hpn⟩ := z.get hS
    have p0 := z.2.1
    obtain ⟨ct0, n64, cn, e1, e2, e3, hs, hSA, hcm⟩ := id hC
    refine S_X10_classOf_0 ⟨by omega, C_knownWith hS z.1 hC p0 hpn (by omega) (by omega) (S_X10_classOf_6 hC.1 ⟨by omega, C_refuse (by omega) (by omega) (fun k1 k64 => ?_) (fun w => ?_)⟩)⟩
    · obtain ⟨K, rfl⟩ : ∃ K : Nat, k = K := ⟨k.toNat, by omega⟩
      have er := (hSA p p0 hpn).1
      have hb := rk_bd (s := s) (n := n) p0 hpn
      refine S_X10_classOf_13 hC.1 ⟨by omega, ?_⟩
      rw [e3, er]
      have hU : Uc s n pl K (rk s n p + 1) ≤ _ := cnt_le (fun r => cmv s n pl r < K) (rk s n p + 1)
      refine C_unlike hC (by omega) (by omega) (S_X10_classOf_26 ⟨by rw [show ((rk s n p : Int) + 1).toNat = rk s n p + 1 by omega]; omega, ?_⟩)
      rw [show ((rk s n p : Int) + 1).toNat = rk s n p + 1 by omega, ← classOf_eq hs hSA (k := K) (by omega) p0 hpn]
      refine PQ.good hS (NK.rf h) fun kc ks Q X g hN hS' k => S_X11_classOf_0 (M_isPlace1 hS' (hN.px.mpr z) (S_X11_classOf_7 ⟨fun _ => L_isBetween (fun _ => S_X11_classOf_21 ⟨fun _ => M_isWrong fun h2 m y => S_X11_classOf_32 ⟨fun _ => M_co_1 (m.mt (hN.mt hM)) (by omega) p0 hpn (k h2 m y) n 0 (by omega), fun w => absurd rfl w⟩, fun w => absurd w (by decide)⟩) (fun w => absurd ⟨k1, k64⟩ w), fun w => absurd w (by decide)⟩))
    · exact PX.bad 1 hS (NK.rf h) rfl fun kc ks Q X hS' k => S_X11_classOf_0 (M_isPlace1 hS' z (S_X11_classOf_7 ⟨fun _ => L_isBetween (fun y => absurd y w) (fun _ => S_X11_classOf_21 ⟨fun y => absurd rfl y, fun _ => M_isWrong fun h2 m y => S_X11_classOf_32 ⟨fun y => absurd y (by decide), fun _ => k 0 h2 m y⟩⟩), fun y => absurd y (by decide)⟩))
  · exact S_X10_classOf_0 ⟨by omega, C_knownWith0 hS z (by omega) (by omega) (PX.bad 0 hS (NK.rf h) rfl fun kc ks Q X hS' k => S_X11_classOf_0 (M_isPlace0 hS z (S_X11_classOf_7 ⟨fun y => absurd rfl y, fun _ => M_isWrong fun h2 m y => S_X11_classOf_32 ⟨fun y => absurd y (by decide), fun _ => k 0 h2 m y⟩⟩)))⟩
theorem T_classes {kc ks : Nat} {h : Hh} {t k : Int} (hS : SIM h) (hkc : 2 ≤ kc) (hks : 12 ≤ ks) : am_V M_X10_classes kc ks 0 [aR 0, aI t, aI k, aU] [] am_R0 h (PQok M_X11_classes [aR 72, aI t, aI k] aI) (PXok M_X11_classes [aR 72, aI t, aI k] aI [xIO, xIA]) := by
  by_cases z : isTx h t
  · obtain ⟨n, s, pl, ra, hC, hM⟩ := hS.txt z
    obtain ⟨ct0, n64, cn, e1, e2, e3, hs, hSA, hcm⟩ := id hC
    refine S_X10_classes_0 ⟨by omega, C_known hS z (by omega) (by omega) (S_X10_classes_5 hC.1 ⟨by omega, C_refuse (by omega) (by omega) (fun k1 k64 => ?_) (fun w => ?_)⟩)⟩
    · obtain ⟨K, rfl⟩ : ∃ K : Nat, k = K := ⟨k.toNat, by omega⟩
      refine S_X10_classes_11 hC.1 ⟨by omega, ?_⟩
      rw [cn]
      refine C_unlike hC (by omega) (by omega) (S_X10_classes_22 ?_)
      rw [show ((n : Int) - 1 + 1).toNat = n by omega, ← classes_eq hs hSA (k := K) (by omega)]
      refine PQ.good hS (NK.rf h) fun kc ks Q X g hN hS' k => S_X11_classes_0 (M_isText1 hS' (hN.tx.mpr z) (S_X11_classes_6 ⟨fun _ => L_isBetween (fun _ => S_X11_classes_20 ⟨fun _ => M_isWrong fun h2 m y => S_X11_classes_31 ⟨fun _ => M_classesBy (m.mt (hN.mt hM)) (by omega) (S_X11_classes_44 (k h2 m y)), fun w => absurd rfl w⟩, fun w => absurd w (by decide)⟩) (fun w => absurd ⟨k1, k64⟩ w), fun w => absurd w (by decide)⟩))
    · exact PX.bad 1 hS (NK.rf h) rfl fun kc ks Q X hS' k => S_X11_classes_0 (M_isText1 hS' z (S_X11_classes_6 ⟨fun _ => L_isBetween (fun y => absurd y w) (fun _ => S_X11_classes_20 ⟨fun y => absurd rfl y, fun _ => M_isWrong fun h2 m y => S_X11_classes_31 ⟨fun y => absurd y (by decide), fun _ => k 0 h2 m y⟩⟩), fun y => absurd y (by decide)⟩))
  · exact S_X10_classes_0 ⟨by omega, C_known0 hS z (by omega) (by omega) (PX.bad 0 hS (NK.rf h) rfl fun kc ks Q X hS' k => S_X11_classes_0 (M_isText0 hS z (S_X11_classes_6 ⟨fun y => absurd rfl y, fun _ => M_isWrong fun h2 m y => S_X11_classes_31 ⟨fun y => absurd y (by decide), fun _ => k 0 h2 m y⟩⟩)))⟩
/-- how many rounds follow the j-th, d at most -/
def rdc (g : Int) : Nat → Nat → Nat
  | _, 0 => 0
  | j, d + 1 => if ((2 ^ j : Nat) : Int) ≤ g then rdc g (j + 1) d + 1 else 0
theorem C_rounds_1 {kc ks : Nat} {h : Hh} {Q : PQ} {X : PX} {g : Int} (hg : g ≤ 63) : ∀ (d j : Nat) (L : Int), j + d = 7 → 0 ≤ L → L ≤ 10 + j → Q [aI (L + rdc g j d)] am_R0 h → am_V M_X10_rounds kc ks 26 [aU, aU, aU, aI g, aI L, aI ((2 ^ j : Nat) : Int)] [] am_R0 h Q X := by
  intro d
  induction d with
  | zero =>
    intro j L hj h0 h1 hQ
    have : j = 7 := by omega
    subst this
    exact S_X10_rounds_26 ⟨fun _ => by simpa [rdc] using hQ, fun z => absurd z (by omega)⟩
  | succ d ih =>
    intro j L hj h0 h1 hQ
    have hp : 2 ^ j ≤ 2 ^ 6 := Nat.pow_le_pow_right (by decide) (by omega)
    unfold rdc at hQ
    have ih := ih (j + 1) (L + 1)
    rw [Nat.pow_succ] at ih
    generalize 2 ^ j = K at hp hQ ih ⊢
    refine S_X10_rounds_26 ⟨fun z => ?_, fun z => ⟨by omega, ?_⟩⟩
    · rw [if_neg (by omega)] at hQ
      simpa using hQ
    · rw [if_pos z] at hQ
      have := ih (by omega) (by omega) (by omega) (by rw [show L + 1 + (rdc g (j + 1) d : Int) = L + ((rdc g (j + 1) d + 1 : Nat) : Int) by omega]; exact hQ)
      rw [Int.natCast_mul] at this
      exact this
theorem M_rounds_1 {kc ks : Nat} {h : Hh} {Q : PQ} {X : PX} {t g : Int} {n : Nat} {s pl ra : Int → Int} (hT : MT h t n s) (hSA : SA s n pl ra) (hgd : g = mx (fun r => cmv s n pl r) n) (hg : g ≤ 63) : ∀ (d j : Nat) (L : Int), j + d = 7 → j ≤ 6 → 0 ≤ L → L ≤ 10 + j → Q [aI (L + rdc g j d)] am_R0 h → am_V M_X11_rounds kc ks 23 [aR 72, aI t, aI L, aI ((2 ^ j : Nat) : Int)] [] am_R0 h Q X := by
  have hn := hT.2.2.1
  have hs := hT.2.2.2.1
  intro d
  induction d with
  | zero => intro j L hj h6; omega
  | succ d ih =>
    intro j L hj h6 h0 h1 hQ
    have hp : 2 ^ j ≤ 2 ^ 6 := Nat.pow_le_pow_right (by decide) (by omega)
    have hp0 : 0 < 2 ^ j := Nat.pow_pos (by decide)
    have h5' : 6 ≤ j → 2 ^ 6 ≤ 2 ^ j := fun y => Nat.pow_le_pow_right (by decide) y
    have hlt := Uc_lt (s := s) (pl := pl) (n := n) (k := 2 ^ j) hp0
    rw [← hgd, ← classes_eq hs hSA hp0] at hlt
    unfold rdc at hQ
    have ih := ih (j + 1) (L + 1)
    rw [Nat.pow_succ] at ih
    generalize 2 ^ j = K at hp hp0 h5' hQ hlt ih ⊢
    refine S_X11_rounds_23 (M_classesBy hT (by omega) ?_)
    refine S_X11_rounds_29 ⟨hT.1, fun z => ?_, fun z => ⟨?_, ?_⟩⟩
    · rw [if_neg (fun y => by have : cnt (firstBy s n K) n < n := hlt.mpr y; omega)] at hQ
      simpa using hQ
    · have hle := hlt.mp (show cnt (firstBy s n K) n < n by omega)
      omega
    · have hle := hlt.mp (show cnt (firstBy s n K) n < n by omega)
      rw [if_pos hle] at hQ
      have h5 : j ≤ 5 := by
        apply Nat.le_of_not_lt
        intro y
        have := h5' (by omega)
        omega
      have := ih (by omega) (by omega) (by omega) (by omega) (by rw [show L + 1 + (rdc g (j + 1) d : Int) = L + ((rdc g (j + 1) d + 1 : Nat) : Int) by omega]; exact hQ)
      rw [Int.natCast_mul] at this
      exact this
theorem T_rounds {kc ks : Nat} {h : Hh} {t : Int} (hS : SIM h) (hkc : 1 ≤ kc) (hks : 6 ≤ ks) : am_V M_X10_rounds kc ks 0 [aR 0, aI t, aU, aU, aU, aU] [] am_R0 h (PQok M_X11_rounds [aR 72, aI t, aU, aU] aI) (PXok M_X11_rounds [aR 72, aI t, aU, aU] aI [xIO]) := by
  by_cases z : isTx h t
  · obtain ⟨n, s, pl, ra, hC, hM⟩ := hS.txt z
    obtain ⟨ct0, n64, cn, e1, e2, e3, hs, hSA, hcm⟩ := id hC
    have hg := mxc_lt hs hSA
    refine S_X10_rounds_0 ⟨by omega, C_known hS z (by omega) (by omega) (S_X10_rounds_5 hC.1 ⟨fun y => C_greatest hC (S_X10_rounds_19 (C_rounds_1 (by omega) 7 0 1 (by omega) (by omega) (by omega) (PQ.good hS (NK.rf h) fun kc ks Q X g hN hS' k => S_X11_rounds_0 (M_isNone1 hS' (hN.tx.mpr z) fun h2 m y2 => S_X11_rounds_5 ⟨fun w => absurd rfl w, fun _ => ⟨hM.1, fun _ => M_rounds_1 (m.mt (hN.mt hM)) hSA rfl (by omega) 7 0 1 (by omega) (by omega) (by omega) (by omega) (k h2 m y2), fun w => ?_⟩⟩)))), fun y => PQ.good hS (NK.rf h) fun kc ks Q X g hN hS' k => S_X11_rounds_0 (M_isNone1 hS' (hN.tx.mpr z) fun h2 m y2 => S_X11_rounds_5 ⟨fun w => absurd rfl w, fun _ => ⟨hM.1, fun w => ?_, fun _ => k h2 m y2⟩⟩)⟩)⟩
    · rw [(m.mt (hN.mt hM)).2.2.1] at w
      omega
    · rw [(m.mt (hN.mt hM)).2.2.1] at w
      omega
  · exact S_X10_rounds_0 ⟨by omega, C_known0 hS z (by omega) (by omega) (PX.bad 0 hS (NK.rf h) rfl fun kc ks Q X hS' k => S_X11_rounds_0 (M_isNone0 hS z fun h2 m y => S_X11_rounds_5 ⟨fun _ => k 0 h2 m y, fun w => absurd w (by decide)⟩))⟩
