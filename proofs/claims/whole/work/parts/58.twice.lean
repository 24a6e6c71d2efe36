/-! twice, twiceAt, once, onceAt -/
def isE (h : Hh) (t : Int) : Prop := isTx h t ∧ h 74 t ≠ 0
theorem isE.get {h : Hh} {t : Int} (hS : SIM h) (z : isE h t) : ∃ (n : Nat) (s pl ra : Int → Int), CT h (ta t) n s pl ra ∧ MT h t n s ∧ 0 < n := by
  obtain ⟨n, s, pl, ra, hC, hM⟩ := hS.txt z.1
  have := z.2
  rw [hM.2.2.1] at this
  exact ⟨n, s, pl, ra, hC, hM, by omega⟩
theorem NK.e {h h' : Hh} {t : Int} (k : NK h h') : isE h' t ↔ isE h t := by unfold isE; rw [k.tx, k.c74]
theorem MK.e {h h' : Hh} {t : Int} (k : MK h h') : isE h' t ↔ isE h t := by unfold isE; rw [k.tx, k.c74]
theorem C_knownNotEmpty {kc ks : Nat} {h : Hh} {Q : PQ} {X : PX} {t : Int} (hS : SIM h) (hkc : 2 ≤ kc) (hks : 12 ≤ ks) (hQ : isE h t → Q [aR (ta t)] am_R0 h) (hX : ¬ isTx h t → X xIO am_R0 h) (hN : isTx h t → ¬ isE h t → X xNS am_R0 h) : am_V M_X10_knownNotEmpty kc ks 0 [aR 0, aI t, aU] [] am_R0 h Q X := by
  refine L_knownNotEmpty hS.1.2.1 hkc hks (fun z y => hQ ⟨z, ?_⟩) hX (fun z y => hN z fun w => w.2 ?_)
  · obtain ⟨⟨n0, n64, n74⟩, -⟩ := hS.2.2.2.1 t z.1 z.2
    rw [n74]; exact y
  · obtain ⟨⟨n0, n64, n74⟩, -⟩ := hS.2.2.2.1 t z.1 z.2
    rw [n74]; exact y
theorem M_isEmpty1 {kc ks : Nat} {h : Hh} {Q : PQ} {X : PX} {t : Int} (hS : SIM h) (z : isE h t) (hQ : ∀ h2, MK h h2 → h2 72 10 = 0 → Q [aI 0] am_R0 h2) : am_V M_X11_isEmpty kc ks 0 [aR 72, aI t] [] am_R0 h Q X := by
  obtain ⟨n, s, pl, ra, hC, hM, n0⟩ := z.get hS
  exact S_X11_isEmpty_0 (M_isText1 hS z.1 (S_X11_isEmpty_6 ⟨fun _ => ⟨hM.1, fun _ => M_isWrong fun h2 m y => S_X11_isEmpty_30 ⟨Or.inl rfl, hQ h2 m y⟩, fun y => absurd y z.2⟩, fun y => absurd y (by decide)⟩))
theorem M_isEmpty2 {kc ks : Nat} {h : Hh} {Q : PQ} {X : PX} {t : Int} (hS : SIM h) (z : isTx h t) (w : ¬ isE h t) (hQ : ∀ h2, MK h h2 → h2 72 10 = 2 → Q [aI 1] am_R0 h2) : am_V M_X11_isEmpty kc ks 0 [aR 72, aI t] [] am_R0 h Q X := by
  obtain ⟨n, s, pl, ra, hC, hM⟩ := hS.txt z
  exact S_X11_isEmpty_0 (M_isText1 hS z (S_X11_isEmpty_6 ⟨fun _ => ⟨hM.1, fun y => absurd ⟨z, y⟩ w, fun _ => M_isWrong fun h2 m y => S_X11_isEmpty_30 ⟨Or.inr rfl, hQ h2 m y⟩⟩, fun y => absurd y (by decide)⟩))
theorem M_isEmpty0 {kc ks : Nat} {h : Hh} {Q : PQ} {X : PX} {t : Int} (hS : SIM h) (z : ¬ isTx h t) (hQ : ∀ h2, MK h h2 → h2 72 10 = 1 → Q [aI 1] am_R0 h2) : am_V M_X11_isEmpty kc ks 0 [aR 72, aI t] [] am_R0 h Q X :=
  S_X11_isEmpty_0 (M_isText0 hS z (S_X11_isEmpty_6 ⟨fun y => absurd rfl y, fun _ => M_isWrong fun h2 m y => S_X11_isEmpty_30 ⟨Or.inr rfl, hQ h2 m y⟩⟩))
/-- the longest common beginning of the pairs seen so far -/
def LPQ (s : Int → Int) (n : Nat) (i j x : Int) : Prop := 0 ≤ x ∧ x ≤ 64 ∧ (∀ a b, 0 ≤ a → a < b → b < (n : Int) → (a < i ∨ (a = i ∧ b < j)) → (Lc s n s n a b : Int) ≤ x) ∧ (x = 0 ∨ ∃ a b, 0 ≤ a ∧ a < b ∧ b < (n : Int) ∧ (Lc s n s n a b : Int) = x)
theorem M_lt_2 {kc ks : Nat} {h : Hh} {Q : PQ} {X : PX} {t : Int} {n : Nat} {s : Int → Int} (hT : MT h t n s) {i : Nat} (hi : i < n) (hQ : ∀ x, LPQ s n (i + 1) 0 x → am_V M_X11_longestTwice kc ks 4 [aR 72, aI t, aI x, aI (i + 1), aU, aU] [] am_R0 h Q X) : ∀ (d j : Nat) (x : Int), j + d = n → i < j → LPQ s n i j x → am_V M_X11_longestTwice kc ks 19 [aR 72, aI t, aI x, aI i, aI j, aU] [] am_R0 h Q X := by
  have h64 := hT.2.1
  have hn := hT.2.2.1
  intro d
  induction d with
  | zero =>
    intro j x hd hj hx
    refine S_X11_longestTwice_19 ⟨hT.1, fun _ => ⟨by omega, hQ x ⟨hx.1, hx.2.1, fun a b a0 ab bn hab => hx.2.2.1 a b a0 ab bn (by omega), hx.2.2.2⟩⟩, fun z => absurd z (by omega)⟩
  | succ d ih =>
    intro j x hd hj hx
    have l1 := Lc_1 (s := s) (t := s) (n := n) (m := n) (p := i) (q := j) (by omega) (by omega)
    refine S_X11_longestTwice_19 ⟨hT.1, fun z => absurd z (by omega), fun _ => M_together hT hT (by omega) (by omega) (by omega) (by omega) (S_X11_longestTwice_39 ⟨fun y => ⟨by omega, ih (j + 1) x (by omega) (by omega) ⟨hx.1, hx.2.1, fun a b a0 ab bn hab => ?_, hx.2.2.2⟩⟩, fun y => ⟨by omega, ih (j + 1) _ (by omega) (by omega) ⟨by omega, by omega, fun a b a0 ab bn hab => ?_, Or.inr ⟨i, j, by omega, by omega, by omega, rfl⟩⟩⟩⟩)⟩
    · by_cases e : a = i ∧ b = j
      · rw [e.1, e.2]; exact y
      · exact hx.2.2.1 a b a0 ab bn (by omega)
    · by_cases e : a = i ∧ b = j
      · rw [e.1, e.2]; exact Int.le_refl _
      · have := hx.2.2.1 a b a0 ab bn (by omega)
        omega
theorem M_lt_1 {kc ks : Nat} {h : Hh} {Q : PQ} {X : PX} {t : Int} {n : Nat} {s : Int → Int} (hT : MT h t n s) (hQ : ∀ x, LPQ s n n 0 x → Q [aI x] am_R0 h) : ∀ (d i : Nat) (x : Int), i + d = n → LPQ s n i 0 x → am_V M_X11_longestTwice kc ks 4 [aR 72, aI t, aI x, aI i, aU, aU] [] am_R0 h Q X := by
  have h64 := hT.2.1
  have hn := hT.2.2.1
  intro d
  induction d with
  | zero =>
    intro i x hd hx
    have : i = n := by omega
    subst this
    exact S_X11_longestTwice_4 ⟨hT.1, fun _ => hQ x hx, fun z => absurd z (by omega)⟩
  | succ d ih =>
    intro i x hd hx
    refine S_X11_longestTwice_4 ⟨hT.1, fun z => absurd z (by omega), fun _ => ⟨by omega, M_lt_2 hT (i := i) (by omega) (fun x hx => ih (i + 1) x (by omega) hx) (n - (i + 1)) (i + 1) x (by omega) (by omega) ⟨hx.1, hx.2.1, fun a b a0 ab bn hab => hx.2.2.1 a b a0 ab bn (by omega), hx.2.2.2⟩⟩⟩
theorem M_longestTwice {kc ks : Nat} {h : Hh} {Q : PQ} {X : PX} {t : Int} {n : Nat} {s pl ra : Int → Int} (hT : MT h t n s) (hSA : SA s n pl ra) (hQ : Q [aI (mx (fun r => cmv s n pl r) n)] am_R0 h) : am_V M_X11_longestTwice kc ks 0 [aR 72, aI t, aU, aU, aU, aU] [] am_R0 h Q X := by
  have hs := hT.2.2.2.1
  refine S_X11_longestTwice_0 (M_lt_1 hT (fun x hx => ?_) n 0 0 (by omega) ⟨Int.le_refl 0, by omega, fun a b a0 ab bn hab => by omega, Or.inl rfl⟩)
  have e : x = mx (fun r => cmv s n pl r) n := by
    apply Int.le_antisymm
    · rcases hx.2.2.2 with z | ⟨a, b, a0, ab, bn, z⟩
      · rw [z]; exact mx_0 n
      · rw [← z]
        exact LT_le hs hSA a0 (by omega) (by omega) bn (by omega) ((mx_le (mx_0 n) n).mp (Int.le_refl _))
    · refine (mx_le hx.1 n).mpr fun r r0 r1 => ?_
      by_cases z : cmv s n pl r = 0
      · have := hx.1
        omega
      · obtain ⟨a, b, a0, ab, bn, e⟩ := LT_at hs hSA r0 r1 (by omega)
        rw [← e]
        exact hx.2.2.1 a b a0 ab bn (by omega)
  rw [e]
  exact hQ
theorem T_twice {kc ks : Nat} {h : Hh} {t : Int} (hS : SIM h) (hkc : 1 ≤ kc) (hks : 6 ≤ ks) : am_V M_X10_twice kc ks 0 [aR 0, aI t] [] am_R0 h (PQok M_X11_twice [aR 72, aI t] aI) (PXok M_X11_twice [aR 72, aI t] aI [xIO]) := by
  by_cases z : isTx h t
  · obtain ⟨n, s, pl, ra, hC, hM⟩ := hS.txt z
    exact S_X10_twice_0 ⟨by omega, C_known hS z (by omega) (by omega) (S_X10_twice_5 hC.1 (C_greatest hC (S_X10_twice_8 (PQ.good hS (NK.rf h) fun kc ks Q X g hN hS' k => S_X11_twice_0 (M_isNone1 hS' (hN.tx.mpr z) fun h2 m y => S_X11_twice_5 ⟨fun _ => M_longestTwice (m.mt (hN.mt hM)) hC.2.2.2.2.2.2.2.1 (S_X11_twice_17 (k h2 m y)), fun w => absurd rfl w⟩)))))⟩
  · exact S_X10_twice_0 ⟨by omega, C_known0 hS z (by omega) (by omega) (PX.bad 0 hS (NK.rf h) rfl fun kc ks Q X hS' k => S_X11_twice_0 (M_isNone0 hS z fun h2 m y => S_X11_twice_5 ⟨fun w => absurd w (by decide), fun _ => k 0 h2 m y⟩))⟩
theorem M_pc_1 {kc ks : Nat} {h : Hh} {Q : PQ} {X : PX} {t u p : Int} {n m L : Nat} {s s' : Int → Int} (hT : MT h t n s) (hU : MT h u m s') (hp : 0 ≤ p) (hpn : p ≤ n) (hL : 0 < L) (hL64 : L ≤ 64) (hQ : Q [aI (cnt (fun q => L ≤ Lc s n s' m p q) m)] am_R0 h) : ∀ (d i : Nat), i + d = m → (i : Int) + L ≤ m + 1 → am_V M_X11_places kc ks 6 [aR 72, aI t, aI p, aI L, aI u, aI (cnt (fun q => L ≤ Lc s n s' m p q) i), aI i] [] am_R0 h Q X := by
  have h64 := hU.2.1
  have hm := hU.2.2.1
  intro d
  induction d with
  | zero =>
    intro i hd hi
    have : i = m := by omega
    subst this
    exact S_X11_places_6 ⟨⟨by omega, hU.1⟩, fun _ => hQ, fun z => absurd z (by omega)⟩
  | succ d ih =>
    intro i hd hi
    have hle := cnt_le (fun q => L ≤ Lc s n s' m p q) i
    refine S_X11_places_6 ⟨⟨by omega, hU.1⟩, fun z => ?_, fun z => M_together hT hU hp hpn (by omega) (by omega) (S_X11_places_32 ⟨fun y => ⟨by omega, ?_⟩, fun y => ⟨by omega, ?_⟩⟩)⟩
    · have e := (cnt_same (P := fun q => L ≤ Lc s n s' m p q) (i := i) (d + 1)).mpr (fun q q0 q1 y => by
        have := Lc_2 (s := s) (t := s') (n := n) (m := m) (p := p) (q := q) hpn (by omega)
        omega)
      rw [hd] at e
      rw [e]
      exact hQ
    · have hnext := ih (i + 1) (by omega) (by omega)
      rw [cnt_f (P := fun q => L ≤ Lc s n s' m p q) (by omega)] at hnext
      rw [Int.add_zero]
      exact hnext
    · have hnext := ih (i + 1) (by omega) (by omega)
      rw [cnt_t (P := fun q => L ≤ Lc s n s' m p q) (by omega)] at hnext
      exact hnext
theorem M_places {kc ks : Nat} {h : Hh} {Q : PQ} {X : PX} {t u p : Int} {n m L : Nat} {s s' : Int → Int} (hT : MT h t n s) (hU : MT h u m s') (hp : 0 ≤ p) (hpn : p ≤ n) (hL : 0 < L) (hL64 : L ≤ 64) (hQ : Q [aI (cnt (fun q => L ≤ Lc s n s' m p q) m)] am_R0 h) : am_V M_X11_places kc ks 0 [aR 72, aI t, aI p, aI L, aI u, aU, aU] [] am_R0 h Q X := by
  refine S_X11_places_0 ?_
  by_cases z : L ≤ m + 1
  · exact M_pc_1 hT hU hp hpn hL hL64 hQ m 0 (by omega) (by omega)
  · have hm := hU.2.2.1
    refine S_X11_places_6 ⟨⟨by omega, hU.1⟩, fun _ => ?_, fun y => absurd y (by omega)⟩
    rw [cnt_zero (fun q q0 q1 y => by
      have := Lc_2 (s := s) (t := s') (n := n) (m := m) (p := p) (q := q) hpn (by omega)
      omega)] at hQ
    exact hQ
theorem plc_tw {s : Int → Int} {n L : Nat} (hs : WS s n) {p : Int} (hp : 0 ≤ p) (hpn : p < n) (hL : p + L ≤ n) : (cnt (fun q => L ≤ Lc s n s n p q) n = 1 ∨ 1 < cnt (fun q => L ≤ Lc s n s n p q) n) ∧ (1 < cnt (fun q => L ≤ Lc s n s n p q) n ↔ tw s n L p) := by
  have self : L ≤ Lc s n s n p p := (le_Lc (by omega) (by omega)).mpr ⟨hL, hL, AG.refl _ _ _⟩
  have d := cnt_del (P := fun q => L ≤ Lc s n s n p q) n hp hpn self
  refine ⟨by omega, ?_, ?_⟩
  · intro z
    obtain ⟨q, q0, q1, q2, q3⟩ := cnt_ex (P := fun q => L ≤ Lc s n s n p q ∧ q ≠ p) (m := n) (by omega)
    exact ⟨q, q0, q1, q3, (le_LcE hs hp hpn q0 q1 (Ne.symm q3)).mp q2⟩
  · intro ⟨q, q0, q1, q2, q3⟩
    have := cnt_pos (P := fun q => L ≤ Lc s n s n p q ∧ q ≠ p) q0 q1 ⟨(le_LcE hs hp hpn q0 q1 (Ne.symm q2)).mpr q3, q2⟩
    omega
theorem C_fp_2 {kc ks : Nat} {h : Hh} {Q : PQ} {X : PX} {a n : Nat} {s pl ra : Int → Int} (hC : CT h a n s pl ra) {L r0 : Nat} (hL : 0 < L) (h0 : 1 ≤ r0) (h0n : r0 < n) (hlow : ∀ r, 1 ≤ r → r < (r0 : Int) → cmv s n pl r < L) (h1 : L ≤ cmv s n pl r0) (hmax : ∀ r, 0 ≤ r → r < (n : Int) → cmv s n pl r ≤ L) (hQ : ∀ E, TW s n L E → Q [aI E] am_R0 h) : ∀ (d i : Nat) (E : Int), i + d = n → r0 ≤ i → (∀ r, (r0 : Int) ≤ r → r < i → L ≤ cmv s n pl r) → (∃ r, (r0 : Int) - 1 ≤ r ∧ r < i ∧ E = pl r) → (∀ r, (r0 : Int) - 1 ≤ r → r < i → E ≤ pl r) → am_V M_X6_firstPlaceOfLongestTwice kc ks 40 [aR a, aI L, aI i, aI E] [] am_R0 h Q X := by
  obtain ⟨t0, n64, hn, rfl, rfl, rfl, hs, hSA, hcm⟩ := id hC
  intro d
  induction d with
  | zero =>
    intro i E hd hi hrun hE hmin
    have : i = n := by omega
    subst this
    exact S_X6_firstPlaceOfLongestTwice_40 t0 ⟨fun _ => hQ E (TW.of hs hSA hL (r0 := r0) (r1 := i) (by omega) (by omega) (by omega) hlow hrun (fun z => by omega) hE hmin), fun z => absurd z (by omega)⟩
  | succ d ih =>
    intro i E hd hi hrun hE hmin
    have e := hcm i (by omega) (by omega)
    have hmi := hmax i (by omega) (by omega)
    refine S_X6_firstPlaceOfLongestTwice_40 t0 ⟨fun z => absurd z (by omega), fun _ => ⟨by omega, fun z => hQ E ?_, fun z => ⟨by omega, ih (i + 1) _ (by omega) (by omega) (fun r q0 q1 => ?_) ?_ (fun r q0 q1 => ?_)⟩⟩⟩
    · have : (r0 : Int) < i := by
        apply Classical.byContradiction
        intro y
        have : i = r0 := by omega
        subst this
        omega
      exact TW.of hs hSA hL (r0 := r0) (r1 := i) (by omega) this (by omega) hlow hrun (fun _ => by omega) hE hmin
    · by_cases y : r = i
      · rw [y]; omega
      · exact hrun r q0 (by omega)
    · by_cases y : E ≤ h (a + 2) i
      · obtain ⟨r, q0, q1, q2⟩ := hE
        exact ⟨r, q0, by omega, by omega⟩
      · exact ⟨i, by omega, by omega, by omega⟩
    · by_cases y : r = i
      · rw [y]; omega
      · have := hmin r q0 (by omega)
        omega
theorem C_fp_1 {kc ks : Nat} {h : Hh} {Q : PQ} {X : PX} {a n : Nat} {s pl ra : Int → Int} (hC : CT h a n s pl ra) {L : Nat} (hL : 0 < L) (hex : ∃ r, 0 ≤ r ∧ r < (n : Int) ∧ L ≤ cmv s n pl r) (hmax : ∀ r, 0 ≤ r → r < (n : Int) → cmv s n pl r ≤ L) (hQ : ∀ E, TW s n L E → Q [aI E] am_R0 h) : ∀ (d i : Nat), i + d = n → 1 ≤ i → (∀ r, 1 ≤ r → r < (i : Int) → cmv s n pl r < L) → am_V M_X6_firstPlaceOfLongestTwice kc ks 7 [aR a, aI L, aI i, aU] [] am_R0 h Q X := by
  obtain ⟨t0, n64, hn, rfl, rfl, rfl, hs, hSA, hcm⟩ := id hC
  intro d
  induction d with
  | zero =>
    intro i hd hi hlow
    exfalso
    obtain ⟨r, r0, r1, r2⟩ := hex
    by_cases e : r = 0
    · rw [e, cmv_0] at r2
      omega
    · have := hlow r (by omega) (by omega)
      omega
  | succ d ih =>
    intro i hd hi hlow
    have e := hcm i (by omega) (by omega)
    refine S_X6_firstPlaceOfLongestTwice_7 t0 ⟨fun z => absurd z (by omega), fun _ => ⟨by omega, fun z => ⟨by omega, C_fp_2 hC hL hi (by omega) hlow (by omega) hmax hQ (d + 1) i _ hd (Nat.le_refl i) (fun r q0 q1 => by omega) ⟨(i : Int) - 1, by omega, by omega, rfl⟩ (fun r q0 q1 => ?_)⟩, fun z => ⟨by omega, ih (i + 1) (by omega) (by omega) (fun r q0 q1 => ?_)⟩⟩⟩
    · rw [show r = (i : Int) - 1 by omega]
      exact Int.le_refl _
    · by_cases y : r = i
      · rw [y]; omega
      · exact hlow r q0 (by omega)
theorem M_ta_1 {kc ks : Nat} {h : Hh} {Q : PQ} {X : PX} {t : Int} {n L : Nat} {s : Int → Int} (hT : MT h t n s) (hL : 0 < L) (hLn : L ≤ n) (hQ : ∀ E, TW s n L E → ∀ h2, MK h h2 → h2 72 10 = 0 → Q [aI E] am_R0 h2) (hex : ∃ p, 0 ≤ p ∧ p < (n : Int) ∧ tw s n L p) : ∀ (d i : Nat) (b : Int), i + d = n + 1 → (i : Int) + L ≤ n + 1 → ((b = -1 ∧ ∀ q, 0 ≤ q → q < (i : Int) → ¬ tw s n L q) ∨ (0 ≤ b ∧ b < i ∧ tw s n L b ∧ ∀ q, 0 ≤ q → q < (i : Int) → tw s n L q → ¬ ELk (en s n) L q b ∧ (AG (en s n) (en s n) q b L → b ≤ q))) → am_V M_X11_twiceAt kc ks 21 [aR 72, aI t, aI L, aI b, aI i] [] am_R0 h Q X := by
  have h64 := hT.2.1
  have hn := hT.2.2.1
  have hs := hT.2.2.2.1
  intro d
  induction d with
  | zero => intro i b hd hi hb; omega
  | succ d ih =>
    intro i b hd hi hb
    refine S_X11_twiceAt_21 ⟨fun z => absurd z (by omega), fun _ => ⟨⟨by omega, hT.1⟩, fun z => ⟨fun y => M_isWrong fun h2 m x => S_X11_twiceAt_89 ⟨fun _ => hQ b ?_ h2 m x, fun w => absurd rfl w⟩, fun y => ?_⟩, fun z => ?_⟩⟩
    · rcases hb with ⟨e, -⟩ | ⟨b0, b1, b2, b3⟩
      · omega
      · refine ⟨b0, by omega, b2, fun q q0 q1 q2 => b3 q q0 ?_ q2⟩
        have := tw_len hs q0 q1 q2
        omega
    · exfalso
      obtain ⟨p, p0, p1, p2⟩ := hex
      have := tw_len hs p0 p1 p2
      rcases hb with ⟨e, hz⟩ | ⟨b0, b1, b2, b3⟩
      · exact hz p p0 (by omega) p2
      · omega
    · have hin : (i : Int) < n := by omega
      obtain ⟨c1, c2⟩ := plc_tw (L := L) hs (p := i) (by omega) hin (by omega)
      refine M_places hT hT (by omega) (by omega) hL (by omega) (S_X11_twiceAt_47 ⟨fun y => ⟨by omega, ih (i + 1) b (by omega) (by omega) ?_⟩, fun y => ⟨fun w => ⟨by omega, ih (i + 1) i (by omega) (by omega) ?_⟩, fun w => ?_⟩⟩)
      · have hno : ¬ tw s n L i := fun x => by have := c2.mpr x; omega
        rcases hb with ⟨e, hz⟩ | ⟨b0, b1, b2, b3⟩
        · refine Or.inl ⟨e, fun q q0 q1 => ?_⟩
          by_cases x : q = i
          · rw [x]; exact hno
          · exact hz q q0 (by omega)
        · refine Or.inr ⟨b0, by omega, b2, fun q q0 q1 q2 => ?_⟩
          by_cases x : q = i
          · rw [x] at q2; exact absurd q2 hno
          · exact b3 q q0 (by omega) q2
      · rcases hb with ⟨e, hz⟩ | ⟨b0, b1, b2, b3⟩
        · refine Or.inr ⟨by omega, by omega, c2.mp (by omega), fun q q0 q1 q2 => ?_⟩
          by_cases x : q = i
          · rw [x]
            exact ⟨fun v => v.nag (AG.refl _ _ _), fun _ => Int.le_refl _⟩
          · exact absurd q2 (hz q q0 (by omega))
        · omega
      · rcases hb with ⟨e, hz⟩ | ⟨b0, b1, b2, b3⟩
        · omega
        · refine M_compared hT (by omega) (by omega) (by omega) b0 (by omega) fun v v1 v2 => S_X11_twiceAt_64 ⟨fun x => ⟨by omega, ih (i + 1) b (by omega) (by omega) (Or.inr ⟨b0, by omega, b2, fun q q0 q1 q2 => ?_⟩)⟩, fun x => ⟨by omega, ih (i + 1) i (by omega) (by omega) (Or.inr ⟨by omega, by omega, c2.mp (by omega), fun q q0 q1 q2 => ?_⟩)⟩⟩
          · by_cases x2 : q = i
            · rw [x2]
              exact ⟨fun u => by have := v1.mpr u; omega, fun _ => by omega⟩
            · exact b3 q q0 (by omega) q2
          · by_cases x2 : q = i
            · rw [x2]
              exact ⟨fun u => u.nag (AG.refl _ _ _), fun _ => Int.le_refl _⟩
            · have hlt := v1.mp x
              obtain ⟨d1, d2⟩ := b3 q q0 (by omega) q2
              constructor
              · intro u
                refine d1 (ELk.of (u.el.trans hlt.el) fun w2 => ?_)
                exact u.nag (AG_mid u.el hlt.el w2)
              · intro u
                exfalso
                obtain ⟨j, j1, j2, j3⟩ := hlt
                exact d1 ⟨j, j1, (u.mono (by omega)).trans j2, by rw [u j j1]; exact j3⟩
theorem T_twiceAt {kc ks : Nat} {h : Hh} {t : Int} (hS : SIM h) (hkc : 2 ≤ kc) (hks : 12 ≤ ks) : am_V M_X10_twiceAt kc ks 0 [aR 0, aI t, aU] [] am_R0 h (PQok M_X11_twiceAt [aR 72, aI t, aU, aU, aU] aI) (PXok M_X11_twiceAt [aR 72, aI t, aU, aU, aU] aI [xIO, xNS]) := by
  by_cases z : isTx h t
  · obtain ⟨n, s, pl, ra, hC, hM⟩ := hS.txt z
    have hs := hC.2.2.2.2.2.2.1
    have hSA := hC.2.2.2.2.2.2.2.1
    have hL0 := mx_0 (f := fun r => (cmv s n pl r : Int)) n
    obtain ⟨L, hL⟩ : ∃ L : Nat, mx (fun r => (cmv s n pl r : Int)) n = L := ⟨(mx (fun r => (cmv s n pl r : Int)) n).toNat, by omega⟩
    have hlt := mxc_lt hs hSA
    rw [hL] at hlt
    refine S_X10_twiceAt_0 ⟨by omega, C_known hS z (by omega) (by omega) (S_X10_twiceAt_5 hC.1 (C_greatest hC ?_))⟩
    rw [hL]
    refine S_X10_twiceAt_10 hC.1 ⟨fun y => ?_, fun y => ⟨by omega, PX.bad 1 hS (NK.rf h) rfl fun kc ks Q X hS' k => S_X11_twiceAt_0 (M_isNone1 hS' z fun h2 m x => S_X11_twiceAt_5 ⟨fun _ => M_longestTwice (m.mt hM) hSA ?_, fun w => absurd rfl w⟩)⟩⟩
    · have hex := (le_mx (f := fun r => (cmv s n pl r : Int)) (k := L) (by omega) (m := n)).mp (by omega)
      obtain ⟨r, r0, r1, r2⟩ := hex
      have hmax : ∀ r, 0 ≤ r → r < (n : Int) → cmv s n pl r ≤ L := fun r r0 r1 => by
        have := (mx_le hL0 n).mp (Int.le_refl _) r r0 r1
        omega
      refine S_X6_firstPlaceOfLongestTwice_0 hC.1 (C_greatest hC ?_)
      rw [hL]
      refine S_X6_firstPlaceOfLongestTwice_4 hC.1 (C_fp_1 hC (by omega) ⟨r, r0, r1, by omega⟩ hmax (fun E hE => S_X10_twiceAt_27 (PQ.good hS (NK.rf h) fun kc ks Q X g hN hS' k => S_X11_twiceAt_0 (M_isNone1 hS' (hN.tx.mpr z) fun h2 m x => S_X11_twiceAt_5 ⟨fun _ => M_longestTwice (m.mt (hN.mt hM)) hSA ?_, fun w => absurd rfl w⟩))) (n - 1) 1 (by omega) (Nat.le_refl 1) (fun r q0 q1 => by omega))
      rw [hL]
      obtain ⟨a, b, a0, ab, bn, e⟩ := LT_at hs hSA r0 r1 (by omega)
      refine S_X11_twiceAt_15 (M_ta_1 (m.mt (hN.mt hM)) (by omega) (by omega) (fun E' hE' h3 m3 x3 => ?_) ⟨a, a0, by omega, b, by omega, bn, by omega, (le_LcE hs a0 (by omega) (by omega) bn (by omega)).mp (by omega)⟩ (n + 1) 0 (-1) (by omega) (by omega) (Or.inl ⟨rfl, fun q q0 q1 => by omega⟩))
      rw [hE'.uniq hE]
      exact k h3 (m.tr m3) x3
    · rw [hL]
      exact S_X11_twiceAt_15 (S_X11_twiceAt_21 ⟨fun _ => ⟨fun w => absurd w (by omega), fun _ => M_isWrong fun h3 m3 x3 => S_X11_twiceAt_89 ⟨fun w => absurd w (by decide), fun _ => k 0 h3 (m.tr m3) x3⟩⟩, fun w => absurd w (by omega)⟩)
  · exact S_X10_twiceAt_0 ⟨by omega, C_known0 hS z (by omega) (by omega) (PX.bad 0 hS (NK.rf h) rfl fun kc ks Q X hS' k => S_X11_twiceAt_0 (M_isNone0 hS z fun h2 m y => S_X11_twiceAt_5 ⟨fun w => absurd w (by decide), fun _ => k 0 h2 m y⟩))⟩
