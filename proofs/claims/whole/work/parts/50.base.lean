/-! BOTH SIDES OF A CALL: views of a text, what a call keeps, when the model's call is good -/
theorem ELk_congr {x x' : Int → Int} {k : Nat} {p q : Int} (hx : ∀ i, 0 ≤ i → x i = x' i) (hp : 0 ≤ p) (hq : 0 ≤ q) : ELk x k p q ↔ ELk x' k p q := by
  constructor
  · intro ⟨j, h0, h1, h2⟩
    exact ⟨j, h0, (AG_congr hx hx hp hq).mp h1, by rw [← hx (p + j) (by omega), ← hx (q + j) (by omega)]; exact h2⟩
  · intro ⟨j, h0, h1, h2⟩
    exact ⟨j, h0, (AG_congr hx hx hp hq).mpr h1, by rw [hx (p + j) (by omega), hx (q + j) (by omega)]; exact h2⟩
/-- the class's text -/
def CT (h : Hh) (a : Nat) (n : Nat) (s pl ra : Int → Int) : Prop := isT a ∧ n ≤ 64 ∧ h a 4 = n ∧ h (a + 1) = s ∧ h (a + 2) = pl ∧ h (a + 3) = ra ∧ WS s n ∧ SA s n pl ra ∧ ∀ r, 0 ≤ r → r < (n : Int) → h (a + 4) r = cmv s n pl r
/-- the model's text -/
def MT (h : Hh) (t : Int) (n : Nat) (s : Int → Int) : Prop := (0 ≤ t ∧ t < 9) ∧ n ≤ 64 ∧ h 74 t = n ∧ WS s n ∧ ∀ k, 0 ≤ k → k < (n : Int) → ms h t k = s k
theorem SIM.txt {h : Hh} {t : Int} (hS : SIM h) (z : isTx h t) : ∃ (n : Nat) (s pl ra : Int → Int), CT h (ta t) n s pl ra ∧ MT h t n s := by
  obtain ⟨⟨n0, n64, n74⟩, hs, hms, hSA, hcm⟩ := hS.2.2.2.1 t z.1 z.2
  obtain ⟨n, hn⟩ : ∃ n : Nat, h (ta t) 4 = n := ⟨(h (ta t) 4).toNat, by omega⟩
  rw [hn] at hs hms hSA hcm
  have z2 := z.2
  have h8 := hS.1.2.1
  exact ⟨n, h (ta t + 1), h (ta t + 2), h (ta t + 3), ⟨ta_isT z.1 (by omega), by omega, hn, rfl, rfl, rfl, hs, hSA, hcm⟩, ⟨z.1, by omega⟩, by omega, by omega, hs, fun k k0 k1 => (hms k k0 k1).symm⟩
/-- what a call of the class that asks only keeps -/
def NK (h h' : Hh) : Prop := ∀ d, SIMcell d ∨ d = 72 → h' d = h d
theorem NK.rf (h : Hh) : NK h h := fun _ _ => rfl
theorem NK.tr {h h' h2 : Hh} (a : NK h h') (b : NK h' h2) : NK h h2 := fun d hd => (b d hd).trans (a d hd)
theorem NK.st {h h' : Hh} {c : Nat} {j v : Int} (a : NK h h') (hc : ¬ (SIMcell c ∨ c = 72)) : NK h (am_st h' c j v) := fun d hd => by
  rw [am_st_o (fun e : d = c => hc (by rw [← e]; exact hd))]
  exact a d hd
theorem NK.sim {h h' : Hh} (hS : SIM h) (a : NK h h') : SIM h' := hS.keep (fun d hd => a d (Or.inl hd)) (by rw [a 72 (Or.inr rfl)]) (by rw [a 72 (Or.inr rfl)])
theorem NK.c0 {h h' : Hh} (a : NK h h') : h' 0 = h 0 := a 0 (Or.inl (Or.inl rfl))
theorem NK.c2 {h h' : Hh} (a : NK h h') : h' 2 = h 2 := a 2 (Or.inl (Or.inr (Or.inl rfl)))
theorem NK.c3 {h h' : Hh} (a : NK h h') : h' 3 = h 3 := a 3 (Or.inl (Or.inr (Or.inr (Or.inl rfl))))
theorem NK.c72 {h h' : Hh} (a : NK h h') : h' 72 = h 72 := a 72 (Or.inr rfl)
theorem NK.c73 {h h' : Hh} (a : NK h h') : h' 73 = h 73 := a 73 (Or.inl (Or.inr (Or.inr (Or.inr (Or.inr (Or.inl rfl))))))
theorem NK.c74 {h h' : Hh} (a : NK h h') : h' 74 = h 74 := a 74 (Or.inl (Or.inr (Or.inr (Or.inr (Or.inr (Or.inr (Or.inl rfl)))))))
theorem NK.c75 {h h' : Hh} (a : NK h h') : h' 75 = h 75 := a 75 (Or.inl (Or.inr (Or.inr (Or.inr (Or.inr (Or.inr (Or.inr rfl)))))))
theorem NK.ct {h h' : Hh} {a n : Nat} {s pl ra : Int → Int} (k : NK h h') (hT : CT h a n s pl ra) : CT h' a n s pl ra := by
  obtain ⟨t0, h1, h2, h3, h4, h5, h6, h7, h8⟩ := hT
  obtain ⟨i, i8, ia⟩ := id t0
  have e : ∀ j, j < 5 → h' (a + j) = h (a + j) := fun j hj => k _ (Or.inl (Or.inr (Or.inr (Or.inr (Or.inl (by omega))))))
  have e0 := e 0 (by omega)
  rw [Nat.add_zero] at e0
  exact ⟨t0, h1, by rw [e0]; exact h2, by rw [e 1 (by omega)]; exact h3, by rw [e 2 (by omega)]; exact h4, by rw [e 3 (by omega)]; exact h5, h6, h7, fun r r0 r1 => by rw [e 4 (by omega)]; exact h8 r r0 r1⟩
theorem MT.of {h h' : Hh} {t : Int} {n : Nat} {s : Int → Int} (hT : MT h t n s) (e73 : h' 73 = h 73) (e74 : h' 74 = h 74) : MT h' t n s := by
  obtain ⟨h0, h1, h2, h3, h4⟩ := hT
  have e : ms h' t = ms h t := by unfold ms; rw [e73]
  exact ⟨h0, h1, by rw [e74]; exact h2, h3, by rw [e]; exact h4⟩
theorem NK.mt {h h' : Hh} {t : Int} {n : Nat} {s : Int → Int} (k : NK h h') (hT : MT h t n s) : MT h' t n s := hT.of k.c73 k.c74
theorem NK.tx {h h' : Hh} {t : Int} (k : NK h h') : isTx h' t ↔ isTx h t := by unfold isTx; rw [k.c0]
/-- what a call of the model that asks only keeps -/
def MK (h h' : Hh) : Prop := (∀ d, d ≠ 72 → d ≠ 76 → d ≠ 77 → d ≠ 78 → d ≠ 79 → d ≠ 80 → h' d = h d) ∧ h' 72 8 = h 72 8 ∧ h' 72 9 = h 72 9
theorem MK.rf (h : Hh) : MK h h := ⟨fun _ _ _ _ _ _ _ => rfl, rfl, rfl⟩
theorem MK.tr {h h' h2 : Hh} (a : MK h h') (b : MK h' h2) : MK h h2 := ⟨fun d d1 d2 d3 d4 d5 d6 => (b.1 d d1 d2 d3 d4 d5 d6).trans (a.1 d d1 d2 d3 d4 d5 d6), b.2.1.trans a.2.1, b.2.2.trans a.2.2⟩
theorem MK.th {h h' : Hh} {c : Int} (a : MK h h') : MK h (am_st h' 72 10 c) := ⟨fun d d1 d2 d3 d4 d5 d6 => by rw [am_st_o d1]; exact a.1 d d1 d2 d3 d4 d5 d6, by rw [am_st_n (Or.inr (by decide))]; exact a.2.1, by rw [am_st_n (Or.inr (by decide))]; exact a.2.2⟩
theorem MK.of {h h' : Hh} (hf : ∀ d, d ≠ 76 → d ≠ 77 → d ≠ 78 → d ≠ 79 → d ≠ 80 → h' d = h d) : MK h h' := ⟨fun d _ d2 d3 d4 d5 d6 => hf d d2 d3 d4 d5 d6, by rw [hf 72 (by decide) (by decide) (by decide) (by decide) (by decide)], by rw [hf 72 (by decide) (by decide) (by decide) (by decide) (by decide)]⟩
theorem MK.sim {h h' : Hh} (hS : SIM h) (a : MK h h') : SIM h' := hS.keep (fun d hd => a.1 d (by unfold SIMcell at hd; omega) (by unfold SIMcell at hd; omega) (by unfold SIMcell at hd; omega) (by unfold SIMcell at hd; omega) (by unfold SIMcell at hd; omega) (by unfold SIMcell at hd; omega)) a.2.1 a.2.2
theorem MK.c0 {h h' : Hh} (a : MK h h') : h' 0 = h 0 := a.1 0 (by decide) (by decide) (by decide) (by decide) (by decide) (by decide)
theorem MK.c73 {h h' : Hh} (a : MK h h') : h' 73 = h 73 := a.1 73 (by decide) (by decide) (by decide) (by decide) (by decide) (by decide)
theorem MK.c74 {h h' : Hh} (a : MK h h') : h' 74 = h 74 := a.1 74 (by decide) (by decide) (by decide) (by decide) (by decide) (by decide)
theorem MK.c75 {h h' : Hh} (a : MK h h') : h' 75 = h 75 := a.1 75 (by decide) (by decide) (by decide) (by decide) (by decide) (by decide)
theorem MK.c81 {h h' : Hh} (a : MK h h') : h' 81 = h 81 := a.1 81 (by decide) (by decide) (by decide) (by decide) (by decide) (by decide)
theorem MK.c82 {h h' : Hh} (a : MK h h') : h' 82 = h 82 := a.1 82 (by decide) (by decide) (by decide) (by decide) (by decide) (by decide)
theorem MK.mt {h h' : Hh} {t : Int} {n : Nat} {s : Int → Int} (k : MK h h') (hT : MT h t n s) : MT h' t n s := hT.of k.c73 k.c74
theorem MK.tx {h h' : Hh} {t : Int} (k : MK h h') : isTx h' t ↔ isTx h t := by unfold isTx; rw [k.c0]
/-- from h1 the model's call comes to the code c, to the class's value where c is 0, and both sides agree afterwards -/
def GM (j : MInfo) (As : List AV) (mk : Int → AV) (c : Int) (h1 : Hh) : Prop := ∀ (kc ks : Nat) (Q : PQ) (X : PX), (∀ (b : Int) (h2 : Hh), h2 72 10 = c → (c = 0 → b = h1 81 0) → h2 81 = h1 81 → SIM h2 → Q [mk b] am_R0 h2) → am_V j kc ks 0 As [] am_R0 h1 Q X
theorem GM.bad {j : MInfo} {As : List AV} {mk : Int → AV} {c : Int} {h h' : Hh} (hS : SIM h) (hN : NK h h') (hc : c ≠ 0) (k : ∀ (kc ks : Nat) (Q : PQ) (X : PX), SIM h' → (∀ b h2, MK h' h2 → h2 72 10 = c → Q [mk b] am_R0 h2) → am_V j kc ks 0 As [] am_R0 h' Q X) : GM j As mk c h' := fun kc ks Q X y => k kc ks Q X (hN.sim hS) (fun b h2 m e => y b h2 e (fun z => absurd z hc) m.c81 (m.sim (hN.sim hS)))
theorem GM.good {j : MInfo} {As : List AV} {mk : Int → AV} {v : Int} {h h' : Hh} (hS : SIM h) (hN : NK h h') (k : ∀ (kc ks : Nat) (Q : PQ) (X : PX) (g : Hh), NK h g → SIM g → (∀ h2, MK g h2 → h2 72 10 = 0 → Q [mk v] am_R0 h2) → am_V j kc ks 0 As [] am_R0 g Q X) : GM j As mk 0 (am_st h' 81 0 v) := by
  have hN2 : NK h (am_st h' 81 0 v) := hN.st (by unfold SIMcell; omega)
  exact fun kc ks Q X y => k kc ks Q X _ hN2 (hN2.sim hS) (fun h2 m e => y v h2 e (fun _ => am_st_s.symm) m.c81 (m.sim (hN2.sim hS)))
/-- the guards, where it is known how they come out -/
theorem SIM.m8 {h : Hh} (hS : SIM h) : 0 ≤ h 72 8 ∧ h 72 8 ≤ 8 := by
  have := hS.1
  omega
theorem SIM.tx8 {h : Hh} {t : Int} (hS : SIM h) : (0 ≤ t ∧ t < h 72 8) ↔ isTx h t := by
  unfold isTx
  rw [hS.1.2.2]
theorem SIM.ln {h : Hh} (hS : SIM h) : ∀ t, 0 ≤ t → t < h 72 8 → 0 ≤ h 74 t ∧ h 74 t ≤ 64 := fun t t0 t1 => by
  obtain ⟨⟨n0, n64, n74⟩, -⟩ := hS.2.2.2.1 t t0 (by rw [← hS.1.2.2]; exact t1)
  omega
theorem C_known {kc ks : Nat} {h : Hh} {Q : PQ} {X : PX} {t : Int} (hS : SIM h) (z : isTx h t) (hkc : 1 ≤ kc) (hks : 6 ≤ ks) (hQ : Q [aR (ta t)] am_R0 h) : am_V M_X10_known kc ks 0 [aR 0, aI t] [] am_R0 h Q X := L_known hS.1.2.1 hkc hks (fun _ => hQ) (fun y => absurd z y)
theorem C_known0 {kc ks : Nat} {h : Hh} {Q : PQ} {X : PX} {t : Int} (hS : SIM h) (z : ¬ isTx h t) (hkc : 1 ≤ kc) (hks : 6 ≤ ks) (hX : X "java/lang/IndexOutOfBoundsException" am_R0 h) : am_V M_X10_known kc ks 0 [aR 0, aI t] [] am_R0 h Q X := L_known hS.1.2.1 hkc hks (fun y => absurd y z) (fun _ => hX)
theorem C_knownWith {kc ks : Nat} {h : Hh} {Q : PQ} {X : PX} {t p : Int} {n : Nat} {s pl ra : Int → Int} (hS : SIM h) (z : isTx h t) (hC : CT h (ta t) n s pl ra) (hp : 0 ≤ p) (hpn : p < n) (hkc : 2 ≤ kc) (hks : 12 ≤ ks) (hQ : Q [aR (ta t)] am_R0 h) : am_V M_X10_knownWith kc ks 0 [aR 0, aI t, aI p, aU] [] am_R0 h Q X := L_knownWith hS.1.2.1 hkc hks (fun _ _ _ => hQ) (fun y => absurd ⟨z, hp, by rw [hC.2.2.1]; exact hpn⟩ y)
theorem C_knownWithRow {kc ks : Nat} {h : Hh} {Q : PQ} {X : PX} {t p : Int} {n : Nat} {s pl ra : Int → Int} (hS : SIM h) (z : isTx h t) (hC : CT h (ta t) n s pl ra) (hp : 0 ≤ p) (hpn : p ≤ n) (hkc : 2 ≤ kc) (hks : 12 ≤ ks) (hQ : Q [aR (ta t)] am_R0 h) : am_V M_X10_knownWithRow kc ks 0 [aR 0, aI t, aI p, aU] [] am_R0 h Q X := L_knownWithRow hS.1.2.1 hkc hks (fun _ _ _ => hQ) (fun y => absurd ⟨z, hp, by rw [hC.2.2.1]; exact hpn⟩ y)
/-- whether there is such a place -/
def isPx (h : Hh) (t p : Int) : Prop := isTx h t ∧ 0 ≤ p ∧ p < h 74 t
theorem isPx.mk {h : Hh} {t p : Int} {n : Nat} {s : Int → Int} (hM : MT h t n s) (z : isTx h t) (h0 : 0 ≤ p) (h1 : p < n) : isPx h t p := ⟨z, h0, by rw [hM.2.2.1]; exact h1⟩
theorem isPx.lt {h : Hh} {t p : Int} {n : Nat} {s : Int → Int} (hM : MT h t n s) (z : isPx h t p) : p < n := by
  have := z.2.2
  rw [hM.2.2.1] at this
  exact this
theorem C_knownWith0 {kc ks : Nat} {h : Hh} {Q : PQ} {X : PX} {t p : Int} (hS : SIM h) (z : ¬ isPx h t p) (hkc : 2 ≤ kc) (hks : 12 ≤ ks) (hX : X "java/lang/IndexOutOfBoundsException" am_R0 h) : am_V M_X10_knownWith kc ks 0 [aR 0, aI t, aI p, aU] [] am_R0 h Q X := L_knownWith hS.1.2.1 hkc hks (fun y y0 y1 => absurd ⟨y, y0, by
  obtain ⟨⟨n0, n64, n74⟩, -⟩ := hS.2.2.2.1 t y.1 y.2
  rw [n74]
  exact y1⟩ z) (fun _ => hX)
theorem C_knownWithRow0 {kc ks : Nat} {h : Hh} {Q : PQ} {X : PX} {t p : Int} (hS : SIM h) (z : ¬ (isTx h t ∧ 0 ≤ p ∧ p ≤ h 74 t)) (hkc : 2 ≤ kc) (hks : 12 ≤ ks) (hX : X "java/lang/IndexOutOfBoundsException" am_R0 h) : am_V M_X10_knownWithRow kc ks 0 [aR 0, aI t, aI p, aU] [] am_R0 h Q X := L_knownWithRow hS.1.2.1 hkc hks (fun y y0 y1 => absurd ⟨y, y0, by
  obtain ⟨⟨n0, n64, n74⟩, -⟩ := hS.2.2.2.1 t y.1 y.2
  rw [n74]
  exact y1⟩ z) (fun _ => hX)
theorem M_isText1 {kc ks : Nat} {h : Hh} {Q : PQ} {X : PX} {t : Int} (hS : SIM h) (z : isTx h t) (hQ : Q [aI 1] am_R0 h) : am_V M_X11_isText kc ks 0 [aR 72, aI t] [] am_R0 h Q X := L_isText hS.m8 (fun _ => hQ) (fun y => absurd (hS.tx8.mpr z) y)
theorem M_isText0 {kc ks : Nat} {h : Hh} {Q : PQ} {X : PX} {t : Int} (hS : SIM h) (z : ¬ isTx h t) (hQ : Q [aI 0] am_R0 h) : am_V M_X11_isText kc ks 0 [aR 72, aI t] [] am_R0 h Q X := L_isText hS.m8 (fun y => absurd (hS.tx8.mp y) z) (fun _ => hQ)
theorem M_isPlace1 {kc ks : Nat} {h : Hh} {Q : PQ} {X : PX} {t p : Int} (hS : SIM h) (z : isPx h t p) (hQ : Q [aI 1] am_R0 h) : am_V M_X11_isPlace kc ks 0 [aR 72, aI t, aI p] [] am_R0 h Q X := L_isPlace hS.m8 hS.ln (fun _ => hQ) (fun y => absurd ⟨hS.tx8.mpr z.1, z.2⟩ y)
theorem M_isPlace0 {kc ks : Nat} {h : Hh} {Q : PQ} {X : PX} {t p : Int} (hS : SIM h) (z : ¬ isPx h t p) (hQ : Q [aI 0] am_R0 h) : am_V M_X11_isPlace kc ks 0 [aR 72, aI t, aI p] [] am_R0 h Q X := L_isPlace hS.m8 hS.ln (fun y => absurd ⟨hS.tx8.mp y.1, y.2⟩ z) (fun _ => hQ)
theorem M_isWrong {kc ks : Nat} {h : Hh} {Q : PQ} {X : PX} {c : Int} (hQ : ∀ h2, MK h h2 → h2 72 10 = c → Q [aI (if c = 0 then 0 else 1)] am_R0 h2) : am_V M_X11_isWrong kc ks 0 [aR 72, aI c] [] am_R0 h Q X := L_isWrong (hQ _ (MK.rf h).th am_st_s)
theorem M_isNone1 {kc ks : Nat} {h : Hh} {Q : PQ} {X : PX} {t : Int} (hS : SIM h) (z : isTx h t) (hQ : ∀ h2, MK h h2 → h2 72 10 = 0 → Q [aI 0] am_R0 h2) : am_V M_X11_isNone kc ks 0 [aR 72, aI t] [] am_R0 h Q X := L_isNone hS.m8 (fun _ => hQ _ (MK.rf h).th am_st_s) (fun y => absurd (hS.tx8.mpr z) y)
theorem M_isNone0 {kc ks : Nat} {h : Hh} {Q : PQ} {X : PX} {t : Int} (hS : SIM h) (z : ¬ isTx h t) (hQ : ∀ h2, MK h h2 → h2 72 10 = 1 → Q [aI 1] am_R0 h2) : am_V M_X11_isNone kc ks 0 [aR 72, aI t] [] am_R0 h Q X := L_isNone hS.m8 (fun y => absurd (hS.tx8.mp y) z) (fun _ => hQ _ (MK.rf h).th am_st_s)
theorem M_isNoPlace1 {kc ks : Nat} {h : Hh} {Q : PQ} {X : PX} {t p : Int} (hS : SIM h) (z : isPx h t p) (hQ : ∀ h2, MK h h2 → h2 72 10 = 0 → Q [aI 0] am_R0 h2) : am_V M_X11_isNoPlace kc ks 0 [aR 72, aI t, aI p] [] am_R0 h Q X := L_isNoPlace hS.m8 hS.ln (fun _ => hQ _ (MK.rf h).th am_st_s) (fun y => absurd ⟨hS.tx8.mpr z.1, z.2⟩ y)
theorem M_isNoPlace0 {kc ks : Nat} {h : Hh} {Q : PQ} {X : PX} {t p : Int} (hS : SIM h) (z : ¬ isPx h t p) (hQ : ∀ h2, MK h h2 → h2 72 10 = 1 → Q [aI 1] am_R0 h2) : am_V M_X11_isNoPlace kc ks 0 [aR 72, aI t, aI p] [] am_R0 h Q X := L_isNoPlace hS.m8 hS.ln (fun y => absurd ⟨hS.tx8.mp y.1, y.2⟩ z) (fun _ => hQ _ (MK.rf h).th am_st_s)
theorem M_isNoRank1 {kc ks : Nat} {h : Hh} {Q : PQ} {X : PX} {t p : Int} (hS : SIM h) (z : isPx h t p) (hQ : ∀ h2, MK h h2 → h2 72 10 = 0 → Q [aI 0] am_R0 h2) : am_V M_X11_isNoRank kc ks 0 [aR 72, aI t, aI p] [] am_R0 h Q X := L_isNoRank hS.m8 hS.ln (fun _ => hQ _ (MK.rf h).th am_st_s) (fun y => absurd ⟨hS.tx8.mpr z.1, z.2⟩ y)
theorem M_isNoRank0 {kc ks : Nat} {h : Hh} {Q : PQ} {X : PX} {t p : Int} (hS : SIM h) (z : ¬ isPx h t p) (hQ : ∀ h2, MK h h2 → h2 72 10 = 1 → Q [aI 1] am_R0 h2) : am_V M_X11_isNoRank kc ks 0 [aR 72, aI t, aI p] [] am_R0 h Q X := L_isNoRank hS.m8 hS.ln (fun y => absurd ⟨hS.tx8.mp y.1, y.2⟩ z) (fun _ => hQ _ (MK.rf h).th am_st_s)
/-- the model's own methods, said of any row that agrees with its signs -/
theorem M_together {kc ks : Nat} {h : Hh} {Q : PQ} {X : PX} {t u p q : Int} {n m : Nat} {s s' : Int → Int} (hT : MT h t n s) (hU : MT h u m s') (hp : 0 ≤ p) (hpn : p ≤ n) (hq : 0 ≤ q) (hqm : q ≤ m) (hQ : Q [aI (Lc s n s' m p q)] am_R0 h) : am_V M_X11_together kc ks 0 [aR 72, aI t, aI p, aI u, aI q, aU] [] am_R0 h Q X := by
  obtain ⟨⟨t0, t9⟩, n64, hn, hs, hms⟩ := hT
  obtain ⟨⟨u0, u9⟩, m64, hm, hs', hms'⟩ := hU
  refine L_together t0 t9 u0 u9 hn hm (by omega) (by omega) hp hpn hq hqm ?_
  rw [Lc_congr hms hms' hp hpn hq hqm]
  exact hQ
theorem M_compared {kc ks : Nat} {h : Hh} {Q : PQ} {X : PX} {t p q : Int} {n M : Nat} {s : Int → Int} (hT : MT h t n s) (hM : M ≤ 64) (hp : 0 ≤ p) (hpn : p ≤ n) (hq : 0 ≤ q) (hqn : q ≤ n) (hQ : ∀ v, (v < 0 ↔ ELk (en s n) M p q) → (v = 0 ↔ AG (en s n) (en s n) p q M) → Q [aI v] am_R0 h) : am_V M_X11_compared kc ks 0 [aR 72, aI t, aI p, aI q, aI M, aU, aU] [] am_R0 h Q X := by
  obtain ⟨⟨t0, t9⟩, n64, hn, hs, hms⟩ := hT
  have he : ∀ i, 0 ≤ i → en (ms h t) n i = en s n i := fun i hi => en_congr hms hi
  refine L_compared t0 t9 hM hn (by omega) (hs.congr (fun i i0 i1 => (hms i i0 i1).symm)) hp (by omega) hq (by omega) (fun v h1 h2 => hQ v (h1.trans (ELk_congr he hp hq)) (h2.trans (AG_congr he he hp hq)))
theorem M_rank {kc ks : Nat} {h : Hh} {Q : PQ} {X : PX} {t p : Int} {n : Nat} {s : Int → Int} (hT : MT h t n s) (hp : 0 ≤ p) (hpn : p < n) (hQ : Q [aI (rk s n p)] am_R0 h) : am_V M_X11_rank kc ks 0 [aR 72, aI t, aI p, aU, aU] [] am_R0 h Q X := by
  obtain ⟨⟨t0, t9⟩, n64, hn, hs, hms⟩ := hT
  refine L_rank t0 t9 hn n64 (hs.congr (fun i i0 i1 => (hms i i0 i1).symm)) hp hpn ?_
  rw [rk_congr hms hp]
  exact hQ
theorem M_sorts {kc ks : Nat} {h : Hh} {Q : PQ} {X : PX} {t : Int} {n : Nat} {s pl ra : Int → Int} (hT : MT h t n s) (hSA : SA s n pl ra) (hQ : ∀ h2, (∀ d, d ≠ 76 → h2 d = h d) → (∀ r, 0 ≤ r → r < (n : Int) → h2 76 r = pl r) → Q [] am_R0 h2) : am_V M_X11_sorts kc ks 0 [aR 72, aI t, aU] [] am_R0 h Q X := by
  obtain ⟨⟨t0, t9⟩, n64, hn, hs, hms⟩ := hT
  refine L_sorts h t0 t9 hn n64 (hs.congr (fun i i0 i1 => (hms i i0 i1).symm)) (fun h2 hf he => hQ h2 hf (fun r r0 r1 => hSA.same hs (fun p p0 p1 => ?_) r0 r1))
  have := he p p0 p1
  rw [rk_congr hms p0] at this
  exact this
theorem MK.so {h h2 : Hh} (hf : ∀ d, d ≠ 76 → h2 d = h d) : MK h h2 := MK.of (fun d d1 _ _ _ _ => hf d d1)
theorem M_commonAt {kc ks : Nat} {h : Hh} {Q : PQ} {X : PX} {t r : Int} {n : Nat} {s pl ra : Int → Int} (hT : MT h t n s) (hSA : SA s n pl ra) (hr : 0 ≤ r) (hrn : r < n) (he : ∀ r, 0 ≤ r → r < (n : Int) → h 76 r = pl r) (hQ : Q [aI (cmv s n pl r)] am_R0 h) : am_V M_X11_commonAt kc ks 0 [aR 72, aI t, aI r] [] am_R0 h Q X := by
  have hs := hT.2.2.2.1
  obtain ⟨⟨t0, t9⟩, n64, hn, -, hms⟩ := hT
  refine L_commonAt t0 t9 hn n64 hr hrn (fun r r0 r1 => by rw [he r r0 r1]; exact ⟨(hSA.at hs r0 r1).1, (hSA.at hs r0 r1).2.1⟩) ?_
  rw [cmv_congr hms (pl' := pl) (fun r r0 r1 => ⟨by rw [he r r0 r1]; exact (hSA.at hs r0 r1).1, by rw [he r r0 r1]; exact (hSA.at hs r0 r1).2.1, he r r0 r1⟩) hr hrn]
  exact hQ
/-! THE FORM OF A CALL'S THEOREM -/
abbrev xIO : String := "java/lang/IndexOutOfBoundsException"
abbrev xIA : String := "java/lang/IllegalArgumentException"
abbrev xIS : String := "java/lang/IllegalStateException"
abbrev xUO : String := "java/lang/UnsupportedOperationException"
abbrev xNS : String := "java/util/NoSuchElementException"
abbrev xAE : String := "java/lang/ArithmeticException"
def PQok (j : MInfo) (As : List AV) (mk : Int → AV) : PQ := fun v ρ' h' => ∃ x, v = [mk x] ∧ ρ' = am_R0 ∧ GM j As mk 0 (am_st h' 81 0 x)
def PXok (j : MInfo) (As : List AV) (mk : Int → AV) (es : List String) : PX := fun Ex ρ' h' => ρ' = am_R0 ∧ ∃ c : Nat, es[c]? = some Ex ∧ GM j As mk ((c : Int) + 1) h'
theorem PQ.good {j : MInfo} {As : List AV} {mk : Int → AV} {v : Int} {h h' : Hh} (hS : SIM h) (hN : NK h h') (k : ∀ (kc ks : Nat) (Q : PQ) (X : PX) (g : Hh), NK h g → SIM g → (∀ h2, MK g h2 → h2 72 10 = 0 → Q [mk v] am_R0 h2) → am_V j kc ks 0 As [] am_R0 g Q X) : PQok j As mk [mk v] am_R0 h' := ⟨v, rfl, rfl, GM.good hS hN k⟩
theorem PX.bad {j : MInfo} {As : List AV} {mk : Int → AV} {es : List String} {Ex : String} {h h' : Hh} (c : Nat) (hS : SIM h) (hN : NK h h') (he : es[c]? = some Ex) (k : ∀ (kc ks : Nat) (Q : PQ) (X : PX), SIM h' → (∀ b h2, MK h' h2 → h2 72 10 = (c : Int) + 1 → Q [mk b] am_R0 h2) → am_V j kc ks 0 As [] am_R0 h' Q X) : PXok j As mk es Ex am_R0 h' := ⟨rfl, c, he, GM.bad hS hN (by omega) k⟩
/-- what the script's cells keep -/
theorem v_same {m : MInfo} {kc ks pc : Nat} {E st : List AV} {ρ : Rho} {h : Hh} {Q : PQ} {X : PX} (hl : am_law m = false) (k : am_V m kc ks pc E st ρ h (fun v ρ' h' => h' 1000 = h 1000 → h' 1001 = h 1001 → Q v ρ' h') X) : am_V m kc ks pc E st ρ h Q X := by
  intro l p e R s q args below meth c D cA B b g0 g1 Z H locs cells slots ls hC hZ hR hL hS hF hc hs
  have e1 := hR.2.2.2.2.2.1
  have e2 := hR.2.2.2.2.2.2
  rcases hZ with ⟨z1, rfl⟩ | ⟨z1, z2, z3⟩
  · refine am_Wmono (fun t ht => ?_) (k l p e R s q args below meth c D cA B b g0 g1 _ H locs cells slots ls hC (Or.inl ⟨z1, rfl⟩) hR hL hS hF hc hs)
    obtain ⟨o, h1, h2, h3⟩ := ht
    refine ⟨o, h1, h2, ?_⟩
    rcases h3 with ⟨⟨v, ρ9, h9, q1, q2, q3, q4, q5, q6⟩, q7⟩ | z
    · exact Or.inl ⟨⟨v, ρ9, h9, q1, q2, q3 (q5.2.2.2.2.2.1.trans e1.symm) (q5.2.2.2.2.2.2.trans e2.symm), q4, q5, q6⟩, q7⟩
    · exact Or.inr z
  · rw [hl] at z1
    cases z1
theorem v_scr {m : MInfo} {kc ks pc : Nat} {E st : List AV} {ρ : Rho} {h : Hh} {Q : PQ} {X : PX} (hl : am_law m = true) (k : 0 ≤ h 1001 0 → h 1001 0 ≤ 5120 → (∀ j, am_i (h 1000 j)) → am_V m kc ks pc E st ρ h Q X) : am_V m kc ks pc E st ρ h Q X := by
  intro l p e R s q args below meth c D cA B b g0 g1 Z H locs cells slots ls hC hZ hR hL hS hF hc hs
  obtain ⟨hX, hbB, hg0, hg1, hg2⟩ := hC.2.2.2.2.2.2.2.2.2.2.2.2.2.2.2.2.2.2.2 hl
  have e1 := hR.2.2.2.2.2.1
  have e2 := hR.2.2.2.2.2.2
  exact k (by rw [e2]; exact hg1) (by rw [e2]; exact hg2) (by rw [e1]; exact hg0) l p e R s q args below meth c D cA B b g0 g1 Z H locs cells slots ls hC hZ hR hL hS hF hc hs
