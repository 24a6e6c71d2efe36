variable {WM : List (Nat × Nat)} {wd : Bool}
/-! BOTH SIDES OF A CALL: views of a text, what a call keeps, when the model's call is good -/
theorem ELk_congr {x x' : Int → Int} {k : Nat} {p q : Int} (hx : ∀ i, 0 ≤ i → x i = x' i) (hp : 0 ≤ p) (hq : 0 ≤ q) : ELk x k p q ↔ ELk x' k p q := by
  constructor
  · intro ⟨j, h0, h1, h2⟩
    exact ⟨j, h0, (AG_congr hx hx hp hq).mp h1, by rw [← hx (p + j) (by omega), ← hx (q + j) (by omega)]; exact h2⟩
  · intro ⟨j, h0, h1, h2⟩
    exact ⟨j, h0, (AG_congr hx hx hp hq).mpr h1, by rw [hx (p + j) (by omega), hx (q + j) (by omega)]; exact h2⟩
/-- the class's text -/
def CT (h : Hh) (a : Nat) (n : Nat) (s pl ra : Int → Int) : Prop := isT a ∧ n ≤ 64 ∧ h a 4 = n ∧ h (a + 1) = s ∧ h (a + 2) = pl ∧ h (a + 3) = ra ∧ WS s n ∧ SA s n pl ra ∧ ∀ r, 0 ≤ r → r < (n : Int) → h (a + 4) r = cmv s n pl r
/-- what a call of the class that asks only keeps -/
def NK (h h' : Hh) : Prop := ∀ d, SIMcell d → h' d = h d
theorem NK.rf (h : Hh) : NK h h := fun _ _ => rfl
theorem NK.tr {h h' h2 : Hh} (a : NK h h') (b : NK h' h2) : NK h h2 := fun d hd => (b d hd).trans (a d hd)
theorem NK.c0 {h h' : Hh} (a : NK h h') : h' 0 = h 0 := a 0 (Or.inl rfl)
theorem NK.c2 {h h' : Hh} (a : NK h h') : h' 2 = h 2 := a 2 (Or.inr (Or.inl rfl))
theorem NK.c3 {h h' : Hh} (a : NK h h') : h' 3 = h 3 := a 3 (Or.inr (Or.inr (Or.inl rfl)))
theorem NK.up {h h' : Hh} (a : NK h h') {d : Nat} (hd : 72 ≤ d) : h' d = h d := a d (Or.inr (Or.inr (Or.inr (Or.inr hd))))
theorem NK.sim {h h' : Hh} (hS : SIM h) (a : NK h h') : SIM h' := hS.keep (fun d hd => a d (by unfold SIMcell; omega))
theorem CT.keep {h h' : Hh} {a n : Nat} {s pl ra : Int → Int} (hT : CT h a n s pl ra) (e : ∀ j, j < 5 → h' (a + j) = h (a + j)) : CT h' a n s pl ra := by
  obtain ⟨t0, h1, h2, h3, h4, h5, h6, h7, h8⟩ := hT
  have e0 := e 0 (by omega)
  rw [Nat.add_zero] at e0
  exact ⟨t0, h1, by rw [e0]; exact h2, by rw [e 1 (by omega)]; exact h3, by rw [e 2 (by omega)]; exact h4, by rw [e 3 (by omega)]; exact h5, h6, h7, fun r r0 r1 => by rw [e 4 (by omega)]; exact h8 r r0 r1⟩
theorem NK.ct {h h' : Hh} {a n : Nat} {s pl ra : Int → Int} (k : NK h h') (hT : CT h a n s pl ra) : CT h' a n s pl ra := by
  obtain ⟨i, i8, ia⟩ := id hT.1
  exact hT.keep fun j hj => k _ (by unfold SIMcell; omega)
theorem NK.tx {h h' : Hh} {t : Int} (k : NK h h') : isTx h' t ↔ isTx h t := by unfold isTx; rw [k.c0]
theorem SIM.txt {h : Hh} {t : Int} (hS : SIM h) (z : isTx h t) : ∃ (n : Nat) (s pl ra : Int → Int), CT h (ta t) n s pl ra := by
  obtain ⟨⟨n0, n64, n74⟩, hs, hms, hSA, hcm⟩ := hS.2.2.2.1 t z.1 z.2
  obtain ⟨n, hn⟩ : ∃ n : Nat, h (ta t) 4 = n := ⟨(h (ta t) 4).toNat, by omega⟩
  rw [hn] at hs hSA hcm
  have z2 := z.2
  have h8 := hS.1.2.1
  exact ⟨n, h (ta t + 1), h (ta t + 2), h (ta t + 3), ⟨ta_isT z.1 (by omega), by omega, hn, rfl, rfl, rfl, hs, hSA, hcm⟩⟩
theorem CT.txt {h : Hh} {t : Int} {n : Nat} {s pl ra : Int → Int} (hC : CT h (ta t) n s pl ra) : TXT h t := by
  obtain ⟨t0, h1, h2, rfl, rfl, rfl, h6, h7, h8⟩ := hC
  unfold TXT
  rw [h2]
  exact ⟨⟨by omega, by omega, trivial⟩, h6, trivial, h7, h8⟩
theorem C_known {kc ks : Nat} {h : Hh} {Q : PQ} {X : PX} {t : Int} (hS : SIM h) (z : isTx h t) (hkc : 1 ≤ kc) (hks : 6 ≤ ks) (hQ : Q [aR (ta t)] (RM WM wd) h) : am_V M_X10_known kc ks 0 [aR 0, aI t] [] (RM WM wd) h Q X := L_known hS.1.2.1 hkc hks (fun _ => hQ) (fun y => absurd z y)
theorem C_knownWith {kc ks : Nat} {h : Hh} {Q : PQ} {X : PX} {t p : Int} {n : Nat} {s pl ra : Int → Int} (hS : SIM h) (z : isTx h t) (hC : CT h (ta t) n s pl ra) (hp : 0 ≤ p) (hpn : p < n) (hkc : 2 ≤ kc) (hks : 12 ≤ ks) (hQ : Q [aR (ta t)] (RM WM wd) h) : am_V M_X10_knownWith kc ks 0 [aR 0, aI t, aI p, aU] [] (RM WM wd) h Q X := L_knownWith hS.1.2.1 hkc hks (fun _ _ _ => hQ) (fun y => absurd ⟨z, hp, by rw [hC.2.2.1]; exact hpn⟩ y)
theorem C_knownWithRow {kc ks : Nat} {h : Hh} {Q : PQ} {X : PX} {t p : Int} {n : Nat} {s pl ra : Int → Int} (hS : SIM h) (z : isTx h t) (hC : CT h (ta t) n s pl ra) (hp : 0 ≤ p) (hpn : p ≤ n) (hkc : 2 ≤ kc) (hks : 12 ≤ ks) (hQ : Q [aR (ta t)] (RM WM wd) h) : am_V M_X10_knownWithRow kc ks 0 [aR 0, aI t, aI p, aU] [] (RM WM wd) h Q X := L_knownWithRow hS.1.2.1 hkc hks (fun _ _ _ => hQ) (fun y => absurd ⟨z, hp, by rw [hC.2.2.1]; exact hpn⟩ y)
/-! THE FORM OF A CALL'S THEOREM -/
abbrev xIO : String := "java/lang/IndexOutOfBoundsException"
abbrev xIA : String := "java/lang/IllegalArgumentException"
abbrev xIS : String := "java/lang/IllegalStateException"
abbrev xUO : String := "java/lang/UnsupportedOperationException"
abbrev xNS : String := "java/util/NoSuchElementException"
abbrev xAE : String := "java/lang/ArithmeticException"
/-- what the script's cells keep -/
theorem v_same {m : MInfo} {kc ks pc : Nat} {E st : List AV} {ρ : Rho} {h : Hh} {Q : PQ} {X : PX} (hl : am_law m = false) (k : am_V m kc ks pc E st ρ h (fun v ρ' h' => h' 1000 = h 1000 → h' 1001 = h 1001 → Q v ρ' h') X) : am_V m kc ks pc E st ρ h Q X := by
  intro l p e R s q args below meth c D cA B b g0 g1 Z H locs cells slots ls hC hZ hR hL hS hF hc hs
  have e1 := hR.2.2.2.2.2.1
  have e2 := hR.2.2.2.2.2.2
  rcases hZ with ⟨z1, rfl⟩ | ⟨z1, z2, z3⟩
  · refine am_Wmono (fun t ht => ?_) (k l p e R s q args below meth c D cA B b g0 g1 _ H locs cells slots ls hC (Or.inl ⟨z1, rfl⟩) hR hL hS hF hc hs)
    obtain ⟨o, h1, h2, h3⟩ := ht
    refine ⟨o, h1, h2, ?_⟩
    rcases h3 with ⟨⟨v, ρ9, h9, q1, q2, q3, q4, q5, q6⟩, q7⟩ | z
    · exact Or.inl ⟨⟨v, ρ9, h9, q1, q2, q3 (q5.2.2.2.2.2.1.trans e1.symm) (q5.2.2.2.2.2.2.trans e2.symm), q4, q5, q6⟩, q7⟩
    · exact Or.inr z
  · rw [hl] at z1
    cases z1
