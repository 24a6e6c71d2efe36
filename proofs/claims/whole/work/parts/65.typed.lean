/-! THE TYPED ROW CHANGES: type, wipe, typed, take, word -/
theorem SIM.row {h h' : Hh} (hS : SIM h) (hf : ∀ d, d = 0 ∨ (32 ≤ d ∧ d ≤ 71) ∨ d = 73 ∨ d = 74 → h' d = h d) (h8 : h' 72 8 = h 72 8) (hm0 : 0 ≤ h' 2 1) (hm : h' 2 1 ≤ 65) (h9 : h' 72 9 = h' 2 1) (hr : ∀ k, 0 ≤ k → k < h' 2 1 → h' 75 k = h' 3 k ∧ (h' 3 k = 36 ∨ 97 ≤ h' 3 k ∧ h' 3 k ≤ 122)) : SIM h' := by
  have e0 : h' 0 = h 0 := hf 0 (Or.inl rfl)
  have e73 : h' 73 = h 73 := hf 73 (Or.inr (Or.inr (Or.inl rfl)))
  have e74 : h' 74 = h 74 := hf 74 (Or.inr (Or.inr (Or.inr rfl)))
  have et : ∀ t k, t < 8 → k < 5 → h' (ta t + k) = h (ta t + k) := fun t k ht hk => hf _ (Or.inr (Or.inl (by unfold ta; omega)))
  have ems : ∀ t, ms h' t = ms h t := fun t => by unfold ms; rw [e73]
  obtain ⟨⟨a1, a2, a3⟩, -, -, d1, f1⟩ := hS
  refine ⟨by rw [e0, h8]; exact ⟨a1, a2, a3⟩, ⟨hm0, hm, h9⟩, hr, fun t t0 t1 => ?_, fun t t0 t1 => ?_⟩
  · rw [e0] at t1
    have := d1 t t0 t1
    have x0 := et t 0 (by omega) (by omega)
    rw [Nat.add_zero] at x0
    unfold TXT at this ⊢
    rw [x0, et t 1 (by omega) (by omega), et t 2 (by omega) (by omega), et t 3 (by omega) (by omega), et t 4 (by omega) (by omega), e74, ems]
    exact this
  · rw [e0] at t0
    have x0 := et t 0 t1 (by omega)
    rw [Nat.add_zero] at x0
    rw [x0]
    exact f1 t t0 t1
/-- a sign that can be typed -/
def ty (x : Int) : Prop := x = 36 ∨ 97 ≤ x ∧ x ≤ 122
theorem C_isLetter {kc ks : Nat} {h : Hh} {Q : PQ} {X : PX} {x : Int} (h1 : 97 ≤ x → x ≤ 122 → Q [aI 1] am_R0 h) (h0 : ¬ (97 ≤ x ∧ x ≤ 122) → Q [aI 0] am_R0 h) : am_V M_X10_isLetter kc ks 0 [aI x] [] am_R0 h Q X := S_X10_isLetter_0 ⟨fun z => h0 (by omega), fun z => ⟨fun y => h0 (by omega), fun y => h1 z y⟩⟩
theorem M_isLetter {kc ks : Nat} {h : Hh} {Q : PQ} {X : PX} {x : Int} (h1 : 97 ≤ x → x ≤ 122 → Q [aI 1] am_R0 h) (h0 : ¬ (97 ≤ x ∧ x ≤ 122) → Q [aI 0] am_R0 h) : am_V M_X11_isLetter kc ks 0 [aI x] [] am_R0 h Q X := S_X11_isLetter_0 ⟨fun z => h0 (by omega), fun z => ⟨fun y => h0 (by omega), fun y => h1 z y⟩⟩
theorem C_isTypable {kc ks : Nat} {h : Hh} {Q : PQ} {X : PX} {x : Int} (h1 : ty x → Q [aI 1] am_R0 h) (h0 : ¬ ty x → Q [aI 0] am_R0 h) : am_V M_X10_isTypable kc ks 0 [aI x] [] am_R0 h Q X := by
  unfold ty at h1 h0
  exact S_X10_isTypable_0 ⟨fun z => h1 (Or.inl z), fun z => C_isLetter (fun y0 y1 => S_X10_isTypable_10 ⟨fun w => absurd w (by decide), fun _ => h1 (Or.inr ⟨y0, y1⟩)⟩) (fun y => S_X10_isTypable_10 ⟨fun _ => h0 (by omega), fun w => absurd rfl w⟩)⟩
/-- the model's call is good where the class's heap is given as it is -/
theorem GM.raw {j : MInfo} {As : List AV} {mk : Int → AV} {v : Int} {h' : Hh} (k : ∀ (kc ks : Nat) (Q : PQ) (X : PX), (∀ h2, h2 72 10 = 0 → h2 81 = am_st h' 81 0 v 81 → SIM h2 → Q [mk v] am_R0 h2) → am_V j kc ks 0 As [] am_R0 (am_st h' 81 0 v) Q X) : PQok j As mk [mk v] am_R0 h' := ⟨v, rfl, rfl, fun kc ks Q X y => k kc ks Q X (fun h2 a b c => y v h2 a (fun _ => am_st_s.symm) b c)⟩
theorem T_type {kc ks : Nat} {h : Hh} {x : Int} (hS : SIM h) (hx : 0 ≤ x ∧ x < 65536) (hkc : 1 ≤ kc) (hks : 6 ≤ ks) : am_V M_X10_type kc ks 0 [aR 0, aI x] [] am_R0 h (PQok M_X11_type [aR 72, aI x] aI) (PXok M_X11_type [aR 72, aI x] aI [xIA, xIS]) := by
  obtain ⟨b0, b1, b2⟩ := hS.2.1
  have hrow := hS.2.2.1
  refine S_X10_type_0 (C_isTypable (fun z => S_X10_type_4 ⟨fun _ => ⟨fun y => S_X8_put_0 ⟨fun w => absurd w (by omega), fun _ => ⟨?_, S_X10_type_47 ?_⟩⟩, fun y => ⟨by omega, PX.bad 1 hS (NK.rf h) rfl fun kc ks Q X hS' k => ?_⟩⟩, fun y => absurd y (by decide)⟩) (fun z => S_X10_type_4 ⟨fun y => absurd rfl y, fun _ => ⟨by omega, PX.bad 0 hS (NK.rf h) rfl fun kc ks Q X hS' k => ?_⟩⟩))
  · have : am_st h 3 (h 2 1) (x % 65536) 2 1 = h 2 1 := am_st_n (Or.inl (by decide))
    rw [this]
    omega
  · have e1 : am_st h 3 (h 2 1) (x % 65536) 2 1 = h 2 1 := am_st_n (Or.inl (by decide))
    rw [e1, Int.emod_eq_of_lt hx.1 hx.2, am_st_s]
    refine GM.raw fun kc ks Q X k => ?_
    obtain ⟨g, hg⟩ : ∃ g : Hh, g = am_st (am_st (am_st h 3 (h 2 1) x) 2 1 (h 2 1 + 1)) 81 0 (h 2 1 + 1) := ⟨_, rfl⟩
    rw [← hg]
    have g81 : g 81 = am_st (am_st (am_st h 3 (h 2 1) x) 2 1 (h 2 1 + 1)) 81 0 (h 2 1 + 1) 81 := by rw [hg]
    have go : ∀ d, d ≠ 3 → d ≠ 2 → d ≠ 81 → g d = h d := fun d d1 d2 d3 => by rw [hg, am_st_o d3, am_st_o d2, am_st_o d1]
    have g21 : g 2 1 = h 2 1 + 1 := by rw [hg, am_st_n (Or.inl (by decide)), am_st_s]
    have g3 : ∀ i, g 3 i = if i = h 2 1 then x else h 3 i := fun i => by rw [hg, am_st_n (Or.inl (by decide)), am_st_n (Or.inl (by decide)), am_st_i]
    have g72 : g 72 = h 72 := go 72 (by decide) (by decide) (by decide)
    have fin : ∀ c : Int, c = 0 → am_V M_X11_type kc ks 35 [aR 72, aI x] [aI (if c = 0 then 0 else 1)] am_R0 (am_st g 72 10 c) Q X := by
      intro c hc
      subst hc
      have e9 : am_st g 72 10 0 72 9 = h 2 1 := by rw [am_st_n (Or.inr (by decide)), g72]; exact b2
      refine S_X11_type_35 ⟨fun _ => ?_, fun w => absurd rfl w⟩
      rw [e9, Int.emod_eq_of_lt hx.1 hx.2]
      have e9' : am_st (am_st g 72 10 0) 75 (h 2 1) x 72 9 = h 2 1 := by rw [am_st_n (Or.inl (by decide))]; exact e9
      rw [e9', am_st_s]
      refine ⟨by omega, k _ ?_ ?_ ?_⟩
      · rw [am_st_n (Or.inr (by decide)), am_st_n (Or.inl (by decide)), am_st_s]
      · rw [am_st_o (by decide), am_st_o (by decide), am_st_o (by decide), g81]
      · have q2 : ∀ d, d ≠ 72 → d ≠ 75 → am_st (am_st (am_st g 72 10 0) 75 (h 2 1) x) 72 9 (h 2 1 + 1) d = g d := fun d d1 d2 => by rw [am_st_o d1, am_st_o d2, am_st_o d1]
        refine hS.row (fun d hd => by rw [q2 d (by omega) (by omega), go d (by omega) (by omega) (by omega)]) ?_ ?_ ?_ ?_ ?_
        · rw [am_st_n (Or.inr (by decide)), am_st_n (Or.inl (by decide)), am_st_n (Or.inr (by decide)), g72]
        · rw [q2 2 (by decide) (by decide), g21]; omega
        · rw [q2 2 (by decide) (by decide), g21]; omega
        · rw [q2 2 (by decide) (by decide), g21, am_st_s]
        · intro i i0 i1
          rw [q2 2 (by decide) (by decide), g21] at i1
          rw [q2 3 (by decide) (by decide), g3, am_st_o (by decide), am_st_i]
          by_cases e : i = h 2 1
          · rw [if_pos e, if_pos e]
            exact ⟨rfl, z⟩
          · rw [if_neg e, if_neg e, am_st_o (by decide), go 75 (by decide) (by decide) (by decide)]
            exact hrow i i0 (by omega)
    have n65 : g 72 9 ≠ 65 := by rw [g72, b2]; omega
    exact S_X11_type_0 (M_isLetter (fun y0 y1 => S_X11_type_5 ⟨fun _ => ⟨fun _ => L_isWrong (fin 0 rfl), fun w => absurd w n65⟩, fun w => absurd w (by decide)⟩) (fun y => S_X11_type_5 ⟨fun w => absurd rfl w, fun _ => ⟨fun _ => ⟨fun _ => L_isWrong (fin 0 rfl), fun w => absurd w n65⟩, fun w => absurd z (by unfold ty; omega)⟩⟩))
  · have e65 : h 72 9 = 65 := by omega
    have q : am_V M_X11_isWrong 0 0 0 [aR 72, aI 2] [] am_R0 h (fun v ρ' h' => am_V M_X11_type kc ks 35 [aR 72, aI x] (v ++ []) ρ' h' Q X) X := M_isWrong fun h2 m y2 => S_X11_type_35 ⟨fun w => absurd w (by decide), fun _ => k 0 h2 m y2⟩
    exact S_X11_type_0 (M_isLetter (fun y0 y1 => S_X11_type_5 ⟨fun _ => ⟨fun w => absurd e65 w, fun _ => q⟩, fun w => absurd w (by decide)⟩) (fun y => S_X11_type_5 ⟨fun w => absurd rfl w, fun _ => ⟨fun _ => ⟨fun w => absurd e65 w, fun _ => q⟩, fun w => absurd z (by unfold ty; omega)⟩⟩))
  · unfold ty at z
    exact S_X11_type_0 (M_isLetter (fun y0 y1 => absurd (Or.inr ⟨y0, y1⟩) z) (fun y => S_X11_type_5 ⟨fun w => absurd rfl w, fun _ => ⟨fun w => absurd (Or.inl w) z, fun _ => M_isWrong fun h2 m y2 => S_X11_type_35 ⟨fun w => absurd w (by decide), fun _ => k 0 h2 m y2⟩⟩⟩))
theorem T_typed {kc ks : Nat} {h : Hh} {x : Int} (hS : SIM h) (hkc : 1 ≤ kc) (hks : 6 ≤ ks) : am_V M_X10_typed kc ks 0 [aR 0, aI x] [] am_R0 h (PQok M_X11_typed [aR 72, aI x] aI) (PXok M_X11_typed [aR 72, aI x] aI [xNS]) := by
  obtain ⟨b0, b1, b2⟩ := hS.2.1
  have hrow := hS.2.2.1
  have bad : ¬ (0 ≤ x ∧ x < h 2 1) → PXok M_X11_typed [aR 72, aI x] aI [xNS] xNS am_R0 h := fun v => PX.bad 0 hS (NK.rf h) rfl fun kc ks Q X hS' k => S_X11_typed_0 ⟨by omega, L_isBetween (fun u => absurd ⟨u.1, by omega⟩ v) (fun _ => S_X11_typed_12 ⟨fun _ => M_isWrong fun h2 m y => S_X11_typed_23 ⟨fun w => absurd w (by decide), fun _ => k 0 h2 m y⟩, fun w => absurd rfl w⟩)⟩
  refine S_X10_typed_0 ⟨fun z => ⟨by omega, bad (by omega)⟩, fun z => ⟨fun y => ?_, fun y => ⟨by omega, bad (by omega)⟩⟩⟩
  have hr := hrow x z y
  refine ⟨by omega, PQ.good hS (NK.rf h) fun kc ks Q X g hN hS' k => S_X11_typed_0 ⟨by rw [hN.c72]; omega, L_isBetween (fun _ => S_X11_typed_12 ⟨fun w => absurd w (by decide), fun _ => M_isWrong fun h2 m y2 => S_X11_typed_23 ⟨fun _ => ?_, fun w => absurd rfl w⟩⟩) (fun u => absurd ⟨z, by rw [hN.c72]; omega⟩ u)⟩⟩
  rw [m.c75, hN.c75, hr.1]
  exact ⟨by omega, k h2 m y2⟩
/-- signs are held in the typed row -/
theorem C_hold_1 {kc ks : Nat} {Q : PQ} {X : PX} {a1 n1 : Nat} (q1 : am_R0.1[a1]? = some (1, n1)) {f m : Int} (hf0 : 0 ≤ f) (hm0 : 0 ≤ m) (hm : m ≤ 65) (hfm : f + m ≤ n1) (hn1 : n1 ≤ 65) (h0 : Hh) (ha : a1 ≠ 2 ∧ a1 ≠ 3) (hsg : ∀ k, 0 ≤ k → k < m → 0 ≤ h0 a1 (f + k) ∧ h0 a1 (f + k) < 65536) (hQ : ∀ h, (∀ d, d ≠ 2 → d ≠ 3 → h d = h0 d) → h 2 1 = m → (∀ k, 0 ≤ k → k < m → h 3 k = h0 a1 (f + k)) → Q [] am_R0 h) : ∀ (d : Nat) (i : Int) (h : Hh), i + d = m → 0 ≤ i → (∀ d, d ≠ 2 → d ≠ 3 → h d = h0 d) → h 2 1 = i → (∀ k, 0 ≤ k → k < i → h 3 k = h0 a1 (f + k)) → am_V M_X8_hold kc ks 8 [aR 2, aR a1, aI f, aI m, aI i] [] am_R0 h Q X := by
  intro d
  induction d with
  | zero =>
    intro i h hi i0 hf h21 hz
    exact S_X8_hold_8 q1 ⟨fun _ => hQ h hf (by omega) (fun k k0 k1 => hz k k0 (by omega)), fun z => absurd z (by omega)⟩
  | succ d ih =>
    intro i h hi i0 hf h21 hz
    have e1 := hf a1 ha.1 ha.2
    have sg := hsg i i0 (by omega)
    refine S_X8_hold_8 q1 ⟨fun z => absurd z (by omega), fun _ => ⟨by omega, S_X8_put_0 ⟨fun z => absurd z (by omega), fun _ => ?_⟩⟩⟩
    rw [e1, Int.emod_eq_of_lt sg.1 sg.2, am_st_n (h := h) (a := 3) (a' := 2) (Or.inl (by decide)), h21]
    refine ⟨by omega, S_X8_hold_24 q1 ⟨by omega, ih (i + 1) _ (by omega) (by omega) (fun d d1 d2 => by rw [am_st_o d1, am_st_o d2]; exact hf d d1 d2) am_st_s (fun k k0 k1 => ?_)⟩⟩
    rw [am_st_n (Or.inl (by decide)), am_st_i]
    by_cases e : k = i
    · rw [if_pos e, e]
    · rw [if_neg e]
      exact hz k k0 (by omega)
theorem C_hold {kc ks : Nat} {h0 : Hh} {Q : PQ} {X : PX} {a1 n1 : Nat} (q1 : am_R0.1[a1]? = some (1, n1)) {f m : Int} (hf0 : 0 ≤ f) (hm0 : 0 ≤ m) (hm : m ≤ 65) (hfm : f + m ≤ n1) (hn1 : n1 ≤ 65) (ha : a1 ≠ 2 ∧ a1 ≠ 3) (hsg : ∀ k, 0 ≤ k → k < m → 0 ≤ h0 a1 (f + k) ∧ h0 a1 (f + k) < 65536) (hQ : ∀ h, (∀ d, d ≠ 2 → d ≠ 3 → h d = h0 d) → h 2 1 = m → (∀ k, 0 ≤ k → k < m → h 3 k = h0 a1 (f + k)) → Q [] am_R0 h) : am_V M_X8_hold kc ks 0 [aR 2, aR a1, aI f, aI m, aU] [] am_R0 h0 Q X :=
  S_X8_hold_0 q1 (C_hold_1 q1 hf0 hm0 hm hfm hn1 h0 ha hsg hQ m.toNat 0 _ (by omega) (by omega) (fun d d1 d2 => am_st_o d1) am_st_s (fun k k0 k1 => by omega))
/-- .. and the model's copy of them -/
def RW (h h' : Hh) (w : Int → Int) (m : Int) : Prop := (∀ d, d ≠ 72 → d ≠ 75 → d ≠ 76 → d ≠ 77 → h' d = h d) ∧ h' 72 8 = h 72 8 ∧ h' 72 10 = 0 ∧ h' 72 9 = m ∧ ∀ k, 0 ≤ k → k < m → h' 75 k = w k
theorem RW.sim {h g h' : Hh} {w : Int → Int} {m : Int} (hS : SIM h) (hf : ∀ d, d ≠ 2 → d ≠ 3 → d ≠ 81 → g d = h d) (hg : g 2 1 = m) (hg3 : ∀ k, 0 ≤ k → k < m → g 3 k = w k) (hm0 : 0 ≤ m) (hm : m ≤ 65) (hw : ∀ k, 0 ≤ k → k < m → ty (w k)) (hR : RW g h' w m) : SIM h' := by
  obtain ⟨r1, r2, r3, r4, r5⟩ := hR
  have e2 : h' 2 1 = m := by rw [r1 2 (by decide) (by decide) (by decide) (by decide)]; exact hg
  refine hS.row (fun d hd => by rw [r1 d (by omega) (by omega) (by omega) (by omega), hf d (by omega) (by omega) (by omega)]) (by rw [r2, hf 72 (by decide) (by decide) (by decide)]) (by omega) (by omega) (by omega) (fun k k0 k1 => ?_)
  rw [e2] at k1
  rw [r5 k k0 k1, r1 3 (by decide) (by decide) (by decide) (by decide), hg3 k k0 k1]
  exact ⟨rfl, hw k k0 k1⟩
theorem M_take_1 {kc ks : Nat} {Q : PQ} {X : PX} {t : Int} {n : Nat} {s : Int → Int} (g : Hh) (hT : MT g t n s) (hQ : ∀ h, RW g h s n → Q [aI n] am_R0 h) : ∀ (d i : Nat) (h : Hh), i + d = n → (∀ d, d ≠ 72 → d ≠ 75 → h d = g d) → h 72 8 = g 72 8 → h 72 10 = 0 → h 72 9 = n → (∀ k, 0 ≤ k → k < (i : Int) → h 75 k = s k) → am_V M_X11_take kc ks 22 [aR 72, aI t, aI i] [] am_R0 h Q X := by
  have h64 := hT.2.1
  have ht := hT.1
  have hs := hT.2.2.2.1
  intro d
  induction d with
  | zero =>
    intro i h hi hf h8 h10 h9 hz
    have : i = n := by omega
    subst this
    refine S_X11_take_22 ⟨fun _ => ?_, fun z => absurd z (by omega)⟩
    rw [h9]
    exact hQ h ⟨fun d d1 d2 _ _ => hf d d1 d2, h8, h10, h9, hz⟩
  | succ d ih =>
    intro i h hi hf h8 h10 h9 hz
    have e := hT.2.2.2.2 i (by omega) (by omega)
    have sg := hs i (by omega) (by omega)
    unfold ms at e
    rw [← hf 73 (by decide) (by decide)] at e
    refine S_X11_take_22 ⟨fun z => absurd z (by omega), fun _ => ⟨by omega, ?_⟩⟩
    rw [e, Int.emod_eq_of_lt (by omega) (by omega)]
    refine ih (i + 1) _ (by omega) (fun d d1 d2 => by rw [am_st_o d2]; exact hf d d1 d2) (by rw [am_st_o (by decide)]; exact h8) (by rw [am_st_o (by decide)]; exact h10) (by rw [am_st_o (by decide)]; exact h9) (fun k k0 k1 => ?_)
    rw [am_st_i]
    by_cases y : k = i
    · rw [if_pos y, y]
    · rw [if_neg y]
      exact hz k k0 (by omega)
theorem tr_sg {a : Nat} (h : isT a) : am_R0.1[a + 1]? = some (1, 64) := tk1 h
theorem T_take {kc ks : Nat} {h : Hh} {t : Int} (hS : SIM h) (hkc : 1 ≤ kc) (hks : 6 ≤ ks) : am_V M_X10_take kc ks 0 [aR 0, aI t, aU] [] am_R0 h (PQok M_X11_take [aR 72, aI t, aU] aI) (PXok M_X11_take [aR 72, aI t, aU] aI [xIO]) := by
  by_cases z : isTx h t
  · obtain ⟨n, s, pl, ra, hC, hM⟩ := hS.txt z
    obtain ⟨t0, n64, hn, rfl, rfl, rfl, hs, hSA, hcm⟩ := id hC
    have ha : ta t + 1 ≠ 2 ∧ ta t + 1 ≠ 3 := by unfold ta; omega
    refine S_X10_take_0 ⟨by omega, C_known hS z (by omega) (by omega) (S_X10_take_5 t0 (C_hold (tr_sg t0) (Int.le_refl 0) (by omega) (by omega) (by omega) (by omega) ha (fun k k0 k1 => by have := hs (0 + k) (by omega) (by omega); omega) (fun h' hf h21 h3 => S_X10_take_22 ?_)))⟩
    rw [h21, hn]
    rw [hn] at h21 h3
    refine GM.raw fun kc ks Q X k => ?_
    obtain ⟨g, hg⟩ : ∃ g : Hh, g = am_st h' 81 0 n := ⟨_, rfl⟩
    rw [← hg]
    have g81 : g 81 = am_st h' 81 0 n 81 := by rw [hg]
    rw [← g81] at k
    have gf : ∀ d, d ≠ 2 → d ≠ 3 → d ≠ 81 → g d = h d := fun d d1 d2 d3 => by rw [hg, am_st_o d3]; exact hf d d1 d2
    have hMg : MT g t n (h (ta t + 1)) := hM.of (gf 73 (by decide) (by decide) (by decide)) (gf 74 (by decide) (by decide) (by decide))
    have e8 : 0 ≤ g 72 8 ∧ g 72 8 ≤ 8 := by rw [gf 72 (by decide) (by decide) (by decide)]; exact hS.m8
    refine S_X11_take_0 (L_isNone e8 (fun _ => S_X11_take_5 ⟨fun _ => ⟨hM.1, ?_⟩, fun w => absurd rfl w⟩) (fun y => absurd (by rw [gf 72 (by decide) (by decide) (by decide)]; exact hS.tx8.mpr z) y))
    refine M_take_1 g hMg (fun h2 hR => k h2 hR.2.2.1 (hR.1 81 (by decide) (by decide) (by decide) (by decide)) (RW.sim hS gf ?_ ?_ (by omega) (by omega) (fun i i0 i1 => Or.inr (hs i i0 i1)) hR)) n 0 _ (by omega) (fun d d1 d2 => by rw [am_st_o d1, am_st_o d1]) ?_ ?_ ?_ (fun i i0 i1 => by omega)
    · rw [hg, am_st_o (by decide)]; exact h21
    · intro i i0 i1
      rw [hg, am_st_o (by decide), h3 i i0 i1, Int.zero_add]
    · rw [am_st_n (Or.inr (by decide)), am_st_n (Or.inr (by decide))]
    · rw [am_st_n (Or.inr (by decide)), am_st_s]
    · rw [am_st_s, am_st_o (by decide)]; exact hMg.2.2.1
  · exact S_X10_take_0 ⟨by omega, C_known0 hS z (by omega) (by omega) (PX.bad 0 hS (NK.rf h) rfl fun kc ks Q X hS' k => S_X11_take_0 (M_isNone0 hS z fun h2 m y => S_X11_take_5 ⟨fun w => absurd w (by decide), fun _ => k 0 h2 m y⟩))⟩
