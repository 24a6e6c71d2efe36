def am_L0 : List (Nat × Nat) := [(18, 10), (4, 8), (16, 2), (1, 65), (1, 8), (10, 3), (0, 65), (0, 64), (0, 64), (15, 5), (1, 64), (1, 65), (0, 65), (0, 28), (1, 27), (13, 3), (5, 8), (0, 64), (0, 64), (0, 64), (0, 64), (0, 64), (0, 64), (0, 64), (0, 64), (17, 5), (1, 2081), (0, 2081), (0, 2081), (12, 0), (11, 1), (0, 65), (14, 5), (1, 64), (0, 64), (0, 64), (0, 64), (14, 5), (1, 64), (0, 64), (0, 64), (0, 64), (14, 5), (1, 64), (0, 64), (0, 64), (0, 64), (14, 5), (1, 64), (0, 64), (0, 64), (0, 64), (14, 5), (1, 64), (0, 64), (0, 64), (0, 64), (14, 5), (1, 64), (0, 64), (0, 64), (0, 64), (14, 5), (1, 64), (0, 64), (0, 64), (0, 64), (14, 5), (1, 64), (0, 64), (0, 64), (0, 64)]
def am_rt9 (a : Nat) : List Nat := match a with
  | 0 => [1, 2, 4, 5, 9, 15, 25, 29, 30]
  | 1 => [32, 37, 42, 47, 52, 57, 62, 67]
  | 2 => [3]
  | 5 => [6, 7, 8]
  | 9 => [10, 11, 12, 13, 14]
  | 15 => [16]
  | 16 => [17, 18, 19, 20, 21, 22, 23, 24]
  | 25 => [26, 27, 28]
  | 30 => [31]
  | _ => []
def am_r0 (a : Nat) (j : Int) : Option Nat := cond (Nat.ble 32 a && Nat.ble a 71) (cond (Nat.ble j.toNat 3) (some (a + 1 + j.toNat)) none) (am_rt9 a)[j.toNat]?
/-- the shelf's steady world, with other cells behind it; whether nothing else lies behind -/
def RM (WM : List (Nat × Nat)) (wd : Bool) : Rho := (am_L0 ++ WM, am_r0, wd)
variable {WM : List (Nat × Nat)} {wd : Bool}
/-- the number of one of the eight texts -/
def isT (a : Nat) : Prop := ∃ i : Nat, i < 8 ∧ a = 32 + 5 * i
theorem isT_cases {P : Nat → Prop} (h : P 32 ∧ P 37 ∧ P 42 ∧ P 47 ∧ P 52 ∧ P 57 ∧ P 62 ∧ P 67) {a : Nat} (t : isT a) : P a := by
  obtain ⟨i, hi, rfl⟩ := t
  obtain ⟨h0, h1, h2, h3, h4, h5, h6, h7⟩ := h
  match i, hi with
  | 0, _ => exact h0
  | 1, _ => exact h1
  | 2, _ => exact h2
  | 3, _ => exact h3
  | 4, _ => exact h4
  | 5, _ => exact h5
  | 6, _ => exact h6
  | 7, _ => exact h7
theorem tk0 {a : Nat} (t : isT a) : (RM WM wd).1[a]? = some (14, 5) := isT_cases (P := fun a => (RM WM wd).1[a]? = some (14, 5)) ⟨rfl, rfl, rfl, rfl, rfl, rfl, rfl, rfl⟩ t
theorem tk1 {a : Nat} (t : isT a) : (RM WM wd).1[a + 1]? = some (1, 64) := isT_cases (P := fun a => (RM WM wd).1[a + 1]? = some (1, 64)) ⟨rfl, rfl, rfl, rfl, rfl, rfl, rfl, rfl⟩ t
theorem tk2 {a : Nat} (t : isT a) : (RM WM wd).1[a + 2]? = some (0, 64) := isT_cases (P := fun a => (RM WM wd).1[a + 2]? = some (0, 64)) ⟨rfl, rfl, rfl, rfl, rfl, rfl, rfl, rfl⟩ t
theorem tk3 {a : Nat} (t : isT a) : (RM WM wd).1[a + 3]? = some (0, 64) := isT_cases (P := fun a => (RM WM wd).1[a + 3]? = some (0, 64)) ⟨rfl, rfl, rfl, rfl, rfl, rfl, rfl, rfl⟩ t
theorem tk4 {a : Nat} (t : isT a) : (RM WM wd).1[a + 4]? = some (0, 64) := isT_cases (P := fun a => (RM WM wd).1[a + 4]? = some (0, 64)) ⟨rfl, rfl, rfl, rfl, rfl, rfl, rfl, rfl⟩ t
theorem tr0 {a : Nat} (t : isT a) : (RM WM wd).2.1 a ((0 : Nat) : Int) = some (a + 1) := isT_cases (P := fun a => (RM WM wd).2.1 a ((0 : Nat) : Int) = some (a + 1)) ⟨rfl, rfl, rfl, rfl, rfl, rfl, rfl, rfl⟩ t
theorem tr1 {a : Nat} (t : isT a) : (RM WM wd).2.1 a ((1 : Nat) : Int) = some (a + 2) := isT_cases (P := fun a => (RM WM wd).2.1 a ((1 : Nat) : Int) = some (a + 2)) ⟨rfl, rfl, rfl, rfl, rfl, rfl, rfl, rfl⟩ t
theorem tr2 {a : Nat} (t : isT a) : (RM WM wd).2.1 a ((2 : Nat) : Int) = some (a + 3) := isT_cases (P := fun a => (RM WM wd).2.1 a ((2 : Nat) : Int) = some (a + 3)) ⟨rfl, rfl, rfl, rfl, rfl, rfl, rfl, rfl⟩ t
theorem tr3 {a : Nat} (t : isT a) : (RM WM wd).2.1 a ((3 : Nat) : Int) = some (a + 4) := isT_cases (P := fun a => (RM WM wd).2.1 a ((3 : Nat) : Int) = some (a + 4)) ⟨rfl, rfl, rfl, rfl, rfl, rfl, rfl, rfl⟩ t
theorem isT_of {i : Int} (h0 : 0 ≤ i) (h1 : i < 8) : isT (32 + 5 * i.toNat) := ⟨i.toNat, by omega, rfl⟩
theorem am_8 {P : Int → Prop} (h : P 0 ∧ P 1 ∧ P 2 ∧ P 3 ∧ P 4 ∧ P 5 ∧ P 6 ∧ P 7) {i : Int} (h0 : 0 ≤ i) (h1 : i < 8) : P i := by
  obtain ⟨p0, p1, p2, p3, p4, p5, p6, p7⟩ := h
  rcases (by omega : i = 0 ∨ i = 1 ∨ i = 2 ∨ i = 3 ∨ i = 4 ∨ i = 5 ∨ i = 6 ∨ i = 7) with rfl | rfl | rfl | rfl | rfl | rfl | rfl | rfl <;> assumption
theorem r_shelf {i : Int} (h0 : 0 ≤ i) (h1 : i < 8) : (RM WM wd).2.1 1 i = some (32 + 5 * i.toNat) := am_8 (P := fun i => (RM WM wd).2.1 1 i = some (32 + 5 * i.toNat)) ⟨rfl, rfl, rfl, rfl, rfl, rfl, rfl, rfl⟩ h0 h1
theorem r_reach {i : Int} (h0 : 0 ≤ i) (h1 : i < 8) : (RM WM wd).2.1 16 i = some (17 + i.toNat) := am_8 (P := fun i => (RM WM wd).2.1 16 i = some (17 + i.toNat)) ⟨rfl, rfl, rfl, rfl, rfl, rfl, rfl, rfl⟩ h0 h1
theorem k_reach {i : Int} (h0 : 0 ≤ i) (h1 : i < 8) : (RM WM wd).1[17 + i.toNat]? = some (0, 64) := am_8 (P := fun i => (RM WM wd).1[17 + i.toNat]? = some (0, 64)) ⟨rfl, rfl, rfl, rfl, rfl, rfl, rfl, rfl⟩ h0 h1
theorem am_Wmono {p : Program} {l : Launch} {e : Env} {R : Room} {s : State} {m : MethodId} {args : Array Value} {below : List Frame} {meth : Method} {c : Code} {H : Heap} {locs : List Loc} {cells slots : Nat} {Z Z' : State → Prop} {g : JFrame} (hz : ∀ t, Z t → Z' t) (k : W p l e R s m args below meth c H locs cells slots Z g) : W p l e R s m args below meth c H locs cells slots Z' g := by
  intro T hT X
  obtain ⟨t, a, b⟩ := k T hT X
  exact ⟨t, a, hz t b⟩
/-- weaker ends -/
theorem v_mono {m : MInfo} {kc ks pc : Nat} {E st : List AV} {ρ : Rho} {h : Hh} {Q Q' : PQ} {X X' : PX} (k : am_V m kc ks pc E st ρ h Q X) (hQ : ∀ v ρ h, Q v ρ h → Q' v ρ h) (hX : ∀ E ρ h, X E ρ h → X' E ρ h) : am_V m kc ks pc E st ρ h Q' X' := by
  intro l p e R s q args below meth c D cA B b g0 g1 Z H locs cells slots ls hC hZ hR hL hS hF hc hs
  rcases hZ with ⟨z1, rfl⟩ | ⟨z1, z2, z3⟩
  · refine am_Wmono (fun t ht => ?_) (k l p e R s q args below meth c D cA B b g0 g1 _ H locs cells slots ls hC (Or.inl ⟨z1, rfl⟩) hR hL hS hF hc hs)
    obtain ⟨o, h1, h2, h3⟩ := ht
    refine ⟨o, h1, h2, ?_⟩
    rcases h3 with ⟨⟨v, ρ9, h9, q1, q2, q3, q4⟩, q5⟩ | ⟨a9, q1, E9, ce, L9, ⟨ρ9, h9, q2, q3⟩, q4⟩
    · exact Or.inl ⟨⟨v, ρ9, h9, q1, q2, hQ _ _ _ q3, q4⟩, q5⟩
    · exact Or.inr ⟨a9, q1, E9, ce, L9, ⟨ρ9, h9, hX _ _ _ q2, q3⟩, q4⟩
  · exact k l p e R s q args below meth c D cA B b g0 g1 Z H locs cells slots ls hC (Or.inr ⟨z1, fun E9 ρ9 h9 y => z2 E9 ρ9 h9 (hX _ _ _ y), fun v ρ9 h9 pc9 H9 locs9 c9 s9 ls9 y => z3 v ρ9 h9 pc9 H9 locs9 c9 s9 ls9 (hQ _ _ _ y)⟩) hR hL hS hF hc hs
theorem pn_X0_init : (parseMethodDescriptor (am_y M_X0_init).desc).map (fun d => d.parameters.length) = some 0 := by decide +kernel
theorem pn_X0_allCuts_2 : (parseMethodDescriptor (am_y M_X0_allCuts_2).desc).map (fun d => d.parameters.length) = some 1 := by decide +kernel
theorem pn_X0_allCuts_3 : (parseMethodDescriptor (am_y M_X0_allCuts_3).desc).map (fun d => d.parameters.length) = some 1 := by decide +kernel
theorem pn_X0_startOf_2 : (parseMethodDescriptor (am_y M_X0_startOf_2).desc).map (fun d => d.parameters.length) = some 2 := by decide +kernel
theorem pn_X0_startOf_3 : (parseMethodDescriptor (am_y M_X0_startOf_3).desc).map (fun d => d.parameters.length) = some 2 := by decide +kernel
theorem pn_X1_init : (parseMethodDescriptor (am_y M_X1_init).desc).map (fun d => d.parameters.length) = some 0 := by decide +kernel
theorem pn_X1_sortEnds : (parseMethodDescriptor (am_y M_X1_sortEnds).desc).map (fun d => d.parameters.length) = some 1 := by decide +kernel
theorem pn_X1_listBySecondHalf : (parseMethodDescriptor (am_y M_X1_listBySecondHalf).desc).map (fun d => d.parameters.length) = some 2 := by decide +kernel
theorem pn_X1_orderByClass : (parseMethodDescriptor (am_y M_X1_orderByClass).desc).map (fun d => d.parameters.length) = some 1 := by decide +kernel
theorem pn_X1_numberClasses : (parseMethodDescriptor (am_y M_X1_numberClasses).desc).map (fun d => d.parameters.length) = some 2 := by decide +kernel
theorem pn_X1_areAlike : (parseMethodDescriptor (am_y M_X1_areAlike).desc).map (fun d => d.parameters.length) = some 4 := by decide +kernel
theorem pn_X1_classBehind : (parseMethodDescriptor (am_y M_X1_classBehind).desc).map (fun d => d.parameters.length) = some 2 := by decide +kernel
theorem pn_X1_tellCommons : (parseMethodDescriptor (am_y M_X1_tellCommons).desc).map (fun d => d.parameters.length) = some 1 := by decide +kernel
theorem pn_X2_init : (parseMethodDescriptor (am_y M_X2_init).desc).map (fun d => d.parameters.length) = some 0 := by decide +kernel
theorem pn_X2_sizeFrom : (parseMethodDescriptor (am_y M_X2_sizeFrom).desc).map (fun d => d.parameters.length) = some 2 := by decide +kernel
theorem pn_X2_commonWithLowerAhead : (parseMethodDescriptor (am_y M_X2_commonWithLowerAhead).desc).map (fun d => d.parameters.length) = some 2 := by decide +kernel
theorem pn_X2_commonWithUpperAhead : (parseMethodDescriptor (am_y M_X2_commonWithUpperAhead).desc).map (fun d => d.parameters.length) = some 2 := by decide +kernel
theorem pn_X2_fewestWords : (parseMethodDescriptor (am_y M_X2_fewestWords).desc).map (fun d => d.parameters.length) = some 1 := by decide +kernel
theorem pn_X3_init : (parseMethodDescriptor (am_y M_X3_init).desc).map (fun d => d.parameters.length) = some 0 := by decide +kernel
theorem pn_X3_sizeFrom : (parseMethodDescriptor (am_y M_X3_sizeFrom).desc).map (fun d => d.parameters.length) = some 2 := by decide +kernel
theorem pn_X3_agreesWith : (parseMethodDescriptor (am_y M_X3_agreesWith).desc).map (fun d => d.parameters.length) = some 1 := by decide +kernel
theorem pn_X4_allSquares : (parseMethodDescriptor (am_y M_X4_allSquares).desc).map (fun d => d.parameters.length) = some 1 := by decide +kernel
theorem pn_X4_leastPeriod : (parseMethodDescriptor (am_y M_X4_leastPeriod).desc).map (fun d => d.parameters.length) = some 1 := by decide +kernel
theorem pn_X5_init : (parseMethodDescriptor (am_y M_X5_init).desc).map (fun d => d.parameters.length) = some 0 := by decide +kernel
theorem pn_X6_init : (parseMethodDescriptor (am_y M_X6_init).desc).map (fun d => d.parameters.length) = some 0 := by decide +kernel
theorem pn_X6_add : (parseMethodDescriptor (am_y M_X6_add).desc).map (fun d => d.parameters.length) = some 2 := by decide +kernel
theorem pn_X6_addTurnedRound : (parseMethodDescriptor (am_y M_X6_addTurnedRound).desc).map (fun d => d.parameters.length) = some 1 := by decide +kernel
theorem pn_X6_putAhead : (parseMethodDescriptor (am_y M_X6_putAhead).desc).map (fun d => d.parameters.length) = some 1 := by decide +kernel
theorem pn_X6_dropFirst : (parseMethodDescriptor (am_y M_X6_dropFirst).desc).map (fun d => d.parameters.length) = some 0 := by decide +kernel
theorem pn_X6_endsAboveWhole : (parseMethodDescriptor (am_y M_X6_endsAboveWhole).desc).map (fun d => d.parameters.length) = some 0 := by decide +kernel
theorem pn_X6_likeSigns : (parseMethodDescriptor (am_y M_X6_likeSigns).desc).map (fun d => d.parameters.length) = some 3 := by decide +kernel
theorem pn_X6_unlikeBeginnings : (parseMethodDescriptor (am_y M_X6_unlikeBeginnings).desc).map (fun d => d.parameters.length) = some 2 := by decide +kernel
theorem pn_X6_greatestCommon : (parseMethodDescriptor (am_y M_X6_greatestCommon).desc).map (fun d => d.parameters.length) = some 0 := by decide +kernel
theorem pn_X6_againstWord : (parseMethodDescriptor (am_y M_X6_againstWord).desc).map (fun d => d.parameters.length) = some 3 := by decide +kernel
theorem pn_X6_endsBelow : (parseMethodDescriptor (am_y M_X6_endsBelow).desc).map (fun d => d.parameters.length) = some 2 := by decide +kernel
theorem pn_X6_endsUpTo : (parseMethodDescriptor (am_y M_X6_endsUpTo).desc).map (fun d => d.parameters.length) = some 2 := by decide +kernel
theorem pn_X6_endsUnder : (parseMethodDescriptor (am_y M_X6_endsUnder).desc).map (fun d => d.parameters.length) = some 3 := by decide +kernel
theorem pn_X6_risingPlace : (parseMethodDescriptor (am_y M_X6_risingPlace).desc).map (fun d => d.parameters.length) = some 3 := by decide +kernel
theorem pn_X6_newWordsBelow : (parseMethodDescriptor (am_y M_X6_newWordsBelow).desc).map (fun d => d.parameters.length) = some 1 := by decide +kernel
theorem pn_X6_rankBringing : (parseMethodDescriptor (am_y M_X6_rankBringing).desc).map (fun d => d.parameters.length) = some 1 := by decide +kernel
theorem pn_X6_firstPlaceOfLongestTwice : (parseMethodDescriptor (am_y M_X6_firstPlaceOfLongestTwice).desc).map (fun d => d.parameters.length) = some 0 := by decide +kernel
theorem pn_X6_placeOfRow : (parseMethodDescriptor (am_y M_X6_placeOfRow).desc).map (fun d => d.parameters.length) = some 1 := by decide +kernel
theorem pn_X6_firstSign : (parseMethodDescriptor (am_y M_X6_firstSign).desc).map (fun d => d.parameters.length) = some 1 := by decide +kernel
theorem pn_X6_lastSign : (parseMethodDescriptor (am_y M_X6_lastSign).desc).map (fun d => d.parameters.length) = some 1 := by decide +kernel
theorem pn_X6_rowAhead : (parseMethodDescriptor (am_y M_X6_rowAhead).desc).map (fun d => d.parameters.length) = some 1 := by decide +kernel
theorem pn_X7_init : (parseMethodDescriptor (am_y M_X7_init).desc).map (fun d => d.parameters.length) = some 0 := by decide +kernel
theorem pn_X7_indexOfSign : (parseMethodDescriptor (am_y M_X7_indexOfSign).desc).map (fun d => d.parameters.length) = some 1 := by decide +kernel
theorem pn_X7_turnBack : (parseMethodDescriptor (am_y M_X7_turnBack).desc).map (fun d => d.parameters.length) = some 2 := by decide +kernel
theorem pn_X7_endSigns : (parseMethodDescriptor (am_y M_X7_endSigns).desc).map (fun d => d.parameters.length) = some 2 := by decide +kernel
theorem pn_X7_tellRowsAhead : (parseMethodDescriptor (am_y M_X7_tellRowsAhead).desc).map (fun d => d.parameters.length) = some 2 := by decide +kernel
theorem pn_X7_comesBack : (parseMethodDescriptor (am_y M_X7_comesBack).desc).map (fun d => d.parameters.length) = some 1 := by decide +kernel
theorem pn_X8_init : (parseMethodDescriptor (am_y M_X8_init).desc).map (fun d => d.parameters.length) = some 0 := by decide +kernel
theorem pn_X8_put : (parseMethodDescriptor (am_y M_X8_put).desc).map (fun d => d.parameters.length) = some 1 := by decide +kernel
theorem pn_X8_hold : (parseMethodDescriptor (am_y M_X8_hold).desc).map (fun d => d.parameters.length) = some 3 := by decide +kernel
theorem pn_X8_hasEndSign : (parseMethodDescriptor (am_y M_X8_hasEndSign).desc).map (fun d => d.parameters.length) = some 0 := by decide +kernel
theorem pn_X9_init : (parseMethodDescriptor (am_y M_X9_init).desc).map (fun d => d.parameters.length) = some 0 := by decide +kernel
theorem pn_X9_agreesWith : (parseMethodDescriptor (am_y M_X9_agreesWith).desc).map (fun d => d.parameters.length) = some 1 := by decide +kernel
theorem pn_X9_listWords : (parseMethodDescriptor (am_y M_X9_listWords).desc).map (fun d => d.parameters.length) = some 1 := by decide +kernel
theorem pn_X9_nodeBelow : (parseMethodDescriptor (am_y M_X9_nodeBelow).desc).map (fun d => d.parameters.length) = some 2 := by decide +kernel
theorem pn_X9_addBelow : (parseMethodDescriptor (am_y M_X9_addBelow).desc).map (fun d => d.parameters.length) = some 2 := by decide +kernel
theorem pn_X10_init : (parseMethodDescriptor (am_y M_X10_init).desc).map (fun d => d.parameters.length) = some 0 := by decide +kernel
theorem pn_X10_type : (parseMethodDescriptor (am_y M_X10_type).desc).map (fun d => d.parameters.length) = some 1 := by decide +kernel
theorem pn_X10_wipe : (parseMethodDescriptor (am_y M_X10_wipe).desc).map (fun d => d.parameters.length) = some 0 := by decide +kernel
theorem pn_X10_typed : (parseMethodDescriptor (am_y M_X10_typed).desc).map (fun d => d.parameters.length) = some 1 := by decide +kernel
theorem pn_X10_text : (parseMethodDescriptor (am_y M_X10_text).desc).map (fun d => d.parameters.length) = some 0 := by decide +kernel
theorem pn_X10_length : (parseMethodDescriptor (am_y M_X10_length).desc).map (fun d => d.parameters.length) = some 1 := by decide +kernel
theorem pn_X10_signAt : (parseMethodDescriptor (am_y M_X10_signAt).desc).map (fun d => d.parameters.length) = some 2 := by decide +kernel
theorem pn_X10_mirror : (parseMethodDescriptor (am_y M_X10_mirror).desc).map (fun d => d.parameters.length) = some 1 := by decide +kernel
theorem pn_X10_ahead : (parseMethodDescriptor (am_y M_X10_ahead).desc).map (fun d => d.parameters.length) = some 2 := by decide +kernel
theorem pn_X10_chop : (parseMethodDescriptor (am_y M_X10_chop).desc).map (fun d => d.parameters.length) = some 1 := by decide +kernel
theorem pn_X10_endAt : (parseMethodDescriptor (am_y M_X10_endAt).desc).map (fun d => d.parameters.length) = some 2 := by decide +kernel
theorem pn_X10_rankOf : (parseMethodDescriptor (am_y M_X10_rankOf).desc).map (fun d => d.parameters.length) = some 2 := by decide +kernel
theorem pn_X10_classes : (parseMethodDescriptor (am_y M_X10_classes).desc).map (fun d => d.parameters.length) = some 2 := by decide +kernel
theorem pn_X10_rounds : (parseMethodDescriptor (am_y M_X10_rounds).desc).map (fun d => d.parameters.length) = some 1 := by decide +kernel
theorem pn_X10_common : (parseMethodDescriptor (am_y M_X10_common).desc).map (fun d => d.parameters.length) = some 2 := by decide +kernel
theorem pn_X10_shared : (parseMethodDescriptor (am_y M_X10_shared).desc).map (fun d => d.parameters.length) = some 4 := by decide +kernel
theorem pn_X10_count : (parseMethodDescriptor (am_y M_X10_count).desc).map (fun d => d.parameters.length) = some 1 := by decide +kernel
theorem pn_X10_runFrom : (parseMethodDescriptor (am_y M_X10_runFrom).desc).map (fun d => d.parameters.length) = some 1 := by decide +kernel
theorem pn_X10_standsAt : (parseMethodDescriptor (am_y M_X10_standsAt).desc).map (fun d => d.parameters.length) = some 2 := by decide +kernel
theorem pn_X10_tail : (parseMethodDescriptor (am_y M_X10_tail).desc).map (fun d => d.parameters.length) = some 2 := by decide +kernel
theorem pn_X10_words : (parseMethodDescriptor (am_y M_X10_words).desc).map (fun d => d.parameters.length) = some 1 := by decide +kernel
theorem pn_X10_word : (parseMethodDescriptor (am_y M_X10_word).desc).map (fun d => d.parameters.length) = some 2 := by decide +kernel
theorem pn_X10_numberOf : (parseMethodDescriptor (am_y M_X10_numberOf).desc).map (fun d => d.parameters.length) = some 1 := by decide +kernel
theorem pn_X10_twice : (parseMethodDescriptor (am_y M_X10_twice).desc).map (fun d => d.parameters.length) = some 1 := by decide +kernel
theorem pn_X10_twiceAt : (parseMethodDescriptor (am_y M_X10_twiceAt).desc).map (fun d => d.parameters.length) = some 1 := by decide +kernel
theorem pn_X10_first : (parseMethodDescriptor (am_y M_X10_first).desc).map (fun d => d.parameters.length) = some 2 := by decide +kernel
theorem pn_X10_last : (parseMethodDescriptor (am_y M_X10_last).desc).map (fun d => d.parameters.length) = some 2 := by decide +kernel
theorem pn_X10_back : (parseMethodDescriptor (am_y M_X10_back).desc).map (fun d => d.parameters.length) = some 2 := by decide +kernel
theorem pn_X10_column : (parseMethodDescriptor (am_y M_X10_column).desc).map (fun d => d.parameters.length) = some 1 := by decide +kernel
theorem pn_X10_undo : (parseMethodDescriptor (am_y M_X10_undo).desc).map (fun d => d.parameters.length) = some 0 := by decide +kernel
theorem pn_X10_squares : (parseMethodDescriptor (am_y M_X10_squares).desc).map (fun d => d.parameters.length) = some 1 := by decide +kernel
theorem pn_X10_period : (parseMethodDescriptor (am_y M_X10_period).desc).map (fun d => d.parameters.length) = some 1 := by decide +kernel
theorem pn_X10_parts : (parseMethodDescriptor (am_y M_X10_parts).desc).map (fun d => d.parameters.length) = some 1 := by decide +kernel
theorem pn_X10_partAt : (parseMethodDescriptor (am_y M_X10_partAt).desc).map (fun d => d.parameters.length) = some 2 := by decide +kernel
theorem pn_X10_pieces : (parseMethodDescriptor (am_y M_X10_pieces).desc).map (fun d => d.parameters.length) = some 1 := by decide +kernel
theorem pn_X10_fewest : (parseMethodDescriptor (am_y M_X10_fewest).desc).map (fun d => d.parameters.length) = some 1 := by decide +kernel
theorem pn_X10_checksum : (parseMethodDescriptor (am_y M_X10_checksum).desc).map (fun d => d.parameters.length) = some 0 := by decide +kernel
theorem pn_X10_isSound : (parseMethodDescriptor (am_y M_X10_isSound).desc).map (fun d => d.parameters.length) = some 0 := by decide +kernel
theorem pn_X10_isLetter : (parseMethodDescriptor (am_y M_X10_isLetter).desc).map (fun d => d.parameters.length) = some 1 := by decide +kernel
theorem pn_X10_isTypable : (parseMethodDescriptor (am_y M_X10_isTypable).desc).map (fun d => d.parameters.length) = some 1 := by decide +kernel
theorem pn_X10_known : (parseMethodDescriptor (am_y M_X10_known).desc).map (fun d => d.parameters.length) = some 1 := by decide +kernel
theorem pn_X10_knownWith : (parseMethodDescriptor (am_y M_X10_knownWith).desc).map (fun d => d.parameters.length) = some 2 := by decide +kernel
theorem pn_X10_knownWithRow : (parseMethodDescriptor (am_y M_X10_knownWithRow).desc).map (fun d => d.parameters.length) = some 2 := by decide +kernel
theorem pn_X10_knownNotEmpty : (parseMethodDescriptor (am_y M_X10_knownNotEmpty).desc).map (fun d => d.parameters.length) = some 1 := by decide +kernel
theorem pn_X10_refuseClassSize : (parseMethodDescriptor (am_y M_X10_refuseClassSize).desc).map (fun d => d.parameters.length) = some 1 := by decide +kernel
theorem pn_X10_refuseNoWord : (parseMethodDescriptor (am_y M_X10_refuseNoWord).desc).map (fun d => d.parameters.length) = some 0 := by decide +kernel
theorem pn_X10_leastRank : (parseMethodDescriptor (am_y M_X10_leastRank).desc).map (fun d => d.parameters.length) = some 1 := by decide +kernel
theorem pn_X10_freshText : (parseMethodDescriptor (am_y M_X10_freshText).desc).map (fun d => d.parameters.length) = some 0 := by decide +kernel
theorem pn_X10_keep : (parseMethodDescriptor (am_y M_X10_keep).desc).map (fun d => d.parameters.length) = some 1 := by decide +kernel
theorem pn_L_cell : (parseMethodDescriptor (am_y M_L_cell).desc).map (fun d => d.parameters.length) = some 2 := by decide +kernel
theorem pn_L_chosen : (parseMethodDescriptor (am_y M_L_chosen).desc).map (fun d => d.parameters.length) = some 2 := by decide +kernel
theorem pn_L_type : (parseMethodDescriptor (am_y M_L_type).desc).map (fun d => d.parameters.length) = some 2 := by decide +kernel
theorem pn_L_wipe : (parseMethodDescriptor (am_y M_L_wipe).desc).map (fun d => d.parameters.length) = some 1 := by decide +kernel
theorem pn_L_typed : (parseMethodDescriptor (am_y M_L_typed).desc).map (fun d => d.parameters.length) = some 2 := by decide +kernel
theorem pn_L_text : (parseMethodDescriptor (am_y M_L_text).desc).map (fun d => d.parameters.length) = some 1 := by decide +kernel
theorem pn_L_length : (parseMethodDescriptor (am_y M_L_length).desc).map (fun d => d.parameters.length) = some 2 := by decide +kernel
theorem pn_L_signAt : (parseMethodDescriptor (am_y M_L_signAt).desc).map (fun d => d.parameters.length) = some 3 := by decide +kernel
theorem pn_L_mirror : (parseMethodDescriptor (am_y M_L_mirror).desc).map (fun d => d.parameters.length) = some 2 := by decide +kernel
theorem pn_L_ahead : (parseMethodDescriptor (am_y M_L_ahead).desc).map (fun d => d.parameters.length) = some 3 := by decide +kernel
theorem pn_L_chop : (parseMethodDescriptor (am_y M_L_chop).desc).map (fun d => d.parameters.length) = some 2 := by decide +kernel
theorem pn_L_endAt : (parseMethodDescriptor (am_y M_L_endAt).desc).map (fun d => d.parameters.length) = some 3 := by decide +kernel
theorem pn_L_rankOf : (parseMethodDescriptor (am_y M_L_rankOf).desc).map (fun d => d.parameters.length) = some 3 := by decide +kernel
theorem pn_L_classes : (parseMethodDescriptor (am_y M_L_classes).desc).map (fun d => d.parameters.length) = some 3 := by decide +kernel
theorem pn_L_rounds : (parseMethodDescriptor (am_y M_L_rounds).desc).map (fun d => d.parameters.length) = some 2 := by decide +kernel
theorem pn_L_common : (parseMethodDescriptor (am_y M_L_common).desc).map (fun d => d.parameters.length) = some 3 := by decide +kernel
theorem pn_L_shared : (parseMethodDescriptor (am_y M_L_shared).desc).map (fun d => d.parameters.length) = some 5 := by decide +kernel
theorem pn_L_count : (parseMethodDescriptor (am_y M_L_count).desc).map (fun d => d.parameters.length) = some 2 := by decide +kernel
theorem pn_L_runFrom : (parseMethodDescriptor (am_y M_L_runFrom).desc).map (fun d => d.parameters.length) = some 2 := by decide +kernel
theorem pn_L_standsAt : (parseMethodDescriptor (am_y M_L_standsAt).desc).map (fun d => d.parameters.length) = some 3 := by decide +kernel
theorem pn_L_tail : (parseMethodDescriptor (am_y M_L_tail).desc).map (fun d => d.parameters.length) = some 3 := by decide +kernel
theorem pn_L_words : (parseMethodDescriptor (am_y M_L_words).desc).map (fun d => d.parameters.length) = some 2 := by decide +kernel
theorem pn_L_word : (parseMethodDescriptor (am_y M_L_word).desc).map (fun d => d.parameters.length) = some 3 := by decide +kernel
theorem pn_L_numberOf : (parseMethodDescriptor (am_y M_L_numberOf).desc).map (fun d => d.parameters.length) = some 2 := by decide +kernel
theorem pn_L_twice : (parseMethodDescriptor (am_y M_L_twice).desc).map (fun d => d.parameters.length) = some 2 := by decide +kernel
theorem pn_L_twiceAt : (parseMethodDescriptor (am_y M_L_twiceAt).desc).map (fun d => d.parameters.length) = some 2 := by decide +kernel
theorem pn_L_first : (parseMethodDescriptor (am_y M_L_first).desc).map (fun d => d.parameters.length) = some 3 := by decide +kernel
theorem pn_L_last : (parseMethodDescriptor (am_y M_L_last).desc).map (fun d => d.parameters.length) = some 3 := by decide +kernel
theorem pn_L_back : (parseMethodDescriptor (am_y M_L_back).desc).map (fun d => d.parameters.length) = some 3 := by decide +kernel
theorem pn_L_column : (parseMethodDescriptor (am_y M_L_column).desc).map (fun d => d.parameters.length) = some 2 := by decide +kernel
theorem pn_L_undo : (parseMethodDescriptor (am_y M_L_undo).desc).map (fun d => d.parameters.length) = some 1 := by decide +kernel
theorem pn_L_squares : (parseMethodDescriptor (am_y M_L_squares).desc).map (fun d => d.parameters.length) = some 2 := by decide +kernel
theorem pn_L_period : (parseMethodDescriptor (am_y M_L_period).desc).map (fun d => d.parameters.length) = some 2 := by decide +kernel
theorem pn_L_parts : (parseMethodDescriptor (am_y M_L_parts).desc).map (fun d => d.parameters.length) = some 2 := by decide +kernel
theorem pn_L_partAt : (parseMethodDescriptor (am_y M_L_partAt).desc).map (fun d => d.parameters.length) = some 3 := by decide +kernel
theorem pn_L_pieces : (parseMethodDescriptor (am_y M_L_pieces).desc).map (fun d => d.parameters.length) = some 2 := by decide +kernel
theorem pn_L_fewest : (parseMethodDescriptor (am_y M_L_fewest).desc).map (fun d => d.parameters.length) = some 2 := by decide +kernel
theorem pn_L_checksum : (parseMethodDescriptor (am_y M_L_checksum).desc).map (fun d => d.parameters.length) = some 1 := by decide +kernel
theorem pn_L_isSound : (parseMethodDescriptor (am_y M_L_isSound).desc).map (fun d => d.parameters.length) = some 1 := by decide +kernel
theorem pn_L_size : (parseMethodDescriptor (am_y M_L_size).desc).map (fun d => d.parameters.length) = some 1 := by decide +kernel
theorem pn_L_signs : (parseMethodDescriptor (am_y M_L_signs).desc).map (fun d => d.parameters.length) = some 1 := by decide +kernel
theorem pn_L_tells : (parseMethodDescriptor (am_y M_L_tells).desc).map (fun d => d.parameters.length) = some 2 := by decide +kernel
theorem pn_L_comesBack : (parseMethodDescriptor (am_y M_L_comesBack).desc).map (fun d => d.parameters.length) = some 3 := by decide +kernel
theorem pn_L_isRun : (parseMethodDescriptor (am_y M_L_isRun).desc).map (fun d => d.parameters.length) = some 5 := by decide +kernel
theorem cl_17 : Cond.classLink RL 17 "java/lang/IllegalArgumentException" ∈ am_W0 := am_mem 434 (by decide +kernel) rfl
theorem cl_23 : Cond.classLink RL 23 "java/lang/IllegalStateException" ∈ am_W0 := am_mem 341 (by decide +kernel) rfl
theorem cl_35 : Cond.classLink RL 35 "java/util/NoSuchElementException" ∈ am_W0 := am_mem 471 (by decide +kernel) rfl
theorem cl_40 : Cond.classLink RL 40 "java/lang/UnsupportedOperationException" ∈ am_W0 := am_mem 788 (by decide +kernel) rfl
theorem cl_46 : Cond.classLink RL 46 "java/lang/IndexOutOfBoundsException" ∈ am_W0 := am_mem 262 (by decide +kernel) rfl
theorem ca_IllegalArgumentException : Cond.castable "java/lang/IllegalArgumentException" "java/lang/IllegalArgumentException" ∈ am_W1 := am_mem1 444 (by decide +kernel) rfl
theorem ca_IllegalStateException : Cond.castable "java/lang/IllegalStateException" "java/lang/IllegalStateException" ∈ am_W1 := am_mem1 369 (by decide +kernel) rfl
theorem ca_IndexOutOfBoundsException : Cond.castable "java/lang/IndexOutOfBoundsException" "java/lang/IndexOutOfBoundsException" ∈ am_W1 := am_mem1 352 (by decide +kernel) rfl
theorem ca_UnsupportedOperationException : Cond.castable "java/lang/UnsupportedOperationException" "java/lang/UnsupportedOperationException" ∈ am_W1 := am_mem1 799 (by decide +kernel) rfl
theorem ca_NoSuchElementException : Cond.castable "java/util/NoSuchElementException" "java/util/NoSuchElementException" ∈ am_W1 := am_mem1 482 (by decide +kernel) rfl
theorem hd_L_type_0 : am_HD RL (am_hh M_L_type) 2 "java/lang/IllegalArgumentException" 7 := ⟨[], (0, 6, 7, 17), [(0, 6, 12, 23)], rfl, fun _ h9 => absurd h9 List.not_mem_nil, by decide, by decide, by decide, cl_17, ca_IllegalArgumentException, by decide, rfl⟩
theorem hd_L_type_1 : am_HD RL (am_hh M_L_type) 2 "java/lang/IllegalStateException" 12 := ⟨[(0, 6, 7, 17)], (0, 6, 12, 23), [], rfl, List.forall_mem_cons.mpr ⟨⟨by decide, "java/lang/IllegalArgumentException", cl_17, by decide, by decide⟩, fun _ h9 => absurd h9 List.not_mem_nil⟩, by decide, by decide, by decide, cl_23, ca_IllegalStateException, by decide, rfl⟩
theorem hd_L_typed_0 : am_HD RL (am_hh M_L_typed) 2 "java/util/NoSuchElementException" 7 := ⟨[], (0, 6, 7, 35), [], rfl, fun _ h9 => absurd h9 List.not_mem_nil, by decide, by decide, by decide, cl_35, ca_NoSuchElementException, by decide, rfl⟩
theorem hd_L_text_0 : am_HD RL (am_hh M_L_text) 1 "java/lang/UnsupportedOperationException" 6 := ⟨[], (0, 5, 6, 40), [(0, 5, 11, 23)], rfl, fun _ h9 => absurd h9 List.not_mem_nil, by decide, by decide, by decide, cl_40, ca_UnsupportedOperationException, by decide, rfl⟩
theorem hd_L_text_1 : am_HD RL (am_hh M_L_text) 1 "java/lang/IllegalStateException" 11 := ⟨[(0, 5, 6, 40)], (0, 5, 11, 23), [], rfl, List.forall_mem_cons.mpr ⟨⟨by decide, "java/lang/UnsupportedOperationException", cl_40, by decide, by decide⟩, fun _ h9 => absurd h9 List.not_mem_nil⟩, by decide, by decide, by decide, cl_23, ca_IllegalStateException, by decide, rfl⟩
theorem hd_L_length_0 : am_HD RL (am_hh M_L_length) 2 "java/lang/IndexOutOfBoundsException" 7 := ⟨[], (0, 6, 7, 46), [], rfl, fun _ h9 => absurd h9 List.not_mem_nil, by decide, by decide, by decide, cl_46, ca_IndexOutOfBoundsException, by decide, rfl⟩
theorem hd_L_signAt_0 : am_HD RL (am_hh M_L_signAt) 3 "java/lang/IndexOutOfBoundsException" 8 := ⟨[], (0, 7, 8, 46), [], rfl, fun _ h9 => absurd h9 List.not_mem_nil, by decide, by decide, by decide, cl_46, ca_IndexOutOfBoundsException, by decide, rfl⟩
theorem hd_L_mirror_0 : am_HD RL (am_hh M_L_mirror) 2 "java/lang/IndexOutOfBoundsException" 7 := ⟨[], (0, 6, 7, 46), [(0, 6, 12, 23)], rfl, fun _ h9 => absurd h9 List.not_mem_nil, by decide, by decide, by decide, cl_46, ca_IndexOutOfBoundsException, by decide, rfl⟩
theorem hd_L_mirror_1 : am_HD RL (am_hh M_L_mirror) 2 "java/lang/IllegalStateException" 12 := ⟨[(0, 6, 7, 46)], (0, 6, 12, 23), [], rfl, List.forall_mem_cons.mpr ⟨⟨by decide, "java/lang/IndexOutOfBoundsException", cl_46, by decide, by decide⟩, fun _ h9 => absurd h9 List.not_mem_nil⟩, by decide, by decide, by decide, cl_23, ca_IllegalStateException, by decide, rfl⟩
theorem hd_L_ahead_0 : am_HD RL (am_hh M_L_ahead) 3 "java/lang/IndexOutOfBoundsException" 8 := ⟨[], (0, 7, 8, 46), [(0, 7, 13, 17), (0, 7, 18, 23)], rfl, fun _ h9 => absurd h9 List.not_mem_nil, by decide, by decide, by decide, cl_46, ca_IndexOutOfBoundsException, by decide, rfl⟩
theorem hd_L_ahead_1 : am_HD RL (am_hh M_L_ahead) 3 "java/lang/IllegalArgumentException" 13 := ⟨[(0, 7, 8, 46)], (0, 7, 13, 17), [(0, 7, 18, 23)], rfl, List.forall_mem_cons.mpr ⟨⟨by decide, "java/lang/IndexOutOfBoundsException", cl_46, by decide, by decide⟩, fun _ h9 => absurd h9 List.not_mem_nil⟩, by decide, by decide, by decide, cl_17, ca_IllegalArgumentException, by decide, rfl⟩
theorem hd_L_ahead_2 : am_HD RL (am_hh M_L_ahead) 3 "java/lang/IllegalStateException" 18 := ⟨[(0, 7, 8, 46), (0, 7, 13, 17)], (0, 7, 18, 23), [], rfl, List.forall_mem_cons.mpr ⟨⟨by decide, "java/lang/IndexOutOfBoundsException", cl_46, by decide, by decide⟩, List.forall_mem_cons.mpr ⟨⟨by decide, "java/lang/IllegalArgumentException", cl_17, by decide, by decide⟩, fun _ h9 => absurd h9 List.not_mem_nil⟩⟩, by decide, by decide, by decide, cl_23, ca_IllegalStateException, by decide, rfl⟩
theorem hd_L_chop_0 : am_HD RL (am_hh M_L_chop) 2 "java/lang/IndexOutOfBoundsException" 7 := ⟨[], (0, 6, 7, 46), [(0, 6, 12, 35)], rfl, fun _ h9 => absurd h9 List.not_mem_nil, by decide, by decide, by decide, cl_46, ca_IndexOutOfBoundsException, by decide, rfl⟩
theorem hd_L_chop_1 : am_HD RL (am_hh M_L_chop) 2 "java/util/NoSuchElementException" 12 := ⟨[(0, 6, 7, 46)], (0, 6, 12, 35), [], rfl, List.forall_mem_cons.mpr ⟨⟨by decide, "java/lang/IndexOutOfBoundsException", cl_46, by decide, by decide⟩, fun _ h9 => absurd h9 List.not_mem_nil⟩, by decide, by decide, by decide, cl_35, ca_NoSuchElementException, by decide, rfl⟩
theorem hd_L_endAt_0 : am_HD RL (am_hh M_L_endAt) 3 "java/lang/IndexOutOfBoundsException" 8 := ⟨[], (0, 7, 8, 46), [], rfl, fun _ h9 => absurd h9 List.not_mem_nil, by decide, by decide, by decide, cl_46, ca_IndexOutOfBoundsException, by decide, rfl⟩
theorem hd_L_rankOf_0 : am_HD RL (am_hh M_L_rankOf) 3 "java/lang/IndexOutOfBoundsException" 8 := ⟨[], (0, 7, 8, 46), [], rfl, fun _ h9 => absurd h9 List.not_mem_nil, by decide, by decide, by decide, cl_46, ca_IndexOutOfBoundsException, by decide, rfl⟩
theorem hd_L_classes_0 : am_HD RL (am_hh M_L_classes) 3 "java/lang/IndexOutOfBoundsException" 8 := ⟨[], (0, 7, 8, 46), [(0, 7, 13, 17)], rfl, fun _ h9 => absurd h9 List.not_mem_nil, by decide, by decide, by decide, cl_46, ca_IndexOutOfBoundsException, by decide, rfl⟩
theorem hd_L_classes_1 : am_HD RL (am_hh M_L_classes) 3 "java/lang/IllegalArgumentException" 13 := ⟨[(0, 7, 8, 46)], (0, 7, 13, 17), [], rfl, List.forall_mem_cons.mpr ⟨⟨by decide, "java/lang/IndexOutOfBoundsException", cl_46, by decide, by decide⟩, fun _ h9 => absurd h9 List.not_mem_nil⟩, by decide, by decide, by decide, cl_17, ca_IllegalArgumentException, by decide, rfl⟩
theorem hd_L_rounds_0 : am_HD RL (am_hh M_L_rounds) 2 "java/lang/IndexOutOfBoundsException" 7 := ⟨[], (0, 6, 7, 46), [], rfl, fun _ h9 => absurd h9 List.not_mem_nil, by decide, by decide, by decide, cl_46, ca_IndexOutOfBoundsException, by decide, rfl⟩
theorem hd_L_common_0 : am_HD RL (am_hh M_L_common) 3 "java/lang/IndexOutOfBoundsException" 8 := ⟨[], (0, 7, 8, 46), [], rfl, fun _ h9 => absurd h9 List.not_mem_nil, by decide, by decide, by decide, cl_46, ca_IndexOutOfBoundsException, by decide, rfl⟩
theorem hd_L_shared_0 : am_HD RL (am_hh M_L_shared) 6 "java/lang/IndexOutOfBoundsException" 11 := ⟨[], (0, 10, 11, 46), [], rfl, fun _ h9 => absurd h9 List.not_mem_nil, by decide, by decide, by decide, cl_46, ca_IndexOutOfBoundsException, by decide, rfl⟩
theorem hd_L_count_0 : am_HD RL (am_hh M_L_count) 2 "java/lang/IndexOutOfBoundsException" 7 := ⟨[], (0, 6, 7, 46), [(0, 6, 12, 40)], rfl, fun _ h9 => absurd h9 List.not_mem_nil, by decide, by decide, by decide, cl_46, ca_IndexOutOfBoundsException, by decide, rfl⟩
theorem hd_L_count_1 : am_HD RL (am_hh M_L_count) 2 "java/lang/UnsupportedOperationException" 12 := ⟨[(0, 6, 7, 46)], (0, 6, 12, 40), [], rfl, List.forall_mem_cons.mpr ⟨⟨by decide, "java/lang/IndexOutOfBoundsException", cl_46, by decide, by decide⟩, fun _ h9 => absurd h9 List.not_mem_nil⟩, by decide, by decide, by decide, cl_40, ca_UnsupportedOperationException, by decide, rfl⟩
theorem hd_L_runFrom_0 : am_HD RL (am_hh M_L_runFrom) 2 "java/lang/IndexOutOfBoundsException" 7 := ⟨[], (0, 6, 7, 46), [(0, 6, 12, 40), (0, 6, 17, 35)], rfl, fun _ h9 => absurd h9 List.not_mem_nil, by decide, by decide, by decide, cl_46, ca_IndexOutOfBoundsException, by decide, rfl⟩
theorem hd_L_runFrom_1 : am_HD RL (am_hh M_L_runFrom) 2 "java/lang/UnsupportedOperationException" 12 := ⟨[(0, 6, 7, 46)], (0, 6, 12, 40), [(0, 6, 17, 35)], rfl, List.forall_mem_cons.mpr ⟨⟨by decide, "java/lang/IndexOutOfBoundsException", cl_46, by decide, by decide⟩, fun _ h9 => absurd h9 List.not_mem_nil⟩, by decide, by decide, by decide, cl_40, ca_UnsupportedOperationException, by decide, rfl⟩
theorem hd_L_runFrom_2 : am_HD RL (am_hh M_L_runFrom) 2 "java/util/NoSuchElementException" 17 := ⟨[(0, 6, 7, 46), (0, 6, 12, 40)], (0, 6, 17, 35), [], rfl, List.forall_mem_cons.mpr ⟨⟨by decide, "java/lang/IndexOutOfBoundsException", cl_46, by decide, by decide⟩, List.forall_mem_cons.mpr ⟨⟨by decide, "java/lang/UnsupportedOperationException", cl_40, by decide, by decide⟩, fun _ h9 => absurd h9 List.not_mem_nil⟩⟩, by decide, by decide, by decide, cl_35, ca_NoSuchElementException, by decide, rfl⟩
theorem hd_L_standsAt_0 : am_HD RL (am_hh M_L_standsAt) 3 "java/lang/IndexOutOfBoundsException" 8 := ⟨[], (0, 7, 8, 46), [(0, 7, 13, 40), (0, 7, 18, 35)], rfl, fun _ h9 => absurd h9 List.not_mem_nil, by decide, by decide, by decide, cl_46, ca_IndexOutOfBoundsException, by decide, rfl⟩
theorem hd_L_standsAt_1 : am_HD RL (am_hh M_L_standsAt) 3 "java/lang/UnsupportedOperationException" 13 := ⟨[(0, 7, 8, 46)], (0, 7, 13, 40), [(0, 7, 18, 35)], rfl, List.forall_mem_cons.mpr ⟨⟨by decide, "java/lang/IndexOutOfBoundsException", cl_46, by decide, by decide⟩, fun _ h9 => absurd h9 List.not_mem_nil⟩, by decide, by decide, by decide, cl_40, ca_UnsupportedOperationException, by decide, rfl⟩
theorem hd_L_standsAt_2 : am_HD RL (am_hh M_L_standsAt) 3 "java/util/NoSuchElementException" 18 := ⟨[(0, 7, 8, 46), (0, 7, 13, 40)], (0, 7, 18, 35), [], rfl, List.forall_mem_cons.mpr ⟨⟨by decide, "java/lang/IndexOutOfBoundsException", cl_46, by decide, by decide⟩, List.forall_mem_cons.mpr ⟨⟨by decide, "java/lang/UnsupportedOperationException", cl_40, by decide, by decide⟩, fun _ h9 => absurd h9 List.not_mem_nil⟩⟩, by decide, by decide, by decide, cl_35, ca_NoSuchElementException, by decide, rfl⟩
theorem hd_L_tail_0 : am_HD RL (am_hh M_L_tail) 3 "java/lang/IndexOutOfBoundsException" 8 := ⟨[], (0, 7, 8, 46), [(0, 7, 13, 40), (0, 7, 18, 17)], rfl, fun _ h9 => absurd h9 List.not_mem_nil, by decide, by decide, by decide, cl_46, ca_IndexOutOfBoundsException, by decide, rfl⟩
theorem hd_L_tail_1 : am_HD RL (am_hh M_L_tail) 3 "java/lang/UnsupportedOperationException" 13 := ⟨[(0, 7, 8, 46)], (0, 7, 13, 40), [(0, 7, 18, 17)], rfl, List.forall_mem_cons.mpr ⟨⟨by decide, "java/lang/IndexOutOfBoundsException", cl_46, by decide, by decide⟩, fun _ h9 => absurd h9 List.not_mem_nil⟩, by decide, by decide, by decide, cl_40, ca_UnsupportedOperationException, by decide, rfl⟩
theorem hd_L_tail_2 : am_HD RL (am_hh M_L_tail) 3 "java/lang/IllegalArgumentException" 18 := ⟨[(0, 7, 8, 46), (0, 7, 13, 40)], (0, 7, 18, 17), [], rfl, List.forall_mem_cons.mpr ⟨⟨by decide, "java/lang/IndexOutOfBoundsException", cl_46, by decide, by decide⟩, List.forall_mem_cons.mpr ⟨⟨by decide, "java/lang/UnsupportedOperationException", cl_40, by decide, by decide⟩, fun _ h9 => absurd h9 List.not_mem_nil⟩⟩, by decide, by decide, by decide, cl_17, ca_IllegalArgumentException, by decide, rfl⟩
theorem hd_L_words_0 : am_HD RL (am_hh M_L_words) 2 "java/lang/IndexOutOfBoundsException" 6 := ⟨[], (0, 5, 6, 46), [], rfl, fun _ h9 => absurd h9 List.not_mem_nil, by decide, by decide, by decide, cl_46, ca_IndexOutOfBoundsException, by decide, rfl⟩
theorem hd_L_word_0 : am_HD RL (am_hh M_L_word) 3 "java/lang/IndexOutOfBoundsException" 8 := ⟨[], (0, 7, 8, 46), [(0, 7, 13, 35)], rfl, fun _ h9 => absurd h9 List.not_mem_nil, by decide, by decide, by decide, cl_46, ca_IndexOutOfBoundsException, by decide, rfl⟩
theorem hd_L_word_1 : am_HD RL (am_hh M_L_word) 3 "java/util/NoSuchElementException" 13 := ⟨[(0, 7, 8, 46)], (0, 7, 13, 35), [], rfl, List.forall_mem_cons.mpr ⟨⟨by decide, "java/lang/IndexOutOfBoundsException", cl_46, by decide, by decide⟩, fun _ h9 => absurd h9 List.not_mem_nil⟩, by decide, by decide, by decide, cl_35, ca_NoSuchElementException, by decide, rfl⟩
theorem hd_L_numberOf_0 : am_HD RL (am_hh M_L_numberOf) 2 "java/lang/IndexOutOfBoundsException" 7 := ⟨[], (0, 6, 7, 46), [(0, 6, 12, 40), (0, 6, 17, 35)], rfl, fun _ h9 => absurd h9 List.not_mem_nil, by decide, by decide, by decide, cl_46, ca_IndexOutOfBoundsException, by decide, rfl⟩
theorem hd_L_numberOf_1 : am_HD RL (am_hh M_L_numberOf) 2 "java/lang/UnsupportedOperationException" 12 := ⟨[(0, 6, 7, 46)], (0, 6, 12, 40), [(0, 6, 17, 35)], rfl, List.forall_mem_cons.mpr ⟨⟨by decide, "java/lang/IndexOutOfBoundsException", cl_46, by decide, by decide⟩, fun _ h9 => absurd h9 List.not_mem_nil⟩, by decide, by decide, by decide, cl_40, ca_UnsupportedOperationException, by decide, rfl⟩
theorem hd_L_numberOf_2 : am_HD RL (am_hh M_L_numberOf) 2 "java/util/NoSuchElementException" 17 := ⟨[(0, 6, 7, 46), (0, 6, 12, 40)], (0, 6, 17, 35), [], rfl, List.forall_mem_cons.mpr ⟨⟨by decide, "java/lang/IndexOutOfBoundsException", cl_46, by decide, by decide⟩, List.forall_mem_cons.mpr ⟨⟨by decide, "java/lang/UnsupportedOperationException", cl_40, by decide, by decide⟩, fun _ h9 => absurd h9 List.not_mem_nil⟩⟩, by decide, by decide, by decide, cl_35, ca_NoSuchElementException, by decide, rfl⟩
theorem hd_L_twice_0 : am_HD RL (am_hh M_L_twice) 2 "java/lang/IndexOutOfBoundsException" 7 := ⟨[], (0, 6, 7, 46), [], rfl, fun _ h9 => absurd h9 List.not_mem_nil, by decide, by decide, by decide, cl_46, ca_IndexOutOfBoundsException, by decide, rfl⟩
theorem hd_L_twiceAt_0 : am_HD RL (am_hh M_L_twiceAt) 2 "java/lang/IndexOutOfBoundsException" 7 := ⟨[], (0, 6, 7, 46), [(0, 6, 12, 35)], rfl, fun _ h9 => absurd h9 List.not_mem_nil, by decide, by decide, by decide, cl_46, ca_IndexOutOfBoundsException, by decide, rfl⟩
theorem hd_L_twiceAt_1 : am_HD RL (am_hh M_L_twiceAt) 2 "java/util/NoSuchElementException" 12 := ⟨[(0, 6, 7, 46)], (0, 6, 12, 35), [], rfl, List.forall_mem_cons.mpr ⟨⟨by decide, "java/lang/IndexOutOfBoundsException", cl_46, by decide, by decide⟩, fun _ h9 => absurd h9 List.not_mem_nil⟩, by decide, by decide, by decide, cl_35, ca_NoSuchElementException, by decide, rfl⟩
theorem hd_L_first_0 : am_HD RL (am_hh M_L_first) 3 "java/lang/IndexOutOfBoundsException" 8 := ⟨[], (0, 7, 8, 46), [], rfl, fun _ h9 => absurd h9 List.not_mem_nil, by decide, by decide, by decide, cl_46, ca_IndexOutOfBoundsException, by decide, rfl⟩
theorem hd_L_last_0 : am_HD RL (am_hh M_L_last) 3 "java/lang/IndexOutOfBoundsException" 8 := ⟨[], (0, 7, 8, 46), [], rfl, fun _ h9 => absurd h9 List.not_mem_nil, by decide, by decide, by decide, cl_46, ca_IndexOutOfBoundsException, by decide, rfl⟩
theorem hd_L_back_0 : am_HD RL (am_hh M_L_back) 3 "java/lang/IndexOutOfBoundsException" 8 := ⟨[], (0, 7, 8, 46), [], rfl, fun _ h9 => absurd h9 List.not_mem_nil, by decide, by decide, by decide, cl_46, ca_IndexOutOfBoundsException, by decide, rfl⟩
theorem hd_L_column_0 : am_HD RL (am_hh M_L_column) 2 "java/lang/IndexOutOfBoundsException" 7 := ⟨[], (0, 6, 7, 46), [], rfl, fun _ h9 => absurd h9 List.not_mem_nil, by decide, by decide, by decide, cl_46, ca_IndexOutOfBoundsException, by decide, rfl⟩
theorem hd_L_undo_0 : am_HD RL (am_hh M_L_undo) 1 "java/lang/UnsupportedOperationException" 6 := ⟨[], (0, 5, 6, 40), [(0, 5, 11, 23)], rfl, fun _ h9 => absurd h9 List.not_mem_nil, by decide, by decide, by decide, cl_40, ca_UnsupportedOperationException, by decide, rfl⟩
theorem hd_L_undo_1 : am_HD RL (am_hh M_L_undo) 1 "java/lang/IllegalStateException" 11 := ⟨[(0, 5, 6, 40)], (0, 5, 11, 23), [], rfl, List.forall_mem_cons.mpr ⟨⟨by decide, "java/lang/UnsupportedOperationException", cl_40, by decide, by decide⟩, fun _ h9 => absurd h9 List.not_mem_nil⟩, by decide, by decide, by decide, cl_23, ca_IllegalStateException, by decide, rfl⟩
theorem hd_L_squares_0 : am_HD RL (am_hh M_L_squares) 2 "java/lang/IndexOutOfBoundsException" 7 := ⟨[], (0, 6, 7, 46), [], rfl, fun _ h9 => absurd h9 List.not_mem_nil, by decide, by decide, by decide, cl_46, ca_IndexOutOfBoundsException, by decide, rfl⟩
theorem hd_L_period_0 : am_HD RL (am_hh M_L_period) 2 "java/lang/IndexOutOfBoundsException" 7 := ⟨[], (0, 6, 7, 46), [(0, 6, 12, 35)], rfl, fun _ h9 => absurd h9 List.not_mem_nil, by decide, by decide, by decide, cl_46, ca_IndexOutOfBoundsException, by decide, rfl⟩
theorem hd_L_period_1 : am_HD RL (am_hh M_L_period) 2 "java/util/NoSuchElementException" 12 := ⟨[(0, 6, 7, 46)], (0, 6, 12, 35), [], rfl, List.forall_mem_cons.mpr ⟨⟨by decide, "java/lang/IndexOutOfBoundsException", cl_46, by decide, by decide⟩, fun _ h9 => absurd h9 List.not_mem_nil⟩, by decide, by decide, by decide, cl_35, ca_NoSuchElementException, by decide, rfl⟩
theorem hd_L_parts_0 : am_HD RL (am_hh M_L_parts) 2 "java/lang/IndexOutOfBoundsException" 7 := ⟨[], (0, 6, 7, 46), [], rfl, fun _ h9 => absurd h9 List.not_mem_nil, by decide, by decide, by decide, cl_46, ca_IndexOutOfBoundsException, by decide, rfl⟩
theorem hd_L_partAt_0 : am_HD RL (am_hh M_L_partAt) 3 "java/lang/IndexOutOfBoundsException" 8 := ⟨[], (0, 7, 8, 46), [], rfl, fun _ h9 => absurd h9 List.not_mem_nil, by decide, by decide, by decide, cl_46, ca_IndexOutOfBoundsException, by decide, rfl⟩
theorem hd_L_pieces_0 : am_HD RL (am_hh M_L_pieces) 2 "java/lang/IndexOutOfBoundsException" 7 := ⟨[], (0, 6, 7, 46), [], rfl, fun _ h9 => absurd h9 List.not_mem_nil, by decide, by decide, by decide, cl_46, ca_IndexOutOfBoundsException, by decide, rfl⟩
theorem hd_L_fewest_0 : am_HD RL (am_hh M_L_fewest) 2 "java/lang/IndexOutOfBoundsException" 7 := ⟨[], (0, 6, 7, 46), [], rfl, fun _ h9 => absurd h9 List.not_mem_nil, by decide, by decide, by decide, cl_46, ca_IndexOutOfBoundsException, by decide, rfl⟩
