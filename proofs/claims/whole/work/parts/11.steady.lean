def am_L0 : List (Nat × Nat) := [(18, 10), (4, 8), (16, 2), (1, 65), (1, 8), (10, 3), (0, 65), (0, 64), (0, 64), (15, 5), (1, 64), (1, 65), (0, 65), (0, 28), (1, 27), (13, 3), (5, 8), (0, 64), (0, 64), (0, 64), (0, 64), (0, 64), (0, 64), (0, 64), (0, 64), (17, 5), (1, 2081), (0, 2081), (0, 2081), (12, 0), (11, 1), (0, 65), (14, 5), (1, 64), (0, 64), (0, 64), (0, 64), (14, 5), (1, 64), (0, 64), (0, 64), (0, 64), (14, 5), (1, 64), (0, 64), (0, 64), (0, 64), (14, 5), (1, 64), (0, 64), (0, 64), (0, 64), (14, 5), (1, 64), (0, 64), (0, 64), (0, 64), (14, 5), (1, 64), (0, 64), (0, 64), (0, 64), (14, 5), (1, 64), (0, 64), (0, 64), (0, 64), (14, 5), (1, 64), (0, 64), (0, 64), (0, 64), (19, 11), (1, 576), (0, 9), (1, 65), (0, 64), (0, 65), (0, 64), (0, 65), (1, 27), (2, 1), (3, 1)]
def am_rt9 (a : Nat) : List Nat := match a with
  | 0 => [1, 2, 4, 5, 9, 15, 25, 29, 30]
  | 1 => [32, 37, 42, 47, 52, 57, 62, 67]
  | 2 => [3]
  | 5 => [6, 7, 8]
  | 9 => [10, 11, 12, 13, 14]
  | 15 => [16]
  | 16 => [17, 18, 19, 20, 21, 22, 23, 24]
  | 25 => [26, 27, 28]
  | 30 => [31]
  | 72 => [73, 74, 75, 76, 77, 78, 79, 80]
  | _ => []
def am_r0 (a : Nat) (j : Int) : Option Nat := cond (Nat.ble 32 a && Nat.ble a 71) (cond (Nat.ble j.toNat 3) (some (a + 1 + j.toNat)) none) (am_rt9 a)[j.toNat]?
def am_R0 : Rho := (am_L0, am_r0, false)
/-- the number of one of the eight texts -/
def isT (a : Nat) : Prop := ∃ i : Nat, i < 8 ∧ a = 32 + 5 * i
theorem isT_cases {P : Nat → Prop} (h : P 32 ∧ P 37 ∧ P 42 ∧ P 47 ∧ P 52 ∧ P 57 ∧ P 62 ∧ P 67) {a : Nat} (t : isT a) : P a := by
  obtain ⟨i, hi, rfl⟩ := t
  obtain ⟨h0, h1, h2, h3, h4, h5, h6, h7⟩ := h
  match i, hi with
  | 0, _ => exact h0
  | 1, _ => exact h1
  | 2, _ => exact h2
  | 3, _ => exact h3
  | 4, _ => exact h4
  | 5, _ => exact h5
  | 6, _ => exact h6
  | 7, _ => exact h7
theorem tk0 {a : Nat} (t : isT a) : am_R0.1[a]? = some (14, 5) := isT_cases (P := fun a => am_R0.1[a]? = some (14, 5)) ⟨rfl, rfl, rfl, rfl, rfl, rfl, rfl, rfl⟩ t
theorem tk1 {a : Nat} (t : isT a) : am_R0.1[a + 1]? = some (1, 64) := isT_cases (P := fun a => am_R0.1[a + 1]? = some (1, 64)) ⟨rfl, rfl, rfl, rfl, rfl, rfl, rfl, rfl⟩ t
theorem tk2 {a : Nat} (t : isT a) : am_R0.1[a + 2]? = some (0, 64) := isT_cases (P := fun a => am_R0.1[a + 2]? = some (0, 64)) ⟨rfl, rfl, rfl, rfl, rfl, rfl, rfl, rfl⟩ t
theorem tk3 {a : Nat} (t : isT a) : am_R0.1[a + 3]? = some (0, 64) := isT_cases (P := fun a => am_R0.1[a + 3]? = some (0, 64)) ⟨rfl, rfl, rfl, rfl, rfl, rfl, rfl, rfl⟩ t
theorem tk4 {a : Nat} (t : isT a) : am_R0.1[a + 4]? = some (0, 64) := isT_cases (P := fun a => am_R0.1[a + 4]? = some (0, 64)) ⟨rfl, rfl, rfl, rfl, rfl, rfl, rfl, rfl⟩ t
theorem tr0 {a : Nat} (t : isT a) : am_R0.2.1 a ((0 : Nat) : Int) = some (a + 1) := isT_cases (P := fun a => am_R0.2.1 a ((0 : Nat) : Int) = some (a + 1)) ⟨rfl, rfl, rfl, rfl, rfl, rfl, rfl, rfl⟩ t
theorem tr1 {a : Nat} (t : isT a) : am_R0.2.1 a ((1 : Nat) : Int) = some (a + 2) := isT_cases (P := fun a => am_R0.2.1 a ((1 : Nat) : Int) = some (a + 2)) ⟨rfl, rfl, rfl, rfl, rfl, rfl, rfl, rfl⟩ t
theorem tr2 {a : Nat} (t : isT a) : am_R0.2.1 a ((2 : Nat) : Int) = some (a + 3) := isT_cases (P := fun a => am_R0.2.1 a ((2 : Nat) : Int) = some (a + 3)) ⟨rfl, rfl, rfl, rfl, rfl, rfl, rfl, rfl⟩ t
theorem tr3 {a : Nat} (t : isT a) : am_R0.2.1 a ((3 : Nat) : Int) = some (a + 4) := isT_cases (P := fun a => am_R0.2.1 a ((3 : Nat) : Int) = some (a + 4)) ⟨rfl, rfl, rfl, rfl, rfl, rfl, rfl, rfl⟩ t
theorem isT_of {i : Int} (h0 : 0 ≤ i) (h1 : i < 8) : isT (32 + 5 * i.toNat) := ⟨i.toNat, by omega, rfl⟩
theorem am_8 {P : Int → Prop} (h : P 0 ∧ P 1 ∧ P 2 ∧ P 3 ∧ P 4 ∧ P 5 ∧ P 6 ∧ P 7) {i : Int} (h0 : 0 ≤ i) (h1 : i < 8) : P i := by
  obtain ⟨p0, p1, p2, p3, p4, p5, p6, p7⟩ := h
  rcases (by omega : i = 0 ∨ i = 1 ∨ i = 2 ∨ i = 3 ∨ i = 4 ∨ i = 5 ∨ i = 6 ∨ i = 7) with rfl | rfl | rfl | rfl | rfl | rfl | rfl | rfl <;> assumption
theorem r_shelf {i : Int} (h0 : 0 ≤ i) (h1 : i < 8) : am_R0.2.1 1 i = some (32 + 5 * i.toNat) := am_8 (P := fun i => am_R0.2.1 1 i = some (32 + 5 * i.toNat)) ⟨rfl, rfl, rfl, rfl, rfl, rfl, rfl, rfl⟩ h0 h1
theorem r_reach {i : Int} (h0 : 0 ≤ i) (h1 : i < 8) : am_R0.2.1 16 i = some (17 + i.toNat) := am_8 (P := fun i => am_R0.2.1 16 i = some (17 + i.toNat)) ⟨rfl, rfl, rfl, rfl, rfl, rfl, rfl, rfl⟩ h0 h1
theorem k_reach {i : Int} (h0 : 0 ≤ i) (h1 : i < 8) : am_R0.1[17 + i.toNat]? = some (0, 64) := am_8 (P := fun i => am_R0.1[17 + i.toNat]? = some (0, 64)) ⟨rfl, rfl, rfl, rfl, rfl, rfl, rfl, rfl⟩ h0 h1
theorem am_Wmono {p : Program} {l : Launch} {e : Env} {R : Room} {s : State} {m : MethodId} {args : Array Value} {below : List Frame} {meth : Method} {c : Code} {H : Heap} {locs : List Loc} {cells slots : Nat} {Z Z' : State → Prop} {g : JFrame} (hz : ∀ t, Z t → Z' t) (k : W p l e R s m args below meth c H locs cells slots Z g) : W p l e R s m args below meth c H locs cells slots Z' g := by
  intro T hT X
  obtain ⟨t, a, b⟩ := k T hT X
  exact ⟨t, a, hz t b⟩
/-- weaker ends -/
theorem v_mono {m : MInfo} {kc ks pc : Nat} {E st : List AV} {ρ : Rho} {h : Hh} {Q Q' : PQ} {X X' : PX} (k : am_V m kc ks pc E st ρ h Q X) (hQ : ∀ v ρ h, Q v ρ h → Q' v ρ h) (hX : ∀ E ρ h, X E ρ h → X' E ρ h) : am_V m kc ks pc E st ρ h Q' X' := by
  intro l p e R s q args below meth c D cA B b g0 g1 Z H locs cells slots ls hC hZ hR hL hS hF hc hs
  rcases hZ with ⟨z1, rfl⟩ | ⟨z1, z2, z3⟩
  · refine am_Wmono (fun t ht => ?_) (k l p e R s q args below meth c D cA B b g0 g1 _ H locs cells slots ls hC (Or.inl ⟨z1, rfl⟩) hR hL hS hF hc hs)
    obtain ⟨o, h1, h2, h3⟩ := ht
    refine ⟨o, h1, h2, ?_⟩
    rcases h3 with ⟨⟨v, ρ9, h9, q1, q2, q3, q4⟩, q5⟩ | ⟨a9, q1, E9, ce, L9, ⟨ρ9, h9, q2, q3⟩, q4⟩
    · exact Or.inl ⟨⟨v, ρ9, h9, q1, q2, hQ _ _ _ q3, q4⟩, q5⟩
    · exact Or.inr ⟨a9, q1, E9, ce, L9, ⟨ρ9, h9, hX _ _ _ q2, q3⟩, q4⟩
  · exact k l p e R s q args below meth c D cA B b g0 g1 Z H locs cells slots ls hC (Or.inr ⟨z1, fun E9 ρ9 h9 y => z2 E9 ρ9 h9 (hX _ _ _ y), fun v ρ9 h9 pc9 H9 locs9 c9 s9 ls9 y => z3 v ρ9 h9 pc9 H9 locs9 c9 s9 ls9 (hQ _ _ _ y)⟩) hR hL hS hF hc hs
theorem pn_X0_init : (parseMethodDescriptor (am_y M_X0_init).desc).map (fun d => d.parameters.length) = some 0 := by decide +kernel
theorem pn_X0_allCuts_2 : (parseMethodDescriptor (am_y M_X0_allCuts_2).desc).map (fun d => d.parameters.length) = some 1 := by decide +kernel
theorem pn_X0_allCuts_3 : (parseMethodDescriptor (am_y M_X0_allCuts_3).desc).map (fun d => d.parameters.length) = some 1 := by decide +kernel
theorem pn_X0_startOf_2 : (parseMethodDescriptor (am_y M_X0_startOf_2).desc).map (fun d => d.parameters.length) = some 2 := by decide +kernel
theorem pn_X0_startOf_3 : (parseMethodDescriptor (am_y M_X0_startOf_3).desc).map (fun d => d.parameters.length) = some 2 := by decide +kernel
theorem pn_X1_init : (parseMethodDescriptor (am_y M_X1_init).desc).map (fun d => d.parameters.length) = some 0 := by decide +kernel
theorem pn_X1_sortEnds : (parseMethodDescriptor (am_y M_X1_sortEnds).desc).map (fun d => d.parameters.length) = some 1 := by decide +kernel
theorem pn_X1_listBySecondHalf : (parseMethodDescriptor (am_y M_X1_listBySecondHalf).desc).map (fun d => d.parameters.length) = some 2 := by decide +kernel
theorem pn_X1_orderByClass : (parseMethodDescriptor (am_y M_X1_orderByClass).desc).map (fun d => d.parameters.length) = some 1 := by decide +kernel
theorem pn_X1_numberClasses : (parseMethodDescriptor (am_y M_X1_numberClasses).desc).map (fun d => d.parameters.length) = some 2 := by decide +kernel
theorem pn_X1_areAlike : (parseMethodDescriptor (am_y M_X1_areAlike).desc).map (fun d => d.parameters.length) = some 4 := by decide +kernel
theorem pn_X1_classBehind : (parseMethodDescriptor (am_y M_X1_classBehind).desc).map (fun d => d.parameters.length) = some 2 := by decide +kernel
theorem pn_X1_tellCommons : (parseMethodDescriptor (am_y M_X1_tellCommons).desc).map (fun d => d.parameters.length) = some 1 := by decide +kernel
theorem pn_X2_init : (parseMethodDescriptor (am_y M_X2_init).desc).map (fun d => d.parameters.length) = some 0 := by decide +kernel
theorem pn_X2_sizeFrom : (parseMethodDescriptor (am_y M_X2_sizeFrom).desc).map (fun d => d.parameters.length) = some 2 := by decide +kernel
theorem pn_X2_commonWithLowerAhead : (parseMethodDescriptor (am_y M_X2_commonWithLowerAhead).desc).map (fun d => d.parameters.length) = some 2 := by decide +kernel
theorem pn_X2_commonWithUpperAhead : (parseMethodDescriptor (am_y M_X2_commonWithUpperAhead).desc).map (fun d => d.parameters.length) = some 2 := by decide +kernel
theorem pn_X2_fewestWords : (parseMethodDescriptor (am_y M_X2_fewestWords).desc).map (fun d => d.parameters.length) = some 1 := by decide +kernel
theorem pn_X3_init : (parseMethodDescriptor (am_y M_X3_init).desc).map (fun d => d.parameters.length) = some 0 := by decide +kernel
theorem pn_X3_sizeFrom : (parseMethodDescriptor (am_y M_X3_sizeFrom).desc).map (fun d => d.parameters.length) = some 2 := by decide +kernel
theorem pn_X3_agreesWith : (parseMethodDescriptor (am_y M_X3_agreesWith).desc).map (fun d => d.parameters.length) = some 1 := by decide +kernel
theorem pn_X4_allSquares : (parseMethodDescriptor (am_y M_X4_allSquares).desc).map (fun d => d.parameters.length) = some 1 := by decide +kernel
theorem pn_X4_leastSquare : (parseMethodDescriptor (am_y M_X4_leastSquare).desc).map (fun d => d.parameters.length) = some 2 := by decide +kernel
theorem pn_X4_leastPeriod : (parseMethodDescriptor (am_y M_X4_leastPeriod).desc).map (fun d => d.parameters.length) = some 1 := by decide +kernel
theorem pn_X4_leastTurn : (parseMethodDescriptor (am_y M_X4_leastTurn).desc).map (fun d => d.parameters.length) = some 1 := by decide +kernel
theorem pn_X4_isTurnLess : (parseMethodDescriptor (am_y M_X4_isTurnLess).desc).map (fun d => d.parameters.length) = some 3 := by decide +kernel
theorem pn_X4_roundSign : (parseMethodDescriptor (am_y M_X4_roundSign).desc).map (fun d => d.parameters.length) = some 2 := by decide +kernel
theorem pn_X5_init : (parseMethodDescriptor (am_y M_X5_init).desc).map (fun d => d.parameters.length) = some 0 := by decide +kernel
theorem pn_X5_search : (parseMethodDescriptor (am_y M_X5_search).desc).map (fun d => d.parameters.length) = some 3 := by decide +kernel
theorem pn_X5_tellReach : (parseMethodDescriptor (am_y M_X5_tellReach).desc).map (fun d => d.parameters.length) = some 3 := by decide +kernel
theorem pn_X5_moreLike : (parseMethodDescriptor (am_y M_X5_moreLike).desc).map (fun d => d.parameters.length) = some 5 := by decide +kernel
theorem pn_X5_reachedInMany : (parseMethodDescriptor (am_y M_X5_reachedInMany).desc).map (fun d => d.parameters.length) = some 3 := by decide +kernel
theorem pn_X5_isBetter : (parseMethodDescriptor (am_y M_X5_isBetter).desc).map (fun d => d.parameters.length) = some 4 := by decide +kernel
theorem pn_X6_init : (parseMethodDescriptor (am_y M_X6_init).desc).map (fun d => d.parameters.length) = some 0 := by decide +kernel
theorem pn_X6_add : (parseMethodDescriptor (am_y M_X6_add).desc).map (fun d => d.parameters.length) = some 2 := by decide +kernel
theorem pn_X6_addTurnedRound : (parseMethodDescriptor (am_y M_X6_addTurnedRound).desc).map (fun d => d.parameters.length) = some 1 := by decide +kernel
theorem pn_X6_putAhead : (parseMethodDescriptor (am_y M_X6_putAhead).desc).map (fun d => d.parameters.length) = some 1 := by decide +kernel
theorem pn_X6_dropFirst : (parseMethodDescriptor (am_y M_X6_dropFirst).desc).map (fun d => d.parameters.length) = some 0 := by decide +kernel
theorem pn_X6_endsAboveWhole : (parseMethodDescriptor (am_y M_X6_endsAboveWhole).desc).map (fun d => d.parameters.length) = some 0 := by decide +kernel
theorem pn_X6_likeSigns : (parseMethodDescriptor (am_y M_X6_likeSigns).desc).map (fun d => d.parameters.length) = some 3 := by decide +kernel
theorem pn_X6_isEndLess : (parseMethodDescriptor (am_y M_X6_isEndLess).desc).map (fun d => d.parameters.length) = some 3 := by decide +kernel
theorem pn_X6_unlikeBeginnings : (parseMethodDescriptor (am_y M_X6_unlikeBeginnings).desc).map (fun d => d.parameters.length) = some 2 := by decide +kernel
theorem pn_X6_greatestCommon : (parseMethodDescriptor (am_y M_X6_greatestCommon).desc).map (fun d => d.parameters.length) = some 0 := by decide +kernel
theorem pn_X6_againstWord : (parseMethodDescriptor (am_y M_X6_againstWord).desc).map (fun d => d.parameters.length) = some 3 := by decide +kernel
theorem pn_X6_endsBelow : (parseMethodDescriptor (am_y M_X6_endsBelow).desc).map (fun d => d.parameters.length) = some 2 := by decide +kernel
theorem pn_X6_endsUpTo : (parseMethodDescriptor (am_y M_X6_endsUpTo).desc).map (fun d => d.parameters.length) = some 2 := by decide +kernel
theorem pn_X6_endsUnder : (parseMethodDescriptor (am_y M_X6_endsUnder).desc).map (fun d => d.parameters.length) = some 3 := by decide +kernel
theorem pn_X6_risingPlace : (parseMethodDescriptor (am_y M_X6_risingPlace).desc).map (fun d => d.parameters.length) = some 3 := by decide +kernel
theorem pn_X6_newWordsBelow : (parseMethodDescriptor (am_y M_X6_newWordsBelow).desc).map (fun d => d.parameters.length) = some 1 := by decide +kernel
theorem pn_X6_rankBringing : (parseMethodDescriptor (am_y M_X6_rankBringing).desc).map (fun d => d.parameters.length) = some 1 := by decide +kernel
theorem pn_X6_firstPlaceOfLongestTwice : (parseMethodDescriptor (am_y M_X6_firstPlaceOfLongestTwice).desc).map (fun d => d.parameters.length) = some 0 := by decide +kernel
theorem pn_X6_signsToBeAlone : (parseMethodDescriptor (am_y M_X6_signsToBeAlone).desc).map (fun d => d.parameters.length) = some 1 := by decide +kernel
theorem pn_X6_shortestAlone : (parseMethodDescriptor (am_y M_X6_shortestAlone).desc).map (fun d => d.parameters.length) = some 0 := by decide +kernel
theorem pn_X6_firstPlaceOfShortestAlone : (parseMethodDescriptor (am_y M_X6_firstPlaceOfShortestAlone).desc).map (fun d => d.parameters.length) = some 0 := by decide +kernel
theorem pn_X6_placeOfRow : (parseMethodDescriptor (am_y M_X6_placeOfRow).desc).map (fun d => d.parameters.length) = some 1 := by decide +kernel
theorem pn_X6_firstSign : (parseMethodDescriptor (am_y M_X6_firstSign).desc).map (fun d => d.parameters.length) = some 1 := by decide +kernel
theorem pn_X6_lastSign : (parseMethodDescriptor (am_y M_X6_lastSign).desc).map (fun d => d.parameters.length) = some 1 := by decide +kernel
theorem pn_X6_rowAhead : (parseMethodDescriptor (am_y M_X6_rowAhead).desc).map (fun d => d.parameters.length) = some 1 := by decide +kernel
theorem pn_X6_firstAhead : (parseMethodDescriptor (am_y M_X6_firstAhead).desc).map (fun d => d.parameters.length) = some 2 := by decide +kernel
theorem pn_X7_init : (parseMethodDescriptor (am_y M_X7_init).desc).map (fun d => d.parameters.length) = some 0 := by decide +kernel
theorem pn_X7_indexOfSign : (parseMethodDescriptor (am_y M_X7_indexOfSign).desc).map (fun d => d.parameters.length) = some 1 := by decide +kernel
theorem pn_X7_moveOfRow : (parseMethodDescriptor (am_y M_X7_moveOfRow).desc).map (fun d => d.parameters.length) = some 2 := by decide +kernel
theorem pn_X7_moveToFront : (parseMethodDescriptor (am_y M_X7_moveToFront).desc).map (fun d => d.parameters.length) = some 1 := by decide +kernel
theorem pn_X7_turnBack : (parseMethodDescriptor (am_y M_X7_turnBack).desc).map (fun d => d.parameters.length) = some 2 := by decide +kernel
theorem pn_X7_endSigns : (parseMethodDescriptor (am_y M_X7_endSigns).desc).map (fun d => d.parameters.length) = some 2 := by decide +kernel
theorem pn_X7_tellRowsAhead : (parseMethodDescriptor (am_y M_X7_tellRowsAhead).desc).map (fun d => d.parameters.length) = some 2 := by decide +kernel
theorem pn_X7_comesBack : (parseMethodDescriptor (am_y M_X7_comesBack).desc).map (fun d => d.parameters.length) = some 1 := by decide +kernel
theorem pn_X8_init : (parseMethodDescriptor (am_y M_X8_init).desc).map (fun d => d.parameters.length) = some 0 := by decide +kernel
theorem pn_X8_put : (parseMethodDescriptor (am_y M_X8_put).desc).map (fun d => d.parameters.length) = some 1 := by decide +kernel
theorem pn_X8_hold : (parseMethodDescriptor (am_y M_X8_hold).desc).map (fun d => d.parameters.length) = some 3 := by decide +kernel
theorem pn_X8_hasEndSign : (parseMethodDescriptor (am_y M_X8_hasEndSign).desc).map (fun d => d.parameters.length) = some 0 := by decide +kernel
theorem pn_X9_init : (parseMethodDescriptor (am_y M_X9_init).desc).map (fun d => d.parameters.length) = some 0 := by decide +kernel
theorem pn_X9_agreesWith : (parseMethodDescriptor (am_y M_X9_agreesWith).desc).map (fun d => d.parameters.length) = some 1 := by decide +kernel
theorem pn_X9_listWords : (parseMethodDescriptor (am_y M_X9_listWords).desc).map (fun d => d.parameters.length) = some 1 := by decide +kernel
theorem pn_X9_nodeBelow : (parseMethodDescriptor (am_y M_X9_nodeBelow).desc).map (fun d => d.parameters.length) = some 2 := by decide +kernel
theorem pn_X9_addBelow : (parseMethodDescriptor (am_y M_X9_addBelow).desc).map (fun d => d.parameters.length) = some 2 := by decide +kernel
theorem pn_X10_init : (parseMethodDescriptor (am_y M_X10_init).desc).map (fun d => d.parameters.length) = some 0 := by decide +kernel
theorem pn_X10_type : (parseMethodDescriptor (am_y M_X10_type).desc).map (fun d => d.parameters.length) = some 1 := by decide +kernel
theorem pn_X10_typeMore : (parseMethodDescriptor (am_y M_X10_typeMore).desc).map (fun d => d.parameters.length) = some 9 := by decide +kernel
theorem pn_X10_wipe : (parseMethodDescriptor (am_y M_X10_wipe).desc).map (fun d => d.parameters.length) = some 0 := by decide +kernel
theorem pn_X10_typed : (parseMethodDescriptor (am_y M_X10_typed).desc).map (fun d => d.parameters.length) = some 1 := by decide +kernel
theorem pn_X10_text : (parseMethodDescriptor (am_y M_X10_text).desc).map (fun d => d.parameters.length) = some 0 := by decide +kernel
theorem pn_X10_take : (parseMethodDescriptor (am_y M_X10_take).desc).map (fun d => d.parameters.length) = some 1 := by decide +kernel
theorem pn_X10_length : (parseMethodDescriptor (am_y M_X10_length).desc).map (fun d => d.parameters.length) = some 1 := by decide +kernel
theorem pn_X10_signAt : (parseMethodDescriptor (am_y M_X10_signAt).desc).map (fun d => d.parameters.length) = some 2 := by decide +kernel
theorem pn_X10_join : (parseMethodDescriptor (am_y M_X10_join).desc).map (fun d => d.parameters.length) = some 2 := by decide +kernel
theorem pn_X10_mirror : (parseMethodDescriptor (am_y M_X10_mirror).desc).map (fun d => d.parameters.length) = some 1 := by decide +kernel
theorem pn_X10_change : (parseMethodDescriptor (am_y M_X10_change).desc).map (fun d => d.parameters.length) = some 3 := by decide +kernel
theorem pn_X10_ahead : (parseMethodDescriptor (am_y M_X10_ahead).desc).map (fun d => d.parameters.length) = some 2 := by decide +kernel
theorem pn_X10_chop : (parseMethodDescriptor (am_y M_X10_chop).desc).map (fun d => d.parameters.length) = some 1 := by decide +kernel
theorem pn_X10_endAt : (parseMethodDescriptor (am_y M_X10_endAt).desc).map (fun d => d.parameters.length) = some 2 := by decide +kernel
theorem pn_X10_rankOf : (parseMethodDescriptor (am_y M_X10_rankOf).desc).map (fun d => d.parameters.length) = some 2 := by decide +kernel
theorem pn_X10_classOf : (parseMethodDescriptor (am_y M_X10_classOf).desc).map (fun d => d.parameters.length) = some 3 := by decide +kernel
theorem pn_X10_classes : (parseMethodDescriptor (am_y M_X10_classes).desc).map (fun d => d.parameters.length) = some 2 := by decide +kernel
theorem pn_X10_rounds : (parseMethodDescriptor (am_y M_X10_rounds).desc).map (fun d => d.parameters.length) = some 1 := by decide +kernel
theorem pn_X10_common : (parseMethodDescriptor (am_y M_X10_common).desc).map (fun d => d.parameters.length) = some 2 := by decide +kernel
theorem pn_X10_shared : (parseMethodDescriptor (am_y M_X10_shared).desc).map (fun d => d.parameters.length) = some 4 := by decide +kernel
theorem pn_X10_count : (parseMethodDescriptor (am_y M_X10_count).desc).map (fun d => d.parameters.length) = some 1 := by decide +kernel
theorem pn_X10_runFrom : (parseMethodDescriptor (am_y M_X10_runFrom).desc).map (fun d => d.parameters.length) = some 1 := by decide +kernel
theorem pn_X10_standsAt : (parseMethodDescriptor (am_y M_X10_standsAt).desc).map (fun d => d.parameters.length) = some 2 := by decide +kernel
theorem pn_X10_tail : (parseMethodDescriptor (am_y M_X10_tail).desc).map (fun d => d.parameters.length) = some 2 := by decide +kernel
theorem pn_X10_words : (parseMethodDescriptor (am_y M_X10_words).desc).map (fun d => d.parameters.length) = some 1 := by decide +kernel
theorem pn_X10_word : (parseMethodDescriptor (am_y M_X10_word).desc).map (fun d => d.parameters.length) = some 2 := by decide +kernel
theorem pn_X10_numberOf : (parseMethodDescriptor (am_y M_X10_numberOf).desc).map (fun d => d.parameters.length) = some 1 := by decide +kernel
theorem pn_X10_twice : (parseMethodDescriptor (am_y M_X10_twice).desc).map (fun d => d.parameters.length) = some 1 := by decide +kernel
theorem pn_X10_twiceAt : (parseMethodDescriptor (am_y M_X10_twiceAt).desc).map (fun d => d.parameters.length) = some 1 := by decide +kernel
theorem pn_X10_once : (parseMethodDescriptor (am_y M_X10_once).desc).map (fun d => d.parameters.length) = some 1 := by decide +kernel
theorem pn_X10_onceAt : (parseMethodDescriptor (am_y M_X10_onceAt).desc).map (fun d => d.parameters.length) = some 1 := by decide +kernel
theorem pn_X10_longestIn : (parseMethodDescriptor (am_y M_X10_longestIn).desc).map (fun d => d.parameters.length) = some 1 := by decide +kernel
theorem pn_X10_first : (parseMethodDescriptor (am_y M_X10_first).desc).map (fun d => d.parameters.length) = some 2 := by decide +kernel
theorem pn_X10_last : (parseMethodDescriptor (am_y M_X10_last).desc).map (fun d => d.parameters.length) = some 2 := by decide +kernel
theorem pn_X10_back : (parseMethodDescriptor (am_y M_X10_back).desc).map (fun d => d.parameters.length) = some 2 := by decide +kernel
theorem pn_X10_runs : (parseMethodDescriptor (am_y M_X10_runs).desc).map (fun d => d.parameters.length) = some 1 := by decide +kernel
theorem pn_X10_front : (parseMethodDescriptor (am_y M_X10_front).desc).map (fun d => d.parameters.length) = some 2 := by decide +kernel
theorem pn_X10_column : (parseMethodDescriptor (am_y M_X10_column).desc).map (fun d => d.parameters.length) = some 1 := by decide +kernel
theorem pn_X10_undo : (parseMethodDescriptor (am_y M_X10_undo).desc).map (fun d => d.parameters.length) = some 0 := by decide +kernel
theorem pn_X10_squares : (parseMethodDescriptor (am_y M_X10_squares).desc).map (fun d => d.parameters.length) = some 1 := by decide +kernel
theorem pn_X10_squareAt : (parseMethodDescriptor (am_y M_X10_squareAt).desc).map (fun d => d.parameters.length) = some 2 := by decide +kernel
theorem pn_X10_period : (parseMethodDescriptor (am_y M_X10_period).desc).map (fun d => d.parameters.length) = some 1 := by decide +kernel
theorem pn_X10_turnAt : (parseMethodDescriptor (am_y M_X10_turnAt).desc).map (fun d => d.parameters.length) = some 1 := by decide +kernel
theorem pn_X10_parts : (parseMethodDescriptor (am_y M_X10_parts).desc).map (fun d => d.parameters.length) = some 1 := by decide +kernel
theorem pn_X10_partAt : (parseMethodDescriptor (am_y M_X10_partAt).desc).map (fun d => d.parameters.length) = some 2 := by decide +kernel
theorem pn_X10_pieces : (parseMethodDescriptor (am_y M_X10_pieces).desc).map (fun d => d.parameters.length) = some 1 := by decide +kernel
theorem pn_X10_pieceLength : (parseMethodDescriptor (am_y M_X10_pieceLength).desc).map (fun d => d.parameters.length) = some 2 := by decide +kernel
theorem pn_X10_pieceFrom : (parseMethodDescriptor (am_y M_X10_pieceFrom).desc).map (fun d => d.parameters.length) = some 2 := by decide +kernel
theorem pn_X10_fewest : (parseMethodDescriptor (am_y M_X10_fewest).desc).map (fun d => d.parameters.length) = some 1 := by decide +kernel
theorem pn_X10_commonShare : (parseMethodDescriptor (am_y M_X10_commonShare).desc).map (fun d => d.parameters.length) = some 1 := by decide +kernel
theorem pn_X10_meanCommon : (parseMethodDescriptor (am_y M_X10_meanCommon).desc).map (fun d => d.parameters.length) = some 1 := by decide +kernel
theorem pn_X10_checksum : (parseMethodDescriptor (am_y M_X10_checksum).desc).map (fun d => d.parameters.length) = some 0 := by decide +kernel
theorem pn_X10_isSound : (parseMethodDescriptor (am_y M_X10_isSound).desc).map (fun d => d.parameters.length) = some 0 := by decide +kernel
theorem pn_X10_isLetter : (parseMethodDescriptor (am_y M_X10_isLetter).desc).map (fun d => d.parameters.length) = some 1 := by decide +kernel
theorem pn_X10_isTypable : (parseMethodDescriptor (am_y M_X10_isTypable).desc).map (fun d => d.parameters.length) = some 1 := by decide +kernel
theorem pn_X10_known : (parseMethodDescriptor (am_y M_X10_known).desc).map (fun d => d.parameters.length) = some 1 := by decide +kernel
theorem pn_X10_knownWith : (parseMethodDescriptor (am_y M_X10_knownWith).desc).map (fun d => d.parameters.length) = some 2 := by decide +kernel
theorem pn_X10_knownWithRow : (parseMethodDescriptor (am_y M_X10_knownWithRow).desc).map (fun d => d.parameters.length) = some 2 := by decide +kernel
theorem pn_X10_knownWithPiece : (parseMethodDescriptor (am_y M_X10_knownWithPiece).desc).map (fun d => d.parameters.length) = some 2 := by decide +kernel
theorem pn_X10_knownNotEmpty : (parseMethodDescriptor (am_y M_X10_knownNotEmpty).desc).map (fun d => d.parameters.length) = some 1 := by decide +kernel
theorem pn_X10_refuseClassSize : (parseMethodDescriptor (am_y M_X10_refuseClassSize).desc).map (fun d => d.parameters.length) = some 1 := by decide +kernel
theorem pn_X10_refuseNoWord : (parseMethodDescriptor (am_y M_X10_refuseNoWord).desc).map (fun d => d.parameters.length) = some 0 := by decide +kernel
theorem pn_X10_leastRank : (parseMethodDescriptor (am_y M_X10_leastRank).desc).map (fun d => d.parameters.length) = some 1 := by decide +kernel
theorem pn_X10_freshText : (parseMethodDescriptor (am_y M_X10_freshText).desc).map (fun d => d.parameters.length) = some 0 := by decide +kernel
theorem pn_X10_keep : (parseMethodDescriptor (am_y M_X10_keep).desc).map (fun d => d.parameters.length) = some 1 := by decide +kernel
theorem pn_X11_init : (parseMethodDescriptor (am_y M_X11_init).desc).map (fun d => d.parameters.length) = some 0 := by decide +kernel
theorem pn_X11_thrown : (parseMethodDescriptor (am_y M_X11_thrown).desc).map (fun d => d.parameters.length) = some 0 := by decide +kernel
theorem pn_X11_isWrong : (parseMethodDescriptor (am_y M_X11_isWrong).desc).map (fun d => d.parameters.length) = some 1 := by decide +kernel
theorem pn_X11_isBetween : (parseMethodDescriptor (am_y M_X11_isBetween).desc).map (fun d => d.parameters.length) = some 3 := by decide +kernel
theorem pn_X11_isText : (parseMethodDescriptor (am_y M_X11_isText).desc).map (fun d => d.parameters.length) = some 1 := by decide +kernel
theorem pn_X11_isPlace : (parseMethodDescriptor (am_y M_X11_isPlace).desc).map (fun d => d.parameters.length) = some 2 := by decide +kernel
theorem pn_X11_isLetter : (parseMethodDescriptor (am_y M_X11_isLetter).desc).map (fun d => d.parameters.length) = some 1 := by decide +kernel
theorem pn_X11_type : (parseMethodDescriptor (am_y M_X11_type).desc).map (fun d => d.parameters.length) = some 1 := by decide +kernel
theorem pn_X11_of : (parseMethodDescriptor (am_y M_X11_of).desc).map (fun d => d.parameters.length) = some 9 := by decide +kernel
theorem pn_X11_typeMore : (parseMethodDescriptor (am_y M_X11_typeMore).desc).map (fun d => d.parameters.length) = some 9 := by decide +kernel
theorem pn_X11_wipe : (parseMethodDescriptor (am_y M_X11_wipe).desc).map (fun d => d.parameters.length) = some 0 := by decide +kernel
theorem pn_X11_typed : (parseMethodDescriptor (am_y M_X11_typed).desc).map (fun d => d.parameters.length) = some 1 := by decide +kernel
theorem pn_X11_hasEnd : (parseMethodDescriptor (am_y M_X11_hasEnd).desc).map (fun d => d.parameters.length) = some 0 := by decide +kernel
theorem pn_X11_text : (parseMethodDescriptor (am_y M_X11_text).desc).map (fun d => d.parameters.length) = some 0 := by decide +kernel
theorem pn_X11_isNone : (parseMethodDescriptor (am_y M_X11_isNone).desc).map (fun d => d.parameters.length) = some 1 := by decide +kernel
theorem pn_X11_take : (parseMethodDescriptor (am_y M_X11_take).desc).map (fun d => d.parameters.length) = some 1 := by decide +kernel
theorem pn_X11_length : (parseMethodDescriptor (am_y M_X11_length).desc).map (fun d => d.parameters.length) = some 1 := by decide +kernel
theorem pn_X11_isNoPlace : (parseMethodDescriptor (am_y M_X11_isNoPlace).desc).map (fun d => d.parameters.length) = some 2 := by decide +kernel
theorem pn_X11_signAt : (parseMethodDescriptor (am_y M_X11_signAt).desc).map (fun d => d.parameters.length) = some 2 := by decide +kernel
theorem pn_X11_join : (parseMethodDescriptor (am_y M_X11_join).desc).map (fun d => d.parameters.length) = some 2 := by decide +kernel
theorem pn_X11_mirror : (parseMethodDescriptor (am_y M_X11_mirror).desc).map (fun d => d.parameters.length) = some 1 := by decide +kernel
theorem pn_X11_change : (parseMethodDescriptor (am_y M_X11_change).desc).map (fun d => d.parameters.length) = some 3 := by decide +kernel
theorem pn_X11_keepRanks : (parseMethodDescriptor (am_y M_X11_keepRanks).desc).map (fun d => d.parameters.length) = some 1 := by decide +kernel
theorem pn_X11_ahead : (parseMethodDescriptor (am_y M_X11_ahead).desc).map (fun d => d.parameters.length) = some 2 := by decide +kernel
theorem pn_X11_chop : (parseMethodDescriptor (am_y M_X11_chop).desc).map (fun d => d.parameters.length) = some 1 := by decide +kernel
theorem pn_X11_compared : (parseMethodDescriptor (am_y M_X11_compared).desc).map (fun d => d.parameters.length) = some 4 := by decide +kernel
theorem pn_X11_rank : (parseMethodDescriptor (am_y M_X11_rank).desc).map (fun d => d.parameters.length) = some 2 := by decide +kernel
theorem pn_X11_sorts : (parseMethodDescriptor (am_y M_X11_sorts).desc).map (fun d => d.parameters.length) = some 1 := by decide +kernel
theorem pn_X11_isNoRank : (parseMethodDescriptor (am_y M_X11_isNoRank).desc).map (fun d => d.parameters.length) = some 2 := by decide +kernel
theorem pn_X11_endAt : (parseMethodDescriptor (am_y M_X11_endAt).desc).map (fun d => d.parameters.length) = some 2 := by decide +kernel
theorem pn_X11_rankOf : (parseMethodDescriptor (am_y M_X11_rankOf).desc).map (fun d => d.parameters.length) = some 2 := by decide +kernel
theorem pn_X11_isFirst : (parseMethodDescriptor (am_y M_X11_isFirst).desc).map (fun d => d.parameters.length) = some 3 := by decide +kernel
theorem pn_X11_classesBy : (parseMethodDescriptor (am_y M_X11_classesBy).desc).map (fun d => d.parameters.length) = some 2 := by decide +kernel
theorem pn_X11_classOf : (parseMethodDescriptor (am_y M_X11_classOf).desc).map (fun d => d.parameters.length) = some 3 := by decide +kernel
theorem pn_X11_classes : (parseMethodDescriptor (am_y M_X11_classes).desc).map (fun d => d.parameters.length) = some 2 := by decide +kernel
theorem pn_X11_rounds : (parseMethodDescriptor (am_y M_X11_rounds).desc).map (fun d => d.parameters.length) = some 1 := by decide +kernel
theorem pn_X11_together : (parseMethodDescriptor (am_y M_X11_together).desc).map (fun d => d.parameters.length) = some 4 := by decide +kernel
theorem pn_X11_commonAt : (parseMethodDescriptor (am_y M_X11_commonAt).desc).map (fun d => d.parameters.length) = some 2 := by decide +kernel
theorem pn_X11_common : (parseMethodDescriptor (am_y M_X11_common).desc).map (fun d => d.parameters.length) = some 2 := by decide +kernel
theorem pn_X11_shared : (parseMethodDescriptor (am_y M_X11_shared).desc).map (fun d => d.parameters.length) = some 4 := by decide +kernel
theorem pn_X11_stands : (parseMethodDescriptor (am_y M_X11_stands).desc).map (fun d => d.parameters.length) = some 3 := by decide +kernel
theorem pn_X11_countFrom : (parseMethodDescriptor (am_y M_X11_countFrom).desc).map (fun d => d.parameters.length) = some 2 := by decide +kernel
theorem pn_X11_isNoWord : (parseMethodDescriptor (am_y M_X11_isNoWord).desc).map (fun d => d.parameters.length) = some 1 := by decide +kernel
theorem pn_X11_count : (parseMethodDescriptor (am_y M_X11_count).desc).map (fun d => d.parameters.length) = some 1 := by decide +kernel
theorem pn_X11_runFrom : (parseMethodDescriptor (am_y M_X11_runFrom).desc).map (fun d => d.parameters.length) = some 1 := by decide +kernel
theorem pn_X11_standsAt : (parseMethodDescriptor (am_y M_X11_standsAt).desc).map (fun d => d.parameters.length) = some 2 := by decide +kernel
theorem pn_X11_tail : (parseMethodDescriptor (am_y M_X11_tail).desc).map (fun d => d.parameters.length) = some 2 := by decide +kernel
theorem pn_X11_newWords : (parseMethodDescriptor (am_y M_X11_newWords).desc).map (fun d => d.parameters.length) = some 2 := by decide +kernel
theorem pn_X11_allWords : (parseMethodDescriptor (am_y M_X11_allWords).desc).map (fun d => d.parameters.length) = some 1 := by decide +kernel
theorem pn_X11_words : (parseMethodDescriptor (am_y M_X11_words).desc).map (fun d => d.parameters.length) = some 1 := by decide +kernel
theorem pn_X11_word : (parseMethodDescriptor (am_y M_X11_word).desc).map (fun d => d.parameters.length) = some 2 := by decide +kernel
theorem pn_X11_numberOf : (parseMethodDescriptor (am_y M_X11_numberOf).desc).map (fun d => d.parameters.length) = some 1 := by decide +kernel
theorem pn_X11_longestTwice : (parseMethodDescriptor (am_y M_X11_longestTwice).desc).map (fun d => d.parameters.length) = some 1 := by decide +kernel
theorem pn_X11_places : (parseMethodDescriptor (am_y M_X11_places).desc).map (fun d => d.parameters.length) = some 4 := by decide +kernel
theorem pn_X11_twice : (parseMethodDescriptor (am_y M_X11_twice).desc).map (fun d => d.parameters.length) = some 1 := by decide +kernel
theorem pn_X11_twiceAt : (parseMethodDescriptor (am_y M_X11_twiceAt).desc).map (fun d => d.parameters.length) = some 1 := by decide +kernel
theorem pn_X11_alone : (parseMethodDescriptor (am_y M_X11_alone).desc).map (fun d => d.parameters.length) = some 2 := by decide +kernel
theorem pn_X11_shortestAlone : (parseMethodDescriptor (am_y M_X11_shortestAlone).desc).map (fun d => d.parameters.length) = some 1 := by decide +kernel
theorem pn_X11_isEmpty : (parseMethodDescriptor (am_y M_X11_isEmpty).desc).map (fun d => d.parameters.length) = some 1 := by decide +kernel
theorem pn_X11_once : (parseMethodDescriptor (am_y M_X11_once).desc).map (fun d => d.parameters.length) = some 1 := by decide +kernel
theorem pn_X11_onceAt : (parseMethodDescriptor (am_y M_X11_onceAt).desc).map (fun d => d.parameters.length) = some 1 := by decide +kernel
theorem pn_X11_standsIn : (parseMethodDescriptor (am_y M_X11_standsIn).desc).map (fun d => d.parameters.length) = some 4 := by decide +kernel
theorem pn_X11_isLess : (parseMethodDescriptor (am_y M_X11_isLess).desc).map (fun d => d.parameters.length) = some 5 := by decide +kernel
theorem pn_X11_longestIn : (parseMethodDescriptor (am_y M_X11_longestIn).desc).map (fun d => d.parameters.length) = some 1 := by decide +kernel
theorem pn_X11_around : (parseMethodDescriptor (am_y M_X11_around).desc).map (fun d => d.parameters.length) = some 2 := by decide +kernel
theorem pn_X11_isTurnedLess : (parseMethodDescriptor (am_y M_X11_isTurnedLess).desc).map (fun d => d.parameters.length) = some 3 := by decide +kernel
theorem pn_X11_turns : (parseMethodDescriptor (am_y M_X11_turns).desc).map (fun d => d.parameters.length) = some 1 := by decide +kernel
theorem pn_X11_lastAt : (parseMethodDescriptor (am_y M_X11_lastAt).desc).map (fun d => d.parameters.length) = some 2 := by decide +kernel
theorem pn_X11_isNoRow : (parseMethodDescriptor (am_y M_X11_isNoRow).desc).map (fun d => d.parameters.length) = some 2 := by decide +kernel
theorem pn_X11_first : (parseMethodDescriptor (am_y M_X11_first).desc).map (fun d => d.parameters.length) = some 2 := by decide +kernel
theorem pn_X11_last : (parseMethodDescriptor (am_y M_X11_last).desc).map (fun d => d.parameters.length) = some 2 := by decide +kernel
theorem pn_X11_back : (parseMethodDescriptor (am_y M_X11_back).desc).map (fun d => d.parameters.length) = some 2 := by decide +kernel
theorem pn_X11_runs : (parseMethodDescriptor (am_y M_X11_runs).desc).map (fun d => d.parameters.length) = some 1 := by decide +kernel
theorem pn_X11_front : (parseMethodDescriptor (am_y M_X11_front).desc).map (fun d => d.parameters.length) = some 2 := by decide +kernel
theorem pn_X11_column : (parseMethodDescriptor (am_y M_X11_column).desc).map (fun d => d.parameters.length) = some 1 := by decide +kernel
theorem pn_X11_lays : (parseMethodDescriptor (am_y M_X11_lays).desc).map (fun d => d.parameters.length) = some 0 := by decide +kernel
theorem pn_X11_undo : (parseMethodDescriptor (am_y M_X11_undo).desc).map (fun d => d.parameters.length) = some 0 := by decide +kernel
theorem pn_X11_isSquare : (parseMethodDescriptor (am_y M_X11_isSquare).desc).map (fun d => d.parameters.length) = some 3 := by decide +kernel
theorem pn_X11_squares : (parseMethodDescriptor (am_y M_X11_squares).desc).map (fun d => d.parameters.length) = some 1 := by decide +kernel
theorem pn_X11_squareAt : (parseMethodDescriptor (am_y M_X11_squareAt).desc).map (fun d => d.parameters.length) = some 2 := by decide +kernel
theorem pn_X11_period : (parseMethodDescriptor (am_y M_X11_period).desc).map (fun d => d.parameters.length) = some 1 := by decide +kernel
theorem pn_X11_turnAt : (parseMethodDescriptor (am_y M_X11_turnAt).desc).map (fun d => d.parameters.length) = some 1 := by decide +kernel
theorem pn_X11_findParts : (parseMethodDescriptor (am_y M_X11_findParts).desc).map (fun d => d.parameters.length) = some 1 := by decide +kernel
theorem pn_X11_isPlain : (parseMethodDescriptor (am_y M_X11_isPlain).desc).map (fun d => d.parameters.length) = some 3 := by decide +kernel
theorem pn_X11_parts : (parseMethodDescriptor (am_y M_X11_parts).desc).map (fun d => d.parameters.length) = some 1 := by decide +kernel
theorem pn_X11_partAt : (parseMethodDescriptor (am_y M_X11_partAt).desc).map (fun d => d.parameters.length) = some 2 := by decide +kernel
theorem pn_X11_longestAhead : (parseMethodDescriptor (am_y M_X11_longestAhead).desc).map (fun d => d.parameters.length) = some 2 := by decide +kernel
theorem pn_X11_findPieces : (parseMethodDescriptor (am_y M_X11_findPieces).desc).map (fun d => d.parameters.length) = some 1 := by decide +kernel
theorem pn_X11_pieces : (parseMethodDescriptor (am_y M_X11_pieces).desc).map (fun d => d.parameters.length) = some 1 := by decide +kernel
theorem pn_X11_isNoPiece : (parseMethodDescriptor (am_y M_X11_isNoPiece).desc).map (fun d => d.parameters.length) = some 2 := by decide +kernel
theorem pn_X11_pieceLength : (parseMethodDescriptor (am_y M_X11_pieceLength).desc).map (fun d => d.parameters.length) = some 2 := by decide +kernel
theorem pn_X11_pieceFrom : (parseMethodDescriptor (am_y M_X11_pieceFrom).desc).map (fun d => d.parameters.length) = some 2 := by decide +kernel
theorem pn_X11_fewestOf : (parseMethodDescriptor (am_y M_X11_fewestOf).desc).map (fun d => d.parameters.length) = some 1 := by decide +kernel
theorem pn_X11_fewest : (parseMethodDescriptor (am_y M_X11_fewest).desc).map (fun d => d.parameters.length) = some 1 := by decide +kernel
theorem pn_X11_commonShare : (parseMethodDescriptor (am_y M_X11_commonShare).desc).map (fun d => d.parameters.length) = some 1 := by decide +kernel
theorem pn_X11_commons : (parseMethodDescriptor (am_y M_X11_commons).desc).map (fun d => d.parameters.length) = some 1 := by decide +kernel
theorem pn_X11_meanCommon : (parseMethodDescriptor (am_y M_X11_meanCommon).desc).map (fun d => d.parameters.length) = some 1 := by decide +kernel
theorem pn_X11_checksum : (parseMethodDescriptor (am_y M_X11_checksum).desc).map (fun d => d.parameters.length) = some 0 := by decide +kernel
theorem pn_X11_isSound : (parseMethodDescriptor (am_y M_X11_isSound).desc).map (fun d => d.parameters.length) = some 0 := by decide +kernel
theorem pn_L_type : (parseMethodDescriptor (am_y M_L_type).desc).map (fun d => d.parameters.length) = some 3 := by decide +kernel
theorem pn_L_typeMore : (parseMethodDescriptor (am_y M_L_typeMore).desc).map (fun d => d.parameters.length) = some 11 := by decide +kernel
theorem pn_L_typed : (parseMethodDescriptor (am_y M_L_typed).desc).map (fun d => d.parameters.length) = some 3 := by decide +kernel
theorem pn_L_text : (parseMethodDescriptor (am_y M_L_text).desc).map (fun d => d.parameters.length) = some 2 := by decide +kernel
theorem pn_L_take : (parseMethodDescriptor (am_y M_L_take).desc).map (fun d => d.parameters.length) = some 3 := by decide +kernel
theorem pn_L_length : (parseMethodDescriptor (am_y M_L_length).desc).map (fun d => d.parameters.length) = some 3 := by decide +kernel
theorem pn_L_signAt : (parseMethodDescriptor (am_y M_L_signAt).desc).map (fun d => d.parameters.length) = some 4 := by decide +kernel
theorem pn_L_join : (parseMethodDescriptor (am_y M_L_join).desc).map (fun d => d.parameters.length) = some 4 := by decide +kernel
theorem pn_L_mirror : (parseMethodDescriptor (am_y M_L_mirror).desc).map (fun d => d.parameters.length) = some 3 := by decide +kernel
theorem pn_L_change : (parseMethodDescriptor (am_y M_L_change).desc).map (fun d => d.parameters.length) = some 5 := by decide +kernel
theorem pn_L_ahead : (parseMethodDescriptor (am_y M_L_ahead).desc).map (fun d => d.parameters.length) = some 4 := by decide +kernel
theorem pn_L_chop : (parseMethodDescriptor (am_y M_L_chop).desc).map (fun d => d.parameters.length) = some 3 := by decide +kernel
theorem pn_L_endAt : (parseMethodDescriptor (am_y M_L_endAt).desc).map (fun d => d.parameters.length) = some 4 := by decide +kernel
theorem pn_L_rankOf : (parseMethodDescriptor (am_y M_L_rankOf).desc).map (fun d => d.parameters.length) = some 4 := by decide +kernel
theorem pn_L_classOf : (parseMethodDescriptor (am_y M_L_classOf).desc).map (fun d => d.parameters.length) = some 5 := by decide +kernel
theorem pn_L_classes : (parseMethodDescriptor (am_y M_L_classes).desc).map (fun d => d.parameters.length) = some 4 := by decide +kernel
theorem pn_L_rounds : (parseMethodDescriptor (am_y M_L_rounds).desc).map (fun d => d.parameters.length) = some 3 := by decide +kernel
theorem pn_L_common : (parseMethodDescriptor (am_y M_L_common).desc).map (fun d => d.parameters.length) = some 4 := by decide +kernel
theorem pn_L_shared : (parseMethodDescriptor (am_y M_L_shared).desc).map (fun d => d.parameters.length) = some 6 := by decide +kernel
theorem pn_L_count : (parseMethodDescriptor (am_y M_L_count).desc).map (fun d => d.parameters.length) = some 3 := by decide +kernel
theorem pn_L_runFrom : (parseMethodDescriptor (am_y M_L_runFrom).desc).map (fun d => d.parameters.length) = some 3 := by decide +kernel
theorem pn_L_standsAt : (parseMethodDescriptor (am_y M_L_standsAt).desc).map (fun d => d.parameters.length) = some 4 := by decide +kernel
theorem pn_L_tail : (parseMethodDescriptor (am_y M_L_tail).desc).map (fun d => d.parameters.length) = some 4 := by decide +kernel
theorem pn_L_words : (parseMethodDescriptor (am_y M_L_words).desc).map (fun d => d.parameters.length) = some 3 := by decide +kernel
theorem pn_L_word : (parseMethodDescriptor (am_y M_L_word).desc).map (fun d => d.parameters.length) = some 4 := by decide +kernel
theorem pn_L_numberOf : (parseMethodDescriptor (am_y M_L_numberOf).desc).map (fun d => d.parameters.length) = some 3 := by decide +kernel
theorem pn_L_twice : (parseMethodDescriptor (am_y M_L_twice).desc).map (fun d => d.parameters.length) = some 3 := by decide +kernel
theorem pn_L_twiceAt : (parseMethodDescriptor (am_y M_L_twiceAt).desc).map (fun d => d.parameters.length) = some 3 := by decide +kernel
theorem pn_L_once : (parseMethodDescriptor (am_y M_L_once).desc).map (fun d => d.parameters.length) = some 3 := by decide +kernel
theorem pn_L_onceAt : (parseMethodDescriptor (am_y M_L_onceAt).desc).map (fun d => d.parameters.length) = some 3 := by decide +kernel
theorem pn_L_longestIn : (parseMethodDescriptor (am_y M_L_longestIn).desc).map (fun d => d.parameters.length) = some 3 := by decide +kernel
theorem pn_L_first : (parseMethodDescriptor (am_y M_L_first).desc).map (fun d => d.parameters.length) = some 4 := by decide +kernel
theorem pn_L_last : (parseMethodDescriptor (am_y M_L_last).desc).map (fun d => d.parameters.length) = some 4 := by decide +kernel
theorem pn_L_back : (parseMethodDescriptor (am_y M_L_back).desc).map (fun d => d.parameters.length) = some 4 := by decide +kernel
theorem pn_L_runs : (parseMethodDescriptor (am_y M_L_runs).desc).map (fun d => d.parameters.length) = some 3 := by decide +kernel
theorem pn_L_front : (parseMethodDescriptor (am_y M_L_front).desc).map (fun d => d.parameters.length) = some 4 := by decide +kernel
theorem pn_L_column : (parseMethodDescriptor (am_y M_L_column).desc).map (fun d => d.parameters.length) = some 3 := by decide +kernel
theorem pn_L_undo : (parseMethodDescriptor (am_y M_L_undo).desc).map (fun d => d.parameters.length) = some 2 := by decide +kernel
theorem pn_L_squares : (parseMethodDescriptor (am_y M_L_squares).desc).map (fun d => d.parameters.length) = some 3 := by decide +kernel
theorem pn_L_squareAt : (parseMethodDescriptor (am_y M_L_squareAt).desc).map (fun d => d.parameters.length) = some 4 := by decide +kernel
theorem pn_L_period : (parseMethodDescriptor (am_y M_L_period).desc).map (fun d => d.parameters.length) = some 3 := by decide +kernel
theorem pn_L_turnAt : (parseMethodDescriptor (am_y M_L_turnAt).desc).map (fun d => d.parameters.length) = some 3 := by decide +kernel
theorem pn_L_parts : (parseMethodDescriptor (am_y M_L_parts).desc).map (fun d => d.parameters.length) = some 3 := by decide +kernel
theorem pn_L_partAt : (parseMethodDescriptor (am_y M_L_partAt).desc).map (fun d => d.parameters.length) = some 4 := by decide +kernel
theorem pn_L_pieces : (parseMethodDescriptor (am_y M_L_pieces).desc).map (fun d => d.parameters.length) = some 3 := by decide +kernel
theorem pn_L_pieceLength : (parseMethodDescriptor (am_y M_L_pieceLength).desc).map (fun d => d.parameters.length) = some 4 := by decide +kernel
theorem pn_L_pieceFrom : (parseMethodDescriptor (am_y M_L_pieceFrom).desc).map (fun d => d.parameters.length) = some 4 := by decide +kernel
theorem pn_L_fewest : (parseMethodDescriptor (am_y M_L_fewest).desc).map (fun d => d.parameters.length) = some 3 := by decide +kernel
theorem pn_L_commonShare : (parseMethodDescriptor (am_y M_L_commonShare).desc).map (fun d => d.parameters.length) = some 3 := by decide +kernel
theorem pn_L_meanCommon : (parseMethodDescriptor (am_y M_L_meanCommon).desc).map (fun d => d.parameters.length) = some 3 := by decide +kernel
theorem cl_13 : Cond.classLink RL 13 "java/lang/IllegalArgumentException" ∈ am_W0 := am_mem 423 (by decide +kernel) rfl
theorem cl_15 : Cond.classLink RL 15 "java/lang/IllegalStateException" ∈ am_W0 := am_mem 424 (by decide +kernel) rfl
theorem cl_25 : Cond.classLink RL 25 "java/util/NoSuchElementException" ∈ am_W0 := am_mem 537 (by decide +kernel) rfl
theorem cl_31 : Cond.classLink RL 31 "java/lang/UnsupportedOperationException" ∈ am_W0 := am_mem 561 (by decide +kernel) rfl
theorem cl_37 : Cond.classLink RL 37 "java/lang/IndexOutOfBoundsException" ∈ am_W0 := am_mem 636 (by decide +kernel) rfl
theorem cl_179 : Cond.classLink RL 179 "java/lang/ArithmeticException" ∈ am_W0 := am_mem 1181 (by decide +kernel) rfl
theorem ca_ArithmeticException : Cond.castable "java/lang/ArithmeticException" "java/lang/ArithmeticException" ∈ am_W1 := am_mem1 1193 (by decide +kernel) rfl
theorem ca_IllegalArgumentException : Cond.castable "java/lang/IllegalArgumentException" "java/lang/IllegalArgumentException" ∈ am_W1 := am_mem1 435 (by decide +kernel) rfl
theorem ca_IllegalStateException : Cond.castable "java/lang/IllegalStateException" "java/lang/IllegalStateException" ∈ am_W1 := am_mem1 507 (by decide +kernel) rfl
theorem ca_IndexOutOfBoundsException : Cond.castable "java/lang/IndexOutOfBoundsException" "java/lang/IndexOutOfBoundsException" ∈ am_W1 := am_mem1 670 (by decide +kernel) rfl
theorem ca_UnsupportedOperationException : Cond.castable "java/lang/UnsupportedOperationException" "java/lang/UnsupportedOperationException" ∈ am_W1 := am_mem1 572 (by decide +kernel) rfl
theorem ca_NoSuchElementException : Cond.castable "java/util/NoSuchElementException" "java/util/NoSuchElementException" ∈ am_W1 := am_mem1 544 (by decide +kernel) rfl
theorem hd_L_type_0 : am_HD RL (am_hh M_L_type) 4 "java/lang/IllegalArgumentException" 12 := ⟨[], (0, 9, 12, 13), [(0, 9, 15, 15)], rfl, fun _ h9 => absurd h9 List.not_mem_nil, by decide, by decide, by decide, cl_13, ca_IllegalArgumentException, by decide, rfl⟩
theorem hd_L_type_1 : am_HD RL (am_hh M_L_type) 4 "java/lang/IllegalStateException" 15 := ⟨[(0, 9, 12, 13)], (0, 9, 15, 15), [], rfl, List.forall_mem_cons.mpr ⟨⟨by decide, "java/lang/IllegalArgumentException", cl_13, by decide, by decide⟩, fun _ h9 => absurd h9 List.not_mem_nil⟩, by decide, by decide, by decide, cl_15, ca_IllegalStateException, by decide, rfl⟩
theorem hd_L_typeMore_0 : am_HD RL (am_hh M_L_typeMore) 19 "java/lang/IllegalArgumentException" 27 := ⟨[], (0, 24, 27, 13), [(0, 24, 31, 15)], rfl, fun _ h9 => absurd h9 List.not_mem_nil, by decide, by decide, by decide, cl_13, ca_IllegalArgumentException, by decide, rfl⟩
theorem hd_L_typeMore_1 : am_HD RL (am_hh M_L_typeMore) 19 "java/lang/IllegalStateException" 31 := ⟨[(0, 24, 27, 13)], (0, 24, 31, 15), [], rfl, List.forall_mem_cons.mpr ⟨⟨by decide, "java/lang/IllegalArgumentException", cl_13, by decide, by decide⟩, fun _ h9 => absurd h9 List.not_mem_nil⟩, by decide, by decide, by decide, cl_15, ca_IllegalStateException, by decide, rfl⟩
theorem hd_L_typed_0 : am_HD RL (am_hh M_L_typed) 4 "java/util/NoSuchElementException" 12 := ⟨[], (0, 9, 12, 25), [], rfl, fun _ h9 => absurd h9 List.not_mem_nil, by decide, by decide, by decide, cl_25, ca_NoSuchElementException, by decide, rfl⟩
theorem hd_L_text_0 : am_HD RL (am_hh M_L_text) 3 "java/lang/UnsupportedOperationException" 11 := ⟨[], (0, 8, 11, 31), [(0, 8, 14, 15)], rfl, fun _ h9 => absurd h9 List.not_mem_nil, by decide, by decide, by decide, cl_31, ca_UnsupportedOperationException, by decide, rfl⟩
theorem hd_L_text_1 : am_HD RL (am_hh M_L_text) 3 "java/lang/IllegalStateException" 14 := ⟨[(0, 8, 11, 31)], (0, 8, 14, 15), [], rfl, List.forall_mem_cons.mpr ⟨⟨by decide, "java/lang/UnsupportedOperationException", cl_31, by decide, by decide⟩, fun _ h9 => absurd h9 List.not_mem_nil⟩, by decide, by decide, by decide, cl_15, ca_IllegalStateException, by decide, rfl⟩
theorem hd_L_take_0 : am_HD RL (am_hh M_L_take) 4 "java/lang/IndexOutOfBoundsException" 12 := ⟨[], (0, 9, 12, 37), [], rfl, fun _ h9 => absurd h9 List.not_mem_nil, by decide, by decide, by decide, cl_37, ca_IndexOutOfBoundsException, by decide, rfl⟩
theorem hd_L_length_0 : am_HD RL (am_hh M_L_length) 4 "java/lang/IndexOutOfBoundsException" 12 := ⟨[], (0, 9, 12, 37), [], rfl, fun _ h9 => absurd h9 List.not_mem_nil, by decide, by decide, by decide, cl_37, ca_IndexOutOfBoundsException, by decide, rfl⟩
theorem hd_L_signAt_0 : am_HD RL (am_hh M_L_signAt) 5 "java/lang/IndexOutOfBoundsException" 13 := ⟨[], (0, 10, 13, 37), [], rfl, fun _ h9 => absurd h9 List.not_mem_nil, by decide, by decide, by decide, cl_37, ca_IndexOutOfBoundsException, by decide, rfl⟩
theorem hd_L_join_0 : am_HD RL (am_hh M_L_join) 5 "java/lang/IndexOutOfBoundsException" 13 := ⟨[], (0, 10, 13, 37), [(0, 10, 17, 31), (0, 10, 21, 15)], rfl, fun _ h9 => absurd h9 List.not_mem_nil, by decide, by decide, by decide, cl_37, ca_IndexOutOfBoundsException, by decide, rfl⟩
theorem hd_L_join_1 : am_HD RL (am_hh M_L_join) 5 "java/lang/UnsupportedOperationException" 17 := ⟨[(0, 10, 13, 37)], (0, 10, 17, 31), [(0, 10, 21, 15)], rfl, List.forall_mem_cons.mpr ⟨⟨by decide, "java/lang/IndexOutOfBoundsException", cl_37, by decide, by decide⟩, fun _ h9 => absurd h9 List.not_mem_nil⟩, by decide, by decide, by decide, cl_31, ca_UnsupportedOperationException, by decide, rfl⟩
theorem hd_L_join_2 : am_HD RL (am_hh M_L_join) 5 "java/lang/IllegalStateException" 21 := ⟨[(0, 10, 13, 37), (0, 10, 17, 31)], (0, 10, 21, 15), [], rfl, List.forall_mem_cons.mpr ⟨⟨by decide, "java/lang/IndexOutOfBoundsException", cl_37, by decide, by decide⟩, List.forall_mem_cons.mpr ⟨⟨by decide, "java/lang/UnsupportedOperationException", cl_31, by decide, by decide⟩, fun _ h9 => absurd h9 List.not_mem_nil⟩⟩, by decide, by decide, by decide, cl_15, ca_IllegalStateException, by decide, rfl⟩
theorem hd_L_mirror_0 : am_HD RL (am_hh M_L_mirror) 4 "java/lang/IndexOutOfBoundsException" 12 := ⟨[], (0, 9, 12, 37), [(0, 9, 15, 15)], rfl, fun _ h9 => absurd h9 List.not_mem_nil, by decide, by decide, by decide, cl_37, ca_IndexOutOfBoundsException, by decide, rfl⟩
theorem hd_L_mirror_1 : am_HD RL (am_hh M_L_mirror) 4 "java/lang/IllegalStateException" 15 := ⟨[(0, 9, 12, 37)], (0, 9, 15, 15), [], rfl, List.forall_mem_cons.mpr ⟨⟨by decide, "java/lang/IndexOutOfBoundsException", cl_37, by decide, by decide⟩, fun _ h9 => absurd h9 List.not_mem_nil⟩, by decide, by decide, by decide, cl_15, ca_IllegalStateException, by decide, rfl⟩
theorem hd_L_change_0 : am_HD RL (am_hh M_L_change) 7 "java/lang/IndexOutOfBoundsException" 15 := ⟨[], (0, 12, 15, 37), [(0, 12, 19, 13)], rfl, fun _ h9 => absurd h9 List.not_mem_nil, by decide, by decide, by decide, cl_37, ca_IndexOutOfBoundsException, by decide, rfl⟩
theorem hd_L_change_1 : am_HD RL (am_hh M_L_change) 7 "java/lang/IllegalArgumentException" 19 := ⟨[(0, 12, 15, 37)], (0, 12, 19, 13), [], rfl, List.forall_mem_cons.mpr ⟨⟨by decide, "java/lang/IndexOutOfBoundsException", cl_37, by decide, by decide⟩, fun _ h9 => absurd h9 List.not_mem_nil⟩, by decide, by decide, by decide, cl_13, ca_IllegalArgumentException, by decide, rfl⟩
theorem hd_L_ahead_0 : am_HD RL (am_hh M_L_ahead) 5 "java/lang/IndexOutOfBoundsException" 13 := ⟨[], (0, 10, 13, 37), [(0, 10, 17, 13), (0, 10, 21, 15)], rfl, fun _ h9 => absurd h9 List.not_mem_nil, by decide, by decide, by decide, cl_37, ca_IndexOutOfBoundsException, by decide, rfl⟩
theorem hd_L_ahead_1 : am_HD RL (am_hh M_L_ahead) 5 "java/lang/IllegalArgumentException" 17 := ⟨[(0, 10, 13, 37)], (0, 10, 17, 13), [(0, 10, 21, 15)], rfl, List.forall_mem_cons.mpr ⟨⟨by decide, "java/lang/IndexOutOfBoundsException", cl_37, by decide, by decide⟩, fun _ h9 => absurd h9 List.not_mem_nil⟩, by decide, by decide, by decide, cl_13, ca_IllegalArgumentException, by decide, rfl⟩
theorem hd_L_ahead_2 : am_HD RL (am_hh M_L_ahead) 5 "java/lang/IllegalStateException" 21 := ⟨[(0, 10, 13, 37), (0, 10, 17, 13)], (0, 10, 21, 15), [], rfl, List.forall_mem_cons.mpr ⟨⟨by decide, "java/lang/IndexOutOfBoundsException", cl_37, by decide, by decide⟩, List.forall_mem_cons.mpr ⟨⟨by decide, "java/lang/IllegalArgumentException", cl_13, by decide, by decide⟩, fun _ h9 => absurd h9 List.not_mem_nil⟩⟩, by decide, by decide, by decide, cl_15, ca_IllegalStateException, by decide, rfl⟩
theorem hd_L_chop_0 : am_HD RL (am_hh M_L_chop) 4 "java/lang/IndexOutOfBoundsException" 12 := ⟨[], (0, 9, 12, 37), [(0, 9, 15, 25)], rfl, fun _ h9 => absurd h9 List.not_mem_nil, by decide, by decide, by decide, cl_37, ca_IndexOutOfBoundsException, by decide, rfl⟩
theorem hd_L_chop_1 : am_HD RL (am_hh M_L_chop) 4 "java/util/NoSuchElementException" 15 := ⟨[(0, 9, 12, 37)], (0, 9, 15, 25), [], rfl, List.forall_mem_cons.mpr ⟨⟨by decide, "java/lang/IndexOutOfBoundsException", cl_37, by decide, by decide⟩, fun _ h9 => absurd h9 List.not_mem_nil⟩, by decide, by decide, by decide, cl_25, ca_NoSuchElementException, by decide, rfl⟩
theorem hd_L_endAt_0 : am_HD RL (am_hh M_L_endAt) 5 "java/lang/IndexOutOfBoundsException" 13 := ⟨[], (0, 10, 13, 37), [], rfl, fun _ h9 => absurd h9 List.not_mem_nil, by decide, by decide, by decide, cl_37, ca_IndexOutOfBoundsException, by decide, rfl⟩
theorem hd_L_rankOf_0 : am_HD RL (am_hh M_L_rankOf) 5 "java/lang/IndexOutOfBoundsException" 13 := ⟨[], (0, 10, 13, 37), [], rfl, fun _ h9 => absurd h9 List.not_mem_nil, by decide, by decide, by decide, cl_37, ca_IndexOutOfBoundsException, by decide, rfl⟩
theorem hd_L_classOf_0 : am_HD RL (am_hh M_L_classOf) 7 "java/lang/IndexOutOfBoundsException" 15 := ⟨[], (0, 12, 15, 37), [(0, 12, 19, 13)], rfl, fun _ h9 => absurd h9 List.not_mem_nil, by decide, by decide, by decide, cl_37, ca_IndexOutOfBoundsException, by decide, rfl⟩
theorem hd_L_classOf_1 : am_HD RL (am_hh M_L_classOf) 7 "java/lang/IllegalArgumentException" 19 := ⟨[(0, 12, 15, 37)], (0, 12, 19, 13), [], rfl, List.forall_mem_cons.mpr ⟨⟨by decide, "java/lang/IndexOutOfBoundsException", cl_37, by decide, by decide⟩, fun _ h9 => absurd h9 List.not_mem_nil⟩, by decide, by decide, by decide, cl_13, ca_IllegalArgumentException, by decide, rfl⟩
theorem hd_L_classes_0 : am_HD RL (am_hh M_L_classes) 5 "java/lang/IndexOutOfBoundsException" 13 := ⟨[], (0, 10, 13, 37), [(0, 10, 17, 13)], rfl, fun _ h9 => absurd h9 List.not_mem_nil, by decide, by decide, by decide, cl_37, ca_IndexOutOfBoundsException, by decide, rfl⟩
theorem hd_L_classes_1 : am_HD RL (am_hh M_L_classes) 5 "java/lang/IllegalArgumentException" 17 := ⟨[(0, 10, 13, 37)], (0, 10, 17, 13), [], rfl, List.forall_mem_cons.mpr ⟨⟨by decide, "java/lang/IndexOutOfBoundsException", cl_37, by decide, by decide⟩, fun _ h9 => absurd h9 List.not_mem_nil⟩, by decide, by decide, by decide, cl_13, ca_IllegalArgumentException, by decide, rfl⟩
theorem hd_L_rounds_0 : am_HD RL (am_hh M_L_rounds) 4 "java/lang/IndexOutOfBoundsException" 12 := ⟨[], (0, 9, 12, 37), [], rfl, fun _ h9 => absurd h9 List.not_mem_nil, by decide, by decide, by decide, cl_37, ca_IndexOutOfBoundsException, by decide, rfl⟩
theorem hd_L_common_0 : am_HD RL (am_hh M_L_common) 5 "java/lang/IndexOutOfBoundsException" 13 := ⟨[], (0, 10, 13, 37), [], rfl, fun _ h9 => absurd h9 List.not_mem_nil, by decide, by decide, by decide, cl_37, ca_IndexOutOfBoundsException, by decide, rfl⟩
theorem hd_L_shared_0 : am_HD RL (am_hh M_L_shared) 9 "java/lang/IndexOutOfBoundsException" 17 := ⟨[], (0, 14, 17, 37), [], rfl, fun _ h9 => absurd h9 List.not_mem_nil, by decide, by decide, by decide, cl_37, ca_IndexOutOfBoundsException, by decide, rfl⟩
theorem hd_L_count_0 : am_HD RL (am_hh M_L_count) 4 "java/lang/IndexOutOfBoundsException" 12 := ⟨[], (0, 9, 12, 37), [(0, 9, 15, 31)], rfl, fun _ h9 => absurd h9 List.not_mem_nil, by decide, by decide, by decide, cl_37, ca_IndexOutOfBoundsException, by decide, rfl⟩
theorem hd_L_count_1 : am_HD RL (am_hh M_L_count) 4 "java/lang/UnsupportedOperationException" 15 := ⟨[(0, 9, 12, 37)], (0, 9, 15, 31), [], rfl, List.forall_mem_cons.mpr ⟨⟨by decide, "java/lang/IndexOutOfBoundsException", cl_37, by decide, by decide⟩, fun _ h9 => absurd h9 List.not_mem_nil⟩, by decide, by decide, by decide, cl_31, ca_UnsupportedOperationException, by decide, rfl⟩
theorem hd_L_runFrom_0 : am_HD RL (am_hh M_L_runFrom) 4 "java/lang/IndexOutOfBoundsException" 12 := ⟨[], (0, 9, 12, 37), [(0, 9, 15, 31), (0, 9, 18, 25)], rfl, fun _ h9 => absurd h9 List.not_mem_nil, by decide, by decide, by decide, cl_37, ca_IndexOutOfBoundsException, by decide, rfl⟩
theorem hd_L_runFrom_1 : am_HD RL (am_hh M_L_runFrom) 4 "java/lang/UnsupportedOperationException" 15 := ⟨[(0, 9, 12, 37)], (0, 9, 15, 31), [(0, 9, 18, 25)], rfl, List.forall_mem_cons.mpr ⟨⟨by decide, "java/lang/IndexOutOfBoundsException", cl_37, by decide, by decide⟩, fun _ h9 => absurd h9 List.not_mem_nil⟩, by decide, by decide, by decide, cl_31, ca_UnsupportedOperationException, by decide, rfl⟩
theorem hd_L_runFrom_2 : am_HD RL (am_hh M_L_runFrom) 4 "java/util/NoSuchElementException" 18 := ⟨[(0, 9, 12, 37), (0, 9, 15, 31)], (0, 9, 18, 25), [], rfl, List.forall_mem_cons.mpr ⟨⟨by decide, "java/lang/IndexOutOfBoundsException", cl_37, by decide, by decide⟩, List.forall_mem_cons.mpr ⟨⟨by decide, "java/lang/UnsupportedOperationException", cl_31, by decide, by decide⟩, fun _ h9 => absurd h9 List.not_mem_nil⟩⟩, by decide, by decide, by decide, cl_25, ca_NoSuchElementException, by decide, rfl⟩
theorem hd_L_standsAt_0 : am_HD RL (am_hh M_L_standsAt) 5 "java/lang/IndexOutOfBoundsException" 13 := ⟨[], (0, 10, 13, 37), [(0, 10, 17, 31), (0, 10, 21, 25)], rfl, fun _ h9 => absurd h9 List.not_mem_nil, by decide, by decide, by decide, cl_37, ca_IndexOutOfBoundsException, by decide, rfl⟩
theorem hd_L_standsAt_1 : am_HD RL (am_hh M_L_standsAt) 5 "java/lang/UnsupportedOperationException" 17 := ⟨[(0, 10, 13, 37)], (0, 10, 17, 31), [(0, 10, 21, 25)], rfl, List.forall_mem_cons.mpr ⟨⟨by decide, "java/lang/IndexOutOfBoundsException", cl_37, by decide, by decide⟩, fun _ h9 => absurd h9 List.not_mem_nil⟩, by decide, by decide, by decide, cl_31, ca_UnsupportedOperationException, by decide, rfl⟩
theorem hd_L_standsAt_2 : am_HD RL (am_hh M_L_standsAt) 5 "java/util/NoSuchElementException" 21 := ⟨[(0, 10, 13, 37), (0, 10, 17, 31)], (0, 10, 21, 25), [], rfl, List.forall_mem_cons.mpr ⟨⟨by decide, "java/lang/IndexOutOfBoundsException", cl_37, by decide, by decide⟩, List.forall_mem_cons.mpr ⟨⟨by decide, "java/lang/UnsupportedOperationException", cl_31, by decide, by decide⟩, fun _ h9 => absurd h9 List.not_mem_nil⟩⟩, by decide, by decide, by decide, cl_25, ca_NoSuchElementException, by decide, rfl⟩
theorem hd_L_tail_0 : am_HD RL (am_hh M_L_tail) 5 "java/lang/IndexOutOfBoundsException" 13 := ⟨[], (0, 10, 13, 37), [(0, 10, 17, 31), (0, 10, 21, 13)], rfl, fun _ h9 => absurd h9 List.not_mem_nil, by decide, by decide, by decide, cl_37, ca_IndexOutOfBoundsException, by decide, rfl⟩
theorem hd_L_tail_1 : am_HD RL (am_hh M_L_tail) 5 "java/lang/UnsupportedOperationException" 17 := ⟨[(0, 10, 13, 37)], (0, 10, 17, 31), [(0, 10, 21, 13)], rfl, List.forall_mem_cons.mpr ⟨⟨by decide, "java/lang/IndexOutOfBoundsException", cl_37, by decide, by decide⟩, fun _ h9 => absurd h9 List.not_mem_nil⟩, by decide, by decide, by decide, cl_31, ca_UnsupportedOperationException, by decide, rfl⟩
theorem hd_L_tail_2 : am_HD RL (am_hh M_L_tail) 5 "java/lang/IllegalArgumentException" 21 := ⟨[(0, 10, 13, 37), (0, 10, 17, 31)], (0, 10, 21, 13), [], rfl, List.forall_mem_cons.mpr ⟨⟨by decide, "java/lang/IndexOutOfBoundsException", cl_37, by decide, by decide⟩, List.forall_mem_cons.mpr ⟨⟨by decide, "java/lang/UnsupportedOperationException", cl_31, by decide, by decide⟩, fun _ h9 => absurd h9 List.not_mem_nil⟩⟩, by decide, by decide, by decide, cl_13, ca_IllegalArgumentException, by decide, rfl⟩
theorem hd_L_words_0 : am_HD RL (am_hh M_L_words) 4 "java/lang/IndexOutOfBoundsException" 11 := ⟨[], (0, 8, 11, 37), [], rfl, fun _ h9 => absurd h9 List.not_mem_nil, by decide, by decide, by decide, cl_37, ca_IndexOutOfBoundsException, by decide, rfl⟩
theorem hd_L_word_0 : am_HD RL (am_hh M_L_word) 5 "java/lang/IndexOutOfBoundsException" 13 := ⟨[], (0, 10, 13, 37), [(0, 10, 17, 25)], rfl, fun _ h9 => absurd h9 List.not_mem_nil, by decide, by decide, by decide, cl_37, ca_IndexOutOfBoundsException, by decide, rfl⟩
theorem hd_L_word_1 : am_HD RL (am_hh M_L_word) 5 "java/util/NoSuchElementException" 17 := ⟨[(0, 10, 13, 37)], (0, 10, 17, 25), [], rfl, List.forall_mem_cons.mpr ⟨⟨by decide, "java/lang/IndexOutOfBoundsException", cl_37, by decide, by decide⟩, fun _ h9 => absurd h9 List.not_mem_nil⟩, by decide, by decide, by decide, cl_25, ca_NoSuchElementException, by decide, rfl⟩
theorem hd_L_numberOf_0 : am_HD RL (am_hh M_L_numberOf) 4 "java/lang/IndexOutOfBoundsException" 12 := ⟨[], (0, 9, 12, 37), [(0, 9, 15, 31), (0, 9, 18, 25)], rfl, fun _ h9 => absurd h9 List.not_mem_nil, by decide, by decide, by decide, cl_37, ca_IndexOutOfBoundsException, by decide, rfl⟩
theorem hd_L_numberOf_1 : am_HD RL (am_hh M_L_numberOf) 4 "java/lang/UnsupportedOperationException" 15 := ⟨[(0, 9, 12, 37)], (0, 9, 15, 31), [(0, 9, 18, 25)], rfl, List.forall_mem_cons.mpr ⟨⟨by decide, "java/lang/IndexOutOfBoundsException", cl_37, by decide, by decide⟩, fun _ h9 => absurd h9 List.not_mem_nil⟩, by decide, by decide, by decide, cl_31, ca_UnsupportedOperationException, by decide, rfl⟩
theorem hd_L_numberOf_2 : am_HD RL (am_hh M_L_numberOf) 4 "java/util/NoSuchElementException" 18 := ⟨[(0, 9, 12, 37), (0, 9, 15, 31)], (0, 9, 18, 25), [], rfl, List.forall_mem_cons.mpr ⟨⟨by decide, "java/lang/IndexOutOfBoundsException", cl_37, by decide, by decide⟩, List.forall_mem_cons.mpr ⟨⟨by decide, "java/lang/UnsupportedOperationException", cl_31, by decide, by decide⟩, fun _ h9 => absurd h9 List.not_mem_nil⟩⟩, by decide, by decide, by decide, cl_25, ca_NoSuchElementException, by decide, rfl⟩
theorem hd_L_twice_0 : am_HD RL (am_hh M_L_twice) 4 "java/lang/IndexOutOfBoundsException" 12 := ⟨[], (0, 9, 12, 37), [], rfl, fun _ h9 => absurd h9 List.not_mem_nil, by decide, by decide, by decide, cl_37, ca_IndexOutOfBoundsException, by decide, rfl⟩
theorem hd_L_twiceAt_0 : am_HD RL (am_hh M_L_twiceAt) 4 "java/lang/IndexOutOfBoundsException" 12 := ⟨[], (0, 9, 12, 37), [(0, 9, 15, 25)], rfl, fun _ h9 => absurd h9 List.not_mem_nil, by decide, by decide, by decide, cl_37, ca_IndexOutOfBoundsException, by decide, rfl⟩
theorem hd_L_twiceAt_1 : am_HD RL (am_hh M_L_twiceAt) 4 "java/util/NoSuchElementException" 15 := ⟨[(0, 9, 12, 37)], (0, 9, 15, 25), [], rfl, List.forall_mem_cons.mpr ⟨⟨by decide, "java/lang/IndexOutOfBoundsException", cl_37, by decide, by decide⟩, fun _ h9 => absurd h9 List.not_mem_nil⟩, by decide, by decide, by decide, cl_25, ca_NoSuchElementException, by decide, rfl⟩
theorem hd_L_once_0 : am_HD RL (am_hh M_L_once) 4 "java/lang/IndexOutOfBoundsException" 12 := ⟨[], (0, 9, 12, 37), [(0, 9, 15, 25)], rfl, fun _ h9 => absurd h9 List.not_mem_nil, by decide, by decide, by decide, cl_37, ca_IndexOutOfBoundsException, by decide, rfl⟩
theorem hd_L_once_1 : am_HD RL (am_hh M_L_once) 4 "java/util/NoSuchElementException" 15 := ⟨[(0, 9, 12, 37)], (0, 9, 15, 25), [], rfl, List.forall_mem_cons.mpr ⟨⟨by decide, "java/lang/IndexOutOfBoundsException", cl_37, by decide, by decide⟩, fun _ h9 => absurd h9 List.not_mem_nil⟩, by decide, by decide, by decide, cl_25, ca_NoSuchElementException, by decide, rfl⟩
theorem hd_L_onceAt_0 : am_HD RL (am_hh M_L_onceAt) 4 "java/lang/IndexOutOfBoundsException" 12 := ⟨[], (0, 9, 12, 37), [(0, 9, 15, 25)], rfl, fun _ h9 => absurd h9 List.not_mem_nil, by decide, by decide, by decide, cl_37, ca_IndexOutOfBoundsException, by decide, rfl⟩
theorem hd_L_onceAt_1 : am_HD RL (am_hh M_L_onceAt) 4 "java/util/NoSuchElementException" 15 := ⟨[(0, 9, 12, 37)], (0, 9, 15, 25), [], rfl, List.forall_mem_cons.mpr ⟨⟨by decide, "java/lang/IndexOutOfBoundsException", cl_37, by decide, by decide⟩, fun _ h9 => absurd h9 List.not_mem_nil⟩, by decide, by decide, by decide, cl_25, ca_NoSuchElementException, by decide, rfl⟩
theorem hd_L_longestIn_0 : am_HD RL (am_hh M_L_longestIn) 4 "java/lang/IllegalArgumentException" 12 := ⟨[], (0, 9, 12, 13), [(0, 9, 15, 25)], rfl, fun _ h9 => absurd h9 List.not_mem_nil, by decide, by decide, by decide, cl_13, ca_IllegalArgumentException, by decide, rfl⟩
theorem hd_L_longestIn_1 : am_HD RL (am_hh M_L_longestIn) 4 "java/util/NoSuchElementException" 15 := ⟨[(0, 9, 12, 13)], (0, 9, 15, 25), [], rfl, List.forall_mem_cons.mpr ⟨⟨by decide, "java/lang/IllegalArgumentException", cl_13, by decide, by decide⟩, fun _ h9 => absurd h9 List.not_mem_nil⟩, by decide, by decide, by decide, cl_25, ca_NoSuchElementException, by decide, rfl⟩
theorem hd_L_first_0 : am_HD RL (am_hh M_L_first) 5 "java/lang/IndexOutOfBoundsException" 13 := ⟨[], (0, 10, 13, 37), [], rfl, fun _ h9 => absurd h9 List.not_mem_nil, by decide, by decide, by decide, cl_37, ca_IndexOutOfBoundsException, by decide, rfl⟩
theorem hd_L_last_0 : am_HD RL (am_hh M_L_last) 5 "java/lang/IndexOutOfBoundsException" 13 := ⟨[], (0, 10, 13, 37), [], rfl, fun _ h9 => absurd h9 List.not_mem_nil, by decide, by decide, by decide, cl_37, ca_IndexOutOfBoundsException, by decide, rfl⟩
theorem hd_L_back_0 : am_HD RL (am_hh M_L_back) 5 "java/lang/IndexOutOfBoundsException" 13 := ⟨[], (0, 10, 13, 37), [], rfl, fun _ h9 => absurd h9 List.not_mem_nil, by decide, by decide, by decide, cl_37, ca_IndexOutOfBoundsException, by decide, rfl⟩
theorem hd_L_runs_0 : am_HD RL (am_hh M_L_runs) 4 "java/lang/IndexOutOfBoundsException" 12 := ⟨[], (0, 9, 12, 37), [], rfl, fun _ h9 => absurd h9 List.not_mem_nil, by decide, by decide, by decide, cl_37, ca_IndexOutOfBoundsException, by decide, rfl⟩
theorem hd_L_front_0 : am_HD RL (am_hh M_L_front) 5 "java/lang/IndexOutOfBoundsException" 13 := ⟨[], (0, 10, 13, 37), [], rfl, fun _ h9 => absurd h9 List.not_mem_nil, by decide, by decide, by decide, cl_37, ca_IndexOutOfBoundsException, by decide, rfl⟩
theorem hd_L_column_0 : am_HD RL (am_hh M_L_column) 4 "java/lang/IndexOutOfBoundsException" 12 := ⟨[], (0, 9, 12, 37), [], rfl, fun _ h9 => absurd h9 List.not_mem_nil, by decide, by decide, by decide, cl_37, ca_IndexOutOfBoundsException, by decide, rfl⟩
theorem hd_L_undo_0 : am_HD RL (am_hh M_L_undo) 3 "java/lang/UnsupportedOperationException" 11 := ⟨[], (0, 8, 11, 31), [(0, 8, 14, 15)], rfl, fun _ h9 => absurd h9 List.not_mem_nil, by decide, by decide, by decide, cl_31, ca_UnsupportedOperationException, by decide, rfl⟩
theorem hd_L_undo_1 : am_HD RL (am_hh M_L_undo) 3 "java/lang/IllegalStateException" 14 := ⟨[(0, 8, 11, 31)], (0, 8, 14, 15), [], rfl, List.forall_mem_cons.mpr ⟨⟨by decide, "java/lang/UnsupportedOperationException", cl_31, by decide, by decide⟩, fun _ h9 => absurd h9 List.not_mem_nil⟩, by decide, by decide, by decide, cl_15, ca_IllegalStateException, by decide, rfl⟩
theorem hd_L_squares_0 : am_HD RL (am_hh M_L_squares) 4 "java/lang/IndexOutOfBoundsException" 12 := ⟨[], (0, 9, 12, 37), [], rfl, fun _ h9 => absurd h9 List.not_mem_nil, by decide, by decide, by decide, cl_37, ca_IndexOutOfBoundsException, by decide, rfl⟩
theorem hd_L_squareAt_0 : am_HD RL (am_hh M_L_squareAt) 5 "java/lang/IndexOutOfBoundsException" 13 := ⟨[], (0, 10, 13, 37), [(0, 10, 17, 25)], rfl, fun _ h9 => absurd h9 List.not_mem_nil, by decide, by decide, by decide, cl_37, ca_IndexOutOfBoundsException, by decide, rfl⟩
theorem hd_L_squareAt_1 : am_HD RL (am_hh M_L_squareAt) 5 "java/util/NoSuchElementException" 17 := ⟨[(0, 10, 13, 37)], (0, 10, 17, 25), [], rfl, List.forall_mem_cons.mpr ⟨⟨by decide, "java/lang/IndexOutOfBoundsException", cl_37, by decide, by decide⟩, fun _ h9 => absurd h9 List.not_mem_nil⟩, by decide, by decide, by decide, cl_25, ca_NoSuchElementException, by decide, rfl⟩
theorem hd_L_period_0 : am_HD RL (am_hh M_L_period) 4 "java/lang/IndexOutOfBoundsException" 12 := ⟨[], (0, 9, 12, 37), [(0, 9, 15, 25)], rfl, fun _ h9 => absurd h9 List.not_mem_nil, by decide, by decide, by decide, cl_37, ca_IndexOutOfBoundsException, by decide, rfl⟩
theorem hd_L_period_1 : am_HD RL (am_hh M_L_period) 4 "java/util/NoSuchElementException" 15 := ⟨[(0, 9, 12, 37)], (0, 9, 15, 25), [], rfl, List.forall_mem_cons.mpr ⟨⟨by decide, "java/lang/IndexOutOfBoundsException", cl_37, by decide, by decide⟩, fun _ h9 => absurd h9 List.not_mem_nil⟩, by decide, by decide, by decide, cl_25, ca_NoSuchElementException, by decide, rfl⟩
theorem hd_L_turnAt_0 : am_HD RL (am_hh M_L_turnAt) 4 "java/lang/IndexOutOfBoundsException" 12 := ⟨[], (0, 9, 12, 37), [(0, 9, 15, 25)], rfl, fun _ h9 => absurd h9 List.not_mem_nil, by decide, by decide, by decide, cl_37, ca_IndexOutOfBoundsException, by decide, rfl⟩
theorem hd_L_turnAt_1 : am_HD RL (am_hh M_L_turnAt) 4 "java/util/NoSuchElementException" 15 := ⟨[(0, 9, 12, 37)], (0, 9, 15, 25), [], rfl, List.forall_mem_cons.mpr ⟨⟨by decide, "java/lang/IndexOutOfBoundsException", cl_37, by decide, by decide⟩, fun _ h9 => absurd h9 List.not_mem_nil⟩, by decide, by decide, by decide, cl_25, ca_NoSuchElementException, by decide, rfl⟩
theorem hd_L_parts_0 : am_HD RL (am_hh M_L_parts) 4 "java/lang/IndexOutOfBoundsException" 12 := ⟨[], (0, 9, 12, 37), [], rfl, fun _ h9 => absurd h9 List.not_mem_nil, by decide, by decide, by decide, cl_37, ca_IndexOutOfBoundsException, by decide, rfl⟩
theorem hd_L_partAt_0 : am_HD RL (am_hh M_L_partAt) 5 "java/lang/IndexOutOfBoundsException" 13 := ⟨[], (0, 10, 13, 37), [], rfl, fun _ h9 => absurd h9 List.not_mem_nil, by decide, by decide, by decide, cl_37, ca_IndexOutOfBoundsException, by decide, rfl⟩
theorem hd_L_pieces_0 : am_HD RL (am_hh M_L_pieces) 4 "java/lang/IndexOutOfBoundsException" 12 := ⟨[], (0, 9, 12, 37), [], rfl, fun _ h9 => absurd h9 List.not_mem_nil, by decide, by decide, by decide, cl_37, ca_IndexOutOfBoundsException, by decide, rfl⟩
theorem hd_L_pieceLength_0 : am_HD RL (am_hh M_L_pieceLength) 5 "java/lang/IndexOutOfBoundsException" 13 := ⟨[], (0, 10, 13, 37), [], rfl, fun _ h9 => absurd h9 List.not_mem_nil, by decide, by decide, by decide, cl_37, ca_IndexOutOfBoundsException, by decide, rfl⟩
theorem hd_L_pieceFrom_0 : am_HD RL (am_hh M_L_pieceFrom) 5 "java/lang/IndexOutOfBoundsException" 13 := ⟨[], (0, 10, 13, 37), [(0, 10, 17, 25)], rfl, fun _ h9 => absurd h9 List.not_mem_nil, by decide, by decide, by decide, cl_37, ca_IndexOutOfBoundsException, by decide, rfl⟩
theorem hd_L_pieceFrom_1 : am_HD RL (am_hh M_L_pieceFrom) 5 "java/util/NoSuchElementException" 17 := ⟨[(0, 10, 13, 37)], (0, 10, 17, 25), [], rfl, List.forall_mem_cons.mpr ⟨⟨by decide, "java/lang/IndexOutOfBoundsException", cl_37, by decide, by decide⟩, fun _ h9 => absurd h9 List.not_mem_nil⟩, by decide, by decide, by decide, cl_25, ca_NoSuchElementException, by decide, rfl⟩
theorem hd_L_fewest_0 : am_HD RL (am_hh M_L_fewest) 4 "java/lang/IndexOutOfBoundsException" 12 := ⟨[], (0, 9, 12, 37), [], rfl, fun _ h9 => absurd h9 List.not_mem_nil, by decide, by decide, by decide, cl_37, ca_IndexOutOfBoundsException, by decide, rfl⟩
theorem hd_L_commonShare_0 : am_HD RL (am_hh M_L_commonShare) 4 "java/lang/IndexOutOfBoundsException" 12 := ⟨[], (0, 9, 12, 37), [(0, 9, 15, 179)], rfl, fun _ h9 => absurd h9 List.not_mem_nil, by decide, by decide, by decide, cl_37, ca_IndexOutOfBoundsException, by decide, rfl⟩
theorem hd_L_commonShare_1 : am_HD RL (am_hh M_L_commonShare) 4 "java/lang/ArithmeticException" 15 := ⟨[(0, 9, 12, 37)], (0, 9, 15, 179), [], rfl, List.forall_mem_cons.mpr ⟨⟨by decide, "java/lang/IndexOutOfBoundsException", cl_37, by decide, by decide⟩, fun _ h9 => absurd h9 List.not_mem_nil⟩, by decide, by decide, by decide, cl_179, ca_ArithmeticException, by decide, rfl⟩
theorem hd_L_meanCommon_0 : am_HD RL (am_hh M_L_meanCommon) 4 "java/lang/IndexOutOfBoundsException" 11 := ⟨[], (0, 8, 11, 37), [(0, 8, 14, 179)], rfl, fun _ h9 => absurd h9 List.not_mem_nil, by decide, by decide, by decide, cl_37, ca_IndexOutOfBoundsException, by decide, rfl⟩
theorem hd_L_meanCommon_1 : am_HD RL (am_hh M_L_meanCommon) 4 "java/lang/ArithmeticException" 14 := ⟨[(0, 8, 11, 37)], (0, 8, 14, 179), [], rfl, List.forall_mem_cons.mpr ⟨⟨by decide, "java/lang/IndexOutOfBoundsException", cl_37, by decide, by decide⟩, fun _ h9 => absurd h9 List.not_mem_nil⟩, by decide, by decide, by decide, cl_179, ca_ArithmeticException, by decide, rfl⟩
