theorem S_L_type_0 {kc ks : Nat} {h : Hh} {Q : PQ} {X : PX} {x1 : Int}
    (k : (1 ≤ kc ∧ 6 ≤ ks) ∧ am_V M_X10_type 1 6 0 [aR 0, aI x1] [] am_R0 h (fun v ρ' h' => am_V M_L_type (kc - 1) (ks - 6) 7 [aU, aU, aU, aU] (v ++ [aI 0, aR 81]) ρ' h' Q X) (fun Ex ρ' h' => (Ex = "java/lang/IllegalArgumentException" ∧ am_V M_L_type (kc - 1) (ks - 6) 13 [aU, aU, aU, aU] [] ρ' h' Q X) ∨ (Ex = "java/lang/IllegalStateException" ∧ am_V M_L_type (kc - 1) (ks - 6) 16 [aU, aU, aU, aU] [] ρ' h' Q X))) :
    am_V M_L_type kc ks 0 [aR 0, aI x1, aR 81, aU] [] am_R0 h Q X := by
  obtain ⟨⟨b0_1, b0_2⟩, k⟩ := k
  refine v_aload_n dL_type_0 rfl rfl ?_
  refine v_iconst dL_type_1 ⟨by decide, by decide⟩ ?_
  refine v_aload_n dL_type_2 rfl rfl ?_
  refine v_iload_n dL_type_3 rfl rfl ?_
  refine v_weak (E2 := [aU, aU, aU, aU]) ⟨Or.inr rfl, ⟨Or.inr rfl, ⟨Or.inr rfl, ⟨Or.inl rfl, trivial⟩⟩⟩⟩ ?_
  refine v_callH (j := M_X10_type) (As := [aI x1]) (st := [aI 0, aR 81]) (a := 0) (ci := 8) (N := 10) (E0 := [aR 0, aI x1]) (q9 := (RX10, TX10, 10)) dL_type_4 ml_L_7 J_X10_type b0_1 b0_2 (Nat.le_of_ble_eq_true rfl) (Nat.le_of_ble_eq_true rfl) (List.forall_mem_cons.mpr ⟨rfl, List.forall_mem_cons.mpr ⟨rfl, fun _ h9 => absurd h9 List.not_mem_nil⟩⟩) (Nat.le_of_ble_eq_true rfl) rfl rfl rfl rfl pn_X10_type rfl (v_mono k (fun _ _ _ z => z) (fun Ex ρ9 h9 z => ?_))
  rcases z with ⟨rfl, z⟩ | ⟨rfl, z⟩
  · refine ⟨12, 3, 1, hd_L_type_0, (Nat.le_of_ble_eq_true rfl), Or.inl ⟨3, dL_type_12, rfl, rfl⟩, ?_⟩
    exact z
  · refine ⟨15, 3, 1, hd_L_type_1, (Nat.le_of_ble_eq_true rfl), Or.inl ⟨3, dL_type_15, rfl, rfl⟩, ?_⟩
    exact z
theorem S_L_type_7 {kc ks : Nat} {h : Hh} {Q : PQ} {X : PX} {xs0 : Int}
    (k : ((0 : Int) ≤ 0 ∧ (0 : Int) < 1) ∧ Q [aI 0] am_R0 (am_st h 81 0 xs0)) :
    am_V M_L_type kc ks 7 [aU, aU, aU, aU] [aI xs0, aI 0, aR 81] am_R0 h Q X := by
  obtain ⟨⟨b0_1, b0_2⟩, k⟩ := k
  refine v_i2l dL_type_7 ?_
  refine v_last dL_type_8 rfl b0_1 b0_2 ?_
  refine v_goto (tgt := 18) dL_type_9 (by decide) ?_
  refine v_iconst dL_type_18 ⟨by decide, by decide⟩ ?_
  exact v_iret dL_type_19 rfl rfl k
theorem S_L_type_13 {kc ks : Nat} {h : Hh} {Q : PQ} {X : PX} 
    (k : Q [aI 1] am_R0 h) :
    am_V M_L_type kc ks 13 [aU, aU, aU, aU] [] am_R0 h Q X := by
  refine v_iconst dL_type_13 ⟨by decide, by decide⟩ ?_
  exact v_iret dL_type_14 rfl rfl k
theorem S_L_type_16 {kc ks : Nat} {h : Hh} {Q : PQ} {X : PX} 
    (k : Q [aI 2] am_R0 h) :
    am_V M_L_type kc ks 16 [aU, aU, aU, aU] [] am_R0 h Q X := by
  refine v_iconst dL_type_16 ⟨by decide, by decide⟩ ?_
  exact v_iret dL_type_17 rfl rfl k
theorem S_L_typeMore_0 {kc ks : Nat} {h : Hh} {Q : PQ} {X : PX} {x1 : Int} {x2 : Int} {x3 : Int} {x4 : Int} {x5 : Int} {x6 : Int} {x7 : Int} {x8 : Int} {x9 : Int}
    (k : (1 ≤ kc ∧ 6 ≤ ks) ∧ am_V M_X10_typeMore 1 6 0 [aR 0, aI x1, aI x2, aI x3, aI x4, aI x5, aI x6, aI x7, aI x8, aI x9, aU] [] am_R0 h (fun v ρ' h' => am_V M_L_typeMore (kc - 1) (ks - 6) 22 [aU, aU, aU, aU, aU, aU, aU, aU, aU, aU, aU, aU] (v ++ [aI 0, aR 81]) ρ' h' Q X) (fun Ex ρ' h' => (Ex = "java/lang/IllegalArgumentException" ∧ am_V M_L_typeMore (kc - 1) (ks - 6) 29 [aU, aU, aU, aU, aU, aU, aU, aU, aU, aU, aU, aU] [] ρ' h' Q X) ∨ (Ex = "java/lang/IllegalStateException" ∧ am_V M_L_typeMore (kc - 1) (ks - 6) 33 [aU, aU, aU, aU, aU, aU, aU, aU, aU, aU, aU, aU] [] ρ' h' Q X))) :
    am_V M_L_typeMore kc ks 0 [aR 0, aI x1, aI x2, aI x3, aI x4, aI x5, aI x6, aI x7, aI x8, aI x9, aR 81, aU] [] am_R0 h Q X := by
  obtain ⟨⟨b0_1, b0_2⟩, k⟩ := k
  refine v_aload dL_typeMore_0 rfl ?_
  refine v_iconst dL_typeMore_2 ⟨by decide, by decide⟩ ?_
  refine v_aload_n dL_typeMore_3 rfl rfl ?_
  refine v_iload_n dL_typeMore_4 rfl rfl ?_
  refine v_iload_n dL_typeMore_5 rfl rfl ?_
  refine v_iload_n dL_typeMore_6 rfl rfl ?_
  refine v_iload dL_typeMore_7 rfl ?_
  refine v_iload dL_typeMore_9 rfl ?_
  refine v_iload dL_typeMore_11 rfl ?_
  refine v_iload dL_typeMore_13 rfl ?_
  refine v_iload dL_typeMore_15 rfl ?_
  refine v_iload dL_typeMore_17 rfl ?_
  refine v_weak (E2 := [aU, aU, aU, aU, aU, aU, aU, aU, aU, aU, aU, aU]) ⟨Or.inr rfl, ⟨Or.inr rfl, ⟨Or.inr rfl, ⟨Or.inr rfl, ⟨Or.inr rfl, ⟨Or.inr rfl, ⟨Or.inr rfl, ⟨Or.inr rfl, ⟨Or.inr rfl, ⟨Or.inr rfl, ⟨Or.inr rfl, ⟨Or.inl rfl, trivial⟩⟩⟩⟩⟩⟩⟩⟩⟩⟩⟩⟩ ?_
  refine v_callH (j := M_X10_typeMore) (As := [aI x1, aI x2, aI x3, aI x4, aI x5, aI x6, aI x7, aI x8, aI x9]) (st := [aI 0, aR 81]) (a := 0) (ci := 8) (N := 10) (E0 := [aR 0, aI x1, aI x2, aI x3, aI x4, aI x5, aI x6, aI x7, aI x8, aI x9, aU]) (q9 := (RX10, TX10, 10)) dL_typeMore_19 ml_L_17 J_X10_typeMore b0_1 b0_2 (Nat.le_of_ble_eq_true rfl) (Nat.le_of_ble_eq_true rfl) (List.forall_mem_cons.mpr ⟨rfl, List.forall_mem_cons.mpr ⟨rfl, List.forall_mem_cons.mpr ⟨rfl, List.forall_mem_cons.mpr ⟨rfl, List.forall_mem_cons.mpr ⟨rfl, List.forall_mem_cons.mpr ⟨rfl, List.forall_mem_cons.mpr ⟨rfl, List.forall_mem_cons.mpr ⟨rfl, List.forall_mem_cons.mpr ⟨rfl, List.forall_mem_cons.mpr ⟨rfl, fun _ h9 => absurd h9 List.not_mem_nil⟩⟩⟩⟩⟩⟩⟩⟩⟩⟩) (Nat.le_of_ble_eq_true rfl) rfl rfl rfl rfl pn_X10_typeMore rfl (v_mono k (fun _ _ _ z => z) (fun Ex ρ9 h9 z => ?_))
  rcases z with ⟨rfl, z⟩ | ⟨rfl, z⟩
  · refine ⟨27, 11, 2, hd_L_typeMore_0, (Nat.le_of_ble_eq_true rfl), Or.inr ⟨dL_typeMore_27, rfl⟩, ?_⟩
    exact z
  · refine ⟨31, 11, 2, hd_L_typeMore_1, (Nat.le_of_ble_eq_true rfl), Or.inr ⟨dL_typeMore_31, rfl⟩, ?_⟩
    exact z
theorem S_L_typeMore_22 {kc ks : Nat} {h : Hh} {Q : PQ} {X : PX} {xs0 : Int}
    (k : ((0 : Int) ≤ 0 ∧ (0 : Int) < 1) ∧ Q [aI 0] am_R0 (am_st h 81 0 xs0)) :
    am_V M_L_typeMore kc ks 22 [aU, aU, aU, aU, aU, aU, aU, aU, aU, aU, aU, aU] [aI xs0, aI 0, aR 81] am_R0 h Q X := by
  obtain ⟨⟨b0_1, b0_2⟩, k⟩ := k
  refine v_i2l dL_typeMore_22 ?_
  refine v_last dL_typeMore_23 rfl b0_1 b0_2 ?_
  refine v_goto (tgt := 35) dL_typeMore_24 (by decide) ?_
  refine v_iconst dL_typeMore_35 ⟨by decide, by decide⟩ ?_
  exact v_iret dL_typeMore_36 rfl rfl k
theorem S_L_typeMore_29 {kc ks : Nat} {h : Hh} {Q : PQ} {X : PX} 
    (k : Q [aI 1] am_R0 h) :
    am_V M_L_typeMore kc ks 29 [aU, aU, aU, aU, aU, aU, aU, aU, aU, aU, aU, aU] [] am_R0 h Q X := by
  refine v_iconst dL_typeMore_29 ⟨by decide, by decide⟩ ?_
  exact v_iret dL_typeMore_30 rfl rfl k
theorem S_L_typeMore_33 {kc ks : Nat} {h : Hh} {Q : PQ} {X : PX} 
    (k : Q [aI 2] am_R0 h) :
    am_V M_L_typeMore kc ks 33 [aU, aU, aU, aU, aU, aU, aU, aU, aU, aU, aU, aU] [] am_R0 h Q X := by
  refine v_iconst dL_typeMore_33 ⟨by decide, by decide⟩ ?_
  exact v_iret dL_typeMore_34 rfl rfl k
theorem S_L_typed_0 {kc ks : Nat} {h : Hh} {Q : PQ} {X : PX} {x1 : Int}
    (k : (1 ≤ kc ∧ 6 ≤ ks) ∧ am_V M_X10_typed 1 6 0 [aR 0, aI x1] [] am_R0 h (fun v ρ' h' => am_V M_L_typed (kc - 1) (ks - 6) 7 [aU, aU, aU, aU] (v ++ [aI 0, aR 81]) ρ' h' Q X) (fun Ex ρ' h' => (Ex = "java/util/NoSuchElementException" ∧ am_V M_L_typed (kc - 1) (ks - 6) 13 [aU, aU, aU, aU] [] ρ' h' Q X))) :
    am_V M_L_typed kc ks 0 [aR 0, aI x1, aR 81, aU] [] am_R0 h Q X := by
  obtain ⟨⟨b0_1, b0_2⟩, k⟩ := k
  refine v_aload_n dL_typed_0 rfl rfl ?_
  refine v_iconst dL_typed_1 ⟨by decide, by decide⟩ ?_
  refine v_aload_n dL_typed_2 rfl rfl ?_
  refine v_iload_n dL_typed_3 rfl rfl ?_
  refine v_weak (E2 := [aU, aU, aU, aU]) ⟨Or.inr rfl, ⟨Or.inr rfl, ⟨Or.inr rfl, ⟨Or.inl rfl, trivial⟩⟩⟩⟩ ?_
  refine v_callH (j := M_X10_typed) (As := [aI x1]) (st := [aI 0, aR 81]) (a := 0) (ci := 8) (N := 10) (E0 := [aR 0, aI x1]) (q9 := (RX10, TX10, 10)) dL_typed_4 ml_L_21 J_X10_typed b0_1 b0_2 (Nat.le_of_ble_eq_true rfl) (Nat.le_of_ble_eq_true rfl) (List.forall_mem_cons.mpr ⟨rfl, List.forall_mem_cons.mpr ⟨rfl, fun _ h9 => absurd h9 List.not_mem_nil⟩⟩) (Nat.le_of_ble_eq_true rfl) rfl rfl rfl rfl pn_X10_typed rfl (v_mono k (fun _ _ _ z => z) (fun Ex ρ9 h9 z => ?_))
  obtain ⟨rfl, z⟩ := z
  refine ⟨12, 3, 1, hd_L_typed_0, (Nat.le_of_ble_eq_true rfl), Or.inl ⟨3, dL_typed_12, rfl, rfl⟩, ?_⟩
  exact z
theorem S_L_typed_7 {kc ks : Nat} {h : Hh} {Q : PQ} {X : PX} {xs0 : Int}
    (k : ((0 : Int) ≤ 0 ∧ (0 : Int) < 1) ∧ Q [aI 0] am_R0 (am_st h 81 0 xs0)) :
    am_V M_L_typed kc ks 7 [aU, aU, aU, aU] [aI xs0, aI 0, aR 81] am_R0 h Q X := by
  obtain ⟨⟨b0_1, b0_2⟩, k⟩ := k
  refine v_i2l dL_typed_7 ?_
  refine v_last dL_typed_8 rfl b0_1 b0_2 ?_
  refine v_goto (tgt := 15) dL_typed_9 (by decide) ?_
  refine v_iconst dL_typed_15 ⟨by decide, by decide⟩ ?_
  exact v_iret dL_typed_16 rfl rfl k
theorem S_L_typed_13 {kc ks : Nat} {h : Hh} {Q : PQ} {X : PX} 
    (k : Q [aI 1] am_R0 h) :
    am_V M_L_typed kc ks 13 [aU, aU, aU, aU] [] am_R0 h Q X := by
  refine v_iconst dL_typed_13 ⟨by decide, by decide⟩ ?_
  exact v_iret dL_typed_14 rfl rfl k
theorem S_L_text_0 {kc ks : Nat} {h : Hh} {Q : PQ} {X : PX} 
    (k : (2 ≤ kc ∧ 12 ≤ ks) ∧ am_V M_X10_text 2 12 0 [aR 0, aU] [] am_R0 h (fun v ρ' h' => am_V M_L_text (kc - 2) (ks - 12) 6 [aU, aU, aU] (v ++ [aI 0, aR 81]) ρ' h' Q X) (fun Ex ρ' h' => (Ex = "java/lang/UnsupportedOperationException" ∧ am_V M_L_text (kc - 2) (ks - 12) 12 [aU, aU, aU] [] ρ' h' Q X) ∨ (Ex = "java/lang/IllegalStateException" ∧ am_V M_L_text (kc - 2) (ks - 12) 15 [aU, aU, aU] [] ρ' h' Q X))) :
    am_V M_L_text kc ks 0 [aR 0, aR 81, aU] [] am_R0 h Q X := by
  obtain ⟨⟨b0_1, b0_2⟩, k⟩ := k
  refine v_aload_n dL_text_0 rfl rfl ?_
  refine v_iconst dL_text_1 ⟨by decide, by decide⟩ ?_
  refine v_aload_n dL_text_2 rfl rfl ?_
  refine v_weak (E2 := [aU, aU, aU]) ⟨Or.inr rfl, ⟨Or.inr rfl, ⟨Or.inl rfl, trivial⟩⟩⟩ ?_
  refine v_callH (j := M_X10_text) (As := []) (st := [aI 0, aR 81]) (a := 0) (ci := 8) (N := 10) (E0 := [aR 0, aU]) (q9 := (RX10, TX10, 10)) dL_text_3 ml_L_27 J_X10_text b0_1 b0_2 (Nat.le_of_ble_eq_true rfl) (Nat.le_of_ble_eq_true rfl) (List.forall_mem_cons.mpr ⟨rfl, fun _ h9 => absurd h9 List.not_mem_nil⟩) (Nat.le_of_ble_eq_true rfl) rfl rfl rfl rfl pn_X10_text rfl (v_mono k (fun _ _ _ z => z) (fun Ex ρ9 h9 z => ?_))
  rcases z with ⟨rfl, z⟩ | ⟨rfl, z⟩
  · refine ⟨11, 2, 1, hd_L_text_0, (Nat.le_of_ble_eq_true rfl), Or.inl ⟨2, dL_text_11, rfl, rfl⟩, ?_⟩
    exact z
  · refine ⟨14, 2, 1, hd_L_text_1, (Nat.le_of_ble_eq_true rfl), Or.inl ⟨2, dL_text_14, rfl, rfl⟩, ?_⟩
    exact z
theorem S_L_text_6 {kc ks : Nat} {h : Hh} {Q : PQ} {X : PX} {xs0 : Int}
    (k : ((0 : Int) ≤ 0 ∧ (0 : Int) < 1) ∧ Q [aI 0] am_R0 (am_st h 81 0 xs0)) :
    am_V M_L_text kc ks 6 [aU, aU, aU] [aI xs0, aI 0, aR 81] am_R0 h Q X := by
  obtain ⟨⟨b0_1, b0_2⟩, k⟩ := k
  refine v_i2l dL_text_6 ?_
  refine v_last dL_text_7 rfl b0_1 b0_2 ?_
  refine v_goto (tgt := 17) dL_text_8 (by decide) ?_
  refine v_iconst dL_text_17 ⟨by decide, by decide⟩ ?_
  exact v_iret dL_text_18 rfl rfl k
theorem S_L_text_12 {kc ks : Nat} {h : Hh} {Q : PQ} {X : PX} 
    (k : Q [aI 1] am_R0 h) :
    am_V M_L_text kc ks 12 [aU, aU, aU] [] am_R0 h Q X := by
  refine v_iconst dL_text_12 ⟨by decide, by decide⟩ ?_
  exact v_iret dL_text_13 rfl rfl k
theorem S_L_text_15 {kc ks : Nat} {h : Hh} {Q : PQ} {X : PX} 
    (k : Q [aI 2] am_R0 h) :
    am_V M_L_text kc ks 15 [aU, aU, aU] [] am_R0 h Q X := by
  refine v_iconst dL_text_15 ⟨by decide, by decide⟩ ?_
  exact v_iret dL_text_16 rfl rfl k
theorem S_L_take_0 {kc ks : Nat} {h : Hh} {Q : PQ} {X : PX} {x1 : Int}
    (k : (1 ≤ kc ∧ 6 ≤ ks) ∧ am_V M_X10_take 1 6 0 [aR 0, aI x1, aU] [] am_R0 h (fun v ρ' h' => am_V M_L_take (kc - 1) (ks - 6) 7 [aU, aU, aU, aU] (v ++ [aI 0, aR 81]) ρ' h' Q X) (fun Ex ρ' h' => (Ex = "java/lang/IndexOutOfBoundsException" ∧ am_V M_L_take (kc - 1) (ks - 6) 13 [aU, aU, aU, aU] [] ρ' h' Q X))) :
    am_V M_L_take kc ks 0 [aR 0, aI x1, aR 81, aU] [] am_R0 h Q X := by
  obtain ⟨⟨b0_1, b0_2⟩, k⟩ := k
  refine v_aload_n dL_take_0 rfl rfl ?_
  refine v_iconst dL_take_1 ⟨by decide, by decide⟩ ?_
  refine v_aload_n dL_take_2 rfl rfl ?_
  refine v_iload_n dL_take_3 rfl rfl ?_
  refine v_weak (E2 := [aU, aU, aU, aU]) ⟨Or.inr rfl, ⟨Or.inr rfl, ⟨Or.inr rfl, ⟨Or.inl rfl, trivial⟩⟩⟩⟩ ?_
  refine v_callH (j := M_X10_take) (As := [aI x1]) (st := [aI 0, aR 81]) (a := 0) (ci := 8) (N := 10) (E0 := [aR 0, aI x1, aU]) (q9 := (RX10, TX10, 10)) dL_take_4 ml_L_33 J_X10_take b0_1 b0_2 (Nat.le_of_ble_eq_true rfl) (Nat.le_of_ble_eq_true rfl) (List.forall_mem_cons.mpr ⟨rfl, List.forall_mem_cons.mpr ⟨rfl, fun _ h9 => absurd h9 List.not_mem_nil⟩⟩) (Nat.le_of_ble_eq_true rfl) rfl rfl rfl rfl pn_X10_take rfl (v_mono k (fun _ _ _ z => z) (fun Ex ρ9 h9 z => ?_))
  obtain ⟨rfl, z⟩ := z
  refine ⟨12, 3, 1, hd_L_take_0, (Nat.le_of_ble_eq_true rfl), Or.inl ⟨3, dL_take_12, rfl, rfl⟩, ?_⟩
  exact z
theorem S_L_take_7 {kc ks : Nat} {h : Hh} {Q : PQ} {X : PX} {xs0 : Int}
    (k : ((0 : Int) ≤ 0 ∧ (0 : Int) < 1) ∧ Q [aI 0] am_R0 (am_st h 81 0 xs0)) :
    am_V M_L_take kc ks 7 [aU, aU, aU, aU] [aI xs0, aI 0, aR 81] am_R0 h Q X := by
  obtain ⟨⟨b0_1, b0_2⟩, k⟩ := k
  refine v_i2l dL_take_7 ?_
  refine v_last dL_take_8 rfl b0_1 b0_2 ?_
  refine v_goto (tgt := 15) dL_take_9 (by decide) ?_
  refine v_iconst dL_take_15 ⟨by decide, by decide⟩ ?_
  exact v_iret dL_take_16 rfl rfl k
theorem S_L_take_13 {kc ks : Nat} {h : Hh} {Q : PQ} {X : PX} 
    (k : Q [aI 1] am_R0 h) :
    am_V M_L_take kc ks 13 [aU, aU, aU, aU] [] am_R0 h Q X := by
  refine v_iconst dL_take_13 ⟨by decide, by decide⟩ ?_
  exact v_iret dL_take_14 rfl rfl k
theorem S_L_length_0 {kc ks : Nat} {h : Hh} {Q : PQ} {X : PX} {x1 : Int}
    (k : (1 ≤ kc ∧ 6 ≤ ks) ∧ am_V M_X10_length 1 6 0 [aR 0, aI x1] [] am_R0 h (fun v ρ' h' => am_V M_L_length (kc - 1) (ks - 6) 7 [aU, aU, aU, aU] (v ++ [aI 0, aR 81]) ρ' h' Q X) (fun Ex ρ' h' => (Ex = "java/lang/IndexOutOfBoundsException" ∧ am_V M_L_length (kc - 1) (ks - 6) 13 [aU, aU, aU, aU] [] ρ' h' Q X))) :
    am_V M_L_length kc ks 0 [aR 0, aI x1, aR 81, aU] [] am_R0 h Q X := by
  obtain ⟨⟨b0_1, b0_2⟩, k⟩ := k
  refine v_aload_n dL_length_0 rfl rfl ?_
  refine v_iconst dL_length_1 ⟨by decide, by decide⟩ ?_
  refine v_aload_n dL_length_2 rfl rfl ?_
  refine v_iload_n dL_length_3 rfl rfl ?_
  refine v_weak (E2 := [aU, aU, aU, aU]) ⟨Or.inr rfl, ⟨Or.inr rfl, ⟨Or.inr rfl, ⟨Or.inl rfl, trivial⟩⟩⟩⟩ ?_
  refine v_callH (j := M_X10_length) (As := [aI x1]) (st := [aI 0, aR 81]) (a := 0) (ci := 8) (N := 10) (E0 := [aR 0, aI x1]) (q9 := (RX10, TX10, 10)) dL_length_4 ml_L_39 J_X10_length b0_1 b0_2 (Nat.le_of_ble_eq_true rfl) (Nat.le_of_ble_eq_true rfl) (List.forall_mem_cons.mpr ⟨rfl, List.forall_mem_cons.mpr ⟨rfl, fun _ h9 => absurd h9 List.not_mem_nil⟩⟩) (Nat.le_of_ble_eq_true rfl) rfl rfl rfl rfl pn_X10_length rfl (v_mono k (fun _ _ _ z => z) (fun Ex ρ9 h9 z => ?_))
  obtain ⟨rfl, z⟩ := z
  refine ⟨12, 3, 1, hd_L_length_0, (Nat.le_of_ble_eq_true rfl), Or.inl ⟨3, dL_length_12, rfl, rfl⟩, ?_⟩
  exact z
theorem S_L_length_7 {kc ks : Nat} {h : Hh} {Q : PQ} {X : PX} {xs0 : Int}
    (k : ((0 : Int) ≤ 0 ∧ (0 : Int) < 1) ∧ Q [aI 0] am_R0 (am_st h 81 0 xs0)) :
    am_V M_L_length kc ks 7 [aU, aU, aU, aU] [aI xs0, aI 0, aR 81] am_R0 h Q X := by
  obtain ⟨⟨b0_1, b0_2⟩, k⟩ := k
  refine v_i2l dL_length_7 ?_
  refine v_last dL_length_8 rfl b0_1 b0_2 ?_
  refine v_goto (tgt := 15) dL_length_9 (by decide) ?_
  refine v_iconst dL_length_15 ⟨by decide, by decide⟩ ?_
  exact v_iret dL_length_16 rfl rfl k
theorem S_L_length_13 {kc ks : Nat} {h : Hh} {Q : PQ} {X : PX} 
    (k : Q [aI 1] am_R0 h) :
    am_V M_L_length kc ks 13 [aU, aU, aU, aU] [] am_R0 h Q X := by
  refine v_iconst dL_length_13 ⟨by decide, by decide⟩ ?_
  exact v_iret dL_length_14 rfl rfl k
theorem S_L_signAt_0 {kc ks : Nat} {h : Hh} {Q : PQ} {X : PX} {x1 : Int} {x2 : Int}
    (k : (2 ≤ kc ∧ 12 ≤ ks) ∧ am_V M_X10_signAt 2 12 0 [aR 0, aI x1, aI x2] [] am_R0 h (fun v ρ' h' => am_V M_L_signAt (kc - 2) (ks - 12) 8 [aU, aU, aU, aU, aU] (v ++ [aI 0, aR 81]) ρ' h' Q X) (fun Ex ρ' h' => (Ex = "java/lang/IndexOutOfBoundsException" ∧ am_V M_L_signAt (kc - 2) (ks - 12) 15 [aU, aU, aU, aU, aU] [] ρ' h' Q X))) :
    am_V M_L_signAt kc ks 0 [aR 0, aI x1, aI x2, aR 81, aU] [] am_R0 h Q X := by
  obtain ⟨⟨b0_1, b0_2⟩, k⟩ := k
  refine v_aload_n dL_signAt_0 rfl rfl ?_
  refine v_iconst dL_signAt_1 ⟨by decide, by decide⟩ ?_
  refine v_aload_n dL_signAt_2 rfl rfl ?_
  refine v_iload_n dL_signAt_3 rfl rfl ?_
  refine v_iload_n dL_signAt_4 rfl rfl ?_
  refine v_weak (E2 := [aU, aU, aU, aU, aU]) ⟨Or.inr rfl, ⟨Or.inr rfl, ⟨Or.inr rfl, ⟨Or.inr rfl, ⟨Or.inl rfl, trivial⟩⟩⟩⟩⟩ ?_
  refine v_callH (j := M_X10_signAt) (As := [aI x1, aI x2]) (st := [aI 0, aR 81]) (a := 0) (ci := 8) (N := 10) (E0 := [aR 0, aI x1, aI x2]) (q9 := (RX10, TX10, 10)) dL_signAt_5 ml_L_42 J_X10_signAt b0_1 b0_2 (Nat.le_of_ble_eq_true rfl) (Nat.le_of_ble_eq_true rfl) (List.forall_mem_cons.mpr ⟨rfl, List.forall_mem_cons.mpr ⟨rfl, List.forall_mem_cons.mpr ⟨rfl, fun _ h9 => absurd h9 List.not_mem_nil⟩⟩⟩) (Nat.le_of_ble_eq_true rfl) rfl rfl rfl rfl pn_X10_signAt rfl (v_mono k (fun _ _ _ z => z) (fun Ex ρ9 h9 z => ?_))
  obtain ⟨rfl, z⟩ := z
  refine ⟨13, 4, 2, hd_L_signAt_0, (Nat.le_of_ble_eq_true rfl), Or.inr ⟨dL_signAt_13, rfl⟩, ?_⟩
  exact z
theorem S_L_signAt_8 {kc ks : Nat} {h : Hh} {Q : PQ} {X : PX} {xs0 : Int}
    (k : ((0 : Int) ≤ 0 ∧ (0 : Int) < 1) ∧ Q [aI 0] am_R0 (am_st h 81 0 xs0)) :
    am_V M_L_signAt kc ks 8 [aU, aU, aU, aU, aU] [aI xs0, aI 0, aR 81] am_R0 h Q X := by
  obtain ⟨⟨b0_1, b0_2⟩, k⟩ := k
  refine v_i2l dL_signAt_8 ?_
  refine v_last dL_signAt_9 rfl b0_1 b0_2 ?_
  refine v_goto (tgt := 17) dL_signAt_10 (by decide) ?_
  refine v_iconst dL_signAt_17 ⟨by decide, by decide⟩ ?_
  exact v_iret dL_signAt_18 rfl rfl k
theorem S_L_signAt_15 {kc ks : Nat} {h : Hh} {Q : PQ} {X : PX} 
    (k : Q [aI 1] am_R0 h) :
    am_V M_L_signAt kc ks 15 [aU, aU, aU, aU, aU] [] am_R0 h Q X := by
  refine v_iconst dL_signAt_15 ⟨by decide, by decide⟩ ?_
  exact v_iret dL_signAt_16 rfl rfl k
theorem S_L_join_0 {kc ks : Nat} {h : Hh} {Q : PQ} {X : PX} {x1 : Int} {x2 : Int}
    (k : (4 ≤ kc ∧ 24 ≤ ks) ∧ am_V M_X10_join 4 24 0 [aR 0, aI x1, aI x2, aU, aU, aU] [] am_R0 h (fun v ρ' h' => am_V M_L_join (kc - 4) (ks - 24) 8 [aU, aU, aU, aU, aU] (v ++ [aI 0, aR 81]) ρ' h' Q X) (fun Ex ρ' h' => (Ex = "java/lang/IndexOutOfBoundsException" ∧ am_V M_L_join (kc - 4) (ks - 24) 15 [aU, aU, aU, aU, aU] [] ρ' h' Q X) ∨ (Ex = "java/lang/UnsupportedOperationException" ∧ am_V M_L_join (kc - 4) (ks - 24) 19 [aU, aU, aU, aU, aU] [] ρ' h' Q X) ∨ (Ex = "java/lang/IllegalStateException" ∧ am_V M_L_join (kc - 4) (ks - 24) 23 [aU, aU, aU, aU, aU] [] ρ' h' Q X))) :
    am_V M_L_join kc ks 0 [aR 0, aI x1, aI x2, aR 81, aU] [] am_R0 h Q X := by
  obtain ⟨⟨b0_1, b0_2⟩, k⟩ := k
  refine v_aload_n dL_join_0 rfl rfl ?_
  refine v_iconst dL_join_1 ⟨by decide, by decide⟩ ?_
  refine v_aload_n dL_join_2 rfl rfl ?_
  refine v_iload_n dL_join_3 rfl rfl ?_
  refine v_iload_n dL_join_4 rfl rfl ?_
  refine v_weak (E2 := [aU, aU, aU, aU, aU]) ⟨Or.inr rfl, ⟨Or.inr rfl, ⟨Or.inr rfl, ⟨Or.inr rfl, ⟨Or.inl rfl, trivial⟩⟩⟩⟩⟩ ?_
  refine v_callH (j := M_X10_join) (As := [aI x1, aI x2]) (st := [aI 0, aR 81]) (a := 0) (ci := 8) (N := 10) (E0 := [aR 0, aI x1, aI x2, aU, aU, aU]) (q9 := (RX10, TX10, 10)) dL_join_5 ml_L_46 J_X10_join b0_1 b0_2 (Nat.le_of_ble_eq_true rfl) (Nat.le_of_ble_eq_true rfl) (List.forall_mem_cons.mpr ⟨rfl, List.forall_mem_cons.mpr ⟨rfl, List.forall_mem_cons.mpr ⟨rfl, fun _ h9 => absurd h9 List.not_mem_nil⟩⟩⟩) (Nat.le_of_ble_eq_true rfl) rfl rfl rfl rfl pn_X10_join rfl (v_mono k (fun _ _ _ z => z) (fun Ex ρ9 h9 z => ?_))
  rcases z with ⟨rfl, z⟩ | ⟨rfl, z⟩ | ⟨rfl, z⟩
  · refine ⟨13, 4, 2, hd_L_join_0, (Nat.le_of_ble_eq_true rfl), Or.inr ⟨dL_join_13, rfl⟩, ?_⟩
    exact z
  · refine ⟨17, 4, 2, hd_L_join_1, (Nat.le_of_ble_eq_true rfl), Or.inr ⟨dL_join_17, rfl⟩, ?_⟩
    exact z
  · refine ⟨21, 4, 2, hd_L_join_2, (Nat.le_of_ble_eq_true rfl), Or.inr ⟨dL_join_21, rfl⟩, ?_⟩
    exact z
theorem S_L_join_8 {kc ks : Nat} {h : Hh} {Q : PQ} {X : PX} {xs0 : Int}
    (k : ((0 : Int) ≤ 0 ∧ (0 : Int) < 1) ∧ Q [aI 0] am_R0 (am_st h 81 0 xs0)) :
    am_V M_L_join kc ks 8 [aU, aU, aU, aU, aU] [aI xs0, aI 0, aR 81] am_R0 h Q X := by
  obtain ⟨⟨b0_1, b0_2⟩, k⟩ := k
  refine v_i2l dL_join_8 ?_
  refine v_last dL_join_9 rfl b0_1 b0_2 ?_
  refine v_goto (tgt := 25) dL_join_10 (by decide) ?_
  refine v_iconst dL_join_25 ⟨by decide, by decide⟩ ?_
  exact v_iret dL_join_26 rfl rfl k
theorem S_L_join_15 {kc ks : Nat} {h : Hh} {Q : PQ} {X : PX} 
    (k : Q [aI 1] am_R0 h) :
    am_V M_L_join kc ks 15 [aU, aU, aU, aU, aU] [] am_R0 h Q X := by
  refine v_iconst dL_join_15 ⟨by decide, by decide⟩ ?_
  exact v_iret dL_join_16 rfl rfl k
theorem S_L_join_19 {kc ks : Nat} {h : Hh} {Q : PQ} {X : PX} 
    (k : Q [aI 2] am_R0 h) :
    am_V M_L_join kc ks 19 [aU, aU, aU, aU, aU] [] am_R0 h Q X := by
  refine v_iconst dL_join_19 ⟨by decide, by decide⟩ ?_
  exact v_iret dL_join_20 rfl rfl k
theorem S_L_join_23 {kc ks : Nat} {h : Hh} {Q : PQ} {X : PX} 
    (k : Q [aI 3] am_R0 h) :
    am_V M_L_join kc ks 23 [aU, aU, aU, aU, aU] [] am_R0 h Q X := by
  refine v_iconst dL_join_23 ⟨by decide, by decide⟩ ?_
  exact v_iret dL_join_24 rfl rfl k
theorem S_L_mirror_0 {kc ks : Nat} {h : Hh} {Q : PQ} {X : PX} {x1 : Int}
    (k : (2 ≤ kc ∧ 12 ≤ ks) ∧ am_V M_X10_mirror 2 12 0 [aR 0, aI x1, aU, aU] [] am_R0 h (fun v ρ' h' => am_V M_L_mirror (kc - 2) (ks - 12) 7 [aU, aU, aU, aU] (v ++ [aI 0, aR 81]) ρ' h' Q X) (fun Ex ρ' h' => (Ex = "java/lang/IndexOutOfBoundsException" ∧ am_V M_L_mirror (kc - 2) (ks - 12) 13 [aU, aU, aU, aU] [] ρ' h' Q X) ∨ (Ex = "java/lang/IllegalStateException" ∧ am_V M_L_mirror (kc - 2) (ks - 12) 16 [aU, aU, aU, aU] [] ρ' h' Q X))) :
    am_V M_L_mirror kc ks 0 [aR 0, aI x1, aR 81, aU] [] am_R0 h Q X := by
  obtain ⟨⟨b0_1, b0_2⟩, k⟩ := k
  refine v_aload_n dL_mirror_0 rfl rfl ?_
  refine v_iconst dL_mirror_1 ⟨by decide, by decide⟩ ?_
  refine v_aload_n dL_mirror_2 rfl rfl ?_
  refine v_iload_n dL_mirror_3 rfl rfl ?_
  refine v_weak (E2 := [aU, aU, aU, aU]) ⟨Or.inr rfl, ⟨Or.inr rfl, ⟨Or.inr rfl, ⟨Or.inl rfl, trivial⟩⟩⟩⟩ ?_
  refine v_callH (j := M_X10_mirror) (As := [aI x1]) (st := [aI 0, aR 81]) (a := 0) (ci := 8) (N := 10) (E0 := [aR 0, aI x1, aU, aU]) (q9 := (RX10, TX10, 10)) dL_mirror_4 ml_L_50 J_X10_mirror b0_1 b0_2 (Nat.le_of_ble_eq_true rfl) (Nat.le_of_ble_eq_true rfl) (List.forall_mem_cons.mpr ⟨rfl, List.forall_mem_cons.mpr ⟨rfl, fun _ h9 => absurd h9 List.not_mem_nil⟩⟩) (Nat.le_of_ble_eq_true rfl) rfl rfl rfl rfl pn_X10_mirror rfl (v_mono k (fun _ _ _ z => z) (fun Ex ρ9 h9 z => ?_))
  rcases z with ⟨rfl, z⟩ | ⟨rfl, z⟩
  · refine ⟨12, 3, 1, hd_L_mirror_0, (Nat.le_of_ble_eq_true rfl), Or.inl ⟨3, dL_mirror_12, rfl, rfl⟩, ?_⟩
    exact z
  · refine ⟨15, 3, 1, hd_L_mirror_1, (Nat.le_of_ble_eq_true rfl), Or.inl ⟨3, dL_mirror_15, rfl, rfl⟩, ?_⟩
    exact z
theorem S_L_mirror_7 {kc ks : Nat} {h : Hh} {Q : PQ} {X : PX} {xs0 : Int}
    (k : ((0 : Int) ≤ 0 ∧ (0 : Int) < 1) ∧ Q [aI 0] am_R0 (am_st h 81 0 xs0)) :
    am_V M_L_mirror kc ks 7 [aU, aU, aU, aU] [aI xs0, aI 0, aR 81] am_R0 h Q X := by
  obtain ⟨⟨b0_1, b0_2⟩, k⟩ := k
  refine v_i2l dL_mirror_7 ?_
  refine v_last dL_mirror_8 rfl b0_1 b0_2 ?_
  refine v_goto (tgt := 18) dL_mirror_9 (by decide) ?_
  refine v_iconst dL_mirror_18 ⟨by decide, by decide⟩ ?_
  exact v_iret dL_mirror_19 rfl rfl k
theorem S_L_mirror_13 {kc ks : Nat} {h : Hh} {Q : PQ} {X : PX} 
    (k : Q [aI 1] am_R0 h) :
    am_V M_L_mirror kc ks 13 [aU, aU, aU, aU] [] am_R0 h Q X := by
  refine v_iconst dL_mirror_13 ⟨by decide, by decide⟩ ?_
  exact v_iret dL_mirror_14 rfl rfl k
theorem S_L_mirror_16 {kc ks : Nat} {h : Hh} {Q : PQ} {X : PX} 
    (k : Q [aI 2] am_R0 h) :
    am_V M_L_mirror kc ks 16 [aU, aU, aU, aU] [] am_R0 h Q X := by
  refine v_iconst dL_mirror_16 ⟨by decide, by decide⟩ ?_
  exact v_iret dL_mirror_17 rfl rfl k
theorem S_L_change_0 {kc ks : Nat} {h : Hh} {Q : PQ} {X : PX} {x1 : Int} {x2 : Int} {x3 : Int}
    (k : (3 ≤ kc ∧ 18 ≤ ks) ∧ am_V M_X10_change 3 18 0 [aR 0, aI x1, aI x2, aI x3, aU, aU] [] am_R0 h (fun v ρ' h' => am_V M_L_change (kc - 3) (ks - 18) 10 [aU, aU, aU, aU, aU, aU] (v ++ [aI 0, aR 81]) ρ' h' Q X) (fun Ex ρ' h' => (Ex = "java/lang/IndexOutOfBoundsException" ∧ am_V M_L_change (kc - 3) (ks - 18) 17 [aU, aU, aU, aU, aU, aU] [] ρ' h' Q X) ∨ (Ex = "java/lang/IllegalArgumentException" ∧ am_V M_L_change (kc - 3) (ks - 18) 21 [aU, aU, aU, aU, aU, aU] [] ρ' h' Q X))) :
    am_V M_L_change kc ks 0 [aR 0, aI x1, aI x2, aI x3, aR 81, aU] [] am_R0 h Q X := by
  obtain ⟨⟨b0_1, b0_2⟩, k⟩ := k
  refine v_aload dL_change_0 rfl ?_
  refine v_iconst dL_change_2 ⟨by decide, by decide⟩ ?_
  refine v_aload_n dL_change_3 rfl rfl ?_
  refine v_iload_n dL_change_4 rfl rfl ?_
  refine v_iload_n dL_change_5 rfl rfl ?_
  refine v_iload_n dL_change_6 rfl rfl ?_
  refine v_weak (E2 := [aU, aU, aU, aU, aU, aU]) ⟨Or.inr rfl, ⟨Or.inr rfl, ⟨Or.inr rfl, ⟨Or.inr rfl, ⟨Or.inr rfl, ⟨Or.inl rfl, trivial⟩⟩⟩⟩⟩⟩ ?_
  refine v_callH (j := M_X10_change) (As := [aI x1, aI x2, aI x3]) (st := [aI 0, aR 81]) (a := 0) (ci := 8) (N := 10) (E0 := [aR 0, aI x1, aI x2, aI x3, aU, aU]) (q9 := (RX10, TX10, 10)) dL_change_7 ml_L_53 J_X10_change b0_1 b0_2 (Nat.le_of_ble_eq_true rfl) (Nat.le_of_ble_eq_true rfl) (List.forall_mem_cons.mpr ⟨rfl, List.forall_mem_cons.mpr ⟨rfl, List.forall_mem_cons.mpr ⟨rfl, List.forall_mem_cons.mpr ⟨rfl, fun _ h9 => absurd h9 List.not_mem_nil⟩⟩⟩⟩) (Nat.le_of_ble_eq_true rfl) rfl rfl rfl rfl pn_X10_change rfl (v_mono k (fun _ _ _ z => z) (fun Ex ρ9 h9 z => ?_))
  rcases z with ⟨rfl, z⟩ | ⟨rfl, z⟩
  · refine ⟨15, 5, 2, hd_L_change_0, (Nat.le_of_ble_eq_true rfl), Or.inr ⟨dL_change_15, rfl⟩, ?_⟩
    exact z
  · refine ⟨19, 5, 2, hd_L_change_1, (Nat.le_of_ble_eq_true rfl), Or.inr ⟨dL_change_19, rfl⟩, ?_⟩
    exact z
theorem S_L_change_10 {kc ks : Nat} {h : Hh} {Q : PQ} {X : PX} {xs0 : Int}
    (k : ((0 : Int) ≤ 0 ∧ (0 : Int) < 1) ∧ Q [aI 0] am_R0 (am_st h 81 0 xs0)) :
    am_V M_L_change kc ks 10 [aU, aU, aU, aU, aU, aU] [aI xs0, aI 0, aR 81] am_R0 h Q X := by
  obtain ⟨⟨b0_1, b0_2⟩, k⟩ := k
  refine v_i2l dL_change_10 ?_
  refine v_last dL_change_11 rfl b0_1 b0_2 ?_
  refine v_goto (tgt := 23) dL_change_12 (by decide) ?_
  refine v_iconst dL_change_23 ⟨by decide, by decide⟩ ?_
  exact v_iret dL_change_24 rfl rfl k
theorem S_L_change_17 {kc ks : Nat} {h : Hh} {Q : PQ} {X : PX} 
    (k : Q [aI 1] am_R0 h) :
    am_V M_L_change kc ks 17 [aU, aU, aU, aU, aU, aU] [] am_R0 h Q X := by
  refine v_iconst dL_change_17 ⟨by decide, by decide⟩ ?_
  exact v_iret dL_change_18 rfl rfl k
theorem S_L_change_21 {kc ks : Nat} {h : Hh} {Q : PQ} {X : PX} 
    (k : Q [aI 2] am_R0 h) :
    am_V M_L_change kc ks 21 [aU, aU, aU, aU, aU, aU] [] am_R0 h Q X := by
  refine v_iconst dL_change_21 ⟨by decide, by decide⟩ ?_
  exact v_iret dL_change_22 rfl rfl k
theorem S_L_ahead_0 {kc ks : Nat} {h : Hh} {Q : PQ} {X : PX} {x1 : Int} {x2 : Int}
    (k : (2 ≤ kc ∧ 12 ≤ ks) ∧ am_V M_X10_ahead 2 12 0 [aR 0, aI x1, aI x2, aU] [] am_R0 h (fun v ρ' h' => am_V M_L_ahead (kc - 2) (ks - 12) 8 [aU, aU, aU, aU, aU] (v ++ [aI 0, aR 81]) ρ' h' Q X) (fun Ex ρ' h' => (Ex = "java/lang/IndexOutOfBoundsException" ∧ am_V M_L_ahead (kc - 2) (ks - 12) 15 [aU, aU, aU, aU, aU] [] ρ' h' Q X) ∨ (Ex = "java/lang/IllegalArgumentException" ∧ am_V M_L_ahead (kc - 2) (ks - 12) 19 [aU, aU, aU, aU, aU] [] ρ' h' Q X) ∨ (Ex = "java/lang/IllegalStateException" ∧ am_V M_L_ahead (kc - 2) (ks - 12) 23 [aU, aU, aU, aU, aU] [] ρ' h' Q X))) :
    am_V M_L_ahead kc ks 0 [aR 0, aI x1, aI x2, aR 81, aU] [] am_R0 h Q X := by
  obtain ⟨⟨b0_1, b0_2⟩, k⟩ := k
  refine v_aload_n dL_ahead_0 rfl rfl ?_
  refine v_iconst dL_ahead_1 ⟨by decide, by decide⟩ ?_
  refine v_aload_n dL_ahead_2 rfl rfl ?_
  refine v_iload_n dL_ahead_3 rfl rfl ?_
  refine v_iload_n dL_ahead_4 rfl rfl ?_
  refine v_weak (E2 := [aU, aU, aU, aU, aU]) ⟨Or.inr rfl, ⟨Or.inr rfl, ⟨Or.inr rfl, ⟨Or.inr rfl, ⟨Or.inl rfl, trivial⟩⟩⟩⟩⟩ ?_
  refine v_callH (j := M_X10_ahead) (As := [aI x1, aI x2]) (st := [aI 0, aR 81]) (a := 0) (ci := 8) (N := 10) (E0 := [aR 0, aI x1, aI x2, aU]) (q9 := (RX10, TX10, 10)) dL_ahead_5 ml_L_57 J_X10_ahead b0_1 b0_2 (Nat.le_of_ble_eq_true rfl) (Nat.le_of_ble_eq_true rfl) (List.forall_mem_cons.mpr ⟨rfl, List.forall_mem_cons.mpr ⟨rfl, List.forall_mem_cons.mpr ⟨rfl, fun _ h9 => absurd h9 List.not_mem_nil⟩⟩⟩) (Nat.le_of_ble_eq_true rfl) rfl rfl rfl rfl pn_X10_ahead rfl (v_mono k (fun _ _ _ z => z) (fun Ex ρ9 h9 z => ?_))
  rcases z with ⟨rfl, z⟩ | ⟨rfl, z⟩ | ⟨rfl, z⟩
  · refine ⟨13, 4, 2, hd_L_ahead_0, (Nat.le_of_ble_eq_true rfl), Or.inr ⟨dL_ahead_13, rfl⟩, ?_⟩
    exact z
  · refine ⟨17, 4, 2, hd_L_ahead_1, (Nat.le_of_ble_eq_true rfl), Or.inr ⟨dL_ahead_17, rfl⟩, ?_⟩
    exact z
  · refine ⟨21, 4, 2, hd_L_ahead_2, (Nat.le_of_ble_eq_true rfl), Or.inr ⟨dL_ahead_21, rfl⟩, ?_⟩
    exact z
theorem S_L_ahead_8 {kc ks : Nat} {h : Hh} {Q : PQ} {X : PX} {xs0 : Int}
    (k : ((0 : Int) ≤ 0 ∧ (0 : Int) < 1) ∧ Q [aI 0] am_R0 (am_st h 81 0 xs0)) :
    am_V M_L_ahead kc ks 8 [aU, aU, aU, aU, aU] [aI xs0, aI 0, aR 81] am_R0 h Q X := by
  obtain ⟨⟨b0_1, b0_2⟩, k⟩ := k
  refine v_i2l dL_ahead_8 ?_
  refine v_last dL_ahead_9 rfl b0_1 b0_2 ?_
  refine v_goto (tgt := 25) dL_ahead_10 (by decide) ?_
  refine v_iconst dL_ahead_25 ⟨by decide, by decide⟩ ?_
  exact v_iret dL_ahead_26 rfl rfl k
theorem S_L_ahead_15 {kc ks : Nat} {h : Hh} {Q : PQ} {X : PX} 
    (k : Q [aI 1] am_R0 h) :
    am_V M_L_ahead kc ks 15 [aU, aU, aU, aU, aU] [] am_R0 h Q X := by
  refine v_iconst dL_ahead_15 ⟨by decide, by decide⟩ ?_
  exact v_iret dL_ahead_16 rfl rfl k
theorem S_L_ahead_19 {kc ks : Nat} {h : Hh} {Q : PQ} {X : PX} 
    (k : Q [aI 2] am_R0 h) :
    am_V M_L_ahead kc ks 19 [aU, aU, aU, aU, aU] [] am_R0 h Q X := by
  refine v_iconst dL_ahead_19 ⟨by decide, by decide⟩ ?_
  exact v_iret dL_ahead_20 rfl rfl k
theorem S_L_ahead_23 {kc ks : Nat} {h : Hh} {Q : PQ} {X : PX} 
    (k : Q [aI 3] am_R0 h) :
    am_V M_L_ahead kc ks 23 [aU, aU, aU, aU, aU] [] am_R0 h Q X := by
  refine v_iconst dL_ahead_23 ⟨by decide, by decide⟩ ?_
  exact v_iret dL_ahead_24 rfl rfl k
theorem S_L_chop_0 {kc ks : Nat} {h : Hh} {Q : PQ} {X : PX} {x1 : Int}
    (k : (2 ≤ kc ∧ 12 ≤ ks) ∧ am_V M_X10_chop 2 12 0 [aR 0, aI x1, aU, aU] [] am_R0 h (fun v ρ' h' => am_V M_L_chop (kc - 2) (ks - 12) 7 [aU, aU, aU, aU] (v ++ [aI 0, aR 81]) ρ' h' Q X) (fun Ex ρ' h' => (Ex = "java/lang/IndexOutOfBoundsException" ∧ am_V M_L_chop (kc - 2) (ks - 12) 13 [aU, aU, aU, aU] [] ρ' h' Q X) ∨ (Ex = "java/util/NoSuchElementException" ∧ am_V M_L_chop (kc - 2) (ks - 12) 16 [aU, aU, aU, aU] [] ρ' h' Q X))) :
    am_V M_L_chop kc ks 0 [aR 0, aI x1, aR 81, aU] [] am_R0 h Q X := by
  obtain ⟨⟨b0_1, b0_2⟩, k⟩ := k
  refine v_aload_n dL_chop_0 rfl rfl ?_
  refine v_iconst dL_chop_1 ⟨by decide, by decide⟩ ?_
  refine v_aload_n dL_chop_2 rfl rfl ?_
  refine v_iload_n dL_chop_3 rfl rfl ?_
  refine v_weak (E2 := [aU, aU, aU, aU]) ⟨Or.inr rfl, ⟨Or.inr rfl, ⟨Or.inr rfl, ⟨Or.inl rfl, trivial⟩⟩⟩⟩ ?_
  refine v_callH (j := M_X10_chop) (As := [aI x1]) (st := [aI 0, aR 81]) (a := 0) (ci := 8) (N := 10) (E0 := [aR 0, aI x1, aU, aU]) (q9 := (RX10, TX10, 10)) dL_chop_4 ml_L_61 J_X10_chop b0_1 b0_2 (Nat.le_of_ble_eq_true rfl) (Nat.le_of_ble_eq_true rfl) (List.forall_mem_cons.mpr ⟨rfl, List.forall_mem_cons.mpr ⟨rfl, fun _ h9 => absurd h9 List.not_mem_nil⟩⟩) (Nat.le_of_ble_eq_true rfl) rfl rfl rfl rfl pn_X10_chop rfl (v_mono k (fun _ _ _ z => z) (fun Ex ρ9 h9 z => ?_))
  rcases z with ⟨rfl, z⟩ | ⟨rfl, z⟩
  · refine ⟨12, 3, 1, hd_L_chop_0, (Nat.le_of_ble_eq_true rfl), Or.inl ⟨3, dL_chop_12, rfl, rfl⟩, ?_⟩
    exact z
  · refine ⟨15, 3, 1, hd_L_chop_1, (Nat.le_of_ble_eq_true rfl), Or.inl ⟨3, dL_chop_15, rfl, rfl⟩, ?_⟩
    exact z
theorem S_L_chop_7 {kc ks : Nat} {h : Hh} {Q : PQ} {X : PX} {xs0 : Int}
    (k : ((0 : Int) ≤ 0 ∧ (0 : Int) < 1) ∧ Q [aI 0] am_R0 (am_st h 81 0 xs0)) :
    am_V M_L_chop kc ks 7 [aU, aU, aU, aU] [aI xs0, aI 0, aR 81] am_R0 h Q X := by
  obtain ⟨⟨b0_1, b0_2⟩, k⟩ := k
  refine v_i2l dL_chop_7 ?_
  refine v_last dL_chop_8 rfl b0_1 b0_2 ?_
  refine v_goto (tgt := 18) dL_chop_9 (by decide) ?_
  refine v_iconst dL_chop_18 ⟨by decide, by decide⟩ ?_
  exact v_iret dL_chop_19 rfl rfl k
theorem S_L_chop_13 {kc ks : Nat} {h : Hh} {Q : PQ} {X : PX} 
    (k : Q [aI 1] am_R0 h) :
    am_V M_L_chop kc ks 13 [aU, aU, aU, aU] [] am_R0 h Q X := by
  refine v_iconst dL_chop_13 ⟨by decide, by decide⟩ ?_
  exact v_iret dL_chop_14 rfl rfl k
theorem S_L_chop_16 {kc ks : Nat} {h : Hh} {Q : PQ} {X : PX} 
    (k : Q [aI 2] am_R0 h) :
    am_V M_L_chop kc ks 16 [aU, aU, aU, aU] [] am_R0 h Q X := by
  refine v_iconst dL_chop_16 ⟨by decide, by decide⟩ ?_
  exact v_iret dL_chop_17 rfl rfl k
theorem S_L_endAt_0 {kc ks : Nat} {h : Hh} {Q : PQ} {X : PX} {x1 : Int} {x2 : Int}
    (k : (2 ≤ kc ∧ 12 ≤ ks) ∧ am_V M_X10_endAt 2 12 0 [aR 0, aI x1, aI x2] [] am_R0 h (fun v ρ' h' => am_V M_L_endAt (kc - 2) (ks - 12) 8 [aU, aU, aU, aU, aU] (v ++ [aI 0, aR 81]) ρ' h' Q X) (fun Ex ρ' h' => (Ex = "java/lang/IndexOutOfBoundsException" ∧ am_V M_L_endAt (kc - 2) (ks - 12) 15 [aU, aU, aU, aU, aU] [] ρ' h' Q X))) :
    am_V M_L_endAt kc ks 0 [aR 0, aI x1, aI x2, aR 81, aU] [] am_R0 h Q X := by
  obtain ⟨⟨b0_1, b0_2⟩, k⟩ := k
  refine v_aload_n dL_endAt_0 rfl rfl ?_
  refine v_iconst dL_endAt_1 ⟨by decide, by decide⟩ ?_
  refine v_aload_n dL_endAt_2 rfl rfl ?_
  refine v_iload_n dL_endAt_3 rfl rfl ?_
  refine v_iload_n dL_endAt_4 rfl rfl ?_
  refine v_weak (E2 := [aU, aU, aU, aU, aU]) ⟨Or.inr rfl, ⟨Or.inr rfl, ⟨Or.inr rfl, ⟨Or.inr rfl, ⟨Or.inl rfl, trivial⟩⟩⟩⟩⟩ ?_
  refine v_callH (j := M_X10_endAt) (As := [aI x1, aI x2]) (st := [aI 0, aR 81]) (a := 0) (ci := 8) (N := 10) (E0 := [aR 0, aI x1, aI x2]) (q9 := (RX10, TX10, 10)) dL_endAt_5 ml_L_64 J_X10_endAt b0_1 b0_2 (Nat.le_of_ble_eq_true rfl) (Nat.le_of_ble_eq_true rfl) (List.forall_mem_cons.mpr ⟨rfl, List.forall_mem_cons.mpr ⟨rfl, List.forall_mem_cons.mpr ⟨rfl, fun _ h9 => absurd h9 List.not_mem_nil⟩⟩⟩) (Nat.le_of_ble_eq_true rfl) rfl rfl rfl rfl pn_X10_endAt rfl (v_mono k (fun _ _ _ z => z) (fun Ex ρ9 h9 z => ?_))
  obtain ⟨rfl, z⟩ := z
  refine ⟨13, 4, 2, hd_L_endAt_0, (Nat.le_of_ble_eq_true rfl), Or.inr ⟨dL_endAt_13, rfl⟩, ?_⟩
  exact z
theorem S_L_endAt_8 {kc ks : Nat} {h : Hh} {Q : PQ} {X : PX} {xs0 : Int}
    (k : ((0 : Int) ≤ 0 ∧ (0 : Int) < 1) ∧ Q [aI 0] am_R0 (am_st h 81 0 xs0)) :
    am_V M_L_endAt kc ks 8 [aU, aU, aU, aU, aU] [aI xs0, aI 0, aR 81] am_R0 h Q X := by
  obtain ⟨⟨b0_1, b0_2⟩, k⟩ := k
  refine v_i2l dL_endAt_8 ?_
  refine v_last dL_endAt_9 rfl b0_1 b0_2 ?_
  refine v_goto (tgt := 17) dL_endAt_10 (by decide) ?_
  refine v_iconst dL_endAt_17 ⟨by decide, by decide⟩ ?_
  exact v_iret dL_endAt_18 rfl rfl k
theorem S_L_endAt_15 {kc ks : Nat} {h : Hh} {Q : PQ} {X : PX} 
    (k : Q [aI 1] am_R0 h) :
    am_V M_L_endAt kc ks 15 [aU, aU, aU, aU, aU] [] am_R0 h Q X := by
  refine v_iconst dL_endAt_15 ⟨by decide, by decide⟩ ?_
  exact v_iret dL_endAt_16 rfl rfl k
theorem S_L_rankOf_0 {kc ks : Nat} {h : Hh} {Q : PQ} {X : PX} {x1 : Int} {x2 : Int}
    (k : (2 ≤ kc ∧ 12 ≤ ks) ∧ am_V M_X10_rankOf 2 12 0 [aR 0, aI x1, aI x2] [] am_R0 h (fun v ρ' h' => am_V M_L_rankOf (kc - 2) (ks - 12) 8 [aU, aU, aU, aU, aU] (v ++ [aI 0, aR 81]) ρ' h' Q X) (fun Ex ρ' h' => (Ex = "java/lang/IndexOutOfBoundsException" ∧ am_V M_L_rankOf (kc - 2) (ks - 12) 15 [aU, aU, aU, aU, aU] [] ρ' h' Q X))) :
    am_V M_L_rankOf kc ks 0 [aR 0, aI x1, aI x2, aR 81, aU] [] am_R0 h Q X := by
  obtain ⟨⟨b0_1, b0_2⟩, k⟩ := k
  refine v_aload_n dL_rankOf_0 rfl rfl ?_
  refine v_iconst dL_rankOf_1 ⟨by decide, by decide⟩ ?_
  refine v_aload_n dL_rankOf_2 rfl rfl ?_
  refine v_iload_n dL_rankOf_3 rfl rfl ?_
  refine v_iload_n dL_rankOf_4 rfl rfl ?_
  refine v_weak (E2 := [aU, aU, aU, aU, aU]) ⟨Or.inr rfl, ⟨Or.inr rfl, ⟨Or.inr rfl, ⟨Or.inr rfl, ⟨Or.inl rfl, trivial⟩⟩⟩⟩⟩ ?_
  refine v_callH (j := M_X10_rankOf) (As := [aI x1, aI x2]) (st := [aI 0, aR 81]) (a := 0) (ci := 8) (N := 10) (E0 := [aR 0, aI x1, aI x2]) (q9 := (RX10, TX10, 10)) dL_rankOf_5 ml_L_67 J_X10_rankOf b0_1 b0_2 (Nat.le_of_ble_eq_true rfl) (Nat.le_of_ble_eq_true rfl) (List.forall_mem_cons.mpr ⟨rfl, List.forall_mem_cons.mpr ⟨rfl, List.forall_mem_cons.mpr ⟨rfl, fun _ h9 => absurd h9 List.not_mem_nil⟩⟩⟩) (Nat.le_of_ble_eq_true rfl) rfl rfl rfl rfl pn_X10_rankOf rfl (v_mono k (fun _ _ _ z => z) (fun Ex ρ9 h9 z => ?_))
  obtain ⟨rfl, z⟩ := z
  refine ⟨13, 4, 2, hd_L_rankOf_0, (Nat.le_of_ble_eq_true rfl), Or.inr ⟨dL_rankOf_13, rfl⟩, ?_⟩
  exact z
theorem S_L_rankOf_8 {kc ks : Nat} {h : Hh} {Q : PQ} {X : PX} {xs0 : Int}
    (k : ((0 : Int) ≤ 0 ∧ (0 : Int) < 1) ∧ Q [aI 0] am_R0 (am_st h 81 0 xs0)) :
    am_V M_L_rankOf kc ks 8 [aU, aU, aU, aU, aU] [aI xs0, aI 0, aR 81] am_R0 h Q X := by
  obtain ⟨⟨b0_1, b0_2⟩, k⟩ := k
  refine v_i2l dL_rankOf_8 ?_
  refine v_last dL_rankOf_9 rfl b0_1 b0_2 ?_
  refine v_goto (tgt := 17) dL_rankOf_10 (by decide) ?_
  refine v_iconst dL_rankOf_17 ⟨by decide, by decide⟩ ?_
  exact v_iret dL_rankOf_18 rfl rfl k
theorem S_L_rankOf_15 {kc ks : Nat} {h : Hh} {Q : PQ} {X : PX} 
    (k : Q [aI 1] am_R0 h) :
    am_V M_L_rankOf kc ks 15 [aU, aU, aU, aU, aU] [] am_R0 h Q X := by
  refine v_iconst dL_rankOf_15 ⟨by decide, by decide⟩ ?_
  exact v_iret dL_rankOf_16 rfl rfl k
theorem S_L_classOf_0 {kc ks : Nat} {h : Hh} {Q : PQ} {X : PX} {x1 : Int} {x2 : Int} {x3 : Int}
    (k : (3 ≤ kc ∧ 18 ≤ ks) ∧ am_V M_X10_classOf 3 18 0 [aR 0, aI x1, aI x2, aI x3, aU] [] am_R0 h (fun v ρ' h' => am_V M_L_classOf (kc - 3) (ks - 18) 10 [aU, aU, aU, aU, aU, aU] (v ++ [aI 0, aR 81]) ρ' h' Q X) (fun Ex ρ' h' => (Ex = "java/lang/IndexOutOfBoundsException" ∧ am_V M_L_classOf (kc - 3) (ks - 18) 17 [aU, aU, aU, aU, aU, aU] [] ρ' h' Q X) ∨ (Ex = "java/lang/IllegalArgumentException" ∧ am_V M_L_classOf (kc - 3) (ks - 18) 21 [aU, aU, aU, aU, aU, aU] [] ρ' h' Q X))) :
    am_V M_L_classOf kc ks 0 [aR 0, aI x1, aI x2, aI x3, aR 81, aU] [] am_R0 h Q X := by
  obtain ⟨⟨b0_1, b0_2⟩, k⟩ := k
  refine v_aload dL_classOf_0 rfl ?_
  refine v_iconst dL_classOf_2 ⟨by decide, by decide⟩ ?_
  refine v_aload_n dL_classOf_3 rfl rfl ?_
  refine v_iload_n dL_classOf_4 rfl rfl ?_
  refine v_iload_n dL_classOf_5 rfl rfl ?_
  refine v_iload_n dL_classOf_6 rfl rfl ?_
  refine v_weak (E2 := [aU, aU, aU, aU, aU, aU]) ⟨Or.inr rfl, ⟨Or.inr rfl, ⟨Or.inr rfl, ⟨Or.inr rfl, ⟨Or.inr rfl, ⟨Or.inl rfl, trivial⟩⟩⟩⟩⟩⟩ ?_
  refine v_callH (j := M_X10_classOf) (As := [aI x1, aI x2, aI x3]) (st := [aI 0, aR 81]) (a := 0) (ci := 8) (N := 10) (E0 := [aR 0, aI x1, aI x2, aI x3, aU]) (q9 := (RX10, TX10, 10)) dL_classOf_7 ml_L_70 J_X10_classOf b0_1 b0_2 (Nat.le_of_ble_eq_true rfl) (Nat.le_of_ble_eq_true rfl) (List.forall_mem_cons.mpr ⟨rfl, List.forall_mem_cons.mpr ⟨rfl, List.forall_mem_cons.mpr ⟨rfl, List.forall_mem_cons.mpr ⟨rfl, fun _ h9 => absurd h9 List.not_mem_nil⟩⟩⟩⟩) (Nat.le_of_ble_eq_true rfl) rfl rfl rfl rfl pn_X10_classOf rfl (v_mono k (fun _ _ _ z => z) (fun Ex ρ9 h9 z => ?_))
  rcases z with ⟨rfl, z⟩ | ⟨rfl, z⟩
  · refine ⟨15, 5, 2, hd_L_classOf_0, (Nat.le_of_ble_eq_true rfl), Or.inr ⟨dL_classOf_15, rfl⟩, ?_⟩
    exact z
  · refine ⟨19, 5, 2, hd_L_classOf_1, (Nat.le_of_ble_eq_true rfl), Or.inr ⟨dL_classOf_19, rfl⟩, ?_⟩
    exact z
theorem S_L_classOf_10 {kc ks : Nat} {h : Hh} {Q : PQ} {X : PX} {xs0 : Int}
    (k : ((0 : Int) ≤ 0 ∧ (0 : Int) < 1) ∧ Q [aI 0] am_R0 (am_st h 81 0 xs0)) :
    am_V M_L_classOf kc ks 10 [aU, aU, aU, aU, aU, aU] [aI xs0, aI 0, aR 81] am_R0 h Q X := by
  obtain ⟨⟨b0_1, b0_2⟩, k⟩ := k
  refine v_i2l dL_classOf_10 ?_
  refine v_last dL_classOf_11 rfl b0_1 b0_2 ?_
  refine v_goto (tgt := 23) dL_classOf_12 (by decide) ?_
  refine v_iconst dL_classOf_23 ⟨by decide, by decide⟩ ?_
  exact v_iret dL_classOf_24 rfl rfl k
theorem S_L_classOf_17 {kc ks : Nat} {h : Hh} {Q : PQ} {X : PX} 
    (k : Q [aI 1] am_R0 h) :
    am_V M_L_classOf kc ks 17 [aU, aU, aU, aU, aU, aU] [] am_R0 h Q X := by
  refine v_iconst dL_classOf_17 ⟨by decide, by decide⟩ ?_
  exact v_iret dL_classOf_18 rfl rfl k
theorem S_L_classOf_21 {kc ks : Nat} {h : Hh} {Q : PQ} {X : PX} 
    (k : Q [aI 2] am_R0 h) :
    am_V M_L_classOf kc ks 21 [aU, aU, aU, aU, aU, aU] [] am_R0 h Q X := by
  refine v_iconst dL_classOf_21 ⟨by decide, by decide⟩ ?_
  exact v_iret dL_classOf_22 rfl rfl k
theorem S_L_classes_0 {kc ks : Nat} {h : Hh} {Q : PQ} {X : PX} {x1 : Int} {x2 : Int}
    (k : (2 ≤ kc ∧ 12 ≤ ks) ∧ am_V M_X10_classes 2 12 0 [aR 0, aI x1, aI x2, aU] [] am_R0 h (fun v ρ' h' => am_V M_L_classes (kc - 2) (ks - 12) 8 [aU, aU, aU, aU, aU] (v ++ [aI 0, aR 81]) ρ' h' Q X) (fun Ex ρ' h' => (Ex = "java/lang/IndexOutOfBoundsException" ∧ am_V M_L_classes (kc - 2) (ks - 12) 15 [aU, aU, aU, aU, aU] [] ρ' h' Q X) ∨ (Ex = "java/lang/IllegalArgumentException" ∧ am_V M_L_classes (kc - 2) (ks - 12) 19 [aU, aU, aU, aU, aU] [] ρ' h' Q X))) :
    am_V M_L_classes kc ks 0 [aR 0, aI x1, aI x2, aR 81, aU] [] am_R0 h Q X := by
  obtain ⟨⟨b0_1, b0_2⟩, k⟩ := k
  refine v_aload_n dL_classes_0 rfl rfl ?_
  refine v_iconst dL_classes_1 ⟨by decide, by decide⟩ ?_
  refine v_aload_n dL_classes_2 rfl rfl ?_
  refine v_iload_n dL_classes_3 rfl rfl ?_
  refine v_iload_n dL_classes_4 rfl rfl ?_
  refine v_weak (E2 := [aU, aU, aU, aU, aU]) ⟨Or.inr rfl, ⟨Or.inr rfl, ⟨Or.inr rfl, ⟨Or.inr rfl, ⟨Or.inl rfl, trivial⟩⟩⟩⟩⟩ ?_
  refine v_callH (j := M_X10_classes) (As := [aI x1, aI x2]) (st := [aI 0, aR 81]) (a := 0) (ci := 8) (N := 10) (E0 := [aR 0, aI x1, aI x2, aU]) (q9 := (RX10, TX10, 10)) dL_classes_5 ml_L_74 J_X10_classes b0_1 b0_2 (Nat.le_of_ble_eq_true rfl) (Nat.le_of_ble_eq_true rfl) (List.forall_mem_cons.mpr ⟨rfl, List.forall_mem_cons.mpr ⟨rfl, List.forall_mem_cons.mpr ⟨rfl, fun _ h9 => absurd h9 List.not_mem_nil⟩⟩⟩) (Nat.le_of_ble_eq_true rfl) rfl rfl rfl rfl pn_X10_classes rfl (v_mono k (fun _ _ _ z => z) (fun Ex ρ9 h9 z => ?_))
  rcases z with ⟨rfl, z⟩ | ⟨rfl, z⟩
  · refine ⟨13, 4, 2, hd_L_classes_0, (Nat.le_of_ble_eq_true rfl), Or.inr ⟨dL_classes_13, rfl⟩, ?_⟩
    exact z
  · refine ⟨17, 4, 2, hd_L_classes_1, (Nat.le_of_ble_eq_true rfl), Or.inr ⟨dL_classes_17, rfl⟩, ?_⟩
    exact z
theorem S_L_classes_8 {kc ks : Nat} {h : Hh} {Q : PQ} {X : PX} {xs0 : Int}
    (k : ((0 : Int) ≤ 0 ∧ (0 : Int) < 1) ∧ Q [aI 0] am_R0 (am_st h 81 0 xs0)) :
    am_V M_L_classes kc ks 8 [aU, aU, aU, aU, aU] [aI xs0, aI 0, aR 81] am_R0 h Q X := by
  obtain ⟨⟨b0_1, b0_2⟩, k⟩ := k
  refine v_i2l dL_classes_8 ?_
  refine v_last dL_classes_9 rfl b0_1 b0_2 ?_
  refine v_goto (tgt := 21) dL_classes_10 (by decide) ?_
  refine v_iconst dL_classes_21 ⟨by decide, by decide⟩ ?_
  exact v_iret dL_classes_22 rfl rfl k
theorem S_L_classes_15 {kc ks : Nat} {h : Hh} {Q : PQ} {X : PX} 
    (k : Q [aI 1] am_R0 h) :
    am_V M_L_classes kc ks 15 [aU, aU, aU, aU, aU] [] am_R0 h Q X := by
  refine v_iconst dL_classes_15 ⟨by decide, by decide⟩ ?_
  exact v_iret dL_classes_16 rfl rfl k
theorem S_L_classes_19 {kc ks : Nat} {h : Hh} {Q : PQ} {X : PX} 
    (k : Q [aI 2] am_R0 h) :
    am_V M_L_classes kc ks 19 [aU, aU, aU, aU, aU] [] am_R0 h Q X := by
  refine v_iconst dL_classes_19 ⟨by decide, by decide⟩ ?_
  exact v_iret dL_classes_20 rfl rfl k
theorem S_L_rounds_0 {kc ks : Nat} {h : Hh} {Q : PQ} {X : PX} {x1 : Int}
    (k : (1 ≤ kc ∧ 6 ≤ ks) ∧ am_V M_X10_rounds 1 6 0 [aR 0, aI x1, aU, aU, aU, aU] [] am_R0 h (fun v ρ' h' => am_V M_L_rounds (kc - 1) (ks - 6) 7 [aU, aU, aU, aU] (v ++ [aI 0, aR 81]) ρ' h' Q X) (fun Ex ρ' h' => (Ex = "java/lang/IndexOutOfBoundsException" ∧ am_V M_L_rounds (kc - 1) (ks - 6) 13 [aU, aU, aU, aU] [] ρ' h' Q X))) :
    am_V M_L_rounds kc ks 0 [aR 0, aI x1, aR 81, aU] [] am_R0 h Q X := by
  obtain ⟨⟨b0_1, b0_2⟩, k⟩ := k
  refine v_aload_n dL_rounds_0 rfl rfl ?_
  refine v_iconst dL_rounds_1 ⟨by decide, by decide⟩ ?_
  refine v_aload_n dL_rounds_2 rfl rfl ?_
  refine v_iload_n dL_rounds_3 rfl rfl ?_
  refine v_weak (E2 := [aU, aU, aU, aU]) ⟨Or.inr rfl, ⟨Or.inr rfl, ⟨Or.inr rfl, ⟨Or.inl rfl, trivial⟩⟩⟩⟩ ?_
  refine v_callH (j := M_X10_rounds) (As := [aI x1]) (st := [aI 0, aR 81]) (a := 0) (ci := 8) (N := 10) (E0 := [aR 0, aI x1, aU, aU, aU, aU]) (q9 := (RX10, TX10, 10)) dL_rounds_4 ml_L_77 J_X10_rounds b0_1 b0_2 (Nat.le_of_ble_eq_true rfl) (Nat.le_of_ble_eq_true rfl) (List.forall_mem_cons.mpr ⟨rfl, List.forall_mem_cons.mpr ⟨rfl, fun _ h9 => absurd h9 List.not_mem_nil⟩⟩) (Nat.le_of_ble_eq_true rfl) rfl rfl rfl rfl pn_X10_rounds rfl (v_mono k (fun _ _ _ z => z) (fun Ex ρ9 h9 z => ?_))
  obtain ⟨rfl, z⟩ := z
  refine ⟨12, 3, 1, hd_L_rounds_0, (Nat.le_of_ble_eq_true rfl), Or.inl ⟨3, dL_rounds_12, rfl, rfl⟩, ?_⟩
  exact z
theorem S_L_rounds_7 {kc ks : Nat} {h : Hh} {Q : PQ} {X : PX} {xs0 : Int}
    (k : ((0 : Int) ≤ 0 ∧ (0 : Int) < 1) ∧ Q [aI 0] am_R0 (am_st h 81 0 xs0)) :
    am_V M_L_rounds kc ks 7 [aU, aU, aU, aU] [aI xs0, aI 0, aR 81] am_R0 h Q X := by
  obtain ⟨⟨b0_1, b0_2⟩, k⟩ := k
  refine v_i2l dL_rounds_7 ?_
  refine v_last dL_rounds_8 rfl b0_1 b0_2 ?_
  refine v_goto (tgt := 15) dL_rounds_9 (by decide) ?_
  refine v_iconst dL_rounds_15 ⟨by decide, by decide⟩ ?_
  exact v_iret dL_rounds_16 rfl rfl k
theorem S_L_rounds_13 {kc ks : Nat} {h : Hh} {Q : PQ} {X : PX} 
    (k : Q [aI 1] am_R0 h) :
    am_V M_L_rounds kc ks 13 [aU, aU, aU, aU] [] am_R0 h Q X := by
  refine v_iconst dL_rounds_13 ⟨by decide, by decide⟩ ?_
  exact v_iret dL_rounds_14 rfl rfl k
theorem S_L_common_0 {kc ks : Nat} {h : Hh} {Q : PQ} {X : PX} {x1 : Int} {x2 : Int}
    (k : (2 ≤ kc ∧ 12 ≤ ks) ∧ am_V M_X10_common 2 12 0 [aR 0, aI x1, aI x2] [] am_R0 h (fun v ρ' h' => am_V M_L_common (kc - 2) (ks - 12) 8 [aU, aU, aU, aU, aU] (v ++ [aI 0, aR 81]) ρ' h' Q X) (fun Ex ρ' h' => (Ex = "java/lang/IndexOutOfBoundsException" ∧ am_V M_L_common (kc - 2) (ks - 12) 15 [aU, aU, aU, aU, aU] [] ρ' h' Q X))) :
    am_V M_L_common kc ks 0 [aR 0, aI x1, aI x2, aR 81, aU] [] am_R0 h Q X := by
  obtain ⟨⟨b0_1, b0_2⟩, k⟩ := k
  refine v_aload_n dL_common_0 rfl rfl ?_
  refine v_iconst dL_common_1 ⟨by decide, by decide⟩ ?_
  refine v_aload_n dL_common_2 rfl rfl ?_
  refine v_iload_n dL_common_3 rfl rfl ?_
  refine v_iload_n dL_common_4 rfl rfl ?_
  refine v_weak (E2 := [aU, aU, aU, aU, aU]) ⟨Or.inr rfl, ⟨Or.inr rfl, ⟨Or.inr rfl, ⟨Or.inr rfl, ⟨Or.inl rfl, trivial⟩⟩⟩⟩⟩ ?_
  refine v_callH (j := M_X10_common) (As := [aI x1, aI x2]) (st := [aI 0, aR 81]) (a := 0) (ci := 8) (N := 10) (E0 := [aR 0, aI x1, aI x2]) (q9 := (RX10, TX10, 10)) dL_common_5 ml_L_80 J_X10_common b0_1 b0_2 (Nat.le_of_ble_eq_true rfl) (Nat.le_of_ble_eq_true rfl) (List.forall_mem_cons.mpr ⟨rfl, List.forall_mem_cons.mpr ⟨rfl, List.forall_mem_cons.mpr ⟨rfl, fun _ h9 => absurd h9 List.not_mem_nil⟩⟩⟩) (Nat.le_of_ble_eq_true rfl) rfl rfl rfl rfl pn_X10_common rfl (v_mono k (fun _ _ _ z => z) (fun Ex ρ9 h9 z => ?_))
  obtain ⟨rfl, z⟩ := z
  refine ⟨13, 4, 2, hd_L_common_0, (Nat.le_of_ble_eq_true rfl), Or.inr ⟨dL_common_13, rfl⟩, ?_⟩
  exact z
theorem S_L_common_8 {kc ks : Nat} {h : Hh} {Q : PQ} {X : PX} {xs0 : Int}
    (k : ((0 : Int) ≤ 0 ∧ (0 : Int) < 1) ∧ Q [aI 0] am_R0 (am_st h 81 0 xs0)) :
    am_V M_L_common kc ks 8 [aU, aU, aU, aU, aU] [aI xs0, aI 0, aR 81] am_R0 h Q X := by
  obtain ⟨⟨b0_1, b0_2⟩, k⟩ := k
  refine v_i2l dL_common_8 ?_
  refine v_last dL_common_9 rfl b0_1 b0_2 ?_
  refine v_goto (tgt := 17) dL_common_10 (by decide) ?_
  refine v_iconst dL_common_17 ⟨by decide, by decide⟩ ?_
  exact v_iret dL_common_18 rfl rfl k
theorem S_L_common_15 {kc ks : Nat} {h : Hh} {Q : PQ} {X : PX} 
    (k : Q [aI 1] am_R0 h) :
    am_V M_L_common kc ks 15 [aU, aU, aU, aU, aU] [] am_R0 h Q X := by
  refine v_iconst dL_common_15 ⟨by decide, by decide⟩ ?_
  exact v_iret dL_common_16 rfl rfl k
theorem S_L_shared_0 {kc ks : Nat} {h : Hh} {Q : PQ} {X : PX} {x1 : Int} {x2 : Int} {x3 : Int} {x4 : Int}
    (k : (4 ≤ kc ∧ 24 ≤ ks) ∧ am_V M_X10_shared 4 24 0 [aR 0, aI x1, aI x2, aI x3, aI x4, aU, aU] [] am_R0 h (fun v ρ' h' => am_V M_L_shared (kc - 4) (ks - 24) 12 [aU, aU, aU, aU, aU, aU, aU] (v ++ [aI 0, aR 81]) ρ' h' Q X) (fun Ex ρ' h' => (Ex = "java/lang/IndexOutOfBoundsException" ∧ am_V M_L_shared (kc - 4) (ks - 24) 19 [aU, aU, aU, aU, aU, aU, aU] [] ρ' h' Q X))) :
    am_V M_L_shared kc ks 0 [aR 0, aI x1, aI x2, aI x3, aI x4, aR 81, aU] [] am_R0 h Q X := by
  obtain ⟨⟨b0_1, b0_2⟩, k⟩ := k
  refine v_aload dL_shared_0 rfl ?_
  refine v_iconst dL_shared_2 ⟨by decide, by decide⟩ ?_
  refine v_aload_n dL_shared_3 rfl rfl ?_
  refine v_iload_n dL_shared_4 rfl rfl ?_
  refine v_iload_n dL_shared_5 rfl rfl ?_
  refine v_iload_n dL_shared_6 rfl rfl ?_
  refine v_iload dL_shared_7 rfl ?_
  refine v_weak (E2 := [aU, aU, aU, aU, aU, aU, aU]) ⟨Or.inr rfl, ⟨Or.inr rfl, ⟨Or.inr rfl, ⟨Or.inr rfl, ⟨Or.inr rfl, ⟨Or.inr rfl, ⟨Or.inl rfl, trivial⟩⟩⟩⟩⟩⟩⟩ ?_
  refine v_callH (j := M_X10_shared) (As := [aI x1, aI x2, aI x3, aI x4]) (st := [aI 0, aR 81]) (a := 0) (ci := 8) (N := 10) (E0 := [aR 0, aI x1, aI x2, aI x3, aI x4, aU, aU]) (q9 := (RX10, TX10, 10)) dL_shared_9 ml_L_83 J_X10_shared b0_1 b0_2 (Nat.le_of_ble_eq_true rfl) (Nat.le_of_ble_eq_true rfl) (List.forall_mem_cons.mpr ⟨rfl, List.forall_mem_cons.mpr ⟨rfl, List.forall_mem_cons.mpr ⟨rfl, List.forall_mem_cons.mpr ⟨rfl, List.forall_mem_cons.mpr ⟨rfl, fun _ h9 => absurd h9 List.not_mem_nil⟩⟩⟩⟩⟩) (Nat.le_of_ble_eq_true rfl) rfl rfl rfl rfl pn_X10_shared rfl (v_mono k (fun _ _ _ z => z) (fun Ex ρ9 h9 z => ?_))
  obtain ⟨rfl, z⟩ := z
  refine ⟨17, 6, 2, hd_L_shared_0, (Nat.le_of_ble_eq_true rfl), Or.inr ⟨dL_shared_17, rfl⟩, ?_⟩
  exact z
theorem S_L_shared_12 {kc ks : Nat} {h : Hh} {Q : PQ} {X : PX} {xs0 : Int}
    (k : ((0 : Int) ≤ 0 ∧ (0 : Int) < 1) ∧ Q [aI 0] am_R0 (am_st h 81 0 xs0)) :
    am_V M_L_shared kc ks 12 [aU, aU, aU, aU, aU, aU, aU] [aI xs0, aI 0, aR 81] am_R0 h Q X := by
  obtain ⟨⟨b0_1, b0_2⟩, k⟩ := k
  refine v_i2l dL_shared_12 ?_
  refine v_last dL_shared_13 rfl b0_1 b0_2 ?_
  refine v_goto (tgt := 21) dL_shared_14 (by decide) ?_
  refine v_iconst dL_shared_21 ⟨by decide, by decide⟩ ?_
  exact v_iret dL_shared_22 rfl rfl k
theorem S_L_shared_19 {kc ks : Nat} {h : Hh} {Q : PQ} {X : PX} 
    (k : Q [aI 1] am_R0 h) :
    am_V M_L_shared kc ks 19 [aU, aU, aU, aU, aU, aU, aU] [] am_R0 h Q X := by
  refine v_iconst dL_shared_19 ⟨by decide, by decide⟩ ?_
  exact v_iret dL_shared_20 rfl rfl k
theorem S_L_count_0 {kc ks : Nat} {h : Hh} {Q : PQ} {X : PX} {x1 : Int}
    (k : (2 ≤ kc ∧ 12 ≤ ks) ∧ am_V M_X10_count 2 12 0 [aR 0, aI x1, aU] [] am_R0 h (fun v ρ' h' => am_V M_L_count (kc - 2) (ks - 12) 7 [aU, aU, aU, aU] (v ++ [aI 0, aR 81]) ρ' h' Q X) (fun Ex ρ' h' => (Ex = "java/lang/IndexOutOfBoundsException" ∧ am_V M_L_count (kc - 2) (ks - 12) 13 [aU, aU, aU, aU] [] ρ' h' Q X) ∨ (Ex = "java/lang/UnsupportedOperationException" ∧ am_V M_L_count (kc - 2) (ks - 12) 16 [aU, aU, aU, aU] [] ρ' h' Q X))) :
    am_V M_L_count kc ks 0 [aR 0, aI x1, aR 81, aU] [] am_R0 h Q X := by
  obtain ⟨⟨b0_1, b0_2⟩, k⟩ := k
  refine v_aload_n dL_count_0 rfl rfl ?_
  refine v_iconst dL_count_1 ⟨by decide, by decide⟩ ?_
  refine v_aload_n dL_count_2 rfl rfl ?_
  refine v_iload_n dL_count_3 rfl rfl ?_
  refine v_weak (E2 := [aU, aU, aU, aU]) ⟨Or.inr rfl, ⟨Or.inr rfl, ⟨Or.inr rfl, ⟨Or.inl rfl, trivial⟩⟩⟩⟩ ?_
  refine v_callH (j := M_X10_count) (As := [aI x1]) (st := [aI 0, aR 81]) (a := 0) (ci := 8) (N := 10) (E0 := [aR 0, aI x1, aU]) (q9 := (RX10, TX10, 10)) dL_count_4 ml_L_87 J_X10_count b0_1 b0_2 (Nat.le_of_ble_eq_true rfl) (Nat.le_of_ble_eq_true rfl) (List.forall_mem_cons.mpr ⟨rfl, List.forall_mem_cons.mpr ⟨rfl, fun _ h9 => absurd h9 List.not_mem_nil⟩⟩) (Nat.le_of_ble_eq_true rfl) rfl rfl rfl rfl pn_X10_count rfl (v_mono k (fun _ _ _ z => z) (fun Ex ρ9 h9 z => ?_))
  rcases z with ⟨rfl, z⟩ | ⟨rfl, z⟩
  · refine ⟨12, 3, 1, hd_L_count_0, (Nat.le_of_ble_eq_true rfl), Or.inl ⟨3, dL_count_12, rfl, rfl⟩, ?_⟩
    exact z
  · refine ⟨15, 3, 1, hd_L_count_1, (Nat.le_of_ble_eq_true rfl), Or.inl ⟨3, dL_count_15, rfl, rfl⟩, ?_⟩
    exact z
theorem S_L_count_7 {kc ks : Nat} {h : Hh} {Q : PQ} {X : PX} {xs0 : Int}
    (k : ((0 : Int) ≤ 0 ∧ (0 : Int) < 1) ∧ Q [aI 0] am_R0 (am_st h 81 0 xs0)) :
    am_V M_L_count kc ks 7 [aU, aU, aU, aU] [aI xs0, aI 0, aR 81] am_R0 h Q X := by
  obtain ⟨⟨b0_1, b0_2⟩, k⟩ := k
  refine v_i2l dL_count_7 ?_
  refine v_last dL_count_8 rfl b0_1 b0_2 ?_
  refine v_goto (tgt := 18) dL_count_9 (by decide) ?_
  refine v_iconst dL_count_18 ⟨by decide, by decide⟩ ?_
  exact v_iret dL_count_19 rfl rfl k
theorem S_L_count_13 {kc ks : Nat} {h : Hh} {Q : PQ} {X : PX} 
    (k : Q [aI 1] am_R0 h) :
    am_V M_L_count kc ks 13 [aU, aU, aU, aU] [] am_R0 h Q X := by
  refine v_iconst dL_count_13 ⟨by decide, by decide⟩ ?_
  exact v_iret dL_count_14 rfl rfl k
theorem S_L_count_16 {kc ks : Nat} {h : Hh} {Q : PQ} {X : PX} 
    (k : Q [aI 2] am_R0 h) :
    am_V M_L_count kc ks 16 [aU, aU, aU, aU] [] am_R0 h Q X := by
  refine v_iconst dL_count_16 ⟨by decide, by decide⟩ ?_
  exact v_iret dL_count_17 rfl rfl k
theorem S_L_runFrom_0 {kc ks : Nat} {h : Hh} {Q : PQ} {X : PX} {x1 : Int}
    (k : (3 ≤ kc ∧ 18 ≤ ks) ∧ am_V M_X10_runFrom 3 18 0 [aR 0, aI x1, aU] [] am_R0 h (fun v ρ' h' => am_V M_L_runFrom (kc - 3) (ks - 18) 7 [aU, aU, aU, aU] (v ++ [aI 0, aR 81]) ρ' h' Q X) (fun Ex ρ' h' => (Ex = "java/lang/IndexOutOfBoundsException" ∧ am_V M_L_runFrom (kc - 3) (ks - 18) 13 [aU, aU, aU, aU] [] ρ' h' Q X) ∨ (Ex = "java/lang/UnsupportedOperationException" ∧ am_V M_L_runFrom (kc - 3) (ks - 18) 16 [aU, aU, aU, aU] [] ρ' h' Q X) ∨ (Ex = "java/util/NoSuchElementException" ∧ am_V M_L_runFrom (kc - 3) (ks - 18) 19 [aU, aU, aU, aU] [] ρ' h' Q X))) :
    am_V M_L_runFrom kc ks 0 [aR 0, aI x1, aR 81, aU] [] am_R0 h Q X := by
  obtain ⟨⟨b0_1, b0_2⟩, k⟩ := k
  refine v_aload_n dL_runFrom_0 rfl rfl ?_
  refine v_iconst dL_runFrom_1 ⟨by decide, by decide⟩ ?_
  refine v_aload_n dL_runFrom_2 rfl rfl ?_
  refine v_iload_n dL_runFrom_3 rfl rfl ?_
  refine v_weak (E2 := [aU, aU, aU, aU]) ⟨Or.inr rfl, ⟨Or.inr rfl, ⟨Or.inr rfl, ⟨Or.inl rfl, trivial⟩⟩⟩⟩ ?_
  refine v_callH (j := M_X10_runFrom) (As := [aI x1]) (st := [aI 0, aR 81]) (a := 0) (ci := 8) (N := 10) (E0 := [aR 0, aI x1, aU]) (q9 := (RX10, TX10, 10)) dL_runFrom_4 ml_L_90 J_X10_runFrom b0_1 b0_2 (Nat.le_of_ble_eq_true rfl) (Nat.le_of_ble_eq_true rfl) (List.forall_mem_cons.mpr ⟨rfl, List.forall_mem_cons.mpr ⟨rfl, fun _ h9 => absurd h9 List.not_mem_nil⟩⟩) (Nat.le_of_ble_eq_true rfl) rfl rfl rfl rfl pn_X10_runFrom rfl (v_mono k (fun _ _ _ z => z) (fun Ex ρ9 h9 z => ?_))
  rcases z with ⟨rfl, z⟩ | ⟨rfl, z⟩ | ⟨rfl, z⟩
  · refine ⟨12, 3, 1, hd_L_runFrom_0, (Nat.le_of_ble_eq_true rfl), Or.inl ⟨3, dL_runFrom_12, rfl, rfl⟩, ?_⟩
    exact z
  · refine ⟨15, 3, 1, hd_L_runFrom_1, (Nat.le_of_ble_eq_true rfl), Or.inl ⟨3, dL_runFrom_15, rfl, rfl⟩, ?_⟩
    exact z
  · refine ⟨18, 3, 1, hd_L_runFrom_2, (Nat.le_of_ble_eq_true rfl), Or.inl ⟨3, dL_runFrom_18, rfl, rfl⟩, ?_⟩
    exact z
theorem S_L_runFrom_7 {kc ks : Nat} {h : Hh} {Q : PQ} {X : PX} {xs0 : Int}
    (k : ((0 : Int) ≤ 0 ∧ (0 : Int) < 1) ∧ Q [aI 0] am_R0 (am_st h 81 0 xs0)) :
    am_V M_L_runFrom kc ks 7 [aU, aU, aU, aU] [aI xs0, aI 0, aR 81] am_R0 h Q X := by
  obtain ⟨⟨b0_1, b0_2⟩, k⟩ := k
  refine v_i2l dL_runFrom_7 ?_
  refine v_last dL_runFrom_8 rfl b0_1 b0_2 ?_
  refine v_goto (tgt := 21) dL_runFrom_9 (by decide) ?_
  refine v_iconst dL_runFrom_21 ⟨by decide, by decide⟩ ?_
  exact v_iret dL_runFrom_22 rfl rfl k
theorem S_L_runFrom_13 {kc ks : Nat} {h : Hh} {Q : PQ} {X : PX} 
    (k : Q [aI 1] am_R0 h) :
    am_V M_L_runFrom kc ks 13 [aU, aU, aU, aU] [] am_R0 h Q X := by
  refine v_iconst dL_runFrom_13 ⟨by decide, by decide⟩ ?_
  exact v_iret dL_runFrom_14 rfl rfl k
theorem S_L_runFrom_16 {kc ks : Nat} {h : Hh} {Q : PQ} {X : PX} 
    (k : Q [aI 2] am_R0 h) :
    am_V M_L_runFrom kc ks 16 [aU, aU, aU, aU] [] am_R0 h Q X := by
  refine v_iconst dL_runFrom_16 ⟨by decide, by decide⟩ ?_
  exact v_iret dL_runFrom_17 rfl rfl k
theorem S_L_runFrom_19 {kc ks : Nat} {h : Hh} {Q : PQ} {X : PX} 
    (k : Q [aI 3] am_R0 h) :
    am_V M_L_runFrom kc ks 19 [aU, aU, aU, aU] [] am_R0 h Q X := by
  refine v_iconst dL_runFrom_19 ⟨by decide, by decide⟩ ?_
  exact v_iret dL_runFrom_20 rfl rfl k
theorem S_L_standsAt_0 {kc ks : Nat} {h : Hh} {Q : PQ} {X : PX} {x1 : Int} {x2 : Int}
    (k : (3 ≤ kc ∧ 18 ≤ ks) ∧ am_V M_X10_standsAt 3 18 0 [aR 0, aI x1, aI x2, aU, aU, aU] [] am_R0 h (fun v ρ' h' => am_V M_L_standsAt (kc - 3) (ks - 18) 8 [aU, aU, aU, aU, aU] (v ++ [aI 0, aR 81]) ρ' h' Q X) (fun Ex ρ' h' => (Ex = "java/lang/IndexOutOfBoundsException" ∧ am_V M_L_standsAt (kc - 3) (ks - 18) 15 [aU, aU, aU, aU, aU] [] ρ' h' Q X) ∨ (Ex = "java/lang/UnsupportedOperationException" ∧ am_V M_L_standsAt (kc - 3) (ks - 18) 19 [aU, aU, aU, aU, aU] [] ρ' h' Q X) ∨ (Ex = "java/util/NoSuchElementException" ∧ am_V M_L_standsAt (kc - 3) (ks - 18) 23 [aU, aU, aU, aU, aU] [] ρ' h' Q X))) :
    am_V M_L_standsAt kc ks 0 [aR 0, aI x1, aI x2, aR 81, aU] [] am_R0 h Q X := by
  obtain ⟨⟨b0_1, b0_2⟩, k⟩ := k
  refine v_aload_n dL_standsAt_0 rfl rfl ?_
  refine v_iconst dL_standsAt_1 ⟨by decide, by decide⟩ ?_
  refine v_aload_n dL_standsAt_2 rfl rfl ?_
  refine v_iload_n dL_standsAt_3 rfl rfl ?_
  refine v_iload_n dL_standsAt_4 rfl rfl ?_
  refine v_weak (E2 := [aU, aU, aU, aU, aU]) ⟨Or.inr rfl, ⟨Or.inr rfl, ⟨Or.inr rfl, ⟨Or.inr rfl, ⟨Or.inl rfl, trivial⟩⟩⟩⟩⟩ ?_
  refine v_callH (j := M_X10_standsAt) (As := [aI x1, aI x2]) (st := [aI 0, aR 81]) (a := 0) (ci := 8) (N := 10) (E0 := [aR 0, aI x1, aI x2, aU, aU, aU]) (q9 := (RX10, TX10, 10)) dL_standsAt_5 ml_L_93 J_X10_standsAt b0_1 b0_2 (Nat.le_of_ble_eq_true rfl) (Nat.le_of_ble_eq_true rfl) (List.forall_mem_cons.mpr ⟨rfl, List.forall_mem_cons.mpr ⟨rfl, List.forall_mem_cons.mpr ⟨rfl, fun _ h9 => absurd h9 List.not_mem_nil⟩⟩⟩) (Nat.le_of_ble_eq_true rfl) rfl rfl rfl rfl pn_X10_standsAt rfl (v_mono k (fun _ _ _ z => z) (fun Ex ρ9 h9 z => ?_))
  rcases z with ⟨rfl, z⟩ | ⟨rfl, z⟩ | ⟨rfl, z⟩
  · refine ⟨13, 4, 2, hd_L_standsAt_0, (Nat.le_of_ble_eq_true rfl), Or.inr ⟨dL_standsAt_13, rfl⟩, ?_⟩
    exact z
  · refine ⟨17, 4, 2, hd_L_standsAt_1, (Nat.le_of_ble_eq_true rfl), Or.inr ⟨dL_standsAt_17, rfl⟩, ?_⟩
    exact z
  · refine ⟨21, 4, 2, hd_L_standsAt_2, (Nat.le_of_ble_eq_true rfl), Or.inr ⟨dL_standsAt_21, rfl⟩, ?_⟩
    exact z
theorem S_L_standsAt_8 {kc ks : Nat} {h : Hh} {Q : PQ} {X : PX} {xs0 : Int}
    (k : ((0 : Int) ≤ 0 ∧ (0 : Int) < 1) ∧ Q [aI 0] am_R0 (am_st h 81 0 xs0)) :
    am_V M_L_standsAt kc ks 8 [aU, aU, aU, aU, aU] [aI xs0, aI 0, aR 81] am_R0 h Q X := by
  obtain ⟨⟨b0_1, b0_2⟩, k⟩ := k
  refine v_i2l dL_standsAt_8 ?_
  refine v_last dL_standsAt_9 rfl b0_1 b0_2 ?_
  refine v_goto (tgt := 25) dL_standsAt_10 (by decide) ?_
  refine v_iconst dL_standsAt_25 ⟨by decide, by decide⟩ ?_
  exact v_iret dL_standsAt_26 rfl rfl k
theorem S_L_standsAt_15 {kc ks : Nat} {h : Hh} {Q : PQ} {X : PX} 
    (k : Q [aI 1] am_R0 h) :
    am_V M_L_standsAt kc ks 15 [aU, aU, aU, aU, aU] [] am_R0 h Q X := by
  refine v_iconst dL_standsAt_15 ⟨by decide, by decide⟩ ?_
  exact v_iret dL_standsAt_16 rfl rfl k
theorem S_L_standsAt_19 {kc ks : Nat} {h : Hh} {Q : PQ} {X : PX} 
    (k : Q [aI 2] am_R0 h) :
    am_V M_L_standsAt kc ks 19 [aU, aU, aU, aU, aU] [] am_R0 h Q X := by
  refine v_iconst dL_standsAt_19 ⟨by decide, by decide⟩ ?_
  exact v_iret dL_standsAt_20 rfl rfl k
theorem S_L_standsAt_23 {kc ks : Nat} {h : Hh} {Q : PQ} {X : PX} 
    (k : Q [aI 3] am_R0 h) :
    am_V M_L_standsAt kc ks 23 [aU, aU, aU, aU, aU] [] am_R0 h Q X := by
  refine v_iconst dL_standsAt_23 ⟨by decide, by decide⟩ ?_
  exact v_iret dL_standsAt_24 rfl rfl k
theorem S_L_tail_0 {kc ks : Nat} {h : Hh} {Q : PQ} {X : PX} {x1 : Int} {x2 : Int}
    (k : (3 ≤ kc ∧ 18 ≤ ks) ∧ am_V M_X10_tail 3 18 0 [aR 0, aI x1, aI x2, aU, aU] [] am_R0 h (fun v ρ' h' => am_V M_L_tail (kc - 3) (ks - 18) 8 [aU, aU, aU, aU, aU] (v ++ [aI 0, aR 81]) ρ' h' Q X) (fun Ex ρ' h' => (Ex = "java/lang/IndexOutOfBoundsException" ∧ am_V M_L_tail (kc - 3) (ks - 18) 15 [aU, aU, aU, aU, aU] [] ρ' h' Q X) ∨ (Ex = "java/lang/UnsupportedOperationException" ∧ am_V M_L_tail (kc - 3) (ks - 18) 19 [aU, aU, aU, aU, aU] [] ρ' h' Q X) ∨ (Ex = "java/lang/IllegalArgumentException" ∧ am_V M_L_tail (kc - 3) (ks - 18) 23 [aU, aU, aU, aU, aU] [] ρ' h' Q X))) :
    am_V M_L_tail kc ks 0 [aR 0, aI x1, aI x2, aR 81, aU] [] am_R0 h Q X := by
  obtain ⟨⟨b0_1, b0_2⟩, k⟩ := k
  refine v_aload_n dL_tail_0 rfl rfl ?_
  refine v_iconst dL_tail_1 ⟨by decide, by decide⟩ ?_
  refine v_aload_n dL_tail_2 rfl rfl ?_
  refine v_iload_n dL_tail_3 rfl rfl ?_
  refine v_iload_n dL_tail_4 rfl rfl ?_
  refine v_weak (E2 := [aU, aU, aU, aU, aU]) ⟨Or.inr rfl, ⟨Or.inr rfl, ⟨Or.inr rfl, ⟨Or.inr rfl, ⟨Or.inl rfl, trivial⟩⟩⟩⟩⟩ ?_
  refine v_callH (j := M_X10_tail) (As := [aI x1, aI x2]) (st := [aI 0, aR 81]) (a := 0) (ci := 8) (N := 10) (E0 := [aR 0, aI x1, aI x2, aU, aU]) (q9 := (RX10, TX10, 10)) dL_tail_5 ml_L_96 J_X10_tail b0_1 b0_2 (Nat.le_of_ble_eq_true rfl) (Nat.le_of_ble_eq_true rfl) (List.forall_mem_cons.mpr ⟨rfl, List.forall_mem_cons.mpr ⟨rfl, List.forall_mem_cons.mpr ⟨rfl, fun _ h9 => absurd h9 List.not_mem_nil⟩⟩⟩) (Nat.le_of_ble_eq_true rfl) rfl rfl rfl rfl pn_X10_tail rfl (v_mono k (fun _ _ _ z => z) (fun Ex ρ9 h9 z => ?_))
  rcases z with ⟨rfl, z⟩ | ⟨rfl, z⟩ | ⟨rfl, z⟩
  · refine ⟨13, 4, 2, hd_L_tail_0, (Nat.le_of_ble_eq_true rfl), Or.inr ⟨dL_tail_13, rfl⟩, ?_⟩
    exact z
  · refine ⟨17, 4, 2, hd_L_tail_1, (Nat.le_of_ble_eq_true rfl), Or.inr ⟨dL_tail_17, rfl⟩, ?_⟩
    exact z
  · refine ⟨21, 4, 2, hd_L_tail_2, (Nat.le_of_ble_eq_true rfl), Or.inr ⟨dL_tail_21, rfl⟩, ?_⟩
    exact z
theorem S_L_tail_8 {kc ks : Nat} {h : Hh} {Q : PQ} {X : PX} {xs0 : Int}
    (k : ((0 : Int) ≤ 0 ∧ (0 : Int) < 1) ∧ Q [aI 0] am_R0 (am_st h 81 0 xs0)) :
    am_V M_L_tail kc ks 8 [aU, aU, aU, aU, aU] [aI xs0, aI 0, aR 81] am_R0 h Q X := by
  obtain ⟨⟨b0_1, b0_2⟩, k⟩ := k
  refine v_i2l dL_tail_8 ?_
  refine v_last dL_tail_9 rfl b0_1 b0_2 ?_
  refine v_goto (tgt := 25) dL_tail_10 (by decide) ?_
  refine v_iconst dL_tail_25 ⟨by decide, by decide⟩ ?_
  exact v_iret dL_tail_26 rfl rfl k
theorem S_L_tail_15 {kc ks : Nat} {h : Hh} {Q : PQ} {X : PX} 
    (k : Q [aI 1] am_R0 h) :
    am_V M_L_tail kc ks 15 [aU, aU, aU, aU, aU] [] am_R0 h Q X := by
  refine v_iconst dL_tail_15 ⟨by decide, by decide⟩ ?_
  exact v_iret dL_tail_16 rfl rfl k
theorem S_L_tail_19 {kc ks : Nat} {h : Hh} {Q : PQ} {X : PX} 
    (k : Q [aI 2] am_R0 h) :
    am_V M_L_tail kc ks 19 [aU, aU, aU, aU, aU] [] am_R0 h Q X := by
  refine v_iconst dL_tail_19 ⟨by decide, by decide⟩ ?_
  exact v_iret dL_tail_20 rfl rfl k
theorem S_L_tail_23 {kc ks : Nat} {h : Hh} {Q : PQ} {X : PX} 
    (k : Q [aI 3] am_R0 h) :
    am_V M_L_tail kc ks 23 [aU, aU, aU, aU, aU] [] am_R0 h Q X := by
  refine v_iconst dL_tail_23 ⟨by decide, by decide⟩ ?_
  exact v_iret dL_tail_24 rfl rfl k
theorem S_L_words_0 {kc ks : Nat} {h : Hh} {Q : PQ} {X : PX} {x1 : Int}
    (k : (1 ≤ kc ∧ 6 ≤ ks) ∧ am_V M_X10_words 1 6 0 [aR 0, aI x1, aU] [] am_R0 h (fun v ρ' h' => am_V M_L_words (kc - 1) (ks - 6) 7 [aU, aU, aU, aU] (v ++ [aI 0, aR 81]) ρ' h' Q X) (fun Ex ρ' h' => (Ex = "java/lang/IndexOutOfBoundsException" ∧ am_V M_L_words (kc - 1) (ks - 6) 12 [aU, aU, aU, aU] [] ρ' h' Q X))) :
    am_V M_L_words kc ks 0 [aR 0, aI x1, aR 81, aU] [] am_R0 h Q X := by
  obtain ⟨⟨b0_1, b0_2⟩, k⟩ := k
  refine v_aload_n dL_words_0 rfl rfl ?_
  refine v_iconst dL_words_1 ⟨by decide, by decide⟩ ?_
  refine v_aload_n dL_words_2 rfl rfl ?_
  refine v_iload_n dL_words_3 rfl rfl ?_
  refine v_weak (E2 := [aU, aU, aU, aU]) ⟨Or.inr rfl, ⟨Or.inr rfl, ⟨Or.inr rfl, ⟨Or.inl rfl, trivial⟩⟩⟩⟩ ?_
  refine v_callH (j := M_X10_words) (As := [aI x1]) (st := [aI 0, aR 81]) (a := 0) (ci := 8) (N := 10) (E0 := [aR 0, aI x1, aU]) (q9 := (RX10, TX10, 10)) dL_words_4 ml_L_99 J_X10_words b0_1 b0_2 (Nat.le_of_ble_eq_true rfl) (Nat.le_of_ble_eq_true rfl) (List.forall_mem_cons.mpr ⟨rfl, List.forall_mem_cons.mpr ⟨rfl, fun _ h9 => absurd h9 List.not_mem_nil⟩⟩) (Nat.le_of_ble_eq_true rfl) rfl rfl rfl rfl pn_X10_words rfl (v_mono k (fun _ _ _ z => z) (fun Ex ρ9 h9 z => ?_))
  obtain ⟨rfl, z⟩ := z
  refine ⟨11, 3, 1, hd_L_words_0, (Nat.le_of_ble_eq_true rfl), Or.inl ⟨3, dL_words_11, rfl, rfl⟩, ?_⟩
  exact z
theorem S_L_words_7 {kc ks : Nat} {h : Hh} {Q : PQ} {X : PX} {xs0 : Int}
    (k : ((0 : Int) ≤ 0 ∧ (0 : Int) < 1) ∧ Q [aI 0] am_R0 (am_st h 81 0 xs0)) :
    am_V M_L_words kc ks 7 [aU, aU, aU, aU] [aL xs0, aI 0, aR 81] am_R0 h Q X := by
  obtain ⟨⟨b0_1, b0_2⟩, k⟩ := k
  refine v_last dL_words_7 rfl b0_1 b0_2 ?_
  refine v_goto (tgt := 14) dL_words_8 (by decide) ?_
  refine v_iconst dL_words_14 ⟨by decide, by decide⟩ ?_
  exact v_iret dL_words_15 rfl rfl k
theorem S_L_words_12 {kc ks : Nat} {h : Hh} {Q : PQ} {X : PX} 
    (k : Q [aI 1] am_R0 h) :
    am_V M_L_words kc ks 12 [aU, aU, aU, aU] [] am_R0 h Q X := by
  refine v_iconst dL_words_12 ⟨by decide, by decide⟩ ?_
  exact v_iret dL_words_13 rfl rfl k
theorem S_L_word_0 {kc ks : Nat} {h : Hh} {Q : PQ} {X : PX} {x1 : Int} {x2 : Int}
    (k : (2 ≤ kc ∧ 12 ≤ ks) ∧ am_V M_X10_word 2 12 0 [aR 0, aI x1, aI x2, aU, aU, aU] [] am_R0 h (fun v ρ' h' => am_V M_L_word (kc - 2) (ks - 12) 8 [aU, aU, aU, aU, aU] (v ++ [aI 0, aR 81]) ρ' h' Q X) (fun Ex ρ' h' => (Ex = "java/lang/IndexOutOfBoundsException" ∧ am_V M_L_word (kc - 2) (ks - 12) 15 [aU, aU, aU, aU, aU] [] ρ' h' Q X) ∨ (Ex = "java/util/NoSuchElementException" ∧ am_V M_L_word (kc - 2) (ks - 12) 19 [aU, aU, aU, aU, aU] [] ρ' h' Q X))) :
    am_V M_L_word kc ks 0 [aR 0, aI x1, aI x2, aR 81, aU] [] am_R0 h Q X := by
  obtain ⟨⟨b0_1, b0_2⟩, k⟩ := k
  refine v_aload_n dL_word_0 rfl rfl ?_
  refine v_iconst dL_word_1 ⟨by decide, by decide⟩ ?_
  refine v_aload_n dL_word_2 rfl rfl ?_
  refine v_iload_n dL_word_3 rfl rfl ?_
  refine v_iload_n dL_word_4 rfl rfl ?_
  refine v_weak (E2 := [aU, aU, aU, aU, aU]) ⟨Or.inr rfl, ⟨Or.inr rfl, ⟨Or.inr rfl, ⟨Or.inr rfl, ⟨Or.inl rfl, trivial⟩⟩⟩⟩⟩ ?_
  refine v_callH (j := M_X10_word) (As := [aI x1, aI x2]) (st := [aI 0, aR 81]) (a := 0) (ci := 8) (N := 10) (E0 := [aR 0, aI x1, aI x2, aU, aU, aU]) (q9 := (RX10, TX10, 10)) dL_word_5 ml_L_103 J_X10_word b0_1 b0_2 (Nat.le_of_ble_eq_true rfl) (Nat.le_of_ble_eq_true rfl) (List.forall_mem_cons.mpr ⟨rfl, List.forall_mem_cons.mpr ⟨rfl, List.forall_mem_cons.mpr ⟨rfl, fun _ h9 => absurd h9 List.not_mem_nil⟩⟩⟩) (Nat.le_of_ble_eq_true rfl) rfl rfl rfl rfl pn_X10_word rfl (v_mono k (fun _ _ _ z => z) (fun Ex ρ9 h9 z => ?_))
  rcases z with ⟨rfl, z⟩ | ⟨rfl, z⟩
  · refine ⟨13, 4, 2, hd_L_word_0, (Nat.le_of_ble_eq_true rfl), Or.inr ⟨dL_word_13, rfl⟩, ?_⟩
    exact z
  · refine ⟨17, 4, 2, hd_L_word_1, (Nat.le_of_ble_eq_true rfl), Or.inr ⟨dL_word_17, rfl⟩, ?_⟩
    exact z
theorem S_L_word_8 {kc ks : Nat} {h : Hh} {Q : PQ} {X : PX} {xs0 : Int}
    (k : ((0 : Int) ≤ 0 ∧ (0 : Int) < 1) ∧ Q [aI 0] am_R0 (am_st h 81 0 xs0)) :
    am_V M_L_word kc ks 8 [aU, aU, aU, aU, aU] [aI xs0, aI 0, aR 81] am_R0 h Q X := by
  obtain ⟨⟨b0_1, b0_2⟩, k⟩ := k
  refine v_i2l dL_word_8 ?_
  refine v_last dL_word_9 rfl b0_1 b0_2 ?_
  refine v_goto (tgt := 21) dL_word_10 (by decide) ?_
  refine v_iconst dL_word_21 ⟨by decide, by decide⟩ ?_
  exact v_iret dL_word_22 rfl rfl k
theorem S_L_word_15 {kc ks : Nat} {h : Hh} {Q : PQ} {X : PX} 
    (k : Q [aI 1] am_R0 h) :
    am_V M_L_word kc ks 15 [aU, aU, aU, aU, aU] [] am_R0 h Q X := by
  refine v_iconst dL_word_15 ⟨by decide, by decide⟩ ?_
  exact v_iret dL_word_16 rfl rfl k
theorem S_L_word_19 {kc ks : Nat} {h : Hh} {Q : PQ} {X : PX} 
    (k : Q [aI 2] am_R0 h) :
    am_V M_L_word kc ks 19 [aU, aU, aU, aU, aU] [] am_R0 h Q X := by
  refine v_iconst dL_word_19 ⟨by decide, by decide⟩ ?_
  exact v_iret dL_word_20 rfl rfl k
theorem S_L_numberOf_0 {kc ks : Nat} {h : Hh} {Q : PQ} {X : PX} {x1 : Int}
    (k : (3 ≤ kc ∧ 18 ≤ ks) ∧ am_V M_X10_numberOf 3 18 0 [aR 0, aI x1, aU, aU] [] am_R0 h (fun v ρ' h' => am_V M_L_numberOf (kc - 3) (ks - 18) 7 [aU, aU, aU, aU] (v ++ [aI 0, aR 81]) ρ' h' Q X) (fun Ex ρ' h' => (Ex = "java/lang/IndexOutOfBoundsException" ∧ am_V M_L_numberOf (kc - 3) (ks - 18) 13 [aU, aU, aU, aU] [] ρ' h' Q X) ∨ (Ex = "java/lang/UnsupportedOperationException" ∧ am_V M_L_numberOf (kc - 3) (ks - 18) 16 [aU, aU, aU, aU] [] ρ' h' Q X) ∨ (Ex = "java/util/NoSuchElementException" ∧ am_V M_L_numberOf (kc - 3) (ks - 18) 19 [aU, aU, aU, aU] [] ρ' h' Q X))) :
    am_V M_L_numberOf kc ks 0 [aR 0, aI x1, aR 81, aU] [] am_R0 h Q X := by
  obtain ⟨⟨b0_1, b0_2⟩, k⟩ := k
  refine v_aload_n dL_numberOf_0 rfl rfl ?_
  refine v_iconst dL_numberOf_1 ⟨by decide, by decide⟩ ?_
  refine v_aload_n dL_numberOf_2 rfl rfl ?_
  refine v_iload_n dL_numberOf_3 rfl rfl ?_
  refine v_weak (E2 := [aU, aU, aU, aU]) ⟨Or.inr rfl, ⟨Or.inr rfl, ⟨Or.inr rfl, ⟨Or.inl rfl, trivial⟩⟩⟩⟩ ?_
  refine v_callH (j := M_X10_numberOf) (As := [aI x1]) (st := [aI 0, aR 81]) (a := 0) (ci := 8) (N := 10) (E0 := [aR 0, aI x1, aU, aU]) (q9 := (RX10, TX10, 10)) dL_numberOf_4 ml_L_106 J_X10_numberOf b0_1 b0_2 (Nat.le_of_ble_eq_true rfl) (Nat.le_of_ble_eq_true rfl) (List.forall_mem_cons.mpr ⟨rfl, List.forall_mem_cons.mpr ⟨rfl, fun _ h9 => absurd h9 List.not_mem_nil⟩⟩) (Nat.le_of_ble_eq_true rfl) rfl rfl rfl rfl pn_X10_numberOf rfl (v_mono k (fun _ _ _ z => z) (fun Ex ρ9 h9 z => ?_))
  rcases z with ⟨rfl, z⟩ | ⟨rfl, z⟩ | ⟨rfl, z⟩
  · refine ⟨12, 3, 1, hd_L_numberOf_0, (Nat.le_of_ble_eq_true rfl), Or.inl ⟨3, dL_numberOf_12, rfl, rfl⟩, ?_⟩
    exact z
  · refine ⟨15, 3, 1, hd_L_numberOf_1, (Nat.le_of_ble_eq_true rfl), Or.inl ⟨3, dL_numberOf_15, rfl, rfl⟩, ?_⟩
    exact z
  · refine ⟨18, 3, 1, hd_L_numberOf_2, (Nat.le_of_ble_eq_true rfl), Or.inl ⟨3, dL_numberOf_18, rfl, rfl⟩, ?_⟩
    exact z
theorem S_L_numberOf_7 {kc ks : Nat} {h : Hh} {Q : PQ} {X : PX} {xs0 : Int}
    (k : ((0 : Int) ≤ 0 ∧ (0 : Int) < 1) ∧ Q [aI 0] am_R0 (am_st h 81 0 xs0)) :
    am_V M_L_numberOf kc ks 7 [aU, aU, aU, aU] [aI xs0, aI 0, aR 81] am_R0 h Q X := by
  obtain ⟨⟨b0_1, b0_2⟩, k⟩ := k
  refine v_i2l dL_numberOf_7 ?_
  refine v_last dL_numberOf_8 rfl b0_1 b0_2 ?_
  refine v_goto (tgt := 21) dL_numberOf_9 (by decide) ?_
  refine v_iconst dL_numberOf_21 ⟨by decide, by decide⟩ ?_
  exact v_iret dL_numberOf_22 rfl rfl k
theorem S_L_numberOf_13 {kc ks : Nat} {h : Hh} {Q : PQ} {X : PX} 
    (k : Q [aI 1] am_R0 h) :
    am_V M_L_numberOf kc ks 13 [aU, aU, aU, aU] [] am_R0 h Q X := by
  refine v_iconst dL_numberOf_13 ⟨by decide, by decide⟩ ?_
  exact v_iret dL_numberOf_14 rfl rfl k
theorem S_L_numberOf_16 {kc ks : Nat} {h : Hh} {Q : PQ} {X : PX} 
    (k : Q [aI 2] am_R0 h) :
    am_V M_L_numberOf kc ks 16 [aU, aU, aU, aU] [] am_R0 h Q X := by
  refine v_iconst dL_numberOf_16 ⟨by decide, by decide⟩ ?_
  exact v_iret dL_numberOf_17 rfl rfl k
theorem S_L_numberOf_19 {kc ks : Nat} {h : Hh} {Q : PQ} {X : PX} 
    (k : Q [aI 3] am_R0 h) :
    am_V M_L_numberOf kc ks 19 [aU, aU, aU, aU] [] am_R0 h Q X := by
  refine v_iconst dL_numberOf_19 ⟨by decide, by decide⟩ ?_
  exact v_iret dL_numberOf_20 rfl rfl k
theorem S_L_twice_0 {kc ks : Nat} {h : Hh} {Q : PQ} {X : PX} {x1 : Int}
    (k : (1 ≤ kc ∧ 6 ≤ ks) ∧ am_V M_X10_twice 1 6 0 [aR 0, aI x1] [] am_R0 h (fun v ρ' h' => am_V M_L_twice (kc - 1) (ks - 6) 7 [aU, aU, aU, aU] (v ++ [aI 0, aR 81]) ρ' h' Q X) (fun Ex ρ' h' => (Ex = "java/lang/IndexOutOfBoundsException" ∧ am_V M_L_twice (kc - 1) (ks - 6) 13 [aU, aU, aU, aU] [] ρ' h' Q X))) :
    am_V M_L_twice kc ks 0 [aR 0, aI x1, aR 81, aU] [] am_R0 h Q X := by
  obtain ⟨⟨b0_1, b0_2⟩, k⟩ := k
  refine v_aload_n dL_twice_0 rfl rfl ?_
  refine v_iconst dL_twice_1 ⟨by decide, by decide⟩ ?_
  refine v_aload_n dL_twice_2 rfl rfl ?_
  refine v_iload_n dL_twice_3 rfl rfl ?_
  refine v_weak (E2 := [aU, aU, aU, aU]) ⟨Or.inr rfl, ⟨Or.inr rfl, ⟨Or.inr rfl, ⟨Or.inl rfl, trivial⟩⟩⟩⟩ ?_
  refine v_callH (j := M_X10_twice) (As := [aI x1]) (st := [aI 0, aR 81]) (a := 0) (ci := 8) (N := 10) (E0 := [aR 0, aI x1]) (q9 := (RX10, TX10, 10)) dL_twice_4 ml_L_109 J_X10_twice b0_1 b0_2 (Nat.le_of_ble_eq_true rfl) (Nat.le_of_ble_eq_true rfl) (List.forall_mem_cons.mpr ⟨rfl, List.forall_mem_cons.mpr ⟨rfl, fun _ h9 => absurd h9 List.not_mem_nil⟩⟩) (Nat.le_of_ble_eq_true rfl) rfl rfl rfl rfl pn_X10_twice rfl (v_mono k (fun _ _ _ z => z) (fun Ex ρ9 h9 z => ?_))
  obtain ⟨rfl, z⟩ := z
  refine ⟨12, 3, 1, hd_L_twice_0, (Nat.le_of_ble_eq_true rfl), Or.inl ⟨3, dL_twice_12, rfl, rfl⟩, ?_⟩
  exact z
theorem S_L_twice_7 {kc ks : Nat} {h : Hh} {Q : PQ} {X : PX} {xs0 : Int}
    (k : ((0 : Int) ≤ 0 ∧ (0 : Int) < 1) ∧ Q [aI 0] am_R0 (am_st h 81 0 xs0)) :
    am_V M_L_twice kc ks 7 [aU, aU, aU, aU] [aI xs0, aI 0, aR 81] am_R0 h Q X := by
  obtain ⟨⟨b0_1, b0_2⟩, k⟩ := k
  refine v_i2l dL_twice_7 ?_
  refine v_last dL_twice_8 rfl b0_1 b0_2 ?_
  refine v_goto (tgt := 15) dL_twice_9 (by decide) ?_
  refine v_iconst dL_twice_15 ⟨by decide, by decide⟩ ?_
  exact v_iret dL_twice_16 rfl rfl k
theorem S_L_twice_13 {kc ks : Nat} {h : Hh} {Q : PQ} {X : PX} 
    (k : Q [aI 1] am_R0 h) :
    am_V M_L_twice kc ks 13 [aU, aU, aU, aU] [] am_R0 h Q X := by
  refine v_iconst dL_twice_13 ⟨by decide, by decide⟩ ?_
  exact v_iret dL_twice_14 rfl rfl k
theorem S_L_twiceAt_0 {kc ks : Nat} {h : Hh} {Q : PQ} {X : PX} {x1 : Int}
    (k : (2 ≤ kc ∧ 12 ≤ ks) ∧ am_V M_X10_twiceAt 2 12 0 [aR 0, aI x1, aU] [] am_R0 h (fun v ρ' h' => am_V M_L_twiceAt (kc - 2) (ks - 12) 7 [aU, aU, aU, aU] (v ++ [aI 0, aR 81]) ρ' h' Q X) (fun Ex ρ' h' => (Ex = "java/lang/IndexOutOfBoundsException" ∧ am_V M_L_twiceAt (kc - 2) (ks - 12) 13 [aU, aU, aU, aU] [] ρ' h' Q X) ∨ (Ex = "java/util/NoSuchElementException" ∧ am_V M_L_twiceAt (kc - 2) (ks - 12) 16 [aU, aU, aU, aU] [] ρ' h' Q X))) :
    am_V M_L_twiceAt kc ks 0 [aR 0, aI x1, aR 81, aU] [] am_R0 h Q X := by
  obtain ⟨⟨b0_1, b0_2⟩, k⟩ := k
  refine v_aload_n dL_twiceAt_0 rfl rfl ?_
  refine v_iconst dL_twiceAt_1 ⟨by decide, by decide⟩ ?_
  refine v_aload_n dL_twiceAt_2 rfl rfl ?_
  refine v_iload_n dL_twiceAt_3 rfl rfl ?_
  refine v_weak (E2 := [aU, aU, aU, aU]) ⟨Or.inr rfl, ⟨Or.inr rfl, ⟨Or.inr rfl, ⟨Or.inl rfl, trivial⟩⟩⟩⟩ ?_
  refine v_callH (j := M_X10_twiceAt) (As := [aI x1]) (st := [aI 0, aR 81]) (a := 0) (ci := 8) (N := 10) (E0 := [aR 0, aI x1, aU]) (q9 := (RX10, TX10, 10)) dL_twiceAt_4 ml_L_112 J_X10_twiceAt b0_1 b0_2 (Nat.le_of_ble_eq_true rfl) (Nat.le_of_ble_eq_true rfl) (List.forall_mem_cons.mpr ⟨rfl, List.forall_mem_cons.mpr ⟨rfl, fun _ h9 => absurd h9 List.not_mem_nil⟩⟩) (Nat.le_of_ble_eq_true rfl) rfl rfl rfl rfl pn_X10_twiceAt rfl (v_mono k (fun _ _ _ z => z) (fun Ex ρ9 h9 z => ?_))
  rcases z with ⟨rfl, z⟩ | ⟨rfl, z⟩
  · refine ⟨12, 3, 1, hd_L_twiceAt_0, (Nat.le_of_ble_eq_true rfl), Or.inl ⟨3, dL_twiceAt_12, rfl, rfl⟩, ?_⟩
    exact z
  · refine ⟨15, 3, 1, hd_L_twiceAt_1, (Nat.le_of_ble_eq_true rfl), Or.inl ⟨3, dL_twiceAt_15, rfl, rfl⟩, ?_⟩
    exact z
theorem S_L_twiceAt_7 {kc ks : Nat} {h : Hh} {Q : PQ} {X : PX} {xs0 : Int}
    (k : ((0 : Int) ≤ 0 ∧ (0 : Int) < 1) ∧ Q [aI 0] am_R0 (am_st h 81 0 xs0)) :
    am_V M_L_twiceAt kc ks 7 [aU, aU, aU, aU] [aI xs0, aI 0, aR 81] am_R0 h Q X := by
  obtain ⟨⟨b0_1, b0_2⟩, k⟩ := k
  refine v_i2l dL_twiceAt_7 ?_
  refine v_last dL_twiceAt_8 rfl b0_1 b0_2 ?_
  refine v_goto (tgt := 18) dL_twiceAt_9 (by decide) ?_
  refine v_iconst dL_twiceAt_18 ⟨by decide, by decide⟩ ?_
  exact v_iret dL_twiceAt_19 rfl rfl k
theorem S_L_twiceAt_13 {kc ks : Nat} {h : Hh} {Q : PQ} {X : PX} 
    (k : Q [aI 1] am_R0 h) :
    am_V M_L_twiceAt kc ks 13 [aU, aU, aU, aU] [] am_R0 h Q X := by
  refine v_iconst dL_twiceAt_13 ⟨by decide, by decide⟩ ?_
  exact v_iret dL_twiceAt_14 rfl rfl k
theorem S_L_twiceAt_16 {kc ks : Nat} {h : Hh} {Q : PQ} {X : PX} 
    (k : Q [aI 2] am_R0 h) :
    am_V M_L_twiceAt kc ks 16 [aU, aU, aU, aU] [] am_R0 h Q X := by
  refine v_iconst dL_twiceAt_16 ⟨by decide, by decide⟩ ?_
  exact v_iret dL_twiceAt_17 rfl rfl k
theorem S_L_once_0 {kc ks : Nat} {h : Hh} {Q : PQ} {X : PX} {x1 : Int}
    (k : (2 ≤ kc ∧ 12 ≤ ks) ∧ am_V M_X10_once 2 12 0 [aR 0, aI x1] [] am_R0 h (fun v ρ' h' => am_V M_L_once (kc - 2) (ks - 12) 7 [aU, aU, aU, aU] (v ++ [aI 0, aR 81]) ρ' h' Q X) (fun Ex ρ' h' => (Ex = "java/lang/IndexOutOfBoundsException" ∧ am_V M_L_once (kc - 2) (ks - 12) 13 [aU, aU, aU, aU] [] ρ' h' Q X) ∨ (Ex = "java/util/NoSuchElementException" ∧ am_V M_L_once (kc - 2) (ks - 12) 16 [aU, aU, aU, aU] [] ρ' h' Q X))) :
    am_V M_L_once kc ks 0 [aR 0, aI x1, aR 81, aU] [] am_R0 h Q X := by
  obtain ⟨⟨b0_1, b0_2⟩, k⟩ := k
  refine v_aload_n dL_once_0 rfl rfl ?_
  refine v_iconst dL_once_1 ⟨by decide, by decide⟩ ?_
  refine v_aload_n dL_once_2 rfl rfl ?_
  refine v_iload_n dL_once_3 rfl rfl ?_
  refine v_weak (E2 := [aU, aU, aU, aU]) ⟨Or.inr rfl, ⟨Or.inr rfl, ⟨Or.inr rfl, ⟨Or.inl rfl, trivial⟩⟩⟩⟩ ?_
  refine v_callH (j := M_X10_once) (As := [aI x1]) (st := [aI 0, aR 81]) (a := 0) (ci := 8) (N := 10) (E0 := [aR 0, aI x1]) (q9 := (RX10, TX10, 10)) dL_once_4 ml_L_115 J_X10_once b0_1 b0_2 (Nat.le_of_ble_eq_true rfl) (Nat.le_of_ble_eq_true rfl) (List.forall_mem_cons.mpr ⟨rfl, List.forall_mem_cons.mpr ⟨rfl, fun _ h9 => absurd h9 List.not_mem_nil⟩⟩) (Nat.le_of_ble_eq_true rfl) rfl rfl rfl rfl pn_X10_once rfl (v_mono k (fun _ _ _ z => z) (fun Ex ρ9 h9 z => ?_))
  rcases z with ⟨rfl, z⟩ | ⟨rfl, z⟩
  · refine ⟨12, 3, 1, hd_L_once_0, (Nat.le_of_ble_eq_true rfl), Or.inl ⟨3, dL_once_12, rfl, rfl⟩, ?_⟩
    exact z
  · refine ⟨15, 3, 1, hd_L_once_1, (Nat.le_of_ble_eq_true rfl), Or.inl ⟨3, dL_once_15, rfl, rfl⟩, ?_⟩
    exact z
theorem S_L_once_7 {kc ks : Nat} {h : Hh} {Q : PQ} {X : PX} {xs0 : Int}
    (k : ((0 : Int) ≤ 0 ∧ (0 : Int) < 1) ∧ Q [aI 0] am_R0 (am_st h 81 0 xs0)) :
    am_V M_L_once kc ks 7 [aU, aU, aU, aU] [aI xs0, aI 0, aR 81] am_R0 h Q X := by
  obtain ⟨⟨b0_1, b0_2⟩, k⟩ := k
  refine v_i2l dL_once_7 ?_
  refine v_last dL_once_8 rfl b0_1 b0_2 ?_
  refine v_goto (tgt := 18) dL_once_9 (by decide) ?_
  refine v_iconst dL_once_18 ⟨by decide, by decide⟩ ?_
  exact v_iret dL_once_19 rfl rfl k
theorem S_L_once_13 {kc ks : Nat} {h : Hh} {Q : PQ} {X : PX} 
    (k : Q [aI 1] am_R0 h) :
    am_V M_L_once kc ks 13 [aU, aU, aU, aU] [] am_R0 h Q X := by
  refine v_iconst dL_once_13 ⟨by decide, by decide⟩ ?_
  exact v_iret dL_once_14 rfl rfl k
theorem S_L_once_16 {kc ks : Nat} {h : Hh} {Q : PQ} {X : PX} 
    (k : Q [aI 2] am_R0 h) :
    am_V M_L_once kc ks 16 [aU, aU, aU, aU] [] am_R0 h Q X := by
  refine v_iconst dL_once_16 ⟨by decide, by decide⟩ ?_
  exact v_iret dL_once_17 rfl rfl k
theorem S_L_onceAt_0 {kc ks : Nat} {h : Hh} {Q : PQ} {X : PX} {x1 : Int}
    (k : (2 ≤ kc ∧ 12 ≤ ks) ∧ am_V M_X10_onceAt 2 12 0 [aR 0, aI x1] [] am_R0 h (fun v ρ' h' => am_V M_L_onceAt (kc - 2) (ks - 12) 7 [aU, aU, aU, aU] (v ++ [aI 0, aR 81]) ρ' h' Q X) (fun Ex ρ' h' => (Ex = "java/lang/IndexOutOfBoundsException" ∧ am_V M_L_onceAt (kc - 2) (ks - 12) 13 [aU, aU, aU, aU] [] ρ' h' Q X) ∨ (Ex = "java/util/NoSuchElementException" ∧ am_V M_L_onceAt (kc - 2) (ks - 12) 16 [aU, aU, aU, aU] [] ρ' h' Q X))) :
    am_V M_L_onceAt kc ks 0 [aR 0, aI x1, aR 81, aU] [] am_R0 h Q X := by
  obtain ⟨⟨b0_1, b0_2⟩, k⟩ := k
  refine v_aload_n dL_onceAt_0 rfl rfl ?_
  refine v_iconst dL_onceAt_1 ⟨by decide, by decide⟩ ?_
  refine v_aload_n dL_onceAt_2 rfl rfl ?_
  refine v_iload_n dL_onceAt_3 rfl rfl ?_
  refine v_weak (E2 := [aU, aU, aU, aU]) ⟨Or.inr rfl, ⟨Or.inr rfl, ⟨Or.inr rfl, ⟨Or.inl rfl, trivial⟩⟩⟩⟩ ?_
  refine v_callH (j := M_X10_onceAt) (As := [aI x1]) (st := [aI 0, aR 81]) (a := 0) (ci := 8) (N := 10) (E0 := [aR 0, aI x1]) (q9 := (RX10, TX10, 10)) dL_onceAt_4 ml_L_118 J_X10_onceAt b0_1 b0_2 (Nat.le_of_ble_eq_true rfl) (Nat.le_of_ble_eq_true rfl) (List.forall_mem_cons.mpr ⟨rfl, List.forall_mem_cons.mpr ⟨rfl, fun _ h9 => absurd h9 List.not_mem_nil⟩⟩) (Nat.le_of_ble_eq_true rfl) rfl rfl rfl rfl pn_X10_onceAt rfl (v_mono k (fun _ _ _ z => z) (fun Ex ρ9 h9 z => ?_))
  rcases z with ⟨rfl, z⟩ | ⟨rfl, z⟩
  · refine ⟨12, 3, 1, hd_L_onceAt_0, (Nat.le_of_ble_eq_true rfl), Or.inl ⟨3, dL_onceAt_12, rfl, rfl⟩, ?_⟩
    exact z
  · refine ⟨15, 3, 1, hd_L_onceAt_1, (Nat.le_of_ble_eq_true rfl), Or.inl ⟨3, dL_onceAt_15, rfl, rfl⟩, ?_⟩
    exact z
theorem S_L_onceAt_7 {kc ks : Nat} {h : Hh} {Q : PQ} {X : PX} {xs0 : Int}
    (k : ((0 : Int) ≤ 0 ∧ (0 : Int) < 1) ∧ Q [aI 0] am_R0 (am_st h 81 0 xs0)) :
    am_V M_L_onceAt kc ks 7 [aU, aU, aU, aU] [aI xs0, aI 0, aR 81] am_R0 h Q X := by
  obtain ⟨⟨b0_1, b0_2⟩, k⟩ := k
  refine v_i2l dL_onceAt_7 ?_
  refine v_last dL_onceAt_8 rfl b0_1 b0_2 ?_
  refine v_goto (tgt := 18) dL_onceAt_9 (by decide) ?_
  refine v_iconst dL_onceAt_18 ⟨by decide, by decide⟩ ?_
  exact v_iret dL_onceAt_19 rfl rfl k
theorem S_L_onceAt_13 {kc ks : Nat} {h : Hh} {Q : PQ} {X : PX} 
    (k : Q [aI 1] am_R0 h) :
    am_V M_L_onceAt kc ks 13 [aU, aU, aU, aU] [] am_R0 h Q X := by
  refine v_iconst dL_onceAt_13 ⟨by decide, by decide⟩ ?_
  exact v_iret dL_onceAt_14 rfl rfl k
theorem S_L_onceAt_16 {kc ks : Nat} {h : Hh} {Q : PQ} {X : PX} 
    (k : Q [aI 2] am_R0 h) :
    am_V M_L_onceAt kc ks 16 [aU, aU, aU, aU] [] am_R0 h Q X := by
  refine v_iconst dL_onceAt_16 ⟨by decide, by decide⟩ ?_
  exact v_iret dL_onceAt_17 rfl rfl k
theorem S_L_longestIn_0 {kc ks : Nat} {h : Hh} {Q : PQ} {X : PX} {x1 : Int}
    (k : (1 ≤ kc ∧ 6 ≤ ks) ∧ am_V M_X10_longestIn 1 6 0 [aR 0, aI x1, aU] [] am_R0 h (fun v ρ' h' => am_V M_L_longestIn (kc - 1) (ks - 6) 7 [aU, aU, aU, aU] (v ++ [aI 0, aR 81]) ρ' h' Q X) (fun Ex ρ' h' => (Ex = "java/lang/IllegalArgumentException" ∧ am_V M_L_longestIn (kc - 1) (ks - 6) 13 [aU, aU, aU, aU] [] ρ' h' Q X) ∨ (Ex = "java/util/NoSuchElementException" ∧ am_V M_L_longestIn (kc - 1) (ks - 6) 16 [aU, aU, aU, aU] [] ρ' h' Q X))) :
    am_V M_L_longestIn kc ks 0 [aR 0, aI x1, aR 81, aU] [] am_R0 h Q X := by
  obtain ⟨⟨b0_1, b0_2⟩, k⟩ := k
  refine v_aload_n dL_longestIn_0 rfl rfl ?_
  refine v_iconst dL_longestIn_1 ⟨by decide, by decide⟩ ?_
  refine v_aload_n dL_longestIn_2 rfl rfl ?_
  refine v_iload_n dL_longestIn_3 rfl rfl ?_
  refine v_weak (E2 := [aU, aU, aU, aU]) ⟨Or.inr rfl, ⟨Or.inr rfl, ⟨Or.inr rfl, ⟨Or.inl rfl, trivial⟩⟩⟩⟩ ?_
  refine v_callH (j := M_X10_longestIn) (As := [aI x1]) (st := [aI 0, aR 81]) (a := 0) (ci := 8) (N := 10) (E0 := [aR 0, aI x1, aU]) (q9 := (RX10, TX10, 10)) dL_longestIn_4 ml_L_121 J_X10_longestIn b0_1 b0_2 (Nat.le_of_ble_eq_true rfl) (Nat.le_of_ble_eq_true rfl) (List.forall_mem_cons.mpr ⟨rfl, List.forall_mem_cons.mpr ⟨rfl, fun _ h9 => absurd h9 List.not_mem_nil⟩⟩) (Nat.le_of_ble_eq_true rfl) rfl rfl rfl rfl pn_X10_longestIn rfl (v_mono k (fun _ _ _ z => z) (fun Ex ρ9 h9 z => ?_))
  rcases z with ⟨rfl, z⟩ | ⟨rfl, z⟩
  · refine ⟨12, 3, 1, hd_L_longestIn_0, (Nat.le_of_ble_eq_true rfl), Or.inl ⟨3, dL_longestIn_12, rfl, rfl⟩, ?_⟩
    exact z
  · refine ⟨15, 3, 1, hd_L_longestIn_1, (Nat.le_of_ble_eq_true rfl), Or.inl ⟨3, dL_longestIn_15, rfl, rfl⟩, ?_⟩
    exact z
theorem S_L_longestIn_7 {kc ks : Nat} {h : Hh} {Q : PQ} {X : PX} {xs0 : Int}
    (k : ((0 : Int) ≤ 0 ∧ (0 : Int) < 1) ∧ Q [aI 0] am_R0 (am_st h 81 0 xs0)) :
    am_V M_L_longestIn kc ks 7 [aU, aU, aU, aU] [aI xs0, aI 0, aR 81] am_R0 h Q X := by
  obtain ⟨⟨b0_1, b0_2⟩, k⟩ := k
  refine v_i2l dL_longestIn_7 ?_
  refine v_last dL_longestIn_8 rfl b0_1 b0_2 ?_
  refine v_goto (tgt := 18) dL_longestIn_9 (by decide) ?_
  refine v_iconst dL_longestIn_18 ⟨by decide, by decide⟩ ?_
  exact v_iret dL_longestIn_19 rfl rfl k
theorem S_L_longestIn_13 {kc ks : Nat} {h : Hh} {Q : PQ} {X : PX} 
    (k : Q [aI 1] am_R0 h) :
    am_V M_L_longestIn kc ks 13 [aU, aU, aU, aU] [] am_R0 h Q X := by
  refine v_iconst dL_longestIn_13 ⟨by decide, by decide⟩ ?_
  exact v_iret dL_longestIn_14 rfl rfl k
theorem S_L_longestIn_16 {kc ks : Nat} {h : Hh} {Q : PQ} {X : PX} 
    (k : Q [aI 2] am_R0 h) :
    am_V M_L_longestIn kc ks 16 [aU, aU, aU, aU] [] am_R0 h Q X := by
  refine v_iconst dL_longestIn_16 ⟨by decide, by decide⟩ ?_
  exact v_iret dL_longestIn_17 rfl rfl k
theorem S_L_first_0 {kc ks : Nat} {h : Hh} {Q : PQ} {X : PX} {x1 : Int} {x2 : Int}
    (k : (2 ≤ kc ∧ 12 ≤ ks) ∧ am_V M_X10_first 2 12 0 [aR 0, aI x1, aI x2] [] am_R0 h (fun v ρ' h' => am_V M_L_first (kc - 2) (ks - 12) 8 [aU, aU, aU, aU, aU] (v ++ [aI 0, aR 81]) ρ' h' Q X) (fun Ex ρ' h' => (Ex = "java/lang/IndexOutOfBoundsException" ∧ am_V M_L_first (kc - 2) (ks - 12) 15 [aU, aU, aU, aU, aU] [] ρ' h' Q X))) :
    am_V M_L_first kc ks 0 [aR 0, aI x1, aI x2, aR 81, aU] [] am_R0 h Q X := by
  obtain ⟨⟨b0_1, b0_2⟩, k⟩ := k
  refine v_aload_n dL_first_0 rfl rfl ?_
  refine v_iconst dL_first_1 ⟨by decide, by decide⟩ ?_
  refine v_aload_n dL_first_2 rfl rfl ?_
  refine v_iload_n dL_first_3 rfl rfl ?_
  refine v_iload_n dL_first_4 rfl rfl ?_
  refine v_weak (E2 := [aU, aU, aU, aU, aU]) ⟨Or.inr rfl, ⟨Or.inr rfl, ⟨Or.inr rfl, ⟨Or.inr rfl, ⟨Or.inl rfl, trivial⟩⟩⟩⟩⟩ ?_
  refine v_callH (j := M_X10_first) (As := [aI x1, aI x2]) (st := [aI 0, aR 81]) (a := 0) (ci := 8) (N := 10) (E0 := [aR 0, aI x1, aI x2]) (q9 := (RX10, TX10, 10)) dL_first_5 ml_L_124 J_X10_first b0_1 b0_2 (Nat.le_of_ble_eq_true rfl) (Nat.le_of_ble_eq_true rfl) (List.forall_mem_cons.mpr ⟨rfl, List.forall_mem_cons.mpr ⟨rfl, List.forall_mem_cons.mpr ⟨rfl, fun _ h9 => absurd h9 List.not_mem_nil⟩⟩⟩) (Nat.le_of_ble_eq_true rfl) rfl rfl rfl rfl pn_X10_first rfl (v_mono k (fun _ _ _ z => z) (fun Ex ρ9 h9 z => ?_))
  obtain ⟨rfl, z⟩ := z
  refine ⟨13, 4, 2, hd_L_first_0, (Nat.le_of_ble_eq_true rfl), Or.inr ⟨dL_first_13, rfl⟩, ?_⟩
  exact z
theorem S_L_first_8 {kc ks : Nat} {h : Hh} {Q : PQ} {X : PX} {xs0 : Int}
    (k : ((0 : Int) ≤ 0 ∧ (0 : Int) < 1) ∧ Q [aI 0] am_R0 (am_st h 81 0 xs0)) :
    am_V M_L_first kc ks 8 [aU, aU, aU, aU, aU] [aI xs0, aI 0, aR 81] am_R0 h Q X := by
  obtain ⟨⟨b0_1, b0_2⟩, k⟩ := k
  refine v_i2l dL_first_8 ?_
  refine v_last dL_first_9 rfl b0_1 b0_2 ?_
  refine v_goto (tgt := 17) dL_first_10 (by decide) ?_
  refine v_iconst dL_first_17 ⟨by decide, by decide⟩ ?_
  exact v_iret dL_first_18 rfl rfl k
theorem S_L_first_15 {kc ks : Nat} {h : Hh} {Q : PQ} {X : PX} 
    (k : Q [aI 1] am_R0 h) :
    am_V M_L_first kc ks 15 [aU, aU, aU, aU, aU] [] am_R0 h Q X := by
  refine v_iconst dL_first_15 ⟨by decide, by decide⟩ ?_
  exact v_iret dL_first_16 rfl rfl k
theorem S_L_last_0 {kc ks : Nat} {h : Hh} {Q : PQ} {X : PX} {x1 : Int} {x2 : Int}
    (k : (2 ≤ kc ∧ 12 ≤ ks) ∧ am_V M_X10_last 2 12 0 [aR 0, aI x1, aI x2] [] am_R0 h (fun v ρ' h' => am_V M_L_last (kc - 2) (ks - 12) 8 [aU, aU, aU, aU, aU] (v ++ [aI 0, aR 81]) ρ' h' Q X) (fun Ex ρ' h' => (Ex = "java/lang/IndexOutOfBoundsException" ∧ am_V M_L_last (kc - 2) (ks - 12) 15 [aU, aU, aU, aU, aU] [] ρ' h' Q X))) :
    am_V M_L_last kc ks 0 [aR 0, aI x1, aI x2, aR 81, aU] [] am_R0 h Q X := by
  obtain ⟨⟨b0_1, b0_2⟩, k⟩ := k
  refine v_aload_n dL_last_0 rfl rfl ?_
  refine v_iconst dL_last_1 ⟨by decide, by decide⟩ ?_
  refine v_aload_n dL_last_2 rfl rfl ?_
  refine v_iload_n dL_last_3 rfl rfl ?_
  refine v_iload_n dL_last_4 rfl rfl ?_
  refine v_weak (E2 := [aU, aU, aU, aU, aU]) ⟨Or.inr rfl, ⟨Or.inr rfl, ⟨Or.inr rfl, ⟨Or.inr rfl, ⟨Or.inl rfl, trivial⟩⟩⟩⟩⟩ ?_
  refine v_callH (j := M_X10_last) (As := [aI x1, aI x2]) (st := [aI 0, aR 81]) (a := 0) (ci := 8) (N := 10) (E0 := [aR 0, aI x1, aI x2]) (q9 := (RX10, TX10, 10)) dL_last_5 ml_L_127 J_X10_last b0_1 b0_2 (Nat.le_of_ble_eq_true rfl) (Nat.le_of_ble_eq_true rfl) (List.forall_mem_cons.mpr ⟨rfl, List.forall_mem_cons.mpr ⟨rfl, List.forall_mem_cons.mpr ⟨rfl, fun _ h9 => absurd h9 List.not_mem_nil⟩⟩⟩) (Nat.le_of_ble_eq_true rfl) rfl rfl rfl rfl pn_X10_last rfl (v_mono k (fun _ _ _ z => z) (fun Ex ρ9 h9 z => ?_))
  obtain ⟨rfl, z⟩ := z
  refine ⟨13, 4, 2, hd_L_last_0, (Nat.le_of_ble_eq_true rfl), Or.inr ⟨dL_last_13, rfl⟩, ?_⟩
  exact z
theorem S_L_last_8 {kc ks : Nat} {h : Hh} {Q : PQ} {X : PX} {xs0 : Int}
    (k : ((0 : Int) ≤ 0 ∧ (0 : Int) < 1) ∧ Q [aI 0] am_R0 (am_st h 81 0 xs0)) :
    am_V M_L_last kc ks 8 [aU, aU, aU, aU, aU] [aI xs0, aI 0, aR 81] am_R0 h Q X := by
  obtain ⟨⟨b0_1, b0_2⟩, k⟩ := k
  refine v_i2l dL_last_8 ?_
  refine v_last dL_last_9 rfl b0_1 b0_2 ?_
  refine v_goto (tgt := 17) dL_last_10 (by decide) ?_
  refine v_iconst dL_last_17 ⟨by decide, by decide⟩ ?_
  exact v_iret dL_last_18 rfl rfl k
theorem S_L_last_15 {kc ks : Nat} {h : Hh} {Q : PQ} {X : PX} 
    (k : Q [aI 1] am_R0 h) :
    am_V M_L_last kc ks 15 [aU, aU, aU, aU, aU] [] am_R0 h Q X := by
  refine v_iconst dL_last_15 ⟨by decide, by decide⟩ ?_
  exact v_iret dL_last_16 rfl rfl k
theorem S_L_back_0 {kc ks : Nat} {h : Hh} {Q : PQ} {X : PX} {x1 : Int} {x2 : Int}
    (k : (2 ≤ kc ∧ 12 ≤ ks) ∧ am_V M_X10_back 2 12 0 [aR 0, aI x1, aI x2] [] am_R0 h (fun v ρ' h' => am_V M_L_back (kc - 2) (ks - 12) 8 [aU, aU, aU, aU, aU] (v ++ [aI 0, aR 81]) ρ' h' Q X) (fun Ex ρ' h' => (Ex = "java/lang/IndexOutOfBoundsException" ∧ am_V M_L_back (kc - 2) (ks - 12) 15 [aU, aU, aU, aU, aU] [] ρ' h' Q X))) :
    am_V M_L_back kc ks 0 [aR 0, aI x1, aI x2, aR 81, aU] [] am_R0 h Q X := by
  obtain ⟨⟨b0_1, b0_2⟩, k⟩ := k
  refine v_aload_n dL_back_0 rfl rfl ?_
  refine v_iconst dL_back_1 ⟨by decide, by decide⟩ ?_
  refine v_aload_n dL_back_2 rfl rfl ?_
  refine v_iload_n dL_back_3 rfl rfl ?_
  refine v_iload_n dL_back_4 rfl rfl ?_
  refine v_weak (E2 := [aU, aU, aU, aU, aU]) ⟨Or.inr rfl, ⟨Or.inr rfl, ⟨Or.inr rfl, ⟨Or.inr rfl, ⟨Or.inl rfl, trivial⟩⟩⟩⟩⟩ ?_
  refine v_callH (j := M_X10_back) (As := [aI x1, aI x2]) (st := [aI 0, aR 81]) (a := 0) (ci := 8) (N := 10) (E0 := [aR 0, aI x1, aI x2]) (q9 := (RX10, TX10, 10)) dL_back_5 ml_L_130 J_X10_back b0_1 b0_2 (Nat.le_of_ble_eq_true rfl) (Nat.le_of_ble_eq_true rfl) (List.forall_mem_cons.mpr ⟨rfl, List.forall_mem_cons.mpr ⟨rfl, List.forall_mem_cons.mpr ⟨rfl, fun _ h9 => absurd h9 List.not_mem_nil⟩⟩⟩) (Nat.le_of_ble_eq_true rfl) rfl rfl rfl rfl pn_X10_back rfl (v_mono k (fun _ _ _ z => z) (fun Ex ρ9 h9 z => ?_))
  obtain ⟨rfl, z⟩ := z
  refine ⟨13, 4, 2, hd_L_back_0, (Nat.le_of_ble_eq_true rfl), Or.inr ⟨dL_back_13, rfl⟩, ?_⟩
  exact z
theorem S_L_back_8 {kc ks : Nat} {h : Hh} {Q : PQ} {X : PX} {xs0 : Int}
    (k : ((0 : Int) ≤ 0 ∧ (0 : Int) < 1) ∧ Q [aI 0] am_R0 (am_st h 81 0 xs0)) :
    am_V M_L_back kc ks 8 [aU, aU, aU, aU, aU] [aI xs0, aI 0, aR 81] am_R0 h Q X := by
  obtain ⟨⟨b0_1, b0_2⟩, k⟩ := k
  refine v_i2l dL_back_8 ?_
  refine v_last dL_back_9 rfl b0_1 b0_2 ?_
  refine v_goto (tgt := 17) dL_back_10 (by decide) ?_
  refine v_iconst dL_back_17 ⟨by decide, by decide⟩ ?_
  exact v_iret dL_back_18 rfl rfl k
theorem S_L_back_15 {kc ks : Nat} {h : Hh} {Q : PQ} {X : PX} 
    (k : Q [aI 1] am_R0 h) :
    am_V M_L_back kc ks 15 [aU, aU, aU, aU, aU] [] am_R0 h Q X := by
  refine v_iconst dL_back_15 ⟨by decide, by decide⟩ ?_
  exact v_iret dL_back_16 rfl rfl k
theorem S_L_runs_0 {kc ks : Nat} {h : Hh} {Q : PQ} {X : PX} {x1 : Int}
    (k : (1 ≤ kc ∧ 6 ≤ ks) ∧ am_V M_X10_runs 1 6 0 [aR 0, aI x1, aU, aU, aU] [] am_R0 h (fun v ρ' h' => am_V M_L_runs (kc - 1) (ks - 6) 7 [aU, aU, aU, aU] (v ++ [aI 0, aR 81]) ρ' h' Q X) (fun Ex ρ' h' => (Ex = "java/lang/IndexOutOfBoundsException" ∧ am_V M_L_runs (kc - 1) (ks - 6) 13 [aU, aU, aU, aU] [] ρ' h' Q X))) :
    am_V M_L_runs kc ks 0 [aR 0, aI x1, aR 81, aU] [] am_R0 h Q X := by
  obtain ⟨⟨b0_1, b0_2⟩, k⟩ := k
  refine v_aload_n dL_runs_0 rfl rfl ?_
  refine v_iconst dL_runs_1 ⟨by decide, by decide⟩ ?_
  refine v_aload_n dL_runs_2 rfl rfl ?_
  refine v_iload_n dL_runs_3 rfl rfl ?_
  refine v_weak (E2 := [aU, aU, aU, aU]) ⟨Or.inr rfl, ⟨Or.inr rfl, ⟨Or.inr rfl, ⟨Or.inl rfl, trivial⟩⟩⟩⟩ ?_
  refine v_callH (j := M_X10_runs) (As := [aI x1]) (st := [aI 0, aR 81]) (a := 0) (ci := 8) (N := 10) (E0 := [aR 0, aI x1, aU, aU, aU]) (q9 := (RX10, TX10, 10)) dL_runs_4 ml_L_133 J_X10_runs b0_1 b0_2 (Nat.le_of_ble_eq_true rfl) (Nat.le_of_ble_eq_true rfl) (List.forall_mem_cons.mpr ⟨rfl, List.forall_mem_cons.mpr ⟨rfl, fun _ h9 => absurd h9 List.not_mem_nil⟩⟩) (Nat.le_of_ble_eq_true rfl) rfl rfl rfl rfl pn_X10_runs rfl (v_mono k (fun _ _ _ z => z) (fun Ex ρ9 h9 z => ?_))
  obtain ⟨rfl, z⟩ := z
  refine ⟨12, 3, 1, hd_L_runs_0, (Nat.le_of_ble_eq_true rfl), Or.inl ⟨3, dL_runs_12, rfl, rfl⟩, ?_⟩
  exact z
theorem S_L_runs_7 {kc ks : Nat} {h : Hh} {Q : PQ} {X : PX} {xs0 : Int}
    (k : ((0 : Int) ≤ 0 ∧ (0 : Int) < 1) ∧ Q [aI 0] am_R0 (am_st h 81 0 xs0)) :
    am_V M_L_runs kc ks 7 [aU, aU, aU, aU] [aI xs0, aI 0, aR 81] am_R0 h Q X := by
  obtain ⟨⟨b0_1, b0_2⟩, k⟩ := k
  refine v_i2l dL_runs_7 ?_
  refine v_last dL_runs_8 rfl b0_1 b0_2 ?_
  refine v_goto (tgt := 15) dL_runs_9 (by decide) ?_
  refine v_iconst dL_runs_15 ⟨by decide, by decide⟩ ?_
  exact v_iret dL_runs_16 rfl rfl k
theorem S_L_runs_13 {kc ks : Nat} {h : Hh} {Q : PQ} {X : PX} 
    (k : Q [aI 1] am_R0 h) :
    am_V M_L_runs kc ks 13 [aU, aU, aU, aU] [] am_R0 h Q X := by
  refine v_iconst dL_runs_13 ⟨by decide, by decide⟩ ?_
  exact v_iret dL_runs_14 rfl rfl k
theorem S_L_front_0 {kc ks : Nat} {h : Hh} {Q : PQ} {X : PX} {x1 : Int} {x2 : Int}
    (k : (2 ≤ kc ∧ 12 ≤ ks) ∧ am_V M_X10_front 2 12 0 [aR 0, aI x1, aI x2] [] am_R0 h (fun v ρ' h' => am_V M_L_front (kc - 2) (ks - 12) 8 [aU, aU, aU, aU, aU] (v ++ [aI 0, aR 81]) ρ' h' Q X) (fun Ex ρ' h' => (Ex = "java/lang/IndexOutOfBoundsException" ∧ am_V M_L_front (kc - 2) (ks - 12) 15 [aU, aU, aU, aU, aU] [] ρ' h' Q X))) :
    am_V M_L_front kc ks 0 [aR 0, aI x1, aI x2, aR 81, aU] [] am_R0 h Q X := by
  obtain ⟨⟨b0_1, b0_2⟩, k⟩ := k
  refine v_aload_n dL_front_0 rfl rfl ?_
  refine v_iconst dL_front_1 ⟨by decide, by decide⟩ ?_
  refine v_aload_n dL_front_2 rfl rfl ?_
  refine v_iload_n dL_front_3 rfl rfl ?_
  refine v_iload_n dL_front_4 rfl rfl ?_
  refine v_weak (E2 := [aU, aU, aU, aU, aU]) ⟨Or.inr rfl, ⟨Or.inr rfl, ⟨Or.inr rfl, ⟨Or.inr rfl, ⟨Or.inl rfl, trivial⟩⟩⟩⟩⟩ ?_
  refine v_callH (j := M_X10_front) (As := [aI x1, aI x2]) (st := [aI 0, aR 81]) (a := 0) (ci := 8) (N := 10) (E0 := [aR 0, aI x1, aI x2]) (q9 := (RX10, TX10, 10)) dL_front_5 ml_L_136 J_X10_front b0_1 b0_2 (Nat.le_of_ble_eq_true rfl) (Nat.le_of_ble_eq_true rfl) (List.forall_mem_cons.mpr ⟨rfl, List.forall_mem_cons.mpr ⟨rfl, List.forall_mem_cons.mpr ⟨rfl, fun _ h9 => absurd h9 List.not_mem_nil⟩⟩⟩) (Nat.le_of_ble_eq_true rfl) rfl rfl rfl rfl pn_X10_front rfl (v_mono k (fun _ _ _ z => z) (fun Ex ρ9 h9 z => ?_))
  obtain ⟨rfl, z⟩ := z
  refine ⟨13, 4, 2, hd_L_front_0, (Nat.le_of_ble_eq_true rfl), Or.inr ⟨dL_front_13, rfl⟩, ?_⟩
  exact z
theorem S_L_front_8 {kc ks : Nat} {h : Hh} {Q : PQ} {X : PX} {xs0 : Int}
    (k : ((0 : Int) ≤ 0 ∧ (0 : Int) < 1) ∧ Q [aI 0] am_R0 (am_st h 81 0 xs0)) :
    am_V M_L_front kc ks 8 [aU, aU, aU, aU, aU] [aI xs0, aI 0, aR 81] am_R0 h Q X := by
  obtain ⟨⟨b0_1, b0_2⟩, k⟩ := k
  refine v_i2l dL_front_8 ?_
  refine v_last dL_front_9 rfl b0_1 b0_2 ?_
  refine v_goto (tgt := 17) dL_front_10 (by decide) ?_
  refine v_iconst dL_front_17 ⟨by decide, by decide⟩ ?_
  exact v_iret dL_front_18 rfl rfl k
theorem S_L_front_15 {kc ks : Nat} {h : Hh} {Q : PQ} {X : PX} 
    (k : Q [aI 1] am_R0 h) :
    am_V M_L_front kc ks 15 [aU, aU, aU, aU, aU] [] am_R0 h Q X := by
  refine v_iconst dL_front_15 ⟨by decide, by decide⟩ ?_
  exact v_iret dL_front_16 rfl rfl k
theorem S_L_column_0 {kc ks : Nat} {h : Hh} {Q : PQ} {X : PX} {x1 : Int}
    (k : (1 ≤ kc ∧ 6 ≤ ks) ∧ am_V M_X10_column 1 6 0 [aR 0, aI x1, aU, aU] [] am_R0 h (fun v ρ' h' => am_V M_L_column (kc - 1) (ks - 6) 7 [aU, aU, aU, aU] (v ++ [aI 0, aR 81]) ρ' h' Q X) (fun Ex ρ' h' => (Ex = "java/lang/IndexOutOfBoundsException" ∧ am_V M_L_column (kc - 1) (ks - 6) 13 [aU, aU, aU, aU] [] ρ' h' Q X))) :
    am_V M_L_column kc ks 0 [aR 0, aI x1, aR 81, aU] [] am_R0 h Q X := by
  obtain ⟨⟨b0_1, b0_2⟩, k⟩ := k
  refine v_aload_n dL_column_0 rfl rfl ?_
  refine v_iconst dL_column_1 ⟨by decide, by decide⟩ ?_
  refine v_aload_n dL_column_2 rfl rfl ?_
  refine v_iload_n dL_column_3 rfl rfl ?_
  refine v_weak (E2 := [aU, aU, aU, aU]) ⟨Or.inr rfl, ⟨Or.inr rfl, ⟨Or.inr rfl, ⟨Or.inl rfl, trivial⟩⟩⟩⟩ ?_
  refine v_callH (j := M_X10_column) (As := [aI x1]) (st := [aI 0, aR 81]) (a := 0) (ci := 8) (N := 10) (E0 := [aR 0, aI x1, aU, aU]) (q9 := (RX10, TX10, 10)) dL_column_4 ml_L_139 J_X10_column b0_1 b0_2 (Nat.le_of_ble_eq_true rfl) (Nat.le_of_ble_eq_true rfl) (List.forall_mem_cons.mpr ⟨rfl, List.forall_mem_cons.mpr ⟨rfl, fun _ h9 => absurd h9 List.not_mem_nil⟩⟩) (Nat.le_of_ble_eq_true rfl) rfl rfl rfl rfl pn_X10_column rfl (v_mono k (fun _ _ _ z => z) (fun Ex ρ9 h9 z => ?_))
  obtain ⟨rfl, z⟩ := z
  refine ⟨12, 3, 1, hd_L_column_0, (Nat.le_of_ble_eq_true rfl), Or.inl ⟨3, dL_column_12, rfl, rfl⟩, ?_⟩
  exact z
theorem S_L_column_7 {kc ks : Nat} {h : Hh} {Q : PQ} {X : PX} {xs0 : Int}
    (k : ((0 : Int) ≤ 0 ∧ (0 : Int) < 1) ∧ Q [aI 0] am_R0 (am_st h 81 0 xs0)) :
    am_V M_L_column kc ks 7 [aU, aU, aU, aU] [aI xs0, aI 0, aR 81] am_R0 h Q X := by
  obtain ⟨⟨b0_1, b0_2⟩, k⟩ := k
  refine v_i2l dL_column_7 ?_
  refine v_last dL_column_8 rfl b0_1 b0_2 ?_
  refine v_goto (tgt := 15) dL_column_9 (by decide) ?_
  refine v_iconst dL_column_15 ⟨by decide, by decide⟩ ?_
  exact v_iret dL_column_16 rfl rfl k
theorem S_L_column_13 {kc ks : Nat} {h : Hh} {Q : PQ} {X : PX} 
    (k : Q [aI 1] am_R0 h) :
    am_V M_L_column kc ks 13 [aU, aU, aU, aU] [] am_R0 h Q X := by
  refine v_iconst dL_column_13 ⟨by decide, by decide⟩ ?_
  exact v_iret dL_column_14 rfl rfl k
theorem S_L_undo_0 {kc ks : Nat} {h : Hh} {Q : PQ} {X : PX} 
    (k : (2 ≤ kc ∧ 12 ≤ ks) ∧ am_V M_X10_undo 2 12 0 [aR 0, aU] [] am_R0 h (fun v ρ' h' => am_V M_L_undo (kc - 2) (ks - 12) 6 [aU, aU, aU] (v ++ [aI 0, aR 81]) ρ' h' Q X) (fun Ex ρ' h' => (Ex = "java/lang/UnsupportedOperationException" ∧ am_V M_L_undo (kc - 2) (ks - 12) 12 [aU, aU, aU] [] ρ' h' Q X) ∨ (Ex = "java/lang/IllegalStateException" ∧ am_V M_L_undo (kc - 2) (ks - 12) 15 [aU, aU, aU] [] ρ' h' Q X))) :
    am_V M_L_undo kc ks 0 [aR 0, aR 81, aU] [] am_R0 h Q X := by
  obtain ⟨⟨b0_1, b0_2⟩, k⟩ := k
  refine v_aload_n dL_undo_0 rfl rfl ?_
  refine v_iconst dL_undo_1 ⟨by decide, by decide⟩ ?_
  refine v_aload_n dL_undo_2 rfl rfl ?_
  refine v_weak (E2 := [aU, aU, aU]) ⟨Or.inr rfl, ⟨Or.inr rfl, ⟨Or.inl rfl, trivial⟩⟩⟩ ?_
  refine v_callH (j := M_X10_undo) (As := []) (st := [aI 0, aR 81]) (a := 0) (ci := 8) (N := 10) (E0 := [aR 0, aU]) (q9 := (RX10, TX10, 10)) dL_undo_3 ml_L_142 J_X10_undo b0_1 b0_2 (Nat.le_of_ble_eq_true rfl) (Nat.le_of_ble_eq_true rfl) (List.forall_mem_cons.mpr ⟨rfl, fun _ h9 => absurd h9 List.not_mem_nil⟩) (Nat.le_of_ble_eq_true rfl) rfl rfl rfl rfl pn_X10_undo rfl (v_mono k (fun _ _ _ z => z) (fun Ex ρ9 h9 z => ?_))
  rcases z with ⟨rfl, z⟩ | ⟨rfl, z⟩
  · refine ⟨11, 2, 1, hd_L_undo_0, (Nat.le_of_ble_eq_true rfl), Or.inl ⟨2, dL_undo_11, rfl, rfl⟩, ?_⟩
    exact z
  · refine ⟨14, 2, 1, hd_L_undo_1, (Nat.le_of_ble_eq_true rfl), Or.inl ⟨2, dL_undo_14, rfl, rfl⟩, ?_⟩
    exact z
theorem S_L_undo_6 {kc ks : Nat} {h : Hh} {Q : PQ} {X : PX} {xs0 : Int}
    (k : ((0 : Int) ≤ 0 ∧ (0 : Int) < 1) ∧ Q [aI 0] am_R0 (am_st h 81 0 xs0)) :
    am_V M_L_undo kc ks 6 [aU, aU, aU] [aI xs0, aI 0, aR 81] am_R0 h Q X := by
  obtain ⟨⟨b0_1, b0_2⟩, k⟩ := k
  refine v_i2l dL_undo_6 ?_
  refine v_last dL_undo_7 rfl b0_1 b0_2 ?_
  refine v_goto (tgt := 17) dL_undo_8 (by decide) ?_
  refine v_iconst dL_undo_17 ⟨by decide, by decide⟩ ?_
  exact v_iret dL_undo_18 rfl rfl k
theorem S_L_undo_12 {kc ks : Nat} {h : Hh} {Q : PQ} {X : PX} 
    (k : Q [aI 1] am_R0 h) :
    am_V M_L_undo kc ks 12 [aU, aU, aU] [] am_R0 h Q X := by
  refine v_iconst dL_undo_12 ⟨by decide, by decide⟩ ?_
  exact v_iret dL_undo_13 rfl rfl k
theorem S_L_undo_15 {kc ks : Nat} {h : Hh} {Q : PQ} {X : PX} 
    (k : Q [aI 2] am_R0 h) :
    am_V M_L_undo kc ks 15 [aU, aU, aU] [] am_R0 h Q X := by
  refine v_iconst dL_undo_15 ⟨by decide, by decide⟩ ?_
  exact v_iret dL_undo_16 rfl rfl k
theorem S_L_squares_0 {kc ks : Nat} {h : Hh} {Q : PQ} {X : PX} {x1 : Int}
    (k : (1 ≤ kc ∧ 6 ≤ ks) ∧ am_V M_X10_squares 1 6 0 [aR 0, aI x1] [] am_R0 h (fun v ρ' h' => am_V M_L_squares (kc - 1) (ks - 6) 7 [aU, aU, aU, aU] (v ++ [aI 0, aR 81]) ρ' h' Q X) (fun Ex ρ' h' => (Ex = "java/lang/IndexOutOfBoundsException" ∧ am_V M_L_squares (kc - 1) (ks - 6) 13 [aU, aU, aU, aU] [] ρ' h' Q X))) :
    am_V M_L_squares kc ks 0 [aR 0, aI x1, aR 81, aU] [] am_R0 h Q X := by
  obtain ⟨⟨b0_1, b0_2⟩, k⟩ := k
  refine v_aload_n dL_squares_0 rfl rfl ?_
  refine v_iconst dL_squares_1 ⟨by decide, by decide⟩ ?_
  refine v_aload_n dL_squares_2 rfl rfl ?_
  refine v_iload_n dL_squares_3 rfl rfl ?_
  refine v_weak (E2 := [aU, aU, aU, aU]) ⟨Or.inr rfl, ⟨Or.inr rfl, ⟨Or.inr rfl, ⟨Or.inl rfl, trivial⟩⟩⟩⟩ ?_
  refine v_callH (j := M_X10_squares) (As := [aI x1]) (st := [aI 0, aR 81]) (a := 0) (ci := 8) (N := 10) (E0 := [aR 0, aI x1]) (q9 := (RX10, TX10, 10)) dL_squares_4 ml_L_145 J_X10_squares b0_1 b0_2 (Nat.le_of_ble_eq_true rfl) (Nat.le_of_ble_eq_true rfl) (List.forall_mem_cons.mpr ⟨rfl, List.forall_mem_cons.mpr ⟨rfl, fun _ h9 => absurd h9 List.not_mem_nil⟩⟩) (Nat.le_of_ble_eq_true rfl) rfl rfl rfl rfl pn_X10_squares rfl (v_mono k (fun _ _ _ z => z) (fun Ex ρ9 h9 z => ?_))
  obtain ⟨rfl, z⟩ := z
  refine ⟨12, 3, 1, hd_L_squares_0, (Nat.le_of_ble_eq_true rfl), Or.inl ⟨3, dL_squares_12, rfl, rfl⟩, ?_⟩
  exact z
theorem S_L_squares_7 {kc ks : Nat} {h : Hh} {Q : PQ} {X : PX} {xs0 : Int}
    (k : ((0 : Int) ≤ 0 ∧ (0 : Int) < 1) ∧ Q [aI 0] am_R0 (am_st h 81 0 xs0)) :
    am_V M_L_squares kc ks 7 [aU, aU, aU, aU] [aI xs0, aI 0, aR 81] am_R0 h Q X := by
  obtain ⟨⟨b0_1, b0_2⟩, k⟩ := k
  refine v_i2l dL_squares_7 ?_
  refine v_last dL_squares_8 rfl b0_1 b0_2 ?_
  refine v_goto (tgt := 15) dL_squares_9 (by decide) ?_
  refine v_iconst dL_squares_15 ⟨by decide, by decide⟩ ?_
  exact v_iret dL_squares_16 rfl rfl k
theorem S_L_squares_13 {kc ks : Nat} {h : Hh} {Q : PQ} {X : PX} 
    (k : Q [aI 1] am_R0 h) :
    am_V M_L_squares kc ks 13 [aU, aU, aU, aU] [] am_R0 h Q X := by
  refine v_iconst dL_squares_13 ⟨by decide, by decide⟩ ?_
  exact v_iret dL_squares_14 rfl rfl k
theorem S_L_squareAt_0 {kc ks : Nat} {h : Hh} {Q : PQ} {X : PX} {x1 : Int} {x2 : Int}
    (k : (3 ≤ kc ∧ 18 ≤ ks) ∧ am_V M_X10_squareAt 3 18 0 [aR 0, aI x1, aI x2, aU] [] am_R0 h (fun v ρ' h' => am_V M_L_squareAt (kc - 3) (ks - 18) 8 [aU, aU, aU, aU, aU] (v ++ [aI 0, aR 81]) ρ' h' Q X) (fun Ex ρ' h' => (Ex = "java/lang/IndexOutOfBoundsException" ∧ am_V M_L_squareAt (kc - 3) (ks - 18) 15 [aU, aU, aU, aU, aU] [] ρ' h' Q X) ∨ (Ex = "java/util/NoSuchElementException" ∧ am_V M_L_squareAt (kc - 3) (ks - 18) 19 [aU, aU, aU, aU, aU] [] ρ' h' Q X))) :
    am_V M_L_squareAt kc ks 0 [aR 0, aI x1, aI x2, aR 81, aU] [] am_R0 h Q X := by
  obtain ⟨⟨b0_1, b0_2⟩, k⟩ := k
  refine v_aload_n dL_squareAt_0 rfl rfl ?_
  refine v_iconst dL_squareAt_1 ⟨by decide, by decide⟩ ?_
  refine v_aload_n dL_squareAt_2 rfl rfl ?_
  refine v_iload_n dL_squareAt_3 rfl rfl ?_
  refine v_iload_n dL_squareAt_4 rfl rfl ?_
  refine v_weak (E2 := [aU, aU, aU, aU, aU]) ⟨Or.inr rfl, ⟨Or.inr rfl, ⟨Or.inr rfl, ⟨Or.inr rfl, ⟨Or.inl rfl, trivial⟩⟩⟩⟩⟩ ?_
  refine v_callH (j := M_X10_squareAt) (As := [aI x1, aI x2]) (st := [aI 0, aR 81]) (a := 0) (ci := 8) (N := 10) (E0 := [aR 0, aI x1, aI x2, aU]) (q9 := (RX10, TX10, 10)) dL_squareAt_5 ml_L_148 J_X10_squareAt b0_1 b0_2 (Nat.le_of_ble_eq_true rfl) (Nat.le_of_ble_eq_true rfl) (List.forall_mem_cons.mpr ⟨rfl, List.forall_mem_cons.mpr ⟨rfl, List.forall_mem_cons.mpr ⟨rfl, fun _ h9 => absurd h9 List.not_mem_nil⟩⟩⟩) (Nat.le_of_ble_eq_true rfl) rfl rfl rfl rfl pn_X10_squareAt rfl (v_mono k (fun _ _ _ z => z) (fun Ex ρ9 h9 z => ?_))
  rcases z with ⟨rfl, z⟩ | ⟨rfl, z⟩
  · refine ⟨13, 4, 2, hd_L_squareAt_0, (Nat.le_of_ble_eq_true rfl), Or.inr ⟨dL_squareAt_13, rfl⟩, ?_⟩
    exact z
  · refine ⟨17, 4, 2, hd_L_squareAt_1, (Nat.le_of_ble_eq_true rfl), Or.inr ⟨dL_squareAt_17, rfl⟩, ?_⟩
    exact z
theorem S_L_squareAt_8 {kc ks : Nat} {h : Hh} {Q : PQ} {X : PX} {xs0 : Int}
    (k : ((0 : Int) ≤ 0 ∧ (0 : Int) < 1) ∧ Q [aI 0] am_R0 (am_st h 81 0 xs0)) :
    am_V M_L_squareAt kc ks 8 [aU, aU, aU, aU, aU] [aI xs0, aI 0, aR 81] am_R0 h Q X := by
  obtain ⟨⟨b0_1, b0_2⟩, k⟩ := k
  refine v_i2l dL_squareAt_8 ?_
  refine v_last dL_squareAt_9 rfl b0_1 b0_2 ?_
  refine v_goto (tgt := 21) dL_squareAt_10 (by decide) ?_
  refine v_iconst dL_squareAt_21 ⟨by decide, by decide⟩ ?_
  exact v_iret dL_squareAt_22 rfl rfl k
theorem S_L_squareAt_15 {kc ks : Nat} {h : Hh} {Q : PQ} {X : PX} 
    (k : Q [aI 1] am_R0 h) :
    am_V M_L_squareAt kc ks 15 [aU, aU, aU, aU, aU] [] am_R0 h Q X := by
  refine v_iconst dL_squareAt_15 ⟨by decide, by decide⟩ ?_
  exact v_iret dL_squareAt_16 rfl rfl k
theorem S_L_squareAt_19 {kc ks : Nat} {h : Hh} {Q : PQ} {X : PX} 
    (k : Q [aI 2] am_R0 h) :
    am_V M_L_squareAt kc ks 19 [aU, aU, aU, aU, aU] [] am_R0 h Q X := by
  refine v_iconst dL_squareAt_19 ⟨by decide, by decide⟩ ?_
  exact v_iret dL_squareAt_20 rfl rfl k
theorem S_L_period_0 {kc ks : Nat} {h : Hh} {Q : PQ} {X : PX} {x1 : Int}
    (k : (2 ≤ kc ∧ 12 ≤ ks) ∧ am_V M_X10_period 2 12 0 [aR 0, aI x1] [] am_R0 h (fun v ρ' h' => am_V M_L_period (kc - 2) (ks - 12) 7 [aU, aU, aU, aU] (v ++ [aI 0, aR 81]) ρ' h' Q X) (fun Ex ρ' h' => (Ex = "java/lang/IndexOutOfBoundsException" ∧ am_V M_L_period (kc - 2) (ks - 12) 13 [aU, aU, aU, aU] [] ρ' h' Q X) ∨ (Ex = "java/util/NoSuchElementException" ∧ am_V M_L_period (kc - 2) (ks - 12) 16 [aU, aU, aU, aU] [] ρ' h' Q X))) :
    am_V M_L_period kc ks 0 [aR 0, aI x1, aR 81, aU] [] am_R0 h Q X := by
  obtain ⟨⟨b0_1, b0_2⟩, k⟩ := k
  refine v_aload_n dL_period_0 rfl rfl ?_
  refine v_iconst dL_period_1 ⟨by decide, by decide⟩ ?_
  refine v_aload_n dL_period_2 rfl rfl ?_
  refine v_iload_n dL_period_3 rfl rfl ?_
  refine v_weak (E2 := [aU, aU, aU, aU]) ⟨Or.inr rfl, ⟨Or.inr rfl, ⟨Or.inr rfl, ⟨Or.inl rfl, trivial⟩⟩⟩⟩ ?_
  refine v_callH (j := M_X10_period) (As := [aI x1]) (st := [aI 0, aR 81]) (a := 0) (ci := 8) (N := 10) (E0 := [aR 0, aI x1]) (q9 := (RX10, TX10, 10)) dL_period_4 ml_L_151 J_X10_period b0_1 b0_2 (Nat.le_of_ble_eq_true rfl) (Nat.le_of_ble_eq_true rfl) (List.forall_mem_cons.mpr ⟨rfl, List.forall_mem_cons.mpr ⟨rfl, fun _ h9 => absurd h9 List.not_mem_nil⟩⟩) (Nat.le_of_ble_eq_true rfl) rfl rfl rfl rfl pn_X10_period rfl (v_mono k (fun _ _ _ z => z) (fun Ex ρ9 h9 z => ?_))
  rcases z with ⟨rfl, z⟩ | ⟨rfl, z⟩
  · refine ⟨12, 3, 1, hd_L_period_0, (Nat.le_of_ble_eq_true rfl), Or.inl ⟨3, dL_period_12, rfl, rfl⟩, ?_⟩
    exact z
  · refine ⟨15, 3, 1, hd_L_period_1, (Nat.le_of_ble_eq_true rfl), Or.inl ⟨3, dL_period_15, rfl, rfl⟩, ?_⟩
    exact z
theorem S_L_period_7 {kc ks : Nat} {h : Hh} {Q : PQ} {X : PX} {xs0 : Int}
    (k : ((0 : Int) ≤ 0 ∧ (0 : Int) < 1) ∧ Q [aI 0] am_R0 (am_st h 81 0 xs0)) :
    am_V M_L_period kc ks 7 [aU, aU, aU, aU] [aI xs0, aI 0, aR 81] am_R0 h Q X := by
  obtain ⟨⟨b0_1, b0_2⟩, k⟩ := k
  refine v_i2l dL_period_7 ?_
  refine v_last dL_period_8 rfl b0_1 b0_2 ?_
  refine v_goto (tgt := 18) dL_period_9 (by decide) ?_
  refine v_iconst dL_period_18 ⟨by decide, by decide⟩ ?_
  exact v_iret dL_period_19 rfl rfl k
theorem S_L_period_13 {kc ks : Nat} {h : Hh} {Q : PQ} {X : PX} 
    (k : Q [aI 1] am_R0 h) :
    am_V M_L_period kc ks 13 [aU, aU, aU, aU] [] am_R0 h Q X := by
  refine v_iconst dL_period_13 ⟨by decide, by decide⟩ ?_
  exact v_iret dL_period_14 rfl rfl k
theorem S_L_period_16 {kc ks : Nat} {h : Hh} {Q : PQ} {X : PX} 
    (k : Q [aI 2] am_R0 h) :
    am_V M_L_period kc ks 16 [aU, aU, aU, aU] [] am_R0 h Q X := by
  refine v_iconst dL_period_16 ⟨by decide, by decide⟩ ?_
  exact v_iret dL_period_17 rfl rfl k
theorem S_L_turnAt_0 {kc ks : Nat} {h : Hh} {Q : PQ} {X : PX} {x1 : Int}
    (k : (2 ≤ kc ∧ 12 ≤ ks) ∧ am_V M_X10_turnAt 2 12 0 [aR 0, aI x1] [] am_R0 h (fun v ρ' h' => am_V M_L_turnAt (kc - 2) (ks - 12) 7 [aU, aU, aU, aU] (v ++ [aI 0, aR 81]) ρ' h' Q X) (fun Ex ρ' h' => (Ex = "java/lang/IndexOutOfBoundsException" ∧ am_V M_L_turnAt (kc - 2) (ks - 12) 13 [aU, aU, aU, aU] [] ρ' h' Q X) ∨ (Ex = "java/util/NoSuchElementException" ∧ am_V M_L_turnAt (kc - 2) (ks - 12) 16 [aU, aU, aU, aU] [] ρ' h' Q X))) :
    am_V M_L_turnAt kc ks 0 [aR 0, aI x1, aR 81, aU] [] am_R0 h Q X := by
  obtain ⟨⟨b0_1, b0_2⟩, k⟩ := k
  refine v_aload_n dL_turnAt_0 rfl rfl ?_
  refine v_iconst dL_turnAt_1 ⟨by decide, by decide⟩ ?_
  refine v_aload_n dL_turnAt_2 rfl rfl ?_
  refine v_iload_n dL_turnAt_3 rfl rfl ?_
  refine v_weak (E2 := [aU, aU, aU, aU]) ⟨Or.inr rfl, ⟨Or.inr rfl, ⟨Or.inr rfl, ⟨Or.inl rfl, trivial⟩⟩⟩⟩ ?_
  refine v_callH (j := M_X10_turnAt) (As := [aI x1]) (st := [aI 0, aR 81]) (a := 0) (ci := 8) (N := 10) (E0 := [aR 0, aI x1]) (q9 := (RX10, TX10, 10)) dL_turnAt_4 ml_L_154 J_X10_turnAt b0_1 b0_2 (Nat.le_of_ble_eq_true rfl) (Nat.le_of_ble_eq_true rfl) (List.forall_mem_cons.mpr ⟨rfl, List.forall_mem_cons.mpr ⟨rfl, fun _ h9 => absurd h9 List.not_mem_nil⟩⟩) (Nat.le_of_ble_eq_true rfl) rfl rfl rfl rfl pn_X10_turnAt rfl (v_mono k (fun _ _ _ z => z) (fun Ex ρ9 h9 z => ?_))
  rcases z with ⟨rfl, z⟩ | ⟨rfl, z⟩
  · refine ⟨12, 3, 1, hd_L_turnAt_0, (Nat.le_of_ble_eq_true rfl), Or.inl ⟨3, dL_turnAt_12, rfl, rfl⟩, ?_⟩
    exact z
  · refine ⟨15, 3, 1, hd_L_turnAt_1, (Nat.le_of_ble_eq_true rfl), Or.inl ⟨3, dL_turnAt_15, rfl, rfl⟩, ?_⟩
    exact z
theorem S_L_turnAt_7 {kc ks : Nat} {h : Hh} {Q : PQ} {X : PX} {xs0 : Int}
    (k : ((0 : Int) ≤ 0 ∧ (0 : Int) < 1) ∧ Q [aI 0] am_R0 (am_st h 81 0 xs0)) :
    am_V M_L_turnAt kc ks 7 [aU, aU, aU, aU] [aI xs0, aI 0, aR 81] am_R0 h Q X := by
  obtain ⟨⟨b0_1, b0_2⟩, k⟩ := k
  refine v_i2l dL_turnAt_7 ?_
  refine v_last dL_turnAt_8 rfl b0_1 b0_2 ?_
  refine v_goto (tgt := 18) dL_turnAt_9 (by decide) ?_
  refine v_iconst dL_turnAt_18 ⟨by decide, by decide⟩ ?_
  exact v_iret dL_turnAt_19 rfl rfl k
theorem S_L_turnAt_13 {kc ks : Nat} {h : Hh} {Q : PQ} {X : PX} 
    (k : Q [aI 1] am_R0 h) :
    am_V M_L_turnAt kc ks 13 [aU, aU, aU, aU] [] am_R0 h Q X := by
  refine v_iconst dL_turnAt_13 ⟨by decide, by decide⟩ ?_
  exact v_iret dL_turnAt_14 rfl rfl k
theorem S_L_turnAt_16 {kc ks : Nat} {h : Hh} {Q : PQ} {X : PX} 
    (k : Q [aI 2] am_R0 h) :
    am_V M_L_turnAt kc ks 16 [aU, aU, aU, aU] [] am_R0 h Q X := by
  refine v_iconst dL_turnAt_16 ⟨by decide, by decide⟩ ?_
  exact v_iret dL_turnAt_17 rfl rfl k
theorem S_L_parts_0 {kc ks : Nat} {h : Hh} {Q : PQ} {X : PX} {x1 : Int}
    (k : (1 ≤ kc ∧ 6 ≤ ks) ∧ am_V M_X10_parts 1 6 0 [aR 0, aI x1] [] am_R0 h (fun v ρ' h' => am_V M_L_parts (kc - 1) (ks - 6) 7 [aU, aU, aU, aU] (v ++ [aI 0, aR 81]) ρ' h' Q X) (fun Ex ρ' h' => (Ex = "java/lang/IndexOutOfBoundsException" ∧ am_V M_L_parts (kc - 1) (ks - 6) 13 [aU, aU, aU, aU] [] ρ' h' Q X))) :
    am_V M_L_parts kc ks 0 [aR 0, aI x1, aR 81, aU] [] am_R0 h Q X := by
  obtain ⟨⟨b0_1, b0_2⟩, k⟩ := k
  refine v_aload_n dL_parts_0 rfl rfl ?_
  refine v_iconst dL_parts_1 ⟨by decide, by decide⟩ ?_
  refine v_aload_n dL_parts_2 rfl rfl ?_
  refine v_iload_n dL_parts_3 rfl rfl ?_
  refine v_weak (E2 := [aU, aU, aU, aU]) ⟨Or.inr rfl, ⟨Or.inr rfl, ⟨Or.inr rfl, ⟨Or.inl rfl, trivial⟩⟩⟩⟩ ?_
  refine v_callH (j := M_X10_parts) (As := [aI x1]) (st := [aI 0, aR 81]) (a := 0) (ci := 8) (N := 10) (E0 := [aR 0, aI x1]) (q9 := (RX10, TX10, 10)) dL_parts_4 ml_L_157 J_X10_parts b0_1 b0_2 (Nat.le_of_ble_eq_true rfl) (Nat.le_of_ble_eq_true rfl) (List.forall_mem_cons.mpr ⟨rfl, List.forall_mem_cons.mpr ⟨rfl, fun _ h9 => absurd h9 List.not_mem_nil⟩⟩) (Nat.le_of_ble_eq_true rfl) rfl rfl rfl rfl pn_X10_parts rfl (v_mono k (fun _ _ _ z => z) (fun Ex ρ9 h9 z => ?_))
  obtain ⟨rfl, z⟩ := z
  refine ⟨12, 3, 1, hd_L_parts_0, (Nat.le_of_ble_eq_true rfl), Or.inl ⟨3, dL_parts_12, rfl, rfl⟩, ?_⟩
  exact z
theorem S_L_parts_7 {kc ks : Nat} {h : Hh} {Q : PQ} {X : PX} {xs0 : Int}
    (k : ((0 : Int) ≤ 0 ∧ (0 : Int) < 1) ∧ Q [aI 0] am_R0 (am_st h 81 0 xs0)) :
    am_V M_L_parts kc ks 7 [aU, aU, aU, aU] [aI xs0, aI 0, aR 81] am_R0 h Q X := by
  obtain ⟨⟨b0_1, b0_2⟩, k⟩ := k
  refine v_i2l dL_parts_7 ?_
  refine v_last dL_parts_8 rfl b0_1 b0_2 ?_
  refine v_goto (tgt := 15) dL_parts_9 (by decide) ?_
  refine v_iconst dL_parts_15 ⟨by decide, by decide⟩ ?_
  exact v_iret dL_parts_16 rfl rfl k
theorem S_L_parts_13 {kc ks : Nat} {h : Hh} {Q : PQ} {X : PX} 
    (k : Q [aI 1] am_R0 h) :
    am_V M_L_parts kc ks 13 [aU, aU, aU, aU] [] am_R0 h Q X := by
  refine v_iconst dL_parts_13 ⟨by decide, by decide⟩ ?_
  exact v_iret dL_parts_14 rfl rfl k
theorem S_L_partAt_0 {kc ks : Nat} {h : Hh} {Q : PQ} {X : PX} {x1 : Int} {x2 : Int}
    (k : (2 ≤ kc ∧ 12 ≤ ks) ∧ am_V M_X10_partAt 2 12 0 [aR 0, aI x1, aI x2, aU] [] am_R0 h (fun v ρ' h' => am_V M_L_partAt (kc - 2) (ks - 12) 8 [aU, aU, aU, aU, aU] (v ++ [aI 0, aR 81]) ρ' h' Q X) (fun Ex ρ' h' => (Ex = "java/lang/IndexOutOfBoundsException" ∧ am_V M_L_partAt (kc - 2) (ks - 12) 15 [aU, aU, aU, aU, aU] [] ρ' h' Q X))) :
    am_V M_L_partAt kc ks 0 [aR 0, aI x1, aI x2, aR 81, aU] [] am_R0 h Q X := by
  obtain ⟨⟨b0_1, b0_2⟩, k⟩ := k
  refine v_aload_n dL_partAt_0 rfl rfl ?_
  refine v_iconst dL_partAt_1 ⟨by decide, by decide⟩ ?_
  refine v_aload_n dL_partAt_2 rfl rfl ?_
  refine v_iload_n dL_partAt_3 rfl rfl ?_
  refine v_iload_n dL_partAt_4 rfl rfl ?_
  refine v_weak (E2 := [aU, aU, aU, aU, aU]) ⟨Or.inr rfl, ⟨Or.inr rfl, ⟨Or.inr rfl, ⟨Or.inr rfl, ⟨Or.inl rfl, trivial⟩⟩⟩⟩⟩ ?_
  refine v_callH (j := M_X10_partAt) (As := [aI x1, aI x2]) (st := [aI 0, aR 81]) (a := 0) (ci := 8) (N := 10) (E0 := [aR 0, aI x1, aI x2, aU]) (q9 := (RX10, TX10, 10)) dL_partAt_5 ml_L_160 J_X10_partAt b0_1 b0_2 (Nat.le_of_ble_eq_true rfl) (Nat.le_of_ble_eq_true rfl) (List.forall_mem_cons.mpr ⟨rfl, List.forall_mem_cons.mpr ⟨rfl, List.forall_mem_cons.mpr ⟨rfl, fun _ h9 => absurd h9 List.not_mem_nil⟩⟩⟩) (Nat.le_of_ble_eq_true rfl) rfl rfl rfl rfl pn_X10_partAt rfl (v_mono k (fun _ _ _ z => z) (fun Ex ρ9 h9 z => ?_))
  obtain ⟨rfl, z⟩ := z
  refine ⟨13, 4, 2, hd_L_partAt_0, (Nat.le_of_ble_eq_true rfl), Or.inr ⟨dL_partAt_13, rfl⟩, ?_⟩
  exact z
theorem S_L_partAt_8 {kc ks : Nat} {h : Hh} {Q : PQ} {X : PX} {xs0 : Int}
    (k : ((0 : Int) ≤ 0 ∧ (0 : Int) < 1) ∧ Q [aI 0] am_R0 (am_st h 81 0 xs0)) :
    am_V M_L_partAt kc ks 8 [aU, aU, aU, aU, aU] [aI xs0, aI 0, aR 81] am_R0 h Q X := by
  obtain ⟨⟨b0_1, b0_2⟩, k⟩ := k
  refine v_i2l dL_partAt_8 ?_
  refine v_last dL_partAt_9 rfl b0_1 b0_2 ?_
  refine v_goto (tgt := 17) dL_partAt_10 (by decide) ?_
  refine v_iconst dL_partAt_17 ⟨by decide, by decide⟩ ?_
  exact v_iret dL_partAt_18 rfl rfl k
theorem S_L_partAt_15 {kc ks : Nat} {h : Hh} {Q : PQ} {X : PX} 
    (k : Q [aI 1] am_R0 h) :
    am_V M_L_partAt kc ks 15 [aU, aU, aU, aU, aU] [] am_R0 h Q X := by
  refine v_iconst dL_partAt_15 ⟨by decide, by decide⟩ ?_
  exact v_iret dL_partAt_16 rfl rfl k
theorem S_L_pieces_0 {kc ks : Nat} {h : Hh} {Q : PQ} {X : PX} {x1 : Int}
    (k : (1 ≤ kc ∧ 6 ≤ ks) ∧ am_V M_X10_pieces 1 6 0 [aR 0, aI x1] [] am_R0 h (fun v ρ' h' => am_V M_L_pieces (kc - 1) (ks - 6) 7 [aU, aU, aU, aU] (v ++ [aI 0, aR 81]) ρ' h' Q X) (fun Ex ρ' h' => (Ex = "java/lang/IndexOutOfBoundsException" ∧ am_V M_L_pieces (kc - 1) (ks - 6) 13 [aU, aU, aU, aU] [] ρ' h' Q X))) :
    am_V M_L_pieces kc ks 0 [aR 0, aI x1, aR 81, aU] [] am_R0 h Q X := by
  obtain ⟨⟨b0_1, b0_2⟩, k⟩ := k
  refine v_aload_n dL_pieces_0 rfl rfl ?_
  refine v_iconst dL_pieces_1 ⟨by decide, by decide⟩ ?_
  refine v_aload_n dL_pieces_2 rfl rfl ?_
  refine v_iload_n dL_pieces_3 rfl rfl ?_
  refine v_weak (E2 := [aU, aU, aU, aU]) ⟨Or.inr rfl, ⟨Or.inr rfl, ⟨Or.inr rfl, ⟨Or.inl rfl, trivial⟩⟩⟩⟩ ?_
  refine v_callH (j := M_X10_pieces) (As := [aI x1]) (st := [aI 0, aR 81]) (a := 0) (ci := 8) (N := 10) (E0 := [aR 0, aI x1]) (q9 := (RX10, TX10, 10)) dL_pieces_4 ml_L_163 J_X10_pieces b0_1 b0_2 (Nat.le_of_ble_eq_true rfl) (Nat.le_of_ble_eq_true rfl) (List.forall_mem_cons.mpr ⟨rfl, List.forall_mem_cons.mpr ⟨rfl, fun _ h9 => absurd h9 List.not_mem_nil⟩⟩) (Nat.le_of_ble_eq_true rfl) rfl rfl rfl rfl pn_X10_pieces rfl (v_mono k (fun _ _ _ z => z) (fun Ex ρ9 h9 z => ?_))
  obtain ⟨rfl, z⟩ := z
  refine ⟨12, 3, 1, hd_L_pieces_0, (Nat.le_of_ble_eq_true rfl), Or.inl ⟨3, dL_pieces_12, rfl, rfl⟩, ?_⟩
  exact z
theorem S_L_pieces_7 {kc ks : Nat} {h : Hh} {Q : PQ} {X : PX} {xs0 : Int}
    (k : ((0 : Int) ≤ 0 ∧ (0 : Int) < 1) ∧ Q [aI 0] am_R0 (am_st h 81 0 xs0)) :
    am_V M_L_pieces kc ks 7 [aU, aU, aU, aU] [aI xs0, aI 0, aR 81] am_R0 h Q X := by
  obtain ⟨⟨b0_1, b0_2⟩, k⟩ := k
  refine v_i2l dL_pieces_7 ?_
  refine v_last dL_pieces_8 rfl b0_1 b0_2 ?_
  refine v_goto (tgt := 15) dL_pieces_9 (by decide) ?_
  refine v_iconst dL_pieces_15 ⟨by decide, by decide⟩ ?_
  exact v_iret dL_pieces_16 rfl rfl k
theorem S_L_pieces_13 {kc ks : Nat} {h : Hh} {Q : PQ} {X : PX} 
    (k : Q [aI 1] am_R0 h) :
    am_V M_L_pieces kc ks 13 [aU, aU, aU, aU] [] am_R0 h Q X := by
  refine v_iconst dL_pieces_13 ⟨by decide, by decide⟩ ?_
  exact v_iret dL_pieces_14 rfl rfl k
theorem S_L_pieceLength_0 {kc ks : Nat} {h : Hh} {Q : PQ} {X : PX} {x1 : Int} {x2 : Int}
    (k : (2 ≤ kc ∧ 12 ≤ ks) ∧ am_V M_X10_pieceLength 2 12 0 [aR 0, aI x1, aI x2, aU] [] am_R0 h (fun v ρ' h' => am_V M_L_pieceLength (kc - 2) (ks - 12) 8 [aU, aU, aU, aU, aU] (v ++ [aI 0, aR 81]) ρ' h' Q X) (fun Ex ρ' h' => (Ex = "java/lang/IndexOutOfBoundsException" ∧ am_V M_L_pieceLength (kc - 2) (ks - 12) 15 [aU, aU, aU, aU, aU] [] ρ' h' Q X))) :
    am_V M_L_pieceLength kc ks 0 [aR 0, aI x1, aI x2, aR 81, aU] [] am_R0 h Q X := by
  obtain ⟨⟨b0_1, b0_2⟩, k⟩ := k
  refine v_aload_n dL_pieceLength_0 rfl rfl ?_
  refine v_iconst dL_pieceLength_1 ⟨by decide, by decide⟩ ?_
  refine v_aload_n dL_pieceLength_2 rfl rfl ?_
  refine v_iload_n dL_pieceLength_3 rfl rfl ?_
  refine v_iload_n dL_pieceLength_4 rfl rfl ?_
  refine v_weak (E2 := [aU, aU, aU, aU, aU]) ⟨Or.inr rfl, ⟨Or.inr rfl, ⟨Or.inr rfl, ⟨Or.inr rfl, ⟨Or.inl rfl, trivial⟩⟩⟩⟩⟩ ?_
  refine v_callH (j := M_X10_pieceLength) (As := [aI x1, aI x2]) (st := [aI 0, aR 81]) (a := 0) (ci := 8) (N := 10) (E0 := [aR 0, aI x1, aI x2, aU]) (q9 := (RX10, TX10, 10)) dL_pieceLength_5 ml_L_166 J_X10_pieceLength b0_1 b0_2 (Nat.le_of_ble_eq_true rfl) (Nat.le_of_ble_eq_true rfl) (List.forall_mem_cons.mpr ⟨rfl, List.forall_mem_cons.mpr ⟨rfl, List.forall_mem_cons.mpr ⟨rfl, fun _ h9 => absurd h9 List.not_mem_nil⟩⟩⟩) (Nat.le_of_ble_eq_true rfl) rfl rfl rfl rfl pn_X10_pieceLength rfl (v_mono k (fun _ _ _ z => z) (fun Ex ρ9 h9 z => ?_))
  obtain ⟨rfl, z⟩ := z
  refine ⟨13, 4, 2, hd_L_pieceLength_0, (Nat.le_of_ble_eq_true rfl), Or.inr ⟨dL_pieceLength_13, rfl⟩, ?_⟩
  exact z
theorem S_L_pieceLength_8 {kc ks : Nat} {h : Hh} {Q : PQ} {X : PX} {xs0 : Int}
    (k : ((0 : Int) ≤ 0 ∧ (0 : Int) < 1) ∧ Q [aI 0] am_R0 (am_st h 81 0 xs0)) :
    am_V M_L_pieceLength kc ks 8 [aU, aU, aU, aU, aU] [aI xs0, aI 0, aR 81] am_R0 h Q X := by
  obtain ⟨⟨b0_1, b0_2⟩, k⟩ := k
  refine v_i2l dL_pieceLength_8 ?_
  refine v_last dL_pieceLength_9 rfl b0_1 b0_2 ?_
  refine v_goto (tgt := 17) dL_pieceLength_10 (by decide) ?_
  refine v_iconst dL_pieceLength_17 ⟨by decide, by decide⟩ ?_
  exact v_iret dL_pieceLength_18 rfl rfl k
theorem S_L_pieceLength_15 {kc ks : Nat} {h : Hh} {Q : PQ} {X : PX} 
    (k : Q [aI 1] am_R0 h) :
    am_V M_L_pieceLength kc ks 15 [aU, aU, aU, aU, aU] [] am_R0 h Q X := by
  refine v_iconst dL_pieceLength_15 ⟨by decide, by decide⟩ ?_
  exact v_iret dL_pieceLength_16 rfl rfl k
theorem S_L_pieceFrom_0 {kc ks : Nat} {h : Hh} {Q : PQ} {X : PX} {x1 : Int} {x2 : Int}
    (k : (3 ≤ kc ∧ 18 ≤ ks) ∧ am_V M_X10_pieceFrom 3 18 0 [aR 0, aI x1, aI x2, aU, aU, aU] [] am_R0 h (fun v ρ' h' => am_V M_L_pieceFrom (kc - 3) (ks - 18) 8 [aU, aU, aU, aU, aU] (v ++ [aI 0, aR 81]) ρ' h' Q X) (fun Ex ρ' h' => (Ex = "java/lang/IndexOutOfBoundsException" ∧ am_V M_L_pieceFrom (kc - 3) (ks - 18) 15 [aU, aU, aU, aU, aU] [] ρ' h' Q X) ∨ (Ex = "java/util/NoSuchElementException" ∧ am_V M_L_pieceFrom (kc - 3) (ks - 18) 19 [aU, aU, aU, aU, aU] [] ρ' h' Q X))) :
    am_V M_L_pieceFrom kc ks 0 [aR 0, aI x1, aI x2, aR 81, aU] [] am_R0 h Q X := by
  obtain ⟨⟨b0_1, b0_2⟩, k⟩ := k
  refine v_aload_n dL_pieceFrom_0 rfl rfl ?_
  refine v_iconst dL_pieceFrom_1 ⟨by decide, by decide⟩ ?_
  refine v_aload_n dL_pieceFrom_2 rfl rfl ?_
  refine v_iload_n dL_pieceFrom_3 rfl rfl ?_
  refine v_iload_n dL_pieceFrom_4 rfl rfl ?_
  refine v_weak (E2 := [aU, aU, aU, aU, aU]) ⟨Or.inr rfl, ⟨Or.inr rfl, ⟨Or.inr rfl, ⟨Or.inr rfl, ⟨Or.inl rfl, trivial⟩⟩⟩⟩⟩ ?_
  refine v_callH (j := M_X10_pieceFrom) (As := [aI x1, aI x2]) (st := [aI 0, aR 81]) (a := 0) (ci := 8) (N := 10) (E0 := [aR 0, aI x1, aI x2, aU, aU, aU]) (q9 := (RX10, TX10, 10)) dL_pieceFrom_5 ml_L_169 J_X10_pieceFrom b0_1 b0_2 (Nat.le_of_ble_eq_true rfl) (Nat.le_of_ble_eq_true rfl) (List.forall_mem_cons.mpr ⟨rfl, List.forall_mem_cons.mpr ⟨rfl, List.forall_mem_cons.mpr ⟨rfl, fun _ h9 => absurd h9 List.not_mem_nil⟩⟩⟩) (Nat.le_of_ble_eq_true rfl) rfl rfl rfl rfl pn_X10_pieceFrom rfl (v_mono k (fun _ _ _ z => z) (fun Ex ρ9 h9 z => ?_))
  rcases z with ⟨rfl, z⟩ | ⟨rfl, z⟩
  · refine ⟨13, 4, 2, hd_L_pieceFrom_0, (Nat.le_of_ble_eq_true rfl), Or.inr ⟨dL_pieceFrom_13, rfl⟩, ?_⟩
    exact z
  · refine ⟨17, 4, 2, hd_L_pieceFrom_1, (Nat.le_of_ble_eq_true rfl), Or.inr ⟨dL_pieceFrom_17, rfl⟩, ?_⟩
    exact z
theorem S_L_pieceFrom_8 {kc ks : Nat} {h : Hh} {Q : PQ} {X : PX} {xs0 : Int}
    (k : ((0 : Int) ≤ 0 ∧ (0 : Int) < 1) ∧ Q [aI 0] am_R0 (am_st h 81 0 xs0)) :
    am_V M_L_pieceFrom kc ks 8 [aU, aU, aU, aU, aU] [aI xs0, aI 0, aR 81] am_R0 h Q X := by
  obtain ⟨⟨b0_1, b0_2⟩, k⟩ := k
  refine v_i2l dL_pieceFrom_8 ?_
  refine v_last dL_pieceFrom_9 rfl b0_1 b0_2 ?_
  refine v_goto (tgt := 21) dL_pieceFrom_10 (by decide) ?_
  refine v_iconst dL_pieceFrom_21 ⟨by decide, by decide⟩ ?_
  exact v_iret dL_pieceFrom_22 rfl rfl k
theorem S_L_pieceFrom_15 {kc ks : Nat} {h : Hh} {Q : PQ} {X : PX} 
    (k : Q [aI 1] am_R0 h) :
    am_V M_L_pieceFrom kc ks 15 [aU, aU, aU, aU, aU] [] am_R0 h Q X := by
  refine v_iconst dL_pieceFrom_15 ⟨by decide, by decide⟩ ?_
  exact v_iret dL_pieceFrom_16 rfl rfl k
theorem S_L_pieceFrom_19 {kc ks : Nat} {h : Hh} {Q : PQ} {X : PX} 
    (k : Q [aI 2] am_R0 h) :
    am_V M_L_pieceFrom kc ks 19 [aU, aU, aU, aU, aU] [] am_R0 h Q X := by
  refine v_iconst dL_pieceFrom_19 ⟨by decide, by decide⟩ ?_
  exact v_iret dL_pieceFrom_20 rfl rfl k
theorem S_L_fewest_0 {kc ks : Nat} {h : Hh} {Q : PQ} {X : PX} {x1 : Int}
    (k : (1 ≤ kc ∧ 6 ≤ ks) ∧ am_V M_X10_fewest 1 6 0 [aR 0, aI x1] [] am_R0 h (fun v ρ' h' => am_V M_L_fewest (kc - 1) (ks - 6) 7 [aU, aU, aU, aU] (v ++ [aI 0, aR 81]) ρ' h' Q X) (fun Ex ρ' h' => (Ex = "java/lang/IndexOutOfBoundsException" ∧ am_V M_L_fewest (kc - 1) (ks - 6) 13 [aU, aU, aU, aU] [] ρ' h' Q X))) :
    am_V M_L_fewest kc ks 0 [aR 0, aI x1, aR 81, aU] [] am_R0 h Q X := by
  obtain ⟨⟨b0_1, b0_2⟩, k⟩ := k
  refine v_aload_n dL_fewest_0 rfl rfl ?_
  refine v_iconst dL_fewest_1 ⟨by decide, by decide⟩ ?_
  refine v_aload_n dL_fewest_2 rfl rfl ?_
  refine v_iload_n dL_fewest_3 rfl rfl ?_
  refine v_weak (E2 := [aU, aU, aU, aU]) ⟨Or.inr rfl, ⟨Or.inr rfl, ⟨Or.inr rfl, ⟨Or.inl rfl, trivial⟩⟩⟩⟩ ?_
  refine v_callH (j := M_X10_fewest) (As := [aI x1]) (st := [aI 0, aR 81]) (a := 0) (ci := 8) (N := 10) (E0 := [aR 0, aI x1]) (q9 := (RX10, TX10, 10)) dL_fewest_4 ml_L_172 J_X10_fewest b0_1 b0_2 (Nat.le_of_ble_eq_true rfl) (Nat.le_of_ble_eq_true rfl) (List.forall_mem_cons.mpr ⟨rfl, List.forall_mem_cons.mpr ⟨rfl, fun _ h9 => absurd h9 List.not_mem_nil⟩⟩) (Nat.le_of_ble_eq_true rfl) rfl rfl rfl rfl pn_X10_fewest rfl (v_mono k (fun _ _ _ z => z) (fun Ex ρ9 h9 z => ?_))
  obtain ⟨rfl, z⟩ := z
  refine ⟨12, 3, 1, hd_L_fewest_0, (Nat.le_of_ble_eq_true rfl), Or.inl ⟨3, dL_fewest_12, rfl, rfl⟩, ?_⟩
  exact z
theorem S_L_fewest_7 {kc ks : Nat} {h : Hh} {Q : PQ} {X : PX} {xs0 : Int}
    (k : ((0 : Int) ≤ 0 ∧ (0 : Int) < 1) ∧ Q [aI 0] am_R0 (am_st h 81 0 xs0)) :
    am_V M_L_fewest kc ks 7 [aU, aU, aU, aU] [aI xs0, aI 0, aR 81] am_R0 h Q X := by
  obtain ⟨⟨b0_1, b0_2⟩, k⟩ := k
  refine v_i2l dL_fewest_7 ?_
  refine v_last dL_fewest_8 rfl b0_1 b0_2 ?_
  refine v_goto (tgt := 15) dL_fewest_9 (by decide) ?_
  refine v_iconst dL_fewest_15 ⟨by decide, by decide⟩ ?_
  exact v_iret dL_fewest_16 rfl rfl k
theorem S_L_fewest_13 {kc ks : Nat} {h : Hh} {Q : PQ} {X : PX} 
    (k : Q [aI 1] am_R0 h) :
    am_V M_L_fewest kc ks 13 [aU, aU, aU, aU] [] am_R0 h Q X := by
  refine v_iconst dL_fewest_13 ⟨by decide, by decide⟩ ?_
  exact v_iret dL_fewest_14 rfl rfl k
theorem S_L_commonShare_0 {kc ks : Nat} {h : Hh} {Q : PQ} {X : PX} {x1 : Int}
    (k : (2 ≤ kc ∧ 12 ≤ ks) ∧ am_V M_X10_commonShare 2 12 0 [aR 0, aI x1, aU, aU] [] am_R0 h (fun v ρ' h' => am_V M_L_commonShare (kc - 2) (ks - 12) 7 [aU, aU, aU, aU] (v ++ [aI 0, aR 82]) ρ' h' Q X) (fun Ex ρ' h' => (Ex = "java/lang/IndexOutOfBoundsException" ∧ am_V M_L_commonShare (kc - 2) (ks - 12) 13 [aU, aU, aU, aU] [] ρ' h' Q X) ∨ (Ex = "java/lang/ArithmeticException" ∧ am_V M_L_commonShare (kc - 2) (ks - 12) 16 [aU, aU, aU, aU] [] ρ' h' Q X))) :
    am_V M_L_commonShare kc ks 0 [aR 0, aI x1, aR 82, aU] [] am_R0 h Q X := by
  obtain ⟨⟨b0_1, b0_2⟩, k⟩ := k
  refine v_aload_n dL_commonShare_0 rfl rfl ?_
  refine v_iconst dL_commonShare_1 ⟨by decide, by decide⟩ ?_
  refine v_aload_n dL_commonShare_2 rfl rfl ?_
  refine v_iload_n dL_commonShare_3 rfl rfl ?_
  refine v_weak (E2 := [aU, aU, aU, aU]) ⟨Or.inr rfl, ⟨Or.inr rfl, ⟨Or.inr rfl, ⟨Or.inl rfl, trivial⟩⟩⟩⟩ ?_
  refine v_callH (j := M_X10_commonShare) (As := [aI x1]) (st := [aI 0, aR 82]) (a := 0) (ci := 8) (N := 10) (E0 := [aR 0, aI x1, aU, aU]) (q9 := (RX10, TX10, 10)) dL_commonShare_4 ml_L_175 J_X10_commonShare b0_1 b0_2 (Nat.le_of_ble_eq_true rfl) (Nat.le_of_ble_eq_true rfl) (List.forall_mem_cons.mpr ⟨rfl, List.forall_mem_cons.mpr ⟨rfl, fun _ h9 => absurd h9 List.not_mem_nil⟩⟩) (Nat.le_of_ble_eq_true rfl) rfl rfl rfl rfl pn_X10_commonShare rfl (v_mono k (fun _ _ _ z => z) (fun Ex ρ9 h9 z => ?_))
  rcases z with ⟨rfl, z⟩ | ⟨rfl, z⟩
  · refine ⟨12, 3, 1, hd_L_commonShare_0, (Nat.le_of_ble_eq_true rfl), Or.inl ⟨3, dL_commonShare_12, rfl, rfl⟩, ?_⟩
    exact z
  · refine ⟨15, 3, 1, hd_L_commonShare_1, (Nat.le_of_ble_eq_true rfl), Or.inl ⟨3, dL_commonShare_15, rfl, rfl⟩, ?_⟩
    exact z
theorem S_L_commonShare_7 {kc ks : Nat} {h : Hh} {Q : PQ} {X : PX} {xs0 : UInt32}
    (k : (vf_n64 (FP.f2d xs0) ∧ (0 : Int) ≤ 0 ∧ (0 : Int) < 1) ∧ Q [aI 0] am_R0 (am_st h 82 0 ((FP.f2d xs0).toNat : Int))) :
    am_V M_L_commonShare kc ks 7 [aU, aU, aU, aU] [aF xs0, aI 0, aR 82] am_R0 h Q X := by
  obtain ⟨⟨b0_1, b0_2, b0_3⟩, k⟩ := k
  refine v_f2d dL_commonShare_7 b0_1 ?_
  refine v_dast dL_commonShare_8 rfl b0_2 b0_3 ?_
  refine v_goto (tgt := 18) dL_commonShare_9 (by decide) ?_
  refine v_iconst dL_commonShare_18 ⟨by decide, by decide⟩ ?_
  exact v_iret dL_commonShare_19 rfl rfl k
theorem S_L_commonShare_13 {kc ks : Nat} {h : Hh} {Q : PQ} {X : PX} 
    (k : Q [aI 1] am_R0 h) :
    am_V M_L_commonShare kc ks 13 [aU, aU, aU, aU] [] am_R0 h Q X := by
  refine v_iconst dL_commonShare_13 ⟨by decide, by decide⟩ ?_
  exact v_iret dL_commonShare_14 rfl rfl k
theorem S_L_commonShare_16 {kc ks : Nat} {h : Hh} {Q : PQ} {X : PX} 
    (k : Q [aI 2] am_R0 h) :
    am_V M_L_commonShare kc ks 16 [aU, aU, aU, aU] [] am_R0 h Q X := by
  refine v_iconst dL_commonShare_16 ⟨by decide, by decide⟩ ?_
  exact v_iret dL_commonShare_17 rfl rfl k
theorem S_L_meanCommon_0 {kc ks : Nat} {h : Hh} {Q : PQ} {X : PX} {x1 : Int}
    (k : (2 ≤ kc ∧ 12 ≤ ks) ∧ am_V M_X10_meanCommon 2 12 0 [aR 0, aI x1, aU, aU, aU] [] am_R0 h (fun v ρ' h' => am_V M_L_meanCommon (kc - 2) (ks - 12) 7 [aU, aU, aU, aU] (v ++ [aI 0, aR 82]) ρ' h' Q X) (fun Ex ρ' h' => (Ex = "java/lang/IndexOutOfBoundsException" ∧ am_V M_L_meanCommon (kc - 2) (ks - 12) 12 [aU, aU, aU, aU] [] ρ' h' Q X) ∨ (Ex = "java/lang/ArithmeticException" ∧ am_V M_L_meanCommon (kc - 2) (ks - 12) 15 [aU, aU, aU, aU] [] ρ' h' Q X))) :
    am_V M_L_meanCommon kc ks 0 [aR 0, aI x1, aR 82, aU] [] am_R0 h Q X := by
  obtain ⟨⟨b0_1, b0_2⟩, k⟩ := k
  refine v_aload_n dL_meanCommon_0 rfl rfl ?_
  refine v_iconst dL_meanCommon_1 ⟨by decide, by decide⟩ ?_
  refine v_aload_n dL_meanCommon_2 rfl rfl ?_
  refine v_iload_n dL_meanCommon_3 rfl rfl ?_
  refine v_weak (E2 := [aU, aU, aU, aU]) ⟨Or.inr rfl, ⟨Or.inr rfl, ⟨Or.inr rfl, ⟨Or.inl rfl, trivial⟩⟩⟩⟩ ?_
  refine v_callH (j := M_X10_meanCommon) (As := [aI x1]) (st := [aI 0, aR 82]) (a := 0) (ci := 8) (N := 10) (E0 := [aR 0, aI x1, aU, aU, aU]) (q9 := (RX10, TX10, 10)) dL_meanCommon_4 ml_L_181 J_X10_meanCommon b0_1 b0_2 (Nat.le_of_ble_eq_true rfl) (Nat.le_of_ble_eq_true rfl) (List.forall_mem_cons.mpr ⟨rfl, List.forall_mem_cons.mpr ⟨rfl, fun _ h9 => absurd h9 List.not_mem_nil⟩⟩) (Nat.le_of_ble_eq_true rfl) rfl rfl rfl rfl pn_X10_meanCommon rfl (v_mono k (fun _ _ _ z => z) (fun Ex ρ9 h9 z => ?_))
  rcases z with ⟨rfl, z⟩ | ⟨rfl, z⟩
  · refine ⟨11, 3, 1, hd_L_meanCommon_0, (Nat.le_of_ble_eq_true rfl), Or.inl ⟨3, dL_meanCommon_11, rfl, rfl⟩, ?_⟩
    exact z
  · refine ⟨14, 3, 1, hd_L_meanCommon_1, (Nat.le_of_ble_eq_true rfl), Or.inl ⟨3, dL_meanCommon_14, rfl, rfl⟩, ?_⟩
    exact z
theorem S_L_meanCommon_7 {kc ks : Nat} {h : Hh} {Q : PQ} {X : PX} {xs0 : UInt64}
    (k : ((0 : Int) ≤ 0 ∧ (0 : Int) < 1) ∧ Q [aI 0] am_R0 (am_st h 82 0 (xs0.toNat : Int))) :
    am_V M_L_meanCommon kc ks 7 [aU, aU, aU, aU] [aD xs0, aI 0, aR 82] am_R0 h Q X := by
  obtain ⟨⟨b0_1, b0_2⟩, k⟩ := k
  refine v_dast dL_meanCommon_7 rfl b0_1 b0_2 ?_
  refine v_goto (tgt := 17) dL_meanCommon_8 (by decide) ?_
  refine v_iconst dL_meanCommon_17 ⟨by decide, by decide⟩ ?_
  exact v_iret dL_meanCommon_18 rfl rfl k
theorem S_L_meanCommon_12 {kc ks : Nat} {h : Hh} {Q : PQ} {X : PX} 
    (k : Q [aI 1] am_R0 h) :
    am_V M_L_meanCommon kc ks 12 [aU, aU, aU, aU] [] am_R0 h Q X := by
  refine v_iconst dL_meanCommon_12 ⟨by decide, by decide⟩ ?_
  exact v_iret dL_meanCommon_13 rfl rfl k
theorem S_L_meanCommon_15 {kc ks : Nat} {h : Hh} {Q : PQ} {X : PX} 
    (k : Q [aI 2] am_R0 h) :
    am_V M_L_meanCommon kc ks 15 [aU, aU, aU, aU] [] am_R0 h Q X := by
  refine v_iconst dL_meanCommon_15 ⟨by decide, by decide⟩ ?_
  exact v_iret dL_meanCommon_16 rfl rfl k
