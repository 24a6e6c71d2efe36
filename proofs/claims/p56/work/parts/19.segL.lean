variable {WM : List (Nat × Nat)} {wd : Bool}
theorem S_L_cell_0 {kc ks : Nat} {h : Hh} {Q : PQ} {X : PX} {x1 : Int}
    (k : (∀ z1 : Int, am_i z1 → (∀ z2 : Int, am_i z2 → am_V M_L_cell kc ks 19 [aR 1000, aI x1, aI z2, aR 1000, aI (h 1001 0), aI 0, aU] [] (RM WM wd) h Q X))) :
    am_V M_L_cell kc ks 0 [aR 1000, aI x1, aU, aU, aU, aU, aU] [] (RM WM wd) h Q X := by
  refine v_sipush dL_cell_0 (by decide) (by decide) ?_
  refine v_bipush dL_cell_3 (by decide) (by decide) ?_
  refine v_aload_n dL_cell_5 rfl rfl ?_
  refine v_slen dL_cell_6 (fun _ _ => ?_)
  refine v_imulA dL_cell_7 (fun z1 iz1 => ?_)
  have k := k z1 iz1
  refine v_iaddA dL_cell_8 (fun z2 iz2 => ?_)
  have k := k z2 iz2
  refine v_istore_n (E2 := [aR 1000, aI x1, aI z2, aU, aU, aU, aU]) dL_cell_9 rfl (Nat.le_of_ble_eq_true rfl) rfl ?_
  refine v_aload_n dL_cell_10 rfl rfl ?_
  refine v_astore_n (E2 := [aR 1000, aI x1, aI z2, aR 1000, aU, aU, aU]) dL_cell_11 rfl (Nat.le_of_ble_eq_true rfl) rfl ?_
  refine v_aload_n dL_cell_12 rfl rfl ?_
  refine v_slen dL_cell_13 (fun _ _ => ?_)
  refine v_istore (E2 := [aR 1000, aI x1, aI z2, aR 1000, aI (h 1001 0), aU, aU]) dL_cell_14 (Nat.le_of_ble_eq_true rfl) rfl ?_
  refine v_iconst dL_cell_16 ⟨by decide, by decide⟩ ?_
  refine v_istore (E2 := [aR 1000, aI x1, aI z2, aR 1000, aI (h 1001 0), aI 0, aU]) dL_cell_17 (Nat.le_of_ble_eq_true rfl) rfl ?_
  exact k
theorem S_L_cell_19 {kc ks : Nat} {h : Hh} {Q : PQ} {X : PX} {x1 : Int} {x2 : Int} {x4 : Int} {x5 : Int}
    (k : ((x4 ≤ x5 → (∀ z3 : Int, am_i z3 → (∀ z4 : Int, am_i z4 → ((z4 ≠ 0 → (∀ z5 : Int, am_i z5 → (∀ z6 : Int, am_i z6 → (∀ z7 : Int, am_i z7 → (∀ z8 : Int, am_i z8 → (∀ z9 : Int, am_i z9 → (∀ z10 : Int, am_i z10 → (∀ z11 : Int, am_i z11 → (∀ z12 : Int, am_i z12 → Q [aI z12] (RM WM wd) h))))))))) ∧ (z4 = 0 → (((h 1001 0) ≤ x1 → (∀ z13 : Int, am_i z13 → (∀ z14 : Int, am_i z14 → Q [aI z14] (RM WM wd) h))) ∧ (x1 < (h 1001 0) → ((0 : Int) ≤ x1 ∧ (x1 : Int) < h 1001 0) ∧ Q [aI (h 1000 x1)] (RM WM wd) h))))))) ∧ (x5 < x4 → ((0 : Int) ≤ x5 ∧ (x5 : Int) < h 1001 0) ∧ (∀ z15 : Int, am_i z15 → (∀ z16 : Int, am_i z16 → (∀ z17 : Int, am_i z17 → ((-2147483648 ≤ ((x5 + 1) : Int) ∧ ((x5 + 1) : Int) < 2147483648)) ∧ am_V M_L_cell kc ks 19 [aR 1000, aI x1, aI z17, aR 1000, aI x4, aI (x5 + 1), aU] [] (RM WM wd) h Q X)))))) :
    am_V M_L_cell kc ks 19 [aR 1000, aI x1, aI x2, aR 1000, aI x4, aI x5, aU] [] (RM WM wd) h Q X := by
  refine v_iload dL_cell_19 rfl ?_
  refine v_iload dL_cell_21 rfl ?_
  refine v_icmp_ge (tgt := 49) dL_cell_23 (by decide) (fun z => ?_) (fun z => ?_)
  · have k := k.1 z
    refine v_iload_n dL_cell_49 rfl rfl ?_
    refine v_bipush dL_cell_50 (by decide) (by decide) ?_
    refine v_iushrA dL_cell_52 (fun z3 iz3 => ?_)
    have k := k z3 iz3
    refine v_iconst dL_cell_53 ⟨by decide, by decide⟩ ?_
    refine v_iandA dL_cell_54 (fun z4 iz4 => ?_)
    have k := k z4 iz4
    refine v_if_ne (tgt := 79) dL_cell_55 (by decide) (fun z => ?_) (fun z => ?_)
    · have k := k.1 z
      refine v_iload_n dL_cell_79 rfl rfl ?_
      refine v_ldci dL_cell_80 ic_L_8 ⟨by decide, by decide⟩ ?_
      refine v_iload_n dL_cell_82 rfl rfl ?_
      refine v_sipush dL_cell_83 (by decide) (by decide) ?_
      refine v_iaddA dL_cell_86 (fun z5 iz5 => ?_)
      have k := k z5 iz5
      refine v_imulA dL_cell_87 (fun z6 iz6 => ?_)
      have k := k z6 iz6
      refine v_ixorA dL_cell_88 (fun z7 iz7 => ?_)
      have k := k z7 iz7
      refine v_istore_n (E2 := [aR 1000, aI x1, aI x2, aI z7, aI x4, aI x5, aU]) dL_cell_89 rfl (Nat.le_of_ble_eq_true rfl) rfl ?_
      refine v_iload_n dL_cell_90 rfl rfl ?_
      refine v_iload_n dL_cell_91 rfl rfl ?_
      refine v_bipush dL_cell_92 (by decide) (by decide) ?_
      refine v_iushrA dL_cell_94 (fun z8 iz8 => ?_)
      have k := k z8 iz8
      refine v_ixorA dL_cell_95 (fun z9 iz9 => ?_)
      have k := k z9 iz9
      refine v_ldci dL_cell_96 ic_L_9 ⟨by decide, by decide⟩ ?_
      refine v_imulA dL_cell_98 (fun z10 iz10 => ?_)
      have k := k z10 iz10
      refine v_istore_n (E2 := [aR 1000, aI x1, aI x2, aI z10, aI x4, aI x5, aU]) dL_cell_99 rfl (Nat.le_of_ble_eq_true rfl) rfl ?_
      refine v_iload_n dL_cell_100 rfl rfl ?_
      refine v_iload_n dL_cell_101 rfl rfl ?_
      refine v_bipush dL_cell_102 (by decide) (by decide) ?_
      refine v_iushrA dL_cell_104 (fun z11 iz11 => ?_)
      have k := k z11 iz11
      refine v_ixorA dL_cell_105 (fun z12 iz12 => ?_)
      have k := k z12 iz12
      exact v_iret dL_cell_106 rfl rfl k
    · have k := k.2 z
      refine v_iload_n dL_cell_58 rfl rfl ?_
      refine v_aload_n dL_cell_59 rfl rfl ?_
      refine v_slen dL_cell_60 (fun _ _ => ?_)
      refine v_icmp_ge (tgt := 70) dL_cell_61 (by decide) (fun z => ?_) (fun z => ?_)
      · have k := k.1 z
        refine v_sipush dL_cell_70 (by decide) (by decide) ?_
        refine v_iload_n dL_cell_73 rfl rfl ?_
        refine v_imulA dL_cell_74 (fun z13 iz13 => ?_)
        have k := k z13 iz13
        refine v_bipush dL_cell_75 (by decide) (by decide) ?_
        refine v_iaddA dL_cell_77 (fun z14 iz14 => ?_)
        have k := k z14 iz14
        exact v_iret dL_cell_78 rfl rfl k
      · have k := k.2 z
        obtain ⟨⟨b5_1, b5_2⟩, k⟩ := k
        refine v_aload_n dL_cell_64 rfl rfl ?_
        refine v_iload_n dL_cell_65 rfl rfl ?_
        refine v_sld dL_cell_66 b5_1 b5_2 (fun _ => ?_)
        refine v_goto (tgt := 78) dL_cell_67 (by decide) ?_
        exact v_iret dL_cell_78 rfl rfl k
  · have k := k.2 z
    obtain ⟨⟨b1_1, b1_2⟩, k⟩ := k
    refine v_aload_n dL_cell_26 rfl rfl ?_
    refine v_iload dL_cell_27 rfl ?_
    refine v_sld dL_cell_29 b1_1 b1_2 (fun _ => ?_)
    refine v_istore (E2 := [aR 1000, aI x1, aI x2, aR 1000, aI x4, aI x5, aI (h 1000 x5)]) dL_cell_30 (Nat.le_of_ble_eq_true rfl) rfl ?_
    refine v_iload_n dL_cell_32 rfl rfl ?_
    refine v_iload dL_cell_33 rfl ?_
    refine v_ixorA dL_cell_35 (fun z15 iz15 => ?_)
    have k := k z15 iz15
    refine v_ldci dL_cell_36 ic_L_7 ⟨by decide, by decide⟩ ?_
    refine v_imulA dL_cell_38 (fun z16 iz16 => ?_)
    have k := k z16 iz16
    refine v_bipush dL_cell_39 (by decide) (by decide) ?_
    refine v_iaddA dL_cell_41 (fun z17 iz17 => ?_)
    have k := k z17 iz17
    obtain ⟨b4_1, k⟩ := k
    refine v_istore_n (E2 := [aR 1000, aI x1, aI z17, aR 1000, aI x4, aI x5, aI (h 1000 x5)]) dL_cell_42 rfl (Nat.le_of_ble_eq_true rfl) rfl ?_
    refine v_iinc (E2 := [aR 1000, aI x1, aI z17, aR 1000, aI x4, aI (x5 + 1), aI (h 1000 x5)]) dL_cell_43 rfl b4_1 rfl ?_
    refine v_goto (tgt := 19) dL_cell_46 (by decide) ?_
    refine v_weak (E2 := [aR 1000, aI x1, aI z17, aR 1000, aI x4, aI (x5 + 1), aU]) ⟨Or.inl rfl, ⟨Or.inl rfl, ⟨Or.inl rfl, ⟨Or.inl rfl, ⟨Or.inl rfl, ⟨Or.inl rfl, ⟨Or.inr rfl, trivial⟩⟩⟩⟩⟩⟩⟩ ?_
    exact k
theorem S_L_chosen_0 {kc ks : Nat} {h : Hh} {Q : PQ} {X : PX} {x0 : Int} {x1 : Int}
    (k : ((0 : Int) ≤ (Int32.ofInt x0 &&& Int32.ofInt 2147483647).toInt ∧ (0 : Int) < x1) ∧ Q [aI ((Int32.ofInt x0 &&& Int32.ofInt 2147483647).toInt % x1)] (RM WM wd) h) :
    am_V M_L_chosen kc ks 0 [aI x0, aI x1] [] (RM WM wd) h Q X := by
  obtain ⟨⟨b0_1, b0_2⟩, k⟩ := k
  refine v_iload_n dL_chosen_0 rfl rfl ?_
  refine v_ldci dL_chosen_1 ic_L_10 ⟨by decide, by decide⟩ ?_
  refine v_iand dL_chosen_3 ?_
  refine v_iload_n dL_chosen_4 rfl rfl ?_
  refine v_irem dL_chosen_5 b0_1 b0_2 ?_
  exact v_iret dL_chosen_6 rfl rfl k
theorem S_L_type_0 {kc ks : Nat} {h : Hh} {Q : PQ} {X : PX} {x1 : Int}
    (k : (1 ≤ kc ∧ 6 ≤ ks) ∧ am_V M_X10_type 1 6 0 [aR 0, aI x1] [] (RM WM wd) h (fun v ρ' h' => am_V M_L_type (kc - 1) (ks - 6) 5 [aU, aU, aU] (v ++ []) ρ' h' Q X) (fun Ex ρ' h' => (Ex = "java/lang/IllegalArgumentException" ∧ am_V M_L_type (kc - 1) (ks - 6) 8 [aU, aU, aU] [] ρ' h' Q X) ∨ (Ex = "java/lang/IllegalStateException" ∧ am_V M_L_type (kc - 1) (ks - 6) 13 [aU, aU, aU] [] ρ' h' Q X))) :
    am_V M_L_type kc ks 0 [aR 0, aI x1, aU] [] (RM WM wd) h Q X := by
  obtain ⟨⟨b0_1, b0_2⟩, k⟩ := k
  refine v_aload_n dL_type_0 rfl rfl ?_
  refine v_iload_n dL_type_1 rfl rfl ?_
  refine v_weak (E2 := [aU, aU, aU]) ⟨Or.inr rfl, ⟨Or.inr rfl, ⟨Or.inl rfl, trivial⟩⟩⟩ ?_
  refine v_callH (j := M_X10_type) (As := [aI x1]) (st := []) (a := 0) (ci := 8) (N := 10) (E0 := [aR 0, aI x1]) (q9 := (RX10, TX10, 10)) dL_type_2 ml_L_11 J_X10_type b0_1 b0_2 (Nat.le_of_ble_eq_true rfl) (Nat.le_of_ble_eq_true rfl) (List.forall_mem_cons.mpr ⟨rfl, List.forall_mem_cons.mpr ⟨rfl, fun _ h9 => absurd h9 List.not_mem_nil⟩⟩) (Nat.le_of_ble_eq_true rfl) rfl rfl rfl rfl pn_X10_type rfl (v_mono k (fun _ _ _ z => z) (fun Ex ρ9 h9 z => ?_))
  rcases z with ⟨rfl, z⟩ | ⟨rfl, z⟩
  · refine ⟨7, 2, 1, hd_L_type_0, (Nat.le_of_ble_eq_true rfl), Or.inl ⟨2, dL_type_7, rfl, rfl⟩, ?_⟩
    exact z
  · refine ⟨12, 2, 1, hd_L_type_1, (Nat.le_of_ble_eq_true rfl), Or.inl ⟨2, dL_type_12, rfl, rfl⟩, ?_⟩
    exact z
theorem S_L_type_5 {kc ks : Nat} {h : Hh} {Q : PQ} {X : PX} {xs0 : Int}
    (k : Q [aL xs0] (RM WM wd) h) :
    am_V M_L_type kc ks 5 [aU, aU, aU] [aI xs0] (RM WM wd) h Q X := by
  refine v_i2l dL_type_5 ?_
  exact v_lret dL_type_6 rfl rfl k
theorem S_L_type_8 {kc ks : Nat} {h : Hh} {Q : PQ} {X : PX} 
    (k : Q [aL (-4000000000000000001)] (RM WM wd) h) :
    am_V M_L_type kc ks 8 [aU, aU, aU] [] (RM WM wd) h Q X := by
  refine v_ldc2l dL_type_8 lc_L_21 ⟨by decide, by decide⟩ ?_
  exact v_lret dL_type_11 rfl rfl k
theorem S_L_type_13 {kc ks : Nat} {h : Hh} {Q : PQ} {X : PX} 
    (k : Q [aL (-4000000000000000002)] (RM WM wd) h) :
    am_V M_L_type kc ks 13 [aU, aU, aU] [] (RM WM wd) h Q X := by
  refine v_ldc2l dL_type_13 lc_L_25 ⟨by decide, by decide⟩ ?_
  exact v_lret dL_type_16 rfl rfl k
theorem S_L_wipe_0 {kc ks : Nat} {h : Hh} {Q : PQ} {X : PX} 
    (k : am_V M_X10_wipe 0 0 0 [aR 0, aU] [] (RM WM wd) h (fun v ρ' h' => am_V M_L_wipe kc ks 4 [aU] (v ++ []) ρ' h' Q X) X) :
    am_V M_L_wipe kc ks 0 [aR 0] [] (RM WM wd) h Q X := by
  refine v_aload_n dL_wipe_0 rfl rfl ?_
  refine v_weak (E2 := [aU]) ⟨Or.inr rfl, trivial⟩ ?_
  exact v_callV (j := M_X10_wipe) (As := []) (st := []) (E0 := [aR 0, aU]) (a := 0) (ci := 8) (N := 10) (q9 := (RX10, TX10, 10)) dL_wipe_1 ml_L_27 J_X10_wipe (Nat.zero_le _) (Nat.zero_le _) (Nat.le_of_ble_eq_true rfl) rfl (Nat.le_of_ble_eq_true rfl) (List.forall_mem_cons.mpr ⟨rfl, fun _ h9 => absurd h9 List.not_mem_nil⟩) (Nat.le_of_ble_eq_true rfl) rfl rfl rfl rfl pn_X10_wipe rfl k
theorem S_L_wipe_4 {kc ks : Nat} {h : Hh} {Q : PQ} {X : PX} {xs0 : Int}
    (k : Q [aL xs0] (RM WM wd) h) :
    am_V M_L_wipe kc ks 4 [aU] [aI xs0] (RM WM wd) h Q X := by
  refine v_i2l dL_wipe_4 ?_
  exact v_lret dL_wipe_5 rfl rfl k
theorem S_L_typed_0 {kc ks : Nat} {h : Hh} {Q : PQ} {X : PX} {x1 : Int}
    (k : (1 ≤ kc ∧ 6 ≤ ks) ∧ am_V M_X10_typed 1 6 0 [aR 0, aI x1] [] (RM WM wd) h (fun v ρ' h' => am_V M_L_typed (kc - 1) (ks - 6) 5 [aU, aU, aU] (v ++ []) ρ' h' Q X) (fun Ex ρ' h' => (Ex = "java/util/NoSuchElementException" ∧ am_V M_L_typed (kc - 1) (ks - 6) 8 [aU, aU, aU] [] ρ' h' Q X))) :
    am_V M_L_typed kc ks 0 [aR 0, aI x1, aU] [] (RM WM wd) h Q X := by
  obtain ⟨⟨b0_1, b0_2⟩, k⟩ := k
  refine v_aload_n dL_typed_0 rfl rfl ?_
  refine v_iload_n dL_typed_1 rfl rfl ?_
  refine v_weak (E2 := [aU, aU, aU]) ⟨Or.inr rfl, ⟨Or.inr rfl, ⟨Or.inl rfl, trivial⟩⟩⟩ ?_
  refine v_callH (j := M_X10_typed) (As := [aI x1]) (st := []) (a := 0) (ci := 8) (N := 10) (E0 := [aR 0, aI x1]) (q9 := (RX10, TX10, 10)) dL_typed_2 ml_L_31 J_X10_typed b0_1 b0_2 (Nat.le_of_ble_eq_true rfl) (Nat.le_of_ble_eq_true rfl) (List.forall_mem_cons.mpr ⟨rfl, List.forall_mem_cons.mpr ⟨rfl, fun _ h9 => absurd h9 List.not_mem_nil⟩⟩) (Nat.le_of_ble_eq_true rfl) rfl rfl rfl rfl pn_X10_typed rfl (v_mono k (fun _ _ _ z => z) (fun Ex ρ9 h9 z => ?_))
  obtain ⟨rfl, z⟩ := z
  refine ⟨7, 2, 1, hd_L_typed_0, (Nat.le_of_ble_eq_true rfl), Or.inl ⟨2, dL_typed_7, rfl, rfl⟩, ?_⟩
  exact z
theorem S_L_typed_5 {kc ks : Nat} {h : Hh} {Q : PQ} {X : PX} {xs0 : Int}
    (k : Q [aL xs0] (RM WM wd) h) :
    am_V M_L_typed kc ks 5 [aU, aU, aU] [aI xs0] (RM WM wd) h Q X := by
  refine v_i2l dL_typed_5 ?_
  exact v_lret dL_typed_6 rfl rfl k
theorem S_L_typed_8 {kc ks : Nat} {h : Hh} {Q : PQ} {X : PX} 
    (k : Q [aL (-4000000000000000001)] (RM WM wd) h) :
    am_V M_L_typed kc ks 8 [aU, aU, aU] [] (RM WM wd) h Q X := by
  refine v_ldc2l dL_typed_8 lc_L_21 ⟨by decide, by decide⟩ ?_
  exact v_lret dL_typed_11 rfl rfl k
theorem S_L_text_0 {kc ks : Nat} {h : Hh} {Q : PQ} {X : PX} 
    (k : (2 ≤ kc ∧ 12 ≤ ks) ∧ am_V M_X10_text 2 12 0 [aR 0, aU] [] (RM WM wd) h (fun v ρ' h' => am_V M_L_text (kc - 2) (ks - 12) 4 [aU, aU] (v ++ []) ρ' h' Q X) (fun Ex ρ' h' => (Ex = "java/lang/UnsupportedOperationException" ∧ am_V M_L_text (kc - 2) (ks - 12) 7 [aU, aU] [] ρ' h' Q X) ∨ (Ex = "java/lang/IllegalStateException" ∧ am_V M_L_text (kc - 2) (ks - 12) 12 [aU, aU] [] ρ' h' Q X))) :
    am_V M_L_text kc ks 0 [aR 0, aU] [] (RM WM wd) h Q X := by
  obtain ⟨⟨b0_1, b0_2⟩, k⟩ := k
  refine v_aload_n dL_text_0 rfl rfl ?_
  refine v_weak (E2 := [aU, aU]) ⟨Or.inr rfl, ⟨Or.inl rfl, trivial⟩⟩ ?_
  refine v_callH (j := M_X10_text) (As := []) (st := []) (a := 0) (ci := 8) (N := 10) (E0 := [aR 0, aU]) (q9 := (RX10, TX10, 10)) dL_text_1 ml_L_37 J_X10_text b0_1 b0_2 (Nat.le_of_ble_eq_true rfl) (Nat.le_of_ble_eq_true rfl) (List.forall_mem_cons.mpr ⟨rfl, fun _ h9 => absurd h9 List.not_mem_nil⟩) (Nat.le_of_ble_eq_true rfl) rfl rfl rfl rfl pn_X10_text rfl (v_mono k (fun _ _ _ z => z) (fun Ex ρ9 h9 z => ?_))
  rcases z with ⟨rfl, z⟩ | ⟨rfl, z⟩
  · refine ⟨6, 1, 1, hd_L_text_0, (Nat.le_of_ble_eq_true rfl), Or.inl ⟨1, dL_text_6, rfl, rfl⟩, ?_⟩
    exact z
  · refine ⟨11, 1, 1, hd_L_text_1, (Nat.le_of_ble_eq_true rfl), Or.inl ⟨1, dL_text_11, rfl, rfl⟩, ?_⟩
    exact z
theorem S_L_text_4 {kc ks : Nat} {h : Hh} {Q : PQ} {X : PX} {xs0 : Int}
    (k : Q [aL xs0] (RM WM wd) h) :
    am_V M_L_text kc ks 4 [aU, aU] [aI xs0] (RM WM wd) h Q X := by
  refine v_i2l dL_text_4 ?_
  exact v_lret dL_text_5 rfl rfl k
theorem S_L_text_7 {kc ks : Nat} {h : Hh} {Q : PQ} {X : PX} 
    (k : Q [aL (-4000000000000000001)] (RM WM wd) h) :
    am_V M_L_text kc ks 7 [aU, aU] [] (RM WM wd) h Q X := by
  refine v_ldc2l dL_text_7 lc_L_21 ⟨by decide, by decide⟩ ?_
  exact v_lret dL_text_10 rfl rfl k
theorem S_L_text_12 {kc ks : Nat} {h : Hh} {Q : PQ} {X : PX} 
    (k : Q [aL (-4000000000000000002)] (RM WM wd) h) :
    am_V M_L_text kc ks 12 [aU, aU] [] (RM WM wd) h Q X := by
  refine v_ldc2l dL_text_12 lc_L_25 ⟨by decide, by decide⟩ ?_
  exact v_lret dL_text_15 rfl rfl k
theorem S_L_length_0 {kc ks : Nat} {h : Hh} {Q : PQ} {X : PX} {x1 : Int}
    (k : (1 ≤ kc ∧ 6 ≤ ks) ∧ am_V M_X10_length 1 6 0 [aR 0, aI x1] [] (RM WM wd) h (fun v ρ' h' => am_V M_L_length (kc - 1) (ks - 6) 5 [aU, aU, aU] (v ++ []) ρ' h' Q X) (fun Ex ρ' h' => (Ex = "java/lang/IndexOutOfBoundsException" ∧ am_V M_L_length (kc - 1) (ks - 6) 8 [aU, aU, aU] [] ρ' h' Q X))) :
    am_V M_L_length kc ks 0 [aR 0, aI x1, aU] [] (RM WM wd) h Q X := by
  obtain ⟨⟨b0_1, b0_2⟩, k⟩ := k
  refine v_aload_n dL_length_0 rfl rfl ?_
  refine v_iload_n dL_length_1 rfl rfl ?_
  refine v_weak (E2 := [aU, aU, aU]) ⟨Or.inr rfl, ⟨Or.inr rfl, ⟨Or.inl rfl, trivial⟩⟩⟩ ?_
  refine v_callH (j := M_X10_length) (As := [aI x1]) (st := []) (a := 0) (ci := 8) (N := 10) (E0 := [aR 0, aI x1]) (q9 := (RX10, TX10, 10)) dL_length_2 ml_L_42 J_X10_length b0_1 b0_2 (Nat.le_of_ble_eq_true rfl) (Nat.le_of_ble_eq_true rfl) (List.forall_mem_cons.mpr ⟨rfl, List.forall_mem_cons.mpr ⟨rfl, fun _ h9 => absurd h9 List.not_mem_nil⟩⟩) (Nat.le_of_ble_eq_true rfl) rfl rfl rfl rfl pn_X10_length rfl (v_mono k (fun _ _ _ z => z) (fun Ex ρ9 h9 z => ?_))
  obtain ⟨rfl, z⟩ := z
  refine ⟨7, 2, 1, hd_L_length_0, (Nat.le_of_ble_eq_true rfl), Or.inl ⟨2, dL_length_7, rfl, rfl⟩, ?_⟩
  exact z
theorem S_L_length_5 {kc ks : Nat} {h : Hh} {Q : PQ} {X : PX} {xs0 : Int}
    (k : Q [aL xs0] (RM WM wd) h) :
    am_V M_L_length kc ks 5 [aU, aU, aU] [aI xs0] (RM WM wd) h Q X := by
  refine v_i2l dL_length_5 ?_
  exact v_lret dL_length_6 rfl rfl k
theorem S_L_length_8 {kc ks : Nat} {h : Hh} {Q : PQ} {X : PX} 
    (k : Q [aL (-4000000000000000001)] (RM WM wd) h) :
    am_V M_L_length kc ks 8 [aU, aU, aU] [] (RM WM wd) h Q X := by
  refine v_ldc2l dL_length_8 lc_L_21 ⟨by decide, by decide⟩ ?_
  exact v_lret dL_length_11 rfl rfl k
theorem S_L_signAt_0 {kc ks : Nat} {h : Hh} {Q : PQ} {X : PX} {x1 : Int} {x2 : Int}
    (k : (2 ≤ kc ∧ 12 ≤ ks) ∧ am_V M_X10_signAt 2 12 0 [aR 0, aI x1, aI x2] [] (RM WM wd) h (fun v ρ' h' => am_V M_L_signAt (kc - 2) (ks - 12) 6 [aU, aU, aU, aU] (v ++ []) ρ' h' Q X) (fun Ex ρ' h' => (Ex = "java/lang/IndexOutOfBoundsException" ∧ am_V M_L_signAt (kc - 2) (ks - 12) 9 [aU, aU, aU, aU] [] ρ' h' Q X))) :
    am_V M_L_signAt kc ks 0 [aR 0, aI x1, aI x2, aU] [] (RM WM wd) h Q X := by
  obtain ⟨⟨b0_1, b0_2⟩, k⟩ := k
  refine v_aload_n dL_signAt_0 rfl rfl ?_
  refine v_iload_n dL_signAt_1 rfl rfl ?_
  refine v_iload_n dL_signAt_2 rfl rfl ?_
  refine v_weak (E2 := [aU, aU, aU, aU]) ⟨Or.inr rfl, ⟨Or.inr rfl, ⟨Or.inr rfl, ⟨Or.inl rfl, trivial⟩⟩⟩⟩ ?_
  refine v_callH (j := M_X10_signAt) (As := [aI x1, aI x2]) (st := []) (a := 0) (ci := 8) (N := 10) (E0 := [aR 0, aI x1, aI x2]) (q9 := (RX10, TX10, 10)) dL_signAt_3 ml_L_48 J_X10_signAt b0_1 b0_2 (Nat.le_of_ble_eq_true rfl) (Nat.le_of_ble_eq_true rfl) (List.forall_mem_cons.mpr ⟨rfl, List.forall_mem_cons.mpr ⟨rfl, List.forall_mem_cons.mpr ⟨rfl, fun _ h9 => absurd h9 List.not_mem_nil⟩⟩⟩) (Nat.le_of_ble_eq_true rfl) rfl rfl rfl rfl pn_X10_signAt rfl (v_mono k (fun _ _ _ z => z) (fun Ex ρ9 h9 z => ?_))
  obtain ⟨rfl, z⟩ := z
  refine ⟨8, 3, 1, hd_L_signAt_0, (Nat.le_of_ble_eq_true rfl), Or.inl ⟨3, dL_signAt_8, rfl, rfl⟩, ?_⟩
  exact z
theorem S_L_signAt_6 {kc ks : Nat} {h : Hh} {Q : PQ} {X : PX} {xs0 : Int}
    (k : Q [aL xs0] (RM WM wd) h) :
    am_V M_L_signAt kc ks 6 [aU, aU, aU, aU] [aI xs0] (RM WM wd) h Q X := by
  refine v_i2l dL_signAt_6 ?_
  exact v_lret dL_signAt_7 rfl rfl k
theorem S_L_signAt_9 {kc ks : Nat} {h : Hh} {Q : PQ} {X : PX} 
    (k : Q [aL (-4000000000000000001)] (RM WM wd) h) :
    am_V M_L_signAt kc ks 9 [aU, aU, aU, aU] [] (RM WM wd) h Q X := by
  refine v_ldc2l dL_signAt_9 lc_L_21 ⟨by decide, by decide⟩ ?_
  exact v_lret dL_signAt_12 rfl rfl k
theorem S_L_mirror_0 {kc ks : Nat} {h : Hh} {Q : PQ} {X : PX} {x1 : Int}
    (k : (2 ≤ kc ∧ 12 ≤ ks) ∧ am_V M_X10_mirror 2 12 0 [aR 0, aI x1, aU, aU] [] (RM WM wd) h (fun v ρ' h' => am_V M_L_mirror (kc - 2) (ks - 12) 5 [aU, aU, aU] (v ++ []) ρ' h' Q X) (fun Ex ρ' h' => (Ex = "java/lang/IndexOutOfBoundsException" ∧ am_V M_L_mirror (kc - 2) (ks - 12) 8 [aU, aU, aU] [] ρ' h' Q X) ∨ (Ex = "java/lang/IllegalStateException" ∧ am_V M_L_mirror (kc - 2) (ks - 12) 13 [aU, aU, aU] [] ρ' h' Q X))) :
    am_V M_L_mirror kc ks 0 [aR 0, aI x1, aU] [] (RM WM wd) h Q X := by
  obtain ⟨⟨b0_1, b0_2⟩, k⟩ := k
  refine v_aload_n dL_mirror_0 rfl rfl ?_
  refine v_iload_n dL_mirror_1 rfl rfl ?_
  refine v_weak (E2 := [aU, aU, aU]) ⟨Or.inr rfl, ⟨Or.inr rfl, ⟨Or.inl rfl, trivial⟩⟩⟩ ?_
  refine v_callH (j := M_X10_mirror) (As := [aI x1]) (st := []) (a := 0) (ci := 8) (N := 10) (E0 := [aR 0, aI x1, aU, aU]) (q9 := (RX10, TX10, 10)) dL_mirror_2 ml_L_52 J_X10_mirror b0_1 b0_2 (Nat.le_of_ble_eq_true rfl) (Nat.le_of_ble_eq_true rfl) (List.forall_mem_cons.mpr ⟨rfl, List.forall_mem_cons.mpr ⟨rfl, fun _ h9 => absurd h9 List.not_mem_nil⟩⟩) (Nat.le_of_ble_eq_true rfl) rfl rfl rfl rfl pn_X10_mirror rfl (v_mono k (fun _ _ _ z => z) (fun Ex ρ9 h9 z => ?_))
  rcases z with ⟨rfl, z⟩ | ⟨rfl, z⟩
  · refine ⟨7, 2, 1, hd_L_mirror_0, (Nat.le_of_ble_eq_true rfl), Or.inl ⟨2, dL_mirror_7, rfl, rfl⟩, ?_⟩
    exact z
  · refine ⟨12, 2, 1, hd_L_mirror_1, (Nat.le_of_ble_eq_true rfl), Or.inl ⟨2, dL_mirror_12, rfl, rfl⟩, ?_⟩
    exact z
theorem S_L_mirror_5 {kc ks : Nat} {h : Hh} {Q : PQ} {X : PX} {xs0 : Int}
    (k : Q [aL xs0] (RM WM wd) h) :
    am_V M_L_mirror kc ks 5 [aU, aU, aU] [aI xs0] (RM WM wd) h Q X := by
  refine v_i2l dL_mirror_5 ?_
  exact v_lret dL_mirror_6 rfl rfl k
theorem S_L_mirror_8 {kc ks : Nat} {h : Hh} {Q : PQ} {X : PX} 
    (k : Q [aL (-4000000000000000001)] (RM WM wd) h) :
    am_V M_L_mirror kc ks 8 [aU, aU, aU] [] (RM WM wd) h Q X := by
  refine v_ldc2l dL_mirror_8 lc_L_21 ⟨by decide, by decide⟩ ?_
  exact v_lret dL_mirror_11 rfl rfl k
theorem S_L_mirror_13 {kc ks : Nat} {h : Hh} {Q : PQ} {X : PX} 
    (k : Q [aL (-4000000000000000002)] (RM WM wd) h) :
    am_V M_L_mirror kc ks 13 [aU, aU, aU] [] (RM WM wd) h Q X := by
  refine v_ldc2l dL_mirror_13 lc_L_25 ⟨by decide, by decide⟩ ?_
  exact v_lret dL_mirror_16 rfl rfl k
theorem S_L_ahead_0 {kc ks : Nat} {h : Hh} {Q : PQ} {X : PX} {x1 : Int} {x2 : Int}
    (k : (2 ≤ kc ∧ 12 ≤ ks) ∧ am_V M_X10_ahead 2 12 0 [aR 0, aI x1, aI x2, aU] [] (RM WM wd) h (fun v ρ' h' => am_V M_L_ahead (kc - 2) (ks - 12) 6 [aU, aU, aU, aU] (v ++ []) ρ' h' Q X) (fun Ex ρ' h' => (Ex = "java/lang/IndexOutOfBoundsException" ∧ am_V M_L_ahead (kc - 2) (ks - 12) 9 [aU, aU, aU, aU] [] ρ' h' Q X) ∨ (Ex = "java/lang/IllegalArgumentException" ∧ am_V M_L_ahead (kc - 2) (ks - 12) 14 [aU, aU, aU, aU] [] ρ' h' Q X) ∨ (Ex = "java/lang/IllegalStateException" ∧ am_V M_L_ahead (kc - 2) (ks - 12) 19 [aU, aU, aU, aU] [] ρ' h' Q X))) :
    am_V M_L_ahead kc ks 0 [aR 0, aI x1, aI x2, aU] [] (RM WM wd) h Q X := by
  obtain ⟨⟨b0_1, b0_2⟩, k⟩ := k
  refine v_aload_n dL_ahead_0 rfl rfl ?_
  refine v_iload_n dL_ahead_1 rfl rfl ?_
  refine v_iload_n dL_ahead_2 rfl rfl ?_
  refine v_weak (E2 := [aU, aU, aU, aU]) ⟨Or.inr rfl, ⟨Or.inr rfl, ⟨Or.inr rfl, ⟨Or.inl rfl, trivial⟩⟩⟩⟩ ?_
  refine v_callH (j := M_X10_ahead) (As := [aI x1, aI x2]) (st := []) (a := 0) (ci := 8) (N := 10) (E0 := [aR 0, aI x1, aI x2, aU]) (q9 := (RX10, TX10, 10)) dL_ahead_3 ml_L_55 J_X10_ahead b0_1 b0_2 (Nat.le_of_ble_eq_true rfl) (Nat.le_of_ble_eq_true rfl) (List.forall_mem_cons.mpr ⟨rfl, List.forall_mem_cons.mpr ⟨rfl, List.forall_mem_cons.mpr ⟨rfl, fun _ h9 => absurd h9 List.not_mem_nil⟩⟩⟩) (Nat.le_of_ble_eq_true rfl) rfl rfl rfl rfl pn_X10_ahead rfl (v_mono k (fun _ _ _ z => z) (fun Ex ρ9 h9 z => ?_))
  rcases z with ⟨rfl, z⟩ | ⟨rfl, z⟩ | ⟨rfl, z⟩
  · refine ⟨8, 3, 1, hd_L_ahead_0, (Nat.le_of_ble_eq_true rfl), Or.inl ⟨3, dL_ahead_8, rfl, rfl⟩, ?_⟩
    exact z
  · refine ⟨13, 3, 1, hd_L_ahead_1, (Nat.le_of_ble_eq_true rfl), Or.inl ⟨3, dL_ahead_13, rfl, rfl⟩, ?_⟩
    exact z
  · refine ⟨18, 3, 1, hd_L_ahead_2, (Nat.le_of_ble_eq_true rfl), Or.inl ⟨3, dL_ahead_18, rfl, rfl⟩, ?_⟩
    exact z
theorem S_L_ahead_6 {kc ks : Nat} {h : Hh} {Q : PQ} {X : PX} {xs0 : Int}
    (k : Q [aL xs0] (RM WM wd) h) :
    am_V M_L_ahead kc ks 6 [aU, aU, aU, aU] [aI xs0] (RM WM wd) h Q X := by
  refine v_i2l dL_ahead_6 ?_
  exact v_lret dL_ahead_7 rfl rfl k
theorem S_L_ahead_9 {kc ks : Nat} {h : Hh} {Q : PQ} {X : PX} 
    (k : Q [aL (-4000000000000000001)] (RM WM wd) h) :
    am_V M_L_ahead kc ks 9 [aU, aU, aU, aU] [] (RM WM wd) h Q X := by
  refine v_ldc2l dL_ahead_9 lc_L_21 ⟨by decide, by decide⟩ ?_
  exact v_lret dL_ahead_12 rfl rfl k
theorem S_L_ahead_14 {kc ks : Nat} {h : Hh} {Q : PQ} {X : PX} 
    (k : Q [aL (-4000000000000000002)] (RM WM wd) h) :
    am_V M_L_ahead kc ks 14 [aU, aU, aU, aU] [] (RM WM wd) h Q X := by
  refine v_ldc2l dL_ahead_14 lc_L_25 ⟨by decide, by decide⟩ ?_
  exact v_lret dL_ahead_17 rfl rfl k
theorem S_L_ahead_19 {kc ks : Nat} {h : Hh} {Q : PQ} {X : PX} 
    (k : Q [aL (-4000000000000000003)] (RM WM wd) h) :
    am_V M_L_ahead kc ks 19 [aU, aU, aU, aU] [] (RM WM wd) h Q X := by
  refine v_ldc2l dL_ahead_19 lc_L_59 ⟨by decide, by decide⟩ ?_
  exact v_lret dL_ahead_22 rfl rfl k
theorem S_L_chop_0 {kc ks : Nat} {h : Hh} {Q : PQ} {X : PX} {x1 : Int}
    (k : (2 ≤ kc ∧ 12 ≤ ks) ∧ am_V M_X10_chop 2 12 0 [aR 0, aI x1, aU, aU] [] (RM WM wd) h (fun v ρ' h' => am_V M_L_chop (kc - 2) (ks - 12) 5 [aU, aU, aU] (v ++ []) ρ' h' Q X) (fun Ex ρ' h' => (Ex = "java/lang/IndexOutOfBoundsException" ∧ am_V M_L_chop (kc - 2) (ks - 12) 8 [aU, aU, aU] [] ρ' h' Q X) ∨ (Ex = "java/util/NoSuchElementException" ∧ am_V M_L_chop (kc - 2) (ks - 12) 13 [aU, aU, aU] [] ρ' h' Q X))) :
    am_V M_L_chop kc ks 0 [aR 0, aI x1, aU] [] (RM WM wd) h Q X := by
  obtain ⟨⟨b0_1, b0_2⟩, k⟩ := k
  refine v_aload_n dL_chop_0 rfl rfl ?_
  refine v_iload_n dL_chop_1 rfl rfl ?_
  refine v_weak (E2 := [aU, aU, aU]) ⟨Or.inr rfl, ⟨Or.inr rfl, ⟨Or.inl rfl, trivial⟩⟩⟩ ?_
  refine v_callH (j := M_X10_chop) (As := [aI x1]) (st := []) (a := 0) (ci := 8) (N := 10) (E0 := [aR 0, aI x1, aU, aU]) (q9 := (RX10, TX10, 10)) dL_chop_2 ml_L_61 J_X10_chop b0_1 b0_2 (Nat.le_of_ble_eq_true rfl) (Nat.le_of_ble_eq_true rfl) (List.forall_mem_cons.mpr ⟨rfl, List.forall_mem_cons.mpr ⟨rfl, fun _ h9 => absurd h9 List.not_mem_nil⟩⟩) (Nat.le_of_ble_eq_true rfl) rfl rfl rfl rfl pn_X10_chop rfl (v_mono k (fun _ _ _ z => z) (fun Ex ρ9 h9 z => ?_))
  rcases z with ⟨rfl, z⟩ | ⟨rfl, z⟩
  · refine ⟨7, 2, 1, hd_L_chop_0, (Nat.le_of_ble_eq_true rfl), Or.inl ⟨2, dL_chop_7, rfl, rfl⟩, ?_⟩
    exact z
  · refine ⟨12, 2, 1, hd_L_chop_1, (Nat.le_of_ble_eq_true rfl), Or.inl ⟨2, dL_chop_12, rfl, rfl⟩, ?_⟩
    exact z
theorem S_L_chop_5 {kc ks : Nat} {h : Hh} {Q : PQ} {X : PX} {xs0 : Int}
    (k : Q [aL xs0] (RM WM wd) h) :
    am_V M_L_chop kc ks 5 [aU, aU, aU] [aI xs0] (RM WM wd) h Q X := by
  refine v_i2l dL_chop_5 ?_
  exact v_lret dL_chop_6 rfl rfl k
theorem S_L_chop_8 {kc ks : Nat} {h : Hh} {Q : PQ} {X : PX} 
    (k : Q [aL (-4000000000000000001)] (RM WM wd) h) :
    am_V M_L_chop kc ks 8 [aU, aU, aU] [] (RM WM wd) h Q X := by
  refine v_ldc2l dL_chop_8 lc_L_21 ⟨by decide, by decide⟩ ?_
  exact v_lret dL_chop_11 rfl rfl k
theorem S_L_chop_13 {kc ks : Nat} {h : Hh} {Q : PQ} {X : PX} 
    (k : Q [aL (-4000000000000000002)] (RM WM wd) h) :
    am_V M_L_chop kc ks 13 [aU, aU, aU] [] (RM WM wd) h Q X := by
  refine v_ldc2l dL_chop_13 lc_L_25 ⟨by decide, by decide⟩ ?_
  exact v_lret dL_chop_16 rfl rfl k
theorem S_L_endAt_0 {kc ks : Nat} {h : Hh} {Q : PQ} {X : PX} {x1 : Int} {x2 : Int}
    (k : (2 ≤ kc ∧ 12 ≤ ks) ∧ am_V M_X10_endAt 2 12 0 [aR 0, aI x1, aI x2] [] (RM WM wd) h (fun v ρ' h' => am_V M_L_endAt (kc - 2) (ks - 12) 6 [aU, aU, aU, aU] (v ++ []) ρ' h' Q X) (fun Ex ρ' h' => (Ex = "java/lang/IndexOutOfBoundsException" ∧ am_V M_L_endAt (kc - 2) (ks - 12) 9 [aU, aU, aU, aU] [] ρ' h' Q X))) :
    am_V M_L_endAt kc ks 0 [aR 0, aI x1, aI x2, aU] [] (RM WM wd) h Q X := by
  obtain ⟨⟨b0_1, b0_2⟩, k⟩ := k
  refine v_aload_n dL_endAt_0 rfl rfl ?_
  refine v_iload_n dL_endAt_1 rfl rfl ?_
  refine v_iload_n dL_endAt_2 rfl rfl ?_
  refine v_weak (E2 := [aU, aU, aU, aU]) ⟨Or.inr rfl, ⟨Or.inr rfl, ⟨Or.inr rfl, ⟨Or.inl rfl, trivial⟩⟩⟩⟩ ?_
  refine v_callH (j := M_X10_endAt) (As := [aI x1, aI x2]) (st := []) (a := 0) (ci := 8) (N := 10) (E0 := [aR 0, aI x1, aI x2]) (q9 := (RX10, TX10, 10)) dL_endAt_3 ml_L_64 J_X10_endAt b0_1 b0_2 (Nat.le_of_ble_eq_true rfl) (Nat.le_of_ble_eq_true rfl) (List.forall_mem_cons.mpr ⟨rfl, List.forall_mem_cons.mpr ⟨rfl, List.forall_mem_cons.mpr ⟨rfl, fun _ h9 => absurd h9 List.not_mem_nil⟩⟩⟩) (Nat.le_of_ble_eq_true rfl) rfl rfl rfl rfl pn_X10_endAt rfl (v_mono k (fun _ _ _ z => z) (fun Ex ρ9 h9 z => ?_))
  obtain ⟨rfl, z⟩ := z
  refine ⟨8, 3, 1, hd_L_endAt_0, (Nat.le_of_ble_eq_true rfl), Or.inl ⟨3, dL_endAt_8, rfl, rfl⟩, ?_⟩
  exact z
theorem S_L_endAt_6 {kc ks : Nat} {h : Hh} {Q : PQ} {X : PX} {xs0 : Int}
    (k : Q [aL xs0] (RM WM wd) h) :
    am_V M_L_endAt kc ks 6 [aU, aU, aU, aU] [aI xs0] (RM WM wd) h Q X := by
  refine v_i2l dL_endAt_6 ?_
  exact v_lret dL_endAt_7 rfl rfl k
theorem S_L_endAt_9 {kc ks : Nat} {h : Hh} {Q : PQ} {X : PX} 
    (k : Q [aL (-4000000000000000001)] (RM WM wd) h) :
    am_V M_L_endAt kc ks 9 [aU, aU, aU, aU] [] (RM WM wd) h Q X := by
  refine v_ldc2l dL_endAt_9 lc_L_21 ⟨by decide, by decide⟩ ?_
  exact v_lret dL_endAt_12 rfl rfl k
theorem S_L_rankOf_0 {kc ks : Nat} {h : Hh} {Q : PQ} {X : PX} {x1 : Int} {x2 : Int}
    (k : (2 ≤ kc ∧ 12 ≤ ks) ∧ am_V M_X10_rankOf 2 12 0 [aR 0, aI x1, aI x2] [] (RM WM wd) h (fun v ρ' h' => am_V M_L_rankOf (kc - 2) (ks - 12) 6 [aU, aU, aU, aU] (v ++ []) ρ' h' Q X) (fun Ex ρ' h' => (Ex = "java/lang/IndexOutOfBoundsException" ∧ am_V M_L_rankOf (kc - 2) (ks - 12) 9 [aU, aU, aU, aU] [] ρ' h' Q X))) :
    am_V M_L_rankOf kc ks 0 [aR 0, aI x1, aI x2, aU] [] (RM WM wd) h Q X := by
  obtain ⟨⟨b0_1, b0_2⟩, k⟩ := k
  refine v_aload_n dL_rankOf_0 rfl rfl ?_
  refine v_iload_n dL_rankOf_1 rfl rfl ?_
  refine v_iload_n dL_rankOf_2 rfl rfl ?_
  refine v_weak (E2 := [aU, aU, aU, aU]) ⟨Or.inr rfl, ⟨Or.inr rfl, ⟨Or.inr rfl, ⟨Or.inl rfl, trivial⟩⟩⟩⟩ ?_
  refine v_callH (j := M_X10_rankOf) (As := [aI x1, aI x2]) (st := []) (a := 0) (ci := 8) (N := 10) (E0 := [aR 0, aI x1, aI x2]) (q9 := (RX10, TX10, 10)) dL_rankOf_3 ml_L_68 J_X10_rankOf b0_1 b0_2 (Nat.le_of_ble_eq_true rfl) (Nat.le_of_ble_eq_true rfl) (List.forall_mem_cons.mpr ⟨rfl, List.forall_mem_cons.mpr ⟨rfl, List.forall_mem_cons.mpr ⟨rfl, fun _ h9 => absurd h9 List.not_mem_nil⟩⟩⟩) (Nat.le_of_ble_eq_true rfl) rfl rfl rfl rfl pn_X10_rankOf rfl (v_mono k (fun _ _ _ z => z) (fun Ex ρ9 h9 z => ?_))
  obtain ⟨rfl, z⟩ := z
  refine ⟨8, 3, 1, hd_L_rankOf_0, (Nat.le_of_ble_eq_true rfl), Or.inl ⟨3, dL_rankOf_8, rfl, rfl⟩, ?_⟩
  exact z
theorem S_L_rankOf_6 {kc ks : Nat} {h : Hh} {Q : PQ} {X : PX} {xs0 : Int}
    (k : Q [aL xs0] (RM WM wd) h) :
    am_V M_L_rankOf kc ks 6 [aU, aU, aU, aU] [aI xs0] (RM WM wd) h Q X := by
  refine v_i2l dL_rankOf_6 ?_
  exact v_lret dL_rankOf_7 rfl rfl k
theorem S_L_rankOf_9 {kc ks : Nat} {h : Hh} {Q : PQ} {X : PX} 
    (k : Q [aL (-4000000000000000001)] (RM WM wd) h) :
    am_V M_L_rankOf kc ks 9 [aU, aU, aU, aU] [] (RM WM wd) h Q X := by
  refine v_ldc2l dL_rankOf_9 lc_L_21 ⟨by decide, by decide⟩ ?_
  exact v_lret dL_rankOf_12 rfl rfl k
theorem S_L_classes_0 {kc ks : Nat} {h : Hh} {Q : PQ} {X : PX} {x1 : Int} {x2 : Int}
    (k : (2 ≤ kc ∧ 12 ≤ ks) ∧ am_V M_X10_classes 2 12 0 [aR 0, aI x1, aI x2, aU] [] (RM WM wd) h (fun v ρ' h' => am_V M_L_classes (kc - 2) (ks - 12) 6 [aU, aU, aU, aU] (v ++ []) ρ' h' Q X) (fun Ex ρ' h' => (Ex = "java/lang/IndexOutOfBoundsException" ∧ am_V M_L_classes (kc - 2) (ks - 12) 9 [aU, aU, aU, aU] [] ρ' h' Q X) ∨ (Ex = "java/lang/IllegalArgumentException" ∧ am_V M_L_classes (kc - 2) (ks - 12) 14 [aU, aU, aU, aU] [] ρ' h' Q X))) :
    am_V M_L_classes kc ks 0 [aR 0, aI x1, aI x2, aU] [] (RM WM wd) h Q X := by
  obtain ⟨⟨b0_1, b0_2⟩, k⟩ := k
  refine v_aload_n dL_classes_0 rfl rfl ?_
  refine v_iload_n dL_classes_1 rfl rfl ?_
  refine v_iload_n dL_classes_2 rfl rfl ?_
  refine v_weak (E2 := [aU, aU, aU, aU]) ⟨Or.inr rfl, ⟨Or.inr rfl, ⟨Or.inr rfl, ⟨Or.inl rfl, trivial⟩⟩⟩⟩ ?_
  refine v_callH (j := M_X10_classes) (As := [aI x1, aI x2]) (st := []) (a := 0) (ci := 8) (N := 10) (E0 := [aR 0, aI x1, aI x2, aU]) (q9 := (RX10, TX10, 10)) dL_classes_3 ml_L_71 J_X10_classes b0_1 b0_2 (Nat.le_of_ble_eq_true rfl) (Nat.le_of_ble_eq_true rfl) (List.forall_mem_cons.mpr ⟨rfl, List.forall_mem_cons.mpr ⟨rfl, List.forall_mem_cons.mpr ⟨rfl, fun _ h9 => absurd h9 List.not_mem_nil⟩⟩⟩) (Nat.le_of_ble_eq_true rfl) rfl rfl rfl rfl pn_X10_classes rfl (v_mono k (fun _ _ _ z => z) (fun Ex ρ9 h9 z => ?_))
  rcases z with ⟨rfl, z⟩ | ⟨rfl, z⟩
  · refine ⟨8, 3, 1, hd_L_classes_0, (Nat.le_of_ble_eq_true rfl), Or.inl ⟨3, dL_classes_8, rfl, rfl⟩, ?_⟩
    exact z
  · refine ⟨13, 3, 1, hd_L_classes_1, (Nat.le_of_ble_eq_true rfl), Or.inl ⟨3, dL_classes_13, rfl, rfl⟩, ?_⟩
    exact z
theorem S_L_classes_6 {kc ks : Nat} {h : Hh} {Q : PQ} {X : PX} {xs0 : Int}
    (k : Q [aL xs0] (RM WM wd) h) :
    am_V M_L_classes kc ks 6 [aU, aU, aU, aU] [aI xs0] (RM WM wd) h Q X := by
  refine v_i2l dL_classes_6 ?_
  exact v_lret dL_classes_7 rfl rfl k
theorem S_L_classes_9 {kc ks : Nat} {h : Hh} {Q : PQ} {X : PX} 
    (k : Q [aL (-4000000000000000001)] (RM WM wd) h) :
    am_V M_L_classes kc ks 9 [aU, aU, aU, aU] [] (RM WM wd) h Q X := by
  refine v_ldc2l dL_classes_9 lc_L_21 ⟨by decide, by decide⟩ ?_
  exact v_lret dL_classes_12 rfl rfl k
theorem S_L_classes_14 {kc ks : Nat} {h : Hh} {Q : PQ} {X : PX} 
    (k : Q [aL (-4000000000000000002)] (RM WM wd) h) :
    am_V M_L_classes kc ks 14 [aU, aU, aU, aU] [] (RM WM wd) h Q X := by
  refine v_ldc2l dL_classes_14 lc_L_25 ⟨by decide, by decide⟩ ?_
  exact v_lret dL_classes_17 rfl rfl k
theorem S_L_rounds_0 {kc ks : Nat} {h : Hh} {Q : PQ} {X : PX} {x1 : Int}
    (k : (1 ≤ kc ∧ 6 ≤ ks) ∧ am_V M_X10_rounds 1 6 0 [aR 0, aI x1, aU, aU, aU, aU] [] (RM WM wd) h (fun v ρ' h' => am_V M_L_rounds (kc - 1) (ks - 6) 5 [aU, aU, aU] (v ++ []) ρ' h' Q X) (fun Ex ρ' h' => (Ex = "java/lang/IndexOutOfBoundsException" ∧ am_V M_L_rounds (kc - 1) (ks - 6) 8 [aU, aU, aU] [] ρ' h' Q X))) :
    am_V M_L_rounds kc ks 0 [aR 0, aI x1, aU] [] (RM WM wd) h Q X := by
  obtain ⟨⟨b0_1, b0_2⟩, k⟩ := k
  refine v_aload_n dL_rounds_0 rfl rfl ?_
  refine v_iload_n dL_rounds_1 rfl rfl ?_
  refine v_weak (E2 := [aU, aU, aU]) ⟨Or.inr rfl, ⟨Or.inr rfl, ⟨Or.inl rfl, trivial⟩⟩⟩ ?_
  refine v_callH (j := M_X10_rounds) (As := [aI x1]) (st := []) (a := 0) (ci := 8) (N := 10) (E0 := [aR 0, aI x1, aU, aU, aU, aU]) (q9 := (RX10, TX10, 10)) dL_rounds_2 ml_L_74 J_X10_rounds b0_1 b0_2 (Nat.le_of_ble_eq_true rfl) (Nat.le_of_ble_eq_true rfl) (List.forall_mem_cons.mpr ⟨rfl, List.forall_mem_cons.mpr ⟨rfl, fun _ h9 => absurd h9 List.not_mem_nil⟩⟩) (Nat.le_of_ble_eq_true rfl) rfl rfl rfl rfl pn_X10_rounds rfl (v_mono k (fun _ _ _ z => z) (fun Ex ρ9 h9 z => ?_))
  obtain ⟨rfl, z⟩ := z
  refine ⟨7, 2, 1, hd_L_rounds_0, (Nat.le_of_ble_eq_true rfl), Or.inl ⟨2, dL_rounds_7, rfl, rfl⟩, ?_⟩
  exact z
theorem S_L_rounds_5 {kc ks : Nat} {h : Hh} {Q : PQ} {X : PX} {xs0 : Int}
    (k : Q [aL xs0] (RM WM wd) h) :
    am_V M_L_rounds kc ks 5 [aU, aU, aU] [aI xs0] (RM WM wd) h Q X := by
  refine v_i2l dL_rounds_5 ?_
  exact v_lret dL_rounds_6 rfl rfl k
theorem S_L_rounds_8 {kc ks : Nat} {h : Hh} {Q : PQ} {X : PX} 
    (k : Q [aL (-4000000000000000001)] (RM WM wd) h) :
    am_V M_L_rounds kc ks 8 [aU, aU, aU] [] (RM WM wd) h Q X := by
  refine v_ldc2l dL_rounds_8 lc_L_21 ⟨by decide, by decide⟩ ?_
  exact v_lret dL_rounds_11 rfl rfl k
theorem S_L_common_0 {kc ks : Nat} {h : Hh} {Q : PQ} {X : PX} {x1 : Int} {x2 : Int}
    (k : (2 ≤ kc ∧ 12 ≤ ks) ∧ am_V M_X10_common 2 12 0 [aR 0, aI x1, aI x2] [] (RM WM wd) h (fun v ρ' h' => am_V M_L_common (kc - 2) (ks - 12) 6 [aU, aU, aU, aU] (v ++ []) ρ' h' Q X) (fun Ex ρ' h' => (Ex = "java/lang/IndexOutOfBoundsException" ∧ am_V M_L_common (kc - 2) (ks - 12) 9 [aU, aU, aU, aU] [] ρ' h' Q X))) :
    am_V M_L_common kc ks 0 [aR 0, aI x1, aI x2, aU] [] (RM WM wd) h Q X := by
  obtain ⟨⟨b0_1, b0_2⟩, k⟩ := k
  refine v_aload_n dL_common_0 rfl rfl ?_
  refine v_iload_n dL_common_1 rfl rfl ?_
  refine v_iload_n dL_common_2 rfl rfl ?_
  refine v_weak (E2 := [aU, aU, aU, aU]) ⟨Or.inr rfl, ⟨Or.inr rfl, ⟨Or.inr rfl, ⟨Or.inl rfl, trivial⟩⟩⟩⟩ ?_
  refine v_callH (j := M_X10_common) (As := [aI x1, aI x2]) (st := []) (a := 0) (ci := 8) (N := 10) (E0 := [aR 0, aI x1, aI x2]) (q9 := (RX10, TX10, 10)) dL_common_3 ml_L_77 J_X10_common b0_1 b0_2 (Nat.le_of_ble_eq_true rfl) (Nat.le_of_ble_eq_true rfl) (List.forall_mem_cons.mpr ⟨rfl, List.forall_mem_cons.mpr ⟨rfl, List.forall_mem_cons.mpr ⟨rfl, fun _ h9 => absurd h9 List.not_mem_nil⟩⟩⟩) (Nat.le_of_ble_eq_true rfl) rfl rfl rfl rfl pn_X10_common rfl (v_mono k (fun _ _ _ z => z) (fun Ex ρ9 h9 z => ?_))
  obtain ⟨rfl, z⟩ := z
  refine ⟨8, 3, 1, hd_L_common_0, (Nat.le_of_ble_eq_true rfl), Or.inl ⟨3, dL_common_8, rfl, rfl⟩, ?_⟩
  exact z
theorem S_L_common_6 {kc ks : Nat} {h : Hh} {Q : PQ} {X : PX} {xs0 : Int}
    (k : Q [aL xs0] (RM WM wd) h) :
    am_V M_L_common kc ks 6 [aU, aU, aU, aU] [aI xs0] (RM WM wd) h Q X := by
  refine v_i2l dL_common_6 ?_
  exact v_lret dL_common_7 rfl rfl k
theorem S_L_common_9 {kc ks : Nat} {h : Hh} {Q : PQ} {X : PX} 
    (k : Q [aL (-4000000000000000001)] (RM WM wd) h) :
    am_V M_L_common kc ks 9 [aU, aU, aU, aU] [] (RM WM wd) h Q X := by
  refine v_ldc2l dL_common_9 lc_L_21 ⟨by decide, by decide⟩ ?_
  exact v_lret dL_common_12 rfl rfl k
theorem S_L_shared_0 {kc ks : Nat} {h : Hh} {Q : PQ} {X : PX} {x1 : Int} {x2 : Int} {x3 : Int} {x4 : Int}
    (k : (4 ≤ kc ∧ 24 ≤ ks) ∧ am_V M_X10_shared 4 24 0 [aR 0, aI x1, aI x2, aI x3, aI x4, aU, aU] [] (RM WM wd) h (fun v ρ' h' => am_V M_L_shared (kc - 4) (ks - 24) 9 [aU, aU, aU, aU, aU, aU] (v ++ []) ρ' h' Q X) (fun Ex ρ' h' => (Ex = "java/lang/IndexOutOfBoundsException" ∧ am_V M_L_shared (kc - 4) (ks - 24) 13 [aU, aU, aU, aU, aU, aU] [] ρ' h' Q X))) :
    am_V M_L_shared kc ks 0 [aR 0, aI x1, aI x2, aI x3, aI x4, aU] [] (RM WM wd) h Q X := by
  obtain ⟨⟨b0_1, b0_2⟩, k⟩ := k
  refine v_aload_n dL_shared_0 rfl rfl ?_
  refine v_iload_n dL_shared_1 rfl rfl ?_
  refine v_iload_n dL_shared_2 rfl rfl ?_
  refine v_iload_n dL_shared_3 rfl rfl ?_
  refine v_iload dL_shared_4 rfl ?_
  refine v_weak (E2 := [aU, aU, aU, aU, aU, aU]) ⟨Or.inr rfl, ⟨Or.inr rfl, ⟨Or.inr rfl, ⟨Or.inr rfl, ⟨Or.inr rfl, ⟨Or.inl rfl, trivial⟩⟩⟩⟩⟩⟩ ?_
  refine v_callH (j := M_X10_shared) (As := [aI x1, aI x2, aI x3, aI x4]) (st := []) (a := 0) (ci := 8) (N := 10) (E0 := [aR 0, aI x1, aI x2, aI x3, aI x4, aU, aU]) (q9 := (RX10, TX10, 10)) dL_shared_6 ml_L_80 J_X10_shared b0_1 b0_2 (Nat.le_of_ble_eq_true rfl) (Nat.le_of_ble_eq_true rfl) (List.forall_mem_cons.mpr ⟨rfl, List.forall_mem_cons.mpr ⟨rfl, List.forall_mem_cons.mpr ⟨rfl, List.forall_mem_cons.mpr ⟨rfl, List.forall_mem_cons.mpr ⟨rfl, fun _ h9 => absurd h9 List.not_mem_nil⟩⟩⟩⟩⟩) (Nat.le_of_ble_eq_true rfl) rfl rfl rfl rfl pn_X10_shared rfl (v_mono k (fun _ _ _ z => z) (fun Ex ρ9 h9 z => ?_))
  obtain ⟨rfl, z⟩ := z
  refine ⟨11, 5, 2, hd_L_shared_0, (Nat.le_of_ble_eq_true rfl), Or.inr ⟨dL_shared_11, rfl⟩, ?_⟩
  exact z
theorem S_L_shared_9 {kc ks : Nat} {h : Hh} {Q : PQ} {X : PX} {xs0 : Int}
    (k : Q [aL xs0] (RM WM wd) h) :
    am_V M_L_shared kc ks 9 [aU, aU, aU, aU, aU, aU] [aI xs0] (RM WM wd) h Q X := by
  refine v_i2l dL_shared_9 ?_
  exact v_lret dL_shared_10 rfl rfl k
theorem S_L_shared_13 {kc ks : Nat} {h : Hh} {Q : PQ} {X : PX} 
    (k : Q [aL (-4000000000000000001)] (RM WM wd) h) :
    am_V M_L_shared kc ks 13 [aU, aU, aU, aU, aU, aU] [] (RM WM wd) h Q X := by
  refine v_ldc2l dL_shared_13 lc_L_21 ⟨by decide, by decide⟩ ?_
  exact v_lret dL_shared_16 rfl rfl k
theorem S_L_count_0 {kc ks : Nat} {h : Hh} {Q : PQ} {X : PX} {x1 : Int}
    (k : (2 ≤ kc ∧ 12 ≤ ks) ∧ am_V M_X10_count 2 12 0 [aR 0, aI x1, aU] [] (RM WM wd) h (fun v ρ' h' => am_V M_L_count (kc - 2) (ks - 12) 5 [aU, aU, aU] (v ++ []) ρ' h' Q X) (fun Ex ρ' h' => (Ex = "java/lang/IndexOutOfBoundsException" ∧ am_V M_L_count (kc - 2) (ks - 12) 8 [aU, aU, aU] [] ρ' h' Q X) ∨ (Ex = "java/lang/UnsupportedOperationException" ∧ am_V M_L_count (kc - 2) (ks - 12) 13 [aU, aU, aU] [] ρ' h' Q X))) :
    am_V M_L_count kc ks 0 [aR 0, aI x1, aU] [] (RM WM wd) h Q X := by
  obtain ⟨⟨b0_1, b0_2⟩, k⟩ := k
  refine v_aload_n dL_count_0 rfl rfl ?_
  refine v_iload_n dL_count_1 rfl rfl ?_
  refine v_weak (E2 := [aU, aU, aU]) ⟨Or.inr rfl, ⟨Or.inr rfl, ⟨Or.inl rfl, trivial⟩⟩⟩ ?_
  refine v_callH (j := M_X10_count) (As := [aI x1]) (st := []) (a := 0) (ci := 8) (N := 10) (E0 := [aR 0, aI x1, aU]) (q9 := (RX10, TX10, 10)) dL_count_2 ml_L_84 J_X10_count b0_1 b0_2 (Nat.le_of_ble_eq_true rfl) (Nat.le_of_ble_eq_true rfl) (List.forall_mem_cons.mpr ⟨rfl, List.forall_mem_cons.mpr ⟨rfl, fun _ h9 => absurd h9 List.not_mem_nil⟩⟩) (Nat.le_of_ble_eq_true rfl) rfl rfl rfl rfl pn_X10_count rfl (v_mono k (fun _ _ _ z => z) (fun Ex ρ9 h9 z => ?_))
  rcases z with ⟨rfl, z⟩ | ⟨rfl, z⟩
  · refine ⟨7, 2, 1, hd_L_count_0, (Nat.le_of_ble_eq_true rfl), Or.inl ⟨2, dL_count_7, rfl, rfl⟩, ?_⟩
    exact z
  · refine ⟨12, 2, 1, hd_L_count_1, (Nat.le_of_ble_eq_true rfl), Or.inl ⟨2, dL_count_12, rfl, rfl⟩, ?_⟩
    exact z
theorem S_L_count_5 {kc ks : Nat} {h : Hh} {Q : PQ} {X : PX} {xs0 : Int}
    (k : Q [aL xs0] (RM WM wd) h) :
    am_V M_L_count kc ks 5 [aU, aU, aU] [aI xs0] (RM WM wd) h Q X := by
  refine v_i2l dL_count_5 ?_
  exact v_lret dL_count_6 rfl rfl k
theorem S_L_count_8 {kc ks : Nat} {h : Hh} {Q : PQ} {X : PX} 
    (k : Q [aL (-4000000000000000001)] (RM WM wd) h) :
    am_V M_L_count kc ks 8 [aU, aU, aU] [] (RM WM wd) h Q X := by
  refine v_ldc2l dL_count_8 lc_L_21 ⟨by decide, by decide⟩ ?_
  exact v_lret dL_count_11 rfl rfl k
theorem S_L_count_13 {kc ks : Nat} {h : Hh} {Q : PQ} {X : PX} 
    (k : Q [aL (-4000000000000000002)] (RM WM wd) h) :
    am_V M_L_count kc ks 13 [aU, aU, aU] [] (RM WM wd) h Q X := by
  refine v_ldc2l dL_count_13 lc_L_25 ⟨by decide, by decide⟩ ?_
  exact v_lret dL_count_16 rfl rfl k
theorem S_L_runFrom_0 {kc ks : Nat} {h : Hh} {Q : PQ} {X : PX} {x1 : Int}
    (k : (3 ≤ kc ∧ 18 ≤ ks) ∧ am_V M_X10_runFrom 3 18 0 [aR 0, aI x1, aU] [] (RM WM wd) h (fun v ρ' h' => am_V M_L_runFrom (kc - 3) (ks - 18) 5 [aU, aU, aU] (v ++ []) ρ' h' Q X) (fun Ex ρ' h' => (Ex = "java/lang/IndexOutOfBoundsException" ∧ am_V M_L_runFrom (kc - 3) (ks - 18) 8 [aU, aU, aU] [] ρ' h' Q X) ∨ (Ex = "java/lang/UnsupportedOperationException" ∧ am_V M_L_runFrom (kc - 3) (ks - 18) 13 [aU, aU, aU] [] ρ' h' Q X) ∨ (Ex = "java/util/NoSuchElementException" ∧ am_V M_L_runFrom (kc - 3) (ks - 18) 18 [aU, aU, aU] [] ρ' h' Q X))) :
    am_V M_L_runFrom kc ks 0 [aR 0, aI x1, aU] [] (RM WM wd) h Q X := by
  obtain ⟨⟨b0_1, b0_2⟩, k⟩ := k
  refine v_aload_n dL_runFrom_0 rfl rfl ?_
  refine v_iload_n dL_runFrom_1 rfl rfl ?_
  refine v_weak (E2 := [aU, aU, aU]) ⟨Or.inr rfl, ⟨Or.inr rfl, ⟨Or.inl rfl, trivial⟩⟩⟩ ?_
  refine v_callH (j := M_X10_runFrom) (As := [aI x1]) (st := []) (a := 0) (ci := 8) (N := 10) (E0 := [aR 0, aI x1, aU]) (q9 := (RX10, TX10, 10)) dL_runFrom_2 ml_L_87 J_X10_runFrom b0_1 b0_2 (Nat.le_of_ble_eq_true rfl) (Nat.le_of_ble_eq_true rfl) (List.forall_mem_cons.mpr ⟨rfl, List.forall_mem_cons.mpr ⟨rfl, fun _ h9 => absurd h9 List.not_mem_nil⟩⟩) (Nat.le_of_ble_eq_true rfl) rfl rfl rfl rfl pn_X10_runFrom rfl (v_mono k (fun _ _ _ z => z) (fun Ex ρ9 h9 z => ?_))
  rcases z with ⟨rfl, z⟩ | ⟨rfl, z⟩ | ⟨rfl, z⟩
  · refine ⟨7, 2, 1, hd_L_runFrom_0, (Nat.le_of_ble_eq_true rfl), Or.inl ⟨2, dL_runFrom_7, rfl, rfl⟩, ?_⟩
    exact z
  · refine ⟨12, 2, 1, hd_L_runFrom_1, (Nat.le_of_ble_eq_true rfl), Or.inl ⟨2, dL_runFrom_12, rfl, rfl⟩, ?_⟩
    exact z
  · refine ⟨17, 2, 1, hd_L_runFrom_2, (Nat.le_of_ble_eq_true rfl), Or.inl ⟨2, dL_runFrom_17, rfl, rfl⟩, ?_⟩
    exact z
theorem S_L_runFrom_5 {kc ks : Nat} {h : Hh} {Q : PQ} {X : PX} {xs0 : Int}
    (k : Q [aL xs0] (RM WM wd) h) :
    am_V M_L_runFrom kc ks 5 [aU, aU, aU] [aI xs0] (RM WM wd) h Q X := by
  refine v_i2l dL_runFrom_5 ?_
  exact v_lret dL_runFrom_6 rfl rfl k
theorem S_L_runFrom_8 {kc ks : Nat} {h : Hh} {Q : PQ} {X : PX} 
    (k : Q [aL (-4000000000000000001)] (RM WM wd) h) :
    am_V M_L_runFrom kc ks 8 [aU, aU, aU] [] (RM WM wd) h Q X := by
  refine v_ldc2l dL_runFrom_8 lc_L_21 ⟨by decide, by decide⟩ ?_
  exact v_lret dL_runFrom_11 rfl rfl k
theorem S_L_runFrom_13 {kc ks : Nat} {h : Hh} {Q : PQ} {X : PX} 
    (k : Q [aL (-4000000000000000002)] (RM WM wd) h) :
    am_V M_L_runFrom kc ks 13 [aU, aU, aU] [] (RM WM wd) h Q X := by
  refine v_ldc2l dL_runFrom_13 lc_L_25 ⟨by decide, by decide⟩ ?_
  exact v_lret dL_runFrom_16 rfl rfl k
theorem S_L_runFrom_18 {kc ks : Nat} {h : Hh} {Q : PQ} {X : PX} 
    (k : Q [aL (-4000000000000000003)] (RM WM wd) h) :
    am_V M_L_runFrom kc ks 18 [aU, aU, aU] [] (RM WM wd) h Q X := by
  refine v_ldc2l dL_runFrom_18 lc_L_59 ⟨by decide, by decide⟩ ?_
  exact v_lret dL_runFrom_21 rfl rfl k
theorem S_L_standsAt_0 {kc ks : Nat} {h : Hh} {Q : PQ} {X : PX} {x1 : Int} {x2 : Int}
    (k : (3 ≤ kc ∧ 18 ≤ ks) ∧ am_V M_X10_standsAt 3 18 0 [aR 0, aI x1, aI x2, aU, aU, aU] [] (RM WM wd) h (fun v ρ' h' => am_V M_L_standsAt (kc - 3) (ks - 18) 6 [aU, aU, aU, aU] (v ++ []) ρ' h' Q X) (fun Ex ρ' h' => (Ex = "java/lang/IndexOutOfBoundsException" ∧ am_V M_L_standsAt (kc - 3) (ks - 18) 9 [aU, aU, aU, aU] [] ρ' h' Q X) ∨ (Ex = "java/lang/UnsupportedOperationException" ∧ am_V M_L_standsAt (kc - 3) (ks - 18) 14 [aU, aU, aU, aU] [] ρ' h' Q X) ∨ (Ex = "java/util/NoSuchElementException" ∧ am_V M_L_standsAt (kc - 3) (ks - 18) 19 [aU, aU, aU, aU] [] ρ' h' Q X))) :
    am_V M_L_standsAt kc ks 0 [aR 0, aI x1, aI x2, aU] [] (RM WM wd) h Q X := by
  obtain ⟨⟨b0_1, b0_2⟩, k⟩ := k
  refine v_aload_n dL_standsAt_0 rfl rfl ?_
  refine v_iload_n dL_standsAt_1 rfl rfl ?_
  refine v_iload_n dL_standsAt_2 rfl rfl ?_
  refine v_weak (E2 := [aU, aU, aU, aU]) ⟨Or.inr rfl, ⟨Or.inr rfl, ⟨Or.inr rfl, ⟨Or.inl rfl, trivial⟩⟩⟩⟩ ?_
  refine v_callH (j := M_X10_standsAt) (As := [aI x1, aI x2]) (st := []) (a := 0) (ci := 8) (N := 10) (E0 := [aR 0, aI x1, aI x2, aU, aU, aU]) (q9 := (RX10, TX10, 10)) dL_standsAt_3 ml_L_90 J_X10_standsAt b0_1 b0_2 (Nat.le_of_ble_eq_true rfl) (Nat.le_of_ble_eq_true rfl) (List.forall_mem_cons.mpr ⟨rfl, List.forall_mem_cons.mpr ⟨rfl, List.forall_mem_cons.mpr ⟨rfl, fun _ h9 => absurd h9 List.not_mem_nil⟩⟩⟩) (Nat.le_of_ble_eq_true rfl) rfl rfl rfl rfl pn_X10_standsAt rfl (v_mono k (fun _ _ _ z => z) (fun Ex ρ9 h9 z => ?_))
  rcases z with ⟨rfl, z⟩ | ⟨rfl, z⟩ | ⟨rfl, z⟩
  · refine ⟨8, 3, 1, hd_L_standsAt_0, (Nat.le_of_ble_eq_true rfl), Or.inl ⟨3, dL_standsAt_8, rfl, rfl⟩, ?_⟩
    exact z
  · refine ⟨13, 3, 1, hd_L_standsAt_1, (Nat.le_of_ble_eq_true rfl), Or.inl ⟨3, dL_standsAt_13, rfl, rfl⟩, ?_⟩
    exact z
  · refine ⟨18, 3, 1, hd_L_standsAt_2, (Nat.le_of_ble_eq_true rfl), Or.inl ⟨3, dL_standsAt_18, rfl, rfl⟩, ?_⟩
    exact z
theorem S_L_standsAt_6 {kc ks : Nat} {h : Hh} {Q : PQ} {X : PX} {xs0 : Int}
    (k : Q [aL xs0] (RM WM wd) h) :
    am_V M_L_standsAt kc ks 6 [aU, aU, aU, aU] [aI xs0] (RM WM wd) h Q X := by
  refine v_i2l dL_standsAt_6 ?_
  exact v_lret dL_standsAt_7 rfl rfl k
theorem S_L_standsAt_9 {kc ks : Nat} {h : Hh} {Q : PQ} {X : PX} 
    (k : Q [aL (-4000000000000000001)] (RM WM wd) h) :
    am_V M_L_standsAt kc ks 9 [aU, aU, aU, aU] [] (RM WM wd) h Q X := by
  refine v_ldc2l dL_standsAt_9 lc_L_21 ⟨by decide, by decide⟩ ?_
  exact v_lret dL_standsAt_12 rfl rfl k
theorem S_L_standsAt_14 {kc ks : Nat} {h : Hh} {Q : PQ} {X : PX} 
    (k : Q [aL (-4000000000000000002)] (RM WM wd) h) :
    am_V M_L_standsAt kc ks 14 [aU, aU, aU, aU] [] (RM WM wd) h Q X := by
  refine v_ldc2l dL_standsAt_14 lc_L_25 ⟨by decide, by decide⟩ ?_
  exact v_lret dL_standsAt_17 rfl rfl k
theorem S_L_standsAt_19 {kc ks : Nat} {h : Hh} {Q : PQ} {X : PX} 
    (k : Q [aL (-4000000000000000003)] (RM WM wd) h) :
    am_V M_L_standsAt kc ks 19 [aU, aU, aU, aU] [] (RM WM wd) h Q X := by
  refine v_ldc2l dL_standsAt_19 lc_L_59 ⟨by decide, by decide⟩ ?_
  exact v_lret dL_standsAt_22 rfl rfl k
theorem S_L_tail_0 {kc ks : Nat} {h : Hh} {Q : PQ} {X : PX} {x1 : Int} {x2 : Int}
    (k : (3 ≤ kc ∧ 18 ≤ ks) ∧ am_V M_X10_tail 3 18 0 [aR 0, aI x1, aI x2, aU, aU] [] (RM WM wd) h (fun v ρ' h' => am_V M_L_tail (kc - 3) (ks - 18) 6 [aU, aU, aU, aU] (v ++ []) ρ' h' Q X) (fun Ex ρ' h' => (Ex = "java/lang/IndexOutOfBoundsException" ∧ am_V M_L_tail (kc - 3) (ks - 18) 9 [aU, aU, aU, aU] [] ρ' h' Q X) ∨ (Ex = "java/lang/UnsupportedOperationException" ∧ am_V M_L_tail (kc - 3) (ks - 18) 14 [aU, aU, aU, aU] [] ρ' h' Q X) ∨ (Ex = "java/lang/IllegalArgumentException" ∧ am_V M_L_tail (kc - 3) (ks - 18) 19 [aU, aU, aU, aU] [] ρ' h' Q X))) :
    am_V M_L_tail kc ks 0 [aR 0, aI x1, aI x2, aU] [] (RM WM wd) h Q X := by
  obtain ⟨⟨b0_1, b0_2⟩, k⟩ := k
  refine v_aload_n dL_tail_0 rfl rfl ?_
  refine v_iload_n dL_tail_1 rfl rfl ?_
  refine v_iload_n dL_tail_2 rfl rfl ?_
  refine v_weak (E2 := [aU, aU, aU, aU]) ⟨Or.inr rfl, ⟨Or.inr rfl, ⟨Or.inr rfl, ⟨Or.inl rfl, trivial⟩⟩⟩⟩ ?_
  refine v_callH (j := M_X10_tail) (As := [aI x1, aI x2]) (st := []) (a := 0) (ci := 8) (N := 10) (E0 := [aR 0, aI x1, aI x2, aU, aU]) (q9 := (RX10, TX10, 10)) dL_tail_3 ml_L_93 J_X10_tail b0_1 b0_2 (Nat.le_of_ble_eq_true rfl) (Nat.le_of_ble_eq_true rfl) (List.forall_mem_cons.mpr ⟨rfl, List.forall_mem_cons.mpr ⟨rfl, List.forall_mem_cons.mpr ⟨rfl, fun _ h9 => absurd h9 List.not_mem_nil⟩⟩⟩) (Nat.le_of_ble_eq_true rfl) rfl rfl rfl rfl pn_X10_tail rfl (v_mono k (fun _ _ _ z => z) (fun Ex ρ9 h9 z => ?_))
  rcases z with ⟨rfl, z⟩ | ⟨rfl, z⟩ | ⟨rfl, z⟩
  · refine ⟨8, 3, 1, hd_L_tail_0, (Nat.le_of_ble_eq_true rfl), Or.inl ⟨3, dL_tail_8, rfl, rfl⟩, ?_⟩
    exact z
  · refine ⟨13, 3, 1, hd_L_tail_1, (Nat.le_of_ble_eq_true rfl), Or.inl ⟨3, dL_tail_13, rfl, rfl⟩, ?_⟩
    exact z
  · refine ⟨18, 3, 1, hd_L_tail_2, (Nat.le_of_ble_eq_true rfl), Or.inl ⟨3, dL_tail_18, rfl, rfl⟩, ?_⟩
    exact z
theorem S_L_tail_6 {kc ks : Nat} {h : Hh} {Q : PQ} {X : PX} {xs0 : Int}
    (k : Q [aL xs0] (RM WM wd) h) :
    am_V M_L_tail kc ks 6 [aU, aU, aU, aU] [aI xs0] (RM WM wd) h Q X := by
  refine v_i2l dL_tail_6 ?_
  exact v_lret dL_tail_7 rfl rfl k
theorem S_L_tail_9 {kc ks : Nat} {h : Hh} {Q : PQ} {X : PX} 
    (k : Q [aL (-4000000000000000001)] (RM WM wd) h) :
    am_V M_L_tail kc ks 9 [aU, aU, aU, aU] [] (RM WM wd) h Q X := by
  refine v_ldc2l dL_tail_9 lc_L_21 ⟨by decide, by decide⟩ ?_
  exact v_lret dL_tail_12 rfl rfl k
theorem S_L_tail_14 {kc ks : Nat} {h : Hh} {Q : PQ} {X : PX} 
    (k : Q [aL (-4000000000000000002)] (RM WM wd) h) :
    am_V M_L_tail kc ks 14 [aU, aU, aU, aU] [] (RM WM wd) h Q X := by
  refine v_ldc2l dL_tail_14 lc_L_25 ⟨by decide, by decide⟩ ?_
  exact v_lret dL_tail_17 rfl rfl k
theorem S_L_tail_19 {kc ks : Nat} {h : Hh} {Q : PQ} {X : PX} 
    (k : Q [aL (-4000000000000000003)] (RM WM wd) h) :
    am_V M_L_tail kc ks 19 [aU, aU, aU, aU] [] (RM WM wd) h Q X := by
  refine v_ldc2l dL_tail_19 lc_L_59 ⟨by decide, by decide⟩ ?_
  exact v_lret dL_tail_22 rfl rfl k
theorem S_L_words_0 {kc ks : Nat} {h : Hh} {Q : PQ} {X : PX} {x1 : Int}
    (k : (1 ≤ kc ∧ 6 ≤ ks) ∧ am_V M_X10_words 1 6 0 [aR 0, aI x1, aU] [] (RM WM wd) h (fun v ρ' h' => am_V M_L_words (kc - 1) (ks - 6) 5 [aU, aU, aU] (v ++ []) ρ' h' Q X) (fun Ex ρ' h' => (Ex = "java/lang/IndexOutOfBoundsException" ∧ am_V M_L_words (kc - 1) (ks - 6) 7 [aU, aU, aU] [] ρ' h' Q X))) :
    am_V M_L_words kc ks 0 [aR 0, aI x1, aU] [] (RM WM wd) h Q X := by
  obtain ⟨⟨b0_1, b0_2⟩, k⟩ := k
  refine v_aload_n dL_words_0 rfl rfl ?_
  refine v_iload_n dL_words_1 rfl rfl ?_
  refine v_weak (E2 := [aU, aU, aU]) ⟨Or.inr rfl, ⟨Or.inr rfl, ⟨Or.inl rfl, trivial⟩⟩⟩ ?_
  refine v_callH (j := M_X10_words) (As := [aI x1]) (st := []) (a := 0) (ci := 8) (N := 10) (E0 := [aR 0, aI x1, aU]) (q9 := (RX10, TX10, 10)) dL_words_2 ml_L_96 J_X10_words b0_1 b0_2 (Nat.le_of_ble_eq_true rfl) (Nat.le_of_ble_eq_true rfl) (List.forall_mem_cons.mpr ⟨rfl, List.forall_mem_cons.mpr ⟨rfl, fun _ h9 => absurd h9 List.not_mem_nil⟩⟩) (Nat.le_of_ble_eq_true rfl) rfl rfl rfl rfl pn_X10_words rfl (v_mono k (fun _ _ _ z => z) (fun Ex ρ9 h9 z => ?_))
  obtain ⟨rfl, z⟩ := z
  refine ⟨6, 2, 1, hd_L_words_0, (Nat.le_of_ble_eq_true rfl), Or.inl ⟨2, dL_words_6, rfl, rfl⟩, ?_⟩
  exact z
theorem S_L_words_5 {kc ks : Nat} {h : Hh} {Q : PQ} {X : PX} {xs0 : Int}
    (k : Q [aL xs0] (RM WM wd) h) :
    am_V M_L_words kc ks 5 [aU, aU, aU] [aL xs0] (RM WM wd) h Q X := by
  exact v_lret dL_words_5 rfl rfl k
theorem S_L_words_7 {kc ks : Nat} {h : Hh} {Q : PQ} {X : PX} 
    (k : Q [aL (-4000000000000000001)] (RM WM wd) h) :
    am_V M_L_words kc ks 7 [aU, aU, aU] [] (RM WM wd) h Q X := by
  refine v_ldc2l dL_words_7 lc_L_21 ⟨by decide, by decide⟩ ?_
  exact v_lret dL_words_10 rfl rfl k
theorem S_L_word_0 {kc ks : Nat} {h : Hh} {Q : PQ} {X : PX} {x1 : Int} {x2 : Int}
    (k : (2 ≤ kc ∧ 12 ≤ ks) ∧ am_V M_X10_word 2 12 0 [aR 0, aI x1, aI x2, aU, aU, aU] [] (RM WM wd) h (fun v ρ' h' => am_V M_L_word (kc - 2) (ks - 12) 6 [aU, aU, aU, aU] (v ++ []) ρ' h' Q X) (fun Ex ρ' h' => (Ex = "java/lang/IndexOutOfBoundsException" ∧ am_V M_L_word (kc - 2) (ks - 12) 9 [aU, aU, aU, aU] [] ρ' h' Q X) ∨ (Ex = "java/util/NoSuchElementException" ∧ am_V M_L_word (kc - 2) (ks - 12) 14 [aU, aU, aU, aU] [] ρ' h' Q X))) :
    am_V M_L_word kc ks 0 [aR 0, aI x1, aI x2, aU] [] (RM WM wd) h Q X := by
  obtain ⟨⟨b0_1, b0_2⟩, k⟩ := k
  refine v_aload_n dL_word_0 rfl rfl ?_
  refine v_iload_n dL_word_1 rfl rfl ?_
  refine v_iload_n dL_word_2 rfl rfl ?_
  refine v_weak (E2 := [aU, aU, aU, aU]) ⟨Or.inr rfl, ⟨Or.inr rfl, ⟨Or.inr rfl, ⟨Or.inl rfl, trivial⟩⟩⟩⟩ ?_
  refine v_callH (j := M_X10_word) (As := [aI x1, aI x2]) (st := []) (a := 0) (ci := 8) (N := 10) (E0 := [aR 0, aI x1, aI x2, aU, aU, aU]) (q9 := (RX10, TX10, 10)) dL_word_3 ml_L_100 J_X10_word b0_1 b0_2 (Nat.le_of_ble_eq_true rfl) (Nat.le_of_ble_eq_true rfl) (List.forall_mem_cons.mpr ⟨rfl, List.forall_mem_cons.mpr ⟨rfl, List.forall_mem_cons.mpr ⟨rfl, fun _ h9 => absurd h9 List.not_mem_nil⟩⟩⟩) (Nat.le_of_ble_eq_true rfl) rfl rfl rfl rfl pn_X10_word rfl (v_mono k (fun _ _ _ z => z) (fun Ex ρ9 h9 z => ?_))
  rcases z with ⟨rfl, z⟩ | ⟨rfl, z⟩
  · refine ⟨8, 3, 1, hd_L_word_0, (Nat.le_of_ble_eq_true rfl), Or.inl ⟨3, dL_word_8, rfl, rfl⟩, ?_⟩
    exact z
  · refine ⟨13, 3, 1, hd_L_word_1, (Nat.le_of_ble_eq_true rfl), Or.inl ⟨3, dL_word_13, rfl, rfl⟩, ?_⟩
    exact z
theorem S_L_word_6 {kc ks : Nat} {h : Hh} {Q : PQ} {X : PX} {xs0 : Int}
    (k : Q [aL xs0] (RM WM wd) h) :
    am_V M_L_word kc ks 6 [aU, aU, aU, aU] [aI xs0] (RM WM wd) h Q X := by
  refine v_i2l dL_word_6 ?_
  exact v_lret dL_word_7 rfl rfl k
theorem S_L_word_9 {kc ks : Nat} {h : Hh} {Q : PQ} {X : PX} 
    (k : Q [aL (-4000000000000000001)] (RM WM wd) h) :
    am_V M_L_word kc ks 9 [aU, aU, aU, aU] [] (RM WM wd) h Q X := by
  refine v_ldc2l dL_word_9 lc_L_21 ⟨by decide, by decide⟩ ?_
  exact v_lret dL_word_12 rfl rfl k
theorem S_L_word_14 {kc ks : Nat} {h : Hh} {Q : PQ} {X : PX} 
    (k : Q [aL (-4000000000000000002)] (RM WM wd) h) :
    am_V M_L_word kc ks 14 [aU, aU, aU, aU] [] (RM WM wd) h Q X := by
  refine v_ldc2l dL_word_14 lc_L_25 ⟨by decide, by decide⟩ ?_
  exact v_lret dL_word_17 rfl rfl k
theorem S_L_numberOf_0 {kc ks : Nat} {h : Hh} {Q : PQ} {X : PX} {x1 : Int}
    (k : (3 ≤ kc ∧ 18 ≤ ks) ∧ am_V M_X10_numberOf 3 18 0 [aR 0, aI x1, aU, aU] [] (RM WM wd) h (fun v ρ' h' => am_V M_L_numberOf (kc - 3) (ks - 18) 5 [aU, aU, aU] (v ++ []) ρ' h' Q X) (fun Ex ρ' h' => (Ex = "java/lang/IndexOutOfBoundsException" ∧ am_V M_L_numberOf (kc - 3) (ks - 18) 8 [aU, aU, aU] [] ρ' h' Q X) ∨ (Ex = "java/lang/UnsupportedOperationException" ∧ am_V M_L_numberOf (kc - 3) (ks - 18) 13 [aU, aU, aU] [] ρ' h' Q X) ∨ (Ex = "java/util/NoSuchElementException" ∧ am_V M_L_numberOf (kc - 3) (ks - 18) 18 [aU, aU, aU] [] ρ' h' Q X))) :
    am_V M_L_numberOf kc ks 0 [aR 0, aI x1, aU] [] (RM WM wd) h Q X := by
  obtain ⟨⟨b0_1, b0_2⟩, k⟩ := k
  refine v_aload_n dL_numberOf_0 rfl rfl ?_
  refine v_iload_n dL_numberOf_1 rfl rfl ?_
  refine v_weak (E2 := [aU, aU, aU]) ⟨Or.inr rfl, ⟨Or.inr rfl, ⟨Or.inl rfl, trivial⟩⟩⟩ ?_
  refine v_callH (j := M_X10_numberOf) (As := [aI x1]) (st := []) (a := 0) (ci := 8) (N := 10) (E0 := [aR 0, aI x1, aU, aU]) (q9 := (RX10, TX10, 10)) dL_numberOf_2 ml_L_103 J_X10_numberOf b0_1 b0_2 (Nat.le_of_ble_eq_true rfl) (Nat.le_of_ble_eq_true rfl) (List.forall_mem_cons.mpr ⟨rfl, List.forall_mem_cons.mpr ⟨rfl, fun _ h9 => absurd h9 List.not_mem_nil⟩⟩) (Nat.le_of_ble_eq_true rfl) rfl rfl rfl rfl pn_X10_numberOf rfl (v_mono k (fun _ _ _ z => z) (fun Ex ρ9 h9 z => ?_))
  rcases z with ⟨rfl, z⟩ | ⟨rfl, z⟩ | ⟨rfl, z⟩
  · refine ⟨7, 2, 1, hd_L_numberOf_0, (Nat.le_of_ble_eq_true rfl), Or.inl ⟨2, dL_numberOf_7, rfl, rfl⟩, ?_⟩
    exact z
  · refine ⟨12, 2, 1, hd_L_numberOf_1, (Nat.le_of_ble_eq_true rfl), Or.inl ⟨2, dL_numberOf_12, rfl, rfl⟩, ?_⟩
    exact z
  · refine ⟨17, 2, 1, hd_L_numberOf_2, (Nat.le_of_ble_eq_true rfl), Or.inl ⟨2, dL_numberOf_17, rfl, rfl⟩, ?_⟩
    exact z
theorem S_L_numberOf_5 {kc ks : Nat} {h : Hh} {Q : PQ} {X : PX} {xs0 : Int}
    (k : Q [aL xs0] (RM WM wd) h) :
    am_V M_L_numberOf kc ks 5 [aU, aU, aU] [aI xs0] (RM WM wd) h Q X := by
  refine v_i2l dL_numberOf_5 ?_
  exact v_lret dL_numberOf_6 rfl rfl k
theorem S_L_numberOf_8 {kc ks : Nat} {h : Hh} {Q : PQ} {X : PX} 
    (k : Q [aL (-4000000000000000001)] (RM WM wd) h) :
    am_V M_L_numberOf kc ks 8 [aU, aU, aU] [] (RM WM wd) h Q X := by
  refine v_ldc2l dL_numberOf_8 lc_L_21 ⟨by decide, by decide⟩ ?_
  exact v_lret dL_numberOf_11 rfl rfl k
theorem S_L_numberOf_13 {kc ks : Nat} {h : Hh} {Q : PQ} {X : PX} 
    (k : Q [aL (-4000000000000000002)] (RM WM wd) h) :
    am_V M_L_numberOf kc ks 13 [aU, aU, aU] [] (RM WM wd) h Q X := by
  refine v_ldc2l dL_numberOf_13 lc_L_25 ⟨by decide, by decide⟩ ?_
  exact v_lret dL_numberOf_16 rfl rfl k
theorem S_L_numberOf_18 {kc ks : Nat} {h : Hh} {Q : PQ} {X : PX} 
    (k : Q [aL (-4000000000000000003)] (RM WM wd) h) :
    am_V M_L_numberOf kc ks 18 [aU, aU, aU] [] (RM WM wd) h Q X := by
  refine v_ldc2l dL_numberOf_18 lc_L_59 ⟨by decide, by decide⟩ ?_
  exact v_lret dL_numberOf_21 rfl rfl k
theorem S_L_twice_0 {kc ks : Nat} {h : Hh} {Q : PQ} {X : PX} {x1 : Int}
    (k : (1 ≤ kc ∧ 6 ≤ ks) ∧ am_V M_X10_twice 1 6 0 [aR 0, aI x1] [] (RM WM wd) h (fun v ρ' h' => am_V M_L_twice (kc - 1) (ks - 6) 5 [aU, aU, aU] (v ++ []) ρ' h' Q X) (fun Ex ρ' h' => (Ex = "java/lang/IndexOutOfBoundsException" ∧ am_V M_L_twice (kc - 1) (ks - 6) 8 [aU, aU, aU] [] ρ' h' Q X))) :
    am_V M_L_twice kc ks 0 [aR 0, aI x1, aU] [] (RM WM wd) h Q X := by
  obtain ⟨⟨b0_1, b0_2⟩, k⟩ := k
  refine v_aload_n dL_twice_0 rfl rfl ?_
  refine v_iload_n dL_twice_1 rfl rfl ?_
  refine v_weak (E2 := [aU, aU, aU]) ⟨Or.inr rfl, ⟨Or.inr rfl, ⟨Or.inl rfl, trivial⟩⟩⟩ ?_
  refine v_callH (j := M_X10_twice) (As := [aI x1]) (st := []) (a := 0) (ci := 8) (N := 10) (E0 := [aR 0, aI x1]) (q9 := (RX10, TX10, 10)) dL_twice_2 ml_L_106 J_X10_twice b0_1 b0_2 (Nat.le_of_ble_eq_true rfl) (Nat.le_of_ble_eq_true rfl) (List.forall_mem_cons.mpr ⟨rfl, List.forall_mem_cons.mpr ⟨rfl, fun _ h9 => absurd h9 List.not_mem_nil⟩⟩) (Nat.le_of_ble_eq_true rfl) rfl rfl rfl rfl pn_X10_twice rfl (v_mono k (fun _ _ _ z => z) (fun Ex ρ9 h9 z => ?_))
  obtain ⟨rfl, z⟩ := z
  refine ⟨7, 2, 1, hd_L_twice_0, (Nat.le_of_ble_eq_true rfl), Or.inl ⟨2, dL_twice_7, rfl, rfl⟩, ?_⟩
  exact z
theorem S_L_twice_5 {kc ks : Nat} {h : Hh} {Q : PQ} {X : PX} {xs0 : Int}
    (k : Q [aL xs0] (RM WM wd) h) :
    am_V M_L_twice kc ks 5 [aU, aU, aU] [aI xs0] (RM WM wd) h Q X := by
  refine v_i2l dL_twice_5 ?_
  exact v_lret dL_twice_6 rfl rfl k
theorem S_L_twice_8 {kc ks : Nat} {h : Hh} {Q : PQ} {X : PX} 
    (k : Q [aL (-4000000000000000001)] (RM WM wd) h) :
    am_V M_L_twice kc ks 8 [aU, aU, aU] [] (RM WM wd) h Q X := by
  refine v_ldc2l dL_twice_8 lc_L_21 ⟨by decide, by decide⟩ ?_
  exact v_lret dL_twice_11 rfl rfl k
theorem S_L_twiceAt_0 {kc ks : Nat} {h : Hh} {Q : PQ} {X : PX} {x1 : Int}
    (k : (2 ≤ kc ∧ 12 ≤ ks) ∧ am_V M_X10_twiceAt 2 12 0 [aR 0, aI x1, aU] [] (RM WM wd) h (fun v ρ' h' => am_V M_L_twiceAt (kc - 2) (ks - 12) 5 [aU, aU, aU] (v ++ []) ρ' h' Q X) (fun Ex ρ' h' => (Ex = "java/lang/IndexOutOfBoundsException" ∧ am_V M_L_twiceAt (kc - 2) (ks - 12) 8 [aU, aU, aU] [] ρ' h' Q X) ∨ (Ex = "java/util/NoSuchElementException" ∧ am_V M_L_twiceAt (kc - 2) (ks - 12) 13 [aU, aU, aU] [] ρ' h' Q X))) :
    am_V M_L_twiceAt kc ks 0 [aR 0, aI x1, aU] [] (RM WM wd) h Q X := by
  obtain ⟨⟨b0_1, b0_2⟩, k⟩ := k
  refine v_aload_n dL_twiceAt_0 rfl rfl ?_
  refine v_iload_n dL_twiceAt_1 rfl rfl ?_
  refine v_weak (E2 := [aU, aU, aU]) ⟨Or.inr rfl, ⟨Or.inr rfl, ⟨Or.inl rfl, trivial⟩⟩⟩ ?_
  refine v_callH (j := M_X10_twiceAt) (As := [aI x1]) (st := []) (a := 0) (ci := 8) (N := 10) (E0 := [aR 0, aI x1, aU]) (q9 := (RX10, TX10, 10)) dL_twiceAt_2 ml_L_109 J_X10_twiceAt b0_1 b0_2 (Nat.le_of_ble_eq_true rfl) (Nat.le_of_ble_eq_true rfl) (List.forall_mem_cons.mpr ⟨rfl, List.forall_mem_cons.mpr ⟨rfl, fun _ h9 => absurd h9 List.not_mem_nil⟩⟩) (Nat.le_of_ble_eq_true rfl) rfl rfl rfl rfl pn_X10_twiceAt rfl (v_mono k (fun _ _ _ z => z) (fun Ex ρ9 h9 z => ?_))
  rcases z with ⟨rfl, z⟩ | ⟨rfl, z⟩
  · refine ⟨7, 2, 1, hd_L_twiceAt_0, (Nat.le_of_ble_eq_true rfl), Or.inl ⟨2, dL_twiceAt_7, rfl, rfl⟩, ?_⟩
    exact z
  · refine ⟨12, 2, 1, hd_L_twiceAt_1, (Nat.le_of_ble_eq_true rfl), Or.inl ⟨2, dL_twiceAt_12, rfl, rfl⟩, ?_⟩
    exact z
theorem S_L_twiceAt_5 {kc ks : Nat} {h : Hh} {Q : PQ} {X : PX} {xs0 : Int}
    (k : Q [aL xs0] (RM WM wd) h) :
    am_V M_L_twiceAt kc ks 5 [aU, aU, aU] [aI xs0] (RM WM wd) h Q X := by
  refine v_i2l dL_twiceAt_5 ?_
  exact v_lret dL_twiceAt_6 rfl rfl k
theorem S_L_twiceAt_8 {kc ks : Nat} {h : Hh} {Q : PQ} {X : PX} 
    (k : Q [aL (-4000000000000000001)] (RM WM wd) h) :
    am_V M_L_twiceAt kc ks 8 [aU, aU, aU] [] (RM WM wd) h Q X := by
  refine v_ldc2l dL_twiceAt_8 lc_L_21 ⟨by decide, by decide⟩ ?_
  exact v_lret dL_twiceAt_11 rfl rfl k
theorem S_L_twiceAt_13 {kc ks : Nat} {h : Hh} {Q : PQ} {X : PX} 
    (k : Q [aL (-4000000000000000002)] (RM WM wd) h) :
    am_V M_L_twiceAt kc ks 13 [aU, aU, aU] [] (RM WM wd) h Q X := by
  refine v_ldc2l dL_twiceAt_13 lc_L_25 ⟨by decide, by decide⟩ ?_
  exact v_lret dL_twiceAt_16 rfl rfl k
theorem S_L_first_0 {kc ks : Nat} {h : Hh} {Q : PQ} {X : PX} {x1 : Int} {x2 : Int}
    (k : (2 ≤ kc ∧ 12 ≤ ks) ∧ am_V M_X10_first 2 12 0 [aR 0, aI x1, aI x2] [] (RM WM wd) h (fun v ρ' h' => am_V M_L_first (kc - 2) (ks - 12) 6 [aU, aU, aU, aU] (v ++ []) ρ' h' Q X) (fun Ex ρ' h' => (Ex = "java/lang/IndexOutOfBoundsException" ∧ am_V M_L_first (kc - 2) (ks - 12) 9 [aU, aU, aU, aU] [] ρ' h' Q X))) :
    am_V M_L_first kc ks 0 [aR 0, aI x1, aI x2, aU] [] (RM WM wd) h Q X := by
  obtain ⟨⟨b0_1, b0_2⟩, k⟩ := k
  refine v_aload_n dL_first_0 rfl rfl ?_
  refine v_iload_n dL_first_1 rfl rfl ?_
  refine v_iload_n dL_first_2 rfl rfl ?_
  refine v_weak (E2 := [aU, aU, aU, aU]) ⟨Or.inr rfl, ⟨Or.inr rfl, ⟨Or.inr rfl, ⟨Or.inl rfl, trivial⟩⟩⟩⟩ ?_
  refine v_callH (j := M_X10_first) (As := [aI x1, aI x2]) (st := []) (a := 0) (ci := 8) (N := 10) (E0 := [aR 0, aI x1, aI x2]) (q9 := (RX10, TX10, 10)) dL_first_3 ml_L_112 J_X10_first b0_1 b0_2 (Nat.le_of_ble_eq_true rfl) (Nat.le_of_ble_eq_true rfl) (List.forall_mem_cons.mpr ⟨rfl, List.forall_mem_cons.mpr ⟨rfl, List.forall_mem_cons.mpr ⟨rfl, fun _ h9 => absurd h9 List.not_mem_nil⟩⟩⟩) (Nat.le_of_ble_eq_true rfl) rfl rfl rfl rfl pn_X10_first rfl (v_mono k (fun _ _ _ z => z) (fun Ex ρ9 h9 z => ?_))
  obtain ⟨rfl, z⟩ := z
  refine ⟨8, 3, 1, hd_L_first_0, (Nat.le_of_ble_eq_true rfl), Or.inl ⟨3, dL_first_8, rfl, rfl⟩, ?_⟩
  exact z
theorem S_L_first_6 {kc ks : Nat} {h : Hh} {Q : PQ} {X : PX} {xs0 : Int}
    (k : Q [aL xs0] (RM WM wd) h) :
    am_V M_L_first kc ks 6 [aU, aU, aU, aU] [aI xs0] (RM WM wd) h Q X := by
  refine v_i2l dL_first_6 ?_
  exact v_lret dL_first_7 rfl rfl k
theorem S_L_first_9 {kc ks : Nat} {h : Hh} {Q : PQ} {X : PX} 
    (k : Q [aL (-4000000000000000001)] (RM WM wd) h) :
    am_V M_L_first kc ks 9 [aU, aU, aU, aU] [] (RM WM wd) h Q X := by
  refine v_ldc2l dL_first_9 lc_L_21 ⟨by decide, by decide⟩ ?_
  exact v_lret dL_first_12 rfl rfl k
theorem S_L_last_0 {kc ks : Nat} {h : Hh} {Q : PQ} {X : PX} {x1 : Int} {x2 : Int}
    (k : (2 ≤ kc ∧ 12 ≤ ks) ∧ am_V M_X10_last 2 12 0 [aR 0, aI x1, aI x2] [] (RM WM wd) h (fun v ρ' h' => am_V M_L_last (kc - 2) (ks - 12) 6 [aU, aU, aU, aU] (v ++ []) ρ' h' Q X) (fun Ex ρ' h' => (Ex = "java/lang/IndexOutOfBoundsException" ∧ am_V M_L_last (kc - 2) (ks - 12) 9 [aU, aU, aU, aU] [] ρ' h' Q X))) :
    am_V M_L_last kc ks 0 [aR 0, aI x1, aI x2, aU] [] (RM WM wd) h Q X := by
  obtain ⟨⟨b0_1, b0_2⟩, k⟩ := k
  refine v_aload_n dL_last_0 rfl rfl ?_
  refine v_iload_n dL_last_1 rfl rfl ?_
  refine v_iload_n dL_last_2 rfl rfl ?_
  refine v_weak (E2 := [aU, aU, aU, aU]) ⟨Or.inr rfl, ⟨Or.inr rfl, ⟨Or.inr rfl, ⟨Or.inl rfl, trivial⟩⟩⟩⟩ ?_
  refine v_callH (j := M_X10_last) (As := [aI x1, aI x2]) (st := []) (a := 0) (ci := 8) (N := 10) (E0 := [aR 0, aI x1, aI x2]) (q9 := (RX10, TX10, 10)) dL_last_3 ml_L_115 J_X10_last b0_1 b0_2 (Nat.le_of_ble_eq_true rfl) (Nat.le_of_ble_eq_true rfl) (List.forall_mem_cons.mpr ⟨rfl, List.forall_mem_cons.mpr ⟨rfl, List.forall_mem_cons.mpr ⟨rfl, fun _ h9 => absurd h9 List.not_mem_nil⟩⟩⟩) (Nat.le_of_ble_eq_true rfl) rfl rfl rfl rfl pn_X10_last rfl (v_mono k (fun _ _ _ z => z) (fun Ex ρ9 h9 z => ?_))
  obtain ⟨rfl, z⟩ := z
  refine ⟨8, 3, 1, hd_L_last_0, (Nat.le_of_ble_eq_true rfl), Or.inl ⟨3, dL_last_8, rfl, rfl⟩, ?_⟩
  exact z
theorem S_L_last_6 {kc ks : Nat} {h : Hh} {Q : PQ} {X : PX} {xs0 : Int}
    (k : Q [aL xs0] (RM WM wd) h) :
    am_V M_L_last kc ks 6 [aU, aU, aU, aU] [aI xs0] (RM WM wd) h Q X := by
  refine v_i2l dL_last_6 ?_
  exact v_lret dL_last_7 rfl rfl k
theorem S_L_last_9 {kc ks : Nat} {h : Hh} {Q : PQ} {X : PX} 
    (k : Q [aL (-4000000000000000001)] (RM WM wd) h) :
    am_V M_L_last kc ks 9 [aU, aU, aU, aU] [] (RM WM wd) h Q X := by
  refine v_ldc2l dL_last_9 lc_L_21 ⟨by decide, by decide⟩ ?_
  exact v_lret dL_last_12 rfl rfl k
theorem S_L_back_0 {kc ks : Nat} {h : Hh} {Q : PQ} {X : PX} {x1 : Int} {x2 : Int}
    (k : (2 ≤ kc ∧ 12 ≤ ks) ∧ am_V M_X10_back 2 12 0 [aR 0, aI x1, aI x2] [] (RM WM wd) h (fun v ρ' h' => am_V M_L_back (kc - 2) (ks - 12) 6 [aU, aU, aU, aU] (v ++ []) ρ' h' Q X) (fun Ex ρ' h' => (Ex = "java/lang/IndexOutOfBoundsException" ∧ am_V M_L_back (kc - 2) (ks - 12) 9 [aU, aU, aU, aU] [] ρ' h' Q X))) :
    am_V M_L_back kc ks 0 [aR 0, aI x1, aI x2, aU] [] (RM WM wd) h Q X := by
  obtain ⟨⟨b0_1, b0_2⟩, k⟩ := k
  refine v_aload_n dL_back_0 rfl rfl ?_
  refine v_iload_n dL_back_1 rfl rfl ?_
  refine v_iload_n dL_back_2 rfl rfl ?_
  refine v_weak (E2 := [aU, aU, aU, aU]) ⟨Or.inr rfl, ⟨Or.inr rfl, ⟨Or.inr rfl, ⟨Or.inl rfl, trivial⟩⟩⟩⟩ ?_
  refine v_callH (j := M_X10_back) (As := [aI x1, aI x2]) (st := []) (a := 0) (ci := 8) (N := 10) (E0 := [aR 0, aI x1, aI x2]) (q9 := (RX10, TX10, 10)) dL_back_3 ml_L_118 J_X10_back b0_1 b0_2 (Nat.le_of_ble_eq_true rfl) (Nat.le_of_ble_eq_true rfl) (List.forall_mem_cons.mpr ⟨rfl, List.forall_mem_cons.mpr ⟨rfl, List.forall_mem_cons.mpr ⟨rfl, fun _ h9 => absurd h9 List.not_mem_nil⟩⟩⟩) (Nat.le_of_ble_eq_true rfl) rfl rfl rfl rfl pn_X10_back rfl (v_mono k (fun _ _ _ z => z) (fun Ex ρ9 h9 z => ?_))
  obtain ⟨rfl, z⟩ := z
  refine ⟨8, 3, 1, hd_L_back_0, (Nat.le_of_ble_eq_true rfl), Or.inl ⟨3, dL_back_8, rfl, rfl⟩, ?_⟩
  exact z
theorem S_L_back_6 {kc ks : Nat} {h : Hh} {Q : PQ} {X : PX} {xs0 : Int}
    (k : Q [aL xs0] (RM WM wd) h) :
    am_V M_L_back kc ks 6 [aU, aU, aU, aU] [aI xs0] (RM WM wd) h Q X := by
  refine v_i2l dL_back_6 ?_
  exact v_lret dL_back_7 rfl rfl k
theorem S_L_back_9 {kc ks : Nat} {h : Hh} {Q : PQ} {X : PX} 
    (k : Q [aL (-4000000000000000001)] (RM WM wd) h) :
    am_V M_L_back kc ks 9 [aU, aU, aU, aU] [] (RM WM wd) h Q X := by
  refine v_ldc2l dL_back_9 lc_L_21 ⟨by decide, by decide⟩ ?_
  exact v_lret dL_back_12 rfl rfl k
theorem S_L_column_0 {kc ks : Nat} {h : Hh} {Q : PQ} {X : PX} {x1 : Int}
    (k : (1 ≤ kc ∧ 6 ≤ ks) ∧ am_V M_X10_column 1 6 0 [aR 0, aI x1, aU, aU] [] (RM WM wd) h (fun v ρ' h' => am_V M_L_column (kc - 1) (ks - 6) 5 [aU, aU, aU] (v ++ []) ρ' h' Q X) (fun Ex ρ' h' => (Ex = "java/lang/IndexOutOfBoundsException" ∧ am_V M_L_column (kc - 1) (ks - 6) 8 [aU, aU, aU] [] ρ' h' Q X))) :
    am_V M_L_column kc ks 0 [aR 0, aI x1, aU] [] (RM WM wd) h Q X := by
  obtain ⟨⟨b0_1, b0_2⟩, k⟩ := k
  refine v_aload_n dL_column_0 rfl rfl ?_
  refine v_iload_n dL_column_1 rfl rfl ?_
  refine v_weak (E2 := [aU, aU, aU]) ⟨Or.inr rfl, ⟨Or.inr rfl, ⟨Or.inl rfl, trivial⟩⟩⟩ ?_
  refine v_callH (j := M_X10_column) (As := [aI x1]) (st := []) (a := 0) (ci := 8) (N := 10) (E0 := [aR 0, aI x1, aU, aU]) (q9 := (RX10, TX10, 10)) dL_column_2 ml_L_121 J_X10_column b0_1 b0_2 (Nat.le_of_ble_eq_true rfl) (Nat.le_of_ble_eq_true rfl) (List.forall_mem_cons.mpr ⟨rfl, List.forall_mem_cons.mpr ⟨rfl, fun _ h9 => absurd h9 List.not_mem_nil⟩⟩) (Nat.le_of_ble_eq_true rfl) rfl rfl rfl rfl pn_X10_column rfl (v_mono k (fun _ _ _ z => z) (fun Ex ρ9 h9 z => ?_))
  obtain ⟨rfl, z⟩ := z
  refine ⟨7, 2, 1, hd_L_column_0, (Nat.le_of_ble_eq_true rfl), Or.inl ⟨2, dL_column_7, rfl, rfl⟩, ?_⟩
  exact z
theorem S_L_column_5 {kc ks : Nat} {h : Hh} {Q : PQ} {X : PX} {xs0 : Int}
    (k : Q [aL xs0] (RM WM wd) h) :
    am_V M_L_column kc ks 5 [aU, aU, aU] [aI xs0] (RM WM wd) h Q X := by
  refine v_i2l dL_column_5 ?_
  exact v_lret dL_column_6 rfl rfl k
theorem S_L_column_8 {kc ks : Nat} {h : Hh} {Q : PQ} {X : PX} 
    (k : Q [aL (-4000000000000000001)] (RM WM wd) h) :
    am_V M_L_column kc ks 8 [aU, aU, aU] [] (RM WM wd) h Q X := by
  refine v_ldc2l dL_column_8 lc_L_21 ⟨by decide, by decide⟩ ?_
  exact v_lret dL_column_11 rfl rfl k
theorem S_L_undo_0 {kc ks : Nat} {h : Hh} {Q : PQ} {X : PX} 
    (k : (2 ≤ kc ∧ 12 ≤ ks) ∧ am_V M_X10_undo 2 12 0 [aR 0, aU] [] (RM WM wd) h (fun v ρ' h' => am_V M_L_undo (kc - 2) (ks - 12) 4 [aU, aU] (v ++ []) ρ' h' Q X) (fun Ex ρ' h' => (Ex = "java/lang/UnsupportedOperationException" ∧ am_V M_L_undo (kc - 2) (ks - 12) 7 [aU, aU] [] ρ' h' Q X) ∨ (Ex = "java/lang/IllegalStateException" ∧ am_V M_L_undo (kc - 2) (ks - 12) 12 [aU, aU] [] ρ' h' Q X))) :
    am_V M_L_undo kc ks 0 [aR 0, aU] [] (RM WM wd) h Q X := by
  obtain ⟨⟨b0_1, b0_2⟩, k⟩ := k
  refine v_aload_n dL_undo_0 rfl rfl ?_
  refine v_weak (E2 := [aU, aU]) ⟨Or.inr rfl, ⟨Or.inl rfl, trivial⟩⟩ ?_
  refine v_callH (j := M_X10_undo) (As := []) (st := []) (a := 0) (ci := 8) (N := 10) (E0 := [aR 0, aU]) (q9 := (RX10, TX10, 10)) dL_undo_1 ml_L_124 J_X10_undo b0_1 b0_2 (Nat.le_of_ble_eq_true rfl) (Nat.le_of_ble_eq_true rfl) (List.forall_mem_cons.mpr ⟨rfl, fun _ h9 => absurd h9 List.not_mem_nil⟩) (Nat.le_of_ble_eq_true rfl) rfl rfl rfl rfl pn_X10_undo rfl (v_mono k (fun _ _ _ z => z) (fun Ex ρ9 h9 z => ?_))
  rcases z with ⟨rfl, z⟩ | ⟨rfl, z⟩
  · refine ⟨6, 1, 1, hd_L_undo_0, (Nat.le_of_ble_eq_true rfl), Or.inl ⟨1, dL_undo_6, rfl, rfl⟩, ?_⟩
    exact z
  · refine ⟨11, 1, 1, hd_L_undo_1, (Nat.le_of_ble_eq_true rfl), Or.inl ⟨1, dL_undo_11, rfl, rfl⟩, ?_⟩
    exact z
theorem S_L_undo_4 {kc ks : Nat} {h : Hh} {Q : PQ} {X : PX} {xs0 : Int}
    (k : Q [aL xs0] (RM WM wd) h) :
    am_V M_L_undo kc ks 4 [aU, aU] [aI xs0] (RM WM wd) h Q X := by
  refine v_i2l dL_undo_4 ?_
  exact v_lret dL_undo_5 rfl rfl k
theorem S_L_undo_7 {kc ks : Nat} {h : Hh} {Q : PQ} {X : PX} 
    (k : Q [aL (-4000000000000000001)] (RM WM wd) h) :
    am_V M_L_undo kc ks 7 [aU, aU] [] (RM WM wd) h Q X := by
  refine v_ldc2l dL_undo_7 lc_L_21 ⟨by decide, by decide⟩ ?_
  exact v_lret dL_undo_10 rfl rfl k
theorem S_L_undo_12 {kc ks : Nat} {h : Hh} {Q : PQ} {X : PX} 
    (k : Q [aL (-4000000000000000002)] (RM WM wd) h) :
    am_V M_L_undo kc ks 12 [aU, aU] [] (RM WM wd) h Q X := by
  refine v_ldc2l dL_undo_12 lc_L_25 ⟨by decide, by decide⟩ ?_
  exact v_lret dL_undo_15 rfl rfl k
theorem S_L_squares_0 {kc ks : Nat} {h : Hh} {Q : PQ} {X : PX} {x1 : Int}
    (k : (1 ≤ kc ∧ 6 ≤ ks) ∧ am_V M_X10_squares 1 6 0 [aR 0, aI x1] [] (RM WM wd) h (fun v ρ' h' => am_V M_L_squares (kc - 1) (ks - 6) 5 [aU, aU, aU] (v ++ []) ρ' h' Q X) (fun Ex ρ' h' => (Ex = "java/lang/IndexOutOfBoundsException" ∧ am_V M_L_squares (kc - 1) (ks - 6) 8 [aU, aU, aU] [] ρ' h' Q X))) :
    am_V M_L_squares kc ks 0 [aR 0, aI x1, aU] [] (RM WM wd) h Q X := by
  obtain ⟨⟨b0_1, b0_2⟩, k⟩ := k
  refine v_aload_n dL_squares_0 rfl rfl ?_
  refine v_iload_n dL_squares_1 rfl rfl ?_
  refine v_weak (E2 := [aU, aU, aU]) ⟨Or.inr rfl, ⟨Or.inr rfl, ⟨Or.inl rfl, trivial⟩⟩⟩ ?_
  refine v_callH (j := M_X10_squares) (As := [aI x1]) (st := []) (a := 0) (ci := 8) (N := 10) (E0 := [aR 0, aI x1]) (q9 := (RX10, TX10, 10)) dL_squares_2 ml_L_127 J_X10_squares b0_1 b0_2 (Nat.le_of_ble_eq_true rfl) (Nat.le_of_ble_eq_true rfl) (List.forall_mem_cons.mpr ⟨rfl, List.forall_mem_cons.mpr ⟨rfl, fun _ h9 => absurd h9 List.not_mem_nil⟩⟩) (Nat.le_of_ble_eq_true rfl) rfl rfl rfl rfl pn_X10_squares rfl (v_mono k (fun _ _ _ z => z) (fun Ex ρ9 h9 z => ?_))
  obtain ⟨rfl, z⟩ := z
  refine ⟨7, 2, 1, hd_L_squares_0, (Nat.le_of_ble_eq_true rfl), Or.inl ⟨2, dL_squares_7, rfl, rfl⟩, ?_⟩
  exact z
theorem S_L_squares_5 {kc ks : Nat} {h : Hh} {Q : PQ} {X : PX} {xs0 : Int}
    (k : Q [aL xs0] (RM WM wd) h) :
    am_V M_L_squares kc ks 5 [aU, aU, aU] [aI xs0] (RM WM wd) h Q X := by
  refine v_i2l dL_squares_5 ?_
  exact v_lret dL_squares_6 rfl rfl k
theorem S_L_squares_8 {kc ks : Nat} {h : Hh} {Q : PQ} {X : PX} 
    (k : Q [aL (-4000000000000000001)] (RM WM wd) h) :
    am_V M_L_squares kc ks 8 [aU, aU, aU] [] (RM WM wd) h Q X := by
  refine v_ldc2l dL_squares_8 lc_L_21 ⟨by decide, by decide⟩ ?_
  exact v_lret dL_squares_11 rfl rfl k
theorem S_L_period_0 {kc ks : Nat} {h : Hh} {Q : PQ} {X : PX} {x1 : Int}
    (k : (2 ≤ kc ∧ 12 ≤ ks) ∧ am_V M_X10_period 2 12 0 [aR 0, aI x1] [] (RM WM wd) h (fun v ρ' h' => am_V M_L_period (kc - 2) (ks - 12) 5 [aU, aU, aU] (v ++ []) ρ' h' Q X) (fun Ex ρ' h' => (Ex = "java/lang/IndexOutOfBoundsException" ∧ am_V M_L_period (kc - 2) (ks - 12) 8 [aU, aU, aU] [] ρ' h' Q X) ∨ (Ex = "java/util/NoSuchElementException" ∧ am_V M_L_period (kc - 2) (ks - 12) 13 [aU, aU, aU] [] ρ' h' Q X))) :
    am_V M_L_period kc ks 0 [aR 0, aI x1, aU] [] (RM WM wd) h Q X := by
  obtain ⟨⟨b0_1, b0_2⟩, k⟩ := k
  refine v_aload_n dL_period_0 rfl rfl ?_
  refine v_iload_n dL_period_1 rfl rfl ?_
  refine v_weak (E2 := [aU, aU, aU]) ⟨Or.inr rfl, ⟨Or.inr rfl, ⟨Or.inl rfl, trivial⟩⟩⟩ ?_
  refine v_callH (j := M_X10_period) (As := [aI x1]) (st := []) (a := 0) (ci := 8) (N := 10) (E0 := [aR 0, aI x1]) (q9 := (RX10, TX10, 10)) dL_period_2 ml_L_130 J_X10_period b0_1 b0_2 (Nat.le_of_ble_eq_true rfl) (Nat.le_of_ble_eq_true rfl) (List.forall_mem_cons.mpr ⟨rfl, List.forall_mem_cons.mpr ⟨rfl, fun _ h9 => absurd h9 List.not_mem_nil⟩⟩) (Nat.le_of_ble_eq_true rfl) rfl rfl rfl rfl pn_X10_period rfl (v_mono k (fun _ _ _ z => z) (fun Ex ρ9 h9 z => ?_))
  rcases z with ⟨rfl, z⟩ | ⟨rfl, z⟩
  · refine ⟨7, 2, 1, hd_L_period_0, (Nat.le_of_ble_eq_true rfl), Or.inl ⟨2, dL_period_7, rfl, rfl⟩, ?_⟩
    exact z
  · refine ⟨12, 2, 1, hd_L_period_1, (Nat.le_of_ble_eq_true rfl), Or.inl ⟨2, dL_period_12, rfl, rfl⟩, ?_⟩
    exact z
theorem S_L_period_5 {kc ks : Nat} {h : Hh} {Q : PQ} {X : PX} {xs0 : Int}
    (k : Q [aL xs0] (RM WM wd) h) :
    am_V M_L_period kc ks 5 [aU, aU, aU] [aI xs0] (RM WM wd) h Q X := by
  refine v_i2l dL_period_5 ?_
  exact v_lret dL_period_6 rfl rfl k
theorem S_L_period_8 {kc ks : Nat} {h : Hh} {Q : PQ} {X : PX} 
    (k : Q [aL (-4000000000000000001)] (RM WM wd) h) :
    am_V M_L_period kc ks 8 [aU, aU, aU] [] (RM WM wd) h Q X := by
  refine v_ldc2l dL_period_8 lc_L_21 ⟨by decide, by decide⟩ ?_
  exact v_lret dL_period_11 rfl rfl k
theorem S_L_period_13 {kc ks : Nat} {h : Hh} {Q : PQ} {X : PX} 
    (k : Q [aL (-4000000000000000002)] (RM WM wd) h) :
    am_V M_L_period kc ks 13 [aU, aU, aU] [] (RM WM wd) h Q X := by
  refine v_ldc2l dL_period_13 lc_L_25 ⟨by decide, by decide⟩ ?_
  exact v_lret dL_period_16 rfl rfl k
theorem S_L_parts_0 {kc ks : Nat} {h : Hh} {Q : PQ} {X : PX} {x1 : Int}
    (k : (1 ≤ kc ∧ 6 ≤ ks) ∧ am_V M_X10_parts 1 6 0 [aR 0, aI x1] [] (RM WM wd) h (fun v ρ' h' => am_V M_L_parts (kc - 1) (ks - 6) 5 [aU, aU, aU] (v ++ []) ρ' h' Q X) (fun Ex ρ' h' => (Ex = "java/lang/IndexOutOfBoundsException" ∧ am_V M_L_parts (kc - 1) (ks - 6) 8 [aU, aU, aU] [] ρ' h' Q X))) :
    am_V M_L_parts kc ks 0 [aR 0, aI x1, aU] [] (RM WM wd) h Q X := by
  obtain ⟨⟨b0_1, b0_2⟩, k⟩ := k
  refine v_aload_n dL_parts_0 rfl rfl ?_
  refine v_iload_n dL_parts_1 rfl rfl ?_
  refine v_weak (E2 := [aU, aU, aU]) ⟨Or.inr rfl, ⟨Or.inr rfl, ⟨Or.inl rfl, trivial⟩⟩⟩ ?_
  refine v_callH (j := M_X10_parts) (As := [aI x1]) (st := []) (a := 0) (ci := 8) (N := 10) (E0 := [aR 0, aI x1]) (q9 := (RX10, TX10, 10)) dL_parts_2 ml_L_133 J_X10_parts b0_1 b0_2 (Nat.le_of_ble_eq_true rfl) (Nat.le_of_ble_eq_true rfl) (List.forall_mem_cons.mpr ⟨rfl, List.forall_mem_cons.mpr ⟨rfl, fun _ h9 => absurd h9 List.not_mem_nil⟩⟩) (Nat.le_of_ble_eq_true rfl) rfl rfl rfl rfl pn_X10_parts rfl (v_mono k (fun _ _ _ z => z) (fun Ex ρ9 h9 z => ?_))
  obtain ⟨rfl, z⟩ := z
  refine ⟨7, 2, 1, hd_L_parts_0, (Nat.le_of_ble_eq_true rfl), Or.inl ⟨2, dL_parts_7, rfl, rfl⟩, ?_⟩
  exact z
theorem S_L_parts_5 {kc ks : Nat} {h : Hh} {Q : PQ} {X : PX} {xs0 : Int}
    (k : Q [aL xs0] (RM WM wd) h) :
    am_V M_L_parts kc ks 5 [aU, aU, aU] [aI xs0] (RM WM wd) h Q X := by
  refine v_i2l dL_parts_5 ?_
  exact v_lret dL_parts_6 rfl rfl k
theorem S_L_parts_8 {kc ks : Nat} {h : Hh} {Q : PQ} {X : PX} 
    (k : Q [aL (-4000000000000000001)] (RM WM wd) h) :
    am_V M_L_parts kc ks 8 [aU, aU, aU] [] (RM WM wd) h Q X := by
  refine v_ldc2l dL_parts_8 lc_L_21 ⟨by decide, by decide⟩ ?_
  exact v_lret dL_parts_11 rfl rfl k
theorem S_L_partAt_0 {kc ks : Nat} {h : Hh} {Q : PQ} {X : PX} {x1 : Int} {x2 : Int}
    (k : (2 ≤ kc ∧ 12 ≤ ks) ∧ am_V M_X10_partAt 2 12 0 [aR 0, aI x1, aI x2, aU] [] (RM WM wd) h (fun v ρ' h' => am_V M_L_partAt (kc - 2) (ks - 12) 6 [aU, aU, aU, aU] (v ++ []) ρ' h' Q X) (fun Ex ρ' h' => (Ex = "java/lang/IndexOutOfBoundsException" ∧ am_V M_L_partAt (kc - 2) (ks - 12) 9 [aU, aU, aU, aU] [] ρ' h' Q X))) :
    am_V M_L_partAt kc ks 0 [aR 0, aI x1, aI x2, aU] [] (RM WM wd) h Q X := by
  obtain ⟨⟨b0_1, b0_2⟩, k⟩ := k
  refine v_aload_n dL_partAt_0 rfl rfl ?_
  refine v_iload_n dL_partAt_1 rfl rfl ?_
  refine v_iload_n dL_partAt_2 rfl rfl ?_
  refine v_weak (E2 := [aU, aU, aU, aU]) ⟨Or.inr rfl, ⟨Or.inr rfl, ⟨Or.inr rfl, ⟨Or.inl rfl, trivial⟩⟩⟩⟩ ?_
  refine v_callH (j := M_X10_partAt) (As := [aI x1, aI x2]) (st := []) (a := 0) (ci := 8) (N := 10) (E0 := [aR 0, aI x1, aI x2, aU]) (q9 := (RX10, TX10, 10)) dL_partAt_3 ml_L_136 J_X10_partAt b0_1 b0_2 (Nat.le_of_ble_eq_true rfl) (Nat.le_of_ble_eq_true rfl) (List.forall_mem_cons.mpr ⟨rfl, List.forall_mem_cons.mpr ⟨rfl, List.forall_mem_cons.mpr ⟨rfl, fun _ h9 => absurd h9 List.not_mem_nil⟩⟩⟩) (Nat.le_of_ble_eq_true rfl) rfl rfl rfl rfl pn_X10_partAt rfl (v_mono k (fun _ _ _ z => z) (fun Ex ρ9 h9 z => ?_))
  obtain ⟨rfl, z⟩ := z
  refine ⟨8, 3, 1, hd_L_partAt_0, (Nat.le_of_ble_eq_true rfl), Or.inl ⟨3, dL_partAt_8, rfl, rfl⟩, ?_⟩
  exact z
theorem S_L_partAt_6 {kc ks : Nat} {h : Hh} {Q : PQ} {X : PX} {xs0 : Int}
    (k : Q [aL xs0] (RM WM wd) h) :
    am_V M_L_partAt kc ks 6 [aU, aU, aU, aU] [aI xs0] (RM WM wd) h Q X := by
  refine v_i2l dL_partAt_6 ?_
  exact v_lret dL_partAt_7 rfl rfl k
theorem S_L_partAt_9 {kc ks : Nat} {h : Hh} {Q : PQ} {X : PX} 
    (k : Q [aL (-4000000000000000001)] (RM WM wd) h) :
    am_V M_L_partAt kc ks 9 [aU, aU, aU, aU] [] (RM WM wd) h Q X := by
  refine v_ldc2l dL_partAt_9 lc_L_21 ⟨by decide, by decide⟩ ?_
  exact v_lret dL_partAt_12 rfl rfl k
theorem S_L_pieces_0 {kc ks : Nat} {h : Hh} {Q : PQ} {X : PX} {x1 : Int}
    (k : (1 ≤ kc ∧ 6 ≤ ks) ∧ am_V M_X10_pieces 1 6 0 [aR 0, aI x1] [] (RM WM wd) h (fun v ρ' h' => am_V M_L_pieces (kc - 1) (ks - 6) 5 [aU, aU, aU] (v ++ []) ρ' h' Q X) (fun Ex ρ' h' => (Ex = "java/lang/IndexOutOfBoundsException" ∧ am_V M_L_pieces (kc - 1) (ks - 6) 8 [aU, aU, aU] [] ρ' h' Q X))) :
    am_V M_L_pieces kc ks 0 [aR 0, aI x1, aU] [] (RM WM wd) h Q X := by
  obtain ⟨⟨b0_1, b0_2⟩, k⟩ := k
  refine v_aload_n dL_pieces_0 rfl rfl ?_
  refine v_iload_n dL_pieces_1 rfl rfl ?_
  refine v_weak (E2 := [aU, aU, aU]) ⟨Or.inr rfl, ⟨Or.inr rfl, ⟨Or.inl rfl, trivial⟩⟩⟩ ?_
  refine v_callH (j := M_X10_pieces) (As := [aI x1]) (st := []) (a := 0) (ci := 8) (N := 10) (E0 := [aR 0, aI x1]) (q9 := (RX10, TX10, 10)) dL_pieces_2 ml_L_139 J_X10_pieces b0_1 b0_2 (Nat.le_of_ble_eq_true rfl) (Nat.le_of_ble_eq_true rfl) (List.forall_mem_cons.mpr ⟨rfl, List.forall_mem_cons.mpr ⟨rfl, fun _ h9 => absurd h9 List.not_mem_nil⟩⟩) (Nat.le_of_ble_eq_true rfl) rfl rfl rfl rfl pn_X10_pieces rfl (v_mono k (fun _ _ _ z => z) (fun Ex ρ9 h9 z => ?_))
  obtain ⟨rfl, z⟩ := z
  refine ⟨7, 2, 1, hd_L_pieces_0, (Nat.le_of_ble_eq_true rfl), Or.inl ⟨2, dL_pieces_7, rfl, rfl⟩, ?_⟩
  exact z
theorem S_L_pieces_5 {kc ks : Nat} {h : Hh} {Q : PQ} {X : PX} {xs0 : Int}
    (k : Q [aL xs0] (RM WM wd) h) :
    am_V M_L_pieces kc ks 5 [aU, aU, aU] [aI xs0] (RM WM wd) h Q X := by
  refine v_i2l dL_pieces_5 ?_
  exact v_lret dL_pieces_6 rfl rfl k
theorem S_L_pieces_8 {kc ks : Nat} {h : Hh} {Q : PQ} {X : PX} 
    (k : Q [aL (-4000000000000000001)] (RM WM wd) h) :
    am_V M_L_pieces kc ks 8 [aU, aU, aU] [] (RM WM wd) h Q X := by
  refine v_ldc2l dL_pieces_8 lc_L_21 ⟨by decide, by decide⟩ ?_
  exact v_lret dL_pieces_11 rfl rfl k
theorem S_L_fewest_0 {kc ks : Nat} {h : Hh} {Q : PQ} {X : PX} {x1 : Int}
    (k : (1 ≤ kc ∧ 6 ≤ ks) ∧ am_V M_X10_fewest 1 6 0 [aR 0, aI x1] [] (RM WM wd) h (fun v ρ' h' => am_V M_L_fewest (kc - 1) (ks - 6) 5 [aU, aU, aU] (v ++ []) ρ' h' Q X) (fun Ex ρ' h' => (Ex = "java/lang/IndexOutOfBoundsException" ∧ am_V M_L_fewest (kc - 1) (ks - 6) 8 [aU, aU, aU] [] ρ' h' Q X))) :
    am_V M_L_fewest kc ks 0 [aR 0, aI x1, aU] [] (RM WM wd) h Q X := by
  obtain ⟨⟨b0_1, b0_2⟩, k⟩ := k
  refine v_aload_n dL_fewest_0 rfl rfl ?_
  refine v_iload_n dL_fewest_1 rfl rfl ?_
  refine v_weak (E2 := [aU, aU, aU]) ⟨Or.inr rfl, ⟨Or.inr rfl, ⟨Or.inl rfl, trivial⟩⟩⟩ ?_
  refine v_callH (j := M_X10_fewest) (As := [aI x1]) (st := []) (a := 0) (ci := 8) (N := 10) (E0 := [aR 0, aI x1]) (q9 := (RX10, TX10, 10)) dL_fewest_2 ml_L_142 J_X10_fewest b0_1 b0_2 (Nat.le_of_ble_eq_true rfl) (Nat.le_of_ble_eq_true rfl) (List.forall_mem_cons.mpr ⟨rfl, List.forall_mem_cons.mpr ⟨rfl, fun _ h9 => absurd h9 List.not_mem_nil⟩⟩) (Nat.le_of_ble_eq_true rfl) rfl rfl rfl rfl pn_X10_fewest rfl (v_mono k (fun _ _ _ z => z) (fun Ex ρ9 h9 z => ?_))
  obtain ⟨rfl, z⟩ := z
  refine ⟨7, 2, 1, hd_L_fewest_0, (Nat.le_of_ble_eq_true rfl), Or.inl ⟨2, dL_fewest_7, rfl, rfl⟩, ?_⟩
  exact z
theorem S_L_fewest_5 {kc ks : Nat} {h : Hh} {Q : PQ} {X : PX} {xs0 : Int}
    (k : Q [aL xs0] (RM WM wd) h) :
    am_V M_L_fewest kc ks 5 [aU, aU, aU] [aI xs0] (RM WM wd) h Q X := by
  refine v_i2l dL_fewest_5 ?_
  exact v_lret dL_fewest_6 rfl rfl k
theorem S_L_fewest_8 {kc ks : Nat} {h : Hh} {Q : PQ} {X : PX} 
    (k : Q [aL (-4000000000000000001)] (RM WM wd) h) :
    am_V M_L_fewest kc ks 8 [aU, aU, aU] [] (RM WM wd) h Q X := by
  refine v_ldc2l dL_fewest_8 lc_L_21 ⟨by decide, by decide⟩ ?_
  exact v_lret dL_fewest_11 rfl rfl k
theorem S_L_checksum_0 {kc ks : Nat} {h : Hh} {Q : PQ} {X : PX} 
    (k : am_V M_X10_checksum 0 0 0 [aR 0, aU, aU, aU, aU, aU] [] (RM WM wd) h (fun v ρ' h' => am_V M_L_checksum kc ks 4 [aU] (v ++ []) ρ' h' Q X) X) :
    am_V M_L_checksum kc ks 0 [aR 0] [] (RM WM wd) h Q X := by
  refine v_aload_n dL_checksum_0 rfl rfl ?_
  refine v_weak (E2 := [aU]) ⟨Or.inr rfl, trivial⟩ ?_
  exact v_callV (j := M_X10_checksum) (As := []) (st := []) (E0 := [aR 0, aU, aU, aU, aU, aU]) (a := 0) (ci := 8) (N := 10) (q9 := (RX10, TX10, 10)) dL_checksum_1 ml_L_145 J_X10_checksum (Nat.zero_le _) (Nat.zero_le _) (Nat.le_of_ble_eq_true rfl) rfl (Nat.le_of_ble_eq_true rfl) (List.forall_mem_cons.mpr ⟨rfl, fun _ h9 => absurd h9 List.not_mem_nil⟩) (Nat.le_of_ble_eq_true rfl) rfl rfl rfl rfl pn_X10_checksum rfl k
theorem S_L_checksum_4 {kc ks : Nat} {h : Hh} {Q : PQ} {X : PX} {xs0 : Int}
    (k : Q [aL xs0] (RM WM wd) h) :
    am_V M_L_checksum kc ks 4 [aU] [aL xs0] (RM WM wd) h Q X := by
  exact v_lret dL_checksum_4 rfl rfl k
theorem S_L_isSound_0 {kc ks : Nat} {h : Hh} {Q : PQ} {X : PX} 
    (k : am_V M_X10_isSound 0 0 0 [aR 0, aU, aU, aU] [] (RM WM wd) h (fun v ρ' h' => am_V M_L_isSound kc ks 4 [aU] (v ++ []) ρ' h' Q X) X) :
    am_V M_L_isSound kc ks 0 [aR 0] [] (RM WM wd) h Q X := by
  refine v_aload_n dL_isSound_0 rfl rfl ?_
  refine v_weak (E2 := [aU]) ⟨Or.inr rfl, trivial⟩ ?_
  exact v_callV (j := M_X10_isSound) (As := []) (st := []) (E0 := [aR 0, aU, aU, aU]) (a := 0) (ci := 8) (N := 10) (q9 := (RX10, TX10, 10)) dL_isSound_1 ml_L_149 J_X10_isSound (Nat.zero_le _) (Nat.zero_le _) (Nat.le_of_ble_eq_true rfl) rfl (Nat.le_of_ble_eq_true rfl) (List.forall_mem_cons.mpr ⟨rfl, fun _ h9 => absurd h9 List.not_mem_nil⟩) (Nat.le_of_ble_eq_true rfl) rfl rfl rfl rfl pn_X10_isSound rfl k
theorem S_L_isSound_4 {kc ks : Nat} {h : Hh} {Q : PQ} {X : PX} {xs0 : Int}
    (k : ((xs0 = 0 → Q [aL 0] (RM WM wd) h) ∧ (xs0 ≠ 0 → Q [aL 1] (RM WM wd) h))) :
    am_V M_L_isSound kc ks 4 [aU] [aI xs0] (RM WM wd) h Q X := by
  refine v_if_eq (tgt := 11) dL_isSound_4 (by decide) (fun z => ?_) (fun z => ?_)
  · have k := k.1 z
    refine v_lconst (x := 0) dL_isSound_11 rfl ?_
    exact v_lret dL_isSound_12 rfl rfl k
  · have k := k.2 z
    refine v_lconst (x := 1) dL_isSound_7 rfl ?_
    refine v_goto (tgt := 12) dL_isSound_8 (by decide) ?_
    exact v_lret dL_isSound_12 rfl rfl k
theorem S_L_size_0 {kc ks : Nat} {h : Hh} {Q : PQ} {X : PX} 
    (k : am_V M_L_cell 0 0 0 [aR 1000, aI 0, aU, aU, aU, aU, aU] [] (RM WM wd) h (fun v ρ' h' => am_V M_L_size kc ks 5 [aR 1000] (v ++ []) ρ' h' Q X) X) :
    am_V M_L_size kc ks 0 [aR 1000] [] (RM WM wd) h Q X := by
  refine v_aload_n dL_size_0 rfl rfl ?_
  refine v_iconst dL_size_1 ⟨by decide, by decide⟩ ?_
  exact v_callS (j := M_L_cell) (As := [aR 1000, aI 0]) (st := []) (E0 := [aR 1000, aI 0, aU, aU, aU, aU, aU]) dL_size_2 ms_L_153 J_L_cell (Nat.zero_le _) (Nat.zero_le _) (Nat.le_of_ble_eq_true rfl) rfl (Nat.le_of_ble_eq_true rfl) (List.forall_mem_cons.mpr ⟨rfl, List.forall_mem_cons.mpr ⟨rfl, fun _ h9 => absurd h9 List.not_mem_nil⟩⟩) (Nat.le_of_ble_eq_true rfl) rfl pn_L_cell rfl k
theorem S_L_size_5 {kc ks : Nat} {h : Hh} {Q : PQ} {X : PX} {xs0 : Int}
    (k : am_V M_L_chosen 0 0 0 [aI xs0, aI 6] [] (RM WM wd) h (fun v ρ' h' => am_V M_L_size kc ks 10 [aR 1000] (v ++ []) ρ' h' Q X) X) :
    am_V M_L_size kc ks 5 [aR 1000] [aI xs0] (RM WM wd) h Q X := by
  refine v_bipush dL_size_5 (by decide) (by decide) ?_
  exact v_callS (j := M_L_chosen) (As := [aI xs0, aI 6]) (st := []) (E0 := [aI xs0, aI 6]) dL_size_7 ms_L_157 J_L_chosen (Nat.zero_le _) (Nat.zero_le _) (Nat.le_of_ble_eq_true rfl) rfl (Nat.le_of_ble_eq_true rfl) (List.forall_mem_cons.mpr ⟨rfl, List.forall_mem_cons.mpr ⟨rfl, fun _ h9 => absurd h9 List.not_mem_nil⟩⟩) (Nat.le_of_ble_eq_true rfl) rfl pn_L_chosen rfl k
theorem S_L_size_10 {kc ks : Nat} {h : Hh} {Q : PQ} {X : PX} {xs0 : Int}
    (k : ((xs0 ≠ 0 → am_V M_L_cell 0 0 0 [aR 1000, aI 1, aU, aU, aU, aU, aU] [] (RM WM wd) h (fun v ρ' h' => am_V M_L_size kc ks 32 [aU] (v ++ [aI 1]) ρ' h' Q X) X) ∧ (xs0 = 0 → am_V M_L_cell 0 0 0 [aR 1000, aI 1, aU, aU, aU, aU, aU] [] (RM WM wd) h (fun v ρ' h' => am_V M_L_size kc ks 18 [aU] (v ++ []) ρ' h' Q X) X))) :
    am_V M_L_size kc ks 10 [aR 1000] [aI xs0] (RM WM wd) h Q X := by
  refine v_if_ne (tgt := 26) dL_size_10 (by decide) (fun z => ?_) (fun z => ?_)
  · have k := k.1 z
    refine v_iconst dL_size_26 ⟨by decide, by decide⟩ ?_
    refine v_aload_n dL_size_27 rfl rfl ?_
    refine v_iconst dL_size_28 ⟨by decide, by decide⟩ ?_
    refine v_weak (E2 := [aU]) ⟨Or.inr rfl, trivial⟩ ?_
    exact v_callS (j := M_L_cell) (As := [aR 1000, aI 1]) (st := [aI 1]) (E0 := [aR 1000, aI 1, aU, aU, aU, aU, aU]) dL_size_29 ms_L_153 J_L_cell (Nat.zero_le _) (Nat.zero_le _) (Nat.le_of_ble_eq_true rfl) rfl (Nat.le_of_ble_eq_true rfl) (List.forall_mem_cons.mpr ⟨rfl, List.forall_mem_cons.mpr ⟨rfl, fun _ h9 => absurd h9 List.not_mem_nil⟩⟩) (Nat.le_of_ble_eq_true rfl) rfl pn_L_cell rfl k
  · have k := k.2 z
    refine v_aload_n dL_size_13 rfl rfl ?_
    refine v_iconst dL_size_14 ⟨by decide, by decide⟩ ?_
    refine v_weak (E2 := [aU]) ⟨Or.inr rfl, trivial⟩ ?_
    exact v_callS (j := M_L_cell) (As := [aR 1000, aI 1]) (st := []) (E0 := [aR 1000, aI 1, aU, aU, aU, aU, aU]) dL_size_15 ms_L_153 J_L_cell (Nat.zero_le _) (Nat.zero_le _) (Nat.le_of_ble_eq_true rfl) rfl (Nat.le_of_ble_eq_true rfl) (List.forall_mem_cons.mpr ⟨rfl, List.forall_mem_cons.mpr ⟨rfl, fun _ h9 => absurd h9 List.not_mem_nil⟩⟩) (Nat.le_of_ble_eq_true rfl) rfl pn_L_cell rfl k
theorem S_L_size_32 {kc ks : Nat} {h : Hh} {Q : PQ} {X : PX} {xs0 : Int} {xs1 : Int}
    (k : am_V M_L_chosen 0 0 0 [aI xs0, aI 24] [] (RM WM wd) h (fun v ρ' h' => am_V M_L_size kc ks 37 [aU] (v ++ [aI xs1]) ρ' h' Q X) X) :
    am_V M_L_size kc ks 32 [aU] [aI xs0, aI xs1] (RM WM wd) h Q X := by
  refine v_bipush dL_size_32 (by decide) (by decide) ?_
  exact v_callS (j := M_L_chosen) (As := [aI xs0, aI 24]) (st := [aI xs1]) (E0 := [aI xs0, aI 24]) dL_size_34 ms_L_157 J_L_chosen (Nat.zero_le _) (Nat.zero_le _) (Nat.le_of_ble_eq_true rfl) rfl (Nat.le_of_ble_eq_true rfl) (List.forall_mem_cons.mpr ⟨rfl, List.forall_mem_cons.mpr ⟨rfl, fun _ h9 => absurd h9 List.not_mem_nil⟩⟩) (Nat.le_of_ble_eq_true rfl) rfl pn_L_chosen rfl k
theorem S_L_size_18 {kc ks : Nat} {h : Hh} {Q : PQ} {X : PX} {xs0 : Int}
    (k : am_V M_L_chosen 0 0 0 [aI xs0, aI 64] [] (RM WM wd) h (fun v ρ' h' => am_V M_L_size kc ks 23 [aU] (v ++ []) ρ' h' Q X) X) :
    am_V M_L_size kc ks 18 [aU] [aI xs0] (RM WM wd) h Q X := by
  refine v_bipush dL_size_18 (by decide) (by decide) ?_
  exact v_callS (j := M_L_chosen) (As := [aI xs0, aI 64]) (st := []) (E0 := [aI xs0, aI 64]) dL_size_20 ms_L_157 J_L_chosen (Nat.zero_le _) (Nat.zero_le _) (Nat.le_of_ble_eq_true rfl) rfl (Nat.le_of_ble_eq_true rfl) (List.forall_mem_cons.mpr ⟨rfl, List.forall_mem_cons.mpr ⟨rfl, fun _ h9 => absurd h9 List.not_mem_nil⟩⟩) (Nat.le_of_ble_eq_true rfl) rfl pn_L_chosen rfl k
theorem S_L_size_37 {kc ks : Nat} {h : Hh} {Q : PQ} {X : PX} {xs0 : Int} {xs1 : Int}
    (k : ((-2147483648 ≤ ((xs1 + xs0) : Int) ∧ ((xs1 + xs0) : Int) < 2147483648)) ∧ Q [aI (xs1 + xs0)] (RM WM wd) h) :
    am_V M_L_size kc ks 37 [aU] [aI xs0, aI xs1] (RM WM wd) h Q X := by
  obtain ⟨b0_1, k⟩ := k
  refine v_iadd dL_size_37 b0_1 ?_
  exact v_iret dL_size_38 rfl rfl k
theorem S_L_size_23 {kc ks : Nat} {h : Hh} {Q : PQ} {X : PX} {xs0 : Int}
    (k : Q [aI xs0] (RM WM wd) h) :
    am_V M_L_size kc ks 23 [aU] [aI xs0] (RM WM wd) h Q X := by
  refine v_goto (tgt := 38) dL_size_23 (by decide) ?_
  exact v_iret dL_size_38 rfl rfl k
theorem S_L_signs_0 {kc ks : Nat} {h : Hh} {Q : PQ} {X : PX} 
    (k : am_V M_L_size 0 0 0 [aR 1000] [] (RM WM wd) h (fun v ρ' h' => am_V M_L_signs kc ks 4 [aR 1000, aU, aU, aU, aU, aU] (v ++ []) ρ' h' Q X) X) :
    am_V M_L_signs kc ks 0 [aR 1000, aU, aU, aU, aU, aU] [] (RM WM wd) h Q X := by
  refine v_aload_n dL_signs_0 rfl rfl ?_
  exact v_callS (j := M_L_size) (As := [aR 1000]) (st := []) (E0 := [aR 1000]) dL_signs_1 ms_L_160 J_L_size (Nat.zero_le _) (Nat.zero_le _) (Nat.le_of_ble_eq_true rfl) rfl (Nat.le_of_ble_eq_true rfl) (List.forall_mem_cons.mpr ⟨rfl, fun _ h9 => absurd h9 List.not_mem_nil⟩) (Nat.le_of_ble_eq_true rfl) rfl pn_L_size rfl k
theorem S_L_signs_4 {kc ks : Nat} {h : Hh} {Q : PQ} {X : PX} {xs0 : Int}
    (k : ((0 : Int) ≤ xs0 ∧ (xs0 : Int) ≤ 3000 ∧ (WM).length < 900 ∧ (∀ i, h (72 + WM.length) i = 0) ∧ 1 ≤ kc ∧ (xs0).toNat ≤ ks) ∧ am_V M_L_cell 0 0 0 [aR 1000, aI 2, aU, aU, aU, aU, aU] [] (RM (WM ++ [(1, (xs0).toNat)]) true) h (fun v ρ' h' => am_V M_L_signs (kc - 1 - 0) (ks - (xs0).toNat - 0) 13 [aR 1000, aR (72 + WM.length), aU, aU, aU, aU] (v ++ [aI 1]) ρ' h' Q X) X) :
    am_V M_L_signs kc ks 4 [aR 1000, aU, aU, aU, aU, aU] [aI xs0] (RM WM true) h Q X := by
  obtain ⟨⟨b0_1, b0_2, b0_3, b0_4, b0_5, b0_6⟩, k⟩ := k
  refine v_newCW dL_signs_4 ac_char b0_1 b0_2 b0_3 b0_4 b0_5 b0_6 ?_
  refine v_astore_n (E2 := [aR 1000, aR (72 + WM.length), aU, aU, aU, aU]) dL_signs_6 rfl (Nat.le_of_ble_eq_true rfl) rfl ?_
  refine v_iconst dL_signs_7 ⟨by decide, by decide⟩ ?_
  refine v_aload_n dL_signs_8 rfl rfl ?_
  refine v_iconst dL_signs_9 ⟨by decide, by decide⟩ ?_
  exact v_callS (j := M_L_cell) (As := [aR 1000, aI 2]) (st := [aI 1]) (E0 := [aR 1000, aI 2, aU, aU, aU, aU, aU]) dL_signs_10 ms_L_153 J_L_cell (Nat.zero_le _) (Nat.zero_le _) (Nat.le_of_ble_eq_true rfl) rfl (Nat.le_of_ble_eq_true rfl) (List.forall_mem_cons.mpr ⟨rfl, List.forall_mem_cons.mpr ⟨rfl, fun _ h9 => absurd h9 List.not_mem_nil⟩⟩) (Nat.le_of_ble_eq_true rfl) rfl pn_L_cell rfl k
theorem S_L_signs_13 {kc ks : Nat} {h : Hh} {Q : PQ} {X : PX} {a1 n1 : Nat} (q1 : (RM WM wd).1[a1]? = some (1, n1)) {xs0 : Int} {xs1 : Int}
    (k : am_V M_L_chosen 0 0 0 [aI xs0, aI 4] [] (RM WM wd) h (fun v ρ' h' => am_V M_L_signs kc ks 17 [aR 1000, aR a1, aU, aU, aU, aU] (v ++ [aI xs1]) ρ' h' Q X) X) :
    am_V M_L_signs kc ks 13 [aR 1000, aR a1, aU, aU, aU, aU] [aI xs0, aI xs1] (RM WM wd) h Q X := by
  refine v_iconst dL_signs_13 ⟨by decide, by decide⟩ ?_
  exact v_callS (j := M_L_chosen) (As := [aI xs0, aI 4]) (st := [aI xs1]) (E0 := [aI xs0, aI 4]) dL_signs_14 ms_L_157 J_L_chosen (Nat.zero_le _) (Nat.zero_le _) (Nat.le_of_ble_eq_true rfl) rfl (Nat.le_of_ble_eq_true rfl) (List.forall_mem_cons.mpr ⟨rfl, List.forall_mem_cons.mpr ⟨rfl, fun _ h9 => absurd h9 List.not_mem_nil⟩⟩) (Nat.le_of_ble_eq_true rfl) rfl pn_L_chosen rfl k
theorem S_L_signs_17 {kc ks : Nat} {h : Hh} {Q : PQ} {X : PX} {a1 n1 : Nat} (q1 : (RM WM wd).1[a1]? = some (1, n1)) {xs0 : Int} {xs1 : Int}
    (k : ((-2147483648 ≤ ((xs1 + xs0) : Int) ∧ ((xs1 + xs0) : Int) < 2147483648)) ∧ am_V M_L_cell 0 0 0 [aR 1000, aI 3, aU, aU, aU, aU, aU] [] (RM WM wd) h (fun v ρ' h' => am_V M_L_signs kc ks 25 [aR 1000, aR a1, aI (xs1 + xs0), aU, aU, aU] (v ++ [aI 1]) ρ' h' Q X) X) :
    am_V M_L_signs kc ks 17 [aR 1000, aR a1, aU, aU, aU, aU] [aI xs0, aI xs1] (RM WM wd) h Q X := by
  obtain ⟨b0_1, k⟩ := k
  refine v_iadd dL_signs_17 b0_1 ?_
  refine v_istore_n (E2 := [aR 1000, aR a1, aI (xs1 + xs0), aU, aU, aU]) dL_signs_18 rfl (Nat.le_of_ble_eq_true rfl) rfl ?_
  refine v_iconst dL_signs_19 ⟨by decide, by decide⟩ ?_
  refine v_aload_n dL_signs_20 rfl rfl ?_
  refine v_iconst dL_signs_21 ⟨by decide, by decide⟩ ?_
  exact v_callS (j := M_L_cell) (As := [aR 1000, aI 3]) (st := [aI 1]) (E0 := [aR 1000, aI 3, aU, aU, aU, aU, aU]) dL_signs_22 ms_L_153 J_L_cell (Nat.zero_le _) (Nat.zero_le _) (Nat.le_of_ble_eq_true rfl) rfl (Nat.le_of_ble_eq_true rfl) (List.forall_mem_cons.mpr ⟨rfl, List.forall_mem_cons.mpr ⟨rfl, fun _ h9 => absurd h9 List.not_mem_nil⟩⟩) (Nat.le_of_ble_eq_true rfl) rfl pn_L_cell rfl k
theorem S_L_signs_25 {kc ks : Nat} {h : Hh} {Q : PQ} {X : PX} {a1 n1 : Nat} (q1 : (RM WM wd).1[a1]? = some (1, n1)) {x2 : Int} {xs0 : Int} {xs1 : Int}
    (k : am_V M_L_chosen 0 0 0 [aI xs0, aI 9] [] (RM WM wd) h (fun v ρ' h' => am_V M_L_signs kc ks 30 [aR 1000, aR a1, aI x2, aU, aU, aU] (v ++ [aI xs1]) ρ' h' Q X) X) :
    am_V M_L_signs kc ks 25 [aR 1000, aR a1, aI x2, aU, aU, aU] [aI xs0, aI xs1] (RM WM wd) h Q X := by
  refine v_bipush dL_signs_25 (by decide) (by decide) ?_
  exact v_callS (j := M_L_chosen) (As := [aI xs0, aI 9]) (st := [aI xs1]) (E0 := [aI xs0, aI 9]) dL_signs_27 ms_L_157 J_L_chosen (Nat.zero_le _) (Nat.zero_le _) (Nat.le_of_ble_eq_true rfl) rfl (Nat.le_of_ble_eq_true rfl) (List.forall_mem_cons.mpr ⟨rfl, List.forall_mem_cons.mpr ⟨rfl, fun _ h9 => absurd h9 List.not_mem_nil⟩⟩) (Nat.le_of_ble_eq_true rfl) rfl pn_L_chosen rfl k
theorem S_L_signs_30 {kc ks : Nat} {h : Hh} {Q : PQ} {X : PX} {a1 n1 : Nat} (q1 : (RM WM wd).1[a1]? = some (1, n1)) {x2 : Int} {xs0 : Int} {xs1 : Int}
    (k : ((-2147483648 ≤ ((xs1 + xs0) : Int) ∧ ((xs1 + xs0) : Int) < 2147483648)) ∧ am_V M_L_signs kc ks 35 [aR 1000, aR a1, aI x2, aI (xs1 + xs0), aI 0, aU] [] (RM WM wd) h Q X) :
    am_V M_L_signs kc ks 30 [aR 1000, aR a1, aI x2, aU, aU, aU] [aI xs0, aI xs1] (RM WM wd) h Q X := by
  obtain ⟨b0_1, k⟩ := k
  refine v_iadd dL_signs_30 b0_1 ?_
  refine v_istore_n (E2 := [aR 1000, aR a1, aI x2, aI (xs1 + xs0), aU, aU]) dL_signs_31 rfl (Nat.le_of_ble_eq_true rfl) rfl ?_
  refine v_iconst dL_signs_32 ⟨by decide, by decide⟩ ?_
  refine v_istore (E2 := [aR 1000, aR a1, aI x2, aI (xs1 + xs0), aI 0, aU]) dL_signs_33 (Nat.le_of_ble_eq_true rfl) rfl ?_
  exact k
theorem S_L_signs_35 {kc ks : Nat} {h : Hh} {Q : PQ} {X : PX} {a1 n1 : Nat} (q1 : (RM WM wd).1[a1]? = some (1, n1)) {x2 : Int} {x3 : Int} {x4 : Int}
    (k : ((-2147483648 ≤ ((n1 : Nat) : Int) ∧ ((n1 : Nat) : Int) < 2147483648)) ∧ ((((n1 : Nat) : Int) ≤ x4 → Q [aR a1] (RM WM wd) h) ∧ (x4 < ((n1 : Nat) : Int) → ((-2147483648 ≤ ((4 + x4) : Int) ∧ ((4 + x4) : Int) < 2147483648)) ∧ am_V M_L_cell 0 0 0 [aR 1000, aI (4 + x4), aU, aU, aU, aU, aU] [] (RM WM wd) h (fun v ρ' h' => am_V M_L_signs kc ks 50 [aR 1000, aR a1, aI x2, aI x3, aI x4, aU] (v ++ []) ρ' h' Q X) X))) :
    am_V M_L_signs kc ks 35 [aR 1000, aR a1, aI x2, aI x3, aI x4, aU] [] (RM WM wd) h Q X := by
  obtain ⟨b0_1, k⟩ := k
  refine v_iload dL_signs_35 rfl ?_
  refine v_aload_n dL_signs_37 rfl rfl ?_
  refine v_alen (N := ((n1 : Nat) : Int)) dL_signs_38 q1 (by decide) rfl b0_1 ?_
  refine v_icmp_ge (tgt := 106) dL_signs_39 (by decide) (fun z => ?_) (fun z => ?_)
  · have k := k.1 z
    refine v_aload_n dL_signs_106 rfl rfl ?_
    exact v_aretA dL_signs_107 rfl rfl k
  · have k := k.2 z
    obtain ⟨b1_1, k⟩ := k
    refine v_aload_n dL_signs_42 rfl rfl ?_
    refine v_iconst dL_signs_43 ⟨by decide, by decide⟩ ?_
    refine v_iload dL_signs_44 rfl ?_
    refine v_iadd dL_signs_46 b1_1 ?_
    exact v_callS (j := M_L_cell) (As := [aR 1000, aI (4 + x4)]) (st := []) (E0 := [aR 1000, aI (4 + x4), aU, aU, aU, aU, aU]) dL_signs_47 ms_L_153 J_L_cell (Nat.zero_le _) (Nat.zero_le _) (Nat.le_of_ble_eq_true rfl) rfl (Nat.le_of_ble_eq_true rfl) (List.forall_mem_cons.mpr ⟨rfl, List.forall_mem_cons.mpr ⟨rfl, fun _ h9 => absurd h9 List.not_mem_nil⟩⟩) (Nat.le_of_ble_eq_true rfl) rfl pn_L_cell rfl k
theorem S_L_signs_50 {kc ks : Nat} {h : Hh} {Q : PQ} {X : PX} {a1 n1 : Nat} (q1 : (RM WM wd).1[a1]? = some (1, n1)) {x2 : Int} {x3 : Int} {x4 : Int} {xs0 : Int}
    (k : ((-2147483648 ≤ ((31 * x4) : Int) ∧ ((31 * x4) : Int) < 2147483648)) ∧ (∀ z1 : Int, am_i z1 → am_V M_L_chosen 0 0 0 [aI z1, aI 1000] [] (RM WM wd) h (fun v ρ' h' => am_V M_L_signs kc ks 62 [aR 1000, aR a1, aI x2, aI x3, aI x4, aU] (v ++ []) ρ' h' Q X) X)) :
    am_V M_L_signs kc ks 50 [aR 1000, aR a1, aI x2, aI x3, aI x4, aU] [aI xs0] (RM WM wd) h Q X := by
  obtain ⟨b0_1, k⟩ := k
  refine v_bipush dL_signs_50 (by decide) (by decide) ?_
  refine v_iload dL_signs_52 rfl ?_
  refine v_imul dL_signs_54 b0_1 ?_
  refine v_iaddA dL_signs_55 (fun z1 iz1 => ?_)
  have k := k z1 iz1
  refine v_sipush dL_signs_56 (by decide) (by decide) ?_
  exact v_callS (j := M_L_chosen) (As := [aI z1, aI 1000]) (st := []) (E0 := [aI z1, aI 1000]) dL_signs_59 ms_L_157 J_L_chosen (Nat.zero_le _) (Nat.zero_le _) (Nat.le_of_ble_eq_true rfl) rfl (Nat.le_of_ble_eq_true rfl) (List.forall_mem_cons.mpr ⟨rfl, List.forall_mem_cons.mpr ⟨rfl, fun _ h9 => absurd h9 List.not_mem_nil⟩⟩) (Nat.le_of_ble_eq_true rfl) rfl pn_L_chosen rfl k
theorem S_L_signs_62 {kc ks : Nat} {h : Hh} {Q : PQ} {X : PX} {a1 n1 : Nat} (q1 : (RM WM wd).1[a1]? = some (1, n1)) {x2 : Int} {x3 : Int} {x4 : Int} {xs0 : Int}
    (k : ((x4 < x3 → ((0 : Int) ≤ xs0 ∧ (0 : Int) < 3 ∧ (0 : Int) ≤ (xs0 / 3) ∧ (0 : Int) < x2 ∧ (-2147483648 ≤ ((97 + ((xs0 / 3) % x2)) : Int) ∧ ((97 + ((xs0 / 3) % x2)) : Int) < 2147483648) ∧ (0 : Int) ≤ x4 ∧ (x4 : Int) < ((n1 : Nat) : Int) ∧ (-2147483648 ≤ ((x4 + 1) : Int) ∧ ((x4 + 1) : Int) < 2147483648)) ∧ am_V M_L_signs kc ks 35 [aR 1000, aR a1, aI x2, aI x3, aI (x4 + 1), aU] [] (RM WM wd) (am_st h a1 x4 (((97 + ((xs0 / 3) % x2)) % 65536) % 65536)) Q X) ∧ (x3 ≤ x4 → ((0 : Int) ≤ xs0 ∧ (0 : Int) < 3) ∧ (((xs0 % 3) ≤ 0 → ((0 : Int) ≤ xs0 ∧ (0 : Int) < 3 ∧ (0 : Int) ≤ (xs0 / 3) ∧ (0 : Int) < x2 ∧ (-2147483648 ≤ ((97 + ((xs0 / 3) % x2)) : Int) ∧ ((97 + ((xs0 / 3) % x2)) : Int) < 2147483648) ∧ (0 : Int) ≤ x4 ∧ (x4 : Int) < ((n1 : Nat) : Int) ∧ (-2147483648 ≤ ((x4 + 1) : Int) ∧ ((x4 + 1) : Int) < 2147483648)) ∧ am_V M_L_signs kc ks 35 [aR 1000, aR a1, aI x2, aI x3, aI (x4 + 1), aU] [] (RM WM wd) (am_st h a1 x4 (((97 + ((xs0 / 3) % x2)) % 65536) % 65536)) Q X) ∧ (0 < (xs0 % 3) → ((-2147483648 ≤ ((x4 - x3) : Int) ∧ ((x4 - x3) : Int) < 2147483648) ∧ (0 : Int) ≤ (x4 - x3) ∧ ((x4 - x3) : Int) < ((n1 : Nat) : Int) ∧ (0 : Int) ≤ x4 ∧ (x4 : Int) < ((n1 : Nat) : Int) ∧ (-2147483648 ≤ ((x4 + 1) : Int) ∧ ((x4 + 1) : Int) < 2147483648)) ∧ am_V M_L_signs kc ks 35 [aR 1000, aR a1, aI x2, aI x3, aI (x4 + 1), aU] [] (RM WM wd) (am_st h a1 x4 ((h a1 (x4 - x3)) % 65536)) Q X))))) :
    am_V M_L_signs kc ks 62 [aR 1000, aR a1, aI x2, aI x3, aI x4, aU] [aI xs0] (RM WM wd) h Q X := by
  refine v_istore (E2 := [aR 1000, aR a1, aI x2, aI x3, aI x4, aI xs0]) dL_signs_62 (Nat.le_of_ble_eq_true rfl) rfl ?_
  refine v_aload_n dL_signs_64 rfl rfl ?_
  refine v_iload dL_signs_65 rfl ?_
  refine v_iload dL_signs_67 rfl ?_
  refine v_iload_n dL_signs_69 rfl rfl ?_
  refine v_icmp_lt (tgt := 89) dL_signs_70 (by decide) (fun z => ?_) (fun z => ?_)
  · have k := k.1 z
    obtain ⟨⟨b1_1, b1_2, b1_3, b1_4, b1_5, b1_6, b1_7, b1_8⟩, k⟩ := k
    refine v_bipush dL_signs_89 (by decide) (by decide) ?_
    refine v_iload dL_signs_91 rfl ?_
    refine v_iconst dL_signs_93 ⟨by decide, by decide⟩ ?_
    refine v_idiv dL_signs_94 b1_1 b1_2 ?_
    refine v_iload_n dL_signs_95 rfl rfl ?_
    refine v_irem dL_signs_96 b1_3 b1_4 ?_
    refine v_iadd dL_signs_97 b1_5 ?_
    refine v_i2c dL_signs_98 ?_
    refine v_cast dL_signs_99 q1 b1_6 b1_7 ?_
    refine v_iinc (E2 := [aR 1000, aR a1, aI x2, aI x3, aI (x4 + 1), aI xs0]) dL_signs_100 rfl b1_8 rfl ?_
    refine v_goto (tgt := 35) dL_signs_103 (by decide) ?_
    refine v_weak (E2 := [aR 1000, aR a1, aI x2, aI x3, aI (x4 + 1), aU]) ⟨Or.inl rfl, ⟨Or.inl rfl, ⟨Or.inl rfl, ⟨Or.inl rfl, ⟨Or.inl rfl, ⟨Or.inr rfl, trivial⟩⟩⟩⟩⟩⟩ ?_
    exact k
  · have k := k.2 z
    obtain ⟨⟨b1_1, b1_2⟩, k⟩ := k
    refine v_iload dL_signs_73 rfl ?_
    refine v_iconst dL_signs_75 ⟨by decide, by decide⟩ ?_
    refine v_irem dL_signs_76 b1_1 b1_2 ?_
    refine v_if_le (tgt := 89) dL_signs_77 (by decide) (fun z => ?_) (fun z => ?_)
    · have k := k.1 z
      obtain ⟨⟨b2_1, b2_2, b2_3, b2_4, b2_5, b2_6, b2_7, b2_8⟩, k⟩ := k
      refine v_bipush dL_signs_89 (by decide) (by decide) ?_
      refine v_iload dL_signs_91 rfl ?_
      refine v_iconst dL_signs_93 ⟨by decide, by decide⟩ ?_
      refine v_idiv dL_signs_94 b2_1 b2_2 ?_
      refine v_iload_n dL_signs_95 rfl rfl ?_
      refine v_irem dL_signs_96 b2_3 b2_4 ?_
      refine v_iadd dL_signs_97 b2_5 ?_
      refine v_i2c dL_signs_98 ?_
      refine v_cast dL_signs_99 q1 b2_6 b2_7 ?_
      refine v_iinc (E2 := [aR 1000, aR a1, aI x2, aI x3, aI (x4 + 1), aI xs0]) dL_signs_100 rfl b2_8 rfl ?_
      refine v_goto (tgt := 35) dL_signs_103 (by decide) ?_
      refine v_weak (E2 := [aR 1000, aR a1, aI x2, aI x3, aI (x4 + 1), aU]) ⟨Or.inl rfl, ⟨Or.inl rfl, ⟨Or.inl rfl, ⟨Or.inl rfl, ⟨Or.inl rfl, ⟨Or.inr rfl, trivial⟩⟩⟩⟩⟩⟩ ?_
      exact k
    · have k := k.2 z
      obtain ⟨⟨b2_1, b2_2, b2_3, b2_4, b2_5, b2_6⟩, k⟩ := k
      refine v_aload_n dL_signs_80 rfl rfl ?_
      refine v_iload dL_signs_81 rfl ?_
      refine v_iload_n dL_signs_83 rfl rfl ?_
      refine v_isub dL_signs_84 b2_1 ?_
      refine v_cald dL_signs_85 q1 b2_2 b2_3 ?_
      refine v_goto (tgt := 99) dL_signs_86 (by decide) ?_
      refine v_cast dL_signs_99 q1 b2_4 b2_5 ?_
      refine v_iinc (E2 := [aR 1000, aR a1, aI x2, aI x3, aI (x4 + 1), aI xs0]) dL_signs_100 rfl b2_6 rfl ?_
      refine v_goto (tgt := 35) dL_signs_103 (by decide) ?_
      refine v_weak (E2 := [aR 1000, aR a1, aI x2, aI x3, aI (x4 + 1), aU]) ⟨Or.inl rfl, ⟨Or.inl rfl, ⟨Or.inl rfl, ⟨Or.inl rfl, ⟨Or.inl rfl, ⟨Or.inr rfl, trivial⟩⟩⟩⟩⟩⟩ ?_
      exact k
theorem S_L_tells_0 {kc ks : Nat} {h : Hh} {Q : PQ} {X : PX} {a1 n1 : Nat} (q1 : (RM WM wd).1[a1]? = some (1, n1))
    (k : am_V M_L_wipe 0 0 0 [aR 0] [] (RM WM wd) h (fun v ρ' h' => am_V M_L_tells kc ks 4 [aR 0, aR a1, aU, aU, aU, aU] (v ++ []) ρ' h' Q X) X) :
    am_V M_L_tells kc ks 0 [aR 0, aR a1, aU, aU, aU, aU] [] (RM WM wd) h Q X := by
  refine v_aload_n dL_tells_0 rfl rfl ?_
  exact v_callS (j := M_L_wipe) (As := [aR 0]) (st := []) (E0 := [aR 0]) dL_tells_1 ms_L_164 J_L_wipe (Nat.zero_le _) (Nat.zero_le _) (Nat.le_of_ble_eq_true rfl) rfl (Nat.le_of_ble_eq_true rfl) (List.forall_mem_cons.mpr ⟨rfl, fun _ h9 => absurd h9 List.not_mem_nil⟩) (Nat.le_of_ble_eq_true rfl) rfl pn_L_wipe rfl k
theorem S_L_tells_4 {kc ks : Nat} {h : Hh} {Q : PQ} {X : PX} {a1 n1 : Nat} (q1 : (RM WM wd).1[a1]? = some (1, n1)) {xs0 : Int}
    (k : ((-2147483648 ≤ ((n1 : Nat) : Int) ∧ ((n1 : Nat) : Int) < 2147483648)) ∧ am_V M_L_tells kc ks 13 [aR 0, aU, aR a1, aI ((n1 : Nat) : Int), aI 0, aU] [] (RM WM wd) h Q X) :
    am_V M_L_tells kc ks 4 [aR 0, aR a1, aU, aU, aU, aU] [aL xs0] (RM WM wd) h Q X := by
  obtain ⟨b0_1, k⟩ := k
  refine v_pop2l dL_tells_4 ?_
  refine v_aload_n dL_tells_5 rfl rfl ?_
  refine v_astore_n (E2 := [aR 0, aR a1, aR a1, aU, aU, aU]) dL_tells_6 rfl (Nat.le_of_ble_eq_true rfl) rfl ?_
  refine v_aload_n dL_tells_7 rfl rfl ?_
  refine v_alen (N := ((n1 : Nat) : Int)) dL_tells_8 q1 (by decide) rfl b0_1 ?_
  refine v_istore_n (E2 := [aR 0, aR a1, aR a1, aI ((n1 : Nat) : Int), aU, aU]) dL_tells_9 rfl (Nat.le_of_ble_eq_true rfl) rfl ?_
  refine v_iconst dL_tells_10 ⟨by decide, by decide⟩ ?_
  refine v_istore (E2 := [aR 0, aR a1, aR a1, aI ((n1 : Nat) : Int), aI 0, aU]) dL_tells_11 (Nat.le_of_ble_eq_true rfl) rfl ?_
  refine v_weak (E2 := [aR 0, aU, aR a1, aI ((n1 : Nat) : Int), aI 0, aU]) ⟨Or.inl rfl, ⟨Or.inr rfl, ⟨Or.inl rfl, ⟨Or.inl rfl, ⟨Or.inl rfl, ⟨Or.inl rfl, trivial⟩⟩⟩⟩⟩⟩ ?_
  exact k
theorem S_L_tells_13 {kc ks : Nat} {h : Hh} {Q : PQ} {X : PX} {a2 n2 : Nat} (q2 : (RM WM wd).1[a2]? = some (1, n2)) {x3 : Int} {x4 : Int}
    (k : ((x3 ≤ x4 → (2 ≤ kc ∧ 12 ≤ ks) ∧ am_V M_L_text 2 12 0 [aR 0, aU] [] (RM WM wd) h (fun v ρ' h' => am_V M_L_tells (kc - 2) (ks - 12) 42 [aU, aU, aU, aU, aU, aU] (v ++ []) ρ' h' Q X) X) ∧ (x4 < x3 → ((0 : Int) ≤ x4 ∧ (x4 : Int) < ((n2 : Nat) : Int) ∧ 1 ≤ kc ∧ 6 ≤ ks) ∧ am_V M_L_type 1 6 0 [aR 0, aI (h a2 x4), aU] [] (RM WM wd) h (fun v ρ' h' => am_V M_L_tells (kc - 1) (ks - 6) 31 [aR 0, aU, aR a2, aI x3, aI x4, aU] (v ++ []) ρ' h' Q X) X))) :
    am_V M_L_tells kc ks 13 [aR 0, aU, aR a2, aI x3, aI x4, aU] [] (RM WM wd) h Q X := by
  refine v_iload dL_tells_13 rfl ?_
  refine v_iload_n dL_tells_15 rfl rfl ?_
  refine v_icmp_ge (tgt := 38) dL_tells_16 (by decide) (fun z => ?_) (fun z => ?_)
  · have k := k.1 z
    obtain ⟨⟨b1_1, b1_2⟩, k⟩ := k
    refine v_aload_n dL_tells_38 rfl rfl ?_
    refine v_weak (E2 := [aU, aU, aU, aU, aU, aU]) ⟨Or.inr rfl, ⟨Or.inl rfl, ⟨Or.inr rfl, ⟨Or.inr rfl, ⟨Or.inr rfl, ⟨Or.inl rfl, trivial⟩⟩⟩⟩⟩⟩ ?_
    exact v_callSX (j := M_L_text) (As := [aR 0]) (st := []) (E0 := [aR 0, aU]) dL_tells_39 ms_L_170 J_L_text b1_1 b1_2 (Nat.le_of_ble_eq_true rfl) rfl (Nat.le_of_ble_eq_true rfl) (List.forall_mem_cons.mpr ⟨rfl, fun _ h9 => absurd h9 List.not_mem_nil⟩) (Nat.le_of_ble_eq_true rfl) rfl pn_L_text rfl k
  · have k := k.2 z
    obtain ⟨⟨b1_1, b1_2, b1_3, b1_4⟩, k⟩ := k
    refine v_aload_n dL_tells_19 rfl rfl ?_
    refine v_iload dL_tells_20 rfl ?_
    refine v_cald dL_tells_22 q2 b1_1 b1_2 ?_
    refine v_istore (E2 := [aR 0, aU, aR a2, aI x3, aI x4, aI (h a2 x4)]) dL_tells_23 (Nat.le_of_ble_eq_true rfl) rfl ?_
    refine v_aload_n dL_tells_25 rfl rfl ?_
    refine v_iload dL_tells_26 rfl ?_
    refine v_weak (E2 := [aR 0, aU, aR a2, aI x3, aI x4, aU]) ⟨Or.inl rfl, ⟨Or.inl rfl, ⟨Or.inl rfl, ⟨Or.inl rfl, ⟨Or.inl rfl, ⟨Or.inr rfl, trivial⟩⟩⟩⟩⟩⟩ ?_
    exact v_callSX (j := M_L_type) (As := [aR 0, aI (h a2 x4)]) (st := []) (E0 := [aR 0, aI (h a2 x4), aU]) dL_tells_28 ms_L_167 J_L_type b1_3 b1_4 (Nat.le_of_ble_eq_true rfl) rfl (Nat.le_of_ble_eq_true rfl) (List.forall_mem_cons.mpr ⟨rfl, List.forall_mem_cons.mpr ⟨rfl, fun _ h9 => absurd h9 List.not_mem_nil⟩⟩) (Nat.le_of_ble_eq_true rfl) rfl pn_L_type rfl k
theorem S_L_tells_42 {kc ks : Nat} {h : Hh} {Q : PQ} {X : PX} {xs0 : Int}
    (k : ((-2147483648 ≤ (xs0 : Int) ∧ (xs0 : Int) < 2147483648)) ∧ Q [aI xs0] (RM WM wd) h) :
    am_V M_L_tells kc ks 42 [aU, aU, aU, aU, aU, aU] [aL xs0] (RM WM wd) h Q X := by
  obtain ⟨b0_1, k⟩ := k
  refine v_l2i dL_tells_42 b0_1 ?_
  exact v_iret dL_tells_43 rfl rfl k
theorem S_L_tells_31 {kc ks : Nat} {h : Hh} {Q : PQ} {X : PX} {a2 n2 : Nat} (q2 : (RM WM wd).1[a2]? = some (1, n2)) {x3 : Int} {x4 : Int} {xs0 : Int}
    (k : ((-2147483648 ≤ ((x4 + 1) : Int) ∧ ((x4 + 1) : Int) < 2147483648)) ∧ am_V M_L_tells kc ks 13 [aR 0, aU, aR a2, aI x3, aI (x4 + 1), aU] [] (RM WM wd) h Q X) :
    am_V M_L_tells kc ks 31 [aR 0, aU, aR a2, aI x3, aI x4, aU] [aL xs0] (RM WM wd) h Q X := by
  obtain ⟨b0_1, k⟩ := k
  refine v_pop2l dL_tells_31 ?_
  refine v_iinc (E2 := [aR 0, aU, aR a2, aI x3, aI (x4 + 1), aU]) dL_tells_32 rfl b0_1 rfl ?_
  refine v_goto (tgt := 13) dL_tells_35 (by decide) ?_
  exact k
theorem S_L_comesBack_0 {kc ks : Nat} {h : Hh} {Q : PQ} {X : PX} {x1 : Int} {a2 n2 : Nat} (q2 : (RM WM wd).1[a2]? = some (1, n2))
    (k : ((-2147483648 ≤ ((n2 : Nat) : Int) ∧ ((n2 : Nat) : Int) < 2147483648) ∧ 1 ≤ kc ∧ 6 ≤ ks) ∧ am_V M_L_column 1 6 0 [aR 0, aI x1, aU] [] (RM WM wd) h (fun v ρ' h' => am_V M_L_comesBack (kc - 1) (ks - 6) 8 [aR 0, aI x1, aR a2, aI ((n2 : Nat) : Int), aU, aU, aU, aU, aU, aU] (v ++ []) ρ' h' Q X) X) :
    am_V M_L_comesBack kc ks 0 [aR 0, aI x1, aR a2, aU, aU, aU, aU, aU, aU, aU] [] (RM WM wd) h Q X := by
  obtain ⟨⟨b0_1, b0_2, b0_3⟩, k⟩ := k
  refine v_aload_n dL_comesBack_0 rfl rfl ?_
  refine v_alen (N := ((n2 : Nat) : Int)) dL_comesBack_1 q2 (by decide) rfl b0_1 ?_
  refine v_istore_n (E2 := [aR 0, aI x1, aR a2, aI ((n2 : Nat) : Int), aU, aU, aU, aU, aU, aU]) dL_comesBack_2 rfl (Nat.le_of_ble_eq_true rfl) rfl ?_
  refine v_aload_n dL_comesBack_3 rfl rfl ?_
  refine v_iload_n dL_comesBack_4 rfl rfl ?_
  exact v_callSX (j := M_L_column) (As := [aR 0, aI x1]) (st := []) (E0 := [aR 0, aI x1, aU]) dL_comesBack_5 ms_L_172 J_L_column b0_2 b0_3 (Nat.le_of_ble_eq_true rfl) rfl (Nat.le_of_ble_eq_true rfl) (List.forall_mem_cons.mpr ⟨rfl, List.forall_mem_cons.mpr ⟨rfl, fun _ h9 => absurd h9 List.not_mem_nil⟩⟩) (Nat.le_of_ble_eq_true rfl) rfl pn_L_column rfl k
theorem S_L_comesBack_8 {kc ks : Nat} {h : Hh} {Q : PQ} {X : PX} {x1 : Int} {a2 n2 : Nat} (q2 : (RM WM wd).1[a2]? = some (1, n2)) {x3 : Int} {xs0 : Int}
    (k : (((if ((x3 + 1).bmod (2 ^ 64)) < xs0 then 1 else if xs0 = ((x3 + 1).bmod (2 ^ 64)) then 0 else -1) = 0 → am_V M_L_comesBack kc ks 21 [aR 0, aI x1, aR a2, aI x3, aI 0, aU, aU, aU, aU, aU] [] (RM WM wd) h Q X) ∧ ((if ((x3 + 1).bmod (2 ^ 64)) < xs0 then 1 else if xs0 = ((x3 + 1).bmod (2 ^ 64)) then 0 else -1) ≠ 0 → Q [aI 0] (RM WM wd) h))) :
    am_V M_L_comesBack kc ks 8 [aR 0, aI x1, aR a2, aI x3, aU, aU, aU, aU, aU, aU] [aL xs0] (RM WM wd) h Q X := by
  refine v_iload_n dL_comesBack_8 rfl rfl ?_
  refine v_i2l dL_comesBack_9 ?_
  refine v_lconst (x := 1) dL_comesBack_10 rfl ?_
  refine v_ladd dL_comesBack_11 ?_
  refine v_lcmp dL_comesBack_12 ?_
  refine v_if_eq (tgt := 18) dL_comesBack_13 (by decide) (fun z => ?_) (fun z => ?_)
  · have k := k.1 z
    refine v_iconst dL_comesBack_18 ⟨by decide, by decide⟩ ?_
    refine v_istore (E2 := [aR 0, aI x1, aR a2, aI x3, aI 0, aU, aU, aU, aU, aU]) dL_comesBack_19 (Nat.le_of_ble_eq_true rfl) rfl ?_
    exact k
  · have k := k.2 z
    refine v_iconst dL_comesBack_16 ⟨by decide, by decide⟩ ?_
    exact v_zret dL_comesBack_17 rfl rfl (Or.inl rfl) k
theorem S_L_comesBack_21 {kc ks : Nat} {h : Hh} {Q : PQ} {X : PX} {x1 : Int} {a2 n2 : Nat} (q2 : (RM WM true).1[a2]? = some (1, n2)) {x3 : Int} {x4 : Int}
    (k : ((x3 < x4 → ((0 : Int) ≤ 128 ∧ (128 : Int) ≤ 3000 ∧ (WM).length < 900 ∧ (∀ i, h (72 + WM.length) i = 0) ∧ 1 ≤ kc ∧ 128 ≤ ks ∧ (-2147483648 ≤ ((x3 + 1) : Int) ∧ ((x3 + 1) : Int) < 2147483648) ∧ (0 : Int) ≤ (x3 + 1) ∧ ((x3 + 1) : Int) ≤ 3000 ∧ ((WM ++ [(0, 128)])).length < 900 ∧ (∀ i, h (72 + ((WM ++ [(0, 128)])).length) i = 0) ∧ 1 + 1 ≤ kc ∧ 128 + ((x3 + 1)).toNat ≤ ks) ∧ am_V M_L_comesBack (kc - 1 - 1) (ks - 128 - ((x3 + 1)).toNat) 94 [aR 0, aI x1, aR a2, aI x3, aR (72 + WM.length), aR (72 + ((WM ++ [(0, 128)])).length), aI 0, aU, aU, aU] [] (RM ((WM ++ [(0, 128)]) ++ [(0, ((x3 + 1)).toNat)]) true) h Q X) ∧ (x4 ≤ x3 → (1 ≤ kc ∧ 6 ≤ ks) ∧ am_V M_L_typed 1 6 0 [aR 0, aI x4, aU] [] (RM WM true) h (fun v ρ' h' => am_V M_L_comesBack (kc - 1) (ks - 6) 33 [aR 0, aI x1, aR a2, aI x3, aI x4, aU, aU, aU, aU, aU] (v ++ []) ρ' h' Q X) X))) :
    am_V M_L_comesBack kc ks 21 [aR 0, aI x1, aR a2, aI x3, aI x4, aU, aU, aU, aU, aU] [] (RM WM true) h Q X := by
  refine v_iload dL_comesBack_21 rfl ?_
  refine v_iload_n dL_comesBack_23 rfl rfl ?_
  refine v_icmp_gt (tgt := 77) dL_comesBack_24 (by decide) (fun z => ?_) (fun z => ?_)
  · have k := k.1 z
    obtain ⟨⟨b1_1, b1_2, b1_3, b1_4, b1_5, b1_6, b1_7, b1_8, b1_9, b1_10, b1_11, b1_12, b1_13⟩, k⟩ := k
    refine v_sipush dL_comesBack_77 (by decide) (by decide) ?_
    refine v_newIW dL_comesBack_80 ac_int b1_1 b1_2 b1_3 b1_4 b1_5 b1_6 ?_
    refine v_astore (E2 := [aR 0, aI x1, aR a2, aI x3, aR (72 + WM.length), aU, aU, aU, aU, aU]) dL_comesBack_82 (Nat.le_of_ble_eq_true rfl) rfl ?_
    refine v_iload_n dL_comesBack_84 rfl rfl ?_
    refine v_iconst dL_comesBack_85 ⟨by decide, by decide⟩ ?_
    refine v_iadd dL_comesBack_86 b1_7 ?_
    refine v_newIW dL_comesBack_87 ac_int b1_8 b1_9 b1_10 b1_11 (by omega) (by omega) ?_
    refine v_astore (E2 := [aR 0, aI x1, aR a2, aI x3, aR (72 + WM.length), aR (72 + ((WM ++ [(0, 128)])).length), aU, aU, aU, aU]) dL_comesBack_89 (Nat.le_of_ble_eq_true rfl) rfl ?_
    refine v_iconst dL_comesBack_91 ⟨by decide, by decide⟩ ?_
    refine v_istore (E2 := [aR 0, aI x1, aR a2, aI x3, aR (72 + WM.length), aR (72 + ((WM ++ [(0, 128)])).length), aI 0, aU, aU, aU]) dL_comesBack_92 (Nat.le_of_ble_eq_true rfl) rfl ?_
    exact k
  · have k := k.2 z
    obtain ⟨⟨b1_1, b1_2⟩, k⟩ := k
    refine v_aload_n dL_comesBack_27 rfl rfl ?_
    refine v_iload dL_comesBack_28 rfl ?_
    exact v_callSX (j := M_L_typed) (As := [aR 0, aI x4]) (st := []) (E0 := [aR 0, aI x4, aU]) dL_comesBack_30 ms_L_175 J_L_typed b1_1 b1_2 (Nat.le_of_ble_eq_true rfl) rfl (Nat.le_of_ble_eq_true rfl) (List.forall_mem_cons.mpr ⟨rfl, List.forall_mem_cons.mpr ⟨rfl, fun _ h9 => absurd h9 List.not_mem_nil⟩⟩) (Nat.le_of_ble_eq_true rfl) rfl pn_L_typed rfl k
theorem S_L_comesBack_94 {kc ks : Nat} {h : Hh} {Q : PQ} {X : PX} {x1 : Int} {a2 n2 : Nat} (q2 : (RM WM wd).1[a2]? = some (1, n2)) {x3 : Int} {a4 n4 : Nat} (q4 : (RM WM wd).1[a4]? = some (0, n4)) {a5 n5 : Nat} (q5 : (RM WM wd).1[a5]? = some (0, n5)) {x6 : Int}
    (k : ((x3 < x6 → (2 ≤ kc ∧ 12 ≤ ks) ∧ am_V M_L_undo 2 12 0 [aR 0, aU] [] (RM WM wd) h (fun v ρ' h' => am_V M_L_comesBack (kc - 2) (ks - 12) 178 [aR 0, aI x1, aR a2, aI x3, aU, aR a5, aU, aU, aU, aU] (v ++ []) ρ' h' Q X) X) ∧ (x6 ≤ x3 → (2 ≤ kc ∧ 12 ≤ ks) ∧ am_V M_L_back 2 12 0 [aR 0, aI x1, aI x6, aU] [] (RM WM wd) h (fun v ρ' h' => am_V M_L_comesBack (kc - 2) (ks - 12) 111 [aR 0, aI x1, aR a2, aI x3, aR a4, aR a5, aI x6, aU, aU, aU] (v ++ [aI x6, aR a5]) ρ' h' Q X) X))) :
    am_V M_L_comesBack kc ks 94 [aR 0, aI x1, aR a2, aI x3, aR a4, aR a5, aI x6, aU, aU, aU] [] (RM WM wd) h Q X := by
  refine v_iload dL_comesBack_94 rfl ?_
  refine v_iload_n dL_comesBack_96 rfl rfl ?_
  refine v_icmp_gt (tgt := 174) dL_comesBack_97 (by decide) (fun z => ?_) (fun z => ?_)
  · have k := k.1 z
    obtain ⟨⟨b1_1, b1_2⟩, k⟩ := k
    refine v_aload_n dL_comesBack_174 rfl rfl ?_
    refine v_weak (E2 := [aR 0, aI x1, aR a2, aI x3, aU, aR a5, aU, aU, aU, aU]) ⟨Or.inl rfl, ⟨Or.inl rfl, ⟨Or.inl rfl, ⟨Or.inl rfl, ⟨Or.inr rfl, ⟨Or.inl rfl, ⟨Or.inr rfl, ⟨Or.inl rfl, ⟨Or.inl rfl, ⟨Or.inl rfl, trivial⟩⟩⟩⟩⟩⟩⟩⟩⟩⟩ ?_
    exact v_callSX (j := M_L_undo) (As := [aR 0]) (st := []) (E0 := [aR 0, aU]) dL_comesBack_175 ms_L_184 J_L_undo b1_1 b1_2 (Nat.le_of_ble_eq_true rfl) rfl (Nat.le_of_ble_eq_true rfl) (List.forall_mem_cons.mpr ⟨rfl, fun _ h9 => absurd h9 List.not_mem_nil⟩) (Nat.le_of_ble_eq_true rfl) rfl pn_L_undo rfl k
  · have k := k.2 z
    obtain ⟨⟨b1_1, b1_2⟩, k⟩ := k
    refine v_aload dL_comesBack_100 rfl ?_
    refine v_iload dL_comesBack_102 rfl ?_
    refine v_aload_n dL_comesBack_104 rfl rfl ?_
    refine v_iload_n dL_comesBack_105 rfl rfl ?_
    refine v_iload dL_comesBack_106 rfl ?_
    exact v_callSX (j := M_L_back) (As := [aR 0, aI x1, aI x6]) (st := [aI x6, aR a5]) (E0 := [aR 0, aI x1, aI x6, aU]) dL_comesBack_108 ms_L_182 J_L_back b1_1 b1_2 (Nat.le_of_ble_eq_true rfl) rfl (Nat.le_of_ble_eq_true rfl) (List.forall_mem_cons.mpr ⟨rfl, List.forall_mem_cons.mpr ⟨rfl, List.forall_mem_cons.mpr ⟨rfl, fun _ h9 => absurd h9 List.not_mem_nil⟩⟩⟩) (Nat.le_of_ble_eq_true rfl) rfl pn_L_back rfl k
theorem S_L_comesBack_33 {kc ks : Nat} {h : Hh} {Q : PQ} {X : PX} {x1 : Int} {a2 n2 : Nat} (q2 : (RM WM wd).1[a2]? = some (1, n2)) {x3 : Int} {x4 : Int} {xs0 : Int}
    (k : (2 ≤ kc ∧ 12 ≤ ks) ∧ am_V M_L_last 2 12 0 [aR 0, aI x1, aI x4, aU] [] (RM WM wd) h (fun v ρ' h' => am_V M_L_comesBack (kc - 2) (ks - 12) 40 [aR 0, aI x1, aR a2, aI x3, aI x4, aU, aU, aU, aU, aU] (v ++ [aL xs0]) ρ' h' Q X) X) :
    am_V M_L_comesBack kc ks 33 [aR 0, aI x1, aR a2, aI x3, aI x4, aU, aU, aU, aU, aU] [aL xs0] (RM WM wd) h Q X := by
  obtain ⟨⟨b0_1, b0_2⟩, k⟩ := k
  refine v_aload_n dL_comesBack_33 rfl rfl ?_
  refine v_iload_n dL_comesBack_34 rfl rfl ?_
  refine v_iload dL_comesBack_35 rfl ?_
  exact v_callSX (j := M_L_last) (As := [aR 0, aI x1, aI x4]) (st := [aL xs0]) (E0 := [aR 0, aI x1, aI x4, aU]) dL_comesBack_37 ms_L_177 J_L_last b0_1 b0_2 (Nat.le_of_ble_eq_true rfl) rfl (Nat.le_of_ble_eq_true rfl) (List.forall_mem_cons.mpr ⟨rfl, List.forall_mem_cons.mpr ⟨rfl, List.forall_mem_cons.mpr ⟨rfl, fun _ h9 => absurd h9 List.not_mem_nil⟩⟩⟩) (Nat.le_of_ble_eq_true rfl) rfl pn_L_last rfl k
theorem S_L_comesBack_178 {kc ks : Nat} {h : Hh} {Q : PQ} {X : PX} {x1 : Int} {a2 n2 : Nat} (q2 : (RM WM wd).1[a2]? = some (1, n2)) {x3 : Int} {a5 n5 : Nat} (q5 : (RM WM wd).1[a5]? = some (0, n5)) {xs0 : Int}
    (k : (((if 0 < xs0 then 1 else if xs0 = 0 then 0 else -1) < 0 → Q [aI 0] (RM WM wd) h) ∧ (0 ≤ (if 0 < xs0 then 1 else if xs0 = 0 then 0 else -1) → ((-2147483648 ≤ (xs0 : Int) ∧ (xs0 : Int) < 2147483648) ∧ 1 ≤ kc ∧ 6 ≤ ks) ∧ am_V M_L_length 1 6 0 [aR 0, aI xs0, aU] [] (RM WM wd) h (fun v ρ' h' => am_V M_L_comesBack (kc - 1) (ks - 6) 194 [aR 0, aI x1, aR a2, aI x3, aU, aR a5, aL xs0, aU, aU, aU] (v ++ []) ρ' h' Q X) X))) :
    am_V M_L_comesBack kc ks 178 [aR 0, aI x1, aR a2, aI x3, aU, aR a5, aU, aU, aU, aU] [aL xs0] (RM WM wd) h Q X := by
  refine v_lstore (E2 := [aR 0, aI x1, aR a2, aI x3, aU, aR a5, aL xs0, aU, aU, aU]) dL_comesBack_178 (Nat.le_of_ble_eq_true rfl) rfl ?_
  refine v_lload dL_comesBack_180 rfl ?_
  refine v_lconst (x := 0) dL_comesBack_182 rfl ?_
  refine v_lcmp dL_comesBack_183 ?_
  refine v_if_lt (tgt := 200) dL_comesBack_184 (by decide) (fun z => ?_) (fun z => ?_)
  · have k := k.1 z
    refine v_iconst dL_comesBack_200 ⟨by decide, by decide⟩ ?_
    exact v_zret dL_comesBack_201 rfl rfl (Or.inl rfl) k
  · have k := k.2 z
    obtain ⟨⟨b1_1, b1_2, b1_3⟩, k⟩ := k
    refine v_aload_n dL_comesBack_187 rfl rfl ?_
    refine v_lload dL_comesBack_188 rfl ?_
    refine v_l2i dL_comesBack_190 b1_1 ?_
    exact v_callSX (j := M_L_length) (As := [aR 0, aI xs0]) (st := []) (E0 := [aR 0, aI xs0, aU]) dL_comesBack_191 ms_L_186 J_L_length b1_2 b1_3 (Nat.le_of_ble_eq_true rfl) rfl (Nat.le_of_ble_eq_true rfl) (List.forall_mem_cons.mpr ⟨rfl, List.forall_mem_cons.mpr ⟨rfl, fun _ h9 => absurd h9 List.not_mem_nil⟩⟩) (Nat.le_of_ble_eq_true rfl) rfl pn_L_length rfl k
theorem S_L_comesBack_111 {kc ks : Nat} {h : Hh} {Q : PQ} {X : PX} {x1 : Int} {a2 n2 : Nat} (q2 : (RM WM wd).1[a2]? = some (1, n2)) {x3 : Int} {a4 n4 : Nat} (q4 : (RM WM wd).1[a4]? = some (0, n4)) {a5 n5 : Nat} (q5 : (RM WM wd).1[a5]? = some (0, n5)) {x6 : Int} {xs0 : Int} {xs1 : Int} {as2 ns2 : Nat} (qs2 : (RM WM wd).1[as2]? = some (0, ns2))
    (k : ((-2147483648 ≤ (xs0 : Int) ∧ (xs0 : Int) < 2147483648) ∧ (0 : Int) ≤ xs1 ∧ (xs1 : Int) < ((ns2 : Nat) : Int) ∧ 2 ≤ kc ∧ 12 ≤ ks) ∧ am_V M_L_last 2 12 0 [aR 0, aI x1, aI x6, aU] [] (RM WM wd) (am_st h as2 xs1 xs0) (fun v ρ' h' => am_V M_L_comesBack (kc - 2) (ks - 12) 120 [aR 0, aI x1, aR a2, aI x3, aR a4, aR a5, aI x6, aU, aU, aU] (v ++ []) ρ' h' Q X) X) :
    am_V M_L_comesBack kc ks 111 [aR 0, aI x1, aR a2, aI x3, aR a4, aR a5, aI x6, aU, aU, aU] [aL xs0, aI xs1, aR as2] (RM WM wd) h Q X := by
  obtain ⟨⟨b0_1, b0_2, b0_3, b0_4, b0_5⟩, k⟩ := k
  refine v_l2i dL_comesBack_111 b0_1 ?_
  refine v_iast dL_comesBack_112 qs2 b0_2 b0_3 ?_
  refine v_aload_n dL_comesBack_113 rfl rfl ?_
  refine v_iload_n dL_comesBack_114 rfl rfl ?_
  refine v_iload dL_comesBack_115 rfl ?_
  exact v_callSX (j := M_L_last) (As := [aR 0, aI x1, aI x6]) (st := []) (E0 := [aR 0, aI x1, aI x6, aU]) dL_comesBack_117 ms_L_177 J_L_last b0_4 b0_5 (Nat.le_of_ble_eq_true rfl) rfl (Nat.le_of_ble_eq_true rfl) (List.forall_mem_cons.mpr ⟨rfl, List.forall_mem_cons.mpr ⟨rfl, List.forall_mem_cons.mpr ⟨rfl, fun _ h9 => absurd h9 List.not_mem_nil⟩⟩⟩) (Nat.le_of_ble_eq_true rfl) rfl pn_L_last rfl k
theorem S_L_comesBack_40 {kc ks : Nat} {h : Hh} {Q : PQ} {X : PX} {x1 : Int} {a2 n2 : Nat} (q2 : (RM WM wd).1[a2]? = some (1, n2)) {x3 : Int} {x4 : Int} {xs0 : Int} {xs1 : Int}
    (k : (((if xs0 < xs1 then 1 else if xs1 = xs0 then 0 else -1) ≠ 0 → Q [aI 0] (RM WM wd) h) ∧ ((if xs0 < xs1 then 1 else if xs1 = xs0 then 0 else -1) = 0 → ((x4 ≤ 0 → ((-2147483648 ≤ ((x4 + 1) : Int) ∧ ((x4 + 1) : Int) < 2147483648)) ∧ am_V M_L_comesBack kc ks 21 [aR 0, aI x1, aR a2, aI x3, aI (x4 + 1), aU, aU, aU, aU, aU] [] (RM WM wd) h Q X) ∧ (0 < x4 → (2 ≤ kc ∧ 12 ≤ ks) ∧ am_V M_L_first 2 12 0 [aR 0, aI x1, aI x4, aU] [] (RM WM wd) h (fun v ρ' h' => am_V M_L_comesBack (kc - 2) (ks - 12) 56 [aR 0, aI x1, aR a2, aI x3, aI x4, aU, aU, aU, aU, aU] (v ++ []) ρ' h' Q X) X))))) :
    am_V M_L_comesBack kc ks 40 [aR 0, aI x1, aR a2, aI x3, aI x4, aU, aU, aU, aU, aU] [aL xs0, aL xs1] (RM WM wd) h Q X := by
  refine v_lcmp dL_comesBack_40 ?_
  refine v_if_ne (tgt := 69) dL_comesBack_41 (by decide) (fun z => ?_) (fun z => ?_)
  · have k := k.1 z
    refine v_iconst dL_comesBack_69 ⟨by decide, by decide⟩ ?_
    exact v_zret dL_comesBack_70 rfl rfl (Or.inl rfl) k
  · have k := k.2 z
    refine v_iload dL_comesBack_44 rfl ?_
    refine v_if_le (tgt := 71) dL_comesBack_46 (by decide) (fun z => ?_) (fun z => ?_)
    · have k := k.1 z
      obtain ⟨b2_1, k⟩ := k
      refine v_iinc (E2 := [aR 0, aI x1, aR a2, aI x3, aI (x4 + 1), aU, aU, aU, aU, aU]) dL_comesBack_71 rfl b2_1 rfl ?_
      refine v_goto (tgt := 21) dL_comesBack_74 (by decide) ?_
      exact k
    · have k := k.2 z
      obtain ⟨⟨b2_1, b2_2⟩, k⟩ := k
      refine v_aload_n dL_comesBack_49 rfl rfl ?_
      refine v_iload_n dL_comesBack_50 rfl rfl ?_
      refine v_iload dL_comesBack_51 rfl ?_
      exact v_callSX (j := M_L_first) (As := [aR 0, aI x1, aI x4]) (st := []) (E0 := [aR 0, aI x1, aI x4, aU]) dL_comesBack_53 ms_L_180 J_L_first b2_1 b2_2 (Nat.le_of_ble_eq_true rfl) rfl (Nat.le_of_ble_eq_true rfl) (List.forall_mem_cons.mpr ⟨rfl, List.forall_mem_cons.mpr ⟨rfl, List.forall_mem_cons.mpr ⟨rfl, fun _ h9 => absurd h9 List.not_mem_nil⟩⟩⟩) (Nat.le_of_ble_eq_true rfl) rfl pn_L_first rfl k
theorem S_L_comesBack_194 {kc ks : Nat} {h : Hh} {Q : PQ} {X : PX} {x1 : Int} {a2 n2 : Nat} (q2 : (RM WM wd).1[a2]? = some (1, n2)) {x3 : Int} {a5 n5 : Nat} (q5 : (RM WM wd).1[a5]? = some (0, n5)) {x6 : Int} {xs0 : Int}
    (k : (((if x3 < xs0 then 1 else if xs0 = x3 then 0 else -1) = 0 → ((-2147483648 ≤ ((x3 - 1) : Int) ∧ ((x3 - 1) : Int) < 2147483648)) ∧ am_V M_L_comesBack kc ks 210 [aR 0, aI x1, aR a2, aU, aU, aR a5, aL x6, aU, aI 0, aI (x3 - 1)] [] (RM WM wd) h Q X) ∧ ((if x3 < xs0 then 1 else if xs0 = x3 then 0 else -1) ≠ 0 → Q [aI 0] (RM WM wd) h))) :
    am_V M_L_comesBack kc ks 194 [aR 0, aI x1, aR a2, aI x3, aU, aR a5, aL x6, aU, aU, aU] [aL xs0] (RM WM wd) h Q X := by
  refine v_iload_n dL_comesBack_194 rfl rfl ?_
  refine v_i2l dL_comesBack_195 ?_
  refine v_lcmp dL_comesBack_196 ?_
  refine v_if_eq (tgt := 202) dL_comesBack_197 (by decide) (fun z => ?_) (fun z => ?_)
  · have k := k.1 z
    obtain ⟨b1_1, k⟩ := k
    refine v_iconst dL_comesBack_202 ⟨by decide, by decide⟩ ?_
    refine v_istore (E2 := [aR 0, aI x1, aR a2, aI x3, aU, aR a5, aL x6, aU, aI 0, aU]) dL_comesBack_203 (Nat.le_of_ble_eq_true rfl) rfl ?_
    refine v_iload_n dL_comesBack_205 rfl rfl ?_
    refine v_iconst dL_comesBack_206 ⟨by decide, by decide⟩ ?_
    refine v_isub dL_comesBack_207 b1_1 ?_
    refine v_istore (E2 := [aR 0, aI x1, aR a2, aI x3, aU, aR a5, aL x6, aU, aI 0, aI (x3 - 1)]) dL_comesBack_208 (Nat.le_of_ble_eq_true rfl) rfl ?_
    refine v_weak (E2 := [aR 0, aI x1, aR a2, aU, aU, aR a5, aL x6, aU, aI 0, aI (x3 - 1)]) ⟨Or.inl rfl, ⟨Or.inl rfl, ⟨Or.inl rfl, ⟨Or.inr rfl, ⟨Or.inl rfl, ⟨Or.inl rfl, ⟨Or.inl rfl, ⟨Or.inl rfl, ⟨Or.inl rfl, ⟨Or.inl rfl, trivial⟩⟩⟩⟩⟩⟩⟩⟩⟩⟩ ?_
    exact k
  · have k := k.2 z
    refine v_iconst dL_comesBack_200 ⟨by decide, by decide⟩ ?_
    exact v_zret dL_comesBack_201 rfl rfl (Or.inl rfl) k
theorem S_L_comesBack_120 {kc ks : Nat} {h : Hh} {Q : PQ} {X : PX} {x1 : Int} {a2 n2 : Nat} (q2 : (RM WM wd).1[a2]? = some (1, n2)) {x3 : Int} {a4 n4 : Nat} (q4 : (RM WM wd).1[a4]? = some (0, n4)) {a5 n5 : Nat} (q5 : (RM WM wd).1[a5]? = some (0, n5)) {x6 : Int} {xs0 : Int}
    (k : ((-2147483648 ≤ (xs0 : Int) ∧ (xs0 : Int) < 2147483648) ∧ (0 : Int) ≤ x6 ∧ (x6 : Int) < ((n5 : Nat) : Int) ∧ 2 ≤ kc ∧ 12 ≤ ks) ∧ am_V M_L_first 2 12 0 [aR 0, aI x1, aI (h a5 x6), aU] [] (RM WM wd) h (fun v ρ' h' => am_V M_L_comesBack (kc - 2) (ks - 12) 134 [aR 0, aI x1, aR a2, aI x3, aR a4, aR a5, aI x6, aI (xs0 % 65536), aU, aU] (v ++ []) ρ' h' Q X) X) :
    am_V M_L_comesBack kc ks 120 [aR 0, aI x1, aR a2, aI x3, aR a4, aR a5, aI x6, aU, aU, aU] [aL xs0] (RM WM wd) h Q X := by
  obtain ⟨⟨b0_1, b0_2, b0_3, b0_4, b0_5⟩, k⟩ := k
  refine v_l2i dL_comesBack_120 b0_1 ?_
  refine v_i2c dL_comesBack_121 ?_
  refine v_istore (E2 := [aR 0, aI x1, aR a2, aI x3, aR a4, aR a5, aI x6, aI (xs0 % 65536), aU, aU]) dL_comesBack_122 (Nat.le_of_ble_eq_true rfl) rfl ?_
  refine v_aload_n dL_comesBack_124 rfl rfl ?_
  refine v_iload_n dL_comesBack_125 rfl rfl ?_
  refine v_aload dL_comesBack_126 rfl ?_
  refine v_iload dL_comesBack_128 rfl ?_
  refine v_iald dL_comesBack_130 q5 b0_2 b0_3 ?_
  exact v_callSX (j := M_L_first) (As := [aR 0, aI x1, aI (h a5 x6)]) (st := []) (E0 := [aR 0, aI x1, aI (h a5 x6), aU]) dL_comesBack_131 ms_L_180 J_L_first b0_4 b0_5 (Nat.le_of_ble_eq_true rfl) rfl (Nat.le_of_ble_eq_true rfl) (List.forall_mem_cons.mpr ⟨rfl, List.forall_mem_cons.mpr ⟨rfl, List.forall_mem_cons.mpr ⟨rfl, fun _ h9 => absurd h9 List.not_mem_nil⟩⟩⟩) (Nat.le_of_ble_eq_true rfl) rfl pn_L_first rfl k
theorem S_L_comesBack_56 {kc ks : Nat} {h : Hh} {Q : PQ} {X : PX} {x1 : Int} {a2 n2 : Nat} (q2 : (RM WM wd).1[a2]? = some (1, n2)) {x3 : Int} {x4 : Int} {xs0 : Int}
    (k : ((-2147483648 ≤ ((x4 - 1) : Int) ∧ ((x4 - 1) : Int) < 2147483648) ∧ 2 ≤ kc ∧ 12 ≤ ks) ∧ am_V M_L_first 2 12 0 [aR 0, aI x1, aI (x4 - 1), aU] [] (RM WM wd) h (fun v ρ' h' => am_V M_L_comesBack (kc - 2) (ks - 12) 65 [aR 0, aI x1, aR a2, aI x3, aI x4, aU, aU, aU, aU, aU] (v ++ [aL xs0]) ρ' h' Q X) X) :
    am_V M_L_comesBack kc ks 56 [aR 0, aI x1, aR a2, aI x3, aI x4, aU, aU, aU, aU, aU] [aL xs0] (RM WM wd) h Q X := by
  obtain ⟨⟨b0_1, b0_2, b0_3⟩, k⟩ := k
  refine v_aload_n dL_comesBack_56 rfl rfl ?_
  refine v_iload_n dL_comesBack_57 rfl rfl ?_
  refine v_iload dL_comesBack_58 rfl ?_
  refine v_iconst dL_comesBack_60 ⟨by decide, by decide⟩ ?_
  refine v_isub dL_comesBack_61 b0_1 ?_
  exact v_callSX (j := M_L_first) (As := [aR 0, aI x1, aI (x4 - 1)]) (st := [aL xs0]) (E0 := [aR 0, aI x1, aI (x4 - 1), aU]) dL_comesBack_62 ms_L_180 J_L_first b0_2 b0_3 (Nat.le_of_ble_eq_true rfl) rfl (Nat.le_of_ble_eq_true rfl) (List.forall_mem_cons.mpr ⟨rfl, List.forall_mem_cons.mpr ⟨rfl, List.forall_mem_cons.mpr ⟨rfl, fun _ h9 => absurd h9 List.not_mem_nil⟩⟩⟩) (Nat.le_of_ble_eq_true rfl) rfl pn_L_first rfl k
theorem S_L_comesBack_210 {kc ks : Nat} {h : Hh} {Q : PQ} {X : PX} {x1 : Int} {a2 n2 : Nat} (q2 : (RM WM wd).1[a2]? = some (1, n2)) {a5 n5 : Nat} (q5 : (RM WM wd).1[a5]? = some (0, n5)) {x6 : Int} {x8 : Int} {x9 : Int}
    (k : ((x9 < 0 → (2 ≤ kc ∧ 12 ≤ ks) ∧ am_V M_L_last 2 12 0 [aR 0, aI x1, aI x8, aU] [] (RM WM wd) h (fun v ρ' h' => am_V M_L_comesBack (kc - 2) (ks - 12) 271 [aU, aU, aU, aU, aU, aU, aU, aU, aU, aU] (v ++ []) ρ' h' Q X) X) ∧ (0 ≤ x9 → (2 ≤ kc ∧ 12 ≤ ks) ∧ am_V M_L_last 2 12 0 [aR 0, aI x1, aI x8, aU] [] (RM WM wd) h (fun v ρ' h' => am_V M_L_comesBack (kc - 2) (ks - 12) 222 [aR 0, aI x1, aR a2, aU, aU, aR a5, aL x6, aU, aI x8, aI x9] (v ++ []) ρ' h' Q X) X))) :
    am_V M_L_comesBack kc ks 210 [aR 0, aI x1, aR a2, aU, aU, aR a5, aL x6, aU, aI x8, aI x9] [] (RM WM wd) h Q X := by
  refine v_iload dL_comesBack_210 rfl ?_
  refine v_if_lt (tgt := 264) dL_comesBack_212 (by decide) (fun z => ?_) (fun z => ?_)
  · have k := k.1 z
    obtain ⟨⟨b1_1, b1_2⟩, k⟩ := k
    refine v_aload_n dL_comesBack_264 rfl rfl ?_
    refine v_iload_n dL_comesBack_265 rfl rfl ?_
    refine v_iload dL_comesBack_266 rfl ?_
    refine v_weak (E2 := [aU, aU, aU, aU, aU, aU, aU, aU, aU, aU]) ⟨Or.inr rfl, ⟨Or.inr rfl, ⟨Or.inr rfl, ⟨Or.inl rfl, ⟨Or.inl rfl, ⟨Or.inr rfl, ⟨Or.inr rfl, ⟨Or.inl rfl, ⟨Or.inr rfl, ⟨Or.inr rfl, trivial⟩⟩⟩⟩⟩⟩⟩⟩⟩⟩ ?_
    exact v_callSX (j := M_L_last) (As := [aR 0, aI x1, aI x8]) (st := []) (E0 := [aR 0, aI x1, aI x8, aU]) dL_comesBack_268 ms_L_177 J_L_last b1_1 b1_2 (Nat.le_of_ble_eq_true rfl) rfl (Nat.le_of_ble_eq_true rfl) (List.forall_mem_cons.mpr ⟨rfl, List.forall_mem_cons.mpr ⟨rfl, List.forall_mem_cons.mpr ⟨rfl, fun _ h9 => absurd h9 List.not_mem_nil⟩⟩⟩) (Nat.le_of_ble_eq_true rfl) rfl pn_L_last rfl k
  · have k := k.2 z
    obtain ⟨⟨b1_1, b1_2⟩, k⟩ := k
    refine v_aload_n dL_comesBack_215 rfl rfl ?_
    refine v_iload_n dL_comesBack_216 rfl rfl ?_
    refine v_iload dL_comesBack_217 rfl ?_
    exact v_callSX (j := M_L_last) (As := [aR 0, aI x1, aI x8]) (st := []) (E0 := [aR 0, aI x1, aI x8, aU]) dL_comesBack_219 ms_L_177 J_L_last b1_1 b1_2 (Nat.le_of_ble_eq_true rfl) rfl (Nat.le_of_ble_eq_true rfl) (List.forall_mem_cons.mpr ⟨rfl, List.forall_mem_cons.mpr ⟨rfl, List.forall_mem_cons.mpr ⟨rfl, fun _ h9 => absurd h9 List.not_mem_nil⟩⟩⟩) (Nat.le_of_ble_eq_true rfl) rfl pn_L_last rfl k
theorem S_L_comesBack_134 {kc ks : Nat} {h : Hh} {Q : PQ} {X : PX} {x1 : Int} {a2 n2 : Nat} (q2 : (RM WM wd).1[a2]? = some (1, n2)) {x3 : Int} {a4 n4 : Nat} (q4 : (RM WM wd).1[a4]? = some (0, n4)) {a5 n5 : Nat} (q5 : (RM WM wd).1[a5]? = some (0, n5)) {x6 : Int} {x7 : Int} {xs0 : Int}
    (k : (((if x7 < xs0 then 1 else if xs0 = x7 then 0 else -1) ≠ 0 → Q [aI 0] (RM WM wd) h) ∧ ((if x7 < xs0 then 1 else if xs0 = x7 then 0 else -1) = 0 → ((0 : Int) ≤ x7 ∧ (x7 : Int) < ((n4 : Nat) : Int) ∧ (0 : Int) ≤ x6 ∧ (x6 : Int) < ((n5 : Nat) : Int)) ∧ (((h a4 x7) ≤ (h a5 x6) → ((0 : Int) ≤ x6 ∧ (x6 : Int) < ((n5 : Nat) : Int) ∧ (-2147483648 ≤ (((h a5 x6) + 1) : Int) ∧ (((h a5 x6) + 1) : Int) < 2147483648) ∧ (0 : Int) ≤ x7 ∧ (x7 : Int) < ((n4 : Nat) : Int) ∧ (-2147483648 ≤ ((x6 + 1) : Int) ∧ ((x6 + 1) : Int) < 2147483648)) ∧ am_V M_L_comesBack kc ks 94 [aR 0, aI x1, aR a2, aI x3, aR a4, aR a5, aI (x6 + 1), aU, aU, aU] [] (RM WM wd) (am_st h a4 x7 ((h a5 x6) + 1)) Q X) ∧ ((h a5 x6) < (h a4 x7) → Q [aI 0] (RM WM wd) h))))) :
    am_V M_L_comesBack kc ks 134 [aR 0, aI x1, aR a2, aI x3, aR a4, aR a5, aI x6, aI x7, aU, aU] [aL xs0] (RM WM wd) h Q X := by
  refine v_iload dL_comesBack_134 rfl ?_
  refine v_i2l dL_comesBack_136 ?_
  refine v_lcmp dL_comesBack_137 ?_
  refine v_if_ne (tgt := 154) dL_comesBack_138 (by decide) (fun z => ?_) (fun z => ?_)
  · have k := k.1 z
    refine v_iconst dL_comesBack_154 ⟨by decide, by decide⟩ ?_
    exact v_zret dL_comesBack_155 rfl rfl (Or.inl rfl) k
  · have k := k.2 z
    obtain ⟨⟨b1_1, b1_2, b1_3, b1_4⟩, k⟩ := k
    refine v_aload dL_comesBack_141 rfl ?_
    refine v_iload dL_comesBack_143 rfl ?_
    refine v_iald dL_comesBack_145 q4 b1_1 b1_2 ?_
    refine v_aload dL_comesBack_146 rfl ?_
    refine v_iload dL_comesBack_148 rfl ?_
    refine v_iald dL_comesBack_150 q5 b1_3 b1_4 ?_
    refine v_icmp_le (tgt := 156) dL_comesBack_151 (by decide) (fun z => ?_) (fun z => ?_)
    · have k := k.1 z
      obtain ⟨⟨b2_1, b2_2, b2_3, b2_4, b2_5, b2_6⟩, k⟩ := k
      refine v_aload dL_comesBack_156 rfl ?_
      refine v_iload dL_comesBack_158 rfl ?_
      refine v_aload dL_comesBack_160 rfl ?_
      refine v_iload dL_comesBack_162 rfl ?_
      refine v_iald dL_comesBack_164 q5 b2_1 b2_2 ?_
      refine v_iconst dL_comesBack_165 ⟨by decide, by decide⟩ ?_
      refine v_iadd dL_comesBack_166 b2_3 ?_
      refine v_iast dL_comesBack_167 q4 b2_4 b2_5 ?_
      refine v_iinc (E2 := [aR 0, aI x1, aR a2, aI x3, aR a4, aR a5, aI (x6 + 1), aI x7, aU, aU]) dL_comesBack_168 rfl b2_6 rfl ?_
      refine v_goto (tgt := 94) dL_comesBack_171 (by decide) ?_
      refine v_weak (E2 := [aR 0, aI x1, aR a2, aI x3, aR a4, aR a5, aI (x6 + 1), aU, aU, aU]) ⟨Or.inl rfl, ⟨Or.inl rfl, ⟨Or.inl rfl, ⟨Or.inl rfl, ⟨Or.inl rfl, ⟨Or.inl rfl, ⟨Or.inl rfl, ⟨Or.inr rfl, ⟨Or.inl rfl, ⟨Or.inl rfl, trivial⟩⟩⟩⟩⟩⟩⟩⟩⟩⟩ ?_
      exact k
    · have k := k.2 z
      refine v_iconst dL_comesBack_154 ⟨by decide, by decide⟩ ?_
      exact v_zret dL_comesBack_155 rfl rfl (Or.inl rfl) k
theorem S_L_comesBack_65 {kc ks : Nat} {h : Hh} {Q : PQ} {X : PX} {x1 : Int} {a2 n2 : Nat} (q2 : (RM WM wd).1[a2]? = some (1, n2)) {x3 : Int} {x4 : Int} {xs0 : Int} {xs1 : Int}
    (k : ((0 ≤ (if xs0 < xs1 then 1 else if xs1 = xs0 then 0 else -1) → ((-2147483648 ≤ ((x4 + 1) : Int) ∧ ((x4 + 1) : Int) < 2147483648)) ∧ am_V M_L_comesBack kc ks 21 [aR 0, aI x1, aR a2, aI x3, aI (x4 + 1), aU, aU, aU, aU, aU] [] (RM WM wd) h Q X) ∧ ((if xs0 < xs1 then 1 else if xs1 = xs0 then 0 else -1) < 0 → Q [aI 0] (RM WM wd) h))) :
    am_V M_L_comesBack kc ks 65 [aR 0, aI x1, aR a2, aI x3, aI x4, aU, aU, aU, aU, aU] [aL xs0, aL xs1] (RM WM wd) h Q X := by
  refine v_lcmp dL_comesBack_65 ?_
  refine v_if_ge (tgt := 71) dL_comesBack_66 (by decide) (fun z => ?_) (fun z => ?_)
  · have k := k.1 z
    obtain ⟨b1_1, k⟩ := k
    refine v_iinc (E2 := [aR 0, aI x1, aR a2, aI x3, aI (x4 + 1), aU, aU, aU, aU, aU]) dL_comesBack_71 rfl b1_1 rfl ?_
    refine v_goto (tgt := 21) dL_comesBack_74 (by decide) ?_
    exact k
  · have k := k.2 z
    refine v_iconst dL_comesBack_69 ⟨by decide, by decide⟩ ?_
    exact v_zret dL_comesBack_70 rfl rfl (Or.inl rfl) k
theorem S_L_comesBack_271 {kc ks : Nat} {h : Hh} {Q : PQ} {X : PX} {xs0 : Int}
    (k : (((if 36 < xs0 then 1 else if xs0 = 36 then 0 else -1) ≠ 0 → Q [aI 0] (RM WM wd) h) ∧ ((if 36 < xs0 then 1 else if xs0 = 36 then 0 else -1) = 0 → Q [aI 1] (RM WM wd) h))) :
    am_V M_L_comesBack kc ks 271 [aU, aU, aU, aU, aU, aU, aU, aU, aU, aU] [aL xs0] (RM WM wd) h Q X := by
  refine v_ldc2l dL_comesBack_271 lc_L_190 ⟨by decide, by decide⟩ ?_
  refine v_lcmp dL_comesBack_274 ?_
  refine v_if_ne (tgt := 282) dL_comesBack_275 (by decide) (fun z => ?_) (fun z => ?_)
  · have k := k.1 z
    refine v_iconst dL_comesBack_282 ⟨by decide, by decide⟩ ?_
    exact v_zret dL_comesBack_283 rfl rfl (Or.inl rfl) k
  · have k := k.2 z
    refine v_iconst dL_comesBack_278 ⟨by decide, by decide⟩ ?_
    refine v_goto (tgt := 283) dL_comesBack_279 (by decide) ?_
    exact v_zret dL_comesBack_283 rfl rfl (Or.inr rfl) k
theorem S_L_comesBack_222 {kc ks : Nat} {h : Hh} {Q : PQ} {X : PX} {x1 : Int} {a2 n2 : Nat} (q2 : (RM WM wd).1[a2]? = some (1, n2)) {a5 n5 : Nat} (q5 : (RM WM wd).1[a5]? = some (0, n5)) {x6 : Int} {x8 : Int} {x9 : Int} {xs0 : Int}
    (k : ((0 : Int) ≤ x9 ∧ (x9 : Int) < ((n2 : Nat) : Int)) ∧ (((if (h a2 x9) < xs0 then 1 else if xs0 = (h a2 x9) then 0 else -1) ≠ 0 → Q [aI 0] (RM WM wd) h) ∧ ((if (h a2 x9) < xs0 then 1 else if xs0 = (h a2 x9) then 0 else -1) = 0 → ((-2147483648 ≤ (x6 : Int) ∧ (x6 : Int) < 2147483648) ∧ 2 ≤ kc ∧ 12 ≤ ks) ∧ am_V M_L_signAt 2 12 0 [aR 0, aI x6, aI x9, aU] [] (RM WM wd) h (fun v ρ' h' => am_V M_L_comesBack (kc - 2) (ks - 12) 240 [aR 0, aI x1, aR a2, aU, aU, aR a5, aL x6, aU, aI x8, aI x9] (v ++ []) ρ' h' Q X) X))) :
    am_V M_L_comesBack kc ks 222 [aR 0, aI x1, aR a2, aU, aU, aR a5, aL x6, aU, aI x8, aI x9] [aL xs0] (RM WM wd) h Q X := by
  obtain ⟨⟨b0_1, b0_2⟩, k⟩ := k
  refine v_aload_n dL_comesBack_222 rfl rfl ?_
  refine v_iload dL_comesBack_223 rfl ?_
  refine v_cald dL_comesBack_225 q2 b0_1 b0_2 ?_
  refine v_i2l dL_comesBack_226 ?_
  refine v_lcmp dL_comesBack_227 ?_
  refine v_if_ne (tgt := 249) dL_comesBack_228 (by decide) (fun z => ?_) (fun z => ?_)
  · have k := k.1 z
    refine v_iconst dL_comesBack_249 ⟨by decide, by decide⟩ ?_
    exact v_zret dL_comesBack_250 rfl rfl (Or.inl rfl) k
  · have k := k.2 z
    obtain ⟨⟨b1_1, b1_2, b1_3⟩, k⟩ := k
    refine v_aload_n dL_comesBack_231 rfl rfl ?_
    refine v_lload dL_comesBack_232 rfl ?_
    refine v_l2i dL_comesBack_234 b1_1 ?_
    refine v_iload dL_comesBack_235 rfl ?_
    exact v_callSX (j := M_L_signAt) (As := [aR 0, aI x6, aI x9]) (st := []) (E0 := [aR 0, aI x6, aI x9, aU]) dL_comesBack_237 ms_L_188 J_L_signAt b1_2 b1_3 (Nat.le_of_ble_eq_true rfl) rfl (Nat.le_of_ble_eq_true rfl) (List.forall_mem_cons.mpr ⟨rfl, List.forall_mem_cons.mpr ⟨rfl, List.forall_mem_cons.mpr ⟨rfl, fun _ h9 => absurd h9 List.not_mem_nil⟩⟩⟩) (Nat.le_of_ble_eq_true rfl) rfl pn_L_signAt rfl k
theorem S_L_comesBack_240 {kc ks : Nat} {h : Hh} {Q : PQ} {X : PX} {x1 : Int} {a2 n2 : Nat} (q2 : (RM WM wd).1[a2]? = some (1, n2)) {a5 n5 : Nat} (q5 : (RM WM wd).1[a5]? = some (0, n5)) {x6 : Int} {x8 : Int} {x9 : Int} {xs0 : Int}
    (k : ((0 : Int) ≤ x9 ∧ (x9 : Int) < ((n2 : Nat) : Int)) ∧ (((if (h a2 x9) < xs0 then 1 else if xs0 = (h a2 x9) then 0 else -1) = 0 → ((0 : Int) ≤ x8 ∧ (x8 : Int) < ((n5 : Nat) : Int) ∧ (-2147483648 ≤ ((x9 + (-1)) : Int) ∧ ((x9 + (-1)) : Int) < 2147483648)) ∧ am_V M_L_comesBack kc ks 210 [aR 0, aI x1, aR a2, aU, aU, aR a5, aL x6, aU, aI (h a5 x8), aI (x9 + (-1))] [] (RM WM wd) h Q X) ∧ ((if (h a2 x9) < xs0 then 1 else if xs0 = (h a2 x9) then 0 else -1) ≠ 0 → Q [aI 0] (RM WM wd) h))) :
    am_V M_L_comesBack kc ks 240 [aR 0, aI x1, aR a2, aU, aU, aR a5, aL x6, aU, aI x8, aI x9] [aL xs0] (RM WM wd) h Q X := by
  obtain ⟨⟨b0_1, b0_2⟩, k⟩ := k
  refine v_aload_n dL_comesBack_240 rfl rfl ?_
  refine v_iload dL_comesBack_241 rfl ?_
  refine v_cald dL_comesBack_243 q2 b0_1 b0_2 ?_
  refine v_i2l dL_comesBack_244 ?_
  refine v_lcmp dL_comesBack_245 ?_
  refine v_if_eq (tgt := 251) dL_comesBack_246 (by decide) (fun z => ?_) (fun z => ?_)
  · have k := k.1 z
    obtain ⟨⟨b1_1, b1_2, b1_3⟩, k⟩ := k
    refine v_aload dL_comesBack_251 rfl ?_
    refine v_iload dL_comesBack_253 rfl ?_
    refine v_iald dL_comesBack_255 q5 b1_1 b1_2 ?_
    refine v_istore (E2 := [aR 0, aI x1, aR a2, aU, aU, aR a5, aL x6, aU, aI (h a5 x8), aI x9]) dL_comesBack_256 (Nat.le_of_ble_eq_true rfl) rfl ?_
    refine v_iinc (E2 := [aR 0, aI x1, aR a2, aU, aU, aR a5, aL x6, aU, aI (h a5 x8), aI (x9 + (-1))]) dL_comesBack_258 rfl b1_3 rfl ?_
    refine v_goto (tgt := 210) dL_comesBack_261 (by decide) ?_
    exact k
  · have k := k.2 z
    refine v_iconst dL_comesBack_249 ⟨by decide, by decide⟩ ?_
    exact v_zret dL_comesBack_250 rfl rfl (Or.inl rfl) k
theorem S_L_isRun_0 {kc ks : Nat} {h : Hh} {Q : PQ} {X : PX} {x1 : Int} {a2 n2 : Nat} (q2 : (RM WM wd).1[a2]? = some (1, n2)) {x3 : Int} {x4 : Int}
    (k : am_V M_L_wipe 0 0 0 [aR 0] [] (RM WM wd) h (fun v ρ' h' => am_V M_L_isRun kc ks 4 [aR 0, aI x1, aR a2, aI x3, aI x4, aU, aU, aU, aU, aU, aU, aU, aU, aU, aU, aU, aU] (v ++ []) ρ' h' Q X) X) :
    am_V M_L_isRun kc ks 0 [aR 0, aI x1, aR a2, aI x3, aI x4, aU, aU, aU, aU, aU, aU, aU, aU, aU, aU, aU, aU] [] (RM WM wd) h Q X := by
  refine v_aload_n dL_isRun_0 rfl rfl ?_
  exact v_callS (j := M_L_wipe) (As := [aR 0]) (st := []) (E0 := [aR 0]) dL_isRun_1 ms_L_164 J_L_wipe (Nat.zero_le _) (Nat.zero_le _) (Nat.le_of_ble_eq_true rfl) rfl (Nat.le_of_ble_eq_true rfl) (List.forall_mem_cons.mpr ⟨rfl, fun _ h9 => absurd h9 List.not_mem_nil⟩) (Nat.le_of_ble_eq_true rfl) rfl pn_L_wipe rfl k
theorem S_L_isRun_4 {kc ks : Nat} {h : Hh} {Q : PQ} {X : PX} {x1 : Int} {a2 n2 : Nat} (q2 : (RM WM wd).1[a2]? = some (1, n2)) {x3 : Int} {x4 : Int} {xs0 : Int}
    (k : am_V M_L_isRun kc ks 8 [aR 0, aI x1, aR a2, aI x3, aI x4, aI 0, aU, aU, aU, aU, aU, aU, aU, aU, aU, aU, aU] [] (RM WM wd) h Q X) :
    am_V M_L_isRun kc ks 4 [aR 0, aI x1, aR a2, aI x3, aI x4, aU, aU, aU, aU, aU, aU, aU, aU, aU, aU, aU, aU] [aL xs0] (RM WM wd) h Q X := by
  refine v_pop2l dL_isRun_4 ?_
  refine v_iconst dL_isRun_5 ⟨by decide, by decide⟩ ?_
  refine v_istore (E2 := [aR 0, aI x1, aR a2, aI x3, aI x4, aI 0, aU, aU, aU, aU, aU, aU, aU, aU, aU, aU, aU]) dL_isRun_6 (Nat.le_of_ble_eq_true rfl) rfl ?_
  exact k
theorem S_L_isRun_8 {kc ks : Nat} {h : Hh} {Q : PQ} {X : PX} {x1 : Int} {a2 n2 : Nat} (q2 : (RM WM wd).1[a2]? = some (1, n2)) {x3 : Int} {x4 : Int} {x5 : Int}
    (k : ((x4 ≤ x5 → (2 ≤ kc ∧ 12 ≤ ks) ∧ am_V M_L_count 2 12 0 [aR 0, aI x1, aU] [] (RM WM wd) h (fun v ρ' h' => am_V M_L_isRun (kc - 2) (ks - 12) 37 [aR 0, aI x1, aR a2, aI x3, aI x4, aU, aU, aU, aU, aU, aU, aU, aU, aU, aU, aU, aU] (v ++ []) ρ' h' Q X) X) ∧ (x5 < x4 → ((-2147483648 ≤ ((x3 + x5) : Int) ∧ ((x3 + x5) : Int) < 2147483648) ∧ (0 : Int) ≤ (x3 + x5) ∧ ((x3 + x5) : Int) < ((n2 : Nat) : Int) ∧ 1 ≤ kc ∧ 6 ≤ ks) ∧ am_V M_L_type 1 6 0 [aR 0, aI (h a2 (x3 + x5)), aU] [] (RM WM wd) h (fun v ρ' h' => am_V M_L_isRun (kc - 1) (ks - 6) 25 [aR 0, aI x1, aR a2, aI x3, aI x4, aI x5, aU, aU, aU, aU, aU, aU, aU, aU, aU, aU, aU] (v ++ []) ρ' h' Q X) X))) :
    am_V M_L_isRun kc ks 8 [aR 0, aI x1, aR a2, aI x3, aI x4, aI x5, aU, aU, aU, aU, aU, aU, aU, aU, aU, aU, aU] [] (RM WM wd) h Q X := by
  refine v_iload dL_isRun_8 rfl ?_
  refine v_iload dL_isRun_10 rfl ?_
  refine v_icmp_ge (tgt := 32) dL_isRun_12 (by decide) (fun z => ?_) (fun z => ?_)
  · have k := k.1 z
    obtain ⟨⟨b1_1, b1_2⟩, k⟩ := k
    refine v_aload_n dL_isRun_32 rfl rfl ?_
    refine v_iload_n dL_isRun_33 rfl rfl ?_
    refine v_weak (E2 := [aR 0, aI x1, aR a2, aI x3, aI x4, aU, aU, aU, aU, aU, aU, aU, aU, aU, aU, aU, aU]) ⟨Or.inl rfl, ⟨Or.inl rfl, ⟨Or.inl rfl, ⟨Or.inl rfl, ⟨Or.inl rfl, ⟨Or.inr rfl, ⟨Or.inl rfl, ⟨Or.inl rfl, ⟨Or.inl rfl, ⟨Or.inl rfl, ⟨Or.inl rfl, ⟨Or.inl rfl, ⟨Or.inl rfl, ⟨Or.inl rfl, ⟨Or.inl rfl, ⟨Or.inl rfl, ⟨Or.inl rfl, trivial⟩⟩⟩⟩⟩⟩⟩⟩⟩⟩⟩⟩⟩⟩⟩⟩⟩ ?_
    exact v_callSX (j := M_L_count) (As := [aR 0, aI x1]) (st := []) (E0 := [aR 0, aI x1, aU]) dL_isRun_34 ms_L_192 J_L_count b1_1 b1_2 (Nat.le_of_ble_eq_true rfl) rfl (Nat.le_of_ble_eq_true rfl) (List.forall_mem_cons.mpr ⟨rfl, List.forall_mem_cons.mpr ⟨rfl, fun _ h9 => absurd h9 List.not_mem_nil⟩⟩) (Nat.le_of_ble_eq_true rfl) rfl pn_L_count rfl k
  · have k := k.2 z
    obtain ⟨⟨b1_1, b1_2, b1_3, b1_4, b1_5⟩, k⟩ := k
    refine v_aload_n dL_isRun_15 rfl rfl ?_
    refine v_aload_n dL_isRun_16 rfl rfl ?_
    refine v_iload_n dL_isRun_17 rfl rfl ?_
    refine v_iload dL_isRun_18 rfl ?_
    refine v_iadd dL_isRun_20 b1_1 ?_
    refine v_cald dL_isRun_21 q2 b1_2 b1_3 ?_
    exact v_callSX (j := M_L_type) (As := [aR 0, aI (h a2 (x3 + x5))]) (st := []) (E0 := [aR 0, aI (h a2 (x3 + x5)), aU]) dL_isRun_22 ms_L_167 J_L_type b1_4 b1_5 (Nat.le_of_ble_eq_true rfl) rfl (Nat.le_of_ble_eq_true rfl) (List.forall_mem_cons.mpr ⟨rfl, List.forall_mem_cons.mpr ⟨rfl, fun _ h9 => absurd h9 List.not_mem_nil⟩⟩) (Nat.le_of_ble_eq_true rfl) rfl pn_L_type rfl k
theorem S_L_isRun_37 {kc ks : Nat} {h : Hh} {Q : PQ} {X : PX} {x1 : Int} {a2 n2 : Nat} (q2 : (RM WM wd).1[a2]? = some (1, n2)) {x3 : Int} {x4 : Int} {xs0 : Int}
    (k : (3 ≤ kc ∧ 18 ≤ ks) ∧ am_V M_L_runFrom 3 18 0 [aR 0, aI x1, aU] [] (RM WM wd) h (fun v ρ' h' => am_V M_L_isRun (kc - 3) (ks - 18) 44 [aR 0, aI x1, aR a2, aI x3, aI x4, aL xs0, aU, aU, aU, aU, aU, aU, aU, aU, aU, aU, aU] (v ++ []) ρ' h' Q X) X) :
    am_V M_L_isRun kc ks 37 [aR 0, aI x1, aR a2, aI x3, aI x4, aU, aU, aU, aU, aU, aU, aU, aU, aU, aU, aU, aU] [aL xs0] (RM WM wd) h Q X := by
  obtain ⟨⟨b0_1, b0_2⟩, k⟩ := k
  refine v_lstore (E2 := [aR 0, aI x1, aR a2, aI x3, aI x4, aL xs0, aU, aU, aU, aU, aU, aU, aU, aU, aU, aU, aU]) dL_isRun_37 (Nat.le_of_ble_eq_true rfl) rfl ?_
  refine v_aload_n dL_isRun_39 rfl rfl ?_
  refine v_iload_n dL_isRun_40 rfl rfl ?_
  exact v_callSX (j := M_L_runFrom) (As := [aR 0, aI x1]) (st := []) (E0 := [aR 0, aI x1, aU]) dL_isRun_41 ms_L_194 J_L_runFrom b0_1 b0_2 (Nat.le_of_ble_eq_true rfl) rfl (Nat.le_of_ble_eq_true rfl) (List.forall_mem_cons.mpr ⟨rfl, List.forall_mem_cons.mpr ⟨rfl, fun _ h9 => absurd h9 List.not_mem_nil⟩⟩) (Nat.le_of_ble_eq_true rfl) rfl pn_L_runFrom rfl k
theorem S_L_isRun_25 {kc ks : Nat} {h : Hh} {Q : PQ} {X : PX} {x1 : Int} {a2 n2 : Nat} (q2 : (RM WM wd).1[a2]? = some (1, n2)) {x3 : Int} {x4 : Int} {x5 : Int} {xs0 : Int}
    (k : ((-2147483648 ≤ ((x5 + 1) : Int) ∧ ((x5 + 1) : Int) < 2147483648)) ∧ am_V M_L_isRun kc ks 8 [aR 0, aI x1, aR a2, aI x3, aI x4, aI (x5 + 1), aU, aU, aU, aU, aU, aU, aU, aU, aU, aU, aU] [] (RM WM wd) h Q X) :
    am_V M_L_isRun kc ks 25 [aR 0, aI x1, aR a2, aI x3, aI x4, aI x5, aU, aU, aU, aU, aU, aU, aU, aU, aU, aU, aU] [aL xs0] (RM WM wd) h Q X := by
  obtain ⟨b0_1, k⟩ := k
  refine v_pop2l dL_isRun_25 ?_
  refine v_iinc (E2 := [aR 0, aI x1, aR a2, aI x3, aI x4, aI (x5 + 1), aU, aU, aU, aU, aU, aU, aU, aU, aU, aU, aU]) dL_isRun_26 rfl b0_1 rfl ?_
  refine v_goto (tgt := 8) dL_isRun_29 (by decide) ?_
  exact k
theorem S_L_isRun_44 {kc ks : Nat} {h : Hh} {Q : PQ} {X : PX} {x1 : Int} {a2 n2 : Nat} (q2 : (RM WM wd).1[a2]? = some (1, n2)) {x3 : Int} {x4 : Int} {x5 : Int} {xs0 : Int}
    (k : (3 ≤ kc ∧ 18 ≤ ks) ∧ am_V M_L_numberOf 3 18 0 [aR 0, aI x1, aU] [] (RM WM wd) h (fun v ρ' h' => am_V M_L_isRun (kc - 3) (ks - 18) 51 [aR 0, aI x1, aR a2, aI x3, aI x4, aL x5, aU, aL xs0, aU, aU, aU, aU, aU, aU, aU, aU, aU] (v ++ []) ρ' h' Q X) X) :
    am_V M_L_isRun kc ks 44 [aR 0, aI x1, aR a2, aI x3, aI x4, aL x5, aU, aU, aU, aU, aU, aU, aU, aU, aU, aU, aU] [aL xs0] (RM WM wd) h Q X := by
  obtain ⟨⟨b0_1, b0_2⟩, k⟩ := k
  refine v_lstore (E2 := [aR 0, aI x1, aR a2, aI x3, aI x4, aL x5, aU, aL xs0, aU, aU, aU, aU, aU, aU, aU, aU, aU]) dL_isRun_44 (Nat.le_of_ble_eq_true rfl) rfl ?_
  refine v_aload_n dL_isRun_46 rfl rfl ?_
  refine v_iload_n dL_isRun_47 rfl rfl ?_
  exact v_callSX (j := M_L_numberOf) (As := [aR 0, aI x1]) (st := []) (E0 := [aR 0, aI x1, aU]) dL_isRun_48 ms_L_196 J_L_numberOf b0_1 b0_2 (Nat.le_of_ble_eq_true rfl) rfl (Nat.le_of_ble_eq_true rfl) (List.forall_mem_cons.mpr ⟨rfl, List.forall_mem_cons.mpr ⟨rfl, fun _ h9 => absurd h9 List.not_mem_nil⟩⟩) (Nat.le_of_ble_eq_true rfl) rfl pn_L_numberOf rfl k
theorem S_L_isRun_51 {kc ks : Nat} {h : Hh} {Q : PQ} {X : PX} {x1 : Int} {a2 n2 : Nat} (q2 : (RM WM wd).1[a2]? = some (1, n2)) {x3 : Int} {x4 : Int} {x5 : Int} {x7 : Int} {xs0 : Int}
    (k : am_V M_L_isRun kc ks 62 [aR 0, aI x1, aR a2, aI x3, aI x4, aL x5, aU, aL x7, aU, aL xs0, aU, aI 0, aI (-1), aI 0, aU, aU, aU] [] (RM WM wd) h Q X) :
    am_V M_L_isRun kc ks 51 [aR 0, aI x1, aR a2, aI x3, aI x4, aL x5, aU, aL x7, aU, aU, aU, aU, aU, aU, aU, aU, aU] [aL xs0] (RM WM wd) h Q X := by
  refine v_lstore (E2 := [aR 0, aI x1, aR a2, aI x3, aI x4, aL x5, aU, aL x7, aU, aL xs0, aU, aU, aU, aU, aU, aU, aU]) dL_isRun_51 (Nat.le_of_ble_eq_true rfl) rfl ?_
  refine v_iconst dL_isRun_53 ⟨by decide, by decide⟩ ?_
  refine v_istore (E2 := [aR 0, aI x1, aR a2, aI x3, aI x4, aL x5, aU, aL x7, aU, aL xs0, aU, aI 0, aU, aU, aU, aU, aU]) dL_isRun_54 (Nat.le_of_ble_eq_true rfl) rfl ?_
  refine v_iconst dL_isRun_56 ⟨by decide, by decide⟩ ?_
  refine v_istore (E2 := [aR 0, aI x1, aR a2, aI x3, aI x4, aL x5, aU, aL x7, aU, aL xs0, aU, aI 0, aI (-1), aU, aU, aU, aU]) dL_isRun_57 (Nat.le_of_ble_eq_true rfl) rfl ?_
  refine v_iconst dL_isRun_59 ⟨by decide, by decide⟩ ?_
  refine v_istore (E2 := [aR 0, aI x1, aR a2, aI x3, aI x4, aL x5, aU, aL x7, aU, aL xs0, aU, aI 0, aI (-1), aI 0, aU, aU, aU]) dL_isRun_60 (Nat.le_of_ble_eq_true rfl) rfl ?_
  exact k
theorem S_L_isRun_62 {kc ks : Nat} {h : Hh} {Q : PQ} {X : PX} {x1 : Int} {a2 n2 : Nat} (q2 : (RM WM wd).1[a2]? = some (1, n2)) {x3 : Int} {x4 : Int} {x5 : Int} {x7 : Int} {x9 : Int} {x11 : Int} {x12 : Int} {x13 : Int}
    (k : ((-2147483648 ≤ ((n2 : Nat) : Int) ∧ ((n2 : Nat) : Int) < 2147483648)) ∧ ((((n2 : Nat) : Int) ≤ x13 → (((if x5 < x11 then 1 else if x11 = x5 then 0 else -1) ≠ 0 → Q [aI 0] (RM WM wd) h) ∧ ((if x5 < x11 then 1 else if x11 = x5 then 0 else -1) = 0 → (3 ≤ kc ∧ 18 ≤ ks) ∧ am_V M_L_standsAt 3 18 0 [aR 0, aI x1, aI x11, aU] [] (RM WM wd) h (fun v ρ' h' => am_V M_L_isRun (kc - 3) (ks - 18) 247 [aR 0, aI x1, aR a2, aI x3, aI x4, aL x5, aU, aU, aU, aL x9, aU, aU, aI x12, aU, aU, aU, aU] (v ++ []) ρ' h' Q X) X))) ∧ (x13 < ((n2 : Nat) : Int) → ((-2147483648 ≤ ((x13 + x4) : Int) ∧ ((x13 + x4) : Int) < 2147483648) ∧ (-2147483648 ≤ ((n2 : Nat) : Int) ∧ ((n2 : Nat) : Int) < 2147483648)) ∧ ((((n2 : Nat) : Int) < (x13 + x4) → am_V M_L_isRun kc ks 89 [aR 0, aI x1, aR a2, aI x3, aI x4, aL x5, aU, aL x7, aU, aL x9, aU, aI x11, aI x12, aI x13, aI 0, aI 0, aU] [] (RM WM wd) h Q X) ∧ ((x13 + x4) ≤ ((n2 : Nat) : Int) → am_V M_L_isRun kc ks 89 [aR 0, aI x1, aR a2, aI x3, aI x4, aL x5, aU, aL x7, aU, aL x9, aU, aI x11, aI x12, aI x13, aI 1, aI 0, aU] [] (RM WM wd) h Q X))))) :
    am_V M_L_isRun kc ks 62 [aR 0, aI x1, aR a2, aI x3, aI x4, aL x5, aU, aL x7, aU, aL x9, aU, aI x11, aI x12, aI x13, aU, aU, aU] [] (RM WM wd) h Q X := by
  obtain ⟨b0_1, k⟩ := k
  refine v_iload dL_isRun_62 rfl ?_
  refine v_aload_n dL_isRun_64 rfl rfl ?_
  refine v_alen (N := ((n2 : Nat) : Int)) dL_isRun_65 q2 (by decide) rfl b0_1 ?_
  refine v_icmp_ge (tgt := 231) dL_isRun_66 (by decide) (fun z => ?_) (fun z => ?_)
  · have k := k.1 z
    refine v_iload dL_isRun_231 rfl ?_
    refine v_i2l dL_isRun_233 ?_
    refine v_lload dL_isRun_234 rfl ?_
    refine v_lcmp dL_isRun_236 ?_
    refine v_if_ne (tgt := 273) dL_isRun_237 (by decide) (fun z => ?_) (fun z => ?_)
    · have k := k.1 z
      refine v_iconst dL_isRun_273 ⟨by decide, by decide⟩ ?_
      exact v_zret dL_isRun_274 rfl rfl (Or.inl rfl) k
    · have k := k.2 z
      obtain ⟨⟨b2_1, b2_2⟩, k⟩ := k
      refine v_aload_n dL_isRun_240 rfl rfl ?_
      refine v_iload_n dL_isRun_241 rfl rfl ?_
      refine v_iload dL_isRun_242 rfl ?_
      refine v_weak (E2 := [aR 0, aI x1, aR a2, aI x3, aI x4, aL x5, aU, aU, aU, aL x9, aU, aU, aI x12, aU, aU, aU, aU]) ⟨Or.inl rfl, ⟨Or.inl rfl, ⟨Or.inl rfl, ⟨Or.inl rfl, ⟨Or.inl rfl, ⟨Or.inl rfl, ⟨Or.inl rfl, ⟨Or.inr rfl, ⟨Or.inl rfl, ⟨Or.inl rfl, ⟨Or.inl rfl, ⟨Or.inr rfl, ⟨Or.inl rfl, ⟨Or.inr rfl, ⟨Or.inl rfl, ⟨Or.inl rfl, ⟨Or.inl rfl, trivial⟩⟩⟩⟩⟩⟩⟩⟩⟩⟩⟩⟩⟩⟩⟩⟩⟩ ?_
      exact v_callSX (j := M_L_standsAt) (As := [aR 0, aI x1, aI x11]) (st := []) (E0 := [aR 0, aI x1, aI x11, aU]) dL_isRun_244 ms_L_200 J_L_standsAt b2_1 b2_2 (Nat.le_of_ble_eq_true rfl) rfl (Nat.le_of_ble_eq_true rfl) (List.forall_mem_cons.mpr ⟨rfl, List.forall_mem_cons.mpr ⟨rfl, List.forall_mem_cons.mpr ⟨rfl, fun _ h9 => absurd h9 List.not_mem_nil⟩⟩⟩) (Nat.le_of_ble_eq_true rfl) rfl pn_L_standsAt rfl k
  · have k := k.2 z
    obtain ⟨⟨b1_1, b1_2⟩, k⟩ := k
    refine v_iload dL_isRun_69 rfl ?_
    refine v_iload dL_isRun_71 rfl ?_
    refine v_iadd dL_isRun_73 b1_1 ?_
    refine v_aload_n dL_isRun_74 rfl rfl ?_
    refine v_alen (N := ((n2 : Nat) : Int)) dL_isRun_75 q2 (by decide) rfl b1_2 ?_
    refine v_icmp_gt (tgt := 83) dL_isRun_76 (by decide) (fun z => ?_) (fun z => ?_)
    · have k := k.1 z
      refine v_iconst dL_isRun_83 ⟨by decide, by decide⟩ ?_
      refine v_istore (E2 := [aR 0, aI x1, aR a2, aI x3, aI x4, aL x5, aU, aL x7, aU, aL x9, aU, aI x11, aI x12, aI x13, aI 0, aU, aU]) dL_isRun_84 (Nat.le_of_ble_eq_true rfl) rfl ?_
      refine v_iconst dL_isRun_86 ⟨by decide, by decide⟩ ?_
      refine v_istore (E2 := [aR 0, aI x1, aR a2, aI x3, aI x4, aL x5, aU, aL x7, aU, aL x9, aU, aI x11, aI x12, aI x13, aI 0, aI 0, aU]) dL_isRun_87 (Nat.le_of_ble_eq_true rfl) rfl ?_
      exact k
    · have k := k.2 z
      refine v_iconst dL_isRun_79 ⟨by decide, by decide⟩ ?_
      refine v_goto (tgt := 84) dL_isRun_80 (by decide) ?_
      refine v_istore (E2 := [aR 0, aI x1, aR a2, aI x3, aI x4, aL x5, aU, aL x7, aU, aL x9, aU, aI x11, aI x12, aI x13, aI 1, aU, aU]) dL_isRun_84 (Nat.le_of_ble_eq_true rfl) rfl ?_
      refine v_iconst dL_isRun_86 ⟨by decide, by decide⟩ ?_
      refine v_istore (E2 := [aR 0, aI x1, aR a2, aI x3, aI x4, aL x5, aU, aL x7, aU, aL x9, aU, aI x11, aI x12, aI x13, aI 1, aI 0, aU]) dL_isRun_87 (Nat.le_of_ble_eq_true rfl) rfl ?_
      exact k
theorem S_L_isRun_247 {kc ks : Nat} {h : Hh} {Q : PQ} {X : PX} {x1 : Int} {a2 n2 : Nat} (q2 : (RM WM wd).1[a2]? = some (1, n2)) {x3 : Int} {x4 : Int} {x5 : Int} {x9 : Int} {x12 : Int} {xs0 : Int}
    (k : (((if (-4000000000000000003) < xs0 then 1 else if xs0 = (-4000000000000000003) then 0 else -1) ≠ 0 → Q [aI 0] (RM WM wd) h) ∧ ((if (-4000000000000000003) < xs0 then 1 else if xs0 = (-4000000000000000003) then 0 else -1) = 0 → (3 ≤ kc ∧ 18 ≤ ks) ∧ am_V M_L_tail 3 18 0 [aR 0, aI x1, aI x4, aU] [] (RM WM wd) h (fun v ρ' h' => am_V M_L_isRun (kc - 3) (ks - 18) 261 [aR 0, aI x1, aR a2, aI x3, aI x4, aL x5, aU, aU, aU, aL x9, aU, aU, aI x12, aU, aU, aU, aU] (v ++ []) ρ' h' Q X) X))) :
    am_V M_L_isRun kc ks 247 [aR 0, aI x1, aR a2, aI x3, aI x4, aL x5, aU, aU, aU, aL x9, aU, aU, aI x12, aU, aU, aU, aU] [aL xs0] (RM WM wd) h Q X := by
  refine v_ldc2l dL_isRun_247 lc_L_59 ⟨by decide, by decide⟩ ?_
  refine v_lcmp dL_isRun_250 ?_
  refine v_if_ne (tgt := 273) dL_isRun_251 (by decide) (fun z => ?_) (fun z => ?_)
  · have k := k.1 z
    refine v_iconst dL_isRun_273 ⟨by decide, by decide⟩ ?_
    exact v_zret dL_isRun_274 rfl rfl (Or.inl rfl) k
  · have k := k.2 z
    obtain ⟨⟨b1_1, b1_2⟩, k⟩ := k
    refine v_aload_n dL_isRun_254 rfl rfl ?_
    refine v_iload_n dL_isRun_255 rfl rfl ?_
    refine v_iload dL_isRun_256 rfl ?_
    exact v_callSX (j := M_L_tail) (As := [aR 0, aI x1, aI x4]) (st := []) (E0 := [aR 0, aI x1, aI x4, aU]) dL_isRun_258 ms_L_202 J_L_tail b1_1 b1_2 (Nat.le_of_ble_eq_true rfl) rfl (Nat.le_of_ble_eq_true rfl) (List.forall_mem_cons.mpr ⟨rfl, List.forall_mem_cons.mpr ⟨rfl, List.forall_mem_cons.mpr ⟨rfl, fun _ h9 => absurd h9 List.not_mem_nil⟩⟩⟩) (Nat.le_of_ble_eq_true rfl) rfl pn_L_tail rfl k
theorem S_L_isRun_89 {kc ks : Nat} {h : Hh} {Q : PQ} {X : PX} {x1 : Int} {a2 n2 : Nat} (q2 : (RM WM wd).1[a2]? = some (1, n2)) {x3 : Int} {x4 : Int} {x5 : Int} {x7 : Int} {x9 : Int} {x11 : Int} {x12 : Int} {x13 : Int} {x14 : Int} {x15 : Int}
    (k : ((x14 = 0 → (2 ≤ kc ∧ 12 ≤ ks) ∧ am_V M_L_rankOf 2 12 0 [aR 0, aI x1, aI x13, aU] [] (RM WM wd) h (fun v ρ' h' => am_V M_L_isRun (kc - 2) (ks - 12) 137 [aR 0, aI x1, aR a2, aI x3, aI x4, aL x5, aU, aL x7, aU, aL x9, aU, aI x11, aI x12, aI x13, aI x14, aU, aU] (v ++ []) ρ' h' Q X) X) ∧ (x14 ≠ 0 → ((x4 ≤ x15 → (2 ≤ kc ∧ 12 ≤ ks) ∧ am_V M_L_rankOf 2 12 0 [aR 0, aI x1, aI x13, aU] [] (RM WM wd) h (fun v ρ' h' => am_V M_L_isRun (kc - 2) (ks - 12) 137 [aR 0, aI x1, aR a2, aI x3, aI x4, aL x5, aU, aL x7, aU, aL x9, aU, aI x11, aI x12, aI x13, aI x14, aU, aU] (v ++ []) ρ' h' Q X) X) ∧ (x15 < x4 → ((-2147483648 ≤ ((x13 + x15) : Int) ∧ ((x13 + x15) : Int) < 2147483648) ∧ (0 : Int) ≤ (x13 + x15) ∧ ((x13 + x15) : Int) < ((n2 : Nat) : Int) ∧ (-2147483648 ≤ ((x3 + x15) : Int) ∧ ((x3 + x15) : Int) < 2147483648) ∧ (0 : Int) ≤ (x3 + x15) ∧ ((x3 + x15) : Int) < ((n2 : Nat) : Int)) ∧ (((h a2 (x13 + x15)) ≠ (h a2 (x3 + x15)) → ((-2147483648 ≤ ((x15 + 1) : Int) ∧ ((x15 + 1) : Int) < 2147483648)) ∧ am_V M_L_isRun kc ks 89 [aR 0, aI x1, aR a2, aI x3, aI x4, aL x5, aU, aL x7, aU, aL x9, aU, aI x11, aI x12, aI x13, aI 0, aI (x15 + 1), aU] [] (RM WM wd) h Q X) ∧ ((h a2 (x13 + x15)) = (h a2 (x3 + x15)) → ((-2147483648 ≤ ((x15 + 1) : Int) ∧ ((x15 + 1) : Int) < 2147483648)) ∧ am_V M_L_isRun kc ks 89 [aR 0, aI x1, aR a2, aI x3, aI x4, aL x5, aU, aL x7, aU, aL x9, aU, aI x11, aI x12, aI x13, aI 1, aI (x15 + 1), aU] [] (RM WM wd) h Q X))))))) :
    am_V M_L_isRun kc ks 89 [aR 0, aI x1, aR a2, aI x3, aI x4, aL x5, aU, aL x7, aU, aL x9, aU, aI x11, aI x12, aI x13, aI x14, aI x15, aU] [] (RM WM wd) h Q X := by
  refine v_iload dL_isRun_89 rfl ?_
  refine v_if_eq (tgt := 130) dL_isRun_91 (by decide) (fun z => ?_) (fun z => ?_)
  · have k := k.1 z
    obtain ⟨⟨b1_1, b1_2⟩, k⟩ := k
    refine v_aload_n dL_isRun_130 rfl rfl ?_
    refine v_iload_n dL_isRun_131 rfl rfl ?_
    refine v_iload dL_isRun_132 rfl ?_
    refine v_weak (E2 := [aR 0, aI x1, aR a2, aI x3, aI x4, aL x5, aU, aL x7, aU, aL x9, aU, aI x11, aI x12, aI x13, aI x14, aU, aU]) ⟨Or.inl rfl, ⟨Or.inl rfl, ⟨Or.inl rfl, ⟨Or.inl rfl, ⟨Or.inl rfl, ⟨Or.inl rfl, ⟨Or.inl rfl, ⟨Or.inl rfl, ⟨Or.inl rfl, ⟨Or.inl rfl, ⟨Or.inl rfl, ⟨Or.inl rfl, ⟨Or.inl rfl, ⟨Or.inl rfl, ⟨Or.inl rfl, ⟨Or.inr rfl, ⟨Or.inl rfl, trivial⟩⟩⟩⟩⟩⟩⟩⟩⟩⟩⟩⟩⟩⟩⟩⟩⟩ ?_
    exact v_callSX (j := M_L_rankOf) (As := [aR 0, aI x1, aI x13]) (st := []) (E0 := [aR 0, aI x1, aI x13, aU]) dL_isRun_134 ms_L_198 J_L_rankOf b1_1 b1_2 (Nat.le_of_ble_eq_true rfl) rfl (Nat.le_of_ble_eq_true rfl) (List.forall_mem_cons.mpr ⟨rfl, List.forall_mem_cons.mpr ⟨rfl, List.forall_mem_cons.mpr ⟨rfl, fun _ h9 => absurd h9 List.not_mem_nil⟩⟩⟩) (Nat.le_of_ble_eq_true rfl) rfl pn_L_rankOf rfl k
  · have k := k.2 z
    refine v_iload dL_isRun_94 rfl ?_
    refine v_iload dL_isRun_96 rfl ?_
    refine v_icmp_ge (tgt := 130) dL_isRun_98 (by decide) (fun z => ?_) (fun z => ?_)
    · have k := k.1 z
      obtain ⟨⟨b2_1, b2_2⟩, k⟩ := k
      refine v_aload_n dL_isRun_130 rfl rfl ?_
      refine v_iload_n dL_isRun_131 rfl rfl ?_
      refine v_iload dL_isRun_132 rfl ?_
      refine v_weak (E2 := [aR 0, aI x1, aR a2, aI x3, aI x4, aL x5, aU, aL x7, aU, aL x9, aU, aI x11, aI x12, aI x13, aI x14, aU, aU]) ⟨Or.inl rfl, ⟨Or.inl rfl, ⟨Or.inl rfl, ⟨Or.inl rfl, ⟨Or.inl rfl, ⟨Or.inl rfl, ⟨Or.inl rfl, ⟨Or.inl rfl, ⟨Or.inl rfl, ⟨Or.inl rfl, ⟨Or.inl rfl, ⟨Or.inl rfl, ⟨Or.inl rfl, ⟨Or.inl rfl, ⟨Or.inl rfl, ⟨Or.inr rfl, ⟨Or.inl rfl, trivial⟩⟩⟩⟩⟩⟩⟩⟩⟩⟩⟩⟩⟩⟩⟩⟩⟩ ?_
      exact v_callSX (j := M_L_rankOf) (As := [aR 0, aI x1, aI x13]) (st := []) (E0 := [aR 0, aI x1, aI x13, aU]) dL_isRun_134 ms_L_198 J_L_rankOf b2_1 b2_2 (Nat.le_of_ble_eq_true rfl) rfl (Nat.le_of_ble_eq_true rfl) (List.forall_mem_cons.mpr ⟨rfl, List.forall_mem_cons.mpr ⟨rfl, List.forall_mem_cons.mpr ⟨rfl, fun _ h9 => absurd h9 List.not_mem_nil⟩⟩⟩) (Nat.le_of_ble_eq_true rfl) rfl pn_L_rankOf rfl k
    · have k := k.2 z
      obtain ⟨⟨b2_1, b2_2, b2_3, b2_4, b2_5, b2_6⟩, k⟩ := k
      refine v_aload_n dL_isRun_101 rfl rfl ?_
      refine v_iload dL_isRun_102 rfl ?_
      refine v_iload dL_isRun_104 rfl ?_
      refine v_iadd dL_isRun_106 b2_1 ?_
      refine v_cald dL_isRun_107 q2 b2_2 b2_3 ?_
      refine v_aload_n dL_isRun_108 rfl rfl ?_
      refine v_iload_n dL_isRun_109 rfl rfl ?_
      refine v_iload dL_isRun_110 rfl ?_
      refine v_iadd dL_isRun_112 b2_4 ?_
      refine v_cald dL_isRun_113 q2 b2_5 b2_6 ?_
      refine v_icmp_ne (tgt := 121) dL_isRun_114 (by decide) (fun z => ?_) (fun z => ?_)
      · have k := k.1 z
        obtain ⟨b3_1, k⟩ := k
        refine v_iconst dL_isRun_121 ⟨by decide, by decide⟩ ?_
        refine v_istore (E2 := [aR 0, aI x1, aR a2, aI x3, aI x4, aL x5, aU, aL x7, aU, aL x9, aU, aI x11, aI x12, aI x13, aI 0, aI x15, aU]) dL_isRun_122 (Nat.le_of_ble_eq_true rfl) rfl ?_
        refine v_iinc (E2 := [aR 0, aI x1, aR a2, aI x3, aI x4, aL x5, aU, aL x7, aU, aL x9, aU, aI x11, aI x12, aI x13, aI 0, aI (x15 + 1), aU]) dL_isRun_124 rfl b3_1 rfl ?_
        refine v_goto (tgt := 89) dL_isRun_127 (by decide) ?_
        exact k
      · have k := k.2 z
        obtain ⟨b3_1, k⟩ := k
        refine v_iconst dL_isRun_117 ⟨by decide, by decide⟩ ?_
        refine v_goto (tgt := 122) dL_isRun_118 (by decide) ?_
        refine v_istore (E2 := [aR 0, aI x1, aR a2, aI x3, aI x4, aL x5, aU, aL x7, aU, aL x9, aU, aI x11, aI x12, aI x13, aI 1, aI x15, aU]) dL_isRun_122 (Nat.le_of_ble_eq_true rfl) rfl ?_
        refine v_iinc (E2 := [aR 0, aI x1, aR a2, aI x3, aI x4, aL x5, aU, aL x7, aU, aL x9, aU, aI x11, aI x12, aI x13, aI 1, aI (x15 + 1), aU]) dL_isRun_124 rfl b3_1 rfl ?_
        refine v_goto (tgt := 89) dL_isRun_127 (by decide) ?_
        exact k
theorem S_L_isRun_261 {kc ks : Nat} {h : Hh} {Q : PQ} {X : PX} {x1 : Int} {a2 n2 : Nat} (q2 : (RM WM wd).1[a2]? = some (1, n2)) {x3 : Int} {x4 : Int} {x5 : Int} {x9 : Int} {x12 : Int} {xs0 : Int}
    (k : (((if x5 < xs0 then 1 else if xs0 = x5 then 0 else -1) ≠ 0 → Q [aI 0] (RM WM wd) h) ∧ ((if x5 < xs0 then 1 else if xs0 = x5 then 0 else -1) = 0 → ((x12 ≤ x3 → ((-2147483648 ≤ (x9 : Int) ∧ (x9 : Int) < 2147483648) ∧ 2 ≤ kc ∧ 12 ≤ ks) ∧ am_V M_L_word 2 12 0 [aR 0, aI x1, aI x9, aU] [] (RM WM wd) h (fun v ρ' h' => am_V M_L_isRun (kc - 2) (ks - 12) 283 [aR 0, aI x1, aR a2, aI x3, aI x4, aU, aU, aU, aU, aL x9, aU, aU, aU, aU, aU, aU, aU] (v ++ []) ρ' h' Q X) X) ∧ (x3 < x12 → Q [aI 0] (RM WM wd) h))))) :
    am_V M_L_isRun kc ks 261 [aR 0, aI x1, aR a2, aI x3, aI x4, aL x5, aU, aU, aU, aL x9, aU, aU, aI x12, aU, aU, aU, aU] [aL xs0] (RM WM wd) h Q X := by
  refine v_lload dL_isRun_261 rfl ?_
  refine v_lcmp dL_isRun_263 ?_
  refine v_if_ne (tgt := 273) dL_isRun_264 (by decide) (fun z => ?_) (fun z => ?_)
  · have k := k.1 z
    refine v_iconst dL_isRun_273 ⟨by decide, by decide⟩ ?_
    exact v_zret dL_isRun_274 rfl rfl (Or.inl rfl) k
  · have k := k.2 z
    refine v_iload dL_isRun_267 rfl ?_
    refine v_iload_n dL_isRun_269 rfl rfl ?_
    refine v_icmp_le (tgt := 275) dL_isRun_270 (by decide) (fun z => ?_) (fun z => ?_)
    · have k := k.1 z
      obtain ⟨⟨b2_1, b2_2, b2_3⟩, k⟩ := k
      refine v_aload_n dL_isRun_275 rfl rfl ?_
      refine v_iload_n dL_isRun_276 rfl rfl ?_
      refine v_lload dL_isRun_277 rfl ?_
      refine v_l2i dL_isRun_279 b2_1 ?_
      refine v_weak (E2 := [aR 0, aI x1, aR a2, aI x3, aI x4, aU, aU, aU, aU, aL x9, aU, aU, aU, aU, aU, aU, aU]) ⟨Or.inl rfl, ⟨Or.inl rfl, ⟨Or.inl rfl, ⟨Or.inl rfl, ⟨Or.inl rfl, ⟨Or.inr rfl, ⟨Or.inl rfl, ⟨Or.inl rfl, ⟨Or.inl rfl, ⟨Or.inl rfl, ⟨Or.inl rfl, ⟨Or.inl rfl, ⟨Or.inr rfl, ⟨Or.inl rfl, ⟨Or.inl rfl, ⟨Or.inl rfl, ⟨Or.inl rfl, trivial⟩⟩⟩⟩⟩⟩⟩⟩⟩⟩⟩⟩⟩⟩⟩⟩⟩ ?_
      exact v_callSX (j := M_L_word) (As := [aR 0, aI x1, aI x9]) (st := []) (E0 := [aR 0, aI x1, aI x9, aU]) dL_isRun_280 ms_L_204 J_L_word b2_2 b2_3 (Nat.le_of_ble_eq_true rfl) rfl (Nat.le_of_ble_eq_true rfl) (List.forall_mem_cons.mpr ⟨rfl, List.forall_mem_cons.mpr ⟨rfl, List.forall_mem_cons.mpr ⟨rfl, fun _ h9 => absurd h9 List.not_mem_nil⟩⟩⟩) (Nat.le_of_ble_eq_true rfl) rfl pn_L_word rfl k
    · have k := k.2 z
      refine v_iconst dL_isRun_273 ⟨by decide, by decide⟩ ?_
      exact v_zret dL_isRun_274 rfl rfl (Or.inl rfl) k
theorem S_L_isRun_137 {kc ks : Nat} {h : Hh} {Q : PQ} {X : PX} {x1 : Int} {a2 n2 : Nat} (q2 : (RM WM wd).1[a2]? = some (1, n2)) {x3 : Int} {x4 : Int} {x5 : Int} {x7 : Int} {x9 : Int} {x11 : Int} {x12 : Int} {x13 : Int} {x14 : Int} {xs0 : Int}
    (k : (((if x7 < xs0 then 1 else if xs0 = x7 then 0 else -1) < 0 → am_V M_L_isRun kc ks 165 [aR 0, aI x1, aR a2, aI x3, aI x4, aL x5, aU, aL x7, aU, aL x9, aU, aI x11, aI x12, aI x13, aI x14, aU, aU] [aI 0, aI x14] (RM WM wd) h Q X) ∧ (0 ≤ (if x7 < xs0 then 1 else if xs0 = x7 then 0 else -1) → ((0 ≤ (if ((x7 + x5).bmod (2 ^ 64)) < xs0 then 1 else if xs0 = ((x7 + x5).bmod (2 ^ 64)) then 0 else -1) → am_V M_L_isRun kc ks 165 [aR 0, aI x1, aR a2, aI x3, aI x4, aL x5, aU, aL x7, aU, aL x9, aU, aI x11, aI x12, aI x13, aI x14, aU, aU] [aI 0, aI x14] (RM WM wd) h Q X) ∧ ((if ((x7 + x5).bmod (2 ^ 64)) < xs0 then 1 else if xs0 = ((x7 + x5).bmod (2 ^ 64)) then 0 else -1) < 0 → am_V M_L_isRun kc ks 165 [aR 0, aI x1, aR a2, aI x3, aI x4, aL x5, aU, aL x7, aU, aL x9, aU, aI x11, aI x12, aI x13, aI x14, aU, aU] [aI 1, aI x14] (RM WM wd) h Q X))))) :
    am_V M_L_isRun kc ks 137 [aR 0, aI x1, aR a2, aI x3, aI x4, aL x5, aU, aL x7, aU, aL x9, aU, aI x11, aI x12, aI x13, aI x14, aU, aU] [aL xs0] (RM WM wd) h Q X := by
  refine v_lstore (E2 := [aR 0, aI x1, aR a2, aI x3, aI x4, aL x5, aU, aL x7, aU, aL x9, aU, aI x11, aI x12, aI x13, aI x14, aL xs0, aU]) dL_isRun_137 (Nat.le_of_ble_eq_true rfl) rfl ?_
  refine v_iload dL_isRun_139 rfl ?_
  refine v_lload dL_isRun_141 rfl ?_
  refine v_lload dL_isRun_143 rfl ?_
  refine v_lcmp dL_isRun_145 ?_
  refine v_if_lt (tgt := 164) dL_isRun_146 (by decide) (fun z => ?_) (fun z => ?_)
  · have k := k.1 z
    refine v_iconst dL_isRun_164 ⟨by decide, by decide⟩ ?_
    refine v_weak (E2 := [aR 0, aI x1, aR a2, aI x3, aI x4, aL x5, aU, aL x7, aU, aL x9, aU, aI x11, aI x12, aI x13, aI x14, aU, aU]) ⟨Or.inl rfl, ⟨Or.inl rfl, ⟨Or.inl rfl, ⟨Or.inl rfl, ⟨Or.inl rfl, ⟨Or.inl rfl, ⟨Or.inl rfl, ⟨Or.inl rfl, ⟨Or.inl rfl, ⟨Or.inl rfl, ⟨Or.inl rfl, ⟨Or.inl rfl, ⟨Or.inl rfl, ⟨Or.inl rfl, ⟨Or.inl rfl, ⟨Or.inr rfl, ⟨Or.inl rfl, trivial⟩⟩⟩⟩⟩⟩⟩⟩⟩⟩⟩⟩⟩⟩⟩⟩⟩ ?_
    exact k
  · have k := k.2 z
    refine v_lload dL_isRun_149 rfl ?_
    refine v_lload dL_isRun_151 rfl ?_
    refine v_lload dL_isRun_153 rfl ?_
    refine v_ladd dL_isRun_155 ?_
    refine v_lcmp dL_isRun_156 ?_
    refine v_if_ge (tgt := 164) dL_isRun_157 (by decide) (fun z => ?_) (fun z => ?_)
    · have k := k.1 z
      refine v_iconst dL_isRun_164 ⟨by decide, by decide⟩ ?_
      refine v_weak (E2 := [aR 0, aI x1, aR a2, aI x3, aI x4, aL x5, aU, aL x7, aU, aL x9, aU, aI x11, aI x12, aI x13, aI x14, aU, aU]) ⟨Or.inl rfl, ⟨Or.inl rfl, ⟨Or.inl rfl, ⟨Or.inl rfl, ⟨Or.inl rfl, ⟨Or.inl rfl, ⟨Or.inl rfl, ⟨Or.inl rfl, ⟨Or.inl rfl, ⟨Or.inl rfl, ⟨Or.inl rfl, ⟨Or.inl rfl, ⟨Or.inl rfl, ⟨Or.inl rfl, ⟨Or.inl rfl, ⟨Or.inr rfl, ⟨Or.inl rfl, trivial⟩⟩⟩⟩⟩⟩⟩⟩⟩⟩⟩⟩⟩⟩⟩⟩⟩ ?_
      exact k
    · have k := k.2 z
      refine v_iconst dL_isRun_160 ⟨by decide, by decide⟩ ?_
      refine v_goto (tgt := 165) dL_isRun_161 (by decide) ?_
      refine v_weak (E2 := [aR 0, aI x1, aR a2, aI x3, aI x4, aL x5, aU, aL x7, aU, aL x9, aU, aI x11, aI x12, aI x13, aI x14, aU, aU]) ⟨Or.inl rfl, ⟨Or.inl rfl, ⟨Or.inl rfl, ⟨Or.inl rfl, ⟨Or.inl rfl, ⟨Or.inl rfl, ⟨Or.inl rfl, ⟨Or.inl rfl, ⟨Or.inl rfl, ⟨Or.inl rfl, ⟨Or.inl rfl, ⟨Or.inl rfl, ⟨Or.inl rfl, ⟨Or.inl rfl, ⟨Or.inl rfl, ⟨Or.inr rfl, ⟨Or.inl rfl, trivial⟩⟩⟩⟩⟩⟩⟩⟩⟩⟩⟩⟩⟩⟩⟩⟩⟩ ?_
      exact k
theorem S_L_isRun_283 {kc ks : Nat} {h : Hh} {Q : PQ} {X : PX} {x1 : Int} {a2 n2 : Nat} (q2 : (RM WM wd).1[a2]? = some (1, n2)) {x3 : Int} {x4 : Int} {x9 : Int} {xs0 : Int}
    (k : (((if x4 < xs0 then 1 else if xs0 = x4 then 0 else -1) = 0 → am_V M_L_isRun kc ks 295 [aR 0, aI x1, aR a2, aI x3, aI x4, aU, aU, aU, aU, aL x9, aU, aU, aU, aI 0, aU, aU, aU] [] (RM WM wd) h Q X) ∧ ((if x4 < xs0 then 1 else if xs0 = x4 then 0 else -1) ≠ 0 → Q [aI 0] (RM WM wd) h))) :
    am_V M_L_isRun kc ks 283 [aR 0, aI x1, aR a2, aI x3, aI x4, aU, aU, aU, aU, aL x9, aU, aU, aU, aU, aU, aU, aU] [aL xs0] (RM WM wd) h Q X := by
  refine v_iload dL_isRun_283 rfl ?_
  refine v_i2l dL_isRun_285 ?_
  refine v_lcmp dL_isRun_286 ?_
  refine v_if_eq (tgt := 292) dL_isRun_287 (by decide) (fun z => ?_) (fun z => ?_)
  · have k := k.1 z
    refine v_iconst dL_isRun_292 ⟨by decide, by decide⟩ ?_
    refine v_istore (E2 := [aR 0, aI x1, aR a2, aI x3, aI x4, aU, aU, aU, aU, aL x9, aU, aU, aU, aI 0, aU, aU, aU]) dL_isRun_293 (Nat.le_of_ble_eq_true rfl) rfl ?_
    exact k
  · have k := k.2 z
    refine v_iconst dL_isRun_290 ⟨by decide, by decide⟩ ?_
    exact v_zret dL_isRun_291 rfl rfl (Or.inl rfl) k
theorem S_L_isRun_165 {kc ks : Nat} {h : Hh} {Q : PQ} {X : PX} {x1 : Int} {a2 n2 : Nat} (q2 : (RM WM wd).1[a2]? = some (1, n2)) {x3 : Int} {x4 : Int} {x5 : Int} {x7 : Int} {x9 : Int} {x11 : Int} {x12 : Int} {x13 : Int} {x14 : Int} {xs0 : Int} {xs1 : Int}
    (k : ((xs1 = xs0 → am_V M_L_isRun kc ks 170 [aR 0, aI x1, aR a2, aI x3, aI x4, aL x5, aU, aL x7, aU, aL x9, aU, aI x11, aI x12, aI x13, aI x14, aU, aU] [] (RM WM wd) h Q X) ∧ (xs1 ≠ xs0 → Q [aI 0] (RM WM wd) h))) :
    am_V M_L_isRun kc ks 165 [aR 0, aI x1, aR a2, aI x3, aI x4, aL x5, aU, aL x7, aU, aL x9, aU, aI x11, aI x12, aI x13, aI x14, aU, aU] [aI xs0, aI xs1] (RM WM wd) h Q X := by
  refine v_icmp_eq (tgt := 170) dL_isRun_165 (by decide) (fun z => ?_) (fun z => ?_)
  · have k := k.1 z
    exact k
  · have k := k.2 z
    refine v_iconst dL_isRun_168 ⟨by decide, by decide⟩ ?_
    exact v_zret dL_isRun_169 rfl rfl (Or.inl rfl) k
theorem S_L_isRun_295 {kc ks : Nat} {h : Hh} {Q : PQ} {X : PX} {x1 : Int} {a2 n2 : Nat} (q2 : (RM WM wd).1[a2]? = some (1, n2)) {x3 : Int} {x4 : Int} {x9 : Int} {x13 : Int}
    (k : ((x4 ≤ x13 → (3 ≤ kc ∧ 18 ≤ ks) ∧ am_V M_L_numberOf 3 18 0 [aR 0, aI x1, aU] [] (RM WM wd) h (fun v ρ' h' => am_V M_L_isRun (kc - 3) (ks - 18) 332 [aR 0, aI x1, aU, aU, aU, aU, aU, aU, aU, aL x9, aU, aU, aU, aU, aU, aU, aU] (v ++ []) ρ' h' Q X) X) ∧ (x13 < x4 → (1 ≤ kc ∧ 6 ≤ ks) ∧ am_V M_L_typed 1 6 0 [aR 0, aI x13, aU] [] (RM WM wd) h (fun v ρ' h' => am_V M_L_isRun (kc - 1) (ks - 6) 308 [aR 0, aI x1, aR a2, aI x3, aI x4, aU, aU, aU, aU, aL x9, aU, aU, aU, aI x13, aU, aU, aU] (v ++ []) ρ' h' Q X) X))) :
    am_V M_L_isRun kc ks 295 [aR 0, aI x1, aR a2, aI x3, aI x4, aU, aU, aU, aU, aL x9, aU, aU, aU, aI x13, aU, aU, aU] [] (RM WM wd) h Q X := by
  refine v_iload dL_isRun_295 rfl ?_
  refine v_iload dL_isRun_297 rfl ?_
  refine v_icmp_ge (tgt := 327) dL_isRun_299 (by decide) (fun z => ?_) (fun z => ?_)
  · have k := k.1 z
    obtain ⟨⟨b1_1, b1_2⟩, k⟩ := k
    refine v_aload_n dL_isRun_327 rfl rfl ?_
    refine v_iload_n dL_isRun_328 rfl rfl ?_
    refine v_weak (E2 := [aR 0, aI x1, aU, aU, aU, aU, aU, aU, aU, aL x9, aU, aU, aU, aU, aU, aU, aU]) ⟨Or.inl rfl, ⟨Or.inl rfl, ⟨Or.inr rfl, ⟨Or.inr rfl, ⟨Or.inr rfl, ⟨Or.inl rfl, ⟨Or.inl rfl, ⟨Or.inl rfl, ⟨Or.inl rfl, ⟨Or.inl rfl, ⟨Or.inl rfl, ⟨Or.inl rfl, ⟨Or.inl rfl, ⟨Or.inr rfl, ⟨Or.inl rfl, ⟨Or.inl rfl, ⟨Or.inl rfl, trivial⟩⟩⟩⟩⟩⟩⟩⟩⟩⟩⟩⟩⟩⟩⟩⟩⟩ ?_
    exact v_callSX (j := M_L_numberOf) (As := [aR 0, aI x1]) (st := []) (E0 := [aR 0, aI x1, aU]) dL_isRun_329 ms_L_196 J_L_numberOf b1_1 b1_2 (Nat.le_of_ble_eq_true rfl) rfl (Nat.le_of_ble_eq_true rfl) (List.forall_mem_cons.mpr ⟨rfl, List.forall_mem_cons.mpr ⟨rfl, fun _ h9 => absurd h9 List.not_mem_nil⟩⟩) (Nat.le_of_ble_eq_true rfl) rfl pn_L_numberOf rfl k
  · have k := k.2 z
    obtain ⟨⟨b1_1, b1_2⟩, k⟩ := k
    refine v_aload_n dL_isRun_302 rfl rfl ?_
    refine v_iload dL_isRun_303 rfl ?_
    exact v_callSX (j := M_L_typed) (As := [aR 0, aI x13]) (st := []) (E0 := [aR 0, aI x13, aU]) dL_isRun_305 ms_L_175 J_L_typed b1_1 b1_2 (Nat.le_of_ble_eq_true rfl) rfl (Nat.le_of_ble_eq_true rfl) (List.forall_mem_cons.mpr ⟨rfl, List.forall_mem_cons.mpr ⟨rfl, fun _ h9 => absurd h9 List.not_mem_nil⟩⟩) (Nat.le_of_ble_eq_true rfl) rfl pn_L_typed rfl k
theorem S_L_isRun_170 {kc ks : Nat} {h : Hh} {Q : PQ} {X : PX} {x1 : Int} {a2 n2 : Nat} (q2 : (RM WM wd).1[a2]? = some (1, n2)) {x3 : Int} {x4 : Int} {x5 : Int} {x7 : Int} {x9 : Int} {x11 : Int} {x12 : Int} {x13 : Int} {x14 : Int}
    (k : ((x14 = 0 → am_V M_L_isRun kc ks 191 [aR 0, aI x1, aR a2, aI x3, aI x4, aL x5, aU, aL x7, aU, aL x9, aU, aI x11, aI x12, aI x13, aI x14, aU, aU] [] (RM WM wd) h Q X) ∧ (x14 ≠ 0 → (3 ≤ kc ∧ 18 ≤ ks) ∧ am_V M_L_standsAt 3 18 0 [aR 0, aI x1, aI x11, aU] [] (RM WM wd) h (fun v ρ' h' => am_V M_L_isRun (kc - 3) (ks - 18) 182 [aR 0, aI x1, aR a2, aI x3, aI x4, aL x5, aU, aL x7, aU, aL x9, aU, aI x11, aI x12, aI x13, aI x14, aU, aU] (v ++ []) ρ' h' Q X) X))) :
    am_V M_L_isRun kc ks 170 [aR 0, aI x1, aR a2, aI x3, aI x4, aL x5, aU, aL x7, aU, aL x9, aU, aI x11, aI x12, aI x13, aI x14, aU, aU] [] (RM WM wd) h Q X := by
  refine v_iload dL_isRun_170 rfl ?_
  refine v_if_eq (tgt := 191) dL_isRun_172 (by decide) (fun z => ?_) (fun z => ?_)
  · have k := k.1 z
    exact k
  · have k := k.2 z
    obtain ⟨⟨b1_1, b1_2⟩, k⟩ := k
    refine v_aload_n dL_isRun_175 rfl rfl ?_
    refine v_iload_n dL_isRun_176 rfl rfl ?_
    refine v_iload dL_isRun_177 rfl ?_
    exact v_callSX (j := M_L_standsAt) (As := [aR 0, aI x1, aI x11]) (st := []) (E0 := [aR 0, aI x1, aI x11, aU]) dL_isRun_179 ms_L_200 J_L_standsAt b1_1 b1_2 (Nat.le_of_ble_eq_true rfl) rfl (Nat.le_of_ble_eq_true rfl) (List.forall_mem_cons.mpr ⟨rfl, List.forall_mem_cons.mpr ⟨rfl, List.forall_mem_cons.mpr ⟨rfl, fun _ h9 => absurd h9 List.not_mem_nil⟩⟩⟩) (Nat.le_of_ble_eq_true rfl) rfl pn_L_standsAt rfl k
theorem S_L_isRun_332 {kc ks : Nat} {h : Hh} {Q : PQ} {X : PX} {x1 : Int} {x9 : Int} {xs0 : Int}
    (k : (((if x9 < xs0 then 1 else if xs0 = x9 then 0 else -1) ≠ 0 → Q [aI 0] (RM WM wd) h) ∧ ((if x9 < xs0 then 1 else if xs0 = x9 then 0 else -1) = 0 → (((if 0 < x9 then 1 else if x9 = 0 then 0 else -1) < 0 → Q [aI 0] (RM WM wd) h) ∧ (0 ≤ (if 0 < x9 then 1 else if x9 = 0 then 0 else -1) → (1 ≤ kc ∧ 6 ≤ ks) ∧ am_V M_L_words 1 6 0 [aR 0, aI x1, aU] [] (RM WM wd) h (fun v ρ' h' => am_V M_L_isRun (kc - 1) (ks - 6) 352 [aU, aU, aU, aU, aU, aU, aU, aU, aU, aU, aU, aU, aU, aU, aU, aU, aU] (v ++ [aL x9]) ρ' h' Q X) X))))) :
    am_V M_L_isRun kc ks 332 [aR 0, aI x1, aU, aU, aU, aU, aU, aU, aU, aL x9, aU, aU, aU, aU, aU, aU, aU] [aL xs0] (RM WM wd) h Q X := by
  refine v_lload dL_isRun_332 rfl ?_
  refine v_lcmp dL_isRun_334 ?_
  refine v_if_ne (tgt := 360) dL_isRun_335 (by decide) (fun z => ?_) (fun z => ?_)
  · have k := k.1 z
    refine v_iconst dL_isRun_360 ⟨by decide, by decide⟩ ?_
    exact v_zret dL_isRun_361 rfl rfl (Or.inl rfl) k
  · have k := k.2 z
    refine v_lload dL_isRun_338 rfl ?_
    refine v_lconst (x := 0) dL_isRun_340 rfl ?_
    refine v_lcmp dL_isRun_341 ?_
    refine v_if_lt (tgt := 360) dL_isRun_342 (by decide) (fun z => ?_) (fun z => ?_)
    · have k := k.1 z
      refine v_iconst dL_isRun_360 ⟨by decide, by decide⟩ ?_
      exact v_zret dL_isRun_361 rfl rfl (Or.inl rfl) k
    · have k := k.2 z
      obtain ⟨⟨b2_1, b2_2⟩, k⟩ := k
      refine v_lload dL_isRun_345 rfl ?_
      refine v_aload_n dL_isRun_347 rfl rfl ?_
      refine v_iload_n dL_isRun_348 rfl rfl ?_
      refine v_weak (E2 := [aU, aU, aU, aU, aU, aU, aU, aU, aU, aU, aU, aU, aU, aU, aU, aU, aU]) ⟨Or.inr rfl, ⟨Or.inr rfl, ⟨Or.inl rfl, ⟨Or.inl rfl, ⟨Or.inl rfl, ⟨Or.inl rfl, ⟨Or.inl rfl, ⟨Or.inl rfl, ⟨Or.inl rfl, ⟨Or.inr rfl, ⟨Or.inl rfl, ⟨Or.inl rfl, ⟨Or.inl rfl, ⟨Or.inl rfl, ⟨Or.inl rfl, ⟨Or.inl rfl, ⟨Or.inl rfl, trivial⟩⟩⟩⟩⟩⟩⟩⟩⟩⟩⟩⟩⟩⟩⟩⟩⟩ ?_
      exact v_callSX (j := M_L_words) (As := [aR 0, aI x1]) (st := [aL x9]) (E0 := [aR 0, aI x1, aU]) dL_isRun_349 ms_L_206 J_L_words b2_1 b2_2 (Nat.le_of_ble_eq_true rfl) rfl (Nat.le_of_ble_eq_true rfl) (List.forall_mem_cons.mpr ⟨rfl, List.forall_mem_cons.mpr ⟨rfl, fun _ h9 => absurd h9 List.not_mem_nil⟩⟩) (Nat.le_of_ble_eq_true rfl) rfl pn_L_words rfl k
theorem S_L_isRun_308 {kc ks : Nat} {h : Hh} {Q : PQ} {X : PX} {x1 : Int} {a2 n2 : Nat} (q2 : (RM WM wd).1[a2]? = some (1, n2)) {x3 : Int} {x4 : Int} {x9 : Int} {x13 : Int} {xs0 : Int}
    (k : ((-2147483648 ≤ ((x3 + x13) : Int) ∧ ((x3 + x13) : Int) < 2147483648) ∧ (0 : Int) ≤ (x3 + x13) ∧ ((x3 + x13) : Int) < ((n2 : Nat) : Int)) ∧ (((if (h a2 (x3 + x13)) < xs0 then 1 else if xs0 = (h a2 (x3 + x13)) then 0 else -1) = 0 → ((-2147483648 ≤ ((x13 + 1) : Int) ∧ ((x13 + 1) : Int) < 2147483648)) ∧ am_V M_L_isRun kc ks 295 [aR 0, aI x1, aR a2, aI x3, aI x4, aU, aU, aU, aU, aL x9, aU, aU, aU, aI (x13 + 1), aU, aU, aU] [] (RM WM wd) h Q X) ∧ ((if (h a2 (x3 + x13)) < xs0 then 1 else if xs0 = (h a2 (x3 + x13)) then 0 else -1) ≠ 0 → Q [aI 0] (RM WM wd) h))) :
    am_V M_L_isRun kc ks 308 [aR 0, aI x1, aR a2, aI x3, aI x4, aU, aU, aU, aU, aL x9, aU, aU, aU, aI x13, aU, aU, aU] [aL xs0] (RM WM wd) h Q X := by
  obtain ⟨⟨b0_1, b0_2, b0_3⟩, k⟩ := k
  refine v_aload_n dL_isRun_308 rfl rfl ?_
  refine v_iload_n dL_isRun_309 rfl rfl ?_
  refine v_iload dL_isRun_310 rfl ?_
  refine v_iadd dL_isRun_312 b0_1 ?_
  refine v_cald dL_isRun_313 q2 b0_2 b0_3 ?_
  refine v_i2l dL_isRun_314 ?_
  refine v_lcmp dL_isRun_315 ?_
  refine v_if_eq (tgt := 321) dL_isRun_316 (by decide) (fun z => ?_) (fun z => ?_)
  · have k := k.1 z
    obtain ⟨b1_1, k⟩ := k
    refine v_iinc (E2 := [aR 0, aI x1, aR a2, aI x3, aI x4, aU, aU, aU, aU, aL x9, aU, aU, aU, aI (x13 + 1), aU, aU, aU]) dL_isRun_321 rfl b1_1 rfl ?_
    refine v_goto (tgt := 295) dL_isRun_324 (by decide) ?_
    exact k
  · have k := k.2 z
    refine v_iconst dL_isRun_319 ⟨by decide, by decide⟩ ?_
    exact v_zret dL_isRun_320 rfl rfl (Or.inl rfl) k
theorem S_L_isRun_191 {kc ks : Nat} {h : Hh} {Q : PQ} {X : PX} {x1 : Int} {a2 n2 : Nat} (q2 : (RM WM wd).1[a2]? = some (1, n2)) {x3 : Int} {x4 : Int} {x5 : Int} {x7 : Int} {x9 : Int} {x11 : Int} {x12 : Int} {x13 : Int} {x14 : Int}
    (k : ((x14 = 0 → am_V M_L_isRun kc ks 203 [aR 0, aI x1, aR a2, aI x3, aI x4, aL x5, aU, aL x7, aU, aL x9, aU, aU, aI x12, aI x13, aI x14, aU, aU] [aI 0, aI x11] (RM WM wd) h Q X) ∧ (x14 ≠ 0 → am_V M_L_isRun kc ks 203 [aR 0, aI x1, aR a2, aI x3, aI x4, aL x5, aU, aL x7, aU, aL x9, aU, aU, aI x12, aI x13, aI x14, aU, aU] [aI 1, aI x11] (RM WM wd) h Q X))) :
    am_V M_L_isRun kc ks 191 [aR 0, aI x1, aR a2, aI x3, aI x4, aL x5, aU, aL x7, aU, aL x9, aU, aI x11, aI x12, aI x13, aI x14, aU, aU] [] (RM WM wd) h Q X := by
  refine v_iload dL_isRun_191 rfl ?_
  refine v_iload dL_isRun_193 rfl ?_
  refine v_if_eq (tgt := 202) dL_isRun_195 (by decide) (fun z => ?_) (fun z => ?_)
  · have k := k.1 z
    refine v_iconst dL_isRun_202 ⟨by decide, by decide⟩ ?_
    refine v_weak (E2 := [aR 0, aI x1, aR a2, aI x3, aI x4, aL x5, aU, aL x7, aU, aL x9, aU, aU, aI x12, aI x13, aI x14, aU, aU]) ⟨Or.inl rfl, ⟨Or.inl rfl, ⟨Or.inl rfl, ⟨Or.inl rfl, ⟨Or.inl rfl, ⟨Or.inl rfl, ⟨Or.inl rfl, ⟨Or.inl rfl, ⟨Or.inl rfl, ⟨Or.inl rfl, ⟨Or.inl rfl, ⟨Or.inr rfl, ⟨Or.inl rfl, ⟨Or.inl rfl, ⟨Or.inl rfl, ⟨Or.inl rfl, ⟨Or.inl rfl, trivial⟩⟩⟩⟩⟩⟩⟩⟩⟩⟩⟩⟩⟩⟩⟩⟩⟩ ?_
    exact k
  · have k := k.2 z
    refine v_iconst dL_isRun_198 ⟨by decide, by decide⟩ ?_
    refine v_goto (tgt := 203) dL_isRun_199 (by decide) ?_
    refine v_weak (E2 := [aR 0, aI x1, aR a2, aI x3, aI x4, aL x5, aU, aL x7, aU, aL x9, aU, aU, aI x12, aI x13, aI x14, aU, aU]) ⟨Or.inl rfl, ⟨Or.inl rfl, ⟨Or.inl rfl, ⟨Or.inl rfl, ⟨Or.inl rfl, ⟨Or.inl rfl, ⟨Or.inl rfl, ⟨Or.inl rfl, ⟨Or.inl rfl, ⟨Or.inl rfl, ⟨Or.inl rfl, ⟨Or.inr rfl, ⟨Or.inl rfl, ⟨Or.inl rfl, ⟨Or.inl rfl, ⟨Or.inl rfl, ⟨Or.inl rfl, trivial⟩⟩⟩⟩⟩⟩⟩⟩⟩⟩⟩⟩⟩⟩⟩⟩⟩ ?_
    exact k
theorem S_L_isRun_182 {kc ks : Nat} {h : Hh} {Q : PQ} {X : PX} {x1 : Int} {a2 n2 : Nat} (q2 : (RM WM wd).1[a2]? = some (1, n2)) {x3 : Int} {x4 : Int} {x5 : Int} {x7 : Int} {x9 : Int} {x11 : Int} {x12 : Int} {x13 : Int} {x14 : Int} {xs0 : Int}
    (k : (((if x13 < xs0 then 1 else if xs0 = x13 then 0 else -1) = 0 → am_V M_L_isRun kc ks 191 [aR 0, aI x1, aR a2, aI x3, aI x4, aL x5, aU, aL x7, aU, aL x9, aU, aI x11, aI x12, aI x13, aI x14, aU, aU] [] (RM WM wd) h Q X) ∧ ((if x13 < xs0 then 1 else if xs0 = x13 then 0 else -1) ≠ 0 → Q [aI 0] (RM WM wd) h))) :
    am_V M_L_isRun kc ks 182 [aR 0, aI x1, aR a2, aI x3, aI x4, aL x5, aU, aL x7, aU, aL x9, aU, aI x11, aI x12, aI x13, aI x14, aU, aU] [aL xs0] (RM WM wd) h Q X := by
  refine v_iload dL_isRun_182 rfl ?_
  refine v_i2l dL_isRun_184 ?_
  refine v_lcmp dL_isRun_185 ?_
  refine v_if_eq (tgt := 191) dL_isRun_186 (by decide) (fun z => ?_) (fun z => ?_)
  · have k := k.1 z
    exact k
  · have k := k.2 z
    refine v_iconst dL_isRun_189 ⟨by decide, by decide⟩ ?_
    exact v_zret dL_isRun_190 rfl rfl (Or.inl rfl) k
theorem S_L_isRun_352 {kc ks : Nat} {h : Hh} {Q : PQ} {X : PX} {xs0 : Int} {xs1 : Int}
    (k : ((0 ≤ (if xs0 < xs1 then 1 else if xs1 = xs0 then 0 else -1) → Q [aI 0] (RM WM wd) h) ∧ ((if xs0 < xs1 then 1 else if xs1 = xs0 then 0 else -1) < 0 → Q [aI 1] (RM WM wd) h))) :
    am_V M_L_isRun kc ks 352 [aU, aU, aU, aU, aU, aU, aU, aU, aU, aU, aU, aU, aU, aU, aU, aU, aU] [aL xs0, aL xs1] (RM WM wd) h Q X := by
  refine v_lcmp dL_isRun_352 ?_
  refine v_if_ge (tgt := 360) dL_isRun_353 (by decide) (fun z => ?_) (fun z => ?_)
  · have k := k.1 z
    refine v_iconst dL_isRun_360 ⟨by decide, by decide⟩ ?_
    exact v_zret dL_isRun_361 rfl rfl (Or.inl rfl) k
  · have k := k.2 z
    refine v_iconst dL_isRun_356 ⟨by decide, by decide⟩ ?_
    refine v_goto (tgt := 361) dL_isRun_357 (by decide) ?_
    exact v_zret dL_isRun_361 rfl rfl (Or.inr rfl) k
theorem S_L_isRun_203 {kc ks : Nat} {h : Hh} {Q : PQ} {X : PX} {x1 : Int} {a2 n2 : Nat} (q2 : (RM WM wd).1[a2]? = some (1, n2)) {x3 : Int} {x4 : Int} {x5 : Int} {x7 : Int} {x9 : Int} {x12 : Int} {x13 : Int} {x14 : Int} {xs0 : Int} {xs1 : Int}
    (k : ((-2147483648 ≤ ((xs1 + xs0) : Int) ∧ ((xs1 + xs0) : Int) < 2147483648)) ∧ am_V M_L_isRun kc ks 206 [aR 0, aI x1, aR a2, aI x3, aI x4, aL x5, aU, aL x7, aU, aL x9, aU, aI (xs1 + xs0), aI x12, aI x13, aI x14, aU, aU] [] (RM WM wd) h Q X) :
    am_V M_L_isRun kc ks 203 [aR 0, aI x1, aR a2, aI x3, aI x4, aL x5, aU, aL x7, aU, aL x9, aU, aU, aI x12, aI x13, aI x14, aU, aU] [aI xs0, aI xs1] (RM WM wd) h Q X := by
  obtain ⟨b0_1, k⟩ := k
  refine v_iadd dL_isRun_203 b0_1 ?_
  refine v_istore (E2 := [aR 0, aI x1, aR a2, aI x3, aI x4, aL x5, aU, aL x7, aU, aL x9, aU, aI (xs1 + xs0), aI x12, aI x13, aI x14, aU, aU]) dL_isRun_204 (Nat.le_of_ble_eq_true rfl) rfl ?_
  exact k
theorem S_L_isRun_206 {kc ks : Nat} {h : Hh} {Q : PQ} {X : PX} {x1 : Int} {a2 n2 : Nat} (q2 : (RM WM wd).1[a2]? = some (1, n2)) {x3 : Int} {x4 : Int} {x5 : Int} {x7 : Int} {x9 : Int} {x11 : Int} {x12 : Int} {x13 : Int} {x14 : Int}
    (k : ((x14 = 0 → am_V M_L_isRun kc ks 225 [aR 0, aI x1, aR a2, aI x3, aI x4, aL x5, aU, aL x7, aU, aL x9, aU, aI x11, aI x12, aI x13, aU, aU, aU] [] (RM WM wd) h Q X) ∧ (x14 ≠ 0 → ((0 ≤ x12 → am_V M_L_isRun kc ks 225 [aR 0, aI x1, aR a2, aI x3, aI x4, aL x5, aU, aL x7, aU, aL x9, aU, aI x11, aI x12, aI x13, aU, aU, aU] [] (RM WM wd) h Q X) ∧ (x12 < 0 → am_V M_L_isRun kc ks 225 [aR 0, aI x1, aR a2, aI x3, aI x4, aL x5, aU, aL x7, aU, aL x9, aU, aI x11, aI x13, aI x13, aU, aU, aU] [] (RM WM wd) h Q X))))) :
    am_V M_L_isRun kc ks 206 [aR 0, aI x1, aR a2, aI x3, aI x4, aL x5, aU, aL x7, aU, aL x9, aU, aI x11, aI x12, aI x13, aI x14, aU, aU] [] (RM WM wd) h Q X := by
  refine v_iload dL_isRun_206 rfl ?_
  refine v_if_eq (tgt := 221) dL_isRun_208 (by decide) (fun z => ?_) (fun z => ?_)
  · have k := k.1 z
    refine v_iload dL_isRun_221 rfl ?_
    refine v_istore (E2 := [aR 0, aI x1, aR a2, aI x3, aI x4, aL x5, aU, aL x7, aU, aL x9, aU, aI x11, aI x12, aI x13, aI x14, aU, aU]) dL_isRun_223 (Nat.le_of_ble_eq_true rfl) rfl ?_
    refine v_weak (E2 := [aR 0, aI x1, aR a2, aI x3, aI x4, aL x5, aU, aL x7, aU, aL x9, aU, aI x11, aI x12, aI x13, aU, aU, aU]) ⟨Or.inl rfl, ⟨Or.inl rfl, ⟨Or.inl rfl, ⟨Or.inl rfl, ⟨Or.inl rfl, ⟨Or.inl rfl, ⟨Or.inl rfl, ⟨Or.inl rfl, ⟨Or.inl rfl, ⟨Or.inl rfl, ⟨Or.inl rfl, ⟨Or.inl rfl, ⟨Or.inl rfl, ⟨Or.inl rfl, ⟨Or.inr rfl, ⟨Or.inl rfl, ⟨Or.inl rfl, trivial⟩⟩⟩⟩⟩⟩⟩⟩⟩⟩⟩⟩⟩⟩⟩⟩⟩ ?_
    exact k
  · have k := k.2 z
    refine v_iload dL_isRun_211 rfl ?_
    refine v_if_ge (tgt := 221) dL_isRun_213 (by decide) (fun z => ?_) (fun z => ?_)
    · have k := k.1 z
      refine v_iload dL_isRun_221 rfl ?_
      refine v_istore (E2 := [aR 0, aI x1, aR a2, aI x3, aI x4, aL x5, aU, aL x7, aU, aL x9, aU, aI x11, aI x12, aI x13, aI x14, aU, aU]) dL_isRun_223 (Nat.le_of_ble_eq_true rfl) rfl ?_
      refine v_weak (E2 := [aR 0, aI x1, aR a2, aI x3, aI x4, aL x5, aU, aL x7, aU, aL x9, aU, aI x11, aI x12, aI x13, aU, aU, aU]) ⟨Or.inl rfl, ⟨Or.inl rfl, ⟨Or.inl rfl, ⟨Or.inl rfl, ⟨Or.inl rfl, ⟨Or.inl rfl, ⟨Or.inl rfl, ⟨Or.inl rfl, ⟨Or.inl rfl, ⟨Or.inl rfl, ⟨Or.inl rfl, ⟨Or.inl rfl, ⟨Or.inl rfl, ⟨Or.inl rfl, ⟨Or.inr rfl, ⟨Or.inl rfl, ⟨Or.inl rfl, trivial⟩⟩⟩⟩⟩⟩⟩⟩⟩⟩⟩⟩⟩⟩⟩⟩⟩ ?_
      exact k
    · have k := k.2 z
      refine v_iload dL_isRun_216 rfl ?_
      refine v_goto (tgt := 223) dL_isRun_218 (by decide) ?_
      refine v_istore (E2 := [aR 0, aI x1, aR a2, aI x3, aI x4, aL x5, aU, aL x7, aU, aL x9, aU, aI x11, aI x13, aI x13, aI x14, aU, aU]) dL_isRun_223 (Nat.le_of_ble_eq_true rfl) rfl ?_
      refine v_weak (E2 := [aR 0, aI x1, aR a2, aI x3, aI x4, aL x5, aU, aL x7, aU, aL x9, aU, aI x11, aI x13, aI x13, aU, aU, aU]) ⟨Or.inl rfl, ⟨Or.inl rfl, ⟨Or.inl rfl, ⟨Or.inl rfl, ⟨Or.inl rfl, ⟨Or.inl rfl, ⟨Or.inl rfl, ⟨Or.inl rfl, ⟨Or.inl rfl, ⟨Or.inl rfl, ⟨Or.inl rfl, ⟨Or.inl rfl, ⟨Or.inl rfl, ⟨Or.inl rfl, ⟨Or.inr rfl, ⟨Or.inl rfl, ⟨Or.inl rfl, trivial⟩⟩⟩⟩⟩⟩⟩⟩⟩⟩⟩⟩⟩⟩⟩⟩⟩ ?_
      exact k
theorem S_L_isRun_225 {kc ks : Nat} {h : Hh} {Q : PQ} {X : PX} {x1 : Int} {a2 n2 : Nat} (q2 : (RM WM wd).1[a2]? = some (1, n2)) {x3 : Int} {x4 : Int} {x5 : Int} {x7 : Int} {x9 : Int} {x11 : Int} {x12 : Int} {x13 : Int}
    (k : ((-2147483648 ≤ ((x13 + 1) : Int) ∧ ((x13 + 1) : Int) < 2147483648)) ∧ am_V M_L_isRun kc ks 62 [aR 0, aI x1, aR a2, aI x3, aI x4, aL x5, aU, aL x7, aU, aL x9, aU, aI x11, aI x12, aI (x13 + 1), aU, aU, aU] [] (RM WM wd) h Q X) :
    am_V M_L_isRun kc ks 225 [aR 0, aI x1, aR a2, aI x3, aI x4, aL x5, aU, aL x7, aU, aL x9, aU, aI x11, aI x12, aI x13, aU, aU, aU] [] (RM WM wd) h Q X := by
  obtain ⟨b0_1, k⟩ := k
  refine v_iinc (E2 := [aR 0, aI x1, aR a2, aI x3, aI x4, aL x5, aU, aL x7, aU, aL x9, aU, aI x11, aI x12, aI (x13 + 1), aU, aU, aU]) dL_isRun_225 rfl b0_1 rfl ?_
  refine v_goto (tgt := 62) dL_isRun_228 (by decide) ?_
  exact k
