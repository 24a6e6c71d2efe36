variable {WM : List (Nat × Nat)} {wd : Bool}
theorem S_X10_type_0 {kc ks : Nat} {h : Hh} {Q : PQ} {X : PX} {x1 : Int}
    (k : am_V M_X10_isTypable 0 0 0 [aI x1] [] (RM WM wd) h (fun v ρ' h' => am_V M_X10_type kc ks 4 [aR 0, aI x1] (v ++ []) ρ' h' Q X) X) :
    am_V M_X10_type kc ks 0 [aR 0, aI x1] [] (RM WM wd) h Q X := by
  refine v_iload_n dX10_type_0 rfl rfl ?_
  exact v_callS (j := M_X10_isTypable) (As := [aI x1]) (st := []) (E0 := [aI x1]) dX10_type_1 ms_X10_69 J_X10_isTypable (Nat.zero_le _) (Nat.zero_le _) (Nat.le_of_ble_eq_true rfl) rfl (Nat.le_of_ble_eq_true rfl) (List.forall_mem_cons.mpr ⟨rfl, fun _ h9 => absurd h9 List.not_mem_nil⟩) (Nat.le_of_ble_eq_true rfl) rfl pn_X10_isTypable rfl k
theorem S_X10_type_4 {kc ks : Nat} {h : Hh} {Q : PQ} {X : PX} {x1 : Int} {xs0 : Int}
    (k : ((xs0 ≠ 0 → (((h 2 1) < 65 → am_V M_X8_put 0 0 0 [aR 2, aI x1] [] (RM WM wd) h (fun v ρ' h' => am_V M_X10_type kc ks 47 [aR 0, aU] (v ++ []) ρ' h' Q X) X) ∧ (65 ≤ (h 2 1) → (1 ≤ kc ∧ 6 ≤ ks) ∧ X "java/lang/IllegalStateException" (RM WM false) h))) ∧ (xs0 = 0 → (1 ≤ kc ∧ 6 ≤ ks) ∧ X "java/lang/IllegalArgumentException" (RM WM false) h))) :
    am_V M_X10_type kc ks 4 [aR 0, aI x1] [aI xs0] (RM WM wd) h Q X := by
  refine v_if_ne (tgt := 17) dX10_type_4 (by decide) (fun z => ?_) (fun z => ?_)
  · have k := k.1 z
    refine v_aload_n dX10_type_17 rfl rfl ?_
    refine v_getR (x := 2) dX10_type_18 fl_X10_18 am_clsA rfl rfl rfl ?_
    refine v_getI (j := 1) dX10_type_21 fl_X10_80 am_clsA rfl rfl rfl ?_
    refine v_bipush dX10_type_24 (by decide) (by decide) ?_
    refine v_icmp_lt (tgt := 39) dX10_type_26 (by decide) (fun z => ?_) (fun z => ?_)
    · have k := k.1 z
      refine v_aload_n dX10_type_39 rfl rfl ?_
      refine v_getR (x := 2) dX10_type_40 fl_X10_18 am_clsA rfl rfl rfl ?_
      refine v_iload_n dX10_type_43 rfl rfl ?_
      refine v_weak (E2 := [aR 0, aU]) ⟨Or.inl rfl, ⟨Or.inr rfl, trivial⟩⟩ ?_
      exact v_callV (j := M_X8_put) (As := [aI x1]) (st := []) (E0 := [aR 2, aI x1]) (a := 2) (ci := 6) (N := 2) (q9 := (RX8, TX8, 2)) dX10_type_44 ml_X10_89 J_X8_put (Nat.zero_le _) (Nat.zero_le _) (Nat.le_of_ble_eq_true rfl) rfl (Nat.le_of_ble_eq_true rfl) (List.forall_mem_cons.mpr ⟨rfl, List.forall_mem_cons.mpr ⟨rfl, fun _ h9 => absurd h9 List.not_mem_nil⟩⟩) (Nat.le_of_ble_eq_true rfl) rfl rfl rfl rfl pn_X8_put rfl k
    · have k := k.2 z
      obtain ⟨⟨b2_1, b2_2⟩, k⟩ := k
      exact v_throw dX10_type_29 dX10_type_32 dX10_type_33 dX10_type_35 dX10_type_38 th_84_86_88 rfl rfl (by decide) (Nat.le_of_ble_eq_true rfl) b2_1 b2_2 k
  · have k := k.2 z
    obtain ⟨⟨b1_1, b1_2⟩, k⟩ := k
    exact v_throw dX10_type_7 dX10_type_10 dX10_type_11 dX10_type_13 dX10_type_16 th_73_75_77 rfl rfl (by decide) (Nat.le_of_ble_eq_true rfl) b1_1 b1_2 k
theorem S_X10_type_47 {kc ks : Nat} {h : Hh} {Q : PQ} {X : PX} 
    (k : Q [aI (h 2 1)] (RM WM wd) h) :
    am_V M_X10_type kc ks 47 [aR 0, aU] [] (RM WM wd) h Q X := by
  refine v_aload_n dX10_type_47 rfl rfl ?_
  refine v_getR (x := 2) dX10_type_48 fl_X10_18 am_clsA rfl rfl rfl ?_
  refine v_getI (j := 1) dX10_type_51 fl_X10_80 am_clsA rfl rfl rfl ?_
  exact v_iret dX10_type_54 rfl rfl k
theorem S_X10_wipe_0 {kc ks : Nat} {h : Hh} {Q : PQ} {X : PX} 
    (k : Q [aI (h 2 1)] (RM WM wd) (am_st h 2 1 0)) :
    am_V M_X10_wipe kc ks 0 [aR 0, aU] [] (RM WM wd) h Q X := by
  refine v_aload_n dX10_wipe_0 rfl rfl ?_
  refine v_getR (x := 2) dX10_wipe_1 fl_X10_18 am_clsA rfl rfl rfl ?_
  refine v_getI (j := 1) dX10_wipe_4 fl_X10_80 am_clsA rfl rfl rfl ?_
  refine v_istore_n (E2 := [aR 0, aI (h 2 1)]) dX10_wipe_7 rfl (Nat.le_of_ble_eq_true rfl) rfl ?_
  refine v_aload_n dX10_wipe_8 rfl rfl ?_
  refine v_getR (x := 2) dX10_wipe_9 fl_X10_18 am_clsA rfl rfl rfl ?_
  refine v_iconst dX10_wipe_12 ⟨by decide, by decide⟩ ?_
  refine v_putI (j := 1) dX10_wipe_13 pl_X10_80 am_clsA rfl rfl rfl ?_
  refine v_iload_n dX10_wipe_16 rfl rfl ?_
  exact v_iret dX10_wipe_17 rfl rfl k
theorem S_X10_typed_0 {kc ks : Nat} {h : Hh} {Q : PQ} {X : PX} {x1 : Int}
    (k : ((x1 < 0 → (1 ≤ kc ∧ 6 ≤ ks) ∧ X "java/util/NoSuchElementException" (RM WM false) h) ∧ (0 ≤ x1 → ((x1 < (h 2 1) → ((0 : Int) ≤ x1 ∧ (x1 : Int) < 65 ∧ (0 : Int) ≤ (h 3 x1) ∧ ((h 3 x1) : Int) < 65536) ∧ Q [aI (h 3 x1)] (RM WM wd) h) ∧ ((h 2 1) ≤ x1 → (1 ≤ kc ∧ 6 ≤ ks) ∧ X "java/util/NoSuchElementException" (RM WM false) h))))) :
    am_V M_X10_typed kc ks 0 [aR 0, aI x1] [] (RM WM wd) h Q X := by
  refine v_iload_n dX10_typed_0 rfl rfl ?_
  refine v_if_lt (tgt := 15) dX10_typed_1 (by decide) (fun z => ?_) (fun z => ?_)
  · have k := k.1 z
    obtain ⟨⟨b1_1, b1_2⟩, k⟩ := k
    exact v_throwX dX10_typed_15 dX10_typed_18 dX10_typed_19 dX10_typed_21 dX10_typed_24 th_97_99_101 rfl rfl (by decide) (Nat.le_of_ble_eq_true rfl) b1_1 b1_2 k
  · have k := k.2 z
    refine v_iload_n dX10_typed_4 rfl rfl ?_
    refine v_aload_n dX10_typed_5 rfl rfl ?_
    refine v_getR (x := 2) dX10_typed_6 fl_X10_18 am_clsA rfl rfl rfl ?_
    refine v_getI (j := 1) dX10_typed_9 fl_X10_80 am_clsA rfl rfl rfl ?_
    refine v_icmp_lt (tgt := 25) dX10_typed_12 (by decide) (fun z => ?_) (fun z => ?_)
    · have k := k.1 z
      obtain ⟨⟨b2_1, b2_2, b2_3, b2_4⟩, k⟩ := k
      refine v_aload_n dX10_typed_25 rfl rfl ?_
      refine v_getR (x := 2) dX10_typed_26 fl_X10_18 am_clsA rfl rfl rfl ?_
      refine v_getR (x := 3) dX10_typed_29 fl_X10_102 am_clsA rfl rfl rfl ?_
      refine v_iload_n dX10_typed_32 rfl rfl ?_
      refine v_cald dX10_typed_33 rfl b2_1 b2_2 ?_
      exact v_cret dX10_typed_34 rfl rfl b2_3 b2_4 k
    · have k := k.2 z
      obtain ⟨⟨b2_1, b2_2⟩, k⟩ := k
      exact v_throwX dX10_typed_15 dX10_typed_18 dX10_typed_19 dX10_typed_21 dX10_typed_24 th_97_99_101 rfl rfl (by decide) (Nat.le_of_ble_eq_true rfl) b2_1 b2_2 k
theorem S_X10_text_0 {kc ks : Nat} {h : Hh} {Q : PQ} {X : PX} 
    (k : ((64 < (h 2 1) → (1 ≤ kc ∧ 6 ≤ ks) ∧ X "java/lang/UnsupportedOperationException" (RM WM false) h) ∧ ((h 2 1) ≤ 64 → am_V M_X8_hasEndSign 0 0 0 [aR 2, aU] [] (RM WM wd) h (fun v ρ' h' => am_V M_X10_text kc ks 19 [aR 0, aU] (v ++ []) ρ' h' Q X) X))) :
    am_V M_X10_text kc ks 0 [aR 0, aU] [] (RM WM wd) h Q X := by
  refine v_aload_n dX10_text_0 rfl rfl ?_
  refine v_getR (x := 2) dX10_text_1 fl_X10_18 am_clsA rfl rfl rfl ?_
  refine v_getI (j := 1) dX10_text_4 fl_X10_80 am_clsA rfl rfl rfl ?_
  refine v_bipush dX10_text_7 (by decide) (by decide) ?_
  refine v_icmp_gt (tgt := 22) dX10_text_9 (by decide) (fun z => ?_) (fun z => ?_)
  · have k := k.1 z
    obtain ⟨⟨b1_1, b1_2⟩, k⟩ := k
    exact v_throw dX10_text_22 dX10_text_25 dX10_text_26 dX10_text_28 dX10_text_31 th_109_111_113 rfl rfl (by decide) (Nat.le_of_ble_eq_true rfl) b1_1 b1_2 k
  · have k := k.2 z
    refine v_aload_n dX10_text_12 rfl rfl ?_
    refine v_getR (x := 2) dX10_text_13 fl_X10_18 am_clsA rfl rfl rfl ?_
    exact v_callV (j := M_X8_hasEndSign) (As := []) (st := []) (E0 := [aR 2, aU]) (a := 2) (ci := 6) (N := 2) (q9 := (RX8, TX8, 2)) dX10_text_16 ml_X10_105 J_X8_hasEndSign (Nat.zero_le _) (Nat.zero_le _) (Nat.le_of_ble_eq_true rfl) rfl (Nat.le_of_ble_eq_true rfl) (List.forall_mem_cons.mpr ⟨rfl, fun _ h9 => absurd h9 List.not_mem_nil⟩) (Nat.le_of_ble_eq_true rfl) rfl rfl rfl rfl pn_X8_hasEndSign rfl k
theorem S_X10_text_19 {kc ks : Nat} {h : Hh} {Q : PQ} {X : PX} {xs0 : Int}
    (k : ((xs0 = 0 → (1 ≤ kc ∧ 6 ≤ ks) ∧ am_V M_X10_freshText 1 6 0 [aR 0] [] (RM WM wd) h (fun v ρ' h' => am_V M_X10_text (kc - 1) (ks - 6) 36 [aR 0, aU] (v ++ []) ρ' h' Q X) X) ∧ (xs0 ≠ 0 → (1 ≤ kc ∧ 6 ≤ ks) ∧ X "java/lang/UnsupportedOperationException" (RM WM false) h))) :
    am_V M_X10_text kc ks 19 [aR 0, aU] [aI xs0] (RM WM wd) h Q X := by
  refine v_if_eq (tgt := 32) dX10_text_19 (by decide) (fun z => ?_) (fun z => ?_)
  · have k := k.1 z
    obtain ⟨⟨b1_1, b1_2⟩, k⟩ := k
    refine v_aload_n dX10_text_32 rfl rfl ?_
    exact v_callV (j := M_X10_freshText) (As := []) (st := []) (E0 := [aR 0]) (a := 0) (ci := 8) (N := 10) (q9 := (RX10, TX10, 10)) dX10_text_33 ml_X10_114 J_X10_freshText b1_1 b1_2 (Nat.le_of_ble_eq_true rfl) rfl (Nat.le_of_ble_eq_true rfl) (List.forall_mem_cons.mpr ⟨rfl, fun _ h9 => absurd h9 List.not_mem_nil⟩) (Nat.le_of_ble_eq_true rfl) rfl rfl rfl rfl pn_X10_freshText rfl k
  · have k := k.2 z
    obtain ⟨⟨b1_1, b1_2⟩, k⟩ := k
    exact v_throw dX10_text_22 dX10_text_25 dX10_text_26 dX10_text_28 dX10_text_31 th_109_111_113 rfl rfl (by decide) (Nat.le_of_ble_eq_true rfl) b1_1 b1_2 k
theorem S_X10_text_36 {kc ks : Nat} {h : Hh} {Q : PQ} {X : PX} {as0 : Nat} (ts0 : isT as0)
    (k : am_V M_X6_add 0 0 0 [aR as0, aR 3, aI (h 2 1), aU] [] (RM WM wd) h (fun v ρ' h' => am_V M_X10_text kc ks 55 [aR 0, aR as0] (v ++ []) ρ' h' Q X) X) :
    am_V M_X10_text kc ks 36 [aR 0, aU] [aR as0] (RM WM wd) h Q X := by
  refine v_astore_n (E2 := [aR 0, aR as0]) dX10_text_36 rfl (Nat.le_of_ble_eq_true rfl) rfl ?_
  refine v_aload_n dX10_text_37 rfl rfl ?_
  refine v_aload_n dX10_text_38 rfl rfl ?_
  refine v_getR (x := 2) dX10_text_39 fl_X10_18 am_clsA rfl rfl rfl ?_
  refine v_getR (x := 3) dX10_text_42 fl_X10_102 am_clsA rfl rfl rfl ?_
  refine v_aload_n dX10_text_45 rfl rfl ?_
  refine v_getR (x := 2) dX10_text_46 fl_X10_18 am_clsA rfl rfl rfl ?_
  refine v_getI (j := 1) dX10_text_49 fl_X10_80 am_clsA rfl rfl rfl ?_
  exact v_callV (j := M_X6_add) (As := [aR 3, aI (h 2 1)]) (st := []) (E0 := [aR as0, aR 3, aI (h 2 1), aU]) (a := as0) (ci := 4) (N := 5) (q9 := (RX6, TX6, 5)) dX10_text_52 ml_X10_118 J_X6_add (Nat.zero_le _) (Nat.zero_le _) (Nat.le_of_ble_eq_true rfl) rfl (Nat.le_of_ble_eq_true rfl) (List.forall_mem_cons.mpr ⟨rfl, List.forall_mem_cons.mpr ⟨rfl, List.forall_mem_cons.mpr ⟨rfl, fun _ h9 => absurd h9 List.not_mem_nil⟩⟩⟩) (Nat.le_of_ble_eq_true rfl) rfl (tk0 ts0) rfl rfl pn_X6_add rfl k
theorem S_X10_text_55 {kc ks : Nat} {h : Hh} {Q : PQ} {X : PX} {a1 : Nat} (t1 : isT a1)
    (k : am_V M_X10_keep 0 0 0 [aR 0, aR a1] [] (RM WM wd) (am_st h 2 1 0) (fun v ρ' h' => am_V M_X10_text kc ks 68 [aU, aU] (v ++ []) ρ' h' Q X) X) :
    am_V M_X10_text kc ks 55 [aR 0, aR a1] [] (RM WM wd) h Q X := by
  refine v_aload_n dX10_text_55 rfl rfl ?_
  refine v_getR (x := 2) dX10_text_56 fl_X10_18 am_clsA rfl rfl rfl ?_
  refine v_iconst dX10_text_59 ⟨by decide, by decide⟩ ?_
  refine v_putI (j := 1) dX10_text_60 pl_X10_80 am_clsA rfl rfl rfl ?_
  refine v_aload_n dX10_text_63 rfl rfl ?_
  refine v_aload_n dX10_text_64 rfl rfl ?_
  refine v_weak (E2 := [aU, aU]) ⟨Or.inr rfl, ⟨Or.inr rfl, trivial⟩⟩ ?_
  exact v_callV (j := M_X10_keep) (As := [aR a1]) (st := []) (E0 := [aR 0, aR a1]) (a := 0) (ci := 8) (N := 10) (q9 := (RX10, TX10, 10)) dX10_text_65 ml_X10_122 J_X10_keep (Nat.zero_le _) (Nat.zero_le _) (Nat.le_of_ble_eq_true rfl) rfl (Nat.le_of_ble_eq_true rfl) (List.forall_mem_cons.mpr ⟨rfl, List.forall_mem_cons.mpr ⟨rfl, fun _ h9 => absurd h9 List.not_mem_nil⟩⟩) (Nat.le_of_ble_eq_true rfl) rfl rfl rfl rfl pn_X10_keep rfl k
theorem S_X10_text_68 {kc ks : Nat} {h : Hh} {Q : PQ} {X : PX} {xs0 : Int}
    (k : Q [aI xs0] (RM WM wd) h) :
    am_V M_X10_text kc ks 68 [aU, aU] [aI xs0] (RM WM wd) h Q X := by
  exact v_iret dX10_text_68 rfl rfl k
theorem S_X10_length_0 {kc ks : Nat} {h : Hh} {Q : PQ} {X : PX} {x1 : Int}
    (k : (1 ≤ kc ∧ 6 ≤ ks) ∧ am_V M_X10_known 1 6 0 [aR 0, aI x1] [] (RM WM wd) h (fun v ρ' h' => am_V M_X10_length (kc - 1) (ks - 6) 5 [aU, aU] (v ++ []) ρ' h' Q X) X) :
    am_V M_X10_length kc ks 0 [aR 0, aI x1] [] (RM WM wd) h Q X := by
  obtain ⟨⟨b0_1, b0_2⟩, k⟩ := k
  refine v_aload_n dX10_length_0 rfl rfl ?_
  refine v_iload_n dX10_length_1 rfl rfl ?_
  refine v_weak (E2 := [aU, aU]) ⟨Or.inr rfl, ⟨Or.inr rfl, trivial⟩⟩ ?_
  exact v_callV (j := M_X10_known) (As := [aI x1]) (st := []) (E0 := [aR 0, aI x1]) (a := 0) (ci := 8) (N := 10) (q9 := (RX10, TX10, 10)) dX10_length_2 ml_X10_126 J_X10_known b0_1 b0_2 (Nat.le_of_ble_eq_true rfl) rfl (Nat.le_of_ble_eq_true rfl) (List.forall_mem_cons.mpr ⟨rfl, List.forall_mem_cons.mpr ⟨rfl, fun _ h9 => absurd h9 List.not_mem_nil⟩⟩) (Nat.le_of_ble_eq_true rfl) rfl rfl rfl rfl pn_X10_known rfl k
theorem S_X10_length_5 {kc ks : Nat} {h : Hh} {Q : PQ} {X : PX} {as0 : Nat} (ts0 : isT as0)
    (k : Q [aI (h as0 4)] (RM WM wd) h) :
    am_V M_X10_length kc ks 5 [aU, aU] [aR as0] (RM WM wd) h Q X := by
  refine v_getI (j := 4) dX10_length_5 fl_X10_131 am_clsA rfl rfl (tk0 ts0) ?_
  exact v_iret dX10_length_8 rfl rfl k
theorem S_X10_signAt_0 {kc ks : Nat} {h : Hh} {Q : PQ} {X : PX} {x1 : Int} {x2 : Int}
    (k : (2 ≤ kc ∧ 12 ≤ ks) ∧ am_V M_X10_knownWith 2 12 0 [aR 0, aI x1, aI x2, aU] [] (RM WM wd) h (fun v ρ' h' => am_V M_X10_signAt (kc - 2) (ks - 12) 6 [aU, aU, aI x2] (v ++ []) ρ' h' Q X) X) :
    am_V M_X10_signAt kc ks 0 [aR 0, aI x1, aI x2] [] (RM WM wd) h Q X := by
  obtain ⟨⟨b0_1, b0_2⟩, k⟩ := k
  refine v_aload_n dX10_signAt_0 rfl rfl ?_
  refine v_iload_n dX10_signAt_1 rfl rfl ?_
  refine v_iload_n dX10_signAt_2 rfl rfl ?_
  refine v_weak (E2 := [aU, aU, aI x2]) ⟨Or.inr rfl, ⟨Or.inr rfl, ⟨Or.inl rfl, trivial⟩⟩⟩ ?_
  exact v_callV (j := M_X10_knownWith) (As := [aI x1, aI x2]) (st := []) (E0 := [aR 0, aI x1, aI x2, aU]) (a := 0) (ci := 8) (N := 10) (q9 := (RX10, TX10, 10)) dX10_signAt_3 ml_X10_136 J_X10_knownWith b0_1 b0_2 (Nat.le_of_ble_eq_true rfl) rfl (Nat.le_of_ble_eq_true rfl) (List.forall_mem_cons.mpr ⟨rfl, List.forall_mem_cons.mpr ⟨rfl, List.forall_mem_cons.mpr ⟨rfl, fun _ h9 => absurd h9 List.not_mem_nil⟩⟩⟩) (Nat.le_of_ble_eq_true rfl) rfl rfl rfl rfl pn_X10_knownWith rfl k
theorem S_X10_signAt_6 {kc ks : Nat} {h : Hh} {Q : PQ} {X : PX} {x2 : Int} {as0 : Nat} (ts0 : isT as0)
    (k : ((0 : Int) ≤ x2 ∧ (x2 : Int) < 64 ∧ (0 : Int) ≤ (h (as0 + 1) x2) ∧ ((h (as0 + 1) x2) : Int) < 65536) ∧ Q [aI (h (as0 + 1) x2)] (RM WM wd) h) :
    am_V M_X10_signAt kc ks 6 [aU, aU, aI x2] [aR as0] (RM WM wd) h Q X := by
  obtain ⟨⟨b0_1, b0_2, b0_3, b0_4⟩, k⟩ := k
  refine v_getR (x := (as0 + 1)) dX10_signAt_6 fl_X10_130 am_clsA rfl (tk0 ts0) (tr0 ts0) ?_
  refine v_iload_n dX10_signAt_9 rfl rfl ?_
  refine v_cald dX10_signAt_10 (tk1 ts0) b0_1 b0_2 ?_
  exact v_cret dX10_signAt_11 rfl rfl b0_3 b0_4 k
theorem S_X10_mirror_0 {kc ks : Nat} {h : Hh} {Q : PQ} {X : PX} {x1 : Int}
    (k : (1 ≤ kc ∧ 6 ≤ ks) ∧ am_V M_X10_known 1 6 0 [aR 0, aI x1] [] (RM WM wd) h (fun v ρ' h' => am_V M_X10_mirror (kc - 1) (ks - 6) 5 [aR 0, aU, aU, aU] (v ++ []) ρ' h' Q X) X) :
    am_V M_X10_mirror kc ks 0 [aR 0, aI x1, aU, aU] [] (RM WM wd) h Q X := by
  obtain ⟨⟨b0_1, b0_2⟩, k⟩ := k
  refine v_aload_n dX10_mirror_0 rfl rfl ?_
  refine v_iload_n dX10_mirror_1 rfl rfl ?_
  refine v_weak (E2 := [aR 0, aU, aU, aU]) ⟨Or.inl rfl, ⟨Or.inr rfl, ⟨Or.inl rfl, ⟨Or.inl rfl, trivial⟩⟩⟩⟩ ?_
  exact v_callV (j := M_X10_known) (As := [aI x1]) (st := []) (E0 := [aR 0, aI x1]) (a := 0) (ci := 8) (N := 10) (q9 := (RX10, TX10, 10)) dX10_mirror_2 ml_X10_126 J_X10_known b0_1 b0_2 (Nat.le_of_ble_eq_true rfl) rfl (Nat.le_of_ble_eq_true rfl) (List.forall_mem_cons.mpr ⟨rfl, List.forall_mem_cons.mpr ⟨rfl, fun _ h9 => absurd h9 List.not_mem_nil⟩⟩) (Nat.le_of_ble_eq_true rfl) rfl rfl rfl rfl pn_X10_known rfl k
theorem S_X10_mirror_5 {kc ks : Nat} {h : Hh} {Q : PQ} {X : PX} {as0 : Nat} (ts0 : isT as0)
    (k : (1 ≤ kc ∧ 6 ≤ ks) ∧ am_V M_X10_freshText 1 6 0 [aR 0] [] (RM WM wd) h (fun v ρ' h' => am_V M_X10_mirror (kc - 1) (ks - 6) 10 [aR 0, aU, aR as0, aU] (v ++ []) ρ' h' Q X) X) :
    am_V M_X10_mirror kc ks 5 [aR 0, aU, aU, aU] [aR as0] (RM WM wd) h Q X := by
  obtain ⟨⟨b0_1, b0_2⟩, k⟩ := k
  refine v_astore_n (E2 := [aR 0, aU, aR as0, aU]) dX10_mirror_5 rfl (Nat.le_of_ble_eq_true rfl) rfl ?_
  refine v_aload_n dX10_mirror_6 rfl rfl ?_
  exact v_callV (j := M_X10_freshText) (As := []) (st := []) (E0 := [aR 0]) (a := 0) (ci := 8) (N := 10) (q9 := (RX10, TX10, 10)) dX10_mirror_7 ml_X10_114 J_X10_freshText b0_1 b0_2 (Nat.le_of_ble_eq_true rfl) rfl (Nat.le_of_ble_eq_true rfl) (List.forall_mem_cons.mpr ⟨rfl, fun _ h9 => absurd h9 List.not_mem_nil⟩) (Nat.le_of_ble_eq_true rfl) rfl rfl rfl rfl pn_X10_freshText rfl k
theorem S_X10_mirror_10 {kc ks : Nat} {h : Hh} {Q : PQ} {X : PX} {a2 : Nat} (t2 : isT a2) {as0 : Nat} (ts0 : isT as0)
    (k : am_V M_X6_addTurnedRound 0 0 0 [aR as0, aR a2, aU] [] (RM WM wd) h (fun v ρ' h' => am_V M_X10_mirror kc ks 16 [aR 0, aU, aU, aR as0] (v ++ []) ρ' h' Q X) X) :
    am_V M_X10_mirror kc ks 10 [aR 0, aU, aR a2, aU] [aR as0] (RM WM wd) h Q X := by
  refine v_astore_n (E2 := [aR 0, aU, aR a2, aR as0]) dX10_mirror_10 rfl (Nat.le_of_ble_eq_true rfl) rfl ?_
  refine v_aload_n dX10_mirror_11 rfl rfl ?_
  refine v_aload_n dX10_mirror_12 rfl rfl ?_
  refine v_weak (E2 := [aR 0, aU, aU, aR as0]) ⟨Or.inl rfl, ⟨Or.inl rfl, ⟨Or.inr rfl, ⟨Or.inl rfl, trivial⟩⟩⟩⟩ ?_
  exact v_callV (j := M_X6_addTurnedRound) (As := [aR a2]) (st := []) (E0 := [aR as0, aR a2, aU]) (a := as0) (ci := 4) (N := 5) (q9 := (RX6, TX6, 5)) dX10_mirror_13 ml_X10_142 J_X6_addTurnedRound (Nat.zero_le _) (Nat.zero_le _) (Nat.le_of_ble_eq_true rfl) rfl (Nat.le_of_ble_eq_true rfl) (List.forall_mem_cons.mpr ⟨rfl, List.forall_mem_cons.mpr ⟨rfl, fun _ h9 => absurd h9 List.not_mem_nil⟩⟩) (Nat.le_of_ble_eq_true rfl) rfl (tk0 ts0) rfl rfl pn_X6_addTurnedRound rfl k
theorem S_X10_mirror_16 {kc ks : Nat} {h : Hh} {Q : PQ} {X : PX} {a3 : Nat} (t3 : isT a3)
    (k : am_V M_X10_keep 0 0 0 [aR 0, aR a3] [] (RM WM wd) h (fun v ρ' h' => am_V M_X10_mirror kc ks 21 [aU, aU, aU, aU] (v ++ []) ρ' h' Q X) X) :
    am_V M_X10_mirror kc ks 16 [aR 0, aU, aU, aR a3] [] (RM WM wd) h Q X := by
  refine v_aload_n dX10_mirror_16 rfl rfl ?_
  refine v_aload_n dX10_mirror_17 rfl rfl ?_
  refine v_weak (E2 := [aU, aU, aU, aU]) ⟨Or.inr rfl, ⟨Or.inl rfl, ⟨Or.inl rfl, ⟨Or.inr rfl, trivial⟩⟩⟩⟩ ?_
  exact v_callV (j := M_X10_keep) (As := [aR a3]) (st := []) (E0 := [aR 0, aR a3]) (a := 0) (ci := 8) (N := 10) (q9 := (RX10, TX10, 10)) dX10_mirror_18 ml_X10_122 J_X10_keep (Nat.zero_le _) (Nat.zero_le _) (Nat.le_of_ble_eq_true rfl) rfl (Nat.le_of_ble_eq_true rfl) (List.forall_mem_cons.mpr ⟨rfl, List.forall_mem_cons.mpr ⟨rfl, fun _ h9 => absurd h9 List.not_mem_nil⟩⟩) (Nat.le_of_ble_eq_true rfl) rfl rfl rfl rfl pn_X10_keep rfl k
theorem S_X10_mirror_21 {kc ks : Nat} {h : Hh} {Q : PQ} {X : PX} {xs0 : Int}
    (k : Q [aI xs0] (RM WM wd) h) :
    am_V M_X10_mirror kc ks 21 [aU, aU, aU, aU] [aI xs0] (RM WM wd) h Q X := by
  exact v_iret dX10_mirror_21 rfl rfl k
theorem S_X10_ahead_0 {kc ks : Nat} {h : Hh} {Q : PQ} {X : PX} {x1 : Int} {x2 : Int}
    (k : (1 ≤ kc ∧ 6 ≤ ks) ∧ am_V M_X10_known 1 6 0 [aR 0, aI x1] [] (RM WM wd) h (fun v ρ' h' => am_V M_X10_ahead (kc - 1) (ks - 6) 5 [aR 0, aU, aI x2, aU] (v ++ []) ρ' h' Q X) X) :
    am_V M_X10_ahead kc ks 0 [aR 0, aI x1, aI x2, aU] [] (RM WM wd) h Q X := by
  obtain ⟨⟨b0_1, b0_2⟩, k⟩ := k
  refine v_aload_n dX10_ahead_0 rfl rfl ?_
  refine v_iload_n dX10_ahead_1 rfl rfl ?_
  refine v_weak (E2 := [aR 0, aU, aI x2, aU]) ⟨Or.inl rfl, ⟨Or.inr rfl, ⟨Or.inl rfl, ⟨Or.inl rfl, trivial⟩⟩⟩⟩ ?_
  exact v_callV (j := M_X10_known) (As := [aI x1]) (st := []) (E0 := [aR 0, aI x1]) (a := 0) (ci := 8) (N := 10) (q9 := (RX10, TX10, 10)) dX10_ahead_2 ml_X10_126 J_X10_known b0_1 b0_2 (Nat.le_of_ble_eq_true rfl) rfl (Nat.le_of_ble_eq_true rfl) (List.forall_mem_cons.mpr ⟨rfl, List.forall_mem_cons.mpr ⟨rfl, fun _ h9 => absurd h9 List.not_mem_nil⟩⟩) (Nat.le_of_ble_eq_true rfl) rfl rfl rfl rfl pn_X10_known rfl k
theorem S_X10_ahead_5 {kc ks : Nat} {h : Hh} {Q : PQ} {X : PX} {x2 : Int} {as0 : Nat} (ts0 : isT as0)
    (k : am_V M_X10_isLetter 0 0 0 [aI x2] [] (RM WM wd) h (fun v ρ' h' => am_V M_X10_ahead kc ks 10 [aR 0, aU, aI x2, aR as0] (v ++ []) ρ' h' Q X) X) :
    am_V M_X10_ahead kc ks 5 [aR 0, aU, aI x2, aU] [aR as0] (RM WM wd) h Q X := by
  refine v_astore_n (E2 := [aR 0, aU, aI x2, aR as0]) dX10_ahead_5 rfl (Nat.le_of_ble_eq_true rfl) rfl ?_
  refine v_iload_n dX10_ahead_6 rfl rfl ?_
  exact v_callS (j := M_X10_isLetter) (As := [aI x2]) (st := []) (E0 := [aI x2]) dX10_ahead_7 ms_X10_146 J_X10_isLetter (Nat.zero_le _) (Nat.zero_le _) (Nat.le_of_ble_eq_true rfl) rfl (Nat.le_of_ble_eq_true rfl) (List.forall_mem_cons.mpr ⟨rfl, fun _ h9 => absurd h9 List.not_mem_nil⟩) (Nat.le_of_ble_eq_true rfl) rfl pn_X10_isLetter rfl k
theorem S_X10_ahead_10 {kc ks : Nat} {h : Hh} {Q : PQ} {X : PX} {x2 : Int} {a3 : Nat} (t3 : isT a3) {xs0 : Int}
    (k : ((xs0 ≠ 0 → (((h a3 4) < 64 → am_V M_X6_putAhead 0 0 0 [aR a3, aI x2, aU] [] (RM WM wd) h (fun v ρ' h' => am_V M_X10_ahead kc ks 47 [aR 0, aU, aU, aR a3] (v ++ []) ρ' h' Q X) X) ∧ (64 ≤ (h a3 4) → (1 ≤ kc ∧ 6 ≤ ks) ∧ X "java/lang/IllegalStateException" (RM WM false) h))) ∧ (xs0 = 0 → (1 ≤ kc ∧ 6 ≤ ks) ∧ X "java/lang/IllegalArgumentException" (RM WM false) h))) :
    am_V M_X10_ahead kc ks 10 [aR 0, aU, aI x2, aR a3] [aI xs0] (RM WM wd) h Q X := by
  refine v_if_ne (tgt := 23) dX10_ahead_10 (by decide) (fun z => ?_) (fun z => ?_)
  · have k := k.1 z
    refine v_aload_n dX10_ahead_23 rfl rfl ?_
    refine v_getI (j := 4) dX10_ahead_24 fl_X10_131 am_clsA rfl rfl (tk0 t3) ?_
    refine v_bipush dX10_ahead_27 (by decide) (by decide) ?_
    refine v_icmp_lt (tgt := 42) dX10_ahead_29 (by decide) (fun z => ?_) (fun z => ?_)
    · have k := k.1 z
      refine v_aload_n dX10_ahead_42 rfl rfl ?_
      refine v_iload_n dX10_ahead_43 rfl rfl ?_
      refine v_weak (E2 := [aR 0, aU, aU, aR a3]) ⟨Or.inl rfl, ⟨Or.inl rfl, ⟨Or.inr rfl, ⟨Or.inl rfl, trivial⟩⟩⟩⟩ ?_
      exact v_callV (j := M_X6_putAhead) (As := [aI x2]) (st := []) (E0 := [aR a3, aI x2, aU]) (a := a3) (ci := 4) (N := 5) (q9 := (RX6, TX6, 5)) dX10_ahead_44 ml_X10_154 J_X6_putAhead (Nat.zero_le _) (Nat.zero_le _) (Nat.le_of_ble_eq_true rfl) rfl (Nat.le_of_ble_eq_true rfl) (List.forall_mem_cons.mpr ⟨rfl, List.forall_mem_cons.mpr ⟨rfl, fun _ h9 => absurd h9 List.not_mem_nil⟩⟩) (Nat.le_of_ble_eq_true rfl) rfl (tk0 t3) rfl rfl pn_X6_putAhead rfl k
    · have k := k.2 z
      obtain ⟨⟨b2_1, b2_2⟩, k⟩ := k
      exact v_throw dX10_ahead_32 dX10_ahead_35 dX10_ahead_36 dX10_ahead_38 dX10_ahead_41 th_84_152_88 rfl rfl (by decide) (Nat.le_of_ble_eq_true rfl) b2_1 b2_2 k
  · have k := k.2 z
    obtain ⟨⟨b1_1, b1_2⟩, k⟩ := k
    exact v_throw dX10_ahead_13 dX10_ahead_16 dX10_ahead_17 dX10_ahead_19 dX10_ahead_22 th_73_75_77 rfl rfl (by decide) (Nat.le_of_ble_eq_true rfl) b1_1 b1_2 k
theorem S_X10_ahead_47 {kc ks : Nat} {h : Hh} {Q : PQ} {X : PX} {a3 : Nat} (t3 : isT a3)
    (k : am_V M_X1_sortEnds 0 0 0 [aR 5, aR a3, aU, aU] [] (RM WM wd) h (fun v ρ' h' => am_V M_X10_ahead kc ks 55 [aU, aU, aU, aR a3] (v ++ []) ρ' h' Q X) X) :
    am_V M_X10_ahead kc ks 47 [aR 0, aU, aU, aR a3] [] (RM WM wd) h Q X := by
  refine v_aload_n dX10_ahead_47 rfl rfl ?_
  refine v_getR (x := 5) dX10_ahead_48 fl_X10_29 am_clsA rfl rfl rfl ?_
  refine v_aload_n dX10_ahead_51 rfl rfl ?_
  refine v_weak (E2 := [aU, aU, aU, aR a3]) ⟨Or.inr rfl, ⟨Or.inl rfl, ⟨Or.inl rfl, ⟨Or.inl rfl, trivial⟩⟩⟩⟩ ?_
  exact v_callV (j := M_X1_sortEnds) (As := [aR a3]) (st := []) (E0 := [aR 5, aR a3, aU, aU]) (a := 5) (ci := 0) (N := 3) (q9 := (RX1, TX1, 3)) dX10_ahead_52 ml_X10_149 J_X1_sortEnds (Nat.zero_le _) (Nat.zero_le _) (Nat.le_of_ble_eq_true rfl) rfl (Nat.le_of_ble_eq_true rfl) (List.forall_mem_cons.mpr ⟨rfl, List.forall_mem_cons.mpr ⟨rfl, fun _ h9 => absurd h9 List.not_mem_nil⟩⟩) (Nat.le_of_ble_eq_true rfl) rfl rfl rfl rfl pn_X1_sortEnds rfl k
theorem S_X10_ahead_55 {kc ks : Nat} {h : Hh} {Q : PQ} {X : PX} {a3 : Nat} (t3 : isT a3)
    (k : am_V M_X6_endsAboveWhole 0 0 0 [aR a3] [] (RM WM wd) h (fun v ρ' h' => am_V M_X10_ahead kc ks 59 [aU, aU, aU, aU] (v ++ []) ρ' h' Q X) X) :
    am_V M_X10_ahead kc ks 55 [aU, aU, aU, aR a3] [] (RM WM wd) h Q X := by
  refine v_aload_n dX10_ahead_55 rfl rfl ?_
  refine v_weak (E2 := [aU, aU, aU, aU]) ⟨Or.inl rfl, ⟨Or.inl rfl, ⟨Or.inl rfl, ⟨Or.inr rfl, trivial⟩⟩⟩⟩ ?_
  exact v_callV (j := M_X6_endsAboveWhole) (As := []) (st := []) (E0 := [aR a3]) (a := a3) (ci := 4) (N := 5) (q9 := (RX6, TX6, 5)) dX10_ahead_56 ml_X10_157 J_X6_endsAboveWhole (Nat.zero_le _) (Nat.zero_le _) (Nat.le_of_ble_eq_true rfl) rfl (Nat.le_of_ble_eq_true rfl) (List.forall_mem_cons.mpr ⟨rfl, fun _ h9 => absurd h9 List.not_mem_nil⟩) (Nat.le_of_ble_eq_true rfl) rfl (tk0 t3) rfl rfl pn_X6_endsAboveWhole rfl k
theorem S_X10_ahead_59 {kc ks : Nat} {h : Hh} {Q : PQ} {X : PX} {xs0 : Int}
    (k : Q [aI xs0] (RM WM wd) h) :
    am_V M_X10_ahead kc ks 59 [aU, aU, aU, aU] [aI xs0] (RM WM wd) h Q X := by
  exact v_iret dX10_ahead_59 rfl rfl k
theorem S_X10_chop_0 {kc ks : Nat} {h : Hh} {Q : PQ} {X : PX} {x1 : Int}
    (k : (2 ≤ kc ∧ 12 ≤ ks) ∧ am_V M_X10_knownNotEmpty 2 12 0 [aR 0, aI x1, aU] [] (RM WM wd) h (fun v ρ' h' => am_V M_X10_chop (kc - 2) (ks - 12) 5 [aR 0, aU, aU, aU] (v ++ []) ρ' h' Q X) X) :
    am_V M_X10_chop kc ks 0 [aR 0, aI x1, aU, aU] [] (RM WM wd) h Q X := by
  obtain ⟨⟨b0_1, b0_2⟩, k⟩ := k
  refine v_aload_n dX10_chop_0 rfl rfl ?_
  refine v_iload_n dX10_chop_1 rfl rfl ?_
  refine v_weak (E2 := [aR 0, aU, aU, aU]) ⟨Or.inl rfl, ⟨Or.inr rfl, ⟨Or.inl rfl, ⟨Or.inl rfl, trivial⟩⟩⟩⟩ ?_
  exact v_callV (j := M_X10_knownNotEmpty) (As := [aI x1]) (st := []) (E0 := [aR 0, aI x1, aU]) (a := 0) (ci := 8) (N := 10) (q9 := (RX10, TX10, 10)) dX10_chop_2 ml_X10_161 J_X10_knownNotEmpty b0_1 b0_2 (Nat.le_of_ble_eq_true rfl) rfl (Nat.le_of_ble_eq_true rfl) (List.forall_mem_cons.mpr ⟨rfl, List.forall_mem_cons.mpr ⟨rfl, fun _ h9 => absurd h9 List.not_mem_nil⟩⟩) (Nat.le_of_ble_eq_true rfl) rfl rfl rfl rfl pn_X10_knownNotEmpty rfl k
theorem S_X10_chop_5 {kc ks : Nat} {h : Hh} {Q : PQ} {X : PX} {as0 : Nat} (ts0 : isT as0)
    (k : am_V M_X6_endsAboveWhole 0 0 0 [aR as0] [] (RM WM wd) h (fun v ρ' h' => am_V M_X10_chop kc ks 10 [aR 0, aU, aR as0, aU] (v ++ []) ρ' h' Q X) X) :
    am_V M_X10_chop kc ks 5 [aR 0, aU, aU, aU] [aR as0] (RM WM wd) h Q X := by
  refine v_astore_n (E2 := [aR 0, aU, aR as0, aU]) dX10_chop_5 rfl (Nat.le_of_ble_eq_true rfl) rfl ?_
  refine v_aload_n dX10_chop_6 rfl rfl ?_
  exact v_callV (j := M_X6_endsAboveWhole) (As := []) (st := []) (E0 := [aR as0]) (a := as0) (ci := 4) (N := 5) (q9 := (RX6, TX6, 5)) dX10_chop_7 ml_X10_157 J_X6_endsAboveWhole (Nat.zero_le _) (Nat.zero_le _) (Nat.le_of_ble_eq_true rfl) rfl (Nat.le_of_ble_eq_true rfl) (List.forall_mem_cons.mpr ⟨rfl, fun _ h9 => absurd h9 List.not_mem_nil⟩) (Nat.le_of_ble_eq_true rfl) rfl (tk0 ts0) rfl rfl pn_X6_endsAboveWhole rfl k
theorem S_X10_chop_10 {kc ks : Nat} {h : Hh} {Q : PQ} {X : PX} {a2 : Nat} (t2 : isT a2) {xs0 : Int}
    (k : am_V M_X6_dropFirst 0 0 0 [aR a2, aU] [] (RM WM wd) h (fun v ρ' h' => am_V M_X10_chop kc ks 15 [aR 0, aU, aR a2, aI xs0] (v ++ []) ρ' h' Q X) X) :
    am_V M_X10_chop kc ks 10 [aR 0, aU, aR a2, aU] [aI xs0] (RM WM wd) h Q X := by
  refine v_istore_n (E2 := [aR 0, aU, aR a2, aI xs0]) dX10_chop_10 rfl (Nat.le_of_ble_eq_true rfl) rfl ?_
  refine v_aload_n dX10_chop_11 rfl rfl ?_
  exact v_callV (j := M_X6_dropFirst) (As := []) (st := []) (E0 := [aR a2, aU]) (a := a2) (ci := 4) (N := 5) (q9 := (RX6, TX6, 5)) dX10_chop_12 ml_X10_164 J_X6_dropFirst (Nat.zero_le _) (Nat.zero_le _) (Nat.le_of_ble_eq_true rfl) rfl (Nat.le_of_ble_eq_true rfl) (List.forall_mem_cons.mpr ⟨rfl, fun _ h9 => absurd h9 List.not_mem_nil⟩) (Nat.le_of_ble_eq_true rfl) rfl (tk0 t2) rfl rfl pn_X6_dropFirst rfl k
theorem S_X10_chop_15 {kc ks : Nat} {h : Hh} {Q : PQ} {X : PX} {a2 : Nat} (t2 : isT a2) {x3 : Int}
    (k : am_V M_X1_sortEnds 0 0 0 [aR 5, aR a2, aU, aU] [] (RM WM wd) h (fun v ρ' h' => am_V M_X10_chop kc ks 23 [aU, aU, aU, aI x3] (v ++ []) ρ' h' Q X) X) :
    am_V M_X10_chop kc ks 15 [aR 0, aU, aR a2, aI x3] [] (RM WM wd) h Q X := by
  refine v_aload_n dX10_chop_15 rfl rfl ?_
  refine v_getR (x := 5) dX10_chop_16 fl_X10_29 am_clsA rfl rfl rfl ?_
  refine v_aload_n dX10_chop_19 rfl rfl ?_
  refine v_weak (E2 := [aU, aU, aU, aI x3]) ⟨Or.inr rfl, ⟨Or.inl rfl, ⟨Or.inr rfl, ⟨Or.inl rfl, trivial⟩⟩⟩⟩ ?_
  exact v_callV (j := M_X1_sortEnds) (As := [aR a2]) (st := []) (E0 := [aR 5, aR a2, aU, aU]) (a := 5) (ci := 0) (N := 3) (q9 := (RX1, TX1, 3)) dX10_chop_20 ml_X10_149 J_X1_sortEnds (Nat.zero_le _) (Nat.zero_le _) (Nat.le_of_ble_eq_true rfl) rfl (Nat.le_of_ble_eq_true rfl) (List.forall_mem_cons.mpr ⟨rfl, List.forall_mem_cons.mpr ⟨rfl, fun _ h9 => absurd h9 List.not_mem_nil⟩⟩) (Nat.le_of_ble_eq_true rfl) rfl rfl rfl rfl pn_X1_sortEnds rfl k
theorem S_X10_chop_23 {kc ks : Nat} {h : Hh} {Q : PQ} {X : PX} {x3 : Int}
    (k : Q [aI x3] (RM WM wd) h) :
    am_V M_X10_chop kc ks 23 [aU, aU, aU, aI x3] [] (RM WM wd) h Q X := by
  refine v_iload_n dX10_chop_23 rfl rfl ?_
  exact v_iret dX10_chop_24 rfl rfl k
theorem S_X10_endAt_0 {kc ks : Nat} {h : Hh} {Q : PQ} {X : PX} {x1 : Int} {x2 : Int}
    (k : (2 ≤ kc ∧ 12 ≤ ks) ∧ am_V M_X10_knownWith 2 12 0 [aR 0, aI x1, aI x2, aU] [] (RM WM wd) h (fun v ρ' h' => am_V M_X10_endAt (kc - 2) (ks - 12) 6 [aU, aU, aI x2] (v ++ []) ρ' h' Q X) X) :
    am_V M_X10_endAt kc ks 0 [aR 0, aI x1, aI x2] [] (RM WM wd) h Q X := by
  obtain ⟨⟨b0_1, b0_2⟩, k⟩ := k
  refine v_aload_n dX10_endAt_0 rfl rfl ?_
  refine v_iload_n dX10_endAt_1 rfl rfl ?_
  refine v_iload_n dX10_endAt_2 rfl rfl ?_
  refine v_weak (E2 := [aU, aU, aI x2]) ⟨Or.inr rfl, ⟨Or.inr rfl, ⟨Or.inl rfl, trivial⟩⟩⟩ ?_
  exact v_callV (j := M_X10_knownWith) (As := [aI x1, aI x2]) (st := []) (E0 := [aR 0, aI x1, aI x2, aU]) (a := 0) (ci := 8) (N := 10) (q9 := (RX10, TX10, 10)) dX10_endAt_3 ml_X10_136 J_X10_knownWith b0_1 b0_2 (Nat.le_of_ble_eq_true rfl) rfl (Nat.le_of_ble_eq_true rfl) (List.forall_mem_cons.mpr ⟨rfl, List.forall_mem_cons.mpr ⟨rfl, List.forall_mem_cons.mpr ⟨rfl, fun _ h9 => absurd h9 List.not_mem_nil⟩⟩⟩) (Nat.le_of_ble_eq_true rfl) rfl rfl rfl rfl pn_X10_knownWith rfl k
theorem S_X10_endAt_6 {kc ks : Nat} {h : Hh} {Q : PQ} {X : PX} {x2 : Int} {as0 : Nat} (ts0 : isT as0)
    (k : ((0 : Int) ≤ x2 ∧ (x2 : Int) < 64) ∧ Q [aI (h (as0 + 2) x2)] (RM WM wd) h) :
    am_V M_X10_endAt kc ks 6 [aU, aU, aI x2] [aR as0] (RM WM wd) h Q X := by
  obtain ⟨⟨b0_1, b0_2⟩, k⟩ := k
  refine v_getR (x := (as0 + 2)) dX10_endAt_6 fl_X10_167 am_clsA rfl (tk0 ts0) (tr1 ts0) ?_
  refine v_iload_n dX10_endAt_9 rfl rfl ?_
  refine v_iald dX10_endAt_10 (tk2 ts0) b0_1 b0_2 ?_
  exact v_iret dX10_endAt_11 rfl rfl k
theorem S_X10_rankOf_0 {kc ks : Nat} {h : Hh} {Q : PQ} {X : PX} {x1 : Int} {x2 : Int}
    (k : (2 ≤ kc ∧ 12 ≤ ks) ∧ am_V M_X10_knownWith 2 12 0 [aR 0, aI x1, aI x2, aU] [] (RM WM wd) h (fun v ρ' h' => am_V M_X10_rankOf (kc - 2) (ks - 12) 6 [aU, aU, aI x2] (v ++ []) ρ' h' Q X) X) :
    am_V M_X10_rankOf kc ks 0 [aR 0, aI x1, aI x2] [] (RM WM wd) h Q X := by
  obtain ⟨⟨b0_1, b0_2⟩, k⟩ := k
  refine v_aload_n dX10_rankOf_0 rfl rfl ?_
  refine v_iload_n dX10_rankOf_1 rfl rfl ?_
  refine v_iload_n dX10_rankOf_2 rfl rfl ?_
  refine v_weak (E2 := [aU, aU, aI x2]) ⟨Or.inr rfl, ⟨Or.inr rfl, ⟨Or.inl rfl, trivial⟩⟩⟩ ?_
  exact v_callV (j := M_X10_knownWith) (As := [aI x1, aI x2]) (st := []) (E0 := [aR 0, aI x1, aI x2, aU]) (a := 0) (ci := 8) (N := 10) (q9 := (RX10, TX10, 10)) dX10_rankOf_3 ml_X10_136 J_X10_knownWith b0_1 b0_2 (Nat.le_of_ble_eq_true rfl) rfl (Nat.le_of_ble_eq_true rfl) (List.forall_mem_cons.mpr ⟨rfl, List.forall_mem_cons.mpr ⟨rfl, List.forall_mem_cons.mpr ⟨rfl, fun _ h9 => absurd h9 List.not_mem_nil⟩⟩⟩) (Nat.le_of_ble_eq_true rfl) rfl rfl rfl rfl pn_X10_knownWith rfl k
theorem S_X10_rankOf_6 {kc ks : Nat} {h : Hh} {Q : PQ} {X : PX} {x2 : Int} {as0 : Nat} (ts0 : isT as0)
    (k : ((0 : Int) ≤ x2 ∧ (x2 : Int) < 64) ∧ Q [aI (h (as0 + 3) x2)] (RM WM wd) h) :
    am_V M_X10_rankOf kc ks 6 [aU, aU, aI x2] [aR as0] (RM WM wd) h Q X := by
  obtain ⟨⟨b0_1, b0_2⟩, k⟩ := k
  refine v_getR (x := (as0 + 3)) dX10_rankOf_6 fl_X10_171 am_clsA rfl (tk0 ts0) (tr2 ts0) ?_
  refine v_iload_n dX10_rankOf_9 rfl rfl ?_
  refine v_iald dX10_rankOf_10 (tk3 ts0) b0_1 b0_2 ?_
  exact v_iret dX10_rankOf_11 rfl rfl k
theorem S_X10_classes_0 {kc ks : Nat} {h : Hh} {Q : PQ} {X : PX} {x1 : Int} {x2 : Int}
    (k : (1 ≤ kc ∧ 6 ≤ ks) ∧ am_V M_X10_known 1 6 0 [aR 0, aI x1] [] (RM WM wd) h (fun v ρ' h' => am_V M_X10_classes (kc - 1) (ks - 6) 5 [aR 0, aU, aI x2, aU] (v ++ []) ρ' h' Q X) X) :
    am_V M_X10_classes kc ks 0 [aR 0, aI x1, aI x2, aU] [] (RM WM wd) h Q X := by
  obtain ⟨⟨b0_1, b0_2⟩, k⟩ := k
  refine v_aload_n dX10_classes_0 rfl rfl ?_
  refine v_iload_n dX10_classes_1 rfl rfl ?_
  refine v_weak (E2 := [aR 0, aU, aI x2, aU]) ⟨Or.inl rfl, ⟨Or.inr rfl, ⟨Or.inl rfl, ⟨Or.inl rfl, trivial⟩⟩⟩⟩ ?_
  exact v_callV (j := M_X10_known) (As := [aI x1]) (st := []) (E0 := [aR 0, aI x1]) (a := 0) (ci := 8) (N := 10) (q9 := (RX10, TX10, 10)) dX10_classes_2 ml_X10_126 J_X10_known b0_1 b0_2 (Nat.le_of_ble_eq_true rfl) rfl (Nat.le_of_ble_eq_true rfl) (List.forall_mem_cons.mpr ⟨rfl, List.forall_mem_cons.mpr ⟨rfl, fun _ h9 => absurd h9 List.not_mem_nil⟩⟩) (Nat.le_of_ble_eq_true rfl) rfl rfl rfl rfl pn_X10_known rfl k
theorem S_X10_classes_5 {kc ks : Nat} {h : Hh} {Q : PQ} {X : PX} {x2 : Int} {as0 : Nat} (ts0 : isT as0)
    (k : (1 ≤ kc ∧ 6 ≤ ks) ∧ am_V M_X10_refuseClassSize 1 6 0 [aR 0, aI x2] [] (RM WM wd) h (fun v ρ' h' => am_V M_X10_classes (kc - 1) (ks - 6) 11 [aU, aU, aI x2, aR as0] (v ++ []) ρ' h' Q X) X) :
    am_V M_X10_classes kc ks 5 [aR 0, aU, aI x2, aU] [aR as0] (RM WM wd) h Q X := by
  obtain ⟨⟨b0_1, b0_2⟩, k⟩ := k
  refine v_astore_n (E2 := [aR 0, aU, aI x2, aR as0]) dX10_classes_5 rfl (Nat.le_of_ble_eq_true rfl) rfl ?_
  refine v_aload_n dX10_classes_6 rfl rfl ?_
  refine v_iload_n dX10_classes_7 rfl rfl ?_
  refine v_weak (E2 := [aU, aU, aI x2, aR as0]) ⟨Or.inr rfl, ⟨Or.inl rfl, ⟨Or.inl rfl, ⟨Or.inl rfl, trivial⟩⟩⟩⟩ ?_
  exact v_callV (j := M_X10_refuseClassSize) (As := [aI x2]) (st := []) (E0 := [aR 0, aI x2]) (a := 0) (ci := 8) (N := 10) (q9 := (RX10, TX10, 10)) dX10_classes_8 ml_X10_174 J_X10_refuseClassSize b0_1 b0_2 (Nat.le_of_ble_eq_true rfl) rfl (Nat.le_of_ble_eq_true rfl) (List.forall_mem_cons.mpr ⟨rfl, List.forall_mem_cons.mpr ⟨rfl, fun _ h9 => absurd h9 List.not_mem_nil⟩⟩) (Nat.le_of_ble_eq_true rfl) rfl rfl rfl rfl pn_X10_refuseClassSize rfl k
theorem S_X10_classes_11 {kc ks : Nat} {h : Hh} {Q : PQ} {X : PX} {x2 : Int} {a3 : Nat} (t3 : isT a3)
    (k : ((-2147483648 ≤ (((h a3 4) - 1) : Int) ∧ (((h a3 4) - 1) : Int) < 2147483648)) ∧ am_V M_X6_unlikeBeginnings 0 0 0 [aR a3, aI x2, aI ((h a3 4) - 1), aU, aU] [] (RM WM wd) h (fun v ρ' h' => am_V M_X10_classes kc ks 22 [aU, aU, aU, aU] (v ++ []) ρ' h' Q X) X) :
    am_V M_X10_classes kc ks 11 [aU, aU, aI x2, aR a3] [] (RM WM wd) h Q X := by
  obtain ⟨b0_1, k⟩ := k
  refine v_aload_n dX10_classes_11 rfl rfl ?_
  refine v_iload_n dX10_classes_12 rfl rfl ?_
  refine v_aload_n dX10_classes_13 rfl rfl ?_
  refine v_getI (j := 4) dX10_classes_14 fl_X10_131 am_clsA rfl rfl (tk0 t3) ?_
  refine v_iconst dX10_classes_17 ⟨by decide, by decide⟩ ?_
  refine v_isub dX10_classes_18 b0_1 ?_
  refine v_weak (E2 := [aU, aU, aU, aU]) ⟨Or.inl rfl, ⟨Or.inl rfl, ⟨Or.inr rfl, ⟨Or.inr rfl, trivial⟩⟩⟩⟩ ?_
  exact v_callV (j := M_X6_unlikeBeginnings) (As := [aI x2, aI ((h a3 4) - 1)]) (st := []) (E0 := [aR a3, aI x2, aI ((h a3 4) - 1), aU, aU]) (a := a3) (ci := 4) (N := 5) (q9 := (RX6, TX6, 5)) dX10_classes_19 ml_X10_178 J_X6_unlikeBeginnings (Nat.zero_le _) (Nat.zero_le _) (Nat.le_of_ble_eq_true rfl) rfl (Nat.le_of_ble_eq_true rfl) (List.forall_mem_cons.mpr ⟨rfl, List.forall_mem_cons.mpr ⟨rfl, List.forall_mem_cons.mpr ⟨rfl, fun _ h9 => absurd h9 List.not_mem_nil⟩⟩⟩) (Nat.le_of_ble_eq_true rfl) rfl (tk0 t3) rfl rfl pn_X6_unlikeBeginnings rfl k
theorem S_X10_classes_22 {kc ks : Nat} {h : Hh} {Q : PQ} {X : PX} {xs0 : Int}
    (k : Q [aI xs0] (RM WM wd) h) :
    am_V M_X10_classes kc ks 22 [aU, aU, aU, aU] [aI xs0] (RM WM wd) h Q X := by
  exact v_iret dX10_classes_22 rfl rfl k
theorem S_X10_rounds_0 {kc ks : Nat} {h : Hh} {Q : PQ} {X : PX} {x1 : Int}
    (k : (1 ≤ kc ∧ 6 ≤ ks) ∧ am_V M_X10_known 1 6 0 [aR 0, aI x1] [] (RM WM wd) h (fun v ρ' h' => am_V M_X10_rounds (kc - 1) (ks - 6) 5 [aU, aU, aU, aU, aU, aU] (v ++ []) ρ' h' Q X) X) :
    am_V M_X10_rounds kc ks 0 [aR 0, aI x1, aU, aU, aU, aU] [] (RM WM wd) h Q X := by
  obtain ⟨⟨b0_1, b0_2⟩, k⟩ := k
  refine v_aload_n dX10_rounds_0 rfl rfl ?_
  refine v_iload_n dX10_rounds_1 rfl rfl ?_
  refine v_weak (E2 := [aU, aU, aU, aU, aU, aU]) ⟨Or.inr rfl, ⟨Or.inr rfl, ⟨Or.inl rfl, ⟨Or.inl rfl, ⟨Or.inl rfl, ⟨Or.inl rfl, trivial⟩⟩⟩⟩⟩⟩ ?_
  exact v_callV (j := M_X10_known) (As := [aI x1]) (st := []) (E0 := [aR 0, aI x1]) (a := 0) (ci := 8) (N := 10) (q9 := (RX10, TX10, 10)) dX10_rounds_2 ml_X10_126 J_X10_known b0_1 b0_2 (Nat.le_of_ble_eq_true rfl) rfl (Nat.le_of_ble_eq_true rfl) (List.forall_mem_cons.mpr ⟨rfl, List.forall_mem_cons.mpr ⟨rfl, fun _ h9 => absurd h9 List.not_mem_nil⟩⟩) (Nat.le_of_ble_eq_true rfl) rfl rfl rfl rfl pn_X10_known rfl k
theorem S_X10_rounds_5 {kc ks : Nat} {h : Hh} {Q : PQ} {X : PX} {as0 : Nat} (ts0 : isT as0)
    (k : (((h as0 4) ≠ 0 → am_V M_X6_greatestCommon 0 0 0 [aR as0, aU, aU] [] (RM WM wd) h (fun v ρ' h' => am_V M_X10_rounds kc ks 19 [aU, aU, aU, aU, aU, aU] (v ++ []) ρ' h' Q X) X) ∧ ((h as0 4) = 0 → Q [aI 0] (RM WM wd) h))) :
    am_V M_X10_rounds kc ks 5 [aU, aU, aU, aU, aU, aU] [aR as0] (RM WM wd) h Q X := by
  refine v_astore_n (E2 := [aU, aU, aR as0, aU, aU, aU]) dX10_rounds_5 rfl (Nat.le_of_ble_eq_true rfl) rfl ?_
  refine v_aload_n dX10_rounds_6 rfl rfl ?_
  refine v_getI (j := 4) dX10_rounds_7 fl_X10_131 am_clsA rfl rfl (tk0 ts0) ?_
  refine v_if_ne (tgt := 15) dX10_rounds_10 (by decide) (fun z => ?_) (fun z => ?_)
  · have k := k.1 z
    refine v_aload_n dX10_rounds_15 rfl rfl ?_
    refine v_weak (E2 := [aU, aU, aU, aU, aU, aU]) ⟨Or.inl rfl, ⟨Or.inl rfl, ⟨Or.inr rfl, ⟨Or.inl rfl, ⟨Or.inl rfl, ⟨Or.inl rfl, trivial⟩⟩⟩⟩⟩⟩ ?_
    exact v_callV (j := M_X6_greatestCommon) (As := []) (st := []) (E0 := [aR as0, aU, aU]) (a := as0) (ci := 4) (N := 5) (q9 := (RX6, TX6, 5)) dX10_rounds_16 ml_X10_182 J_X6_greatestCommon (Nat.zero_le _) (Nat.zero_le _) (Nat.le_of_ble_eq_true rfl) rfl (Nat.le_of_ble_eq_true rfl) (List.forall_mem_cons.mpr ⟨rfl, fun _ h9 => absurd h9 List.not_mem_nil⟩) (Nat.le_of_ble_eq_true rfl) rfl (tk0 ts0) rfl rfl pn_X6_greatestCommon rfl k
  · have k := k.2 z
    refine v_iconst dX10_rounds_13 ⟨by decide, by decide⟩ ?_
    exact v_iret dX10_rounds_14 rfl rfl k
theorem S_X10_rounds_19 {kc ks : Nat} {h : Hh} {Q : PQ} {X : PX} {xs0 : Int}
    (k : am_V M_X10_rounds kc ks 26 [aU, aU, aU, aI xs0, aI 1, aI 1] [] (RM WM wd) h Q X) :
    am_V M_X10_rounds kc ks 19 [aU, aU, aU, aU, aU, aU] [aI xs0] (RM WM wd) h Q X := by
  refine v_istore_n (E2 := [aU, aU, aU, aI xs0, aU, aU]) dX10_rounds_19 rfl (Nat.le_of_ble_eq_true rfl) rfl ?_
  refine v_iconst dX10_rounds_20 ⟨by decide, by decide⟩ ?_
  refine v_istore (E2 := [aU, aU, aU, aI xs0, aI 1, aU]) dX10_rounds_21 (Nat.le_of_ble_eq_true rfl) rfl ?_
  refine v_iconst dX10_rounds_23 ⟨by decide, by decide⟩ ?_
  refine v_istore (E2 := [aU, aU, aU, aI xs0, aI 1, aI 1]) dX10_rounds_24 (Nat.le_of_ble_eq_true rfl) rfl ?_
  exact k
theorem S_X10_rounds_26 {kc ks : Nat} {h : Hh} {Q : PQ} {X : PX} {x3 : Int} {x4 : Int} {x5 : Int}
    (k : ((x3 < x5 → Q [aI x4] (RM WM wd) h) ∧ (x5 ≤ x3 → ((-2147483648 ≤ ((x4 + 1) : Int) ∧ ((x4 + 1) : Int) < 2147483648) ∧ (-2147483648 ≤ ((x5 * 2) : Int) ∧ ((x5 * 2) : Int) < 2147483648)) ∧ am_V M_X10_rounds kc ks 26 [aU, aU, aU, aI x3, aI (x4 + 1), aI (x5 * 2)] [] (RM WM wd) h Q X))) :
    am_V M_X10_rounds kc ks 26 [aU, aU, aU, aI x3, aI x4, aI x5] [] (RM WM wd) h Q X := by
  refine v_iload dX10_rounds_26 rfl ?_
  refine v_iload_n dX10_rounds_28 rfl rfl ?_
  refine v_icmp_gt (tgt := 44) dX10_rounds_29 (by decide) (fun z => ?_) (fun z => ?_)
  · have k := k.1 z
    refine v_iload dX10_rounds_44 rfl ?_
    exact v_iret dX10_rounds_46 rfl rfl k
  · have k := k.2 z
    obtain ⟨⟨b1_1, b1_2⟩, k⟩ := k
    refine v_iinc (E2 := [aU, aU, aU, aI x3, aI (x4 + 1), aI x5]) dX10_rounds_32 rfl b1_1 rfl ?_
    refine v_iload dX10_rounds_35 rfl ?_
    refine v_iconst dX10_rounds_37 ⟨by decide, by decide⟩ ?_
    refine v_imul dX10_rounds_38 b1_2 ?_
    refine v_istore (E2 := [aU, aU, aU, aI x3, aI (x4 + 1), aI (x5 * 2)]) dX10_rounds_39 (Nat.le_of_ble_eq_true rfl) rfl ?_
    refine v_goto (tgt := 26) dX10_rounds_41 (by decide) ?_
    exact k
theorem S_X10_common_0 {kc ks : Nat} {h : Hh} {Q : PQ} {X : PX} {x1 : Int} {x2 : Int}
    (k : (2 ≤ kc ∧ 12 ≤ ks) ∧ am_V M_X10_knownWith 2 12 0 [aR 0, aI x1, aI x2, aU] [] (RM WM wd) h (fun v ρ' h' => am_V M_X10_common (kc - 2) (ks - 12) 6 [aU, aU, aI x2] (v ++ []) ρ' h' Q X) X) :
    am_V M_X10_common kc ks 0 [aR 0, aI x1, aI x2] [] (RM WM wd) h Q X := by
  obtain ⟨⟨b0_1, b0_2⟩, k⟩ := k
  refine v_aload_n dX10_common_0 rfl rfl ?_
  refine v_iload_n dX10_common_1 rfl rfl ?_
  refine v_iload_n dX10_common_2 rfl rfl ?_
  refine v_weak (E2 := [aU, aU, aI x2]) ⟨Or.inr rfl, ⟨Or.inr rfl, ⟨Or.inl rfl, trivial⟩⟩⟩ ?_
  exact v_callV (j := M_X10_knownWith) (As := [aI x1, aI x2]) (st := []) (E0 := [aR 0, aI x1, aI x2, aU]) (a := 0) (ci := 8) (N := 10) (q9 := (RX10, TX10, 10)) dX10_common_3 ml_X10_136 J_X10_knownWith b0_1 b0_2 (Nat.le_of_ble_eq_true rfl) rfl (Nat.le_of_ble_eq_true rfl) (List.forall_mem_cons.mpr ⟨rfl, List.forall_mem_cons.mpr ⟨rfl, List.forall_mem_cons.mpr ⟨rfl, fun _ h9 => absurd h9 List.not_mem_nil⟩⟩⟩) (Nat.le_of_ble_eq_true rfl) rfl rfl rfl rfl pn_X10_knownWith rfl k
theorem S_X10_common_6 {kc ks : Nat} {h : Hh} {Q : PQ} {X : PX} {x2 : Int} {as0 : Nat} (ts0 : isT as0)
    (k : ((0 : Int) ≤ x2 ∧ (x2 : Int) < 64) ∧ Q [aI (h (as0 + 4) x2)] (RM WM wd) h) :
    am_V M_X10_common kc ks 6 [aU, aU, aI x2] [aR as0] (RM WM wd) h Q X := by
  obtain ⟨⟨b0_1, b0_2⟩, k⟩ := k
  refine v_getR (x := (as0 + 4)) dX10_common_6 fl_X10_185 am_clsA rfl (tk0 ts0) (tr3 ts0) ?_
  refine v_iload_n dX10_common_9 rfl rfl ?_
  refine v_iald dX10_common_10 (tk4 ts0) b0_1 b0_2 ?_
  exact v_iret dX10_common_11 rfl rfl k
theorem S_X10_shared_0 {kc ks : Nat} {h : Hh} {Q : PQ} {X : PX} {x1 : Int} {x2 : Int} {x3 : Int} {x4 : Int}
    (k : (2 ≤ kc ∧ 12 ≤ ks) ∧ am_V M_X10_knownWith 2 12 0 [aR 0, aI x1, aI x2, aU] [] (RM WM wd) h (fun v ρ' h' => am_V M_X10_shared (kc - 2) (ks - 12) 6 [aR 0, aU, aI x2, aI x3, aI x4, aU, aU] (v ++ []) ρ' h' Q X) X) :
    am_V M_X10_shared kc ks 0 [aR 0, aI x1, aI x2, aI x3, aI x4, aU, aU] [] (RM WM wd) h Q X := by
  obtain ⟨⟨b0_1, b0_2⟩, k⟩ := k
  refine v_aload_n dX10_shared_0 rfl rfl ?_
  refine v_iload_n dX10_shared_1 rfl rfl ?_
  refine v_iload_n dX10_shared_2 rfl rfl ?_
  refine v_weak (E2 := [aR 0, aU, aI x2, aI x3, aI x4, aU, aU]) ⟨Or.inl rfl, ⟨Or.inr rfl, ⟨Or.inl rfl, ⟨Or.inl rfl, ⟨Or.inl rfl, ⟨Or.inl rfl, ⟨Or.inl rfl, trivial⟩⟩⟩⟩⟩⟩⟩ ?_
  exact v_callV (j := M_X10_knownWith) (As := [aI x1, aI x2]) (st := []) (E0 := [aR 0, aI x1, aI x2, aU]) (a := 0) (ci := 8) (N := 10) (q9 := (RX10, TX10, 10)) dX10_shared_3 ml_X10_136 J_X10_knownWith b0_1 b0_2 (Nat.le_of_ble_eq_true rfl) rfl (Nat.le_of_ble_eq_true rfl) (List.forall_mem_cons.mpr ⟨rfl, List.forall_mem_cons.mpr ⟨rfl, List.forall_mem_cons.mpr ⟨rfl, fun _ h9 => absurd h9 List.not_mem_nil⟩⟩⟩) (Nat.le_of_ble_eq_true rfl) rfl rfl rfl rfl pn_X10_knownWith rfl k
theorem S_X10_shared_6 {kc ks : Nat} {h : Hh} {Q : PQ} {X : PX} {x2 : Int} {x3 : Int} {x4 : Int} {as0 : Nat} (ts0 : isT as0)
    (k : (2 ≤ kc ∧ 12 ≤ ks) ∧ am_V M_X10_knownWith 2 12 0 [aR 0, aI x3, aI x4, aU] [] (RM WM wd) h (fun v ρ' h' => am_V M_X10_shared (kc - 2) (ks - 12) 15 [aU, aU, aI x2, aU, aI x4, aR as0, aU] (v ++ []) ρ' h' Q X) X) :
    am_V M_X10_shared kc ks 6 [aR 0, aU, aI x2, aI x3, aI x4, aU, aU] [aR as0] (RM WM wd) h Q X := by
  obtain ⟨⟨b0_1, b0_2⟩, k⟩ := k
  refine v_astore (E2 := [aR 0, aU, aI x2, aI x3, aI x4, aR as0, aU]) dX10_shared_6 (Nat.le_of_ble_eq_true rfl) rfl ?_
  refine v_aload_n dX10_shared_8 rfl rfl ?_
  refine v_iload_n dX10_shared_9 rfl rfl ?_
  refine v_iload dX10_shared_10 rfl ?_
  refine v_weak (E2 := [aU, aU, aI x2, aU, aI x4, aR as0, aU]) ⟨Or.inr rfl, ⟨Or.inl rfl, ⟨Or.inl rfl, ⟨Or.inr rfl, ⟨Or.inl rfl, ⟨Or.inl rfl, ⟨Or.inl rfl, trivial⟩⟩⟩⟩⟩⟩⟩ ?_
  exact v_callV (j := M_X10_knownWith) (As := [aI x3, aI x4]) (st := []) (E0 := [aR 0, aI x3, aI x4, aU]) (a := 0) (ci := 8) (N := 10) (q9 := (RX10, TX10, 10)) dX10_shared_12 ml_X10_136 J_X10_knownWith b0_1 b0_2 (Nat.le_of_ble_eq_true rfl) rfl (Nat.le_of_ble_eq_true rfl) (List.forall_mem_cons.mpr ⟨rfl, List.forall_mem_cons.mpr ⟨rfl, List.forall_mem_cons.mpr ⟨rfl, fun _ h9 => absurd h9 List.not_mem_nil⟩⟩⟩) (Nat.le_of_ble_eq_true rfl) rfl rfl rfl rfl pn_X10_knownWith rfl k
theorem S_X10_shared_15 {kc ks : Nat} {h : Hh} {Q : PQ} {X : PX} {x2 : Int} {x4 : Int} {a5 : Nat} (t5 : isT a5) {as0 : Nat} (ts0 : isT as0)
    (k : am_V M_X6_likeSigns 0 0 0 [aR a5, aI x2, aR as0, aI x4, aU, aU] [] (RM WM wd) h (fun v ρ' h' => am_V M_X10_shared kc ks 27 [aU, aU, aU, aU, aU, aU, aU] (v ++ []) ρ' h' Q X) X) :
    am_V M_X10_shared kc ks 15 [aU, aU, aI x2, aU, aI x4, aR a5, aU] [aR as0] (RM WM wd) h Q X := by
  refine v_astore (E2 := [aU, aU, aI x2, aU, aI x4, aR a5, aR as0]) dX10_shared_15 (Nat.le_of_ble_eq_true rfl) rfl ?_
  refine v_aload dX10_shared_17 rfl ?_
  refine v_iload_n dX10_shared_19 rfl rfl ?_
  refine v_aload dX10_shared_20 rfl ?_
  refine v_iload dX10_shared_22 rfl ?_
  refine v_weak (E2 := [aU, aU, aU, aU, aU, aU, aU]) ⟨Or.inl rfl, ⟨Or.inl rfl, ⟨Or.inr rfl, ⟨Or.inl rfl, ⟨Or.inr rfl, ⟨Or.inr rfl, ⟨Or.inr rfl, trivial⟩⟩⟩⟩⟩⟩⟩ ?_
  exact v_callV (j := M_X6_likeSigns) (As := [aI x2, aR as0, aI x4]) (st := []) (E0 := [aR a5, aI x2, aR as0, aI x4, aU, aU]) (a := a5) (ci := 4) (N := 5) (q9 := (RX6, TX6, 5)) dX10_shared_24 ml_X10_188 J_X6_likeSigns (Nat.zero_le _) (Nat.zero_le _) (Nat.le_of_ble_eq_true rfl) rfl (Nat.le_of_ble_eq_true rfl) (List.forall_mem_cons.mpr ⟨rfl, List.forall_mem_cons.mpr ⟨rfl, List.forall_mem_cons.mpr ⟨rfl, List.forall_mem_cons.mpr ⟨rfl, fun _ h9 => absurd h9 List.not_mem_nil⟩⟩⟩⟩) (Nat.le_of_ble_eq_true rfl) rfl (tk0 t5) rfl rfl pn_X6_likeSigns rfl k
theorem S_X10_shared_27 {kc ks : Nat} {h : Hh} {Q : PQ} {X : PX} {xs0 : Int}
    (k : Q [aI xs0] (RM WM wd) h) :
    am_V M_X10_shared kc ks 27 [aU, aU, aU, aU, aU, aU, aU] [aI xs0] (RM WM wd) h Q X := by
  exact v_iret dX10_shared_27 rfl rfl k
theorem S_X10_count_0 {kc ks : Nat} {h : Hh} {Q : PQ} {X : PX} {x1 : Int}
    (k : (1 ≤ kc ∧ 6 ≤ ks) ∧ am_V M_X10_known 1 6 0 [aR 0, aI x1] [] (RM WM wd) h (fun v ρ' h' => am_V M_X10_count (kc - 1) (ks - 6) 5 [aR 0, aU, aU] (v ++ []) ρ' h' Q X) X) :
    am_V M_X10_count kc ks 0 [aR 0, aI x1, aU] [] (RM WM wd) h Q X := by
  obtain ⟨⟨b0_1, b0_2⟩, k⟩ := k
  refine v_aload_n dX10_count_0 rfl rfl ?_
  refine v_iload_n dX10_count_1 rfl rfl ?_
  refine v_weak (E2 := [aR 0, aU, aU]) ⟨Or.inl rfl, ⟨Or.inr rfl, ⟨Or.inl rfl, trivial⟩⟩⟩ ?_
  exact v_callV (j := M_X10_known) (As := [aI x1]) (st := []) (E0 := [aR 0, aI x1]) (a := 0) (ci := 8) (N := 10) (q9 := (RX10, TX10, 10)) dX10_count_2 ml_X10_126 J_X10_known b0_1 b0_2 (Nat.le_of_ble_eq_true rfl) rfl (Nat.le_of_ble_eq_true rfl) (List.forall_mem_cons.mpr ⟨rfl, List.forall_mem_cons.mpr ⟨rfl, fun _ h9 => absurd h9 List.not_mem_nil⟩⟩) (Nat.le_of_ble_eq_true rfl) rfl rfl rfl rfl pn_X10_known rfl k
theorem S_X10_count_5 {kc ks : Nat} {h : Hh} {Q : PQ} {X : PX} {as0 : Nat} (ts0 : isT as0)
    (k : (1 ≤ kc ∧ 6 ≤ ks) ∧ am_V M_X10_refuseNoWord 1 6 0 [aR 0] [] (RM WM wd) h (fun v ρ' h' => am_V M_X10_count (kc - 1) (ks - 6) 10 [aR 0, aU, aR as0] (v ++ []) ρ' h' Q X) X) :
    am_V M_X10_count kc ks 5 [aR 0, aU, aU] [aR as0] (RM WM wd) h Q X := by
  obtain ⟨⟨b0_1, b0_2⟩, k⟩ := k
  refine v_astore_n (E2 := [aR 0, aU, aR as0]) dX10_count_5 rfl (Nat.le_of_ble_eq_true rfl) rfl ?_
  refine v_aload_n dX10_count_6 rfl rfl ?_
  exact v_callV (j := M_X10_refuseNoWord) (As := []) (st := []) (E0 := [aR 0]) (a := 0) (ci := 8) (N := 10) (q9 := (RX10, TX10, 10)) dX10_count_7 ml_X10_192 J_X10_refuseNoWord b0_1 b0_2 (Nat.le_of_ble_eq_true rfl) rfl (Nat.le_of_ble_eq_true rfl) (List.forall_mem_cons.mpr ⟨rfl, fun _ h9 => absurd h9 List.not_mem_nil⟩) (Nat.le_of_ble_eq_true rfl) rfl rfl rfl rfl pn_X10_refuseNoWord rfl k
theorem S_X10_count_10 {kc ks : Nat} {h : Hh} {Q : PQ} {X : PX} {a2 : Nat} (t2 : isT a2)
    (k : am_V M_X6_endsUpTo 0 0 0 [aR a2, aR 2, aI 0] [] (RM WM wd) h (fun v ρ' h' => am_V M_X10_count kc ks 19 [aR 0, aU, aR a2] (v ++ []) ρ' h' Q X) X) :
    am_V M_X10_count kc ks 10 [aR 0, aU, aR a2] [] (RM WM wd) h Q X := by
  refine v_aload_n dX10_count_10 rfl rfl ?_
  refine v_aload_n dX10_count_11 rfl rfl ?_
  refine v_getR (x := 2) dX10_count_12 fl_X10_18 am_clsA rfl rfl rfl ?_
  refine v_iconst dX10_count_15 ⟨by decide, by decide⟩ ?_
  exact v_callV (j := M_X6_endsUpTo) (As := [aR 2, aI 0]) (st := []) (E0 := [aR a2, aR 2, aI 0]) (a := a2) (ci := 4) (N := 5) (q9 := (RX6, TX6, 5)) dX10_count_16 ml_X10_195 J_X6_endsUpTo (Nat.zero_le _) (Nat.zero_le _) (Nat.le_of_ble_eq_true rfl) rfl (Nat.le_of_ble_eq_true rfl) (List.forall_mem_cons.mpr ⟨rfl, List.forall_mem_cons.mpr ⟨rfl, List.forall_mem_cons.mpr ⟨rfl, fun _ h9 => absurd h9 List.not_mem_nil⟩⟩⟩) (Nat.le_of_ble_eq_true rfl) rfl (tk0 t2) rfl rfl pn_X6_endsUpTo rfl k
theorem S_X10_count_19 {kc ks : Nat} {h : Hh} {Q : PQ} {X : PX} {a2 : Nat} (t2 : isT a2) {xs0 : Int}
    (k : am_V M_X6_endsBelow 0 0 0 [aR a2, aR 2, aI 0] [] (RM WM wd) h (fun v ρ' h' => am_V M_X10_count kc ks 28 [aU, aU, aU] (v ++ [aI xs0]) ρ' h' Q X) X) :
    am_V M_X10_count kc ks 19 [aR 0, aU, aR a2] [aI xs0] (RM WM wd) h Q X := by
  refine v_aload_n dX10_count_19 rfl rfl ?_
  refine v_aload_n dX10_count_20 rfl rfl ?_
  refine v_getR (x := 2) dX10_count_21 fl_X10_18 am_clsA rfl rfl rfl ?_
  refine v_iconst dX10_count_24 ⟨by decide, by decide⟩ ?_
  refine v_weak (E2 := [aU, aU, aU]) ⟨Or.inr rfl, ⟨Or.inl rfl, ⟨Or.inr rfl, trivial⟩⟩⟩ ?_
  exact v_callV (j := M_X6_endsBelow) (As := [aR 2, aI 0]) (st := [aI xs0]) (E0 := [aR a2, aR 2, aI 0]) (a := a2) (ci := 4) (N := 5) (q9 := (RX6, TX6, 5)) dX10_count_25 ml_X10_199 J_X6_endsBelow (Nat.zero_le _) (Nat.zero_le _) (Nat.le_of_ble_eq_true rfl) rfl (Nat.le_of_ble_eq_true rfl) (List.forall_mem_cons.mpr ⟨rfl, List.forall_mem_cons.mpr ⟨rfl, List.forall_mem_cons.mpr ⟨rfl, fun _ h9 => absurd h9 List.not_mem_nil⟩⟩⟩) (Nat.le_of_ble_eq_true rfl) rfl (tk0 t2) rfl rfl pn_X6_endsBelow rfl k
theorem S_X10_count_28 {kc ks : Nat} {h : Hh} {Q : PQ} {X : PX} {xs0 : Int} {xs1 : Int}
    (k : ((-2147483648 ≤ ((xs1 - xs0) : Int) ∧ ((xs1 - xs0) : Int) < 2147483648)) ∧ Q [aI (xs1 - xs0)] (RM WM wd) h) :
    am_V M_X10_count kc ks 28 [aU, aU, aU] [aI xs0, aI xs1] (RM WM wd) h Q X := by
  obtain ⟨b0_1, k⟩ := k
  refine v_isub dX10_count_28 b0_1 ?_
  exact v_iret dX10_count_29 rfl rfl k
theorem S_X10_runFrom_0 {kc ks : Nat} {h : Hh} {Q : PQ} {X : PX} {x1 : Int}
    (k : (1 ≤ kc ∧ 6 ≤ ks) ∧ am_V M_X10_known 1 6 0 [aR 0, aI x1] [] (RM WM wd) h (fun v ρ' h' => am_V M_X10_runFrom (kc - 1) (ks - 6) 5 [aR 0, aU, aU] (v ++ []) ρ' h' Q X) X) :
    am_V M_X10_runFrom kc ks 0 [aR 0, aI x1, aU] [] (RM WM wd) h Q X := by
  obtain ⟨⟨b0_1, b0_2⟩, k⟩ := k
  refine v_aload_n dX10_runFrom_0 rfl rfl ?_
  refine v_iload_n dX10_runFrom_1 rfl rfl ?_
  refine v_weak (E2 := [aR 0, aU, aU]) ⟨Or.inl rfl, ⟨Or.inr rfl, ⟨Or.inl rfl, trivial⟩⟩⟩ ?_
  exact v_callV (j := M_X10_known) (As := [aI x1]) (st := []) (E0 := [aR 0, aI x1]) (a := 0) (ci := 8) (N := 10) (q9 := (RX10, TX10, 10)) dX10_runFrom_2 ml_X10_126 J_X10_known b0_1 b0_2 (Nat.le_of_ble_eq_true rfl) rfl (Nat.le_of_ble_eq_true rfl) (List.forall_mem_cons.mpr ⟨rfl, List.forall_mem_cons.mpr ⟨rfl, fun _ h9 => absurd h9 List.not_mem_nil⟩⟩) (Nat.le_of_ble_eq_true rfl) rfl rfl rfl rfl pn_X10_known rfl k
theorem S_X10_runFrom_5 {kc ks : Nat} {h : Hh} {Q : PQ} {X : PX} {as0 : Nat} (ts0 : isT as0)
    (k : (1 ≤ kc ∧ 6 ≤ ks) ∧ am_V M_X10_refuseNoWord 1 6 0 [aR 0] [] (RM WM wd) h (fun v ρ' h' => am_V M_X10_runFrom (kc - 1) (ks - 6) 10 [aR 0, aU, aR as0] (v ++ []) ρ' h' Q X) X) :
    am_V M_X10_runFrom kc ks 5 [aR 0, aU, aU] [aR as0] (RM WM wd) h Q X := by
  obtain ⟨⟨b0_1, b0_2⟩, k⟩ := k
  refine v_astore_n (E2 := [aR 0, aU, aR as0]) dX10_runFrom_5 rfl (Nat.le_of_ble_eq_true rfl) rfl ?_
  refine v_aload_n dX10_runFrom_6 rfl rfl ?_
  exact v_callV (j := M_X10_refuseNoWord) (As := []) (st := []) (E0 := [aR 0]) (a := 0) (ci := 8) (N := 10) (q9 := (RX10, TX10, 10)) dX10_runFrom_7 ml_X10_192 J_X10_refuseNoWord b0_1 b0_2 (Nat.le_of_ble_eq_true rfl) rfl (Nat.le_of_ble_eq_true rfl) (List.forall_mem_cons.mpr ⟨rfl, fun _ h9 => absurd h9 List.not_mem_nil⟩) (Nat.le_of_ble_eq_true rfl) rfl rfl rfl rfl pn_X10_refuseNoWord rfl k
theorem S_X10_runFrom_10 {kc ks : Nat} {h : Hh} {Q : PQ} {X : PX} {a2 : Nat} (t2 : isT a2)
    (k : (1 ≤ kc ∧ 6 ≤ ks) ∧ am_V M_X10_leastRank 1 6 0 [aR 0, aR a2, aU] [] (RM WM wd) h (fun v ρ' h' => am_V M_X10_runFrom (kc - 1) (ks - 6) 15 [aU, aU, aU] (v ++ []) ρ' h' Q X) X) :
    am_V M_X10_runFrom kc ks 10 [aR 0, aU, aR a2] [] (RM WM wd) h Q X := by
  obtain ⟨⟨b0_1, b0_2⟩, k⟩ := k
  refine v_aload_n dX10_runFrom_10 rfl rfl ?_
  refine v_aload_n dX10_runFrom_11 rfl rfl ?_
  refine v_weak (E2 := [aU, aU, aU]) ⟨Or.inr rfl, ⟨Or.inl rfl, ⟨Or.inr rfl, trivial⟩⟩⟩ ?_
  exact v_callV (j := M_X10_leastRank) (As := [aR a2]) (st := []) (E0 := [aR 0, aR a2, aU]) (a := 0) (ci := 8) (N := 10) (q9 := (RX10, TX10, 10)) dX10_runFrom_12 ml_X10_202 J_X10_leastRank b0_1 b0_2 (Nat.le_of_ble_eq_true rfl) rfl (Nat.le_of_ble_eq_true rfl) (List.forall_mem_cons.mpr ⟨rfl, List.forall_mem_cons.mpr ⟨rfl, fun _ h9 => absurd h9 List.not_mem_nil⟩⟩) (Nat.le_of_ble_eq_true rfl) rfl rfl rfl rfl pn_X10_leastRank rfl k
theorem S_X10_runFrom_15 {kc ks : Nat} {h : Hh} {Q : PQ} {X : PX} {xs0 : Int}
    (k : Q [aI xs0] (RM WM wd) h) :
    am_V M_X10_runFrom kc ks 15 [aU, aU, aU] [aI xs0] (RM WM wd) h Q X := by
  exact v_iret dX10_runFrom_15 rfl rfl k
theorem S_X10_standsAt_0 {kc ks : Nat} {h : Hh} {Q : PQ} {X : PX} {x1 : Int} {x2 : Int}
    (k : (1 ≤ kc ∧ 6 ≤ ks) ∧ am_V M_X10_known 1 6 0 [aR 0, aI x1] [] (RM WM wd) h (fun v ρ' h' => am_V M_X10_standsAt (kc - 1) (ks - 6) 5 [aR 0, aU, aI x2, aU, aU, aU] (v ++ []) ρ' h' Q X) X) :
    am_V M_X10_standsAt kc ks 0 [aR 0, aI x1, aI x2, aU, aU, aU] [] (RM WM wd) h Q X := by
  obtain ⟨⟨b0_1, b0_2⟩, k⟩ := k
  refine v_aload_n dX10_standsAt_0 rfl rfl ?_
  refine v_iload_n dX10_standsAt_1 rfl rfl ?_
  refine v_weak (E2 := [aR 0, aU, aI x2, aU, aU, aU]) ⟨Or.inl rfl, ⟨Or.inr rfl, ⟨Or.inl rfl, ⟨Or.inl rfl, ⟨Or.inl rfl, ⟨Or.inl rfl, trivial⟩⟩⟩⟩⟩⟩ ?_
  exact v_callV (j := M_X10_known) (As := [aI x1]) (st := []) (E0 := [aR 0, aI x1]) (a := 0) (ci := 8) (N := 10) (q9 := (RX10, TX10, 10)) dX10_standsAt_2 ml_X10_126 J_X10_known b0_1 b0_2 (Nat.le_of_ble_eq_true rfl) rfl (Nat.le_of_ble_eq_true rfl) (List.forall_mem_cons.mpr ⟨rfl, List.forall_mem_cons.mpr ⟨rfl, fun _ h9 => absurd h9 List.not_mem_nil⟩⟩) (Nat.le_of_ble_eq_true rfl) rfl rfl rfl rfl pn_X10_known rfl k
theorem S_X10_standsAt_5 {kc ks : Nat} {h : Hh} {Q : PQ} {X : PX} {x2 : Int} {as0 : Nat} (ts0 : isT as0)
    (k : (1 ≤ kc ∧ 6 ≤ ks) ∧ am_V M_X10_refuseNoWord 1 6 0 [aR 0] [] (RM WM wd) h (fun v ρ' h' => am_V M_X10_standsAt (kc - 1) (ks - 6) 10 [aR 0, aU, aI x2, aR as0, aU, aU] (v ++ []) ρ' h' Q X) X) :
    am_V M_X10_standsAt kc ks 5 [aR 0, aU, aI x2, aU, aU, aU] [aR as0] (RM WM wd) h Q X := by
  obtain ⟨⟨b0_1, b0_2⟩, k⟩ := k
  refine v_astore_n (E2 := [aR 0, aU, aI x2, aR as0, aU, aU]) dX10_standsAt_5 rfl (Nat.le_of_ble_eq_true rfl) rfl ?_
  refine v_aload_n dX10_standsAt_6 rfl rfl ?_
  exact v_callV (j := M_X10_refuseNoWord) (As := []) (st := []) (E0 := [aR 0]) (a := 0) (ci := 8) (N := 10) (q9 := (RX10, TX10, 10)) dX10_standsAt_7 ml_X10_192 J_X10_refuseNoWord b0_1 b0_2 (Nat.le_of_ble_eq_true rfl) rfl (Nat.le_of_ble_eq_true rfl) (List.forall_mem_cons.mpr ⟨rfl, fun _ h9 => absurd h9 List.not_mem_nil⟩) (Nat.le_of_ble_eq_true rfl) rfl rfl rfl rfl pn_X10_refuseNoWord rfl k
theorem S_X10_standsAt_10 {kc ks : Nat} {h : Hh} {Q : PQ} {X : PX} {x2 : Int} {a3 : Nat} (t3 : isT a3)
    (k : am_V M_X6_endsBelow 0 0 0 [aR a3, aR 2, aI 0] [] (RM WM wd) h (fun v ρ' h' => am_V M_X10_standsAt kc ks 19 [aR 0, aU, aI x2, aR a3, aU, aU] (v ++ []) ρ' h' Q X) X) :
    am_V M_X10_standsAt kc ks 10 [aR 0, aU, aI x2, aR a3, aU, aU] [] (RM WM wd) h Q X := by
  refine v_aload_n dX10_standsAt_10 rfl rfl ?_
  refine v_aload_n dX10_standsAt_11 rfl rfl ?_
  refine v_getR (x := 2) dX10_standsAt_12 fl_X10_18 am_clsA rfl rfl rfl ?_
  refine v_iconst dX10_standsAt_15 ⟨by decide, by decide⟩ ?_
  exact v_callV (j := M_X6_endsBelow) (As := [aR 2, aI 0]) (st := []) (E0 := [aR a3, aR 2, aI 0]) (a := a3) (ci := 4) (N := 5) (q9 := (RX6, TX6, 5)) dX10_standsAt_16 ml_X10_199 J_X6_endsBelow (Nat.zero_le _) (Nat.zero_le _) (Nat.le_of_ble_eq_true rfl) rfl (Nat.le_of_ble_eq_true rfl) (List.forall_mem_cons.mpr ⟨rfl, List.forall_mem_cons.mpr ⟨rfl, List.forall_mem_cons.mpr ⟨rfl, fun _ h9 => absurd h9 List.not_mem_nil⟩⟩⟩) (Nat.le_of_ble_eq_true rfl) rfl (tk0 t3) rfl rfl pn_X6_endsBelow rfl k
theorem S_X10_standsAt_19 {kc ks : Nat} {h : Hh} {Q : PQ} {X : PX} {x2 : Int} {a3 : Nat} (t3 : isT a3) {xs0 : Int}
    (k : am_V M_X6_endsUpTo 0 0 0 [aR a3, aR 2, aI 0] [] (RM WM wd) h (fun v ρ' h' => am_V M_X10_standsAt kc ks 30 [aU, aU, aI x2, aR a3, aI xs0, aU] (v ++ []) ρ' h' Q X) X) :
    am_V M_X10_standsAt kc ks 19 [aR 0, aU, aI x2, aR a3, aU, aU] [aI xs0] (RM WM wd) h Q X := by
  refine v_istore (E2 := [aR 0, aU, aI x2, aR a3, aI xs0, aU]) dX10_standsAt_19 (Nat.le_of_ble_eq_true rfl) rfl ?_
  refine v_aload_n dX10_standsAt_21 rfl rfl ?_
  refine v_aload_n dX10_standsAt_22 rfl rfl ?_
  refine v_getR (x := 2) dX10_standsAt_23 fl_X10_18 am_clsA rfl rfl rfl ?_
  refine v_iconst dX10_standsAt_26 ⟨by decide, by decide⟩ ?_
  refine v_weak (E2 := [aU, aU, aI x2, aR a3, aI xs0, aU]) ⟨Or.inr rfl, ⟨Or.inl rfl, ⟨Or.inl rfl, ⟨Or.inl rfl, ⟨Or.inl rfl, ⟨Or.inl rfl, trivial⟩⟩⟩⟩⟩⟩ ?_
  exact v_callV (j := M_X6_endsUpTo) (As := [aR 2, aI 0]) (st := []) (E0 := [aR a3, aR 2, aI 0]) (a := a3) (ci := 4) (N := 5) (q9 := (RX6, TX6, 5)) dX10_standsAt_27 ml_X10_195 J_X6_endsUpTo (Nat.zero_le _) (Nat.zero_le _) (Nat.le_of_ble_eq_true rfl) rfl (Nat.le_of_ble_eq_true rfl) (List.forall_mem_cons.mpr ⟨rfl, List.forall_mem_cons.mpr ⟨rfl, List.forall_mem_cons.mpr ⟨rfl, fun _ h9 => absurd h9 List.not_mem_nil⟩⟩⟩) (Nat.le_of_ble_eq_true rfl) rfl (tk0 t3) rfl rfl pn_X6_endsUpTo rfl k
theorem S_X10_standsAt_30 {kc ks : Nat} {h : Hh} {Q : PQ} {X : PX} {x2 : Int} {a3 : Nat} (t3 : isT a3) {x4 : Int} {xs0 : Int}
    (k : ((x2 < 0 → (1 ≤ kc ∧ 6 ≤ ks) ∧ X "java/util/NoSuchElementException" (RM WM false) h) ∧ (0 ≤ x2 → ((-2147483648 ≤ ((xs0 - x4) : Int) ∧ ((xs0 - x4) : Int) < 2147483648)) ∧ ((x2 < (xs0 - x4) → am_V M_X6_risingPlace 0 0 0 [aR a3, aI x4, aI xs0, aI x2, aU, aU] [] (RM WM wd) h (fun v ρ' h' => am_V M_X10_standsAt kc ks 64 [aU, aU, aU, aU, aU, aU] (v ++ []) ρ' h' Q X) X) ∧ ((xs0 - x4) ≤ x2 → (1 ≤ kc ∧ 6 ≤ ks) ∧ X "java/util/NoSuchElementException" (RM WM false) h))))) :
    am_V M_X10_standsAt kc ks 30 [aU, aU, aI x2, aR a3, aI x4, aU] [aI xs0] (RM WM wd) h Q X := by
  refine v_istore (E2 := [aU, aU, aI x2, aR a3, aI x4, aI xs0]) dX10_standsAt_30 (Nat.le_of_ble_eq_true rfl) rfl ?_
  refine v_iload_n dX10_standsAt_32 rfl rfl ?_
  refine v_if_lt (tgt := 45) dX10_standsAt_33 (by decide) (fun z => ?_) (fun z => ?_)
  · have k := k.1 z
    obtain ⟨⟨b1_1, b1_2⟩, k⟩ := k
    exact v_throwX dX10_standsAt_45 dX10_standsAt_48 dX10_standsAt_49 dX10_standsAt_51 dX10_standsAt_54 th_97_205_101 rfl rfl (by decide) (Nat.le_of_ble_eq_true rfl) b1_1 b1_2 k
  · have k := k.2 z
    obtain ⟨b1_1, k⟩ := k
    refine v_iload_n dX10_standsAt_36 rfl rfl ?_
    refine v_iload dX10_standsAt_37 rfl ?_
    refine v_iload dX10_standsAt_39 rfl ?_
    refine v_isub dX10_standsAt_41 b1_1 ?_
    refine v_icmp_lt (tgt := 55) dX10_standsAt_42 (by decide) (fun z => ?_) (fun z => ?_)
    · have k := k.1 z
      refine v_aload_n dX10_standsAt_55 rfl rfl ?_
      refine v_iload dX10_standsAt_56 rfl ?_
      refine v_iload dX10_standsAt_58 rfl ?_
      refine v_iload_n dX10_standsAt_60 rfl rfl ?_
      refine v_weak (E2 := [aU, aU, aU, aU, aU, aU]) ⟨Or.inl rfl, ⟨Or.inl rfl, ⟨Or.inr rfl, ⟨Or.inr rfl, ⟨Or.inr rfl, ⟨Or.inr rfl, trivial⟩⟩⟩⟩⟩⟩ ?_
      exact v_callV (j := M_X6_risingPlace) (As := [aI x4, aI xs0, aI x2]) (st := []) (E0 := [aR a3, aI x4, aI xs0, aI x2, aU, aU]) (a := a3) (ci := 4) (N := 5) (q9 := (RX6, TX6, 5)) dX10_standsAt_61 ml_X10_207 J_X6_risingPlace (Nat.zero_le _) (Nat.zero_le _) (Nat.le_of_ble_eq_true rfl) rfl (Nat.le_of_ble_eq_true rfl) (List.forall_mem_cons.mpr ⟨rfl, List.forall_mem_cons.mpr ⟨rfl, List.forall_mem_cons.mpr ⟨rfl, List.forall_mem_cons.mpr ⟨rfl, fun _ h9 => absurd h9 List.not_mem_nil⟩⟩⟩⟩) (Nat.le_of_ble_eq_true rfl) rfl (tk0 t3) rfl rfl pn_X6_risingPlace rfl k
    · have k := k.2 z
      obtain ⟨⟨b2_1, b2_2⟩, k⟩ := k
      exact v_throwX dX10_standsAt_45 dX10_standsAt_48 dX10_standsAt_49 dX10_standsAt_51 dX10_standsAt_54 th_97_205_101 rfl rfl (by decide) (Nat.le_of_ble_eq_true rfl) b2_1 b2_2 k
theorem S_X10_standsAt_64 {kc ks : Nat} {h : Hh} {Q : PQ} {X : PX} {xs0 : Int}
    (k : Q [aI xs0] (RM WM wd) h) :
    am_V M_X10_standsAt kc ks 64 [aU, aU, aU, aU, aU, aU] [aI xs0] (RM WM wd) h Q X := by
  exact v_iret dX10_standsAt_64 rfl rfl k
theorem S_X10_tail_0 {kc ks : Nat} {h : Hh} {Q : PQ} {X : PX} {x1 : Int} {x2 : Int}
    (k : (1 ≤ kc ∧ 6 ≤ ks) ∧ am_V M_X10_known 1 6 0 [aR 0, aI x1] [] (RM WM wd) h (fun v ρ' h' => am_V M_X10_tail (kc - 1) (ks - 6) 5 [aR 0, aU, aI x2, aU, aU] (v ++ []) ρ' h' Q X) X) :
    am_V M_X10_tail kc ks 0 [aR 0, aI x1, aI x2, aU, aU] [] (RM WM wd) h Q X := by
  obtain ⟨⟨b0_1, b0_2⟩, k⟩ := k
  refine v_aload_n dX10_tail_0 rfl rfl ?_
  refine v_iload_n dX10_tail_1 rfl rfl ?_
  refine v_weak (E2 := [aR 0, aU, aI x2, aU, aU]) ⟨Or.inl rfl, ⟨Or.inr rfl, ⟨Or.inl rfl, ⟨Or.inl rfl, ⟨Or.inl rfl, trivial⟩⟩⟩⟩⟩ ?_
  exact v_callV (j := M_X10_known) (As := [aI x1]) (st := []) (E0 := [aR 0, aI x1]) (a := 0) (ci := 8) (N := 10) (q9 := (RX10, TX10, 10)) dX10_tail_2 ml_X10_126 J_X10_known b0_1 b0_2 (Nat.le_of_ble_eq_true rfl) rfl (Nat.le_of_ble_eq_true rfl) (List.forall_mem_cons.mpr ⟨rfl, List.forall_mem_cons.mpr ⟨rfl, fun _ h9 => absurd h9 List.not_mem_nil⟩⟩) (Nat.le_of_ble_eq_true rfl) rfl rfl rfl rfl pn_X10_known rfl k
theorem S_X10_tail_5 {kc ks : Nat} {h : Hh} {Q : PQ} {X : PX} {x2 : Int} {as0 : Nat} (ts0 : isT as0)
    (k : (1 ≤ kc ∧ 6 ≤ ks) ∧ am_V M_X10_refuseNoWord 1 6 0 [aR 0] [] (RM WM wd) h (fun v ρ' h' => am_V M_X10_tail (kc - 1) (ks - 6) 10 [aR 0, aU, aI x2, aR as0, aU] (v ++ []) ρ' h' Q X) X) :
    am_V M_X10_tail kc ks 5 [aR 0, aU, aI x2, aU, aU] [aR as0] (RM WM wd) h Q X := by
  obtain ⟨⟨b0_1, b0_2⟩, k⟩ := k
  refine v_astore_n (E2 := [aR 0, aU, aI x2, aR as0, aU]) dX10_tail_5 rfl (Nat.le_of_ble_eq_true rfl) rfl ?_
  refine v_aload_n dX10_tail_6 rfl rfl ?_
  exact v_callV (j := M_X10_refuseNoWord) (As := []) (st := []) (E0 := [aR 0]) (a := 0) (ci := 8) (N := 10) (q9 := (RX10, TX10, 10)) dX10_tail_7 ml_X10_192 J_X10_refuseNoWord b0_1 b0_2 (Nat.le_of_ble_eq_true rfl) rfl (Nat.le_of_ble_eq_true rfl) (List.forall_mem_cons.mpr ⟨rfl, fun _ h9 => absurd h9 List.not_mem_nil⟩) (Nat.le_of_ble_eq_true rfl) rfl rfl rfl rfl pn_X10_refuseNoWord rfl k
theorem S_X10_tail_10 {kc ks : Nat} {h : Hh} {Q : PQ} {X : PX} {x2 : Int} {a3 : Nat} (t3 : isT a3)
    (k : ((x2 < 1 → (1 ≤ kc ∧ 6 ≤ ks) ∧ X "java/lang/IllegalArgumentException" (RM WM false) h) ∧ (1 ≤ x2 → ((x2 ≤ (h 2 1) → ((-2147483648 ≤ (((h 2 1) - x2) : Int) ∧ (((h 2 1) - x2) : Int) < 2147483648)) ∧ am_V M_X6_endsUpTo 0 0 0 [aR a3, aR 2, aI ((h 2 1) - x2)] [] (RM WM wd) h (fun v ρ' h' => am_V M_X10_tail kc ks 57 [aR 0, aU, aU, aR a3, aI ((h 2 1) - x2)] (v ++ []) ρ' h' Q X) X) ∧ ((h 2 1) < x2 → (1 ≤ kc ∧ 6 ≤ ks) ∧ X "java/lang/IllegalArgumentException" (RM WM false) h))))) :
    am_V M_X10_tail kc ks 10 [aR 0, aU, aI x2, aR a3, aU] [] (RM WM wd) h Q X := by
  refine v_iload_n dX10_tail_10 rfl rfl ?_
  refine v_iconst dX10_tail_11 ⟨by decide, by decide⟩ ?_
  refine v_icmp_lt (tgt := 26) dX10_tail_12 (by decide) (fun z => ?_) (fun z => ?_)
  · have k := k.1 z
    obtain ⟨⟨b1_1, b1_2⟩, k⟩ := k
    exact v_throw dX10_tail_26 dX10_tail_29 dX10_tail_30 dX10_tail_32 dX10_tail_35 th_73_211_77 rfl rfl (by decide) (Nat.le_of_ble_eq_true rfl) b1_1 b1_2 k
  · have k := k.2 z
    refine v_iload_n dX10_tail_15 rfl rfl ?_
    refine v_aload_n dX10_tail_16 rfl rfl ?_
    refine v_getR (x := 2) dX10_tail_17 fl_X10_18 am_clsA rfl rfl rfl ?_
    refine v_getI (j := 1) dX10_tail_20 fl_X10_80 am_clsA rfl rfl rfl ?_
    refine v_icmp_le (tgt := 36) dX10_tail_23 (by decide) (fun z => ?_) (fun z => ?_)
    · have k := k.1 z
      obtain ⟨b2_1, k⟩ := k
      refine v_aload_n dX10_tail_36 rfl rfl ?_
      refine v_getR (x := 2) dX10_tail_37 fl_X10_18 am_clsA rfl rfl rfl ?_
      refine v_getI (j := 1) dX10_tail_40 fl_X10_80 am_clsA rfl rfl rfl ?_
      refine v_iload_n dX10_tail_43 rfl rfl ?_
      refine v_isub dX10_tail_44 b2_1 ?_
      refine v_istore (E2 := [aR 0, aU, aI x2, aR a3, aI ((h 2 1) - x2)]) dX10_tail_45 (Nat.le_of_ble_eq_true rfl) rfl ?_
      refine v_aload_n dX10_tail_47 rfl rfl ?_
      refine v_aload_n dX10_tail_48 rfl rfl ?_
      refine v_getR (x := 2) dX10_tail_49 fl_X10_18 am_clsA rfl rfl rfl ?_
      refine v_iload dX10_tail_52 rfl ?_
      refine v_weak (E2 := [aR 0, aU, aU, aR a3, aI ((h 2 1) - x2)]) ⟨Or.inl rfl, ⟨Or.inl rfl, ⟨Or.inr rfl, ⟨Or.inl rfl, ⟨Or.inl rfl, trivial⟩⟩⟩⟩⟩ ?_
      exact v_callV (j := M_X6_endsUpTo) (As := [aR 2, aI ((h 2 1) - x2)]) (st := []) (E0 := [aR a3, aR 2, aI ((h 2 1) - x2)]) (a := a3) (ci := 4) (N := 5) (q9 := (RX6, TX6, 5)) dX10_tail_54 ml_X10_195 J_X6_endsUpTo (Nat.zero_le _) (Nat.zero_le _) (Nat.le_of_ble_eq_true rfl) rfl (Nat.le_of_ble_eq_true rfl) (List.forall_mem_cons.mpr ⟨rfl, List.forall_mem_cons.mpr ⟨rfl, List.forall_mem_cons.mpr ⟨rfl, fun _ h9 => absurd h9 List.not_mem_nil⟩⟩⟩) (Nat.le_of_ble_eq_true rfl) rfl (tk0 t3) rfl rfl pn_X6_endsUpTo rfl k
    · have k := k.2 z
      obtain ⟨⟨b2_1, b2_2⟩, k⟩ := k
      exact v_throw dX10_tail_26 dX10_tail_29 dX10_tail_30 dX10_tail_32 dX10_tail_35 th_73_211_77 rfl rfl (by decide) (Nat.le_of_ble_eq_true rfl) b2_1 b2_2 k
theorem S_X10_tail_57 {kc ks : Nat} {h : Hh} {Q : PQ} {X : PX} {a3 : Nat} (t3 : isT a3) {x4 : Int} {xs0 : Int}
    (k : am_V M_X6_endsBelow 0 0 0 [aR a3, aR 2, aI x4] [] (RM WM wd) h (fun v ρ' h' => am_V M_X10_tail kc ks 67 [aU, aU, aU, aU, aU] (v ++ [aI xs0]) ρ' h' Q X) X) :
    am_V M_X10_tail kc ks 57 [aR 0, aU, aU, aR a3, aI x4] [aI xs0] (RM WM wd) h Q X := by
  refine v_aload_n dX10_tail_57 rfl rfl ?_
  refine v_aload_n dX10_tail_58 rfl rfl ?_
  refine v_getR (x := 2) dX10_tail_59 fl_X10_18 am_clsA rfl rfl rfl ?_
  refine v_iload dX10_tail_62 rfl ?_
  refine v_weak (E2 := [aU, aU, aU, aU, aU]) ⟨Or.inr rfl, ⟨Or.inl rfl, ⟨Or.inl rfl, ⟨Or.inr rfl, ⟨Or.inr rfl, trivial⟩⟩⟩⟩⟩ ?_
  exact v_callV (j := M_X6_endsBelow) (As := [aR 2, aI x4]) (st := [aI xs0]) (E0 := [aR a3, aR 2, aI x4]) (a := a3) (ci := 4) (N := 5) (q9 := (RX6, TX6, 5)) dX10_tail_64 ml_X10_199 J_X6_endsBelow (Nat.zero_le _) (Nat.zero_le _) (Nat.le_of_ble_eq_true rfl) rfl (Nat.le_of_ble_eq_true rfl) (List.forall_mem_cons.mpr ⟨rfl, List.forall_mem_cons.mpr ⟨rfl, List.forall_mem_cons.mpr ⟨rfl, fun _ h9 => absurd h9 List.not_mem_nil⟩⟩⟩) (Nat.le_of_ble_eq_true rfl) rfl (tk0 t3) rfl rfl pn_X6_endsBelow rfl k
theorem S_X10_tail_67 {kc ks : Nat} {h : Hh} {Q : PQ} {X : PX} {xs0 : Int} {xs1 : Int}
    (k : ((-2147483648 ≤ ((xs1 - xs0) : Int) ∧ ((xs1 - xs0) : Int) < 2147483648)) ∧ Q [aI (xs1 - xs0)] (RM WM wd) h) :
    am_V M_X10_tail kc ks 67 [aU, aU, aU, aU, aU] [aI xs0, aI xs1] (RM WM wd) h Q X := by
  obtain ⟨b0_1, k⟩ := k
  refine v_isub dX10_tail_67 b0_1 ?_
  exact v_iret dX10_tail_68 rfl rfl k
theorem S_X10_words_0 {kc ks : Nat} {h : Hh} {Q : PQ} {X : PX} {x1 : Int}
    (k : (1 ≤ kc ∧ 6 ≤ ks) ∧ am_V M_X10_known 1 6 0 [aR 0, aI x1] [] (RM WM wd) h (fun v ρ' h' => am_V M_X10_words (kc - 1) (ks - 6) 5 [aU, aU, aU] (v ++ []) ρ' h' Q X) X) :
    am_V M_X10_words kc ks 0 [aR 0, aI x1, aU] [] (RM WM wd) h Q X := by
  obtain ⟨⟨b0_1, b0_2⟩, k⟩ := k
  refine v_aload_n dX10_words_0 rfl rfl ?_
  refine v_iload_n dX10_words_1 rfl rfl ?_
  refine v_weak (E2 := [aU, aU, aU]) ⟨Or.inr rfl, ⟨Or.inr rfl, ⟨Or.inl rfl, trivial⟩⟩⟩ ?_
  exact v_callV (j := M_X10_known) (As := [aI x1]) (st := []) (E0 := [aR 0, aI x1]) (a := 0) (ci := 8) (N := 10) (q9 := (RX10, TX10, 10)) dX10_words_2 ml_X10_126 J_X10_known b0_1 b0_2 (Nat.le_of_ble_eq_true rfl) rfl (Nat.le_of_ble_eq_true rfl) (List.forall_mem_cons.mpr ⟨rfl, List.forall_mem_cons.mpr ⟨rfl, fun _ h9 => absurd h9 List.not_mem_nil⟩⟩) (Nat.le_of_ble_eq_true rfl) rfl rfl rfl rfl pn_X10_known rfl k
theorem S_X10_words_5 {kc ks : Nat} {h : Hh} {Q : PQ} {X : PX} {as0 : Nat} (ts0 : isT as0)
    (k : am_V M_X6_newWordsBelow 0 0 0 [aR as0, aI (h as0 4), aU, aU] [] (RM WM wd) h (fun v ρ' h' => am_V M_X10_words kc ks 14 [aU, aU, aU] (v ++ []) ρ' h' Q X) X) :
    am_V M_X10_words kc ks 5 [aU, aU, aU] [aR as0] (RM WM wd) h Q X := by
  refine v_astore_n (E2 := [aU, aU, aR as0]) dX10_words_5 rfl (Nat.le_of_ble_eq_true rfl) rfl ?_
  refine v_aload_n dX10_words_6 rfl rfl ?_
  refine v_aload_n dX10_words_7 rfl rfl ?_
  refine v_getI (j := 4) dX10_words_8 fl_X10_131 am_clsA rfl rfl (tk0 ts0) ?_
  refine v_weak (E2 := [aU, aU, aU]) ⟨Or.inl rfl, ⟨Or.inl rfl, ⟨Or.inr rfl, trivial⟩⟩⟩ ?_
  exact v_callV (j := M_X6_newWordsBelow) (As := [aI (h as0 4)]) (st := []) (E0 := [aR as0, aI (h as0 4), aU, aU]) (a := as0) (ci := 4) (N := 5) (q9 := (RX6, TX6, 5)) dX10_words_11 ml_X10_213 J_X6_newWordsBelow (Nat.zero_le _) (Nat.zero_le _) (Nat.le_of_ble_eq_true rfl) rfl (Nat.le_of_ble_eq_true rfl) (List.forall_mem_cons.mpr ⟨rfl, List.forall_mem_cons.mpr ⟨rfl, fun _ h9 => absurd h9 List.not_mem_nil⟩⟩) (Nat.le_of_ble_eq_true rfl) rfl (tk0 ts0) rfl rfl pn_X6_newWordsBelow rfl k
theorem S_X10_words_14 {kc ks : Nat} {h : Hh} {Q : PQ} {X : PX} {xs0 : Int}
    (k : Q [aL xs0] (RM WM wd) h) :
    am_V M_X10_words kc ks 14 [aU, aU, aU] [aI xs0] (RM WM wd) h Q X := by
  refine v_i2l dX10_words_14 ?_
  exact v_lret dX10_words_15 rfl rfl k
theorem S_X10_word_0 {kc ks : Nat} {h : Hh} {Q : PQ} {X : PX} {x1 : Int} {x2 : Int}
    (k : (1 ≤ kc ∧ 6 ≤ ks) ∧ am_V M_X10_known 1 6 0 [aR 0, aI x1] [] (RM WM wd) h (fun v ρ' h' => am_V M_X10_word (kc - 1) (ks - 6) 5 [aR 0, aU, aI x2, aU, aU, aU] (v ++ []) ρ' h' Q X) X) :
    am_V M_X10_word kc ks 0 [aR 0, aI x1, aI x2, aU, aU, aU] [] (RM WM wd) h Q X := by
  obtain ⟨⟨b0_1, b0_2⟩, k⟩ := k
  refine v_aload_n dX10_word_0 rfl rfl ?_
  refine v_iload_n dX10_word_1 rfl rfl ?_
  refine v_weak (E2 := [aR 0, aU, aI x2, aU, aU, aU]) ⟨Or.inl rfl, ⟨Or.inr rfl, ⟨Or.inl rfl, ⟨Or.inl rfl, ⟨Or.inl rfl, ⟨Or.inl rfl, trivial⟩⟩⟩⟩⟩⟩ ?_
  exact v_callV (j := M_X10_known) (As := [aI x1]) (st := []) (E0 := [aR 0, aI x1]) (a := 0) (ci := 8) (N := 10) (q9 := (RX10, TX10, 10)) dX10_word_2 ml_X10_126 J_X10_known b0_1 b0_2 (Nat.le_of_ble_eq_true rfl) rfl (Nat.le_of_ble_eq_true rfl) (List.forall_mem_cons.mpr ⟨rfl, List.forall_mem_cons.mpr ⟨rfl, fun _ h9 => absurd h9 List.not_mem_nil⟩⟩) (Nat.le_of_ble_eq_true rfl) rfl rfl rfl rfl pn_X10_known rfl k
theorem S_X10_word_5 {kc ks : Nat} {h : Hh} {Q : PQ} {X : PX} {x2 : Int} {as0 : Nat} (ts0 : isT as0)
    (k : ((x2 < 0 → (1 ≤ kc ∧ 6 ≤ ks) ∧ X "java/util/NoSuchElementException" (RM WM false) h) ∧ (0 ≤ x2 → am_V M_X6_newWordsBelow 0 0 0 [aR as0, aI (h as0 4), aU, aU] [] (RM WM wd) h (fun v ρ' h' => am_V M_X10_word kc ks 19 [aR 0, aU, aI x2, aR as0, aU, aU] (v ++ [aI x2]) ρ' h' Q X) X))) :
    am_V M_X10_word kc ks 5 [aR 0, aU, aI x2, aU, aU, aU] [aR as0] (RM WM wd) h Q X := by
  refine v_astore_n (E2 := [aR 0, aU, aI x2, aR as0, aU, aU]) dX10_word_5 rfl (Nat.le_of_ble_eq_true rfl) rfl ?_
  refine v_iload_n dX10_word_6 rfl rfl ?_
  refine v_if_lt (tgt := 22) dX10_word_7 (by decide) (fun z => ?_) (fun z => ?_)
  · have k := k.1 z
    obtain ⟨⟨b1_1, b1_2⟩, k⟩ := k
    exact v_throwX dX10_word_22 dX10_word_25 dX10_word_26 dX10_word_28 dX10_word_31 th_97_217_101 rfl rfl (by decide) (Nat.le_of_ble_eq_true rfl) b1_1 b1_2 k
  · have k := k.2 z
    refine v_iload_n dX10_word_10 rfl rfl ?_
    refine v_aload_n dX10_word_11 rfl rfl ?_
    refine v_aload_n dX10_word_12 rfl rfl ?_
    refine v_getI (j := 4) dX10_word_13 fl_X10_131 am_clsA rfl rfl (tk0 ts0) ?_
    exact v_callV (j := M_X6_newWordsBelow) (As := [aI (h as0 4)]) (st := [aI x2]) (E0 := [aR as0, aI (h as0 4), aU, aU]) (a := as0) (ci := 4) (N := 5) (q9 := (RX6, TX6, 5)) dX10_word_16 ml_X10_213 J_X6_newWordsBelow (Nat.zero_le _) (Nat.zero_le _) (Nat.le_of_ble_eq_true rfl) rfl (Nat.le_of_ble_eq_true rfl) (List.forall_mem_cons.mpr ⟨rfl, List.forall_mem_cons.mpr ⟨rfl, fun _ h9 => absurd h9 List.not_mem_nil⟩⟩) (Nat.le_of_ble_eq_true rfl) rfl (tk0 ts0) rfl rfl pn_X6_newWordsBelow rfl k
theorem S_X10_word_19 {kc ks : Nat} {h : Hh} {Q : PQ} {X : PX} {x2 : Int} {a3 : Nat} (t3 : isT a3) {xs0 : Int} {xs1 : Int}
    (k : ((xs1 < xs0 → am_V M_X6_rankBringing 0 0 0 [aR a3, aI x2, aU, aU] [] (RM WM wd) h (fun v ρ' h' => am_V M_X10_word kc ks 37 [aR 0, aU, aI x2, aR a3, aU, aU] (v ++ []) ρ' h' Q X) X) ∧ (xs0 ≤ xs1 → (1 ≤ kc ∧ 6 ≤ ks) ∧ X "java/util/NoSuchElementException" (RM WM false) h))) :
    am_V M_X10_word kc ks 19 [aR 0, aU, aI x2, aR a3, aU, aU] [aI xs0, aI xs1] (RM WM wd) h Q X := by
  refine v_icmp_lt (tgt := 32) dX10_word_19 (by decide) (fun z => ?_) (fun z => ?_)
  · have k := k.1 z
    refine v_aload_n dX10_word_32 rfl rfl ?_
    refine v_iload_n dX10_word_33 rfl rfl ?_
    exact v_callV (j := M_X6_rankBringing) (As := [aI x2]) (st := []) (E0 := [aR a3, aI x2, aU, aU]) (a := a3) (ci := 4) (N := 5) (q9 := (RX6, TX6, 5)) dX10_word_34 ml_X10_219 J_X6_rankBringing (Nat.zero_le _) (Nat.zero_le _) (Nat.le_of_ble_eq_true rfl) rfl (Nat.le_of_ble_eq_true rfl) (List.forall_mem_cons.mpr ⟨rfl, List.forall_mem_cons.mpr ⟨rfl, fun _ h9 => absurd h9 List.not_mem_nil⟩⟩) (Nat.le_of_ble_eq_true rfl) rfl (tk0 t3) rfl rfl pn_X6_rankBringing rfl k
  · have k := k.2 z
    obtain ⟨⟨b1_1, b1_2⟩, k⟩ := k
    exact v_throwX dX10_word_22 dX10_word_25 dX10_word_26 dX10_word_28 dX10_word_31 th_97_217_101 rfl rfl (by decide) (Nat.le_of_ble_eq_true rfl) b1_1 b1_2 k
theorem S_X10_word_37 {kc ks : Nat} {h : Hh} {Q : PQ} {X : PX} {x2 : Int} {a3 : Nat} (t3 : isT a3) {xs0 : Int}
    (k : ((0 : Int) ≤ xs0 ∧ (xs0 : Int) < 64 ∧ (-2147483648 ≤ (((h (a3 + 4) xs0) + 1) : Int) ∧ (((h (a3 + 4) xs0) + 1) : Int) < 2147483648) ∧ (-2147483648 ≤ ((((h (a3 + 4) xs0) + 1) + x2) : Int) ∧ ((((h (a3 + 4) xs0) + 1) + x2) : Int) < 2147483648)) ∧ am_V M_X6_newWordsBelow 0 0 0 [aR a3, aI xs0, aU, aU] [] (RM WM wd) h (fun v ρ' h' => am_V M_X10_word kc ks 56 [aR 0, aU, aU, aR a3, aI xs0, aU] (v ++ [aI (((h (a3 + 4) xs0) + 1) + x2)]) ρ' h' Q X) X) :
    am_V M_X10_word kc ks 37 [aR 0, aU, aI x2, aR a3, aU, aU] [aI xs0] (RM WM wd) h Q X := by
  obtain ⟨⟨b0_1, b0_2, b0_3, b0_4⟩, k⟩ := k
  refine v_istore (E2 := [aR 0, aU, aI x2, aR a3, aI xs0, aU]) dX10_word_37 (Nat.le_of_ble_eq_true rfl) rfl ?_
  refine v_aload_n dX10_word_39 rfl rfl ?_
  refine v_getR (x := (a3 + 4)) dX10_word_40 fl_X10_185 am_clsA rfl (tk0 t3) (tr3 t3) ?_
  refine v_iload dX10_word_43 rfl ?_
  refine v_iald dX10_word_45 (tk4 t3) b0_1 b0_2 ?_
  refine v_iconst dX10_word_46 ⟨by decide, by decide⟩ ?_
  refine v_iadd dX10_word_47 b0_3 ?_
  refine v_iload_n dX10_word_48 rfl rfl ?_
  refine v_iadd dX10_word_49 b0_4 ?_
  refine v_aload_n dX10_word_50 rfl rfl ?_
  refine v_iload dX10_word_51 rfl ?_
  refine v_weak (E2 := [aR 0, aU, aU, aR a3, aI xs0, aU]) ⟨Or.inl rfl, ⟨Or.inl rfl, ⟨Or.inr rfl, ⟨Or.inl rfl, ⟨Or.inl rfl, ⟨Or.inl rfl, trivial⟩⟩⟩⟩⟩⟩ ?_
  exact v_callV (j := M_X6_newWordsBelow) (As := [aI xs0]) (st := [aI (((h (a3 + 4) xs0) + 1) + x2)]) (E0 := [aR a3, aI xs0, aU, aU]) (a := a3) (ci := 4) (N := 5) (q9 := (RX6, TX6, 5)) dX10_word_53 ml_X10_213 J_X6_newWordsBelow (Nat.zero_le _) (Nat.zero_le _) (Nat.le_of_ble_eq_true rfl) rfl (Nat.le_of_ble_eq_true rfl) (List.forall_mem_cons.mpr ⟨rfl, List.forall_mem_cons.mpr ⟨rfl, fun _ h9 => absurd h9 List.not_mem_nil⟩⟩) (Nat.le_of_ble_eq_true rfl) rfl (tk0 t3) rfl rfl pn_X6_newWordsBelow rfl k
theorem S_X10_word_56 {kc ks : Nat} {h : Hh} {Q : PQ} {X : PX} {a3 : Nat} (t3 : isT a3) {x4 : Int} {xs0 : Int} {xs1 : Int}
    (k : ((-2147483648 ≤ ((xs1 - xs0) : Int) ∧ ((xs1 - xs0) : Int) < 2147483648) ∧ (0 : Int) ≤ x4 ∧ (x4 : Int) < 64) ∧ am_V M_X8_hold 0 0 0 [aR 2, aR (a3 + 1), aI (h (a3 + 2) x4), aI (xs1 - xs0), aU] [] (RM WM wd) h (fun v ρ' h' => am_V M_X10_word kc ks 79 [aR 0, aU, aU, aU, aU, aU] (v ++ []) ρ' h' Q X) X) :
    am_V M_X10_word kc ks 56 [aR 0, aU, aU, aR a3, aI x4, aU] [aI xs0, aI xs1] (RM WM wd) h Q X := by
  obtain ⟨⟨b0_1, b0_2, b0_3⟩, k⟩ := k
  refine v_isub dX10_word_56 b0_1 ?_
  refine v_istore (E2 := [aR 0, aU, aU, aR a3, aI x4, aI (xs1 - xs0)]) dX10_word_57 (Nat.le_of_ble_eq_true rfl) rfl ?_
  refine v_aload_n dX10_word_59 rfl rfl ?_
  refine v_getR (x := 2) dX10_word_60 fl_X10_18 am_clsA rfl rfl rfl ?_
  refine v_aload_n dX10_word_63 rfl rfl ?_
  refine v_getR (x := (a3 + 1)) dX10_word_64 fl_X10_130 am_clsA rfl (tk0 t3) (tr0 t3) ?_
  refine v_aload_n dX10_word_67 rfl rfl ?_
  refine v_getR (x := (a3 + 2)) dX10_word_68 fl_X10_167 am_clsA rfl (tk0 t3) (tr1 t3) ?_
  refine v_iload dX10_word_71 rfl ?_
  refine v_iald dX10_word_73 (tk2 t3) b0_2 b0_3 ?_
  refine v_iload dX10_word_74 rfl ?_
  refine v_weak (E2 := [aR 0, aU, aU, aU, aU, aU]) ⟨Or.inl rfl, ⟨Or.inl rfl, ⟨Or.inl rfl, ⟨Or.inr rfl, ⟨Or.inr rfl, ⟨Or.inr rfl, trivial⟩⟩⟩⟩⟩⟩ ?_
  exact v_callV (j := M_X8_hold) (As := [aR (a3 + 1), aI (h (a3 + 2) x4), aI (xs1 - xs0)]) (st := []) (E0 := [aR 2, aR (a3 + 1), aI (h (a3 + 2) x4), aI (xs1 - xs0), aU]) (a := 2) (ci := 6) (N := 2) (q9 := (RX8, TX8, 2)) dX10_word_76 ml_X10_132 J_X8_hold (Nat.zero_le _) (Nat.zero_le _) (Nat.le_of_ble_eq_true rfl) rfl (Nat.le_of_ble_eq_true rfl) (List.forall_mem_cons.mpr ⟨rfl, List.forall_mem_cons.mpr ⟨rfl, List.forall_mem_cons.mpr ⟨rfl, List.forall_mem_cons.mpr ⟨rfl, fun _ h9 => absurd h9 List.not_mem_nil⟩⟩⟩⟩) (Nat.le_of_ble_eq_true rfl) rfl rfl rfl rfl pn_X8_hold rfl k
theorem S_X10_word_79 {kc ks : Nat} {h : Hh} {Q : PQ} {X : PX} 
    (k : Q [aI (h 2 1)] (RM WM wd) h) :
    am_V M_X10_word kc ks 79 [aR 0, aU, aU, aU, aU, aU] [] (RM WM wd) h Q X := by
  refine v_aload_n dX10_word_79 rfl rfl ?_
  refine v_getR (x := 2) dX10_word_80 fl_X10_18 am_clsA rfl rfl rfl ?_
  refine v_getI (j := 1) dX10_word_83 fl_X10_80 am_clsA rfl rfl rfl ?_
  exact v_iret dX10_word_86 rfl rfl k
theorem S_X10_numberOf_0 {kc ks : Nat} {h : Hh} {Q : PQ} {X : PX} {x1 : Int}
    (k : (1 ≤ kc ∧ 6 ≤ ks) ∧ am_V M_X10_known 1 6 0 [aR 0, aI x1] [] (RM WM wd) h (fun v ρ' h' => am_V M_X10_numberOf (kc - 1) (ks - 6) 5 [aR 0, aU, aU, aU] (v ++ []) ρ' h' Q X) X) :
    am_V M_X10_numberOf kc ks 0 [aR 0, aI x1, aU, aU] [] (RM WM wd) h Q X := by
  obtain ⟨⟨b0_1, b0_2⟩, k⟩ := k
  refine v_aload_n dX10_numberOf_0 rfl rfl ?_
  refine v_iload_n dX10_numberOf_1 rfl rfl ?_
  refine v_weak (E2 := [aR 0, aU, aU, aU]) ⟨Or.inl rfl, ⟨Or.inr rfl, ⟨Or.inl rfl, ⟨Or.inl rfl, trivial⟩⟩⟩⟩ ?_
  exact v_callV (j := M_X10_known) (As := [aI x1]) (st := []) (E0 := [aR 0, aI x1]) (a := 0) (ci := 8) (N := 10) (q9 := (RX10, TX10, 10)) dX10_numberOf_2 ml_X10_126 J_X10_known b0_1 b0_2 (Nat.le_of_ble_eq_true rfl) rfl (Nat.le_of_ble_eq_true rfl) (List.forall_mem_cons.mpr ⟨rfl, List.forall_mem_cons.mpr ⟨rfl, fun _ h9 => absurd h9 List.not_mem_nil⟩⟩) (Nat.le_of_ble_eq_true rfl) rfl rfl rfl rfl pn_X10_known rfl k
theorem S_X10_numberOf_5 {kc ks : Nat} {h : Hh} {Q : PQ} {X : PX} {as0 : Nat} (ts0 : isT as0)
    (k : (1 ≤ kc ∧ 6 ≤ ks) ∧ am_V M_X10_refuseNoWord 1 6 0 [aR 0] [] (RM WM wd) h (fun v ρ' h' => am_V M_X10_numberOf (kc - 1) (ks - 6) 10 [aR 0, aU, aR as0, aU] (v ++ []) ρ' h' Q X) X) :
    am_V M_X10_numberOf kc ks 5 [aR 0, aU, aU, aU] [aR as0] (RM WM wd) h Q X := by
  obtain ⟨⟨b0_1, b0_2⟩, k⟩ := k
  refine v_astore_n (E2 := [aR 0, aU, aR as0, aU]) dX10_numberOf_5 rfl (Nat.le_of_ble_eq_true rfl) rfl ?_
  refine v_aload_n dX10_numberOf_6 rfl rfl ?_
  exact v_callV (j := M_X10_refuseNoWord) (As := []) (st := []) (E0 := [aR 0]) (a := 0) (ci := 8) (N := 10) (q9 := (RX10, TX10, 10)) dX10_numberOf_7 ml_X10_192 J_X10_refuseNoWord b0_1 b0_2 (Nat.le_of_ble_eq_true rfl) rfl (Nat.le_of_ble_eq_true rfl) (List.forall_mem_cons.mpr ⟨rfl, fun _ h9 => absurd h9 List.not_mem_nil⟩) (Nat.le_of_ble_eq_true rfl) rfl rfl rfl rfl pn_X10_refuseNoWord rfl k
theorem S_X10_numberOf_10 {kc ks : Nat} {h : Hh} {Q : PQ} {X : PX} {a2 : Nat} (t2 : isT a2)
    (k : (1 ≤ kc ∧ 6 ≤ ks) ∧ am_V M_X10_leastRank 1 6 0 [aR 0, aR a2, aU] [] (RM WM wd) h (fun v ρ' h' => am_V M_X10_numberOf (kc - 1) (ks - 6) 15 [aR 0, aU, aR a2, aU] (v ++ []) ρ' h' Q X) X) :
    am_V M_X10_numberOf kc ks 10 [aR 0, aU, aR a2, aU] [] (RM WM wd) h Q X := by
  obtain ⟨⟨b0_1, b0_2⟩, k⟩ := k
  refine v_aload_n dX10_numberOf_10 rfl rfl ?_
  refine v_aload_n dX10_numberOf_11 rfl rfl ?_
  exact v_callV (j := M_X10_leastRank) (As := [aR a2]) (st := []) (E0 := [aR 0, aR a2, aU]) (a := 0) (ci := 8) (N := 10) (q9 := (RX10, TX10, 10)) dX10_numberOf_12 ml_X10_202 J_X10_leastRank b0_1 b0_2 (Nat.le_of_ble_eq_true rfl) rfl (Nat.le_of_ble_eq_true rfl) (List.forall_mem_cons.mpr ⟨rfl, List.forall_mem_cons.mpr ⟨rfl, fun _ h9 => absurd h9 List.not_mem_nil⟩⟩) (Nat.le_of_ble_eq_true rfl) rfl rfl rfl rfl pn_X10_leastRank rfl k
theorem S_X10_numberOf_15 {kc ks : Nat} {h : Hh} {Q : PQ} {X : PX} {a2 : Nat} (t2 : isT a2) {xs0 : Int}
    (k : am_V M_X6_newWordsBelow 0 0 0 [aR a2, aI xs0, aU, aU] [] (RM WM wd) h (fun v ρ' h' => am_V M_X10_numberOf kc ks 21 [aR 0, aU, aR a2, aI xs0] (v ++ []) ρ' h' Q X) X) :
    am_V M_X10_numberOf kc ks 15 [aR 0, aU, aR a2, aU] [aI xs0] (RM WM wd) h Q X := by
  refine v_istore_n (E2 := [aR 0, aU, aR a2, aI xs0]) dX10_numberOf_15 rfl (Nat.le_of_ble_eq_true rfl) rfl ?_
  refine v_aload_n dX10_numberOf_16 rfl rfl ?_
  refine v_iload_n dX10_numberOf_17 rfl rfl ?_
  exact v_callV (j := M_X6_newWordsBelow) (As := [aI xs0]) (st := []) (E0 := [aR a2, aI xs0, aU, aU]) (a := a2) (ci := 4) (N := 5) (q9 := (RX6, TX6, 5)) dX10_numberOf_18 ml_X10_213 J_X6_newWordsBelow (Nat.zero_le _) (Nat.zero_le _) (Nat.le_of_ble_eq_true rfl) rfl (Nat.le_of_ble_eq_true rfl) (List.forall_mem_cons.mpr ⟨rfl, List.forall_mem_cons.mpr ⟨rfl, fun _ h9 => absurd h9 List.not_mem_nil⟩⟩) (Nat.le_of_ble_eq_true rfl) rfl (tk0 t2) rfl rfl pn_X6_newWordsBelow rfl k
theorem S_X10_numberOf_21 {kc ks : Nat} {h : Hh} {Q : PQ} {X : PX} {a2 : Nat} (t2 : isT a2) {x3 : Int} {xs0 : Int}
    (k : ((-2147483648 ≤ ((xs0 + (h 2 1)) : Int) ∧ ((xs0 + (h 2 1)) : Int) < 2147483648) ∧ (0 : Int) ≤ x3 ∧ (x3 : Int) < 64 ∧ (-2147483648 ≤ (((xs0 + (h 2 1)) - (h (a2 + 4) x3)) : Int) ∧ (((xs0 + (h 2 1)) - (h (a2 + 4) x3)) : Int) < 2147483648) ∧ (-2147483648 ≤ ((((xs0 + (h 2 1)) - (h (a2 + 4) x3)) - 1) : Int) ∧ ((((xs0 + (h 2 1)) - (h (a2 + 4) x3)) - 1) : Int) < 2147483648)) ∧ Q [aI (((xs0 + (h 2 1)) - (h (a2 + 4) x3)) - 1)] (RM WM wd) h) :
    am_V M_X10_numberOf kc ks 21 [aR 0, aU, aR a2, aI x3] [aI xs0] (RM WM wd) h Q X := by
  obtain ⟨⟨b0_1, b0_2, b0_3, b0_4, b0_5⟩, k⟩ := k
  refine v_aload_n dX10_numberOf_21 rfl rfl ?_
  refine v_getR (x := 2) dX10_numberOf_22 fl_X10_18 am_clsA rfl rfl rfl ?_
  refine v_getI (j := 1) dX10_numberOf_25 fl_X10_80 am_clsA rfl rfl rfl ?_
  refine v_iadd dX10_numberOf_28 b0_1 ?_
  refine v_aload_n dX10_numberOf_29 rfl rfl ?_
  refine v_getR (x := (a2 + 4)) dX10_numberOf_30 fl_X10_185 am_clsA rfl (tk0 t2) (tr3 t2) ?_
  refine v_iload_n dX10_numberOf_33 rfl rfl ?_
  refine v_iald dX10_numberOf_34 (tk4 t2) b0_2 b0_3 ?_
  refine v_isub dX10_numberOf_35 b0_4 ?_
  refine v_iconst dX10_numberOf_36 ⟨by decide, by decide⟩ ?_
  refine v_isub dX10_numberOf_37 b0_5 ?_
  exact v_iret dX10_numberOf_38 rfl rfl k
theorem S_X10_twice_0 {kc ks : Nat} {h : Hh} {Q : PQ} {X : PX} {x1 : Int}
    (k : (1 ≤ kc ∧ 6 ≤ ks) ∧ am_V M_X10_known 1 6 0 [aR 0, aI x1] [] (RM WM wd) h (fun v ρ' h' => am_V M_X10_twice (kc - 1) (ks - 6) 5 [aU, aU] (v ++ []) ρ' h' Q X) X) :
    am_V M_X10_twice kc ks 0 [aR 0, aI x1] [] (RM WM wd) h Q X := by
  obtain ⟨⟨b0_1, b0_2⟩, k⟩ := k
  refine v_aload_n dX10_twice_0 rfl rfl ?_
  refine v_iload_n dX10_twice_1 rfl rfl ?_
  refine v_weak (E2 := [aU, aU]) ⟨Or.inr rfl, ⟨Or.inr rfl, trivial⟩⟩ ?_
  exact v_callV (j := M_X10_known) (As := [aI x1]) (st := []) (E0 := [aR 0, aI x1]) (a := 0) (ci := 8) (N := 10) (q9 := (RX10, TX10, 10)) dX10_twice_2 ml_X10_126 J_X10_known b0_1 b0_2 (Nat.le_of_ble_eq_true rfl) rfl (Nat.le_of_ble_eq_true rfl) (List.forall_mem_cons.mpr ⟨rfl, List.forall_mem_cons.mpr ⟨rfl, fun _ h9 => absurd h9 List.not_mem_nil⟩⟩) (Nat.le_of_ble_eq_true rfl) rfl rfl rfl rfl pn_X10_known rfl k
theorem S_X10_twice_5 {kc ks : Nat} {h : Hh} {Q : PQ} {X : PX} {as0 : Nat} (ts0 : isT as0)
    (k : am_V M_X6_greatestCommon 0 0 0 [aR as0, aU, aU] [] (RM WM wd) h (fun v ρ' h' => am_V M_X10_twice kc ks 8 [aU, aU] (v ++ []) ρ' h' Q X) X) :
    am_V M_X10_twice kc ks 5 [aU, aU] [aR as0] (RM WM wd) h Q X := by
  exact v_callV (j := M_X6_greatestCommon) (As := []) (st := []) (E0 := [aR as0, aU, aU]) (a := as0) (ci := 4) (N := 5) (q9 := (RX6, TX6, 5)) dX10_twice_5 ml_X10_182 J_X6_greatestCommon (Nat.zero_le _) (Nat.zero_le _) (Nat.le_of_ble_eq_true rfl) rfl (Nat.le_of_ble_eq_true rfl) (List.forall_mem_cons.mpr ⟨rfl, fun _ h9 => absurd h9 List.not_mem_nil⟩) (Nat.le_of_ble_eq_true rfl) rfl (tk0 ts0) rfl rfl pn_X6_greatestCommon rfl k
theorem S_X10_twice_8 {kc ks : Nat} {h : Hh} {Q : PQ} {X : PX} {xs0 : Int}
    (k : Q [aI xs0] (RM WM wd) h) :
    am_V M_X10_twice kc ks 8 [aU, aU] [aI xs0] (RM WM wd) h Q X := by
  exact v_iret dX10_twice_8 rfl rfl k
theorem S_X10_twiceAt_0 {kc ks : Nat} {h : Hh} {Q : PQ} {X : PX} {x1 : Int}
    (k : (1 ≤ kc ∧ 6 ≤ ks) ∧ am_V M_X10_known 1 6 0 [aR 0, aI x1] [] (RM WM wd) h (fun v ρ' h' => am_V M_X10_twiceAt (kc - 1) (ks - 6) 5 [aU, aU, aU] (v ++ []) ρ' h' Q X) X) :
    am_V M_X10_twiceAt kc ks 0 [aR 0, aI x1, aU] [] (RM WM wd) h Q X := by
  obtain ⟨⟨b0_1, b0_2⟩, k⟩ := k
  refine v_aload_n dX10_twiceAt_0 rfl rfl ?_
  refine v_iload_n dX10_twiceAt_1 rfl rfl ?_
  refine v_weak (E2 := [aU, aU, aU]) ⟨Or.inr rfl, ⟨Or.inr rfl, ⟨Or.inl rfl, trivial⟩⟩⟩ ?_
  exact v_callV (j := M_X10_known) (As := [aI x1]) (st := []) (E0 := [aR 0, aI x1]) (a := 0) (ci := 8) (N := 10) (q9 := (RX10, TX10, 10)) dX10_twiceAt_2 ml_X10_126 J_X10_known b0_1 b0_2 (Nat.le_of_ble_eq_true rfl) rfl (Nat.le_of_ble_eq_true rfl) (List.forall_mem_cons.mpr ⟨rfl, List.forall_mem_cons.mpr ⟨rfl, fun _ h9 => absurd h9 List.not_mem_nil⟩⟩) (Nat.le_of_ble_eq_true rfl) rfl rfl rfl rfl pn_X10_known rfl k
theorem S_X10_twiceAt_5 {kc ks : Nat} {h : Hh} {Q : PQ} {X : PX} {as0 : Nat} (ts0 : isT as0)
    (k : am_V M_X6_greatestCommon 0 0 0 [aR as0, aU, aU] [] (RM WM wd) h (fun v ρ' h' => am_V M_X10_twiceAt kc ks 10 [aU, aU, aR as0] (v ++ []) ρ' h' Q X) X) :
    am_V M_X10_twiceAt kc ks 5 [aU, aU, aU] [aR as0] (RM WM wd) h Q X := by
  refine v_astore_n (E2 := [aU, aU, aR as0]) dX10_twiceAt_5 rfl (Nat.le_of_ble_eq_true rfl) rfl ?_
  refine v_aload_n dX10_twiceAt_6 rfl rfl ?_
  exact v_callV (j := M_X6_greatestCommon) (As := []) (st := []) (E0 := [aR as0, aU, aU]) (a := as0) (ci := 4) (N := 5) (q9 := (RX6, TX6, 5)) dX10_twiceAt_7 ml_X10_182 J_X6_greatestCommon (Nat.zero_le _) (Nat.zero_le _) (Nat.le_of_ble_eq_true rfl) rfl (Nat.le_of_ble_eq_true rfl) (List.forall_mem_cons.mpr ⟨rfl, fun _ h9 => absurd h9 List.not_mem_nil⟩) (Nat.le_of_ble_eq_true rfl) rfl (tk0 ts0) rfl rfl pn_X6_greatestCommon rfl k
theorem S_X10_twiceAt_10 {kc ks : Nat} {h : Hh} {Q : PQ} {X : PX} {a2 : Nat} (t2 : isT a2) {xs0 : Int}
    (k : ((xs0 ≠ 0 → am_V M_X6_firstPlaceOfLongestTwice 0 0 0 [aR a2, aU, aU, aU] [] (RM WM wd) h (fun v ρ' h' => am_V M_X10_twiceAt kc ks 27 [aU, aU, aU] (v ++ []) ρ' h' Q X) X) ∧ (xs0 = 0 → (1 ≤ kc ∧ 6 ≤ ks) ∧ X "java/util/NoSuchElementException" (RM WM false) h))) :
    am_V M_X10_twiceAt kc ks 10 [aU, aU, aR a2] [aI xs0] (RM WM wd) h Q X := by
  refine v_if_ne (tgt := 23) dX10_twiceAt_10 (by decide) (fun z => ?_) (fun z => ?_)
  · have k := k.1 z
    refine v_aload_n dX10_twiceAt_23 rfl rfl ?_
    refine v_weak (E2 := [aU, aU, aU]) ⟨Or.inl rfl, ⟨Or.inl rfl, ⟨Or.inr rfl, trivial⟩⟩⟩ ?_
    exact v_callV (j := M_X6_firstPlaceOfLongestTwice) (As := []) (st := []) (E0 := [aR a2, aU, aU, aU]) (a := a2) (ci := 4) (N := 5) (q9 := (RX6, TX6, 5)) dX10_twiceAt_24 ml_X10_224 J_X6_firstPlaceOfLongestTwice (Nat.zero_le _) (Nat.zero_le _) (Nat.le_of_ble_eq_true rfl) rfl (Nat.le_of_ble_eq_true rfl) (List.forall_mem_cons.mpr ⟨rfl, fun _ h9 => absurd h9 List.not_mem_nil⟩) (Nat.le_of_ble_eq_true rfl) rfl (tk0 t2) rfl rfl pn_X6_firstPlaceOfLongestTwice rfl k
  · have k := k.2 z
    obtain ⟨⟨b1_1, b1_2⟩, k⟩ := k
    exact v_throwX dX10_twiceAt_13 dX10_twiceAt_16 dX10_twiceAt_17 dX10_twiceAt_19 dX10_twiceAt_22 th_97_222_101 rfl rfl (by decide) (Nat.le_of_ble_eq_true rfl) b1_1 b1_2 k
theorem S_X10_twiceAt_27 {kc ks : Nat} {h : Hh} {Q : PQ} {X : PX} {xs0 : Int}
    (k : Q [aI xs0] (RM WM wd) h) :
    am_V M_X10_twiceAt kc ks 27 [aU, aU, aU] [aI xs0] (RM WM wd) h Q X := by
  exact v_iret dX10_twiceAt_27 rfl rfl k
theorem S_X10_first_0 {kc ks : Nat} {h : Hh} {Q : PQ} {X : PX} {x1 : Int} {x2 : Int}
    (k : (2 ≤ kc ∧ 12 ≤ ks) ∧ am_V M_X10_knownWithRow 2 12 0 [aR 0, aI x1, aI x2, aU] [] (RM WM wd) h (fun v ρ' h' => am_V M_X10_first (kc - 2) (ks - 12) 6 [aU, aU, aI x2] (v ++ []) ρ' h' Q X) X) :
    am_V M_X10_first kc ks 0 [aR 0, aI x1, aI x2] [] (RM WM wd) h Q X := by
  obtain ⟨⟨b0_1, b0_2⟩, k⟩ := k
  refine v_aload_n dX10_first_0 rfl rfl ?_
  refine v_iload_n dX10_first_1 rfl rfl ?_
  refine v_iload_n dX10_first_2 rfl rfl ?_
  refine v_weak (E2 := [aU, aU, aI x2]) ⟨Or.inr rfl, ⟨Or.inr rfl, ⟨Or.inl rfl, trivial⟩⟩⟩ ?_
  exact v_callV (j := M_X10_knownWithRow) (As := [aI x1, aI x2]) (st := []) (E0 := [aR 0, aI x1, aI x2, aU]) (a := 0) (ci := 8) (N := 10) (q9 := (RX10, TX10, 10)) dX10_first_3 ml_X10_250 J_X10_knownWithRow b0_1 b0_2 (Nat.le_of_ble_eq_true rfl) rfl (Nat.le_of_ble_eq_true rfl) (List.forall_mem_cons.mpr ⟨rfl, List.forall_mem_cons.mpr ⟨rfl, List.forall_mem_cons.mpr ⟨rfl, fun _ h9 => absurd h9 List.not_mem_nil⟩⟩⟩) (Nat.le_of_ble_eq_true rfl) rfl rfl rfl rfl pn_X10_knownWithRow rfl k
theorem S_X10_first_6 {kc ks : Nat} {h : Hh} {Q : PQ} {X : PX} {x2 : Int} {as0 : Nat} (ts0 : isT as0)
    (k : am_V M_X6_firstSign 0 0 0 [aR as0, aI x2] [] (RM WM wd) h (fun v ρ' h' => am_V M_X10_first kc ks 10 [aU, aU, aU] (v ++ []) ρ' h' Q X) X) :
    am_V M_X10_first kc ks 6 [aU, aU, aI x2] [aR as0] (RM WM wd) h Q X := by
  refine v_iload_n dX10_first_6 rfl rfl ?_
  refine v_weak (E2 := [aU, aU, aU]) ⟨Or.inl rfl, ⟨Or.inl rfl, ⟨Or.inr rfl, trivial⟩⟩⟩ ?_
  exact v_callV (j := M_X6_firstSign) (As := [aI x2]) (st := []) (E0 := [aR as0, aI x2]) (a := as0) (ci := 4) (N := 5) (q9 := (RX6, TX6, 5)) dX10_first_7 ml_X10_253 J_X6_firstSign (Nat.zero_le _) (Nat.zero_le _) (Nat.le_of_ble_eq_true rfl) rfl (Nat.le_of_ble_eq_true rfl) (List.forall_mem_cons.mpr ⟨rfl, List.forall_mem_cons.mpr ⟨rfl, fun _ h9 => absurd h9 List.not_mem_nil⟩⟩) (Nat.le_of_ble_eq_true rfl) rfl (tk0 ts0) rfl rfl pn_X6_firstSign rfl k
theorem S_X10_first_10 {kc ks : Nat} {h : Hh} {Q : PQ} {X : PX} {xs0 : Int}
    (k : ((0 : Int) ≤ xs0 ∧ (xs0 : Int) < 65536) ∧ Q [aI xs0] (RM WM wd) h) :
    am_V M_X10_first kc ks 10 [aU, aU, aU] [aI xs0] (RM WM wd) h Q X := by
  obtain ⟨⟨b0_1, b0_2⟩, k⟩ := k
  exact v_cret dX10_first_10 rfl rfl b0_1 b0_2 k
theorem S_X10_last_0 {kc ks : Nat} {h : Hh} {Q : PQ} {X : PX} {x1 : Int} {x2 : Int}
    (k : (2 ≤ kc ∧ 12 ≤ ks) ∧ am_V M_X10_knownWithRow 2 12 0 [aR 0, aI x1, aI x2, aU] [] (RM WM wd) h (fun v ρ' h' => am_V M_X10_last (kc - 2) (ks - 12) 6 [aU, aU, aI x2] (v ++ []) ρ' h' Q X) X) :
    am_V M_X10_last kc ks 0 [aR 0, aI x1, aI x2] [] (RM WM wd) h Q X := by
  obtain ⟨⟨b0_1, b0_2⟩, k⟩ := k
  refine v_aload_n dX10_last_0 rfl rfl ?_
  refine v_iload_n dX10_last_1 rfl rfl ?_
  refine v_iload_n dX10_last_2 rfl rfl ?_
  refine v_weak (E2 := [aU, aU, aI x2]) ⟨Or.inr rfl, ⟨Or.inr rfl, ⟨Or.inl rfl, trivial⟩⟩⟩ ?_
  exact v_callV (j := M_X10_knownWithRow) (As := [aI x1, aI x2]) (st := []) (E0 := [aR 0, aI x1, aI x2, aU]) (a := 0) (ci := 8) (N := 10) (q9 := (RX10, TX10, 10)) dX10_last_3 ml_X10_250 J_X10_knownWithRow b0_1 b0_2 (Nat.le_of_ble_eq_true rfl) rfl (Nat.le_of_ble_eq_true rfl) (List.forall_mem_cons.mpr ⟨rfl, List.forall_mem_cons.mpr ⟨rfl, List.forall_mem_cons.mpr ⟨rfl, fun _ h9 => absurd h9 List.not_mem_nil⟩⟩⟩) (Nat.le_of_ble_eq_true rfl) rfl rfl rfl rfl pn_X10_knownWithRow rfl k
theorem S_X10_last_6 {kc ks : Nat} {h : Hh} {Q : PQ} {X : PX} {x2 : Int} {as0 : Nat} (ts0 : isT as0)
    (k : am_V M_X6_lastSign 0 0 0 [aR as0, aI x2, aU] [] (RM WM wd) h (fun v ρ' h' => am_V M_X10_last kc ks 10 [aU, aU, aU] (v ++ []) ρ' h' Q X) X) :
    am_V M_X10_last kc ks 6 [aU, aU, aI x2] [aR as0] (RM WM wd) h Q X := by
  refine v_iload_n dX10_last_6 rfl rfl ?_
  refine v_weak (E2 := [aU, aU, aU]) ⟨Or.inl rfl, ⟨Or.inl rfl, ⟨Or.inr rfl, trivial⟩⟩⟩ ?_
  exact v_callV (j := M_X6_lastSign) (As := [aI x2]) (st := []) (E0 := [aR as0, aI x2, aU]) (a := as0) (ci := 4) (N := 5) (q9 := (RX6, TX6, 5)) dX10_last_7 ml_X10_257 J_X6_lastSign (Nat.zero_le _) (Nat.zero_le _) (Nat.le_of_ble_eq_true rfl) rfl (Nat.le_of_ble_eq_true rfl) (List.forall_mem_cons.mpr ⟨rfl, List.forall_mem_cons.mpr ⟨rfl, fun _ h9 => absurd h9 List.not_mem_nil⟩⟩) (Nat.le_of_ble_eq_true rfl) rfl (tk0 ts0) rfl rfl pn_X6_lastSign rfl k
theorem S_X10_last_10 {kc ks : Nat} {h : Hh} {Q : PQ} {X : PX} {xs0 : Int}
    (k : ((0 : Int) ≤ xs0 ∧ (xs0 : Int) < 65536) ∧ Q [aI xs0] (RM WM wd) h) :
    am_V M_X10_last kc ks 10 [aU, aU, aU] [aI xs0] (RM WM wd) h Q X := by
  obtain ⟨⟨b0_1, b0_2⟩, k⟩ := k
  exact v_cret dX10_last_10 rfl rfl b0_1 b0_2 k
theorem S_X10_back_0 {kc ks : Nat} {h : Hh} {Q : PQ} {X : PX} {x1 : Int} {x2 : Int}
    (k : (2 ≤ kc ∧ 12 ≤ ks) ∧ am_V M_X10_knownWithRow 2 12 0 [aR 0, aI x1, aI x2, aU] [] (RM WM wd) h (fun v ρ' h' => am_V M_X10_back (kc - 2) (ks - 12) 6 [aU, aU, aI x2] (v ++ []) ρ' h' Q X) X) :
    am_V M_X10_back kc ks 0 [aR 0, aI x1, aI x2] [] (RM WM wd) h Q X := by
  obtain ⟨⟨b0_1, b0_2⟩, k⟩ := k
  refine v_aload_n dX10_back_0 rfl rfl ?_
  refine v_iload_n dX10_back_1 rfl rfl ?_
  refine v_iload_n dX10_back_2 rfl rfl ?_
  refine v_weak (E2 := [aU, aU, aI x2]) ⟨Or.inr rfl, ⟨Or.inr rfl, ⟨Or.inl rfl, trivial⟩⟩⟩ ?_
  exact v_callV (j := M_X10_knownWithRow) (As := [aI x1, aI x2]) (st := []) (E0 := [aR 0, aI x1, aI x2, aU]) (a := 0) (ci := 8) (N := 10) (q9 := (RX10, TX10, 10)) dX10_back_3 ml_X10_250 J_X10_knownWithRow b0_1 b0_2 (Nat.le_of_ble_eq_true rfl) rfl (Nat.le_of_ble_eq_true rfl) (List.forall_mem_cons.mpr ⟨rfl, List.forall_mem_cons.mpr ⟨rfl, List.forall_mem_cons.mpr ⟨rfl, fun _ h9 => absurd h9 List.not_mem_nil⟩⟩⟩) (Nat.le_of_ble_eq_true rfl) rfl rfl rfl rfl pn_X10_knownWithRow rfl k
theorem S_X10_back_6 {kc ks : Nat} {h : Hh} {Q : PQ} {X : PX} {x2 : Int} {as0 : Nat} (ts0 : isT as0)
    (k : am_V M_X6_rowAhead 0 0 0 [aR as0, aI x2, aU] [] (RM WM wd) h (fun v ρ' h' => am_V M_X10_back kc ks 10 [aU, aU, aU] (v ++ []) ρ' h' Q X) X) :
    am_V M_X10_back kc ks 6 [aU, aU, aI x2] [aR as0] (RM WM wd) h Q X := by
  refine v_iload_n dX10_back_6 rfl rfl ?_
  refine v_weak (E2 := [aU, aU, aU]) ⟨Or.inl rfl, ⟨Or.inl rfl, ⟨Or.inr rfl, trivial⟩⟩⟩ ?_
  exact v_callV (j := M_X6_rowAhead) (As := [aI x2]) (st := []) (E0 := [aR as0, aI x2, aU]) (a := as0) (ci := 4) (N := 5) (q9 := (RX6, TX6, 5)) dX10_back_7 ml_X10_260 J_X6_rowAhead (Nat.zero_le _) (Nat.zero_le _) (Nat.le_of_ble_eq_true rfl) rfl (Nat.le_of_ble_eq_true rfl) (List.forall_mem_cons.mpr ⟨rfl, List.forall_mem_cons.mpr ⟨rfl, fun _ h9 => absurd h9 List.not_mem_nil⟩⟩) (Nat.le_of_ble_eq_true rfl) rfl (tk0 ts0) rfl rfl pn_X6_rowAhead rfl k
theorem S_X10_back_10 {kc ks : Nat} {h : Hh} {Q : PQ} {X : PX} {xs0 : Int}
    (k : Q [aI xs0] (RM WM wd) h) :
    am_V M_X10_back kc ks 10 [aU, aU, aU] [aI xs0] (RM WM wd) h Q X := by
  exact v_iret dX10_back_10 rfl rfl k
theorem S_X10_column_0 {kc ks : Nat} {h : Hh} {Q : PQ} {X : PX} {x1 : Int}
    (k : (1 ≤ kc ∧ 6 ≤ ks) ∧ am_V M_X10_known 1 6 0 [aR 0, aI x1] [] (RM WM wd) h (fun v ρ' h' => am_V M_X10_column (kc - 1) (ks - 6) 5 [aR 0, aU, aU, aU] (v ++ []) ρ' h' Q X) X) :
    am_V M_X10_column kc ks 0 [aR 0, aI x1, aU, aU] [] (RM WM wd) h Q X := by
  obtain ⟨⟨b0_1, b0_2⟩, k⟩ := k
  refine v_aload_n dX10_column_0 rfl rfl ?_
  refine v_iload_n dX10_column_1 rfl rfl ?_
  refine v_weak (E2 := [aR 0, aU, aU, aU]) ⟨Or.inl rfl, ⟨Or.inr rfl, ⟨Or.inl rfl, ⟨Or.inl rfl, trivial⟩⟩⟩⟩ ?_
  exact v_callV (j := M_X10_known) (As := [aI x1]) (st := []) (E0 := [aR 0, aI x1]) (a := 0) (ci := 8) (N := 10) (q9 := (RX10, TX10, 10)) dX10_column_2 ml_X10_126 J_X10_known b0_1 b0_2 (Nat.le_of_ble_eq_true rfl) rfl (Nat.le_of_ble_eq_true rfl) (List.forall_mem_cons.mpr ⟨rfl, List.forall_mem_cons.mpr ⟨rfl, fun _ h9 => absurd h9 List.not_mem_nil⟩⟩) (Nat.le_of_ble_eq_true rfl) rfl rfl rfl rfl pn_X10_known rfl k
theorem S_X10_column_5 {kc ks : Nat} {h : Hh} {Q : PQ} {X : PX} {as0 : Nat} (ts0 : isT as0)
    (k : am_V M_X10_column kc ks 16 [aR 0, aU, aR as0, aI 0] [] (RM WM wd) (am_st h 2 1 0) Q X) :
    am_V M_X10_column kc ks 5 [aR 0, aU, aU, aU] [aR as0] (RM WM wd) h Q X := by
  refine v_astore_n (E2 := [aR 0, aU, aR as0, aU]) dX10_column_5 rfl (Nat.le_of_ble_eq_true rfl) rfl ?_
  refine v_aload_n dX10_column_6 rfl rfl ?_
  refine v_getR (x := 2) dX10_column_7 fl_X10_18 am_clsA rfl rfl rfl ?_
  refine v_iconst dX10_column_10 ⟨by decide, by decide⟩ ?_
  refine v_putI (j := 1) dX10_column_11 pl_X10_80 am_clsA rfl rfl rfl ?_
  refine v_iconst dX10_column_14 ⟨by decide, by decide⟩ ?_
  refine v_istore_n (E2 := [aR 0, aU, aR as0, aI 0]) dX10_column_15 rfl (Nat.le_of_ble_eq_true rfl) rfl ?_
  exact k
theorem S_X10_column_16 {kc ks : Nat} {h : Hh} {Q : PQ} {X : PX} {a2 : Nat} (t2 : isT a2) {x3 : Int}
    (k : (((h a2 4) < x3 → Q [aI (h 2 1)] (RM WM wd) h) ∧ (x3 ≤ (h a2 4) → am_V M_X6_lastSign 0 0 0 [aR a2, aI x3, aU] [] (RM WM wd) h (fun v ρ' h' => am_V M_X10_column kc ks 33 [aR 0, aU, aR a2, aI x3] (v ++ [aR 2]) ρ' h' Q X) X))) :
    am_V M_X10_column kc ks 16 [aR 0, aU, aR a2, aI x3] [] (RM WM wd) h Q X := by
  refine v_iload_n dX10_column_16 rfl rfl ?_
  refine v_aload_n dX10_column_17 rfl rfl ?_
  refine v_getI (j := 4) dX10_column_18 fl_X10_131 am_clsA rfl rfl (tk0 t2) ?_
  refine v_icmp_gt (tgt := 42) dX10_column_21 (by decide) (fun z => ?_) (fun z => ?_)
  · have k := k.1 z
    refine v_aload_n dX10_column_42 rfl rfl ?_
    refine v_getR (x := 2) dX10_column_43 fl_X10_18 am_clsA rfl rfl rfl ?_
    refine v_getI (j := 1) dX10_column_46 fl_X10_80 am_clsA rfl rfl rfl ?_
    exact v_iret dX10_column_49 rfl rfl k
  · have k := k.2 z
    refine v_aload_n dX10_column_24 rfl rfl ?_
    refine v_getR (x := 2) dX10_column_25 fl_X10_18 am_clsA rfl rfl rfl ?_
    refine v_aload_n dX10_column_28 rfl rfl ?_
    refine v_iload_n dX10_column_29 rfl rfl ?_
    exact v_callV (j := M_X6_lastSign) (As := [aI x3]) (st := [aR 2]) (E0 := [aR a2, aI x3, aU]) (a := a2) (ci := 4) (N := 5) (q9 := (RX6, TX6, 5)) dX10_column_30 ml_X10_257 J_X6_lastSign (Nat.zero_le _) (Nat.zero_le _) (Nat.le_of_ble_eq_true rfl) rfl (Nat.le_of_ble_eq_true rfl) (List.forall_mem_cons.mpr ⟨rfl, List.forall_mem_cons.mpr ⟨rfl, fun _ h9 => absurd h9 List.not_mem_nil⟩⟩) (Nat.le_of_ble_eq_true rfl) rfl (tk0 t2) rfl rfl pn_X6_lastSign rfl k
theorem S_X10_column_33 {kc ks : Nat} {h : Hh} {Q : PQ} {X : PX} {a2 : Nat} (t2 : isT a2) {x3 : Int} {xs0 : Int}
    (k : am_V M_X8_put 0 0 0 [aR 2, aI xs0] [] (RM WM wd) h (fun v ρ' h' => am_V M_X10_column kc ks 36 [aR 0, aU, aR a2, aI x3] (v ++ []) ρ' h' Q X) X) :
    am_V M_X10_column kc ks 33 [aR 0, aU, aR a2, aI x3] [aI xs0, aR 2] (RM WM wd) h Q X := by
  exact v_callV (j := M_X8_put) (As := [aI xs0]) (st := []) (E0 := [aR 2, aI xs0]) (a := 2) (ci := 6) (N := 2) (q9 := (RX8, TX8, 2)) dX10_column_33 ml_X10_89 J_X8_put (Nat.zero_le _) (Nat.zero_le _) (Nat.le_of_ble_eq_true rfl) rfl (Nat.le_of_ble_eq_true rfl) (List.forall_mem_cons.mpr ⟨rfl, List.forall_mem_cons.mpr ⟨rfl, fun _ h9 => absurd h9 List.not_mem_nil⟩⟩) (Nat.le_of_ble_eq_true rfl) rfl rfl rfl rfl pn_X8_put rfl k
theorem S_X10_column_36 {kc ks : Nat} {h : Hh} {Q : PQ} {X : PX} {a2 : Nat} (t2 : isT a2) {x3 : Int}
    (k : ((-2147483648 ≤ ((x3 + 1) : Int) ∧ ((x3 + 1) : Int) < 2147483648)) ∧ am_V M_X10_column kc ks 16 [aR 0, aU, aR a2, aI (x3 + 1)] [] (RM WM wd) h Q X) :
    am_V M_X10_column kc ks 36 [aR 0, aU, aR a2, aI x3] [] (RM WM wd) h Q X := by
  obtain ⟨b0_1, k⟩ := k
  refine v_iinc (E2 := [aR 0, aU, aR a2, aI (x3 + 1)]) dX10_column_36 rfl b0_1 rfl ?_
  refine v_goto (tgt := 16) dX10_column_39 (by decide) ?_
  exact k
theorem S_X10_undo_0 {kc ks : Nat} {h : Hh} {Q : PQ} {X : PX} 
    (k : am_V M_X7_turnBack 0 0 0 [aR 9, aR 3, aI (h 2 1), aU, aU] [] (RM WM wd) h (fun v ρ' h' => am_V M_X10_undo kc ks 21 [aR 0, aU] (v ++ []) ρ' h' Q X) X) :
    am_V M_X10_undo kc ks 0 [aR 0, aU] [] (RM WM wd) h Q X := by
  refine v_aload_n dX10_undo_0 rfl rfl ?_
  refine v_getR (x := 9) dX10_undo_1 fl_X10_36 am_clsA rfl rfl rfl ?_
  refine v_aload_n dX10_undo_4 rfl rfl ?_
  refine v_getR (x := 2) dX10_undo_5 fl_X10_18 am_clsA rfl rfl rfl ?_
  refine v_getR (x := 3) dX10_undo_8 fl_X10_102 am_clsA rfl rfl rfl ?_
  refine v_aload_n dX10_undo_11 rfl rfl ?_
  refine v_getR (x := 2) dX10_undo_12 fl_X10_18 am_clsA rfl rfl rfl ?_
  refine v_getI (j := 1) dX10_undo_15 fl_X10_80 am_clsA rfl rfl rfl ?_
  exact v_callV (j := M_X7_turnBack) (As := [aR 3, aI (h 2 1)]) (st := []) (E0 := [aR 9, aR 3, aI (h 2 1), aU, aU]) (a := 9) (ci := 5) (N := 5) (q9 := (RX7, TX7, 5)) dX10_undo_18 ml_X10_267 J_X7_turnBack (Nat.zero_le _) (Nat.zero_le _) (Nat.le_of_ble_eq_true rfl) rfl (Nat.le_of_ble_eq_true rfl) (List.forall_mem_cons.mpr ⟨rfl, List.forall_mem_cons.mpr ⟨rfl, List.forall_mem_cons.mpr ⟨rfl, fun _ h9 => absurd h9 List.not_mem_nil⟩⟩⟩) (Nat.le_of_ble_eq_true rfl) rfl rfl rfl rfl pn_X7_turnBack rfl k
theorem S_X10_undo_21 {kc ks : Nat} {h : Hh} {Q : PQ} {X : PX} {xs0 : Int}
    (k : ((xs0 ≠ 0 → (1 ≤ kc ∧ 6 ≤ ks) ∧ am_V M_X10_freshText 1 6 0 [aR 0] [] (RM WM wd) h (fun v ρ' h' => am_V M_X10_undo (kc - 1) (ks - 6) 39 [aR 0, aU] (v ++ []) ρ' h' Q X) X) ∧ (xs0 = 0 → (1 ≤ kc ∧ 6 ≤ ks) ∧ X "java/lang/UnsupportedOperationException" (RM WM false) h))) :
    am_V M_X10_undo kc ks 21 [aR 0, aU] [aI xs0] (RM WM wd) h Q X := by
  refine v_if_ne (tgt := 35) dX10_undo_21 (by decide) (fun z => ?_) (fun z => ?_)
  · have k := k.1 z
    obtain ⟨⟨b1_1, b1_2⟩, k⟩ := k
    refine v_aload_n dX10_undo_35 rfl rfl ?_
    exact v_callV (j := M_X10_freshText) (As := []) (st := []) (E0 := [aR 0]) (a := 0) (ci := 8) (N := 10) (q9 := (RX10, TX10, 10)) dX10_undo_36 ml_X10_114 J_X10_freshText b1_1 b1_2 (Nat.le_of_ble_eq_true rfl) rfl (Nat.le_of_ble_eq_true rfl) (List.forall_mem_cons.mpr ⟨rfl, fun _ h9 => absurd h9 List.not_mem_nil⟩) (Nat.le_of_ble_eq_true rfl) rfl rfl rfl rfl pn_X10_freshText rfl k
  · have k := k.2 z
    obtain ⟨⟨b1_1, b1_2⟩, k⟩ := k
    exact v_throwW dX10_undo_24 dX10_undo_27 dX10_undo_28 dX10_undo_31 dX10_undo_34 th_109_271_113 rfl rfl (by decide) (Nat.le_of_ble_eq_true rfl) b1_1 b1_2 k
theorem S_X10_undo_39 {kc ks : Nat} {h : Hh} {Q : PQ} {X : PX} {as0 : Nat} (ts0 : isT as0)
    (k : ((-2147483648 ≤ (((h 2 1) - 1) : Int) ∧ (((h 2 1) - 1) : Int) < 2147483648)) ∧ am_V M_X6_add 0 0 0 [aR as0, aR 10, aI ((h 2 1) - 1), aU] [] (RM WM wd) h (fun v ρ' h' => am_V M_X10_undo kc ks 60 [aR 0, aR as0] (v ++ []) ρ' h' Q X) X) :
    am_V M_X10_undo kc ks 39 [aR 0, aU] [aR as0] (RM WM wd) h Q X := by
  obtain ⟨b0_1, k⟩ := k
  refine v_astore_n (E2 := [aR 0, aR as0]) dX10_undo_39 rfl (Nat.le_of_ble_eq_true rfl) rfl ?_
  refine v_aload_n dX10_undo_40 rfl rfl ?_
  refine v_aload_n dX10_undo_41 rfl rfl ?_
  refine v_getR (x := 9) dX10_undo_42 fl_X10_36 am_clsA rfl rfl rfl ?_
  refine v_getR (x := 10) dX10_undo_45 fl_X10_273 am_clsA rfl rfl rfl ?_
  refine v_aload_n dX10_undo_48 rfl rfl ?_
  refine v_getR (x := 2) dX10_undo_49 fl_X10_18 am_clsA rfl rfl rfl ?_
  refine v_getI (j := 1) dX10_undo_52 fl_X10_80 am_clsA rfl rfl rfl ?_
  refine v_iconst dX10_undo_55 ⟨by decide, by decide⟩ ?_
  refine v_isub dX10_undo_56 b0_1 ?_
  exact v_callV (j := M_X6_add) (As := [aR 10, aI ((h 2 1) - 1)]) (st := []) (E0 := [aR as0, aR 10, aI ((h 2 1) - 1), aU]) (a := as0) (ci := 4) (N := 5) (q9 := (RX6, TX6, 5)) dX10_undo_57 ml_X10_118 J_X6_add (Nat.zero_le _) (Nat.zero_le _) (Nat.le_of_ble_eq_true rfl) rfl (Nat.le_of_ble_eq_true rfl) (List.forall_mem_cons.mpr ⟨rfl, List.forall_mem_cons.mpr ⟨rfl, List.forall_mem_cons.mpr ⟨rfl, fun _ h9 => absurd h9 List.not_mem_nil⟩⟩⟩) (Nat.le_of_ble_eq_true rfl) rfl (tk0 ts0) rfl rfl pn_X6_add rfl k
theorem S_X10_undo_60 {kc ks : Nat} {h : Hh} {Q : PQ} {X : PX} {a1 : Nat} (t1 : isT a1)
    (k : am_V M_X10_keep 0 0 0 [aR 0, aR a1] [] (RM WM wd) h (fun v ρ' h' => am_V M_X10_undo kc ks 65 [aU, aU] (v ++ []) ρ' h' Q X) X) :
    am_V M_X10_undo kc ks 60 [aR 0, aR a1] [] (RM WM wd) h Q X := by
  refine v_aload_n dX10_undo_60 rfl rfl ?_
  refine v_aload_n dX10_undo_61 rfl rfl ?_
  refine v_weak (E2 := [aU, aU]) ⟨Or.inr rfl, ⟨Or.inr rfl, trivial⟩⟩ ?_
  exact v_callV (j := M_X10_keep) (As := [aR a1]) (st := []) (E0 := [aR 0, aR a1]) (a := 0) (ci := 8) (N := 10) (q9 := (RX10, TX10, 10)) dX10_undo_62 ml_X10_122 J_X10_keep (Nat.zero_le _) (Nat.zero_le _) (Nat.le_of_ble_eq_true rfl) rfl (Nat.le_of_ble_eq_true rfl) (List.forall_mem_cons.mpr ⟨rfl, List.forall_mem_cons.mpr ⟨rfl, fun _ h9 => absurd h9 List.not_mem_nil⟩⟩) (Nat.le_of_ble_eq_true rfl) rfl rfl rfl rfl pn_X10_keep rfl k
theorem S_X10_undo_65 {kc ks : Nat} {h : Hh} {Q : PQ} {X : PX} {xs0 : Int}
    (k : Q [aI xs0] (RM WM wd) h) :
    am_V M_X10_undo kc ks 65 [aU, aU] [aI xs0] (RM WM wd) h Q X := by
  exact v_iret dX10_undo_65 rfl rfl k
theorem S_X10_squares_0 {kc ks : Nat} {h : Hh} {Q : PQ} {X : PX} {x1 : Int}
    (k : (1 ≤ kc ∧ 6 ≤ ks) ∧ am_V M_X10_known 1 6 0 [aR 0, aI x1] [] (RM WM wd) h (fun v ρ' h' => am_V M_X10_squares (kc - 1) (ks - 6) 5 [aU, aU] (v ++ []) ρ' h' Q X) X) :
    am_V M_X10_squares kc ks 0 [aR 0, aI x1] [] (RM WM wd) h Q X := by
  obtain ⟨⟨b0_1, b0_2⟩, k⟩ := k
  refine v_aload_n dX10_squares_0 rfl rfl ?_
  refine v_iload_n dX10_squares_1 rfl rfl ?_
  refine v_weak (E2 := [aU, aU]) ⟨Or.inr rfl, ⟨Or.inr rfl, trivial⟩⟩ ?_
  exact v_callV (j := M_X10_known) (As := [aI x1]) (st := []) (E0 := [aR 0, aI x1]) (a := 0) (ci := 8) (N := 10) (q9 := (RX10, TX10, 10)) dX10_squares_2 ml_X10_126 J_X10_known b0_1 b0_2 (Nat.le_of_ble_eq_true rfl) rfl (Nat.le_of_ble_eq_true rfl) (List.forall_mem_cons.mpr ⟨rfl, List.forall_mem_cons.mpr ⟨rfl, fun _ h9 => absurd h9 List.not_mem_nil⟩⟩) (Nat.le_of_ble_eq_true rfl) rfl rfl rfl rfl pn_X10_known rfl k
theorem S_X10_squares_5 {kc ks : Nat} {h : Hh} {Q : PQ} {X : PX} {as0 : Nat} (ts0 : isT as0)
    (k : am_V M_X4_allSquares 0 0 0 [aR as0, aU, aU, aU, aU] [] (RM WM wd) h (fun v ρ' h' => am_V M_X10_squares kc ks 8 [aU, aU] (v ++ []) ρ' h' Q X) X) :
    am_V M_X10_squares kc ks 5 [aU, aU] [aR as0] (RM WM wd) h Q X := by
  exact v_callS (j := M_X4_allSquares) (As := [aR as0]) (st := []) (E0 := [aR as0, aU, aU, aU, aU]) dX10_squares_5 ms_X10_276 J_X4_allSquares (Nat.zero_le _) (Nat.zero_le _) (Nat.le_of_ble_eq_true rfl) rfl (Nat.le_of_ble_eq_true rfl) (List.forall_mem_cons.mpr ⟨rfl, fun _ h9 => absurd h9 List.not_mem_nil⟩) (Nat.le_of_ble_eq_true rfl) rfl pn_X4_allSquares rfl k
theorem S_X10_squares_8 {kc ks : Nat} {h : Hh} {Q : PQ} {X : PX} {xs0 : Int}
    (k : Q [aI xs0] (RM WM wd) h) :
    am_V M_X10_squares kc ks 8 [aU, aU] [aI xs0] (RM WM wd) h Q X := by
  exact v_iret dX10_squares_8 rfl rfl k
theorem S_X10_period_0 {kc ks : Nat} {h : Hh} {Q : PQ} {X : PX} {x1 : Int}
    (k : (2 ≤ kc ∧ 12 ≤ ks) ∧ am_V M_X10_knownNotEmpty 2 12 0 [aR 0, aI x1, aU] [] (RM WM wd) h (fun v ρ' h' => am_V M_X10_period (kc - 2) (ks - 12) 5 [aU, aU] (v ++ []) ρ' h' Q X) X) :
    am_V M_X10_period kc ks 0 [aR 0, aI x1] [] (RM WM wd) h Q X := by
  obtain ⟨⟨b0_1, b0_2⟩, k⟩ := k
  refine v_aload_n dX10_period_0 rfl rfl ?_
  refine v_iload_n dX10_period_1 rfl rfl ?_
  refine v_weak (E2 := [aU, aU]) ⟨Or.inr rfl, ⟨Or.inr rfl, trivial⟩⟩ ?_
  exact v_callV (j := M_X10_knownNotEmpty) (As := [aI x1]) (st := []) (E0 := [aR 0, aI x1, aU]) (a := 0) (ci := 8) (N := 10) (q9 := (RX10, TX10, 10)) dX10_period_2 ml_X10_161 J_X10_knownNotEmpty b0_1 b0_2 (Nat.le_of_ble_eq_true rfl) rfl (Nat.le_of_ble_eq_true rfl) (List.forall_mem_cons.mpr ⟨rfl, List.forall_mem_cons.mpr ⟨rfl, fun _ h9 => absurd h9 List.not_mem_nil⟩⟩) (Nat.le_of_ble_eq_true rfl) rfl rfl rfl rfl pn_X10_knownNotEmpty rfl k
theorem S_X10_period_5 {kc ks : Nat} {h : Hh} {Q : PQ} {X : PX} {as0 : Nat} (ts0 : isT as0)
    (k : am_V M_X4_leastPeriod 0 0 0 [aR as0, aU] [] (RM WM wd) h (fun v ρ' h' => am_V M_X10_period kc ks 8 [aU, aU] (v ++ []) ρ' h' Q X) X) :
    am_V M_X10_period kc ks 5 [aU, aU] [aR as0] (RM WM wd) h Q X := by
  exact v_callS (j := M_X4_leastPeriod) (As := [aR as0]) (st := []) (E0 := [aR as0, aU]) dX10_period_5 ms_X10_286 J_X4_leastPeriod (Nat.zero_le _) (Nat.zero_le _) (Nat.le_of_ble_eq_true rfl) rfl (Nat.le_of_ble_eq_true rfl) (List.forall_mem_cons.mpr ⟨rfl, fun _ h9 => absurd h9 List.not_mem_nil⟩) (Nat.le_of_ble_eq_true rfl) rfl pn_X4_leastPeriod rfl k
theorem S_X10_period_8 {kc ks : Nat} {h : Hh} {Q : PQ} {X : PX} {xs0 : Int}
    (k : Q [aI xs0] (RM WM wd) h) :
    am_V M_X10_period kc ks 8 [aU, aU] [aI xs0] (RM WM wd) h Q X := by
  exact v_iret dX10_period_8 rfl rfl k
theorem S_X10_parts_0 {kc ks : Nat} {h : Hh} {Q : PQ} {X : PX} {x1 : Int}
    (k : (1 ≤ kc ∧ 6 ≤ ks) ∧ am_V M_X10_known 1 6 0 [aR 0, aI x1] [] (RM WM wd) h (fun v ρ' h' => am_V M_X10_parts (kc - 1) (ks - 6) 9 [aU, aU] (v ++ [aR 29]) ρ' h' Q X) X) :
    am_V M_X10_parts kc ks 0 [aR 0, aI x1] [] (RM WM wd) h Q X := by
  obtain ⟨⟨b0_1, b0_2⟩, k⟩ := k
  refine v_aload_n dX10_parts_0 rfl rfl ?_
  refine v_getR (x := 29) dX10_parts_1 fl_X10_57 am_clsA rfl rfl rfl ?_
  refine v_aload_n dX10_parts_4 rfl rfl ?_
  refine v_iload_n dX10_parts_5 rfl rfl ?_
  refine v_weak (E2 := [aU, aU]) ⟨Or.inr rfl, ⟨Or.inr rfl, trivial⟩⟩ ?_
  exact v_callV (j := M_X10_known) (As := [aI x1]) (st := [aR 29]) (E0 := [aR 0, aI x1]) (a := 0) (ci := 8) (N := 10) (q9 := (RX10, TX10, 10)) dX10_parts_6 ml_X10_126 J_X10_known b0_1 b0_2 (Nat.le_of_ble_eq_true rfl) rfl (Nat.le_of_ble_eq_true rfl) (List.forall_mem_cons.mpr ⟨rfl, List.forall_mem_cons.mpr ⟨rfl, fun _ h9 => absurd h9 List.not_mem_nil⟩⟩) (Nat.le_of_ble_eq_true rfl) rfl rfl rfl rfl pn_X10_known rfl k
theorem S_X10_parts_9 {kc ks : Nat} {h : Hh} {Q : PQ} {X : PX} {as0 : Nat} (ts0 : isT as0)
    (k : am_V M_X0_allCuts_3 0 0 0 [aR 29, aR as0, aU, aU, aU] [] (RM WM wd) h (fun v ρ' h' => am_V M_X10_parts kc ks 12 [aU, aU] (v ++ []) ρ' h' Q X) X) :
    am_V M_X10_parts kc ks 9 [aU, aU] [aR as0, aR 29] (RM WM wd) h Q X := by
  exact v_callU (j := M_X0_allCuts_3) (As := [aR as0]) (st := []) (E0 := [aR 29, aR as0, aU, aU, aU]) (a := 29) (ci := 2) (N := 0) (q9 := (RX3, TX3, 0)) dX10_parts_9 mu_X10_292_3 J_X0_allCuts_3 (Nat.zero_le _) (Nat.zero_le _) (Nat.le_of_ble_eq_true rfl) rfl (Nat.le_of_ble_eq_true rfl) (List.forall_mem_cons.mpr ⟨rfl, List.forall_mem_cons.mpr ⟨rfl, fun _ h9 => absurd h9 List.not_mem_nil⟩⟩) (Nat.le_of_ble_eq_true rfl) rfl rfl rfl pn_X0_allCuts_3 rfl k
theorem S_X10_parts_12 {kc ks : Nat} {h : Hh} {Q : PQ} {X : PX} {xs0 : Int}
    (k : Q [aI xs0] (RM WM wd) h) :
    am_V M_X10_parts kc ks 12 [aU, aU] [aI xs0] (RM WM wd) h Q X := by
  exact v_iret dX10_parts_12 rfl rfl k
theorem S_X10_partAt_0 {kc ks : Nat} {h : Hh} {Q : PQ} {X : PX} {x1 : Int} {x2 : Int}
    (k : (1 ≤ kc ∧ 6 ≤ ks) ∧ am_V M_X10_known 1 6 0 [aR 0, aI x1] [] (RM WM wd) h (fun v ρ' h' => am_V M_X10_partAt (kc - 1) (ks - 6) 5 [aR 0, aU, aI x2, aU] (v ++ []) ρ' h' Q X) X) :
    am_V M_X10_partAt kc ks 0 [aR 0, aI x1, aI x2, aU] [] (RM WM wd) h Q X := by
  obtain ⟨⟨b0_1, b0_2⟩, k⟩ := k
  refine v_aload_n dX10_partAt_0 rfl rfl ?_
  refine v_iload_n dX10_partAt_1 rfl rfl ?_
  refine v_weak (E2 := [aR 0, aU, aI x2, aU]) ⟨Or.inl rfl, ⟨Or.inr rfl, ⟨Or.inl rfl, ⟨Or.inl rfl, trivial⟩⟩⟩⟩ ?_
  exact v_callV (j := M_X10_known) (As := [aI x1]) (st := []) (E0 := [aR 0, aI x1]) (a := 0) (ci := 8) (N := 10) (q9 := (RX10, TX10, 10)) dX10_partAt_2 ml_X10_126 J_X10_known b0_1 b0_2 (Nat.le_of_ble_eq_true rfl) rfl (Nat.le_of_ble_eq_true rfl) (List.forall_mem_cons.mpr ⟨rfl, List.forall_mem_cons.mpr ⟨rfl, fun _ h9 => absurd h9 List.not_mem_nil⟩⟩) (Nat.le_of_ble_eq_true rfl) rfl rfl rfl rfl pn_X10_known rfl k
theorem S_X10_partAt_5 {kc ks : Nat} {h : Hh} {Q : PQ} {X : PX} {x2 : Int} {as0 : Nat} (ts0 : isT as0)
    (k : ((x2 < 0 → (1 ≤ kc ∧ 6 ≤ ks) ∧ X "java/lang/IndexOutOfBoundsException" (RM WM false) h) ∧ (0 ≤ x2 → am_V M_X0_allCuts_3 0 0 0 [aR 29, aR as0, aU, aU, aU] [] (RM WM wd) h (fun v ρ' h' => am_V M_X10_partAt kc ks 19 [aR 0, aU, aI x2, aR as0] (v ++ [aI x2]) ρ' h' Q X) X))) :
    am_V M_X10_partAt kc ks 5 [aR 0, aU, aI x2, aU] [aR as0] (RM WM wd) h Q X := by
  refine v_astore_n (E2 := [aR 0, aU, aI x2, aR as0]) dX10_partAt_5 rfl (Nat.le_of_ble_eq_true rfl) rfl ?_
  refine v_iload_n dX10_partAt_6 rfl rfl ?_
  refine v_if_lt (tgt := 22) dX10_partAt_7 (by decide) (fun z => ?_) (fun z => ?_)
  · have k := k.1 z
    obtain ⟨⟨b1_1, b1_2⟩, k⟩ := k
    exact v_throwW dX10_partAt_22 dX10_partAt_25 dX10_partAt_26 dX10_partAt_29 dX10_partAt_32 th_295_297_299 rfl rfl (by decide) (Nat.le_of_ble_eq_true rfl) b1_1 b1_2 k
  · have k := k.2 z
    refine v_iload_n dX10_partAt_10 rfl rfl ?_
    refine v_aload_n dX10_partAt_11 rfl rfl ?_
    refine v_getR (x := 29) dX10_partAt_12 fl_X10_57 am_clsA rfl rfl rfl ?_
    refine v_aload_n dX10_partAt_15 rfl rfl ?_
    exact v_callU (j := M_X0_allCuts_3) (As := [aR as0]) (st := [aI x2]) (E0 := [aR 29, aR as0, aU, aU, aU]) (a := 29) (ci := 2) (N := 0) (q9 := (RX3, TX3, 0)) dX10_partAt_16 mu_X10_292_3 J_X0_allCuts_3 (Nat.zero_le _) (Nat.zero_le _) (Nat.le_of_ble_eq_true rfl) rfl (Nat.le_of_ble_eq_true rfl) (List.forall_mem_cons.mpr ⟨rfl, List.forall_mem_cons.mpr ⟨rfl, fun _ h9 => absurd h9 List.not_mem_nil⟩⟩) (Nat.le_of_ble_eq_true rfl) rfl rfl rfl pn_X0_allCuts_3 rfl k
theorem S_X10_partAt_19 {kc ks : Nat} {h : Hh} {Q : PQ} {X : PX} {x2 : Int} {a3 : Nat} (t3 : isT a3) {xs0 : Int} {xs1 : Int}
    (k : ((xs1 < xs0 → am_V M_X0_startOf_3 0 0 0 [aR 29, aR a3, aI x2, aU, aU, aU] [] (RM WM wd) h (fun v ρ' h' => am_V M_X10_partAt kc ks 42 [aU, aU, aU, aU] (v ++ []) ρ' h' Q X) X) ∧ (xs0 ≤ xs1 → (1 ≤ kc ∧ 6 ≤ ks) ∧ X "java/lang/IndexOutOfBoundsException" (RM WM false) h))) :
    am_V M_X10_partAt kc ks 19 [aR 0, aU, aI x2, aR a3] [aI xs0, aI xs1] (RM WM wd) h Q X := by
  refine v_icmp_lt (tgt := 33) dX10_partAt_19 (by decide) (fun z => ?_) (fun z => ?_)
  · have k := k.1 z
    refine v_aload_n dX10_partAt_33 rfl rfl ?_
    refine v_getR (x := 29) dX10_partAt_34 fl_X10_57 am_clsA rfl rfl rfl ?_
    refine v_aload_n dX10_partAt_37 rfl rfl ?_
    refine v_iload_n dX10_partAt_38 rfl rfl ?_
    refine v_weak (E2 := [aU, aU, aU, aU]) ⟨Or.inr rfl, ⟨Or.inl rfl, ⟨Or.inr rfl, ⟨Or.inr rfl, trivial⟩⟩⟩⟩ ?_
    exact v_callU (j := M_X0_startOf_3) (As := [aR a3, aI x2]) (st := []) (E0 := [aR 29, aR a3, aI x2, aU, aU, aU]) (a := 29) (ci := 2) (N := 0) (q9 := (RX3, TX3, 0)) dX10_partAt_39 mu_X10_300_3 J_X0_startOf_3 (Nat.zero_le _) (Nat.zero_le _) (Nat.le_of_ble_eq_true rfl) rfl (Nat.le_of_ble_eq_true rfl) (List.forall_mem_cons.mpr ⟨rfl, List.forall_mem_cons.mpr ⟨rfl, List.forall_mem_cons.mpr ⟨rfl, fun _ h9 => absurd h9 List.not_mem_nil⟩⟩⟩) (Nat.le_of_ble_eq_true rfl) rfl rfl rfl pn_X0_startOf_3 rfl k
  · have k := k.2 z
    obtain ⟨⟨b1_1, b1_2⟩, k⟩ := k
    exact v_throwW dX10_partAt_22 dX10_partAt_25 dX10_partAt_26 dX10_partAt_29 dX10_partAt_32 th_295_297_299 rfl rfl (by decide) (Nat.le_of_ble_eq_true rfl) b1_1 b1_2 k
theorem S_X10_partAt_42 {kc ks : Nat} {h : Hh} {Q : PQ} {X : PX} {xs0 : Int}
    (k : Q [aI xs0] (RM WM wd) h) :
    am_V M_X10_partAt kc ks 42 [aU, aU, aU, aU] [aI xs0] (RM WM wd) h Q X := by
  exact v_iret dX10_partAt_42 rfl rfl k
theorem S_X10_pieces_0 {kc ks : Nat} {h : Hh} {Q : PQ} {X : PX} {x1 : Int}
    (k : (1 ≤ kc ∧ 6 ≤ ks) ∧ am_V M_X10_known 1 6 0 [aR 0, aI x1] [] (RM WM wd) h (fun v ρ' h' => am_V M_X10_pieces (kc - 1) (ks - 6) 9 [aU, aU] (v ++ [aR 30]) ρ' h' Q X) X) :
    am_V M_X10_pieces kc ks 0 [aR 0, aI x1] [] (RM WM wd) h Q X := by
  obtain ⟨⟨b0_1, b0_2⟩, k⟩ := k
  refine v_aload_n dX10_pieces_0 rfl rfl ?_
  refine v_getR (x := 30) dX10_pieces_1 fl_X10_64 am_clsA rfl rfl rfl ?_
  refine v_aload_n dX10_pieces_4 rfl rfl ?_
  refine v_iload_n dX10_pieces_5 rfl rfl ?_
  refine v_weak (E2 := [aU, aU]) ⟨Or.inr rfl, ⟨Or.inr rfl, trivial⟩⟩ ?_
  exact v_callV (j := M_X10_known) (As := [aI x1]) (st := [aR 30]) (E0 := [aR 0, aI x1]) (a := 0) (ci := 8) (N := 10) (q9 := (RX10, TX10, 10)) dX10_pieces_6 ml_X10_126 J_X10_known b0_1 b0_2 (Nat.le_of_ble_eq_true rfl) rfl (Nat.le_of_ble_eq_true rfl) (List.forall_mem_cons.mpr ⟨rfl, List.forall_mem_cons.mpr ⟨rfl, fun _ h9 => absurd h9 List.not_mem_nil⟩⟩) (Nat.le_of_ble_eq_true rfl) rfl rfl rfl rfl pn_X10_known rfl k
theorem S_X10_pieces_9 {kc ks : Nat} {h : Hh} {Q : PQ} {X : PX} {as0 : Nat} (ts0 : isT as0)
    (k : am_V M_X0_allCuts_2 0 0 0 [aR 30, aR as0, aU, aU, aU] [] (RM WM wd) h (fun v ρ' h' => am_V M_X10_pieces kc ks 12 [aU, aU] (v ++ []) ρ' h' Q X) X) :
    am_V M_X10_pieces kc ks 9 [aU, aU] [aR as0, aR 30] (RM WM wd) h Q X := by
  exact v_callU (j := M_X0_allCuts_2) (As := [aR as0]) (st := []) (E0 := [aR 30, aR as0, aU, aU, aU]) (a := 30) (ci := 1) (N := 1) (q9 := (RX2, TX2, 1)) dX10_pieces_9 mu_X10_303_2 J_X0_allCuts_2 (Nat.zero_le _) (Nat.zero_le _) (Nat.le_of_ble_eq_true rfl) rfl (Nat.le_of_ble_eq_true rfl) (List.forall_mem_cons.mpr ⟨rfl, List.forall_mem_cons.mpr ⟨rfl, fun _ h9 => absurd h9 List.not_mem_nil⟩⟩) (Nat.le_of_ble_eq_true rfl) rfl rfl rfl pn_X0_allCuts_2 rfl k
theorem S_X10_pieces_12 {kc ks : Nat} {h : Hh} {Q : PQ} {X : PX} {xs0 : Int}
    (k : Q [aI xs0] (RM WM wd) h) :
    am_V M_X10_pieces kc ks 12 [aU, aU] [aI xs0] (RM WM wd) h Q X := by
  exact v_iret dX10_pieces_12 rfl rfl k
theorem S_X10_fewest_0 {kc ks : Nat} {h : Hh} {Q : PQ} {X : PX} {x1 : Int}
    (k : (1 ≤ kc ∧ 6 ≤ ks) ∧ am_V M_X10_known 1 6 0 [aR 0, aI x1] [] (RM WM wd) h (fun v ρ' h' => am_V M_X10_fewest (kc - 1) (ks - 6) 9 [aU, aU] (v ++ [aR 30]) ρ' h' Q X) X) :
    am_V M_X10_fewest kc ks 0 [aR 0, aI x1] [] (RM WM wd) h Q X := by
  obtain ⟨⟨b0_1, b0_2⟩, k⟩ := k
  refine v_aload_n dX10_fewest_0 rfl rfl ?_
  refine v_getR (x := 30) dX10_fewest_1 fl_X10_64 am_clsA rfl rfl rfl ?_
  refine v_aload_n dX10_fewest_4 rfl rfl ?_
  refine v_iload_n dX10_fewest_5 rfl rfl ?_
  refine v_weak (E2 := [aU, aU]) ⟨Or.inr rfl, ⟨Or.inr rfl, trivial⟩⟩ ?_
  exact v_callV (j := M_X10_known) (As := [aI x1]) (st := [aR 30]) (E0 := [aR 0, aI x1]) (a := 0) (ci := 8) (N := 10) (q9 := (RX10, TX10, 10)) dX10_fewest_6 ml_X10_126 J_X10_known b0_1 b0_2 (Nat.le_of_ble_eq_true rfl) rfl (Nat.le_of_ble_eq_true rfl) (List.forall_mem_cons.mpr ⟨rfl, List.forall_mem_cons.mpr ⟨rfl, fun _ h9 => absurd h9 List.not_mem_nil⟩⟩) (Nat.le_of_ble_eq_true rfl) rfl rfl rfl rfl pn_X10_known rfl k
theorem S_X10_fewest_9 {kc ks : Nat} {h : Hh} {Q : PQ} {X : PX} {as0 : Nat} (ts0 : isT as0)
    (k : am_V M_X2_fewestWords 0 0 0 [aR 30, aR as0, aU, aU, aU, aU] [] (RM WM wd) h (fun v ρ' h' => am_V M_X10_fewest kc ks 12 [aU, aU] (v ++ []) ρ' h' Q X) X) :
    am_V M_X10_fewest kc ks 9 [aU, aU] [aR as0, aR 30] (RM WM wd) h Q X := by
  exact v_callV (j := M_X2_fewestWords) (As := [aR as0]) (st := []) (E0 := [aR 30, aR as0, aU, aU, aU, aU]) (a := 30) (ci := 1) (N := 1) (q9 := (RX2, TX2, 1)) dX10_fewest_9 ml_X10_316 J_X2_fewestWords (Nat.zero_le _) (Nat.zero_le _) (Nat.le_of_ble_eq_true rfl) rfl (Nat.le_of_ble_eq_true rfl) (List.forall_mem_cons.mpr ⟨rfl, List.forall_mem_cons.mpr ⟨rfl, fun _ h9 => absurd h9 List.not_mem_nil⟩⟩) (Nat.le_of_ble_eq_true rfl) rfl rfl rfl rfl pn_X2_fewestWords rfl k
theorem S_X10_fewest_12 {kc ks : Nat} {h : Hh} {Q : PQ} {X : PX} {xs0 : Int}
    (k : Q [aI xs0] (RM WM wd) h) :
    am_V M_X10_fewest kc ks 12 [aU, aU] [aI xs0] (RM WM wd) h Q X := by
  exact v_iret dX10_fewest_12 rfl rfl k
theorem S_X10_checksum_0 {kc ks : Nat} {h : Hh} {Q : PQ} {X : PX} 
    (k : am_V M_X10_checksum kc ks 6 [aR 0, aL 7, aU, aI 0, aU, aU] [] (RM WM wd) h Q X) :
    am_V M_X10_checksum kc ks 0 [aR 0, aU, aU, aU, aU, aU] [] (RM WM wd) h Q X := by
  refine v_ldc2l dX10_checksum_0 lc_X10_324 ⟨by decide, by decide⟩ ?_
  refine v_lstore_n (E2 := [aR 0, aL 7, aU, aU, aU, aU]) dX10_checksum_3 rfl (Nat.le_of_ble_eq_true rfl) rfl ?_
  refine v_iconst dX10_checksum_4 ⟨by decide, by decide⟩ ?_
  refine v_istore_n (E2 := [aR 0, aL 7, aU, aI 0, aU, aU]) dX10_checksum_5 rfl (Nat.le_of_ble_eq_true rfl) rfl ?_
  exact k
theorem S_X10_checksum_6 {kc ks : Nat} {h : Hh} {Q : PQ} {X : PX} {x1 : Int} {x3 : Int}
    (k : (((h 0 9) ≤ x3 → Q [aL x1] (RM WM wd) h) ∧ (x3 < (h 0 9) → ((0 : Int) ≤ x3 ∧ (x3 : Int) < 8) ∧ am_V M_X10_checksum kc ks 38 [aR 0, aL ((((31 * x1).bmod (2 ^ 64)) + (h (32 + 5 * (x3).toNat) 4)).bmod (2 ^ 64)), aU, aI x3, aR (32 + 5 * (x3).toNat), aI 0] [] (RM WM wd) h Q X))) :
    am_V M_X10_checksum kc ks 6 [aR 0, aL x1, aU, aI x3, aU, aU] [] (RM WM wd) h Q X := by
  refine v_iload_n dX10_checksum_6 rfl rfl ?_
  refine v_aload_n dX10_checksum_7 rfl rfl ?_
  refine v_getI (j := 9) dX10_checksum_8 fl_X10_235 am_clsA rfl rfl rfl ?_
  refine v_icmp_ge (tgt := 92) dX10_checksum_11 (by decide) (fun z => ?_) (fun z => ?_)
  · have k := k.1 z
    refine v_lload_n dX10_checksum_92 rfl rfl ?_
    exact v_lret dX10_checksum_93 rfl rfl k
  · have k := k.2 z
    obtain ⟨⟨b1_1, b1_2⟩, k⟩ := k
    refine v_aload_n dX10_checksum_14 rfl rfl ?_
    refine v_getR (x := 1) dX10_checksum_15 fl_X10_11 am_clsA rfl rfl rfl ?_
    refine v_iload_n dX10_checksum_18 rfl rfl ?_
    refine v_aaldT (x := (32 + 5 * (x3).toNat)) dX10_checksum_19 rfl b1_1 b1_2 (r_shelf b1_1 b1_2) ?_
    refine v_astore (E2 := [aR 0, aL x1, aU, aI x3, aR (32 + 5 * (x3).toNat), aU]) dX10_checksum_20 (Nat.le_of_ble_eq_true rfl) rfl ?_
    refine v_ldc2l dX10_checksum_22 lc_X10_326 ⟨by decide, by decide⟩ ?_
    refine v_lload_n dX10_checksum_25 rfl rfl ?_
    refine v_lmul dX10_checksum_26 ?_
    refine v_aload dX10_checksum_27 rfl ?_
    refine v_getI (j := 4) dX10_checksum_29 fl_X10_131 am_clsA rfl rfl (tk0 (isT_of b1_1 b1_2)) ?_
    refine v_i2l dX10_checksum_32 ?_
    refine v_ladd dX10_checksum_33 ?_
    refine v_lstore_n (E2 := [aR 0, aL ((((31 * x1).bmod (2 ^ 64)) + (h (32 + 5 * (x3).toNat) 4)).bmod (2 ^ 64)), aU, aI x3, aR (32 + 5 * (x3).toNat), aU]) dX10_checksum_34 rfl (Nat.le_of_ble_eq_true rfl) rfl ?_
    refine v_iconst dX10_checksum_35 ⟨by decide, by decide⟩ ?_
    refine v_istore (E2 := [aR 0, aL ((((31 * x1).bmod (2 ^ 64)) + (h (32 + 5 * (x3).toNat) 4)).bmod (2 ^ 64)), aU, aI x3, aR (32 + 5 * (x3).toNat), aI 0]) dX10_checksum_36 (Nat.le_of_ble_eq_true rfl) rfl ?_
    exact k
theorem S_X10_checksum_38 {kc ks : Nat} {h : Hh} {Q : PQ} {X : PX} {x1 : Int} {x3 : Int} {a4 : Nat} (t4 : isT a4) {x5 : Int}
    (k : (((h a4 4) ≤ x5 → ((-2147483648 ≤ ((x3 + 1) : Int) ∧ ((x3 + 1) : Int) < 2147483648)) ∧ am_V M_X10_checksum kc ks 6 [aR 0, aL x1, aU, aI (x3 + 1), aU, aU] [] (RM WM wd) h Q X) ∧ (x5 < (h a4 4) → ((0 : Int) ≤ x5 ∧ (x5 : Int) < 64 ∧ (0 : Int) ≤ x5 ∧ (x5 : Int) < 64 ∧ (-2147483648 ≤ ((x5 + 1) : Int) ∧ ((x5 + 1) : Int) < 2147483648)) ∧ am_V M_X10_checksum kc ks 38 [aR 0, aL ((((31 * ((((31 * x1).bmod (2 ^ 64)) + (h (a4 + 2) x5)).bmod (2 ^ 64))).bmod (2 ^ 64)) + (h (a4 + 4) x5)).bmod (2 ^ 64)), aU, aI x3, aR a4, aI (x5 + 1)] [] (RM WM wd) h Q X))) :
    am_V M_X10_checksum kc ks 38 [aR 0, aL x1, aU, aI x3, aR a4, aI x5] [] (RM WM wd) h Q X := by
  refine v_iload dX10_checksum_38 rfl ?_
  refine v_aload dX10_checksum_40 rfl ?_
  refine v_getI (j := 4) dX10_checksum_42 fl_X10_131 am_clsA rfl rfl (tk0 t4) ?_
  refine v_icmp_ge (tgt := 86) dX10_checksum_45 (by decide) (fun z => ?_) (fun z => ?_)
  · have k := k.1 z
    obtain ⟨b1_1, k⟩ := k
    refine v_iinc (E2 := [aR 0, aL x1, aU, aI (x3 + 1), aR a4, aI x5]) dX10_checksum_86 rfl b1_1 rfl ?_
    refine v_goto (tgt := 6) dX10_checksum_89 (by decide) ?_
    refine v_weak (E2 := [aR 0, aL x1, aU, aI (x3 + 1), aU, aU]) ⟨Or.inl rfl, ⟨Or.inl rfl, ⟨Or.inl rfl, ⟨Or.inl rfl, ⟨Or.inr rfl, ⟨Or.inr rfl, trivial⟩⟩⟩⟩⟩⟩ ?_
    exact k
  · have k := k.2 z
    obtain ⟨⟨b1_1, b1_2, b1_3, b1_4, b1_5⟩, k⟩ := k
    refine v_ldc2l dX10_checksum_48 lc_X10_326 ⟨by decide, by decide⟩ ?_
    refine v_lload_n dX10_checksum_51 rfl rfl ?_
    refine v_lmul dX10_checksum_52 ?_
    refine v_aload dX10_checksum_53 rfl ?_
    refine v_getR (x := (a4 + 2)) dX10_checksum_55 fl_X10_167 am_clsA rfl (tk0 t4) (tr1 t4) ?_
    refine v_iload dX10_checksum_58 rfl ?_
    refine v_iald dX10_checksum_60 (tk2 t4) b1_1 b1_2 ?_
    refine v_i2l dX10_checksum_61 ?_
    refine v_ladd dX10_checksum_62 ?_
    refine v_lstore_n (E2 := [aR 0, aL ((((31 * x1).bmod (2 ^ 64)) + (h (a4 + 2) x5)).bmod (2 ^ 64)), aU, aI x3, aR a4, aI x5]) dX10_checksum_63 rfl (Nat.le_of_ble_eq_true rfl) rfl ?_
    refine v_ldc2l dX10_checksum_64 lc_X10_326 ⟨by decide, by decide⟩ ?_
    refine v_lload_n dX10_checksum_67 rfl rfl ?_
    refine v_lmul dX10_checksum_68 ?_
    refine v_aload dX10_checksum_69 rfl ?_
    refine v_getR (x := (a4 + 4)) dX10_checksum_71 fl_X10_185 am_clsA rfl (tk0 t4) (tr3 t4) ?_
    refine v_iload dX10_checksum_74 rfl ?_
    refine v_iald dX10_checksum_76 (tk4 t4) b1_3 b1_4 ?_
    refine v_i2l dX10_checksum_77 ?_
    refine v_ladd dX10_checksum_78 ?_
    refine v_lstore_n (E2 := [aR 0, aL ((((31 * ((((31 * x1).bmod (2 ^ 64)) + (h (a4 + 2) x5)).bmod (2 ^ 64))).bmod (2 ^ 64)) + (h (a4 + 4) x5)).bmod (2 ^ 64)), aU, aI x3, aR a4, aI x5]) dX10_checksum_79 rfl (Nat.le_of_ble_eq_true rfl) rfl ?_
    refine v_iinc (E2 := [aR 0, aL ((((31 * ((((31 * x1).bmod (2 ^ 64)) + (h (a4 + 2) x5)).bmod (2 ^ 64))).bmod (2 ^ 64)) + (h (a4 + 4) x5)).bmod (2 ^ 64)), aU, aI x3, aR a4, aI (x5 + 1)]) dX10_checksum_80 rfl b1_5 rfl ?_
    refine v_goto (tgt := 38) dX10_checksum_83 (by decide) ?_
    exact k
theorem S_X10_isSound_0 {kc ks : Nat} {h : Hh} {Q : PQ} {X : PX} 
    (k : am_V M_X10_isSound kc ks 2 [aR 0, aI 0, aU, aU] [] (RM WM wd) h Q X) :
    am_V M_X10_isSound kc ks 0 [aR 0, aU, aU, aU] [] (RM WM wd) h Q X := by
  refine v_iconst dX10_isSound_0 ⟨by decide, by decide⟩ ?_
  refine v_istore_n (E2 := [aR 0, aI 0, aU, aU]) dX10_isSound_1 rfl (Nat.le_of_ble_eq_true rfl) rfl ?_
  exact k
theorem S_X10_isSound_2 {kc ks : Nat} {h : Hh} {Q : PQ} {X : PX} {x1 : Int}
    (k : (((h 0 9) ≤ x1 → Q [aI 1] (RM WM wd) h) ∧ (x1 < (h 0 9) → ((0 : Int) ≤ x1 ∧ (x1 : Int) < 8) ∧ am_V M_X7_comesBack 0 0 0 [aR 9, aR (32 + 5 * (x1).toNat), aU, aU] [] (RM WM wd) h (fun v ρ' h' => am_V M_X10_isSound kc ks 25 [aR 0, aI x1, aR (32 + 5 * (x1).toNat), aU] (v ++ []) ρ' h' Q X) X))) :
    am_V M_X10_isSound kc ks 2 [aR 0, aI x1, aU, aU] [] (RM WM wd) h Q X := by
  refine v_iload_n dX10_isSound_2 rfl rfl ?_
  refine v_aload_n dX10_isSound_3 rfl rfl ?_
  refine v_getI (j := 9) dX10_isSound_4 fl_X10_235 am_clsA rfl rfl rfl ?_
  refine v_icmp_ge (tgt := 87) dX10_isSound_7 (by decide) (fun z => ?_) (fun z => ?_)
  · have k := k.1 z
    refine v_iconst dX10_isSound_87 ⟨by decide, by decide⟩ ?_
    exact v_zret dX10_isSound_88 rfl rfl (Or.inr rfl) k
  · have k := k.2 z
    obtain ⟨⟨b1_1, b1_2⟩, k⟩ := k
    refine v_aload_n dX10_isSound_10 rfl rfl ?_
    refine v_getR (x := 1) dX10_isSound_11 fl_X10_11 am_clsA rfl rfl rfl ?_
    refine v_iload_n dX10_isSound_14 rfl rfl ?_
    refine v_aaldT (x := (32 + 5 * (x1).toNat)) dX10_isSound_15 rfl b1_1 b1_2 (r_shelf b1_1 b1_2) ?_
    refine v_astore_n (E2 := [aR 0, aI x1, aR (32 + 5 * (x1).toNat), aU]) dX10_isSound_16 rfl (Nat.le_of_ble_eq_true rfl) rfl ?_
    refine v_aload_n dX10_isSound_17 rfl rfl ?_
    refine v_getR (x := 9) dX10_isSound_18 fl_X10_36 am_clsA rfl rfl rfl ?_
    refine v_aload_n dX10_isSound_21 rfl rfl ?_
    exact v_callV (j := M_X7_comesBack) (As := [aR (32 + 5 * (x1).toNat)]) (st := []) (E0 := [aR 9, aR (32 + 5 * (x1).toNat), aU, aU]) (a := 9) (ci := 5) (N := 5) (q9 := (RX7, TX7, 5)) dX10_isSound_22 ml_X10_328 J_X7_comesBack (Nat.zero_le _) (Nat.zero_le _) (Nat.le_of_ble_eq_true rfl) rfl (Nat.le_of_ble_eq_true rfl) (List.forall_mem_cons.mpr ⟨rfl, List.forall_mem_cons.mpr ⟨rfl, fun _ h9 => absurd h9 List.not_mem_nil⟩⟩) (Nat.le_of_ble_eq_true rfl) rfl rfl rfl rfl pn_X7_comesBack rfl k
theorem S_X10_isSound_25 {kc ks : Nat} {h : Hh} {Q : PQ} {X : PX} {x1 : Int} {a2 : Nat} (t2 : isT a2) {xs0 : Int}
    (k : ((xs0 = 0 → Q [aI 0] (RM WM wd) h) ∧ (xs0 ≠ 0 → am_V M_X9_agreesWith 0 0 0 [aR 25, aR a2] [] (RM WM wd) h (fun v ρ' h' => am_V M_X10_isSound kc ks 36 [aR 0, aI x1, aR a2, aU] (v ++ []) ρ' h' Q X) X))) :
    am_V M_X10_isSound kc ks 25 [aR 0, aI x1, aR a2, aU] [aI xs0] (RM WM wd) h Q X := by
  refine v_if_eq (tgt := 73) dX10_isSound_25 (by decide) (fun z => ?_) (fun z => ?_)
  · have k := k.1 z
    refine v_iconst dX10_isSound_73 ⟨by decide, by decide⟩ ?_
    refine v_istore_n (E2 := [aR 0, aI x1, aR a2, aI 0]) dX10_isSound_74 rfl (Nat.le_of_ble_eq_true rfl) rfl ?_
    refine v_iload_n dX10_isSound_75 rfl rfl ?_
    refine v_if_ne (tgt := 81) dX10_isSound_76 (by decide) (fun z => absurd z (by decide)) (fun z => ?_)
    refine v_iconst dX10_isSound_79 ⟨by decide, by decide⟩ ?_
    exact v_zret dX10_isSound_80 rfl rfl (Or.inl rfl) k
  · have k := k.2 z
    refine v_aload_n dX10_isSound_28 rfl rfl ?_
    refine v_getR (x := 25) dX10_isSound_29 fl_X10_50 am_clsA rfl rfl rfl ?_
    refine v_aload_n dX10_isSound_32 rfl rfl ?_
    exact v_callV (j := M_X9_agreesWith) (As := [aR a2]) (st := []) (E0 := [aR 25, aR a2]) (a := 25) (ci := 7) (N := 5) (q9 := (RX9, TX9, 5)) dX10_isSound_33 ml_X10_332 J_X9_agreesWith (Nat.zero_le _) (Nat.zero_le _) (Nat.le_of_ble_eq_true rfl) rfl (Nat.le_of_ble_eq_true rfl) (List.forall_mem_cons.mpr ⟨rfl, List.forall_mem_cons.mpr ⟨rfl, fun _ h9 => absurd h9 List.not_mem_nil⟩⟩) (Nat.le_of_ble_eq_true rfl) rfl rfl rfl rfl pn_X9_agreesWith rfl k
theorem S_X10_isSound_36 {kc ks : Nat} {h : Hh} {Q : PQ} {X : PX} {x1 : Int} {a2 : Nat} (t2 : isT a2) {xs0 : Int}
    (k : ((xs0 = 0 → Q [aI 0] (RM WM wd) h) ∧ (xs0 ≠ 0 → am_V M_X3_agreesWith 0 0 0 [aR 29, aR a2, aU, aU, aU, aU] [] (RM WM wd) h (fun v ρ' h' => am_V M_X10_isSound kc ks 47 [aR 0, aI x1, aR a2, aU] (v ++ []) ρ' h' Q X) X))) :
    am_V M_X10_isSound kc ks 36 [aR 0, aI x1, aR a2, aU] [aI xs0] (RM WM wd) h Q X := by
  refine v_if_eq (tgt := 73) dX10_isSound_36 (by decide) (fun z => ?_) (fun z => ?_)
  · have k := k.1 z
    refine v_iconst dX10_isSound_73 ⟨by decide, by decide⟩ ?_
    refine v_istore_n (E2 := [aR 0, aI x1, aR a2, aI 0]) dX10_isSound_74 rfl (Nat.le_of_ble_eq_true rfl) rfl ?_
    refine v_iload_n dX10_isSound_75 rfl rfl ?_
    refine v_if_ne (tgt := 81) dX10_isSound_76 (by decide) (fun z => absurd z (by decide)) (fun z => ?_)
    refine v_iconst dX10_isSound_79 ⟨by decide, by decide⟩ ?_
    exact v_zret dX10_isSound_80 rfl rfl (Or.inl rfl) k
  · have k := k.2 z
    refine v_aload_n dX10_isSound_39 rfl rfl ?_
    refine v_getR (x := 29) dX10_isSound_40 fl_X10_57 am_clsA rfl rfl rfl ?_
    refine v_aload_n dX10_isSound_43 rfl rfl ?_
    exact v_callV (j := M_X3_agreesWith) (As := [aR a2]) (st := []) (E0 := [aR 29, aR a2, aU, aU, aU, aU]) (a := 29) (ci := 2) (N := 0) (q9 := (RX3, TX3, 0)) dX10_isSound_44 ml_X10_335 J_X3_agreesWith (Nat.zero_le _) (Nat.zero_le _) (Nat.le_of_ble_eq_true rfl) rfl (Nat.le_of_ble_eq_true rfl) (List.forall_mem_cons.mpr ⟨rfl, List.forall_mem_cons.mpr ⟨rfl, fun _ h9 => absurd h9 List.not_mem_nil⟩⟩) (Nat.le_of_ble_eq_true rfl) rfl rfl rfl rfl pn_X3_agreesWith rfl k
theorem S_X10_isSound_47 {kc ks : Nat} {h : Hh} {Q : PQ} {X : PX} {x1 : Int} {a2 : Nat} (t2 : isT a2) {xs0 : Int}
    (k : ((xs0 = 0 → Q [aI 0] (RM WM wd) h) ∧ (xs0 ≠ 0 → am_V M_X0_allCuts_2 0 0 0 [aR 30, aR a2, aU, aU, aU] [] (RM WM wd) h (fun v ρ' h' => am_V M_X10_isSound kc ks 58 [aR 0, aI x1, aR a2, aU] (v ++ []) ρ' h' Q X) X))) :
    am_V M_X10_isSound kc ks 47 [aR 0, aI x1, aR a2, aU] [aI xs0] (RM WM wd) h Q X := by
  refine v_if_eq (tgt := 73) dX10_isSound_47 (by decide) (fun z => ?_) (fun z => ?_)
  · have k := k.1 z
    refine v_iconst dX10_isSound_73 ⟨by decide, by decide⟩ ?_
    refine v_istore_n (E2 := [aR 0, aI x1, aR a2, aI 0]) dX10_isSound_74 rfl (Nat.le_of_ble_eq_true rfl) rfl ?_
    refine v_iload_n dX10_isSound_75 rfl rfl ?_
    refine v_if_ne (tgt := 81) dX10_isSound_76 (by decide) (fun z => absurd z (by decide)) (fun z => ?_)
    refine v_iconst dX10_isSound_79 ⟨by decide, by decide⟩ ?_
    exact v_zret dX10_isSound_80 rfl rfl (Or.inl rfl) k
  · have k := k.2 z
    refine v_aload_n dX10_isSound_50 rfl rfl ?_
    refine v_getR (x := 30) dX10_isSound_51 fl_X10_64 am_clsA rfl rfl rfl ?_
    refine v_aload_n dX10_isSound_54 rfl rfl ?_
    exact v_callU (j := M_X0_allCuts_2) (As := [aR a2]) (st := []) (E0 := [aR 30, aR a2, aU, aU, aU]) (a := 30) (ci := 1) (N := 1) (q9 := (RX2, TX2, 1)) dX10_isSound_55 mu_X10_303_2 J_X0_allCuts_2 (Nat.zero_le _) (Nat.zero_le _) (Nat.le_of_ble_eq_true rfl) rfl (Nat.le_of_ble_eq_true rfl) (List.forall_mem_cons.mpr ⟨rfl, List.forall_mem_cons.mpr ⟨rfl, fun _ h9 => absurd h9 List.not_mem_nil⟩⟩) (Nat.le_of_ble_eq_true rfl) rfl rfl rfl pn_X0_allCuts_2 rfl k
theorem S_X10_isSound_58 {kc ks : Nat} {h : Hh} {Q : PQ} {X : PX} {x1 : Int} {a2 : Nat} (t2 : isT a2) {xs0 : Int}
    (k : am_V M_X2_fewestWords 0 0 0 [aR 30, aR a2, aU, aU, aU, aU] [] (RM WM wd) h (fun v ρ' h' => am_V M_X10_isSound kc ks 66 [aR 0, aI x1, aU, aU] (v ++ [aI xs0]) ρ' h' Q X) X) :
    am_V M_X10_isSound kc ks 58 [aR 0, aI x1, aR a2, aU] [aI xs0] (RM WM wd) h Q X := by
  refine v_aload_n dX10_isSound_58 rfl rfl ?_
  refine v_getR (x := 30) dX10_isSound_59 fl_X10_64 am_clsA rfl rfl rfl ?_
  refine v_aload_n dX10_isSound_62 rfl rfl ?_
  refine v_weak (E2 := [aR 0, aI x1, aU, aU]) ⟨Or.inl rfl, ⟨Or.inl rfl, ⟨Or.inr rfl, ⟨Or.inl rfl, trivial⟩⟩⟩⟩ ?_
  exact v_callV (j := M_X2_fewestWords) (As := [aR a2]) (st := [aI xs0]) (E0 := [aR 30, aR a2, aU, aU, aU, aU]) (a := 30) (ci := 1) (N := 1) (q9 := (RX2, TX2, 1)) dX10_isSound_63 ml_X10_316 J_X2_fewestWords (Nat.zero_le _) (Nat.zero_le _) (Nat.le_of_ble_eq_true rfl) rfl (Nat.le_of_ble_eq_true rfl) (List.forall_mem_cons.mpr ⟨rfl, List.forall_mem_cons.mpr ⟨rfl, fun _ h9 => absurd h9 List.not_mem_nil⟩⟩) (Nat.le_of_ble_eq_true rfl) rfl rfl rfl rfl pn_X2_fewestWords rfl k
theorem S_X10_isSound_66 {kc ks : Nat} {h : Hh} {Q : PQ} {X : PX} {x1 : Int} {xs0 : Int} {xs1 : Int}
    (k : ((xs1 ≠ xs0 → Q [aI 0] (RM WM wd) h) ∧ (xs1 = xs0 → ((-2147483648 ≤ ((x1 + 1) : Int) ∧ ((x1 + 1) : Int) < 2147483648)) ∧ am_V M_X10_isSound kc ks 2 [aR 0, aI (x1 + 1), aU, aU] [] (RM WM wd) h Q X))) :
    am_V M_X10_isSound kc ks 66 [aR 0, aI x1, aU, aU] [aI xs0, aI xs1] (RM WM wd) h Q X := by
  refine v_icmp_ne (tgt := 73) dX10_isSound_66 (by decide) (fun z => ?_) (fun z => ?_)
  · have k := k.1 z
    refine v_iconst dX10_isSound_73 ⟨by decide, by decide⟩ ?_
    refine v_istore_n (E2 := [aR 0, aI x1, aU, aI 0]) dX10_isSound_74 rfl (Nat.le_of_ble_eq_true rfl) rfl ?_
    refine v_iload_n dX10_isSound_75 rfl rfl ?_
    refine v_if_ne (tgt := 81) dX10_isSound_76 (by decide) (fun z => absurd z (by decide)) (fun z => ?_)
    refine v_iconst dX10_isSound_79 ⟨by decide, by decide⟩ ?_
    exact v_zret dX10_isSound_80 rfl rfl (Or.inl rfl) k
  · have k := k.2 z
    refine v_iconst dX10_isSound_69 ⟨by decide, by decide⟩ ?_
    refine v_goto (tgt := 74) dX10_isSound_70 (by decide) ?_
    refine v_istore_n (E2 := [aR 0, aI x1, aU, aI 1]) dX10_isSound_74 rfl (Nat.le_of_ble_eq_true rfl) rfl ?_
    refine v_iload_n dX10_isSound_75 rfl rfl ?_
    refine v_if_ne (tgt := 81) dX10_isSound_76 (by decide) (fun z => ?_) (fun z => absurd z (by decide))
    obtain ⟨b2_1, k⟩ := k
    refine v_iinc (E2 := [aR 0, aI (x1 + 1), aU, aI 1]) dX10_isSound_81 rfl b2_1 rfl ?_
    refine v_goto (tgt := 2) dX10_isSound_84 (by decide) ?_
    refine v_weak (E2 := [aR 0, aI (x1 + 1), aU, aU]) ⟨Or.inl rfl, ⟨Or.inl rfl, ⟨Or.inl rfl, ⟨Or.inr rfl, trivial⟩⟩⟩⟩ ?_
    exact k
theorem S_X10_isLetter_0 {kc ks : Nat} {h : Hh} {Q : PQ} {X : PX} {x0 : Int}
    (k : ((x0 < 97 → Q [aI 0] (RM WM wd) h) ∧ (97 ≤ x0 → ((122 < x0 → Q [aI 0] (RM WM wd) h) ∧ (x0 ≤ 122 → Q [aI 1] (RM WM wd) h))))) :
    am_V M_X10_isLetter kc ks 0 [aI x0] [] (RM WM wd) h Q X := by
  refine v_iload_n dX10_isLetter_0 rfl rfl ?_
  refine v_bipush dX10_isLetter_1 (by decide) (by decide) ?_
  refine v_icmp_lt (tgt := 16) dX10_isLetter_3 (by decide) (fun z => ?_) (fun z => ?_)
  · have k := k.1 z
    refine v_iconst dX10_isLetter_16 ⟨by decide, by decide⟩ ?_
    exact v_zret dX10_isLetter_17 rfl rfl (Or.inl rfl) k
  · have k := k.2 z
    refine v_iload_n dX10_isLetter_6 rfl rfl ?_
    refine v_bipush dX10_isLetter_7 (by decide) (by decide) ?_
    refine v_icmp_gt (tgt := 16) dX10_isLetter_9 (by decide) (fun z => ?_) (fun z => ?_)
    · have k := k.1 z
      refine v_iconst dX10_isLetter_16 ⟨by decide, by decide⟩ ?_
      exact v_zret dX10_isLetter_17 rfl rfl (Or.inl rfl) k
    · have k := k.2 z
      refine v_iconst dX10_isLetter_12 ⟨by decide, by decide⟩ ?_
      refine v_goto (tgt := 17) dX10_isLetter_13 (by decide) ?_
      exact v_zret dX10_isLetter_17 rfl rfl (Or.inr rfl) k
theorem S_X10_isTypable_0 {kc ks : Nat} {h : Hh} {Q : PQ} {X : PX} {x0 : Int}
    (k : ((x0 = 36 → Q [aI 1] (RM WM wd) h) ∧ (x0 ≠ 36 → am_V M_X10_isLetter 0 0 0 [aI x0] [] (RM WM wd) h (fun v ρ' h' => am_V M_X10_isTypable kc ks 10 [aU] (v ++ []) ρ' h' Q X) X))) :
    am_V M_X10_isTypable kc ks 0 [aI x0] [] (RM WM wd) h Q X := by
  refine v_iload_n dX10_isTypable_0 rfl rfl ?_
  refine v_bipush dX10_isTypable_1 (by decide) (by decide) ?_
  refine v_icmp_eq (tgt := 13) dX10_isTypable_3 (by decide) (fun z => ?_) (fun z => ?_)
  · have k := k.1 z
    refine v_iconst dX10_isTypable_13 ⟨by decide, by decide⟩ ?_
    refine v_goto (tgt := 18) dX10_isTypable_14 (by decide) ?_
    exact v_zret dX10_isTypable_18 rfl rfl (Or.inr rfl) k
  · have k := k.2 z
    refine v_iload_n dX10_isTypable_6 rfl rfl ?_
    refine v_weak (E2 := [aU]) ⟨Or.inr rfl, trivial⟩ ?_
    exact v_callS (j := M_X10_isLetter) (As := [aI x0]) (st := []) (E0 := [aI x0]) dX10_isTypable_7 ms_X10_146 J_X10_isLetter (Nat.zero_le _) (Nat.zero_le _) (Nat.le_of_ble_eq_true rfl) rfl (Nat.le_of_ble_eq_true rfl) (List.forall_mem_cons.mpr ⟨rfl, fun _ h9 => absurd h9 List.not_mem_nil⟩) (Nat.le_of_ble_eq_true rfl) rfl pn_X10_isLetter rfl k
theorem S_X10_isTypable_10 {kc ks : Nat} {h : Hh} {Q : PQ} {X : PX} {xs0 : Int}
    (k : ((xs0 = 0 → Q [aI 0] (RM WM wd) h) ∧ (xs0 ≠ 0 → Q [aI 1] (RM WM wd) h))) :
    am_V M_X10_isTypable kc ks 10 [aU] [aI xs0] (RM WM wd) h Q X := by
  refine v_if_eq (tgt := 17) dX10_isTypable_10 (by decide) (fun z => ?_) (fun z => ?_)
  · have k := k.1 z
    refine v_iconst dX10_isTypable_17 ⟨by decide, by decide⟩ ?_
    exact v_zret dX10_isTypable_18 rfl rfl (Or.inl rfl) k
  · have k := k.2 z
    refine v_iconst dX10_isTypable_13 ⟨by decide, by decide⟩ ?_
    refine v_goto (tgt := 18) dX10_isTypable_14 (by decide) ?_
    exact v_zret dX10_isTypable_18 rfl rfl (Or.inr rfl) k
theorem S_X10_known_0 {kc ks : Nat} {h : Hh} {Q : PQ} {X : PX} {x1 : Int}
    (k : ((x1 < 0 → (1 ≤ kc ∧ 6 ≤ ks) ∧ X "java/lang/IndexOutOfBoundsException" (RM WM false) h) ∧ (0 ≤ x1 → ((x1 < (h 0 9) → ((0 : Int) ≤ x1 ∧ (x1 : Int) < 8) ∧ Q [aR (32 + 5 * (x1).toNat)] (RM WM wd) h) ∧ ((h 0 9) ≤ x1 → (1 ≤ kc ∧ 6 ≤ ks) ∧ X "java/lang/IndexOutOfBoundsException" (RM WM false) h))))) :
    am_V M_X10_known kc ks 0 [aR 0, aI x1] [] (RM WM wd) h Q X := by
  refine v_iload_n dX10_known_0 rfl rfl ?_
  refine v_if_lt (tgt := 12) dX10_known_1 (by decide) (fun z => ?_) (fun z => ?_)
  · have k := k.1 z
    obtain ⟨⟨b1_1, b1_2⟩, k⟩ := k
    exact v_throwW dX10_known_12 dX10_known_15 dX10_known_16 dX10_known_19 dX10_known_22 th_295_336_299 rfl rfl (by decide) (Nat.le_of_ble_eq_true rfl) b1_1 b1_2 k
  · have k := k.2 z
    refine v_iload_n dX10_known_4 rfl rfl ?_
    refine v_aload_n dX10_known_5 rfl rfl ?_
    refine v_getI (j := 9) dX10_known_6 fl_X10_235 am_clsA rfl rfl rfl ?_
    refine v_icmp_lt (tgt := 23) dX10_known_9 (by decide) (fun z => ?_) (fun z => ?_)
    · have k := k.1 z
      obtain ⟨⟨b2_1, b2_2⟩, k⟩ := k
      refine v_aload_n dX10_known_23 rfl rfl ?_
      refine v_getR (x := 1) dX10_known_24 fl_X10_11 am_clsA rfl rfl rfl ?_
      refine v_iload_n dX10_known_27 rfl rfl ?_
      refine v_aaldT (x := (32 + 5 * (x1).toNat)) dX10_known_28 rfl b2_1 b2_2 (r_shelf b2_1 b2_2) ?_
      exact v_aret dX10_known_29 rfl rfl k
    · have k := k.2 z
      obtain ⟨⟨b2_1, b2_2⟩, k⟩ := k
      exact v_throwW dX10_known_12 dX10_known_15 dX10_known_16 dX10_known_19 dX10_known_22 th_295_336_299 rfl rfl (by decide) (Nat.le_of_ble_eq_true rfl) b2_1 b2_2 k
theorem S_X10_knownWith_0 {kc ks : Nat} {h : Hh} {Q : PQ} {X : PX} {x1 : Int} {x2 : Int}
    (k : (1 ≤ kc ∧ 6 ≤ ks) ∧ am_V M_X10_known 1 6 0 [aR 0, aI x1] [] (RM WM wd) h (fun v ρ' h' => am_V M_X10_knownWith (kc - 1) (ks - 6) 5 [aU, aU, aI x2, aU] (v ++ []) ρ' h' Q X) X) :
    am_V M_X10_knownWith kc ks 0 [aR 0, aI x1, aI x2, aU] [] (RM WM wd) h Q X := by
  obtain ⟨⟨b0_1, b0_2⟩, k⟩ := k
  refine v_aload_n dX10_knownWith_0 rfl rfl ?_
  refine v_iload_n dX10_knownWith_1 rfl rfl ?_
  refine v_weak (E2 := [aU, aU, aI x2, aU]) ⟨Or.inr rfl, ⟨Or.inr rfl, ⟨Or.inl rfl, ⟨Or.inl rfl, trivial⟩⟩⟩⟩ ?_
  exact v_callV (j := M_X10_known) (As := [aI x1]) (st := []) (E0 := [aR 0, aI x1]) (a := 0) (ci := 8) (N := 10) (q9 := (RX10, TX10, 10)) dX10_knownWith_2 ml_X10_126 J_X10_known b0_1 b0_2 (Nat.le_of_ble_eq_true rfl) rfl (Nat.le_of_ble_eq_true rfl) (List.forall_mem_cons.mpr ⟨rfl, List.forall_mem_cons.mpr ⟨rfl, fun _ h9 => absurd h9 List.not_mem_nil⟩⟩) (Nat.le_of_ble_eq_true rfl) rfl rfl rfl rfl pn_X10_known rfl k
theorem S_X10_knownWith_5 {kc ks : Nat} {h : Hh} {Q : PQ} {X : PX} {x2 : Int} {as0 : Nat} (ts0 : isT as0)
    (k : ((x2 < 0 → (1 ≤ kc ∧ 6 ≤ ks) ∧ X "java/lang/IndexOutOfBoundsException" (RM WM false) h) ∧ (0 ≤ x2 → ((x2 < (h as0 4) → Q [aR as0] (RM WM wd) h) ∧ ((h as0 4) ≤ x2 → (1 ≤ kc ∧ 6 ≤ ks) ∧ X "java/lang/IndexOutOfBoundsException" (RM WM false) h))))) :
    am_V M_X10_knownWith kc ks 5 [aU, aU, aI x2, aU] [aR as0] (RM WM wd) h Q X := by
  refine v_astore_n (E2 := [aU, aU, aI x2, aR as0]) dX10_knownWith_5 rfl (Nat.le_of_ble_eq_true rfl) rfl ?_
  refine v_iload_n dX10_knownWith_6 rfl rfl ?_
  refine v_if_lt (tgt := 18) dX10_knownWith_7 (by decide) (fun z => ?_) (fun z => ?_)
  · have k := k.1 z
    obtain ⟨⟨b1_1, b1_2⟩, k⟩ := k
    exact v_throwW dX10_knownWith_18 dX10_knownWith_21 dX10_knownWith_22 dX10_knownWith_25 dX10_knownWith_28 th_295_338_299 rfl rfl (by decide) (Nat.le_of_ble_eq_true rfl) b1_1 b1_2 k
  · have k := k.2 z
    refine v_iload_n dX10_knownWith_10 rfl rfl ?_
    refine v_aload_n dX10_knownWith_11 rfl rfl ?_
    refine v_getI (j := 4) dX10_knownWith_12 fl_X10_131 am_clsA rfl rfl (tk0 ts0) ?_
    refine v_icmp_lt (tgt := 29) dX10_knownWith_15 (by decide) (fun z => ?_) (fun z => ?_)
    · have k := k.1 z
      refine v_aload_n dX10_knownWith_29 rfl rfl ?_
      exact v_aret dX10_knownWith_30 rfl rfl k
    · have k := k.2 z
      obtain ⟨⟨b2_1, b2_2⟩, k⟩ := k
      exact v_throwW dX10_knownWith_18 dX10_knownWith_21 dX10_knownWith_22 dX10_knownWith_25 dX10_knownWith_28 th_295_338_299 rfl rfl (by decide) (Nat.le_of_ble_eq_true rfl) b2_1 b2_2 k
theorem S_X10_knownWithRow_0 {kc ks : Nat} {h : Hh} {Q : PQ} {X : PX} {x1 : Int} {x2 : Int}
    (k : (1 ≤ kc ∧ 6 ≤ ks) ∧ am_V M_X10_known 1 6 0 [aR 0, aI x1] [] (RM WM wd) h (fun v ρ' h' => am_V M_X10_knownWithRow (kc - 1) (ks - 6) 5 [aU, aU, aI x2, aU] (v ++ []) ρ' h' Q X) X) :
    am_V M_X10_knownWithRow kc ks 0 [aR 0, aI x1, aI x2, aU] [] (RM WM wd) h Q X := by
  obtain ⟨⟨b0_1, b0_2⟩, k⟩ := k
  refine v_aload_n dX10_knownWithRow_0 rfl rfl ?_
  refine v_iload_n dX10_knownWithRow_1 rfl rfl ?_
  refine v_weak (E2 := [aU, aU, aI x2, aU]) ⟨Or.inr rfl, ⟨Or.inr rfl, ⟨Or.inl rfl, ⟨Or.inl rfl, trivial⟩⟩⟩⟩ ?_
  exact v_callV (j := M_X10_known) (As := [aI x1]) (st := []) (E0 := [aR 0, aI x1]) (a := 0) (ci := 8) (N := 10) (q9 := (RX10, TX10, 10)) dX10_knownWithRow_2 ml_X10_126 J_X10_known b0_1 b0_2 (Nat.le_of_ble_eq_true rfl) rfl (Nat.le_of_ble_eq_true rfl) (List.forall_mem_cons.mpr ⟨rfl, List.forall_mem_cons.mpr ⟨rfl, fun _ h9 => absurd h9 List.not_mem_nil⟩⟩) (Nat.le_of_ble_eq_true rfl) rfl rfl rfl rfl pn_X10_known rfl k
theorem S_X10_knownWithRow_5 {kc ks : Nat} {h : Hh} {Q : PQ} {X : PX} {x2 : Int} {as0 : Nat} (ts0 : isT as0)
    (k : ((x2 < 0 → (1 ≤ kc ∧ 6 ≤ ks) ∧ X "java/lang/IndexOutOfBoundsException" (RM WM false) h) ∧ (0 ≤ x2 → ((x2 ≤ (h as0 4) → Q [aR as0] (RM WM wd) h) ∧ ((h as0 4) < x2 → (1 ≤ kc ∧ 6 ≤ ks) ∧ X "java/lang/IndexOutOfBoundsException" (RM WM false) h))))) :
    am_V M_X10_knownWithRow kc ks 5 [aU, aU, aI x2, aU] [aR as0] (RM WM wd) h Q X := by
  refine v_astore_n (E2 := [aU, aU, aI x2, aR as0]) dX10_knownWithRow_5 rfl (Nat.le_of_ble_eq_true rfl) rfl ?_
  refine v_iload_n dX10_knownWithRow_6 rfl rfl ?_
  refine v_if_lt (tgt := 18) dX10_knownWithRow_7 (by decide) (fun z => ?_) (fun z => ?_)
  · have k := k.1 z
    obtain ⟨⟨b1_1, b1_2⟩, k⟩ := k
    exact v_throwW dX10_knownWithRow_18 dX10_knownWithRow_21 dX10_knownWithRow_22 dX10_knownWithRow_25 dX10_knownWithRow_28 th_295_340_299 rfl rfl (by decide) (Nat.le_of_ble_eq_true rfl) b1_1 b1_2 k
  · have k := k.2 z
    refine v_iload_n dX10_knownWithRow_10 rfl rfl ?_
    refine v_aload_n dX10_knownWithRow_11 rfl rfl ?_
    refine v_getI (j := 4) dX10_knownWithRow_12 fl_X10_131 am_clsA rfl rfl (tk0 ts0) ?_
    refine v_icmp_le (tgt := 29) dX10_knownWithRow_15 (by decide) (fun z => ?_) (fun z => ?_)
    · have k := k.1 z
      refine v_aload_n dX10_knownWithRow_29 rfl rfl ?_
      exact v_aret dX10_knownWithRow_30 rfl rfl k
    · have k := k.2 z
      obtain ⟨⟨b2_1, b2_2⟩, k⟩ := k
      exact v_throwW dX10_knownWithRow_18 dX10_knownWithRow_21 dX10_knownWithRow_22 dX10_knownWithRow_25 dX10_knownWithRow_28 th_295_340_299 rfl rfl (by decide) (Nat.le_of_ble_eq_true rfl) b2_1 b2_2 k
theorem S_X10_knownNotEmpty_0 {kc ks : Nat} {h : Hh} {Q : PQ} {X : PX} {x1 : Int}
    (k : (1 ≤ kc ∧ 6 ≤ ks) ∧ am_V M_X10_known 1 6 0 [aR 0, aI x1] [] (RM WM wd) h (fun v ρ' h' => am_V M_X10_knownNotEmpty (kc - 1) (ks - 6) 5 [aU, aU, aU] (v ++ []) ρ' h' Q X) X) :
    am_V M_X10_knownNotEmpty kc ks 0 [aR 0, aI x1, aU] [] (RM WM wd) h Q X := by
  obtain ⟨⟨b0_1, b0_2⟩, k⟩ := k
  refine v_aload_n dX10_knownNotEmpty_0 rfl rfl ?_
  refine v_iload_n dX10_knownNotEmpty_1 rfl rfl ?_
  refine v_weak (E2 := [aU, aU, aU]) ⟨Or.inr rfl, ⟨Or.inr rfl, ⟨Or.inl rfl, trivial⟩⟩⟩ ?_
  exact v_callV (j := M_X10_known) (As := [aI x1]) (st := []) (E0 := [aR 0, aI x1]) (a := 0) (ci := 8) (N := 10) (q9 := (RX10, TX10, 10)) dX10_knownNotEmpty_2 ml_X10_126 J_X10_known b0_1 b0_2 (Nat.le_of_ble_eq_true rfl) rfl (Nat.le_of_ble_eq_true rfl) (List.forall_mem_cons.mpr ⟨rfl, List.forall_mem_cons.mpr ⟨rfl, fun _ h9 => absurd h9 List.not_mem_nil⟩⟩) (Nat.le_of_ble_eq_true rfl) rfl rfl rfl rfl pn_X10_known rfl k
theorem S_X10_knownNotEmpty_5 {kc ks : Nat} {h : Hh} {Q : PQ} {X : PX} {as0 : Nat} (ts0 : isT as0)
    (k : (((h as0 4) ≠ 0 → Q [aR as0] (RM WM wd) h) ∧ ((h as0 4) = 0 → (1 ≤ kc ∧ 6 ≤ ks) ∧ X "java/util/NoSuchElementException" (RM WM false) h))) :
    am_V M_X10_knownNotEmpty kc ks 5 [aU, aU, aU] [aR as0] (RM WM wd) h Q X := by
  refine v_astore_n (E2 := [aU, aU, aR as0]) dX10_knownNotEmpty_5 rfl (Nat.le_of_ble_eq_true rfl) rfl ?_
  refine v_aload_n dX10_knownNotEmpty_6 rfl rfl ?_
  refine v_getI (j := 4) dX10_knownNotEmpty_7 fl_X10_131 am_clsA rfl rfl (tk0 ts0) ?_
  refine v_if_ne (tgt := 24) dX10_knownNotEmpty_10 (by decide) (fun z => ?_) (fun z => ?_)
  · have k := k.1 z
    refine v_aload_n dX10_knownNotEmpty_24 rfl rfl ?_
    exact v_aret dX10_knownNotEmpty_25 rfl rfl k
  · have k := k.2 z
    obtain ⟨⟨b1_1, b1_2⟩, k⟩ := k
    exact v_throwXW dX10_knownNotEmpty_13 dX10_knownNotEmpty_16 dX10_knownNotEmpty_17 dX10_knownNotEmpty_20 dX10_knownNotEmpty_23 th_97_321_101 rfl rfl (by decide) (Nat.le_of_ble_eq_true rfl) b1_1 b1_2 k
theorem S_X10_refuseClassSize_0 {kc ks : Nat} {h : Hh} {Q : PQ} {X : PX} {x1 : Int}
    (k : ((x1 < 1 → (1 ≤ kc ∧ 6 ≤ ks) ∧ X "java/lang/IllegalArgumentException" (RM WM false) h) ∧ (1 ≤ x1 → ((x1 ≤ 64 → Q [] (RM WM wd) h) ∧ (64 < x1 → (1 ≤ kc ∧ 6 ≤ ks) ∧ X "java/lang/IllegalArgumentException" (RM WM false) h))))) :
    am_V M_X10_refuseClassSize kc ks 0 [aR 0, aI x1] [] (RM WM wd) h Q X := by
  refine v_iload_n dX10_refuseClassSize_0 rfl rfl ?_
  refine v_iconst dX10_refuseClassSize_1 ⟨by decide, by decide⟩ ?_
  refine v_icmp_lt (tgt := 11) dX10_refuseClassSize_2 (by decide) (fun z => ?_) (fun z => ?_)
  · have k := k.1 z
    obtain ⟨⟨b1_1, b1_2⟩, k⟩ := k
    exact v_throwW dX10_refuseClassSize_11 dX10_refuseClassSize_14 dX10_refuseClassSize_15 dX10_refuseClassSize_18 dX10_refuseClassSize_21 th_73_344_77 rfl rfl (by decide) (Nat.le_of_ble_eq_true rfl) b1_1 b1_2 k
  · have k := k.2 z
    refine v_iload_n dX10_refuseClassSize_5 rfl rfl ?_
    refine v_bipush dX10_refuseClassSize_6 (by decide) (by decide) ?_
    refine v_icmp_le (tgt := 22) dX10_refuseClassSize_8 (by decide) (fun z => ?_) (fun z => ?_)
    · have k := k.1 z
      exact v_vret dX10_refuseClassSize_22 rfl rfl k
    · have k := k.2 z
      obtain ⟨⟨b2_1, b2_2⟩, k⟩ := k
      exact v_throwW dX10_refuseClassSize_11 dX10_refuseClassSize_14 dX10_refuseClassSize_15 dX10_refuseClassSize_18 dX10_refuseClassSize_21 th_73_344_77 rfl rfl (by decide) (Nat.le_of_ble_eq_true rfl) b2_1 b2_2 k
theorem S_X10_refuseNoWord_0 {kc ks : Nat} {h : Hh} {Q : PQ} {X : PX} 
    (k : (((h 2 1) = 0 → (1 ≤ kc ∧ 6 ≤ ks) ∧ X "java/lang/UnsupportedOperationException" (RM WM false) h) ∧ ((h 2 1) ≠ 0 → am_V M_X8_hasEndSign 0 0 0 [aR 2, aU] [] (RM WM wd) h (fun v ρ' h' => am_V M_X10_refuseNoWord kc ks 17 [aU] (v ++ []) ρ' h' Q X) X))) :
    am_V M_X10_refuseNoWord kc ks 0 [aR 0] [] (RM WM wd) h Q X := by
  refine v_aload_n dX10_refuseNoWord_0 rfl rfl ?_
  refine v_getR (x := 2) dX10_refuseNoWord_1 fl_X10_18 am_clsA rfl rfl rfl ?_
  refine v_getI (j := 1) dX10_refuseNoWord_4 fl_X10_80 am_clsA rfl rfl rfl ?_
  refine v_if_eq (tgt := 20) dX10_refuseNoWord_7 (by decide) (fun z => ?_) (fun z => ?_)
  · have k := k.1 z
    obtain ⟨⟨b1_1, b1_2⟩, k⟩ := k
    exact v_throwW dX10_refuseNoWord_20 dX10_refuseNoWord_23 dX10_refuseNoWord_24 dX10_refuseNoWord_27 dX10_refuseNoWord_30 th_109_346_113 rfl rfl (by decide) (Nat.le_of_ble_eq_true rfl) b1_1 b1_2 k
  · have k := k.2 z
    refine v_aload_n dX10_refuseNoWord_10 rfl rfl ?_
    refine v_getR (x := 2) dX10_refuseNoWord_11 fl_X10_18 am_clsA rfl rfl rfl ?_
    refine v_weak (E2 := [aU]) ⟨Or.inr rfl, trivial⟩ ?_
    exact v_callV (j := M_X8_hasEndSign) (As := []) (st := []) (E0 := [aR 2, aU]) (a := 2) (ci := 6) (N := 2) (q9 := (RX8, TX8, 2)) dX10_refuseNoWord_14 ml_X10_105 J_X8_hasEndSign (Nat.zero_le _) (Nat.zero_le _) (Nat.le_of_ble_eq_true rfl) rfl (Nat.le_of_ble_eq_true rfl) (List.forall_mem_cons.mpr ⟨rfl, fun _ h9 => absurd h9 List.not_mem_nil⟩) (Nat.le_of_ble_eq_true rfl) rfl rfl rfl rfl pn_X8_hasEndSign rfl k
theorem S_X10_refuseNoWord_17 {kc ks : Nat} {h : Hh} {Q : PQ} {X : PX} {xs0 : Int}
    (k : ((xs0 = 0 → Q [] (RM WM wd) h) ∧ (xs0 ≠ 0 → (1 ≤ kc ∧ 6 ≤ ks) ∧ X "java/lang/UnsupportedOperationException" (RM WM false) h))) :
    am_V M_X10_refuseNoWord kc ks 17 [aU] [aI xs0] (RM WM wd) h Q X := by
  refine v_if_eq (tgt := 31) dX10_refuseNoWord_17 (by decide) (fun z => ?_) (fun z => ?_)
  · have k := k.1 z
    exact v_vret dX10_refuseNoWord_31 rfl rfl k
  · have k := k.2 z
    obtain ⟨⟨b1_1, b1_2⟩, k⟩ := k
    exact v_throwW dX10_refuseNoWord_20 dX10_refuseNoWord_23 dX10_refuseNoWord_24 dX10_refuseNoWord_27 dX10_refuseNoWord_30 th_109_346_113 rfl rfl (by decide) (Nat.le_of_ble_eq_true rfl) b1_1 b1_2 k
theorem S_X10_leastRank_0 {kc ks : Nat} {h : Hh} {Q : PQ} {X : PX} {a1 : Nat} (t1 : isT a1)
    (k : am_V M_X6_endsBelow 0 0 0 [aR a1, aR 2, aI 0] [] (RM WM wd) h (fun v ρ' h' => am_V M_X10_leastRank kc ks 9 [aR 0, aR a1, aU] (v ++ []) ρ' h' Q X) X) :
    am_V M_X10_leastRank kc ks 0 [aR 0, aR a1, aU] [] (RM WM wd) h Q X := by
  refine v_aload_n dX10_leastRank_0 rfl rfl ?_
  refine v_aload_n dX10_leastRank_1 rfl rfl ?_
  refine v_getR (x := 2) dX10_leastRank_2 fl_X10_18 am_clsA rfl rfl rfl ?_
  refine v_iconst dX10_leastRank_5 ⟨by decide, by decide⟩ ?_
  exact v_callV (j := M_X6_endsBelow) (As := [aR 2, aI 0]) (st := []) (E0 := [aR a1, aR 2, aI 0]) (a := a1) (ci := 4) (N := 5) (q9 := (RX6, TX6, 5)) dX10_leastRank_6 ml_X10_199 J_X6_endsBelow (Nat.zero_le _) (Nat.zero_le _) (Nat.le_of_ble_eq_true rfl) rfl (Nat.le_of_ble_eq_true rfl) (List.forall_mem_cons.mpr ⟨rfl, List.forall_mem_cons.mpr ⟨rfl, List.forall_mem_cons.mpr ⟨rfl, fun _ h9 => absurd h9 List.not_mem_nil⟩⟩⟩) (Nat.le_of_ble_eq_true rfl) rfl (tk0 t1) rfl rfl pn_X6_endsBelow rfl k
theorem S_X10_leastRank_9 {kc ks : Nat} {h : Hh} {Q : PQ} {X : PX} {a1 : Nat} (t1 : isT a1) {xs0 : Int}
    (k : am_V M_X6_endsUpTo 0 0 0 [aR a1, aR 2, aI 0] [] (RM WM wd) h (fun v ρ' h' => am_V M_X10_leastRank kc ks 20 [aU, aU, aI xs0] (v ++ [aI xs0]) ρ' h' Q X) X) :
    am_V M_X10_leastRank kc ks 9 [aR 0, aR a1, aU] [aI xs0] (RM WM wd) h Q X := by
  refine v_istore_n (E2 := [aR 0, aR a1, aI xs0]) dX10_leastRank_9 rfl (Nat.le_of_ble_eq_true rfl) rfl ?_
  refine v_iload_n dX10_leastRank_10 rfl rfl ?_
  refine v_aload_n dX10_leastRank_11 rfl rfl ?_
  refine v_aload_n dX10_leastRank_12 rfl rfl ?_
  refine v_getR (x := 2) dX10_leastRank_13 fl_X10_18 am_clsA rfl rfl rfl ?_
  refine v_iconst dX10_leastRank_16 ⟨by decide, by decide⟩ ?_
  refine v_weak (E2 := [aU, aU, aI xs0]) ⟨Or.inr rfl, ⟨Or.inr rfl, ⟨Or.inl rfl, trivial⟩⟩⟩ ?_
  exact v_callV (j := M_X6_endsUpTo) (As := [aR 2, aI 0]) (st := [aI xs0]) (E0 := [aR a1, aR 2, aI 0]) (a := a1) (ci := 4) (N := 5) (q9 := (RX6, TX6, 5)) dX10_leastRank_17 ml_X10_195 J_X6_endsUpTo (Nat.zero_le _) (Nat.zero_le _) (Nat.le_of_ble_eq_true rfl) rfl (Nat.le_of_ble_eq_true rfl) (List.forall_mem_cons.mpr ⟨rfl, List.forall_mem_cons.mpr ⟨rfl, List.forall_mem_cons.mpr ⟨rfl, fun _ h9 => absurd h9 List.not_mem_nil⟩⟩⟩) (Nat.le_of_ble_eq_true rfl) rfl (tk0 t1) rfl rfl pn_X6_endsUpTo rfl k
theorem S_X10_leastRank_20 {kc ks : Nat} {h : Hh} {Q : PQ} {X : PX} {x2 : Int} {xs0 : Int} {xs1 : Int}
    (k : ((xs1 < xs0 → Q [aI x2] (RM WM wd) h) ∧ (xs0 ≤ xs1 → (1 ≤ kc ∧ 6 ≤ ks) ∧ X "java/util/NoSuchElementException" (RM WM false) h))) :
    am_V M_X10_leastRank kc ks 20 [aU, aU, aI x2] [aI xs0, aI xs1] (RM WM wd) h Q X := by
  refine v_icmp_lt (tgt := 34) dX10_leastRank_20 (by decide) (fun z => ?_) (fun z => ?_)
  · have k := k.1 z
    refine v_iload_n dX10_leastRank_34 rfl rfl ?_
    exact v_iret dX10_leastRank_35 rfl rfl k
  · have k := k.2 z
    obtain ⟨⟨b1_1, b1_2⟩, k⟩ := k
    exact v_throwXW dX10_leastRank_23 dX10_leastRank_26 dX10_leastRank_27 dX10_leastRank_30 dX10_leastRank_33 th_97_348_101 rfl rfl (by decide) (Nat.le_of_ble_eq_true rfl) b1_1 b1_2 k
theorem S_X10_freshText_0 {kc ks : Nat} {h : Hh} {Q : PQ} {X : PX} 
    (k : (((h 0 9) < 8 → ((0 : Int) ≤ (h 0 9) ∧ ((h 0 9) : Int) < 8) ∧ Q [aR (32 + 5 * ((h 0 9)).toNat)] (RM WM wd) h) ∧ (8 ≤ (h 0 9) → (1 ≤ kc ∧ 6 ≤ ks) ∧ X "java/lang/IllegalStateException" (RM WM false) h))) :
    am_V M_X10_freshText kc ks 0 [aR 0] [] (RM WM wd) h Q X := by
  refine v_aload_n dX10_freshText_0 rfl rfl ?_
  refine v_getI (j := 9) dX10_freshText_1 fl_X10_235 am_clsA rfl rfl rfl ?_
  refine v_bipush dX10_freshText_4 (by decide) (by decide) ?_
  refine v_icmp_lt (tgt := 20) dX10_freshText_6 (by decide) (fun z => ?_) (fun z => ?_)
  · have k := k.1 z
    obtain ⟨⟨b1_1, b1_2⟩, k⟩ := k
    refine v_aload_n dX10_freshText_20 rfl rfl ?_
    refine v_getR (x := 1) dX10_freshText_21 fl_X10_11 am_clsA rfl rfl rfl ?_
    refine v_aload_n dX10_freshText_24 rfl rfl ?_
    refine v_getI (j := 9) dX10_freshText_25 fl_X10_235 am_clsA rfl rfl rfl ?_
    refine v_aaldT (x := (32 + 5 * ((h 0 9)).toNat)) dX10_freshText_28 rfl b1_1 b1_2 (r_shelf b1_1 b1_2) ?_
    exact v_aret dX10_freshText_29 rfl rfl k
  · have k := k.2 z
    obtain ⟨⟨b1_1, b1_2⟩, k⟩ := k
    exact v_throwW dX10_freshText_9 dX10_freshText_12 dX10_freshText_13 dX10_freshText_16 dX10_freshText_19 th_84_350_88 rfl rfl (by decide) (Nat.le_of_ble_eq_true rfl) b1_1 b1_2 k
theorem S_X10_keep_0 {kc ks : Nat} {h : Hh} {Q : PQ} {X : PX} {a1 : Nat} (t1 : isT a1)
    (k : am_V M_X1_sortEnds 0 0 0 [aR 5, aR a1, aU, aU] [] (RM WM wd) h (fun v ρ' h' => am_V M_X10_keep kc ks 8 [aR 0, aU] (v ++ []) ρ' h' Q X) X) :
    am_V M_X10_keep kc ks 0 [aR 0, aR a1] [] (RM WM wd) h Q X := by
  refine v_aload_n dX10_keep_0 rfl rfl ?_
  refine v_getR (x := 5) dX10_keep_1 fl_X10_29 am_clsA rfl rfl rfl ?_
  refine v_aload_n dX10_keep_4 rfl rfl ?_
  refine v_weak (E2 := [aR 0, aU]) ⟨Or.inl rfl, ⟨Or.inr rfl, trivial⟩⟩ ?_
  exact v_callV (j := M_X1_sortEnds) (As := [aR a1]) (st := []) (E0 := [aR 5, aR a1, aU, aU]) (a := 5) (ci := 0) (N := 3) (q9 := (RX1, TX1, 3)) dX10_keep_5 ml_X10_149 J_X1_sortEnds (Nat.zero_le _) (Nat.zero_le _) (Nat.le_of_ble_eq_true rfl) rfl (Nat.le_of_ble_eq_true rfl) (List.forall_mem_cons.mpr ⟨rfl, List.forall_mem_cons.mpr ⟨rfl, fun _ h9 => absurd h9 List.not_mem_nil⟩⟩) (Nat.le_of_ble_eq_true rfl) rfl rfl rfl rfl pn_X1_sortEnds rfl k
theorem S_X10_keep_8 {kc ks : Nat} {h : Hh} {Q : PQ} {X : PX} 
    (k : ((-2147483648 ≤ (((h 0 9) + 1) : Int) ∧ (((h 0 9) + 1) : Int) < 2147483648) ∧ (-2147483648 ≤ ((((am_st h 0 9 ((h 0 9) + 1)) 0 9) - 1) : Int) ∧ ((((am_st h 0 9 ((h 0 9) + 1)) 0 9) - 1) : Int) < 2147483648)) ∧ Q [aI (((am_st h 0 9 ((h 0 9) + 1)) 0 9) - 1)] (RM WM wd) (am_st h 0 9 ((h 0 9) + 1))) :
    am_V M_X10_keep kc ks 8 [aR 0, aU] [] (RM WM wd) h Q X := by
  obtain ⟨⟨b0_1, b0_2⟩, k⟩ := k
  refine v_aload_n dX10_keep_8 rfl rfl ?_
  refine v_dupR dX10_keep_9 ?_
  refine v_getI (j := 9) dX10_keep_10 fl_X10_235 am_clsA rfl rfl rfl ?_
  refine v_iconst dX10_keep_13 ⟨by decide, by decide⟩ ?_
  refine v_iadd dX10_keep_14 b0_1 ?_
  refine v_putI (j := 9) dX10_keep_15 pl_X10_235 am_clsA rfl rfl rfl ?_
  refine v_aload_n dX10_keep_18 rfl rfl ?_
  refine v_getI (j := 9) dX10_keep_19 fl_X10_235 am_clsA rfl rfl rfl ?_
  refine v_iconst dX10_keep_22 ⟨by decide, by decide⟩ ?_
  refine v_isub dX10_keep_23 b0_2 ?_
  exact v_iret dX10_keep_24 rfl rfl k
