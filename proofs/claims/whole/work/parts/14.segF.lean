theorem S_X11_thrown_0 {kc ks : Nat} {h : Hh} {Q : PQ} {X : PX} 
    (k : Q [aI (h 72 10)] am_R0 h) :
    am_V M_X11_thrown kc ks 0 [aR 72] [] am_R0 h Q X := by
  refine v_aload_n dX11_thrown_0 rfl rfl ?_
  refine v_getI (j := 10) dX11_thrown_1 fl_X11_35 am_clsA rfl rfl rfl ?_
  exact v_iret dX11_thrown_4 rfl rfl k
theorem S_X11_type_0 {kc ks : Nat} {h : Hh} {Q : PQ} {X : PX} {x1 : Int}
    (k : am_V M_X11_isLetter 0 0 0 [aI x1] [] am_R0 h (fun v ρ' h' => am_V M_X11_type kc ks 5 [aR 72, aI x1] (v ++ [aR 72]) ρ' h' Q X) X) :
    am_V M_X11_type kc ks 0 [aR 72, aI x1] [] am_R0 h Q X := by
  refine v_aload_n dX11_type_0 rfl rfl ?_
  refine v_iload_n dX11_type_1 rfl rfl ?_
  exact v_callS (j := M_X11_isLetter) (As := [aI x1]) (st := [aR 72]) (E0 := [aI x1]) dX11_type_2 ms_X11_50 J_X11_isLetter (Nat.zero_le _) (Nat.zero_le _) (Nat.le_of_ble_eq_true rfl) rfl (Nat.le_of_ble_eq_true rfl) (List.forall_mem_cons.mpr ⟨rfl, fun _ h9 => absurd h9 List.not_mem_nil⟩) (Nat.le_of_ble_eq_true rfl) rfl pn_X11_isLetter rfl k
theorem S_X11_type_5 {kc ks : Nat} {h : Hh} {Q : PQ} {X : PX} {x1 : Int} {xs0 : Int}
    (k : ((xs0 ≠ 0 → (((h 72 9) ≠ 65 → am_V M_X11_isWrong 0 0 0 [aR 72, aI 0] [] am_R0 h (fun v ρ' h' => am_V M_X11_type kc ks 35 [aR 72, aI x1] (v ++ []) ρ' h' Q X) X) ∧ ((h 72 9) = 65 → am_V M_X11_isWrong 0 0 0 [aR 72, aI 2] [] am_R0 h (fun v ρ' h' => am_V M_X11_type kc ks 35 [aR 72, aI x1] (v ++ []) ρ' h' Q X) X))) ∧ (xs0 = 0 → ((x1 = 36 → (((h 72 9) ≠ 65 → am_V M_X11_isWrong 0 0 0 [aR 72, aI 0] [] am_R0 h (fun v ρ' h' => am_V M_X11_type kc ks 35 [aR 72, aI x1] (v ++ []) ρ' h' Q X) X) ∧ ((h 72 9) = 65 → am_V M_X11_isWrong 0 0 0 [aR 72, aI 2] [] am_R0 h (fun v ρ' h' => am_V M_X11_type kc ks 35 [aR 72, aI x1] (v ++ []) ρ' h' Q X) X))) ∧ (x1 ≠ 36 → am_V M_X11_isWrong 0 0 0 [aR 72, aI 1] [] am_R0 h (fun v ρ' h' => am_V M_X11_type kc ks 35 [aR 72, aI x1] (v ++ []) ρ' h' Q X) X))))) :
    am_V M_X11_type kc ks 5 [aR 72, aI x1] [aI xs0, aR 72] am_R0 h Q X := by
  refine v_if_ne (tgt := 18) dX11_type_5 (by decide) (fun z => ?_) (fun z => ?_)
  · have k := k.1 z
    refine v_aload_n dX11_type_18 rfl rfl ?_
    refine v_getI (j := 9) dX11_type_19 fl_X11_54 am_clsA rfl rfl rfl ?_
    refine v_bipush dX11_type_22 (by decide) (by decide) ?_
    refine v_icmp_ne (tgt := 31) dX11_type_24 (by decide) (fun z => ?_) (fun z => ?_)
    · have k := k.1 z
      refine v_iconst dX11_type_31 ⟨by decide, by decide⟩ ?_
      exact v_callV (j := M_X11_isWrong) (As := [aI 0]) (st := []) (E0 := [aR 72, aI 0]) (a := 72) (ci := 9) (N := 11) (q9 := (RX11, TX11, 11)) dX11_type_32 ml_X11_57 J_X11_isWrong (Nat.zero_le _) (Nat.zero_le _) (Nat.le_of_ble_eq_true rfl) rfl (Nat.le_of_ble_eq_true rfl) (List.forall_mem_cons.mpr ⟨rfl, List.forall_mem_cons.mpr ⟨rfl, fun _ h9 => absurd h9 List.not_mem_nil⟩⟩) (Nat.le_of_ble_eq_true rfl) rfl rfl rfl rfl pn_X11_isWrong rfl k
    · have k := k.2 z
      refine v_iconst dX11_type_27 ⟨by decide, by decide⟩ ?_
      refine v_goto (tgt := 32) dX11_type_28 (by decide) ?_
      exact v_callV (j := M_X11_isWrong) (As := [aI 2]) (st := []) (E0 := [aR 72, aI 2]) (a := 72) (ci := 9) (N := 11) (q9 := (RX11, TX11, 11)) dX11_type_32 ml_X11_57 J_X11_isWrong (Nat.zero_le _) (Nat.zero_le _) (Nat.le_of_ble_eq_true rfl) rfl (Nat.le_of_ble_eq_true rfl) (List.forall_mem_cons.mpr ⟨rfl, List.forall_mem_cons.mpr ⟨rfl, fun _ h9 => absurd h9 List.not_mem_nil⟩⟩) (Nat.le_of_ble_eq_true rfl) rfl rfl rfl rfl pn_X11_isWrong rfl k
  · have k := k.2 z
    refine v_iload_n dX11_type_8 rfl rfl ?_
    refine v_bipush dX11_type_9 (by decide) (by decide) ?_
    refine v_icmp_eq (tgt := 18) dX11_type_11 (by decide) (fun z => ?_) (fun z => ?_)
    · have k := k.1 z
      refine v_aload_n dX11_type_18 rfl rfl ?_
      refine v_getI (j := 9) dX11_type_19 fl_X11_54 am_clsA rfl rfl rfl ?_
      refine v_bipush dX11_type_22 (by decide) (by decide) ?_
      refine v_icmp_ne (tgt := 31) dX11_type_24 (by decide) (fun z => ?_) (fun z => ?_)
      · have k := k.1 z
        refine v_iconst dX11_type_31 ⟨by decide, by decide⟩ ?_
        exact v_callV (j := M_X11_isWrong) (As := [aI 0]) (st := []) (E0 := [aR 72, aI 0]) (a := 72) (ci := 9) (N := 11) (q9 := (RX11, TX11, 11)) dX11_type_32 ml_X11_57 J_X11_isWrong (Nat.zero_le _) (Nat.zero_le _) (Nat.le_of_ble_eq_true rfl) rfl (Nat.le_of_ble_eq_true rfl) (List.forall_mem_cons.mpr ⟨rfl, List.forall_mem_cons.mpr ⟨rfl, fun _ h9 => absurd h9 List.not_mem_nil⟩⟩) (Nat.le_of_ble_eq_true rfl) rfl rfl rfl rfl pn_X11_isWrong rfl k
      · have k := k.2 z
        refine v_iconst dX11_type_27 ⟨by decide, by decide⟩ ?_
        refine v_goto (tgt := 32) dX11_type_28 (by decide) ?_
        exact v_callV (j := M_X11_isWrong) (As := [aI 2]) (st := []) (E0 := [aR 72, aI 2]) (a := 72) (ci := 9) (N := 11) (q9 := (RX11, TX11, 11)) dX11_type_32 ml_X11_57 J_X11_isWrong (Nat.zero_le _) (Nat.zero_le _) (Nat.le_of_ble_eq_true rfl) rfl (Nat.le_of_ble_eq_true rfl) (List.forall_mem_cons.mpr ⟨rfl, List.forall_mem_cons.mpr ⟨rfl, fun _ h9 => absurd h9 List.not_mem_nil⟩⟩) (Nat.le_of_ble_eq_true rfl) rfl rfl rfl rfl pn_X11_isWrong rfl k
    · have k := k.2 z
      refine v_iconst dX11_type_14 ⟨by decide, by decide⟩ ?_
      refine v_goto (tgt := 32) dX11_type_15 (by decide) ?_
      exact v_callV (j := M_X11_isWrong) (As := [aI 1]) (st := []) (E0 := [aR 72, aI 1]) (a := 72) (ci := 9) (N := 11) (q9 := (RX11, TX11, 11)) dX11_type_32 ml_X11_57 J_X11_isWrong (Nat.zero_le _) (Nat.zero_le _) (Nat.le_of_ble_eq_true rfl) rfl (Nat.le_of_ble_eq_true rfl) (List.forall_mem_cons.mpr ⟨rfl, List.forall_mem_cons.mpr ⟨rfl, fun _ h9 => absurd h9 List.not_mem_nil⟩⟩) (Nat.le_of_ble_eq_true rfl) rfl rfl rfl rfl pn_X11_isWrong rfl k
theorem S_X11_type_35 {kc ks : Nat} {h : Hh} {Q : PQ} {X : PX} {x1 : Int} {xs0 : Int}
    (k : ((xs0 = 0 → ((0 : Int) ≤ (h 72 9) ∧ ((h 72 9) : Int) < 65 ∧ (-2147483648 ≤ ((((am_st h 75 (h 72 9) (x1 % 65536)) 72 9) + 1) : Int) ∧ ((((am_st h 75 (h 72 9) (x1 % 65536)) 72 9) + 1) : Int) < 2147483648)) ∧ Q [aI ((am_st (am_st h 75 (h 72 9) (x1 % 65536)) 72 9 (((am_st h 75 (h 72 9) (x1 % 65536)) 72 9) + 1)) 72 9)] am_R0 (am_st (am_st h 75 (h 72 9) (x1 % 65536)) 72 9 (((am_st h 75 (h 72 9) (x1 % 65536)) 72 9) + 1))) ∧ (xs0 ≠ 0 → Q [aI 0] am_R0 h))) :
    am_V M_X11_type kc ks 35 [aR 72, aI x1] [aI xs0] am_R0 h Q X := by
  refine v_if_eq (tgt := 40) dX11_type_35 (by decide) (fun z => ?_) (fun z => ?_)
  · have k := k.1 z
    obtain ⟨⟨b1_1, b1_2, b1_3⟩, k⟩ := k
    refine v_aload_n dX11_type_40 rfl rfl ?_
    refine v_getR (x := 75) dX11_type_41 fl_X11_17 am_clsA rfl rfl rfl ?_
    refine v_aload_n dX11_type_44 rfl rfl ?_
    refine v_getI (j := 9) dX11_type_45 fl_X11_54 am_clsA rfl rfl rfl ?_
    refine v_iload_n dX11_type_48 rfl rfl ?_
    refine v_cast dX11_type_49 rfl b1_1 b1_2 ?_
    refine v_aload_n dX11_type_50 rfl rfl ?_
    refine v_dupR dX11_type_51 ?_
    refine v_getI (j := 9) dX11_type_52 fl_X11_54 am_clsA rfl rfl rfl ?_
    refine v_iconst dX11_type_55 ⟨by decide, by decide⟩ ?_
    refine v_iadd dX11_type_56 b1_3 ?_
    refine v_putI (j := 9) dX11_type_57 pl_X11_54 am_clsA rfl rfl rfl ?_
    refine v_aload_n dX11_type_60 rfl rfl ?_
    refine v_getI (j := 9) dX11_type_61 fl_X11_54 am_clsA rfl rfl rfl ?_
    exact v_iret dX11_type_64 rfl rfl k
  · have k := k.2 z
    refine v_iconst dX11_type_38 ⟨by decide, by decide⟩ ?_
    exact v_iret dX11_type_39 rfl rfl k
theorem S_X11_of_0 {kc ks : Nat} {h : Hh} {Q : PQ} {X : PX} {x0 : Int} {x1 : Int} {x2 : Int} {x3 : Int} {x4 : Int} {x5 : Int} {x6 : Int} {x7 : Int} {x8 : Int}
    (k : ((4 ≤ x0 → ((x0 ≠ 4 → ((x0 ≠ 5 → ((x0 ≠ 6 → ((0 : Int) ≤ x8 ∧ (x8 : Int) < 65536) ∧ Q [aI x8] am_R0 h) ∧ (x0 = 6 → ((0 : Int) ≤ x7 ∧ (x7 : Int) < 65536) ∧ Q [aI x7] am_R0 h))) ∧ (x0 = 5 → ((0 : Int) ≤ x6 ∧ (x6 : Int) < 65536) ∧ Q [aI x6] am_R0 h))) ∧ (x0 = 4 → ((0 : Int) ≤ x5 ∧ (x5 : Int) < 65536) ∧ Q [aI x5] am_R0 h))) ∧ (x0 < 4 → ((x0 ≠ 0 → ((x0 ≠ 1 → ((x0 ≠ 2 → ((0 : Int) ≤ x4 ∧ (x4 : Int) < 65536) ∧ Q [aI x4] am_R0 h) ∧ (x0 = 2 → ((0 : Int) ≤ x3 ∧ (x3 : Int) < 65536) ∧ Q [aI x3] am_R0 h))) ∧ (x0 = 1 → ((0 : Int) ≤ x2 ∧ (x2 : Int) < 65536) ∧ Q [aI x2] am_R0 h))) ∧ (x0 = 0 → ((0 : Int) ≤ x1 ∧ (x1 : Int) < 65536) ∧ Q [aI x1] am_R0 h))))) :
    am_V M_X11_of kc ks 0 [aI x0, aI x1, aI x2, aI x3, aI x4, aI x5, aI x6, aI x7, aI x8] [] am_R0 h Q X := by
  refine v_iload_n dX11_of_0 rfl rfl ?_
  refine v_iconst dX11_of_1 ⟨by decide, by decide⟩ ?_
  refine v_icmp_ge (tgt := 34) dX11_of_2 (by decide) (fun z => ?_) (fun z => ?_)
  · have k := k.1 z
    refine v_iload_n dX11_of_34 rfl rfl ?_
    refine v_iconst dX11_of_35 ⟨by decide, by decide⟩ ?_
    refine v_icmp_ne (tgt := 44) dX11_of_36 (by decide) (fun z => ?_) (fun z => ?_)
    · have k := k.1 z
      refine v_iload_n dX11_of_44 rfl rfl ?_
      refine v_iconst dX11_of_45 ⟨by decide, by decide⟩ ?_
      refine v_icmp_ne (tgt := 54) dX11_of_46 (by decide) (fun z => ?_) (fun z => ?_)
      · have k := k.1 z
        refine v_iload_n dX11_of_54 rfl rfl ?_
        refine v_bipush dX11_of_55 (by decide) (by decide) ?_
        refine v_icmp_ne (tgt := 65) dX11_of_57 (by decide) (fun z => ?_) (fun z => ?_)
        · have k := k.1 z
          obtain ⟨⟨b4_1, b4_2⟩, k⟩ := k
          refine v_iload dX11_of_65 rfl ?_
          exact v_cret dX11_of_67 rfl rfl b4_1 b4_2 k
        · have k := k.2 z
          obtain ⟨⟨b4_1, b4_2⟩, k⟩ := k
          refine v_iload dX11_of_60 rfl ?_
          refine v_goto (tgt := 67) dX11_of_62 (by decide) ?_
          exact v_cret dX11_of_67 rfl rfl b4_1 b4_2 k
      · have k := k.2 z
        obtain ⟨⟨b3_1, b3_2⟩, k⟩ := k
        refine v_iload dX11_of_49 rfl ?_
        refine v_goto (tgt := 67) dX11_of_51 (by decide) ?_
        exact v_cret dX11_of_67 rfl rfl b3_1 b3_2 k
    · have k := k.2 z
      obtain ⟨⟨b2_1, b2_2⟩, k⟩ := k
      refine v_iload dX11_of_39 rfl ?_
      refine v_goto (tgt := 67) dX11_of_41 (by decide) ?_
      exact v_cret dX11_of_67 rfl rfl b2_1 b2_2 k
  · have k := k.2 z
    refine v_iload_n dX11_of_5 rfl rfl ?_
    refine v_if_ne (tgt := 13) dX11_of_6 (by decide) (fun z => ?_) (fun z => ?_)
    · have k := k.1 z
      refine v_iload_n dX11_of_13 rfl rfl ?_
      refine v_iconst dX11_of_14 ⟨by decide, by decide⟩ ?_
      refine v_icmp_ne (tgt := 22) dX11_of_15 (by decide) (fun z => ?_) (fun z => ?_)
      · have k := k.1 z
        refine v_iload_n dX11_of_22 rfl rfl ?_
        refine v_iconst dX11_of_23 ⟨by decide, by decide⟩ ?_
        refine v_icmp_ne (tgt := 31) dX11_of_24 (by decide) (fun z => ?_) (fun z => ?_)
        · have k := k.1 z
          obtain ⟨⟨b4_1, b4_2⟩, k⟩ := k
          refine v_iload dX11_of_31 rfl ?_
          exact v_cret dX11_of_33 rfl rfl b4_1 b4_2 k
        · have k := k.2 z
          obtain ⟨⟨b4_1, b4_2⟩, k⟩ := k
          refine v_iload_n dX11_of_27 rfl rfl ?_
          refine v_goto (tgt := 33) dX11_of_28 (by decide) ?_
          exact v_cret dX11_of_33 rfl rfl b4_1 b4_2 k
      · have k := k.2 z
        obtain ⟨⟨b3_1, b3_2⟩, k⟩ := k
        refine v_iload_n dX11_of_18 rfl rfl ?_
        refine v_goto (tgt := 33) dX11_of_19 (by decide) ?_
        exact v_cret dX11_of_33 rfl rfl b3_1 b3_2 k
    · have k := k.2 z
      obtain ⟨⟨b2_1, b2_2⟩, k⟩ := k
      refine v_iload_n dX11_of_9 rfl rfl ?_
      refine v_goto (tgt := 33) dX11_of_10 (by decide) ?_
      exact v_cret dX11_of_33 rfl rfl b2_1 b2_2 k
theorem S_X11_typeMore_0 {kc ks : Nat} {h : Hh} {Q : PQ} {X : PX} {x1 : Int} {x2 : Int} {x3 : Int} {x4 : Int} {x5 : Int} {x6 : Int} {x7 : Int} {x8 : Int} {x9 : Int}
    (k : am_V M_X11_isBetween 0 0 0 [aI x1, aI 1, aI 8] [] am_R0 h (fun v ρ' h' => am_V M_X11_typeMore kc ks 7 [aR 72, aI x1, aI x2, aI x3, aI x4, aI x5, aI x6, aI x7, aI x8, aI x9, aU, aU, aU] (v ++ []) ρ' h' Q X) X) :
    am_V M_X11_typeMore kc ks 0 [aR 72, aI x1, aI x2, aI x3, aI x4, aI x5, aI x6, aI x7, aI x8, aI x9, aU, aU, aU] [] am_R0 h Q X := by
  refine v_iload_n dX11_typeMore_0 rfl rfl ?_
  refine v_iconst dX11_typeMore_1 ⟨by decide, by decide⟩ ?_
  refine v_bipush dX11_typeMore_2 (by decide) (by decide) ?_
  exact v_callS (j := M_X11_isBetween) (As := [aI x1, aI 1, aI 8]) (st := []) (E0 := [aI x1, aI 1, aI 8]) dX11_typeMore_4 ms_X11_42 J_X11_isBetween (Nat.zero_le _) (Nat.zero_le _) (Nat.le_of_ble_eq_true rfl) rfl (Nat.le_of_ble_eq_true rfl) (List.forall_mem_cons.mpr ⟨rfl, List.forall_mem_cons.mpr ⟨rfl, List.forall_mem_cons.mpr ⟨rfl, fun _ h9 => absurd h9 List.not_mem_nil⟩⟩⟩) (Nat.le_of_ble_eq_true rfl) rfl pn_X11_isBetween rfl k
theorem S_X11_typeMore_7 {kc ks : Nat} {h : Hh} {Q : PQ} {X : PX} {x1 : Int} {x2 : Int} {x3 : Int} {x4 : Int} {x5 : Int} {x6 : Int} {x7 : Int} {x8 : Int} {x9 : Int} {xs0 : Int}
    (k : am_V M_X11_typeMore kc ks 12 [aR 72, aI x1, aI x2, aI x3, aI x4, aI x5, aI x6, aI x7, aI x8, aI x9, aI xs0, aI 0, aU] [] am_R0 h Q X) :
    am_V M_X11_typeMore kc ks 7 [aR 72, aI x1, aI x2, aI x3, aI x4, aI x5, aI x6, aI x7, aI x8, aI x9, aU, aU, aU] [aI xs0] am_R0 h Q X := by
  refine v_istore (E2 := [aR 72, aI x1, aI x2, aI x3, aI x4, aI x5, aI x6, aI x7, aI x8, aI x9, aI xs0, aU, aU]) dX11_typeMore_7 (Nat.le_of_ble_eq_true rfl) rfl ?_
  refine v_iconst dX11_typeMore_9 ⟨by decide, by decide⟩ ?_
  refine v_istore (E2 := [aR 72, aI x1, aI x2, aI x3, aI x4, aI x5, aI x6, aI x7, aI x8, aI x9, aI xs0, aI 0, aU]) dX11_typeMore_10 (Nat.le_of_ble_eq_true rfl) rfl ?_
  exact k
theorem S_X11_typeMore_12 {kc ks : Nat} {h : Hh} {Q : PQ} {X : PX} {x1 : Int} {x2 : Int} {x3 : Int} {x4 : Int} {x5 : Int} {x6 : Int} {x7 : Int} {x8 : Int} {x9 : Int} {x10 : Int} {x11 : Int}
    (k : ((x10 = 0 → ((x10 ≠ 0 → ((-2147483648 ≤ (((h 72 9) + x1) : Int) ∧ (((h 72 9) + x1) : Int) < 2147483648)) ∧ ((((h 72 9) + x1) ≤ 65 → am_V M_X11_isWrong 0 0 0 [aR 72, aI 0] [] am_R0 h (fun v ρ' h' => am_V M_X11_typeMore kc ks 101 [aR 72, aI x1, aI x2, aI x3, aI x4, aI x5, aI x6, aI x7, aI x8, aI x9, aU, aU, aU] (v ++ []) ρ' h' Q X) X) ∧ (65 < ((h 72 9) + x1) → am_V M_X11_isWrong 0 0 0 [aR 72, aI 2] [] am_R0 h (fun v ρ' h' => am_V M_X11_typeMore kc ks 101 [aR 72, aI x1, aI x2, aI x3, aI x4, aI x5, aI x6, aI x7, aI x8, aI x9, aU, aU, aU] (v ++ []) ρ' h' Q X) X))) ∧ (x10 = 0 → am_V M_X11_isWrong 0 0 0 [aR 72, aI 1] [] am_R0 h (fun v ρ' h' => am_V M_X11_typeMore kc ks 101 [aR 72, aI x1, aI x2, aI x3, aI x4, aI x5, aI x6, aI x7, aI x8, aI x9, aU, aU, aU] (v ++ []) ρ' h' Q X) X))) ∧ (x10 ≠ 0 → ((x1 ≤ x11 → ((x10 ≠ 0 → ((-2147483648 ≤ (((h 72 9) + x1) : Int) ∧ (((h 72 9) + x1) : Int) < 2147483648)) ∧ ((((h 72 9) + x1) ≤ 65 → am_V M_X11_isWrong 0 0 0 [aR 72, aI 0] [] am_R0 h (fun v ρ' h' => am_V M_X11_typeMore kc ks 101 [aR 72, aI x1, aI x2, aI x3, aI x4, aI x5, aI x6, aI x7, aI x8, aI x9, aU, aU, aU] (v ++ []) ρ' h' Q X) X) ∧ (65 < ((h 72 9) + x1) → am_V M_X11_isWrong 0 0 0 [aR 72, aI 2] [] am_R0 h (fun v ρ' h' => am_V M_X11_typeMore kc ks 101 [aR 72, aI x1, aI x2, aI x3, aI x4, aI x5, aI x6, aI x7, aI x8, aI x9, aU, aU, aU] (v ++ []) ρ' h' Q X) X))) ∧ (x10 = 0 → am_V M_X11_isWrong 0 0 0 [aR 72, aI 1] [] am_R0 h (fun v ρ' h' => am_V M_X11_typeMore kc ks 101 [aR 72, aI x1, aI x2, aI x3, aI x4, aI x5, aI x6, aI x7, aI x8, aI x9, aU, aU, aU] (v ++ []) ρ' h' Q X) X))) ∧ (x11 < x1 → am_V M_X11_of 0 0 0 [aI x11, aI x2, aI x3, aI x4, aI x5, aI x6, aI x7, aI x8, aI x9] [] am_R0 h (fun v ρ' h' => am_V M_X11_typeMore kc ks 42 [aR 72, aI x1, aI x2, aI x3, aI x4, aI x5, aI x6, aI x7, aI x8, aI x9, aU, aI x11, aU] (v ++ []) ρ' h' Q X) X))))) :
    am_V M_X11_typeMore kc ks 12 [aR 72, aI x1, aI x2, aI x3, aI x4, aI x5, aI x6, aI x7, aI x8, aI x9, aI x10, aI x11, aU] [] am_R0 h Q X := by
  refine v_iload dX11_typeMore_12 rfl ?_
  refine v_if_eq (tgt := 72) dX11_typeMore_14 (by decide) (fun z => ?_) (fun z => ?_)
  · have k := k.1 z
    refine v_aload_n dX11_typeMore_72 rfl rfl ?_
    refine v_iload dX11_typeMore_73 rfl ?_
    refine v_if_ne (tgt := 82) dX11_typeMore_75 (by decide) (fun z => ?_) (fun z => ?_)
    · have k := k.1 z
      obtain ⟨b2_1, k⟩ := k
      refine v_aload_n dX11_typeMore_82 rfl rfl ?_
      refine v_getI (j := 9) dX11_typeMore_83 fl_X11_54 am_clsA rfl rfl rfl ?_
      refine v_iload_n dX11_typeMore_86 rfl rfl ?_
      refine v_iadd dX11_typeMore_87 b2_1 ?_
      refine v_bipush dX11_typeMore_88 (by decide) (by decide) ?_
      refine v_icmp_le (tgt := 97) dX11_typeMore_90 (by decide) (fun z => ?_) (fun z => ?_)
      · have k := k.1 z
        refine v_iconst dX11_typeMore_97 ⟨by decide, by decide⟩ ?_
        refine v_weak (E2 := [aR 72, aI x1, aI x2, aI x3, aI x4, aI x5, aI x6, aI x7, aI x8, aI x9, aU, aU, aU]) ⟨Or.inl rfl, ⟨Or.inl rfl, ⟨Or.inl rfl, ⟨Or.inl rfl, ⟨Or.inl rfl, ⟨Or.inl rfl, ⟨Or.inl rfl, ⟨Or.inl rfl, ⟨Or.inl rfl, ⟨Or.inl rfl, ⟨Or.inr rfl, ⟨Or.inr rfl, ⟨Or.inl rfl, trivial⟩⟩⟩⟩⟩⟩⟩⟩⟩⟩⟩⟩⟩ ?_
        exact v_callV (j := M_X11_isWrong) (As := [aI 0]) (st := []) (E0 := [aR 72, aI 0]) (a := 72) (ci := 9) (N := 11) (q9 := (RX11, TX11, 11)) dX11_typeMore_98 ml_X11_57 J_X11_isWrong (Nat.zero_le _) (Nat.zero_le _) (Nat.le_of_ble_eq_true rfl) rfl (Nat.le_of_ble_eq_true rfl) (List.forall_mem_cons.mpr ⟨rfl, List.forall_mem_cons.mpr ⟨rfl, fun _ h9 => absurd h9 List.not_mem_nil⟩⟩) (Nat.le_of_ble_eq_true rfl) rfl rfl rfl rfl pn_X11_isWrong rfl k
      · have k := k.2 z
        refine v_iconst dX11_typeMore_93 ⟨by decide, by decide⟩ ?_
        refine v_goto (tgt := 98) dX11_typeMore_94 (by decide) ?_
        refine v_weak (E2 := [aR 72, aI x1, aI x2, aI x3, aI x4, aI x5, aI x6, aI x7, aI x8, aI x9, aU, aU, aU]) ⟨Or.inl rfl, ⟨Or.inl rfl, ⟨Or.inl rfl, ⟨Or.inl rfl, ⟨Or.inl rfl, ⟨Or.inl rfl, ⟨Or.inl rfl, ⟨Or.inl rfl, ⟨Or.inl rfl, ⟨Or.inl rfl, ⟨Or.inr rfl, ⟨Or.inr rfl, ⟨Or.inl rfl, trivial⟩⟩⟩⟩⟩⟩⟩⟩⟩⟩⟩⟩⟩ ?_
        exact v_callV (j := M_X11_isWrong) (As := [aI 2]) (st := []) (E0 := [aR 72, aI 2]) (a := 72) (ci := 9) (N := 11) (q9 := (RX11, TX11, 11)) dX11_typeMore_98 ml_X11_57 J_X11_isWrong (Nat.zero_le _) (Nat.zero_le _) (Nat.le_of_ble_eq_true rfl) rfl (Nat.le_of_ble_eq_true rfl) (List.forall_mem_cons.mpr ⟨rfl, List.forall_mem_cons.mpr ⟨rfl, fun _ h9 => absurd h9 List.not_mem_nil⟩⟩) (Nat.le_of_ble_eq_true rfl) rfl rfl rfl rfl pn_X11_isWrong rfl k
    · have k := k.2 z
      refine v_iconst dX11_typeMore_78 ⟨by decide, by decide⟩ ?_
      refine v_goto (tgt := 98) dX11_typeMore_79 (by decide) ?_
      refine v_weak (E2 := [aR 72, aI x1, aI x2, aI x3, aI x4, aI x5, aI x6, aI x7, aI x8, aI x9, aU, aU, aU]) ⟨Or.inl rfl, ⟨Or.inl rfl, ⟨Or.inl rfl, ⟨Or.inl rfl, ⟨Or.inl rfl, ⟨Or.inl rfl, ⟨Or.inl rfl, ⟨Or.inl rfl, ⟨Or.inl rfl, ⟨Or.inl rfl, ⟨Or.inr rfl, ⟨Or.inr rfl, ⟨Or.inl rfl, trivial⟩⟩⟩⟩⟩⟩⟩⟩⟩⟩⟩⟩⟩ ?_
      exact v_callV (j := M_X11_isWrong) (As := [aI 1]) (st := []) (E0 := [aR 72, aI 1]) (a := 72) (ci := 9) (N := 11) (q9 := (RX11, TX11, 11)) dX11_typeMore_98 ml_X11_57 J_X11_isWrong (Nat.zero_le _) (Nat.zero_le _) (Nat.le_of_ble_eq_true rfl) rfl (Nat.le_of_ble_eq_true rfl) (List.forall_mem_cons.mpr ⟨rfl, List.forall_mem_cons.mpr ⟨rfl, fun _ h9 => absurd h9 List.not_mem_nil⟩⟩) (Nat.le_of_ble_eq_true rfl) rfl rfl rfl rfl pn_X11_isWrong rfl k
  · have k := k.2 z
    refine v_iload dX11_typeMore_17 rfl ?_
    refine v_iload_n dX11_typeMore_19 rfl rfl ?_
    refine v_icmp_ge (tgt := 72) dX11_typeMore_20 (by decide) (fun z => ?_) (fun z => ?_)
    · have k := k.1 z
      refine v_aload_n dX11_typeMore_72 rfl rfl ?_
      refine v_iload dX11_typeMore_73 rfl ?_
      refine v_if_ne (tgt := 82) dX11_typeMore_75 (by decide) (fun z => ?_) (fun z => ?_)
      · have k := k.1 z
        obtain ⟨b3_1, k⟩ := k
        refine v_aload_n dX11_typeMore_82 rfl rfl ?_
        refine v_getI (j := 9) dX11_typeMore_83 fl_X11_54 am_clsA rfl rfl rfl ?_
        refine v_iload_n dX11_typeMore_86 rfl rfl ?_
        refine v_iadd dX11_typeMore_87 b3_1 ?_
        refine v_bipush dX11_typeMore_88 (by decide) (by decide) ?_
        refine v_icmp_le (tgt := 97) dX11_typeMore_90 (by decide) (fun z => ?_) (fun z => ?_)
        · have k := k.1 z
          refine v_iconst dX11_typeMore_97 ⟨by decide, by decide⟩ ?_
          refine v_weak (E2 := [aR 72, aI x1, aI x2, aI x3, aI x4, aI x5, aI x6, aI x7, aI x8, aI x9, aU, aU, aU]) ⟨Or.inl rfl, ⟨Or.inl rfl, ⟨Or.inl rfl, ⟨Or.inl rfl, ⟨Or.inl rfl, ⟨Or.inl rfl, ⟨Or.inl rfl, ⟨Or.inl rfl, ⟨Or.inl rfl, ⟨Or.inl rfl, ⟨Or.inr rfl, ⟨Or.inr rfl, ⟨Or.inl rfl, trivial⟩⟩⟩⟩⟩⟩⟩⟩⟩⟩⟩⟩⟩ ?_
          exact v_callV (j := M_X11_isWrong) (As := [aI 0]) (st := []) (E0 := [aR 72, aI 0]) (a := 72) (ci := 9) (N := 11) (q9 := (RX11, TX11, 11)) dX11_typeMore_98 ml_X11_57 J_X11_isWrong (Nat.zero_le _) (Nat.zero_le _) (Nat.le_of_ble_eq_true rfl) rfl (Nat.le_of_ble_eq_true rfl) (List.forall_mem_cons.mpr ⟨rfl, List.forall_mem_cons.mpr ⟨rfl, fun _ h9 => absurd h9 List.not_mem_nil⟩⟩) (Nat.le_of_ble_eq_true rfl) rfl rfl rfl rfl pn_X11_isWrong rfl k
        · have k := k.2 z
          refine v_iconst dX11_typeMore_93 ⟨by decide, by decide⟩ ?_
          refine v_goto (tgt := 98) dX11_typeMore_94 (by decide) ?_
          refine v_weak (E2 := [aR 72, aI x1, aI x2, aI x3, aI x4, aI x5, aI x6, aI x7, aI x8, aI x9, aU, aU, aU]) ⟨Or.inl rfl, ⟨Or.inl rfl, ⟨Or.inl rfl, ⟨Or.inl rfl, ⟨Or.inl rfl, ⟨Or.inl rfl, ⟨Or.inl rfl, ⟨Or.inl rfl, ⟨Or.inl rfl, ⟨Or.inl rfl, ⟨Or.inr rfl, ⟨Or.inr rfl, ⟨Or.inl rfl, trivial⟩⟩⟩⟩⟩⟩⟩⟩⟩⟩⟩⟩⟩ ?_
          exact v_callV (j := M_X11_isWrong) (As := [aI 2]) (st := []) (E0 := [aR 72, aI 2]) (a := 72) (ci := 9) (N := 11) (q9 := (RX11, TX11, 11)) dX11_typeMore_98 ml_X11_57 J_X11_isWrong (Nat.zero_le _) (Nat.zero_le _) (Nat.le_of_ble_eq_true rfl) rfl (Nat.le_of_ble_eq_true rfl) (List.forall_mem_cons.mpr ⟨rfl, List.forall_mem_cons.mpr ⟨rfl, fun _ h9 => absurd h9 List.not_mem_nil⟩⟩) (Nat.le_of_ble_eq_true rfl) rfl rfl rfl rfl pn_X11_isWrong rfl k
      · have k := k.2 z
        refine v_iconst dX11_typeMore_78 ⟨by decide, by decide⟩ ?_
        refine v_goto (tgt := 98) dX11_typeMore_79 (by decide) ?_
        refine v_weak (E2 := [aR 72, aI x1, aI x2, aI x3, aI x4, aI x5, aI x6, aI x7, aI x8, aI x9, aU, aU, aU]) ⟨Or.inl rfl, ⟨Or.inl rfl, ⟨Or.inl rfl, ⟨Or.inl rfl, ⟨Or.inl rfl, ⟨Or.inl rfl, ⟨Or.inl rfl, ⟨Or.inl rfl, ⟨Or.inl rfl, ⟨Or.inl rfl, ⟨Or.inr rfl, ⟨Or.inr rfl, ⟨Or.inl rfl, trivial⟩⟩⟩⟩⟩⟩⟩⟩⟩⟩⟩⟩⟩ ?_
        exact v_callV (j := M_X11_isWrong) (As := [aI 1]) (st := []) (E0 := [aR 72, aI 1]) (a := 72) (ci := 9) (N := 11) (q9 := (RX11, TX11, 11)) dX11_typeMore_98 ml_X11_57 J_X11_isWrong (Nat.zero_le _) (Nat.zero_le _) (Nat.le_of_ble_eq_true rfl) rfl (Nat.le_of_ble_eq_true rfl) (List.forall_mem_cons.mpr ⟨rfl, List.forall_mem_cons.mpr ⟨rfl, fun _ h9 => absurd h9 List.not_mem_nil⟩⟩) (Nat.le_of_ble_eq_true rfl) rfl rfl rfl rfl pn_X11_isWrong rfl k
    · have k := k.2 z
      refine v_iload dX11_typeMore_23 rfl ?_
      refine v_iload_n dX11_typeMore_25 rfl rfl ?_
      refine v_iload_n dX11_typeMore_26 rfl rfl ?_
      refine v_iload dX11_typeMore_27 rfl ?_
      refine v_iload dX11_typeMore_29 rfl ?_
      refine v_iload dX11_typeMore_31 rfl ?_
      refine v_iload dX11_typeMore_33 rfl ?_
      refine v_iload dX11_typeMore_35 rfl ?_
      refine v_iload dX11_typeMore_37 rfl ?_
      refine v_weak (E2 := [aR 72, aI x1, aI x2, aI x3, aI x4, aI x5, aI x6, aI x7, aI x8, aI x9, aU, aI x11, aU]) ⟨Or.inl rfl, ⟨Or.inl rfl, ⟨Or.inl rfl, ⟨Or.inl rfl, ⟨Or.inl rfl, ⟨Or.inl rfl, ⟨Or.inl rfl, ⟨Or.inl rfl, ⟨Or.inl rfl, ⟨Or.inl rfl, ⟨Or.inr rfl, ⟨Or.inl rfl, ⟨Or.inl rfl, trivial⟩⟩⟩⟩⟩⟩⟩⟩⟩⟩⟩⟩⟩ ?_
      exact v_callS (j := M_X11_of) (As := [aI x11, aI x2, aI x3, aI x4, aI x5, aI x6, aI x7, aI x8, aI x9]) (st := []) (E0 := [aI x11, aI x2, aI x3, aI x4, aI x5, aI x6, aI x7, aI x8, aI x9]) dX11_typeMore_39 ms_X11_60 J_X11_of (Nat.zero_le _) (Nat.zero_le _) (Nat.le_of_ble_eq_true rfl) rfl (Nat.le_of_ble_eq_true rfl) (List.forall_mem_cons.mpr ⟨rfl, List.forall_mem_cons.mpr ⟨rfl, List.forall_mem_cons.mpr ⟨rfl, List.forall_mem_cons.mpr ⟨rfl, List.forall_mem_cons.mpr ⟨rfl, List.forall_mem_cons.mpr ⟨rfl, List.forall_mem_cons.mpr ⟨rfl, List.forall_mem_cons.mpr ⟨rfl, List.forall_mem_cons.mpr ⟨rfl, fun _ h9 => absurd h9 List.not_mem_nil⟩⟩⟩⟩⟩⟩⟩⟩⟩) (Nat.le_of_ble_eq_true rfl) rfl pn_X11_of rfl k
theorem S_X11_typeMore_101 {kc ks : Nat} {h : Hh} {Q : PQ} {X : PX} {x1 : Int} {x2 : Int} {x3 : Int} {x4 : Int} {x5 : Int} {x6 : Int} {x7 : Int} {x8 : Int} {x9 : Int} {xs0 : Int}
    (k : ((xs0 = 0 → am_V M_X11_typeMore kc ks 109 [aR 72, aI x1, aI x2, aI x3, aI x4, aI x5, aI x6, aI x7, aI x8, aI x9, aU, aI 0, aU] [] am_R0 h Q X) ∧ (xs0 ≠ 0 → Q [aI 0] am_R0 h))) :
    am_V M_X11_typeMore kc ks 101 [aR 72, aI x1, aI x2, aI x3, aI x4, aI x5, aI x6, aI x7, aI x8, aI x9, aU, aU, aU] [aI xs0] am_R0 h Q X := by
  refine v_if_eq (tgt := 106) dX11_typeMore_101 (by decide) (fun z => ?_) (fun z => ?_)
  · have k := k.1 z
    refine v_iconst dX11_typeMore_106 ⟨by decide, by decide⟩ ?_
    refine v_istore (E2 := [aR 72, aI x1, aI x2, aI x3, aI x4, aI x5, aI x6, aI x7, aI x8, aI x9, aU, aI 0, aU]) dX11_typeMore_107 (Nat.le_of_ble_eq_true rfl) rfl ?_
    exact k
  · have k := k.2 z
    refine v_iconst dX11_typeMore_104 ⟨by decide, by decide⟩ ?_
    exact v_iret dX11_typeMore_105 rfl rfl k
theorem S_X11_typeMore_42 {kc ks : Nat} {h : Hh} {Q : PQ} {X : PX} {x1 : Int} {x2 : Int} {x3 : Int} {x4 : Int} {x5 : Int} {x6 : Int} {x7 : Int} {x8 : Int} {x9 : Int} {x11 : Int} {xs0 : Int}
    (k : am_V M_X11_isLetter 0 0 0 [aI xs0] [] am_R0 h (fun v ρ' h' => am_V M_X11_typeMore kc ks 49 [aR 72, aI x1, aI x2, aI x3, aI x4, aI x5, aI x6, aI x7, aI x8, aI x9, aU, aI x11, aI xs0] (v ++ []) ρ' h' Q X) X) :
    am_V M_X11_typeMore kc ks 42 [aR 72, aI x1, aI x2, aI x3, aI x4, aI x5, aI x6, aI x7, aI x8, aI x9, aU, aI x11, aU] [aI xs0] am_R0 h Q X := by
  refine v_istore (E2 := [aR 72, aI x1, aI x2, aI x3, aI x4, aI x5, aI x6, aI x7, aI x8, aI x9, aU, aI x11, aI xs0]) dX11_typeMore_42 (Nat.le_of_ble_eq_true rfl) rfl ?_
  refine v_iload dX11_typeMore_44 rfl ?_
  exact v_callS (j := M_X11_isLetter) (As := [aI xs0]) (st := []) (E0 := [aI xs0]) dX11_typeMore_46 ms_X11_50 J_X11_isLetter (Nat.zero_le _) (Nat.zero_le _) (Nat.le_of_ble_eq_true rfl) rfl (Nat.le_of_ble_eq_true rfl) (List.forall_mem_cons.mpr ⟨rfl, fun _ h9 => absurd h9 List.not_mem_nil⟩) (Nat.le_of_ble_eq_true rfl) rfl pn_X11_isLetter rfl k
theorem S_X11_typeMore_109 {kc ks : Nat} {h : Hh} {Q : PQ} {X : PX} {x1 : Int} {x2 : Int} {x3 : Int} {x4 : Int} {x5 : Int} {x6 : Int} {x7 : Int} {x8 : Int} {x9 : Int} {x11 : Int}
    (k : ((x1 ≤ x11 → Q [aI (h 72 9)] am_R0 h) ∧ (x11 < x1 → am_V M_X11_of 0 0 0 [aI x11, aI x2, aI x3, aI x4, aI x5, aI x6, aI x7, aI x8, aI x9] [] am_R0 h (fun v ρ' h' => am_V M_X11_typeMore kc ks 142 [aR 72, aI x1, aI x2, aI x3, aI x4, aI x5, aI x6, aI x7, aI x8, aI x9, aU, aI x11, aU] (v ++ [aI (h 72 9), aR 75]) ρ' h' Q X) X))) :
    am_V M_X11_typeMore kc ks 109 [aR 72, aI x1, aI x2, aI x3, aI x4, aI x5, aI x6, aI x7, aI x8, aI x9, aU, aI x11, aU] [] am_R0 h Q X := by
  refine v_iload dX11_typeMore_109 rfl ?_
  refine v_iload_n dX11_typeMore_111 rfl rfl ?_
  refine v_icmp_ge (tgt := 159) dX11_typeMore_112 (by decide) (fun z => ?_) (fun z => ?_)
  · have k := k.1 z
    refine v_aload_n dX11_typeMore_159 rfl rfl ?_
    refine v_getI (j := 9) dX11_typeMore_160 fl_X11_54 am_clsA rfl rfl rfl ?_
    exact v_iret dX11_typeMore_163 rfl rfl k
  · have k := k.2 z
    refine v_aload_n dX11_typeMore_115 rfl rfl ?_
    refine v_getR (x := 75) dX11_typeMore_116 fl_X11_17 am_clsA rfl rfl rfl ?_
    refine v_aload_n dX11_typeMore_119 rfl rfl ?_
    refine v_getI (j := 9) dX11_typeMore_120 fl_X11_54 am_clsA rfl rfl rfl ?_
    refine v_iload dX11_typeMore_123 rfl ?_
    refine v_iload_n dX11_typeMore_125 rfl rfl ?_
    refine v_iload_n dX11_typeMore_126 rfl rfl ?_
    refine v_iload dX11_typeMore_127 rfl ?_
    refine v_iload dX11_typeMore_129 rfl ?_
    refine v_iload dX11_typeMore_131 rfl ?_
    refine v_iload dX11_typeMore_133 rfl ?_
    refine v_iload dX11_typeMore_135 rfl ?_
    refine v_iload dX11_typeMore_137 rfl ?_
    exact v_callS (j := M_X11_of) (As := [aI x11, aI x2, aI x3, aI x4, aI x5, aI x6, aI x7, aI x8, aI x9]) (st := [aI (h 72 9), aR 75]) (E0 := [aI x11, aI x2, aI x3, aI x4, aI x5, aI x6, aI x7, aI x8, aI x9]) dX11_typeMore_139 ms_X11_60 J_X11_of (Nat.zero_le _) (Nat.zero_le _) (Nat.le_of_ble_eq_true rfl) rfl (Nat.le_of_ble_eq_true rfl) (List.forall_mem_cons.mpr ⟨rfl, List.forall_mem_cons.mpr ⟨rfl, List.forall_mem_cons.mpr ⟨rfl, List.forall_mem_cons.mpr ⟨rfl, List.forall_mem_cons.mpr ⟨rfl, List.forall_mem_cons.mpr ⟨rfl, List.forall_mem_cons.mpr ⟨rfl, List.forall_mem_cons.mpr ⟨rfl, List.forall_mem_cons.mpr ⟨rfl, fun _ h9 => absurd h9 List.not_mem_nil⟩⟩⟩⟩⟩⟩⟩⟩⟩) (Nat.le_of_ble_eq_true rfl) rfl pn_X11_of rfl k
theorem S_X11_typeMore_49 {kc ks : Nat} {h : Hh} {Q : PQ} {X : PX} {x1 : Int} {x2 : Int} {x3 : Int} {x4 : Int} {x5 : Int} {x6 : Int} {x7 : Int} {x8 : Int} {x9 : Int} {x11 : Int} {x12 : Int} {xs0 : Int}
    (k : ((xs0 ≠ 0 → ((-2147483648 ≤ ((x11 + 1) : Int) ∧ ((x11 + 1) : Int) < 2147483648)) ∧ am_V M_X11_typeMore kc ks 12 [aR 72, aI x1, aI x2, aI x3, aI x4, aI x5, aI x6, aI x7, aI x8, aI x9, aI 1, aI (x11 + 1), aU] [] am_R0 h Q X) ∧ (xs0 = 0 → ((x12 ≠ 36 → ((-2147483648 ≤ ((x11 + 1) : Int) ∧ ((x11 + 1) : Int) < 2147483648)) ∧ am_V M_X11_typeMore kc ks 12 [aR 72, aI x1, aI x2, aI x3, aI x4, aI x5, aI x6, aI x7, aI x8, aI x9, aI 0, aI (x11 + 1), aU] [] am_R0 h Q X) ∧ (x12 = 36 → ((-2147483648 ≤ ((x11 + 1) : Int) ∧ ((x11 + 1) : Int) < 2147483648)) ∧ am_V M_X11_typeMore kc ks 12 [aR 72, aI x1, aI x2, aI x3, aI x4, aI x5, aI x6, aI x7, aI x8, aI x9, aI 1, aI (x11 + 1), aU] [] am_R0 h Q X))))) :
    am_V M_X11_typeMore kc ks 49 [aR 72, aI x1, aI x2, aI x3, aI x4, aI x5, aI x6, aI x7, aI x8, aI x9, aU, aI x11, aI x12] [aI xs0] am_R0 h Q X := by
  refine v_if_ne (tgt := 59) dX11_typeMore_49 (by decide) (fun z => ?_) (fun z => ?_)
  · have k := k.1 z
    obtain ⟨b1_1, k⟩ := k
    refine v_iconst dX11_typeMore_59 ⟨by decide, by decide⟩ ?_
    refine v_goto (tgt := 64) dX11_typeMore_60 (by decide) ?_
    refine v_istore (E2 := [aR 72, aI x1, aI x2, aI x3, aI x4, aI x5, aI x6, aI x7, aI x8, aI x9, aI 1, aI x11, aI x12]) dX11_typeMore_64 (Nat.le_of_ble_eq_true rfl) rfl ?_
    refine v_iinc (E2 := [aR 72, aI x1, aI x2, aI x3, aI x4, aI x5, aI x6, aI x7, aI x8, aI x9, aI 1, aI (x11 + 1), aI x12]) dX11_typeMore_66 rfl b1_1 rfl ?_
    refine v_goto (tgt := 12) dX11_typeMore_69 (by decide) ?_
    refine v_weak (E2 := [aR 72, aI x1, aI x2, aI x3, aI x4, aI x5, aI x6, aI x7, aI x8, aI x9, aI 1, aI (x11 + 1), aU]) ⟨Or.inl rfl, ⟨Or.inl rfl, ⟨Or.inl rfl, ⟨Or.inl rfl, ⟨Or.inl rfl, ⟨Or.inl rfl, ⟨Or.inl rfl, ⟨Or.inl rfl, ⟨Or.inl rfl, ⟨Or.inl rfl, ⟨Or.inl rfl, ⟨Or.inl rfl, ⟨Or.inr rfl, trivial⟩⟩⟩⟩⟩⟩⟩⟩⟩⟩⟩⟩⟩ ?_
    exact k
  · have k := k.2 z
    refine v_iload dX11_typeMore_52 rfl ?_
    refine v_bipush dX11_typeMore_54 (by decide) (by decide) ?_
    refine v_icmp_ne (tgt := 63) dX11_typeMore_56 (by decide) (fun z => ?_) (fun z => ?_)
    · have k := k.1 z
      obtain ⟨b2_1, k⟩ := k
      refine v_iconst dX11_typeMore_63 ⟨by decide, by decide⟩ ?_
      refine v_istore (E2 := [aR 72, aI x1, aI x2, aI x3, aI x4, aI x5, aI x6, aI x7, aI x8, aI x9, aI 0, aI x11, aI x12]) dX11_typeMore_64 (Nat.le_of_ble_eq_true rfl) rfl ?_
      refine v_iinc (E2 := [aR 72, aI x1, aI x2, aI x3, aI x4, aI x5, aI x6, aI x7, aI x8, aI x9, aI 0, aI (x11 + 1), aI x12]) dX11_typeMore_66 rfl b2_1 rfl ?_
      refine v_goto (tgt := 12) dX11_typeMore_69 (by decide) ?_
      refine v_weak (E2 := [aR 72, aI x1, aI x2, aI x3, aI x4, aI x5, aI x6, aI x7, aI x8, aI x9, aI 0, aI (x11 + 1), aU]) ⟨Or.inl rfl, ⟨Or.inl rfl, ⟨Or.inl rfl, ⟨Or.inl rfl, ⟨Or.inl rfl, ⟨Or.inl rfl, ⟨Or.inl rfl, ⟨Or.inl rfl, ⟨Or.inl rfl, ⟨Or.inl rfl, ⟨Or.inl rfl, ⟨Or.inl rfl, ⟨Or.inr rfl, trivial⟩⟩⟩⟩⟩⟩⟩⟩⟩⟩⟩⟩⟩ ?_
      exact k
    · have k := k.2 z
      obtain ⟨b2_1, k⟩ := k
      refine v_iconst dX11_typeMore_59 ⟨by decide, by decide⟩ ?_
      refine v_goto (tgt := 64) dX11_typeMore_60 (by decide) ?_
      refine v_istore (E2 := [aR 72, aI x1, aI x2, aI x3, aI x4, aI x5, aI x6, aI x7, aI x8, aI x9, aI 1, aI x11, aI x12]) dX11_typeMore_64 (Nat.le_of_ble_eq_true rfl) rfl ?_
      refine v_iinc (E2 := [aR 72, aI x1, aI x2, aI x3, aI x4, aI x5, aI x6, aI x7, aI x8, aI x9, aI 1, aI (x11 + 1), aI x12]) dX11_typeMore_66 rfl b2_1 rfl ?_
      refine v_goto (tgt := 12) dX11_typeMore_69 (by decide) ?_
      refine v_weak (E2 := [aR 72, aI x1, aI x2, aI x3, aI x4, aI x5, aI x6, aI x7, aI x8, aI x9, aI 1, aI (x11 + 1), aU]) ⟨Or.inl rfl, ⟨Or.inl rfl, ⟨Or.inl rfl, ⟨Or.inl rfl, ⟨Or.inl rfl, ⟨Or.inl rfl, ⟨Or.inl rfl, ⟨Or.inl rfl, ⟨Or.inl rfl, ⟨Or.inl rfl, ⟨Or.inl rfl, ⟨Or.inl rfl, ⟨Or.inr rfl, trivial⟩⟩⟩⟩⟩⟩⟩⟩⟩⟩⟩⟩⟩ ?_
      exact k
theorem S_X11_typeMore_142 {kc ks : Nat} {h : Hh} {Q : PQ} {X : PX} {x1 : Int} {x2 : Int} {x3 : Int} {x4 : Int} {x5 : Int} {x6 : Int} {x7 : Int} {x8 : Int} {x9 : Int} {x11 : Int} {xs0 : Int} {xs1 : Int}
    (k : ((0 : Int) ≤ xs1 ∧ (xs1 : Int) < 65 ∧ (-2147483648 ≤ ((((am_st h 75 xs1 (xs0 % 65536)) 72 9) + 1) : Int) ∧ ((((am_st h 75 xs1 (xs0 % 65536)) 72 9) + 1) : Int) < 2147483648) ∧ (-2147483648 ≤ ((x11 + 1) : Int) ∧ ((x11 + 1) : Int) < 2147483648)) ∧ am_V M_X11_typeMore kc ks 109 [aR 72, aI x1, aI x2, aI x3, aI x4, aI x5, aI x6, aI x7, aI x8, aI x9, aU, aI (x11 + 1), aU] [] am_R0 (am_st (am_st h 75 xs1 (xs0 % 65536)) 72 9 (((am_st h 75 xs1 (xs0 % 65536)) 72 9) + 1)) Q X) :
    am_V M_X11_typeMore kc ks 142 [aR 72, aI x1, aI x2, aI x3, aI x4, aI x5, aI x6, aI x7, aI x8, aI x9, aU, aI x11, aU] [aI xs0, aI xs1, aR 75] am_R0 h Q X := by
  obtain ⟨⟨b0_1, b0_2, b0_3, b0_4⟩, k⟩ := k
  refine v_cast dX11_typeMore_142 rfl b0_1 b0_2 ?_
  refine v_aload_n dX11_typeMore_143 rfl rfl ?_
  refine v_dupR dX11_typeMore_144 ?_
  refine v_getI (j := 9) dX11_typeMore_145 fl_X11_54 am_clsA rfl rfl rfl ?_
  refine v_iconst dX11_typeMore_148 ⟨by decide, by decide⟩ ?_
  refine v_iadd dX11_typeMore_149 b0_3 ?_
  refine v_putI (j := 9) dX11_typeMore_150 pl_X11_54 am_clsA rfl rfl rfl ?_
  refine v_iinc (E2 := [aR 72, aI x1, aI x2, aI x3, aI x4, aI x5, aI x6, aI x7, aI x8, aI x9, aU, aI (x11 + 1), aU]) dX11_typeMore_153 rfl b0_4 rfl ?_
  refine v_goto (tgt := 109) dX11_typeMore_156 (by decide) ?_
  exact k
theorem S_X11_wipe_0 {kc ks : Nat} {h : Hh} {Q : PQ} {X : PX} 
    (k : Q [aI ((am_st h 72 10 0) 72 9)] am_R0 (am_st (am_st h 72 10 0) 72 9 0)) :
    am_V M_X11_wipe kc ks 0 [aR 72, aU] [] am_R0 h Q X := by
  refine v_aload_n dX11_wipe_0 rfl rfl ?_
  refine v_iconst dX11_wipe_1 ⟨by decide, by decide⟩ ?_
  refine v_putI (j := 10) dX11_wipe_2 pl_X11_35 am_clsA rfl rfl rfl ?_
  refine v_aload_n dX11_wipe_5 rfl rfl ?_
  refine v_getI (j := 9) dX11_wipe_6 fl_X11_54 am_clsA rfl rfl rfl ?_
  refine v_istore_n (E2 := [aR 72, aI ((am_st h 72 10 0) 72 9)]) dX11_wipe_9 rfl (Nat.le_of_ble_eq_true rfl) rfl ?_
  refine v_aload_n dX11_wipe_10 rfl rfl ?_
  refine v_iconst dX11_wipe_11 ⟨by decide, by decide⟩ ?_
  refine v_putI (j := 9) dX11_wipe_12 pl_X11_54 am_clsA rfl rfl rfl ?_
  refine v_iload_n dX11_wipe_15 rfl rfl ?_
  exact v_iret dX11_wipe_16 rfl rfl k
theorem S_X11_typed_0 {kc ks : Nat} {h : Hh} {Q : PQ} {X : PX} {x1 : Int}
    (k : ((-2147483648 ≤ (((h 72 9) - 1) : Int) ∧ (((h 72 9) - 1) : Int) < 2147483648)) ∧ am_V M_X11_isBetween 0 0 0 [aI x1, aI 0, aI ((h 72 9) - 1)] [] am_R0 h (fun v ρ' h' => am_V M_X11_typed kc ks 12 [aR 72, aI x1] (v ++ [aR 72]) ρ' h' Q X) X) :
    am_V M_X11_typed kc ks 0 [aR 72, aI x1] [] am_R0 h Q X := by
  obtain ⟨b0_1, k⟩ := k
  refine v_aload_n dX11_typed_0 rfl rfl ?_
  refine v_iload_n dX11_typed_1 rfl rfl ?_
  refine v_iconst dX11_typed_2 ⟨by decide, by decide⟩ ?_
  refine v_aload_n dX11_typed_3 rfl rfl ?_
  refine v_getI (j := 9) dX11_typed_4 fl_X11_54 am_clsA rfl rfl rfl ?_
  refine v_iconst dX11_typed_7 ⟨by decide, by decide⟩ ?_
  refine v_isub dX11_typed_8 b0_1 ?_
  exact v_callS (j := M_X11_isBetween) (As := [aI x1, aI 0, aI ((h 72 9) - 1)]) (st := [aR 72]) (E0 := [aI x1, aI 0, aI ((h 72 9) - 1)]) dX11_typed_9 ms_X11_42 J_X11_isBetween (Nat.zero_le _) (Nat.zero_le _) (Nat.le_of_ble_eq_true rfl) rfl (Nat.le_of_ble_eq_true rfl) (List.forall_mem_cons.mpr ⟨rfl, List.forall_mem_cons.mpr ⟨rfl, List.forall_mem_cons.mpr ⟨rfl, fun _ h9 => absurd h9 List.not_mem_nil⟩⟩⟩) (Nat.le_of_ble_eq_true rfl) rfl pn_X11_isBetween rfl k
theorem S_X11_typed_12 {kc ks : Nat} {h : Hh} {Q : PQ} {X : PX} {x1 : Int} {xs0 : Int}
    (k : ((xs0 = 0 → am_V M_X11_isWrong 0 0 0 [aR 72, aI 1] [] am_R0 h (fun v ρ' h' => am_V M_X11_typed kc ks 23 [aR 72, aI x1] (v ++ []) ρ' h' Q X) X) ∧ (xs0 ≠ 0 → am_V M_X11_isWrong 0 0 0 [aR 72, aI 0] [] am_R0 h (fun v ρ' h' => am_V M_X11_typed kc ks 23 [aR 72, aI x1] (v ++ []) ρ' h' Q X) X))) :
    am_V M_X11_typed kc ks 12 [aR 72, aI x1] [aI xs0, aR 72] am_R0 h Q X := by
  refine v_if_eq (tgt := 19) dX11_typed_12 (by decide) (fun z => ?_) (fun z => ?_)
  · have k := k.1 z
    refine v_iconst dX11_typed_19 ⟨by decide, by decide⟩ ?_
    exact v_callV (j := M_X11_isWrong) (As := [aI 1]) (st := []) (E0 := [aR 72, aI 1]) (a := 72) (ci := 9) (N := 11) (q9 := (RX11, TX11, 11)) dX11_typed_20 ml_X11_57 J_X11_isWrong (Nat.zero_le _) (Nat.zero_le _) (Nat.le_of_ble_eq_true rfl) rfl (Nat.le_of_ble_eq_true rfl) (List.forall_mem_cons.mpr ⟨rfl, List.forall_mem_cons.mpr ⟨rfl, fun _ h9 => absurd h9 List.not_mem_nil⟩⟩) (Nat.le_of_ble_eq_true rfl) rfl rfl rfl rfl pn_X11_isWrong rfl k
  · have k := k.2 z
    refine v_iconst dX11_typed_15 ⟨by decide, by decide⟩ ?_
    refine v_goto (tgt := 20) dX11_typed_16 (by decide) ?_
    exact v_callV (j := M_X11_isWrong) (As := [aI 0]) (st := []) (E0 := [aR 72, aI 0]) (a := 72) (ci := 9) (N := 11) (q9 := (RX11, TX11, 11)) dX11_typed_20 ml_X11_57 J_X11_isWrong (Nat.zero_le _) (Nat.zero_le _) (Nat.le_of_ble_eq_true rfl) rfl (Nat.le_of_ble_eq_true rfl) (List.forall_mem_cons.mpr ⟨rfl, List.forall_mem_cons.mpr ⟨rfl, fun _ h9 => absurd h9 List.not_mem_nil⟩⟩) (Nat.le_of_ble_eq_true rfl) rfl rfl rfl rfl pn_X11_isWrong rfl k
theorem S_X11_typed_23 {kc ks : Nat} {h : Hh} {Q : PQ} {X : PX} {x1 : Int} {xs0 : Int}
    (k : ((xs0 = 0 → ((0 : Int) ≤ x1 ∧ (x1 : Int) < 65 ∧ (0 : Int) ≤ (h 75 x1) ∧ ((h 75 x1) : Int) < 65536) ∧ Q [aI (h 75 x1)] am_R0 h) ∧ (xs0 ≠ 0 → Q [aI 0] am_R0 h))) :
    am_V M_X11_typed kc ks 23 [aR 72, aI x1] [aI xs0] am_R0 h Q X := by
  refine v_if_eq (tgt := 30) dX11_typed_23 (by decide) (fun z => ?_) (fun z => ?_)
  · have k := k.1 z
    obtain ⟨⟨b1_1, b1_2, b1_3, b1_4⟩, k⟩ := k
    refine v_aload_n dX11_typed_30 rfl rfl ?_
    refine v_getR (x := 75) dX11_typed_31 fl_X11_17 am_clsA rfl rfl rfl ?_
    refine v_iload_n dX11_typed_34 rfl rfl ?_
    refine v_cald dX11_typed_35 rfl b1_1 b1_2 ?_
    exact v_cret dX11_typed_36 rfl rfl b1_3 b1_4 k
  · have k := k.2 z
    refine v_iconst dX11_typed_26 ⟨by decide, by decide⟩ ?_
    refine v_goto (tgt := 36) dX11_typed_27 (by decide) ?_
    exact v_cret dX11_typed_36 rfl rfl (by decide) (by decide) k
theorem S_X11_text_0 {kc ks : Nat} {h : Hh} {Q : PQ} {X : PX} 
    (k : am_V M_X11_hasEnd 0 0 0 [aR 72, aU] [] am_R0 h (fun v ρ' h' => am_V M_X11_text kc ks 5 [aR 72, aU] (v ++ [aR 72]) ρ' h' Q X) X) :
    am_V M_X11_text kc ks 0 [aR 72, aU] [] am_R0 h Q X := by
  refine v_aload_n dX11_text_0 rfl rfl ?_
  refine v_aload_n dX11_text_1 rfl rfl ?_
  exact v_callV (j := M_X11_hasEnd) (As := []) (st := [aR 72]) (E0 := [aR 72, aU]) (a := 72) (ci := 9) (N := 11) (q9 := (RX11, TX11, 11)) dX11_text_2 ml_X11_64 J_X11_hasEnd (Nat.zero_le _) (Nat.zero_le _) (Nat.le_of_ble_eq_true rfl) rfl (Nat.le_of_ble_eq_true rfl) (List.forall_mem_cons.mpr ⟨rfl, fun _ h9 => absurd h9 List.not_mem_nil⟩) (Nat.le_of_ble_eq_true rfl) rfl rfl rfl rfl pn_X11_hasEnd rfl k
theorem S_X11_text_5 {kc ks : Nat} {h : Hh} {Q : PQ} {X : PX} {xs0 : Int}
    (k : ((xs0 ≠ 0 → am_V M_X11_isWrong 0 0 0 [aR 72, aI 1] [] am_R0 h (fun v ρ' h' => am_V M_X11_text kc ks 38 [aR 72, aU] (v ++ []) ρ' h' Q X) X) ∧ (xs0 = 0 → (((h 72 9) ≤ 64 → (((h 72 8) ≠ 8 → am_V M_X11_isWrong 0 0 0 [aR 72, aI 0] [] am_R0 h (fun v ρ' h' => am_V M_X11_text kc ks 38 [aR 72, aU] (v ++ []) ρ' h' Q X) X) ∧ ((h 72 8) = 8 → am_V M_X11_isWrong 0 0 0 [aR 72, aI 2] [] am_R0 h (fun v ρ' h' => am_V M_X11_text kc ks 38 [aR 72, aU] (v ++ []) ρ' h' Q X) X))) ∧ (64 < (h 72 9) → am_V M_X11_isWrong 0 0 0 [aR 72, aI 1] [] am_R0 h (fun v ρ' h' => am_V M_X11_text kc ks 38 [aR 72, aU] (v ++ []) ρ' h' Q X) X))))) :
    am_V M_X11_text kc ks 5 [aR 72, aU] [aI xs0, aR 72] am_R0 h Q X := by
  refine v_if_ne (tgt := 17) dX11_text_5 (by decide) (fun z => ?_) (fun z => ?_)
  · have k := k.1 z
    refine v_iconst dX11_text_17 ⟨by decide, by decide⟩ ?_
    refine v_goto (tgt := 35) dX11_text_18 (by decide) ?_
    exact v_callV (j := M_X11_isWrong) (As := [aI 1]) (st := []) (E0 := [aR 72, aI 1]) (a := 72) (ci := 9) (N := 11) (q9 := (RX11, TX11, 11)) dX11_text_35 ml_X11_57 J_X11_isWrong (Nat.zero_le _) (Nat.zero_le _) (Nat.le_of_ble_eq_true rfl) rfl (Nat.le_of_ble_eq_true rfl) (List.forall_mem_cons.mpr ⟨rfl, List.forall_mem_cons.mpr ⟨rfl, fun _ h9 => absurd h9 List.not_mem_nil⟩⟩) (Nat.le_of_ble_eq_true rfl) rfl rfl rfl rfl pn_X11_isWrong rfl k
  · have k := k.2 z
    refine v_aload_n dX11_text_8 rfl rfl ?_
    refine v_getI (j := 9) dX11_text_9 fl_X11_54 am_clsA rfl rfl rfl ?_
    refine v_bipush dX11_text_12 (by decide) (by decide) ?_
    refine v_icmp_le (tgt := 21) dX11_text_14 (by decide) (fun z => ?_) (fun z => ?_)
    · have k := k.1 z
      refine v_aload_n dX11_text_21 rfl rfl ?_
      refine v_getI (j := 8) dX11_text_22 fl_X11_39 am_clsA rfl rfl rfl ?_
      refine v_bipush dX11_text_25 (by decide) (by decide) ?_
      refine v_icmp_ne (tgt := 34) dX11_text_27 (by decide) (fun z => ?_) (fun z => ?_)
      · have k := k.1 z
        refine v_iconst dX11_text_34 ⟨by decide, by decide⟩ ?_
        exact v_callV (j := M_X11_isWrong) (As := [aI 0]) (st := []) (E0 := [aR 72, aI 0]) (a := 72) (ci := 9) (N := 11) (q9 := (RX11, TX11, 11)) dX11_text_35 ml_X11_57 J_X11_isWrong (Nat.zero_le _) (Nat.zero_le _) (Nat.le_of_ble_eq_true rfl) rfl (Nat.le_of_ble_eq_true rfl) (List.forall_mem_cons.mpr ⟨rfl, List.forall_mem_cons.mpr ⟨rfl, fun _ h9 => absurd h9 List.not_mem_nil⟩⟩) (Nat.le_of_ble_eq_true rfl) rfl rfl rfl rfl pn_X11_isWrong rfl k
      · have k := k.2 z
        refine v_iconst dX11_text_30 ⟨by decide, by decide⟩ ?_
        refine v_goto (tgt := 35) dX11_text_31 (by decide) ?_
        exact v_callV (j := M_X11_isWrong) (As := [aI 2]) (st := []) (E0 := [aR 72, aI 2]) (a := 72) (ci := 9) (N := 11) (q9 := (RX11, TX11, 11)) dX11_text_35 ml_X11_57 J_X11_isWrong (Nat.zero_le _) (Nat.zero_le _) (Nat.le_of_ble_eq_true rfl) rfl (Nat.le_of_ble_eq_true rfl) (List.forall_mem_cons.mpr ⟨rfl, List.forall_mem_cons.mpr ⟨rfl, fun _ h9 => absurd h9 List.not_mem_nil⟩⟩) (Nat.le_of_ble_eq_true rfl) rfl rfl rfl rfl pn_X11_isWrong rfl k
    · have k := k.2 z
      refine v_iconst dX11_text_17 ⟨by decide, by decide⟩ ?_
      refine v_goto (tgt := 35) dX11_text_18 (by decide) ?_
      exact v_callV (j := M_X11_isWrong) (As := [aI 1]) (st := []) (E0 := [aR 72, aI 1]) (a := 72) (ci := 9) (N := 11) (q9 := (RX11, TX11, 11)) dX11_text_35 ml_X11_57 J_X11_isWrong (Nat.zero_le _) (Nat.zero_le _) (Nat.le_of_ble_eq_true rfl) rfl (Nat.le_of_ble_eq_true rfl) (List.forall_mem_cons.mpr ⟨rfl, List.forall_mem_cons.mpr ⟨rfl, fun _ h9 => absurd h9 List.not_mem_nil⟩⟩) (Nat.le_of_ble_eq_true rfl) rfl rfl rfl rfl pn_X11_isWrong rfl k
theorem S_X11_text_38 {kc ks : Nat} {h : Hh} {Q : PQ} {X : PX} {xs0 : Int}
    (k : ((xs0 = 0 → am_V M_X11_text kc ks 45 [aR 72, aI 0] [] am_R0 h Q X) ∧ (xs0 ≠ 0 → Q [aI 0] am_R0 h))) :
    am_V M_X11_text kc ks 38 [aR 72, aU] [aI xs0] am_R0 h Q X := by
  refine v_if_eq (tgt := 43) dX11_text_38 (by decide) (fun z => ?_) (fun z => ?_)
  · have k := k.1 z
    refine v_iconst dX11_text_43 ⟨by decide, by decide⟩ ?_
    refine v_istore_n (E2 := [aR 72, aI 0]) dX11_text_44 rfl (Nat.le_of_ble_eq_true rfl) rfl ?_
    exact k
  · have k := k.2 z
    refine v_iconst dX11_text_41 ⟨by decide, by decide⟩ ?_
    exact v_iret dX11_text_42 rfl rfl k
theorem S_X11_text_45 {kc ks : Nat} {h : Hh} {Q : PQ} {X : PX} {x1 : Int}
    (k : (((h 72 9) ≤ x1 → ((0 : Int) ≤ (h 72 8) ∧ ((h 72 8) : Int) < 9 ∧ (-2147483648 ≤ ((((am_st (am_st h 74 (h 72 8) (h 72 9)) 72 9 0) 72 8) + 1) : Int) ∧ ((((am_st (am_st h 74 (h 72 8) (h 72 9)) 72 9 0) 72 8) + 1) : Int) < 2147483648) ∧ (-2147483648 ≤ ((((am_st (am_st (am_st h 74 (h 72 8) (h 72 9)) 72 9 0) 72 8 (((am_st (am_st h 74 (h 72 8) (h 72 9)) 72 9 0) 72 8) + 1)) 72 8) - 1) : Int) ∧ ((((am_st (am_st (am_st h 74 (h 72 8) (h 72 9)) 72 9 0) 72 8 (((am_st (am_st h 74 (h 72 8) (h 72 9)) 72 9 0) 72 8) + 1)) 72 8) - 1) : Int) < 2147483648)) ∧ Q [aI (((am_st (am_st (am_st h 74 (h 72 8) (h 72 9)) 72 9 0) 72 8 (((am_st (am_st h 74 (h 72 8) (h 72 9)) 72 9 0) 72 8) + 1)) 72 8) - 1)] am_R0 (am_st (am_st (am_st h 74 (h 72 8) (h 72 9)) 72 9 0) 72 8 (((am_st (am_st h 74 (h 72 8) (h 72 9)) 72 9 0) 72 8) + 1))) ∧ (x1 < (h 72 9) → ((-2147483648 ≤ ((64 * (h 72 8)) : Int) ∧ ((64 * (h 72 8)) : Int) < 2147483648) ∧ (-2147483648 ≤ (((64 * (h 72 8)) + x1) : Int) ∧ (((64 * (h 72 8)) + x1) : Int) < 2147483648) ∧ (0 : Int) ≤ x1 ∧ (x1 : Int) < 65 ∧ (0 : Int) ≤ ((64 * (h 72 8)) + x1) ∧ (((64 * (h 72 8)) + x1) : Int) < 576 ∧ (-2147483648 ≤ ((x1 + 1) : Int) ∧ ((x1 + 1) : Int) < 2147483648)) ∧ am_V M_X11_text kc ks 45 [aR 72, aI (x1 + 1)] [] am_R0 (am_st h 73 ((64 * (h 72 8)) + x1) ((h 75 x1) % 65536)) Q X))) :
    am_V M_X11_text kc ks 45 [aR 72, aI x1] [] am_R0 h Q X := by
  refine v_iload_n dX11_text_45 rfl rfl ?_
  refine v_aload_n dX11_text_46 rfl rfl ?_
  refine v_getI (j := 9) dX11_text_47 fl_X11_54 am_clsA rfl rfl rfl ?_
  refine v_icmp_ge (tgt := 79) dX11_text_50 (by decide) (fun z => ?_) (fun z => ?_)
  · have k := k.1 z
    obtain ⟨⟨b1_1, b1_2, b1_3, b1_4⟩, k⟩ := k
    refine v_aload_n dX11_text_79 rfl rfl ?_
    refine v_getR (x := 74) dX11_text_80 fl_X11_13 am_clsA rfl rfl rfl ?_
    refine v_aload_n dX11_text_83 rfl rfl ?_
    refine v_getI (j := 8) dX11_text_84 fl_X11_39 am_clsA rfl rfl rfl ?_
    refine v_aload_n dX11_text_87 rfl rfl ?_
    refine v_getI (j := 9) dX11_text_88 fl_X11_54 am_clsA rfl rfl rfl ?_
    refine v_iast dX11_text_91 rfl b1_1 b1_2 ?_
    refine v_aload_n dX11_text_92 rfl rfl ?_
    refine v_iconst dX11_text_93 ⟨by decide, by decide⟩ ?_
    refine v_putI (j := 9) dX11_text_94 pl_X11_54 am_clsA rfl rfl rfl ?_
    refine v_aload_n dX11_text_97 rfl rfl ?_
    refine v_dupR dX11_text_98 ?_
    refine v_getI (j := 8) dX11_text_99 fl_X11_39 am_clsA rfl rfl rfl ?_
    refine v_iconst dX11_text_102 ⟨by decide, by decide⟩ ?_
    refine v_iadd dX11_text_103 b1_3 ?_
    refine v_putI (j := 8) dX11_text_104 pl_X11_39 am_clsA rfl rfl rfl ?_
    refine v_aload_n dX11_text_107 rfl rfl ?_
    refine v_getI (j := 8) dX11_text_108 fl_X11_39 am_clsA rfl rfl rfl ?_
    refine v_iconst dX11_text_111 ⟨by decide, by decide⟩ ?_
    refine v_isub dX11_text_112 b1_4 ?_
    exact v_iret dX11_text_113 rfl rfl k
  · have k := k.2 z
    obtain ⟨⟨b1_1, b1_2, b1_3, b1_4, b1_5, b1_6, b1_7⟩, k⟩ := k
    refine v_aload_n dX11_text_53 rfl rfl ?_
    refine v_getR (x := 73) dX11_text_54 fl_X11_7 am_clsA rfl rfl rfl ?_
    refine v_bipush dX11_text_57 (by decide) (by decide) ?_
    refine v_aload_n dX11_text_59 rfl rfl ?_
    refine v_getI (j := 8) dX11_text_60 fl_X11_39 am_clsA rfl rfl rfl ?_
    refine v_imul dX11_text_63 b1_1 ?_
    refine v_iload_n dX11_text_64 rfl rfl ?_
    refine v_iadd dX11_text_65 b1_2 ?_
    refine v_aload_n dX11_text_66 rfl rfl ?_
    refine v_getR (x := 75) dX11_text_67 fl_X11_17 am_clsA rfl rfl rfl ?_
    refine v_iload_n dX11_text_70 rfl rfl ?_
    refine v_cald dX11_text_71 rfl b1_3 b1_4 ?_
    refine v_cast dX11_text_72 rfl b1_5 b1_6 ?_
    refine v_iinc (E2 := [aR 72, aI (x1 + 1)]) dX11_text_73 rfl b1_7 rfl ?_
    refine v_goto (tgt := 45) dX11_text_76 (by decide) ?_
    exact k
theorem S_X11_take_0 {kc ks : Nat} {h : Hh} {Q : PQ} {X : PX} {x1 : Int}
    (k : am_V M_X11_isNone 0 0 0 [aR 72, aI x1] [] am_R0 h (fun v ρ' h' => am_V M_X11_take kc ks 5 [aR 72, aI x1, aU] (v ++ []) ρ' h' Q X) X) :
    am_V M_X11_take kc ks 0 [aR 72, aI x1, aU] [] am_R0 h Q X := by
  refine v_aload_n dX11_take_0 rfl rfl ?_
  refine v_iload_n dX11_take_1 rfl rfl ?_
  exact v_callV (j := M_X11_isNone) (As := [aI x1]) (st := []) (E0 := [aR 72, aI x1]) (a := 72) (ci := 9) (N := 11) (q9 := (RX11, TX11, 11)) dX11_take_2 ml_X11_68 J_X11_isNone (Nat.zero_le _) (Nat.zero_le _) (Nat.le_of_ble_eq_true rfl) rfl (Nat.le_of_ble_eq_true rfl) (List.forall_mem_cons.mpr ⟨rfl, List.forall_mem_cons.mpr ⟨rfl, fun _ h9 => absurd h9 List.not_mem_nil⟩⟩) (Nat.le_of_ble_eq_true rfl) rfl rfl rfl rfl pn_X11_isNone rfl k
theorem S_X11_take_5 {kc ks : Nat} {h : Hh} {Q : PQ} {X : PX} {x1 : Int} {xs0 : Int}
    (k : ((xs0 = 0 → ((0 : Int) ≤ x1 ∧ (x1 : Int) < 9) ∧ am_V M_X11_take kc ks 22 [aR 72, aI x1, aI 0] [] am_R0 (am_st h 72 9 (h 74 x1)) Q X) ∧ (xs0 ≠ 0 → Q [aI 0] am_R0 h))) :
    am_V M_X11_take kc ks 5 [aR 72, aI x1, aU] [aI xs0] am_R0 h Q X := by
  refine v_if_eq (tgt := 10) dX11_take_5 (by decide) (fun z => ?_) (fun z => ?_)
  · have k := k.1 z
    obtain ⟨⟨b1_1, b1_2⟩, k⟩ := k
    refine v_aload_n dX11_take_10 rfl rfl ?_
    refine v_aload_n dX11_take_11 rfl rfl ?_
    refine v_getR (x := 74) dX11_take_12 fl_X11_13 am_clsA rfl rfl rfl ?_
    refine v_iload_n dX11_take_15 rfl rfl ?_
    refine v_iald dX11_take_16 rfl b1_1 b1_2 ?_
    refine v_putI (j := 9) dX11_take_17 pl_X11_54 am_clsA rfl rfl rfl ?_
    refine v_iconst dX11_take_20 ⟨by decide, by decide⟩ ?_
    refine v_istore_n (E2 := [aR 72, aI x1, aI 0]) dX11_take_21 rfl (Nat.le_of_ble_eq_true rfl) rfl ?_
    exact k
  · have k := k.2 z
    refine v_iconst dX11_take_8 ⟨by decide, by decide⟩ ?_
    exact v_iret dX11_take_9 rfl rfl k
theorem S_X11_take_22 {kc ks : Nat} {h : Hh} {Q : PQ} {X : PX} {x1 : Int} {x2 : Int}
    (k : (((h 72 9) ≤ x2 → Q [aI (h 72 9)] am_R0 h) ∧ (x2 < (h 72 9) → ((-2147483648 ≤ ((64 * x1) : Int) ∧ ((64 * x1) : Int) < 2147483648) ∧ (-2147483648 ≤ (((64 * x1) + x2) : Int) ∧ (((64 * x1) + x2) : Int) < 2147483648) ∧ (0 : Int) ≤ ((64 * x1) + x2) ∧ (((64 * x1) + x2) : Int) < 576 ∧ (0 : Int) ≤ x2 ∧ (x2 : Int) < 65 ∧ (-2147483648 ≤ ((x2 + 1) : Int) ∧ ((x2 + 1) : Int) < 2147483648)) ∧ am_V M_X11_take kc ks 22 [aR 72, aI x1, aI (x2 + 1)] [] am_R0 (am_st h 75 x2 ((h 73 ((64 * x1) + x2)) % 65536)) Q X))) :
    am_V M_X11_take kc ks 22 [aR 72, aI x1, aI x2] [] am_R0 h Q X := by
  refine v_iload_n dX11_take_22 rfl rfl ?_
  refine v_aload_n dX11_take_23 rfl rfl ?_
  refine v_getI (j := 9) dX11_take_24 fl_X11_54 am_clsA rfl rfl rfl ?_
  refine v_icmp_ge (tgt := 53) dX11_take_27 (by decide) (fun z => ?_) (fun z => ?_)
  · have k := k.1 z
    refine v_aload_n dX11_take_53 rfl rfl ?_
    refine v_getI (j := 9) dX11_take_54 fl_X11_54 am_clsA rfl rfl rfl ?_
    exact v_iret dX11_take_57 rfl rfl k
  · have k := k.2 z
    obtain ⟨⟨b1_1, b1_2, b1_3, b1_4, b1_5, b1_6, b1_7⟩, k⟩ := k
    refine v_aload_n dX11_take_30 rfl rfl ?_
    refine v_getR (x := 75) dX11_take_31 fl_X11_17 am_clsA rfl rfl rfl ?_
    refine v_iload_n dX11_take_34 rfl rfl ?_
    refine v_aload_n dX11_take_35 rfl rfl ?_
    refine v_getR (x := 73) dX11_take_36 fl_X11_7 am_clsA rfl rfl rfl ?_
    refine v_bipush dX11_take_39 (by decide) (by decide) ?_
    refine v_iload_n dX11_take_41 rfl rfl ?_
    refine v_imul dX11_take_42 b1_1 ?_
    refine v_iload_n dX11_take_43 rfl rfl ?_
    refine v_iadd dX11_take_44 b1_2 ?_
    refine v_cald dX11_take_45 rfl b1_3 b1_4 ?_
    refine v_cast dX11_take_46 rfl b1_5 b1_6 ?_
    refine v_iinc (E2 := [aR 72, aI x1, aI (x2 + 1)]) dX11_take_47 rfl b1_7 rfl ?_
    refine v_goto (tgt := 22) dX11_take_50 (by decide) ?_
    exact k
theorem S_X11_length_0 {kc ks : Nat} {h : Hh} {Q : PQ} {X : PX} {x1 : Int}
    (k : am_V M_X11_isNone 0 0 0 [aR 72, aI x1] [] am_R0 h (fun v ρ' h' => am_V M_X11_length kc ks 5 [aR 72, aI x1] (v ++ []) ρ' h' Q X) X) :
    am_V M_X11_length kc ks 0 [aR 72, aI x1] [] am_R0 h Q X := by
  refine v_aload_n dX11_length_0 rfl rfl ?_
  refine v_iload_n dX11_length_1 rfl rfl ?_
  exact v_callV (j := M_X11_isNone) (As := [aI x1]) (st := []) (E0 := [aR 72, aI x1]) (a := 72) (ci := 9) (N := 11) (q9 := (RX11, TX11, 11)) dX11_length_2 ml_X11_68 J_X11_isNone (Nat.zero_le _) (Nat.zero_le _) (Nat.le_of_ble_eq_true rfl) rfl (Nat.le_of_ble_eq_true rfl) (List.forall_mem_cons.mpr ⟨rfl, List.forall_mem_cons.mpr ⟨rfl, fun _ h9 => absurd h9 List.not_mem_nil⟩⟩) (Nat.le_of_ble_eq_true rfl) rfl rfl rfl rfl pn_X11_isNone rfl k
theorem S_X11_length_5 {kc ks : Nat} {h : Hh} {Q : PQ} {X : PX} {x1 : Int} {xs0 : Int}
    (k : ((xs0 = 0 → ((0 : Int) ≤ x1 ∧ (x1 : Int) < 9) ∧ Q [aI (h 74 x1)] am_R0 h) ∧ (xs0 ≠ 0 → Q [aI 0] am_R0 h))) :
    am_V M_X11_length kc ks 5 [aR 72, aI x1] [aI xs0] am_R0 h Q X := by
  refine v_if_eq (tgt := 12) dX11_length_5 (by decide) (fun z => ?_) (fun z => ?_)
  · have k := k.1 z
    obtain ⟨⟨b1_1, b1_2⟩, k⟩ := k
    refine v_aload_n dX11_length_12 rfl rfl ?_
    refine v_getR (x := 74) dX11_length_13 fl_X11_13 am_clsA rfl rfl rfl ?_
    refine v_iload_n dX11_length_16 rfl rfl ?_
    refine v_iald dX11_length_17 rfl b1_1 b1_2 ?_
    exact v_iret dX11_length_18 rfl rfl k
  · have k := k.2 z
    refine v_iconst dX11_length_8 ⟨by decide, by decide⟩ ?_
    refine v_goto (tgt := 18) dX11_length_9 (by decide) ?_
    exact v_iret dX11_length_18 rfl rfl k
theorem S_X11_signAt_0 {kc ks : Nat} {h : Hh} {Q : PQ} {X : PX} {x1 : Int} {x2 : Int}
    (k : am_V M_X11_isNoPlace 0 0 0 [aR 72, aI x1, aI x2] [] am_R0 h (fun v ρ' h' => am_V M_X11_signAt kc ks 6 [aR 72, aI x1, aI x2] (v ++ []) ρ' h' Q X) X) :
    am_V M_X11_signAt kc ks 0 [aR 72, aI x1, aI x2] [] am_R0 h Q X := by
  refine v_aload_n dX11_signAt_0 rfl rfl ?_
  refine v_iload_n dX11_signAt_1 rfl rfl ?_
  refine v_iload_n dX11_signAt_2 rfl rfl ?_
  exact v_callV (j := M_X11_isNoPlace) (As := [aI x1, aI x2]) (st := []) (E0 := [aR 72, aI x1, aI x2]) (a := 72) (ci := 9) (N := 11) (q9 := (RX11, TX11, 11)) dX11_signAt_3 ml_X11_75 J_X11_isNoPlace (Nat.zero_le _) (Nat.zero_le _) (Nat.le_of_ble_eq_true rfl) rfl (Nat.le_of_ble_eq_true rfl) (List.forall_mem_cons.mpr ⟨rfl, List.forall_mem_cons.mpr ⟨rfl, List.forall_mem_cons.mpr ⟨rfl, fun _ h9 => absurd h9 List.not_mem_nil⟩⟩⟩) (Nat.le_of_ble_eq_true rfl) rfl rfl rfl rfl pn_X11_isNoPlace rfl k
theorem S_X11_signAt_6 {kc ks : Nat} {h : Hh} {Q : PQ} {X : PX} {x1 : Int} {x2 : Int} {xs0 : Int}
    (k : ((xs0 = 0 → ((-2147483648 ≤ ((64 * x1) : Int) ∧ ((64 * x1) : Int) < 2147483648) ∧ (-2147483648 ≤ (((64 * x1) + x2) : Int) ∧ (((64 * x1) + x2) : Int) < 2147483648) ∧ (0 : Int) ≤ ((64 * x1) + x2) ∧ (((64 * x1) + x2) : Int) < 576 ∧ (0 : Int) ≤ (h 73 ((64 * x1) + x2)) ∧ ((h 73 ((64 * x1) + x2)) : Int) < 65536) ∧ Q [aI (h 73 ((64 * x1) + x2))] am_R0 h) ∧ (xs0 ≠ 0 → Q [aI 0] am_R0 h))) :
    am_V M_X11_signAt kc ks 6 [aR 72, aI x1, aI x2] [aI xs0] am_R0 h Q X := by
  refine v_if_eq (tgt := 13) dX11_signAt_6 (by decide) (fun z => ?_) (fun z => ?_)
  · have k := k.1 z
    obtain ⟨⟨b1_1, b1_2, b1_3, b1_4, b1_5, b1_6⟩, k⟩ := k
    refine v_aload_n dX11_signAt_13 rfl rfl ?_
    refine v_getR (x := 73) dX11_signAt_14 fl_X11_7 am_clsA rfl rfl rfl ?_
    refine v_bipush dX11_signAt_17 (by decide) (by decide) ?_
    refine v_iload_n dX11_signAt_19 rfl rfl ?_
    refine v_imul dX11_signAt_20 b1_1 ?_
    refine v_iload_n dX11_signAt_21 rfl rfl ?_
    refine v_iadd dX11_signAt_22 b1_2 ?_
    refine v_cald dX11_signAt_23 rfl b1_3 b1_4 ?_
    exact v_cret dX11_signAt_24 rfl rfl b1_5 b1_6 k
  · have k := k.2 z
    refine v_iconst dX11_signAt_9 ⟨by decide, by decide⟩ ?_
    refine v_goto (tgt := 24) dX11_signAt_10 (by decide) ?_
    exact v_cret dX11_signAt_24 rfl rfl (by decide) (by decide) k
theorem S_X11_mirror_0 {kc ks : Nat} {h : Hh} {Q : PQ} {X : PX} {x1 : Int}
    (k : am_V M_X11_isText 0 0 0 [aR 72, aI x1] [] am_R0 h (fun v ρ' h' => am_V M_X11_mirror kc ks 6 [aR 72, aI x1, aU] (v ++ [aR 72]) ρ' h' Q X) X) :
    am_V M_X11_mirror kc ks 0 [aR 72, aI x1, aU] [] am_R0 h Q X := by
  refine v_aload_n dX11_mirror_0 rfl rfl ?_
  refine v_aload_n dX11_mirror_1 rfl rfl ?_
  refine v_iload_n dX11_mirror_2 rfl rfl ?_
  exact v_callV (j := M_X11_isText) (As := [aI x1]) (st := [aR 72]) (E0 := [aR 72, aI x1]) (a := 72) (ci := 9) (N := 11) (q9 := (RX11, TX11, 11)) dX11_mirror_3 ml_X11_46 J_X11_isText (Nat.zero_le _) (Nat.zero_le _) (Nat.le_of_ble_eq_true rfl) rfl (Nat.le_of_ble_eq_true rfl) (List.forall_mem_cons.mpr ⟨rfl, List.forall_mem_cons.mpr ⟨rfl, fun _ h9 => absurd h9 List.not_mem_nil⟩⟩) (Nat.le_of_ble_eq_true rfl) rfl rfl rfl rfl pn_X11_isText rfl k
theorem S_X11_mirror_6 {kc ks : Nat} {h : Hh} {Q : PQ} {X : PX} {x1 : Int} {xs0 : Int}
    (k : ((xs0 ≠ 0 → (((h 72 8) ≠ 8 → am_V M_X11_isWrong 0 0 0 [aR 72, aI 0] [] am_R0 h (fun v ρ' h' => am_V M_X11_mirror kc ks 30 [aR 72, aI x1, aU] (v ++ []) ρ' h' Q X) X) ∧ ((h 72 8) = 8 → am_V M_X11_isWrong 0 0 0 [aR 72, aI 2] [] am_R0 h (fun v ρ' h' => am_V M_X11_mirror kc ks 30 [aR 72, aI x1, aU] (v ++ []) ρ' h' Q X) X))) ∧ (xs0 = 0 → am_V M_X11_isWrong 0 0 0 [aR 72, aI 1] [] am_R0 h (fun v ρ' h' => am_V M_X11_mirror kc ks 30 [aR 72, aI x1, aU] (v ++ []) ρ' h' Q X) X))) :
    am_V M_X11_mirror kc ks 6 [aR 72, aI x1, aU] [aI xs0, aR 72] am_R0 h Q X := by
  refine v_if_ne (tgt := 13) dX11_mirror_6 (by decide) (fun z => ?_) (fun z => ?_)
  · have k := k.1 z
    refine v_aload_n dX11_mirror_13 rfl rfl ?_
    refine v_getI (j := 8) dX11_mirror_14 fl_X11_39 am_clsA rfl rfl rfl ?_
    refine v_bipush dX11_mirror_17 (by decide) (by decide) ?_
    refine v_icmp_ne (tgt := 26) dX11_mirror_19 (by decide) (fun z => ?_) (fun z => ?_)
    · have k := k.1 z
      refine v_iconst dX11_mirror_26 ⟨by decide, by decide⟩ ?_
      exact v_callV (j := M_X11_isWrong) (As := [aI 0]) (st := []) (E0 := [aR 72, aI 0]) (a := 72) (ci := 9) (N := 11) (q9 := (RX11, TX11, 11)) dX11_mirror_27 ml_X11_57 J_X11_isWrong (Nat.zero_le _) (Nat.zero_le _) (Nat.le_of_ble_eq_true rfl) rfl (Nat.le_of_ble_eq_true rfl) (List.forall_mem_cons.mpr ⟨rfl, List.forall_mem_cons.mpr ⟨rfl, fun _ h9 => absurd h9 List.not_mem_nil⟩⟩) (Nat.le_of_ble_eq_true rfl) rfl rfl rfl rfl pn_X11_isWrong rfl k
    · have k := k.2 z
      refine v_iconst dX11_mirror_22 ⟨by decide, by decide⟩ ?_
      refine v_goto (tgt := 27) dX11_mirror_23 (by decide) ?_
      exact v_callV (j := M_X11_isWrong) (As := [aI 2]) (st := []) (E0 := [aR 72, aI 2]) (a := 72) (ci := 9) (N := 11) (q9 := (RX11, TX11, 11)) dX11_mirror_27 ml_X11_57 J_X11_isWrong (Nat.zero_le _) (Nat.zero_le _) (Nat.le_of_ble_eq_true rfl) rfl (Nat.le_of_ble_eq_true rfl) (List.forall_mem_cons.mpr ⟨rfl, List.forall_mem_cons.mpr ⟨rfl, fun _ h9 => absurd h9 List.not_mem_nil⟩⟩) (Nat.le_of_ble_eq_true rfl) rfl rfl rfl rfl pn_X11_isWrong rfl k
  · have k := k.2 z
    refine v_iconst dX11_mirror_9 ⟨by decide, by decide⟩ ?_
    refine v_goto (tgt := 27) dX11_mirror_10 (by decide) ?_
    exact v_callV (j := M_X11_isWrong) (As := [aI 1]) (st := []) (E0 := [aR 72, aI 1]) (a := 72) (ci := 9) (N := 11) (q9 := (RX11, TX11, 11)) dX11_mirror_27 ml_X11_57 J_X11_isWrong (Nat.zero_le _) (Nat.zero_le _) (Nat.le_of_ble_eq_true rfl) rfl (Nat.le_of_ble_eq_true rfl) (List.forall_mem_cons.mpr ⟨rfl, List.forall_mem_cons.mpr ⟨rfl, fun _ h9 => absurd h9 List.not_mem_nil⟩⟩) (Nat.le_of_ble_eq_true rfl) rfl rfl rfl rfl pn_X11_isWrong rfl k
theorem S_X11_mirror_30 {kc ks : Nat} {h : Hh} {Q : PQ} {X : PX} {x1 : Int} {xs0 : Int}
    (k : ((xs0 = 0 → am_V M_X11_mirror kc ks 37 [aR 72, aI x1, aI 0] [] am_R0 h Q X) ∧ (xs0 ≠ 0 → Q [aI 0] am_R0 h))) :
    am_V M_X11_mirror kc ks 30 [aR 72, aI x1, aU] [aI xs0] am_R0 h Q X := by
  refine v_if_eq (tgt := 35) dX11_mirror_30 (by decide) (fun z => ?_) (fun z => ?_)
  · have k := k.1 z
    refine v_iconst dX11_mirror_35 ⟨by decide, by decide⟩ ?_
    refine v_istore_n (E2 := [aR 72, aI x1, aI 0]) dX11_mirror_36 rfl (Nat.le_of_ble_eq_true rfl) rfl ?_
    exact k
  · have k := k.2 z
    refine v_iconst dX11_mirror_33 ⟨by decide, by decide⟩ ?_
    exact v_iret dX11_mirror_34 rfl rfl k
theorem S_X11_mirror_37 {kc ks : Nat} {h : Hh} {Q : PQ} {X : PX} {x1 : Int} {x2 : Int}
    (k : ((0 : Int) ≤ x1 ∧ (x1 : Int) < 9) ∧ (((h 74 x1) ≤ x2 → ((0 : Int) ≤ x1 ∧ (x1 : Int) < 9 ∧ (0 : Int) ≤ (h 72 8) ∧ ((h 72 8) : Int) < 9 ∧ (-2147483648 ≤ ((((am_st h 74 (h 72 8) (h 74 x1)) 72 8) + 1) : Int) ∧ ((((am_st h 74 (h 72 8) (h 74 x1)) 72 8) + 1) : Int) < 2147483648) ∧ (-2147483648 ≤ ((((am_st (am_st h 74 (h 72 8) (h 74 x1)) 72 8 (((am_st h 74 (h 72 8) (h 74 x1)) 72 8) + 1)) 72 8) - 1) : Int) ∧ ((((am_st (am_st h 74 (h 72 8) (h 74 x1)) 72 8 (((am_st h 74 (h 72 8) (h 74 x1)) 72 8) + 1)) 72 8) - 1) : Int) < 2147483648)) ∧ Q [aI (((am_st (am_st h 74 (h 72 8) (h 74 x1)) 72 8 (((am_st h 74 (h 72 8) (h 74 x1)) 72 8) + 1)) 72 8) - 1)] am_R0 (am_st (am_st h 74 (h 72 8) (h 74 x1)) 72 8 (((am_st h 74 (h 72 8) (h 74 x1)) 72 8) + 1))) ∧ (x2 < (h 74 x1) → ((-2147483648 ≤ ((64 * (h 72 8)) : Int) ∧ ((64 * (h 72 8)) : Int) < 2147483648) ∧ (-2147483648 ≤ (((64 * (h 72 8)) + x2) : Int) ∧ (((64 * (h 72 8)) + x2) : Int) < 2147483648) ∧ (-2147483648 ≤ ((64 * x1) : Int) ∧ ((64 * x1) : Int) < 2147483648) ∧ (0 : Int) ≤ x1 ∧ (x1 : Int) < 9 ∧ (-2147483648 ≤ (((64 * x1) + (h 74 x1)) : Int) ∧ (((64 * x1) + (h 74 x1)) : Int) < 2147483648) ∧ (-2147483648 ≤ ((((64 * x1) + (h 74 x1)) - 1) : Int) ∧ ((((64 * x1) + (h 74 x1)) - 1) : Int) < 2147483648) ∧ (-2147483648 ≤ (((((64 * x1) + (h 74 x1)) - 1) - x2) : Int) ∧ (((((64 * x1) + (h 74 x1)) - 1) - x2) : Int) < 2147483648) ∧ (0 : Int) ≤ ((((64 * x1) + (h 74 x1)) - 1) - x2) ∧ (((((64 * x1) + (h 74 x1)) - 1) - x2) : Int) < 576 ∧ (0 : Int) ≤ ((64 * (h 72 8)) + x2) ∧ (((64 * (h 72 8)) + x2) : Int) < 576 ∧ (-2147483648 ≤ ((x2 + 1) : Int) ∧ ((x2 + 1) : Int) < 2147483648)) ∧ am_V M_X11_mirror kc ks 37 [aR 72, aI x1, aI (x2 + 1)] [] am_R0 (am_st h 73 ((64 * (h 72 8)) + x2) ((h 73 ((((64 * x1) + (h 74 x1)) - 1) - x2)) % 65536)) Q X))) :
    am_V M_X11_mirror kc ks 37 [aR 72, aI x1, aI x2] [] am_R0 h Q X := by
  obtain ⟨⟨b0_1, b0_2⟩, k⟩ := k
  refine v_iload_n dX11_mirror_37 rfl rfl ?_
  refine v_aload_n dX11_mirror_38 rfl rfl ?_
  refine v_getR (x := 74) dX11_mirror_39 fl_X11_13 am_clsA rfl rfl rfl ?_
  refine v_iload_n dX11_mirror_42 rfl rfl ?_
  refine v_iald dX11_mirror_43 rfl b0_1 b0_2 ?_
  refine v_icmp_ge (tgt := 87) dX11_mirror_44 (by decide) (fun z => ?_) (fun z => ?_)
  · have k := k.1 z
    obtain ⟨⟨b1_1, b1_2, b1_3, b1_4, b1_5, b1_6⟩, k⟩ := k
    refine v_aload_n dX11_mirror_87 rfl rfl ?_
    refine v_getR (x := 74) dX11_mirror_88 fl_X11_13 am_clsA rfl rfl rfl ?_
    refine v_aload_n dX11_mirror_91 rfl rfl ?_
    refine v_getI (j := 8) dX11_mirror_92 fl_X11_39 am_clsA rfl rfl rfl ?_
    refine v_aload_n dX11_mirror_95 rfl rfl ?_
    refine v_getR (x := 74) dX11_mirror_96 fl_X11_13 am_clsA rfl rfl rfl ?_
    refine v_iload_n dX11_mirror_99 rfl rfl ?_
    refine v_iald dX11_mirror_100 rfl b1_1 b1_2 ?_
    refine v_iast dX11_mirror_101 rfl b1_3 b1_4 ?_
    refine v_aload_n dX11_mirror_102 rfl rfl ?_
    refine v_dupR dX11_mirror_103 ?_
    refine v_getI (j := 8) dX11_mirror_104 fl_X11_39 am_clsA rfl rfl rfl ?_
    refine v_iconst dX11_mirror_107 ⟨by decide, by decide⟩ ?_
    refine v_iadd dX11_mirror_108 b1_5 ?_
    refine v_putI (j := 8) dX11_mirror_109 pl_X11_39 am_clsA rfl rfl rfl ?_
    refine v_aload_n dX11_mirror_112 rfl rfl ?_
    refine v_getI (j := 8) dX11_mirror_113 fl_X11_39 am_clsA rfl rfl rfl ?_
    refine v_iconst dX11_mirror_116 ⟨by decide, by decide⟩ ?_
    refine v_isub dX11_mirror_117 b1_6 ?_
    exact v_iret dX11_mirror_118 rfl rfl k
  · have k := k.2 z
    obtain ⟨⟨b1_1, b1_2, b1_3, b1_4, b1_5, b1_6, b1_7, b1_8, b1_9, b1_10, b1_11, b1_12, b1_13⟩, k⟩ := k
    refine v_aload_n dX11_mirror_47 rfl rfl ?_
    refine v_getR (x := 73) dX11_mirror_48 fl_X11_7 am_clsA rfl rfl rfl ?_
    refine v_bipush dX11_mirror_51 (by decide) (by decide) ?_
    refine v_aload_n dX11_mirror_53 rfl rfl ?_
    refine v_getI (j := 8) dX11_mirror_54 fl_X11_39 am_clsA rfl rfl rfl ?_
    refine v_imul dX11_mirror_57 b1_1 ?_
    refine v_iload_n dX11_mirror_58 rfl rfl ?_
    refine v_iadd dX11_mirror_59 b1_2 ?_
    refine v_aload_n dX11_mirror_60 rfl rfl ?_
    refine v_getR (x := 73) dX11_mirror_61 fl_X11_7 am_clsA rfl rfl rfl ?_
    refine v_bipush dX11_mirror_64 (by decide) (by decide) ?_
    refine v_iload_n dX11_mirror_66 rfl rfl ?_
    refine v_imul dX11_mirror_67 b1_3 ?_
    refine v_aload_n dX11_mirror_68 rfl rfl ?_
    refine v_getR (x := 74) dX11_mirror_69 fl_X11_13 am_clsA rfl rfl rfl ?_
    refine v_iload_n dX11_mirror_72 rfl rfl ?_
    refine v_iald dX11_mirror_73 rfl b1_4 b1_5 ?_
    refine v_iadd dX11_mirror_74 b1_6 ?_
    refine v_iconst dX11_mirror_75 ⟨by decide, by decide⟩ ?_
    refine v_isub dX11_mirror_76 b1_7 ?_
    refine v_iload_n dX11_mirror_77 rfl rfl ?_
    refine v_isub dX11_mirror_78 b1_8 ?_
    refine v_cald dX11_mirror_79 rfl b1_9 b1_10 ?_
    refine v_cast dX11_mirror_80 rfl b1_11 b1_12 ?_
    refine v_iinc (E2 := [aR 72, aI x1, aI (x2 + 1)]) dX11_mirror_81 rfl b1_13 rfl ?_
    refine v_goto (tgt := 37) dX11_mirror_84 (by decide) ?_
    exact k
theorem S_X11_rank_0 {kc ks : Nat} {h : Hh} {Q : PQ} {X : PX} {x1 : Int} {x2 : Int}
    (k : am_V M_X11_rank kc ks 5 [aR 72, aI x1, aI x2, aI 0, aI 0] [] am_R0 h Q X) :
    am_V M_X11_rank kc ks 0 [aR 72, aI x1, aI x2, aU, aU] [] am_R0 h Q X := by
  refine v_iconst dX11_rank_0 ⟨by decide, by decide⟩ ?_
  refine v_istore_n (E2 := [aR 72, aI x1, aI x2, aI 0, aU]) dX11_rank_1 rfl (Nat.le_of_ble_eq_true rfl) rfl ?_
  refine v_iconst dX11_rank_2 ⟨by decide, by decide⟩ ?_
  refine v_istore (E2 := [aR 72, aI x1, aI x2, aI 0, aI 0]) dX11_rank_3 (Nat.le_of_ble_eq_true rfl) rfl ?_
  exact k
theorem S_X11_rank_5 {kc ks : Nat} {h : Hh} {Q : PQ} {X : PX} {x1 : Int} {x2 : Int} {x3 : Int} {x4 : Int}
    (k : ((0 : Int) ≤ x1 ∧ (x1 : Int) < 9) ∧ (((h 74 x1) ≤ x4 → Q [aI x3] am_R0 h) ∧ (x4 < (h 74 x1) → am_V M_X11_compared 0 0 0 [aR 72, aI x1, aI x4, aI x2, aI 64, aU, aU] [] am_R0 h (fun v ρ' h' => am_V M_X11_rank kc ks 27 [aR 72, aI x1, aI x2, aU, aI x4] (v ++ [aI x3]) ρ' h' Q X) X))) :
    am_V M_X11_rank kc ks 5 [aR 72, aI x1, aI x2, aI x3, aI x4] [] am_R0 h Q X := by
  obtain ⟨⟨b0_1, b0_2⟩, k⟩ := k
  refine v_iload dX11_rank_5 rfl ?_
  refine v_aload_n dX11_rank_7 rfl rfl ?_
  refine v_getR (x := 74) dX11_rank_8 fl_X11_13 am_clsA rfl rfl rfl ?_
  refine v_iload_n dX11_rank_11 rfl rfl ?_
  refine v_iald dX11_rank_12 rfl b0_1 b0_2 ?_
  refine v_icmp_ge (tgt := 43) dX11_rank_13 (by decide) (fun z => ?_) (fun z => ?_)
  · have k := k.1 z
    refine v_iload_n dX11_rank_43 rfl rfl ?_
    exact v_iret dX11_rank_44 rfl rfl k
  · have k := k.2 z
    refine v_iload_n dX11_rank_16 rfl rfl ?_
    refine v_aload_n dX11_rank_17 rfl rfl ?_
    refine v_iload_n dX11_rank_18 rfl rfl ?_
    refine v_iload dX11_rank_19 rfl ?_
    refine v_iload_n dX11_rank_21 rfl rfl ?_
    refine v_bipush dX11_rank_22 (by decide) (by decide) ?_
    refine v_weak (E2 := [aR 72, aI x1, aI x2, aU, aI x4]) ⟨Or.inl rfl, ⟨Or.inl rfl, ⟨Or.inl rfl, ⟨Or.inr rfl, ⟨Or.inl rfl, trivial⟩⟩⟩⟩⟩ ?_
    exact v_callV (j := M_X11_compared) (As := [aI x1, aI x4, aI x2, aI 64]) (st := [aI x3]) (E0 := [aR 72, aI x1, aI x4, aI x2, aI 64, aU, aU]) (a := 72) (ci := 9) (N := 11) (q9 := (RX11, TX11, 11)) dX11_rank_24 ml_X11_86 J_X11_compared (Nat.zero_le _) (Nat.zero_le _) (Nat.le_of_ble_eq_true rfl) rfl (Nat.le_of_ble_eq_true rfl) (List.forall_mem_cons.mpr ⟨rfl, List.forall_mem_cons.mpr ⟨rfl, List.forall_mem_cons.mpr ⟨rfl, List.forall_mem_cons.mpr ⟨rfl, List.forall_mem_cons.mpr ⟨rfl, fun _ h9 => absurd h9 List.not_mem_nil⟩⟩⟩⟩⟩) (Nat.le_of_ble_eq_true rfl) rfl rfl rfl rfl pn_X11_compared rfl k
theorem S_X11_rank_27 {kc ks : Nat} {h : Hh} {Q : PQ} {X : PX} {x1 : Int} {x2 : Int} {x4 : Int} {xs0 : Int} {xs1 : Int}
    (k : ((0 ≤ xs0 → ((-2147483648 ≤ ((xs1 + 0) : Int) ∧ ((xs1 + 0) : Int) < 2147483648) ∧ (-2147483648 ≤ ((x4 + 1) : Int) ∧ ((x4 + 1) : Int) < 2147483648)) ∧ am_V M_X11_rank kc ks 5 [aR 72, aI x1, aI x2, aI (xs1 + 0), aI (x4 + 1)] [] am_R0 h Q X) ∧ (xs0 < 0 → ((-2147483648 ≤ ((xs1 + 1) : Int) ∧ ((xs1 + 1) : Int) < 2147483648) ∧ (-2147483648 ≤ ((x4 + 1) : Int) ∧ ((x4 + 1) : Int) < 2147483648)) ∧ am_V M_X11_rank kc ks 5 [aR 72, aI x1, aI x2, aI (xs1 + 1), aI (x4 + 1)] [] am_R0 h Q X))) :
    am_V M_X11_rank kc ks 27 [aR 72, aI x1, aI x2, aU, aI x4] [aI xs0, aI xs1] am_R0 h Q X := by
  refine v_if_ge (tgt := 34) dX11_rank_27 (by decide) (fun z => ?_) (fun z => ?_)
  · have k := k.1 z
    obtain ⟨⟨b1_1, b1_2⟩, k⟩ := k
    refine v_iconst dX11_rank_34 ⟨by decide, by decide⟩ ?_
    refine v_iadd dX11_rank_35 b1_1 ?_
    refine v_istore_n (E2 := [aR 72, aI x1, aI x2, aI (xs1 + 0), aI x4]) dX11_rank_36 rfl (Nat.le_of_ble_eq_true rfl) rfl ?_
    refine v_iinc (E2 := [aR 72, aI x1, aI x2, aI (xs1 + 0), aI (x4 + 1)]) dX11_rank_37 rfl b1_2 rfl ?_
    refine v_goto (tgt := 5) dX11_rank_40 (by decide) ?_
    exact k
  · have k := k.2 z
    obtain ⟨⟨b1_1, b1_2⟩, k⟩ := k
    refine v_iconst dX11_rank_30 ⟨by decide, by decide⟩ ?_
    refine v_goto (tgt := 35) dX11_rank_31 (by decide) ?_
    refine v_iadd dX11_rank_35 b1_1 ?_
    refine v_istore_n (E2 := [aR 72, aI x1, aI x2, aI (xs1 + 1), aI x4]) dX11_rank_36 rfl (Nat.le_of_ble_eq_true rfl) rfl ?_
    refine v_iinc (E2 := [aR 72, aI x1, aI x2, aI (xs1 + 1), aI (x4 + 1)]) dX11_rank_37 rfl b1_2 rfl ?_
    refine v_goto (tgt := 5) dX11_rank_40 (by decide) ?_
    exact k
theorem S_X11_sorts_0 {kc ks : Nat} {h : Hh} {Q : PQ} {X : PX} {x1 : Int}
    (k : am_V M_X11_sorts kc ks 2 [aR 72, aI x1, aI 0] [] am_R0 h Q X) :
    am_V M_X11_sorts kc ks 0 [aR 72, aI x1, aU] [] am_R0 h Q X := by
  refine v_iconst dX11_sorts_0 ⟨by decide, by decide⟩ ?_
  refine v_istore_n (E2 := [aR 72, aI x1, aI 0]) dX11_sorts_1 rfl (Nat.le_of_ble_eq_true rfl) rfl ?_
  exact k
theorem S_X11_sorts_2 {kc ks : Nat} {h : Hh} {Q : PQ} {X : PX} {x1 : Int} {x2 : Int}
    (k : ((0 : Int) ≤ x1 ∧ (x1 : Int) < 9) ∧ (((h 74 x1) ≤ x2 → Q [] am_R0 h) ∧ (x2 < (h 74 x1) → am_V M_X11_rank 0 0 0 [aR 72, aI x1, aI x2, aU, aU] [] am_R0 h (fun v ρ' h' => am_V M_X11_sorts kc ks 22 [aR 72, aI x1, aI x2] (v ++ [aR 76]) ρ' h' Q X) X))) :
    am_V M_X11_sorts kc ks 2 [aR 72, aI x1, aI x2] [] am_R0 h Q X := by
  obtain ⟨⟨b0_1, b0_2⟩, k⟩ := k
  refine v_iload_n dX11_sorts_2 rfl rfl ?_
  refine v_aload_n dX11_sorts_3 rfl rfl ?_
  refine v_getR (x := 74) dX11_sorts_4 fl_X11_13 am_clsA rfl rfl rfl ?_
  refine v_iload_n dX11_sorts_7 rfl rfl ?_
  refine v_iald dX11_sorts_8 rfl b0_1 b0_2 ?_
  refine v_icmp_ge (tgt := 30) dX11_sorts_9 (by decide) (fun z => ?_) (fun z => ?_)
  · have k := k.1 z
    exact v_vret dX11_sorts_30 rfl rfl k
  · have k := k.2 z
    refine v_aload_n dX11_sorts_12 rfl rfl ?_
    refine v_getR (x := 76) dX11_sorts_13 fl_X11_20 am_clsA rfl rfl rfl ?_
    refine v_aload_n dX11_sorts_16 rfl rfl ?_
    refine v_iload_n dX11_sorts_17 rfl rfl ?_
    refine v_iload_n dX11_sorts_18 rfl rfl ?_
    exact v_callV (j := M_X11_rank) (As := [aI x1, aI x2]) (st := [aR 76]) (E0 := [aR 72, aI x1, aI x2, aU, aU]) (a := 72) (ci := 9) (N := 11) (q9 := (RX11, TX11, 11)) dX11_sorts_19 ml_X11_78 J_X11_rank (Nat.zero_le _) (Nat.zero_le _) (Nat.le_of_ble_eq_true rfl) rfl (Nat.le_of_ble_eq_true rfl) (List.forall_mem_cons.mpr ⟨rfl, List.forall_mem_cons.mpr ⟨rfl, List.forall_mem_cons.mpr ⟨rfl, fun _ h9 => absurd h9 List.not_mem_nil⟩⟩⟩) (Nat.le_of_ble_eq_true rfl) rfl rfl rfl rfl pn_X11_rank rfl k
theorem S_X11_sorts_22 {kc ks : Nat} {h : Hh} {Q : PQ} {X : PX} {x1 : Int} {x2 : Int} {xs0 : Int}
    (k : ((0 : Int) ≤ xs0 ∧ (xs0 : Int) < 64 ∧ (-2147483648 ≤ ((x2 + 1) : Int) ∧ ((x2 + 1) : Int) < 2147483648)) ∧ am_V M_X11_sorts kc ks 2 [aR 72, aI x1, aI (x2 + 1)] [] am_R0 (am_st h 76 xs0 x2) Q X) :
    am_V M_X11_sorts kc ks 22 [aR 72, aI x1, aI x2] [aI xs0, aR 76] am_R0 h Q X := by
  obtain ⟨⟨b0_1, b0_2, b0_3⟩, k⟩ := k
  refine v_iload_n dX11_sorts_22 rfl rfl ?_
  refine v_iast dX11_sorts_23 rfl b0_1 b0_2 ?_
  refine v_iinc (E2 := [aR 72, aI x1, aI (x2 + 1)]) dX11_sorts_24 rfl b0_3 rfl ?_
  refine v_goto (tgt := 2) dX11_sorts_27 (by decide) ?_
  exact k
theorem S_X11_rankOf_0 {kc ks : Nat} {h : Hh} {Q : PQ} {X : PX} {x1 : Int} {x2 : Int}
    (k : am_V M_X11_isNoPlace 0 0 0 [aR 72, aI x1, aI x2] [] am_R0 h (fun v ρ' h' => am_V M_X11_rankOf kc ks 6 [aR 72, aI x1, aI x2] (v ++ []) ρ' h' Q X) X) :
    am_V M_X11_rankOf kc ks 0 [aR 72, aI x1, aI x2] [] am_R0 h Q X := by
  refine v_aload_n dX11_rankOf_0 rfl rfl ?_
  refine v_iload_n dX11_rankOf_1 rfl rfl ?_
  refine v_iload_n dX11_rankOf_2 rfl rfl ?_
  exact v_callV (j := M_X11_isNoPlace) (As := [aI x1, aI x2]) (st := []) (E0 := [aR 72, aI x1, aI x2]) (a := 72) (ci := 9) (N := 11) (q9 := (RX11, TX11, 11)) dX11_rankOf_3 ml_X11_75 J_X11_isNoPlace (Nat.zero_le _) (Nat.zero_le _) (Nat.le_of_ble_eq_true rfl) rfl (Nat.le_of_ble_eq_true rfl) (List.forall_mem_cons.mpr ⟨rfl, List.forall_mem_cons.mpr ⟨rfl, List.forall_mem_cons.mpr ⟨rfl, fun _ h9 => absurd h9 List.not_mem_nil⟩⟩⟩) (Nat.le_of_ble_eq_true rfl) rfl rfl rfl rfl pn_X11_isNoPlace rfl k
theorem S_X11_rankOf_6 {kc ks : Nat} {h : Hh} {Q : PQ} {X : PX} {x1 : Int} {x2 : Int} {xs0 : Int}
    (k : ((xs0 = 0 → am_V M_X11_rank 0 0 0 [aR 72, aI x1, aI x2, aU, aU] [] am_R0 h (fun v ρ' h' => am_V M_X11_rankOf kc ks 19 [aU, aU, aU] (v ++ []) ρ' h' Q X) X) ∧ (xs0 ≠ 0 → Q [aI 0] am_R0 h))) :
    am_V M_X11_rankOf kc ks 6 [aR 72, aI x1, aI x2] [aI xs0] am_R0 h Q X := by
  refine v_if_eq (tgt := 13) dX11_rankOf_6 (by decide) (fun z => ?_) (fun z => ?_)
  · have k := k.1 z
    refine v_aload_n dX11_rankOf_13 rfl rfl ?_
    refine v_iload_n dX11_rankOf_14 rfl rfl ?_
    refine v_iload_n dX11_rankOf_15 rfl rfl ?_
    refine v_weak (E2 := [aU, aU, aU]) ⟨Or.inr rfl, ⟨Or.inr rfl, ⟨Or.inr rfl, trivial⟩⟩⟩ ?_
    exact v_callV (j := M_X11_rank) (As := [aI x1, aI x2]) (st := []) (E0 := [aR 72, aI x1, aI x2, aU, aU]) (a := 72) (ci := 9) (N := 11) (q9 := (RX11, TX11, 11)) dX11_rankOf_16 ml_X11_78 J_X11_rank (Nat.zero_le _) (Nat.zero_le _) (Nat.le_of_ble_eq_true rfl) rfl (Nat.le_of_ble_eq_true rfl) (List.forall_mem_cons.mpr ⟨rfl, List.forall_mem_cons.mpr ⟨rfl, List.forall_mem_cons.mpr ⟨rfl, fun _ h9 => absurd h9 List.not_mem_nil⟩⟩⟩) (Nat.le_of_ble_eq_true rfl) rfl rfl rfl rfl pn_X11_rank rfl k
  · have k := k.2 z
    refine v_iconst dX11_rankOf_9 ⟨by decide, by decide⟩ ?_
    refine v_goto (tgt := 19) dX11_rankOf_10 (by decide) ?_
    exact v_iret dX11_rankOf_19 rfl rfl k
theorem S_X11_rankOf_19 {kc ks : Nat} {h : Hh} {Q : PQ} {X : PX} {xs0 : Int}
    (k : Q [aI xs0] am_R0 h) :
    am_V M_X11_rankOf kc ks 19 [aU, aU, aU] [aI xs0] am_R0 h Q X := by
  exact v_iret dX11_rankOf_19 rfl rfl k
theorem S_X11_rounds_0 {kc ks : Nat} {h : Hh} {Q : PQ} {X : PX} {x1 : Int}
    (k : am_V M_X11_isNone 0 0 0 [aR 72, aI x1] [] am_R0 h (fun v ρ' h' => am_V M_X11_rounds kc ks 5 [aR 72, aI x1, aU, aU] (v ++ []) ρ' h' Q X) X) :
    am_V M_X11_rounds kc ks 0 [aR 72, aI x1, aU, aU] [] am_R0 h Q X := by
  refine v_aload_n dX11_rounds_0 rfl rfl ?_
  refine v_iload_n dX11_rounds_1 rfl rfl ?_
  exact v_callV (j := M_X11_isNone) (As := [aI x1]) (st := []) (E0 := [aR 72, aI x1]) (a := 72) (ci := 9) (N := 11) (q9 := (RX11, TX11, 11)) dX11_rounds_2 ml_X11_68 J_X11_isNone (Nat.zero_le _) (Nat.zero_le _) (Nat.le_of_ble_eq_true rfl) rfl (Nat.le_of_ble_eq_true rfl) (List.forall_mem_cons.mpr ⟨rfl, List.forall_mem_cons.mpr ⟨rfl, fun _ h9 => absurd h9 List.not_mem_nil⟩⟩) (Nat.le_of_ble_eq_true rfl) rfl rfl rfl rfl pn_X11_isNone rfl k
theorem S_X11_rounds_5 {kc ks : Nat} {h : Hh} {Q : PQ} {X : PX} {x1 : Int} {xs0 : Int}
    (k : ((xs0 ≠ 0 → Q [aI 0] am_R0 h) ∧ (xs0 = 0 → ((0 : Int) ≤ x1 ∧ (x1 : Int) < 9) ∧ (((h 74 x1) ≠ 0 → am_V M_X11_rounds kc ks 23 [aR 72, aI x1, aI 1, aI 1] [] am_R0 h Q X) ∧ ((h 74 x1) = 0 → Q [aI 0] am_R0 h))))) :
    am_V M_X11_rounds kc ks 5 [aR 72, aI x1, aU, aU] [aI xs0] am_R0 h Q X := by
  refine v_if_ne (tgt := 17) dX11_rounds_5 (by decide) (fun z => ?_) (fun z => ?_)
  · have k := k.1 z
    refine v_iconst dX11_rounds_17 ⟨by decide, by decide⟩ ?_
    exact v_iret dX11_rounds_18 rfl rfl k
  · have k := k.2 z
    obtain ⟨⟨b1_1, b1_2⟩, k⟩ := k
    refine v_aload_n dX11_rounds_8 rfl rfl ?_
    refine v_getR (x := 74) dX11_rounds_9 fl_X11_13 am_clsA rfl rfl rfl ?_
    refine v_iload_n dX11_rounds_12 rfl rfl ?_
    refine v_iald dX11_rounds_13 rfl b1_1 b1_2 ?_
    refine v_if_ne (tgt := 19) dX11_rounds_14 (by decide) (fun z => ?_) (fun z => ?_)
    · have k := k.1 z
      refine v_iconst dX11_rounds_19 ⟨by decide, by decide⟩ ?_
      refine v_istore_n (E2 := [aR 72, aI x1, aI 1, aU]) dX11_rounds_20 rfl (Nat.le_of_ble_eq_true rfl) rfl ?_
      refine v_iconst dX11_rounds_21 ⟨by decide, by decide⟩ ?_
      refine v_istore_n (E2 := [aR 72, aI x1, aI 1, aI 1]) dX11_rounds_22 rfl (Nat.le_of_ble_eq_true rfl) rfl ?_
      exact k
    · have k := k.2 z
      refine v_iconst dX11_rounds_17 ⟨by decide, by decide⟩ ?_
      exact v_iret dX11_rounds_18 rfl rfl k
theorem S_X11_rounds_23 {kc ks : Nat} {h : Hh} {Q : PQ} {X : PX} {x1 : Int} {x2 : Int} {x3 : Int}
    (k : am_V M_X11_classesBy 0 0 0 [aR 72, aI x1, aI x3, aU, aU] [] am_R0 h (fun v ρ' h' => am_V M_X11_rounds kc ks 29 [aR 72, aI x1, aI x2, aI x3] (v ++ []) ρ' h' Q X) X) :
    am_V M_X11_rounds kc ks 23 [aR 72, aI x1, aI x2, aI x3] [] am_R0 h Q X := by
  refine v_aload_n dX11_rounds_23 rfl rfl ?_
  refine v_iload_n dX11_rounds_24 rfl rfl ?_
  refine v_iload_n dX11_rounds_25 rfl rfl ?_
  exact v_callV (j := M_X11_classesBy) (As := [aI x1, aI x3]) (st := []) (E0 := [aR 72, aI x1, aI x3, aU, aU]) (a := 72) (ci := 9) (N := 11) (q9 := (RX11, TX11, 11)) dX11_rounds_26 ml_X11_99 J_X11_classesBy (Nat.zero_le _) (Nat.zero_le _) (Nat.le_of_ble_eq_true rfl) rfl (Nat.le_of_ble_eq_true rfl) (List.forall_mem_cons.mpr ⟨rfl, List.forall_mem_cons.mpr ⟨rfl, List.forall_mem_cons.mpr ⟨rfl, fun _ h9 => absurd h9 List.not_mem_nil⟩⟩⟩) (Nat.le_of_ble_eq_true rfl) rfl rfl rfl rfl pn_X11_classesBy rfl k
theorem S_X11_rounds_29 {kc ks : Nat} {h : Hh} {Q : PQ} {X : PX} {x1 : Int} {x2 : Int} {x3 : Int} {xs0 : Int}
    (k : ((0 : Int) ≤ x1 ∧ (x1 : Int) < 9) ∧ (((h 74 x1) ≤ xs0 → Q [aI x2] am_R0 h) ∧ (xs0 < (h 74 x1) → ((-2147483648 ≤ ((x2 + 1) : Int) ∧ ((x2 + 1) : Int) < 2147483648) ∧ (-2147483648 ≤ ((x3 * 2) : Int) ∧ ((x3 * 2) : Int) < 2147483648)) ∧ am_V M_X11_rounds kc ks 23 [aR 72, aI x1, aI (x2 + 1), aI (x3 * 2)] [] am_R0 h Q X))) :
    am_V M_X11_rounds kc ks 29 [aR 72, aI x1, aI x2, aI x3] [aI xs0] am_R0 h Q X := by
  obtain ⟨⟨b0_1, b0_2⟩, k⟩ := k
  refine v_aload_n dX11_rounds_29 rfl rfl ?_
  refine v_getR (x := 74) dX11_rounds_30 fl_X11_13 am_clsA rfl rfl rfl ?_
  refine v_iload_n dX11_rounds_33 rfl rfl ?_
  refine v_iald dX11_rounds_34 rfl b0_1 b0_2 ?_
  refine v_icmp_ge (tgt := 48) dX11_rounds_35 (by decide) (fun z => ?_) (fun z => ?_)
  · have k := k.1 z
    refine v_iload_n dX11_rounds_48 rfl rfl ?_
    exact v_iret dX11_rounds_49 rfl rfl k
  · have k := k.2 z
    obtain ⟨⟨b1_1, b1_2⟩, k⟩ := k
    refine v_iinc (E2 := [aR 72, aI x1, aI (x2 + 1), aI x3]) dX11_rounds_38 rfl b1_1 rfl ?_
    refine v_iload_n dX11_rounds_41 rfl rfl ?_
    refine v_iconst dX11_rounds_42 ⟨by decide, by decide⟩ ?_
    refine v_imul dX11_rounds_43 b1_2 ?_
    refine v_istore_n (E2 := [aR 72, aI x1, aI (x2 + 1), aI (x3 * 2)]) dX11_rounds_44 rfl (Nat.le_of_ble_eq_true rfl) rfl ?_
    refine v_goto (tgt := 23) dX11_rounds_45 (by decide) ?_
    exact k
theorem S_X11_together_0 {kc ks : Nat} {h : Hh} {Q : PQ} {X : PX} {x1 : Int} {x2 : Int} {x3 : Int} {x4 : Int}
    (k : am_V M_X11_together kc ks 3 [aR 72, aI x1, aI x2, aI x3, aI x4, aI 0] [] am_R0 h Q X) :
    am_V M_X11_together kc ks 0 [aR 72, aI x1, aI x2, aI x3, aI x4, aU] [] am_R0 h Q X := by
  refine v_iconst dX11_together_0 ⟨by decide, by decide⟩ ?_
  refine v_istore (E2 := [aR 72, aI x1, aI x2, aI x3, aI x4, aI 0]) dX11_together_1 (Nat.le_of_ble_eq_true rfl) rfl ?_
  exact k
theorem S_X11_together_3 {kc ks : Nat} {h : Hh} {Q : PQ} {X : PX} {x1 : Int} {x2 : Int} {x3 : Int} {x4 : Int} {x5 : Int}
    (k : ((-2147483648 ≤ ((x2 + x5) : Int) ∧ ((x2 + x5) : Int) < 2147483648) ∧ (0 : Int) ≤ x1 ∧ (x1 : Int) < 9) ∧ (((h 74 x1) ≤ (x2 + x5) → Q [aI x5] am_R0 h) ∧ ((x2 + x5) < (h 74 x1) → ((-2147483648 ≤ ((x4 + x5) : Int) ∧ ((x4 + x5) : Int) < 2147483648) ∧ (0 : Int) ≤ x3 ∧ (x3 : Int) < 9) ∧ (((h 74 x3) ≤ (x4 + x5) → Q [aI x5] am_R0 h) ∧ ((x4 + x5) < (h 74 x3) → ((-2147483648 ≤ ((64 * x1) : Int) ∧ ((64 * x1) : Int) < 2147483648) ∧ (-2147483648 ≤ (((64 * x1) + x2) : Int) ∧ (((64 * x1) + x2) : Int) < 2147483648) ∧ (-2147483648 ≤ ((((64 * x1) + x2) + x5) : Int) ∧ ((((64 * x1) + x2) + x5) : Int) < 2147483648) ∧ (0 : Int) ≤ (((64 * x1) + x2) + x5) ∧ ((((64 * x1) + x2) + x5) : Int) < 576 ∧ (-2147483648 ≤ ((64 * x3) : Int) ∧ ((64 * x3) : Int) < 2147483648) ∧ (-2147483648 ≤ (((64 * x3) + x4) : Int) ∧ (((64 * x3) + x4) : Int) < 2147483648) ∧ (-2147483648 ≤ ((((64 * x3) + x4) + x5) : Int) ∧ ((((64 * x3) + x4) + x5) : Int) < 2147483648) ∧ (0 : Int) ≤ (((64 * x3) + x4) + x5) ∧ ((((64 * x3) + x4) + x5) : Int) < 576) ∧ (((h 73 (((64 * x1) + x2) + x5)) ≠ (h 73 (((64 * x3) + x4) + x5)) → Q [aI x5] am_R0 h) ∧ ((h 73 (((64 * x1) + x2) + x5)) = (h 73 (((64 * x3) + x4) + x5)) → ((-2147483648 ≤ ((x5 + 1) : Int) ∧ ((x5 + 1) : Int) < 2147483648)) ∧ am_V M_X11_together kc ks 3 [aR 72, aI x1, aI x2, aI x3, aI x4, aI (x5 + 1)] [] am_R0 h Q X))))))) :
    am_V M_X11_together kc ks 3 [aR 72, aI x1, aI x2, aI x3, aI x4, aI x5] [] am_R0 h Q X := by
  obtain ⟨⟨b0_1, b0_2, b0_3⟩, k⟩ := k
  refine v_iload_n dX11_together_3 rfl rfl ?_
  refine v_iload dX11_together_4 rfl ?_
  refine v_iadd dX11_together_6 b0_1 ?_
  refine v_aload_n dX11_together_7 rfl rfl ?_
  refine v_getR (x := 74) dX11_together_8 fl_X11_13 am_clsA rfl rfl rfl ?_
  refine v_iload_n dX11_together_11 rfl rfl ?_
  refine v_iald dX11_together_12 rfl b0_2 b0_3 ?_
  refine v_icmp_ge (tgt := 68) dX11_together_13 (by decide) (fun z => ?_) (fun z => ?_)
  · have k := k.1 z
    refine v_iload dX11_together_68 rfl ?_
    exact v_iret dX11_together_70 rfl rfl k
  · have k := k.2 z
    obtain ⟨⟨b1_1, b1_2, b1_3⟩, k⟩ := k
    refine v_iload dX11_together_16 rfl ?_
    refine v_iload dX11_together_18 rfl ?_
    refine v_iadd dX11_together_20 b1_1 ?_
    refine v_aload_n dX11_together_21 rfl rfl ?_
    refine v_getR (x := 74) dX11_together_22 fl_X11_13 am_clsA rfl rfl rfl ?_
    refine v_iload_n dX11_together_25 rfl rfl ?_
    refine v_iald dX11_together_26 rfl b1_2 b1_3 ?_
    refine v_icmp_ge (tgt := 68) dX11_together_27 (by decide) (fun z => ?_) (fun z => ?_)
    · have k := k.1 z
      refine v_iload dX11_together_68 rfl ?_
      exact v_iret dX11_together_70 rfl rfl k
    · have k := k.2 z
      obtain ⟨⟨b2_1, b2_2, b2_3, b2_4, b2_5, b2_6, b2_7, b2_8, b2_9, b2_10⟩, k⟩ := k
      refine v_aload_n dX11_together_30 rfl rfl ?_
      refine v_getR (x := 73) dX11_together_31 fl_X11_7 am_clsA rfl rfl rfl ?_
      refine v_bipush dX11_together_34 (by decide) (by decide) ?_
      refine v_iload_n dX11_together_36 rfl rfl ?_
      refine v_imul dX11_together_37 b2_1 ?_
      refine v_iload_n dX11_together_38 rfl rfl ?_
      refine v_iadd dX11_together_39 b2_2 ?_
      refine v_iload dX11_together_40 rfl ?_
      refine v_iadd dX11_together_42 b2_3 ?_
      refine v_cald dX11_together_43 rfl b2_4 b2_5 ?_
      refine v_aload_n dX11_together_44 rfl rfl ?_
      refine v_getR (x := 73) dX11_together_45 fl_X11_7 am_clsA rfl rfl rfl ?_
      refine v_bipush dX11_together_48 (by decide) (by decide) ?_
      refine v_iload_n dX11_together_50 rfl rfl ?_
      refine v_imul dX11_together_51 b2_6 ?_
      refine v_iload dX11_together_52 rfl ?_
      refine v_iadd dX11_together_54 b2_7 ?_
      refine v_iload dX11_together_55 rfl ?_
      refine v_iadd dX11_together_57 b2_8 ?_
      refine v_cald dX11_together_58 rfl b2_9 b2_10 ?_
      refine v_icmp_ne (tgt := 68) dX11_together_59 (by decide) (fun z => ?_) (fun z => ?_)
      · have k := k.1 z
        refine v_iload dX11_together_68 rfl ?_
        exact v_iret dX11_together_70 rfl rfl k
      · have k := k.2 z
        obtain ⟨b3_1, k⟩ := k
        refine v_iinc (E2 := [aR 72, aI x1, aI x2, aI x3, aI x4, aI (x5 + 1)]) dX11_together_62 rfl b3_1 rfl ?_
        refine v_goto (tgt := 3) dX11_together_65 (by decide) ?_
        exact k
theorem S_X11_shared_0 {kc ks : Nat} {h : Hh} {Q : PQ} {X : PX} {x1 : Int} {x2 : Int} {x3 : Int} {x4 : Int}
    (k : am_V M_X11_isPlace 0 0 0 [aR 72, aI x1, aI x2] [] am_R0 h (fun v ρ' h' => am_V M_X11_shared kc ks 7 [aR 72, aI x1, aI x2, aI x3, aI x4] (v ++ [aR 72]) ρ' h' Q X) X) :
    am_V M_X11_shared kc ks 0 [aR 72, aI x1, aI x2, aI x3, aI x4] [] am_R0 h Q X := by
  refine v_aload_n dX11_shared_0 rfl rfl ?_
  refine v_aload_n dX11_shared_1 rfl rfl ?_
  refine v_iload_n dX11_shared_2 rfl rfl ?_
  refine v_iload_n dX11_shared_3 rfl rfl ?_
  exact v_callV (j := M_X11_isPlace) (As := [aI x1, aI x2]) (st := [aR 72]) (E0 := [aR 72, aI x1, aI x2]) (a := 72) (ci := 9) (N := 11) (q9 := (RX11, TX11, 11)) dX11_shared_4 ml_X11_71 J_X11_isPlace (Nat.zero_le _) (Nat.zero_le _) (Nat.le_of_ble_eq_true rfl) rfl (Nat.le_of_ble_eq_true rfl) (List.forall_mem_cons.mpr ⟨rfl, List.forall_mem_cons.mpr ⟨rfl, List.forall_mem_cons.mpr ⟨rfl, fun _ h9 => absurd h9 List.not_mem_nil⟩⟩⟩) (Nat.le_of_ble_eq_true rfl) rfl rfl rfl rfl pn_X11_isPlace rfl k
theorem S_X11_shared_7 {kc ks : Nat} {h : Hh} {Q : PQ} {X : PX} {x1 : Int} {x2 : Int} {x3 : Int} {x4 : Int} {xs0 : Int}
    (k : ((xs0 = 0 → am_V M_X11_isWrong 0 0 0 [aR 72, aI 1] [] am_R0 h (fun v ρ' h' => am_V M_X11_shared kc ks 28 [aR 72, aI x1, aI x2, aI x3, aI x4] (v ++ []) ρ' h' Q X) X) ∧ (xs0 ≠ 0 → am_V M_X11_isPlace 0 0 0 [aR 72, aI x3, aI x4] [] am_R0 h (fun v ρ' h' => am_V M_X11_shared kc ks 17 [aR 72, aI x1, aI x2, aI x3, aI x4] (v ++ [aR 72]) ρ' h' Q X) X))) :
    am_V M_X11_shared kc ks 7 [aR 72, aI x1, aI x2, aI x3, aI x4] [aI xs0, aR 72] am_R0 h Q X := by
  refine v_if_eq (tgt := 24) dX11_shared_7 (by decide) (fun z => ?_) (fun z => ?_)
  · have k := k.1 z
    refine v_iconst dX11_shared_24 ⟨by decide, by decide⟩ ?_
    exact v_callV (j := M_X11_isWrong) (As := [aI 1]) (st := []) (E0 := [aR 72, aI 1]) (a := 72) (ci := 9) (N := 11) (q9 := (RX11, TX11, 11)) dX11_shared_25 ml_X11_57 J_X11_isWrong (Nat.zero_le _) (Nat.zero_le _) (Nat.le_of_ble_eq_true rfl) rfl (Nat.le_of_ble_eq_true rfl) (List.forall_mem_cons.mpr ⟨rfl, List.forall_mem_cons.mpr ⟨rfl, fun _ h9 => absurd h9 List.not_mem_nil⟩⟩) (Nat.le_of_ble_eq_true rfl) rfl rfl rfl rfl pn_X11_isWrong rfl k
  · have k := k.2 z
    refine v_aload_n dX11_shared_10 rfl rfl ?_
    refine v_iload_n dX11_shared_11 rfl rfl ?_
    refine v_iload dX11_shared_12 rfl ?_
    exact v_callV (j := M_X11_isPlace) (As := [aI x3, aI x4]) (st := [aR 72]) (E0 := [aR 72, aI x3, aI x4]) (a := 72) (ci := 9) (N := 11) (q9 := (RX11, TX11, 11)) dX11_shared_14 ml_X11_71 J_X11_isPlace (Nat.zero_le _) (Nat.zero_le _) (Nat.le_of_ble_eq_true rfl) rfl (Nat.le_of_ble_eq_true rfl) (List.forall_mem_cons.mpr ⟨rfl, List.forall_mem_cons.mpr ⟨rfl, List.forall_mem_cons.mpr ⟨rfl, fun _ h9 => absurd h9 List.not_mem_nil⟩⟩⟩) (Nat.le_of_ble_eq_true rfl) rfl rfl rfl rfl pn_X11_isPlace rfl k
theorem S_X11_shared_28 {kc ks : Nat} {h : Hh} {Q : PQ} {X : PX} {x1 : Int} {x2 : Int} {x3 : Int} {x4 : Int} {xs0 : Int}
    (k : ((xs0 = 0 → am_V M_X11_together 0 0 0 [aR 72, aI x1, aI x2, aI x3, aI x4, aU] [] am_R0 h (fun v ρ' h' => am_V M_X11_shared kc ks 44 [aU, aU, aU, aU, aU] (v ++ []) ρ' h' Q X) X) ∧ (xs0 ≠ 0 → Q [aI 0] am_R0 h))) :
    am_V M_X11_shared kc ks 28 [aR 72, aI x1, aI x2, aI x3, aI x4] [aI xs0] am_R0 h Q X := by
  refine v_if_eq (tgt := 35) dX11_shared_28 (by decide) (fun z => ?_) (fun z => ?_)
  · have k := k.1 z
    refine v_aload_n dX11_shared_35 rfl rfl ?_
    refine v_iload_n dX11_shared_36 rfl rfl ?_
    refine v_iload_n dX11_shared_37 rfl rfl ?_
    refine v_iload_n dX11_shared_38 rfl rfl ?_
    refine v_iload dX11_shared_39 rfl ?_
    refine v_weak (E2 := [aU, aU, aU, aU, aU]) ⟨Or.inr rfl, ⟨Or.inr rfl, ⟨Or.inr rfl, ⟨Or.inr rfl, ⟨Or.inr rfl, trivial⟩⟩⟩⟩⟩ ?_
    exact v_callV (j := M_X11_together) (As := [aI x1, aI x2, aI x3, aI x4]) (st := []) (E0 := [aR 72, aI x1, aI x2, aI x3, aI x4, aU]) (a := 72) (ci := 9) (N := 11) (q9 := (RX11, TX11, 11)) dX11_shared_41 ml_X11_102 J_X11_together (Nat.zero_le _) (Nat.zero_le _) (Nat.le_of_ble_eq_true rfl) rfl (Nat.le_of_ble_eq_true rfl) (List.forall_mem_cons.mpr ⟨rfl, List.forall_mem_cons.mpr ⟨rfl, List.forall_mem_cons.mpr ⟨rfl, List.forall_mem_cons.mpr ⟨rfl, List.forall_mem_cons.mpr ⟨rfl, fun _ h9 => absurd h9 List.not_mem_nil⟩⟩⟩⟩⟩) (Nat.le_of_ble_eq_true rfl) rfl rfl rfl rfl pn_X11_together rfl k
  · have k := k.2 z
    refine v_iconst dX11_shared_31 ⟨by decide, by decide⟩ ?_
    refine v_goto (tgt := 44) dX11_shared_32 (by decide) ?_
    exact v_iret dX11_shared_44 rfl rfl k
theorem S_X11_shared_17 {kc ks : Nat} {h : Hh} {Q : PQ} {X : PX} {x1 : Int} {x2 : Int} {x3 : Int} {x4 : Int} {xs0 : Int}
    (k : ((xs0 = 0 → am_V M_X11_isWrong 0 0 0 [aR 72, aI 1] [] am_R0 h (fun v ρ' h' => am_V M_X11_shared kc ks 28 [aR 72, aI x1, aI x2, aI x3, aI x4] (v ++ []) ρ' h' Q X) X) ∧ (xs0 ≠ 0 → am_V M_X11_isWrong 0 0 0 [aR 72, aI 0] [] am_R0 h (fun v ρ' h' => am_V M_X11_shared kc ks 28 [aR 72, aI x1, aI x2, aI x3, aI x4] (v ++ []) ρ' h' Q X) X))) :
    am_V M_X11_shared kc ks 17 [aR 72, aI x1, aI x2, aI x3, aI x4] [aI xs0, aR 72] am_R0 h Q X := by
  refine v_if_eq (tgt := 24) dX11_shared_17 (by decide) (fun z => ?_) (fun z => ?_)
  · have k := k.1 z
    refine v_iconst dX11_shared_24 ⟨by decide, by decide⟩ ?_
    exact v_callV (j := M_X11_isWrong) (As := [aI 1]) (st := []) (E0 := [aR 72, aI 1]) (a := 72) (ci := 9) (N := 11) (q9 := (RX11, TX11, 11)) dX11_shared_25 ml_X11_57 J_X11_isWrong (Nat.zero_le _) (Nat.zero_le _) (Nat.le_of_ble_eq_true rfl) rfl (Nat.le_of_ble_eq_true rfl) (List.forall_mem_cons.mpr ⟨rfl, List.forall_mem_cons.mpr ⟨rfl, fun _ h9 => absurd h9 List.not_mem_nil⟩⟩) (Nat.le_of_ble_eq_true rfl) rfl rfl rfl rfl pn_X11_isWrong rfl k
  · have k := k.2 z
    refine v_iconst dX11_shared_20 ⟨by decide, by decide⟩ ?_
    refine v_goto (tgt := 25) dX11_shared_21 (by decide) ?_
    exact v_callV (j := M_X11_isWrong) (As := [aI 0]) (st := []) (E0 := [aR 72, aI 0]) (a := 72) (ci := 9) (N := 11) (q9 := (RX11, TX11, 11)) dX11_shared_25 ml_X11_57 J_X11_isWrong (Nat.zero_le _) (Nat.zero_le _) (Nat.le_of_ble_eq_true rfl) rfl (Nat.le_of_ble_eq_true rfl) (List.forall_mem_cons.mpr ⟨rfl, List.forall_mem_cons.mpr ⟨rfl, fun _ h9 => absurd h9 List.not_mem_nil⟩⟩) (Nat.le_of_ble_eq_true rfl) rfl rfl rfl rfl pn_X11_isWrong rfl k
theorem S_X11_shared_44 {kc ks : Nat} {h : Hh} {Q : PQ} {X : PX} {xs0 : Int}
    (k : Q [aI xs0] am_R0 h) :
    am_V M_X11_shared kc ks 44 [aU, aU, aU, aU, aU] [aI xs0] am_R0 h Q X := by
  exact v_iret dX11_shared_44 rfl rfl k
theorem S_X11_stands_0 {kc ks : Nat} {h : Hh} {Q : PQ} {X : PX} {x1 : Int} {x2 : Int} {x3 : Int}
    (k : ((-2147483648 ≤ ((x3 + (h 72 9)) : Int) ∧ ((x3 + (h 72 9)) : Int) < 2147483648) ∧ (-2147483648 ≤ (((x3 + (h 72 9)) - x1) : Int) ∧ (((x3 + (h 72 9)) - x1) : Int) < 2147483648) ∧ (0 : Int) ≤ x2 ∧ (x2 : Int) < 9) ∧ ((((x3 + (h 72 9)) - x1) ≤ (h 74 x2) → am_V M_X11_stands kc ks 22 [aR 72, aI x1, aI x2, aI x3, aI x1] [] am_R0 h Q X) ∧ ((h 74 x2) < ((x3 + (h 72 9)) - x1) → Q [aI 0] am_R0 h))) :
    am_V M_X11_stands kc ks 0 [aR 72, aI x1, aI x2, aI x3, aU] [] am_R0 h Q X := by
  obtain ⟨⟨b0_1, b0_2, b0_3, b0_4⟩, k⟩ := k
  refine v_iload_n dX11_stands_0 rfl rfl ?_
  refine v_aload_n dX11_stands_1 rfl rfl ?_
  refine v_getI (j := 9) dX11_stands_2 fl_X11_54 am_clsA rfl rfl rfl ?_
  refine v_iadd dX11_stands_5 b0_1 ?_
  refine v_iload_n dX11_stands_6 rfl rfl ?_
  refine v_isub dX11_stands_7 b0_2 ?_
  refine v_aload_n dX11_stands_8 rfl rfl ?_
  refine v_getR (x := 74) dX11_stands_9 fl_X11_13 am_clsA rfl rfl rfl ?_
  refine v_iload_n dX11_stands_12 rfl rfl ?_
  refine v_iald dX11_stands_13 rfl b0_3 b0_4 ?_
  refine v_icmp_le (tgt := 19) dX11_stands_14 (by decide) (fun z => ?_) (fun z => ?_)
  · have k := k.1 z
    refine v_iload_n dX11_stands_19 rfl rfl ?_
    refine v_istore (E2 := [aR 72, aI x1, aI x2, aI x3, aI x1]) dX11_stands_20 (Nat.le_of_ble_eq_true rfl) rfl ?_
    exact k
  · have k := k.2 z
    refine v_iconst dX11_stands_17 ⟨by decide, by decide⟩ ?_
    exact v_zret dX11_stands_18 rfl rfl (Or.inl rfl) k
theorem S_X11_stands_22 {kc ks : Nat} {h : Hh} {Q : PQ} {X : PX} {x1 : Int} {x2 : Int} {x3 : Int} {x4 : Int}
    (k : (((h 72 9) ≤ x4 → Q [aI 1] am_R0 h) ∧ (x4 < (h 72 9) → ((-2147483648 ≤ ((64 * x2) : Int) ∧ ((64 * x2) : Int) < 2147483648) ∧ (-2147483648 ≤ (((64 * x2) + x3) : Int) ∧ (((64 * x2) + x3) : Int) < 2147483648) ∧ (-2147483648 ≤ ((((64 * x2) + x3) + x4) : Int) ∧ ((((64 * x2) + x3) + x4) : Int) < 2147483648) ∧ (-2147483648 ≤ (((((64 * x2) + x3) + x4) - x1) : Int) ∧ (((((64 * x2) + x3) + x4) - x1) : Int) < 2147483648) ∧ (0 : Int) ≤ ((((64 * x2) + x3) + x4) - x1) ∧ (((((64 * x2) + x3) + x4) - x1) : Int) < 576 ∧ (0 : Int) ≤ x4 ∧ (x4 : Int) < 65) ∧ (((h 73 ((((64 * x2) + x3) + x4) - x1)) = (h 75 x4) → ((-2147483648 ≤ ((x4 + 1) : Int) ∧ ((x4 + 1) : Int) < 2147483648)) ∧ am_V M_X11_stands kc ks 22 [aR 72, aI x1, aI x2, aI x3, aI (x4 + 1)] [] am_R0 h Q X) ∧ ((h 73 ((((64 * x2) + x3) + x4) - x1)) ≠ (h 75 x4) → Q [aI 0] am_R0 h))))) :
    am_V M_X11_stands kc ks 22 [aR 72, aI x1, aI x2, aI x3, aI x4] [] am_R0 h Q X := by
  refine v_iload dX11_stands_22 rfl ?_
  refine v_aload_n dX11_stands_24 rfl rfl ?_
  refine v_getI (j := 9) dX11_stands_25 fl_X11_54 am_clsA rfl rfl rfl ?_
  refine v_icmp_ge (tgt := 65) dX11_stands_28 (by decide) (fun z => ?_) (fun z => ?_)
  · have k := k.1 z
    refine v_iconst dX11_stands_65 ⟨by decide, by decide⟩ ?_
    exact v_zret dX11_stands_66 rfl rfl (Or.inr rfl) k
  · have k := k.2 z
    obtain ⟨⟨b1_1, b1_2, b1_3, b1_4, b1_5, b1_6, b1_7, b1_8⟩, k⟩ := k
    refine v_aload_n dX11_stands_31 rfl rfl ?_
    refine v_getR (x := 73) dX11_stands_32 fl_X11_7 am_clsA rfl rfl rfl ?_
    refine v_bipush dX11_stands_35 (by decide) (by decide) ?_
    refine v_iload_n dX11_stands_37 rfl rfl ?_
    refine v_imul dX11_stands_38 b1_1 ?_
    refine v_iload_n dX11_stands_39 rfl rfl ?_
    refine v_iadd dX11_stands_40 b1_2 ?_
    refine v_iload dX11_stands_41 rfl ?_
    refine v_iadd dX11_stands_43 b1_3 ?_
    refine v_iload_n dX11_stands_44 rfl rfl ?_
    refine v_isub dX11_stands_45 b1_4 ?_
    refine v_cald dX11_stands_46 rfl b1_5 b1_6 ?_
    refine v_aload_n dX11_stands_47 rfl rfl ?_
    refine v_getR (x := 75) dX11_stands_48 fl_X11_17 am_clsA rfl rfl rfl ?_
    refine v_iload dX11_stands_51 rfl ?_
    refine v_cald dX11_stands_53 rfl b1_7 b1_8 ?_
    refine v_icmp_eq (tgt := 59) dX11_stands_54 (by decide) (fun z => ?_) (fun z => ?_)
    · have k := k.1 z
      obtain ⟨b2_1, k⟩ := k
      refine v_iinc (E2 := [aR 72, aI x1, aI x2, aI x3, aI (x4 + 1)]) dX11_stands_59 rfl b2_1 rfl ?_
      refine v_goto (tgt := 22) dX11_stands_62 (by decide) ?_
      exact k
    · have k := k.2 z
      refine v_iconst dX11_stands_57 ⟨by decide, by decide⟩ ?_
      exact v_zret dX11_stands_58 rfl rfl (Or.inl rfl) k
theorem S_X11_runFrom_0 {kc ks : Nat} {h : Hh} {Q : PQ} {X : PX} {x1 : Int}
    (k : am_V M_X11_isNoWord 0 0 0 [aR 72, aI x1] [] am_R0 h (fun v ρ' h' => am_V M_X11_runFrom kc ks 5 [aR 72, aI x1, aU, aU] (v ++ []) ρ' h' Q X) X) :
    am_V M_X11_runFrom kc ks 0 [aR 72, aI x1, aU, aU] [] am_R0 h Q X := by
  refine v_aload_n dX11_runFrom_0 rfl rfl ?_
  refine v_iload_n dX11_runFrom_1 rfl rfl ?_
  exact v_callV (j := M_X11_isNoWord) (As := [aI x1]) (st := []) (E0 := [aR 72, aI x1]) (a := 72) (ci := 9) (N := 11) (q9 := (RX11, TX11, 11)) dX11_runFrom_2 ml_X11_111 J_X11_isNoWord (Nat.zero_le _) (Nat.zero_le _) (Nat.le_of_ble_eq_true rfl) rfl (Nat.le_of_ble_eq_true rfl) (List.forall_mem_cons.mpr ⟨rfl, List.forall_mem_cons.mpr ⟨rfl, fun _ h9 => absurd h9 List.not_mem_nil⟩⟩) (Nat.le_of_ble_eq_true rfl) rfl rfl rfl rfl pn_X11_isNoWord rfl k
theorem S_X11_runFrom_5 {kc ks : Nat} {h : Hh} {Q : PQ} {X : PX} {x1 : Int} {xs0 : Int}
    (k : ((xs0 = 0 → am_V M_X11_runFrom kc ks 15 [aR 72, aI x1, aI 64, aI 0] [] am_R0 h Q X) ∧ (xs0 ≠ 0 → Q [aI 0] am_R0 h))) :
    am_V M_X11_runFrom kc ks 5 [aR 72, aI x1, aU, aU] [aI xs0] am_R0 h Q X := by
  refine v_if_eq (tgt := 10) dX11_runFrom_5 (by decide) (fun z => ?_) (fun z => ?_)
  · have k := k.1 z
    refine v_bipush dX11_runFrom_10 (by decide) (by decide) ?_
    refine v_istore_n (E2 := [aR 72, aI x1, aI 64, aU]) dX11_runFrom_12 rfl (Nat.le_of_ble_eq_true rfl) rfl ?_
    refine v_iconst dX11_runFrom_13 ⟨by decide, by decide⟩ ?_
    refine v_istore_n (E2 := [aR 72, aI x1, aI 64, aI 0]) dX11_runFrom_14 rfl (Nat.le_of_ble_eq_true rfl) rfl ?_
    exact k
  · have k := k.2 z
    refine v_iconst dX11_runFrom_8 ⟨by decide, by decide⟩ ?_
    exact v_iret dX11_runFrom_9 rfl rfl k
theorem S_X11_runFrom_15 {kc ks : Nat} {h : Hh} {Q : PQ} {X : PX} {x1 : Int} {x2 : Int} {x3 : Int}
    (k : ((0 : Int) ≤ x1 ∧ (x1 : Int) < 9) ∧ (((h 74 x1) ≤ x3 → ((x2 ≠ 64 → am_V M_X11_isWrong 0 0 0 [aR 72, aI 0] [] am_R0 h (fun v ρ' h' => am_V M_X11_runFrom kc ks 73 [aU, aU, aI x2, aU] (v ++ []) ρ' h' Q X) X) ∧ (x2 = 64 → am_V M_X11_isWrong 0 0 0 [aR 72, aI 3] [] am_R0 h (fun v ρ' h' => am_V M_X11_runFrom kc ks 73 [aU, aU, aI x2, aU] (v ++ []) ρ' h' Q X) X))) ∧ (x3 < (h 74 x1) → am_V M_X11_stands 0 0 0 [aR 72, aI 0, aI x1, aI x3, aU] [] am_R0 h (fun v ρ' h' => am_V M_X11_runFrom kc ks 32 [aR 72, aI x1, aI x2, aI x3] (v ++ []) ρ' h' Q X) X))) :
    am_V M_X11_runFrom kc ks 15 [aR 72, aI x1, aI x2, aI x3] [] am_R0 h Q X := by
  obtain ⟨⟨b0_1, b0_2⟩, k⟩ := k
  refine v_iload_n dX11_runFrom_15 rfl rfl ?_
  refine v_aload_n dX11_runFrom_16 rfl rfl ?_
  refine v_getR (x := 74) dX11_runFrom_17 fl_X11_13 am_clsA rfl rfl rfl ?_
  refine v_iload_n dX11_runFrom_20 rfl rfl ?_
  refine v_iald dX11_runFrom_21 rfl b0_1 b0_2 ?_
  refine v_icmp_ge (tgt := 58) dX11_runFrom_22 (by decide) (fun z => ?_) (fun z => ?_)
  · have k := k.1 z
    refine v_aload_n dX11_runFrom_58 rfl rfl ?_
    refine v_iload_n dX11_runFrom_59 rfl rfl ?_
    refine v_bipush dX11_runFrom_60 (by decide) (by decide) ?_
    refine v_icmp_ne (tgt := 69) dX11_runFrom_62 (by decide) (fun z => ?_) (fun z => ?_)
    · have k := k.1 z
      refine v_iconst dX11_runFrom_69 ⟨by decide, by decide⟩ ?_
      refine v_weak (E2 := [aU, aU, aI x2, aU]) ⟨Or.inr rfl, ⟨Or.inr rfl, ⟨Or.inl rfl, ⟨Or.inr rfl, trivial⟩⟩⟩⟩ ?_
      exact v_callV (j := M_X11_isWrong) (As := [aI 0]) (st := []) (E0 := [aR 72, aI 0]) (a := 72) (ci := 9) (N := 11) (q9 := (RX11, TX11, 11)) dX11_runFrom_70 ml_X11_57 J_X11_isWrong (Nat.zero_le _) (Nat.zero_le _) (Nat.le_of_ble_eq_true rfl) rfl (Nat.le_of_ble_eq_true rfl) (List.forall_mem_cons.mpr ⟨rfl, List.forall_mem_cons.mpr ⟨rfl, fun _ h9 => absurd h9 List.not_mem_nil⟩⟩) (Nat.le_of_ble_eq_true rfl) rfl rfl rfl rfl pn_X11_isWrong rfl k
    · have k := k.2 z
      refine v_iconst dX11_runFrom_65 ⟨by decide, by decide⟩ ?_
      refine v_goto (tgt := 70) dX11_runFrom_66 (by decide) ?_
      refine v_weak (E2 := [aU, aU, aI x2, aU]) ⟨Or.inr rfl, ⟨Or.inr rfl, ⟨Or.inl rfl, ⟨Or.inr rfl, trivial⟩⟩⟩⟩ ?_
      exact v_callV (j := M_X11_isWrong) (As := [aI 3]) (st := []) (E0 := [aR 72, aI 3]) (a := 72) (ci := 9) (N := 11) (q9 := (RX11, TX11, 11)) dX11_runFrom_70 ml_X11_57 J_X11_isWrong (Nat.zero_le _) (Nat.zero_le _) (Nat.le_of_ble_eq_true rfl) rfl (Nat.le_of_ble_eq_true rfl) (List.forall_mem_cons.mpr ⟨rfl, List.forall_mem_cons.mpr ⟨rfl, fun _ h9 => absurd h9 List.not_mem_nil⟩⟩) (Nat.le_of_ble_eq_true rfl) rfl rfl rfl rfl pn_X11_isWrong rfl k
  · have k := k.2 z
    refine v_aload_n dX11_runFrom_25 rfl rfl ?_
    refine v_iconst dX11_runFrom_26 ⟨by decide, by decide⟩ ?_
    refine v_iload_n dX11_runFrom_27 rfl rfl ?_
    refine v_iload_n dX11_runFrom_28 rfl rfl ?_
    exact v_callV (j := M_X11_stands) (As := [aI 0, aI x1, aI x3]) (st := []) (E0 := [aR 72, aI 0, aI x1, aI x3, aU]) (a := 72) (ci := 9) (N := 11) (q9 := (RX11, TX11, 11)) dX11_runFrom_29 ml_X11_108 J_X11_stands (Nat.zero_le _) (Nat.zero_le _) (Nat.le_of_ble_eq_true rfl) rfl (Nat.le_of_ble_eq_true rfl) (List.forall_mem_cons.mpr ⟨rfl, List.forall_mem_cons.mpr ⟨rfl, List.forall_mem_cons.mpr ⟨rfl, List.forall_mem_cons.mpr ⟨rfl, fun _ h9 => absurd h9 List.not_mem_nil⟩⟩⟩⟩) (Nat.le_of_ble_eq_true rfl) rfl rfl rfl rfl pn_X11_stands rfl k
theorem S_X11_runFrom_73 {kc ks : Nat} {h : Hh} {Q : PQ} {X : PX} {x2 : Int} {xs0 : Int}
    (k : ((xs0 = 0 → Q [aI x2] am_R0 h) ∧ (xs0 ≠ 0 → Q [aI 0] am_R0 h))) :
    am_V M_X11_runFrom kc ks 73 [aU, aU, aI x2, aU] [aI xs0] am_R0 h Q X := by
  refine v_if_eq (tgt := 80) dX11_runFrom_73 (by decide) (fun z => ?_) (fun z => ?_)
  · have k := k.1 z
    refine v_iload_n dX11_runFrom_80 rfl rfl ?_
    exact v_iret dX11_runFrom_81 rfl rfl k
  · have k := k.2 z
    refine v_iconst dX11_runFrom_76 ⟨by decide, by decide⟩ ?_
    refine v_goto (tgt := 81) dX11_runFrom_77 (by decide) ?_
    exact v_iret dX11_runFrom_81 rfl rfl k
theorem S_X11_runFrom_32 {kc ks : Nat} {h : Hh} {Q : PQ} {X : PX} {x1 : Int} {x2 : Int} {x3 : Int} {xs0 : Int}
    (k : ((xs0 = 0 → ((-2147483648 ≤ ((x3 + 1) : Int) ∧ ((x3 + 1) : Int) < 2147483648)) ∧ am_V M_X11_runFrom kc ks 15 [aR 72, aI x1, aI x2, aI (x3 + 1)] [] am_R0 h Q X) ∧ (xs0 ≠ 0 → am_V M_X11_rank 0 0 0 [aR 72, aI x1, aI x3, aU, aU] [] am_R0 h (fun v ρ' h' => am_V M_X11_runFrom kc ks 41 [aR 72, aI x1, aI x2, aI x3] (v ++ []) ρ' h' Q X) X))) :
    am_V M_X11_runFrom kc ks 32 [aR 72, aI x1, aI x2, aI x3] [aI xs0] am_R0 h Q X := by
  refine v_if_eq (tgt := 52) dX11_runFrom_32 (by decide) (fun z => ?_) (fun z => ?_)
  · have k := k.1 z
    obtain ⟨b1_1, k⟩ := k
    refine v_iinc (E2 := [aR 72, aI x1, aI x2, aI (x3 + 1)]) dX11_runFrom_52 rfl b1_1 rfl ?_
    refine v_goto (tgt := 15) dX11_runFrom_55 (by decide) ?_
    exact k
  · have k := k.2 z
    refine v_aload_n dX11_runFrom_35 rfl rfl ?_
    refine v_iload_n dX11_runFrom_36 rfl rfl ?_
    refine v_iload_n dX11_runFrom_37 rfl rfl ?_
    exact v_callV (j := M_X11_rank) (As := [aI x1, aI x3]) (st := []) (E0 := [aR 72, aI x1, aI x3, aU, aU]) (a := 72) (ci := 9) (N := 11) (q9 := (RX11, TX11, 11)) dX11_runFrom_38 ml_X11_78 J_X11_rank (Nat.zero_le _) (Nat.zero_le _) (Nat.le_of_ble_eq_true rfl) rfl (Nat.le_of_ble_eq_true rfl) (List.forall_mem_cons.mpr ⟨rfl, List.forall_mem_cons.mpr ⟨rfl, List.forall_mem_cons.mpr ⟨rfl, fun _ h9 => absurd h9 List.not_mem_nil⟩⟩⟩) (Nat.le_of_ble_eq_true rfl) rfl rfl rfl rfl pn_X11_rank rfl k
theorem S_X11_runFrom_41 {kc ks : Nat} {h : Hh} {Q : PQ} {X : PX} {x1 : Int} {x2 : Int} {x3 : Int} {xs0 : Int}
    (k : ((x2 ≤ xs0 → ((-2147483648 ≤ ((x3 + 1) : Int) ∧ ((x3 + 1) : Int) < 2147483648)) ∧ am_V M_X11_runFrom kc ks 15 [aR 72, aI x1, aI x2, aI (x3 + 1)] [] am_R0 h Q X) ∧ (xs0 < x2 → am_V M_X11_rank 0 0 0 [aR 72, aI x1, aI x3, aU, aU] [] am_R0 h (fun v ρ' h' => am_V M_X11_runFrom kc ks 51 [aR 72, aI x1, aU, aI x3] (v ++ []) ρ' h' Q X) X))) :
    am_V M_X11_runFrom kc ks 41 [aR 72, aI x1, aI x2, aI x3] [aI xs0] am_R0 h Q X := by
  refine v_iload_n dX11_runFrom_41 rfl rfl ?_
  refine v_icmp_ge (tgt := 52) dX11_runFrom_42 (by decide) (fun z => ?_) (fun z => ?_)
  · have k := k.1 z
    obtain ⟨b1_1, k⟩ := k
    refine v_iinc (E2 := [aR 72, aI x1, aI x2, aI (x3 + 1)]) dX11_runFrom_52 rfl b1_1 rfl ?_
    refine v_goto (tgt := 15) dX11_runFrom_55 (by decide) ?_
    exact k
  · have k := k.2 z
    refine v_aload_n dX11_runFrom_45 rfl rfl ?_
    refine v_iload_n dX11_runFrom_46 rfl rfl ?_
    refine v_iload_n dX11_runFrom_47 rfl rfl ?_
    refine v_weak (E2 := [aR 72, aI x1, aU, aI x3]) ⟨Or.inl rfl, ⟨Or.inl rfl, ⟨Or.inr rfl, ⟨Or.inl rfl, trivial⟩⟩⟩⟩ ?_
    exact v_callV (j := M_X11_rank) (As := [aI x1, aI x3]) (st := []) (E0 := [aR 72, aI x1, aI x3, aU, aU]) (a := 72) (ci := 9) (N := 11) (q9 := (RX11, TX11, 11)) dX11_runFrom_48 ml_X11_78 J_X11_rank (Nat.zero_le _) (Nat.zero_le _) (Nat.le_of_ble_eq_true rfl) rfl (Nat.le_of_ble_eq_true rfl) (List.forall_mem_cons.mpr ⟨rfl, List.forall_mem_cons.mpr ⟨rfl, List.forall_mem_cons.mpr ⟨rfl, fun _ h9 => absurd h9 List.not_mem_nil⟩⟩⟩) (Nat.le_of_ble_eq_true rfl) rfl rfl rfl rfl pn_X11_rank rfl k
theorem S_X11_runFrom_51 {kc ks : Nat} {h : Hh} {Q : PQ} {X : PX} {x1 : Int} {x3 : Int} {xs0 : Int}
    (k : ((-2147483648 ≤ ((x3 + 1) : Int) ∧ ((x3 + 1) : Int) < 2147483648)) ∧ am_V M_X11_runFrom kc ks 15 [aR 72, aI x1, aI xs0, aI (x3 + 1)] [] am_R0 h Q X) :
    am_V M_X11_runFrom kc ks 51 [aR 72, aI x1, aU, aI x3] [aI xs0] am_R0 h Q X := by
  obtain ⟨b0_1, k⟩ := k
  refine v_istore_n (E2 := [aR 72, aI x1, aI xs0, aI x3]) dX11_runFrom_51 rfl (Nat.le_of_ble_eq_true rfl) rfl ?_
  refine v_iinc (E2 := [aR 72, aI x1, aI xs0, aI (x3 + 1)]) dX11_runFrom_52 rfl b0_1 rfl ?_
  refine v_goto (tgt := 15) dX11_runFrom_55 (by decide) ?_
  exact k
theorem S_X11_standsAt_0 {kc ks : Nat} {h : Hh} {Q : PQ} {X : PX} {x1 : Int} {x2 : Int}
    (k : am_V M_X11_isNoWord 0 0 0 [aR 72, aI x1] [] am_R0 h (fun v ρ' h' => am_V M_X11_standsAt kc ks 5 [aR 72, aI x1, aI x2, aU, aU] (v ++ []) ρ' h' Q X) X) :
    am_V M_X11_standsAt kc ks 0 [aR 72, aI x1, aI x2, aU, aU] [] am_R0 h Q X := by
  refine v_aload_n dX11_standsAt_0 rfl rfl ?_
  refine v_iload_n dX11_standsAt_1 rfl rfl ?_
  exact v_callV (j := M_X11_isNoWord) (As := [aI x1]) (st := []) (E0 := [aR 72, aI x1]) (a := 72) (ci := 9) (N := 11) (q9 := (RX11, TX11, 11)) dX11_standsAt_2 ml_X11_111 J_X11_isNoWord (Nat.zero_le _) (Nat.zero_le _) (Nat.le_of_ble_eq_true rfl) rfl (Nat.le_of_ble_eq_true rfl) (List.forall_mem_cons.mpr ⟨rfl, List.forall_mem_cons.mpr ⟨rfl, fun _ h9 => absurd h9 List.not_mem_nil⟩⟩) (Nat.le_of_ble_eq_true rfl) rfl rfl rfl rfl pn_X11_isNoWord rfl k
theorem S_X11_standsAt_5 {kc ks : Nat} {h : Hh} {Q : PQ} {X : PX} {x1 : Int} {x2 : Int} {xs0 : Int}
    (k : ((xs0 = 0 → am_V M_X11_standsAt kc ks 15 [aR 72, aI x1, aI x2, aI x2, aI 0] [] am_R0 h Q X) ∧ (xs0 ≠ 0 → Q [aI 0] am_R0 h))) :
    am_V M_X11_standsAt kc ks 5 [aR 72, aI x1, aI x2, aU, aU] [aI xs0] am_R0 h Q X := by
  refine v_if_eq (tgt := 10) dX11_standsAt_5 (by decide) (fun z => ?_) (fun z => ?_)
  · have k := k.1 z
    refine v_iload_n dX11_standsAt_10 rfl rfl ?_
    refine v_istore_n (E2 := [aR 72, aI x1, aI x2, aI x2, aU]) dX11_standsAt_11 rfl (Nat.le_of_ble_eq_true rfl) rfl ?_
    refine v_iconst dX11_standsAt_12 ⟨by decide, by decide⟩ ?_
    refine v_istore (E2 := [aR 72, aI x1, aI x2, aI x2, aI 0]) dX11_standsAt_13 (Nat.le_of_ble_eq_true rfl) rfl ?_
    exact k
  · have k := k.2 z
    refine v_iconst dX11_standsAt_8 ⟨by decide, by decide⟩ ?_
    exact v_iret dX11_standsAt_9 rfl rfl k
theorem S_X11_standsAt_15 {kc ks : Nat} {h : Hh} {Q : PQ} {X : PX} {x1 : Int} {x2 : Int} {x3 : Int} {x4 : Int}
    (k : ((0 : Int) ≤ x1 ∧ (x1 : Int) < 9) ∧ (((h 74 x1) ≤ x4 → Q [aI 0] am_R0 (am_st h 72 10 3)) ∧ (x4 < (h 74 x1) → ((x2 < 0 → Q [aI 0] am_R0 (am_st h 72 10 3)) ∧ (0 ≤ x2 → am_V M_X11_stands 0 0 0 [aR 72, aI 0, aI x1, aI x4, aU] [] am_R0 h (fun v ρ' h' => am_V M_X11_standsAt kc ks 38 [aR 72, aI x1, aI x2, aI x3, aI x4] (v ++ []) ρ' h' Q X) X))))) :
    am_V M_X11_standsAt kc ks 15 [aR 72, aI x1, aI x2, aI x3, aI x4] [] am_R0 h Q X := by
  obtain ⟨⟨b0_1, b0_2⟩, k⟩ := k
  refine v_iload dX11_standsAt_15 rfl ?_
  refine v_aload_n dX11_standsAt_17 rfl rfl ?_
  refine v_getR (x := 74) dX11_standsAt_18 fl_X11_13 am_clsA rfl rfl rfl ?_
  refine v_iload_n dX11_standsAt_21 rfl rfl ?_
  refine v_iald dX11_standsAt_22 rfl b0_1 b0_2 ?_
  refine v_icmp_ge (tgt := 57) dX11_standsAt_23 (by decide) (fun z => ?_) (fun z => ?_)
  · have k := k.1 z
    refine v_aload_n dX11_standsAt_57 rfl rfl ?_
    refine v_iconst dX11_standsAt_58 ⟨by decide, by decide⟩ ?_
    refine v_putI (j := 10) dX11_standsAt_59 pl_X11_35 am_clsA rfl rfl rfl ?_
    refine v_iconst dX11_standsAt_62 ⟨by decide, by decide⟩ ?_
    exact v_iret dX11_standsAt_63 rfl rfl k
  · have k := k.2 z
    refine v_iload_n dX11_standsAt_26 rfl rfl ?_
    refine v_if_lt (tgt := 57) dX11_standsAt_27 (by decide) (fun z => ?_) (fun z => ?_)
    · have k := k.1 z
      refine v_aload_n dX11_standsAt_57 rfl rfl ?_
      refine v_iconst dX11_standsAt_58 ⟨by decide, by decide⟩ ?_
      refine v_putI (j := 10) dX11_standsAt_59 pl_X11_35 am_clsA rfl rfl rfl ?_
      refine v_iconst dX11_standsAt_62 ⟨by decide, by decide⟩ ?_
      exact v_iret dX11_standsAt_63 rfl rfl k
    · have k := k.2 z
      refine v_aload_n dX11_standsAt_30 rfl rfl ?_
      refine v_iconst dX11_standsAt_31 ⟨by decide, by decide⟩ ?_
      refine v_iload_n dX11_standsAt_32 rfl rfl ?_
      refine v_iload dX11_standsAt_33 rfl ?_
      exact v_callV (j := M_X11_stands) (As := [aI 0, aI x1, aI x4]) (st := []) (E0 := [aR 72, aI 0, aI x1, aI x4, aU]) (a := 72) (ci := 9) (N := 11) (q9 := (RX11, TX11, 11)) dX11_standsAt_35 ml_X11_108 J_X11_stands (Nat.zero_le _) (Nat.zero_le _) (Nat.le_of_ble_eq_true rfl) rfl (Nat.le_of_ble_eq_true rfl) (List.forall_mem_cons.mpr ⟨rfl, List.forall_mem_cons.mpr ⟨rfl, List.forall_mem_cons.mpr ⟨rfl, List.forall_mem_cons.mpr ⟨rfl, fun _ h9 => absurd h9 List.not_mem_nil⟩⟩⟩⟩) (Nat.le_of_ble_eq_true rfl) rfl rfl rfl rfl pn_X11_stands rfl k
theorem S_X11_standsAt_38 {kc ks : Nat} {h : Hh} {Q : PQ} {X : PX} {x1 : Int} {x2 : Int} {x3 : Int} {x4 : Int} {xs0 : Int}
    (k : ((xs0 = 0 → ((-2147483648 ≤ ((x4 + 1) : Int) ∧ ((x4 + 1) : Int) < 2147483648)) ∧ am_V M_X11_standsAt kc ks 15 [aR 72, aI x1, aI x2, aI x3, aI (x4 + 1)] [] am_R0 h Q X) ∧ (xs0 ≠ 0 → ((x3 ≠ 0 → ((-2147483648 ≤ ((x3 + (-1)) : Int) ∧ ((x3 + (-1)) : Int) < 2147483648) ∧ (-2147483648 ≤ ((x4 + 1) : Int) ∧ ((x4 + 1) : Int) < 2147483648)) ∧ am_V M_X11_standsAt kc ks 15 [aR 72, aI x1, aI x2, aI (x3 + (-1)), aI (x4 + 1)] [] am_R0 h Q X) ∧ (x3 = 0 → Q [aI x4] am_R0 h))))) :
    am_V M_X11_standsAt kc ks 38 [aR 72, aI x1, aI x2, aI x3, aI x4] [aI xs0] am_R0 h Q X := by
  refine v_if_eq (tgt := 51) dX11_standsAt_38 (by decide) (fun z => ?_) (fun z => ?_)
  · have k := k.1 z
    obtain ⟨b1_1, k⟩ := k
    refine v_iinc (E2 := [aR 72, aI x1, aI x2, aI x3, aI (x4 + 1)]) dX11_standsAt_51 rfl b1_1 rfl ?_
    refine v_goto (tgt := 15) dX11_standsAt_54 (by decide) ?_
    exact k
  · have k := k.2 z
    refine v_iload_n dX11_standsAt_41 rfl rfl ?_
    refine v_if_ne (tgt := 48) dX11_standsAt_42 (by decide) (fun z => ?_) (fun z => ?_)
    · have k := k.1 z
      obtain ⟨⟨b2_1, b2_2⟩, k⟩ := k
      refine v_iinc (E2 := [aR 72, aI x1, aI x2, aI (x3 + (-1)), aI x4]) dX11_standsAt_48 rfl b2_1 rfl ?_
      refine v_iinc (E2 := [aR 72, aI x1, aI x2, aI (x3 + (-1)), aI (x4 + 1)]) dX11_standsAt_51 rfl b2_2 rfl ?_
      refine v_goto (tgt := 15) dX11_standsAt_54 (by decide) ?_
      exact k
    · have k := k.2 z
      refine v_iload dX11_standsAt_45 rfl ?_
      exact v_iret dX11_standsAt_47 rfl rfl k
theorem S_X11_tail_0 {kc ks : Nat} {h : Hh} {Q : PQ} {X : PX} {x1 : Int} {x2 : Int}
    (k : am_V M_X11_isNoWord 0 0 0 [aR 72, aI x1] [] am_R0 h (fun v ρ' h' => am_V M_X11_tail kc ks 5 [aR 72, aI x1, aI x2] (v ++ []) ρ' h' Q X) X) :
    am_V M_X11_tail kc ks 0 [aR 72, aI x1, aI x2] [] am_R0 h Q X := by
  refine v_aload_n dX11_tail_0 rfl rfl ?_
  refine v_iload_n dX11_tail_1 rfl rfl ?_
  exact v_callV (j := M_X11_isNoWord) (As := [aI x1]) (st := []) (E0 := [aR 72, aI x1]) (a := 72) (ci := 9) (N := 11) (q9 := (RX11, TX11, 11)) dX11_tail_2 ml_X11_111 J_X11_isNoWord (Nat.zero_le _) (Nat.zero_le _) (Nat.le_of_ble_eq_true rfl) rfl (Nat.le_of_ble_eq_true rfl) (List.forall_mem_cons.mpr ⟨rfl, List.forall_mem_cons.mpr ⟨rfl, fun _ h9 => absurd h9 List.not_mem_nil⟩⟩) (Nat.le_of_ble_eq_true rfl) rfl rfl rfl rfl pn_X11_isNoWord rfl k
theorem S_X11_tail_5 {kc ks : Nat} {h : Hh} {Q : PQ} {X : PX} {x1 : Int} {x2 : Int} {xs0 : Int}
    (k : ((xs0 = 0 → am_V M_X11_isBetween 0 0 0 [aI x2, aI 1, aI (h 72 9)] [] am_R0 h (fun v ρ' h' => am_V M_X11_tail kc ks 20 [aR 72, aI x1, aI x2] (v ++ [aR 72]) ρ' h' Q X) X) ∧ (xs0 ≠ 0 → Q [aI 0] am_R0 h))) :
    am_V M_X11_tail kc ks 5 [aR 72, aI x1, aI x2] [aI xs0] am_R0 h Q X := by
  refine v_if_eq (tgt := 10) dX11_tail_5 (by decide) (fun z => ?_) (fun z => ?_)
  · have k := k.1 z
    refine v_aload_n dX11_tail_10 rfl rfl ?_
    refine v_iload_n dX11_tail_11 rfl rfl ?_
    refine v_iconst dX11_tail_12 ⟨by decide, by decide⟩ ?_
    refine v_aload_n dX11_tail_13 rfl rfl ?_
    refine v_getI (j := 9) dX11_tail_14 fl_X11_54 am_clsA rfl rfl rfl ?_
    exact v_callS (j := M_X11_isBetween) (As := [aI x2, aI 1, aI (h 72 9)]) (st := [aR 72]) (E0 := [aI x2, aI 1, aI (h 72 9)]) dX11_tail_17 ms_X11_42 J_X11_isBetween (Nat.zero_le _) (Nat.zero_le _) (Nat.le_of_ble_eq_true rfl) rfl (Nat.le_of_ble_eq_true rfl) (List.forall_mem_cons.mpr ⟨rfl, List.forall_mem_cons.mpr ⟨rfl, List.forall_mem_cons.mpr ⟨rfl, fun _ h9 => absurd h9 List.not_mem_nil⟩⟩⟩) (Nat.le_of_ble_eq_true rfl) rfl pn_X11_isBetween rfl k
  · have k := k.2 z
    refine v_iconst dX11_tail_8 ⟨by decide, by decide⟩ ?_
    exact v_iret dX11_tail_9 rfl rfl k
theorem S_X11_tail_20 {kc ks : Nat} {h : Hh} {Q : PQ} {X : PX} {x1 : Int} {x2 : Int} {xs0 : Int}
    (k : ((xs0 = 0 → am_V M_X11_isWrong 0 0 0 [aR 72, aI 3] [] am_R0 h (fun v ρ' h' => am_V M_X11_tail kc ks 31 [aR 72, aI x1, aI x2] (v ++ []) ρ' h' Q X) X) ∧ (xs0 ≠ 0 → am_V M_X11_isWrong 0 0 0 [aR 72, aI 0] [] am_R0 h (fun v ρ' h' => am_V M_X11_tail kc ks 31 [aR 72, aI x1, aI x2] (v ++ []) ρ' h' Q X) X))) :
    am_V M_X11_tail kc ks 20 [aR 72, aI x1, aI x2] [aI xs0, aR 72] am_R0 h Q X := by
  refine v_if_eq (tgt := 27) dX11_tail_20 (by decide) (fun z => ?_) (fun z => ?_)
  · have k := k.1 z
    refine v_iconst dX11_tail_27 ⟨by decide, by decide⟩ ?_
    exact v_callV (j := M_X11_isWrong) (As := [aI 3]) (st := []) (E0 := [aR 72, aI 3]) (a := 72) (ci := 9) (N := 11) (q9 := (RX11, TX11, 11)) dX11_tail_28 ml_X11_57 J_X11_isWrong (Nat.zero_le _) (Nat.zero_le _) (Nat.le_of_ble_eq_true rfl) rfl (Nat.le_of_ble_eq_true rfl) (List.forall_mem_cons.mpr ⟨rfl, List.forall_mem_cons.mpr ⟨rfl, fun _ h9 => absurd h9 List.not_mem_nil⟩⟩) (Nat.le_of_ble_eq_true rfl) rfl rfl rfl rfl pn_X11_isWrong rfl k
  · have k := k.2 z
    refine v_iconst dX11_tail_23 ⟨by decide, by decide⟩ ?_
    refine v_goto (tgt := 28) dX11_tail_24 (by decide) ?_
    exact v_callV (j := M_X11_isWrong) (As := [aI 0]) (st := []) (E0 := [aR 72, aI 0]) (a := 72) (ci := 9) (N := 11) (q9 := (RX11, TX11, 11)) dX11_tail_28 ml_X11_57 J_X11_isWrong (Nat.zero_le _) (Nat.zero_le _) (Nat.le_of_ble_eq_true rfl) rfl (Nat.le_of_ble_eq_true rfl) (List.forall_mem_cons.mpr ⟨rfl, List.forall_mem_cons.mpr ⟨rfl, fun _ h9 => absurd h9 List.not_mem_nil⟩⟩) (Nat.le_of_ble_eq_true rfl) rfl rfl rfl rfl pn_X11_isWrong rfl k
theorem S_X11_tail_31 {kc ks : Nat} {h : Hh} {Q : PQ} {X : PX} {x1 : Int} {x2 : Int} {xs0 : Int}
    (k : ((xs0 = 0 → ((-2147483648 ≤ (((h 72 9) - x2) : Int) ∧ (((h 72 9) - x2) : Int) < 2147483648)) ∧ am_V M_X11_countFrom 0 0 0 [aR 72, aI ((h 72 9) - x2), aI x1, aU, aU] [] am_R0 h (fun v ρ' h' => am_V M_X11_tail kc ks 49 [aU, aU, aU] (v ++ []) ρ' h' Q X) X) ∧ (xs0 ≠ 0 → Q [aI 0] am_R0 h))) :
    am_V M_X11_tail kc ks 31 [aR 72, aI x1, aI x2] [aI xs0] am_R0 h Q X := by
  refine v_if_eq (tgt := 38) dX11_tail_31 (by decide) (fun z => ?_) (fun z => ?_)
  · have k := k.1 z
    obtain ⟨b1_1, k⟩ := k
    refine v_aload_n dX11_tail_38 rfl rfl ?_
    refine v_aload_n dX11_tail_39 rfl rfl ?_
    refine v_getI (j := 9) dX11_tail_40 fl_X11_54 am_clsA rfl rfl rfl ?_
    refine v_iload_n dX11_tail_43 rfl rfl ?_
    refine v_isub dX11_tail_44 b1_1 ?_
    refine v_iload_n dX11_tail_45 rfl rfl ?_
    refine v_weak (E2 := [aU, aU, aU]) ⟨Or.inr rfl, ⟨Or.inr rfl, ⟨Or.inr rfl, trivial⟩⟩⟩ ?_
    exact v_callV (j := M_X11_countFrom) (As := [aI ((h 72 9) - x2), aI x1]) (st := []) (E0 := [aR 72, aI ((h 72 9) - x2), aI x1, aU, aU]) (a := 72) (ci := 9) (N := 11) (q9 := (RX11, TX11, 11)) dX11_tail_46 ml_X11_114 J_X11_countFrom (Nat.zero_le _) (Nat.zero_le _) (Nat.le_of_ble_eq_true rfl) rfl (Nat.le_of_ble_eq_true rfl) (List.forall_mem_cons.mpr ⟨rfl, List.forall_mem_cons.mpr ⟨rfl, List.forall_mem_cons.mpr ⟨rfl, fun _ h9 => absurd h9 List.not_mem_nil⟩⟩⟩) (Nat.le_of_ble_eq_true rfl) rfl rfl rfl rfl pn_X11_countFrom rfl k
  · have k := k.2 z
    refine v_iconst dX11_tail_34 ⟨by decide, by decide⟩ ?_
    refine v_goto (tgt := 49) dX11_tail_35 (by decide) ?_
    exact v_iret dX11_tail_49 rfl rfl k
theorem S_X11_tail_49 {kc ks : Nat} {h : Hh} {Q : PQ} {X : PX} {xs0 : Int}
    (k : Q [aI xs0] am_R0 h) :
    am_V M_X11_tail kc ks 49 [aU, aU, aU] [aI xs0] am_R0 h Q X := by
  exact v_iret dX11_tail_49 rfl rfl k
theorem S_X11_newWords_0 {kc ks : Nat} {h : Hh} {Q : PQ} {X : PX} {x1 : Int} {x2 : Int}
    (k : am_V M_X11_newWords kc ks 5 [aR 72, aI x1, aI x2, aI 0, aI 0, aU] [] am_R0 h Q X) :
    am_V M_X11_newWords kc ks 0 [aR 72, aI x1, aI x2, aU, aU, aU] [] am_R0 h Q X := by
  refine v_iconst dX11_newWords_0 ⟨by decide, by decide⟩ ?_
  refine v_istore_n (E2 := [aR 72, aI x1, aI x2, aI 0, aU, aU]) dX11_newWords_1 rfl (Nat.le_of_ble_eq_true rfl) rfl ?_
  refine v_iconst dX11_newWords_2 ⟨by decide, by decide⟩ ?_
  refine v_istore (E2 := [aR 72, aI x1, aI x2, aI 0, aI 0, aU]) dX11_newWords_3 (Nat.le_of_ble_eq_true rfl) rfl ?_
  exact k
theorem S_X11_newWords_5 {kc ks : Nat} {h : Hh} {Q : PQ} {X : PX} {x1 : Int} {x2 : Int} {x3 : Int} {x4 : Int}
    (k : ((x2 ≤ x4 → ((0 : Int) ≤ x1 ∧ (x1 : Int) < 9 ∧ (-2147483648 ≤ (((h 74 x1) - x2) : Int) ∧ (((h 74 x1) - x2) : Int) < 2147483648) ∧ (-2147483648 ≤ ((((h 74 x1) - x2) - x3) : Int) ∧ ((((h 74 x1) - x2) - x3) : Int) < 2147483648)) ∧ Q [aI (((h 74 x1) - x2) - x3)] am_R0 h) ∧ (x4 < x2 → am_V M_X11_together 0 0 0 [aR 72, aI x1, aI x4, aI x1, aI x2, aU] [] am_R0 h (fun v ρ' h' => am_V M_X11_newWords kc ks 20 [aR 72, aI x1, aI x2, aI x3, aI x4, aU] (v ++ []) ρ' h' Q X) X))) :
    am_V M_X11_newWords kc ks 5 [aR 72, aI x1, aI x2, aI x3, aI x4, aU] [] am_R0 h Q X := by
  refine v_iload dX11_newWords_5 rfl ?_
  refine v_iload_n dX11_newWords_7 rfl rfl ?_
  refine v_icmp_ge (tgt := 41) dX11_newWords_8 (by decide) (fun z => ?_) (fun z => ?_)
  · have k := k.1 z
    obtain ⟨⟨b1_1, b1_2, b1_3, b1_4⟩, k⟩ := k
    refine v_aload_n dX11_newWords_41 rfl rfl ?_
    refine v_getR (x := 74) dX11_newWords_42 fl_X11_13 am_clsA rfl rfl rfl ?_
    refine v_iload_n dX11_newWords_45 rfl rfl ?_
    refine v_iald dX11_newWords_46 rfl b1_1 b1_2 ?_
    refine v_iload_n dX11_newWords_47 rfl rfl ?_
    refine v_isub dX11_newWords_48 b1_3 ?_
    refine v_iload_n dX11_newWords_49 rfl rfl ?_
    refine v_isub dX11_newWords_50 b1_4 ?_
    exact v_iret dX11_newWords_51 rfl rfl k
  · have k := k.2 z
    refine v_aload_n dX11_newWords_11 rfl rfl ?_
    refine v_iload_n dX11_newWords_12 rfl rfl ?_
    refine v_iload dX11_newWords_13 rfl ?_
    refine v_iload_n dX11_newWords_15 rfl rfl ?_
    refine v_iload_n dX11_newWords_16 rfl rfl ?_
    exact v_callV (j := M_X11_together) (As := [aI x1, aI x4, aI x1, aI x2]) (st := []) (E0 := [aR 72, aI x1, aI x4, aI x1, aI x2, aU]) (a := 72) (ci := 9) (N := 11) (q9 := (RX11, TX11, 11)) dX11_newWords_17 ml_X11_102 J_X11_together (Nat.zero_le _) (Nat.zero_le _) (Nat.le_of_ble_eq_true rfl) rfl (Nat.le_of_ble_eq_true rfl) (List.forall_mem_cons.mpr ⟨rfl, List.forall_mem_cons.mpr ⟨rfl, List.forall_mem_cons.mpr ⟨rfl, List.forall_mem_cons.mpr ⟨rfl, List.forall_mem_cons.mpr ⟨rfl, fun _ h9 => absurd h9 List.not_mem_nil⟩⟩⟩⟩⟩) (Nat.le_of_ble_eq_true rfl) rfl rfl rfl rfl pn_X11_together rfl k
theorem S_X11_newWords_20 {kc ks : Nat} {h : Hh} {Q : PQ} {X : PX} {x1 : Int} {x2 : Int} {x3 : Int} {x4 : Int} {xs0 : Int}
    (k : ((xs0 ≤ x3 → ((-2147483648 ≤ ((x4 + 1) : Int) ∧ ((x4 + 1) : Int) < 2147483648)) ∧ am_V M_X11_newWords kc ks 5 [aR 72, aI x1, aI x2, aI x3, aI (x4 + 1), aU] [] am_R0 h Q X) ∧ (x3 < xs0 → ((-2147483648 ≤ ((x4 + 1) : Int) ∧ ((x4 + 1) : Int) < 2147483648)) ∧ am_V M_X11_newWords kc ks 5 [aR 72, aI x1, aI x2, aI xs0, aI (x4 + 1), aU] [] am_R0 h Q X))) :
    am_V M_X11_newWords kc ks 20 [aR 72, aI x1, aI x2, aI x3, aI x4, aU] [aI xs0] am_R0 h Q X := by
  refine v_istore (E2 := [aR 72, aI x1, aI x2, aI x3, aI x4, aI xs0]) dX11_newWords_20 (Nat.le_of_ble_eq_true rfl) rfl ?_
  refine v_iload dX11_newWords_22 rfl ?_
  refine v_iload_n dX11_newWords_24 rfl rfl ?_
  refine v_icmp_le (tgt := 33) dX11_newWords_25 (by decide) (fun z => ?_) (fun z => ?_)
  · have k := k.1 z
    obtain ⟨b1_1, k⟩ := k
    refine v_iload_n dX11_newWords_33 rfl rfl ?_
    refine v_istore_n (E2 := [aR 72, aI x1, aI x2, aI x3, aI x4, aI xs0]) dX11_newWords_34 rfl (Nat.le_of_ble_eq_true rfl) rfl ?_
    refine v_iinc (E2 := [aR 72, aI x1, aI x2, aI x3, aI (x4 + 1), aI xs0]) dX11_newWords_35 rfl b1_1 rfl ?_
    refine v_goto (tgt := 5) dX11_newWords_38 (by decide) ?_
    refine v_weak (E2 := [aR 72, aI x1, aI x2, aI x3, aI (x4 + 1), aU]) ⟨Or.inl rfl, ⟨Or.inl rfl, ⟨Or.inl rfl, ⟨Or.inl rfl, ⟨Or.inl rfl, ⟨Or.inr rfl, trivial⟩⟩⟩⟩⟩⟩ ?_
    exact k
  · have k := k.2 z
    obtain ⟨b1_1, k⟩ := k
    refine v_iload dX11_newWords_28 rfl ?_
    refine v_goto (tgt := 34) dX11_newWords_30 (by decide) ?_
    refine v_istore_n (E2 := [aR 72, aI x1, aI x2, aI xs0, aI x4, aI xs0]) dX11_newWords_34 rfl (Nat.le_of_ble_eq_true rfl) rfl ?_
    refine v_iinc (E2 := [aR 72, aI x1, aI x2, aI xs0, aI (x4 + 1), aI xs0]) dX11_newWords_35 rfl b1_1 rfl ?_
    refine v_goto (tgt := 5) dX11_newWords_38 (by decide) ?_
    refine v_weak (E2 := [aR 72, aI x1, aI x2, aI xs0, aI (x4 + 1), aU]) ⟨Or.inl rfl, ⟨Or.inl rfl, ⟨Or.inl rfl, ⟨Or.inl rfl, ⟨Or.inl rfl, ⟨Or.inr rfl, trivial⟩⟩⟩⟩⟩⟩ ?_
    exact k
theorem S_X11_words_0 {kc ks : Nat} {h : Hh} {Q : PQ} {X : PX} {x1 : Int}
    (k : am_V M_X11_isNone 0 0 0 [aR 72, aI x1] [] am_R0 h (fun v ρ' h' => am_V M_X11_words kc ks 5 [aR 72, aI x1] (v ++ []) ρ' h' Q X) X) :
    am_V M_X11_words kc ks 0 [aR 72, aI x1] [] am_R0 h Q X := by
  refine v_aload_n dX11_words_0 rfl rfl ?_
  refine v_iload_n dX11_words_1 rfl rfl ?_
  exact v_callV (j := M_X11_isNone) (As := [aI x1]) (st := []) (E0 := [aR 72, aI x1]) (a := 72) (ci := 9) (N := 11) (q9 := (RX11, TX11, 11)) dX11_words_2 ml_X11_68 J_X11_isNone (Nat.zero_le _) (Nat.zero_le _) (Nat.le_of_ble_eq_true rfl) rfl (Nat.le_of_ble_eq_true rfl) (List.forall_mem_cons.mpr ⟨rfl, List.forall_mem_cons.mpr ⟨rfl, fun _ h9 => absurd h9 List.not_mem_nil⟩⟩) (Nat.le_of_ble_eq_true rfl) rfl rfl rfl rfl pn_X11_isNone rfl k
theorem S_X11_words_5 {kc ks : Nat} {h : Hh} {Q : PQ} {X : PX} {x1 : Int} {xs0 : Int}
    (k : ((xs0 = 0 → am_V M_X11_allWords 0 0 0 [aR 72, aI x1, aU, aU, aU] [] am_R0 h (fun v ρ' h' => am_V M_X11_words kc ks 17 [aU, aU] (v ++ []) ρ' h' Q X) X) ∧ (xs0 ≠ 0 → Q [aL 0] am_R0 h))) :
    am_V M_X11_words kc ks 5 [aR 72, aI x1] [aI xs0] am_R0 h Q X := by
  refine v_if_eq (tgt := 12) dX11_words_5 (by decide) (fun z => ?_) (fun z => ?_)
  · have k := k.1 z
    refine v_aload_n dX11_words_12 rfl rfl ?_
    refine v_iload_n dX11_words_13 rfl rfl ?_
    refine v_weak (E2 := [aU, aU]) ⟨Or.inr rfl, ⟨Or.inr rfl, trivial⟩⟩ ?_
    exact v_callV (j := M_X11_allWords) (As := [aI x1]) (st := []) (E0 := [aR 72, aI x1, aU, aU, aU]) (a := 72) (ci := 9) (N := 11) (q9 := (RX11, TX11, 11)) dX11_words_14 ml_X11_120 J_X11_allWords (Nat.zero_le _) (Nat.zero_le _) (Nat.le_of_ble_eq_true rfl) rfl (Nat.le_of_ble_eq_true rfl) (List.forall_mem_cons.mpr ⟨rfl, List.forall_mem_cons.mpr ⟨rfl, fun _ h9 => absurd h9 List.not_mem_nil⟩⟩) (Nat.le_of_ble_eq_true rfl) rfl rfl rfl rfl pn_X11_allWords rfl k
  · have k := k.2 z
    refine v_lconst (x := 0) dX11_words_8 rfl ?_
    refine v_goto (tgt := 17) dX11_words_9 (by decide) ?_
    exact v_lret dX11_words_17 rfl rfl k
theorem S_X11_words_17 {kc ks : Nat} {h : Hh} {Q : PQ} {X : PX} {xs0 : Int}
    (k : Q [aL xs0] am_R0 h) :
    am_V M_X11_words kc ks 17 [aU, aU] [aL xs0] am_R0 h Q X := by
  exact v_lret dX11_words_17 rfl rfl k
theorem S_X11_word_0 {kc ks : Nat} {h : Hh} {Q : PQ} {X : PX} {x1 : Int} {x2 : Int}
    (k : am_V M_X11_isNone 0 0 0 [aR 72, aI x1] [] am_R0 h (fun v ρ' h' => am_V M_X11_word kc ks 5 [aR 72, aI x1, aI x2, aU, aU, aU, aU, aU] (v ++ []) ρ' h' Q X) X) :
    am_V M_X11_word kc ks 0 [aR 72, aI x1, aI x2, aU, aU, aU, aU, aU] [] am_R0 h Q X := by
  refine v_aload_n dX11_word_0 rfl rfl ?_
  refine v_iload_n dX11_word_1 rfl rfl ?_
  exact v_callV (j := M_X11_isNone) (As := [aI x1]) (st := []) (E0 := [aR 72, aI x1]) (a := 72) (ci := 9) (N := 11) (q9 := (RX11, TX11, 11)) dX11_word_2 ml_X11_68 J_X11_isNone (Nat.zero_le _) (Nat.zero_le _) (Nat.le_of_ble_eq_true rfl) rfl (Nat.le_of_ble_eq_true rfl) (List.forall_mem_cons.mpr ⟨rfl, List.forall_mem_cons.mpr ⟨rfl, fun _ h9 => absurd h9 List.not_mem_nil⟩⟩) (Nat.le_of_ble_eq_true rfl) rfl rfl rfl rfl pn_X11_isNone rfl k
theorem S_X11_word_5 {kc ks : Nat} {h : Hh} {Q : PQ} {X : PX} {x1 : Int} {x2 : Int} {xs0 : Int}
    (k : ((xs0 = 0 → am_V M_X11_sorts 0 0 0 [aR 72, aI x1, aU] [] am_R0 h (fun v ρ' h' => am_V M_X11_word kc ks 15 [aR 72, aI x1, aI x2, aU, aU, aU, aU, aU] (v ++ []) ρ' h' Q X) X) ∧ (xs0 ≠ 0 → Q [aI 0] am_R0 h))) :
    am_V M_X11_word kc ks 5 [aR 72, aI x1, aI x2, aU, aU, aU, aU, aU] [aI xs0] am_R0 h Q X := by
  refine v_if_eq (tgt := 10) dX11_word_5 (by decide) (fun z => ?_) (fun z => ?_)
  · have k := k.1 z
    refine v_aload_n dX11_word_10 rfl rfl ?_
    refine v_iload_n dX11_word_11 rfl rfl ?_
    exact v_callV (j := M_X11_sorts) (As := [aI x1]) (st := []) (E0 := [aR 72, aI x1, aU]) (a := 72) (ci := 9) (N := 11) (q9 := (RX11, TX11, 11)) dX11_word_12 ml_X11_93 J_X11_sorts (Nat.zero_le _) (Nat.zero_le _) (Nat.le_of_ble_eq_true rfl) rfl (Nat.le_of_ble_eq_true rfl) (List.forall_mem_cons.mpr ⟨rfl, List.forall_mem_cons.mpr ⟨rfl, fun _ h9 => absurd h9 List.not_mem_nil⟩⟩) (Nat.le_of_ble_eq_true rfl) rfl rfl rfl rfl pn_X11_sorts rfl k
  · have k := k.2 z
    refine v_iconst dX11_word_8 ⟨by decide, by decide⟩ ?_
    exact v_iret dX11_word_9 rfl rfl k
theorem S_X11_word_15 {kc ks : Nat} {h : Hh} {Q : PQ} {X : PX} {x1 : Int} {x2 : Int}
    (k : am_V M_X11_word kc ks 20 [aR 72, aI x1, aI x2, aI x2, aI 0, aU, aU, aU] [] am_R0 h Q X) :
    am_V M_X11_word kc ks 15 [aR 72, aI x1, aI x2, aU, aU, aU, aU, aU] [] am_R0 h Q X := by
  refine v_iload_n dX11_word_15 rfl rfl ?_
  refine v_istore_n (E2 := [aR 72, aI x1, aI x2, aI x2, aU, aU, aU, aU]) dX11_word_16 rfl (Nat.le_of_ble_eq_true rfl) rfl ?_
  refine v_iconst dX11_word_17 ⟨by decide, by decide⟩ ?_
  refine v_istore (E2 := [aR 72, aI x1, aI x2, aI x2, aI 0, aU, aU, aU]) dX11_word_18 (Nat.le_of_ble_eq_true rfl) rfl ?_
  exact k
theorem S_X11_word_20 {kc ks : Nat} {h : Hh} {Q : PQ} {X : PX} {x1 : Int} {x2 : Int} {x3 : Int} {x4 : Int}
    (k : ((0 : Int) ≤ x1 ∧ (x1 : Int) < 9) ∧ (((h 74 x1) ≤ x4 → Q [aI 0] am_R0 (am_st h 72 10 2)) ∧ (x4 < (h 74 x1) → ((x2 < 0 → Q [aI 0] am_R0 (am_st h 72 10 2)) ∧ (0 ≤ x2 → am_V M_X11_commonAt 0 0 0 [aR 72, aI x1, aI x4] [] am_R0 h (fun v ρ' h' => am_V M_X11_word kc ks 42 [aR 72, aI x1, aI x2, aI x3, aI x4, aU, aU, aU] (v ++ []) ρ' h' Q X) X))))) :
    am_V M_X11_word kc ks 20 [aR 72, aI x1, aI x2, aI x3, aI x4, aU, aU, aU] [] am_R0 h Q X := by
  obtain ⟨⟨b0_1, b0_2⟩, k⟩ := k
  refine v_iload dX11_word_20 rfl ?_
  refine v_aload_n dX11_word_22 rfl rfl ?_
  refine v_getR (x := 74) dX11_word_23 fl_X11_13 am_clsA rfl rfl rfl ?_
  refine v_iload_n dX11_word_26 rfl rfl ?_
  refine v_iald dX11_word_27 rfl b0_1 b0_2 ?_
  refine v_icmp_ge (tgt := 140) dX11_word_28 (by decide) (fun z => ?_) (fun z => ?_)
  · have k := k.1 z
    refine v_aload_n dX11_word_140 rfl rfl ?_
    refine v_iconst dX11_word_141 ⟨by decide, by decide⟩ ?_
    refine v_putI (j := 10) dX11_word_142 pl_X11_35 am_clsA rfl rfl rfl ?_
    refine v_iconst dX11_word_145 ⟨by decide, by decide⟩ ?_
    exact v_iret dX11_word_146 rfl rfl k
  · have k := k.2 z
    refine v_iload_n dX11_word_31 rfl rfl ?_
    refine v_if_lt (tgt := 140) dX11_word_32 (by decide) (fun z => ?_) (fun z => ?_)
    · have k := k.1 z
      refine v_aload_n dX11_word_140 rfl rfl ?_
      refine v_iconst dX11_word_141 ⟨by decide, by decide⟩ ?_
      refine v_putI (j := 10) dX11_word_142 pl_X11_35 am_clsA rfl rfl rfl ?_
      refine v_iconst dX11_word_145 ⟨by decide, by decide⟩ ?_
      exact v_iret dX11_word_146 rfl rfl k
    · have k := k.2 z
      refine v_aload_n dX11_word_35 rfl rfl ?_
      refine v_iload_n dX11_word_36 rfl rfl ?_
      refine v_iload dX11_word_37 rfl ?_
      exact v_callV (j := M_X11_commonAt) (As := [aI x1, aI x4]) (st := []) (E0 := [aR 72, aI x1, aI x4]) (a := 72) (ci := 9) (N := 11) (q9 := (RX11, TX11, 11)) dX11_word_39 ml_X11_105 J_X11_commonAt (Nat.zero_le _) (Nat.zero_le _) (Nat.le_of_ble_eq_true rfl) rfl (Nat.le_of_ble_eq_true rfl) (List.forall_mem_cons.mpr ⟨rfl, List.forall_mem_cons.mpr ⟨rfl, List.forall_mem_cons.mpr ⟨rfl, fun _ h9 => absurd h9 List.not_mem_nil⟩⟩⟩) (Nat.le_of_ble_eq_true rfl) rfl rfl rfl rfl pn_X11_commonAt rfl k
theorem S_X11_word_42 {kc ks : Nat} {h : Hh} {Q : PQ} {X : PX} {x1 : Int} {x2 : Int} {x3 : Int} {x4 : Int} {xs0 : Int}
    (k : ((0 : Int) ≤ x1 ∧ (x1 : Int) < 9 ∧ (0 : Int) ≤ x4 ∧ (x4 : Int) < 64 ∧ (-2147483648 ≤ (((h 74 x1) - (h 76 x4)) : Int) ∧ (((h 74 x1) - (h 76 x4)) : Int) < 2147483648) ∧ (-2147483648 ≤ ((((h 74 x1) - (h 76 x4)) - xs0) : Int) ∧ ((((h 74 x1) - (h 76 x4)) - xs0) : Int) < 2147483648)) ∧ (((((h 74 x1) - (h 76 x4)) - xs0) ≤ x3 → ((-2147483648 ≤ ((x3 - (((h 74 x1) - (h 76 x4)) - xs0)) : Int) ∧ ((x3 - (((h 74 x1) - (h 76 x4)) - xs0)) : Int) < 2147483648) ∧ (-2147483648 ≤ ((x4 + 1) : Int) ∧ ((x4 + 1) : Int) < 2147483648)) ∧ am_V M_X11_word kc ks 20 [aR 72, aI x1, aI x2, aI (x3 - (((h 74 x1) - (h 76 x4)) - xs0)), aI (x4 + 1), aU, aU, aU] [] am_R0 h Q X) ∧ (x3 < (((h 74 x1) - (h 76 x4)) - xs0) → ((-2147483648 ≤ ((xs0 + x3) : Int) ∧ ((xs0 + x3) : Int) < 2147483648) ∧ (-2147483648 ≤ (((xs0 + x3) + 1) : Int) ∧ (((xs0 + x3) + 1) : Int) < 2147483648)) ∧ am_V M_X11_word kc ks 82 [aR 72, aI x1, aU, aU, aI x4, aU, aU, aI 0] [] am_R0 (am_st h 72 9 ((xs0 + x3) + 1)) Q X))) :
    am_V M_X11_word kc ks 42 [aR 72, aI x1, aI x2, aI x3, aI x4, aU, aU, aU] [aI xs0] am_R0 h Q X := by
  obtain ⟨⟨b0_1, b0_2, b0_3, b0_4, b0_5, b0_6⟩, k⟩ := k
  refine v_istore (E2 := [aR 72, aI x1, aI x2, aI x3, aI x4, aI xs0, aU, aU]) dX11_word_42 (Nat.le_of_ble_eq_true rfl) rfl ?_
  refine v_aload_n dX11_word_44 rfl rfl ?_
  refine v_getR (x := 74) dX11_word_45 fl_X11_13 am_clsA rfl rfl rfl ?_
  refine v_iload_n dX11_word_48 rfl rfl ?_
  refine v_iald dX11_word_49 rfl b0_1 b0_2 ?_
  refine v_aload_n dX11_word_50 rfl rfl ?_
  refine v_getR (x := 76) dX11_word_51 fl_X11_20 am_clsA rfl rfl rfl ?_
  refine v_iload dX11_word_54 rfl ?_
  refine v_iald dX11_word_56 rfl b0_3 b0_4 ?_
  refine v_isub dX11_word_57 b0_5 ?_
  refine v_iload dX11_word_58 rfl ?_
  refine v_isub dX11_word_60 b0_6 ?_
  refine v_istore (E2 := [aR 72, aI x1, aI x2, aI x3, aI x4, aI xs0, aI (((h 74 x1) - (h 76 x4)) - xs0), aU]) dX11_word_61 (Nat.le_of_ble_eq_true rfl) rfl ?_
  refine v_iload_n dX11_word_63 rfl rfl ?_
  refine v_iload dX11_word_64 rfl ?_
  refine v_icmp_ge (tgt := 129) dX11_word_66 (by decide) (fun z => ?_) (fun z => ?_)
  · have k := k.1 z
    obtain ⟨⟨b1_1, b1_2⟩, k⟩ := k
    refine v_iload_n dX11_word_129 rfl rfl ?_
    refine v_iload dX11_word_130 rfl ?_
    refine v_isub dX11_word_132 b1_1 ?_
    refine v_istore_n (E2 := [aR 72, aI x1, aI x2, aI (x3 - (((h 74 x1) - (h 76 x4)) - xs0)), aI x4, aI xs0, aI (((h 74 x1) - (h 76 x4)) - xs0), aU]) dX11_word_133 rfl (Nat.le_of_ble_eq_true rfl) rfl ?_
    refine v_iinc (E2 := [aR 72, aI x1, aI x2, aI (x3 - (((h 74 x1) - (h 76 x4)) - xs0)), aI (x4 + 1), aI xs0, aI (((h 74 x1) - (h 76 x4)) - xs0), aU]) dX11_word_134 rfl b1_2 rfl ?_
    refine v_goto (tgt := 20) dX11_word_137 (by decide) ?_
    refine v_weak (E2 := [aR 72, aI x1, aI x2, aI (x3 - (((h 74 x1) - (h 76 x4)) - xs0)), aI (x4 + 1), aU, aU, aU]) ⟨Or.inl rfl, ⟨Or.inl rfl, ⟨Or.inl rfl, ⟨Or.inl rfl, ⟨Or.inl rfl, ⟨Or.inr rfl, ⟨Or.inr rfl, ⟨Or.inl rfl, trivial⟩⟩⟩⟩⟩⟩⟩⟩ ?_
    exact k
  · have k := k.2 z
    obtain ⟨⟨b1_1, b1_2⟩, k⟩ := k
    refine v_aload_n dX11_word_69 rfl rfl ?_
    refine v_iload dX11_word_70 rfl ?_
    refine v_iload_n dX11_word_72 rfl rfl ?_
    refine v_iadd dX11_word_73 b1_1 ?_
    refine v_iconst dX11_word_74 ⟨by decide, by decide⟩ ?_
    refine v_iadd dX11_word_75 b1_2 ?_
    refine v_putI (j := 9) dX11_word_76 pl_X11_54 am_clsA rfl rfl rfl ?_
    refine v_iconst dX11_word_79 ⟨by decide, by decide⟩ ?_
    refine v_istore (E2 := [aR 72, aI x1, aI x2, aI x3, aI x4, aI xs0, aI (((h 74 x1) - (h 76 x4)) - xs0), aI 0]) dX11_word_80 (Nat.le_of_ble_eq_true rfl) rfl ?_
    refine v_weak (E2 := [aR 72, aI x1, aU, aU, aI x4, aU, aU, aI 0]) ⟨Or.inl rfl, ⟨Or.inl rfl, ⟨Or.inr rfl, ⟨Or.inr rfl, ⟨Or.inl rfl, ⟨Or.inr rfl, ⟨Or.inr rfl, ⟨Or.inl rfl, trivial⟩⟩⟩⟩⟩⟩⟩⟩ ?_
    exact k
theorem S_X11_word_82 {kc ks : Nat} {h : Hh} {Q : PQ} {X : PX} {x1 : Int} {x4 : Int} {x7 : Int}
    (k : (((h 72 9) ≤ x7 → Q [aI (h 72 9)] am_R0 h) ∧ (x7 < (h 72 9) → ((-2147483648 ≤ ((64 * x1) : Int) ∧ ((64 * x1) : Int) < 2147483648) ∧ (0 : Int) ≤ x4 ∧ (x4 : Int) < 64 ∧ (-2147483648 ≤ (((64 * x1) + (h 76 x4)) : Int) ∧ (((64 * x1) + (h 76 x4)) : Int) < 2147483648) ∧ (-2147483648 ≤ ((((64 * x1) + (h 76 x4)) + x7) : Int) ∧ ((((64 * x1) + (h 76 x4)) + x7) : Int) < 2147483648) ∧ (0 : Int) ≤ (((64 * x1) + (h 76 x4)) + x7) ∧ ((((64 * x1) + (h 76 x4)) + x7) : Int) < 576 ∧ (0 : Int) ≤ x7 ∧ (x7 : Int) < 65 ∧ (-2147483648 ≤ ((x7 + 1) : Int) ∧ ((x7 + 1) : Int) < 2147483648)) ∧ am_V M_X11_word kc ks 82 [aR 72, aI x1, aU, aU, aI x4, aU, aU, aI (x7 + 1)] [] am_R0 (am_st h 75 x7 ((h 73 (((64 * x1) + (h 76 x4)) + x7)) % 65536)) Q X))) :
    am_V M_X11_word kc ks 82 [aR 72, aI x1, aU, aU, aI x4, aU, aU, aI x7] [] am_R0 h Q X := by
  refine v_iload dX11_word_82 rfl ?_
  refine v_aload_n dX11_word_84 rfl rfl ?_
  refine v_getI (j := 9) dX11_word_85 fl_X11_54 am_clsA rfl rfl rfl ?_
  refine v_icmp_ge (tgt := 124) dX11_word_88 (by decide) (fun z => ?_) (fun z => ?_)
  · have k := k.1 z
    refine v_aload_n dX11_word_124 rfl rfl ?_
    refine v_getI (j := 9) dX11_word_125 fl_X11_54 am_clsA rfl rfl rfl ?_
    exact v_iret dX11_word_128 rfl rfl k
  · have k := k.2 z
    obtain ⟨⟨b1_1, b1_2, b1_3, b1_4, b1_5, b1_6, b1_7, b1_8, b1_9, b1_10⟩, k⟩ := k
    refine v_aload_n dX11_word_91 rfl rfl ?_
    refine v_getR (x := 75) dX11_word_92 fl_X11_17 am_clsA rfl rfl rfl ?_
    refine v_iload dX11_word_95 rfl ?_
    refine v_aload_n dX11_word_97 rfl rfl ?_
    refine v_getR (x := 73) dX11_word_98 fl_X11_7 am_clsA rfl rfl rfl ?_
    refine v_bipush dX11_word_101 (by decide) (by decide) ?_
    refine v_iload_n dX11_word_103 rfl rfl ?_
    refine v_imul dX11_word_104 b1_1 ?_
    refine v_aload_n dX11_word_105 rfl rfl ?_
    refine v_getR (x := 76) dX11_word_106 fl_X11_20 am_clsA rfl rfl rfl ?_
    refine v_iload dX11_word_109 rfl ?_
    refine v_iald dX11_word_111 rfl b1_2 b1_3 ?_
    refine v_iadd dX11_word_112 b1_4 ?_
    refine v_iload dX11_word_113 rfl ?_
    refine v_iadd dX11_word_115 b1_5 ?_
    refine v_cald dX11_word_116 rfl b1_6 b1_7 ?_
    refine v_cast dX11_word_117 rfl b1_8 b1_9 ?_
    refine v_iinc (E2 := [aR 72, aI x1, aU, aU, aI x4, aU, aU, aI (x7 + 1)]) dX11_word_118 rfl b1_10 rfl ?_
    refine v_goto (tgt := 82) dX11_word_121 (by decide) ?_
    exact k
theorem S_X11_numberOf_0 {kc ks : Nat} {h : Hh} {Q : PQ} {X : PX} {x1 : Int}
    (k : am_V M_X11_isNoWord 0 0 0 [aR 72, aI x1] [] am_R0 h (fun v ρ' h' => am_V M_X11_numberOf kc ks 5 [aR 72, aI x1, aU, aU, aU] (v ++ []) ρ' h' Q X) X) :
    am_V M_X11_numberOf kc ks 0 [aR 72, aI x1, aU, aU, aU] [] am_R0 h Q X := by
  refine v_aload_n dX11_numberOf_0 rfl rfl ?_
  refine v_iload_n dX11_numberOf_1 rfl rfl ?_
  exact v_callV (j := M_X11_isNoWord) (As := [aI x1]) (st := []) (E0 := [aR 72, aI x1]) (a := 72) (ci := 9) (N := 11) (q9 := (RX11, TX11, 11)) dX11_numberOf_2 ml_X11_111 J_X11_isNoWord (Nat.zero_le _) (Nat.zero_le _) (Nat.le_of_ble_eq_true rfl) rfl (Nat.le_of_ble_eq_true rfl) (List.forall_mem_cons.mpr ⟨rfl, List.forall_mem_cons.mpr ⟨rfl, fun _ h9 => absurd h9 List.not_mem_nil⟩⟩) (Nat.le_of_ble_eq_true rfl) rfl rfl rfl rfl pn_X11_isNoWord rfl k
theorem S_X11_numberOf_5 {kc ks : Nat} {h : Hh} {Q : PQ} {X : PX} {x1 : Int} {xs0 : Int}
    (k : ((xs0 = 0 → am_V M_X11_sorts 0 0 0 [aR 72, aI x1, aU] [] am_R0 h (fun v ρ' h' => am_V M_X11_numberOf kc ks 15 [aR 72, aI x1, aU, aU, aU] (v ++ []) ρ' h' Q X) X) ∧ (xs0 ≠ 0 → Q [aI 0] am_R0 h))) :
    am_V M_X11_numberOf kc ks 5 [aR 72, aI x1, aU, aU, aU] [aI xs0] am_R0 h Q X := by
  refine v_if_eq (tgt := 10) dX11_numberOf_5 (by decide) (fun z => ?_) (fun z => ?_)
  · have k := k.1 z
    refine v_aload_n dX11_numberOf_10 rfl rfl ?_
    refine v_iload_n dX11_numberOf_11 rfl rfl ?_
    exact v_callV (j := M_X11_sorts) (As := [aI x1]) (st := []) (E0 := [aR 72, aI x1, aU]) (a := 72) (ci := 9) (N := 11) (q9 := (RX11, TX11, 11)) dX11_numberOf_12 ml_X11_93 J_X11_sorts (Nat.zero_le _) (Nat.zero_le _) (Nat.le_of_ble_eq_true rfl) rfl (Nat.le_of_ble_eq_true rfl) (List.forall_mem_cons.mpr ⟨rfl, List.forall_mem_cons.mpr ⟨rfl, fun _ h9 => absurd h9 List.not_mem_nil⟩⟩) (Nat.le_of_ble_eq_true rfl) rfl rfl rfl rfl pn_X11_sorts rfl k
  · have k := k.2 z
    refine v_iconst dX11_numberOf_8 ⟨by decide, by decide⟩ ?_
    exact v_iret dX11_numberOf_9 rfl rfl k
theorem S_X11_numberOf_15 {kc ks : Nat} {h : Hh} {Q : PQ} {X : PX} {x1 : Int}
    (k : am_V M_X11_numberOf kc ks 19 [aR 72, aI x1, aI 0, aI 0, aU] [] am_R0 h Q X) :
    am_V M_X11_numberOf kc ks 15 [aR 72, aI x1, aU, aU, aU] [] am_R0 h Q X := by
  refine v_iconst dX11_numberOf_15 ⟨by decide, by decide⟩ ?_
  refine v_istore_n (E2 := [aR 72, aI x1, aI 0, aU, aU]) dX11_numberOf_16 rfl (Nat.le_of_ble_eq_true rfl) rfl ?_
  refine v_iconst dX11_numberOf_17 ⟨by decide, by decide⟩ ?_
  refine v_istore_n (E2 := [aR 72, aI x1, aI 0, aI 0, aU]) dX11_numberOf_18 rfl (Nat.le_of_ble_eq_true rfl) rfl ?_
  exact k
theorem S_X11_numberOf_19 {kc ks : Nat} {h : Hh} {Q : PQ} {X : PX} {x1 : Int} {x2 : Int} {x3 : Int}
    (k : ((0 : Int) ≤ x1 ∧ (x1 : Int) < 9) ∧ (((h 74 x1) ≤ x3 → Q [aI 0] am_R0 (am_st h 72 10 3)) ∧ (x3 < (h 74 x1) → am_V M_X11_commonAt 0 0 0 [aR 72, aI x1, aI x3] [] am_R0 h (fun v ρ' h' => am_V M_X11_numberOf kc ks 35 [aR 72, aI x1, aI x2, aI x3, aU] (v ++ []) ρ' h' Q X) X))) :
    am_V M_X11_numberOf kc ks 19 [aR 72, aI x1, aI x2, aI x3, aU] [] am_R0 h Q X := by
  obtain ⟨⟨b0_1, b0_2⟩, k⟩ := k
  refine v_iload_n dX11_numberOf_19 rfl rfl ?_
  refine v_aload_n dX11_numberOf_20 rfl rfl ?_
  refine v_getR (x := 74) dX11_numberOf_21 fl_X11_13 am_clsA rfl rfl rfl ?_
  refine v_iload_n dX11_numberOf_24 rfl rfl ?_
  refine v_iald dX11_numberOf_25 rfl b0_1 b0_2 ?_
  refine v_icmp_ge (tgt := 89) dX11_numberOf_26 (by decide) (fun z => ?_) (fun z => ?_)
  · have k := k.1 z
    refine v_aload_n dX11_numberOf_89 rfl rfl ?_
    refine v_iconst dX11_numberOf_90 ⟨by decide, by decide⟩ ?_
    refine v_putI (j := 10) dX11_numberOf_91 pl_X11_35 am_clsA rfl rfl rfl ?_
    refine v_iconst dX11_numberOf_94 ⟨by decide, by decide⟩ ?_
    exact v_iret dX11_numberOf_95 rfl rfl k
  · have k := k.2 z
    refine v_aload_n dX11_numberOf_29 rfl rfl ?_
    refine v_iload_n dX11_numberOf_30 rfl rfl ?_
    refine v_iload_n dX11_numberOf_31 rfl rfl ?_
    exact v_callV (j := M_X11_commonAt) (As := [aI x1, aI x3]) (st := []) (E0 := [aR 72, aI x1, aI x3]) (a := 72) (ci := 9) (N := 11) (q9 := (RX11, TX11, 11)) dX11_numberOf_32 ml_X11_105 J_X11_commonAt (Nat.zero_le _) (Nat.zero_le _) (Nat.le_of_ble_eq_true rfl) rfl (Nat.le_of_ble_eq_true rfl) (List.forall_mem_cons.mpr ⟨rfl, List.forall_mem_cons.mpr ⟨rfl, List.forall_mem_cons.mpr ⟨rfl, fun _ h9 => absurd h9 List.not_mem_nil⟩⟩⟩) (Nat.le_of_ble_eq_true rfl) rfl rfl rfl rfl pn_X11_commonAt rfl k
theorem S_X11_numberOf_35 {kc ks : Nat} {h : Hh} {Q : PQ} {X : PX} {x1 : Int} {x2 : Int} {x3 : Int} {xs0 : Int}
    (k : ((0 : Int) ≤ x3 ∧ (x3 : Int) < 64) ∧ am_V M_X11_stands 0 0 0 [aR 72, aI 0, aI x1, aI (h 76 x3), aU] [] am_R0 h (fun v ρ' h' => am_V M_X11_numberOf kc ks 49 [aR 72, aI x1, aI x2, aI x3, aI xs0] (v ++ []) ρ' h' Q X) X) :
    am_V M_X11_numberOf kc ks 35 [aR 72, aI x1, aI x2, aI x3, aU] [aI xs0] am_R0 h Q X := by
  obtain ⟨⟨b0_1, b0_2⟩, k⟩ := k
  refine v_istore (E2 := [aR 72, aI x1, aI x2, aI x3, aI xs0]) dX11_numberOf_35 (Nat.le_of_ble_eq_true rfl) rfl ?_
  refine v_aload_n dX11_numberOf_37 rfl rfl ?_
  refine v_iconst dX11_numberOf_38 ⟨by decide, by decide⟩ ?_
  refine v_iload_n dX11_numberOf_39 rfl rfl ?_
  refine v_aload_n dX11_numberOf_40 rfl rfl ?_
  refine v_getR (x := 76) dX11_numberOf_41 fl_X11_20 am_clsA rfl rfl rfl ?_
  refine v_iload_n dX11_numberOf_44 rfl rfl ?_
  refine v_iald dX11_numberOf_45 rfl b0_1 b0_2 ?_
  exact v_callV (j := M_X11_stands) (As := [aI 0, aI x1, aI (h 76 x3)]) (st := []) (E0 := [aR 72, aI 0, aI x1, aI (h 76 x3), aU]) (a := 72) (ci := 9) (N := 11) (q9 := (RX11, TX11, 11)) dX11_numberOf_46 ml_X11_108 J_X11_stands (Nat.zero_le _) (Nat.zero_le _) (Nat.le_of_ble_eq_true rfl) rfl (Nat.le_of_ble_eq_true rfl) (List.forall_mem_cons.mpr ⟨rfl, List.forall_mem_cons.mpr ⟨rfl, List.forall_mem_cons.mpr ⟨rfl, List.forall_mem_cons.mpr ⟨rfl, fun _ h9 => absurd h9 List.not_mem_nil⟩⟩⟩⟩) (Nat.le_of_ble_eq_true rfl) rfl rfl rfl rfl pn_X11_stands rfl k
theorem S_X11_numberOf_49 {kc ks : Nat} {h : Hh} {Q : PQ} {X : PX} {x1 : Int} {x2 : Int} {x3 : Int} {x4 : Int} {xs0 : Int}
    (k : ((xs0 = 0 → ((0 : Int) ≤ x1 ∧ (x1 : Int) < 9 ∧ (0 : Int) ≤ x3 ∧ (x3 : Int) < 64 ∧ (-2147483648 ≤ (((h 74 x1) - (h 76 x3)) : Int) ∧ (((h 74 x1) - (h 76 x3)) : Int) < 2147483648) ∧ (-2147483648 ≤ ((((h 74 x1) - (h 76 x3)) - x4) : Int) ∧ ((((h 74 x1) - (h 76 x3)) - x4) : Int) < 2147483648) ∧ (-2147483648 ≤ ((x2 + (((h 74 x1) - (h 76 x3)) - x4)) : Int) ∧ ((x2 + (((h 74 x1) - (h 76 x3)) - x4)) : Int) < 2147483648) ∧ (-2147483648 ≤ ((x3 + 1) : Int) ∧ ((x3 + 1) : Int) < 2147483648)) ∧ am_V M_X11_numberOf kc ks 19 [aR 72, aI x1, aI (x2 + (((h 74 x1) - (h 76 x3)) - x4)), aI (x3 + 1), aU] [] am_R0 h Q X) ∧ (xs0 ≠ 0 → ((-2147483648 ≤ ((x2 + (h 72 9)) : Int) ∧ ((x2 + (h 72 9)) : Int) < 2147483648) ∧ (-2147483648 ≤ (((x2 + (h 72 9)) - x4) : Int) ∧ (((x2 + (h 72 9)) - x4) : Int) < 2147483648) ∧ (-2147483648 ≤ ((((x2 + (h 72 9)) - x4) - 1) : Int) ∧ ((((x2 + (h 72 9)) - x4) - 1) : Int) < 2147483648)) ∧ Q [aI (((x2 + (h 72 9)) - x4) - 1)] am_R0 h))) :
    am_V M_X11_numberOf kc ks 49 [aR 72, aI x1, aI x2, aI x3, aI x4] [aI xs0] am_R0 h Q X := by
  refine v_if_eq (tgt := 64) dX11_numberOf_49 (by decide) (fun z => ?_) (fun z => ?_)
  · have k := k.1 z
    obtain ⟨⟨b1_1, b1_2, b1_3, b1_4, b1_5, b1_6, b1_7, b1_8⟩, k⟩ := k
    refine v_iload_n dX11_numberOf_64 rfl rfl ?_
    refine v_aload_n dX11_numberOf_65 rfl rfl ?_
    refine v_getR (x := 74) dX11_numberOf_66 fl_X11_13 am_clsA rfl rfl rfl ?_
    refine v_iload_n dX11_numberOf_69 rfl rfl ?_
    refine v_iald dX11_numberOf_70 rfl b1_1 b1_2 ?_
    refine v_aload_n dX11_numberOf_71 rfl rfl ?_
    refine v_getR (x := 76) dX11_numberOf_72 fl_X11_20 am_clsA rfl rfl rfl ?_
    refine v_iload_n dX11_numberOf_75 rfl rfl ?_
    refine v_iald dX11_numberOf_76 rfl b1_3 b1_4 ?_
    refine v_isub dX11_numberOf_77 b1_5 ?_
    refine v_iload dX11_numberOf_78 rfl ?_
    refine v_isub dX11_numberOf_80 b1_6 ?_
    refine v_iadd dX11_numberOf_81 b1_7 ?_
    refine v_istore_n (E2 := [aR 72, aI x1, aI (x2 + (((h 74 x1) - (h 76 x3)) - x4)), aI x3, aI x4]) dX11_numberOf_82 rfl (Nat.le_of_ble_eq_true rfl) rfl ?_
    refine v_iinc (E2 := [aR 72, aI x1, aI (x2 + (((h 74 x1) - (h 76 x3)) - x4)), aI (x3 + 1), aI x4]) dX11_numberOf_83 rfl b1_8 rfl ?_
    refine v_goto (tgt := 19) dX11_numberOf_86 (by decide) ?_
    refine v_weak (E2 := [aR 72, aI x1, aI (x2 + (((h 74 x1) - (h 76 x3)) - x4)), aI (x3 + 1), aU]) ⟨Or.inl rfl, ⟨Or.inl rfl, ⟨Or.inl rfl, ⟨Or.inl rfl, ⟨Or.inr rfl, trivial⟩⟩⟩⟩⟩ ?_
    exact k
  · have k := k.2 z
    obtain ⟨⟨b1_1, b1_2, b1_3⟩, k⟩ := k
    refine v_iload_n dX11_numberOf_52 rfl rfl ?_
    refine v_aload_n dX11_numberOf_53 rfl rfl ?_
    refine v_getI (j := 9) dX11_numberOf_54 fl_X11_54 am_clsA rfl rfl rfl ?_
    refine v_iadd dX11_numberOf_57 b1_1 ?_
    refine v_iload dX11_numberOf_58 rfl ?_
    refine v_isub dX11_numberOf_60 b1_2 ?_
    refine v_iconst dX11_numberOf_61 ⟨by decide, by decide⟩ ?_
    refine v_isub dX11_numberOf_62 b1_3 ?_
    exact v_iret dX11_numberOf_63 rfl rfl k
theorem S_X11_longestTwice_0 {kc ks : Nat} {h : Hh} {Q : PQ} {X : PX} {x1 : Int}
    (k : am_V M_X11_longestTwice kc ks 4 [aR 72, aI x1, aI 0, aI 0, aU, aU] [] am_R0 h Q X) :
    am_V M_X11_longestTwice kc ks 0 [aR 72, aI x1, aU, aU, aU, aU] [] am_R0 h Q X := by
  refine v_iconst dX11_longestTwice_0 ⟨by decide, by decide⟩ ?_
  refine v_istore_n (E2 := [aR 72, aI x1, aI 0, aU, aU, aU]) dX11_longestTwice_1 rfl (Nat.le_of_ble_eq_true rfl) rfl ?_
  refine v_iconst dX11_longestTwice_2 ⟨by decide, by decide⟩ ?_
  refine v_istore_n (E2 := [aR 72, aI x1, aI 0, aI 0, aU, aU]) dX11_longestTwice_3 rfl (Nat.le_of_ble_eq_true rfl) rfl ?_
  exact k
theorem S_X11_longestTwice_4 {kc ks : Nat} {h : Hh} {Q : PQ} {X : PX} {x1 : Int} {x2 : Int} {x3 : Int}
    (k : ((0 : Int) ≤ x1 ∧ (x1 : Int) < 9) ∧ (((h 74 x1) ≤ x3 → Q [aI x2] am_R0 h) ∧ (x3 < (h 74 x1) → ((-2147483648 ≤ ((x3 + 1) : Int) ∧ ((x3 + 1) : Int) < 2147483648)) ∧ am_V M_X11_longestTwice kc ks 19 [aR 72, aI x1, aI x2, aI x3, aI (x3 + 1), aU] [] am_R0 h Q X))) :
    am_V M_X11_longestTwice kc ks 4 [aR 72, aI x1, aI x2, aI x3, aU, aU] [] am_R0 h Q X := by
  obtain ⟨⟨b0_1, b0_2⟩, k⟩ := k
  refine v_iload_n dX11_longestTwice_4 rfl rfl ?_
  refine v_aload_n dX11_longestTwice_5 rfl rfl ?_
  refine v_getR (x := 74) dX11_longestTwice_6 fl_X11_13 am_clsA rfl rfl rfl ?_
  refine v_iload_n dX11_longestTwice_9 rfl rfl ?_
  refine v_iald dX11_longestTwice_10 rfl b0_1 b0_2 ?_
  refine v_icmp_ge (tgt := 66) dX11_longestTwice_11 (by decide) (fun z => ?_) (fun z => ?_)
  · have k := k.1 z
    refine v_iload_n dX11_longestTwice_66 rfl rfl ?_
    exact v_iret dX11_longestTwice_67 rfl rfl k
  · have k := k.2 z
    obtain ⟨b1_1, k⟩ := k
    refine v_iload_n dX11_longestTwice_14 rfl rfl ?_
    refine v_iconst dX11_longestTwice_15 ⟨by decide, by decide⟩ ?_
    refine v_iadd dX11_longestTwice_16 b1_1 ?_
    refine v_istore (E2 := [aR 72, aI x1, aI x2, aI x3, aI (x3 + 1), aU]) dX11_longestTwice_17 (Nat.le_of_ble_eq_true rfl) rfl ?_
    exact k
theorem S_X11_longestTwice_19 {kc ks : Nat} {h : Hh} {Q : PQ} {X : PX} {x1 : Int} {x2 : Int} {x3 : Int} {x4 : Int}
    (k : ((0 : Int) ≤ x1 ∧ (x1 : Int) < 9) ∧ (((h 74 x1) ≤ x4 → ((-2147483648 ≤ ((x3 + 1) : Int) ∧ ((x3 + 1) : Int) < 2147483648)) ∧ am_V M_X11_longestTwice kc ks 4 [aR 72, aI x1, aI x2, aI (x3 + 1), aU, aU] [] am_R0 h Q X) ∧ (x4 < (h 74 x1) → am_V M_X11_together 0 0 0 [aR 72, aI x1, aI x3, aI x1, aI x4, aU] [] am_R0 h (fun v ρ' h' => am_V M_X11_longestTwice kc ks 39 [aR 72, aI x1, aI x2, aI x3, aI x4, aU] (v ++ []) ρ' h' Q X) X))) :
    am_V M_X11_longestTwice kc ks 19 [aR 72, aI x1, aI x2, aI x3, aI x4, aU] [] am_R0 h Q X := by
  obtain ⟨⟨b0_1, b0_2⟩, k⟩ := k
  refine v_iload dX11_longestTwice_19 rfl ?_
  refine v_aload_n dX11_longestTwice_21 rfl rfl ?_
  refine v_getR (x := 74) dX11_longestTwice_22 fl_X11_13 am_clsA rfl rfl rfl ?_
  refine v_iload_n dX11_longestTwice_25 rfl rfl ?_
  refine v_iald dX11_longestTwice_26 rfl b0_1 b0_2 ?_
  refine v_icmp_ge (tgt := 60) dX11_longestTwice_27 (by decide) (fun z => ?_) (fun z => ?_)
  · have k := k.1 z
    obtain ⟨b1_1, k⟩ := k
    refine v_iinc (E2 := [aR 72, aI x1, aI x2, aI (x3 + 1), aI x4, aU]) dX11_longestTwice_60 rfl b1_1 rfl ?_
    refine v_goto (tgt := 4) dX11_longestTwice_63 (by decide) ?_
    refine v_weak (E2 := [aR 72, aI x1, aI x2, aI (x3 + 1), aU, aU]) ⟨Or.inl rfl, ⟨Or.inl rfl, ⟨Or.inl rfl, ⟨Or.inl rfl, ⟨Or.inr rfl, ⟨Or.inl rfl, trivial⟩⟩⟩⟩⟩⟩ ?_
    exact k
  · have k := k.2 z
    refine v_aload_n dX11_longestTwice_30 rfl rfl ?_
    refine v_iload_n dX11_longestTwice_31 rfl rfl ?_
    refine v_iload_n dX11_longestTwice_32 rfl rfl ?_
    refine v_iload_n dX11_longestTwice_33 rfl rfl ?_
    refine v_iload dX11_longestTwice_34 rfl ?_
    exact v_callV (j := M_X11_together) (As := [aI x1, aI x3, aI x1, aI x4]) (st := []) (E0 := [aR 72, aI x1, aI x3, aI x1, aI x4, aU]) (a := 72) (ci := 9) (N := 11) (q9 := (RX11, TX11, 11)) dX11_longestTwice_36 ml_X11_102 J_X11_together (Nat.zero_le _) (Nat.zero_le _) (Nat.le_of_ble_eq_true rfl) rfl (Nat.le_of_ble_eq_true rfl) (List.forall_mem_cons.mpr ⟨rfl, List.forall_mem_cons.mpr ⟨rfl, List.forall_mem_cons.mpr ⟨rfl, List.forall_mem_cons.mpr ⟨rfl, List.forall_mem_cons.mpr ⟨rfl, fun _ h9 => absurd h9 List.not_mem_nil⟩⟩⟩⟩⟩) (Nat.le_of_ble_eq_true rfl) rfl rfl rfl rfl pn_X11_together rfl k
theorem S_X11_longestTwice_39 {kc ks : Nat} {h : Hh} {Q : PQ} {X : PX} {x1 : Int} {x2 : Int} {x3 : Int} {x4 : Int} {xs0 : Int}
    (k : ((xs0 ≤ x2 → ((-2147483648 ≤ ((x4 + 1) : Int) ∧ ((x4 + 1) : Int) < 2147483648)) ∧ am_V M_X11_longestTwice kc ks 19 [aR 72, aI x1, aI x2, aI x3, aI (x4 + 1), aU] [] am_R0 h Q X) ∧ (x2 < xs0 → ((-2147483648 ≤ ((x4 + 1) : Int) ∧ ((x4 + 1) : Int) < 2147483648)) ∧ am_V M_X11_longestTwice kc ks 19 [aR 72, aI x1, aI xs0, aI x3, aI (x4 + 1), aU] [] am_R0 h Q X))) :
    am_V M_X11_longestTwice kc ks 39 [aR 72, aI x1, aI x2, aI x3, aI x4, aU] [aI xs0] am_R0 h Q X := by
  refine v_istore (E2 := [aR 72, aI x1, aI x2, aI x3, aI x4, aI xs0]) dX11_longestTwice_39 (Nat.le_of_ble_eq_true rfl) rfl ?_
  refine v_iload dX11_longestTwice_41 rfl ?_
  refine v_iload_n dX11_longestTwice_43 rfl rfl ?_
  refine v_icmp_le (tgt := 52) dX11_longestTwice_44 (by decide) (fun z => ?_) (fun z => ?_)
  · have k := k.1 z
    obtain ⟨b1_1, k⟩ := k
    refine v_iload_n dX11_longestTwice_52 rfl rfl ?_
    refine v_istore_n (E2 := [aR 72, aI x1, aI x2, aI x3, aI x4, aI xs0]) dX11_longestTwice_53 rfl (Nat.le_of_ble_eq_true rfl) rfl ?_
    refine v_iinc (E2 := [aR 72, aI x1, aI x2, aI x3, aI (x4 + 1), aI xs0]) dX11_longestTwice_54 rfl b1_1 rfl ?_
    refine v_goto (tgt := 19) dX11_longestTwice_57 (by decide) ?_
    refine v_weak (E2 := [aR 72, aI x1, aI x2, aI x3, aI (x4 + 1), aU]) ⟨Or.inl rfl, ⟨Or.inl rfl, ⟨Or.inl rfl, ⟨Or.inl rfl, ⟨Or.inl rfl, ⟨Or.inr rfl, trivial⟩⟩⟩⟩⟩⟩ ?_
    exact k
  · have k := k.2 z
    obtain ⟨b1_1, k⟩ := k
    refine v_iload dX11_longestTwice_47 rfl ?_
    refine v_goto (tgt := 53) dX11_longestTwice_49 (by decide) ?_
    refine v_istore_n (E2 := [aR 72, aI x1, aI xs0, aI x3, aI x4, aI xs0]) dX11_longestTwice_53 rfl (Nat.le_of_ble_eq_true rfl) rfl ?_
    refine v_iinc (E2 := [aR 72, aI x1, aI xs0, aI x3, aI (x4 + 1), aI xs0]) dX11_longestTwice_54 rfl b1_1 rfl ?_
    refine v_goto (tgt := 19) dX11_longestTwice_57 (by decide) ?_
    refine v_weak (E2 := [aR 72, aI x1, aI xs0, aI x3, aI (x4 + 1), aU]) ⟨Or.inl rfl, ⟨Or.inl rfl, ⟨Or.inl rfl, ⟨Or.inl rfl, ⟨Or.inl rfl, ⟨Or.inr rfl, trivial⟩⟩⟩⟩⟩⟩ ?_
    exact k
theorem S_X11_places_0 {kc ks : Nat} {h : Hh} {Q : PQ} {X : PX} {x1 : Int} {x2 : Int} {x3 : Int} {x4 : Int}
    (k : am_V M_X11_places kc ks 6 [aR 72, aI x1, aI x2, aI x3, aI x4, aI 0, aI 0] [] am_R0 h Q X) :
    am_V M_X11_places kc ks 0 [aR 72, aI x1, aI x2, aI x3, aI x4, aU, aU] [] am_R0 h Q X := by
  refine v_iconst dX11_places_0 ⟨by decide, by decide⟩ ?_
  refine v_istore (E2 := [aR 72, aI x1, aI x2, aI x3, aI x4, aI 0, aU]) dX11_places_1 (Nat.le_of_ble_eq_true rfl) rfl ?_
  refine v_iconst dX11_places_3 ⟨by decide, by decide⟩ ?_
  refine v_istore (E2 := [aR 72, aI x1, aI x2, aI x3, aI x4, aI 0, aI 0]) dX11_places_4 (Nat.le_of_ble_eq_true rfl) rfl ?_
  exact k
theorem S_X11_places_6 {kc ks : Nat} {h : Hh} {Q : PQ} {X : PX} {x1 : Int} {x2 : Int} {x3 : Int} {x4 : Int} {x5 : Int} {x6 : Int}
    (k : ((-2147483648 ≤ ((x6 + x3) : Int) ∧ ((x6 + x3) : Int) < 2147483648) ∧ (0 : Int) ≤ x4 ∧ (x4 : Int) < 9) ∧ (((h 74 x4) < (x6 + x3) → Q [aI x5] am_R0 h) ∧ ((x6 + x3) ≤ (h 74 x4) → am_V M_X11_together 0 0 0 [aR 72, aI x1, aI x2, aI x4, aI x6, aU] [] am_R0 h (fun v ρ' h' => am_V M_X11_places kc ks 32 [aR 72, aI x1, aI x2, aI x3, aI x4, aU, aI x6] (v ++ [aI x5]) ρ' h' Q X) X))) :
    am_V M_X11_places kc ks 6 [aR 72, aI x1, aI x2, aI x3, aI x4, aI x5, aI x6] [] am_R0 h Q X := by
  obtain ⟨⟨b0_1, b0_2, b0_3⟩, k⟩ := k
  refine v_iload dX11_places_6 rfl ?_
  refine v_iload_n dX11_places_8 rfl rfl ?_
  refine v_iadd dX11_places_9 b0_1 ?_
  refine v_aload_n dX11_places_10 rfl rfl ?_
  refine v_getR (x := 74) dX11_places_11 fl_X11_13 am_clsA rfl rfl rfl ?_
  refine v_iload dX11_places_14 rfl ?_
  refine v_iald dX11_places_16 rfl b0_2 b0_3 ?_
  refine v_icmp_gt (tgt := 50) dX11_places_17 (by decide) (fun z => ?_) (fun z => ?_)
  · have k := k.1 z
    refine v_iload dX11_places_50 rfl ?_
    exact v_iret dX11_places_52 rfl rfl k
  · have k := k.2 z
    refine v_iload dX11_places_20 rfl ?_
    refine v_aload_n dX11_places_22 rfl rfl ?_
    refine v_iload_n dX11_places_23 rfl rfl ?_
    refine v_iload_n dX11_places_24 rfl rfl ?_
    refine v_iload dX11_places_25 rfl ?_
    refine v_iload dX11_places_27 rfl ?_
    refine v_weak (E2 := [aR 72, aI x1, aI x2, aI x3, aI x4, aU, aI x6]) ⟨Or.inl rfl, ⟨Or.inl rfl, ⟨Or.inl rfl, ⟨Or.inl rfl, ⟨Or.inl rfl, ⟨Or.inr rfl, ⟨Or.inl rfl, trivial⟩⟩⟩⟩⟩⟩⟩ ?_
    exact v_callV (j := M_X11_together) (As := [aI x1, aI x2, aI x4, aI x6]) (st := [aI x5]) (E0 := [aR 72, aI x1, aI x2, aI x4, aI x6, aU]) (a := 72) (ci := 9) (N := 11) (q9 := (RX11, TX11, 11)) dX11_places_29 ml_X11_102 J_X11_together (Nat.zero_le _) (Nat.zero_le _) (Nat.le_of_ble_eq_true rfl) rfl (Nat.le_of_ble_eq_true rfl) (List.forall_mem_cons.mpr ⟨rfl, List.forall_mem_cons.mpr ⟨rfl, List.forall_mem_cons.mpr ⟨rfl, List.forall_mem_cons.mpr ⟨rfl, List.forall_mem_cons.mpr ⟨rfl, fun _ h9 => absurd h9 List.not_mem_nil⟩⟩⟩⟩⟩) (Nat.le_of_ble_eq_true rfl) rfl rfl rfl rfl pn_X11_together rfl k
theorem S_X11_places_32 {kc ks : Nat} {h : Hh} {Q : PQ} {X : PX} {x1 : Int} {x2 : Int} {x3 : Int} {x4 : Int} {x6 : Int} {xs0 : Int} {xs1 : Int}
    (k : ((xs0 < x3 → ((-2147483648 ≤ ((xs1 + 0) : Int) ∧ ((xs1 + 0) : Int) < 2147483648) ∧ (-2147483648 ≤ ((x6 + 1) : Int) ∧ ((x6 + 1) : Int) < 2147483648)) ∧ am_V M_X11_places kc ks 6 [aR 72, aI x1, aI x2, aI x3, aI x4, aI (xs1 + 0), aI (x6 + 1)] [] am_R0 h Q X) ∧ (x3 ≤ xs0 → ((-2147483648 ≤ ((xs1 + 1) : Int) ∧ ((xs1 + 1) : Int) < 2147483648) ∧ (-2147483648 ≤ ((x6 + 1) : Int) ∧ ((x6 + 1) : Int) < 2147483648)) ∧ am_V M_X11_places kc ks 6 [aR 72, aI x1, aI x2, aI x3, aI x4, aI (xs1 + 1), aI (x6 + 1)] [] am_R0 h Q X))) :
    am_V M_X11_places kc ks 32 [aR 72, aI x1, aI x2, aI x3, aI x4, aU, aI x6] [aI xs0, aI xs1] am_R0 h Q X := by
  refine v_iload_n dX11_places_32 rfl rfl ?_
  refine v_icmp_lt (tgt := 40) dX11_places_33 (by decide) (fun z => ?_) (fun z => ?_)
  · have k := k.1 z
    obtain ⟨⟨b1_1, b1_2⟩, k⟩ := k
    refine v_iconst dX11_places_40 ⟨by decide, by decide⟩ ?_
    refine v_iadd dX11_places_41 b1_1 ?_
    refine v_istore (E2 := [aR 72, aI x1, aI x2, aI x3, aI x4, aI (xs1 + 0), aI x6]) dX11_places_42 (Nat.le_of_ble_eq_true rfl) rfl ?_
    refine v_iinc (E2 := [aR 72, aI x1, aI x2, aI x3, aI x4, aI (xs1 + 0), aI (x6 + 1)]) dX11_places_44 rfl b1_2 rfl ?_
    refine v_goto (tgt := 6) dX11_places_47 (by decide) ?_
    exact k
  · have k := k.2 z
    obtain ⟨⟨b1_1, b1_2⟩, k⟩ := k
    refine v_iconst dX11_places_36 ⟨by decide, by decide⟩ ?_
    refine v_goto (tgt := 41) dX11_places_37 (by decide) ?_
    refine v_iadd dX11_places_41 b1_1 ?_
    refine v_istore (E2 := [aR 72, aI x1, aI x2, aI x3, aI x4, aI (xs1 + 1), aI x6]) dX11_places_42 (Nat.le_of_ble_eq_true rfl) rfl ?_
    refine v_iinc (E2 := [aR 72, aI x1, aI x2, aI x3, aI x4, aI (xs1 + 1), aI (x6 + 1)]) dX11_places_44 rfl b1_2 rfl ?_
    refine v_goto (tgt := 6) dX11_places_47 (by decide) ?_
    exact k
theorem S_X11_twice_0 {kc ks : Nat} {h : Hh} {Q : PQ} {X : PX} {x1 : Int}
    (k : am_V M_X11_isNone 0 0 0 [aR 72, aI x1] [] am_R0 h (fun v ρ' h' => am_V M_X11_twice kc ks 5 [aR 72, aI x1] (v ++ []) ρ' h' Q X) X) :
    am_V M_X11_twice kc ks 0 [aR 72, aI x1] [] am_R0 h Q X := by
  refine v_aload_n dX11_twice_0 rfl rfl ?_
  refine v_iload_n dX11_twice_1 rfl rfl ?_
  exact v_callV (j := M_X11_isNone) (As := [aI x1]) (st := []) (E0 := [aR 72, aI x1]) (a := 72) (ci := 9) (N := 11) (q9 := (RX11, TX11, 11)) dX11_twice_2 ml_X11_68 J_X11_isNone (Nat.zero_le _) (Nat.zero_le _) (Nat.le_of_ble_eq_true rfl) rfl (Nat.le_of_ble_eq_true rfl) (List.forall_mem_cons.mpr ⟨rfl, List.forall_mem_cons.mpr ⟨rfl, fun _ h9 => absurd h9 List.not_mem_nil⟩⟩) (Nat.le_of_ble_eq_true rfl) rfl rfl rfl rfl pn_X11_isNone rfl k
theorem S_X11_twice_5 {kc ks : Nat} {h : Hh} {Q : PQ} {X : PX} {x1 : Int} {xs0 : Int}
    (k : ((xs0 = 0 → am_V M_X11_longestTwice 0 0 0 [aR 72, aI x1, aU, aU, aU, aU] [] am_R0 h (fun v ρ' h' => am_V M_X11_twice kc ks 17 [aU, aU] (v ++ []) ρ' h' Q X) X) ∧ (xs0 ≠ 0 → Q [aI 0] am_R0 h))) :
    am_V M_X11_twice kc ks 5 [aR 72, aI x1] [aI xs0] am_R0 h Q X := by
  refine v_if_eq (tgt := 12) dX11_twice_5 (by decide) (fun z => ?_) (fun z => ?_)
  · have k := k.1 z
    refine v_aload_n dX11_twice_12 rfl rfl ?_
    refine v_iload_n dX11_twice_13 rfl rfl ?_
    refine v_weak (E2 := [aU, aU]) ⟨Or.inr rfl, ⟨Or.inr rfl, trivial⟩⟩ ?_
    exact v_callV (j := M_X11_longestTwice) (As := [aI x1]) (st := []) (E0 := [aR 72, aI x1, aU, aU, aU, aU]) (a := 72) (ci := 9) (N := 11) (q9 := (RX11, TX11, 11)) dX11_twice_14 ml_X11_124 J_X11_longestTwice (Nat.zero_le _) (Nat.zero_le _) (Nat.le_of_ble_eq_true rfl) rfl (Nat.le_of_ble_eq_true rfl) (List.forall_mem_cons.mpr ⟨rfl, List.forall_mem_cons.mpr ⟨rfl, fun _ h9 => absurd h9 List.not_mem_nil⟩⟩) (Nat.le_of_ble_eq_true rfl) rfl rfl rfl rfl pn_X11_longestTwice rfl k
  · have k := k.2 z
    refine v_iconst dX11_twice_8 ⟨by decide, by decide⟩ ?_
    refine v_goto (tgt := 17) dX11_twice_9 (by decide) ?_
    exact v_iret dX11_twice_17 rfl rfl k
theorem S_X11_twice_17 {kc ks : Nat} {h : Hh} {Q : PQ} {X : PX} {xs0 : Int}
    (k : Q [aI xs0] am_R0 h) :
    am_V M_X11_twice kc ks 17 [aU, aU] [aI xs0] am_R0 h Q X := by
  exact v_iret dX11_twice_17 rfl rfl k
theorem S_X11_twiceAt_0 {kc ks : Nat} {h : Hh} {Q : PQ} {X : PX} {x1 : Int}
    (k : am_V M_X11_isNone 0 0 0 [aR 72, aI x1] [] am_R0 h (fun v ρ' h' => am_V M_X11_twiceAt kc ks 5 [aR 72, aI x1, aU, aU, aU] (v ++ []) ρ' h' Q X) X) :
    am_V M_X11_twiceAt kc ks 0 [aR 72, aI x1, aU, aU, aU] [] am_R0 h Q X := by
  refine v_aload_n dX11_twiceAt_0 rfl rfl ?_
  refine v_iload_n dX11_twiceAt_1 rfl rfl ?_
  exact v_callV (j := M_X11_isNone) (As := [aI x1]) (st := []) (E0 := [aR 72, aI x1]) (a := 72) (ci := 9) (N := 11) (q9 := (RX11, TX11, 11)) dX11_twiceAt_2 ml_X11_68 J_X11_isNone (Nat.zero_le _) (Nat.zero_le _) (Nat.le_of_ble_eq_true rfl) rfl (Nat.le_of_ble_eq_true rfl) (List.forall_mem_cons.mpr ⟨rfl, List.forall_mem_cons.mpr ⟨rfl, fun _ h9 => absurd h9 List.not_mem_nil⟩⟩) (Nat.le_of_ble_eq_true rfl) rfl rfl rfl rfl pn_X11_isNone rfl k
theorem S_X11_twiceAt_5 {kc ks : Nat} {h : Hh} {Q : PQ} {X : PX} {x1 : Int} {xs0 : Int}
    (k : ((xs0 = 0 → am_V M_X11_longestTwice 0 0 0 [aR 72, aI x1, aU, aU, aU, aU] [] am_R0 h (fun v ρ' h' => am_V M_X11_twiceAt kc ks 15 [aR 72, aI x1, aU, aU, aU] (v ++ []) ρ' h' Q X) X) ∧ (xs0 ≠ 0 → Q [aI 0] am_R0 h))) :
    am_V M_X11_twiceAt kc ks 5 [aR 72, aI x1, aU, aU, aU] [aI xs0] am_R0 h Q X := by
  refine v_if_eq (tgt := 10) dX11_twiceAt_5 (by decide) (fun z => ?_) (fun z => ?_)
  · have k := k.1 z
    refine v_aload_n dX11_twiceAt_10 rfl rfl ?_
    refine v_iload_n dX11_twiceAt_11 rfl rfl ?_
    exact v_callV (j := M_X11_longestTwice) (As := [aI x1]) (st := []) (E0 := [aR 72, aI x1, aU, aU, aU, aU]) (a := 72) (ci := 9) (N := 11) (q9 := (RX11, TX11, 11)) dX11_twiceAt_12 ml_X11_124 J_X11_longestTwice (Nat.zero_le _) (Nat.zero_le _) (Nat.le_of_ble_eq_true rfl) rfl (Nat.le_of_ble_eq_true rfl) (List.forall_mem_cons.mpr ⟨rfl, List.forall_mem_cons.mpr ⟨rfl, fun _ h9 => absurd h9 List.not_mem_nil⟩⟩) (Nat.le_of_ble_eq_true rfl) rfl rfl rfl rfl pn_X11_longestTwice rfl k
  · have k := k.2 z
    refine v_iconst dX11_twiceAt_8 ⟨by decide, by decide⟩ ?_
    exact v_iret dX11_twiceAt_9 rfl rfl k
theorem S_X11_twiceAt_15 {kc ks : Nat} {h : Hh} {Q : PQ} {X : PX} {x1 : Int} {xs0 : Int}
    (k : am_V M_X11_twiceAt kc ks 21 [aR 72, aI x1, aI xs0, aI (-1), aI 0] [] am_R0 h Q X) :
    am_V M_X11_twiceAt kc ks 15 [aR 72, aI x1, aU, aU, aU] [aI xs0] am_R0 h Q X := by
  refine v_istore_n (E2 := [aR 72, aI x1, aI xs0, aU, aU]) dX11_twiceAt_15 rfl (Nat.le_of_ble_eq_true rfl) rfl ?_
  refine v_iconst dX11_twiceAt_16 ⟨by decide, by decide⟩ ?_
  refine v_istore_n (E2 := [aR 72, aI x1, aI xs0, aI (-1), aU]) dX11_twiceAt_17 rfl (Nat.le_of_ble_eq_true rfl) rfl ?_
  refine v_iconst dX11_twiceAt_18 ⟨by decide, by decide⟩ ?_
  refine v_istore (E2 := [aR 72, aI x1, aI xs0, aI (-1), aI 0]) dX11_twiceAt_19 (Nat.le_of_ble_eq_true rfl) rfl ?_
  exact k
theorem S_X11_twiceAt_21 {kc ks : Nat} {h : Hh} {Q : PQ} {X : PX} {x1 : Int} {x2 : Int} {x3 : Int} {x4 : Int}
    (k : ((x2 ≤ 0 → ((0 ≤ x3 → am_V M_X11_isWrong 0 0 0 [aR 72, aI 0] [] am_R0 h (fun v ρ' h' => am_V M_X11_twiceAt kc ks 89 [aU, aU, aU, aI x3, aU] (v ++ []) ρ' h' Q X) X) ∧ (x3 < 0 → am_V M_X11_isWrong 0 0 0 [aR 72, aI 2] [] am_R0 h (fun v ρ' h' => am_V M_X11_twiceAt kc ks 89 [aU, aU, aU, aI x3, aU] (v ++ []) ρ' h' Q X) X))) ∧ (0 < x2 → ((-2147483648 ≤ ((x4 + x2) : Int) ∧ ((x4 + x2) : Int) < 2147483648) ∧ (0 : Int) ≤ x1 ∧ (x1 : Int) < 9) ∧ (((h 74 x1) < (x4 + x2) → ((0 ≤ x3 → am_V M_X11_isWrong 0 0 0 [aR 72, aI 0] [] am_R0 h (fun v ρ' h' => am_V M_X11_twiceAt kc ks 89 [aU, aU, aU, aI x3, aU] (v ++ []) ρ' h' Q X) X) ∧ (x3 < 0 → am_V M_X11_isWrong 0 0 0 [aR 72, aI 2] [] am_R0 h (fun v ρ' h' => am_V M_X11_twiceAt kc ks 89 [aU, aU, aU, aI x3, aU] (v ++ []) ρ' h' Q X) X))) ∧ ((x4 + x2) ≤ (h 74 x1) → am_V M_X11_places 0 0 0 [aR 72, aI x1, aI x4, aI x2, aI x1, aU, aU] [] am_R0 h (fun v ρ' h' => am_V M_X11_twiceAt kc ks 47 [aR 72, aI x1, aI x2, aI x3, aI x4] (v ++ []) ρ' h' Q X) X))))) :
    am_V M_X11_twiceAt kc ks 21 [aR 72, aI x1, aI x2, aI x3, aI x4] [] am_R0 h Q X := by
  refine v_iload_n dX11_twiceAt_21 rfl rfl ?_
  refine v_if_le (tgt := 76) dX11_twiceAt_22 (by decide) (fun z => ?_) (fun z => ?_)
  · have k := k.1 z
    refine v_aload_n dX11_twiceAt_76 rfl rfl ?_
    refine v_iload_n dX11_twiceAt_77 rfl rfl ?_
    refine v_if_ge (tgt := 85) dX11_twiceAt_78 (by decide) (fun z => ?_) (fun z => ?_)
    · have k := k.1 z
      refine v_iconst dX11_twiceAt_85 ⟨by decide, by decide⟩ ?_
      refine v_weak (E2 := [aU, aU, aU, aI x3, aU]) ⟨Or.inr rfl, ⟨Or.inr rfl, ⟨Or.inr rfl, ⟨Or.inl rfl, ⟨Or.inr rfl, trivial⟩⟩⟩⟩⟩ ?_
      exact v_callV (j := M_X11_isWrong) (As := [aI 0]) (st := []) (E0 := [aR 72, aI 0]) (a := 72) (ci := 9) (N := 11) (q9 := (RX11, TX11, 11)) dX11_twiceAt_86 ml_X11_57 J_X11_isWrong (Nat.zero_le _) (Nat.zero_le _) (Nat.le_of_ble_eq_true rfl) rfl (Nat.le_of_ble_eq_true rfl) (List.forall_mem_cons.mpr ⟨rfl, List.forall_mem_cons.mpr ⟨rfl, fun _ h9 => absurd h9 List.not_mem_nil⟩⟩) (Nat.le_of_ble_eq_true rfl) rfl rfl rfl rfl pn_X11_isWrong rfl k
    · have k := k.2 z
      refine v_iconst dX11_twiceAt_81 ⟨by decide, by decide⟩ ?_
      refine v_goto (tgt := 86) dX11_twiceAt_82 (by decide) ?_
      refine v_weak (E2 := [aU, aU, aU, aI x3, aU]) ⟨Or.inr rfl, ⟨Or.inr rfl, ⟨Or.inr rfl, ⟨Or.inl rfl, ⟨Or.inr rfl, trivial⟩⟩⟩⟩⟩ ?_
      exact v_callV (j := M_X11_isWrong) (As := [aI 2]) (st := []) (E0 := [aR 72, aI 2]) (a := 72) (ci := 9) (N := 11) (q9 := (RX11, TX11, 11)) dX11_twiceAt_86 ml_X11_57 J_X11_isWrong (Nat.zero_le _) (Nat.zero_le _) (Nat.le_of_ble_eq_true rfl) rfl (Nat.le_of_ble_eq_true rfl) (List.forall_mem_cons.mpr ⟨rfl, List.forall_mem_cons.mpr ⟨rfl, fun _ h9 => absurd h9 List.not_mem_nil⟩⟩) (Nat.le_of_ble_eq_true rfl) rfl rfl rfl rfl pn_X11_isWrong rfl k
  · have k := k.2 z
    obtain ⟨⟨b1_1, b1_2, b1_3⟩, k⟩ := k
    refine v_iload dX11_twiceAt_25 rfl ?_
    refine v_iload_n dX11_twiceAt_27 rfl rfl ?_
    refine v_iadd dX11_twiceAt_28 b1_1 ?_
    refine v_aload_n dX11_twiceAt_29 rfl rfl ?_
    refine v_getR (x := 74) dX11_twiceAt_30 fl_X11_13 am_clsA rfl rfl rfl ?_
    refine v_iload_n dX11_twiceAt_33 rfl rfl ?_
    refine v_iald dX11_twiceAt_34 rfl b1_2 b1_3 ?_
    refine v_icmp_gt (tgt := 76) dX11_twiceAt_35 (by decide) (fun z => ?_) (fun z => ?_)
    · have k := k.1 z
      refine v_aload_n dX11_twiceAt_76 rfl rfl ?_
      refine v_iload_n dX11_twiceAt_77 rfl rfl ?_
      refine v_if_ge (tgt := 85) dX11_twiceAt_78 (by decide) (fun z => ?_) (fun z => ?_)
      · have k := k.1 z
        refine v_iconst dX11_twiceAt_85 ⟨by decide, by decide⟩ ?_
        refine v_weak (E2 := [aU, aU, aU, aI x3, aU]) ⟨Or.inr rfl, ⟨Or.inr rfl, ⟨Or.inr rfl, ⟨Or.inl rfl, ⟨Or.inr rfl, trivial⟩⟩⟩⟩⟩ ?_
        exact v_callV (j := M_X11_isWrong) (As := [aI 0]) (st := []) (E0 := [aR 72, aI 0]) (a := 72) (ci := 9) (N := 11) (q9 := (RX11, TX11, 11)) dX11_twiceAt_86 ml_X11_57 J_X11_isWrong (Nat.zero_le _) (Nat.zero_le _) (Nat.le_of_ble_eq_true rfl) rfl (Nat.le_of_ble_eq_true rfl) (List.forall_mem_cons.mpr ⟨rfl, List.forall_mem_cons.mpr ⟨rfl, fun _ h9 => absurd h9 List.not_mem_nil⟩⟩) (Nat.le_of_ble_eq_true rfl) rfl rfl rfl rfl pn_X11_isWrong rfl k
      · have k := k.2 z
        refine v_iconst dX11_twiceAt_81 ⟨by decide, by decide⟩ ?_
        refine v_goto (tgt := 86) dX11_twiceAt_82 (by decide) ?_
        refine v_weak (E2 := [aU, aU, aU, aI x3, aU]) ⟨Or.inr rfl, ⟨Or.inr rfl, ⟨Or.inr rfl, ⟨Or.inl rfl, ⟨Or.inr rfl, trivial⟩⟩⟩⟩⟩ ?_
        exact v_callV (j := M_X11_isWrong) (As := [aI 2]) (st := []) (E0 := [aR 72, aI 2]) (a := 72) (ci := 9) (N := 11) (q9 := (RX11, TX11, 11)) dX11_twiceAt_86 ml_X11_57 J_X11_isWrong (Nat.zero_le _) (Nat.zero_le _) (Nat.le_of_ble_eq_true rfl) rfl (Nat.le_of_ble_eq_true rfl) (List.forall_mem_cons.mpr ⟨rfl, List.forall_mem_cons.mpr ⟨rfl, fun _ h9 => absurd h9 List.not_mem_nil⟩⟩) (Nat.le_of_ble_eq_true rfl) rfl rfl rfl rfl pn_X11_isWrong rfl k
    · have k := k.2 z
      refine v_aload_n dX11_twiceAt_38 rfl rfl ?_
      refine v_iload_n dX11_twiceAt_39 rfl rfl ?_
      refine v_iload dX11_twiceAt_40 rfl ?_
      refine v_iload_n dX11_twiceAt_42 rfl rfl ?_
      refine v_iload_n dX11_twiceAt_43 rfl rfl ?_
      exact v_callV (j := M_X11_places) (As := [aI x1, aI x4, aI x2, aI x1]) (st := []) (E0 := [aR 72, aI x1, aI x4, aI x2, aI x1, aU, aU]) (a := 72) (ci := 9) (N := 11) (q9 := (RX11, TX11, 11)) dX11_twiceAt_44 ml_X11_128 J_X11_places (Nat.zero_le _) (Nat.zero_le _) (Nat.le_of_ble_eq_true rfl) rfl (Nat.le_of_ble_eq_true rfl) (List.forall_mem_cons.mpr ⟨rfl, List.forall_mem_cons.mpr ⟨rfl, List.forall_mem_cons.mpr ⟨rfl, List.forall_mem_cons.mpr ⟨rfl, List.forall_mem_cons.mpr ⟨rfl, fun _ h9 => absurd h9 List.not_mem_nil⟩⟩⟩⟩⟩) (Nat.le_of_ble_eq_true rfl) rfl rfl rfl rfl pn_X11_places rfl k
theorem S_X11_twiceAt_89 {kc ks : Nat} {h : Hh} {Q : PQ} {X : PX} {x3 : Int} {xs0 : Int}
    (k : ((xs0 = 0 → Q [aI x3] am_R0 h) ∧ (xs0 ≠ 0 → Q [aI 0] am_R0 h))) :
    am_V M_X11_twiceAt kc ks 89 [aU, aU, aU, aI x3, aU] [aI xs0] am_R0 h Q X := by
  refine v_if_eq (tgt := 96) dX11_twiceAt_89 (by decide) (fun z => ?_) (fun z => ?_)
  · have k := k.1 z
    refine v_iload_n dX11_twiceAt_96 rfl rfl ?_
    exact v_iret dX11_twiceAt_97 rfl rfl k
  · have k := k.2 z
    refine v_iconst dX11_twiceAt_92 ⟨by decide, by decide⟩ ?_
    refine v_goto (tgt := 97) dX11_twiceAt_93 (by decide) ?_
    exact v_iret dX11_twiceAt_97 rfl rfl k
theorem S_X11_twiceAt_47 {kc ks : Nat} {h : Hh} {Q : PQ} {X : PX} {x1 : Int} {x2 : Int} {x3 : Int} {x4 : Int} {xs0 : Int}
    (k : ((xs0 ≤ 1 → ((-2147483648 ≤ ((x4 + 1) : Int) ∧ ((x4 + 1) : Int) < 2147483648)) ∧ am_V M_X11_twiceAt kc ks 21 [aR 72, aI x1, aI x2, aI x3, aI (x4 + 1)] [] am_R0 h Q X) ∧ (1 < xs0 → ((x3 < 0 → ((-2147483648 ≤ ((x4 + 1) : Int) ∧ ((x4 + 1) : Int) < 2147483648)) ∧ am_V M_X11_twiceAt kc ks 21 [aR 72, aI x1, aI x2, aI x4, aI (x4 + 1)] [] am_R0 h Q X) ∧ (0 ≤ x3 → am_V M_X11_compared 0 0 0 [aR 72, aI x1, aI x4, aI x3, aI x2, aU, aU] [] am_R0 h (fun v ρ' h' => am_V M_X11_twiceAt kc ks 64 [aR 72, aI x1, aI x2, aI x3, aI x4] (v ++ []) ρ' h' Q X) X))))) :
    am_V M_X11_twiceAt kc ks 47 [aR 72, aI x1, aI x2, aI x3, aI x4] [aI xs0] am_R0 h Q X := by
  refine v_iconst dX11_twiceAt_47 ⟨by decide, by decide⟩ ?_
  refine v_icmp_le (tgt := 70) dX11_twiceAt_48 (by decide) (fun z => ?_) (fun z => ?_)
  · have k := k.1 z
    obtain ⟨b1_1, k⟩ := k
    refine v_iinc (E2 := [aR 72, aI x1, aI x2, aI x3, aI (x4 + 1)]) dX11_twiceAt_70 rfl b1_1 rfl ?_
    refine v_goto (tgt := 21) dX11_twiceAt_73 (by decide) ?_
    exact k
  · have k := k.2 z
    refine v_iload_n dX11_twiceAt_51 rfl rfl ?_
    refine v_if_lt (tgt := 67) dX11_twiceAt_52 (by decide) (fun z => ?_) (fun z => ?_)
    · have k := k.1 z
      obtain ⟨b2_1, k⟩ := k
      refine v_iload dX11_twiceAt_67 rfl ?_
      refine v_istore_n (E2 := [aR 72, aI x1, aI x2, aI x4, aI x4]) dX11_twiceAt_69 rfl (Nat.le_of_ble_eq_true rfl) rfl ?_
      refine v_iinc (E2 := [aR 72, aI x1, aI x2, aI x4, aI (x4 + 1)]) dX11_twiceAt_70 rfl b2_1 rfl ?_
      refine v_goto (tgt := 21) dX11_twiceAt_73 (by decide) ?_
      exact k
    · have k := k.2 z
      refine v_aload_n dX11_twiceAt_55 rfl rfl ?_
      refine v_iload_n dX11_twiceAt_56 rfl rfl ?_
      refine v_iload dX11_twiceAt_57 rfl ?_
      refine v_iload_n dX11_twiceAt_59 rfl rfl ?_
      refine v_iload_n dX11_twiceAt_60 rfl rfl ?_
      exact v_callV (j := M_X11_compared) (As := [aI x1, aI x4, aI x3, aI x2]) (st := []) (E0 := [aR 72, aI x1, aI x4, aI x3, aI x2, aU, aU]) (a := 72) (ci := 9) (N := 11) (q9 := (RX11, TX11, 11)) dX11_twiceAt_61 ml_X11_86 J_X11_compared (Nat.zero_le _) (Nat.zero_le _) (Nat.le_of_ble_eq_true rfl) rfl (Nat.le_of_ble_eq_true rfl) (List.forall_mem_cons.mpr ⟨rfl, List.forall_mem_cons.mpr ⟨rfl, List.forall_mem_cons.mpr ⟨rfl, List.forall_mem_cons.mpr ⟨rfl, List.forall_mem_cons.mpr ⟨rfl, fun _ h9 => absurd h9 List.not_mem_nil⟩⟩⟩⟩⟩) (Nat.le_of_ble_eq_true rfl) rfl rfl rfl rfl pn_X11_compared rfl k
theorem S_X11_twiceAt_64 {kc ks : Nat} {h : Hh} {Q : PQ} {X : PX} {x1 : Int} {x2 : Int} {x3 : Int} {x4 : Int} {xs0 : Int}
    (k : ((0 ≤ xs0 → ((-2147483648 ≤ ((x4 + 1) : Int) ∧ ((x4 + 1) : Int) < 2147483648)) ∧ am_V M_X11_twiceAt kc ks 21 [aR 72, aI x1, aI x2, aI x3, aI (x4 + 1)] [] am_R0 h Q X) ∧ (xs0 < 0 → ((-2147483648 ≤ ((x4 + 1) : Int) ∧ ((x4 + 1) : Int) < 2147483648)) ∧ am_V M_X11_twiceAt kc ks 21 [aR 72, aI x1, aI x2, aI x4, aI (x4 + 1)] [] am_R0 h Q X))) :
    am_V M_X11_twiceAt kc ks 64 [aR 72, aI x1, aI x2, aI x3, aI x4] [aI xs0] am_R0 h Q X := by
  refine v_if_ge (tgt := 70) dX11_twiceAt_64 (by decide) (fun z => ?_) (fun z => ?_)
  · have k := k.1 z
    obtain ⟨b1_1, k⟩ := k
    refine v_iinc (E2 := [aR 72, aI x1, aI x2, aI x3, aI (x4 + 1)]) dX11_twiceAt_70 rfl b1_1 rfl ?_
    refine v_goto (tgt := 21) dX11_twiceAt_73 (by decide) ?_
    exact k
  · have k := k.2 z
    obtain ⟨b1_1, k⟩ := k
    refine v_iload dX11_twiceAt_67 rfl ?_
    refine v_istore_n (E2 := [aR 72, aI x1, aI x2, aI x4, aI x4]) dX11_twiceAt_69 rfl (Nat.le_of_ble_eq_true rfl) rfl ?_
    refine v_iinc (E2 := [aR 72, aI x1, aI x2, aI x4, aI (x4 + 1)]) dX11_twiceAt_70 rfl b1_1 rfl ?_
    refine v_goto (tgt := 21) dX11_twiceAt_73 (by decide) ?_
    exact k
theorem S_X11_shortestAlone_0 {kc ks : Nat} {h : Hh} {Q : PQ} {X : PX} {x1 : Int}
    (k : am_V M_X11_shortestAlone kc ks 2 [aR 72, aI x1, aI 1] [] am_R0 h Q X) :
    am_V M_X11_shortestAlone kc ks 0 [aR 72, aI x1, aU] [] am_R0 h Q X := by
  refine v_iconst dX11_shortestAlone_0 ⟨by decide, by decide⟩ ?_
  refine v_istore_n (E2 := [aR 72, aI x1, aI 1]) dX11_shortestAlone_1 rfl (Nat.le_of_ble_eq_true rfl) rfl ?_
  exact k
theorem S_X11_shortestAlone_2 {kc ks : Nat} {h : Hh} {Q : PQ} {X : PX} {x1 : Int} {x2 : Int}
    (k : am_V M_X11_alone 0 0 0 [aR 72, aI x1, aI x2, aU] [] am_R0 h (fun v ρ' h' => am_V M_X11_shortestAlone kc ks 8 [aR 72, aI x1, aI x2] (v ++ []) ρ' h' Q X) X) :
    am_V M_X11_shortestAlone kc ks 2 [aR 72, aI x1, aI x2] [] am_R0 h Q X := by
  refine v_aload_n dX11_shortestAlone_2 rfl rfl ?_
  refine v_iload_n dX11_shortestAlone_3 rfl rfl ?_
  refine v_iload_n dX11_shortestAlone_4 rfl rfl ?_
  exact v_callV (j := M_X11_alone) (As := [aI x1, aI x2]) (st := []) (E0 := [aR 72, aI x1, aI x2, aU]) (a := 72) (ci := 9) (N := 11) (q9 := (RX11, TX11, 11)) dX11_shortestAlone_5 ml_X11_131 J_X11_alone (Nat.zero_le _) (Nat.zero_le _) (Nat.le_of_ble_eq_true rfl) rfl (Nat.le_of_ble_eq_true rfl) (List.forall_mem_cons.mpr ⟨rfl, List.forall_mem_cons.mpr ⟨rfl, List.forall_mem_cons.mpr ⟨rfl, fun _ h9 => absurd h9 List.not_mem_nil⟩⟩⟩) (Nat.le_of_ble_eq_true rfl) rfl rfl rfl rfl pn_X11_alone rfl k
theorem S_X11_shortestAlone_8 {kc ks : Nat} {h : Hh} {Q : PQ} {X : PX} {x1 : Int} {x2 : Int} {xs0 : Int}
    (k : ((0 ≤ xs0 → Q [aI x2] am_R0 h) ∧ (xs0 < 0 → ((-2147483648 ≤ ((x2 + 1) : Int) ∧ ((x2 + 1) : Int) < 2147483648)) ∧ am_V M_X11_shortestAlone kc ks 2 [aR 72, aI x1, aI (x2 + 1)] [] am_R0 h Q X))) :
    am_V M_X11_shortestAlone kc ks 8 [aR 72, aI x1, aI x2] [aI xs0] am_R0 h Q X := by
  refine v_if_ge (tgt := 17) dX11_shortestAlone_8 (by decide) (fun z => ?_) (fun z => ?_)
  · have k := k.1 z
    refine v_iload_n dX11_shortestAlone_17 rfl rfl ?_
    exact v_iret dX11_shortestAlone_18 rfl rfl k
  · have k := k.2 z
    obtain ⟨b1_1, k⟩ := k
    refine v_iinc (E2 := [aR 72, aI x1, aI (x2 + 1)]) dX11_shortestAlone_11 rfl b1_1 rfl ?_
    refine v_goto (tgt := 2) dX11_shortestAlone_14 (by decide) ?_
    exact k
theorem S_X11_once_0 {kc ks : Nat} {h : Hh} {Q : PQ} {X : PX} {x1 : Int}
    (k : am_V M_X11_isEmpty 0 0 0 [aR 72, aI x1] [] am_R0 h (fun v ρ' h' => am_V M_X11_once kc ks 5 [aR 72, aI x1] (v ++ []) ρ' h' Q X) X) :
    am_V M_X11_once kc ks 0 [aR 72, aI x1] [] am_R0 h Q X := by
  refine v_aload_n dX11_once_0 rfl rfl ?_
  refine v_iload_n dX11_once_1 rfl rfl ?_
  exact v_callV (j := M_X11_isEmpty) (As := [aI x1]) (st := []) (E0 := [aR 72, aI x1]) (a := 72) (ci := 9) (N := 11) (q9 := (RX11, TX11, 11)) dX11_once_2 ml_X11_134 J_X11_isEmpty (Nat.zero_le _) (Nat.zero_le _) (Nat.le_of_ble_eq_true rfl) rfl (Nat.le_of_ble_eq_true rfl) (List.forall_mem_cons.mpr ⟨rfl, List.forall_mem_cons.mpr ⟨rfl, fun _ h9 => absurd h9 List.not_mem_nil⟩⟩) (Nat.le_of_ble_eq_true rfl) rfl rfl rfl rfl pn_X11_isEmpty rfl k
theorem S_X11_once_5 {kc ks : Nat} {h : Hh} {Q : PQ} {X : PX} {x1 : Int} {xs0 : Int}
    (k : ((xs0 = 0 → am_V M_X11_shortestAlone 0 0 0 [aR 72, aI x1, aU] [] am_R0 h (fun v ρ' h' => am_V M_X11_once kc ks 17 [aU, aU] (v ++ []) ρ' h' Q X) X) ∧ (xs0 ≠ 0 → Q [aI 0] am_R0 h))) :
    am_V M_X11_once kc ks 5 [aR 72, aI x1] [aI xs0] am_R0 h Q X := by
  refine v_if_eq (tgt := 12) dX11_once_5 (by decide) (fun z => ?_) (fun z => ?_)
  · have k := k.1 z
    refine v_aload_n dX11_once_12 rfl rfl ?_
    refine v_iload_n dX11_once_13 rfl rfl ?_
    refine v_weak (E2 := [aU, aU]) ⟨Or.inr rfl, ⟨Or.inr rfl, trivial⟩⟩ ?_
    exact v_callV (j := M_X11_shortestAlone) (As := [aI x1]) (st := []) (E0 := [aR 72, aI x1, aU]) (a := 72) (ci := 9) (N := 11) (q9 := (RX11, TX11, 11)) dX11_once_14 ml_X11_137 J_X11_shortestAlone (Nat.zero_le _) (Nat.zero_le _) (Nat.le_of_ble_eq_true rfl) rfl (Nat.le_of_ble_eq_true rfl) (List.forall_mem_cons.mpr ⟨rfl, List.forall_mem_cons.mpr ⟨rfl, fun _ h9 => absurd h9 List.not_mem_nil⟩⟩) (Nat.le_of_ble_eq_true rfl) rfl rfl rfl rfl pn_X11_shortestAlone rfl k
  · have k := k.2 z
    refine v_iconst dX11_once_8 ⟨by decide, by decide⟩ ?_
    refine v_goto (tgt := 17) dX11_once_9 (by decide) ?_
    exact v_iret dX11_once_17 rfl rfl k
theorem S_X11_once_17 {kc ks : Nat} {h : Hh} {Q : PQ} {X : PX} {xs0 : Int}
    (k : Q [aI xs0] am_R0 h) :
    am_V M_X11_once kc ks 17 [aU, aU] [aI xs0] am_R0 h Q X := by
  exact v_iret dX11_once_17 rfl rfl k
theorem S_X11_onceAt_0 {kc ks : Nat} {h : Hh} {Q : PQ} {X : PX} {x1 : Int}
    (k : am_V M_X11_isEmpty 0 0 0 [aR 72, aI x1] [] am_R0 h (fun v ρ' h' => am_V M_X11_onceAt kc ks 5 [aR 72, aI x1] (v ++ []) ρ' h' Q X) X) :
    am_V M_X11_onceAt kc ks 0 [aR 72, aI x1] [] am_R0 h Q X := by
  refine v_aload_n dX11_onceAt_0 rfl rfl ?_
  refine v_iload_n dX11_onceAt_1 rfl rfl ?_
  exact v_callV (j := M_X11_isEmpty) (As := [aI x1]) (st := []) (E0 := [aR 72, aI x1]) (a := 72) (ci := 9) (N := 11) (q9 := (RX11, TX11, 11)) dX11_onceAt_2 ml_X11_134 J_X11_isEmpty (Nat.zero_le _) (Nat.zero_le _) (Nat.le_of_ble_eq_true rfl) rfl (Nat.le_of_ble_eq_true rfl) (List.forall_mem_cons.mpr ⟨rfl, List.forall_mem_cons.mpr ⟨rfl, fun _ h9 => absurd h9 List.not_mem_nil⟩⟩) (Nat.le_of_ble_eq_true rfl) rfl rfl rfl rfl pn_X11_isEmpty rfl k
theorem S_X11_onceAt_5 {kc ks : Nat} {h : Hh} {Q : PQ} {X : PX} {x1 : Int} {xs0 : Int}
    (k : ((xs0 = 0 → am_V M_X11_shortestAlone 0 0 0 [aR 72, aI x1, aU] [] am_R0 h (fun v ρ' h' => am_V M_X11_onceAt kc ks 19 [aU, aU] (v ++ [aI x1, aR 72]) ρ' h' Q X) X) ∧ (xs0 ≠ 0 → Q [aI 0] am_R0 h))) :
    am_V M_X11_onceAt kc ks 5 [aR 72, aI x1] [aI xs0] am_R0 h Q X := by
  refine v_if_eq (tgt := 12) dX11_onceAt_5 (by decide) (fun z => ?_) (fun z => ?_)
  · have k := k.1 z
    refine v_aload_n dX11_onceAt_12 rfl rfl ?_
    refine v_iload_n dX11_onceAt_13 rfl rfl ?_
    refine v_aload_n dX11_onceAt_14 rfl rfl ?_
    refine v_iload_n dX11_onceAt_15 rfl rfl ?_
    refine v_weak (E2 := [aU, aU]) ⟨Or.inr rfl, ⟨Or.inr rfl, trivial⟩⟩ ?_
    exact v_callV (j := M_X11_shortestAlone) (As := [aI x1]) (st := [aI x1, aR 72]) (E0 := [aR 72, aI x1, aU]) (a := 72) (ci := 9) (N := 11) (q9 := (RX11, TX11, 11)) dX11_onceAt_16 ml_X11_137 J_X11_shortestAlone (Nat.zero_le _) (Nat.zero_le _) (Nat.le_of_ble_eq_true rfl) rfl (Nat.le_of_ble_eq_true rfl) (List.forall_mem_cons.mpr ⟨rfl, List.forall_mem_cons.mpr ⟨rfl, fun _ h9 => absurd h9 List.not_mem_nil⟩⟩) (Nat.le_of_ble_eq_true rfl) rfl rfl rfl rfl pn_X11_shortestAlone rfl k
  · have k := k.2 z
    refine v_iconst dX11_onceAt_8 ⟨by decide, by decide⟩ ?_
    refine v_goto (tgt := 22) dX11_onceAt_9 (by decide) ?_
    exact v_iret dX11_onceAt_22 rfl rfl k
theorem S_X11_onceAt_19 {kc ks : Nat} {h : Hh} {Q : PQ} {X : PX} {xs0 : Int} {xs1 : Int}
    (k : am_V M_X11_alone 0 0 0 [aR 72, aI xs1, aI xs0, aU] [] am_R0 h (fun v ρ' h' => am_V M_X11_onceAt kc ks 22 [aU, aU] (v ++ []) ρ' h' Q X) X) :
    am_V M_X11_onceAt kc ks 19 [aU, aU] [aI xs0, aI xs1, aR 72] am_R0 h Q X := by
  exact v_callV (j := M_X11_alone) (As := [aI xs1, aI xs0]) (st := []) (E0 := [aR 72, aI xs1, aI xs0, aU]) (a := 72) (ci := 9) (N := 11) (q9 := (RX11, TX11, 11)) dX11_onceAt_19 ml_X11_131 J_X11_alone (Nat.zero_le _) (Nat.zero_le _) (Nat.le_of_ble_eq_true rfl) rfl (Nat.le_of_ble_eq_true rfl) (List.forall_mem_cons.mpr ⟨rfl, List.forall_mem_cons.mpr ⟨rfl, List.forall_mem_cons.mpr ⟨rfl, fun _ h9 => absurd h9 List.not_mem_nil⟩⟩⟩) (Nat.le_of_ble_eq_true rfl) rfl rfl rfl rfl pn_X11_alone rfl k
theorem S_X11_onceAt_22 {kc ks : Nat} {h : Hh} {Q : PQ} {X : PX} {xs0 : Int}
    (k : Q [aI xs0] am_R0 h) :
    am_V M_X11_onceAt kc ks 22 [aU, aU] [aI xs0] am_R0 h Q X := by
  exact v_iret dX11_onceAt_22 rfl rfl k
theorem S_X11_standsIn_0 {kc ks : Nat} {h : Hh} {Q : PQ} {X : PX} {x1 : Int} {x2 : Int} {x3 : Int} {x4 : Int}
    (k : am_V M_X11_standsIn kc ks 6 [aR 72, aI x1, aI x2, aI x3, aI x4, aI 0, aI 0] [] am_R0 h Q X) :
    am_V M_X11_standsIn kc ks 0 [aR 72, aI x1, aI x2, aI x3, aI x4, aU, aU] [] am_R0 h Q X := by
  refine v_iconst dX11_standsIn_0 ⟨by decide, by decide⟩ ?_
  refine v_istore (E2 := [aR 72, aI x1, aI x2, aI x3, aI x4, aI 0, aU]) dX11_standsIn_1 (Nat.le_of_ble_eq_true rfl) rfl ?_
  refine v_iconst dX11_standsIn_3 ⟨by decide, by decide⟩ ?_
  refine v_istore (E2 := [aR 72, aI x1, aI x2, aI x3, aI x4, aI 0, aI 0]) dX11_standsIn_4 (Nat.le_of_ble_eq_true rfl) rfl ?_
  exact k
theorem S_X11_standsIn_6 {kc ks : Nat} {h : Hh} {Q : PQ} {X : PX} {x1 : Int} {x2 : Int} {x3 : Int} {x4 : Int} {x5 : Int} {x6 : Int}
    (k : (((h 72 8) ≤ x6 → ((x5 < x4 → Q [aI 0] am_R0 h) ∧ (x4 ≤ x5 → Q [aI 1] am_R0 h))) ∧ (x6 < (h 72 8) → am_V M_X11_places 0 0 0 [aR 72, aI x1, aI x2, aI x3, aI x6, aU, aU] [] am_R0 h (fun v ρ' h' => am_V M_X11_standsIn kc ks 26 [aR 72, aI x1, aI x2, aI x3, aI x4, aU, aI x6] (v ++ [aI x5]) ρ' h' Q X) X))) :
    am_V M_X11_standsIn kc ks 6 [aR 72, aI x1, aI x2, aI x3, aI x4, aI x5, aI x6] [] am_R0 h Q X := by
  refine v_iload dX11_standsIn_6 rfl ?_
  refine v_aload_n dX11_standsIn_8 rfl rfl ?_
  refine v_getI (j := 8) dX11_standsIn_9 fl_X11_39 am_clsA rfl rfl rfl ?_
  refine v_icmp_ge (tgt := 43) dX11_standsIn_12 (by decide) (fun z => ?_) (fun z => ?_)
  · have k := k.1 z
    refine v_iload dX11_standsIn_43 rfl ?_
    refine v_iload dX11_standsIn_45 rfl ?_
    refine v_icmp_lt (tgt := 54) dX11_standsIn_47 (by decide) (fun z => ?_) (fun z => ?_)
    · have k := k.1 z
      refine v_iconst dX11_standsIn_54 ⟨by decide, by decide⟩ ?_
      exact v_zret dX11_standsIn_55 rfl rfl (Or.inl rfl) k
    · have k := k.2 z
      refine v_iconst dX11_standsIn_50 ⟨by decide, by decide⟩ ?_
      refine v_goto (tgt := 55) dX11_standsIn_51 (by decide) ?_
      exact v_zret dX11_standsIn_55 rfl rfl (Or.inr rfl) k
  · have k := k.2 z
    refine v_iload dX11_standsIn_15 rfl ?_
    refine v_aload_n dX11_standsIn_17 rfl rfl ?_
    refine v_iload_n dX11_standsIn_18 rfl rfl ?_
    refine v_iload_n dX11_standsIn_19 rfl rfl ?_
    refine v_iload_n dX11_standsIn_20 rfl rfl ?_
    refine v_iload dX11_standsIn_21 rfl ?_
    refine v_weak (E2 := [aR 72, aI x1, aI x2, aI x3, aI x4, aU, aI x6]) ⟨Or.inl rfl, ⟨Or.inl rfl, ⟨Or.inl rfl, ⟨Or.inl rfl, ⟨Or.inl rfl, ⟨Or.inr rfl, ⟨Or.inl rfl, trivial⟩⟩⟩⟩⟩⟩⟩ ?_
    exact v_callV (j := M_X11_places) (As := [aI x1, aI x2, aI x3, aI x6]) (st := [aI x5]) (E0 := [aR 72, aI x1, aI x2, aI x3, aI x6, aU, aU]) (a := 72) (ci := 9) (N := 11) (q9 := (RX11, TX11, 11)) dX11_standsIn_23 ml_X11_128 J_X11_places (Nat.zero_le _) (Nat.zero_le _) (Nat.le_of_ble_eq_true rfl) rfl (Nat.le_of_ble_eq_true rfl) (List.forall_mem_cons.mpr ⟨rfl, List.forall_mem_cons.mpr ⟨rfl, List.forall_mem_cons.mpr ⟨rfl, List.forall_mem_cons.mpr ⟨rfl, List.forall_mem_cons.mpr ⟨rfl, fun _ h9 => absurd h9 List.not_mem_nil⟩⟩⟩⟩⟩) (Nat.le_of_ble_eq_true rfl) rfl rfl rfl rfl pn_X11_places rfl k
theorem S_X11_standsIn_26 {kc ks : Nat} {h : Hh} {Q : PQ} {X : PX} {x1 : Int} {x2 : Int} {x3 : Int} {x4 : Int} {x6 : Int} {xs0 : Int} {xs1 : Int}
    (k : ((xs0 ≤ 0 → ((-2147483648 ≤ ((xs1 + 0) : Int) ∧ ((xs1 + 0) : Int) < 2147483648) ∧ (-2147483648 ≤ ((x6 + 1) : Int) ∧ ((x6 + 1) : Int) < 2147483648)) ∧ am_V M_X11_standsIn kc ks 6 [aR 72, aI x1, aI x2, aI x3, aI x4, aI (xs1 + 0), aI (x6 + 1)] [] am_R0 h Q X) ∧ (0 < xs0 → ((-2147483648 ≤ ((xs1 + 1) : Int) ∧ ((xs1 + 1) : Int) < 2147483648) ∧ (-2147483648 ≤ ((x6 + 1) : Int) ∧ ((x6 + 1) : Int) < 2147483648)) ∧ am_V M_X11_standsIn kc ks 6 [aR 72, aI x1, aI x2, aI x3, aI x4, aI (xs1 + 1), aI (x6 + 1)] [] am_R0 h Q X))) :
    am_V M_X11_standsIn kc ks 26 [aR 72, aI x1, aI x2, aI x3, aI x4, aU, aI x6] [aI xs0, aI xs1] am_R0 h Q X := by
  refine v_if_le (tgt := 33) dX11_standsIn_26 (by decide) (fun z => ?_) (fun z => ?_)
  · have k := k.1 z
    obtain ⟨⟨b1_1, b1_2⟩, k⟩ := k
    refine v_iconst dX11_standsIn_33 ⟨by decide, by decide⟩ ?_
    refine v_iadd dX11_standsIn_34 b1_1 ?_
    refine v_istore (E2 := [aR 72, aI x1, aI x2, aI x3, aI x4, aI (xs1 + 0), aI x6]) dX11_standsIn_35 (Nat.le_of_ble_eq_true rfl) rfl ?_
    refine v_iinc (E2 := [aR 72, aI x1, aI x2, aI x3, aI x4, aI (xs1 + 0), aI (x6 + 1)]) dX11_standsIn_37 rfl b1_2 rfl ?_
    refine v_goto (tgt := 6) dX11_standsIn_40 (by decide) ?_
    exact k
  · have k := k.2 z
    obtain ⟨⟨b1_1, b1_2⟩, k⟩ := k
    refine v_iconst dX11_standsIn_29 ⟨by decide, by decide⟩ ?_
    refine v_goto (tgt := 34) dX11_standsIn_30 (by decide) ?_
    refine v_iadd dX11_standsIn_34 b1_1 ?_
    refine v_istore (E2 := [aR 72, aI x1, aI x2, aI x3, aI x4, aI (xs1 + 1), aI x6]) dX11_standsIn_35 (Nat.le_of_ble_eq_true rfl) rfl ?_
    refine v_iinc (E2 := [aR 72, aI x1, aI x2, aI x3, aI x4, aI (xs1 + 1), aI (x6 + 1)]) dX11_standsIn_37 rfl b1_2 rfl ?_
    refine v_goto (tgt := 6) dX11_standsIn_40 (by decide) ?_
    exact k
theorem S_X11_longestIn_0 {kc ks : Nat} {h : Hh} {Q : PQ} {X : PX} {x1 : Int}
    (k : am_V M_X11_isBetween 0 0 0 [aI x1, aI 1, aI 8] [] am_R0 h (fun v ρ' h' => am_V M_X11_longestIn kc ks 8 [aR 72, aI x1, aU, aU, aU, aU, aU] (v ++ [aR 72]) ρ' h' Q X) X) :
    am_V M_X11_longestIn kc ks 0 [aR 72, aI x1, aU, aU, aU, aU, aU] [] am_R0 h Q X := by
  refine v_aload_n dX11_longestIn_0 rfl rfl ?_
  refine v_iload_n dX11_longestIn_1 rfl rfl ?_
  refine v_iconst dX11_longestIn_2 ⟨by decide, by decide⟩ ?_
  refine v_bipush dX11_longestIn_3 (by decide) (by decide) ?_
  exact v_callS (j := M_X11_isBetween) (As := [aI x1, aI 1, aI 8]) (st := [aR 72]) (E0 := [aI x1, aI 1, aI 8]) dX11_longestIn_5 ms_X11_42 J_X11_isBetween (Nat.zero_le _) (Nat.zero_le _) (Nat.le_of_ble_eq_true rfl) rfl (Nat.le_of_ble_eq_true rfl) (List.forall_mem_cons.mpr ⟨rfl, List.forall_mem_cons.mpr ⟨rfl, List.forall_mem_cons.mpr ⟨rfl, fun _ h9 => absurd h9 List.not_mem_nil⟩⟩⟩) (Nat.le_of_ble_eq_true rfl) rfl pn_X11_isBetween rfl k
theorem S_X11_longestIn_8 {kc ks : Nat} {h : Hh} {Q : PQ} {X : PX} {x1 : Int} {xs0 : Int}
    (k : ((xs0 = 0 → am_V M_X11_isWrong 0 0 0 [aR 72, aI 1] [] am_R0 h (fun v ρ' h' => am_V M_X11_longestIn kc ks 19 [aR 72, aI x1, aU, aU, aU, aU, aU] (v ++ []) ρ' h' Q X) X) ∧ (xs0 ≠ 0 → am_V M_X11_isWrong 0 0 0 [aR 72, aI 0] [] am_R0 h (fun v ρ' h' => am_V M_X11_longestIn kc ks 19 [aR 72, aI x1, aU, aU, aU, aU, aU] (v ++ []) ρ' h' Q X) X))) :
    am_V M_X11_longestIn kc ks 8 [aR 72, aI x1, aU, aU, aU, aU, aU] [aI xs0, aR 72] am_R0 h Q X := by
  refine v_if_eq (tgt := 15) dX11_longestIn_8 (by decide) (fun z => ?_) (fun z => ?_)
  · have k := k.1 z
    refine v_iconst dX11_longestIn_15 ⟨by decide, by decide⟩ ?_
    exact v_callV (j := M_X11_isWrong) (As := [aI 1]) (st := []) (E0 := [aR 72, aI 1]) (a := 72) (ci := 9) (N := 11) (q9 := (RX11, TX11, 11)) dX11_longestIn_16 ml_X11_57 J_X11_isWrong (Nat.zero_le _) (Nat.zero_le _) (Nat.le_of_ble_eq_true rfl) rfl (Nat.le_of_ble_eq_true rfl) (List.forall_mem_cons.mpr ⟨rfl, List.forall_mem_cons.mpr ⟨rfl, fun _ h9 => absurd h9 List.not_mem_nil⟩⟩) (Nat.le_of_ble_eq_true rfl) rfl rfl rfl rfl pn_X11_isWrong rfl k
  · have k := k.2 z
    refine v_iconst dX11_longestIn_11 ⟨by decide, by decide⟩ ?_
    refine v_goto (tgt := 16) dX11_longestIn_12 (by decide) ?_
    exact v_callV (j := M_X11_isWrong) (As := [aI 0]) (st := []) (E0 := [aR 72, aI 0]) (a := 72) (ci := 9) (N := 11) (q9 := (RX11, TX11, 11)) dX11_longestIn_16 ml_X11_57 J_X11_isWrong (Nat.zero_le _) (Nat.zero_le _) (Nat.le_of_ble_eq_true rfl) rfl (Nat.le_of_ble_eq_true rfl) (List.forall_mem_cons.mpr ⟨rfl, List.forall_mem_cons.mpr ⟨rfl, fun _ h9 => absurd h9 List.not_mem_nil⟩⟩) (Nat.le_of_ble_eq_true rfl) rfl rfl rfl rfl pn_X11_isWrong rfl k
theorem S_X11_longestIn_19 {kc ks : Nat} {h : Hh} {Q : PQ} {X : PX} {x1 : Int} {xs0 : Int}
    (k : ((xs0 = 0 → am_V M_X11_longestIn kc ks 27 [aR 72, aI x1, aI 64, aU, aU, aU, aU] [] am_R0 h Q X) ∧ (xs0 ≠ 0 → Q [aI 0] am_R0 h))) :
    am_V M_X11_longestIn kc ks 19 [aR 72, aI x1, aU, aU, aU, aU, aU] [aI xs0] am_R0 h Q X := by
  refine v_if_eq (tgt := 24) dX11_longestIn_19 (by decide) (fun z => ?_) (fun z => ?_)
  · have k := k.1 z
    refine v_bipush dX11_longestIn_24 (by decide) (by decide) ?_
    refine v_istore_n (E2 := [aR 72, aI x1, aI 64, aU, aU, aU, aU]) dX11_longestIn_26 rfl (Nat.le_of_ble_eq_true rfl) rfl ?_
    exact k
  · have k := k.2 z
    refine v_iconst dX11_longestIn_22 ⟨by decide, by decide⟩ ?_
    exact v_iret dX11_longestIn_23 rfl rfl k
theorem S_X11_longestIn_27 {kc ks : Nat} {h : Hh} {Q : PQ} {X : PX} {x1 : Int} {x2 : Int}
    (k : ((x2 ≤ 0 → Q [aI 0] am_R0 (am_st h 72 10 2)) ∧ (0 < x2 → am_V M_X11_longestIn kc ks 39 [aR 72, aI x1, aI x2, aI (-1), aI 0, aI 0, aU] [] am_R0 h Q X))) :
    am_V M_X11_longestIn kc ks 27 [aR 72, aI x1, aI x2, aU, aU, aU, aU] [] am_R0 h Q X := by
  refine v_iload_n dX11_longestIn_27 rfl rfl ?_
  refine v_if_le (tgt := 170) dX11_longestIn_28 (by decide) (fun z => ?_) (fun z => ?_)
  · have k := k.1 z
    refine v_aload_n dX11_longestIn_170 rfl rfl ?_
    refine v_iconst dX11_longestIn_171 ⟨by decide, by decide⟩ ?_
    refine v_putI (j := 10) dX11_longestIn_172 pl_X11_35 am_clsA rfl rfl rfl ?_
    refine v_iconst dX11_longestIn_175 ⟨by decide, by decide⟩ ?_
    exact v_iret dX11_longestIn_176 rfl rfl k
  · have k := k.2 z
    refine v_iconst dX11_longestIn_31 ⟨by decide, by decide⟩ ?_
    refine v_istore_n (E2 := [aR 72, aI x1, aI x2, aI (-1), aU, aU, aU]) dX11_longestIn_32 rfl (Nat.le_of_ble_eq_true rfl) rfl ?_
    refine v_iconst dX11_longestIn_33 ⟨by decide, by decide⟩ ?_
    refine v_istore (E2 := [aR 72, aI x1, aI x2, aI (-1), aI 0, aU, aU]) dX11_longestIn_34 (Nat.le_of_ble_eq_true rfl) rfl ?_
    refine v_iconst dX11_longestIn_36 ⟨by decide, by decide⟩ ?_
    refine v_istore (E2 := [aR 72, aI x1, aI x2, aI (-1), aI 0, aI 0, aU]) dX11_longestIn_37 (Nat.le_of_ble_eq_true rfl) rfl ?_
    exact k
theorem S_X11_longestIn_39 {kc ks : Nat} {h : Hh} {Q : PQ} {X : PX} {x1 : Int} {x2 : Int} {x3 : Int} {x4 : Int} {x5 : Int}
    (k : (((h 72 8) ≤ x5 → ((x3 < 0 → ((-2147483648 ≤ ((x2 + (-1)) : Int) ∧ ((x2 + (-1)) : Int) < 2147483648)) ∧ am_V M_X11_longestIn kc ks 27 [aR 72, aI x1, aI (x2 + (-1)), aU, aU, aU, aU] [] am_R0 h Q X) ∧ (0 ≤ x3 → am_V M_X11_longestIn kc ks 123 [aR 72, aU, aI x2, aI x3, aI x4, aI 0, aU] [] am_R0 h Q X))) ∧ (x5 < (h 72 8) → am_V M_X11_longestIn kc ks 51 [aR 72, aI x1, aI x2, aI x3, aI x4, aI x5, aI 0] [] am_R0 h Q X))) :
    am_V M_X11_longestIn kc ks 39 [aR 72, aI x1, aI x2, aI x3, aI x4, aI x5, aU] [] am_R0 h Q X := by
  refine v_iload dX11_longestIn_39 rfl ?_
  refine v_aload_n dX11_longestIn_41 rfl rfl ?_
  refine v_getI (j := 8) dX11_longestIn_42 fl_X11_39 am_clsA rfl rfl rfl ?_
  refine v_icmp_ge (tgt := 116) dX11_longestIn_45 (by decide) (fun z => ?_) (fun z => ?_)
  · have k := k.1 z
    refine v_iload_n dX11_longestIn_116 rfl rfl ?_
    refine v_if_lt (tgt := 164) dX11_longestIn_117 (by decide) (fun z => ?_) (fun z => ?_)
    · have k := k.1 z
      obtain ⟨b2_1, k⟩ := k
      refine v_iinc (E2 := [aR 72, aI x1, aI (x2 + (-1)), aI x3, aI x4, aI x5, aU]) dX11_longestIn_164 rfl b2_1 rfl ?_
      refine v_goto (tgt := 27) dX11_longestIn_167 (by decide) ?_
      refine v_weak (E2 := [aR 72, aI x1, aI (x2 + (-1)), aU, aU, aU, aU]) ⟨Or.inl rfl, ⟨Or.inl rfl, ⟨Or.inl rfl, ⟨Or.inr rfl, ⟨Or.inr rfl, ⟨Or.inr rfl, ⟨Or.inl rfl, trivial⟩⟩⟩⟩⟩⟩⟩ ?_
      exact k
    · have k := k.2 z
      refine v_iconst dX11_longestIn_120 ⟨by decide, by decide⟩ ?_
      refine v_istore (E2 := [aR 72, aI x1, aI x2, aI x3, aI x4, aI 0, aU]) dX11_longestIn_121 (Nat.le_of_ble_eq_true rfl) rfl ?_
      refine v_weak (E2 := [aR 72, aU, aI x2, aI x3, aI x4, aI 0, aU]) ⟨Or.inl rfl, ⟨Or.inr rfl, ⟨Or.inl rfl, ⟨Or.inl rfl, ⟨Or.inl rfl, ⟨Or.inl rfl, ⟨Or.inl rfl, trivial⟩⟩⟩⟩⟩⟩⟩ ?_
      exact k
  · have k := k.2 z
    refine v_iconst dX11_longestIn_48 ⟨by decide, by decide⟩ ?_
    refine v_istore (E2 := [aR 72, aI x1, aI x2, aI x3, aI x4, aI x5, aI 0]) dX11_longestIn_49 (Nat.le_of_ble_eq_true rfl) rfl ?_
    exact k
theorem S_X11_longestIn_123 {kc ks : Nat} {h : Hh} {Q : PQ} {X : PX} {x2 : Int} {x3 : Int} {x4 : Int} {x5 : Int}
    (k : ((x2 ≤ x5 → Q [aI x2] am_R0 (am_st h 72 9 x2)) ∧ (x5 < x2 → ((-2147483648 ≤ ((64 * x3) : Int) ∧ ((64 * x3) : Int) < 2147483648) ∧ (-2147483648 ≤ (((64 * x3) + x4) : Int) ∧ (((64 * x3) + x4) : Int) < 2147483648) ∧ (-2147483648 ≤ ((((64 * x3) + x4) + x5) : Int) ∧ ((((64 * x3) + x4) + x5) : Int) < 2147483648) ∧ (0 : Int) ≤ (((64 * x3) + x4) + x5) ∧ ((((64 * x3) + x4) + x5) : Int) < 576 ∧ (0 : Int) ≤ x5 ∧ (x5 : Int) < 65 ∧ (-2147483648 ≤ ((x5 + 1) : Int) ∧ ((x5 + 1) : Int) < 2147483648)) ∧ am_V M_X11_longestIn kc ks 123 [aR 72, aU, aI x2, aI x3, aI x4, aI (x5 + 1), aU] [] am_R0 (am_st h 75 x5 ((h 73 (((64 * x3) + x4) + x5)) % 65536)) Q X))) :
    am_V M_X11_longestIn kc ks 123 [aR 72, aU, aI x2, aI x3, aI x4, aI x5, aU] [] am_R0 h Q X := by
  refine v_iload dX11_longestIn_123 rfl ?_
  refine v_iload_n dX11_longestIn_125 rfl rfl ?_
  refine v_icmp_ge (tgt := 157) dX11_longestIn_126 (by decide) (fun z => ?_) (fun z => ?_)
  · have k := k.1 z
    refine v_aload_n dX11_longestIn_157 rfl rfl ?_
    refine v_iload_n dX11_longestIn_158 rfl rfl ?_
    refine v_putI (j := 9) dX11_longestIn_159 pl_X11_54 am_clsA rfl rfl rfl ?_
    refine v_iload_n dX11_longestIn_162 rfl rfl ?_
    exact v_iret dX11_longestIn_163 rfl rfl k
  · have k := k.2 z
    obtain ⟨⟨b1_1, b1_2, b1_3, b1_4, b1_5, b1_6, b1_7, b1_8⟩, k⟩ := k
    refine v_aload_n dX11_longestIn_129 rfl rfl ?_
    refine v_getR (x := 75) dX11_longestIn_130 fl_X11_17 am_clsA rfl rfl rfl ?_
    refine v_iload dX11_longestIn_133 rfl ?_
    refine v_aload_n dX11_longestIn_135 rfl rfl ?_
    refine v_getR (x := 73) dX11_longestIn_136 fl_X11_7 am_clsA rfl rfl rfl ?_
    refine v_bipush dX11_longestIn_139 (by decide) (by decide) ?_
    refine v_iload_n dX11_longestIn_141 rfl rfl ?_
    refine v_imul dX11_longestIn_142 b1_1 ?_
    refine v_iload dX11_longestIn_143 rfl ?_
    refine v_iadd dX11_longestIn_145 b1_2 ?_
    refine v_iload dX11_longestIn_146 rfl ?_
    refine v_iadd dX11_longestIn_148 b1_3 ?_
    refine v_cald dX11_longestIn_149 rfl b1_4 b1_5 ?_
    refine v_cast dX11_longestIn_150 rfl b1_6 b1_7 ?_
    refine v_iinc (E2 := [aR 72, aU, aI x2, aI x3, aI x4, aI (x5 + 1), aU]) dX11_longestIn_151 rfl b1_8 rfl ?_
    refine v_goto (tgt := 123) dX11_longestIn_154 (by decide) ?_
    exact k
theorem S_X11_longestIn_51 {kc ks : Nat} {h : Hh} {Q : PQ} {X : PX} {x1 : Int} {x2 : Int} {x3 : Int} {x4 : Int} {x5 : Int} {x6 : Int}
    (k : ((-2147483648 ≤ ((x6 + x2) : Int) ∧ ((x6 + x2) : Int) < 2147483648) ∧ (0 : Int) ≤ x5 ∧ (x5 : Int) < 9) ∧ (((h 74 x5) < (x6 + x2) → ((-2147483648 ≤ ((x5 + 1) : Int) ∧ ((x5 + 1) : Int) < 2147483648)) ∧ am_V M_X11_longestIn kc ks 39 [aR 72, aI x1, aI x2, aI x3, aI x4, aI (x5 + 1), aU] [] am_R0 h Q X) ∧ ((x6 + x2) ≤ (h 74 x5) → ((x3 < 0 → am_V M_X11_standsIn 0 0 0 [aR 72, aI x5, aI x6, aI x2, aI x1, aU, aU] [] am_R0 h (fun v ρ' h' => am_V M_X11_longestIn kc ks 94 [aR 72, aI x1, aI x2, aI x3, aI x4, aI x5, aI x6] (v ++ []) ρ' h' Q X) X) ∧ (0 ≤ x3 → am_V M_X11_isLess 0 0 0 [aR 72, aI x5, aI x6, aI x3, aI x4, aI x2, aU] [] am_R0 h (fun v ρ' h' => am_V M_X11_longestIn kc ks 81 [aR 72, aI x1, aI x2, aI x3, aI x4, aI x5, aI x6] (v ++ []) ρ' h' Q X) X))))) :
    am_V M_X11_longestIn kc ks 51 [aR 72, aI x1, aI x2, aI x3, aI x4, aI x5, aI x6] [] am_R0 h Q X := by
  obtain ⟨⟨b0_1, b0_2, b0_3⟩, k⟩ := k
  refine v_iload dX11_longestIn_51 rfl ?_
  refine v_iload_n dX11_longestIn_53 rfl rfl ?_
  refine v_iadd dX11_longestIn_54 b0_1 ?_
  refine v_aload_n dX11_longestIn_55 rfl rfl ?_
  refine v_getR (x := 74) dX11_longestIn_56 fl_X11_13 am_clsA rfl rfl rfl ?_
  refine v_iload dX11_longestIn_59 rfl ?_
  refine v_iald dX11_longestIn_61 rfl b0_2 b0_3 ?_
  refine v_icmp_gt (tgt := 110) dX11_longestIn_62 (by decide) (fun z => ?_) (fun z => ?_)
  · have k := k.1 z
    obtain ⟨b1_1, k⟩ := k
    refine v_iinc (E2 := [aR 72, aI x1, aI x2, aI x3, aI x4, aI (x5 + 1), aI x6]) dX11_longestIn_110 rfl b1_1 rfl ?_
    refine v_goto (tgt := 39) dX11_longestIn_113 (by decide) ?_
    refine v_weak (E2 := [aR 72, aI x1, aI x2, aI x3, aI x4, aI (x5 + 1), aU]) ⟨Or.inl rfl, ⟨Or.inl rfl, ⟨Or.inl rfl, ⟨Or.inl rfl, ⟨Or.inl rfl, ⟨Or.inl rfl, ⟨Or.inr rfl, trivial⟩⟩⟩⟩⟩⟩⟩ ?_
    exact k
  · have k := k.2 z
    refine v_iload_n dX11_longestIn_65 rfl rfl ?_
    refine v_if_lt (tgt := 84) dX11_longestIn_66 (by decide) (fun z => ?_) (fun z => ?_)
    · have k := k.1 z
      refine v_aload_n dX11_longestIn_84 rfl rfl ?_
      refine v_iload dX11_longestIn_85 rfl ?_
      refine v_iload dX11_longestIn_87 rfl ?_
      refine v_iload_n dX11_longestIn_89 rfl rfl ?_
      refine v_iload_n dX11_longestIn_90 rfl rfl ?_
      exact v_callV (j := M_X11_standsIn) (As := [aI x5, aI x6, aI x2, aI x1]) (st := []) (E0 := [aR 72, aI x5, aI x6, aI x2, aI x1, aU, aU]) (a := 72) (ci := 9) (N := 11) (q9 := (RX11, TX11, 11)) dX11_longestIn_91 ml_X11_144 J_X11_standsIn (Nat.zero_le _) (Nat.zero_le _) (Nat.le_of_ble_eq_true rfl) rfl (Nat.le_of_ble_eq_true rfl) (List.forall_mem_cons.mpr ⟨rfl, List.forall_mem_cons.mpr ⟨rfl, List.forall_mem_cons.mpr ⟨rfl, List.forall_mem_cons.mpr ⟨rfl, List.forall_mem_cons.mpr ⟨rfl, fun _ h9 => absurd h9 List.not_mem_nil⟩⟩⟩⟩⟩) (Nat.le_of_ble_eq_true rfl) rfl rfl rfl rfl pn_X11_standsIn rfl k
    · have k := k.2 z
      refine v_aload_n dX11_longestIn_69 rfl rfl ?_
      refine v_iload dX11_longestIn_70 rfl ?_
      refine v_iload dX11_longestIn_72 rfl ?_
      refine v_iload_n dX11_longestIn_74 rfl rfl ?_
      refine v_iload dX11_longestIn_75 rfl ?_
      refine v_iload_n dX11_longestIn_77 rfl rfl ?_
      exact v_callV (j := M_X11_isLess) (As := [aI x5, aI x6, aI x3, aI x4, aI x2]) (st := []) (E0 := [aR 72, aI x5, aI x6, aI x3, aI x4, aI x2, aU]) (a := 72) (ci := 9) (N := 11) (q9 := (RX11, TX11, 11)) dX11_longestIn_78 ml_X11_140 J_X11_isLess (Nat.zero_le _) (Nat.zero_le _) (Nat.le_of_ble_eq_true rfl) rfl (Nat.le_of_ble_eq_true rfl) (List.forall_mem_cons.mpr ⟨rfl, List.forall_mem_cons.mpr ⟨rfl, List.forall_mem_cons.mpr ⟨rfl, List.forall_mem_cons.mpr ⟨rfl, List.forall_mem_cons.mpr ⟨rfl, List.forall_mem_cons.mpr ⟨rfl, fun _ h9 => absurd h9 List.not_mem_nil⟩⟩⟩⟩⟩⟩) (Nat.le_of_ble_eq_true rfl) rfl rfl rfl rfl pn_X11_isLess rfl k
theorem S_X11_longestIn_94 {kc ks : Nat} {h : Hh} {Q : PQ} {X : PX} {x1 : Int} {x2 : Int} {x3 : Int} {x4 : Int} {x5 : Int} {x6 : Int} {xs0 : Int}
    (k : ((xs0 = 0 → ((-2147483648 ≤ ((x6 + 1) : Int) ∧ ((x6 + 1) : Int) < 2147483648)) ∧ am_V M_X11_longestIn kc ks 51 [aR 72, aI x1, aI x2, aI x3, aI x4, aI x5, aI (x6 + 1)] [] am_R0 h Q X) ∧ (xs0 ≠ 0 → ((-2147483648 ≤ ((x6 + 1) : Int) ∧ ((x6 + 1) : Int) < 2147483648)) ∧ am_V M_X11_longestIn kc ks 51 [aR 72, aI x1, aI x2, aI x5, aI x6, aI x5, aI (x6 + 1)] [] am_R0 h Q X))) :
    am_V M_X11_longestIn kc ks 94 [aR 72, aI x1, aI x2, aI x3, aI x4, aI x5, aI x6] [aI xs0] am_R0 h Q X := by
  refine v_if_eq (tgt := 104) dX11_longestIn_94 (by decide) (fun z => ?_) (fun z => ?_)
  · have k := k.1 z
    obtain ⟨b1_1, k⟩ := k
    refine v_iinc (E2 := [aR 72, aI x1, aI x2, aI x3, aI x4, aI x5, aI (x6 + 1)]) dX11_longestIn_104 rfl b1_1 rfl ?_
    refine v_goto (tgt := 51) dX11_longestIn_107 (by decide) ?_
    exact k
  · have k := k.2 z
    obtain ⟨b1_1, k⟩ := k
    refine v_iload dX11_longestIn_97 rfl ?_
    refine v_istore_n (E2 := [aR 72, aI x1, aI x2, aI x5, aI x4, aI x5, aI x6]) dX11_longestIn_99 rfl (Nat.le_of_ble_eq_true rfl) rfl ?_
    refine v_iload dX11_longestIn_100 rfl ?_
    refine v_istore (E2 := [aR 72, aI x1, aI x2, aI x5, aI x6, aI x5, aI x6]) dX11_longestIn_102 (Nat.le_of_ble_eq_true rfl) rfl ?_
    refine v_iinc (E2 := [aR 72, aI x1, aI x2, aI x5, aI x6, aI x5, aI (x6 + 1)]) dX11_longestIn_104 rfl b1_1 rfl ?_
    refine v_goto (tgt := 51) dX11_longestIn_107 (by decide) ?_
    exact k
theorem S_X11_longestIn_81 {kc ks : Nat} {h : Hh} {Q : PQ} {X : PX} {x1 : Int} {x2 : Int} {x3 : Int} {x4 : Int} {x5 : Int} {x6 : Int} {xs0 : Int}
    (k : ((xs0 = 0 → ((-2147483648 ≤ ((x6 + 1) : Int) ∧ ((x6 + 1) : Int) < 2147483648)) ∧ am_V M_X11_longestIn kc ks 51 [aR 72, aI x1, aI x2, aI x3, aI x4, aI x5, aI (x6 + 1)] [] am_R0 h Q X) ∧ (xs0 ≠ 0 → am_V M_X11_standsIn 0 0 0 [aR 72, aI x5, aI x6, aI x2, aI x1, aU, aU] [] am_R0 h (fun v ρ' h' => am_V M_X11_longestIn kc ks 94 [aR 72, aI x1, aI x2, aI x3, aI x4, aI x5, aI x6] (v ++ []) ρ' h' Q X) X))) :
    am_V M_X11_longestIn kc ks 81 [aR 72, aI x1, aI x2, aI x3, aI x4, aI x5, aI x6] [aI xs0] am_R0 h Q X := by
  refine v_if_eq (tgt := 104) dX11_longestIn_81 (by decide) (fun z => ?_) (fun z => ?_)
  · have k := k.1 z
    obtain ⟨b1_1, k⟩ := k
    refine v_iinc (E2 := [aR 72, aI x1, aI x2, aI x3, aI x4, aI x5, aI (x6 + 1)]) dX11_longestIn_104 rfl b1_1 rfl ?_
    refine v_goto (tgt := 51) dX11_longestIn_107 (by decide) ?_
    exact k
  · have k := k.2 z
    refine v_aload_n dX11_longestIn_84 rfl rfl ?_
    refine v_iload dX11_longestIn_85 rfl ?_
    refine v_iload dX11_longestIn_87 rfl ?_
    refine v_iload_n dX11_longestIn_89 rfl rfl ?_
    refine v_iload_n dX11_longestIn_90 rfl rfl ?_
    exact v_callV (j := M_X11_standsIn) (As := [aI x5, aI x6, aI x2, aI x1]) (st := []) (E0 := [aR 72, aI x5, aI x6, aI x2, aI x1, aU, aU]) (a := 72) (ci := 9) (N := 11) (q9 := (RX11, TX11, 11)) dX11_longestIn_91 ml_X11_144 J_X11_standsIn (Nat.zero_le _) (Nat.zero_le _) (Nat.le_of_ble_eq_true rfl) rfl (Nat.le_of_ble_eq_true rfl) (List.forall_mem_cons.mpr ⟨rfl, List.forall_mem_cons.mpr ⟨rfl, List.forall_mem_cons.mpr ⟨rfl, List.forall_mem_cons.mpr ⟨rfl, List.forall_mem_cons.mpr ⟨rfl, fun _ h9 => absurd h9 List.not_mem_nil⟩⟩⟩⟩⟩) (Nat.le_of_ble_eq_true rfl) rfl rfl rfl rfl pn_X11_standsIn rfl k
theorem S_X11_turns_0 {kc ks : Nat} {h : Hh} {Q : PQ} {X : PX} {x1 : Int}
    (k : am_V M_X11_turns kc ks 2 [aR 72, aI x1, aI 0, aU, aU] [] am_R0 h Q X) :
    am_V M_X11_turns kc ks 0 [aR 72, aI x1, aU, aU, aU] [] am_R0 h Q X := by
  refine v_iconst dX11_turns_0 ⟨by decide, by decide⟩ ?_
  refine v_istore_n (E2 := [aR 72, aI x1, aI 0, aU, aU]) dX11_turns_1 rfl (Nat.le_of_ble_eq_true rfl) rfl ?_
  exact k
theorem S_X11_turns_2 {kc ks : Nat} {h : Hh} {Q : PQ} {X : PX} {x1 : Int} {x2 : Int}
    (k : ((0 : Int) ≤ x1 ∧ (x1 : Int) < 9) ∧ (((h 74 x1) < x2 → Q [] am_R0 h) ∧ (x2 ≤ (h 74 x1) → am_V M_X11_turns kc ks 17 [aR 72, aI x1, aI x2, aI 0, aI 0] [] am_R0 h Q X))) :
    am_V M_X11_turns kc ks 2 [aR 72, aI x1, aI x2, aU, aU] [] am_R0 h Q X := by
  obtain ⟨⟨b0_1, b0_2⟩, k⟩ := k
  refine v_iload_n dX11_turns_2 rfl rfl ?_
  refine v_aload_n dX11_turns_3 rfl rfl ?_
  refine v_getR (x := 74) dX11_turns_4 fl_X11_13 am_clsA rfl rfl rfl ?_
  refine v_iload_n dX11_turns_7 rfl rfl ?_
  refine v_iald dX11_turns_8 rfl b0_1 b0_2 ?_
  refine v_icmp_gt (tgt := 66) dX11_turns_9 (by decide) (fun z => ?_) (fun z => ?_)
  · have k := k.1 z
    exact v_vret dX11_turns_66 rfl rfl k
  · have k := k.2 z
    refine v_iconst dX11_turns_12 ⟨by decide, by decide⟩ ?_
    refine v_istore_n (E2 := [aR 72, aI x1, aI x2, aI 0, aU]) dX11_turns_13 rfl (Nat.le_of_ble_eq_true rfl) rfl ?_
    refine v_iconst dX11_turns_14 ⟨by decide, by decide⟩ ?_
    refine v_istore (E2 := [aR 72, aI x1, aI x2, aI 0, aI 0]) dX11_turns_15 (Nat.le_of_ble_eq_true rfl) rfl ?_
    exact k
theorem S_X11_turns_17 {kc ks : Nat} {h : Hh} {Q : PQ} {X : PX} {x1 : Int} {x2 : Int} {x3 : Int} {x4 : Int}
    (k : ((0 : Int) ≤ x1 ∧ (x1 : Int) < 9) ∧ (((h 74 x1) < x4 → ((0 : Int) ≤ x3 ∧ (x3 : Int) < 65 ∧ (-2147483648 ≤ ((x2 + 1) : Int) ∧ ((x2 + 1) : Int) < 2147483648)) ∧ am_V M_X11_turns kc ks 2 [aR 72, aI x1, aI (x2 + 1), aU, aU] [] am_R0 (am_st h 77 x3 x2) Q X) ∧ (x4 ≤ (h 74 x1) → am_V M_X11_isTurnedLess 0 0 0 [aR 72, aI x1, aI x4, aI x2, aU] [] am_R0 h (fun v ρ' h' => am_V M_X11_turns kc ks 37 [aR 72, aI x1, aI x2, aU, aI x4] (v ++ [aI x3]) ρ' h' Q X) X))) :
    am_V M_X11_turns kc ks 17 [aR 72, aI x1, aI x2, aI x3, aI x4] [] am_R0 h Q X := by
  obtain ⟨⟨b0_1, b0_2⟩, k⟩ := k
  refine v_iload dX11_turns_17 rfl ?_
  refine v_aload_n dX11_turns_19 rfl rfl ?_
  refine v_getR (x := 74) dX11_turns_20 fl_X11_13 am_clsA rfl rfl rfl ?_
  refine v_iload_n dX11_turns_23 rfl rfl ?_
  refine v_iald dX11_turns_24 rfl b0_1 b0_2 ?_
  refine v_icmp_gt (tgt := 53) dX11_turns_25 (by decide) (fun z => ?_) (fun z => ?_)
  · have k := k.1 z
    obtain ⟨⟨b1_1, b1_2, b1_3⟩, k⟩ := k
    refine v_aload_n dX11_turns_53 rfl rfl ?_
    refine v_getR (x := 77) dX11_turns_54 fl_X11_23 am_clsA rfl rfl rfl ?_
    refine v_iload_n dX11_turns_57 rfl rfl ?_
    refine v_iload_n dX11_turns_58 rfl rfl ?_
    refine v_iast dX11_turns_59 rfl b1_1 b1_2 ?_
    refine v_iinc (E2 := [aR 72, aI x1, aI (x2 + 1), aI x3, aI x4]) dX11_turns_60 rfl b1_3 rfl ?_
    refine v_goto (tgt := 2) dX11_turns_63 (by decide) ?_
    refine v_weak (E2 := [aR 72, aI x1, aI (x2 + 1), aU, aU]) ⟨Or.inl rfl, ⟨Or.inl rfl, ⟨Or.inl rfl, ⟨Or.inr rfl, ⟨Or.inr rfl, trivial⟩⟩⟩⟩⟩ ?_
    exact k
  · have k := k.2 z
    refine v_iload_n dX11_turns_28 rfl rfl ?_
    refine v_aload_n dX11_turns_29 rfl rfl ?_
    refine v_iload_n dX11_turns_30 rfl rfl ?_
    refine v_iload dX11_turns_31 rfl ?_
    refine v_iload_n dX11_turns_33 rfl rfl ?_
    refine v_weak (E2 := [aR 72, aI x1, aI x2, aU, aI x4]) ⟨Or.inl rfl, ⟨Or.inl rfl, ⟨Or.inl rfl, ⟨Or.inr rfl, ⟨Or.inl rfl, trivial⟩⟩⟩⟩⟩ ?_
    exact v_callV (j := M_X11_isTurnedLess) (As := [aI x1, aI x4, aI x2]) (st := [aI x3]) (E0 := [aR 72, aI x1, aI x4, aI x2, aU]) (a := 72) (ci := 9) (N := 11) (q9 := (RX11, TX11, 11)) dX11_turns_34 ml_X11_152 J_X11_isTurnedLess (Nat.zero_le _) (Nat.zero_le _) (Nat.le_of_ble_eq_true rfl) rfl (Nat.le_of_ble_eq_true rfl) (List.forall_mem_cons.mpr ⟨rfl, List.forall_mem_cons.mpr ⟨rfl, List.forall_mem_cons.mpr ⟨rfl, List.forall_mem_cons.mpr ⟨rfl, fun _ h9 => absurd h9 List.not_mem_nil⟩⟩⟩⟩) (Nat.le_of_ble_eq_true rfl) rfl rfl rfl rfl pn_X11_isTurnedLess rfl k
theorem S_X11_turns_37 {kc ks : Nat} {h : Hh} {Q : PQ} {X : PX} {x1 : Int} {x2 : Int} {x4 : Int} {xs0 : Int} {xs1 : Int}
    (k : ((xs0 = 0 → ((-2147483648 ≤ ((xs1 + 0) : Int) ∧ ((xs1 + 0) : Int) < 2147483648) ∧ (-2147483648 ≤ ((x4 + 1) : Int) ∧ ((x4 + 1) : Int) < 2147483648)) ∧ am_V M_X11_turns kc ks 17 [aR 72, aI x1, aI x2, aI (xs1 + 0), aI (x4 + 1)] [] am_R0 h Q X) ∧ (xs0 ≠ 0 → ((-2147483648 ≤ ((xs1 + 1) : Int) ∧ ((xs1 + 1) : Int) < 2147483648) ∧ (-2147483648 ≤ ((x4 + 1) : Int) ∧ ((x4 + 1) : Int) < 2147483648)) ∧ am_V M_X11_turns kc ks 17 [aR 72, aI x1, aI x2, aI (xs1 + 1), aI (x4 + 1)] [] am_R0 h Q X))) :
    am_V M_X11_turns kc ks 37 [aR 72, aI x1, aI x2, aU, aI x4] [aI xs0, aI xs1] am_R0 h Q X := by
  refine v_if_eq (tgt := 44) dX11_turns_37 (by decide) (fun z => ?_) (fun z => ?_)
  · have k := k.1 z
    obtain ⟨⟨b1_1, b1_2⟩, k⟩ := k
    refine v_iconst dX11_turns_44 ⟨by decide, by decide⟩ ?_
    refine v_iadd dX11_turns_45 b1_1 ?_
    refine v_istore_n (E2 := [aR 72, aI x1, aI x2, aI (xs1 + 0), aI x4]) dX11_turns_46 rfl (Nat.le_of_ble_eq_true rfl) rfl ?_
    refine v_iinc (E2 := [aR 72, aI x1, aI x2, aI (xs1 + 0), aI (x4 + 1)]) dX11_turns_47 rfl b1_2 rfl ?_
    refine v_goto (tgt := 17) dX11_turns_50 (by decide) ?_
    exact k
  · have k := k.2 z
    obtain ⟨⟨b1_1, b1_2⟩, k⟩ := k
    refine v_iconst dX11_turns_40 ⟨by decide, by decide⟩ ?_
    refine v_goto (tgt := 45) dX11_turns_41 (by decide) ?_
    refine v_iadd dX11_turns_45 b1_1 ?_
    refine v_istore_n (E2 := [aR 72, aI x1, aI x2, aI (xs1 + 1), aI x4]) dX11_turns_46 rfl (Nat.le_of_ble_eq_true rfl) rfl ?_
    refine v_iinc (E2 := [aR 72, aI x1, aI x2, aI (xs1 + 1), aI (x4 + 1)]) dX11_turns_47 rfl b1_2 rfl ?_
    refine v_goto (tgt := 17) dX11_turns_50 (by decide) ?_
    exact k
theorem S_X11_lastAt_0 {kc ks : Nat} {h : Hh} {Q : PQ} {X : PX} {x1 : Int} {x2 : Int}
    (k : ((0 : Int) ≤ x2 ∧ (x2 : Int) < 65 ∧ (0 : Int) ≤ x1 ∧ (x1 : Int) < 9 ∧ (-2147483648 ≤ (((h 77 x2) + (h 74 x1)) : Int) ∧ (((h 77 x2) + (h 74 x1)) : Int) < 2147483648)) ∧ am_V M_X11_around 0 0 0 [aR 72, aI x1, aI ((h 77 x2) + (h 74 x1)), aU] [] am_R0 h (fun v ρ' h' => am_V M_X11_lastAt kc ks 18 [aU, aU, aU] (v ++ []) ρ' h' Q X) X) :
    am_V M_X11_lastAt kc ks 0 [aR 72, aI x1, aI x2] [] am_R0 h Q X := by
  obtain ⟨⟨b0_1, b0_2, b0_3, b0_4, b0_5⟩, k⟩ := k
  refine v_aload_n dX11_lastAt_0 rfl rfl ?_
  refine v_iload_n dX11_lastAt_1 rfl rfl ?_
  refine v_aload_n dX11_lastAt_2 rfl rfl ?_
  refine v_getR (x := 77) dX11_lastAt_3 fl_X11_23 am_clsA rfl rfl rfl ?_
  refine v_iload_n dX11_lastAt_6 rfl rfl ?_
  refine v_iald dX11_lastAt_7 rfl b0_1 b0_2 ?_
  refine v_aload_n dX11_lastAt_8 rfl rfl ?_
  refine v_getR (x := 74) dX11_lastAt_9 fl_X11_13 am_clsA rfl rfl rfl ?_
  refine v_iload_n dX11_lastAt_12 rfl rfl ?_
  refine v_iald dX11_lastAt_13 rfl b0_3 b0_4 ?_
  refine v_iadd dX11_lastAt_14 b0_5 ?_
  refine v_weak (E2 := [aU, aU, aU]) ⟨Or.inr rfl, ⟨Or.inr rfl, ⟨Or.inr rfl, trivial⟩⟩⟩ ?_
  exact v_callV (j := M_X11_around) (As := [aI x1, aI ((h 77 x2) + (h 74 x1))]) (st := []) (E0 := [aR 72, aI x1, aI ((h 77 x2) + (h 74 x1)), aU]) (a := 72) (ci := 9) (N := 11) (q9 := (RX11, TX11, 11)) dX11_lastAt_15 ml_X11_148 J_X11_around (Nat.zero_le _) (Nat.zero_le _) (Nat.le_of_ble_eq_true rfl) rfl (Nat.le_of_ble_eq_true rfl) (List.forall_mem_cons.mpr ⟨rfl, List.forall_mem_cons.mpr ⟨rfl, List.forall_mem_cons.mpr ⟨rfl, fun _ h9 => absurd h9 List.not_mem_nil⟩⟩⟩) (Nat.le_of_ble_eq_true rfl) rfl rfl rfl rfl pn_X11_around rfl k
theorem S_X11_lastAt_18 {kc ks : Nat} {h : Hh} {Q : PQ} {X : PX} {xs0 : Int}
    (k : ((0 : Int) ≤ xs0 ∧ (xs0 : Int) < 65536) ∧ Q [aI xs0] am_R0 h) :
    am_V M_X11_lastAt kc ks 18 [aU, aU, aU] [aI xs0] am_R0 h Q X := by
  obtain ⟨⟨b0_1, b0_2⟩, k⟩ := k
  exact v_cret dX11_lastAt_18 rfl rfl b0_1 b0_2 k
theorem S_X11_last_0 {kc ks : Nat} {h : Hh} {Q : PQ} {X : PX} {x1 : Int} {x2 : Int}
    (k : am_V M_X11_isNoRow 0 0 0 [aR 72, aI x1, aI x2] [] am_R0 h (fun v ρ' h' => am_V M_X11_last kc ks 6 [aR 72, aI x1, aI x2] (v ++ []) ρ' h' Q X) X) :
    am_V M_X11_last kc ks 0 [aR 72, aI x1, aI x2] [] am_R0 h Q X := by
  refine v_aload_n dX11_last_0 rfl rfl ?_
  refine v_iload_n dX11_last_1 rfl rfl ?_
  refine v_iload_n dX11_last_2 rfl rfl ?_
  exact v_callV (j := M_X11_isNoRow) (As := [aI x1, aI x2]) (st := []) (E0 := [aR 72, aI x1, aI x2]) (a := 72) (ci := 9) (N := 11) (q9 := (RX11, TX11, 11)) dX11_last_3 ml_X11_158 J_X11_isNoRow (Nat.zero_le _) (Nat.zero_le _) (Nat.le_of_ble_eq_true rfl) rfl (Nat.le_of_ble_eq_true rfl) (List.forall_mem_cons.mpr ⟨rfl, List.forall_mem_cons.mpr ⟨rfl, List.forall_mem_cons.mpr ⟨rfl, fun _ h9 => absurd h9 List.not_mem_nil⟩⟩⟩) (Nat.le_of_ble_eq_true rfl) rfl rfl rfl rfl pn_X11_isNoRow rfl k
theorem S_X11_last_6 {kc ks : Nat} {h : Hh} {Q : PQ} {X : PX} {x1 : Int} {x2 : Int} {xs0 : Int}
    (k : ((xs0 = 0 → am_V M_X11_lastAt 0 0 0 [aR 72, aI x1, aI x2] [] am_R0 h (fun v ρ' h' => am_V M_X11_last kc ks 19 [aU, aU, aU] (v ++ []) ρ' h' Q X) X) ∧ (xs0 ≠ 0 → Q [aI 0] am_R0 h))) :
    am_V M_X11_last kc ks 6 [aR 72, aI x1, aI x2] [aI xs0] am_R0 h Q X := by
  refine v_if_eq (tgt := 13) dX11_last_6 (by decide) (fun z => ?_) (fun z => ?_)
  · have k := k.1 z
    refine v_aload_n dX11_last_13 rfl rfl ?_
    refine v_iload_n dX11_last_14 rfl rfl ?_
    refine v_iload_n dX11_last_15 rfl rfl ?_
    refine v_weak (E2 := [aU, aU, aU]) ⟨Or.inr rfl, ⟨Or.inr rfl, ⟨Or.inr rfl, trivial⟩⟩⟩ ?_
    exact v_callV (j := M_X11_lastAt) (As := [aI x1, aI x2]) (st := []) (E0 := [aR 72, aI x1, aI x2]) (a := 72) (ci := 9) (N := 11) (q9 := (RX11, TX11, 11)) dX11_last_16 ml_X11_161 J_X11_lastAt (Nat.zero_le _) (Nat.zero_le _) (Nat.le_of_ble_eq_true rfl) rfl (Nat.le_of_ble_eq_true rfl) (List.forall_mem_cons.mpr ⟨rfl, List.forall_mem_cons.mpr ⟨rfl, List.forall_mem_cons.mpr ⟨rfl, fun _ h9 => absurd h9 List.not_mem_nil⟩⟩⟩) (Nat.le_of_ble_eq_true rfl) rfl rfl rfl rfl pn_X11_lastAt rfl k
  · have k := k.2 z
    refine v_iconst dX11_last_9 ⟨by decide, by decide⟩ ?_
    refine v_goto (tgt := 19) dX11_last_10 (by decide) ?_
    exact v_cret dX11_last_19 rfl rfl (by decide) (by decide) k
theorem S_X11_last_19 {kc ks : Nat} {h : Hh} {Q : PQ} {X : PX} {xs0 : Int}
    (k : ((0 : Int) ≤ xs0 ∧ (xs0 : Int) < 65536) ∧ Q [aI xs0] am_R0 h) :
    am_V M_X11_last kc ks 19 [aU, aU, aU] [aI xs0] am_R0 h Q X := by
  obtain ⟨⟨b0_1, b0_2⟩, k⟩ := k
  exact v_cret dX11_last_19 rfl rfl b0_1 b0_2 k
theorem S_X11_runs_0 {kc ks : Nat} {h : Hh} {Q : PQ} {X : PX} {x1 : Int}
    (k : am_V M_X11_isNoRow 0 0 0 [aR 72, aI x1, aI 0] [] am_R0 h (fun v ρ' h' => am_V M_X11_runs kc ks 6 [aR 72, aI x1, aU, aU] (v ++ []) ρ' h' Q X) X) :
    am_V M_X11_runs kc ks 0 [aR 72, aI x1, aU, aU] [] am_R0 h Q X := by
  refine v_aload_n dX11_runs_0 rfl rfl ?_
  refine v_iload_n dX11_runs_1 rfl rfl ?_
  refine v_iconst dX11_runs_2 ⟨by decide, by decide⟩ ?_
  exact v_callV (j := M_X11_isNoRow) (As := [aI x1, aI 0]) (st := []) (E0 := [aR 72, aI x1, aI 0]) (a := 72) (ci := 9) (N := 11) (q9 := (RX11, TX11, 11)) dX11_runs_3 ml_X11_158 J_X11_isNoRow (Nat.zero_le _) (Nat.zero_le _) (Nat.le_of_ble_eq_true rfl) rfl (Nat.le_of_ble_eq_true rfl) (List.forall_mem_cons.mpr ⟨rfl, List.forall_mem_cons.mpr ⟨rfl, List.forall_mem_cons.mpr ⟨rfl, fun _ h9 => absurd h9 List.not_mem_nil⟩⟩⟩) (Nat.le_of_ble_eq_true rfl) rfl rfl rfl rfl pn_X11_isNoRow rfl k
theorem S_X11_runs_6 {kc ks : Nat} {h : Hh} {Q : PQ} {X : PX} {x1 : Int} {xs0 : Int}
    (k : ((xs0 = 0 → am_V M_X11_runs kc ks 15 [aR 72, aI x1, aI 1, aI 1] [] am_R0 h Q X) ∧ (xs0 ≠ 0 → Q [aI 0] am_R0 h))) :
    am_V M_X11_runs kc ks 6 [aR 72, aI x1, aU, aU] [aI xs0] am_R0 h Q X := by
  refine v_if_eq (tgt := 11) dX11_runs_6 (by decide) (fun z => ?_) (fun z => ?_)
  · have k := k.1 z
    refine v_iconst dX11_runs_11 ⟨by decide, by decide⟩ ?_
    refine v_istore_n (E2 := [aR 72, aI x1, aI 1, aU]) dX11_runs_12 rfl (Nat.le_of_ble_eq_true rfl) rfl ?_
    refine v_iconst dX11_runs_13 ⟨by decide, by decide⟩ ?_
    refine v_istore_n (E2 := [aR 72, aI x1, aI 1, aI 1]) dX11_runs_14 rfl (Nat.le_of_ble_eq_true rfl) rfl ?_
    exact k
  · have k := k.2 z
    refine v_iconst dX11_runs_9 ⟨by decide, by decide⟩ ?_
    exact v_iret dX11_runs_10 rfl rfl k
theorem S_X11_runs_15 {kc ks : Nat} {h : Hh} {Q : PQ} {X : PX} {x1 : Int} {x2 : Int} {x3 : Int}
    (k : ((0 : Int) ≤ x1 ∧ (x1 : Int) < 9) ∧ (((h 74 x1) < x3 → Q [aI x2] am_R0 h) ∧ (x3 ≤ (h 74 x1) → am_V M_X11_lastAt 0 0 0 [aR 72, aI x1, aI x3] [] am_R0 h (fun v ρ' h' => am_V M_X11_runs kc ks 32 [aR 72, aI x1, aU, aI x3] (v ++ [aI x2]) ρ' h' Q X) X))) :
    am_V M_X11_runs kc ks 15 [aR 72, aI x1, aI x2, aI x3] [] am_R0 h Q X := by
  obtain ⟨⟨b0_1, b0_2⟩, k⟩ := k
  refine v_iload_n dX11_runs_15 rfl rfl ?_
  refine v_aload_n dX11_runs_16 rfl rfl ?_
  refine v_getR (x := 74) dX11_runs_17 fl_X11_13 am_clsA rfl rfl rfl ?_
  refine v_iload_n dX11_runs_20 rfl rfl ?_
  refine v_iald dX11_runs_21 rfl b0_1 b0_2 ?_
  refine v_icmp_gt (tgt := 56) dX11_runs_22 (by decide) (fun z => ?_) (fun z => ?_)
  · have k := k.1 z
    refine v_iload_n dX11_runs_56 rfl rfl ?_
    exact v_iret dX11_runs_57 rfl rfl k
  · have k := k.2 z
    refine v_iload_n dX11_runs_25 rfl rfl ?_
    refine v_aload_n dX11_runs_26 rfl rfl ?_
    refine v_iload_n dX11_runs_27 rfl rfl ?_
    refine v_iload_n dX11_runs_28 rfl rfl ?_
    refine v_weak (E2 := [aR 72, aI x1, aU, aI x3]) ⟨Or.inl rfl, ⟨Or.inl rfl, ⟨Or.inr rfl, ⟨Or.inl rfl, trivial⟩⟩⟩⟩ ?_
    exact v_callV (j := M_X11_lastAt) (As := [aI x1, aI x3]) (st := [aI x2]) (E0 := [aR 72, aI x1, aI x3]) (a := 72) (ci := 9) (N := 11) (q9 := (RX11, TX11, 11)) dX11_runs_29 ml_X11_161 J_X11_lastAt (Nat.zero_le _) (Nat.zero_le _) (Nat.le_of_ble_eq_true rfl) rfl (Nat.le_of_ble_eq_true rfl) (List.forall_mem_cons.mpr ⟨rfl, List.forall_mem_cons.mpr ⟨rfl, List.forall_mem_cons.mpr ⟨rfl, fun _ h9 => absurd h9 List.not_mem_nil⟩⟩⟩) (Nat.le_of_ble_eq_true rfl) rfl rfl rfl rfl pn_X11_lastAt rfl k
theorem S_X11_runs_32 {kc ks : Nat} {h : Hh} {Q : PQ} {X : PX} {x1 : Int} {x3 : Int} {xs0 : Int} {xs1 : Int}
    (k : ((-2147483648 ≤ ((x3 - 1) : Int) ∧ ((x3 - 1) : Int) < 2147483648)) ∧ am_V M_X11_lastAt 0 0 0 [aR 72, aI x1, aI (x3 - 1)] [] am_R0 h (fun v ρ' h' => am_V M_X11_runs kc ks 40 [aR 72, aI x1, aU, aI x3] (v ++ [aI xs0, aI xs1]) ρ' h' Q X) X) :
    am_V M_X11_runs kc ks 32 [aR 72, aI x1, aU, aI x3] [aI xs0, aI xs1] am_R0 h Q X := by
  obtain ⟨b0_1, k⟩ := k
  refine v_aload_n dX11_runs_32 rfl rfl ?_
  refine v_iload_n dX11_runs_33 rfl rfl ?_
  refine v_iload_n dX11_runs_34 rfl rfl ?_
  refine v_iconst dX11_runs_35 ⟨by decide, by decide⟩ ?_
  refine v_isub dX11_runs_36 b0_1 ?_
  exact v_callV (j := M_X11_lastAt) (As := [aI x1, aI (x3 - 1)]) (st := [aI xs0, aI xs1]) (E0 := [aR 72, aI x1, aI (x3 - 1)]) (a := 72) (ci := 9) (N := 11) (q9 := (RX11, TX11, 11)) dX11_runs_37 ml_X11_161 J_X11_lastAt (Nat.zero_le _) (Nat.zero_le _) (Nat.le_of_ble_eq_true rfl) rfl (Nat.le_of_ble_eq_true rfl) (List.forall_mem_cons.mpr ⟨rfl, List.forall_mem_cons.mpr ⟨rfl, List.forall_mem_cons.mpr ⟨rfl, fun _ h9 => absurd h9 List.not_mem_nil⟩⟩⟩) (Nat.le_of_ble_eq_true rfl) rfl rfl rfl rfl pn_X11_lastAt rfl k
theorem S_X11_runs_40 {kc ks : Nat} {h : Hh} {Q : PQ} {X : PX} {x1 : Int} {x3 : Int} {xs0 : Int} {xs1 : Int} {xs2 : Int}
    (k : ((xs1 ≠ xs0 → ((-2147483648 ≤ ((xs2 + 1) : Int) ∧ ((xs2 + 1) : Int) < 2147483648) ∧ (-2147483648 ≤ ((x3 + 1) : Int) ∧ ((x3 + 1) : Int) < 2147483648)) ∧ am_V M_X11_runs kc ks 15 [aR 72, aI x1, aI (xs2 + 1), aI (x3 + 1)] [] am_R0 h Q X) ∧ (xs1 = xs0 → ((-2147483648 ≤ ((xs2 + 0) : Int) ∧ ((xs2 + 0) : Int) < 2147483648) ∧ (-2147483648 ≤ ((x3 + 1) : Int) ∧ ((x3 + 1) : Int) < 2147483648)) ∧ am_V M_X11_runs kc ks 15 [aR 72, aI x1, aI (xs2 + 0), aI (x3 + 1)] [] am_R0 h Q X))) :
    am_V M_X11_runs kc ks 40 [aR 72, aI x1, aU, aI x3] [aI xs0, aI xs1, aI xs2] am_R0 h Q X := by
  refine v_icmp_ne (tgt := 47) dX11_runs_40 (by decide) (fun z => ?_) (fun z => ?_)
  · have k := k.1 z
    obtain ⟨⟨b1_1, b1_2⟩, k⟩ := k
    refine v_iconst dX11_runs_47 ⟨by decide, by decide⟩ ?_
    refine v_iadd dX11_runs_48 b1_1 ?_
    refine v_istore_n (E2 := [aR 72, aI x1, aI (xs2 + 1), aI x3]) dX11_runs_49 rfl (Nat.le_of_ble_eq_true rfl) rfl ?_
    refine v_iinc (E2 := [aR 72, aI x1, aI (xs2 + 1), aI (x3 + 1)]) dX11_runs_50 rfl b1_2 rfl ?_
    refine v_goto (tgt := 15) dX11_runs_53 (by decide) ?_
    exact k
  · have k := k.2 z
    obtain ⟨⟨b1_1, b1_2⟩, k⟩ := k
    refine v_iconst dX11_runs_43 ⟨by decide, by decide⟩ ?_
    refine v_goto (tgt := 48) dX11_runs_44 (by decide) ?_
    refine v_iadd dX11_runs_48 b1_1 ?_
    refine v_istore_n (E2 := [aR 72, aI x1, aI (xs2 + 0), aI x3]) dX11_runs_49 rfl (Nat.le_of_ble_eq_true rfl) rfl ?_
    refine v_iinc (E2 := [aR 72, aI x1, aI (xs2 + 0), aI (x3 + 1)]) dX11_runs_50 rfl b1_2 rfl ?_
    refine v_goto (tgt := 15) dX11_runs_53 (by decide) ?_
    exact k
theorem S_X11_lays_0 {kc ks : Nat} {h : Hh} {Q : PQ} {X : PX} 
    (k : ((-2147483648 ≤ (((h 72 9) - 1) : Int) ∧ (((h 72 9) - 1) : Int) < 2147483648) ∧ (0 : Int) ≤ (h 72 8) ∧ ((h 72 8) : Int) < 9 ∧ (-2147483648 ≤ ((((am_st h 74 (h 72 8) ((h 72 9) - 1)) 72 9) - 2) : Int) ∧ ((((am_st h 74 (h 72 8) ((h 72 9) - 1)) 72 9) - 2) : Int) < 2147483648)) ∧ am_V M_X11_lays kc ks 24 [aR 72, aI 0, aI (((am_st h 74 (h 72 8) ((h 72 9) - 1)) 72 9) - 2), aU, aU] [] am_R0 (am_st h 74 (h 72 8) ((h 72 9) - 1)) Q X) :
    am_V M_X11_lays kc ks 0 [aR 72, aU, aU, aU, aU] [] am_R0 h Q X := by
  obtain ⟨⟨b0_1, b0_2, b0_3, b0_4⟩, k⟩ := k
  refine v_iconst dX11_lays_0 ⟨by decide, by decide⟩ ?_
  refine v_istore_n (E2 := [aR 72, aI 0, aU, aU, aU]) dX11_lays_1 rfl (Nat.le_of_ble_eq_true rfl) rfl ?_
  refine v_aload_n dX11_lays_2 rfl rfl ?_
  refine v_getR (x := 74) dX11_lays_3 fl_X11_13 am_clsA rfl rfl rfl ?_
  refine v_aload_n dX11_lays_6 rfl rfl ?_
  refine v_getI (j := 8) dX11_lays_7 fl_X11_39 am_clsA rfl rfl rfl ?_
  refine v_aload_n dX11_lays_10 rfl rfl ?_
  refine v_getI (j := 9) dX11_lays_11 fl_X11_54 am_clsA rfl rfl rfl ?_
  refine v_iconst dX11_lays_14 ⟨by decide, by decide⟩ ?_
  refine v_isub dX11_lays_15 b0_1 ?_
  refine v_iast dX11_lays_16 rfl b0_2 b0_3 ?_
  refine v_aload_n dX11_lays_17 rfl rfl ?_
  refine v_getI (j := 9) dX11_lays_18 fl_X11_54 am_clsA rfl rfl rfl ?_
  refine v_iconst dX11_lays_21 ⟨by decide, by decide⟩ ?_
  refine v_isub dX11_lays_22 b0_4 ?_
  refine v_istore_n (E2 := [aR 72, aI 0, aI (((am_st h 74 (h 72 8) ((h 72 9) - 1)) 72 9) - 2), aU, aU]) dX11_lays_23 rfl (Nat.le_of_ble_eq_true rfl) rfl ?_
  exact k
theorem S_X11_lays_24 {kc ks : Nat} {h : Hh} {Q : PQ} {X : PX} {x1 : Int} {x2 : Int}
    (k : ((x2 < 0 → am_V M_X11_turns 0 0 0 [aR 72, aI (h 72 8), aU, aU, aU] [] am_R0 h (fun v ρ' h' => am_V M_X11_lays kc ks 143 [aR 72, aU, aU, aU, aU] (v ++ []) ρ' h' Q X) X) ∧ (0 ≤ x2 → ((0 : Int) ≤ x1 ∧ (x1 : Int) < 65) ∧ (((h 75 x1) ≠ 36 → ((-2147483648 ≤ ((64 * (h 72 8)) : Int) ∧ ((64 * (h 72 8)) : Int) < 2147483648) ∧ (-2147483648 ≤ (((64 * (h 72 8)) + x2) : Int) ∧ (((64 * (h 72 8)) + x2) : Int) < 2147483648) ∧ (0 : Int) ≤ x1 ∧ (x1 : Int) < 65 ∧ (0 : Int) ≤ ((64 * (h 72 8)) + x2) ∧ (((64 * (h 72 8)) + x2) : Int) < 576) ∧ am_V M_X11_lays kc ks 66 [aR 72, aI x1, aI x2, aI 0, aI 0] [] am_R0 (am_st h 73 ((64 * (h 72 8)) + x2) ((h 75 x1) % 65536)) Q X) ∧ ((h 75 x1) = 36 → Q [aI 0] am_R0 h))))) :
    am_V M_X11_lays kc ks 24 [aR 72, aI x1, aI x2, aU, aU] [] am_R0 h Q X := by
  refine v_iload_n dX11_lays_24 rfl rfl ?_
  refine v_if_lt (tgt := 135) dX11_lays_25 (by decide) (fun z => ?_) (fun z => ?_)
  · have k := k.1 z
    refine v_aload_n dX11_lays_135 rfl rfl ?_
    refine v_aload_n dX11_lays_136 rfl rfl ?_
    refine v_getI (j := 8) dX11_lays_137 fl_X11_39 am_clsA rfl rfl rfl ?_
    refine v_weak (E2 := [aR 72, aU, aU, aU, aU]) ⟨Or.inl rfl, ⟨Or.inr rfl, ⟨Or.inr rfl, ⟨Or.inl rfl, ⟨Or.inl rfl, trivial⟩⟩⟩⟩⟩ ?_
    exact v_callV (j := M_X11_turns) (As := [aI (h 72 8)]) (st := []) (E0 := [aR 72, aI (h 72 8), aU, aU, aU]) (a := 72) (ci := 9) (N := 11) (q9 := (RX11, TX11, 11)) dX11_lays_140 ml_X11_155 J_X11_turns (Nat.zero_le _) (Nat.zero_le _) (Nat.le_of_ble_eq_true rfl) rfl (Nat.le_of_ble_eq_true rfl) (List.forall_mem_cons.mpr ⟨rfl, List.forall_mem_cons.mpr ⟨rfl, fun _ h9 => absurd h9 List.not_mem_nil⟩⟩) (Nat.le_of_ble_eq_true rfl) rfl rfl rfl rfl pn_X11_turns rfl k
  · have k := k.2 z
    obtain ⟨⟨b1_1, b1_2⟩, k⟩ := k
    refine v_aload_n dX11_lays_28 rfl rfl ?_
    refine v_getR (x := 75) dX11_lays_29 fl_X11_17 am_clsA rfl rfl rfl ?_
    refine v_iload_n dX11_lays_32 rfl rfl ?_
    refine v_cald dX11_lays_33 rfl b1_1 b1_2 ?_
    refine v_bipush dX11_lays_34 (by decide) (by decide) ?_
    refine v_icmp_ne (tgt := 41) dX11_lays_36 (by decide) (fun z => ?_) (fun z => ?_)
    · have k := k.1 z
      obtain ⟨⟨b2_1, b2_2, b2_3, b2_4, b2_5, b2_6⟩, k⟩ := k
      refine v_aload_n dX11_lays_41 rfl rfl ?_
      refine v_getR (x := 73) dX11_lays_42 fl_X11_7 am_clsA rfl rfl rfl ?_
      refine v_bipush dX11_lays_45 (by decide) (by decide) ?_
      refine v_aload_n dX11_lays_47 rfl rfl ?_
      refine v_getI (j := 8) dX11_lays_48 fl_X11_39 am_clsA rfl rfl rfl ?_
      refine v_imul dX11_lays_51 b2_1 ?_
      refine v_iload_n dX11_lays_52 rfl rfl ?_
      refine v_iadd dX11_lays_53 b2_2 ?_
      refine v_aload_n dX11_lays_54 rfl rfl ?_
      refine v_getR (x := 75) dX11_lays_55 fl_X11_17 am_clsA rfl rfl rfl ?_
      refine v_iload_n dX11_lays_58 rfl rfl ?_
      refine v_cald dX11_lays_59 rfl b2_3 b2_4 ?_
      refine v_cast dX11_lays_60 rfl b2_5 b2_6 ?_
      refine v_iconst dX11_lays_61 ⟨by decide, by decide⟩ ?_
      refine v_istore_n (E2 := [aR 72, aI x1, aI x2, aI 0, aU]) dX11_lays_62 rfl (Nat.le_of_ble_eq_true rfl) rfl ?_
      refine v_iconst dX11_lays_63 ⟨by decide, by decide⟩ ?_
      refine v_istore (E2 := [aR 72, aI x1, aI x2, aI 0, aI 0]) dX11_lays_64 (Nat.le_of_ble_eq_true rfl) rfl ?_
      exact k
    · have k := k.2 z
      refine v_iconst dX11_lays_39 ⟨by decide, by decide⟩ ?_
      exact v_zret dX11_lays_40 rfl rfl (Or.inl rfl) k
theorem S_X11_lays_143 {kc ks : Nat} {h : Hh} {Q : PQ} {X : PX} 
    (k : am_V M_X11_lays kc ks 145 [aR 72, aU, aI 0, aU, aU] [] am_R0 h Q X) :
    am_V M_X11_lays kc ks 143 [aR 72, aU, aU, aU, aU] [] am_R0 h Q X := by
  refine v_iconst dX11_lays_143 ⟨by decide, by decide⟩ ?_
  refine v_istore_n (E2 := [aR 72, aU, aI 0, aU, aU]) dX11_lays_144 rfl (Nat.le_of_ble_eq_true rfl) rfl ?_
  exact k
theorem S_X11_lays_66 {kc ks : Nat} {h : Hh} {Q : PQ} {X : PX} {x1 : Int} {x2 : Int} {x3 : Int} {x4 : Int}
    (k : (((h 72 9) ≤ x4 → ((-2147483648 ≤ ((x2 + (-1)) : Int) ∧ ((x2 + (-1)) : Int) < 2147483648)) ∧ am_V M_X11_lays kc ks 24 [aR 72, aI x3, aI (x2 + (-1)), aU, aU] [] am_R0 h Q X) ∧ (x4 < (h 72 9) → ((0 : Int) ≤ x4 ∧ (x4 : Int) < 65 ∧ (0 : Int) ≤ x1 ∧ (x1 : Int) < 65) ∧ (((h 75 x4) < (h 75 x1) → ((-2147483648 ≤ ((x3 + 1) : Int) ∧ ((x3 + 1) : Int) < 2147483648) ∧ (-2147483648 ≤ ((x4 + 1) : Int) ∧ ((x4 + 1) : Int) < 2147483648)) ∧ am_V M_X11_lays kc ks 66 [aR 72, aI x1, aI x2, aI (x3 + 1), aI (x4 + 1)] [] am_R0 h Q X) ∧ ((h 75 x1) ≤ (h 75 x4) → ((0 : Int) ≤ x4 ∧ (x4 : Int) < 65 ∧ (0 : Int) ≤ x1 ∧ (x1 : Int) < 65) ∧ (((h 75 x4) ≠ (h 75 x1) → ((-2147483648 ≤ ((x3 + 0) : Int) ∧ ((x3 + 0) : Int) < 2147483648) ∧ (-2147483648 ≤ ((x4 + 1) : Int) ∧ ((x4 + 1) : Int) < 2147483648)) ∧ am_V M_X11_lays kc ks 66 [aR 72, aI x1, aI x2, aI (x3 + 0), aI (x4 + 1)] [] am_R0 h Q X) ∧ ((h 75 x4) = (h 75 x1) → ((x1 ≤ x4 → ((-2147483648 ≤ ((x3 + 0) : Int) ∧ ((x3 + 0) : Int) < 2147483648) ∧ (-2147483648 ≤ ((x4 + 1) : Int) ∧ ((x4 + 1) : Int) < 2147483648)) ∧ am_V M_X11_lays kc ks 66 [aR 72, aI x1, aI x2, aI (x3 + 0), aI (x4 + 1)] [] am_R0 h Q X) ∧ (x4 < x1 → ((-2147483648 ≤ ((x3 + 1) : Int) ∧ ((x3 + 1) : Int) < 2147483648) ∧ (-2147483648 ≤ ((x4 + 1) : Int) ∧ ((x4 + 1) : Int) < 2147483648)) ∧ am_V M_X11_lays kc ks 66 [aR 72, aI x1, aI x2, aI (x3 + 1), aI (x4 + 1)] [] am_R0 h Q X))))))))) :
    am_V M_X11_lays kc ks 66 [aR 72, aI x1, aI x2, aI x3, aI x4] [] am_R0 h Q X := by
  refine v_iload dX11_lays_66 rfl ?_
  refine v_aload_n dX11_lays_68 rfl rfl ?_
  refine v_getI (j := 9) dX11_lays_69 fl_X11_54 am_clsA rfl rfl rfl ?_
  refine v_icmp_ge (tgt := 127) dX11_lays_72 (by decide) (fun z => ?_) (fun z => ?_)
  · have k := k.1 z
    obtain ⟨b1_1, k⟩ := k
    refine v_iload_n dX11_lays_127 rfl rfl ?_
    refine v_istore_n (E2 := [aR 72, aI x3, aI x2, aI x3, aI x4]) dX11_lays_128 rfl (Nat.le_of_ble_eq_true rfl) rfl ?_
    refine v_iinc (E2 := [aR 72, aI x3, aI (x2 + (-1)), aI x3, aI x4]) dX11_lays_129 rfl b1_1 rfl ?_
    refine v_goto (tgt := 24) dX11_lays_132 (by decide) ?_
    refine v_weak (E2 := [aR 72, aI x3, aI (x2 + (-1)), aU, aU]) ⟨Or.inl rfl, ⟨Or.inl rfl, ⟨Or.inl rfl, ⟨Or.inr rfl, ⟨Or.inr rfl, trivial⟩⟩⟩⟩⟩ ?_
    exact k
  · have k := k.2 z
    obtain ⟨⟨b1_1, b1_2, b1_3, b1_4⟩, k⟩ := k
    refine v_iload_n dX11_lays_75 rfl rfl ?_
    refine v_aload_n dX11_lays_76 rfl rfl ?_
    refine v_getR (x := 75) dX11_lays_77 fl_X11_17 am_clsA rfl rfl rfl ?_
    refine v_iload dX11_lays_80 rfl ?_
    refine v_cald dX11_lays_82 rfl b1_1 b1_2 ?_
    refine v_aload_n dX11_lays_83 rfl rfl ?_
    refine v_getR (x := 75) dX11_lays_84 fl_X11_17 am_clsA rfl rfl rfl ?_
    refine v_iload_n dX11_lays_87 rfl rfl ?_
    refine v_cald dX11_lays_88 rfl b1_3 b1_4 ?_
    refine v_icmp_lt (tgt := 114) dX11_lays_89 (by decide) (fun z => ?_) (fun z => ?_)
    · have k := k.1 z
      obtain ⟨⟨b2_1, b2_2⟩, k⟩ := k
      refine v_iconst dX11_lays_114 ⟨by decide, by decide⟩ ?_
      refine v_goto (tgt := 119) dX11_lays_115 (by decide) ?_
      refine v_iadd dX11_lays_119 b2_1 ?_
      refine v_istore_n (E2 := [aR 72, aI x1, aI x2, aI (x3 + 1), aI x4]) dX11_lays_120 rfl (Nat.le_of_ble_eq_true rfl) rfl ?_
      refine v_iinc (E2 := [aR 72, aI x1, aI x2, aI (x3 + 1), aI (x4 + 1)]) dX11_lays_121 rfl b2_2 rfl ?_
      refine v_goto (tgt := 66) dX11_lays_124 (by decide) ?_
      exact k
    · have k := k.2 z
      obtain ⟨⟨b2_1, b2_2, b2_3, b2_4⟩, k⟩ := k
      refine v_aload_n dX11_lays_92 rfl rfl ?_
      refine v_getR (x := 75) dX11_lays_93 fl_X11_17 am_clsA rfl rfl rfl ?_
      refine v_iload dX11_lays_96 rfl ?_
      refine v_cald dX11_lays_98 rfl b2_1 b2_2 ?_
      refine v_aload_n dX11_lays_99 rfl rfl ?_
      refine v_getR (x := 75) dX11_lays_100 fl_X11_17 am_clsA rfl rfl rfl ?_
      refine v_iload_n dX11_lays_103 rfl rfl ?_
      refine v_cald dX11_lays_104 rfl b2_3 b2_4 ?_
      refine v_icmp_ne (tgt := 118) dX11_lays_105 (by decide) (fun z => ?_) (fun z => ?_)
      · have k := k.1 z
        obtain ⟨⟨b3_1, b3_2⟩, k⟩ := k
        refine v_iconst dX11_lays_118 ⟨by decide, by decide⟩ ?_
        refine v_iadd dX11_lays_119 b3_1 ?_
        refine v_istore_n (E2 := [aR 72, aI x1, aI x2, aI (x3 + 0), aI x4]) dX11_lays_120 rfl (Nat.le_of_ble_eq_true rfl) rfl ?_
        refine v_iinc (E2 := [aR 72, aI x1, aI x2, aI (x3 + 0), aI (x4 + 1)]) dX11_lays_121 rfl b3_2 rfl ?_
        refine v_goto (tgt := 66) dX11_lays_124 (by decide) ?_
        exact k
      · have k := k.2 z
        refine v_iload dX11_lays_108 rfl ?_
        refine v_iload_n dX11_lays_110 rfl rfl ?_
        refine v_icmp_ge (tgt := 118) dX11_lays_111 (by decide) (fun z => ?_) (fun z => ?_)
        · have k := k.1 z
          obtain ⟨⟨b4_1, b4_2⟩, k⟩ := k
          refine v_iconst dX11_lays_118 ⟨by decide, by decide⟩ ?_
          refine v_iadd dX11_lays_119 b4_1 ?_
          refine v_istore_n (E2 := [aR 72, aI x1, aI x2, aI (x3 + 0), aI x4]) dX11_lays_120 rfl (Nat.le_of_ble_eq_true rfl) rfl ?_
          refine v_iinc (E2 := [aR 72, aI x1, aI x2, aI (x3 + 0), aI (x4 + 1)]) dX11_lays_121 rfl b4_2 rfl ?_
          refine v_goto (tgt := 66) dX11_lays_124 (by decide) ?_
          exact k
        · have k := k.2 z
          obtain ⟨⟨b4_1, b4_2⟩, k⟩ := k
          refine v_iconst dX11_lays_114 ⟨by decide, by decide⟩ ?_
          refine v_goto (tgt := 119) dX11_lays_115 (by decide) ?_
          refine v_iadd dX11_lays_119 b4_1 ?_
          refine v_istore_n (E2 := [aR 72, aI x1, aI x2, aI (x3 + 1), aI x4]) dX11_lays_120 rfl (Nat.le_of_ble_eq_true rfl) rfl ?_
          refine v_iinc (E2 := [aR 72, aI x1, aI x2, aI (x3 + 1), aI (x4 + 1)]) dX11_lays_121 rfl b4_2 rfl ?_
          refine v_goto (tgt := 66) dX11_lays_124 (by decide) ?_
          exact k
theorem S_X11_lays_145 {kc ks : Nat} {h : Hh} {Q : PQ} {X : PX} {x2 : Int}
    (k : (((h 72 9) ≤ x2 → Q [aI 1] am_R0 h) ∧ (x2 < (h 72 9) → am_V M_X11_lastAt 0 0 0 [aR 72, aI (h 72 8), aI x2] [] am_R0 h (fun v ρ' h' => am_V M_X11_lays kc ks 162 [aR 72, aU, aI x2, aU, aU] (v ++ []) ρ' h' Q X) X))) :
    am_V M_X11_lays kc ks 145 [aR 72, aU, aI x2, aU, aU] [] am_R0 h Q X := by
  refine v_iload_n dX11_lays_145 rfl rfl ?_
  refine v_aload_n dX11_lays_146 rfl rfl ?_
  refine v_getI (j := 9) dX11_lays_147 fl_X11_54 am_clsA rfl rfl rfl ?_
  refine v_icmp_ge (tgt := 179) dX11_lays_150 (by decide) (fun z => ?_) (fun z => ?_)
  · have k := k.1 z
    refine v_iconst dX11_lays_179 ⟨by decide, by decide⟩ ?_
    exact v_zret dX11_lays_180 rfl rfl (Or.inr rfl) k
  · have k := k.2 z
    refine v_aload_n dX11_lays_153 rfl rfl ?_
    refine v_aload_n dX11_lays_154 rfl rfl ?_
    refine v_getI (j := 8) dX11_lays_155 fl_X11_39 am_clsA rfl rfl rfl ?_
    refine v_iload_n dX11_lays_158 rfl rfl ?_
    exact v_callV (j := M_X11_lastAt) (As := [aI (h 72 8), aI x2]) (st := []) (E0 := [aR 72, aI (h 72 8), aI x2]) (a := 72) (ci := 9) (N := 11) (q9 := (RX11, TX11, 11)) dX11_lays_159 ml_X11_161 J_X11_lastAt (Nat.zero_le _) (Nat.zero_le _) (Nat.le_of_ble_eq_true rfl) rfl (Nat.le_of_ble_eq_true rfl) (List.forall_mem_cons.mpr ⟨rfl, List.forall_mem_cons.mpr ⟨rfl, List.forall_mem_cons.mpr ⟨rfl, fun _ h9 => absurd h9 List.not_mem_nil⟩⟩⟩) (Nat.le_of_ble_eq_true rfl) rfl rfl rfl rfl pn_X11_lastAt rfl k
theorem S_X11_lays_162 {kc ks : Nat} {h : Hh} {Q : PQ} {X : PX} {x2 : Int} {xs0 : Int}
    (k : ((0 : Int) ≤ x2 ∧ (x2 : Int) < 65) ∧ ((xs0 = (h 75 x2) → ((-2147483648 ≤ ((x2 + 1) : Int) ∧ ((x2 + 1) : Int) < 2147483648)) ∧ am_V M_X11_lays kc ks 145 [aR 72, aU, aI (x2 + 1), aU, aU] [] am_R0 h Q X) ∧ (xs0 ≠ (h 75 x2) → Q [aI 0] am_R0 h))) :
    am_V M_X11_lays kc ks 162 [aR 72, aU, aI x2, aU, aU] [aI xs0] am_R0 h Q X := by
  obtain ⟨⟨b0_1, b0_2⟩, k⟩ := k
  refine v_aload_n dX11_lays_162 rfl rfl ?_
  refine v_getR (x := 75) dX11_lays_163 fl_X11_17 am_clsA rfl rfl rfl ?_
  refine v_iload_n dX11_lays_166 rfl rfl ?_
  refine v_cald dX11_lays_167 rfl b0_1 b0_2 ?_
  refine v_icmp_eq (tgt := 173) dX11_lays_168 (by decide) (fun z => ?_) (fun z => ?_)
  · have k := k.1 z
    obtain ⟨b1_1, k⟩ := k
    refine v_iinc (E2 := [aR 72, aU, aI (x2 + 1), aU, aU]) dX11_lays_173 rfl b1_1 rfl ?_
    refine v_goto (tgt := 145) dX11_lays_176 (by decide) ?_
    exact k
  · have k := k.2 z
    refine v_iconst dX11_lays_171 ⟨by decide, by decide⟩ ?_
    exact v_zret dX11_lays_172 rfl rfl (Or.inl rfl) k
theorem S_X11_undo_0 {kc ks : Nat} {h : Hh} {Q : PQ} {X : PX} 
    (k : (((h 72 9) = 0 → am_V M_X11_isWrong 0 0 0 [aR 72, aI 1] [] am_R0 h (fun v ρ' h' => am_V M_X11_undo kc ks 36 [aR 72] (v ++ []) ρ' h' Q X) X) ∧ ((h 72 9) ≠ 0 → am_V M_X11_lays 0 0 0 [aR 72, aU, aU, aU, aU] [] am_R0 h (fun v ρ' h' => am_V M_X11_undo kc ks 12 [aR 72] (v ++ [aR 72]) ρ' h' Q X) X))) :
    am_V M_X11_undo kc ks 0 [aR 72] [] am_R0 h Q X := by
  refine v_aload_n dX11_undo_0 rfl rfl ?_
  refine v_aload_n dX11_undo_1 rfl rfl ?_
  refine v_getI (j := 9) dX11_undo_2 fl_X11_54 am_clsA rfl rfl rfl ?_
  refine v_if_eq (tgt := 15) dX11_undo_5 (by decide) (fun z => ?_) (fun z => ?_)
  · have k := k.1 z
    refine v_iconst dX11_undo_15 ⟨by decide, by decide⟩ ?_
    refine v_goto (tgt := 33) dX11_undo_16 (by decide) ?_
    exact v_callV (j := M_X11_isWrong) (As := [aI 1]) (st := []) (E0 := [aR 72, aI 1]) (a := 72) (ci := 9) (N := 11) (q9 := (RX11, TX11, 11)) dX11_undo_33 ml_X11_57 J_X11_isWrong (Nat.zero_le _) (Nat.zero_le _) (Nat.le_of_ble_eq_true rfl) rfl (Nat.le_of_ble_eq_true rfl) (List.forall_mem_cons.mpr ⟨rfl, List.forall_mem_cons.mpr ⟨rfl, fun _ h9 => absurd h9 List.not_mem_nil⟩⟩) (Nat.le_of_ble_eq_true rfl) rfl rfl rfl rfl pn_X11_isWrong rfl k
  · have k := k.2 z
    refine v_aload_n dX11_undo_8 rfl rfl ?_
    exact v_callV (j := M_X11_lays) (As := []) (st := [aR 72]) (E0 := [aR 72, aU, aU, aU, aU]) (a := 72) (ci := 9) (N := 11) (q9 := (RX11, TX11, 11)) dX11_undo_9 ml_X11_164 J_X11_lays (Nat.zero_le _) (Nat.zero_le _) (Nat.le_of_ble_eq_true rfl) rfl (Nat.le_of_ble_eq_true rfl) (List.forall_mem_cons.mpr ⟨rfl, fun _ h9 => absurd h9 List.not_mem_nil⟩) (Nat.le_of_ble_eq_true rfl) rfl rfl rfl rfl pn_X11_lays rfl k
theorem S_X11_undo_36 {kc ks : Nat} {h : Hh} {Q : PQ} {X : PX} {xs0 : Int}
    (k : ((xs0 = 0 → ((-2147483648 ≤ (((h 72 8) + 1) : Int) ∧ (((h 72 8) + 1) : Int) < 2147483648) ∧ (-2147483648 ≤ ((((am_st h 72 8 ((h 72 8) + 1)) 72 8) - 1) : Int) ∧ ((((am_st h 72 8 ((h 72 8) + 1)) 72 8) - 1) : Int) < 2147483648)) ∧ Q [aI (((am_st h 72 8 ((h 72 8) + 1)) 72 8) - 1)] am_R0 (am_st h 72 8 ((h 72 8) + 1))) ∧ (xs0 ≠ 0 → Q [aI 0] am_R0 h))) :
    am_V M_X11_undo kc ks 36 [aR 72] [aI xs0] am_R0 h Q X := by
  refine v_if_eq (tgt := 41) dX11_undo_36 (by decide) (fun z => ?_) (fun z => ?_)
  · have k := k.1 z
    obtain ⟨⟨b1_1, b1_2⟩, k⟩ := k
    refine v_aload_n dX11_undo_41 rfl rfl ?_
    refine v_dupR dX11_undo_42 ?_
    refine v_getI (j := 8) dX11_undo_43 fl_X11_39 am_clsA rfl rfl rfl ?_
    refine v_iconst dX11_undo_46 ⟨by decide, by decide⟩ ?_
    refine v_iadd dX11_undo_47 b1_1 ?_
    refine v_putI (j := 8) dX11_undo_48 pl_X11_39 am_clsA rfl rfl rfl ?_
    refine v_aload_n dX11_undo_51 rfl rfl ?_
    refine v_getI (j := 8) dX11_undo_52 fl_X11_39 am_clsA rfl rfl rfl ?_
    refine v_iconst dX11_undo_55 ⟨by decide, by decide⟩ ?_
    refine v_isub dX11_undo_56 b1_2 ?_
    exact v_iret dX11_undo_57 rfl rfl k
  · have k := k.2 z
    refine v_iconst dX11_undo_39 ⟨by decide, by decide⟩ ?_
    exact v_iret dX11_undo_40 rfl rfl k
theorem S_X11_undo_12 {kc ks : Nat} {h : Hh} {Q : PQ} {X : PX} {xs0 : Int}
    (k : ((xs0 ≠ 0 → (((h 72 8) ≠ 8 → am_V M_X11_isWrong 0 0 0 [aR 72, aI 0] [] am_R0 h (fun v ρ' h' => am_V M_X11_undo kc ks 36 [aR 72] (v ++ []) ρ' h' Q X) X) ∧ ((h 72 8) = 8 → am_V M_X11_isWrong 0 0 0 [aR 72, aI 2] [] am_R0 h (fun v ρ' h' => am_V M_X11_undo kc ks 36 [aR 72] (v ++ []) ρ' h' Q X) X))) ∧ (xs0 = 0 → am_V M_X11_isWrong 0 0 0 [aR 72, aI 1] [] am_R0 h (fun v ρ' h' => am_V M_X11_undo kc ks 36 [aR 72] (v ++ []) ρ' h' Q X) X))) :
    am_V M_X11_undo kc ks 12 [aR 72] [aI xs0, aR 72] am_R0 h Q X := by
  refine v_if_ne (tgt := 19) dX11_undo_12 (by decide) (fun z => ?_) (fun z => ?_)
  · have k := k.1 z
    refine v_aload_n dX11_undo_19 rfl rfl ?_
    refine v_getI (j := 8) dX11_undo_20 fl_X11_39 am_clsA rfl rfl rfl ?_
    refine v_bipush dX11_undo_23 (by decide) (by decide) ?_
    refine v_icmp_ne (tgt := 32) dX11_undo_25 (by decide) (fun z => ?_) (fun z => ?_)
    · have k := k.1 z
      refine v_iconst dX11_undo_32 ⟨by decide, by decide⟩ ?_
      exact v_callV (j := M_X11_isWrong) (As := [aI 0]) (st := []) (E0 := [aR 72, aI 0]) (a := 72) (ci := 9) (N := 11) (q9 := (RX11, TX11, 11)) dX11_undo_33 ml_X11_57 J_X11_isWrong (Nat.zero_le _) (Nat.zero_le _) (Nat.le_of_ble_eq_true rfl) rfl (Nat.le_of_ble_eq_true rfl) (List.forall_mem_cons.mpr ⟨rfl, List.forall_mem_cons.mpr ⟨rfl, fun _ h9 => absurd h9 List.not_mem_nil⟩⟩) (Nat.le_of_ble_eq_true rfl) rfl rfl rfl rfl pn_X11_isWrong rfl k
    · have k := k.2 z
      refine v_iconst dX11_undo_28 ⟨by decide, by decide⟩ ?_
      refine v_goto (tgt := 33) dX11_undo_29 (by decide) ?_
      exact v_callV (j := M_X11_isWrong) (As := [aI 2]) (st := []) (E0 := [aR 72, aI 2]) (a := 72) (ci := 9) (N := 11) (q9 := (RX11, TX11, 11)) dX11_undo_33 ml_X11_57 J_X11_isWrong (Nat.zero_le _) (Nat.zero_le _) (Nat.le_of_ble_eq_true rfl) rfl (Nat.le_of_ble_eq_true rfl) (List.forall_mem_cons.mpr ⟨rfl, List.forall_mem_cons.mpr ⟨rfl, fun _ h9 => absurd h9 List.not_mem_nil⟩⟩) (Nat.le_of_ble_eq_true rfl) rfl rfl rfl rfl pn_X11_isWrong rfl k
  · have k := k.2 z
    refine v_iconst dX11_undo_15 ⟨by decide, by decide⟩ ?_
    refine v_goto (tgt := 33) dX11_undo_16 (by decide) ?_
    exact v_callV (j := M_X11_isWrong) (As := [aI 1]) (st := []) (E0 := [aR 72, aI 1]) (a := 72) (ci := 9) (N := 11) (q9 := (RX11, TX11, 11)) dX11_undo_33 ml_X11_57 J_X11_isWrong (Nat.zero_le _) (Nat.zero_le _) (Nat.le_of_ble_eq_true rfl) rfl (Nat.le_of_ble_eq_true rfl) (List.forall_mem_cons.mpr ⟨rfl, List.forall_mem_cons.mpr ⟨rfl, fun _ h9 => absurd h9 List.not_mem_nil⟩⟩) (Nat.le_of_ble_eq_true rfl) rfl rfl rfl rfl pn_X11_isWrong rfl k
theorem S_X11_squares_0 {kc ks : Nat} {h : Hh} {Q : PQ} {X : PX} {x1 : Int}
    (k : am_V M_X11_isNone 0 0 0 [aR 72, aI x1] [] am_R0 h (fun v ρ' h' => am_V M_X11_squares kc ks 5 [aR 72, aI x1, aU, aU, aU] (v ++ []) ρ' h' Q X) X) :
    am_V M_X11_squares kc ks 0 [aR 72, aI x1, aU, aU, aU] [] am_R0 h Q X := by
  refine v_aload_n dX11_squares_0 rfl rfl ?_
  refine v_iload_n dX11_squares_1 rfl rfl ?_
  exact v_callV (j := M_X11_isNone) (As := [aI x1]) (st := []) (E0 := [aR 72, aI x1]) (a := 72) (ci := 9) (N := 11) (q9 := (RX11, TX11, 11)) dX11_squares_2 ml_X11_68 J_X11_isNone (Nat.zero_le _) (Nat.zero_le _) (Nat.le_of_ble_eq_true rfl) rfl (Nat.le_of_ble_eq_true rfl) (List.forall_mem_cons.mpr ⟨rfl, List.forall_mem_cons.mpr ⟨rfl, fun _ h9 => absurd h9 List.not_mem_nil⟩⟩) (Nat.le_of_ble_eq_true rfl) rfl rfl rfl rfl pn_X11_isNone rfl k
theorem S_X11_squares_5 {kc ks : Nat} {h : Hh} {Q : PQ} {X : PX} {x1 : Int} {xs0 : Int}
    (k : ((xs0 = 0 → am_V M_X11_squares kc ks 14 [aR 72, aI x1, aI 0, aI 0, aU] [] am_R0 h Q X) ∧ (xs0 ≠ 0 → Q [aI 0] am_R0 h))) :
    am_V M_X11_squares kc ks 5 [aR 72, aI x1, aU, aU, aU] [aI xs0] am_R0 h Q X := by
  refine v_if_eq (tgt := 10) dX11_squares_5 (by decide) (fun z => ?_) (fun z => ?_)
  · have k := k.1 z
    refine v_iconst dX11_squares_10 ⟨by decide, by decide⟩ ?_
    refine v_istore_n (E2 := [aR 72, aI x1, aI 0, aU, aU]) dX11_squares_11 rfl (Nat.le_of_ble_eq_true rfl) rfl ?_
    refine v_iconst dX11_squares_12 ⟨by decide, by decide⟩ ?_
    refine v_istore_n (E2 := [aR 72, aI x1, aI 0, aI 0, aU]) dX11_squares_13 rfl (Nat.le_of_ble_eq_true rfl) rfl ?_
    exact k
  · have k := k.2 z
    refine v_iconst dX11_squares_8 ⟨by decide, by decide⟩ ?_
    exact v_iret dX11_squares_9 rfl rfl k
theorem S_X11_squares_14 {kc ks : Nat} {h : Hh} {Q : PQ} {X : PX} {x1 : Int} {x2 : Int} {x3 : Int}
    (k : ((0 : Int) ≤ x1 ∧ (x1 : Int) < 9) ∧ (((h 74 x1) ≤ x3 → Q [aI x2] am_R0 h) ∧ (x3 < (h 74 x1) → am_V M_X11_squares kc ks 27 [aR 72, aI x1, aI x2, aI x3, aI 1] [] am_R0 h Q X))) :
    am_V M_X11_squares kc ks 14 [aR 72, aI x1, aI x2, aI x3, aU] [] am_R0 h Q X := by
  obtain ⟨⟨b0_1, b0_2⟩, k⟩ := k
  refine v_iload_n dX11_squares_14 rfl rfl ?_
  refine v_aload_n dX11_squares_15 rfl rfl ?_
  refine v_getR (x := 74) dX11_squares_16 fl_X11_13 am_clsA rfl rfl rfl ?_
  refine v_iload_n dX11_squares_19 rfl rfl ?_
  refine v_iald dX11_squares_20 rfl b0_1 b0_2 ?_
  refine v_icmp_ge (tgt := 65) dX11_squares_21 (by decide) (fun z => ?_) (fun z => ?_)
  · have k := k.1 z
    refine v_iload_n dX11_squares_65 rfl rfl ?_
    exact v_iret dX11_squares_66 rfl rfl k
  · have k := k.2 z
    refine v_iconst dX11_squares_24 ⟨by decide, by decide⟩ ?_
    refine v_istore (E2 := [aR 72, aI x1, aI x2, aI x3, aI 1]) dX11_squares_25 (Nat.le_of_ble_eq_true rfl) rfl ?_
    exact k
theorem S_X11_squares_27 {kc ks : Nat} {h : Hh} {Q : PQ} {X : PX} {x1 : Int} {x2 : Int} {x3 : Int} {x4 : Int}
    (k : ((32 < x4 → ((-2147483648 ≤ ((x3 + 1) : Int) ∧ ((x3 + 1) : Int) < 2147483648)) ∧ am_V M_X11_squares kc ks 14 [aR 72, aI x1, aI x2, aI (x3 + 1), aU] [] am_R0 h Q X) ∧ (x4 ≤ 32 → am_V M_X11_isSquare 0 0 0 [aR 72, aI x1, aI x3, aI x4] [] am_R0 h (fun v ρ' h' => am_V M_X11_squares kc ks 43 [aR 72, aI x1, aU, aI x3, aI x4] (v ++ [aI x2]) ρ' h' Q X) X))) :
    am_V M_X11_squares kc ks 27 [aR 72, aI x1, aI x2, aI x3, aI x4] [] am_R0 h Q X := by
  refine v_iload dX11_squares_27 rfl ?_
  refine v_bipush dX11_squares_29 (by decide) (by decide) ?_
  refine v_icmp_gt (tgt := 59) dX11_squares_31 (by decide) (fun z => ?_) (fun z => ?_)
  · have k := k.1 z
    obtain ⟨b1_1, k⟩ := k
    refine v_iinc (E2 := [aR 72, aI x1, aI x2, aI (x3 + 1), aI x4]) dX11_squares_59 rfl b1_1 rfl ?_
    refine v_goto (tgt := 14) dX11_squares_62 (by decide) ?_
    refine v_weak (E2 := [aR 72, aI x1, aI x2, aI (x3 + 1), aU]) ⟨Or.inl rfl, ⟨Or.inl rfl, ⟨Or.inl rfl, ⟨Or.inl rfl, ⟨Or.inr rfl, trivial⟩⟩⟩⟩⟩ ?_
    exact k
  · have k := k.2 z
    refine v_iload_n dX11_squares_34 rfl rfl ?_
    refine v_aload_n dX11_squares_35 rfl rfl ?_
    refine v_iload_n dX11_squares_36 rfl rfl ?_
    refine v_iload_n dX11_squares_37 rfl rfl ?_
    refine v_iload dX11_squares_38 rfl ?_
    refine v_weak (E2 := [aR 72, aI x1, aU, aI x3, aI x4]) ⟨Or.inl rfl, ⟨Or.inl rfl, ⟨Or.inr rfl, ⟨Or.inl rfl, ⟨Or.inl rfl, trivial⟩⟩⟩⟩⟩ ?_
    exact v_callV (j := M_X11_isSquare) (As := [aI x1, aI x3, aI x4]) (st := [aI x2]) (E0 := [aR 72, aI x1, aI x3, aI x4]) (a := 72) (ci := 9) (N := 11) (q9 := (RX11, TX11, 11)) dX11_squares_40 ml_X11_167 J_X11_isSquare (Nat.zero_le _) (Nat.zero_le _) (Nat.le_of_ble_eq_true rfl) rfl (Nat.le_of_ble_eq_true rfl) (List.forall_mem_cons.mpr ⟨rfl, List.forall_mem_cons.mpr ⟨rfl, List.forall_mem_cons.mpr ⟨rfl, List.forall_mem_cons.mpr ⟨rfl, fun _ h9 => absurd h9 List.not_mem_nil⟩⟩⟩⟩) (Nat.le_of_ble_eq_true rfl) rfl rfl rfl rfl pn_X11_isSquare rfl k
theorem S_X11_squares_43 {kc ks : Nat} {h : Hh} {Q : PQ} {X : PX} {x1 : Int} {x3 : Int} {x4 : Int} {xs0 : Int} {xs1 : Int}
    (k : ((xs0 = 0 → ((-2147483648 ≤ ((xs1 + 0) : Int) ∧ ((xs1 + 0) : Int) < 2147483648) ∧ (-2147483648 ≤ ((x4 + 1) : Int) ∧ ((x4 + 1) : Int) < 2147483648)) ∧ am_V M_X11_squares kc ks 27 [aR 72, aI x1, aI (xs1 + 0), aI x3, aI (x4 + 1)] [] am_R0 h Q X) ∧ (xs0 ≠ 0 → ((-2147483648 ≤ ((xs1 + 1) : Int) ∧ ((xs1 + 1) : Int) < 2147483648) ∧ (-2147483648 ≤ ((x4 + 1) : Int) ∧ ((x4 + 1) : Int) < 2147483648)) ∧ am_V M_X11_squares kc ks 27 [aR 72, aI x1, aI (xs1 + 1), aI x3, aI (x4 + 1)] [] am_R0 h Q X))) :
    am_V M_X11_squares kc ks 43 [aR 72, aI x1, aU, aI x3, aI x4] [aI xs0, aI xs1] am_R0 h Q X := by
  refine v_if_eq (tgt := 50) dX11_squares_43 (by decide) (fun z => ?_) (fun z => ?_)
  · have k := k.1 z
    obtain ⟨⟨b1_1, b1_2⟩, k⟩ := k
    refine v_iconst dX11_squares_50 ⟨by decide, by decide⟩ ?_
    refine v_iadd dX11_squares_51 b1_1 ?_
    refine v_istore_n (E2 := [aR 72, aI x1, aI (xs1 + 0), aI x3, aI x4]) dX11_squares_52 rfl (Nat.le_of_ble_eq_true rfl) rfl ?_
    refine v_iinc (E2 := [aR 72, aI x1, aI (xs1 + 0), aI x3, aI (x4 + 1)]) dX11_squares_53 rfl b1_2 rfl ?_
    refine v_goto (tgt := 27) dX11_squares_56 (by decide) ?_
    exact k
  · have k := k.2 z
    obtain ⟨⟨b1_1, b1_2⟩, k⟩ := k
    refine v_iconst dX11_squares_46 ⟨by decide, by decide⟩ ?_
    refine v_goto (tgt := 51) dX11_squares_47 (by decide) ?_
    refine v_iadd dX11_squares_51 b1_1 ?_
    refine v_istore_n (E2 := [aR 72, aI x1, aI (xs1 + 1), aI x3, aI x4]) dX11_squares_52 rfl (Nat.le_of_ble_eq_true rfl) rfl ?_
    refine v_iinc (E2 := [aR 72, aI x1, aI (xs1 + 1), aI x3, aI (x4 + 1)]) dX11_squares_53 rfl b1_2 rfl ?_
    refine v_goto (tgt := 27) dX11_squares_56 (by decide) ?_
    exact k
theorem S_X11_squareAt_0 {kc ks : Nat} {h : Hh} {Q : PQ} {X : PX} {x1 : Int} {x2 : Int}
    (k : am_V M_X11_isNoPlace 0 0 0 [aR 72, aI x1, aI x2] [] am_R0 h (fun v ρ' h' => am_V M_X11_squareAt kc ks 6 [aR 72, aI x1, aI x2, aU] (v ++ []) ρ' h' Q X) X) :
    am_V M_X11_squareAt kc ks 0 [aR 72, aI x1, aI x2, aU] [] am_R0 h Q X := by
  refine v_aload_n dX11_squareAt_0 rfl rfl ?_
  refine v_iload_n dX11_squareAt_1 rfl rfl ?_
  refine v_iload_n dX11_squareAt_2 rfl rfl ?_
  exact v_callV (j := M_X11_isNoPlace) (As := [aI x1, aI x2]) (st := []) (E0 := [aR 72, aI x1, aI x2]) (a := 72) (ci := 9) (N := 11) (q9 := (RX11, TX11, 11)) dX11_squareAt_3 ml_X11_75 J_X11_isNoPlace (Nat.zero_le _) (Nat.zero_le _) (Nat.le_of_ble_eq_true rfl) rfl (Nat.le_of_ble_eq_true rfl) (List.forall_mem_cons.mpr ⟨rfl, List.forall_mem_cons.mpr ⟨rfl, List.forall_mem_cons.mpr ⟨rfl, fun _ h9 => absurd h9 List.not_mem_nil⟩⟩⟩) (Nat.le_of_ble_eq_true rfl) rfl rfl rfl rfl pn_X11_isNoPlace rfl k
theorem S_X11_squareAt_6 {kc ks : Nat} {h : Hh} {Q : PQ} {X : PX} {x1 : Int} {x2 : Int} {xs0 : Int}
    (k : ((xs0 = 0 → am_V M_X11_squareAt kc ks 13 [aR 72, aI x1, aI x2, aI 1] [] am_R0 h Q X) ∧ (xs0 ≠ 0 → Q [aI 0] am_R0 h))) :
    am_V M_X11_squareAt kc ks 6 [aR 72, aI x1, aI x2, aU] [aI xs0] am_R0 h Q X := by
  refine v_if_eq (tgt := 11) dX11_squareAt_6 (by decide) (fun z => ?_) (fun z => ?_)
  · have k := k.1 z
    refine v_iconst dX11_squareAt_11 ⟨by decide, by decide⟩ ?_
    refine v_istore_n (E2 := [aR 72, aI x1, aI x2, aI 1]) dX11_squareAt_12 rfl (Nat.le_of_ble_eq_true rfl) rfl ?_
    exact k
  · have k := k.2 z
    refine v_iconst dX11_squareAt_9 ⟨by decide, by decide⟩ ?_
    exact v_iret dX11_squareAt_10 rfl rfl k
theorem S_X11_squareAt_13 {kc ks : Nat} {h : Hh} {Q : PQ} {X : PX} {x1 : Int} {x2 : Int} {x3 : Int}
    (k : ((32 < x3 → Q [aI 0] am_R0 (am_st h 72 10 2)) ∧ (x3 ≤ 32 → am_V M_X11_isSquare 0 0 0 [aR 72, aI x1, aI x2, aI x3] [] am_R0 h (fun v ρ' h' => am_V M_X11_squareAt kc ks 26 [aR 72, aI x1, aI x2, aI x3] (v ++ []) ρ' h' Q X) X))) :
    am_V M_X11_squareAt kc ks 13 [aR 72, aI x1, aI x2, aI x3] [] am_R0 h Q X := by
  refine v_iload_n dX11_squareAt_13 rfl rfl ?_
  refine v_bipush dX11_squareAt_14 (by decide) (by decide) ?_
  refine v_icmp_gt (tgt := 37) dX11_squareAt_16 (by decide) (fun z => ?_) (fun z => ?_)
  · have k := k.1 z
    refine v_aload_n dX11_squareAt_37 rfl rfl ?_
    refine v_iconst dX11_squareAt_38 ⟨by decide, by decide⟩ ?_
    refine v_putI (j := 10) dX11_squareAt_39 pl_X11_35 am_clsA rfl rfl rfl ?_
    refine v_iconst dX11_squareAt_42 ⟨by decide, by decide⟩ ?_
    exact v_iret dX11_squareAt_43 rfl rfl k
  · have k := k.2 z
    refine v_aload_n dX11_squareAt_19 rfl rfl ?_
    refine v_iload_n dX11_squareAt_20 rfl rfl ?_
    refine v_iload_n dX11_squareAt_21 rfl rfl ?_
    refine v_iload_n dX11_squareAt_22 rfl rfl ?_
    exact v_callV (j := M_X11_isSquare) (As := [aI x1, aI x2, aI x3]) (st := []) (E0 := [aR 72, aI x1, aI x2, aI x3]) (a := 72) (ci := 9) (N := 11) (q9 := (RX11, TX11, 11)) dX11_squareAt_23 ml_X11_167 J_X11_isSquare (Nat.zero_le _) (Nat.zero_le _) (Nat.le_of_ble_eq_true rfl) rfl (Nat.le_of_ble_eq_true rfl) (List.forall_mem_cons.mpr ⟨rfl, List.forall_mem_cons.mpr ⟨rfl, List.forall_mem_cons.mpr ⟨rfl, List.forall_mem_cons.mpr ⟨rfl, fun _ h9 => absurd h9 List.not_mem_nil⟩⟩⟩⟩) (Nat.le_of_ble_eq_true rfl) rfl rfl rfl rfl pn_X11_isSquare rfl k
theorem S_X11_squareAt_26 {kc ks : Nat} {h : Hh} {Q : PQ} {X : PX} {x1 : Int} {x2 : Int} {x3 : Int} {xs0 : Int}
    (k : ((xs0 = 0 → ((-2147483648 ≤ ((x3 + 1) : Int) ∧ ((x3 + 1) : Int) < 2147483648)) ∧ am_V M_X11_squareAt kc ks 13 [aR 72, aI x1, aI x2, aI (x3 + 1)] [] am_R0 h Q X) ∧ (xs0 ≠ 0 → Q [aI x3] am_R0 h))) :
    am_V M_X11_squareAt kc ks 26 [aR 72, aI x1, aI x2, aI x3] [aI xs0] am_R0 h Q X := by
  refine v_if_eq (tgt := 31) dX11_squareAt_26 (by decide) (fun z => ?_) (fun z => ?_)
  · have k := k.1 z
    obtain ⟨b1_1, k⟩ := k
    refine v_iinc (E2 := [aR 72, aI x1, aI x2, aI (x3 + 1)]) dX11_squareAt_31 rfl b1_1 rfl ?_
    refine v_goto (tgt := 13) dX11_squareAt_34 (by decide) ?_
    exact k
  · have k := k.2 z
    refine v_iload_n dX11_squareAt_29 rfl rfl ?_
    exact v_iret dX11_squareAt_30 rfl rfl k
theorem S_X11_period_0 {kc ks : Nat} {h : Hh} {Q : PQ} {X : PX} {x1 : Int}
    (k : am_V M_X11_isEmpty 0 0 0 [aR 72, aI x1] [] am_R0 h (fun v ρ' h' => am_V M_X11_period kc ks 5 [aR 72, aI x1, aU] (v ++ []) ρ' h' Q X) X) :
    am_V M_X11_period kc ks 0 [aR 72, aI x1, aU] [] am_R0 h Q X := by
  refine v_aload_n dX11_period_0 rfl rfl ?_
  refine v_iload_n dX11_period_1 rfl rfl ?_
  exact v_callV (j := M_X11_isEmpty) (As := [aI x1]) (st := []) (E0 := [aR 72, aI x1]) (a := 72) (ci := 9) (N := 11) (q9 := (RX11, TX11, 11)) dX11_period_2 ml_X11_134 J_X11_isEmpty (Nat.zero_le _) (Nat.zero_le _) (Nat.le_of_ble_eq_true rfl) rfl (Nat.le_of_ble_eq_true rfl) (List.forall_mem_cons.mpr ⟨rfl, List.forall_mem_cons.mpr ⟨rfl, fun _ h9 => absurd h9 List.not_mem_nil⟩⟩) (Nat.le_of_ble_eq_true rfl) rfl rfl rfl rfl pn_X11_isEmpty rfl k
theorem S_X11_period_5 {kc ks : Nat} {h : Hh} {Q : PQ} {X : PX} {x1 : Int} {xs0 : Int}
    (k : ((xs0 = 0 → am_V M_X11_period kc ks 12 [aR 72, aI x1, aI 1] [] am_R0 h Q X) ∧ (xs0 ≠ 0 → Q [aI 0] am_R0 h))) :
    am_V M_X11_period kc ks 5 [aR 72, aI x1, aU] [aI xs0] am_R0 h Q X := by
  refine v_if_eq (tgt := 10) dX11_period_5 (by decide) (fun z => ?_) (fun z => ?_)
  · have k := k.1 z
    refine v_iconst dX11_period_10 ⟨by decide, by decide⟩ ?_
    refine v_istore_n (E2 := [aR 72, aI x1, aI 1]) dX11_period_11 rfl (Nat.le_of_ble_eq_true rfl) rfl ?_
    exact k
  · have k := k.2 z
    refine v_iconst dX11_period_8 ⟨by decide, by decide⟩ ?_
    exact v_iret dX11_period_9 rfl rfl k
theorem S_X11_period_12 {kc ks : Nat} {h : Hh} {Q : PQ} {X : PX} {x1 : Int} {x2 : Int}
    (k : ((0 : Int) ≤ x1 ∧ (x1 : Int) < 9) ∧ (((h 74 x1) ≤ x2 → Q [aI x2] am_R0 h) ∧ (x2 < (h 74 x1) → am_V M_X11_together 0 0 0 [aR 72, aI x1, aI 0, aI x1, aI x2, aU] [] am_R0 h (fun v ρ' h' => am_V M_X11_period kc ks 30 [aR 72, aI x1, aI x2] (v ++ []) ρ' h' Q X) X))) :
    am_V M_X11_period kc ks 12 [aR 72, aI x1, aI x2] [] am_R0 h Q X := by
  obtain ⟨⟨b0_1, b0_2⟩, k⟩ := k
  refine v_iload_n dX11_period_12 rfl rfl ?_
  refine v_aload_n dX11_period_13 rfl rfl ?_
  refine v_getR (x := 74) dX11_period_14 fl_X11_13 am_clsA rfl rfl rfl ?_
  refine v_iload_n dX11_period_17 rfl rfl ?_
  refine v_iald dX11_period_18 rfl b0_1 b0_2 ?_
  refine v_icmp_ge (tgt := 47) dX11_period_19 (by decide) (fun z => ?_) (fun z => ?_)
  · have k := k.1 z
    refine v_iload_n dX11_period_47 rfl rfl ?_
    exact v_iret dX11_period_48 rfl rfl k
  · have k := k.2 z
    refine v_aload_n dX11_period_22 rfl rfl ?_
    refine v_iload_n dX11_period_23 rfl rfl ?_
    refine v_iconst dX11_period_24 ⟨by decide, by decide⟩ ?_
    refine v_iload_n dX11_period_25 rfl rfl ?_
    refine v_iload_n dX11_period_26 rfl rfl ?_
    exact v_callV (j := M_X11_together) (As := [aI x1, aI 0, aI x1, aI x2]) (st := []) (E0 := [aR 72, aI x1, aI 0, aI x1, aI x2, aU]) (a := 72) (ci := 9) (N := 11) (q9 := (RX11, TX11, 11)) dX11_period_27 ml_X11_102 J_X11_together (Nat.zero_le _) (Nat.zero_le _) (Nat.le_of_ble_eq_true rfl) rfl (Nat.le_of_ble_eq_true rfl) (List.forall_mem_cons.mpr ⟨rfl, List.forall_mem_cons.mpr ⟨rfl, List.forall_mem_cons.mpr ⟨rfl, List.forall_mem_cons.mpr ⟨rfl, List.forall_mem_cons.mpr ⟨rfl, fun _ h9 => absurd h9 List.not_mem_nil⟩⟩⟩⟩⟩) (Nat.le_of_ble_eq_true rfl) rfl rfl rfl rfl pn_X11_together rfl k
theorem S_X11_period_30 {kc ks : Nat} {h : Hh} {Q : PQ} {X : PX} {x1 : Int} {x2 : Int} {xs0 : Int}
    (k : ((0 : Int) ≤ x1 ∧ (x1 : Int) < 9 ∧ (-2147483648 ≤ (((h 74 x1) - x2) : Int) ∧ (((h 74 x1) - x2) : Int) < 2147483648)) ∧ ((((h 74 x1) - x2) ≤ xs0 → Q [aI x2] am_R0 h) ∧ (xs0 < ((h 74 x1) - x2) → ((-2147483648 ≤ ((x2 + 1) : Int) ∧ ((x2 + 1) : Int) < 2147483648)) ∧ am_V M_X11_period kc ks 12 [aR 72, aI x1, aI (x2 + 1)] [] am_R0 h Q X))) :
    am_V M_X11_period kc ks 30 [aR 72, aI x1, aI x2] [aI xs0] am_R0 h Q X := by
  obtain ⟨⟨b0_1, b0_2, b0_3⟩, k⟩ := k
  refine v_aload_n dX11_period_30 rfl rfl ?_
  refine v_getR (x := 74) dX11_period_31 fl_X11_13 am_clsA rfl rfl rfl ?_
  refine v_iload_n dX11_period_34 rfl rfl ?_
  refine v_iald dX11_period_35 rfl b0_1 b0_2 ?_
  refine v_iload_n dX11_period_36 rfl rfl ?_
  refine v_isub dX11_period_37 b0_3 ?_
  refine v_icmp_ge (tgt := 47) dX11_period_38 (by decide) (fun z => ?_) (fun z => ?_)
  · have k := k.1 z
    refine v_iload_n dX11_period_47 rfl rfl ?_
    exact v_iret dX11_period_48 rfl rfl k
  · have k := k.2 z
    obtain ⟨b1_1, k⟩ := k
    refine v_iinc (E2 := [aR 72, aI x1, aI (x2 + 1)]) dX11_period_41 rfl b1_1 rfl ?_
    refine v_goto (tgt := 12) dX11_period_44 (by decide) ?_
    exact k
theorem S_X11_turnAt_0 {kc ks : Nat} {h : Hh} {Q : PQ} {X : PX} {x1 : Int}
    (k : am_V M_X11_isEmpty 0 0 0 [aR 72, aI x1] [] am_R0 h (fun v ρ' h' => am_V M_X11_turnAt kc ks 5 [aR 72, aI x1, aU, aU, aU, aU] (v ++ []) ρ' h' Q X) X) :
    am_V M_X11_turnAt kc ks 0 [aR 72, aI x1, aU, aU, aU, aU] [] am_R0 h Q X := by
  refine v_aload_n dX11_turnAt_0 rfl rfl ?_
  refine v_iload_n dX11_turnAt_1 rfl rfl ?_
  exact v_callV (j := M_X11_isEmpty) (As := [aI x1]) (st := []) (E0 := [aR 72, aI x1]) (a := 72) (ci := 9) (N := 11) (q9 := (RX11, TX11, 11)) dX11_turnAt_2 ml_X11_134 J_X11_isEmpty (Nat.zero_le _) (Nat.zero_le _) (Nat.le_of_ble_eq_true rfl) rfl (Nat.le_of_ble_eq_true rfl) (List.forall_mem_cons.mpr ⟨rfl, List.forall_mem_cons.mpr ⟨rfl, fun _ h9 => absurd h9 List.not_mem_nil⟩⟩) (Nat.le_of_ble_eq_true rfl) rfl rfl rfl rfl pn_X11_isEmpty rfl k
theorem S_X11_turnAt_5 {kc ks : Nat} {h : Hh} {Q : PQ} {X : PX} {x1 : Int} {xs0 : Int}
    (k : ((xs0 = 0 → ((0 : Int) ≤ x1 ∧ (x1 : Int) < 9) ∧ am_V M_X11_turnAt kc ks 22 [aR 72, aI x1, aI (h 74 x1), aI 0, aI 1, aU] [] am_R0 h Q X) ∧ (xs0 ≠ 0 → Q [aI 0] am_R0 h))) :
    am_V M_X11_turnAt kc ks 5 [aR 72, aI x1, aU, aU, aU, aU] [aI xs0] am_R0 h Q X := by
  refine v_if_eq (tgt := 10) dX11_turnAt_5 (by decide) (fun z => ?_) (fun z => ?_)
  · have k := k.1 z
    obtain ⟨⟨b1_1, b1_2⟩, k⟩ := k
    refine v_aload_n dX11_turnAt_10 rfl rfl ?_
    refine v_getR (x := 74) dX11_turnAt_11 fl_X11_13 am_clsA rfl rfl rfl ?_
    refine v_iload_n dX11_turnAt_14 rfl rfl ?_
    refine v_iald dX11_turnAt_15 rfl b1_1 b1_2 ?_
    refine v_istore_n (E2 := [aR 72, aI x1, aI (h 74 x1), aU, aU, aU]) dX11_turnAt_16 rfl (Nat.le_of_ble_eq_true rfl) rfl ?_
    refine v_iconst dX11_turnAt_17 ⟨by decide, by decide⟩ ?_
    refine v_istore_n (E2 := [aR 72, aI x1, aI (h 74 x1), aI 0, aU, aU]) dX11_turnAt_18 rfl (Nat.le_of_ble_eq_true rfl) rfl ?_
    refine v_iconst dX11_turnAt_19 ⟨by decide, by decide⟩ ?_
    refine v_istore (E2 := [aR 72, aI x1, aI (h 74 x1), aI 0, aI 1, aU]) dX11_turnAt_20 (Nat.le_of_ble_eq_true rfl) rfl ?_
    exact k
  · have k := k.2 z
    refine v_iconst dX11_turnAt_8 ⟨by decide, by decide⟩ ?_
    exact v_iret dX11_turnAt_9 rfl rfl k
theorem S_X11_turnAt_22 {kc ks : Nat} {h : Hh} {Q : PQ} {X : PX} {x1 : Int} {x2 : Int} {x3 : Int} {x4 : Int}
    (k : ((x2 ≤ x4 → Q [aI x3] am_R0 h) ∧ (x4 < x2 → am_V M_X11_turnAt kc ks 31 [aR 72, aI x1, aI x2, aI x3, aI x4, aI 0] [] am_R0 h Q X))) :
    am_V M_X11_turnAt kc ks 22 [aR 72, aI x1, aI x2, aI x3, aI x4, aU] [] am_R0 h Q X := by
  refine v_iload dX11_turnAt_22 rfl ?_
  refine v_iload_n dX11_turnAt_24 rfl rfl ?_
  refine v_icmp_ge (tgt := 134) dX11_turnAt_25 (by decide) (fun z => ?_) (fun z => ?_)
  · have k := k.1 z
    refine v_iload_n dX11_turnAt_134 rfl rfl ?_
    exact v_iret dX11_turnAt_135 rfl rfl k
  · have k := k.2 z
    refine v_iconst dX11_turnAt_28 ⟨by decide, by decide⟩ ?_
    refine v_istore (E2 := [aR 72, aI x1, aI x2, aI x3, aI x4, aI 0]) dX11_turnAt_29 (Nat.le_of_ble_eq_true rfl) rfl ?_
    exact k
theorem S_X11_turnAt_31 {kc ks : Nat} {h : Hh} {Q : PQ} {X : PX} {x1 : Int} {x2 : Int} {x3 : Int} {x4 : Int} {x5 : Int}
    (k : ((x2 ≤ x5 → ((x2 ≤ x5 → ((-2147483648 ≤ ((x4 + 1) : Int) ∧ ((x4 + 1) : Int) < 2147483648)) ∧ am_V M_X11_turnAt kc ks 22 [aR 72, aI x1, aI x2, aI x3, aI (x4 + 1), aU] [] am_R0 h Q X) ∧ (x5 < x2 → ((-2147483648 ≤ ((64 * x1) : Int) ∧ ((64 * x1) : Int) < 2147483648) ∧ (-2147483648 ≤ ((x4 + x5) : Int) ∧ ((x4 + x5) : Int) < 2147483648) ∧ (0 : Int) ≤ (x4 + x5) ∧ (0 : Int) < x2 ∧ (-2147483648 ≤ (((64 * x1) + ((x4 + x5) % x2)) : Int) ∧ (((64 * x1) + ((x4 + x5) % x2)) : Int) < 2147483648) ∧ (0 : Int) ≤ ((64 * x1) + ((x4 + x5) % x2)) ∧ (((64 * x1) + ((x4 + x5) % x2)) : Int) < 576 ∧ (-2147483648 ≤ ((64 * x1) : Int) ∧ ((64 * x1) : Int) < 2147483648) ∧ (-2147483648 ≤ ((x3 + x5) : Int) ∧ ((x3 + x5) : Int) < 2147483648) ∧ (0 : Int) ≤ (x3 + x5) ∧ (0 : Int) < x2 ∧ (-2147483648 ≤ (((64 * x1) + ((x3 + x5) % x2)) : Int) ∧ (((64 * x1) + ((x3 + x5) % x2)) : Int) < 2147483648) ∧ (0 : Int) ≤ ((64 * x1) + ((x3 + x5) % x2)) ∧ (((64 * x1) + ((x3 + x5) % x2)) : Int) < 576) ∧ (((h 73 ((64 * x1) + ((x3 + x5) % x2))) ≤ (h 73 ((64 * x1) + ((x4 + x5) % x2))) → ((-2147483648 ≤ ((x4 + 1) : Int) ∧ ((x4 + 1) : Int) < 2147483648)) ∧ am_V M_X11_turnAt kc ks 22 [aR 72, aI x1, aI x2, aI x3, aI (x4 + 1), aU] [] am_R0 h Q X) ∧ ((h 73 ((64 * x1) + ((x4 + x5) % x2))) < (h 73 ((64 * x1) + ((x3 + x5) % x2))) → ((-2147483648 ≤ ((x4 + 1) : Int) ∧ ((x4 + 1) : Int) < 2147483648)) ∧ am_V M_X11_turnAt kc ks 22 [aR 72, aI x1, aI x2, aI x4, aI (x4 + 1), aU] [] am_R0 h Q X))))) ∧ (x5 < x2 → ((-2147483648 ≤ ((64 * x1) : Int) ∧ ((64 * x1) : Int) < 2147483648) ∧ (-2147483648 ≤ ((x4 + x5) : Int) ∧ ((x4 + x5) : Int) < 2147483648) ∧ (0 : Int) ≤ (x4 + x5) ∧ (0 : Int) < x2 ∧ (-2147483648 ≤ (((64 * x1) + ((x4 + x5) % x2)) : Int) ∧ (((64 * x1) + ((x4 + x5) % x2)) : Int) < 2147483648) ∧ (0 : Int) ≤ ((64 * x1) + ((x4 + x5) % x2)) ∧ (((64 * x1) + ((x4 + x5) % x2)) : Int) < 576 ∧ (-2147483648 ≤ ((64 * x1) : Int) ∧ ((64 * x1) : Int) < 2147483648) ∧ (-2147483648 ≤ ((x3 + x5) : Int) ∧ ((x3 + x5) : Int) < 2147483648) ∧ (0 : Int) ≤ (x3 + x5) ∧ (0 : Int) < x2 ∧ (-2147483648 ≤ (((64 * x1) + ((x3 + x5) % x2)) : Int) ∧ (((64 * x1) + ((x3 + x5) % x2)) : Int) < 2147483648) ∧ (0 : Int) ≤ ((64 * x1) + ((x3 + x5) % x2)) ∧ (((64 * x1) + ((x3 + x5) % x2)) : Int) < 576) ∧ (((h 73 ((64 * x1) + ((x4 + x5) % x2))) ≠ (h 73 ((64 * x1) + ((x3 + x5) % x2))) → ((x2 ≤ x5 → ((-2147483648 ≤ ((x4 + 1) : Int) ∧ ((x4 + 1) : Int) < 2147483648)) ∧ am_V M_X11_turnAt kc ks 22 [aR 72, aI x1, aI x2, aI x3, aI (x4 + 1), aU] [] am_R0 h Q X) ∧ (x5 < x2 → ((-2147483648 ≤ ((64 * x1) : Int) ∧ ((64 * x1) : Int) < 2147483648) ∧ (-2147483648 ≤ ((x4 + x5) : Int) ∧ ((x4 + x5) : Int) < 2147483648) ∧ (0 : Int) ≤ (x4 + x5) ∧ (0 : Int) < x2 ∧ (-2147483648 ≤ (((64 * x1) + ((x4 + x5) % x2)) : Int) ∧ (((64 * x1) + ((x4 + x5) % x2)) : Int) < 2147483648) ∧ (0 : Int) ≤ ((64 * x1) + ((x4 + x5) % x2)) ∧ (((64 * x1) + ((x4 + x5) % x2)) : Int) < 576 ∧ (-2147483648 ≤ ((64 * x1) : Int) ∧ ((64 * x1) : Int) < 2147483648) ∧ (-2147483648 ≤ ((x3 + x5) : Int) ∧ ((x3 + x5) : Int) < 2147483648) ∧ (0 : Int) ≤ (x3 + x5) ∧ (0 : Int) < x2 ∧ (-2147483648 ≤ (((64 * x1) + ((x3 + x5) % x2)) : Int) ∧ (((64 * x1) + ((x3 + x5) % x2)) : Int) < 2147483648) ∧ (0 : Int) ≤ ((64 * x1) + ((x3 + x5) % x2)) ∧ (((64 * x1) + ((x3 + x5) % x2)) : Int) < 576) ∧ (((h 73 ((64 * x1) + ((x3 + x5) % x2))) ≤ (h 73 ((64 * x1) + ((x4 + x5) % x2))) → ((-2147483648 ≤ ((x4 + 1) : Int) ∧ ((x4 + 1) : Int) < 2147483648)) ∧ am_V M_X11_turnAt kc ks 22 [aR 72, aI x1, aI x2, aI x3, aI (x4 + 1), aU] [] am_R0 h Q X) ∧ ((h 73 ((64 * x1) + ((x4 + x5) % x2))) < (h 73 ((64 * x1) + ((x3 + x5) % x2))) → ((-2147483648 ≤ ((x4 + 1) : Int) ∧ ((x4 + 1) : Int) < 2147483648)) ∧ am_V M_X11_turnAt kc ks 22 [aR 72, aI x1, aI x2, aI x4, aI (x4 + 1), aU] [] am_R0 h Q X))))) ∧ ((h 73 ((64 * x1) + ((x4 + x5) % x2))) = (h 73 ((64 * x1) + ((x3 + x5) % x2))) → ((-2147483648 ≤ ((x5 + 1) : Int) ∧ ((x5 + 1) : Int) < 2147483648)) ∧ am_V M_X11_turnAt kc ks 31 [aR 72, aI x1, aI x2, aI x3, aI x4, aI (x5 + 1)] [] am_R0 h Q X))))) :
    am_V M_X11_turnAt kc ks 31 [aR 72, aI x1, aI x2, aI x3, aI x4, aI x5] [] am_R0 h Q X := by
  refine v_iload dX11_turnAt_31 rfl ?_
  refine v_iload_n dX11_turnAt_33 rfl rfl ?_
  refine v_icmp_ge (tgt := 79) dX11_turnAt_34 (by decide) (fun z => ?_) (fun z => ?_)
  · have k := k.1 z
    refine v_iload dX11_turnAt_79 rfl ?_
    refine v_iload_n dX11_turnAt_81 rfl rfl ?_
    refine v_icmp_ge (tgt := 126) dX11_turnAt_82 (by decide) (fun z => ?_) (fun z => ?_)
    · have k := k.1 z
      obtain ⟨b2_1, k⟩ := k
      refine v_iload_n dX11_turnAt_126 rfl rfl ?_
      refine v_istore_n (E2 := [aR 72, aI x1, aI x2, aI x3, aI x4, aI x5]) dX11_turnAt_127 rfl (Nat.le_of_ble_eq_true rfl) rfl ?_
      refine v_iinc (E2 := [aR 72, aI x1, aI x2, aI x3, aI (x4 + 1), aI x5]) dX11_turnAt_128 rfl b2_1 rfl ?_
      refine v_goto (tgt := 22) dX11_turnAt_131 (by decide) ?_
      refine v_weak (E2 := [aR 72, aI x1, aI x2, aI x3, aI (x4 + 1), aU]) ⟨Or.inl rfl, ⟨Or.inl rfl, ⟨Or.inl rfl, ⟨Or.inl rfl, ⟨Or.inl rfl, ⟨Or.inr rfl, trivial⟩⟩⟩⟩⟩⟩ ?_
      exact k
    · have k := k.2 z
      obtain ⟨⟨b2_1, b2_2, b2_3, b2_4, b2_5, b2_6, b2_7, b2_8, b2_9, b2_10, b2_11, b2_12, b2_13, b2_14⟩, k⟩ := k
      refine v_aload_n dX11_turnAt_85 rfl rfl ?_
      refine v_getR (x := 73) dX11_turnAt_86 fl_X11_7 am_clsA rfl rfl rfl ?_
      refine v_bipush dX11_turnAt_89 (by decide) (by decide) ?_
      refine v_iload_n dX11_turnAt_91 rfl rfl ?_
      refine v_imul dX11_turnAt_92 b2_1 ?_
      refine v_iload dX11_turnAt_93 rfl ?_
      refine v_iload dX11_turnAt_95 rfl ?_
      refine v_iadd dX11_turnAt_97 b2_2 ?_
      refine v_iload_n dX11_turnAt_98 rfl rfl ?_
      refine v_irem dX11_turnAt_99 b2_3 b2_4 ?_
      refine v_iadd dX11_turnAt_100 b2_5 ?_
      refine v_cald dX11_turnAt_101 rfl b2_6 b2_7 ?_
      refine v_aload_n dX11_turnAt_102 rfl rfl ?_
      refine v_getR (x := 73) dX11_turnAt_103 fl_X11_7 am_clsA rfl rfl rfl ?_
      refine v_bipush dX11_turnAt_106 (by decide) (by decide) ?_
      refine v_iload_n dX11_turnAt_108 rfl rfl ?_
      refine v_imul dX11_turnAt_109 b2_8 ?_
      refine v_iload_n dX11_turnAt_110 rfl rfl ?_
      refine v_iload dX11_turnAt_111 rfl ?_
      refine v_iadd dX11_turnAt_113 b2_9 ?_
      refine v_iload_n dX11_turnAt_114 rfl rfl ?_
      refine v_irem dX11_turnAt_115 b2_10 b2_11 ?_
      refine v_iadd dX11_turnAt_116 b2_12 ?_
      refine v_cald dX11_turnAt_117 rfl b2_13 b2_14 ?_
      refine v_icmp_ge (tgt := 126) dX11_turnAt_118 (by decide) (fun z => ?_) (fun z => ?_)
      · have k := k.1 z
        obtain ⟨b3_1, k⟩ := k
        refine v_iload_n dX11_turnAt_126 rfl rfl ?_
        refine v_istore_n (E2 := [aR 72, aI x1, aI x2, aI x3, aI x4, aI x5]) dX11_turnAt_127 rfl (Nat.le_of_ble_eq_true rfl) rfl ?_
        refine v_iinc (E2 := [aR 72, aI x1, aI x2, aI x3, aI (x4 + 1), aI x5]) dX11_turnAt_128 rfl b3_1 rfl ?_
        refine v_goto (tgt := 22) dX11_turnAt_131 (by decide) ?_
        refine v_weak (E2 := [aR 72, aI x1, aI x2, aI x3, aI (x4 + 1), aU]) ⟨Or.inl rfl, ⟨Or.inl rfl, ⟨Or.inl rfl, ⟨Or.inl rfl, ⟨Or.inl rfl, ⟨Or.inr rfl, trivial⟩⟩⟩⟩⟩⟩ ?_
        exact k
      · have k := k.2 z
        obtain ⟨b3_1, k⟩ := k
        refine v_iload dX11_turnAt_121 rfl ?_
        refine v_goto (tgt := 127) dX11_turnAt_123 (by decide) ?_
        refine v_istore_n (E2 := [aR 72, aI x1, aI x2, aI x4, aI x4, aI x5]) dX11_turnAt_127 rfl (Nat.le_of_ble_eq_true rfl) rfl ?_
        refine v_iinc (E2 := [aR 72, aI x1, aI x2, aI x4, aI (x4 + 1), aI x5]) dX11_turnAt_128 rfl b3_1 rfl ?_
        refine v_goto (tgt := 22) dX11_turnAt_131 (by decide) ?_
        refine v_weak (E2 := [aR 72, aI x1, aI x2, aI x4, aI (x4 + 1), aU]) ⟨Or.inl rfl, ⟨Or.inl rfl, ⟨Or.inl rfl, ⟨Or.inl rfl, ⟨Or.inl rfl, ⟨Or.inr rfl, trivial⟩⟩⟩⟩⟩⟩ ?_
        exact k
  · have k := k.2 z
    obtain ⟨⟨b1_1, b1_2, b1_3, b1_4, b1_5, b1_6, b1_7, b1_8, b1_9, b1_10, b1_11, b1_12, b1_13, b1_14⟩, k⟩ := k
    refine v_aload_n dX11_turnAt_37 rfl rfl ?_
    refine v_getR (x := 73) dX11_turnAt_38 fl_X11_7 am_clsA rfl rfl rfl ?_
    refine v_bipush dX11_turnAt_41 (by decide) (by decide) ?_
    refine v_iload_n dX11_turnAt_43 rfl rfl ?_
    refine v_imul dX11_turnAt_44 b1_1 ?_
    refine v_iload dX11_turnAt_45 rfl ?_
    refine v_iload dX11_turnAt_47 rfl ?_
    refine v_iadd dX11_turnAt_49 b1_2 ?_
    refine v_iload_n dX11_turnAt_50 rfl rfl ?_
    refine v_irem dX11_turnAt_51 b1_3 b1_4 ?_
    refine v_iadd dX11_turnAt_52 b1_5 ?_
    refine v_cald dX11_turnAt_53 rfl b1_6 b1_7 ?_
    refine v_aload_n dX11_turnAt_54 rfl rfl ?_
    refine v_getR (x := 73) dX11_turnAt_55 fl_X11_7 am_clsA rfl rfl rfl ?_
    refine v_bipush dX11_turnAt_58 (by decide) (by decide) ?_
    refine v_iload_n dX11_turnAt_60 rfl rfl ?_
    refine v_imul dX11_turnAt_61 b1_8 ?_
    refine v_iload_n dX11_turnAt_62 rfl rfl ?_
    refine v_iload dX11_turnAt_63 rfl ?_
    refine v_iadd dX11_turnAt_65 b1_9 ?_
    refine v_iload_n dX11_turnAt_66 rfl rfl ?_
    refine v_irem dX11_turnAt_67 b1_10 b1_11 ?_
    refine v_iadd dX11_turnAt_68 b1_12 ?_
    refine v_cald dX11_turnAt_69 rfl b1_13 b1_14 ?_
    refine v_icmp_ne (tgt := 79) dX11_turnAt_70 (by decide) (fun z => ?_) (fun z => ?_)
    · have k := k.1 z
      refine v_iload dX11_turnAt_79 rfl ?_
      refine v_iload_n dX11_turnAt_81 rfl rfl ?_
      refine v_icmp_ge (tgt := 126) dX11_turnAt_82 (by decide) (fun z => ?_) (fun z => ?_)
      · have k := k.1 z
        obtain ⟨b3_1, k⟩ := k
        refine v_iload_n dX11_turnAt_126 rfl rfl ?_
        refine v_istore_n (E2 := [aR 72, aI x1, aI x2, aI x3, aI x4, aI x5]) dX11_turnAt_127 rfl (Nat.le_of_ble_eq_true rfl) rfl ?_
        refine v_iinc (E2 := [aR 72, aI x1, aI x2, aI x3, aI (x4 + 1), aI x5]) dX11_turnAt_128 rfl b3_1 rfl ?_
        refine v_goto (tgt := 22) dX11_turnAt_131 (by decide) ?_
        refine v_weak (E2 := [aR 72, aI x1, aI x2, aI x3, aI (x4 + 1), aU]) ⟨Or.inl rfl, ⟨Or.inl rfl, ⟨Or.inl rfl, ⟨Or.inl rfl, ⟨Or.inl rfl, ⟨Or.inr rfl, trivial⟩⟩⟩⟩⟩⟩ ?_
        exact k
      · have k := k.2 z
        obtain ⟨⟨b3_1, b3_2, b3_3, b3_4, b3_5, b3_6, b3_7, b3_8, b3_9, b3_10, b3_11, b3_12, b3_13, b3_14⟩, k⟩ := k
        refine v_aload_n dX11_turnAt_85 rfl rfl ?_
        refine v_getR (x := 73) dX11_turnAt_86 fl_X11_7 am_clsA rfl rfl rfl ?_
        refine v_bipush dX11_turnAt_89 (by decide) (by decide) ?_
        refine v_iload_n dX11_turnAt_91 rfl rfl ?_
        refine v_imul dX11_turnAt_92 b3_1 ?_
        refine v_iload dX11_turnAt_93 rfl ?_
        refine v_iload dX11_turnAt_95 rfl ?_
        refine v_iadd dX11_turnAt_97 b3_2 ?_
        refine v_iload_n dX11_turnAt_98 rfl rfl ?_
        refine v_irem dX11_turnAt_99 b3_3 b3_4 ?_
        refine v_iadd dX11_turnAt_100 b3_5 ?_
        refine v_cald dX11_turnAt_101 rfl b3_6 b3_7 ?_
        refine v_aload_n dX11_turnAt_102 rfl rfl ?_
        refine v_getR (x := 73) dX11_turnAt_103 fl_X11_7 am_clsA rfl rfl rfl ?_
        refine v_bipush dX11_turnAt_106 (by decide) (by decide) ?_
        refine v_iload_n dX11_turnAt_108 rfl rfl ?_
        refine v_imul dX11_turnAt_109 b3_8 ?_
        refine v_iload_n dX11_turnAt_110 rfl rfl ?_
        refine v_iload dX11_turnAt_111 rfl ?_
        refine v_iadd dX11_turnAt_113 b3_9 ?_
        refine v_iload_n dX11_turnAt_114 rfl rfl ?_
        refine v_irem dX11_turnAt_115 b3_10 b3_11 ?_
        refine v_iadd dX11_turnAt_116 b3_12 ?_
        refine v_cald dX11_turnAt_117 rfl b3_13 b3_14 ?_
        refine v_icmp_ge (tgt := 126) dX11_turnAt_118 (by decide) (fun z => ?_) (fun z => ?_)
        · have k := k.1 z
          obtain ⟨b4_1, k⟩ := k
          refine v_iload_n dX11_turnAt_126 rfl rfl ?_
          refine v_istore_n (E2 := [aR 72, aI x1, aI x2, aI x3, aI x4, aI x5]) dX11_turnAt_127 rfl (Nat.le_of_ble_eq_true rfl) rfl ?_
          refine v_iinc (E2 := [aR 72, aI x1, aI x2, aI x3, aI (x4 + 1), aI x5]) dX11_turnAt_128 rfl b4_1 rfl ?_
          refine v_goto (tgt := 22) dX11_turnAt_131 (by decide) ?_
          refine v_weak (E2 := [aR 72, aI x1, aI x2, aI x3, aI (x4 + 1), aU]) ⟨Or.inl rfl, ⟨Or.inl rfl, ⟨Or.inl rfl, ⟨Or.inl rfl, ⟨Or.inl rfl, ⟨Or.inr rfl, trivial⟩⟩⟩⟩⟩⟩ ?_
          exact k
        · have k := k.2 z
          obtain ⟨b4_1, k⟩ := k
          refine v_iload dX11_turnAt_121 rfl ?_
          refine v_goto (tgt := 127) dX11_turnAt_123 (by decide) ?_
          refine v_istore_n (E2 := [aR 72, aI x1, aI x2, aI x4, aI x4, aI x5]) dX11_turnAt_127 rfl (Nat.le_of_ble_eq_true rfl) rfl ?_
          refine v_iinc (E2 := [aR 72, aI x1, aI x2, aI x4, aI (x4 + 1), aI x5]) dX11_turnAt_128 rfl b4_1 rfl ?_
          refine v_goto (tgt := 22) dX11_turnAt_131 (by decide) ?_
          refine v_weak (E2 := [aR 72, aI x1, aI x2, aI x4, aI (x4 + 1), aU]) ⟨Or.inl rfl, ⟨Or.inl rfl, ⟨Or.inl rfl, ⟨Or.inl rfl, ⟨Or.inl rfl, ⟨Or.inr rfl, trivial⟩⟩⟩⟩⟩⟩ ?_
          exact k
    · have k := k.2 z
      obtain ⟨b2_1, k⟩ := k
      refine v_iinc (E2 := [aR 72, aI x1, aI x2, aI x3, aI x4, aI (x5 + 1)]) dX11_turnAt_73 rfl b2_1 rfl ?_
      refine v_goto (tgt := 31) dX11_turnAt_76 (by decide) ?_
      exact k
theorem S_X11_parts_0 {kc ks : Nat} {h : Hh} {Q : PQ} {X : PX} {x1 : Int}
    (k : am_V M_X11_isNone 0 0 0 [aR 72, aI x1] [] am_R0 h (fun v ρ' h' => am_V M_X11_parts kc ks 5 [aR 72, aI x1] (v ++ []) ρ' h' Q X) X) :
    am_V M_X11_parts kc ks 0 [aR 72, aI x1] [] am_R0 h Q X := by
  refine v_aload_n dX11_parts_0 rfl rfl ?_
  refine v_iload_n dX11_parts_1 rfl rfl ?_
  exact v_callV (j := M_X11_isNone) (As := [aI x1]) (st := []) (E0 := [aR 72, aI x1]) (a := 72) (ci := 9) (N := 11) (q9 := (RX11, TX11, 11)) dX11_parts_2 ml_X11_68 J_X11_isNone (Nat.zero_le _) (Nat.zero_le _) (Nat.le_of_ble_eq_true rfl) rfl (Nat.le_of_ble_eq_true rfl) (List.forall_mem_cons.mpr ⟨rfl, List.forall_mem_cons.mpr ⟨rfl, fun _ h9 => absurd h9 List.not_mem_nil⟩⟩) (Nat.le_of_ble_eq_true rfl) rfl rfl rfl rfl pn_X11_isNone rfl k
theorem S_X11_parts_5 {kc ks : Nat} {h : Hh} {Q : PQ} {X : PX} {x1 : Int} {xs0 : Int}
    (k : ((xs0 = 0 → am_V M_X11_findParts 0 0 0 [aR 72, aI x1, aU, aU, aU] [] am_R0 h (fun v ρ' h' => am_V M_X11_parts kc ks 17 [aU, aU] (v ++ []) ρ' h' Q X) X) ∧ (xs0 ≠ 0 → Q [aI 0] am_R0 h))) :
    am_V M_X11_parts kc ks 5 [aR 72, aI x1] [aI xs0] am_R0 h Q X := by
  refine v_if_eq (tgt := 12) dX11_parts_5 (by decide) (fun z => ?_) (fun z => ?_)
  · have k := k.1 z
    refine v_aload_n dX11_parts_12 rfl rfl ?_
    refine v_iload_n dX11_parts_13 rfl rfl ?_
    refine v_weak (E2 := [aU, aU]) ⟨Or.inr rfl, ⟨Or.inr rfl, trivial⟩⟩ ?_
    exact v_callV (j := M_X11_findParts) (As := [aI x1]) (st := []) (E0 := [aR 72, aI x1, aU, aU, aU]) (a := 72) (ci := 9) (N := 11) (q9 := (RX11, TX11, 11)) dX11_parts_14 ml_X11_173 J_X11_findParts (Nat.zero_le _) (Nat.zero_le _) (Nat.le_of_ble_eq_true rfl) rfl (Nat.le_of_ble_eq_true rfl) (List.forall_mem_cons.mpr ⟨rfl, List.forall_mem_cons.mpr ⟨rfl, fun _ h9 => absurd h9 List.not_mem_nil⟩⟩) (Nat.le_of_ble_eq_true rfl) rfl rfl rfl rfl pn_X11_findParts rfl k
  · have k := k.2 z
    refine v_iconst dX11_parts_8 ⟨by decide, by decide⟩ ?_
    refine v_goto (tgt := 17) dX11_parts_9 (by decide) ?_
    exact v_iret dX11_parts_17 rfl rfl k
theorem S_X11_parts_17 {kc ks : Nat} {h : Hh} {Q : PQ} {X : PX} {xs0 : Int}
    (k : Q [aI xs0] am_R0 h) :
    am_V M_X11_parts kc ks 17 [aU, aU] [aI xs0] am_R0 h Q X := by
  exact v_iret dX11_parts_17 rfl rfl k
theorem S_X11_partAt_0 {kc ks : Nat} {h : Hh} {Q : PQ} {X : PX} {x1 : Int} {x2 : Int}
    (k : am_V M_X11_isText 0 0 0 [aR 72, aI x1] [] am_R0 h (fun v ρ' h' => am_V M_X11_partAt kc ks 5 [aR 72, aI x1, aI x2, aU] (v ++ []) ρ' h' Q X) X) :
    am_V M_X11_partAt kc ks 0 [aR 72, aI x1, aI x2, aU] [] am_R0 h Q X := by
  refine v_aload_n dX11_partAt_0 rfl rfl ?_
  refine v_iload_n dX11_partAt_1 rfl rfl ?_
  exact v_callV (j := M_X11_isText) (As := [aI x1]) (st := []) (E0 := [aR 72, aI x1]) (a := 72) (ci := 9) (N := 11) (q9 := (RX11, TX11, 11)) dX11_partAt_2 ml_X11_46 J_X11_isText (Nat.zero_le _) (Nat.zero_le _) (Nat.le_of_ble_eq_true rfl) rfl (Nat.le_of_ble_eq_true rfl) (List.forall_mem_cons.mpr ⟨rfl, List.forall_mem_cons.mpr ⟨rfl, fun _ h9 => absurd h9 List.not_mem_nil⟩⟩) (Nat.le_of_ble_eq_true rfl) rfl rfl rfl rfl pn_X11_isText rfl k
theorem S_X11_partAt_5 {kc ks : Nat} {h : Hh} {Q : PQ} {X : PX} {x1 : Int} {x2 : Int} {xs0 : Int}
    (k : ((xs0 = 0 → am_V M_X11_isWrong 0 0 0 [aR 72, aI 1] [] am_R0 h (fun v ρ' h' => am_V M_X11_partAt kc ks 42 [aR 72, aU, aI x2, aU] (v ++ []) ρ' h' Q X) X) ∧ (xs0 ≠ 0 → am_V M_X11_findParts 0 0 0 [aR 72, aI x1, aU, aU, aU] [] am_R0 h (fun v ρ' h' => am_V M_X11_partAt kc ks 15 [aR 72, aU, aI x2, aU] (v ++ [aI 0, aI x2]) ρ' h' Q X) X))) :
    am_V M_X11_partAt kc ks 5 [aR 72, aI x1, aI x2, aU] [aI xs0] am_R0 h Q X := by
  refine v_if_eq (tgt := 27) dX11_partAt_5 (by decide) (fun z => ?_) (fun z => ?_)
  · have k := k.1 z
    refine v_iconst dX11_partAt_27 ⟨by decide, by decide⟩ ?_
    refine v_istore_n (E2 := [aR 72, aI x1, aI x2, aI 0]) dX11_partAt_28 rfl (Nat.le_of_ble_eq_true rfl) rfl ?_
    refine v_aload_n dX11_partAt_29 rfl rfl ?_
    refine v_iload_n dX11_partAt_30 rfl rfl ?_
    refine v_if_eq (tgt := 38) dX11_partAt_31 (by decide) (fun z => ?_) (fun z => absurd z (by decide))
    refine v_iconst dX11_partAt_38 ⟨by decide, by decide⟩ ?_
    refine v_weak (E2 := [aR 72, aU, aI x2, aU]) ⟨Or.inl rfl, ⟨Or.inr rfl, ⟨Or.inl rfl, ⟨Or.inr rfl, trivial⟩⟩⟩⟩ ?_
    exact v_callV (j := M_X11_isWrong) (As := [aI 1]) (st := []) (E0 := [aR 72, aI 1]) (a := 72) (ci := 9) (N := 11) (q9 := (RX11, TX11, 11)) dX11_partAt_39 ml_X11_57 J_X11_isWrong (Nat.zero_le _) (Nat.zero_le _) (Nat.le_of_ble_eq_true rfl) rfl (Nat.le_of_ble_eq_true rfl) (List.forall_mem_cons.mpr ⟨rfl, List.forall_mem_cons.mpr ⟨rfl, fun _ h9 => absurd h9 List.not_mem_nil⟩⟩) (Nat.le_of_ble_eq_true rfl) rfl rfl rfl rfl pn_X11_isWrong rfl k
  · have k := k.2 z
    refine v_iload_n dX11_partAt_8 rfl rfl ?_
    refine v_iconst dX11_partAt_9 ⟨by decide, by decide⟩ ?_
    refine v_aload_n dX11_partAt_10 rfl rfl ?_
    refine v_iload_n dX11_partAt_11 rfl rfl ?_
    refine v_weak (E2 := [aR 72, aU, aI x2, aU]) ⟨Or.inl rfl, ⟨Or.inr rfl, ⟨Or.inl rfl, ⟨Or.inl rfl, trivial⟩⟩⟩⟩ ?_
    exact v_callV (j := M_X11_findParts) (As := [aI x1]) (st := [aI 0, aI x2]) (E0 := [aR 72, aI x1, aU, aU, aU]) (a := 72) (ci := 9) (N := 11) (q9 := (RX11, TX11, 11)) dX11_partAt_12 ml_X11_173 J_X11_findParts (Nat.zero_le _) (Nat.zero_le _) (Nat.le_of_ble_eq_true rfl) rfl (Nat.le_of_ble_eq_true rfl) (List.forall_mem_cons.mpr ⟨rfl, List.forall_mem_cons.mpr ⟨rfl, fun _ h9 => absurd h9 List.not_mem_nil⟩⟩) (Nat.le_of_ble_eq_true rfl) rfl rfl rfl rfl pn_X11_findParts rfl k
theorem S_X11_partAt_42 {kc ks : Nat} {h : Hh} {Q : PQ} {X : PX} {x2 : Int} {xs0 : Int}
    (k : ((xs0 = 0 → ((0 : Int) ≤ x2 ∧ (x2 : Int) < 65) ∧ Q [aI (h 79 x2)] am_R0 h) ∧ (xs0 ≠ 0 → Q [aI 0] am_R0 h))) :
    am_V M_X11_partAt kc ks 42 [aR 72, aU, aI x2, aU] [aI xs0] am_R0 h Q X := by
  refine v_if_eq (tgt := 49) dX11_partAt_42 (by decide) (fun z => ?_) (fun z => ?_)
  · have k := k.1 z
    obtain ⟨⟨b1_1, b1_2⟩, k⟩ := k
    refine v_aload_n dX11_partAt_49 rfl rfl ?_
    refine v_getR (x := 79) dX11_partAt_50 fl_X11_29 am_clsA rfl rfl rfl ?_
    refine v_iload_n dX11_partAt_53 rfl rfl ?_
    refine v_iald dX11_partAt_54 rfl b1_1 b1_2 ?_
    exact v_iret dX11_partAt_55 rfl rfl k
  · have k := k.2 z
    refine v_iconst dX11_partAt_45 ⟨by decide, by decide⟩ ?_
    refine v_goto (tgt := 55) dX11_partAt_46 (by decide) ?_
    exact v_iret dX11_partAt_55 rfl rfl k
theorem S_X11_partAt_15 {kc ks : Nat} {h : Hh} {Q : PQ} {X : PX} {x2 : Int} {xs0 : Int} {xs1 : Int} {xs2 : Int}
    (k : ((-2147483648 ≤ ((xs0 - 1) : Int) ∧ ((xs0 - 1) : Int) < 2147483648)) ∧ am_V M_X11_isBetween 0 0 0 [aI xs2, aI xs1, aI (xs0 - 1)] [] am_R0 h (fun v ρ' h' => am_V M_X11_partAt kc ks 20 [aR 72, aU, aI x2, aU] (v ++ []) ρ' h' Q X) X) :
    am_V M_X11_partAt kc ks 15 [aR 72, aU, aI x2, aU] [aI xs0, aI xs1, aI xs2] am_R0 h Q X := by
  obtain ⟨b0_1, k⟩ := k
  refine v_iconst dX11_partAt_15 ⟨by decide, by decide⟩ ?_
  refine v_isub dX11_partAt_16 b0_1 ?_
  exact v_callS (j := M_X11_isBetween) (As := [aI xs2, aI xs1, aI (xs0 - 1)]) (st := []) (E0 := [aI xs2, aI xs1, aI (xs0 - 1)]) dX11_partAt_17 ms_X11_42 J_X11_isBetween (Nat.zero_le _) (Nat.zero_le _) (Nat.le_of_ble_eq_true rfl) rfl (Nat.le_of_ble_eq_true rfl) (List.forall_mem_cons.mpr ⟨rfl, List.forall_mem_cons.mpr ⟨rfl, List.forall_mem_cons.mpr ⟨rfl, fun _ h9 => absurd h9 List.not_mem_nil⟩⟩⟩) (Nat.le_of_ble_eq_true rfl) rfl pn_X11_isBetween rfl k
theorem S_X11_partAt_20 {kc ks : Nat} {h : Hh} {Q : PQ} {X : PX} {x2 : Int} {xs0 : Int}
    (k : ((xs0 = 0 → am_V M_X11_isWrong 0 0 0 [aR 72, aI 1] [] am_R0 h (fun v ρ' h' => am_V M_X11_partAt kc ks 42 [aR 72, aU, aI x2, aU] (v ++ []) ρ' h' Q X) X) ∧ (xs0 ≠ 0 → am_V M_X11_isWrong 0 0 0 [aR 72, aI 0] [] am_R0 h (fun v ρ' h' => am_V M_X11_partAt kc ks 42 [aR 72, aU, aI x2, aU] (v ++ []) ρ' h' Q X) X))) :
    am_V M_X11_partAt kc ks 20 [aR 72, aU, aI x2, aU] [aI xs0] am_R0 h Q X := by
  refine v_if_eq (tgt := 27) dX11_partAt_20 (by decide) (fun z => ?_) (fun z => ?_)
  · have k := k.1 z
    refine v_iconst dX11_partAt_27 ⟨by decide, by decide⟩ ?_
    refine v_istore_n (E2 := [aR 72, aU, aI x2, aI 0]) dX11_partAt_28 rfl (Nat.le_of_ble_eq_true rfl) rfl ?_
    refine v_aload_n dX11_partAt_29 rfl rfl ?_
    refine v_iload_n dX11_partAt_30 rfl rfl ?_
    refine v_if_eq (tgt := 38) dX11_partAt_31 (by decide) (fun z => ?_) (fun z => absurd z (by decide))
    refine v_iconst dX11_partAt_38 ⟨by decide, by decide⟩ ?_
    refine v_weak (E2 := [aR 72, aU, aI x2, aU]) ⟨Or.inl rfl, ⟨Or.inl rfl, ⟨Or.inl rfl, ⟨Or.inr rfl, trivial⟩⟩⟩⟩ ?_
    exact v_callV (j := M_X11_isWrong) (As := [aI 1]) (st := []) (E0 := [aR 72, aI 1]) (a := 72) (ci := 9) (N := 11) (q9 := (RX11, TX11, 11)) dX11_partAt_39 ml_X11_57 J_X11_isWrong (Nat.zero_le _) (Nat.zero_le _) (Nat.le_of_ble_eq_true rfl) rfl (Nat.le_of_ble_eq_true rfl) (List.forall_mem_cons.mpr ⟨rfl, List.forall_mem_cons.mpr ⟨rfl, fun _ h9 => absurd h9 List.not_mem_nil⟩⟩) (Nat.le_of_ble_eq_true rfl) rfl rfl rfl rfl pn_X11_isWrong rfl k
  · have k := k.2 z
    refine v_iconst dX11_partAt_23 ⟨by decide, by decide⟩ ?_
    refine v_goto (tgt := 28) dX11_partAt_24 (by decide) ?_
    refine v_istore_n (E2 := [aR 72, aU, aI x2, aI 1]) dX11_partAt_28 rfl (Nat.le_of_ble_eq_true rfl) rfl ?_
    refine v_aload_n dX11_partAt_29 rfl rfl ?_
    refine v_iload_n dX11_partAt_30 rfl rfl ?_
    refine v_if_eq (tgt := 38) dX11_partAt_31 (by decide) (fun z => absurd z (by decide)) (fun z => ?_)
    refine v_iconst dX11_partAt_34 ⟨by decide, by decide⟩ ?_
    refine v_goto (tgt := 39) dX11_partAt_35 (by decide) ?_
    refine v_weak (E2 := [aR 72, aU, aI x2, aU]) ⟨Or.inl rfl, ⟨Or.inl rfl, ⟨Or.inl rfl, ⟨Or.inr rfl, trivial⟩⟩⟩⟩ ?_
    exact v_callV (j := M_X11_isWrong) (As := [aI 0]) (st := []) (E0 := [aR 72, aI 0]) (a := 72) (ci := 9) (N := 11) (q9 := (RX11, TX11, 11)) dX11_partAt_39 ml_X11_57 J_X11_isWrong (Nat.zero_le _) (Nat.zero_le _) (Nat.le_of_ble_eq_true rfl) rfl (Nat.le_of_ble_eq_true rfl) (List.forall_mem_cons.mpr ⟨rfl, List.forall_mem_cons.mpr ⟨rfl, fun _ h9 => absurd h9 List.not_mem_nil⟩⟩) (Nat.le_of_ble_eq_true rfl) rfl rfl rfl rfl pn_X11_isWrong rfl k
theorem S_X11_longestAhead_0 {kc ks : Nat} {h : Hh} {Q : PQ} {X : PX} {x1 : Int} {x2 : Int}
    (k : ((0 : Int) ≤ x1 ∧ (x1 : Int) < 9 ∧ (-2147483648 ≤ (((h 74 x1) - x2) : Int) ∧ (((h 74 x1) - x2) : Int) < 2147483648)) ∧ am_V M_X11_newWords 0 0 0 [aR 72, aI x1, aI x2, aU, aU, aU] [] am_R0 h (fun v ρ' h' => am_V M_X11_longestAhead kc ks 14 [aU, aU, aU] (v ++ [aI ((h 74 x1) - x2)]) ρ' h' Q X) X) :
    am_V M_X11_longestAhead kc ks 0 [aR 72, aI x1, aI x2] [] am_R0 h Q X := by
  obtain ⟨⟨b0_1, b0_2, b0_3⟩, k⟩ := k
  refine v_aload_n dX11_longestAhead_0 rfl rfl ?_
  refine v_getR (x := 74) dX11_longestAhead_1 fl_X11_13 am_clsA rfl rfl rfl ?_
  refine v_iload_n dX11_longestAhead_4 rfl rfl ?_
  refine v_iald dX11_longestAhead_5 rfl b0_1 b0_2 ?_
  refine v_iload_n dX11_longestAhead_6 rfl rfl ?_
  refine v_isub dX11_longestAhead_7 b0_3 ?_
  refine v_aload_n dX11_longestAhead_8 rfl rfl ?_
  refine v_iload_n dX11_longestAhead_9 rfl rfl ?_
  refine v_iload_n dX11_longestAhead_10 rfl rfl ?_
  refine v_weak (E2 := [aU, aU, aU]) ⟨Or.inr rfl, ⟨Or.inr rfl, ⟨Or.inr rfl, trivial⟩⟩⟩ ?_
  exact v_callV (j := M_X11_newWords) (As := [aI x1, aI x2]) (st := [aI ((h 74 x1) - x2)]) (E0 := [aR 72, aI x1, aI x2, aU, aU, aU]) (a := 72) (ci := 9) (N := 11) (q9 := (RX11, TX11, 11)) dX11_longestAhead_11 ml_X11_117 J_X11_newWords (Nat.zero_le _) (Nat.zero_le _) (Nat.le_of_ble_eq_true rfl) rfl (Nat.le_of_ble_eq_true rfl) (List.forall_mem_cons.mpr ⟨rfl, List.forall_mem_cons.mpr ⟨rfl, List.forall_mem_cons.mpr ⟨rfl, fun _ h9 => absurd h9 List.not_mem_nil⟩⟩⟩) (Nat.le_of_ble_eq_true rfl) rfl rfl rfl rfl pn_X11_newWords rfl k
theorem S_X11_longestAhead_14 {kc ks : Nat} {h : Hh} {Q : PQ} {X : PX} {xs0 : Int} {xs1 : Int}
    (k : ((-2147483648 ≤ ((xs1 - xs0) : Int) ∧ ((xs1 - xs0) : Int) < 2147483648)) ∧ Q [aI (xs1 - xs0)] am_R0 h) :
    am_V M_X11_longestAhead kc ks 14 [aU, aU, aU] [aI xs0, aI xs1] am_R0 h Q X := by
  obtain ⟨b0_1, k⟩ := k
  refine v_isub dX11_longestAhead_14 b0_1 ?_
  exact v_iret dX11_longestAhead_15 rfl rfl k
theorem S_X11_pieces_0 {kc ks : Nat} {h : Hh} {Q : PQ} {X : PX} {x1 : Int}
    (k : am_V M_X11_isNone 0 0 0 [aR 72, aI x1] [] am_R0 h (fun v ρ' h' => am_V M_X11_pieces kc ks 5 [aR 72, aI x1] (v ++ []) ρ' h' Q X) X) :
    am_V M_X11_pieces kc ks 0 [aR 72, aI x1] [] am_R0 h Q X := by
  refine v_aload_n dX11_pieces_0 rfl rfl ?_
  refine v_iload_n dX11_pieces_1 rfl rfl ?_
  exact v_callV (j := M_X11_isNone) (As := [aI x1]) (st := []) (E0 := [aR 72, aI x1]) (a := 72) (ci := 9) (N := 11) (q9 := (RX11, TX11, 11)) dX11_pieces_2 ml_X11_68 J_X11_isNone (Nat.zero_le _) (Nat.zero_le _) (Nat.le_of_ble_eq_true rfl) rfl (Nat.le_of_ble_eq_true rfl) (List.forall_mem_cons.mpr ⟨rfl, List.forall_mem_cons.mpr ⟨rfl, fun _ h9 => absurd h9 List.not_mem_nil⟩⟩) (Nat.le_of_ble_eq_true rfl) rfl rfl rfl rfl pn_X11_isNone rfl k
theorem S_X11_pieces_5 {kc ks : Nat} {h : Hh} {Q : PQ} {X : PX} {x1 : Int} {xs0 : Int}
    (k : ((xs0 = 0 → am_V M_X11_findPieces 0 0 0 [aR 72, aI x1, aU, aU, aU] [] am_R0 h (fun v ρ' h' => am_V M_X11_pieces kc ks 17 [aU, aU] (v ++ []) ρ' h' Q X) X) ∧ (xs0 ≠ 0 → Q [aI 0] am_R0 h))) :
    am_V M_X11_pieces kc ks 5 [aR 72, aI x1] [aI xs0] am_R0 h Q X := by
  refine v_if_eq (tgt := 12) dX11_pieces_5 (by decide) (fun z => ?_) (fun z => ?_)
  · have k := k.1 z
    refine v_aload_n dX11_pieces_12 rfl rfl ?_
    refine v_iload_n dX11_pieces_13 rfl rfl ?_
    refine v_weak (E2 := [aU, aU]) ⟨Or.inr rfl, ⟨Or.inr rfl, trivial⟩⟩ ?_
    exact v_callV (j := M_X11_findPieces) (As := [aI x1]) (st := []) (E0 := [aR 72, aI x1, aU, aU, aU]) (a := 72) (ci := 9) (N := 11) (q9 := (RX11, TX11, 11)) dX11_pieces_14 ml_X11_179 J_X11_findPieces (Nat.zero_le _) (Nat.zero_le _) (Nat.le_of_ble_eq_true rfl) rfl (Nat.le_of_ble_eq_true rfl) (List.forall_mem_cons.mpr ⟨rfl, List.forall_mem_cons.mpr ⟨rfl, fun _ h9 => absurd h9 List.not_mem_nil⟩⟩) (Nat.le_of_ble_eq_true rfl) rfl rfl rfl rfl pn_X11_findPieces rfl k
  · have k := k.2 z
    refine v_iconst dX11_pieces_8 ⟨by decide, by decide⟩ ?_
    refine v_goto (tgt := 17) dX11_pieces_9 (by decide) ?_
    exact v_iret dX11_pieces_17 rfl rfl k
theorem S_X11_pieces_17 {kc ks : Nat} {h : Hh} {Q : PQ} {X : PX} {xs0 : Int}
    (k : Q [aI xs0] am_R0 h) :
    am_V M_X11_pieces kc ks 17 [aU, aU] [aI xs0] am_R0 h Q X := by
  exact v_iret dX11_pieces_17 rfl rfl k
theorem S_X11_pieceLength_0 {kc ks : Nat} {h : Hh} {Q : PQ} {X : PX} {x1 : Int} {x2 : Int}
    (k : am_V M_X11_isNoPiece 0 0 0 [aR 72, aI x1, aI x2] [] am_R0 h (fun v ρ' h' => am_V M_X11_pieceLength kc ks 6 [aR 72, aU, aI x2] (v ++ []) ρ' h' Q X) X) :
    am_V M_X11_pieceLength kc ks 0 [aR 72, aI x1, aI x2] [] am_R0 h Q X := by
  refine v_aload_n dX11_pieceLength_0 rfl rfl ?_
  refine v_iload_n dX11_pieceLength_1 rfl rfl ?_
  refine v_iload_n dX11_pieceLength_2 rfl rfl ?_
  refine v_weak (E2 := [aR 72, aU, aI x2]) ⟨Or.inl rfl, ⟨Or.inr rfl, ⟨Or.inl rfl, trivial⟩⟩⟩ ?_
  exact v_callV (j := M_X11_isNoPiece) (As := [aI x1, aI x2]) (st := []) (E0 := [aR 72, aI x1, aI x2]) (a := 72) (ci := 9) (N := 11) (q9 := (RX11, TX11, 11)) dX11_pieceLength_3 ml_X11_182 J_X11_isNoPiece (Nat.zero_le _) (Nat.zero_le _) (Nat.le_of_ble_eq_true rfl) rfl (Nat.le_of_ble_eq_true rfl) (List.forall_mem_cons.mpr ⟨rfl, List.forall_mem_cons.mpr ⟨rfl, List.forall_mem_cons.mpr ⟨rfl, fun _ h9 => absurd h9 List.not_mem_nil⟩⟩⟩) (Nat.le_of_ble_eq_true rfl) rfl rfl rfl rfl pn_X11_isNoPiece rfl k
theorem S_X11_pieceLength_6 {kc ks : Nat} {h : Hh} {Q : PQ} {X : PX} {x2 : Int} {xs0 : Int}
    (k : ((xs0 = 0 → ((-2147483648 ≤ ((x2 + 1) : Int) ∧ ((x2 + 1) : Int) < 2147483648) ∧ (0 : Int) ≤ (x2 + 1) ∧ ((x2 + 1) : Int) < 65 ∧ (0 : Int) ≤ x2 ∧ (x2 : Int) < 65 ∧ (-2147483648 ≤ (((h 79 (x2 + 1)) - (h 79 x2)) : Int) ∧ (((h 79 (x2 + 1)) - (h 79 x2)) : Int) < 2147483648)) ∧ Q [aI ((h 79 (x2 + 1)) - (h 79 x2))] am_R0 h) ∧ (xs0 ≠ 0 → Q [aI 0] am_R0 h))) :
    am_V M_X11_pieceLength kc ks 6 [aR 72, aU, aI x2] [aI xs0] am_R0 h Q X := by
  refine v_if_eq (tgt := 13) dX11_pieceLength_6 (by decide) (fun z => ?_) (fun z => ?_)
  · have k := k.1 z
    obtain ⟨⟨b1_1, b1_2, b1_3, b1_4, b1_5, b1_6⟩, k⟩ := k
    refine v_aload_n dX11_pieceLength_13 rfl rfl ?_
    refine v_getR (x := 79) dX11_pieceLength_14 fl_X11_29 am_clsA rfl rfl rfl ?_
    refine v_iload_n dX11_pieceLength_17 rfl rfl ?_
    refine v_iconst dX11_pieceLength_18 ⟨by decide, by decide⟩ ?_
    refine v_iadd dX11_pieceLength_19 b1_1 ?_
    refine v_iald dX11_pieceLength_20 rfl b1_2 b1_3 ?_
    refine v_aload_n dX11_pieceLength_21 rfl rfl ?_
    refine v_getR (x := 79) dX11_pieceLength_22 fl_X11_29 am_clsA rfl rfl rfl ?_
    refine v_iload_n dX11_pieceLength_25 rfl rfl ?_
    refine v_iald dX11_pieceLength_26 rfl b1_4 b1_5 ?_
    refine v_isub dX11_pieceLength_27 b1_6 ?_
    exact v_iret dX11_pieceLength_28 rfl rfl k
  · have k := k.2 z
    refine v_iconst dX11_pieceLength_9 ⟨by decide, by decide⟩ ?_
    refine v_goto (tgt := 28) dX11_pieceLength_10 (by decide) ?_
    exact v_iret dX11_pieceLength_28 rfl rfl k
theorem S_X11_pieceFrom_0 {kc ks : Nat} {h : Hh} {Q : PQ} {X : PX} {x1 : Int} {x2 : Int}
    (k : am_V M_X11_isNoPiece 0 0 0 [aR 72, aI x1, aI x2] [] am_R0 h (fun v ρ' h' => am_V M_X11_pieceFrom kc ks 6 [aR 72, aI x1, aI x2, aU, aU] (v ++ []) ρ' h' Q X) X) :
    am_V M_X11_pieceFrom kc ks 0 [aR 72, aI x1, aI x2, aU, aU] [] am_R0 h Q X := by
  refine v_aload_n dX11_pieceFrom_0 rfl rfl ?_
  refine v_iload_n dX11_pieceFrom_1 rfl rfl ?_
  refine v_iload_n dX11_pieceFrom_2 rfl rfl ?_
  exact v_callV (j := M_X11_isNoPiece) (As := [aI x1, aI x2]) (st := []) (E0 := [aR 72, aI x1, aI x2]) (a := 72) (ci := 9) (N := 11) (q9 := (RX11, TX11, 11)) dX11_pieceFrom_3 ml_X11_182 J_X11_isNoPiece (Nat.zero_le _) (Nat.zero_le _) (Nat.le_of_ble_eq_true rfl) rfl (Nat.le_of_ble_eq_true rfl) (List.forall_mem_cons.mpr ⟨rfl, List.forall_mem_cons.mpr ⟨rfl, List.forall_mem_cons.mpr ⟨rfl, fun _ h9 => absurd h9 List.not_mem_nil⟩⟩⟩) (Nat.le_of_ble_eq_true rfl) rfl rfl rfl rfl pn_X11_isNoPiece rfl k
theorem S_X11_pieceFrom_6 {kc ks : Nat} {h : Hh} {Q : PQ} {X : PX} {x1 : Int} {x2 : Int} {xs0 : Int}
    (k : ((xs0 = 0 → ((-2147483648 ≤ ((x2 + 1) : Int) ∧ ((x2 + 1) : Int) < 2147483648) ∧ (0 : Int) ≤ (x2 + 1) ∧ ((x2 + 1) : Int) < 65 ∧ (0 : Int) ≤ x2 ∧ (x2 : Int) < 65 ∧ (-2147483648 ≤ (((h 79 (x2 + 1)) - (h 79 x2)) : Int) ∧ (((h 79 (x2 + 1)) - (h 79 x2)) : Int) < 2147483648)) ∧ am_V M_X11_pieceFrom kc ks 30 [aR 72, aI x1, aI x2, aI ((h 79 (x2 + 1)) - (h 79 x2)), aI 0] [] am_R0 h Q X) ∧ (xs0 ≠ 0 → Q [aI 0] am_R0 h))) :
    am_V M_X11_pieceFrom kc ks 6 [aR 72, aI x1, aI x2, aU, aU] [aI xs0] am_R0 h Q X := by
  refine v_if_eq (tgt := 11) dX11_pieceFrom_6 (by decide) (fun z => ?_) (fun z => ?_)
  · have k := k.1 z
    obtain ⟨⟨b1_1, b1_2, b1_3, b1_4, b1_5, b1_6⟩, k⟩ := k
    refine v_aload_n dX11_pieceFrom_11 rfl rfl ?_
    refine v_getR (x := 79) dX11_pieceFrom_12 fl_X11_29 am_clsA rfl rfl rfl ?_
    refine v_iload_n dX11_pieceFrom_15 rfl rfl ?_
    refine v_iconst dX11_pieceFrom_16 ⟨by decide, by decide⟩ ?_
    refine v_iadd dX11_pieceFrom_17 b1_1 ?_
    refine v_iald dX11_pieceFrom_18 rfl b1_2 b1_3 ?_
    refine v_aload_n dX11_pieceFrom_19 rfl rfl ?_
    refine v_getR (x := 79) dX11_pieceFrom_20 fl_X11_29 am_clsA rfl rfl rfl ?_
    refine v_iload_n dX11_pieceFrom_23 rfl rfl ?_
    refine v_iald dX11_pieceFrom_24 rfl b1_4 b1_5 ?_
    refine v_isub dX11_pieceFrom_25 b1_6 ?_
    refine v_istore_n (E2 := [aR 72, aI x1, aI x2, aI ((h 79 (x2 + 1)) - (h 79 x2)), aU]) dX11_pieceFrom_26 rfl (Nat.le_of_ble_eq_true rfl) rfl ?_
    refine v_iconst dX11_pieceFrom_27 ⟨by decide, by decide⟩ ?_
    refine v_istore (E2 := [aR 72, aI x1, aI x2, aI ((h 79 (x2 + 1)) - (h 79 x2)), aI 0]) dX11_pieceFrom_28 (Nat.le_of_ble_eq_true rfl) rfl ?_
    exact k
  · have k := k.2 z
    refine v_iconst dX11_pieceFrom_9 ⟨by decide, by decide⟩ ?_
    exact v_iret dX11_pieceFrom_10 rfl rfl k
theorem S_X11_pieceFrom_30 {kc ks : Nat} {h : Hh} {Q : PQ} {X : PX} {x1 : Int} {x2 : Int} {x3 : Int} {x4 : Int}
    (k : ((0 : Int) ≤ x2 ∧ (x2 : Int) < 65) ∧ (((h 79 x2) ≤ x4 → Q [aI 0] am_R0 (am_st h 72 10 2)) ∧ (x4 < (h 79 x2) → ((0 : Int) ≤ x2 ∧ (x2 : Int) < 65) ∧ am_V M_X11_together 0 0 0 [aR 72, aI x1, aI x4, aI x1, aI (h 79 x2), aU] [] am_R0 h (fun v ρ' h' => am_V M_X11_pieceFrom kc ks 55 [aR 72, aI x1, aI x2, aI x3, aI x4] (v ++ []) ρ' h' Q X) X))) :
    am_V M_X11_pieceFrom kc ks 30 [aR 72, aI x1, aI x2, aI x3, aI x4] [] am_R0 h Q X := by
  obtain ⟨⟨b0_1, b0_2⟩, k⟩ := k
  refine v_iload dX11_pieceFrom_30 rfl ?_
  refine v_aload_n dX11_pieceFrom_32 rfl rfl ?_
  refine v_getR (x := 79) dX11_pieceFrom_33 fl_X11_29 am_clsA rfl rfl rfl ?_
  refine v_iload_n dX11_pieceFrom_36 rfl rfl ?_
  refine v_iald dX11_pieceFrom_37 rfl b0_1 b0_2 ?_
  refine v_icmp_ge (tgt := 68) dX11_pieceFrom_38 (by decide) (fun z => ?_) (fun z => ?_)
  · have k := k.1 z
    refine v_aload_n dX11_pieceFrom_68 rfl rfl ?_
    refine v_iconst dX11_pieceFrom_69 ⟨by decide, by decide⟩ ?_
    refine v_putI (j := 10) dX11_pieceFrom_70 pl_X11_35 am_clsA rfl rfl rfl ?_
    refine v_iconst dX11_pieceFrom_73 ⟨by decide, by decide⟩ ?_
    exact v_iret dX11_pieceFrom_74 rfl rfl k
  · have k := k.2 z
    obtain ⟨⟨b1_1, b1_2⟩, k⟩ := k
    refine v_aload_n dX11_pieceFrom_41 rfl rfl ?_
    refine v_iload_n dX11_pieceFrom_42 rfl rfl ?_
    refine v_iload dX11_pieceFrom_43 rfl ?_
    refine v_iload_n dX11_pieceFrom_45 rfl rfl ?_
    refine v_aload_n dX11_pieceFrom_46 rfl rfl ?_
    refine v_getR (x := 79) dX11_pieceFrom_47 fl_X11_29 am_clsA rfl rfl rfl ?_
    refine v_iload_n dX11_pieceFrom_50 rfl rfl ?_
    refine v_iald dX11_pieceFrom_51 rfl b1_1 b1_2 ?_
    exact v_callV (j := M_X11_together) (As := [aI x1, aI x4, aI x1, aI (h 79 x2)]) (st := []) (E0 := [aR 72, aI x1, aI x4, aI x1, aI (h 79 x2), aU]) (a := 72) (ci := 9) (N := 11) (q9 := (RX11, TX11, 11)) dX11_pieceFrom_52 ml_X11_102 J_X11_together (Nat.zero_le _) (Nat.zero_le _) (Nat.le_of_ble_eq_true rfl) rfl (Nat.le_of_ble_eq_true rfl) (List.forall_mem_cons.mpr ⟨rfl, List.forall_mem_cons.mpr ⟨rfl, List.forall_mem_cons.mpr ⟨rfl, List.forall_mem_cons.mpr ⟨rfl, List.forall_mem_cons.mpr ⟨rfl, fun _ h9 => absurd h9 List.not_mem_nil⟩⟩⟩⟩⟩) (Nat.le_of_ble_eq_true rfl) rfl rfl rfl rfl pn_X11_together rfl k
theorem S_X11_pieceFrom_55 {kc ks : Nat} {h : Hh} {Q : PQ} {X : PX} {x1 : Int} {x2 : Int} {x3 : Int} {x4 : Int} {xs0 : Int}
    (k : ((xs0 < x3 → ((-2147483648 ≤ ((x4 + 1) : Int) ∧ ((x4 + 1) : Int) < 2147483648)) ∧ am_V M_X11_pieceFrom kc ks 30 [aR 72, aI x1, aI x2, aI x3, aI (x4 + 1)] [] am_R0 h Q X) ∧ (x3 ≤ xs0 → Q [aI x4] am_R0 h))) :
    am_V M_X11_pieceFrom kc ks 55 [aR 72, aI x1, aI x2, aI x3, aI x4] [aI xs0] am_R0 h Q X := by
  refine v_iload_n dX11_pieceFrom_55 rfl rfl ?_
  refine v_icmp_lt (tgt := 62) dX11_pieceFrom_56 (by decide) (fun z => ?_) (fun z => ?_)
  · have k := k.1 z
    obtain ⟨b1_1, k⟩ := k
    refine v_iinc (E2 := [aR 72, aI x1, aI x2, aI x3, aI (x4 + 1)]) dX11_pieceFrom_62 rfl b1_1 rfl ?_
    refine v_goto (tgt := 30) dX11_pieceFrom_65 (by decide) ?_
    exact k
  · have k := k.2 z
    refine v_iload dX11_pieceFrom_59 rfl ?_
    exact v_iret dX11_pieceFrom_61 rfl rfl k
theorem S_X11_meanCommon_0 {kc ks : Nat} {h : Hh} {Q : PQ} {X : PX} {x1 : Int}
    (k : am_V M_X11_isEmpty 0 0 0 [aR 72, aI x1] [] am_R0 h (fun v ρ' h' => am_V M_X11_meanCommon kc ks 5 [aR 72, aI x1] (v ++ []) ρ' h' Q X) X) :
    am_V M_X11_meanCommon kc ks 0 [aR 72, aI x1] [] am_R0 h Q X := by
  refine v_aload_n dX11_meanCommon_0 rfl rfl ?_
  refine v_iload_n dX11_meanCommon_1 rfl rfl ?_
  exact v_callV (j := M_X11_isEmpty) (As := [aI x1]) (st := []) (E0 := [aR 72, aI x1]) (a := 72) (ci := 9) (N := 11) (q9 := (RX11, TX11, 11)) dX11_meanCommon_2 ml_X11_134 J_X11_isEmpty (Nat.zero_le _) (Nat.zero_le _) (Nat.le_of_ble_eq_true rfl) rfl (Nat.le_of_ble_eq_true rfl) (List.forall_mem_cons.mpr ⟨rfl, List.forall_mem_cons.mpr ⟨rfl, fun _ h9 => absurd h9 List.not_mem_nil⟩⟩) (Nat.le_of_ble_eq_true rfl) rfl rfl rfl rfl pn_X11_isEmpty rfl k
theorem S_X11_meanCommon_5 {kc ks : Nat} {h : Hh} {Q : PQ} {X : PX} {x1 : Int} {xs0 : Int}
    (k : ((xs0 = 0 → am_V M_X11_commons 0 0 0 [aR 72, aI x1, aU, aU] [] am_R0 h (fun v ρ' h' => am_V M_X11_meanCommon kc ks 17 [aR 72, aI x1] (v ++ []) ρ' h' Q X) X) ∧ (xs0 ≠ 0 → Q [aD 0] am_R0 h))) :
    am_V M_X11_meanCommon kc ks 5 [aR 72, aI x1] [aI xs0] am_R0 h Q X := by
  refine v_if_eq (tgt := 12) dX11_meanCommon_5 (by decide) (fun z => ?_) (fun z => ?_)
  · have k := k.1 z
    refine v_aload_n dX11_meanCommon_12 rfl rfl ?_
    refine v_iload_n dX11_meanCommon_13 rfl rfl ?_
    exact v_callV (j := M_X11_commons) (As := [aI x1]) (st := []) (E0 := [aR 72, aI x1, aU, aU]) (a := 72) (ci := 9) (N := 11) (q9 := (RX11, TX11, 11)) dX11_meanCommon_14 ml_X11_188 J_X11_commons (Nat.zero_le _) (Nat.zero_le _) (Nat.le_of_ble_eq_true rfl) rfl (Nat.le_of_ble_eq_true rfl) (List.forall_mem_cons.mpr ⟨rfl, List.forall_mem_cons.mpr ⟨rfl, fun _ h9 => absurd h9 List.not_mem_nil⟩⟩) (Nat.le_of_ble_eq_true rfl) rfl rfl rfl rfl pn_X11_commons rfl k
  · have k := k.2 z
    refine v_dconst0 dX11_meanCommon_8 ?_
    refine v_goto (tgt := 26) dX11_meanCommon_9 (by decide) ?_
    exact v_dret dX11_meanCommon_26 rfl rfl k
theorem S_X11_meanCommon_17 {kc ks : Nat} {h : Hh} {Q : PQ} {X : PX} {x1 : Int} {xs0 : Int}
    (k : ((0 : Int) ≤ x1 ∧ (x1 : Int) < 9 ∧ vf_n64 (FP.ddiv (FP.i2d (Int32.ofInt xs0)) (FP.i2d (Int32.ofInt (h 74 x1))))) ∧ Q [aD (FP.ddiv (FP.i2d (Int32.ofInt xs0)) (FP.i2d (Int32.ofInt (h 74 x1))))] am_R0 h) :
    am_V M_X11_meanCommon kc ks 17 [aR 72, aI x1] [aI xs0] am_R0 h Q X := by
  obtain ⟨⟨b0_1, b0_2, b0_3⟩, k⟩ := k
  refine v_i2d dX11_meanCommon_17 ?_
  refine v_aload_n dX11_meanCommon_18 rfl rfl ?_
  refine v_getR (x := 74) dX11_meanCommon_19 fl_X11_13 am_clsA rfl rfl rfl ?_
  refine v_iload_n dX11_meanCommon_22 rfl rfl ?_
  refine v_iald dX11_meanCommon_23 rfl b0_1 b0_2 ?_
  refine v_i2d dX11_meanCommon_24 ?_
  refine v_ddiv dX11_meanCommon_25 b0_3 ?_
  exact v_dret dX11_meanCommon_26 rfl rfl k
