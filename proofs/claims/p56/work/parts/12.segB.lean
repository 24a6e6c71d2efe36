variable {WM : List (Nat × Nat)} {wd : Bool}
theorem S_X6_add_0 {kc ks : Nat} {h : Hh} {Q : PQ} {X : PX} {a0 : Nat} (t0 : isT a0) {a1 n1 : Nat} (q1 : (RM WM wd).1[a1]? = some (1, n1)) {x2 : Int}
    (k : am_V M_X6_add kc ks 2 [aR a0, aR a1, aI x2, aI 0] [] (RM WM wd) h Q X) :
    am_V M_X6_add kc ks 0 [aR a0, aR a1, aI x2, aU] [] (RM WM wd) h Q X := by
  refine v_iconst dX6_add_0 ⟨by decide, by decide⟩ ?_
  refine v_istore_n (E2 := [aR a0, aR a1, aI x2, aI 0]) dX6_add_1 rfl (Nat.le_of_ble_eq_true rfl) rfl ?_
  exact k
theorem S_X6_add_2 {kc ks : Nat} {h : Hh} {Q : PQ} {X : PX} {a0 : Nat} (t0 : isT a0) {a1 n1 : Nat} (q1 : (RM WM wd).1[a1]? = some (1, n1)) {x2 : Int} {x3 : Int}
    (k : ((x2 ≤ x3 → Q [] (RM WM wd) h) ∧ (x3 < x2 → ((64 ≤ (h a0 4) → Q [] (RM WM wd) h) ∧ ((h a0 4) < 64 → ((0 : Int) ≤ x3 ∧ (x3 : Int) < ((n1 : Nat) : Int) ∧ (0 : Int) ≤ (h a0 4) ∧ ((h a0 4) : Int) < 64 ∧ (-2147483648 ≤ ((((am_st h (a0 + 1) (h a0 4) ((h a1 x3) % 65536)) a0 4) + 1) : Int) ∧ ((((am_st h (a0 + 1) (h a0 4) ((h a1 x3) % 65536)) a0 4) + 1) : Int) < 2147483648) ∧ (-2147483648 ≤ ((x3 + 1) : Int) ∧ ((x3 + 1) : Int) < 2147483648)) ∧ am_V M_X6_add kc ks 2 [aR a0, aR a1, aI x2, aI (x3 + 1)] [] (RM WM wd) (am_st (am_st h (a0 + 1) (h a0 4) ((h a1 x3) % 65536)) a0 4 (((am_st h (a0 + 1) (h a0 4) ((h a1 x3) % 65536)) a0 4) + 1)) Q X))))) :
    am_V M_X6_add kc ks 2 [aR a0, aR a1, aI x2, aI x3] [] (RM WM wd) h Q X := by
  refine v_iload_n dX6_add_2 rfl rfl ?_
  refine v_iload_n dX6_add_3 rfl rfl ?_
  refine v_icmp_ge (tgt := 47) dX6_add_4 (by decide) (fun z => ?_) (fun z => ?_)
  · have k := k.1 z
    exact v_vret dX6_add_47 rfl rfl k
  · have k := k.2 z
    refine v_aload_n dX6_add_7 rfl rfl ?_
    refine v_getI (j := 4) dX6_add_8 fl_X6_25 am_clsA rfl rfl (tk0 t0) ?_
    refine v_aload_n dX6_add_11 rfl rfl ?_
    refine v_getR (x := (a0 + 1)) dX6_add_12 fl_X6_9 am_clsA rfl (tk0 t0) (tr0 t0) ?_
    refine v_alen (N := 64) dX6_add_15 (tk1 t0) (by decide) rfl ⟨by decide, by decide⟩ ?_
    refine v_icmp_ge (tgt := 47) dX6_add_16 (by decide) (fun z => ?_) (fun z => ?_)
    · have k := k.1 z
      exact v_vret dX6_add_47 rfl rfl k
    · have k := k.2 z
      obtain ⟨⟨b2_1, b2_2, b2_3, b2_4, b2_5, b2_6⟩, k⟩ := k
      refine v_aload_n dX6_add_19 rfl rfl ?_
      refine v_getR (x := (a0 + 1)) dX6_add_20 fl_X6_9 am_clsA rfl (tk0 t0) (tr0 t0) ?_
      refine v_aload_n dX6_add_23 rfl rfl ?_
      refine v_getI (j := 4) dX6_add_24 fl_X6_25 am_clsA rfl rfl (tk0 t0) ?_
      refine v_aload_n dX6_add_27 rfl rfl ?_
      refine v_iload_n dX6_add_28 rfl rfl ?_
      refine v_cald dX6_add_29 q1 b2_1 b2_2 ?_
      refine v_cast dX6_add_30 (tk1 t0) b2_3 b2_4 ?_
      refine v_aload_n dX6_add_31 rfl rfl ?_
      refine v_dupR dX6_add_32 ?_
      refine v_getI (j := 4) dX6_add_33 fl_X6_25 am_clsA rfl rfl (tk0 t0) ?_
      refine v_iconst dX6_add_36 ⟨by decide, by decide⟩ ?_
      refine v_iadd dX6_add_37 b2_5 ?_
      refine v_putI (j := 4) dX6_add_38 pl_X6_25 am_clsA rfl rfl (tk0 t0) ?_
      refine v_iinc (E2 := [aR a0, aR a1, aI x2, aI (x3 + 1)]) dX6_add_41 rfl b2_6 rfl ?_
      refine v_goto (tgt := 2) dX6_add_44 (by decide) ?_
      exact k
theorem S_X6_addTurnedRound_0 {kc ks : Nat} {h : Hh} {Q : PQ} {X : PX} {a0 : Nat} (t0 : isT a0) {a1 : Nat} (t1 : isT a1)
    (k : ((-2147483648 ≤ (((h a1 4) - 1) : Int) ∧ (((h a1 4) - 1) : Int) < 2147483648)) ∧ am_V M_X6_addTurnedRound kc ks 7 [aR a0, aR a1, aI ((h a1 4) - 1)] [] (RM WM wd) h Q X) :
    am_V M_X6_addTurnedRound kc ks 0 [aR a0, aR a1, aU] [] (RM WM wd) h Q X := by
  obtain ⟨b0_1, k⟩ := k
  refine v_aload_n dX6_addTurnedRound_0 rfl rfl ?_
  refine v_getI (j := 4) dX6_addTurnedRound_1 fl_X6_25 am_clsA rfl rfl (tk0 t1) ?_
  refine v_iconst dX6_addTurnedRound_4 ⟨by decide, by decide⟩ ?_
  refine v_isub dX6_addTurnedRound_5 b0_1 ?_
  refine v_istore_n (E2 := [aR a0, aR a1, aI ((h a1 4) - 1)]) dX6_addTurnedRound_6 rfl (Nat.le_of_ble_eq_true rfl) rfl ?_
  exact k
theorem S_X6_addTurnedRound_7 {kc ks : Nat} {h : Hh} {Q : PQ} {X : PX} {a0 : Nat} (t0 : isT a0) {a1 : Nat} (t1 : isT a1) {x2 : Int}
    (k : ((x2 < 0 → Q [] (RM WM wd) h) ∧ (0 ≤ x2 → ((64 ≤ (h a0 4) → Q [] (RM WM wd) h) ∧ ((h a0 4) < 64 → ((0 : Int) ≤ x2 ∧ (x2 : Int) < 64 ∧ (0 : Int) ≤ (h a0 4) ∧ ((h a0 4) : Int) < 64 ∧ (-2147483648 ≤ ((((am_st h (a0 + 1) (h a0 4) ((h (a1 + 1) x2) % 65536)) a0 4) + 1) : Int) ∧ ((((am_st h (a0 + 1) (h a0 4) ((h (a1 + 1) x2) % 65536)) a0 4) + 1) : Int) < 2147483648) ∧ (-2147483648 ≤ ((x2 + (-1)) : Int) ∧ ((x2 + (-1)) : Int) < 2147483648)) ∧ am_V M_X6_addTurnedRound kc ks 7 [aR a0, aR a1, aI (x2 + (-1))] [] (RM WM wd) (am_st (am_st h (a0 + 1) (h a0 4) ((h (a1 + 1) x2) % 65536)) a0 4 (((am_st h (a0 + 1) (h a0 4) ((h (a1 + 1) x2) % 65536)) a0 4) + 1)) Q X))))) :
    am_V M_X6_addTurnedRound kc ks 7 [aR a0, aR a1, aI x2] [] (RM WM wd) h Q X := by
  refine v_iload_n dX6_addTurnedRound_7 rfl rfl ?_
  refine v_if_lt (tgt := 54) dX6_addTurnedRound_8 (by decide) (fun z => ?_) (fun z => ?_)
  · have k := k.1 z
    exact v_vret dX6_addTurnedRound_54 rfl rfl k
  · have k := k.2 z
    refine v_aload_n dX6_addTurnedRound_11 rfl rfl ?_
    refine v_getI (j := 4) dX6_addTurnedRound_12 fl_X6_25 am_clsA rfl rfl (tk0 t0) ?_
    refine v_aload_n dX6_addTurnedRound_15 rfl rfl ?_
    refine v_getR (x := (a0 + 1)) dX6_addTurnedRound_16 fl_X6_9 am_clsA rfl (tk0 t0) (tr0 t0) ?_
    refine v_alen (N := 64) dX6_addTurnedRound_19 (tk1 t0) (by decide) rfl ⟨by decide, by decide⟩ ?_
    refine v_icmp_ge (tgt := 54) dX6_addTurnedRound_20 (by decide) (fun z => ?_) (fun z => ?_)
    · have k := k.1 z
      exact v_vret dX6_addTurnedRound_54 rfl rfl k
    · have k := k.2 z
      obtain ⟨⟨b2_1, b2_2, b2_3, b2_4, b2_5, b2_6⟩, k⟩ := k
      refine v_aload_n dX6_addTurnedRound_23 rfl rfl ?_
      refine v_getR (x := (a0 + 1)) dX6_addTurnedRound_24 fl_X6_9 am_clsA rfl (tk0 t0) (tr0 t0) ?_
      refine v_aload_n dX6_addTurnedRound_27 rfl rfl ?_
      refine v_getI (j := 4) dX6_addTurnedRound_28 fl_X6_25 am_clsA rfl rfl (tk0 t0) ?_
      refine v_aload_n dX6_addTurnedRound_31 rfl rfl ?_
      refine v_getR (x := (a1 + 1)) dX6_addTurnedRound_32 fl_X6_9 am_clsA rfl (tk0 t1) (tr0 t1) ?_
      refine v_iload_n dX6_addTurnedRound_35 rfl rfl ?_
      refine v_cald dX6_addTurnedRound_36 (tk1 t1) b2_1 b2_2 ?_
      refine v_cast dX6_addTurnedRound_37 (tk1 t0) b2_3 b2_4 ?_
      refine v_aload_n dX6_addTurnedRound_38 rfl rfl ?_
      refine v_dupR dX6_addTurnedRound_39 ?_
      refine v_getI (j := 4) dX6_addTurnedRound_40 fl_X6_25 am_clsA rfl rfl (tk0 t0) ?_
      refine v_iconst dX6_addTurnedRound_43 ⟨by decide, by decide⟩ ?_
      refine v_iadd dX6_addTurnedRound_44 b2_5 ?_
      refine v_putI (j := 4) dX6_addTurnedRound_45 pl_X6_25 am_clsA rfl rfl (tk0 t0) ?_
      refine v_iinc (E2 := [aR a0, aR a1, aI (x2 + (-1))]) dX6_addTurnedRound_48 rfl b2_6 rfl ?_
      refine v_goto (tgt := 7) dX6_addTurnedRound_51 (by decide) ?_
      exact k
theorem S_X6_putAhead_0 {kc ks : Nat} {h : Hh} {Q : PQ} {X : PX} {a0 : Nat} (t0 : isT a0) {x1 : Int}
    (k : ((64 ≤ (h a0 4) → Q [] (RM WM wd) h) ∧ ((h a0 4) < 64 → am_V M_X6_putAhead kc ks 17 [aR a0, aI x1, aI (h a0 4)] [] (RM WM wd) h Q X))) :
    am_V M_X6_putAhead kc ks 0 [aR a0, aI x1, aU] [] (RM WM wd) h Q X := by
  refine v_aload_n dX6_putAhead_0 rfl rfl ?_
  refine v_getI (j := 4) dX6_putAhead_1 fl_X6_25 am_clsA rfl rfl (tk0 t0) ?_
  refine v_aload_n dX6_putAhead_4 rfl rfl ?_
  refine v_getR (x := (a0 + 1)) dX6_putAhead_5 fl_X6_9 am_clsA rfl (tk0 t0) (tr0 t0) ?_
  refine v_alen (N := 64) dX6_putAhead_8 (tk1 t0) (by decide) rfl ⟨by decide, by decide⟩ ?_
  refine v_icmp_ge (tgt := 58) dX6_putAhead_9 (by decide) (fun z => ?_) (fun z => ?_)
  · have k := k.1 z
    exact v_vret dX6_putAhead_58 rfl rfl k
  · have k := k.2 z
    refine v_aload_n dX6_putAhead_12 rfl rfl ?_
    refine v_getI (j := 4) dX6_putAhead_13 fl_X6_25 am_clsA rfl rfl (tk0 t0) ?_
    refine v_istore_n (E2 := [aR a0, aI x1, aI (h a0 4)]) dX6_putAhead_16 rfl (Nat.le_of_ble_eq_true rfl) rfl ?_
    exact k
theorem S_X6_putAhead_17 {kc ks : Nat} {h : Hh} {Q : PQ} {X : PX} {a0 : Nat} (t0 : isT a0) {x1 : Int} {x2 : Int}
    (k : ((x2 ≤ 0 → ((0 : Int) ≤ 0 ∧ (0 : Int) < 64 ∧ (-2147483648 ≤ ((((am_st h (a0 + 1) 0 (x1 % 65536)) a0 4) + 1) : Int) ∧ ((((am_st h (a0 + 1) 0 (x1 % 65536)) a0 4) + 1) : Int) < 2147483648)) ∧ Q [] (RM WM wd) (am_st (am_st h (a0 + 1) 0 (x1 % 65536)) a0 4 (((am_st h (a0 + 1) 0 (x1 % 65536)) a0 4) + 1))) ∧ (0 < x2 → ((-2147483648 ≤ ((x2 - 1) : Int) ∧ ((x2 - 1) : Int) < 2147483648) ∧ (0 : Int) ≤ (x2 - 1) ∧ ((x2 - 1) : Int) < 64 ∧ (0 : Int) ≤ x2 ∧ (x2 : Int) < 64 ∧ (-2147483648 ≤ ((x2 + (-1)) : Int) ∧ ((x2 + (-1)) : Int) < 2147483648)) ∧ am_V M_X6_putAhead kc ks 17 [aR a0, aI x1, aI (x2 + (-1))] [] (RM WM wd) (am_st h (a0 + 1) x2 ((h (a0 + 1) (x2 - 1)) % 65536)) Q X))) :
    am_V M_X6_putAhead kc ks 17 [aR a0, aI x1, aI x2] [] (RM WM wd) h Q X := by
  refine v_iload_n dX6_putAhead_17 rfl rfl ?_
  refine v_if_le (tgt := 41) dX6_putAhead_18 (by decide) (fun z => ?_) (fun z => ?_)
  · have k := k.1 z
    obtain ⟨⟨b1_1, b1_2, b1_3⟩, k⟩ := k
    refine v_aload_n dX6_putAhead_41 rfl rfl ?_
    refine v_getR (x := (a0 + 1)) dX6_putAhead_42 fl_X6_9 am_clsA rfl (tk0 t0) (tr0 t0) ?_
    refine v_iconst dX6_putAhead_45 ⟨by decide, by decide⟩ ?_
    refine v_iload_n dX6_putAhead_46 rfl rfl ?_
    refine v_cast dX6_putAhead_47 (tk1 t0) b1_1 b1_2 ?_
    refine v_aload_n dX6_putAhead_48 rfl rfl ?_
    refine v_dupR dX6_putAhead_49 ?_
    refine v_getI (j := 4) dX6_putAhead_50 fl_X6_25 am_clsA rfl rfl (tk0 t0) ?_
    refine v_iconst dX6_putAhead_53 ⟨by decide, by decide⟩ ?_
    refine v_iadd dX6_putAhead_54 b1_3 ?_
    refine v_putI (j := 4) dX6_putAhead_55 pl_X6_25 am_clsA rfl rfl (tk0 t0) ?_
    exact v_vret dX6_putAhead_58 rfl rfl k
  · have k := k.2 z
    obtain ⟨⟨b1_1, b1_2, b1_3, b1_4, b1_5, b1_6⟩, k⟩ := k
    refine v_aload_n dX6_putAhead_21 rfl rfl ?_
    refine v_getR (x := (a0 + 1)) dX6_putAhead_22 fl_X6_9 am_clsA rfl (tk0 t0) (tr0 t0) ?_
    refine v_iload_n dX6_putAhead_25 rfl rfl ?_
    refine v_aload_n dX6_putAhead_26 rfl rfl ?_
    refine v_getR (x := (a0 + 1)) dX6_putAhead_27 fl_X6_9 am_clsA rfl (tk0 t0) (tr0 t0) ?_
    refine v_iload_n dX6_putAhead_30 rfl rfl ?_
    refine v_iconst dX6_putAhead_31 ⟨by decide, by decide⟩ ?_
    refine v_isub dX6_putAhead_32 b1_1 ?_
    refine v_cald dX6_putAhead_33 (tk1 t0) b1_2 b1_3 ?_
    refine v_cast dX6_putAhead_34 (tk1 t0) b1_4 b1_5 ?_
    refine v_iinc (E2 := [aR a0, aI x1, aI (x2 + (-1))]) dX6_putAhead_35 rfl b1_6 rfl ?_
    refine v_goto (tgt := 17) dX6_putAhead_38 (by decide) ?_
    exact k
theorem S_X6_dropFirst_0 {kc ks : Nat} {h : Hh} {Q : PQ} {X : PX} {a0 : Nat} (t0 : isT a0)
    (k : am_V M_X6_dropFirst kc ks 2 [aR a0, aI 1] [] (RM WM wd) h Q X) :
    am_V M_X6_dropFirst kc ks 0 [aR a0, aU] [] (RM WM wd) h Q X := by
  refine v_iconst dX6_dropFirst_0 ⟨by decide, by decide⟩ ?_
  refine v_istore_n (E2 := [aR a0, aI 1]) dX6_dropFirst_1 rfl (Nat.le_of_ble_eq_true rfl) rfl ?_
  exact k
theorem S_X6_dropFirst_2 {kc ks : Nat} {h : Hh} {Q : PQ} {X : PX} {a0 : Nat} (t0 : isT a0) {x1 : Int}
    (k : (((h a0 4) ≤ x1 → (((h a0 4) ≤ 0 → Q [] (RM WM wd) h) ∧ (0 < (h a0 4) → ((-2147483648 ≤ (((h a0 4) - 1) : Int) ∧ (((h a0 4) - 1) : Int) < 2147483648)) ∧ Q [] (RM WM wd) (am_st h a0 4 ((h a0 4) - 1))))) ∧ (x1 < (h a0 4) → ((-2147483648 ≤ ((x1 - 1) : Int) ∧ ((x1 - 1) : Int) < 2147483648) ∧ (0 : Int) ≤ x1 ∧ (x1 : Int) < 64 ∧ (0 : Int) ≤ (x1 - 1) ∧ ((x1 - 1) : Int) < 64 ∧ (-2147483648 ≤ ((x1 + 1) : Int) ∧ ((x1 + 1) : Int) < 2147483648)) ∧ am_V M_X6_dropFirst kc ks 2 [aR a0, aI (x1 + 1)] [] (RM WM wd) (am_st h (a0 + 1) (x1 - 1) ((h (a0 + 1) x1) % 65536)) Q X))) :
    am_V M_X6_dropFirst kc ks 2 [aR a0, aI x1] [] (RM WM wd) h Q X := by
  refine v_iload_n dX6_dropFirst_2 rfl rfl ?_
  refine v_aload_n dX6_dropFirst_3 rfl rfl ?_
  refine v_getI (j := 4) dX6_dropFirst_4 fl_X6_25 am_clsA rfl rfl (tk0 t0) ?_
  refine v_icmp_ge (tgt := 30) dX6_dropFirst_7 (by decide) (fun z => ?_) (fun z => ?_)
  · have k := k.1 z
    refine v_aload_n dX6_dropFirst_30 rfl rfl ?_
    refine v_getI (j := 4) dX6_dropFirst_31 fl_X6_25 am_clsA rfl rfl (tk0 t0) ?_
    refine v_if_le (tgt := 47) dX6_dropFirst_34 (by decide) (fun z => ?_) (fun z => ?_)
    · have k := k.1 z
      exact v_vret dX6_dropFirst_47 rfl rfl k
    · have k := k.2 z
      obtain ⟨b2_1, k⟩ := k
      refine v_aload_n dX6_dropFirst_37 rfl rfl ?_
      refine v_dupR dX6_dropFirst_38 ?_
      refine v_getI (j := 4) dX6_dropFirst_39 fl_X6_25 am_clsA rfl rfl (tk0 t0) ?_
      refine v_iconst dX6_dropFirst_42 ⟨by decide, by decide⟩ ?_
      refine v_isub dX6_dropFirst_43 b2_1 ?_
      refine v_putI (j := 4) dX6_dropFirst_44 pl_X6_25 am_clsA rfl rfl (tk0 t0) ?_
      exact v_vret dX6_dropFirst_47 rfl rfl k
  · have k := k.2 z
    obtain ⟨⟨b1_1, b1_2, b1_3, b1_4, b1_5, b1_6⟩, k⟩ := k
    refine v_aload_n dX6_dropFirst_10 rfl rfl ?_
    refine v_getR (x := (a0 + 1)) dX6_dropFirst_11 fl_X6_9 am_clsA rfl (tk0 t0) (tr0 t0) ?_
    refine v_iload_n dX6_dropFirst_14 rfl rfl ?_
    refine v_iconst dX6_dropFirst_15 ⟨by decide, by decide⟩ ?_
    refine v_isub dX6_dropFirst_16 b1_1 ?_
    refine v_aload_n dX6_dropFirst_17 rfl rfl ?_
    refine v_getR (x := (a0 + 1)) dX6_dropFirst_18 fl_X6_9 am_clsA rfl (tk0 t0) (tr0 t0) ?_
    refine v_iload_n dX6_dropFirst_21 rfl rfl ?_
    refine v_cald dX6_dropFirst_22 (tk1 t0) b1_2 b1_3 ?_
    refine v_cast dX6_dropFirst_23 (tk1 t0) b1_4 b1_5 ?_
    refine v_iinc (E2 := [aR a0, aI (x1 + 1)]) dX6_dropFirst_24 rfl b1_6 rfl ?_
    refine v_goto (tgt := 2) dX6_dropFirst_27 (by decide) ?_
    exact k
theorem S_X6_endsAboveWhole_0 {kc ks : Nat} {h : Hh} {Q : PQ} {X : PX} {a0 : Nat} (t0 : isT a0)
    (k : ((-2147483648 ≤ (((h a0 4) - 1) : Int) ∧ (((h a0 4) - 1) : Int) < 2147483648) ∧ (0 : Int) ≤ 0 ∧ (0 : Int) < 64 ∧ (-2147483648 ≤ ((((h a0 4) - 1) - (h (a0 + 3) 0)) : Int) ∧ ((((h a0 4) - 1) - (h (a0 + 3) 0)) : Int) < 2147483648)) ∧ Q [aI (((h a0 4) - 1) - (h (a0 + 3) 0))] (RM WM wd) h) :
    am_V M_X6_endsAboveWhole kc ks 0 [aR a0] [] (RM WM wd) h Q X := by
  obtain ⟨⟨b0_1, b0_2, b0_3, b0_4⟩, k⟩ := k
  refine v_aload_n dX6_endsAboveWhole_0 rfl rfl ?_
  refine v_getI (j := 4) dX6_endsAboveWhole_1 fl_X6_25 am_clsA rfl rfl (tk0 t0) ?_
  refine v_iconst dX6_endsAboveWhole_4 ⟨by decide, by decide⟩ ?_
  refine v_isub dX6_endsAboveWhole_5 b0_1 ?_
  refine v_aload_n dX6_endsAboveWhole_6 rfl rfl ?_
  refine v_getR (x := (a0 + 3)) dX6_endsAboveWhole_7 fl_X6_19 am_clsA rfl (tk0 t0) (tr2 t0) ?_
  refine v_iconst dX6_endsAboveWhole_10 ⟨by decide, by decide⟩ ?_
  refine v_iald dX6_endsAboveWhole_11 (tk3 t0) b0_2 b0_3 ?_
  refine v_isub dX6_endsAboveWhole_12 b0_4 ?_
  exact v_iret dX6_endsAboveWhole_13 rfl rfl k
theorem S_X6_likeSigns_0 {kc ks : Nat} {h : Hh} {Q : PQ} {X : PX} {a0 : Nat} (t0 : isT a0) {x1 : Int} {a2 : Nat} (t2 : isT a2) {x3 : Int}
    (k : ((-2147483648 ≤ (((h a0 4) - x1) : Int) ∧ (((h a0 4) - x1) : Int) < 2147483648) ∧ (-2147483648 ≤ (((h a2 4) - x3) : Int) ∧ (((h a2 4) - x3) : Int) < 2147483648)) ∧ am_V M_X6_likeSigns kc ks 20 [aR a0, aI x1, aR a2, aI x3, aI (min ((h a0 4) - x1) ((h a2 4) - x3)), aI 0] [] (RM WM wd) h Q X) :
    am_V M_X6_likeSigns kc ks 0 [aR a0, aI x1, aR a2, aI x3, aU, aU] [] (RM WM wd) h Q X := by
  obtain ⟨⟨b0_1, b0_2⟩, k⟩ := k
  refine v_aload_n dX6_likeSigns_0 rfl rfl ?_
  refine v_getI (j := 4) dX6_likeSigns_1 fl_X6_25 am_clsA rfl rfl (tk0 t0) ?_
  refine v_iload_n dX6_likeSigns_4 rfl rfl ?_
  refine v_isub dX6_likeSigns_5 b0_1 ?_
  refine v_aload_n dX6_likeSigns_6 rfl rfl ?_
  refine v_getI (j := 4) dX6_likeSigns_7 fl_X6_25 am_clsA rfl rfl (tk0 t2) ?_
  refine v_iload_n dX6_likeSigns_10 rfl rfl ?_
  refine v_isub dX6_likeSigns_11 b0_2 ?_
  refine v_mmin dX6_likeSigns_12 mm_X6_29 (by decide) (Nat.le_of_ble_eq_true rfl) ?_
  refine v_istore (E2 := [aR a0, aI x1, aR a2, aI x3, aI (min ((h a0 4) - x1) ((h a2 4) - x3)), aU]) dX6_likeSigns_15 (Nat.le_of_ble_eq_true rfl) rfl ?_
  refine v_iconst dX6_likeSigns_17 ⟨by decide, by decide⟩ ?_
  refine v_istore (E2 := [aR a0, aI x1, aR a2, aI x3, aI (min ((h a0 4) - x1) ((h a2 4) - x3)), aI 0]) dX6_likeSigns_18 (Nat.le_of_ble_eq_true rfl) rfl ?_
  exact k
theorem S_X6_likeSigns_20 {kc ks : Nat} {h : Hh} {Q : PQ} {X : PX} {a0 : Nat} (t0 : isT a0) {x1 : Int} {a2 : Nat} (t2 : isT a2) {x3 : Int} {x4 : Int} {x5 : Int}
    (k : ((x4 ≤ x5 → Q [aI x5] (RM WM wd) h) ∧ (x5 < x4 → ((-2147483648 ≤ ((x1 + x5) : Int) ∧ ((x1 + x5) : Int) < 2147483648) ∧ (0 : Int) ≤ (x1 + x5) ∧ ((x1 + x5) : Int) < 64 ∧ (-2147483648 ≤ ((x3 + x5) : Int) ∧ ((x3 + x5) : Int) < 2147483648) ∧ (0 : Int) ≤ (x3 + x5) ∧ ((x3 + x5) : Int) < 64) ∧ (((h (a0 + 1) (x1 + x5)) ≠ (h (a2 + 1) (x3 + x5)) → Q [aI x5] (RM WM wd) h) ∧ ((h (a0 + 1) (x1 + x5)) = (h (a2 + 1) (x3 + x5)) → ((-2147483648 ≤ ((x5 + 1) : Int) ∧ ((x5 + 1) : Int) < 2147483648)) ∧ am_V M_X6_likeSigns kc ks 20 [aR a0, aI x1, aR a2, aI x3, aI x4, aI (x5 + 1)] [] (RM WM wd) h Q X))))) :
    am_V M_X6_likeSigns kc ks 20 [aR a0, aI x1, aR a2, aI x3, aI x4, aI x5] [] (RM WM wd) h Q X := by
  refine v_iload dX6_likeSigns_20 rfl ?_
  refine v_iload dX6_likeSigns_22 rfl ?_
  refine v_icmp_ge (tgt := 54) dX6_likeSigns_24 (by decide) (fun z => ?_) (fun z => ?_)
  · have k := k.1 z
    refine v_iload dX6_likeSigns_54 rfl ?_
    exact v_iret dX6_likeSigns_56 rfl rfl k
  · have k := k.2 z
    obtain ⟨⟨b1_1, b1_2, b1_3, b1_4, b1_5, b1_6⟩, k⟩ := k
    refine v_aload_n dX6_likeSigns_27 rfl rfl ?_
    refine v_getR (x := (a0 + 1)) dX6_likeSigns_28 fl_X6_9 am_clsA rfl (tk0 t0) (tr0 t0) ?_
    refine v_iload_n dX6_likeSigns_31 rfl rfl ?_
    refine v_iload dX6_likeSigns_32 rfl ?_
    refine v_iadd dX6_likeSigns_34 b1_1 ?_
    refine v_cald dX6_likeSigns_35 (tk1 t0) b1_2 b1_3 ?_
    refine v_aload_n dX6_likeSigns_36 rfl rfl ?_
    refine v_getR (x := (a2 + 1)) dX6_likeSigns_37 fl_X6_9 am_clsA rfl (tk0 t2) (tr0 t2) ?_
    refine v_iload_n dX6_likeSigns_40 rfl rfl ?_
    refine v_iload dX6_likeSigns_41 rfl ?_
    refine v_iadd dX6_likeSigns_43 b1_4 ?_
    refine v_cald dX6_likeSigns_44 (tk1 t2) b1_5 b1_6 ?_
    refine v_icmp_ne (tgt := 54) dX6_likeSigns_45 (by decide) (fun z => ?_) (fun z => ?_)
    · have k := k.1 z
      refine v_iload dX6_likeSigns_54 rfl ?_
      exact v_iret dX6_likeSigns_56 rfl rfl k
    · have k := k.2 z
      obtain ⟨b2_1, k⟩ := k
      refine v_iinc (E2 := [aR a0, aI x1, aR a2, aI x3, aI x4, aI (x5 + 1)]) dX6_likeSigns_48 rfl b2_1 rfl ?_
      refine v_goto (tgt := 20) dX6_likeSigns_51 (by decide) ?_
      exact k
theorem S_X6_unlikeBeginnings_0 {kc ks : Nat} {h : Hh} {Q : PQ} {X : PX} {a0 : Nat} (t0 : isT a0) {x1 : Int} {x2 : Int}
    (k : am_V M_X6_unlikeBeginnings kc ks 5 [aR a0, aI x1, aI x2, aI 0, aI 0] [] (RM WM wd) h Q X) :
    am_V M_X6_unlikeBeginnings kc ks 0 [aR a0, aI x1, aI x2, aU, aU] [] (RM WM wd) h Q X := by
  refine v_iconst dX6_unlikeBeginnings_0 ⟨by decide, by decide⟩ ?_
  refine v_istore_n (E2 := [aR a0, aI x1, aI x2, aI 0, aU]) dX6_unlikeBeginnings_1 rfl (Nat.le_of_ble_eq_true rfl) rfl ?_
  refine v_iconst dX6_unlikeBeginnings_2 ⟨by decide, by decide⟩ ?_
  refine v_istore (E2 := [aR a0, aI x1, aI x2, aI 0, aI 0]) dX6_unlikeBeginnings_3 (Nat.le_of_ble_eq_true rfl) rfl ?_
  exact k
theorem S_X6_unlikeBeginnings_5 {kc ks : Nat} {h : Hh} {Q : PQ} {X : PX} {a0 : Nat} (t0 : isT a0) {x1 : Int} {x2 : Int} {x3 : Int} {x4 : Int}
    (k : ((x2 < x4 → Q [aI x3] (RM WM wd) h) ∧ (x4 ≤ x2 → ((0 : Int) ≤ x4 ∧ (x4 : Int) < 64) ∧ ((x1 ≤ (h (a0 + 4) x4) → ((-2147483648 ≤ ((x4 + 1) : Int) ∧ ((x4 + 1) : Int) < 2147483648)) ∧ am_V M_X6_unlikeBeginnings kc ks 5 [aR a0, aI x1, aI x2, aI x3, aI (x4 + 1)] [] (RM WM wd) h Q X) ∧ ((h (a0 + 4) x4) < x1 → ((-2147483648 ≤ ((x3 + 1) : Int) ∧ ((x3 + 1) : Int) < 2147483648) ∧ (-2147483648 ≤ ((x4 + 1) : Int) ∧ ((x4 + 1) : Int) < 2147483648)) ∧ am_V M_X6_unlikeBeginnings kc ks 5 [aR a0, aI x1, aI x2, aI (x3 + 1), aI (x4 + 1)] [] (RM WM wd) h Q X))))) :
    am_V M_X6_unlikeBeginnings kc ks 5 [aR a0, aI x1, aI x2, aI x3, aI x4] [] (RM WM wd) h Q X := by
  refine v_iload dX6_unlikeBeginnings_5 rfl ?_
  refine v_iload_n dX6_unlikeBeginnings_7 rfl rfl ?_
  refine v_icmp_gt (tgt := 31) dX6_unlikeBeginnings_8 (by decide) (fun z => ?_) (fun z => ?_)
  · have k := k.1 z
    refine v_iload_n dX6_unlikeBeginnings_31 rfl rfl ?_
    exact v_iret dX6_unlikeBeginnings_32 rfl rfl k
  · have k := k.2 z
    obtain ⟨⟨b1_1, b1_2⟩, k⟩ := k
    refine v_aload_n dX6_unlikeBeginnings_11 rfl rfl ?_
    refine v_getR (x := (a0 + 4)) dX6_unlikeBeginnings_12 fl_X6_22 am_clsA rfl (tk0 t0) (tr3 t0) ?_
    refine v_iload dX6_unlikeBeginnings_15 rfl ?_
    refine v_iald dX6_unlikeBeginnings_17 (tk4 t0) b1_1 b1_2 ?_
    refine v_iload_n dX6_unlikeBeginnings_18 rfl rfl ?_
    refine v_icmp_ge (tgt := 25) dX6_unlikeBeginnings_19 (by decide) (fun z => ?_) (fun z => ?_)
    · have k := k.1 z
      obtain ⟨b2_1, k⟩ := k
      refine v_iinc (E2 := [aR a0, aI x1, aI x2, aI x3, aI (x4 + 1)]) dX6_unlikeBeginnings_25 rfl b2_1 rfl ?_
      refine v_goto (tgt := 5) dX6_unlikeBeginnings_28 (by decide) ?_
      exact k
    · have k := k.2 z
      obtain ⟨⟨b2_1, b2_2⟩, k⟩ := k
      refine v_iinc (E2 := [aR a0, aI x1, aI x2, aI (x3 + 1), aI x4]) dX6_unlikeBeginnings_22 rfl b2_1 rfl ?_
      refine v_iinc (E2 := [aR a0, aI x1, aI x2, aI (x3 + 1), aI (x4 + 1)]) dX6_unlikeBeginnings_25 rfl b2_2 rfl ?_
      refine v_goto (tgt := 5) dX6_unlikeBeginnings_28 (by decide) ?_
      exact k
theorem S_X6_greatestCommon_0 {kc ks : Nat} {h : Hh} {Q : PQ} {X : PX} {a0 : Nat} (t0 : isT a0)
    (k : am_V M_X6_greatestCommon kc ks 4 [aR a0, aI 0, aI 0] [] (RM WM wd) h Q X) :
    am_V M_X6_greatestCommon kc ks 0 [aR a0, aU, aU] [] (RM WM wd) h Q X := by
  refine v_iconst dX6_greatestCommon_0 ⟨by decide, by decide⟩ ?_
  refine v_istore_n (E2 := [aR a0, aI 0, aU]) dX6_greatestCommon_1 rfl (Nat.le_of_ble_eq_true rfl) rfl ?_
  refine v_iconst dX6_greatestCommon_2 ⟨by decide, by decide⟩ ?_
  refine v_istore_n (E2 := [aR a0, aI 0, aI 0]) dX6_greatestCommon_3 rfl (Nat.le_of_ble_eq_true rfl) rfl ?_
  exact k
theorem S_X6_greatestCommon_4 {kc ks : Nat} {h : Hh} {Q : PQ} {X : PX} {a0 : Nat} (t0 : isT a0) {x1 : Int} {x2 : Int}
    (k : (((h a0 4) ≤ x2 → Q [aI x1] (RM WM wd) h) ∧ (x2 < (h a0 4) → ((0 : Int) ≤ x2 ∧ (x2 : Int) < 64 ∧ (-2147483648 ≤ ((x2 + 1) : Int) ∧ ((x2 + 1) : Int) < 2147483648)) ∧ am_V M_X6_greatestCommon kc ks 4 [aR a0, aI (max x1 (h (a0 + 4) x2)), aI (x2 + 1)] [] (RM WM wd) h Q X))) :
    am_V M_X6_greatestCommon kc ks 4 [aR a0, aI x1, aI x2] [] (RM WM wd) h Q X := by
  refine v_iload_n dX6_greatestCommon_4 rfl rfl ?_
  refine v_aload_n dX6_greatestCommon_5 rfl rfl ?_
  refine v_getI (j := 4) dX6_greatestCommon_6 fl_X6_25 am_clsA rfl rfl (tk0 t0) ?_
  refine v_icmp_ge (tgt := 29) dX6_greatestCommon_9 (by decide) (fun z => ?_) (fun z => ?_)
  · have k := k.1 z
    refine v_iload_n dX6_greatestCommon_29 rfl rfl ?_
    exact v_iret dX6_greatestCommon_30 rfl rfl k
  · have k := k.2 z
    obtain ⟨⟨b1_1, b1_2, b1_3⟩, k⟩ := k
    refine v_iload_n dX6_greatestCommon_12 rfl rfl ?_
    refine v_aload_n dX6_greatestCommon_13 rfl rfl ?_
    refine v_getR (x := (a0 + 4)) dX6_greatestCommon_14 fl_X6_22 am_clsA rfl (tk0 t0) (tr3 t0) ?_
    refine v_iload_n dX6_greatestCommon_17 rfl rfl ?_
    refine v_iald dX6_greatestCommon_18 (tk4 t0) b1_1 b1_2 ?_
    refine v_mmax dX6_greatestCommon_19 mm_X6_39 (by decide) (Nat.le_of_ble_eq_true rfl) ?_
    refine v_istore_n (E2 := [aR a0, aI (max x1 (h (a0 + 4) x2)), aI x2]) dX6_greatestCommon_22 rfl (Nat.le_of_ble_eq_true rfl) rfl ?_
    refine v_iinc (E2 := [aR a0, aI (max x1 (h (a0 + 4) x2)), aI (x2 + 1)]) dX6_greatestCommon_23 rfl b1_3 rfl ?_
    refine v_goto (tgt := 4) dX6_greatestCommon_26 (by decide) ?_
    exact k
theorem S_X6_againstWord_0 {kc ks : Nat} {h : Hh} {Q : PQ} {X : PX} {a0 : Nat} (t0 : isT a0) {x1 : Int} {x3 : Int}
    (k : ((-2147483648 ≤ (((h 2 1) - x3) : Int) ∧ (((h 2 1) - x3) : Int) < 2147483648) ∧ (-2147483648 ≤ (((h a0 4) - x1) : Int) ∧ (((h a0 4) - x1) : Int) < 2147483648)) ∧ am_V M_X6_againstWord kc ks 24 [aR a0, aI x1, aR 2, aI x3, aI ((h 2 1) - x3), aI (min ((h a0 4) - x1) ((h 2 1) - x3)), aI 0, aU] [] (RM WM wd) h Q X) :
    am_V M_X6_againstWord kc ks 0 [aR a0, aI x1, aR 2, aI x3, aU, aU, aU, aU] [] (RM WM wd) h Q X := by
  obtain ⟨⟨b0_1, b0_2⟩, k⟩ := k
  refine v_aload_n dX6_againstWord_0 rfl rfl ?_
  refine v_getI (j := 1) dX6_againstWord_1 fl_X6_42 am_clsA rfl rfl rfl ?_
  refine v_iload_n dX6_againstWord_4 rfl rfl ?_
  refine v_isub dX6_againstWord_5 b0_1 ?_
  refine v_istore (E2 := [aR a0, aI x1, aR 2, aI x3, aI ((h 2 1) - x3), aU, aU, aU]) dX6_againstWord_6 (Nat.le_of_ble_eq_true rfl) rfl ?_
  refine v_aload_n dX6_againstWord_8 rfl rfl ?_
  refine v_getI (j := 4) dX6_againstWord_9 fl_X6_25 am_clsA rfl rfl (tk0 t0) ?_
  refine v_iload_n dX6_againstWord_12 rfl rfl ?_
  refine v_isub dX6_againstWord_13 b0_2 ?_
  refine v_iload dX6_againstWord_14 rfl ?_
  refine v_mmin dX6_againstWord_16 mm_X6_29 (by decide) (Nat.le_of_ble_eq_true rfl) ?_
  refine v_istore (E2 := [aR a0, aI x1, aR 2, aI x3, aI ((h 2 1) - x3), aI (min ((h a0 4) - x1) ((h 2 1) - x3)), aU, aU]) dX6_againstWord_19 (Nat.le_of_ble_eq_true rfl) rfl ?_
  refine v_iconst dX6_againstWord_21 ⟨by decide, by decide⟩ ?_
  refine v_istore (E2 := [aR a0, aI x1, aR 2, aI x3, aI ((h 2 1) - x3), aI (min ((h a0 4) - x1) ((h 2 1) - x3)), aI 0, aU]) dX6_againstWord_22 (Nat.le_of_ble_eq_true rfl) rfl ?_
  exact k
theorem S_X6_againstWord_24 {kc ks : Nat} {h : Hh} {Q : PQ} {X : PX} {a0 : Nat} (t0 : isT a0) {x1 : Int} {x3 : Int} {x4 : Int} {x5 : Int} {x6 : Int}
    (k : ((x5 ≤ x6 → ((-2147483648 ≤ ((x5 - x4) : Int) ∧ ((x5 - x4) : Int) < 2147483648)) ∧ Q [aI (x5 - x4)] (RM WM wd) h) ∧ (x6 < x5 → ((-2147483648 ≤ ((x1 + x6) : Int) ∧ ((x1 + x6) : Int) < 2147483648) ∧ (0 : Int) ≤ (x1 + x6) ∧ ((x1 + x6) : Int) < 64 ∧ (-2147483648 ≤ ((x3 + x6) : Int) ∧ ((x3 + x6) : Int) < 2147483648) ∧ (0 : Int) ≤ (x3 + x6) ∧ ((x3 + x6) : Int) < 65 ∧ (-2147483648 ≤ (((h (a0 + 1) (x1 + x6)) - (h 3 (x3 + x6))) : Int) ∧ (((h (a0 + 1) (x1 + x6)) - (h 3 (x3 + x6))) : Int) < 2147483648)) ∧ ((((h (a0 + 1) (x1 + x6)) - (h 3 (x3 + x6))) = 0 → ((-2147483648 ≤ ((x6 + 1) : Int) ∧ ((x6 + 1) : Int) < 2147483648)) ∧ am_V M_X6_againstWord kc ks 24 [aR a0, aI x1, aR 2, aI x3, aI x4, aI x5, aI (x6 + 1), aU] [] (RM WM wd) h Q X) ∧ (((h (a0 + 1) (x1 + x6)) - (h 3 (x3 + x6))) ≠ 0 → Q [aI ((h (a0 + 1) (x1 + x6)) - (h 3 (x3 + x6)))] (RM WM wd) h))))) :
    am_V M_X6_againstWord kc ks 24 [aR a0, aI x1, aR 2, aI x3, aI x4, aI x5, aI x6, aU] [] (RM WM wd) h Q X := by
  refine v_iload dX6_againstWord_24 rfl ?_
  refine v_iload dX6_againstWord_26 rfl ?_
  refine v_icmp_ge (tgt := 66) dX6_againstWord_28 (by decide) (fun z => ?_) (fun z => ?_)
  · have k := k.1 z
    obtain ⟨b1_1, k⟩ := k
    refine v_iload dX6_againstWord_66 rfl ?_
    refine v_iload dX6_againstWord_68 rfl ?_
    refine v_isub dX6_againstWord_70 b1_1 ?_
    exact v_iret dX6_againstWord_71 rfl rfl k
  · have k := k.2 z
    obtain ⟨⟨b1_1, b1_2, b1_3, b1_4, b1_5, b1_6, b1_7⟩, k⟩ := k
    refine v_aload_n dX6_againstWord_31 rfl rfl ?_
    refine v_getR (x := (a0 + 1)) dX6_againstWord_32 fl_X6_9 am_clsA rfl (tk0 t0) (tr0 t0) ?_
    refine v_iload_n dX6_againstWord_35 rfl rfl ?_
    refine v_iload dX6_againstWord_36 rfl ?_
    refine v_iadd dX6_againstWord_38 b1_1 ?_
    refine v_cald dX6_againstWord_39 (tk1 t0) b1_2 b1_3 ?_
    refine v_aload_n dX6_againstWord_40 rfl rfl ?_
    refine v_getR (x := 3) dX6_againstWord_41 fl_X6_45 am_clsA rfl rfl rfl ?_
    refine v_iload_n dX6_againstWord_44 rfl rfl ?_
    refine v_iload dX6_againstWord_45 rfl ?_
    refine v_iadd dX6_againstWord_47 b1_4 ?_
    refine v_cald dX6_againstWord_48 rfl b1_5 b1_6 ?_
    refine v_isub dX6_againstWord_49 b1_7 ?_
    refine v_istore (E2 := [aR a0, aI x1, aR 2, aI x3, aI x4, aI x5, aI x6, aI ((h (a0 + 1) (x1 + x6)) - (h 3 (x3 + x6)))]) dX6_againstWord_50 (Nat.le_of_ble_eq_true rfl) rfl ?_
    refine v_iload dX6_againstWord_52 rfl ?_
    refine v_if_eq (tgt := 60) dX6_againstWord_54 (by decide) (fun z => ?_) (fun z => ?_)
    · have k := k.1 z
      obtain ⟨b2_1, k⟩ := k
      refine v_iinc (E2 := [aR a0, aI x1, aR 2, aI x3, aI x4, aI x5, aI (x6 + 1), aI ((h (a0 + 1) (x1 + x6)) - (h 3 (x3 + x6)))]) dX6_againstWord_60 rfl b2_1 rfl ?_
      refine v_goto (tgt := 24) dX6_againstWord_63 (by decide) ?_
      refine v_weak (E2 := [aR a0, aI x1, aR 2, aI x3, aI x4, aI x5, aI (x6 + 1), aU]) ⟨Or.inl rfl, ⟨Or.inl rfl, ⟨Or.inl rfl, ⟨Or.inl rfl, ⟨Or.inl rfl, ⟨Or.inl rfl, ⟨Or.inl rfl, ⟨Or.inr rfl, trivial⟩⟩⟩⟩⟩⟩⟩⟩ ?_
      exact k
    · have k := k.2 z
      refine v_iload dX6_againstWord_57 rfl ?_
      exact v_iret dX6_againstWord_59 rfl rfl k
theorem S_X6_endsBelow_0 {kc ks : Nat} {h : Hh} {Q : PQ} {X : PX} {a0 : Nat} (t0 : isT a0) {x2 : Int}
    (k : am_V M_X6_endsUnder 0 0 0 [aR a0, aR 2, aI x2, aI 0, aU, aU, aU] [] (RM WM wd) h (fun v ρ' h' => am_V M_X6_endsBelow kc ks 7 [aU, aU, aU] (v ++ []) ρ' h' Q X) X) :
    am_V M_X6_endsBelow kc ks 0 [aR a0, aR 2, aI x2] [] (RM WM wd) h Q X := by
  refine v_aload_n dX6_endsBelow_0 rfl rfl ?_
  refine v_aload_n dX6_endsBelow_1 rfl rfl ?_
  refine v_iload_n dX6_endsBelow_2 rfl rfl ?_
  refine v_iconst dX6_endsBelow_3 ⟨by decide, by decide⟩ ?_
  refine v_weak (E2 := [aU, aU, aU]) ⟨Or.inr rfl, ⟨Or.inr rfl, ⟨Or.inr rfl, trivial⟩⟩⟩ ?_
  exact v_callV (j := M_X6_endsUnder) (As := [aR 2, aI x2, aI 0]) (st := []) (E0 := [aR a0, aR 2, aI x2, aI 0, aU, aU, aU]) (a := a0) (ci := 4) (N := 5) (q9 := (RX6, TX6, 5)) dX6_endsBelow_4 ml_X6_46 J_X6_endsUnder (Nat.zero_le _) (Nat.zero_le _) (Nat.le_of_ble_eq_true rfl) rfl (Nat.le_of_ble_eq_true rfl) (List.forall_mem_cons.mpr ⟨rfl, List.forall_mem_cons.mpr ⟨rfl, List.forall_mem_cons.mpr ⟨rfl, List.forall_mem_cons.mpr ⟨rfl, fun _ h9 => absurd h9 List.not_mem_nil⟩⟩⟩⟩) (Nat.le_of_ble_eq_true rfl) rfl (tk0 t0) rfl rfl pn_X6_endsUnder rfl k
theorem S_X6_endsBelow_7 {kc ks : Nat} {h : Hh} {Q : PQ} {X : PX} {xs0 : Int}
    (k : Q [aI xs0] (RM WM wd) h) :
    am_V M_X6_endsBelow kc ks 7 [aU, aU, aU] [aI xs0] (RM WM wd) h Q X := by
  exact v_iret dX6_endsBelow_7 rfl rfl k
theorem S_X6_endsUpTo_0 {kc ks : Nat} {h : Hh} {Q : PQ} {X : PX} {a0 : Nat} (t0 : isT a0) {x2 : Int}
    (k : am_V M_X6_endsUnder 0 0 0 [aR a0, aR 2, aI x2, aI 1, aU, aU, aU] [] (RM WM wd) h (fun v ρ' h' => am_V M_X6_endsUpTo kc ks 7 [aU, aU, aU] (v ++ []) ρ' h' Q X) X) :
    am_V M_X6_endsUpTo kc ks 0 [aR a0, aR 2, aI x2] [] (RM WM wd) h Q X := by
  refine v_aload_n dX6_endsUpTo_0 rfl rfl ?_
  refine v_aload_n dX6_endsUpTo_1 rfl rfl ?_
  refine v_iload_n dX6_endsUpTo_2 rfl rfl ?_
  refine v_iconst dX6_endsUpTo_3 ⟨by decide, by decide⟩ ?_
  refine v_weak (E2 := [aU, aU, aU]) ⟨Or.inr rfl, ⟨Or.inr rfl, ⟨Or.inr rfl, trivial⟩⟩⟩ ?_
  exact v_callV (j := M_X6_endsUnder) (As := [aR 2, aI x2, aI 1]) (st := []) (E0 := [aR a0, aR 2, aI x2, aI 1, aU, aU, aU]) (a := a0) (ci := 4) (N := 5) (q9 := (RX6, TX6, 5)) dX6_endsUpTo_4 ml_X6_46 J_X6_endsUnder (Nat.zero_le _) (Nat.zero_le _) (Nat.le_of_ble_eq_true rfl) rfl (Nat.le_of_ble_eq_true rfl) (List.forall_mem_cons.mpr ⟨rfl, List.forall_mem_cons.mpr ⟨rfl, List.forall_mem_cons.mpr ⟨rfl, List.forall_mem_cons.mpr ⟨rfl, fun _ h9 => absurd h9 List.not_mem_nil⟩⟩⟩⟩) (Nat.le_of_ble_eq_true rfl) rfl (tk0 t0) rfl rfl pn_X6_endsUnder rfl k
theorem S_X6_endsUpTo_7 {kc ks : Nat} {h : Hh} {Q : PQ} {X : PX} {xs0 : Int}
    (k : Q [aI xs0] (RM WM wd) h) :
    am_V M_X6_endsUpTo kc ks 7 [aU, aU, aU] [aI xs0] (RM WM wd) h Q X := by
  exact v_iret dX6_endsUpTo_7 rfl rfl k
theorem S_X6_endsUnder_0 {kc ks : Nat} {h : Hh} {Q : PQ} {X : PX} {a0 : Nat} (t0 : isT a0) {x2 : Int} {x3 : Int}
    (k : am_V M_X6_endsUnder kc ks 9 [aR a0, aR 2, aI x2, aI x3, aI 0, aI (h a0 4), aU] [] (RM WM wd) h Q X) :
    am_V M_X6_endsUnder kc ks 0 [aR a0, aR 2, aI x2, aI x3, aU, aU, aU] [] (RM WM wd) h Q X := by
  refine v_iconst dX6_endsUnder_0 ⟨by decide, by decide⟩ ?_
  refine v_istore (E2 := [aR a0, aR 2, aI x2, aI x3, aI 0, aU, aU]) dX6_endsUnder_1 (Nat.le_of_ble_eq_true rfl) rfl ?_
  refine v_aload_n dX6_endsUnder_3 rfl rfl ?_
  refine v_getI (j := 4) dX6_endsUnder_4 fl_X6_25 am_clsA rfl rfl (tk0 t0) ?_
  refine v_istore (E2 := [aR a0, aR 2, aI x2, aI x3, aI 0, aI (h a0 4), aU]) dX6_endsUnder_7 (Nat.le_of_ble_eq_true rfl) rfl ?_
  exact k
theorem S_X6_endsUnder_9 {kc ks : Nat} {h : Hh} {Q : PQ} {X : PX} {a0 : Nat} (t0 : isT a0) {x2 : Int} {x3 : Int} {x4 : Int} {x5 : Int}
    (k : ((x5 ≤ x4 → Q [aI x4] (RM WM wd) h) ∧ (x4 < x5 → ((-2147483648 ≤ ((x4 + x5) : Int) ∧ ((x4 + x5) : Int) < 2147483648) ∧ (0 : Int) ≤ (x4 + x5) ∧ (0 : Int) < 2 ∧ (0 : Int) ≤ ((x4 + x5) / 2) ∧ (((x4 + x5) / 2) : Int) < 64) ∧ am_V M_X6_againstWord 0 0 0 [aR a0, aI (h (a0 + 2) ((x4 + x5) / 2)), aR 2, aI x2, aU, aU, aU, aU] [] (RM WM wd) h (fun v ρ' h' => am_V M_X6_endsUnder kc ks 38 [aR a0, aR 2, aI x2, aI x3, aI x4, aI x5, aI ((x4 + x5) / 2)] (v ++ []) ρ' h' Q X) X))) :
    am_V M_X6_endsUnder kc ks 9 [aR a0, aR 2, aI x2, aI x3, aI x4, aI x5, aU] [] (RM WM wd) h Q X := by
  refine v_iload dX6_endsUnder_9 rfl ?_
  refine v_iload dX6_endsUnder_11 rfl ?_
  refine v_icmp_ge (tgt := 58) dX6_endsUnder_13 (by decide) (fun z => ?_) (fun z => ?_)
  · have k := k.1 z
    refine v_iload dX6_endsUnder_58 rfl ?_
    exact v_iret dX6_endsUnder_60 rfl rfl k
  · have k := k.2 z
    obtain ⟨⟨b1_1, b1_2, b1_3, b1_4, b1_5⟩, k⟩ := k
    refine v_iload dX6_endsUnder_16 rfl ?_
    refine v_iload dX6_endsUnder_18 rfl ?_
    refine v_iadd dX6_endsUnder_20 b1_1 ?_
    refine v_iconst dX6_endsUnder_21 ⟨by decide, by decide⟩ ?_
    refine v_idiv dX6_endsUnder_22 b1_2 b1_3 ?_
    refine v_istore (E2 := [aR a0, aR 2, aI x2, aI x3, aI x4, aI x5, aI ((x4 + x5) / 2)]) dX6_endsUnder_23 (Nat.le_of_ble_eq_true rfl) rfl ?_
    refine v_aload_n dX6_endsUnder_25 rfl rfl ?_
    refine v_aload_n dX6_endsUnder_26 rfl rfl ?_
    refine v_getR (x := (a0 + 2)) dX6_endsUnder_27 fl_X6_15 am_clsA rfl (tk0 t0) (tr1 t0) ?_
    refine v_iload dX6_endsUnder_30 rfl ?_
    refine v_iald dX6_endsUnder_32 (tk2 t0) b1_4 b1_5 ?_
    refine v_aload_n dX6_endsUnder_33 rfl rfl ?_
    refine v_iload_n dX6_endsUnder_34 rfl rfl ?_
    exact v_callV (j := M_X6_againstWord) (As := [aI (h (a0 + 2) ((x4 + x5) / 2)), aR 2, aI x2]) (st := []) (E0 := [aR a0, aI (h (a0 + 2) ((x4 + x5) / 2)), aR 2, aI x2, aU, aU, aU, aU]) (a := a0) (ci := 4) (N := 5) (q9 := (RX6, TX6, 5)) dX6_endsUnder_35 ml_X6_50 J_X6_againstWord (Nat.zero_le _) (Nat.zero_le _) (Nat.le_of_ble_eq_true rfl) rfl (Nat.le_of_ble_eq_true rfl) (List.forall_mem_cons.mpr ⟨rfl, List.forall_mem_cons.mpr ⟨rfl, List.forall_mem_cons.mpr ⟨rfl, List.forall_mem_cons.mpr ⟨rfl, fun _ h9 => absurd h9 List.not_mem_nil⟩⟩⟩⟩) (Nat.le_of_ble_eq_true rfl) rfl (tk0 t0) rfl rfl pn_X6_againstWord rfl k
theorem S_X6_endsUnder_38 {kc ks : Nat} {h : Hh} {Q : PQ} {X : PX} {a0 : Nat} (t0 : isT a0) {x2 : Int} {x3 : Int} {x4 : Int} {x5 : Int} {x6 : Int} {xs0 : Int}
    (k : ((x3 ≤ xs0 → am_V M_X6_endsUnder kc ks 9 [aR a0, aR 2, aI x2, aI x3, aI x4, aI x6, aU] [] (RM WM wd) h Q X) ∧ (xs0 < x3 → ((-2147483648 ≤ ((x6 + 1) : Int) ∧ ((x6 + 1) : Int) < 2147483648)) ∧ am_V M_X6_endsUnder kc ks 9 [aR a0, aR 2, aI x2, aI x3, aI (x6 + 1), aI x5, aU] [] (RM WM wd) h Q X))) :
    am_V M_X6_endsUnder kc ks 38 [aR a0, aR 2, aI x2, aI x3, aI x4, aI x5, aI x6] [aI xs0] (RM WM wd) h Q X := by
  refine v_iload_n dX6_endsUnder_38 rfl rfl ?_
  refine v_icmp_ge (tgt := 51) dX6_endsUnder_39 (by decide) (fun z => ?_) (fun z => ?_)
  · have k := k.1 z
    refine v_iload dX6_endsUnder_51 rfl ?_
    refine v_istore (E2 := [aR a0, aR 2, aI x2, aI x3, aI x4, aI x6, aI x6]) dX6_endsUnder_53 (Nat.le_of_ble_eq_true rfl) rfl ?_
    refine v_goto (tgt := 9) dX6_endsUnder_55 (by decide) ?_
    refine v_weak (E2 := [aR a0, aR 2, aI x2, aI x3, aI x4, aI x6, aU]) ⟨Or.inl rfl, ⟨Or.inl rfl, ⟨Or.inl rfl, ⟨Or.inl rfl, ⟨Or.inl rfl, ⟨Or.inl rfl, ⟨Or.inr rfl, trivial⟩⟩⟩⟩⟩⟩⟩ ?_
    exact k
  · have k := k.2 z
    obtain ⟨b1_1, k⟩ := k
    refine v_iload dX6_endsUnder_42 rfl ?_
    refine v_iconst dX6_endsUnder_44 ⟨by decide, by decide⟩ ?_
    refine v_iadd dX6_endsUnder_45 b1_1 ?_
    refine v_istore (E2 := [aR a0, aR 2, aI x2, aI x3, aI (x6 + 1), aI x5, aI x6]) dX6_endsUnder_46 (Nat.le_of_ble_eq_true rfl) rfl ?_
    refine v_goto (tgt := 55) dX6_endsUnder_48 (by decide) ?_
    refine v_goto (tgt := 9) dX6_endsUnder_55 (by decide) ?_
    refine v_weak (E2 := [aR a0, aR 2, aI x2, aI x3, aI (x6 + 1), aI x5, aU]) ⟨Or.inl rfl, ⟨Or.inl rfl, ⟨Or.inl rfl, ⟨Or.inl rfl, ⟨Or.inl rfl, ⟨Or.inl rfl, ⟨Or.inr rfl, trivial⟩⟩⟩⟩⟩⟩⟩ ?_
    exact k
theorem S_X6_risingPlace_0 {kc ks : Nat} {h : Hh} {Q : PQ} {X : PX} {a0 : Nat} (t0 : isT a0) {x1 : Int} {x2 : Int} {x3 : Int}
    (k : am_V M_X6_risingPlace kc ks 6 [aR a0, aI x1, aI x2, aI x3, aI 0, aI 0] [] (RM WM wd) h Q X) :
    am_V M_X6_risingPlace kc ks 0 [aR a0, aI x1, aI x2, aI x3, aU, aU] [] (RM WM wd) h Q X := by
  refine v_iconst dX6_risingPlace_0 ⟨by decide, by decide⟩ ?_
  refine v_istore (E2 := [aR a0, aI x1, aI x2, aI x3, aI 0, aU]) dX6_risingPlace_1 (Nat.le_of_ble_eq_true rfl) rfl ?_
  refine v_iconst dX6_risingPlace_3 ⟨by decide, by decide⟩ ?_
  refine v_istore (E2 := [aR a0, aI x1, aI x2, aI x3, aI 0, aI 0]) dX6_risingPlace_4 (Nat.le_of_ble_eq_true rfl) rfl ?_
  exact k
theorem S_X6_risingPlace_6 {kc ks : Nat} {h : Hh} {Q : PQ} {X : PX} {a0 : Nat} (t0 : isT a0) {x1 : Int} {x2 : Int} {x3 : Int} {x4 : Int} {x5 : Int}
    (k : (((h a0 4) ≤ x5 → Q [aI (h a0 4)] (RM WM wd) h) ∧ (x5 < (h a0 4) → ((0 : Int) ≤ x5 ∧ (x5 : Int) < 64) ∧ (((h (a0 + 3) x5) < x1 → ((-2147483648 ≤ ((x5 + 1) : Int) ∧ ((x5 + 1) : Int) < 2147483648)) ∧ am_V M_X6_risingPlace kc ks 6 [aR a0, aI x1, aI x2, aI x3, aI x4, aI (x5 + 1)] [] (RM WM wd) h Q X) ∧ (x1 ≤ (h (a0 + 3) x5) → ((0 : Int) ≤ x5 ∧ (x5 : Int) < 64) ∧ ((x2 ≤ (h (a0 + 3) x5) → ((-2147483648 ≤ ((x5 + 1) : Int) ∧ ((x5 + 1) : Int) < 2147483648)) ∧ am_V M_X6_risingPlace kc ks 6 [aR a0, aI x1, aI x2, aI x3, aI x4, aI (x5 + 1)] [] (RM WM wd) h Q X) ∧ ((h (a0 + 3) x5) < x2 → ((x4 ≠ x3 → ((-2147483648 ≤ ((x4 + 1) : Int) ∧ ((x4 + 1) : Int) < 2147483648) ∧ (-2147483648 ≤ ((x5 + 1) : Int) ∧ ((x5 + 1) : Int) < 2147483648)) ∧ am_V M_X6_risingPlace kc ks 6 [aR a0, aI x1, aI x2, aI x3, aI (x4 + 1), aI (x5 + 1)] [] (RM WM wd) h Q X) ∧ (x4 = x3 → Q [aI x5] (RM WM wd) h))))))))) :
    am_V M_X6_risingPlace kc ks 6 [aR a0, aI x1, aI x2, aI x3, aI x4, aI x5] [] (RM WM wd) h Q X := by
  refine v_iload dX6_risingPlace_6 rfl ?_
  refine v_aload_n dX6_risingPlace_8 rfl rfl ?_
  refine v_getI (j := 4) dX6_risingPlace_9 fl_X6_25 am_clsA rfl rfl (tk0 t0) ?_
  refine v_icmp_ge (tgt := 55) dX6_risingPlace_12 (by decide) (fun z => ?_) (fun z => ?_)
  · have k := k.1 z
    refine v_aload_n dX6_risingPlace_55 rfl rfl ?_
    refine v_getI (j := 4) dX6_risingPlace_56 fl_X6_25 am_clsA rfl rfl (tk0 t0) ?_
    exact v_iret dX6_risingPlace_59 rfl rfl k
  · have k := k.2 z
    obtain ⟨⟨b1_1, b1_2⟩, k⟩ := k
    refine v_aload_n dX6_risingPlace_15 rfl rfl ?_
    refine v_getR (x := (a0 + 3)) dX6_risingPlace_16 fl_X6_19 am_clsA rfl (tk0 t0) (tr2 t0) ?_
    refine v_iload dX6_risingPlace_19 rfl ?_
    refine v_iald dX6_risingPlace_21 (tk3 t0) b1_1 b1_2 ?_
    refine v_iload_n dX6_risingPlace_22 rfl rfl ?_
    refine v_icmp_lt (tgt := 49) dX6_risingPlace_23 (by decide) (fun z => ?_) (fun z => ?_)
    · have k := k.1 z
      obtain ⟨b2_1, k⟩ := k
      refine v_iinc (E2 := [aR a0, aI x1, aI x2, aI x3, aI x4, aI (x5 + 1)]) dX6_risingPlace_49 rfl b2_1 rfl ?_
      refine v_goto (tgt := 6) dX6_risingPlace_52 (by decide) ?_
      exact k
    · have k := k.2 z
      obtain ⟨⟨b2_1, b2_2⟩, k⟩ := k
      refine v_aload_n dX6_risingPlace_26 rfl rfl ?_
      refine v_getR (x := (a0 + 3)) dX6_risingPlace_27 fl_X6_19 am_clsA rfl (tk0 t0) (tr2 t0) ?_
      refine v_iload dX6_risingPlace_30 rfl ?_
      refine v_iald dX6_risingPlace_32 (tk3 t0) b2_1 b2_2 ?_
      refine v_iload_n dX6_risingPlace_33 rfl rfl ?_
      refine v_icmp_ge (tgt := 49) dX6_risingPlace_34 (by decide) (fun z => ?_) (fun z => ?_)
      · have k := k.1 z
        obtain ⟨b3_1, k⟩ := k
        refine v_iinc (E2 := [aR a0, aI x1, aI x2, aI x3, aI x4, aI (x5 + 1)]) dX6_risingPlace_49 rfl b3_1 rfl ?_
        refine v_goto (tgt := 6) dX6_risingPlace_52 (by decide) ?_
        exact k
      · have k := k.2 z
        refine v_iload dX6_risingPlace_37 rfl ?_
        refine v_iload_n dX6_risingPlace_39 rfl rfl ?_
        refine v_icmp_ne (tgt := 46) dX6_risingPlace_40 (by decide) (fun z => ?_) (fun z => ?_)
        · have k := k.1 z
          obtain ⟨⟨b4_1, b4_2⟩, k⟩ := k
          refine v_iinc (E2 := [aR a0, aI x1, aI x2, aI x3, aI (x4 + 1), aI x5]) dX6_risingPlace_46 rfl b4_1 rfl ?_
          refine v_iinc (E2 := [aR a0, aI x1, aI x2, aI x3, aI (x4 + 1), aI (x5 + 1)]) dX6_risingPlace_49 rfl b4_2 rfl ?_
          refine v_goto (tgt := 6) dX6_risingPlace_52 (by decide) ?_
          exact k
        · have k := k.2 z
          refine v_iload dX6_risingPlace_43 rfl ?_
          exact v_iret dX6_risingPlace_45 rfl rfl k
theorem S_X6_newWordsBelow_0 {kc ks : Nat} {h : Hh} {Q : PQ} {X : PX} {a0 : Nat} (t0 : isT a0) {x1 : Int}
    (k : am_V M_X6_newWordsBelow kc ks 4 [aR a0, aI x1, aI 0, aI 0] [] (RM WM wd) h Q X) :
    am_V M_X6_newWordsBelow kc ks 0 [aR a0, aI x1, aU, aU] [] (RM WM wd) h Q X := by
  refine v_iconst dX6_newWordsBelow_0 ⟨by decide, by decide⟩ ?_
  refine v_istore_n (E2 := [aR a0, aI x1, aI 0, aU]) dX6_newWordsBelow_1 rfl (Nat.le_of_ble_eq_true rfl) rfl ?_
  refine v_iconst dX6_newWordsBelow_2 ⟨by decide, by decide⟩ ?_
  refine v_istore_n (E2 := [aR a0, aI x1, aI 0, aI 0]) dX6_newWordsBelow_3 rfl (Nat.le_of_ble_eq_true rfl) rfl ?_
  exact k
theorem S_X6_newWordsBelow_4 {kc ks : Nat} {h : Hh} {Q : PQ} {X : PX} {a0 : Nat} (t0 : isT a0) {x1 : Int} {x2 : Int} {x3 : Int}
    (k : ((x1 ≤ x3 → Q [aI x2] (RM WM wd) h) ∧ (x3 < x1 → ((0 : Int) ≤ x3 ∧ (x3 : Int) < 64 ∧ (-2147483648 ≤ (((h a0 4) - (h (a0 + 2) x3)) : Int) ∧ (((h a0 4) - (h (a0 + 2) x3)) : Int) < 2147483648) ∧ (0 : Int) ≤ x3 ∧ (x3 : Int) < 64 ∧ (-2147483648 ≤ ((((h a0 4) - (h (a0 + 2) x3)) - (h (a0 + 4) x3)) : Int) ∧ ((((h a0 4) - (h (a0 + 2) x3)) - (h (a0 + 4) x3)) : Int) < 2147483648) ∧ (-2147483648 ≤ ((x2 + (((h a0 4) - (h (a0 + 2) x3)) - (h (a0 + 4) x3))) : Int) ∧ ((x2 + (((h a0 4) - (h (a0 + 2) x3)) - (h (a0 + 4) x3))) : Int) < 2147483648) ∧ (-2147483648 ≤ ((x3 + 1) : Int) ∧ ((x3 + 1) : Int) < 2147483648)) ∧ am_V M_X6_newWordsBelow kc ks 4 [aR a0, aI x1, aI (x2 + (((h a0 4) - (h (a0 + 2) x3)) - (h (a0 + 4) x3))), aI (x3 + 1)] [] (RM WM wd) h Q X))) :
    am_V M_X6_newWordsBelow kc ks 4 [aR a0, aI x1, aI x2, aI x3] [] (RM WM wd) h Q X := by
  refine v_iload_n dX6_newWordsBelow_4 rfl rfl ?_
  refine v_iload_n dX6_newWordsBelow_5 rfl rfl ?_
  refine v_icmp_ge (tgt := 36) dX6_newWordsBelow_6 (by decide) (fun z => ?_) (fun z => ?_)
  · have k := k.1 z
    refine v_iload_n dX6_newWordsBelow_36 rfl rfl ?_
    exact v_iret dX6_newWordsBelow_37 rfl rfl k
  · have k := k.2 z
    obtain ⟨⟨b1_1, b1_2, b1_3, b1_4, b1_5, b1_6, b1_7, b1_8⟩, k⟩ := k
    refine v_iload_n dX6_newWordsBelow_9 rfl rfl ?_
    refine v_aload_n dX6_newWordsBelow_10 rfl rfl ?_
    refine v_getI (j := 4) dX6_newWordsBelow_11 fl_X6_25 am_clsA rfl rfl (tk0 t0) ?_
    refine v_aload_n dX6_newWordsBelow_14 rfl rfl ?_
    refine v_getR (x := (a0 + 2)) dX6_newWordsBelow_15 fl_X6_15 am_clsA rfl (tk0 t0) (tr1 t0) ?_
    refine v_iload_n dX6_newWordsBelow_18 rfl rfl ?_
    refine v_iald dX6_newWordsBelow_19 (tk2 t0) b1_1 b1_2 ?_
    refine v_isub dX6_newWordsBelow_20 b1_3 ?_
    refine v_aload_n dX6_newWordsBelow_21 rfl rfl ?_
    refine v_getR (x := (a0 + 4)) dX6_newWordsBelow_22 fl_X6_22 am_clsA rfl (tk0 t0) (tr3 t0) ?_
    refine v_iload_n dX6_newWordsBelow_25 rfl rfl ?_
    refine v_iald dX6_newWordsBelow_26 (tk4 t0) b1_4 b1_5 ?_
    refine v_isub dX6_newWordsBelow_27 b1_6 ?_
    refine v_iadd dX6_newWordsBelow_28 b1_7 ?_
    refine v_istore_n (E2 := [aR a0, aI x1, aI (x2 + (((h a0 4) - (h (a0 + 2) x3)) - (h (a0 + 4) x3))), aI x3]) dX6_newWordsBelow_29 rfl (Nat.le_of_ble_eq_true rfl) rfl ?_
    refine v_iinc (E2 := [aR a0, aI x1, aI (x2 + (((h a0 4) - (h (a0 + 2) x3)) - (h (a0 + 4) x3))), aI (x3 + 1)]) dX6_newWordsBelow_30 rfl b1_8 rfl ?_
    refine v_goto (tgt := 4) dX6_newWordsBelow_33 (by decide) ?_
    exact k
theorem S_X6_rankBringing_0 {kc ks : Nat} {h : Hh} {Q : PQ} {X : PX} {a0 : Nat} (t0 : isT a0) {x1 : Int}
    (k : am_V M_X6_rankBringing kc ks 4 [aR a0, aI x1, aI 0, aI 0] [] (RM WM wd) h Q X) :
    am_V M_X6_rankBringing kc ks 0 [aR a0, aI x1, aU, aU] [] (RM WM wd) h Q X := by
  refine v_iconst dX6_rankBringing_0 ⟨by decide, by decide⟩ ?_
  refine v_istore_n (E2 := [aR a0, aI x1, aI 0, aU]) dX6_rankBringing_1 rfl (Nat.le_of_ble_eq_true rfl) rfl ?_
  refine v_iconst dX6_rankBringing_2 ⟨by decide, by decide⟩ ?_
  refine v_istore_n (E2 := [aR a0, aI x1, aI 0, aI 0]) dX6_rankBringing_3 rfl (Nat.le_of_ble_eq_true rfl) rfl ?_
  exact k
theorem S_X6_rankBringing_4 {kc ks : Nat} {h : Hh} {Q : PQ} {X : PX} {a0 : Nat} (t0 : isT a0) {x1 : Int} {x2 : Int} {x3 : Int}
    (k : ((-2147483648 ≤ (((h a0 4) - 1) : Int) ∧ (((h a0 4) - 1) : Int) < 2147483648)) ∧ ((((h a0 4) - 1) ≤ x2 → Q [aI x2] (RM WM wd) h) ∧ (x2 < ((h a0 4) - 1) → ((-2147483648 ≤ ((x3 + (h a0 4)) : Int) ∧ ((x3 + (h a0 4)) : Int) < 2147483648) ∧ (0 : Int) ≤ x2 ∧ (x2 : Int) < 64 ∧ (-2147483648 ≤ (((x3 + (h a0 4)) - (h (a0 + 2) x2)) : Int) ∧ (((x3 + (h a0 4)) - (h (a0 + 2) x2)) : Int) < 2147483648) ∧ (0 : Int) ≤ x2 ∧ (x2 : Int) < 64 ∧ (-2147483648 ≤ ((((x3 + (h a0 4)) - (h (a0 + 2) x2)) - (h (a0 + 4) x2)) : Int) ∧ ((((x3 + (h a0 4)) - (h (a0 + 2) x2)) - (h (a0 + 4) x2)) : Int) < 2147483648)) ∧ ((x1 < (((x3 + (h a0 4)) - (h (a0 + 2) x2)) - (h (a0 + 4) x2)) → Q [aI x2] (RM WM wd) h) ∧ ((((x3 + (h a0 4)) - (h (a0 + 2) x2)) - (h (a0 + 4) x2)) ≤ x1 → ((0 : Int) ≤ x2 ∧ (x2 : Int) < 64 ∧ (-2147483648 ≤ (((h a0 4) - (h (a0 + 2) x2)) : Int) ∧ (((h a0 4) - (h (a0 + 2) x2)) : Int) < 2147483648) ∧ (0 : Int) ≤ x2 ∧ (x2 : Int) < 64 ∧ (-2147483648 ≤ ((((h a0 4) - (h (a0 + 2) x2)) - (h (a0 + 4) x2)) : Int) ∧ ((((h a0 4) - (h (a0 + 2) x2)) - (h (a0 + 4) x2)) : Int) < 2147483648) ∧ (-2147483648 ≤ ((x3 + (((h a0 4) - (h (a0 + 2) x2)) - (h (a0 + 4) x2))) : Int) ∧ ((x3 + (((h a0 4) - (h (a0 + 2) x2)) - (h (a0 + 4) x2))) : Int) < 2147483648) ∧ (-2147483648 ≤ ((x2 + 1) : Int) ∧ ((x2 + 1) : Int) < 2147483648)) ∧ am_V M_X6_rankBringing kc ks 4 [aR a0, aI x1, aI (x2 + 1), aI (x3 + (((h a0 4) - (h (a0 + 2) x2)) - (h (a0 + 4) x2)))] [] (RM WM wd) h Q X))))) :
    am_V M_X6_rankBringing kc ks 4 [aR a0, aI x1, aI x2, aI x3] [] (RM WM wd) h Q X := by
  obtain ⟨b0_1, k⟩ := k
  refine v_iload_n dX6_rankBringing_4 rfl rfl ?_
  refine v_aload_n dX6_rankBringing_5 rfl rfl ?_
  refine v_getI (j := 4) dX6_rankBringing_6 fl_X6_25 am_clsA rfl rfl (tk0 t0) ?_
  refine v_iconst dX6_rankBringing_9 ⟨by decide, by decide⟩ ?_
  refine v_isub dX6_rankBringing_10 b0_1 ?_
  refine v_icmp_ge (tgt := 65) dX6_rankBringing_11 (by decide) (fun z => ?_) (fun z => ?_)
  · have k := k.1 z
    refine v_iload_n dX6_rankBringing_65 rfl rfl ?_
    exact v_iret dX6_rankBringing_66 rfl rfl k
  · have k := k.2 z
    obtain ⟨⟨b1_1, b1_2, b1_3, b1_4, b1_5, b1_6, b1_7⟩, k⟩ := k
    refine v_iload_n dX6_rankBringing_14 rfl rfl ?_
    refine v_iload_n dX6_rankBringing_15 rfl rfl ?_
    refine v_aload_n dX6_rankBringing_16 rfl rfl ?_
    refine v_getI (j := 4) dX6_rankBringing_17 fl_X6_25 am_clsA rfl rfl (tk0 t0) ?_
    refine v_iadd dX6_rankBringing_20 b1_1 ?_
    refine v_aload_n dX6_rankBringing_21 rfl rfl ?_
    refine v_getR (x := (a0 + 2)) dX6_rankBringing_22 fl_X6_15 am_clsA rfl (tk0 t0) (tr1 t0) ?_
    refine v_iload_n dX6_rankBringing_25 rfl rfl ?_
    refine v_iald dX6_rankBringing_26 (tk2 t0) b1_2 b1_3 ?_
    refine v_isub dX6_rankBringing_27 b1_4 ?_
    refine v_aload_n dX6_rankBringing_28 rfl rfl ?_
    refine v_getR (x := (a0 + 4)) dX6_rankBringing_29 fl_X6_22 am_clsA rfl (tk0 t0) (tr3 t0) ?_
    refine v_iload_n dX6_rankBringing_32 rfl rfl ?_
    refine v_iald dX6_rankBringing_33 (tk4 t0) b1_5 b1_6 ?_
    refine v_isub dX6_rankBringing_34 b1_7 ?_
    refine v_icmp_lt (tgt := 65) dX6_rankBringing_35 (by decide) (fun z => ?_) (fun z => ?_)
    · have k := k.1 z
      refine v_iload_n dX6_rankBringing_65 rfl rfl ?_
      exact v_iret dX6_rankBringing_66 rfl rfl k
    · have k := k.2 z
      obtain ⟨⟨b2_1, b2_2, b2_3, b2_4, b2_5, b2_6, b2_7, b2_8⟩, k⟩ := k
      refine v_iload_n dX6_rankBringing_38 rfl rfl ?_
      refine v_aload_n dX6_rankBringing_39 rfl rfl ?_
      refine v_getI (j := 4) dX6_rankBringing_40 fl_X6_25 am_clsA rfl rfl (tk0 t0) ?_
      refine v_aload_n dX6_rankBringing_43 rfl rfl ?_
      refine v_getR (x := (a0 + 2)) dX6_rankBringing_44 fl_X6_15 am_clsA rfl (tk0 t0) (tr1 t0) ?_
      refine v_iload_n dX6_rankBringing_47 rfl rfl ?_
      refine v_iald dX6_rankBringing_48 (tk2 t0) b2_1 b2_2 ?_
      refine v_isub dX6_rankBringing_49 b2_3 ?_
      refine v_aload_n dX6_rankBringing_50 rfl rfl ?_
      refine v_getR (x := (a0 + 4)) dX6_rankBringing_51 fl_X6_22 am_clsA rfl (tk0 t0) (tr3 t0) ?_
      refine v_iload_n dX6_rankBringing_54 rfl rfl ?_
      refine v_iald dX6_rankBringing_55 (tk4 t0) b2_4 b2_5 ?_
      refine v_isub dX6_rankBringing_56 b2_6 ?_
      refine v_iadd dX6_rankBringing_57 b2_7 ?_
      refine v_istore_n (E2 := [aR a0, aI x1, aI x2, aI (x3 + (((h a0 4) - (h (a0 + 2) x2)) - (h (a0 + 4) x2)))]) dX6_rankBringing_58 rfl (Nat.le_of_ble_eq_true rfl) rfl ?_
      refine v_iinc (E2 := [aR a0, aI x1, aI (x2 + 1), aI (x3 + (((h a0 4) - (h (a0 + 2) x2)) - (h (a0 + 4) x2)))]) dX6_rankBringing_59 rfl b2_8 rfl ?_
      refine v_goto (tgt := 4) dX6_rankBringing_62 (by decide) ?_
      exact k
theorem S_X6_firstPlaceOfLongestTwice_0 {kc ks : Nat} {h : Hh} {Q : PQ} {X : PX} {a0 : Nat} (t0 : isT a0)
    (k : am_V M_X6_greatestCommon 0 0 0 [aR a0, aU, aU] [] (RM WM wd) h (fun v ρ' h' => am_V M_X6_firstPlaceOfLongestTwice kc ks 4 [aR a0, aU, aU, aU] (v ++ []) ρ' h' Q X) X) :
    am_V M_X6_firstPlaceOfLongestTwice kc ks 0 [aR a0, aU, aU, aU] [] (RM WM wd) h Q X := by
  refine v_aload_n dX6_firstPlaceOfLongestTwice_0 rfl rfl ?_
  exact v_callV (j := M_X6_greatestCommon) (As := []) (st := []) (E0 := [aR a0, aU, aU]) (a := a0) (ci := 4) (N := 5) (q9 := (RX6, TX6, 5)) dX6_firstPlaceOfLongestTwice_1 ml_X6_54 J_X6_greatestCommon (Nat.zero_le _) (Nat.zero_le _) (Nat.le_of_ble_eq_true rfl) rfl (Nat.le_of_ble_eq_true rfl) (List.forall_mem_cons.mpr ⟨rfl, fun _ h9 => absurd h9 List.not_mem_nil⟩) (Nat.le_of_ble_eq_true rfl) rfl (tk0 t0) rfl rfl pn_X6_greatestCommon rfl k
theorem S_X6_firstPlaceOfLongestTwice_4 {kc ks : Nat} {h : Hh} {Q : PQ} {X : PX} {a0 : Nat} (t0 : isT a0) {xs0 : Int}
    (k : am_V M_X6_firstPlaceOfLongestTwice kc ks 7 [aR a0, aI xs0, aI 1, aU] [] (RM WM wd) h Q X) :
    am_V M_X6_firstPlaceOfLongestTwice kc ks 4 [aR a0, aU, aU, aU] [aI xs0] (RM WM wd) h Q X := by
  refine v_istore_n (E2 := [aR a0, aI xs0, aU, aU]) dX6_firstPlaceOfLongestTwice_4 rfl (Nat.le_of_ble_eq_true rfl) rfl ?_
  refine v_iconst dX6_firstPlaceOfLongestTwice_5 ⟨by decide, by decide⟩ ?_
  refine v_istore_n (E2 := [aR a0, aI xs0, aI 1, aU]) dX6_firstPlaceOfLongestTwice_6 rfl (Nat.le_of_ble_eq_true rfl) rfl ?_
  exact k
theorem S_X6_firstPlaceOfLongestTwice_7 {kc ks : Nat} {h : Hh} {Q : PQ} {X : PX} {a0 : Nat} (t0 : isT a0) {x1 : Int} {x2 : Int}
    (k : (((h a0 4) ≤ x2 → ((-2147483648 ≤ ((x2 - 1) : Int) ∧ ((x2 - 1) : Int) < 2147483648) ∧ (0 : Int) ≤ (x2 - 1) ∧ ((x2 - 1) : Int) < 64) ∧ am_V M_X6_firstPlaceOfLongestTwice kc ks 40 [aR a0, aI x1, aI x2, aI (h (a0 + 2) (x2 - 1))] [] (RM WM wd) h Q X) ∧ (x2 < (h a0 4) → ((0 : Int) ≤ x2 ∧ (x2 : Int) < 64) ∧ ((x1 ≤ (h (a0 + 4) x2) → ((-2147483648 ≤ ((x2 - 1) : Int) ∧ ((x2 - 1) : Int) < 2147483648) ∧ (0 : Int) ≤ (x2 - 1) ∧ ((x2 - 1) : Int) < 64) ∧ am_V M_X6_firstPlaceOfLongestTwice kc ks 40 [aR a0, aI x1, aI x2, aI (h (a0 + 2) (x2 - 1))] [] (RM WM wd) h Q X) ∧ ((h (a0 + 4) x2) < x1 → ((-2147483648 ≤ ((x2 + 1) : Int) ∧ ((x2 + 1) : Int) < 2147483648)) ∧ am_V M_X6_firstPlaceOfLongestTwice kc ks 7 [aR a0, aI x1, aI (x2 + 1), aU] [] (RM WM wd) h Q X))))) :
    am_V M_X6_firstPlaceOfLongestTwice kc ks 7 [aR a0, aI x1, aI x2, aU] [] (RM WM wd) h Q X := by
  refine v_iload_n dX6_firstPlaceOfLongestTwice_7 rfl rfl ?_
  refine v_aload_n dX6_firstPlaceOfLongestTwice_8 rfl rfl ?_
  refine v_getI (j := 4) dX6_firstPlaceOfLongestTwice_9 fl_X6_25 am_clsA rfl rfl (tk0 t0) ?_
  refine v_icmp_ge (tgt := 31) dX6_firstPlaceOfLongestTwice_12 (by decide) (fun z => ?_) (fun z => ?_)
  · have k := k.1 z
    obtain ⟨⟨b1_1, b1_2, b1_3⟩, k⟩ := k
    refine v_aload_n dX6_firstPlaceOfLongestTwice_31 rfl rfl ?_
    refine v_getR (x := (a0 + 2)) dX6_firstPlaceOfLongestTwice_32 fl_X6_15 am_clsA rfl (tk0 t0) (tr1 t0) ?_
    refine v_iload_n dX6_firstPlaceOfLongestTwice_35 rfl rfl ?_
    refine v_iconst dX6_firstPlaceOfLongestTwice_36 ⟨by decide, by decide⟩ ?_
    refine v_isub dX6_firstPlaceOfLongestTwice_37 b1_1 ?_
    refine v_iald dX6_firstPlaceOfLongestTwice_38 (tk2 t0) b1_2 b1_3 ?_
    refine v_istore_n (E2 := [aR a0, aI x1, aI x2, aI (h (a0 + 2) (x2 - 1))]) dX6_firstPlaceOfLongestTwice_39 rfl (Nat.le_of_ble_eq_true rfl) rfl ?_
    exact k
  · have k := k.2 z
    obtain ⟨⟨b1_1, b1_2⟩, k⟩ := k
    refine v_aload_n dX6_firstPlaceOfLongestTwice_15 rfl rfl ?_
    refine v_getR (x := (a0 + 4)) dX6_firstPlaceOfLongestTwice_16 fl_X6_22 am_clsA rfl (tk0 t0) (tr3 t0) ?_
    refine v_iload_n dX6_firstPlaceOfLongestTwice_19 rfl rfl ?_
    refine v_iald dX6_firstPlaceOfLongestTwice_20 (tk4 t0) b1_1 b1_2 ?_
    refine v_iload_n dX6_firstPlaceOfLongestTwice_21 rfl rfl ?_
    refine v_icmp_ge (tgt := 31) dX6_firstPlaceOfLongestTwice_22 (by decide) (fun z => ?_) (fun z => ?_)
    · have k := k.1 z
      obtain ⟨⟨b2_1, b2_2, b2_3⟩, k⟩ := k
      refine v_aload_n dX6_firstPlaceOfLongestTwice_31 rfl rfl ?_
      refine v_getR (x := (a0 + 2)) dX6_firstPlaceOfLongestTwice_32 fl_X6_15 am_clsA rfl (tk0 t0) (tr1 t0) ?_
      refine v_iload_n dX6_firstPlaceOfLongestTwice_35 rfl rfl ?_
      refine v_iconst dX6_firstPlaceOfLongestTwice_36 ⟨by decide, by decide⟩ ?_
      refine v_isub dX6_firstPlaceOfLongestTwice_37 b2_1 ?_
      refine v_iald dX6_firstPlaceOfLongestTwice_38 (tk2 t0) b2_2 b2_3 ?_
      refine v_istore_n (E2 := [aR a0, aI x1, aI x2, aI (h (a0 + 2) (x2 - 1))]) dX6_firstPlaceOfLongestTwice_39 rfl (Nat.le_of_ble_eq_true rfl) rfl ?_
      exact k
    · have k := k.2 z
      obtain ⟨b2_1, k⟩ := k
      refine v_iinc (E2 := [aR a0, aI x1, aI (x2 + 1), aU]) dX6_firstPlaceOfLongestTwice_25 rfl b2_1 rfl ?_
      refine v_goto (tgt := 7) dX6_firstPlaceOfLongestTwice_28 (by decide) ?_
      exact k
theorem S_X6_firstPlaceOfLongestTwice_40 {kc ks : Nat} {h : Hh} {Q : PQ} {X : PX} {a0 : Nat} (t0 : isT a0) {x1 : Int} {x2 : Int} {x3 : Int}
    (k : (((h a0 4) ≤ x2 → Q [aI x3] (RM WM wd) h) ∧ (x2 < (h a0 4) → ((0 : Int) ≤ x2 ∧ (x2 : Int) < 64) ∧ (((h (a0 + 4) x2) ≠ x1 → Q [aI x3] (RM WM wd) h) ∧ ((h (a0 + 4) x2) = x1 → ((0 : Int) ≤ x2 ∧ (x2 : Int) < 64 ∧ (-2147483648 ≤ ((x2 + 1) : Int) ∧ ((x2 + 1) : Int) < 2147483648)) ∧ am_V M_X6_firstPlaceOfLongestTwice kc ks 40 [aR a0, aI x1, aI (x2 + 1), aI (min x3 (h (a0 + 2) x2))] [] (RM WM wd) h Q X))))) :
    am_V M_X6_firstPlaceOfLongestTwice kc ks 40 [aR a0, aI x1, aI x2, aI x3] [] (RM WM wd) h Q X := by
  refine v_iload_n dX6_firstPlaceOfLongestTwice_40 rfl rfl ?_
  refine v_aload_n dX6_firstPlaceOfLongestTwice_41 rfl rfl ?_
  refine v_getI (j := 4) dX6_firstPlaceOfLongestTwice_42 fl_X6_25 am_clsA rfl rfl (tk0 t0) ?_
  refine v_icmp_ge (tgt := 75) dX6_firstPlaceOfLongestTwice_45 (by decide) (fun z => ?_) (fun z => ?_)
  · have k := k.1 z
    refine v_iload_n dX6_firstPlaceOfLongestTwice_75 rfl rfl ?_
    exact v_iret dX6_firstPlaceOfLongestTwice_76 rfl rfl k
  · have k := k.2 z
    obtain ⟨⟨b1_1, b1_2⟩, k⟩ := k
    refine v_aload_n dX6_firstPlaceOfLongestTwice_48 rfl rfl ?_
    refine v_getR (x := (a0 + 4)) dX6_firstPlaceOfLongestTwice_49 fl_X6_22 am_clsA rfl (tk0 t0) (tr3 t0) ?_
    refine v_iload_n dX6_firstPlaceOfLongestTwice_52 rfl rfl ?_
    refine v_iald dX6_firstPlaceOfLongestTwice_53 (tk4 t0) b1_1 b1_2 ?_
    refine v_iload_n dX6_firstPlaceOfLongestTwice_54 rfl rfl ?_
    refine v_icmp_ne (tgt := 75) dX6_firstPlaceOfLongestTwice_55 (by decide) (fun z => ?_) (fun z => ?_)
    · have k := k.1 z
      refine v_iload_n dX6_firstPlaceOfLongestTwice_75 rfl rfl ?_
      exact v_iret dX6_firstPlaceOfLongestTwice_76 rfl rfl k
    · have k := k.2 z
      obtain ⟨⟨b2_1, b2_2, b2_3⟩, k⟩ := k
      refine v_iload_n dX6_firstPlaceOfLongestTwice_58 rfl rfl ?_
      refine v_aload_n dX6_firstPlaceOfLongestTwice_59 rfl rfl ?_
      refine v_getR (x := (a0 + 2)) dX6_firstPlaceOfLongestTwice_60 fl_X6_15 am_clsA rfl (tk0 t0) (tr1 t0) ?_
      refine v_iload_n dX6_firstPlaceOfLongestTwice_63 rfl rfl ?_
      refine v_iald dX6_firstPlaceOfLongestTwice_64 (tk2 t0) b2_1 b2_2 ?_
      refine v_mmin dX6_firstPlaceOfLongestTwice_65 mm_X6_29 (by decide) (Nat.le_of_ble_eq_true rfl) ?_
      refine v_istore_n (E2 := [aR a0, aI x1, aI x2, aI (min x3 (h (a0 + 2) x2))]) dX6_firstPlaceOfLongestTwice_68 rfl (Nat.le_of_ble_eq_true rfl) rfl ?_
      refine v_iinc (E2 := [aR a0, aI x1, aI (x2 + 1), aI (min x3 (h (a0 + 2) x2))]) dX6_firstPlaceOfLongestTwice_69 rfl b2_3 rfl ?_
      refine v_goto (tgt := 40) dX6_firstPlaceOfLongestTwice_72 (by decide) ?_
      exact k
theorem S_X6_placeOfRow_0 {kc ks : Nat} {h : Hh} {Q : PQ} {X : PX} {a0 : Nat} (t0 : isT a0) {x1 : Int}
    (k : ((x1 ≠ 0 → ((-2147483648 ≤ ((x1 - 1) : Int) ∧ ((x1 - 1) : Int) < 2147483648) ∧ (0 : Int) ≤ (x1 - 1) ∧ ((x1 - 1) : Int) < 64) ∧ Q [aI (h (a0 + 2) (x1 - 1))] (RM WM wd) h) ∧ (x1 = 0 → Q [aI (h a0 4)] (RM WM wd) h))) :
    am_V M_X6_placeOfRow kc ks 0 [aR a0, aI x1] [] (RM WM wd) h Q X := by
  refine v_iload_n dX6_placeOfRow_0 rfl rfl ?_
  refine v_if_ne (tgt := 11) dX6_placeOfRow_1 (by decide) (fun z => ?_) (fun z => ?_)
  · have k := k.1 z
    obtain ⟨⟨b1_1, b1_2, b1_3⟩, k⟩ := k
    refine v_aload_n dX6_placeOfRow_11 rfl rfl ?_
    refine v_getR (x := (a0 + 2)) dX6_placeOfRow_12 fl_X6_15 am_clsA rfl (tk0 t0) (tr1 t0) ?_
    refine v_iload_n dX6_placeOfRow_15 rfl rfl ?_
    refine v_iconst dX6_placeOfRow_16 ⟨by decide, by decide⟩ ?_
    refine v_isub dX6_placeOfRow_17 b1_1 ?_
    refine v_iald dX6_placeOfRow_18 (tk2 t0) b1_2 b1_3 ?_
    exact v_iret dX6_placeOfRow_19 rfl rfl k
  · have k := k.2 z
    refine v_aload_n dX6_placeOfRow_4 rfl rfl ?_
    refine v_getI (j := 4) dX6_placeOfRow_5 fl_X6_25 am_clsA rfl rfl (tk0 t0) ?_
    refine v_goto (tgt := 19) dX6_placeOfRow_8 (by decide) ?_
    exact v_iret dX6_placeOfRow_19 rfl rfl k
theorem S_X6_firstSign_0 {kc ks : Nat} {h : Hh} {Q : PQ} {X : PX} {a0 : Nat} (t0 : isT a0) {x1 : Int}
    (k : ((x1 ≠ 0 → ((-2147483648 ≤ ((x1 - 1) : Int) ∧ ((x1 - 1) : Int) < 2147483648) ∧ (0 : Int) ≤ (x1 - 1) ∧ ((x1 - 1) : Int) < 64 ∧ (0 : Int) ≤ (h (a0 + 2) (x1 - 1)) ∧ ((h (a0 + 2) (x1 - 1)) : Int) < 64 ∧ (0 : Int) ≤ (h (a0 + 1) (h (a0 + 2) (x1 - 1))) ∧ ((h (a0 + 1) (h (a0 + 2) (x1 - 1))) : Int) < 65536) ∧ Q [aI (h (a0 + 1) (h (a0 + 2) (x1 - 1)))] (RM WM wd) h) ∧ (x1 = 0 → Q [aI 36] (RM WM wd) h))) :
    am_V M_X6_firstSign kc ks 0 [aR a0, aI x1] [] (RM WM wd) h Q X := by
  refine v_iload_n dX6_firstSign_0 rfl rfl ?_
  refine v_if_ne (tgt := 9) dX6_firstSign_1 (by decide) (fun z => ?_) (fun z => ?_)
  · have k := k.1 z
    obtain ⟨⟨b1_1, b1_2, b1_3, b1_4, b1_5, b1_6, b1_7⟩, k⟩ := k
    refine v_aload_n dX6_firstSign_9 rfl rfl ?_
    refine v_getR (x := (a0 + 1)) dX6_firstSign_10 fl_X6_9 am_clsA rfl (tk0 t0) (tr0 t0) ?_
    refine v_aload_n dX6_firstSign_13 rfl rfl ?_
    refine v_getR (x := (a0 + 2)) dX6_firstSign_14 fl_X6_15 am_clsA rfl (tk0 t0) (tr1 t0) ?_
    refine v_iload_n dX6_firstSign_17 rfl rfl ?_
    refine v_iconst dX6_firstSign_18 ⟨by decide, by decide⟩ ?_
    refine v_isub dX6_firstSign_19 b1_1 ?_
    refine v_iald dX6_firstSign_20 (tk2 t0) b1_2 b1_3 ?_
    refine v_cald dX6_firstSign_21 (tk1 t0) b1_4 b1_5 ?_
    exact v_cret dX6_firstSign_22 rfl rfl b1_6 b1_7 k
  · have k := k.2 z
    refine v_bipush dX6_firstSign_4 (by decide) (by decide) ?_
    refine v_goto (tgt := 22) dX6_firstSign_6 (by decide) ?_
    exact v_cret dX6_firstSign_22 rfl rfl (by decide) (by decide) k
theorem S_X6_lastSign_0 {kc ks : Nat} {h : Hh} {Q : PQ} {X : PX} {a0 : Nat} (t0 : isT a0) {x1 : Int}
    (k : am_V M_X6_placeOfRow 0 0 0 [aR a0, aI x1] [] (RM WM wd) h (fun v ρ' h' => am_V M_X6_lastSign kc ks 5 [aR a0, aU, aU] (v ++ []) ρ' h' Q X) X) :
    am_V M_X6_lastSign kc ks 0 [aR a0, aI x1, aU] [] (RM WM wd) h Q X := by
  refine v_aload_n dX6_lastSign_0 rfl rfl ?_
  refine v_iload_n dX6_lastSign_1 rfl rfl ?_
  refine v_weak (E2 := [aR a0, aU, aU]) ⟨Or.inl rfl, ⟨Or.inr rfl, ⟨Or.inl rfl, trivial⟩⟩⟩ ?_
  exact v_callV (j := M_X6_placeOfRow) (As := [aI x1]) (st := []) (E0 := [aR a0, aI x1]) (a := a0) (ci := 4) (N := 5) (q9 := (RX6, TX6, 5)) dX6_lastSign_2 ml_X6_65 J_X6_placeOfRow (Nat.zero_le _) (Nat.zero_le _) (Nat.le_of_ble_eq_true rfl) rfl (Nat.le_of_ble_eq_true rfl) (List.forall_mem_cons.mpr ⟨rfl, List.forall_mem_cons.mpr ⟨rfl, fun _ h9 => absurd h9 List.not_mem_nil⟩⟩) (Nat.le_of_ble_eq_true rfl) rfl (tk0 t0) rfl rfl pn_X6_placeOfRow rfl k
theorem S_X6_lastSign_5 {kc ks : Nat} {h : Hh} {Q : PQ} {X : PX} {a0 : Nat} (t0 : isT a0) {xs0 : Int}
    (k : ((xs0 ≠ 0 → ((-2147483648 ≤ ((xs0 - 1) : Int) ∧ ((xs0 - 1) : Int) < 2147483648) ∧ (0 : Int) ≤ (xs0 - 1) ∧ ((xs0 - 1) : Int) < 64 ∧ (0 : Int) ≤ (h (a0 + 1) (xs0 - 1)) ∧ ((h (a0 + 1) (xs0 - 1)) : Int) < 65536) ∧ Q [aI (h (a0 + 1) (xs0 - 1))] (RM WM wd) h) ∧ (xs0 = 0 → Q [aI 36] (RM WM wd) h))) :
    am_V M_X6_lastSign kc ks 5 [aR a0, aU, aU] [aI xs0] (RM WM wd) h Q X := by
  refine v_istore_n (E2 := [aR a0, aU, aI xs0]) dX6_lastSign_5 rfl (Nat.le_of_ble_eq_true rfl) rfl ?_
  refine v_iload_n dX6_lastSign_6 rfl rfl ?_
  refine v_if_ne (tgt := 15) dX6_lastSign_7 (by decide) (fun z => ?_) (fun z => ?_)
  · have k := k.1 z
    obtain ⟨⟨b1_1, b1_2, b1_3, b1_4, b1_5⟩, k⟩ := k
    refine v_aload_n dX6_lastSign_15 rfl rfl ?_
    refine v_getR (x := (a0 + 1)) dX6_lastSign_16 fl_X6_9 am_clsA rfl (tk0 t0) (tr0 t0) ?_
    refine v_iload_n dX6_lastSign_19 rfl rfl ?_
    refine v_iconst dX6_lastSign_20 ⟨by decide, by decide⟩ ?_
    refine v_isub dX6_lastSign_21 b1_1 ?_
    refine v_cald dX6_lastSign_22 (tk1 t0) b1_2 b1_3 ?_
    exact v_cret dX6_lastSign_23 rfl rfl b1_4 b1_5 k
  · have k := k.2 z
    refine v_bipush dX6_lastSign_10 (by decide) (by decide) ?_
    refine v_goto (tgt := 23) dX6_lastSign_12 (by decide) ?_
    exact v_cret dX6_lastSign_23 rfl rfl (by decide) (by decide) k
theorem S_X6_rowAhead_0 {kc ks : Nat} {h : Hh} {Q : PQ} {X : PX} {a0 : Nat} (t0 : isT a0) {x1 : Int}
    (k : am_V M_X6_placeOfRow 0 0 0 [aR a0, aI x1] [] (RM WM wd) h (fun v ρ' h' => am_V M_X6_rowAhead kc ks 5 [aR a0, aU, aU] (v ++ []) ρ' h' Q X) X) :
    am_V M_X6_rowAhead kc ks 0 [aR a0, aI x1, aU] [] (RM WM wd) h Q X := by
  refine v_aload_n dX6_rowAhead_0 rfl rfl ?_
  refine v_iload_n dX6_rowAhead_1 rfl rfl ?_
  refine v_weak (E2 := [aR a0, aU, aU]) ⟨Or.inl rfl, ⟨Or.inr rfl, ⟨Or.inl rfl, trivial⟩⟩⟩ ?_
  exact v_callV (j := M_X6_placeOfRow) (As := [aI x1]) (st := []) (E0 := [aR a0, aI x1]) (a := a0) (ci := 4) (N := 5) (q9 := (RX6, TX6, 5)) dX6_rowAhead_2 ml_X6_65 J_X6_placeOfRow (Nat.zero_le _) (Nat.zero_le _) (Nat.le_of_ble_eq_true rfl) rfl (Nat.le_of_ble_eq_true rfl) (List.forall_mem_cons.mpr ⟨rfl, List.forall_mem_cons.mpr ⟨rfl, fun _ h9 => absurd h9 List.not_mem_nil⟩⟩) (Nat.le_of_ble_eq_true rfl) rfl (tk0 t0) rfl rfl pn_X6_placeOfRow rfl k
theorem S_X6_rowAhead_5 {kc ks : Nat} {h : Hh} {Q : PQ} {X : PX} {a0 : Nat} (t0 : isT a0) {xs0 : Int}
    (k : ((xs0 ≠ 0 → ((-2147483648 ≤ ((xs0 - 1) : Int) ∧ ((xs0 - 1) : Int) < 2147483648) ∧ (0 : Int) ≤ (xs0 - 1) ∧ ((xs0 - 1) : Int) < 64 ∧ (-2147483648 ≤ (((h (a0 + 3) (xs0 - 1)) + 1) : Int) ∧ (((h (a0 + 3) (xs0 - 1)) + 1) : Int) < 2147483648)) ∧ Q [aI ((h (a0 + 3) (xs0 - 1)) + 1)] (RM WM wd) h) ∧ (xs0 = 0 → Q [aI 0] (RM WM wd) h))) :
    am_V M_X6_rowAhead kc ks 5 [aR a0, aU, aU] [aI xs0] (RM WM wd) h Q X := by
  refine v_istore_n (E2 := [aR a0, aU, aI xs0]) dX6_rowAhead_5 rfl (Nat.le_of_ble_eq_true rfl) rfl ?_
  refine v_iload_n dX6_rowAhead_6 rfl rfl ?_
  refine v_if_ne (tgt := 14) dX6_rowAhead_7 (by decide) (fun z => ?_) (fun z => ?_)
  · have k := k.1 z
    obtain ⟨⟨b1_1, b1_2, b1_3, b1_4⟩, k⟩ := k
    refine v_aload_n dX6_rowAhead_14 rfl rfl ?_
    refine v_getR (x := (a0 + 3)) dX6_rowAhead_15 fl_X6_19 am_clsA rfl (tk0 t0) (tr2 t0) ?_
    refine v_iload_n dX6_rowAhead_18 rfl rfl ?_
    refine v_iconst dX6_rowAhead_19 ⟨by decide, by decide⟩ ?_
    refine v_isub dX6_rowAhead_20 b1_1 ?_
    refine v_iald dX6_rowAhead_21 (tk3 t0) b1_2 b1_3 ?_
    refine v_iconst dX6_rowAhead_22 ⟨by decide, by decide⟩ ?_
    refine v_iadd dX6_rowAhead_23 b1_4 ?_
    exact v_iret dX6_rowAhead_24 rfl rfl k
  · have k := k.2 z
    refine v_iconst dX6_rowAhead_10 ⟨by decide, by decide⟩ ?_
    refine v_goto (tgt := 24) dX6_rowAhead_11 (by decide) ?_
    exact v_iret dX6_rowAhead_24 rfl rfl k
