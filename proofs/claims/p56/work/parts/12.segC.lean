variable {WM : List (Nat × Nat)} {wd : Bool}
theorem S_X1_sortEnds_0 {kc ks : Nat} {h : Hh} {Q : PQ} {X : PX} {a1 : Nat} (t1 : isT a1)
    (k : am_V M_X1_sortEnds kc ks 2 [aR 5, aR a1, aI 0, aU] [] (RM WM wd) h Q X) :
    am_V M_X1_sortEnds kc ks 0 [aR 5, aR a1, aU, aU] [] (RM WM wd) h Q X := by
  refine v_iconst dX1_sortEnds_0 ⟨by decide, by decide⟩ ?_
  refine v_istore_n (E2 := [aR 5, aR a1, aI 0, aU]) dX1_sortEnds_1 rfl (Nat.le_of_ble_eq_true rfl) rfl ?_
  exact k
theorem S_X1_sortEnds_2 {kc ks : Nat} {h : Hh} {Q : PQ} {X : PX} {a1 : Nat} (t1 : isT a1) {x2 : Int}
    (k : (((h a1 4) ≤ x2 → am_V M_X1_orderByClass 0 0 0 [aR 5, aR a1, aU, aU, aU] [] (RM WM wd) h (fun v ρ' h' => am_V M_X1_sortEnds kc ks 43 [aR 5, aR a1, aU, aU] (v ++ []) ρ' h' Q X) X) ∧ (x2 < (h a1 4) → ((0 : Int) ≤ x2 ∧ (x2 : Int) < 64 ∧ (-2147483648 ≤ (((h (a1 + 1) x2) - 97) : Int) ∧ (((h (a1 + 1) x2) - 97) : Int) < 2147483648) ∧ (0 : Int) ≤ x2 ∧ (x2 : Int) < 64 ∧ (0 : Int) ≤ x2 ∧ (x2 : Int) < 64 ∧ (-2147483648 ≤ ((x2 + 1) : Int) ∧ ((x2 + 1) : Int) < 2147483648)) ∧ am_V M_X1_sortEnds kc ks 2 [aR 5, aR a1, aI (x2 + 1), aU] [] (RM WM wd) (am_st (am_st h (a1 + 3) x2 ((h (a1 + 1) x2) - 97)) 7 x2 x2) Q X))) :
    am_V M_X1_sortEnds kc ks 2 [aR 5, aR a1, aI x2, aU] [] (RM WM wd) h Q X := by
  refine v_iload_n dX1_sortEnds_2 rfl rfl ?_
  refine v_aload_n dX1_sortEnds_3 rfl rfl ?_
  refine v_getI (j := 4) dX1_sortEnds_4 fl_X1_21 am_clsA rfl rfl (tk0 t1) ?_
  refine v_icmp_ge (tgt := 38) dX1_sortEnds_7 (by decide) (fun z => ?_) (fun z => ?_)
  · have k := k.1 z
    refine v_aload_n dX1_sortEnds_38 rfl rfl ?_
    refine v_aload_n dX1_sortEnds_39 rfl rfl ?_
    refine v_weak (E2 := [aR 5, aR a1, aU, aU]) ⟨Or.inl rfl, ⟨Or.inl rfl, ⟨Or.inr rfl, ⟨Or.inl rfl, trivial⟩⟩⟩⟩ ?_
    exact v_callV (j := M_X1_orderByClass) (As := [aR a1]) (st := []) (E0 := [aR 5, aR a1, aU, aU, aU]) (a := 5) (ci := 0) (N := 3) (q9 := (RX1, TX1, 3)) dX1_sortEnds_40 ml_X1_34 J_X1_orderByClass (Nat.zero_le _) (Nat.zero_le _) (Nat.le_of_ble_eq_true rfl) rfl (Nat.le_of_ble_eq_true rfl) (List.forall_mem_cons.mpr ⟨rfl, List.forall_mem_cons.mpr ⟨rfl, fun _ h9 => absurd h9 List.not_mem_nil⟩⟩) (Nat.le_of_ble_eq_true rfl) rfl rfl rfl rfl pn_X1_orderByClass rfl k
  · have k := k.2 z
    obtain ⟨⟨b1_1, b1_2, b1_3, b1_4, b1_5, b1_6, b1_7, b1_8⟩, k⟩ := k
    refine v_aload_n dX1_sortEnds_10 rfl rfl ?_
    refine v_getR (x := (a1 + 3)) dX1_sortEnds_11 fl_X1_27 am_clsA rfl (tk0 t1) (tr2 t1) ?_
    refine v_iload_n dX1_sortEnds_14 rfl rfl ?_
    refine v_aload_n dX1_sortEnds_15 rfl rfl ?_
    refine v_getR (x := (a1 + 1)) dX1_sortEnds_16 fl_X1_30 am_clsA rfl (tk0 t1) (tr0 t1) ?_
    refine v_iload_n dX1_sortEnds_19 rfl rfl ?_
    refine v_cald dX1_sortEnds_20 (tk1 t1) b1_1 b1_2 ?_
    refine v_bipush dX1_sortEnds_21 (by decide) (by decide) ?_
    refine v_isub dX1_sortEnds_23 b1_3 ?_
    refine v_iast dX1_sortEnds_24 (tk3 t1) b1_4 b1_5 ?_
    refine v_aload_n dX1_sortEnds_25 rfl rfl ?_
    refine v_getR (x := 7) dX1_sortEnds_26 fl_X1_15 am_clsA rfl rfl rfl ?_
    refine v_iload_n dX1_sortEnds_29 rfl rfl ?_
    refine v_iload_n dX1_sortEnds_30 rfl rfl ?_
    refine v_iast dX1_sortEnds_31 rfl b1_6 b1_7 ?_
    refine v_iinc (E2 := [aR 5, aR a1, aI (x2 + 1), aU]) dX1_sortEnds_32 rfl b1_8 rfl ?_
    refine v_goto (tgt := 2) dX1_sortEnds_35 (by decide) ?_
    exact k
theorem S_X1_sortEnds_43 {kc ks : Nat} {h : Hh} {Q : PQ} {X : PX} {a1 : Nat} (t1 : isT a1)
    (k : am_V M_X1_numberClasses 0 0 0 [aR 5, aR a1, aI (h a1 4), aU, aU, aU] [] (RM WM wd) h (fun v ρ' h' => am_V M_X1_sortEnds kc ks 52 [aR 5, aR a1, aU, aU] (v ++ []) ρ' h' Q X) X) :
    am_V M_X1_sortEnds kc ks 43 [aR 5, aR a1, aU, aU] [] (RM WM wd) h Q X := by
  refine v_aload_n dX1_sortEnds_43 rfl rfl ?_
  refine v_aload_n dX1_sortEnds_44 rfl rfl ?_
  refine v_aload_n dX1_sortEnds_45 rfl rfl ?_
  refine v_getI (j := 4) dX1_sortEnds_46 fl_X1_21 am_clsA rfl rfl (tk0 t1) ?_
  exact v_callV (j := M_X1_numberClasses) (As := [aR a1, aI (h a1 4)]) (st := []) (E0 := [aR 5, aR a1, aI (h a1 4), aU, aU, aU]) (a := 5) (ci := 0) (N := 3) (q9 := (RX1, TX1, 3)) dX1_sortEnds_49 ml_X1_38 J_X1_numberClasses (Nat.zero_le _) (Nat.zero_le _) (Nat.le_of_ble_eq_true rfl) rfl (Nat.le_of_ble_eq_true rfl) (List.forall_mem_cons.mpr ⟨rfl, List.forall_mem_cons.mpr ⟨rfl, List.forall_mem_cons.mpr ⟨rfl, fun _ h9 => absurd h9 List.not_mem_nil⟩⟩⟩) (Nat.le_of_ble_eq_true rfl) rfl rfl rfl rfl pn_X1_numberClasses rfl k
theorem S_X1_sortEnds_52 {kc ks : Nat} {h : Hh} {Q : PQ} {X : PX} {a1 : Nat} (t1 : isT a1) {xs0 : Int}
    (k : am_V M_X1_sortEnds kc ks 55 [aR 5, aR a1, aI xs0, aI 1] [] (RM WM wd) h Q X) :
    am_V M_X1_sortEnds kc ks 52 [aR 5, aR a1, aU, aU] [aI xs0] (RM WM wd) h Q X := by
  refine v_istore_n (E2 := [aR 5, aR a1, aI xs0, aU]) dX1_sortEnds_52 rfl (Nat.le_of_ble_eq_true rfl) rfl ?_
  refine v_iconst dX1_sortEnds_53 ⟨by decide, by decide⟩ ?_
  refine v_istore_n (E2 := [aR 5, aR a1, aI xs0, aI 1]) dX1_sortEnds_54 rfl (Nat.le_of_ble_eq_true rfl) rfl ?_
  exact k
theorem S_X1_sortEnds_55 {kc ks : Nat} {h : Hh} {Q : PQ} {X : PX} {a1 : Nat} (t1 : isT a1) {x2 : Int} {x3 : Int}
    (k : (((h a1 4) ≤ x3 → am_V M_X1_tellCommons 0 0 0 [aR 5, aR a1, aU, aU, aU, aU] [] (RM WM wd) h (fun v ρ' h' => am_V M_X1_sortEnds kc ks 101 [aU, aU, aU, aU] (v ++ []) ρ' h' Q X) X) ∧ (x3 < (h a1 4) → (((h a1 4) ≤ x2 → am_V M_X1_tellCommons 0 0 0 [aR 5, aR a1, aU, aU, aU, aU] [] (RM WM wd) h (fun v ρ' h' => am_V M_X1_sortEnds kc ks 101 [aU, aU, aU, aU] (v ++ []) ρ' h' Q X) X) ∧ (x2 < (h a1 4) → am_V M_X1_listBySecondHalf 0 0 0 [aR 5, aR a1, aI x3, aU, aU] [] (RM WM wd) h (fun v ρ' h' => am_V M_X1_sortEnds kc ks 77 [aR 5, aR a1, aU, aI x3] (v ++ []) ρ' h' Q X) X))))) :
    am_V M_X1_sortEnds kc ks 55 [aR 5, aR a1, aI x2, aI x3] [] (RM WM wd) h Q X := by
  refine v_iload_n dX1_sortEnds_55 rfl rfl ?_
  refine v_aload_n dX1_sortEnds_56 rfl rfl ?_
  refine v_getI (j := 4) dX1_sortEnds_57 fl_X1_21 am_clsA rfl rfl (tk0 t1) ?_
  refine v_icmp_ge (tgt := 96) dX1_sortEnds_60 (by decide) (fun z => ?_) (fun z => ?_)
  · have k := k.1 z
    refine v_aload_n dX1_sortEnds_96 rfl rfl ?_
    refine v_aload_n dX1_sortEnds_97 rfl rfl ?_
    refine v_weak (E2 := [aU, aU, aU, aU]) ⟨Or.inr rfl, ⟨Or.inr rfl, ⟨Or.inr rfl, ⟨Or.inr rfl, trivial⟩⟩⟩⟩ ?_
    exact v_callV (j := M_X1_tellCommons) (As := [aR a1]) (st := []) (E0 := [aR 5, aR a1, aU, aU, aU, aU]) (a := 5) (ci := 0) (N := 3) (q9 := (RX1, TX1, 3)) dX1_sortEnds_98 ml_X1_46 J_X1_tellCommons (Nat.zero_le _) (Nat.zero_le _) (Nat.le_of_ble_eq_true rfl) rfl (Nat.le_of_ble_eq_true rfl) (List.forall_mem_cons.mpr ⟨rfl, List.forall_mem_cons.mpr ⟨rfl, fun _ h9 => absurd h9 List.not_mem_nil⟩⟩) (Nat.le_of_ble_eq_true rfl) rfl rfl rfl rfl pn_X1_tellCommons rfl k
  · have k := k.2 z
    refine v_iload_n dX1_sortEnds_63 rfl rfl ?_
    refine v_aload_n dX1_sortEnds_64 rfl rfl ?_
    refine v_getI (j := 4) dX1_sortEnds_65 fl_X1_21 am_clsA rfl rfl (tk0 t1) ?_
    refine v_icmp_ge (tgt := 96) dX1_sortEnds_68 (by decide) (fun z => ?_) (fun z => ?_)
    · have k := k.1 z
      refine v_aload_n dX1_sortEnds_96 rfl rfl ?_
      refine v_aload_n dX1_sortEnds_97 rfl rfl ?_
      refine v_weak (E2 := [aU, aU, aU, aU]) ⟨Or.inr rfl, ⟨Or.inr rfl, ⟨Or.inr rfl, ⟨Or.inr rfl, trivial⟩⟩⟩⟩ ?_
      exact v_callV (j := M_X1_tellCommons) (As := [aR a1]) (st := []) (E0 := [aR 5, aR a1, aU, aU, aU, aU]) (a := 5) (ci := 0) (N := 3) (q9 := (RX1, TX1, 3)) dX1_sortEnds_98 ml_X1_46 J_X1_tellCommons (Nat.zero_le _) (Nat.zero_le _) (Nat.le_of_ble_eq_true rfl) rfl (Nat.le_of_ble_eq_true rfl) (List.forall_mem_cons.mpr ⟨rfl, List.forall_mem_cons.mpr ⟨rfl, fun _ h9 => absurd h9 List.not_mem_nil⟩⟩) (Nat.le_of_ble_eq_true rfl) rfl rfl rfl rfl pn_X1_tellCommons rfl k
    · have k := k.2 z
      refine v_aload_n dX1_sortEnds_71 rfl rfl ?_
      refine v_aload_n dX1_sortEnds_72 rfl rfl ?_
      refine v_iload_n dX1_sortEnds_73 rfl rfl ?_
      refine v_weak (E2 := [aR 5, aR a1, aU, aI x3]) ⟨Or.inl rfl, ⟨Or.inl rfl, ⟨Or.inr rfl, ⟨Or.inl rfl, trivial⟩⟩⟩⟩ ?_
      exact v_callV (j := M_X1_listBySecondHalf) (As := [aR a1, aI x3]) (st := []) (E0 := [aR 5, aR a1, aI x3, aU, aU]) (a := 5) (ci := 0) (N := 3) (q9 := (RX1, TX1, 3)) dX1_sortEnds_74 ml_X1_42 J_X1_listBySecondHalf (Nat.zero_le _) (Nat.zero_le _) (Nat.le_of_ble_eq_true rfl) rfl (Nat.le_of_ble_eq_true rfl) (List.forall_mem_cons.mpr ⟨rfl, List.forall_mem_cons.mpr ⟨rfl, List.forall_mem_cons.mpr ⟨rfl, fun _ h9 => absurd h9 List.not_mem_nil⟩⟩⟩) (Nat.le_of_ble_eq_true rfl) rfl rfl rfl rfl pn_X1_listBySecondHalf rfl k
theorem S_X1_sortEnds_101 {kc ks : Nat} {h : Hh} {Q : PQ} {X : PX} 
    (k : Q [] (RM WM wd) h) :
    am_V M_X1_sortEnds kc ks 101 [aU, aU, aU, aU] [] (RM WM wd) h Q X := by
  exact v_vret dX1_sortEnds_101 rfl rfl k
theorem S_X1_sortEnds_77 {kc ks : Nat} {h : Hh} {Q : PQ} {X : PX} {a1 : Nat} (t1 : isT a1) {x3 : Int}
    (k : am_V M_X1_orderByClass 0 0 0 [aR 5, aR a1, aU, aU, aU] [] (RM WM wd) h (fun v ρ' h' => am_V M_X1_sortEnds kc ks 82 [aR 5, aR a1, aU, aI x3] (v ++ []) ρ' h' Q X) X) :
    am_V M_X1_sortEnds kc ks 77 [aR 5, aR a1, aU, aI x3] [] (RM WM wd) h Q X := by
  refine v_aload_n dX1_sortEnds_77 rfl rfl ?_
  refine v_aload_n dX1_sortEnds_78 rfl rfl ?_
  exact v_callV (j := M_X1_orderByClass) (As := [aR a1]) (st := []) (E0 := [aR 5, aR a1, aU, aU, aU]) (a := 5) (ci := 0) (N := 3) (q9 := (RX1, TX1, 3)) dX1_sortEnds_79 ml_X1_34 J_X1_orderByClass (Nat.zero_le _) (Nat.zero_le _) (Nat.le_of_ble_eq_true rfl) rfl (Nat.le_of_ble_eq_true rfl) (List.forall_mem_cons.mpr ⟨rfl, List.forall_mem_cons.mpr ⟨rfl, fun _ h9 => absurd h9 List.not_mem_nil⟩⟩) (Nat.le_of_ble_eq_true rfl) rfl rfl rfl rfl pn_X1_orderByClass rfl k
theorem S_X1_sortEnds_82 {kc ks : Nat} {h : Hh} {Q : PQ} {X : PX} {a1 : Nat} (t1 : isT a1) {x3 : Int}
    (k : am_V M_X1_numberClasses 0 0 0 [aR 5, aR a1, aI x3, aU, aU, aU] [] (RM WM wd) h (fun v ρ' h' => am_V M_X1_sortEnds kc ks 88 [aR 5, aR a1, aU, aI x3] (v ++ []) ρ' h' Q X) X) :
    am_V M_X1_sortEnds kc ks 82 [aR 5, aR a1, aU, aI x3] [] (RM WM wd) h Q X := by
  refine v_aload_n dX1_sortEnds_82 rfl rfl ?_
  refine v_aload_n dX1_sortEnds_83 rfl rfl ?_
  refine v_iload_n dX1_sortEnds_84 rfl rfl ?_
  exact v_callV (j := M_X1_numberClasses) (As := [aR a1, aI x3]) (st := []) (E0 := [aR 5, aR a1, aI x3, aU, aU, aU]) (a := 5) (ci := 0) (N := 3) (q9 := (RX1, TX1, 3)) dX1_sortEnds_85 ml_X1_38 J_X1_numberClasses (Nat.zero_le _) (Nat.zero_le _) (Nat.le_of_ble_eq_true rfl) rfl (Nat.le_of_ble_eq_true rfl) (List.forall_mem_cons.mpr ⟨rfl, List.forall_mem_cons.mpr ⟨rfl, List.forall_mem_cons.mpr ⟨rfl, fun _ h9 => absurd h9 List.not_mem_nil⟩⟩⟩) (Nat.le_of_ble_eq_true rfl) rfl rfl rfl rfl pn_X1_numberClasses rfl k
theorem S_X1_sortEnds_88 {kc ks : Nat} {h : Hh} {Q : PQ} {X : PX} {a1 : Nat} (t1 : isT a1) {x3 : Int} {xs0 : Int}
    (k : ((-2147483648 ≤ ((x3 * 2) : Int) ∧ ((x3 * 2) : Int) < 2147483648)) ∧ am_V M_X1_sortEnds kc ks 55 [aR 5, aR a1, aI xs0, aI (x3 * 2)] [] (RM WM wd) h Q X) :
    am_V M_X1_sortEnds kc ks 88 [aR 5, aR a1, aU, aI x3] [aI xs0] (RM WM wd) h Q X := by
  obtain ⟨b0_1, k⟩ := k
  refine v_istore_n (E2 := [aR 5, aR a1, aI xs0, aI x3]) dX1_sortEnds_88 rfl (Nat.le_of_ble_eq_true rfl) rfl ?_
  refine v_iload_n dX1_sortEnds_89 rfl rfl ?_
  refine v_iconst dX1_sortEnds_90 ⟨by decide, by decide⟩ ?_
  refine v_imul dX1_sortEnds_91 b0_1 ?_
  refine v_istore_n (E2 := [aR 5, aR a1, aI xs0, aI (x3 * 2)]) dX1_sortEnds_92 rfl (Nat.le_of_ble_eq_true rfl) rfl ?_
  refine v_goto (tgt := 55) dX1_sortEnds_93 (by decide) ?_
  exact k
theorem S_X1_listBySecondHalf_0 {kc ks : Nat} {h : Hh} {Q : PQ} {X : PX} {a1 : Nat} (t1 : isT a1) {x2 : Int}
    (k : ((-2147483648 ≤ (((h a1 4) - x2) : Int) ∧ (((h a1 4) - x2) : Int) < 2147483648)) ∧ am_V M_X1_listBySecondHalf kc ks 10 [aR 5, aR a1, aI x2, aI 0, aI ((h a1 4) - x2)] [] (RM WM wd) h Q X) :
    am_V M_X1_listBySecondHalf kc ks 0 [aR 5, aR a1, aI x2, aU, aU] [] (RM WM wd) h Q X := by
  obtain ⟨b0_1, k⟩ := k
  refine v_iconst dX1_listBySecondHalf_0 ⟨by decide, by decide⟩ ?_
  refine v_istore_n (E2 := [aR 5, aR a1, aI x2, aI 0, aU]) dX1_listBySecondHalf_1 rfl (Nat.le_of_ble_eq_true rfl) rfl ?_
  refine v_aload_n dX1_listBySecondHalf_2 rfl rfl ?_
  refine v_getI (j := 4) dX1_listBySecondHalf_3 fl_X1_21 am_clsA rfl rfl (tk0 t1) ?_
  refine v_iload_n dX1_listBySecondHalf_6 rfl rfl ?_
  refine v_isub dX1_listBySecondHalf_7 b0_1 ?_
  refine v_istore (E2 := [aR 5, aR a1, aI x2, aI 0, aI ((h a1 4) - x2)]) dX1_listBySecondHalf_8 (Nat.le_of_ble_eq_true rfl) rfl ?_
  exact k
theorem S_X1_listBySecondHalf_10 {kc ks : Nat} {h : Hh} {Q : PQ} {X : PX} {a1 : Nat} (t1 : isT a1) {x2 : Int} {x3 : Int} {x4 : Int}
    (k : (((h a1 4) ≤ x4 → am_V M_X1_listBySecondHalf kc ks 39 [aR 5, aR a1, aI x2, aI x3, aI 0] [] (RM WM wd) h Q X) ∧ (x4 < (h a1 4) → ((0 : Int) ≤ x3 ∧ (x3 : Int) < 64 ∧ (-2147483648 ≤ ((x3 + 1) : Int) ∧ ((x3 + 1) : Int) < 2147483648) ∧ (-2147483648 ≤ ((x4 + 1) : Int) ∧ ((x4 + 1) : Int) < 2147483648)) ∧ am_V M_X1_listBySecondHalf kc ks 10 [aR 5, aR a1, aI x2, aI (x3 + 1), aI (x4 + 1)] [] (RM WM wd) (am_st h 7 x3 x4) Q X))) :
    am_V M_X1_listBySecondHalf kc ks 10 [aR 5, aR a1, aI x2, aI x3, aI x4] [] (RM WM wd) h Q X := by
  refine v_iload dX1_listBySecondHalf_10 rfl ?_
  refine v_aload_n dX1_listBySecondHalf_12 rfl rfl ?_
  refine v_getI (j := 4) dX1_listBySecondHalf_13 fl_X1_21 am_clsA rfl rfl (tk0 t1) ?_
  refine v_icmp_ge (tgt := 36) dX1_listBySecondHalf_16 (by decide) (fun z => ?_) (fun z => ?_)
  · have k := k.1 z
    refine v_iconst dX1_listBySecondHalf_36 ⟨by decide, by decide⟩ ?_
    refine v_istore (E2 := [aR 5, aR a1, aI x2, aI x3, aI 0]) dX1_listBySecondHalf_37 (Nat.le_of_ble_eq_true rfl) rfl ?_
    exact k
  · have k := k.2 z
    obtain ⟨⟨b1_1, b1_2, b1_3, b1_4⟩, k⟩ := k
    refine v_aload_n dX1_listBySecondHalf_19 rfl rfl ?_
    refine v_getR (x := 7) dX1_listBySecondHalf_20 fl_X1_15 am_clsA rfl rfl rfl ?_
    refine v_iload_n dX1_listBySecondHalf_23 rfl rfl ?_
    refine v_iload dX1_listBySecondHalf_24 rfl ?_
    refine v_iast dX1_listBySecondHalf_26 rfl b1_1 b1_2 ?_
    refine v_iinc (E2 := [aR 5, aR a1, aI x2, aI (x3 + 1), aI x4]) dX1_listBySecondHalf_27 rfl b1_3 rfl ?_
    refine v_iinc (E2 := [aR 5, aR a1, aI x2, aI (x3 + 1), aI (x4 + 1)]) dX1_listBySecondHalf_30 rfl b1_4 rfl ?_
    refine v_goto (tgt := 10) dX1_listBySecondHalf_33 (by decide) ?_
    exact k
theorem S_X1_listBySecondHalf_39 {kc ks : Nat} {h : Hh} {Q : PQ} {X : PX} {a1 : Nat} (t1 : isT a1) {x2 : Int} {x3 : Int} {x4 : Int}
    (k : (((h a1 4) ≤ x4 → Q [] (RM WM wd) h) ∧ (x4 < (h a1 4) → ((0 : Int) ≤ x4 ∧ (x4 : Int) < 64) ∧ (((h (a1 + 2) x4) < x2 → ((-2147483648 ≤ ((x4 + 1) : Int) ∧ ((x4 + 1) : Int) < 2147483648)) ∧ am_V M_X1_listBySecondHalf kc ks 39 [aR 5, aR a1, aI x2, aI x3, aI (x4 + 1)] [] (RM WM wd) h Q X) ∧ (x2 ≤ (h (a1 + 2) x4) → ((0 : Int) ≤ x4 ∧ (x4 : Int) < 64 ∧ (-2147483648 ≤ (((h (a1 + 2) x4) - x2) : Int) ∧ (((h (a1 + 2) x4) - x2) : Int) < 2147483648) ∧ (0 : Int) ≤ x3 ∧ (x3 : Int) < 64 ∧ (-2147483648 ≤ ((x3 + 1) : Int) ∧ ((x3 + 1) : Int) < 2147483648) ∧ (-2147483648 ≤ ((x4 + 1) : Int) ∧ ((x4 + 1) : Int) < 2147483648)) ∧ am_V M_X1_listBySecondHalf kc ks 39 [aR 5, aR a1, aI x2, aI (x3 + 1), aI (x4 + 1)] [] (RM WM wd) (am_st h 7 x3 ((h (a1 + 2) x4) - x2)) Q X))))) :
    am_V M_X1_listBySecondHalf kc ks 39 [aR 5, aR a1, aI x2, aI x3, aI x4] [] (RM WM wd) h Q X := by
  refine v_iload dX1_listBySecondHalf_39 rfl ?_
  refine v_aload_n dX1_listBySecondHalf_41 rfl rfl ?_
  refine v_getI (j := 4) dX1_listBySecondHalf_42 fl_X1_21 am_clsA rfl rfl (tk0 t1) ?_
  refine v_icmp_ge (tgt := 83) dX1_listBySecondHalf_45 (by decide) (fun z => ?_) (fun z => ?_)
  · have k := k.1 z
    exact v_vret dX1_listBySecondHalf_83 rfl rfl k
  · have k := k.2 z
    obtain ⟨⟨b1_1, b1_2⟩, k⟩ := k
    refine v_aload_n dX1_listBySecondHalf_48 rfl rfl ?_
    refine v_getR (x := (a1 + 2)) dX1_listBySecondHalf_49 fl_X1_49 am_clsA rfl (tk0 t1) (tr1 t1) ?_
    refine v_iload dX1_listBySecondHalf_52 rfl ?_
    refine v_iald dX1_listBySecondHalf_54 (tk2 t1) b1_1 b1_2 ?_
    refine v_iload_n dX1_listBySecondHalf_55 rfl rfl ?_
    refine v_icmp_lt (tgt := 77) dX1_listBySecondHalf_56 (by decide) (fun z => ?_) (fun z => ?_)
    · have k := k.1 z
      obtain ⟨b2_1, k⟩ := k
      refine v_iinc (E2 := [aR 5, aR a1, aI x2, aI x3, aI (x4 + 1)]) dX1_listBySecondHalf_77 rfl b2_1 rfl ?_
      refine v_goto (tgt := 39) dX1_listBySecondHalf_80 (by decide) ?_
      exact k
    · have k := k.2 z
      obtain ⟨⟨b2_1, b2_2, b2_3, b2_4, b2_5, b2_6, b2_7⟩, k⟩ := k
      refine v_aload_n dX1_listBySecondHalf_59 rfl rfl ?_
      refine v_getR (x := 7) dX1_listBySecondHalf_60 fl_X1_15 am_clsA rfl rfl rfl ?_
      refine v_iload_n dX1_listBySecondHalf_63 rfl rfl ?_
      refine v_aload_n dX1_listBySecondHalf_64 rfl rfl ?_
      refine v_getR (x := (a1 + 2)) dX1_listBySecondHalf_65 fl_X1_49 am_clsA rfl (tk0 t1) (tr1 t1) ?_
      refine v_iload dX1_listBySecondHalf_68 rfl ?_
      refine v_iald dX1_listBySecondHalf_70 (tk2 t1) b2_1 b2_2 ?_
      refine v_iload_n dX1_listBySecondHalf_71 rfl rfl ?_
      refine v_isub dX1_listBySecondHalf_72 b2_3 ?_
      refine v_iast dX1_listBySecondHalf_73 rfl b2_4 b2_5 ?_
      refine v_iinc (E2 := [aR 5, aR a1, aI x2, aI (x3 + 1), aI x4]) dX1_listBySecondHalf_74 rfl b2_6 rfl ?_
      refine v_iinc (E2 := [aR 5, aR a1, aI x2, aI (x3 + 1), aI (x4 + 1)]) dX1_listBySecondHalf_77 rfl b2_7 rfl ?_
      refine v_goto (tgt := 39) dX1_listBySecondHalf_80 (by decide) ?_
      exact k
theorem S_X1_orderByClass_0 {kc ks : Nat} {h : Hh} {Q : PQ} {X : PX} {a1 : Nat} (t1 : isT a1)
    (k : am_V M_X1_orderByClass kc ks 2 [aR 5, aR a1, aI 0, aU, aU] [] (RM WM wd) h Q X) :
    am_V M_X1_orderByClass kc ks 0 [aR 5, aR a1, aU, aU, aU] [] (RM WM wd) h Q X := by
  refine v_iconst dX1_orderByClass_0 ⟨by decide, by decide⟩ ?_
  refine v_istore_n (E2 := [aR 5, aR a1, aI 0, aU, aU]) dX1_orderByClass_1 rfl (Nat.le_of_ble_eq_true rfl) rfl ?_
  exact k
theorem S_X1_orderByClass_2 {kc ks : Nat} {h : Hh} {Q : PQ} {X : PX} {a1 : Nat} (t1 : isT a1) {x2 : Int}
    (k : ((65 ≤ x2 → am_V M_X1_orderByClass kc ks 26 [aR 5, aR a1, aI 0, aU, aU] [] (RM WM wd) h Q X) ∧ (x2 < 65 → ((0 : Int) ≤ x2 ∧ (x2 : Int) < 65 ∧ (-2147483648 ≤ ((x2 + 1) : Int) ∧ ((x2 + 1) : Int) < 2147483648)) ∧ am_V M_X1_orderByClass kc ks 2 [aR 5, aR a1, aI (x2 + 1), aU, aU] [] (RM WM wd) (am_st h 6 x2 0) Q X))) :
    am_V M_X1_orderByClass kc ks 2 [aR 5, aR a1, aI x2, aU, aU] [] (RM WM wd) h Q X := by
  refine v_iload_n dX1_orderByClass_2 rfl rfl ?_
  refine v_aload_n dX1_orderByClass_3 rfl rfl ?_
  refine v_getR (x := 6) dX1_orderByClass_4 fl_X1_9 am_clsA rfl rfl rfl ?_
  refine v_alen (N := 65) dX1_orderByClass_7 rfl (by decide) rfl ⟨by decide, by decide⟩ ?_
  refine v_icmp_ge (tgt := 24) dX1_orderByClass_8 (by decide) (fun z => ?_) (fun z => ?_)
  · have k := k.1 z
    refine v_iconst dX1_orderByClass_24 ⟨by decide, by decide⟩ ?_
    refine v_istore_n (E2 := [aR 5, aR a1, aI 0, aU, aU]) dX1_orderByClass_25 rfl (Nat.le_of_ble_eq_true rfl) rfl ?_
    exact k
  · have k := k.2 z
    obtain ⟨⟨b1_1, b1_2, b1_3⟩, k⟩ := k
    refine v_aload_n dX1_orderByClass_11 rfl rfl ?_
    refine v_getR (x := 6) dX1_orderByClass_12 fl_X1_9 am_clsA rfl rfl rfl ?_
    refine v_iload_n dX1_orderByClass_15 rfl rfl ?_
    refine v_iconst dX1_orderByClass_16 ⟨by decide, by decide⟩ ?_
    refine v_iast dX1_orderByClass_17 rfl b1_1 b1_2 ?_
    refine v_iinc (E2 := [aR 5, aR a1, aI (x2 + 1), aU, aU]) dX1_orderByClass_18 rfl b1_3 rfl ?_
    refine v_goto (tgt := 2) dX1_orderByClass_21 (by decide) ?_
    exact k
theorem S_X1_orderByClass_26 {kc ks : Nat} {h : Hh} {Q : PQ} {X : PX} {a1 : Nat} (t1 : isT a1) {x2 : Int}
    (k : (((h a1 4) ≤ x2 → am_V M_X1_orderByClass kc ks 59 [aR 5, aR a1, aI 1, aU, aU] [] (RM WM wd) h Q X) ∧ (x2 < (h a1 4) → ((0 : Int) ≤ x2 ∧ (x2 : Int) < 64 ∧ (-2147483648 ≤ (((h (a1 + 3) x2) + 1) : Int) ∧ (((h (a1 + 3) x2) + 1) : Int) < 2147483648) ∧ (0 : Int) ≤ ((h (a1 + 3) x2) + 1) ∧ (((h (a1 + 3) x2) + 1) : Int) < 65 ∧ (-2147483648 ≤ (((h 6 ((h (a1 + 3) x2) + 1)) + 1) : Int) ∧ (((h 6 ((h (a1 + 3) x2) + 1)) + 1) : Int) < 2147483648) ∧ (0 : Int) ≤ ((h (a1 + 3) x2) + 1) ∧ (((h (a1 + 3) x2) + 1) : Int) < 65 ∧ (-2147483648 ≤ ((x2 + 1) : Int) ∧ ((x2 + 1) : Int) < 2147483648)) ∧ am_V M_X1_orderByClass kc ks 26 [aR 5, aR a1, aI (x2 + 1), aU, aU] [] (RM WM wd) (am_st h 6 ((h (a1 + 3) x2) + 1) ((h 6 ((h (a1 + 3) x2) + 1)) + 1)) Q X))) :
    am_V M_X1_orderByClass kc ks 26 [aR 5, aR a1, aI x2, aU, aU] [] (RM WM wd) h Q X := by
  refine v_iload_n dX1_orderByClass_26 rfl rfl ?_
  refine v_aload_n dX1_orderByClass_27 rfl rfl ?_
  refine v_getI (j := 4) dX1_orderByClass_28 fl_X1_21 am_clsA rfl rfl (tk0 t1) ?_
  refine v_icmp_ge (tgt := 57) dX1_orderByClass_31 (by decide) (fun z => ?_) (fun z => ?_)
  · have k := k.1 z
    refine v_iconst dX1_orderByClass_57 ⟨by decide, by decide⟩ ?_
    refine v_istore_n (E2 := [aR 5, aR a1, aI 1, aU, aU]) dX1_orderByClass_58 rfl (Nat.le_of_ble_eq_true rfl) rfl ?_
    exact k
  · have k := k.2 z
    obtain ⟨⟨b1_1, b1_2, b1_3, b1_4, b1_5, b1_6, b1_7, b1_8, b1_9⟩, k⟩ := k
    refine v_aload_n dX1_orderByClass_34 rfl rfl ?_
    refine v_getR (x := 6) dX1_orderByClass_35 fl_X1_9 am_clsA rfl rfl rfl ?_
    refine v_aload_n dX1_orderByClass_38 rfl rfl ?_
    refine v_getR (x := (a1 + 3)) dX1_orderByClass_39 fl_X1_27 am_clsA rfl (tk0 t1) (tr2 t1) ?_
    refine v_iload_n dX1_orderByClass_42 rfl rfl ?_
    refine v_iald dX1_orderByClass_43 (tk3 t1) b1_1 b1_2 ?_
    refine v_iconst dX1_orderByClass_44 ⟨by decide, by decide⟩ ?_
    refine v_iadd dX1_orderByClass_45 b1_3 ?_
    refine v_dup2 dX1_orderByClass_46 ?_
    refine v_iald dX1_orderByClass_47 rfl b1_4 b1_5 ?_
    refine v_iconst dX1_orderByClass_48 ⟨by decide, by decide⟩ ?_
    refine v_iadd dX1_orderByClass_49 b1_6 ?_
    refine v_iast dX1_orderByClass_50 rfl b1_7 b1_8 ?_
    refine v_iinc (E2 := [aR 5, aR a1, aI (x2 + 1), aU, aU]) dX1_orderByClass_51 rfl b1_9 rfl ?_
    refine v_goto (tgt := 26) dX1_orderByClass_54 (by decide) ?_
    exact k
theorem S_X1_orderByClass_59 {kc ks : Nat} {h : Hh} {Q : PQ} {X : PX} {a1 : Nat} (t1 : isT a1) {x2 : Int}
    (k : ((65 ≤ x2 → am_V M_X1_orderByClass kc ks 93 [aR 5, aR a1, aI 0, aU, aU] [] (RM WM wd) h Q X) ∧ (x2 < 65 → ((0 : Int) ≤ x2 ∧ (x2 : Int) < 65 ∧ (-2147483648 ≤ ((x2 - 1) : Int) ∧ ((x2 - 1) : Int) < 2147483648) ∧ (0 : Int) ≤ (x2 - 1) ∧ ((x2 - 1) : Int) < 65 ∧ (-2147483648 ≤ (((h 6 x2) + (h 6 (x2 - 1))) : Int) ∧ (((h 6 x2) + (h 6 (x2 - 1))) : Int) < 2147483648) ∧ (0 : Int) ≤ x2 ∧ (x2 : Int) < 65 ∧ (-2147483648 ≤ ((x2 + 1) : Int) ∧ ((x2 + 1) : Int) < 2147483648)) ∧ am_V M_X1_orderByClass kc ks 59 [aR 5, aR a1, aI (x2 + 1), aU, aU] [] (RM WM wd) (am_st h 6 x2 ((h 6 x2) + (h 6 (x2 - 1)))) Q X))) :
    am_V M_X1_orderByClass kc ks 59 [aR 5, aR a1, aI x2, aU, aU] [] (RM WM wd) h Q X := by
  refine v_iload_n dX1_orderByClass_59 rfl rfl ?_
  refine v_aload_n dX1_orderByClass_60 rfl rfl ?_
  refine v_getR (x := 6) dX1_orderByClass_61 fl_X1_9 am_clsA rfl rfl rfl ?_
  refine v_alen (N := 65) dX1_orderByClass_64 rfl (by decide) rfl ⟨by decide, by decide⟩ ?_
  refine v_icmp_ge (tgt := 91) dX1_orderByClass_65 (by decide) (fun z => ?_) (fun z => ?_)
  · have k := k.1 z
    refine v_iconst dX1_orderByClass_91 ⟨by decide, by decide⟩ ?_
    refine v_istore_n (E2 := [aR 5, aR a1, aI 0, aU, aU]) dX1_orderByClass_92 rfl (Nat.le_of_ble_eq_true rfl) rfl ?_
    exact k
  · have k := k.2 z
    obtain ⟨⟨b1_1, b1_2, b1_3, b1_4, b1_5, b1_6, b1_7, b1_8, b1_9⟩, k⟩ := k
    refine v_aload_n dX1_orderByClass_68 rfl rfl ?_
    refine v_getR (x := 6) dX1_orderByClass_69 fl_X1_9 am_clsA rfl rfl rfl ?_
    refine v_iload_n dX1_orderByClass_72 rfl rfl ?_
    refine v_dup2 dX1_orderByClass_73 ?_
    refine v_iald dX1_orderByClass_74 rfl b1_1 b1_2 ?_
    refine v_aload_n dX1_orderByClass_75 rfl rfl ?_
    refine v_getR (x := 6) dX1_orderByClass_76 fl_X1_9 am_clsA rfl rfl rfl ?_
    refine v_iload_n dX1_orderByClass_79 rfl rfl ?_
    refine v_iconst dX1_orderByClass_80 ⟨by decide, by decide⟩ ?_
    refine v_isub dX1_orderByClass_81 b1_3 ?_
    refine v_iald dX1_orderByClass_82 rfl b1_4 b1_5 ?_
    refine v_iadd dX1_orderByClass_83 b1_6 ?_
    refine v_iast dX1_orderByClass_84 rfl b1_7 b1_8 ?_
    refine v_iinc (E2 := [aR 5, aR a1, aI (x2 + 1), aU, aU]) dX1_orderByClass_85 rfl b1_9 rfl ?_
    refine v_goto (tgt := 59) dX1_orderByClass_88 (by decide) ?_
    exact k
theorem S_X1_orderByClass_93 {kc ks : Nat} {h : Hh} {Q : PQ} {X : PX} {a1 : Nat} (t1 : isT a1) {x2 : Int}
    (k : (((h a1 4) ≤ x2 → Q [] (RM WM wd) h) ∧ (x2 < (h a1 4) → ((0 : Int) ≤ x2 ∧ (x2 : Int) < 64 ∧ (0 : Int) ≤ (h 7 x2) ∧ ((h 7 x2) : Int) < 64 ∧ (0 : Int) ≤ (h (a1 + 3) (h 7 x2)) ∧ ((h (a1 + 3) (h 7 x2)) : Int) < 65 ∧ (0 : Int) ≤ (h 6 (h (a1 + 3) (h 7 x2))) ∧ ((h 6 (h (a1 + 3) (h 7 x2))) : Int) < 64 ∧ (0 : Int) ≤ (h (a1 + 3) (h 7 x2)) ∧ ((h (a1 + 3) (h 7 x2)) : Int) < 65 ∧ (-2147483648 ≤ ((((am_st h (a1 + 2) (h 6 (h (a1 + 3) (h 7 x2))) (h 7 x2)) 6 (h (a1 + 3) (h 7 x2))) + 1) : Int) ∧ ((((am_st h (a1 + 2) (h 6 (h (a1 + 3) (h 7 x2))) (h 7 x2)) 6 (h (a1 + 3) (h 7 x2))) + 1) : Int) < 2147483648) ∧ (0 : Int) ≤ (h (a1 + 3) (h 7 x2)) ∧ ((h (a1 + 3) (h 7 x2)) : Int) < 65 ∧ (-2147483648 ≤ ((x2 + 1) : Int) ∧ ((x2 + 1) : Int) < 2147483648)) ∧ am_V M_X1_orderByClass kc ks 93 [aR 5, aR a1, aI (x2 + 1), aU, aU] [] (RM WM wd) (am_st (am_st h (a1 + 2) (h 6 (h (a1 + 3) (h 7 x2))) (h 7 x2)) 6 (h (a1 + 3) (h 7 x2)) (((am_st h (a1 + 2) (h 6 (h (a1 + 3) (h 7 x2))) (h 7 x2)) 6 (h (a1 + 3) (h 7 x2))) + 1)) Q X))) :
    am_V M_X1_orderByClass kc ks 93 [aR 5, aR a1, aI x2, aU, aU] [] (RM WM wd) h Q X := by
  refine v_iload_n dX1_orderByClass_93 rfl rfl ?_
  refine v_aload_n dX1_orderByClass_94 rfl rfl ?_
  refine v_getI (j := 4) dX1_orderByClass_95 fl_X1_21 am_clsA rfl rfl (tk0 t1) ?_
  refine v_icmp_ge (tgt := 146) dX1_orderByClass_98 (by decide) (fun z => ?_) (fun z => ?_)
  · have k := k.1 z
    exact v_vret dX1_orderByClass_146 rfl rfl k
  · have k := k.2 z
    obtain ⟨⟨b1_1, b1_2, b1_3, b1_4, b1_5, b1_6, b1_7, b1_8, b1_9, b1_10, b1_11, b1_12, b1_13, b1_14⟩, k⟩ := k
    refine v_aload_n dX1_orderByClass_101 rfl rfl ?_
    refine v_getR (x := 7) dX1_orderByClass_102 fl_X1_15 am_clsA rfl rfl rfl ?_
    refine v_iload_n dX1_orderByClass_105 rfl rfl ?_
    refine v_iald dX1_orderByClass_106 rfl b1_1 b1_2 ?_
    refine v_istore_n (E2 := [aR 5, aR a1, aI x2, aI (h 7 x2), aU]) dX1_orderByClass_107 rfl (Nat.le_of_ble_eq_true rfl) rfl ?_
    refine v_aload_n dX1_orderByClass_108 rfl rfl ?_
    refine v_getR (x := (a1 + 3)) dX1_orderByClass_109 fl_X1_27 am_clsA rfl (tk0 t1) (tr2 t1) ?_
    refine v_iload_n dX1_orderByClass_112 rfl rfl ?_
    refine v_iald dX1_orderByClass_113 (tk3 t1) b1_3 b1_4 ?_
    refine v_istore (E2 := [aR 5, aR a1, aI x2, aI (h 7 x2), aI (h (a1 + 3) (h 7 x2))]) dX1_orderByClass_114 (Nat.le_of_ble_eq_true rfl) rfl ?_
    refine v_aload_n dX1_orderByClass_116 rfl rfl ?_
    refine v_getR (x := (a1 + 2)) dX1_orderByClass_117 fl_X1_49 am_clsA rfl (tk0 t1) (tr1 t1) ?_
    refine v_aload_n dX1_orderByClass_120 rfl rfl ?_
    refine v_getR (x := 6) dX1_orderByClass_121 fl_X1_9 am_clsA rfl rfl rfl ?_
    refine v_iload dX1_orderByClass_124 rfl ?_
    refine v_iald dX1_orderByClass_126 rfl b1_5 b1_6 ?_
    refine v_iload_n dX1_orderByClass_127 rfl rfl ?_
    refine v_iast dX1_orderByClass_128 (tk2 t1) b1_7 b1_8 ?_
    refine v_aload_n dX1_orderByClass_129 rfl rfl ?_
    refine v_getR (x := 6) dX1_orderByClass_130 fl_X1_9 am_clsA rfl rfl rfl ?_
    refine v_iload dX1_orderByClass_133 rfl ?_
    refine v_dup2 dX1_orderByClass_135 ?_
    refine v_iald dX1_orderByClass_136 rfl b1_9 b1_10 ?_
    refine v_iconst dX1_orderByClass_137 ⟨by decide, by decide⟩ ?_
    refine v_iadd dX1_orderByClass_138 b1_11 ?_
    refine v_iast dX1_orderByClass_139 rfl b1_12 b1_13 ?_
    refine v_iinc (E2 := [aR 5, aR a1, aI (x2 + 1), aI (h 7 x2), aI (h (a1 + 3) (h 7 x2))]) dX1_orderByClass_140 rfl b1_14 rfl ?_
    refine v_goto (tgt := 93) dX1_orderByClass_143 (by decide) ?_
    refine v_weak (E2 := [aR 5, aR a1, aI (x2 + 1), aU, aU]) ⟨Or.inl rfl, ⟨Or.inl rfl, ⟨Or.inl rfl, ⟨Or.inr rfl, ⟨Or.inr rfl, trivial⟩⟩⟩⟩⟩ ?_
    exact k
theorem S_X1_numberClasses_0 {kc ks : Nat} {h : Hh} {Q : PQ} {X : PX} {a1 : Nat} (t1 : isT a1) {x2 : Int}
    (k : am_V M_X1_numberClasses kc ks 5 [aR 5, aR a1, aI x2, aI 0, aI 0, aU] [] (RM WM wd) h Q X) :
    am_V M_X1_numberClasses kc ks 0 [aR 5, aR a1, aI x2, aU, aU, aU] [] (RM WM wd) h Q X := by
  refine v_iconst dX1_numberClasses_0 ⟨by decide, by decide⟩ ?_
  refine v_istore_n (E2 := [aR 5, aR a1, aI x2, aI 0, aU, aU]) dX1_numberClasses_1 rfl (Nat.le_of_ble_eq_true rfl) rfl ?_
  refine v_iconst dX1_numberClasses_2 ⟨by decide, by decide⟩ ?_
  refine v_istore (E2 := [aR 5, aR a1, aI x2, aI 0, aI 0, aU]) dX1_numberClasses_3 (Nat.le_of_ble_eq_true rfl) rfl ?_
  exact k
theorem S_X1_numberClasses_5 {kc ks : Nat} {h : Hh} {Q : PQ} {X : PX} {a1 : Nat} (t1 : isT a1) {x2 : Int} {x3 : Int} {x4 : Int}
    (k : (((h a1 4) ≤ x4 → am_V M_X1_numberClasses kc ks 70 [aR 5, aR a1, aU, aI x3, aI 0, aU] [] (RM WM wd) h Q X) ∧ (x4 < (h a1 4) → ((0 : Int) ≤ x4 ∧ (x4 : Int) < 64) ∧ ((x4 = 0 → ((-2147483648 ≤ ((x3 + 1) : Int) ∧ ((x3 + 1) : Int) < 2147483648) ∧ (-2147483648 ≤ (((x3 + 1) - 1) : Int) ∧ (((x3 + 1) - 1) : Int) < 2147483648) ∧ (0 : Int) ≤ (h (a1 + 2) x4) ∧ ((h (a1 + 2) x4) : Int) < 64 ∧ (-2147483648 ≤ ((x4 + 1) : Int) ∧ ((x4 + 1) : Int) < 2147483648)) ∧ am_V M_X1_numberClasses kc ks 5 [aR 5, aR a1, aI x2, aI (x3 + 1), aI (x4 + 1), aU] [] (RM WM wd) (am_st h 8 (h (a1 + 2) x4) ((x3 + 1) - 1)) Q X) ∧ (x4 ≠ 0 → ((-2147483648 ≤ ((x4 - 1) : Int) ∧ ((x4 - 1) : Int) < 2147483648) ∧ (0 : Int) ≤ (x4 - 1) ∧ ((x4 - 1) : Int) < 64) ∧ am_V M_X1_areAlike 0 0 0 [aR 5, aR a1, aI (h (a1 + 2) (x4 - 1)), aI (h (a1 + 2) x4), aI x2] [] (RM WM wd) h (fun v ρ' h' => am_V M_X1_numberClasses kc ks 45 [aR 5, aR a1, aI x2, aI x3, aI x4, aI (h (a1 + 2) x4)] (v ++ []) ρ' h' Q X) X))))) :
    am_V M_X1_numberClasses kc ks 5 [aR 5, aR a1, aI x2, aI x3, aI x4, aU] [] (RM WM wd) h Q X := by
  refine v_iload dX1_numberClasses_5 rfl ?_
  refine v_aload_n dX1_numberClasses_7 rfl rfl ?_
  refine v_getI (j := 4) dX1_numberClasses_8 fl_X1_21 am_clsA rfl rfl (tk0 t1) ?_
  refine v_icmp_ge (tgt := 67) dX1_numberClasses_11 (by decide) (fun z => ?_) (fun z => ?_)
  · have k := k.1 z
    refine v_iconst dX1_numberClasses_67 ⟨by decide, by decide⟩ ?_
    refine v_istore (E2 := [aR 5, aR a1, aI x2, aI x3, aI 0, aU]) dX1_numberClasses_68 (Nat.le_of_ble_eq_true rfl) rfl ?_
    refine v_weak (E2 := [aR 5, aR a1, aU, aI x3, aI 0, aU]) ⟨Or.inl rfl, ⟨Or.inl rfl, ⟨Or.inr rfl, ⟨Or.inl rfl, ⟨Or.inl rfl, ⟨Or.inl rfl, trivial⟩⟩⟩⟩⟩⟩ ?_
    exact k
  · have k := k.2 z
    obtain ⟨⟨b1_1, b1_2⟩, k⟩ := k
    refine v_aload_n dX1_numberClasses_14 rfl rfl ?_
    refine v_getR (x := (a1 + 2)) dX1_numberClasses_15 fl_X1_49 am_clsA rfl (tk0 t1) (tr1 t1) ?_
    refine v_iload dX1_numberClasses_18 rfl ?_
    refine v_iald dX1_numberClasses_20 (tk2 t1) b1_1 b1_2 ?_
    refine v_istore (E2 := [aR 5, aR a1, aI x2, aI x3, aI x4, aI (h (a1 + 2) x4)]) dX1_numberClasses_21 (Nat.le_of_ble_eq_true rfl) rfl ?_
    refine v_iload dX1_numberClasses_23 rfl ?_
    refine v_if_eq (tgt := 48) dX1_numberClasses_25 (by decide) (fun z => ?_) (fun z => ?_)
    · have k := k.1 z
      obtain ⟨⟨b2_1, b2_2, b2_3, b2_4, b2_5⟩, k⟩ := k
      refine v_iinc (E2 := [aR 5, aR a1, aI x2, aI (x3 + 1), aI x4, aI (h (a1 + 2) x4)]) dX1_numberClasses_48 rfl b2_1 rfl ?_
      refine v_aload_n dX1_numberClasses_51 rfl rfl ?_
      refine v_getR (x := 8) dX1_numberClasses_52 fl_X1_18 am_clsA rfl rfl rfl ?_
      refine v_iload dX1_numberClasses_55 rfl ?_
      refine v_iload_n dX1_numberClasses_57 rfl rfl ?_
      refine v_iconst dX1_numberClasses_58 ⟨by decide, by decide⟩ ?_
      refine v_isub dX1_numberClasses_59 b2_2 ?_
      refine v_iast dX1_numberClasses_60 rfl b2_3 b2_4 ?_
      refine v_iinc (E2 := [aR 5, aR a1, aI x2, aI (x3 + 1), aI (x4 + 1), aI (h (a1 + 2) x4)]) dX1_numberClasses_61 rfl b2_5 rfl ?_
      refine v_goto (tgt := 5) dX1_numberClasses_64 (by decide) ?_
      refine v_weak (E2 := [aR 5, aR a1, aI x2, aI (x3 + 1), aI (x4 + 1), aU]) ⟨Or.inl rfl, ⟨Or.inl rfl, ⟨Or.inl rfl, ⟨Or.inl rfl, ⟨Or.inl rfl, ⟨Or.inr rfl, trivial⟩⟩⟩⟩⟩⟩ ?_
      exact k
    · have k := k.2 z
      obtain ⟨⟨b2_1, b2_2, b2_3⟩, k⟩ := k
      refine v_aload_n dX1_numberClasses_28 rfl rfl ?_
      refine v_aload_n dX1_numberClasses_29 rfl rfl ?_
      refine v_aload_n dX1_numberClasses_30 rfl rfl ?_
      refine v_getR (x := (a1 + 2)) dX1_numberClasses_31 fl_X1_49 am_clsA rfl (tk0 t1) (tr1 t1) ?_
      refine v_iload dX1_numberClasses_34 rfl ?_
      refine v_iconst dX1_numberClasses_36 ⟨by decide, by decide⟩ ?_
      refine v_isub dX1_numberClasses_37 b2_1 ?_
      refine v_iald dX1_numberClasses_38 (tk2 t1) b2_2 b2_3 ?_
      refine v_iload dX1_numberClasses_39 rfl ?_
      refine v_iload_n dX1_numberClasses_41 rfl rfl ?_
      exact v_callV (j := M_X1_areAlike) (As := [aR a1, aI (h (a1 + 2) (x4 - 1)), aI (h (a1 + 2) x4), aI x2]) (st := []) (E0 := [aR 5, aR a1, aI (h (a1 + 2) (x4 - 1)), aI (h (a1 + 2) x4), aI x2]) (a := 5) (ci := 0) (N := 3) (q9 := (RX1, TX1, 3)) dX1_numberClasses_42 ml_X1_52 J_X1_areAlike (Nat.zero_le _) (Nat.zero_le _) (Nat.le_of_ble_eq_true rfl) rfl (Nat.le_of_ble_eq_true rfl) (List.forall_mem_cons.mpr ⟨rfl, List.forall_mem_cons.mpr ⟨rfl, List.forall_mem_cons.mpr ⟨rfl, List.forall_mem_cons.mpr ⟨rfl, List.forall_mem_cons.mpr ⟨rfl, fun _ h9 => absurd h9 List.not_mem_nil⟩⟩⟩⟩⟩) (Nat.le_of_ble_eq_true rfl) rfl rfl rfl rfl pn_X1_areAlike rfl k
theorem S_X1_numberClasses_70 {kc ks : Nat} {h : Hh} {Q : PQ} {X : PX} {a1 : Nat} (t1 : isT a1) {x3 : Int} {x4 : Int}
    (k : (((h a1 4) ≤ x4 → Q [aI x3] (RM WM wd) h) ∧ (x4 < (h a1 4) → ((0 : Int) ≤ x4 ∧ (x4 : Int) < 64 ∧ (0 : Int) ≤ x4 ∧ (x4 : Int) < 64 ∧ (-2147483648 ≤ ((x4 + 1) : Int) ∧ ((x4 + 1) : Int) < 2147483648)) ∧ am_V M_X1_numberClasses kc ks 70 [aR 5, aR a1, aU, aI x3, aI (x4 + 1), aU] [] (RM WM wd) (am_st h (a1 + 3) x4 (h 8 x4)) Q X))) :
    am_V M_X1_numberClasses kc ks 70 [aR 5, aR a1, aU, aI x3, aI x4, aU] [] (RM WM wd) h Q X := by
  refine v_iload dX1_numberClasses_70 rfl ?_
  refine v_aload_n dX1_numberClasses_72 rfl rfl ?_
  refine v_getI (j := 4) dX1_numberClasses_73 fl_X1_21 am_clsA rfl rfl (tk0 t1) ?_
  refine v_icmp_ge (tgt := 99) dX1_numberClasses_76 (by decide) (fun z => ?_) (fun z => ?_)
  · have k := k.1 z
    refine v_iload_n dX1_numberClasses_99 rfl rfl ?_
    exact v_iret dX1_numberClasses_100 rfl rfl k
  · have k := k.2 z
    obtain ⟨⟨b1_1, b1_2, b1_3, b1_4, b1_5⟩, k⟩ := k
    refine v_aload_n dX1_numberClasses_79 rfl rfl ?_
    refine v_getR (x := (a1 + 3)) dX1_numberClasses_80 fl_X1_27 am_clsA rfl (tk0 t1) (tr2 t1) ?_
    refine v_iload dX1_numberClasses_83 rfl ?_
    refine v_aload_n dX1_numberClasses_85 rfl rfl ?_
    refine v_getR (x := 8) dX1_numberClasses_86 fl_X1_18 am_clsA rfl rfl rfl ?_
    refine v_iload dX1_numberClasses_89 rfl ?_
    refine v_iald dX1_numberClasses_91 rfl b1_1 b1_2 ?_
    refine v_iast dX1_numberClasses_92 (tk3 t1) b1_3 b1_4 ?_
    refine v_iinc (E2 := [aR 5, aR a1, aU, aI x3, aI (x4 + 1), aU]) dX1_numberClasses_93 rfl b1_5 rfl ?_
    refine v_goto (tgt := 70) dX1_numberClasses_96 (by decide) ?_
    exact k
theorem S_X1_numberClasses_45 {kc ks : Nat} {h : Hh} {Q : PQ} {X : PX} {a1 : Nat} (t1 : isT a1) {x2 : Int} {x3 : Int} {x4 : Int} {x5 : Int} {xs0 : Int}
    (k : ((xs0 ≠ 0 → ((-2147483648 ≤ ((x3 - 1) : Int) ∧ ((x3 - 1) : Int) < 2147483648) ∧ (0 : Int) ≤ x5 ∧ (x5 : Int) < 64 ∧ (-2147483648 ≤ ((x4 + 1) : Int) ∧ ((x4 + 1) : Int) < 2147483648)) ∧ am_V M_X1_numberClasses kc ks 5 [aR 5, aR a1, aI x2, aI x3, aI (x4 + 1), aU] [] (RM WM wd) (am_st h 8 x5 (x3 - 1)) Q X) ∧ (xs0 = 0 → ((-2147483648 ≤ ((x3 + 1) : Int) ∧ ((x3 + 1) : Int) < 2147483648) ∧ (-2147483648 ≤ (((x3 + 1) - 1) : Int) ∧ (((x3 + 1) - 1) : Int) < 2147483648) ∧ (0 : Int) ≤ x5 ∧ (x5 : Int) < 64 ∧ (-2147483648 ≤ ((x4 + 1) : Int) ∧ ((x4 + 1) : Int) < 2147483648)) ∧ am_V M_X1_numberClasses kc ks 5 [aR 5, aR a1, aI x2, aI (x3 + 1), aI (x4 + 1), aU] [] (RM WM wd) (am_st h 8 x5 ((x3 + 1) - 1)) Q X))) :
    am_V M_X1_numberClasses kc ks 45 [aR 5, aR a1, aI x2, aI x3, aI x4, aI x5] [aI xs0] (RM WM wd) h Q X := by
  refine v_if_ne (tgt := 51) dX1_numberClasses_45 (by decide) (fun z => ?_) (fun z => ?_)
  · have k := k.1 z
    obtain ⟨⟨b1_1, b1_2, b1_3, b1_4⟩, k⟩ := k
    refine v_aload_n dX1_numberClasses_51 rfl rfl ?_
    refine v_getR (x := 8) dX1_numberClasses_52 fl_X1_18 am_clsA rfl rfl rfl ?_
    refine v_iload dX1_numberClasses_55 rfl ?_
    refine v_iload_n dX1_numberClasses_57 rfl rfl ?_
    refine v_iconst dX1_numberClasses_58 ⟨by decide, by decide⟩ ?_
    refine v_isub dX1_numberClasses_59 b1_1 ?_
    refine v_iast dX1_numberClasses_60 rfl b1_2 b1_3 ?_
    refine v_iinc (E2 := [aR 5, aR a1, aI x2, aI x3, aI (x4 + 1), aI x5]) dX1_numberClasses_61 rfl b1_4 rfl ?_
    refine v_goto (tgt := 5) dX1_numberClasses_64 (by decide) ?_
    refine v_weak (E2 := [aR 5, aR a1, aI x2, aI x3, aI (x4 + 1), aU]) ⟨Or.inl rfl, ⟨Or.inl rfl, ⟨Or.inl rfl, ⟨Or.inl rfl, ⟨Or.inl rfl, ⟨Or.inr rfl, trivial⟩⟩⟩⟩⟩⟩ ?_
    exact k
  · have k := k.2 z
    obtain ⟨⟨b1_1, b1_2, b1_3, b1_4, b1_5⟩, k⟩ := k
    refine v_iinc (E2 := [aR 5, aR a1, aI x2, aI (x3 + 1), aI x4, aI x5]) dX1_numberClasses_48 rfl b1_1 rfl ?_
    refine v_aload_n dX1_numberClasses_51 rfl rfl ?_
    refine v_getR (x := 8) dX1_numberClasses_52 fl_X1_18 am_clsA rfl rfl rfl ?_
    refine v_iload dX1_numberClasses_55 rfl ?_
    refine v_iload_n dX1_numberClasses_57 rfl rfl ?_
    refine v_iconst dX1_numberClasses_58 ⟨by decide, by decide⟩ ?_
    refine v_isub dX1_numberClasses_59 b1_2 ?_
    refine v_iast dX1_numberClasses_60 rfl b1_3 b1_4 ?_
    refine v_iinc (E2 := [aR 5, aR a1, aI x2, aI (x3 + 1), aI (x4 + 1), aI x5]) dX1_numberClasses_61 rfl b1_5 rfl ?_
    refine v_goto (tgt := 5) dX1_numberClasses_64 (by decide) ?_
    refine v_weak (E2 := [aR 5, aR a1, aI x2, aI (x3 + 1), aI (x4 + 1), aU]) ⟨Or.inl rfl, ⟨Or.inl rfl, ⟨Or.inl rfl, ⟨Or.inl rfl, ⟨Or.inl rfl, ⟨Or.inr rfl, trivial⟩⟩⟩⟩⟩⟩ ?_
    exact k
theorem S_X1_areAlike_0 {kc ks : Nat} {h : Hh} {Q : PQ} {X : PX} {a1 : Nat} (t1 : isT a1) {x2 : Int} {x3 : Int} {x4 : Int}
    (k : ((0 : Int) ≤ x2 ∧ (x2 : Int) < 64 ∧ (0 : Int) ≤ x3 ∧ (x3 : Int) < 64) ∧ (((h (a1 + 3) x2) ≠ (h (a1 + 3) x3) → Q [aI 0] (RM WM wd) h) ∧ ((h (a1 + 3) x2) = (h (a1 + 3) x3) → ((-2147483648 ≤ ((x2 + x4) : Int) ∧ ((x2 + x4) : Int) < 2147483648)) ∧ am_V M_X1_classBehind 0 0 0 [aR 5, aR a1, aI (x2 + x4)] [] (RM WM wd) h (fun v ρ' h' => am_V M_X1_areAlike kc ks 24 [aR 5, aR a1, aU, aI x3, aI x4] (v ++ []) ρ' h' Q X) X))) :
    am_V M_X1_areAlike kc ks 0 [aR 5, aR a1, aI x2, aI x3, aI x4] [] (RM WM wd) h Q X := by
  obtain ⟨⟨b0_1, b0_2, b0_3, b0_4⟩, k⟩ := k
  refine v_aload_n dX1_areAlike_0 rfl rfl ?_
  refine v_getR (x := (a1 + 3)) dX1_areAlike_1 fl_X1_27 am_clsA rfl (tk0 t1) (tr2 t1) ?_
  refine v_iload_n dX1_areAlike_4 rfl rfl ?_
  refine v_iald dX1_areAlike_5 (tk3 t1) b0_1 b0_2 ?_
  refine v_aload_n dX1_areAlike_6 rfl rfl ?_
  refine v_getR (x := (a1 + 3)) dX1_areAlike_7 fl_X1_27 am_clsA rfl (tk0 t1) (tr2 t1) ?_
  refine v_iload_n dX1_areAlike_10 rfl rfl ?_
  refine v_iald dX1_areAlike_11 (tk3 t1) b0_3 b0_4 ?_
  refine v_icmp_ne (tgt := 40) dX1_areAlike_12 (by decide) (fun z => ?_) (fun z => ?_)
  · have k := k.1 z
    refine v_iconst dX1_areAlike_40 ⟨by decide, by decide⟩ ?_
    exact v_zret dX1_areAlike_41 rfl rfl (Or.inl rfl) k
  · have k := k.2 z
    obtain ⟨b1_1, k⟩ := k
    refine v_aload_n dX1_areAlike_15 rfl rfl ?_
    refine v_aload_n dX1_areAlike_16 rfl rfl ?_
    refine v_iload_n dX1_areAlike_17 rfl rfl ?_
    refine v_iload dX1_areAlike_18 rfl ?_
    refine v_iadd dX1_areAlike_20 b1_1 ?_
    refine v_weak (E2 := [aR 5, aR a1, aU, aI x3, aI x4]) ⟨Or.inl rfl, ⟨Or.inl rfl, ⟨Or.inr rfl, ⟨Or.inl rfl, ⟨Or.inl rfl, trivial⟩⟩⟩⟩⟩ ?_
    exact v_callV (j := M_X1_classBehind) (As := [aR a1, aI (x2 + x4)]) (st := []) (E0 := [aR 5, aR a1, aI (x2 + x4)]) (a := 5) (ci := 0) (N := 3) (q9 := (RX1, TX1, 3)) dX1_areAlike_21 ml_X1_56 J_X1_classBehind (Nat.zero_le _) (Nat.zero_le _) (Nat.le_of_ble_eq_true rfl) rfl (Nat.le_of_ble_eq_true rfl) (List.forall_mem_cons.mpr ⟨rfl, List.forall_mem_cons.mpr ⟨rfl, List.forall_mem_cons.mpr ⟨rfl, fun _ h9 => absurd h9 List.not_mem_nil⟩⟩⟩) (Nat.le_of_ble_eq_true rfl) rfl rfl rfl rfl pn_X1_classBehind rfl k
theorem S_X1_areAlike_24 {kc ks : Nat} {h : Hh} {Q : PQ} {X : PX} {a1 : Nat} (t1 : isT a1) {x3 : Int} {x4 : Int} {xs0 : Int}
    (k : ((-2147483648 ≤ ((x3 + x4) : Int) ∧ ((x3 + x4) : Int) < 2147483648)) ∧ am_V M_X1_classBehind 0 0 0 [aR 5, aR a1, aI (x3 + x4)] [] (RM WM wd) h (fun v ρ' h' => am_V M_X1_areAlike kc ks 33 [aU, aU, aU, aU, aU] (v ++ [aI xs0]) ρ' h' Q X) X) :
    am_V M_X1_areAlike kc ks 24 [aR 5, aR a1, aU, aI x3, aI x4] [aI xs0] (RM WM wd) h Q X := by
  obtain ⟨b0_1, k⟩ := k
  refine v_aload_n dX1_areAlike_24 rfl rfl ?_
  refine v_aload_n dX1_areAlike_25 rfl rfl ?_
  refine v_iload_n dX1_areAlike_26 rfl rfl ?_
  refine v_iload dX1_areAlike_27 rfl ?_
  refine v_iadd dX1_areAlike_29 b0_1 ?_
  refine v_weak (E2 := [aU, aU, aU, aU, aU]) ⟨Or.inr rfl, ⟨Or.inr rfl, ⟨Or.inl rfl, ⟨Or.inr rfl, ⟨Or.inr rfl, trivial⟩⟩⟩⟩⟩ ?_
  exact v_callV (j := M_X1_classBehind) (As := [aR a1, aI (x3 + x4)]) (st := [aI xs0]) (E0 := [aR 5, aR a1, aI (x3 + x4)]) (a := 5) (ci := 0) (N := 3) (q9 := (RX1, TX1, 3)) dX1_areAlike_30 ml_X1_56 J_X1_classBehind (Nat.zero_le _) (Nat.zero_le _) (Nat.le_of_ble_eq_true rfl) rfl (Nat.le_of_ble_eq_true rfl) (List.forall_mem_cons.mpr ⟨rfl, List.forall_mem_cons.mpr ⟨rfl, List.forall_mem_cons.mpr ⟨rfl, fun _ h9 => absurd h9 List.not_mem_nil⟩⟩⟩) (Nat.le_of_ble_eq_true rfl) rfl rfl rfl rfl pn_X1_classBehind rfl k
theorem S_X1_areAlike_33 {kc ks : Nat} {h : Hh} {Q : PQ} {X : PX} {xs0 : Int} {xs1 : Int}
    (k : ((xs1 ≠ xs0 → Q [aI 0] (RM WM wd) h) ∧ (xs1 = xs0 → Q [aI 1] (RM WM wd) h))) :
    am_V M_X1_areAlike kc ks 33 [aU, aU, aU, aU, aU] [aI xs0, aI xs1] (RM WM wd) h Q X := by
  refine v_icmp_ne (tgt := 40) dX1_areAlike_33 (by decide) (fun z => ?_) (fun z => ?_)
  · have k := k.1 z
    refine v_iconst dX1_areAlike_40 ⟨by decide, by decide⟩ ?_
    exact v_zret dX1_areAlike_41 rfl rfl (Or.inl rfl) k
  · have k := k.2 z
    refine v_iconst dX1_areAlike_36 ⟨by decide, by decide⟩ ?_
    refine v_goto (tgt := 41) dX1_areAlike_37 (by decide) ?_
    exact v_zret dX1_areAlike_41 rfl rfl (Or.inr rfl) k
theorem S_X1_classBehind_0 {kc ks : Nat} {h : Hh} {Q : PQ} {X : PX} {a1 : Nat} (t1 : isT a1) {x2 : Int}
    (k : (((h a1 4) ≤ x2 → Q [aI (-1)] (RM WM wd) h) ∧ (x2 < (h a1 4) → ((0 : Int) ≤ x2 ∧ (x2 : Int) < 64) ∧ Q [aI (h (a1 + 3) x2)] (RM WM wd) h))) :
    am_V M_X1_classBehind kc ks 0 [aR 5, aR a1, aI x2] [] (RM WM wd) h Q X := by
  refine v_iload_n dX1_classBehind_0 rfl rfl ?_
  refine v_aload_n dX1_classBehind_1 rfl rfl ?_
  refine v_getI (j := 4) dX1_classBehind_2 fl_X1_21 am_clsA rfl rfl (tk0 t1) ?_
  refine v_icmp_ge (tgt := 17) dX1_classBehind_5 (by decide) (fun z => ?_) (fun z => ?_)
  · have k := k.1 z
    refine v_iconst dX1_classBehind_17 ⟨by decide, by decide⟩ ?_
    exact v_iret dX1_classBehind_18 rfl rfl k
  · have k := k.2 z
    obtain ⟨⟨b1_1, b1_2⟩, k⟩ := k
    refine v_aload_n dX1_classBehind_8 rfl rfl ?_
    refine v_getR (x := (a1 + 3)) dX1_classBehind_9 fl_X1_27 am_clsA rfl (tk0 t1) (tr2 t1) ?_
    refine v_iload_n dX1_classBehind_12 rfl rfl ?_
    refine v_iald dX1_classBehind_13 (tk3 t1) b1_1 b1_2 ?_
    refine v_goto (tgt := 18) dX1_classBehind_14 (by decide) ?_
    exact v_iret dX1_classBehind_18 rfl rfl k
theorem S_X1_tellCommons_0 {kc ks : Nat} {h : Hh} {Q : PQ} {X : PX} {a1 : Nat} (t1 : isT a1)
    (k : am_V M_X1_tellCommons kc ks 4 [aU, aR a1, aI 0, aI 0, aU, aU] [] (RM WM wd) h Q X) :
    am_V M_X1_tellCommons kc ks 0 [aR 5, aR a1, aU, aU, aU, aU] [] (RM WM wd) h Q X := by
  refine v_iconst dX1_tellCommons_0 ⟨by decide, by decide⟩ ?_
  refine v_istore_n (E2 := [aR 5, aR a1, aI 0, aU, aU, aU]) dX1_tellCommons_1 rfl (Nat.le_of_ble_eq_true rfl) rfl ?_
  refine v_iconst dX1_tellCommons_2 ⟨by decide, by decide⟩ ?_
  refine v_istore_n (E2 := [aR 5, aR a1, aI 0, aI 0, aU, aU]) dX1_tellCommons_3 rfl (Nat.le_of_ble_eq_true rfl) rfl ?_
  refine v_weak (E2 := [aU, aR a1, aI 0, aI 0, aU, aU]) ⟨Or.inr rfl, ⟨Or.inl rfl, ⟨Or.inl rfl, ⟨Or.inl rfl, ⟨Or.inl rfl, ⟨Or.inl rfl, trivial⟩⟩⟩⟩⟩⟩ ?_
  exact k
theorem S_X1_tellCommons_4 {kc ks : Nat} {h : Hh} {Q : PQ} {X : PX} {a1 : Nat} (t1 : isT a1) {x2 : Int} {x3 : Int}
    (k : (((h a1 4) ≤ x3 → Q [] (RM WM wd) h) ∧ (x3 < (h a1 4) → ((0 : Int) ≤ x3 ∧ (x3 : Int) < 64) ∧ (((h (a1 + 3) x3) ≠ 0 → ((-2147483648 ≤ (((h (a1 + 3) x3) - 1) : Int) ∧ (((h (a1 + 3) x3) - 1) : Int) < 2147483648) ∧ (0 : Int) ≤ ((h (a1 + 3) x3) - 1) ∧ (((h (a1 + 3) x3) - 1) : Int) < 64 ∧ (-2147483648 ≤ ((x2 - 1) : Int) ∧ ((x2 - 1) : Int) < 2147483648) ∧ (-2147483648 ≤ ((x3 + (max (x2 - 1) 0)) : Int) ∧ ((x3 + (max (x2 - 1) 0)) : Int) < 2147483648) ∧ (-2147483648 ≤ (((h (a1 + 2) ((h (a1 + 3) x3) - 1)) + (max (x2 - 1) 0)) : Int) ∧ (((h (a1 + 2) ((h (a1 + 3) x3) - 1)) + (max (x2 - 1) 0)) : Int) < 2147483648)) ∧ am_V M_X6_likeSigns 0 0 0 [aR a1, aI (x3 + (max (x2 - 1) 0)), aR a1, aI ((h (a1 + 2) ((h (a1 + 3) x3) - 1)) + (max (x2 - 1) 0)), aU, aU] [] (RM WM wd) h (fun v ρ' h' => am_V M_X1_tellCommons kc ks 62 [aU, aR a1, aU, aI x3, aI (h (a1 + 3) x3), aU] (v ++ [aI (max (x2 - 1) 0)]) ρ' h' Q X) X) ∧ ((h (a1 + 3) x3) = 0 → ((0 : Int) ≤ (h (a1 + 3) x3) ∧ ((h (a1 + 3) x3) : Int) < 64 ∧ (-2147483648 ≤ ((x3 + 1) : Int) ∧ ((x3 + 1) : Int) < 2147483648)) ∧ am_V M_X1_tellCommons kc ks 4 [aU, aR a1, aI 0, aI (x3 + 1), aU, aU] [] (RM WM wd) (am_st h (a1 + 4) (h (a1 + 3) x3) 0) Q X))))) :
    am_V M_X1_tellCommons kc ks 4 [aU, aR a1, aI x2, aI x3, aU, aU] [] (RM WM wd) h Q X := by
  refine v_iload_n dX1_tellCommons_4 rfl rfl ?_
  refine v_aload_n dX1_tellCommons_5 rfl rfl ?_
  refine v_getI (j := 4) dX1_tellCommons_6 fl_X1_21 am_clsA rfl rfl (tk0 t1) ?_
  refine v_icmp_ge (tgt := 78) dX1_tellCommons_9 (by decide) (fun z => ?_) (fun z => ?_)
  · have k := k.1 z
    exact v_vret dX1_tellCommons_78 rfl rfl k
  · have k := k.2 z
    obtain ⟨⟨b1_1, b1_2⟩, k⟩ := k
    refine v_aload_n dX1_tellCommons_12 rfl rfl ?_
    refine v_getR (x := (a1 + 3)) dX1_tellCommons_13 fl_X1_27 am_clsA rfl (tk0 t1) (tr2 t1) ?_
    refine v_iload_n dX1_tellCommons_16 rfl rfl ?_
    refine v_iald dX1_tellCommons_17 (tk3 t1) b1_1 b1_2 ?_
    refine v_istore (E2 := [aU, aR a1, aI x2, aI x3, aI (h (a1 + 3) x3), aU]) dX1_tellCommons_18 (Nat.le_of_ble_eq_true rfl) rfl ?_
    refine v_iload dX1_tellCommons_20 rfl ?_
    refine v_if_ne (tgt := 30) dX1_tellCommons_22 (by decide) (fun z => ?_) (fun z => ?_)
    · have k := k.1 z
      obtain ⟨⟨b2_1, b2_2, b2_3, b2_4, b2_5, b2_6⟩, k⟩ := k
      refine v_aload_n dX1_tellCommons_30 rfl rfl ?_
      refine v_getR (x := (a1 + 2)) dX1_tellCommons_31 fl_X1_49 am_clsA rfl (tk0 t1) (tr1 t1) ?_
      refine v_iload dX1_tellCommons_34 rfl ?_
      refine v_iconst dX1_tellCommons_36 ⟨by decide, by decide⟩ ?_
      refine v_isub dX1_tellCommons_37 b2_1 ?_
      refine v_iald dX1_tellCommons_38 (tk2 t1) b2_2 b2_3 ?_
      refine v_istore (E2 := [aU, aR a1, aI x2, aI x3, aI (h (a1 + 3) x3), aI (h (a1 + 2) ((h (a1 + 3) x3) - 1))]) dX1_tellCommons_39 (Nat.le_of_ble_eq_true rfl) rfl ?_
      refine v_iload_n dX1_tellCommons_41 rfl rfl ?_
      refine v_iconst dX1_tellCommons_42 ⟨by decide, by decide⟩ ?_
      refine v_isub dX1_tellCommons_43 b2_4 ?_
      refine v_iconst dX1_tellCommons_44 ⟨by decide, by decide⟩ ?_
      refine v_mmax dX1_tellCommons_45 mm_X1_59 (by decide) (Nat.le_of_ble_eq_true rfl) ?_
      refine v_istore_n (E2 := [aU, aR a1, aI (max (x2 - 1) 0), aI x3, aI (h (a1 + 3) x3), aI (h (a1 + 2) ((h (a1 + 3) x3) - 1))]) dX1_tellCommons_48 rfl (Nat.le_of_ble_eq_true rfl) rfl ?_
      refine v_iload_n dX1_tellCommons_49 rfl rfl ?_
      refine v_aload_n dX1_tellCommons_50 rfl rfl ?_
      refine v_iload_n dX1_tellCommons_51 rfl rfl ?_
      refine v_iload_n dX1_tellCommons_52 rfl rfl ?_
      refine v_iadd dX1_tellCommons_53 b2_5 ?_
      refine v_aload_n dX1_tellCommons_54 rfl rfl ?_
      refine v_iload dX1_tellCommons_55 rfl ?_
      refine v_iload_n dX1_tellCommons_57 rfl rfl ?_
      refine v_iadd dX1_tellCommons_58 b2_6 ?_
      refine v_weak (E2 := [aU, aR a1, aU, aI x3, aI (h (a1 + 3) x3), aU]) ⟨Or.inl rfl, ⟨Or.inl rfl, ⟨Or.inr rfl, ⟨Or.inl rfl, ⟨Or.inl rfl, ⟨Or.inr rfl, trivial⟩⟩⟩⟩⟩⟩ ?_
      exact v_callV (j := M_X6_likeSigns) (As := [aI (x3 + (max (x2 - 1) 0)), aR a1, aI ((h (a1 + 2) ((h (a1 + 3) x3) - 1)) + (max (x2 - 1) 0))]) (st := [aI (max (x2 - 1) 0)]) (E0 := [aR a1, aI (x3 + (max (x2 - 1) 0)), aR a1, aI ((h (a1 + 2) ((h (a1 + 3) x3) - 1)) + (max (x2 - 1) 0)), aU, aU]) (a := a1) (ci := 4) (N := 5) (q9 := (RX6, TX6, 5)) dX1_tellCommons_59 ml_X1_65 J_X6_likeSigns (Nat.zero_le _) (Nat.zero_le _) (Nat.le_of_ble_eq_true rfl) rfl (Nat.le_of_ble_eq_true rfl) (List.forall_mem_cons.mpr ⟨rfl, List.forall_mem_cons.mpr ⟨rfl, List.forall_mem_cons.mpr ⟨rfl, List.forall_mem_cons.mpr ⟨rfl, fun _ h9 => absurd h9 List.not_mem_nil⟩⟩⟩⟩) (Nat.le_of_ble_eq_true rfl) rfl (tk0 t1) rfl rfl pn_X6_likeSigns rfl k
    · have k := k.2 z
      obtain ⟨⟨b2_1, b2_2, b2_3⟩, k⟩ := k
      refine v_iconst dX1_tellCommons_25 ⟨by decide, by decide⟩ ?_
      refine v_istore_n (E2 := [aU, aR a1, aI 0, aI x3, aI (h (a1 + 3) x3), aU]) dX1_tellCommons_26 rfl (Nat.le_of_ble_eq_true rfl) rfl ?_
      refine v_goto (tgt := 64) dX1_tellCommons_27 (by decide) ?_
      refine v_aload_n dX1_tellCommons_64 rfl rfl ?_
      refine v_getR (x := (a1 + 4)) dX1_tellCommons_65 fl_X1_69 am_clsA rfl (tk0 t1) (tr3 t1) ?_
      refine v_iload dX1_tellCommons_68 rfl ?_
      refine v_iload_n dX1_tellCommons_70 rfl rfl ?_
      refine v_iast dX1_tellCommons_71 (tk4 t1) b2_1 b2_2 ?_
      refine v_iinc (E2 := [aU, aR a1, aI 0, aI (x3 + 1), aI (h (a1 + 3) x3), aU]) dX1_tellCommons_72 rfl b2_3 rfl ?_
      refine v_goto (tgt := 4) dX1_tellCommons_75 (by decide) ?_
      refine v_weak (E2 := [aU, aR a1, aI 0, aI (x3 + 1), aU, aU]) ⟨Or.inl rfl, ⟨Or.inl rfl, ⟨Or.inl rfl, ⟨Or.inl rfl, ⟨Or.inr rfl, ⟨Or.inl rfl, trivial⟩⟩⟩⟩⟩⟩ ?_
      exact k
theorem S_X1_tellCommons_62 {kc ks : Nat} {h : Hh} {Q : PQ} {X : PX} {a1 : Nat} (t1 : isT a1) {x3 : Int} {x4 : Int} {xs0 : Int} {xs1 : Int}
    (k : ((-2147483648 ≤ ((xs1 + xs0) : Int) ∧ ((xs1 + xs0) : Int) < 2147483648) ∧ (0 : Int) ≤ x4 ∧ (x4 : Int) < 64 ∧ (-2147483648 ≤ ((x3 + 1) : Int) ∧ ((x3 + 1) : Int) < 2147483648)) ∧ am_V M_X1_tellCommons kc ks 4 [aU, aR a1, aI (xs1 + xs0), aI (x3 + 1), aU, aU] [] (RM WM wd) (am_st h (a1 + 4) x4 (xs1 + xs0)) Q X) :
    am_V M_X1_tellCommons kc ks 62 [aU, aR a1, aU, aI x3, aI x4, aU] [aI xs0, aI xs1] (RM WM wd) h Q X := by
  obtain ⟨⟨b0_1, b0_2, b0_3, b0_4⟩, k⟩ := k
  refine v_iadd dX1_tellCommons_62 b0_1 ?_
  refine v_istore_n (E2 := [aU, aR a1, aI (xs1 + xs0), aI x3, aI x4, aU]) dX1_tellCommons_63 rfl (Nat.le_of_ble_eq_true rfl) rfl ?_
  refine v_aload_n dX1_tellCommons_64 rfl rfl ?_
  refine v_getR (x := (a1 + 4)) dX1_tellCommons_65 fl_X1_69 am_clsA rfl (tk0 t1) (tr3 t1) ?_
  refine v_iload dX1_tellCommons_68 rfl ?_
  refine v_iload_n dX1_tellCommons_70 rfl rfl ?_
  refine v_iast dX1_tellCommons_71 (tk4 t1) b0_2 b0_3 ?_
  refine v_iinc (E2 := [aU, aR a1, aI (xs1 + xs0), aI (x3 + 1), aI x4, aU]) dX1_tellCommons_72 rfl b0_4 rfl ?_
  refine v_goto (tgt := 4) dX1_tellCommons_75 (by decide) ?_
  refine v_weak (E2 := [aU, aR a1, aI (xs1 + xs0), aI (x3 + 1), aU, aU]) ⟨Or.inl rfl, ⟨Or.inl rfl, ⟨Or.inl rfl, ⟨Or.inl rfl, ⟨Or.inr rfl, ⟨Or.inl rfl, trivial⟩⟩⟩⟩⟩⟩ ?_
  exact k
theorem S_X7_indexOfSign_0 {kc ks : Nat} {h : Hh} {Q : PQ} {X : PX} {x0 : Int}
    (k : am_V M_X10_isLetter 0 0 0 [aI x0] [] (RM WM wd) h (fun v ρ' h' => am_V M_X7_indexOfSign kc ks 4 [aI x0] (v ++ []) ρ' h' Q X) X) :
    am_V M_X7_indexOfSign kc ks 0 [aI x0] [] (RM WM wd) h Q X := by
  refine v_iload_n dX7_indexOfSign_0 rfl rfl ?_
  exact v_callSN (j := M_X10_isLetter) (As := [aI x0]) (st := []) (E0 := [aI x0]) dX7_indexOfSign_1 mn_X7_28 J_X10_isLetter (Nat.zero_le _) (Nat.zero_le _) (Nat.le_of_ble_eq_true rfl) rfl (Nat.le_of_ble_eq_true rfl) (List.forall_mem_cons.mpr ⟨rfl, fun _ h9 => absurd h9 List.not_mem_nil⟩) (Nat.le_of_ble_eq_true rfl) rfl pn_X10_isLetter rfl k
theorem S_X7_indexOfSign_4 {kc ks : Nat} {h : Hh} {Q : PQ} {X : PX} {x0 : Int} {xs0 : Int}
    (k : ((xs0 = 0 → Q [aI 0] (RM WM wd) h) ∧ (xs0 ≠ 0 → ((-2147483648 ≤ ((x0 - 97) : Int) ∧ ((x0 - 97) : Int) < 2147483648) ∧ (-2147483648 ≤ (((x0 - 97) + 1) : Int) ∧ (((x0 - 97) + 1) : Int) < 2147483648)) ∧ Q [aI ((x0 - 97) + 1)] (RM WM wd) h))) :
    am_V M_X7_indexOfSign kc ks 4 [aI x0] [aI xs0] (RM WM wd) h Q X := by
  refine v_if_eq (tgt := 16) dX7_indexOfSign_4 (by decide) (fun z => ?_) (fun z => ?_)
  · have k := k.1 z
    refine v_iconst dX7_indexOfSign_16 ⟨by decide, by decide⟩ ?_
    exact v_iret dX7_indexOfSign_17 rfl rfl k
  · have k := k.2 z
    obtain ⟨⟨b1_1, b1_2⟩, k⟩ := k
    refine v_iload_n dX7_indexOfSign_7 rfl rfl ?_
    refine v_bipush dX7_indexOfSign_8 (by decide) (by decide) ?_
    refine v_isub dX7_indexOfSign_10 b1_1 ?_
    refine v_iconst dX7_indexOfSign_11 ⟨by decide, by decide⟩ ?_
    refine v_iadd dX7_indexOfSign_12 b1_2 ?_
    refine v_goto (tgt := 17) dX7_indexOfSign_13 (by decide) ?_
    exact v_iret dX7_indexOfSign_17 rfl rfl k
theorem S_X7_turnBack_0 {kc ks : Nat} {h : Hh} {Q : PQ} {X : PX} {a1 n1 : Nat} (q1 : (RM WM wd).1[a1]? = some (1, n1)) {x2 : Int}
    (k : am_V M_X7_endSigns 0 0 0 [aR 9, aR a1, aI x2, aU, aU] [] (RM WM wd) h (fun v ρ' h' => am_V M_X7_turnBack kc ks 6 [aR 9, aR a1, aI x2, aU, aU] (v ++ []) ρ' h' Q X) X) :
    am_V M_X7_turnBack kc ks 0 [aR 9, aR a1, aI x2, aU, aU] [] (RM WM wd) h Q X := by
  refine v_aload_n dX7_turnBack_0 rfl rfl ?_
  refine v_aload_n dX7_turnBack_1 rfl rfl ?_
  refine v_iload_n dX7_turnBack_2 rfl rfl ?_
  exact v_callV (j := M_X7_endSigns) (As := [aR a1, aI x2]) (st := []) (E0 := [aR 9, aR a1, aI x2, aU, aU]) (a := 9) (ci := 5) (N := 5) (q9 := (RX7, TX7, 5)) dX7_turnBack_3 ml_X7_42 J_X7_endSigns (Nat.zero_le _) (Nat.zero_le _) (Nat.le_of_ble_eq_true rfl) rfl (Nat.le_of_ble_eq_true rfl) (List.forall_mem_cons.mpr ⟨rfl, List.forall_mem_cons.mpr ⟨rfl, List.forall_mem_cons.mpr ⟨rfl, fun _ h9 => absurd h9 List.not_mem_nil⟩⟩⟩) (Nat.le_of_ble_eq_true rfl) rfl rfl rfl rfl pn_X7_endSigns rfl k
theorem S_X7_turnBack_6 {kc ks : Nat} {h : Hh} {Q : PQ} {X : PX} {a1 n1 : Nat} (q1 : (RM WM wd).1[a1]? = some (1, n1)) {x2 : Int} {xs0 : Int}
    (k : ((xs0 = 1 → am_V M_X7_tellRowsAhead 0 0 0 [aR 9, aR a1, aI x2, aU, aU] [] (RM WM wd) h (fun v ρ' h' => am_V M_X7_turnBack kc ks 18 [aR 9, aR a1, aI x2, aU, aU] (v ++ []) ρ' h' Q X) X) ∧ (xs0 ≠ 1 → Q [aI 0] (RM WM wd) h))) :
    am_V M_X7_turnBack kc ks 6 [aR 9, aR a1, aI x2, aU, aU] [aI xs0] (RM WM wd) h Q X := by
  refine v_iconst dX7_turnBack_6 ⟨by decide, by decide⟩ ?_
  refine v_icmp_eq (tgt := 12) dX7_turnBack_7 (by decide) (fun z => ?_) (fun z => ?_)
  · have k := k.1 z
    refine v_aload_n dX7_turnBack_12 rfl rfl ?_
    refine v_aload_n dX7_turnBack_13 rfl rfl ?_
    refine v_iload_n dX7_turnBack_14 rfl rfl ?_
    exact v_callV (j := M_X7_tellRowsAhead) (As := [aR a1, aI x2]) (st := []) (E0 := [aR 9, aR a1, aI x2, aU, aU]) (a := 9) (ci := 5) (N := 5) (q9 := (RX7, TX7, 5)) dX7_turnBack_15 ml_X7_46 J_X7_tellRowsAhead (Nat.zero_le _) (Nat.zero_le _) (Nat.le_of_ble_eq_true rfl) rfl (Nat.le_of_ble_eq_true rfl) (List.forall_mem_cons.mpr ⟨rfl, List.forall_mem_cons.mpr ⟨rfl, List.forall_mem_cons.mpr ⟨rfl, fun _ h9 => absurd h9 List.not_mem_nil⟩⟩⟩) (Nat.le_of_ble_eq_true rfl) rfl rfl rfl rfl pn_X7_tellRowsAhead rfl k
  · have k := k.2 z
    refine v_iconst dX7_turnBack_10 ⟨by decide, by decide⟩ ?_
    exact v_zret dX7_turnBack_11 rfl rfl (Or.inl rfl) k
theorem S_X7_turnBack_18 {kc ks : Nat} {h : Hh} {Q : PQ} {X : PX} {a1 n1 : Nat} (q1 : (RM WM wd).1[a1]? = some (1, n1)) {x2 : Int}
    (k : ((-2147483648 ≤ ((x2 - 2) : Int) ∧ ((x2 - 2) : Int) < 2147483648)) ∧ am_V M_X7_turnBack kc ks 25 [aR 9, aR a1, aU, aI 0, aI (x2 - 2)] [] (RM WM wd) h Q X) :
    am_V M_X7_turnBack kc ks 18 [aR 9, aR a1, aI x2, aU, aU] [] (RM WM wd) h Q X := by
  obtain ⟨b0_1, k⟩ := k
  refine v_iconst dX7_turnBack_18 ⟨by decide, by decide⟩ ?_
  refine v_istore_n (E2 := [aR 9, aR a1, aI x2, aI 0, aU]) dX7_turnBack_19 rfl (Nat.le_of_ble_eq_true rfl) rfl ?_
  refine v_iload_n dX7_turnBack_20 rfl rfl ?_
  refine v_iconst dX7_turnBack_21 ⟨by decide, by decide⟩ ?_
  refine v_isub dX7_turnBack_22 b0_1 ?_
  refine v_istore (E2 := [aR 9, aR a1, aI x2, aI 0, aI (x2 - 2)]) dX7_turnBack_23 (Nat.le_of_ble_eq_true rfl) rfl ?_
  refine v_weak (E2 := [aR 9, aR a1, aU, aI 0, aI (x2 - 2)]) ⟨Or.inl rfl, ⟨Or.inl rfl, ⟨Or.inr rfl, ⟨Or.inl rfl, ⟨Or.inl rfl, trivial⟩⟩⟩⟩⟩ ?_
  exact k
theorem S_X7_turnBack_25 {kc ks : Nat} {h : Hh} {Q : PQ} {X : PX} {a1 n1 : Nat} (q1 : (RM WM wd).1[a1]? = some (1, n1)) {x3 : Int} {x4 : Int}
    (k : ((x4 < 0 → Q [aI 1] (RM WM wd) h) ∧ (0 ≤ x4 → ((0 : Int) ≤ x3 ∧ (x3 : Int) < ((n1 : Nat) : Int)) ∧ (((h a1 x3) ≠ 36 → ((0 : Int) ≤ x3 ∧ (x3 : Int) < ((n1 : Nat) : Int) ∧ (0 : Int) ≤ x4 ∧ (x4 : Int) < 64 ∧ (0 : Int) ≤ x3 ∧ (x3 : Int) < 65 ∧ (-2147483648 ≤ ((x4 + (-1)) : Int) ∧ ((x4 + (-1)) : Int) < 2147483648)) ∧ am_V M_X7_turnBack kc ks 25 [aR 9, aR a1, aU, aI ((am_st h 10 x4 ((h a1 x3) % 65536)) 12 x3), aI (x4 + (-1))] [] (RM WM wd) (am_st h 10 x4 ((h a1 x3) % 65536)) Q X) ∧ ((h a1 x3) = 36 → Q [aI 0] (RM WM wd) h))))) :
    am_V M_X7_turnBack kc ks 25 [aR 9, aR a1, aU, aI x3, aI x4] [] (RM WM wd) h Q X := by
  refine v_iload dX7_turnBack_25 rfl ?_
  refine v_if_lt (tgt := 63) dX7_turnBack_27 (by decide) (fun z => ?_) (fun z => ?_)
  · have k := k.1 z
    refine v_iconst dX7_turnBack_63 ⟨by decide, by decide⟩ ?_
    exact v_zret dX7_turnBack_64 rfl rfl (Or.inr rfl) k
  · have k := k.2 z
    obtain ⟨⟨b1_1, b1_2⟩, k⟩ := k
    refine v_aload_n dX7_turnBack_30 rfl rfl ?_
    refine v_iload_n dX7_turnBack_31 rfl rfl ?_
    refine v_cald dX7_turnBack_32 q1 b1_1 b1_2 ?_
    refine v_bipush dX7_turnBack_33 (by decide) (by decide) ?_
    refine v_icmp_ne (tgt := 40) dX7_turnBack_35 (by decide) (fun z => ?_) (fun z => ?_)
    · have k := k.1 z
      obtain ⟨⟨b2_1, b2_2, b2_3, b2_4, b2_5, b2_6, b2_7⟩, k⟩ := k
      refine v_aload_n dX7_turnBack_40 rfl rfl ?_
      refine v_getR (x := 10) dX7_turnBack_41 fl_X7_9 am_clsA rfl rfl rfl ?_
      refine v_iload dX7_turnBack_44 rfl ?_
      refine v_aload_n dX7_turnBack_46 rfl rfl ?_
      refine v_iload_n dX7_turnBack_47 rfl rfl ?_
      refine v_cald dX7_turnBack_48 q1 b2_1 b2_2 ?_
      refine v_cast dX7_turnBack_49 rfl b2_3 b2_4 ?_
      refine v_aload_n dX7_turnBack_50 rfl rfl ?_
      refine v_getR (x := 12) dX7_turnBack_51 fl_X7_18 am_clsA rfl rfl rfl ?_
      refine v_iload_n dX7_turnBack_54 rfl rfl ?_
      refine v_iald dX7_turnBack_55 rfl b2_5 b2_6 ?_
      refine v_istore_n (E2 := [aR 9, aR a1, aU, aI ((am_st h 10 x4 ((h a1 x3) % 65536)) 12 x3), aI x4]) dX7_turnBack_56 rfl (Nat.le_of_ble_eq_true rfl) rfl ?_
      refine v_iinc (E2 := [aR 9, aR a1, aU, aI ((am_st h 10 x4 ((h a1 x3) % 65536)) 12 x3), aI (x4 + (-1))]) dX7_turnBack_57 rfl b2_7 rfl ?_
      refine v_goto (tgt := 25) dX7_turnBack_60 (by decide) ?_
      exact k
    · have k := k.2 z
      refine v_iconst dX7_turnBack_38 ⟨by decide, by decide⟩ ?_
      exact v_zret dX7_turnBack_39 rfl rfl (Or.inl rfl) k
theorem S_X7_endSigns_0 {kc ks : Nat} {h : Hh} {Q : PQ} {X : PX} {a1 n1 : Nat} (q1 : (RM WM wd).1[a1]? = some (1, n1)) {x2 : Int}
    (k : am_V M_X7_endSigns kc ks 5 [aU, aR a1, aI x2, aI 0, aI 0] [] (RM WM wd) h Q X) :
    am_V M_X7_endSigns kc ks 0 [aR 9, aR a1, aI x2, aU, aU] [] (RM WM wd) h Q X := by
  refine v_iconst dX7_endSigns_0 ⟨by decide, by decide⟩ ?_
  refine v_istore_n (E2 := [aR 9, aR a1, aI x2, aI 0, aU]) dX7_endSigns_1 rfl (Nat.le_of_ble_eq_true rfl) rfl ?_
  refine v_iconst dX7_endSigns_2 ⟨by decide, by decide⟩ ?_
  refine v_istore (E2 := [aR 9, aR a1, aI x2, aI 0, aI 0]) dX7_endSigns_3 (Nat.le_of_ble_eq_true rfl) rfl ?_
  refine v_weak (E2 := [aU, aR a1, aI x2, aI 0, aI 0]) ⟨Or.inr rfl, ⟨Or.inl rfl, ⟨Or.inl rfl, ⟨Or.inl rfl, ⟨Or.inl rfl, trivial⟩⟩⟩⟩⟩ ?_
  exact k
theorem S_X7_endSigns_5 {kc ks : Nat} {h : Hh} {Q : PQ} {X : PX} {a1 n1 : Nat} (q1 : (RM WM wd).1[a1]? = some (1, n1)) {x2 : Int} {x3 : Int} {x4 : Int}
    (k : ((x2 ≤ x4 → Q [aI x3] (RM WM wd) h) ∧ (x4 < x2 → ((0 : Int) ≤ x4 ∧ (x4 : Int) < ((n1 : Nat) : Int)) ∧ (((h a1 x4) ≠ 36 → ((-2147483648 ≤ ((x4 + 1) : Int) ∧ ((x4 + 1) : Int) < 2147483648)) ∧ am_V M_X7_endSigns kc ks 5 [aU, aR a1, aI x2, aI x3, aI (x4 + 1)] [] (RM WM wd) h Q X) ∧ ((h a1 x4) = 36 → ((-2147483648 ≤ ((x3 + 1) : Int) ∧ ((x3 + 1) : Int) < 2147483648) ∧ (-2147483648 ≤ ((x4 + 1) : Int) ∧ ((x4 + 1) : Int) < 2147483648)) ∧ am_V M_X7_endSigns kc ks 5 [aU, aR a1, aI x2, aI (x3 + 1), aI (x4 + 1)] [] (RM WM wd) h Q X))))) :
    am_V M_X7_endSigns kc ks 5 [aU, aR a1, aI x2, aI x3, aI x4] [] (RM WM wd) h Q X := by
  refine v_iload dX7_endSigns_5 rfl ?_
  refine v_iload_n dX7_endSigns_7 rfl rfl ?_
  refine v_icmp_ge (tgt := 29) dX7_endSigns_8 (by decide) (fun z => ?_) (fun z => ?_)
  · have k := k.1 z
    refine v_iload_n dX7_endSigns_29 rfl rfl ?_
    exact v_iret dX7_endSigns_30 rfl rfl k
  · have k := k.2 z
    obtain ⟨⟨b1_1, b1_2⟩, k⟩ := k
    refine v_aload_n dX7_endSigns_11 rfl rfl ?_
    refine v_iload dX7_endSigns_12 rfl ?_
    refine v_cald dX7_endSigns_14 q1 b1_1 b1_2 ?_
    refine v_bipush dX7_endSigns_15 (by decide) (by decide) ?_
    refine v_icmp_ne (tgt := 23) dX7_endSigns_17 (by decide) (fun z => ?_) (fun z => ?_)
    · have k := k.1 z
      obtain ⟨b2_1, k⟩ := k
      refine v_iinc (E2 := [aU, aR a1, aI x2, aI x3, aI (x4 + 1)]) dX7_endSigns_23 rfl b2_1 rfl ?_
      refine v_goto (tgt := 5) dX7_endSigns_26 (by decide) ?_
      exact k
    · have k := k.2 z
      obtain ⟨⟨b2_1, b2_2⟩, k⟩ := k
      refine v_iinc (E2 := [aU, aR a1, aI x2, aI (x3 + 1), aI x4]) dX7_endSigns_20 rfl b2_1 rfl ?_
      refine v_iinc (E2 := [aU, aR a1, aI x2, aI (x3 + 1), aI (x4 + 1)]) dX7_endSigns_23 rfl b2_2 rfl ?_
      refine v_goto (tgt := 5) dX7_endSigns_26 (by decide) ?_
      exact k
theorem S_X7_tellRowsAhead_0 {kc ks : Nat} {h : Hh} {Q : PQ} {X : PX} {a1 n1 : Nat} (q1 : (RM WM wd).1[a1]? = some (1, n1)) {x2 : Int}
    (k : am_V M_X7_tellRowsAhead kc ks 2 [aR 9, aR a1, aI x2, aI 0, aU] [] (RM WM wd) h Q X) :
    am_V M_X7_tellRowsAhead kc ks 0 [aR 9, aR a1, aI x2, aU, aU] [] (RM WM wd) h Q X := by
  refine v_iconst dX7_tellRowsAhead_0 ⟨by decide, by decide⟩ ?_
  refine v_istore_n (E2 := [aR 9, aR a1, aI x2, aI 0, aU]) dX7_tellRowsAhead_1 rfl (Nat.le_of_ble_eq_true rfl) rfl ?_
  exact k
theorem S_X7_tellRowsAhead_2 {kc ks : Nat} {h : Hh} {Q : PQ} {X : PX} {a1 n1 : Nat} (q1 : (RM WM wd).1[a1]? = some (1, n1)) {x2 : Int} {x3 : Int}
    (k : ((28 ≤ x3 → am_V M_X7_tellRowsAhead kc ks 26 [aR 9, aR a1, aI x2, aI 0, aU] [] (RM WM wd) h Q X) ∧ (x3 < 28 → ((0 : Int) ≤ x3 ∧ (x3 : Int) < 28 ∧ (-2147483648 ≤ ((x3 + 1) : Int) ∧ ((x3 + 1) : Int) < 2147483648)) ∧ am_V M_X7_tellRowsAhead kc ks 2 [aR 9, aR a1, aI x2, aI (x3 + 1), aU] [] (RM WM wd) (am_st h 13 x3 0) Q X))) :
    am_V M_X7_tellRowsAhead kc ks 2 [aR 9, aR a1, aI x2, aI x3, aU] [] (RM WM wd) h Q X := by
  refine v_iload_n dX7_tellRowsAhead_2 rfl rfl ?_
  refine v_aload_n dX7_tellRowsAhead_3 rfl rfl ?_
  refine v_getR (x := 13) dX7_tellRowsAhead_4 fl_X7_22 am_clsA rfl rfl rfl ?_
  refine v_alen (N := 28) dX7_tellRowsAhead_7 rfl (by decide) rfl ⟨by decide, by decide⟩ ?_
  refine v_icmp_ge (tgt := 24) dX7_tellRowsAhead_8 (by decide) (fun z => ?_) (fun z => ?_)
  · have k := k.1 z
    refine v_iconst dX7_tellRowsAhead_24 ⟨by decide, by decide⟩ ?_
    refine v_istore_n (E2 := [aR 9, aR a1, aI x2, aI 0, aU]) dX7_tellRowsAhead_25 rfl (Nat.le_of_ble_eq_true rfl) rfl ?_
    exact k
  · have k := k.2 z
    obtain ⟨⟨b1_1, b1_2, b1_3⟩, k⟩ := k
    refine v_aload_n dX7_tellRowsAhead_11 rfl rfl ?_
    refine v_getR (x := 13) dX7_tellRowsAhead_12 fl_X7_22 am_clsA rfl rfl rfl ?_
    refine v_iload_n dX7_tellRowsAhead_15 rfl rfl ?_
    refine v_iconst dX7_tellRowsAhead_16 ⟨by decide, by decide⟩ ?_
    refine v_iast dX7_tellRowsAhead_17 rfl b1_1 b1_2 ?_
    refine v_iinc (E2 := [aR 9, aR a1, aI x2, aI (x3 + 1), aU]) dX7_tellRowsAhead_18 rfl b1_3 rfl ?_
    refine v_goto (tgt := 2) dX7_tellRowsAhead_21 (by decide) ?_
    exact k
theorem S_X7_tellRowsAhead_26 {kc ks : Nat} {h : Hh} {Q : PQ} {X : PX} {a1 n1 : Nat} (q1 : (RM WM wd).1[a1]? = some (1, n1)) {x2 : Int} {x3 : Int}
    (k : ((x2 ≤ x3 → am_V M_X7_tellRowsAhead kc ks 56 [aR 9, aR a1, aI x2, aI 1, aU] [] (RM WM wd) h Q X) ∧ (x3 < x2 → ((0 : Int) ≤ x3 ∧ (x3 : Int) < ((n1 : Nat) : Int)) ∧ am_V M_X7_indexOfSign 0 0 0 [aI (h a1 x3)] [] (RM WM wd) h (fun v ρ' h' => am_V M_X7_tellRowsAhead kc ks 41 [aR 9, aR a1, aI x2, aI x3, aU] (v ++ [aR 13]) ρ' h' Q X) X))) :
    am_V M_X7_tellRowsAhead kc ks 26 [aR 9, aR a1, aI x2, aI x3, aU] [] (RM WM wd) h Q X := by
  refine v_iload_n dX7_tellRowsAhead_26 rfl rfl ?_
  refine v_iload_n dX7_tellRowsAhead_27 rfl rfl ?_
  refine v_icmp_ge (tgt := 54) dX7_tellRowsAhead_28 (by decide) (fun z => ?_) (fun z => ?_)
  · have k := k.1 z
    refine v_iconst dX7_tellRowsAhead_54 ⟨by decide, by decide⟩ ?_
    refine v_istore_n (E2 := [aR 9, aR a1, aI x2, aI 1, aU]) dX7_tellRowsAhead_55 rfl (Nat.le_of_ble_eq_true rfl) rfl ?_
    exact k
  · have k := k.2 z
    obtain ⟨⟨b1_1, b1_2⟩, k⟩ := k
    refine v_aload_n dX7_tellRowsAhead_31 rfl rfl ?_
    refine v_getR (x := 13) dX7_tellRowsAhead_32 fl_X7_22 am_clsA rfl rfl rfl ?_
    refine v_aload_n dX7_tellRowsAhead_35 rfl rfl ?_
    refine v_iload_n dX7_tellRowsAhead_36 rfl rfl ?_
    refine v_cald dX7_tellRowsAhead_37 q1 b1_1 b1_2 ?_
    exact v_callS (j := M_X7_indexOfSign) (As := [aI (h a1 x3)]) (st := [aR 13]) (E0 := [aI (h a1 x3)]) dX7_tellRowsAhead_38 ms_X7_50 J_X7_indexOfSign (Nat.zero_le _) (Nat.zero_le _) (Nat.le_of_ble_eq_true rfl) rfl (Nat.le_of_ble_eq_true rfl) (List.forall_mem_cons.mpr ⟨rfl, fun _ h9 => absurd h9 List.not_mem_nil⟩) (Nat.le_of_ble_eq_true rfl) rfl pn_X7_indexOfSign rfl k
theorem S_X7_tellRowsAhead_56 {kc ks : Nat} {h : Hh} {Q : PQ} {X : PX} {a1 n1 : Nat} (q1 : (RM WM wd).1[a1]? = some (1, n1)) {x2 : Int} {x3 : Int}
    (k : ((28 ≤ x3 → am_V M_X7_tellRowsAhead kc ks 90 [aR 9, aR a1, aI x2, aI 0, aU] [] (RM WM wd) h Q X) ∧ (x3 < 28 → ((0 : Int) ≤ x3 ∧ (x3 : Int) < 28 ∧ (-2147483648 ≤ ((x3 - 1) : Int) ∧ ((x3 - 1) : Int) < 2147483648) ∧ (0 : Int) ≤ (x3 - 1) ∧ ((x3 - 1) : Int) < 28 ∧ (-2147483648 ≤ (((h 13 x3) + (h 13 (x3 - 1))) : Int) ∧ (((h 13 x3) + (h 13 (x3 - 1))) : Int) < 2147483648) ∧ (0 : Int) ≤ x3 ∧ (x3 : Int) < 28 ∧ (-2147483648 ≤ ((x3 + 1) : Int) ∧ ((x3 + 1) : Int) < 2147483648)) ∧ am_V M_X7_tellRowsAhead kc ks 56 [aR 9, aR a1, aI x2, aI (x3 + 1), aU] [] (RM WM wd) (am_st h 13 x3 ((h 13 x3) + (h 13 (x3 - 1)))) Q X))) :
    am_V M_X7_tellRowsAhead kc ks 56 [aR 9, aR a1, aI x2, aI x3, aU] [] (RM WM wd) h Q X := by
  refine v_iload_n dX7_tellRowsAhead_56 rfl rfl ?_
  refine v_aload_n dX7_tellRowsAhead_57 rfl rfl ?_
  refine v_getR (x := 13) dX7_tellRowsAhead_58 fl_X7_22 am_clsA rfl rfl rfl ?_
  refine v_alen (N := 28) dX7_tellRowsAhead_61 rfl (by decide) rfl ⟨by decide, by decide⟩ ?_
  refine v_icmp_ge (tgt := 88) dX7_tellRowsAhead_62 (by decide) (fun z => ?_) (fun z => ?_)
  · have k := k.1 z
    refine v_iconst dX7_tellRowsAhead_88 ⟨by decide, by decide⟩ ?_
    refine v_istore_n (E2 := [aR 9, aR a1, aI x2, aI 0, aU]) dX7_tellRowsAhead_89 rfl (Nat.le_of_ble_eq_true rfl) rfl ?_
    exact k
  · have k := k.2 z
    obtain ⟨⟨b1_1, b1_2, b1_3, b1_4, b1_5, b1_6, b1_7, b1_8, b1_9⟩, k⟩ := k
    refine v_aload_n dX7_tellRowsAhead_65 rfl rfl ?_
    refine v_getR (x := 13) dX7_tellRowsAhead_66 fl_X7_22 am_clsA rfl rfl rfl ?_
    refine v_iload_n dX7_tellRowsAhead_69 rfl rfl ?_
    refine v_dup2 dX7_tellRowsAhead_70 ?_
    refine v_iald dX7_tellRowsAhead_71 rfl b1_1 b1_2 ?_
    refine v_aload_n dX7_tellRowsAhead_72 rfl rfl ?_
    refine v_getR (x := 13) dX7_tellRowsAhead_73 fl_X7_22 am_clsA rfl rfl rfl ?_
    refine v_iload_n dX7_tellRowsAhead_76 rfl rfl ?_
    refine v_iconst dX7_tellRowsAhead_77 ⟨by decide, by decide⟩ ?_
    refine v_isub dX7_tellRowsAhead_78 b1_3 ?_
    refine v_iald dX7_tellRowsAhead_79 rfl b1_4 b1_5 ?_
    refine v_iadd dX7_tellRowsAhead_80 b1_6 ?_
    refine v_iast dX7_tellRowsAhead_81 rfl b1_7 b1_8 ?_
    refine v_iinc (E2 := [aR 9, aR a1, aI x2, aI (x3 + 1), aU]) dX7_tellRowsAhead_82 rfl b1_9 rfl ?_
    refine v_goto (tgt := 56) dX7_tellRowsAhead_85 (by decide) ?_
    exact k
theorem S_X7_tellRowsAhead_41 {kc ks : Nat} {h : Hh} {Q : PQ} {X : PX} {a1 n1 : Nat} (q1 : (RM WM wd).1[a1]? = some (1, n1)) {x2 : Int} {x3 : Int} {xs0 : Int}
    (k : ((-2147483648 ≤ ((xs0 + 1) : Int) ∧ ((xs0 + 1) : Int) < 2147483648) ∧ (0 : Int) ≤ (xs0 + 1) ∧ ((xs0 + 1) : Int) < 28 ∧ (-2147483648 ≤ (((h 13 (xs0 + 1)) + 1) : Int) ∧ (((h 13 (xs0 + 1)) + 1) : Int) < 2147483648) ∧ (0 : Int) ≤ (xs0 + 1) ∧ ((xs0 + 1) : Int) < 28 ∧ (-2147483648 ≤ ((x3 + 1) : Int) ∧ ((x3 + 1) : Int) < 2147483648)) ∧ am_V M_X7_tellRowsAhead kc ks 26 [aR 9, aR a1, aI x2, aI (x3 + 1), aU] [] (RM WM wd) (am_st h 13 (xs0 + 1) ((h 13 (xs0 + 1)) + 1)) Q X) :
    am_V M_X7_tellRowsAhead kc ks 41 [aR 9, aR a1, aI x2, aI x3, aU] [aI xs0, aR 13] (RM WM wd) h Q X := by
  obtain ⟨⟨b0_1, b0_2, b0_3, b0_4, b0_5, b0_6, b0_7⟩, k⟩ := k
  refine v_iconst dX7_tellRowsAhead_41 ⟨by decide, by decide⟩ ?_
  refine v_iadd dX7_tellRowsAhead_42 b0_1 ?_
  refine v_dup2 dX7_tellRowsAhead_43 ?_
  refine v_iald dX7_tellRowsAhead_44 rfl b0_2 b0_3 ?_
  refine v_iconst dX7_tellRowsAhead_45 ⟨by decide, by decide⟩ ?_
  refine v_iadd dX7_tellRowsAhead_46 b0_4 ?_
  refine v_iast dX7_tellRowsAhead_47 rfl b0_5 b0_6 ?_
  refine v_iinc (E2 := [aR 9, aR a1, aI x2, aI (x3 + 1), aU]) dX7_tellRowsAhead_48 rfl b0_7 rfl ?_
  refine v_goto (tgt := 26) dX7_tellRowsAhead_51 (by decide) ?_
  exact k
theorem S_X7_tellRowsAhead_90 {kc ks : Nat} {h : Hh} {Q : PQ} {X : PX} {a1 n1 : Nat} (q1 : (RM WM wd).1[a1]? = some (1, n1)) {x2 : Int} {x3 : Int}
    (k : ((x2 ≤ x3 → Q [] (RM WM wd) h) ∧ (x3 < x2 → ((0 : Int) ≤ x3 ∧ (x3 : Int) < ((n1 : Nat) : Int)) ∧ am_V M_X7_indexOfSign 0 0 0 [aI (h a1 x3)] [] (RM WM wd) h (fun v ρ' h' => am_V M_X7_tellRowsAhead kc ks 101 [aR 9, aR a1, aI x2, aI x3, aU] (v ++ []) ρ' h' Q X) X))) :
    am_V M_X7_tellRowsAhead kc ks 90 [aR 9, aR a1, aI x2, aI x3, aU] [] (RM WM wd) h Q X := by
  refine v_iload_n dX7_tellRowsAhead_90 rfl rfl ?_
  refine v_iload_n dX7_tellRowsAhead_91 rfl rfl ?_
  refine v_icmp_ge (tgt := 133) dX7_tellRowsAhead_92 (by decide) (fun z => ?_) (fun z => ?_)
  · have k := k.1 z
    exact v_vret dX7_tellRowsAhead_133 rfl rfl k
  · have k := k.2 z
    obtain ⟨⟨b1_1, b1_2⟩, k⟩ := k
    refine v_aload_n dX7_tellRowsAhead_95 rfl rfl ?_
    refine v_iload_n dX7_tellRowsAhead_96 rfl rfl ?_
    refine v_cald dX7_tellRowsAhead_97 q1 b1_1 b1_2 ?_
    exact v_callS (j := M_X7_indexOfSign) (As := [aI (h a1 x3)]) (st := []) (E0 := [aI (h a1 x3)]) dX7_tellRowsAhead_98 ms_X7_50 J_X7_indexOfSign (Nat.zero_le _) (Nat.zero_le _) (Nat.le_of_ble_eq_true rfl) rfl (Nat.le_of_ble_eq_true rfl) (List.forall_mem_cons.mpr ⟨rfl, fun _ h9 => absurd h9 List.not_mem_nil⟩) (Nat.le_of_ble_eq_true rfl) rfl pn_X7_indexOfSign rfl k
theorem S_X7_tellRowsAhead_101 {kc ks : Nat} {h : Hh} {Q : PQ} {X : PX} {a1 n1 : Nat} (q1 : (RM WM wd).1[a1]? = some (1, n1)) {x2 : Int} {x3 : Int} {xs0 : Int}
    (k : ((0 : Int) ≤ xs0 ∧ (xs0 : Int) < 28 ∧ (0 : Int) ≤ x3 ∧ (x3 : Int) < 65 ∧ (0 : Int) ≤ xs0 ∧ (xs0 : Int) < 28 ∧ (-2147483648 ≤ ((((am_st h 12 x3 (h 13 xs0)) 13 xs0) + 1) : Int) ∧ ((((am_st h 12 x3 (h 13 xs0)) 13 xs0) + 1) : Int) < 2147483648) ∧ (0 : Int) ≤ xs0 ∧ (xs0 : Int) < 28 ∧ (-2147483648 ≤ ((x3 + 1) : Int) ∧ ((x3 + 1) : Int) < 2147483648)) ∧ am_V M_X7_tellRowsAhead kc ks 90 [aR 9, aR a1, aI x2, aI (x3 + 1), aU] [] (RM WM wd) (am_st (am_st h 12 x3 (h 13 xs0)) 13 xs0 (((am_st h 12 x3 (h 13 xs0)) 13 xs0) + 1)) Q X) :
    am_V M_X7_tellRowsAhead kc ks 101 [aR 9, aR a1, aI x2, aI x3, aU] [aI xs0] (RM WM wd) h Q X := by
  obtain ⟨⟨b0_1, b0_2, b0_3, b0_4, b0_5, b0_6, b0_7, b0_8, b0_9, b0_10⟩, k⟩ := k
  refine v_istore (E2 := [aR 9, aR a1, aI x2, aI x3, aI xs0]) dX7_tellRowsAhead_101 (Nat.le_of_ble_eq_true rfl) rfl ?_
  refine v_aload_n dX7_tellRowsAhead_103 rfl rfl ?_
  refine v_getR (x := 12) dX7_tellRowsAhead_104 fl_X7_18 am_clsA rfl rfl rfl ?_
  refine v_iload_n dX7_tellRowsAhead_107 rfl rfl ?_
  refine v_aload_n dX7_tellRowsAhead_108 rfl rfl ?_
  refine v_getR (x := 13) dX7_tellRowsAhead_109 fl_X7_22 am_clsA rfl rfl rfl ?_
  refine v_iload dX7_tellRowsAhead_112 rfl ?_
  refine v_iald dX7_tellRowsAhead_114 rfl b0_1 b0_2 ?_
  refine v_iast dX7_tellRowsAhead_115 rfl b0_3 b0_4 ?_
  refine v_aload_n dX7_tellRowsAhead_116 rfl rfl ?_
  refine v_getR (x := 13) dX7_tellRowsAhead_117 fl_X7_22 am_clsA rfl rfl rfl ?_
  refine v_iload dX7_tellRowsAhead_120 rfl ?_
  refine v_dup2 dX7_tellRowsAhead_122 ?_
  refine v_iald dX7_tellRowsAhead_123 rfl b0_5 b0_6 ?_
  refine v_iconst dX7_tellRowsAhead_124 ⟨by decide, by decide⟩ ?_
  refine v_iadd dX7_tellRowsAhead_125 b0_7 ?_
  refine v_iast dX7_tellRowsAhead_126 rfl b0_8 b0_9 ?_
  refine v_iinc (E2 := [aR 9, aR a1, aI x2, aI (x3 + 1), aI xs0]) dX7_tellRowsAhead_127 rfl b0_10 rfl ?_
  refine v_goto (tgt := 90) dX7_tellRowsAhead_130 (by decide) ?_
  refine v_weak (E2 := [aR 9, aR a1, aI x2, aI (x3 + 1), aU]) ⟨Or.inl rfl, ⟨Or.inl rfl, ⟨Or.inl rfl, ⟨Or.inl rfl, ⟨Or.inr rfl, trivial⟩⟩⟩⟩⟩ ?_
  exact k
theorem S_X7_comesBack_0 {kc ks : Nat} {h : Hh} {Q : PQ} {X : PX} {a1 : Nat} (t1 : isT a1)
    (k : ((-2147483648 ≤ (((h a1 4) + 1) : Int) ∧ (((h a1 4) + 1) : Int) < 2147483648)) ∧ am_V M_X7_comesBack kc ks 9 [aR 9, aR a1, aI ((h a1 4) + 1), aI 0] [] (RM WM wd) h Q X) :
    am_V M_X7_comesBack kc ks 0 [aR 9, aR a1, aU, aU] [] (RM WM wd) h Q X := by
  obtain ⟨b0_1, k⟩ := k
  refine v_aload_n dX7_comesBack_0 rfl rfl ?_
  refine v_getI (j := 4) dX7_comesBack_1 fl_X7_53 am_clsA rfl rfl (tk0 t1) ?_
  refine v_iconst dX7_comesBack_4 ⟨by decide, by decide⟩ ?_
  refine v_iadd dX7_comesBack_5 b0_1 ?_
  refine v_istore_n (E2 := [aR 9, aR a1, aI ((h a1 4) + 1), aU]) dX7_comesBack_6 rfl (Nat.le_of_ble_eq_true rfl) rfl ?_
  refine v_iconst dX7_comesBack_7 ⟨by decide, by decide⟩ ?_
  refine v_istore_n (E2 := [aR 9, aR a1, aI ((h a1 4) + 1), aI 0]) dX7_comesBack_8 rfl (Nat.le_of_ble_eq_true rfl) rfl ?_
  exact k
theorem S_X7_comesBack_9 {kc ks : Nat} {h : Hh} {Q : PQ} {X : PX} {a1 : Nat} (t1 : isT a1) {x2 : Int} {x3 : Int}
    (k : ((x2 ≤ x3 → am_V M_X7_turnBack 0 0 0 [aR 9, aR 11, aI x2, aU, aU] [] (RM WM wd) h (fun v ρ' h' => am_V M_X7_comesBack kc ks 40 [aR 9, aR a1, aI x2, aU] (v ++ []) ρ' h' Q X) X) ∧ (x3 < x2 → am_V M_X6_lastSign 0 0 0 [aR a1, aI x3, aU] [] (RM WM wd) h (fun v ρ' h' => am_V M_X7_comesBack kc ks 24 [aR 9, aR a1, aI x2, aI x3] (v ++ [aI x3, aR 11]) ρ' h' Q X) X))) :
    am_V M_X7_comesBack kc ks 9 [aR 9, aR a1, aI x2, aI x3] [] (RM WM wd) h Q X := by
  refine v_iload_n dX7_comesBack_9 rfl rfl ?_
  refine v_iload_n dX7_comesBack_10 rfl rfl ?_
  refine v_icmp_ge (tgt := 31) dX7_comesBack_11 (by decide) (fun z => ?_) (fun z => ?_)
  · have k := k.1 z
    refine v_aload_n dX7_comesBack_31 rfl rfl ?_
    refine v_aload_n dX7_comesBack_32 rfl rfl ?_
    refine v_getR (x := 11) dX7_comesBack_33 fl_X7_15 am_clsA rfl rfl rfl ?_
    refine v_iload_n dX7_comesBack_36 rfl rfl ?_
    refine v_weak (E2 := [aR 9, aR a1, aI x2, aU]) ⟨Or.inl rfl, ⟨Or.inl rfl, ⟨Or.inl rfl, ⟨Or.inr rfl, trivial⟩⟩⟩⟩ ?_
    exact v_callV (j := M_X7_turnBack) (As := [aR 11, aI x2]) (st := []) (E0 := [aR 9, aR 11, aI x2, aU, aU]) (a := 9) (ci := 5) (N := 5) (q9 := (RX7, TX7, 5)) dX7_comesBack_37 ml_X7_57 J_X7_turnBack (Nat.zero_le _) (Nat.zero_le _) (Nat.le_of_ble_eq_true rfl) rfl (Nat.le_of_ble_eq_true rfl) (List.forall_mem_cons.mpr ⟨rfl, List.forall_mem_cons.mpr ⟨rfl, List.forall_mem_cons.mpr ⟨rfl, fun _ h9 => absurd h9 List.not_mem_nil⟩⟩⟩) (Nat.le_of_ble_eq_true rfl) rfl rfl rfl rfl pn_X7_turnBack rfl k
  · have k := k.2 z
    refine v_aload_n dX7_comesBack_14 rfl rfl ?_
    refine v_getR (x := 11) dX7_comesBack_15 fl_X7_15 am_clsA rfl rfl rfl ?_
    refine v_iload_n dX7_comesBack_18 rfl rfl ?_
    refine v_aload_n dX7_comesBack_19 rfl rfl ?_
    refine v_iload_n dX7_comesBack_20 rfl rfl ?_
    exact v_callV (j := M_X6_lastSign) (As := [aI x3]) (st := [aI x3, aR 11]) (E0 := [aR a1, aI x3, aU]) (a := a1) (ci := 4) (N := 5) (q9 := (RX6, TX6, 5)) dX7_comesBack_21 ml_X7_32 J_X6_lastSign (Nat.zero_le _) (Nat.zero_le _) (Nat.le_of_ble_eq_true rfl) rfl (Nat.le_of_ble_eq_true rfl) (List.forall_mem_cons.mpr ⟨rfl, List.forall_mem_cons.mpr ⟨rfl, fun _ h9 => absurd h9 List.not_mem_nil⟩⟩) (Nat.le_of_ble_eq_true rfl) rfl (tk0 t1) rfl rfl pn_X6_lastSign rfl k
theorem S_X7_comesBack_40 {kc ks : Nat} {h : Hh} {Q : PQ} {X : PX} {a1 : Nat} (t1 : isT a1) {x2 : Int} {xs0 : Int}
    (k : ((xs0 ≠ 0 → am_V M_X7_comesBack kc ks 47 [aR 9, aR a1, aI x2, aI 0] [] (RM WM wd) h Q X) ∧ (xs0 = 0 → Q [aI 0] (RM WM wd) h))) :
    am_V M_X7_comesBack kc ks 40 [aR 9, aR a1, aI x2, aU] [aI xs0] (RM WM wd) h Q X := by
  refine v_if_ne (tgt := 45) dX7_comesBack_40 (by decide) (fun z => ?_) (fun z => ?_)
  · have k := k.1 z
    refine v_iconst dX7_comesBack_45 ⟨by decide, by decide⟩ ?_
    refine v_istore_n (E2 := [aR 9, aR a1, aI x2, aI 0]) dX7_comesBack_46 rfl (Nat.le_of_ble_eq_true rfl) rfl ?_
    exact k
  · have k := k.2 z
    refine v_iconst dX7_comesBack_43 ⟨by decide, by decide⟩ ?_
    exact v_zret dX7_comesBack_44 rfl rfl (Or.inl rfl) k
theorem S_X7_comesBack_24 {kc ks : Nat} {h : Hh} {Q : PQ} {X : PX} {a1 : Nat} (t1 : isT a1) {x2 : Int} {x3 : Int} {xs0 : Int} {xs1 : Int}
    (k : ((0 : Int) ≤ xs1 ∧ (xs1 : Int) < 65 ∧ (-2147483648 ≤ ((x3 + 1) : Int) ∧ ((x3 + 1) : Int) < 2147483648)) ∧ am_V M_X7_comesBack kc ks 9 [aR 9, aR a1, aI x2, aI (x3 + 1)] [] (RM WM wd) (am_st h 11 xs1 (xs0 % 65536)) Q X) :
    am_V M_X7_comesBack kc ks 24 [aR 9, aR a1, aI x2, aI x3] [aI xs0, aI xs1, aR 11] (RM WM wd) h Q X := by
  obtain ⟨⟨b0_1, b0_2, b0_3⟩, k⟩ := k
  refine v_cast dX7_comesBack_24 rfl b0_1 b0_2 ?_
  refine v_iinc (E2 := [aR 9, aR a1, aI x2, aI (x3 + 1)]) dX7_comesBack_25 rfl b0_3 rfl ?_
  refine v_goto (tgt := 9) dX7_comesBack_28 (by decide) ?_
  exact k
theorem S_X7_comesBack_47 {kc ks : Nat} {h : Hh} {Q : PQ} {X : PX} {a1 : Nat} (t1 : isT a1) {x2 : Int} {x3 : Int}
    (k : ((x2 ≤ x3 → am_V M_X7_comesBack kc ks 76 [aR 9, aR a1, aU, aI 0] [] (RM WM wd) h Q X) ∧ (x3 < x2 → ((0 : Int) ≤ x3 ∧ (x3 : Int) < 65) ∧ am_V M_X6_rowAhead 0 0 0 [aR a1, aI x3, aU] [] (RM WM wd) h (fun v ρ' h' => am_V M_X7_comesBack kc ks 63 [aR 9, aR a1, aI x2, aI x3] (v ++ [aI (h 12 x3)]) ρ' h' Q X) X))) :
    am_V M_X7_comesBack kc ks 47 [aR 9, aR a1, aI x2, aI x3] [] (RM WM wd) h Q X := by
  refine v_iload_n dX7_comesBack_47 rfl rfl ?_
  refine v_iload_n dX7_comesBack_48 rfl rfl ?_
  refine v_icmp_ge (tgt := 74) dX7_comesBack_49 (by decide) (fun z => ?_) (fun z => ?_)
  · have k := k.1 z
    refine v_iconst dX7_comesBack_74 ⟨by decide, by decide⟩ ?_
    refine v_istore_n (E2 := [aR 9, aR a1, aI x2, aI 0]) dX7_comesBack_75 rfl (Nat.le_of_ble_eq_true rfl) rfl ?_
    refine v_weak (E2 := [aR 9, aR a1, aU, aI 0]) ⟨Or.inl rfl, ⟨Or.inl rfl, ⟨Or.inr rfl, ⟨Or.inl rfl, trivial⟩⟩⟩⟩ ?_
    exact k
  · have k := k.2 z
    obtain ⟨⟨b1_1, b1_2⟩, k⟩ := k
    refine v_aload_n dX7_comesBack_52 rfl rfl ?_
    refine v_getR (x := 12) dX7_comesBack_53 fl_X7_18 am_clsA rfl rfl rfl ?_
    refine v_iload_n dX7_comesBack_56 rfl rfl ?_
    refine v_iald dX7_comesBack_57 rfl b1_1 b1_2 ?_
    refine v_aload_n dX7_comesBack_58 rfl rfl ?_
    refine v_iload_n dX7_comesBack_59 rfl rfl ?_
    exact v_callV (j := M_X6_rowAhead) (As := [aI x3]) (st := [aI (h 12 x3)]) (E0 := [aR a1, aI x3, aU]) (a := a1) (ci := 4) (N := 5) (q9 := (RX6, TX6, 5)) dX7_comesBack_60 ml_X7_61 J_X6_rowAhead (Nat.zero_le _) (Nat.zero_le _) (Nat.le_of_ble_eq_true rfl) rfl (Nat.le_of_ble_eq_true rfl) (List.forall_mem_cons.mpr ⟨rfl, List.forall_mem_cons.mpr ⟨rfl, fun _ h9 => absurd h9 List.not_mem_nil⟩⟩) (Nat.le_of_ble_eq_true rfl) rfl (tk0 t1) rfl rfl pn_X6_rowAhead rfl k
theorem S_X7_comesBack_76 {kc ks : Nat} {h : Hh} {Q : PQ} {X : PX} {a1 : Nat} (t1 : isT a1) {x3 : Int}
    (k : (((h a1 4) ≤ x3 → Q [aI 1] (RM WM wd) h) ∧ (x3 < (h a1 4) → ((0 : Int) ≤ x3 ∧ (x3 : Int) < 64 ∧ (0 : Int) ≤ x3 ∧ (x3 : Int) < 64) ∧ (((h 10 x3) = (h (a1 + 1) x3) → ((-2147483648 ≤ ((x3 + 1) : Int) ∧ ((x3 + 1) : Int) < 2147483648)) ∧ am_V M_X7_comesBack kc ks 76 [aR 9, aR a1, aU, aI (x3 + 1)] [] (RM WM wd) h Q X) ∧ ((h 10 x3) ≠ (h (a1 + 1) x3) → Q [aI 0] (RM WM wd) h))))) :
    am_V M_X7_comesBack kc ks 76 [aR 9, aR a1, aU, aI x3] [] (RM WM wd) h Q X := by
  refine v_iload_n dX7_comesBack_76 rfl rfl ?_
  refine v_aload_n dX7_comesBack_77 rfl rfl ?_
  refine v_getI (j := 4) dX7_comesBack_78 fl_X7_53 am_clsA rfl rfl (tk0 t1) ?_
  refine v_icmp_ge (tgt := 107) dX7_comesBack_81 (by decide) (fun z => ?_) (fun z => ?_)
  · have k := k.1 z
    refine v_iconst dX7_comesBack_107 ⟨by decide, by decide⟩ ?_
    exact v_zret dX7_comesBack_108 rfl rfl (Or.inr rfl) k
  · have k := k.2 z
    obtain ⟨⟨b1_1, b1_2, b1_3, b1_4⟩, k⟩ := k
    refine v_aload_n dX7_comesBack_84 rfl rfl ?_
    refine v_getR (x := 10) dX7_comesBack_85 fl_X7_9 am_clsA rfl rfl rfl ?_
    refine v_iload_n dX7_comesBack_88 rfl rfl ?_
    refine v_cald dX7_comesBack_89 rfl b1_1 b1_2 ?_
    refine v_aload_n dX7_comesBack_90 rfl rfl ?_
    refine v_getR (x := (a1 + 1)) dX7_comesBack_91 fl_X7_65 am_clsA rfl (tk0 t1) (tr0 t1) ?_
    refine v_iload_n dX7_comesBack_94 rfl rfl ?_
    refine v_cald dX7_comesBack_95 (tk1 t1) b1_3 b1_4 ?_
    refine v_icmp_eq (tgt := 101) dX7_comesBack_96 (by decide) (fun z => ?_) (fun z => ?_)
    · have k := k.1 z
      obtain ⟨b2_1, k⟩ := k
      refine v_iinc (E2 := [aR 9, aR a1, aU, aI (x3 + 1)]) dX7_comesBack_101 rfl b2_1 rfl ?_
      refine v_goto (tgt := 76) dX7_comesBack_104 (by decide) ?_
      exact k
    · have k := k.2 z
      refine v_iconst dX7_comesBack_99 ⟨by decide, by decide⟩ ?_
      exact v_zret dX7_comesBack_100 rfl rfl (Or.inl rfl) k
theorem S_X7_comesBack_63 {kc ks : Nat} {h : Hh} {Q : PQ} {X : PX} {a1 : Nat} (t1 : isT a1) {x2 : Int} {x3 : Int} {xs0 : Int} {xs1 : Int}
    (k : ((xs1 = xs0 → ((-2147483648 ≤ ((x3 + 1) : Int) ∧ ((x3 + 1) : Int) < 2147483648)) ∧ am_V M_X7_comesBack kc ks 47 [aR 9, aR a1, aI x2, aI (x3 + 1)] [] (RM WM wd) h Q X) ∧ (xs1 ≠ xs0 → Q [aI 0] (RM WM wd) h))) :
    am_V M_X7_comesBack kc ks 63 [aR 9, aR a1, aI x2, aI x3] [aI xs0, aI xs1] (RM WM wd) h Q X := by
  refine v_icmp_eq (tgt := 68) dX7_comesBack_63 (by decide) (fun z => ?_) (fun z => ?_)
  · have k := k.1 z
    obtain ⟨b1_1, k⟩ := k
    refine v_iinc (E2 := [aR 9, aR a1, aI x2, aI (x3 + 1)]) dX7_comesBack_68 rfl b1_1 rfl ?_
    refine v_goto (tgt := 47) dX7_comesBack_71 (by decide) ?_
    exact k
  · have k := k.2 z
    refine v_iconst dX7_comesBack_66 ⟨by decide, by decide⟩ ?_
    exact v_zret dX7_comesBack_67 rfl rfl (Or.inl rfl) k
theorem S_X8_put_0 {kc ks : Nat} {h : Hh} {Q : PQ} {X : PX} {x1 : Int}
    (k : ((65 ≤ (h 2 1) → Q [] (RM WM wd) h) ∧ ((h 2 1) < 65 → ((0 : Int) ≤ (h 2 1) ∧ ((h 2 1) : Int) < 65 ∧ (-2147483648 ≤ ((((am_st h 3 (h 2 1) (x1 % 65536)) 2 1) + 1) : Int) ∧ ((((am_st h 3 (h 2 1) (x1 % 65536)) 2 1) + 1) : Int) < 2147483648)) ∧ Q [] (RM WM wd) (am_st (am_st h 3 (h 2 1) (x1 % 65536)) 2 1 (((am_st h 3 (h 2 1) (x1 % 65536)) 2 1) + 1))))) :
    am_V M_X8_put kc ks 0 [aR 2, aI x1] [] (RM WM wd) h Q X := by
  refine v_aload_n dX8_put_0 rfl rfl ?_
  refine v_getI (j := 1) dX8_put_1 fl_X8_15 am_clsA rfl rfl rfl ?_
  refine v_aload_n dX8_put_4 rfl rfl ?_
  refine v_getR (x := 3) dX8_put_5 fl_X8_9 am_clsA rfl rfl rfl ?_
  refine v_alen (N := 65) dX8_put_8 rfl (by decide) rfl ⟨by decide, by decide⟩ ?_
  refine v_icmp_ge (tgt := 32) dX8_put_9 (by decide) (fun z => ?_) (fun z => ?_)
  · have k := k.1 z
    exact v_vret dX8_put_32 rfl rfl k
  · have k := k.2 z
    obtain ⟨⟨b1_1, b1_2, b1_3⟩, k⟩ := k
    refine v_aload_n dX8_put_12 rfl rfl ?_
    refine v_getR (x := 3) dX8_put_13 fl_X8_9 am_clsA rfl rfl rfl ?_
    refine v_aload_n dX8_put_16 rfl rfl ?_
    refine v_getI (j := 1) dX8_put_17 fl_X8_15 am_clsA rfl rfl rfl ?_
    refine v_iload_n dX8_put_20 rfl rfl ?_
    refine v_cast dX8_put_21 rfl b1_1 b1_2 ?_
    refine v_aload_n dX8_put_22 rfl rfl ?_
    refine v_dupR dX8_put_23 ?_
    refine v_getI (j := 1) dX8_put_24 fl_X8_15 am_clsA rfl rfl rfl ?_
    refine v_iconst dX8_put_27 ⟨by decide, by decide⟩ ?_
    refine v_iadd dX8_put_28 b1_3 ?_
    refine v_putI (j := 1) dX8_put_29 pl_X8_15 am_clsA rfl rfl rfl ?_
    exact v_vret dX8_put_32 rfl rfl k
theorem S_X8_hold_0 {kc ks : Nat} {h : Hh} {Q : PQ} {X : PX} {a1 n1 : Nat} (q1 : (RM WM wd).1[a1]? = some (1, n1)) {x2 : Int} {x3 : Int}
    (k : am_V M_X8_hold kc ks 8 [aR 2, aR a1, aI x2, aI x3, aI 0] [] (RM WM wd) (am_st h 2 1 0) Q X) :
    am_V M_X8_hold kc ks 0 [aR 2, aR a1, aI x2, aI x3, aU] [] (RM WM wd) h Q X := by
  refine v_aload_n dX8_hold_0 rfl rfl ?_
  refine v_iconst dX8_hold_1 ⟨by decide, by decide⟩ ?_
  refine v_putI (j := 1) dX8_hold_2 pl_X8_15 am_clsA rfl rfl rfl ?_
  refine v_iconst dX8_hold_5 ⟨by decide, by decide⟩ ?_
  refine v_istore (E2 := [aR 2, aR a1, aI x2, aI x3, aI 0]) dX8_hold_6 (Nat.le_of_ble_eq_true rfl) rfl ?_
  exact k
theorem S_X8_hold_8 {kc ks : Nat} {h : Hh} {Q : PQ} {X : PX} {a1 n1 : Nat} (q1 : (RM WM wd).1[a1]? = some (1, n1)) {x2 : Int} {x3 : Int} {x4 : Int}
    (k : ((x3 ≤ x4 → Q [] (RM WM wd) h) ∧ (x4 < x3 → ((-2147483648 ≤ ((x2 + x4) : Int) ∧ ((x2 + x4) : Int) < 2147483648) ∧ (0 : Int) ≤ (x2 + x4) ∧ ((x2 + x4) : Int) < ((n1 : Nat) : Int)) ∧ am_V M_X8_put 0 0 0 [aR 2, aI (h a1 (x2 + x4))] [] (RM WM wd) h (fun v ρ' h' => am_V M_X8_hold kc ks 24 [aR 2, aR a1, aI x2, aI x3, aI x4] (v ++ []) ρ' h' Q X) X))) :
    am_V M_X8_hold kc ks 8 [aR 2, aR a1, aI x2, aI x3, aI x4] [] (RM WM wd) h Q X := by
  refine v_iload dX8_hold_8 rfl ?_
  refine v_iload_n dX8_hold_10 rfl rfl ?_
  refine v_icmp_ge (tgt := 30) dX8_hold_11 (by decide) (fun z => ?_) (fun z => ?_)
  · have k := k.1 z
    exact v_vret dX8_hold_30 rfl rfl k
  · have k := k.2 z
    obtain ⟨⟨b1_1, b1_2, b1_3⟩, k⟩ := k
    refine v_aload_n dX8_hold_14 rfl rfl ?_
    refine v_aload_n dX8_hold_15 rfl rfl ?_
    refine v_iload_n dX8_hold_16 rfl rfl ?_
    refine v_iload dX8_hold_17 rfl ?_
    refine v_iadd dX8_hold_19 b1_1 ?_
    refine v_cald dX8_hold_20 q1 b1_2 b1_3 ?_
    exact v_callV (j := M_X8_put) (As := [aI (h a1 (x2 + x4))]) (st := []) (E0 := [aR 2, aI (h a1 (x2 + x4))]) (a := 2) (ci := 6) (N := 2) (q9 := (RX8, TX8, 2)) dX8_hold_21 ml_X8_19 J_X8_put (Nat.zero_le _) (Nat.zero_le _) (Nat.le_of_ble_eq_true rfl) rfl (Nat.le_of_ble_eq_true rfl) (List.forall_mem_cons.mpr ⟨rfl, List.forall_mem_cons.mpr ⟨rfl, fun _ h9 => absurd h9 List.not_mem_nil⟩⟩) (Nat.le_of_ble_eq_true rfl) rfl rfl rfl rfl pn_X8_put rfl k
theorem S_X8_hold_24 {kc ks : Nat} {h : Hh} {Q : PQ} {X : PX} {a1 n1 : Nat} (q1 : (RM WM wd).1[a1]? = some (1, n1)) {x2 : Int} {x3 : Int} {x4 : Int}
    (k : ((-2147483648 ≤ ((x4 + 1) : Int) ∧ ((x4 + 1) : Int) < 2147483648)) ∧ am_V M_X8_hold kc ks 8 [aR 2, aR a1, aI x2, aI x3, aI (x4 + 1)] [] (RM WM wd) h Q X) :
    am_V M_X8_hold kc ks 24 [aR 2, aR a1, aI x2, aI x3, aI x4] [] (RM WM wd) h Q X := by
  obtain ⟨b0_1, k⟩ := k
  refine v_iinc (E2 := [aR 2, aR a1, aI x2, aI x3, aI (x4 + 1)]) dX8_hold_24 rfl b0_1 rfl ?_
  refine v_goto (tgt := 8) dX8_hold_27 (by decide) ?_
  exact k
theorem S_X8_hasEndSign_0 {kc ks : Nat} {h : Hh} {Q : PQ} {X : PX} 
    (k : am_V M_X8_hasEndSign kc ks 2 [aR 2, aI 0] [] (RM WM wd) h Q X) :
    am_V M_X8_hasEndSign kc ks 0 [aR 2, aU] [] (RM WM wd) h Q X := by
  refine v_iconst dX8_hasEndSign_0 ⟨by decide, by decide⟩ ?_
  refine v_istore_n (E2 := [aR 2, aI 0]) dX8_hasEndSign_1 rfl (Nat.le_of_ble_eq_true rfl) rfl ?_
  exact k
theorem S_X8_hasEndSign_2 {kc ks : Nat} {h : Hh} {Q : PQ} {X : PX} {x1 : Int}
    (k : (((h 2 1) ≤ x1 → Q [aI 0] (RM WM wd) h) ∧ (x1 < (h 2 1) → ((0 : Int) ≤ x1 ∧ (x1 : Int) < 65) ∧ (((h 3 x1) ≠ 36 → ((-2147483648 ≤ ((x1 + 1) : Int) ∧ ((x1 + 1) : Int) < 2147483648)) ∧ am_V M_X8_hasEndSign kc ks 2 [aR 2, aI (x1 + 1)] [] (RM WM wd) h Q X) ∧ ((h 3 x1) = 36 → Q [aI 1] (RM WM wd) h))))) :
    am_V M_X8_hasEndSign kc ks 2 [aR 2, aI x1] [] (RM WM wd) h Q X := by
  refine v_iload_n dX8_hasEndSign_2 rfl rfl ?_
  refine v_aload_n dX8_hasEndSign_3 rfl rfl ?_
  refine v_getI (j := 1) dX8_hasEndSign_4 fl_X8_15 am_clsA rfl rfl rfl ?_
  refine v_icmp_ge (tgt := 29) dX8_hasEndSign_7 (by decide) (fun z => ?_) (fun z => ?_)
  · have k := k.1 z
    refine v_iconst dX8_hasEndSign_29 ⟨by decide, by decide⟩ ?_
    exact v_zret dX8_hasEndSign_30 rfl rfl (Or.inl rfl) k
  · have k := k.2 z
    obtain ⟨⟨b1_1, b1_2⟩, k⟩ := k
    refine v_aload_n dX8_hasEndSign_10 rfl rfl ?_
    refine v_getR (x := 3) dX8_hasEndSign_11 fl_X8_9 am_clsA rfl rfl rfl ?_
    refine v_iload_n dX8_hasEndSign_14 rfl rfl ?_
    refine v_cald dX8_hasEndSign_15 rfl b1_1 b1_2 ?_
    refine v_bipush dX8_hasEndSign_16 (by decide) (by decide) ?_
    refine v_icmp_ne (tgt := 23) dX8_hasEndSign_18 (by decide) (fun z => ?_) (fun z => ?_)
    · have k := k.1 z
      obtain ⟨b2_1, k⟩ := k
      refine v_iinc (E2 := [aR 2, aI (x1 + 1)]) dX8_hasEndSign_23 rfl b2_1 rfl ?_
      refine v_goto (tgt := 2) dX8_hasEndSign_26 (by decide) ?_
      exact k
    · have k := k.2 z
      refine v_iconst dX8_hasEndSign_21 ⟨by decide, by decide⟩ ?_
      exact v_zret dX8_hasEndSign_22 rfl rfl (Or.inr rfl) k
theorem S_X9_agreesWith_0 {kc ks : Nat} {h : Hh} {Q : PQ} {X : PX} {a1 : Nat} (t1 : isT a1)
    (k : am_V M_X9_listWords 0 0 0 [aR 25, aR a1, aU, aU, aU, aU] [] (RM WM wd) h (fun v ρ' h' => am_V M_X9_agreesWith kc ks 5 [aR 25, aR a1] (v ++ []) ρ' h' Q X) X) :
    am_V M_X9_agreesWith kc ks 0 [aR 25, aR a1] [] (RM WM wd) h Q X := by
  refine v_aload_n dX9_agreesWith_0 rfl rfl ?_
  refine v_aload_n dX9_agreesWith_1 rfl rfl ?_
  exact v_callV (j := M_X9_listWords) (As := [aR a1]) (st := []) (E0 := [aR 25, aR a1, aU, aU, aU, aU]) (a := 25) (ci := 7) (N := 5) (q9 := (RX9, TX9, 5)) dX9_agreesWith_2 ml_X9_22 J_X9_listWords (Nat.zero_le _) (Nat.zero_le _) (Nat.le_of_ble_eq_true rfl) rfl (Nat.le_of_ble_eq_true rfl) (List.forall_mem_cons.mpr ⟨rfl, List.forall_mem_cons.mpr ⟨rfl, fun _ h9 => absurd h9 List.not_mem_nil⟩⟩) (Nat.le_of_ble_eq_true rfl) rfl rfl rfl rfl pn_X9_listWords rfl k
theorem S_X9_agreesWith_5 {kc ks : Nat} {h : Hh} {Q : PQ} {X : PX} {a1 : Nat} (t1 : isT a1)
    (k : ((-2147483648 ≤ (((h 25 3) - 1) : Int) ∧ (((h 25 3) - 1) : Int) < 2147483648)) ∧ am_V M_X6_newWordsBelow 0 0 0 [aR a1, aI (h a1 4), aU, aU] [] (RM WM wd) h (fun v ρ' h' => am_V M_X9_agreesWith kc ks 19 [aR 25, aR a1] (v ++ [aI ((h 25 3) - 1)]) ρ' h' Q X) X) :
    am_V M_X9_agreesWith kc ks 5 [aR 25, aR a1] [] (RM WM wd) h Q X := by
  obtain ⟨b0_1, k⟩ := k
  refine v_aload_n dX9_agreesWith_5 rfl rfl ?_
  refine v_getI (j := 3) dX9_agreesWith_6 fl_X9_26 am_clsA rfl rfl rfl ?_
  refine v_iconst dX9_agreesWith_9 ⟨by decide, by decide⟩ ?_
  refine v_isub dX9_agreesWith_10 b0_1 ?_
  refine v_aload_n dX9_agreesWith_11 rfl rfl ?_
  refine v_aload_n dX9_agreesWith_12 rfl rfl ?_
  refine v_getI (j := 4) dX9_agreesWith_13 fl_X9_30 am_clsA rfl rfl (tk0 t1) ?_
  exact v_callV (j := M_X6_newWordsBelow) (As := [aI (h a1 4)]) (st := [aI ((h 25 3) - 1)]) (E0 := [aR a1, aI (h a1 4), aU, aU]) (a := a1) (ci := 4) (N := 5) (q9 := (RX6, TX6, 5)) dX9_agreesWith_16 ml_X9_33 J_X6_newWordsBelow (Nat.zero_le _) (Nat.zero_le _) (Nat.le_of_ble_eq_true rfl) rfl (Nat.le_of_ble_eq_true rfl) (List.forall_mem_cons.mpr ⟨rfl, List.forall_mem_cons.mpr ⟨rfl, fun _ h9 => absurd h9 List.not_mem_nil⟩⟩) (Nat.le_of_ble_eq_true rfl) rfl (tk0 t1) rfl rfl pn_X6_newWordsBelow rfl k
theorem S_X9_agreesWith_19 {kc ks : Nat} {h : Hh} {Q : PQ} {X : PX} {a1 : Nat} (t1 : isT a1) {xs0 : Int} {xs1 : Int}
    (k : ((xs1 ≠ xs0 → Q [aI 0] (RM WM wd) h) ∧ (xs1 = xs0 → am_V M_X6_greatestCommon 0 0 0 [aR a1, aU, aU] [] (RM WM wd) h (fun v ρ' h' => am_V M_X9_agreesWith kc ks 30 [aU, aU] (v ++ [aI (h 25 4)]) ρ' h' Q X) X))) :
    am_V M_X9_agreesWith kc ks 19 [aR 25, aR a1] [aI xs0, aI xs1] (RM WM wd) h Q X := by
  refine v_icmp_ne (tgt := 37) dX9_agreesWith_19 (by decide) (fun z => ?_) (fun z => ?_)
  · have k := k.1 z
    refine v_iconst dX9_agreesWith_37 ⟨by decide, by decide⟩ ?_
    exact v_zret dX9_agreesWith_38 rfl rfl (Or.inl rfl) k
  · have k := k.2 z
    refine v_aload_n dX9_agreesWith_22 rfl rfl ?_
    refine v_getI (j := 4) dX9_agreesWith_23 fl_X9_37 am_clsA rfl rfl rfl ?_
    refine v_aload_n dX9_agreesWith_26 rfl rfl ?_
    refine v_weak (E2 := [aU, aU]) ⟨Or.inr rfl, ⟨Or.inr rfl, trivial⟩⟩ ?_
    exact v_callV (j := M_X6_greatestCommon) (As := []) (st := [aI (h 25 4)]) (E0 := [aR a1, aU, aU]) (a := a1) (ci := 4) (N := 5) (q9 := (RX6, TX6, 5)) dX9_agreesWith_27 ml_X9_40 J_X6_greatestCommon (Nat.zero_le _) (Nat.zero_le _) (Nat.le_of_ble_eq_true rfl) rfl (Nat.le_of_ble_eq_true rfl) (List.forall_mem_cons.mpr ⟨rfl, fun _ h9 => absurd h9 List.not_mem_nil⟩) (Nat.le_of_ble_eq_true rfl) rfl (tk0 t1) rfl rfl pn_X6_greatestCommon rfl k
theorem S_X9_agreesWith_30 {kc ks : Nat} {h : Hh} {Q : PQ} {X : PX} {xs0 : Int} {xs1 : Int}
    (k : ((xs1 ≠ xs0 → Q [aI 0] (RM WM wd) h) ∧ (xs1 = xs0 → Q [aI 1] (RM WM wd) h))) :
    am_V M_X9_agreesWith kc ks 30 [aU, aU] [aI xs0, aI xs1] (RM WM wd) h Q X := by
  refine v_icmp_ne (tgt := 37) dX9_agreesWith_30 (by decide) (fun z => ?_) (fun z => ?_)
  · have k := k.1 z
    refine v_iconst dX9_agreesWith_37 ⟨by decide, by decide⟩ ?_
    exact v_zret dX9_agreesWith_38 rfl rfl (Or.inl rfl) k
  · have k := k.2 z
    refine v_iconst dX9_agreesWith_33 ⟨by decide, by decide⟩ ?_
    refine v_goto (tgt := 38) dX9_agreesWith_34 (by decide) ?_
    exact v_zret dX9_agreesWith_38 rfl rfl (Or.inr rfl) k
theorem S_X9_listWords_0 {kc ks : Nat} {h : Hh} {Q : PQ} {X : PX} {a1 : Nat} (t1 : isT a1)
    (k : ((0 : Int) ≤ 0 ∧ (0 : Int) < 2081) ∧ am_V M_X9_listWords kc ks 19 [aR 25, aR a1, aI 0, aU, aU, aU] [] (RM WM wd) (am_st (am_st (am_st h 25 3 1) 27 0 0) 25 4 0) Q X) :
    am_V M_X9_listWords kc ks 0 [aR 25, aR a1, aU, aU, aU, aU] [] (RM WM wd) h Q X := by
  obtain ⟨⟨b0_1, b0_2⟩, k⟩ := k
  refine v_aload_n dX9_listWords_0 rfl rfl ?_
  refine v_iconst dX9_listWords_1 ⟨by decide, by decide⟩ ?_
  refine v_putI (j := 3) dX9_listWords_2 pl_X9_26 am_clsA rfl rfl rfl ?_
  refine v_aload_n dX9_listWords_5 rfl rfl ?_
  refine v_getR (x := 27) dX9_listWords_6 fl_X9_15 am_clsA rfl rfl rfl ?_
  refine v_iconst dX9_listWords_9 ⟨by decide, by decide⟩ ?_
  refine v_iconst dX9_listWords_10 ⟨by decide, by decide⟩ ?_
  refine v_iast dX9_listWords_11 rfl b0_1 b0_2 ?_
  refine v_aload_n dX9_listWords_12 rfl rfl ?_
  refine v_iconst dX9_listWords_13 ⟨by decide, by decide⟩ ?_
  refine v_putI (j := 4) dX9_listWords_14 pl_X9_37 am_clsA rfl rfl rfl ?_
  refine v_iconst dX9_listWords_17 ⟨by decide, by decide⟩ ?_
  refine v_istore_n (E2 := [aR 25, aR a1, aI 0, aU, aU, aU]) dX9_listWords_18 rfl (Nat.le_of_ble_eq_true rfl) rfl ?_
  exact k
theorem S_X9_listWords_19 {kc ks : Nat} {h : Hh} {Q : PQ} {X : PX} {a1 : Nat} (t1 : isT a1) {x2 : Int}
    (k : (((h a1 4) ≤ x2 → Q [] (RM WM wd) h) ∧ (x2 < (h a1 4) → am_V M_X9_listWords kc ks 32 [aR 25, aR a1, aI x2, aI 0, aI x2, aU] [] (RM WM wd) h Q X))) :
    am_V M_X9_listWords kc ks 19 [aR 25, aR a1, aI x2, aU, aU, aU] [] (RM WM wd) h Q X := by
  refine v_iload_n dX9_listWords_19 rfl rfl ?_
  refine v_aload_n dX9_listWords_20 rfl rfl ?_
  refine v_getI (j := 4) dX9_listWords_21 fl_X9_30 am_clsA rfl rfl (tk0 t1) ?_
  refine v_icmp_ge (tgt := 109) dX9_listWords_24 (by decide) (fun z => ?_) (fun z => ?_)
  · have k := k.1 z
    exact v_vret dX9_listWords_109 rfl rfl k
  · have k := k.2 z
    refine v_iconst dX9_listWords_27 ⟨by decide, by decide⟩ ?_
    refine v_istore_n (E2 := [aR 25, aR a1, aI x2, aI 0, aU, aU]) dX9_listWords_28 rfl (Nat.le_of_ble_eq_true rfl) rfl ?_
    refine v_iload_n dX9_listWords_29 rfl rfl ?_
    refine v_istore (E2 := [aR 25, aR a1, aI x2, aI 0, aI x2, aU]) dX9_listWords_30 (Nat.le_of_ble_eq_true rfl) rfl ?_
    exact k
theorem S_X9_listWords_32 {kc ks : Nat} {h : Hh} {Q : PQ} {X : PX} {a1 : Nat} (t1 : isT a1) {x2 : Int} {x3 : Int} {x4 : Int}
    (k : (((h a1 4) ≤ x4 → ((-2147483648 ≤ ((x2 + 1) : Int) ∧ ((x2 + 1) : Int) < 2147483648)) ∧ am_V M_X9_listWords kc ks 19 [aR 25, aR a1, aI (x2 + 1), aU, aU, aU] [] (RM WM wd) h Q X) ∧ (x4 < (h a1 4) → ((0 : Int) ≤ x4 ∧ (x4 : Int) < 64) ∧ am_V M_X9_nodeBelow 0 0 0 [aR 25, aI x3, aI (h (a1 + 1) x4), aU, aU] [] (RM WM wd) h (fun v ρ' h' => am_V M_X9_listWords kc ks 53 [aR 25, aR a1, aI x2, aI x3, aI x4, aU] (v ++ []) ρ' h' Q X) X))) :
    am_V M_X9_listWords kc ks 32 [aR 25, aR a1, aI x2, aI x3, aI x4, aU] [] (RM WM wd) h Q X := by
  refine v_iload dX9_listWords_32 rfl ?_
  refine v_aload_n dX9_listWords_34 rfl rfl ?_
  refine v_getI (j := 4) dX9_listWords_35 fl_X9_30 am_clsA rfl rfl (tk0 t1) ?_
  refine v_icmp_ge (tgt := 103) dX9_listWords_38 (by decide) (fun z => ?_) (fun z => ?_)
  · have k := k.1 z
    obtain ⟨b1_1, k⟩ := k
    refine v_iinc (E2 := [aR 25, aR a1, aI (x2 + 1), aI x3, aI x4, aU]) dX9_listWords_103 rfl b1_1 rfl ?_
    refine v_goto (tgt := 19) dX9_listWords_106 (by decide) ?_
    refine v_weak (E2 := [aR 25, aR a1, aI (x2 + 1), aU, aU, aU]) ⟨Or.inl rfl, ⟨Or.inl rfl, ⟨Or.inl rfl, ⟨Or.inr rfl, ⟨Or.inr rfl, ⟨Or.inl rfl, trivial⟩⟩⟩⟩⟩⟩ ?_
    exact k
  · have k := k.2 z
    obtain ⟨⟨b1_1, b1_2⟩, k⟩ := k
    refine v_aload_n dX9_listWords_41 rfl rfl ?_
    refine v_iload_n dX9_listWords_42 rfl rfl ?_
    refine v_aload_n dX9_listWords_43 rfl rfl ?_
    refine v_getR (x := (a1 + 1)) dX9_listWords_44 fl_X9_44 am_clsA rfl (tk0 t1) (tr0 t1) ?_
    refine v_iload dX9_listWords_47 rfl ?_
    refine v_cald dX9_listWords_49 (tk1 t1) b1_1 b1_2 ?_
    exact v_callV (j := M_X9_nodeBelow) (As := [aI x3, aI (h (a1 + 1) x4)]) (st := []) (E0 := [aR 25, aI x3, aI (h (a1 + 1) x4), aU, aU]) (a := 25) (ci := 7) (N := 5) (q9 := (RX9, TX9, 5)) dX9_listWords_50 ml_X9_45 J_X9_nodeBelow (Nat.zero_le _) (Nat.zero_le _) (Nat.le_of_ble_eq_true rfl) rfl (Nat.le_of_ble_eq_true rfl) (List.forall_mem_cons.mpr ⟨rfl, List.forall_mem_cons.mpr ⟨rfl, List.forall_mem_cons.mpr ⟨rfl, fun _ h9 => absurd h9 List.not_mem_nil⟩⟩⟩) (Nat.le_of_ble_eq_true rfl) rfl rfl rfl rfl pn_X9_nodeBelow rfl k
theorem S_X9_listWords_53 {kc ks : Nat} {h : Hh} {Q : PQ} {X : PX} {a1 : Nat} (t1 : isT a1) {x2 : Int} {x3 : Int} {x4 : Int} {xs0 : Int}
    (k : ((xs0 ≠ 0 → ((-2147483648 ≤ ((x4 - x2) : Int) ∧ ((x4 - x2) : Int) < 2147483648) ∧ (-2147483648 ≤ (((x4 - x2) + 1) : Int) ∧ (((x4 - x2) + 1) : Int) < 2147483648) ∧ (-2147483648 ≤ ((x4 + 1) : Int) ∧ ((x4 + 1) : Int) < 2147483648)) ∧ am_V M_X9_listWords kc ks 32 [aR 25, aR a1, aI x2, aI xs0, aI (x4 + 1), aU] [] (RM WM wd) (am_st h 25 4 (max (h 25 4) ((x4 - x2) + 1))) Q X) ∧ (xs0 = 0 → ((0 : Int) ≤ x4 ∧ (x4 : Int) < 64) ∧ am_V M_X9_addBelow 0 0 0 [aR 25, aI x3, aI (h (a1 + 1) x4), aU] [] (RM WM wd) h (fun v ρ' h' => am_V M_X9_listWords kc ks 72 [aR 25, aR a1, aI x2, aU, aI x4, aU] (v ++ []) ρ' h' Q X) X))) :
    am_V M_X9_listWords kc ks 53 [aR 25, aR a1, aI x2, aI x3, aI x4, aU] [aI xs0] (RM WM wd) h Q X := by
  refine v_istore (E2 := [aR 25, aR a1, aI x2, aI x3, aI x4, aI xs0]) dX9_listWords_53 (Nat.le_of_ble_eq_true rfl) rfl ?_
  refine v_iload dX9_listWords_55 rfl ?_
  refine v_if_ne (tgt := 77) dX9_listWords_57 (by decide) (fun z => ?_) (fun z => ?_)
  · have k := k.1 z
    obtain ⟨⟨b1_1, b1_2, b1_3⟩, k⟩ := k
    refine v_aload_n dX9_listWords_77 rfl rfl ?_
    refine v_aload_n dX9_listWords_78 rfl rfl ?_
    refine v_getI (j := 4) dX9_listWords_79 fl_X9_37 am_clsA rfl rfl rfl ?_
    refine v_iload dX9_listWords_82 rfl ?_
    refine v_iload_n dX9_listWords_84 rfl rfl ?_
    refine v_isub dX9_listWords_85 b1_1 ?_
    refine v_iconst dX9_listWords_86 ⟨by decide, by decide⟩ ?_
    refine v_iadd dX9_listWords_87 b1_2 ?_
    refine v_mmax dX9_listWords_88 mm_X9_52 (by decide) (Nat.le_of_ble_eq_true rfl) ?_
    refine v_putI (j := 4) dX9_listWords_91 pl_X9_37 am_clsA rfl rfl rfl ?_
    refine v_iload dX9_listWords_94 rfl ?_
    refine v_istore_n (E2 := [aR 25, aR a1, aI x2, aI xs0, aI x4, aI xs0]) dX9_listWords_96 rfl (Nat.le_of_ble_eq_true rfl) rfl ?_
    refine v_iinc (E2 := [aR 25, aR a1, aI x2, aI xs0, aI (x4 + 1), aI xs0]) dX9_listWords_97 rfl b1_3 rfl ?_
    refine v_goto (tgt := 32) dX9_listWords_100 (by decide) ?_
    refine v_weak (E2 := [aR 25, aR a1, aI x2, aI xs0, aI (x4 + 1), aU]) ⟨Or.inl rfl, ⟨Or.inl rfl, ⟨Or.inl rfl, ⟨Or.inl rfl, ⟨Or.inl rfl, ⟨Or.inr rfl, trivial⟩⟩⟩⟩⟩⟩ ?_
    exact k
  · have k := k.2 z
    obtain ⟨⟨b1_1, b1_2⟩, k⟩ := k
    refine v_aload_n dX9_listWords_60 rfl rfl ?_
    refine v_iload_n dX9_listWords_61 rfl rfl ?_
    refine v_aload_n dX9_listWords_62 rfl rfl ?_
    refine v_getR (x := (a1 + 1)) dX9_listWords_63 fl_X9_44 am_clsA rfl (tk0 t1) (tr0 t1) ?_
    refine v_iload dX9_listWords_66 rfl ?_
    refine v_cald dX9_listWords_68 (tk1 t1) b1_1 b1_2 ?_
    refine v_weak (E2 := [aR 25, aR a1, aI x2, aU, aI x4, aU]) ⟨Or.inl rfl, ⟨Or.inl rfl, ⟨Or.inl rfl, ⟨Or.inr rfl, ⟨Or.inl rfl, ⟨Or.inr rfl, trivial⟩⟩⟩⟩⟩⟩ ?_
    exact v_callV (j := M_X9_addBelow) (As := [aI x3, aI (h (a1 + 1) x4)]) (st := []) (E0 := [aR 25, aI x3, aI (h (a1 + 1) x4), aU]) (a := 25) (ci := 7) (N := 5) (q9 := (RX9, TX9, 5)) dX9_listWords_69 ml_X9_49 J_X9_addBelow (Nat.zero_le _) (Nat.zero_le _) (Nat.le_of_ble_eq_true rfl) rfl (Nat.le_of_ble_eq_true rfl) (List.forall_mem_cons.mpr ⟨rfl, List.forall_mem_cons.mpr ⟨rfl, List.forall_mem_cons.mpr ⟨rfl, fun _ h9 => absurd h9 List.not_mem_nil⟩⟩⟩) (Nat.le_of_ble_eq_true rfl) rfl rfl rfl rfl pn_X9_addBelow rfl k
theorem S_X9_listWords_72 {kc ks : Nat} {h : Hh} {Q : PQ} {X : PX} {a1 : Nat} (t1 : isT a1) {x2 : Int} {x4 : Int} {xs0 : Int}
    (k : ((-2147483648 ≤ ((x4 + 1) : Int) ∧ ((x4 + 1) : Int) < 2147483648)) ∧ am_V M_X9_listWords kc ks 32 [aR 25, aR a1, aI x2, aI xs0, aI (x4 + 1), aU] [] (RM WM wd) h Q X) :
    am_V M_X9_listWords kc ks 72 [aR 25, aR a1, aI x2, aU, aI x4, aU] [aI xs0] (RM WM wd) h Q X := by
  obtain ⟨b0_1, k⟩ := k
  refine v_istore (E2 := [aR 25, aR a1, aI x2, aU, aI x4, aI xs0]) dX9_listWords_72 (Nat.le_of_ble_eq_true rfl) rfl ?_
  refine v_goto (tgt := 94) dX9_listWords_74 (by decide) ?_
  refine v_iload dX9_listWords_94 rfl ?_
  refine v_istore_n (E2 := [aR 25, aR a1, aI x2, aI xs0, aI x4, aI xs0]) dX9_listWords_96 rfl (Nat.le_of_ble_eq_true rfl) rfl ?_
  refine v_iinc (E2 := [aR 25, aR a1, aI x2, aI xs0, aI (x4 + 1), aI xs0]) dX9_listWords_97 rfl b0_1 rfl ?_
  refine v_goto (tgt := 32) dX9_listWords_100 (by decide) ?_
  refine v_weak (E2 := [aR 25, aR a1, aI x2, aI xs0, aI (x4 + 1), aU]) ⟨Or.inl rfl, ⟨Or.inl rfl, ⟨Or.inl rfl, ⟨Or.inl rfl, ⟨Or.inl rfl, ⟨Or.inr rfl, trivial⟩⟩⟩⟩⟩⟩ ?_
  exact k
theorem S_X9_nodeBelow_0 {kc ks : Nat} {h : Hh} {Q : PQ} {X : PX} {x1 : Int} {x2 : Int}
    (k : ((0 : Int) ≤ x1 ∧ (x1 : Int) < 2081) ∧ am_V M_X9_nodeBelow kc ks 10 [aR 25, aU, aI x2, aI (h 27 x1), aI 0] [] (RM WM wd) h Q X) :
    am_V M_X9_nodeBelow kc ks 0 [aR 25, aI x1, aI x2, aU, aU] [] (RM WM wd) h Q X := by
  obtain ⟨⟨b0_1, b0_2⟩, k⟩ := k
  refine v_aload_n dX9_nodeBelow_0 rfl rfl ?_
  refine v_getR (x := 27) dX9_nodeBelow_1 fl_X9_15 am_clsA rfl rfl rfl ?_
  refine v_iload_n dX9_nodeBelow_4 rfl rfl ?_
  refine v_iald dX9_nodeBelow_5 rfl b0_1 b0_2 ?_
  refine v_istore_n (E2 := [aR 25, aI x1, aI x2, aI (h 27 x1), aU]) dX9_nodeBelow_6 rfl (Nat.le_of_ble_eq_true rfl) rfl ?_
  refine v_iconst dX9_nodeBelow_7 ⟨by decide, by decide⟩ ?_
  refine v_istore (E2 := [aR 25, aI x1, aI x2, aI (h 27 x1), aI 0]) dX9_nodeBelow_8 (Nat.le_of_ble_eq_true rfl) rfl ?_
  refine v_weak (E2 := [aR 25, aU, aI x2, aI (h 27 x1), aI 0]) ⟨Or.inl rfl, ⟨Or.inr rfl, ⟨Or.inl rfl, ⟨Or.inl rfl, ⟨Or.inl rfl, trivial⟩⟩⟩⟩⟩ ?_
  exact k
theorem S_X9_nodeBelow_10 {kc ks : Nat} {h : Hh} {Q : PQ} {X : PX} {x2 : Int} {x3 : Int} {x4 : Int}
    (k : ((27 ≤ x4 → Q [aI 0] (RM WM wd) h) ∧ (x4 < 27 → ((x3 = 0 → Q [aI 0] (RM WM wd) h) ∧ (x3 ≠ 0 → ((0 : Int) ≤ x3 ∧ (x3 : Int) < 2081) ∧ (((h 26 x3) ≠ x2 → ((0 : Int) ≤ x3 ∧ (x3 : Int) < 2081 ∧ (-2147483648 ≤ ((x4 + 1) : Int) ∧ ((x4 + 1) : Int) < 2147483648)) ∧ am_V M_X9_nodeBelow kc ks 10 [aR 25, aU, aI x2, aI (h 28 x3), aI (x4 + 1)] [] (RM WM wd) h Q X) ∧ ((h 26 x3) = x2 → Q [aI x3] (RM WM wd) h))))))) :
    am_V M_X9_nodeBelow kc ks 10 [aR 25, aU, aI x2, aI x3, aI x4] [] (RM WM wd) h Q X := by
  refine v_iload dX9_nodeBelow_10 rfl ?_
  refine v_bipush dX9_nodeBelow_12 (by decide) (by decide) ?_
  refine v_icmp_ge (tgt := 46) dX9_nodeBelow_14 (by decide) (fun z => ?_) (fun z => ?_)
  · have k := k.1 z
    refine v_iconst dX9_nodeBelow_46 ⟨by decide, by decide⟩ ?_
    exact v_iret dX9_nodeBelow_47 rfl rfl k
  · have k := k.2 z
    refine v_iload_n dX9_nodeBelow_17 rfl rfl ?_
    refine v_if_eq (tgt := 46) dX9_nodeBelow_18 (by decide) (fun z => ?_) (fun z => ?_)
    · have k := k.1 z
      refine v_iconst dX9_nodeBelow_46 ⟨by decide, by decide⟩ ?_
      exact v_iret dX9_nodeBelow_47 rfl rfl k
    · have k := k.2 z
      obtain ⟨⟨b2_1, b2_2⟩, k⟩ := k
      refine v_aload_n dX9_nodeBelow_21 rfl rfl ?_
      refine v_getR (x := 26) dX9_nodeBelow_22 fl_X9_11 am_clsA rfl rfl rfl ?_
      refine v_iload_n dX9_nodeBelow_25 rfl rfl ?_
      refine v_cald dX9_nodeBelow_26 rfl b2_1 b2_2 ?_
      refine v_iload_n dX9_nodeBelow_27 rfl rfl ?_
      refine v_icmp_ne (tgt := 33) dX9_nodeBelow_28 (by decide) (fun z => ?_) (fun z => ?_)
      · have k := k.1 z
        obtain ⟨⟨b3_1, b3_2, b3_3⟩, k⟩ := k
        refine v_aload_n dX9_nodeBelow_33 rfl rfl ?_
        refine v_getR (x := 28) dX9_nodeBelow_34 fl_X9_19 am_clsA rfl rfl rfl ?_
        refine v_iload_n dX9_nodeBelow_37 rfl rfl ?_
        refine v_iald dX9_nodeBelow_38 rfl b3_1 b3_2 ?_
        refine v_istore_n (E2 := [aR 25, aU, aI x2, aI (h 28 x3), aI x4]) dX9_nodeBelow_39 rfl (Nat.le_of_ble_eq_true rfl) rfl ?_
        refine v_iinc (E2 := [aR 25, aU, aI x2, aI (h 28 x3), aI (x4 + 1)]) dX9_nodeBelow_40 rfl b3_3 rfl ?_
        refine v_goto (tgt := 10) dX9_nodeBelow_43 (by decide) ?_
        exact k
      · have k := k.2 z
        refine v_iload_n dX9_nodeBelow_31 rfl rfl ?_
        exact v_iret dX9_nodeBelow_32 rfl rfl k
theorem S_X9_addBelow_0 {kc ks : Nat} {h : Hh} {Q : PQ} {X : PX} {x1 : Int} {x2 : Int}
    (k : (((h 25 3) < 2081 → ((0 : Int) ≤ (h 25 3) ∧ ((h 25 3) : Int) < 2081 ∧ (0 : Int) ≤ (h 25 3) ∧ ((h 25 3) : Int) < 2081 ∧ (0 : Int) ≤ x1 ∧ (x1 : Int) < 2081 ∧ (0 : Int) ≤ (h 25 3) ∧ ((h 25 3) : Int) < 2081 ∧ (0 : Int) ≤ x1 ∧ (x1 : Int) < 2081 ∧ (-2147483648 ≤ ((((am_st (am_st (am_st (am_st h 26 (h 25 3) (x2 % 65536)) 27 (h 25 3) 0) 28 (h 25 3) ((am_st (am_st h 26 (h 25 3) (x2 % 65536)) 27 (h 25 3) 0) 27 x1)) 27 x1 (h 25 3)) 25 3) + 1) : Int) ∧ ((((am_st (am_st (am_st (am_st h 26 (h 25 3) (x2 % 65536)) 27 (h 25 3) 0) 28 (h 25 3) ((am_st (am_st h 26 (h 25 3) (x2 % 65536)) 27 (h 25 3) 0) 27 x1)) 27 x1 (h 25 3)) 25 3) + 1) : Int) < 2147483648)) ∧ Q [aI (h 25 3)] (RM WM wd) (am_st (am_st (am_st (am_st (am_st h 26 (h 25 3) (x2 % 65536)) 27 (h 25 3) 0) 28 (h 25 3) ((am_st (am_st h 26 (h 25 3) (x2 % 65536)) 27 (h 25 3) 0) 27 x1)) 27 x1 (h 25 3)) 25 3 (((am_st (am_st (am_st (am_st h 26 (h 25 3) (x2 % 65536)) 27 (h 25 3) 0) 28 (h 25 3) ((am_st (am_st h 26 (h 25 3) (x2 % 65536)) 27 (h 25 3) 0) 27 x1)) 27 x1 (h 25 3)) 25 3) + 1))) ∧ (2081 ≤ (h 25 3) → Q [aI 0] (RM WM wd) h))) :
    am_V M_X9_addBelow kc ks 0 [aR 25, aI x1, aI x2, aU] [] (RM WM wd) h Q X := by
  refine v_aload_n dX9_addBelow_0 rfl rfl ?_
  refine v_getI (j := 3) dX9_addBelow_1 fl_X9_26 am_clsA rfl rfl rfl ?_
  refine v_aload_n dX9_addBelow_4 rfl rfl ?_
  refine v_getR (x := 26) dX9_addBelow_5 fl_X9_11 am_clsA rfl rfl rfl ?_
  refine v_alen (N := 2081) dX9_addBelow_8 rfl (by decide) rfl ⟨by decide, by decide⟩ ?_
  refine v_icmp_lt (tgt := 14) dX9_addBelow_9 (by decide) (fun z => ?_) (fun z => ?_)
  · have k := k.1 z
    obtain ⟨⟨b1_1, b1_2, b1_3, b1_4, b1_5, b1_6, b1_7, b1_8, b1_9, b1_10, b1_11⟩, k⟩ := k
    refine v_aload_n dX9_addBelow_14 rfl rfl ?_
    refine v_getI (j := 3) dX9_addBelow_15 fl_X9_26 am_clsA rfl rfl rfl ?_
    refine v_istore_n (E2 := [aR 25, aI x1, aI x2, aI (h 25 3)]) dX9_addBelow_18 rfl (Nat.le_of_ble_eq_true rfl) rfl ?_
    refine v_aload_n dX9_addBelow_19 rfl rfl ?_
    refine v_getR (x := 26) dX9_addBelow_20 fl_X9_11 am_clsA rfl rfl rfl ?_
    refine v_iload_n dX9_addBelow_23 rfl rfl ?_
    refine v_iload_n dX9_addBelow_24 rfl rfl ?_
    refine v_cast dX9_addBelow_25 rfl b1_1 b1_2 ?_
    refine v_aload_n dX9_addBelow_26 rfl rfl ?_
    refine v_getR (x := 27) dX9_addBelow_27 fl_X9_15 am_clsA rfl rfl rfl ?_
    refine v_iload_n dX9_addBelow_30 rfl rfl ?_
    refine v_iconst dX9_addBelow_31 ⟨by decide, by decide⟩ ?_
    refine v_iast dX9_addBelow_32 rfl b1_3 b1_4 ?_
    refine v_aload_n dX9_addBelow_33 rfl rfl ?_
    refine v_getR (x := 28) dX9_addBelow_34 fl_X9_19 am_clsA rfl rfl rfl ?_
    refine v_iload_n dX9_addBelow_37 rfl rfl ?_
    refine v_aload_n dX9_addBelow_38 rfl rfl ?_
    refine v_getR (x := 27) dX9_addBelow_39 fl_X9_15 am_clsA rfl rfl rfl ?_
    refine v_iload_n dX9_addBelow_42 rfl rfl ?_
    refine v_iald dX9_addBelow_43 rfl b1_5 b1_6 ?_
    refine v_iast dX9_addBelow_44 rfl b1_7 b1_8 ?_
    refine v_aload_n dX9_addBelow_45 rfl rfl ?_
    refine v_getR (x := 27) dX9_addBelow_46 fl_X9_15 am_clsA rfl rfl rfl ?_
    refine v_iload_n dX9_addBelow_49 rfl rfl ?_
    refine v_iload_n dX9_addBelow_50 rfl rfl ?_
    refine v_iast dX9_addBelow_51 rfl b1_9 b1_10 ?_
    refine v_aload_n dX9_addBelow_52 rfl rfl ?_
    refine v_dupR dX9_addBelow_53 ?_
    refine v_getI (j := 3) dX9_addBelow_54 fl_X9_26 am_clsA rfl rfl rfl ?_
    refine v_iconst dX9_addBelow_57 ⟨by decide, by decide⟩ ?_
    refine v_iadd dX9_addBelow_58 b1_11 ?_
    refine v_putI (j := 3) dX9_addBelow_59 pl_X9_26 am_clsA rfl rfl rfl ?_
    refine v_iload_n dX9_addBelow_62 rfl rfl ?_
    exact v_iret dX9_addBelow_63 rfl rfl k
  · have k := k.2 z
    refine v_iconst dX9_addBelow_12 ⟨by decide, by decide⟩ ?_
    exact v_iret dX9_addBelow_13 rfl rfl k
