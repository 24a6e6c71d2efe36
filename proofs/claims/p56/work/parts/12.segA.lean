variable {WM : List (Nat × Nat)} {wd : Bool}
theorem S_X0_allCuts_2_0 {kc ks : Nat} {h : Hh} {Q : PQ} {X : PX} {a1 : Nat} (t1 : isT a1)
    (k : am_V M_X0_allCuts_2 kc ks 7 [aR 30, aR a1, aI 0, aI 0, aI 0] [] (RM WM wd) h Q X) :
    am_V M_X0_allCuts_2 kc ks 0 [aR 30, aR a1, aU, aU, aU] [] (RM WM wd) h Q X := by
  refine v_iconst dX0_allCuts_0 ⟨by decide, by decide⟩ ?_
  refine v_istore_n (E2 := [aR 30, aR a1, aI 0, aU, aU]) dX0_allCuts_1 rfl (Nat.le_of_ble_eq_true rfl) rfl ?_
  refine v_iconst dX0_allCuts_2 ⟨by decide, by decide⟩ ?_
  refine v_istore_n (E2 := [aR 30, aR a1, aI 0, aI 0, aU]) dX0_allCuts_3 rfl (Nat.le_of_ble_eq_true rfl) rfl ?_
  refine v_iconst dX0_allCuts_4 ⟨by decide, by decide⟩ ?_
  refine v_istore (E2 := [aR 30, aR a1, aI 0, aI 0, aI 0]) dX0_allCuts_5 (Nat.le_of_ble_eq_true rfl) rfl ?_
  exact k
theorem S_X0_allCuts_2_7 {kc ks : Nat} {h : Hh} {Q : PQ} {X : PX} {a1 : Nat} (t1 : isT a1) {x2 : Int} {x3 : Int} {x4 : Int}
    (k : (((h a1 4) ≤ x4 → Q [aI x2] (RM WM wd) h) ∧ (x4 < (h a1 4) → ((x4 ≠ x3 → ((-2147483648 ≤ ((x4 + 1) : Int) ∧ ((x4 + 1) : Int) < 2147483648)) ∧ am_V M_X0_allCuts_2 kc ks 7 [aR 30, aR a1, aI x2, aI x3, aI (x4 + 1)] [] (RM WM wd) h Q X) ∧ (x4 = x3 → ((-2147483648 ≤ ((x2 + 1) : Int) ∧ ((x2 + 1) : Int) < 2147483648)) ∧ am_V M_X2_sizeFrom 0 0 0 [aR 30, aR a1, aI x4, aU] [] (RM WM wd) h (fun v ρ' h' => am_V M_X0_allCuts_2 kc ks 33 [aR 30, aR a1, aI (x2 + 1), aU, aI x4] (v ++ [aI x3]) ρ' h' Q X) X))))) :
    am_V M_X0_allCuts_2 kc ks 7 [aR 30, aR a1, aI x2, aI x3, aI x4] [] (RM WM wd) h Q X := by
  refine v_iload dX0_allCuts_7 rfl ?_
  refine v_aload_n dX0_allCuts_9 rfl rfl ?_
  refine v_getI (j := 4) dX0_allCuts_10 fl_X0_7 am_clsA rfl rfl (tk0 t1) ?_
  refine v_icmp_ge (tgt := 41) dX0_allCuts_13 (by decide) (fun z => ?_) (fun z => ?_)
  · have k := k.1 z
    refine v_iload_n dX0_allCuts_41 rfl rfl ?_
    exact v_iret dX0_allCuts_42 rfl rfl k
  · have k := k.2 z
    refine v_iload dX0_allCuts_16 rfl ?_
    refine v_iload_n dX0_allCuts_18 rfl rfl ?_
    refine v_icmp_ne (tgt := 35) dX0_allCuts_19 (by decide) (fun z => ?_) (fun z => ?_)
    · have k := k.1 z
      obtain ⟨b2_1, k⟩ := k
      refine v_iinc (E2 := [aR 30, aR a1, aI x2, aI x3, aI (x4 + 1)]) dX0_allCuts_35 rfl b2_1 rfl ?_
      refine v_goto (tgt := 7) dX0_allCuts_38 (by decide) ?_
      exact k
    · have k := k.2 z
      obtain ⟨b2_1, k⟩ := k
      refine v_iinc (E2 := [aR 30, aR a1, aI (x2 + 1), aI x3, aI x4]) dX0_allCuts_22 rfl b2_1 rfl ?_
      refine v_iload_n dX0_allCuts_25 rfl rfl ?_
      refine v_aload_n dX0_allCuts_26 rfl rfl ?_
      refine v_aload_n dX0_allCuts_27 rfl rfl ?_
      refine v_iload dX0_allCuts_28 rfl ?_
      refine v_weak (E2 := [aR 30, aR a1, aI (x2 + 1), aU, aI x4]) ⟨Or.inl rfl, ⟨Or.inl rfl, ⟨Or.inl rfl, ⟨Or.inr rfl, ⟨Or.inl rfl, trivial⟩⟩⟩⟩⟩ ?_
      exact v_callU (j := M_X2_sizeFrom) (As := [aR a1, aI x4]) (st := [aI x3]) (E0 := [aR 30, aR a1, aI x4, aU]) (a := 30) (ci := 1) (N := 1) (q9 := (RX2, TX2, 1)) dX0_allCuts_30 mu_X0_13_2 J_X2_sizeFrom (Nat.zero_le _) (Nat.zero_le _) (Nat.le_of_ble_eq_true rfl) rfl (Nat.le_of_ble_eq_true rfl) (List.forall_mem_cons.mpr ⟨rfl, List.forall_mem_cons.mpr ⟨rfl, List.forall_mem_cons.mpr ⟨rfl, fun _ h9 => absurd h9 List.not_mem_nil⟩⟩⟩) (Nat.le_of_ble_eq_true rfl) rfl rfl rfl pn_X2_sizeFrom rfl k
theorem S_X0_allCuts_2_33 {kc ks : Nat} {h : Hh} {Q : PQ} {X : PX} {a1 : Nat} (t1 : isT a1) {x2 : Int} {x4 : Int} {xs0 : Int} {xs1 : Int}
    (k : ((-2147483648 ≤ ((xs1 + xs0) : Int) ∧ ((xs1 + xs0) : Int) < 2147483648) ∧ (-2147483648 ≤ ((x4 + 1) : Int) ∧ ((x4 + 1) : Int) < 2147483648)) ∧ am_V M_X0_allCuts_2 kc ks 7 [aR 30, aR a1, aI x2, aI (xs1 + xs0), aI (x4 + 1)] [] (RM WM wd) h Q X) :
    am_V M_X0_allCuts_2 kc ks 33 [aR 30, aR a1, aI x2, aU, aI x4] [aI xs0, aI xs1] (RM WM wd) h Q X := by
  obtain ⟨⟨b0_1, b0_2⟩, k⟩ := k
  refine v_iadd dX0_allCuts_33 b0_1 ?_
  refine v_istore_n (E2 := [aR 30, aR a1, aI x2, aI (xs1 + xs0), aI x4]) dX0_allCuts_34 rfl (Nat.le_of_ble_eq_true rfl) rfl ?_
  refine v_iinc (E2 := [aR 30, aR a1, aI x2, aI (xs1 + xs0), aI (x4 + 1)]) dX0_allCuts_35 rfl b0_2 rfl ?_
  refine v_goto (tgt := 7) dX0_allCuts_38 (by decide) ?_
  exact k
theorem S_X0_allCuts_3_0 {kc ks : Nat} {h : Hh} {Q : PQ} {X : PX} {a1 : Nat} (t1 : isT a1)
    (k : am_V M_X0_allCuts_3 kc ks 7 [aR 29, aR a1, aI 0, aI 0, aI 0] [] (RM WM wd) h Q X) :
    am_V M_X0_allCuts_3 kc ks 0 [aR 29, aR a1, aU, aU, aU] [] (RM WM wd) h Q X := by
  refine v_iconst dX0_allCuts_0 ⟨by decide, by decide⟩ ?_
  refine v_istore_n (E2 := [aR 29, aR a1, aI 0, aU, aU]) dX0_allCuts_1 rfl (Nat.le_of_ble_eq_true rfl) rfl ?_
  refine v_iconst dX0_allCuts_2 ⟨by decide, by decide⟩ ?_
  refine v_istore_n (E2 := [aR 29, aR a1, aI 0, aI 0, aU]) dX0_allCuts_3 rfl (Nat.le_of_ble_eq_true rfl) rfl ?_
  refine v_iconst dX0_allCuts_4 ⟨by decide, by decide⟩ ?_
  refine v_istore (E2 := [aR 29, aR a1, aI 0, aI 0, aI 0]) dX0_allCuts_5 (Nat.le_of_ble_eq_true rfl) rfl ?_
  exact k
theorem S_X0_allCuts_3_7 {kc ks : Nat} {h : Hh} {Q : PQ} {X : PX} {a1 : Nat} (t1 : isT a1) {x2 : Int} {x3 : Int} {x4 : Int}
    (k : (((h a1 4) ≤ x4 → Q [aI x2] (RM WM wd) h) ∧ (x4 < (h a1 4) → ((x4 ≠ x3 → ((-2147483648 ≤ ((x4 + 1) : Int) ∧ ((x4 + 1) : Int) < 2147483648)) ∧ am_V M_X0_allCuts_3 kc ks 7 [aR 29, aR a1, aI x2, aI x3, aI (x4 + 1)] [] (RM WM wd) h Q X) ∧ (x4 = x3 → ((-2147483648 ≤ ((x2 + 1) : Int) ∧ ((x2 + 1) : Int) < 2147483648)) ∧ am_V M_X3_sizeFrom 0 0 0 [aR 29, aR a1, aI x4, aU, aU] [] (RM WM wd) h (fun v ρ' h' => am_V M_X0_allCuts_3 kc ks 33 [aR 29, aR a1, aI (x2 + 1), aU, aI x4] (v ++ [aI x3]) ρ' h' Q X) X))))) :
    am_V M_X0_allCuts_3 kc ks 7 [aR 29, aR a1, aI x2, aI x3, aI x4] [] (RM WM wd) h Q X := by
  refine v_iload dX0_allCuts_7 rfl ?_
  refine v_aload_n dX0_allCuts_9 rfl rfl ?_
  refine v_getI (j := 4) dX0_allCuts_10 fl_X0_7 am_clsA rfl rfl (tk0 t1) ?_
  refine v_icmp_ge (tgt := 41) dX0_allCuts_13 (by decide) (fun z => ?_) (fun z => ?_)
  · have k := k.1 z
    refine v_iload_n dX0_allCuts_41 rfl rfl ?_
    exact v_iret dX0_allCuts_42 rfl rfl k
  · have k := k.2 z
    refine v_iload dX0_allCuts_16 rfl ?_
    refine v_iload_n dX0_allCuts_18 rfl rfl ?_
    refine v_icmp_ne (tgt := 35) dX0_allCuts_19 (by decide) (fun z => ?_) (fun z => ?_)
    · have k := k.1 z
      obtain ⟨b2_1, k⟩ := k
      refine v_iinc (E2 := [aR 29, aR a1, aI x2, aI x3, aI (x4 + 1)]) dX0_allCuts_35 rfl b2_1 rfl ?_
      refine v_goto (tgt := 7) dX0_allCuts_38 (by decide) ?_
      exact k
    · have k := k.2 z
      obtain ⟨b2_1, k⟩ := k
      refine v_iinc (E2 := [aR 29, aR a1, aI (x2 + 1), aI x3, aI x4]) dX0_allCuts_22 rfl b2_1 rfl ?_
      refine v_iload_n dX0_allCuts_25 rfl rfl ?_
      refine v_aload_n dX0_allCuts_26 rfl rfl ?_
      refine v_aload_n dX0_allCuts_27 rfl rfl ?_
      refine v_iload dX0_allCuts_28 rfl ?_
      refine v_weak (E2 := [aR 29, aR a1, aI (x2 + 1), aU, aI x4]) ⟨Or.inl rfl, ⟨Or.inl rfl, ⟨Or.inl rfl, ⟨Or.inr rfl, ⟨Or.inl rfl, trivial⟩⟩⟩⟩⟩ ?_
      exact v_callU (j := M_X3_sizeFrom) (As := [aR a1, aI x4]) (st := [aI x3]) (E0 := [aR 29, aR a1, aI x4, aU, aU]) (a := 29) (ci := 2) (N := 0) (q9 := (RX3, TX3, 0)) dX0_allCuts_30 mu_X0_13_3 J_X3_sizeFrom (Nat.zero_le _) (Nat.zero_le _) (Nat.le_of_ble_eq_true rfl) rfl (Nat.le_of_ble_eq_true rfl) (List.forall_mem_cons.mpr ⟨rfl, List.forall_mem_cons.mpr ⟨rfl, List.forall_mem_cons.mpr ⟨rfl, fun _ h9 => absurd h9 List.not_mem_nil⟩⟩⟩) (Nat.le_of_ble_eq_true rfl) rfl rfl rfl pn_X3_sizeFrom rfl k
theorem S_X0_allCuts_3_33 {kc ks : Nat} {h : Hh} {Q : PQ} {X : PX} {a1 : Nat} (t1 : isT a1) {x2 : Int} {x4 : Int} {xs0 : Int} {xs1 : Int}
    (k : ((-2147483648 ≤ ((xs1 + xs0) : Int) ∧ ((xs1 + xs0) : Int) < 2147483648) ∧ (-2147483648 ≤ ((x4 + 1) : Int) ∧ ((x4 + 1) : Int) < 2147483648)) ∧ am_V M_X0_allCuts_3 kc ks 7 [aR 29, aR a1, aI x2, aI (xs1 + xs0), aI (x4 + 1)] [] (RM WM wd) h Q X) :
    am_V M_X0_allCuts_3 kc ks 33 [aR 29, aR a1, aI x2, aU, aI x4] [aI xs0, aI xs1] (RM WM wd) h Q X := by
  obtain ⟨⟨b0_1, b0_2⟩, k⟩ := k
  refine v_iadd dX0_allCuts_33 b0_1 ?_
  refine v_istore_n (E2 := [aR 29, aR a1, aI x2, aI (xs1 + xs0), aI x4]) dX0_allCuts_34 rfl (Nat.le_of_ble_eq_true rfl) rfl ?_
  refine v_iinc (E2 := [aR 29, aR a1, aI x2, aI (xs1 + xs0), aI (x4 + 1)]) dX0_allCuts_35 rfl b0_2 rfl ?_
  refine v_goto (tgt := 7) dX0_allCuts_38 (by decide) ?_
  exact k
theorem S_X0_startOf_2_0 {kc ks : Nat} {h : Hh} {Q : PQ} {X : PX} {a1 : Nat} (t1 : isT a1) {x2 : Int}
    (k : am_V M_X0_startOf_2 kc ks 8 [aR 30, aR a1, aI x2, aI 0, aI 0, aI 0] [] (RM WM wd) h Q X) :
    am_V M_X0_startOf_2 kc ks 0 [aR 30, aR a1, aI x2, aU, aU, aU] [] (RM WM wd) h Q X := by
  refine v_iconst dX0_startOf_0 ⟨by decide, by decide⟩ ?_
  refine v_istore_n (E2 := [aR 30, aR a1, aI x2, aI 0, aU, aU]) dX0_startOf_1 rfl (Nat.le_of_ble_eq_true rfl) rfl ?_
  refine v_iconst dX0_startOf_2 ⟨by decide, by decide⟩ ?_
  refine v_istore (E2 := [aR 30, aR a1, aI x2, aI 0, aI 0, aU]) dX0_startOf_3 (Nat.le_of_ble_eq_true rfl) rfl ?_
  refine v_iconst dX0_startOf_5 ⟨by decide, by decide⟩ ?_
  refine v_istore (E2 := [aR 30, aR a1, aI x2, aI 0, aI 0, aI 0]) dX0_startOf_6 (Nat.le_of_ble_eq_true rfl) rfl ?_
  exact k
theorem S_X0_startOf_2_8 {kc ks : Nat} {h : Hh} {Q : PQ} {X : PX} {a1 : Nat} (t1 : isT a1) {x2 : Int} {x3 : Int} {x4 : Int} {x5 : Int}
    (k : (((h a1 4) ≤ x5 → Q [aI (h a1 4)] (RM WM wd) h) ∧ (x5 < (h a1 4) → ((x5 ≠ x4 → ((-2147483648 ≤ ((x5 + 1) : Int) ∧ ((x5 + 1) : Int) < 2147483648)) ∧ am_V M_X0_startOf_2 kc ks 8 [aR 30, aR a1, aI x2, aI x3, aI x4, aI (x5 + 1)] [] (RM WM wd) h Q X) ∧ (x5 = x4 → ((x3 ≠ x2 → ((-2147483648 ≤ ((x3 + 1) : Int) ∧ ((x3 + 1) : Int) < 2147483648)) ∧ am_V M_X2_sizeFrom 0 0 0 [aR 30, aR a1, aI x5, aU] [] (RM WM wd) h (fun v ρ' h' => am_V M_X0_startOf_2 kc ks 44 [aR 30, aR a1, aI x2, aI (x3 + 1), aU, aI x5] (v ++ [aI x4]) ρ' h' Q X) X) ∧ (x3 = x2 → Q [aI x5] (RM WM wd) h))))))) :
    am_V M_X0_startOf_2 kc ks 8 [aR 30, aR a1, aI x2, aI x3, aI x4, aI x5] [] (RM WM wd) h Q X := by
  refine v_iload dX0_startOf_8 rfl ?_
  refine v_aload_n dX0_startOf_10 rfl rfl ?_
  refine v_getI (j := 4) dX0_startOf_11 fl_X0_7 am_clsA rfl rfl (tk0 t1) ?_
  refine v_icmp_ge (tgt := 53) dX0_startOf_14 (by decide) (fun z => ?_) (fun z => ?_)
  · have k := k.1 z
    refine v_aload_n dX0_startOf_53 rfl rfl ?_
    refine v_getI (j := 4) dX0_startOf_54 fl_X0_7 am_clsA rfl rfl (tk0 t1) ?_
    exact v_iret dX0_startOf_57 rfl rfl k
  · have k := k.2 z
    refine v_iload dX0_startOf_17 rfl ?_
    refine v_iload dX0_startOf_19 rfl ?_
    refine v_icmp_ne (tgt := 47) dX0_startOf_21 (by decide) (fun z => ?_) (fun z => ?_)
    · have k := k.1 z
      obtain ⟨b2_1, k⟩ := k
      refine v_iinc (E2 := [aR 30, aR a1, aI x2, aI x3, aI x4, aI (x5 + 1)]) dX0_startOf_47 rfl b2_1 rfl ?_
      refine v_goto (tgt := 8) dX0_startOf_50 (by decide) ?_
      exact k
    · have k := k.2 z
      refine v_iload_n dX0_startOf_24 rfl rfl ?_
      refine v_iload_n dX0_startOf_25 rfl rfl ?_
      refine v_icmp_ne (tgt := 32) dX0_startOf_26 (by decide) (fun z => ?_) (fun z => ?_)
      · have k := k.1 z
        obtain ⟨b3_1, k⟩ := k
        refine v_iinc (E2 := [aR 30, aR a1, aI x2, aI (x3 + 1), aI x4, aI x5]) dX0_startOf_32 rfl b3_1 rfl ?_
        refine v_iload dX0_startOf_35 rfl ?_
        refine v_aload_n dX0_startOf_37 rfl rfl ?_
        refine v_aload_n dX0_startOf_38 rfl rfl ?_
        refine v_iload dX0_startOf_39 rfl ?_
        refine v_weak (E2 := [aR 30, aR a1, aI x2, aI (x3 + 1), aU, aI x5]) ⟨Or.inl rfl, ⟨Or.inl rfl, ⟨Or.inl rfl, ⟨Or.inl rfl, ⟨Or.inr rfl, ⟨Or.inl rfl, trivial⟩⟩⟩⟩⟩⟩ ?_
        exact v_callU (j := M_X2_sizeFrom) (As := [aR a1, aI x5]) (st := [aI x4]) (E0 := [aR 30, aR a1, aI x5, aU]) (a := 30) (ci := 1) (N := 1) (q9 := (RX2, TX2, 1)) dX0_startOf_41 mu_X0_13_2 J_X2_sizeFrom (Nat.zero_le _) (Nat.zero_le _) (Nat.le_of_ble_eq_true rfl) rfl (Nat.le_of_ble_eq_true rfl) (List.forall_mem_cons.mpr ⟨rfl, List.forall_mem_cons.mpr ⟨rfl, List.forall_mem_cons.mpr ⟨rfl, fun _ h9 => absurd h9 List.not_mem_nil⟩⟩⟩) (Nat.le_of_ble_eq_true rfl) rfl rfl rfl pn_X2_sizeFrom rfl k
      · have k := k.2 z
        refine v_iload dX0_startOf_29 rfl ?_
        exact v_iret dX0_startOf_31 rfl rfl k
theorem S_X0_startOf_2_44 {kc ks : Nat} {h : Hh} {Q : PQ} {X : PX} {a1 : Nat} (t1 : isT a1) {x2 : Int} {x3 : Int} {x5 : Int} {xs0 : Int} {xs1 : Int}
    (k : ((-2147483648 ≤ ((xs1 + xs0) : Int) ∧ ((xs1 + xs0) : Int) < 2147483648) ∧ (-2147483648 ≤ ((x5 + 1) : Int) ∧ ((x5 + 1) : Int) < 2147483648)) ∧ am_V M_X0_startOf_2 kc ks 8 [aR 30, aR a1, aI x2, aI x3, aI (xs1 + xs0), aI (x5 + 1)] [] (RM WM wd) h Q X) :
    am_V M_X0_startOf_2 kc ks 44 [aR 30, aR a1, aI x2, aI x3, aU, aI x5] [aI xs0, aI xs1] (RM WM wd) h Q X := by
  obtain ⟨⟨b0_1, b0_2⟩, k⟩ := k
  refine v_iadd dX0_startOf_44 b0_1 ?_
  refine v_istore (E2 := [aR 30, aR a1, aI x2, aI x3, aI (xs1 + xs0), aI x5]) dX0_startOf_45 (Nat.le_of_ble_eq_true rfl) rfl ?_
  refine v_iinc (E2 := [aR 30, aR a1, aI x2, aI x3, aI (xs1 + xs0), aI (x5 + 1)]) dX0_startOf_47 rfl b0_2 rfl ?_
  refine v_goto (tgt := 8) dX0_startOf_50 (by decide) ?_
  exact k
theorem S_X0_startOf_3_0 {kc ks : Nat} {h : Hh} {Q : PQ} {X : PX} {a1 : Nat} (t1 : isT a1) {x2 : Int}
    (k : am_V M_X0_startOf_3 kc ks 8 [aR 29, aR a1, aI x2, aI 0, aI 0, aI 0] [] (RM WM wd) h Q X) :
    am_V M_X0_startOf_3 kc ks 0 [aR 29, aR a1, aI x2, aU, aU, aU] [] (RM WM wd) h Q X := by
  refine v_iconst dX0_startOf_0 ⟨by decide, by decide⟩ ?_
  refine v_istore_n (E2 := [aR 29, aR a1, aI x2, aI 0, aU, aU]) dX0_startOf_1 rfl (Nat.le_of_ble_eq_true rfl) rfl ?_
  refine v_iconst dX0_startOf_2 ⟨by decide, by decide⟩ ?_
  refine v_istore (E2 := [aR 29, aR a1, aI x2, aI 0, aI 0, aU]) dX0_startOf_3 (Nat.le_of_ble_eq_true rfl) rfl ?_
  refine v_iconst dX0_startOf_5 ⟨by decide, by decide⟩ ?_
  refine v_istore (E2 := [aR 29, aR a1, aI x2, aI 0, aI 0, aI 0]) dX0_startOf_6 (Nat.le_of_ble_eq_true rfl) rfl ?_
  exact k
theorem S_X0_startOf_3_8 {kc ks : Nat} {h : Hh} {Q : PQ} {X : PX} {a1 : Nat} (t1 : isT a1) {x2 : Int} {x3 : Int} {x4 : Int} {x5 : Int}
    (k : (((h a1 4) ≤ x5 → Q [aI (h a1 4)] (RM WM wd) h) ∧ (x5 < (h a1 4) → ((x5 ≠ x4 → ((-2147483648 ≤ ((x5 + 1) : Int) ∧ ((x5 + 1) : Int) < 2147483648)) ∧ am_V M_X0_startOf_3 kc ks 8 [aR 29, aR a1, aI x2, aI x3, aI x4, aI (x5 + 1)] [] (RM WM wd) h Q X) ∧ (x5 = x4 → ((x3 ≠ x2 → ((-2147483648 ≤ ((x3 + 1) : Int) ∧ ((x3 + 1) : Int) < 2147483648)) ∧ am_V M_X3_sizeFrom 0 0 0 [aR 29, aR a1, aI x5, aU, aU] [] (RM WM wd) h (fun v ρ' h' => am_V M_X0_startOf_3 kc ks 44 [aR 29, aR a1, aI x2, aI (x3 + 1), aU, aI x5] (v ++ [aI x4]) ρ' h' Q X) X) ∧ (x3 = x2 → Q [aI x5] (RM WM wd) h))))))) :
    am_V M_X0_startOf_3 kc ks 8 [aR 29, aR a1, aI x2, aI x3, aI x4, aI x5] [] (RM WM wd) h Q X := by
  refine v_iload dX0_startOf_8 rfl ?_
  refine v_aload_n dX0_startOf_10 rfl rfl ?_
  refine v_getI (j := 4) dX0_startOf_11 fl_X0_7 am_clsA rfl rfl (tk0 t1) ?_
  refine v_icmp_ge (tgt := 53) dX0_startOf_14 (by decide) (fun z => ?_) (fun z => ?_)
  · have k := k.1 z
    refine v_aload_n dX0_startOf_53 rfl rfl ?_
    refine v_getI (j := 4) dX0_startOf_54 fl_X0_7 am_clsA rfl rfl (tk0 t1) ?_
    exact v_iret dX0_startOf_57 rfl rfl k
  · have k := k.2 z
    refine v_iload dX0_startOf_17 rfl ?_
    refine v_iload dX0_startOf_19 rfl ?_
    refine v_icmp_ne (tgt := 47) dX0_startOf_21 (by decide) (fun z => ?_) (fun z => ?_)
    · have k := k.1 z
      obtain ⟨b2_1, k⟩ := k
      refine v_iinc (E2 := [aR 29, aR a1, aI x2, aI x3, aI x4, aI (x5 + 1)]) dX0_startOf_47 rfl b2_1 rfl ?_
      refine v_goto (tgt := 8) dX0_startOf_50 (by decide) ?_
      exact k
    · have k := k.2 z
      refine v_iload_n dX0_startOf_24 rfl rfl ?_
      refine v_iload_n dX0_startOf_25 rfl rfl ?_
      refine v_icmp_ne (tgt := 32) dX0_startOf_26 (by decide) (fun z => ?_) (fun z => ?_)
      · have k := k.1 z
        obtain ⟨b3_1, k⟩ := k
        refine v_iinc (E2 := [aR 29, aR a1, aI x2, aI (x3 + 1), aI x4, aI x5]) dX0_startOf_32 rfl b3_1 rfl ?_
        refine v_iload dX0_startOf_35 rfl ?_
        refine v_aload_n dX0_startOf_37 rfl rfl ?_
        refine v_aload_n dX0_startOf_38 rfl rfl ?_
        refine v_iload dX0_startOf_39 rfl ?_
        refine v_weak (E2 := [aR 29, aR a1, aI x2, aI (x3 + 1), aU, aI x5]) ⟨Or.inl rfl, ⟨Or.inl rfl, ⟨Or.inl rfl, ⟨Or.inl rfl, ⟨Or.inr rfl, ⟨Or.inl rfl, trivial⟩⟩⟩⟩⟩⟩ ?_
        exact v_callU (j := M_X3_sizeFrom) (As := [aR a1, aI x5]) (st := [aI x4]) (E0 := [aR 29, aR a1, aI x5, aU, aU]) (a := 29) (ci := 2) (N := 0) (q9 := (RX3, TX3, 0)) dX0_startOf_41 mu_X0_13_3 J_X3_sizeFrom (Nat.zero_le _) (Nat.zero_le _) (Nat.le_of_ble_eq_true rfl) rfl (Nat.le_of_ble_eq_true rfl) (List.forall_mem_cons.mpr ⟨rfl, List.forall_mem_cons.mpr ⟨rfl, List.forall_mem_cons.mpr ⟨rfl, fun _ h9 => absurd h9 List.not_mem_nil⟩⟩⟩) (Nat.le_of_ble_eq_true rfl) rfl rfl rfl pn_X3_sizeFrom rfl k
      · have k := k.2 z
        refine v_iload dX0_startOf_29 rfl ?_
        exact v_iret dX0_startOf_31 rfl rfl k
theorem S_X0_startOf_3_44 {kc ks : Nat} {h : Hh} {Q : PQ} {X : PX} {a1 : Nat} (t1 : isT a1) {x2 : Int} {x3 : Int} {x5 : Int} {xs0 : Int} {xs1 : Int}
    (k : ((-2147483648 ≤ ((xs1 + xs0) : Int) ∧ ((xs1 + xs0) : Int) < 2147483648) ∧ (-2147483648 ≤ ((x5 + 1) : Int) ∧ ((x5 + 1) : Int) < 2147483648)) ∧ am_V M_X0_startOf_3 kc ks 8 [aR 29, aR a1, aI x2, aI x3, aI (xs1 + xs0), aI (x5 + 1)] [] (RM WM wd) h Q X) :
    am_V M_X0_startOf_3 kc ks 44 [aR 29, aR a1, aI x2, aI x3, aU, aI x5] [aI xs0, aI xs1] (RM WM wd) h Q X := by
  obtain ⟨⟨b0_1, b0_2⟩, k⟩ := k
  refine v_iadd dX0_startOf_44 b0_1 ?_
  refine v_istore (E2 := [aR 29, aR a1, aI x2, aI x3, aI (xs1 + xs0), aI x5]) dX0_startOf_45 (Nat.le_of_ble_eq_true rfl) rfl ?_
  refine v_iinc (E2 := [aR 29, aR a1, aI x2, aI x3, aI (xs1 + xs0), aI (x5 + 1)]) dX0_startOf_47 rfl b0_2 rfl ?_
  refine v_goto (tgt := 8) dX0_startOf_50 (by decide) ?_
  exact k
theorem S_X2_sizeFrom_0 {kc ks : Nat} {h : Hh} {Q : PQ} {X : PX} {a1 : Nat} (t1 : isT a1) {x2 : Int}
    (k : (((h a1 4) ≤ x2 → Q [aI 1] (RM WM wd) h) ∧ (x2 < (h a1 4) → am_V M_X2_commonWithLowerAhead 0 0 0 [aR 30, aR a1, aI x2, aU, aU] [] (RM WM wd) h (fun v ρ' h' => am_V M_X2_sizeFrom kc ks 17 [aR 30, aR a1, aI x2, aU] (v ++ [aI 1]) ρ' h' Q X) X))) :
    am_V M_X2_sizeFrom kc ks 0 [aR 30, aR a1, aI x2, aU] [] (RM WM wd) h Q X := by
  refine v_iconst dX2_sizeFrom_0 ⟨by decide, by decide⟩ ?_
  refine v_istore_n (E2 := [aR 30, aR a1, aI x2, aI 1]) dX2_sizeFrom_1 rfl (Nat.le_of_ble_eq_true rfl) rfl ?_
  refine v_iload_n dX2_sizeFrom_2 rfl rfl ?_
  refine v_aload_n dX2_sizeFrom_3 rfl rfl ?_
  refine v_getI (j := 4) dX2_sizeFrom_4 fl_X2_15 am_clsA rfl rfl (tk0 t1) ?_
  refine v_icmp_ge (tgt := 32) dX2_sizeFrom_7 (by decide) (fun z => ?_) (fun z => ?_)
  · have k := k.1 z
    refine v_iload_n dX2_sizeFrom_32 rfl rfl ?_
    exact v_iret dX2_sizeFrom_33 rfl rfl k
  · have k := k.2 z
    refine v_iload_n dX2_sizeFrom_10 rfl rfl ?_
    refine v_aload_n dX2_sizeFrom_11 rfl rfl ?_
    refine v_aload_n dX2_sizeFrom_12 rfl rfl ?_
    refine v_iload_n dX2_sizeFrom_13 rfl rfl ?_
    refine v_weak (E2 := [aR 30, aR a1, aI x2, aU]) ⟨Or.inl rfl, ⟨Or.inl rfl, ⟨Or.inl rfl, ⟨Or.inr rfl, trivial⟩⟩⟩⟩ ?_
    exact v_callV (j := M_X2_commonWithLowerAhead) (As := [aR a1, aI x2]) (st := [aI 1]) (E0 := [aR 30, aR a1, aI x2, aU, aU]) (a := 30) (ci := 1) (N := 1) (q9 := (RX2, TX2, 1)) dX2_sizeFrom_14 ml_X2_21 J_X2_commonWithLowerAhead (Nat.zero_le _) (Nat.zero_le _) (Nat.le_of_ble_eq_true rfl) rfl (Nat.le_of_ble_eq_true rfl) (List.forall_mem_cons.mpr ⟨rfl, List.forall_mem_cons.mpr ⟨rfl, List.forall_mem_cons.mpr ⟨rfl, fun _ h9 => absurd h9 List.not_mem_nil⟩⟩⟩) (Nat.le_of_ble_eq_true rfl) rfl rfl rfl rfl pn_X2_commonWithLowerAhead rfl k
theorem S_X2_sizeFrom_17 {kc ks : Nat} {h : Hh} {Q : PQ} {X : PX} {a1 : Nat} (t1 : isT a1) {x2 : Int} {xs0 : Int} {xs1 : Int}
    (k : am_V M_X2_commonWithUpperAhead 0 0 0 [aR 30, aR a1, aI x2, aU, aU] [] (RM WM wd) h (fun v ρ' h' => am_V M_X2_sizeFrom kc ks 28 [aU, aU, aU, aU] (v ++ [aI (max xs1 xs0)]) ρ' h' Q X) X) :
    am_V M_X2_sizeFrom kc ks 17 [aR 30, aR a1, aI x2, aU] [aI xs0, aI xs1] (RM WM wd) h Q X := by
  refine v_mmax dX2_sizeFrom_17 mm_X2_25 (by decide) (Nat.le_of_ble_eq_true rfl) ?_
  refine v_istore_n (E2 := [aR 30, aR a1, aI x2, aI (max xs1 xs0)]) dX2_sizeFrom_20 rfl (Nat.le_of_ble_eq_true rfl) rfl ?_
  refine v_iload_n dX2_sizeFrom_21 rfl rfl ?_
  refine v_aload_n dX2_sizeFrom_22 rfl rfl ?_
  refine v_aload_n dX2_sizeFrom_23 rfl rfl ?_
  refine v_iload_n dX2_sizeFrom_24 rfl rfl ?_
  refine v_weak (E2 := [aU, aU, aU, aU]) ⟨Or.inr rfl, ⟨Or.inr rfl, ⟨Or.inr rfl, ⟨Or.inr rfl, trivial⟩⟩⟩⟩ ?_
  exact v_callV (j := M_X2_commonWithUpperAhead) (As := [aR a1, aI x2]) (st := [aI (max xs1 xs0)]) (E0 := [aR 30, aR a1, aI x2, aU, aU]) (a := 30) (ci := 1) (N := 1) (q9 := (RX2, TX2, 1)) dX2_sizeFrom_25 ml_X2_31 J_X2_commonWithUpperAhead (Nat.zero_le _) (Nat.zero_le _) (Nat.le_of_ble_eq_true rfl) rfl (Nat.le_of_ble_eq_true rfl) (List.forall_mem_cons.mpr ⟨rfl, List.forall_mem_cons.mpr ⟨rfl, List.forall_mem_cons.mpr ⟨rfl, fun _ h9 => absurd h9 List.not_mem_nil⟩⟩⟩) (Nat.le_of_ble_eq_true rfl) rfl rfl rfl rfl pn_X2_commonWithUpperAhead rfl k
theorem S_X2_sizeFrom_28 {kc ks : Nat} {h : Hh} {Q : PQ} {X : PX} {xs0 : Int} {xs1 : Int}
    (k : Q [aI (max xs1 xs0)] (RM WM wd) h) :
    am_V M_X2_sizeFrom kc ks 28 [aU, aU, aU, aU] [aI xs0, aI xs1] (RM WM wd) h Q X := by
  refine v_mmax dX2_sizeFrom_28 mm_X2_25 (by decide) (Nat.le_of_ble_eq_true rfl) ?_
  refine v_istore_n (E2 := [aU, aU, aU, aI (max xs1 xs0)]) dX2_sizeFrom_31 rfl (Nat.le_of_ble_eq_true rfl) rfl ?_
  refine v_iload_n dX2_sizeFrom_32 rfl rfl ?_
  exact v_iret dX2_sizeFrom_33 rfl rfl k
theorem S_X2_commonWithLowerAhead_0 {kc ks : Nat} {h : Hh} {Q : PQ} {X : PX} {a1 : Nat} (t1 : isT a1) {x2 : Int}
    (k : ((-2147483648 ≤ (((h a1 4) - x2) : Int) ∧ (((h a1 4) - x2) : Int) < 2147483648) ∧ (0 : Int) ≤ x2 ∧ (x2 : Int) < 64) ∧ am_V M_X2_commonWithLowerAhead kc ks 15 [aU, aR a1, aI x2, aI ((h a1 4) - x2), aI (h (a1 + 3) x2)] [] (RM WM wd) h Q X) :
    am_V M_X2_commonWithLowerAhead kc ks 0 [aR 30, aR a1, aI x2, aU, aU] [] (RM WM wd) h Q X := by
  obtain ⟨⟨b0_1, b0_2, b0_3⟩, k⟩ := k
  refine v_aload_n dX2_commonWithLowerAhead_0 rfl rfl ?_
  refine v_getI (j := 4) dX2_commonWithLowerAhead_1 fl_X2_15 am_clsA rfl rfl (tk0 t1) ?_
  refine v_iload_n dX2_commonWithLowerAhead_4 rfl rfl ?_
  refine v_isub dX2_commonWithLowerAhead_5 b0_1 ?_
  refine v_istore_n (E2 := [aR 30, aR a1, aI x2, aI ((h a1 4) - x2), aU]) dX2_commonWithLowerAhead_6 rfl (Nat.le_of_ble_eq_true rfl) rfl ?_
  refine v_aload_n dX2_commonWithLowerAhead_7 rfl rfl ?_
  refine v_getR (x := (a1 + 3)) dX2_commonWithLowerAhead_8 fl_X2_34 am_clsA rfl (tk0 t1) (tr2 t1) ?_
  refine v_iload_n dX2_commonWithLowerAhead_11 rfl rfl ?_
  refine v_iald dX2_commonWithLowerAhead_12 (tk3 t1) b0_2 b0_3 ?_
  refine v_istore (E2 := [aR 30, aR a1, aI x2, aI ((h a1 4) - x2), aI (h (a1 + 3) x2)]) dX2_commonWithLowerAhead_13 (Nat.le_of_ble_eq_true rfl) rfl ?_
  refine v_weak (E2 := [aU, aR a1, aI x2, aI ((h a1 4) - x2), aI (h (a1 + 3) x2)]) ⟨Or.inr rfl, ⟨Or.inl rfl, ⟨Or.inl rfl, ⟨Or.inl rfl, ⟨Or.inl rfl, trivial⟩⟩⟩⟩⟩ ?_
  exact k
theorem S_X2_commonWithLowerAhead_15 {kc ks : Nat} {h : Hh} {Q : PQ} {X : PX} {a1 : Nat} (t1 : isT a1) {x2 : Int} {x3 : Int} {x4 : Int}
    (k : ((x4 ≤ 0 → Q [aI 0] (RM WM wd) h) ∧ (0 < x4 → ((0 : Int) ≤ x4 ∧ (x4 : Int) < 64 ∧ (-2147483648 ≤ ((x4 - 1) : Int) ∧ ((x4 - 1) : Int) < 2147483648) ∧ (0 : Int) ≤ (x4 - 1) ∧ ((x4 - 1) : Int) < 64) ∧ ((x2 ≤ (h (a1 + 2) (x4 - 1)) → ((-2147483648 ≤ ((x4 + (-1)) : Int) ∧ ((x4 + (-1)) : Int) < 2147483648)) ∧ am_V M_X2_commonWithLowerAhead kc ks 15 [aU, aR a1, aI x2, aI (min x3 (h (a1 + 4) x4)), aI (x4 + (-1))] [] (RM WM wd) h Q X) ∧ ((h (a1 + 2) (x4 - 1)) < x2 → Q [aI (min x3 (h (a1 + 4) x4))] (RM WM wd) h))))) :
    am_V M_X2_commonWithLowerAhead kc ks 15 [aU, aR a1, aI x2, aI x3, aI x4] [] (RM WM wd) h Q X := by
  refine v_iload dX2_commonWithLowerAhead_15 rfl ?_
  refine v_if_le (tgt := 53) dX2_commonWithLowerAhead_17 (by decide) (fun z => ?_) (fun z => ?_)
  · have k := k.1 z
    refine v_iconst dX2_commonWithLowerAhead_53 ⟨by decide, by decide⟩ ?_
    exact v_iret dX2_commonWithLowerAhead_54 rfl rfl k
  · have k := k.2 z
    obtain ⟨⟨b1_1, b1_2, b1_3, b1_4, b1_5⟩, k⟩ := k
    refine v_iload_n dX2_commonWithLowerAhead_20 rfl rfl ?_
    refine v_aload_n dX2_commonWithLowerAhead_21 rfl rfl ?_
    refine v_getR (x := (a1 + 4)) dX2_commonWithLowerAhead_22 fl_X2_37 am_clsA rfl (tk0 t1) (tr3 t1) ?_
    refine v_iload dX2_commonWithLowerAhead_25 rfl ?_
    refine v_iald dX2_commonWithLowerAhead_27 (tk4 t1) b1_1 b1_2 ?_
    refine v_mmin dX2_commonWithLowerAhead_28 mm_X2_40 (by decide) (Nat.le_of_ble_eq_true rfl) ?_
    refine v_istore_n (E2 := [aU, aR a1, aI x2, aI (min x3 (h (a1 + 4) x4)), aI x4]) dX2_commonWithLowerAhead_31 rfl (Nat.le_of_ble_eq_true rfl) rfl ?_
    refine v_aload_n dX2_commonWithLowerAhead_32 rfl rfl ?_
    refine v_getR (x := (a1 + 2)) dX2_commonWithLowerAhead_33 fl_X2_43 am_clsA rfl (tk0 t1) (tr1 t1) ?_
    refine v_iload dX2_commonWithLowerAhead_36 rfl ?_
    refine v_iconst dX2_commonWithLowerAhead_38 ⟨by decide, by decide⟩ ?_
    refine v_isub dX2_commonWithLowerAhead_39 b1_3 ?_
    refine v_iald dX2_commonWithLowerAhead_40 (tk2 t1) b1_4 b1_5 ?_
    refine v_iload_n dX2_commonWithLowerAhead_41 rfl rfl ?_
    refine v_icmp_ge (tgt := 47) dX2_commonWithLowerAhead_42 (by decide) (fun z => ?_) (fun z => ?_)
    · have k := k.1 z
      obtain ⟨b2_1, k⟩ := k
      refine v_iinc (E2 := [aU, aR a1, aI x2, aI (min x3 (h (a1 + 4) x4)), aI (x4 + (-1))]) dX2_commonWithLowerAhead_47 rfl b2_1 rfl ?_
      refine v_goto (tgt := 15) dX2_commonWithLowerAhead_50 (by decide) ?_
      exact k
    · have k := k.2 z
      refine v_iload_n dX2_commonWithLowerAhead_45 rfl rfl ?_
      exact v_iret dX2_commonWithLowerAhead_46 rfl rfl k
theorem S_X2_commonWithUpperAhead_0 {kc ks : Nat} {h : Hh} {Q : PQ} {X : PX} {a1 : Nat} (t1 : isT a1) {x2 : Int}
    (k : ((-2147483648 ≤ (((h a1 4) - x2) : Int) ∧ (((h a1 4) - x2) : Int) < 2147483648) ∧ (0 : Int) ≤ x2 ∧ (x2 : Int) < 64 ∧ (-2147483648 ≤ (((h (a1 + 3) x2) + 1) : Int) ∧ (((h (a1 + 3) x2) + 1) : Int) < 2147483648)) ∧ am_V M_X2_commonWithUpperAhead kc ks 17 [aU, aR a1, aI x2, aI ((h a1 4) - x2), aI ((h (a1 + 3) x2) + 1)] [] (RM WM wd) h Q X) :
    am_V M_X2_commonWithUpperAhead kc ks 0 [aR 30, aR a1, aI x2, aU, aU] [] (RM WM wd) h Q X := by
  obtain ⟨⟨b0_1, b0_2, b0_3, b0_4⟩, k⟩ := k
  refine v_aload_n dX2_commonWithUpperAhead_0 rfl rfl ?_
  refine v_getI (j := 4) dX2_commonWithUpperAhead_1 fl_X2_15 am_clsA rfl rfl (tk0 t1) ?_
  refine v_iload_n dX2_commonWithUpperAhead_4 rfl rfl ?_
  refine v_isub dX2_commonWithUpperAhead_5 b0_1 ?_
  refine v_istore_n (E2 := [aR 30, aR a1, aI x2, aI ((h a1 4) - x2), aU]) dX2_commonWithUpperAhead_6 rfl (Nat.le_of_ble_eq_true rfl) rfl ?_
  refine v_aload_n dX2_commonWithUpperAhead_7 rfl rfl ?_
  refine v_getR (x := (a1 + 3)) dX2_commonWithUpperAhead_8 fl_X2_34 am_clsA rfl (tk0 t1) (tr2 t1) ?_
  refine v_iload_n dX2_commonWithUpperAhead_11 rfl rfl ?_
  refine v_iald dX2_commonWithUpperAhead_12 (tk3 t1) b0_2 b0_3 ?_
  refine v_iconst dX2_commonWithUpperAhead_13 ⟨by decide, by decide⟩ ?_
  refine v_iadd dX2_commonWithUpperAhead_14 b0_4 ?_
  refine v_istore (E2 := [aR 30, aR a1, aI x2, aI ((h a1 4) - x2), aI ((h (a1 + 3) x2) + 1)]) dX2_commonWithUpperAhead_15 (Nat.le_of_ble_eq_true rfl) rfl ?_
  refine v_weak (E2 := [aU, aR a1, aI x2, aI ((h a1 4) - x2), aI ((h (a1 + 3) x2) + 1)]) ⟨Or.inr rfl, ⟨Or.inl rfl, ⟨Or.inl rfl, ⟨Or.inl rfl, ⟨Or.inl rfl, trivial⟩⟩⟩⟩⟩ ?_
  exact k
theorem S_X2_commonWithUpperAhead_17 {kc ks : Nat} {h : Hh} {Q : PQ} {X : PX} {a1 : Nat} (t1 : isT a1) {x2 : Int} {x3 : Int} {x4 : Int}
    (k : (((h a1 4) ≤ x4 → Q [aI 0] (RM WM wd) h) ∧ (x4 < (h a1 4) → ((0 : Int) ≤ x4 ∧ (x4 : Int) < 64 ∧ (0 : Int) ≤ x4 ∧ (x4 : Int) < 64) ∧ ((x2 ≤ (h (a1 + 2) x4) → ((-2147483648 ≤ ((x4 + 1) : Int) ∧ ((x4 + 1) : Int) < 2147483648)) ∧ am_V M_X2_commonWithUpperAhead kc ks 17 [aU, aR a1, aI x2, aI (min x3 (h (a1 + 4) x4)), aI (x4 + 1)] [] (RM WM wd) h Q X) ∧ ((h (a1 + 2) x4) < x2 → Q [aI (min x3 (h (a1 + 4) x4))] (RM WM wd) h))))) :
    am_V M_X2_commonWithUpperAhead kc ks 17 [aU, aR a1, aI x2, aI x3, aI x4] [] (RM WM wd) h Q X := by
  refine v_iload dX2_commonWithUpperAhead_17 rfl ?_
  refine v_aload_n dX2_commonWithUpperAhead_19 rfl rfl ?_
  refine v_getI (j := 4) dX2_commonWithUpperAhead_20 fl_X2_15 am_clsA rfl rfl (tk0 t1) ?_
  refine v_icmp_ge (tgt := 57) dX2_commonWithUpperAhead_23 (by decide) (fun z => ?_) (fun z => ?_)
  · have k := k.1 z
    refine v_iconst dX2_commonWithUpperAhead_57 ⟨by decide, by decide⟩ ?_
    exact v_iret dX2_commonWithUpperAhead_58 rfl rfl k
  · have k := k.2 z
    obtain ⟨⟨b1_1, b1_2, b1_3, b1_4⟩, k⟩ := k
    refine v_iload_n dX2_commonWithUpperAhead_26 rfl rfl ?_
    refine v_aload_n dX2_commonWithUpperAhead_27 rfl rfl ?_
    refine v_getR (x := (a1 + 4)) dX2_commonWithUpperAhead_28 fl_X2_37 am_clsA rfl (tk0 t1) (tr3 t1) ?_
    refine v_iload dX2_commonWithUpperAhead_31 rfl ?_
    refine v_iald dX2_commonWithUpperAhead_33 (tk4 t1) b1_1 b1_2 ?_
    refine v_mmin dX2_commonWithUpperAhead_34 mm_X2_40 (by decide) (Nat.le_of_ble_eq_true rfl) ?_
    refine v_istore_n (E2 := [aU, aR a1, aI x2, aI (min x3 (h (a1 + 4) x4)), aI x4]) dX2_commonWithUpperAhead_37 rfl (Nat.le_of_ble_eq_true rfl) rfl ?_
    refine v_aload_n dX2_commonWithUpperAhead_38 rfl rfl ?_
    refine v_getR (x := (a1 + 2)) dX2_commonWithUpperAhead_39 fl_X2_43 am_clsA rfl (tk0 t1) (tr1 t1) ?_
    refine v_iload dX2_commonWithUpperAhead_42 rfl ?_
    refine v_iald dX2_commonWithUpperAhead_44 (tk2 t1) b1_3 b1_4 ?_
    refine v_iload_n dX2_commonWithUpperAhead_45 rfl rfl ?_
    refine v_icmp_ge (tgt := 51) dX2_commonWithUpperAhead_46 (by decide) (fun z => ?_) (fun z => ?_)
    · have k := k.1 z
      obtain ⟨b2_1, k⟩ := k
      refine v_iinc (E2 := [aU, aR a1, aI x2, aI (min x3 (h (a1 + 4) x4)), aI (x4 + 1)]) dX2_commonWithUpperAhead_51 rfl b2_1 rfl ?_
      refine v_goto (tgt := 17) dX2_commonWithUpperAhead_54 (by decide) ?_
      exact k
    · have k := k.2 z
      refine v_iload_n dX2_commonWithUpperAhead_49 rfl rfl ?_
      exact v_iret dX2_commonWithUpperAhead_50 rfl rfl k
theorem S_X2_fewestWords_0 {kc ks : Nat} {h : Hh} {Q : PQ} {X : PX} {a1 : Nat} (t1 : isT a1)
    (k : ((0 : Int) ≤ (h a1 4) ∧ ((h a1 4) : Int) < 65 ∧ (-2147483648 ≤ ((((am_st h 31 (h a1 4) 0) a1 4) - 1) : Int) ∧ ((((am_st h 31 (h a1 4) 0) a1 4) - 1) : Int) < 2147483648)) ∧ am_V M_X2_fewestWords kc ks 17 [aR 30, aR a1, aI (((am_st h 31 (h a1 4) 0) a1 4) - 1), aU, aU, aU] [] (RM WM wd) (am_st h 31 (h a1 4) 0) Q X) :
    am_V M_X2_fewestWords kc ks 0 [aR 30, aR a1, aU, aU, aU, aU] [] (RM WM wd) h Q X := by
  obtain ⟨⟨b0_1, b0_2, b0_3⟩, k⟩ := k
  refine v_aload_n dX2_fewestWords_0 rfl rfl ?_
  refine v_getR (x := 31) dX2_fewestWords_1 fl_X2_9 am_clsA rfl rfl rfl ?_
  refine v_aload_n dX2_fewestWords_4 rfl rfl ?_
  refine v_getI (j := 4) dX2_fewestWords_5 fl_X2_15 am_clsA rfl rfl (tk0 t1) ?_
  refine v_iconst dX2_fewestWords_8 ⟨by decide, by decide⟩ ?_
  refine v_iast dX2_fewestWords_9 rfl b0_1 b0_2 ?_
  refine v_aload_n dX2_fewestWords_10 rfl rfl ?_
  refine v_getI (j := 4) dX2_fewestWords_11 fl_X2_15 am_clsA rfl rfl (tk0 t1) ?_
  refine v_iconst dX2_fewestWords_14 ⟨by decide, by decide⟩ ?_
  refine v_isub dX2_fewestWords_15 b0_3 ?_
  refine v_istore_n (E2 := [aR 30, aR a1, aI (((am_st h 31 (h a1 4) 0) a1 4) - 1), aU, aU, aU]) dX2_fewestWords_16 rfl (Nat.le_of_ble_eq_true rfl) rfl ?_
  exact k
theorem S_X2_fewestWords_17 {kc ks : Nat} {h : Hh} {Q : PQ} {X : PX} {a1 : Nat} (t1 : isT a1) {x2 : Int}
    (k : ((x2 < 0 → ((0 : Int) ≤ 0 ∧ (0 : Int) < 65) ∧ Q [aI (h 31 0)] (RM WM wd) h) ∧ (0 ≤ x2 → am_V M_X2_sizeFrom 0 0 0 [aR 30, aR a1, aI x2, aU] [] (RM WM wd) h (fun v ρ' h' => am_V M_X2_fewestWords kc ks 27 [aR 30, aR a1, aI x2, aU, aU, aU] (v ++ []) ρ' h' Q X) X))) :
    am_V M_X2_fewestWords kc ks 17 [aR 30, aR a1, aI x2, aU, aU, aU] [] (RM WM wd) h Q X := by
  refine v_iload_n dX2_fewestWords_17 rfl rfl ?_
  refine v_if_lt (tgt := 85) dX2_fewestWords_18 (by decide) (fun z => ?_) (fun z => ?_)
  · have k := k.1 z
    obtain ⟨⟨b1_1, b1_2⟩, k⟩ := k
    refine v_aload_n dX2_fewestWords_85 rfl rfl ?_
    refine v_getR (x := 31) dX2_fewestWords_86 fl_X2_9 am_clsA rfl rfl rfl ?_
    refine v_iconst dX2_fewestWords_89 ⟨by decide, by decide⟩ ?_
    refine v_iald dX2_fewestWords_90 rfl b1_1 b1_2 ?_
    exact v_iret dX2_fewestWords_91 rfl rfl k
  · have k := k.2 z
    refine v_aload_n dX2_fewestWords_21 rfl rfl ?_
    refine v_aload_n dX2_fewestWords_22 rfl rfl ?_
    refine v_iload_n dX2_fewestWords_23 rfl rfl ?_
    exact v_callV (j := M_X2_sizeFrom) (As := [aR a1, aI x2]) (st := []) (E0 := [aR 30, aR a1, aI x2, aU]) (a := 30) (ci := 1) (N := 1) (q9 := (RX2, TX2, 1)) dX2_fewestWords_24 ml_X2_46 J_X2_sizeFrom (Nat.zero_le _) (Nat.zero_le _) (Nat.le_of_ble_eq_true rfl) rfl (Nat.le_of_ble_eq_true rfl) (List.forall_mem_cons.mpr ⟨rfl, List.forall_mem_cons.mpr ⟨rfl, List.forall_mem_cons.mpr ⟨rfl, fun _ h9 => absurd h9 List.not_mem_nil⟩⟩⟩) (Nat.le_of_ble_eq_true rfl) rfl rfl rfl rfl pn_X2_sizeFrom rfl k
theorem S_X2_fewestWords_27 {kc ks : Nat} {h : Hh} {Q : PQ} {X : PX} {a1 : Nat} (t1 : isT a1) {x2 : Int} {xs0 : Int}
    (k : ((-2147483648 ≤ ((x2 + 1) : Int) ∧ ((x2 + 1) : Int) < 2147483648) ∧ (0 : Int) ≤ (x2 + 1) ∧ ((x2 + 1) : Int) < 65) ∧ am_V M_X2_fewestWords kc ks 41 [aR 30, aR a1, aI x2, aI xs0, aI (h 31 (x2 + 1)), aI 2] [] (RM WM wd) h Q X) :
    am_V M_X2_fewestWords kc ks 27 [aR 30, aR a1, aI x2, aU, aU, aU] [aI xs0] (RM WM wd) h Q X := by
  obtain ⟨⟨b0_1, b0_2, b0_3⟩, k⟩ := k
  refine v_istore_n (E2 := [aR 30, aR a1, aI x2, aI xs0, aU, aU]) dX2_fewestWords_27 rfl (Nat.le_of_ble_eq_true rfl) rfl ?_
  refine v_aload_n dX2_fewestWords_28 rfl rfl ?_
  refine v_getR (x := 31) dX2_fewestWords_29 fl_X2_9 am_clsA rfl rfl rfl ?_
  refine v_iload_n dX2_fewestWords_32 rfl rfl ?_
  refine v_iconst dX2_fewestWords_33 ⟨by decide, by decide⟩ ?_
  refine v_iadd dX2_fewestWords_34 b0_1 ?_
  refine v_iald dX2_fewestWords_35 rfl b0_2 b0_3 ?_
  refine v_istore (E2 := [aR 30, aR a1, aI x2, aI xs0, aI (h 31 (x2 + 1)), aU]) dX2_fewestWords_36 (Nat.le_of_ble_eq_true rfl) rfl ?_
  refine v_iconst dX2_fewestWords_38 ⟨by decide, by decide⟩ ?_
  refine v_istore (E2 := [aR 30, aR a1, aI x2, aI xs0, aI (h 31 (x2 + 1)), aI 2]) dX2_fewestWords_39 (Nat.le_of_ble_eq_true rfl) rfl ?_
  exact k
theorem S_X2_fewestWords_41 {kc ks : Nat} {h : Hh} {Q : PQ} {X : PX} {a1 : Nat} (t1 : isT a1) {x2 : Int} {x3 : Int} {x4 : Int} {x5 : Int}
    (k : ((x3 < x5 → ((-2147483648 ≤ ((x4 + 1) : Int) ∧ ((x4 + 1) : Int) < 2147483648) ∧ (0 : Int) ≤ x2 ∧ (x2 : Int) < 65 ∧ (-2147483648 ≤ ((x2 + (-1)) : Int) ∧ ((x2 + (-1)) : Int) < 2147483648)) ∧ am_V M_X2_fewestWords kc ks 17 [aR 30, aR a1, aI (x2 + (-1)), aU, aU, aU] [] (RM WM wd) (am_st h 31 x2 (x4 + 1)) Q X) ∧ (x5 ≤ x3 → ((-2147483648 ≤ ((x2 + x5) : Int) ∧ ((x2 + x5) : Int) < 2147483648) ∧ (0 : Int) ≤ (x2 + x5) ∧ ((x2 + x5) : Int) < 65 ∧ (-2147483648 ≤ ((x5 + 1) : Int) ∧ ((x5 + 1) : Int) < 2147483648)) ∧ am_V M_X2_fewestWords kc ks 41 [aR 30, aR a1, aI x2, aI x3, aI (min x4 (h 31 (x2 + x5))), aI (x5 + 1)] [] (RM WM wd) h Q X))) :
    am_V M_X2_fewestWords kc ks 41 [aR 30, aR a1, aI x2, aI x3, aI x4, aI x5] [] (RM WM wd) h Q X := by
  refine v_iload dX2_fewestWords_41 rfl ?_
  refine v_iload_n dX2_fewestWords_43 rfl rfl ?_
  refine v_icmp_gt (tgt := 69) dX2_fewestWords_44 (by decide) (fun z => ?_) (fun z => ?_)
  · have k := k.1 z
    obtain ⟨⟨b1_1, b1_2, b1_3, b1_4⟩, k⟩ := k
    refine v_aload_n dX2_fewestWords_69 rfl rfl ?_
    refine v_getR (x := 31) dX2_fewestWords_70 fl_X2_9 am_clsA rfl rfl rfl ?_
    refine v_iload_n dX2_fewestWords_73 rfl rfl ?_
    refine v_iload dX2_fewestWords_74 rfl ?_
    refine v_iconst dX2_fewestWords_76 ⟨by decide, by decide⟩ ?_
    refine v_iadd dX2_fewestWords_77 b1_1 ?_
    refine v_iast dX2_fewestWords_78 rfl b1_2 b1_3 ?_
    refine v_iinc (E2 := [aR 30, aR a1, aI (x2 + (-1)), aI x3, aI x4, aI x5]) dX2_fewestWords_79 rfl b1_4 rfl ?_
    refine v_goto (tgt := 17) dX2_fewestWords_82 (by decide) ?_
    refine v_weak (E2 := [aR 30, aR a1, aI (x2 + (-1)), aU, aU, aU]) ⟨Or.inl rfl, ⟨Or.inl rfl, ⟨Or.inl rfl, ⟨Or.inr rfl, ⟨Or.inr rfl, ⟨Or.inr rfl, trivial⟩⟩⟩⟩⟩⟩ ?_
    exact k
  · have k := k.2 z
    obtain ⟨⟨b1_1, b1_2, b1_3, b1_4⟩, k⟩ := k
    refine v_iload dX2_fewestWords_47 rfl ?_
    refine v_aload_n dX2_fewestWords_49 rfl rfl ?_
    refine v_getR (x := 31) dX2_fewestWords_50 fl_X2_9 am_clsA rfl rfl rfl ?_
    refine v_iload_n dX2_fewestWords_53 rfl rfl ?_
    refine v_iload dX2_fewestWords_54 rfl ?_
    refine v_iadd dX2_fewestWords_56 b1_1 ?_
    refine v_iald dX2_fewestWords_57 rfl b1_2 b1_3 ?_
    refine v_mmin dX2_fewestWords_58 mm_X2_40 (by decide) (Nat.le_of_ble_eq_true rfl) ?_
    refine v_istore (E2 := [aR 30, aR a1, aI x2, aI x3, aI (min x4 (h 31 (x2 + x5))), aI x5]) dX2_fewestWords_61 (Nat.le_of_ble_eq_true rfl) rfl ?_
    refine v_iinc (E2 := [aR 30, aR a1, aI x2, aI x3, aI (min x4 (h 31 (x2 + x5))), aI (x5 + 1)]) dX2_fewestWords_63 rfl b1_4 rfl ?_
    refine v_goto (tgt := 41) dX2_fewestWords_66 (by decide) ?_
    exact k
theorem S_X3_sizeFrom_0 {kc ks : Nat} {h : Hh} {Q : PQ} {X : PX} {a1 : Nat} (t1 : isT a1) {x2 : Int}
    (k : ((-2147483648 ≤ ((x2 + 1) : Int) ∧ ((x2 + 1) : Int) < 2147483648)) ∧ am_V M_X3_sizeFrom kc ks 7 [aU, aR a1, aI x2, aI x2, aI (x2 + 1)] [] (RM WM wd) h Q X) :
    am_V M_X3_sizeFrom kc ks 0 [aR 29, aR a1, aI x2, aU, aU] [] (RM WM wd) h Q X := by
  obtain ⟨b0_1, k⟩ := k
  refine v_iload_n dX3_sizeFrom_0 rfl rfl ?_
  refine v_istore_n (E2 := [aR 29, aR a1, aI x2, aI x2, aU]) dX3_sizeFrom_1 rfl (Nat.le_of_ble_eq_true rfl) rfl ?_
  refine v_iload_n dX3_sizeFrom_2 rfl rfl ?_
  refine v_iconst dX3_sizeFrom_3 ⟨by decide, by decide⟩ ?_
  refine v_iadd dX3_sizeFrom_4 b0_1 ?_
  refine v_istore (E2 := [aR 29, aR a1, aI x2, aI x2, aI (x2 + 1)]) dX3_sizeFrom_5 (Nat.le_of_ble_eq_true rfl) rfl ?_
  refine v_weak (E2 := [aU, aR a1, aI x2, aI x2, aI (x2 + 1)]) ⟨Or.inr rfl, ⟨Or.inl rfl, ⟨Or.inl rfl, ⟨Or.inl rfl, ⟨Or.inl rfl, trivial⟩⟩⟩⟩⟩ ?_
  exact k
theorem S_X3_sizeFrom_7 {kc ks : Nat} {h : Hh} {Q : PQ} {X : PX} {a1 : Nat} (t1 : isT a1) {x2 : Int} {x3 : Int} {x4 : Int}
    (k : (((h a1 4) ≤ x4 → ((-2147483648 ≤ ((x4 - x3) : Int) ∧ ((x4 - x3) : Int) < 2147483648)) ∧ Q [aI (x4 - x3)] (RM WM wd) h) ∧ (x4 < (h a1 4) → ((0 : Int) ≤ x3 ∧ (x3 : Int) < 64 ∧ (0 : Int) ≤ x4 ∧ (x4 : Int) < 64) ∧ (((h (a1 + 1) x4) < (h (a1 + 1) x3) → ((-2147483648 ≤ ((x4 - x3) : Int) ∧ ((x4 - x3) : Int) < 2147483648)) ∧ Q [aI (x4 - x3)] (RM WM wd) h) ∧ ((h (a1 + 1) x3) ≤ (h (a1 + 1) x4) → ((0 : Int) ≤ x3 ∧ (x3 : Int) < 64 ∧ (0 : Int) ≤ x4 ∧ (x4 : Int) < 64) ∧ (((h (a1 + 1) x4) ≤ (h (a1 + 1) x3) → ((-2147483648 ≤ ((x3 + 1) : Int) ∧ ((x3 + 1) : Int) < 2147483648) ∧ (-2147483648 ≤ ((x4 + 1) : Int) ∧ ((x4 + 1) : Int) < 2147483648)) ∧ am_V M_X3_sizeFrom kc ks 7 [aU, aR a1, aI x2, aI (x3 + 1), aI (x4 + 1)] [] (RM WM wd) h Q X) ∧ ((h (a1 + 1) x3) < (h (a1 + 1) x4) → ((-2147483648 ≤ ((x4 + 1) : Int) ∧ ((x4 + 1) : Int) < 2147483648)) ∧ am_V M_X3_sizeFrom kc ks 7 [aU, aR a1, aI x2, aI x2, aI (x4 + 1)] [] (RM WM wd) h Q X))))))) :
    am_V M_X3_sizeFrom kc ks 7 [aU, aR a1, aI x2, aI x3, aI x4] [] (RM WM wd) h Q X := by
  refine v_iload dX3_sizeFrom_7 rfl ?_
  refine v_aload_n dX3_sizeFrom_9 rfl rfl ?_
  refine v_getI (j := 4) dX3_sizeFrom_10 fl_X3_7 am_clsA rfl rfl (tk0 t1) ?_
  refine v_icmp_ge (tgt := 62) dX3_sizeFrom_13 (by decide) (fun z => ?_) (fun z => ?_)
  · have k := k.1 z
    obtain ⟨b1_1, k⟩ := k
    refine v_iload dX3_sizeFrom_62 rfl ?_
    refine v_iload_n dX3_sizeFrom_64 rfl rfl ?_
    refine v_isub dX3_sizeFrom_65 b1_1 ?_
    exact v_iret dX3_sizeFrom_66 rfl rfl k
  · have k := k.2 z
    obtain ⟨⟨b1_1, b1_2, b1_3, b1_4⟩, k⟩ := k
    refine v_aload_n dX3_sizeFrom_16 rfl rfl ?_
    refine v_getR (x := (a1 + 1)) dX3_sizeFrom_17 fl_X3_13 am_clsA rfl (tk0 t1) (tr0 t1) ?_
    refine v_iload_n dX3_sizeFrom_20 rfl rfl ?_
    refine v_cald dX3_sizeFrom_21 (tk1 t1) b1_1 b1_2 ?_
    refine v_aload_n dX3_sizeFrom_22 rfl rfl ?_
    refine v_getR (x := (a1 + 1)) dX3_sizeFrom_23 fl_X3_13 am_clsA rfl (tk0 t1) (tr0 t1) ?_
    refine v_iload dX3_sizeFrom_26 rfl ?_
    refine v_cald dX3_sizeFrom_28 (tk1 t1) b1_3 b1_4 ?_
    refine v_icmp_gt (tgt := 62) dX3_sizeFrom_29 (by decide) (fun z => ?_) (fun z => ?_)
    · have k := k.1 z
      obtain ⟨b2_1, k⟩ := k
      refine v_iload dX3_sizeFrom_62 rfl ?_
      refine v_iload_n dX3_sizeFrom_64 rfl rfl ?_
      refine v_isub dX3_sizeFrom_65 b2_1 ?_
      exact v_iret dX3_sizeFrom_66 rfl rfl k
    · have k := k.2 z
      obtain ⟨⟨b2_1, b2_2, b2_3, b2_4⟩, k⟩ := k
      refine v_aload_n dX3_sizeFrom_32 rfl rfl ?_
      refine v_getR (x := (a1 + 1)) dX3_sizeFrom_33 fl_X3_13 am_clsA rfl (tk0 t1) (tr0 t1) ?_
      refine v_iload_n dX3_sizeFrom_36 rfl rfl ?_
      refine v_cald dX3_sizeFrom_37 (tk1 t1) b2_1 b2_2 ?_
      refine v_aload_n dX3_sizeFrom_38 rfl rfl ?_
      refine v_getR (x := (a1 + 1)) dX3_sizeFrom_39 fl_X3_13 am_clsA rfl (tk0 t1) (tr0 t1) ?_
      refine v_iload dX3_sizeFrom_42 rfl ?_
      refine v_cald dX3_sizeFrom_44 (tk1 t1) b2_3 b2_4 ?_
      refine v_icmp_ge (tgt := 52) dX3_sizeFrom_45 (by decide) (fun z => ?_) (fun z => ?_)
      · have k := k.1 z
        obtain ⟨⟨b3_1, b3_2⟩, k⟩ := k
        refine v_iload_n dX3_sizeFrom_52 rfl rfl ?_
        refine v_iconst dX3_sizeFrom_53 ⟨by decide, by decide⟩ ?_
        refine v_iadd dX3_sizeFrom_54 b3_1 ?_
        refine v_istore_n (E2 := [aU, aR a1, aI x2, aI (x3 + 1), aI x4]) dX3_sizeFrom_55 rfl (Nat.le_of_ble_eq_true rfl) rfl ?_
        refine v_iinc (E2 := [aU, aR a1, aI x2, aI (x3 + 1), aI (x4 + 1)]) dX3_sizeFrom_56 rfl b3_2 rfl ?_
        refine v_goto (tgt := 7) dX3_sizeFrom_59 (by decide) ?_
        exact k
      · have k := k.2 z
        obtain ⟨b3_1, k⟩ := k
        refine v_iload_n dX3_sizeFrom_48 rfl rfl ?_
        refine v_goto (tgt := 55) dX3_sizeFrom_49 (by decide) ?_
        refine v_istore_n (E2 := [aU, aR a1, aI x2, aI x2, aI x4]) dX3_sizeFrom_55 rfl (Nat.le_of_ble_eq_true rfl) rfl ?_
        refine v_iinc (E2 := [aU, aR a1, aI x2, aI x2, aI (x4 + 1)]) dX3_sizeFrom_56 rfl b3_1 rfl ?_
        refine v_goto (tgt := 7) dX3_sizeFrom_59 (by decide) ?_
        exact k
theorem S_X3_agreesWith_0 {kc ks : Nat} {h : Hh} {Q : PQ} {X : PX} {a1 : Nat} (t1 : isT a1)
    (k : am_V M_X3_agreesWith kc ks 10 [aR 29, aR a1, aI 0, aI (h a1 4), aI 0, aU] [] (RM WM wd) h Q X) :
    am_V M_X3_agreesWith kc ks 0 [aR 29, aR a1, aU, aU, aU, aU] [] (RM WM wd) h Q X := by
  refine v_iconst dX3_agreesWith_0 ⟨by decide, by decide⟩ ?_
  refine v_istore_n (E2 := [aR 29, aR a1, aI 0, aU, aU, aU]) dX3_agreesWith_1 rfl (Nat.le_of_ble_eq_true rfl) rfl ?_
  refine v_aload_n dX3_agreesWith_2 rfl rfl ?_
  refine v_getI (j := 4) dX3_agreesWith_3 fl_X3_7 am_clsA rfl rfl (tk0 t1) ?_
  refine v_istore_n (E2 := [aR 29, aR a1, aI 0, aI (h a1 4), aU, aU]) dX3_agreesWith_6 rfl (Nat.le_of_ble_eq_true rfl) rfl ?_
  refine v_iconst dX3_agreesWith_7 ⟨by decide, by decide⟩ ?_
  refine v_istore (E2 := [aR 29, aR a1, aI 0, aI (h a1 4), aI 0, aU]) dX3_agreesWith_8 (Nat.le_of_ble_eq_true rfl) rfl ?_
  exact k
theorem S_X3_agreesWith_10 {kc ks : Nat} {h : Hh} {Q : PQ} {X : PX} {a1 : Nat} (t1 : isT a1) {x2 : Int} {x3 : Int} {x4 : Int}
    (k : (((h a1 4) ≤ x4 → Q [aI 1] (RM WM wd) h) ∧ (x4 < (h a1 4) → ((0 : Int) ≤ x4 ∧ (x4 : Int) < 64) ∧ ((x3 ≤ (h (a1 + 3) x4) → ((x4 ≠ x2 → ((-2147483648 ≤ ((x4 + 1) : Int) ∧ ((x4 + 1) : Int) < 2147483648)) ∧ am_V M_X3_agreesWith kc ks 10 [aR 29, aR a1, aI x2, aI x3, aI (x4 + 1), aU] [] (RM WM wd) h Q X) ∧ (x4 = x2 → Q [aI 0] (RM WM wd) h))) ∧ ((h (a1 + 3) x4) < x3 → ((x4 ≠ x2 → Q [aI 0] (RM WM wd) h) ∧ (x4 = x2 → ((0 : Int) ≤ x4 ∧ (x4 : Int) < 64) ∧ am_V M_X3_sizeFrom 0 0 0 [aR 29, aR a1, aI x4, aU, aU] [] (RM WM wd) h (fun v ρ' h' => am_V M_X3_agreesWith kc ks 76 [aR 29, aR a1, aU, aI (h (a1 + 3) x4), aI x4, aU] (v ++ [aI x2]) ρ' h' Q X) X))))))) :
    am_V M_X3_agreesWith kc ks 10 [aR 29, aR a1, aI x2, aI x3, aI x4, aU] [] (RM WM wd) h Q X := by
  refine v_iload dX3_agreesWith_10 rfl ?_
  refine v_aload_n dX3_agreesWith_12 rfl rfl ?_
  refine v_getI (j := 4) dX3_agreesWith_13 fl_X3_7 am_clsA rfl rfl (tk0 t1) ?_
  refine v_icmp_ge (tgt := 84) dX3_agreesWith_16 (by decide) (fun z => ?_) (fun z => ?_)
  · have k := k.1 z
    refine v_iconst dX3_agreesWith_84 ⟨by decide, by decide⟩ ?_
    exact v_zret dX3_agreesWith_85 rfl rfl (Or.inr rfl) k
  · have k := k.2 z
    obtain ⟨⟨b1_1, b1_2⟩, k⟩ := k
    refine v_aload_n dX3_agreesWith_19 rfl rfl ?_
    refine v_getR (x := (a1 + 3)) dX3_agreesWith_20 fl_X3_17 am_clsA rfl (tk0 t1) (tr2 t1) ?_
    refine v_iload dX3_agreesWith_23 rfl ?_
    refine v_iald dX3_agreesWith_25 (tk3 t1) b1_1 b1_2 ?_
    refine v_iload_n dX3_agreesWith_26 rfl rfl ?_
    refine v_icmp_ge (tgt := 34) dX3_agreesWith_27 (by decide) (fun z => ?_) (fun z => ?_)
    · have k := k.1 z
      refine v_iconst dX3_agreesWith_34 ⟨by decide, by decide⟩ ?_
      refine v_istore (E2 := [aR 29, aR a1, aI x2, aI x3, aI x4, aI 0]) dX3_agreesWith_35 (Nat.le_of_ble_eq_true rfl) rfl ?_
      refine v_iload dX3_agreesWith_37 rfl ?_
      refine v_iload dX3_agreesWith_39 rfl ?_
      refine v_iload_n dX3_agreesWith_41 rfl rfl ?_
      refine v_icmp_ne (tgt := 49) dX3_agreesWith_42 (by decide) (fun z => ?_) (fun z => ?_)
      · have k := k.1 z
        refine v_iconst dX3_agreesWith_49 ⟨by decide, by decide⟩ ?_
        refine v_icmp_eq (tgt := 55) dX3_agreesWith_50 (by decide) (fun z => ?_) (fun z => absurd z (by decide))
        refine v_iload dX3_agreesWith_55 rfl ?_
        refine v_if_eq (tgt := 78) dX3_agreesWith_57 (by decide) (fun z => ?_) (fun z => absurd z (by decide))
        obtain ⟨b5_1, k⟩ := k
        refine v_iinc (E2 := [aR 29, aR a1, aI x2, aI x3, aI (x4 + 1), aI 0]) dX3_agreesWith_78 rfl b5_1 rfl ?_
        refine v_goto (tgt := 10) dX3_agreesWith_81 (by decide) ?_
        refine v_weak (E2 := [aR 29, aR a1, aI x2, aI x3, aI (x4 + 1), aU]) ⟨Or.inl rfl, ⟨Or.inl rfl, ⟨Or.inl rfl, ⟨Or.inl rfl, ⟨Or.inl rfl, ⟨Or.inr rfl, trivial⟩⟩⟩⟩⟩⟩ ?_
        exact k
      · have k := k.2 z
        refine v_iconst dX3_agreesWith_45 ⟨by decide, by decide⟩ ?_
        refine v_goto (tgt := 50) dX3_agreesWith_46 (by decide) ?_
        refine v_icmp_eq (tgt := 55) dX3_agreesWith_50 (by decide) (fun z => absurd z (by decide)) (fun z => ?_)
        refine v_iconst dX3_agreesWith_53 ⟨by decide, by decide⟩ ?_
        exact v_zret dX3_agreesWith_54 rfl rfl (Or.inl rfl) k
    · have k := k.2 z
      refine v_iconst dX3_agreesWith_30 ⟨by decide, by decide⟩ ?_
      refine v_goto (tgt := 35) dX3_agreesWith_31 (by decide) ?_
      refine v_istore (E2 := [aR 29, aR a1, aI x2, aI x3, aI x4, aI 1]) dX3_agreesWith_35 (Nat.le_of_ble_eq_true rfl) rfl ?_
      refine v_iload dX3_agreesWith_37 rfl ?_
      refine v_iload dX3_agreesWith_39 rfl ?_
      refine v_iload_n dX3_agreesWith_41 rfl rfl ?_
      refine v_icmp_ne (tgt := 49) dX3_agreesWith_42 (by decide) (fun z => ?_) (fun z => ?_)
      · have k := k.1 z
        refine v_iconst dX3_agreesWith_49 ⟨by decide, by decide⟩ ?_
        refine v_icmp_eq (tgt := 55) dX3_agreesWith_50 (by decide) (fun z => absurd z (by decide)) (fun z => ?_)
        refine v_iconst dX3_agreesWith_53 ⟨by decide, by decide⟩ ?_
        exact v_zret dX3_agreesWith_54 rfl rfl (Or.inl rfl) k
      · have k := k.2 z
        refine v_iconst dX3_agreesWith_45 ⟨by decide, by decide⟩ ?_
        refine v_goto (tgt := 50) dX3_agreesWith_46 (by decide) ?_
        refine v_icmp_eq (tgt := 55) dX3_agreesWith_50 (by decide) (fun z => ?_) (fun z => absurd z (by decide))
        refine v_iload dX3_agreesWith_55 rfl ?_
        refine v_if_eq (tgt := 78) dX3_agreesWith_57 (by decide) (fun z => absurd z (by decide)) (fun z => ?_)
        obtain ⟨⟨b5_1, b5_2⟩, k⟩ := k
        refine v_aload_n dX3_agreesWith_60 rfl rfl ?_
        refine v_getR (x := (a1 + 3)) dX3_agreesWith_61 fl_X3_17 am_clsA rfl (tk0 t1) (tr2 t1) ?_
        refine v_iload dX3_agreesWith_64 rfl ?_
        refine v_iald dX3_agreesWith_66 (tk3 t1) b5_1 b5_2 ?_
        refine v_istore_n (E2 := [aR 29, aR a1, aI x2, aI (h (a1 + 3) x4), aI x4, aI 1]) dX3_agreesWith_67 rfl (Nat.le_of_ble_eq_true rfl) rfl ?_
        refine v_iload_n dX3_agreesWith_68 rfl rfl ?_
        refine v_aload_n dX3_agreesWith_69 rfl rfl ?_
        refine v_aload_n dX3_agreesWith_70 rfl rfl ?_
        refine v_iload dX3_agreesWith_71 rfl ?_
        refine v_weak (E2 := [aR 29, aR a1, aU, aI (h (a1 + 3) x4), aI x4, aU]) ⟨Or.inl rfl, ⟨Or.inl rfl, ⟨Or.inr rfl, ⟨Or.inl rfl, ⟨Or.inl rfl, ⟨Or.inr rfl, trivial⟩⟩⟩⟩⟩⟩ ?_
        exact v_callV (j := M_X3_sizeFrom) (As := [aR a1, aI x4]) (st := [aI x2]) (E0 := [aR 29, aR a1, aI x4, aU, aU]) (a := 29) (ci := 2) (N := 0) (q9 := (RX3, TX3, 0)) dX3_agreesWith_73 ml_X3_21 J_X3_sizeFrom (Nat.zero_le _) (Nat.zero_le _) (Nat.le_of_ble_eq_true rfl) rfl (Nat.le_of_ble_eq_true rfl) (List.forall_mem_cons.mpr ⟨rfl, List.forall_mem_cons.mpr ⟨rfl, List.forall_mem_cons.mpr ⟨rfl, fun _ h9 => absurd h9 List.not_mem_nil⟩⟩⟩) (Nat.le_of_ble_eq_true rfl) rfl rfl rfl rfl pn_X3_sizeFrom rfl k
theorem S_X3_agreesWith_76 {kc ks : Nat} {h : Hh} {Q : PQ} {X : PX} {a1 : Nat} (t1 : isT a1) {x3 : Int} {x4 : Int} {xs0 : Int} {xs1 : Int}
    (k : ((-2147483648 ≤ ((xs1 + xs0) : Int) ∧ ((xs1 + xs0) : Int) < 2147483648) ∧ (-2147483648 ≤ ((x4 + 1) : Int) ∧ ((x4 + 1) : Int) < 2147483648)) ∧ am_V M_X3_agreesWith kc ks 10 [aR 29, aR a1, aI (xs1 + xs0), aI x3, aI (x4 + 1), aU] [] (RM WM wd) h Q X) :
    am_V M_X3_agreesWith kc ks 76 [aR 29, aR a1, aU, aI x3, aI x4, aU] [aI xs0, aI xs1] (RM WM wd) h Q X := by
  obtain ⟨⟨b0_1, b0_2⟩, k⟩ := k
  refine v_iadd dX3_agreesWith_76 b0_1 ?_
  refine v_istore_n (E2 := [aR 29, aR a1, aI (xs1 + xs0), aI x3, aI x4, aU]) dX3_agreesWith_77 rfl (Nat.le_of_ble_eq_true rfl) rfl ?_
  refine v_iinc (E2 := [aR 29, aR a1, aI (xs1 + xs0), aI x3, aI (x4 + 1), aU]) dX3_agreesWith_78 rfl b0_2 rfl ?_
  refine v_goto (tgt := 10) dX3_agreesWith_81 (by decide) ?_
  exact k
theorem S_X4_allSquares_0 {kc ks : Nat} {h : Hh} {Q : PQ} {X : PX} {a0 : Nat} (t0 : isT a0)
    (k : am_V M_X4_allSquares kc ks 4 [aR a0, aI 0, aI 1, aU, aU] [] (RM WM wd) h Q X) :
    am_V M_X4_allSquares kc ks 0 [aR a0, aU, aU, aU, aU] [] (RM WM wd) h Q X := by
  refine v_iconst dX4_allSquares_0 ⟨by decide, by decide⟩ ?_
  refine v_istore_n (E2 := [aR a0, aI 0, aU, aU, aU]) dX4_allSquares_1 rfl (Nat.le_of_ble_eq_true rfl) rfl ?_
  refine v_iconst dX4_allSquares_2 ⟨by decide, by decide⟩ ?_
  refine v_istore_n (E2 := [aR a0, aI 0, aI 1, aU, aU]) dX4_allSquares_3 rfl (Nat.le_of_ble_eq_true rfl) rfl ?_
  exact k
theorem S_X4_allSquares_4 {kc ks : Nat} {h : Hh} {Q : PQ} {X : PX} {a0 : Nat} (t0 : isT a0) {x1 : Int} {x2 : Int}
    (k : ((-2147483648 ≤ ((2 * x2) : Int) ∧ ((2 * x2) : Int) < 2147483648)) ∧ (((h a0 4) < (2 * x2) → Q [aI x1] (RM WM wd) h) ∧ ((2 * x2) ≤ (h a0 4) → ((-2147483648 ≤ (((h a0 4) - x2) : Int) ∧ (((h a0 4) - x2) : Int) < 2147483648) ∧ (-2147483648 ≤ ((((h a0 4) - x2) - 1) : Int) ∧ ((((h a0 4) - x2) - 1) : Int) < 2147483648)) ∧ am_V M_X4_allSquares kc ks 26 [aR a0, aI x1, aI x2, aI 0, aI (((h a0 4) - x2) - 1)] [] (RM WM wd) h Q X))) :
    am_V M_X4_allSquares kc ks 4 [aR a0, aI x1, aI x2, aU, aU] [] (RM WM wd) h Q X := by
  obtain ⟨b0_1, k⟩ := k
  refine v_iconst dX4_allSquares_4 ⟨by decide, by decide⟩ ?_
  refine v_iload_n dX4_allSquares_5 rfl rfl ?_
  refine v_imul dX4_allSquares_6 b0_1 ?_
  refine v_aload_n dX4_allSquares_7 rfl rfl ?_
  refine v_getI (j := 4) dX4_allSquares_8 fl_X4_7 am_clsA rfl rfl (tk0 t0) ?_
  refine v_icmp_gt (tgt := 78) dX4_allSquares_11 (by decide) (fun z => ?_) (fun z => ?_)
  · have k := k.1 z
    refine v_iload_n dX4_allSquares_78 rfl rfl ?_
    exact v_iret dX4_allSquares_79 rfl rfl k
  · have k := k.2 z
    obtain ⟨⟨b1_1, b1_2⟩, k⟩ := k
    refine v_iconst dX4_allSquares_14 ⟨by decide, by decide⟩ ?_
    refine v_istore_n (E2 := [aR a0, aI x1, aI x2, aI 0, aU]) dX4_allSquares_15 rfl (Nat.le_of_ble_eq_true rfl) rfl ?_
    refine v_aload_n dX4_allSquares_16 rfl rfl ?_
    refine v_getI (j := 4) dX4_allSquares_17 fl_X4_7 am_clsA rfl rfl (tk0 t0) ?_
    refine v_iload_n dX4_allSquares_20 rfl rfl ?_
    refine v_isub dX4_allSquares_21 b1_1 ?_
    refine v_iconst dX4_allSquares_22 ⟨by decide, by decide⟩ ?_
    refine v_isub dX4_allSquares_23 b1_2 ?_
    refine v_istore (E2 := [aR a0, aI x1, aI x2, aI 0, aI (((h a0 4) - x2) - 1)]) dX4_allSquares_24 (Nat.le_of_ble_eq_true rfl) rfl ?_
    exact k
theorem S_X4_allSquares_26 {kc ks : Nat} {h : Hh} {Q : PQ} {X : PX} {a0 : Nat} (t0 : isT a0) {x1 : Int} {x2 : Int} {x3 : Int} {x4 : Int}
    (k : ((x4 < 0 → ((-2147483648 ≤ ((x2 + 1) : Int) ∧ ((x2 + 1) : Int) < 2147483648)) ∧ am_V M_X4_allSquares kc ks 4 [aR a0, aI x1, aI (x2 + 1), aU, aU] [] (RM WM wd) h Q X) ∧ (0 ≤ x4 → ((0 : Int) ≤ x4 ∧ (x4 : Int) < 64 ∧ (-2147483648 ≤ ((x4 + x2) : Int) ∧ ((x4 + x2) : Int) < 2147483648) ∧ (0 : Int) ≤ (x4 + x2) ∧ ((x4 + x2) : Int) < 64) ∧ (((h (a0 + 1) x4) ≠ (h (a0 + 1) (x4 + x2)) → ((0 < x2 → ((-2147483648 ≤ ((x4 + (-1)) : Int) ∧ ((x4 + (-1)) : Int) < 2147483648)) ∧ am_V M_X4_allSquares kc ks 26 [aR a0, aI x1, aI x2, aI 0, aI (x4 + (-1))] [] (RM WM wd) h Q X) ∧ (x2 ≤ 0 → ((-2147483648 ≤ ((x1 + 1) : Int) ∧ ((x1 + 1) : Int) < 2147483648) ∧ (-2147483648 ≤ ((x4 + (-1)) : Int) ∧ ((x4 + (-1)) : Int) < 2147483648)) ∧ am_V M_X4_allSquares kc ks 26 [aR a0, aI (x1 + 1), aI x2, aI 0, aI (x4 + (-1))] [] (RM WM wd) h Q X))) ∧ ((h (a0 + 1) x4) = (h (a0 + 1) (x4 + x2)) → ((-2147483648 ≤ ((x3 + 1) : Int) ∧ ((x3 + 1) : Int) < 2147483648)) ∧ (((x3 + 1) < x2 → ((-2147483648 ≤ ((x4 + (-1)) : Int) ∧ ((x4 + (-1)) : Int) < 2147483648)) ∧ am_V M_X4_allSquares kc ks 26 [aR a0, aI x1, aI x2, aI (x3 + 1), aI (x4 + (-1))] [] (RM WM wd) h Q X) ∧ (x2 ≤ (x3 + 1) → ((-2147483648 ≤ ((x1 + 1) : Int) ∧ ((x1 + 1) : Int) < 2147483648) ∧ (-2147483648 ≤ ((x4 + (-1)) : Int) ∧ ((x4 + (-1)) : Int) < 2147483648)) ∧ am_V M_X4_allSquares kc ks 26 [aR a0, aI (x1 + 1), aI x2, aI (x3 + 1), aI (x4 + (-1))] [] (RM WM wd) h Q X))))))) :
    am_V M_X4_allSquares kc ks 26 [aR a0, aI x1, aI x2, aI x3, aI x4] [] (RM WM wd) h Q X := by
  refine v_iload dX4_allSquares_26 rfl ?_
  refine v_if_lt (tgt := 72) dX4_allSquares_28 (by decide) (fun z => ?_) (fun z => ?_)
  · have k := k.1 z
    obtain ⟨b1_1, k⟩ := k
    refine v_iinc (E2 := [aR a0, aI x1, aI (x2 + 1), aI x3, aI x4]) dX4_allSquares_72 rfl b1_1 rfl ?_
    refine v_goto (tgt := 4) dX4_allSquares_75 (by decide) ?_
    refine v_weak (E2 := [aR a0, aI x1, aI (x2 + 1), aU, aU]) ⟨Or.inl rfl, ⟨Or.inl rfl, ⟨Or.inl rfl, ⟨Or.inr rfl, ⟨Or.inr rfl, trivial⟩⟩⟩⟩⟩ ?_
    exact k
  · have k := k.2 z
    obtain ⟨⟨b1_1, b1_2, b1_3, b1_4, b1_5⟩, k⟩ := k
    refine v_aload_n dX4_allSquares_31 rfl rfl ?_
    refine v_getR (x := (a0 + 1)) dX4_allSquares_32 fl_X4_13 am_clsA rfl (tk0 t0) (tr0 t0) ?_
    refine v_iload dX4_allSquares_35 rfl ?_
    refine v_cald dX4_allSquares_37 (tk1 t0) b1_1 b1_2 ?_
    refine v_aload_n dX4_allSquares_38 rfl rfl ?_
    refine v_getR (x := (a0 + 1)) dX4_allSquares_39 fl_X4_13 am_clsA rfl (tk0 t0) (tr0 t0) ?_
    refine v_iload dX4_allSquares_42 rfl ?_
    refine v_iload_n dX4_allSquares_44 rfl rfl ?_
    refine v_iadd dX4_allSquares_45 b1_3 ?_
    refine v_cald dX4_allSquares_46 (tk1 t0) b1_4 b1_5 ?_
    refine v_icmp_ne (tgt := 56) dX4_allSquares_47 (by decide) (fun z => ?_) (fun z => ?_)
    · have k := k.1 z
      refine v_iconst dX4_allSquares_56 ⟨by decide, by decide⟩ ?_
      refine v_istore_n (E2 := [aR a0, aI x1, aI x2, aI 0, aI x4]) dX4_allSquares_57 rfl (Nat.le_of_ble_eq_true rfl) rfl ?_
      refine v_iload_n dX4_allSquares_58 rfl rfl ?_
      refine v_iload_n dX4_allSquares_59 rfl rfl ?_
      refine v_icmp_lt (tgt := 66) dX4_allSquares_60 (by decide) (fun z => ?_) (fun z => ?_)
      · have k := k.1 z
        obtain ⟨b3_1, k⟩ := k
        refine v_iinc (E2 := [aR a0, aI x1, aI x2, aI 0, aI (x4 + (-1))]) dX4_allSquares_66 rfl b3_1 rfl ?_
        refine v_goto (tgt := 26) dX4_allSquares_69 (by decide) ?_
        exact k
      · have k := k.2 z
        obtain ⟨⟨b3_1, b3_2⟩, k⟩ := k
        refine v_iinc (E2 := [aR a0, aI (x1 + 1), aI x2, aI 0, aI x4]) dX4_allSquares_63 rfl b3_1 rfl ?_
        refine v_iinc (E2 := [aR a0, aI (x1 + 1), aI x2, aI 0, aI (x4 + (-1))]) dX4_allSquares_66 rfl b3_2 rfl ?_
        refine v_goto (tgt := 26) dX4_allSquares_69 (by decide) ?_
        exact k
    · have k := k.2 z
      obtain ⟨b2_1, k⟩ := k
      refine v_iload_n dX4_allSquares_50 rfl rfl ?_
      refine v_iconst dX4_allSquares_51 ⟨by decide, by decide⟩ ?_
      refine v_iadd dX4_allSquares_52 b2_1 ?_
      refine v_goto (tgt := 57) dX4_allSquares_53 (by decide) ?_
      refine v_istore_n (E2 := [aR a0, aI x1, aI x2, aI (x3 + 1), aI x4]) dX4_allSquares_57 rfl (Nat.le_of_ble_eq_true rfl) rfl ?_
      refine v_iload_n dX4_allSquares_58 rfl rfl ?_
      refine v_iload_n dX4_allSquares_59 rfl rfl ?_
      refine v_icmp_lt (tgt := 66) dX4_allSquares_60 (by decide) (fun z => ?_) (fun z => ?_)
      · have k := k.1 z
        obtain ⟨b3_1, k⟩ := k
        refine v_iinc (E2 := [aR a0, aI x1, aI x2, aI (x3 + 1), aI (x4 + (-1))]) dX4_allSquares_66 rfl b3_1 rfl ?_
        refine v_goto (tgt := 26) dX4_allSquares_69 (by decide) ?_
        exact k
      · have k := k.2 z
        obtain ⟨⟨b3_1, b3_2⟩, k⟩ := k
        refine v_iinc (E2 := [aR a0, aI (x1 + 1), aI x2, aI (x3 + 1), aI x4]) dX4_allSquares_63 rfl b3_1 rfl ?_
        refine v_iinc (E2 := [aR a0, aI (x1 + 1), aI x2, aI (x3 + 1), aI (x4 + (-1))]) dX4_allSquares_66 rfl b3_2 rfl ?_
        refine v_goto (tgt := 26) dX4_allSquares_69 (by decide) ?_
        exact k
theorem S_X4_leastPeriod_0 {kc ks : Nat} {h : Hh} {Q : PQ} {X : PX} {a0 : Nat} (t0 : isT a0)
    (k : am_V M_X4_leastPeriod kc ks 2 [aR a0, aI 1] [] (RM WM wd) h Q X) :
    am_V M_X4_leastPeriod kc ks 0 [aR a0, aU] [] (RM WM wd) h Q X := by
  refine v_iconst dX4_leastPeriod_0 ⟨by decide, by decide⟩ ?_
  refine v_istore_n (E2 := [aR a0, aI 1]) dX4_leastPeriod_1 rfl (Nat.le_of_ble_eq_true rfl) rfl ?_
  exact k
theorem S_X4_leastPeriod_2 {kc ks : Nat} {h : Hh} {Q : PQ} {X : PX} {a0 : Nat} (t0 : isT a0) {x1 : Int}
    (k : (((h a0 4) ≤ x1 → Q [aI (h a0 4)] (RM WM wd) h) ∧ (x1 < (h a0 4) → am_V M_X6_likeSigns 0 0 0 [aR a0, aI x1, aR a0, aI 0, aU, aU] [] (RM WM wd) h (fun v ρ' h' => am_V M_X4_leastPeriod kc ks 17 [aR a0, aI x1] (v ++ []) ρ' h' Q X) X))) :
    am_V M_X4_leastPeriod kc ks 2 [aR a0, aI x1] [] (RM WM wd) h Q X := by
  refine v_iload_n dX4_leastPeriod_2 rfl rfl ?_
  refine v_aload_n dX4_leastPeriod_3 rfl rfl ?_
  refine v_getI (j := 4) dX4_leastPeriod_4 fl_X4_7 am_clsA rfl rfl (tk0 t0) ?_
  refine v_icmp_ge (tgt := 34) dX4_leastPeriod_7 (by decide) (fun z => ?_) (fun z => ?_)
  · have k := k.1 z
    refine v_aload_n dX4_leastPeriod_34 rfl rfl ?_
    refine v_getI (j := 4) dX4_leastPeriod_35 fl_X4_7 am_clsA rfl rfl (tk0 t0) ?_
    exact v_iret dX4_leastPeriod_38 rfl rfl k
  · have k := k.2 z
    refine v_aload_n dX4_leastPeriod_10 rfl rfl ?_
    refine v_iload_n dX4_leastPeriod_11 rfl rfl ?_
    refine v_aload_n dX4_leastPeriod_12 rfl rfl ?_
    refine v_iconst dX4_leastPeriod_13 ⟨by decide, by decide⟩ ?_
    exact v_callV (j := M_X6_likeSigns) (As := [aI x1, aR a0, aI 0]) (st := []) (E0 := [aR a0, aI x1, aR a0, aI 0, aU, aU]) (a := a0) (ci := 4) (N := 5) (q9 := (RX6, TX6, 5)) dX4_leastPeriod_14 ml_X4_17 J_X6_likeSigns (Nat.zero_le _) (Nat.zero_le _) (Nat.le_of_ble_eq_true rfl) rfl (Nat.le_of_ble_eq_true rfl) (List.forall_mem_cons.mpr ⟨rfl, List.forall_mem_cons.mpr ⟨rfl, List.forall_mem_cons.mpr ⟨rfl, List.forall_mem_cons.mpr ⟨rfl, fun _ h9 => absurd h9 List.not_mem_nil⟩⟩⟩⟩) (Nat.le_of_ble_eq_true rfl) rfl (tk0 t0) rfl rfl pn_X6_likeSigns rfl k
theorem S_X4_leastPeriod_17 {kc ks : Nat} {h : Hh} {Q : PQ} {X : PX} {a0 : Nat} (t0 : isT a0) {x1 : Int} {xs0 : Int}
    (k : ((-2147483648 ≤ (((h a0 4) - x1) : Int) ∧ (((h a0 4) - x1) : Int) < 2147483648)) ∧ ((xs0 ≠ ((h a0 4) - x1) → ((-2147483648 ≤ ((x1 + 1) : Int) ∧ ((x1 + 1) : Int) < 2147483648)) ∧ am_V M_X4_leastPeriod kc ks 2 [aR a0, aI (x1 + 1)] [] (RM WM wd) h Q X) ∧ (xs0 = ((h a0 4) - x1) → Q [aI x1] (RM WM wd) h))) :
    am_V M_X4_leastPeriod kc ks 17 [aR a0, aI x1] [aI xs0] (RM WM wd) h Q X := by
  obtain ⟨b0_1, k⟩ := k
  refine v_aload_n dX4_leastPeriod_17 rfl rfl ?_
  refine v_getI (j := 4) dX4_leastPeriod_18 fl_X4_7 am_clsA rfl rfl (tk0 t0) ?_
  refine v_iload_n dX4_leastPeriod_21 rfl rfl ?_
  refine v_isub dX4_leastPeriod_22 b0_1 ?_
  refine v_icmp_ne (tgt := 28) dX4_leastPeriod_23 (by decide) (fun z => ?_) (fun z => ?_)
  · have k := k.1 z
    obtain ⟨b1_1, k⟩ := k
    refine v_iinc (E2 := [aR a0, aI (x1 + 1)]) dX4_leastPeriod_28 rfl b1_1 rfl ?_
    refine v_goto (tgt := 2) dX4_leastPeriod_31 (by decide) ?_
    exact k
  · have k := k.2 z
    refine v_iload_n dX4_leastPeriod_26 rfl rfl ?_
    exact v_iret dX4_leastPeriod_27 rfl rfl k
