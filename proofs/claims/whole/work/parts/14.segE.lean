theorem S_X11_isWrong_0 {kc ks : Nat} {h : Hh} {Q : PQ} {X : PX} {x1 : Int}
    (k : ((x1 = 0 → Q [aI 0] am_R0 (am_st h 72 10 x1)) ∧ (x1 ≠ 0 → Q [aI 1] am_R0 (am_st h 72 10 x1)))) :
    am_V M_X11_isWrong kc ks 0 [aR 72, aI x1] [] am_R0 h Q X := by
  refine v_aload_n dX11_isWrong_0 rfl rfl ?_
  refine v_iload_n dX11_isWrong_1 rfl rfl ?_
  refine v_putI (j := 10) dX11_isWrong_2 pl_X11_35 am_clsA rfl rfl rfl ?_
  refine v_iload_n dX11_isWrong_5 rfl rfl ?_
  refine v_if_eq (tgt := 13) dX11_isWrong_6 (by decide) (fun z => ?_) (fun z => ?_)
  · have k := k.1 z
    refine v_iconst dX11_isWrong_13 ⟨by decide, by decide⟩ ?_
    exact v_zret dX11_isWrong_14 rfl rfl (Or.inl rfl) k
  · have k := k.2 z
    refine v_iconst dX11_isWrong_9 ⟨by decide, by decide⟩ ?_
    refine v_goto (tgt := 14) dX11_isWrong_10 (by decide) ?_
    exact v_zret dX11_isWrong_14 rfl rfl (Or.inr rfl) k
theorem S_X11_isBetween_0 {kc ks : Nat} {h : Hh} {Q : PQ} {X : PX} {x0 : Int} {x1 : Int} {x2 : Int}
    (k : ((x0 < x1 → Q [aI 0] am_R0 h) ∧ (x1 ≤ x0 → ((x2 < x0 → Q [aI 0] am_R0 h) ∧ (x0 ≤ x2 → Q [aI 1] am_R0 h))))) :
    am_V M_X11_isBetween kc ks 0 [aI x0, aI x1, aI x2] [] am_R0 h Q X := by
  refine v_iload_n dX11_isBetween_0 rfl rfl ?_
  refine v_iload_n dX11_isBetween_1 rfl rfl ?_
  refine v_icmp_lt (tgt := 14) dX11_isBetween_2 (by decide) (fun z => ?_) (fun z => ?_)
  · have k := k.1 z
    refine v_iconst dX11_isBetween_14 ⟨by decide, by decide⟩ ?_
    exact v_zret dX11_isBetween_15 rfl rfl (Or.inl rfl) k
  · have k := k.2 z
    refine v_iload_n dX11_isBetween_5 rfl rfl ?_
    refine v_iload_n dX11_isBetween_6 rfl rfl ?_
    refine v_icmp_gt (tgt := 14) dX11_isBetween_7 (by decide) (fun z => ?_) (fun z => ?_)
    · have k := k.1 z
      refine v_iconst dX11_isBetween_14 ⟨by decide, by decide⟩ ?_
      exact v_zret dX11_isBetween_15 rfl rfl (Or.inl rfl) k
    · have k := k.2 z
      refine v_iconst dX11_isBetween_10 ⟨by decide, by decide⟩ ?_
      refine v_goto (tgt := 15) dX11_isBetween_11 (by decide) ?_
      exact v_zret dX11_isBetween_15 rfl rfl (Or.inr rfl) k
theorem S_X11_isText_0 {kc ks : Nat} {h : Hh} {Q : PQ} {X : PX} {x1 : Int}
    (k : ((-2147483648 ≤ (((h 72 8) - 1) : Int) ∧ (((h 72 8) - 1) : Int) < 2147483648)) ∧ am_V M_X11_isBetween 0 0 0 [aI x1, aI 0, aI ((h 72 8) - 1)] [] am_R0 h (fun v ρ' h' => am_V M_X11_isText kc ks 11 [aU, aU] (v ++ []) ρ' h' Q X) X) :
    am_V M_X11_isText kc ks 0 [aR 72, aI x1] [] am_R0 h Q X := by
  obtain ⟨b0_1, k⟩ := k
  refine v_iload_n dX11_isText_0 rfl rfl ?_
  refine v_iconst dX11_isText_1 ⟨by decide, by decide⟩ ?_
  refine v_aload_n dX11_isText_2 rfl rfl ?_
  refine v_getI (j := 8) dX11_isText_3 fl_X11_39 am_clsA rfl rfl rfl ?_
  refine v_iconst dX11_isText_6 ⟨by decide, by decide⟩ ?_
  refine v_isub dX11_isText_7 b0_1 ?_
  refine v_weak (E2 := [aU, aU]) ⟨Or.inr rfl, ⟨Or.inr rfl, trivial⟩⟩ ?_
  exact v_callS (j := M_X11_isBetween) (As := [aI x1, aI 0, aI ((h 72 8) - 1)]) (st := []) (E0 := [aI x1, aI 0, aI ((h 72 8) - 1)]) dX11_isText_8 ms_X11_42 J_X11_isBetween (Nat.zero_le _) (Nat.zero_le _) (Nat.le_of_ble_eq_true rfl) rfl (Nat.le_of_ble_eq_true rfl) (List.forall_mem_cons.mpr ⟨rfl, List.forall_mem_cons.mpr ⟨rfl, List.forall_mem_cons.mpr ⟨rfl, fun _ h9 => absurd h9 List.not_mem_nil⟩⟩⟩) (Nat.le_of_ble_eq_true rfl) rfl pn_X11_isBetween rfl k
theorem S_X11_isText_11 {kc ks : Nat} {h : Hh} {Q : PQ} {X : PX} {xs0 : Int}
    (k : ((xs0 = 0 ∨ xs0 = 1)) ∧ Q [aI xs0] am_R0 h) :
    am_V M_X11_isText kc ks 11 [aU, aU] [aI xs0] am_R0 h Q X := by
  obtain ⟨b0_1, k⟩ := k
  exact v_zret dX11_isText_11 rfl rfl b0_1 k
theorem S_X11_isPlace_0 {kc ks : Nat} {h : Hh} {Q : PQ} {X : PX} {x1 : Int} {x2 : Int}
    (k : am_V M_X11_isText 0 0 0 [aR 72, aI x1] [] am_R0 h (fun v ρ' h' => am_V M_X11_isPlace kc ks 5 [aR 72, aI x1, aI x2] (v ++ []) ρ' h' Q X) X) :
    am_V M_X11_isPlace kc ks 0 [aR 72, aI x1, aI x2] [] am_R0 h Q X := by
  refine v_aload_n dX11_isPlace_0 rfl rfl ?_
  refine v_iload_n dX11_isPlace_1 rfl rfl ?_
  exact v_callV (j := M_X11_isText) (As := [aI x1]) (st := []) (E0 := [aR 72, aI x1]) (a := 72) (ci := 9) (N := 11) (q9 := (RX11, TX11, 11)) dX11_isPlace_2 ml_X11_46 J_X11_isText (Nat.zero_le _) (Nat.zero_le _) (Nat.le_of_ble_eq_true rfl) rfl (Nat.le_of_ble_eq_true rfl) (List.forall_mem_cons.mpr ⟨rfl, List.forall_mem_cons.mpr ⟨rfl, fun _ h9 => absurd h9 List.not_mem_nil⟩⟩) (Nat.le_of_ble_eq_true rfl) rfl rfl rfl rfl pn_X11_isText rfl k
theorem S_X11_isPlace_5 {kc ks : Nat} {h : Hh} {Q : PQ} {X : PX} {x1 : Int} {x2 : Int} {xs0 : Int}
    (k : ((xs0 = 0 → Q [aI 0] am_R0 h) ∧ (xs0 ≠ 0 → ((0 : Int) ≤ x1 ∧ (x1 : Int) < 9 ∧ (-2147483648 ≤ (((h 74 x1) - 1) : Int) ∧ (((h 74 x1) - 1) : Int) < 2147483648)) ∧ am_V M_X11_isBetween 0 0 0 [aI x2, aI 0, aI ((h 74 x1) - 1)] [] am_R0 h (fun v ρ' h' => am_V M_X11_isPlace kc ks 21 [aU, aU, aU] (v ++ []) ρ' h' Q X) X))) :
    am_V M_X11_isPlace kc ks 5 [aR 72, aI x1, aI x2] [aI xs0] am_R0 h Q X := by
  refine v_if_eq (tgt := 28) dX11_isPlace_5 (by decide) (fun z => ?_) (fun z => ?_)
  · have k := k.1 z
    refine v_iconst dX11_isPlace_28 ⟨by decide, by decide⟩ ?_
    exact v_zret dX11_isPlace_29 rfl rfl (Or.inl rfl) k
  · have k := k.2 z
    obtain ⟨⟨b1_1, b1_2, b1_3⟩, k⟩ := k
    refine v_iload_n dX11_isPlace_8 rfl rfl ?_
    refine v_iconst dX11_isPlace_9 ⟨by decide, by decide⟩ ?_
    refine v_aload_n dX11_isPlace_10 rfl rfl ?_
    refine v_getR (x := 74) dX11_isPlace_11 fl_X11_13 am_clsA rfl rfl rfl ?_
    refine v_iload_n dX11_isPlace_14 rfl rfl ?_
    refine v_iald dX11_isPlace_15 rfl b1_1 b1_2 ?_
    refine v_iconst dX11_isPlace_16 ⟨by decide, by decide⟩ ?_
    refine v_isub dX11_isPlace_17 b1_3 ?_
    refine v_weak (E2 := [aU, aU, aU]) ⟨Or.inr rfl, ⟨Or.inr rfl, ⟨Or.inr rfl, trivial⟩⟩⟩ ?_
    exact v_callS (j := M_X11_isBetween) (As := [aI x2, aI 0, aI ((h 74 x1) - 1)]) (st := []) (E0 := [aI x2, aI 0, aI ((h 74 x1) - 1)]) dX11_isPlace_18 ms_X11_42 J_X11_isBetween (Nat.zero_le _) (Nat.zero_le _) (Nat.le_of_ble_eq_true rfl) rfl (Nat.le_of_ble_eq_true rfl) (List.forall_mem_cons.mpr ⟨rfl, List.forall_mem_cons.mpr ⟨rfl, List.forall_mem_cons.mpr ⟨rfl, fun _ h9 => absurd h9 List.not_mem_nil⟩⟩⟩) (Nat.le_of_ble_eq_true rfl) rfl pn_X11_isBetween rfl k
theorem S_X11_isPlace_21 {kc ks : Nat} {h : Hh} {Q : PQ} {X : PX} {xs0 : Int}
    (k : ((xs0 = 0 → Q [aI 0] am_R0 h) ∧ (xs0 ≠ 0 → Q [aI 1] am_R0 h))) :
    am_V M_X11_isPlace kc ks 21 [aU, aU, aU] [aI xs0] am_R0 h Q X := by
  refine v_if_eq (tgt := 28) dX11_isPlace_21 (by decide) (fun z => ?_) (fun z => ?_)
  · have k := k.1 z
    refine v_iconst dX11_isPlace_28 ⟨by decide, by decide⟩ ?_
    exact v_zret dX11_isPlace_29 rfl rfl (Or.inl rfl) k
  · have k := k.2 z
    refine v_iconst dX11_isPlace_24 ⟨by decide, by decide⟩ ?_
    refine v_goto (tgt := 29) dX11_isPlace_25 (by decide) ?_
    exact v_zret dX11_isPlace_29 rfl rfl (Or.inr rfl) k
theorem S_X11_isLetter_0 {kc ks : Nat} {h : Hh} {Q : PQ} {X : PX} {x0 : Int}
    (k : ((x0 < 97 → Q [aI 0] am_R0 h) ∧ (97 ≤ x0 → ((122 < x0 → Q [aI 0] am_R0 h) ∧ (x0 ≤ 122 → Q [aI 1] am_R0 h))))) :
    am_V M_X11_isLetter kc ks 0 [aI x0] [] am_R0 h Q X := by
  refine v_iload_n dX11_isLetter_0 rfl rfl ?_
  refine v_bipush dX11_isLetter_1 (by decide) (by decide) ?_
  refine v_icmp_lt (tgt := 16) dX11_isLetter_3 (by decide) (fun z => ?_) (fun z => ?_)
  · have k := k.1 z
    refine v_iconst dX11_isLetter_16 ⟨by decide, by decide⟩ ?_
    exact v_zret dX11_isLetter_17 rfl rfl (Or.inl rfl) k
  · have k := k.2 z
    refine v_iload_n dX11_isLetter_6 rfl rfl ?_
    refine v_bipush dX11_isLetter_7 (by decide) (by decide) ?_
    refine v_icmp_gt (tgt := 16) dX11_isLetter_9 (by decide) (fun z => ?_) (fun z => ?_)
    · have k := k.1 z
      refine v_iconst dX11_isLetter_16 ⟨by decide, by decide⟩ ?_
      exact v_zret dX11_isLetter_17 rfl rfl (Or.inl rfl) k
    · have k := k.2 z
      refine v_iconst dX11_isLetter_12 ⟨by decide, by decide⟩ ?_
      refine v_goto (tgt := 17) dX11_isLetter_13 (by decide) ?_
      exact v_zret dX11_isLetter_17 rfl rfl (Or.inr rfl) k
theorem S_X11_hasEnd_0 {kc ks : Nat} {h : Hh} {Q : PQ} {X : PX} 
    (k : am_V M_X11_hasEnd kc ks 2 [aR 72, aI 0] [] am_R0 h Q X) :
    am_V M_X11_hasEnd kc ks 0 [aR 72, aU] [] am_R0 h Q X := by
  refine v_iconst dX11_hasEnd_0 ⟨by decide, by decide⟩ ?_
  refine v_istore_n (E2 := [aR 72, aI 0]) dX11_hasEnd_1 rfl (Nat.le_of_ble_eq_true rfl) rfl ?_
  exact k
theorem S_X11_hasEnd_2 {kc ks : Nat} {h : Hh} {Q : PQ} {X : PX} {x1 : Int}
    (k : (((h 72 9) ≤ x1 → Q [aI 0] am_R0 h) ∧ (x1 < (h 72 9) → ((0 : Int) ≤ x1 ∧ (x1 : Int) < 65) ∧ (((h 75 x1) ≠ 36 → ((-2147483648 ≤ ((x1 + 1) : Int) ∧ ((x1 + 1) : Int) < 2147483648)) ∧ am_V M_X11_hasEnd kc ks 2 [aR 72, aI (x1 + 1)] [] am_R0 h Q X) ∧ ((h 75 x1) = 36 → Q [aI 1] am_R0 h))))) :
    am_V M_X11_hasEnd kc ks 2 [aR 72, aI x1] [] am_R0 h Q X := by
  refine v_iload_n dX11_hasEnd_2 rfl rfl ?_
  refine v_aload_n dX11_hasEnd_3 rfl rfl ?_
  refine v_getI (j := 9) dX11_hasEnd_4 fl_X11_54 am_clsA rfl rfl rfl ?_
  refine v_icmp_ge (tgt := 29) dX11_hasEnd_7 (by decide) (fun z => ?_) (fun z => ?_)
  · have k := k.1 z
    refine v_iconst dX11_hasEnd_29 ⟨by decide, by decide⟩ ?_
    exact v_zret dX11_hasEnd_30 rfl rfl (Or.inl rfl) k
  · have k := k.2 z
    obtain ⟨⟨b1_1, b1_2⟩, k⟩ := k
    refine v_aload_n dX11_hasEnd_10 rfl rfl ?_
    refine v_getR (x := 75) dX11_hasEnd_11 fl_X11_17 am_clsA rfl rfl rfl ?_
    refine v_iload_n dX11_hasEnd_14 rfl rfl ?_
    refine v_cald dX11_hasEnd_15 rfl b1_1 b1_2 ?_
    refine v_bipush dX11_hasEnd_16 (by decide) (by decide) ?_
    refine v_icmp_ne (tgt := 23) dX11_hasEnd_18 (by decide) (fun z => ?_) (fun z => ?_)
    · have k := k.1 z
      obtain ⟨b2_1, k⟩ := k
      refine v_iinc (E2 := [aR 72, aI (x1 + 1)]) dX11_hasEnd_23 rfl b2_1 rfl ?_
      refine v_goto (tgt := 2) dX11_hasEnd_26 (by decide) ?_
      exact k
    · have k := k.2 z
      refine v_iconst dX11_hasEnd_21 ⟨by decide, by decide⟩ ?_
      exact v_zret dX11_hasEnd_22 rfl rfl (Or.inr rfl) k
theorem S_X11_isNone_0 {kc ks : Nat} {h : Hh} {Q : PQ} {X : PX} {x1 : Int}
    (k : am_V M_X11_isText 0 0 0 [aR 72, aI x1] [] am_R0 h (fun v ρ' h' => am_V M_X11_isNone kc ks 6 [aU, aU] (v ++ [aR 72]) ρ' h' Q X) X) :
    am_V M_X11_isNone kc ks 0 [aR 72, aI x1] [] am_R0 h Q X := by
  refine v_aload_n dX11_isNone_0 rfl rfl ?_
  refine v_aload_n dX11_isNone_1 rfl rfl ?_
  refine v_iload_n dX11_isNone_2 rfl rfl ?_
  refine v_weak (E2 := [aU, aU]) ⟨Or.inr rfl, ⟨Or.inr rfl, trivial⟩⟩ ?_
  exact v_callV (j := M_X11_isText) (As := [aI x1]) (st := [aR 72]) (E0 := [aR 72, aI x1]) (a := 72) (ci := 9) (N := 11) (q9 := (RX11, TX11, 11)) dX11_isNone_3 ml_X11_46 J_X11_isText (Nat.zero_le _) (Nat.zero_le _) (Nat.le_of_ble_eq_true rfl) rfl (Nat.le_of_ble_eq_true rfl) (List.forall_mem_cons.mpr ⟨rfl, List.forall_mem_cons.mpr ⟨rfl, fun _ h9 => absurd h9 List.not_mem_nil⟩⟩) (Nat.le_of_ble_eq_true rfl) rfl rfl rfl rfl pn_X11_isText rfl k
theorem S_X11_isNone_6 {kc ks : Nat} {h : Hh} {Q : PQ} {X : PX} {xs0 : Int}
    (k : ((xs0 = 0 → am_V M_X11_isWrong 0 0 0 [aR 72, aI 1] [] am_R0 h (fun v ρ' h' => am_V M_X11_isNone kc ks 17 [aU, aU] (v ++ []) ρ' h' Q X) X) ∧ (xs0 ≠ 0 → am_V M_X11_isWrong 0 0 0 [aR 72, aI 0] [] am_R0 h (fun v ρ' h' => am_V M_X11_isNone kc ks 17 [aU, aU] (v ++ []) ρ' h' Q X) X))) :
    am_V M_X11_isNone kc ks 6 [aU, aU] [aI xs0, aR 72] am_R0 h Q X := by
  refine v_if_eq (tgt := 13) dX11_isNone_6 (by decide) (fun z => ?_) (fun z => ?_)
  · have k := k.1 z
    refine v_iconst dX11_isNone_13 ⟨by decide, by decide⟩ ?_
    exact v_callV (j := M_X11_isWrong) (As := [aI 1]) (st := []) (E0 := [aR 72, aI 1]) (a := 72) (ci := 9) (N := 11) (q9 := (RX11, TX11, 11)) dX11_isNone_14 ml_X11_57 J_X11_isWrong (Nat.zero_le _) (Nat.zero_le _) (Nat.le_of_ble_eq_true rfl) rfl (Nat.le_of_ble_eq_true rfl) (List.forall_mem_cons.mpr ⟨rfl, List.forall_mem_cons.mpr ⟨rfl, fun _ h9 => absurd h9 List.not_mem_nil⟩⟩) (Nat.le_of_ble_eq_true rfl) rfl rfl rfl rfl pn_X11_isWrong rfl k
  · have k := k.2 z
    refine v_iconst dX11_isNone_9 ⟨by decide, by decide⟩ ?_
    refine v_goto (tgt := 14) dX11_isNone_10 (by decide) ?_
    exact v_callV (j := M_X11_isWrong) (As := [aI 0]) (st := []) (E0 := [aR 72, aI 0]) (a := 72) (ci := 9) (N := 11) (q9 := (RX11, TX11, 11)) dX11_isNone_14 ml_X11_57 J_X11_isWrong (Nat.zero_le _) (Nat.zero_le _) (Nat.le_of_ble_eq_true rfl) rfl (Nat.le_of_ble_eq_true rfl) (List.forall_mem_cons.mpr ⟨rfl, List.forall_mem_cons.mpr ⟨rfl, fun _ h9 => absurd h9 List.not_mem_nil⟩⟩) (Nat.le_of_ble_eq_true rfl) rfl rfl rfl rfl pn_X11_isWrong rfl k
theorem S_X11_isNone_17 {kc ks : Nat} {h : Hh} {Q : PQ} {X : PX} {xs0 : Int}
    (k : ((xs0 = 0 ∨ xs0 = 1)) ∧ Q [aI xs0] am_R0 h) :
    am_V M_X11_isNone kc ks 17 [aU, aU] [aI xs0] am_R0 h Q X := by
  obtain ⟨b0_1, k⟩ := k
  exact v_zret dX11_isNone_17 rfl rfl b0_1 k
theorem S_X11_isNoPlace_0 {kc ks : Nat} {h : Hh} {Q : PQ} {X : PX} {x1 : Int} {x2 : Int}
    (k : am_V M_X11_isPlace 0 0 0 [aR 72, aI x1, aI x2] [] am_R0 h (fun v ρ' h' => am_V M_X11_isNoPlace kc ks 7 [aU, aU, aU] (v ++ [aR 72]) ρ' h' Q X) X) :
    am_V M_X11_isNoPlace kc ks 0 [aR 72, aI x1, aI x2] [] am_R0 h Q X := by
  refine v_aload_n dX11_isNoPlace_0 rfl rfl ?_
  refine v_aload_n dX11_isNoPlace_1 rfl rfl ?_
  refine v_iload_n dX11_isNoPlace_2 rfl rfl ?_
  refine v_iload_n dX11_isNoPlace_3 rfl rfl ?_
  refine v_weak (E2 := [aU, aU, aU]) ⟨Or.inr rfl, ⟨Or.inr rfl, ⟨Or.inr rfl, trivial⟩⟩⟩ ?_
  exact v_callV (j := M_X11_isPlace) (As := [aI x1, aI x2]) (st := [aR 72]) (E0 := [aR 72, aI x1, aI x2]) (a := 72) (ci := 9) (N := 11) (q9 := (RX11, TX11, 11)) dX11_isNoPlace_4 ml_X11_71 J_X11_isPlace (Nat.zero_le _) (Nat.zero_le _) (Nat.le_of_ble_eq_true rfl) rfl (Nat.le_of_ble_eq_true rfl) (List.forall_mem_cons.mpr ⟨rfl, List.forall_mem_cons.mpr ⟨rfl, List.forall_mem_cons.mpr ⟨rfl, fun _ h9 => absurd h9 List.not_mem_nil⟩⟩⟩) (Nat.le_of_ble_eq_true rfl) rfl rfl rfl rfl pn_X11_isPlace rfl k
theorem S_X11_isNoPlace_7 {kc ks : Nat} {h : Hh} {Q : PQ} {X : PX} {xs0 : Int}
    (k : ((xs0 = 0 → am_V M_X11_isWrong 0 0 0 [aR 72, aI 1] [] am_R0 h (fun v ρ' h' => am_V M_X11_isNoPlace kc ks 18 [aU, aU, aU] (v ++ []) ρ' h' Q X) X) ∧ (xs0 ≠ 0 → am_V M_X11_isWrong 0 0 0 [aR 72, aI 0] [] am_R0 h (fun v ρ' h' => am_V M_X11_isNoPlace kc ks 18 [aU, aU, aU] (v ++ []) ρ' h' Q X) X))) :
    am_V M_X11_isNoPlace kc ks 7 [aU, aU, aU] [aI xs0, aR 72] am_R0 h Q X := by
  refine v_if_eq (tgt := 14) dX11_isNoPlace_7 (by decide) (fun z => ?_) (fun z => ?_)
  · have k := k.1 z
    refine v_iconst dX11_isNoPlace_14 ⟨by decide, by decide⟩ ?_
    exact v_callV (j := M_X11_isWrong) (As := [aI 1]) (st := []) (E0 := [aR 72, aI 1]) (a := 72) (ci := 9) (N := 11) (q9 := (RX11, TX11, 11)) dX11_isNoPlace_15 ml_X11_57 J_X11_isWrong (Nat.zero_le _) (Nat.zero_le _) (Nat.le_of_ble_eq_true rfl) rfl (Nat.le_of_ble_eq_true rfl) (List.forall_mem_cons.mpr ⟨rfl, List.forall_mem_cons.mpr ⟨rfl, fun _ h9 => absurd h9 List.not_mem_nil⟩⟩) (Nat.le_of_ble_eq_true rfl) rfl rfl rfl rfl pn_X11_isWrong rfl k
  · have k := k.2 z
    refine v_iconst dX11_isNoPlace_10 ⟨by decide, by decide⟩ ?_
    refine v_goto (tgt := 15) dX11_isNoPlace_11 (by decide) ?_
    exact v_callV (j := M_X11_isWrong) (As := [aI 0]) (st := []) (E0 := [aR 72, aI 0]) (a := 72) (ci := 9) (N := 11) (q9 := (RX11, TX11, 11)) dX11_isNoPlace_15 ml_X11_57 J_X11_isWrong (Nat.zero_le _) (Nat.zero_le _) (Nat.le_of_ble_eq_true rfl) rfl (Nat.le_of_ble_eq_true rfl) (List.forall_mem_cons.mpr ⟨rfl, List.forall_mem_cons.mpr ⟨rfl, fun _ h9 => absurd h9 List.not_mem_nil⟩⟩) (Nat.le_of_ble_eq_true rfl) rfl rfl rfl rfl pn_X11_isWrong rfl k
theorem S_X11_isNoPlace_18 {kc ks : Nat} {h : Hh} {Q : PQ} {X : PX} {xs0 : Int}
    (k : ((xs0 = 0 ∨ xs0 = 1)) ∧ Q [aI xs0] am_R0 h) :
    am_V M_X11_isNoPlace kc ks 18 [aU, aU, aU] [aI xs0] am_R0 h Q X := by
  obtain ⟨b0_1, k⟩ := k
  exact v_zret dX11_isNoPlace_18 rfl rfl b0_1 k
theorem S_X11_join_0 {kc ks : Nat} {h : Hh} {Q : PQ} {X : PX} {x1 : Int} {x2 : Int}
    (k : am_V M_X11_isText 0 0 0 [aR 72, aI x1] [] am_R0 h (fun v ρ' h' => am_V M_X11_join kc ks 6 [aR 72, aI x1, aI x2, aU] (v ++ [aR 72]) ρ' h' Q X) X) :
    am_V M_X11_join kc ks 0 [aR 72, aI x1, aI x2, aU] [] am_R0 h Q X := by
  refine v_aload_n dX11_join_0 rfl rfl ?_
  refine v_aload_n dX11_join_1 rfl rfl ?_
  refine v_iload_n dX11_join_2 rfl rfl ?_
  exact v_callV (j := M_X11_isText) (As := [aI x1]) (st := [aR 72]) (E0 := [aR 72, aI x1]) (a := 72) (ci := 9) (N := 11) (q9 := (RX11, TX11, 11)) dX11_join_3 ml_X11_46 J_X11_isText (Nat.zero_le _) (Nat.zero_le _) (Nat.le_of_ble_eq_true rfl) rfl (Nat.le_of_ble_eq_true rfl) (List.forall_mem_cons.mpr ⟨rfl, List.forall_mem_cons.mpr ⟨rfl, fun _ h9 => absurd h9 List.not_mem_nil⟩⟩) (Nat.le_of_ble_eq_true rfl) rfl rfl rfl rfl pn_X11_isText rfl k
theorem S_X11_join_6 {kc ks : Nat} {h : Hh} {Q : PQ} {X : PX} {x1 : Int} {x2 : Int} {xs0 : Int}
    (k : ((xs0 = 0 → am_V M_X11_isWrong 0 0 0 [aR 72, aI 1] [] am_R0 h (fun v ρ' h' => am_V M_X11_join kc ks 60 [aR 72, aI x1, aI x2, aU] (v ++ []) ρ' h' Q X) X) ∧ (xs0 ≠ 0 → am_V M_X11_isText 0 0 0 [aR 72, aI x2] [] am_R0 h (fun v ρ' h' => am_V M_X11_join kc ks 14 [aR 72, aI x1, aI x2, aU] (v ++ [aR 72]) ρ' h' Q X) X))) :
    am_V M_X11_join kc ks 6 [aR 72, aI x1, aI x2, aU] [aI xs0, aR 72] am_R0 h Q X := by
  refine v_if_eq (tgt := 17) dX11_join_6 (by decide) (fun z => ?_) (fun z => ?_)
  · have k := k.1 z
    refine v_iconst dX11_join_17 ⟨by decide, by decide⟩ ?_
    refine v_goto (tgt := 57) dX11_join_18 (by decide) ?_
    exact v_callV (j := M_X11_isWrong) (As := [aI 1]) (st := []) (E0 := [aR 72, aI 1]) (a := 72) (ci := 9) (N := 11) (q9 := (RX11, TX11, 11)) dX11_join_57 ml_X11_57 J_X11_isWrong (Nat.zero_le _) (Nat.zero_le _) (Nat.le_of_ble_eq_true rfl) rfl (Nat.le_of_ble_eq_true rfl) (List.forall_mem_cons.mpr ⟨rfl, List.forall_mem_cons.mpr ⟨rfl, fun _ h9 => absurd h9 List.not_mem_nil⟩⟩) (Nat.le_of_ble_eq_true rfl) rfl rfl rfl rfl pn_X11_isWrong rfl k
  · have k := k.2 z
    refine v_aload_n dX11_join_9 rfl rfl ?_
    refine v_iload_n dX11_join_10 rfl rfl ?_
    exact v_callV (j := M_X11_isText) (As := [aI x2]) (st := [aR 72]) (E0 := [aR 72, aI x2]) (a := 72) (ci := 9) (N := 11) (q9 := (RX11, TX11, 11)) dX11_join_11 ml_X11_46 J_X11_isText (Nat.zero_le _) (Nat.zero_le _) (Nat.le_of_ble_eq_true rfl) rfl (Nat.le_of_ble_eq_true rfl) (List.forall_mem_cons.mpr ⟨rfl, List.forall_mem_cons.mpr ⟨rfl, fun _ h9 => absurd h9 List.not_mem_nil⟩⟩) (Nat.le_of_ble_eq_true rfl) rfl rfl rfl rfl pn_X11_isText rfl k
theorem S_X11_join_60 {kc ks : Nat} {h : Hh} {Q : PQ} {X : PX} {x1 : Int} {x2 : Int} {xs0 : Int}
    (k : ((xs0 = 0 → am_V M_X11_join kc ks 67 [aR 72, aI x1, aI x2, aI 0] [] am_R0 h Q X) ∧ (xs0 ≠ 0 → Q [aI 0] am_R0 h))) :
    am_V M_X11_join kc ks 60 [aR 72, aI x1, aI x2, aU] [aI xs0] am_R0 h Q X := by
  refine v_if_eq (tgt := 65) dX11_join_60 (by decide) (fun z => ?_) (fun z => ?_)
  · have k := k.1 z
    refine v_iconst dX11_join_65 ⟨by decide, by decide⟩ ?_
    refine v_istore_n (E2 := [aR 72, aI x1, aI x2, aI 0]) dX11_join_66 rfl (Nat.le_of_ble_eq_true rfl) rfl ?_
    exact k
  · have k := k.2 z
    refine v_iconst dX11_join_63 ⟨by decide, by decide⟩ ?_
    exact v_iret dX11_join_64 rfl rfl k
theorem S_X11_join_14 {kc ks : Nat} {h : Hh} {Q : PQ} {X : PX} {x1 : Int} {x2 : Int} {xs0 : Int}
    (k : ((xs0 ≠ 0 → ((0 : Int) ≤ x1 ∧ (x1 : Int) < 9 ∧ (0 : Int) ≤ x2 ∧ (x2 : Int) < 9 ∧ (-2147483648 ≤ (((h 74 x1) + (h 74 x2)) : Int) ∧ (((h 74 x1) + (h 74 x2)) : Int) < 2147483648)) ∧ ((((h 74 x1) + (h 74 x2)) ≤ 64 → (((h 72 8) ≠ 8 → am_V M_X11_isWrong 0 0 0 [aR 72, aI 0] [] am_R0 h (fun v ρ' h' => am_V M_X11_join kc ks 60 [aR 72, aI x1, aI x2, aU] (v ++ []) ρ' h' Q X) X) ∧ ((h 72 8) = 8 → am_V M_X11_isWrong 0 0 0 [aR 72, aI 3] [] am_R0 h (fun v ρ' h' => am_V M_X11_join kc ks 60 [aR 72, aI x1, aI x2, aU] (v ++ []) ρ' h' Q X) X))) ∧ (64 < ((h 74 x1) + (h 74 x2)) → am_V M_X11_isWrong 0 0 0 [aR 72, aI 2] [] am_R0 h (fun v ρ' h' => am_V M_X11_join kc ks 60 [aR 72, aI x1, aI x2, aU] (v ++ []) ρ' h' Q X) X))) ∧ (xs0 = 0 → am_V M_X11_isWrong 0 0 0 [aR 72, aI 1] [] am_R0 h (fun v ρ' h' => am_V M_X11_join kc ks 60 [aR 72, aI x1, aI x2, aU] (v ++ []) ρ' h' Q X) X))) :
    am_V M_X11_join kc ks 14 [aR 72, aI x1, aI x2, aU] [aI xs0, aR 72] am_R0 h Q X := by
  refine v_if_ne (tgt := 21) dX11_join_14 (by decide) (fun z => ?_) (fun z => ?_)
  · have k := k.1 z
    obtain ⟨⟨b1_1, b1_2, b1_3, b1_4, b1_5⟩, k⟩ := k
    refine v_aload_n dX11_join_21 rfl rfl ?_
    refine v_getR (x := 74) dX11_join_22 fl_X11_13 am_clsA rfl rfl rfl ?_
    refine v_iload_n dX11_join_25 rfl rfl ?_
    refine v_iald dX11_join_26 rfl b1_1 b1_2 ?_
    refine v_aload_n dX11_join_27 rfl rfl ?_
    refine v_getR (x := 74) dX11_join_28 fl_X11_13 am_clsA rfl rfl rfl ?_
    refine v_iload_n dX11_join_31 rfl rfl ?_
    refine v_iald dX11_join_32 rfl b1_3 b1_4 ?_
    refine v_iadd dX11_join_33 b1_5 ?_
    refine v_bipush dX11_join_34 (by decide) (by decide) ?_
    refine v_icmp_le (tgt := 43) dX11_join_36 (by decide) (fun z => ?_) (fun z => ?_)
    · have k := k.1 z
      refine v_aload_n dX11_join_43 rfl rfl ?_
      refine v_getI (j := 8) dX11_join_44 fl_X11_39 am_clsA rfl rfl rfl ?_
      refine v_bipush dX11_join_47 (by decide) (by decide) ?_
      refine v_icmp_ne (tgt := 56) dX11_join_49 (by decide) (fun z => ?_) (fun z => ?_)
      · have k := k.1 z
        refine v_iconst dX11_join_56 ⟨by decide, by decide⟩ ?_
        exact v_callV (j := M_X11_isWrong) (As := [aI 0]) (st := []) (E0 := [aR 72, aI 0]) (a := 72) (ci := 9) (N := 11) (q9 := (RX11, TX11, 11)) dX11_join_57 ml_X11_57 J_X11_isWrong (Nat.zero_le _) (Nat.zero_le _) (Nat.le_of_ble_eq_true rfl) rfl (Nat.le_of_ble_eq_true rfl) (List.forall_mem_cons.mpr ⟨rfl, List.forall_mem_cons.mpr ⟨rfl, fun _ h9 => absurd h9 List.not_mem_nil⟩⟩) (Nat.le_of_ble_eq_true rfl) rfl rfl rfl rfl pn_X11_isWrong rfl k
      · have k := k.2 z
        refine v_iconst dX11_join_52 ⟨by decide, by decide⟩ ?_
        refine v_goto (tgt := 57) dX11_join_53 (by decide) ?_
        exact v_callV (j := M_X11_isWrong) (As := [aI 3]) (st := []) (E0 := [aR 72, aI 3]) (a := 72) (ci := 9) (N := 11) (q9 := (RX11, TX11, 11)) dX11_join_57 ml_X11_57 J_X11_isWrong (Nat.zero_le _) (Nat.zero_le _) (Nat.le_of_ble_eq_true rfl) rfl (Nat.le_of_ble_eq_true rfl) (List.forall_mem_cons.mpr ⟨rfl, List.forall_mem_cons.mpr ⟨rfl, fun _ h9 => absurd h9 List.not_mem_nil⟩⟩) (Nat.le_of_ble_eq_true rfl) rfl rfl rfl rfl pn_X11_isWrong rfl k
    · have k := k.2 z
      refine v_iconst dX11_join_39 ⟨by decide, by decide⟩ ?_
      refine v_goto (tgt := 57) dX11_join_40 (by decide) ?_
      exact v_callV (j := M_X11_isWrong) (As := [aI 2]) (st := []) (E0 := [aR 72, aI 2]) (a := 72) (ci := 9) (N := 11) (q9 := (RX11, TX11, 11)) dX11_join_57 ml_X11_57 J_X11_isWrong (Nat.zero_le _) (Nat.zero_le _) (Nat.le_of_ble_eq_true rfl) rfl (Nat.le_of_ble_eq_true rfl) (List.forall_mem_cons.mpr ⟨rfl, List.forall_mem_cons.mpr ⟨rfl, fun _ h9 => absurd h9 List.not_mem_nil⟩⟩) (Nat.le_of_ble_eq_true rfl) rfl rfl rfl rfl pn_X11_isWrong rfl k
  · have k := k.2 z
    refine v_iconst dX11_join_17 ⟨by decide, by decide⟩ ?_
    refine v_goto (tgt := 57) dX11_join_18 (by decide) ?_
    exact v_callV (j := M_X11_isWrong) (As := [aI 1]) (st := []) (E0 := [aR 72, aI 1]) (a := 72) (ci := 9) (N := 11) (q9 := (RX11, TX11, 11)) dX11_join_57 ml_X11_57 J_X11_isWrong (Nat.zero_le _) (Nat.zero_le _) (Nat.le_of_ble_eq_true rfl) rfl (Nat.le_of_ble_eq_true rfl) (List.forall_mem_cons.mpr ⟨rfl, List.forall_mem_cons.mpr ⟨rfl, fun _ h9 => absurd h9 List.not_mem_nil⟩⟩) (Nat.le_of_ble_eq_true rfl) rfl rfl rfl rfl pn_X11_isWrong rfl k
theorem S_X11_join_67 {kc ks : Nat} {h : Hh} {Q : PQ} {X : PX} {x1 : Int} {x2 : Int} {x3 : Int}
    (k : ((0 : Int) ≤ x1 ∧ (x1 : Int) < 9) ∧ (((h 74 x1) ≤ x3 → am_V M_X11_join kc ks 110 [aR 72, aI x1, aI x2, aI 0] [] am_R0 h Q X) ∧ (x3 < (h 74 x1) → ((-2147483648 ≤ ((64 * (h 72 8)) : Int) ∧ ((64 * (h 72 8)) : Int) < 2147483648) ∧ (-2147483648 ≤ (((64 * (h 72 8)) + x3) : Int) ∧ (((64 * (h 72 8)) + x3) : Int) < 2147483648) ∧ (-2147483648 ≤ ((64 * x1) : Int) ∧ ((64 * x1) : Int) < 2147483648) ∧ (-2147483648 ≤ (((64 * x1) + x3) : Int) ∧ (((64 * x1) + x3) : Int) < 2147483648) ∧ (0 : Int) ≤ ((64 * x1) + x3) ∧ (((64 * x1) + x3) : Int) < 576 ∧ (0 : Int) ≤ ((64 * (h 72 8)) + x3) ∧ (((64 * (h 72 8)) + x3) : Int) < 576 ∧ (-2147483648 ≤ ((x3 + 1) : Int) ∧ ((x3 + 1) : Int) < 2147483648)) ∧ am_V M_X11_join kc ks 67 [aR 72, aI x1, aI x2, aI (x3 + 1)] [] am_R0 (am_st h 73 ((64 * (h 72 8)) + x3) ((h 73 ((64 * x1) + x3)) % 65536)) Q X))) :
    am_V M_X11_join kc ks 67 [aR 72, aI x1, aI x2, aI x3] [] am_R0 h Q X := by
  obtain ⟨⟨b0_1, b0_2⟩, k⟩ := k
  refine v_iload_n dX11_join_67 rfl rfl ?_
  refine v_aload_n dX11_join_68 rfl rfl ?_
  refine v_getR (x := 74) dX11_join_69 fl_X11_13 am_clsA rfl rfl rfl ?_
  refine v_iload_n dX11_join_72 rfl rfl ?_
  refine v_iald dX11_join_73 rfl b0_1 b0_2 ?_
  refine v_icmp_ge (tgt := 108) dX11_join_74 (by decide) (fun z => ?_) (fun z => ?_)
  · have k := k.1 z
    refine v_iconst dX11_join_108 ⟨by decide, by decide⟩ ?_
    refine v_istore_n (E2 := [aR 72, aI x1, aI x2, aI 0]) dX11_join_109 rfl (Nat.le_of_ble_eq_true rfl) rfl ?_
    exact k
  · have k := k.2 z
    obtain ⟨⟨b1_1, b1_2, b1_3, b1_4, b1_5, b1_6, b1_7, b1_8, b1_9⟩, k⟩ := k
    refine v_aload_n dX11_join_77 rfl rfl ?_
    refine v_getR (x := 73) dX11_join_78 fl_X11_7 am_clsA rfl rfl rfl ?_
    refine v_bipush dX11_join_81 (by decide) (by decide) ?_
    refine v_aload_n dX11_join_83 rfl rfl ?_
    refine v_getI (j := 8) dX11_join_84 fl_X11_39 am_clsA rfl rfl rfl ?_
    refine v_imul dX11_join_87 b1_1 ?_
    refine v_iload_n dX11_join_88 rfl rfl ?_
    refine v_iadd dX11_join_89 b1_2 ?_
    refine v_aload_n dX11_join_90 rfl rfl ?_
    refine v_getR (x := 73) dX11_join_91 fl_X11_7 am_clsA rfl rfl rfl ?_
    refine v_bipush dX11_join_94 (by decide) (by decide) ?_
    refine v_iload_n dX11_join_96 rfl rfl ?_
    refine v_imul dX11_join_97 b1_3 ?_
    refine v_iload_n dX11_join_98 rfl rfl ?_
    refine v_iadd dX11_join_99 b1_4 ?_
    refine v_cald dX11_join_100 rfl b1_5 b1_6 ?_
    refine v_cast dX11_join_101 rfl b1_7 b1_8 ?_
    refine v_iinc (E2 := [aR 72, aI x1, aI x2, aI (x3 + 1)]) dX11_join_102 rfl b1_9 rfl ?_
    refine v_goto (tgt := 67) dX11_join_105 (by decide) ?_
    exact k
theorem S_X11_join_110 {kc ks : Nat} {h : Hh} {Q : PQ} {X : PX} {x1 : Int} {x2 : Int} {x3 : Int}
    (k : ((0 : Int) ≤ x2 ∧ (x2 : Int) < 9) ∧ (((h 74 x2) ≤ x3 → ((0 : Int) ≤ x1 ∧ (x1 : Int) < 9 ∧ (0 : Int) ≤ x2 ∧ (x2 : Int) < 9 ∧ (-2147483648 ≤ (((h 74 x1) + (h 74 x2)) : Int) ∧ (((h 74 x1) + (h 74 x2)) : Int) < 2147483648) ∧ (0 : Int) ≤ (h 72 8) ∧ ((h 72 8) : Int) < 9 ∧ (-2147483648 ≤ ((((am_st h 74 (h 72 8) ((h 74 x1) + (h 74 x2))) 72 8) + 1) : Int) ∧ ((((am_st h 74 (h 72 8) ((h 74 x1) + (h 74 x2))) 72 8) + 1) : Int) < 2147483648) ∧ (-2147483648 ≤ ((((am_st (am_st h 74 (h 72 8) ((h 74 x1) + (h 74 x2))) 72 8 (((am_st h 74 (h 72 8) ((h 74 x1) + (h 74 x2))) 72 8) + 1)) 72 8) - 1) : Int) ∧ ((((am_st (am_st h 74 (h 72 8) ((h 74 x1) + (h 74 x2))) 72 8 (((am_st h 74 (h 72 8) ((h 74 x1) + (h 74 x2))) 72 8) + 1)) 72 8) - 1) : Int) < 2147483648)) ∧ Q [aI (((am_st (am_st h 74 (h 72 8) ((h 74 x1) + (h 74 x2))) 72 8 (((am_st h 74 (h 72 8) ((h 74 x1) + (h 74 x2))) 72 8) + 1)) 72 8) - 1)] am_R0 (am_st (am_st h 74 (h 72 8) ((h 74 x1) + (h 74 x2))) 72 8 (((am_st h 74 (h 72 8) ((h 74 x1) + (h 74 x2))) 72 8) + 1))) ∧ (x3 < (h 74 x2) → ((-2147483648 ≤ ((64 * (h 72 8)) : Int) ∧ ((64 * (h 72 8)) : Int) < 2147483648) ∧ (0 : Int) ≤ x1 ∧ (x1 : Int) < 9 ∧ (-2147483648 ≤ (((64 * (h 72 8)) + (h 74 x1)) : Int) ∧ (((64 * (h 72 8)) + (h 74 x1)) : Int) < 2147483648) ∧ (-2147483648 ≤ ((((64 * (h 72 8)) + (h 74 x1)) + x3) : Int) ∧ ((((64 * (h 72 8)) + (h 74 x1)) + x3) : Int) < 2147483648) ∧ (-2147483648 ≤ ((64 * x2) : Int) ∧ ((64 * x2) : Int) < 2147483648) ∧ (-2147483648 ≤ (((64 * x2) + x3) : Int) ∧ (((64 * x2) + x3) : Int) < 2147483648) ∧ (0 : Int) ≤ ((64 * x2) + x3) ∧ (((64 * x2) + x3) : Int) < 576 ∧ (0 : Int) ≤ (((64 * (h 72 8)) + (h 74 x1)) + x3) ∧ ((((64 * (h 72 8)) + (h 74 x1)) + x3) : Int) < 576 ∧ (-2147483648 ≤ ((x3 + 1) : Int) ∧ ((x3 + 1) : Int) < 2147483648)) ∧ am_V M_X11_join kc ks 110 [aR 72, aI x1, aI x2, aI (x3 + 1)] [] am_R0 (am_st h 73 (((64 * (h 72 8)) + (h 74 x1)) + x3) ((h 73 ((64 * x2) + x3)) % 65536)) Q X))) :
    am_V M_X11_join kc ks 110 [aR 72, aI x1, aI x2, aI x3] [] am_R0 h Q X := by
  obtain ⟨⟨b0_1, b0_2⟩, k⟩ := k
  refine v_iload_n dX11_join_110 rfl rfl ?_
  refine v_aload_n dX11_join_111 rfl rfl ?_
  refine v_getR (x := 74) dX11_join_112 fl_X11_13 am_clsA rfl rfl rfl ?_
  refine v_iload_n dX11_join_115 rfl rfl ?_
  refine v_iald dX11_join_116 rfl b0_1 b0_2 ?_
  refine v_icmp_ge (tgt := 158) dX11_join_117 (by decide) (fun z => ?_) (fun z => ?_)
  · have k := k.1 z
    obtain ⟨⟨b1_1, b1_2, b1_3, b1_4, b1_5, b1_6, b1_7, b1_8, b1_9⟩, k⟩ := k
    refine v_aload_n dX11_join_158 rfl rfl ?_
    refine v_getR (x := 74) dX11_join_159 fl_X11_13 am_clsA rfl rfl rfl ?_
    refine v_aload_n dX11_join_162 rfl rfl ?_
    refine v_getI (j := 8) dX11_join_163 fl_X11_39 am_clsA rfl rfl rfl ?_
    refine v_aload_n dX11_join_166 rfl rfl ?_
    refine v_getR (x := 74) dX11_join_167 fl_X11_13 am_clsA rfl rfl rfl ?_
    refine v_iload_n dX11_join_170 rfl rfl ?_
    refine v_iald dX11_join_171 rfl b1_1 b1_2 ?_
    refine v_aload_n dX11_join_172 rfl rfl ?_
    refine v_getR (x := 74) dX11_join_173 fl_X11_13 am_clsA rfl rfl rfl ?_
    refine v_iload_n dX11_join_176 rfl rfl ?_
    refine v_iald dX11_join_177 rfl b1_3 b1_4 ?_
    refine v_iadd dX11_join_178 b1_5 ?_
    refine v_iast dX11_join_179 rfl b1_6 b1_7 ?_
    refine v_aload_n dX11_join_180 rfl rfl ?_
    refine v_dupR dX11_join_181 ?_
    refine v_getI (j := 8) dX11_join_182 fl_X11_39 am_clsA rfl rfl rfl ?_
    refine v_iconst dX11_join_185 ⟨by decide, by decide⟩ ?_
    refine v_iadd dX11_join_186 b1_8 ?_
    refine v_putI (j := 8) dX11_join_187 pl_X11_39 am_clsA rfl rfl rfl ?_
    refine v_aload_n dX11_join_190 rfl rfl ?_
    refine v_getI (j := 8) dX11_join_191 fl_X11_39 am_clsA rfl rfl rfl ?_
    refine v_iconst dX11_join_194 ⟨by decide, by decide⟩ ?_
    refine v_isub dX11_join_195 b1_9 ?_
    exact v_iret dX11_join_196 rfl rfl k
  · have k := k.2 z
    obtain ⟨⟨b1_1, b1_2, b1_3, b1_4, b1_5, b1_6, b1_7, b1_8, b1_9, b1_10, b1_11, b1_12⟩, k⟩ := k
    refine v_aload_n dX11_join_120 rfl rfl ?_
    refine v_getR (x := 73) dX11_join_121 fl_X11_7 am_clsA rfl rfl rfl ?_
    refine v_bipush dX11_join_124 (by decide) (by decide) ?_
    refine v_aload_n dX11_join_126 rfl rfl ?_
    refine v_getI (j := 8) dX11_join_127 fl_X11_39 am_clsA rfl rfl rfl ?_
    refine v_imul dX11_join_130 b1_1 ?_
    refine v_aload_n dX11_join_131 rfl rfl ?_
    refine v_getR (x := 74) dX11_join_132 fl_X11_13 am_clsA rfl rfl rfl ?_
    refine v_iload_n dX11_join_135 rfl rfl ?_
    refine v_iald dX11_join_136 rfl b1_2 b1_3 ?_
    refine v_iadd dX11_join_137 b1_4 ?_
    refine v_iload_n dX11_join_138 rfl rfl ?_
    refine v_iadd dX11_join_139 b1_5 ?_
    refine v_aload_n dX11_join_140 rfl rfl ?_
    refine v_getR (x := 73) dX11_join_141 fl_X11_7 am_clsA rfl rfl rfl ?_
    refine v_bipush dX11_join_144 (by decide) (by decide) ?_
    refine v_iload_n dX11_join_146 rfl rfl ?_
    refine v_imul dX11_join_147 b1_6 ?_
    refine v_iload_n dX11_join_148 rfl rfl ?_
    refine v_iadd dX11_join_149 b1_7 ?_
    refine v_cald dX11_join_150 rfl b1_8 b1_9 ?_
    refine v_cast dX11_join_151 rfl b1_10 b1_11 ?_
    refine v_iinc (E2 := [aR 72, aI x1, aI x2, aI (x3 + 1)]) dX11_join_152 rfl b1_12 rfl ?_
    refine v_goto (tgt := 110) dX11_join_155 (by decide) ?_
    exact k
theorem S_X11_change_0 {kc ks : Nat} {h : Hh} {Q : PQ} {X : PX} {x1 : Int} {x2 : Int} {x3 : Int}
    (k : am_V M_X11_isPlace 0 0 0 [aR 72, aI x1, aI x2] [] am_R0 h (fun v ρ' h' => am_V M_X11_change kc ks 7 [aR 72, aI x1, aI x2, aI x3, aU] (v ++ [aR 72]) ρ' h' Q X) X) :
    am_V M_X11_change kc ks 0 [aR 72, aI x1, aI x2, aI x3, aU] [] am_R0 h Q X := by
  refine v_aload_n dX11_change_0 rfl rfl ?_
  refine v_aload_n dX11_change_1 rfl rfl ?_
  refine v_iload_n dX11_change_2 rfl rfl ?_
  refine v_iload_n dX11_change_3 rfl rfl ?_
  exact v_callV (j := M_X11_isPlace) (As := [aI x1, aI x2]) (st := [aR 72]) (E0 := [aR 72, aI x1, aI x2]) (a := 72) (ci := 9) (N := 11) (q9 := (RX11, TX11, 11)) dX11_change_4 ml_X11_71 J_X11_isPlace (Nat.zero_le _) (Nat.zero_le _) (Nat.le_of_ble_eq_true rfl) rfl (Nat.le_of_ble_eq_true rfl) (List.forall_mem_cons.mpr ⟨rfl, List.forall_mem_cons.mpr ⟨rfl, List.forall_mem_cons.mpr ⟨rfl, fun _ h9 => absurd h9 List.not_mem_nil⟩⟩⟩) (Nat.le_of_ble_eq_true rfl) rfl rfl rfl rfl pn_X11_isPlace rfl k
theorem S_X11_change_7 {kc ks : Nat} {h : Hh} {Q : PQ} {X : PX} {x1 : Int} {x2 : Int} {x3 : Int} {xs0 : Int}
    (k : ((xs0 ≠ 0 → am_V M_X11_isLetter 0 0 0 [aI x3] [] am_R0 h (fun v ρ' h' => am_V M_X11_change kc ks 18 [aR 72, aI x1, aI x2, aI x3, aU] (v ++ [aR 72]) ρ' h' Q X) X) ∧ (xs0 = 0 → am_V M_X11_isWrong 0 0 0 [aR 72, aI 1] [] am_R0 h (fun v ρ' h' => am_V M_X11_change kc ks 29 [aR 72, aI x1, aI x2, aI x3, aU] (v ++ []) ρ' h' Q X) X))) :
    am_V M_X11_change kc ks 7 [aR 72, aI x1, aI x2, aI x3, aU] [aI xs0, aR 72] am_R0 h Q X := by
  refine v_if_ne (tgt := 14) dX11_change_7 (by decide) (fun z => ?_) (fun z => ?_)
  · have k := k.1 z
    refine v_iload_n dX11_change_14 rfl rfl ?_
    exact v_callS (j := M_X11_isLetter) (As := [aI x3]) (st := [aR 72]) (E0 := [aI x3]) dX11_change_15 ms_X11_50 J_X11_isLetter (Nat.zero_le _) (Nat.zero_le _) (Nat.le_of_ble_eq_true rfl) rfl (Nat.le_of_ble_eq_true rfl) (List.forall_mem_cons.mpr ⟨rfl, fun _ h9 => absurd h9 List.not_mem_nil⟩) (Nat.le_of_ble_eq_true rfl) rfl pn_X11_isLetter rfl k
  · have k := k.2 z
    refine v_iconst dX11_change_10 ⟨by decide, by decide⟩ ?_
    refine v_goto (tgt := 26) dX11_change_11 (by decide) ?_
    exact v_callV (j := M_X11_isWrong) (As := [aI 1]) (st := []) (E0 := [aR 72, aI 1]) (a := 72) (ci := 9) (N := 11) (q9 := (RX11, TX11, 11)) dX11_change_26 ml_X11_57 J_X11_isWrong (Nat.zero_le _) (Nat.zero_le _) (Nat.le_of_ble_eq_true rfl) rfl (Nat.le_of_ble_eq_true rfl) (List.forall_mem_cons.mpr ⟨rfl, List.forall_mem_cons.mpr ⟨rfl, fun _ h9 => absurd h9 List.not_mem_nil⟩⟩) (Nat.le_of_ble_eq_true rfl) rfl rfl rfl rfl pn_X11_isWrong rfl k
theorem S_X11_change_18 {kc ks : Nat} {h : Hh} {Q : PQ} {X : PX} {x1 : Int} {x2 : Int} {x3 : Int} {xs0 : Int}
    (k : ((xs0 ≠ 0 → am_V M_X11_isWrong 0 0 0 [aR 72, aI 0] [] am_R0 h (fun v ρ' h' => am_V M_X11_change kc ks 29 [aR 72, aI x1, aI x2, aI x3, aU] (v ++ []) ρ' h' Q X) X) ∧ (xs0 = 0 → am_V M_X11_isWrong 0 0 0 [aR 72, aI 2] [] am_R0 h (fun v ρ' h' => am_V M_X11_change kc ks 29 [aR 72, aI x1, aI x2, aI x3, aU] (v ++ []) ρ' h' Q X) X))) :
    am_V M_X11_change kc ks 18 [aR 72, aI x1, aI x2, aI x3, aU] [aI xs0, aR 72] am_R0 h Q X := by
  refine v_if_ne (tgt := 25) dX11_change_18 (by decide) (fun z => ?_) (fun z => ?_)
  · have k := k.1 z
    refine v_iconst dX11_change_25 ⟨by decide, by decide⟩ ?_
    exact v_callV (j := M_X11_isWrong) (As := [aI 0]) (st := []) (E0 := [aR 72, aI 0]) (a := 72) (ci := 9) (N := 11) (q9 := (RX11, TX11, 11)) dX11_change_26 ml_X11_57 J_X11_isWrong (Nat.zero_le _) (Nat.zero_le _) (Nat.le_of_ble_eq_true rfl) rfl (Nat.le_of_ble_eq_true rfl) (List.forall_mem_cons.mpr ⟨rfl, List.forall_mem_cons.mpr ⟨rfl, fun _ h9 => absurd h9 List.not_mem_nil⟩⟩) (Nat.le_of_ble_eq_true rfl) rfl rfl rfl rfl pn_X11_isWrong rfl k
  · have k := k.2 z
    refine v_iconst dX11_change_21 ⟨by decide, by decide⟩ ?_
    refine v_goto (tgt := 26) dX11_change_22 (by decide) ?_
    exact v_callV (j := M_X11_isWrong) (As := [aI 2]) (st := []) (E0 := [aR 72, aI 2]) (a := 72) (ci := 9) (N := 11) (q9 := (RX11, TX11, 11)) dX11_change_26 ml_X11_57 J_X11_isWrong (Nat.zero_le _) (Nat.zero_le _) (Nat.le_of_ble_eq_true rfl) rfl (Nat.le_of_ble_eq_true rfl) (List.forall_mem_cons.mpr ⟨rfl, List.forall_mem_cons.mpr ⟨rfl, fun _ h9 => absurd h9 List.not_mem_nil⟩⟩) (Nat.le_of_ble_eq_true rfl) rfl rfl rfl rfl pn_X11_isWrong rfl k
theorem S_X11_change_29 {kc ks : Nat} {h : Hh} {Q : PQ} {X : PX} {x1 : Int} {x2 : Int} {x3 : Int} {xs0 : Int}
    (k : ((xs0 = 0 → ((-2147483648 ≤ ((64 * x1) : Int) ∧ ((64 * x1) : Int) < 2147483648) ∧ (-2147483648 ≤ (((64 * x1) + x2) : Int) ∧ (((64 * x1) + x2) : Int) < 2147483648) ∧ (0 : Int) ≤ ((64 * x1) + x2) ∧ (((64 * x1) + x2) : Int) < 576 ∧ (-2147483648 ≤ ((64 * x1) : Int) ∧ ((64 * x1) : Int) < 2147483648) ∧ (-2147483648 ≤ (((64 * x1) + x2) : Int) ∧ (((64 * x1) + x2) : Int) < 2147483648) ∧ (0 : Int) ≤ ((64 * x1) + x2) ∧ (((64 * x1) + x2) : Int) < 576 ∧ (0 : Int) ≤ (h 73 ((64 * x1) + x2)) ∧ ((h 73 ((64 * x1) + x2)) : Int) < 65536) ∧ Q [aI (h 73 ((64 * x1) + x2))] am_R0 (am_st h 73 ((64 * x1) + x2) (x3 % 65536))) ∧ (xs0 ≠ 0 → Q [aI 0] am_R0 h))) :
    am_V M_X11_change kc ks 29 [aR 72, aI x1, aI x2, aI x3, aU] [aI xs0] am_R0 h Q X := by
  refine v_if_eq (tgt := 34) dX11_change_29 (by decide) (fun z => ?_) (fun z => ?_)
  · have k := k.1 z
    obtain ⟨⟨b1_1, b1_2, b1_3, b1_4, b1_5, b1_6, b1_7, b1_8, b1_9, b1_10⟩, k⟩ := k
    refine v_aload_n dX11_change_34 rfl rfl ?_
    refine v_getR (x := 73) dX11_change_35 fl_X11_7 am_clsA rfl rfl rfl ?_
    refine v_bipush dX11_change_38 (by decide) (by decide) ?_
    refine v_iload_n dX11_change_40 rfl rfl ?_
    refine v_imul dX11_change_41 b1_1 ?_
    refine v_iload_n dX11_change_42 rfl rfl ?_
    refine v_iadd dX11_change_43 b1_2 ?_
    refine v_cald dX11_change_44 rfl b1_3 b1_4 ?_
    refine v_istore (E2 := [aR 72, aI x1, aI x2, aI x3, aI (h 73 ((64 * x1) + x2))]) dX11_change_45 (Nat.le_of_ble_eq_true rfl) rfl ?_
    refine v_aload_n dX11_change_47 rfl rfl ?_
    refine v_getR (x := 73) dX11_change_48 fl_X11_7 am_clsA rfl rfl rfl ?_
    refine v_bipush dX11_change_51 (by decide) (by decide) ?_
    refine v_iload_n dX11_change_53 rfl rfl ?_
    refine v_imul dX11_change_54 b1_5 ?_
    refine v_iload_n dX11_change_55 rfl rfl ?_
    refine v_iadd dX11_change_56 b1_6 ?_
    refine v_iload_n dX11_change_57 rfl rfl ?_
    refine v_cast dX11_change_58 rfl b1_7 b1_8 ?_
    refine v_iload dX11_change_59 rfl ?_
    exact v_cret dX11_change_61 rfl rfl b1_9 b1_10 k
  · have k := k.2 z
    refine v_iconst dX11_change_32 ⟨by decide, by decide⟩ ?_
    exact v_cret dX11_change_33 rfl rfl (by decide) (by decide) k
theorem S_X11_keepRanks_0 {kc ks : Nat} {h : Hh} {Q : PQ} {X : PX} {x1 : Int}
    (k : am_V M_X11_keepRanks kc ks 2 [aR 72, aI x1, aI 0] [] am_R0 h Q X) :
    am_V M_X11_keepRanks kc ks 0 [aR 72, aI x1, aU] [] am_R0 h Q X := by
  refine v_iconst dX11_keepRanks_0 ⟨by decide, by decide⟩ ?_
  refine v_istore_n (E2 := [aR 72, aI x1, aI 0]) dX11_keepRanks_1 rfl (Nat.le_of_ble_eq_true rfl) rfl ?_
  exact k
theorem S_X11_keepRanks_2 {kc ks : Nat} {h : Hh} {Q : PQ} {X : PX} {x1 : Int} {x2 : Int}
    (k : ((0 : Int) ≤ x1 ∧ (x1 : Int) < 9) ∧ (((h 74 x1) ≤ x2 → Q [] am_R0 h) ∧ (x2 < (h 74 x1) → am_V M_X11_rank 0 0 0 [aR 72, aI x1, aI x2, aU, aU] [] am_R0 h (fun v ρ' h' => am_V M_X11_keepRanks kc ks 23 [aR 72, aI x1, aI x2] (v ++ [aI x2, aR 78]) ρ' h' Q X) X))) :
    am_V M_X11_keepRanks kc ks 2 [aR 72, aI x1, aI x2] [] am_R0 h Q X := by
  obtain ⟨⟨b0_1, b0_2⟩, k⟩ := k
  refine v_iload_n dX11_keepRanks_2 rfl rfl ?_
  refine v_aload_n dX11_keepRanks_3 rfl rfl ?_
  refine v_getR (x := 74) dX11_keepRanks_4 fl_X11_13 am_clsA rfl rfl rfl ?_
  refine v_iload_n dX11_keepRanks_7 rfl rfl ?_
  refine v_iald dX11_keepRanks_8 rfl b0_1 b0_2 ?_
  refine v_icmp_ge (tgt := 30) dX11_keepRanks_9 (by decide) (fun z => ?_) (fun z => ?_)
  · have k := k.1 z
    exact v_vret dX11_keepRanks_30 rfl rfl k
  · have k := k.2 z
    refine v_aload_n dX11_keepRanks_12 rfl rfl ?_
    refine v_getR (x := 78) dX11_keepRanks_13 fl_X11_26 am_clsA rfl rfl rfl ?_
    refine v_iload_n dX11_keepRanks_16 rfl rfl ?_
    refine v_aload_n dX11_keepRanks_17 rfl rfl ?_
    refine v_iload_n dX11_keepRanks_18 rfl rfl ?_
    refine v_iload_n dX11_keepRanks_19 rfl rfl ?_
    exact v_callV (j := M_X11_rank) (As := [aI x1, aI x2]) (st := [aI x2, aR 78]) (E0 := [aR 72, aI x1, aI x2, aU, aU]) (a := 72) (ci := 9) (N := 11) (q9 := (RX11, TX11, 11)) dX11_keepRanks_20 ml_X11_78 J_X11_rank (Nat.zero_le _) (Nat.zero_le _) (Nat.le_of_ble_eq_true rfl) rfl (Nat.le_of_ble_eq_true rfl) (List.forall_mem_cons.mpr ⟨rfl, List.forall_mem_cons.mpr ⟨rfl, List.forall_mem_cons.mpr ⟨rfl, fun _ h9 => absurd h9 List.not_mem_nil⟩⟩⟩) (Nat.le_of_ble_eq_true rfl) rfl rfl rfl rfl pn_X11_rank rfl k
theorem S_X11_keepRanks_23 {kc ks : Nat} {h : Hh} {Q : PQ} {X : PX} {x1 : Int} {x2 : Int} {xs0 : Int} {xs1 : Int}
    (k : ((0 : Int) ≤ xs1 ∧ (xs1 : Int) < 64 ∧ (-2147483648 ≤ ((x2 + 1) : Int) ∧ ((x2 + 1) : Int) < 2147483648)) ∧ am_V M_X11_keepRanks kc ks 2 [aR 72, aI x1, aI (x2 + 1)] [] am_R0 (am_st h 78 xs1 xs0) Q X) :
    am_V M_X11_keepRanks kc ks 23 [aR 72, aI x1, aI x2] [aI xs0, aI xs1, aR 78] am_R0 h Q X := by
  obtain ⟨⟨b0_1, b0_2, b0_3⟩, k⟩ := k
  refine v_iast dX11_keepRanks_23 rfl b0_1 b0_2 ?_
  refine v_iinc (E2 := [aR 72, aI x1, aI (x2 + 1)]) dX11_keepRanks_24 rfl b0_3 rfl ?_
  refine v_goto (tgt := 2) dX11_keepRanks_27 (by decide) ?_
  exact k
theorem S_X11_ahead_0 {kc ks : Nat} {h : Hh} {Q : PQ} {X : PX} {x1 : Int} {x2 : Int}
    (k : am_V M_X11_isText 0 0 0 [aR 72, aI x1] [] am_R0 h (fun v ρ' h' => am_V M_X11_ahead kc ks 6 [aR 72, aI x1, aI x2, aU, aU] (v ++ [aR 72]) ρ' h' Q X) X) :
    am_V M_X11_ahead kc ks 0 [aR 72, aI x1, aI x2, aU, aU] [] am_R0 h Q X := by
  refine v_aload_n dX11_ahead_0 rfl rfl ?_
  refine v_aload_n dX11_ahead_1 rfl rfl ?_
  refine v_iload_n dX11_ahead_2 rfl rfl ?_
  exact v_callV (j := M_X11_isText) (As := [aI x1]) (st := [aR 72]) (E0 := [aR 72, aI x1]) (a := 72) (ci := 9) (N := 11) (q9 := (RX11, TX11, 11)) dX11_ahead_3 ml_X11_46 J_X11_isText (Nat.zero_le _) (Nat.zero_le _) (Nat.le_of_ble_eq_true rfl) rfl (Nat.le_of_ble_eq_true rfl) (List.forall_mem_cons.mpr ⟨rfl, List.forall_mem_cons.mpr ⟨rfl, fun _ h9 => absurd h9 List.not_mem_nil⟩⟩) (Nat.le_of_ble_eq_true rfl) rfl rfl rfl rfl pn_X11_isText rfl k
theorem S_X11_ahead_6 {kc ks : Nat} {h : Hh} {Q : PQ} {X : PX} {x1 : Int} {x2 : Int} {xs0 : Int}
    (k : ((xs0 ≠ 0 → am_V M_X11_isLetter 0 0 0 [aI x2] [] am_R0 h (fun v ρ' h' => am_V M_X11_ahead kc ks 17 [aR 72, aI x1, aI x2, aU, aU] (v ++ [aR 72]) ρ' h' Q X) X) ∧ (xs0 = 0 → am_V M_X11_isWrong 0 0 0 [aR 72, aI 1] [] am_R0 h (fun v ρ' h' => am_V M_X11_ahead kc ks 43 [aR 72, aI x1, aI x2, aU, aU] (v ++ []) ρ' h' Q X) X))) :
    am_V M_X11_ahead kc ks 6 [aR 72, aI x1, aI x2, aU, aU] [aI xs0, aR 72] am_R0 h Q X := by
  refine v_if_ne (tgt := 13) dX11_ahead_6 (by decide) (fun z => ?_) (fun z => ?_)
  · have k := k.1 z
    refine v_iload_n dX11_ahead_13 rfl rfl ?_
    exact v_callS (j := M_X11_isLetter) (As := [aI x2]) (st := [aR 72]) (E0 := [aI x2]) dX11_ahead_14 ms_X11_50 J_X11_isLetter (Nat.zero_le _) (Nat.zero_le _) (Nat.le_of_ble_eq_true rfl) rfl (Nat.le_of_ble_eq_true rfl) (List.forall_mem_cons.mpr ⟨rfl, fun _ h9 => absurd h9 List.not_mem_nil⟩) (Nat.le_of_ble_eq_true rfl) rfl pn_X11_isLetter rfl k
  · have k := k.2 z
    refine v_iconst dX11_ahead_9 ⟨by decide, by decide⟩ ?_
    refine v_goto (tgt := 40) dX11_ahead_10 (by decide) ?_
    exact v_callV (j := M_X11_isWrong) (As := [aI 1]) (st := []) (E0 := [aR 72, aI 1]) (a := 72) (ci := 9) (N := 11) (q9 := (RX11, TX11, 11)) dX11_ahead_40 ml_X11_57 J_X11_isWrong (Nat.zero_le _) (Nat.zero_le _) (Nat.le_of_ble_eq_true rfl) rfl (Nat.le_of_ble_eq_true rfl) (List.forall_mem_cons.mpr ⟨rfl, List.forall_mem_cons.mpr ⟨rfl, fun _ h9 => absurd h9 List.not_mem_nil⟩⟩) (Nat.le_of_ble_eq_true rfl) rfl rfl rfl rfl pn_X11_isWrong rfl k
theorem S_X11_ahead_17 {kc ks : Nat} {h : Hh} {Q : PQ} {X : PX} {x1 : Int} {x2 : Int} {xs0 : Int}
    (k : ((xs0 ≠ 0 → ((0 : Int) ≤ x1 ∧ (x1 : Int) < 9) ∧ (((h 74 x1) ≠ 64 → am_V M_X11_isWrong 0 0 0 [aR 72, aI 0] [] am_R0 h (fun v ρ' h' => am_V M_X11_ahead kc ks 43 [aR 72, aI x1, aI x2, aU, aU] (v ++ []) ρ' h' Q X) X) ∧ ((h 74 x1) = 64 → am_V M_X11_isWrong 0 0 0 [aR 72, aI 3] [] am_R0 h (fun v ρ' h' => am_V M_X11_ahead kc ks 43 [aR 72, aI x1, aI x2, aU, aU] (v ++ []) ρ' h' Q X) X))) ∧ (xs0 = 0 → am_V M_X11_isWrong 0 0 0 [aR 72, aI 2] [] am_R0 h (fun v ρ' h' => am_V M_X11_ahead kc ks 43 [aR 72, aI x1, aI x2, aU, aU] (v ++ []) ρ' h' Q X) X))) :
    am_V M_X11_ahead kc ks 17 [aR 72, aI x1, aI x2, aU, aU] [aI xs0, aR 72] am_R0 h Q X := by
  refine v_if_ne (tgt := 24) dX11_ahead_17 (by decide) (fun z => ?_) (fun z => ?_)
  · have k := k.1 z
    obtain ⟨⟨b1_1, b1_2⟩, k⟩ := k
    refine v_aload_n dX11_ahead_24 rfl rfl ?_
    refine v_getR (x := 74) dX11_ahead_25 fl_X11_13 am_clsA rfl rfl rfl ?_
    refine v_iload_n dX11_ahead_28 rfl rfl ?_
    refine v_iald dX11_ahead_29 rfl b1_1 b1_2 ?_
    refine v_bipush dX11_ahead_30 (by decide) (by decide) ?_
    refine v_icmp_ne (tgt := 39) dX11_ahead_32 (by decide) (fun z => ?_) (fun z => ?_)
    · have k := k.1 z
      refine v_iconst dX11_ahead_39 ⟨by decide, by decide⟩ ?_
      exact v_callV (j := M_X11_isWrong) (As := [aI 0]) (st := []) (E0 := [aR 72, aI 0]) (a := 72) (ci := 9) (N := 11) (q9 := (RX11, TX11, 11)) dX11_ahead_40 ml_X11_57 J_X11_isWrong (Nat.zero_le _) (Nat.zero_le _) (Nat.le_of_ble_eq_true rfl) rfl (Nat.le_of_ble_eq_true rfl) (List.forall_mem_cons.mpr ⟨rfl, List.forall_mem_cons.mpr ⟨rfl, fun _ h9 => absurd h9 List.not_mem_nil⟩⟩) (Nat.le_of_ble_eq_true rfl) rfl rfl rfl rfl pn_X11_isWrong rfl k
    · have k := k.2 z
      refine v_iconst dX11_ahead_35 ⟨by decide, by decide⟩ ?_
      refine v_goto (tgt := 40) dX11_ahead_36 (by decide) ?_
      exact v_callV (j := M_X11_isWrong) (As := [aI 3]) (st := []) (E0 := [aR 72, aI 3]) (a := 72) (ci := 9) (N := 11) (q9 := (RX11, TX11, 11)) dX11_ahead_40 ml_X11_57 J_X11_isWrong (Nat.zero_le _) (Nat.zero_le _) (Nat.le_of_ble_eq_true rfl) rfl (Nat.le_of_ble_eq_true rfl) (List.forall_mem_cons.mpr ⟨rfl, List.forall_mem_cons.mpr ⟨rfl, fun _ h9 => absurd h9 List.not_mem_nil⟩⟩) (Nat.le_of_ble_eq_true rfl) rfl rfl rfl rfl pn_X11_isWrong rfl k
  · have k := k.2 z
    refine v_iconst dX11_ahead_20 ⟨by decide, by decide⟩ ?_
    refine v_goto (tgt := 40) dX11_ahead_21 (by decide) ?_
    exact v_callV (j := M_X11_isWrong) (As := [aI 2]) (st := []) (E0 := [aR 72, aI 2]) (a := 72) (ci := 9) (N := 11) (q9 := (RX11, TX11, 11)) dX11_ahead_40 ml_X11_57 J_X11_isWrong (Nat.zero_le _) (Nat.zero_le _) (Nat.le_of_ble_eq_true rfl) rfl (Nat.le_of_ble_eq_true rfl) (List.forall_mem_cons.mpr ⟨rfl, List.forall_mem_cons.mpr ⟨rfl, fun _ h9 => absurd h9 List.not_mem_nil⟩⟩) (Nat.le_of_ble_eq_true rfl) rfl rfl rfl rfl pn_X11_isWrong rfl k
theorem S_X11_ahead_43 {kc ks : Nat} {h : Hh} {Q : PQ} {X : PX} {x1 : Int} {x2 : Int} {xs0 : Int}
    (k : ((xs0 = 0 → am_V M_X11_keepRanks 0 0 0 [aR 72, aI x1, aU] [] am_R0 h (fun v ρ' h' => am_V M_X11_ahead kc ks 53 [aR 72, aI x1, aI x2, aU, aU] (v ++ []) ρ' h' Q X) X) ∧ (xs0 ≠ 0 → Q [aI 0] am_R0 h))) :
    am_V M_X11_ahead kc ks 43 [aR 72, aI x1, aI x2, aU, aU] [aI xs0] am_R0 h Q X := by
  refine v_if_eq (tgt := 48) dX11_ahead_43 (by decide) (fun z => ?_) (fun z => ?_)
  · have k := k.1 z
    refine v_aload_n dX11_ahead_48 rfl rfl ?_
    refine v_iload_n dX11_ahead_49 rfl rfl ?_
    exact v_callV (j := M_X11_keepRanks) (As := [aI x1]) (st := []) (E0 := [aR 72, aI x1, aU]) (a := 72) (ci := 9) (N := 11) (q9 := (RX11, TX11, 11)) dX11_ahead_50 ml_X11_82 J_X11_keepRanks (Nat.zero_le _) (Nat.zero_le _) (Nat.le_of_ble_eq_true rfl) rfl (Nat.le_of_ble_eq_true rfl) (List.forall_mem_cons.mpr ⟨rfl, List.forall_mem_cons.mpr ⟨rfl, fun _ h9 => absurd h9 List.not_mem_nil⟩⟩) (Nat.le_of_ble_eq_true rfl) rfl rfl rfl rfl pn_X11_keepRanks rfl k
  · have k := k.2 z
    refine v_iconst dX11_ahead_46 ⟨by decide, by decide⟩ ?_
    exact v_iret dX11_ahead_47 rfl rfl k
theorem S_X11_ahead_53 {kc ks : Nat} {h : Hh} {Q : PQ} {X : PX} {x1 : Int} {x2 : Int}
    (k : ((0 : Int) ≤ x1 ∧ (x1 : Int) < 9) ∧ am_V M_X11_ahead kc ks 60 [aR 72, aI x1, aI x2, aI (h 74 x1), aU] [] am_R0 h Q X) :
    am_V M_X11_ahead kc ks 53 [aR 72, aI x1, aI x2, aU, aU] [] am_R0 h Q X := by
  obtain ⟨⟨b0_1, b0_2⟩, k⟩ := k
  refine v_aload_n dX11_ahead_53 rfl rfl ?_
  refine v_getR (x := 74) dX11_ahead_54 fl_X11_13 am_clsA rfl rfl rfl ?_
  refine v_iload_n dX11_ahead_57 rfl rfl ?_
  refine v_iald dX11_ahead_58 rfl b0_1 b0_2 ?_
  refine v_istore_n (E2 := [aR 72, aI x1, aI x2, aI (h 74 x1), aU]) dX11_ahead_59 rfl (Nat.le_of_ble_eq_true rfl) rfl ?_
  exact k
theorem S_X11_ahead_60 {kc ks : Nat} {h : Hh} {Q : PQ} {X : PX} {x1 : Int} {x2 : Int} {x3 : Int}
    (k : ((x3 ≤ 0 → ((-2147483648 ≤ ((64 * x1) : Int) ∧ ((64 * x1) : Int) < 2147483648) ∧ (-2147483648 ≤ (((64 * x1) + 0) : Int) ∧ (((64 * x1) + 0) : Int) < 2147483648) ∧ (0 : Int) ≤ ((64 * x1) + 0) ∧ (((64 * x1) + 0) : Int) < 576 ∧ (0 : Int) ≤ x1 ∧ (x1 : Int) < 9 ∧ (-2147483648 ≤ ((((am_st h 73 ((64 * x1) + 0) (x2 % 65536)) 74 x1) + 1) : Int) ∧ ((((am_st h 73 ((64 * x1) + 0) (x2 % 65536)) 74 x1) + 1) : Int) < 2147483648) ∧ (0 : Int) ≤ x1 ∧ (x1 : Int) < 9) ∧ am_V M_X11_ahead kc ks 121 [aR 72, aI x1, aU, aI 0, aI 1] [] am_R0 (am_st (am_st h 73 ((64 * x1) + 0) (x2 % 65536)) 74 x1 (((am_st h 73 ((64 * x1) + 0) (x2 % 65536)) 74 x1) + 1)) Q X) ∧ (0 < x3 → ((-2147483648 ≤ ((64 * x1) : Int) ∧ ((64 * x1) : Int) < 2147483648) ∧ (-2147483648 ≤ (((64 * x1) + x3) : Int) ∧ (((64 * x1) + x3) : Int) < 2147483648) ∧ (-2147483648 ≤ ((64 * x1) : Int) ∧ ((64 * x1) : Int) < 2147483648) ∧ (-2147483648 ≤ (((64 * x1) + x3) : Int) ∧ (((64 * x1) + x3) : Int) < 2147483648) ∧ (-2147483648 ≤ ((((64 * x1) + x3) - 1) : Int) ∧ ((((64 * x1) + x3) - 1) : Int) < 2147483648) ∧ (0 : Int) ≤ (((64 * x1) + x3) - 1) ∧ ((((64 * x1) + x3) - 1) : Int) < 576 ∧ (0 : Int) ≤ ((64 * x1) + x3) ∧ (((64 * x1) + x3) : Int) < 576 ∧ (-2147483648 ≤ ((x3 + (-1)) : Int) ∧ ((x3 + (-1)) : Int) < 2147483648)) ∧ am_V M_X11_ahead kc ks 60 [aR 72, aI x1, aI x2, aI (x3 + (-1)), aU] [] am_R0 (am_st h 73 ((64 * x1) + x3) ((h 73 (((64 * x1) + x3) - 1)) % 65536)) Q X))) :
    am_V M_X11_ahead kc ks 60 [aR 72, aI x1, aI x2, aI x3, aU] [] am_R0 h Q X := by
  refine v_iload_n dX11_ahead_60 rfl rfl ?_
  refine v_if_le (tgt := 94) dX11_ahead_61 (by decide) (fun z => ?_) (fun z => ?_)
  · have k := k.1 z
    obtain ⟨⟨b1_1, b1_2, b1_3, b1_4, b1_5, b1_6, b1_7, b1_8, b1_9⟩, k⟩ := k
    refine v_aload_n dX11_ahead_94 rfl rfl ?_
    refine v_getR (x := 73) dX11_ahead_95 fl_X11_7 am_clsA rfl rfl rfl ?_
    refine v_bipush dX11_ahead_98 (by decide) (by decide) ?_
    refine v_iload_n dX11_ahead_100 rfl rfl ?_
    refine v_imul dX11_ahead_101 b1_1 ?_
    refine v_iconst dX11_ahead_102 ⟨by decide, by decide⟩ ?_
    refine v_iadd dX11_ahead_103 b1_2 ?_
    refine v_iload_n dX11_ahead_104 rfl rfl ?_
    refine v_cast dX11_ahead_105 rfl b1_3 b1_4 ?_
    refine v_aload_n dX11_ahead_106 rfl rfl ?_
    refine v_getR (x := 74) dX11_ahead_107 fl_X11_13 am_clsA rfl rfl rfl ?_
    refine v_iload_n dX11_ahead_110 rfl rfl ?_
    refine v_dup2 dX11_ahead_111 ?_
    refine v_iald dX11_ahead_112 rfl b1_5 b1_6 ?_
    refine v_iconst dX11_ahead_113 ⟨by decide, by decide⟩ ?_
    refine v_iadd dX11_ahead_114 b1_7 ?_
    refine v_iast dX11_ahead_115 rfl b1_8 b1_9 ?_
    refine v_iconst dX11_ahead_116 ⟨by decide, by decide⟩ ?_
    refine v_istore_n (E2 := [aR 72, aI x1, aI x2, aI 0, aU]) dX11_ahead_117 rfl (Nat.le_of_ble_eq_true rfl) rfl ?_
    refine v_iconst dX11_ahead_118 ⟨by decide, by decide⟩ ?_
    refine v_istore (E2 := [aR 72, aI x1, aI x2, aI 0, aI 1]) dX11_ahead_119 (Nat.le_of_ble_eq_true rfl) rfl ?_
    refine v_weak (E2 := [aR 72, aI x1, aU, aI 0, aI 1]) ⟨Or.inl rfl, ⟨Or.inl rfl, ⟨Or.inr rfl, ⟨Or.inl rfl, ⟨Or.inl rfl, trivial⟩⟩⟩⟩⟩ ?_
    exact k
  · have k := k.2 z
    obtain ⟨⟨b1_1, b1_2, b1_3, b1_4, b1_5, b1_6, b1_7, b1_8, b1_9, b1_10⟩, k⟩ := k
    refine v_aload_n dX11_ahead_64 rfl rfl ?_
    refine v_getR (x := 73) dX11_ahead_65 fl_X11_7 am_clsA rfl rfl rfl ?_
    refine v_bipush dX11_ahead_68 (by decide) (by decide) ?_
    refine v_iload_n dX11_ahead_70 rfl rfl ?_
    refine v_imul dX11_ahead_71 b1_1 ?_
    refine v_iload_n dX11_ahead_72 rfl rfl ?_
    refine v_iadd dX11_ahead_73 b1_2 ?_
    refine v_aload_n dX11_ahead_74 rfl rfl ?_
    refine v_getR (x := 73) dX11_ahead_75 fl_X11_7 am_clsA rfl rfl rfl ?_
    refine v_bipush dX11_ahead_78 (by decide) (by decide) ?_
    refine v_iload_n dX11_ahead_80 rfl rfl ?_
    refine v_imul dX11_ahead_81 b1_3 ?_
    refine v_iload_n dX11_ahead_82 rfl rfl ?_
    refine v_iadd dX11_ahead_83 b1_4 ?_
    refine v_iconst dX11_ahead_84 ⟨by decide, by decide⟩ ?_
    refine v_isub dX11_ahead_85 b1_5 ?_
    refine v_cald dX11_ahead_86 rfl b1_6 b1_7 ?_
    refine v_cast dX11_ahead_87 rfl b1_8 b1_9 ?_
    refine v_iinc (E2 := [aR 72, aI x1, aI x2, aI (x3 + (-1)), aU]) dX11_ahead_88 rfl b1_10 rfl ?_
    refine v_goto (tgt := 60) dX11_ahead_91 (by decide) ?_
    exact k
theorem S_X11_ahead_121 {kc ks : Nat} {h : Hh} {Q : PQ} {X : PX} {x1 : Int} {x3 : Int} {x4 : Int}
    (k : ((0 : Int) ≤ x1 ∧ (x1 : Int) < 9) ∧ (((h 74 x1) ≤ x4 → Q [aI x3] am_R0 h) ∧ (x4 < (h 74 x1) → am_V M_X11_rank 0 0 0 [aR 72, aI x1, aI x4, aU, aU] [] am_R0 h (fun v ρ' h' => am_V M_X11_ahead kc ks 140 [aR 72, aI x1, aU, aU, aI x4] (v ++ [aI x3]) ρ' h' Q X) X))) :
    am_V M_X11_ahead kc ks 121 [aR 72, aI x1, aU, aI x3, aI x4] [] am_R0 h Q X := by
  obtain ⟨⟨b0_1, b0_2⟩, k⟩ := k
  refine v_iload dX11_ahead_121 rfl ?_
  refine v_aload_n dX11_ahead_123 rfl rfl ?_
  refine v_getR (x := 74) dX11_ahead_124 fl_X11_13 am_clsA rfl rfl rfl ?_
  refine v_iload_n dX11_ahead_127 rfl rfl ?_
  refine v_iald dX11_ahead_128 rfl b0_1 b0_2 ?_
  refine v_icmp_ge (tgt := 165) dX11_ahead_129 (by decide) (fun z => ?_) (fun z => ?_)
  · have k := k.1 z
    refine v_iload_n dX11_ahead_165 rfl rfl ?_
    exact v_iret dX11_ahead_166 rfl rfl k
  · have k := k.2 z
    refine v_iload_n dX11_ahead_132 rfl rfl ?_
    refine v_aload_n dX11_ahead_133 rfl rfl ?_
    refine v_iload_n dX11_ahead_134 rfl rfl ?_
    refine v_iload dX11_ahead_135 rfl ?_
    refine v_weak (E2 := [aR 72, aI x1, aU, aU, aI x4]) ⟨Or.inl rfl, ⟨Or.inl rfl, ⟨Or.inl rfl, ⟨Or.inr rfl, ⟨Or.inl rfl, trivial⟩⟩⟩⟩⟩ ?_
    exact v_callV (j := M_X11_rank) (As := [aI x1, aI x4]) (st := [aI x3]) (E0 := [aR 72, aI x1, aI x4, aU, aU]) (a := 72) (ci := 9) (N := 11) (q9 := (RX11, TX11, 11)) dX11_ahead_137 ml_X11_78 J_X11_rank (Nat.zero_le _) (Nat.zero_le _) (Nat.le_of_ble_eq_true rfl) rfl (Nat.le_of_ble_eq_true rfl) (List.forall_mem_cons.mpr ⟨rfl, List.forall_mem_cons.mpr ⟨rfl, List.forall_mem_cons.mpr ⟨rfl, fun _ h9 => absurd h9 List.not_mem_nil⟩⟩⟩) (Nat.le_of_ble_eq_true rfl) rfl rfl rfl rfl pn_X11_rank rfl k
theorem S_X11_ahead_140 {kc ks : Nat} {h : Hh} {Q : PQ} {X : PX} {x1 : Int} {x4 : Int} {xs0 : Int} {xs1 : Int}
    (k : ((-2147483648 ≤ ((x4 - 1) : Int) ∧ ((x4 - 1) : Int) < 2147483648) ∧ (0 : Int) ≤ (x4 - 1) ∧ ((x4 - 1) : Int) < 64) ∧ ((xs0 ≠ (h 78 (x4 - 1)) → ((-2147483648 ≤ ((xs1 + 1) : Int) ∧ ((xs1 + 1) : Int) < 2147483648) ∧ (-2147483648 ≤ ((x4 + 1) : Int) ∧ ((x4 + 1) : Int) < 2147483648)) ∧ am_V M_X11_ahead kc ks 121 [aR 72, aI x1, aU, aI (xs1 + 1), aI (x4 + 1)] [] am_R0 h Q X) ∧ (xs0 = (h 78 (x4 - 1)) → ((-2147483648 ≤ ((xs1 + 0) : Int) ∧ ((xs1 + 0) : Int) < 2147483648) ∧ (-2147483648 ≤ ((x4 + 1) : Int) ∧ ((x4 + 1) : Int) < 2147483648)) ∧ am_V M_X11_ahead kc ks 121 [aR 72, aI x1, aU, aI (xs1 + 0), aI (x4 + 1)] [] am_R0 h Q X))) :
    am_V M_X11_ahead kc ks 140 [aR 72, aI x1, aU, aU, aI x4] [aI xs0, aI xs1] am_R0 h Q X := by
  obtain ⟨⟨b0_1, b0_2, b0_3⟩, k⟩ := k
  refine v_aload_n dX11_ahead_140 rfl rfl ?_
  refine v_getR (x := 78) dX11_ahead_141 fl_X11_26 am_clsA rfl rfl rfl ?_
  refine v_iload dX11_ahead_144 rfl ?_
  refine v_iconst dX11_ahead_146 ⟨by decide, by decide⟩ ?_
  refine v_isub dX11_ahead_147 b0_1 ?_
  refine v_iald dX11_ahead_148 rfl b0_2 b0_3 ?_
  refine v_icmp_ne (tgt := 156) dX11_ahead_149 (by decide) (fun z => ?_) (fun z => ?_)
  · have k := k.1 z
    obtain ⟨⟨b1_1, b1_2⟩, k⟩ := k
    refine v_iconst dX11_ahead_156 ⟨by decide, by decide⟩ ?_
    refine v_iadd dX11_ahead_157 b1_1 ?_
    refine v_istore_n (E2 := [aR 72, aI x1, aU, aI (xs1 + 1), aI x4]) dX11_ahead_158 rfl (Nat.le_of_ble_eq_true rfl) rfl ?_
    refine v_iinc (E2 := [aR 72, aI x1, aU, aI (xs1 + 1), aI (x4 + 1)]) dX11_ahead_159 rfl b1_2 rfl ?_
    refine v_goto (tgt := 121) dX11_ahead_162 (by decide) ?_
    exact k
  · have k := k.2 z
    obtain ⟨⟨b1_1, b1_2⟩, k⟩ := k
    refine v_iconst dX11_ahead_152 ⟨by decide, by decide⟩ ?_
    refine v_goto (tgt := 157) dX11_ahead_153 (by decide) ?_
    refine v_iadd dX11_ahead_157 b1_1 ?_
    refine v_istore_n (E2 := [aR 72, aI x1, aU, aI (xs1 + 0), aI x4]) dX11_ahead_158 rfl (Nat.le_of_ble_eq_true rfl) rfl ?_
    refine v_iinc (E2 := [aR 72, aI x1, aU, aI (xs1 + 0), aI (x4 + 1)]) dX11_ahead_159 rfl b1_2 rfl ?_
    refine v_goto (tgt := 121) dX11_ahead_162 (by decide) ?_
    exact k
theorem S_X11_chop_0 {kc ks : Nat} {h : Hh} {Q : PQ} {X : PX} {x1 : Int}
    (k : am_V M_X11_isText 0 0 0 [aR 72, aI x1] [] am_R0 h (fun v ρ' h' => am_V M_X11_chop kc ks 6 [aR 72, aI x1, aU, aU] (v ++ [aR 72]) ρ' h' Q X) X) :
    am_V M_X11_chop kc ks 0 [aR 72, aI x1, aU, aU] [] am_R0 h Q X := by
  refine v_aload_n dX11_chop_0 rfl rfl ?_
  refine v_aload_n dX11_chop_1 rfl rfl ?_
  refine v_iload_n dX11_chop_2 rfl rfl ?_
  exact v_callV (j := M_X11_isText) (As := [aI x1]) (st := [aR 72]) (E0 := [aR 72, aI x1]) (a := 72) (ci := 9) (N := 11) (q9 := (RX11, TX11, 11)) dX11_chop_3 ml_X11_46 J_X11_isText (Nat.zero_le _) (Nat.zero_le _) (Nat.le_of_ble_eq_true rfl) rfl (Nat.le_of_ble_eq_true rfl) (List.forall_mem_cons.mpr ⟨rfl, List.forall_mem_cons.mpr ⟨rfl, fun _ h9 => absurd h9 List.not_mem_nil⟩⟩) (Nat.le_of_ble_eq_true rfl) rfl rfl rfl rfl pn_X11_isText rfl k
theorem S_X11_chop_6 {kc ks : Nat} {h : Hh} {Q : PQ} {X : PX} {x1 : Int} {xs0 : Int}
    (k : ((xs0 ≠ 0 → ((0 : Int) ≤ x1 ∧ (x1 : Int) < 9) ∧ (((h 74 x1) ≠ 0 → am_V M_X11_isWrong 0 0 0 [aR 72, aI 0] [] am_R0 h (fun v ρ' h' => am_V M_X11_chop kc ks 30 [aR 72, aI x1, aU, aU] (v ++ []) ρ' h' Q X) X) ∧ ((h 74 x1) = 0 → am_V M_X11_isWrong 0 0 0 [aR 72, aI 2] [] am_R0 h (fun v ρ' h' => am_V M_X11_chop kc ks 30 [aR 72, aI x1, aU, aU] (v ++ []) ρ' h' Q X) X))) ∧ (xs0 = 0 → am_V M_X11_isWrong 0 0 0 [aR 72, aI 1] [] am_R0 h (fun v ρ' h' => am_V M_X11_chop kc ks 30 [aR 72, aI x1, aU, aU] (v ++ []) ρ' h' Q X) X))) :
    am_V M_X11_chop kc ks 6 [aR 72, aI x1, aU, aU] [aI xs0, aR 72] am_R0 h Q X := by
  refine v_if_ne (tgt := 13) dX11_chop_6 (by decide) (fun z => ?_) (fun z => ?_)
  · have k := k.1 z
    obtain ⟨⟨b1_1, b1_2⟩, k⟩ := k
    refine v_aload_n dX11_chop_13 rfl rfl ?_
    refine v_getR (x := 74) dX11_chop_14 fl_X11_13 am_clsA rfl rfl rfl ?_
    refine v_iload_n dX11_chop_17 rfl rfl ?_
    refine v_iald dX11_chop_18 rfl b1_1 b1_2 ?_
    refine v_if_ne (tgt := 26) dX11_chop_19 (by decide) (fun z => ?_) (fun z => ?_)
    · have k := k.1 z
      refine v_iconst dX11_chop_26 ⟨by decide, by decide⟩ ?_
      exact v_callV (j := M_X11_isWrong) (As := [aI 0]) (st := []) (E0 := [aR 72, aI 0]) (a := 72) (ci := 9) (N := 11) (q9 := (RX11, TX11, 11)) dX11_chop_27 ml_X11_57 J_X11_isWrong (Nat.zero_le _) (Nat.zero_le _) (Nat.le_of_ble_eq_true rfl) rfl (Nat.le_of_ble_eq_true rfl) (List.forall_mem_cons.mpr ⟨rfl, List.forall_mem_cons.mpr ⟨rfl, fun _ h9 => absurd h9 List.not_mem_nil⟩⟩) (Nat.le_of_ble_eq_true rfl) rfl rfl rfl rfl pn_X11_isWrong rfl k
    · have k := k.2 z
      refine v_iconst dX11_chop_22 ⟨by decide, by decide⟩ ?_
      refine v_goto (tgt := 27) dX11_chop_23 (by decide) ?_
      exact v_callV (j := M_X11_isWrong) (As := [aI 2]) (st := []) (E0 := [aR 72, aI 2]) (a := 72) (ci := 9) (N := 11) (q9 := (RX11, TX11, 11)) dX11_chop_27 ml_X11_57 J_X11_isWrong (Nat.zero_le _) (Nat.zero_le _) (Nat.le_of_ble_eq_true rfl) rfl (Nat.le_of_ble_eq_true rfl) (List.forall_mem_cons.mpr ⟨rfl, List.forall_mem_cons.mpr ⟨rfl, fun _ h9 => absurd h9 List.not_mem_nil⟩⟩) (Nat.le_of_ble_eq_true rfl) rfl rfl rfl rfl pn_X11_isWrong rfl k
  · have k := k.2 z
    refine v_iconst dX11_chop_9 ⟨by decide, by decide⟩ ?_
    refine v_goto (tgt := 27) dX11_chop_10 (by decide) ?_
    exact v_callV (j := M_X11_isWrong) (As := [aI 1]) (st := []) (E0 := [aR 72, aI 1]) (a := 72) (ci := 9) (N := 11) (q9 := (RX11, TX11, 11)) dX11_chop_27 ml_X11_57 J_X11_isWrong (Nat.zero_le _) (Nat.zero_le _) (Nat.le_of_ble_eq_true rfl) rfl (Nat.le_of_ble_eq_true rfl) (List.forall_mem_cons.mpr ⟨rfl, List.forall_mem_cons.mpr ⟨rfl, fun _ h9 => absurd h9 List.not_mem_nil⟩⟩) (Nat.le_of_ble_eq_true rfl) rfl rfl rfl rfl pn_X11_isWrong rfl k
theorem S_X11_chop_30 {kc ks : Nat} {h : Hh} {Q : PQ} {X : PX} {x1 : Int} {xs0 : Int}
    (k : ((xs0 = 0 → am_V M_X11_keepRanks 0 0 0 [aR 72, aI x1, aU] [] am_R0 h (fun v ρ' h' => am_V M_X11_chop kc ks 40 [aR 72, aI x1, aU, aU] (v ++ []) ρ' h' Q X) X) ∧ (xs0 ≠ 0 → Q [aI 0] am_R0 h))) :
    am_V M_X11_chop kc ks 30 [aR 72, aI x1, aU, aU] [aI xs0] am_R0 h Q X := by
  refine v_if_eq (tgt := 35) dX11_chop_30 (by decide) (fun z => ?_) (fun z => ?_)
  · have k := k.1 z
    refine v_aload_n dX11_chop_35 rfl rfl ?_
    refine v_iload_n dX11_chop_36 rfl rfl ?_
    exact v_callV (j := M_X11_keepRanks) (As := [aI x1]) (st := []) (E0 := [aR 72, aI x1, aU]) (a := 72) (ci := 9) (N := 11) (q9 := (RX11, TX11, 11)) dX11_chop_37 ml_X11_82 J_X11_keepRanks (Nat.zero_le _) (Nat.zero_le _) (Nat.le_of_ble_eq_true rfl) rfl (Nat.le_of_ble_eq_true rfl) (List.forall_mem_cons.mpr ⟨rfl, List.forall_mem_cons.mpr ⟨rfl, fun _ h9 => absurd h9 List.not_mem_nil⟩⟩) (Nat.le_of_ble_eq_true rfl) rfl rfl rfl rfl pn_X11_keepRanks rfl k
  · have k := k.2 z
    refine v_iconst dX11_chop_33 ⟨by decide, by decide⟩ ?_
    exact v_iret dX11_chop_34 rfl rfl k
theorem S_X11_chop_40 {kc ks : Nat} {h : Hh} {Q : PQ} {X : PX} {x1 : Int}
    (k : ((0 : Int) ≤ x1 ∧ (x1 : Int) < 9 ∧ (-2147483648 ≤ (((h 74 x1) - 1) : Int) ∧ (((h 74 x1) - 1) : Int) < 2147483648) ∧ (0 : Int) ≤ x1 ∧ (x1 : Int) < 9) ∧ am_V M_X11_chop kc ks 52 [aR 72, aI x1, aI 0, aU] [] am_R0 (am_st h 74 x1 ((h 74 x1) - 1)) Q X) :
    am_V M_X11_chop kc ks 40 [aR 72, aI x1, aU, aU] [] am_R0 h Q X := by
  obtain ⟨⟨b0_1, b0_2, b0_3, b0_4, b0_5⟩, k⟩ := k
  refine v_aload_n dX11_chop_40 rfl rfl ?_
  refine v_getR (x := 74) dX11_chop_41 fl_X11_13 am_clsA rfl rfl rfl ?_
  refine v_iload_n dX11_chop_44 rfl rfl ?_
  refine v_dup2 dX11_chop_45 ?_
  refine v_iald dX11_chop_46 rfl b0_1 b0_2 ?_
  refine v_iconst dX11_chop_47 ⟨by decide, by decide⟩ ?_
  refine v_isub dX11_chop_48 b0_3 ?_
  refine v_iast dX11_chop_49 rfl b0_4 b0_5 ?_
  refine v_iconst dX11_chop_50 ⟨by decide, by decide⟩ ?_
  refine v_istore_n (E2 := [aR 72, aI x1, aI 0, aU]) dX11_chop_51 rfl (Nat.le_of_ble_eq_true rfl) rfl ?_
  exact k
theorem S_X11_chop_52 {kc ks : Nat} {h : Hh} {Q : PQ} {X : PX} {x1 : Int} {x2 : Int}
    (k : ((0 : Int) ≤ x1 ∧ (x1 : Int) < 9) ∧ (((h 74 x1) ≤ x2 → am_V M_X11_chop kc ks 96 [aR 72, aI x1, aI 0, aI 0] [] am_R0 h Q X) ∧ (x2 < (h 74 x1) → ((-2147483648 ≤ ((64 * x1) : Int) ∧ ((64 * x1) : Int) < 2147483648) ∧ (-2147483648 ≤ (((64 * x1) + x2) : Int) ∧ (((64 * x1) + x2) : Int) < 2147483648) ∧ (-2147483648 ≤ ((64 * x1) : Int) ∧ ((64 * x1) : Int) < 2147483648) ∧ (-2147483648 ≤ (((64 * x1) + x2) : Int) ∧ (((64 * x1) + x2) : Int) < 2147483648) ∧ (-2147483648 ≤ ((((64 * x1) + x2) + 1) : Int) ∧ ((((64 * x1) + x2) + 1) : Int) < 2147483648) ∧ (0 : Int) ≤ (((64 * x1) + x2) + 1) ∧ ((((64 * x1) + x2) + 1) : Int) < 576 ∧ (0 : Int) ≤ ((64 * x1) + x2) ∧ (((64 * x1) + x2) : Int) < 576 ∧ (-2147483648 ≤ ((x2 + 1) : Int) ∧ ((x2 + 1) : Int) < 2147483648)) ∧ am_V M_X11_chop kc ks 52 [aR 72, aI x1, aI (x2 + 1), aU] [] am_R0 (am_st h 73 ((64 * x1) + x2) ((h 73 (((64 * x1) + x2) + 1)) % 65536)) Q X))) :
    am_V M_X11_chop kc ks 52 [aR 72, aI x1, aI x2, aU] [] am_R0 h Q X := by
  obtain ⟨⟨b0_1, b0_2⟩, k⟩ := k
  refine v_iload_n dX11_chop_52 rfl rfl ?_
  refine v_aload_n dX11_chop_53 rfl rfl ?_
  refine v_getR (x := 74) dX11_chop_54 fl_X11_13 am_clsA rfl rfl rfl ?_
  refine v_iload_n dX11_chop_57 rfl rfl ?_
  refine v_iald dX11_chop_58 rfl b0_1 b0_2 ?_
  refine v_icmp_ge (tgt := 92) dX11_chop_59 (by decide) (fun z => ?_) (fun z => ?_)
  · have k := k.1 z
    refine v_iconst dX11_chop_92 ⟨by decide, by decide⟩ ?_
    refine v_istore_n (E2 := [aR 72, aI x1, aI 0, aU]) dX11_chop_93 rfl (Nat.le_of_ble_eq_true rfl) rfl ?_
    refine v_iconst dX11_chop_94 ⟨by decide, by decide⟩ ?_
    refine v_istore_n (E2 := [aR 72, aI x1, aI 0, aI 0]) dX11_chop_95 rfl (Nat.le_of_ble_eq_true rfl) rfl ?_
    exact k
  · have k := k.2 z
    obtain ⟨⟨b1_1, b1_2, b1_3, b1_4, b1_5, b1_6, b1_7, b1_8, b1_9, b1_10⟩, k⟩ := k
    refine v_aload_n dX11_chop_62 rfl rfl ?_
    refine v_getR (x := 73) dX11_chop_63 fl_X11_7 am_clsA rfl rfl rfl ?_
    refine v_bipush dX11_chop_66 (by decide) (by decide) ?_
    refine v_iload_n dX11_chop_68 rfl rfl ?_
    refine v_imul dX11_chop_69 b1_1 ?_
    refine v_iload_n dX11_chop_70 rfl rfl ?_
    refine v_iadd dX11_chop_71 b1_2 ?_
    refine v_aload_n dX11_chop_72 rfl rfl ?_
    refine v_getR (x := 73) dX11_chop_73 fl_X11_7 am_clsA rfl rfl rfl ?_
    refine v_bipush dX11_chop_76 (by decide) (by decide) ?_
    refine v_iload_n dX11_chop_78 rfl rfl ?_
    refine v_imul dX11_chop_79 b1_3 ?_
    refine v_iload_n dX11_chop_80 rfl rfl ?_
    refine v_iadd dX11_chop_81 b1_4 ?_
    refine v_iconst dX11_chop_82 ⟨by decide, by decide⟩ ?_
    refine v_iadd dX11_chop_83 b1_5 ?_
    refine v_cald dX11_chop_84 rfl b1_6 b1_7 ?_
    refine v_cast dX11_chop_85 rfl b1_8 b1_9 ?_
    refine v_iinc (E2 := [aR 72, aI x1, aI (x2 + 1), aU]) dX11_chop_86 rfl b1_10 rfl ?_
    refine v_goto (tgt := 52) dX11_chop_89 (by decide) ?_
    exact k
theorem S_X11_chop_96 {kc ks : Nat} {h : Hh} {Q : PQ} {X : PX} {x1 : Int} {x2 : Int} {x3 : Int}
    (k : ((0 : Int) ≤ x1 ∧ (x1 : Int) < 9) ∧ (((h 74 x1) ≤ x3 → Q [aI x2] am_R0 h) ∧ (x3 < (h 74 x1) → am_V M_X11_rank 0 0 0 [aR 72, aI x1, aI x3, aU, aU] [] am_R0 h (fun v ρ' h' => am_V M_X11_chop kc ks 113 [aR 72, aI x1, aU, aI x3] (v ++ [aI x2]) ρ' h' Q X) X))) :
    am_V M_X11_chop kc ks 96 [aR 72, aI x1, aI x2, aI x3] [] am_R0 h Q X := by
  obtain ⟨⟨b0_1, b0_2⟩, k⟩ := k
  refine v_iload_n dX11_chop_96 rfl rfl ?_
  refine v_aload_n dX11_chop_97 rfl rfl ?_
  refine v_getR (x := 74) dX11_chop_98 fl_X11_13 am_clsA rfl rfl rfl ?_
  refine v_iload_n dX11_chop_101 rfl rfl ?_
  refine v_iald dX11_chop_102 rfl b0_1 b0_2 ?_
  refine v_icmp_ge (tgt := 137) dX11_chop_103 (by decide) (fun z => ?_) (fun z => ?_)
  · have k := k.1 z
    refine v_iload_n dX11_chop_137 rfl rfl ?_
    exact v_iret dX11_chop_138 rfl rfl k
  · have k := k.2 z
    refine v_iload_n dX11_chop_106 rfl rfl ?_
    refine v_aload_n dX11_chop_107 rfl rfl ?_
    refine v_iload_n dX11_chop_108 rfl rfl ?_
    refine v_iload_n dX11_chop_109 rfl rfl ?_
    refine v_weak (E2 := [aR 72, aI x1, aU, aI x3]) ⟨Or.inl rfl, ⟨Or.inl rfl, ⟨Or.inr rfl, ⟨Or.inl rfl, trivial⟩⟩⟩⟩ ?_
    exact v_callV (j := M_X11_rank) (As := [aI x1, aI x3]) (st := [aI x2]) (E0 := [aR 72, aI x1, aI x3, aU, aU]) (a := 72) (ci := 9) (N := 11) (q9 := (RX11, TX11, 11)) dX11_chop_110 ml_X11_78 J_X11_rank (Nat.zero_le _) (Nat.zero_le _) (Nat.le_of_ble_eq_true rfl) rfl (Nat.le_of_ble_eq_true rfl) (List.forall_mem_cons.mpr ⟨rfl, List.forall_mem_cons.mpr ⟨rfl, List.forall_mem_cons.mpr ⟨rfl, fun _ h9 => absurd h9 List.not_mem_nil⟩⟩⟩) (Nat.le_of_ble_eq_true rfl) rfl rfl rfl rfl pn_X11_rank rfl k
theorem S_X11_chop_113 {kc ks : Nat} {h : Hh} {Q : PQ} {X : PX} {x1 : Int} {x3 : Int} {xs0 : Int} {xs1 : Int}
    (k : ((-2147483648 ≤ ((x3 + 1) : Int) ∧ ((x3 + 1) : Int) < 2147483648) ∧ (0 : Int) ≤ (x3 + 1) ∧ ((x3 + 1) : Int) < 64) ∧ ((xs0 ≠ (h 78 (x3 + 1)) → ((-2147483648 ≤ ((xs1 + 1) : Int) ∧ ((xs1 + 1) : Int) < 2147483648) ∧ (-2147483648 ≤ ((x3 + 1) : Int) ∧ ((x3 + 1) : Int) < 2147483648)) ∧ am_V M_X11_chop kc ks 96 [aR 72, aI x1, aI (xs1 + 1), aI (x3 + 1)] [] am_R0 h Q X) ∧ (xs0 = (h 78 (x3 + 1)) → ((-2147483648 ≤ ((xs1 + 0) : Int) ∧ ((xs1 + 0) : Int) < 2147483648) ∧ (-2147483648 ≤ ((x3 + 1) : Int) ∧ ((x3 + 1) : Int) < 2147483648)) ∧ am_V M_X11_chop kc ks 96 [aR 72, aI x1, aI (xs1 + 0), aI (x3 + 1)] [] am_R0 h Q X))) :
    am_V M_X11_chop kc ks 113 [aR 72, aI x1, aU, aI x3] [aI xs0, aI xs1] am_R0 h Q X := by
  obtain ⟨⟨b0_1, b0_2, b0_3⟩, k⟩ := k
  refine v_aload_n dX11_chop_113 rfl rfl ?_
  refine v_getR (x := 78) dX11_chop_114 fl_X11_26 am_clsA rfl rfl rfl ?_
  refine v_iload_n dX11_chop_117 rfl rfl ?_
  refine v_iconst dX11_chop_118 ⟨by decide, by decide⟩ ?_
  refine v_iadd dX11_chop_119 b0_1 ?_
  refine v_iald dX11_chop_120 rfl b0_2 b0_3 ?_
  refine v_icmp_ne (tgt := 128) dX11_chop_121 (by decide) (fun z => ?_) (fun z => ?_)
  · have k := k.1 z
    obtain ⟨⟨b1_1, b1_2⟩, k⟩ := k
    refine v_iconst dX11_chop_128 ⟨by decide, by decide⟩ ?_
    refine v_iadd dX11_chop_129 b1_1 ?_
    refine v_istore_n (E2 := [aR 72, aI x1, aI (xs1 + 1), aI x3]) dX11_chop_130 rfl (Nat.le_of_ble_eq_true rfl) rfl ?_
    refine v_iinc (E2 := [aR 72, aI x1, aI (xs1 + 1), aI (x3 + 1)]) dX11_chop_131 rfl b1_2 rfl ?_
    refine v_goto (tgt := 96) dX11_chop_134 (by decide) ?_
    exact k
  · have k := k.2 z
    obtain ⟨⟨b1_1, b1_2⟩, k⟩ := k
    refine v_iconst dX11_chop_124 ⟨by decide, by decide⟩ ?_
    refine v_goto (tgt := 129) dX11_chop_125 (by decide) ?_
    refine v_iadd dX11_chop_129 b1_1 ?_
    refine v_istore_n (E2 := [aR 72, aI x1, aI (xs1 + 0), aI x3]) dX11_chop_130 rfl (Nat.le_of_ble_eq_true rfl) rfl ?_
    refine v_iinc (E2 := [aR 72, aI x1, aI (xs1 + 0), aI (x3 + 1)]) dX11_chop_131 rfl b1_2 rfl ?_
    refine v_goto (tgt := 96) dX11_chop_134 (by decide) ?_
    exact k
theorem S_X11_compared_0 {kc ks : Nat} {h : Hh} {Q : PQ} {X : PX} {x1 : Int} {x2 : Int} {x3 : Int} {x4 : Int}
    (k : ((0 : Int) ≤ x1 ∧ (x1 : Int) < 9) ∧ am_V M_X11_compared kc ks 11 [aR 72, aI x1, aI x2, aI x3, aI x4, aI (h 74 x1), aI 0] [] am_R0 h Q X) :
    am_V M_X11_compared kc ks 0 [aR 72, aI x1, aI x2, aI x3, aI x4, aU, aU] [] am_R0 h Q X := by
  obtain ⟨⟨b0_1, b0_2⟩, k⟩ := k
  refine v_aload_n dX11_compared_0 rfl rfl ?_
  refine v_getR (x := 74) dX11_compared_1 fl_X11_13 am_clsA rfl rfl rfl ?_
  refine v_iload_n dX11_compared_4 rfl rfl ?_
  refine v_iald dX11_compared_5 rfl b0_1 b0_2 ?_
  refine v_istore (E2 := [aR 72, aI x1, aI x2, aI x3, aI x4, aI (h 74 x1), aU]) dX11_compared_6 (Nat.le_of_ble_eq_true rfl) rfl ?_
  refine v_iconst dX11_compared_8 ⟨by decide, by decide⟩ ?_
  refine v_istore (E2 := [aR 72, aI x1, aI x2, aI x3, aI x4, aI (h 74 x1), aI 0]) dX11_compared_9 (Nat.le_of_ble_eq_true rfl) rfl ?_
  exact k
theorem S_X11_compared_11 {kc ks : Nat} {h : Hh} {Q : PQ} {X : PX} {x1 : Int} {x2 : Int} {x3 : Int} {x4 : Int} {x5 : Int} {x6 : Int}
    (k : ((x4 ≤ x6 → Q [aI 0] am_R0 h) ∧ (x6 < x4 → ((-2147483648 ≤ ((x2 + x6) : Int) ∧ ((x2 + x6) : Int) < 2147483648)) ∧ ((x5 ≤ (x2 + x6) → ((-2147483648 ≤ ((x2 + x6) : Int) ∧ ((x2 + x6) : Int) < 2147483648)) ∧ (((x2 + x6) < x5 → ((-2147483648 ≤ ((x2 + x6) : Int) ∧ ((x2 + x6) : Int) < 2147483648)) ∧ (((x2 + x6) < x5 → Q [aI 1] am_R0 h) ∧ (x5 ≤ (x2 + x6) → Q [aI (-1)] am_R0 h))) ∧ (x5 ≤ (x2 + x6) → ((-2147483648 ≤ ((x3 + x6) : Int) ∧ ((x3 + x6) : Int) < 2147483648)) ∧ (((x3 + x6) < x5 → ((-2147483648 ≤ ((x2 + x6) : Int) ∧ ((x2 + x6) : Int) < 2147483648)) ∧ (((x2 + x6) < x5 → Q [aI 1] am_R0 h) ∧ (x5 ≤ (x2 + x6) → Q [aI (-1)] am_R0 h))) ∧ (x5 ≤ (x3 + x6) → Q [aI 0] am_R0 h))))) ∧ ((x2 + x6) < x5 → ((-2147483648 ≤ ((x3 + x6) : Int) ∧ ((x3 + x6) : Int) < 2147483648)) ∧ (((x3 + x6) < x5 → ((-2147483648 ≤ ((64 * x1) : Int) ∧ ((64 * x1) : Int) < 2147483648) ∧ (-2147483648 ≤ (((64 * x1) + x2) : Int) ∧ (((64 * x1) + x2) : Int) < 2147483648) ∧ (-2147483648 ≤ ((((64 * x1) + x2) + x6) : Int) ∧ ((((64 * x1) + x2) + x6) : Int) < 2147483648) ∧ (0 : Int) ≤ (((64 * x1) + x2) + x6) ∧ ((((64 * x1) + x2) + x6) : Int) < 576 ∧ (-2147483648 ≤ ((64 * x1) : Int) ∧ ((64 * x1) : Int) < 2147483648) ∧ (-2147483648 ≤ (((64 * x1) + x3) : Int) ∧ (((64 * x1) + x3) : Int) < 2147483648) ∧ (-2147483648 ≤ ((((64 * x1) + x3) + x6) : Int) ∧ ((((64 * x1) + x3) + x6) : Int) < 2147483648) ∧ (0 : Int) ≤ (((64 * x1) + x3) + x6) ∧ ((((64 * x1) + x3) + x6) : Int) < 576) ∧ (((h 73 (((64 * x1) + x2) + x6)) = (h 73 (((64 * x1) + x3) + x6)) → ((-2147483648 ≤ ((x6 + 1) : Int) ∧ ((x6 + 1) : Int) < 2147483648)) ∧ am_V M_X11_compared kc ks 11 [aR 72, aI x1, aI x2, aI x3, aI x4, aI x5, aI (x6 + 1)] [] am_R0 h Q X) ∧ ((h 73 (((64 * x1) + x2) + x6)) ≠ (h 73 (((64 * x1) + x3) + x6)) → ((-2147483648 ≤ ((64 * x1) : Int) ∧ ((64 * x1) : Int) < 2147483648) ∧ (-2147483648 ≤ (((64 * x1) + x2) : Int) ∧ (((64 * x1) + x2) : Int) < 2147483648) ∧ (-2147483648 ≤ ((((64 * x1) + x2) + x6) : Int) ∧ ((((64 * x1) + x2) + x6) : Int) < 2147483648) ∧ (0 : Int) ≤ (((64 * x1) + x2) + x6) ∧ ((((64 * x1) + x2) + x6) : Int) < 576 ∧ (-2147483648 ≤ ((64 * x1) : Int) ∧ ((64 * x1) : Int) < 2147483648) ∧ (-2147483648 ≤ (((64 * x1) + x3) : Int) ∧ (((64 * x1) + x3) : Int) < 2147483648) ∧ (-2147483648 ≤ ((((64 * x1) + x3) + x6) : Int) ∧ ((((64 * x1) + x3) + x6) : Int) < 2147483648) ∧ (0 : Int) ≤ (((64 * x1) + x3) + x6) ∧ ((((64 * x1) + x3) + x6) : Int) < 576) ∧ (((h 73 (((64 * x1) + x3) + x6)) ≤ (h 73 (((64 * x1) + x2) + x6)) → Q [aI 1] am_R0 h) ∧ ((h 73 (((64 * x1) + x2) + x6)) < (h 73 (((64 * x1) + x3) + x6)) → Q [aI (-1)] am_R0 h))))) ∧ (x5 ≤ (x3 + x6) → ((-2147483648 ≤ ((x2 + x6) : Int) ∧ ((x2 + x6) : Int) < 2147483648)) ∧ (((x2 + x6) < x5 → ((-2147483648 ≤ ((x2 + x6) : Int) ∧ ((x2 + x6) : Int) < 2147483648)) ∧ (((x2 + x6) < x5 → Q [aI 1] am_R0 h) ∧ (x5 ≤ (x2 + x6) → Q [aI (-1)] am_R0 h))) ∧ (x5 ≤ (x2 + x6) → ((-2147483648 ≤ ((x3 + x6) : Int) ∧ ((x3 + x6) : Int) < 2147483648)) ∧ (((x3 + x6) < x5 → ((-2147483648 ≤ ((x2 + x6) : Int) ∧ ((x2 + x6) : Int) < 2147483648)) ∧ (((x2 + x6) < x5 → Q [aI 1] am_R0 h) ∧ (x5 ≤ (x2 + x6) → Q [aI (-1)] am_R0 h))) ∧ (x5 ≤ (x3 + x6) → Q [aI 0] am_R0 h))))))))))) :
    am_V M_X11_compared kc ks 11 [aR 72, aI x1, aI x2, aI x3, aI x4, aI x5, aI x6] [] am_R0 h Q X := by
  refine v_iload dX11_compared_11 rfl ?_
  refine v_iload dX11_compared_13 rfl ?_
  refine v_icmp_ge (tgt := 147) dX11_compared_15 (by decide) (fun z => ?_) (fun z => ?_)
  · have k := k.1 z
    refine v_iconst dX11_compared_147 ⟨by decide, by decide⟩ ?_
    exact v_iret dX11_compared_148 rfl rfl k
  · have k := k.2 z
    obtain ⟨b1_1, k⟩ := k
    refine v_iload_n dX11_compared_18 rfl rfl ?_
    refine v_iload dX11_compared_19 rfl ?_
    refine v_iadd dX11_compared_21 b1_1 ?_
    refine v_iload dX11_compared_22 rfl ?_
    refine v_icmp_ge (tgt := 36) dX11_compared_24 (by decide) (fun z => ?_) (fun z => ?_)
    · have k := k.1 z
      obtain ⟨b2_1, k⟩ := k
      refine v_iload_n dX11_compared_36 rfl rfl ?_
      refine v_iload dX11_compared_37 rfl ?_
      refine v_iadd dX11_compared_39 b2_1 ?_
      refine v_iload dX11_compared_40 rfl ?_
      refine v_icmp_lt (tgt := 58) dX11_compared_42 (by decide) (fun z => ?_) (fun z => ?_)
      · have k := k.1 z
        obtain ⟨b3_1, k⟩ := k
        refine v_iload_n dX11_compared_58 rfl rfl ?_
        refine v_iload dX11_compared_59 rfl ?_
        refine v_iadd dX11_compared_61 b3_1 ?_
        refine v_iload dX11_compared_62 rfl ?_
        refine v_icmp_lt (tgt := 71) dX11_compared_64 (by decide) (fun z => ?_) (fun z => ?_)
        · have k := k.1 z
          refine v_iconst dX11_compared_71 ⟨by decide, by decide⟩ ?_
          exact v_iret dX11_compared_72 rfl rfl k
        · have k := k.2 z
          refine v_iconst dX11_compared_67 ⟨by decide, by decide⟩ ?_
          refine v_goto (tgt := 72) dX11_compared_68 (by decide) ?_
          exact v_iret dX11_compared_72 rfl rfl k
      · have k := k.2 z
        obtain ⟨b3_1, k⟩ := k
        refine v_iload_n dX11_compared_45 rfl rfl ?_
        refine v_iload dX11_compared_46 rfl ?_
        refine v_iadd dX11_compared_48 b3_1 ?_
        refine v_iload dX11_compared_49 rfl ?_
        refine v_icmp_lt (tgt := 58) dX11_compared_51 (by decide) (fun z => ?_) (fun z => ?_)
        · have k := k.1 z
          obtain ⟨b4_1, k⟩ := k
          refine v_iload_n dX11_compared_58 rfl rfl ?_
          refine v_iload dX11_compared_59 rfl ?_
          refine v_iadd dX11_compared_61 b4_1 ?_
          refine v_iload dX11_compared_62 rfl ?_
          refine v_icmp_lt (tgt := 71) dX11_compared_64 (by decide) (fun z => ?_) (fun z => ?_)
          · have k := k.1 z
            refine v_iconst dX11_compared_71 ⟨by decide, by decide⟩ ?_
            exact v_iret dX11_compared_72 rfl rfl k
          · have k := k.2 z
            refine v_iconst dX11_compared_67 ⟨by decide, by decide⟩ ?_
            refine v_goto (tgt := 72) dX11_compared_68 (by decide) ?_
            exact v_iret dX11_compared_72 rfl rfl k
        · have k := k.2 z
          refine v_iconst dX11_compared_54 ⟨by decide, by decide⟩ ?_
          refine v_goto (tgt := 72) dX11_compared_55 (by decide) ?_
          exact v_iret dX11_compared_72 rfl rfl k
    · have k := k.2 z
      obtain ⟨b2_1, k⟩ := k
      refine v_iload_n dX11_compared_27 rfl rfl ?_
      refine v_iload dX11_compared_28 rfl ?_
      refine v_iadd dX11_compared_30 b2_1 ?_
      refine v_iload dX11_compared_31 rfl ?_
      refine v_icmp_lt (tgt := 73) dX11_compared_33 (by decide) (fun z => ?_) (fun z => ?_)
      · have k := k.1 z
        obtain ⟨⟨b3_1, b3_2, b3_3, b3_4, b3_5, b3_6, b3_7, b3_8, b3_9, b3_10⟩, k⟩ := k
        refine v_aload_n dX11_compared_73 rfl rfl ?_
        refine v_getR (x := 73) dX11_compared_74 fl_X11_7 am_clsA rfl rfl rfl ?_
        refine v_bipush dX11_compared_77 (by decide) (by decide) ?_
        refine v_iload_n dX11_compared_79 rfl rfl ?_
        refine v_imul dX11_compared_80 b3_1 ?_
        refine v_iload_n dX11_compared_81 rfl rfl ?_
        refine v_iadd dX11_compared_82 b3_2 ?_
        refine v_iload dX11_compared_83 rfl ?_
        refine v_iadd dX11_compared_85 b3_3 ?_
        refine v_cald dX11_compared_86 rfl b3_4 b3_5 ?_
        refine v_aload_n dX11_compared_87 rfl rfl ?_
        refine v_getR (x := 73) dX11_compared_88 fl_X11_7 am_clsA rfl rfl rfl ?_
        refine v_bipush dX11_compared_91 (by decide) (by decide) ?_
        refine v_iload_n dX11_compared_93 rfl rfl ?_
        refine v_imul dX11_compared_94 b3_6 ?_
        refine v_iload_n dX11_compared_95 rfl rfl ?_
        refine v_iadd dX11_compared_96 b3_7 ?_
        refine v_iload dX11_compared_97 rfl ?_
        refine v_iadd dX11_compared_99 b3_8 ?_
        refine v_cald dX11_compared_100 rfl b3_9 b3_10 ?_
        refine v_icmp_eq (tgt := 141) dX11_compared_101 (by decide) (fun z => ?_) (fun z => ?_)
        · have k := k.1 z
          obtain ⟨b4_1, k⟩ := k
          refine v_iinc (E2 := [aR 72, aI x1, aI x2, aI x3, aI x4, aI x5, aI (x6 + 1)]) dX11_compared_141 rfl b4_1 rfl ?_
          refine v_goto (tgt := 11) dX11_compared_144 (by decide) ?_
          exact k
        · have k := k.2 z
          obtain ⟨⟨b4_1, b4_2, b4_3, b4_4, b4_5, b4_6, b4_7, b4_8, b4_9, b4_10⟩, k⟩ := k
          refine v_aload_n dX11_compared_104 rfl rfl ?_
          refine v_getR (x := 73) dX11_compared_105 fl_X11_7 am_clsA rfl rfl rfl ?_
          refine v_bipush dX11_compared_108 (by decide) (by decide) ?_
          refine v_iload_n dX11_compared_110 rfl rfl ?_
          refine v_imul dX11_compared_111 b4_1 ?_
          refine v_iload_n dX11_compared_112 rfl rfl ?_
          refine v_iadd dX11_compared_113 b4_2 ?_
          refine v_iload dX11_compared_114 rfl ?_
          refine v_iadd dX11_compared_116 b4_3 ?_
          refine v_cald dX11_compared_117 rfl b4_4 b4_5 ?_
          refine v_aload_n dX11_compared_118 rfl rfl ?_
          refine v_getR (x := 73) dX11_compared_119 fl_X11_7 am_clsA rfl rfl rfl ?_
          refine v_bipush dX11_compared_122 (by decide) (by decide) ?_
          refine v_iload_n dX11_compared_124 rfl rfl ?_
          refine v_imul dX11_compared_125 b4_6 ?_
          refine v_iload_n dX11_compared_126 rfl rfl ?_
          refine v_iadd dX11_compared_127 b4_7 ?_
          refine v_iload dX11_compared_128 rfl ?_
          refine v_iadd dX11_compared_130 b4_8 ?_
          refine v_cald dX11_compared_131 rfl b4_9 b4_10 ?_
          refine v_icmp_ge (tgt := 139) dX11_compared_132 (by decide) (fun z => ?_) (fun z => ?_)
          · have k := k.1 z
            refine v_iconst dX11_compared_139 ⟨by decide, by decide⟩ ?_
            exact v_iret dX11_compared_140 rfl rfl k
          · have k := k.2 z
            refine v_iconst dX11_compared_135 ⟨by decide, by decide⟩ ?_
            refine v_goto (tgt := 140) dX11_compared_136 (by decide) ?_
            exact v_iret dX11_compared_140 rfl rfl k
      · have k := k.2 z
        obtain ⟨b3_1, k⟩ := k
        refine v_iload_n dX11_compared_36 rfl rfl ?_
        refine v_iload dX11_compared_37 rfl ?_
        refine v_iadd dX11_compared_39 b3_1 ?_
        refine v_iload dX11_compared_40 rfl ?_
        refine v_icmp_lt (tgt := 58) dX11_compared_42 (by decide) (fun z => ?_) (fun z => ?_)
        · have k := k.1 z
          obtain ⟨b4_1, k⟩ := k
          refine v_iload_n dX11_compared_58 rfl rfl ?_
          refine v_iload dX11_compared_59 rfl ?_
          refine v_iadd dX11_compared_61 b4_1 ?_
          refine v_iload dX11_compared_62 rfl ?_
          refine v_icmp_lt (tgt := 71) dX11_compared_64 (by decide) (fun z => ?_) (fun z => ?_)
          · have k := k.1 z
            refine v_iconst dX11_compared_71 ⟨by decide, by decide⟩ ?_
            exact v_iret dX11_compared_72 rfl rfl k
          · have k := k.2 z
            refine v_iconst dX11_compared_67 ⟨by decide, by decide⟩ ?_
            refine v_goto (tgt := 72) dX11_compared_68 (by decide) ?_
            exact v_iret dX11_compared_72 rfl rfl k
        · have k := k.2 z
          obtain ⟨b4_1, k⟩ := k
          refine v_iload_n dX11_compared_45 rfl rfl ?_
          refine v_iload dX11_compared_46 rfl ?_
          refine v_iadd dX11_compared_48 b4_1 ?_
          refine v_iload dX11_compared_49 rfl ?_
          refine v_icmp_lt (tgt := 58) dX11_compared_51 (by decide) (fun z => ?_) (fun z => ?_)
          · have k := k.1 z
            obtain ⟨b5_1, k⟩ := k
            refine v_iload_n dX11_compared_58 rfl rfl ?_
            refine v_iload dX11_compared_59 rfl ?_
            refine v_iadd dX11_compared_61 b5_1 ?_
            refine v_iload dX11_compared_62 rfl ?_
            refine v_icmp_lt (tgt := 71) dX11_compared_64 (by decide) (fun z => ?_) (fun z => ?_)
            · have k := k.1 z
              refine v_iconst dX11_compared_71 ⟨by decide, by decide⟩ ?_
              exact v_iret dX11_compared_72 rfl rfl k
            · have k := k.2 z
              refine v_iconst dX11_compared_67 ⟨by decide, by decide⟩ ?_
              refine v_goto (tgt := 72) dX11_compared_68 (by decide) ?_
              exact v_iret dX11_compared_72 rfl rfl k
          · have k := k.2 z
            refine v_iconst dX11_compared_54 ⟨by decide, by decide⟩ ?_
            refine v_goto (tgt := 72) dX11_compared_55 (by decide) ?_
            exact v_iret dX11_compared_72 rfl rfl k
theorem S_X11_isNoRank_0 {kc ks : Nat} {h : Hh} {Q : PQ} {X : PX} {x1 : Int} {x2 : Int}
    (k : am_V M_X11_isPlace 0 0 0 [aR 72, aI x1, aI x2] [] am_R0 h (fun v ρ' h' => am_V M_X11_isNoRank kc ks 7 [aU, aU, aU] (v ++ [aR 72]) ρ' h' Q X) X) :
    am_V M_X11_isNoRank kc ks 0 [aR 72, aI x1, aI x2] [] am_R0 h Q X := by
  refine v_aload_n dX11_isNoRank_0 rfl rfl ?_
  refine v_aload_n dX11_isNoRank_1 rfl rfl ?_
  refine v_iload_n dX11_isNoRank_2 rfl rfl ?_
  refine v_iload_n dX11_isNoRank_3 rfl rfl ?_
  refine v_weak (E2 := [aU, aU, aU]) ⟨Or.inr rfl, ⟨Or.inr rfl, ⟨Or.inr rfl, trivial⟩⟩⟩ ?_
  exact v_callV (j := M_X11_isPlace) (As := [aI x1, aI x2]) (st := [aR 72]) (E0 := [aR 72, aI x1, aI x2]) (a := 72) (ci := 9) (N := 11) (q9 := (RX11, TX11, 11)) dX11_isNoRank_4 ml_X11_71 J_X11_isPlace (Nat.zero_le _) (Nat.zero_le _) (Nat.le_of_ble_eq_true rfl) rfl (Nat.le_of_ble_eq_true rfl) (List.forall_mem_cons.mpr ⟨rfl, List.forall_mem_cons.mpr ⟨rfl, List.forall_mem_cons.mpr ⟨rfl, fun _ h9 => absurd h9 List.not_mem_nil⟩⟩⟩) (Nat.le_of_ble_eq_true rfl) rfl rfl rfl rfl pn_X11_isPlace rfl k
theorem S_X11_isNoRank_7 {kc ks : Nat} {h : Hh} {Q : PQ} {X : PX} {xs0 : Int}
    (k : ((xs0 = 0 → am_V M_X11_isWrong 0 0 0 [aR 72, aI 1] [] am_R0 h (fun v ρ' h' => am_V M_X11_isNoRank kc ks 18 [aU, aU, aU] (v ++ []) ρ' h' Q X) X) ∧ (xs0 ≠ 0 → am_V M_X11_isWrong 0 0 0 [aR 72, aI 0] [] am_R0 h (fun v ρ' h' => am_V M_X11_isNoRank kc ks 18 [aU, aU, aU] (v ++ []) ρ' h' Q X) X))) :
    am_V M_X11_isNoRank kc ks 7 [aU, aU, aU] [aI xs0, aR 72] am_R0 h Q X := by
  refine v_if_eq (tgt := 14) dX11_isNoRank_7 (by decide) (fun z => ?_) (fun z => ?_)
  · have k := k.1 z
    refine v_iconst dX11_isNoRank_14 ⟨by decide, by decide⟩ ?_
    exact v_callV (j := M_X11_isWrong) (As := [aI 1]) (st := []) (E0 := [aR 72, aI 1]) (a := 72) (ci := 9) (N := 11) (q9 := (RX11, TX11, 11)) dX11_isNoRank_15 ml_X11_57 J_X11_isWrong (Nat.zero_le _) (Nat.zero_le _) (Nat.le_of_ble_eq_true rfl) rfl (Nat.le_of_ble_eq_true rfl) (List.forall_mem_cons.mpr ⟨rfl, List.forall_mem_cons.mpr ⟨rfl, fun _ h9 => absurd h9 List.not_mem_nil⟩⟩) (Nat.le_of_ble_eq_true rfl) rfl rfl rfl rfl pn_X11_isWrong rfl k
  · have k := k.2 z
    refine v_iconst dX11_isNoRank_10 ⟨by decide, by decide⟩ ?_
    refine v_goto (tgt := 15) dX11_isNoRank_11 (by decide) ?_
    exact v_callV (j := M_X11_isWrong) (As := [aI 0]) (st := []) (E0 := [aR 72, aI 0]) (a := 72) (ci := 9) (N := 11) (q9 := (RX11, TX11, 11)) dX11_isNoRank_15 ml_X11_57 J_X11_isWrong (Nat.zero_le _) (Nat.zero_le _) (Nat.le_of_ble_eq_true rfl) rfl (Nat.le_of_ble_eq_true rfl) (List.forall_mem_cons.mpr ⟨rfl, List.forall_mem_cons.mpr ⟨rfl, fun _ h9 => absurd h9 List.not_mem_nil⟩⟩) (Nat.le_of_ble_eq_true rfl) rfl rfl rfl rfl pn_X11_isWrong rfl k
theorem S_X11_isNoRank_18 {kc ks : Nat} {h : Hh} {Q : PQ} {X : PX} {xs0 : Int}
    (k : ((xs0 = 0 ∨ xs0 = 1)) ∧ Q [aI xs0] am_R0 h) :
    am_V M_X11_isNoRank kc ks 18 [aU, aU, aU] [aI xs0] am_R0 h Q X := by
  obtain ⟨b0_1, k⟩ := k
  exact v_zret dX11_isNoRank_18 rfl rfl b0_1 k
theorem S_X11_endAt_0 {kc ks : Nat} {h : Hh} {Q : PQ} {X : PX} {x1 : Int} {x2 : Int}
    (k : am_V M_X11_isNoRank 0 0 0 [aR 72, aI x1, aI x2] [] am_R0 h (fun v ρ' h' => am_V M_X11_endAt kc ks 6 [aR 72, aI x1, aI x2] (v ++ []) ρ' h' Q X) X) :
    am_V M_X11_endAt kc ks 0 [aR 72, aI x1, aI x2] [] am_R0 h Q X := by
  refine v_aload_n dX11_endAt_0 rfl rfl ?_
  refine v_iload_n dX11_endAt_1 rfl rfl ?_
  refine v_iload_n dX11_endAt_2 rfl rfl ?_
  exact v_callV (j := M_X11_isNoRank) (As := [aI x1, aI x2]) (st := []) (E0 := [aR 72, aI x1, aI x2]) (a := 72) (ci := 9) (N := 11) (q9 := (RX11, TX11, 11)) dX11_endAt_3 ml_X11_90 J_X11_isNoRank (Nat.zero_le _) (Nat.zero_le _) (Nat.le_of_ble_eq_true rfl) rfl (Nat.le_of_ble_eq_true rfl) (List.forall_mem_cons.mpr ⟨rfl, List.forall_mem_cons.mpr ⟨rfl, List.forall_mem_cons.mpr ⟨rfl, fun _ h9 => absurd h9 List.not_mem_nil⟩⟩⟩) (Nat.le_of_ble_eq_true rfl) rfl rfl rfl rfl pn_X11_isNoRank rfl k
theorem S_X11_endAt_6 {kc ks : Nat} {h : Hh} {Q : PQ} {X : PX} {x1 : Int} {x2 : Int} {xs0 : Int}
    (k : ((xs0 = 0 → am_V M_X11_sorts 0 0 0 [aR 72, aI x1, aU] [] am_R0 h (fun v ρ' h' => am_V M_X11_endAt kc ks 16 [aR 72, aU, aI x2] (v ++ []) ρ' h' Q X) X) ∧ (xs0 ≠ 0 → Q [aI 0] am_R0 h))) :
    am_V M_X11_endAt kc ks 6 [aR 72, aI x1, aI x2] [aI xs0] am_R0 h Q X := by
  refine v_if_eq (tgt := 11) dX11_endAt_6 (by decide) (fun z => ?_) (fun z => ?_)
  · have k := k.1 z
    refine v_aload_n dX11_endAt_11 rfl rfl ?_
    refine v_iload_n dX11_endAt_12 rfl rfl ?_
    refine v_weak (E2 := [aR 72, aU, aI x2]) ⟨Or.inl rfl, ⟨Or.inr rfl, ⟨Or.inl rfl, trivial⟩⟩⟩ ?_
    exact v_callV (j := M_X11_sorts) (As := [aI x1]) (st := []) (E0 := [aR 72, aI x1, aU]) (a := 72) (ci := 9) (N := 11) (q9 := (RX11, TX11, 11)) dX11_endAt_13 ml_X11_93 J_X11_sorts (Nat.zero_le _) (Nat.zero_le _) (Nat.le_of_ble_eq_true rfl) rfl (Nat.le_of_ble_eq_true rfl) (List.forall_mem_cons.mpr ⟨rfl, List.forall_mem_cons.mpr ⟨rfl, fun _ h9 => absurd h9 List.not_mem_nil⟩⟩) (Nat.le_of_ble_eq_true rfl) rfl rfl rfl rfl pn_X11_sorts rfl k
  · have k := k.2 z
    refine v_iconst dX11_endAt_9 ⟨by decide, by decide⟩ ?_
    exact v_iret dX11_endAt_10 rfl rfl k
theorem S_X11_endAt_16 {kc ks : Nat} {h : Hh} {Q : PQ} {X : PX} {x2 : Int}
    (k : ((0 : Int) ≤ x2 ∧ (x2 : Int) < 64) ∧ Q [aI (h 76 x2)] am_R0 h) :
    am_V M_X11_endAt kc ks 16 [aR 72, aU, aI x2] [] am_R0 h Q X := by
  obtain ⟨⟨b0_1, b0_2⟩, k⟩ := k
  refine v_aload_n dX11_endAt_16 rfl rfl ?_
  refine v_getR (x := 76) dX11_endAt_17 fl_X11_20 am_clsA rfl rfl rfl ?_
  refine v_iload_n dX11_endAt_20 rfl rfl ?_
  refine v_iald dX11_endAt_21 rfl b0_1 b0_2 ?_
  exact v_iret dX11_endAt_22 rfl rfl k
theorem S_X11_isFirst_0 {kc ks : Nat} {h : Hh} {Q : PQ} {X : PX} {x1 : Int} {x2 : Int} {x3 : Int}
    (k : am_V M_X11_isFirst kc ks 3 [aR 72, aI x1, aI x2, aI x3, aI 0] [] am_R0 h Q X) :
    am_V M_X11_isFirst kc ks 0 [aR 72, aI x1, aI x2, aI x3, aU] [] am_R0 h Q X := by
  refine v_iconst dX11_isFirst_0 ⟨by decide, by decide⟩ ?_
  refine v_istore (E2 := [aR 72, aI x1, aI x2, aI x3, aI 0]) dX11_isFirst_1 (Nat.le_of_ble_eq_true rfl) rfl ?_
  exact k
theorem S_X11_isFirst_3 {kc ks : Nat} {h : Hh} {Q : PQ} {X : PX} {x1 : Int} {x2 : Int} {x3 : Int} {x4 : Int}
    (k : ((x2 ≤ x4 → Q [aI 1] am_R0 h) ∧ (x4 < x2 → am_V M_X11_compared 0 0 0 [aR 72, aI x1, aI x4, aI x2, aI x3, aU, aU] [] am_R0 h (fun v ρ' h' => am_V M_X11_isFirst kc ks 18 [aR 72, aI x1, aI x2, aI x3, aI x4] (v ++ []) ρ' h' Q X) X))) :
    am_V M_X11_isFirst kc ks 3 [aR 72, aI x1, aI x2, aI x3, aI x4] [] am_R0 h Q X := by
  refine v_iload dX11_isFirst_3 rfl ?_
  refine v_iload_n dX11_isFirst_5 rfl rfl ?_
  refine v_icmp_ge (tgt := 29) dX11_isFirst_6 (by decide) (fun z => ?_) (fun z => ?_)
  · have k := k.1 z
    refine v_iconst dX11_isFirst_29 ⟨by decide, by decide⟩ ?_
    exact v_zret dX11_isFirst_30 rfl rfl (Or.inr rfl) k
  · have k := k.2 z
    refine v_aload_n dX11_isFirst_9 rfl rfl ?_
    refine v_iload_n dX11_isFirst_10 rfl rfl ?_
    refine v_iload dX11_isFirst_11 rfl ?_
    refine v_iload_n dX11_isFirst_13 rfl rfl ?_
    refine v_iload_n dX11_isFirst_14 rfl rfl ?_
    exact v_callV (j := M_X11_compared) (As := [aI x1, aI x4, aI x2, aI x3]) (st := []) (E0 := [aR 72, aI x1, aI x4, aI x2, aI x3, aU, aU]) (a := 72) (ci := 9) (N := 11) (q9 := (RX11, TX11, 11)) dX11_isFirst_15 ml_X11_86 J_X11_compared (Nat.zero_le _) (Nat.zero_le _) (Nat.le_of_ble_eq_true rfl) rfl (Nat.le_of_ble_eq_true rfl) (List.forall_mem_cons.mpr ⟨rfl, List.forall_mem_cons.mpr ⟨rfl, List.forall_mem_cons.mpr ⟨rfl, List.forall_mem_cons.mpr ⟨rfl, List.forall_mem_cons.mpr ⟨rfl, fun _ h9 => absurd h9 List.not_mem_nil⟩⟩⟩⟩⟩) (Nat.le_of_ble_eq_true rfl) rfl rfl rfl rfl pn_X11_compared rfl k
theorem S_X11_isFirst_18 {kc ks : Nat} {h : Hh} {Q : PQ} {X : PX} {x1 : Int} {x2 : Int} {x3 : Int} {x4 : Int} {xs0 : Int}
    (k : ((xs0 ≠ 0 → ((-2147483648 ≤ ((x4 + 1) : Int) ∧ ((x4 + 1) : Int) < 2147483648)) ∧ am_V M_X11_isFirst kc ks 3 [aR 72, aI x1, aI x2, aI x3, aI (x4 + 1)] [] am_R0 h Q X) ∧ (xs0 = 0 → Q [aI 0] am_R0 h))) :
    am_V M_X11_isFirst kc ks 18 [aR 72, aI x1, aI x2, aI x3, aI x4] [aI xs0] am_R0 h Q X := by
  refine v_if_ne (tgt := 23) dX11_isFirst_18 (by decide) (fun z => ?_) (fun z => ?_)
  · have k := k.1 z
    obtain ⟨b1_1, k⟩ := k
    refine v_iinc (E2 := [aR 72, aI x1, aI x2, aI x3, aI (x4 + 1)]) dX11_isFirst_23 rfl b1_1 rfl ?_
    refine v_goto (tgt := 3) dX11_isFirst_26 (by decide) ?_
    exact k
  · have k := k.2 z
    refine v_iconst dX11_isFirst_21 ⟨by decide, by decide⟩ ?_
    exact v_zret dX11_isFirst_22 rfl rfl (Or.inl rfl) k
theorem S_X11_classesBy_0 {kc ks : Nat} {h : Hh} {Q : PQ} {X : PX} {x1 : Int} {x2 : Int}
    (k : am_V M_X11_classesBy kc ks 5 [aR 72, aI x1, aI x2, aI 0, aI 0] [] am_R0 h Q X) :
    am_V M_X11_classesBy kc ks 0 [aR 72, aI x1, aI x2, aU, aU] [] am_R0 h Q X := by
  refine v_iconst dX11_classesBy_0 ⟨by decide, by decide⟩ ?_
  refine v_istore_n (E2 := [aR 72, aI x1, aI x2, aI 0, aU]) dX11_classesBy_1 rfl (Nat.le_of_ble_eq_true rfl) rfl ?_
  refine v_iconst dX11_classesBy_2 ⟨by decide, by decide⟩ ?_
  refine v_istore (E2 := [aR 72, aI x1, aI x2, aI 0, aI 0]) dX11_classesBy_3 (Nat.le_of_ble_eq_true rfl) rfl ?_
  exact k
theorem S_X11_classesBy_5 {kc ks : Nat} {h : Hh} {Q : PQ} {X : PX} {x1 : Int} {x2 : Int} {x3 : Int} {x4 : Int}
    (k : ((0 : Int) ≤ x1 ∧ (x1 : Int) < 9) ∧ (((h 74 x1) ≤ x4 → Q [aI x3] am_R0 h) ∧ (x4 < (h 74 x1) → am_V M_X11_isFirst 0 0 0 [aR 72, aI x1, aI x4, aI x2, aU] [] am_R0 h (fun v ρ' h' => am_V M_X11_classesBy kc ks 25 [aR 72, aI x1, aI x2, aU, aI x4] (v ++ [aI x3]) ρ' h' Q X) X))) :
    am_V M_X11_classesBy kc ks 5 [aR 72, aI x1, aI x2, aI x3, aI x4] [] am_R0 h Q X := by
  obtain ⟨⟨b0_1, b0_2⟩, k⟩ := k
  refine v_iload dX11_classesBy_5 rfl ?_
  refine v_aload_n dX11_classesBy_7 rfl rfl ?_
  refine v_getR (x := 74) dX11_classesBy_8 fl_X11_13 am_clsA rfl rfl rfl ?_
  refine v_iload_n dX11_classesBy_11 rfl rfl ?_
  refine v_iald dX11_classesBy_12 rfl b0_1 b0_2 ?_
  refine v_icmp_ge (tgt := 41) dX11_classesBy_13 (by decide) (fun z => ?_) (fun z => ?_)
  · have k := k.1 z
    refine v_iload_n dX11_classesBy_41 rfl rfl ?_
    exact v_iret dX11_classesBy_42 rfl rfl k
  · have k := k.2 z
    refine v_iload_n dX11_classesBy_16 rfl rfl ?_
    refine v_aload_n dX11_classesBy_17 rfl rfl ?_
    refine v_iload_n dX11_classesBy_18 rfl rfl ?_
    refine v_iload dX11_classesBy_19 rfl ?_
    refine v_iload_n dX11_classesBy_21 rfl rfl ?_
    refine v_weak (E2 := [aR 72, aI x1, aI x2, aU, aI x4]) ⟨Or.inl rfl, ⟨Or.inl rfl, ⟨Or.inl rfl, ⟨Or.inr rfl, ⟨Or.inl rfl, trivial⟩⟩⟩⟩⟩ ?_
    exact v_callV (j := M_X11_isFirst) (As := [aI x1, aI x4, aI x2]) (st := [aI x3]) (E0 := [aR 72, aI x1, aI x4, aI x2, aU]) (a := 72) (ci := 9) (N := 11) (q9 := (RX11, TX11, 11)) dX11_classesBy_22 ml_X11_96 J_X11_isFirst (Nat.zero_le _) (Nat.zero_le _) (Nat.le_of_ble_eq_true rfl) rfl (Nat.le_of_ble_eq_true rfl) (List.forall_mem_cons.mpr ⟨rfl, List.forall_mem_cons.mpr ⟨rfl, List.forall_mem_cons.mpr ⟨rfl, List.forall_mem_cons.mpr ⟨rfl, fun _ h9 => absurd h9 List.not_mem_nil⟩⟩⟩⟩) (Nat.le_of_ble_eq_true rfl) rfl rfl rfl rfl pn_X11_isFirst rfl k
theorem S_X11_classesBy_25 {kc ks : Nat} {h : Hh} {Q : PQ} {X : PX} {x1 : Int} {x2 : Int} {x4 : Int} {xs0 : Int} {xs1 : Int}
    (k : ((xs0 = 0 → ((-2147483648 ≤ ((xs1 + 0) : Int) ∧ ((xs1 + 0) : Int) < 2147483648) ∧ (-2147483648 ≤ ((x4 + 1) : Int) ∧ ((x4 + 1) : Int) < 2147483648)) ∧ am_V M_X11_classesBy kc ks 5 [aR 72, aI x1, aI x2, aI (xs1 + 0), aI (x4 + 1)] [] am_R0 h Q X) ∧ (xs0 ≠ 0 → ((-2147483648 ≤ ((xs1 + 1) : Int) ∧ ((xs1 + 1) : Int) < 2147483648) ∧ (-2147483648 ≤ ((x4 + 1) : Int) ∧ ((x4 + 1) : Int) < 2147483648)) ∧ am_V M_X11_classesBy kc ks 5 [aR 72, aI x1, aI x2, aI (xs1 + 1), aI (x4 + 1)] [] am_R0 h Q X))) :
    am_V M_X11_classesBy kc ks 25 [aR 72, aI x1, aI x2, aU, aI x4] [aI xs0, aI xs1] am_R0 h Q X := by
  refine v_if_eq (tgt := 32) dX11_classesBy_25 (by decide) (fun z => ?_) (fun z => ?_)
  · have k := k.1 z
    obtain ⟨⟨b1_1, b1_2⟩, k⟩ := k
    refine v_iconst dX11_classesBy_32 ⟨by decide, by decide⟩ ?_
    refine v_iadd dX11_classesBy_33 b1_1 ?_
    refine v_istore_n (E2 := [aR 72, aI x1, aI x2, aI (xs1 + 0), aI x4]) dX11_classesBy_34 rfl (Nat.le_of_ble_eq_true rfl) rfl ?_
    refine v_iinc (E2 := [aR 72, aI x1, aI x2, aI (xs1 + 0), aI (x4 + 1)]) dX11_classesBy_35 rfl b1_2 rfl ?_
    refine v_goto (tgt := 5) dX11_classesBy_38 (by decide) ?_
    exact k
  · have k := k.2 z
    obtain ⟨⟨b1_1, b1_2⟩, k⟩ := k
    refine v_iconst dX11_classesBy_28 ⟨by decide, by decide⟩ ?_
    refine v_goto (tgt := 33) dX11_classesBy_29 (by decide) ?_
    refine v_iadd dX11_classesBy_33 b1_1 ?_
    refine v_istore_n (E2 := [aR 72, aI x1, aI x2, aI (xs1 + 1), aI x4]) dX11_classesBy_34 rfl (Nat.le_of_ble_eq_true rfl) rfl ?_
    refine v_iinc (E2 := [aR 72, aI x1, aI x2, aI (xs1 + 1), aI (x4 + 1)]) dX11_classesBy_35 rfl b1_2 rfl ?_
    refine v_goto (tgt := 5) dX11_classesBy_38 (by decide) ?_
    exact k
theorem S_X11_classOf_0 {kc ks : Nat} {h : Hh} {Q : PQ} {X : PX} {x1 : Int} {x2 : Int} {x3 : Int}
    (k : am_V M_X11_isPlace 0 0 0 [aR 72, aI x1, aI x2] [] am_R0 h (fun v ρ' h' => am_V M_X11_classOf kc ks 7 [aR 72, aI x1, aI x2, aI x3, aU, aU] (v ++ [aR 72]) ρ' h' Q X) X) :
    am_V M_X11_classOf kc ks 0 [aR 72, aI x1, aI x2, aI x3, aU, aU] [] am_R0 h Q X := by
  refine v_aload_n dX11_classOf_0 rfl rfl ?_
  refine v_aload_n dX11_classOf_1 rfl rfl ?_
  refine v_iload_n dX11_classOf_2 rfl rfl ?_
  refine v_iload_n dX11_classOf_3 rfl rfl ?_
  exact v_callV (j := M_X11_isPlace) (As := [aI x1, aI x2]) (st := [aR 72]) (E0 := [aR 72, aI x1, aI x2]) (a := 72) (ci := 9) (N := 11) (q9 := (RX11, TX11, 11)) dX11_classOf_4 ml_X11_71 J_X11_isPlace (Nat.zero_le _) (Nat.zero_le _) (Nat.le_of_ble_eq_true rfl) rfl (Nat.le_of_ble_eq_true rfl) (List.forall_mem_cons.mpr ⟨rfl, List.forall_mem_cons.mpr ⟨rfl, List.forall_mem_cons.mpr ⟨rfl, fun _ h9 => absurd h9 List.not_mem_nil⟩⟩⟩) (Nat.le_of_ble_eq_true rfl) rfl rfl rfl rfl pn_X11_isPlace rfl k
theorem S_X11_classOf_7 {kc ks : Nat} {h : Hh} {Q : PQ} {X : PX} {x1 : Int} {x2 : Int} {x3 : Int} {xs0 : Int}
    (k : ((xs0 ≠ 0 → am_V M_X11_isBetween 0 0 0 [aI x3, aI 1, aI 64] [] am_R0 h (fun v ρ' h' => am_V M_X11_classOf kc ks 21 [aR 72, aI x1, aI x2, aI x3, aU, aU] (v ++ [aR 72]) ρ' h' Q X) X) ∧ (xs0 = 0 → am_V M_X11_isWrong 0 0 0 [aR 72, aI 1] [] am_R0 h (fun v ρ' h' => am_V M_X11_classOf kc ks 32 [aR 72, aI x1, aI x2, aI x3, aU, aU] (v ++ []) ρ' h' Q X) X))) :
    am_V M_X11_classOf kc ks 7 [aR 72, aI x1, aI x2, aI x3, aU, aU] [aI xs0, aR 72] am_R0 h Q X := by
  refine v_if_ne (tgt := 14) dX11_classOf_7 (by decide) (fun z => ?_) (fun z => ?_)
  · have k := k.1 z
    refine v_iload_n dX11_classOf_14 rfl rfl ?_
    refine v_iconst dX11_classOf_15 ⟨by decide, by decide⟩ ?_
    refine v_bipush dX11_classOf_16 (by decide) (by decide) ?_
    exact v_callS (j := M_X11_isBetween) (As := [aI x3, aI 1, aI 64]) (st := [aR 72]) (E0 := [aI x3, aI 1, aI 64]) dX11_classOf_18 ms_X11_42 J_X11_isBetween (Nat.zero_le _) (Nat.zero_le _) (Nat.le_of_ble_eq_true rfl) rfl (Nat.le_of_ble_eq_true rfl) (List.forall_mem_cons.mpr ⟨rfl, List.forall_mem_cons.mpr ⟨rfl, List.forall_mem_cons.mpr ⟨rfl, fun _ h9 => absurd h9 List.not_mem_nil⟩⟩⟩) (Nat.le_of_ble_eq_true rfl) rfl pn_X11_isBetween rfl k
  · have k := k.2 z
    refine v_iconst dX11_classOf_10 ⟨by decide, by decide⟩ ?_
    refine v_goto (tgt := 29) dX11_classOf_11 (by decide) ?_
    exact v_callV (j := M_X11_isWrong) (As := [aI 1]) (st := []) (E0 := [aR 72, aI 1]) (a := 72) (ci := 9) (N := 11) (q9 := (RX11, TX11, 11)) dX11_classOf_29 ml_X11_57 J_X11_isWrong (Nat.zero_le _) (Nat.zero_le _) (Nat.le_of_ble_eq_true rfl) rfl (Nat.le_of_ble_eq_true rfl) (List.forall_mem_cons.mpr ⟨rfl, List.forall_mem_cons.mpr ⟨rfl, fun _ h9 => absurd h9 List.not_mem_nil⟩⟩) (Nat.le_of_ble_eq_true rfl) rfl rfl rfl rfl pn_X11_isWrong rfl k
theorem S_X11_classOf_21 {kc ks : Nat} {h : Hh} {Q : PQ} {X : PX} {x1 : Int} {x2 : Int} {x3 : Int} {xs0 : Int}
    (k : ((xs0 ≠ 0 → am_V M_X11_isWrong 0 0 0 [aR 72, aI 0] [] am_R0 h (fun v ρ' h' => am_V M_X11_classOf kc ks 32 [aR 72, aI x1, aI x2, aI x3, aU, aU] (v ++ []) ρ' h' Q X) X) ∧ (xs0 = 0 → am_V M_X11_isWrong 0 0 0 [aR 72, aI 2] [] am_R0 h (fun v ρ' h' => am_V M_X11_classOf kc ks 32 [aR 72, aI x1, aI x2, aI x3, aU, aU] (v ++ []) ρ' h' Q X) X))) :
    am_V M_X11_classOf kc ks 21 [aR 72, aI x1, aI x2, aI x3, aU, aU] [aI xs0, aR 72] am_R0 h Q X := by
  refine v_if_ne (tgt := 28) dX11_classOf_21 (by decide) (fun z => ?_) (fun z => ?_)
  · have k := k.1 z
    refine v_iconst dX11_classOf_28 ⟨by decide, by decide⟩ ?_
    exact v_callV (j := M_X11_isWrong) (As := [aI 0]) (st := []) (E0 := [aR 72, aI 0]) (a := 72) (ci := 9) (N := 11) (q9 := (RX11, TX11, 11)) dX11_classOf_29 ml_X11_57 J_X11_isWrong (Nat.zero_le _) (Nat.zero_le _) (Nat.le_of_ble_eq_true rfl) rfl (Nat.le_of_ble_eq_true rfl) (List.forall_mem_cons.mpr ⟨rfl, List.forall_mem_cons.mpr ⟨rfl, fun _ h9 => absurd h9 List.not_mem_nil⟩⟩) (Nat.le_of_ble_eq_true rfl) rfl rfl rfl rfl pn_X11_isWrong rfl k
  · have k := k.2 z
    refine v_iconst dX11_classOf_24 ⟨by decide, by decide⟩ ?_
    refine v_goto (tgt := 29) dX11_classOf_25 (by decide) ?_
    exact v_callV (j := M_X11_isWrong) (As := [aI 2]) (st := []) (E0 := [aR 72, aI 2]) (a := 72) (ci := 9) (N := 11) (q9 := (RX11, TX11, 11)) dX11_classOf_29 ml_X11_57 J_X11_isWrong (Nat.zero_le _) (Nat.zero_le _) (Nat.le_of_ble_eq_true rfl) rfl (Nat.le_of_ble_eq_true rfl) (List.forall_mem_cons.mpr ⟨rfl, List.forall_mem_cons.mpr ⟨rfl, fun _ h9 => absurd h9 List.not_mem_nil⟩⟩) (Nat.le_of_ble_eq_true rfl) rfl rfl rfl rfl pn_X11_isWrong rfl k
theorem S_X11_classOf_32 {kc ks : Nat} {h : Hh} {Q : PQ} {X : PX} {x1 : Int} {x2 : Int} {x3 : Int} {xs0 : Int}
    (k : ((xs0 = 0 → am_V M_X11_classOf kc ks 43 [aR 72, aI x1, aI x2, aI x3, aI 0, aI 0] [] am_R0 h Q X) ∧ (xs0 ≠ 0 → Q [aI 0] am_R0 h))) :
    am_V M_X11_classOf kc ks 32 [aR 72, aI x1, aI x2, aI x3, aU, aU] [aI xs0] am_R0 h Q X := by
  refine v_if_eq (tgt := 37) dX11_classOf_32 (by decide) (fun z => ?_) (fun z => ?_)
  · have k := k.1 z
    refine v_iconst dX11_classOf_37 ⟨by decide, by decide⟩ ?_
    refine v_istore (E2 := [aR 72, aI x1, aI x2, aI x3, aI 0, aU]) dX11_classOf_38 (Nat.le_of_ble_eq_true rfl) rfl ?_
    refine v_iconst dX11_classOf_40 ⟨by decide, by decide⟩ ?_
    refine v_istore (E2 := [aR 72, aI x1, aI x2, aI x3, aI 0, aI 0]) dX11_classOf_41 (Nat.le_of_ble_eq_true rfl) rfl ?_
    exact k
  · have k := k.2 z
    refine v_iconst dX11_classOf_35 ⟨by decide, by decide⟩ ?_
    exact v_iret dX11_classOf_36 rfl rfl k
theorem S_X11_classOf_43 {kc ks : Nat} {h : Hh} {Q : PQ} {X : PX} {x1 : Int} {x2 : Int} {x3 : Int} {x4 : Int} {x5 : Int}
    (k : ((0 : Int) ≤ x1 ∧ (x1 : Int) < 9) ∧ (((h 74 x1) ≤ x5 → Q [aI x4] am_R0 h) ∧ (x5 < (h 74 x1) → am_V M_X11_isFirst 0 0 0 [aR 72, aI x1, aI x5, aI x3, aU] [] am_R0 h (fun v ρ' h' => am_V M_X11_classOf kc ks 64 [aR 72, aI x1, aI x2, aI x3, aU, aI x5] (v ++ [aI x4]) ρ' h' Q X) X))) :
    am_V M_X11_classOf kc ks 43 [aR 72, aI x1, aI x2, aI x3, aI x4, aI x5] [] am_R0 h Q X := by
  obtain ⟨⟨b0_1, b0_2⟩, k⟩ := k
  refine v_iload dX11_classOf_43 rfl ?_
  refine v_aload_n dX11_classOf_45 rfl rfl ?_
  refine v_getR (x := 74) dX11_classOf_46 fl_X11_13 am_clsA rfl rfl rfl ?_
  refine v_iload_n dX11_classOf_49 rfl rfl ?_
  refine v_iald dX11_classOf_50 rfl b0_1 b0_2 ?_
  refine v_icmp_ge (tgt := 93) dX11_classOf_51 (by decide) (fun z => ?_) (fun z => ?_)
  · have k := k.1 z
    refine v_iload dX11_classOf_93 rfl ?_
    exact v_iret dX11_classOf_95 rfl rfl k
  · have k := k.2 z
    refine v_iload dX11_classOf_54 rfl ?_
    refine v_aload_n dX11_classOf_56 rfl rfl ?_
    refine v_iload_n dX11_classOf_57 rfl rfl ?_
    refine v_iload dX11_classOf_58 rfl ?_
    refine v_iload_n dX11_classOf_60 rfl rfl ?_
    refine v_weak (E2 := [aR 72, aI x1, aI x2, aI x3, aU, aI x5]) ⟨Or.inl rfl, ⟨Or.inl rfl, ⟨Or.inl rfl, ⟨Or.inl rfl, ⟨Or.inr rfl, ⟨Or.inl rfl, trivial⟩⟩⟩⟩⟩⟩ ?_
    exact v_callV (j := M_X11_isFirst) (As := [aI x1, aI x5, aI x3]) (st := [aI x4]) (E0 := [aR 72, aI x1, aI x5, aI x3, aU]) (a := 72) (ci := 9) (N := 11) (q9 := (RX11, TX11, 11)) dX11_classOf_61 ml_X11_96 J_X11_isFirst (Nat.zero_le _) (Nat.zero_le _) (Nat.le_of_ble_eq_true rfl) rfl (Nat.le_of_ble_eq_true rfl) (List.forall_mem_cons.mpr ⟨rfl, List.forall_mem_cons.mpr ⟨rfl, List.forall_mem_cons.mpr ⟨rfl, List.forall_mem_cons.mpr ⟨rfl, fun _ h9 => absurd h9 List.not_mem_nil⟩⟩⟩⟩) (Nat.le_of_ble_eq_true rfl) rfl rfl rfl rfl pn_X11_isFirst rfl k
theorem S_X11_classOf_64 {kc ks : Nat} {h : Hh} {Q : PQ} {X : PX} {x1 : Int} {x2 : Int} {x3 : Int} {x5 : Int} {xs0 : Int} {xs1 : Int}
    (k : ((xs0 = 0 → ((-2147483648 ≤ ((xs1 + 0) : Int) ∧ ((xs1 + 0) : Int) < 2147483648) ∧ (-2147483648 ≤ ((x5 + 1) : Int) ∧ ((x5 + 1) : Int) < 2147483648)) ∧ am_V M_X11_classOf kc ks 43 [aR 72, aI x1, aI x2, aI x3, aI (xs1 + 0), aI (x5 + 1)] [] am_R0 h Q X) ∧ (xs0 ≠ 0 → am_V M_X11_compared 0 0 0 [aR 72, aI x1, aI x5, aI x2, aI x3, aU, aU] [] am_R0 h (fun v ρ' h' => am_V M_X11_classOf kc ks 76 [aR 72, aI x1, aI x2, aI x3, aU, aI x5] (v ++ [aI xs1]) ρ' h' Q X) X))) :
    am_V M_X11_classOf kc ks 64 [aR 72, aI x1, aI x2, aI x3, aU, aI x5] [aI xs0, aI xs1] am_R0 h Q X := by
  refine v_if_eq (tgt := 83) dX11_classOf_64 (by decide) (fun z => ?_) (fun z => ?_)
  · have k := k.1 z
    obtain ⟨⟨b1_1, b1_2⟩, k⟩ := k
    refine v_iconst dX11_classOf_83 ⟨by decide, by decide⟩ ?_
    refine v_iadd dX11_classOf_84 b1_1 ?_
    refine v_istore (E2 := [aR 72, aI x1, aI x2, aI x3, aI (xs1 + 0), aI x5]) dX11_classOf_85 (Nat.le_of_ble_eq_true rfl) rfl ?_
    refine v_iinc (E2 := [aR 72, aI x1, aI x2, aI x3, aI (xs1 + 0), aI (x5 + 1)]) dX11_classOf_87 rfl b1_2 rfl ?_
    refine v_goto (tgt := 43) dX11_classOf_90 (by decide) ?_
    exact k
  · have k := k.2 z
    refine v_aload_n dX11_classOf_67 rfl rfl ?_
    refine v_iload_n dX11_classOf_68 rfl rfl ?_
    refine v_iload dX11_classOf_69 rfl ?_
    refine v_iload_n dX11_classOf_71 rfl rfl ?_
    refine v_iload_n dX11_classOf_72 rfl rfl ?_
    exact v_callV (j := M_X11_compared) (As := [aI x1, aI x5, aI x2, aI x3]) (st := [aI xs1]) (E0 := [aR 72, aI x1, aI x5, aI x2, aI x3, aU, aU]) (a := 72) (ci := 9) (N := 11) (q9 := (RX11, TX11, 11)) dX11_classOf_73 ml_X11_86 J_X11_compared (Nat.zero_le _) (Nat.zero_le _) (Nat.le_of_ble_eq_true rfl) rfl (Nat.le_of_ble_eq_true rfl) (List.forall_mem_cons.mpr ⟨rfl, List.forall_mem_cons.mpr ⟨rfl, List.forall_mem_cons.mpr ⟨rfl, List.forall_mem_cons.mpr ⟨rfl, List.forall_mem_cons.mpr ⟨rfl, fun _ h9 => absurd h9 List.not_mem_nil⟩⟩⟩⟩⟩) (Nat.le_of_ble_eq_true rfl) rfl rfl rfl rfl pn_X11_compared rfl k
theorem S_X11_classOf_76 {kc ks : Nat} {h : Hh} {Q : PQ} {X : PX} {x1 : Int} {x2 : Int} {x3 : Int} {x5 : Int} {xs0 : Int} {xs1 : Int}
    (k : ((0 ≤ xs0 → ((-2147483648 ≤ ((xs1 + 0) : Int) ∧ ((xs1 + 0) : Int) < 2147483648) ∧ (-2147483648 ≤ ((x5 + 1) : Int) ∧ ((x5 + 1) : Int) < 2147483648)) ∧ am_V M_X11_classOf kc ks 43 [aR 72, aI x1, aI x2, aI x3, aI (xs1 + 0), aI (x5 + 1)] [] am_R0 h Q X) ∧ (xs0 < 0 → ((-2147483648 ≤ ((xs1 + 1) : Int) ∧ ((xs1 + 1) : Int) < 2147483648) ∧ (-2147483648 ≤ ((x5 + 1) : Int) ∧ ((x5 + 1) : Int) < 2147483648)) ∧ am_V M_X11_classOf kc ks 43 [aR 72, aI x1, aI x2, aI x3, aI (xs1 + 1), aI (x5 + 1)] [] am_R0 h Q X))) :
    am_V M_X11_classOf kc ks 76 [aR 72, aI x1, aI x2, aI x3, aU, aI x5] [aI xs0, aI xs1] am_R0 h Q X := by
  refine v_if_ge (tgt := 83) dX11_classOf_76 (by decide) (fun z => ?_) (fun z => ?_)
  · have k := k.1 z
    obtain ⟨⟨b1_1, b1_2⟩, k⟩ := k
    refine v_iconst dX11_classOf_83 ⟨by decide, by decide⟩ ?_
    refine v_iadd dX11_classOf_84 b1_1 ?_
    refine v_istore (E2 := [aR 72, aI x1, aI x2, aI x3, aI (xs1 + 0), aI x5]) dX11_classOf_85 (Nat.le_of_ble_eq_true rfl) rfl ?_
    refine v_iinc (E2 := [aR 72, aI x1, aI x2, aI x3, aI (xs1 + 0), aI (x5 + 1)]) dX11_classOf_87 rfl b1_2 rfl ?_
    refine v_goto (tgt := 43) dX11_classOf_90 (by decide) ?_
    exact k
  · have k := k.2 z
    obtain ⟨⟨b1_1, b1_2⟩, k⟩ := k
    refine v_iconst dX11_classOf_79 ⟨by decide, by decide⟩ ?_
    refine v_goto (tgt := 84) dX11_classOf_80 (by decide) ?_
    refine v_iadd dX11_classOf_84 b1_1 ?_
    refine v_istore (E2 := [aR 72, aI x1, aI x2, aI x3, aI (xs1 + 1), aI x5]) dX11_classOf_85 (Nat.le_of_ble_eq_true rfl) rfl ?_
    refine v_iinc (E2 := [aR 72, aI x1, aI x2, aI x3, aI (xs1 + 1), aI (x5 + 1)]) dX11_classOf_87 rfl b1_2 rfl ?_
    refine v_goto (tgt := 43) dX11_classOf_90 (by decide) ?_
    exact k
theorem S_X11_classes_0 {kc ks : Nat} {h : Hh} {Q : PQ} {X : PX} {x1 : Int} {x2 : Int}
    (k : am_V M_X11_isText 0 0 0 [aR 72, aI x1] [] am_R0 h (fun v ρ' h' => am_V M_X11_classes kc ks 6 [aR 72, aI x1, aI x2] (v ++ [aR 72]) ρ' h' Q X) X) :
    am_V M_X11_classes kc ks 0 [aR 72, aI x1, aI x2] [] am_R0 h Q X := by
  refine v_aload_n dX11_classes_0 rfl rfl ?_
  refine v_aload_n dX11_classes_1 rfl rfl ?_
  refine v_iload_n dX11_classes_2 rfl rfl ?_
  exact v_callV (j := M_X11_isText) (As := [aI x1]) (st := [aR 72]) (E0 := [aR 72, aI x1]) (a := 72) (ci := 9) (N := 11) (q9 := (RX11, TX11, 11)) dX11_classes_3 ml_X11_46 J_X11_isText (Nat.zero_le _) (Nat.zero_le _) (Nat.le_of_ble_eq_true rfl) rfl (Nat.le_of_ble_eq_true rfl) (List.forall_mem_cons.mpr ⟨rfl, List.forall_mem_cons.mpr ⟨rfl, fun _ h9 => absurd h9 List.not_mem_nil⟩⟩) (Nat.le_of_ble_eq_true rfl) rfl rfl rfl rfl pn_X11_isText rfl k
theorem S_X11_classes_6 {kc ks : Nat} {h : Hh} {Q : PQ} {X : PX} {x1 : Int} {x2 : Int} {xs0 : Int}
    (k : ((xs0 ≠ 0 → am_V M_X11_isBetween 0 0 0 [aI x2, aI 1, aI 64] [] am_R0 h (fun v ρ' h' => am_V M_X11_classes kc ks 20 [aR 72, aI x1, aI x2] (v ++ [aR 72]) ρ' h' Q X) X) ∧ (xs0 = 0 → am_V M_X11_isWrong 0 0 0 [aR 72, aI 1] [] am_R0 h (fun v ρ' h' => am_V M_X11_classes kc ks 31 [aR 72, aI x1, aI x2] (v ++ []) ρ' h' Q X) X))) :
    am_V M_X11_classes kc ks 6 [aR 72, aI x1, aI x2] [aI xs0, aR 72] am_R0 h Q X := by
  refine v_if_ne (tgt := 13) dX11_classes_6 (by decide) (fun z => ?_) (fun z => ?_)
  · have k := k.1 z
    refine v_iload_n dX11_classes_13 rfl rfl ?_
    refine v_iconst dX11_classes_14 ⟨by decide, by decide⟩ ?_
    refine v_bipush dX11_classes_15 (by decide) (by decide) ?_
    exact v_callS (j := M_X11_isBetween) (As := [aI x2, aI 1, aI 64]) (st := [aR 72]) (E0 := [aI x2, aI 1, aI 64]) dX11_classes_17 ms_X11_42 J_X11_isBetween (Nat.zero_le _) (Nat.zero_le _) (Nat.le_of_ble_eq_true rfl) rfl (Nat.le_of_ble_eq_true rfl) (List.forall_mem_cons.mpr ⟨rfl, List.forall_mem_cons.mpr ⟨rfl, List.forall_mem_cons.mpr ⟨rfl, fun _ h9 => absurd h9 List.not_mem_nil⟩⟩⟩) (Nat.le_of_ble_eq_true rfl) rfl pn_X11_isBetween rfl k
  · have k := k.2 z
    refine v_iconst dX11_classes_9 ⟨by decide, by decide⟩ ?_
    refine v_goto (tgt := 28) dX11_classes_10 (by decide) ?_
    exact v_callV (j := M_X11_isWrong) (As := [aI 1]) (st := []) (E0 := [aR 72, aI 1]) (a := 72) (ci := 9) (N := 11) (q9 := (RX11, TX11, 11)) dX11_classes_28 ml_X11_57 J_X11_isWrong (Nat.zero_le _) (Nat.zero_le _) (Nat.le_of_ble_eq_true rfl) rfl (Nat.le_of_ble_eq_true rfl) (List.forall_mem_cons.mpr ⟨rfl, List.forall_mem_cons.mpr ⟨rfl, fun _ h9 => absurd h9 List.not_mem_nil⟩⟩) (Nat.le_of_ble_eq_true rfl) rfl rfl rfl rfl pn_X11_isWrong rfl k
theorem S_X11_classes_20 {kc ks : Nat} {h : Hh} {Q : PQ} {X : PX} {x1 : Int} {x2 : Int} {xs0 : Int}
    (k : ((xs0 ≠ 0 → am_V M_X11_isWrong 0 0 0 [aR 72, aI 0] [] am_R0 h (fun v ρ' h' => am_V M_X11_classes kc ks 31 [aR 72, aI x1, aI x2] (v ++ []) ρ' h' Q X) X) ∧ (xs0 = 0 → am_V M_X11_isWrong 0 0 0 [aR 72, aI 2] [] am_R0 h (fun v ρ' h' => am_V M_X11_classes kc ks 31 [aR 72, aI x1, aI x2] (v ++ []) ρ' h' Q X) X))) :
    am_V M_X11_classes kc ks 20 [aR 72, aI x1, aI x2] [aI xs0, aR 72] am_R0 h Q X := by
  refine v_if_ne (tgt := 27) dX11_classes_20 (by decide) (fun z => ?_) (fun z => ?_)
  · have k := k.1 z
    refine v_iconst dX11_classes_27 ⟨by decide, by decide⟩ ?_
    exact v_callV (j := M_X11_isWrong) (As := [aI 0]) (st := []) (E0 := [aR 72, aI 0]) (a := 72) (ci := 9) (N := 11) (q9 := (RX11, TX11, 11)) dX11_classes_28 ml_X11_57 J_X11_isWrong (Nat.zero_le _) (Nat.zero_le _) (Nat.le_of_ble_eq_true rfl) rfl (Nat.le_of_ble_eq_true rfl) (List.forall_mem_cons.mpr ⟨rfl, List.forall_mem_cons.mpr ⟨rfl, fun _ h9 => absurd h9 List.not_mem_nil⟩⟩) (Nat.le_of_ble_eq_true rfl) rfl rfl rfl rfl pn_X11_isWrong rfl k
  · have k := k.2 z
    refine v_iconst dX11_classes_23 ⟨by decide, by decide⟩ ?_
    refine v_goto (tgt := 28) dX11_classes_24 (by decide) ?_
    exact v_callV (j := M_X11_isWrong) (As := [aI 2]) (st := []) (E0 := [aR 72, aI 2]) (a := 72) (ci := 9) (N := 11) (q9 := (RX11, TX11, 11)) dX11_classes_28 ml_X11_57 J_X11_isWrong (Nat.zero_le _) (Nat.zero_le _) (Nat.le_of_ble_eq_true rfl) rfl (Nat.le_of_ble_eq_true rfl) (List.forall_mem_cons.mpr ⟨rfl, List.forall_mem_cons.mpr ⟨rfl, fun _ h9 => absurd h9 List.not_mem_nil⟩⟩) (Nat.le_of_ble_eq_true rfl) rfl rfl rfl rfl pn_X11_isWrong rfl k
theorem S_X11_classes_31 {kc ks : Nat} {h : Hh} {Q : PQ} {X : PX} {x1 : Int} {x2 : Int} {xs0 : Int}
    (k : ((xs0 = 0 → am_V M_X11_classesBy 0 0 0 [aR 72, aI x1, aI x2, aU, aU] [] am_R0 h (fun v ρ' h' => am_V M_X11_classes kc ks 44 [aU, aU, aU] (v ++ []) ρ' h' Q X) X) ∧ (xs0 ≠ 0 → Q [aI 0] am_R0 h))) :
    am_V M_X11_classes kc ks 31 [aR 72, aI x1, aI x2] [aI xs0] am_R0 h Q X := by
  refine v_if_eq (tgt := 38) dX11_classes_31 (by decide) (fun z => ?_) (fun z => ?_)
  · have k := k.1 z
    refine v_aload_n dX11_classes_38 rfl rfl ?_
    refine v_iload_n dX11_classes_39 rfl rfl ?_
    refine v_iload_n dX11_classes_40 rfl rfl ?_
    refine v_weak (E2 := [aU, aU, aU]) ⟨Or.inr rfl, ⟨Or.inr rfl, ⟨Or.inr rfl, trivial⟩⟩⟩ ?_
    exact v_callV (j := M_X11_classesBy) (As := [aI x1, aI x2]) (st := []) (E0 := [aR 72, aI x1, aI x2, aU, aU]) (a := 72) (ci := 9) (N := 11) (q9 := (RX11, TX11, 11)) dX11_classes_41 ml_X11_99 J_X11_classesBy (Nat.zero_le _) (Nat.zero_le _) (Nat.le_of_ble_eq_true rfl) rfl (Nat.le_of_ble_eq_true rfl) (List.forall_mem_cons.mpr ⟨rfl, List.forall_mem_cons.mpr ⟨rfl, List.forall_mem_cons.mpr ⟨rfl, fun _ h9 => absurd h9 List.not_mem_nil⟩⟩⟩) (Nat.le_of_ble_eq_true rfl) rfl rfl rfl rfl pn_X11_classesBy rfl k
  · have k := k.2 z
    refine v_iconst dX11_classes_34 ⟨by decide, by decide⟩ ?_
    refine v_goto (tgt := 44) dX11_classes_35 (by decide) ?_
    exact v_iret dX11_classes_44 rfl rfl k
theorem S_X11_classes_44 {kc ks : Nat} {h : Hh} {Q : PQ} {X : PX} {xs0 : Int}
    (k : Q [aI xs0] am_R0 h) :
    am_V M_X11_classes kc ks 44 [aU, aU, aU] [aI xs0] am_R0 h Q X := by
  exact v_iret dX11_classes_44 rfl rfl k
theorem S_X11_commonAt_0 {kc ks : Nat} {h : Hh} {Q : PQ} {X : PX} {x1 : Int} {x2 : Int}
    (k : ((x2 ≠ 0 → ((-2147483648 ≤ ((x2 - 1) : Int) ∧ ((x2 - 1) : Int) < 2147483648) ∧ (0 : Int) ≤ (x2 - 1) ∧ ((x2 - 1) : Int) < 64 ∧ (0 : Int) ≤ x2 ∧ (x2 : Int) < 64) ∧ am_V M_X11_together 0 0 0 [aR 72, aI x1, aI (h 76 (x2 - 1)), aI x1, aI (h 76 x2), aU] [] am_R0 h (fun v ρ' h' => am_V M_X11_commonAt kc ks 28 [aU, aU, aU] (v ++ []) ρ' h' Q X) X) ∧ (x2 = 0 → Q [aI 0] am_R0 h))) :
    am_V M_X11_commonAt kc ks 0 [aR 72, aI x1, aI x2] [] am_R0 h Q X := by
  refine v_iload_n dX11_commonAt_0 rfl rfl ?_
  refine v_if_ne (tgt := 8) dX11_commonAt_1 (by decide) (fun z => ?_) (fun z => ?_)
  · have k := k.1 z
    obtain ⟨⟨b1_1, b1_2, b1_3, b1_4, b1_5⟩, k⟩ := k
    refine v_aload_n dX11_commonAt_8 rfl rfl ?_
    refine v_iload_n dX11_commonAt_9 rfl rfl ?_
    refine v_aload_n dX11_commonAt_10 rfl rfl ?_
    refine v_getR (x := 76) dX11_commonAt_11 fl_X11_20 am_clsA rfl rfl rfl ?_
    refine v_iload_n dX11_commonAt_14 rfl rfl ?_
    refine v_iconst dX11_commonAt_15 ⟨by decide, by decide⟩ ?_
    refine v_isub dX11_commonAt_16 b1_1 ?_
    refine v_iald dX11_commonAt_17 rfl b1_2 b1_3 ?_
    refine v_iload_n dX11_commonAt_18 rfl rfl ?_
    refine v_aload_n dX11_commonAt_19 rfl rfl ?_
    refine v_getR (x := 76) dX11_commonAt_20 fl_X11_20 am_clsA rfl rfl rfl ?_
    refine v_iload_n dX11_commonAt_23 rfl rfl ?_
    refine v_iald dX11_commonAt_24 rfl b1_4 b1_5 ?_
    refine v_weak (E2 := [aU, aU, aU]) ⟨Or.inr rfl, ⟨Or.inr rfl, ⟨Or.inr rfl, trivial⟩⟩⟩ ?_
    exact v_callV (j := M_X11_together) (As := [aI x1, aI (h 76 (x2 - 1)), aI x1, aI (h 76 x2)]) (st := []) (E0 := [aR 72, aI x1, aI (h 76 (x2 - 1)), aI x1, aI (h 76 x2), aU]) (a := 72) (ci := 9) (N := 11) (q9 := (RX11, TX11, 11)) dX11_commonAt_25 ml_X11_102 J_X11_together (Nat.zero_le _) (Nat.zero_le _) (Nat.le_of_ble_eq_true rfl) rfl (Nat.le_of_ble_eq_true rfl) (List.forall_mem_cons.mpr ⟨rfl, List.forall_mem_cons.mpr ⟨rfl, List.forall_mem_cons.mpr ⟨rfl, List.forall_mem_cons.mpr ⟨rfl, List.forall_mem_cons.mpr ⟨rfl, fun _ h9 => absurd h9 List.not_mem_nil⟩⟩⟩⟩⟩) (Nat.le_of_ble_eq_true rfl) rfl rfl rfl rfl pn_X11_together rfl k
  · have k := k.2 z
    refine v_iconst dX11_commonAt_4 ⟨by decide, by decide⟩ ?_
    refine v_goto (tgt := 28) dX11_commonAt_5 (by decide) ?_
    exact v_iret dX11_commonAt_28 rfl rfl k
theorem S_X11_commonAt_28 {kc ks : Nat} {h : Hh} {Q : PQ} {X : PX} {xs0 : Int}
    (k : Q [aI xs0] am_R0 h) :
    am_V M_X11_commonAt kc ks 28 [aU, aU, aU] [aI xs0] am_R0 h Q X := by
  exact v_iret dX11_commonAt_28 rfl rfl k
theorem S_X11_common_0 {kc ks : Nat} {h : Hh} {Q : PQ} {X : PX} {x1 : Int} {x2 : Int}
    (k : am_V M_X11_isNoRank 0 0 0 [aR 72, aI x1, aI x2] [] am_R0 h (fun v ρ' h' => am_V M_X11_common kc ks 6 [aR 72, aI x1, aI x2] (v ++ []) ρ' h' Q X) X) :
    am_V M_X11_common kc ks 0 [aR 72, aI x1, aI x2] [] am_R0 h Q X := by
  refine v_aload_n dX11_common_0 rfl rfl ?_
  refine v_iload_n dX11_common_1 rfl rfl ?_
  refine v_iload_n dX11_common_2 rfl rfl ?_
  exact v_callV (j := M_X11_isNoRank) (As := [aI x1, aI x2]) (st := []) (E0 := [aR 72, aI x1, aI x2]) (a := 72) (ci := 9) (N := 11) (q9 := (RX11, TX11, 11)) dX11_common_3 ml_X11_90 J_X11_isNoRank (Nat.zero_le _) (Nat.zero_le _) (Nat.le_of_ble_eq_true rfl) rfl (Nat.le_of_ble_eq_true rfl) (List.forall_mem_cons.mpr ⟨rfl, List.forall_mem_cons.mpr ⟨rfl, List.forall_mem_cons.mpr ⟨rfl, fun _ h9 => absurd h9 List.not_mem_nil⟩⟩⟩) (Nat.le_of_ble_eq_true rfl) rfl rfl rfl rfl pn_X11_isNoRank rfl k
theorem S_X11_common_6 {kc ks : Nat} {h : Hh} {Q : PQ} {X : PX} {x1 : Int} {x2 : Int} {xs0 : Int}
    (k : ((xs0 = 0 → am_V M_X11_sorts 0 0 0 [aR 72, aI x1, aU] [] am_R0 h (fun v ρ' h' => am_V M_X11_common kc ks 16 [aR 72, aI x1, aI x2] (v ++ []) ρ' h' Q X) X) ∧ (xs0 ≠ 0 → Q [aI 0] am_R0 h))) :
    am_V M_X11_common kc ks 6 [aR 72, aI x1, aI x2] [aI xs0] am_R0 h Q X := by
  refine v_if_eq (tgt := 11) dX11_common_6 (by decide) (fun z => ?_) (fun z => ?_)
  · have k := k.1 z
    refine v_aload_n dX11_common_11 rfl rfl ?_
    refine v_iload_n dX11_common_12 rfl rfl ?_
    exact v_callV (j := M_X11_sorts) (As := [aI x1]) (st := []) (E0 := [aR 72, aI x1, aU]) (a := 72) (ci := 9) (N := 11) (q9 := (RX11, TX11, 11)) dX11_common_13 ml_X11_93 J_X11_sorts (Nat.zero_le _) (Nat.zero_le _) (Nat.le_of_ble_eq_true rfl) rfl (Nat.le_of_ble_eq_true rfl) (List.forall_mem_cons.mpr ⟨rfl, List.forall_mem_cons.mpr ⟨rfl, fun _ h9 => absurd h9 List.not_mem_nil⟩⟩) (Nat.le_of_ble_eq_true rfl) rfl rfl rfl rfl pn_X11_sorts rfl k
  · have k := k.2 z
    refine v_iconst dX11_common_9 ⟨by decide, by decide⟩ ?_
    exact v_iret dX11_common_10 rfl rfl k
theorem S_X11_common_16 {kc ks : Nat} {h : Hh} {Q : PQ} {X : PX} {x1 : Int} {x2 : Int}
    (k : am_V M_X11_commonAt 0 0 0 [aR 72, aI x1, aI x2] [] am_R0 h (fun v ρ' h' => am_V M_X11_common kc ks 22 [aU, aU, aU] (v ++ []) ρ' h' Q X) X) :
    am_V M_X11_common kc ks 16 [aR 72, aI x1, aI x2] [] am_R0 h Q X := by
  refine v_aload_n dX11_common_16 rfl rfl ?_
  refine v_iload_n dX11_common_17 rfl rfl ?_
  refine v_iload_n dX11_common_18 rfl rfl ?_
  refine v_weak (E2 := [aU, aU, aU]) ⟨Or.inr rfl, ⟨Or.inr rfl, ⟨Or.inr rfl, trivial⟩⟩⟩ ?_
  exact v_callV (j := M_X11_commonAt) (As := [aI x1, aI x2]) (st := []) (E0 := [aR 72, aI x1, aI x2]) (a := 72) (ci := 9) (N := 11) (q9 := (RX11, TX11, 11)) dX11_common_19 ml_X11_105 J_X11_commonAt (Nat.zero_le _) (Nat.zero_le _) (Nat.le_of_ble_eq_true rfl) rfl (Nat.le_of_ble_eq_true rfl) (List.forall_mem_cons.mpr ⟨rfl, List.forall_mem_cons.mpr ⟨rfl, List.forall_mem_cons.mpr ⟨rfl, fun _ h9 => absurd h9 List.not_mem_nil⟩⟩⟩) (Nat.le_of_ble_eq_true rfl) rfl rfl rfl rfl pn_X11_commonAt rfl k
theorem S_X11_common_22 {kc ks : Nat} {h : Hh} {Q : PQ} {X : PX} {xs0 : Int}
    (k : Q [aI xs0] am_R0 h) :
    am_V M_X11_common kc ks 22 [aU, aU, aU] [aI xs0] am_R0 h Q X := by
  exact v_iret dX11_common_22 rfl rfl k
theorem S_X11_countFrom_0 {kc ks : Nat} {h : Hh} {Q : PQ} {X : PX} {x1 : Int} {x2 : Int}
    (k : am_V M_X11_countFrom kc ks 5 [aR 72, aI x1, aI x2, aI 0, aI 0] [] am_R0 h Q X) :
    am_V M_X11_countFrom kc ks 0 [aR 72, aI x1, aI x2, aU, aU] [] am_R0 h Q X := by
  refine v_iconst dX11_countFrom_0 ⟨by decide, by decide⟩ ?_
  refine v_istore_n (E2 := [aR 72, aI x1, aI x2, aI 0, aU]) dX11_countFrom_1 rfl (Nat.le_of_ble_eq_true rfl) rfl ?_
  refine v_iconst dX11_countFrom_2 ⟨by decide, by decide⟩ ?_
  refine v_istore (E2 := [aR 72, aI x1, aI x2, aI 0, aI 0]) dX11_countFrom_3 (Nat.le_of_ble_eq_true rfl) rfl ?_
  exact k
theorem S_X11_countFrom_5 {kc ks : Nat} {h : Hh} {Q : PQ} {X : PX} {x1 : Int} {x2 : Int} {x3 : Int} {x4 : Int}
    (k : ((0 : Int) ≤ x2 ∧ (x2 : Int) < 9) ∧ (((h 74 x2) ≤ x4 → Q [aI x3] am_R0 h) ∧ (x4 < (h 74 x2) → am_V M_X11_stands 0 0 0 [aR 72, aI x1, aI x2, aI x4, aU] [] am_R0 h (fun v ρ' h' => am_V M_X11_countFrom kc ks 25 [aR 72, aI x1, aI x2, aU, aI x4] (v ++ [aI x3]) ρ' h' Q X) X))) :
    am_V M_X11_countFrom kc ks 5 [aR 72, aI x1, aI x2, aI x3, aI x4] [] am_R0 h Q X := by
  obtain ⟨⟨b0_1, b0_2⟩, k⟩ := k
  refine v_iload dX11_countFrom_5 rfl ?_
  refine v_aload_n dX11_countFrom_7 rfl rfl ?_
  refine v_getR (x := 74) dX11_countFrom_8 fl_X11_13 am_clsA rfl rfl rfl ?_
  refine v_iload_n dX11_countFrom_11 rfl rfl ?_
  refine v_iald dX11_countFrom_12 rfl b0_1 b0_2 ?_
  refine v_icmp_ge (tgt := 41) dX11_countFrom_13 (by decide) (fun z => ?_) (fun z => ?_)
  · have k := k.1 z
    refine v_iload_n dX11_countFrom_41 rfl rfl ?_
    exact v_iret dX11_countFrom_42 rfl rfl k
  · have k := k.2 z
    refine v_iload_n dX11_countFrom_16 rfl rfl ?_
    refine v_aload_n dX11_countFrom_17 rfl rfl ?_
    refine v_iload_n dX11_countFrom_18 rfl rfl ?_
    refine v_iload_n dX11_countFrom_19 rfl rfl ?_
    refine v_iload dX11_countFrom_20 rfl ?_
    refine v_weak (E2 := [aR 72, aI x1, aI x2, aU, aI x4]) ⟨Or.inl rfl, ⟨Or.inl rfl, ⟨Or.inl rfl, ⟨Or.inr rfl, ⟨Or.inl rfl, trivial⟩⟩⟩⟩⟩ ?_
    exact v_callV (j := M_X11_stands) (As := [aI x1, aI x2, aI x4]) (st := [aI x3]) (E0 := [aR 72, aI x1, aI x2, aI x4, aU]) (a := 72) (ci := 9) (N := 11) (q9 := (RX11, TX11, 11)) dX11_countFrom_22 ml_X11_108 J_X11_stands (Nat.zero_le _) (Nat.zero_le _) (Nat.le_of_ble_eq_true rfl) rfl (Nat.le_of_ble_eq_true rfl) (List.forall_mem_cons.mpr ⟨rfl, List.forall_mem_cons.mpr ⟨rfl, List.forall_mem_cons.mpr ⟨rfl, List.forall_mem_cons.mpr ⟨rfl, fun _ h9 => absurd h9 List.not_mem_nil⟩⟩⟩⟩) (Nat.le_of_ble_eq_true rfl) rfl rfl rfl rfl pn_X11_stands rfl k
theorem S_X11_countFrom_25 {kc ks : Nat} {h : Hh} {Q : PQ} {X : PX} {x1 : Int} {x2 : Int} {x4 : Int} {xs0 : Int} {xs1 : Int}
    (k : ((xs0 = 0 → ((-2147483648 ≤ ((xs1 + 0) : Int) ∧ ((xs1 + 0) : Int) < 2147483648) ∧ (-2147483648 ≤ ((x4 + 1) : Int) ∧ ((x4 + 1) : Int) < 2147483648)) ∧ am_V M_X11_countFrom kc ks 5 [aR 72, aI x1, aI x2, aI (xs1 + 0), aI (x4 + 1)] [] am_R0 h Q X) ∧ (xs0 ≠ 0 → ((-2147483648 ≤ ((xs1 + 1) : Int) ∧ ((xs1 + 1) : Int) < 2147483648) ∧ (-2147483648 ≤ ((x4 + 1) : Int) ∧ ((x4 + 1) : Int) < 2147483648)) ∧ am_V M_X11_countFrom kc ks 5 [aR 72, aI x1, aI x2, aI (xs1 + 1), aI (x4 + 1)] [] am_R0 h Q X))) :
    am_V M_X11_countFrom kc ks 25 [aR 72, aI x1, aI x2, aU, aI x4] [aI xs0, aI xs1] am_R0 h Q X := by
  refine v_if_eq (tgt := 32) dX11_countFrom_25 (by decide) (fun z => ?_) (fun z => ?_)
  · have k := k.1 z
    obtain ⟨⟨b1_1, b1_2⟩, k⟩ := k
    refine v_iconst dX11_countFrom_32 ⟨by decide, by decide⟩ ?_
    refine v_iadd dX11_countFrom_33 b1_1 ?_
    refine v_istore_n (E2 := [aR 72, aI x1, aI x2, aI (xs1 + 0), aI x4]) dX11_countFrom_34 rfl (Nat.le_of_ble_eq_true rfl) rfl ?_
    refine v_iinc (E2 := [aR 72, aI x1, aI x2, aI (xs1 + 0), aI (x4 + 1)]) dX11_countFrom_35 rfl b1_2 rfl ?_
    refine v_goto (tgt := 5) dX11_countFrom_38 (by decide) ?_
    exact k
  · have k := k.2 z
    obtain ⟨⟨b1_1, b1_2⟩, k⟩ := k
    refine v_iconst dX11_countFrom_28 ⟨by decide, by decide⟩ ?_
    refine v_goto (tgt := 33) dX11_countFrom_29 (by decide) ?_
    refine v_iadd dX11_countFrom_33 b1_1 ?_
    refine v_istore_n (E2 := [aR 72, aI x1, aI x2, aI (xs1 + 1), aI x4]) dX11_countFrom_34 rfl (Nat.le_of_ble_eq_true rfl) rfl ?_
    refine v_iinc (E2 := [aR 72, aI x1, aI x2, aI (xs1 + 1), aI (x4 + 1)]) dX11_countFrom_35 rfl b1_2 rfl ?_
    refine v_goto (tgt := 5) dX11_countFrom_38 (by decide) ?_
    exact k
theorem S_X11_isNoWord_0 {kc ks : Nat} {h : Hh} {Q : PQ} {X : PX} {x1 : Int}
    (k : am_V M_X11_isText 0 0 0 [aR 72, aI x1] [] am_R0 h (fun v ρ' h' => am_V M_X11_isNoWord kc ks 6 [aR 72, aU] (v ++ [aR 72]) ρ' h' Q X) X) :
    am_V M_X11_isNoWord kc ks 0 [aR 72, aI x1] [] am_R0 h Q X := by
  refine v_aload_n dX11_isNoWord_0 rfl rfl ?_
  refine v_aload_n dX11_isNoWord_1 rfl rfl ?_
  refine v_iload_n dX11_isNoWord_2 rfl rfl ?_
  refine v_weak (E2 := [aR 72, aU]) ⟨Or.inl rfl, ⟨Or.inr rfl, trivial⟩⟩ ?_
  exact v_callV (j := M_X11_isText) (As := [aI x1]) (st := [aR 72]) (E0 := [aR 72, aI x1]) (a := 72) (ci := 9) (N := 11) (q9 := (RX11, TX11, 11)) dX11_isNoWord_3 ml_X11_46 J_X11_isText (Nat.zero_le _) (Nat.zero_le _) (Nat.le_of_ble_eq_true rfl) rfl (Nat.le_of_ble_eq_true rfl) (List.forall_mem_cons.mpr ⟨rfl, List.forall_mem_cons.mpr ⟨rfl, fun _ h9 => absurd h9 List.not_mem_nil⟩⟩) (Nat.le_of_ble_eq_true rfl) rfl rfl rfl rfl pn_X11_isText rfl k
theorem S_X11_isNoWord_6 {kc ks : Nat} {h : Hh} {Q : PQ} {X : PX} {xs0 : Int}
    (k : ((xs0 ≠ 0 → (((h 72 9) = 0 → am_V M_X11_isWrong 0 0 0 [aR 72, aI 2] [] am_R0 h (fun v ρ' h' => am_V M_X11_isNoWord kc ks 35 [aU, aU] (v ++ []) ρ' h' Q X) X) ∧ ((h 72 9) ≠ 0 → am_V M_X11_hasEnd 0 0 0 [aR 72, aU] [] am_R0 h (fun v ρ' h' => am_V M_X11_isNoWord kc ks 24 [aU, aU] (v ++ [aR 72]) ρ' h' Q X) X))) ∧ (xs0 = 0 → am_V M_X11_isWrong 0 0 0 [aR 72, aI 1] [] am_R0 h (fun v ρ' h' => am_V M_X11_isNoWord kc ks 35 [aU, aU] (v ++ []) ρ' h' Q X) X))) :
    am_V M_X11_isNoWord kc ks 6 [aR 72, aU] [aI xs0, aR 72] am_R0 h Q X := by
  refine v_if_ne (tgt := 13) dX11_isNoWord_6 (by decide) (fun z => ?_) (fun z => ?_)
  · have k := k.1 z
    refine v_aload_n dX11_isNoWord_13 rfl rfl ?_
    refine v_getI (j := 9) dX11_isNoWord_14 fl_X11_54 am_clsA rfl rfl rfl ?_
    refine v_if_eq (tgt := 27) dX11_isNoWord_17 (by decide) (fun z => ?_) (fun z => ?_)
    · have k := k.1 z
      refine v_iconst dX11_isNoWord_27 ⟨by decide, by decide⟩ ?_
      refine v_goto (tgt := 32) dX11_isNoWord_28 (by decide) ?_
      refine v_weak (E2 := [aU, aU]) ⟨Or.inr rfl, ⟨Or.inl rfl, trivial⟩⟩ ?_
      exact v_callV (j := M_X11_isWrong) (As := [aI 2]) (st := []) (E0 := [aR 72, aI 2]) (a := 72) (ci := 9) (N := 11) (q9 := (RX11, TX11, 11)) dX11_isNoWord_32 ml_X11_57 J_X11_isWrong (Nat.zero_le _) (Nat.zero_le _) (Nat.le_of_ble_eq_true rfl) rfl (Nat.le_of_ble_eq_true rfl) (List.forall_mem_cons.mpr ⟨rfl, List.forall_mem_cons.mpr ⟨rfl, fun _ h9 => absurd h9 List.not_mem_nil⟩⟩) (Nat.le_of_ble_eq_true rfl) rfl rfl rfl rfl pn_X11_isWrong rfl k
    · have k := k.2 z
      refine v_aload_n dX11_isNoWord_20 rfl rfl ?_
      refine v_weak (E2 := [aU, aU]) ⟨Or.inr rfl, ⟨Or.inl rfl, trivial⟩⟩ ?_
      exact v_callV (j := M_X11_hasEnd) (As := []) (st := [aR 72]) (E0 := [aR 72, aU]) (a := 72) (ci := 9) (N := 11) (q9 := (RX11, TX11, 11)) dX11_isNoWord_21 ml_X11_64 J_X11_hasEnd (Nat.zero_le _) (Nat.zero_le _) (Nat.le_of_ble_eq_true rfl) rfl (Nat.le_of_ble_eq_true rfl) (List.forall_mem_cons.mpr ⟨rfl, fun _ h9 => absurd h9 List.not_mem_nil⟩) (Nat.le_of_ble_eq_true rfl) rfl rfl rfl rfl pn_X11_hasEnd rfl k
  · have k := k.2 z
    refine v_iconst dX11_isNoWord_9 ⟨by decide, by decide⟩ ?_
    refine v_goto (tgt := 32) dX11_isNoWord_10 (by decide) ?_
    refine v_weak (E2 := [aU, aU]) ⟨Or.inr rfl, ⟨Or.inl rfl, trivial⟩⟩ ?_
    exact v_callV (j := M_X11_isWrong) (As := [aI 1]) (st := []) (E0 := [aR 72, aI 1]) (a := 72) (ci := 9) (N := 11) (q9 := (RX11, TX11, 11)) dX11_isNoWord_32 ml_X11_57 J_X11_isWrong (Nat.zero_le _) (Nat.zero_le _) (Nat.le_of_ble_eq_true rfl) rfl (Nat.le_of_ble_eq_true rfl) (List.forall_mem_cons.mpr ⟨rfl, List.forall_mem_cons.mpr ⟨rfl, fun _ h9 => absurd h9 List.not_mem_nil⟩⟩) (Nat.le_of_ble_eq_true rfl) rfl rfl rfl rfl pn_X11_isWrong rfl k
theorem S_X11_isNoWord_35 {kc ks : Nat} {h : Hh} {Q : PQ} {X : PX} {xs0 : Int}
    (k : ((xs0 = 0 ∨ xs0 = 1)) ∧ Q [aI xs0] am_R0 h) :
    am_V M_X11_isNoWord kc ks 35 [aU, aU] [aI xs0] am_R0 h Q X := by
  obtain ⟨b0_1, k⟩ := k
  exact v_zret dX11_isNoWord_35 rfl rfl b0_1 k
theorem S_X11_isNoWord_24 {kc ks : Nat} {h : Hh} {Q : PQ} {X : PX} {xs0 : Int}
    (k : ((xs0 = 0 → am_V M_X11_isWrong 0 0 0 [aR 72, aI 0] [] am_R0 h (fun v ρ' h' => am_V M_X11_isNoWord kc ks 35 [aU, aU] (v ++ []) ρ' h' Q X) X) ∧ (xs0 ≠ 0 → am_V M_X11_isWrong 0 0 0 [aR 72, aI 2] [] am_R0 h (fun v ρ' h' => am_V M_X11_isNoWord kc ks 35 [aU, aU] (v ++ []) ρ' h' Q X) X))) :
    am_V M_X11_isNoWord kc ks 24 [aU, aU] [aI xs0, aR 72] am_R0 h Q X := by
  refine v_if_eq (tgt := 31) dX11_isNoWord_24 (by decide) (fun z => ?_) (fun z => ?_)
  · have k := k.1 z
    refine v_iconst dX11_isNoWord_31 ⟨by decide, by decide⟩ ?_
    exact v_callV (j := M_X11_isWrong) (As := [aI 0]) (st := []) (E0 := [aR 72, aI 0]) (a := 72) (ci := 9) (N := 11) (q9 := (RX11, TX11, 11)) dX11_isNoWord_32 ml_X11_57 J_X11_isWrong (Nat.zero_le _) (Nat.zero_le _) (Nat.le_of_ble_eq_true rfl) rfl (Nat.le_of_ble_eq_true rfl) (List.forall_mem_cons.mpr ⟨rfl, List.forall_mem_cons.mpr ⟨rfl, fun _ h9 => absurd h9 List.not_mem_nil⟩⟩) (Nat.le_of_ble_eq_true rfl) rfl rfl rfl rfl pn_X11_isWrong rfl k
  · have k := k.2 z
    refine v_iconst dX11_isNoWord_27 ⟨by decide, by decide⟩ ?_
    refine v_goto (tgt := 32) dX11_isNoWord_28 (by decide) ?_
    exact v_callV (j := M_X11_isWrong) (As := [aI 2]) (st := []) (E0 := [aR 72, aI 2]) (a := 72) (ci := 9) (N := 11) (q9 := (RX11, TX11, 11)) dX11_isNoWord_32 ml_X11_57 J_X11_isWrong (Nat.zero_le _) (Nat.zero_le _) (Nat.le_of_ble_eq_true rfl) rfl (Nat.le_of_ble_eq_true rfl) (List.forall_mem_cons.mpr ⟨rfl, List.forall_mem_cons.mpr ⟨rfl, fun _ h9 => absurd h9 List.not_mem_nil⟩⟩) (Nat.le_of_ble_eq_true rfl) rfl rfl rfl rfl pn_X11_isWrong rfl k
theorem S_X11_count_0 {kc ks : Nat} {h : Hh} {Q : PQ} {X : PX} {x1 : Int}
    (k : am_V M_X11_isNoWord 0 0 0 [aR 72, aI x1] [] am_R0 h (fun v ρ' h' => am_V M_X11_count kc ks 5 [aR 72, aI x1] (v ++ []) ρ' h' Q X) X) :
    am_V M_X11_count kc ks 0 [aR 72, aI x1] [] am_R0 h Q X := by
  refine v_aload_n dX11_count_0 rfl rfl ?_
  refine v_iload_n dX11_count_1 rfl rfl ?_
  exact v_callV (j := M_X11_isNoWord) (As := [aI x1]) (st := []) (E0 := [aR 72, aI x1]) (a := 72) (ci := 9) (N := 11) (q9 := (RX11, TX11, 11)) dX11_count_2 ml_X11_111 J_X11_isNoWord (Nat.zero_le _) (Nat.zero_le _) (Nat.le_of_ble_eq_true rfl) rfl (Nat.le_of_ble_eq_true rfl) (List.forall_mem_cons.mpr ⟨rfl, List.forall_mem_cons.mpr ⟨rfl, fun _ h9 => absurd h9 List.not_mem_nil⟩⟩) (Nat.le_of_ble_eq_true rfl) rfl rfl rfl rfl pn_X11_isNoWord rfl k
theorem S_X11_count_5 {kc ks : Nat} {h : Hh} {Q : PQ} {X : PX} {x1 : Int} {xs0 : Int}
    (k : ((xs0 = 0 → am_V M_X11_countFrom 0 0 0 [aR 72, aI 0, aI x1, aU, aU] [] am_R0 h (fun v ρ' h' => am_V M_X11_count kc ks 18 [aU, aU] (v ++ []) ρ' h' Q X) X) ∧ (xs0 ≠ 0 → Q [aI 0] am_R0 h))) :
    am_V M_X11_count kc ks 5 [aR 72, aI x1] [aI xs0] am_R0 h Q X := by
  refine v_if_eq (tgt := 12) dX11_count_5 (by decide) (fun z => ?_) (fun z => ?_)
  · have k := k.1 z
    refine v_aload_n dX11_count_12 rfl rfl ?_
    refine v_iconst dX11_count_13 ⟨by decide, by decide⟩ ?_
    refine v_iload_n dX11_count_14 rfl rfl ?_
    refine v_weak (E2 := [aU, aU]) ⟨Or.inr rfl, ⟨Or.inr rfl, trivial⟩⟩ ?_
    exact v_callV (j := M_X11_countFrom) (As := [aI 0, aI x1]) (st := []) (E0 := [aR 72, aI 0, aI x1, aU, aU]) (a := 72) (ci := 9) (N := 11) (q9 := (RX11, TX11, 11)) dX11_count_15 ml_X11_114 J_X11_countFrom (Nat.zero_le _) (Nat.zero_le _) (Nat.le_of_ble_eq_true rfl) rfl (Nat.le_of_ble_eq_true rfl) (List.forall_mem_cons.mpr ⟨rfl, List.forall_mem_cons.mpr ⟨rfl, List.forall_mem_cons.mpr ⟨rfl, fun _ h9 => absurd h9 List.not_mem_nil⟩⟩⟩) (Nat.le_of_ble_eq_true rfl) rfl rfl rfl rfl pn_X11_countFrom rfl k
  · have k := k.2 z
    refine v_iconst dX11_count_8 ⟨by decide, by decide⟩ ?_
    refine v_goto (tgt := 18) dX11_count_9 (by decide) ?_
    exact v_iret dX11_count_18 rfl rfl k
theorem S_X11_count_18 {kc ks : Nat} {h : Hh} {Q : PQ} {X : PX} {xs0 : Int}
    (k : Q [aI xs0] am_R0 h) :
    am_V M_X11_count kc ks 18 [aU, aU] [aI xs0] am_R0 h Q X := by
  exact v_iret dX11_count_18 rfl rfl k
theorem S_X11_allWords_0 {kc ks : Nat} {h : Hh} {Q : PQ} {X : PX} {x1 : Int}
    (k : am_V M_X11_allWords kc ks 5 [aR 72, aI x1, aL 0, aU, aI 0] [] am_R0 h Q X) :
    am_V M_X11_allWords kc ks 0 [aR 72, aI x1, aU, aU, aU] [] am_R0 h Q X := by
  refine v_lconst (x := 0) dX11_allWords_0 rfl ?_
  refine v_lstore_n (E2 := [aR 72, aI x1, aL 0, aU, aU]) dX11_allWords_1 rfl (Nat.le_of_ble_eq_true rfl) rfl ?_
  refine v_iconst dX11_allWords_2 ⟨by decide, by decide⟩ ?_
  refine v_istore (E2 := [aR 72, aI x1, aL 0, aU, aI 0]) dX11_allWords_3 (Nat.le_of_ble_eq_true rfl) rfl ?_
  exact k
theorem S_X11_allWords_5 {kc ks : Nat} {h : Hh} {Q : PQ} {X : PX} {x1 : Int} {x2 : Int} {x4 : Int}
    (k : ((0 : Int) ≤ x1 ∧ (x1 : Int) < 9) ∧ (((h 74 x1) ≤ x4 → Q [aL x2] am_R0 h) ∧ (x4 < (h 74 x1) → am_V M_X11_newWords 0 0 0 [aR 72, aI x1, aI x4, aU, aU, aU] [] am_R0 h (fun v ρ' h' => am_V M_X11_allWords kc ks 24 [aR 72, aI x1, aU, aU, aI x4] (v ++ [aL x2]) ρ' h' Q X) X))) :
    am_V M_X11_allWords kc ks 5 [aR 72, aI x1, aL x2, aU, aI x4] [] am_R0 h Q X := by
  obtain ⟨⟨b0_1, b0_2⟩, k⟩ := k
  refine v_iload dX11_allWords_5 rfl ?_
  refine v_aload_n dX11_allWords_7 rfl rfl ?_
  refine v_getR (x := 74) dX11_allWords_8 fl_X11_13 am_clsA rfl rfl rfl ?_
  refine v_iload_n dX11_allWords_11 rfl rfl ?_
  refine v_iald dX11_allWords_12 rfl b0_1 b0_2 ?_
  refine v_icmp_ge (tgt := 33) dX11_allWords_13 (by decide) (fun z => ?_) (fun z => ?_)
  · have k := k.1 z
    refine v_lload_n dX11_allWords_33 rfl rfl ?_
    exact v_lret dX11_allWords_34 rfl rfl k
  · have k := k.2 z
    refine v_lload_n dX11_allWords_16 rfl rfl ?_
    refine v_aload_n dX11_allWords_17 rfl rfl ?_
    refine v_iload_n dX11_allWords_18 rfl rfl ?_
    refine v_iload dX11_allWords_19 rfl ?_
    refine v_weak (E2 := [aR 72, aI x1, aU, aU, aI x4]) ⟨Or.inl rfl, ⟨Or.inl rfl, ⟨Or.inr rfl, ⟨Or.inl rfl, ⟨Or.inl rfl, trivial⟩⟩⟩⟩⟩ ?_
    exact v_callV (j := M_X11_newWords) (As := [aI x1, aI x4]) (st := [aL x2]) (E0 := [aR 72, aI x1, aI x4, aU, aU, aU]) (a := 72) (ci := 9) (N := 11) (q9 := (RX11, TX11, 11)) dX11_allWords_21 ml_X11_117 J_X11_newWords (Nat.zero_le _) (Nat.zero_le _) (Nat.le_of_ble_eq_true rfl) rfl (Nat.le_of_ble_eq_true rfl) (List.forall_mem_cons.mpr ⟨rfl, List.forall_mem_cons.mpr ⟨rfl, List.forall_mem_cons.mpr ⟨rfl, fun _ h9 => absurd h9 List.not_mem_nil⟩⟩⟩) (Nat.le_of_ble_eq_true rfl) rfl rfl rfl rfl pn_X11_newWords rfl k
theorem S_X11_allWords_24 {kc ks : Nat} {h : Hh} {Q : PQ} {X : PX} {x1 : Int} {x4 : Int} {xs0 : Int} {xs1 : Int}
    (k : ((-2147483648 ≤ ((x4 + 1) : Int) ∧ ((x4 + 1) : Int) < 2147483648)) ∧ am_V M_X11_allWords kc ks 5 [aR 72, aI x1, aL ((xs1 + xs0).bmod (2 ^ 64)), aU, aI (x4 + 1)] [] am_R0 h Q X) :
    am_V M_X11_allWords kc ks 24 [aR 72, aI x1, aU, aU, aI x4] [aI xs0, aL xs1] am_R0 h Q X := by
  obtain ⟨b0_1, k⟩ := k
  refine v_i2l dX11_allWords_24 ?_
  refine v_ladd dX11_allWords_25 ?_
  refine v_lstore_n (E2 := [aR 72, aI x1, aL ((xs1 + xs0).bmod (2 ^ 64)), aU, aI x4]) dX11_allWords_26 rfl (Nat.le_of_ble_eq_true rfl) rfl ?_
  refine v_iinc (E2 := [aR 72, aI x1, aL ((xs1 + xs0).bmod (2 ^ 64)), aU, aI (x4 + 1)]) dX11_allWords_27 rfl b0_1 rfl ?_
  refine v_goto (tgt := 5) dX11_allWords_30 (by decide) ?_
  exact k
theorem S_X11_alone_0 {kc ks : Nat} {h : Hh} {Q : PQ} {X : PX} {x1 : Int} {x2 : Int}
    (k : am_V M_X11_alone kc ks 2 [aR 72, aI x1, aI x2, aI 0] [] am_R0 h Q X) :
    am_V M_X11_alone kc ks 0 [aR 72, aI x1, aI x2, aU] [] am_R0 h Q X := by
  refine v_iconst dX11_alone_0 ⟨by decide, by decide⟩ ?_
  refine v_istore_n (E2 := [aR 72, aI x1, aI x2, aI 0]) dX11_alone_1 rfl (Nat.le_of_ble_eq_true rfl) rfl ?_
  exact k
theorem S_X11_alone_2 {kc ks : Nat} {h : Hh} {Q : PQ} {X : PX} {x1 : Int} {x2 : Int} {x3 : Int}
    (k : ((-2147483648 ≤ ((x3 + x2) : Int) ∧ ((x3 + x2) : Int) < 2147483648) ∧ (0 : Int) ≤ x1 ∧ (x1 : Int) < 9) ∧ (((h 74 x1) < (x3 + x2) → Q [aI (-1)] am_R0 h) ∧ ((x3 + x2) ≤ (h 74 x1) → am_V M_X11_places 0 0 0 [aR 72, aI x1, aI x3, aI x2, aI x1, aU, aU] [] am_R0 h (fun v ρ' h' => am_V M_X11_alone kc ks 22 [aR 72, aI x1, aI x2, aI x3] (v ++ []) ρ' h' Q X) X))) :
    am_V M_X11_alone kc ks 2 [aR 72, aI x1, aI x2, aI x3] [] am_R0 h Q X := by
  obtain ⟨⟨b0_1, b0_2, b0_3⟩, k⟩ := k
  refine v_iload_n dX11_alone_2 rfl rfl ?_
  refine v_iload_n dX11_alone_3 rfl rfl ?_
  refine v_iadd dX11_alone_4 b0_1 ?_
  refine v_aload_n dX11_alone_5 rfl rfl ?_
  refine v_getR (x := 74) dX11_alone_6 fl_X11_13 am_clsA rfl rfl rfl ?_
  refine v_iload_n dX11_alone_9 rfl rfl ?_
  refine v_iald dX11_alone_10 rfl b0_2 b0_3 ?_
  refine v_icmp_gt (tgt := 34) dX11_alone_11 (by decide) (fun z => ?_) (fun z => ?_)
  · have k := k.1 z
    refine v_iconst dX11_alone_34 ⟨by decide, by decide⟩ ?_
    exact v_iret dX11_alone_35 rfl rfl k
  · have k := k.2 z
    refine v_aload_n dX11_alone_14 rfl rfl ?_
    refine v_iload_n dX11_alone_15 rfl rfl ?_
    refine v_iload_n dX11_alone_16 rfl rfl ?_
    refine v_iload_n dX11_alone_17 rfl rfl ?_
    refine v_iload_n dX11_alone_18 rfl rfl ?_
    exact v_callV (j := M_X11_places) (As := [aI x1, aI x3, aI x2, aI x1]) (st := []) (E0 := [aR 72, aI x1, aI x3, aI x2, aI x1, aU, aU]) (a := 72) (ci := 9) (N := 11) (q9 := (RX11, TX11, 11)) dX11_alone_19 ml_X11_128 J_X11_places (Nat.zero_le _) (Nat.zero_le _) (Nat.le_of_ble_eq_true rfl) rfl (Nat.le_of_ble_eq_true rfl) (List.forall_mem_cons.mpr ⟨rfl, List.forall_mem_cons.mpr ⟨rfl, List.forall_mem_cons.mpr ⟨rfl, List.forall_mem_cons.mpr ⟨rfl, List.forall_mem_cons.mpr ⟨rfl, fun _ h9 => absurd h9 List.not_mem_nil⟩⟩⟩⟩⟩) (Nat.le_of_ble_eq_true rfl) rfl rfl rfl rfl pn_X11_places rfl k
theorem S_X11_alone_22 {kc ks : Nat} {h : Hh} {Q : PQ} {X : PX} {x1 : Int} {x2 : Int} {x3 : Int} {xs0 : Int}
    (k : ((xs0 ≠ 1 → ((-2147483648 ≤ ((x3 + 1) : Int) ∧ ((x3 + 1) : Int) < 2147483648)) ∧ am_V M_X11_alone kc ks 2 [aR 72, aI x1, aI x2, aI (x3 + 1)] [] am_R0 h Q X) ∧ (xs0 = 1 → Q [aI x3] am_R0 h))) :
    am_V M_X11_alone kc ks 22 [aR 72, aI x1, aI x2, aI x3] [aI xs0] am_R0 h Q X := by
  refine v_iconst dX11_alone_22 ⟨by decide, by decide⟩ ?_
  refine v_icmp_ne (tgt := 28) dX11_alone_23 (by decide) (fun z => ?_) (fun z => ?_)
  · have k := k.1 z
    obtain ⟨b1_1, k⟩ := k
    refine v_iinc (E2 := [aR 72, aI x1, aI x2, aI (x3 + 1)]) dX11_alone_28 rfl b1_1 rfl ?_
    refine v_goto (tgt := 2) dX11_alone_31 (by decide) ?_
    exact k
  · have k := k.2 z
    refine v_iload_n dX11_alone_26 rfl rfl ?_
    exact v_iret dX11_alone_27 rfl rfl k
theorem S_X11_isEmpty_0 {kc ks : Nat} {h : Hh} {Q : PQ} {X : PX} {x1 : Int}
    (k : am_V M_X11_isText 0 0 0 [aR 72, aI x1] [] am_R0 h (fun v ρ' h' => am_V M_X11_isEmpty kc ks 6 [aR 72, aI x1] (v ++ [aR 72]) ρ' h' Q X) X) :
    am_V M_X11_isEmpty kc ks 0 [aR 72, aI x1] [] am_R0 h Q X := by
  refine v_aload_n dX11_isEmpty_0 rfl rfl ?_
  refine v_aload_n dX11_isEmpty_1 rfl rfl ?_
  refine v_iload_n dX11_isEmpty_2 rfl rfl ?_
  exact v_callV (j := M_X11_isText) (As := [aI x1]) (st := [aR 72]) (E0 := [aR 72, aI x1]) (a := 72) (ci := 9) (N := 11) (q9 := (RX11, TX11, 11)) dX11_isEmpty_3 ml_X11_46 J_X11_isText (Nat.zero_le _) (Nat.zero_le _) (Nat.le_of_ble_eq_true rfl) rfl (Nat.le_of_ble_eq_true rfl) (List.forall_mem_cons.mpr ⟨rfl, List.forall_mem_cons.mpr ⟨rfl, fun _ h9 => absurd h9 List.not_mem_nil⟩⟩) (Nat.le_of_ble_eq_true rfl) rfl rfl rfl rfl pn_X11_isText rfl k
theorem S_X11_isEmpty_6 {kc ks : Nat} {h : Hh} {Q : PQ} {X : PX} {x1 : Int} {xs0 : Int}
    (k : ((xs0 ≠ 0 → ((0 : Int) ≤ x1 ∧ (x1 : Int) < 9) ∧ (((h 74 x1) ≠ 0 → am_V M_X11_isWrong 0 0 0 [aR 72, aI 0] [] am_R0 h (fun v ρ' h' => am_V M_X11_isEmpty kc ks 30 [aU, aU] (v ++ []) ρ' h' Q X) X) ∧ ((h 74 x1) = 0 → am_V M_X11_isWrong 0 0 0 [aR 72, aI 2] [] am_R0 h (fun v ρ' h' => am_V M_X11_isEmpty kc ks 30 [aU, aU] (v ++ []) ρ' h' Q X) X))) ∧ (xs0 = 0 → am_V M_X11_isWrong 0 0 0 [aR 72, aI 1] [] am_R0 h (fun v ρ' h' => am_V M_X11_isEmpty kc ks 30 [aU, aU] (v ++ []) ρ' h' Q X) X))) :
    am_V M_X11_isEmpty kc ks 6 [aR 72, aI x1] [aI xs0, aR 72] am_R0 h Q X := by
  refine v_if_ne (tgt := 13) dX11_isEmpty_6 (by decide) (fun z => ?_) (fun z => ?_)
  · have k := k.1 z
    obtain ⟨⟨b1_1, b1_2⟩, k⟩ := k
    refine v_aload_n dX11_isEmpty_13 rfl rfl ?_
    refine v_getR (x := 74) dX11_isEmpty_14 fl_X11_13 am_clsA rfl rfl rfl ?_
    refine v_iload_n dX11_isEmpty_17 rfl rfl ?_
    refine v_iald dX11_isEmpty_18 rfl b1_1 b1_2 ?_
    refine v_if_ne (tgt := 26) dX11_isEmpty_19 (by decide) (fun z => ?_) (fun z => ?_)
    · have k := k.1 z
      refine v_iconst dX11_isEmpty_26 ⟨by decide, by decide⟩ ?_
      refine v_weak (E2 := [aU, aU]) ⟨Or.inr rfl, ⟨Or.inr rfl, trivial⟩⟩ ?_
      exact v_callV (j := M_X11_isWrong) (As := [aI 0]) (st := []) (E0 := [aR 72, aI 0]) (a := 72) (ci := 9) (N := 11) (q9 := (RX11, TX11, 11)) dX11_isEmpty_27 ml_X11_57 J_X11_isWrong (Nat.zero_le _) (Nat.zero_le _) (Nat.le_of_ble_eq_true rfl) rfl (Nat.le_of_ble_eq_true rfl) (List.forall_mem_cons.mpr ⟨rfl, List.forall_mem_cons.mpr ⟨rfl, fun _ h9 => absurd h9 List.not_mem_nil⟩⟩) (Nat.le_of_ble_eq_true rfl) rfl rfl rfl rfl pn_X11_isWrong rfl k
    · have k := k.2 z
      refine v_iconst dX11_isEmpty_22 ⟨by decide, by decide⟩ ?_
      refine v_goto (tgt := 27) dX11_isEmpty_23 (by decide) ?_
      refine v_weak (E2 := [aU, aU]) ⟨Or.inr rfl, ⟨Or.inr rfl, trivial⟩⟩ ?_
      exact v_callV (j := M_X11_isWrong) (As := [aI 2]) (st := []) (E0 := [aR 72, aI 2]) (a := 72) (ci := 9) (N := 11) (q9 := (RX11, TX11, 11)) dX11_isEmpty_27 ml_X11_57 J_X11_isWrong (Nat.zero_le _) (Nat.zero_le _) (Nat.le_of_ble_eq_true rfl) rfl (Nat.le_of_ble_eq_true rfl) (List.forall_mem_cons.mpr ⟨rfl, List.forall_mem_cons.mpr ⟨rfl, fun _ h9 => absurd h9 List.not_mem_nil⟩⟩) (Nat.le_of_ble_eq_true rfl) rfl rfl rfl rfl pn_X11_isWrong rfl k
  · have k := k.2 z
    refine v_iconst dX11_isEmpty_9 ⟨by decide, by decide⟩ ?_
    refine v_goto (tgt := 27) dX11_isEmpty_10 (by decide) ?_
    refine v_weak (E2 := [aU, aU]) ⟨Or.inr rfl, ⟨Or.inr rfl, trivial⟩⟩ ?_
    exact v_callV (j := M_X11_isWrong) (As := [aI 1]) (st := []) (E0 := [aR 72, aI 1]) (a := 72) (ci := 9) (N := 11) (q9 := (RX11, TX11, 11)) dX11_isEmpty_27 ml_X11_57 J_X11_isWrong (Nat.zero_le _) (Nat.zero_le _) (Nat.le_of_ble_eq_true rfl) rfl (Nat.le_of_ble_eq_true rfl) (List.forall_mem_cons.mpr ⟨rfl, List.forall_mem_cons.mpr ⟨rfl, fun _ h9 => absurd h9 List.not_mem_nil⟩⟩) (Nat.le_of_ble_eq_true rfl) rfl rfl rfl rfl pn_X11_isWrong rfl k
theorem S_X11_isEmpty_30 {kc ks : Nat} {h : Hh} {Q : PQ} {X : PX} {xs0 : Int}
    (k : ((xs0 = 0 ∨ xs0 = 1)) ∧ Q [aI xs0] am_R0 h) :
    am_V M_X11_isEmpty kc ks 30 [aU, aU] [aI xs0] am_R0 h Q X := by
  obtain ⟨b0_1, k⟩ := k
  exact v_zret dX11_isEmpty_30 rfl rfl b0_1 k
theorem S_X11_isLess_0 {kc ks : Nat} {h : Hh} {Q : PQ} {X : PX} {x1 : Int} {x2 : Int} {x3 : Int} {x4 : Int} {x5 : Int}
    (k : am_V M_X11_together 0 0 0 [aR 72, aI x1, aI x2, aI x3, aI x4, aU] [] am_R0 h (fun v ρ' h' => am_V M_X11_isLess kc ks 9 [aR 72, aI x1, aI x2, aI x3, aI x4, aI x5, aU] (v ++ []) ρ' h' Q X) X) :
    am_V M_X11_isLess kc ks 0 [aR 72, aI x1, aI x2, aI x3, aI x4, aI x5, aU] [] am_R0 h Q X := by
  refine v_aload_n dX11_isLess_0 rfl rfl ?_
  refine v_iload_n dX11_isLess_1 rfl rfl ?_
  refine v_iload_n dX11_isLess_2 rfl rfl ?_
  refine v_iload_n dX11_isLess_3 rfl rfl ?_
  refine v_iload dX11_isLess_4 rfl ?_
  exact v_callV (j := M_X11_together) (As := [aI x1, aI x2, aI x3, aI x4]) (st := []) (E0 := [aR 72, aI x1, aI x2, aI x3, aI x4, aU]) (a := 72) (ci := 9) (N := 11) (q9 := (RX11, TX11, 11)) dX11_isLess_6 ml_X11_102 J_X11_together (Nat.zero_le _) (Nat.zero_le _) (Nat.le_of_ble_eq_true rfl) rfl (Nat.le_of_ble_eq_true rfl) (List.forall_mem_cons.mpr ⟨rfl, List.forall_mem_cons.mpr ⟨rfl, List.forall_mem_cons.mpr ⟨rfl, List.forall_mem_cons.mpr ⟨rfl, List.forall_mem_cons.mpr ⟨rfl, fun _ h9 => absurd h9 List.not_mem_nil⟩⟩⟩⟩⟩) (Nat.le_of_ble_eq_true rfl) rfl rfl rfl rfl pn_X11_together rfl k
theorem S_X11_isLess_9 {kc ks : Nat} {h : Hh} {Q : PQ} {X : PX} {x1 : Int} {x2 : Int} {x3 : Int} {x4 : Int} {x5 : Int} {xs0 : Int}
    (k : ((x5 ≤ xs0 → Q [aI 0] am_R0 h) ∧ (xs0 < x5 → ((-2147483648 ≤ ((64 * x1) : Int) ∧ ((64 * x1) : Int) < 2147483648) ∧ (-2147483648 ≤ (((64 * x1) + x2) : Int) ∧ (((64 * x1) + x2) : Int) < 2147483648) ∧ (-2147483648 ≤ ((((64 * x1) + x2) + xs0) : Int) ∧ ((((64 * x1) + x2) + xs0) : Int) < 2147483648) ∧ (0 : Int) ≤ (((64 * x1) + x2) + xs0) ∧ ((((64 * x1) + x2) + xs0) : Int) < 576 ∧ (-2147483648 ≤ ((64 * x3) : Int) ∧ ((64 * x3) : Int) < 2147483648) ∧ (-2147483648 ≤ (((64 * x3) + x4) : Int) ∧ (((64 * x3) + x4) : Int) < 2147483648) ∧ (-2147483648 ≤ ((((64 * x3) + x4) + xs0) : Int) ∧ ((((64 * x3) + x4) + xs0) : Int) < 2147483648) ∧ (0 : Int) ≤ (((64 * x3) + x4) + xs0) ∧ ((((64 * x3) + x4) + xs0) : Int) < 576) ∧ (((h 73 (((64 * x3) + x4) + xs0)) ≤ (h 73 (((64 * x1) + x2) + xs0)) → Q [aI 0] am_R0 h) ∧ ((h 73 (((64 * x1) + x2) + xs0)) < (h 73 (((64 * x3) + x4) + xs0)) → Q [aI 1] am_R0 h))))) :
    am_V M_X11_isLess kc ks 9 [aR 72, aI x1, aI x2, aI x3, aI x4, aI x5, aU] [aI xs0] am_R0 h Q X := by
  refine v_istore (E2 := [aR 72, aI x1, aI x2, aI x3, aI x4, aI x5, aI xs0]) dX11_isLess_9 (Nat.le_of_ble_eq_true rfl) rfl ?_
  refine v_iload dX11_isLess_11 rfl ?_
  refine v_iload dX11_isLess_13 rfl ?_
  refine v_icmp_ge (tgt := 54) dX11_isLess_15 (by decide) (fun z => ?_) (fun z => ?_)
  · have k := k.1 z
    refine v_iconst dX11_isLess_54 ⟨by decide, by decide⟩ ?_
    exact v_zret dX11_isLess_55 rfl rfl (Or.inl rfl) k
  · have k := k.2 z
    obtain ⟨⟨b1_1, b1_2, b1_3, b1_4, b1_5, b1_6, b1_7, b1_8, b1_9, b1_10⟩, k⟩ := k
    refine v_aload_n dX11_isLess_18 rfl rfl ?_
    refine v_getR (x := 73) dX11_isLess_19 fl_X11_7 am_clsA rfl rfl rfl ?_
    refine v_bipush dX11_isLess_22 (by decide) (by decide) ?_
    refine v_iload_n dX11_isLess_24 rfl rfl ?_
    refine v_imul dX11_isLess_25 b1_1 ?_
    refine v_iload_n dX11_isLess_26 rfl rfl ?_
    refine v_iadd dX11_isLess_27 b1_2 ?_
    refine v_iload dX11_isLess_28 rfl ?_
    refine v_iadd dX11_isLess_30 b1_3 ?_
    refine v_cald dX11_isLess_31 rfl b1_4 b1_5 ?_
    refine v_aload_n dX11_isLess_32 rfl rfl ?_
    refine v_getR (x := 73) dX11_isLess_33 fl_X11_7 am_clsA rfl rfl rfl ?_
    refine v_bipush dX11_isLess_36 (by decide) (by decide) ?_
    refine v_iload_n dX11_isLess_38 rfl rfl ?_
    refine v_imul dX11_isLess_39 b1_6 ?_
    refine v_iload dX11_isLess_40 rfl ?_
    refine v_iadd dX11_isLess_42 b1_7 ?_
    refine v_iload dX11_isLess_43 rfl ?_
    refine v_iadd dX11_isLess_45 b1_8 ?_
    refine v_cald dX11_isLess_46 rfl b1_9 b1_10 ?_
    refine v_icmp_ge (tgt := 54) dX11_isLess_47 (by decide) (fun z => ?_) (fun z => ?_)
    · have k := k.1 z
      refine v_iconst dX11_isLess_54 ⟨by decide, by decide⟩ ?_
      exact v_zret dX11_isLess_55 rfl rfl (Or.inl rfl) k
    · have k := k.2 z
      refine v_iconst dX11_isLess_50 ⟨by decide, by decide⟩ ?_
      refine v_goto (tgt := 55) dX11_isLess_51 (by decide) ?_
      exact v_zret dX11_isLess_55 rfl rfl (Or.inr rfl) k
theorem S_X11_around_0 {kc ks : Nat} {h : Hh} {Q : PQ} {X : PX} {x1 : Int} {x2 : Int}
    (k : ((0 : Int) ≤ x1 ∧ (x1 : Int) < 9 ∧ (-2147483648 ≤ (((h 74 x1) + 1) : Int) ∧ (((h 74 x1) + 1) : Int) < 2147483648) ∧ (0 : Int) ≤ x2 ∧ (0 : Int) < ((h 74 x1) + 1) ∧ (0 : Int) ≤ x1 ∧ (x1 : Int) < 9) ∧ (((x2 % ((h 74 x1) + 1)) ≠ (h 74 x1) → ((-2147483648 ≤ ((64 * x1) : Int) ∧ ((64 * x1) : Int) < 2147483648) ∧ (-2147483648 ≤ (((64 * x1) + (x2 % ((h 74 x1) + 1))) : Int) ∧ (((64 * x1) + (x2 % ((h 74 x1) + 1))) : Int) < 2147483648) ∧ (0 : Int) ≤ ((64 * x1) + (x2 % ((h 74 x1) + 1))) ∧ (((64 * x1) + (x2 % ((h 74 x1) + 1))) : Int) < 576 ∧ (0 : Int) ≤ (h 73 ((64 * x1) + (x2 % ((h 74 x1) + 1)))) ∧ ((h 73 ((64 * x1) + (x2 % ((h 74 x1) + 1)))) : Int) < 65536) ∧ Q [aI (h 73 ((64 * x1) + (x2 % ((h 74 x1) + 1))))] am_R0 h) ∧ ((x2 % ((h 74 x1) + 1)) = (h 74 x1) → Q [aI 36] am_R0 h))) :
    am_V M_X11_around kc ks 0 [aR 72, aI x1, aI x2, aU] [] am_R0 h Q X := by
  obtain ⟨⟨b0_1, b0_2, b0_3, b0_4, b0_5, b0_6, b0_7⟩, k⟩ := k
  refine v_iload_n dX11_around_0 rfl rfl ?_
  refine v_aload_n dX11_around_1 rfl rfl ?_
  refine v_getR (x := 74) dX11_around_2 fl_X11_13 am_clsA rfl rfl rfl ?_
  refine v_iload_n dX11_around_5 rfl rfl ?_
  refine v_iald dX11_around_6 rfl b0_1 b0_2 ?_
  refine v_iconst dX11_around_7 ⟨by decide, by decide⟩ ?_
  refine v_iadd dX11_around_8 b0_3 ?_
  refine v_irem dX11_around_9 b0_4 b0_5 ?_
  refine v_istore_n (E2 := [aR 72, aI x1, aI x2, aI (x2 % ((h 74 x1) + 1))]) dX11_around_10 rfl (Nat.le_of_ble_eq_true rfl) rfl ?_
  refine v_iload_n dX11_around_11 rfl rfl ?_
  refine v_aload_n dX11_around_12 rfl rfl ?_
  refine v_getR (x := 74) dX11_around_13 fl_X11_13 am_clsA rfl rfl rfl ?_
  refine v_iload_n dX11_around_16 rfl rfl ?_
  refine v_iald dX11_around_17 rfl b0_6 b0_7 ?_
  refine v_icmp_ne (tgt := 26) dX11_around_18 (by decide) (fun z => ?_) (fun z => ?_)
  · have k := k.1 z
    obtain ⟨⟨b1_1, b1_2, b1_3, b1_4, b1_5, b1_6⟩, k⟩ := k
    refine v_aload_n dX11_around_26 rfl rfl ?_
    refine v_getR (x := 73) dX11_around_27 fl_X11_7 am_clsA rfl rfl rfl ?_
    refine v_bipush dX11_around_30 (by decide) (by decide) ?_
    refine v_iload_n dX11_around_32 rfl rfl ?_
    refine v_imul dX11_around_33 b1_1 ?_
    refine v_iload_n dX11_around_34 rfl rfl ?_
    refine v_iadd dX11_around_35 b1_2 ?_
    refine v_cald dX11_around_36 rfl b1_3 b1_4 ?_
    exact v_cret dX11_around_37 rfl rfl b1_5 b1_6 k
  · have k := k.2 z
    refine v_bipush dX11_around_21 (by decide) (by decide) ?_
    refine v_goto (tgt := 37) dX11_around_23 (by decide) ?_
    exact v_cret dX11_around_37 rfl rfl (by decide) (by decide) k
theorem S_X11_isTurnedLess_0 {kc ks : Nat} {h : Hh} {Q : PQ} {X : PX} {x1 : Int} {x2 : Int} {x3 : Int}
    (k : am_V M_X11_isTurnedLess kc ks 3 [aR 72, aI x1, aI x2, aI x3, aI 0] [] am_R0 h Q X) :
    am_V M_X11_isTurnedLess kc ks 0 [aR 72, aI x1, aI x2, aI x3, aU] [] am_R0 h Q X := by
  refine v_iconst dX11_isTurnedLess_0 ⟨by decide, by decide⟩ ?_
  refine v_istore (E2 := [aR 72, aI x1, aI x2, aI x3, aI 0]) dX11_isTurnedLess_1 (Nat.le_of_ble_eq_true rfl) rfl ?_
  exact k
theorem S_X11_isTurnedLess_3 {kc ks : Nat} {h : Hh} {Q : PQ} {X : PX} {x1 : Int} {x2 : Int} {x3 : Int} {x4 : Int}
    (k : ((0 : Int) ≤ x1 ∧ (x1 : Int) < 9) ∧ (((h 74 x1) < x4 → Q [aI 0] am_R0 h) ∧ (x4 ≤ (h 74 x1) → ((-2147483648 ≤ ((x2 + x4) : Int) ∧ ((x2 + x4) : Int) < 2147483648)) ∧ am_V M_X11_around 0 0 0 [aR 72, aI x1, aI (x2 + x4), aU] [] am_R0 h (fun v ρ' h' => am_V M_X11_isTurnedLess kc ks 23 [aR 72, aI x1, aI x2, aI x3, aI x4] (v ++ []) ρ' h' Q X) X))) :
    am_V M_X11_isTurnedLess kc ks 3 [aR 72, aI x1, aI x2, aI x3, aI x4] [] am_R0 h Q X := by
  obtain ⟨⟨b0_1, b0_2⟩, k⟩ := k
  refine v_iload dX11_isTurnedLess_3 rfl ?_
  refine v_aload_n dX11_isTurnedLess_5 rfl rfl ?_
  refine v_getR (x := 74) dX11_isTurnedLess_6 fl_X11_13 am_clsA rfl rfl rfl ?_
  refine v_iload_n dX11_isTurnedLess_9 rfl rfl ?_
  refine v_iald dX11_isTurnedLess_10 rfl b0_1 b0_2 ?_
  refine v_icmp_gt (tgt := 68) dX11_isTurnedLess_11 (by decide) (fun z => ?_) (fun z => ?_)
  · have k := k.1 z
    refine v_iconst dX11_isTurnedLess_68 ⟨by decide, by decide⟩ ?_
    exact v_zret dX11_isTurnedLess_69 rfl rfl (Or.inl rfl) k
  · have k := k.2 z
    obtain ⟨b1_1, k⟩ := k
    refine v_aload_n dX11_isTurnedLess_14 rfl rfl ?_
    refine v_iload_n dX11_isTurnedLess_15 rfl rfl ?_
    refine v_iload_n dX11_isTurnedLess_16 rfl rfl ?_
    refine v_iload dX11_isTurnedLess_17 rfl ?_
    refine v_iadd dX11_isTurnedLess_19 b1_1 ?_
    exact v_callV (j := M_X11_around) (As := [aI x1, aI (x2 + x4)]) (st := []) (E0 := [aR 72, aI x1, aI (x2 + x4), aU]) (a := 72) (ci := 9) (N := 11) (q9 := (RX11, TX11, 11)) dX11_isTurnedLess_20 ml_X11_148 J_X11_around (Nat.zero_le _) (Nat.zero_le _) (Nat.le_of_ble_eq_true rfl) rfl (Nat.le_of_ble_eq_true rfl) (List.forall_mem_cons.mpr ⟨rfl, List.forall_mem_cons.mpr ⟨rfl, List.forall_mem_cons.mpr ⟨rfl, fun _ h9 => absurd h9 List.not_mem_nil⟩⟩⟩) (Nat.le_of_ble_eq_true rfl) rfl rfl rfl rfl pn_X11_around rfl k
theorem S_X11_isTurnedLess_23 {kc ks : Nat} {h : Hh} {Q : PQ} {X : PX} {x1 : Int} {x2 : Int} {x3 : Int} {x4 : Int} {xs0 : Int}
    (k : ((-2147483648 ≤ ((x3 + x4) : Int) ∧ ((x3 + x4) : Int) < 2147483648)) ∧ am_V M_X11_around 0 0 0 [aR 72, aI x1, aI (x3 + x4), aU] [] am_R0 h (fun v ρ' h' => am_V M_X11_isTurnedLess kc ks 32 [aR 72, aI x1, aI x2, aI x3, aI x4] (v ++ [aI xs0]) ρ' h' Q X) X) :
    am_V M_X11_isTurnedLess kc ks 23 [aR 72, aI x1, aI x2, aI x3, aI x4] [aI xs0] am_R0 h Q X := by
  obtain ⟨b0_1, k⟩ := k
  refine v_aload_n dX11_isTurnedLess_23 rfl rfl ?_
  refine v_iload_n dX11_isTurnedLess_24 rfl rfl ?_
  refine v_iload_n dX11_isTurnedLess_25 rfl rfl ?_
  refine v_iload dX11_isTurnedLess_26 rfl ?_
  refine v_iadd dX11_isTurnedLess_28 b0_1 ?_
  exact v_callV (j := M_X11_around) (As := [aI x1, aI (x3 + x4)]) (st := [aI xs0]) (E0 := [aR 72, aI x1, aI (x3 + x4), aU]) (a := 72) (ci := 9) (N := 11) (q9 := (RX11, TX11, 11)) dX11_isTurnedLess_29 ml_X11_148 J_X11_around (Nat.zero_le _) (Nat.zero_le _) (Nat.le_of_ble_eq_true rfl) rfl (Nat.le_of_ble_eq_true rfl) (List.forall_mem_cons.mpr ⟨rfl, List.forall_mem_cons.mpr ⟨rfl, List.forall_mem_cons.mpr ⟨rfl, fun _ h9 => absurd h9 List.not_mem_nil⟩⟩⟩) (Nat.le_of_ble_eq_true rfl) rfl rfl rfl rfl pn_X11_around rfl k
theorem S_X11_isTurnedLess_32 {kc ks : Nat} {h : Hh} {Q : PQ} {X : PX} {x1 : Int} {x2 : Int} {x3 : Int} {x4 : Int} {xs0 : Int} {xs1 : Int}
    (k : ((xs1 = xs0 → ((-2147483648 ≤ ((x4 + 1) : Int) ∧ ((x4 + 1) : Int) < 2147483648)) ∧ am_V M_X11_isTurnedLess kc ks 3 [aR 72, aI x1, aI x2, aI x3, aI (x4 + 1)] [] am_R0 h Q X) ∧ (xs1 ≠ xs0 → ((-2147483648 ≤ ((x2 + x4) : Int) ∧ ((x2 + x4) : Int) < 2147483648)) ∧ am_V M_X11_around 0 0 0 [aR 72, aI x1, aI (x2 + x4), aU] [] am_R0 h (fun v ρ' h' => am_V M_X11_isTurnedLess kc ks 44 [aR 72, aI x1, aU, aI x3, aI x4] (v ++ []) ρ' h' Q X) X))) :
    am_V M_X11_isTurnedLess kc ks 32 [aR 72, aI x1, aI x2, aI x3, aI x4] [aI xs0, aI xs1] am_R0 h Q X := by
  refine v_icmp_eq (tgt := 62) dX11_isTurnedLess_32 (by decide) (fun z => ?_) (fun z => ?_)
  · have k := k.1 z
    obtain ⟨b1_1, k⟩ := k
    refine v_iinc (E2 := [aR 72, aI x1, aI x2, aI x3, aI (x4 + 1)]) dX11_isTurnedLess_62 rfl b1_1 rfl ?_
    refine v_goto (tgt := 3) dX11_isTurnedLess_65 (by decide) ?_
    exact k
  · have k := k.2 z
    obtain ⟨b1_1, k⟩ := k
    refine v_aload_n dX11_isTurnedLess_35 rfl rfl ?_
    refine v_iload_n dX11_isTurnedLess_36 rfl rfl ?_
    refine v_iload_n dX11_isTurnedLess_37 rfl rfl ?_
    refine v_iload dX11_isTurnedLess_38 rfl ?_
    refine v_iadd dX11_isTurnedLess_40 b1_1 ?_
    refine v_weak (E2 := [aR 72, aI x1, aU, aI x3, aI x4]) ⟨Or.inl rfl, ⟨Or.inl rfl, ⟨Or.inr rfl, ⟨Or.inl rfl, ⟨Or.inl rfl, trivial⟩⟩⟩⟩⟩ ?_
    exact v_callV (j := M_X11_around) (As := [aI x1, aI (x2 + x4)]) (st := []) (E0 := [aR 72, aI x1, aI (x2 + x4), aU]) (a := 72) (ci := 9) (N := 11) (q9 := (RX11, TX11, 11)) dX11_isTurnedLess_41 ml_X11_148 J_X11_around (Nat.zero_le _) (Nat.zero_le _) (Nat.le_of_ble_eq_true rfl) rfl (Nat.le_of_ble_eq_true rfl) (List.forall_mem_cons.mpr ⟨rfl, List.forall_mem_cons.mpr ⟨rfl, List.forall_mem_cons.mpr ⟨rfl, fun _ h9 => absurd h9 List.not_mem_nil⟩⟩⟩) (Nat.le_of_ble_eq_true rfl) rfl rfl rfl rfl pn_X11_around rfl k
theorem S_X11_isTurnedLess_44 {kc ks : Nat} {h : Hh} {Q : PQ} {X : PX} {x1 : Int} {x3 : Int} {x4 : Int} {xs0 : Int}
    (k : ((-2147483648 ≤ ((x3 + x4) : Int) ∧ ((x3 + x4) : Int) < 2147483648)) ∧ am_V M_X11_around 0 0 0 [aR 72, aI x1, aI (x3 + x4), aU] [] am_R0 h (fun v ρ' h' => am_V M_X11_isTurnedLess kc ks 53 [aU, aU, aU, aU, aU] (v ++ [aI xs0]) ρ' h' Q X) X) :
    am_V M_X11_isTurnedLess kc ks 44 [aR 72, aI x1, aU, aI x3, aI x4] [aI xs0] am_R0 h Q X := by
  obtain ⟨b0_1, k⟩ := k
  refine v_aload_n dX11_isTurnedLess_44 rfl rfl ?_
  refine v_iload_n dX11_isTurnedLess_45 rfl rfl ?_
  refine v_iload_n dX11_isTurnedLess_46 rfl rfl ?_
  refine v_iload dX11_isTurnedLess_47 rfl ?_
  refine v_iadd dX11_isTurnedLess_49 b0_1 ?_
  refine v_weak (E2 := [aU, aU, aU, aU, aU]) ⟨Or.inr rfl, ⟨Or.inr rfl, ⟨Or.inl rfl, ⟨Or.inr rfl, ⟨Or.inr rfl, trivial⟩⟩⟩⟩⟩ ?_
  exact v_callV (j := M_X11_around) (As := [aI x1, aI (x3 + x4)]) (st := [aI xs0]) (E0 := [aR 72, aI x1, aI (x3 + x4), aU]) (a := 72) (ci := 9) (N := 11) (q9 := (RX11, TX11, 11)) dX11_isTurnedLess_50 ml_X11_148 J_X11_around (Nat.zero_le _) (Nat.zero_le _) (Nat.le_of_ble_eq_true rfl) rfl (Nat.le_of_ble_eq_true rfl) (List.forall_mem_cons.mpr ⟨rfl, List.forall_mem_cons.mpr ⟨rfl, List.forall_mem_cons.mpr ⟨rfl, fun _ h9 => absurd h9 List.not_mem_nil⟩⟩⟩) (Nat.le_of_ble_eq_true rfl) rfl rfl rfl rfl pn_X11_around rfl k
theorem S_X11_isTurnedLess_53 {kc ks : Nat} {h : Hh} {Q : PQ} {X : PX} {xs0 : Int} {xs1 : Int}
    (k : ((xs0 ≤ xs1 → Q [aI 0] am_R0 h) ∧ (xs1 < xs0 → Q [aI 1] am_R0 h))) :
    am_V M_X11_isTurnedLess kc ks 53 [aU, aU, aU, aU, aU] [aI xs0, aI xs1] am_R0 h Q X := by
  refine v_icmp_ge (tgt := 60) dX11_isTurnedLess_53 (by decide) (fun z => ?_) (fun z => ?_)
  · have k := k.1 z
    refine v_iconst dX11_isTurnedLess_60 ⟨by decide, by decide⟩ ?_
    exact v_zret dX11_isTurnedLess_61 rfl rfl (Or.inl rfl) k
  · have k := k.2 z
    refine v_iconst dX11_isTurnedLess_56 ⟨by decide, by decide⟩ ?_
    refine v_goto (tgt := 61) dX11_isTurnedLess_57 (by decide) ?_
    exact v_zret dX11_isTurnedLess_61 rfl rfl (Or.inr rfl) k
theorem S_X11_isNoRow_0 {kc ks : Nat} {h : Hh} {Q : PQ} {X : PX} {x1 : Int} {x2 : Int}
    (k : am_V M_X11_isText 0 0 0 [aR 72, aI x1] [] am_R0 h (fun v ρ' h' => am_V M_X11_isNoRow kc ks 6 [aR 72, aI x1, aI x2] (v ++ [aR 72]) ρ' h' Q X) X) :
    am_V M_X11_isNoRow kc ks 0 [aR 72, aI x1, aI x2] [] am_R0 h Q X := by
  refine v_aload_n dX11_isNoRow_0 rfl rfl ?_
  refine v_aload_n dX11_isNoRow_1 rfl rfl ?_
  refine v_iload_n dX11_isNoRow_2 rfl rfl ?_
  exact v_callV (j := M_X11_isText) (As := [aI x1]) (st := [aR 72]) (E0 := [aR 72, aI x1]) (a := 72) (ci := 9) (N := 11) (q9 := (RX11, TX11, 11)) dX11_isNoRow_3 ml_X11_46 J_X11_isText (Nat.zero_le _) (Nat.zero_le _) (Nat.le_of_ble_eq_true rfl) rfl (Nat.le_of_ble_eq_true rfl) (List.forall_mem_cons.mpr ⟨rfl, List.forall_mem_cons.mpr ⟨rfl, fun _ h9 => absurd h9 List.not_mem_nil⟩⟩) (Nat.le_of_ble_eq_true rfl) rfl rfl rfl rfl pn_X11_isText rfl k
theorem S_X11_isNoRow_6 {kc ks : Nat} {h : Hh} {Q : PQ} {X : PX} {x1 : Int} {x2 : Int} {xs0 : Int}
    (k : ((xs0 = 0 → am_V M_X11_isWrong 0 0 0 [aR 72, aI 1] [] am_R0 h (fun v ρ' h' => am_V M_X11_isNoRow kc ks 31 [aR 72, aI x1, aU] (v ++ []) ρ' h' Q X) X) ∧ (xs0 ≠ 0 → ((0 : Int) ≤ x1 ∧ (x1 : Int) < 9) ∧ am_V M_X11_isBetween 0 0 0 [aI x2, aI 0, aI (h 74 x1)] [] am_R0 h (fun v ρ' h' => am_V M_X11_isNoRow kc ks 20 [aR 72, aI x1, aU] (v ++ [aR 72]) ρ' h' Q X) X))) :
    am_V M_X11_isNoRow kc ks 6 [aR 72, aI x1, aI x2] [aI xs0, aR 72] am_R0 h Q X := by
  refine v_if_eq (tgt := 27) dX11_isNoRow_6 (by decide) (fun z => ?_) (fun z => ?_)
  · have k := k.1 z
    refine v_iconst dX11_isNoRow_27 ⟨by decide, by decide⟩ ?_
    refine v_weak (E2 := [aR 72, aI x1, aU]) ⟨Or.inl rfl, ⟨Or.inl rfl, ⟨Or.inr rfl, trivial⟩⟩⟩ ?_
    exact v_callV (j := M_X11_isWrong) (As := [aI 1]) (st := []) (E0 := [aR 72, aI 1]) (a := 72) (ci := 9) (N := 11) (q9 := (RX11, TX11, 11)) dX11_isNoRow_28 ml_X11_57 J_X11_isWrong (Nat.zero_le _) (Nat.zero_le _) (Nat.le_of_ble_eq_true rfl) rfl (Nat.le_of_ble_eq_true rfl) (List.forall_mem_cons.mpr ⟨rfl, List.forall_mem_cons.mpr ⟨rfl, fun _ h9 => absurd h9 List.not_mem_nil⟩⟩) (Nat.le_of_ble_eq_true rfl) rfl rfl rfl rfl pn_X11_isWrong rfl k
  · have k := k.2 z
    obtain ⟨⟨b1_1, b1_2⟩, k⟩ := k
    refine v_iload_n dX11_isNoRow_9 rfl rfl ?_
    refine v_iconst dX11_isNoRow_10 ⟨by decide, by decide⟩ ?_
    refine v_aload_n dX11_isNoRow_11 rfl rfl ?_
    refine v_getR (x := 74) dX11_isNoRow_12 fl_X11_13 am_clsA rfl rfl rfl ?_
    refine v_iload_n dX11_isNoRow_15 rfl rfl ?_
    refine v_iald dX11_isNoRow_16 rfl b1_1 b1_2 ?_
    refine v_weak (E2 := [aR 72, aI x1, aU]) ⟨Or.inl rfl, ⟨Or.inl rfl, ⟨Or.inr rfl, trivial⟩⟩⟩ ?_
    exact v_callS (j := M_X11_isBetween) (As := [aI x2, aI 0, aI (h 74 x1)]) (st := [aR 72]) (E0 := [aI x2, aI 0, aI (h 74 x1)]) dX11_isNoRow_17 ms_X11_42 J_X11_isBetween (Nat.zero_le _) (Nat.zero_le _) (Nat.le_of_ble_eq_true rfl) rfl (Nat.le_of_ble_eq_true rfl) (List.forall_mem_cons.mpr ⟨rfl, List.forall_mem_cons.mpr ⟨rfl, List.forall_mem_cons.mpr ⟨rfl, fun _ h9 => absurd h9 List.not_mem_nil⟩⟩⟩) (Nat.le_of_ble_eq_true rfl) rfl pn_X11_isBetween rfl k
theorem S_X11_isNoRow_31 {kc ks : Nat} {h : Hh} {Q : PQ} {X : PX} {x1 : Int} {xs0 : Int}
    (k : ((xs0 = 0 → am_V M_X11_turns 0 0 0 [aR 72, aI x1, aU, aU, aU] [] am_R0 h (fun v ρ' h' => am_V M_X11_isNoRow kc ks 41 [aU, aU, aU] (v ++ []) ρ' h' Q X) X) ∧ (xs0 ≠ 0 → Q [aI 1] am_R0 h))) :
    am_V M_X11_isNoRow kc ks 31 [aR 72, aI x1, aU] [aI xs0] am_R0 h Q X := by
  refine v_if_eq (tgt := 36) dX11_isNoRow_31 (by decide) (fun z => ?_) (fun z => ?_)
  · have k := k.1 z
    refine v_aload_n dX11_isNoRow_36 rfl rfl ?_
    refine v_iload_n dX11_isNoRow_37 rfl rfl ?_
    refine v_weak (E2 := [aU, aU, aU]) ⟨Or.inr rfl, ⟨Or.inr rfl, ⟨Or.inl rfl, trivial⟩⟩⟩ ?_
    exact v_callV (j := M_X11_turns) (As := [aI x1]) (st := []) (E0 := [aR 72, aI x1, aU, aU, aU]) (a := 72) (ci := 9) (N := 11) (q9 := (RX11, TX11, 11)) dX11_isNoRow_38 ml_X11_155 J_X11_turns (Nat.zero_le _) (Nat.zero_le _) (Nat.le_of_ble_eq_true rfl) rfl (Nat.le_of_ble_eq_true rfl) (List.forall_mem_cons.mpr ⟨rfl, List.forall_mem_cons.mpr ⟨rfl, fun _ h9 => absurd h9 List.not_mem_nil⟩⟩) (Nat.le_of_ble_eq_true rfl) rfl rfl rfl rfl pn_X11_turns rfl k
  · have k := k.2 z
    refine v_iconst dX11_isNoRow_34 ⟨by decide, by decide⟩ ?_
    exact v_zret dX11_isNoRow_35 rfl rfl (Or.inr rfl) k
theorem S_X11_isNoRow_20 {kc ks : Nat} {h : Hh} {Q : PQ} {X : PX} {x1 : Int} {xs0 : Int}
    (k : ((xs0 = 0 → am_V M_X11_isWrong 0 0 0 [aR 72, aI 1] [] am_R0 h (fun v ρ' h' => am_V M_X11_isNoRow kc ks 31 [aR 72, aI x1, aU] (v ++ []) ρ' h' Q X) X) ∧ (xs0 ≠ 0 → am_V M_X11_isWrong 0 0 0 [aR 72, aI 0] [] am_R0 h (fun v ρ' h' => am_V M_X11_isNoRow kc ks 31 [aR 72, aI x1, aU] (v ++ []) ρ' h' Q X) X))) :
    am_V M_X11_isNoRow kc ks 20 [aR 72, aI x1, aU] [aI xs0, aR 72] am_R0 h Q X := by
  refine v_if_eq (tgt := 27) dX11_isNoRow_20 (by decide) (fun z => ?_) (fun z => ?_)
  · have k := k.1 z
    refine v_iconst dX11_isNoRow_27 ⟨by decide, by decide⟩ ?_
    exact v_callV (j := M_X11_isWrong) (As := [aI 1]) (st := []) (E0 := [aR 72, aI 1]) (a := 72) (ci := 9) (N := 11) (q9 := (RX11, TX11, 11)) dX11_isNoRow_28 ml_X11_57 J_X11_isWrong (Nat.zero_le _) (Nat.zero_le _) (Nat.le_of_ble_eq_true rfl) rfl (Nat.le_of_ble_eq_true rfl) (List.forall_mem_cons.mpr ⟨rfl, List.forall_mem_cons.mpr ⟨rfl, fun _ h9 => absurd h9 List.not_mem_nil⟩⟩) (Nat.le_of_ble_eq_true rfl) rfl rfl rfl rfl pn_X11_isWrong rfl k
  · have k := k.2 z
    refine v_iconst dX11_isNoRow_23 ⟨by decide, by decide⟩ ?_
    refine v_goto (tgt := 28) dX11_isNoRow_24 (by decide) ?_
    exact v_callV (j := M_X11_isWrong) (As := [aI 0]) (st := []) (E0 := [aR 72, aI 0]) (a := 72) (ci := 9) (N := 11) (q9 := (RX11, TX11, 11)) dX11_isNoRow_28 ml_X11_57 J_X11_isWrong (Nat.zero_le _) (Nat.zero_le _) (Nat.le_of_ble_eq_true rfl) rfl (Nat.le_of_ble_eq_true rfl) (List.forall_mem_cons.mpr ⟨rfl, List.forall_mem_cons.mpr ⟨rfl, fun _ h9 => absurd h9 List.not_mem_nil⟩⟩) (Nat.le_of_ble_eq_true rfl) rfl rfl rfl rfl pn_X11_isWrong rfl k
theorem S_X11_isNoRow_41 {kc ks : Nat} {h : Hh} {Q : PQ} {X : PX} 
    (k : Q [aI 0] am_R0 h) :
    am_V M_X11_isNoRow kc ks 41 [aU, aU, aU] [] am_R0 h Q X := by
  refine v_iconst dX11_isNoRow_41 ⟨by decide, by decide⟩ ?_
  exact v_zret dX11_isNoRow_42 rfl rfl (Or.inl rfl) k
theorem S_X11_first_0 {kc ks : Nat} {h : Hh} {Q : PQ} {X : PX} {x1 : Int} {x2 : Int}
    (k : am_V M_X11_isNoRow 0 0 0 [aR 72, aI x1, aI x2] [] am_R0 h (fun v ρ' h' => am_V M_X11_first kc ks 6 [aR 72, aI x1, aI x2] (v ++ []) ρ' h' Q X) X) :
    am_V M_X11_first kc ks 0 [aR 72, aI x1, aI x2] [] am_R0 h Q X := by
  refine v_aload_n dX11_first_0 rfl rfl ?_
  refine v_iload_n dX11_first_1 rfl rfl ?_
  refine v_iload_n dX11_first_2 rfl rfl ?_
  exact v_callV (j := M_X11_isNoRow) (As := [aI x1, aI x2]) (st := []) (E0 := [aR 72, aI x1, aI x2]) (a := 72) (ci := 9) (N := 11) (q9 := (RX11, TX11, 11)) dX11_first_3 ml_X11_158 J_X11_isNoRow (Nat.zero_le _) (Nat.zero_le _) (Nat.le_of_ble_eq_true rfl) rfl (Nat.le_of_ble_eq_true rfl) (List.forall_mem_cons.mpr ⟨rfl, List.forall_mem_cons.mpr ⟨rfl, List.forall_mem_cons.mpr ⟨rfl, fun _ h9 => absurd h9 List.not_mem_nil⟩⟩⟩) (Nat.le_of_ble_eq_true rfl) rfl rfl rfl rfl pn_X11_isNoRow rfl k
theorem S_X11_first_6 {kc ks : Nat} {h : Hh} {Q : PQ} {X : PX} {x1 : Int} {x2 : Int} {xs0 : Int}
    (k : ((xs0 = 0 → ((0 : Int) ≤ x2 ∧ (x2 : Int) < 65) ∧ am_V M_X11_around 0 0 0 [aR 72, aI x1, aI (h 77 x2), aU] [] am_R0 h (fun v ρ' h' => am_V M_X11_first kc ks 24 [aU, aU, aU] (v ++ []) ρ' h' Q X) X) ∧ (xs0 ≠ 0 → Q [aI 0] am_R0 h))) :
    am_V M_X11_first kc ks 6 [aR 72, aI x1, aI x2] [aI xs0] am_R0 h Q X := by
  refine v_if_eq (tgt := 13) dX11_first_6 (by decide) (fun z => ?_) (fun z => ?_)
  · have k := k.1 z
    obtain ⟨⟨b1_1, b1_2⟩, k⟩ := k
    refine v_aload_n dX11_first_13 rfl rfl ?_
    refine v_iload_n dX11_first_14 rfl rfl ?_
    refine v_aload_n dX11_first_15 rfl rfl ?_
    refine v_getR (x := 77) dX11_first_16 fl_X11_23 am_clsA rfl rfl rfl ?_
    refine v_iload_n dX11_first_19 rfl rfl ?_
    refine v_iald dX11_first_20 rfl b1_1 b1_2 ?_
    refine v_weak (E2 := [aU, aU, aU]) ⟨Or.inr rfl, ⟨Or.inr rfl, ⟨Or.inr rfl, trivial⟩⟩⟩ ?_
    exact v_callV (j := M_X11_around) (As := [aI x1, aI (h 77 x2)]) (st := []) (E0 := [aR 72, aI x1, aI (h 77 x2), aU]) (a := 72) (ci := 9) (N := 11) (q9 := (RX11, TX11, 11)) dX11_first_21 ml_X11_148 J_X11_around (Nat.zero_le _) (Nat.zero_le _) (Nat.le_of_ble_eq_true rfl) rfl (Nat.le_of_ble_eq_true rfl) (List.forall_mem_cons.mpr ⟨rfl, List.forall_mem_cons.mpr ⟨rfl, List.forall_mem_cons.mpr ⟨rfl, fun _ h9 => absurd h9 List.not_mem_nil⟩⟩⟩) (Nat.le_of_ble_eq_true rfl) rfl rfl rfl rfl pn_X11_around rfl k
  · have k := k.2 z
    refine v_iconst dX11_first_9 ⟨by decide, by decide⟩ ?_
    refine v_goto (tgt := 24) dX11_first_10 (by decide) ?_
    exact v_cret dX11_first_24 rfl rfl (by decide) (by decide) k
theorem S_X11_first_24 {kc ks : Nat} {h : Hh} {Q : PQ} {X : PX} {xs0 : Int}
    (k : ((0 : Int) ≤ xs0 ∧ (xs0 : Int) < 65536) ∧ Q [aI xs0] am_R0 h) :
    am_V M_X11_first kc ks 24 [aU, aU, aU] [aI xs0] am_R0 h Q X := by
  obtain ⟨⟨b0_1, b0_2⟩, k⟩ := k
  exact v_cret dX11_first_24 rfl rfl b0_1 b0_2 k
theorem S_X11_back_0 {kc ks : Nat} {h : Hh} {Q : PQ} {X : PX} {x1 : Int} {x2 : Int}
    (k : am_V M_X11_isNoRow 0 0 0 [aR 72, aI x1, aI x2] [] am_R0 h (fun v ρ' h' => am_V M_X11_back kc ks 6 [aR 72, aI x1, aI x2, aU, aU] (v ++ []) ρ' h' Q X) X) :
    am_V M_X11_back kc ks 0 [aR 72, aI x1, aI x2, aU, aU] [] am_R0 h Q X := by
  refine v_aload_n dX11_back_0 rfl rfl ?_
  refine v_iload_n dX11_back_1 rfl rfl ?_
  refine v_iload_n dX11_back_2 rfl rfl ?_
  exact v_callV (j := M_X11_isNoRow) (As := [aI x1, aI x2]) (st := []) (E0 := [aR 72, aI x1, aI x2]) (a := 72) (ci := 9) (N := 11) (q9 := (RX11, TX11, 11)) dX11_back_3 ml_X11_158 J_X11_isNoRow (Nat.zero_le _) (Nat.zero_le _) (Nat.le_of_ble_eq_true rfl) rfl (Nat.le_of_ble_eq_true rfl) (List.forall_mem_cons.mpr ⟨rfl, List.forall_mem_cons.mpr ⟨rfl, List.forall_mem_cons.mpr ⟨rfl, fun _ h9 => absurd h9 List.not_mem_nil⟩⟩⟩) (Nat.le_of_ble_eq_true rfl) rfl rfl rfl rfl pn_X11_isNoRow rfl k
theorem S_X11_back_6 {kc ks : Nat} {h : Hh} {Q : PQ} {X : PX} {x1 : Int} {x2 : Int} {xs0 : Int}
    (k : ((xs0 = 0 → ((0 : Int) ≤ x2 ∧ (x2 : Int) < 65 ∧ (0 : Int) ≤ x1 ∧ (x1 : Int) < 9 ∧ (-2147483648 ≤ (((h 77 x2) + (h 74 x1)) : Int) ∧ (((h 77 x2) + (h 74 x1)) : Int) < 2147483648) ∧ (0 : Int) ≤ x1 ∧ (x1 : Int) < 9 ∧ (-2147483648 ≤ (((h 74 x1) + 1) : Int) ∧ (((h 74 x1) + 1) : Int) < 2147483648) ∧ (0 : Int) ≤ ((h 77 x2) + (h 74 x1)) ∧ (0 : Int) < ((h 74 x1) + 1)) ∧ am_V M_X11_back kc ks 37 [aR 72, aU, aU, aI (((h 77 x2) + (h 74 x1)) % ((h 74 x1) + 1)), aI 0] [] am_R0 h Q X) ∧ (xs0 ≠ 0 → Q [aI 0] am_R0 h))) :
    am_V M_X11_back kc ks 6 [aR 72, aI x1, aI x2, aU, aU] [aI xs0] am_R0 h Q X := by
  refine v_if_eq (tgt := 11) dX11_back_6 (by decide) (fun z => ?_) (fun z => ?_)
  · have k := k.1 z
    obtain ⟨⟨b1_1, b1_2, b1_3, b1_4, b1_5, b1_6, b1_7, b1_8, b1_9, b1_10⟩, k⟩ := k
    refine v_aload_n dX11_back_11 rfl rfl ?_
    refine v_getR (x := 77) dX11_back_12 fl_X11_23 am_clsA rfl rfl rfl ?_
    refine v_iload_n dX11_back_15 rfl rfl ?_
    refine v_iald dX11_back_16 rfl b1_1 b1_2 ?_
    refine v_aload_n dX11_back_17 rfl rfl ?_
    refine v_getR (x := 74) dX11_back_18 fl_X11_13 am_clsA rfl rfl rfl ?_
    refine v_iload_n dX11_back_21 rfl rfl ?_
    refine v_iald dX11_back_22 rfl b1_3 b1_4 ?_
    refine v_iadd dX11_back_23 b1_5 ?_
    refine v_aload_n dX11_back_24 rfl rfl ?_
    refine v_getR (x := 74) dX11_back_25 fl_X11_13 am_clsA rfl rfl rfl ?_
    refine v_iload_n dX11_back_28 rfl rfl ?_
    refine v_iald dX11_back_29 rfl b1_6 b1_7 ?_
    refine v_iconst dX11_back_30 ⟨by decide, by decide⟩ ?_
    refine v_iadd dX11_back_31 b1_8 ?_
    refine v_irem dX11_back_32 b1_9 b1_10 ?_
    refine v_istore_n (E2 := [aR 72, aI x1, aI x2, aI (((h 77 x2) + (h 74 x1)) % ((h 74 x1) + 1)), aU]) dX11_back_33 rfl (Nat.le_of_ble_eq_true rfl) rfl ?_
    refine v_iconst dX11_back_34 ⟨by decide, by decide⟩ ?_
    refine v_istore (E2 := [aR 72, aI x1, aI x2, aI (((h 77 x2) + (h 74 x1)) % ((h 74 x1) + 1)), aI 0]) dX11_back_35 (Nat.le_of_ble_eq_true rfl) rfl ?_
    refine v_weak (E2 := [aR 72, aU, aU, aI (((h 77 x2) + (h 74 x1)) % ((h 74 x1) + 1)), aI 0]) ⟨Or.inl rfl, ⟨Or.inr rfl, ⟨Or.inr rfl, ⟨Or.inl rfl, ⟨Or.inl rfl, trivial⟩⟩⟩⟩⟩ ?_
    exact k
  · have k := k.2 z
    refine v_iconst dX11_back_9 ⟨by decide, by decide⟩ ?_
    exact v_iret dX11_back_10 rfl rfl k
theorem S_X11_back_37 {kc ks : Nat} {h : Hh} {Q : PQ} {X : PX} {x3 : Int} {x4 : Int}
    (k : ((0 : Int) ≤ x4 ∧ (x4 : Int) < 65) ∧ (((h 77 x4) = x3 → Q [aI x4] am_R0 h) ∧ ((h 77 x4) ≠ x3 → ((-2147483648 ≤ ((x4 + 1) : Int) ∧ ((x4 + 1) : Int) < 2147483648)) ∧ am_V M_X11_back kc ks 37 [aR 72, aU, aU, aI x3, aI (x4 + 1)] [] am_R0 h Q X))) :
    am_V M_X11_back kc ks 37 [aR 72, aU, aU, aI x3, aI x4] [] am_R0 h Q X := by
  obtain ⟨⟨b0_1, b0_2⟩, k⟩ := k
  refine v_aload_n dX11_back_37 rfl rfl ?_
  refine v_getR (x := 77) dX11_back_38 fl_X11_23 am_clsA rfl rfl rfl ?_
  refine v_iload dX11_back_41 rfl ?_
  refine v_iald dX11_back_43 rfl b0_1 b0_2 ?_
  refine v_iload_n dX11_back_44 rfl rfl ?_
  refine v_icmp_eq (tgt := 54) dX11_back_45 (by decide) (fun z => ?_) (fun z => ?_)
  · have k := k.1 z
    refine v_iload dX11_back_54 rfl ?_
    exact v_iret dX11_back_56 rfl rfl k
  · have k := k.2 z
    obtain ⟨b1_1, k⟩ := k
    refine v_iinc (E2 := [aR 72, aU, aU, aI x3, aI (x4 + 1)]) dX11_back_48 rfl b1_1 rfl ?_
    refine v_goto (tgt := 37) dX11_back_51 (by decide) ?_
    exact k
theorem S_X11_front_0 {kc ks : Nat} {h : Hh} {Q : PQ} {X : PX} {x1 : Int} {x2 : Int}
    (k : am_V M_X11_isNoRow 0 0 0 [aR 72, aI x1, aI x2] [] am_R0 h (fun v ρ' h' => am_V M_X11_front kc ks 6 [aR 72, aI x1, aI x2, aU, aU, aU] (v ++ []) ρ' h' Q X) X) :
    am_V M_X11_front kc ks 0 [aR 72, aI x1, aI x2, aU, aU, aU] [] am_R0 h Q X := by
  refine v_aload_n dX11_front_0 rfl rfl ?_
  refine v_iload_n dX11_front_1 rfl rfl ?_
  refine v_iload_n dX11_front_2 rfl rfl ?_
  exact v_callV (j := M_X11_isNoRow) (As := [aI x1, aI x2]) (st := []) (E0 := [aR 72, aI x1, aI x2]) (a := 72) (ci := 9) (N := 11) (q9 := (RX11, TX11, 11)) dX11_front_3 ml_X11_158 J_X11_isNoRow (Nat.zero_le _) (Nat.zero_le _) (Nat.le_of_ble_eq_true rfl) rfl (Nat.le_of_ble_eq_true rfl) (List.forall_mem_cons.mpr ⟨rfl, List.forall_mem_cons.mpr ⟨rfl, List.forall_mem_cons.mpr ⟨rfl, fun _ h9 => absurd h9 List.not_mem_nil⟩⟩⟩) (Nat.le_of_ble_eq_true rfl) rfl rfl rfl rfl pn_X11_isNoRow rfl k
theorem S_X11_front_6 {kc ks : Nat} {h : Hh} {Q : PQ} {X : PX} {x1 : Int} {x2 : Int} {xs0 : Int}
    (k : ((xs0 = 0 → ((0 : Int) ≤ 0 ∧ (0 : Int) < 27) ∧ am_V M_X11_front kc ks 21 [aR 72, aI x1, aI x2, aI 1, aU, aU] [] am_R0 (am_st h 80 0 (36 % 65536)) Q X) ∧ (xs0 ≠ 0 → Q [aI 0] am_R0 h))) :
    am_V M_X11_front kc ks 6 [aR 72, aI x1, aI x2, aU, aU, aU] [aI xs0] am_R0 h Q X := by
  refine v_if_eq (tgt := 11) dX11_front_6 (by decide) (fun z => ?_) (fun z => ?_)
  · have k := k.1 z
    obtain ⟨⟨b1_1, b1_2⟩, k⟩ := k
    refine v_aload_n dX11_front_11 rfl rfl ?_
    refine v_getR (x := 80) dX11_front_12 fl_X11_32 am_clsA rfl rfl rfl ?_
    refine v_iconst dX11_front_15 ⟨by decide, by decide⟩ ?_
    refine v_bipush dX11_front_16 (by decide) (by decide) ?_
    refine v_cast dX11_front_18 rfl b1_1 b1_2 ?_
    refine v_iconst dX11_front_19 ⟨by decide, by decide⟩ ?_
    refine v_istore_n (E2 := [aR 72, aI x1, aI x2, aI 1, aU, aU]) dX11_front_20 rfl (Nat.le_of_ble_eq_true rfl) rfl ?_
    exact k
  · have k := k.2 z
    refine v_iconst dX11_front_9 ⟨by decide, by decide⟩ ?_
    exact v_iret dX11_front_10 rfl rfl k
theorem S_X11_front_21 {kc ks : Nat} {h : Hh} {Q : PQ} {X : PX} {x1 : Int} {x2 : Int} {x3 : Int}
    (k : ((27 ≤ x3 → am_V M_X11_front kc ks 51 [aR 72, aI x1, aI x2, aI 0, aI 0, aU] [] am_R0 h Q X) ∧ (x3 < 27 → ((-2147483648 ≤ ((97 + x3) : Int) ∧ ((97 + x3) : Int) < 2147483648) ∧ (-2147483648 ≤ (((97 + x3) - 1) : Int) ∧ (((97 + x3) - 1) : Int) < 2147483648) ∧ (0 : Int) ≤ x3 ∧ (x3 : Int) < 27 ∧ (-2147483648 ≤ ((x3 + 1) : Int) ∧ ((x3 + 1) : Int) < 2147483648)) ∧ am_V M_X11_front kc ks 21 [aR 72, aI x1, aI x2, aI (x3 + 1), aU, aU] [] am_R0 (am_st h 80 x3 ((((97 + x3) - 1) % 65536) % 65536)) Q X))) :
    am_V M_X11_front kc ks 21 [aR 72, aI x1, aI x2, aI x3, aU, aU] [] am_R0 h Q X := by
  refine v_iload_n dX11_front_21 rfl rfl ?_
  refine v_bipush dX11_front_22 (by decide) (by decide) ?_
  refine v_icmp_ge (tgt := 46) dX11_front_24 (by decide) (fun z => ?_) (fun z => ?_)
  · have k := k.1 z
    refine v_iconst dX11_front_46 ⟨by decide, by decide⟩ ?_
    refine v_istore_n (E2 := [aR 72, aI x1, aI x2, aI 0, aU, aU]) dX11_front_47 rfl (Nat.le_of_ble_eq_true rfl) rfl ?_
    refine v_iconst dX11_front_48 ⟨by decide, by decide⟩ ?_
    refine v_istore (E2 := [aR 72, aI x1, aI x2, aI 0, aI 0, aU]) dX11_front_49 (Nat.le_of_ble_eq_true rfl) rfl ?_
    exact k
  · have k := k.2 z
    obtain ⟨⟨b1_1, b1_2, b1_3, b1_4, b1_5⟩, k⟩ := k
    refine v_aload_n dX11_front_27 rfl rfl ?_
    refine v_getR (x := 80) dX11_front_28 fl_X11_32 am_clsA rfl rfl rfl ?_
    refine v_iload_n dX11_front_31 rfl rfl ?_
    refine v_bipush dX11_front_32 (by decide) (by decide) ?_
    refine v_iload_n dX11_front_34 rfl rfl ?_
    refine v_iadd dX11_front_35 b1_1 ?_
    refine v_iconst dX11_front_36 ⟨by decide, by decide⟩ ?_
    refine v_isub dX11_front_37 b1_2 ?_
    refine v_i2c dX11_front_38 ?_
    refine v_cast dX11_front_39 rfl b1_3 b1_4 ?_
    refine v_iinc (E2 := [aR 72, aI x1, aI x2, aI (x3 + 1), aU, aU]) dX11_front_40 rfl b1_5 rfl ?_
    refine v_goto (tgt := 21) dX11_front_43 (by decide) ?_
    exact k
theorem S_X11_front_51 {kc ks : Nat} {h : Hh} {Q : PQ} {X : PX} {x1 : Int} {x2 : Int} {x3 : Int} {x4 : Int}
    (k : ((x2 < x4 → Q [aI x3] am_R0 h) ∧ (x4 ≤ x2 → am_V M_X11_front kc ks 59 [aR 72, aI x1, aI x2, aI 0, aI x4, aU] [] am_R0 h Q X))) :
    am_V M_X11_front kc ks 51 [aR 72, aI x1, aI x2, aI x3, aI x4, aU] [] am_R0 h Q X := by
  refine v_iload dX11_front_51 rfl ?_
  refine v_iload_n dX11_front_53 rfl rfl ?_
  refine v_icmp_gt (tgt := 130) dX11_front_54 (by decide) (fun z => ?_) (fun z => ?_)
  · have k := k.1 z
    refine v_iload_n dX11_front_130 rfl rfl ?_
    exact v_iret dX11_front_131 rfl rfl k
  · have k := k.2 z
    refine v_iconst dX11_front_57 ⟨by decide, by decide⟩ ?_
    refine v_istore_n (E2 := [aR 72, aI x1, aI x2, aI 0, aI x4, aU]) dX11_front_58 rfl (Nat.le_of_ble_eq_true rfl) rfl ?_
    exact k
theorem S_X11_front_59 {kc ks : Nat} {h : Hh} {Q : PQ} {X : PX} {x1 : Int} {x2 : Int} {x3 : Int} {x4 : Int}
    (k : ((0 : Int) ≤ x3 ∧ (x3 : Int) < 27) ∧ am_V M_X11_lastAt 0 0 0 [aR 72, aI x1, aI x4] [] am_R0 h (fun v ρ' h' => am_V M_X11_front kc ks 72 [aR 72, aI x1, aI x2, aI x3, aI x4, aU] (v ++ [aI (h 80 x3)]) ρ' h' Q X) X) :
    am_V M_X11_front kc ks 59 [aR 72, aI x1, aI x2, aI x3, aI x4, aU] [] am_R0 h Q X := by
  obtain ⟨⟨b0_1, b0_2⟩, k⟩ := k
  refine v_aload_n dX11_front_59 rfl rfl ?_
  refine v_getR (x := 80) dX11_front_60 fl_X11_32 am_clsA rfl rfl rfl ?_
  refine v_iload_n dX11_front_63 rfl rfl ?_
  refine v_cald dX11_front_64 rfl b0_1 b0_2 ?_
  refine v_aload_n dX11_front_65 rfl rfl ?_
  refine v_iload_n dX11_front_66 rfl rfl ?_
  refine v_iload dX11_front_67 rfl ?_
  exact v_callV (j := M_X11_lastAt) (As := [aI x1, aI x4]) (st := [aI (h 80 x3)]) (E0 := [aR 72, aI x1, aI x4]) (a := 72) (ci := 9) (N := 11) (q9 := (RX11, TX11, 11)) dX11_front_69 ml_X11_161 J_X11_lastAt (Nat.zero_le _) (Nat.zero_le _) (Nat.le_of_ble_eq_true rfl) rfl (Nat.le_of_ble_eq_true rfl) (List.forall_mem_cons.mpr ⟨rfl, List.forall_mem_cons.mpr ⟨rfl, List.forall_mem_cons.mpr ⟨rfl, fun _ h9 => absurd h9 List.not_mem_nil⟩⟩⟩) (Nat.le_of_ble_eq_true rfl) rfl rfl rfl rfl pn_X11_lastAt rfl k
theorem S_X11_front_72 {kc ks : Nat} {h : Hh} {Q : PQ} {X : PX} {x1 : Int} {x2 : Int} {x3 : Int} {x4 : Int} {xs0 : Int} {xs1 : Int}
    (k : ((xs1 = xs0 → am_V M_X11_front kc ks 84 [aR 72, aI x1, aI x2, aI x3, aI x4, aI x3] [] am_R0 h Q X) ∧ (xs1 ≠ xs0 → ((-2147483648 ≤ ((x3 + 1) : Int) ∧ ((x3 + 1) : Int) < 2147483648)) ∧ am_V M_X11_front kc ks 59 [aR 72, aI x1, aI x2, aI (x3 + 1), aI x4, aU] [] am_R0 h Q X))) :
    am_V M_X11_front kc ks 72 [aR 72, aI x1, aI x2, aI x3, aI x4, aU] [aI xs0, aI xs1] am_R0 h Q X := by
  refine v_icmp_eq (tgt := 81) dX11_front_72 (by decide) (fun z => ?_) (fun z => ?_)
  · have k := k.1 z
    refine v_iload_n dX11_front_81 rfl rfl ?_
    refine v_istore (E2 := [aR 72, aI x1, aI x2, aI x3, aI x4, aI x3]) dX11_front_82 (Nat.le_of_ble_eq_true rfl) rfl ?_
    exact k
  · have k := k.2 z
    obtain ⟨b1_1, k⟩ := k
    refine v_iinc (E2 := [aR 72, aI x1, aI x2, aI (x3 + 1), aI x4, aU]) dX11_front_75 rfl b1_1 rfl ?_
    refine v_goto (tgt := 59) dX11_front_78 (by decide) ?_
    exact k
theorem S_X11_front_84 {kc ks : Nat} {h : Hh} {Q : PQ} {X : PX} {x1 : Int} {x2 : Int} {x3 : Int} {x4 : Int} {x5 : Int}
    (k : ((x5 ≤ 0 → am_V M_X11_lastAt 0 0 0 [aR 72, aI x1, aI x4] [] am_R0 h (fun v ρ' h' => am_V M_X11_front kc ks 123 [aR 72, aI x1, aI x2, aI x3, aI x4, aU] (v ++ [aI 0, aR 80]) ρ' h' Q X) X) ∧ (0 < x5 → ((-2147483648 ≤ ((x5 - 1) : Int) ∧ ((x5 - 1) : Int) < 2147483648) ∧ (0 : Int) ≤ (x5 - 1) ∧ ((x5 - 1) : Int) < 27 ∧ (0 : Int) ≤ x5 ∧ (x5 : Int) < 27 ∧ (-2147483648 ≤ ((x5 + (-1)) : Int) ∧ ((x5 + (-1)) : Int) < 2147483648)) ∧ am_V M_X11_front kc ks 84 [aR 72, aI x1, aI x2, aI x3, aI x4, aI (x5 + (-1))] [] am_R0 (am_st h 80 x5 ((h 80 (x5 - 1)) % 65536)) Q X))) :
    am_V M_X11_front kc ks 84 [aR 72, aI x1, aI x2, aI x3, aI x4, aI x5] [] am_R0 h Q X := by
  refine v_iload dX11_front_84 rfl ?_
  refine v_if_le (tgt := 111) dX11_front_86 (by decide) (fun z => ?_) (fun z => ?_)
  · have k := k.1 z
    refine v_aload_n dX11_front_111 rfl rfl ?_
    refine v_getR (x := 80) dX11_front_112 fl_X11_32 am_clsA rfl rfl rfl ?_
    refine v_iconst dX11_front_115 ⟨by decide, by decide⟩ ?_
    refine v_aload_n dX11_front_116 rfl rfl ?_
    refine v_iload_n dX11_front_117 rfl rfl ?_
    refine v_iload dX11_front_118 rfl ?_
    refine v_weak (E2 := [aR 72, aI x1, aI x2, aI x3, aI x4, aU]) ⟨Or.inl rfl, ⟨Or.inl rfl, ⟨Or.inl rfl, ⟨Or.inl rfl, ⟨Or.inl rfl, ⟨Or.inr rfl, trivial⟩⟩⟩⟩⟩⟩ ?_
    exact v_callV (j := M_X11_lastAt) (As := [aI x1, aI x4]) (st := [aI 0, aR 80]) (E0 := [aR 72, aI x1, aI x4]) (a := 72) (ci := 9) (N := 11) (q9 := (RX11, TX11, 11)) dX11_front_120 ml_X11_161 J_X11_lastAt (Nat.zero_le _) (Nat.zero_le _) (Nat.le_of_ble_eq_true rfl) rfl (Nat.le_of_ble_eq_true rfl) (List.forall_mem_cons.mpr ⟨rfl, List.forall_mem_cons.mpr ⟨rfl, List.forall_mem_cons.mpr ⟨rfl, fun _ h9 => absurd h9 List.not_mem_nil⟩⟩⟩) (Nat.le_of_ble_eq_true rfl) rfl rfl rfl rfl pn_X11_lastAt rfl k
  · have k := k.2 z
    obtain ⟨⟨b1_1, b1_2, b1_3, b1_4, b1_5, b1_6⟩, k⟩ := k
    refine v_aload_n dX11_front_89 rfl rfl ?_
    refine v_getR (x := 80) dX11_front_90 fl_X11_32 am_clsA rfl rfl rfl ?_
    refine v_iload dX11_front_93 rfl ?_
    refine v_aload_n dX11_front_95 rfl rfl ?_
    refine v_getR (x := 80) dX11_front_96 fl_X11_32 am_clsA rfl rfl rfl ?_
    refine v_iload dX11_front_99 rfl ?_
    refine v_iconst dX11_front_101 ⟨by decide, by decide⟩ ?_
    refine v_isub dX11_front_102 b1_1 ?_
    refine v_cald dX11_front_103 rfl b1_2 b1_3 ?_
    refine v_cast dX11_front_104 rfl b1_4 b1_5 ?_
    refine v_iinc (E2 := [aR 72, aI x1, aI x2, aI x3, aI x4, aI (x5 + (-1))]) dX11_front_105 rfl b1_6 rfl ?_
    refine v_goto (tgt := 84) dX11_front_108 (by decide) ?_
    exact k
theorem S_X11_front_123 {kc ks : Nat} {h : Hh} {Q : PQ} {X : PX} {x1 : Int} {x2 : Int} {x3 : Int} {x4 : Int} {xs0 : Int} {xs1 : Int}
    (k : ((0 : Int) ≤ xs1 ∧ (xs1 : Int) < 27 ∧ (-2147483648 ≤ ((x4 + 1) : Int) ∧ ((x4 + 1) : Int) < 2147483648)) ∧ am_V M_X11_front kc ks 51 [aR 72, aI x1, aI x2, aI x3, aI (x4 + 1), aU] [] am_R0 (am_st h 80 xs1 (xs0 % 65536)) Q X) :
    am_V M_X11_front kc ks 123 [aR 72, aI x1, aI x2, aI x3, aI x4, aU] [aI xs0, aI xs1, aR 80] am_R0 h Q X := by
  obtain ⟨⟨b0_1, b0_2, b0_3⟩, k⟩ := k
  refine v_cast dX11_front_123 rfl b0_1 b0_2 ?_
  refine v_iinc (E2 := [aR 72, aI x1, aI x2, aI x3, aI (x4 + 1), aU]) dX11_front_124 rfl b0_3 rfl ?_
  refine v_goto (tgt := 51) dX11_front_127 (by decide) ?_
  exact k
theorem S_X11_column_0 {kc ks : Nat} {h : Hh} {Q : PQ} {X : PX} {x1 : Int}
    (k : am_V M_X11_isNoRow 0 0 0 [aR 72, aI x1, aI 0] [] am_R0 h (fun v ρ' h' => am_V M_X11_column kc ks 6 [aR 72, aI x1, aU] (v ++ []) ρ' h' Q X) X) :
    am_V M_X11_column kc ks 0 [aR 72, aI x1, aU] [] am_R0 h Q X := by
  refine v_aload_n dX11_column_0 rfl rfl ?_
  refine v_iload_n dX11_column_1 rfl rfl ?_
  refine v_iconst dX11_column_2 ⟨by decide, by decide⟩ ?_
  exact v_callV (j := M_X11_isNoRow) (As := [aI x1, aI 0]) (st := []) (E0 := [aR 72, aI x1, aI 0]) (a := 72) (ci := 9) (N := 11) (q9 := (RX11, TX11, 11)) dX11_column_3 ml_X11_158 J_X11_isNoRow (Nat.zero_le _) (Nat.zero_le _) (Nat.le_of_ble_eq_true rfl) rfl (Nat.le_of_ble_eq_true rfl) (List.forall_mem_cons.mpr ⟨rfl, List.forall_mem_cons.mpr ⟨rfl, List.forall_mem_cons.mpr ⟨rfl, fun _ h9 => absurd h9 List.not_mem_nil⟩⟩⟩) (Nat.le_of_ble_eq_true rfl) rfl rfl rfl rfl pn_X11_isNoRow rfl k
theorem S_X11_column_6 {kc ks : Nat} {h : Hh} {Q : PQ} {X : PX} {x1 : Int} {xs0 : Int}
    (k : ((xs0 = 0 → am_V M_X11_column kc ks 13 [aR 72, aI x1, aI 0] [] am_R0 h Q X) ∧ (xs0 ≠ 0 → Q [aI 0] am_R0 h))) :
    am_V M_X11_column kc ks 6 [aR 72, aI x1, aU] [aI xs0] am_R0 h Q X := by
  refine v_if_eq (tgt := 11) dX11_column_6 (by decide) (fun z => ?_) (fun z => ?_)
  · have k := k.1 z
    refine v_iconst dX11_column_11 ⟨by decide, by decide⟩ ?_
    refine v_istore_n (E2 := [aR 72, aI x1, aI 0]) dX11_column_12 rfl (Nat.le_of_ble_eq_true rfl) rfl ?_
    exact k
  · have k := k.2 z
    refine v_iconst dX11_column_9 ⟨by decide, by decide⟩ ?_
    exact v_iret dX11_column_10 rfl rfl k
theorem S_X11_column_13 {kc ks : Nat} {h : Hh} {Q : PQ} {X : PX} {x1 : Int} {x2 : Int}
    (k : ((0 : Int) ≤ x1 ∧ (x1 : Int) < 9) ∧ (((h 74 x1) < x2 → ((0 : Int) ≤ x1 ∧ (x1 : Int) < 9 ∧ (-2147483648 ≤ (((h 74 x1) + 1) : Int) ∧ (((h 74 x1) + 1) : Int) < 2147483648)) ∧ Q [aI ((am_st h 72 9 ((h 74 x1) + 1)) 72 9)] am_R0 (am_st h 72 9 ((h 74 x1) + 1))) ∧ (x2 ≤ (h 74 x1) → am_V M_X11_lastAt 0 0 0 [aR 72, aI x1, aI x2] [] am_R0 h (fun v ρ' h' => am_V M_X11_column kc ks 34 [aR 72, aI x1, aI x2] (v ++ [aI x2, aR 75]) ρ' h' Q X) X))) :
    am_V M_X11_column kc ks 13 [aR 72, aI x1, aI x2] [] am_R0 h Q X := by
  obtain ⟨⟨b0_1, b0_2⟩, k⟩ := k
  refine v_iload_n dX11_column_13 rfl rfl ?_
  refine v_aload_n dX11_column_14 rfl rfl ?_
  refine v_getR (x := 74) dX11_column_15 fl_X11_13 am_clsA rfl rfl rfl ?_
  refine v_iload_n dX11_column_18 rfl rfl ?_
  refine v_iald dX11_column_19 rfl b0_1 b0_2 ?_
  refine v_icmp_gt (tgt := 41) dX11_column_20 (by decide) (fun z => ?_) (fun z => ?_)
  · have k := k.1 z
    obtain ⟨⟨b1_1, b1_2, b1_3⟩, k⟩ := k
    refine v_aload_n dX11_column_41 rfl rfl ?_
    refine v_aload_n dX11_column_42 rfl rfl ?_
    refine v_getR (x := 74) dX11_column_43 fl_X11_13 am_clsA rfl rfl rfl ?_
    refine v_iload_n dX11_column_46 rfl rfl ?_
    refine v_iald dX11_column_47 rfl b1_1 b1_2 ?_
    refine v_iconst dX11_column_48 ⟨by decide, by decide⟩ ?_
    refine v_iadd dX11_column_49 b1_3 ?_
    refine v_putI (j := 9) dX11_column_50 pl_X11_54 am_clsA rfl rfl rfl ?_
    refine v_aload_n dX11_column_53 rfl rfl ?_
    refine v_getI (j := 9) dX11_column_54 fl_X11_54 am_clsA rfl rfl rfl ?_
    exact v_iret dX11_column_57 rfl rfl k
  · have k := k.2 z
    refine v_aload_n dX11_column_23 rfl rfl ?_
    refine v_getR (x := 75) dX11_column_24 fl_X11_17 am_clsA rfl rfl rfl ?_
    refine v_iload_n dX11_column_27 rfl rfl ?_
    refine v_aload_n dX11_column_28 rfl rfl ?_
    refine v_iload_n dX11_column_29 rfl rfl ?_
    refine v_iload_n dX11_column_30 rfl rfl ?_
    exact v_callV (j := M_X11_lastAt) (As := [aI x1, aI x2]) (st := [aI x2, aR 75]) (E0 := [aR 72, aI x1, aI x2]) (a := 72) (ci := 9) (N := 11) (q9 := (RX11, TX11, 11)) dX11_column_31 ml_X11_161 J_X11_lastAt (Nat.zero_le _) (Nat.zero_le _) (Nat.le_of_ble_eq_true rfl) rfl (Nat.le_of_ble_eq_true rfl) (List.forall_mem_cons.mpr ⟨rfl, List.forall_mem_cons.mpr ⟨rfl, List.forall_mem_cons.mpr ⟨rfl, fun _ h9 => absurd h9 List.not_mem_nil⟩⟩⟩) (Nat.le_of_ble_eq_true rfl) rfl rfl rfl rfl pn_X11_lastAt rfl k
theorem S_X11_column_34 {kc ks : Nat} {h : Hh} {Q : PQ} {X : PX} {x1 : Int} {x2 : Int} {xs0 : Int} {xs1 : Int}
    (k : ((0 : Int) ≤ xs1 ∧ (xs1 : Int) < 65 ∧ (-2147483648 ≤ ((x2 + 1) : Int) ∧ ((x2 + 1) : Int) < 2147483648)) ∧ am_V M_X11_column kc ks 13 [aR 72, aI x1, aI (x2 + 1)] [] am_R0 (am_st h 75 xs1 (xs0 % 65536)) Q X) :
    am_V M_X11_column kc ks 34 [aR 72, aI x1, aI x2] [aI xs0, aI xs1, aR 75] am_R0 h Q X := by
  obtain ⟨⟨b0_1, b0_2, b0_3⟩, k⟩ := k
  refine v_cast dX11_column_34 rfl b0_1 b0_2 ?_
  refine v_iinc (E2 := [aR 72, aI x1, aI (x2 + 1)]) dX11_column_35 rfl b0_3 rfl ?_
  refine v_goto (tgt := 13) dX11_column_38 (by decide) ?_
  exact k
theorem S_X11_isSquare_0 {kc ks : Nat} {h : Hh} {Q : PQ} {X : PX} {x1 : Int} {x2 : Int} {x3 : Int}
    (k : ((-2147483648 ≤ ((2 * x3) : Int) ∧ ((2 * x3) : Int) < 2147483648) ∧ (-2147483648 ≤ ((x2 + (2 * x3)) : Int) ∧ ((x2 + (2 * x3)) : Int) < 2147483648) ∧ (0 : Int) ≤ x1 ∧ (x1 : Int) < 9) ∧ (((h 74 x1) < (x2 + (2 * x3)) → Q [aI 0] am_R0 h) ∧ ((x2 + (2 * x3)) ≤ (h 74 x1) → ((-2147483648 ≤ ((x2 + x3) : Int) ∧ ((x2 + x3) : Int) < 2147483648)) ∧ am_V M_X11_together 0 0 0 [aR 72, aI x1, aI x2, aI x1, aI (x2 + x3), aU] [] am_R0 h (fun v ρ' h' => am_V M_X11_isSquare kc ks 24 [aU, aU, aU, aI x3] (v ++ []) ρ' h' Q X) X))) :
    am_V M_X11_isSquare kc ks 0 [aR 72, aI x1, aI x2, aI x3] [] am_R0 h Q X := by
  obtain ⟨⟨b0_1, b0_2, b0_3, b0_4⟩, k⟩ := k
  refine v_iload_n dX11_isSquare_0 rfl rfl ?_
  refine v_iconst dX11_isSquare_1 ⟨by decide, by decide⟩ ?_
  refine v_iload_n dX11_isSquare_2 rfl rfl ?_
  refine v_imul dX11_isSquare_3 b0_1 ?_
  refine v_iadd dX11_isSquare_4 b0_2 ?_
  refine v_aload_n dX11_isSquare_5 rfl rfl ?_
  refine v_getR (x := 74) dX11_isSquare_6 fl_X11_13 am_clsA rfl rfl rfl ?_
  refine v_iload_n dX11_isSquare_9 rfl rfl ?_
  refine v_iald dX11_isSquare_10 rfl b0_3 b0_4 ?_
  refine v_icmp_gt (tgt := 32) dX11_isSquare_11 (by decide) (fun z => ?_) (fun z => ?_)
  · have k := k.1 z
    refine v_iconst dX11_isSquare_32 ⟨by decide, by decide⟩ ?_
    exact v_zret dX11_isSquare_33 rfl rfl (Or.inl rfl) k
  · have k := k.2 z
    obtain ⟨b1_1, k⟩ := k
    refine v_aload_n dX11_isSquare_14 rfl rfl ?_
    refine v_iload_n dX11_isSquare_15 rfl rfl ?_
    refine v_iload_n dX11_isSquare_16 rfl rfl ?_
    refine v_iload_n dX11_isSquare_17 rfl rfl ?_
    refine v_iload_n dX11_isSquare_18 rfl rfl ?_
    refine v_iload_n dX11_isSquare_19 rfl rfl ?_
    refine v_iadd dX11_isSquare_20 b1_1 ?_
    refine v_weak (E2 := [aU, aU, aU, aI x3]) ⟨Or.inr rfl, ⟨Or.inr rfl, ⟨Or.inr rfl, ⟨Or.inl rfl, trivial⟩⟩⟩⟩ ?_
    exact v_callV (j := M_X11_together) (As := [aI x1, aI x2, aI x1, aI (x2 + x3)]) (st := []) (E0 := [aR 72, aI x1, aI x2, aI x1, aI (x2 + x3), aU]) (a := 72) (ci := 9) (N := 11) (q9 := (RX11, TX11, 11)) dX11_isSquare_21 ml_X11_102 J_X11_together (Nat.zero_le _) (Nat.zero_le _) (Nat.le_of_ble_eq_true rfl) rfl (Nat.le_of_ble_eq_true rfl) (List.forall_mem_cons.mpr ⟨rfl, List.forall_mem_cons.mpr ⟨rfl, List.forall_mem_cons.mpr ⟨rfl, List.forall_mem_cons.mpr ⟨rfl, List.forall_mem_cons.mpr ⟨rfl, fun _ h9 => absurd h9 List.not_mem_nil⟩⟩⟩⟩⟩) (Nat.le_of_ble_eq_true rfl) rfl rfl rfl rfl pn_X11_together rfl k
theorem S_X11_isSquare_24 {kc ks : Nat} {h : Hh} {Q : PQ} {X : PX} {x3 : Int} {xs0 : Int}
    (k : ((xs0 < x3 → Q [aI 0] am_R0 h) ∧ (x3 ≤ xs0 → Q [aI 1] am_R0 h))) :
    am_V M_X11_isSquare kc ks 24 [aU, aU, aU, aI x3] [aI xs0] am_R0 h Q X := by
  refine v_iload_n dX11_isSquare_24 rfl rfl ?_
  refine v_icmp_lt (tgt := 32) dX11_isSquare_25 (by decide) (fun z => ?_) (fun z => ?_)
  · have k := k.1 z
    refine v_iconst dX11_isSquare_32 ⟨by decide, by decide⟩ ?_
    exact v_zret dX11_isSquare_33 rfl rfl (Or.inl rfl) k
  · have k := k.2 z
    refine v_iconst dX11_isSquare_28 ⟨by decide, by decide⟩ ?_
    refine v_goto (tgt := 33) dX11_isSquare_29 (by decide) ?_
    exact v_zret dX11_isSquare_33 rfl rfl (Or.inr rfl) k
theorem S_X11_findParts_0 {kc ks : Nat} {h : Hh} {Q : PQ} {X : PX} {x1 : Int}
    (k : am_V M_X11_findParts kc ks 4 [aR 72, aI x1, aI 0, aI 0, aU] [] am_R0 h Q X) :
    am_V M_X11_findParts kc ks 0 [aR 72, aI x1, aU, aU, aU] [] am_R0 h Q X := by
  refine v_iconst dX11_findParts_0 ⟨by decide, by decide⟩ ?_
  refine v_istore_n (E2 := [aR 72, aI x1, aI 0, aU, aU]) dX11_findParts_1 rfl (Nat.le_of_ble_eq_true rfl) rfl ?_
  refine v_iconst dX11_findParts_2 ⟨by decide, by decide⟩ ?_
  refine v_istore_n (E2 := [aR 72, aI x1, aI 0, aI 0, aU]) dX11_findParts_3 rfl (Nat.le_of_ble_eq_true rfl) rfl ?_
  exact k
theorem S_X11_findParts_4 {kc ks : Nat} {h : Hh} {Q : PQ} {X : PX} {x1 : Int} {x2 : Int} {x3 : Int}
    (k : ((0 : Int) ≤ x1 ∧ (x1 : Int) < 9) ∧ (((h 74 x1) ≤ x3 → Q [aI x2] am_R0 h) ∧ (x3 < (h 74 x1) → ((0 : Int) ≤ x1 ∧ (x1 : Int) < 9 ∧ (-2147483648 ≤ (((h 74 x1) - x3) : Int) ∧ (((h 74 x1) - x3) : Int) < 2147483648)) ∧ am_V M_X11_findParts kc ks 24 [aR 72, aI x1, aI x2, aI x3, aI ((h 74 x1) - x3)] [] am_R0 h Q X))) :
    am_V M_X11_findParts kc ks 4 [aR 72, aI x1, aI x2, aI x3, aU] [] am_R0 h Q X := by
  obtain ⟨⟨b0_1, b0_2⟩, k⟩ := k
  refine v_iload_n dX11_findParts_4 rfl rfl ?_
  refine v_aload_n dX11_findParts_5 rfl rfl ?_
  refine v_getR (x := 74) dX11_findParts_6 fl_X11_13 am_clsA rfl rfl rfl ?_
  refine v_iload_n dX11_findParts_9 rfl rfl ?_
  refine v_iald dX11_findParts_10 rfl b0_1 b0_2 ?_
  refine v_icmp_ge (tgt := 59) dX11_findParts_11 (by decide) (fun z => ?_) (fun z => ?_)
  · have k := k.1 z
    refine v_iload_n dX11_findParts_59 rfl rfl ?_
    exact v_iret dX11_findParts_60 rfl rfl k
  · have k := k.2 z
    obtain ⟨⟨b1_1, b1_2, b1_3⟩, k⟩ := k
    refine v_aload_n dX11_findParts_14 rfl rfl ?_
    refine v_getR (x := 74) dX11_findParts_15 fl_X11_13 am_clsA rfl rfl rfl ?_
    refine v_iload_n dX11_findParts_18 rfl rfl ?_
    refine v_iald dX11_findParts_19 rfl b1_1 b1_2 ?_
    refine v_iload_n dX11_findParts_20 rfl rfl ?_
    refine v_isub dX11_findParts_21 b1_3 ?_
    refine v_istore (E2 := [aR 72, aI x1, aI x2, aI x3, aI ((h 74 x1) - x3)]) dX11_findParts_22 (Nat.le_of_ble_eq_true rfl) rfl ?_
    exact k
theorem S_X11_findParts_24 {kc ks : Nat} {h : Hh} {Q : PQ} {X : PX} {x1 : Int} {x2 : Int} {x3 : Int} {x4 : Int}
    (k : am_V M_X11_isPlain 0 0 0 [aR 72, aI x1, aI x3, aI x4, aU, aU] [] am_R0 h (fun v ρ' h' => am_V M_X11_findParts kc ks 32 [aR 72, aI x1, aI x2, aI x3, aI x4] (v ++ []) ρ' h' Q X) X) :
    am_V M_X11_findParts kc ks 24 [aR 72, aI x1, aI x2, aI x3, aI x4] [] am_R0 h Q X := by
  refine v_aload_n dX11_findParts_24 rfl rfl ?_
  refine v_iload_n dX11_findParts_25 rfl rfl ?_
  refine v_iload_n dX11_findParts_26 rfl rfl ?_
  refine v_iload dX11_findParts_27 rfl ?_
  exact v_callV (j := M_X11_isPlain) (As := [aI x1, aI x3, aI x4]) (st := []) (E0 := [aR 72, aI x1, aI x3, aI x4, aU, aU]) (a := 72) (ci := 9) (N := 11) (q9 := (RX11, TX11, 11)) dX11_findParts_29 ml_X11_170 J_X11_isPlain (Nat.zero_le _) (Nat.zero_le _) (Nat.le_of_ble_eq_true rfl) rfl (Nat.le_of_ble_eq_true rfl) (List.forall_mem_cons.mpr ⟨rfl, List.forall_mem_cons.mpr ⟨rfl, List.forall_mem_cons.mpr ⟨rfl, List.forall_mem_cons.mpr ⟨rfl, fun _ h9 => absurd h9 List.not_mem_nil⟩⟩⟩⟩) (Nat.le_of_ble_eq_true rfl) rfl rfl rfl rfl pn_X11_isPlain rfl k
theorem S_X11_findParts_32 {kc ks : Nat} {h : Hh} {Q : PQ} {X : PX} {x1 : Int} {x2 : Int} {x3 : Int} {x4 : Int} {xs0 : Int}
    (k : ((xs0 ≠ 0 → ((0 : Int) ≤ x2 ∧ (x2 : Int) < 65 ∧ (-2147483648 ≤ ((x2 + 1) : Int) ∧ ((x2 + 1) : Int) < 2147483648) ∧ (-2147483648 ≤ ((x3 + x4) : Int) ∧ ((x3 + x4) : Int) < 2147483648)) ∧ am_V M_X11_findParts kc ks 4 [aR 72, aI x1, aI (x2 + 1), aI (x3 + x4), aU] [] am_R0 (am_st h 79 x2 x3) Q X) ∧ (xs0 = 0 → ((-2147483648 ≤ ((x4 + (-1)) : Int) ∧ ((x4 + (-1)) : Int) < 2147483648)) ∧ am_V M_X11_findParts kc ks 24 [aR 72, aI x1, aI x2, aI x3, aI (x4 + (-1))] [] am_R0 h Q X))) :
    am_V M_X11_findParts kc ks 32 [aR 72, aI x1, aI x2, aI x3, aI x4] [aI xs0] am_R0 h Q X := by
  refine v_if_ne (tgt := 41) dX11_findParts_32 (by decide) (fun z => ?_) (fun z => ?_)
  · have k := k.1 z
    obtain ⟨⟨b1_1, b1_2, b1_3, b1_4⟩, k⟩ := k
    refine v_aload_n dX11_findParts_41 rfl rfl ?_
    refine v_getR (x := 79) dX11_findParts_42 fl_X11_29 am_clsA rfl rfl rfl ?_
    refine v_iload_n dX11_findParts_45 rfl rfl ?_
    refine v_iload_n dX11_findParts_46 rfl rfl ?_
    refine v_iast dX11_findParts_47 rfl b1_1 b1_2 ?_
    refine v_iinc (E2 := [aR 72, aI x1, aI (x2 + 1), aI x3, aI x4]) dX11_findParts_48 rfl b1_3 rfl ?_
    refine v_iload_n dX11_findParts_51 rfl rfl ?_
    refine v_iload dX11_findParts_52 rfl ?_
    refine v_iadd dX11_findParts_54 b1_4 ?_
    refine v_istore_n (E2 := [aR 72, aI x1, aI (x2 + 1), aI (x3 + x4), aI x4]) dX11_findParts_55 rfl (Nat.le_of_ble_eq_true rfl) rfl ?_
    refine v_goto (tgt := 4) dX11_findParts_56 (by decide) ?_
    refine v_weak (E2 := [aR 72, aI x1, aI (x2 + 1), aI (x3 + x4), aU]) ⟨Or.inl rfl, ⟨Or.inl rfl, ⟨Or.inl rfl, ⟨Or.inl rfl, ⟨Or.inr rfl, trivial⟩⟩⟩⟩⟩ ?_
    exact k
  · have k := k.2 z
    obtain ⟨b1_1, k⟩ := k
    refine v_iinc (E2 := [aR 72, aI x1, aI x2, aI x3, aI (x4 + (-1))]) dX11_findParts_35 rfl b1_1 rfl ?_
    refine v_goto (tgt := 24) dX11_findParts_38 (by decide) ?_
    exact k
theorem S_X11_isPlain_0 {kc ks : Nat} {h : Hh} {Q : PQ} {X : PX} {x1 : Int} {x2 : Int} {x3 : Int}
    (k : am_V M_X11_isPlain kc ks 3 [aR 72, aI x1, aI x2, aI x3, aI 1, aU] [] am_R0 h Q X) :
    am_V M_X11_isPlain kc ks 0 [aR 72, aI x1, aI x2, aI x3, aU, aU] [] am_R0 h Q X := by
  refine v_iconst dX11_isPlain_0 ⟨by decide, by decide⟩ ?_
  refine v_istore (E2 := [aR 72, aI x1, aI x2, aI x3, aI 1, aU]) dX11_isPlain_1 (Nat.le_of_ble_eq_true rfl) rfl ?_
  exact k
theorem S_X11_isPlain_3 {kc ks : Nat} {h : Hh} {Q : PQ} {X : PX} {x1 : Int} {x2 : Int} {x3 : Int} {x4 : Int}
    (k : ((x3 ≤ x4 → Q [aI 1] am_R0 h) ∧ (x4 < x3 → ((-2147483648 ≤ ((x2 + x4) : Int) ∧ ((x2 + x4) : Int) < 2147483648)) ∧ am_V M_X11_together 0 0 0 [aR 72, aI x1, aI x2, aI x1, aI (x2 + x4), aU] [] am_R0 h (fun v ρ' h' => am_V M_X11_isPlain kc ks 20 [aR 72, aI x1, aI x2, aI x3, aI x4, aU] (v ++ []) ρ' h' Q X) X))) :
    am_V M_X11_isPlain kc ks 3 [aR 72, aI x1, aI x2, aI x3, aI x4, aU] [] am_R0 h Q X := by
  refine v_iload dX11_isPlain_3 rfl ?_
  refine v_iload_n dX11_isPlain_5 rfl rfl ?_
  refine v_icmp_ge (tgt := 73) dX11_isPlain_6 (by decide) (fun z => ?_) (fun z => ?_)
  · have k := k.1 z
    refine v_iconst dX11_isPlain_73 ⟨by decide, by decide⟩ ?_
    exact v_zret dX11_isPlain_74 rfl rfl (Or.inr rfl) k
  · have k := k.2 z
    obtain ⟨b1_1, k⟩ := k
    refine v_aload_n dX11_isPlain_9 rfl rfl ?_
    refine v_iload_n dX11_isPlain_10 rfl rfl ?_
    refine v_iload_n dX11_isPlain_11 rfl rfl ?_
    refine v_iload_n dX11_isPlain_12 rfl rfl ?_
    refine v_iload_n dX11_isPlain_13 rfl rfl ?_
    refine v_iload dX11_isPlain_14 rfl ?_
    refine v_iadd dX11_isPlain_16 b1_1 ?_
    exact v_callV (j := M_X11_together) (As := [aI x1, aI x2, aI x1, aI (x2 + x4)]) (st := []) (E0 := [aR 72, aI x1, aI x2, aI x1, aI (x2 + x4), aU]) (a := 72) (ci := 9) (N := 11) (q9 := (RX11, TX11, 11)) dX11_isPlain_17 ml_X11_102 J_X11_together (Nat.zero_le _) (Nat.zero_le _) (Nat.le_of_ble_eq_true rfl) rfl (Nat.le_of_ble_eq_true rfl) (List.forall_mem_cons.mpr ⟨rfl, List.forall_mem_cons.mpr ⟨rfl, List.forall_mem_cons.mpr ⟨rfl, List.forall_mem_cons.mpr ⟨rfl, List.forall_mem_cons.mpr ⟨rfl, fun _ h9 => absurd h9 List.not_mem_nil⟩⟩⟩⟩⟩) (Nat.le_of_ble_eq_true rfl) rfl rfl rfl rfl pn_X11_together rfl k
theorem S_X11_isPlain_20 {kc ks : Nat} {h : Hh} {Q : PQ} {X : PX} {x1 : Int} {x2 : Int} {x3 : Int} {x4 : Int} {xs0 : Int}
    (k : ((-2147483648 ≤ ((x4 + xs0) : Int) ∧ ((x4 + xs0) : Int) < 2147483648)) ∧ ((x3 ≤ (x4 + xs0) → Q [aI 0] am_R0 h) ∧ ((x4 + xs0) < x3 → ((-2147483648 ≤ ((64 * x1) : Int) ∧ ((64 * x1) : Int) < 2147483648) ∧ (-2147483648 ≤ (((64 * x1) + x2) : Int) ∧ (((64 * x1) + x2) : Int) < 2147483648) ∧ (-2147483648 ≤ ((((64 * x1) + x2) + xs0) : Int) ∧ ((((64 * x1) + x2) + xs0) : Int) < 2147483648) ∧ (0 : Int) ≤ (((64 * x1) + x2) + xs0) ∧ ((((64 * x1) + x2) + xs0) : Int) < 576 ∧ (-2147483648 ≤ ((64 * x1) : Int) ∧ ((64 * x1) : Int) < 2147483648) ∧ (-2147483648 ≤ (((64 * x1) + x2) : Int) ∧ (((64 * x1) + x2) : Int) < 2147483648) ∧ (-2147483648 ≤ ((((64 * x1) + x2) + x4) : Int) ∧ ((((64 * x1) + x2) + x4) : Int) < 2147483648) ∧ (-2147483648 ≤ (((((64 * x1) + x2) + x4) + xs0) : Int) ∧ (((((64 * x1) + x2) + x4) + xs0) : Int) < 2147483648) ∧ (0 : Int) ≤ ((((64 * x1) + x2) + x4) + xs0) ∧ (((((64 * x1) + x2) + x4) + xs0) : Int) < 576) ∧ (((h 73 (((64 * x1) + x2) + xs0)) ≤ (h 73 ((((64 * x1) + x2) + x4) + xs0)) → ((-2147483648 ≤ ((x4 + 1) : Int) ∧ ((x4 + 1) : Int) < 2147483648)) ∧ am_V M_X11_isPlain kc ks 3 [aR 72, aI x1, aI x2, aI x3, aI (x4 + 1), aU] [] am_R0 h Q X) ∧ ((h 73 ((((64 * x1) + x2) + x4) + xs0)) < (h 73 (((64 * x1) + x2) + xs0)) → Q [aI 0] am_R0 h))))) :
    am_V M_X11_isPlain kc ks 20 [aR 72, aI x1, aI x2, aI x3, aI x4, aU] [aI xs0] am_R0 h Q X := by
  obtain ⟨b0_1, k⟩ := k
  refine v_istore (E2 := [aR 72, aI x1, aI x2, aI x3, aI x4, aI xs0]) dX11_isPlain_20 (Nat.le_of_ble_eq_true rfl) rfl ?_
  refine v_iload dX11_isPlain_22 rfl ?_
  refine v_iload dX11_isPlain_24 rfl ?_
  refine v_iadd dX11_isPlain_26 b0_1 ?_
  refine v_iload_n dX11_isPlain_27 rfl rfl ?_
  refine v_icmp_ge (tgt := 65) dX11_isPlain_28 (by decide) (fun z => ?_) (fun z => ?_)
  · have k := k.1 z
    refine v_iconst dX11_isPlain_65 ⟨by decide, by decide⟩ ?_
    exact v_zret dX11_isPlain_66 rfl rfl (Or.inl rfl) k
  · have k := k.2 z
    obtain ⟨⟨b1_1, b1_2, b1_3, b1_4, b1_5, b1_6, b1_7, b1_8, b1_9, b1_10, b1_11⟩, k⟩ := k
    refine v_aload_n dX11_isPlain_31 rfl rfl ?_
    refine v_getR (x := 73) dX11_isPlain_32 fl_X11_7 am_clsA rfl rfl rfl ?_
    refine v_bipush dX11_isPlain_35 (by decide) (by decide) ?_
    refine v_iload_n dX11_isPlain_37 rfl rfl ?_
    refine v_imul dX11_isPlain_38 b1_1 ?_
    refine v_iload_n dX11_isPlain_39 rfl rfl ?_
    refine v_iadd dX11_isPlain_40 b1_2 ?_
    refine v_iload dX11_isPlain_41 rfl ?_
    refine v_iadd dX11_isPlain_43 b1_3 ?_
    refine v_cald dX11_isPlain_44 rfl b1_4 b1_5 ?_
    refine v_aload_n dX11_isPlain_45 rfl rfl ?_
    refine v_getR (x := 73) dX11_isPlain_46 fl_X11_7 am_clsA rfl rfl rfl ?_
    refine v_bipush dX11_isPlain_49 (by decide) (by decide) ?_
    refine v_iload_n dX11_isPlain_51 rfl rfl ?_
    refine v_imul dX11_isPlain_52 b1_6 ?_
    refine v_iload_n dX11_isPlain_53 rfl rfl ?_
    refine v_iadd dX11_isPlain_54 b1_7 ?_
    refine v_iload dX11_isPlain_55 rfl ?_
    refine v_iadd dX11_isPlain_57 b1_8 ?_
    refine v_iload dX11_isPlain_58 rfl ?_
    refine v_iadd dX11_isPlain_60 b1_9 ?_
    refine v_cald dX11_isPlain_61 rfl b1_10 b1_11 ?_
    refine v_icmp_le (tgt := 67) dX11_isPlain_62 (by decide) (fun z => ?_) (fun z => ?_)
    · have k := k.1 z
      obtain ⟨b2_1, k⟩ := k
      refine v_iinc (E2 := [aR 72, aI x1, aI x2, aI x3, aI (x4 + 1), aI xs0]) dX11_isPlain_67 rfl b2_1 rfl ?_
      refine v_goto (tgt := 3) dX11_isPlain_70 (by decide) ?_
      refine v_weak (E2 := [aR 72, aI x1, aI x2, aI x3, aI (x4 + 1), aU]) ⟨Or.inl rfl, ⟨Or.inl rfl, ⟨Or.inl rfl, ⟨Or.inl rfl, ⟨Or.inl rfl, ⟨Or.inr rfl, trivial⟩⟩⟩⟩⟩⟩ ?_
      exact k
    · have k := k.2 z
      refine v_iconst dX11_isPlain_65 ⟨by decide, by decide⟩ ?_
      exact v_zret dX11_isPlain_66 rfl rfl (Or.inl rfl) k
theorem S_X11_findPieces_0 {kc ks : Nat} {h : Hh} {Q : PQ} {X : PX} {x1 : Int}
    (k : am_V M_X11_findPieces kc ks 4 [aR 72, aI x1, aI 0, aI 0, aU] [] am_R0 h Q X) :
    am_V M_X11_findPieces kc ks 0 [aR 72, aI x1, aU, aU, aU] [] am_R0 h Q X := by
  refine v_iconst dX11_findPieces_0 ⟨by decide, by decide⟩ ?_
  refine v_istore_n (E2 := [aR 72, aI x1, aI 0, aU, aU]) dX11_findPieces_1 rfl (Nat.le_of_ble_eq_true rfl) rfl ?_
  refine v_iconst dX11_findPieces_2 ⟨by decide, by decide⟩ ?_
  refine v_istore_n (E2 := [aR 72, aI x1, aI 0, aI 0, aU]) dX11_findPieces_3 rfl (Nat.le_of_ble_eq_true rfl) rfl ?_
  exact k
theorem S_X11_findPieces_4 {kc ks : Nat} {h : Hh} {Q : PQ} {X : PX} {x1 : Int} {x2 : Int} {x3 : Int}
    (k : ((0 : Int) ≤ x1 ∧ (x1 : Int) < 9) ∧ (((h 74 x1) ≤ x3 → ((0 : Int) ≤ x1 ∧ (x1 : Int) < 9 ∧ (0 : Int) ≤ x2 ∧ (x2 : Int) < 65) ∧ Q [aI x2] am_R0 (am_st h 79 x2 (h 74 x1))) ∧ (x3 < (h 74 x1) → ((0 : Int) ≤ x2 ∧ (x2 : Int) < 65 ∧ (-2147483648 ≤ ((x2 + 1) : Int) ∧ ((x2 + 1) : Int) < 2147483648)) ∧ am_V M_X11_longestAhead 0 0 0 [aR 72, aI x1, aI x3] [] am_R0 (am_st h 79 x2 x3) (fun v ρ' h' => am_V M_X11_findPieces kc ks 30 [aR 72, aI x1, aI (x2 + 1), aI x3, aU] (v ++ []) ρ' h' Q X) X))) :
    am_V M_X11_findPieces kc ks 4 [aR 72, aI x1, aI x2, aI x3, aU] [] am_R0 h Q X := by
  obtain ⟨⟨b0_1, b0_2⟩, k⟩ := k
  refine v_iload_n dX11_findPieces_4 rfl rfl ?_
  refine v_aload_n dX11_findPieces_5 rfl rfl ?_
  refine v_getR (x := 74) dX11_findPieces_6 fl_X11_13 am_clsA rfl rfl rfl ?_
  refine v_iload_n dX11_findPieces_9 rfl rfl ?_
  refine v_iald dX11_findPieces_10 rfl b0_1 b0_2 ?_
  refine v_icmp_ge (tgt := 49) dX11_findPieces_11 (by decide) (fun z => ?_) (fun z => ?_)
  · have k := k.1 z
    obtain ⟨⟨b1_1, b1_2, b1_3, b1_4⟩, k⟩ := k
    refine v_aload_n dX11_findPieces_49 rfl rfl ?_
    refine v_getR (x := 79) dX11_findPieces_50 fl_X11_29 am_clsA rfl rfl rfl ?_
    refine v_iload_n dX11_findPieces_53 rfl rfl ?_
    refine v_aload_n dX11_findPieces_54 rfl rfl ?_
    refine v_getR (x := 74) dX11_findPieces_55 fl_X11_13 am_clsA rfl rfl rfl ?_
    refine v_iload_n dX11_findPieces_58 rfl rfl ?_
    refine v_iald dX11_findPieces_59 rfl b1_1 b1_2 ?_
    refine v_iast dX11_findPieces_60 rfl b1_3 b1_4 ?_
    refine v_iload_n dX11_findPieces_61 rfl rfl ?_
    exact v_iret dX11_findPieces_62 rfl rfl k
  · have k := k.2 z
    obtain ⟨⟨b1_1, b1_2, b1_3⟩, k⟩ := k
    refine v_aload_n dX11_findPieces_14 rfl rfl ?_
    refine v_getR (x := 79) dX11_findPieces_15 fl_X11_29 am_clsA rfl rfl rfl ?_
    refine v_iload_n dX11_findPieces_18 rfl rfl ?_
    refine v_iload_n dX11_findPieces_19 rfl rfl ?_
    refine v_iast dX11_findPieces_20 rfl b1_1 b1_2 ?_
    refine v_iinc (E2 := [aR 72, aI x1, aI (x2 + 1), aI x3, aU]) dX11_findPieces_21 rfl b1_3 rfl ?_
    refine v_aload_n dX11_findPieces_24 rfl rfl ?_
    refine v_iload_n dX11_findPieces_25 rfl rfl ?_
    refine v_iload_n dX11_findPieces_26 rfl rfl ?_
    exact v_callV (j := M_X11_longestAhead) (As := [aI x1, aI x3]) (st := []) (E0 := [aR 72, aI x1, aI x3]) (a := 72) (ci := 9) (N := 11) (q9 := (RX11, TX11, 11)) dX11_findPieces_27 ml_X11_176 J_X11_longestAhead (Nat.zero_le _) (Nat.zero_le _) (Nat.le_of_ble_eq_true rfl) rfl (Nat.le_of_ble_eq_true rfl) (List.forall_mem_cons.mpr ⟨rfl, List.forall_mem_cons.mpr ⟨rfl, List.forall_mem_cons.mpr ⟨rfl, fun _ h9 => absurd h9 List.not_mem_nil⟩⟩⟩) (Nat.le_of_ble_eq_true rfl) rfl rfl rfl rfl pn_X11_longestAhead rfl k
theorem S_X11_findPieces_30 {kc ks : Nat} {h : Hh} {Q : PQ} {X : PX} {x1 : Int} {x2 : Int} {x3 : Int} {xs0 : Int}
    (k : ((xs0 ≤ 0 → ((-2147483648 ≤ ((x3 + 1) : Int) ∧ ((x3 + 1) : Int) < 2147483648)) ∧ am_V M_X11_findPieces kc ks 4 [aR 72, aI x1, aI x2, aI (x3 + 1), aU] [] am_R0 h Q X) ∧ (0 < xs0 → ((-2147483648 ≤ ((x3 + xs0) : Int) ∧ ((x3 + xs0) : Int) < 2147483648)) ∧ am_V M_X11_findPieces kc ks 4 [aR 72, aI x1, aI x2, aI (x3 + xs0), aU] [] am_R0 h Q X))) :
    am_V M_X11_findPieces kc ks 30 [aR 72, aI x1, aI x2, aI x3, aU] [aI xs0] am_R0 h Q X := by
  refine v_istore (E2 := [aR 72, aI x1, aI x2, aI x3, aI xs0]) dX11_findPieces_30 (Nat.le_of_ble_eq_true rfl) rfl ?_
  refine v_iload_n dX11_findPieces_32 rfl rfl ?_
  refine v_iload dX11_findPieces_33 rfl ?_
  refine v_if_le (tgt := 43) dX11_findPieces_35 (by decide) (fun z => ?_) (fun z => ?_)
  · have k := k.1 z
    obtain ⟨b1_1, k⟩ := k
    refine v_iconst dX11_findPieces_43 ⟨by decide, by decide⟩ ?_
    refine v_iadd dX11_findPieces_44 b1_1 ?_
    refine v_istore_n (E2 := [aR 72, aI x1, aI x2, aI (x3 + 1), aI xs0]) dX11_findPieces_45 rfl (Nat.le_of_ble_eq_true rfl) rfl ?_
    refine v_goto (tgt := 4) dX11_findPieces_46 (by decide) ?_
    refine v_weak (E2 := [aR 72, aI x1, aI x2, aI (x3 + 1), aU]) ⟨Or.inl rfl, ⟨Or.inl rfl, ⟨Or.inl rfl, ⟨Or.inl rfl, ⟨Or.inr rfl, trivial⟩⟩⟩⟩⟩ ?_
    exact k
  · have k := k.2 z
    obtain ⟨b1_1, k⟩ := k
    refine v_iload dX11_findPieces_38 rfl ?_
    refine v_goto (tgt := 44) dX11_findPieces_40 (by decide) ?_
    refine v_iadd dX11_findPieces_44 b1_1 ?_
    refine v_istore_n (E2 := [aR 72, aI x1, aI x2, aI (x3 + xs0), aI xs0]) dX11_findPieces_45 rfl (Nat.le_of_ble_eq_true rfl) rfl ?_
    refine v_goto (tgt := 4) dX11_findPieces_46 (by decide) ?_
    refine v_weak (E2 := [aR 72, aI x1, aI x2, aI (x3 + xs0), aU]) ⟨Or.inl rfl, ⟨Or.inl rfl, ⟨Or.inl rfl, ⟨Or.inl rfl, ⟨Or.inr rfl, trivial⟩⟩⟩⟩⟩ ?_
    exact k
theorem S_X11_isNoPiece_0 {kc ks : Nat} {h : Hh} {Q : PQ} {X : PX} {x1 : Int} {x2 : Int}
    (k : am_V M_X11_isText 0 0 0 [aR 72, aI x1] [] am_R0 h (fun v ρ' h' => am_V M_X11_isNoPiece kc ks 6 [aR 72, aI x1, aI x2] (v ++ [aR 72]) ρ' h' Q X) X) :
    am_V M_X11_isNoPiece kc ks 0 [aR 72, aI x1, aI x2] [] am_R0 h Q X := by
  refine v_aload_n dX11_isNoPiece_0 rfl rfl ?_
  refine v_aload_n dX11_isNoPiece_1 rfl rfl ?_
  refine v_iload_n dX11_isNoPiece_2 rfl rfl ?_
  exact v_callV (j := M_X11_isText) (As := [aI x1]) (st := [aR 72]) (E0 := [aR 72, aI x1]) (a := 72) (ci := 9) (N := 11) (q9 := (RX11, TX11, 11)) dX11_isNoPiece_3 ml_X11_46 J_X11_isText (Nat.zero_le _) (Nat.zero_le _) (Nat.le_of_ble_eq_true rfl) rfl (Nat.le_of_ble_eq_true rfl) (List.forall_mem_cons.mpr ⟨rfl, List.forall_mem_cons.mpr ⟨rfl, fun _ h9 => absurd h9 List.not_mem_nil⟩⟩) (Nat.le_of_ble_eq_true rfl) rfl rfl rfl rfl pn_X11_isText rfl k
theorem S_X11_isNoPiece_6 {kc ks : Nat} {h : Hh} {Q : PQ} {X : PX} {x1 : Int} {x2 : Int} {xs0 : Int}
    (k : ((xs0 = 0 → am_V M_X11_isWrong 0 0 0 [aR 72, aI 1] [] am_R0 h (fun v ρ' h' => am_V M_X11_isNoPiece kc ks 32 [aU, aU, aU] (v ++ []) ρ' h' Q X) X) ∧ (xs0 ≠ 0 → am_V M_X11_findPieces 0 0 0 [aR 72, aI x1, aU, aU, aU] [] am_R0 h (fun v ρ' h' => am_V M_X11_isNoPiece kc ks 16 [aU, aU, aU] (v ++ [aI 0, aI x2, aR 72]) ρ' h' Q X) X))) :
    am_V M_X11_isNoPiece kc ks 6 [aR 72, aI x1, aI x2] [aI xs0, aR 72] am_R0 h Q X := by
  refine v_if_eq (tgt := 28) dX11_isNoPiece_6 (by decide) (fun z => ?_) (fun z => ?_)
  · have k := k.1 z
    refine v_iconst dX11_isNoPiece_28 ⟨by decide, by decide⟩ ?_
    refine v_weak (E2 := [aU, aU, aU]) ⟨Or.inr rfl, ⟨Or.inr rfl, ⟨Or.inr rfl, trivial⟩⟩⟩ ?_
    exact v_callV (j := M_X11_isWrong) (As := [aI 1]) (st := []) (E0 := [aR 72, aI 1]) (a := 72) (ci := 9) (N := 11) (q9 := (RX11, TX11, 11)) dX11_isNoPiece_29 ml_X11_57 J_X11_isWrong (Nat.zero_le _) (Nat.zero_le _) (Nat.le_of_ble_eq_true rfl) rfl (Nat.le_of_ble_eq_true rfl) (List.forall_mem_cons.mpr ⟨rfl, List.forall_mem_cons.mpr ⟨rfl, fun _ h9 => absurd h9 List.not_mem_nil⟩⟩) (Nat.le_of_ble_eq_true rfl) rfl rfl rfl rfl pn_X11_isWrong rfl k
  · have k := k.2 z
    refine v_iload_n dX11_isNoPiece_9 rfl rfl ?_
    refine v_iconst dX11_isNoPiece_10 ⟨by decide, by decide⟩ ?_
    refine v_aload_n dX11_isNoPiece_11 rfl rfl ?_
    refine v_iload_n dX11_isNoPiece_12 rfl rfl ?_
    refine v_weak (E2 := [aU, aU, aU]) ⟨Or.inr rfl, ⟨Or.inr rfl, ⟨Or.inr rfl, trivial⟩⟩⟩ ?_
    exact v_callV (j := M_X11_findPieces) (As := [aI x1]) (st := [aI 0, aI x2, aR 72]) (E0 := [aR 72, aI x1, aU, aU, aU]) (a := 72) (ci := 9) (N := 11) (q9 := (RX11, TX11, 11)) dX11_isNoPiece_13 ml_X11_179 J_X11_findPieces (Nat.zero_le _) (Nat.zero_le _) (Nat.le_of_ble_eq_true rfl) rfl (Nat.le_of_ble_eq_true rfl) (List.forall_mem_cons.mpr ⟨rfl, List.forall_mem_cons.mpr ⟨rfl, fun _ h9 => absurd h9 List.not_mem_nil⟩⟩) (Nat.le_of_ble_eq_true rfl) rfl rfl rfl rfl pn_X11_findPieces rfl k
theorem S_X11_isNoPiece_32 {kc ks : Nat} {h : Hh} {Q : PQ} {X : PX} {xs0 : Int}
    (k : ((xs0 = 0 ∨ xs0 = 1)) ∧ Q [aI xs0] am_R0 h) :
    am_V M_X11_isNoPiece kc ks 32 [aU, aU, aU] [aI xs0] am_R0 h Q X := by
  obtain ⟨b0_1, k⟩ := k
  exact v_zret dX11_isNoPiece_32 rfl rfl b0_1 k
theorem S_X11_isNoPiece_16 {kc ks : Nat} {h : Hh} {Q : PQ} {X : PX} {xs0 : Int} {xs1 : Int} {xs2 : Int}
    (k : ((-2147483648 ≤ ((xs0 - 1) : Int) ∧ ((xs0 - 1) : Int) < 2147483648)) ∧ am_V M_X11_isBetween 0 0 0 [aI xs2, aI xs1, aI (xs0 - 1)] [] am_R0 h (fun v ρ' h' => am_V M_X11_isNoPiece kc ks 21 [aU, aU, aU] (v ++ [aR 72]) ρ' h' Q X) X) :
    am_V M_X11_isNoPiece kc ks 16 [aU, aU, aU] [aI xs0, aI xs1, aI xs2, aR 72] am_R0 h Q X := by
  obtain ⟨b0_1, k⟩ := k
  refine v_iconst dX11_isNoPiece_16 ⟨by decide, by decide⟩ ?_
  refine v_isub dX11_isNoPiece_17 b0_1 ?_
  exact v_callS (j := M_X11_isBetween) (As := [aI xs2, aI xs1, aI (xs0 - 1)]) (st := [aR 72]) (E0 := [aI xs2, aI xs1, aI (xs0 - 1)]) dX11_isNoPiece_18 ms_X11_42 J_X11_isBetween (Nat.zero_le _) (Nat.zero_le _) (Nat.le_of_ble_eq_true rfl) rfl (Nat.le_of_ble_eq_true rfl) (List.forall_mem_cons.mpr ⟨rfl, List.forall_mem_cons.mpr ⟨rfl, List.forall_mem_cons.mpr ⟨rfl, fun _ h9 => absurd h9 List.not_mem_nil⟩⟩⟩) (Nat.le_of_ble_eq_true rfl) rfl pn_X11_isBetween rfl k
theorem S_X11_isNoPiece_21 {kc ks : Nat} {h : Hh} {Q : PQ} {X : PX} {xs0 : Int}
    (k : ((xs0 = 0 → am_V M_X11_isWrong 0 0 0 [aR 72, aI 1] [] am_R0 h (fun v ρ' h' => am_V M_X11_isNoPiece kc ks 32 [aU, aU, aU] (v ++ []) ρ' h' Q X) X) ∧ (xs0 ≠ 0 → am_V M_X11_isWrong 0 0 0 [aR 72, aI 0] [] am_R0 h (fun v ρ' h' => am_V M_X11_isNoPiece kc ks 32 [aU, aU, aU] (v ++ []) ρ' h' Q X) X))) :
    am_V M_X11_isNoPiece kc ks 21 [aU, aU, aU] [aI xs0, aR 72] am_R0 h Q X := by
  refine v_if_eq (tgt := 28) dX11_isNoPiece_21 (by decide) (fun z => ?_) (fun z => ?_)
  · have k := k.1 z
    refine v_iconst dX11_isNoPiece_28 ⟨by decide, by decide⟩ ?_
    exact v_callV (j := M_X11_isWrong) (As := [aI 1]) (st := []) (E0 := [aR 72, aI 1]) (a := 72) (ci := 9) (N := 11) (q9 := (RX11, TX11, 11)) dX11_isNoPiece_29 ml_X11_57 J_X11_isWrong (Nat.zero_le _) (Nat.zero_le _) (Nat.le_of_ble_eq_true rfl) rfl (Nat.le_of_ble_eq_true rfl) (List.forall_mem_cons.mpr ⟨rfl, List.forall_mem_cons.mpr ⟨rfl, fun _ h9 => absurd h9 List.not_mem_nil⟩⟩) (Nat.le_of_ble_eq_true rfl) rfl rfl rfl rfl pn_X11_isWrong rfl k
  · have k := k.2 z
    refine v_iconst dX11_isNoPiece_24 ⟨by decide, by decide⟩ ?_
    refine v_goto (tgt := 29) dX11_isNoPiece_25 (by decide) ?_
    exact v_callV (j := M_X11_isWrong) (As := [aI 0]) (st := []) (E0 := [aR 72, aI 0]) (a := 72) (ci := 9) (N := 11) (q9 := (RX11, TX11, 11)) dX11_isNoPiece_29 ml_X11_57 J_X11_isWrong (Nat.zero_le _) (Nat.zero_le _) (Nat.le_of_ble_eq_true rfl) rfl (Nat.le_of_ble_eq_true rfl) (List.forall_mem_cons.mpr ⟨rfl, List.forall_mem_cons.mpr ⟨rfl, fun _ h9 => absurd h9 List.not_mem_nil⟩⟩) (Nat.le_of_ble_eq_true rfl) rfl rfl rfl rfl pn_X11_isWrong rfl k
theorem S_X11_fewestOf_0 {kc ks : Nat} {h : Hh} {Q : PQ} {X : PX} {x1 : Int}
    (k : ((0 : Int) ≤ x1 ∧ (x1 : Int) < 9 ∧ (0 : Int) ≤ (h 74 x1) ∧ ((h 74 x1) : Int) < 65 ∧ (0 : Int) ≤ x1 ∧ (x1 : Int) < 9 ∧ (-2147483648 ≤ ((((am_st h 79 (h 74 x1) 0) 74 x1) - 1) : Int) ∧ ((((am_st h 79 (h 74 x1) 0) 74 x1) - 1) : Int) < 2147483648)) ∧ am_V M_X11_fewestOf kc ks 21 [aR 72, aI x1, aI (((am_st h 79 (h 74 x1) 0) 74 x1) - 1), aU, aU] [] am_R0 (am_st h 79 (h 74 x1) 0) Q X) :
    am_V M_X11_fewestOf kc ks 0 [aR 72, aI x1, aU, aU, aU] [] am_R0 h Q X := by
  obtain ⟨⟨b0_1, b0_2, b0_3, b0_4, b0_5, b0_6, b0_7⟩, k⟩ := k
  refine v_aload_n dX11_fewestOf_0 rfl rfl ?_
  refine v_getR (x := 79) dX11_fewestOf_1 fl_X11_29 am_clsA rfl rfl rfl ?_
  refine v_aload_n dX11_fewestOf_4 rfl rfl ?_
  refine v_getR (x := 74) dX11_fewestOf_5 fl_X11_13 am_clsA rfl rfl rfl ?_
  refine v_iload_n dX11_fewestOf_8 rfl rfl ?_
  refine v_iald dX11_fewestOf_9 rfl b0_1 b0_2 ?_
  refine v_iconst dX11_fewestOf_10 ⟨by decide, by decide⟩ ?_
  refine v_iast dX11_fewestOf_11 rfl b0_3 b0_4 ?_
  refine v_aload_n dX11_fewestOf_12 rfl rfl ?_
  refine v_getR (x := 74) dX11_fewestOf_13 fl_X11_13 am_clsA rfl rfl rfl ?_
  refine v_iload_n dX11_fewestOf_16 rfl rfl ?_
  refine v_iald dX11_fewestOf_17 rfl b0_5 b0_6 ?_
  refine v_iconst dX11_fewestOf_18 ⟨by decide, by decide⟩ ?_
  refine v_isub dX11_fewestOf_19 b0_7 ?_
  refine v_istore_n (E2 := [aR 72, aI x1, aI (((am_st h 79 (h 74 x1) 0) 74 x1) - 1), aU, aU]) dX11_fewestOf_20 rfl (Nat.le_of_ble_eq_true rfl) rfl ?_
  exact k
theorem S_X11_fewestOf_21 {kc ks : Nat} {h : Hh} {Q : PQ} {X : PX} {x1 : Int} {x2 : Int}
    (k : ((x2 < 0 → ((0 : Int) ≤ 0 ∧ (0 : Int) < 65) ∧ Q [aI (h 79 0)] am_R0 h) ∧ (0 ≤ x2 → am_V M_X11_longestAhead 0 0 0 [aR 72, aI x1, aI x2] [] am_R0 h (fun v ρ' h' => am_V M_X11_fewestOf kc ks 31 [aR 72, aI x1, aI x2, aU, aU] (v ++ []) ρ' h' Q X) X))) :
    am_V M_X11_fewestOf kc ks 21 [aR 72, aI x1, aI x2, aU, aU] [] am_R0 h Q X := by
  refine v_iload_n dX11_fewestOf_21 rfl rfl ?_
  refine v_if_lt (tgt := 115) dX11_fewestOf_22 (by decide) (fun z => ?_) (fun z => ?_)
  · have k := k.1 z
    obtain ⟨⟨b1_1, b1_2⟩, k⟩ := k
    refine v_aload_n dX11_fewestOf_115 rfl rfl ?_
    refine v_getR (x := 79) dX11_fewestOf_116 fl_X11_29 am_clsA rfl rfl rfl ?_
    refine v_iconst dX11_fewestOf_119 ⟨by decide, by decide⟩ ?_
    refine v_iald dX11_fewestOf_120 rfl b1_1 b1_2 ?_
    exact v_iret dX11_fewestOf_121 rfl rfl k
  · have k := k.2 z
    refine v_aload_n dX11_fewestOf_25 rfl rfl ?_
    refine v_iload_n dX11_fewestOf_26 rfl rfl ?_
    refine v_iload_n dX11_fewestOf_27 rfl rfl ?_
    exact v_callV (j := M_X11_longestAhead) (As := [aI x1, aI x2]) (st := []) (E0 := [aR 72, aI x1, aI x2]) (a := 72) (ci := 9) (N := 11) (q9 := (RX11, TX11, 11)) dX11_fewestOf_28 ml_X11_176 J_X11_longestAhead (Nat.zero_le _) (Nat.zero_le _) (Nat.le_of_ble_eq_true rfl) rfl (Nat.le_of_ble_eq_true rfl) (List.forall_mem_cons.mpr ⟨rfl, List.forall_mem_cons.mpr ⟨rfl, List.forall_mem_cons.mpr ⟨rfl, fun _ h9 => absurd h9 List.not_mem_nil⟩⟩⟩) (Nat.le_of_ble_eq_true rfl) rfl rfl rfl rfl pn_X11_longestAhead rfl k
theorem S_X11_fewestOf_31 {kc ks : Nat} {h : Hh} {Q : PQ} {X : PX} {x1 : Int} {x2 : Int} {xs0 : Int}
    (k : ((-2147483648 ≤ ((x2 + 1) : Int) ∧ ((x2 + 1) : Int) < 2147483648) ∧ (0 : Int) ≤ (x2 + 1) ∧ ((x2 + 1) : Int) < 65 ∧ (-2147483648 ≤ (((h 79 (x2 + 1)) + 1) : Int) ∧ (((h 79 (x2 + 1)) + 1) : Int) < 2147483648) ∧ (0 : Int) ≤ x2 ∧ (x2 : Int) < 65) ∧ am_V M_X11_fewestOf kc ks 51 [aR 72, aI x1, aI x2, aI xs0, aI 2] [] am_R0 (am_st h 79 x2 ((h 79 (x2 + 1)) + 1)) Q X) :
    am_V M_X11_fewestOf kc ks 31 [aR 72, aI x1, aI x2, aU, aU] [aI xs0] am_R0 h Q X := by
  obtain ⟨⟨b0_1, b0_2, b0_3, b0_4, b0_5, b0_6⟩, k⟩ := k
  refine v_istore_n (E2 := [aR 72, aI x1, aI x2, aI xs0, aU]) dX11_fewestOf_31 rfl (Nat.le_of_ble_eq_true rfl) rfl ?_
  refine v_aload_n dX11_fewestOf_32 rfl rfl ?_
  refine v_getR (x := 79) dX11_fewestOf_33 fl_X11_29 am_clsA rfl rfl rfl ?_
  refine v_iload_n dX11_fewestOf_36 rfl rfl ?_
  refine v_aload_n dX11_fewestOf_37 rfl rfl ?_
  refine v_getR (x := 79) dX11_fewestOf_38 fl_X11_29 am_clsA rfl rfl rfl ?_
  refine v_iload_n dX11_fewestOf_41 rfl rfl ?_
  refine v_iconst dX11_fewestOf_42 ⟨by decide, by decide⟩ ?_
  refine v_iadd dX11_fewestOf_43 b0_1 ?_
  refine v_iald dX11_fewestOf_44 rfl b0_2 b0_3 ?_
  refine v_iconst dX11_fewestOf_45 ⟨by decide, by decide⟩ ?_
  refine v_iadd dX11_fewestOf_46 b0_4 ?_
  refine v_iast dX11_fewestOf_47 rfl b0_5 b0_6 ?_
  refine v_iconst dX11_fewestOf_48 ⟨by decide, by decide⟩ ?_
  refine v_istore (E2 := [aR 72, aI x1, aI x2, aI xs0, aI 2]) dX11_fewestOf_49 (Nat.le_of_ble_eq_true rfl) rfl ?_
  exact k
theorem S_X11_fewestOf_51 {kc ks : Nat} {h : Hh} {Q : PQ} {X : PX} {x1 : Int} {x2 : Int} {x3 : Int} {x4 : Int}
    (k : ((x3 < x4 → ((-2147483648 ≤ ((x2 + (-1)) : Int) ∧ ((x2 + (-1)) : Int) < 2147483648)) ∧ am_V M_X11_fewestOf kc ks 21 [aR 72, aI x1, aI (x2 + (-1)), aU, aU] [] am_R0 h Q X) ∧ (x4 ≤ x3 → ((-2147483648 ≤ ((x2 + x4) : Int) ∧ ((x2 + x4) : Int) < 2147483648) ∧ (0 : Int) ≤ (x2 + x4) ∧ ((x2 + x4) : Int) < 65 ∧ (-2147483648 ≤ (((h 79 (x2 + x4)) + 1) : Int) ∧ (((h 79 (x2 + x4)) + 1) : Int) < 2147483648) ∧ (0 : Int) ≤ x2 ∧ (x2 : Int) < 65) ∧ (((h 79 x2) ≤ ((h 79 (x2 + x4)) + 1) → ((0 : Int) ≤ x2 ∧ (x2 : Int) < 65 ∧ (0 : Int) ≤ x2 ∧ (x2 : Int) < 65 ∧ (-2147483648 ≤ ((x4 + 1) : Int) ∧ ((x4 + 1) : Int) < 2147483648)) ∧ am_V M_X11_fewestOf kc ks 51 [aR 72, aI x1, aI x2, aI x3, aI (x4 + 1)] [] am_R0 (am_st h 79 x2 (h 79 x2)) Q X) ∧ (((h 79 (x2 + x4)) + 1) < (h 79 x2) → ((-2147483648 ≤ ((x2 + x4) : Int) ∧ ((x2 + x4) : Int) < 2147483648) ∧ (0 : Int) ≤ (x2 + x4) ∧ ((x2 + x4) : Int) < 65 ∧ (-2147483648 ≤ (((h 79 (x2 + x4)) + 1) : Int) ∧ (((h 79 (x2 + x4)) + 1) : Int) < 2147483648) ∧ (0 : Int) ≤ x2 ∧ (x2 : Int) < 65 ∧ (-2147483648 ≤ ((x4 + 1) : Int) ∧ ((x4 + 1) : Int) < 2147483648)) ∧ am_V M_X11_fewestOf kc ks 51 [aR 72, aI x1, aI x2, aI x3, aI (x4 + 1)] [] am_R0 (am_st h 79 x2 ((h 79 (x2 + x4)) + 1)) Q X))))) :
    am_V M_X11_fewestOf kc ks 51 [aR 72, aI x1, aI x2, aI x3, aI x4] [] am_R0 h Q X := by
  refine v_iload dX11_fewestOf_51 rfl ?_
  refine v_iload_n dX11_fewestOf_53 rfl rfl ?_
  refine v_icmp_gt (tgt := 109) dX11_fewestOf_54 (by decide) (fun z => ?_) (fun z => ?_)
  · have k := k.1 z
    obtain ⟨b1_1, k⟩ := k
    refine v_iinc (E2 := [aR 72, aI x1, aI (x2 + (-1)), aI x3, aI x4]) dX11_fewestOf_109 rfl b1_1 rfl ?_
    refine v_goto (tgt := 21) dX11_fewestOf_112 (by decide) ?_
    refine v_weak (E2 := [aR 72, aI x1, aI (x2 + (-1)), aU, aU]) ⟨Or.inl rfl, ⟨Or.inl rfl, ⟨Or.inl rfl, ⟨Or.inr rfl, ⟨Or.inr rfl, trivial⟩⟩⟩⟩⟩ ?_
    exact k
  · have k := k.2 z
    obtain ⟨⟨b1_1, b1_2, b1_3, b1_4, b1_5, b1_6⟩, k⟩ := k
    refine v_aload_n dX11_fewestOf_57 rfl rfl ?_
    refine v_getR (x := 79) dX11_fewestOf_58 fl_X11_29 am_clsA rfl rfl rfl ?_
    refine v_iload_n dX11_fewestOf_61 rfl rfl ?_
    refine v_aload_n dX11_fewestOf_62 rfl rfl ?_
    refine v_getR (x := 79) dX11_fewestOf_63 fl_X11_29 am_clsA rfl rfl rfl ?_
    refine v_iload_n dX11_fewestOf_66 rfl rfl ?_
    refine v_iload dX11_fewestOf_67 rfl ?_
    refine v_iadd dX11_fewestOf_69 b1_1 ?_
    refine v_iald dX11_fewestOf_70 rfl b1_2 b1_3 ?_
    refine v_iconst dX11_fewestOf_71 ⟨by decide, by decide⟩ ?_
    refine v_iadd dX11_fewestOf_72 b1_4 ?_
    refine v_aload_n dX11_fewestOf_73 rfl rfl ?_
    refine v_getR (x := 79) dX11_fewestOf_74 fl_X11_29 am_clsA rfl rfl rfl ?_
    refine v_iload_n dX11_fewestOf_77 rfl rfl ?_
    refine v_iald dX11_fewestOf_78 rfl b1_5 b1_6 ?_
    refine v_icmp_ge (tgt := 96) dX11_fewestOf_79 (by decide) (fun z => ?_) (fun z => ?_)
    · have k := k.1 z
      obtain ⟨⟨b2_1, b2_2, b2_3, b2_4, b2_5⟩, k⟩ := k
      refine v_aload_n dX11_fewestOf_96 rfl rfl ?_
      refine v_getR (x := 79) dX11_fewestOf_97 fl_X11_29 am_clsA rfl rfl rfl ?_
      refine v_iload_n dX11_fewestOf_100 rfl rfl ?_
      refine v_iald dX11_fewestOf_101 rfl b2_1 b2_2 ?_
      refine v_iast dX11_fewestOf_102 rfl b2_3 b2_4 ?_
      refine v_iinc (E2 := [aR 72, aI x1, aI x2, aI x3, aI (x4 + 1)]) dX11_fewestOf_103 rfl b2_5 rfl ?_
      refine v_goto (tgt := 51) dX11_fewestOf_106 (by decide) ?_
      exact k
    · have k := k.2 z
      obtain ⟨⟨b2_1, b2_2, b2_3, b2_4, b2_5, b2_6, b2_7⟩, k⟩ := k
      refine v_aload_n dX11_fewestOf_82 rfl rfl ?_
      refine v_getR (x := 79) dX11_fewestOf_83 fl_X11_29 am_clsA rfl rfl rfl ?_
      refine v_iload_n dX11_fewestOf_86 rfl rfl ?_
      refine v_iload dX11_fewestOf_87 rfl ?_
      refine v_iadd dX11_fewestOf_89 b2_1 ?_
      refine v_iald dX11_fewestOf_90 rfl b2_2 b2_3 ?_
      refine v_iconst dX11_fewestOf_91 ⟨by decide, by decide⟩ ?_
      refine v_iadd dX11_fewestOf_92 b2_4 ?_
      refine v_goto (tgt := 102) dX11_fewestOf_93 (by decide) ?_
      refine v_iast dX11_fewestOf_102 rfl b2_5 b2_6 ?_
      refine v_iinc (E2 := [aR 72, aI x1, aI x2, aI x3, aI (x4 + 1)]) dX11_fewestOf_103 rfl b2_7 rfl ?_
      refine v_goto (tgt := 51) dX11_fewestOf_106 (by decide) ?_
      exact k
theorem S_X11_fewest_0 {kc ks : Nat} {h : Hh} {Q : PQ} {X : PX} {x1 : Int}
    (k : am_V M_X11_isNone 0 0 0 [aR 72, aI x1] [] am_R0 h (fun v ρ' h' => am_V M_X11_fewest kc ks 5 [aR 72, aI x1] (v ++ []) ρ' h' Q X) X) :
    am_V M_X11_fewest kc ks 0 [aR 72, aI x1] [] am_R0 h Q X := by
  refine v_aload_n dX11_fewest_0 rfl rfl ?_
  refine v_iload_n dX11_fewest_1 rfl rfl ?_
  exact v_callV (j := M_X11_isNone) (As := [aI x1]) (st := []) (E0 := [aR 72, aI x1]) (a := 72) (ci := 9) (N := 11) (q9 := (RX11, TX11, 11)) dX11_fewest_2 ml_X11_68 J_X11_isNone (Nat.zero_le _) (Nat.zero_le _) (Nat.le_of_ble_eq_true rfl) rfl (Nat.le_of_ble_eq_true rfl) (List.forall_mem_cons.mpr ⟨rfl, List.forall_mem_cons.mpr ⟨rfl, fun _ h9 => absurd h9 List.not_mem_nil⟩⟩) (Nat.le_of_ble_eq_true rfl) rfl rfl rfl rfl pn_X11_isNone rfl k
theorem S_X11_fewest_5 {kc ks : Nat} {h : Hh} {Q : PQ} {X : PX} {x1 : Int} {xs0 : Int}
    (k : ((xs0 = 0 → am_V M_X11_fewestOf 0 0 0 [aR 72, aI x1, aU, aU, aU] [] am_R0 h (fun v ρ' h' => am_V M_X11_fewest kc ks 17 [aU, aU] (v ++ []) ρ' h' Q X) X) ∧ (xs0 ≠ 0 → Q [aI 0] am_R0 h))) :
    am_V M_X11_fewest kc ks 5 [aR 72, aI x1] [aI xs0] am_R0 h Q X := by
  refine v_if_eq (tgt := 12) dX11_fewest_5 (by decide) (fun z => ?_) (fun z => ?_)
  · have k := k.1 z
    refine v_aload_n dX11_fewest_12 rfl rfl ?_
    refine v_iload_n dX11_fewest_13 rfl rfl ?_
    refine v_weak (E2 := [aU, aU]) ⟨Or.inr rfl, ⟨Or.inr rfl, trivial⟩⟩ ?_
    exact v_callV (j := M_X11_fewestOf) (As := [aI x1]) (st := []) (E0 := [aR 72, aI x1, aU, aU, aU]) (a := 72) (ci := 9) (N := 11) (q9 := (RX11, TX11, 11)) dX11_fewest_14 ml_X11_185 J_X11_fewestOf (Nat.zero_le _) (Nat.zero_le _) (Nat.le_of_ble_eq_true rfl) rfl (Nat.le_of_ble_eq_true rfl) (List.forall_mem_cons.mpr ⟨rfl, List.forall_mem_cons.mpr ⟨rfl, fun _ h9 => absurd h9 List.not_mem_nil⟩⟩) (Nat.le_of_ble_eq_true rfl) rfl rfl rfl rfl pn_X11_fewestOf rfl k
  · have k := k.2 z
    refine v_iconst dX11_fewest_8 ⟨by decide, by decide⟩ ?_
    refine v_goto (tgt := 17) dX11_fewest_9 (by decide) ?_
    exact v_iret dX11_fewest_17 rfl rfl k
theorem S_X11_fewest_17 {kc ks : Nat} {h : Hh} {Q : PQ} {X : PX} {xs0 : Int}
    (k : Q [aI xs0] am_R0 h) :
    am_V M_X11_fewest kc ks 17 [aU, aU] [aI xs0] am_R0 h Q X := by
  exact v_iret dX11_fewest_17 rfl rfl k
theorem S_X11_commonShare_0 {kc ks : Nat} {h : Hh} {Q : PQ} {X : PX} {x1 : Int}
    (k : am_V M_X11_isEmpty 0 0 0 [aR 72, aI x1] [] am_R0 h (fun v ρ' h' => am_V M_X11_commonShare kc ks 5 [aR 72, aI x1, aU, aU] (v ++ []) ρ' h' Q X) X) :
    am_V M_X11_commonShare kc ks 0 [aR 72, aI x1, aU, aU] [] am_R0 h Q X := by
  refine v_aload_n dX11_commonShare_0 rfl rfl ?_
  refine v_iload_n dX11_commonShare_1 rfl rfl ?_
  exact v_callV (j := M_X11_isEmpty) (As := [aI x1]) (st := []) (E0 := [aR 72, aI x1]) (a := 72) (ci := 9) (N := 11) (q9 := (RX11, TX11, 11)) dX11_commonShare_2 ml_X11_134 J_X11_isEmpty (Nat.zero_le _) (Nat.zero_le _) (Nat.le_of_ble_eq_true rfl) rfl (Nat.le_of_ble_eq_true rfl) (List.forall_mem_cons.mpr ⟨rfl, List.forall_mem_cons.mpr ⟨rfl, fun _ h9 => absurd h9 List.not_mem_nil⟩⟩) (Nat.le_of_ble_eq_true rfl) rfl rfl rfl rfl pn_X11_isEmpty rfl k
theorem S_X11_commonShare_5 {kc ks : Nat} {h : Hh} {Q : PQ} {X : PX} {x1 : Int} {xs0 : Int}
    (k : ((xs0 = 0 → am_V M_X11_sorts 0 0 0 [aR 72, aI x1, aU] [] am_R0 h (fun v ρ' h' => am_V M_X11_commonShare kc ks 15 [aR 72, aI x1, aU, aU] (v ++ []) ρ' h' Q X) X) ∧ (xs0 ≠ 0 → Q [aF 0] am_R0 h))) :
    am_V M_X11_commonShare kc ks 5 [aR 72, aI x1, aU, aU] [aI xs0] am_R0 h Q X := by
  refine v_if_eq (tgt := 10) dX11_commonShare_5 (by decide) (fun z => ?_) (fun z => ?_)
  · have k := k.1 z
    refine v_aload_n dX11_commonShare_10 rfl rfl ?_
    refine v_iload_n dX11_commonShare_11 rfl rfl ?_
    exact v_callV (j := M_X11_sorts) (As := [aI x1]) (st := []) (E0 := [aR 72, aI x1, aU]) (a := 72) (ci := 9) (N := 11) (q9 := (RX11, TX11, 11)) dX11_commonShare_12 ml_X11_93 J_X11_sorts (Nat.zero_le _) (Nat.zero_le _) (Nat.le_of_ble_eq_true rfl) rfl (Nat.le_of_ble_eq_true rfl) (List.forall_mem_cons.mpr ⟨rfl, List.forall_mem_cons.mpr ⟨rfl, fun _ h9 => absurd h9 List.not_mem_nil⟩⟩) (Nat.le_of_ble_eq_true rfl) rfl rfl rfl rfl pn_X11_sorts rfl k
  · have k := k.2 z
    refine v_fconst0 dX11_commonShare_8 ?_
    exact v_fret dX11_commonShare_9 rfl rfl k
theorem S_X11_commonShare_15 {kc ks : Nat} {h : Hh} {Q : PQ} {X : PX} {x1 : Int}
    (k : am_V M_X11_commonShare kc ks 19 [aR 72, aI x1, aI 0, aI 0] [] am_R0 h Q X) :
    am_V M_X11_commonShare kc ks 15 [aR 72, aI x1, aU, aU] [] am_R0 h Q X := by
  refine v_iconst dX11_commonShare_15 ⟨by decide, by decide⟩ ?_
  refine v_istore_n (E2 := [aR 72, aI x1, aI 0, aU]) dX11_commonShare_16 rfl (Nat.le_of_ble_eq_true rfl) rfl ?_
  refine v_iconst dX11_commonShare_17 ⟨by decide, by decide⟩ ?_
  refine v_istore_n (E2 := [aR 72, aI x1, aI 0, aI 0]) dX11_commonShare_18 rfl (Nat.le_of_ble_eq_true rfl) rfl ?_
  exact k
theorem S_X11_commonShare_19 {kc ks : Nat} {h : Hh} {Q : PQ} {X : PX} {x1 : Int} {x2 : Int} {x3 : Int}
    (k : ((0 : Int) ≤ x1 ∧ (x1 : Int) < 9) ∧ (((h 74 x1) ≤ x3 → ((0 : Int) ≤ x1 ∧ (x1 : Int) < 9 ∧ vf_n32 (FP.fdiv (FP.i2f (Int32.ofInt x2)) (FP.i2f (Int32.ofInt (h 74 x1))))) ∧ Q [aF (FP.fdiv (FP.i2f (Int32.ofInt x2)) (FP.i2f (Int32.ofInt (h 74 x1))))] am_R0 h) ∧ (x3 < (h 74 x1) → am_V M_X11_commonAt 0 0 0 [aR 72, aI x1, aI x3] [] am_R0 h (fun v ρ' h' => am_V M_X11_commonShare kc ks 36 [aR 72, aI x1, aU, aI x3] (v ++ [aI x2]) ρ' h' Q X) X))) :
    am_V M_X11_commonShare kc ks 19 [aR 72, aI x1, aI x2, aI x3] [] am_R0 h Q X := by
  obtain ⟨⟨b0_1, b0_2⟩, k⟩ := k
  refine v_iload_n dX11_commonShare_19 rfl rfl ?_
  refine v_aload_n dX11_commonShare_20 rfl rfl ?_
  refine v_getR (x := 74) dX11_commonShare_21 fl_X11_13 am_clsA rfl rfl rfl ?_
  refine v_iload_n dX11_commonShare_24 rfl rfl ?_
  refine v_iald dX11_commonShare_25 rfl b0_1 b0_2 ?_
  refine v_icmp_ge (tgt := 52) dX11_commonShare_26 (by decide) (fun z => ?_) (fun z => ?_)
  · have k := k.1 z
    obtain ⟨⟨b1_1, b1_2, b1_3⟩, k⟩ := k
    refine v_iload_n dX11_commonShare_52 rfl rfl ?_
    refine v_i2f dX11_commonShare_53 ?_
    refine v_aload_n dX11_commonShare_54 rfl rfl ?_
    refine v_getR (x := 74) dX11_commonShare_55 fl_X11_13 am_clsA rfl rfl rfl ?_
    refine v_iload_n dX11_commonShare_58 rfl rfl ?_
    refine v_iald dX11_commonShare_59 rfl b1_1 b1_2 ?_
    refine v_i2f dX11_commonShare_60 ?_
    refine v_fdiv dX11_commonShare_61 b1_3 ?_
    exact v_fret dX11_commonShare_62 rfl rfl k
  · have k := k.2 z
    refine v_iload_n dX11_commonShare_29 rfl rfl ?_
    refine v_aload_n dX11_commonShare_30 rfl rfl ?_
    refine v_iload_n dX11_commonShare_31 rfl rfl ?_
    refine v_iload_n dX11_commonShare_32 rfl rfl ?_
    refine v_weak (E2 := [aR 72, aI x1, aU, aI x3]) ⟨Or.inl rfl, ⟨Or.inl rfl, ⟨Or.inr rfl, ⟨Or.inl rfl, trivial⟩⟩⟩⟩ ?_
    exact v_callV (j := M_X11_commonAt) (As := [aI x1, aI x3]) (st := [aI x2]) (E0 := [aR 72, aI x1, aI x3]) (a := 72) (ci := 9) (N := 11) (q9 := (RX11, TX11, 11)) dX11_commonShare_33 ml_X11_105 J_X11_commonAt (Nat.zero_le _) (Nat.zero_le _) (Nat.le_of_ble_eq_true rfl) rfl (Nat.le_of_ble_eq_true rfl) (List.forall_mem_cons.mpr ⟨rfl, List.forall_mem_cons.mpr ⟨rfl, List.forall_mem_cons.mpr ⟨rfl, fun _ h9 => absurd h9 List.not_mem_nil⟩⟩⟩) (Nat.le_of_ble_eq_true rfl) rfl rfl rfl rfl pn_X11_commonAt rfl k
theorem S_X11_commonShare_36 {kc ks : Nat} {h : Hh} {Q : PQ} {X : PX} {x1 : Int} {x3 : Int} {xs0 : Int} {xs1 : Int}
    (k : ((xs0 ≤ 0 → ((-2147483648 ≤ ((xs1 + 0) : Int) ∧ ((xs1 + 0) : Int) < 2147483648) ∧ (-2147483648 ≤ ((x3 + 1) : Int) ∧ ((x3 + 1) : Int) < 2147483648)) ∧ am_V M_X11_commonShare kc ks 19 [aR 72, aI x1, aI (xs1 + 0), aI (x3 + 1)] [] am_R0 h Q X) ∧ (0 < xs0 → ((-2147483648 ≤ ((xs1 + 1) : Int) ∧ ((xs1 + 1) : Int) < 2147483648) ∧ (-2147483648 ≤ ((x3 + 1) : Int) ∧ ((x3 + 1) : Int) < 2147483648)) ∧ am_V M_X11_commonShare kc ks 19 [aR 72, aI x1, aI (xs1 + 1), aI (x3 + 1)] [] am_R0 h Q X))) :
    am_V M_X11_commonShare kc ks 36 [aR 72, aI x1, aU, aI x3] [aI xs0, aI xs1] am_R0 h Q X := by
  refine v_if_le (tgt := 43) dX11_commonShare_36 (by decide) (fun z => ?_) (fun z => ?_)
  · have k := k.1 z
    obtain ⟨⟨b1_1, b1_2⟩, k⟩ := k
    refine v_iconst dX11_commonShare_43 ⟨by decide, by decide⟩ ?_
    refine v_iadd dX11_commonShare_44 b1_1 ?_
    refine v_istore_n (E2 := [aR 72, aI x1, aI (xs1 + 0), aI x3]) dX11_commonShare_45 rfl (Nat.le_of_ble_eq_true rfl) rfl ?_
    refine v_iinc (E2 := [aR 72, aI x1, aI (xs1 + 0), aI (x3 + 1)]) dX11_commonShare_46 rfl b1_2 rfl ?_
    refine v_goto (tgt := 19) dX11_commonShare_49 (by decide) ?_
    exact k
  · have k := k.2 z
    obtain ⟨⟨b1_1, b1_2⟩, k⟩ := k
    refine v_iconst dX11_commonShare_39 ⟨by decide, by decide⟩ ?_
    refine v_goto (tgt := 44) dX11_commonShare_40 (by decide) ?_
    refine v_iadd dX11_commonShare_44 b1_1 ?_
    refine v_istore_n (E2 := [aR 72, aI x1, aI (xs1 + 1), aI x3]) dX11_commonShare_45 rfl (Nat.le_of_ble_eq_true rfl) rfl ?_
    refine v_iinc (E2 := [aR 72, aI x1, aI (xs1 + 1), aI (x3 + 1)]) dX11_commonShare_46 rfl b1_2 rfl ?_
    refine v_goto (tgt := 19) dX11_commonShare_49 (by decide) ?_
    exact k
theorem S_X11_commons_0 {kc ks : Nat} {h : Hh} {Q : PQ} {X : PX} {x1 : Int}
    (k : am_V M_X11_sorts 0 0 0 [aR 72, aI x1, aU] [] am_R0 h (fun v ρ' h' => am_V M_X11_commons kc ks 5 [aR 72, aI x1, aU, aU] (v ++ []) ρ' h' Q X) X) :
    am_V M_X11_commons kc ks 0 [aR 72, aI x1, aU, aU] [] am_R0 h Q X := by
  refine v_aload_n dX11_commons_0 rfl rfl ?_
  refine v_iload_n dX11_commons_1 rfl rfl ?_
  exact v_callV (j := M_X11_sorts) (As := [aI x1]) (st := []) (E0 := [aR 72, aI x1, aU]) (a := 72) (ci := 9) (N := 11) (q9 := (RX11, TX11, 11)) dX11_commons_2 ml_X11_93 J_X11_sorts (Nat.zero_le _) (Nat.zero_le _) (Nat.le_of_ble_eq_true rfl) rfl (Nat.le_of_ble_eq_true rfl) (List.forall_mem_cons.mpr ⟨rfl, List.forall_mem_cons.mpr ⟨rfl, fun _ h9 => absurd h9 List.not_mem_nil⟩⟩) (Nat.le_of_ble_eq_true rfl) rfl rfl rfl rfl pn_X11_sorts rfl k
theorem S_X11_commons_5 {kc ks : Nat} {h : Hh} {Q : PQ} {X : PX} {x1 : Int}
    (k : am_V M_X11_commons kc ks 9 [aR 72, aI x1, aI 0, aI 0] [] am_R0 h Q X) :
    am_V M_X11_commons kc ks 5 [aR 72, aI x1, aU, aU] [] am_R0 h Q X := by
  refine v_iconst dX11_commons_5 ⟨by decide, by decide⟩ ?_
  refine v_istore_n (E2 := [aR 72, aI x1, aI 0, aU]) dX11_commons_6 rfl (Nat.le_of_ble_eq_true rfl) rfl ?_
  refine v_iconst dX11_commons_7 ⟨by decide, by decide⟩ ?_
  refine v_istore_n (E2 := [aR 72, aI x1, aI 0, aI 0]) dX11_commons_8 rfl (Nat.le_of_ble_eq_true rfl) rfl ?_
  exact k
theorem S_X11_commons_9 {kc ks : Nat} {h : Hh} {Q : PQ} {X : PX} {x1 : Int} {x2 : Int} {x3 : Int}
    (k : ((0 : Int) ≤ x1 ∧ (x1 : Int) < 9) ∧ (((h 74 x1) ≤ x3 → Q [aI x2] am_R0 h) ∧ (x3 < (h 74 x1) → am_V M_X11_commonAt 0 0 0 [aR 72, aI x1, aI x3] [] am_R0 h (fun v ρ' h' => am_V M_X11_commons kc ks 26 [aR 72, aI x1, aU, aI x3] (v ++ [aI x2]) ρ' h' Q X) X))) :
    am_V M_X11_commons kc ks 9 [aR 72, aI x1, aI x2, aI x3] [] am_R0 h Q X := by
  obtain ⟨⟨b0_1, b0_2⟩, k⟩ := k
  refine v_iload_n dX11_commons_9 rfl rfl ?_
  refine v_aload_n dX11_commons_10 rfl rfl ?_
  refine v_getR (x := 74) dX11_commons_11 fl_X11_13 am_clsA rfl rfl rfl ?_
  refine v_iload_n dX11_commons_14 rfl rfl ?_
  refine v_iald dX11_commons_15 rfl b0_1 b0_2 ?_
  refine v_icmp_ge (tgt := 34) dX11_commons_16 (by decide) (fun z => ?_) (fun z => ?_)
  · have k := k.1 z
    refine v_iload_n dX11_commons_34 rfl rfl ?_
    exact v_iret dX11_commons_35 rfl rfl k
  · have k := k.2 z
    refine v_iload_n dX11_commons_19 rfl rfl ?_
    refine v_aload_n dX11_commons_20 rfl rfl ?_
    refine v_iload_n dX11_commons_21 rfl rfl ?_
    refine v_iload_n dX11_commons_22 rfl rfl ?_
    refine v_weak (E2 := [aR 72, aI x1, aU, aI x3]) ⟨Or.inl rfl, ⟨Or.inl rfl, ⟨Or.inr rfl, ⟨Or.inl rfl, trivial⟩⟩⟩⟩ ?_
    exact v_callV (j := M_X11_commonAt) (As := [aI x1, aI x3]) (st := [aI x2]) (E0 := [aR 72, aI x1, aI x3]) (a := 72) (ci := 9) (N := 11) (q9 := (RX11, TX11, 11)) dX11_commons_23 ml_X11_105 J_X11_commonAt (Nat.zero_le _) (Nat.zero_le _) (Nat.le_of_ble_eq_true rfl) rfl (Nat.le_of_ble_eq_true rfl) (List.forall_mem_cons.mpr ⟨rfl, List.forall_mem_cons.mpr ⟨rfl, List.forall_mem_cons.mpr ⟨rfl, fun _ h9 => absurd h9 List.not_mem_nil⟩⟩⟩) (Nat.le_of_ble_eq_true rfl) rfl rfl rfl rfl pn_X11_commonAt rfl k
theorem S_X11_commons_26 {kc ks : Nat} {h : Hh} {Q : PQ} {X : PX} {x1 : Int} {x3 : Int} {xs0 : Int} {xs1 : Int}
    (k : ((-2147483648 ≤ ((xs1 + xs0) : Int) ∧ ((xs1 + xs0) : Int) < 2147483648) ∧ (-2147483648 ≤ ((x3 + 1) : Int) ∧ ((x3 + 1) : Int) < 2147483648)) ∧ am_V M_X11_commons kc ks 9 [aR 72, aI x1, aI (xs1 + xs0), aI (x3 + 1)] [] am_R0 h Q X) :
    am_V M_X11_commons kc ks 26 [aR 72, aI x1, aU, aI x3] [aI xs0, aI xs1] am_R0 h Q X := by
  obtain ⟨⟨b0_1, b0_2⟩, k⟩ := k
  refine v_iadd dX11_commons_26 b0_1 ?_
  refine v_istore_n (E2 := [aR 72, aI x1, aI (xs1 + xs0), aI x3]) dX11_commons_27 rfl (Nat.le_of_ble_eq_true rfl) rfl ?_
  refine v_iinc (E2 := [aR 72, aI x1, aI (xs1 + xs0), aI (x3 + 1)]) dX11_commons_28 rfl b0_2 rfl ?_
  refine v_goto (tgt := 9) dX11_commons_31 (by decide) ?_
  exact k
theorem S_X11_checksum_0 {kc ks : Nat} {h : Hh} {Q : PQ} {X : PX} 
    (k : am_V M_X11_checksum kc ks 11 [aR 72, aL 7, aU, aI 0, aU] [] am_R0 (am_st h 72 10 0) Q X) :
    am_V M_X11_checksum kc ks 0 [aR 72, aU, aU, aU, aU] [] am_R0 h Q X := by
  refine v_aload_n dX11_checksum_0 rfl rfl ?_
  refine v_iconst dX11_checksum_1 ⟨by decide, by decide⟩ ?_
  refine v_putI (j := 10) dX11_checksum_2 pl_X11_35 am_clsA rfl rfl rfl ?_
  refine v_ldc2l dX11_checksum_5 lc_X11_191 ⟨by decide, by decide⟩ ?_
  refine v_lstore_n (E2 := [aR 72, aL 7, aU, aU, aU]) dX11_checksum_8 rfl (Nat.le_of_ble_eq_true rfl) rfl ?_
  refine v_iconst dX11_checksum_9 ⟨by decide, by decide⟩ ?_
  refine v_istore_n (E2 := [aR 72, aL 7, aU, aI 0, aU]) dX11_checksum_10 rfl (Nat.le_of_ble_eq_true rfl) rfl ?_
  exact k
theorem S_X11_checksum_11 {kc ks : Nat} {h : Hh} {Q : PQ} {X : PX} {x1 : Int} {x3 : Int}
    (k : (((h 72 8) ≤ x3 → Q [aL x1] am_R0 h) ∧ (x3 < (h 72 8) → ((0 : Int) ≤ x3 ∧ (x3 : Int) < 9) ∧ am_V M_X11_sorts 0 0 0 [aR 72, aI x3, aU] [] am_R0 h (fun v ρ' h' => am_V M_X11_checksum kc ks 38 [aR 72, aL ((((31 * x1).bmod (2 ^ 64)) + (h 74 x3)).bmod (2 ^ 64)), aU, aI x3, aU] (v ++ []) ρ' h' Q X) X))) :
    am_V M_X11_checksum kc ks 11 [aR 72, aL x1, aU, aI x3, aU] [] am_R0 h Q X := by
  refine v_iload_n dX11_checksum_11 rfl rfl ?_
  refine v_aload_n dX11_checksum_12 rfl rfl ?_
  refine v_getI (j := 8) dX11_checksum_13 fl_X11_39 am_clsA rfl rfl rfl ?_
  refine v_icmp_ge (tgt := 92) dX11_checksum_16 (by decide) (fun z => ?_) (fun z => ?_)
  · have k := k.1 z
    refine v_lload_n dX11_checksum_92 rfl rfl ?_
    exact v_lret dX11_checksum_93 rfl rfl k
  · have k := k.2 z
    obtain ⟨⟨b1_1, b1_2⟩, k⟩ := k
    refine v_ldc2l dX11_checksum_19 lc_X11_193 ⟨by decide, by decide⟩ ?_
    refine v_lload_n dX11_checksum_22 rfl rfl ?_
    refine v_lmul dX11_checksum_23 ?_
    refine v_aload_n dX11_checksum_24 rfl rfl ?_
    refine v_getR (x := 74) dX11_checksum_25 fl_X11_13 am_clsA rfl rfl rfl ?_
    refine v_iload_n dX11_checksum_28 rfl rfl ?_
    refine v_iald dX11_checksum_29 rfl b1_1 b1_2 ?_
    refine v_i2l dX11_checksum_30 ?_
    refine v_ladd dX11_checksum_31 ?_
    refine v_lstore_n (E2 := [aR 72, aL ((((31 * x1).bmod (2 ^ 64)) + (h 74 x3)).bmod (2 ^ 64)), aU, aI x3, aU]) dX11_checksum_32 rfl (Nat.le_of_ble_eq_true rfl) rfl ?_
    refine v_aload_n dX11_checksum_33 rfl rfl ?_
    refine v_iload_n dX11_checksum_34 rfl rfl ?_
    exact v_callV (j := M_X11_sorts) (As := [aI x3]) (st := []) (E0 := [aR 72, aI x3, aU]) (a := 72) (ci := 9) (N := 11) (q9 := (RX11, TX11, 11)) dX11_checksum_35 ml_X11_93 J_X11_sorts (Nat.zero_le _) (Nat.zero_le _) (Nat.le_of_ble_eq_true rfl) rfl (Nat.le_of_ble_eq_true rfl) (List.forall_mem_cons.mpr ⟨rfl, List.forall_mem_cons.mpr ⟨rfl, fun _ h9 => absurd h9 List.not_mem_nil⟩⟩) (Nat.le_of_ble_eq_true rfl) rfl rfl rfl rfl pn_X11_sorts rfl k
theorem S_X11_checksum_38 {kc ks : Nat} {h : Hh} {Q : PQ} {X : PX} {x1 : Int} {x3 : Int}
    (k : am_V M_X11_checksum kc ks 41 [aR 72, aL x1, aU, aI x3, aI 0] [] am_R0 h Q X) :
    am_V M_X11_checksum kc ks 38 [aR 72, aL x1, aU, aI x3, aU] [] am_R0 h Q X := by
  refine v_iconst dX11_checksum_38 ⟨by decide, by decide⟩ ?_
  refine v_istore (E2 := [aR 72, aL x1, aU, aI x3, aI 0]) dX11_checksum_39 (Nat.le_of_ble_eq_true rfl) rfl ?_
  exact k
theorem S_X11_checksum_41 {kc ks : Nat} {h : Hh} {Q : PQ} {X : PX} {x1 : Int} {x3 : Int} {x4 : Int}
    (k : ((0 : Int) ≤ x3 ∧ (x3 : Int) < 9) ∧ (((h 74 x3) ≤ x4 → ((-2147483648 ≤ ((x3 + 1) : Int) ∧ ((x3 + 1) : Int) < 2147483648)) ∧ am_V M_X11_checksum kc ks 11 [aR 72, aL x1, aU, aI (x3 + 1), aU] [] am_R0 h Q X) ∧ (x4 < (h 74 x3) → ((0 : Int) ≤ x4 ∧ (x4 : Int) < 64) ∧ am_V M_X11_commonAt 0 0 0 [aR 72, aI x3, aI x4] [] am_R0 h (fun v ρ' h' => am_V M_X11_checksum kc ks 77 [aR 72, aU, aU, aI x3, aI x4] (v ++ [aL ((31 * ((((31 * x1).bmod (2 ^ 64)) + (h 76 x4)).bmod (2 ^ 64))).bmod (2 ^ 64))]) ρ' h' Q X) X))) :
    am_V M_X11_checksum kc ks 41 [aR 72, aL x1, aU, aI x3, aI x4] [] am_R0 h Q X := by
  obtain ⟨⟨b0_1, b0_2⟩, k⟩ := k
  refine v_iload dX11_checksum_41 rfl ?_
  refine v_aload_n dX11_checksum_43 rfl rfl ?_
  refine v_getR (x := 74) dX11_checksum_44 fl_X11_13 am_clsA rfl rfl rfl ?_
  refine v_iload_n dX11_checksum_47 rfl rfl ?_
  refine v_iald dX11_checksum_48 rfl b0_1 b0_2 ?_
  refine v_icmp_ge (tgt := 86) dX11_checksum_49 (by decide) (fun z => ?_) (fun z => ?_)
  · have k := k.1 z
    obtain ⟨b1_1, k⟩ := k
    refine v_iinc (E2 := [aR 72, aL x1, aU, aI (x3 + 1), aI x4]) dX11_checksum_86 rfl b1_1 rfl ?_
    refine v_goto (tgt := 11) dX11_checksum_89 (by decide) ?_
    refine v_weak (E2 := [aR 72, aL x1, aU, aI (x3 + 1), aU]) ⟨Or.inl rfl, ⟨Or.inl rfl, ⟨Or.inl rfl, ⟨Or.inl rfl, ⟨Or.inr rfl, trivial⟩⟩⟩⟩⟩ ?_
    exact k
  · have k := k.2 z
    obtain ⟨⟨b1_1, b1_2⟩, k⟩ := k
    refine v_ldc2l dX11_checksum_52 lc_X11_193 ⟨by decide, by decide⟩ ?_
    refine v_ldc2l dX11_checksum_55 lc_X11_193 ⟨by decide, by decide⟩ ?_
    refine v_lload_n dX11_checksum_58 rfl rfl ?_
    refine v_lmul dX11_checksum_59 ?_
    refine v_aload_n dX11_checksum_60 rfl rfl ?_
    refine v_getR (x := 76) dX11_checksum_61 fl_X11_20 am_clsA rfl rfl rfl ?_
    refine v_iload dX11_checksum_64 rfl ?_
    refine v_iald dX11_checksum_66 rfl b1_1 b1_2 ?_
    refine v_i2l dX11_checksum_67 ?_
    refine v_ladd dX11_checksum_68 ?_
    refine v_lmul dX11_checksum_69 ?_
    refine v_aload_n dX11_checksum_70 rfl rfl ?_
    refine v_iload_n dX11_checksum_71 rfl rfl ?_
    refine v_iload dX11_checksum_72 rfl ?_
    refine v_weak (E2 := [aR 72, aU, aU, aI x3, aI x4]) ⟨Or.inl rfl, ⟨Or.inr rfl, ⟨Or.inl rfl, ⟨Or.inl rfl, ⟨Or.inl rfl, trivial⟩⟩⟩⟩⟩ ?_
    exact v_callV (j := M_X11_commonAt) (As := [aI x3, aI x4]) (st := [aL ((31 * ((((31 * x1).bmod (2 ^ 64)) + (h 76 x4)).bmod (2 ^ 64))).bmod (2 ^ 64))]) (E0 := [aR 72, aI x3, aI x4]) (a := 72) (ci := 9) (N := 11) (q9 := (RX11, TX11, 11)) dX11_checksum_74 ml_X11_105 J_X11_commonAt (Nat.zero_le _) (Nat.zero_le _) (Nat.le_of_ble_eq_true rfl) rfl (Nat.le_of_ble_eq_true rfl) (List.forall_mem_cons.mpr ⟨rfl, List.forall_mem_cons.mpr ⟨rfl, List.forall_mem_cons.mpr ⟨rfl, fun _ h9 => absurd h9 List.not_mem_nil⟩⟩⟩) (Nat.le_of_ble_eq_true rfl) rfl rfl rfl rfl pn_X11_commonAt rfl k
theorem S_X11_checksum_77 {kc ks : Nat} {h : Hh} {Q : PQ} {X : PX} {x3 : Int} {x4 : Int} {xs0 : Int} {xs1 : Int}
    (k : ((-2147483648 ≤ ((x4 + 1) : Int) ∧ ((x4 + 1) : Int) < 2147483648)) ∧ am_V M_X11_checksum kc ks 41 [aR 72, aL ((xs1 + xs0).bmod (2 ^ 64)), aU, aI x3, aI (x4 + 1)] [] am_R0 h Q X) :
    am_V M_X11_checksum kc ks 77 [aR 72, aU, aU, aI x3, aI x4] [aI xs0, aL xs1] am_R0 h Q X := by
  obtain ⟨b0_1, k⟩ := k
  refine v_i2l dX11_checksum_77 ?_
  refine v_ladd dX11_checksum_78 ?_
  refine v_lstore_n (E2 := [aR 72, aL ((xs1 + xs0).bmod (2 ^ 64)), aU, aI x3, aI x4]) dX11_checksum_79 rfl (Nat.le_of_ble_eq_true rfl) rfl ?_
  refine v_iinc (E2 := [aR 72, aL ((xs1 + xs0).bmod (2 ^ 64)), aU, aI x3, aI (x4 + 1)]) dX11_checksum_80 rfl b0_1 rfl ?_
  refine v_goto (tgt := 41) dX11_checksum_83 (by decide) ?_
  exact k
theorem S_X11_isSound_0 {kc ks : Nat} {h : Hh} {Q : PQ} {X : PX} 
    (k : am_V M_X11_isSound kc ks 9 [aR 72, aI 1, aI 0, aU, aU, aU, aU, aU, aU] [] am_R0 (am_st h 72 10 0) Q X) :
    am_V M_X11_isSound kc ks 0 [aR 72, aU, aU, aU, aU, aU, aU, aU, aU] [] am_R0 h Q X := by
  refine v_aload_n dX11_isSound_0 rfl rfl ?_
  refine v_iconst dX11_isSound_1 ⟨by decide, by decide⟩ ?_
  refine v_putI (j := 10) dX11_isSound_2 pl_X11_35 am_clsA rfl rfl rfl ?_
  refine v_iconst dX11_isSound_5 ⟨by decide, by decide⟩ ?_
  refine v_istore_n (E2 := [aR 72, aI 1, aU, aU, aU, aU, aU, aU, aU]) dX11_isSound_6 rfl (Nat.le_of_ble_eq_true rfl) rfl ?_
  refine v_iconst dX11_isSound_7 ⟨by decide, by decide⟩ ?_
  refine v_istore_n (E2 := [aR 72, aI 1, aI 0, aU, aU, aU, aU, aU, aU]) dX11_isSound_8 rfl (Nat.le_of_ble_eq_true rfl) rfl ?_
  exact k
theorem S_X11_isSound_9 {kc ks : Nat} {h : Hh} {Q : PQ} {X : PX} {x1 : Int} {x2 : Int}
    (k : (((h 72 8) ≤ x2 → ((x1 = 0 ∨ x1 = 1)) ∧ Q [aI x1] am_R0 h) ∧ (x2 < (h 72 8) → ((0 : Int) ≤ x2 ∧ (x2 : Int) < 9) ∧ am_V M_X11_allWords 0 0 0 [aR 72, aI x2, aU, aU, aU] [] am_R0 h (fun v ρ' h' => am_V M_X11_isSound kc ks 30 [aR 72, aU, aI x2, aI (h 74 x2), aU, aU, aU, aU, aU] (v ++ [aI x1]) ρ' h' Q X) X))) :
    am_V M_X11_isSound kc ks 9 [aR 72, aI x1, aI x2, aU, aU, aU, aU, aU, aU] [] am_R0 h Q X := by
  refine v_iload_n dX11_isSound_9 rfl rfl ?_
  refine v_aload_n dX11_isSound_10 rfl rfl ?_
  refine v_getI (j := 8) dX11_isSound_11 fl_X11_39 am_clsA rfl rfl rfl ?_
  refine v_icmp_ge (tgt := 234) dX11_isSound_14 (by decide) (fun z => ?_) (fun z => ?_)
  · have k := k.1 z
    obtain ⟨b1_1, k⟩ := k
    refine v_iload_n dX11_isSound_234 rfl rfl ?_
    exact v_zret dX11_isSound_235 rfl rfl b1_1 k
  · have k := k.2 z
    obtain ⟨⟨b1_1, b1_2⟩, k⟩ := k
    refine v_aload_n dX11_isSound_17 rfl rfl ?_
    refine v_getR (x := 74) dX11_isSound_18 fl_X11_13 am_clsA rfl rfl rfl ?_
    refine v_iload_n dX11_isSound_21 rfl rfl ?_
    refine v_iald dX11_isSound_22 rfl b1_1 b1_2 ?_
    refine v_istore_n (E2 := [aR 72, aI x1, aI x2, aI (h 74 x2), aU, aU, aU, aU, aU]) dX11_isSound_23 rfl (Nat.le_of_ble_eq_true rfl) rfl ?_
    refine v_iload_n dX11_isSound_24 rfl rfl ?_
    refine v_aload_n dX11_isSound_25 rfl rfl ?_
    refine v_iload_n dX11_isSound_26 rfl rfl ?_
    refine v_weak (E2 := [aR 72, aU, aI x2, aI (h 74 x2), aU, aU, aU, aU, aU]) ⟨Or.inl rfl, ⟨Or.inr rfl, ⟨Or.inl rfl, ⟨Or.inl rfl, ⟨Or.inl rfl, ⟨Or.inl rfl, ⟨Or.inl rfl, ⟨Or.inl rfl, ⟨Or.inl rfl, trivial⟩⟩⟩⟩⟩⟩⟩⟩⟩ ?_
    exact v_callV (j := M_X11_allWords) (As := [aI x2]) (st := [aI x1]) (E0 := [aR 72, aI x2, aU, aU, aU]) (a := 72) (ci := 9) (N := 11) (q9 := (RX11, TX11, 11)) dX11_isSound_27 ml_X11_120 J_X11_allWords (Nat.zero_le _) (Nat.zero_le _) (Nat.le_of_ble_eq_true rfl) rfl (Nat.le_of_ble_eq_true rfl) (List.forall_mem_cons.mpr ⟨rfl, List.forall_mem_cons.mpr ⟨rfl, fun _ h9 => absurd h9 List.not_mem_nil⟩⟩) (Nat.le_of_ble_eq_true rfl) rfl rfl rfl rfl pn_X11_allWords rfl k
theorem S_X11_isSound_30 {kc ks : Nat} {h : Hh} {Q : PQ} {X : PX} {x2 : Int} {x3 : Int} {xs0 : Int} {xs1 : Int}
    (k : ((0 : Int) ≤ ((x3 * ((x3 + 1).bmod (2 ^ 64))).bmod (2 ^ 64)) ∧ (0 : Int) < 2) ∧ am_V M_X11_commons 0 0 0 [aR 72, aI x2, aU, aU] [] am_R0 h (fun v ρ' h' => am_V M_X11_isSound kc ks 46 [aR 72, aU, aI x2, aI x3, aU, aU, aU, aU, aU] (v ++ [aL (((x3 * ((x3 + 1).bmod (2 ^ 64))).bmod (2 ^ 64)) / 2), aL xs0, aI xs1]) ρ' h' Q X) X) :
    am_V M_X11_isSound kc ks 30 [aR 72, aU, aI x2, aI x3, aU, aU, aU, aU, aU] [aL xs0, aI xs1] am_R0 h Q X := by
  obtain ⟨⟨b0_1, b0_2⟩, k⟩ := k
  refine v_iload_n dX11_isSound_30 rfl rfl ?_
  refine v_i2l dX11_isSound_31 ?_
  refine v_iload_n dX11_isSound_32 rfl rfl ?_
  refine v_i2l dX11_isSound_33 ?_
  refine v_lconst (x := 1) dX11_isSound_34 rfl ?_
  refine v_ladd dX11_isSound_35 ?_
  refine v_lmul dX11_isSound_36 ?_
  refine v_ldc2l dX11_isSound_37 lc_X11_195 ⟨by decide, by decide⟩ ?_
  refine v_ldiv dX11_isSound_40 b0_1 b0_2 ?_
  refine v_aload_n dX11_isSound_41 rfl rfl ?_
  refine v_iload_n dX11_isSound_42 rfl rfl ?_
  exact v_callV (j := M_X11_commons) (As := [aI x2]) (st := [aL (((x3 * ((x3 + 1).bmod (2 ^ 64))).bmod (2 ^ 64)) / 2), aL xs0, aI xs1]) (E0 := [aR 72, aI x2, aU, aU]) (a := 72) (ci := 9) (N := 11) (q9 := (RX11, TX11, 11)) dX11_isSound_43 ml_X11_188 J_X11_commons (Nat.zero_le _) (Nat.zero_le _) (Nat.le_of_ble_eq_true rfl) rfl (Nat.le_of_ble_eq_true rfl) (List.forall_mem_cons.mpr ⟨rfl, List.forall_mem_cons.mpr ⟨rfl, fun _ h9 => absurd h9 List.not_mem_nil⟩⟩) (Nat.le_of_ble_eq_true rfl) rfl rfl rfl rfl pn_X11_commons rfl k
theorem S_X11_isSound_46 {kc ks : Nat} {h : Hh} {Q : PQ} {X : PX} {x2 : Int} {x3 : Int} {xs0 : Int} {xs1 : Int} {xs2 : Int} {xs3 : Int}
    (k : (((if ((xs1 - xs0).bmod (2 ^ 64)) < xs2 then 1 else if xs2 = ((xs1 - xs0).bmod (2 ^ 64)) then 0 else -1) ≠ 0 → am_V M_X11_isSound kc ks 65 [aR 72, aI (Int32.ofInt xs3 &&& Int32.ofInt 0).toInt, aI x2, aI x3, aI 0, aI 0, aU, aU, aU] [] am_R0 h Q X) ∧ ((if ((xs1 - xs0).bmod (2 ^ 64)) < xs2 then 1 else if xs2 = ((xs1 - xs0).bmod (2 ^ 64)) then 0 else -1) = 0 → am_V M_X11_isSound kc ks 65 [aR 72, aI (Int32.ofInt xs3 &&& Int32.ofInt 1).toInt, aI x2, aI x3, aI 0, aI 0, aU, aU, aU] [] am_R0 h Q X))) :
    am_V M_X11_isSound kc ks 46 [aR 72, aU, aI x2, aI x3, aU, aU, aU, aU, aU] [aI xs0, aL xs1, aL xs2, aI xs3] am_R0 h Q X := by
  refine v_i2l dX11_isSound_46 ?_
  refine v_lsub dX11_isSound_47 ?_
  refine v_lcmp dX11_isSound_48 ?_
  refine v_if_ne (tgt := 56) dX11_isSound_49 (by decide) (fun z => ?_) (fun z => ?_)
  · have k := k.1 z
    refine v_iconst dX11_isSound_56 ⟨by decide, by decide⟩ ?_
    refine v_iand dX11_isSound_57 ?_
    refine v_istore_n (E2 := [aR 72, aI (Int32.ofInt xs3 &&& Int32.ofInt 0).toInt, aI x2, aI x3, aU, aU, aU, aU, aU]) dX11_isSound_58 rfl (Nat.le_of_ble_eq_true rfl) rfl ?_
    refine v_iconst dX11_isSound_59 ⟨by decide, by decide⟩ ?_
    refine v_istore (E2 := [aR 72, aI (Int32.ofInt xs3 &&& Int32.ofInt 0).toInt, aI x2, aI x3, aI 0, aU, aU, aU, aU]) dX11_isSound_60 (Nat.le_of_ble_eq_true rfl) rfl ?_
    refine v_iconst dX11_isSound_62 ⟨by decide, by decide⟩ ?_
    refine v_istore (E2 := [aR 72, aI (Int32.ofInt xs3 &&& Int32.ofInt 0).toInt, aI x2, aI x3, aI 0, aI 0, aU, aU, aU]) dX11_isSound_63 (Nat.le_of_ble_eq_true rfl) rfl ?_
    exact k
  · have k := k.2 z
    refine v_iconst dX11_isSound_52 ⟨by decide, by decide⟩ ?_
    refine v_goto (tgt := 57) dX11_isSound_53 (by decide) ?_
    refine v_iand dX11_isSound_57 ?_
    refine v_istore_n (E2 := [aR 72, aI (Int32.ofInt xs3 &&& Int32.ofInt 1).toInt, aI x2, aI x3, aU, aU, aU, aU, aU]) dX11_isSound_58 rfl (Nat.le_of_ble_eq_true rfl) rfl ?_
    refine v_iconst dX11_isSound_59 ⟨by decide, by decide⟩ ?_
    refine v_istore (E2 := [aR 72, aI (Int32.ofInt xs3 &&& Int32.ofInt 1).toInt, aI x2, aI x3, aI 0, aU, aU, aU, aU]) dX11_isSound_60 (Nat.le_of_ble_eq_true rfl) rfl ?_
    refine v_iconst dX11_isSound_62 ⟨by decide, by decide⟩ ?_
    refine v_istore (E2 := [aR 72, aI (Int32.ofInt xs3 &&& Int32.ofInt 1).toInt, aI x2, aI x3, aI 0, aI 0, aU, aU, aU]) dX11_isSound_63 (Nat.le_of_ble_eq_true rfl) rfl ?_
    exact k
theorem S_X11_isSound_65 {kc ks : Nat} {h : Hh} {Q : PQ} {X : PX} {x1 : Int} {x2 : Int} {x3 : Int} {x4 : Int} {x5 : Int}
    (k : ((x3 ≤ x5 → am_V M_X11_longestTwice 0 0 0 [aR 72, aI x2, aU, aU, aU, aU] [] am_R0 h (fun v ρ' h' => am_V M_X11_isSound kc ks 111 [aR 72, aU, aI x2, aI x3, aU, aU, aU, aU, aU] (v ++ [aI x4, aI x1]) ρ' h' Q X) X) ∧ (x5 < x3 → am_V M_X11_commonAt 0 0 0 [aR 72, aI x2, aI x5] [] am_R0 h (fun v ρ' h' => am_V M_X11_isSound kc ks 78 [aR 72, aI x1, aI x2, aI x3, aI x4, aI x5, aU, aU, aU] (v ++ []) ρ' h' Q X) X))) :
    am_V M_X11_isSound kc ks 65 [aR 72, aI x1, aI x2, aI x3, aI x4, aI x5, aU, aU, aU] [] am_R0 h Q X := by
  refine v_iload dX11_isSound_65 rfl ?_
  refine v_iload_n dX11_isSound_67 rfl rfl ?_
  refine v_icmp_ge (tgt := 103) dX11_isSound_68 (by decide) (fun z => ?_) (fun z => ?_)
  · have k := k.1 z
    refine v_iload_n dX11_isSound_103 rfl rfl ?_
    refine v_iload dX11_isSound_104 rfl ?_
    refine v_aload_n dX11_isSound_106 rfl rfl ?_
    refine v_iload_n dX11_isSound_107 rfl rfl ?_
    refine v_weak (E2 := [aR 72, aU, aI x2, aI x3, aU, aU, aU, aU, aU]) ⟨Or.inl rfl, ⟨Or.inr rfl, ⟨Or.inl rfl, ⟨Or.inl rfl, ⟨Or.inr rfl, ⟨Or.inr rfl, ⟨Or.inl rfl, ⟨Or.inl rfl, ⟨Or.inl rfl, trivial⟩⟩⟩⟩⟩⟩⟩⟩⟩ ?_
    exact v_callV (j := M_X11_longestTwice) (As := [aI x2]) (st := [aI x4, aI x1]) (E0 := [aR 72, aI x2, aU, aU, aU, aU]) (a := 72) (ci := 9) (N := 11) (q9 := (RX11, TX11, 11)) dX11_isSound_108 ml_X11_124 J_X11_longestTwice (Nat.zero_le _) (Nat.zero_le _) (Nat.le_of_ble_eq_true rfl) rfl (Nat.le_of_ble_eq_true rfl) (List.forall_mem_cons.mpr ⟨rfl, List.forall_mem_cons.mpr ⟨rfl, fun _ h9 => absurd h9 List.not_mem_nil⟩⟩) (Nat.le_of_ble_eq_true rfl) rfl rfl rfl rfl pn_X11_longestTwice rfl k
  · have k := k.2 z
    refine v_aload_n dX11_isSound_71 rfl rfl ?_
    refine v_iload_n dX11_isSound_72 rfl rfl ?_
    refine v_iload dX11_isSound_73 rfl ?_
    exact v_callV (j := M_X11_commonAt) (As := [aI x2, aI x5]) (st := []) (E0 := [aR 72, aI x2, aI x5]) (a := 72) (ci := 9) (N := 11) (q9 := (RX11, TX11, 11)) dX11_isSound_75 ml_X11_105 J_X11_commonAt (Nat.zero_le _) (Nat.zero_le _) (Nat.le_of_ble_eq_true rfl) rfl (Nat.le_of_ble_eq_true rfl) (List.forall_mem_cons.mpr ⟨rfl, List.forall_mem_cons.mpr ⟨rfl, List.forall_mem_cons.mpr ⟨rfl, fun _ h9 => absurd h9 List.not_mem_nil⟩⟩⟩) (Nat.le_of_ble_eq_true rfl) rfl rfl rfl rfl pn_X11_commonAt rfl k
theorem S_X11_isSound_111 {kc ks : Nat} {h : Hh} {Q : PQ} {X : PX} {x2 : Int} {x3 : Int} {xs0 : Int} {xs1 : Int} {xs2 : Int}
    (k : ((xs1 ≠ xs0 → am_V M_X11_findParts 0 0 0 [aR 72, aI x2, aU, aU, aU] [] am_R0 h (fun v ρ' h' => am_V M_X11_isSound kc ks 139 [aR 72, aI (Int32.ofInt xs2 &&& Int32.ofInt 0).toInt, aI x2, aI x3, aU, aU, aU, aU, aU] (v ++ []) ρ' h' Q X) X) ∧ (xs1 = xs0 → am_V M_X11_findPieces 0 0 0 [aR 72, aI x2, aU, aU, aU] [] am_R0 h (fun v ρ' h' => am_V M_X11_isSound kc ks 119 [aR 72, aU, aI x2, aI x3, aU, aU, aU, aU, aU] (v ++ [aI xs2]) ρ' h' Q X) X))) :
    am_V M_X11_isSound kc ks 111 [aR 72, aU, aI x2, aI x3, aU, aU, aU, aU, aU] [aI xs0, aI xs1, aI xs2] am_R0 h Q X := by
  refine v_icmp_ne (tgt := 131) dX11_isSound_111 (by decide) (fun z => ?_) (fun z => ?_)
  · have k := k.1 z
    refine v_iconst dX11_isSound_131 ⟨by decide, by decide⟩ ?_
    refine v_iand dX11_isSound_132 ?_
    refine v_istore_n (E2 := [aR 72, aI (Int32.ofInt xs2 &&& Int32.ofInt 0).toInt, aI x2, aI x3, aU, aU, aU, aU, aU]) dX11_isSound_133 rfl (Nat.le_of_ble_eq_true rfl) rfl ?_
    refine v_aload_n dX11_isSound_134 rfl rfl ?_
    refine v_iload_n dX11_isSound_135 rfl rfl ?_
    exact v_callV (j := M_X11_findParts) (As := [aI x2]) (st := []) (E0 := [aR 72, aI x2, aU, aU, aU]) (a := 72) (ci := 9) (N := 11) (q9 := (RX11, TX11, 11)) dX11_isSound_136 ml_X11_173 J_X11_findParts (Nat.zero_le _) (Nat.zero_le _) (Nat.le_of_ble_eq_true rfl) rfl (Nat.le_of_ble_eq_true rfl) (List.forall_mem_cons.mpr ⟨rfl, List.forall_mem_cons.mpr ⟨rfl, fun _ h9 => absurd h9 List.not_mem_nil⟩⟩) (Nat.le_of_ble_eq_true rfl) rfl rfl rfl rfl pn_X11_findParts rfl k
  · have k := k.2 z
    refine v_aload_n dX11_isSound_114 rfl rfl ?_
    refine v_iload_n dX11_isSound_115 rfl rfl ?_
    exact v_callV (j := M_X11_findPieces) (As := [aI x2]) (st := [aI xs2]) (E0 := [aR 72, aI x2, aU, aU, aU]) (a := 72) (ci := 9) (N := 11) (q9 := (RX11, TX11, 11)) dX11_isSound_116 ml_X11_179 J_X11_findPieces (Nat.zero_le _) (Nat.zero_le _) (Nat.le_of_ble_eq_true rfl) rfl (Nat.le_of_ble_eq_true rfl) (List.forall_mem_cons.mpr ⟨rfl, List.forall_mem_cons.mpr ⟨rfl, fun _ h9 => absurd h9 List.not_mem_nil⟩⟩) (Nat.le_of_ble_eq_true rfl) rfl rfl rfl rfl pn_X11_findPieces rfl k
theorem S_X11_isSound_78 {kc ks : Nat} {h : Hh} {Q : PQ} {X : PX} {x1 : Int} {x2 : Int} {x3 : Int} {x4 : Int} {x5 : Int} {xs0 : Int}
    (k : ((xs0 ≤ x4 → ((-2147483648 ≤ ((x5 + 1) : Int) ∧ ((x5 + 1) : Int) < 2147483648)) ∧ am_V M_X11_isSound kc ks 65 [aR 72, aI x1, aI x2, aI x3, aI x4, aI (x5 + 1), aU, aU, aU] [] am_R0 h Q X) ∧ (x4 < xs0 → am_V M_X11_commonAt 0 0 0 [aR 72, aI x2, aI x5] [] am_R0 h (fun v ρ' h' => am_V M_X11_isSound kc ks 90 [aR 72, aI x1, aI x2, aI x3, aU, aI x5, aU, aU, aU] (v ++ []) ρ' h' Q X) X))) :
    am_V M_X11_isSound kc ks 78 [aR 72, aI x1, aI x2, aI x3, aI x4, aI x5, aU, aU, aU] [aI xs0] am_R0 h Q X := by
  refine v_iload dX11_isSound_78 rfl ?_
  refine v_icmp_le (tgt := 93) dX11_isSound_80 (by decide) (fun z => ?_) (fun z => ?_)
  · have k := k.1 z
    obtain ⟨b1_1, k⟩ := k
    refine v_iload dX11_isSound_93 rfl ?_
    refine v_istore (E2 := [aR 72, aI x1, aI x2, aI x3, aI x4, aI x5, aU, aU, aU]) dX11_isSound_95 (Nat.le_of_ble_eq_true rfl) rfl ?_
    refine v_iinc (E2 := [aR 72, aI x1, aI x2, aI x3, aI x4, aI (x5 + 1), aU, aU, aU]) dX11_isSound_97 rfl b1_1 rfl ?_
    refine v_goto (tgt := 65) dX11_isSound_100 (by decide) ?_
    exact k
  · have k := k.2 z
    refine v_aload_n dX11_isSound_83 rfl rfl ?_
    refine v_iload_n dX11_isSound_84 rfl rfl ?_
    refine v_iload dX11_isSound_85 rfl ?_
    refine v_weak (E2 := [aR 72, aI x1, aI x2, aI x3, aU, aI x5, aU, aU, aU]) ⟨Or.inl rfl, ⟨Or.inl rfl, ⟨Or.inl rfl, ⟨Or.inl rfl, ⟨Or.inr rfl, ⟨Or.inl rfl, ⟨Or.inl rfl, ⟨Or.inl rfl, ⟨Or.inl rfl, trivial⟩⟩⟩⟩⟩⟩⟩⟩⟩ ?_
    exact v_callV (j := M_X11_commonAt) (As := [aI x2, aI x5]) (st := []) (E0 := [aR 72, aI x2, aI x5]) (a := 72) (ci := 9) (N := 11) (q9 := (RX11, TX11, 11)) dX11_isSound_87 ml_X11_105 J_X11_commonAt (Nat.zero_le _) (Nat.zero_le _) (Nat.le_of_ble_eq_true rfl) rfl (Nat.le_of_ble_eq_true rfl) (List.forall_mem_cons.mpr ⟨rfl, List.forall_mem_cons.mpr ⟨rfl, List.forall_mem_cons.mpr ⟨rfl, fun _ h9 => absurd h9 List.not_mem_nil⟩⟩⟩) (Nat.le_of_ble_eq_true rfl) rfl rfl rfl rfl pn_X11_commonAt rfl k
theorem S_X11_isSound_139 {kc ks : Nat} {h : Hh} {Q : PQ} {X : PX} {x1 : Int} {x2 : Int} {x3 : Int} {xs0 : Int}
    (k : am_V M_X11_isSound kc ks 150 [aR 72, aI x1, aI x2, aI x3, aU, aI xs0, aI x3, aI 0, aI 0] [] am_R0 h Q X) :
    am_V M_X11_isSound kc ks 139 [aR 72, aI x1, aI x2, aI x3, aU, aU, aU, aU, aU] [aI xs0] am_R0 h Q X := by
  refine v_istore (E2 := [aR 72, aI x1, aI x2, aI x3, aU, aI xs0, aU, aU, aU]) dX11_isSound_139 (Nat.le_of_ble_eq_true rfl) rfl ?_
  refine v_iload_n dX11_isSound_141 rfl rfl ?_
  refine v_istore (E2 := [aR 72, aI x1, aI x2, aI x3, aU, aI xs0, aI x3, aU, aU]) dX11_isSound_142 (Nat.le_of_ble_eq_true rfl) rfl ?_
  refine v_iconst dX11_isSound_144 ⟨by decide, by decide⟩ ?_
  refine v_istore (E2 := [aR 72, aI x1, aI x2, aI x3, aU, aI xs0, aI x3, aI 0, aU]) dX11_isSound_145 (Nat.le_of_ble_eq_true rfl) rfl ?_
  refine v_iconst dX11_isSound_147 ⟨by decide, by decide⟩ ?_
  refine v_istore (E2 := [aR 72, aI x1, aI x2, aI x3, aU, aI xs0, aI x3, aI 0, aI 0]) dX11_isSound_148 (Nat.le_of_ble_eq_true rfl) rfl ?_
  exact k
theorem S_X11_isSound_119 {kc ks : Nat} {h : Hh} {Q : PQ} {X : PX} {x2 : Int} {x3 : Int} {xs0 : Int} {xs1 : Int}
    (k : am_V M_X11_fewestOf 0 0 0 [aR 72, aI x2, aU, aU, aU] [] am_R0 h (fun v ρ' h' => am_V M_X11_isSound kc ks 124 [aR 72, aU, aI x2, aI x3, aU, aU, aU, aU, aU] (v ++ [aI xs0, aI xs1]) ρ' h' Q X) X) :
    am_V M_X11_isSound kc ks 119 [aR 72, aU, aI x2, aI x3, aU, aU, aU, aU, aU] [aI xs0, aI xs1] am_R0 h Q X := by
  refine v_aload_n dX11_isSound_119 rfl rfl ?_
  refine v_iload_n dX11_isSound_120 rfl rfl ?_
  exact v_callV (j := M_X11_fewestOf) (As := [aI x2]) (st := [aI xs0, aI xs1]) (E0 := [aR 72, aI x2, aU, aU, aU]) (a := 72) (ci := 9) (N := 11) (q9 := (RX11, TX11, 11)) dX11_isSound_121 ml_X11_185 J_X11_fewestOf (Nat.zero_le _) (Nat.zero_le _) (Nat.le_of_ble_eq_true rfl) rfl (Nat.le_of_ble_eq_true rfl) (List.forall_mem_cons.mpr ⟨rfl, List.forall_mem_cons.mpr ⟨rfl, fun _ h9 => absurd h9 List.not_mem_nil⟩⟩) (Nat.le_of_ble_eq_true rfl) rfl rfl rfl rfl pn_X11_fewestOf rfl k
theorem S_X11_isSound_90 {kc ks : Nat} {h : Hh} {Q : PQ} {X : PX} {x1 : Int} {x2 : Int} {x3 : Int} {x5 : Int} {xs0 : Int}
    (k : ((-2147483648 ≤ ((x5 + 1) : Int) ∧ ((x5 + 1) : Int) < 2147483648)) ∧ am_V M_X11_isSound kc ks 65 [aR 72, aI x1, aI x2, aI x3, aI xs0, aI (x5 + 1), aU, aU, aU] [] am_R0 h Q X) :
    am_V M_X11_isSound kc ks 90 [aR 72, aI x1, aI x2, aI x3, aU, aI x5, aU, aU, aU] [aI xs0] am_R0 h Q X := by
  obtain ⟨b0_1, k⟩ := k
  refine v_goto (tgt := 95) dX11_isSound_90 (by decide) ?_
  refine v_istore (E2 := [aR 72, aI x1, aI x2, aI x3, aI xs0, aI x5, aU, aU, aU]) dX11_isSound_95 (Nat.le_of_ble_eq_true rfl) rfl ?_
  refine v_iinc (E2 := [aR 72, aI x1, aI x2, aI x3, aI xs0, aI (x5 + 1), aU, aU, aU]) dX11_isSound_97 rfl b0_1 rfl ?_
  refine v_goto (tgt := 65) dX11_isSound_100 (by decide) ?_
  exact k
theorem S_X11_isSound_150 {kc ks : Nat} {h : Hh} {Q : PQ} {X : PX} {x1 : Int} {x2 : Int} {x3 : Int} {x5 : Int} {x6 : Int} {x7 : Int} {x8 : Int}
    (k : ((x3 ≤ x8 → ((x7 ≠ x5 → ((-2147483648 ≤ ((x2 + 1) : Int) ∧ ((x2 + 1) : Int) < 2147483648)) ∧ am_V M_X11_isSound kc ks 9 [aR 72, aI (Int32.ofInt x1 &&& Int32.ofInt 0).toInt, aI (x2 + 1), aU, aU, aU, aU, aU, aU] [] am_R0 h Q X) ∧ (x7 = x5 → ((-2147483648 ≤ ((x2 + 1) : Int) ∧ ((x2 + 1) : Int) < 2147483648)) ∧ am_V M_X11_isSound kc ks 9 [aR 72, aI (Int32.ofInt x1 &&& Int32.ofInt 1).toInt, aI (x2 + 1), aU, aU, aU, aU, aU, aU] [] am_R0 h Q X))) ∧ (x8 < x3 → am_V M_X11_rank 0 0 0 [aR 72, aI x2, aI x8, aU, aU] [] am_R0 h (fun v ρ' h' => am_V M_X11_isSound kc ks 163 [aR 72, aI x1, aI x2, aI x3, aU, aI x5, aI x6, aI x7, aI x8] (v ++ []) ρ' h' Q X) X))) :
    am_V M_X11_isSound kc ks 150 [aR 72, aI x1, aI x2, aI x3, aU, aI x5, aI x6, aI x7, aI x8] [] am_R0 h Q X := by
  refine v_iload dX11_isSound_150 rfl ?_
  refine v_iload_n dX11_isSound_152 rfl rfl ?_
  refine v_icmp_ge (tgt := 213) dX11_isSound_153 (by decide) (fun z => ?_) (fun z => ?_)
  · have k := k.1 z
    refine v_iload_n dX11_isSound_213 rfl rfl ?_
    refine v_iload dX11_isSound_214 rfl ?_
    refine v_iload dX11_isSound_216 rfl ?_
    refine v_icmp_ne (tgt := 225) dX11_isSound_218 (by decide) (fun z => ?_) (fun z => ?_)
    · have k := k.1 z
      obtain ⟨b2_1, k⟩ := k
      refine v_iconst dX11_isSound_225 ⟨by decide, by decide⟩ ?_
      refine v_iand dX11_isSound_226 ?_
      refine v_istore_n (E2 := [aR 72, aI (Int32.ofInt x1 &&& Int32.ofInt 0).toInt, aI x2, aI x3, aU, aI x5, aI x6, aI x7, aI x8]) dX11_isSound_227 rfl (Nat.le_of_ble_eq_true rfl) rfl ?_
      refine v_iinc (E2 := [aR 72, aI (Int32.ofInt x1 &&& Int32.ofInt 0).toInt, aI (x2 + 1), aI x3, aU, aI x5, aI x6, aI x7, aI x8]) dX11_isSound_228 rfl b2_1 rfl ?_
      refine v_goto (tgt := 9) dX11_isSound_231 (by decide) ?_
      refine v_weak (E2 := [aR 72, aI (Int32.ofInt x1 &&& Int32.ofInt 0).toInt, aI (x2 + 1), aU, aU, aU, aU, aU, aU]) ⟨Or.inl rfl, ⟨Or.inl rfl, ⟨Or.inl rfl, ⟨Or.inr rfl, ⟨Or.inl rfl, ⟨Or.inr rfl, ⟨Or.inr rfl, ⟨Or.inr rfl, ⟨Or.inr rfl, trivial⟩⟩⟩⟩⟩⟩⟩⟩⟩ ?_
      exact k
    · have k := k.2 z
      obtain ⟨b2_1, k⟩ := k
      refine v_iconst dX11_isSound_221 ⟨by decide, by decide⟩ ?_
      refine v_goto (tgt := 226) dX11_isSound_222 (by decide) ?_
      refine v_iand dX11_isSound_226 ?_
      refine v_istore_n (E2 := [aR 72, aI (Int32.ofInt x1 &&& Int32.ofInt 1).toInt, aI x2, aI x3, aU, aI x5, aI x6, aI x7, aI x8]) dX11_isSound_227 rfl (Nat.le_of_ble_eq_true rfl) rfl ?_
      refine v_iinc (E2 := [aR 72, aI (Int32.ofInt x1 &&& Int32.ofInt 1).toInt, aI (x2 + 1), aI x3, aU, aI x5, aI x6, aI x7, aI x8]) dX11_isSound_228 rfl b2_1 rfl ?_
      refine v_goto (tgt := 9) dX11_isSound_231 (by decide) ?_
      refine v_weak (E2 := [aR 72, aI (Int32.ofInt x1 &&& Int32.ofInt 1).toInt, aI (x2 + 1), aU, aU, aU, aU, aU, aU]) ⟨Or.inl rfl, ⟨Or.inl rfl, ⟨Or.inl rfl, ⟨Or.inr rfl, ⟨Or.inl rfl, ⟨Or.inr rfl, ⟨Or.inr rfl, ⟨Or.inr rfl, ⟨Or.inr rfl, trivial⟩⟩⟩⟩⟩⟩⟩⟩⟩ ?_
      exact k
  · have k := k.2 z
    refine v_aload_n dX11_isSound_156 rfl rfl ?_
    refine v_iload_n dX11_isSound_157 rfl rfl ?_
    refine v_iload dX11_isSound_158 rfl ?_
    exact v_callV (j := M_X11_rank) (As := [aI x2, aI x8]) (st := []) (E0 := [aR 72, aI x2, aI x8, aU, aU]) (a := 72) (ci := 9) (N := 11) (q9 := (RX11, TX11, 11)) dX11_isSound_160 ml_X11_78 J_X11_rank (Nat.zero_le _) (Nat.zero_le _) (Nat.le_of_ble_eq_true rfl) rfl (Nat.le_of_ble_eq_true rfl) (List.forall_mem_cons.mpr ⟨rfl, List.forall_mem_cons.mpr ⟨rfl, List.forall_mem_cons.mpr ⟨rfl, fun _ h9 => absurd h9 List.not_mem_nil⟩⟩⟩) (Nat.le_of_ble_eq_true rfl) rfl rfl rfl rfl pn_X11_rank rfl k
theorem S_X11_isSound_124 {kc ks : Nat} {h : Hh} {Q : PQ} {X : PX} {x2 : Int} {x3 : Int} {xs0 : Int} {xs1 : Int} {xs2 : Int}
    (k : ((xs1 ≠ xs0 → am_V M_X11_findParts 0 0 0 [aR 72, aI x2, aU, aU, aU] [] am_R0 h (fun v ρ' h' => am_V M_X11_isSound kc ks 139 [aR 72, aI (Int32.ofInt xs2 &&& Int32.ofInt 0).toInt, aI x2, aI x3, aU, aU, aU, aU, aU] (v ++ []) ρ' h' Q X) X) ∧ (xs1 = xs0 → am_V M_X11_findParts 0 0 0 [aR 72, aI x2, aU, aU, aU] [] am_R0 h (fun v ρ' h' => am_V M_X11_isSound kc ks 139 [aR 72, aI (Int32.ofInt xs2 &&& Int32.ofInt 1).toInt, aI x2, aI x3, aU, aU, aU, aU, aU] (v ++ []) ρ' h' Q X) X))) :
    am_V M_X11_isSound kc ks 124 [aR 72, aU, aI x2, aI x3, aU, aU, aU, aU, aU] [aI xs0, aI xs1, aI xs2] am_R0 h Q X := by
  refine v_icmp_ne (tgt := 131) dX11_isSound_124 (by decide) (fun z => ?_) (fun z => ?_)
  · have k := k.1 z
    refine v_iconst dX11_isSound_131 ⟨by decide, by decide⟩ ?_
    refine v_iand dX11_isSound_132 ?_
    refine v_istore_n (E2 := [aR 72, aI (Int32.ofInt xs2 &&& Int32.ofInt 0).toInt, aI x2, aI x3, aU, aU, aU, aU, aU]) dX11_isSound_133 rfl (Nat.le_of_ble_eq_true rfl) rfl ?_
    refine v_aload_n dX11_isSound_134 rfl rfl ?_
    refine v_iload_n dX11_isSound_135 rfl rfl ?_
    exact v_callV (j := M_X11_findParts) (As := [aI x2]) (st := []) (E0 := [aR 72, aI x2, aU, aU, aU]) (a := 72) (ci := 9) (N := 11) (q9 := (RX11, TX11, 11)) dX11_isSound_136 ml_X11_173 J_X11_findParts (Nat.zero_le _) (Nat.zero_le _) (Nat.le_of_ble_eq_true rfl) rfl (Nat.le_of_ble_eq_true rfl) (List.forall_mem_cons.mpr ⟨rfl, List.forall_mem_cons.mpr ⟨rfl, fun _ h9 => absurd h9 List.not_mem_nil⟩⟩) (Nat.le_of_ble_eq_true rfl) rfl rfl rfl rfl pn_X11_findParts rfl k
  · have k := k.2 z
    refine v_iconst dX11_isSound_127 ⟨by decide, by decide⟩ ?_
    refine v_goto (tgt := 132) dX11_isSound_128 (by decide) ?_
    refine v_iand dX11_isSound_132 ?_
    refine v_istore_n (E2 := [aR 72, aI (Int32.ofInt xs2 &&& Int32.ofInt 1).toInt, aI x2, aI x3, aU, aU, aU, aU, aU]) dX11_isSound_133 rfl (Nat.le_of_ble_eq_true rfl) rfl ?_
    refine v_aload_n dX11_isSound_134 rfl rfl ?_
    refine v_iload_n dX11_isSound_135 rfl rfl ?_
    exact v_callV (j := M_X11_findParts) (As := [aI x2]) (st := []) (E0 := [aR 72, aI x2, aU, aU, aU]) (a := 72) (ci := 9) (N := 11) (q9 := (RX11, TX11, 11)) dX11_isSound_136 ml_X11_173 J_X11_findParts (Nat.zero_le _) (Nat.zero_le _) (Nat.le_of_ble_eq_true rfl) rfl (Nat.le_of_ble_eq_true rfl) (List.forall_mem_cons.mpr ⟨rfl, List.forall_mem_cons.mpr ⟨rfl, fun _ h9 => absurd h9 List.not_mem_nil⟩⟩) (Nat.le_of_ble_eq_true rfl) rfl rfl rfl rfl pn_X11_findParts rfl k
theorem S_X11_isSound_163 {kc ks : Nat} {h : Hh} {Q : PQ} {X : PX} {x1 : Int} {x2 : Int} {x3 : Int} {x5 : Int} {x6 : Int} {x7 : Int} {x8 : Int} {xs0 : Int}
    (k : ((x6 ≤ xs0 → ((-2147483648 ≤ ((x8 + 1) : Int) ∧ ((x8 + 1) : Int) < 2147483648)) ∧ am_V M_X11_isSound kc ks 150 [aR 72, aI x1, aI x2, aI x3, aU, aI x5, aI x6, aI x7, aI (x8 + 1)] [] am_R0 h Q X) ∧ (xs0 < x6 → ((x5 ≤ x7 → am_V M_X11_rank 0 0 0 [aR 72, aI x2, aI x8, aU, aU] [] am_R0 h (fun v ρ' h' => am_V M_X11_isSound kc ks 202 [aR 72, aI (Int32.ofInt x1 &&& Int32.ofInt 0).toInt, aI x2, aI x3, aU, aI x5, aU, aI x7, aI x8] (v ++ []) ρ' h' Q X) X) ∧ (x7 < x5 → ((0 : Int) ≤ x7 ∧ (x7 : Int) < 65) ∧ (((h 79 x7) ≠ x8 → am_V M_X11_rank 0 0 0 [aR 72, aI x2, aI x8, aU, aU] [] am_R0 h (fun v ρ' h' => am_V M_X11_isSound kc ks 202 [aR 72, aI (Int32.ofInt x1 &&& Int32.ofInt 0).toInt, aI x2, aI x3, aU, aI x5, aU, aI x7, aI x8] (v ++ []) ρ' h' Q X) X) ∧ ((h 79 x7) = x8 → am_V M_X11_rank 0 0 0 [aR 72, aI x2, aI x8, aU, aU] [] am_R0 h (fun v ρ' h' => am_V M_X11_isSound kc ks 202 [aR 72, aI (Int32.ofInt x1 &&& Int32.ofInt 1).toInt, aI x2, aI x3, aU, aI x5, aU, aI x7, aI x8] (v ++ []) ρ' h' Q X) X))))))) :
    am_V M_X11_isSound kc ks 163 [aR 72, aI x1, aI x2, aI x3, aU, aI x5, aI x6, aI x7, aI x8] [aI xs0] am_R0 h Q X := by
  refine v_iload dX11_isSound_163 rfl ?_
  refine v_icmp_ge (tgt := 207) dX11_isSound_165 (by decide) (fun z => ?_) (fun z => ?_)
  · have k := k.1 z
    obtain ⟨b1_1, k⟩ := k
    refine v_iinc (E2 := [aR 72, aI x1, aI x2, aI x3, aU, aI x5, aI x6, aI x7, aI (x8 + 1)]) dX11_isSound_207 rfl b1_1 rfl ?_
    refine v_goto (tgt := 150) dX11_isSound_210 (by decide) ?_
    exact k
  · have k := k.2 z
    refine v_iload_n dX11_isSound_168 rfl rfl ?_
    refine v_iload dX11_isSound_169 rfl ?_
    refine v_iload dX11_isSound_171 rfl ?_
    refine v_icmp_ge (tgt := 192) dX11_isSound_173 (by decide) (fun z => ?_) (fun z => ?_)
    · have k := k.1 z
      refine v_iconst dX11_isSound_192 ⟨by decide, by decide⟩ ?_
      refine v_iand dX11_isSound_193 ?_
      refine v_istore_n (E2 := [aR 72, aI (Int32.ofInt x1 &&& Int32.ofInt 0).toInt, aI x2, aI x3, aU, aI x5, aI x6, aI x7, aI x8]) dX11_isSound_194 rfl (Nat.le_of_ble_eq_true rfl) rfl ?_
      refine v_aload_n dX11_isSound_195 rfl rfl ?_
      refine v_iload_n dX11_isSound_196 rfl rfl ?_
      refine v_iload dX11_isSound_197 rfl ?_
      refine v_weak (E2 := [aR 72, aI (Int32.ofInt x1 &&& Int32.ofInt 0).toInt, aI x2, aI x3, aU, aI x5, aU, aI x7, aI x8]) ⟨Or.inl rfl, ⟨Or.inl rfl, ⟨Or.inl rfl, ⟨Or.inl rfl, ⟨Or.inl rfl, ⟨Or.inl rfl, ⟨Or.inr rfl, ⟨Or.inl rfl, ⟨Or.inl rfl, trivial⟩⟩⟩⟩⟩⟩⟩⟩⟩ ?_
      exact v_callV (j := M_X11_rank) (As := [aI x2, aI x8]) (st := []) (E0 := [aR 72, aI x2, aI x8, aU, aU]) (a := 72) (ci := 9) (N := 11) (q9 := (RX11, TX11, 11)) dX11_isSound_199 ml_X11_78 J_X11_rank (Nat.zero_le _) (Nat.zero_le _) (Nat.le_of_ble_eq_true rfl) rfl (Nat.le_of_ble_eq_true rfl) (List.forall_mem_cons.mpr ⟨rfl, List.forall_mem_cons.mpr ⟨rfl, List.forall_mem_cons.mpr ⟨rfl, fun _ h9 => absurd h9 List.not_mem_nil⟩⟩⟩) (Nat.le_of_ble_eq_true rfl) rfl rfl rfl rfl pn_X11_rank rfl k
    · have k := k.2 z
      obtain ⟨⟨b2_1, b2_2⟩, k⟩ := k
      refine v_aload_n dX11_isSound_176 rfl rfl ?_
      refine v_getR (x := 79) dX11_isSound_177 fl_X11_29 am_clsA rfl rfl rfl ?_
      refine v_iload dX11_isSound_180 rfl ?_
      refine v_iald dX11_isSound_182 rfl b2_1 b2_2 ?_
      refine v_iload dX11_isSound_183 rfl ?_
      refine v_icmp_ne (tgt := 192) dX11_isSound_185 (by decide) (fun z => ?_) (fun z => ?_)
      · have k := k.1 z
        refine v_iconst dX11_isSound_192 ⟨by decide, by decide⟩ ?_
        refine v_iand dX11_isSound_193 ?_
        refine v_istore_n (E2 := [aR 72, aI (Int32.ofInt x1 &&& Int32.ofInt 0).toInt, aI x2, aI x3, aU, aI x5, aI x6, aI x7, aI x8]) dX11_isSound_194 rfl (Nat.le_of_ble_eq_true rfl) rfl ?_
        refine v_aload_n dX11_isSound_195 rfl rfl ?_
        refine v_iload_n dX11_isSound_196 rfl rfl ?_
        refine v_iload dX11_isSound_197 rfl ?_
        refine v_weak (E2 := [aR 72, aI (Int32.ofInt x1 &&& Int32.ofInt 0).toInt, aI x2, aI x3, aU, aI x5, aU, aI x7, aI x8]) ⟨Or.inl rfl, ⟨Or.inl rfl, ⟨Or.inl rfl, ⟨Or.inl rfl, ⟨Or.inl rfl, ⟨Or.inl rfl, ⟨Or.inr rfl, ⟨Or.inl rfl, ⟨Or.inl rfl, trivial⟩⟩⟩⟩⟩⟩⟩⟩⟩ ?_
        exact v_callV (j := M_X11_rank) (As := [aI x2, aI x8]) (st := []) (E0 := [aR 72, aI x2, aI x8, aU, aU]) (a := 72) (ci := 9) (N := 11) (q9 := (RX11, TX11, 11)) dX11_isSound_199 ml_X11_78 J_X11_rank (Nat.zero_le _) (Nat.zero_le _) (Nat.le_of_ble_eq_true rfl) rfl (Nat.le_of_ble_eq_true rfl) (List.forall_mem_cons.mpr ⟨rfl, List.forall_mem_cons.mpr ⟨rfl, List.forall_mem_cons.mpr ⟨rfl, fun _ h9 => absurd h9 List.not_mem_nil⟩⟩⟩) (Nat.le_of_ble_eq_true rfl) rfl rfl rfl rfl pn_X11_rank rfl k
      · have k := k.2 z
        refine v_iconst dX11_isSound_188 ⟨by decide, by decide⟩ ?_
        refine v_goto (tgt := 193) dX11_isSound_189 (by decide) ?_
        refine v_iand dX11_isSound_193 ?_
        refine v_istore_n (E2 := [aR 72, aI (Int32.ofInt x1 &&& Int32.ofInt 1).toInt, aI x2, aI x3, aU, aI x5, aI x6, aI x7, aI x8]) dX11_isSound_194 rfl (Nat.le_of_ble_eq_true rfl) rfl ?_
        refine v_aload_n dX11_isSound_195 rfl rfl ?_
        refine v_iload_n dX11_isSound_196 rfl rfl ?_
        refine v_iload dX11_isSound_197 rfl ?_
        refine v_weak (E2 := [aR 72, aI (Int32.ofInt x1 &&& Int32.ofInt 1).toInt, aI x2, aI x3, aU, aI x5, aU, aI x7, aI x8]) ⟨Or.inl rfl, ⟨Or.inl rfl, ⟨Or.inl rfl, ⟨Or.inl rfl, ⟨Or.inl rfl, ⟨Or.inl rfl, ⟨Or.inr rfl, ⟨Or.inl rfl, ⟨Or.inl rfl, trivial⟩⟩⟩⟩⟩⟩⟩⟩⟩ ?_
        exact v_callV (j := M_X11_rank) (As := [aI x2, aI x8]) (st := []) (E0 := [aR 72, aI x2, aI x8, aU, aU]) (a := 72) (ci := 9) (N := 11) (q9 := (RX11, TX11, 11)) dX11_isSound_199 ml_X11_78 J_X11_rank (Nat.zero_le _) (Nat.zero_le _) (Nat.le_of_ble_eq_true rfl) rfl (Nat.le_of_ble_eq_true rfl) (List.forall_mem_cons.mpr ⟨rfl, List.forall_mem_cons.mpr ⟨rfl, List.forall_mem_cons.mpr ⟨rfl, fun _ h9 => absurd h9 List.not_mem_nil⟩⟩⟩) (Nat.le_of_ble_eq_true rfl) rfl rfl rfl rfl pn_X11_rank rfl k
theorem S_X11_isSound_202 {kc ks : Nat} {h : Hh} {Q : PQ} {X : PX} {x1 : Int} {x2 : Int} {x3 : Int} {x5 : Int} {x7 : Int} {x8 : Int} {xs0 : Int}
    (k : ((-2147483648 ≤ ((x7 + 1) : Int) ∧ ((x7 + 1) : Int) < 2147483648) ∧ (-2147483648 ≤ ((x8 + 1) : Int) ∧ ((x8 + 1) : Int) < 2147483648)) ∧ am_V M_X11_isSound kc ks 150 [aR 72, aI x1, aI x2, aI x3, aU, aI x5, aI xs0, aI (x7 + 1), aI (x8 + 1)] [] am_R0 h Q X) :
    am_V M_X11_isSound kc ks 202 [aR 72, aI x1, aI x2, aI x3, aU, aI x5, aU, aI x7, aI x8] [aI xs0] am_R0 h Q X := by
  obtain ⟨⟨b0_1, b0_2⟩, k⟩ := k
  refine v_istore (E2 := [aR 72, aI x1, aI x2, aI x3, aU, aI x5, aI xs0, aI x7, aI x8]) dX11_isSound_202 (Nat.le_of_ble_eq_true rfl) rfl ?_
  refine v_iinc (E2 := [aR 72, aI x1, aI x2, aI x3, aU, aI x5, aI xs0, aI (x7 + 1), aI x8]) dX11_isSound_204 rfl b0_1 rfl ?_
  refine v_iinc (E2 := [aR 72, aI x1, aI x2, aI x3, aU, aI x5, aI xs0, aI (x7 + 1), aI (x8 + 1)]) dX11_isSound_207 rfl b0_2 rfl ?_
  refine v_goto (tgt := 150) dX11_isSound_210 (by decide) ?_
  exact k
