variable {WM : List (Nat × Nat)} {wd : Bool}
theorem S_law_7 {kc ks : Nat} {h : Hh} {Q : PQ} {X : PX} 
    (k : (1 ≤ kc ∧ 64 ≤ ks) ∧ am_V M_L_signs 1 64 0 [aR 1000, aU, aU, aU, aU, aU] [] (RM WM wd) h (fun v ρ' h' => am_V M_L_law (kc - 1) (ks - 64) 12 [aR 1000, aR 0, aU, aU, aU, aU, aU, aU, aU, aU, aU, aU, aU, aU, aU, aU] (v ++ []) ρ' h' Q X) X) :
    am_V M_L_law kc ks 7 [aR 1000, aU, aU, aU, aU, aU, aU, aU, aU, aU, aU, aU, aU, aU, aU, aU] [aR 0] (RM WM wd) h Q X := by
  obtain ⟨⟨b0_1, b0_2⟩, k⟩ := k
  refine v_astore_n (E2 := [aR 1000, aR 0, aU, aU, aU, aU, aU, aU, aU, aU, aU, aU, aU, aU, aU, aU]) dL_law_7 rfl (Nat.le_of_ble_eq_true rfl) rfl ?_
  refine v_aload_n dL_law_8 rfl rfl ?_
  exact v_callS (j := M_L_signs) (As := [aR 1000]) (st := []) (E0 := [aR 1000, aU, aU, aU, aU, aU]) dL_law_9 ms_L_209 J_L_signs b0_1 b0_2 (Nat.le_of_ble_eq_true rfl) rfl (Nat.le_of_ble_eq_true rfl) (List.forall_mem_cons.mpr ⟨rfl, fun _ h9 => absurd h9 List.not_mem_nil⟩) (Nat.le_of_ble_eq_true rfl) rfl pn_L_signs rfl k
theorem S_law_12 {kc ks : Nat} {h : Hh} {Q : PQ} {X : PX} {as0 ns0 : Nat} (qs0 : (RM WM wd).1[as0]? = some (1, ns0))
    (k : ((-2147483648 ≤ ((ns0 : Nat) : Int) ∧ ((ns0 : Nat) : Int) < 2147483648) ∧ 400 ≤ kc ∧ 2400 ≤ ks) ∧ am_V M_L_tells 400 2400 0 [aR 0, aR as0, aU, aU, aU, aU] [] (RM WM wd) h (fun v ρ' h' => am_V M_L_law (kc - 400) (ks - 2400) 21 [aR 1000, aR 0, aR as0, aI ((ns0 : Nat) : Int), aU, aU, aU, aU, aU, aU, aU, aU, aU, aU, aU, aU] (v ++ []) ρ' h' Q X) X) :
    am_V M_L_law kc ks 12 [aR 1000, aR 0, aU, aU, aU, aU, aU, aU, aU, aU, aU, aU, aU, aU, aU, aU] [aR as0] (RM WM wd) h Q X := by
  obtain ⟨⟨b0_1, b0_2, b0_3⟩, k⟩ := k
  refine v_astore_n (E2 := [aR 1000, aR 0, aR as0, aU, aU, aU, aU, aU, aU, aU, aU, aU, aU, aU, aU, aU]) dL_law_12 rfl (Nat.le_of_ble_eq_true rfl) rfl ?_
  refine v_aload_n dL_law_13 rfl rfl ?_
  refine v_alen (N := ((ns0 : Nat) : Int)) dL_law_14 qs0 (by decide) rfl b0_1 ?_
  refine v_istore_n (E2 := [aR 1000, aR 0, aR as0, aI ((ns0 : Nat) : Int), aU, aU, aU, aU, aU, aU, aU, aU, aU, aU, aU, aU]) dL_law_15 rfl (Nat.le_of_ble_eq_true rfl) rfl ?_
  refine v_aload_n dL_law_16 rfl rfl ?_
  refine v_aload_n dL_law_17 rfl rfl ?_
  exact v_callS (j := M_L_tells) (As := [aR 0, aR as0]) (st := []) (E0 := [aR 0, aR as0, aU, aU, aU, aU]) dL_law_18 ms_L_213 J_L_tells b0_2 b0_3 (Nat.le_of_ble_eq_true rfl) rfl (Nat.le_of_ble_eq_true rfl) (List.forall_mem_cons.mpr ⟨rfl, List.forall_mem_cons.mpr ⟨rfl, fun _ h9 => absurd h9 List.not_mem_nil⟩⟩) (Nat.le_of_ble_eq_true rfl) rfl pn_L_tells rfl k
theorem S_law_21 {kc ks : Nat} {h : Hh} {Q : PQ} {X : PX} {a2 n2 : Nat} (q2 : (RM WM wd).1[a2]? = some (1, n2)) {x3 : Int} {xs0 : Int}
    (k : ((xs0 ≠ 0 → am_V M_L_law kc ks 38 [aU, aU, aU, aU, aU, aU, aU, aU, aU, aU, aU, aU, aU, aU, aU, aU] [] (RM WM wd) h Q X) ∧ (xs0 = 0 → (4002 ≤ kc ∧ 24300 ≤ ks) ∧ am_V M_L_comesBack 4002 24300 0 [aR 0, aI xs0, aR a2, aU, aU, aU, aU, aU, aU, aU] [] (RM WM wd) h (fun v ρ' h' => am_V M_L_law (kc - 4002) (ks - 24300) 35 [aR 1000, aR 0, aR a2, aI x3, aU, aU, aU, aU, aU, aU, aU, aU, aU, aU, aU, aU] (v ++ []) ρ' h' Q X) X))) :
    am_V M_L_law kc ks 21 [aR 1000, aR 0, aR a2, aI x3, aU, aU, aU, aU, aU, aU, aU, aU, aU, aU, aU, aU] [aI xs0] (RM WM wd) h Q X := by
  refine v_istore (E2 := [aR 1000, aR 0, aR a2, aI x3, aI xs0, aU, aU, aU, aU, aU, aU, aU, aU, aU, aU, aU]) dL_law_21 (Nat.le_of_ble_eq_true rfl) rfl ?_
  refine v_iload dL_law_23 rfl ?_
  refine v_if_ne (tgt := 38) dL_law_25 (by decide) (fun z => ?_) (fun z => ?_)
  · have k := k.1 z
    refine v_weak (E2 := [aU, aU, aU, aU, aU, aU, aU, aU, aU, aU, aU, aU, aU, aU, aU, aU]) ⟨Or.inr rfl, ⟨Or.inr rfl, ⟨Or.inr rfl, ⟨Or.inr rfl, ⟨Or.inr rfl, ⟨Or.inl rfl, ⟨Or.inl rfl, ⟨Or.inl rfl, ⟨Or.inl rfl, ⟨Or.inl rfl, ⟨Or.inl rfl, ⟨Or.inl rfl, ⟨Or.inl rfl, ⟨Or.inl rfl, ⟨Or.inl rfl, ⟨Or.inl rfl, trivial⟩⟩⟩⟩⟩⟩⟩⟩⟩⟩⟩⟩⟩⟩⟩⟩ ?_
    exact k
  · have k := k.2 z
    obtain ⟨⟨b1_1, b1_2⟩, k⟩ := k
    refine v_aload_n dL_law_28 rfl rfl ?_
    refine v_iload dL_law_29 rfl ?_
    refine v_aload_n dL_law_31 rfl rfl ?_
    refine v_weak (E2 := [aR 1000, aR 0, aR a2, aI x3, aU, aU, aU, aU, aU, aU, aU, aU, aU, aU, aU, aU]) ⟨Or.inl rfl, ⟨Or.inl rfl, ⟨Or.inl rfl, ⟨Or.inl rfl, ⟨Or.inr rfl, ⟨Or.inl rfl, ⟨Or.inl rfl, ⟨Or.inl rfl, ⟨Or.inl rfl, ⟨Or.inl rfl, ⟨Or.inl rfl, ⟨Or.inl rfl, ⟨Or.inl rfl, ⟨Or.inl rfl, ⟨Or.inl rfl, ⟨Or.inl rfl, trivial⟩⟩⟩⟩⟩⟩⟩⟩⟩⟩⟩⟩⟩⟩⟩⟩ ?_
    exact v_callS (j := M_L_comesBack) (As := [aR 0, aI xs0, aR a2]) (st := []) (E0 := [aR 0, aI xs0, aR a2, aU, aU, aU, aU, aU, aU, aU]) dL_law_32 ms_L_217 J_L_comesBack b1_1 b1_2 (Nat.le_of_ble_eq_true rfl) rfl (Nat.le_of_ble_eq_true rfl) (List.forall_mem_cons.mpr ⟨rfl, List.forall_mem_cons.mpr ⟨rfl, List.forall_mem_cons.mpr ⟨rfl, fun _ h9 => absurd h9 List.not_mem_nil⟩⟩⟩) (Nat.le_of_ble_eq_true rfl) rfl pn_L_comesBack rfl k
theorem S_law_35 {kc ks : Nat} {h : Hh} {Q : PQ} {X : PX} {a2 n2 : Nat} (q2 : (RM WM wd).1[a2]? = some (1, n2)) {x3 : Int} {xs0 : Int}
    (k : ((xs0 ≠ 0 → am_V M_L_law kc ks 49 [aR 1000, aR 0, aR a2, aI x3, aU, aL 0, aU, aL 0, aU, aI 0, aU, aU, aU, aU, aU, aU] [] (RM WM wd) h Q X) ∧ (xs0 = 0 → am_V M_L_law kc ks 38 [aU, aU, aU, aU, aU, aU, aU, aU, aU, aU, aU, aU, aU, aU, aU, aU] [] (RM WM wd) h Q X))) :
    am_V M_L_law kc ks 35 [aR 1000, aR 0, aR a2, aI x3, aU, aU, aU, aU, aU, aU, aU, aU, aU, aU, aU, aU] [aI xs0] (RM WM wd) h Q X := by
  refine v_if_ne (tgt := 40) dL_law_35 (by decide) (fun z => ?_) (fun z => ?_)
  · have k := k.1 z
    refine v_lconst (x := 0) dL_law_40 rfl ?_
    refine v_lstore (E2 := [aR 1000, aR 0, aR a2, aI x3, aU, aL 0, aU, aU, aU, aU, aU, aU, aU, aU, aU, aU]) dL_law_41 (Nat.le_of_ble_eq_true rfl) rfl ?_
    refine v_lconst (x := 0) dL_law_43 rfl ?_
    refine v_lstore (E2 := [aR 1000, aR 0, aR a2, aI x3, aU, aL 0, aU, aL 0, aU, aU, aU, aU, aU, aU, aU, aU]) dL_law_44 (Nat.le_of_ble_eq_true rfl) rfl ?_
    refine v_iconst dL_law_46 ⟨by decide, by decide⟩ ?_
    refine v_istore (E2 := [aR 1000, aR 0, aR a2, aI x3, aU, aL 0, aU, aL 0, aU, aI 0, aU, aU, aU, aU, aU, aU]) dL_law_47 (Nat.le_of_ble_eq_true rfl) rfl ?_
    exact k
  · have k := k.2 z
    refine v_weak (E2 := [aU, aU, aU, aU, aU, aU, aU, aU, aU, aU, aU, aU, aU, aU, aU, aU]) ⟨Or.inr rfl, ⟨Or.inr rfl, ⟨Or.inr rfl, ⟨Or.inr rfl, ⟨Or.inl rfl, ⟨Or.inl rfl, ⟨Or.inl rfl, ⟨Or.inl rfl, ⟨Or.inl rfl, ⟨Or.inl rfl, ⟨Or.inl rfl, ⟨Or.inl rfl, ⟨Or.inl rfl, ⟨Or.inl rfl, ⟨Or.inl rfl, ⟨Or.inl rfl, trivial⟩⟩⟩⟩⟩⟩⟩⟩⟩⟩⟩⟩⟩⟩⟩⟩ ?_
    exact k
theorem S_law_38 {kc ks : Nat} {h : Hh} {Q : PQ} {X : PX} 
    (k : Q [aI 0] (RM WM wd) h) :
    am_V M_L_law kc ks 38 [aU, aU, aU, aU, aU, aU, aU, aU, aU, aU, aU, aU, aU, aU, aU, aU] [] (RM WM wd) h Q X := by
  refine v_iconst dL_law_38 ⟨by decide, by decide⟩ ?_
  exact v_lawret dL_law_39 rfl k
theorem S_law_49 {kc ks : Nat} {h : Hh} {Q : PQ} {X : PX} {a2 n2 : Nat} (q2 : (RM WM wd).1[a2]? = some (1, n2)) {x3 : Int} {x5 : Int} {x7 : Int} {x9 : Int}
    (k : ((x3 ≤ x9 → (1 ≤ kc ∧ 6 ≤ ks) ∧ am_V M_L_words 1 6 0 [aR 0, aI 0, aU] [] (RM WM wd) h (fun v ρ' h' => am_V M_L_law (kc - 1) (ks - 6) 128 [aR 1000, aR 0, aR a2, aI x3, aU, aL x5, aU, aL x7, aU, aU, aU, aU, aU, aU, aU, aU] (v ++ []) ρ' h' Q X) X) ∧ (x9 < x3 → (2 ≤ kc ∧ 12 ≤ ks) ∧ am_V M_L_common 2 12 0 [aR 0, aI 0, aI x9, aU] [] (RM WM wd) h (fun v ρ' h' => am_V M_L_law (kc - 2) (ks - 12) 62 [aR 1000, aR 0, aR a2, aI x3, aU, aL x5, aU, aL x7, aU, aI x9, aU, aU, aU, aU, aU, aU] (v ++ []) ρ' h' Q X) X))) :
    am_V M_L_law kc ks 49 [aR 1000, aR 0, aR a2, aI x3, aU, aL x5, aU, aL x7, aU, aI x9, aU, aU, aU, aU, aU, aU] [] (RM WM wd) h Q X := by
  refine v_iload dL_law_49 rfl ?_
  refine v_iload_n dL_law_51 rfl rfl ?_
  refine v_icmp_ge (tgt := 123) dL_law_52 (by decide) (fun z => ?_) (fun z => ?_)
  · have k := k.1 z
    obtain ⟨⟨b1_1, b1_2⟩, k⟩ := k
    refine v_aload_n dL_law_123 rfl rfl ?_
    refine v_iconst dL_law_124 ⟨by decide, by decide⟩ ?_
    refine v_weak (E2 := [aR 1000, aR 0, aR a2, aI x3, aU, aL x5, aU, aL x7, aU, aU, aU, aU, aU, aU, aU, aU]) ⟨Or.inl rfl, ⟨Or.inl rfl, ⟨Or.inl rfl, ⟨Or.inl rfl, ⟨Or.inl rfl, ⟨Or.inl rfl, ⟨Or.inl rfl, ⟨Or.inl rfl, ⟨Or.inl rfl, ⟨Or.inr rfl, ⟨Or.inl rfl, ⟨Or.inl rfl, ⟨Or.inl rfl, ⟨Or.inl rfl, ⟨Or.inl rfl, ⟨Or.inl rfl, trivial⟩⟩⟩⟩⟩⟩⟩⟩⟩⟩⟩⟩⟩⟩⟩⟩ ?_
    exact v_callSX (j := M_L_words) (As := [aR 0, aI 0]) (st := []) (E0 := [aR 0, aI 0, aU]) dL_law_125 ms_L_206 J_L_words b1_1 b1_2 (Nat.le_of_ble_eq_true rfl) rfl (Nat.le_of_ble_eq_true rfl) (List.forall_mem_cons.mpr ⟨rfl, List.forall_mem_cons.mpr ⟨rfl, fun _ h9 => absurd h9 List.not_mem_nil⟩⟩) (Nat.le_of_ble_eq_true rfl) rfl pn_L_words rfl k
  · have k := k.2 z
    obtain ⟨⟨b1_1, b1_2⟩, k⟩ := k
    refine v_aload_n dL_law_55 rfl rfl ?_
    refine v_iconst dL_law_56 ⟨by decide, by decide⟩ ?_
    refine v_iload dL_law_57 rfl ?_
    exact v_callSX (j := M_L_common) (As := [aR 0, aI 0, aI x9]) (st := []) (E0 := [aR 0, aI 0, aI x9, aU]) dL_law_59 ms_L_221 J_L_common b1_1 b1_2 (Nat.le_of_ble_eq_true rfl) rfl (Nat.le_of_ble_eq_true rfl) (List.forall_mem_cons.mpr ⟨rfl, List.forall_mem_cons.mpr ⟨rfl, List.forall_mem_cons.mpr ⟨rfl, fun _ h9 => absurd h9 List.not_mem_nil⟩⟩⟩) (Nat.le_of_ble_eq_true rfl) rfl pn_L_common rfl k
theorem S_law_62 {kc ks : Nat} {h : Hh} {Q : PQ} {X : PX} {a2 n2 : Nat} (q2 : (RM WM wd).1[a2]? = some (1, n2)) {x3 : Int} {x5 : Int} {x7 : Int} {x9 : Int} {xs0 : Int}
    (k : ((x9 ≤ 0 → am_V M_L_law kc ks 117 [aR 1000, aR 0, aR a2, aI x3, aU, aL ((x5 + xs0).bmod (2 ^ 64)), aU, aL (max x7 xs0), aU, aI x9, aU, aU, aU, aU, aU, aU] [] (RM WM wd) h Q X) ∧ (0 < x9 → ((-2147483648 ≤ ((x9 - 1) : Int) ∧ ((x9 - 1) : Int) < 2147483648) ∧ 2 ≤ kc ∧ 12 ≤ ks) ∧ am_V M_L_endAt 2 12 0 [aR 0, aI 0, aI (x9 - 1), aU] [] (RM WM wd) h (fun v ρ' h' => am_V M_L_law (kc - 2) (ks - 12) 98 [aR 1000, aR 0, aR a2, aI x3, aU, aL ((x5 + xs0).bmod (2 ^ 64)), aU, aL (max x7 xs0), aU, aI x9, aU, aU, aU, aU, aU, aU] (v ++ [aI 0, aR 0, aL xs0]) ρ' h' Q X) X))) :
    am_V M_L_law kc ks 62 [aR 1000, aR 0, aR a2, aI x3, aU, aL x5, aU, aL x7, aU, aI x9, aU, aU, aU, aU, aU, aU] [aL xs0] (RM WM wd) h Q X := by
  refine v_lstore (E2 := [aR 1000, aR 0, aR a2, aI x3, aU, aL x5, aU, aL x7, aU, aI x9, aL xs0, aU, aU, aU, aU, aU]) dL_law_62 (Nat.le_of_ble_eq_true rfl) rfl ?_
  refine v_lload dL_law_64 rfl ?_
  refine v_lload dL_law_66 rfl ?_
  refine v_ladd dL_law_68 ?_
  refine v_lstore (E2 := [aR 1000, aR 0, aR a2, aI x3, aU, aL ((x5 + xs0).bmod (2 ^ 64)), aU, aL x7, aU, aI x9, aL xs0, aU, aU, aU, aU, aU]) dL_law_69 (Nat.le_of_ble_eq_true rfl) rfl ?_
  refine v_lload dL_law_71 rfl ?_
  refine v_lload dL_law_73 rfl ?_
  refine v_mmaxL dL_law_75 mm_L_223 (by decide) (Nat.le_of_ble_eq_true rfl) ?_
  refine v_lstore (E2 := [aR 1000, aR 0, aR a2, aI x3, aU, aL ((x5 + xs0).bmod (2 ^ 64)), aU, aL (max x7 xs0), aU, aI x9, aL xs0, aU, aU, aU, aU, aU]) dL_law_78 (Nat.le_of_ble_eq_true rfl) rfl ?_
  refine v_iload dL_law_80 rfl ?_
  refine v_if_le (tgt := 117) dL_law_82 (by decide) (fun z => ?_) (fun z => ?_)
  · have k := k.1 z
    refine v_weak (E2 := [aR 1000, aR 0, aR a2, aI x3, aU, aL ((x5 + xs0).bmod (2 ^ 64)), aU, aL (max x7 xs0), aU, aI x9, aU, aU, aU, aU, aU, aU]) ⟨Or.inl rfl, ⟨Or.inl rfl, ⟨Or.inl rfl, ⟨Or.inl rfl, ⟨Or.inl rfl, ⟨Or.inl rfl, ⟨Or.inl rfl, ⟨Or.inl rfl, ⟨Or.inl rfl, ⟨Or.inl rfl, ⟨Or.inr rfl, ⟨Or.inl rfl, ⟨Or.inl rfl, ⟨Or.inl rfl, ⟨Or.inl rfl, ⟨Or.inl rfl, trivial⟩⟩⟩⟩⟩⟩⟩⟩⟩⟩⟩⟩⟩⟩⟩⟩ ?_
    exact k
  · have k := k.2 z
    obtain ⟨⟨b1_1, b1_2, b1_3⟩, k⟩ := k
    refine v_lload dL_law_85 rfl ?_
    refine v_aload_n dL_law_87 rfl rfl ?_
    refine v_iconst dL_law_88 ⟨by decide, by decide⟩ ?_
    refine v_aload_n dL_law_89 rfl rfl ?_
    refine v_iconst dL_law_90 ⟨by decide, by decide⟩ ?_
    refine v_iload dL_law_91 rfl ?_
    refine v_iconst dL_law_93 ⟨by decide, by decide⟩ ?_
    refine v_isub dL_law_94 b1_1 ?_
    refine v_weak (E2 := [aR 1000, aR 0, aR a2, aI x3, aU, aL ((x5 + xs0).bmod (2 ^ 64)), aU, aL (max x7 xs0), aU, aI x9, aU, aU, aU, aU, aU, aU]) ⟨Or.inl rfl, ⟨Or.inl rfl, ⟨Or.inl rfl, ⟨Or.inl rfl, ⟨Or.inl rfl, ⟨Or.inl rfl, ⟨Or.inl rfl, ⟨Or.inl rfl, ⟨Or.inl rfl, ⟨Or.inl rfl, ⟨Or.inr rfl, ⟨Or.inl rfl, ⟨Or.inl rfl, ⟨Or.inl rfl, ⟨Or.inl rfl, ⟨Or.inl rfl, trivial⟩⟩⟩⟩⟩⟩⟩⟩⟩⟩⟩⟩⟩⟩⟩⟩ ?_
    exact v_callSX (j := M_L_endAt) (As := [aR 0, aI 0, aI (x9 - 1)]) (st := [aI 0, aR 0, aL xs0]) (E0 := [aR 0, aI 0, aI (x9 - 1), aU]) dL_law_95 ms_L_229 J_L_endAt b1_2 b1_3 (Nat.le_of_ble_eq_true rfl) rfl (Nat.le_of_ble_eq_true rfl) (List.forall_mem_cons.mpr ⟨rfl, List.forall_mem_cons.mpr ⟨rfl, List.forall_mem_cons.mpr ⟨rfl, fun _ h9 => absurd h9 List.not_mem_nil⟩⟩⟩) (Nat.le_of_ble_eq_true rfl) rfl pn_L_endAt rfl k
theorem S_law_98 {kc ks : Nat} {h : Hh} {Q : PQ} {X : PX} {a2 n2 : Nat} (q2 : (RM WM wd).1[a2]? = some (1, n2)) {x3 : Int} {x5 : Int} {x7 : Int} {x9 : Int} {xs0 : Int} {xs1 : Int} {xs3 : Int}
    (k : ((-2147483648 ≤ (xs0 : Int) ∧ (xs0 : Int) < 2147483648) ∧ 2 ≤ kc ∧ 12 ≤ ks) ∧ am_V M_L_endAt 2 12 0 [aR 0, aI 0, aI x9, aU] [] (RM WM wd) h (fun v ρ' h' => am_V M_L_law (kc - 2) (ks - 12) 107 [aR 1000, aR 0, aR a2, aI x3, aU, aL x5, aU, aL x7, aU, aI x9, aU, aU, aU, aU, aU, aU] (v ++ [aI 0, aI xs0, aI xs1, aR 0, aL xs3]) ρ' h' Q X) X) :
    am_V M_L_law kc ks 98 [aR 1000, aR 0, aR a2, aI x3, aU, aL x5, aU, aL x7, aU, aI x9, aU, aU, aU, aU, aU, aU] [aL xs0, aI xs1, aR 0, aL xs3] (RM WM wd) h Q X := by
  obtain ⟨⟨b0_1, b0_2, b0_3⟩, k⟩ := k
  refine v_l2i dL_law_98 b0_1 ?_
  refine v_iconst dL_law_99 ⟨by decide, by decide⟩ ?_
  refine v_aload_n dL_law_100 rfl rfl ?_
  refine v_iconst dL_law_101 ⟨by decide, by decide⟩ ?_
  refine v_iload dL_law_102 rfl ?_
  exact v_callSX (j := M_L_endAt) (As := [aR 0, aI 0, aI x9]) (st := [aI 0, aI xs0, aI xs1, aR 0, aL xs3]) (E0 := [aR 0, aI 0, aI x9, aU]) dL_law_104 ms_L_229 J_L_endAt b0_2 b0_3 (Nat.le_of_ble_eq_true rfl) rfl (Nat.le_of_ble_eq_true rfl) (List.forall_mem_cons.mpr ⟨rfl, List.forall_mem_cons.mpr ⟨rfl, List.forall_mem_cons.mpr ⟨rfl, fun _ h9 => absurd h9 List.not_mem_nil⟩⟩⟩) (Nat.le_of_ble_eq_true rfl) rfl pn_L_endAt rfl k
theorem S_law_107 {kc ks : Nat} {h : Hh} {Q : PQ} {X : PX} {a2 n2 : Nat} (q2 : (RM WM wd).1[a2]? = some (1, n2)) {x3 : Int} {x5 : Int} {x7 : Int} {x9 : Int} {xs0 : Int} {xs1 : Int} {xs2 : Int} {xs3 : Int} {xs5 : Int}
    (k : ((-2147483648 ≤ (xs0 : Int) ∧ (xs0 : Int) < 2147483648) ∧ 4 ≤ kc ∧ 24 ≤ ks) ∧ am_V M_L_shared 4 24 0 [aR 0, aI xs3, aI xs2, aI xs1, aI xs0, aU] [] (RM WM wd) h (fun v ρ' h' => am_V M_L_law (kc - 4) (ks - 24) 111 [aR 1000, aR 0, aR a2, aI x3, aU, aL x5, aU, aL x7, aU, aI x9, aU, aU, aU, aU, aU, aU] (v ++ [aL xs5]) ρ' h' Q X) X) :
    am_V M_L_law kc ks 107 [aR 1000, aR 0, aR a2, aI x3, aU, aL x5, aU, aL x7, aU, aI x9, aU, aU, aU, aU, aU, aU] [aL xs0, aI xs1, aI xs2, aI xs3, aR 0, aL xs5] (RM WM wd) h Q X := by
  obtain ⟨⟨b0_1, b0_2, b0_3⟩, k⟩ := k
  refine v_l2i dL_law_107 b0_1 ?_
  exact v_callSX (j := M_L_shared) (As := [aR 0, aI xs3, aI xs2, aI xs1, aI xs0]) (st := [aL xs5]) (E0 := [aR 0, aI xs3, aI xs2, aI xs1, aI xs0, aU]) dL_law_108 ms_L_231 J_L_shared b0_2 b0_3 (Nat.le_of_ble_eq_true rfl) rfl (Nat.le_of_ble_eq_true rfl) (List.forall_mem_cons.mpr ⟨rfl, List.forall_mem_cons.mpr ⟨rfl, List.forall_mem_cons.mpr ⟨rfl, List.forall_mem_cons.mpr ⟨rfl, List.forall_mem_cons.mpr ⟨rfl, fun _ h9 => absurd h9 List.not_mem_nil⟩⟩⟩⟩⟩) (Nat.le_of_ble_eq_true rfl) rfl pn_L_shared rfl k
theorem S_law_111 {kc ks : Nat} {h : Hh} {Q : PQ} {X : PX} {a2 n2 : Nat} (q2 : (RM WM wd).1[a2]? = some (1, n2)) {x3 : Int} {x5 : Int} {x7 : Int} {x9 : Int} {xs0 : Int} {xs1 : Int}
    (k : (((if xs0 < xs1 then 1 else if xs1 = xs0 then 0 else -1) = 0 → am_V M_L_law kc ks 117 [aR 1000, aR 0, aR a2, aI x3, aU, aL x5, aU, aL x7, aU, aI x9, aU, aU, aU, aU, aU, aU] [] (RM WM wd) h Q X) ∧ ((if xs0 < xs1 then 1 else if xs1 = xs0 then 0 else -1) ≠ 0 → Q [aI 0] (RM WM wd) h))) :
    am_V M_L_law kc ks 111 [aR 1000, aR 0, aR a2, aI x3, aU, aL x5, aU, aL x7, aU, aI x9, aU, aU, aU, aU, aU, aU] [aL xs0, aL xs1] (RM WM wd) h Q X := by
  refine v_lcmp dL_law_111 ?_
  refine v_if_eq (tgt := 117) dL_law_112 (by decide) (fun z => ?_) (fun z => ?_)
  · have k := k.1 z
    exact k
  · have k := k.2 z
    refine v_iconst dL_law_115 ⟨by decide, by decide⟩ ?_
    exact v_lawret dL_law_116 rfl k
theorem S_law_117 {kc ks : Nat} {h : Hh} {Q : PQ} {X : PX} {a2 n2 : Nat} (q2 : (RM WM wd).1[a2]? = some (1, n2)) {x3 : Int} {x5 : Int} {x7 : Int} {x9 : Int}
    (k : ((-2147483648 ≤ ((x9 + 1) : Int) ∧ ((x9 + 1) : Int) < 2147483648)) ∧ am_V M_L_law kc ks 49 [aR 1000, aR 0, aR a2, aI x3, aU, aL x5, aU, aL x7, aU, aI (x9 + 1), aU, aU, aU, aU, aU, aU] [] (RM WM wd) h Q X) :
    am_V M_L_law kc ks 117 [aR 1000, aR 0, aR a2, aI x3, aU, aL x5, aU, aL x7, aU, aI x9, aU, aU, aU, aU, aU, aU] [] (RM WM wd) h Q X := by
  obtain ⟨b0_1, k⟩ := k
  refine v_iinc (E2 := [aR 1000, aR 0, aR a2, aI x3, aU, aL x5, aU, aL x7, aU, aI (x9 + 1), aU, aU, aU, aU, aU, aU]) dL_law_117 rfl b0_1 rfl ?_
  refine v_goto (tgt := 49) dL_law_120 (by decide) ?_
  exact k
theorem S_law_128 {kc ks : Nat} {h : Hh} {Q : PQ} {X : PX} {a2 n2 : Nat} (q2 : (RM WM wd).1[a2]? = some (1, n2)) {x3 : Int} {x5 : Int} {x7 : Int} {xs0 : Int}
    (k : ((0 : Int) ≤ ((x3 * ((x3 + 1).bmod (2 ^ 64))).bmod (2 ^ 64)) ∧ (0 : Int) < 2) ∧ (((if (((((x3 * ((x3 + 1).bmod (2 ^ 64))).bmod (2 ^ 64)) / 2) - x5).bmod (2 ^ 64)) < xs0 then 1 else if xs0 = (((((x3 * ((x3 + 1).bmod (2 ^ 64))).bmod (2 ^ 64)) / 2) - x5).bmod (2 ^ 64)) then 0 else -1) ≠ 0 → am_V M_L_law kc ks 187 [aU, aU, aU, aU, aU, aU, aU, aU, aU, aU, aU, aU, aU, aU, aU, aU] [] (RM WM wd) h Q X) ∧ ((if (((((x3 * ((x3 + 1).bmod (2 ^ 64))).bmod (2 ^ 64)) / 2) - x5).bmod (2 ^ 64)) < xs0 then 1 else if xs0 = (((((x3 * ((x3 + 1).bmod (2 ^ 64))).bmod (2 ^ 64)) / 2) - x5).bmod (2 ^ 64)) then 0 else -1) = 0 → (1 ≤ kc ∧ 6 ≤ ks) ∧ am_V M_L_twice 1 6 0 [aR 0, aI 0, aU] [] (RM WM wd) h (fun v ρ' h' => am_V M_L_law (kc - 1) (ks - 6) 151 [aR 1000, aR 0, aR a2, aI x3, aU, aU, aU, aL x7, aU, aU, aU, aU, aU, aU, aU, aU] (v ++ []) ρ' h' Q X) X))) :
    am_V M_L_law kc ks 128 [aR 1000, aR 0, aR a2, aI x3, aU, aL x5, aU, aL x7, aU, aU, aU, aU, aU, aU, aU, aU] [aL xs0] (RM WM wd) h Q X := by
  obtain ⟨⟨b0_1, b0_2⟩, k⟩ := k
  refine v_iload_n dL_law_128 rfl rfl ?_
  refine v_i2l dL_law_129 ?_
  refine v_iload_n dL_law_130 rfl rfl ?_
  refine v_i2l dL_law_131 ?_
  refine v_lconst (x := 1) dL_law_132 rfl ?_
  refine v_ladd dL_law_133 ?_
  refine v_lmul dL_law_134 ?_
  refine v_ldc2l dL_law_135 lc_L_234 ⟨by decide, by decide⟩ ?_
  refine v_ldiv dL_law_138 b0_1 b0_2 ?_
  refine v_lload dL_law_139 rfl ?_
  refine v_lsub dL_law_141 ?_
  refine v_lcmp dL_law_142 ?_
  refine v_if_ne (tgt := 187) dL_law_143 (by decide) (fun z => ?_) (fun z => ?_)
  · have k := k.1 z
    refine v_weak (E2 := [aU, aU, aU, aU, aU, aU, aU, aU, aU, aU, aU, aU, aU, aU, aU, aU]) ⟨Or.inr rfl, ⟨Or.inr rfl, ⟨Or.inr rfl, ⟨Or.inr rfl, ⟨Or.inl rfl, ⟨Or.inr rfl, ⟨Or.inl rfl, ⟨Or.inr rfl, ⟨Or.inl rfl, ⟨Or.inl rfl, ⟨Or.inl rfl, ⟨Or.inl rfl, ⟨Or.inl rfl, ⟨Or.inl rfl, ⟨Or.inl rfl, ⟨Or.inl rfl, trivial⟩⟩⟩⟩⟩⟩⟩⟩⟩⟩⟩⟩⟩⟩⟩⟩ ?_
    exact k
  · have k := k.2 z
    obtain ⟨⟨b1_1, b1_2⟩, k⟩ := k
    refine v_aload_n dL_law_146 rfl rfl ?_
    refine v_iconst dL_law_147 ⟨by decide, by decide⟩ ?_
    refine v_weak (E2 := [aR 1000, aR 0, aR a2, aI x3, aU, aU, aU, aL x7, aU, aU, aU, aU, aU, aU, aU, aU]) ⟨Or.inl rfl, ⟨Or.inl rfl, ⟨Or.inl rfl, ⟨Or.inl rfl, ⟨Or.inl rfl, ⟨Or.inr rfl, ⟨Or.inl rfl, ⟨Or.inl rfl, ⟨Or.inl rfl, ⟨Or.inl rfl, ⟨Or.inl rfl, ⟨Or.inl rfl, ⟨Or.inl rfl, ⟨Or.inl rfl, ⟨Or.inl rfl, ⟨Or.inl rfl, trivial⟩⟩⟩⟩⟩⟩⟩⟩⟩⟩⟩⟩⟩⟩⟩⟩ ?_
    exact v_callSX (j := M_L_twice) (As := [aR 0, aI 0]) (st := []) (E0 := [aR 0, aI 0, aU]) dL_law_148 ms_L_236 J_L_twice b1_1 b1_2 (Nat.le_of_ble_eq_true rfl) rfl (Nat.le_of_ble_eq_true rfl) (List.forall_mem_cons.mpr ⟨rfl, List.forall_mem_cons.mpr ⟨rfl, fun _ h9 => absurd h9 List.not_mem_nil⟩⟩) (Nat.le_of_ble_eq_true rfl) rfl pn_L_twice rfl k
theorem S_law_151 {kc ks : Nat} {h : Hh} {Q : PQ} {X : PX} {a2 n2 : Nat} (q2 : (RM WM wd).1[a2]? = some (1, n2)) {x3 : Int} {x7 : Int} {xs0 : Int}
    (k : (((if x7 < xs0 then 1 else if xs0 = x7 then 0 else -1) ≠ 0 → am_V M_L_law kc ks 187 [aU, aU, aU, aU, aU, aU, aU, aU, aU, aU, aU, aU, aU, aU, aU, aU] [] (RM WM wd) h Q X) ∧ ((if x7 < xs0 then 1 else if xs0 = x7 then 0 else -1) = 0 → (2 ≤ kc ∧ 12 ≤ ks) ∧ am_V M_L_twiceAt 2 12 0 [aR 0, aI 0, aU] [] (RM WM wd) h (fun v ρ' h' => am_V M_L_law (kc - 2) (ks - 12) 162 [aR 1000, aR 0, aR a2, aI x3, aU, aU, aU, aL x7, aU, aU, aU, aU, aU, aU, aU, aU] (v ++ []) ρ' h' Q X) X))) :
    am_V M_L_law kc ks 151 [aR 1000, aR 0, aR a2, aI x3, aU, aU, aU, aL x7, aU, aU, aU, aU, aU, aU, aU, aU] [aL xs0] (RM WM wd) h Q X := by
  refine v_lload dL_law_151 rfl ?_
  refine v_lcmp dL_law_153 ?_
  refine v_if_ne (tgt := 187) dL_law_154 (by decide) (fun z => ?_) (fun z => ?_)
  · have k := k.1 z
    refine v_weak (E2 := [aU, aU, aU, aU, aU, aU, aU, aU, aU, aU, aU, aU, aU, aU, aU, aU]) ⟨Or.inr rfl, ⟨Or.inr rfl, ⟨Or.inr rfl, ⟨Or.inr rfl, ⟨Or.inl rfl, ⟨Or.inl rfl, ⟨Or.inl rfl, ⟨Or.inr rfl, ⟨Or.inl rfl, ⟨Or.inl rfl, ⟨Or.inl rfl, ⟨Or.inl rfl, ⟨Or.inl rfl, ⟨Or.inl rfl, ⟨Or.inl rfl, ⟨Or.inl rfl, trivial⟩⟩⟩⟩⟩⟩⟩⟩⟩⟩⟩⟩⟩⟩⟩⟩ ?_
    exact k
  · have k := k.2 z
    obtain ⟨⟨b1_1, b1_2⟩, k⟩ := k
    refine v_aload_n dL_law_157 rfl rfl ?_
    refine v_iconst dL_law_158 ⟨by decide, by decide⟩ ?_
    exact v_callSX (j := M_L_twiceAt) (As := [aR 0, aI 0]) (st := []) (E0 := [aR 0, aI 0, aU]) dL_law_159 ms_L_238 J_L_twiceAt b1_1 b1_2 (Nat.le_of_ble_eq_true rfl) rfl (Nat.le_of_ble_eq_true rfl) (List.forall_mem_cons.mpr ⟨rfl, List.forall_mem_cons.mpr ⟨rfl, fun _ h9 => absurd h9 List.not_mem_nil⟩⟩) (Nat.le_of_ble_eq_true rfl) rfl pn_L_twiceAt rfl k
theorem S_law_162 {kc ks : Nat} {h : Hh} {Q : PQ} {X : PX} {a2 n2 : Nat} (q2 : (RM WM wd).1[a2]? = some (1, n2)) {x3 : Int} {x7 : Int} {xs0 : Int}
    (k : ((0 ≤ (if 0 < xs0 then 1 else if xs0 = 0 then 0 else -1) → am_V M_L_law kc ks 172 [aR 1000, aR 0, aR a2, aI x3, aU, aU, aU, aL x7, aU, aU, aU, aU, aU, aU, aU, aU] [aI 0] (RM WM wd) h Q X) ∧ ((if 0 < xs0 then 1 else if xs0 = 0 then 0 else -1) < 0 → am_V M_L_law kc ks 172 [aR 1000, aR 0, aR a2, aI x3, aU, aU, aU, aL x7, aU, aU, aU, aU, aU, aU, aU, aU] [aI 1] (RM WM wd) h Q X))) :
    am_V M_L_law kc ks 162 [aR 1000, aR 0, aR a2, aI x3, aU, aU, aU, aL x7, aU, aU, aU, aU, aU, aU, aU, aU] [aL xs0] (RM WM wd) h Q X := by
  refine v_lconst (x := 0) dL_law_162 rfl ?_
  refine v_lcmp dL_law_163 ?_
  refine v_if_ge (tgt := 171) dL_law_164 (by decide) (fun z => ?_) (fun z => ?_)
  · have k := k.1 z
    refine v_iconst dL_law_171 ⟨by decide, by decide⟩ ?_
    exact k
  · have k := k.2 z
    refine v_iconst dL_law_167 ⟨by decide, by decide⟩ ?_
    refine v_goto (tgt := 172) dL_law_168 (by decide) ?_
    exact k
theorem S_law_172 {kc ks : Nat} {h : Hh} {Q : PQ} {X : PX} {a2 n2 : Nat} (q2 : (RM WM wd).1[a2]? = some (1, n2)) {x3 : Int} {x7 : Int} {xs0 : Int}
    (k : (((if 0 < x7 then 1 else if x7 = 0 then 0 else -1) ≠ 0 → am_V M_L_law kc ks 184 [aR 1000, aR 0, aR a2, aI x3, aU, aU, aU, aU, aU, aU, aU, aU, aU, aU, aU, aU] [aI 0, aI xs0] (RM WM wd) h Q X) ∧ ((if 0 < x7 then 1 else if x7 = 0 then 0 else -1) = 0 → am_V M_L_law kc ks 184 [aR 1000, aR 0, aR a2, aI x3, aU, aU, aU, aU, aU, aU, aU, aU, aU, aU, aU, aU] [aI 1, aI xs0] (RM WM wd) h Q X))) :
    am_V M_L_law kc ks 172 [aR 1000, aR 0, aR a2, aI x3, aU, aU, aU, aL x7, aU, aU, aU, aU, aU, aU, aU, aU] [aI xs0] (RM WM wd) h Q X := by
  refine v_lload dL_law_172 rfl ?_
  refine v_lconst (x := 0) dL_law_174 rfl ?_
  refine v_lcmp dL_law_175 ?_
  refine v_if_ne (tgt := 183) dL_law_176 (by decide) (fun z => ?_) (fun z => ?_)
  · have k := k.1 z
    refine v_iconst dL_law_183 ⟨by decide, by decide⟩ ?_
    refine v_weak (E2 := [aR 1000, aR 0, aR a2, aI x3, aU, aU, aU, aU, aU, aU, aU, aU, aU, aU, aU, aU]) ⟨Or.inl rfl, ⟨Or.inl rfl, ⟨Or.inl rfl, ⟨Or.inl rfl, ⟨Or.inl rfl, ⟨Or.inl rfl, ⟨Or.inl rfl, ⟨Or.inr rfl, ⟨Or.inl rfl, ⟨Or.inl rfl, ⟨Or.inl rfl, ⟨Or.inl rfl, ⟨Or.inl rfl, ⟨Or.inl rfl, ⟨Or.inl rfl, ⟨Or.inl rfl, trivial⟩⟩⟩⟩⟩⟩⟩⟩⟩⟩⟩⟩⟩⟩⟩⟩ ?_
    exact k
  · have k := k.2 z
    refine v_iconst dL_law_179 ⟨by decide, by decide⟩ ?_
    refine v_goto (tgt := 184) dL_law_180 (by decide) ?_
    refine v_weak (E2 := [aR 1000, aR 0, aR a2, aI x3, aU, aU, aU, aU, aU, aU, aU, aU, aU, aU, aU, aU]) ⟨Or.inl rfl, ⟨Or.inl rfl, ⟨Or.inl rfl, ⟨Or.inl rfl, ⟨Or.inl rfl, ⟨Or.inl rfl, ⟨Or.inl rfl, ⟨Or.inr rfl, ⟨Or.inl rfl, ⟨Or.inl rfl, ⟨Or.inl rfl, ⟨Or.inl rfl, ⟨Or.inl rfl, ⟨Or.inl rfl, ⟨Or.inl rfl, ⟨Or.inl rfl, trivial⟩⟩⟩⟩⟩⟩⟩⟩⟩⟩⟩⟩⟩⟩⟩⟩ ?_
    exact k
theorem S_law_184 {kc ks : Nat} {h : Hh} {Q : PQ} {X : PX} {a2 n2 : Nat} (q2 : (RM WM wd).1[a2]? = some (1, n2)) {x3 : Int} {xs0 : Int} {xs1 : Int}
    (k : ((xs1 = xs0 → am_V M_L_law kc ks 199 [aR 1000, aR 0, aR a2, aI x3, aU, aU, aU, aU, aU, aI 0, aL x3, aU, aI 0, aU, aU, aU] [] (RM WM wd) h Q X) ∧ (xs1 ≠ xs0 → am_V M_L_law kc ks 187 [aU, aU, aU, aU, aU, aU, aU, aU, aU, aU, aU, aU, aU, aU, aU, aU] [] (RM WM wd) h Q X))) :
    am_V M_L_law kc ks 184 [aR 1000, aR 0, aR a2, aI x3, aU, aU, aU, aU, aU, aU, aU, aU, aU, aU, aU, aU] [aI xs0, aI xs1] (RM WM wd) h Q X := by
  refine v_icmp_eq (tgt := 189) dL_law_184 (by decide) (fun z => ?_) (fun z => ?_)
  · have k := k.1 z
    refine v_iconst dL_law_189 ⟨by decide, by decide⟩ ?_
    refine v_istore (E2 := [aR 1000, aR 0, aR a2, aI x3, aU, aU, aU, aU, aU, aI 0, aU, aU, aU, aU, aU, aU]) dL_law_190 (Nat.le_of_ble_eq_true rfl) rfl ?_
    refine v_iload_n dL_law_192 rfl rfl ?_
    refine v_i2l dL_law_193 ?_
    refine v_lstore (E2 := [aR 1000, aR 0, aR a2, aI x3, aU, aU, aU, aU, aU, aI 0, aL x3, aU, aU, aU, aU, aU]) dL_law_194 (Nat.le_of_ble_eq_true rfl) rfl ?_
    refine v_iconst dL_law_196 ⟨by decide, by decide⟩ ?_
    refine v_istore (E2 := [aR 1000, aR 0, aR a2, aI x3, aU, aU, aU, aU, aU, aI 0, aL x3, aU, aI 0, aU, aU, aU]) dL_law_197 (Nat.le_of_ble_eq_true rfl) rfl ?_
    exact k
  · have k := k.2 z
    refine v_weak (E2 := [aU, aU, aU, aU, aU, aU, aU, aU, aU, aU, aU, aU, aU, aU, aU, aU]) ⟨Or.inr rfl, ⟨Or.inr rfl, ⟨Or.inr rfl, ⟨Or.inr rfl, ⟨Or.inl rfl, ⟨Or.inl rfl, ⟨Or.inl rfl, ⟨Or.inl rfl, ⟨Or.inl rfl, ⟨Or.inl rfl, ⟨Or.inl rfl, ⟨Or.inl rfl, ⟨Or.inl rfl, ⟨Or.inl rfl, ⟨Or.inl rfl, ⟨Or.inl rfl, trivial⟩⟩⟩⟩⟩⟩⟩⟩⟩⟩⟩⟩⟩⟩⟩⟩ ?_
    exact k
theorem S_law_187 {kc ks : Nat} {h : Hh} {Q : PQ} {X : PX} 
    (k : Q [aI 0] (RM WM wd) h) :
    am_V M_L_law kc ks 187 [aU, aU, aU, aU, aU, aU, aU, aU, aU, aU, aU, aU, aU, aU, aU, aU] [] (RM WM wd) h Q X := by
  refine v_iconst dL_law_187 ⟨by decide, by decide⟩ ?_
  exact v_lawret dL_law_188 rfl k
theorem S_law_199 {kc ks : Nat} {h : Hh} {Q : PQ} {X : PX} {a2 n2 : Nat} (q2 : (RM WM wd).1[a2]? = some (1, n2)) {x3 : Int} {x9 : Int} {x10 : Int} {x12 : Int}
    (k : ((x3 ≤ x12 → (1 ≤ kc ∧ 6 ≤ ks) ∧ am_V M_L_parts 1 6 0 [aR 0, aI 0, aU] [] (RM WM wd) h (fun v ρ' h' => am_V M_L_law (kc - 1) (ks - 6) 257 [aR 1000, aR 0, aR a2, aI x3, aU, aU, aU, aU, aU, aI x9, aU, aU, aU, aU, aU, aU] (v ++ []) ρ' h' Q X) X) ∧ (x12 < x3 → (2 ≤ kc ∧ 12 ≤ ks) ∧ am_V M_L_rankOf 2 12 0 [aR 0, aI 0, aI x12, aU] [] (RM WM wd) h (fun v ρ' h' => am_V M_L_law (kc - 2) (ks - 12) 212 [aR 1000, aR 0, aR a2, aI x3, aU, aU, aU, aU, aU, aI x9, aL x10, aU, aI x12, aU, aU, aU] (v ++ []) ρ' h' Q X) X))) :
    am_V M_L_law kc ks 199 [aR 1000, aR 0, aR a2, aI x3, aU, aU, aU, aU, aU, aI x9, aL x10, aU, aI x12, aU, aU, aU] [] (RM WM wd) h Q X := by
  refine v_iload dL_law_199 rfl ?_
  refine v_iload_n dL_law_201 rfl rfl ?_
  refine v_icmp_ge (tgt := 252) dL_law_202 (by decide) (fun z => ?_) (fun z => ?_)
  · have k := k.1 z
    obtain ⟨⟨b1_1, b1_2⟩, k⟩ := k
    refine v_aload_n dL_law_252 rfl rfl ?_
    refine v_iconst dL_law_253 ⟨by decide, by decide⟩ ?_
    refine v_weak (E2 := [aR 1000, aR 0, aR a2, aI x3, aU, aU, aU, aU, aU, aI x9, aU, aU, aU, aU, aU, aU]) ⟨Or.inl rfl, ⟨Or.inl rfl, ⟨Or.inl rfl, ⟨Or.inl rfl, ⟨Or.inl rfl, ⟨Or.inl rfl, ⟨Or.inl rfl, ⟨Or.inl rfl, ⟨Or.inl rfl, ⟨Or.inl rfl, ⟨Or.inr rfl, ⟨Or.inl rfl, ⟨Or.inr rfl, ⟨Or.inl rfl, ⟨Or.inl rfl, ⟨Or.inl rfl, trivial⟩⟩⟩⟩⟩⟩⟩⟩⟩⟩⟩⟩⟩⟩⟩⟩ ?_
    exact v_callSX (j := M_L_parts) (As := [aR 0, aI 0]) (st := []) (E0 := [aR 0, aI 0, aU]) dL_law_254 ms_L_242 J_L_parts b1_1 b1_2 (Nat.le_of_ble_eq_true rfl) rfl (Nat.le_of_ble_eq_true rfl) (List.forall_mem_cons.mpr ⟨rfl, List.forall_mem_cons.mpr ⟨rfl, fun _ h9 => absurd h9 List.not_mem_nil⟩⟩) (Nat.le_of_ble_eq_true rfl) rfl pn_L_parts rfl k
  · have k := k.2 z
    obtain ⟨⟨b1_1, b1_2⟩, k⟩ := k
    refine v_aload_n dL_law_205 rfl rfl ?_
    refine v_iconst dL_law_206 ⟨by decide, by decide⟩ ?_
    refine v_iload dL_law_207 rfl ?_
    exact v_callSX (j := M_L_rankOf) (As := [aR 0, aI 0, aI x12]) (st := []) (E0 := [aR 0, aI 0, aI x12, aU]) dL_law_209 ms_L_198 J_L_rankOf b1_1 b1_2 (Nat.le_of_ble_eq_true rfl) rfl (Nat.le_of_ble_eq_true rfl) (List.forall_mem_cons.mpr ⟨rfl, List.forall_mem_cons.mpr ⟨rfl, List.forall_mem_cons.mpr ⟨rfl, fun _ h9 => absurd h9 List.not_mem_nil⟩⟩⟩) (Nat.le_of_ble_eq_true rfl) rfl pn_L_rankOf rfl k
theorem S_law_212 {kc ks : Nat} {h : Hh} {Q : PQ} {X : PX} {a2 n2 : Nat} (q2 : (RM WM wd).1[a2]? = some (1, n2)) {x3 : Int} {x9 : Int} {x10 : Int} {x12 : Int} {xs0 : Int}
    (k : ((0 ≤ (if x10 < xs0 then 1 else if xs0 = x10 then 0 else -1) → am_V M_L_law kc ks 246 [aR 1000, aR 0, aR a2, aI x3, aU, aU, aU, aU, aU, aI x9, aL x10, aU, aI x12, aU, aU, aU] [] (RM WM wd) h Q X) ∧ ((if x10 < xs0 then 1 else if xs0 = x10 then 0 else -1) < 0 → (2 ≤ kc ∧ 12 ≤ ks) ∧ am_V M_L_partAt 2 12 0 [aR 0, aI 0, aI x9, aU] [] (RM WM wd) h (fun v ρ' h' => am_V M_L_law (kc - 2) (ks - 12) 225 [aR 1000, aR 0, aR a2, aI x3, aU, aU, aU, aU, aU, aI x9, aU, aU, aI x12, aU, aU, aU] (v ++ []) ρ' h' Q X) X))) :
    am_V M_L_law kc ks 212 [aR 1000, aR 0, aR a2, aI x3, aU, aU, aU, aU, aU, aI x9, aL x10, aU, aI x12, aU, aU, aU] [aL xs0] (RM WM wd) h Q X := by
  refine v_lload dL_law_212 rfl ?_
  refine v_lcmp dL_law_214 ?_
  refine v_if_ge (tgt := 246) dL_law_215 (by decide) (fun z => ?_) (fun z => ?_)
  · have k := k.1 z
    exact k
  · have k := k.2 z
    obtain ⟨⟨b1_1, b1_2⟩, k⟩ := k
    refine v_aload_n dL_law_218 rfl rfl ?_
    refine v_iconst dL_law_219 ⟨by decide, by decide⟩ ?_
    refine v_iload dL_law_220 rfl ?_
    refine v_weak (E2 := [aR 1000, aR 0, aR a2, aI x3, aU, aU, aU, aU, aU, aI x9, aU, aU, aI x12, aU, aU, aU]) ⟨Or.inl rfl, ⟨Or.inl rfl, ⟨Or.inl rfl, ⟨Or.inl rfl, ⟨Or.inl rfl, ⟨Or.inl rfl, ⟨Or.inl rfl, ⟨Or.inl rfl, ⟨Or.inl rfl, ⟨Or.inl rfl, ⟨Or.inr rfl, ⟨Or.inl rfl, ⟨Or.inl rfl, ⟨Or.inl rfl, ⟨Or.inl rfl, ⟨Or.inl rfl, trivial⟩⟩⟩⟩⟩⟩⟩⟩⟩⟩⟩⟩⟩⟩⟩⟩ ?_
    exact v_callSX (j := M_L_partAt) (As := [aR 0, aI 0, aI x9]) (st := []) (E0 := [aR 0, aI 0, aI x9, aU]) dL_law_222 ms_L_240 J_L_partAt b1_1 b1_2 (Nat.le_of_ble_eq_true rfl) rfl (Nat.le_of_ble_eq_true rfl) (List.forall_mem_cons.mpr ⟨rfl, List.forall_mem_cons.mpr ⟨rfl, List.forall_mem_cons.mpr ⟨rfl, fun _ h9 => absurd h9 List.not_mem_nil⟩⟩⟩) (Nat.le_of_ble_eq_true rfl) rfl pn_L_partAt rfl k
theorem S_law_225 {kc ks : Nat} {h : Hh} {Q : PQ} {X : PX} {a2 n2 : Nat} (q2 : (RM WM wd).1[a2]? = some (1, n2)) {x3 : Int} {x9 : Int} {x12 : Int} {xs0 : Int}
    (k : (((if x12 < xs0 then 1 else if xs0 = x12 then 0 else -1) = 0 → (2 ≤ kc ∧ 12 ≤ ks) ∧ am_V M_L_rankOf 2 12 0 [aR 0, aI 0, aI x12, aU] [] (RM WM wd) h (fun v ρ' h' => am_V M_L_law (kc - 2) (ks - 12) 241 [aR 1000, aR 0, aR a2, aI x3, aU, aU, aU, aU, aU, aI x9, aU, aU, aI x12, aU, aU, aU] (v ++ []) ρ' h' Q X) X) ∧ ((if x12 < xs0 then 1 else if xs0 = x12 then 0 else -1) ≠ 0 → Q [aI 0] (RM WM wd) h))) :
    am_V M_L_law kc ks 225 [aR 1000, aR 0, aR a2, aI x3, aU, aU, aU, aU, aU, aI x9, aU, aU, aI x12, aU, aU, aU] [aL xs0] (RM WM wd) h Q X := by
  refine v_iload dL_law_225 rfl ?_
  refine v_i2l dL_law_227 ?_
  refine v_lcmp dL_law_228 ?_
  refine v_if_eq (tgt := 234) dL_law_229 (by decide) (fun z => ?_) (fun z => ?_)
  · have k := k.1 z
    obtain ⟨⟨b1_1, b1_2⟩, k⟩ := k
    refine v_aload_n dL_law_234 rfl rfl ?_
    refine v_iconst dL_law_235 ⟨by decide, by decide⟩ ?_
    refine v_iload dL_law_236 rfl ?_
    exact v_callSX (j := M_L_rankOf) (As := [aR 0, aI 0, aI x12]) (st := []) (E0 := [aR 0, aI 0, aI x12, aU]) dL_law_238 ms_L_198 J_L_rankOf b1_1 b1_2 (Nat.le_of_ble_eq_true rfl) rfl (Nat.le_of_ble_eq_true rfl) (List.forall_mem_cons.mpr ⟨rfl, List.forall_mem_cons.mpr ⟨rfl, List.forall_mem_cons.mpr ⟨rfl, fun _ h9 => absurd h9 List.not_mem_nil⟩⟩⟩) (Nat.le_of_ble_eq_true rfl) rfl pn_L_rankOf rfl k
  · have k := k.2 z
    refine v_iconst dL_law_232 ⟨by decide, by decide⟩ ?_
    exact v_lawret dL_law_233 rfl k
theorem S_law_241 {kc ks : Nat} {h : Hh} {Q : PQ} {X : PX} {a2 n2 : Nat} (q2 : (RM WM wd).1[a2]? = some (1, n2)) {x3 : Int} {x9 : Int} {x12 : Int} {xs0 : Int}
    (k : ((-2147483648 ≤ ((x9 + 1) : Int) ∧ ((x9 + 1) : Int) < 2147483648)) ∧ am_V M_L_law kc ks 246 [aR 1000, aR 0, aR a2, aI x3, aU, aU, aU, aU, aU, aI (x9 + 1), aL xs0, aU, aI x12, aU, aU, aU] [] (RM WM wd) h Q X) :
    am_V M_L_law kc ks 241 [aR 1000, aR 0, aR a2, aI x3, aU, aU, aU, aU, aU, aI x9, aU, aU, aI x12, aU, aU, aU] [aL xs0] (RM WM wd) h Q X := by
  obtain ⟨b0_1, k⟩ := k
  refine v_lstore (E2 := [aR 1000, aR 0, aR a2, aI x3, aU, aU, aU, aU, aU, aI x9, aL xs0, aU, aI x12, aU, aU, aU]) dL_law_241 (Nat.le_of_ble_eq_true rfl) rfl ?_
  refine v_iinc (E2 := [aR 1000, aR 0, aR a2, aI x3, aU, aU, aU, aU, aU, aI (x9 + 1), aL xs0, aU, aI x12, aU, aU, aU]) dL_law_243 rfl b0_1 rfl ?_
  exact k
theorem S_law_246 {kc ks : Nat} {h : Hh} {Q : PQ} {X : PX} {a2 n2 : Nat} (q2 : (RM WM wd).1[a2]? = some (1, n2)) {x3 : Int} {x9 : Int} {x10 : Int} {x12 : Int}
    (k : ((-2147483648 ≤ ((x12 + 1) : Int) ∧ ((x12 + 1) : Int) < 2147483648)) ∧ am_V M_L_law kc ks 199 [aR 1000, aR 0, aR a2, aI x3, aU, aU, aU, aU, aU, aI x9, aL x10, aU, aI (x12 + 1), aU, aU, aU] [] (RM WM wd) h Q X) :
    am_V M_L_law kc ks 246 [aR 1000, aR 0, aR a2, aI x3, aU, aU, aU, aU, aU, aI x9, aL x10, aU, aI x12, aU, aU, aU] [] (RM WM wd) h Q X := by
  obtain ⟨b0_1, k⟩ := k
  refine v_iinc (E2 := [aR 1000, aR 0, aR a2, aI x3, aU, aU, aU, aU, aU, aI x9, aL x10, aU, aI (x12 + 1), aU, aU, aU]) dL_law_246 rfl b0_1 rfl ?_
  refine v_goto (tgt := 199) dL_law_249 (by decide) ?_
  exact k
theorem S_law_257 {kc ks : Nat} {h : Hh} {Q : PQ} {X : PX} {a2 n2 : Nat} (q2 : (RM WM wd).1[a2]? = some (1, n2)) {x3 : Int} {x9 : Int} {xs0 : Int}
    (k : (((if x9 < xs0 then 1 else if xs0 = x9 then 0 else -1) ≠ 0 → am_V M_L_law kc ks 278 [aU, aU, aU, aU, aU, aU, aU, aU, aU, aU, aU, aU, aU, aU, aU, aU] [] (RM WM wd) h Q X) ∧ ((if x9 < xs0 then 1 else if xs0 = x9 then 0 else -1) = 0 → (1 ≤ kc ∧ 6 ≤ ks) ∧ am_V M_L_pieces 1 6 0 [aR 0, aI 0, aU] [] (RM WM wd) h (fun v ρ' h' => am_V M_L_law (kc - 1) (ks - 6) 269 [aR 1000, aR 0, aR a2, aI x3, aU, aU, aU, aU, aU, aU, aU, aU, aU, aU, aU, aU] (v ++ []) ρ' h' Q X) X))) :
    am_V M_L_law kc ks 257 [aR 1000, aR 0, aR a2, aI x3, aU, aU, aU, aU, aU, aI x9, aU, aU, aU, aU, aU, aU] [aL xs0] (RM WM wd) h Q X := by
  refine v_iload dL_law_257 rfl ?_
  refine v_i2l dL_law_259 ?_
  refine v_lcmp dL_law_260 ?_
  refine v_if_ne (tgt := 278) dL_law_261 (by decide) (fun z => ?_) (fun z => ?_)
  · have k := k.1 z
    refine v_weak (E2 := [aU, aU, aU, aU, aU, aU, aU, aU, aU, aU, aU, aU, aU, aU, aU, aU]) ⟨Or.inr rfl, ⟨Or.inr rfl, ⟨Or.inr rfl, ⟨Or.inr rfl, ⟨Or.inl rfl, ⟨Or.inl rfl, ⟨Or.inl rfl, ⟨Or.inl rfl, ⟨Or.inl rfl, ⟨Or.inr rfl, ⟨Or.inl rfl, ⟨Or.inl rfl, ⟨Or.inl rfl, ⟨Or.inl rfl, ⟨Or.inl rfl, ⟨Or.inl rfl, trivial⟩⟩⟩⟩⟩⟩⟩⟩⟩⟩⟩⟩⟩⟩⟩⟩ ?_
    exact k
  · have k := k.2 z
    obtain ⟨⟨b1_1, b1_2⟩, k⟩ := k
    refine v_aload_n dL_law_264 rfl rfl ?_
    refine v_iconst dL_law_265 ⟨by decide, by decide⟩ ?_
    refine v_weak (E2 := [aR 1000, aR 0, aR a2, aI x3, aU, aU, aU, aU, aU, aU, aU, aU, aU, aU, aU, aU]) ⟨Or.inl rfl, ⟨Or.inl rfl, ⟨Or.inl rfl, ⟨Or.inl rfl, ⟨Or.inl rfl, ⟨Or.inl rfl, ⟨Or.inl rfl, ⟨Or.inl rfl, ⟨Or.inl rfl, ⟨Or.inr rfl, ⟨Or.inl rfl, ⟨Or.inl rfl, ⟨Or.inl rfl, ⟨Or.inl rfl, ⟨Or.inl rfl, ⟨Or.inl rfl, trivial⟩⟩⟩⟩⟩⟩⟩⟩⟩⟩⟩⟩⟩⟩⟩⟩ ?_
    exact v_callSX (j := M_L_pieces) (As := [aR 0, aI 0]) (st := []) (E0 := [aR 0, aI 0, aU]) dL_law_266 ms_L_244 J_L_pieces b1_1 b1_2 (Nat.le_of_ble_eq_true rfl) rfl (Nat.le_of_ble_eq_true rfl) (List.forall_mem_cons.mpr ⟨rfl, List.forall_mem_cons.mpr ⟨rfl, fun _ h9 => absurd h9 List.not_mem_nil⟩⟩) (Nat.le_of_ble_eq_true rfl) rfl pn_L_pieces rfl k
theorem S_law_269 {kc ks : Nat} {h : Hh} {Q : PQ} {X : PX} {a2 n2 : Nat} (q2 : (RM WM wd).1[a2]? = some (1, n2)) {x3 : Int} {xs0 : Int}
    (k : (1 ≤ kc ∧ 6 ≤ ks) ∧ am_V M_L_fewest 1 6 0 [aR 0, aI 0, aU] [] (RM WM wd) h (fun v ρ' h' => am_V M_L_law (kc - 1) (ks - 6) 274 [aR 1000, aR 0, aR a2, aI x3, aU, aU, aU, aU, aU, aU, aU, aU, aU, aU, aU, aU] (v ++ [aL xs0]) ρ' h' Q X) X) :
    am_V M_L_law kc ks 269 [aR 1000, aR 0, aR a2, aI x3, aU, aU, aU, aU, aU, aU, aU, aU, aU, aU, aU, aU] [aL xs0] (RM WM wd) h Q X := by
  obtain ⟨⟨b0_1, b0_2⟩, k⟩ := k
  refine v_aload_n dL_law_269 rfl rfl ?_
  refine v_iconst dL_law_270 ⟨by decide, by decide⟩ ?_
  exact v_callSX (j := M_L_fewest) (As := [aR 0, aI 0]) (st := [aL xs0]) (E0 := [aR 0, aI 0, aU]) dL_law_271 ms_L_246 J_L_fewest b0_1 b0_2 (Nat.le_of_ble_eq_true rfl) rfl (Nat.le_of_ble_eq_true rfl) (List.forall_mem_cons.mpr ⟨rfl, List.forall_mem_cons.mpr ⟨rfl, fun _ h9 => absurd h9 List.not_mem_nil⟩⟩) (Nat.le_of_ble_eq_true rfl) rfl pn_L_fewest rfl k
theorem S_law_274 {kc ks : Nat} {h : Hh} {Q : PQ} {X : PX} {a2 n2 : Nat} (q2 : (RM WM wd).1[a2]? = some (1, n2)) {x3 : Int} {xs0 : Int} {xs1 : Int}
    (k : (((if xs0 < xs1 then 1 else if xs1 = xs0 then 0 else -1) = 0 → ((x3 ≠ 0 → am_V M_L_law kc ks 295 [aR 1000, aR 0, aR a2, aI x3, aU, aU, aU, aU, aU, aU, aU, aU, aI 1, aI 0, aU, aU] [aI 0] (RM WM wd) h Q X) ∧ (x3 = 0 → am_V M_L_law kc ks 295 [aR 1000, aR 0, aR a2, aI x3, aU, aU, aU, aU, aU, aU, aU, aU, aI 1, aI 0, aU, aU] [aI 1] (RM WM wd) h Q X))) ∧ ((if xs0 < xs1 then 1 else if xs1 = xs0 then 0 else -1) ≠ 0 → am_V M_L_law kc ks 278 [aU, aU, aU, aU, aU, aU, aU, aU, aU, aU, aU, aU, aU, aU, aU, aU] [] (RM WM wd) h Q X))) :
    am_V M_L_law kc ks 274 [aR 1000, aR 0, aR a2, aI x3, aU, aU, aU, aU, aU, aU, aU, aU, aU, aU, aU, aU] [aL xs0, aL xs1] (RM WM wd) h Q X := by
  refine v_lcmp dL_law_274 ?_
  refine v_if_eq (tgt := 280) dL_law_275 (by decide) (fun z => ?_) (fun z => ?_)
  · have k := k.1 z
    refine v_iconst dL_law_280 ⟨by decide, by decide⟩ ?_
    refine v_istore (E2 := [aR 1000, aR 0, aR a2, aI x3, aU, aU, aU, aU, aU, aU, aU, aU, aI 1, aU, aU, aU]) dL_law_281 (Nat.le_of_ble_eq_true rfl) rfl ?_
    refine v_iconst dL_law_283 ⟨by decide, by decide⟩ ?_
    refine v_istore (E2 := [aR 1000, aR 0, aR a2, aI x3, aU, aU, aU, aU, aU, aU, aU, aU, aI 1, aI 0, aU, aU]) dL_law_284 (Nat.le_of_ble_eq_true rfl) rfl ?_
    refine v_iload_n dL_law_286 rfl rfl ?_
    refine v_if_ne (tgt := 294) dL_law_287 (by decide) (fun z => ?_) (fun z => ?_)
    · have k := k.1 z
      refine v_iconst dL_law_294 ⟨by decide, by decide⟩ ?_
      exact k
    · have k := k.2 z
      refine v_iconst dL_law_290 ⟨by decide, by decide⟩ ?_
      refine v_goto (tgt := 295) dL_law_291 (by decide) ?_
      exact k
  · have k := k.2 z
    refine v_weak (E2 := [aU, aU, aU, aU, aU, aU, aU, aU, aU, aU, aU, aU, aU, aU, aU, aU]) ⟨Or.inr rfl, ⟨Or.inr rfl, ⟨Or.inr rfl, ⟨Or.inr rfl, ⟨Or.inl rfl, ⟨Or.inl rfl, ⟨Or.inl rfl, ⟨Or.inl rfl, ⟨Or.inl rfl, ⟨Or.inl rfl, ⟨Or.inl rfl, ⟨Or.inl rfl, ⟨Or.inl rfl, ⟨Or.inl rfl, ⟨Or.inl rfl, ⟨Or.inl rfl, trivial⟩⟩⟩⟩⟩⟩⟩⟩⟩⟩⟩⟩⟩⟩⟩⟩ ?_
    exact k
theorem S_law_278 {kc ks : Nat} {h : Hh} {Q : PQ} {X : PX} 
    (k : Q [aI 0] (RM WM wd) h) :
    am_V M_L_law kc ks 278 [aU, aU, aU, aU, aU, aU, aU, aU, aU, aU, aU, aU, aU, aU, aU, aU] [] (RM WM wd) h Q X := by
  refine v_iconst dL_law_278 ⟨by decide, by decide⟩ ?_
  exact v_lawret dL_law_279 rfl k
theorem S_law_295 {kc ks : Nat} {h : Hh} {Q : PQ} {X : PX} {a2 n2 : Nat} (q2 : (RM WM wd).1[a2]? = some (1, n2)) {x3 : Int} {x12 : Int} {x13 : Int} {xs0 : Int}
    (k : am_V M_L_law kc ks 297 [aR 1000, aR 0, aR a2, aI x3, aU, aU, aU, aU, aU, aU, aU, aU, aI x12, aI x13, aI xs0, aU] [] (RM WM wd) h Q X) :
    am_V M_L_law kc ks 295 [aR 1000, aR 0, aR a2, aI x3, aU, aU, aU, aU, aU, aU, aU, aU, aI x12, aI x13, aU, aU] [aI xs0] (RM WM wd) h Q X := by
  refine v_istore (E2 := [aR 1000, aR 0, aR a2, aI x3, aU, aU, aU, aU, aU, aU, aU, aU, aI x12, aI x13, aI xs0, aU]) dL_law_295 (Nat.le_of_ble_eq_true rfl) rfl ?_
  exact k
theorem S_law_297 {kc ks : Nat} {h : Hh} {Q : PQ} {X : PX} {a2 n2 : Nat} (q2 : (RM WM wd).1[a2]? = some (1, n2)) {x3 : Int} {x12 : Int} {x13 : Int} {x14 : Int}
    (k : ((x14 ≠ 0 → (1 ≤ kc ∧ 6 ≤ ks) ∧ am_V M_L_rounds 1 6 0 [aR 0, aI 0, aU] [] (RM WM wd) h (fun v ρ' h' => am_V M_L_law (kc - 1) (ks - 6) 344 [aR 1000, aR 0, aR a2, aI x3, aU, aU, aU, aU, aU, aU, aU, aU, aU, aI x13, aU, aU] (v ++ []) ρ' h' Q X) X) ∧ (x14 = 0 → (2 ≤ kc ∧ 12 ≤ ks) ∧ am_V M_L_classes 2 12 0 [aR 0, aI 0, aI (min 64 x12), aU] [] (RM WM wd) h (fun v ρ' h' => am_V M_L_law (kc - 2) (ks - 12) 314 [aR 1000, aR 0, aR a2, aI x3, aU, aU, aU, aU, aU, aU, aU, aU, aI x12, aI x13, aU, aU] (v ++ []) ρ' h' Q X) X))) :
    am_V M_L_law kc ks 297 [aR 1000, aR 0, aR a2, aI x3, aU, aU, aU, aU, aU, aU, aU, aU, aI x12, aI x13, aI x14, aU] [] (RM WM wd) h Q X := by
  refine v_iload dL_law_297 rfl ?_
  refine v_if_ne (tgt := 339) dL_law_299 (by decide) (fun z => ?_) (fun z => ?_)
  · have k := k.1 z
    obtain ⟨⟨b1_1, b1_2⟩, k⟩ := k
    refine v_aload_n dL_law_339 rfl rfl ?_
    refine v_iconst dL_law_340 ⟨by decide, by decide⟩ ?_
    refine v_weak (E2 := [aR 1000, aR 0, aR a2, aI x3, aU, aU, aU, aU, aU, aU, aU, aU, aU, aI x13, aU, aU]) ⟨Or.inl rfl, ⟨Or.inl rfl, ⟨Or.inl rfl, ⟨Or.inl rfl, ⟨Or.inl rfl, ⟨Or.inl rfl, ⟨Or.inl rfl, ⟨Or.inl rfl, ⟨Or.inl rfl, ⟨Or.inl rfl, ⟨Or.inl rfl, ⟨Or.inl rfl, ⟨Or.inr rfl, ⟨Or.inl rfl, ⟨Or.inr rfl, ⟨Or.inl rfl, trivial⟩⟩⟩⟩⟩⟩⟩⟩⟩⟩⟩⟩⟩⟩⟩⟩ ?_
    exact v_callSX (j := M_L_rounds) (As := [aR 0, aI 0]) (st := []) (E0 := [aR 0, aI 0, aU]) dL_law_341 ms_L_253 J_L_rounds b1_1 b1_2 (Nat.le_of_ble_eq_true rfl) rfl (Nat.le_of_ble_eq_true rfl) (List.forall_mem_cons.mpr ⟨rfl, List.forall_mem_cons.mpr ⟨rfl, fun _ h9 => absurd h9 List.not_mem_nil⟩⟩) (Nat.le_of_ble_eq_true rfl) rfl pn_L_rounds rfl k
  · have k := k.2 z
    obtain ⟨⟨b1_1, b1_2⟩, k⟩ := k
    refine v_aload_n dL_law_302 rfl rfl ?_
    refine v_iconst dL_law_303 ⟨by decide, by decide⟩ ?_
    refine v_bipush dL_law_304 (by decide) (by decide) ?_
    refine v_iload dL_law_306 rfl ?_
    refine v_mmin dL_law_308 mm_L_248 (by decide) (Nat.le_of_ble_eq_true rfl) ?_
    refine v_weak (E2 := [aR 1000, aR 0, aR a2, aI x3, aU, aU, aU, aU, aU, aU, aU, aU, aI x12, aI x13, aU, aU]) ⟨Or.inl rfl, ⟨Or.inl rfl, ⟨Or.inl rfl, ⟨Or.inl rfl, ⟨Or.inl rfl, ⟨Or.inl rfl, ⟨Or.inl rfl, ⟨Or.inl rfl, ⟨Or.inl rfl, ⟨Or.inl rfl, ⟨Or.inl rfl, ⟨Or.inl rfl, ⟨Or.inl rfl, ⟨Or.inl rfl, ⟨Or.inr rfl, ⟨Or.inl rfl, trivial⟩⟩⟩⟩⟩⟩⟩⟩⟩⟩⟩⟩⟩⟩⟩⟩ ?_
    exact v_callSX (j := M_L_classes) (As := [aR 0, aI 0, aI (min 64 x12)]) (st := []) (E0 := [aR 0, aI 0, aI (min 64 x12), aU]) dL_law_311 ms_L_251 J_L_classes b1_1 b1_2 (Nat.le_of_ble_eq_true rfl) rfl (Nat.le_of_ble_eq_true rfl) (List.forall_mem_cons.mpr ⟨rfl, List.forall_mem_cons.mpr ⟨rfl, List.forall_mem_cons.mpr ⟨rfl, fun _ h9 => absurd h9 List.not_mem_nil⟩⟩⟩) (Nat.le_of_ble_eq_true rfl) rfl pn_L_classes rfl k
theorem S_law_314 {kc ks : Nat} {h : Hh} {Q : PQ} {X : PX} {a2 n2 : Nat} (q2 : (RM WM wd).1[a2]? = some (1, n2)) {x3 : Int} {x12 : Int} {x13 : Int} {xs0 : Int}
    (k : (((if x3 < xs0 then 1 else if xs0 = x3 then 0 else -1) ≠ 0 → am_V M_L_law kc ks 325 [aR 1000, aR 0, aR a2, aI x3, aU, aU, aU, aU, aU, aU, aU, aU, aI x12, aI x13, aU, aU] [aI 0] (RM WM wd) h Q X) ∧ ((if x3 < xs0 then 1 else if xs0 = x3 then 0 else -1) = 0 → am_V M_L_law kc ks 325 [aR 1000, aR 0, aR a2, aI x3, aU, aU, aU, aU, aU, aU, aU, aU, aI x12, aI x13, aU, aU] [aI 1] (RM WM wd) h Q X))) :
    am_V M_L_law kc ks 314 [aR 1000, aR 0, aR a2, aI x3, aU, aU, aU, aU, aU, aU, aU, aU, aI x12, aI x13, aU, aU] [aL xs0] (RM WM wd) h Q X := by
  refine v_iload_n dL_law_314 rfl rfl ?_
  refine v_i2l dL_law_315 ?_
  refine v_lcmp dL_law_316 ?_
  refine v_if_ne (tgt := 324) dL_law_317 (by decide) (fun z => ?_) (fun z => ?_)
  · have k := k.1 z
    refine v_iconst dL_law_324 ⟨by decide, by decide⟩ ?_
    exact k
  · have k := k.2 z
    refine v_iconst dL_law_320 ⟨by decide, by decide⟩ ?_
    refine v_goto (tgt := 325) dL_law_321 (by decide) ?_
    exact k
theorem S_law_325 {kc ks : Nat} {h : Hh} {Q : PQ} {X : PX} {a2 n2 : Nat} (q2 : (RM WM wd).1[a2]? = some (1, n2)) {x3 : Int} {x12 : Int} {x13 : Int} {xs0 : Int}
    (k : ((-2147483648 ≤ ((x13 + 1) : Int) ∧ ((x13 + 1) : Int) < 2147483648) ∧ (-2147483648 ≤ ((x12 * 2) : Int) ∧ ((x12 * 2) : Int) < 2147483648)) ∧ am_V M_L_law kc ks 297 [aR 1000, aR 0, aR a2, aI x3, aU, aU, aU, aU, aU, aU, aU, aU, aI (x12 * 2), aI (x13 + 1), aI xs0, aU] [] (RM WM wd) h Q X) :
    am_V M_L_law kc ks 325 [aR 1000, aR 0, aR a2, aI x3, aU, aU, aU, aU, aU, aU, aU, aU, aI x12, aI x13, aU, aU] [aI xs0] (RM WM wd) h Q X := by
  obtain ⟨⟨b0_1, b0_2⟩, k⟩ := k
  refine v_istore (E2 := [aR 1000, aR 0, aR a2, aI x3, aU, aU, aU, aU, aU, aU, aU, aU, aI x12, aI x13, aI xs0, aU]) dL_law_325 (Nat.le_of_ble_eq_true rfl) rfl ?_
  refine v_iinc (E2 := [aR 1000, aR 0, aR a2, aI x3, aU, aU, aU, aU, aU, aU, aU, aU, aI x12, aI (x13 + 1), aI xs0, aU]) dL_law_327 rfl b0_1 rfl ?_
  refine v_iload dL_law_330 rfl ?_
  refine v_iconst dL_law_332 ⟨by decide, by decide⟩ ?_
  refine v_imul dL_law_333 b0_2 ?_
  refine v_istore (E2 := [aR 1000, aR 0, aR a2, aI x3, aU, aU, aU, aU, aU, aU, aU, aU, aI (x12 * 2), aI (x13 + 1), aI xs0, aU]) dL_law_334 (Nat.le_of_ble_eq_true rfl) rfl ?_
  refine v_goto (tgt := 297) dL_law_336 (by decide) ?_
  exact k
theorem S_law_344 {kc ks : Nat} {h : Hh} {Q : PQ} {X : PX} {a2 n2 : Nat} (q2 : (RM WM wd).1[a2]? = some (1, n2)) {x3 : Int} {x13 : Int} {xs0 : Int}
    (k : (((if x13 < xs0 then 1 else if xs0 = x13 then 0 else -1) = 0 → am_V M_L_law kc ks 356 [aR 1000, aR 0, aR a2, aI x3, aU, aU, aU, aU, aU, aU, aU, aU, aU, aU, aI 0, aU] [] (RM WM wd) h Q X) ∧ ((if x13 < xs0 then 1 else if xs0 = x13 then 0 else -1) ≠ 0 → Q [aI 0] (RM WM wd) h))) :
    am_V M_L_law kc ks 344 [aR 1000, aR 0, aR a2, aI x3, aU, aU, aU, aU, aU, aU, aU, aU, aU, aI x13, aU, aU] [aL xs0] (RM WM wd) h Q X := by
  refine v_iload dL_law_344 rfl ?_
  refine v_i2l dL_law_346 ?_
  refine v_lcmp dL_law_347 ?_
  refine v_if_eq (tgt := 353) dL_law_348 (by decide) (fun z => ?_) (fun z => ?_)
  · have k := k.1 z
    refine v_iconst dL_law_353 ⟨by decide, by decide⟩ ?_
    refine v_istore (E2 := [aR 1000, aR 0, aR a2, aI x3, aU, aU, aU, aU, aU, aU, aU, aU, aU, aI x13, aI 0, aU]) dL_law_354 (Nat.le_of_ble_eq_true rfl) rfl ?_
    refine v_weak (E2 := [aR 1000, aR 0, aR a2, aI x3, aU, aU, aU, aU, aU, aU, aU, aU, aU, aU, aI 0, aU]) ⟨Or.inl rfl, ⟨Or.inl rfl, ⟨Or.inl rfl, ⟨Or.inl rfl, ⟨Or.inl rfl, ⟨Or.inl rfl, ⟨Or.inl rfl, ⟨Or.inl rfl, ⟨Or.inl rfl, ⟨Or.inl rfl, ⟨Or.inl rfl, ⟨Or.inl rfl, ⟨Or.inl rfl, ⟨Or.inr rfl, ⟨Or.inl rfl, ⟨Or.inl rfl, trivial⟩⟩⟩⟩⟩⟩⟩⟩⟩⟩⟩⟩⟩⟩⟩⟩ ?_
    exact k
  · have k := k.2 z
    refine v_iconst dL_law_351 ⟨by decide, by decide⟩ ?_
    exact v_lawret dL_law_352 rfl k
theorem S_law_356 {kc ks : Nat} {h : Hh} {Q : PQ} {X : PX} {a2 n2 : Nat} (q2 : (RM WM wd).1[a2]? = some (1, n2)) {x3 : Int} {x14 : Int}
    (k : ((3 ≤ x14 → am_V M_L_law kc ks 422 [aU, aR 0, aU, aI x3, aU, aU, aU, aU, aU, aU, aU, aU, aU, aU, aU, aU] [] (RM WM wd) h Q X) ∧ (x14 < 3 → ((x3 ≤ 0 → am_V M_L_law kc ks 422 [aU, aR 0, aU, aI x3, aU, aU, aU, aU, aU, aU, aU, aU, aU, aU, aU, aU] [] (RM WM wd) h Q X) ∧ (0 < x3 → ((-2147483648 ≤ ((2 * x14) : Int) ∧ ((2 * x14) : Int) < 2147483648) ∧ (-2147483648 ≤ ((80 + (2 * x14)) : Int) ∧ ((80 + (2 * x14)) : Int) < 2147483648)) ∧ am_V M_L_cell 0 0 0 [aR 1000, aI (80 + (2 * x14)), aU, aU, aU, aU, aU] [] (RM WM wd) h (fun v ρ' h' => am_V M_L_law kc ks 377 [aR 1000, aR 0, aR a2, aI x3, aU, aU, aU, aU, aU, aU, aU, aU, aU, aU, aI x14, aU] (v ++ []) ρ' h' Q X) X))))) :
    am_V M_L_law kc ks 356 [aR 1000, aR 0, aR a2, aI x3, aU, aU, aU, aU, aU, aU, aU, aU, aU, aU, aI x14, aU] [] (RM WM wd) h Q X := by
  refine v_iload dL_law_356 rfl ?_
  refine v_iconst dL_law_358 ⟨by decide, by decide⟩ ?_
  refine v_icmp_ge (tgt := 422) dL_law_359 (by decide) (fun z => ?_) (fun z => ?_)
  · have k := k.1 z
    refine v_weak (E2 := [aU, aR 0, aU, aI x3, aU, aU, aU, aU, aU, aU, aU, aU, aU, aU, aU, aU]) ⟨Or.inr rfl, ⟨Or.inl rfl, ⟨Or.inr rfl, ⟨Or.inl rfl, ⟨Or.inl rfl, ⟨Or.inl rfl, ⟨Or.inl rfl, ⟨Or.inl rfl, ⟨Or.inl rfl, ⟨Or.inl rfl, ⟨Or.inl rfl, ⟨Or.inl rfl, ⟨Or.inl rfl, ⟨Or.inl rfl, ⟨Or.inr rfl, ⟨Or.inl rfl, trivial⟩⟩⟩⟩⟩⟩⟩⟩⟩⟩⟩⟩⟩⟩⟩⟩ ?_
    exact k
  · have k := k.2 z
    refine v_iload_n dL_law_362 rfl rfl ?_
    refine v_if_le (tgt := 422) dL_law_363 (by decide) (fun z => ?_) (fun z => ?_)
    · have k := k.1 z
      refine v_weak (E2 := [aU, aR 0, aU, aI x3, aU, aU, aU, aU, aU, aU, aU, aU, aU, aU, aU, aU]) ⟨Or.inr rfl, ⟨Or.inl rfl, ⟨Or.inr rfl, ⟨Or.inl rfl, ⟨Or.inl rfl, ⟨Or.inl rfl, ⟨Or.inl rfl, ⟨Or.inl rfl, ⟨Or.inl rfl, ⟨Or.inl rfl, ⟨Or.inl rfl, ⟨Or.inl rfl, ⟨Or.inl rfl, ⟨Or.inl rfl, ⟨Or.inr rfl, ⟨Or.inl rfl, trivial⟩⟩⟩⟩⟩⟩⟩⟩⟩⟩⟩⟩⟩⟩⟩⟩ ?_
      exact k
    · have k := k.2 z
      obtain ⟨⟨b2_1, b2_2⟩, k⟩ := k
      refine v_aload_n dL_law_366 rfl rfl ?_
      refine v_bipush dL_law_367 (by decide) (by decide) ?_
      refine v_iconst dL_law_369 ⟨by decide, by decide⟩ ?_
      refine v_iload dL_law_370 rfl ?_
      refine v_imul dL_law_372 b2_1 ?_
      refine v_iadd dL_law_373 b2_2 ?_
      exact v_callS (j := M_L_cell) (As := [aR 1000, aI (80 + (2 * x14))]) (st := []) (E0 := [aR 1000, aI (80 + (2 * x14)), aU, aU, aU, aU, aU]) dL_law_374 ms_L_153 J_L_cell (Nat.zero_le _) (Nat.zero_le _) (Nat.le_of_ble_eq_true rfl) rfl (Nat.le_of_ble_eq_true rfl) (List.forall_mem_cons.mpr ⟨rfl, List.forall_mem_cons.mpr ⟨rfl, fun _ h9 => absurd h9 List.not_mem_nil⟩⟩) (Nat.le_of_ble_eq_true rfl) rfl pn_L_cell rfl k
theorem S_law_377 {kc ks : Nat} {h : Hh} {Q : PQ} {X : PX} {a2 n2 : Nat} (q2 : (RM WM wd).1[a2]? = some (1, n2)) {x3 : Int} {x14 : Int} {xs0 : Int}
    (k : am_V M_L_chosen 0 0 0 [aI xs0, aI x3] [] (RM WM wd) h (fun v ρ' h' => am_V M_L_law kc ks 381 [aR 1000, aR 0, aR a2, aI x3, aU, aU, aU, aU, aU, aU, aU, aU, aU, aU, aI x14, aU] (v ++ []) ρ' h' Q X) X) :
    am_V M_L_law kc ks 377 [aR 1000, aR 0, aR a2, aI x3, aU, aU, aU, aU, aU, aU, aU, aU, aU, aU, aI x14, aU] [aI xs0] (RM WM wd) h Q X := by
  refine v_iload_n dL_law_377 rfl rfl ?_
  exact v_callS (j := M_L_chosen) (As := [aI xs0, aI x3]) (st := []) (E0 := [aI xs0, aI x3]) dL_law_378 ms_L_157 J_L_chosen (Nat.zero_le _) (Nat.zero_le _) (Nat.le_of_ble_eq_true rfl) rfl (Nat.le_of_ble_eq_true rfl) (List.forall_mem_cons.mpr ⟨rfl, List.forall_mem_cons.mpr ⟨rfl, fun _ h9 => absurd h9 List.not_mem_nil⟩⟩) (Nat.le_of_ble_eq_true rfl) rfl pn_L_chosen rfl k
theorem S_law_381 {kc ks : Nat} {h : Hh} {Q : PQ} {X : PX} {a2 n2 : Nat} (q2 : (RM WM wd).1[a2]? = some (1, n2)) {x3 : Int} {x14 : Int} {xs0 : Int}
    (k : ((-2147483648 ≤ ((2 * x14) : Int) ∧ ((2 * x14) : Int) < 2147483648) ∧ (-2147483648 ≤ ((81 + (2 * x14)) : Int) ∧ ((81 + (2 * x14)) : Int) < 2147483648)) ∧ am_V M_L_cell 0 0 0 [aR 1000, aI (81 + (2 * x14)), aU, aU, aU, aU, aU] [] (RM WM wd) h (fun v ρ' h' => am_V M_L_law kc ks 400 [aR 1000, aR 0, aR a2, aI x3, aU, aU, aU, aU, aU, aU, aU, aU, aU, aU, aI x14, aI xs0] (v ++ [aI 1, aI xs0, aR a2, aI 0, aR 0]) ρ' h' Q X) X) :
    am_V M_L_law kc ks 381 [aR 1000, aR 0, aR a2, aI x3, aU, aU, aU, aU, aU, aU, aU, aU, aU, aU, aI x14, aU] [aI xs0] (RM WM wd) h Q X := by
  obtain ⟨⟨b0_1, b0_2⟩, k⟩ := k
  refine v_istore (E2 := [aR 1000, aR 0, aR a2, aI x3, aU, aU, aU, aU, aU, aU, aU, aU, aU, aU, aI x14, aI xs0]) dL_law_381 (Nat.le_of_ble_eq_true rfl) rfl ?_
  refine v_aload_n dL_law_383 rfl rfl ?_
  refine v_iconst dL_law_384 ⟨by decide, by decide⟩ ?_
  refine v_aload_n dL_law_385 rfl rfl ?_
  refine v_iload dL_law_386 rfl ?_
  refine v_iconst dL_law_388 ⟨by decide, by decide⟩ ?_
  refine v_aload_n dL_law_389 rfl rfl ?_
  refine v_bipush dL_law_390 (by decide) (by decide) ?_
  refine v_iconst dL_law_392 ⟨by decide, by decide⟩ ?_
  refine v_iload dL_law_393 rfl ?_
  refine v_imul dL_law_395 b0_1 ?_
  refine v_iadd dL_law_396 b0_2 ?_
  exact v_callS (j := M_L_cell) (As := [aR 1000, aI (81 + (2 * x14))]) (st := [aI 1, aI xs0, aR a2, aI 0, aR 0]) (E0 := [aR 1000, aI (81 + (2 * x14)), aU, aU, aU, aU, aU]) dL_law_397 ms_L_153 J_L_cell (Nat.zero_le _) (Nat.zero_le _) (Nat.le_of_ble_eq_true rfl) rfl (Nat.le_of_ble_eq_true rfl) (List.forall_mem_cons.mpr ⟨rfl, List.forall_mem_cons.mpr ⟨rfl, fun _ h9 => absurd h9 List.not_mem_nil⟩⟩) (Nat.le_of_ble_eq_true rfl) rfl pn_L_cell rfl k
theorem S_law_400 {kc ks : Nat} {h : Hh} {Q : PQ} {X : PX} {a2 n2 : Nat} (q2 : (RM WM wd).1[a2]? = some (1, n2)) {x3 : Int} {x14 : Int} {x15 : Int} {xs0 : Int} {xs1 : Int} {xs2 : Int} {as3 ns3 : Nat} (qs3 : (RM WM wd).1[as3]? = some (1, ns3)) {xs4 : Int}
    (k : ((-2147483648 ≤ ((x3 - x15) : Int) ∧ ((x3 - x15) : Int) < 2147483648)) ∧ am_V M_L_chosen 0 0 0 [aI xs0, aI (x3 - x15)] [] (RM WM wd) h (fun v ρ' h' => am_V M_L_law kc ks 407 [aR 1000, aR 0, aR a2, aI x3, aU, aU, aU, aU, aU, aU, aU, aU, aU, aU, aI x14, aU] (v ++ [aI xs1, aI xs2, aR as3, aI xs4, aR 0]) ρ' h' Q X) X) :
    am_V M_L_law kc ks 400 [aR 1000, aR 0, aR a2, aI x3, aU, aU, aU, aU, aU, aU, aU, aU, aU, aU, aI x14, aI x15] [aI xs0, aI xs1, aI xs2, aR as3, aI xs4, aR 0] (RM WM wd) h Q X := by
  obtain ⟨b0_1, k⟩ := k
  refine v_iload_n dL_law_400 rfl rfl ?_
  refine v_iload dL_law_401 rfl ?_
  refine v_isub dL_law_403 b0_1 ?_
  refine v_weak (E2 := [aR 1000, aR 0, aR a2, aI x3, aU, aU, aU, aU, aU, aU, aU, aU, aU, aU, aI x14, aU]) ⟨Or.inl rfl, ⟨Or.inl rfl, ⟨Or.inl rfl, ⟨Or.inl rfl, ⟨Or.inl rfl, ⟨Or.inl rfl, ⟨Or.inl rfl, ⟨Or.inl rfl, ⟨Or.inl rfl, ⟨Or.inl rfl, ⟨Or.inl rfl, ⟨Or.inl rfl, ⟨Or.inl rfl, ⟨Or.inl rfl, ⟨Or.inl rfl, ⟨Or.inr rfl, trivial⟩⟩⟩⟩⟩⟩⟩⟩⟩⟩⟩⟩⟩⟩⟩⟩ ?_
  exact v_callS (j := M_L_chosen) (As := [aI xs0, aI (x3 - x15)]) (st := [aI xs1, aI xs2, aR as3, aI xs4, aR 0]) (E0 := [aI xs0, aI (x3 - x15)]) dL_law_404 ms_L_157 J_L_chosen (Nat.zero_le _) (Nat.zero_le _) (Nat.le_of_ble_eq_true rfl) rfl (Nat.le_of_ble_eq_true rfl) (List.forall_mem_cons.mpr ⟨rfl, List.forall_mem_cons.mpr ⟨rfl, fun _ h9 => absurd h9 List.not_mem_nil⟩⟩) (Nat.le_of_ble_eq_true rfl) rfl pn_L_chosen rfl k
theorem S_law_407 {kc ks : Nat} {h : Hh} {Q : PQ} {X : PX} {a2 n2 : Nat} (q2 : (RM WM wd).1[a2]? = some (1, n2)) {x3 : Int} {x14 : Int} {xs0 : Int} {xs1 : Int} {xs2 : Int} {as3 ns3 : Nat} (qs3 : (RM WM wd).1[as3]? = some (1, ns3)) {xs4 : Int}
    (k : ((-2147483648 ≤ ((xs1 + xs0) : Int) ∧ ((xs1 + xs0) : Int) < 2147483648) ∧ 2000 ≤ kc ∧ 12000 ≤ ks) ∧ am_V M_L_isRun 2000 12000 0 [aR 0, aI xs4, aR as3, aI xs2, aI (xs1 + xs0), aU, aU, aU, aU, aU, aU, aU, aU, aU, aU, aU, aU] [] (RM WM wd) h (fun v ρ' h' => am_V M_L_law (kc - 2000) (ks - 12000) 411 [aR 1000, aR 0, aR a2, aI x3, aU, aU, aU, aU, aU, aU, aU, aU, aU, aU, aI x14, aU] (v ++ []) ρ' h' Q X) X) :
    am_V M_L_law kc ks 407 [aR 1000, aR 0, aR a2, aI x3, aU, aU, aU, aU, aU, aU, aU, aU, aU, aU, aI x14, aU] [aI xs0, aI xs1, aI xs2, aR as3, aI xs4, aR 0] (RM WM wd) h Q X := by
  obtain ⟨⟨b0_1, b0_2, b0_3⟩, k⟩ := k
  refine v_iadd dL_law_407 b0_1 ?_
  exact v_callS (j := M_L_isRun) (As := [aR 0, aI xs4, aR as3, aI xs2, aI (xs1 + xs0)]) (st := []) (E0 := [aR 0, aI xs4, aR as3, aI xs2, aI (xs1 + xs0), aU, aU, aU, aU, aU, aU, aU, aU, aU, aU, aU, aU]) dL_law_408 ms_L_255 J_L_isRun b0_2 b0_3 (Nat.le_of_ble_eq_true rfl) rfl (Nat.le_of_ble_eq_true rfl) (List.forall_mem_cons.mpr ⟨rfl, List.forall_mem_cons.mpr ⟨rfl, List.forall_mem_cons.mpr ⟨rfl, List.forall_mem_cons.mpr ⟨rfl, List.forall_mem_cons.mpr ⟨rfl, fun _ h9 => absurd h9 List.not_mem_nil⟩⟩⟩⟩⟩) (Nat.le_of_ble_eq_true rfl) rfl pn_L_isRun rfl k
theorem S_law_411 {kc ks : Nat} {h : Hh} {Q : PQ} {X : PX} {a2 n2 : Nat} (q2 : (RM WM wd).1[a2]? = some (1, n2)) {x3 : Int} {x14 : Int} {xs0 : Int}
    (k : ((xs0 ≠ 0 → ((-2147483648 ≤ ((x14 + 1) : Int) ∧ ((x14 + 1) : Int) < 2147483648)) ∧ am_V M_L_law kc ks 356 [aR 1000, aR 0, aR a2, aI x3, aU, aU, aU, aU, aU, aU, aU, aU, aU, aU, aI (x14 + 1), aU] [] (RM WM wd) h Q X) ∧ (xs0 = 0 → Q [aI 0] (RM WM wd) h))) :
    am_V M_L_law kc ks 411 [aR 1000, aR 0, aR a2, aI x3, aU, aU, aU, aU, aU, aU, aU, aU, aU, aU, aI x14, aU] [aI xs0] (RM WM wd) h Q X := by
  refine v_if_ne (tgt := 416) dL_law_411 (by decide) (fun z => ?_) (fun z => ?_)
  · have k := k.1 z
    obtain ⟨b1_1, k⟩ := k
    refine v_iinc (E2 := [aR 1000, aR 0, aR a2, aI x3, aU, aU, aU, aU, aU, aU, aU, aU, aU, aU, aI (x14 + 1), aU]) dL_law_416 rfl b1_1 rfl ?_
    refine v_goto (tgt := 356) dL_law_419 (by decide) ?_
    exact k
  · have k := k.2 z
    refine v_iconst dL_law_414 ⟨by decide, by decide⟩ ?_
    exact v_lawret dL_law_415 rfl k
theorem S_law_422 {kc ks : Nat} {h : Hh} {Q : PQ} {X : PX} {x3 : Int}
    (k : (2 ≤ kc ∧ 12 ≤ ks) ∧ am_V M_L_mirror 2 12 0 [aR 0, aI 0, aU] [] (RM WM wd) h (fun v ρ' h' => am_V M_L_law (kc - 2) (ks - 12) 427 [aU, aR 0, aU, aI x3, aU, aU, aU, aU, aU, aU, aU, aU, aU, aU, aU, aU] (v ++ []) ρ' h' Q X) X) :
    am_V M_L_law kc ks 422 [aU, aR 0, aU, aI x3, aU, aU, aU, aU, aU, aU, aU, aU, aU, aU, aU, aU] [] (RM WM wd) h Q X := by
  obtain ⟨⟨b0_1, b0_2⟩, k⟩ := k
  refine v_aload_n dL_law_422 rfl rfl ?_
  refine v_iconst dL_law_423 ⟨by decide, by decide⟩ ?_
  exact v_callSX (j := M_L_mirror) (As := [aR 0, aI 0]) (st := []) (E0 := [aR 0, aI 0, aU]) dL_law_424 ms_L_259 J_L_mirror b0_1 b0_2 (Nat.le_of_ble_eq_true rfl) rfl (Nat.le_of_ble_eq_true rfl) (List.forall_mem_cons.mpr ⟨rfl, List.forall_mem_cons.mpr ⟨rfl, fun _ h9 => absurd h9 List.not_mem_nil⟩⟩) (Nat.le_of_ble_eq_true rfl) rfl pn_L_mirror rfl k
theorem S_law_427 {kc ks : Nat} {h : Hh} {Q : PQ} {X : PX} {x3 : Int} {xs0 : Int}
    (k : ((-2147483648 ≤ (xs0 : Int) ∧ (xs0 : Int) < 2147483648) ∧ 1 ≤ kc ∧ 6 ≤ ks) ∧ am_V M_L_words 1 6 0 [aR 0, aI xs0, aU] [] (RM WM wd) h (fun v ρ' h' => am_V M_L_law (kc - 1) (ks - 6) 436 [aU, aR 0, aU, aI x3, aU, aU, aU, aU, aU, aU, aU, aU, aU, aU, aL xs0, aU] (v ++ []) ρ' h' Q X) X) :
    am_V M_L_law kc ks 427 [aU, aR 0, aU, aI x3, aU, aU, aU, aU, aU, aU, aU, aU, aU, aU, aU, aU] [aL xs0] (RM WM wd) h Q X := by
  obtain ⟨⟨b0_1, b0_2, b0_3⟩, k⟩ := k
  refine v_lstore (E2 := [aU, aR 0, aU, aI x3, aU, aU, aU, aU, aU, aU, aU, aU, aU, aU, aL xs0, aU]) dL_law_427 (Nat.le_of_ble_eq_true rfl) rfl ?_
  refine v_aload_n dL_law_429 rfl rfl ?_
  refine v_lload dL_law_430 rfl ?_
  refine v_l2i dL_law_432 b0_1 ?_
  exact v_callSX (j := M_L_words) (As := [aR 0, aI xs0]) (st := []) (E0 := [aR 0, aI xs0, aU]) dL_law_433 ms_L_206 J_L_words b0_2 b0_3 (Nat.le_of_ble_eq_true rfl) rfl (Nat.le_of_ble_eq_true rfl) (List.forall_mem_cons.mpr ⟨rfl, List.forall_mem_cons.mpr ⟨rfl, fun _ h9 => absurd h9 List.not_mem_nil⟩⟩) (Nat.le_of_ble_eq_true rfl) rfl pn_L_words rfl k
theorem S_law_436 {kc ks : Nat} {h : Hh} {Q : PQ} {X : PX} {x3 : Int} {x14 : Int} {xs0 : Int}
    (k : (1 ≤ kc ∧ 6 ≤ ks) ∧ am_V M_L_words 1 6 0 [aR 0, aI 0, aU] [] (RM WM wd) h (fun v ρ' h' => am_V M_L_law (kc - 1) (ks - 6) 441 [aU, aR 0, aU, aI x3, aU, aU, aU, aU, aU, aU, aU, aU, aU, aU, aL x14, aU] (v ++ [aL xs0]) ρ' h' Q X) X) :
    am_V M_L_law kc ks 436 [aU, aR 0, aU, aI x3, aU, aU, aU, aU, aU, aU, aU, aU, aU, aU, aL x14, aU] [aL xs0] (RM WM wd) h Q X := by
  obtain ⟨⟨b0_1, b0_2⟩, k⟩ := k
  refine v_aload_n dL_law_436 rfl rfl ?_
  refine v_iconst dL_law_437 ⟨by decide, by decide⟩ ?_
  exact v_callSX (j := M_L_words) (As := [aR 0, aI 0]) (st := [aL xs0]) (E0 := [aR 0, aI 0, aU]) dL_law_438 ms_L_206 J_L_words b0_1 b0_2 (Nat.le_of_ble_eq_true rfl) rfl (Nat.le_of_ble_eq_true rfl) (List.forall_mem_cons.mpr ⟨rfl, List.forall_mem_cons.mpr ⟨rfl, fun _ h9 => absurd h9 List.not_mem_nil⟩⟩) (Nat.le_of_ble_eq_true rfl) rfl pn_L_words rfl k
theorem S_law_441 {kc ks : Nat} {h : Hh} {Q : PQ} {X : PX} {x3 : Int} {x14 : Int} {xs0 : Int} {xs1 : Int}
    (k : (((if xs0 < xs1 then 1 else if xs1 = xs0 then 0 else -1) ≠ 0 → am_V M_L_law kc ks 493 [aU, aU, aU, aU, aU, aU, aU, aU, aU, aU, aU, aU, aU, aU, aU, aU] [] (RM WM wd) h Q X) ∧ ((if xs0 < xs1 then 1 else if xs1 = xs0 then 0 else -1) = 0 → ((-2147483648 ≤ (x14 : Int) ∧ (x14 : Int) < 2147483648) ∧ 1 ≤ kc ∧ 6 ≤ ks) ∧ am_V M_L_twice 1 6 0 [aR 0, aI x14, aU] [] (RM WM wd) h (fun v ρ' h' => am_V M_L_law (kc - 1) (ks - 6) 452 [aU, aR 0, aU, aI x3, aU, aU, aU, aU, aU, aU, aU, aU, aU, aU, aL x14, aU] (v ++ []) ρ' h' Q X) X))) :
    am_V M_L_law kc ks 441 [aU, aR 0, aU, aI x3, aU, aU, aU, aU, aU, aU, aU, aU, aU, aU, aL x14, aU] [aL xs0, aL xs1] (RM WM wd) h Q X := by
  refine v_lcmp dL_law_441 ?_
  refine v_if_ne (tgt := 493) dL_law_442 (by decide) (fun z => ?_) (fun z => ?_)
  · have k := k.1 z
    refine v_weak (E2 := [aU, aU, aU, aU, aU, aU, aU, aU, aU, aU, aU, aU, aU, aU, aU, aU]) ⟨Or.inl rfl, ⟨Or.inr rfl, ⟨Or.inl rfl, ⟨Or.inr rfl, ⟨Or.inl rfl, ⟨Or.inl rfl, ⟨Or.inl rfl, ⟨Or.inl rfl, ⟨Or.inl rfl, ⟨Or.inl rfl, ⟨Or.inl rfl, ⟨Or.inl rfl, ⟨Or.inl rfl, ⟨Or.inl rfl, ⟨Or.inr rfl, ⟨Or.inl rfl, trivial⟩⟩⟩⟩⟩⟩⟩⟩⟩⟩⟩⟩⟩⟩⟩⟩ ?_
    exact k
  · have k := k.2 z
    obtain ⟨⟨b1_1, b1_2, b1_3⟩, k⟩ := k
    refine v_aload_n dL_law_445 rfl rfl ?_
    refine v_lload dL_law_446 rfl ?_
    refine v_l2i dL_law_448 b1_1 ?_
    exact v_callSX (j := M_L_twice) (As := [aR 0, aI x14]) (st := []) (E0 := [aR 0, aI x14, aU]) dL_law_449 ms_L_236 J_L_twice b1_2 b1_3 (Nat.le_of_ble_eq_true rfl) rfl (Nat.le_of_ble_eq_true rfl) (List.forall_mem_cons.mpr ⟨rfl, List.forall_mem_cons.mpr ⟨rfl, fun _ h9 => absurd h9 List.not_mem_nil⟩⟩) (Nat.le_of_ble_eq_true rfl) rfl pn_L_twice rfl k
theorem S_law_452 {kc ks : Nat} {h : Hh} {Q : PQ} {X : PX} {x3 : Int} {x14 : Int} {xs0 : Int}
    (k : (1 ≤ kc ∧ 6 ≤ ks) ∧ am_V M_L_twice 1 6 0 [aR 0, aI 0, aU] [] (RM WM wd) h (fun v ρ' h' => am_V M_L_law (kc - 1) (ks - 6) 457 [aU, aR 0, aU, aI x3, aU, aU, aU, aU, aU, aU, aU, aU, aU, aU, aL x14, aU] (v ++ [aL xs0]) ρ' h' Q X) X) :
    am_V M_L_law kc ks 452 [aU, aR 0, aU, aI x3, aU, aU, aU, aU, aU, aU, aU, aU, aU, aU, aL x14, aU] [aL xs0] (RM WM wd) h Q X := by
  obtain ⟨⟨b0_1, b0_2⟩, k⟩ := k
  refine v_aload_n dL_law_452 rfl rfl ?_
  refine v_iconst dL_law_453 ⟨by decide, by decide⟩ ?_
  exact v_callSX (j := M_L_twice) (As := [aR 0, aI 0]) (st := [aL xs0]) (E0 := [aR 0, aI 0, aU]) dL_law_454 ms_L_236 J_L_twice b0_1 b0_2 (Nat.le_of_ble_eq_true rfl) rfl (Nat.le_of_ble_eq_true rfl) (List.forall_mem_cons.mpr ⟨rfl, List.forall_mem_cons.mpr ⟨rfl, fun _ h9 => absurd h9 List.not_mem_nil⟩⟩) (Nat.le_of_ble_eq_true rfl) rfl pn_L_twice rfl k
theorem S_law_457 {kc ks : Nat} {h : Hh} {Q : PQ} {X : PX} {x3 : Int} {x14 : Int} {xs0 : Int} {xs1 : Int}
    (k : (((if xs0 < xs1 then 1 else if xs1 = xs0 then 0 else -1) ≠ 0 → am_V M_L_law kc ks 493 [aU, aU, aU, aU, aU, aU, aU, aU, aU, aU, aU, aU, aU, aU, aU, aU] [] (RM WM wd) h Q X) ∧ ((if xs0 < xs1 then 1 else if xs1 = xs0 then 0 else -1) = 0 → ((-2147483648 ≤ (x14 : Int) ∧ (x14 : Int) < 2147483648) ∧ 2 ≤ kc ∧ 12 ≤ ks) ∧ am_V M_L_period 2 12 0 [aR 0, aI x14, aU] [] (RM WM wd) h (fun v ρ' h' => am_V M_L_law (kc - 2) (ks - 12) 468 [aU, aR 0, aU, aI x3, aU, aU, aU, aU, aU, aU, aU, aU, aU, aU, aL x14, aU] (v ++ []) ρ' h' Q X) X))) :
    am_V M_L_law kc ks 457 [aU, aR 0, aU, aI x3, aU, aU, aU, aU, aU, aU, aU, aU, aU, aU, aL x14, aU] [aL xs0, aL xs1] (RM WM wd) h Q X := by
  refine v_lcmp dL_law_457 ?_
  refine v_if_ne (tgt := 493) dL_law_458 (by decide) (fun z => ?_) (fun z => ?_)
  · have k := k.1 z
    refine v_weak (E2 := [aU, aU, aU, aU, aU, aU, aU, aU, aU, aU, aU, aU, aU, aU, aU, aU]) ⟨Or.inl rfl, ⟨Or.inr rfl, ⟨Or.inl rfl, ⟨Or.inr rfl, ⟨Or.inl rfl, ⟨Or.inl rfl, ⟨Or.inl rfl, ⟨Or.inl rfl, ⟨Or.inl rfl, ⟨Or.inl rfl, ⟨Or.inl rfl, ⟨Or.inl rfl, ⟨Or.inl rfl, ⟨Or.inl rfl, ⟨Or.inr rfl, ⟨Or.inl rfl, trivial⟩⟩⟩⟩⟩⟩⟩⟩⟩⟩⟩⟩⟩⟩⟩⟩ ?_
    exact k
  · have k := k.2 z
    obtain ⟨⟨b1_1, b1_2, b1_3⟩, k⟩ := k
    refine v_aload_n dL_law_461 rfl rfl ?_
    refine v_lload dL_law_462 rfl ?_
    refine v_l2i dL_law_464 b1_1 ?_
    exact v_callSX (j := M_L_period) (As := [aR 0, aI x14]) (st := []) (E0 := [aR 0, aI x14, aU]) dL_law_465 ms_L_261 J_L_period b1_2 b1_3 (Nat.le_of_ble_eq_true rfl) rfl (Nat.le_of_ble_eq_true rfl) (List.forall_mem_cons.mpr ⟨rfl, List.forall_mem_cons.mpr ⟨rfl, fun _ h9 => absurd h9 List.not_mem_nil⟩⟩) (Nat.le_of_ble_eq_true rfl) rfl pn_L_period rfl k
theorem S_law_468 {kc ks : Nat} {h : Hh} {Q : PQ} {X : PX} {x3 : Int} {x14 : Int} {xs0 : Int}
    (k : (2 ≤ kc ∧ 12 ≤ ks) ∧ am_V M_L_period 2 12 0 [aR 0, aI 0, aU] [] (RM WM wd) h (fun v ρ' h' => am_V M_L_law (kc - 2) (ks - 12) 473 [aU, aR 0, aU, aI x3, aU, aU, aU, aU, aU, aU, aU, aU, aU, aU, aL x14, aU] (v ++ [aL xs0]) ρ' h' Q X) X) :
    am_V M_L_law kc ks 468 [aU, aR 0, aU, aI x3, aU, aU, aU, aU, aU, aU, aU, aU, aU, aU, aL x14, aU] [aL xs0] (RM WM wd) h Q X := by
  obtain ⟨⟨b0_1, b0_2⟩, k⟩ := k
  refine v_aload_n dL_law_468 rfl rfl ?_
  refine v_iconst dL_law_469 ⟨by decide, by decide⟩ ?_
  exact v_callSX (j := M_L_period) (As := [aR 0, aI 0]) (st := [aL xs0]) (E0 := [aR 0, aI 0, aU]) dL_law_470 ms_L_261 J_L_period b0_1 b0_2 (Nat.le_of_ble_eq_true rfl) rfl (Nat.le_of_ble_eq_true rfl) (List.forall_mem_cons.mpr ⟨rfl, List.forall_mem_cons.mpr ⟨rfl, fun _ h9 => absurd h9 List.not_mem_nil⟩⟩) (Nat.le_of_ble_eq_true rfl) rfl pn_L_period rfl k
theorem S_law_473 {kc ks : Nat} {h : Hh} {Q : PQ} {X : PX} {x3 : Int} {x14 : Int} {xs0 : Int} {xs1 : Int}
    (k : (((if xs0 < xs1 then 1 else if xs1 = xs0 then 0 else -1) ≠ 0 → am_V M_L_law kc ks 493 [aU, aU, aU, aU, aU, aU, aU, aU, aU, aU, aU, aU, aU, aU, aU, aU] [] (RM WM wd) h Q X) ∧ ((if xs0 < xs1 then 1 else if xs1 = xs0 then 0 else -1) = 0 → ((-2147483648 ≤ (x14 : Int) ∧ (x14 : Int) < 2147483648) ∧ 1 ≤ kc ∧ 6 ≤ ks) ∧ am_V M_L_squares 1 6 0 [aR 0, aI x14, aU] [] (RM WM wd) h (fun v ρ' h' => am_V M_L_law (kc - 1) (ks - 6) 484 [aU, aR 0, aU, aI x3, aU, aU, aU, aU, aU, aU, aU, aU, aU, aU, aU, aU] (v ++ []) ρ' h' Q X) X))) :
    am_V M_L_law kc ks 473 [aU, aR 0, aU, aI x3, aU, aU, aU, aU, aU, aU, aU, aU, aU, aU, aL x14, aU] [aL xs0, aL xs1] (RM WM wd) h Q X := by
  refine v_lcmp dL_law_473 ?_
  refine v_if_ne (tgt := 493) dL_law_474 (by decide) (fun z => ?_) (fun z => ?_)
  · have k := k.1 z
    refine v_weak (E2 := [aU, aU, aU, aU, aU, aU, aU, aU, aU, aU, aU, aU, aU, aU, aU, aU]) ⟨Or.inl rfl, ⟨Or.inr rfl, ⟨Or.inl rfl, ⟨Or.inr rfl, ⟨Or.inl rfl, ⟨Or.inl rfl, ⟨Or.inl rfl, ⟨Or.inl rfl, ⟨Or.inl rfl, ⟨Or.inl rfl, ⟨Or.inl rfl, ⟨Or.inl rfl, ⟨Or.inl rfl, ⟨Or.inl rfl, ⟨Or.inr rfl, ⟨Or.inl rfl, trivial⟩⟩⟩⟩⟩⟩⟩⟩⟩⟩⟩⟩⟩⟩⟩⟩ ?_
    exact k
  · have k := k.2 z
    obtain ⟨⟨b1_1, b1_2, b1_3⟩, k⟩ := k
    refine v_aload_n dL_law_477 rfl rfl ?_
    refine v_lload dL_law_478 rfl ?_
    refine v_l2i dL_law_480 b1_1 ?_
    refine v_weak (E2 := [aU, aR 0, aU, aI x3, aU, aU, aU, aU, aU, aU, aU, aU, aU, aU, aU, aU]) ⟨Or.inl rfl, ⟨Or.inl rfl, ⟨Or.inl rfl, ⟨Or.inl rfl, ⟨Or.inl rfl, ⟨Or.inl rfl, ⟨Or.inl rfl, ⟨Or.inl rfl, ⟨Or.inl rfl, ⟨Or.inl rfl, ⟨Or.inl rfl, ⟨Or.inl rfl, ⟨Or.inl rfl, ⟨Or.inl rfl, ⟨Or.inr rfl, ⟨Or.inl rfl, trivial⟩⟩⟩⟩⟩⟩⟩⟩⟩⟩⟩⟩⟩⟩⟩⟩ ?_
    exact v_callSX (j := M_L_squares) (As := [aR 0, aI x14]) (st := []) (E0 := [aR 0, aI x14, aU]) dL_law_481 ms_L_263 J_L_squares b1_2 b1_3 (Nat.le_of_ble_eq_true rfl) rfl (Nat.le_of_ble_eq_true rfl) (List.forall_mem_cons.mpr ⟨rfl, List.forall_mem_cons.mpr ⟨rfl, fun _ h9 => absurd h9 List.not_mem_nil⟩⟩) (Nat.le_of_ble_eq_true rfl) rfl pn_L_squares rfl k
theorem S_law_484 {kc ks : Nat} {h : Hh} {Q : PQ} {X : PX} {x3 : Int} {xs0 : Int}
    (k : (1 ≤ kc ∧ 6 ≤ ks) ∧ am_V M_L_squares 1 6 0 [aR 0, aI 0, aU] [] (RM WM wd) h (fun v ρ' h' => am_V M_L_law (kc - 1) (ks - 6) 489 [aU, aR 0, aU, aI x3, aU, aU, aU, aU, aU, aU, aU, aU, aU, aU, aU, aU] (v ++ [aL xs0]) ρ' h' Q X) X) :
    am_V M_L_law kc ks 484 [aU, aR 0, aU, aI x3, aU, aU, aU, aU, aU, aU, aU, aU, aU, aU, aU, aU] [aL xs0] (RM WM wd) h Q X := by
  obtain ⟨⟨b0_1, b0_2⟩, k⟩ := k
  refine v_aload_n dL_law_484 rfl rfl ?_
  refine v_iconst dL_law_485 ⟨by decide, by decide⟩ ?_
  exact v_callSX (j := M_L_squares) (As := [aR 0, aI 0]) (st := [aL xs0]) (E0 := [aR 0, aI 0, aU]) dL_law_486 ms_L_263 J_L_squares b0_1 b0_2 (Nat.le_of_ble_eq_true rfl) rfl (Nat.le_of_ble_eq_true rfl) (List.forall_mem_cons.mpr ⟨rfl, List.forall_mem_cons.mpr ⟨rfl, fun _ h9 => absurd h9 List.not_mem_nil⟩⟩) (Nat.le_of_ble_eq_true rfl) rfl pn_L_squares rfl k
theorem S_law_489 {kc ks : Nat} {h : Hh} {Q : PQ} {X : PX} {x3 : Int} {xs0 : Int} {xs1 : Int}
    (k : (((if xs0 < xs1 then 1 else if xs1 = xs0 then 0 else -1) = 0 → ((64 ≤ x3 → am_V M_L_law kc ks 519 [aU, aR 0, aU, aU, aU, aU, aU, aU, aU, aU, aU, aU, aU, aU, aU, aU] [] (RM WM wd) h Q X) ∧ (x3 < 64 → (2 ≤ kc ∧ 12 ≤ ks) ∧ am_V M_L_ahead 2 12 0 [aR 0, aI 0, aI 98, aU] [] (RM WM wd) h (fun v ρ' h' => am_V M_L_law (kc - 2) (ks - 12) 508 [aU, aR 0, aU, aU, aU, aU, aU, aU, aU, aU, aU, aU, aU, aU, aU, aU] (v ++ []) ρ' h' Q X) X))) ∧ ((if xs0 < xs1 then 1 else if xs1 = xs0 then 0 else -1) ≠ 0 → am_V M_L_law kc ks 493 [aU, aU, aU, aU, aU, aU, aU, aU, aU, aU, aU, aU, aU, aU, aU, aU] [] (RM WM wd) h Q X))) :
    am_V M_L_law kc ks 489 [aU, aR 0, aU, aI x3, aU, aU, aU, aU, aU, aU, aU, aU, aU, aU, aU, aU] [aL xs0, aL xs1] (RM WM wd) h Q X := by
  refine v_lcmp dL_law_489 ?_
  refine v_if_eq (tgt := 495) dL_law_490 (by decide) (fun z => ?_) (fun z => ?_)
  · have k := k.1 z
    refine v_iload_n dL_law_495 rfl rfl ?_
    refine v_bipush dL_law_496 (by decide) (by decide) ?_
    refine v_icmp_ge (tgt := 519) dL_law_498 (by decide) (fun z => ?_) (fun z => ?_)
    · have k := k.1 z
      refine v_weak (E2 := [aU, aR 0, aU, aU, aU, aU, aU, aU, aU, aU, aU, aU, aU, aU, aU, aU]) ⟨Or.inl rfl, ⟨Or.inl rfl, ⟨Or.inl rfl, ⟨Or.inr rfl, ⟨Or.inl rfl, ⟨Or.inl rfl, ⟨Or.inl rfl, ⟨Or.inl rfl, ⟨Or.inl rfl, ⟨Or.inl rfl, ⟨Or.inl rfl, ⟨Or.inl rfl, ⟨Or.inl rfl, ⟨Or.inl rfl, ⟨Or.inl rfl, ⟨Or.inl rfl, trivial⟩⟩⟩⟩⟩⟩⟩⟩⟩⟩⟩⟩⟩⟩⟩⟩ ?_
      exact k
    · have k := k.2 z
      obtain ⟨⟨b2_1, b2_2⟩, k⟩ := k
      refine v_aload_n dL_law_501 rfl rfl ?_
      refine v_iconst dL_law_502 ⟨by decide, by decide⟩ ?_
      refine v_bipush dL_law_503 (by decide) (by decide) ?_
      refine v_weak (E2 := [aU, aR 0, aU, aU, aU, aU, aU, aU, aU, aU, aU, aU, aU, aU, aU, aU]) ⟨Or.inl rfl, ⟨Or.inl rfl, ⟨Or.inl rfl, ⟨Or.inr rfl, ⟨Or.inl rfl, ⟨Or.inl rfl, ⟨Or.inl rfl, ⟨Or.inl rfl, ⟨Or.inl rfl, ⟨Or.inl rfl, ⟨Or.inl rfl, ⟨Or.inl rfl, ⟨Or.inl rfl, ⟨Or.inl rfl, ⟨Or.inl rfl, ⟨Or.inl rfl, trivial⟩⟩⟩⟩⟩⟩⟩⟩⟩⟩⟩⟩⟩⟩⟩⟩ ?_
      exact v_callSX (j := M_L_ahead) (As := [aR 0, aI 0, aI 98]) (st := []) (E0 := [aR 0, aI 0, aI 98, aU]) dL_law_505 ms_L_265 J_L_ahead b2_1 b2_2 (Nat.le_of_ble_eq_true rfl) rfl (Nat.le_of_ble_eq_true rfl) (List.forall_mem_cons.mpr ⟨rfl, List.forall_mem_cons.mpr ⟨rfl, List.forall_mem_cons.mpr ⟨rfl, fun _ h9 => absurd h9 List.not_mem_nil⟩⟩⟩) (Nat.le_of_ble_eq_true rfl) rfl pn_L_ahead rfl k
  · have k := k.2 z
    refine v_weak (E2 := [aU, aU, aU, aU, aU, aU, aU, aU, aU, aU, aU, aU, aU, aU, aU, aU]) ⟨Or.inl rfl, ⟨Or.inr rfl, ⟨Or.inl rfl, ⟨Or.inr rfl, ⟨Or.inl rfl, ⟨Or.inl rfl, ⟨Or.inl rfl, ⟨Or.inl rfl, ⟨Or.inl rfl, ⟨Or.inl rfl, ⟨Or.inl rfl, ⟨Or.inl rfl, ⟨Or.inl rfl, ⟨Or.inl rfl, ⟨Or.inl rfl, ⟨Or.inl rfl, trivial⟩⟩⟩⟩⟩⟩⟩⟩⟩⟩⟩⟩⟩⟩⟩⟩ ?_
    exact k
theorem S_law_493 {kc ks : Nat} {h : Hh} {Q : PQ} {X : PX} 
    (k : Q [aI 0] (RM WM wd) h) :
    am_V M_L_law kc ks 493 [aU, aU, aU, aU, aU, aU, aU, aU, aU, aU, aU, aU, aU, aU, aU, aU] [] (RM WM wd) h Q X := by
  refine v_iconst dL_law_493 ⟨by decide, by decide⟩ ?_
  exact v_lawret dL_law_494 rfl k
theorem S_law_508 {kc ks : Nat} {h : Hh} {Q : PQ} {X : PX} {xs0 : Int}
    (k : (2 ≤ kc ∧ 12 ≤ ks) ∧ am_V M_L_chop 2 12 0 [aR 0, aI 0, aU] [] (RM WM wd) h (fun v ρ' h' => am_V M_L_law (kc - 2) (ks - 12) 513 [aU, aR 0, aU, aU, aU, aU, aU, aU, aU, aU, aU, aU, aU, aU, aU, aU] (v ++ [aL xs0]) ρ' h' Q X) X) :
    am_V M_L_law kc ks 508 [aU, aR 0, aU, aU, aU, aU, aU, aU, aU, aU, aU, aU, aU, aU, aU, aU] [aL xs0] (RM WM wd) h Q X := by
  obtain ⟨⟨b0_1, b0_2⟩, k⟩ := k
  refine v_aload_n dL_law_508 rfl rfl ?_
  refine v_iconst dL_law_509 ⟨by decide, by decide⟩ ?_
  exact v_callSX (j := M_L_chop) (As := [aR 0, aI 0]) (st := [aL xs0]) (E0 := [aR 0, aI 0, aU]) dL_law_510 ms_L_268 J_L_chop b0_1 b0_2 (Nat.le_of_ble_eq_true rfl) rfl (Nat.le_of_ble_eq_true rfl) (List.forall_mem_cons.mpr ⟨rfl, List.forall_mem_cons.mpr ⟨rfl, fun _ h9 => absurd h9 List.not_mem_nil⟩⟩) (Nat.le_of_ble_eq_true rfl) rfl pn_L_chop rfl k
theorem S_law_513 {kc ks : Nat} {h : Hh} {Q : PQ} {X : PX} {xs0 : Int} {xs1 : Int}
    (k : (((if xs0 < xs1 then 1 else if xs1 = xs0 then 0 else -1) = 0 → am_V M_L_law kc ks 519 [aU, aR 0, aU, aU, aU, aU, aU, aU, aU, aU, aU, aU, aU, aU, aU, aU] [] (RM WM wd) h Q X) ∧ ((if xs0 < xs1 then 1 else if xs1 = xs0 then 0 else -1) ≠ 0 → Q [aI 0] (RM WM wd) h))) :
    am_V M_L_law kc ks 513 [aU, aR 0, aU, aU, aU, aU, aU, aU, aU, aU, aU, aU, aU, aU, aU, aU] [aL xs0, aL xs1] (RM WM wd) h Q X := by
  refine v_lcmp dL_law_513 ?_
  refine v_if_eq (tgt := 519) dL_law_514 (by decide) (fun z => ?_) (fun z => ?_)
  · have k := k.1 z
    exact k
  · have k := k.2 z
    refine v_iconst dL_law_517 ⟨by decide, by decide⟩ ?_
    exact v_lawret dL_law_518 rfl k
theorem S_law_519 {kc ks : Nat} {h : Hh} {Q : PQ} {X : PX} 
    (k : am_V M_L_checksum 0 0 0 [aR 0] [] (RM WM wd) h (fun v ρ' h' => am_V M_L_law kc ks 523 [aU, aR 0, aU, aU, aU, aU, aU, aU, aU, aU, aU, aU, aU, aU, aU, aU] (v ++ []) ρ' h' Q X) X) :
    am_V M_L_law kc ks 519 [aU, aR 0, aU, aU, aU, aU, aU, aU, aU, aU, aU, aU, aU, aU, aU, aU] [] (RM WM wd) h Q X := by
  refine v_aload_n dL_law_519 rfl rfl ?_
  exact v_callS (j := M_L_checksum) (As := [aR 0]) (st := []) (E0 := [aR 0]) dL_law_520 ms_L_270 J_L_checksum (Nat.zero_le _) (Nat.zero_le _) (Nat.le_of_ble_eq_true rfl) rfl (Nat.le_of_ble_eq_true rfl) (List.forall_mem_cons.mpr ⟨rfl, fun _ h9 => absurd h9 List.not_mem_nil⟩) (Nat.le_of_ble_eq_true rfl) rfl pn_L_checksum rfl k
theorem S_law_523 {kc ks : Nat} {h : Hh} {Q : PQ} {X : PX} {xs0 : Int}
    (k : am_V M_L_checksum 0 0 0 [aR 0] [] (RM WM wd) h (fun v ρ' h' => am_V M_L_law kc ks 527 [aU, aR 0, aU, aU, aU, aU, aU, aU, aU, aU, aU, aU, aU, aU, aU, aU] (v ++ [aL xs0]) ρ' h' Q X) X) :
    am_V M_L_law kc ks 523 [aU, aR 0, aU, aU, aU, aU, aU, aU, aU, aU, aU, aU, aU, aU, aU, aU] [aL xs0] (RM WM wd) h Q X := by
  refine v_aload_n dL_law_523 rfl rfl ?_
  exact v_callS (j := M_L_checksum) (As := [aR 0]) (st := [aL xs0]) (E0 := [aR 0]) dL_law_524 ms_L_270 J_L_checksum (Nat.zero_le _) (Nat.zero_le _) (Nat.le_of_ble_eq_true rfl) rfl (Nat.le_of_ble_eq_true rfl) (List.forall_mem_cons.mpr ⟨rfl, fun _ h9 => absurd h9 List.not_mem_nil⟩) (Nat.le_of_ble_eq_true rfl) rfl pn_L_checksum rfl k
theorem S_law_527 {kc ks : Nat} {h : Hh} {Q : PQ} {X : PX} {xs0 : Int} {xs1 : Int}
    (k : (((if xs0 < xs1 then 1 else if xs1 = xs0 then 0 else -1) ≠ 0 → am_V M_L_law kc ks 544 [aU, aU, aU, aU, aU, aU, aU, aU, aU, aU, aU, aU, aU, aU, aU, aU] [] (RM WM wd) h Q X) ∧ ((if xs0 < xs1 then 1 else if xs1 = xs0 then 0 else -1) = 0 → am_V M_L_isSound 0 0 0 [aR 0] [] (RM WM wd) h (fun v ρ' h' => am_V M_L_law kc ks 535 [aU, aU, aU, aU, aU, aU, aU, aU, aU, aU, aU, aU, aU, aU, aU, aU] (v ++ []) ρ' h' Q X) X))) :
    am_V M_L_law kc ks 527 [aU, aR 0, aU, aU, aU, aU, aU, aU, aU, aU, aU, aU, aU, aU, aU, aU] [aL xs0, aL xs1] (RM WM wd) h Q X := by
  refine v_lcmp dL_law_527 ?_
  refine v_if_ne (tgt := 544) dL_law_528 (by decide) (fun z => ?_) (fun z => ?_)
  · have k := k.1 z
    refine v_weak (E2 := [aU, aU, aU, aU, aU, aU, aU, aU, aU, aU, aU, aU, aU, aU, aU, aU]) ⟨Or.inl rfl, ⟨Or.inr rfl, ⟨Or.inl rfl, ⟨Or.inl rfl, ⟨Or.inl rfl, ⟨Or.inl rfl, ⟨Or.inl rfl, ⟨Or.inl rfl, ⟨Or.inl rfl, ⟨Or.inl rfl, ⟨Or.inl rfl, ⟨Or.inl rfl, ⟨Or.inl rfl, ⟨Or.inl rfl, ⟨Or.inl rfl, ⟨Or.inl rfl, trivial⟩⟩⟩⟩⟩⟩⟩⟩⟩⟩⟩⟩⟩⟩⟩⟩ ?_
    exact k
  · have k := k.2 z
    refine v_aload_n dL_law_531 rfl rfl ?_
    refine v_weak (E2 := [aU, aU, aU, aU, aU, aU, aU, aU, aU, aU, aU, aU, aU, aU, aU, aU]) ⟨Or.inl rfl, ⟨Or.inr rfl, ⟨Or.inl rfl, ⟨Or.inl rfl, ⟨Or.inl rfl, ⟨Or.inl rfl, ⟨Or.inl rfl, ⟨Or.inl rfl, ⟨Or.inl rfl, ⟨Or.inl rfl, ⟨Or.inl rfl, ⟨Or.inl rfl, ⟨Or.inl rfl, ⟨Or.inl rfl, ⟨Or.inl rfl, ⟨Or.inl rfl, trivial⟩⟩⟩⟩⟩⟩⟩⟩⟩⟩⟩⟩⟩⟩⟩⟩ ?_
    exact v_callS (j := M_L_isSound) (As := [aR 0]) (st := []) (E0 := [aR 0]) dL_law_532 ms_L_272 J_L_isSound (Nat.zero_le _) (Nat.zero_le _) (Nat.le_of_ble_eq_true rfl) rfl (Nat.le_of_ble_eq_true rfl) (List.forall_mem_cons.mpr ⟨rfl, fun _ h9 => absurd h9 List.not_mem_nil⟩) (Nat.le_of_ble_eq_true rfl) rfl pn_L_isSound rfl k
theorem S_law_535 {kc ks : Nat} {h : Hh} {Q : PQ} {X : PX} {xs0 : Int}
    (k : (((if 1 < xs0 then 1 else if xs0 = 1 then 0 else -1) ≠ 0 → am_V M_L_law kc ks 544 [aU, aU, aU, aU, aU, aU, aU, aU, aU, aU, aU, aU, aU, aU, aU, aU] [] (RM WM wd) h Q X) ∧ ((if 1 < xs0 then 1 else if xs0 = 1 then 0 else -1) = 0 → am_V M_L_law kc ks 545 [aU, aU, aU, aU, aU, aU, aU, aU, aU, aU, aU, aU, aU, aU, aU, aU] [aI 1] (RM WM wd) h Q X))) :
    am_V M_L_law kc ks 535 [aU, aU, aU, aU, aU, aU, aU, aU, aU, aU, aU, aU, aU, aU, aU, aU] [aL xs0] (RM WM wd) h Q X := by
  refine v_lconst (x := 1) dL_law_535 rfl ?_
  refine v_lcmp dL_law_536 ?_
  refine v_if_ne (tgt := 544) dL_law_537 (by decide) (fun z => ?_) (fun z => ?_)
  · have k := k.1 z
    exact k
  · have k := k.2 z
    refine v_iconst dL_law_540 ⟨by decide, by decide⟩ ?_
    refine v_goto (tgt := 545) dL_law_541 (by decide) ?_
    exact k
theorem S_law_544 {kc ks : Nat} {h : Hh} {Q : PQ} {X : PX} 
    (k : am_V M_L_law kc ks 545 [aU, aU, aU, aU, aU, aU, aU, aU, aU, aU, aU, aU, aU, aU, aU, aU] [aI 0] (RM WM wd) h Q X) :
    am_V M_L_law kc ks 544 [aU, aU, aU, aU, aU, aU, aU, aU, aU, aU, aU, aU, aU, aU, aU, aU] [] (RM WM wd) h Q X := by
  refine v_iconst dL_law_544 ⟨by decide, by decide⟩ ?_
  exact k
theorem S_law_545 {kc ks : Nat} {h : Hh} {Q : PQ} {X : PX} {xs0 : Int}
    (k : Q [aI xs0] (RM WM wd) h) :
    am_V M_L_law kc ks 545 [aU, aU, aU, aU, aU, aU, aU, aU, aU, aU, aU, aU, aU, aU, aU, aU] [aI xs0] (RM WM wd) h Q X := by
  exact v_lawret dL_law_545 rfl k
