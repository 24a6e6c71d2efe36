/-! THE LAW, up to its loop -/
def am_rho0 : Rho := ([], fun _ _ => none, true)
def am_h0 (g0 g1 : Int → Int) : Hh := fun a => if a = 1000 then g0 else if a = 1001 then g1 else fun _ => 0
theorem nw_L_8 : am_NW RL 8 8 10 := by
  refine ⟨RX10, TX10, rfl, am_mem_1 25 (by decide +kernel) rfl, am_mem_1 26 (by decide +kernel) rfl, ini_X10, ?_⟩
  exact by
    intro j hj
    match j, hj with
    | 0, _ => exact ⟨.array (.object "Suffixshelf$Text"), by decide +kernel, rfl⟩
    | 1, _ => exact ⟨.object "Suffixshelf$TypedRow", by decide +kernel, rfl⟩
    | 2, _ => exact ⟨.array .char, by decide +kernel, rfl⟩
    | 3, _ => exact ⟨.object "Suffixshelf$EndSorter", by decide +kernel, rfl⟩
    | 4, _ => exact ⟨.object "Suffixshelf$Turner", by decide +kernel, rfl⟩
    | 5, _ => exact ⟨.object "Suffixshelf$SharedWord", by decide +kernel, rfl⟩
    | 6, _ => exact ⟨.object "Suffixshelf$WordTree", by decide +kernel, rfl⟩
    | 7, _ => exact ⟨.object "Suffixshelf$PartCutter", by decide +kernel, rfl⟩
    | 8, _ => exact ⟨.object "Suffixshelf$Packer", by decide +kernel, rfl⟩
    | 9, _ => exact ⟨.int, by decide +kernel, rfl⟩
theorem nw_L_186 : am_NW RL 186 9 11 := by
  refine ⟨RX11, TX11, rfl, am_mem_5 177 (by decide +kernel) rfl, am_mem_5 178 (by decide +kernel) rfl, ini_X11, ?_⟩
  exact by
    intro j hj
    match j, hj with
    | 0, _ => exact ⟨.array .char, by decide +kernel, rfl⟩
    | 1, _ => exact ⟨.array .int, by decide +kernel, rfl⟩
    | 2, _ => exact ⟨.array .char, by decide +kernel, rfl⟩
    | 3, _ => exact ⟨.array .int, by decide +kernel, rfl⟩
    | 4, _ => exact ⟨.array .int, by decide +kernel, rfl⟩
    | 5, _ => exact ⟨.array .int, by decide +kernel, rfl⟩
    | 6, _ => exact ⟨.array .int, by decide +kernel, rfl⟩
    | 7, _ => exact ⟨.array .char, by decide +kernel, rfl⟩
    | 8, _ => exact ⟨.int, by decide +kernel, rfl⟩
    | 9, _ => exact ⟨.int, by decide +kernel, rfl⟩
    | 10, _ => exact ⟨.int, by decide +kernel, rfl⟩
theorem il_L_185 : Cond.methodLink RL 185 yX10_init ∈ am_W0 ∧ Cond.instanceMethod yX10_init ∈ am_W0 := ⟨am_mem_1 27 (by decide +kernel) rfl, am_mem_1 28 (by decide +kernel) rfl⟩
theorem il_L_188 : Cond.methodLink RL 188 yX11_init ∈ am_W0 ∧ Cond.instanceMethod yX11_init ∈ am_W0 := ⟨am_mem_5 179 (by decide +kernel) rfl, am_mem_5 180 (by decide +kernel) rfl⟩
theorem am_h0_z (g0 g1 : Int → Int) (b : Nat) (i : Int) (hb : b < 1000) : am_h0 g0 g1 b i = 0 := by
  unfold am_h0
  rw [if_neg (by omega), if_neg (by omega)]
set_option maxRecDepth 4000 in
theorem law_start (g0 g1 : Int → Int) {Q : PQ} {X : PX} (k : am_V M_L_law 602989 7188000 28 [aR 1000, aR 0, aR 72, aR 81, aR 82, aI 0, aU, aU, aU] [] am_R0 (am_h0 g0 g1) Q X) : am_V M_L_law 603072 7198826 0 [aR 1000, aU, aU, aU, aU, aU, aU, aU, aU] [] am_rho0 (am_h0 g0 g1) Q X := by
  refine w_new (n := 0) (ci := 8) (N := 10) (L := []) (r := fun _ _ => none) rfl dL_law_0 nw_L_8 (by decide) (fun i => am_h0_z g0 g1 0 i (by decide)) (fun i => rfl) (Nat.le_of_ble_eq_true rfl) (Nat.le_of_ble_eq_true rfl) ?_
  refine v_dupR dL_law_3 ?_
  refine v_callI (j := M_X10_init) (E0 := [aR 0, aU]) dL_law_4 il_L_185 rfl J_X10_init rfl (Nat.le_of_ble_eq_true rfl) (Nat.le_of_ble_eq_true rfl) (Nat.le_of_ble_eq_true rfl) rfl (Nat.le_of_ble_eq_true rfl) (Nat.le_of_ble_eq_true rfl) rfl (by decide) (by decide +kernel) ?_
  refine L_X10_init (fun b i _ h2 => am_h0_z g0 g1 b i h2) ?_
  show am_V M_L_law _ _ 7 [aR 1000, aU, aU, aU, aU, aU, aU, aU, aU] [aR 0] _ (am_h0 g0 g1) Q X
  refine v_astore_n (E2 := [aR 1000, aR 0, aU, aU, aU, aU, aU, aU, aU]) dL_law_7 rfl (Nat.le_of_ble_eq_true rfl) rfl ?_
  refine w_new (n := 72) (ci := 9) (N := 11) rfl dL_law_8 nw_L_186 (by decide) (fun i => am_h0_z g0 g1 72 i (by decide)) (fun i => rfl) (Nat.le_of_ble_eq_true rfl) (Nat.le_of_ble_eq_true rfl) ?_
  refine v_dupR dL_law_11 ?_
  refine v_callI (j := M_X11_init) (E0 := [aR 72]) dL_law_12 il_L_188 rfl J_X11_init rfl (Nat.le_of_ble_eq_true rfl) (Nat.le_of_ble_eq_true rfl) (Nat.le_of_ble_eq_true rfl) rfl (Nat.le_of_ble_eq_true rfl) (Nat.le_of_ble_eq_true rfl) rfl (by decide) (by decide +kernel) ?_
  refine L_X11_init (a := 72) (n := 73) rfl (by decide) rfl (fun b i _ h2 => am_h0_z g0 g1 b i h2) ?_
  show am_V M_L_law _ _ 15 [aR 1000, aR 0, aU, aU, aU, aU, aU, aU, aU] [aR 72] _ (am_h0 g0 g1) Q X
  refine v_astore_n (E2 := [aR 1000, aR 0, aR 72, aU, aU, aU, aU, aU, aU]) dL_law_15 rfl (Nat.le_of_ble_eq_true rfl) rfl ?_
  refine v_iconst dL_law_16 ⟨by decide, by decide⟩ ?_
  refine w_newL (n := 81) 1 rfl dL_law_17 ac_long rfl (by decide) (by decide) (fun i => am_h0_z g0 g1 81 i (by decide)) (Nat.le_of_ble_eq_true rfl) (Nat.le_of_ble_eq_true rfl) ?_
  refine v_astore_n (E2 := [aR 1000, aR 0, aR 72, aR 81, aU, aU, aU, aU, aU]) dL_law_19 rfl (Nat.le_of_ble_eq_true rfl) rfl ?_
  refine v_iconst dL_law_20 ⟨by decide, by decide⟩ ?_
  refine w_newD (n := 82) 1 rfl dL_law_21 ac_double rfl (by decide) (by decide) (fun i => am_h0_z g0 g1 82 i (by decide)) (Nat.le_of_ble_eq_true rfl) (Nat.le_of_ble_eq_true rfl) ?_
  refine v_astore (E2 := [aR 1000, aR 0, aR 72, aR 81, aR 82, aU, aU, aU, aU]) dL_law_23 (Nat.le_of_ble_eq_true rfl) rfl ?_
  refine v_iconst dL_law_25 ⟨by decide, by decide⟩ ?_
  refine v_istore (E2 := [aR 1000, aR 0, aR 72, aR 81, aR 82, aI 0, aU, aU, aU]) dL_law_26 (Nat.le_of_ble_eq_true rfl) rfl ?_
  refine v_rho am_R0 rfl (fun z => nomatch z) am_r0_lt (am_eqr_use (by decide +kernel)) ?_
  exact v_lessR (Nat.le_of_ble_eq_true rfl) (Nat.le_of_ble_eq_true rfl) k
