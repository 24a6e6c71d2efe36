theorem nw_L_12 : am_NW RL 12 8 10 := by
  refine ⟨RX10, TX10, rfl, am_mem_1 23 (by decide +kernel) rfl, am_mem_1 24 (by decide +kernel) rfl, ini_X10, ?_⟩
  exact by
    intro j hj
    match j, hj with
    | 0, _ => exact ⟨.array (.object "Suffixshelf$Text"), by decide +kernel, rfl⟩
    | 1, _ => exact ⟨.object "Suffixshelf$TypedRow", by decide +kernel, rfl⟩
    | 2, _ => exact ⟨.array .char, by decide +kernel, rfl⟩
    | 3, _ => exact ⟨.object "Suffixshelf$EndSorter", by decide +kernel, rfl⟩
    | 4, _ => exact ⟨.object "Suffixshelf$Turner", by decide +kernel, rfl⟩
    | 5, _ => exact ⟨.object "Suffixshelf$SharedWord", by decide +kernel, rfl⟩
    | 6, _ => exact ⟨.object "Suffixshelf$WordTree", by decide +kernel, rfl⟩
    | 7, _ => exact ⟨.object "Suffixshelf$PartCutter", by decide +kernel, rfl⟩
    | 8, _ => exact ⟨.object "Suffixshelf$Packer", by decide +kernel, rfl⟩
    | 9, _ => exact ⟨.int, by decide +kernel, rfl⟩
theorem il_L_208 : Cond.methodLink RL 208 yX10_init ∈ am_W0 ∧ Cond.instanceMethod yX10_init ∈ am_W0 := ⟨am_mem_1 25 (by decide +kernel) rfl, am_mem_1 26 (by decide +kernel) rfl⟩
def am_rho0 : Rho := ([], fun _ _ => none, true)
def am_h0 (g0 g1 : Int → Int) : Hh := fun a => if a = 1000 then g0 else if a = 1001 then g1 else fun _ => 0
theorem am_h0_z (g0 g1 : Int → Int) (b : Nat) (i : Int) (hb : b < 1000) : am_h0 g0 g1 b i = 0 := by
  unfold am_h0
  rw [if_neg (by omega), if_neg (by omega)]
set_option maxRecDepth 4000 in
theorem law_start (g0 g1 : Int → Int) {Q : PQ} {X : PX} (k : am_V M_L_law 600000 7200000 7 [aR 1000, aU, aU, aU, aU, aU, aU, aU, aU, aU, aU, aU, aU, aU, aU, aU] [aR 0] (RM [] true) (am_h0 g0 g1) Q X) : am_V M_L_law 600156 7296998 0 [aR 1000, aU, aU, aU, aU, aU, aU, aU, aU, aU, aU, aU, aU, aU, aU, aU] [] am_rho0 (am_h0 g0 g1) Q X := by
  refine w_new (n := 0) (ci := 8) (N := 10) (L := []) (r := fun _ _ => none) rfl dL_law_0 nw_L_12 (by decide) (fun i => am_h0_z g0 g1 0 i (by decide)) (fun i => rfl) (Nat.le_of_ble_eq_true rfl) (Nat.le_of_ble_eq_true rfl) ?_
  refine v_dupR dL_law_3 ?_
  refine v_callI (j := M_X10_init) (E0 := [aR 0, aU]) dL_law_4 il_L_208 rfl J_X10_init rfl (Nat.le_of_ble_eq_true rfl) (Nat.le_of_ble_eq_true rfl) (Nat.le_of_ble_eq_true rfl) rfl (Nat.le_of_ble_eq_true rfl) (Nat.le_of_ble_eq_true rfl) rfl (by decide) (by decide +kernel) ?_
  refine L_X10_init (fun b i _ h2 => am_h0_z g0 g1 b i h2) ?_
  show am_V M_L_law _ _ 7 [aR 1000, aU, aU, aU, aU, aU, aU, aU, aU, aU, aU, aU, aU, aU, aU, aU] [aR 0] _ (am_h0 g0 g1) Q X
  refine v_rho (RM [] true) rfl (fun _ => rfl) am_r0_lt (am_eqr_use (by decide +kernel)) ?_
  exact v_lessR (Nat.le_of_ble_eq_true rfl) (Nat.le_of_ble_eq_true rfl) k
