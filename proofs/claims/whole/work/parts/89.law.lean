/-! THE LAW, case by case -/
def LWF (h : Hh) (x : Int) : Prop := 0 ≤ x ∧ x ≤ h 1001 0 - 10 ∧ h 1001 0 ≤ 5120 ∧ ∀ j, am_i (h 1000 j)
def LWK (h : Hh) (x : Int) (kc ks : Nat) (Q : PQ) (X : PX) : Prop := ∀ (kc' ks' : Nat) (h' : Hh), kc ≤ kc' + 4 → ks ≤ ks' + 24 → SIM h' → h' 1000 = h 1000 → h' 1001 = h 1001 → am_V M_L_law kc' ks' 28 [aR 1000, aR 0, aR 72, aR 81, aR 82, aI (x + 10), aU, aU, aU] [] am_R0 h' Q X
theorem emr (x : Int) : 0 ≤ x % 65536 ∧ x % 65536 < 65536 := ⟨Int.emod_nonneg _ (by decide), Int.emod_lt_of_pos _ (by decide)⟩
theorem dcmp_self0 {y : UInt64} (h : vf_n64 y) : (Op.cmpValue (FP.dcmp y y) CmpOp.l).toInt = 0 := by
  have h2 : FP.Core.dIsNaN y = false := Jvm.Free.Fl.noNaN64_no.mp h
  have h3 : FP.dcmp y y = some .eq := FP.Core.dcmp_self (Jvm.Free.Fl.val64_no.mp h)
  rw [h3]
  rfl
theorem law_c272 {kc ks : Nat} {h : Hh} {Q : PQ} {X : PX} {x5 : Int} (hS : SIM h) (hW : LWF h x5) (hkc : 4 ≤ kc) (hks : 24 ≤ ks) (hL : LWK h x5 kc ks Q X) : am_V M_L_law kc ks 272 [aR 1000, aR 0, aR 72, aR 81, aR 82, aI x5, aU, aU, aU] [] am_R0 h Q X := by
  obtain ⟨w0, w1, w2, w3⟩ := hW
  refine S_law_272 ⟨by omega, W_type hS (emr _) (Nat.le_refl _) (Nat.le_refl _) fun c g e0 e1 gm => S_law_284 ?_⟩
  rw [e0, e1]
  refine ⟨by omega, v_same rfl (gm _ _ _ _ (fun b h2 c1 c2 c3 s2 f0 f1 => S_law_297 (S_X11_thrown_0 (S_law_303 ?_))))⟩
  rw [c1]
  exact ⟨fun _ => ⟨fun z => ⟨by omega, hL _ _ h2 (by omega) (by omega) s2 (f0.trans e0) (f1.trans e1)⟩, fun z => ⟨by decide, fun _ => ⟨by omega, hL _ _ h2 (by omega) (by omega) s2 (f0.trans e0) (f1.trans e1)⟩, fun y => absurd (by rw [show b = h2 81 0 from by rw [c3]; exact c2 z, if_neg (Int.lt_irrefl _), if_pos rfl]) y⟩⟩, fun z => absurd rfl z⟩
theorem law_c330 {kc ks : Nat} {h : Hh} {Q : PQ} {X : PX} {x5 : Int} (hS : SIM h) (hW : LWF h x5) (hkc : 4 ≤ kc) (hks : 24 ≤ ks) (hL : LWK h x5 kc ks Q X) : am_V M_L_law kc ks 330 [aR 1000, aR 0, aR 72, aR 81, aR 82, aI x5, aU, aU, aU] [] am_R0 h Q X := by
  obtain ⟨w0, w1, w2, w3⟩ := hW
  refine S_law_330 ⟨by omega, W_typeMore hS (emr _) (emr _) (emr _) (emr _) (emr _) (emr _) (emr _) (emr _) (Nat.le_refl _) (Nat.le_refl _) fun c g e0 e1 gm => S_law_401 ?_⟩
  rw [e0, e1]
  refine ⟨by omega, v_same rfl (gm _ _ _ _ (fun b h2 c1 c2 c3 s2 f0 f1 => S_law_473 (S_X11_thrown_0 (S_law_479 ?_))))⟩
  rw [c1]
  exact ⟨fun _ => ⟨fun z => ⟨by omega, hL _ _ h2 (by omega) (by omega) s2 (f0.trans e0) (f1.trans e1)⟩, fun z => ⟨by decide, fun _ => ⟨by omega, hL _ _ h2 (by omega) (by omega) s2 (f0.trans e0) (f1.trans e1)⟩, fun y => absurd (by rw [show b = h2 81 0 from by rw [c3]; exact c2 z, if_neg (Int.lt_irrefl _), if_pos rfl]) y⟩⟩, fun z => absurd rfl z⟩
theorem law_c506 {kc ks : Nat} {h : Hh} {Q : PQ} {X : PX} {x5 : Int} (hS : SIM h) (hW : LWF h x5) (hkc : 4 ≤ kc) (hks : 24 ≤ ks) (hL : LWK h x5 kc ks Q X) : am_V M_L_law kc ks 506 [aR 1000, aR 0, aR 72, aR 81, aR 82, aI x5, aU, aU, aU] [] am_R0 h Q X := by
  obtain ⟨w0, w1, w2, w3⟩ := hW
  refine S_law_506 (v_same rfl (v_mono (T_wipe hS) (fun v ρ' h' z => ?_) (fun _ _ _ z => z)))
  obtain ⟨y, rfl, rfl, g⟩ := z
  refine fun e0 e1 => S_law_510 (v_same rfl (g _ _ _ _ (fun h2 s2 f0 f1 => S_law_514 ?_)))
  exact ⟨fun _ => ⟨by omega, hL _ _ h2 (by omega) (by omega) s2 (f0.trans e0) (f1.trans e1)⟩, fun z => absurd rfl z⟩
theorem law_c519 {kc ks : Nat} {h : Hh} {Q : PQ} {X : PX} {x5 : Int} (hS : SIM h) (hW : LWF h x5) (hkc : 4 ≤ kc) (hks : 24 ≤ ks) (hL : LWK h x5 kc ks Q X) : am_V M_L_law kc ks 519 [aR 1000, aR 0, aR 72, aR 81, aR 82, aI x5, aU, aU, aU] [] am_R0 h Q X := by
  obtain ⟨w0, w1, w2, w3⟩ := hW
  refine S_law_519 ⟨by omega, W_typed hS (Nat.le_refl _) (Nat.le_refl _) fun c g e0 e1 gm => S_law_530 ?_⟩
  rw [e0, e1]
  refine ⟨by omega, v_same rfl (gm _ _ _ _ (fun b h2 c1 c2 c3 s2 f0 f1 => S_law_542 (S_X11_thrown_0 (S_law_548 ?_))))⟩
  rw [c1]
  exact ⟨fun _ => ⟨fun z => ⟨by omega, hL _ _ h2 (by omega) (by omega) s2 (f0.trans e0) (f1.trans e1)⟩, fun z => ⟨by decide, fun _ => ⟨by omega, hL _ _ h2 (by omega) (by omega) s2 (f0.trans e0) (f1.trans e1)⟩, fun y => absurd (by rw [show b = h2 81 0 from by rw [c3]; exact c2 z, if_neg (Int.lt_irrefl _), if_pos rfl]) y⟩⟩, fun z => absurd rfl z⟩
theorem law_c575 {kc ks : Nat} {h : Hh} {Q : PQ} {X : PX} {x5 : Int} (hS : SIM h) (hW : LWF h x5) (hkc : 4 ≤ kc) (hks : 24 ≤ ks) (hL : LWK h x5 kc ks Q X) : am_V M_L_law kc ks 575 [aR 1000, aR 0, aR 72, aR 81, aR 82, aI x5, aU, aU, aU] [] am_R0 h Q X := by
  obtain ⟨w0, w1, w2, w3⟩ := hW
  refine S_law_575 ⟨by omega, W_text hS (Nat.le_refl _) (Nat.le_refl _) fun c g e0 e1 gm => S_law_580 ?_⟩
  refine v_same rfl (gm _ _ _ _ (fun b h2 c1 c2 c3 s2 f0 f1 => S_law_586 (S_X11_thrown_0 (S_law_592 ?_))))
  rw [c1]
  exact ⟨fun _ => ⟨fun z => ⟨by omega, hL _ _ h2 (by omega) (by omega) s2 (f0.trans e0) (f1.trans e1)⟩, fun z => ⟨by decide, fun _ => ⟨by omega, hL _ _ h2 (by omega) (by omega) s2 (f0.trans e0) (f1.trans e1)⟩, fun y => absurd (by rw [show b = h2 81 0 from by rw [c3]; exact c2 z, if_neg (Int.lt_irrefl _), if_pos rfl]) y⟩⟩, fun z => absurd rfl z⟩
theorem law_c619 {kc ks : Nat} {h : Hh} {Q : PQ} {X : PX} {x5 : Int} (hS : SIM h) (hW : LWF h x5) (hkc : 4 ≤ kc) (hks : 24 ≤ ks) (hL : LWK h x5 kc ks Q X) : am_V M_L_law kc ks 619 [aR 1000, aR 0, aR 72, aR 81, aR 82, aI x5, aU, aU, aU] [] am_R0 h Q X := by
  obtain ⟨w0, w1, w2, w3⟩ := hW
  refine S_law_619 ⟨by omega, W_take hS (Nat.le_refl _) (Nat.le_refl _) fun c g e0 e1 gm => S_law_630 ?_⟩
  rw [e0, e1]
  refine ⟨by omega, v_same rfl (gm _ _ _ _ (fun b h2 c1 c2 c3 s2 f0 f1 => S_law_642 (S_X11_thrown_0 (S_law_648 ?_))))⟩
  rw [c1]
  exact ⟨fun _ => ⟨fun z => ⟨by omega, hL _ _ h2 (by omega) (by omega) s2 (f0.trans e0) (f1.trans e1)⟩, fun z => ⟨by decide, fun _ => ⟨by omega, hL _ _ h2 (by omega) (by omega) s2 (f0.trans e0) (f1.trans e1)⟩, fun y => absurd (by rw [show b = h2 81 0 from by rw [c3]; exact c2 z, if_neg (Int.lt_irrefl _), if_pos rfl]) y⟩⟩, fun z => absurd rfl z⟩
theorem law_c675 {kc ks : Nat} {h : Hh} {Q : PQ} {X : PX} {x5 : Int} (hS : SIM h) (hW : LWF h x5) (hkc : 4 ≤ kc) (hks : 24 ≤ ks) (hL : LWK h x5 kc ks Q X) : am_V M_L_law kc ks 675 [aR 1000, aR 0, aR 72, aR 81, aR 82, aI x5, aU, aU, aU] [] am_R0 h Q X := by
  obtain ⟨w0, w1, w2, w3⟩ := hW
  refine S_law_675 ⟨by omega, W_length hS (Nat.le_refl _) (Nat.le_refl _) fun c g e0 e1 gm => S_law_686 ?_⟩
  rw [e0, e1]
  refine ⟨by omega, v_same rfl (gm _ _ _ _ (fun b h2 c1 c2 c3 s2 f0 f1 => S_law_698 (S_X11_thrown_0 (S_law_704 ?_))))⟩
  rw [c1]
  exact ⟨fun _ => ⟨fun z => ⟨by omega, hL _ _ h2 (by omega) (by omega) s2 (f0.trans e0) (f1.trans e1)⟩, fun z => ⟨by decide, fun _ => ⟨by omega, hL _ _ h2 (by omega) (by omega) s2 (f0.trans e0) (f1.trans e1)⟩, fun y => absurd (by rw [show b = h2 81 0 from by rw [c3]; exact c2 z, if_neg (Int.lt_irrefl _), if_pos rfl]) y⟩⟩, fun z => absurd rfl z⟩
theorem law_c731 {kc ks : Nat} {h : Hh} {Q : PQ} {X : PX} {x5 : Int} (hS : SIM h) (hW : LWF h x5) (hkc : 4 ≤ kc) (hks : 24 ≤ ks) (hL : LWK h x5 kc ks Q X) : am_V M_L_law kc ks 731 [aR 1000, aR 0, aR 72, aR 81, aR 82, aI x5, aU, aU, aU] [] am_R0 h Q X := by
  obtain ⟨w0, w1, w2, w3⟩ := hW
  refine S_law_731 ⟨by omega, W_signAt hS (Nat.le_refl _) (Nat.le_refl _) fun c g e0 e1 gm => S_law_748 ?_⟩
  rw [e0, e1]
  refine ⟨by omega, v_same rfl (gm _ _ _ _ (fun b h2 c1 c2 c3 s2 f0 f1 => S_law_766 (S_X11_thrown_0 (S_law_772 ?_))))⟩
  rw [c1]
  exact ⟨fun _ => ⟨fun z => ⟨by omega, hL _ _ h2 (by omega) (by omega) s2 (f0.trans e0) (f1.trans e1)⟩, fun z => ⟨by decide, fun _ => ⟨by omega, hL _ _ h2 (by omega) (by omega) s2 (f0.trans e0) (f1.trans e1)⟩, fun y => absurd (by rw [show b = h2 81 0 from by rw [c3]; exact c2 z, if_neg (Int.lt_irrefl _), if_pos rfl]) y⟩⟩, fun z => absurd rfl z⟩
theorem law_c799 {kc ks : Nat} {h : Hh} {Q : PQ} {X : PX} {x5 : Int} (hS : SIM h) (hW : LWF h x5) (hkc : 4 ≤ kc) (hks : 24 ≤ ks) (hL : LWK h x5 kc ks Q X) : am_V M_L_law kc ks 799 [aR 1000, aR 0, aR 72, aR 81, aR 82, aI x5, aU, aU, aU] [] am_R0 h Q X := by
  obtain ⟨w0, w1, w2, w3⟩ := hW
  refine S_law_799 ⟨by omega, W_join hS (Nat.le_refl _) (Nat.le_refl _) fun c g e0 e1 gm => S_law_816 ?_⟩
  rw [e0, e1]
  refine ⟨by omega, v_same rfl (gm _ _ _ _ (fun b h2 c1 c2 c3 s2 f0 f1 => S_law_834 (S_X11_thrown_0 (S_law_840 ?_))))⟩
  rw [c1]
  exact ⟨fun _ => ⟨fun z => ⟨by omega, hL _ _ h2 (by omega) (by omega) s2 (f0.trans e0) (f1.trans e1)⟩, fun z => ⟨by decide, fun _ => ⟨by omega, hL _ _ h2 (by omega) (by omega) s2 (f0.trans e0) (f1.trans e1)⟩, fun y => absurd (by rw [show b = h2 81 0 from by rw [c3]; exact c2 z, if_neg (Int.lt_irrefl _), if_pos rfl]) y⟩⟩, fun z => absurd rfl z⟩
theorem law_c867 {kc ks : Nat} {h : Hh} {Q : PQ} {X : PX} {x5 : Int} (hS : SIM h) (hW : LWF h x5) (hkc : 4 ≤ kc) (hks : 24 ≤ ks) (hL : LWK h x5 kc ks Q X) : am_V M_L_law kc ks 867 [aR 1000, aR 0, aR 72, aR 81, aR 82, aI x5, aU, aU, aU] [] am_R0 h Q X := by
  obtain ⟨w0, w1, w2, w3⟩ := hW
  refine S_law_867 ⟨by omega, W_mirror hS (Nat.le_refl _) (Nat.le_refl _) fun c g e0 e1 gm => S_law_878 ?_⟩
  rw [e0, e1]
  refine ⟨by omega, v_same rfl (gm _ _ _ _ (fun b h2 c1 c2 c3 s2 f0 f1 => S_law_890 (S_X11_thrown_0 (S_law_896 ?_))))⟩
  rw [c1]
  exact ⟨fun _ => ⟨fun z => ⟨by omega, hL _ _ h2 (by omega) (by omega) s2 (f0.trans e0) (f1.trans e1)⟩, fun z => ⟨by decide, fun _ => ⟨by omega, hL _ _ h2 (by omega) (by omega) s2 (f0.trans e0) (f1.trans e1)⟩, fun y => absurd (by rw [show b = h2 81 0 from by rw [c3]; exact c2 z, if_neg (Int.lt_irrefl _), if_pos rfl]) y⟩⟩, fun z => absurd rfl z⟩
theorem law_c923 {kc ks : Nat} {h : Hh} {Q : PQ} {X : PX} {x5 : Int} (hS : SIM h) (hW : LWF h x5) (hkc : 4 ≤ kc) (hks : 24 ≤ ks) (hL : LWK h x5 kc ks Q X) : am_V M_L_law kc ks 923 [aR 1000, aR 0, aR 72, aR 81, aR 82, aI x5, aU, aU, aU] [] am_R0 h Q X := by
  obtain ⟨w0, w1, w2, w3⟩ := hW
  refine S_law_923 ⟨by omega, W_change hS (emr _) (Nat.le_refl _) (Nat.le_refl _) fun c g e0 e1 gm => S_law_947 ?_⟩
  rw [e0, e1]
  refine ⟨by omega, v_same rfl (gm _ _ _ _ (fun b h2 c1 c2 c3 s2 f0 f1 => S_law_972 (S_X11_thrown_0 (S_law_978 ?_))))⟩
  rw [c1]
  exact ⟨fun _ => ⟨fun z => ⟨by omega, hL _ _ h2 (by omega) (by omega) s2 (f0.trans e0) (f1.trans e1)⟩, fun z => ⟨by decide, fun _ => ⟨by omega, hL _ _ h2 (by omega) (by omega) s2 (f0.trans e0) (f1.trans e1)⟩, fun y => absurd (by rw [show b = h2 81 0 from by rw [c3]; exact c2 z, if_neg (Int.lt_irrefl _), if_pos rfl]) y⟩⟩, fun z => absurd rfl z⟩
theorem law_c1005 {kc ks : Nat} {h : Hh} {Q : PQ} {X : PX} {x5 : Int} (hS : SIM h) (hW : LWF h x5) (hkc : 4 ≤ kc) (hks : 24 ≤ ks) (hL : LWK h x5 kc ks Q X) : am_V M_L_law kc ks 1005 [aR 1000, aR 0, aR 72, aR 81, aR 82, aI x5, aU, aU, aU] [] am_R0 h Q X := by
  obtain ⟨w0, w1, w2, w3⟩ := hW
  refine S_law_1005 ⟨by omega, W_ahead hS (emr _) (Nat.le_refl _) (Nat.le_refl _) fun c g e0 e1 gm => S_law_1023 ?_⟩
  rw [e0, e1]
  refine ⟨by omega, v_same rfl (gm _ _ _ _ (fun b h2 c1 c2 c3 s2 f0 f1 => S_law_1042 (S_X11_thrown_0 (S_law_1048 ?_))))⟩
  rw [c1]
  exact ⟨fun _ => ⟨fun z => ⟨by omega, hL _ _ h2 (by omega) (by omega) s2 (f0.trans e0) (f1.trans e1)⟩, fun z => ⟨by decide, fun _ => ⟨by omega, hL _ _ h2 (by omega) (by omega) s2 (f0.trans e0) (f1.trans e1)⟩, fun y => absurd (by rw [show b = h2 81 0 from by rw [c3]; exact c2 z, if_neg (Int.lt_irrefl _), if_pos rfl]) y⟩⟩, fun z => absurd rfl z⟩
theorem law_c1075 {kc ks : Nat} {h : Hh} {Q : PQ} {X : PX} {x5 : Int} (hS : SIM h) (hW : LWF h x5) (hkc : 4 ≤ kc) (hks : 24 ≤ ks) (hL : LWK h x5 kc ks Q X) : am_V M_L_law kc ks 1075 [aR 1000, aR 0, aR 72, aR 81, aR 82, aI x5, aU, aU, aU] [] am_R0 h Q X := by
  obtain ⟨w0, w1, w2, w3⟩ := hW
  refine S_law_1075 ⟨by omega, W_chop hS (Nat.le_refl _) (Nat.le_refl _) fun c g e0 e1 gm => S_law_1086 ?_⟩
  rw [e0, e1]
  refine ⟨by omega, v_same rfl (gm _ _ _ _ (fun b h2 c1 c2 c3 s2 f0 f1 => S_law_1098 (S_X11_thrown_0 (S_law_1104 ?_))))⟩
  rw [c1]
  exact ⟨fun _ => ⟨fun z => ⟨by omega, hL _ _ h2 (by omega) (by omega) s2 (f0.trans e0) (f1.trans e1)⟩, fun z => ⟨by decide, fun _ => ⟨by omega, hL _ _ h2 (by omega) (by omega) s2 (f0.trans e0) (f1.trans e1)⟩, fun y => absurd (by rw [show b = h2 81 0 from by rw [c3]; exact c2 z, if_neg (Int.lt_irrefl _), if_pos rfl]) y⟩⟩, fun z => absurd rfl z⟩
theorem law_c1131 {kc ks : Nat} {h : Hh} {Q : PQ} {X : PX} {x5 : Int} (hS : SIM h) (hW : LWF h x5) (hkc : 4 ≤ kc) (hks : 24 ≤ ks) (hL : LWK h x5 kc ks Q X) : am_V M_L_law kc ks 1131 [aR 1000, aR 0, aR 72, aR 81, aR 82, aI x5, aU, aU, aU] [] am_R0 h Q X := by
  obtain ⟨w0, w1, w2, w3⟩ := hW
  refine S_law_1131 ⟨by omega, W_endAt hS (Nat.le_refl _) (Nat.le_refl _) fun c g e0 e1 gm => S_law_1148 ?_⟩
  rw [e0, e1]
  refine ⟨by omega, v_same rfl (gm _ _ _ _ (fun b h2 c1 c2 c3 s2 f0 f1 => S_law_1166 (S_X11_thrown_0 (S_law_1172 ?_))))⟩
  rw [c1]
  exact ⟨fun _ => ⟨fun z => ⟨by omega, hL _ _ h2 (by omega) (by omega) s2 (f0.trans e0) (f1.trans e1)⟩, fun z => ⟨by decide, fun _ => ⟨by omega, hL _ _ h2 (by omega) (by omega) s2 (f0.trans e0) (f1.trans e1)⟩, fun y => absurd (by rw [show b = h2 81 0 from by rw [c3]; exact c2 z, if_neg (Int.lt_irrefl _), if_pos rfl]) y⟩⟩, fun z => absurd rfl z⟩
theorem law_c1199 {kc ks : Nat} {h : Hh} {Q : PQ} {X : PX} {x5 : Int} (hS : SIM h) (hW : LWF h x5) (hkc : 4 ≤ kc) (hks : 24 ≤ ks) (hL : LWK h x5 kc ks Q X) : am_V M_L_law kc ks 1199 [aR 1000, aR 0, aR 72, aR 81, aR 82, aI x5, aU, aU, aU] [] am_R0 h Q X := by
  obtain ⟨w0, w1, w2, w3⟩ := hW
  refine S_law_1199 ⟨by omega, W_rankOf hS (Nat.le_refl _) (Nat.le_refl _) fun c g e0 e1 gm => S_law_1216 ?_⟩
  rw [e0, e1]
  refine ⟨by omega, v_same rfl (gm _ _ _ _ (fun b h2 c1 c2 c3 s2 f0 f1 => S_law_1234 (S_X11_thrown_0 (S_law_1240 ?_))))⟩
  rw [c1]
  exact ⟨fun _ => ⟨fun z => ⟨by omega, hL _ _ h2 (by omega) (by omega) s2 (f0.trans e0) (f1.trans e1)⟩, fun z => ⟨by decide, fun _ => ⟨by omega, hL _ _ h2 (by omega) (by omega) s2 (f0.trans e0) (f1.trans e1)⟩, fun y => absurd (by rw [show b = h2 81 0 from by rw [c3]; exact c2 z, if_neg (Int.lt_irrefl _), if_pos rfl]) y⟩⟩, fun z => absurd rfl z⟩
theorem law_c1267 {kc ks : Nat} {h : Hh} {Q : PQ} {X : PX} {x5 : Int} (hS : SIM h) (hW : LWF h x5) (hkc : 4 ≤ kc) (hks : 24 ≤ ks) (hL : LWK h x5 kc ks Q X) : am_V M_L_law kc ks 1267 [aR 1000, aR 0, aR 72, aR 81, aR 82, aI x5, aU, aU, aU] [] am_R0 h Q X := by
  obtain ⟨w0, w1, w2, w3⟩ := hW
  refine S_law_1267 ⟨by omega, W_classOf hS (Nat.le_refl _) (Nat.le_refl _) fun c g e0 e1 gm => S_law_1290 ?_⟩
  rw [e0, e1]
  refine ⟨by omega, v_same rfl (gm _ _ _ _ (fun b h2 c1 c2 c3 s2 f0 f1 => S_law_1314 (S_X11_thrown_0 (S_law_1320 ?_))))⟩
  rw [c1]
  exact ⟨fun _ => ⟨fun z => ⟨by omega, hL _ _ h2 (by omega) (by omega) s2 (f0.trans e0) (f1.trans e1)⟩, fun z => ⟨by decide, fun _ => ⟨by omega, hL _ _ h2 (by omega) (by omega) s2 (f0.trans e0) (f1.trans e1)⟩, fun y => absurd (by rw [show b = h2 81 0 from by rw [c3]; exact c2 z, if_neg (Int.lt_irrefl _), if_pos rfl]) y⟩⟩, fun z => absurd rfl z⟩
theorem law_c1347 {kc ks : Nat} {h : Hh} {Q : PQ} {X : PX} {x5 : Int} (hS : SIM h) (hW : LWF h x5) (hkc : 4 ≤ kc) (hks : 24 ≤ ks) (hL : LWK h x5 kc ks Q X) : am_V M_L_law kc ks 1347 [aR 1000, aR 0, aR 72, aR 81, aR 82, aI x5, aU, aU, aU] [] am_R0 h Q X := by
  obtain ⟨w0, w1, w2, w3⟩ := hW
  refine S_law_1347 ⟨by omega, W_classes hS (Nat.le_refl _) (Nat.le_refl _) fun c g e0 e1 gm => S_law_1364 ?_⟩
  rw [e0, e1]
  refine ⟨by omega, v_same rfl (gm _ _ _ _ (fun b h2 c1 c2 c3 s2 f0 f1 => S_law_1382 (S_X11_thrown_0 (S_law_1388 ?_))))⟩
  rw [c1]
  exact ⟨fun _ => ⟨fun z => ⟨by omega, hL _ _ h2 (by omega) (by omega) s2 (f0.trans e0) (f1.trans e1)⟩, fun z => ⟨by decide, fun _ => ⟨by omega, hL _ _ h2 (by omega) (by omega) s2 (f0.trans e0) (f1.trans e1)⟩, fun y => absurd (by rw [show b = h2 81 0 from by rw [c3]; exact c2 z, if_neg (Int.lt_irrefl _), if_pos rfl]) y⟩⟩, fun z => absurd rfl z⟩
theorem law_c1415 {kc ks : Nat} {h : Hh} {Q : PQ} {X : PX} {x5 : Int} (hS : SIM h) (hW : LWF h x5) (hkc : 4 ≤ kc) (hks : 24 ≤ ks) (hL : LWK h x5 kc ks Q X) : am_V M_L_law kc ks 1415 [aR 1000, aR 0, aR 72, aR 81, aR 82, aI x5, aU, aU, aU] [] am_R0 h Q X := by
  obtain ⟨w0, w1, w2, w3⟩ := hW
  refine S_law_1415 ⟨by omega, W_rounds hS (Nat.le_refl _) (Nat.le_refl _) fun c g e0 e1 gm => S_law_1426 ?_⟩
  rw [e0, e1]
  refine ⟨by omega, v_same rfl (gm _ _ _ _ (fun b h2 c1 c2 c3 s2 f0 f1 => S_law_1438 (S_X11_thrown_0 (S_law_1444 ?_))))⟩
  rw [c1]
  exact ⟨fun _ => ⟨fun z => ⟨by omega, hL _ _ h2 (by omega) (by omega) s2 (f0.trans e0) (f1.trans e1)⟩, fun z => ⟨by decide, fun _ => ⟨by omega, hL _ _ h2 (by omega) (by omega) s2 (f0.trans e0) (f1.trans e1)⟩, fun y => absurd (by rw [show b = h2 81 0 from by rw [c3]; exact c2 z, if_neg (Int.lt_irrefl _), if_pos rfl]) y⟩⟩, fun z => absurd rfl z⟩
theorem law_c1471 {kc ks : Nat} {h : Hh} {Q : PQ} {X : PX} {x5 : Int} (hS : SIM h) (hW : LWF h x5) (hkc : 4 ≤ kc) (hks : 24 ≤ ks) (hL : LWK h x5 kc ks Q X) : am_V M_L_law kc ks 1471 [aR 1000, aR 0, aR 72, aR 81, aR 82, aI x5, aU, aU, aU] [] am_R0 h Q X := by
  obtain ⟨w0, w1, w2, w3⟩ := hW
  refine S_law_1471 ⟨by omega, W_common hS (Nat.le_refl _) (Nat.le_refl _) fun c g e0 e1 gm => S_law_1488 ?_⟩
  rw [e0, e1]
  refine ⟨by omega, v_same rfl (gm _ _ _ _ (fun b h2 c1 c2 c3 s2 f0 f1 => S_law_1506 (S_X11_thrown_0 (S_law_1512 ?_))))⟩
  rw [c1]
  exact ⟨fun _ => ⟨fun z => ⟨by omega, hL _ _ h2 (by omega) (by omega) s2 (f0.trans e0) (f1.trans e1)⟩, fun z => ⟨by decide, fun _ => ⟨by omega, hL _ _ h2 (by omega) (by omega) s2 (f0.trans e0) (f1.trans e1)⟩, fun y => absurd (by rw [show b = h2 81 0 from by rw [c3]; exact c2 z, if_neg (Int.lt_irrefl _), if_pos rfl]) y⟩⟩, fun z => absurd rfl z⟩
theorem law_c1539 {kc ks : Nat} {h : Hh} {Q : PQ} {X : PX} {x5 : Int} (hS : SIM h) (hW : LWF h x5) (hkc : 4 ≤ kc) (hks : 24 ≤ ks) (hL : LWK h x5 kc ks Q X) : am_V M_L_law kc ks 1539 [aR 1000, aR 0, aR 72, aR 81, aR 82, aI x5, aU, aU, aU] [] am_R0 h Q X := by
  obtain ⟨w0, w1, w2, w3⟩ := hW
  refine S_law_1539 ⟨by omega, W_shared hS (Nat.le_refl _) (Nat.le_refl _) fun c g e0 e1 gm => S_law_1568 ?_⟩
  rw [e0, e1]
  refine ⟨by omega, v_same rfl (gm _ _ _ _ (fun b h2 c1 c2 c3 s2 f0 f1 => S_law_1598 (S_X11_thrown_0 (S_law_1604 ?_))))⟩
  rw [c1]
  exact ⟨fun _ => ⟨fun z => ⟨by omega, hL _ _ h2 (by omega) (by omega) s2 (f0.trans e0) (f1.trans e1)⟩, fun z => ⟨by decide, fun _ => ⟨by omega, hL _ _ h2 (by omega) (by omega) s2 (f0.trans e0) (f1.trans e1)⟩, fun y => absurd (by rw [show b = h2 81 0 from by rw [c3]; exact c2 z, if_neg (Int.lt_irrefl _), if_pos rfl]) y⟩⟩, fun z => absurd rfl z⟩
theorem law_c1631 {kc ks : Nat} {h : Hh} {Q : PQ} {X : PX} {x5 : Int} (hS : SIM h) (hW : LWF h x5) (hkc : 4 ≤ kc) (hks : 24 ≤ ks) (hL : LWK h x5 kc ks Q X) : am_V M_L_law kc ks 1631 [aR 1000, aR 0, aR 72, aR 81, aR 82, aI x5, aU, aU, aU] [] am_R0 h Q X := by
  obtain ⟨w0, w1, w2, w3⟩ := hW
  refine S_law_1631 ⟨by omega, W_count hS (Nat.le_refl _) (Nat.le_refl _) fun c g e0 e1 gm => S_law_1642 ?_⟩
  rw [e0, e1]
  refine ⟨by omega, v_same rfl (gm _ _ _ _ (fun b h2 c1 c2 c3 s2 f0 f1 => S_law_1654 (S_X11_thrown_0 (S_law_1660 ?_))))⟩
  rw [c1]
  exact ⟨fun _ => ⟨fun z => ⟨by omega, hL _ _ h2 (by omega) (by omega) s2 (f0.trans e0) (f1.trans e1)⟩, fun z => ⟨by decide, fun _ => ⟨by omega, hL _ _ h2 (by omega) (by omega) s2 (f0.trans e0) (f1.trans e1)⟩, fun y => absurd (by rw [show b = h2 81 0 from by rw [c3]; exact c2 z, if_neg (Int.lt_irrefl _), if_pos rfl]) y⟩⟩, fun z => absurd rfl z⟩
theorem law_c1687 {kc ks : Nat} {h : Hh} {Q : PQ} {X : PX} {x5 : Int} (hS : SIM h) (hW : LWF h x5) (hkc : 4 ≤ kc) (hks : 24 ≤ ks) (hL : LWK h x5 kc ks Q X) : am_V M_L_law kc ks 1687 [aR 1000, aR 0, aR 72, aR 81, aR 82, aI x5, aU, aU, aU] [] am_R0 h Q X := by
  obtain ⟨w0, w1, w2, w3⟩ := hW
  refine S_law_1687 ⟨by omega, W_runFrom hS (Nat.le_refl _) (Nat.le_refl _) fun c g e0 e1 gm => S_law_1698 ?_⟩
  rw [e0, e1]
  refine ⟨by omega, v_same rfl (gm _ _ _ _ (fun b h2 c1 c2 c3 s2 f0 f1 => S_law_1710 (S_X11_thrown_0 (S_law_1716 ?_))))⟩
  rw [c1]
  exact ⟨fun _ => ⟨fun z => ⟨by omega, hL _ _ h2 (by omega) (by omega) s2 (f0.trans e0) (f1.trans e1)⟩, fun z => ⟨by decide, fun _ => ⟨by omega, hL _ _ h2 (by omega) (by omega) s2 (f0.trans e0) (f1.trans e1)⟩, fun y => absurd (by rw [show b = h2 81 0 from by rw [c3]; exact c2 z, if_neg (Int.lt_irrefl _), if_pos rfl]) y⟩⟩, fun z => absurd rfl z⟩
theorem law_c1743 {kc ks : Nat} {h : Hh} {Q : PQ} {X : PX} {x5 : Int} (hS : SIM h) (hW : LWF h x5) (hkc : 4 ≤ kc) (hks : 24 ≤ ks) (hL : LWK h x5 kc ks Q X) : am_V M_L_law kc ks 1743 [aR 1000, aR 0, aR 72, aR 81, aR 82, aI x5, aU, aU, aU] [] am_R0 h Q X := by
  obtain ⟨w0, w1, w2, w3⟩ := hW
  refine S_law_1743 ⟨by omega, W_standsAt hS (w3 _) (Nat.le_refl _) (Nat.le_refl _) fun c g e0 e1 gm => S_law_1760 ?_⟩
  rw [e0, e1]
  refine ⟨by omega, v_same rfl (gm _ _ _ _ (fun b h2 c1 c2 c3 s2 f0 f1 => S_law_1778 (S_X11_thrown_0 (S_law_1784 ?_))))⟩
  rw [c1]
  exact ⟨fun _ => ⟨fun z => ⟨by omega, hL _ _ h2 (by omega) (by omega) s2 (f0.trans e0) (f1.trans e1)⟩, fun z => ⟨by decide, fun _ => ⟨by omega, hL _ _ h2 (by omega) (by omega) s2 (f0.trans e0) (f1.trans e1)⟩, fun y => absurd (by rw [show b = h2 81 0 from by rw [c3]; exact c2 z, if_neg (Int.lt_irrefl _), if_pos rfl]) y⟩⟩, fun z => absurd rfl z⟩
theorem law_c1811 {kc ks : Nat} {h : Hh} {Q : PQ} {X : PX} {x5 : Int} (hS : SIM h) (hW : LWF h x5) (hkc : 4 ≤ kc) (hks : 24 ≤ ks) (hL : LWK h x5 kc ks Q X) : am_V M_L_law kc ks 1811 [aR 1000, aR 0, aR 72, aR 81, aR 82, aI x5, aU, aU, aU] [] am_R0 h Q X := by
  obtain ⟨w0, w1, w2, w3⟩ := hW
  refine S_law_1811 ⟨by omega, W_tail hS (Nat.le_refl _) (Nat.le_refl _) fun c g e0 e1 gm => S_law_1828 ?_⟩
  rw [e0, e1]
  refine ⟨by omega, v_same rfl (gm _ _ _ _ (fun b h2 c1 c2 c3 s2 f0 f1 => S_law_1846 (S_X11_thrown_0 (S_law_1852 ?_))))⟩
  rw [c1]
  exact ⟨fun _ => ⟨fun z => ⟨by omega, hL _ _ h2 (by omega) (by omega) s2 (f0.trans e0) (f1.trans e1)⟩, fun z => ⟨by decide, fun _ => ⟨by omega, hL _ _ h2 (by omega) (by omega) s2 (f0.trans e0) (f1.trans e1)⟩, fun y => absurd (by rw [show b = h2 81 0 from by rw [c3]; exact c2 z, if_neg (Int.lt_irrefl _), if_pos rfl]) y⟩⟩, fun z => absurd rfl z⟩
theorem law_c1879 {kc ks : Nat} {h : Hh} {Q : PQ} {X : PX} {x5 : Int} (hS : SIM h) (hW : LWF h x5) (hkc : 4 ≤ kc) (hks : 24 ≤ ks) (hL : LWK h x5 kc ks Q X) : am_V M_L_law kc ks 1879 [aR 1000, aR 0, aR 72, aR 81, aR 82, aI x5, aU, aU, aU] [] am_R0 h Q X := by
  obtain ⟨w0, w1, w2, w3⟩ := hW
  refine S_law_1879 ⟨by omega, W_words hS (Nat.le_refl _) (Nat.le_refl _) fun c g e0 e1 gm => S_law_1890 ?_⟩
  rw [e0, e1]
  refine ⟨by omega, v_same rfl (gm _ _ _ _ (fun b h2 c1 c2 c3 s2 f0 f1 => S_law_1902 (S_X11_thrown_0 (S_law_1908 ?_))))⟩
  rw [c1]
  exact ⟨fun _ => ⟨fun z => ⟨by omega, hL _ _ h2 (by omega) (by omega) s2 (f0.trans e0) (f1.trans e1)⟩, fun z => ⟨by decide, fun _ => ⟨by omega, hL _ _ h2 (by omega) (by omega) s2 (f0.trans e0) (f1.trans e1)⟩, fun y => absurd (by rw [show b = h2 81 0 from by rw [c3]; exact c2 z, if_neg (Int.lt_irrefl _), if_pos rfl]) y⟩⟩, fun z => absurd rfl z⟩
theorem law_c1934 {kc ks : Nat} {h : Hh} {Q : PQ} {X : PX} {x5 : Int} (hS : SIM h) (hW : LWF h x5) (hkc : 4 ≤ kc) (hks : 24 ≤ ks) (hL : LWK h x5 kc ks Q X) : am_V M_L_law kc ks 1934 [aR 1000, aR 0, aR 72, aR 81, aR 82, aI x5, aU, aU, aU] [] am_R0 h Q X := by
  obtain ⟨w0, w1, w2, w3⟩ := hW
  refine S_law_1934 ⟨by omega, W_word hS (w3 _) (Nat.le_refl _) (Nat.le_refl _) fun c g e0 e1 gm => S_law_1951 ?_⟩
  rw [e0, e1]
  refine ⟨by omega, v_same rfl (gm _ _ _ _ (fun b h2 c1 c2 c3 s2 f0 f1 => S_law_1969 (S_X11_thrown_0 (S_law_1975 ?_))))⟩
  rw [c1]
  exact ⟨fun _ => ⟨fun z => ⟨by omega, hL _ _ h2 (by omega) (by omega) s2 (f0.trans e0) (f1.trans e1)⟩, fun z => ⟨by decide, fun _ => ⟨by omega, hL _ _ h2 (by omega) (by omega) s2 (f0.trans e0) (f1.trans e1)⟩, fun y => absurd (by rw [show b = h2 81 0 from by rw [c3]; exact c2 z, if_neg (Int.lt_irrefl _), if_pos rfl]) y⟩⟩, fun z => absurd rfl z⟩
theorem law_c2002 {kc ks : Nat} {h : Hh} {Q : PQ} {X : PX} {x5 : Int} (hS : SIM h) (hW : LWF h x5) (hkc : 4 ≤ kc) (hks : 24 ≤ ks) (hL : LWK h x5 kc ks Q X) : am_V M_L_law kc ks 2002 [aR 1000, aR 0, aR 72, aR 81, aR 82, aI x5, aU, aU, aU] [] am_R0 h Q X := by
  obtain ⟨w0, w1, w2, w3⟩ := hW
  refine S_law_2002 ⟨by omega, W_numberOf hS (Nat.le_refl _) (Nat.le_refl _) fun c g e0 e1 gm => S_law_2013 ?_⟩
  rw [e0, e1]
  refine ⟨by omega, v_same rfl (gm _ _ _ _ (fun b h2 c1 c2 c3 s2 f0 f1 => S_law_2025 (S_X11_thrown_0 (S_law_2031 ?_))))⟩
  rw [c1]
  exact ⟨fun _ => ⟨fun z => ⟨by omega, hL _ _ h2 (by omega) (by omega) s2 (f0.trans e0) (f1.trans e1)⟩, fun z => ⟨by decide, fun _ => ⟨by omega, hL _ _ h2 (by omega) (by omega) s2 (f0.trans e0) (f1.trans e1)⟩, fun y => absurd (by rw [show b = h2 81 0 from by rw [c3]; exact c2 z, if_neg (Int.lt_irrefl _), if_pos rfl]) y⟩⟩, fun z => absurd rfl z⟩
theorem law_c2058 {kc ks : Nat} {h : Hh} {Q : PQ} {X : PX} {x5 : Int} (hS : SIM h) (hW : LWF h x5) (hkc : 4 ≤ kc) (hks : 24 ≤ ks) (hL : LWK h x5 kc ks Q X) : am_V M_L_law kc ks 2058 [aR 1000, aR 0, aR 72, aR 81, aR 82, aI x5, aU, aU, aU] [] am_R0 h Q X := by
  obtain ⟨w0, w1, w2, w3⟩ := hW
  refine S_law_2058 ⟨by omega, W_twice hS (Nat.le_refl _) (Nat.le_refl _) fun c g e0 e1 gm => S_law_2069 ?_⟩
  rw [e0, e1]
  refine ⟨by omega, v_same rfl (gm _ _ _ _ (fun b h2 c1 c2 c3 s2 f0 f1 => S_law_2081 (S_X11_thrown_0 (S_law_2087 ?_))))⟩
  rw [c1]
  exact ⟨fun _ => ⟨fun z => ⟨by omega, hL _ _ h2 (by omega) (by omega) s2 (f0.trans e0) (f1.trans e1)⟩, fun z => ⟨by decide, fun _ => ⟨by omega, hL _ _ h2 (by omega) (by omega) s2 (f0.trans e0) (f1.trans e1)⟩, fun y => absurd (by rw [show b = h2 81 0 from by rw [c3]; exact c2 z, if_neg (Int.lt_irrefl _), if_pos rfl]) y⟩⟩, fun z => absurd rfl z⟩
theorem law_c2114 {kc ks : Nat} {h : Hh} {Q : PQ} {X : PX} {x5 : Int} (hS : SIM h) (hW : LWF h x5) (hkc : 4 ≤ kc) (hks : 24 ≤ ks) (hL : LWK h x5 kc ks Q X) : am_V M_L_law kc ks 2114 [aR 1000, aR 0, aR 72, aR 81, aR 82, aI x5, aU, aU, aU] [] am_R0 h Q X := by
  obtain ⟨w0, w1, w2, w3⟩ := hW
  refine S_law_2114 ⟨by omega, W_twiceAt hS (Nat.le_refl _) (Nat.le_refl _) fun c g e0 e1 gm => S_law_2125 ?_⟩
  rw [e0, e1]
  refine ⟨by omega, v_same rfl (gm _ _ _ _ (fun b h2 c1 c2 c3 s2 f0 f1 => S_law_2137 (S_X11_thrown_0 (S_law_2143 ?_))))⟩
  rw [c1]
  exact ⟨fun _ => ⟨fun z => ⟨by omega, hL _ _ h2 (by omega) (by omega) s2 (f0.trans e0) (f1.trans e1)⟩, fun z => ⟨by decide, fun _ => ⟨by omega, hL _ _ h2 (by omega) (by omega) s2 (f0.trans e0) (f1.trans e1)⟩, fun y => absurd (by rw [show b = h2 81 0 from by rw [c3]; exact c2 z, if_neg (Int.lt_irrefl _), if_pos rfl]) y⟩⟩, fun z => absurd rfl z⟩
theorem law_c2170 {kc ks : Nat} {h : Hh} {Q : PQ} {X : PX} {x5 : Int} (hS : SIM h) (hW : LWF h x5) (hkc : 4 ≤ kc) (hks : 24 ≤ ks) (hL : LWK h x5 kc ks Q X) : am_V M_L_law kc ks 2170 [aR 1000, aR 0, aR 72, aR 81, aR 82, aI x5, aU, aU, aU] [] am_R0 h Q X := by
  obtain ⟨w0, w1, w2, w3⟩ := hW
  refine S_law_2170 ⟨by omega, W_once hS (Nat.le_refl _) (Nat.le_refl _) fun c g e0 e1 gm => S_law_2181 ?_⟩
  rw [e0, e1]
  refine ⟨by omega, v_same rfl (gm _ _ _ _ (fun b h2 c1 c2 c3 s2 f0 f1 => S_law_2193 (S_X11_thrown_0 (S_law_2199 ?_))))⟩
  rw [c1]
  exact ⟨fun _ => ⟨fun z => ⟨by omega, hL _ _ h2 (by omega) (by omega) s2 (f0.trans e0) (f1.trans e1)⟩, fun z => ⟨by decide, fun _ => ⟨by omega, hL _ _ h2 (by omega) (by omega) s2 (f0.trans e0) (f1.trans e1)⟩, fun y => absurd (by rw [show b = h2 81 0 from by rw [c3]; exact c2 z, if_neg (Int.lt_irrefl _), if_pos rfl]) y⟩⟩, fun z => absurd rfl z⟩
theorem law_c2226 {kc ks : Nat} {h : Hh} {Q : PQ} {X : PX} {x5 : Int} (hS : SIM h) (hW : LWF h x5) (hkc : 4 ≤ kc) (hks : 24 ≤ ks) (hL : LWK h x5 kc ks Q X) : am_V M_L_law kc ks 2226 [aR 1000, aR 0, aR 72, aR 81, aR 82, aI x5, aU, aU, aU] [] am_R0 h Q X := by
  obtain ⟨w0, w1, w2, w3⟩ := hW
  refine S_law_2226 ⟨by omega, W_onceAt hS (Nat.le_refl _) (Nat.le_refl _) fun c g e0 e1 gm => S_law_2237 ?_⟩
  rw [e0, e1]
  refine ⟨by omega, v_same rfl (gm _ _ _ _ (fun b h2 c1 c2 c3 s2 f0 f1 => S_law_2249 (S_X11_thrown_0 (S_law_2255 ?_))))⟩
  rw [c1]
  exact ⟨fun _ => ⟨fun z => ⟨by omega, hL _ _ h2 (by omega) (by omega) s2 (f0.trans e0) (f1.trans e1)⟩, fun z => ⟨by decide, fun _ => ⟨by omega, hL _ _ h2 (by omega) (by omega) s2 (f0.trans e0) (f1.trans e1)⟩, fun y => absurd (by rw [show b = h2 81 0 from by rw [c3]; exact c2 z, if_neg (Int.lt_irrefl _), if_pos rfl]) y⟩⟩, fun z => absurd rfl z⟩
theorem law_c2282 {kc ks : Nat} {h : Hh} {Q : PQ} {X : PX} {x5 : Int} (hS : SIM h) (hW : LWF h x5) (hkc : 4 ≤ kc) (hks : 24 ≤ ks) (hL : LWK h x5 kc ks Q X) : am_V M_L_law kc ks 2282 [aR 1000, aR 0, aR 72, aR 81, aR 82, aI x5, aU, aU, aU] [] am_R0 h Q X := by
  obtain ⟨w0, w1, w2, w3⟩ := hW
  refine S_law_2282 ⟨by omega, W_longestIn hS (Nat.le_refl _) (Nat.le_refl _) fun c g e0 e1 gm => S_law_2293 ?_⟩
  rw [e0, e1]
  refine ⟨by omega, v_same rfl (gm _ _ _ _ (fun b h2 c1 c2 c3 s2 f0 f1 => S_law_2305 (S_X11_thrown_0 (S_law_2311 ?_))))⟩
  rw [c1]
  exact ⟨fun _ => ⟨fun z => ⟨by omega, hL _ _ h2 (by omega) (by omega) s2 (f0.trans e0) (f1.trans e1)⟩, fun z => ⟨by decide, fun _ => ⟨by omega, hL _ _ h2 (by omega) (by omega) s2 (f0.trans e0) (f1.trans e1)⟩, fun y => absurd (by rw [show b = h2 81 0 from by rw [c3]; exact c2 z, if_neg (Int.lt_irrefl _), if_pos rfl]) y⟩⟩, fun z => absurd rfl z⟩
theorem law_c2338 {kc ks : Nat} {h : Hh} {Q : PQ} {X : PX} {x5 : Int} (hS : SIM h) (hW : LWF h x5) (hkc : 4 ≤ kc) (hks : 24 ≤ ks) (hL : LWK h x5 kc ks Q X) : am_V M_L_law kc ks 2338 [aR 1000, aR 0, aR 72, aR 81, aR 82, aI x5, aU, aU, aU] [] am_R0 h Q X := by
  obtain ⟨w0, w1, w2, w3⟩ := hW
  refine S_law_2338 ⟨by omega, W_first hS (Nat.le_refl _) (Nat.le_refl _) fun c g e0 e1 gm => S_law_2355 ?_⟩
  rw [e0, e1]
  refine ⟨by omega, v_same rfl (gm _ _ _ _ (fun b h2 c1 c2 c3 s2 f0 f1 => S_law_2373 (S_X11_thrown_0 (S_law_2379 ?_))))⟩
  rw [c1]
  exact ⟨fun _ => ⟨fun z => ⟨by omega, hL _ _ h2 (by omega) (by omega) s2 (f0.trans e0) (f1.trans e1)⟩, fun z => ⟨by decide, fun _ => ⟨by omega, hL _ _ h2 (by omega) (by omega) s2 (f0.trans e0) (f1.trans e1)⟩, fun y => absurd (by rw [show b = h2 81 0 from by rw [c3]; exact c2 z, if_neg (Int.lt_irrefl _), if_pos rfl]) y⟩⟩, fun z => absurd rfl z⟩
theorem law_c2406 {kc ks : Nat} {h : Hh} {Q : PQ} {X : PX} {x5 : Int} (hS : SIM h) (hW : LWF h x5) (hkc : 4 ≤ kc) (hks : 24 ≤ ks) (hL : LWK h x5 kc ks Q X) : am_V M_L_law kc ks 2406 [aR 1000, aR 0, aR 72, aR 81, aR 82, aI x5, aU, aU, aU] [] am_R0 h Q X := by
  obtain ⟨w0, w1, w2, w3⟩ := hW
  refine S_law_2406 ⟨by omega, W_last hS (Nat.le_refl _) (Nat.le_refl _) fun c g e0 e1 gm => S_law_2423 ?_⟩
  rw [e0, e1]
  refine ⟨by omega, v_same rfl (gm _ _ _ _ (fun b h2 c1 c2 c3 s2 f0 f1 => S_law_2441 (S_X11_thrown_0 (S_law_2447 ?_))))⟩
  rw [c1]
  exact ⟨fun _ => ⟨fun z => ⟨by omega, hL _ _ h2 (by omega) (by omega) s2 (f0.trans e0) (f1.trans e1)⟩, fun z => ⟨by decide, fun _ => ⟨by omega, hL _ _ h2 (by omega) (by omega) s2 (f0.trans e0) (f1.trans e1)⟩, fun y => absurd (by rw [show b = h2 81 0 from by rw [c3]; exact c2 z, if_neg (Int.lt_irrefl _), if_pos rfl]) y⟩⟩, fun z => absurd rfl z⟩
theorem law_c2474 {kc ks : Nat} {h : Hh} {Q : PQ} {X : PX} {x5 : Int} (hS : SIM h) (hW : LWF h x5) (hkc : 4 ≤ kc) (hks : 24 ≤ ks) (hL : LWK h x5 kc ks Q X) : am_V M_L_law kc ks 2474 [aR 1000, aR 0, aR 72, aR 81, aR 82, aI x5, aU, aU, aU] [] am_R0 h Q X := by
  obtain ⟨w0, w1, w2, w3⟩ := hW
  refine S_law_2474 ⟨by omega, W_back hS (Nat.le_refl _) (Nat.le_refl _) fun c g e0 e1 gm => S_law_2491 ?_⟩
  rw [e0, e1]
  refine ⟨by omega, v_same rfl (gm _ _ _ _ (fun b h2 c1 c2 c3 s2 f0 f1 => S_law_2509 (S_X11_thrown_0 (S_law_2515 ?_))))⟩
  rw [c1]
  exact ⟨fun _ => ⟨fun z => ⟨by omega, hL _ _ h2 (by omega) (by omega) s2 (f0.trans e0) (f1.trans e1)⟩, fun z => ⟨by decide, fun _ => ⟨by omega, hL _ _ h2 (by omega) (by omega) s2 (f0.trans e0) (f1.trans e1)⟩, fun y => absurd (by rw [show b = h2 81 0 from by rw [c3]; exact c2 z, if_neg (Int.lt_irrefl _), if_pos rfl]) y⟩⟩, fun z => absurd rfl z⟩
theorem law_c2542 {kc ks : Nat} {h : Hh} {Q : PQ} {X : PX} {x5 : Int} (hS : SIM h) (hW : LWF h x5) (hkc : 4 ≤ kc) (hks : 24 ≤ ks) (hL : LWK h x5 kc ks Q X) : am_V M_L_law kc ks 2542 [aR 1000, aR 0, aR 72, aR 81, aR 82, aI x5, aU, aU, aU] [] am_R0 h Q X := by
  obtain ⟨w0, w1, w2, w3⟩ := hW
  refine S_law_2542 ⟨by omega, W_runs hS (Nat.le_refl _) (Nat.le_refl _) fun c g e0 e1 gm => S_law_2553 ?_⟩
  rw [e0, e1]
  refine ⟨by omega, v_same rfl (gm _ _ _ _ (fun b h2 c1 c2 c3 s2 f0 f1 => S_law_2565 (S_X11_thrown_0 (S_law_2571 ?_))))⟩
  rw [c1]
  exact ⟨fun _ => ⟨fun z => ⟨by omega, hL _ _ h2 (by omega) (by omega) s2 (f0.trans e0) (f1.trans e1)⟩, fun z => ⟨by decide, fun _ => ⟨by omega, hL _ _ h2 (by omega) (by omega) s2 (f0.trans e0) (f1.trans e1)⟩, fun y => absurd (by rw [show b = h2 81 0 from by rw [c3]; exact c2 z, if_neg (Int.lt_irrefl _), if_pos rfl]) y⟩⟩, fun z => absurd rfl z⟩
theorem law_c2598 {kc ks : Nat} {h : Hh} {Q : PQ} {X : PX} {x5 : Int} (hS : SIM h) (hW : LWF h x5) (hkc : 4 ≤ kc) (hks : 24 ≤ ks) (hL : LWK h x5 kc ks Q X) : am_V M_L_law kc ks 2598 [aR 1000, aR 0, aR 72, aR 81, aR 82, aI x5, aU, aU, aU] [] am_R0 h Q X := by
  obtain ⟨w0, w1, w2, w3⟩ := hW
  refine S_law_2598 ⟨by omega, W_front hS (Nat.le_refl _) (Nat.le_refl _) fun c g e0 e1 gm => S_law_2615 ?_⟩
  rw [e0, e1]
  refine ⟨by omega, v_same rfl (gm _ _ _ _ (fun b h2 c1 c2 c3 s2 f0 f1 => S_law_2633 (S_X11_thrown_0 (S_law_2639 ?_))))⟩
  rw [c1]
  exact ⟨fun _ => ⟨fun z => ⟨by omega, hL _ _ h2 (by omega) (by omega) s2 (f0.trans e0) (f1.trans e1)⟩, fun z => ⟨by decide, fun _ => ⟨by omega, hL _ _ h2 (by omega) (by omega) s2 (f0.trans e0) (f1.trans e1)⟩, fun y => absurd (by rw [show b = h2 81 0 from by rw [c3]; exact c2 z, if_neg (Int.lt_irrefl _), if_pos rfl]) y⟩⟩, fun z => absurd rfl z⟩
theorem law_c2666 {kc ks : Nat} {h : Hh} {Q : PQ} {X : PX} {x5 : Int} (hS : SIM h) (hW : LWF h x5) (hkc : 4 ≤ kc) (hks : 24 ≤ ks) (hL : LWK h x5 kc ks Q X) : am_V M_L_law kc ks 2666 [aR 1000, aR 0, aR 72, aR 81, aR 82, aI x5, aU, aU, aU] [] am_R0 h Q X := by
  obtain ⟨w0, w1, w2, w3⟩ := hW
  refine S_law_2666 ⟨by omega, W_column hS (Nat.le_refl _) (Nat.le_refl _) fun c g e0 e1 gm => S_law_2677 ?_⟩
  rw [e0, e1]
  refine ⟨by omega, v_same rfl (gm _ _ _ _ (fun b h2 c1 c2 c3 s2 f0 f1 => S_law_2689 (S_X11_thrown_0 (S_law_2695 ?_))))⟩
  rw [c1]
  exact ⟨fun _ => ⟨fun z => ⟨by omega, hL _ _ h2 (by omega) (by omega) s2 (f0.trans e0) (f1.trans e1)⟩, fun z => ⟨by decide, fun _ => ⟨by omega, hL _ _ h2 (by omega) (by omega) s2 (f0.trans e0) (f1.trans e1)⟩, fun y => absurd (by rw [show b = h2 81 0 from by rw [c3]; exact c2 z, if_neg (Int.lt_irrefl _), if_pos rfl]) y⟩⟩, fun z => absurd rfl z⟩
theorem law_c2722 {kc ks : Nat} {h : Hh} {Q : PQ} {X : PX} {x5 : Int} (hS : SIM h) (hW : LWF h x5) (hkc : 4 ≤ kc) (hks : 24 ≤ ks) (hL : LWK h x5 kc ks Q X) : am_V M_L_law kc ks 2722 [aR 1000, aR 0, aR 72, aR 81, aR 82, aI x5, aU, aU, aU] [] am_R0 h Q X := by
  obtain ⟨w0, w1, w2, w3⟩ := hW
  refine S_law_2722 ⟨by omega, W_undo hS (Nat.le_refl _) (Nat.le_refl _) fun c g e0 e1 gm => S_law_2727 ?_⟩
  refine v_same rfl (gm _ _ _ _ (fun b h2 c1 c2 c3 s2 f0 f1 => S_law_2733 (S_X11_thrown_0 (S_law_2739 ?_))))
  rw [c1]
  exact ⟨fun _ => ⟨fun z => ⟨by omega, hL _ _ h2 (by omega) (by omega) s2 (f0.trans e0) (f1.trans e1)⟩, fun z => ⟨by decide, fun _ => ⟨by omega, hL _ _ h2 (by omega) (by omega) s2 (f0.trans e0) (f1.trans e1)⟩, fun y => absurd (by rw [show b = h2 81 0 from by rw [c3]; exact c2 z, if_neg (Int.lt_irrefl _), if_pos rfl]) y⟩⟩, fun z => absurd rfl z⟩
theorem law_c2766 {kc ks : Nat} {h : Hh} {Q : PQ} {X : PX} {x5 : Int} (hS : SIM h) (hW : LWF h x5) (hkc : 4 ≤ kc) (hks : 24 ≤ ks) (hL : LWK h x5 kc ks Q X) : am_V M_L_law kc ks 2766 [aR 1000, aR 0, aR 72, aR 81, aR 82, aI x5, aU, aU, aU] [] am_R0 h Q X := by
  obtain ⟨w0, w1, w2, w3⟩ := hW
  refine S_law_2766 ⟨by omega, W_squares hS (Nat.le_refl _) (Nat.le_refl _) fun c g e0 e1 gm => S_law_2777 ?_⟩
  rw [e0, e1]
  refine ⟨by omega, v_same rfl (gm _ _ _ _ (fun b h2 c1 c2 c3 s2 f0 f1 => S_law_2789 (S_X11_thrown_0 (S_law_2795 ?_))))⟩
  rw [c1]
  exact ⟨fun _ => ⟨fun z => ⟨by omega, hL _ _ h2 (by omega) (by omega) s2 (f0.trans e0) (f1.trans e1)⟩, fun z => ⟨by decide, fun _ => ⟨by omega, hL _ _ h2 (by omega) (by omega) s2 (f0.trans e0) (f1.trans e1)⟩, fun y => absurd (by rw [show b = h2 81 0 from by rw [c3]; exact c2 z, if_neg (Int.lt_irrefl _), if_pos rfl]) y⟩⟩, fun z => absurd rfl z⟩
theorem law_c2822 {kc ks : Nat} {h : Hh} {Q : PQ} {X : PX} {x5 : Int} (hS : SIM h) (hW : LWF h x5) (hkc : 4 ≤ kc) (hks : 24 ≤ ks) (hL : LWK h x5 kc ks Q X) : am_V M_L_law kc ks 2822 [aR 1000, aR 0, aR 72, aR 81, aR 82, aI x5, aU, aU, aU] [] am_R0 h Q X := by
  obtain ⟨w0, w1, w2, w3⟩ := hW
  refine S_law_2822 ⟨by omega, W_squareAt hS (Nat.le_refl _) (Nat.le_refl _) fun c g e0 e1 gm => S_law_2839 ?_⟩
  rw [e0, e1]
  refine ⟨by omega, v_same rfl (gm _ _ _ _ (fun b h2 c1 c2 c3 s2 f0 f1 => S_law_2857 (S_X11_thrown_0 (S_law_2863 ?_))))⟩
  rw [c1]
  exact ⟨fun _ => ⟨fun z => ⟨by omega, hL _ _ h2 (by omega) (by omega) s2 (f0.trans e0) (f1.trans e1)⟩, fun z => ⟨by decide, fun _ => ⟨by omega, hL _ _ h2 (by omega) (by omega) s2 (f0.trans e0) (f1.trans e1)⟩, fun y => absurd (by rw [show b = h2 81 0 from by rw [c3]; exact c2 z, if_neg (Int.lt_irrefl _), if_pos rfl]) y⟩⟩, fun z => absurd rfl z⟩
theorem law_c2890 {kc ks : Nat} {h : Hh} {Q : PQ} {X : PX} {x5 : Int} (hS : SIM h) (hW : LWF h x5) (hkc : 4 ≤ kc) (hks : 24 ≤ ks) (hL : LWK h x5 kc ks Q X) : am_V M_L_law kc ks 2890 [aR 1000, aR 0, aR 72, aR 81, aR 82, aI x5, aU, aU, aU] [] am_R0 h Q X := by
  obtain ⟨w0, w1, w2, w3⟩ := hW
  refine S_law_2890 ⟨by omega, W_period hS (Nat.le_refl _) (Nat.le_refl _) fun c g e0 e1 gm => S_law_2901 ?_⟩
  rw [e0, e1]
  refine ⟨by omega, v_same rfl (gm _ _ _ _ (fun b h2 c1 c2 c3 s2 f0 f1 => S_law_2913 (S_X11_thrown_0 (S_law_2919 ?_))))⟩
  rw [c1]
  exact ⟨fun _ => ⟨fun z => ⟨by omega, hL _ _ h2 (by omega) (by omega) s2 (f0.trans e0) (f1.trans e1)⟩, fun z => ⟨by decide, fun _ => ⟨by omega, hL _ _ h2 (by omega) (by omega) s2 (f0.trans e0) (f1.trans e1)⟩, fun y => absurd (by rw [show b = h2 81 0 from by rw [c3]; exact c2 z, if_neg (Int.lt_irrefl _), if_pos rfl]) y⟩⟩, fun z => absurd rfl z⟩
theorem law_c2946 {kc ks : Nat} {h : Hh} {Q : PQ} {X : PX} {x5 : Int} (hS : SIM h) (hW : LWF h x5) (hkc : 4 ≤ kc) (hks : 24 ≤ ks) (hL : LWK h x5 kc ks Q X) : am_V M_L_law kc ks 2946 [aR 1000, aR 0, aR 72, aR 81, aR 82, aI x5, aU, aU, aU] [] am_R0 h Q X := by
  obtain ⟨w0, w1, w2, w3⟩ := hW
  refine S_law_2946 ⟨by omega, W_turnAt hS (Nat.le_refl _) (Nat.le_refl _) fun c g e0 e1 gm => S_law_2957 ?_⟩
  rw [e0, e1]
  refine ⟨by omega, v_same rfl (gm _ _ _ _ (fun b h2 c1 c2 c3 s2 f0 f1 => S_law_2969 (S_X11_thrown_0 (S_law_2975 ?_))))⟩
  rw [c1]
  exact ⟨fun _ => ⟨fun z => ⟨by omega, hL _ _ h2 (by omega) (by omega) s2 (f0.trans e0) (f1.trans e1)⟩, fun z => ⟨by decide, fun _ => ⟨by omega, hL _ _ h2 (by omega) (by omega) s2 (f0.trans e0) (f1.trans e1)⟩, fun y => absurd (by rw [show b = h2 81 0 from by rw [c3]; exact c2 z, if_neg (Int.lt_irrefl _), if_pos rfl]) y⟩⟩, fun z => absurd rfl z⟩
theorem law_c3002 {kc ks : Nat} {h : Hh} {Q : PQ} {X : PX} {x5 : Int} (hS : SIM h) (hW : LWF h x5) (hkc : 4 ≤ kc) (hks : 24 ≤ ks) (hL : LWK h x5 kc ks Q X) : am_V M_L_law kc ks 3002 [aR 1000, aR 0, aR 72, aR 81, aR 82, aI x5, aU, aU, aU] [] am_R0 h Q X := by
  obtain ⟨w0, w1, w2, w3⟩ := hW
  refine S_law_3002 ⟨by omega, W_parts hS (Nat.le_refl _) (Nat.le_refl _) fun c g e0 e1 gm => S_law_3013 ?_⟩
  rw [e0, e1]
  refine ⟨by omega, v_same rfl (gm _ _ _ _ (fun b h2 c1 c2 c3 s2 f0 f1 => S_law_3025 (S_X11_thrown_0 (S_law_3031 ?_))))⟩
  rw [c1]
  exact ⟨fun _ => ⟨fun z => ⟨by omega, hL _ _ h2 (by omega) (by omega) s2 (f0.trans e0) (f1.trans e1)⟩, fun z => ⟨by decide, fun _ => ⟨by omega, hL _ _ h2 (by omega) (by omega) s2 (f0.trans e0) (f1.trans e1)⟩, fun y => absurd (by rw [show b = h2 81 0 from by rw [c3]; exact c2 z, if_neg (Int.lt_irrefl _), if_pos rfl]) y⟩⟩, fun z => absurd rfl z⟩
theorem law_c3058 {kc ks : Nat} {h : Hh} {Q : PQ} {X : PX} {x5 : Int} (hS : SIM h) (hW : LWF h x5) (hkc : 4 ≤ kc) (hks : 24 ≤ ks) (hL : LWK h x5 kc ks Q X) : am_V M_L_law kc ks 3058 [aR 1000, aR 0, aR 72, aR 81, aR 82, aI x5, aU, aU, aU] [] am_R0 h Q X := by
  obtain ⟨w0, w1, w2, w3⟩ := hW
  refine S_law_3058 ⟨by omega, W_partAt hS (Nat.le_refl _) (Nat.le_refl _) fun c g e0 e1 gm => S_law_3075 ?_⟩
  rw [e0, e1]
  refine ⟨by omega, v_same rfl (gm _ _ _ _ (fun b h2 c1 c2 c3 s2 f0 f1 => S_law_3093 (S_X11_thrown_0 (S_law_3099 ?_))))⟩
  rw [c1]
  exact ⟨fun _ => ⟨fun z => ⟨by omega, hL _ _ h2 (by omega) (by omega) s2 (f0.trans e0) (f1.trans e1)⟩, fun z => ⟨by decide, fun _ => ⟨by omega, hL _ _ h2 (by omega) (by omega) s2 (f0.trans e0) (f1.trans e1)⟩, fun y => absurd (by rw [show b = h2 81 0 from by rw [c3]; exact c2 z, if_neg (Int.lt_irrefl _), if_pos rfl]) y⟩⟩, fun z => absurd rfl z⟩
theorem law_c3126 {kc ks : Nat} {h : Hh} {Q : PQ} {X : PX} {x5 : Int} (hS : SIM h) (hW : LWF h x5) (hkc : 4 ≤ kc) (hks : 24 ≤ ks) (hL : LWK h x5 kc ks Q X) : am_V M_L_law kc ks 3126 [aR 1000, aR 0, aR 72, aR 81, aR 82, aI x5, aU, aU, aU] [] am_R0 h Q X := by
  obtain ⟨w0, w1, w2, w3⟩ := hW
  refine S_law_3126 ⟨by omega, W_pieces hS (Nat.le_refl _) (Nat.le_refl _) fun c g e0 e1 gm => S_law_3137 ?_⟩
  rw [e0, e1]
  refine ⟨by omega, v_same rfl (gm _ _ _ _ (fun b h2 c1 c2 c3 s2 f0 f1 => S_law_3149 (S_X11_thrown_0 (S_law_3155 ?_))))⟩
  rw [c1]
  exact ⟨fun _ => ⟨fun z => ⟨by omega, hL _ _ h2 (by omega) (by omega) s2 (f0.trans e0) (f1.trans e1)⟩, fun z => ⟨by decide, fun _ => ⟨by omega, hL _ _ h2 (by omega) (by omega) s2 (f0.trans e0) (f1.trans e1)⟩, fun y => absurd (by rw [show b = h2 81 0 from by rw [c3]; exact c2 z, if_neg (Int.lt_irrefl _), if_pos rfl]) y⟩⟩, fun z => absurd rfl z⟩
theorem law_c3182 {kc ks : Nat} {h : Hh} {Q : PQ} {X : PX} {x5 : Int} (hS : SIM h) (hW : LWF h x5) (hkc : 4 ≤ kc) (hks : 24 ≤ ks) (hL : LWK h x5 kc ks Q X) : am_V M_L_law kc ks 3182 [aR 1000, aR 0, aR 72, aR 81, aR 82, aI x5, aU, aU, aU] [] am_R0 h Q X := by
  obtain ⟨w0, w1, w2, w3⟩ := hW
  refine S_law_3182 ⟨by omega, W_pieceLength hS (Nat.le_refl _) (Nat.le_refl _) fun c g e0 e1 gm => S_law_3199 ?_⟩
  rw [e0, e1]
  refine ⟨by omega, v_same rfl (gm _ _ _ _ (fun b h2 c1 c2 c3 s2 f0 f1 => S_law_3217 (S_X11_thrown_0 (S_law_3223 ?_))))⟩
  rw [c1]
  exact ⟨fun _ => ⟨fun z => ⟨by omega, hL _ _ h2 (by omega) (by omega) s2 (f0.trans e0) (f1.trans e1)⟩, fun z => ⟨by decide, fun _ => ⟨by omega, hL _ _ h2 (by omega) (by omega) s2 (f0.trans e0) (f1.trans e1)⟩, fun y => absurd (by rw [show b = h2 81 0 from by rw [c3]; exact c2 z, if_neg (Int.lt_irrefl _), if_pos rfl]) y⟩⟩, fun z => absurd rfl z⟩
theorem law_c3250 {kc ks : Nat} {h : Hh} {Q : PQ} {X : PX} {x5 : Int} (hS : SIM h) (hW : LWF h x5) (hkc : 4 ≤ kc) (hks : 24 ≤ ks) (hL : LWK h x5 kc ks Q X) : am_V M_L_law kc ks 3250 [aR 1000, aR 0, aR 72, aR 81, aR 82, aI x5, aU, aU, aU] [] am_R0 h Q X := by
  obtain ⟨w0, w1, w2, w3⟩ := hW
  refine S_law_3250 ⟨by omega, W_pieceFrom hS (Nat.le_refl _) (Nat.le_refl _) fun c g e0 e1 gm => S_law_3267 ?_⟩
  rw [e0, e1]
  refine ⟨by omega, v_same rfl (gm _ _ _ _ (fun b h2 c1 c2 c3 s2 f0 f1 => S_law_3285 (S_X11_thrown_0 (S_law_3291 ?_))))⟩
  rw [c1]
  exact ⟨fun _ => ⟨fun z => ⟨by omega, hL _ _ h2 (by omega) (by omega) s2 (f0.trans e0) (f1.trans e1)⟩, fun z => ⟨by decide, fun _ => ⟨by omega, hL _ _ h2 (by omega) (by omega) s2 (f0.trans e0) (f1.trans e1)⟩, fun y => absurd (by rw [show b = h2 81 0 from by rw [c3]; exact c2 z, if_neg (Int.lt_irrefl _), if_pos rfl]) y⟩⟩, fun z => absurd rfl z⟩
theorem law_c3318 {kc ks : Nat} {h : Hh} {Q : PQ} {X : PX} {x5 : Int} (hS : SIM h) (hW : LWF h x5) (hkc : 4 ≤ kc) (hks : 24 ≤ ks) (hL : LWK h x5 kc ks Q X) : am_V M_L_law kc ks 3318 [aR 1000, aR 0, aR 72, aR 81, aR 82, aI x5, aU, aU, aU] [] am_R0 h Q X := by
  obtain ⟨w0, w1, w2, w3⟩ := hW
  refine S_law_3318 ⟨by omega, W_fewest hS (Nat.le_refl _) (Nat.le_refl _) fun c g e0 e1 gm => S_law_3329 ?_⟩
  rw [e0, e1]
  refine ⟨by omega, v_same rfl (gm _ _ _ _ (fun b h2 c1 c2 c3 s2 f0 f1 => S_law_3341 (S_X11_thrown_0 (S_law_3347 ?_))))⟩
  rw [c1]
  exact ⟨fun _ => ⟨fun z => ⟨by omega, hL _ _ h2 (by omega) (by omega) s2 (f0.trans e0) (f1.trans e1)⟩, fun z => ⟨by decide, fun _ => ⟨by omega, hL _ _ h2 (by omega) (by omega) s2 (f0.trans e0) (f1.trans e1)⟩, fun y => absurd (by rw [show b = h2 81 0 from by rw [c3]; exact c2 z, if_neg (Int.lt_irrefl _), if_pos rfl]) y⟩⟩, fun z => absurd rfl z⟩
theorem law_c3374 {kc ks : Nat} {h : Hh} {Q : PQ} {X : PX} {x5 : Int} (hS : SIM h) (hW : LWF h x5) (hkc : 4 ≤ kc) (hks : 24 ≤ ks) (hL : LWK h x5 kc ks Q X) : am_V M_L_law kc ks 3374 [aR 1000, aR 0, aR 72, aR 81, aR 82, aI x5, aU, aU, aU] [] am_R0 h Q X := by
  obtain ⟨w0, w1, w2, w3⟩ := hW
  refine S_law_3374 ⟨by omega, W_commonShare hS (Nat.le_refl _) (Nat.le_refl _) fun c g e0 e1 gm => S_law_3386 ?_⟩
  rw [e0, e1]
  refine ⟨by omega, v_same rfl ?_⟩
  rcases gm with ⟨rfl, y, y1, y2, gm⟩ | ⟨hc, gm⟩
  · refine gm _ _ _ _ (fun h2 c1 c2 c3 s2 f0 f1 => S_law_3398 (S_X11_thrown_0 (S_law_3404 ?_)))
    rw [c1, c3, y2]
    have e9 : UInt64.ofNat (((FP.f2d y).toNat : Int)).toNat = FP.f2d y := by rw [Int.toNat_natCast, UInt64.ofNat_toNat]
    have e8 : (Op.cmpValue (FP.dcmp (UInt64.ofNat (((FP.f2d y).toNat : Int)).toNat) (FP.f2d y)) CmpOp.l).toInt = 0 := by
      rw [e9]
      exact dcmp_self0 ((Jvm.Free.Fl.noNaN_f2d y).mpr y1)
    exact ⟨fun _ => ⟨fun z => absurd rfl z, fun _ => ⟨⟨by decide, by decide, (Jvm.Free.Fl.noNaN_f2d y).mpr y1⟩, fun _ => ⟨by omega, hL _ _ h2 (by omega) (by omega) s2 (f0.trans e0) (f1.trans e1)⟩, fun z => absurd e8 z⟩⟩, fun z => absurd rfl z⟩
  · refine gm _ _ _ _ (fun h2 c1 c2 c3 s2 f0 f1 => S_law_3398 (S_X11_thrown_0 (S_law_3404 ?_)))
    rw [c1]
    exact ⟨fun _ => ⟨fun z => ⟨by omega, hL _ _ h2 (by omega) (by omega) s2 (f0.trans e0) (f1.trans e1)⟩, fun z => absurd z hc⟩, fun z => absurd rfl z⟩
theorem law_c3452 {kc ks : Nat} {h : Hh} {Q : PQ} {X : PX} {x5 : Int} (hS : SIM h) (hW : LWF h x5) (hkc : 4 ≤ kc) (hks : 24 ≤ ks) (hL : LWK h x5 kc ks Q X) : am_V M_L_law kc ks 3452 [aR 1000, aR 0, aR 72, aR 81, aR 82, aI x5, aU, aU, aU] [] am_R0 h Q X := by
  obtain ⟨w0, w1, w2, w3⟩ := hW
  refine S_law_3452 ⟨by omega, W_meanCommon hS (Nat.le_refl _) (Nat.le_refl _) fun c g e0 e1 gm => S_law_3464 ?_⟩
  rw [e0, e1]
  refine ⟨by omega, v_same rfl ?_⟩
  rcases gm with ⟨rfl, y, y1, y2, gm⟩ | ⟨hc, gm⟩
  · refine gm _ _ _ _ (fun h2 c1 c2 c3 s2 f0 f1 => S_law_3476 (S_X11_thrown_0 (S_law_3482 ?_)))
    rw [c1, c3, y2]
    have e9 : UInt64.ofNat (((y).toNat : Int)).toNat = y := by rw [Int.toNat_natCast, UInt64.ofNat_toNat]
    have e8 : (Op.cmpValue (FP.dcmp (UInt64.ofNat (((y).toNat : Int)).toNat) (y)) CmpOp.l).toInt = 0 := by
      rw [e9]
      exact dcmp_self0 (y1)
    exact ⟨fun _ => ⟨fun z => absurd rfl z, fun _ => ⟨by decide, fun _ => ⟨by omega, hL _ _ h2 (by omega) (by omega) s2 (f0.trans e0) (f1.trans e1)⟩, fun z => absurd e8 z⟩⟩, fun z => absurd rfl z⟩
  · refine gm _ _ _ _ (fun h2 c1 c2 c3 s2 f0 f1 => S_law_3476 (S_X11_thrown_0 (S_law_3482 ?_)))
    rw [c1]
    exact ⟨fun _ => ⟨fun z => ⟨by omega, hL _ _ h2 (by omega) (by omega) s2 (f0.trans e0) (f1.trans e1)⟩, fun z => absurd z hc⟩, fun z => absurd rfl z⟩
theorem law_c3529 {kc ks : Nat} {h : Hh} {Q : PQ} {X : PX} {x5 : Int} (hS : SIM h) (hW : LWF h x5) (hkc : 4 ≤ kc) (hks : 24 ≤ ks) (hL : LWK h x5 kc ks Q X) : am_V M_L_law kc ks 3529 [aR 1000, aR 0, aR 72, aR 81, aR 82, aI x5, aU, aU, aU] [] am_R0 h Q X := by
  obtain ⟨w0, w1, w2, w3⟩ := hW
  refine S_law_3529 (v_same rfl (v_mono (T_checksum hS) (fun v ρ' h' z => ?_) (fun _ _ _ z => z)))
  obtain ⟨y, rfl, rfl, g⟩ := z
  refine fun e0 e1 => S_law_3533 (v_same rfl (g _ _ _ _ (fun h2 s2 f0 f1 => S_law_3537 ?_)))
  exact ⟨fun _ => ⟨by omega, hL _ _ h2 (by omega) (by omega) s2 (f0.trans e0) (f1.trans e1)⟩, fun z => absurd (by rw [if_neg (Int.lt_irrefl _), if_pos rfl]) z⟩
theorem law_c3543 {kc ks : Nat} {h : Hh} {Q : PQ} {X : PX} {x5 : Int} (hS : SIM h) (hW : LWF h x5) (hkc : 4 ≤ kc) (hks : 24 ≤ ks) (hL : LWK h x5 kc ks Q X) : am_V M_L_law kc ks 3543 [aR 1000, aR 0, aR 72, aR 81, aR 82, aI x5, aU, aU, aU] [] am_R0 h Q X := by
  obtain ⟨w0, w1, w2, w3⟩ := hW
  refine S_law_3543 (v_same rfl (v_mono (T_isSound hS) (fun v ρ' h' z => ?_) (fun _ _ _ z => z)))
  obtain ⟨y, rfl, rfl, g⟩ := z
  refine fun e0 e1 => S_law_3547 (v_same rfl (g _ _ _ _ (fun h2 s2 f0 f1 => S_law_3551 ?_)))
  exact ⟨fun _ => ⟨by omega, hL _ _ h2 (by omega) (by omega) s2 (f0.trans e0) (f1.trans e1)⟩, fun z => absurd rfl z⟩
theorem law_loop {Q : PQ} {X : PX} (hQ : ∀ h : Hh, Q [aI 1] am_R0 h) : ∀ (d kc ks : Nat) (x5 : Int) (h : Hh), SIM h → 0 ≤ x5 → 5130 ≤ x5 + 10 * d → 4 * d ≤ kc → 24 * d ≤ ks → am_V M_L_law kc ks 28 [aR 1000, aR 0, aR 72, aR 81, aR 82, aI x5, aU, aU, aU] [] am_R0 h Q X := by
  intro d
  induction d with
  | zero =>
    intro kc ks x5 h hS h0 h1 _ _
    exact v_scr rfl fun g0 g1 g2 => S_law_28 ⟨by omega, fun _ => hQ h, fun z => absurd z (by omega)⟩
  | succ d ih =>
    intro kc ks x5 h hS h0 h1 h2 h3
    refine v_scr rfl fun g0 g1 g2 => S_law_28 ⟨?_, fun _ => hQ h, fun z => ?_⟩
    · by_cases y : x5 ≤ h 1001 0 <;> omega
    have hW : LWF h x5 := ⟨h0, z, g1, g2⟩
    have hL : LWK h x5 kc ks Q X := fun kc' ks' h' a b s _ _ => ih kc' ks' (x5 + 10) h' s (by omega) (by omega) (by omega) (by omega)
    exact ⟨by omega, S_law_45 ⟨fun _ => law_c272 hS hW (by omega) (by omega) hL, fun _ => law_c330 hS hW (by omega) (by omega) hL, fun _ => law_c506 hS hW (by omega) (by omega) hL, fun _ => law_c519 hS hW (by omega) (by omega) hL, fun _ => law_c575 hS hW (by omega) (by omega) hL, fun _ => law_c619 hS hW (by omega) (by omega) hL, fun _ => law_c675 hS hW (by omega) (by omega) hL, fun _ => law_c731 hS hW (by omega) (by omega) hL, fun _ => law_c799 hS hW (by omega) (by omega) hL, fun _ => law_c867 hS hW (by omega) (by omega) hL, fun _ => law_c923 hS hW (by omega) (by omega) hL, fun _ => law_c1005 hS hW (by omega) (by omega) hL, fun _ => law_c1075 hS hW (by omega) (by omega) hL, fun _ => law_c1131 hS hW (by omega) (by omega) hL, fun _ => law_c1199 hS hW (by omega) (by omega) hL, fun _ => law_c1267 hS hW (by omega) (by omega) hL, fun _ => law_c1347 hS hW (by omega) (by omega) hL, fun _ => law_c1415 hS hW (by omega) (by omega) hL, fun _ => law_c1471 hS hW (by omega) (by omega) hL, fun _ => law_c1539 hS hW (by omega) (by omega) hL, fun _ => law_c1631 hS hW (by omega) (by omega) hL, fun _ => law_c1687 hS hW (by omega) (by omega) hL, fun _ => law_c1743 hS hW (by omega) (by omega) hL, fun _ => law_c1811 hS hW (by omega) (by omega) hL, fun _ => law_c1879 hS hW (by omega) (by omega) hL, fun _ => law_c1934 hS hW (by omega) (by omega) hL, fun _ => law_c2002 hS hW (by omega) (by omega) hL, fun _ => law_c2058 hS hW (by omega) (by omega) hL, fun _ => law_c2114 hS hW (by omega) (by omega) hL, fun _ => law_c2170 hS hW (by omega) (by omega) hL, fun _ => law_c2226 hS hW (by omega) (by omega) hL, fun _ => law_c2282 hS hW (by omega) (by omega) hL, fun _ => law_c2338 hS hW (by omega) (by omega) hL, fun _ => law_c2406 hS hW (by omega) (by omega) hL, fun _ => law_c2474 hS hW (by omega) (by omega) hL, fun _ => law_c2542 hS hW (by omega) (by omega) hL, fun _ => law_c2598 hS hW (by omega) (by omega) hL, fun _ => law_c2666 hS hW (by omega) (by omega) hL, fun _ => law_c2722 hS hW (by omega) (by omega) hL, fun _ => law_c2766 hS hW (by omega) (by omega) hL, fun _ => law_c2822 hS hW (by omega) (by omega) hL, fun _ => law_c2890 hS hW (by omega) (by omega) hL, fun _ => law_c2946 hS hW (by omega) (by omega) hL, fun _ => law_c3002 hS hW (by omega) (by omega) hL, fun _ => law_c3058 hS hW (by omega) (by omega) hL, fun _ => law_c3126 hS hW (by omega) (by omega) hL, fun _ => law_c3182 hS hW (by omega) (by omega) hL, fun _ => law_c3250 hS hW (by omega) (by omega) hL, fun _ => law_c3318 hS hW (by omega) (by omega) hL, fun _ => law_c3374 hS hW (by omega) (by omega) hL, fun _ => law_c3452 hS hW (by omega) (by omega) hL, fun _ => law_c3529 hS hW (by omega) (by omega) hL, fun _ => law_c3543 hS hW (by omega) (by omega) hL, fun _ => S_law_3556 ⟨by omega, hL _ _ h (by omega) (by omega) hS rfl rfl⟩⟩⟩
/-! THE LAW, from its start to its end -/
theorem SIM.start (g0 g1 : Int → Int) : SIM (am_h0 g0 g1) := by
  have z : ∀ (b : Nat) (i : Int), b < 1000 → am_h0 g0 g1 b i = 0 := fun b i hb => am_h0_z g0 g1 b i hb
  refine ⟨?_, ?_, fun k k0 k1 => ?_, fun t t0 t1 => ?_, fun t t0 t1 => z _ _ (by unfold ta; omega)⟩
  · rw [z 0 9 (by decide), z 72 8 (by decide)]; omega
  · rw [z 2 1 (by decide), z 72 9 (by decide)]; omega
  · rw [z 2 1 (by decide)] at k1; omega
  · rw [z 0 9 (by decide)] at t1; omega
theorem law_all (g0 g1 : Int → Int) : am_V M_L_law 603072 7198826 0 [aR 1000, aU, aU, aU, aU, aU, aU, aU, aU] [] am_rho0 (am_h0 g0 g1) (fun v _ _ => v = [aI 1]) (fun _ _ _ => False) :=
  law_start g0 g1 (law_loop (fun _ => rfl) 513 602989 7188000 0 _ (SIM.start g0 g1) (Int.le_refl 0) (by decide) (by decide) (by decide))
