/-! commonShare, meanCommon -/
theorem nn_fdiv (a b : Int) (hb : 0 < b) (hb2 : b ≤ 64) : vf_n32 (FP.fdiv (FP.i2f (Int32.ofInt a)) (FP.i2f (Int32.ofInt b))) := by
  have hz : Int32.ofInt b ≠ 0 := by
    intro e
    have := congrArg Int32.toInt e
    rw [Int32.toInt_ofInt_of_le (by omega) (by omega)] at this
    exact absurd this (by show b ≠ 0; omega)
  exact Jvm.Free.Fl.fdiv_out (Jvm.Free.Fl.i2f_fin _).noNaN (Jvm.Free.Fl.i2f_fin _) (Jvm.Free.Fl.i2f_nz hz)
theorem nn_ddiv (a b : Int) (hb : 0 < b) (hb2 : b ≤ 64) : vf_n64 (FP.ddiv (FP.i2d (Int32.ofInt a)) (FP.i2d (Int32.ofInt b))) := by
  have hz : Int32.ofInt b ≠ 0 := by
    intro e
    have := congrArg Int32.toInt e
    rw [Int32.toInt_ofInt_of_le (by omega) (by omega)] at this
    exact absurd this (by show b ≠ 0; omega)
  exact Jvm.Free.Fl.ddiv_out (Jvm.Free.Fl.i2d_fin _).noNaN (Jvm.Free.Fl.i2d_fin _) (Jvm.Free.Fl.i2d_nz hz)
/-- the model's call comes to this value -/
def GW (j : MInfo) (As : List AV) (v : List AV) (c : Int) (g : Hh) : Prop := ∀ (kc ks : Nat) (Q : PQ) (X : PX), (∀ h2 : Hh, h2 72 10 = c → h2 81 = g 81 → h2 82 = g 82 → SIM h2 → Q v am_R0 h2) → am_V j kc ks 0 As [] am_R0 g Q X
def PQf (j : MInfo) (As : List AV) : PQ := fun v ρ' h' => ∃ x : UInt32, v = [aF x] ∧ ρ' = am_R0 ∧ vf_n32 x ∧ SIM h' ∧ ∀ g, NK h' g → GW j As [aF x] 0 g
def PQd (j : MInfo) (As : List AV) : PQ := fun v ρ' h' => ∃ x : UInt64, v = [aD x] ∧ ρ' = am_R0 ∧ vf_n64 x ∧ SIM h' ∧ ∀ g, NK h' g → GW j As [aD x] 0 g
def PXg (j : MInfo) (As : List AV) (v : List AV) (es : List String) : PX := fun Ex ρ' h' => ρ' = am_R0 ∧ ∃ c : Nat, es[c]? = some Ex ∧ GW j As v ((c : Int) + 1) h'
def xAR : String := "java/lang/ArithmeticException"
theorem GW.of {j : MInfo} {As v : List AV} {c : Int} {g : Hh} (hS : SIM g) (k : ∀ (kc ks : Nat) (Q : PQ) (X : PX), (∀ h2, MK g h2 → h2 72 10 = c → Q v am_R0 h2) → am_V j kc ks 0 As [] am_R0 g Q X) : GW j As v c g := fun kc ks Q X y => k kc ks Q X (fun h2 m e => y h2 e m.c81 m.c82 (m.sim hS))
theorem M_cs_1 {kc ks : Nat} {h : Hh} {Q : PQ} {X : PX} {t : Int} {n : Nat} {s pl ra : Int → Int} (hT : MT h t n s) (hSA : SA s n pl ra) (n0 : 0 < n) (h76 : ∀ r, 0 ≤ r → r < (n : Int) → h 76 r = pl r) (hQ : Q [aF (FP.fdiv (FP.i2f (Int32.ofInt (cnt (fun r => 0 < cmv s n pl r) n))) (FP.i2f (Int32.ofInt n)))] am_R0 h) : ∀ (d i : Nat), i + d = n → am_V M_X11_commonShare kc ks 19 [aR 72, aI t, aI (cnt (fun r => 0 < cmv s n pl r) i), aI i] [] am_R0 h Q X := by
  have h64 := hT.2.1
  have hn := hT.2.2.1
  intro d
  induction d with
  | zero =>
    intro i hi
    have : i = n := by omega
    subst this
    refine S_X11_commonShare_19 ⟨hT.1, fun _ => ?_, fun z => absurd z (by omega)⟩
    rw [hn]
    have := hT.1
    exact ⟨⟨by omega, by omega, nn_fdiv _ _ (by omega) (by omega)⟩, hQ⟩
  | succ d ih =>
    intro i hi
    have hle := cnt_le (fun r => 0 < cmv s n pl r) i
    have hnext := ih (i + 1) (by omega)
    refine S_X11_commonShare_19 ⟨hT.1, fun z => absurd z (by omega), fun _ => M_commonAt hT hSA (by omega) (by omega) h76 (S_X11_commonShare_36 ⟨fun z => ⟨by omega, ?_⟩, fun z => ⟨by omega, ?_⟩⟩)⟩
    · rw [cnt_f (P := fun r => 0 < cmv s n pl r) (show ¬ 0 < cmv s n pl i by omega)] at hnext
      rw [Int.add_zero]
      exact hnext
    · rw [cnt_t (P := fun r => 0 < cmv s n pl r) (show 0 < cmv s n pl i by omega)] at hnext
      exact hnext
theorem T_commonShare {kc ks : Nat} {h : Hh} {t : Int} (hS : SIM h) (hkc : 2 ≤ kc) (hks : 12 ≤ ks) : am_V M_X10_commonShare kc ks 0 [aR 0, aI t, aU, aU] [] am_R0 h (PQf M_X11_commonShare [aR 72, aI t, aU, aU]) (PXg M_X11_commonShare [aR 72, aI t, aU, aU] [aF 0] [xIO, xAR]) := by
  by_cases z : isTx h t
  · obtain ⟨n, s, pl, ra, hC, hM⟩ := hS.txt z
    obtain ⟨ct0, n64, cn, e1, e2, e3, hs, hSA, hcm⟩ := id hC
    refine S_X10_commonShare_0 ⟨by omega, C_known hS z (by omega) (by omega) (S_X10_commonShare_5 hC.1 ?_)⟩
    rw [cn]
    refine ⟨fun n0 => ⟨(by omega), C_unlike hC (K := 1) (by omega) (by omega) (S_X10_commonShare_39 ct0 ?_)⟩, fun n0 => ⟨⟨by omega, by omega⟩, rfl, 1, rfl, GW.of hS fun kc ks Q X k => S_X11_commonShare_0 (M_isEmpty2 hS z (fun w => w.2 (by rw [hM.2.2.1]; exact n0)) fun h2 m y => S_X11_commonShare_5 ⟨fun w => absurd w (by decide), fun _ => k h2 m y⟩)⟩⟩
    rw [show ((n : Int) - 1 + 1).toNat = n by omega, cn]
    have ec : (n : Int) - (Uc s n pl 1 n : Nat) = cnt (fun r => 0 < cmv s n pl r) n := by
      have a := cnt_not (fun r => cmv s n pl r < 1) n
      have b : cnt (fun r => ¬ cmv s n pl r < 1) n = cnt (fun r => 0 < cmv s n pl r) n := cnt_congr n (fun r _ _ => by omega)
      unfold Uc
      omega
    rw [ec]
    have hle := cnt_le (fun r => 0 < cmv s n pl r) n
    refine ⟨⟨by omega, nn_fdiv _ _ (by omega) (by omega)⟩, _, rfl, rfl, nn_fdiv _ _ (by omega) (by omega), hS, fun g hN => GW.of (hN.sim hS) fun kc ks Q X k => ?_⟩
    refine S_X11_commonShare_0 (M_isEmpty1 (hN.sim hS) (hN.e.mpr ⟨z, by rw [hM.2.2.1]; exact n0⟩) fun h2 m y => S_X11_commonShare_5 ⟨fun _ => M_sorts (m.mt (hN.mt hM)) hSA (fun h3 f3 h76 => S_X11_commonShare_15 ?_), fun w => absurd rfl w⟩)
    exact M_cs_1 ((m.mt (hN.mt hM)).of (f3 73 (by decide)) (f3 74 (by decide))) hSA (by omega) h76 (k h3 (m.tr (MK.so f3)) (by rw [f3 72 (by decide)]; exact y)) n 0 (by omega)
  · exact S_X10_commonShare_0 ⟨by omega, C_known0 hS z (by omega) (by omega) ⟨rfl, 0, rfl, GW.of hS fun kc ks Q X k => S_X11_commonShare_0 (M_isEmpty0 hS z fun h2 m y => S_X11_commonShare_5 ⟨fun w => absurd w (by decide), fun _ => k h2 m y⟩)⟩⟩
theorem sm_cmv {s pl ra : Int → Int} {n m : Nat} (hs : WS s n) (hSA : SA s n pl ra) (hm : m ≤ n) (h64 : n ≤ 64) : 0 ≤ sm (fun r => cmv s n pl r) m ∧ sm (fun r => cmv s n pl r) m ≤ 64 * m := by
  refine sm_bd (fun i i0 i1 => ?_)
  have a := cmv_le hs hSA (r := i) i0 (by omega)
  have b := (hSA.at hs (r := i) i0 (by omega)).1
  omega
theorem C_mc_1 {kc ks : Nat} {h : Hh} {Q : PQ} {X : PX} {a n : Nat} {s pl ra : Int → Int} (hC : CT h a n s pl ra) (n0 : 0 < n) (hQ : Q [aD (FP.ddiv (FP.i2d (Int32.ofInt (sm (fun r => cmv s n pl r) n))) (FP.i2d (Int32.ofInt n)))] am_R0 h) : ∀ (d i : Nat), i + d = n → am_V M_X10_meanCommon kc ks 29 [aU, aU, aR a, aI (sm (fun r => cmv s n pl r) i), aI i] [] am_R0 h Q X := by
  obtain ⟨ct0, n64, cn, e1, e2, e3, hs, hSA, hcm⟩ := id hC
  intro d
  induction d with
  | zero =>
    intro i hi
    have : i = n := by omega
    subst this
    refine S_X10_meanCommon_29 ct0 ⟨fun _ => ?_, fun z => absurd z (by omega)⟩
    rw [cn]
    exact ⟨nn_ddiv _ _ (by omega) (by omega), hQ⟩
  | succ d ih =>
    intro i hi
    have b := sm_cmv hs hSA (m := i) (by omega) n64
    have b2 := cmv_le hs hSA (r := i) (by omega) (by omega)
    have b3 := (hSA.at hs (r := i) (by omega) (by omega)).1
    refine S_X10_meanCommon_29 ct0 ⟨fun z => absurd z (by omega), fun _ => ?_⟩
    rw [hcm i (by omega) (by omega)]
    exact ⟨by omega, ih (i + 1) (by omega)⟩
theorem M_cms_1 {kc ks : Nat} {h : Hh} {Q : PQ} {X : PX} {t : Int} {n : Nat} {s pl ra : Int → Int} (hT : MT h t n s) (hSA : SA s n pl ra) (h76 : ∀ r, 0 ≤ r → r < (n : Int) → h 76 r = pl r) (hQ : Q [aI (sm (fun r => cmv s n pl r) n)] am_R0 h) : ∀ (d i : Nat), i + d = n → am_V M_X11_commons kc ks 9 [aR 72, aI t, aI (sm (fun r => cmv s n pl r) i), aI i] [] am_R0 h Q X := by
  have h64 := hT.2.1
  have hn := hT.2.2.1
  have hs := hT.2.2.2.1
  intro d
  induction d with
  | zero =>
    intro i hi
    have : i = n := by omega
    subst this
    exact S_X11_commons_9 ⟨hT.1, fun _ => hQ, fun z => absurd z (by omega)⟩
  | succ d ih =>
    intro i hi
    have b := sm_cmv hs hSA (m := i) (by omega) h64
    have b2 := cmv_le hs hSA (r := i) (by omega) (by omega)
    have b3 := (hSA.at hs (r := i) (by omega) (by omega)).1
    exact S_X11_commons_9 ⟨hT.1, fun z => absurd z (by omega), fun _ => M_commonAt hT hSA (by omega) (by omega) h76 (S_X11_commons_26 ⟨by omega, ih (i + 1) (by omega)⟩)⟩
theorem M_commons {kc ks : Nat} {h : Hh} {Q : PQ} {X : PX} {t : Int} {n : Nat} {s pl ra : Int → Int} (hT : MT h t n s) (hSA : SA s n pl ra) (hQ : ∀ h2, (∀ d, d ≠ 76 → h2 d = h d) → (∀ r, 0 ≤ r → r < (n : Int) → h2 76 r = pl r) → Q [aI (sm (fun r => cmv s n pl r) n)] am_R0 h2) : am_V M_X11_commons kc ks 0 [aR 72, aI t, aU, aU] [] am_R0 h Q X :=
  S_X11_commons_0 (M_sorts hT hSA (fun h3 f3 h76 => S_X11_commons_5 (M_cms_1 (hT.of (f3 73 (by decide)) (f3 74 (by decide))) hSA h76 (hQ h3 f3 h76) n 0 (by omega))))
theorem T_meanCommon {kc ks : Nat} {h : Hh} {t : Int} (hS : SIM h) (hkc : 2 ≤ kc) (hks : 12 ≤ ks) : am_V M_X10_meanCommon kc ks 0 [aR 0, aI t, aU, aU, aU] [] am_R0 h (PQd M_X11_meanCommon [aR 72, aI t]) (PXg M_X11_meanCommon [aR 72, aI t] [aD 0] [xIO, xAR]) := by
  by_cases z : isTx h t
  · obtain ⟨n, s, pl, ra, hC, hM⟩ := hS.txt z
    obtain ⟨ct0, n64, cn, e1, e2, e3, hs, hSA, hcm⟩ := id hC
    refine S_X10_meanCommon_0 ⟨by omega, C_known hS z (by omega) (by omega) (S_X10_meanCommon_5 hC.1 ?_)⟩
    rw [cn]
    refine ⟨fun n0 => C_mc_1 hC (by omega) ?_ n 0 (by omega), fun n0 => ⟨⟨by omega, by omega⟩, rfl, 1, rfl, GW.of hS fun kc ks Q X k => S_X11_meanCommon_0 (M_isEmpty2 hS z (fun w => w.2 (by rw [hM.2.2.1]; exact n0)) fun h2 m y => S_X11_meanCommon_5 ⟨fun w => absurd w (by decide), fun _ => k h2 m y⟩)⟩⟩
    refine ⟨_, rfl, rfl, nn_ddiv _ _ (by omega) (by omega), hS, fun g hN => GW.of (hN.sim hS) fun kc ks Q X k => ?_⟩
    refine S_X11_meanCommon_0 (M_isEmpty1 (hN.sim hS) (hN.e.mpr ⟨z, by rw [hM.2.2.1]; exact n0⟩) fun h2 m y => S_X11_meanCommon_5 ⟨fun _ => M_commons (m.mt (hN.mt hM)) hSA (fun h3 f3 h76 => S_X11_meanCommon_17 ?_), fun w => absurd rfl w⟩)
    have e74 : h3 74 t = n := by rw [f3 74 (by decide)]; exact (m.mt (hN.mt hM)).2.2.1
    have ht := hM.1
    rw [e74]
    exact ⟨⟨by omega, by omega, nn_ddiv _ _ (by omega) (by omega)⟩, k h3 (m.tr (MK.so f3)) (by rw [f3 72 (by decide)]; exact y)⟩
  · exact S_X10_meanCommon_0 ⟨by omega, C_known0 hS z (by omega) (by omega) ⟨rfl, 0, rfl, GW.of hS fun kc ks Q X k => S_X11_meanCommon_0 (M_isEmpty0 hS z fun h2 m y => S_X11_meanCommon_5 ⟨fun w => absurd w (by decide), fun _ => k h2 m y⟩)⟩⟩
