/-! THE LAW, from cut to cut -/
theorem S_law_28 {kc ks : Nat} {h : Hh} {Q : PQ} {X : PX} {x5 : Int}
    (k : ((-2147483648 ≤ (((h 1001 0) - 10) : Int) ∧ (((h 1001 0) - 10) : Int) < 2147483648)) ∧ ((((h 1001 0) - 10) < x5 → Q [aI 1] am_R0 h) ∧ (x5 ≤ ((h 1001 0) - 10) → ((0 : Int) ≤ x5 ∧ (x5 : Int) < h 1001 0) ∧ am_V M_L_law kc ks 45 [aR 1000, aR 0, aR 72, aR 81, aR 82, aI x5, aU, aU, aU] [aI (Int32.ofInt (h 1000 x5) &&& Int32.ofInt 63).toInt] am_R0 h Q X))) :
    am_V M_L_law kc ks 28 [aR 1000, aR 0, aR 72, aR 81, aR 82, aI x5, aU, aU, aU] [] am_R0 h Q X := by
  obtain ⟨b0_1, k⟩ := k
  refine v_iload dL_law_28 rfl ?_
  refine v_aload_n dL_law_30 rfl rfl ?_
  refine v_slen dL_law_31 rfl (fun _ _ => ?_)
  refine v_bipush dL_law_32 (by decide) (by decide) ?_
  refine v_isub dL_law_34 b0_1 ?_
  refine v_icmp_gt (tgt := 3562) dL_law_35 (by decide) (fun z => ?_) (fun z => ?_)
  · have k := k.1 z
    refine v_iconst dL_law_3562 ⟨by decide, by decide⟩ ?_
    exact v_lawret dL_law_3563 rfl k
  · have k := k.2 z
    obtain ⟨⟨b1_1, b1_2⟩, k⟩ := k
    refine v_aload_n dL_law_38 rfl rfl ?_
    refine v_iload dL_law_39 rfl ?_
    refine v_sld dL_law_41 rfl b1_1 b1_2 (fun _ => ?_)
    refine v_bipush dL_law_42 (by decide) (by decide) ?_
    refine v_iand dL_law_44 ?_
    exact k
theorem S_law_45 {kc ks : Nat} {h : Hh} {Q : PQ} {X : PX} {x5 : Int} {xs0 : Int}
    (k : (xs0 = 0 → am_V M_L_law kc ks 272 [aR 1000, aR 0, aR 72, aR 81, aR 82, aI x5, aU, aU, aU] [] am_R0 h Q X) ∧ (xs0 = 1 → am_V M_L_law kc ks 330 [aR 1000, aR 0, aR 72, aR 81, aR 82, aI x5, aU, aU, aU] [] am_R0 h Q X) ∧ (xs0 = 2 → am_V M_L_law kc ks 506 [aR 1000, aR 0, aR 72, aR 81, aR 82, aI x5, aU, aU, aU] [] am_R0 h Q X) ∧ (xs0 = 3 → am_V M_L_law kc ks 519 [aR 1000, aR 0, aR 72, aR 81, aR 82, aI x5, aU, aU, aU] [] am_R0 h Q X) ∧ (xs0 = 4 → am_V M_L_law kc ks 575 [aR 1000, aR 0, aR 72, aR 81, aR 82, aI x5, aU, aU, aU] [] am_R0 h Q X) ∧ (xs0 = 5 → am_V M_L_law kc ks 619 [aR 1000, aR 0, aR 72, aR 81, aR 82, aI x5, aU, aU, aU] [] am_R0 h Q X) ∧ (xs0 = 6 → am_V M_L_law kc ks 675 [aR 1000, aR 0, aR 72, aR 81, aR 82, aI x5, aU, aU, aU] [] am_R0 h Q X) ∧ (xs0 = 7 → am_V M_L_law kc ks 731 [aR 1000, aR 0, aR 72, aR 81, aR 82, aI x5, aU, aU, aU] [] am_R0 h Q X) ∧ (xs0 = 8 → am_V M_L_law kc ks 799 [aR 1000, aR 0, aR 72, aR 81, aR 82, aI x5, aU, aU, aU] [] am_R0 h Q X) ∧ (xs0 = 9 → am_V M_L_law kc ks 867 [aR 1000, aR 0, aR 72, aR 81, aR 82, aI x5, aU, aU, aU] [] am_R0 h Q X) ∧ (xs0 = 10 → am_V M_L_law kc ks 923 [aR 1000, aR 0, aR 72, aR 81, aR 82, aI x5, aU, aU, aU] [] am_R0 h Q X) ∧ (xs0 = 11 → am_V M_L_law kc ks 1005 [aR 1000, aR 0, aR 72, aR 81, aR 82, aI x5, aU, aU, aU] [] am_R0 h Q X) ∧ (xs0 = 12 → am_V M_L_law kc ks 1075 [aR 1000, aR 0, aR 72, aR 81, aR 82, aI x5, aU, aU, aU] [] am_R0 h Q X) ∧ (xs0 = 13 → am_V M_L_law kc ks 1131 [aR 1000, aR 0, aR 72, aR 81, aR 82, aI x5, aU, aU, aU] [] am_R0 h Q X) ∧ (xs0 = 14 → am_V M_L_law kc ks 1199 [aR 1000, aR 0, aR 72, aR 81, aR 82, aI x5, aU, aU, aU] [] am_R0 h Q X) ∧ (xs0 = 15 → am_V M_L_law kc ks 1267 [aR 1000, aR 0, aR 72, aR 81, aR 82, aI x5, aU, aU, aU] [] am_R0 h Q X) ∧ (xs0 = 16 → am_V M_L_law kc ks 1347 [aR 1000, aR 0, aR 72, aR 81, aR 82, aI x5, aU, aU, aU] [] am_R0 h Q X) ∧ (xs0 = 17 → am_V M_L_law kc ks 1415 [aR 1000, aR 0, aR 72, aR 81, aR 82, aI x5, aU, aU, aU] [] am_R0 h Q X) ∧ (xs0 = 18 → am_V M_L_law kc ks 1471 [aR 1000, aR 0, aR 72, aR 81, aR 82, aI x5, aU, aU, aU] [] am_R0 h Q X) ∧ (xs0 = 19 → am_V M_L_law kc ks 1539 [aR 1000, aR 0, aR 72, aR 81, aR 82, aI x5, aU, aU, aU] [] am_R0 h Q X) ∧ (xs0 = 20 → am_V M_L_law kc ks 1631 [aR 1000, aR 0, aR 72, aR 81, aR 82, aI x5, aU, aU, aU] [] am_R0 h Q X) ∧ (xs0 = 21 → am_V M_L_law kc ks 1687 [aR 1000, aR 0, aR 72, aR 81, aR 82, aI x5, aU, aU, aU] [] am_R0 h Q X) ∧ (xs0 = 22 → am_V M_L_law kc ks 1743 [aR 1000, aR 0, aR 72, aR 81, aR 82, aI x5, aU, aU, aU] [] am_R0 h Q X) ∧ (xs0 = 23 → am_V M_L_law kc ks 1811 [aR 1000, aR 0, aR 72, aR 81, aR 82, aI x5, aU, aU, aU] [] am_R0 h Q X) ∧ (xs0 = 24 → am_V M_L_law kc ks 1879 [aR 1000, aR 0, aR 72, aR 81, aR 82, aI x5, aU, aU, aU] [] am_R0 h Q X) ∧ (xs0 = 25 → am_V M_L_law kc ks 1934 [aR 1000, aR 0, aR 72, aR 81, aR 82, aI x5, aU, aU, aU] [] am_R0 h Q X) ∧ (xs0 = 26 → am_V M_L_law kc ks 2002 [aR 1000, aR 0, aR 72, aR 81, aR 82, aI x5, aU, aU, aU] [] am_R0 h Q X) ∧ (xs0 = 27 → am_V M_L_law kc ks 2058 [aR 1000, aR 0, aR 72, aR 81, aR 82, aI x5, aU, aU, aU] [] am_R0 h Q X) ∧ (xs0 = 28 → am_V M_L_law kc ks 2114 [aR 1000, aR 0, aR 72, aR 81, aR 82, aI x5, aU, aU, aU] [] am_R0 h Q X) ∧ (xs0 = 29 → am_V M_L_law kc ks 2170 [aR 1000, aR 0, aR 72, aR 81, aR 82, aI x5, aU, aU, aU] [] am_R0 h Q X) ∧ (xs0 = 30 → am_V M_L_law kc ks 2226 [aR 1000, aR 0, aR 72, aR 81, aR 82, aI x5, aU, aU, aU] [] am_R0 h Q X) ∧ (xs0 = 31 → am_V M_L_law kc ks 2282 [aR 1000, aR 0, aR 72, aR 81, aR 82, aI x5, aU, aU, aU] [] am_R0 h Q X) ∧ (xs0 = 32 → am_V M_L_law kc ks 2338 [aR 1000, aR 0, aR 72, aR 81, aR 82, aI x5, aU, aU, aU] [] am_R0 h Q X) ∧ (xs0 = 33 → am_V M_L_law kc ks 2406 [aR 1000, aR 0, aR 72, aR 81, aR 82, aI x5, aU, aU, aU] [] am_R0 h Q X) ∧ (xs0 = 34 → am_V M_L_law kc ks 2474 [aR 1000, aR 0, aR 72, aR 81, aR 82, aI x5, aU, aU, aU] [] am_R0 h Q X) ∧ (xs0 = 35 → am_V M_L_law kc ks 2542 [aR 1000, aR 0, aR 72, aR 81, aR 82, aI x5, aU, aU, aU] [] am_R0 h Q X) ∧ (xs0 = 36 → am_V M_L_law kc ks 2598 [aR 1000, aR 0, aR 72, aR 81, aR 82, aI x5, aU, aU, aU] [] am_R0 h Q X) ∧ (xs0 = 37 → am_V M_L_law kc ks 2666 [aR 1000, aR 0, aR 72, aR 81, aR 82, aI x5, aU, aU, aU] [] am_R0 h Q X) ∧ (xs0 = 38 → am_V M_L_law kc ks 2722 [aR 1000, aR 0, aR 72, aR 81, aR 82, aI x5, aU, aU, aU] [] am_R0 h Q X) ∧ (xs0 = 39 → am_V M_L_law kc ks 2766 [aR 1000, aR 0, aR 72, aR 81, aR 82, aI x5, aU, aU, aU] [] am_R0 h Q X) ∧ (xs0 = 40 → am_V M_L_law kc ks 2822 [aR 1000, aR 0, aR 72, aR 81, aR 82, aI x5, aU, aU, aU] [] am_R0 h Q X) ∧ (xs0 = 41 → am_V M_L_law kc ks 2890 [aR 1000, aR 0, aR 72, aR 81, aR 82, aI x5, aU, aU, aU] [] am_R0 h Q X) ∧ (xs0 = 42 → am_V M_L_law kc ks 2946 [aR 1000, aR 0, aR 72, aR 81, aR 82, aI x5, aU, aU, aU] [] am_R0 h Q X) ∧ (xs0 = 43 → am_V M_L_law kc ks 3002 [aR 1000, aR 0, aR 72, aR 81, aR 82, aI x5, aU, aU, aU] [] am_R0 h Q X) ∧ (xs0 = 44 → am_V M_L_law kc ks 3058 [aR 1000, aR 0, aR 72, aR 81, aR 82, aI x5, aU, aU, aU] [] am_R0 h Q X) ∧ (xs0 = 45 → am_V M_L_law kc ks 3126 [aR 1000, aR 0, aR 72, aR 81, aR 82, aI x5, aU, aU, aU] [] am_R0 h Q X) ∧ (xs0 = 46 → am_V M_L_law kc ks 3182 [aR 1000, aR 0, aR 72, aR 81, aR 82, aI x5, aU, aU, aU] [] am_R0 h Q X) ∧ (xs0 = 47 → am_V M_L_law kc ks 3250 [aR 1000, aR 0, aR 72, aR 81, aR 82, aI x5, aU, aU, aU] [] am_R0 h Q X) ∧ (xs0 = 48 → am_V M_L_law kc ks 3318 [aR 1000, aR 0, aR 72, aR 81, aR 82, aI x5, aU, aU, aU] [] am_R0 h Q X) ∧ (xs0 = 49 → am_V M_L_law kc ks 3374 [aR 1000, aR 0, aR 72, aR 81, aR 82, aI x5, aU, aU, aU] [] am_R0 h Q X) ∧ (xs0 = 50 → am_V M_L_law kc ks 3452 [aR 1000, aR 0, aR 72, aR 81, aR 82, aI x5, aU, aU, aU] [] am_R0 h Q X) ∧ (xs0 = 51 → am_V M_L_law kc ks 3529 [aR 1000, aR 0, aR 72, aR 81, aR 82, aI x5, aU, aU, aU] [] am_R0 h Q X) ∧ (xs0 = 52 → am_V M_L_law kc ks 3543 [aR 1000, aR 0, aR 72, aR 81, aR 82, aI x5, aU, aU, aU] [] am_R0 h Q X) ∧ ((xs0 < 0 ∨ 52 < xs0) → am_V M_L_law kc ks 3556 [aR 1000, aR 0, aR 72, aR 81, aR 82, aI x5, aU, aU, aU] [] am_R0 h Q X)) :
    am_V M_L_law kc ks 45 [aR 1000, aR 0, aR 72, aR 81, aR 82, aI x5, aU, aU, aU] [aI xs0] am_R0 h Q X := by
  by_cases z : xs0 < 0 ∨ 52 < xs0
  · exact v_tswOut dL_law_45 z (by decide) (k.2.2.2.2.2.2.2.2.2.2.2.2.2.2.2.2.2.2.2.2.2.2.2.2.2.2.2.2.2.2.2.2.2.2.2.2.2.2.2.2.2.2.2.2.2.2.2.2.2.2.2.2.2 z)
  · obtain ⟨k0, k1, k2, k3, k4, k5, k6, k7, k8, k9, k10, k11, k12, k13, k14, k15, k16, k17, k18, k19, k20, k21, k22, k23, k24, k25, k26, k27, k28, k29, k30, k31, k32, k33, k34, k35, k36, k37, k38, k39, k40, k41, k42, k43, k44, k45, k46, k47, k48, k49, k50, k51, k52, kd⟩ := k
    by_cases e0 : xs0 = 0
    · exact v_tswIn (off := 227) (tgt := 272) dL_law_45 (by omega) (by omega) (by rw [e0]; rfl) (by decide) (k0 e0)
    by_cases e1 : xs0 = 1
    · exact v_tswIn (off := 285) (tgt := 330) dL_law_45 (by omega) (by omega) (by rw [e1]; rfl) (by decide) (k1 e1)
    by_cases e2 : xs0 = 2
    · exact v_tswIn (off := 461) (tgt := 506) dL_law_45 (by omega) (by omega) (by rw [e2]; rfl) (by decide) (k2 e2)
    by_cases e3 : xs0 = 3
    · exact v_tswIn (off := 474) (tgt := 519) dL_law_45 (by omega) (by omega) (by rw [e3]; rfl) (by decide) (k3 e3)
    by_cases e4 : xs0 = 4
    · exact v_tswIn (off := 530) (tgt := 575) dL_law_45 (by omega) (by omega) (by rw [e4]; rfl) (by decide) (k4 e4)
    by_cases e5 : xs0 = 5
    · exact v_tswIn (off := 574) (tgt := 619) dL_law_45 (by omega) (by omega) (by rw [e5]; rfl) (by decide) (k5 e5)
    by_cases e6 : xs0 = 6
    · exact v_tswIn (off := 630) (tgt := 675) dL_law_45 (by omega) (by omega) (by rw [e6]; rfl) (by decide) (k6 e6)
    by_cases e7 : xs0 = 7
    · exact v_tswIn (off := 686) (tgt := 731) dL_law_45 (by omega) (by omega) (by rw [e7]; rfl) (by decide) (k7 e7)
    by_cases e8 : xs0 = 8
    · exact v_tswIn (off := 754) (tgt := 799) dL_law_45 (by omega) (by omega) (by rw [e8]; rfl) (by decide) (k8 e8)
    by_cases e9 : xs0 = 9
    · exact v_tswIn (off := 822) (tgt := 867) dL_law_45 (by omega) (by omega) (by rw [e9]; rfl) (by decide) (k9 e9)
    by_cases e10 : xs0 = 10
    · exact v_tswIn (off := 878) (tgt := 923) dL_law_45 (by omega) (by omega) (by rw [e10]; rfl) (by decide) (k10 e10)
    by_cases e11 : xs0 = 11
    · exact v_tswIn (off := 960) (tgt := 1005) dL_law_45 (by omega) (by omega) (by rw [e11]; rfl) (by decide) (k11 e11)
    by_cases e12 : xs0 = 12
    · exact v_tswIn (off := 1030) (tgt := 1075) dL_law_45 (by omega) (by omega) (by rw [e12]; rfl) (by decide) (k12 e12)
    by_cases e13 : xs0 = 13
    · exact v_tswIn (off := 1086) (tgt := 1131) dL_law_45 (by omega) (by omega) (by rw [e13]; rfl) (by decide) (k13 e13)
    by_cases e14 : xs0 = 14
    · exact v_tswIn (off := 1154) (tgt := 1199) dL_law_45 (by omega) (by omega) (by rw [e14]; rfl) (by decide) (k14 e14)
    by_cases e15 : xs0 = 15
    · exact v_tswIn (off := 1222) (tgt := 1267) dL_law_45 (by omega) (by omega) (by rw [e15]; rfl) (by decide) (k15 e15)
    by_cases e16 : xs0 = 16
    · exact v_tswIn (off := 1302) (tgt := 1347) dL_law_45 (by omega) (by omega) (by rw [e16]; rfl) (by decide) (k16 e16)
    by_cases e17 : xs0 = 17
    · exact v_tswIn (off := 1370) (tgt := 1415) dL_law_45 (by omega) (by omega) (by rw [e17]; rfl) (by decide) (k17 e17)
    by_cases e18 : xs0 = 18
    · exact v_tswIn (off := 1426) (tgt := 1471) dL_law_45 (by omega) (by omega) (by rw [e18]; rfl) (by decide) (k18 e18)
    by_cases e19 : xs0 = 19
    · exact v_tswIn (off := 1494) (tgt := 1539) dL_law_45 (by omega) (by omega) (by rw [e19]; rfl) (by decide) (k19 e19)
    by_cases e20 : xs0 = 20
    · exact v_tswIn (off := 1586) (tgt := 1631) dL_law_45 (by omega) (by omega) (by rw [e20]; rfl) (by decide) (k20 e20)
    by_cases e21 : xs0 = 21
    · exact v_tswIn (off := 1642) (tgt := 1687) dL_law_45 (by omega) (by omega) (by rw [e21]; rfl) (by decide) (k21 e21)
    by_cases e22 : xs0 = 22
    · exact v_tswIn (off := 1698) (tgt := 1743) dL_law_45 (by omega) (by omega) (by rw [e22]; rfl) (by decide) (k22 e22)
    by_cases e23 : xs0 = 23
    · exact v_tswIn (off := 1766) (tgt := 1811) dL_law_45 (by omega) (by omega) (by rw [e23]; rfl) (by decide) (k23 e23)
    by_cases e24 : xs0 = 24
    · exact v_tswIn (off := 1834) (tgt := 1879) dL_law_45 (by omega) (by omega) (by rw [e24]; rfl) (by decide) (k24 e24)
    by_cases e25 : xs0 = 25
    · exact v_tswIn (off := 1889) (tgt := 1934) dL_law_45 (by omega) (by omega) (by rw [e25]; rfl) (by decide) (k25 e25)
    by_cases e26 : xs0 = 26
    · exact v_tswIn (off := 1957) (tgt := 2002) dL_law_45 (by omega) (by omega) (by rw [e26]; rfl) (by decide) (k26 e26)
    by_cases e27 : xs0 = 27
    · exact v_tswIn (off := 2013) (tgt := 2058) dL_law_45 (by omega) (by omega) (by rw [e27]; rfl) (by decide) (k27 e27)
    by_cases e28 : xs0 = 28
    · exact v_tswIn (off := 2069) (tgt := 2114) dL_law_45 (by omega) (by omega) (by rw [e28]; rfl) (by decide) (k28 e28)
    by_cases e29 : xs0 = 29
    · exact v_tswIn (off := 2125) (tgt := 2170) dL_law_45 (by omega) (by omega) (by rw [e29]; rfl) (by decide) (k29 e29)
    by_cases e30 : xs0 = 30
    · exact v_tswIn (off := 2181) (tgt := 2226) dL_law_45 (by omega) (by omega) (by rw [e30]; rfl) (by decide) (k30 e30)
    by_cases e31 : xs0 = 31
    · exact v_tswIn (off := 2237) (tgt := 2282) dL_law_45 (by omega) (by omega) (by rw [e31]; rfl) (by decide) (k31 e31)
    by_cases e32 : xs0 = 32
    · exact v_tswIn (off := 2293) (tgt := 2338) dL_law_45 (by omega) (by omega) (by rw [e32]; rfl) (by decide) (k32 e32)
    by_cases e33 : xs0 = 33
    · exact v_tswIn (off := 2361) (tgt := 2406) dL_law_45 (by omega) (by omega) (by rw [e33]; rfl) (by decide) (k33 e33)
    by_cases e34 : xs0 = 34
    · exact v_tswIn (off := 2429) (tgt := 2474) dL_law_45 (by omega) (by omega) (by rw [e34]; rfl) (by decide) (k34 e34)
    by_cases e35 : xs0 = 35
    · exact v_tswIn (off := 2497) (tgt := 2542) dL_law_45 (by omega) (by omega) (by rw [e35]; rfl) (by decide) (k35 e35)
    by_cases e36 : xs0 = 36
    · exact v_tswIn (off := 2553) (tgt := 2598) dL_law_45 (by omega) (by omega) (by rw [e36]; rfl) (by decide) (k36 e36)
    by_cases e37 : xs0 = 37
    · exact v_tswIn (off := 2621) (tgt := 2666) dL_law_45 (by omega) (by omega) (by rw [e37]; rfl) (by decide) (k37 e37)
    by_cases e38 : xs0 = 38
    · exact v_tswIn (off := 2677) (tgt := 2722) dL_law_45 (by omega) (by omega) (by rw [e38]; rfl) (by decide) (k38 e38)
    by_cases e39 : xs0 = 39
    · exact v_tswIn (off := 2721) (tgt := 2766) dL_law_45 (by omega) (by omega) (by rw [e39]; rfl) (by decide) (k39 e39)
    by_cases e40 : xs0 = 40
    · exact v_tswIn (off := 2777) (tgt := 2822) dL_law_45 (by omega) (by omega) (by rw [e40]; rfl) (by decide) (k40 e40)
    by_cases e41 : xs0 = 41
    · exact v_tswIn (off := 2845) (tgt := 2890) dL_law_45 (by omega) (by omega) (by rw [e41]; rfl) (by decide) (k41 e41)
    by_cases e42 : xs0 = 42
    · exact v_tswIn (off := 2901) (tgt := 2946) dL_law_45 (by omega) (by omega) (by rw [e42]; rfl) (by decide) (k42 e42)
    by_cases e43 : xs0 = 43
    · exact v_tswIn (off := 2957) (tgt := 3002) dL_law_45 (by omega) (by omega) (by rw [e43]; rfl) (by decide) (k43 e43)
    by_cases e44 : xs0 = 44
    · exact v_tswIn (off := 3013) (tgt := 3058) dL_law_45 (by omega) (by omega) (by rw [e44]; rfl) (by decide) (k44 e44)
    by_cases e45 : xs0 = 45
    · exact v_tswIn (off := 3081) (tgt := 3126) dL_law_45 (by omega) (by omega) (by rw [e45]; rfl) (by decide) (k45 e45)
    by_cases e46 : xs0 = 46
    · exact v_tswIn (off := 3137) (tgt := 3182) dL_law_45 (by omega) (by omega) (by rw [e46]; rfl) (by decide) (k46 e46)
    by_cases e47 : xs0 = 47
    · exact v_tswIn (off := 3205) (tgt := 3250) dL_law_45 (by omega) (by omega) (by rw [e47]; rfl) (by decide) (k47 e47)
    by_cases e48 : xs0 = 48
    · exact v_tswIn (off := 3273) (tgt := 3318) dL_law_45 (by omega) (by omega) (by rw [e48]; rfl) (by decide) (k48 e48)
    by_cases e49 : xs0 = 49
    · exact v_tswIn (off := 3329) (tgt := 3374) dL_law_45 (by omega) (by omega) (by rw [e49]; rfl) (by decide) (k49 e49)
    by_cases e50 : xs0 = 50
    · exact v_tswIn (off := 3407) (tgt := 3452) dL_law_45 (by omega) (by omega) (by rw [e50]; rfl) (by decide) (k50 e50)
    by_cases e51 : xs0 = 51
    · exact v_tswIn (off := 3484) (tgt := 3529) dL_law_45 (by omega) (by omega) (by rw [e51]; rfl) (by decide) (k51 e51)
    by_cases e52 : xs0 = 52
    · exact v_tswIn (off := 3498) (tgt := 3543) dL_law_45 (by omega) (by omega) (by rw [e52]; rfl) (by decide) (k52 e52)
    omega
theorem S_law_272 {kc ks : Nat} {h : Hh} {Q : PQ} {X : PX} {x5 : Int}
    (k : ((-2147483648 ≤ ((x5 + 1) : Int) ∧ ((x5 + 1) : Int) < 2147483648) ∧ (0 : Int) ≤ (x5 + 1) ∧ ((x5 + 1) : Int) < h 1001 0 ∧ 1 ≤ kc ∧ 6 ≤ ks) ∧ am_V M_L_type 1 6 0 [aR 0, aI ((h 1000 (x5 + 1)) % 65536), aR 81, aU] [] am_R0 h (fun v ρ' h' => am_V M_L_law (kc - 1) (ks - 6) 284 [aR 1000, aR 0, aR 72, aR 81, aR 82, aI x5, aU, aU, aU] (v ++ []) ρ' h' Q X) X) :
    am_V M_L_law kc ks 272 [aR 1000, aR 0, aR 72, aR 81, aR 82, aI x5, aU, aU, aU] [] am_R0 h Q X := by
  obtain ⟨⟨b0_1, b0_2, b0_3, b0_4, b0_5⟩, k⟩ := k
  refine v_aload_n dL_law_272 rfl rfl ?_
  refine v_aload_n dL_law_273 rfl rfl ?_
  refine v_iload dL_law_274 rfl ?_
  refine v_iconst dL_law_276 ⟨by decide, by decide⟩ ?_
  refine v_iadd dL_law_277 b0_1 ?_
  refine v_sld dL_law_278 rfl b0_2 b0_3 (fun _ => ?_)
  refine v_i2c dL_law_279 ?_
  refine v_aload_n dL_law_280 rfl rfl ?_
  exact v_callSX (j := M_L_type) (As := [aR 0, aI ((h 1000 (x5 + 1)) % 65536), aR 81]) (st := []) (E0 := [aR 0, aI ((h 1000 (x5 + 1)) % 65536), aR 81, aU]) dL_law_281 ms_L_189 J_L_type b0_4 b0_5 (Nat.le_of_ble_eq_true rfl) rfl (Nat.le_of_ble_eq_true rfl) (List.forall_mem_cons.mpr ⟨rfl, List.forall_mem_cons.mpr ⟨rfl, List.forall_mem_cons.mpr ⟨rfl, fun _ h9 => absurd h9 List.not_mem_nil⟩⟩⟩) (Nat.le_of_ble_eq_true rfl) rfl pn_L_type rfl k
theorem S_law_284 {kc ks : Nat} {h : Hh} {Q : PQ} {X : PX} {x5 : Int} {xs0 : Int}
    (k : ((-2147483648 ≤ ((x5 + 1) : Int) ∧ ((x5 + 1) : Int) < 2147483648) ∧ (0 : Int) ≤ (x5 + 1) ∧ ((x5 + 1) : Int) < h 1001 0) ∧ am_V M_X11_type 0 0 0 [aR 72, aI ((h 1000 (x5 + 1)) % 65536)] [] am_R0 h (fun v ρ' h' => am_V M_L_law kc ks 297 [aR 1000, aR 0, aR 72, aR 81, aR 82, aI x5, aI xs0, aU, aU] (v ++ []) ρ' h' Q X) X) :
    am_V M_L_law kc ks 284 [aR 1000, aR 0, aR 72, aR 81, aR 82, aI x5, aU, aU, aU] [aI xs0] am_R0 h Q X := by
  obtain ⟨⟨b0_1, b0_2, b0_3⟩, k⟩ := k
  refine v_istore (E2 := [aR 1000, aR 0, aR 72, aR 81, aR 82, aI x5, aI xs0, aU, aU]) dL_law_284 (Nat.le_of_ble_eq_true rfl) rfl ?_
  refine v_aload_n dL_law_286 rfl rfl ?_
  refine v_aload_n dL_law_287 rfl rfl ?_
  refine v_iload dL_law_288 rfl ?_
  refine v_iconst dL_law_290 ⟨by decide, by decide⟩ ?_
  refine v_iadd dL_law_291 b0_1 ?_
  refine v_sld dL_law_292 rfl b0_2 b0_3 (fun _ => ?_)
  refine v_i2c dL_law_293 ?_
  exact v_callV (j := M_X11_type) (As := [aI ((h 1000 (x5 + 1)) % 65536)]) (st := []) (E0 := [aR 72, aI ((h 1000 (x5 + 1)) % 65536)]) (a := 72) (ci := 9) (N := 11) (q9 := (RX11, TX11, 11)) dL_law_294 ml_L_194 J_X11_type (Nat.zero_le _) (Nat.zero_le _) (Nat.le_of_ble_eq_true rfl) rfl (Nat.le_of_ble_eq_true rfl) (List.forall_mem_cons.mpr ⟨rfl, List.forall_mem_cons.mpr ⟨rfl, fun _ h9 => absurd h9 List.not_mem_nil⟩⟩) (Nat.le_of_ble_eq_true rfl) rfl rfl rfl rfl pn_X11_type rfl k
theorem S_law_297 {kc ks : Nat} {h : Hh} {Q : PQ} {X : PX} {x5 : Int} {x6 : Int} {xs0 : Int}
    (k : am_V M_X11_thrown 0 0 0 [aR 72] [] am_R0 h (fun v ρ' h' => am_V M_L_law kc ks 303 [aR 1000, aR 0, aR 72, aR 81, aR 82, aI x5, aI x6, aI xs0, aU] (v ++ []) ρ' h' Q X) X) :
    am_V M_L_law kc ks 297 [aR 1000, aR 0, aR 72, aR 81, aR 82, aI x5, aI x6, aU, aU] [aI xs0] am_R0 h Q X := by
  refine v_istore (E2 := [aR 1000, aR 0, aR 72, aR 81, aR 82, aI x5, aI x6, aI xs0, aU]) dL_law_297 (Nat.le_of_ble_eq_true rfl) rfl ?_
  refine v_aload_n dL_law_299 rfl rfl ?_
  exact v_callV (j := M_X11_thrown) (As := []) (st := []) (E0 := [aR 72]) (a := 72) (ci := 9) (N := 11) (q9 := (RX11, TX11, 11)) dL_law_300 ml_L_195 J_X11_thrown (Nat.zero_le _) (Nat.zero_le _) (Nat.le_of_ble_eq_true rfl) rfl (Nat.le_of_ble_eq_true rfl) (List.forall_mem_cons.mpr ⟨rfl, fun _ h9 => absurd h9 List.not_mem_nil⟩) (Nat.le_of_ble_eq_true rfl) rfl rfl rfl rfl pn_X11_thrown rfl k
theorem S_law_303 {kc ks : Nat} {h : Hh} {Q : PQ} {X : PX} {x5 : Int} {x6 : Int} {x7 : Int} {xs0 : Int}
    (k : ((xs0 = x6 → ((x6 ≠ 0 → ((-2147483648 ≤ ((x5 + 10) : Int) ∧ ((x5 + 10) : Int) < 2147483648)) ∧ am_V M_L_law kc ks 28 [aR 1000, aR 0, aR 72, aR 81, aR 82, aI (x5 + 10), aU, aU, aU] [] am_R0 h Q X) ∧ (x6 = 0 → ((0 : Int) ≤ 0 ∧ (0 : Int) < 1) ∧ (((if x7 < (h 81 0) then 1 else if (h 81 0) = x7 then 0 else -1) = 0 → ((-2147483648 ≤ ((x5 + 10) : Int) ∧ ((x5 + 10) : Int) < 2147483648)) ∧ am_V M_L_law kc ks 28 [aR 1000, aR 0, aR 72, aR 81, aR 82, aI (x5 + 10), aU, aU, aU] [] am_R0 h Q X) ∧ ((if x7 < (h 81 0) then 1 else if (h 81 0) = x7 then 0 else -1) ≠ 0 → Q [aI 0] am_R0 h))))) ∧ (xs0 ≠ x6 → Q [aI 0] am_R0 h))) :
    am_V M_L_law kc ks 303 [aR 1000, aR 0, aR 72, aR 81, aR 82, aI x5, aI x6, aI x7, aU] [aI xs0] am_R0 h Q X := by
  refine v_iload dL_law_303 rfl ?_
  refine v_icmp_eq (tgt := 310) dL_law_305 (by decide) (fun z => ?_) (fun z => ?_)
  · have k := k.1 z
    refine v_iload dL_law_310 rfl ?_
    refine v_if_ne (tgt := 327) dL_law_312 (by decide) (fun z => ?_) (fun z => ?_)
    · have k := k.1 z
      obtain ⟨b2_1, k⟩ := k
      refine v_goto (tgt := 3556) dL_law_327 (by decide) ?_
      refine v_iinc (E2 := [aR 1000, aR 0, aR 72, aR 81, aR 82, aI (x5 + 10), aI x6, aI x7, aU]) dL_law_3556 rfl b2_1 rfl ?_
      refine v_goto (tgt := 28) dL_law_3559 (by decide) ?_
      refine v_weak (E2 := [aR 1000, aR 0, aR 72, aR 81, aR 82, aI (x5 + 10), aU, aU, aU]) ⟨Or.inl rfl, ⟨Or.inl rfl, ⟨Or.inl rfl, ⟨Or.inl rfl, ⟨Or.inl rfl, ⟨Or.inl rfl, ⟨Or.inr rfl, ⟨Or.inr rfl, ⟨Or.inl rfl, trivial⟩⟩⟩⟩⟩⟩⟩⟩⟩ ?_
      exact k
    · have k := k.2 z
      obtain ⟨⟨b2_1, b2_2⟩, k⟩ := k
      refine v_aload_n dL_law_315 rfl rfl ?_
      refine v_iconst dL_law_316 ⟨by decide, by decide⟩ ?_
      refine v_lald dL_law_317 rfl b2_1 b2_2 ?_
      refine v_iload dL_law_318 rfl ?_
      refine v_i2l dL_law_320 ?_
      refine v_lcmp dL_law_321 ?_
      refine v_if_eq (tgt := 327) dL_law_322 (by decide) (fun z => ?_) (fun z => ?_)
      · have k := k.1 z
        obtain ⟨b3_1, k⟩ := k
        refine v_goto (tgt := 3556) dL_law_327 (by decide) ?_
        refine v_iinc (E2 := [aR 1000, aR 0, aR 72, aR 81, aR 82, aI (x5 + 10), aI x6, aI x7, aU]) dL_law_3556 rfl b3_1 rfl ?_
        refine v_goto (tgt := 28) dL_law_3559 (by decide) ?_
        refine v_weak (E2 := [aR 1000, aR 0, aR 72, aR 81, aR 82, aI (x5 + 10), aU, aU, aU]) ⟨Or.inl rfl, ⟨Or.inl rfl, ⟨Or.inl rfl, ⟨Or.inl rfl, ⟨Or.inl rfl, ⟨Or.inl rfl, ⟨Or.inr rfl, ⟨Or.inr rfl, ⟨Or.inl rfl, trivial⟩⟩⟩⟩⟩⟩⟩⟩⟩ ?_
        exact k
      · have k := k.2 z
        refine v_iconst dL_law_325 ⟨by decide, by decide⟩ ?_
        exact v_lawret dL_law_326 rfl k
  · have k := k.2 z
    refine v_iconst dL_law_308 ⟨by decide, by decide⟩ ?_
    exact v_lawret dL_law_309 rfl k
theorem S_law_330 {kc ks : Nat} {h : Hh} {Q : PQ} {X : PX} {x5 : Int}
    (k : ((-2147483648 ≤ ((x5 + 1) : Int) ∧ ((x5 + 1) : Int) < 2147483648) ∧ (0 : Int) ≤ (x5 + 1) ∧ ((x5 + 1) : Int) < h 1001 0 ∧ (-2147483648 ≤ ((x5 + 2) : Int) ∧ ((x5 + 2) : Int) < 2147483648) ∧ (0 : Int) ≤ (x5 + 2) ∧ ((x5 + 2) : Int) < h 1001 0 ∧ (-2147483648 ≤ ((x5 + 3) : Int) ∧ ((x5 + 3) : Int) < 2147483648) ∧ (0 : Int) ≤ (x5 + 3) ∧ ((x5 + 3) : Int) < h 1001 0 ∧ (-2147483648 ≤ ((x5 + 4) : Int) ∧ ((x5 + 4) : Int) < 2147483648) ∧ (0 : Int) ≤ (x5 + 4) ∧ ((x5 + 4) : Int) < h 1001 0 ∧ (-2147483648 ≤ ((x5 + 5) : Int) ∧ ((x5 + 5) : Int) < 2147483648) ∧ (0 : Int) ≤ (x5 + 5) ∧ ((x5 + 5) : Int) < h 1001 0 ∧ (-2147483648 ≤ ((x5 + 6) : Int) ∧ ((x5 + 6) : Int) < 2147483648) ∧ (0 : Int) ≤ (x5 + 6) ∧ ((x5 + 6) : Int) < h 1001 0 ∧ (-2147483648 ≤ ((x5 + 7) : Int) ∧ ((x5 + 7) : Int) < 2147483648) ∧ (0 : Int) ≤ (x5 + 7) ∧ ((x5 + 7) : Int) < h 1001 0 ∧ (-2147483648 ≤ ((x5 + 8) : Int) ∧ ((x5 + 8) : Int) < 2147483648) ∧ (0 : Int) ≤ (x5 + 8) ∧ ((x5 + 8) : Int) < h 1001 0 ∧ (-2147483648 ≤ ((x5 + 9) : Int) ∧ ((x5 + 9) : Int) < 2147483648) ∧ (0 : Int) ≤ (x5 + 9) ∧ ((x5 + 9) : Int) < h 1001 0 ∧ 1 ≤ kc ∧ 6 ≤ ks) ∧ am_V M_L_typeMore 1 6 0 [aR 0, aI (h 1000 (x5 + 1)), aI ((h 1000 (x5 + 2)) % 65536), aI ((h 1000 (x5 + 3)) % 65536), aI ((h 1000 (x5 + 4)) % 65536), aI ((h 1000 (x5 + 5)) % 65536), aI ((h 1000 (x5 + 6)) % 65536), aI ((h 1000 (x5 + 7)) % 65536), aI ((h 1000 (x5 + 8)) % 65536), aI ((h 1000 (x5 + 9)) % 65536), aR 81, aU] [] am_R0 h (fun v ρ' h' => am_V M_L_law (kc - 1) (ks - 6) 401 [aR 1000, aR 0, aR 72, aR 81, aR 82, aI x5, aU, aU, aU] (v ++ []) ρ' h' Q X) X) :
    am_V M_L_law kc ks 330 [aR 1000, aR 0, aR 72, aR 81, aR 82, aI x5, aU, aU, aU] [] am_R0 h Q X := by
  obtain ⟨⟨b0_1, b0_2, b0_3, b0_4, b0_5, b0_6, b0_7, b0_8, b0_9, b0_10, b0_11, b0_12, b0_13, b0_14, b0_15, b0_16, b0_17, b0_18, b0_19, b0_20, b0_21, b0_22, b0_23, b0_24, b0_25, b0_26, b0_27, b0_28, b0_29⟩, k⟩ := k
  refine v_aload_n dL_law_330 rfl rfl ?_
  refine v_aload_n dL_law_331 rfl rfl ?_
  refine v_iload dL_law_332 rfl ?_
  refine v_iconst dL_law_334 ⟨by decide, by decide⟩ ?_
  refine v_iadd dL_law_335 b0_1 ?_
  refine v_sld dL_law_336 rfl b0_2 b0_3 (fun _ => ?_)
  refine v_aload_n dL_law_337 rfl rfl ?_
  refine v_iload dL_law_338 rfl ?_
  refine v_iconst dL_law_340 ⟨by decide, by decide⟩ ?_
  refine v_iadd dL_law_341 b0_4 ?_
  refine v_sld dL_law_342 rfl b0_5 b0_6 (fun _ => ?_)
  refine v_i2c dL_law_343 ?_
  refine v_aload_n dL_law_344 rfl rfl ?_
  refine v_iload dL_law_345 rfl ?_
  refine v_iconst dL_law_347 ⟨by decide, by decide⟩ ?_
  refine v_iadd dL_law_348 b0_7 ?_
  refine v_sld dL_law_349 rfl b0_8 b0_9 (fun _ => ?_)
  refine v_i2c dL_law_350 ?_
  refine v_aload_n dL_law_351 rfl rfl ?_
  refine v_iload dL_law_352 rfl ?_
  refine v_iconst dL_law_354 ⟨by decide, by decide⟩ ?_
  refine v_iadd dL_law_355 b0_10 ?_
  refine v_sld dL_law_356 rfl b0_11 b0_12 (fun _ => ?_)
  refine v_i2c dL_law_357 ?_
  refine v_aload_n dL_law_358 rfl rfl ?_
  refine v_iload dL_law_359 rfl ?_
  refine v_iconst dL_law_361 ⟨by decide, by decide⟩ ?_
  refine v_iadd dL_law_362 b0_13 ?_
  refine v_sld dL_law_363 rfl b0_14 b0_15 (fun _ => ?_)
  refine v_i2c dL_law_364 ?_
  refine v_aload_n dL_law_365 rfl rfl ?_
  refine v_iload dL_law_366 rfl ?_
  refine v_bipush dL_law_368 (by decide) (by decide) ?_
  refine v_iadd dL_law_370 b0_16 ?_
  refine v_sld dL_law_371 rfl b0_17 b0_18 (fun _ => ?_)
  refine v_i2c dL_law_372 ?_
  refine v_aload_n dL_law_373 rfl rfl ?_
  refine v_iload dL_law_374 rfl ?_
  refine v_bipush dL_law_376 (by decide) (by decide) ?_
  refine v_iadd dL_law_378 b0_19 ?_
  refine v_sld dL_law_379 rfl b0_20 b0_21 (fun _ => ?_)
  refine v_i2c dL_law_380 ?_
  refine v_aload_n dL_law_381 rfl rfl ?_
  refine v_iload dL_law_382 rfl ?_
  refine v_bipush dL_law_384 (by decide) (by decide) ?_
  refine v_iadd dL_law_386 b0_22 ?_
  refine v_sld dL_law_387 rfl b0_23 b0_24 (fun _ => ?_)
  refine v_i2c dL_law_388 ?_
  refine v_aload_n dL_law_389 rfl rfl ?_
  refine v_iload dL_law_390 rfl ?_
  refine v_bipush dL_law_392 (by decide) (by decide) ?_
  refine v_iadd dL_law_394 b0_25 ?_
  refine v_sld dL_law_395 rfl b0_26 b0_27 (fun _ => ?_)
  refine v_i2c dL_law_396 ?_
  refine v_aload_n dL_law_397 rfl rfl ?_
  exact v_callSX (j := M_L_typeMore) (As := [aR 0, aI (h 1000 (x5 + 1)), aI ((h 1000 (x5 + 2)) % 65536), aI ((h 1000 (x5 + 3)) % 65536), aI ((h 1000 (x5 + 4)) % 65536), aI ((h 1000 (x5 + 5)) % 65536), aI ((h 1000 (x5 + 6)) % 65536), aI ((h 1000 (x5 + 7)) % 65536), aI ((h 1000 (x5 + 8)) % 65536), aI ((h 1000 (x5 + 9)) % 65536), aR 81]) (st := []) (E0 := [aR 0, aI (h 1000 (x5 + 1)), aI ((h 1000 (x5 + 2)) % 65536), aI ((h 1000 (x5 + 3)) % 65536), aI ((h 1000 (x5 + 4)) % 65536), aI ((h 1000 (x5 + 5)) % 65536), aI ((h 1000 (x5 + 6)) % 65536), aI ((h 1000 (x5 + 7)) % 65536), aI ((h 1000 (x5 + 8)) % 65536), aI ((h 1000 (x5 + 9)) % 65536), aR 81, aU]) dL_law_398 ms_L_198 J_L_typeMore b0_28 b0_29 (Nat.le_of_ble_eq_true rfl) rfl (Nat.le_of_ble_eq_true rfl) (List.forall_mem_cons.mpr ⟨rfl, List.forall_mem_cons.mpr ⟨rfl, List.forall_mem_cons.mpr ⟨rfl, List.forall_mem_cons.mpr ⟨rfl, List.forall_mem_cons.mpr ⟨rfl, List.forall_mem_cons.mpr ⟨rfl, List.forall_mem_cons.mpr ⟨rfl, List.forall_mem_cons.mpr ⟨rfl, List.forall_mem_cons.mpr ⟨rfl, List.forall_mem_cons.mpr ⟨rfl, List.forall_mem_cons.mpr ⟨rfl, fun _ h9 => absurd h9 List.not_mem_nil⟩⟩⟩⟩⟩⟩⟩⟩⟩⟩⟩) (Nat.le_of_ble_eq_true rfl) rfl pn_L_typeMore rfl k
theorem S_law_401 {kc ks : Nat} {h : Hh} {Q : PQ} {X : PX} {x5 : Int} {xs0 : Int}
    (k : ((-2147483648 ≤ ((x5 + 1) : Int) ∧ ((x5 + 1) : Int) < 2147483648) ∧ (0 : Int) ≤ (x5 + 1) ∧ ((x5 + 1) : Int) < h 1001 0 ∧ (-2147483648 ≤ ((x5 + 2) : Int) ∧ ((x5 + 2) : Int) < 2147483648) ∧ (0 : Int) ≤ (x5 + 2) ∧ ((x5 + 2) : Int) < h 1001 0 ∧ (-2147483648 ≤ ((x5 + 3) : Int) ∧ ((x5 + 3) : Int) < 2147483648) ∧ (0 : Int) ≤ (x5 + 3) ∧ ((x5 + 3) : Int) < h 1001 0 ∧ (-2147483648 ≤ ((x5 + 4) : Int) ∧ ((x5 + 4) : Int) < 2147483648) ∧ (0 : Int) ≤ (x5 + 4) ∧ ((x5 + 4) : Int) < h 1001 0 ∧ (-2147483648 ≤ ((x5 + 5) : Int) ∧ ((x5 + 5) : Int) < 2147483648) ∧ (0 : Int) ≤ (x5 + 5) ∧ ((x5 + 5) : Int) < h 1001 0 ∧ (-2147483648 ≤ ((x5 + 6) : Int) ∧ ((x5 + 6) : Int) < 2147483648) ∧ (0 : Int) ≤ (x5 + 6) ∧ ((x5 + 6) : Int) < h 1001 0 ∧ (-2147483648 ≤ ((x5 + 7) : Int) ∧ ((x5 + 7) : Int) < 2147483648) ∧ (0 : Int) ≤ (x5 + 7) ∧ ((x5 + 7) : Int) < h 1001 0 ∧ (-2147483648 ≤ ((x5 + 8) : Int) ∧ ((x5 + 8) : Int) < 2147483648) ∧ (0 : Int) ≤ (x5 + 8) ∧ ((x5 + 8) : Int) < h 1001 0 ∧ (-2147483648 ≤ ((x5 + 9) : Int) ∧ ((x5 + 9) : Int) < 2147483648) ∧ (0 : Int) ≤ (x5 + 9) ∧ ((x5 + 9) : Int) < h 1001 0) ∧ am_V M_X11_typeMore 0 0 0 [aR 72, aI (h 1000 (x5 + 1)), aI ((h 1000 (x5 + 2)) % 65536), aI ((h 1000 (x5 + 3)) % 65536), aI ((h 1000 (x5 + 4)) % 65536), aI ((h 1000 (x5 + 5)) % 65536), aI ((h 1000 (x5 + 6)) % 65536), aI ((h 1000 (x5 + 7)) % 65536), aI ((h 1000 (x5 + 8)) % 65536), aI ((h 1000 (x5 + 9)) % 65536), aU, aU, aU] [] am_R0 h (fun v ρ' h' => am_V M_L_law kc ks 473 [aR 1000, aR 0, aR 72, aR 81, aR 82, aI x5, aI xs0, aU, aU] (v ++ []) ρ' h' Q X) X) :
    am_V M_L_law kc ks 401 [aR 1000, aR 0, aR 72, aR 81, aR 82, aI x5, aU, aU, aU] [aI xs0] am_R0 h Q X := by
  obtain ⟨⟨b0_1, b0_2, b0_3, b0_4, b0_5, b0_6, b0_7, b0_8, b0_9, b0_10, b0_11, b0_12, b0_13, b0_14, b0_15, b0_16, b0_17, b0_18, b0_19, b0_20, b0_21, b0_22, b0_23, b0_24, b0_25, b0_26, b0_27⟩, k⟩ := k
  refine v_istore (E2 := [aR 1000, aR 0, aR 72, aR 81, aR 82, aI x5, aI xs0, aU, aU]) dL_law_401 (Nat.le_of_ble_eq_true rfl) rfl ?_
  refine v_aload_n dL_law_403 rfl rfl ?_
  refine v_aload_n dL_law_404 rfl rfl ?_
  refine v_iload dL_law_405 rfl ?_
  refine v_iconst dL_law_407 ⟨by decide, by decide⟩ ?_
  refine v_iadd dL_law_408 b0_1 ?_
  refine v_sld dL_law_409 rfl b0_2 b0_3 (fun _ => ?_)
  refine v_aload_n dL_law_410 rfl rfl ?_
  refine v_iload dL_law_411 rfl ?_
  refine v_iconst dL_law_413 ⟨by decide, by decide⟩ ?_
  refine v_iadd dL_law_414 b0_4 ?_
  refine v_sld dL_law_415 rfl b0_5 b0_6 (fun _ => ?_)
  refine v_i2c dL_law_416 ?_
  refine v_aload_n dL_law_417 rfl rfl ?_
  refine v_iload dL_law_418 rfl ?_
  refine v_iconst dL_law_420 ⟨by decide, by decide⟩ ?_
  refine v_iadd dL_law_421 b0_7 ?_
  refine v_sld dL_law_422 rfl b0_8 b0_9 (fun _ => ?_)
  refine v_i2c dL_law_423 ?_
  refine v_aload_n dL_law_424 rfl rfl ?_
  refine v_iload dL_law_425 rfl ?_
  refine v_iconst dL_law_427 ⟨by decide, by decide⟩ ?_
  refine v_iadd dL_law_428 b0_10 ?_
  refine v_sld dL_law_429 rfl b0_11 b0_12 (fun _ => ?_)
  refine v_i2c dL_law_430 ?_
  refine v_aload_n dL_law_431 rfl rfl ?_
  refine v_iload dL_law_432 rfl ?_
  refine v_iconst dL_law_434 ⟨by decide, by decide⟩ ?_
  refine v_iadd dL_law_435 b0_13 ?_
  refine v_sld dL_law_436 rfl b0_14 b0_15 (fun _ => ?_)
  refine v_i2c dL_law_437 ?_
  refine v_aload_n dL_law_438 rfl rfl ?_
  refine v_iload dL_law_439 rfl ?_
  refine v_bipush dL_law_441 (by decide) (by decide) ?_
  refine v_iadd dL_law_443 b0_16 ?_
  refine v_sld dL_law_444 rfl b0_17 b0_18 (fun _ => ?_)
  refine v_i2c dL_law_445 ?_
  refine v_aload_n dL_law_446 rfl rfl ?_
  refine v_iload dL_law_447 rfl ?_
  refine v_bipush dL_law_449 (by decide) (by decide) ?_
  refine v_iadd dL_law_451 b0_19 ?_
  refine v_sld dL_law_452 rfl b0_20 b0_21 (fun _ => ?_)
  refine v_i2c dL_law_453 ?_
  refine v_aload_n dL_law_454 rfl rfl ?_
  refine v_iload dL_law_455 rfl ?_
  refine v_bipush dL_law_457 (by decide) (by decide) ?_
  refine v_iadd dL_law_459 b0_22 ?_
  refine v_sld dL_law_460 rfl b0_23 b0_24 (fun _ => ?_)
  refine v_i2c dL_law_461 ?_
  refine v_aload_n dL_law_462 rfl rfl ?_
  refine v_iload dL_law_463 rfl ?_
  refine v_bipush dL_law_465 (by decide) (by decide) ?_
  refine v_iadd dL_law_467 b0_25 ?_
  refine v_sld dL_law_468 rfl b0_26 b0_27 (fun _ => ?_)
  refine v_i2c dL_law_469 ?_
  exact v_callV (j := M_X11_typeMore) (As := [aI (h 1000 (x5 + 1)), aI ((h 1000 (x5 + 2)) % 65536), aI ((h 1000 (x5 + 3)) % 65536), aI ((h 1000 (x5 + 4)) % 65536), aI ((h 1000 (x5 + 5)) % 65536), aI ((h 1000 (x5 + 6)) % 65536), aI ((h 1000 (x5 + 7)) % 65536), aI ((h 1000 (x5 + 8)) % 65536), aI ((h 1000 (x5 + 9)) % 65536)]) (st := []) (E0 := [aR 72, aI (h 1000 (x5 + 1)), aI ((h 1000 (x5 + 2)) % 65536), aI ((h 1000 (x5 + 3)) % 65536), aI ((h 1000 (x5 + 4)) % 65536), aI ((h 1000 (x5 + 5)) % 65536), aI ((h 1000 (x5 + 6)) % 65536), aI ((h 1000 (x5 + 7)) % 65536), aI ((h 1000 (x5 + 8)) % 65536), aI ((h 1000 (x5 + 9)) % 65536), aU, aU, aU]) (a := 72) (ci := 9) (N := 11) (q9 := (RX11, TX11, 11)) dL_law_470 ml_L_201 J_X11_typeMore (Nat.zero_le _) (Nat.zero_le _) (Nat.le_of_ble_eq_true rfl) rfl (Nat.le_of_ble_eq_true rfl) (List.forall_mem_cons.mpr ⟨rfl, List.forall_mem_cons.mpr ⟨rfl, List.forall_mem_cons.mpr ⟨rfl, List.forall_mem_cons.mpr ⟨rfl, List.forall_mem_cons.mpr ⟨rfl, List.forall_mem_cons.mpr ⟨rfl, List.forall_mem_cons.mpr ⟨rfl, List.forall_mem_cons.mpr ⟨rfl, List.forall_mem_cons.mpr ⟨rfl, List.forall_mem_cons.mpr ⟨rfl, fun _ h9 => absurd h9 List.not_mem_nil⟩⟩⟩⟩⟩⟩⟩⟩⟩⟩) (Nat.le_of_ble_eq_true rfl) rfl rfl rfl rfl pn_X11_typeMore rfl k
theorem S_law_473 {kc ks : Nat} {h : Hh} {Q : PQ} {X : PX} {x5 : Int} {x6 : Int} {xs0 : Int}
    (k : am_V M_X11_thrown 0 0 0 [aR 72] [] am_R0 h (fun v ρ' h' => am_V M_L_law kc ks 479 [aR 1000, aR 0, aR 72, aR 81, aR 82, aI x5, aI x6, aI xs0, aU] (v ++ []) ρ' h' Q X) X) :
    am_V M_L_law kc ks 473 [aR 1000, aR 0, aR 72, aR 81, aR 82, aI x5, aI x6, aU, aU] [aI xs0] am_R0 h Q X := by
  refine v_istore (E2 := [aR 1000, aR 0, aR 72, aR 81, aR 82, aI x5, aI x6, aI xs0, aU]) dL_law_473 (Nat.le_of_ble_eq_true rfl) rfl ?_
  refine v_aload_n dL_law_475 rfl rfl ?_
  exact v_callV (j := M_X11_thrown) (As := []) (st := []) (E0 := [aR 72]) (a := 72) (ci := 9) (N := 11) (q9 := (RX11, TX11, 11)) dL_law_476 ml_L_195 J_X11_thrown (Nat.zero_le _) (Nat.zero_le _) (Nat.le_of_ble_eq_true rfl) rfl (Nat.le_of_ble_eq_true rfl) (List.forall_mem_cons.mpr ⟨rfl, fun _ h9 => absurd h9 List.not_mem_nil⟩) (Nat.le_of_ble_eq_true rfl) rfl rfl rfl rfl pn_X11_thrown rfl k
theorem S_law_479 {kc ks : Nat} {h : Hh} {Q : PQ} {X : PX} {x5 : Int} {x6 : Int} {x7 : Int} {xs0 : Int}
    (k : ((xs0 = x6 → ((x6 ≠ 0 → ((-2147483648 ≤ ((x5 + 10) : Int) ∧ ((x5 + 10) : Int) < 2147483648)) ∧ am_V M_L_law kc ks 28 [aR 1000, aR 0, aR 72, aR 81, aR 82, aI (x5 + 10), aU, aU, aU] [] am_R0 h Q X) ∧ (x6 = 0 → ((0 : Int) ≤ 0 ∧ (0 : Int) < 1) ∧ (((if x7 < (h 81 0) then 1 else if (h 81 0) = x7 then 0 else -1) = 0 → ((-2147483648 ≤ ((x5 + 10) : Int) ∧ ((x5 + 10) : Int) < 2147483648)) ∧ am_V M_L_law kc ks 28 [aR 1000, aR 0, aR 72, aR 81, aR 82, aI (x5 + 10), aU, aU, aU] [] am_R0 h Q X) ∧ ((if x7 < (h 81 0) then 1 else if (h 81 0) = x7 then 0 else -1) ≠ 0 → Q [aI 0] am_R0 h))))) ∧ (xs0 ≠ x6 → Q [aI 0] am_R0 h))) :
    am_V M_L_law kc ks 479 [aR 1000, aR 0, aR 72, aR 81, aR 82, aI x5, aI x6, aI x7, aU] [aI xs0] am_R0 h Q X := by
  refine v_iload dL_law_479 rfl ?_
  refine v_icmp_eq (tgt := 486) dL_law_481 (by decide) (fun z => ?_) (fun z => ?_)
  · have k := k.1 z
    refine v_iload dL_law_486 rfl ?_
    refine v_if_ne (tgt := 503) dL_law_488 (by decide) (fun z => ?_) (fun z => ?_)
    · have k := k.1 z
      obtain ⟨b2_1, k⟩ := k
      refine v_goto (tgt := 3556) dL_law_503 (by decide) ?_
      refine v_iinc (E2 := [aR 1000, aR 0, aR 72, aR 81, aR 82, aI (x5 + 10), aI x6, aI x7, aU]) dL_law_3556 rfl b2_1 rfl ?_
      refine v_goto (tgt := 28) dL_law_3559 (by decide) ?_
      refine v_weak (E2 := [aR 1000, aR 0, aR 72, aR 81, aR 82, aI (x5 + 10), aU, aU, aU]) ⟨Or.inl rfl, ⟨Or.inl rfl, ⟨Or.inl rfl, ⟨Or.inl rfl, ⟨Or.inl rfl, ⟨Or.inl rfl, ⟨Or.inr rfl, ⟨Or.inr rfl, ⟨Or.inl rfl, trivial⟩⟩⟩⟩⟩⟩⟩⟩⟩ ?_
      exact k
    · have k := k.2 z
      obtain ⟨⟨b2_1, b2_2⟩, k⟩ := k
      refine v_aload_n dL_law_491 rfl rfl ?_
      refine v_iconst dL_law_492 ⟨by decide, by decide⟩ ?_
      refine v_lald dL_law_493 rfl b2_1 b2_2 ?_
      refine v_iload dL_law_494 rfl ?_
      refine v_i2l dL_law_496 ?_
      refine v_lcmp dL_law_497 ?_
      refine v_if_eq (tgt := 503) dL_law_498 (by decide) (fun z => ?_) (fun z => ?_)
      · have k := k.1 z
        obtain ⟨b3_1, k⟩ := k
        refine v_goto (tgt := 3556) dL_law_503 (by decide) ?_
        refine v_iinc (E2 := [aR 1000, aR 0, aR 72, aR 81, aR 82, aI (x5 + 10), aI x6, aI x7, aU]) dL_law_3556 rfl b3_1 rfl ?_
        refine v_goto (tgt := 28) dL_law_3559 (by decide) ?_
        refine v_weak (E2 := [aR 1000, aR 0, aR 72, aR 81, aR 82, aI (x5 + 10), aU, aU, aU]) ⟨Or.inl rfl, ⟨Or.inl rfl, ⟨Or.inl rfl, ⟨Or.inl rfl, ⟨Or.inl rfl, ⟨Or.inl rfl, ⟨Or.inr rfl, ⟨Or.inr rfl, ⟨Or.inl rfl, trivial⟩⟩⟩⟩⟩⟩⟩⟩⟩ ?_
        exact k
      · have k := k.2 z
        refine v_iconst dL_law_501 ⟨by decide, by decide⟩ ?_
        exact v_lawret dL_law_502 rfl k
  · have k := k.2 z
    refine v_iconst dL_law_484 ⟨by decide, by decide⟩ ?_
    exact v_lawret dL_law_485 rfl k
theorem S_law_506 {kc ks : Nat} {h : Hh} {Q : PQ} {X : PX} {x5 : Int}
    (k : am_V M_X10_wipe 0 0 0 [aR 0, aU] [] am_R0 h (fun v ρ' h' => am_V M_L_law kc ks 510 [aR 1000, aR 0, aR 72, aR 81, aR 82, aI x5, aU, aU, aU] (v ++ []) ρ' h' Q X) X) :
    am_V M_L_law kc ks 506 [aR 1000, aR 0, aR 72, aR 81, aR 82, aI x5, aU, aU, aU] [] am_R0 h Q X := by
  refine v_aload_n dL_law_506 rfl rfl ?_
  exact v_callV (j := M_X10_wipe) (As := []) (st := []) (E0 := [aR 0, aU]) (a := 0) (ci := 8) (N := 10) (q9 := (RX10, TX10, 10)) dL_law_507 ml_L_202 J_X10_wipe (Nat.zero_le _) (Nat.zero_le _) (Nat.le_of_ble_eq_true rfl) rfl (Nat.le_of_ble_eq_true rfl) (List.forall_mem_cons.mpr ⟨rfl, fun _ h9 => absurd h9 List.not_mem_nil⟩) (Nat.le_of_ble_eq_true rfl) rfl rfl rfl rfl pn_X10_wipe rfl k
theorem S_law_510 {kc ks : Nat} {h : Hh} {Q : PQ} {X : PX} {x5 : Int} {xs0 : Int}
    (k : am_V M_X11_wipe 0 0 0 [aR 72, aU] [] am_R0 h (fun v ρ' h' => am_V M_L_law kc ks 514 [aR 1000, aR 0, aR 72, aR 81, aR 82, aI x5, aU, aU, aU] (v ++ [aI xs0]) ρ' h' Q X) X) :
    am_V M_L_law kc ks 510 [aR 1000, aR 0, aR 72, aR 81, aR 82, aI x5, aU, aU, aU] [aI xs0] am_R0 h Q X := by
  refine v_aload_n dL_law_510 rfl rfl ?_
  exact v_callV (j := M_X11_wipe) (As := []) (st := [aI xs0]) (E0 := [aR 72, aU]) (a := 72) (ci := 9) (N := 11) (q9 := (RX11, TX11, 11)) dL_law_511 ml_L_205 J_X11_wipe (Nat.zero_le _) (Nat.zero_le _) (Nat.le_of_ble_eq_true rfl) rfl (Nat.le_of_ble_eq_true rfl) (List.forall_mem_cons.mpr ⟨rfl, fun _ h9 => absurd h9 List.not_mem_nil⟩) (Nat.le_of_ble_eq_true rfl) rfl rfl rfl rfl pn_X11_wipe rfl k
theorem S_law_514 {kc ks : Nat} {h : Hh} {Q : PQ} {X : PX} {x5 : Int} {xs0 : Int} {xs1 : Int}
    (k : ((xs1 = xs0 → ((-2147483648 ≤ ((x5 + 10) : Int) ∧ ((x5 + 10) : Int) < 2147483648)) ∧ am_V M_L_law kc ks 28 [aR 1000, aR 0, aR 72, aR 81, aR 82, aI (x5 + 10), aU, aU, aU] [] am_R0 h Q X) ∧ (xs1 ≠ xs0 → Q [aI 0] am_R0 h))) :
    am_V M_L_law kc ks 514 [aR 1000, aR 0, aR 72, aR 81, aR 82, aI x5, aU, aU, aU] [aI xs0, aI xs1] am_R0 h Q X := by
  refine v_icmp_eq (tgt := 3556) dL_law_514 (by decide) (fun z => ?_) (fun z => ?_)
  · have k := k.1 z
    obtain ⟨b1_1, k⟩ := k
    refine v_iinc (E2 := [aR 1000, aR 0, aR 72, aR 81, aR 82, aI (x5 + 10), aU, aU, aU]) dL_law_3556 rfl b1_1 rfl ?_
    refine v_goto (tgt := 28) dL_law_3559 (by decide) ?_
    exact k
  · have k := k.2 z
    refine v_iconst dL_law_517 ⟨by decide, by decide⟩ ?_
    exact v_lawret dL_law_518 rfl k
theorem S_law_519 {kc ks : Nat} {h : Hh} {Q : PQ} {X : PX} {x5 : Int}
    (k : ((-2147483648 ≤ ((x5 + 1) : Int) ∧ ((x5 + 1) : Int) < 2147483648) ∧ (0 : Int) ≤ (x5 + 1) ∧ ((x5 + 1) : Int) < h 1001 0 ∧ 1 ≤ kc ∧ 6 ≤ ks) ∧ am_V M_L_typed 1 6 0 [aR 0, aI (h 1000 (x5 + 1)), aR 81, aU] [] am_R0 h (fun v ρ' h' => am_V M_L_law (kc - 1) (ks - 6) 530 [aR 1000, aR 0, aR 72, aR 81, aR 82, aI x5, aU, aU, aU] (v ++ []) ρ' h' Q X) X) :
    am_V M_L_law kc ks 519 [aR 1000, aR 0, aR 72, aR 81, aR 82, aI x5, aU, aU, aU] [] am_R0 h Q X := by
  obtain ⟨⟨b0_1, b0_2, b0_3, b0_4, b0_5⟩, k⟩ := k
  refine v_aload_n dL_law_519 rfl rfl ?_
  refine v_aload_n dL_law_520 rfl rfl ?_
  refine v_iload dL_law_521 rfl ?_
  refine v_iconst dL_law_523 ⟨by decide, by decide⟩ ?_
  refine v_iadd dL_law_524 b0_1 ?_
  refine v_sld dL_law_525 rfl b0_2 b0_3 (fun _ => ?_)
  refine v_aload_n dL_law_526 rfl rfl ?_
  exact v_callSX (j := M_L_typed) (As := [aR 0, aI (h 1000 (x5 + 1)), aR 81]) (st := []) (E0 := [aR 0, aI (h 1000 (x5 + 1)), aR 81, aU]) dL_law_527 ms_L_206 J_L_typed b0_4 b0_5 (Nat.le_of_ble_eq_true rfl) rfl (Nat.le_of_ble_eq_true rfl) (List.forall_mem_cons.mpr ⟨rfl, List.forall_mem_cons.mpr ⟨rfl, List.forall_mem_cons.mpr ⟨rfl, fun _ h9 => absurd h9 List.not_mem_nil⟩⟩⟩) (Nat.le_of_ble_eq_true rfl) rfl pn_L_typed rfl k
theorem S_law_530 {kc ks : Nat} {h : Hh} {Q : PQ} {X : PX} {x5 : Int} {xs0 : Int}
    (k : ((-2147483648 ≤ ((x5 + 1) : Int) ∧ ((x5 + 1) : Int) < 2147483648) ∧ (0 : Int) ≤ (x5 + 1) ∧ ((x5 + 1) : Int) < h 1001 0) ∧ am_V M_X11_typed 0 0 0 [aR 72, aI (h 1000 (x5 + 1))] [] am_R0 h (fun v ρ' h' => am_V M_L_law kc ks 542 [aR 1000, aR 0, aR 72, aR 81, aR 82, aI x5, aI xs0, aU, aU] (v ++ []) ρ' h' Q X) X) :
    am_V M_L_law kc ks 530 [aR 1000, aR 0, aR 72, aR 81, aR 82, aI x5, aU, aU, aU] [aI xs0] am_R0 h Q X := by
  obtain ⟨⟨b0_1, b0_2, b0_3⟩, k⟩ := k
  refine v_istore (E2 := [aR 1000, aR 0, aR 72, aR 81, aR 82, aI x5, aI xs0, aU, aU]) dL_law_530 (Nat.le_of_ble_eq_true rfl) rfl ?_
  refine v_aload_n dL_law_532 rfl rfl ?_
  refine v_aload_n dL_law_533 rfl rfl ?_
  refine v_iload dL_law_534 rfl ?_
  refine v_iconst dL_law_536 ⟨by decide, by decide⟩ ?_
  refine v_iadd dL_law_537 b0_1 ?_
  refine v_sld dL_law_538 rfl b0_2 b0_3 (fun _ => ?_)
  exact v_callV (j := M_X11_typed) (As := [aI (h 1000 (x5 + 1))]) (st := []) (E0 := [aR 72, aI (h 1000 (x5 + 1))]) (a := 72) (ci := 9) (N := 11) (q9 := (RX11, TX11, 11)) dL_law_539 ml_L_209 J_X11_typed (Nat.zero_le _) (Nat.zero_le _) (Nat.le_of_ble_eq_true rfl) rfl (Nat.le_of_ble_eq_true rfl) (List.forall_mem_cons.mpr ⟨rfl, List.forall_mem_cons.mpr ⟨rfl, fun _ h9 => absurd h9 List.not_mem_nil⟩⟩) (Nat.le_of_ble_eq_true rfl) rfl rfl rfl rfl pn_X11_typed rfl k
theorem S_law_542 {kc ks : Nat} {h : Hh} {Q : PQ} {X : PX} {x5 : Int} {x6 : Int} {xs0 : Int}
    (k : am_V M_X11_thrown 0 0 0 [aR 72] [] am_R0 h (fun v ρ' h' => am_V M_L_law kc ks 548 [aR 1000, aR 0, aR 72, aR 81, aR 82, aI x5, aI x6, aI xs0, aU] (v ++ []) ρ' h' Q X) X) :
    am_V M_L_law kc ks 542 [aR 1000, aR 0, aR 72, aR 81, aR 82, aI x5, aI x6, aU, aU] [aI xs0] am_R0 h Q X := by
  refine v_istore (E2 := [aR 1000, aR 0, aR 72, aR 81, aR 82, aI x5, aI x6, aI xs0, aU]) dL_law_542 (Nat.le_of_ble_eq_true rfl) rfl ?_
  refine v_aload_n dL_law_544 rfl rfl ?_
  exact v_callV (j := M_X11_thrown) (As := []) (st := []) (E0 := [aR 72]) (a := 72) (ci := 9) (N := 11) (q9 := (RX11, TX11, 11)) dL_law_545 ml_L_195 J_X11_thrown (Nat.zero_le _) (Nat.zero_le _) (Nat.le_of_ble_eq_true rfl) rfl (Nat.le_of_ble_eq_true rfl) (List.forall_mem_cons.mpr ⟨rfl, fun _ h9 => absurd h9 List.not_mem_nil⟩) (Nat.le_of_ble_eq_true rfl) rfl rfl rfl rfl pn_X11_thrown rfl k
theorem S_law_548 {kc ks : Nat} {h : Hh} {Q : PQ} {X : PX} {x5 : Int} {x6 : Int} {x7 : Int} {xs0 : Int}
    (k : ((xs0 = x6 → ((x6 ≠ 0 → ((-2147483648 ≤ ((x5 + 10) : Int) ∧ ((x5 + 10) : Int) < 2147483648)) ∧ am_V M_L_law kc ks 28 [aR 1000, aR 0, aR 72, aR 81, aR 82, aI (x5 + 10), aU, aU, aU] [] am_R0 h Q X) ∧ (x6 = 0 → ((0 : Int) ≤ 0 ∧ (0 : Int) < 1) ∧ (((if x7 < (h 81 0) then 1 else if (h 81 0) = x7 then 0 else -1) = 0 → ((-2147483648 ≤ ((x5 + 10) : Int) ∧ ((x5 + 10) : Int) < 2147483648)) ∧ am_V M_L_law kc ks 28 [aR 1000, aR 0, aR 72, aR 81, aR 82, aI (x5 + 10), aU, aU, aU] [] am_R0 h Q X) ∧ ((if x7 < (h 81 0) then 1 else if (h 81 0) = x7 then 0 else -1) ≠ 0 → Q [aI 0] am_R0 h))))) ∧ (xs0 ≠ x6 → Q [aI 0] am_R0 h))) :
    am_V M_L_law kc ks 548 [aR 1000, aR 0, aR 72, aR 81, aR 82, aI x5, aI x6, aI x7, aU] [aI xs0] am_R0 h Q X := by
  refine v_iload dL_law_548 rfl ?_
  refine v_icmp_eq (tgt := 555) dL_law_550 (by decide) (fun z => ?_) (fun z => ?_)
  · have k := k.1 z
    refine v_iload dL_law_555 rfl ?_
    refine v_if_ne (tgt := 572) dL_law_557 (by decide) (fun z => ?_) (fun z => ?_)
    · have k := k.1 z
      obtain ⟨b2_1, k⟩ := k
      refine v_goto (tgt := 3556) dL_law_572 (by decide) ?_
      refine v_iinc (E2 := [aR 1000, aR 0, aR 72, aR 81, aR 82, aI (x5 + 10), aI x6, aI x7, aU]) dL_law_3556 rfl b2_1 rfl ?_
      refine v_goto (tgt := 28) dL_law_3559 (by decide) ?_
      refine v_weak (E2 := [aR 1000, aR 0, aR 72, aR 81, aR 82, aI (x5 + 10), aU, aU, aU]) ⟨Or.inl rfl, ⟨Or.inl rfl, ⟨Or.inl rfl, ⟨Or.inl rfl, ⟨Or.inl rfl, ⟨Or.inl rfl, ⟨Or.inr rfl, ⟨Or.inr rfl, ⟨Or.inl rfl, trivial⟩⟩⟩⟩⟩⟩⟩⟩⟩ ?_
      exact k
    · have k := k.2 z
      obtain ⟨⟨b2_1, b2_2⟩, k⟩ := k
      refine v_aload_n dL_law_560 rfl rfl ?_
      refine v_iconst dL_law_561 ⟨by decide, by decide⟩ ?_
      refine v_lald dL_law_562 rfl b2_1 b2_2 ?_
      refine v_iload dL_law_563 rfl ?_
      refine v_i2l dL_law_565 ?_
      refine v_lcmp dL_law_566 ?_
      refine v_if_eq (tgt := 572) dL_law_567 (by decide) (fun z => ?_) (fun z => ?_)
      · have k := k.1 z
        obtain ⟨b3_1, k⟩ := k
        refine v_goto (tgt := 3556) dL_law_572 (by decide) ?_
        refine v_iinc (E2 := [aR 1000, aR 0, aR 72, aR 81, aR 82, aI (x5 + 10), aI x6, aI x7, aU]) dL_law_3556 rfl b3_1 rfl ?_
        refine v_goto (tgt := 28) dL_law_3559 (by decide) ?_
        refine v_weak (E2 := [aR 1000, aR 0, aR 72, aR 81, aR 82, aI (x5 + 10), aU, aU, aU]) ⟨Or.inl rfl, ⟨Or.inl rfl, ⟨Or.inl rfl, ⟨Or.inl rfl, ⟨Or.inl rfl, ⟨Or.inl rfl, ⟨Or.inr rfl, ⟨Or.inr rfl, ⟨Or.inl rfl, trivial⟩⟩⟩⟩⟩⟩⟩⟩⟩ ?_
        exact k
      · have k := k.2 z
        refine v_iconst dL_law_570 ⟨by decide, by decide⟩ ?_
        exact v_lawret dL_law_571 rfl k
  · have k := k.2 z
    refine v_iconst dL_law_553 ⟨by decide, by decide⟩ ?_
    exact v_lawret dL_law_554 rfl k
theorem S_law_575 {kc ks : Nat} {h : Hh} {Q : PQ} {X : PX} {x5 : Int}
    (k : (2 ≤ kc ∧ 12 ≤ ks) ∧ am_V M_L_text 2 12 0 [aR 0, aR 81, aU] [] am_R0 h (fun v ρ' h' => am_V M_L_law (kc - 2) (ks - 12) 580 [aR 1000, aR 0, aR 72, aR 81, aR 82, aI x5, aU, aU, aU] (v ++ []) ρ' h' Q X) X) :
    am_V M_L_law kc ks 575 [aR 1000, aR 0, aR 72, aR 81, aR 82, aI x5, aU, aU, aU] [] am_R0 h Q X := by
  obtain ⟨⟨b0_1, b0_2⟩, k⟩ := k
  refine v_aload_n dL_law_575 rfl rfl ?_
  refine v_aload_n dL_law_576 rfl rfl ?_
  exact v_callSX (j := M_L_text) (As := [aR 0, aR 81]) (st := []) (E0 := [aR 0, aR 81, aU]) dL_law_577 ms_L_210 J_L_text b0_1 b0_2 (Nat.le_of_ble_eq_true rfl) rfl (Nat.le_of_ble_eq_true rfl) (List.forall_mem_cons.mpr ⟨rfl, List.forall_mem_cons.mpr ⟨rfl, fun _ h9 => absurd h9 List.not_mem_nil⟩⟩) (Nat.le_of_ble_eq_true rfl) rfl pn_L_text rfl k
theorem S_law_580 {kc ks : Nat} {h : Hh} {Q : PQ} {X : PX} {x5 : Int} {xs0 : Int}
    (k : am_V M_X11_text 0 0 0 [aR 72, aU] [] am_R0 h (fun v ρ' h' => am_V M_L_law kc ks 586 [aR 1000, aR 0, aR 72, aR 81, aR 82, aI x5, aI xs0, aU, aU] (v ++ []) ρ' h' Q X) X) :
    am_V M_L_law kc ks 580 [aR 1000, aR 0, aR 72, aR 81, aR 82, aI x5, aU, aU, aU] [aI xs0] am_R0 h Q X := by
  refine v_istore (E2 := [aR 1000, aR 0, aR 72, aR 81, aR 82, aI x5, aI xs0, aU, aU]) dL_law_580 (Nat.le_of_ble_eq_true rfl) rfl ?_
  refine v_aload_n dL_law_582 rfl rfl ?_
  exact v_callV (j := M_X11_text) (As := []) (st := []) (E0 := [aR 72, aU]) (a := 72) (ci := 9) (N := 11) (q9 := (RX11, TX11, 11)) dL_law_583 ml_L_213 J_X11_text (Nat.zero_le _) (Nat.zero_le _) (Nat.le_of_ble_eq_true rfl) rfl (Nat.le_of_ble_eq_true rfl) (List.forall_mem_cons.mpr ⟨rfl, fun _ h9 => absurd h9 List.not_mem_nil⟩) (Nat.le_of_ble_eq_true rfl) rfl rfl rfl rfl pn_X11_text rfl k
theorem S_law_586 {kc ks : Nat} {h : Hh} {Q : PQ} {X : PX} {x5 : Int} {x6 : Int} {xs0 : Int}
    (k : am_V M_X11_thrown 0 0 0 [aR 72] [] am_R0 h (fun v ρ' h' => am_V M_L_law kc ks 592 [aR 1000, aR 0, aR 72, aR 81, aR 82, aI x5, aI x6, aI xs0, aU] (v ++ []) ρ' h' Q X) X) :
    am_V M_L_law kc ks 586 [aR 1000, aR 0, aR 72, aR 81, aR 82, aI x5, aI x6, aU, aU] [aI xs0] am_R0 h Q X := by
  refine v_istore (E2 := [aR 1000, aR 0, aR 72, aR 81, aR 82, aI x5, aI x6, aI xs0, aU]) dL_law_586 (Nat.le_of_ble_eq_true rfl) rfl ?_
  refine v_aload_n dL_law_588 rfl rfl ?_
  exact v_callV (j := M_X11_thrown) (As := []) (st := []) (E0 := [aR 72]) (a := 72) (ci := 9) (N := 11) (q9 := (RX11, TX11, 11)) dL_law_589 ml_L_195 J_X11_thrown (Nat.zero_le _) (Nat.zero_le _) (Nat.le_of_ble_eq_true rfl) rfl (Nat.le_of_ble_eq_true rfl) (List.forall_mem_cons.mpr ⟨rfl, fun _ h9 => absurd h9 List.not_mem_nil⟩) (Nat.le_of_ble_eq_true rfl) rfl rfl rfl rfl pn_X11_thrown rfl k
theorem S_law_592 {kc ks : Nat} {h : Hh} {Q : PQ} {X : PX} {x5 : Int} {x6 : Int} {x7 : Int} {xs0 : Int}
    (k : ((xs0 = x6 → ((x6 ≠ 0 → ((-2147483648 ≤ ((x5 + 10) : Int) ∧ ((x5 + 10) : Int) < 2147483648)) ∧ am_V M_L_law kc ks 28 [aR 1000, aR 0, aR 72, aR 81, aR 82, aI (x5 + 10), aU, aU, aU] [] am_R0 h Q X) ∧ (x6 = 0 → ((0 : Int) ≤ 0 ∧ (0 : Int) < 1) ∧ (((if x7 < (h 81 0) then 1 else if (h 81 0) = x7 then 0 else -1) = 0 → ((-2147483648 ≤ ((x5 + 10) : Int) ∧ ((x5 + 10) : Int) < 2147483648)) ∧ am_V M_L_law kc ks 28 [aR 1000, aR 0, aR 72, aR 81, aR 82, aI (x5 + 10), aU, aU, aU] [] am_R0 h Q X) ∧ ((if x7 < (h 81 0) then 1 else if (h 81 0) = x7 then 0 else -1) ≠ 0 → Q [aI 0] am_R0 h))))) ∧ (xs0 ≠ x6 → Q [aI 0] am_R0 h))) :
    am_V M_L_law kc ks 592 [aR 1000, aR 0, aR 72, aR 81, aR 82, aI x5, aI x6, aI x7, aU] [aI xs0] am_R0 h Q X := by
  refine v_iload dL_law_592 rfl ?_
  refine v_icmp_eq (tgt := 599) dL_law_594 (by decide) (fun z => ?_) (fun z => ?_)
  · have k := k.1 z
    refine v_iload dL_law_599 rfl ?_
    refine v_if_ne (tgt := 616) dL_law_601 (by decide) (fun z => ?_) (fun z => ?_)
    · have k := k.1 z
      obtain ⟨b2_1, k⟩ := k
      refine v_goto (tgt := 3556) dL_law_616 (by decide) ?_
      refine v_iinc (E2 := [aR 1000, aR 0, aR 72, aR 81, aR 82, aI (x5 + 10), aI x6, aI x7, aU]) dL_law_3556 rfl b2_1 rfl ?_
      refine v_goto (tgt := 28) dL_law_3559 (by decide) ?_
      refine v_weak (E2 := [aR 1000, aR 0, aR 72, aR 81, aR 82, aI (x5 + 10), aU, aU, aU]) ⟨Or.inl rfl, ⟨Or.inl rfl, ⟨Or.inl rfl, ⟨Or.inl rfl, ⟨Or.inl rfl, ⟨Or.inl rfl, ⟨Or.inr rfl, ⟨Or.inr rfl, ⟨Or.inl rfl, trivial⟩⟩⟩⟩⟩⟩⟩⟩⟩ ?_
      exact k
    · have k := k.2 z
      obtain ⟨⟨b2_1, b2_2⟩, k⟩ := k
      refine v_aload_n dL_law_604 rfl rfl ?_
      refine v_iconst dL_law_605 ⟨by decide, by decide⟩ ?_
      refine v_lald dL_law_606 rfl b2_1 b2_2 ?_
      refine v_iload dL_law_607 rfl ?_
      refine v_i2l dL_law_609 ?_
      refine v_lcmp dL_law_610 ?_
      refine v_if_eq (tgt := 616) dL_law_611 (by decide) (fun z => ?_) (fun z => ?_)
      · have k := k.1 z
        obtain ⟨b3_1, k⟩ := k
        refine v_goto (tgt := 3556) dL_law_616 (by decide) ?_
        refine v_iinc (E2 := [aR 1000, aR 0, aR 72, aR 81, aR 82, aI (x5 + 10), aI x6, aI x7, aU]) dL_law_3556 rfl b3_1 rfl ?_
        refine v_goto (tgt := 28) dL_law_3559 (by decide) ?_
        refine v_weak (E2 := [aR 1000, aR 0, aR 72, aR 81, aR 82, aI (x5 + 10), aU, aU, aU]) ⟨Or.inl rfl, ⟨Or.inl rfl, ⟨Or.inl rfl, ⟨Or.inl rfl, ⟨Or.inl rfl, ⟨Or.inl rfl, ⟨Or.inr rfl, ⟨Or.inr rfl, ⟨Or.inl rfl, trivial⟩⟩⟩⟩⟩⟩⟩⟩⟩ ?_
        exact k
      · have k := k.2 z
        refine v_iconst dL_law_614 ⟨by decide, by decide⟩ ?_
        exact v_lawret dL_law_615 rfl k
  · have k := k.2 z
    refine v_iconst dL_law_597 ⟨by decide, by decide⟩ ?_
    exact v_lawret dL_law_598 rfl k
theorem S_law_619 {kc ks : Nat} {h : Hh} {Q : PQ} {X : PX} {x5 : Int}
    (k : ((-2147483648 ≤ ((x5 + 1) : Int) ∧ ((x5 + 1) : Int) < 2147483648) ∧ (0 : Int) ≤ (x5 + 1) ∧ ((x5 + 1) : Int) < h 1001 0 ∧ 1 ≤ kc ∧ 6 ≤ ks) ∧ am_V M_L_take 1 6 0 [aR 0, aI (h 1000 (x5 + 1)), aR 81, aU] [] am_R0 h (fun v ρ' h' => am_V M_L_law (kc - 1) (ks - 6) 630 [aR 1000, aR 0, aR 72, aR 81, aR 82, aI x5, aU, aU, aU] (v ++ []) ρ' h' Q X) X) :
    am_V M_L_law kc ks 619 [aR 1000, aR 0, aR 72, aR 81, aR 82, aI x5, aU, aU, aU] [] am_R0 h Q X := by
  obtain ⟨⟨b0_1, b0_2, b0_3, b0_4, b0_5⟩, k⟩ := k
  refine v_aload_n dL_law_619 rfl rfl ?_
  refine v_aload_n dL_law_620 rfl rfl ?_
  refine v_iload dL_law_621 rfl ?_
  refine v_iconst dL_law_623 ⟨by decide, by decide⟩ ?_
  refine v_iadd dL_law_624 b0_1 ?_
  refine v_sld dL_law_625 rfl b0_2 b0_3 (fun _ => ?_)
  refine v_aload_n dL_law_626 rfl rfl ?_
  exact v_callSX (j := M_L_take) (As := [aR 0, aI (h 1000 (x5 + 1)), aR 81]) (st := []) (E0 := [aR 0, aI (h 1000 (x5 + 1)), aR 81, aU]) dL_law_627 ms_L_214 J_L_take b0_4 b0_5 (Nat.le_of_ble_eq_true rfl) rfl (Nat.le_of_ble_eq_true rfl) (List.forall_mem_cons.mpr ⟨rfl, List.forall_mem_cons.mpr ⟨rfl, List.forall_mem_cons.mpr ⟨rfl, fun _ h9 => absurd h9 List.not_mem_nil⟩⟩⟩) (Nat.le_of_ble_eq_true rfl) rfl pn_L_take rfl k
theorem S_law_630 {kc ks : Nat} {h : Hh} {Q : PQ} {X : PX} {x5 : Int} {xs0 : Int}
    (k : ((-2147483648 ≤ ((x5 + 1) : Int) ∧ ((x5 + 1) : Int) < 2147483648) ∧ (0 : Int) ≤ (x5 + 1) ∧ ((x5 + 1) : Int) < h 1001 0) ∧ am_V M_X11_take 0 0 0 [aR 72, aI (h 1000 (x5 + 1)), aU] [] am_R0 h (fun v ρ' h' => am_V M_L_law kc ks 642 [aR 1000, aR 0, aR 72, aR 81, aR 82, aI x5, aI xs0, aU, aU] (v ++ []) ρ' h' Q X) X) :
    am_V M_L_law kc ks 630 [aR 1000, aR 0, aR 72, aR 81, aR 82, aI x5, aU, aU, aU] [aI xs0] am_R0 h Q X := by
  obtain ⟨⟨b0_1, b0_2, b0_3⟩, k⟩ := k
  refine v_istore (E2 := [aR 1000, aR 0, aR 72, aR 81, aR 82, aI x5, aI xs0, aU, aU]) dL_law_630 (Nat.le_of_ble_eq_true rfl) rfl ?_
  refine v_aload_n dL_law_632 rfl rfl ?_
  refine v_aload_n dL_law_633 rfl rfl ?_
  refine v_iload dL_law_634 rfl ?_
  refine v_iconst dL_law_636 ⟨by decide, by decide⟩ ?_
  refine v_iadd dL_law_637 b0_1 ?_
  refine v_sld dL_law_638 rfl b0_2 b0_3 (fun _ => ?_)
  exact v_callV (j := M_X11_take) (As := [aI (h 1000 (x5 + 1))]) (st := []) (E0 := [aR 72, aI (h 1000 (x5 + 1)), aU]) (a := 72) (ci := 9) (N := 11) (q9 := (RX11, TX11, 11)) dL_law_639 ml_L_216 J_X11_take (Nat.zero_le _) (Nat.zero_le _) (Nat.le_of_ble_eq_true rfl) rfl (Nat.le_of_ble_eq_true rfl) (List.forall_mem_cons.mpr ⟨rfl, List.forall_mem_cons.mpr ⟨rfl, fun _ h9 => absurd h9 List.not_mem_nil⟩⟩) (Nat.le_of_ble_eq_true rfl) rfl rfl rfl rfl pn_X11_take rfl k
theorem S_law_642 {kc ks : Nat} {h : Hh} {Q : PQ} {X : PX} {x5 : Int} {x6 : Int} {xs0 : Int}
    (k : am_V M_X11_thrown 0 0 0 [aR 72] [] am_R0 h (fun v ρ' h' => am_V M_L_law kc ks 648 [aR 1000, aR 0, aR 72, aR 81, aR 82, aI x5, aI x6, aI xs0, aU] (v ++ []) ρ' h' Q X) X) :
    am_V M_L_law kc ks 642 [aR 1000, aR 0, aR 72, aR 81, aR 82, aI x5, aI x6, aU, aU] [aI xs0] am_R0 h Q X := by
  refine v_istore (E2 := [aR 1000, aR 0, aR 72, aR 81, aR 82, aI x5, aI x6, aI xs0, aU]) dL_law_642 (Nat.le_of_ble_eq_true rfl) rfl ?_
  refine v_aload_n dL_law_644 rfl rfl ?_
  exact v_callV (j := M_X11_thrown) (As := []) (st := []) (E0 := [aR 72]) (a := 72) (ci := 9) (N := 11) (q9 := (RX11, TX11, 11)) dL_law_645 ml_L_195 J_X11_thrown (Nat.zero_le _) (Nat.zero_le _) (Nat.le_of_ble_eq_true rfl) rfl (Nat.le_of_ble_eq_true rfl) (List.forall_mem_cons.mpr ⟨rfl, fun _ h9 => absurd h9 List.not_mem_nil⟩) (Nat.le_of_ble_eq_true rfl) rfl rfl rfl rfl pn_X11_thrown rfl k
theorem S_law_648 {kc ks : Nat} {h : Hh} {Q : PQ} {X : PX} {x5 : Int} {x6 : Int} {x7 : Int} {xs0 : Int}
    (k : ((xs0 = x6 → ((x6 ≠ 0 → ((-2147483648 ≤ ((x5 + 10) : Int) ∧ ((x5 + 10) : Int) < 2147483648)) ∧ am_V M_L_law kc ks 28 [aR 1000, aR 0, aR 72, aR 81, aR 82, aI (x5 + 10), aU, aU, aU] [] am_R0 h Q X) ∧ (x6 = 0 → ((0 : Int) ≤ 0 ∧ (0 : Int) < 1) ∧ (((if x7 < (h 81 0) then 1 else if (h 81 0) = x7 then 0 else -1) = 0 → ((-2147483648 ≤ ((x5 + 10) : Int) ∧ ((x5 + 10) : Int) < 2147483648)) ∧ am_V M_L_law kc ks 28 [aR 1000, aR 0, aR 72, aR 81, aR 82, aI (x5 + 10), aU, aU, aU] [] am_R0 h Q X) ∧ ((if x7 < (h 81 0) then 1 else if (h 81 0) = x7 then 0 else -1) ≠ 0 → Q [aI 0] am_R0 h))))) ∧ (xs0 ≠ x6 → Q [aI 0] am_R0 h))) :
    am_V M_L_law kc ks 648 [aR 1000, aR 0, aR 72, aR 81, aR 82, aI x5, aI x6, aI x7, aU] [aI xs0] am_R0 h Q X := by
  refine v_iload dL_law_648 rfl ?_
  refine v_icmp_eq (tgt := 655) dL_law_650 (by decide) (fun z => ?_) (fun z => ?_)
  · have k := k.1 z
    refine v_iload dL_law_655 rfl ?_
    refine v_if_ne (tgt := 672) dL_law_657 (by decide) (fun z => ?_) (fun z => ?_)
    · have k := k.1 z
      obtain ⟨b2_1, k⟩ := k
      refine v_goto (tgt := 3556) dL_law_672 (by decide) ?_
      refine v_iinc (E2 := [aR 1000, aR 0, aR 72, aR 81, aR 82, aI (x5 + 10), aI x6, aI x7, aU]) dL_law_3556 rfl b2_1 rfl ?_
      refine v_goto (tgt := 28) dL_law_3559 (by decide) ?_
      refine v_weak (E2 := [aR 1000, aR 0, aR 72, aR 81, aR 82, aI (x5 + 10), aU, aU, aU]) ⟨Or.inl rfl, ⟨Or.inl rfl, ⟨Or.inl rfl, ⟨Or.inl rfl, ⟨Or.inl rfl, ⟨Or.inl rfl, ⟨Or.inr rfl, ⟨Or.inr rfl, ⟨Or.inl rfl, trivial⟩⟩⟩⟩⟩⟩⟩⟩⟩ ?_
      exact k
    · have k := k.2 z
      obtain ⟨⟨b2_1, b2_2⟩, k⟩ := k
      refine v_aload_n dL_law_660 rfl rfl ?_
      refine v_iconst dL_law_661 ⟨by decide, by decide⟩ ?_
      refine v_lald dL_law_662 rfl b2_1 b2_2 ?_
      refine v_iload dL_law_663 rfl ?_
      refine v_i2l dL_law_665 ?_
      refine v_lcmp dL_law_666 ?_
      refine v_if_eq (tgt := 672) dL_law_667 (by decide) (fun z => ?_) (fun z => ?_)
      · have k := k.1 z
        obtain ⟨b3_1, k⟩ := k
        refine v_goto (tgt := 3556) dL_law_672 (by decide) ?_
        refine v_iinc (E2 := [aR 1000, aR 0, aR 72, aR 81, aR 82, aI (x5 + 10), aI x6, aI x7, aU]) dL_law_3556 rfl b3_1 rfl ?_
        refine v_goto (tgt := 28) dL_law_3559 (by decide) ?_
        refine v_weak (E2 := [aR 1000, aR 0, aR 72, aR 81, aR 82, aI (x5 + 10), aU, aU, aU]) ⟨Or.inl rfl, ⟨Or.inl rfl, ⟨Or.inl rfl, ⟨Or.inl rfl, ⟨Or.inl rfl, ⟨Or.inl rfl, ⟨Or.inr rfl, ⟨Or.inr rfl, ⟨Or.inl rfl, trivial⟩⟩⟩⟩⟩⟩⟩⟩⟩ ?_
        exact k
      · have k := k.2 z
        refine v_iconst dL_law_670 ⟨by decide, by decide⟩ ?_
        exact v_lawret dL_law_671 rfl k
  · have k := k.2 z
    refine v_iconst dL_law_653 ⟨by decide, by decide⟩ ?_
    exact v_lawret dL_law_654 rfl k
theorem S_law_675 {kc ks : Nat} {h : Hh} {Q : PQ} {X : PX} {x5 : Int}
    (k : ((-2147483648 ≤ ((x5 + 1) : Int) ∧ ((x5 + 1) : Int) < 2147483648) ∧ (0 : Int) ≤ (x5 + 1) ∧ ((x5 + 1) : Int) < h 1001 0 ∧ 1 ≤ kc ∧ 6 ≤ ks) ∧ am_V M_L_length 1 6 0 [aR 0, aI (h 1000 (x5 + 1)), aR 81, aU] [] am_R0 h (fun v ρ' h' => am_V M_L_law (kc - 1) (ks - 6) 686 [aR 1000, aR 0, aR 72, aR 81, aR 82, aI x5, aU, aU, aU] (v ++ []) ρ' h' Q X) X) :
    am_V M_L_law kc ks 675 [aR 1000, aR 0, aR 72, aR 81, aR 82, aI x5, aU, aU, aU] [] am_R0 h Q X := by
  obtain ⟨⟨b0_1, b0_2, b0_3, b0_4, b0_5⟩, k⟩ := k
  refine v_aload_n dL_law_675 rfl rfl ?_
  refine v_aload_n dL_law_676 rfl rfl ?_
  refine v_iload dL_law_677 rfl ?_
  refine v_iconst dL_law_679 ⟨by decide, by decide⟩ ?_
  refine v_iadd dL_law_680 b0_1 ?_
  refine v_sld dL_law_681 rfl b0_2 b0_3 (fun _ => ?_)
  refine v_aload_n dL_law_682 rfl rfl ?_
  exact v_callSX (j := M_L_length) (As := [aR 0, aI (h 1000 (x5 + 1)), aR 81]) (st := []) (E0 := [aR 0, aI (h 1000 (x5 + 1)), aR 81, aU]) dL_law_683 ms_L_217 J_L_length b0_4 b0_5 (Nat.le_of_ble_eq_true rfl) rfl (Nat.le_of_ble_eq_true rfl) (List.forall_mem_cons.mpr ⟨rfl, List.forall_mem_cons.mpr ⟨rfl, List.forall_mem_cons.mpr ⟨rfl, fun _ h9 => absurd h9 List.not_mem_nil⟩⟩⟩) (Nat.le_of_ble_eq_true rfl) rfl pn_L_length rfl k
theorem S_law_686 {kc ks : Nat} {h : Hh} {Q : PQ} {X : PX} {x5 : Int} {xs0 : Int}
    (k : ((-2147483648 ≤ ((x5 + 1) : Int) ∧ ((x5 + 1) : Int) < 2147483648) ∧ (0 : Int) ≤ (x5 + 1) ∧ ((x5 + 1) : Int) < h 1001 0) ∧ am_V M_X11_length 0 0 0 [aR 72, aI (h 1000 (x5 + 1))] [] am_R0 h (fun v ρ' h' => am_V M_L_law kc ks 698 [aR 1000, aR 0, aR 72, aR 81, aR 82, aI x5, aI xs0, aU, aU] (v ++ []) ρ' h' Q X) X) :
    am_V M_L_law kc ks 686 [aR 1000, aR 0, aR 72, aR 81, aR 82, aI x5, aU, aU, aU] [aI xs0] am_R0 h Q X := by
  obtain ⟨⟨b0_1, b0_2, b0_3⟩, k⟩ := k
  refine v_istore (E2 := [aR 1000, aR 0, aR 72, aR 81, aR 82, aI x5, aI xs0, aU, aU]) dL_law_686 (Nat.le_of_ble_eq_true rfl) rfl ?_
  refine v_aload_n dL_law_688 rfl rfl ?_
  refine v_aload_n dL_law_689 rfl rfl ?_
  refine v_iload dL_law_690 rfl ?_
  refine v_iconst dL_law_692 ⟨by decide, by decide⟩ ?_
  refine v_iadd dL_law_693 b0_1 ?_
  refine v_sld dL_law_694 rfl b0_2 b0_3 (fun _ => ?_)
  exact v_callV (j := M_X11_length) (As := [aI (h 1000 (x5 + 1))]) (st := []) (E0 := [aR 72, aI (h 1000 (x5 + 1))]) (a := 72) (ci := 9) (N := 11) (q9 := (RX11, TX11, 11)) dL_law_695 ml_L_219 J_X11_length (Nat.zero_le _) (Nat.zero_le _) (Nat.le_of_ble_eq_true rfl) rfl (Nat.le_of_ble_eq_true rfl) (List.forall_mem_cons.mpr ⟨rfl, List.forall_mem_cons.mpr ⟨rfl, fun _ h9 => absurd h9 List.not_mem_nil⟩⟩) (Nat.le_of_ble_eq_true rfl) rfl rfl rfl rfl pn_X11_length rfl k
theorem S_law_698 {kc ks : Nat} {h : Hh} {Q : PQ} {X : PX} {x5 : Int} {x6 : Int} {xs0 : Int}
    (k : am_V M_X11_thrown 0 0 0 [aR 72] [] am_R0 h (fun v ρ' h' => am_V M_L_law kc ks 704 [aR 1000, aR 0, aR 72, aR 81, aR 82, aI x5, aI x6, aI xs0, aU] (v ++ []) ρ' h' Q X) X) :
    am_V M_L_law kc ks 698 [aR 1000, aR 0, aR 72, aR 81, aR 82, aI x5, aI x6, aU, aU] [aI xs0] am_R0 h Q X := by
  refine v_istore (E2 := [aR 1000, aR 0, aR 72, aR 81, aR 82, aI x5, aI x6, aI xs0, aU]) dL_law_698 (Nat.le_of_ble_eq_true rfl) rfl ?_
  refine v_aload_n dL_law_700 rfl rfl ?_
  exact v_callV (j := M_X11_thrown) (As := []) (st := []) (E0 := [aR 72]) (a := 72) (ci := 9) (N := 11) (q9 := (RX11, TX11, 11)) dL_law_701 ml_L_195 J_X11_thrown (Nat.zero_le _) (Nat.zero_le _) (Nat.le_of_ble_eq_true rfl) rfl (Nat.le_of_ble_eq_true rfl) (List.forall_mem_cons.mpr ⟨rfl, fun _ h9 => absurd h9 List.not_mem_nil⟩) (Nat.le_of_ble_eq_true rfl) rfl rfl rfl rfl pn_X11_thrown rfl k
theorem S_law_704 {kc ks : Nat} {h : Hh} {Q : PQ} {X : PX} {x5 : Int} {x6 : Int} {x7 : Int} {xs0 : Int}
    (k : ((xs0 = x6 → ((x6 ≠ 0 → ((-2147483648 ≤ ((x5 + 10) : Int) ∧ ((x5 + 10) : Int) < 2147483648)) ∧ am_V M_L_law kc ks 28 [aR 1000, aR 0, aR 72, aR 81, aR 82, aI (x5 + 10), aU, aU, aU] [] am_R0 h Q X) ∧ (x6 = 0 → ((0 : Int) ≤ 0 ∧ (0 : Int) < 1) ∧ (((if x7 < (h 81 0) then 1 else if (h 81 0) = x7 then 0 else -1) = 0 → ((-2147483648 ≤ ((x5 + 10) : Int) ∧ ((x5 + 10) : Int) < 2147483648)) ∧ am_V M_L_law kc ks 28 [aR 1000, aR 0, aR 72, aR 81, aR 82, aI (x5 + 10), aU, aU, aU] [] am_R0 h Q X) ∧ ((if x7 < (h 81 0) then 1 else if (h 81 0) = x7 then 0 else -1) ≠ 0 → Q [aI 0] am_R0 h))))) ∧ (xs0 ≠ x6 → Q [aI 0] am_R0 h))) :
    am_V M_L_law kc ks 704 [aR 1000, aR 0, aR 72, aR 81, aR 82, aI x5, aI x6, aI x7, aU] [aI xs0] am_R0 h Q X := by
  refine v_iload dL_law_704 rfl ?_
  refine v_icmp_eq (tgt := 711) dL_law_706 (by decide) (fun z => ?_) (fun z => ?_)
  · have k := k.1 z
    refine v_iload dL_law_711 rfl ?_
    refine v_if_ne (tgt := 728) dL_law_713 (by decide) (fun z => ?_) (fun z => ?_)
    · have k := k.1 z
      obtain ⟨b2_1, k⟩ := k
      refine v_goto (tgt := 3556) dL_law_728 (by decide) ?_
      refine v_iinc (E2 := [aR 1000, aR 0, aR 72, aR 81, aR 82, aI (x5 + 10), aI x6, aI x7, aU]) dL_law_3556 rfl b2_1 rfl ?_
      refine v_goto (tgt := 28) dL_law_3559 (by decide) ?_
      refine v_weak (E2 := [aR 1000, aR 0, aR 72, aR 81, aR 82, aI (x5 + 10), aU, aU, aU]) ⟨Or.inl rfl, ⟨Or.inl rfl, ⟨Or.inl rfl, ⟨Or.inl rfl, ⟨Or.inl rfl, ⟨Or.inl rfl, ⟨Or.inr rfl, ⟨Or.inr rfl, ⟨Or.inl rfl, trivial⟩⟩⟩⟩⟩⟩⟩⟩⟩ ?_
      exact k
    · have k := k.2 z
      obtain ⟨⟨b2_1, b2_2⟩, k⟩ := k
      refine v_aload_n dL_law_716 rfl rfl ?_
      refine v_iconst dL_law_717 ⟨by decide, by decide⟩ ?_
      refine v_lald dL_law_718 rfl b2_1 b2_2 ?_
      refine v_iload dL_law_719 rfl ?_
      refine v_i2l dL_law_721 ?_
      refine v_lcmp dL_law_722 ?_
      refine v_if_eq (tgt := 728) dL_law_723 (by decide) (fun z => ?_) (fun z => ?_)
      · have k := k.1 z
        obtain ⟨b3_1, k⟩ := k
        refine v_goto (tgt := 3556) dL_law_728 (by decide) ?_
        refine v_iinc (E2 := [aR 1000, aR 0, aR 72, aR 81, aR 82, aI (x5 + 10), aI x6, aI x7, aU]) dL_law_3556 rfl b3_1 rfl ?_
        refine v_goto (tgt := 28) dL_law_3559 (by decide) ?_
        refine v_weak (E2 := [aR 1000, aR 0, aR 72, aR 81, aR 82, aI (x5 + 10), aU, aU, aU]) ⟨Or.inl rfl, ⟨Or.inl rfl, ⟨Or.inl rfl, ⟨Or.inl rfl, ⟨Or.inl rfl, ⟨Or.inl rfl, ⟨Or.inr rfl, ⟨Or.inr rfl, ⟨Or.inl rfl, trivial⟩⟩⟩⟩⟩⟩⟩⟩⟩ ?_
        exact k
      · have k := k.2 z
        refine v_iconst dL_law_726 ⟨by decide, by decide⟩ ?_
        exact v_lawret dL_law_727 rfl k
  · have k := k.2 z
    refine v_iconst dL_law_709 ⟨by decide, by decide⟩ ?_
    exact v_lawret dL_law_710 rfl k
theorem S_law_731 {kc ks : Nat} {h : Hh} {Q : PQ} {X : PX} {x5 : Int}
    (k : ((-2147483648 ≤ ((x5 + 1) : Int) ∧ ((x5 + 1) : Int) < 2147483648) ∧ (0 : Int) ≤ (x5 + 1) ∧ ((x5 + 1) : Int) < h 1001 0 ∧ (-2147483648 ≤ ((x5 + 2) : Int) ∧ ((x5 + 2) : Int) < 2147483648) ∧ (0 : Int) ≤ (x5 + 2) ∧ ((x5 + 2) : Int) < h 1001 0 ∧ 2 ≤ kc ∧ 12 ≤ ks) ∧ am_V M_L_signAt 2 12 0 [aR 0, aI (h 1000 (x5 + 1)), aI (h 1000 (x5 + 2)), aR 81, aU] [] am_R0 h (fun v ρ' h' => am_V M_L_law (kc - 2) (ks - 12) 748 [aR 1000, aR 0, aR 72, aR 81, aR 82, aI x5, aU, aU, aU] (v ++ []) ρ' h' Q X) X) :
    am_V M_L_law kc ks 731 [aR 1000, aR 0, aR 72, aR 81, aR 82, aI x5, aU, aU, aU] [] am_R0 h Q X := by
  obtain ⟨⟨b0_1, b0_2, b0_3, b0_4, b0_5, b0_6, b0_7, b0_8⟩, k⟩ := k
  refine v_aload_n dL_law_731 rfl rfl ?_
  refine v_aload_n dL_law_732 rfl rfl ?_
  refine v_iload dL_law_733 rfl ?_
  refine v_iconst dL_law_735 ⟨by decide, by decide⟩ ?_
  refine v_iadd dL_law_736 b0_1 ?_
  refine v_sld dL_law_737 rfl b0_2 b0_3 (fun _ => ?_)
  refine v_aload_n dL_law_738 rfl rfl ?_
  refine v_iload dL_law_739 rfl ?_
  refine v_iconst dL_law_741 ⟨by decide, by decide⟩ ?_
  refine v_iadd dL_law_742 b0_4 ?_
  refine v_sld dL_law_743 rfl b0_5 b0_6 (fun _ => ?_)
  refine v_aload_n dL_law_744 rfl rfl ?_
  exact v_callSX (j := M_L_signAt) (As := [aR 0, aI (h 1000 (x5 + 1)), aI (h 1000 (x5 + 2)), aR 81]) (st := []) (E0 := [aR 0, aI (h 1000 (x5 + 1)), aI (h 1000 (x5 + 2)), aR 81, aU]) dL_law_745 ms_L_220 J_L_signAt b0_7 b0_8 (Nat.le_of_ble_eq_true rfl) rfl (Nat.le_of_ble_eq_true rfl) (List.forall_mem_cons.mpr ⟨rfl, List.forall_mem_cons.mpr ⟨rfl, List.forall_mem_cons.mpr ⟨rfl, List.forall_mem_cons.mpr ⟨rfl, fun _ h9 => absurd h9 List.not_mem_nil⟩⟩⟩⟩) (Nat.le_of_ble_eq_true rfl) rfl pn_L_signAt rfl k
theorem S_law_748 {kc ks : Nat} {h : Hh} {Q : PQ} {X : PX} {x5 : Int} {xs0 : Int}
    (k : ((-2147483648 ≤ ((x5 + 1) : Int) ∧ ((x5 + 1) : Int) < 2147483648) ∧ (0 : Int) ≤ (x5 + 1) ∧ ((x5 + 1) : Int) < h 1001 0 ∧ (-2147483648 ≤ ((x5 + 2) : Int) ∧ ((x5 + 2) : Int) < 2147483648) ∧ (0 : Int) ≤ (x5 + 2) ∧ ((x5 + 2) : Int) < h 1001 0) ∧ am_V M_X11_signAt 0 0 0 [aR 72, aI (h 1000 (x5 + 1)), aI (h 1000 (x5 + 2))] [] am_R0 h (fun v ρ' h' => am_V M_L_law kc ks 766 [aR 1000, aR 0, aR 72, aR 81, aR 82, aI x5, aI xs0, aU, aU] (v ++ []) ρ' h' Q X) X) :
    am_V M_L_law kc ks 748 [aR 1000, aR 0, aR 72, aR 81, aR 82, aI x5, aU, aU, aU] [aI xs0] am_R0 h Q X := by
  obtain ⟨⟨b0_1, b0_2, b0_3, b0_4, b0_5, b0_6⟩, k⟩ := k
  refine v_istore (E2 := [aR 1000, aR 0, aR 72, aR 81, aR 82, aI x5, aI xs0, aU, aU]) dL_law_748 (Nat.le_of_ble_eq_true rfl) rfl ?_
  refine v_aload_n dL_law_750 rfl rfl ?_
  refine v_aload_n dL_law_751 rfl rfl ?_
  refine v_iload dL_law_752 rfl ?_
  refine v_iconst dL_law_754 ⟨by decide, by decide⟩ ?_
  refine v_iadd dL_law_755 b0_1 ?_
  refine v_sld dL_law_756 rfl b0_2 b0_3 (fun _ => ?_)
  refine v_aload_n dL_law_757 rfl rfl ?_
  refine v_iload dL_law_758 rfl ?_
  refine v_iconst dL_law_760 ⟨by decide, by decide⟩ ?_
  refine v_iadd dL_law_761 b0_4 ?_
  refine v_sld dL_law_762 rfl b0_5 b0_6 (fun _ => ?_)
  exact v_callV (j := M_X11_signAt) (As := [aI (h 1000 (x5 + 1)), aI (h 1000 (x5 + 2))]) (st := []) (E0 := [aR 72, aI (h 1000 (x5 + 1)), aI (h 1000 (x5 + 2))]) (a := 72) (ci := 9) (N := 11) (q9 := (RX11, TX11, 11)) dL_law_763 ml_L_223 J_X11_signAt (Nat.zero_le _) (Nat.zero_le _) (Nat.le_of_ble_eq_true rfl) rfl (Nat.le_of_ble_eq_true rfl) (List.forall_mem_cons.mpr ⟨rfl, List.forall_mem_cons.mpr ⟨rfl, List.forall_mem_cons.mpr ⟨rfl, fun _ h9 => absurd h9 List.not_mem_nil⟩⟩⟩) (Nat.le_of_ble_eq_true rfl) rfl rfl rfl rfl pn_X11_signAt rfl k
theorem S_law_766 {kc ks : Nat} {h : Hh} {Q : PQ} {X : PX} {x5 : Int} {x6 : Int} {xs0 : Int}
    (k : am_V M_X11_thrown 0 0 0 [aR 72] [] am_R0 h (fun v ρ' h' => am_V M_L_law kc ks 772 [aR 1000, aR 0, aR 72, aR 81, aR 82, aI x5, aI x6, aI xs0, aU] (v ++ []) ρ' h' Q X) X) :
    am_V M_L_law kc ks 766 [aR 1000, aR 0, aR 72, aR 81, aR 82, aI x5, aI x6, aU, aU] [aI xs0] am_R0 h Q X := by
  refine v_istore (E2 := [aR 1000, aR 0, aR 72, aR 81, aR 82, aI x5, aI x6, aI xs0, aU]) dL_law_766 (Nat.le_of_ble_eq_true rfl) rfl ?_
  refine v_aload_n dL_law_768 rfl rfl ?_
  exact v_callV (j := M_X11_thrown) (As := []) (st := []) (E0 := [aR 72]) (a := 72) (ci := 9) (N := 11) (q9 := (RX11, TX11, 11)) dL_law_769 ml_L_195 J_X11_thrown (Nat.zero_le _) (Nat.zero_le _) (Nat.le_of_ble_eq_true rfl) rfl (Nat.le_of_ble_eq_true rfl) (List.forall_mem_cons.mpr ⟨rfl, fun _ h9 => absurd h9 List.not_mem_nil⟩) (Nat.le_of_ble_eq_true rfl) rfl rfl rfl rfl pn_X11_thrown rfl k
theorem S_law_772 {kc ks : Nat} {h : Hh} {Q : PQ} {X : PX} {x5 : Int} {x6 : Int} {x7 : Int} {xs0 : Int}
    (k : ((xs0 = x6 → ((x6 ≠ 0 → ((-2147483648 ≤ ((x5 + 10) : Int) ∧ ((x5 + 10) : Int) < 2147483648)) ∧ am_V M_L_law kc ks 28 [aR 1000, aR 0, aR 72, aR 81, aR 82, aI (x5 + 10), aU, aU, aU] [] am_R0 h Q X) ∧ (x6 = 0 → ((0 : Int) ≤ 0 ∧ (0 : Int) < 1) ∧ (((if x7 < (h 81 0) then 1 else if (h 81 0) = x7 then 0 else -1) = 0 → ((-2147483648 ≤ ((x5 + 10) : Int) ∧ ((x5 + 10) : Int) < 2147483648)) ∧ am_V M_L_law kc ks 28 [aR 1000, aR 0, aR 72, aR 81, aR 82, aI (x5 + 10), aU, aU, aU] [] am_R0 h Q X) ∧ ((if x7 < (h 81 0) then 1 else if (h 81 0) = x7 then 0 else -1) ≠ 0 → Q [aI 0] am_R0 h))))) ∧ (xs0 ≠ x6 → Q [aI 0] am_R0 h))) :
    am_V M_L_law kc ks 772 [aR 1000, aR 0, aR 72, aR 81, aR 82, aI x5, aI x6, aI x7, aU] [aI xs0] am_R0 h Q X := by
  refine v_iload dL_law_772 rfl ?_
  refine v_icmp_eq (tgt := 779) dL_law_774 (by decide) (fun z => ?_) (fun z => ?_)
  · have k := k.1 z
    refine v_iload dL_law_779 rfl ?_
    refine v_if_ne (tgt := 796) dL_law_781 (by decide) (fun z => ?_) (fun z => ?_)
    · have k := k.1 z
      obtain ⟨b2_1, k⟩ := k
      refine v_goto (tgt := 3556) dL_law_796 (by decide) ?_
      refine v_iinc (E2 := [aR 1000, aR 0, aR 72, aR 81, aR 82, aI (x5 + 10), aI x6, aI x7, aU]) dL_law_3556 rfl b2_1 rfl ?_
      refine v_goto (tgt := 28) dL_law_3559 (by decide) ?_
      refine v_weak (E2 := [aR 1000, aR 0, aR 72, aR 81, aR 82, aI (x5 + 10), aU, aU, aU]) ⟨Or.inl rfl, ⟨Or.inl rfl, ⟨Or.inl rfl, ⟨Or.inl rfl, ⟨Or.inl rfl, ⟨Or.inl rfl, ⟨Or.inr rfl, ⟨Or.inr rfl, ⟨Or.inl rfl, trivial⟩⟩⟩⟩⟩⟩⟩⟩⟩ ?_
      exact k
    · have k := k.2 z
      obtain ⟨⟨b2_1, b2_2⟩, k⟩ := k
      refine v_aload_n dL_law_784 rfl rfl ?_
      refine v_iconst dL_law_785 ⟨by decide, by decide⟩ ?_
      refine v_lald dL_law_786 rfl b2_1 b2_2 ?_
      refine v_iload dL_law_787 rfl ?_
      refine v_i2l dL_law_789 ?_
      refine v_lcmp dL_law_790 ?_
      refine v_if_eq (tgt := 796) dL_law_791 (by decide) (fun z => ?_) (fun z => ?_)
      · have k := k.1 z
        obtain ⟨b3_1, k⟩ := k
        refine v_goto (tgt := 3556) dL_law_796 (by decide) ?_
        refine v_iinc (E2 := [aR 1000, aR 0, aR 72, aR 81, aR 82, aI (x5 + 10), aI x6, aI x7, aU]) dL_law_3556 rfl b3_1 rfl ?_
        refine v_goto (tgt := 28) dL_law_3559 (by decide) ?_
        refine v_weak (E2 := [aR 1000, aR 0, aR 72, aR 81, aR 82, aI (x5 + 10), aU, aU, aU]) ⟨Or.inl rfl, ⟨Or.inl rfl, ⟨Or.inl rfl, ⟨Or.inl rfl, ⟨Or.inl rfl, ⟨Or.inl rfl, ⟨Or.inr rfl, ⟨Or.inr rfl, ⟨Or.inl rfl, trivial⟩⟩⟩⟩⟩⟩⟩⟩⟩ ?_
        exact k
      · have k := k.2 z
        refine v_iconst dL_law_794 ⟨by decide, by decide⟩ ?_
        exact v_lawret dL_law_795 rfl k
  · have k := k.2 z
    refine v_iconst dL_law_777 ⟨by decide, by decide⟩ ?_
    exact v_lawret dL_law_778 rfl k
theorem S_law_799 {kc ks : Nat} {h : Hh} {Q : PQ} {X : PX} {x5 : Int}
    (k : ((-2147483648 ≤ ((x5 + 1) : Int) ∧ ((x5 + 1) : Int) < 2147483648) ∧ (0 : Int) ≤ (x5 + 1) ∧ ((x5 + 1) : Int) < h 1001 0 ∧ (-2147483648 ≤ ((x5 + 2) : Int) ∧ ((x5 + 2) : Int) < 2147483648) ∧ (0 : Int) ≤ (x5 + 2) ∧ ((x5 + 2) : Int) < h 1001 0 ∧ 4 ≤ kc ∧ 24 ≤ ks) ∧ am_V M_L_join 4 24 0 [aR 0, aI (h 1000 (x5 + 1)), aI (h 1000 (x5 + 2)), aR 81, aU] [] am_R0 h (fun v ρ' h' => am_V M_L_law (kc - 4) (ks - 24) 816 [aR 1000, aR 0, aR 72, aR 81, aR 82, aI x5, aU, aU, aU] (v ++ []) ρ' h' Q X) X) :
    am_V M_L_law kc ks 799 [aR 1000, aR 0, aR 72, aR 81, aR 82, aI x5, aU, aU, aU] [] am_R0 h Q X := by
  obtain ⟨⟨b0_1, b0_2, b0_3, b0_4, b0_5, b0_6, b0_7, b0_8⟩, k⟩ := k
  refine v_aload_n dL_law_799 rfl rfl ?_
  refine v_aload_n dL_law_800 rfl rfl ?_
  refine v_iload dL_law_801 rfl ?_
  refine v_iconst dL_law_803 ⟨by decide, by decide⟩ ?_
  refine v_iadd dL_law_804 b0_1 ?_
  refine v_sld dL_law_805 rfl b0_2 b0_3 (fun _ => ?_)
  refine v_aload_n dL_law_806 rfl rfl ?_
  refine v_iload dL_law_807 rfl ?_
  refine v_iconst dL_law_809 ⟨by decide, by decide⟩ ?_
  refine v_iadd dL_law_810 b0_4 ?_
  refine v_sld dL_law_811 rfl b0_5 b0_6 (fun _ => ?_)
  refine v_aload_n dL_law_812 rfl rfl ?_
  exact v_callSX (j := M_L_join) (As := [aR 0, aI (h 1000 (x5 + 1)), aI (h 1000 (x5 + 2)), aR 81]) (st := []) (E0 := [aR 0, aI (h 1000 (x5 + 1)), aI (h 1000 (x5 + 2)), aR 81, aU]) dL_law_813 ms_L_224 J_L_join b0_7 b0_8 (Nat.le_of_ble_eq_true rfl) rfl (Nat.le_of_ble_eq_true rfl) (List.forall_mem_cons.mpr ⟨rfl, List.forall_mem_cons.mpr ⟨rfl, List.forall_mem_cons.mpr ⟨rfl, List.forall_mem_cons.mpr ⟨rfl, fun _ h9 => absurd h9 List.not_mem_nil⟩⟩⟩⟩) (Nat.le_of_ble_eq_true rfl) rfl pn_L_join rfl k
theorem S_law_816 {kc ks : Nat} {h : Hh} {Q : PQ} {X : PX} {x5 : Int} {xs0 : Int}
    (k : ((-2147483648 ≤ ((x5 + 1) : Int) ∧ ((x5 + 1) : Int) < 2147483648) ∧ (0 : Int) ≤ (x5 + 1) ∧ ((x5 + 1) : Int) < h 1001 0 ∧ (-2147483648 ≤ ((x5 + 2) : Int) ∧ ((x5 + 2) : Int) < 2147483648) ∧ (0 : Int) ≤ (x5 + 2) ∧ ((x5 + 2) : Int) < h 1001 0) ∧ am_V M_X11_join 0 0 0 [aR 72, aI (h 1000 (x5 + 1)), aI (h 1000 (x5 + 2)), aU] [] am_R0 h (fun v ρ' h' => am_V M_L_law kc ks 834 [aR 1000, aR 0, aR 72, aR 81, aR 82, aI x5, aI xs0, aU, aU] (v ++ []) ρ' h' Q X) X) :
    am_V M_L_law kc ks 816 [aR 1000, aR 0, aR 72, aR 81, aR 82, aI x5, aU, aU, aU] [aI xs0] am_R0 h Q X := by
  obtain ⟨⟨b0_1, b0_2, b0_3, b0_4, b0_5, b0_6⟩, k⟩ := k
  refine v_istore (E2 := [aR 1000, aR 0, aR 72, aR 81, aR 82, aI x5, aI xs0, aU, aU]) dL_law_816 (Nat.le_of_ble_eq_true rfl) rfl ?_
  refine v_aload_n dL_law_818 rfl rfl ?_
  refine v_aload_n dL_law_819 rfl rfl ?_
  refine v_iload dL_law_820 rfl ?_
  refine v_iconst dL_law_822 ⟨by decide, by decide⟩ ?_
  refine v_iadd dL_law_823 b0_1 ?_
  refine v_sld dL_law_824 rfl b0_2 b0_3 (fun _ => ?_)
  refine v_aload_n dL_law_825 rfl rfl ?_
  refine v_iload dL_law_826 rfl ?_
  refine v_iconst dL_law_828 ⟨by decide, by decide⟩ ?_
  refine v_iadd dL_law_829 b0_4 ?_
  refine v_sld dL_law_830 rfl b0_5 b0_6 (fun _ => ?_)
  exact v_callV (j := M_X11_join) (As := [aI (h 1000 (x5 + 1)), aI (h 1000 (x5 + 2))]) (st := []) (E0 := [aR 72, aI (h 1000 (x5 + 1)), aI (h 1000 (x5 + 2)), aU]) (a := 72) (ci := 9) (N := 11) (q9 := (RX11, TX11, 11)) dL_law_831 ml_L_226 J_X11_join (Nat.zero_le _) (Nat.zero_le _) (Nat.le_of_ble_eq_true rfl) rfl (Nat.le_of_ble_eq_true rfl) (List.forall_mem_cons.mpr ⟨rfl, List.forall_mem_cons.mpr ⟨rfl, List.forall_mem_cons.mpr ⟨rfl, fun _ h9 => absurd h9 List.not_mem_nil⟩⟩⟩) (Nat.le_of_ble_eq_true rfl) rfl rfl rfl rfl pn_X11_join rfl k
theorem S_law_834 {kc ks : Nat} {h : Hh} {Q : PQ} {X : PX} {x5 : Int} {x6 : Int} {xs0 : Int}
    (k : am_V M_X11_thrown 0 0 0 [aR 72] [] am_R0 h (fun v ρ' h' => am_V M_L_law kc ks 840 [aR 1000, aR 0, aR 72, aR 81, aR 82, aI x5, aI x6, aI xs0, aU] (v ++ []) ρ' h' Q X) X) :
    am_V M_L_law kc ks 834 [aR 1000, aR 0, aR 72, aR 81, aR 82, aI x5, aI x6, aU, aU] [aI xs0] am_R0 h Q X := by
  refine v_istore (E2 := [aR 1000, aR 0, aR 72, aR 81, aR 82, aI x5, aI x6, aI xs0, aU]) dL_law_834 (Nat.le_of_ble_eq_true rfl) rfl ?_
  refine v_aload_n dL_law_836 rfl rfl ?_
  exact v_callV (j := M_X11_thrown) (As := []) (st := []) (E0 := [aR 72]) (a := 72) (ci := 9) (N := 11) (q9 := (RX11, TX11, 11)) dL_law_837 ml_L_195 J_X11_thrown (Nat.zero_le _) (Nat.zero_le _) (Nat.le_of_ble_eq_true rfl) rfl (Nat.le_of_ble_eq_true rfl) (List.forall_mem_cons.mpr ⟨rfl, fun _ h9 => absurd h9 List.not_mem_nil⟩) (Nat.le_of_ble_eq_true rfl) rfl rfl rfl rfl pn_X11_thrown rfl k
theorem S_law_840 {kc ks : Nat} {h : Hh} {Q : PQ} {X : PX} {x5 : Int} {x6 : Int} {x7 : Int} {xs0 : Int}
    (k : ((xs0 = x6 → ((x6 ≠ 0 → ((-2147483648 ≤ ((x5 + 10) : Int) ∧ ((x5 + 10) : Int) < 2147483648)) ∧ am_V M_L_law kc ks 28 [aR 1000, aR 0, aR 72, aR 81, aR 82, aI (x5 + 10), aU, aU, aU] [] am_R0 h Q X) ∧ (x6 = 0 → ((0 : Int) ≤ 0 ∧ (0 : Int) < 1) ∧ (((if x7 < (h 81 0) then 1 else if (h 81 0) = x7 then 0 else -1) = 0 → ((-2147483648 ≤ ((x5 + 10) : Int) ∧ ((x5 + 10) : Int) < 2147483648)) ∧ am_V M_L_law kc ks 28 [aR 1000, aR 0, aR 72, aR 81, aR 82, aI (x5 + 10), aU, aU, aU] [] am_R0 h Q X) ∧ ((if x7 < (h 81 0) then 1 else if (h 81 0) = x7 then 0 else -1) ≠ 0 → Q [aI 0] am_R0 h))))) ∧ (xs0 ≠ x6 → Q [aI 0] am_R0 h))) :
    am_V M_L_law kc ks 840 [aR 1000, aR 0, aR 72, aR 81, aR 82, aI x5, aI x6, aI x7, aU] [aI xs0] am_R0 h Q X := by
  refine v_iload dL_law_840 rfl ?_
  refine v_icmp_eq (tgt := 847) dL_law_842 (by decide) (fun z => ?_) (fun z => ?_)
  · have k := k.1 z
    refine v_iload dL_law_847 rfl ?_
    refine v_if_ne (tgt := 864) dL_law_849 (by decide) (fun z => ?_) (fun z => ?_)
    · have k := k.1 z
      obtain ⟨b2_1, k⟩ := k
      refine v_goto (tgt := 3556) dL_law_864 (by decide) ?_
      refine v_iinc (E2 := [aR 1000, aR 0, aR 72, aR 81, aR 82, aI (x5 + 10), aI x6, aI x7, aU]) dL_law_3556 rfl b2_1 rfl ?_
      refine v_goto (tgt := 28) dL_law_3559 (by decide) ?_
      refine v_weak (E2 := [aR 1000, aR 0, aR 72, aR 81, aR 82, aI (x5 + 10), aU, aU, aU]) ⟨Or.inl rfl, ⟨Or.inl rfl, ⟨Or.inl rfl, ⟨Or.inl rfl, ⟨Or.inl rfl, ⟨Or.inl rfl, ⟨Or.inr rfl, ⟨Or.inr rfl, ⟨Or.inl rfl, trivial⟩⟩⟩⟩⟩⟩⟩⟩⟩ ?_
      exact k
    · have k := k.2 z
      obtain ⟨⟨b2_1, b2_2⟩, k⟩ := k
      refine v_aload_n dL_law_852 rfl rfl ?_
      refine v_iconst dL_law_853 ⟨by decide, by decide⟩ ?_
      refine v_lald dL_law_854 rfl b2_1 b2_2 ?_
      refine v_iload dL_law_855 rfl ?_
      refine v_i2l dL_law_857 ?_
      refine v_lcmp dL_law_858 ?_
      refine v_if_eq (tgt := 864) dL_law_859 (by decide) (fun z => ?_) (fun z => ?_)
      · have k := k.1 z
        obtain ⟨b3_1, k⟩ := k
        refine v_goto (tgt := 3556) dL_law_864 (by decide) ?_
        refine v_iinc (E2 := [aR 1000, aR 0, aR 72, aR 81, aR 82, aI (x5 + 10), aI x6, aI x7, aU]) dL_law_3556 rfl b3_1 rfl ?_
        refine v_goto (tgt := 28) dL_law_3559 (by decide) ?_
        refine v_weak (E2 := [aR 1000, aR 0, aR 72, aR 81, aR 82, aI (x5 + 10), aU, aU, aU]) ⟨Or.inl rfl, ⟨Or.inl rfl, ⟨Or.inl rfl, ⟨Or.inl rfl, ⟨Or.inl rfl, ⟨Or.inl rfl, ⟨Or.inr rfl, ⟨Or.inr rfl, ⟨Or.inl rfl, trivial⟩⟩⟩⟩⟩⟩⟩⟩⟩ ?_
        exact k
      · have k := k.2 z
        refine v_iconst dL_law_862 ⟨by decide, by decide⟩ ?_
        exact v_lawret dL_law_863 rfl k
  · have k := k.2 z
    refine v_iconst dL_law_845 ⟨by decide, by decide⟩ ?_
    exact v_lawret dL_law_846 rfl k
theorem S_law_867 {kc ks : Nat} {h : Hh} {Q : PQ} {X : PX} {x5 : Int}
    (k : ((-2147483648 ≤ ((x5 + 1) : Int) ∧ ((x5 + 1) : Int) < 2147483648) ∧ (0 : Int) ≤ (x5 + 1) ∧ ((x5 + 1) : Int) < h 1001 0 ∧ 2 ≤ kc ∧ 12 ≤ ks) ∧ am_V M_L_mirror 2 12 0 [aR 0, aI (h 1000 (x5 + 1)), aR 81, aU] [] am_R0 h (fun v ρ' h' => am_V M_L_law (kc - 2) (ks - 12) 878 [aR 1000, aR 0, aR 72, aR 81, aR 82, aI x5, aU, aU, aU] (v ++ []) ρ' h' Q X) X) :
    am_V M_L_law kc ks 867 [aR 1000, aR 0, aR 72, aR 81, aR 82, aI x5, aU, aU, aU] [] am_R0 h Q X := by
  obtain ⟨⟨b0_1, b0_2, b0_3, b0_4, b0_5⟩, k⟩ := k
  refine v_aload_n dL_law_867 rfl rfl ?_
  refine v_aload_n dL_law_868 rfl rfl ?_
  refine v_iload dL_law_869 rfl ?_
  refine v_iconst dL_law_871 ⟨by decide, by decide⟩ ?_
  refine v_iadd dL_law_872 b0_1 ?_
  refine v_sld dL_law_873 rfl b0_2 b0_3 (fun _ => ?_)
  refine v_aload_n dL_law_874 rfl rfl ?_
  exact v_callSX (j := M_L_mirror) (As := [aR 0, aI (h 1000 (x5 + 1)), aR 81]) (st := []) (E0 := [aR 0, aI (h 1000 (x5 + 1)), aR 81, aU]) dL_law_875 ms_L_227 J_L_mirror b0_4 b0_5 (Nat.le_of_ble_eq_true rfl) rfl (Nat.le_of_ble_eq_true rfl) (List.forall_mem_cons.mpr ⟨rfl, List.forall_mem_cons.mpr ⟨rfl, List.forall_mem_cons.mpr ⟨rfl, fun _ h9 => absurd h9 List.not_mem_nil⟩⟩⟩) (Nat.le_of_ble_eq_true rfl) rfl pn_L_mirror rfl k
theorem S_law_878 {kc ks : Nat} {h : Hh} {Q : PQ} {X : PX} {x5 : Int} {xs0 : Int}
    (k : ((-2147483648 ≤ ((x5 + 1) : Int) ∧ ((x5 + 1) : Int) < 2147483648) ∧ (0 : Int) ≤ (x5 + 1) ∧ ((x5 + 1) : Int) < h 1001 0) ∧ am_V M_X11_mirror 0 0 0 [aR 72, aI (h 1000 (x5 + 1)), aU] [] am_R0 h (fun v ρ' h' => am_V M_L_law kc ks 890 [aR 1000, aR 0, aR 72, aR 81, aR 82, aI x5, aI xs0, aU, aU] (v ++ []) ρ' h' Q X) X) :
    am_V M_L_law kc ks 878 [aR 1000, aR 0, aR 72, aR 81, aR 82, aI x5, aU, aU, aU] [aI xs0] am_R0 h Q X := by
  obtain ⟨⟨b0_1, b0_2, b0_3⟩, k⟩ := k
  refine v_istore (E2 := [aR 1000, aR 0, aR 72, aR 81, aR 82, aI x5, aI xs0, aU, aU]) dL_law_878 (Nat.le_of_ble_eq_true rfl) rfl ?_
  refine v_aload_n dL_law_880 rfl rfl ?_
  refine v_aload_n dL_law_881 rfl rfl ?_
  refine v_iload dL_law_882 rfl ?_
  refine v_iconst dL_law_884 ⟨by decide, by decide⟩ ?_
  refine v_iadd dL_law_885 b0_1 ?_
  refine v_sld dL_law_886 rfl b0_2 b0_3 (fun _ => ?_)
  exact v_callV (j := M_X11_mirror) (As := [aI (h 1000 (x5 + 1))]) (st := []) (E0 := [aR 72, aI (h 1000 (x5 + 1)), aU]) (a := 72) (ci := 9) (N := 11) (q9 := (RX11, TX11, 11)) dL_law_887 ml_L_229 J_X11_mirror (Nat.zero_le _) (Nat.zero_le _) (Nat.le_of_ble_eq_true rfl) rfl (Nat.le_of_ble_eq_true rfl) (List.forall_mem_cons.mpr ⟨rfl, List.forall_mem_cons.mpr ⟨rfl, fun _ h9 => absurd h9 List.not_mem_nil⟩⟩) (Nat.le_of_ble_eq_true rfl) rfl rfl rfl rfl pn_X11_mirror rfl k
theorem S_law_890 {kc ks : Nat} {h : Hh} {Q : PQ} {X : PX} {x5 : Int} {x6 : Int} {xs0 : Int}
    (k : am_V M_X11_thrown 0 0 0 [aR 72] [] am_R0 h (fun v ρ' h' => am_V M_L_law kc ks 896 [aR 1000, aR 0, aR 72, aR 81, aR 82, aI x5, aI x6, aI xs0, aU] (v ++ []) ρ' h' Q X) X) :
    am_V M_L_law kc ks 890 [aR 1000, aR 0, aR 72, aR 81, aR 82, aI x5, aI x6, aU, aU] [aI xs0] am_R0 h Q X := by
  refine v_istore (E2 := [aR 1000, aR 0, aR 72, aR 81, aR 82, aI x5, aI x6, aI xs0, aU]) dL_law_890 (Nat.le_of_ble_eq_true rfl) rfl ?_
  refine v_aload_n dL_law_892 rfl rfl ?_
  exact v_callV (j := M_X11_thrown) (As := []) (st := []) (E0 := [aR 72]) (a := 72) (ci := 9) (N := 11) (q9 := (RX11, TX11, 11)) dL_law_893 ml_L_195 J_X11_thrown (Nat.zero_le _) (Nat.zero_le _) (Nat.le_of_ble_eq_true rfl) rfl (Nat.le_of_ble_eq_true rfl) (List.forall_mem_cons.mpr ⟨rfl, fun _ h9 => absurd h9 List.not_mem_nil⟩) (Nat.le_of_ble_eq_true rfl) rfl rfl rfl rfl pn_X11_thrown rfl k
theorem S_law_896 {kc ks : Nat} {h : Hh} {Q : PQ} {X : PX} {x5 : Int} {x6 : Int} {x7 : Int} {xs0 : Int}
    (k : ((xs0 = x6 → ((x6 ≠ 0 → ((-2147483648 ≤ ((x5 + 10) : Int) ∧ ((x5 + 10) : Int) < 2147483648)) ∧ am_V M_L_law kc ks 28 [aR 1000, aR 0, aR 72, aR 81, aR 82, aI (x5 + 10), aU, aU, aU] [] am_R0 h Q X) ∧ (x6 = 0 → ((0 : Int) ≤ 0 ∧ (0 : Int) < 1) ∧ (((if x7 < (h 81 0) then 1 else if (h 81 0) = x7 then 0 else -1) = 0 → ((-2147483648 ≤ ((x5 + 10) : Int) ∧ ((x5 + 10) : Int) < 2147483648)) ∧ am_V M_L_law kc ks 28 [aR 1000, aR 0, aR 72, aR 81, aR 82, aI (x5 + 10), aU, aU, aU] [] am_R0 h Q X) ∧ ((if x7 < (h 81 0) then 1 else if (h 81 0) = x7 then 0 else -1) ≠ 0 → Q [aI 0] am_R0 h))))) ∧ (xs0 ≠ x6 → Q [aI 0] am_R0 h))) :
    am_V M_L_law kc ks 896 [aR 1000, aR 0, aR 72, aR 81, aR 82, aI x5, aI x6, aI x7, aU] [aI xs0] am_R0 h Q X := by
  refine v_iload dL_law_896 rfl ?_
  refine v_icmp_eq (tgt := 903) dL_law_898 (by decide) (fun z => ?_) (fun z => ?_)
  · have k := k.1 z
    refine v_iload dL_law_903 rfl ?_
    refine v_if_ne (tgt := 920) dL_law_905 (by decide) (fun z => ?_) (fun z => ?_)
    · have k := k.1 z
      obtain ⟨b2_1, k⟩ := k
      refine v_goto (tgt := 3556) dL_law_920 (by decide) ?_
      refine v_iinc (E2 := [aR 1000, aR 0, aR 72, aR 81, aR 82, aI (x5 + 10), aI x6, aI x7, aU]) dL_law_3556 rfl b2_1 rfl ?_
      refine v_goto (tgt := 28) dL_law_3559 (by decide) ?_
      refine v_weak (E2 := [aR 1000, aR 0, aR 72, aR 81, aR 82, aI (x5 + 10), aU, aU, aU]) ⟨Or.inl rfl, ⟨Or.inl rfl, ⟨Or.inl rfl, ⟨Or.inl rfl, ⟨Or.inl rfl, ⟨Or.inl rfl, ⟨Or.inr rfl, ⟨Or.inr rfl, ⟨Or.inl rfl, trivial⟩⟩⟩⟩⟩⟩⟩⟩⟩ ?_
      exact k
    · have k := k.2 z
      obtain ⟨⟨b2_1, b2_2⟩, k⟩ := k
      refine v_aload_n dL_law_908 rfl rfl ?_
      refine v_iconst dL_law_909 ⟨by decide, by decide⟩ ?_
      refine v_lald dL_law_910 rfl b2_1 b2_2 ?_
      refine v_iload dL_law_911 rfl ?_
      refine v_i2l dL_law_913 ?_
      refine v_lcmp dL_law_914 ?_
      refine v_if_eq (tgt := 920) dL_law_915 (by decide) (fun z => ?_) (fun z => ?_)
      · have k := k.1 z
        obtain ⟨b3_1, k⟩ := k
        refine v_goto (tgt := 3556) dL_law_920 (by decide) ?_
        refine v_iinc (E2 := [aR 1000, aR 0, aR 72, aR 81, aR 82, aI (x5 + 10), aI x6, aI x7, aU]) dL_law_3556 rfl b3_1 rfl ?_
        refine v_goto (tgt := 28) dL_law_3559 (by decide) ?_
        refine v_weak (E2 := [aR 1000, aR 0, aR 72, aR 81, aR 82, aI (x5 + 10), aU, aU, aU]) ⟨Or.inl rfl, ⟨Or.inl rfl, ⟨Or.inl rfl, ⟨Or.inl rfl, ⟨Or.inl rfl, ⟨Or.inl rfl, ⟨Or.inr rfl, ⟨Or.inr rfl, ⟨Or.inl rfl, trivial⟩⟩⟩⟩⟩⟩⟩⟩⟩ ?_
        exact k
      · have k := k.2 z
        refine v_iconst dL_law_918 ⟨by decide, by decide⟩ ?_
        exact v_lawret dL_law_919 rfl k
  · have k := k.2 z
    refine v_iconst dL_law_901 ⟨by decide, by decide⟩ ?_
    exact v_lawret dL_law_902 rfl k
theorem S_law_923 {kc ks : Nat} {h : Hh} {Q : PQ} {X : PX} {x5 : Int}
    (k : ((-2147483648 ≤ ((x5 + 1) : Int) ∧ ((x5 + 1) : Int) < 2147483648) ∧ (0 : Int) ≤ (x5 + 1) ∧ ((x5 + 1) : Int) < h 1001 0 ∧ (-2147483648 ≤ ((x5 + 2) : Int) ∧ ((x5 + 2) : Int) < 2147483648) ∧ (0 : Int) ≤ (x5 + 2) ∧ ((x5 + 2) : Int) < h 1001 0 ∧ (-2147483648 ≤ ((x5 + 3) : Int) ∧ ((x5 + 3) : Int) < 2147483648) ∧ (0 : Int) ≤ (x5 + 3) ∧ ((x5 + 3) : Int) < h 1001 0 ∧ 3 ≤ kc ∧ 18 ≤ ks) ∧ am_V M_L_change 3 18 0 [aR 0, aI (h 1000 (x5 + 1)), aI (h 1000 (x5 + 2)), aI ((h 1000 (x5 + 3)) % 65536), aR 81, aU] [] am_R0 h (fun v ρ' h' => am_V M_L_law (kc - 3) (ks - 18) 947 [aR 1000, aR 0, aR 72, aR 81, aR 82, aI x5, aU, aU, aU] (v ++ []) ρ' h' Q X) X) :
    am_V M_L_law kc ks 923 [aR 1000, aR 0, aR 72, aR 81, aR 82, aI x5, aU, aU, aU] [] am_R0 h Q X := by
  obtain ⟨⟨b0_1, b0_2, b0_3, b0_4, b0_5, b0_6, b0_7, b0_8, b0_9, b0_10, b0_11⟩, k⟩ := k
  refine v_aload_n dL_law_923 rfl rfl ?_
  refine v_aload_n dL_law_924 rfl rfl ?_
  refine v_iload dL_law_925 rfl ?_
  refine v_iconst dL_law_927 ⟨by decide, by decide⟩ ?_
  refine v_iadd dL_law_928 b0_1 ?_
  refine v_sld dL_law_929 rfl b0_2 b0_3 (fun _ => ?_)
  refine v_aload_n dL_law_930 rfl rfl ?_
  refine v_iload dL_law_931 rfl ?_
  refine v_iconst dL_law_933 ⟨by decide, by decide⟩ ?_
  refine v_iadd dL_law_934 b0_4 ?_
  refine v_sld dL_law_935 rfl b0_5 b0_6 (fun _ => ?_)
  refine v_aload_n dL_law_936 rfl rfl ?_
  refine v_iload dL_law_937 rfl ?_
  refine v_iconst dL_law_939 ⟨by decide, by decide⟩ ?_
  refine v_iadd dL_law_940 b0_7 ?_
  refine v_sld dL_law_941 rfl b0_8 b0_9 (fun _ => ?_)
  refine v_i2c dL_law_942 ?_
  refine v_aload_n dL_law_943 rfl rfl ?_
  exact v_callSX (j := M_L_change) (As := [aR 0, aI (h 1000 (x5 + 1)), aI (h 1000 (x5 + 2)), aI ((h 1000 (x5 + 3)) % 65536), aR 81]) (st := []) (E0 := [aR 0, aI (h 1000 (x5 + 1)), aI (h 1000 (x5 + 2)), aI ((h 1000 (x5 + 3)) % 65536), aR 81, aU]) dL_law_944 ms_L_230 J_L_change b0_10 b0_11 (Nat.le_of_ble_eq_true rfl) rfl (Nat.le_of_ble_eq_true rfl) (List.forall_mem_cons.mpr ⟨rfl, List.forall_mem_cons.mpr ⟨rfl, List.forall_mem_cons.mpr ⟨rfl, List.forall_mem_cons.mpr ⟨rfl, List.forall_mem_cons.mpr ⟨rfl, fun _ h9 => absurd h9 List.not_mem_nil⟩⟩⟩⟩⟩) (Nat.le_of_ble_eq_true rfl) rfl pn_L_change rfl k
theorem S_law_947 {kc ks : Nat} {h : Hh} {Q : PQ} {X : PX} {x5 : Int} {xs0 : Int}
    (k : ((-2147483648 ≤ ((x5 + 1) : Int) ∧ ((x5 + 1) : Int) < 2147483648) ∧ (0 : Int) ≤ (x5 + 1) ∧ ((x5 + 1) : Int) < h 1001 0 ∧ (-2147483648 ≤ ((x5 + 2) : Int) ∧ ((x5 + 2) : Int) < 2147483648) ∧ (0 : Int) ≤ (x5 + 2) ∧ ((x5 + 2) : Int) < h 1001 0 ∧ (-2147483648 ≤ ((x5 + 3) : Int) ∧ ((x5 + 3) : Int) < 2147483648) ∧ (0 : Int) ≤ (x5 + 3) ∧ ((x5 + 3) : Int) < h 1001 0) ∧ am_V M_X11_change 0 0 0 [aR 72, aI (h 1000 (x5 + 1)), aI (h 1000 (x5 + 2)), aI ((h 1000 (x5 + 3)) % 65536), aU] [] am_R0 h (fun v ρ' h' => am_V M_L_law kc ks 972 [aR 1000, aR 0, aR 72, aR 81, aR 82, aI x5, aI xs0, aU, aU] (v ++ []) ρ' h' Q X) X) :
    am_V M_L_law kc ks 947 [aR 1000, aR 0, aR 72, aR 81, aR 82, aI x5, aU, aU, aU] [aI xs0] am_R0 h Q X := by
  obtain ⟨⟨b0_1, b0_2, b0_3, b0_4, b0_5, b0_6, b0_7, b0_8, b0_9⟩, k⟩ := k
  refine v_istore (E2 := [aR 1000, aR 0, aR 72, aR 81, aR 82, aI x5, aI xs0, aU, aU]) dL_law_947 (Nat.le_of_ble_eq_true rfl) rfl ?_
  refine v_aload_n dL_law_949 rfl rfl ?_
  refine v_aload_n dL_law_950 rfl rfl ?_
  refine v_iload dL_law_951 rfl ?_
  refine v_iconst dL_law_953 ⟨by decide, by decide⟩ ?_
  refine v_iadd dL_law_954 b0_1 ?_
  refine v_sld dL_law_955 rfl b0_2 b0_3 (fun _ => ?_)
  refine v_aload_n dL_law_956 rfl rfl ?_
  refine v_iload dL_law_957 rfl ?_
  refine v_iconst dL_law_959 ⟨by decide, by decide⟩ ?_
  refine v_iadd dL_law_960 b0_4 ?_
  refine v_sld dL_law_961 rfl b0_5 b0_6 (fun _ => ?_)
  refine v_aload_n dL_law_962 rfl rfl ?_
  refine v_iload dL_law_963 rfl ?_
  refine v_iconst dL_law_965 ⟨by decide, by decide⟩ ?_
  refine v_iadd dL_law_966 b0_7 ?_
  refine v_sld dL_law_967 rfl b0_8 b0_9 (fun _ => ?_)
  refine v_i2c dL_law_968 ?_
  exact v_callV (j := M_X11_change) (As := [aI (h 1000 (x5 + 1)), aI (h 1000 (x5 + 2)), aI ((h 1000 (x5 + 3)) % 65536)]) (st := []) (E0 := [aR 72, aI (h 1000 (x5 + 1)), aI (h 1000 (x5 + 2)), aI ((h 1000 (x5 + 3)) % 65536), aU]) (a := 72) (ci := 9) (N := 11) (q9 := (RX11, TX11, 11)) dL_law_969 ml_L_233 J_X11_change (Nat.zero_le _) (Nat.zero_le _) (Nat.le_of_ble_eq_true rfl) rfl (Nat.le_of_ble_eq_true rfl) (List.forall_mem_cons.mpr ⟨rfl, List.forall_mem_cons.mpr ⟨rfl, List.forall_mem_cons.mpr ⟨rfl, List.forall_mem_cons.mpr ⟨rfl, fun _ h9 => absurd h9 List.not_mem_nil⟩⟩⟩⟩) (Nat.le_of_ble_eq_true rfl) rfl rfl rfl rfl pn_X11_change rfl k
theorem S_law_972 {kc ks : Nat} {h : Hh} {Q : PQ} {X : PX} {x5 : Int} {x6 : Int} {xs0 : Int}
    (k : am_V M_X11_thrown 0 0 0 [aR 72] [] am_R0 h (fun v ρ' h' => am_V M_L_law kc ks 978 [aR 1000, aR 0, aR 72, aR 81, aR 82, aI x5, aI x6, aI xs0, aU] (v ++ []) ρ' h' Q X) X) :
    am_V M_L_law kc ks 972 [aR 1000, aR 0, aR 72, aR 81, aR 82, aI x5, aI x6, aU, aU] [aI xs0] am_R0 h Q X := by
  refine v_istore (E2 := [aR 1000, aR 0, aR 72, aR 81, aR 82, aI x5, aI x6, aI xs0, aU]) dL_law_972 (Nat.le_of_ble_eq_true rfl) rfl ?_
  refine v_aload_n dL_law_974 rfl rfl ?_
  exact v_callV (j := M_X11_thrown) (As := []) (st := []) (E0 := [aR 72]) (a := 72) (ci := 9) (N := 11) (q9 := (RX11, TX11, 11)) dL_law_975 ml_L_195 J_X11_thrown (Nat.zero_le _) (Nat.zero_le _) (Nat.le_of_ble_eq_true rfl) rfl (Nat.le_of_ble_eq_true rfl) (List.forall_mem_cons.mpr ⟨rfl, fun _ h9 => absurd h9 List.not_mem_nil⟩) (Nat.le_of_ble_eq_true rfl) rfl rfl rfl rfl pn_X11_thrown rfl k
theorem S_law_978 {kc ks : Nat} {h : Hh} {Q : PQ} {X : PX} {x5 : Int} {x6 : Int} {x7 : Int} {xs0 : Int}
    (k : ((xs0 = x6 → ((x6 ≠ 0 → ((-2147483648 ≤ ((x5 + 10) : Int) ∧ ((x5 + 10) : Int) < 2147483648)) ∧ am_V M_L_law kc ks 28 [aR 1000, aR 0, aR 72, aR 81, aR 82, aI (x5 + 10), aU, aU, aU] [] am_R0 h Q X) ∧ (x6 = 0 → ((0 : Int) ≤ 0 ∧ (0 : Int) < 1) ∧ (((if x7 < (h 81 0) then 1 else if (h 81 0) = x7 then 0 else -1) = 0 → ((-2147483648 ≤ ((x5 + 10) : Int) ∧ ((x5 + 10) : Int) < 2147483648)) ∧ am_V M_L_law kc ks 28 [aR 1000, aR 0, aR 72, aR 81, aR 82, aI (x5 + 10), aU, aU, aU] [] am_R0 h Q X) ∧ ((if x7 < (h 81 0) then 1 else if (h 81 0) = x7 then 0 else -1) ≠ 0 → Q [aI 0] am_R0 h))))) ∧ (xs0 ≠ x6 → Q [aI 0] am_R0 h))) :
    am_V M_L_law kc ks 978 [aR 1000, aR 0, aR 72, aR 81, aR 82, aI x5, aI x6, aI x7, aU] [aI xs0] am_R0 h Q X := by
  refine v_iload dL_law_978 rfl ?_
  refine v_icmp_eq (tgt := 985) dL_law_980 (by decide) (fun z => ?_) (fun z => ?_)
  · have k := k.1 z
    refine v_iload dL_law_985 rfl ?_
    refine v_if_ne (tgt := 1002) dL_law_987 (by decide) (fun z => ?_) (fun z => ?_)
    · have k := k.1 z
      obtain ⟨b2_1, k⟩ := k
      refine v_goto (tgt := 3556) dL_law_1002 (by decide) ?_
      refine v_iinc (E2 := [aR 1000, aR 0, aR 72, aR 81, aR 82, aI (x5 + 10), aI x6, aI x7, aU]) dL_law_3556 rfl b2_1 rfl ?_
      refine v_goto (tgt := 28) dL_law_3559 (by decide) ?_
      refine v_weak (E2 := [aR 1000, aR 0, aR 72, aR 81, aR 82, aI (x5 + 10), aU, aU, aU]) ⟨Or.inl rfl, ⟨Or.inl rfl, ⟨Or.inl rfl, ⟨Or.inl rfl, ⟨Or.inl rfl, ⟨Or.inl rfl, ⟨Or.inr rfl, ⟨Or.inr rfl, ⟨Or.inl rfl, trivial⟩⟩⟩⟩⟩⟩⟩⟩⟩ ?_
      exact k
    · have k := k.2 z
      obtain ⟨⟨b2_1, b2_2⟩, k⟩ := k
      refine v_aload_n dL_law_990 rfl rfl ?_
      refine v_iconst dL_law_991 ⟨by decide, by decide⟩ ?_
      refine v_lald dL_law_992 rfl b2_1 b2_2 ?_
      refine v_iload dL_law_993 rfl ?_
      refine v_i2l dL_law_995 ?_
      refine v_lcmp dL_law_996 ?_
      refine v_if_eq (tgt := 1002) dL_law_997 (by decide) (fun z => ?_) (fun z => ?_)
      · have k := k.1 z
        obtain ⟨b3_1, k⟩ := k
        refine v_goto (tgt := 3556) dL_law_1002 (by decide) ?_
        refine v_iinc (E2 := [aR 1000, aR 0, aR 72, aR 81, aR 82, aI (x5 + 10), aI x6, aI x7, aU]) dL_law_3556 rfl b3_1 rfl ?_
        refine v_goto (tgt := 28) dL_law_3559 (by decide) ?_
        refine v_weak (E2 := [aR 1000, aR 0, aR 72, aR 81, aR 82, aI (x5 + 10), aU, aU, aU]) ⟨Or.inl rfl, ⟨Or.inl rfl, ⟨Or.inl rfl, ⟨Or.inl rfl, ⟨Or.inl rfl, ⟨Or.inl rfl, ⟨Or.inr rfl, ⟨Or.inr rfl, ⟨Or.inl rfl, trivial⟩⟩⟩⟩⟩⟩⟩⟩⟩ ?_
        exact k
      · have k := k.2 z
        refine v_iconst dL_law_1000 ⟨by decide, by decide⟩ ?_
        exact v_lawret dL_law_1001 rfl k
  · have k := k.2 z
    refine v_iconst dL_law_983 ⟨by decide, by decide⟩ ?_
    exact v_lawret dL_law_984 rfl k
theorem S_law_1005 {kc ks : Nat} {h : Hh} {Q : PQ} {X : PX} {x5 : Int}
    (k : ((-2147483648 ≤ ((x5 + 1) : Int) ∧ ((x5 + 1) : Int) < 2147483648) ∧ (0 : Int) ≤ (x5 + 1) ∧ ((x5 + 1) : Int) < h 1001 0 ∧ (-2147483648 ≤ ((x5 + 2) : Int) ∧ ((x5 + 2) : Int) < 2147483648) ∧ (0 : Int) ≤ (x5 + 2) ∧ ((x5 + 2) : Int) < h 1001 0 ∧ 2 ≤ kc ∧ 12 ≤ ks) ∧ am_V M_L_ahead 2 12 0 [aR 0, aI (h 1000 (x5 + 1)), aI ((h 1000 (x5 + 2)) % 65536), aR 81, aU] [] am_R0 h (fun v ρ' h' => am_V M_L_law (kc - 2) (ks - 12) 1023 [aR 1000, aR 0, aR 72, aR 81, aR 82, aI x5, aU, aU, aU] (v ++ []) ρ' h' Q X) X) :
    am_V M_L_law kc ks 1005 [aR 1000, aR 0, aR 72, aR 81, aR 82, aI x5, aU, aU, aU] [] am_R0 h Q X := by
  obtain ⟨⟨b0_1, b0_2, b0_3, b0_4, b0_5, b0_6, b0_7, b0_8⟩, k⟩ := k
  refine v_aload_n dL_law_1005 rfl rfl ?_
  refine v_aload_n dL_law_1006 rfl rfl ?_
  refine v_iload dL_law_1007 rfl ?_
  refine v_iconst dL_law_1009 ⟨by decide, by decide⟩ ?_
  refine v_iadd dL_law_1010 b0_1 ?_
  refine v_sld dL_law_1011 rfl b0_2 b0_3 (fun _ => ?_)
  refine v_aload_n dL_law_1012 rfl rfl ?_
  refine v_iload dL_law_1013 rfl ?_
  refine v_iconst dL_law_1015 ⟨by decide, by decide⟩ ?_
  refine v_iadd dL_law_1016 b0_4 ?_
  refine v_sld dL_law_1017 rfl b0_5 b0_6 (fun _ => ?_)
  refine v_i2c dL_law_1018 ?_
  refine v_aload_n dL_law_1019 rfl rfl ?_
  exact v_callSX (j := M_L_ahead) (As := [aR 0, aI (h 1000 (x5 + 1)), aI ((h 1000 (x5 + 2)) % 65536), aR 81]) (st := []) (E0 := [aR 0, aI (h 1000 (x5 + 1)), aI ((h 1000 (x5 + 2)) % 65536), aR 81, aU]) dL_law_1020 ms_L_234 J_L_ahead b0_7 b0_8 (Nat.le_of_ble_eq_true rfl) rfl (Nat.le_of_ble_eq_true rfl) (List.forall_mem_cons.mpr ⟨rfl, List.forall_mem_cons.mpr ⟨rfl, List.forall_mem_cons.mpr ⟨rfl, List.forall_mem_cons.mpr ⟨rfl, fun _ h9 => absurd h9 List.not_mem_nil⟩⟩⟩⟩) (Nat.le_of_ble_eq_true rfl) rfl pn_L_ahead rfl k
theorem S_law_1023 {kc ks : Nat} {h : Hh} {Q : PQ} {X : PX} {x5 : Int} {xs0 : Int}
    (k : ((-2147483648 ≤ ((x5 + 1) : Int) ∧ ((x5 + 1) : Int) < 2147483648) ∧ (0 : Int) ≤ (x5 + 1) ∧ ((x5 + 1) : Int) < h 1001 0 ∧ (-2147483648 ≤ ((x5 + 2) : Int) ∧ ((x5 + 2) : Int) < 2147483648) ∧ (0 : Int) ≤ (x5 + 2) ∧ ((x5 + 2) : Int) < h 1001 0) ∧ am_V M_X11_ahead 0 0 0 [aR 72, aI (h 1000 (x5 + 1)), aI ((h 1000 (x5 + 2)) % 65536), aU, aU] [] am_R0 h (fun v ρ' h' => am_V M_L_law kc ks 1042 [aR 1000, aR 0, aR 72, aR 81, aR 82, aI x5, aI xs0, aU, aU] (v ++ []) ρ' h' Q X) X) :
    am_V M_L_law kc ks 1023 [aR 1000, aR 0, aR 72, aR 81, aR 82, aI x5, aU, aU, aU] [aI xs0] am_R0 h Q X := by
  obtain ⟨⟨b0_1, b0_2, b0_3, b0_4, b0_5, b0_6⟩, k⟩ := k
  refine v_istore (E2 := [aR 1000, aR 0, aR 72, aR 81, aR 82, aI x5, aI xs0, aU, aU]) dL_law_1023 (Nat.le_of_ble_eq_true rfl) rfl ?_
  refine v_aload_n dL_law_1025 rfl rfl ?_
  refine v_aload_n dL_law_1026 rfl rfl ?_
  refine v_iload dL_law_1027 rfl ?_
  refine v_iconst dL_law_1029 ⟨by decide, by decide⟩ ?_
  refine v_iadd dL_law_1030 b0_1 ?_
  refine v_sld dL_law_1031 rfl b0_2 b0_3 (fun _ => ?_)
  refine v_aload_n dL_law_1032 rfl rfl ?_
  refine v_iload dL_law_1033 rfl ?_
  refine v_iconst dL_law_1035 ⟨by decide, by decide⟩ ?_
  refine v_iadd dL_law_1036 b0_4 ?_
  refine v_sld dL_law_1037 rfl b0_5 b0_6 (fun _ => ?_)
  refine v_i2c dL_law_1038 ?_
  exact v_callV (j := M_X11_ahead) (As := [aI (h 1000 (x5 + 1)), aI ((h 1000 (x5 + 2)) % 65536)]) (st := []) (E0 := [aR 72, aI (h 1000 (x5 + 1)), aI ((h 1000 (x5 + 2)) % 65536), aU, aU]) (a := 72) (ci := 9) (N := 11) (q9 := (RX11, TX11, 11)) dL_law_1039 ml_L_237 J_X11_ahead (Nat.zero_le _) (Nat.zero_le _) (Nat.le_of_ble_eq_true rfl) rfl (Nat.le_of_ble_eq_true rfl) (List.forall_mem_cons.mpr ⟨rfl, List.forall_mem_cons.mpr ⟨rfl, List.forall_mem_cons.mpr ⟨rfl, fun _ h9 => absurd h9 List.not_mem_nil⟩⟩⟩) (Nat.le_of_ble_eq_true rfl) rfl rfl rfl rfl pn_X11_ahead rfl k
theorem S_law_1042 {kc ks : Nat} {h : Hh} {Q : PQ} {X : PX} {x5 : Int} {x6 : Int} {xs0 : Int}
    (k : am_V M_X11_thrown 0 0 0 [aR 72] [] am_R0 h (fun v ρ' h' => am_V M_L_law kc ks 1048 [aR 1000, aR 0, aR 72, aR 81, aR 82, aI x5, aI x6, aI xs0, aU] (v ++ []) ρ' h' Q X) X) :
    am_V M_L_law kc ks 1042 [aR 1000, aR 0, aR 72, aR 81, aR 82, aI x5, aI x6, aU, aU] [aI xs0] am_R0 h Q X := by
  refine v_istore (E2 := [aR 1000, aR 0, aR 72, aR 81, aR 82, aI x5, aI x6, aI xs0, aU]) dL_law_1042 (Nat.le_of_ble_eq_true rfl) rfl ?_
  refine v_aload_n dL_law_1044 rfl rfl ?_
  exact v_callV (j := M_X11_thrown) (As := []) (st := []) (E0 := [aR 72]) (a := 72) (ci := 9) (N := 11) (q9 := (RX11, TX11, 11)) dL_law_1045 ml_L_195 J_X11_thrown (Nat.zero_le _) (Nat.zero_le _) (Nat.le_of_ble_eq_true rfl) rfl (Nat.le_of_ble_eq_true rfl) (List.forall_mem_cons.mpr ⟨rfl, fun _ h9 => absurd h9 List.not_mem_nil⟩) (Nat.le_of_ble_eq_true rfl) rfl rfl rfl rfl pn_X11_thrown rfl k
theorem S_law_1048 {kc ks : Nat} {h : Hh} {Q : PQ} {X : PX} {x5 : Int} {x6 : Int} {x7 : Int} {xs0 : Int}
    (k : ((xs0 = x6 → ((x6 ≠ 0 → ((-2147483648 ≤ ((x5 + 10) : Int) ∧ ((x5 + 10) : Int) < 2147483648)) ∧ am_V M_L_law kc ks 28 [aR 1000, aR 0, aR 72, aR 81, aR 82, aI (x5 + 10), aU, aU, aU] [] am_R0 h Q X) ∧ (x6 = 0 → ((0 : Int) ≤ 0 ∧ (0 : Int) < 1) ∧ (((if x7 < (h 81 0) then 1 else if (h 81 0) = x7 then 0 else -1) = 0 → ((-2147483648 ≤ ((x5 + 10) : Int) ∧ ((x5 + 10) : Int) < 2147483648)) ∧ am_V M_L_law kc ks 28 [aR 1000, aR 0, aR 72, aR 81, aR 82, aI (x5 + 10), aU, aU, aU] [] am_R0 h Q X) ∧ ((if x7 < (h 81 0) then 1 else if (h 81 0) = x7 then 0 else -1) ≠ 0 → Q [aI 0] am_R0 h))))) ∧ (xs0 ≠ x6 → Q [aI 0] am_R0 h))) :
    am_V M_L_law kc ks 1048 [aR 1000, aR 0, aR 72, aR 81, aR 82, aI x5, aI x6, aI x7, aU] [aI xs0] am_R0 h Q X := by
  refine v_iload dL_law_1048 rfl ?_
  refine v_icmp_eq (tgt := 1055) dL_law_1050 (by decide) (fun z => ?_) (fun z => ?_)
  · have k := k.1 z
    refine v_iload dL_law_1055 rfl ?_
    refine v_if_ne (tgt := 1072) dL_law_1057 (by decide) (fun z => ?_) (fun z => ?_)
    · have k := k.1 z
      obtain ⟨b2_1, k⟩ := k
      refine v_goto (tgt := 3556) dL_law_1072 (by decide) ?_
      refine v_iinc (E2 := [aR 1000, aR 0, aR 72, aR 81, aR 82, aI (x5 + 10), aI x6, aI x7, aU]) dL_law_3556 rfl b2_1 rfl ?_
      refine v_goto (tgt := 28) dL_law_3559 (by decide) ?_
      refine v_weak (E2 := [aR 1000, aR 0, aR 72, aR 81, aR 82, aI (x5 + 10), aU, aU, aU]) ⟨Or.inl rfl, ⟨Or.inl rfl, ⟨Or.inl rfl, ⟨Or.inl rfl, ⟨Or.inl rfl, ⟨Or.inl rfl, ⟨Or.inr rfl, ⟨Or.inr rfl, ⟨Or.inl rfl, trivial⟩⟩⟩⟩⟩⟩⟩⟩⟩ ?_
      exact k
    · have k := k.2 z
      obtain ⟨⟨b2_1, b2_2⟩, k⟩ := k
      refine v_aload_n dL_law_1060 rfl rfl ?_
      refine v_iconst dL_law_1061 ⟨by decide, by decide⟩ ?_
      refine v_lald dL_law_1062 rfl b2_1 b2_2 ?_
      refine v_iload dL_law_1063 rfl ?_
      refine v_i2l dL_law_1065 ?_
      refine v_lcmp dL_law_1066 ?_
      refine v_if_eq (tgt := 1072) dL_law_1067 (by decide) (fun z => ?_) (fun z => ?_)
      · have k := k.1 z
        obtain ⟨b3_1, k⟩ := k
        refine v_goto (tgt := 3556) dL_law_1072 (by decide) ?_
        refine v_iinc (E2 := [aR 1000, aR 0, aR 72, aR 81, aR 82, aI (x5 + 10), aI x6, aI x7, aU]) dL_law_3556 rfl b3_1 rfl ?_
        refine v_goto (tgt := 28) dL_law_3559 (by decide) ?_
        refine v_weak (E2 := [aR 1000, aR 0, aR 72, aR 81, aR 82, aI (x5 + 10), aU, aU, aU]) ⟨Or.inl rfl, ⟨Or.inl rfl, ⟨Or.inl rfl, ⟨Or.inl rfl, ⟨Or.inl rfl, ⟨Or.inl rfl, ⟨Or.inr rfl, ⟨Or.inr rfl, ⟨Or.inl rfl, trivial⟩⟩⟩⟩⟩⟩⟩⟩⟩ ?_
        exact k
      · have k := k.2 z
        refine v_iconst dL_law_1070 ⟨by decide, by decide⟩ ?_
        exact v_lawret dL_law_1071 rfl k
  · have k := k.2 z
    refine v_iconst dL_law_1053 ⟨by decide, by decide⟩ ?_
    exact v_lawret dL_law_1054 rfl k
theorem S_law_1075 {kc ks : Nat} {h : Hh} {Q : PQ} {X : PX} {x5 : Int}
    (k : ((-2147483648 ≤ ((x5 + 1) : Int) ∧ ((x5 + 1) : Int) < 2147483648) ∧ (0 : Int) ≤ (x5 + 1) ∧ ((x5 + 1) : Int) < h 1001 0 ∧ 2 ≤ kc ∧ 12 ≤ ks) ∧ am_V M_L_chop 2 12 0 [aR 0, aI (h 1000 (x5 + 1)), aR 81, aU] [] am_R0 h (fun v ρ' h' => am_V M_L_law (kc - 2) (ks - 12) 1086 [aR 1000, aR 0, aR 72, aR 81, aR 82, aI x5, aU, aU, aU] (v ++ []) ρ' h' Q X) X) :
    am_V M_L_law kc ks 1075 [aR 1000, aR 0, aR 72, aR 81, aR 82, aI x5, aU, aU, aU] [] am_R0 h Q X := by
  obtain ⟨⟨b0_1, b0_2, b0_3, b0_4, b0_5⟩, k⟩ := k
  refine v_aload_n dL_law_1075 rfl rfl ?_
  refine v_aload_n dL_law_1076 rfl rfl ?_
  refine v_iload dL_law_1077 rfl ?_
  refine v_iconst dL_law_1079 ⟨by decide, by decide⟩ ?_
  refine v_iadd dL_law_1080 b0_1 ?_
  refine v_sld dL_law_1081 rfl b0_2 b0_3 (fun _ => ?_)
  refine v_aload_n dL_law_1082 rfl rfl ?_
  exact v_callSX (j := M_L_chop) (As := [aR 0, aI (h 1000 (x5 + 1)), aR 81]) (st := []) (E0 := [aR 0, aI (h 1000 (x5 + 1)), aR 81, aU]) dL_law_1083 ms_L_238 J_L_chop b0_4 b0_5 (Nat.le_of_ble_eq_true rfl) rfl (Nat.le_of_ble_eq_true rfl) (List.forall_mem_cons.mpr ⟨rfl, List.forall_mem_cons.mpr ⟨rfl, List.forall_mem_cons.mpr ⟨rfl, fun _ h9 => absurd h9 List.not_mem_nil⟩⟩⟩) (Nat.le_of_ble_eq_true rfl) rfl pn_L_chop rfl k
theorem S_law_1086 {kc ks : Nat} {h : Hh} {Q : PQ} {X : PX} {x5 : Int} {xs0 : Int}
    (k : ((-2147483648 ≤ ((x5 + 1) : Int) ∧ ((x5 + 1) : Int) < 2147483648) ∧ (0 : Int) ≤ (x5 + 1) ∧ ((x5 + 1) : Int) < h 1001 0) ∧ am_V M_X11_chop 0 0 0 [aR 72, aI (h 1000 (x5 + 1)), aU, aU] [] am_R0 h (fun v ρ' h' => am_V M_L_law kc ks 1098 [aR 1000, aR 0, aR 72, aR 81, aR 82, aI x5, aI xs0, aU, aU] (v ++ []) ρ' h' Q X) X) :
    am_V M_L_law kc ks 1086 [aR 1000, aR 0, aR 72, aR 81, aR 82, aI x5, aU, aU, aU] [aI xs0] am_R0 h Q X := by
  obtain ⟨⟨b0_1, b0_2, b0_3⟩, k⟩ := k
  refine v_istore (E2 := [aR 1000, aR 0, aR 72, aR 81, aR 82, aI x5, aI xs0, aU, aU]) dL_law_1086 (Nat.le_of_ble_eq_true rfl) rfl ?_
  refine v_aload_n dL_law_1088 rfl rfl ?_
  refine v_aload_n dL_law_1089 rfl rfl ?_
  refine v_iload dL_law_1090 rfl ?_
  refine v_iconst dL_law_1092 ⟨by decide, by decide⟩ ?_
  refine v_iadd dL_law_1093 b0_1 ?_
  refine v_sld dL_law_1094 rfl b0_2 b0_3 (fun _ => ?_)
  exact v_callV (j := M_X11_chop) (As := [aI (h 1000 (x5 + 1))]) (st := []) (E0 := [aR 72, aI (h 1000 (x5 + 1)), aU, aU]) (a := 72) (ci := 9) (N := 11) (q9 := (RX11, TX11, 11)) dL_law_1095 ml_L_240 J_X11_chop (Nat.zero_le _) (Nat.zero_le _) (Nat.le_of_ble_eq_true rfl) rfl (Nat.le_of_ble_eq_true rfl) (List.forall_mem_cons.mpr ⟨rfl, List.forall_mem_cons.mpr ⟨rfl, fun _ h9 => absurd h9 List.not_mem_nil⟩⟩) (Nat.le_of_ble_eq_true rfl) rfl rfl rfl rfl pn_X11_chop rfl k
theorem S_law_1098 {kc ks : Nat} {h : Hh} {Q : PQ} {X : PX} {x5 : Int} {x6 : Int} {xs0 : Int}
    (k : am_V M_X11_thrown 0 0 0 [aR 72] [] am_R0 h (fun v ρ' h' => am_V M_L_law kc ks 1104 [aR 1000, aR 0, aR 72, aR 81, aR 82, aI x5, aI x6, aI xs0, aU] (v ++ []) ρ' h' Q X) X) :
    am_V M_L_law kc ks 1098 [aR 1000, aR 0, aR 72, aR 81, aR 82, aI x5, aI x6, aU, aU] [aI xs0] am_R0 h Q X := by
  refine v_istore (E2 := [aR 1000, aR 0, aR 72, aR 81, aR 82, aI x5, aI x6, aI xs0, aU]) dL_law_1098 (Nat.le_of_ble_eq_true rfl) rfl ?_
  refine v_aload_n dL_law_1100 rfl rfl ?_
  exact v_callV (j := M_X11_thrown) (As := []) (st := []) (E0 := [aR 72]) (a := 72) (ci := 9) (N := 11) (q9 := (RX11, TX11, 11)) dL_law_1101 ml_L_195 J_X11_thrown (Nat.zero_le _) (Nat.zero_le _) (Nat.le_of_ble_eq_true rfl) rfl (Nat.le_of_ble_eq_true rfl) (List.forall_mem_cons.mpr ⟨rfl, fun _ h9 => absurd h9 List.not_mem_nil⟩) (Nat.le_of_ble_eq_true rfl) rfl rfl rfl rfl pn_X11_thrown rfl k
theorem S_law_1104 {kc ks : Nat} {h : Hh} {Q : PQ} {X : PX} {x5 : Int} {x6 : Int} {x7 : Int} {xs0 : Int}
    (k : ((xs0 = x6 → ((x6 ≠ 0 → ((-2147483648 ≤ ((x5 + 10) : Int) ∧ ((x5 + 10) : Int) < 2147483648)) ∧ am_V M_L_law kc ks 28 [aR 1000, aR 0, aR 72, aR 81, aR 82, aI (x5 + 10), aU, aU, aU] [] am_R0 h Q X) ∧ (x6 = 0 → ((0 : Int) ≤ 0 ∧ (0 : Int) < 1) ∧ (((if x7 < (h 81 0) then 1 else if (h 81 0) = x7 then 0 else -1) = 0 → ((-2147483648 ≤ ((x5 + 10) : Int) ∧ ((x5 + 10) : Int) < 2147483648)) ∧ am_V M_L_law kc ks 28 [aR 1000, aR 0, aR 72, aR 81, aR 82, aI (x5 + 10), aU, aU, aU] [] am_R0 h Q X) ∧ ((if x7 < (h 81 0) then 1 else if (h 81 0) = x7 then 0 else -1) ≠ 0 → Q [aI 0] am_R0 h))))) ∧ (xs0 ≠ x6 → Q [aI 0] am_R0 h))) :
    am_V M_L_law kc ks 1104 [aR 1000, aR 0, aR 72, aR 81, aR 82, aI x5, aI x6, aI x7, aU] [aI xs0] am_R0 h Q X := by
  refine v_iload dL_law_1104 rfl ?_
  refine v_icmp_eq (tgt := 1111) dL_law_1106 (by decide) (fun z => ?_) (fun z => ?_)
  · have k := k.1 z
    refine v_iload dL_law_1111 rfl ?_
    refine v_if_ne (tgt := 1128) dL_law_1113 (by decide) (fun z => ?_) (fun z => ?_)
    · have k := k.1 z
      obtain ⟨b2_1, k⟩ := k
      refine v_goto (tgt := 3556) dL_law_1128 (by decide) ?_
      refine v_iinc (E2 := [aR 1000, aR 0, aR 72, aR 81, aR 82, aI (x5 + 10), aI x6, aI x7, aU]) dL_law_3556 rfl b2_1 rfl ?_
      refine v_goto (tgt := 28) dL_law_3559 (by decide) ?_
      refine v_weak (E2 := [aR 1000, aR 0, aR 72, aR 81, aR 82, aI (x5 + 10), aU, aU, aU]) ⟨Or.inl rfl, ⟨Or.inl rfl, ⟨Or.inl rfl, ⟨Or.inl rfl, ⟨Or.inl rfl, ⟨Or.inl rfl, ⟨Or.inr rfl, ⟨Or.inr rfl, ⟨Or.inl rfl, trivial⟩⟩⟩⟩⟩⟩⟩⟩⟩ ?_
      exact k
    · have k := k.2 z
      obtain ⟨⟨b2_1, b2_2⟩, k⟩ := k
      refine v_aload_n dL_law_1116 rfl rfl ?_
      refine v_iconst dL_law_1117 ⟨by decide, by decide⟩ ?_
      refine v_lald dL_law_1118 rfl b2_1 b2_2 ?_
      refine v_iload dL_law_1119 rfl ?_
      refine v_i2l dL_law_1121 ?_
      refine v_lcmp dL_law_1122 ?_
      refine v_if_eq (tgt := 1128) dL_law_1123 (by decide) (fun z => ?_) (fun z => ?_)
      · have k := k.1 z
        obtain ⟨b3_1, k⟩ := k
        refine v_goto (tgt := 3556) dL_law_1128 (by decide) ?_
        refine v_iinc (E2 := [aR 1000, aR 0, aR 72, aR 81, aR 82, aI (x5 + 10), aI x6, aI x7, aU]) dL_law_3556 rfl b3_1 rfl ?_
        refine v_goto (tgt := 28) dL_law_3559 (by decide) ?_
        refine v_weak (E2 := [aR 1000, aR 0, aR 72, aR 81, aR 82, aI (x5 + 10), aU, aU, aU]) ⟨Or.inl rfl, ⟨Or.inl rfl, ⟨Or.inl rfl, ⟨Or.inl rfl, ⟨Or.inl rfl, ⟨Or.inl rfl, ⟨Or.inr rfl, ⟨Or.inr rfl, ⟨Or.inl rfl, trivial⟩⟩⟩⟩⟩⟩⟩⟩⟩ ?_
        exact k
      · have k := k.2 z
        refine v_iconst dL_law_1126 ⟨by decide, by decide⟩ ?_
        exact v_lawret dL_law_1127 rfl k
  · have k := k.2 z
    refine v_iconst dL_law_1109 ⟨by decide, by decide⟩ ?_
    exact v_lawret dL_law_1110 rfl k
theorem S_law_1131 {kc ks : Nat} {h : Hh} {Q : PQ} {X : PX} {x5 : Int}
    (k : ((-2147483648 ≤ ((x5 + 1) : Int) ∧ ((x5 + 1) : Int) < 2147483648) ∧ (0 : Int) ≤ (x5 + 1) ∧ ((x5 + 1) : Int) < h 1001 0 ∧ (-2147483648 ≤ ((x5 + 2) : Int) ∧ ((x5 + 2) : Int) < 2147483648) ∧ (0 : Int) ≤ (x5 + 2) ∧ ((x5 + 2) : Int) < h 1001 0 ∧ 2 ≤ kc ∧ 12 ≤ ks) ∧ am_V M_L_endAt 2 12 0 [aR 0, aI (h 1000 (x5 + 1)), aI (h 1000 (x5 + 2)), aR 81, aU] [] am_R0 h (fun v ρ' h' => am_V M_L_law (kc - 2) (ks - 12) 1148 [aR 1000, aR 0, aR 72, aR 81, aR 82, aI x5, aU, aU, aU] (v ++ []) ρ' h' Q X) X) :
    am_V M_L_law kc ks 1131 [aR 1000, aR 0, aR 72, aR 81, aR 82, aI x5, aU, aU, aU] [] am_R0 h Q X := by
  obtain ⟨⟨b0_1, b0_2, b0_3, b0_4, b0_5, b0_6, b0_7, b0_8⟩, k⟩ := k
  refine v_aload_n dL_law_1131 rfl rfl ?_
  refine v_aload_n dL_law_1132 rfl rfl ?_
  refine v_iload dL_law_1133 rfl ?_
  refine v_iconst dL_law_1135 ⟨by decide, by decide⟩ ?_
  refine v_iadd dL_law_1136 b0_1 ?_
  refine v_sld dL_law_1137 rfl b0_2 b0_3 (fun _ => ?_)
  refine v_aload_n dL_law_1138 rfl rfl ?_
  refine v_iload dL_law_1139 rfl ?_
  refine v_iconst dL_law_1141 ⟨by decide, by decide⟩ ?_
  refine v_iadd dL_law_1142 b0_4 ?_
  refine v_sld dL_law_1143 rfl b0_5 b0_6 (fun _ => ?_)
  refine v_aload_n dL_law_1144 rfl rfl ?_
  exact v_callSX (j := M_L_endAt) (As := [aR 0, aI (h 1000 (x5 + 1)), aI (h 1000 (x5 + 2)), aR 81]) (st := []) (E0 := [aR 0, aI (h 1000 (x5 + 1)), aI (h 1000 (x5 + 2)), aR 81, aU]) dL_law_1145 ms_L_241 J_L_endAt b0_7 b0_8 (Nat.le_of_ble_eq_true rfl) rfl (Nat.le_of_ble_eq_true rfl) (List.forall_mem_cons.mpr ⟨rfl, List.forall_mem_cons.mpr ⟨rfl, List.forall_mem_cons.mpr ⟨rfl, List.forall_mem_cons.mpr ⟨rfl, fun _ h9 => absurd h9 List.not_mem_nil⟩⟩⟩⟩) (Nat.le_of_ble_eq_true rfl) rfl pn_L_endAt rfl k
theorem S_law_1148 {kc ks : Nat} {h : Hh} {Q : PQ} {X : PX} {x5 : Int} {xs0 : Int}
    (k : ((-2147483648 ≤ ((x5 + 1) : Int) ∧ ((x5 + 1) : Int) < 2147483648) ∧ (0 : Int) ≤ (x5 + 1) ∧ ((x5 + 1) : Int) < h 1001 0 ∧ (-2147483648 ≤ ((x5 + 2) : Int) ∧ ((x5 + 2) : Int) < 2147483648) ∧ (0 : Int) ≤ (x5 + 2) ∧ ((x5 + 2) : Int) < h 1001 0) ∧ am_V M_X11_endAt 0 0 0 [aR 72, aI (h 1000 (x5 + 1)), aI (h 1000 (x5 + 2))] [] am_R0 h (fun v ρ' h' => am_V M_L_law kc ks 1166 [aR 1000, aR 0, aR 72, aR 81, aR 82, aI x5, aI xs0, aU, aU] (v ++ []) ρ' h' Q X) X) :
    am_V M_L_law kc ks 1148 [aR 1000, aR 0, aR 72, aR 81, aR 82, aI x5, aU, aU, aU] [aI xs0] am_R0 h Q X := by
  obtain ⟨⟨b0_1, b0_2, b0_3, b0_4, b0_5, b0_6⟩, k⟩ := k
  refine v_istore (E2 := [aR 1000, aR 0, aR 72, aR 81, aR 82, aI x5, aI xs0, aU, aU]) dL_law_1148 (Nat.le_of_ble_eq_true rfl) rfl ?_
  refine v_aload_n dL_law_1150 rfl rfl ?_
  refine v_aload_n dL_law_1151 rfl rfl ?_
  refine v_iload dL_law_1152 rfl ?_
  refine v_iconst dL_law_1154 ⟨by decide, by decide⟩ ?_
  refine v_iadd dL_law_1155 b0_1 ?_
  refine v_sld dL_law_1156 rfl b0_2 b0_3 (fun _ => ?_)
  refine v_aload_n dL_law_1157 rfl rfl ?_
  refine v_iload dL_law_1158 rfl ?_
  refine v_iconst dL_law_1160 ⟨by decide, by decide⟩ ?_
  refine v_iadd dL_law_1161 b0_4 ?_
  refine v_sld dL_law_1162 rfl b0_5 b0_6 (fun _ => ?_)
  exact v_callV (j := M_X11_endAt) (As := [aI (h 1000 (x5 + 1)), aI (h 1000 (x5 + 2))]) (st := []) (E0 := [aR 72, aI (h 1000 (x5 + 1)), aI (h 1000 (x5 + 2))]) (a := 72) (ci := 9) (N := 11) (q9 := (RX11, TX11, 11)) dL_law_1163 ml_L_243 J_X11_endAt (Nat.zero_le _) (Nat.zero_le _) (Nat.le_of_ble_eq_true rfl) rfl (Nat.le_of_ble_eq_true rfl) (List.forall_mem_cons.mpr ⟨rfl, List.forall_mem_cons.mpr ⟨rfl, List.forall_mem_cons.mpr ⟨rfl, fun _ h9 => absurd h9 List.not_mem_nil⟩⟩⟩) (Nat.le_of_ble_eq_true rfl) rfl rfl rfl rfl pn_X11_endAt rfl k
theorem S_law_1166 {kc ks : Nat} {h : Hh} {Q : PQ} {X : PX} {x5 : Int} {x6 : Int} {xs0 : Int}
    (k : am_V M_X11_thrown 0 0 0 [aR 72] [] am_R0 h (fun v ρ' h' => am_V M_L_law kc ks 1172 [aR 1000, aR 0, aR 72, aR 81, aR 82, aI x5, aI x6, aI xs0, aU] (v ++ []) ρ' h' Q X) X) :
    am_V M_L_law kc ks 1166 [aR 1000, aR 0, aR 72, aR 81, aR 82, aI x5, aI x6, aU, aU] [aI xs0] am_R0 h Q X := by
  refine v_istore (E2 := [aR 1000, aR 0, aR 72, aR 81, aR 82, aI x5, aI x6, aI xs0, aU]) dL_law_1166 (Nat.le_of_ble_eq_true rfl) rfl ?_
  refine v_aload_n dL_law_1168 rfl rfl ?_
  exact v_callV (j := M_X11_thrown) (As := []) (st := []) (E0 := [aR 72]) (a := 72) (ci := 9) (N := 11) (q9 := (RX11, TX11, 11)) dL_law_1169 ml_L_195 J_X11_thrown (Nat.zero_le _) (Nat.zero_le _) (Nat.le_of_ble_eq_true rfl) rfl (Nat.le_of_ble_eq_true rfl) (List.forall_mem_cons.mpr ⟨rfl, fun _ h9 => absurd h9 List.not_mem_nil⟩) (Nat.le_of_ble_eq_true rfl) rfl rfl rfl rfl pn_X11_thrown rfl k
theorem S_law_1172 {kc ks : Nat} {h : Hh} {Q : PQ} {X : PX} {x5 : Int} {x6 : Int} {x7 : Int} {xs0 : Int}
    (k : ((xs0 = x6 → ((x6 ≠ 0 → ((-2147483648 ≤ ((x5 + 10) : Int) ∧ ((x5 + 10) : Int) < 2147483648)) ∧ am_V M_L_law kc ks 28 [aR 1000, aR 0, aR 72, aR 81, aR 82, aI (x5 + 10), aU, aU, aU] [] am_R0 h Q X) ∧ (x6 = 0 → ((0 : Int) ≤ 0 ∧ (0 : Int) < 1) ∧ (((if x7 < (h 81 0) then 1 else if (h 81 0) = x7 then 0 else -1) = 0 → ((-2147483648 ≤ ((x5 + 10) : Int) ∧ ((x5 + 10) : Int) < 2147483648)) ∧ am_V M_L_law kc ks 28 [aR 1000, aR 0, aR 72, aR 81, aR 82, aI (x5 + 10), aU, aU, aU] [] am_R0 h Q X) ∧ ((if x7 < (h 81 0) then 1 else if (h 81 0) = x7 then 0 else -1) ≠ 0 → Q [aI 0] am_R0 h))))) ∧ (xs0 ≠ x6 → Q [aI 0] am_R0 h))) :
    am_V M_L_law kc ks 1172 [aR 1000, aR 0, aR 72, aR 81, aR 82, aI x5, aI x6, aI x7, aU] [aI xs0] am_R0 h Q X := by
  refine v_iload dL_law_1172 rfl ?_
  refine v_icmp_eq (tgt := 1179) dL_law_1174 (by decide) (fun z => ?_) (fun z => ?_)
  · have k := k.1 z
    refine v_iload dL_law_1179 rfl ?_
    refine v_if_ne (tgt := 1196) dL_law_1181 (by decide) (fun z => ?_) (fun z => ?_)
    · have k := k.1 z
      obtain ⟨b2_1, k⟩ := k
      refine v_goto (tgt := 3556) dL_law_1196 (by decide) ?_
      refine v_iinc (E2 := [aR 1000, aR 0, aR 72, aR 81, aR 82, aI (x5 + 10), aI x6, aI x7, aU]) dL_law_3556 rfl b2_1 rfl ?_
      refine v_goto (tgt := 28) dL_law_3559 (by decide) ?_
      refine v_weak (E2 := [aR 1000, aR 0, aR 72, aR 81, aR 82, aI (x5 + 10), aU, aU, aU]) ⟨Or.inl rfl, ⟨Or.inl rfl, ⟨Or.inl rfl, ⟨Or.inl rfl, ⟨Or.inl rfl, ⟨Or.inl rfl, ⟨Or.inr rfl, ⟨Or.inr rfl, ⟨Or.inl rfl, trivial⟩⟩⟩⟩⟩⟩⟩⟩⟩ ?_
      exact k
    · have k := k.2 z
      obtain ⟨⟨b2_1, b2_2⟩, k⟩ := k
      refine v_aload_n dL_law_1184 rfl rfl ?_
      refine v_iconst dL_law_1185 ⟨by decide, by decide⟩ ?_
      refine v_lald dL_law_1186 rfl b2_1 b2_2 ?_
      refine v_iload dL_law_1187 rfl ?_
      refine v_i2l dL_law_1189 ?_
      refine v_lcmp dL_law_1190 ?_
      refine v_if_eq (tgt := 1196) dL_law_1191 (by decide) (fun z => ?_) (fun z => ?_)
      · have k := k.1 z
        obtain ⟨b3_1, k⟩ := k
        refine v_goto (tgt := 3556) dL_law_1196 (by decide) ?_
        refine v_iinc (E2 := [aR 1000, aR 0, aR 72, aR 81, aR 82, aI (x5 + 10), aI x6, aI x7, aU]) dL_law_3556 rfl b3_1 rfl ?_
        refine v_goto (tgt := 28) dL_law_3559 (by decide) ?_
        refine v_weak (E2 := [aR 1000, aR 0, aR 72, aR 81, aR 82, aI (x5 + 10), aU, aU, aU]) ⟨Or.inl rfl, ⟨Or.inl rfl, ⟨Or.inl rfl, ⟨Or.inl rfl, ⟨Or.inl rfl, ⟨Or.inl rfl, ⟨Or.inr rfl, ⟨Or.inr rfl, ⟨Or.inl rfl, trivial⟩⟩⟩⟩⟩⟩⟩⟩⟩ ?_
        exact k
      · have k := k.2 z
        refine v_iconst dL_law_1194 ⟨by decide, by decide⟩ ?_
        exact v_lawret dL_law_1195 rfl k
  · have k := k.2 z
    refine v_iconst dL_law_1177 ⟨by decide, by decide⟩ ?_
    exact v_lawret dL_law_1178 rfl k
theorem S_law_1199 {kc ks : Nat} {h : Hh} {Q : PQ} {X : PX} {x5 : Int}
    (k : ((-2147483648 ≤ ((x5 + 1) : Int) ∧ ((x5 + 1) : Int) < 2147483648) ∧ (0 : Int) ≤ (x5 + 1) ∧ ((x5 + 1) : Int) < h 1001 0 ∧ (-2147483648 ≤ ((x5 + 2) : Int) ∧ ((x5 + 2) : Int) < 2147483648) ∧ (0 : Int) ≤ (x5 + 2) ∧ ((x5 + 2) : Int) < h 1001 0 ∧ 2 ≤ kc ∧ 12 ≤ ks) ∧ am_V M_L_rankOf 2 12 0 [aR 0, aI (h 1000 (x5 + 1)), aI (h 1000 (x5 + 2)), aR 81, aU] [] am_R0 h (fun v ρ' h' => am_V M_L_law (kc - 2) (ks - 12) 1216 [aR 1000, aR 0, aR 72, aR 81, aR 82, aI x5, aU, aU, aU] (v ++ []) ρ' h' Q X) X) :
    am_V M_L_law kc ks 1199 [aR 1000, aR 0, aR 72, aR 81, aR 82, aI x5, aU, aU, aU] [] am_R0 h Q X := by
  obtain ⟨⟨b0_1, b0_2, b0_3, b0_4, b0_5, b0_6, b0_7, b0_8⟩, k⟩ := k
  refine v_aload_n dL_law_1199 rfl rfl ?_
  refine v_aload_n dL_law_1200 rfl rfl ?_
  refine v_iload dL_law_1201 rfl ?_
  refine v_iconst dL_law_1203 ⟨by decide, by decide⟩ ?_
  refine v_iadd dL_law_1204 b0_1 ?_
  refine v_sld dL_law_1205 rfl b0_2 b0_3 (fun _ => ?_)
  refine v_aload_n dL_law_1206 rfl rfl ?_
  refine v_iload dL_law_1207 rfl ?_
  refine v_iconst dL_law_1209 ⟨by decide, by decide⟩ ?_
  refine v_iadd dL_law_1210 b0_4 ?_
  refine v_sld dL_law_1211 rfl b0_5 b0_6 (fun _ => ?_)
  refine v_aload_n dL_law_1212 rfl rfl ?_
  exact v_callSX (j := M_L_rankOf) (As := [aR 0, aI (h 1000 (x5 + 1)), aI (h 1000 (x5 + 2)), aR 81]) (st := []) (E0 := [aR 0, aI (h 1000 (x5 + 1)), aI (h 1000 (x5 + 2)), aR 81, aU]) dL_law_1213 ms_L_244 J_L_rankOf b0_7 b0_8 (Nat.le_of_ble_eq_true rfl) rfl (Nat.le_of_ble_eq_true rfl) (List.forall_mem_cons.mpr ⟨rfl, List.forall_mem_cons.mpr ⟨rfl, List.forall_mem_cons.mpr ⟨rfl, List.forall_mem_cons.mpr ⟨rfl, fun _ h9 => absurd h9 List.not_mem_nil⟩⟩⟩⟩) (Nat.le_of_ble_eq_true rfl) rfl pn_L_rankOf rfl k
theorem S_law_1216 {kc ks : Nat} {h : Hh} {Q : PQ} {X : PX} {x5 : Int} {xs0 : Int}
    (k : ((-2147483648 ≤ ((x5 + 1) : Int) ∧ ((x5 + 1) : Int) < 2147483648) ∧ (0 : Int) ≤ (x5 + 1) ∧ ((x5 + 1) : Int) < h 1001 0 ∧ (-2147483648 ≤ ((x5 + 2) : Int) ∧ ((x5 + 2) : Int) < 2147483648) ∧ (0 : Int) ≤ (x5 + 2) ∧ ((x5 + 2) : Int) < h 1001 0) ∧ am_V M_X11_rankOf 0 0 0 [aR 72, aI (h 1000 (x5 + 1)), aI (h 1000 (x5 + 2))] [] am_R0 h (fun v ρ' h' => am_V M_L_law kc ks 1234 [aR 1000, aR 0, aR 72, aR 81, aR 82, aI x5, aI xs0, aU, aU] (v ++ []) ρ' h' Q X) X) :
    am_V M_L_law kc ks 1216 [aR 1000, aR 0, aR 72, aR 81, aR 82, aI x5, aU, aU, aU] [aI xs0] am_R0 h Q X := by
  obtain ⟨⟨b0_1, b0_2, b0_3, b0_4, b0_5, b0_6⟩, k⟩ := k
  refine v_istore (E2 := [aR 1000, aR 0, aR 72, aR 81, aR 82, aI x5, aI xs0, aU, aU]) dL_law_1216 (Nat.le_of_ble_eq_true rfl) rfl ?_
  refine v_aload_n dL_law_1218 rfl rfl ?_
  refine v_aload_n dL_law_1219 rfl rfl ?_
  refine v_iload dL_law_1220 rfl ?_
  refine v_iconst dL_law_1222 ⟨by decide, by decide⟩ ?_
  refine v_iadd dL_law_1223 b0_1 ?_
  refine v_sld dL_law_1224 rfl b0_2 b0_3 (fun _ => ?_)
  refine v_aload_n dL_law_1225 rfl rfl ?_
  refine v_iload dL_law_1226 rfl ?_
  refine v_iconst dL_law_1228 ⟨by decide, by decide⟩ ?_
  refine v_iadd dL_law_1229 b0_4 ?_
  refine v_sld dL_law_1230 rfl b0_5 b0_6 (fun _ => ?_)
  exact v_callV (j := M_X11_rankOf) (As := [aI (h 1000 (x5 + 1)), aI (h 1000 (x5 + 2))]) (st := []) (E0 := [aR 72, aI (h 1000 (x5 + 1)), aI (h 1000 (x5 + 2))]) (a := 72) (ci := 9) (N := 11) (q9 := (RX11, TX11, 11)) dL_law_1231 ml_L_246 J_X11_rankOf (Nat.zero_le _) (Nat.zero_le _) (Nat.le_of_ble_eq_true rfl) rfl (Nat.le_of_ble_eq_true rfl) (List.forall_mem_cons.mpr ⟨rfl, List.forall_mem_cons.mpr ⟨rfl, List.forall_mem_cons.mpr ⟨rfl, fun _ h9 => absurd h9 List.not_mem_nil⟩⟩⟩) (Nat.le_of_ble_eq_true rfl) rfl rfl rfl rfl pn_X11_rankOf rfl k
theorem S_law_1234 {kc ks : Nat} {h : Hh} {Q : PQ} {X : PX} {x5 : Int} {x6 : Int} {xs0 : Int}
    (k : am_V M_X11_thrown 0 0 0 [aR 72] [] am_R0 h (fun v ρ' h' => am_V M_L_law kc ks 1240 [aR 1000, aR 0, aR 72, aR 81, aR 82, aI x5, aI x6, aI xs0, aU] (v ++ []) ρ' h' Q X) X) :
    am_V M_L_law kc ks 1234 [aR 1000, aR 0, aR 72, aR 81, aR 82, aI x5, aI x6, aU, aU] [aI xs0] am_R0 h Q X := by
  refine v_istore (E2 := [aR 1000, aR 0, aR 72, aR 81, aR 82, aI x5, aI x6, aI xs0, aU]) dL_law_1234 (Nat.le_of_ble_eq_true rfl) rfl ?_
  refine v_aload_n dL_law_1236 rfl rfl ?_
  exact v_callV (j := M_X11_thrown) (As := []) (st := []) (E0 := [aR 72]) (a := 72) (ci := 9) (N := 11) (q9 := (RX11, TX11, 11)) dL_law_1237 ml_L_195 J_X11_thrown (Nat.zero_le _) (Nat.zero_le _) (Nat.le_of_ble_eq_true rfl) rfl (Nat.le_of_ble_eq_true rfl) (List.forall_mem_cons.mpr ⟨rfl, fun _ h9 => absurd h9 List.not_mem_nil⟩) (Nat.le_of_ble_eq_true rfl) rfl rfl rfl rfl pn_X11_thrown rfl k
theorem S_law_1240 {kc ks : Nat} {h : Hh} {Q : PQ} {X : PX} {x5 : Int} {x6 : Int} {x7 : Int} {xs0 : Int}
    (k : ((xs0 = x6 → ((x6 ≠ 0 → ((-2147483648 ≤ ((x5 + 10) : Int) ∧ ((x5 + 10) : Int) < 2147483648)) ∧ am_V M_L_law kc ks 28 [aR 1000, aR 0, aR 72, aR 81, aR 82, aI (x5 + 10), aU, aU, aU] [] am_R0 h Q X) ∧ (x6 = 0 → ((0 : Int) ≤ 0 ∧ (0 : Int) < 1) ∧ (((if x7 < (h 81 0) then 1 else if (h 81 0) = x7 then 0 else -1) = 0 → ((-2147483648 ≤ ((x5 + 10) : Int) ∧ ((x5 + 10) : Int) < 2147483648)) ∧ am_V M_L_law kc ks 28 [aR 1000, aR 0, aR 72, aR 81, aR 82, aI (x5 + 10), aU, aU, aU] [] am_R0 h Q X) ∧ ((if x7 < (h 81 0) then 1 else if (h 81 0) = x7 then 0 else -1) ≠ 0 → Q [aI 0] am_R0 h))))) ∧ (xs0 ≠ x6 → Q [aI 0] am_R0 h))) :
    am_V M_L_law kc ks 1240 [aR 1000, aR 0, aR 72, aR 81, aR 82, aI x5, aI x6, aI x7, aU] [aI xs0] am_R0 h Q X := by
  refine v_iload dL_law_1240 rfl ?_
  refine v_icmp_eq (tgt := 1247) dL_law_1242 (by decide) (fun z => ?_) (fun z => ?_)
  · have k := k.1 z
    refine v_iload dL_law_1247 rfl ?_
    refine v_if_ne (tgt := 1264) dL_law_1249 (by decide) (fun z => ?_) (fun z => ?_)
    · have k := k.1 z
      obtain ⟨b2_1, k⟩ := k
      refine v_goto (tgt := 3556) dL_law_1264 (by decide) ?_
      refine v_iinc (E2 := [aR 1000, aR 0, aR 72, aR 81, aR 82, aI (x5 + 10), aI x6, aI x7, aU]) dL_law_3556 rfl b2_1 rfl ?_
      refine v_goto (tgt := 28) dL_law_3559 (by decide) ?_
      refine v_weak (E2 := [aR 1000, aR 0, aR 72, aR 81, aR 82, aI (x5 + 10), aU, aU, aU]) ⟨Or.inl rfl, ⟨Or.inl rfl, ⟨Or.inl rfl, ⟨Or.inl rfl, ⟨Or.inl rfl, ⟨Or.inl rfl, ⟨Or.inr rfl, ⟨Or.inr rfl, ⟨Or.inl rfl, trivial⟩⟩⟩⟩⟩⟩⟩⟩⟩ ?_
      exact k
    · have k := k.2 z
      obtain ⟨⟨b2_1, b2_2⟩, k⟩ := k
      refine v_aload_n dL_law_1252 rfl rfl ?_
      refine v_iconst dL_law_1253 ⟨by decide, by decide⟩ ?_
      refine v_lald dL_law_1254 rfl b2_1 b2_2 ?_
      refine v_iload dL_law_1255 rfl ?_
      refine v_i2l dL_law_1257 ?_
      refine v_lcmp dL_law_1258 ?_
      refine v_if_eq (tgt := 1264) dL_law_1259 (by decide) (fun z => ?_) (fun z => ?_)
      · have k := k.1 z
        obtain ⟨b3_1, k⟩ := k
        refine v_goto (tgt := 3556) dL_law_1264 (by decide) ?_
        refine v_iinc (E2 := [aR 1000, aR 0, aR 72, aR 81, aR 82, aI (x5 + 10), aI x6, aI x7, aU]) dL_law_3556 rfl b3_1 rfl ?_
        refine v_goto (tgt := 28) dL_law_3559 (by decide) ?_
        refine v_weak (E2 := [aR 1000, aR 0, aR 72, aR 81, aR 82, aI (x5 + 10), aU, aU, aU]) ⟨Or.inl rfl, ⟨Or.inl rfl, ⟨Or.inl rfl, ⟨Or.inl rfl, ⟨Or.inl rfl, ⟨Or.inl rfl, ⟨Or.inr rfl, ⟨Or.inr rfl, ⟨Or.inl rfl, trivial⟩⟩⟩⟩⟩⟩⟩⟩⟩ ?_
        exact k
      · have k := k.2 z
        refine v_iconst dL_law_1262 ⟨by decide, by decide⟩ ?_
        exact v_lawret dL_law_1263 rfl k
  · have k := k.2 z
    refine v_iconst dL_law_1245 ⟨by decide, by decide⟩ ?_
    exact v_lawret dL_law_1246 rfl k
theorem S_law_1267 {kc ks : Nat} {h : Hh} {Q : PQ} {X : PX} {x5 : Int}
    (k : ((-2147483648 ≤ ((x5 + 1) : Int) ∧ ((x5 + 1) : Int) < 2147483648) ∧ (0 : Int) ≤ (x5 + 1) ∧ ((x5 + 1) : Int) < h 1001 0 ∧ (-2147483648 ≤ ((x5 + 2) : Int) ∧ ((x5 + 2) : Int) < 2147483648) ∧ (0 : Int) ≤ (x5 + 2) ∧ ((x5 + 2) : Int) < h 1001 0 ∧ (-2147483648 ≤ ((x5 + 3) : Int) ∧ ((x5 + 3) : Int) < 2147483648) ∧ (0 : Int) ≤ (x5 + 3) ∧ ((x5 + 3) : Int) < h 1001 0 ∧ 3 ≤ kc ∧ 18 ≤ ks) ∧ am_V M_L_classOf 3 18 0 [aR 0, aI (h 1000 (x5 + 1)), aI (h 1000 (x5 + 2)), aI (h 1000 (x5 + 3)), aR 81, aU] [] am_R0 h (fun v ρ' h' => am_V M_L_law (kc - 3) (ks - 18) 1290 [aR 1000, aR 0, aR 72, aR 81, aR 82, aI x5, aU, aU, aU] (v ++ []) ρ' h' Q X) X) :
    am_V M_L_law kc ks 1267 [aR 1000, aR 0, aR 72, aR 81, aR 82, aI x5, aU, aU, aU] [] am_R0 h Q X := by
  obtain ⟨⟨b0_1, b0_2, b0_3, b0_4, b0_5, b0_6, b0_7, b0_8, b0_9, b0_10, b0_11⟩, k⟩ := k
  refine v_aload_n dL_law_1267 rfl rfl ?_
  refine v_aload_n dL_law_1268 rfl rfl ?_
  refine v_iload dL_law_1269 rfl ?_
  refine v_iconst dL_law_1271 ⟨by decide, by decide⟩ ?_
  refine v_iadd dL_law_1272 b0_1 ?_
  refine v_sld dL_law_1273 rfl b0_2 b0_3 (fun _ => ?_)
  refine v_aload_n dL_law_1274 rfl rfl ?_
  refine v_iload dL_law_1275 rfl ?_
  refine v_iconst dL_law_1277 ⟨by decide, by decide⟩ ?_
  refine v_iadd dL_law_1278 b0_4 ?_
  refine v_sld dL_law_1279 rfl b0_5 b0_6 (fun _ => ?_)
  refine v_aload_n dL_law_1280 rfl rfl ?_
  refine v_iload dL_law_1281 rfl ?_
  refine v_iconst dL_law_1283 ⟨by decide, by decide⟩ ?_
  refine v_iadd dL_law_1284 b0_7 ?_
  refine v_sld dL_law_1285 rfl b0_8 b0_9 (fun _ => ?_)
  refine v_aload_n dL_law_1286 rfl rfl ?_
  exact v_callSX (j := M_L_classOf) (As := [aR 0, aI (h 1000 (x5 + 1)), aI (h 1000 (x5 + 2)), aI (h 1000 (x5 + 3)), aR 81]) (st := []) (E0 := [aR 0, aI (h 1000 (x5 + 1)), aI (h 1000 (x5 + 2)), aI (h 1000 (x5 + 3)), aR 81, aU]) dL_law_1287 ms_L_247 J_L_classOf b0_10 b0_11 (Nat.le_of_ble_eq_true rfl) rfl (Nat.le_of_ble_eq_true rfl) (List.forall_mem_cons.mpr ⟨rfl, List.forall_mem_cons.mpr ⟨rfl, List.forall_mem_cons.mpr ⟨rfl, List.forall_mem_cons.mpr ⟨rfl, List.forall_mem_cons.mpr ⟨rfl, fun _ h9 => absurd h9 List.not_mem_nil⟩⟩⟩⟩⟩) (Nat.le_of_ble_eq_true rfl) rfl pn_L_classOf rfl k
theorem S_law_1290 {kc ks : Nat} {h : Hh} {Q : PQ} {X : PX} {x5 : Int} {xs0 : Int}
    (k : ((-2147483648 ≤ ((x5 + 1) : Int) ∧ ((x5 + 1) : Int) < 2147483648) ∧ (0 : Int) ≤ (x5 + 1) ∧ ((x5 + 1) : Int) < h 1001 0 ∧ (-2147483648 ≤ ((x5 + 2) : Int) ∧ ((x5 + 2) : Int) < 2147483648) ∧ (0 : Int) ≤ (x5 + 2) ∧ ((x5 + 2) : Int) < h 1001 0 ∧ (-2147483648 ≤ ((x5 + 3) : Int) ∧ ((x5 + 3) : Int) < 2147483648) ∧ (0 : Int) ≤ (x5 + 3) ∧ ((x5 + 3) : Int) < h 1001 0) ∧ am_V M_X11_classOf 0 0 0 [aR 72, aI (h 1000 (x5 + 1)), aI (h 1000 (x5 + 2)), aI (h 1000 (x5 + 3)), aU, aU] [] am_R0 h (fun v ρ' h' => am_V M_L_law kc ks 1314 [aR 1000, aR 0, aR 72, aR 81, aR 82, aI x5, aI xs0, aU, aU] (v ++ []) ρ' h' Q X) X) :
    am_V M_L_law kc ks 1290 [aR 1000, aR 0, aR 72, aR 81, aR 82, aI x5, aU, aU, aU] [aI xs0] am_R0 h Q X := by
  obtain ⟨⟨b0_1, b0_2, b0_3, b0_4, b0_5, b0_6, b0_7, b0_8, b0_9⟩, k⟩ := k
  refine v_istore (E2 := [aR 1000, aR 0, aR 72, aR 81, aR 82, aI x5, aI xs0, aU, aU]) dL_law_1290 (Nat.le_of_ble_eq_true rfl) rfl ?_
  refine v_aload_n dL_law_1292 rfl rfl ?_
  refine v_aload_n dL_law_1293 rfl rfl ?_
  refine v_iload dL_law_1294 rfl ?_
  refine v_iconst dL_law_1296 ⟨by decide, by decide⟩ ?_
  refine v_iadd dL_law_1297 b0_1 ?_
  refine v_sld dL_law_1298 rfl b0_2 b0_3 (fun _ => ?_)
  refine v_aload_n dL_law_1299 rfl rfl ?_
  refine v_iload dL_law_1300 rfl ?_
  refine v_iconst dL_law_1302 ⟨by decide, by decide⟩ ?_
  refine v_iadd dL_law_1303 b0_4 ?_
  refine v_sld dL_law_1304 rfl b0_5 b0_6 (fun _ => ?_)
  refine v_aload_n dL_law_1305 rfl rfl ?_
  refine v_iload dL_law_1306 rfl ?_
  refine v_iconst dL_law_1308 ⟨by decide, by decide⟩ ?_
  refine v_iadd dL_law_1309 b0_7 ?_
  refine v_sld dL_law_1310 rfl b0_8 b0_9 (fun _ => ?_)
  exact v_callV (j := M_X11_classOf) (As := [aI (h 1000 (x5 + 1)), aI (h 1000 (x5 + 2)), aI (h 1000 (x5 + 3))]) (st := []) (E0 := [aR 72, aI (h 1000 (x5 + 1)), aI (h 1000 (x5 + 2)), aI (h 1000 (x5 + 3)), aU, aU]) (a := 72) (ci := 9) (N := 11) (q9 := (RX11, TX11, 11)) dL_law_1311 ml_L_250 J_X11_classOf (Nat.zero_le _) (Nat.zero_le _) (Nat.le_of_ble_eq_true rfl) rfl (Nat.le_of_ble_eq_true rfl) (List.forall_mem_cons.mpr ⟨rfl, List.forall_mem_cons.mpr ⟨rfl, List.forall_mem_cons.mpr ⟨rfl, List.forall_mem_cons.mpr ⟨rfl, fun _ h9 => absurd h9 List.not_mem_nil⟩⟩⟩⟩) (Nat.le_of_ble_eq_true rfl) rfl rfl rfl rfl pn_X11_classOf rfl k
theorem S_law_1314 {kc ks : Nat} {h : Hh} {Q : PQ} {X : PX} {x5 : Int} {x6 : Int} {xs0 : Int}
    (k : am_V M_X11_thrown 0 0 0 [aR 72] [] am_R0 h (fun v ρ' h' => am_V M_L_law kc ks 1320 [aR 1000, aR 0, aR 72, aR 81, aR 82, aI x5, aI x6, aI xs0, aU] (v ++ []) ρ' h' Q X) X) :
    am_V M_L_law kc ks 1314 [aR 1000, aR 0, aR 72, aR 81, aR 82, aI x5, aI x6, aU, aU] [aI xs0] am_R0 h Q X := by
  refine v_istore (E2 := [aR 1000, aR 0, aR 72, aR 81, aR 82, aI x5, aI x6, aI xs0, aU]) dL_law_1314 (Nat.le_of_ble_eq_true rfl) rfl ?_
  refine v_aload_n dL_law_1316 rfl rfl ?_
  exact v_callV (j := M_X11_thrown) (As := []) (st := []) (E0 := [aR 72]) (a := 72) (ci := 9) (N := 11) (q9 := (RX11, TX11, 11)) dL_law_1317 ml_L_195 J_X11_thrown (Nat.zero_le _) (Nat.zero_le _) (Nat.le_of_ble_eq_true rfl) rfl (Nat.le_of_ble_eq_true rfl) (List.forall_mem_cons.mpr ⟨rfl, fun _ h9 => absurd h9 List.not_mem_nil⟩) (Nat.le_of_ble_eq_true rfl) rfl rfl rfl rfl pn_X11_thrown rfl k
theorem S_law_1320 {kc ks : Nat} {h : Hh} {Q : PQ} {X : PX} {x5 : Int} {x6 : Int} {x7 : Int} {xs0 : Int}
    (k : ((xs0 = x6 → ((x6 ≠ 0 → ((-2147483648 ≤ ((x5 + 10) : Int) ∧ ((x5 + 10) : Int) < 2147483648)) ∧ am_V M_L_law kc ks 28 [aR 1000, aR 0, aR 72, aR 81, aR 82, aI (x5 + 10), aU, aU, aU] [] am_R0 h Q X) ∧ (x6 = 0 → ((0 : Int) ≤ 0 ∧ (0 : Int) < 1) ∧ (((if x7 < (h 81 0) then 1 else if (h 81 0) = x7 then 0 else -1) = 0 → ((-2147483648 ≤ ((x5 + 10) : Int) ∧ ((x5 + 10) : Int) < 2147483648)) ∧ am_V M_L_law kc ks 28 [aR 1000, aR 0, aR 72, aR 81, aR 82, aI (x5 + 10), aU, aU, aU] [] am_R0 h Q X) ∧ ((if x7 < (h 81 0) then 1 else if (h 81 0) = x7 then 0 else -1) ≠ 0 → Q [aI 0] am_R0 h))))) ∧ (xs0 ≠ x6 → Q [aI 0] am_R0 h))) :
    am_V M_L_law kc ks 1320 [aR 1000, aR 0, aR 72, aR 81, aR 82, aI x5, aI x6, aI x7, aU] [aI xs0] am_R0 h Q X := by
  refine v_iload dL_law_1320 rfl ?_
  refine v_icmp_eq (tgt := 1327) dL_law_1322 (by decide) (fun z => ?_) (fun z => ?_)
  · have k := k.1 z
    refine v_iload dL_law_1327 rfl ?_
    refine v_if_ne (tgt := 1344) dL_law_1329 (by decide) (fun z => ?_) (fun z => ?_)
    · have k := k.1 z
      obtain ⟨b2_1, k⟩ := k
      refine v_goto (tgt := 3556) dL_law_1344 (by decide) ?_
      refine v_iinc (E2 := [aR 1000, aR 0, aR 72, aR 81, aR 82, aI (x5 + 10), aI x6, aI x7, aU]) dL_law_3556 rfl b2_1 rfl ?_
      refine v_goto (tgt := 28) dL_law_3559 (by decide) ?_
      refine v_weak (E2 := [aR 1000, aR 0, aR 72, aR 81, aR 82, aI (x5 + 10), aU, aU, aU]) ⟨Or.inl rfl, ⟨Or.inl rfl, ⟨Or.inl rfl, ⟨Or.inl rfl, ⟨Or.inl rfl, ⟨Or.inl rfl, ⟨Or.inr rfl, ⟨Or.inr rfl, ⟨Or.inl rfl, trivial⟩⟩⟩⟩⟩⟩⟩⟩⟩ ?_
      exact k
    · have k := k.2 z
      obtain ⟨⟨b2_1, b2_2⟩, k⟩ := k
      refine v_aload_n dL_law_1332 rfl rfl ?_
      refine v_iconst dL_law_1333 ⟨by decide, by decide⟩ ?_
      refine v_lald dL_law_1334 rfl b2_1 b2_2 ?_
      refine v_iload dL_law_1335 rfl ?_
      refine v_i2l dL_law_1337 ?_
      refine v_lcmp dL_law_1338 ?_
      refine v_if_eq (tgt := 1344) dL_law_1339 (by decide) (fun z => ?_) (fun z => ?_)
      · have k := k.1 z
        obtain ⟨b3_1, k⟩ := k
        refine v_goto (tgt := 3556) dL_law_1344 (by decide) ?_
        refine v_iinc (E2 := [aR 1000, aR 0, aR 72, aR 81, aR 82, aI (x5 + 10), aI x6, aI x7, aU]) dL_law_3556 rfl b3_1 rfl ?_
        refine v_goto (tgt := 28) dL_law_3559 (by decide) ?_
        refine v_weak (E2 := [aR 1000, aR 0, aR 72, aR 81, aR 82, aI (x5 + 10), aU, aU, aU]) ⟨Or.inl rfl, ⟨Or.inl rfl, ⟨Or.inl rfl, ⟨Or.inl rfl, ⟨Or.inl rfl, ⟨Or.inl rfl, ⟨Or.inr rfl, ⟨Or.inr rfl, ⟨Or.inl rfl, trivial⟩⟩⟩⟩⟩⟩⟩⟩⟩ ?_
        exact k
      · have k := k.2 z
        refine v_iconst dL_law_1342 ⟨by decide, by decide⟩ ?_
        exact v_lawret dL_law_1343 rfl k
  · have k := k.2 z
    refine v_iconst dL_law_1325 ⟨by decide, by decide⟩ ?_
    exact v_lawret dL_law_1326 rfl k
theorem S_law_1347 {kc ks : Nat} {h : Hh} {Q : PQ} {X : PX} {x5 : Int}
    (k : ((-2147483648 ≤ ((x5 + 1) : Int) ∧ ((x5 + 1) : Int) < 2147483648) ∧ (0 : Int) ≤ (x5 + 1) ∧ ((x5 + 1) : Int) < h 1001 0 ∧ (-2147483648 ≤ ((x5 + 2) : Int) ∧ ((x5 + 2) : Int) < 2147483648) ∧ (0 : Int) ≤ (x5 + 2) ∧ ((x5 + 2) : Int) < h 1001 0 ∧ 2 ≤ kc ∧ 12 ≤ ks) ∧ am_V M_L_classes 2 12 0 [aR 0, aI (h 1000 (x5 + 1)), aI (h 1000 (x5 + 2)), aR 81, aU] [] am_R0 h (fun v ρ' h' => am_V M_L_law (kc - 2) (ks - 12) 1364 [aR 1000, aR 0, aR 72, aR 81, aR 82, aI x5, aU, aU, aU] (v ++ []) ρ' h' Q X) X) :
    am_V M_L_law kc ks 1347 [aR 1000, aR 0, aR 72, aR 81, aR 82, aI x5, aU, aU, aU] [] am_R0 h Q X := by
  obtain ⟨⟨b0_1, b0_2, b0_3, b0_4, b0_5, b0_6, b0_7, b0_8⟩, k⟩ := k
  refine v_aload_n dL_law_1347 rfl rfl ?_
  refine v_aload_n dL_law_1348 rfl rfl ?_
  refine v_iload dL_law_1349 rfl ?_
  refine v_iconst dL_law_1351 ⟨by decide, by decide⟩ ?_
  refine v_iadd dL_law_1352 b0_1 ?_
  refine v_sld dL_law_1353 rfl b0_2 b0_3 (fun _ => ?_)
  refine v_aload_n dL_law_1354 rfl rfl ?_
  refine v_iload dL_law_1355 rfl ?_
  refine v_iconst dL_law_1357 ⟨by decide, by decide⟩ ?_
  refine v_iadd dL_law_1358 b0_4 ?_
  refine v_sld dL_law_1359 rfl b0_5 b0_6 (fun _ => ?_)
  refine v_aload_n dL_law_1360 rfl rfl ?_
  exact v_callSX (j := M_L_classes) (As := [aR 0, aI (h 1000 (x5 + 1)), aI (h 1000 (x5 + 2)), aR 81]) (st := []) (E0 := [aR 0, aI (h 1000 (x5 + 1)), aI (h 1000 (x5 + 2)), aR 81, aU]) dL_law_1361 ms_L_251 J_L_classes b0_7 b0_8 (Nat.le_of_ble_eq_true rfl) rfl (Nat.le_of_ble_eq_true rfl) (List.forall_mem_cons.mpr ⟨rfl, List.forall_mem_cons.mpr ⟨rfl, List.forall_mem_cons.mpr ⟨rfl, List.forall_mem_cons.mpr ⟨rfl, fun _ h9 => absurd h9 List.not_mem_nil⟩⟩⟩⟩) (Nat.le_of_ble_eq_true rfl) rfl pn_L_classes rfl k
theorem S_law_1364 {kc ks : Nat} {h : Hh} {Q : PQ} {X : PX} {x5 : Int} {xs0 : Int}
    (k : ((-2147483648 ≤ ((x5 + 1) : Int) ∧ ((x5 + 1) : Int) < 2147483648) ∧ (0 : Int) ≤ (x5 + 1) ∧ ((x5 + 1) : Int) < h 1001 0 ∧ (-2147483648 ≤ ((x5 + 2) : Int) ∧ ((x5 + 2) : Int) < 2147483648) ∧ (0 : Int) ≤ (x5 + 2) ∧ ((x5 + 2) : Int) < h 1001 0) ∧ am_V M_X11_classes 0 0 0 [aR 72, aI (h 1000 (x5 + 1)), aI (h 1000 (x5 + 2))] [] am_R0 h (fun v ρ' h' => am_V M_L_law kc ks 1382 [aR 1000, aR 0, aR 72, aR 81, aR 82, aI x5, aI xs0, aU, aU] (v ++ []) ρ' h' Q X) X) :
    am_V M_L_law kc ks 1364 [aR 1000, aR 0, aR 72, aR 81, aR 82, aI x5, aU, aU, aU] [aI xs0] am_R0 h Q X := by
  obtain ⟨⟨b0_1, b0_2, b0_3, b0_4, b0_5, b0_6⟩, k⟩ := k
  refine v_istore (E2 := [aR 1000, aR 0, aR 72, aR 81, aR 82, aI x5, aI xs0, aU, aU]) dL_law_1364 (Nat.le_of_ble_eq_true rfl) rfl ?_
  refine v_aload_n dL_law_1366 rfl rfl ?_
  refine v_aload_n dL_law_1367 rfl rfl ?_
  refine v_iload dL_law_1368 rfl ?_
  refine v_iconst dL_law_1370 ⟨by decide, by decide⟩ ?_
  refine v_iadd dL_law_1371 b0_1 ?_
  refine v_sld dL_law_1372 rfl b0_2 b0_3 (fun _ => ?_)
  refine v_aload_n dL_law_1373 rfl rfl ?_
  refine v_iload dL_law_1374 rfl ?_
  refine v_iconst dL_law_1376 ⟨by decide, by decide⟩ ?_
  refine v_iadd dL_law_1377 b0_4 ?_
  refine v_sld dL_law_1378 rfl b0_5 b0_6 (fun _ => ?_)
  exact v_callV (j := M_X11_classes) (As := [aI (h 1000 (x5 + 1)), aI (h 1000 (x5 + 2))]) (st := []) (E0 := [aR 72, aI (h 1000 (x5 + 1)), aI (h 1000 (x5 + 2))]) (a := 72) (ci := 9) (N := 11) (q9 := (RX11, TX11, 11)) dL_law_1379 ml_L_253 J_X11_classes (Nat.zero_le _) (Nat.zero_le _) (Nat.le_of_ble_eq_true rfl) rfl (Nat.le_of_ble_eq_true rfl) (List.forall_mem_cons.mpr ⟨rfl, List.forall_mem_cons.mpr ⟨rfl, List.forall_mem_cons.mpr ⟨rfl, fun _ h9 => absurd h9 List.not_mem_nil⟩⟩⟩) (Nat.le_of_ble_eq_true rfl) rfl rfl rfl rfl pn_X11_classes rfl k
theorem S_law_1382 {kc ks : Nat} {h : Hh} {Q : PQ} {X : PX} {x5 : Int} {x6 : Int} {xs0 : Int}
    (k : am_V M_X11_thrown 0 0 0 [aR 72] [] am_R0 h (fun v ρ' h' => am_V M_L_law kc ks 1388 [aR 1000, aR 0, aR 72, aR 81, aR 82, aI x5, aI x6, aI xs0, aU] (v ++ []) ρ' h' Q X) X) :
    am_V M_L_law kc ks 1382 [aR 1000, aR 0, aR 72, aR 81, aR 82, aI x5, aI x6, aU, aU] [aI xs0] am_R0 h Q X := by
  refine v_istore (E2 := [aR 1000, aR 0, aR 72, aR 81, aR 82, aI x5, aI x6, aI xs0, aU]) dL_law_1382 (Nat.le_of_ble_eq_true rfl) rfl ?_
  refine v_aload_n dL_law_1384 rfl rfl ?_
  exact v_callV (j := M_X11_thrown) (As := []) (st := []) (E0 := [aR 72]) (a := 72) (ci := 9) (N := 11) (q9 := (RX11, TX11, 11)) dL_law_1385 ml_L_195 J_X11_thrown (Nat.zero_le _) (Nat.zero_le _) (Nat.le_of_ble_eq_true rfl) rfl (Nat.le_of_ble_eq_true rfl) (List.forall_mem_cons.mpr ⟨rfl, fun _ h9 => absurd h9 List.not_mem_nil⟩) (Nat.le_of_ble_eq_true rfl) rfl rfl rfl rfl pn_X11_thrown rfl k
theorem S_law_1388 {kc ks : Nat} {h : Hh} {Q : PQ} {X : PX} {x5 : Int} {x6 : Int} {x7 : Int} {xs0 : Int}
    (k : ((xs0 = x6 → ((x6 ≠ 0 → ((-2147483648 ≤ ((x5 + 10) : Int) ∧ ((x5 + 10) : Int) < 2147483648)) ∧ am_V M_L_law kc ks 28 [aR 1000, aR 0, aR 72, aR 81, aR 82, aI (x5 + 10), aU, aU, aU] [] am_R0 h Q X) ∧ (x6 = 0 → ((0 : Int) ≤ 0 ∧ (0 : Int) < 1) ∧ (((if x7 < (h 81 0) then 1 else if (h 81 0) = x7 then 0 else -1) = 0 → ((-2147483648 ≤ ((x5 + 10) : Int) ∧ ((x5 + 10) : Int) < 2147483648)) ∧ am_V M_L_law kc ks 28 [aR 1000, aR 0, aR 72, aR 81, aR 82, aI (x5 + 10), aU, aU, aU] [] am_R0 h Q X) ∧ ((if x7 < (h 81 0) then 1 else if (h 81 0) = x7 then 0 else -1) ≠ 0 → Q [aI 0] am_R0 h))))) ∧ (xs0 ≠ x6 → Q [aI 0] am_R0 h))) :
    am_V M_L_law kc ks 1388 [aR 1000, aR 0, aR 72, aR 81, aR 82, aI x5, aI x6, aI x7, aU] [aI xs0] am_R0 h Q X := by
  refine v_iload dL_law_1388 rfl ?_
  refine v_icmp_eq (tgt := 1395) dL_law_1390 (by decide) (fun z => ?_) (fun z => ?_)
  · have k := k.1 z
    refine v_iload dL_law_1395 rfl ?_
    refine v_if_ne (tgt := 1412) dL_law_1397 (by decide) (fun z => ?_) (fun z => ?_)
    · have k := k.1 z
      obtain ⟨b2_1, k⟩ := k
      refine v_goto (tgt := 3556) dL_law_1412 (by decide) ?_
      refine v_iinc (E2 := [aR 1000, aR 0, aR 72, aR 81, aR 82, aI (x5 + 10), aI x6, aI x7, aU]) dL_law_3556 rfl b2_1 rfl ?_
      refine v_goto (tgt := 28) dL_law_3559 (by decide) ?_
      refine v_weak (E2 := [aR 1000, aR 0, aR 72, aR 81, aR 82, aI (x5 + 10), aU, aU, aU]) ⟨Or.inl rfl, ⟨Or.inl rfl, ⟨Or.inl rfl, ⟨Or.inl rfl, ⟨Or.inl rfl, ⟨Or.inl rfl, ⟨Or.inr rfl, ⟨Or.inr rfl, ⟨Or.inl rfl, trivial⟩⟩⟩⟩⟩⟩⟩⟩⟩ ?_
      exact k
    · have k := k.2 z
      obtain ⟨⟨b2_1, b2_2⟩, k⟩ := k
      refine v_aload_n dL_law_1400 rfl rfl ?_
      refine v_iconst dL_law_1401 ⟨by decide, by decide⟩ ?_
      refine v_lald dL_law_1402 rfl b2_1 b2_2 ?_
      refine v_iload dL_law_1403 rfl ?_
      refine v_i2l dL_law_1405 ?_
      refine v_lcmp dL_law_1406 ?_
      refine v_if_eq (tgt := 1412) dL_law_1407 (by decide) (fun z => ?_) (fun z => ?_)
      · have k := k.1 z
        obtain ⟨b3_1, k⟩ := k
        refine v_goto (tgt := 3556) dL_law_1412 (by decide) ?_
        refine v_iinc (E2 := [aR 1000, aR 0, aR 72, aR 81, aR 82, aI (x5 + 10), aI x6, aI x7, aU]) dL_law_3556 rfl b3_1 rfl ?_
        refine v_goto (tgt := 28) dL_law_3559 (by decide) ?_
        refine v_weak (E2 := [aR 1000, aR 0, aR 72, aR 81, aR 82, aI (x5 + 10), aU, aU, aU]) ⟨Or.inl rfl, ⟨Or.inl rfl, ⟨Or.inl rfl, ⟨Or.inl rfl, ⟨Or.inl rfl, ⟨Or.inl rfl, ⟨Or.inr rfl, ⟨Or.inr rfl, ⟨Or.inl rfl, trivial⟩⟩⟩⟩⟩⟩⟩⟩⟩ ?_
        exact k
      · have k := k.2 z
        refine v_iconst dL_law_1410 ⟨by decide, by decide⟩ ?_
        exact v_lawret dL_law_1411 rfl k
  · have k := k.2 z
    refine v_iconst dL_law_1393 ⟨by decide, by decide⟩ ?_
    exact v_lawret dL_law_1394 rfl k
theorem S_law_1415 {kc ks : Nat} {h : Hh} {Q : PQ} {X : PX} {x5 : Int}
    (k : ((-2147483648 ≤ ((x5 + 1) : Int) ∧ ((x5 + 1) : Int) < 2147483648) ∧ (0 : Int) ≤ (x5 + 1) ∧ ((x5 + 1) : Int) < h 1001 0 ∧ 1 ≤ kc ∧ 6 ≤ ks) ∧ am_V M_L_rounds 1 6 0 [aR 0, aI (h 1000 (x5 + 1)), aR 81, aU] [] am_R0 h (fun v ρ' h' => am_V M_L_law (kc - 1) (ks - 6) 1426 [aR 1000, aR 0, aR 72, aR 81, aR 82, aI x5, aU, aU, aU] (v ++ []) ρ' h' Q X) X) :
    am_V M_L_law kc ks 1415 [aR 1000, aR 0, aR 72, aR 81, aR 82, aI x5, aU, aU, aU] [] am_R0 h Q X := by
  obtain ⟨⟨b0_1, b0_2, b0_3, b0_4, b0_5⟩, k⟩ := k
  refine v_aload_n dL_law_1415 rfl rfl ?_
  refine v_aload_n dL_law_1416 rfl rfl ?_
  refine v_iload dL_law_1417 rfl ?_
  refine v_iconst dL_law_1419 ⟨by decide, by decide⟩ ?_
  refine v_iadd dL_law_1420 b0_1 ?_
  refine v_sld dL_law_1421 rfl b0_2 b0_3 (fun _ => ?_)
  refine v_aload_n dL_law_1422 rfl rfl ?_
  exact v_callSX (j := M_L_rounds) (As := [aR 0, aI (h 1000 (x5 + 1)), aR 81]) (st := []) (E0 := [aR 0, aI (h 1000 (x5 + 1)), aR 81, aU]) dL_law_1423 ms_L_254 J_L_rounds b0_4 b0_5 (Nat.le_of_ble_eq_true rfl) rfl (Nat.le_of_ble_eq_true rfl) (List.forall_mem_cons.mpr ⟨rfl, List.forall_mem_cons.mpr ⟨rfl, List.forall_mem_cons.mpr ⟨rfl, fun _ h9 => absurd h9 List.not_mem_nil⟩⟩⟩) (Nat.le_of_ble_eq_true rfl) rfl pn_L_rounds rfl k
theorem S_law_1426 {kc ks : Nat} {h : Hh} {Q : PQ} {X : PX} {x5 : Int} {xs0 : Int}
    (k : ((-2147483648 ≤ ((x5 + 1) : Int) ∧ ((x5 + 1) : Int) < 2147483648) ∧ (0 : Int) ≤ (x5 + 1) ∧ ((x5 + 1) : Int) < h 1001 0) ∧ am_V M_X11_rounds 0 0 0 [aR 72, aI (h 1000 (x5 + 1)), aU, aU] [] am_R0 h (fun v ρ' h' => am_V M_L_law kc ks 1438 [aR 1000, aR 0, aR 72, aR 81, aR 82, aI x5, aI xs0, aU, aU] (v ++ []) ρ' h' Q X) X) :
    am_V M_L_law kc ks 1426 [aR 1000, aR 0, aR 72, aR 81, aR 82, aI x5, aU, aU, aU] [aI xs0] am_R0 h Q X := by
  obtain ⟨⟨b0_1, b0_2, b0_3⟩, k⟩ := k
  refine v_istore (E2 := [aR 1000, aR 0, aR 72, aR 81, aR 82, aI x5, aI xs0, aU, aU]) dL_law_1426 (Nat.le_of_ble_eq_true rfl) rfl ?_
  refine v_aload_n dL_law_1428 rfl rfl ?_
  refine v_aload_n dL_law_1429 rfl rfl ?_
  refine v_iload dL_law_1430 rfl ?_
  refine v_iconst dL_law_1432 ⟨by decide, by decide⟩ ?_
  refine v_iadd dL_law_1433 b0_1 ?_
  refine v_sld dL_law_1434 rfl b0_2 b0_3 (fun _ => ?_)
  exact v_callV (j := M_X11_rounds) (As := [aI (h 1000 (x5 + 1))]) (st := []) (E0 := [aR 72, aI (h 1000 (x5 + 1)), aU, aU]) (a := 72) (ci := 9) (N := 11) (q9 := (RX11, TX11, 11)) dL_law_1435 ml_L_256 J_X11_rounds (Nat.zero_le _) (Nat.zero_le _) (Nat.le_of_ble_eq_true rfl) rfl (Nat.le_of_ble_eq_true rfl) (List.forall_mem_cons.mpr ⟨rfl, List.forall_mem_cons.mpr ⟨rfl, fun _ h9 => absurd h9 List.not_mem_nil⟩⟩) (Nat.le_of_ble_eq_true rfl) rfl rfl rfl rfl pn_X11_rounds rfl k
theorem S_law_1438 {kc ks : Nat} {h : Hh} {Q : PQ} {X : PX} {x5 : Int} {x6 : Int} {xs0 : Int}
    (k : am_V M_X11_thrown 0 0 0 [aR 72] [] am_R0 h (fun v ρ' h' => am_V M_L_law kc ks 1444 [aR 1000, aR 0, aR 72, aR 81, aR 82, aI x5, aI x6, aI xs0, aU] (v ++ []) ρ' h' Q X) X) :
    am_V M_L_law kc ks 1438 [aR 1000, aR 0, aR 72, aR 81, aR 82, aI x5, aI x6, aU, aU] [aI xs0] am_R0 h Q X := by
  refine v_istore (E2 := [aR 1000, aR 0, aR 72, aR 81, aR 82, aI x5, aI x6, aI xs0, aU]) dL_law_1438 (Nat.le_of_ble_eq_true rfl) rfl ?_
  refine v_aload_n dL_law_1440 rfl rfl ?_
  exact v_callV (j := M_X11_thrown) (As := []) (st := []) (E0 := [aR 72]) (a := 72) (ci := 9) (N := 11) (q9 := (RX11, TX11, 11)) dL_law_1441 ml_L_195 J_X11_thrown (Nat.zero_le _) (Nat.zero_le _) (Nat.le_of_ble_eq_true rfl) rfl (Nat.le_of_ble_eq_true rfl) (List.forall_mem_cons.mpr ⟨rfl, fun _ h9 => absurd h9 List.not_mem_nil⟩) (Nat.le_of_ble_eq_true rfl) rfl rfl rfl rfl pn_X11_thrown rfl k
theorem S_law_1444 {kc ks : Nat} {h : Hh} {Q : PQ} {X : PX} {x5 : Int} {x6 : Int} {x7 : Int} {xs0 : Int}
    (k : ((xs0 = x6 → ((x6 ≠ 0 → ((-2147483648 ≤ ((x5 + 10) : Int) ∧ ((x5 + 10) : Int) < 2147483648)) ∧ am_V M_L_law kc ks 28 [aR 1000, aR 0, aR 72, aR 81, aR 82, aI (x5 + 10), aU, aU, aU] [] am_R0 h Q X) ∧ (x6 = 0 → ((0 : Int) ≤ 0 ∧ (0 : Int) < 1) ∧ (((if x7 < (h 81 0) then 1 else if (h 81 0) = x7 then 0 else -1) = 0 → ((-2147483648 ≤ ((x5 + 10) : Int) ∧ ((x5 + 10) : Int) < 2147483648)) ∧ am_V M_L_law kc ks 28 [aR 1000, aR 0, aR 72, aR 81, aR 82, aI (x5 + 10), aU, aU, aU] [] am_R0 h Q X) ∧ ((if x7 < (h 81 0) then 1 else if (h 81 0) = x7 then 0 else -1) ≠ 0 → Q [aI 0] am_R0 h))))) ∧ (xs0 ≠ x6 → Q [aI 0] am_R0 h))) :
    am_V M_L_law kc ks 1444 [aR 1000, aR 0, aR 72, aR 81, aR 82, aI x5, aI x6, aI x7, aU] [aI xs0] am_R0 h Q X := by
  refine v_iload dL_law_1444 rfl ?_
  refine v_icmp_eq (tgt := 1451) dL_law_1446 (by decide) (fun z => ?_) (fun z => ?_)
  · have k := k.1 z
    refine v_iload dL_law_1451 rfl ?_
    refine v_if_ne (tgt := 1468) dL_law_1453 (by decide) (fun z => ?_) (fun z => ?_)
    · have k := k.1 z
      obtain ⟨b2_1, k⟩ := k
      refine v_goto (tgt := 3556) dL_law_1468 (by decide) ?_
      refine v_iinc (E2 := [aR 1000, aR 0, aR 72, aR 81, aR 82, aI (x5 + 10), aI x6, aI x7, aU]) dL_law_3556 rfl b2_1 rfl ?_
      refine v_goto (tgt := 28) dL_law_3559 (by decide) ?_
      refine v_weak (E2 := [aR 1000, aR 0, aR 72, aR 81, aR 82, aI (x5 + 10), aU, aU, aU]) ⟨Or.inl rfl, ⟨Or.inl rfl, ⟨Or.inl rfl, ⟨Or.inl rfl, ⟨Or.inl rfl, ⟨Or.inl rfl, ⟨Or.inr rfl, ⟨Or.inr rfl, ⟨Or.inl rfl, trivial⟩⟩⟩⟩⟩⟩⟩⟩⟩ ?_
      exact k
    · have k := k.2 z
      obtain ⟨⟨b2_1, b2_2⟩, k⟩ := k
      refine v_aload_n dL_law_1456 rfl rfl ?_
      refine v_iconst dL_law_1457 ⟨by decide, by decide⟩ ?_
      refine v_lald dL_law_1458 rfl b2_1 b2_2 ?_
      refine v_iload dL_law_1459 rfl ?_
      refine v_i2l dL_law_1461 ?_
      refine v_lcmp dL_law_1462 ?_
      refine v_if_eq (tgt := 1468) dL_law_1463 (by decide) (fun z => ?_) (fun z => ?_)
      · have k := k.1 z
        obtain ⟨b3_1, k⟩ := k
        refine v_goto (tgt := 3556) dL_law_1468 (by decide) ?_
        refine v_iinc (E2 := [aR 1000, aR 0, aR 72, aR 81, aR 82, aI (x5 + 10), aI x6, aI x7, aU]) dL_law_3556 rfl b3_1 rfl ?_
        refine v_goto (tgt := 28) dL_law_3559 (by decide) ?_
        refine v_weak (E2 := [aR 1000, aR 0, aR 72, aR 81, aR 82, aI (x5 + 10), aU, aU, aU]) ⟨Or.inl rfl, ⟨Or.inl rfl, ⟨Or.inl rfl, ⟨Or.inl rfl, ⟨Or.inl rfl, ⟨Or.inl rfl, ⟨Or.inr rfl, ⟨Or.inr rfl, ⟨Or.inl rfl, trivial⟩⟩⟩⟩⟩⟩⟩⟩⟩ ?_
        exact k
      · have k := k.2 z
        refine v_iconst dL_law_1466 ⟨by decide, by decide⟩ ?_
        exact v_lawret dL_law_1467 rfl k
  · have k := k.2 z
    refine v_iconst dL_law_1449 ⟨by decide, by decide⟩ ?_
    exact v_lawret dL_law_1450 rfl k
theorem S_law_1471 {kc ks : Nat} {h : Hh} {Q : PQ} {X : PX} {x5 : Int}
    (k : ((-2147483648 ≤ ((x5 + 1) : Int) ∧ ((x5 + 1) : Int) < 2147483648) ∧ (0 : Int) ≤ (x5 + 1) ∧ ((x5 + 1) : Int) < h 1001 0 ∧ (-2147483648 ≤ ((x5 + 2) : Int) ∧ ((x5 + 2) : Int) < 2147483648) ∧ (0 : Int) ≤ (x5 + 2) ∧ ((x5 + 2) : Int) < h 1001 0 ∧ 2 ≤ kc ∧ 12 ≤ ks) ∧ am_V M_L_common 2 12 0 [aR 0, aI (h 1000 (x5 + 1)), aI (h 1000 (x5 + 2)), aR 81, aU] [] am_R0 h (fun v ρ' h' => am_V M_L_law (kc - 2) (ks - 12) 1488 [aR 1000, aR 0, aR 72, aR 81, aR 82, aI x5, aU, aU, aU] (v ++ []) ρ' h' Q X) X) :
    am_V M_L_law kc ks 1471 [aR 1000, aR 0, aR 72, aR 81, aR 82, aI x5, aU, aU, aU] [] am_R0 h Q X := by
  obtain ⟨⟨b0_1, b0_2, b0_3, b0_4, b0_5, b0_6, b0_7, b0_8⟩, k⟩ := k
  refine v_aload_n dL_law_1471 rfl rfl ?_
  refine v_aload_n dL_law_1472 rfl rfl ?_
  refine v_iload dL_law_1473 rfl ?_
  refine v_iconst dL_law_1475 ⟨by decide, by decide⟩ ?_
  refine v_iadd dL_law_1476 b0_1 ?_
  refine v_sld dL_law_1477 rfl b0_2 b0_3 (fun _ => ?_)
  refine v_aload_n dL_law_1478 rfl rfl ?_
  refine v_iload dL_law_1479 rfl ?_
  refine v_iconst dL_law_1481 ⟨by decide, by decide⟩ ?_
  refine v_iadd dL_law_1482 b0_4 ?_
  refine v_sld dL_law_1483 rfl b0_5 b0_6 (fun _ => ?_)
  refine v_aload_n dL_law_1484 rfl rfl ?_
  exact v_callSX (j := M_L_common) (As := [aR 0, aI (h 1000 (x5 + 1)), aI (h 1000 (x5 + 2)), aR 81]) (st := []) (E0 := [aR 0, aI (h 1000 (x5 + 1)), aI (h 1000 (x5 + 2)), aR 81, aU]) dL_law_1485 ms_L_257 J_L_common b0_7 b0_8 (Nat.le_of_ble_eq_true rfl) rfl (Nat.le_of_ble_eq_true rfl) (List.forall_mem_cons.mpr ⟨rfl, List.forall_mem_cons.mpr ⟨rfl, List.forall_mem_cons.mpr ⟨rfl, List.forall_mem_cons.mpr ⟨rfl, fun _ h9 => absurd h9 List.not_mem_nil⟩⟩⟩⟩) (Nat.le_of_ble_eq_true rfl) rfl pn_L_common rfl k
theorem S_law_1488 {kc ks : Nat} {h : Hh} {Q : PQ} {X : PX} {x5 : Int} {xs0 : Int}
    (k : ((-2147483648 ≤ ((x5 + 1) : Int) ∧ ((x5 + 1) : Int) < 2147483648) ∧ (0 : Int) ≤ (x5 + 1) ∧ ((x5 + 1) : Int) < h 1001 0 ∧ (-2147483648 ≤ ((x5 + 2) : Int) ∧ ((x5 + 2) : Int) < 2147483648) ∧ (0 : Int) ≤ (x5 + 2) ∧ ((x5 + 2) : Int) < h 1001 0) ∧ am_V M_X11_common 0 0 0 [aR 72, aI (h 1000 (x5 + 1)), aI (h 1000 (x5 + 2))] [] am_R0 h (fun v ρ' h' => am_V M_L_law kc ks 1506 [aR 1000, aR 0, aR 72, aR 81, aR 82, aI x5, aI xs0, aU, aU] (v ++ []) ρ' h' Q X) X) :
    am_V M_L_law kc ks 1488 [aR 1000, aR 0, aR 72, aR 81, aR 82, aI x5, aU, aU, aU] [aI xs0] am_R0 h Q X := by
  obtain ⟨⟨b0_1, b0_2, b0_3, b0_4, b0_5, b0_6⟩, k⟩ := k
  refine v_istore (E2 := [aR 1000, aR 0, aR 72, aR 81, aR 82, aI x5, aI xs0, aU, aU]) dL_law_1488 (Nat.le_of_ble_eq_true rfl) rfl ?_
  refine v_aload_n dL_law_1490 rfl rfl ?_
  refine v_aload_n dL_law_1491 rfl rfl ?_
  refine v_iload dL_law_1492 rfl ?_
  refine v_iconst dL_law_1494 ⟨by decide, by decide⟩ ?_
  refine v_iadd dL_law_1495 b0_1 ?_
  refine v_sld dL_law_1496 rfl b0_2 b0_3 (fun _ => ?_)
  refine v_aload_n dL_law_1497 rfl rfl ?_
  refine v_iload dL_law_1498 rfl ?_
  refine v_iconst dL_law_1500 ⟨by decide, by decide⟩ ?_
  refine v_iadd dL_law_1501 b0_4 ?_
  refine v_sld dL_law_1502 rfl b0_5 b0_6 (fun _ => ?_)
  exact v_callV (j := M_X11_common) (As := [aI (h 1000 (x5 + 1)), aI (h 1000 (x5 + 2))]) (st := []) (E0 := [aR 72, aI (h 1000 (x5 + 1)), aI (h 1000 (x5 + 2))]) (a := 72) (ci := 9) (N := 11) (q9 := (RX11, TX11, 11)) dL_law_1503 ml_L_259 J_X11_common (Nat.zero_le _) (Nat.zero_le _) (Nat.le_of_ble_eq_true rfl) rfl (Nat.le_of_ble_eq_true rfl) (List.forall_mem_cons.mpr ⟨rfl, List.forall_mem_cons.mpr ⟨rfl, List.forall_mem_cons.mpr ⟨rfl, fun _ h9 => absurd h9 List.not_mem_nil⟩⟩⟩) (Nat.le_of_ble_eq_true rfl) rfl rfl rfl rfl pn_X11_common rfl k
theorem S_law_1506 {kc ks : Nat} {h : Hh} {Q : PQ} {X : PX} {x5 : Int} {x6 : Int} {xs0 : Int}
    (k : am_V M_X11_thrown 0 0 0 [aR 72] [] am_R0 h (fun v ρ' h' => am_V M_L_law kc ks 1512 [aR 1000, aR 0, aR 72, aR 81, aR 82, aI x5, aI x6, aI xs0, aU] (v ++ []) ρ' h' Q X) X) :
    am_V M_L_law kc ks 1506 [aR 1000, aR 0, aR 72, aR 81, aR 82, aI x5, aI x6, aU, aU] [aI xs0] am_R0 h Q X := by
  refine v_istore (E2 := [aR 1000, aR 0, aR 72, aR 81, aR 82, aI x5, aI x6, aI xs0, aU]) dL_law_1506 (Nat.le_of_ble_eq_true rfl) rfl ?_
  refine v_aload_n dL_law_1508 rfl rfl ?_
  exact v_callV (j := M_X11_thrown) (As := []) (st := []) (E0 := [aR 72]) (a := 72) (ci := 9) (N := 11) (q9 := (RX11, TX11, 11)) dL_law_1509 ml_L_195 J_X11_thrown (Nat.zero_le _) (Nat.zero_le _) (Nat.le_of_ble_eq_true rfl) rfl (Nat.le_of_ble_eq_true rfl) (List.forall_mem_cons.mpr ⟨rfl, fun _ h9 => absurd h9 List.not_mem_nil⟩) (Nat.le_of_ble_eq_true rfl) rfl rfl rfl rfl pn_X11_thrown rfl k
theorem S_law_1512 {kc ks : Nat} {h : Hh} {Q : PQ} {X : PX} {x5 : Int} {x6 : Int} {x7 : Int} {xs0 : Int}
    (k : ((xs0 = x6 → ((x6 ≠ 0 → ((-2147483648 ≤ ((x5 + 10) : Int) ∧ ((x5 + 10) : Int) < 2147483648)) ∧ am_V M_L_law kc ks 28 [aR 1000, aR 0, aR 72, aR 81, aR 82, aI (x5 + 10), aU, aU, aU] [] am_R0 h Q X) ∧ (x6 = 0 → ((0 : Int) ≤ 0 ∧ (0 : Int) < 1) ∧ (((if x7 < (h 81 0) then 1 else if (h 81 0) = x7 then 0 else -1) = 0 → ((-2147483648 ≤ ((x5 + 10) : Int) ∧ ((x5 + 10) : Int) < 2147483648)) ∧ am_V M_L_law kc ks 28 [aR 1000, aR 0, aR 72, aR 81, aR 82, aI (x5 + 10), aU, aU, aU] [] am_R0 h Q X) ∧ ((if x7 < (h 81 0) then 1 else if (h 81 0) = x7 then 0 else -1) ≠ 0 → Q [aI 0] am_R0 h))))) ∧ (xs0 ≠ x6 → Q [aI 0] am_R0 h))) :
    am_V M_L_law kc ks 1512 [aR 1000, aR 0, aR 72, aR 81, aR 82, aI x5, aI x6, aI x7, aU] [aI xs0] am_R0 h Q X := by
  refine v_iload dL_law_1512 rfl ?_
  refine v_icmp_eq (tgt := 1519) dL_law_1514 (by decide) (fun z => ?_) (fun z => ?_)
  · have k := k.1 z
    refine v_iload dL_law_1519 rfl ?_
    refine v_if_ne (tgt := 1536) dL_law_1521 (by decide) (fun z => ?_) (fun z => ?_)
    · have k := k.1 z
      obtain ⟨b2_1, k⟩ := k
      refine v_goto (tgt := 3556) dL_law_1536 (by decide) ?_
      refine v_iinc (E2 := [aR 1000, aR 0, aR 72, aR 81, aR 82, aI (x5 + 10), aI x6, aI x7, aU]) dL_law_3556 rfl b2_1 rfl ?_
      refine v_goto (tgt := 28) dL_law_3559 (by decide) ?_
      refine v_weak (E2 := [aR 1000, aR 0, aR 72, aR 81, aR 82, aI (x5 + 10), aU, aU, aU]) ⟨Or.inl rfl, ⟨Or.inl rfl, ⟨Or.inl rfl, ⟨Or.inl rfl, ⟨Or.inl rfl, ⟨Or.inl rfl, ⟨Or.inr rfl, ⟨Or.inr rfl, ⟨Or.inl rfl, trivial⟩⟩⟩⟩⟩⟩⟩⟩⟩ ?_
      exact k
    · have k := k.2 z
      obtain ⟨⟨b2_1, b2_2⟩, k⟩ := k
      refine v_aload_n dL_law_1524 rfl rfl ?_
      refine v_iconst dL_law_1525 ⟨by decide, by decide⟩ ?_
      refine v_lald dL_law_1526 rfl b2_1 b2_2 ?_
      refine v_iload dL_law_1527 rfl ?_
      refine v_i2l dL_law_1529 ?_
      refine v_lcmp dL_law_1530 ?_
      refine v_if_eq (tgt := 1536) dL_law_1531 (by decide) (fun z => ?_) (fun z => ?_)
      · have k := k.1 z
        obtain ⟨b3_1, k⟩ := k
        refine v_goto (tgt := 3556) dL_law_1536 (by decide) ?_
        refine v_iinc (E2 := [aR 1000, aR 0, aR 72, aR 81, aR 82, aI (x5 + 10), aI x6, aI x7, aU]) dL_law_3556 rfl b3_1 rfl ?_
        refine v_goto (tgt := 28) dL_law_3559 (by decide) ?_
        refine v_weak (E2 := [aR 1000, aR 0, aR 72, aR 81, aR 82, aI (x5 + 10), aU, aU, aU]) ⟨Or.inl rfl, ⟨Or.inl rfl, ⟨Or.inl rfl, ⟨Or.inl rfl, ⟨Or.inl rfl, ⟨Or.inl rfl, ⟨Or.inr rfl, ⟨Or.inr rfl, ⟨Or.inl rfl, trivial⟩⟩⟩⟩⟩⟩⟩⟩⟩ ?_
        exact k
      · have k := k.2 z
        refine v_iconst dL_law_1534 ⟨by decide, by decide⟩ ?_
        exact v_lawret dL_law_1535 rfl k
  · have k := k.2 z
    refine v_iconst dL_law_1517 ⟨by decide, by decide⟩ ?_
    exact v_lawret dL_law_1518 rfl k
theorem S_law_1539 {kc ks : Nat} {h : Hh} {Q : PQ} {X : PX} {x5 : Int}
    (k : ((-2147483648 ≤ ((x5 + 1) : Int) ∧ ((x5 + 1) : Int) < 2147483648) ∧ (0 : Int) ≤ (x5 + 1) ∧ ((x5 + 1) : Int) < h 1001 0 ∧ (-2147483648 ≤ ((x5 + 2) : Int) ∧ ((x5 + 2) : Int) < 2147483648) ∧ (0 : Int) ≤ (x5 + 2) ∧ ((x5 + 2) : Int) < h 1001 0 ∧ (-2147483648 ≤ ((x5 + 3) : Int) ∧ ((x5 + 3) : Int) < 2147483648) ∧ (0 : Int) ≤ (x5 + 3) ∧ ((x5 + 3) : Int) < h 1001 0 ∧ (-2147483648 ≤ ((x5 + 4) : Int) ∧ ((x5 + 4) : Int) < 2147483648) ∧ (0 : Int) ≤ (x5 + 4) ∧ ((x5 + 4) : Int) < h 1001 0 ∧ 4 ≤ kc ∧ 24 ≤ ks) ∧ am_V M_L_shared 4 24 0 [aR 0, aI (h 1000 (x5 + 1)), aI (h 1000 (x5 + 2)), aI (h 1000 (x5 + 3)), aI (h 1000 (x5 + 4)), aR 81, aU] [] am_R0 h (fun v ρ' h' => am_V M_L_law (kc - 4) (ks - 24) 1568 [aR 1000, aR 0, aR 72, aR 81, aR 82, aI x5, aU, aU, aU] (v ++ []) ρ' h' Q X) X) :
    am_V M_L_law kc ks 1539 [aR 1000, aR 0, aR 72, aR 81, aR 82, aI x5, aU, aU, aU] [] am_R0 h Q X := by
  obtain ⟨⟨b0_1, b0_2, b0_3, b0_4, b0_5, b0_6, b0_7, b0_8, b0_9, b0_10, b0_11, b0_12, b0_13, b0_14⟩, k⟩ := k
  refine v_aload_n dL_law_1539 rfl rfl ?_
  refine v_aload_n dL_law_1540 rfl rfl ?_
  refine v_iload dL_law_1541 rfl ?_
  refine v_iconst dL_law_1543 ⟨by decide, by decide⟩ ?_
  refine v_iadd dL_law_1544 b0_1 ?_
  refine v_sld dL_law_1545 rfl b0_2 b0_3 (fun _ => ?_)
  refine v_aload_n dL_law_1546 rfl rfl ?_
  refine v_iload dL_law_1547 rfl ?_
  refine v_iconst dL_law_1549 ⟨by decide, by decide⟩ ?_
  refine v_iadd dL_law_1550 b0_4 ?_
  refine v_sld dL_law_1551 rfl b0_5 b0_6 (fun _ => ?_)
  refine v_aload_n dL_law_1552 rfl rfl ?_
  refine v_iload dL_law_1553 rfl ?_
  refine v_iconst dL_law_1555 ⟨by decide, by decide⟩ ?_
  refine v_iadd dL_law_1556 b0_7 ?_
  refine v_sld dL_law_1557 rfl b0_8 b0_9 (fun _ => ?_)
  refine v_aload_n dL_law_1558 rfl rfl ?_
  refine v_iload dL_law_1559 rfl ?_
  refine v_iconst dL_law_1561 ⟨by decide, by decide⟩ ?_
  refine v_iadd dL_law_1562 b0_10 ?_
  refine v_sld dL_law_1563 rfl b0_11 b0_12 (fun _ => ?_)
  refine v_aload_n dL_law_1564 rfl rfl ?_
  exact v_callSX (j := M_L_shared) (As := [aR 0, aI (h 1000 (x5 + 1)), aI (h 1000 (x5 + 2)), aI (h 1000 (x5 + 3)), aI (h 1000 (x5 + 4)), aR 81]) (st := []) (E0 := [aR 0, aI (h 1000 (x5 + 1)), aI (h 1000 (x5 + 2)), aI (h 1000 (x5 + 3)), aI (h 1000 (x5 + 4)), aR 81, aU]) dL_law_1565 ms_L_260 J_L_shared b0_13 b0_14 (Nat.le_of_ble_eq_true rfl) rfl (Nat.le_of_ble_eq_true rfl) (List.forall_mem_cons.mpr ⟨rfl, List.forall_mem_cons.mpr ⟨rfl, List.forall_mem_cons.mpr ⟨rfl, List.forall_mem_cons.mpr ⟨rfl, List.forall_mem_cons.mpr ⟨rfl, List.forall_mem_cons.mpr ⟨rfl, fun _ h9 => absurd h9 List.not_mem_nil⟩⟩⟩⟩⟩⟩) (Nat.le_of_ble_eq_true rfl) rfl pn_L_shared rfl k
theorem S_law_1568 {kc ks : Nat} {h : Hh} {Q : PQ} {X : PX} {x5 : Int} {xs0 : Int}
    (k : ((-2147483648 ≤ ((x5 + 1) : Int) ∧ ((x5 + 1) : Int) < 2147483648) ∧ (0 : Int) ≤ (x5 + 1) ∧ ((x5 + 1) : Int) < h 1001 0 ∧ (-2147483648 ≤ ((x5 + 2) : Int) ∧ ((x5 + 2) : Int) < 2147483648) ∧ (0 : Int) ≤ (x5 + 2) ∧ ((x5 + 2) : Int) < h 1001 0 ∧ (-2147483648 ≤ ((x5 + 3) : Int) ∧ ((x5 + 3) : Int) < 2147483648) ∧ (0 : Int) ≤ (x5 + 3) ∧ ((x5 + 3) : Int) < h 1001 0 ∧ (-2147483648 ≤ ((x5 + 4) : Int) ∧ ((x5 + 4) : Int) < 2147483648) ∧ (0 : Int) ≤ (x5 + 4) ∧ ((x5 + 4) : Int) < h 1001 0) ∧ am_V M_X11_shared 0 0 0 [aR 72, aI (h 1000 (x5 + 1)), aI (h 1000 (x5 + 2)), aI (h 1000 (x5 + 3)), aI (h 1000 (x5 + 4))] [] am_R0 h (fun v ρ' h' => am_V M_L_law kc ks 1598 [aR 1000, aR 0, aR 72, aR 81, aR 82, aI x5, aI xs0, aU, aU] (v ++ []) ρ' h' Q X) X) :
    am_V M_L_law kc ks 1568 [aR 1000, aR 0, aR 72, aR 81, aR 82, aI x5, aU, aU, aU] [aI xs0] am_R0 h Q X := by
  obtain ⟨⟨b0_1, b0_2, b0_3, b0_4, b0_5, b0_6, b0_7, b0_8, b0_9, b0_10, b0_11, b0_12⟩, k⟩ := k
  refine v_istore (E2 := [aR 1000, aR 0, aR 72, aR 81, aR 82, aI x5, aI xs0, aU, aU]) dL_law_1568 (Nat.le_of_ble_eq_true rfl) rfl ?_
  refine v_aload_n dL_law_1570 rfl rfl ?_
  refine v_aload_n dL_law_1571 rfl rfl ?_
  refine v_iload dL_law_1572 rfl ?_
  refine v_iconst dL_law_1574 ⟨by decide, by decide⟩ ?_
  refine v_iadd dL_law_1575 b0_1 ?_
  refine v_sld dL_law_1576 rfl b0_2 b0_3 (fun _ => ?_)
  refine v_aload_n dL_law_1577 rfl rfl ?_
  refine v_iload dL_law_1578 rfl ?_
  refine v_iconst dL_law_1580 ⟨by decide, by decide⟩ ?_
  refine v_iadd dL_law_1581 b0_4 ?_
  refine v_sld dL_law_1582 rfl b0_5 b0_6 (fun _ => ?_)
  refine v_aload_n dL_law_1583 rfl rfl ?_
  refine v_iload dL_law_1584 rfl ?_
  refine v_iconst dL_law_1586 ⟨by decide, by decide⟩ ?_
  refine v_iadd dL_law_1587 b0_7 ?_
  refine v_sld dL_law_1588 rfl b0_8 b0_9 (fun _ => ?_)
  refine v_aload_n dL_law_1589 rfl rfl ?_
  refine v_iload dL_law_1590 rfl ?_
  refine v_iconst dL_law_1592 ⟨by decide, by decide⟩ ?_
  refine v_iadd dL_law_1593 b0_10 ?_
  refine v_sld dL_law_1594 rfl b0_11 b0_12 (fun _ => ?_)
  exact v_callV (j := M_X11_shared) (As := [aI (h 1000 (x5 + 1)), aI (h 1000 (x5 + 2)), aI (h 1000 (x5 + 3)), aI (h 1000 (x5 + 4))]) (st := []) (E0 := [aR 72, aI (h 1000 (x5 + 1)), aI (h 1000 (x5 + 2)), aI (h 1000 (x5 + 3)), aI (h 1000 (x5 + 4))]) (a := 72) (ci := 9) (N := 11) (q9 := (RX11, TX11, 11)) dL_law_1595 ml_L_263 J_X11_shared (Nat.zero_le _) (Nat.zero_le _) (Nat.le_of_ble_eq_true rfl) rfl (Nat.le_of_ble_eq_true rfl) (List.forall_mem_cons.mpr ⟨rfl, List.forall_mem_cons.mpr ⟨rfl, List.forall_mem_cons.mpr ⟨rfl, List.forall_mem_cons.mpr ⟨rfl, List.forall_mem_cons.mpr ⟨rfl, fun _ h9 => absurd h9 List.not_mem_nil⟩⟩⟩⟩⟩) (Nat.le_of_ble_eq_true rfl) rfl rfl rfl rfl pn_X11_shared rfl k
theorem S_law_1598 {kc ks : Nat} {h : Hh} {Q : PQ} {X : PX} {x5 : Int} {x6 : Int} {xs0 : Int}
    (k : am_V M_X11_thrown 0 0 0 [aR 72] [] am_R0 h (fun v ρ' h' => am_V M_L_law kc ks 1604 [aR 1000, aR 0, aR 72, aR 81, aR 82, aI x5, aI x6, aI xs0, aU] (v ++ []) ρ' h' Q X) X) :
    am_V M_L_law kc ks 1598 [aR 1000, aR 0, aR 72, aR 81, aR 82, aI x5, aI x6, aU, aU] [aI xs0] am_R0 h Q X := by
  refine v_istore (E2 := [aR 1000, aR 0, aR 72, aR 81, aR 82, aI x5, aI x6, aI xs0, aU]) dL_law_1598 (Nat.le_of_ble_eq_true rfl) rfl ?_
  refine v_aload_n dL_law_1600 rfl rfl ?_
  exact v_callV (j := M_X11_thrown) (As := []) (st := []) (E0 := [aR 72]) (a := 72) (ci := 9) (N := 11) (q9 := (RX11, TX11, 11)) dL_law_1601 ml_L_195 J_X11_thrown (Nat.zero_le _) (Nat.zero_le _) (Nat.le_of_ble_eq_true rfl) rfl (Nat.le_of_ble_eq_true rfl) (List.forall_mem_cons.mpr ⟨rfl, fun _ h9 => absurd h9 List.not_mem_nil⟩) (Nat.le_of_ble_eq_true rfl) rfl rfl rfl rfl pn_X11_thrown rfl k
theorem S_law_1604 {kc ks : Nat} {h : Hh} {Q : PQ} {X : PX} {x5 : Int} {x6 : Int} {x7 : Int} {xs0 : Int}
    (k : ((xs0 = x6 → ((x6 ≠ 0 → ((-2147483648 ≤ ((x5 + 10) : Int) ∧ ((x5 + 10) : Int) < 2147483648)) ∧ am_V M_L_law kc ks 28 [aR 1000, aR 0, aR 72, aR 81, aR 82, aI (x5 + 10), aU, aU, aU] [] am_R0 h Q X) ∧ (x6 = 0 → ((0 : Int) ≤ 0 ∧ (0 : Int) < 1) ∧ (((if x7 < (h 81 0) then 1 else if (h 81 0) = x7 then 0 else -1) = 0 → ((-2147483648 ≤ ((x5 + 10) : Int) ∧ ((x5 + 10) : Int) < 2147483648)) ∧ am_V M_L_law kc ks 28 [aR 1000, aR 0, aR 72, aR 81, aR 82, aI (x5 + 10), aU, aU, aU] [] am_R0 h Q X) ∧ ((if x7 < (h 81 0) then 1 else if (h 81 0) = x7 then 0 else -1) ≠ 0 → Q [aI 0] am_R0 h))))) ∧ (xs0 ≠ x6 → Q [aI 0] am_R0 h))) :
    am_V M_L_law kc ks 1604 [aR 1000, aR 0, aR 72, aR 81, aR 82, aI x5, aI x6, aI x7, aU] [aI xs0] am_R0 h Q X := by
  refine v_iload dL_law_1604 rfl ?_
  refine v_icmp_eq (tgt := 1611) dL_law_1606 (by decide) (fun z => ?_) (fun z => ?_)
  · have k := k.1 z
    refine v_iload dL_law_1611 rfl ?_
    refine v_if_ne (tgt := 1628) dL_law_1613 (by decide) (fun z => ?_) (fun z => ?_)
    · have k := k.1 z
      obtain ⟨b2_1, k⟩ := k
      refine v_goto (tgt := 3556) dL_law_1628 (by decide) ?_
      refine v_iinc (E2 := [aR 1000, aR 0, aR 72, aR 81, aR 82, aI (x5 + 10), aI x6, aI x7, aU]) dL_law_3556 rfl b2_1 rfl ?_
      refine v_goto (tgt := 28) dL_law_3559 (by decide) ?_
      refine v_weak (E2 := [aR 1000, aR 0, aR 72, aR 81, aR 82, aI (x5 + 10), aU, aU, aU]) ⟨Or.inl rfl, ⟨Or.inl rfl, ⟨Or.inl rfl, ⟨Or.inl rfl, ⟨Or.inl rfl, ⟨Or.inl rfl, ⟨Or.inr rfl, ⟨Or.inr rfl, ⟨Or.inl rfl, trivial⟩⟩⟩⟩⟩⟩⟩⟩⟩ ?_
      exact k
    · have k := k.2 z
      obtain ⟨⟨b2_1, b2_2⟩, k⟩ := k
      refine v_aload_n dL_law_1616 rfl rfl ?_
      refine v_iconst dL_law_1617 ⟨by decide, by decide⟩ ?_
      refine v_lald dL_law_1618 rfl b2_1 b2_2 ?_
      refine v_iload dL_law_1619 rfl ?_
      refine v_i2l dL_law_1621 ?_
      refine v_lcmp dL_law_1622 ?_
      refine v_if_eq (tgt := 1628) dL_law_1623 (by decide) (fun z => ?_) (fun z => ?_)
      · have k := k.1 z
        obtain ⟨b3_1, k⟩ := k
        refine v_goto (tgt := 3556) dL_law_1628 (by decide) ?_
        refine v_iinc (E2 := [aR 1000, aR 0, aR 72, aR 81, aR 82, aI (x5 + 10), aI x6, aI x7, aU]) dL_law_3556 rfl b3_1 rfl ?_
        refine v_goto (tgt := 28) dL_law_3559 (by decide) ?_
        refine v_weak (E2 := [aR 1000, aR 0, aR 72, aR 81, aR 82, aI (x5 + 10), aU, aU, aU]) ⟨Or.inl rfl, ⟨Or.inl rfl, ⟨Or.inl rfl, ⟨Or.inl rfl, ⟨Or.inl rfl, ⟨Or.inl rfl, ⟨Or.inr rfl, ⟨Or.inr rfl, ⟨Or.inl rfl, trivial⟩⟩⟩⟩⟩⟩⟩⟩⟩ ?_
        exact k
      · have k := k.2 z
        refine v_iconst dL_law_1626 ⟨by decide, by decide⟩ ?_
        exact v_lawret dL_law_1627 rfl k
  · have k := k.2 z
    refine v_iconst dL_law_1609 ⟨by decide, by decide⟩ ?_
    exact v_lawret dL_law_1610 rfl k
theorem S_law_1631 {kc ks : Nat} {h : Hh} {Q : PQ} {X : PX} {x5 : Int}
    (k : ((-2147483648 ≤ ((x5 + 1) : Int) ∧ ((x5 + 1) : Int) < 2147483648) ∧ (0 : Int) ≤ (x5 + 1) ∧ ((x5 + 1) : Int) < h 1001 0 ∧ 2 ≤ kc ∧ 12 ≤ ks) ∧ am_V M_L_count 2 12 0 [aR 0, aI (h 1000 (x5 + 1)), aR 81, aU] [] am_R0 h (fun v ρ' h' => am_V M_L_law (kc - 2) (ks - 12) 1642 [aR 1000, aR 0, aR 72, aR 81, aR 82, aI x5, aU, aU, aU] (v ++ []) ρ' h' Q X) X) :
    am_V M_L_law kc ks 1631 [aR 1000, aR 0, aR 72, aR 81, aR 82, aI x5, aU, aU, aU] [] am_R0 h Q X := by
  obtain ⟨⟨b0_1, b0_2, b0_3, b0_4, b0_5⟩, k⟩ := k
  refine v_aload_n dL_law_1631 rfl rfl ?_
  refine v_aload_n dL_law_1632 rfl rfl ?_
  refine v_iload dL_law_1633 rfl ?_
  refine v_iconst dL_law_1635 ⟨by decide, by decide⟩ ?_
  refine v_iadd dL_law_1636 b0_1 ?_
  refine v_sld dL_law_1637 rfl b0_2 b0_3 (fun _ => ?_)
  refine v_aload_n dL_law_1638 rfl rfl ?_
  exact v_callSX (j := M_L_count) (As := [aR 0, aI (h 1000 (x5 + 1)), aR 81]) (st := []) (E0 := [aR 0, aI (h 1000 (x5 + 1)), aR 81, aU]) dL_law_1639 ms_L_264 J_L_count b0_4 b0_5 (Nat.le_of_ble_eq_true rfl) rfl (Nat.le_of_ble_eq_true rfl) (List.forall_mem_cons.mpr ⟨rfl, List.forall_mem_cons.mpr ⟨rfl, List.forall_mem_cons.mpr ⟨rfl, fun _ h9 => absurd h9 List.not_mem_nil⟩⟩⟩) (Nat.le_of_ble_eq_true rfl) rfl pn_L_count rfl k
theorem S_law_1642 {kc ks : Nat} {h : Hh} {Q : PQ} {X : PX} {x5 : Int} {xs0 : Int}
    (k : ((-2147483648 ≤ ((x5 + 1) : Int) ∧ ((x5 + 1) : Int) < 2147483648) ∧ (0 : Int) ≤ (x5 + 1) ∧ ((x5 + 1) : Int) < h 1001 0) ∧ am_V M_X11_count 0 0 0 [aR 72, aI (h 1000 (x5 + 1))] [] am_R0 h (fun v ρ' h' => am_V M_L_law kc ks 1654 [aR 1000, aR 0, aR 72, aR 81, aR 82, aI x5, aI xs0, aU, aU] (v ++ []) ρ' h' Q X) X) :
    am_V M_L_law kc ks 1642 [aR 1000, aR 0, aR 72, aR 81, aR 82, aI x5, aU, aU, aU] [aI xs0] am_R0 h Q X := by
  obtain ⟨⟨b0_1, b0_2, b0_3⟩, k⟩ := k
  refine v_istore (E2 := [aR 1000, aR 0, aR 72, aR 81, aR 82, aI x5, aI xs0, aU, aU]) dL_law_1642 (Nat.le_of_ble_eq_true rfl) rfl ?_
  refine v_aload_n dL_law_1644 rfl rfl ?_
  refine v_aload_n dL_law_1645 rfl rfl ?_
  refine v_iload dL_law_1646 rfl ?_
  refine v_iconst dL_law_1648 ⟨by decide, by decide⟩ ?_
  refine v_iadd dL_law_1649 b0_1 ?_
  refine v_sld dL_law_1650 rfl b0_2 b0_3 (fun _ => ?_)
  exact v_callV (j := M_X11_count) (As := [aI (h 1000 (x5 + 1))]) (st := []) (E0 := [aR 72, aI (h 1000 (x5 + 1))]) (a := 72) (ci := 9) (N := 11) (q9 := (RX11, TX11, 11)) dL_law_1651 ml_L_266 J_X11_count (Nat.zero_le _) (Nat.zero_le _) (Nat.le_of_ble_eq_true rfl) rfl (Nat.le_of_ble_eq_true rfl) (List.forall_mem_cons.mpr ⟨rfl, List.forall_mem_cons.mpr ⟨rfl, fun _ h9 => absurd h9 List.not_mem_nil⟩⟩) (Nat.le_of_ble_eq_true rfl) rfl rfl rfl rfl pn_X11_count rfl k
theorem S_law_1654 {kc ks : Nat} {h : Hh} {Q : PQ} {X : PX} {x5 : Int} {x6 : Int} {xs0 : Int}
    (k : am_V M_X11_thrown 0 0 0 [aR 72] [] am_R0 h (fun v ρ' h' => am_V M_L_law kc ks 1660 [aR 1000, aR 0, aR 72, aR 81, aR 82, aI x5, aI x6, aI xs0, aU] (v ++ []) ρ' h' Q X) X) :
    am_V M_L_law kc ks 1654 [aR 1000, aR 0, aR 72, aR 81, aR 82, aI x5, aI x6, aU, aU] [aI xs0] am_R0 h Q X := by
  refine v_istore (E2 := [aR 1000, aR 0, aR 72, aR 81, aR 82, aI x5, aI x6, aI xs0, aU]) dL_law_1654 (Nat.le_of_ble_eq_true rfl) rfl ?_
  refine v_aload_n dL_law_1656 rfl rfl ?_
  exact v_callV (j := M_X11_thrown) (As := []) (st := []) (E0 := [aR 72]) (a := 72) (ci := 9) (N := 11) (q9 := (RX11, TX11, 11)) dL_law_1657 ml_L_195 J_X11_thrown (Nat.zero_le _) (Nat.zero_le _) (Nat.le_of_ble_eq_true rfl) rfl (Nat.le_of_ble_eq_true rfl) (List.forall_mem_cons.mpr ⟨rfl, fun _ h9 => absurd h9 List.not_mem_nil⟩) (Nat.le_of_ble_eq_true rfl) rfl rfl rfl rfl pn_X11_thrown rfl k
theorem S_law_1660 {kc ks : Nat} {h : Hh} {Q : PQ} {X : PX} {x5 : Int} {x6 : Int} {x7 : Int} {xs0 : Int}
    (k : ((xs0 = x6 → ((x6 ≠ 0 → ((-2147483648 ≤ ((x5 + 10) : Int) ∧ ((x5 + 10) : Int) < 2147483648)) ∧ am_V M_L_law kc ks 28 [aR 1000, aR 0, aR 72, aR 81, aR 82, aI (x5 + 10), aU, aU, aU] [] am_R0 h Q X) ∧ (x6 = 0 → ((0 : Int) ≤ 0 ∧ (0 : Int) < 1) ∧ (((if x7 < (h 81 0) then 1 else if (h 81 0) = x7 then 0 else -1) = 0 → ((-2147483648 ≤ ((x5 + 10) : Int) ∧ ((x5 + 10) : Int) < 2147483648)) ∧ am_V M_L_law kc ks 28 [aR 1000, aR 0, aR 72, aR 81, aR 82, aI (x5 + 10), aU, aU, aU] [] am_R0 h Q X) ∧ ((if x7 < (h 81 0) then 1 else if (h 81 0) = x7 then 0 else -1) ≠ 0 → Q [aI 0] am_R0 h))))) ∧ (xs0 ≠ x6 → Q [aI 0] am_R0 h))) :
    am_V M_L_law kc ks 1660 [aR 1000, aR 0, aR 72, aR 81, aR 82, aI x5, aI x6, aI x7, aU] [aI xs0] am_R0 h Q X := by
  refine v_iload dL_law_1660 rfl ?_
  refine v_icmp_eq (tgt := 1667) dL_law_1662 (by decide) (fun z => ?_) (fun z => ?_)
  · have k := k.1 z
    refine v_iload dL_law_1667 rfl ?_
    refine v_if_ne (tgt := 1684) dL_law_1669 (by decide) (fun z => ?_) (fun z => ?_)
    · have k := k.1 z
      obtain ⟨b2_1, k⟩ := k
      refine v_goto (tgt := 3556) dL_law_1684 (by decide) ?_
      refine v_iinc (E2 := [aR 1000, aR 0, aR 72, aR 81, aR 82, aI (x5 + 10), aI x6, aI x7, aU]) dL_law_3556 rfl b2_1 rfl ?_
      refine v_goto (tgt := 28) dL_law_3559 (by decide) ?_
      refine v_weak (E2 := [aR 1000, aR 0, aR 72, aR 81, aR 82, aI (x5 + 10), aU, aU, aU]) ⟨Or.inl rfl, ⟨Or.inl rfl, ⟨Or.inl rfl, ⟨Or.inl rfl, ⟨Or.inl rfl, ⟨Or.inl rfl, ⟨Or.inr rfl, ⟨Or.inr rfl, ⟨Or.inl rfl, trivial⟩⟩⟩⟩⟩⟩⟩⟩⟩ ?_
      exact k
    · have k := k.2 z
      obtain ⟨⟨b2_1, b2_2⟩, k⟩ := k
      refine v_aload_n dL_law_1672 rfl rfl ?_
      refine v_iconst dL_law_1673 ⟨by decide, by decide⟩ ?_
      refine v_lald dL_law_1674 rfl b2_1 b2_2 ?_
      refine v_iload dL_law_1675 rfl ?_
      refine v_i2l dL_law_1677 ?_
      refine v_lcmp dL_law_1678 ?_
      refine v_if_eq (tgt := 1684) dL_law_1679 (by decide) (fun z => ?_) (fun z => ?_)
      · have k := k.1 z
        obtain ⟨b3_1, k⟩ := k
        refine v_goto (tgt := 3556) dL_law_1684 (by decide) ?_
        refine v_iinc (E2 := [aR 1000, aR 0, aR 72, aR 81, aR 82, aI (x5 + 10), aI x6, aI x7, aU]) dL_law_3556 rfl b3_1 rfl ?_
        refine v_goto (tgt := 28) dL_law_3559 (by decide) ?_
        refine v_weak (E2 := [aR 1000, aR 0, aR 72, aR 81, aR 82, aI (x5 + 10), aU, aU, aU]) ⟨Or.inl rfl, ⟨Or.inl rfl, ⟨Or.inl rfl, ⟨Or.inl rfl, ⟨Or.inl rfl, ⟨Or.inl rfl, ⟨Or.inr rfl, ⟨Or.inr rfl, ⟨Or.inl rfl, trivial⟩⟩⟩⟩⟩⟩⟩⟩⟩ ?_
        exact k
      · have k := k.2 z
        refine v_iconst dL_law_1682 ⟨by decide, by decide⟩ ?_
        exact v_lawret dL_law_1683 rfl k
  · have k := k.2 z
    refine v_iconst dL_law_1665 ⟨by decide, by decide⟩ ?_
    exact v_lawret dL_law_1666 rfl k
theorem S_law_1687 {kc ks : Nat} {h : Hh} {Q : PQ} {X : PX} {x5 : Int}
    (k : ((-2147483648 ≤ ((x5 + 1) : Int) ∧ ((x5 + 1) : Int) < 2147483648) ∧ (0 : Int) ≤ (x5 + 1) ∧ ((x5 + 1) : Int) < h 1001 0 ∧ 3 ≤ kc ∧ 18 ≤ ks) ∧ am_V M_L_runFrom 3 18 0 [aR 0, aI (h 1000 (x5 + 1)), aR 81, aU] [] am_R0 h (fun v ρ' h' => am_V M_L_law (kc - 3) (ks - 18) 1698 [aR 1000, aR 0, aR 72, aR 81, aR 82, aI x5, aU, aU, aU] (v ++ []) ρ' h' Q X) X) :
    am_V M_L_law kc ks 1687 [aR 1000, aR 0, aR 72, aR 81, aR 82, aI x5, aU, aU, aU] [] am_R0 h Q X := by
  obtain ⟨⟨b0_1, b0_2, b0_3, b0_4, b0_5⟩, k⟩ := k
  refine v_aload_n dL_law_1687 rfl rfl ?_
  refine v_aload_n dL_law_1688 rfl rfl ?_
  refine v_iload dL_law_1689 rfl ?_
  refine v_iconst dL_law_1691 ⟨by decide, by decide⟩ ?_
  refine v_iadd dL_law_1692 b0_1 ?_
  refine v_sld dL_law_1693 rfl b0_2 b0_3 (fun _ => ?_)
  refine v_aload_n dL_law_1694 rfl rfl ?_
  exact v_callSX (j := M_L_runFrom) (As := [aR 0, aI (h 1000 (x5 + 1)), aR 81]) (st := []) (E0 := [aR 0, aI (h 1000 (x5 + 1)), aR 81, aU]) dL_law_1695 ms_L_267 J_L_runFrom b0_4 b0_5 (Nat.le_of_ble_eq_true rfl) rfl (Nat.le_of_ble_eq_true rfl) (List.forall_mem_cons.mpr ⟨rfl, List.forall_mem_cons.mpr ⟨rfl, List.forall_mem_cons.mpr ⟨rfl, fun _ h9 => absurd h9 List.not_mem_nil⟩⟩⟩) (Nat.le_of_ble_eq_true rfl) rfl pn_L_runFrom rfl k
theorem S_law_1698 {kc ks : Nat} {h : Hh} {Q : PQ} {X : PX} {x5 : Int} {xs0 : Int}
    (k : ((-2147483648 ≤ ((x5 + 1) : Int) ∧ ((x5 + 1) : Int) < 2147483648) ∧ (0 : Int) ≤ (x5 + 1) ∧ ((x5 + 1) : Int) < h 1001 0) ∧ am_V M_X11_runFrom 0 0 0 [aR 72, aI (h 1000 (x5 + 1)), aU, aU] [] am_R0 h (fun v ρ' h' => am_V M_L_law kc ks 1710 [aR 1000, aR 0, aR 72, aR 81, aR 82, aI x5, aI xs0, aU, aU] (v ++ []) ρ' h' Q X) X) :
    am_V M_L_law kc ks 1698 [aR 1000, aR 0, aR 72, aR 81, aR 82, aI x5, aU, aU, aU] [aI xs0] am_R0 h Q X := by
  obtain ⟨⟨b0_1, b0_2, b0_3⟩, k⟩ := k
  refine v_istore (E2 := [aR 1000, aR 0, aR 72, aR 81, aR 82, aI x5, aI xs0, aU, aU]) dL_law_1698 (Nat.le_of_ble_eq_true rfl) rfl ?_
  refine v_aload_n dL_law_1700 rfl rfl ?_
  refine v_aload_n dL_law_1701 rfl rfl ?_
  refine v_iload dL_law_1702 rfl ?_
  refine v_iconst dL_law_1704 ⟨by decide, by decide⟩ ?_
  refine v_iadd dL_law_1705 b0_1 ?_
  refine v_sld dL_law_1706 rfl b0_2 b0_3 (fun _ => ?_)
  exact v_callV (j := M_X11_runFrom) (As := [aI (h 1000 (x5 + 1))]) (st := []) (E0 := [aR 72, aI (h 1000 (x5 + 1)), aU, aU]) (a := 72) (ci := 9) (N := 11) (q9 := (RX11, TX11, 11)) dL_law_1707 ml_L_269 J_X11_runFrom (Nat.zero_le _) (Nat.zero_le _) (Nat.le_of_ble_eq_true rfl) rfl (Nat.le_of_ble_eq_true rfl) (List.forall_mem_cons.mpr ⟨rfl, List.forall_mem_cons.mpr ⟨rfl, fun _ h9 => absurd h9 List.not_mem_nil⟩⟩) (Nat.le_of_ble_eq_true rfl) rfl rfl rfl rfl pn_X11_runFrom rfl k
theorem S_law_1710 {kc ks : Nat} {h : Hh} {Q : PQ} {X : PX} {x5 : Int} {x6 : Int} {xs0 : Int}
    (k : am_V M_X11_thrown 0 0 0 [aR 72] [] am_R0 h (fun v ρ' h' => am_V M_L_law kc ks 1716 [aR 1000, aR 0, aR 72, aR 81, aR 82, aI x5, aI x6, aI xs0, aU] (v ++ []) ρ' h' Q X) X) :
    am_V M_L_law kc ks 1710 [aR 1000, aR 0, aR 72, aR 81, aR 82, aI x5, aI x6, aU, aU] [aI xs0] am_R0 h Q X := by
  refine v_istore (E2 := [aR 1000, aR 0, aR 72, aR 81, aR 82, aI x5, aI x6, aI xs0, aU]) dL_law_1710 (Nat.le_of_ble_eq_true rfl) rfl ?_
  refine v_aload_n dL_law_1712 rfl rfl ?_
  exact v_callV (j := M_X11_thrown) (As := []) (st := []) (E0 := [aR 72]) (a := 72) (ci := 9) (N := 11) (q9 := (RX11, TX11, 11)) dL_law_1713 ml_L_195 J_X11_thrown (Nat.zero_le _) (Nat.zero_le _) (Nat.le_of_ble_eq_true rfl) rfl (Nat.le_of_ble_eq_true rfl) (List.forall_mem_cons.mpr ⟨rfl, fun _ h9 => absurd h9 List.not_mem_nil⟩) (Nat.le_of_ble_eq_true rfl) rfl rfl rfl rfl pn_X11_thrown rfl k
theorem S_law_1716 {kc ks : Nat} {h : Hh} {Q : PQ} {X : PX} {x5 : Int} {x6 : Int} {x7 : Int} {xs0 : Int}
    (k : ((xs0 = x6 → ((x6 ≠ 0 → ((-2147483648 ≤ ((x5 + 10) : Int) ∧ ((x5 + 10) : Int) < 2147483648)) ∧ am_V M_L_law kc ks 28 [aR 1000, aR 0, aR 72, aR 81, aR 82, aI (x5 + 10), aU, aU, aU] [] am_R0 h Q X) ∧ (x6 = 0 → ((0 : Int) ≤ 0 ∧ (0 : Int) < 1) ∧ (((if x7 < (h 81 0) then 1 else if (h 81 0) = x7 then 0 else -1) = 0 → ((-2147483648 ≤ ((x5 + 10) : Int) ∧ ((x5 + 10) : Int) < 2147483648)) ∧ am_V M_L_law kc ks 28 [aR 1000, aR 0, aR 72, aR 81, aR 82, aI (x5 + 10), aU, aU, aU] [] am_R0 h Q X) ∧ ((if x7 < (h 81 0) then 1 else if (h 81 0) = x7 then 0 else -1) ≠ 0 → Q [aI 0] am_R0 h))))) ∧ (xs0 ≠ x6 → Q [aI 0] am_R0 h))) :
    am_V M_L_law kc ks 1716 [aR 1000, aR 0, aR 72, aR 81, aR 82, aI x5, aI x6, aI x7, aU] [aI xs0] am_R0 h Q X := by
  refine v_iload dL_law_1716 rfl ?_
  refine v_icmp_eq (tgt := 1723) dL_law_1718 (by decide) (fun z => ?_) (fun z => ?_)
  · have k := k.1 z
    refine v_iload dL_law_1723 rfl ?_
    refine v_if_ne (tgt := 1740) dL_law_1725 (by decide) (fun z => ?_) (fun z => ?_)
    · have k := k.1 z
      obtain ⟨b2_1, k⟩ := k
      refine v_goto (tgt := 3556) dL_law_1740 (by decide) ?_
      refine v_iinc (E2 := [aR 1000, aR 0, aR 72, aR 81, aR 82, aI (x5 + 10), aI x6, aI x7, aU]) dL_law_3556 rfl b2_1 rfl ?_
      refine v_goto (tgt := 28) dL_law_3559 (by decide) ?_
      refine v_weak (E2 := [aR 1000, aR 0, aR 72, aR 81, aR 82, aI (x5 + 10), aU, aU, aU]) ⟨Or.inl rfl, ⟨Or.inl rfl, ⟨Or.inl rfl, ⟨Or.inl rfl, ⟨Or.inl rfl, ⟨Or.inl rfl, ⟨Or.inr rfl, ⟨Or.inr rfl, ⟨Or.inl rfl, trivial⟩⟩⟩⟩⟩⟩⟩⟩⟩ ?_
      exact k
    · have k := k.2 z
      obtain ⟨⟨b2_1, b2_2⟩, k⟩ := k
      refine v_aload_n dL_law_1728 rfl rfl ?_
      refine v_iconst dL_law_1729 ⟨by decide, by decide⟩ ?_
      refine v_lald dL_law_1730 rfl b2_1 b2_2 ?_
      refine v_iload dL_law_1731 rfl ?_
      refine v_i2l dL_law_1733 ?_
      refine v_lcmp dL_law_1734 ?_
      refine v_if_eq (tgt := 1740) dL_law_1735 (by decide) (fun z => ?_) (fun z => ?_)
      · have k := k.1 z
        obtain ⟨b3_1, k⟩ := k
        refine v_goto (tgt := 3556) dL_law_1740 (by decide) ?_
        refine v_iinc (E2 := [aR 1000, aR 0, aR 72, aR 81, aR 82, aI (x5 + 10), aI x6, aI x7, aU]) dL_law_3556 rfl b3_1 rfl ?_
        refine v_goto (tgt := 28) dL_law_3559 (by decide) ?_
        refine v_weak (E2 := [aR 1000, aR 0, aR 72, aR 81, aR 82, aI (x5 + 10), aU, aU, aU]) ⟨Or.inl rfl, ⟨Or.inl rfl, ⟨Or.inl rfl, ⟨Or.inl rfl, ⟨Or.inl rfl, ⟨Or.inl rfl, ⟨Or.inr rfl, ⟨Or.inr rfl, ⟨Or.inl rfl, trivial⟩⟩⟩⟩⟩⟩⟩⟩⟩ ?_
        exact k
      · have k := k.2 z
        refine v_iconst dL_law_1738 ⟨by decide, by decide⟩ ?_
        exact v_lawret dL_law_1739 rfl k
  · have k := k.2 z
    refine v_iconst dL_law_1721 ⟨by decide, by decide⟩ ?_
    exact v_lawret dL_law_1722 rfl k
theorem S_law_1743 {kc ks : Nat} {h : Hh} {Q : PQ} {X : PX} {x5 : Int}
    (k : ((-2147483648 ≤ ((x5 + 1) : Int) ∧ ((x5 + 1) : Int) < 2147483648) ∧ (0 : Int) ≤ (x5 + 1) ∧ ((x5 + 1) : Int) < h 1001 0 ∧ (-2147483648 ≤ ((x5 + 2) : Int) ∧ ((x5 + 2) : Int) < 2147483648) ∧ (0 : Int) ≤ (x5 + 2) ∧ ((x5 + 2) : Int) < h 1001 0 ∧ 3 ≤ kc ∧ 18 ≤ ks) ∧ am_V M_L_standsAt 3 18 0 [aR 0, aI (h 1000 (x5 + 1)), aI (h 1000 (x5 + 2)), aR 81, aU] [] am_R0 h (fun v ρ' h' => am_V M_L_law (kc - 3) (ks - 18) 1760 [aR 1000, aR 0, aR 72, aR 81, aR 82, aI x5, aU, aU, aU] (v ++ []) ρ' h' Q X) X) :
    am_V M_L_law kc ks 1743 [aR 1000, aR 0, aR 72, aR 81, aR 82, aI x5, aU, aU, aU] [] am_R0 h Q X := by
  obtain ⟨⟨b0_1, b0_2, b0_3, b0_4, b0_5, b0_6, b0_7, b0_8⟩, k⟩ := k
  refine v_aload_n dL_law_1743 rfl rfl ?_
  refine v_aload_n dL_law_1744 rfl rfl ?_
  refine v_iload dL_law_1745 rfl ?_
  refine v_iconst dL_law_1747 ⟨by decide, by decide⟩ ?_
  refine v_iadd dL_law_1748 b0_1 ?_
  refine v_sld dL_law_1749 rfl b0_2 b0_3 (fun _ => ?_)
  refine v_aload_n dL_law_1750 rfl rfl ?_
  refine v_iload dL_law_1751 rfl ?_
  refine v_iconst dL_law_1753 ⟨by decide, by decide⟩ ?_
  refine v_iadd dL_law_1754 b0_4 ?_
  refine v_sld dL_law_1755 rfl b0_5 b0_6 (fun _ => ?_)
  refine v_aload_n dL_law_1756 rfl rfl ?_
  exact v_callSX (j := M_L_standsAt) (As := [aR 0, aI (h 1000 (x5 + 1)), aI (h 1000 (x5 + 2)), aR 81]) (st := []) (E0 := [aR 0, aI (h 1000 (x5 + 1)), aI (h 1000 (x5 + 2)), aR 81, aU]) dL_law_1757 ms_L_270 J_L_standsAt b0_7 b0_8 (Nat.le_of_ble_eq_true rfl) rfl (Nat.le_of_ble_eq_true rfl) (List.forall_mem_cons.mpr ⟨rfl, List.forall_mem_cons.mpr ⟨rfl, List.forall_mem_cons.mpr ⟨rfl, List.forall_mem_cons.mpr ⟨rfl, fun _ h9 => absurd h9 List.not_mem_nil⟩⟩⟩⟩) (Nat.le_of_ble_eq_true rfl) rfl pn_L_standsAt rfl k
theorem S_law_1760 {kc ks : Nat} {h : Hh} {Q : PQ} {X : PX} {x5 : Int} {xs0 : Int}
    (k : ((-2147483648 ≤ ((x5 + 1) : Int) ∧ ((x5 + 1) : Int) < 2147483648) ∧ (0 : Int) ≤ (x5 + 1) ∧ ((x5 + 1) : Int) < h 1001 0 ∧ (-2147483648 ≤ ((x5 + 2) : Int) ∧ ((x5 + 2) : Int) < 2147483648) ∧ (0 : Int) ≤ (x5 + 2) ∧ ((x5 + 2) : Int) < h 1001 0) ∧ am_V M_X11_standsAt 0 0 0 [aR 72, aI (h 1000 (x5 + 1)), aI (h 1000 (x5 + 2)), aU, aU] [] am_R0 h (fun v ρ' h' => am_V M_L_law kc ks 1778 [aR 1000, aR 0, aR 72, aR 81, aR 82, aI x5, aI xs0, aU, aU] (v ++ []) ρ' h' Q X) X) :
    am_V M_L_law kc ks 1760 [aR 1000, aR 0, aR 72, aR 81, aR 82, aI x5, aU, aU, aU] [aI xs0] am_R0 h Q X := by
  obtain ⟨⟨b0_1, b0_2, b0_3, b0_4, b0_5, b0_6⟩, k⟩ := k
  refine v_istore (E2 := [aR 1000, aR 0, aR 72, aR 81, aR 82, aI x5, aI xs0, aU, aU]) dL_law_1760 (Nat.le_of_ble_eq_true rfl) rfl ?_
  refine v_aload_n dL_law_1762 rfl rfl ?_
  refine v_aload_n dL_law_1763 rfl rfl ?_
  refine v_iload dL_law_1764 rfl ?_
  refine v_iconst dL_law_1766 ⟨by decide, by decide⟩ ?_
  refine v_iadd dL_law_1767 b0_1 ?_
  refine v_sld dL_law_1768 rfl b0_2 b0_3 (fun _ => ?_)
  refine v_aload_n dL_law_1769 rfl rfl ?_
  refine v_iload dL_law_1770 rfl ?_
  refine v_iconst dL_law_1772 ⟨by decide, by decide⟩ ?_
  refine v_iadd dL_law_1773 b0_4 ?_
  refine v_sld dL_law_1774 rfl b0_5 b0_6 (fun _ => ?_)
  exact v_callV (j := M_X11_standsAt) (As := [aI (h 1000 (x5 + 1)), aI (h 1000 (x5 + 2))]) (st := []) (E0 := [aR 72, aI (h 1000 (x5 + 1)), aI (h 1000 (x5 + 2)), aU, aU]) (a := 72) (ci := 9) (N := 11) (q9 := (RX11, TX11, 11)) dL_law_1775 ml_L_272 J_X11_standsAt (Nat.zero_le _) (Nat.zero_le _) (Nat.le_of_ble_eq_true rfl) rfl (Nat.le_of_ble_eq_true rfl) (List.forall_mem_cons.mpr ⟨rfl, List.forall_mem_cons.mpr ⟨rfl, List.forall_mem_cons.mpr ⟨rfl, fun _ h9 => absurd h9 List.not_mem_nil⟩⟩⟩) (Nat.le_of_ble_eq_true rfl) rfl rfl rfl rfl pn_X11_standsAt rfl k
theorem S_law_1778 {kc ks : Nat} {h : Hh} {Q : PQ} {X : PX} {x5 : Int} {x6 : Int} {xs0 : Int}
    (k : am_V M_X11_thrown 0 0 0 [aR 72] [] am_R0 h (fun v ρ' h' => am_V M_L_law kc ks 1784 [aR 1000, aR 0, aR 72, aR 81, aR 82, aI x5, aI x6, aI xs0, aU] (v ++ []) ρ' h' Q X) X) :
    am_V M_L_law kc ks 1778 [aR 1000, aR 0, aR 72, aR 81, aR 82, aI x5, aI x6, aU, aU] [aI xs0] am_R0 h Q X := by
  refine v_istore (E2 := [aR 1000, aR 0, aR 72, aR 81, aR 82, aI x5, aI x6, aI xs0, aU]) dL_law_1778 (Nat.le_of_ble_eq_true rfl) rfl ?_
  refine v_aload_n dL_law_1780 rfl rfl ?_
  exact v_callV (j := M_X11_thrown) (As := []) (st := []) (E0 := [aR 72]) (a := 72) (ci := 9) (N := 11) (q9 := (RX11, TX11, 11)) dL_law_1781 ml_L_195 J_X11_thrown (Nat.zero_le _) (Nat.zero_le _) (Nat.le_of_ble_eq_true rfl) rfl (Nat.le_of_ble_eq_true rfl) (List.forall_mem_cons.mpr ⟨rfl, fun _ h9 => absurd h9 List.not_mem_nil⟩) (Nat.le_of_ble_eq_true rfl) rfl rfl rfl rfl pn_X11_thrown rfl k
theorem S_law_1784 {kc ks : Nat} {h : Hh} {Q : PQ} {X : PX} {x5 : Int} {x6 : Int} {x7 : Int} {xs0 : Int}
    (k : ((xs0 = x6 → ((x6 ≠ 0 → ((-2147483648 ≤ ((x5 + 10) : Int) ∧ ((x5 + 10) : Int) < 2147483648)) ∧ am_V M_L_law kc ks 28 [aR 1000, aR 0, aR 72, aR 81, aR 82, aI (x5 + 10), aU, aU, aU] [] am_R0 h Q X) ∧ (x6 = 0 → ((0 : Int) ≤ 0 ∧ (0 : Int) < 1) ∧ (((if x7 < (h 81 0) then 1 else if (h 81 0) = x7 then 0 else -1) = 0 → ((-2147483648 ≤ ((x5 + 10) : Int) ∧ ((x5 + 10) : Int) < 2147483648)) ∧ am_V M_L_law kc ks 28 [aR 1000, aR 0, aR 72, aR 81, aR 82, aI (x5 + 10), aU, aU, aU] [] am_R0 h Q X) ∧ ((if x7 < (h 81 0) then 1 else if (h 81 0) = x7 then 0 else -1) ≠ 0 → Q [aI 0] am_R0 h))))) ∧ (xs0 ≠ x6 → Q [aI 0] am_R0 h))) :
    am_V M_L_law kc ks 1784 [aR 1000, aR 0, aR 72, aR 81, aR 82, aI x5, aI x6, aI x7, aU] [aI xs0] am_R0 h Q X := by
  refine v_iload dL_law_1784 rfl ?_
  refine v_icmp_eq (tgt := 1791) dL_law_1786 (by decide) (fun z => ?_) (fun z => ?_)
  · have k := k.1 z
    refine v_iload dL_law_1791 rfl ?_
    refine v_if_ne (tgt := 1808) dL_law_1793 (by decide) (fun z => ?_) (fun z => ?_)
    · have k := k.1 z
      obtain ⟨b2_1, k⟩ := k
      refine v_goto (tgt := 3556) dL_law_1808 (by decide) ?_
      refine v_iinc (E2 := [aR 1000, aR 0, aR 72, aR 81, aR 82, aI (x5 + 10), aI x6, aI x7, aU]) dL_law_3556 rfl b2_1 rfl ?_
      refine v_goto (tgt := 28) dL_law_3559 (by decide) ?_
      refine v_weak (E2 := [aR 1000, aR 0, aR 72, aR 81, aR 82, aI (x5 + 10), aU, aU, aU]) ⟨Or.inl rfl, ⟨Or.inl rfl, ⟨Or.inl rfl, ⟨Or.inl rfl, ⟨Or.inl rfl, ⟨Or.inl rfl, ⟨Or.inr rfl, ⟨Or.inr rfl, ⟨Or.inl rfl, trivial⟩⟩⟩⟩⟩⟩⟩⟩⟩ ?_
      exact k
    · have k := k.2 z
      obtain ⟨⟨b2_1, b2_2⟩, k⟩ := k
      refine v_aload_n dL_law_1796 rfl rfl ?_
      refine v_iconst dL_law_1797 ⟨by decide, by decide⟩ ?_
      refine v_lald dL_law_1798 rfl b2_1 b2_2 ?_
      refine v_iload dL_law_1799 rfl ?_
      refine v_i2l dL_law_1801 ?_
      refine v_lcmp dL_law_1802 ?_
      refine v_if_eq (tgt := 1808) dL_law_1803 (by decide) (fun z => ?_) (fun z => ?_)
      · have k := k.1 z
        obtain ⟨b3_1, k⟩ := k
        refine v_goto (tgt := 3556) dL_law_1808 (by decide) ?_
        refine v_iinc (E2 := [aR 1000, aR 0, aR 72, aR 81, aR 82, aI (x5 + 10), aI x6, aI x7, aU]) dL_law_3556 rfl b3_1 rfl ?_
        refine v_goto (tgt := 28) dL_law_3559 (by decide) ?_
        refine v_weak (E2 := [aR 1000, aR 0, aR 72, aR 81, aR 82, aI (x5 + 10), aU, aU, aU]) ⟨Or.inl rfl, ⟨Or.inl rfl, ⟨Or.inl rfl, ⟨Or.inl rfl, ⟨Or.inl rfl, ⟨Or.inl rfl, ⟨Or.inr rfl, ⟨Or.inr rfl, ⟨Or.inl rfl, trivial⟩⟩⟩⟩⟩⟩⟩⟩⟩ ?_
        exact k
      · have k := k.2 z
        refine v_iconst dL_law_1806 ⟨by decide, by decide⟩ ?_
        exact v_lawret dL_law_1807 rfl k
  · have k := k.2 z
    refine v_iconst dL_law_1789 ⟨by decide, by decide⟩ ?_
    exact v_lawret dL_law_1790 rfl k
theorem S_law_1811 {kc ks : Nat} {h : Hh} {Q : PQ} {X : PX} {x5 : Int}
    (k : ((-2147483648 ≤ ((x5 + 1) : Int) ∧ ((x5 + 1) : Int) < 2147483648) ∧ (0 : Int) ≤ (x5 + 1) ∧ ((x5 + 1) : Int) < h 1001 0 ∧ (-2147483648 ≤ ((x5 + 2) : Int) ∧ ((x5 + 2) : Int) < 2147483648) ∧ (0 : Int) ≤ (x5 + 2) ∧ ((x5 + 2) : Int) < h 1001 0 ∧ 3 ≤ kc ∧ 18 ≤ ks) ∧ am_V M_L_tail 3 18 0 [aR 0, aI (h 1000 (x5 + 1)), aI (h 1000 (x5 + 2)), aR 81, aU] [] am_R0 h (fun v ρ' h' => am_V M_L_law (kc - 3) (ks - 18) 1828 [aR 1000, aR 0, aR 72, aR 81, aR 82, aI x5, aU, aU, aU] (v ++ []) ρ' h' Q X) X) :
    am_V M_L_law kc ks 1811 [aR 1000, aR 0, aR 72, aR 81, aR 82, aI x5, aU, aU, aU] [] am_R0 h Q X := by
  obtain ⟨⟨b0_1, b0_2, b0_3, b0_4, b0_5, b0_6, b0_7, b0_8⟩, k⟩ := k
  refine v_aload_n dL_law_1811 rfl rfl ?_
  refine v_aload_n dL_law_1812 rfl rfl ?_
  refine v_iload dL_law_1813 rfl ?_
  refine v_iconst dL_law_1815 ⟨by decide, by decide⟩ ?_
  refine v_iadd dL_law_1816 b0_1 ?_
  refine v_sld dL_law_1817 rfl b0_2 b0_3 (fun _ => ?_)
  refine v_aload_n dL_law_1818 rfl rfl ?_
  refine v_iload dL_law_1819 rfl ?_
  refine v_iconst dL_law_1821 ⟨by decide, by decide⟩ ?_
  refine v_iadd dL_law_1822 b0_4 ?_
  refine v_sld dL_law_1823 rfl b0_5 b0_6 (fun _ => ?_)
  refine v_aload_n dL_law_1824 rfl rfl ?_
  exact v_callSX (j := M_L_tail) (As := [aR 0, aI (h 1000 (x5 + 1)), aI (h 1000 (x5 + 2)), aR 81]) (st := []) (E0 := [aR 0, aI (h 1000 (x5 + 1)), aI (h 1000 (x5 + 2)), aR 81, aU]) dL_law_1825 ms_L_273 J_L_tail b0_7 b0_8 (Nat.le_of_ble_eq_true rfl) rfl (Nat.le_of_ble_eq_true rfl) (List.forall_mem_cons.mpr ⟨rfl, List.forall_mem_cons.mpr ⟨rfl, List.forall_mem_cons.mpr ⟨rfl, List.forall_mem_cons.mpr ⟨rfl, fun _ h9 => absurd h9 List.not_mem_nil⟩⟩⟩⟩) (Nat.le_of_ble_eq_true rfl) rfl pn_L_tail rfl k
theorem S_law_1828 {kc ks : Nat} {h : Hh} {Q : PQ} {X : PX} {x5 : Int} {xs0 : Int}
    (k : ((-2147483648 ≤ ((x5 + 1) : Int) ∧ ((x5 + 1) : Int) < 2147483648) ∧ (0 : Int) ≤ (x5 + 1) ∧ ((x5 + 1) : Int) < h 1001 0 ∧ (-2147483648 ≤ ((x5 + 2) : Int) ∧ ((x5 + 2) : Int) < 2147483648) ∧ (0 : Int) ≤ (x5 + 2) ∧ ((x5 + 2) : Int) < h 1001 0) ∧ am_V M_X11_tail 0 0 0 [aR 72, aI (h 1000 (x5 + 1)), aI (h 1000 (x5 + 2))] [] am_R0 h (fun v ρ' h' => am_V M_L_law kc ks 1846 [aR 1000, aR 0, aR 72, aR 81, aR 82, aI x5, aI xs0, aU, aU] (v ++ []) ρ' h' Q X) X) :
    am_V M_L_law kc ks 1828 [aR 1000, aR 0, aR 72, aR 81, aR 82, aI x5, aU, aU, aU] [aI xs0] am_R0 h Q X := by
  obtain ⟨⟨b0_1, b0_2, b0_3, b0_4, b0_5, b0_6⟩, k⟩ := k
  refine v_istore (E2 := [aR 1000, aR 0, aR 72, aR 81, aR 82, aI x5, aI xs0, aU, aU]) dL_law_1828 (Nat.le_of_ble_eq_true rfl) rfl ?_
  refine v_aload_n dL_law_1830 rfl rfl ?_
  refine v_aload_n dL_law_1831 rfl rfl ?_
  refine v_iload dL_law_1832 rfl ?_
  refine v_iconst dL_law_1834 ⟨by decide, by decide⟩ ?_
  refine v_iadd dL_law_1835 b0_1 ?_
  refine v_sld dL_law_1836 rfl b0_2 b0_3 (fun _ => ?_)
  refine v_aload_n dL_law_1837 rfl rfl ?_
  refine v_iload dL_law_1838 rfl ?_
  refine v_iconst dL_law_1840 ⟨by decide, by decide⟩ ?_
  refine v_iadd dL_law_1841 b0_4 ?_
  refine v_sld dL_law_1842 rfl b0_5 b0_6 (fun _ => ?_)
  exact v_callV (j := M_X11_tail) (As := [aI (h 1000 (x5 + 1)), aI (h 1000 (x5 + 2))]) (st := []) (E0 := [aR 72, aI (h 1000 (x5 + 1)), aI (h 1000 (x5 + 2))]) (a := 72) (ci := 9) (N := 11) (q9 := (RX11, TX11, 11)) dL_law_1843 ml_L_275 J_X11_tail (Nat.zero_le _) (Nat.zero_le _) (Nat.le_of_ble_eq_true rfl) rfl (Nat.le_of_ble_eq_true rfl) (List.forall_mem_cons.mpr ⟨rfl, List.forall_mem_cons.mpr ⟨rfl, List.forall_mem_cons.mpr ⟨rfl, fun _ h9 => absurd h9 List.not_mem_nil⟩⟩⟩) (Nat.le_of_ble_eq_true rfl) rfl rfl rfl rfl pn_X11_tail rfl k
theorem S_law_1846 {kc ks : Nat} {h : Hh} {Q : PQ} {X : PX} {x5 : Int} {x6 : Int} {xs0 : Int}
    (k : am_V M_X11_thrown 0 0 0 [aR 72] [] am_R0 h (fun v ρ' h' => am_V M_L_law kc ks 1852 [aR 1000, aR 0, aR 72, aR 81, aR 82, aI x5, aI x6, aI xs0, aU] (v ++ []) ρ' h' Q X) X) :
    am_V M_L_law kc ks 1846 [aR 1000, aR 0, aR 72, aR 81, aR 82, aI x5, aI x6, aU, aU] [aI xs0] am_R0 h Q X := by
  refine v_istore (E2 := [aR 1000, aR 0, aR 72, aR 81, aR 82, aI x5, aI x6, aI xs0, aU]) dL_law_1846 (Nat.le_of_ble_eq_true rfl) rfl ?_
  refine v_aload_n dL_law_1848 rfl rfl ?_
  exact v_callV (j := M_X11_thrown) (As := []) (st := []) (E0 := [aR 72]) (a := 72) (ci := 9) (N := 11) (q9 := (RX11, TX11, 11)) dL_law_1849 ml_L_195 J_X11_thrown (Nat.zero_le _) (Nat.zero_le _) (Nat.le_of_ble_eq_true rfl) rfl (Nat.le_of_ble_eq_true rfl) (List.forall_mem_cons.mpr ⟨rfl, fun _ h9 => absurd h9 List.not_mem_nil⟩) (Nat.le_of_ble_eq_true rfl) rfl rfl rfl rfl pn_X11_thrown rfl k
theorem S_law_1852 {kc ks : Nat} {h : Hh} {Q : PQ} {X : PX} {x5 : Int} {x6 : Int} {x7 : Int} {xs0 : Int}
    (k : ((xs0 = x6 → ((x6 ≠ 0 → ((-2147483648 ≤ ((x5 + 10) : Int) ∧ ((x5 + 10) : Int) < 2147483648)) ∧ am_V M_L_law kc ks 28 [aR 1000, aR 0, aR 72, aR 81, aR 82, aI (x5 + 10), aU, aU, aU] [] am_R0 h Q X) ∧ (x6 = 0 → ((0 : Int) ≤ 0 ∧ (0 : Int) < 1) ∧ (((if x7 < (h 81 0) then 1 else if (h 81 0) = x7 then 0 else -1) = 0 → ((-2147483648 ≤ ((x5 + 10) : Int) ∧ ((x5 + 10) : Int) < 2147483648)) ∧ am_V M_L_law kc ks 28 [aR 1000, aR 0, aR 72, aR 81, aR 82, aI (x5 + 10), aU, aU, aU] [] am_R0 h Q X) ∧ ((if x7 < (h 81 0) then 1 else if (h 81 0) = x7 then 0 else -1) ≠ 0 → Q [aI 0] am_R0 h))))) ∧ (xs0 ≠ x6 → Q [aI 0] am_R0 h))) :
    am_V M_L_law kc ks 1852 [aR 1000, aR 0, aR 72, aR 81, aR 82, aI x5, aI x6, aI x7, aU] [aI xs0] am_R0 h Q X := by
  refine v_iload dL_law_1852 rfl ?_
  refine v_icmp_eq (tgt := 1859) dL_law_1854 (by decide) (fun z => ?_) (fun z => ?_)
  · have k := k.1 z
    refine v_iload dL_law_1859 rfl ?_
    refine v_if_ne (tgt := 1876) dL_law_1861 (by decide) (fun z => ?_) (fun z => ?_)
    · have k := k.1 z
      obtain ⟨b2_1, k⟩ := k
      refine v_goto (tgt := 3556) dL_law_1876 (by decide) ?_
      refine v_iinc (E2 := [aR 1000, aR 0, aR 72, aR 81, aR 82, aI (x5 + 10), aI x6, aI x7, aU]) dL_law_3556 rfl b2_1 rfl ?_
      refine v_goto (tgt := 28) dL_law_3559 (by decide) ?_
      refine v_weak (E2 := [aR 1000, aR 0, aR 72, aR 81, aR 82, aI (x5 + 10), aU, aU, aU]) ⟨Or.inl rfl, ⟨Or.inl rfl, ⟨Or.inl rfl, ⟨Or.inl rfl, ⟨Or.inl rfl, ⟨Or.inl rfl, ⟨Or.inr rfl, ⟨Or.inr rfl, ⟨Or.inl rfl, trivial⟩⟩⟩⟩⟩⟩⟩⟩⟩ ?_
      exact k
    · have k := k.2 z
      obtain ⟨⟨b2_1, b2_2⟩, k⟩ := k
      refine v_aload_n dL_law_1864 rfl rfl ?_
      refine v_iconst dL_law_1865 ⟨by decide, by decide⟩ ?_
      refine v_lald dL_law_1866 rfl b2_1 b2_2 ?_
      refine v_iload dL_law_1867 rfl ?_
      refine v_i2l dL_law_1869 ?_
      refine v_lcmp dL_law_1870 ?_
      refine v_if_eq (tgt := 1876) dL_law_1871 (by decide) (fun z => ?_) (fun z => ?_)
      · have k := k.1 z
        obtain ⟨b3_1, k⟩ := k
        refine v_goto (tgt := 3556) dL_law_1876 (by decide) ?_
        refine v_iinc (E2 := [aR 1000, aR 0, aR 72, aR 81, aR 82, aI (x5 + 10), aI x6, aI x7, aU]) dL_law_3556 rfl b3_1 rfl ?_
        refine v_goto (tgt := 28) dL_law_3559 (by decide) ?_
        refine v_weak (E2 := [aR 1000, aR 0, aR 72, aR 81, aR 82, aI (x5 + 10), aU, aU, aU]) ⟨Or.inl rfl, ⟨Or.inl rfl, ⟨Or.inl rfl, ⟨Or.inl rfl, ⟨Or.inl rfl, ⟨Or.inl rfl, ⟨Or.inr rfl, ⟨Or.inr rfl, ⟨Or.inl rfl, trivial⟩⟩⟩⟩⟩⟩⟩⟩⟩ ?_
        exact k
      · have k := k.2 z
        refine v_iconst dL_law_1874 ⟨by decide, by decide⟩ ?_
        exact v_lawret dL_law_1875 rfl k
  · have k := k.2 z
    refine v_iconst dL_law_1857 ⟨by decide, by decide⟩ ?_
    exact v_lawret dL_law_1858 rfl k
theorem S_law_1879 {kc ks : Nat} {h : Hh} {Q : PQ} {X : PX} {x5 : Int}
    (k : ((-2147483648 ≤ ((x5 + 1) : Int) ∧ ((x5 + 1) : Int) < 2147483648) ∧ (0 : Int) ≤ (x5 + 1) ∧ ((x5 + 1) : Int) < h 1001 0 ∧ 1 ≤ kc ∧ 6 ≤ ks) ∧ am_V M_L_words 1 6 0 [aR 0, aI (h 1000 (x5 + 1)), aR 81, aU] [] am_R0 h (fun v ρ' h' => am_V M_L_law (kc - 1) (ks - 6) 1890 [aR 1000, aR 0, aR 72, aR 81, aR 82, aI x5, aU, aU, aU] (v ++ []) ρ' h' Q X) X) :
    am_V M_L_law kc ks 1879 [aR 1000, aR 0, aR 72, aR 81, aR 82, aI x5, aU, aU, aU] [] am_R0 h Q X := by
  obtain ⟨⟨b0_1, b0_2, b0_3, b0_4, b0_5⟩, k⟩ := k
  refine v_aload_n dL_law_1879 rfl rfl ?_
  refine v_aload_n dL_law_1880 rfl rfl ?_
  refine v_iload dL_law_1881 rfl ?_
  refine v_iconst dL_law_1883 ⟨by decide, by decide⟩ ?_
  refine v_iadd dL_law_1884 b0_1 ?_
  refine v_sld dL_law_1885 rfl b0_2 b0_3 (fun _ => ?_)
  refine v_aload_n dL_law_1886 rfl rfl ?_
  exact v_callSX (j := M_L_words) (As := [aR 0, aI (h 1000 (x5 + 1)), aR 81]) (st := []) (E0 := [aR 0, aI (h 1000 (x5 + 1)), aR 81, aU]) dL_law_1887 ms_L_276 J_L_words b0_4 b0_5 (Nat.le_of_ble_eq_true rfl) rfl (Nat.le_of_ble_eq_true rfl) (List.forall_mem_cons.mpr ⟨rfl, List.forall_mem_cons.mpr ⟨rfl, List.forall_mem_cons.mpr ⟨rfl, fun _ h9 => absurd h9 List.not_mem_nil⟩⟩⟩) (Nat.le_of_ble_eq_true rfl) rfl pn_L_words rfl k
theorem S_law_1890 {kc ks : Nat} {h : Hh} {Q : PQ} {X : PX} {x5 : Int} {xs0 : Int}
    (k : ((-2147483648 ≤ ((x5 + 1) : Int) ∧ ((x5 + 1) : Int) < 2147483648) ∧ (0 : Int) ≤ (x5 + 1) ∧ ((x5 + 1) : Int) < h 1001 0) ∧ am_V M_X11_words 0 0 0 [aR 72, aI (h 1000 (x5 + 1))] [] am_R0 h (fun v ρ' h' => am_V M_L_law kc ks 1902 [aR 1000, aR 0, aR 72, aR 81, aR 82, aI x5, aI xs0, aU, aU] (v ++ []) ρ' h' Q X) X) :
    am_V M_L_law kc ks 1890 [aR 1000, aR 0, aR 72, aR 81, aR 82, aI x5, aU, aU, aU] [aI xs0] am_R0 h Q X := by
  obtain ⟨⟨b0_1, b0_2, b0_3⟩, k⟩ := k
  refine v_istore (E2 := [aR 1000, aR 0, aR 72, aR 81, aR 82, aI x5, aI xs0, aU, aU]) dL_law_1890 (Nat.le_of_ble_eq_true rfl) rfl ?_
  refine v_aload_n dL_law_1892 rfl rfl ?_
  refine v_aload_n dL_law_1893 rfl rfl ?_
  refine v_iload dL_law_1894 rfl ?_
  refine v_iconst dL_law_1896 ⟨by decide, by decide⟩ ?_
  refine v_iadd dL_law_1897 b0_1 ?_
  refine v_sld dL_law_1898 rfl b0_2 b0_3 (fun _ => ?_)
  exact v_callV (j := M_X11_words) (As := [aI (h 1000 (x5 + 1))]) (st := []) (E0 := [aR 72, aI (h 1000 (x5 + 1))]) (a := 72) (ci := 9) (N := 11) (q9 := (RX11, TX11, 11)) dL_law_1899 ml_L_278 J_X11_words (Nat.zero_le _) (Nat.zero_le _) (Nat.le_of_ble_eq_true rfl) rfl (Nat.le_of_ble_eq_true rfl) (List.forall_mem_cons.mpr ⟨rfl, List.forall_mem_cons.mpr ⟨rfl, fun _ h9 => absurd h9 List.not_mem_nil⟩⟩) (Nat.le_of_ble_eq_true rfl) rfl rfl rfl rfl pn_X11_words rfl k
theorem S_law_1902 {kc ks : Nat} {h : Hh} {Q : PQ} {X : PX} {x5 : Int} {x6 : Int} {xs0 : Int}
    (k : am_V M_X11_thrown 0 0 0 [aR 72] [] am_R0 h (fun v ρ' h' => am_V M_L_law kc ks 1908 [aR 1000, aR 0, aR 72, aR 81, aR 82, aI x5, aI x6, aL xs0, aU] (v ++ []) ρ' h' Q X) X) :
    am_V M_L_law kc ks 1902 [aR 1000, aR 0, aR 72, aR 81, aR 82, aI x5, aI x6, aU, aU] [aL xs0] am_R0 h Q X := by
  refine v_lstore (E2 := [aR 1000, aR 0, aR 72, aR 81, aR 82, aI x5, aI x6, aL xs0, aU]) dL_law_1902 (Nat.le_of_ble_eq_true rfl) rfl ?_
  refine v_aload_n dL_law_1904 rfl rfl ?_
  exact v_callV (j := M_X11_thrown) (As := []) (st := []) (E0 := [aR 72]) (a := 72) (ci := 9) (N := 11) (q9 := (RX11, TX11, 11)) dL_law_1905 ml_L_195 J_X11_thrown (Nat.zero_le _) (Nat.zero_le _) (Nat.le_of_ble_eq_true rfl) rfl (Nat.le_of_ble_eq_true rfl) (List.forall_mem_cons.mpr ⟨rfl, fun _ h9 => absurd h9 List.not_mem_nil⟩) (Nat.le_of_ble_eq_true rfl) rfl rfl rfl rfl pn_X11_thrown rfl k
theorem S_law_1908 {kc ks : Nat} {h : Hh} {Q : PQ} {X : PX} {x5 : Int} {x6 : Int} {x7 : Int} {xs0 : Int}
    (k : ((xs0 = x6 → ((x6 ≠ 0 → ((-2147483648 ≤ ((x5 + 10) : Int) ∧ ((x5 + 10) : Int) < 2147483648)) ∧ am_V M_L_law kc ks 28 [aR 1000, aR 0, aR 72, aR 81, aR 82, aI (x5 + 10), aU, aU, aU] [] am_R0 h Q X) ∧ (x6 = 0 → ((0 : Int) ≤ 0 ∧ (0 : Int) < 1) ∧ (((if x7 < (h 81 0) then 1 else if (h 81 0) = x7 then 0 else -1) = 0 → ((-2147483648 ≤ ((x5 + 10) : Int) ∧ ((x5 + 10) : Int) < 2147483648)) ∧ am_V M_L_law kc ks 28 [aR 1000, aR 0, aR 72, aR 81, aR 82, aI (x5 + 10), aU, aU, aU] [] am_R0 h Q X) ∧ ((if x7 < (h 81 0) then 1 else if (h 81 0) = x7 then 0 else -1) ≠ 0 → Q [aI 0] am_R0 h))))) ∧ (xs0 ≠ x6 → Q [aI 0] am_R0 h))) :
    am_V M_L_law kc ks 1908 [aR 1000, aR 0, aR 72, aR 81, aR 82, aI x5, aI x6, aL x7, aU] [aI xs0] am_R0 h Q X := by
  refine v_iload dL_law_1908 rfl ?_
  refine v_icmp_eq (tgt := 1915) dL_law_1910 (by decide) (fun z => ?_) (fun z => ?_)
  · have k := k.1 z
    refine v_iload dL_law_1915 rfl ?_
    refine v_if_ne (tgt := 1931) dL_law_1917 (by decide) (fun z => ?_) (fun z => ?_)
    · have k := k.1 z
      obtain ⟨b2_1, k⟩ := k
      refine v_goto (tgt := 3556) dL_law_1931 (by decide) ?_
      refine v_iinc (E2 := [aR 1000, aR 0, aR 72, aR 81, aR 82, aI (x5 + 10), aI x6, aL x7, aU]) dL_law_3556 rfl b2_1 rfl ?_
      refine v_goto (tgt := 28) dL_law_3559 (by decide) ?_
      refine v_weak (E2 := [aR 1000, aR 0, aR 72, aR 81, aR 82, aI (x5 + 10), aU, aU, aU]) ⟨Or.inl rfl, ⟨Or.inl rfl, ⟨Or.inl rfl, ⟨Or.inl rfl, ⟨Or.inl rfl, ⟨Or.inl rfl, ⟨Or.inr rfl, ⟨Or.inr rfl, ⟨Or.inl rfl, trivial⟩⟩⟩⟩⟩⟩⟩⟩⟩ ?_
      exact k
    · have k := k.2 z
      obtain ⟨⟨b2_1, b2_2⟩, k⟩ := k
      refine v_aload_n dL_law_1920 rfl rfl ?_
      refine v_iconst dL_law_1921 ⟨by decide, by decide⟩ ?_
      refine v_lald dL_law_1922 rfl b2_1 b2_2 ?_
      refine v_lload dL_law_1923 rfl ?_
      refine v_lcmp dL_law_1925 ?_
      refine v_if_eq (tgt := 1931) dL_law_1926 (by decide) (fun z => ?_) (fun z => ?_)
      · have k := k.1 z
        obtain ⟨b3_1, k⟩ := k
        refine v_goto (tgt := 3556) dL_law_1931 (by decide) ?_
        refine v_iinc (E2 := [aR 1000, aR 0, aR 72, aR 81, aR 82, aI (x5 + 10), aI x6, aL x7, aU]) dL_law_3556 rfl b3_1 rfl ?_
        refine v_goto (tgt := 28) dL_law_3559 (by decide) ?_
        refine v_weak (E2 := [aR 1000, aR 0, aR 72, aR 81, aR 82, aI (x5 + 10), aU, aU, aU]) ⟨Or.inl rfl, ⟨Or.inl rfl, ⟨Or.inl rfl, ⟨Or.inl rfl, ⟨Or.inl rfl, ⟨Or.inl rfl, ⟨Or.inr rfl, ⟨Or.inr rfl, ⟨Or.inl rfl, trivial⟩⟩⟩⟩⟩⟩⟩⟩⟩ ?_
        exact k
      · have k := k.2 z
        refine v_iconst dL_law_1929 ⟨by decide, by decide⟩ ?_
        exact v_lawret dL_law_1930 rfl k
  · have k := k.2 z
    refine v_iconst dL_law_1913 ⟨by decide, by decide⟩ ?_
    exact v_lawret dL_law_1914 rfl k
theorem S_law_1934 {kc ks : Nat} {h : Hh} {Q : PQ} {X : PX} {x5 : Int}
    (k : ((-2147483648 ≤ ((x5 + 1) : Int) ∧ ((x5 + 1) : Int) < 2147483648) ∧ (0 : Int) ≤ (x5 + 1) ∧ ((x5 + 1) : Int) < h 1001 0 ∧ (-2147483648 ≤ ((x5 + 2) : Int) ∧ ((x5 + 2) : Int) < 2147483648) ∧ (0 : Int) ≤ (x5 + 2) ∧ ((x5 + 2) : Int) < h 1001 0 ∧ 2 ≤ kc ∧ 12 ≤ ks) ∧ am_V M_L_word 2 12 0 [aR 0, aI (h 1000 (x5 + 1)), aI (h 1000 (x5 + 2)), aR 81, aU] [] am_R0 h (fun v ρ' h' => am_V M_L_law (kc - 2) (ks - 12) 1951 [aR 1000, aR 0, aR 72, aR 81, aR 82, aI x5, aU, aU, aU] (v ++ []) ρ' h' Q X) X) :
    am_V M_L_law kc ks 1934 [aR 1000, aR 0, aR 72, aR 81, aR 82, aI x5, aU, aU, aU] [] am_R0 h Q X := by
  obtain ⟨⟨b0_1, b0_2, b0_3, b0_4, b0_5, b0_6, b0_7, b0_8⟩, k⟩ := k
  refine v_aload_n dL_law_1934 rfl rfl ?_
  refine v_aload_n dL_law_1935 rfl rfl ?_
  refine v_iload dL_law_1936 rfl ?_
  refine v_iconst dL_law_1938 ⟨by decide, by decide⟩ ?_
  refine v_iadd dL_law_1939 b0_1 ?_
  refine v_sld dL_law_1940 rfl b0_2 b0_3 (fun _ => ?_)
  refine v_aload_n dL_law_1941 rfl rfl ?_
  refine v_iload dL_law_1942 rfl ?_
  refine v_iconst dL_law_1944 ⟨by decide, by decide⟩ ?_
  refine v_iadd dL_law_1945 b0_4 ?_
  refine v_sld dL_law_1946 rfl b0_5 b0_6 (fun _ => ?_)
  refine v_aload_n dL_law_1947 rfl rfl ?_
  exact v_callSX (j := M_L_word) (As := [aR 0, aI (h 1000 (x5 + 1)), aI (h 1000 (x5 + 2)), aR 81]) (st := []) (E0 := [aR 0, aI (h 1000 (x5 + 1)), aI (h 1000 (x5 + 2)), aR 81, aU]) dL_law_1948 ms_L_279 J_L_word b0_7 b0_8 (Nat.le_of_ble_eq_true rfl) rfl (Nat.le_of_ble_eq_true rfl) (List.forall_mem_cons.mpr ⟨rfl, List.forall_mem_cons.mpr ⟨rfl, List.forall_mem_cons.mpr ⟨rfl, List.forall_mem_cons.mpr ⟨rfl, fun _ h9 => absurd h9 List.not_mem_nil⟩⟩⟩⟩) (Nat.le_of_ble_eq_true rfl) rfl pn_L_word rfl k
theorem S_law_1951 {kc ks : Nat} {h : Hh} {Q : PQ} {X : PX} {x5 : Int} {xs0 : Int}
    (k : ((-2147483648 ≤ ((x5 + 1) : Int) ∧ ((x5 + 1) : Int) < 2147483648) ∧ (0 : Int) ≤ (x5 + 1) ∧ ((x5 + 1) : Int) < h 1001 0 ∧ (-2147483648 ≤ ((x5 + 2) : Int) ∧ ((x5 + 2) : Int) < 2147483648) ∧ (0 : Int) ≤ (x5 + 2) ∧ ((x5 + 2) : Int) < h 1001 0) ∧ am_V M_X11_word 0 0 0 [aR 72, aI (h 1000 (x5 + 1)), aI (h 1000 (x5 + 2)), aU, aU, aU, aU, aU] [] am_R0 h (fun v ρ' h' => am_V M_L_law kc ks 1969 [aR 1000, aR 0, aR 72, aR 81, aR 82, aI x5, aI xs0, aU, aU] (v ++ []) ρ' h' Q X) X) :
    am_V M_L_law kc ks 1951 [aR 1000, aR 0, aR 72, aR 81, aR 82, aI x5, aU, aU, aU] [aI xs0] am_R0 h Q X := by
  obtain ⟨⟨b0_1, b0_2, b0_3, b0_4, b0_5, b0_6⟩, k⟩ := k
  refine v_istore (E2 := [aR 1000, aR 0, aR 72, aR 81, aR 82, aI x5, aI xs0, aU, aU]) dL_law_1951 (Nat.le_of_ble_eq_true rfl) rfl ?_
  refine v_aload_n dL_law_1953 rfl rfl ?_
  refine v_aload_n dL_law_1954 rfl rfl ?_
  refine v_iload dL_law_1955 rfl ?_
  refine v_iconst dL_law_1957 ⟨by decide, by decide⟩ ?_
  refine v_iadd dL_law_1958 b0_1 ?_
  refine v_sld dL_law_1959 rfl b0_2 b0_3 (fun _ => ?_)
  refine v_aload_n dL_law_1960 rfl rfl ?_
  refine v_iload dL_law_1961 rfl ?_
  refine v_iconst dL_law_1963 ⟨by decide, by decide⟩ ?_
  refine v_iadd dL_law_1964 b0_4 ?_
  refine v_sld dL_law_1965 rfl b0_5 b0_6 (fun _ => ?_)
  exact v_callV (j := M_X11_word) (As := [aI (h 1000 (x5 + 1)), aI (h 1000 (x5 + 2))]) (st := []) (E0 := [aR 72, aI (h 1000 (x5 + 1)), aI (h 1000 (x5 + 2)), aU, aU, aU, aU, aU]) (a := 72) (ci := 9) (N := 11) (q9 := (RX11, TX11, 11)) dL_law_1966 ml_L_281 J_X11_word (Nat.zero_le _) (Nat.zero_le _) (Nat.le_of_ble_eq_true rfl) rfl (Nat.le_of_ble_eq_true rfl) (List.forall_mem_cons.mpr ⟨rfl, List.forall_mem_cons.mpr ⟨rfl, List.forall_mem_cons.mpr ⟨rfl, fun _ h9 => absurd h9 List.not_mem_nil⟩⟩⟩) (Nat.le_of_ble_eq_true rfl) rfl rfl rfl rfl pn_X11_word rfl k
theorem S_law_1969 {kc ks : Nat} {h : Hh} {Q : PQ} {X : PX} {x5 : Int} {x6 : Int} {xs0 : Int}
    (k : am_V M_X11_thrown 0 0 0 [aR 72] [] am_R0 h (fun v ρ' h' => am_V M_L_law kc ks 1975 [aR 1000, aR 0, aR 72, aR 81, aR 82, aI x5, aI x6, aI xs0, aU] (v ++ []) ρ' h' Q X) X) :
    am_V M_L_law kc ks 1969 [aR 1000, aR 0, aR 72, aR 81, aR 82, aI x5, aI x6, aU, aU] [aI xs0] am_R0 h Q X := by
  refine v_istore (E2 := [aR 1000, aR 0, aR 72, aR 81, aR 82, aI x5, aI x6, aI xs0, aU]) dL_law_1969 (Nat.le_of_ble_eq_true rfl) rfl ?_
  refine v_aload_n dL_law_1971 rfl rfl ?_
  exact v_callV (j := M_X11_thrown) (As := []) (st := []) (E0 := [aR 72]) (a := 72) (ci := 9) (N := 11) (q9 := (RX11, TX11, 11)) dL_law_1972 ml_L_195 J_X11_thrown (Nat.zero_le _) (Nat.zero_le _) (Nat.le_of_ble_eq_true rfl) rfl (Nat.le_of_ble_eq_true rfl) (List.forall_mem_cons.mpr ⟨rfl, fun _ h9 => absurd h9 List.not_mem_nil⟩) (Nat.le_of_ble_eq_true rfl) rfl rfl rfl rfl pn_X11_thrown rfl k
theorem S_law_1975 {kc ks : Nat} {h : Hh} {Q : PQ} {X : PX} {x5 : Int} {x6 : Int} {x7 : Int} {xs0 : Int}
    (k : ((xs0 = x6 → ((x6 ≠ 0 → ((-2147483648 ≤ ((x5 + 10) : Int) ∧ ((x5 + 10) : Int) < 2147483648)) ∧ am_V M_L_law kc ks 28 [aR 1000, aR 0, aR 72, aR 81, aR 82, aI (x5 + 10), aU, aU, aU] [] am_R0 h Q X) ∧ (x6 = 0 → ((0 : Int) ≤ 0 ∧ (0 : Int) < 1) ∧ (((if x7 < (h 81 0) then 1 else if (h 81 0) = x7 then 0 else -1) = 0 → ((-2147483648 ≤ ((x5 + 10) : Int) ∧ ((x5 + 10) : Int) < 2147483648)) ∧ am_V M_L_law kc ks 28 [aR 1000, aR 0, aR 72, aR 81, aR 82, aI (x5 + 10), aU, aU, aU] [] am_R0 h Q X) ∧ ((if x7 < (h 81 0) then 1 else if (h 81 0) = x7 then 0 else -1) ≠ 0 → Q [aI 0] am_R0 h))))) ∧ (xs0 ≠ x6 → Q [aI 0] am_R0 h))) :
    am_V M_L_law kc ks 1975 [aR 1000, aR 0, aR 72, aR 81, aR 82, aI x5, aI x6, aI x7, aU] [aI xs0] am_R0 h Q X := by
  refine v_iload dL_law_1975 rfl ?_
  refine v_icmp_eq (tgt := 1982) dL_law_1977 (by decide) (fun z => ?_) (fun z => ?_)
  · have k := k.1 z
    refine v_iload dL_law_1982 rfl ?_
    refine v_if_ne (tgt := 1999) dL_law_1984 (by decide) (fun z => ?_) (fun z => ?_)
    · have k := k.1 z
      obtain ⟨b2_1, k⟩ := k
      refine v_goto (tgt := 3556) dL_law_1999 (by decide) ?_
      refine v_iinc (E2 := [aR 1000, aR 0, aR 72, aR 81, aR 82, aI (x5 + 10), aI x6, aI x7, aU]) dL_law_3556 rfl b2_1 rfl ?_
      refine v_goto (tgt := 28) dL_law_3559 (by decide) ?_
      refine v_weak (E2 := [aR 1000, aR 0, aR 72, aR 81, aR 82, aI (x5 + 10), aU, aU, aU]) ⟨Or.inl rfl, ⟨Or.inl rfl, ⟨Or.inl rfl, ⟨Or.inl rfl, ⟨Or.inl rfl, ⟨Or.inl rfl, ⟨Or.inr rfl, ⟨Or.inr rfl, ⟨Or.inl rfl, trivial⟩⟩⟩⟩⟩⟩⟩⟩⟩ ?_
      exact k
    · have k := k.2 z
      obtain ⟨⟨b2_1, b2_2⟩, k⟩ := k
      refine v_aload_n dL_law_1987 rfl rfl ?_
      refine v_iconst dL_law_1988 ⟨by decide, by decide⟩ ?_
      refine v_lald dL_law_1989 rfl b2_1 b2_2 ?_
      refine v_iload dL_law_1990 rfl ?_
      refine v_i2l dL_law_1992 ?_
      refine v_lcmp dL_law_1993 ?_
      refine v_if_eq (tgt := 1999) dL_law_1994 (by decide) (fun z => ?_) (fun z => ?_)
      · have k := k.1 z
        obtain ⟨b3_1, k⟩ := k
        refine v_goto (tgt := 3556) dL_law_1999 (by decide) ?_
        refine v_iinc (E2 := [aR 1000, aR 0, aR 72, aR 81, aR 82, aI (x5 + 10), aI x6, aI x7, aU]) dL_law_3556 rfl b3_1 rfl ?_
        refine v_goto (tgt := 28) dL_law_3559 (by decide) ?_
        refine v_weak (E2 := [aR 1000, aR 0, aR 72, aR 81, aR 82, aI (x5 + 10), aU, aU, aU]) ⟨Or.inl rfl, ⟨Or.inl rfl, ⟨Or.inl rfl, ⟨Or.inl rfl, ⟨Or.inl rfl, ⟨Or.inl rfl, ⟨Or.inr rfl, ⟨Or.inr rfl, ⟨Or.inl rfl, trivial⟩⟩⟩⟩⟩⟩⟩⟩⟩ ?_
        exact k
      · have k := k.2 z
        refine v_iconst dL_law_1997 ⟨by decide, by decide⟩ ?_
        exact v_lawret dL_law_1998 rfl k
  · have k := k.2 z
    refine v_iconst dL_law_1980 ⟨by decide, by decide⟩ ?_
    exact v_lawret dL_law_1981 rfl k
theorem S_law_2002 {kc ks : Nat} {h : Hh} {Q : PQ} {X : PX} {x5 : Int}
    (k : ((-2147483648 ≤ ((x5 + 1) : Int) ∧ ((x5 + 1) : Int) < 2147483648) ∧ (0 : Int) ≤ (x5 + 1) ∧ ((x5 + 1) : Int) < h 1001 0 ∧ 3 ≤ kc ∧ 18 ≤ ks) ∧ am_V M_L_numberOf 3 18 0 [aR 0, aI (h 1000 (x5 + 1)), aR 81, aU] [] am_R0 h (fun v ρ' h' => am_V M_L_law (kc - 3) (ks - 18) 2013 [aR 1000, aR 0, aR 72, aR 81, aR 82, aI x5, aU, aU, aU] (v ++ []) ρ' h' Q X) X) :
    am_V M_L_law kc ks 2002 [aR 1000, aR 0, aR 72, aR 81, aR 82, aI x5, aU, aU, aU] [] am_R0 h Q X := by
  obtain ⟨⟨b0_1, b0_2, b0_3, b0_4, b0_5⟩, k⟩ := k
  refine v_aload_n dL_law_2002 rfl rfl ?_
  refine v_aload_n dL_law_2003 rfl rfl ?_
  refine v_iload dL_law_2004 rfl ?_
  refine v_iconst dL_law_2006 ⟨by decide, by decide⟩ ?_
  refine v_iadd dL_law_2007 b0_1 ?_
  refine v_sld dL_law_2008 rfl b0_2 b0_3 (fun _ => ?_)
  refine v_aload_n dL_law_2009 rfl rfl ?_
  exact v_callSX (j := M_L_numberOf) (As := [aR 0, aI (h 1000 (x5 + 1)), aR 81]) (st := []) (E0 := [aR 0, aI (h 1000 (x5 + 1)), aR 81, aU]) dL_law_2010 ms_L_282 J_L_numberOf b0_4 b0_5 (Nat.le_of_ble_eq_true rfl) rfl (Nat.le_of_ble_eq_true rfl) (List.forall_mem_cons.mpr ⟨rfl, List.forall_mem_cons.mpr ⟨rfl, List.forall_mem_cons.mpr ⟨rfl, fun _ h9 => absurd h9 List.not_mem_nil⟩⟩⟩) (Nat.le_of_ble_eq_true rfl) rfl pn_L_numberOf rfl k
theorem S_law_2013 {kc ks : Nat} {h : Hh} {Q : PQ} {X : PX} {x5 : Int} {xs0 : Int}
    (k : ((-2147483648 ≤ ((x5 + 1) : Int) ∧ ((x5 + 1) : Int) < 2147483648) ∧ (0 : Int) ≤ (x5 + 1) ∧ ((x5 + 1) : Int) < h 1001 0) ∧ am_V M_X11_numberOf 0 0 0 [aR 72, aI (h 1000 (x5 + 1)), aU, aU, aU] [] am_R0 h (fun v ρ' h' => am_V M_L_law kc ks 2025 [aR 1000, aR 0, aR 72, aR 81, aR 82, aI x5, aI xs0, aU, aU] (v ++ []) ρ' h' Q X) X) :
    am_V M_L_law kc ks 2013 [aR 1000, aR 0, aR 72, aR 81, aR 82, aI x5, aU, aU, aU] [aI xs0] am_R0 h Q X := by
  obtain ⟨⟨b0_1, b0_2, b0_3⟩, k⟩ := k
  refine v_istore (E2 := [aR 1000, aR 0, aR 72, aR 81, aR 82, aI x5, aI xs0, aU, aU]) dL_law_2013 (Nat.le_of_ble_eq_true rfl) rfl ?_
  refine v_aload_n dL_law_2015 rfl rfl ?_
  refine v_aload_n dL_law_2016 rfl rfl ?_
  refine v_iload dL_law_2017 rfl ?_
  refine v_iconst dL_law_2019 ⟨by decide, by decide⟩ ?_
  refine v_iadd dL_law_2020 b0_1 ?_
  refine v_sld dL_law_2021 rfl b0_2 b0_3 (fun _ => ?_)
  exact v_callV (j := M_X11_numberOf) (As := [aI (h 1000 (x5 + 1))]) (st := []) (E0 := [aR 72, aI (h 1000 (x5 + 1)), aU, aU, aU]) (a := 72) (ci := 9) (N := 11) (q9 := (RX11, TX11, 11)) dL_law_2022 ml_L_284 J_X11_numberOf (Nat.zero_le _) (Nat.zero_le _) (Nat.le_of_ble_eq_true rfl) rfl (Nat.le_of_ble_eq_true rfl) (List.forall_mem_cons.mpr ⟨rfl, List.forall_mem_cons.mpr ⟨rfl, fun _ h9 => absurd h9 List.not_mem_nil⟩⟩) (Nat.le_of_ble_eq_true rfl) rfl rfl rfl rfl pn_X11_numberOf rfl k
theorem S_law_2025 {kc ks : Nat} {h : Hh} {Q : PQ} {X : PX} {x5 : Int} {x6 : Int} {xs0 : Int}
    (k : am_V M_X11_thrown 0 0 0 [aR 72] [] am_R0 h (fun v ρ' h' => am_V M_L_law kc ks 2031 [aR 1000, aR 0, aR 72, aR 81, aR 82, aI x5, aI x6, aI xs0, aU] (v ++ []) ρ' h' Q X) X) :
    am_V M_L_law kc ks 2025 [aR 1000, aR 0, aR 72, aR 81, aR 82, aI x5, aI x6, aU, aU] [aI xs0] am_R0 h Q X := by
  refine v_istore (E2 := [aR 1000, aR 0, aR 72, aR 81, aR 82, aI x5, aI x6, aI xs0, aU]) dL_law_2025 (Nat.le_of_ble_eq_true rfl) rfl ?_
  refine v_aload_n dL_law_2027 rfl rfl ?_
  exact v_callV (j := M_X11_thrown) (As := []) (st := []) (E0 := [aR 72]) (a := 72) (ci := 9) (N := 11) (q9 := (RX11, TX11, 11)) dL_law_2028 ml_L_195 J_X11_thrown (Nat.zero_le _) (Nat.zero_le _) (Nat.le_of_ble_eq_true rfl) rfl (Nat.le_of_ble_eq_true rfl) (List.forall_mem_cons.mpr ⟨rfl, fun _ h9 => absurd h9 List.not_mem_nil⟩) (Nat.le_of_ble_eq_true rfl) rfl rfl rfl rfl pn_X11_thrown rfl k
theorem S_law_2031 {kc ks : Nat} {h : Hh} {Q : PQ} {X : PX} {x5 : Int} {x6 : Int} {x7 : Int} {xs0 : Int}
    (k : ((xs0 = x6 → ((x6 ≠ 0 → ((-2147483648 ≤ ((x5 + 10) : Int) ∧ ((x5 + 10) : Int) < 2147483648)) ∧ am_V M_L_law kc ks 28 [aR 1000, aR 0, aR 72, aR 81, aR 82, aI (x5 + 10), aU, aU, aU] [] am_R0 h Q X) ∧ (x6 = 0 → ((0 : Int) ≤ 0 ∧ (0 : Int) < 1) ∧ (((if x7 < (h 81 0) then 1 else if (h 81 0) = x7 then 0 else -1) = 0 → ((-2147483648 ≤ ((x5 + 10) : Int) ∧ ((x5 + 10) : Int) < 2147483648)) ∧ am_V M_L_law kc ks 28 [aR 1000, aR 0, aR 72, aR 81, aR 82, aI (x5 + 10), aU, aU, aU] [] am_R0 h Q X) ∧ ((if x7 < (h 81 0) then 1 else if (h 81 0) = x7 then 0 else -1) ≠ 0 → Q [aI 0] am_R0 h))))) ∧ (xs0 ≠ x6 → Q [aI 0] am_R0 h))) :
    am_V M_L_law kc ks 2031 [aR 1000, aR 0, aR 72, aR 81, aR 82, aI x5, aI x6, aI x7, aU] [aI xs0] am_R0 h Q X := by
  refine v_iload dL_law_2031 rfl ?_
  refine v_icmp_eq (tgt := 2038) dL_law_2033 (by decide) (fun z => ?_) (fun z => ?_)
  · have k := k.1 z
    refine v_iload dL_law_2038 rfl ?_
    refine v_if_ne (tgt := 2055) dL_law_2040 (by decide) (fun z => ?_) (fun z => ?_)
    · have k := k.1 z
      obtain ⟨b2_1, k⟩ := k
      refine v_goto (tgt := 3556) dL_law_2055 (by decide) ?_
      refine v_iinc (E2 := [aR 1000, aR 0, aR 72, aR 81, aR 82, aI (x5 + 10), aI x6, aI x7, aU]) dL_law_3556 rfl b2_1 rfl ?_
      refine v_goto (tgt := 28) dL_law_3559 (by decide) ?_
      refine v_weak (E2 := [aR 1000, aR 0, aR 72, aR 81, aR 82, aI (x5 + 10), aU, aU, aU]) ⟨Or.inl rfl, ⟨Or.inl rfl, ⟨Or.inl rfl, ⟨Or.inl rfl, ⟨Or.inl rfl, ⟨Or.inl rfl, ⟨Or.inr rfl, ⟨Or.inr rfl, ⟨Or.inl rfl, trivial⟩⟩⟩⟩⟩⟩⟩⟩⟩ ?_
      exact k
    · have k := k.2 z
      obtain ⟨⟨b2_1, b2_2⟩, k⟩ := k
      refine v_aload_n dL_law_2043 rfl rfl ?_
      refine v_iconst dL_law_2044 ⟨by decide, by decide⟩ ?_
      refine v_lald dL_law_2045 rfl b2_1 b2_2 ?_
      refine v_iload dL_law_2046 rfl ?_
      refine v_i2l dL_law_2048 ?_
      refine v_lcmp dL_law_2049 ?_
      refine v_if_eq (tgt := 2055) dL_law_2050 (by decide) (fun z => ?_) (fun z => ?_)
      · have k := k.1 z
        obtain ⟨b3_1, k⟩ := k
        refine v_goto (tgt := 3556) dL_law_2055 (by decide) ?_
        refine v_iinc (E2 := [aR 1000, aR 0, aR 72, aR 81, aR 82, aI (x5 + 10), aI x6, aI x7, aU]) dL_law_3556 rfl b3_1 rfl ?_
        refine v_goto (tgt := 28) dL_law_3559 (by decide) ?_
        refine v_weak (E2 := [aR 1000, aR 0, aR 72, aR 81, aR 82, aI (x5 + 10), aU, aU, aU]) ⟨Or.inl rfl, ⟨Or.inl rfl, ⟨Or.inl rfl, ⟨Or.inl rfl, ⟨Or.inl rfl, ⟨Or.inl rfl, ⟨Or.inr rfl, ⟨Or.inr rfl, ⟨Or.inl rfl, trivial⟩⟩⟩⟩⟩⟩⟩⟩⟩ ?_
        exact k
      · have k := k.2 z
        refine v_iconst dL_law_2053 ⟨by decide, by decide⟩ ?_
        exact v_lawret dL_law_2054 rfl k
  · have k := k.2 z
    refine v_iconst dL_law_2036 ⟨by decide, by decide⟩ ?_
    exact v_lawret dL_law_2037 rfl k
theorem S_law_2058 {kc ks : Nat} {h : Hh} {Q : PQ} {X : PX} {x5 : Int}
    (k : ((-2147483648 ≤ ((x5 + 1) : Int) ∧ ((x5 + 1) : Int) < 2147483648) ∧ (0 : Int) ≤ (x5 + 1) ∧ ((x5 + 1) : Int) < h 1001 0 ∧ 1 ≤ kc ∧ 6 ≤ ks) ∧ am_V M_L_twice 1 6 0 [aR 0, aI (h 1000 (x5 + 1)), aR 81, aU] [] am_R0 h (fun v ρ' h' => am_V M_L_law (kc - 1) (ks - 6) 2069 [aR 1000, aR 0, aR 72, aR 81, aR 82, aI x5, aU, aU, aU] (v ++ []) ρ' h' Q X) X) :
    am_V M_L_law kc ks 2058 [aR 1000, aR 0, aR 72, aR 81, aR 82, aI x5, aU, aU, aU] [] am_R0 h Q X := by
  obtain ⟨⟨b0_1, b0_2, b0_3, b0_4, b0_5⟩, k⟩ := k
  refine v_aload_n dL_law_2058 rfl rfl ?_
  refine v_aload_n dL_law_2059 rfl rfl ?_
  refine v_iload dL_law_2060 rfl ?_
  refine v_iconst dL_law_2062 ⟨by decide, by decide⟩ ?_
  refine v_iadd dL_law_2063 b0_1 ?_
  refine v_sld dL_law_2064 rfl b0_2 b0_3 (fun _ => ?_)
  refine v_aload_n dL_law_2065 rfl rfl ?_
  exact v_callSX (j := M_L_twice) (As := [aR 0, aI (h 1000 (x5 + 1)), aR 81]) (st := []) (E0 := [aR 0, aI (h 1000 (x5 + 1)), aR 81, aU]) dL_law_2066 ms_L_285 J_L_twice b0_4 b0_5 (Nat.le_of_ble_eq_true rfl) rfl (Nat.le_of_ble_eq_true rfl) (List.forall_mem_cons.mpr ⟨rfl, List.forall_mem_cons.mpr ⟨rfl, List.forall_mem_cons.mpr ⟨rfl, fun _ h9 => absurd h9 List.not_mem_nil⟩⟩⟩) (Nat.le_of_ble_eq_true rfl) rfl pn_L_twice rfl k
theorem S_law_2069 {kc ks : Nat} {h : Hh} {Q : PQ} {X : PX} {x5 : Int} {xs0 : Int}
    (k : ((-2147483648 ≤ ((x5 + 1) : Int) ∧ ((x5 + 1) : Int) < 2147483648) ∧ (0 : Int) ≤ (x5 + 1) ∧ ((x5 + 1) : Int) < h 1001 0) ∧ am_V M_X11_twice 0 0 0 [aR 72, aI (h 1000 (x5 + 1))] [] am_R0 h (fun v ρ' h' => am_V M_L_law kc ks 2081 [aR 1000, aR 0, aR 72, aR 81, aR 82, aI x5, aI xs0, aU, aU] (v ++ []) ρ' h' Q X) X) :
    am_V M_L_law kc ks 2069 [aR 1000, aR 0, aR 72, aR 81, aR 82, aI x5, aU, aU, aU] [aI xs0] am_R0 h Q X := by
  obtain ⟨⟨b0_1, b0_2, b0_3⟩, k⟩ := k
  refine v_istore (E2 := [aR 1000, aR 0, aR 72, aR 81, aR 82, aI x5, aI xs0, aU, aU]) dL_law_2069 (Nat.le_of_ble_eq_true rfl) rfl ?_
  refine v_aload_n dL_law_2071 rfl rfl ?_
  refine v_aload_n dL_law_2072 rfl rfl ?_
  refine v_iload dL_law_2073 rfl ?_
  refine v_iconst dL_law_2075 ⟨by decide, by decide⟩ ?_
  refine v_iadd dL_law_2076 b0_1 ?_
  refine v_sld dL_law_2077 rfl b0_2 b0_3 (fun _ => ?_)
  exact v_callV (j := M_X11_twice) (As := [aI (h 1000 (x5 + 1))]) (st := []) (E0 := [aR 72, aI (h 1000 (x5 + 1))]) (a := 72) (ci := 9) (N := 11) (q9 := (RX11, TX11, 11)) dL_law_2078 ml_L_287 J_X11_twice (Nat.zero_le _) (Nat.zero_le _) (Nat.le_of_ble_eq_true rfl) rfl (Nat.le_of_ble_eq_true rfl) (List.forall_mem_cons.mpr ⟨rfl, List.forall_mem_cons.mpr ⟨rfl, fun _ h9 => absurd h9 List.not_mem_nil⟩⟩) (Nat.le_of_ble_eq_true rfl) rfl rfl rfl rfl pn_X11_twice rfl k
theorem S_law_2081 {kc ks : Nat} {h : Hh} {Q : PQ} {X : PX} {x5 : Int} {x6 : Int} {xs0 : Int}
    (k : am_V M_X11_thrown 0 0 0 [aR 72] [] am_R0 h (fun v ρ' h' => am_V M_L_law kc ks 2087 [aR 1000, aR 0, aR 72, aR 81, aR 82, aI x5, aI x6, aI xs0, aU] (v ++ []) ρ' h' Q X) X) :
    am_V M_L_law kc ks 2081 [aR 1000, aR 0, aR 72, aR 81, aR 82, aI x5, aI x6, aU, aU] [aI xs0] am_R0 h Q X := by
  refine v_istore (E2 := [aR 1000, aR 0, aR 72, aR 81, aR 82, aI x5, aI x6, aI xs0, aU]) dL_law_2081 (Nat.le_of_ble_eq_true rfl) rfl ?_
  refine v_aload_n dL_law_2083 rfl rfl ?_
  exact v_callV (j := M_X11_thrown) (As := []) (st := []) (E0 := [aR 72]) (a := 72) (ci := 9) (N := 11) (q9 := (RX11, TX11, 11)) dL_law_2084 ml_L_195 J_X11_thrown (Nat.zero_le _) (Nat.zero_le _) (Nat.le_of_ble_eq_true rfl) rfl (Nat.le_of_ble_eq_true rfl) (List.forall_mem_cons.mpr ⟨rfl, fun _ h9 => absurd h9 List.not_mem_nil⟩) (Nat.le_of_ble_eq_true rfl) rfl rfl rfl rfl pn_X11_thrown rfl k
theorem S_law_2087 {kc ks : Nat} {h : Hh} {Q : PQ} {X : PX} {x5 : Int} {x6 : Int} {x7 : Int} {xs0 : Int}
    (k : ((xs0 = x6 → ((x6 ≠ 0 → ((-2147483648 ≤ ((x5 + 10) : Int) ∧ ((x5 + 10) : Int) < 2147483648)) ∧ am_V M_L_law kc ks 28 [aR 1000, aR 0, aR 72, aR 81, aR 82, aI (x5 + 10), aU, aU, aU] [] am_R0 h Q X) ∧ (x6 = 0 → ((0 : Int) ≤ 0 ∧ (0 : Int) < 1) ∧ (((if x7 < (h 81 0) then 1 else if (h 81 0) = x7 then 0 else -1) = 0 → ((-2147483648 ≤ ((x5 + 10) : Int) ∧ ((x5 + 10) : Int) < 2147483648)) ∧ am_V M_L_law kc ks 28 [aR 1000, aR 0, aR 72, aR 81, aR 82, aI (x5 + 10), aU, aU, aU] [] am_R0 h Q X) ∧ ((if x7 < (h 81 0) then 1 else if (h 81 0) = x7 then 0 else -1) ≠ 0 → Q [aI 0] am_R0 h))))) ∧ (xs0 ≠ x6 → Q [aI 0] am_R0 h))) :
    am_V M_L_law kc ks 2087 [aR 1000, aR 0, aR 72, aR 81, aR 82, aI x5, aI x6, aI x7, aU] [aI xs0] am_R0 h Q X := by
  refine v_iload dL_law_2087 rfl ?_
  refine v_icmp_eq (tgt := 2094) dL_law_2089 (by decide) (fun z => ?_) (fun z => ?_)
  · have k := k.1 z
    refine v_iload dL_law_2094 rfl ?_
    refine v_if_ne (tgt := 2111) dL_law_2096 (by decide) (fun z => ?_) (fun z => ?_)
    · have k := k.1 z
      obtain ⟨b2_1, k⟩ := k
      refine v_goto (tgt := 3556) dL_law_2111 (by decide) ?_
      refine v_iinc (E2 := [aR 1000, aR 0, aR 72, aR 81, aR 82, aI (x5 + 10), aI x6, aI x7, aU]) dL_law_3556 rfl b2_1 rfl ?_
      refine v_goto (tgt := 28) dL_law_3559 (by decide) ?_
      refine v_weak (E2 := [aR 1000, aR 0, aR 72, aR 81, aR 82, aI (x5 + 10), aU, aU, aU]) ⟨Or.inl rfl, ⟨Or.inl rfl, ⟨Or.inl rfl, ⟨Or.inl rfl, ⟨Or.inl rfl, ⟨Or.inl rfl, ⟨Or.inr rfl, ⟨Or.inr rfl, ⟨Or.inl rfl, trivial⟩⟩⟩⟩⟩⟩⟩⟩⟩ ?_
      exact k
    · have k := k.2 z
      obtain ⟨⟨b2_1, b2_2⟩, k⟩ := k
      refine v_aload_n dL_law_2099 rfl rfl ?_
      refine v_iconst dL_law_2100 ⟨by decide, by decide⟩ ?_
      refine v_lald dL_law_2101 rfl b2_1 b2_2 ?_
      refine v_iload dL_law_2102 rfl ?_
      refine v_i2l dL_law_2104 ?_
      refine v_lcmp dL_law_2105 ?_
      refine v_if_eq (tgt := 2111) dL_law_2106 (by decide) (fun z => ?_) (fun z => ?_)
      · have k := k.1 z
        obtain ⟨b3_1, k⟩ := k
        refine v_goto (tgt := 3556) dL_law_2111 (by decide) ?_
        refine v_iinc (E2 := [aR 1000, aR 0, aR 72, aR 81, aR 82, aI (x5 + 10), aI x6, aI x7, aU]) dL_law_3556 rfl b3_1 rfl ?_
        refine v_goto (tgt := 28) dL_law_3559 (by decide) ?_
        refine v_weak (E2 := [aR 1000, aR 0, aR 72, aR 81, aR 82, aI (x5 + 10), aU, aU, aU]) ⟨Or.inl rfl, ⟨Or.inl rfl, ⟨Or.inl rfl, ⟨Or.inl rfl, ⟨Or.inl rfl, ⟨Or.inl rfl, ⟨Or.inr rfl, ⟨Or.inr rfl, ⟨Or.inl rfl, trivial⟩⟩⟩⟩⟩⟩⟩⟩⟩ ?_
        exact k
      · have k := k.2 z
        refine v_iconst dL_law_2109 ⟨by decide, by decide⟩ ?_
        exact v_lawret dL_law_2110 rfl k
  · have k := k.2 z
    refine v_iconst dL_law_2092 ⟨by decide, by decide⟩ ?_
    exact v_lawret dL_law_2093 rfl k
theorem S_law_2114 {kc ks : Nat} {h : Hh} {Q : PQ} {X : PX} {x5 : Int}
    (k : ((-2147483648 ≤ ((x5 + 1) : Int) ∧ ((x5 + 1) : Int) < 2147483648) ∧ (0 : Int) ≤ (x5 + 1) ∧ ((x5 + 1) : Int) < h 1001 0 ∧ 2 ≤ kc ∧ 12 ≤ ks) ∧ am_V M_L_twiceAt 2 12 0 [aR 0, aI (h 1000 (x5 + 1)), aR 81, aU] [] am_R0 h (fun v ρ' h' => am_V M_L_law (kc - 2) (ks - 12) 2125 [aR 1000, aR 0, aR 72, aR 81, aR 82, aI x5, aU, aU, aU] (v ++ []) ρ' h' Q X) X) :
    am_V M_L_law kc ks 2114 [aR 1000, aR 0, aR 72, aR 81, aR 82, aI x5, aU, aU, aU] [] am_R0 h Q X := by
  obtain ⟨⟨b0_1, b0_2, b0_3, b0_4, b0_5⟩, k⟩ := k
  refine v_aload_n dL_law_2114 rfl rfl ?_
  refine v_aload_n dL_law_2115 rfl rfl ?_
  refine v_iload dL_law_2116 rfl ?_
  refine v_iconst dL_law_2118 ⟨by decide, by decide⟩ ?_
  refine v_iadd dL_law_2119 b0_1 ?_
  refine v_sld dL_law_2120 rfl b0_2 b0_3 (fun _ => ?_)
  refine v_aload_n dL_law_2121 rfl rfl ?_
  exact v_callSX (j := M_L_twiceAt) (As := [aR 0, aI (h 1000 (x5 + 1)), aR 81]) (st := []) (E0 := [aR 0, aI (h 1000 (x5 + 1)), aR 81, aU]) dL_law_2122 ms_L_288 J_L_twiceAt b0_4 b0_5 (Nat.le_of_ble_eq_true rfl) rfl (Nat.le_of_ble_eq_true rfl) (List.forall_mem_cons.mpr ⟨rfl, List.forall_mem_cons.mpr ⟨rfl, List.forall_mem_cons.mpr ⟨rfl, fun _ h9 => absurd h9 List.not_mem_nil⟩⟩⟩) (Nat.le_of_ble_eq_true rfl) rfl pn_L_twiceAt rfl k
theorem S_law_2125 {kc ks : Nat} {h : Hh} {Q : PQ} {X : PX} {x5 : Int} {xs0 : Int}
    (k : ((-2147483648 ≤ ((x5 + 1) : Int) ∧ ((x5 + 1) : Int) < 2147483648) ∧ (0 : Int) ≤ (x5 + 1) ∧ ((x5 + 1) : Int) < h 1001 0) ∧ am_V M_X11_twiceAt 0 0 0 [aR 72, aI (h 1000 (x5 + 1)), aU, aU, aU] [] am_R0 h (fun v ρ' h' => am_V M_L_law kc ks 2137 [aR 1000, aR 0, aR 72, aR 81, aR 82, aI x5, aI xs0, aU, aU] (v ++ []) ρ' h' Q X) X) :
    am_V M_L_law kc ks 2125 [aR 1000, aR 0, aR 72, aR 81, aR 82, aI x5, aU, aU, aU] [aI xs0] am_R0 h Q X := by
  obtain ⟨⟨b0_1, b0_2, b0_3⟩, k⟩ := k
  refine v_istore (E2 := [aR 1000, aR 0, aR 72, aR 81, aR 82, aI x5, aI xs0, aU, aU]) dL_law_2125 (Nat.le_of_ble_eq_true rfl) rfl ?_
  refine v_aload_n dL_law_2127 rfl rfl ?_
  refine v_aload_n dL_law_2128 rfl rfl ?_
  refine v_iload dL_law_2129 rfl ?_
  refine v_iconst dL_law_2131 ⟨by decide, by decide⟩ ?_
  refine v_iadd dL_law_2132 b0_1 ?_
  refine v_sld dL_law_2133 rfl b0_2 b0_3 (fun _ => ?_)
  exact v_callV (j := M_X11_twiceAt) (As := [aI (h 1000 (x5 + 1))]) (st := []) (E0 := [aR 72, aI (h 1000 (x5 + 1)), aU, aU, aU]) (a := 72) (ci := 9) (N := 11) (q9 := (RX11, TX11, 11)) dL_law_2134 ml_L_290 J_X11_twiceAt (Nat.zero_le _) (Nat.zero_le _) (Nat.le_of_ble_eq_true rfl) rfl (Nat.le_of_ble_eq_true rfl) (List.forall_mem_cons.mpr ⟨rfl, List.forall_mem_cons.mpr ⟨rfl, fun _ h9 => absurd h9 List.not_mem_nil⟩⟩) (Nat.le_of_ble_eq_true rfl) rfl rfl rfl rfl pn_X11_twiceAt rfl k
theorem S_law_2137 {kc ks : Nat} {h : Hh} {Q : PQ} {X : PX} {x5 : Int} {x6 : Int} {xs0 : Int}
    (k : am_V M_X11_thrown 0 0 0 [aR 72] [] am_R0 h (fun v ρ' h' => am_V M_L_law kc ks 2143 [aR 1000, aR 0, aR 72, aR 81, aR 82, aI x5, aI x6, aI xs0, aU] (v ++ []) ρ' h' Q X) X) :
    am_V M_L_law kc ks 2137 [aR 1000, aR 0, aR 72, aR 81, aR 82, aI x5, aI x6, aU, aU] [aI xs0] am_R0 h Q X := by
  refine v_istore (E2 := [aR 1000, aR 0, aR 72, aR 81, aR 82, aI x5, aI x6, aI xs0, aU]) dL_law_2137 (Nat.le_of_ble_eq_true rfl) rfl ?_
  refine v_aload_n dL_law_2139 rfl rfl ?_
  exact v_callV (j := M_X11_thrown) (As := []) (st := []) (E0 := [aR 72]) (a := 72) (ci := 9) (N := 11) (q9 := (RX11, TX11, 11)) dL_law_2140 ml_L_195 J_X11_thrown (Nat.zero_le _) (Nat.zero_le _) (Nat.le_of_ble_eq_true rfl) rfl (Nat.le_of_ble_eq_true rfl) (List.forall_mem_cons.mpr ⟨rfl, fun _ h9 => absurd h9 List.not_mem_nil⟩) (Nat.le_of_ble_eq_true rfl) rfl rfl rfl rfl pn_X11_thrown rfl k
theorem S_law_2143 {kc ks : Nat} {h : Hh} {Q : PQ} {X : PX} {x5 : Int} {x6 : Int} {x7 : Int} {xs0 : Int}
    (k : ((xs0 = x6 → ((x6 ≠ 0 → ((-2147483648 ≤ ((x5 + 10) : Int) ∧ ((x5 + 10) : Int) < 2147483648)) ∧ am_V M_L_law kc ks 28 [aR 1000, aR 0, aR 72, aR 81, aR 82, aI (x5 + 10), aU, aU, aU] [] am_R0 h Q X) ∧ (x6 = 0 → ((0 : Int) ≤ 0 ∧ (0 : Int) < 1) ∧ (((if x7 < (h 81 0) then 1 else if (h 81 0) = x7 then 0 else -1) = 0 → ((-2147483648 ≤ ((x5 + 10) : Int) ∧ ((x5 + 10) : Int) < 2147483648)) ∧ am_V M_L_law kc ks 28 [aR 1000, aR 0, aR 72, aR 81, aR 82, aI (x5 + 10), aU, aU, aU] [] am_R0 h Q X) ∧ ((if x7 < (h 81 0) then 1 else if (h 81 0) = x7 then 0 else -1) ≠ 0 → Q [aI 0] am_R0 h))))) ∧ (xs0 ≠ x6 → Q [aI 0] am_R0 h))) :
    am_V M_L_law kc ks 2143 [aR 1000, aR 0, aR 72, aR 81, aR 82, aI x5, aI x6, aI x7, aU] [aI xs0] am_R0 h Q X := by
  refine v_iload dL_law_2143 rfl ?_
  refine v_icmp_eq (tgt := 2150) dL_law_2145 (by decide) (fun z => ?_) (fun z => ?_)
  · have k := k.1 z
    refine v_iload dL_law_2150 rfl ?_
    refine v_if_ne (tgt := 2167) dL_law_2152 (by decide) (fun z => ?_) (fun z => ?_)
    · have k := k.1 z
      obtain ⟨b2_1, k⟩ := k
      refine v_goto (tgt := 3556) dL_law_2167 (by decide) ?_
      refine v_iinc (E2 := [aR 1000, aR 0, aR 72, aR 81, aR 82, aI (x5 + 10), aI x6, aI x7, aU]) dL_law_3556 rfl b2_1 rfl ?_
      refine v_goto (tgt := 28) dL_law_3559 (by decide) ?_
      refine v_weak (E2 := [aR 1000, aR 0, aR 72, aR 81, aR 82, aI (x5 + 10), aU, aU, aU]) ⟨Or.inl rfl, ⟨Or.inl rfl, ⟨Or.inl rfl, ⟨Or.inl rfl, ⟨Or.inl rfl, ⟨Or.inl rfl, ⟨Or.inr rfl, ⟨Or.inr rfl, ⟨Or.inl rfl, trivial⟩⟩⟩⟩⟩⟩⟩⟩⟩ ?_
      exact k
    · have k := k.2 z
      obtain ⟨⟨b2_1, b2_2⟩, k⟩ := k
      refine v_aload_n dL_law_2155 rfl rfl ?_
      refine v_iconst dL_law_2156 ⟨by decide, by decide⟩ ?_
      refine v_lald dL_law_2157 rfl b2_1 b2_2 ?_
      refine v_iload dL_law_2158 rfl ?_
      refine v_i2l dL_law_2160 ?_
      refine v_lcmp dL_law_2161 ?_
      refine v_if_eq (tgt := 2167) dL_law_2162 (by decide) (fun z => ?_) (fun z => ?_)
      · have k := k.1 z
        obtain ⟨b3_1, k⟩ := k
        refine v_goto (tgt := 3556) dL_law_2167 (by decide) ?_
        refine v_iinc (E2 := [aR 1000, aR 0, aR 72, aR 81, aR 82, aI (x5 + 10), aI x6, aI x7, aU]) dL_law_3556 rfl b3_1 rfl ?_
        refine v_goto (tgt := 28) dL_law_3559 (by decide) ?_
        refine v_weak (E2 := [aR 1000, aR 0, aR 72, aR 81, aR 82, aI (x5 + 10), aU, aU, aU]) ⟨Or.inl rfl, ⟨Or.inl rfl, ⟨Or.inl rfl, ⟨Or.inl rfl, ⟨Or.inl rfl, ⟨Or.inl rfl, ⟨Or.inr rfl, ⟨Or.inr rfl, ⟨Or.inl rfl, trivial⟩⟩⟩⟩⟩⟩⟩⟩⟩ ?_
        exact k
      · have k := k.2 z
        refine v_iconst dL_law_2165 ⟨by decide, by decide⟩ ?_
        exact v_lawret dL_law_2166 rfl k
  · have k := k.2 z
    refine v_iconst dL_law_2148 ⟨by decide, by decide⟩ ?_
    exact v_lawret dL_law_2149 rfl k
theorem S_law_2170 {kc ks : Nat} {h : Hh} {Q : PQ} {X : PX} {x5 : Int}
    (k : ((-2147483648 ≤ ((x5 + 1) : Int) ∧ ((x5 + 1) : Int) < 2147483648) ∧ (0 : Int) ≤ (x5 + 1) ∧ ((x5 + 1) : Int) < h 1001 0 ∧ 2 ≤ kc ∧ 12 ≤ ks) ∧ am_V M_L_once 2 12 0 [aR 0, aI (h 1000 (x5 + 1)), aR 81, aU] [] am_R0 h (fun v ρ' h' => am_V M_L_law (kc - 2) (ks - 12) 2181 [aR 1000, aR 0, aR 72, aR 81, aR 82, aI x5, aU, aU, aU] (v ++ []) ρ' h' Q X) X) :
    am_V M_L_law kc ks 2170 [aR 1000, aR 0, aR 72, aR 81, aR 82, aI x5, aU, aU, aU] [] am_R0 h Q X := by
  obtain ⟨⟨b0_1, b0_2, b0_3, b0_4, b0_5⟩, k⟩ := k
  refine v_aload_n dL_law_2170 rfl rfl ?_
  refine v_aload_n dL_law_2171 rfl rfl ?_
  refine v_iload dL_law_2172 rfl ?_
  refine v_iconst dL_law_2174 ⟨by decide, by decide⟩ ?_
  refine v_iadd dL_law_2175 b0_1 ?_
  refine v_sld dL_law_2176 rfl b0_2 b0_3 (fun _ => ?_)
  refine v_aload_n dL_law_2177 rfl rfl ?_
  exact v_callSX (j := M_L_once) (As := [aR 0, aI (h 1000 (x5 + 1)), aR 81]) (st := []) (E0 := [aR 0, aI (h 1000 (x5 + 1)), aR 81, aU]) dL_law_2178 ms_L_291 J_L_once b0_4 b0_5 (Nat.le_of_ble_eq_true rfl) rfl (Nat.le_of_ble_eq_true rfl) (List.forall_mem_cons.mpr ⟨rfl, List.forall_mem_cons.mpr ⟨rfl, List.forall_mem_cons.mpr ⟨rfl, fun _ h9 => absurd h9 List.not_mem_nil⟩⟩⟩) (Nat.le_of_ble_eq_true rfl) rfl pn_L_once rfl k
theorem S_law_2181 {kc ks : Nat} {h : Hh} {Q : PQ} {X : PX} {x5 : Int} {xs0 : Int}
    (k : ((-2147483648 ≤ ((x5 + 1) : Int) ∧ ((x5 + 1) : Int) < 2147483648) ∧ (0 : Int) ≤ (x5 + 1) ∧ ((x5 + 1) : Int) < h 1001 0) ∧ am_V M_X11_once 0 0 0 [aR 72, aI (h 1000 (x5 + 1))] [] am_R0 h (fun v ρ' h' => am_V M_L_law kc ks 2193 [aR 1000, aR 0, aR 72, aR 81, aR 82, aI x5, aI xs0, aU, aU] (v ++ []) ρ' h' Q X) X) :
    am_V M_L_law kc ks 2181 [aR 1000, aR 0, aR 72, aR 81, aR 82, aI x5, aU, aU, aU] [aI xs0] am_R0 h Q X := by
  obtain ⟨⟨b0_1, b0_2, b0_3⟩, k⟩ := k
  refine v_istore (E2 := [aR 1000, aR 0, aR 72, aR 81, aR 82, aI x5, aI xs0, aU, aU]) dL_law_2181 (Nat.le_of_ble_eq_true rfl) rfl ?_
  refine v_aload_n dL_law_2183 rfl rfl ?_
  refine v_aload_n dL_law_2184 rfl rfl ?_
  refine v_iload dL_law_2185 rfl ?_
  refine v_iconst dL_law_2187 ⟨by decide, by decide⟩ ?_
  refine v_iadd dL_law_2188 b0_1 ?_
  refine v_sld dL_law_2189 rfl b0_2 b0_3 (fun _ => ?_)
  exact v_callV (j := M_X11_once) (As := [aI (h 1000 (x5 + 1))]) (st := []) (E0 := [aR 72, aI (h 1000 (x5 + 1))]) (a := 72) (ci := 9) (N := 11) (q9 := (RX11, TX11, 11)) dL_law_2190 ml_L_293 J_X11_once (Nat.zero_le _) (Nat.zero_le _) (Nat.le_of_ble_eq_true rfl) rfl (Nat.le_of_ble_eq_true rfl) (List.forall_mem_cons.mpr ⟨rfl, List.forall_mem_cons.mpr ⟨rfl, fun _ h9 => absurd h9 List.not_mem_nil⟩⟩) (Nat.le_of_ble_eq_true rfl) rfl rfl rfl rfl pn_X11_once rfl k
theorem S_law_2193 {kc ks : Nat} {h : Hh} {Q : PQ} {X : PX} {x5 : Int} {x6 : Int} {xs0 : Int}
    (k : am_V M_X11_thrown 0 0 0 [aR 72] [] am_R0 h (fun v ρ' h' => am_V M_L_law kc ks 2199 [aR 1000, aR 0, aR 72, aR 81, aR 82, aI x5, aI x6, aI xs0, aU] (v ++ []) ρ' h' Q X) X) :
    am_V M_L_law kc ks 2193 [aR 1000, aR 0, aR 72, aR 81, aR 82, aI x5, aI x6, aU, aU] [aI xs0] am_R0 h Q X := by
  refine v_istore (E2 := [aR 1000, aR 0, aR 72, aR 81, aR 82, aI x5, aI x6, aI xs0, aU]) dL_law_2193 (Nat.le_of_ble_eq_true rfl) rfl ?_
  refine v_aload_n dL_law_2195 rfl rfl ?_
  exact v_callV (j := M_X11_thrown) (As := []) (st := []) (E0 := [aR 72]) (a := 72) (ci := 9) (N := 11) (q9 := (RX11, TX11, 11)) dL_law_2196 ml_L_195 J_X11_thrown (Nat.zero_le _) (Nat.zero_le _) (Nat.le_of_ble_eq_true rfl) rfl (Nat.le_of_ble_eq_true rfl) (List.forall_mem_cons.mpr ⟨rfl, fun _ h9 => absurd h9 List.not_mem_nil⟩) (Nat.le_of_ble_eq_true rfl) rfl rfl rfl rfl pn_X11_thrown rfl k
theorem S_law_2199 {kc ks : Nat} {h : Hh} {Q : PQ} {X : PX} {x5 : Int} {x6 : Int} {x7 : Int} {xs0 : Int}
    (k : ((xs0 = x6 → ((x6 ≠ 0 → ((-2147483648 ≤ ((x5 + 10) : Int) ∧ ((x5 + 10) : Int) < 2147483648)) ∧ am_V M_L_law kc ks 28 [aR 1000, aR 0, aR 72, aR 81, aR 82, aI (x5 + 10), aU, aU, aU] [] am_R0 h Q X) ∧ (x6 = 0 → ((0 : Int) ≤ 0 ∧ (0 : Int) < 1) ∧ (((if x7 < (h 81 0) then 1 else if (h 81 0) = x7 then 0 else -1) = 0 → ((-2147483648 ≤ ((x5 + 10) : Int) ∧ ((x5 + 10) : Int) < 2147483648)) ∧ am_V M_L_law kc ks 28 [aR 1000, aR 0, aR 72, aR 81, aR 82, aI (x5 + 10), aU, aU, aU] [] am_R0 h Q X) ∧ ((if x7 < (h 81 0) then 1 else if (h 81 0) = x7 then 0 else -1) ≠ 0 → Q [aI 0] am_R0 h))))) ∧ (xs0 ≠ x6 → Q [aI 0] am_R0 h))) :
    am_V M_L_law kc ks 2199 [aR 1000, aR 0, aR 72, aR 81, aR 82, aI x5, aI x6, aI x7, aU] [aI xs0] am_R0 h Q X := by
  refine v_iload dL_law_2199 rfl ?_
  refine v_icmp_eq (tgt := 2206) dL_law_2201 (by decide) (fun z => ?_) (fun z => ?_)
  · have k := k.1 z
    refine v_iload dL_law_2206 rfl ?_
    refine v_if_ne (tgt := 2223) dL_law_2208 (by decide) (fun z => ?_) (fun z => ?_)
    · have k := k.1 z
      obtain ⟨b2_1, k⟩ := k
      refine v_goto (tgt := 3556) dL_law_2223 (by decide) ?_
      refine v_iinc (E2 := [aR 1000, aR 0, aR 72, aR 81, aR 82, aI (x5 + 10), aI x6, aI x7, aU]) dL_law_3556 rfl b2_1 rfl ?_
      refine v_goto (tgt := 28) dL_law_3559 (by decide) ?_
      refine v_weak (E2 := [aR 1000, aR 0, aR 72, aR 81, aR 82, aI (x5 + 10), aU, aU, aU]) ⟨Or.inl rfl, ⟨Or.inl rfl, ⟨Or.inl rfl, ⟨Or.inl rfl, ⟨Or.inl rfl, ⟨Or.inl rfl, ⟨Or.inr rfl, ⟨Or.inr rfl, ⟨Or.inl rfl, trivial⟩⟩⟩⟩⟩⟩⟩⟩⟩ ?_
      exact k
    · have k := k.2 z
      obtain ⟨⟨b2_1, b2_2⟩, k⟩ := k
      refine v_aload_n dL_law_2211 rfl rfl ?_
      refine v_iconst dL_law_2212 ⟨by decide, by decide⟩ ?_
      refine v_lald dL_law_2213 rfl b2_1 b2_2 ?_
      refine v_iload dL_law_2214 rfl ?_
      refine v_i2l dL_law_2216 ?_
      refine v_lcmp dL_law_2217 ?_
      refine v_if_eq (tgt := 2223) dL_law_2218 (by decide) (fun z => ?_) (fun z => ?_)
      · have k := k.1 z
        obtain ⟨b3_1, k⟩ := k
        refine v_goto (tgt := 3556) dL_law_2223 (by decide) ?_
        refine v_iinc (E2 := [aR 1000, aR 0, aR 72, aR 81, aR 82, aI (x5 + 10), aI x6, aI x7, aU]) dL_law_3556 rfl b3_1 rfl ?_
        refine v_goto (tgt := 28) dL_law_3559 (by decide) ?_
        refine v_weak (E2 := [aR 1000, aR 0, aR 72, aR 81, aR 82, aI (x5 + 10), aU, aU, aU]) ⟨Or.inl rfl, ⟨Or.inl rfl, ⟨Or.inl rfl, ⟨Or.inl rfl, ⟨Or.inl rfl, ⟨Or.inl rfl, ⟨Or.inr rfl, ⟨Or.inr rfl, ⟨Or.inl rfl, trivial⟩⟩⟩⟩⟩⟩⟩⟩⟩ ?_
        exact k
      · have k := k.2 z
        refine v_iconst dL_law_2221 ⟨by decide, by decide⟩ ?_
        exact v_lawret dL_law_2222 rfl k
  · have k := k.2 z
    refine v_iconst dL_law_2204 ⟨by decide, by decide⟩ ?_
    exact v_lawret dL_law_2205 rfl k
theorem S_law_2226 {kc ks : Nat} {h : Hh} {Q : PQ} {X : PX} {x5 : Int}
    (k : ((-2147483648 ≤ ((x5 + 1) : Int) ∧ ((x5 + 1) : Int) < 2147483648) ∧ (0 : Int) ≤ (x5 + 1) ∧ ((x5 + 1) : Int) < h 1001 0 ∧ 2 ≤ kc ∧ 12 ≤ ks) ∧ am_V M_L_onceAt 2 12 0 [aR 0, aI (h 1000 (x5 + 1)), aR 81, aU] [] am_R0 h (fun v ρ' h' => am_V M_L_law (kc - 2) (ks - 12) 2237 [aR 1000, aR 0, aR 72, aR 81, aR 82, aI x5, aU, aU, aU] (v ++ []) ρ' h' Q X) X) :
    am_V M_L_law kc ks 2226 [aR 1000, aR 0, aR 72, aR 81, aR 82, aI x5, aU, aU, aU] [] am_R0 h Q X := by
  obtain ⟨⟨b0_1, b0_2, b0_3, b0_4, b0_5⟩, k⟩ := k
  refine v_aload_n dL_law_2226 rfl rfl ?_
  refine v_aload_n dL_law_2227 rfl rfl ?_
  refine v_iload dL_law_2228 rfl ?_
  refine v_iconst dL_law_2230 ⟨by decide, by decide⟩ ?_
  refine v_iadd dL_law_2231 b0_1 ?_
  refine v_sld dL_law_2232 rfl b0_2 b0_3 (fun _ => ?_)
  refine v_aload_n dL_law_2233 rfl rfl ?_
  exact v_callSX (j := M_L_onceAt) (As := [aR 0, aI (h 1000 (x5 + 1)), aR 81]) (st := []) (E0 := [aR 0, aI (h 1000 (x5 + 1)), aR 81, aU]) dL_law_2234 ms_L_294 J_L_onceAt b0_4 b0_5 (Nat.le_of_ble_eq_true rfl) rfl (Nat.le_of_ble_eq_true rfl) (List.forall_mem_cons.mpr ⟨rfl, List.forall_mem_cons.mpr ⟨rfl, List.forall_mem_cons.mpr ⟨rfl, fun _ h9 => absurd h9 List.not_mem_nil⟩⟩⟩) (Nat.le_of_ble_eq_true rfl) rfl pn_L_onceAt rfl k
theorem S_law_2237 {kc ks : Nat} {h : Hh} {Q : PQ} {X : PX} {x5 : Int} {xs0 : Int}
    (k : ((-2147483648 ≤ ((x5 + 1) : Int) ∧ ((x5 + 1) : Int) < 2147483648) ∧ (0 : Int) ≤ (x5 + 1) ∧ ((x5 + 1) : Int) < h 1001 0) ∧ am_V M_X11_onceAt 0 0 0 [aR 72, aI (h 1000 (x5 + 1))] [] am_R0 h (fun v ρ' h' => am_V M_L_law kc ks 2249 [aR 1000, aR 0, aR 72, aR 81, aR 82, aI x5, aI xs0, aU, aU] (v ++ []) ρ' h' Q X) X) :
    am_V M_L_law kc ks 2237 [aR 1000, aR 0, aR 72, aR 81, aR 82, aI x5, aU, aU, aU] [aI xs0] am_R0 h Q X := by
  obtain ⟨⟨b0_1, b0_2, b0_3⟩, k⟩ := k
  refine v_istore (E2 := [aR 1000, aR 0, aR 72, aR 81, aR 82, aI x5, aI xs0, aU, aU]) dL_law_2237 (Nat.le_of_ble_eq_true rfl) rfl ?_
  refine v_aload_n dL_law_2239 rfl rfl ?_
  refine v_aload_n dL_law_2240 rfl rfl ?_
  refine v_iload dL_law_2241 rfl ?_
  refine v_iconst dL_law_2243 ⟨by decide, by decide⟩ ?_
  refine v_iadd dL_law_2244 b0_1 ?_
  refine v_sld dL_law_2245 rfl b0_2 b0_3 (fun _ => ?_)
  exact v_callV (j := M_X11_onceAt) (As := [aI (h 1000 (x5 + 1))]) (st := []) (E0 := [aR 72, aI (h 1000 (x5 + 1))]) (a := 72) (ci := 9) (N := 11) (q9 := (RX11, TX11, 11)) dL_law_2246 ml_L_296 J_X11_onceAt (Nat.zero_le _) (Nat.zero_le _) (Nat.le_of_ble_eq_true rfl) rfl (Nat.le_of_ble_eq_true rfl) (List.forall_mem_cons.mpr ⟨rfl, List.forall_mem_cons.mpr ⟨rfl, fun _ h9 => absurd h9 List.not_mem_nil⟩⟩) (Nat.le_of_ble_eq_true rfl) rfl rfl rfl rfl pn_X11_onceAt rfl k
theorem S_law_2249 {kc ks : Nat} {h : Hh} {Q : PQ} {X : PX} {x5 : Int} {x6 : Int} {xs0 : Int}
    (k : am_V M_X11_thrown 0 0 0 [aR 72] [] am_R0 h (fun v ρ' h' => am_V M_L_law kc ks 2255 [aR 1000, aR 0, aR 72, aR 81, aR 82, aI x5, aI x6, aI xs0, aU] (v ++ []) ρ' h' Q X) X) :
    am_V M_L_law kc ks 2249 [aR 1000, aR 0, aR 72, aR 81, aR 82, aI x5, aI x6, aU, aU] [aI xs0] am_R0 h Q X := by
  refine v_istore (E2 := [aR 1000, aR 0, aR 72, aR 81, aR 82, aI x5, aI x6, aI xs0, aU]) dL_law_2249 (Nat.le_of_ble_eq_true rfl) rfl ?_
  refine v_aload_n dL_law_2251 rfl rfl ?_
  exact v_callV (j := M_X11_thrown) (As := []) (st := []) (E0 := [aR 72]) (a := 72) (ci := 9) (N := 11) (q9 := (RX11, TX11, 11)) dL_law_2252 ml_L_195 J_X11_thrown (Nat.zero_le _) (Nat.zero_le _) (Nat.le_of_ble_eq_true rfl) rfl (Nat.le_of_ble_eq_true rfl) (List.forall_mem_cons.mpr ⟨rfl, fun _ h9 => absurd h9 List.not_mem_nil⟩) (Nat.le_of_ble_eq_true rfl) rfl rfl rfl rfl pn_X11_thrown rfl k
theorem S_law_2255 {kc ks : Nat} {h : Hh} {Q : PQ} {X : PX} {x5 : Int} {x6 : Int} {x7 : Int} {xs0 : Int}
    (k : ((xs0 = x6 → ((x6 ≠ 0 → ((-2147483648 ≤ ((x5 + 10) : Int) ∧ ((x5 + 10) : Int) < 2147483648)) ∧ am_V M_L_law kc ks 28 [aR 1000, aR 0, aR 72, aR 81, aR 82, aI (x5 + 10), aU, aU, aU] [] am_R0 h Q X) ∧ (x6 = 0 → ((0 : Int) ≤ 0 ∧ (0 : Int) < 1) ∧ (((if x7 < (h 81 0) then 1 else if (h 81 0) = x7 then 0 else -1) = 0 → ((-2147483648 ≤ ((x5 + 10) : Int) ∧ ((x5 + 10) : Int) < 2147483648)) ∧ am_V M_L_law kc ks 28 [aR 1000, aR 0, aR 72, aR 81, aR 82, aI (x5 + 10), aU, aU, aU] [] am_R0 h Q X) ∧ ((if x7 < (h 81 0) then 1 else if (h 81 0) = x7 then 0 else -1) ≠ 0 → Q [aI 0] am_R0 h))))) ∧ (xs0 ≠ x6 → Q [aI 0] am_R0 h))) :
    am_V M_L_law kc ks 2255 [aR 1000, aR 0, aR 72, aR 81, aR 82, aI x5, aI x6, aI x7, aU] [aI xs0] am_R0 h Q X := by
  refine v_iload dL_law_2255 rfl ?_
  refine v_icmp_eq (tgt := 2262) dL_law_2257 (by decide) (fun z => ?_) (fun z => ?_)
  · have k := k.1 z
    refine v_iload dL_law_2262 rfl ?_
    refine v_if_ne (tgt := 2279) dL_law_2264 (by decide) (fun z => ?_) (fun z => ?_)
    · have k := k.1 z
      obtain ⟨b2_1, k⟩ := k
      refine v_goto (tgt := 3556) dL_law_2279 (by decide) ?_
      refine v_iinc (E2 := [aR 1000, aR 0, aR 72, aR 81, aR 82, aI (x5 + 10), aI x6, aI x7, aU]) dL_law_3556 rfl b2_1 rfl ?_
      refine v_goto (tgt := 28) dL_law_3559 (by decide) ?_
      refine v_weak (E2 := [aR 1000, aR 0, aR 72, aR 81, aR 82, aI (x5 + 10), aU, aU, aU]) ⟨Or.inl rfl, ⟨Or.inl rfl, ⟨Or.inl rfl, ⟨Or.inl rfl, ⟨Or.inl rfl, ⟨Or.inl rfl, ⟨Or.inr rfl, ⟨Or.inr rfl, ⟨Or.inl rfl, trivial⟩⟩⟩⟩⟩⟩⟩⟩⟩ ?_
      exact k
    · have k := k.2 z
      obtain ⟨⟨b2_1, b2_2⟩, k⟩ := k
      refine v_aload_n dL_law_2267 rfl rfl ?_
      refine v_iconst dL_law_2268 ⟨by decide, by decide⟩ ?_
      refine v_lald dL_law_2269 rfl b2_1 b2_2 ?_
      refine v_iload dL_law_2270 rfl ?_
      refine v_i2l dL_law_2272 ?_
      refine v_lcmp dL_law_2273 ?_
      refine v_if_eq (tgt := 2279) dL_law_2274 (by decide) (fun z => ?_) (fun z => ?_)
      · have k := k.1 z
        obtain ⟨b3_1, k⟩ := k
        refine v_goto (tgt := 3556) dL_law_2279 (by decide) ?_
        refine v_iinc (E2 := [aR 1000, aR 0, aR 72, aR 81, aR 82, aI (x5 + 10), aI x6, aI x7, aU]) dL_law_3556 rfl b3_1 rfl ?_
        refine v_goto (tgt := 28) dL_law_3559 (by decide) ?_
        refine v_weak (E2 := [aR 1000, aR 0, aR 72, aR 81, aR 82, aI (x5 + 10), aU, aU, aU]) ⟨Or.inl rfl, ⟨Or.inl rfl, ⟨Or.inl rfl, ⟨Or.inl rfl, ⟨Or.inl rfl, ⟨Or.inl rfl, ⟨Or.inr rfl, ⟨Or.inr rfl, ⟨Or.inl rfl, trivial⟩⟩⟩⟩⟩⟩⟩⟩⟩ ?_
        exact k
      · have k := k.2 z
        refine v_iconst dL_law_2277 ⟨by decide, by decide⟩ ?_
        exact v_lawret dL_law_2278 rfl k
  · have k := k.2 z
    refine v_iconst dL_law_2260 ⟨by decide, by decide⟩ ?_
    exact v_lawret dL_law_2261 rfl k
theorem S_law_2282 {kc ks : Nat} {h : Hh} {Q : PQ} {X : PX} {x5 : Int}
    (k : ((-2147483648 ≤ ((x5 + 1) : Int) ∧ ((x5 + 1) : Int) < 2147483648) ∧ (0 : Int) ≤ (x5 + 1) ∧ ((x5 + 1) : Int) < h 1001 0 ∧ 1 ≤ kc ∧ 6 ≤ ks) ∧ am_V M_L_longestIn 1 6 0 [aR 0, aI (h 1000 (x5 + 1)), aR 81, aU] [] am_R0 h (fun v ρ' h' => am_V M_L_law (kc - 1) (ks - 6) 2293 [aR 1000, aR 0, aR 72, aR 81, aR 82, aI x5, aU, aU, aU] (v ++ []) ρ' h' Q X) X) :
    am_V M_L_law kc ks 2282 [aR 1000, aR 0, aR 72, aR 81, aR 82, aI x5, aU, aU, aU] [] am_R0 h Q X := by
  obtain ⟨⟨b0_1, b0_2, b0_3, b0_4, b0_5⟩, k⟩ := k
  refine v_aload_n dL_law_2282 rfl rfl ?_
  refine v_aload_n dL_law_2283 rfl rfl ?_
  refine v_iload dL_law_2284 rfl ?_
  refine v_iconst dL_law_2286 ⟨by decide, by decide⟩ ?_
  refine v_iadd dL_law_2287 b0_1 ?_
  refine v_sld dL_law_2288 rfl b0_2 b0_3 (fun _ => ?_)
  refine v_aload_n dL_law_2289 rfl rfl ?_
  exact v_callSX (j := M_L_longestIn) (As := [aR 0, aI (h 1000 (x5 + 1)), aR 81]) (st := []) (E0 := [aR 0, aI (h 1000 (x5 + 1)), aR 81, aU]) dL_law_2290 ms_L_297 J_L_longestIn b0_4 b0_5 (Nat.le_of_ble_eq_true rfl) rfl (Nat.le_of_ble_eq_true rfl) (List.forall_mem_cons.mpr ⟨rfl, List.forall_mem_cons.mpr ⟨rfl, List.forall_mem_cons.mpr ⟨rfl, fun _ h9 => absurd h9 List.not_mem_nil⟩⟩⟩) (Nat.le_of_ble_eq_true rfl) rfl pn_L_longestIn rfl k
theorem S_law_2293 {kc ks : Nat} {h : Hh} {Q : PQ} {X : PX} {x5 : Int} {xs0 : Int}
    (k : ((-2147483648 ≤ ((x5 + 1) : Int) ∧ ((x5 + 1) : Int) < 2147483648) ∧ (0 : Int) ≤ (x5 + 1) ∧ ((x5 + 1) : Int) < h 1001 0) ∧ am_V M_X11_longestIn 0 0 0 [aR 72, aI (h 1000 (x5 + 1)), aU, aU, aU, aU, aU] [] am_R0 h (fun v ρ' h' => am_V M_L_law kc ks 2305 [aR 1000, aR 0, aR 72, aR 81, aR 82, aI x5, aI xs0, aU, aU] (v ++ []) ρ' h' Q X) X) :
    am_V M_L_law kc ks 2293 [aR 1000, aR 0, aR 72, aR 81, aR 82, aI x5, aU, aU, aU] [aI xs0] am_R0 h Q X := by
  obtain ⟨⟨b0_1, b0_2, b0_3⟩, k⟩ := k
  refine v_istore (E2 := [aR 1000, aR 0, aR 72, aR 81, aR 82, aI x5, aI xs0, aU, aU]) dL_law_2293 (Nat.le_of_ble_eq_true rfl) rfl ?_
  refine v_aload_n dL_law_2295 rfl rfl ?_
  refine v_aload_n dL_law_2296 rfl rfl ?_
  refine v_iload dL_law_2297 rfl ?_
  refine v_iconst dL_law_2299 ⟨by decide, by decide⟩ ?_
  refine v_iadd dL_law_2300 b0_1 ?_
  refine v_sld dL_law_2301 rfl b0_2 b0_3 (fun _ => ?_)
  exact v_callV (j := M_X11_longestIn) (As := [aI (h 1000 (x5 + 1))]) (st := []) (E0 := [aR 72, aI (h 1000 (x5 + 1)), aU, aU, aU, aU, aU]) (a := 72) (ci := 9) (N := 11) (q9 := (RX11, TX11, 11)) dL_law_2302 ml_L_299 J_X11_longestIn (Nat.zero_le _) (Nat.zero_le _) (Nat.le_of_ble_eq_true rfl) rfl (Nat.le_of_ble_eq_true rfl) (List.forall_mem_cons.mpr ⟨rfl, List.forall_mem_cons.mpr ⟨rfl, fun _ h9 => absurd h9 List.not_mem_nil⟩⟩) (Nat.le_of_ble_eq_true rfl) rfl rfl rfl rfl pn_X11_longestIn rfl k
theorem S_law_2305 {kc ks : Nat} {h : Hh} {Q : PQ} {X : PX} {x5 : Int} {x6 : Int} {xs0 : Int}
    (k : am_V M_X11_thrown 0 0 0 [aR 72] [] am_R0 h (fun v ρ' h' => am_V M_L_law kc ks 2311 [aR 1000, aR 0, aR 72, aR 81, aR 82, aI x5, aI x6, aI xs0, aU] (v ++ []) ρ' h' Q X) X) :
    am_V M_L_law kc ks 2305 [aR 1000, aR 0, aR 72, aR 81, aR 82, aI x5, aI x6, aU, aU] [aI xs0] am_R0 h Q X := by
  refine v_istore (E2 := [aR 1000, aR 0, aR 72, aR 81, aR 82, aI x5, aI x6, aI xs0, aU]) dL_law_2305 (Nat.le_of_ble_eq_true rfl) rfl ?_
  refine v_aload_n dL_law_2307 rfl rfl ?_
  exact v_callV (j := M_X11_thrown) (As := []) (st := []) (E0 := [aR 72]) (a := 72) (ci := 9) (N := 11) (q9 := (RX11, TX11, 11)) dL_law_2308 ml_L_195 J_X11_thrown (Nat.zero_le _) (Nat.zero_le _) (Nat.le_of_ble_eq_true rfl) rfl (Nat.le_of_ble_eq_true rfl) (List.forall_mem_cons.mpr ⟨rfl, fun _ h9 => absurd h9 List.not_mem_nil⟩) (Nat.le_of_ble_eq_true rfl) rfl rfl rfl rfl pn_X11_thrown rfl k
theorem S_law_2311 {kc ks : Nat} {h : Hh} {Q : PQ} {X : PX} {x5 : Int} {x6 : Int} {x7 : Int} {xs0 : Int}
    (k : ((xs0 = x6 → ((x6 ≠ 0 → ((-2147483648 ≤ ((x5 + 10) : Int) ∧ ((x5 + 10) : Int) < 2147483648)) ∧ am_V M_L_law kc ks 28 [aR 1000, aR 0, aR 72, aR 81, aR 82, aI (x5 + 10), aU, aU, aU] [] am_R0 h Q X) ∧ (x6 = 0 → ((0 : Int) ≤ 0 ∧ (0 : Int) < 1) ∧ (((if x7 < (h 81 0) then 1 else if (h 81 0) = x7 then 0 else -1) = 0 → ((-2147483648 ≤ ((x5 + 10) : Int) ∧ ((x5 + 10) : Int) < 2147483648)) ∧ am_V M_L_law kc ks 28 [aR 1000, aR 0, aR 72, aR 81, aR 82, aI (x5 + 10), aU, aU, aU] [] am_R0 h Q X) ∧ ((if x7 < (h 81 0) then 1 else if (h 81 0) = x7 then 0 else -1) ≠ 0 → Q [aI 0] am_R0 h))))) ∧ (xs0 ≠ x6 → Q [aI 0] am_R0 h))) :
    am_V M_L_law kc ks 2311 [aR 1000, aR 0, aR 72, aR 81, aR 82, aI x5, aI x6, aI x7, aU] [aI xs0] am_R0 h Q X := by
  refine v_iload dL_law_2311 rfl ?_
  refine v_icmp_eq (tgt := 2318) dL_law_2313 (by decide) (fun z => ?_) (fun z => ?_)
  · have k := k.1 z
    refine v_iload dL_law_2318 rfl ?_
    refine v_if_ne (tgt := 2335) dL_law_2320 (by decide) (fun z => ?_) (fun z => ?_)
    · have k := k.1 z
      obtain ⟨b2_1, k⟩ := k
      refine v_goto (tgt := 3556) dL_law_2335 (by decide) ?_
      refine v_iinc (E2 := [aR 1000, aR 0, aR 72, aR 81, aR 82, aI (x5 + 10), aI x6, aI x7, aU]) dL_law_3556 rfl b2_1 rfl ?_
      refine v_goto (tgt := 28) dL_law_3559 (by decide) ?_
      refine v_weak (E2 := [aR 1000, aR 0, aR 72, aR 81, aR 82, aI (x5 + 10), aU, aU, aU]) ⟨Or.inl rfl, ⟨Or.inl rfl, ⟨Or.inl rfl, ⟨Or.inl rfl, ⟨Or.inl rfl, ⟨Or.inl rfl, ⟨Or.inr rfl, ⟨Or.inr rfl, ⟨Or.inl rfl, trivial⟩⟩⟩⟩⟩⟩⟩⟩⟩ ?_
      exact k
    · have k := k.2 z
      obtain ⟨⟨b2_1, b2_2⟩, k⟩ := k
      refine v_aload_n dL_law_2323 rfl rfl ?_
      refine v_iconst dL_law_2324 ⟨by decide, by decide⟩ ?_
      refine v_lald dL_law_2325 rfl b2_1 b2_2 ?_
      refine v_iload dL_law_2326 rfl ?_
      refine v_i2l dL_law_2328 ?_
      refine v_lcmp dL_law_2329 ?_
      refine v_if_eq (tgt := 2335) dL_law_2330 (by decide) (fun z => ?_) (fun z => ?_)
      · have k := k.1 z
        obtain ⟨b3_1, k⟩ := k
        refine v_goto (tgt := 3556) dL_law_2335 (by decide) ?_
        refine v_iinc (E2 := [aR 1000, aR 0, aR 72, aR 81, aR 82, aI (x5 + 10), aI x6, aI x7, aU]) dL_law_3556 rfl b3_1 rfl ?_
        refine v_goto (tgt := 28) dL_law_3559 (by decide) ?_
        refine v_weak (E2 := [aR 1000, aR 0, aR 72, aR 81, aR 82, aI (x5 + 10), aU, aU, aU]) ⟨Or.inl rfl, ⟨Or.inl rfl, ⟨Or.inl rfl, ⟨Or.inl rfl, ⟨Or.inl rfl, ⟨Or.inl rfl, ⟨Or.inr rfl, ⟨Or.inr rfl, ⟨Or.inl rfl, trivial⟩⟩⟩⟩⟩⟩⟩⟩⟩ ?_
        exact k
      · have k := k.2 z
        refine v_iconst dL_law_2333 ⟨by decide, by decide⟩ ?_
        exact v_lawret dL_law_2334 rfl k
  · have k := k.2 z
    refine v_iconst dL_law_2316 ⟨by decide, by decide⟩ ?_
    exact v_lawret dL_law_2317 rfl k
theorem S_law_2338 {kc ks : Nat} {h : Hh} {Q : PQ} {X : PX} {x5 : Int}
    (k : ((-2147483648 ≤ ((x5 + 1) : Int) ∧ ((x5 + 1) : Int) < 2147483648) ∧ (0 : Int) ≤ (x5 + 1) ∧ ((x5 + 1) : Int) < h 1001 0 ∧ (-2147483648 ≤ ((x5 + 2) : Int) ∧ ((x5 + 2) : Int) < 2147483648) ∧ (0 : Int) ≤ (x5 + 2) ∧ ((x5 + 2) : Int) < h 1001 0 ∧ 2 ≤ kc ∧ 12 ≤ ks) ∧ am_V M_L_first 2 12 0 [aR 0, aI (h 1000 (x5 + 1)), aI (h 1000 (x5 + 2)), aR 81, aU] [] am_R0 h (fun v ρ' h' => am_V M_L_law (kc - 2) (ks - 12) 2355 [aR 1000, aR 0, aR 72, aR 81, aR 82, aI x5, aU, aU, aU] (v ++ []) ρ' h' Q X) X) :
    am_V M_L_law kc ks 2338 [aR 1000, aR 0, aR 72, aR 81, aR 82, aI x5, aU, aU, aU] [] am_R0 h Q X := by
  obtain ⟨⟨b0_1, b0_2, b0_3, b0_4, b0_5, b0_6, b0_7, b0_8⟩, k⟩ := k
  refine v_aload_n dL_law_2338 rfl rfl ?_
  refine v_aload_n dL_law_2339 rfl rfl ?_
  refine v_iload dL_law_2340 rfl ?_
  refine v_iconst dL_law_2342 ⟨by decide, by decide⟩ ?_
  refine v_iadd dL_law_2343 b0_1 ?_
  refine v_sld dL_law_2344 rfl b0_2 b0_3 (fun _ => ?_)
  refine v_aload_n dL_law_2345 rfl rfl ?_
  refine v_iload dL_law_2346 rfl ?_
  refine v_iconst dL_law_2348 ⟨by decide, by decide⟩ ?_
  refine v_iadd dL_law_2349 b0_4 ?_
  refine v_sld dL_law_2350 rfl b0_5 b0_6 (fun _ => ?_)
  refine v_aload_n dL_law_2351 rfl rfl ?_
  exact v_callSX (j := M_L_first) (As := [aR 0, aI (h 1000 (x5 + 1)), aI (h 1000 (x5 + 2)), aR 81]) (st := []) (E0 := [aR 0, aI (h 1000 (x5 + 1)), aI (h 1000 (x5 + 2)), aR 81, aU]) dL_law_2352 ms_L_300 J_L_first b0_7 b0_8 (Nat.le_of_ble_eq_true rfl) rfl (Nat.le_of_ble_eq_true rfl) (List.forall_mem_cons.mpr ⟨rfl, List.forall_mem_cons.mpr ⟨rfl, List.forall_mem_cons.mpr ⟨rfl, List.forall_mem_cons.mpr ⟨rfl, fun _ h9 => absurd h9 List.not_mem_nil⟩⟩⟩⟩) (Nat.le_of_ble_eq_true rfl) rfl pn_L_first rfl k
theorem S_law_2355 {kc ks : Nat} {h : Hh} {Q : PQ} {X : PX} {x5 : Int} {xs0 : Int}
    (k : ((-2147483648 ≤ ((x5 + 1) : Int) ∧ ((x5 + 1) : Int) < 2147483648) ∧ (0 : Int) ≤ (x5 + 1) ∧ ((x5 + 1) : Int) < h 1001 0 ∧ (-2147483648 ≤ ((x5 + 2) : Int) ∧ ((x5 + 2) : Int) < 2147483648) ∧ (0 : Int) ≤ (x5 + 2) ∧ ((x5 + 2) : Int) < h 1001 0) ∧ am_V M_X11_first 0 0 0 [aR 72, aI (h 1000 (x5 + 1)), aI (h 1000 (x5 + 2))] [] am_R0 h (fun v ρ' h' => am_V M_L_law kc ks 2373 [aR 1000, aR 0, aR 72, aR 81, aR 82, aI x5, aI xs0, aU, aU] (v ++ []) ρ' h' Q X) X) :
    am_V M_L_law kc ks 2355 [aR 1000, aR 0, aR 72, aR 81, aR 82, aI x5, aU, aU, aU] [aI xs0] am_R0 h Q X := by
  obtain ⟨⟨b0_1, b0_2, b0_3, b0_4, b0_5, b0_6⟩, k⟩ := k
  refine v_istore (E2 := [aR 1000, aR 0, aR 72, aR 81, aR 82, aI x5, aI xs0, aU, aU]) dL_law_2355 (Nat.le_of_ble_eq_true rfl) rfl ?_
  refine v_aload_n dL_law_2357 rfl rfl ?_
  refine v_aload_n dL_law_2358 rfl rfl ?_
  refine v_iload dL_law_2359 rfl ?_
  refine v_iconst dL_law_2361 ⟨by decide, by decide⟩ ?_
  refine v_iadd dL_law_2362 b0_1 ?_
  refine v_sld dL_law_2363 rfl b0_2 b0_3 (fun _ => ?_)
  refine v_aload_n dL_law_2364 rfl rfl ?_
  refine v_iload dL_law_2365 rfl ?_
  refine v_iconst dL_law_2367 ⟨by decide, by decide⟩ ?_
  refine v_iadd dL_law_2368 b0_4 ?_
  refine v_sld dL_law_2369 rfl b0_5 b0_6 (fun _ => ?_)
  exact v_callV (j := M_X11_first) (As := [aI (h 1000 (x5 + 1)), aI (h 1000 (x5 + 2))]) (st := []) (E0 := [aR 72, aI (h 1000 (x5 + 1)), aI (h 1000 (x5 + 2))]) (a := 72) (ci := 9) (N := 11) (q9 := (RX11, TX11, 11)) dL_law_2370 ml_L_302 J_X11_first (Nat.zero_le _) (Nat.zero_le _) (Nat.le_of_ble_eq_true rfl) rfl (Nat.le_of_ble_eq_true rfl) (List.forall_mem_cons.mpr ⟨rfl, List.forall_mem_cons.mpr ⟨rfl, List.forall_mem_cons.mpr ⟨rfl, fun _ h9 => absurd h9 List.not_mem_nil⟩⟩⟩) (Nat.le_of_ble_eq_true rfl) rfl rfl rfl rfl pn_X11_first rfl k
theorem S_law_2373 {kc ks : Nat} {h : Hh} {Q : PQ} {X : PX} {x5 : Int} {x6 : Int} {xs0 : Int}
    (k : am_V M_X11_thrown 0 0 0 [aR 72] [] am_R0 h (fun v ρ' h' => am_V M_L_law kc ks 2379 [aR 1000, aR 0, aR 72, aR 81, aR 82, aI x5, aI x6, aI xs0, aU] (v ++ []) ρ' h' Q X) X) :
    am_V M_L_law kc ks 2373 [aR 1000, aR 0, aR 72, aR 81, aR 82, aI x5, aI x6, aU, aU] [aI xs0] am_R0 h Q X := by
  refine v_istore (E2 := [aR 1000, aR 0, aR 72, aR 81, aR 82, aI x5, aI x6, aI xs0, aU]) dL_law_2373 (Nat.le_of_ble_eq_true rfl) rfl ?_
  refine v_aload_n dL_law_2375 rfl rfl ?_
  exact v_callV (j := M_X11_thrown) (As := []) (st := []) (E0 := [aR 72]) (a := 72) (ci := 9) (N := 11) (q9 := (RX11, TX11, 11)) dL_law_2376 ml_L_195 J_X11_thrown (Nat.zero_le _) (Nat.zero_le _) (Nat.le_of_ble_eq_true rfl) rfl (Nat.le_of_ble_eq_true rfl) (List.forall_mem_cons.mpr ⟨rfl, fun _ h9 => absurd h9 List.not_mem_nil⟩) (Nat.le_of_ble_eq_true rfl) rfl rfl rfl rfl pn_X11_thrown rfl k
theorem S_law_2379 {kc ks : Nat} {h : Hh} {Q : PQ} {X : PX} {x5 : Int} {x6 : Int} {x7 : Int} {xs0 : Int}
    (k : ((xs0 = x6 → ((x6 ≠ 0 → ((-2147483648 ≤ ((x5 + 10) : Int) ∧ ((x5 + 10) : Int) < 2147483648)) ∧ am_V M_L_law kc ks 28 [aR 1000, aR 0, aR 72, aR 81, aR 82, aI (x5 + 10), aU, aU, aU] [] am_R0 h Q X) ∧ (x6 = 0 → ((0 : Int) ≤ 0 ∧ (0 : Int) < 1) ∧ (((if x7 < (h 81 0) then 1 else if (h 81 0) = x7 then 0 else -1) = 0 → ((-2147483648 ≤ ((x5 + 10) : Int) ∧ ((x5 + 10) : Int) < 2147483648)) ∧ am_V M_L_law kc ks 28 [aR 1000, aR 0, aR 72, aR 81, aR 82, aI (x5 + 10), aU, aU, aU] [] am_R0 h Q X) ∧ ((if x7 < (h 81 0) then 1 else if (h 81 0) = x7 then 0 else -1) ≠ 0 → Q [aI 0] am_R0 h))))) ∧ (xs0 ≠ x6 → Q [aI 0] am_R0 h))) :
    am_V M_L_law kc ks 2379 [aR 1000, aR 0, aR 72, aR 81, aR 82, aI x5, aI x6, aI x7, aU] [aI xs0] am_R0 h Q X := by
  refine v_iload dL_law_2379 rfl ?_
  refine v_icmp_eq (tgt := 2386) dL_law_2381 (by decide) (fun z => ?_) (fun z => ?_)
  · have k := k.1 z
    refine v_iload dL_law_2386 rfl ?_
    refine v_if_ne (tgt := 2403) dL_law_2388 (by decide) (fun z => ?_) (fun z => ?_)
    · have k := k.1 z
      obtain ⟨b2_1, k⟩ := k
      refine v_goto (tgt := 3556) dL_law_2403 (by decide) ?_
      refine v_iinc (E2 := [aR 1000, aR 0, aR 72, aR 81, aR 82, aI (x5 + 10), aI x6, aI x7, aU]) dL_law_3556 rfl b2_1 rfl ?_
      refine v_goto (tgt := 28) dL_law_3559 (by decide) ?_
      refine v_weak (E2 := [aR 1000, aR 0, aR 72, aR 81, aR 82, aI (x5 + 10), aU, aU, aU]) ⟨Or.inl rfl, ⟨Or.inl rfl, ⟨Or.inl rfl, ⟨Or.inl rfl, ⟨Or.inl rfl, ⟨Or.inl rfl, ⟨Or.inr rfl, ⟨Or.inr rfl, ⟨Or.inl rfl, trivial⟩⟩⟩⟩⟩⟩⟩⟩⟩ ?_
      exact k
    · have k := k.2 z
      obtain ⟨⟨b2_1, b2_2⟩, k⟩ := k
      refine v_aload_n dL_law_2391 rfl rfl ?_
      refine v_iconst dL_law_2392 ⟨by decide, by decide⟩ ?_
      refine v_lald dL_law_2393 rfl b2_1 b2_2 ?_
      refine v_iload dL_law_2394 rfl ?_
      refine v_i2l dL_law_2396 ?_
      refine v_lcmp dL_law_2397 ?_
      refine v_if_eq (tgt := 2403) dL_law_2398 (by decide) (fun z => ?_) (fun z => ?_)
      · have k := k.1 z
        obtain ⟨b3_1, k⟩ := k
        refine v_goto (tgt := 3556) dL_law_2403 (by decide) ?_
        refine v_iinc (E2 := [aR 1000, aR 0, aR 72, aR 81, aR 82, aI (x5 + 10), aI x6, aI x7, aU]) dL_law_3556 rfl b3_1 rfl ?_
        refine v_goto (tgt := 28) dL_law_3559 (by decide) ?_
        refine v_weak (E2 := [aR 1000, aR 0, aR 72, aR 81, aR 82, aI (x5 + 10), aU, aU, aU]) ⟨Or.inl rfl, ⟨Or.inl rfl, ⟨Or.inl rfl, ⟨Or.inl rfl, ⟨Or.inl rfl, ⟨Or.inl rfl, ⟨Or.inr rfl, ⟨Or.inr rfl, ⟨Or.inl rfl, trivial⟩⟩⟩⟩⟩⟩⟩⟩⟩ ?_
        exact k
      · have k := k.2 z
        refine v_iconst dL_law_2401 ⟨by decide, by decide⟩ ?_
        exact v_lawret dL_law_2402 rfl k
  · have k := k.2 z
    refine v_iconst dL_law_2384 ⟨by decide, by decide⟩ ?_
    exact v_lawret dL_law_2385 rfl k
theorem S_law_2406 {kc ks : Nat} {h : Hh} {Q : PQ} {X : PX} {x5 : Int}
    (k : ((-2147483648 ≤ ((x5 + 1) : Int) ∧ ((x5 + 1) : Int) < 2147483648) ∧ (0 : Int) ≤ (x5 + 1) ∧ ((x5 + 1) : Int) < h 1001 0 ∧ (-2147483648 ≤ ((x5 + 2) : Int) ∧ ((x5 + 2) : Int) < 2147483648) ∧ (0 : Int) ≤ (x5 + 2) ∧ ((x5 + 2) : Int) < h 1001 0 ∧ 2 ≤ kc ∧ 12 ≤ ks) ∧ am_V M_L_last 2 12 0 [aR 0, aI (h 1000 (x5 + 1)), aI (h 1000 (x5 + 2)), aR 81, aU] [] am_R0 h (fun v ρ' h' => am_V M_L_law (kc - 2) (ks - 12) 2423 [aR 1000, aR 0, aR 72, aR 81, aR 82, aI x5, aU, aU, aU] (v ++ []) ρ' h' Q X) X) :
    am_V M_L_law kc ks 2406 [aR 1000, aR 0, aR 72, aR 81, aR 82, aI x5, aU, aU, aU] [] am_R0 h Q X := by
  obtain ⟨⟨b0_1, b0_2, b0_3, b0_4, b0_5, b0_6, b0_7, b0_8⟩, k⟩ := k
  refine v_aload_n dL_law_2406 rfl rfl ?_
  refine v_aload_n dL_law_2407 rfl rfl ?_
  refine v_iload dL_law_2408 rfl ?_
  refine v_iconst dL_law_2410 ⟨by decide, by decide⟩ ?_
  refine v_iadd dL_law_2411 b0_1 ?_
  refine v_sld dL_law_2412 rfl b0_2 b0_3 (fun _ => ?_)
  refine v_aload_n dL_law_2413 rfl rfl ?_
  refine v_iload dL_law_2414 rfl ?_
  refine v_iconst dL_law_2416 ⟨by decide, by decide⟩ ?_
  refine v_iadd dL_law_2417 b0_4 ?_
  refine v_sld dL_law_2418 rfl b0_5 b0_6 (fun _ => ?_)
  refine v_aload_n dL_law_2419 rfl rfl ?_
  exact v_callSX (j := M_L_last) (As := [aR 0, aI (h 1000 (x5 + 1)), aI (h 1000 (x5 + 2)), aR 81]) (st := []) (E0 := [aR 0, aI (h 1000 (x5 + 1)), aI (h 1000 (x5 + 2)), aR 81, aU]) dL_law_2420 ms_L_303 J_L_last b0_7 b0_8 (Nat.le_of_ble_eq_true rfl) rfl (Nat.le_of_ble_eq_true rfl) (List.forall_mem_cons.mpr ⟨rfl, List.forall_mem_cons.mpr ⟨rfl, List.forall_mem_cons.mpr ⟨rfl, List.forall_mem_cons.mpr ⟨rfl, fun _ h9 => absurd h9 List.not_mem_nil⟩⟩⟩⟩) (Nat.le_of_ble_eq_true rfl) rfl pn_L_last rfl k
theorem S_law_2423 {kc ks : Nat} {h : Hh} {Q : PQ} {X : PX} {x5 : Int} {xs0 : Int}
    (k : ((-2147483648 ≤ ((x5 + 1) : Int) ∧ ((x5 + 1) : Int) < 2147483648) ∧ (0 : Int) ≤ (x5 + 1) ∧ ((x5 + 1) : Int) < h 1001 0 ∧ (-2147483648 ≤ ((x5 + 2) : Int) ∧ ((x5 + 2) : Int) < 2147483648) ∧ (0 : Int) ≤ (x5 + 2) ∧ ((x5 + 2) : Int) < h 1001 0) ∧ am_V M_X11_last 0 0 0 [aR 72, aI (h 1000 (x5 + 1)), aI (h 1000 (x5 + 2))] [] am_R0 h (fun v ρ' h' => am_V M_L_law kc ks 2441 [aR 1000, aR 0, aR 72, aR 81, aR 82, aI x5, aI xs0, aU, aU] (v ++ []) ρ' h' Q X) X) :
    am_V M_L_law kc ks 2423 [aR 1000, aR 0, aR 72, aR 81, aR 82, aI x5, aU, aU, aU] [aI xs0] am_R0 h Q X := by
  obtain ⟨⟨b0_1, b0_2, b0_3, b0_4, b0_5, b0_6⟩, k⟩ := k
  refine v_istore (E2 := [aR 1000, aR 0, aR 72, aR 81, aR 82, aI x5, aI xs0, aU, aU]) dL_law_2423 (Nat.le_of_ble_eq_true rfl) rfl ?_
  refine v_aload_n dL_law_2425 rfl rfl ?_
  refine v_aload_n dL_law_2426 rfl rfl ?_
  refine v_iload dL_law_2427 rfl ?_
  refine v_iconst dL_law_2429 ⟨by decide, by decide⟩ ?_
  refine v_iadd dL_law_2430 b0_1 ?_
  refine v_sld dL_law_2431 rfl b0_2 b0_3 (fun _ => ?_)
  refine v_aload_n dL_law_2432 rfl rfl ?_
  refine v_iload dL_law_2433 rfl ?_
  refine v_iconst dL_law_2435 ⟨by decide, by decide⟩ ?_
  refine v_iadd dL_law_2436 b0_4 ?_
  refine v_sld dL_law_2437 rfl b0_5 b0_6 (fun _ => ?_)
  exact v_callV (j := M_X11_last) (As := [aI (h 1000 (x5 + 1)), aI (h 1000 (x5 + 2))]) (st := []) (E0 := [aR 72, aI (h 1000 (x5 + 1)), aI (h 1000 (x5 + 2))]) (a := 72) (ci := 9) (N := 11) (q9 := (RX11, TX11, 11)) dL_law_2438 ml_L_305 J_X11_last (Nat.zero_le _) (Nat.zero_le _) (Nat.le_of_ble_eq_true rfl) rfl (Nat.le_of_ble_eq_true rfl) (List.forall_mem_cons.mpr ⟨rfl, List.forall_mem_cons.mpr ⟨rfl, List.forall_mem_cons.mpr ⟨rfl, fun _ h9 => absurd h9 List.not_mem_nil⟩⟩⟩) (Nat.le_of_ble_eq_true rfl) rfl rfl rfl rfl pn_X11_last rfl k
theorem S_law_2441 {kc ks : Nat} {h : Hh} {Q : PQ} {X : PX} {x5 : Int} {x6 : Int} {xs0 : Int}
    (k : am_V M_X11_thrown 0 0 0 [aR 72] [] am_R0 h (fun v ρ' h' => am_V M_L_law kc ks 2447 [aR 1000, aR 0, aR 72, aR 81, aR 82, aI x5, aI x6, aI xs0, aU] (v ++ []) ρ' h' Q X) X) :
    am_V M_L_law kc ks 2441 [aR 1000, aR 0, aR 72, aR 81, aR 82, aI x5, aI x6, aU, aU] [aI xs0] am_R0 h Q X := by
  refine v_istore (E2 := [aR 1000, aR 0, aR 72, aR 81, aR 82, aI x5, aI x6, aI xs0, aU]) dL_law_2441 (Nat.le_of_ble_eq_true rfl) rfl ?_
  refine v_aload_n dL_law_2443 rfl rfl ?_
  exact v_callV (j := M_X11_thrown) (As := []) (st := []) (E0 := [aR 72]) (a := 72) (ci := 9) (N := 11) (q9 := (RX11, TX11, 11)) dL_law_2444 ml_L_195 J_X11_thrown (Nat.zero_le _) (Nat.zero_le _) (Nat.le_of_ble_eq_true rfl) rfl (Nat.le_of_ble_eq_true rfl) (List.forall_mem_cons.mpr ⟨rfl, fun _ h9 => absurd h9 List.not_mem_nil⟩) (Nat.le_of_ble_eq_true rfl) rfl rfl rfl rfl pn_X11_thrown rfl k
theorem S_law_2447 {kc ks : Nat} {h : Hh} {Q : PQ} {X : PX} {x5 : Int} {x6 : Int} {x7 : Int} {xs0 : Int}
    (k : ((xs0 = x6 → ((x6 ≠ 0 → ((-2147483648 ≤ ((x5 + 10) : Int) ∧ ((x5 + 10) : Int) < 2147483648)) ∧ am_V M_L_law kc ks 28 [aR 1000, aR 0, aR 72, aR 81, aR 82, aI (x5 + 10), aU, aU, aU] [] am_R0 h Q X) ∧ (x6 = 0 → ((0 : Int) ≤ 0 ∧ (0 : Int) < 1) ∧ (((if x7 < (h 81 0) then 1 else if (h 81 0) = x7 then 0 else -1) = 0 → ((-2147483648 ≤ ((x5 + 10) : Int) ∧ ((x5 + 10) : Int) < 2147483648)) ∧ am_V M_L_law kc ks 28 [aR 1000, aR 0, aR 72, aR 81, aR 82, aI (x5 + 10), aU, aU, aU] [] am_R0 h Q X) ∧ ((if x7 < (h 81 0) then 1 else if (h 81 0) = x7 then 0 else -1) ≠ 0 → Q [aI 0] am_R0 h))))) ∧ (xs0 ≠ x6 → Q [aI 0] am_R0 h))) :
    am_V M_L_law kc ks 2447 [aR 1000, aR 0, aR 72, aR 81, aR 82, aI x5, aI x6, aI x7, aU] [aI xs0] am_R0 h Q X := by
  refine v_iload dL_law_2447 rfl ?_
  refine v_icmp_eq (tgt := 2454) dL_law_2449 (by decide) (fun z => ?_) (fun z => ?_)
  · have k := k.1 z
    refine v_iload dL_law_2454 rfl ?_
    refine v_if_ne (tgt := 2471) dL_law_2456 (by decide) (fun z => ?_) (fun z => ?_)
    · have k := k.1 z
      obtain ⟨b2_1, k⟩ := k
      refine v_goto (tgt := 3556) dL_law_2471 (by decide) ?_
      refine v_iinc (E2 := [aR 1000, aR 0, aR 72, aR 81, aR 82, aI (x5 + 10), aI x6, aI x7, aU]) dL_law_3556 rfl b2_1 rfl ?_
      refine v_goto (tgt := 28) dL_law_3559 (by decide) ?_
      refine v_weak (E2 := [aR 1000, aR 0, aR 72, aR 81, aR 82, aI (x5 + 10), aU, aU, aU]) ⟨Or.inl rfl, ⟨Or.inl rfl, ⟨Or.inl rfl, ⟨Or.inl rfl, ⟨Or.inl rfl, ⟨Or.inl rfl, ⟨Or.inr rfl, ⟨Or.inr rfl, ⟨Or.inl rfl, trivial⟩⟩⟩⟩⟩⟩⟩⟩⟩ ?_
      exact k
    · have k := k.2 z
      obtain ⟨⟨b2_1, b2_2⟩, k⟩ := k
      refine v_aload_n dL_law_2459 rfl rfl ?_
      refine v_iconst dL_law_2460 ⟨by decide, by decide⟩ ?_
      refine v_lald dL_law_2461 rfl b2_1 b2_2 ?_
      refine v_iload dL_law_2462 rfl ?_
      refine v_i2l dL_law_2464 ?_
      refine v_lcmp dL_law_2465 ?_
      refine v_if_eq (tgt := 2471) dL_law_2466 (by decide) (fun z => ?_) (fun z => ?_)
      · have k := k.1 z
        obtain ⟨b3_1, k⟩ := k
        refine v_goto (tgt := 3556) dL_law_2471 (by decide) ?_
        refine v_iinc (E2 := [aR 1000, aR 0, aR 72, aR 81, aR 82, aI (x5 + 10), aI x6, aI x7, aU]) dL_law_3556 rfl b3_1 rfl ?_
        refine v_goto (tgt := 28) dL_law_3559 (by decide) ?_
        refine v_weak (E2 := [aR 1000, aR 0, aR 72, aR 81, aR 82, aI (x5 + 10), aU, aU, aU]) ⟨Or.inl rfl, ⟨Or.inl rfl, ⟨Or.inl rfl, ⟨Or.inl rfl, ⟨Or.inl rfl, ⟨Or.inl rfl, ⟨Or.inr rfl, ⟨Or.inr rfl, ⟨Or.inl rfl, trivial⟩⟩⟩⟩⟩⟩⟩⟩⟩ ?_
        exact k
      · have k := k.2 z
        refine v_iconst dL_law_2469 ⟨by decide, by decide⟩ ?_
        exact v_lawret dL_law_2470 rfl k
  · have k := k.2 z
    refine v_iconst dL_law_2452 ⟨by decide, by decide⟩ ?_
    exact v_lawret dL_law_2453 rfl k
theorem S_law_2474 {kc ks : Nat} {h : Hh} {Q : PQ} {X : PX} {x5 : Int}
    (k : ((-2147483648 ≤ ((x5 + 1) : Int) ∧ ((x5 + 1) : Int) < 2147483648) ∧ (0 : Int) ≤ (x5 + 1) ∧ ((x5 + 1) : Int) < h 1001 0 ∧ (-2147483648 ≤ ((x5 + 2) : Int) ∧ ((x5 + 2) : Int) < 2147483648) ∧ (0 : Int) ≤ (x5 + 2) ∧ ((x5 + 2) : Int) < h 1001 0 ∧ 2 ≤ kc ∧ 12 ≤ ks) ∧ am_V M_L_back 2 12 0 [aR 0, aI (h 1000 (x5 + 1)), aI (h 1000 (x5 + 2)), aR 81, aU] [] am_R0 h (fun v ρ' h' => am_V M_L_law (kc - 2) (ks - 12) 2491 [aR 1000, aR 0, aR 72, aR 81, aR 82, aI x5, aU, aU, aU] (v ++ []) ρ' h' Q X) X) :
    am_V M_L_law kc ks 2474 [aR 1000, aR 0, aR 72, aR 81, aR 82, aI x5, aU, aU, aU] [] am_R0 h Q X := by
  obtain ⟨⟨b0_1, b0_2, b0_3, b0_4, b0_5, b0_6, b0_7, b0_8⟩, k⟩ := k
  refine v_aload_n dL_law_2474 rfl rfl ?_
  refine v_aload_n dL_law_2475 rfl rfl ?_
  refine v_iload dL_law_2476 rfl ?_
  refine v_iconst dL_law_2478 ⟨by decide, by decide⟩ ?_
  refine v_iadd dL_law_2479 b0_1 ?_
  refine v_sld dL_law_2480 rfl b0_2 b0_3 (fun _ => ?_)
  refine v_aload_n dL_law_2481 rfl rfl ?_
  refine v_iload dL_law_2482 rfl ?_
  refine v_iconst dL_law_2484 ⟨by decide, by decide⟩ ?_
  refine v_iadd dL_law_2485 b0_4 ?_
  refine v_sld dL_law_2486 rfl b0_5 b0_6 (fun _ => ?_)
  refine v_aload_n dL_law_2487 rfl rfl ?_
  exact v_callSX (j := M_L_back) (As := [aR 0, aI (h 1000 (x5 + 1)), aI (h 1000 (x5 + 2)), aR 81]) (st := []) (E0 := [aR 0, aI (h 1000 (x5 + 1)), aI (h 1000 (x5 + 2)), aR 81, aU]) dL_law_2488 ms_L_306 J_L_back b0_7 b0_8 (Nat.le_of_ble_eq_true rfl) rfl (Nat.le_of_ble_eq_true rfl) (List.forall_mem_cons.mpr ⟨rfl, List.forall_mem_cons.mpr ⟨rfl, List.forall_mem_cons.mpr ⟨rfl, List.forall_mem_cons.mpr ⟨rfl, fun _ h9 => absurd h9 List.not_mem_nil⟩⟩⟩⟩) (Nat.le_of_ble_eq_true rfl) rfl pn_L_back rfl k
theorem S_law_2491 {kc ks : Nat} {h : Hh} {Q : PQ} {X : PX} {x5 : Int} {xs0 : Int}
    (k : ((-2147483648 ≤ ((x5 + 1) : Int) ∧ ((x5 + 1) : Int) < 2147483648) ∧ (0 : Int) ≤ (x5 + 1) ∧ ((x5 + 1) : Int) < h 1001 0 ∧ (-2147483648 ≤ ((x5 + 2) : Int) ∧ ((x5 + 2) : Int) < 2147483648) ∧ (0 : Int) ≤ (x5 + 2) ∧ ((x5 + 2) : Int) < h 1001 0) ∧ am_V M_X11_back 0 0 0 [aR 72, aI (h 1000 (x5 + 1)), aI (h 1000 (x5 + 2)), aU, aU] [] am_R0 h (fun v ρ' h' => am_V M_L_law kc ks 2509 [aR 1000, aR 0, aR 72, aR 81, aR 82, aI x5, aI xs0, aU, aU] (v ++ []) ρ' h' Q X) X) :
    am_V M_L_law kc ks 2491 [aR 1000, aR 0, aR 72, aR 81, aR 82, aI x5, aU, aU, aU] [aI xs0] am_R0 h Q X := by
  obtain ⟨⟨b0_1, b0_2, b0_3, b0_4, b0_5, b0_6⟩, k⟩ := k
  refine v_istore (E2 := [aR 1000, aR 0, aR 72, aR 81, aR 82, aI x5, aI xs0, aU, aU]) dL_law_2491 (Nat.le_of_ble_eq_true rfl) rfl ?_
  refine v_aload_n dL_law_2493 rfl rfl ?_
  refine v_aload_n dL_law_2494 rfl rfl ?_
  refine v_iload dL_law_2495 rfl ?_
  refine v_iconst dL_law_2497 ⟨by decide, by decide⟩ ?_
  refine v_iadd dL_law_2498 b0_1 ?_
  refine v_sld dL_law_2499 rfl b0_2 b0_3 (fun _ => ?_)
  refine v_aload_n dL_law_2500 rfl rfl ?_
  refine v_iload dL_law_2501 rfl ?_
  refine v_iconst dL_law_2503 ⟨by decide, by decide⟩ ?_
  refine v_iadd dL_law_2504 b0_4 ?_
  refine v_sld dL_law_2505 rfl b0_5 b0_6 (fun _ => ?_)
  exact v_callV (j := M_X11_back) (As := [aI (h 1000 (x5 + 1)), aI (h 1000 (x5 + 2))]) (st := []) (E0 := [aR 72, aI (h 1000 (x5 + 1)), aI (h 1000 (x5 + 2)), aU, aU]) (a := 72) (ci := 9) (N := 11) (q9 := (RX11, TX11, 11)) dL_law_2506 ml_L_308 J_X11_back (Nat.zero_le _) (Nat.zero_le _) (Nat.le_of_ble_eq_true rfl) rfl (Nat.le_of_ble_eq_true rfl) (List.forall_mem_cons.mpr ⟨rfl, List.forall_mem_cons.mpr ⟨rfl, List.forall_mem_cons.mpr ⟨rfl, fun _ h9 => absurd h9 List.not_mem_nil⟩⟩⟩) (Nat.le_of_ble_eq_true rfl) rfl rfl rfl rfl pn_X11_back rfl k
theorem S_law_2509 {kc ks : Nat} {h : Hh} {Q : PQ} {X : PX} {x5 : Int} {x6 : Int} {xs0 : Int}
    (k : am_V M_X11_thrown 0 0 0 [aR 72] [] am_R0 h (fun v ρ' h' => am_V M_L_law kc ks 2515 [aR 1000, aR 0, aR 72, aR 81, aR 82, aI x5, aI x6, aI xs0, aU] (v ++ []) ρ' h' Q X) X) :
    am_V M_L_law kc ks 2509 [aR 1000, aR 0, aR 72, aR 81, aR 82, aI x5, aI x6, aU, aU] [aI xs0] am_R0 h Q X := by
  refine v_istore (E2 := [aR 1000, aR 0, aR 72, aR 81, aR 82, aI x5, aI x6, aI xs0, aU]) dL_law_2509 (Nat.le_of_ble_eq_true rfl) rfl ?_
  refine v_aload_n dL_law_2511 rfl rfl ?_
  exact v_callV (j := M_X11_thrown) (As := []) (st := []) (E0 := [aR 72]) (a := 72) (ci := 9) (N := 11) (q9 := (RX11, TX11, 11)) dL_law_2512 ml_L_195 J_X11_thrown (Nat.zero_le _) (Nat.zero_le _) (Nat.le_of_ble_eq_true rfl) rfl (Nat.le_of_ble_eq_true rfl) (List.forall_mem_cons.mpr ⟨rfl, fun _ h9 => absurd h9 List.not_mem_nil⟩) (Nat.le_of_ble_eq_true rfl) rfl rfl rfl rfl pn_X11_thrown rfl k
theorem S_law_2515 {kc ks : Nat} {h : Hh} {Q : PQ} {X : PX} {x5 : Int} {x6 : Int} {x7 : Int} {xs0 : Int}
    (k : ((xs0 = x6 → ((x6 ≠ 0 → ((-2147483648 ≤ ((x5 + 10) : Int) ∧ ((x5 + 10) : Int) < 2147483648)) ∧ am_V M_L_law kc ks 28 [aR 1000, aR 0, aR 72, aR 81, aR 82, aI (x5 + 10), aU, aU, aU] [] am_R0 h Q X) ∧ (x6 = 0 → ((0 : Int) ≤ 0 ∧ (0 : Int) < 1) ∧ (((if x7 < (h 81 0) then 1 else if (h 81 0) = x7 then 0 else -1) = 0 → ((-2147483648 ≤ ((x5 + 10) : Int) ∧ ((x5 + 10) : Int) < 2147483648)) ∧ am_V M_L_law kc ks 28 [aR 1000, aR 0, aR 72, aR 81, aR 82, aI (x5 + 10), aU, aU, aU] [] am_R0 h Q X) ∧ ((if x7 < (h 81 0) then 1 else if (h 81 0) = x7 then 0 else -1) ≠ 0 → Q [aI 0] am_R0 h))))) ∧ (xs0 ≠ x6 → Q [aI 0] am_R0 h))) :
    am_V M_L_law kc ks 2515 [aR 1000, aR 0, aR 72, aR 81, aR 82, aI x5, aI x6, aI x7, aU] [aI xs0] am_R0 h Q X := by
  refine v_iload dL_law_2515 rfl ?_
  refine v_icmp_eq (tgt := 2522) dL_law_2517 (by decide) (fun z => ?_) (fun z => ?_)
  · have k := k.1 z
    refine v_iload dL_law_2522 rfl ?_
    refine v_if_ne (tgt := 2539) dL_law_2524 (by decide) (fun z => ?_) (fun z => ?_)
    · have k := k.1 z
      obtain ⟨b2_1, k⟩ := k
      refine v_goto (tgt := 3556) dL_law_2539 (by decide) ?_
      refine v_iinc (E2 := [aR 1000, aR 0, aR 72, aR 81, aR 82, aI (x5 + 10), aI x6, aI x7, aU]) dL_law_3556 rfl b2_1 rfl ?_
      refine v_goto (tgt := 28) dL_law_3559 (by decide) ?_
      refine v_weak (E2 := [aR 1000, aR 0, aR 72, aR 81, aR 82, aI (x5 + 10), aU, aU, aU]) ⟨Or.inl rfl, ⟨Or.inl rfl, ⟨Or.inl rfl, ⟨Or.inl rfl, ⟨Or.inl rfl, ⟨Or.inl rfl, ⟨Or.inr rfl, ⟨Or.inr rfl, ⟨Or.inl rfl, trivial⟩⟩⟩⟩⟩⟩⟩⟩⟩ ?_
      exact k
    · have k := k.2 z
      obtain ⟨⟨b2_1, b2_2⟩, k⟩ := k
      refine v_aload_n dL_law_2527 rfl rfl ?_
      refine v_iconst dL_law_2528 ⟨by decide, by decide⟩ ?_
      refine v_lald dL_law_2529 rfl b2_1 b2_2 ?_
      refine v_iload dL_law_2530 rfl ?_
      refine v_i2l dL_law_2532 ?_
      refine v_lcmp dL_law_2533 ?_
      refine v_if_eq (tgt := 2539) dL_law_2534 (by decide) (fun z => ?_) (fun z => ?_)
      · have k := k.1 z
        obtain ⟨b3_1, k⟩ := k
        refine v_goto (tgt := 3556) dL_law_2539 (by decide) ?_
        refine v_iinc (E2 := [aR 1000, aR 0, aR 72, aR 81, aR 82, aI (x5 + 10), aI x6, aI x7, aU]) dL_law_3556 rfl b3_1 rfl ?_
        refine v_goto (tgt := 28) dL_law_3559 (by decide) ?_
        refine v_weak (E2 := [aR 1000, aR 0, aR 72, aR 81, aR 82, aI (x5 + 10), aU, aU, aU]) ⟨Or.inl rfl, ⟨Or.inl rfl, ⟨Or.inl rfl, ⟨Or.inl rfl, ⟨Or.inl rfl, ⟨Or.inl rfl, ⟨Or.inr rfl, ⟨Or.inr rfl, ⟨Or.inl rfl, trivial⟩⟩⟩⟩⟩⟩⟩⟩⟩ ?_
        exact k
      · have k := k.2 z
        refine v_iconst dL_law_2537 ⟨by decide, by decide⟩ ?_
        exact v_lawret dL_law_2538 rfl k
  · have k := k.2 z
    refine v_iconst dL_law_2520 ⟨by decide, by decide⟩ ?_
    exact v_lawret dL_law_2521 rfl k
theorem S_law_2542 {kc ks : Nat} {h : Hh} {Q : PQ} {X : PX} {x5 : Int}
    (k : ((-2147483648 ≤ ((x5 + 1) : Int) ∧ ((x5 + 1) : Int) < 2147483648) ∧ (0 : Int) ≤ (x5 + 1) ∧ ((x5 + 1) : Int) < h 1001 0 ∧ 1 ≤ kc ∧ 6 ≤ ks) ∧ am_V M_L_runs 1 6 0 [aR 0, aI (h 1000 (x5 + 1)), aR 81, aU] [] am_R0 h (fun v ρ' h' => am_V M_L_law (kc - 1) (ks - 6) 2553 [aR 1000, aR 0, aR 72, aR 81, aR 82, aI x5, aU, aU, aU] (v ++ []) ρ' h' Q X) X) :
    am_V M_L_law kc ks 2542 [aR 1000, aR 0, aR 72, aR 81, aR 82, aI x5, aU, aU, aU] [] am_R0 h Q X := by
  obtain ⟨⟨b0_1, b0_2, b0_3, b0_4, b0_5⟩, k⟩ := k
  refine v_aload_n dL_law_2542 rfl rfl ?_
  refine v_aload_n dL_law_2543 rfl rfl ?_
  refine v_iload dL_law_2544 rfl ?_
  refine v_iconst dL_law_2546 ⟨by decide, by decide⟩ ?_
  refine v_iadd dL_law_2547 b0_1 ?_
  refine v_sld dL_law_2548 rfl b0_2 b0_3 (fun _ => ?_)
  refine v_aload_n dL_law_2549 rfl rfl ?_
  exact v_callSX (j := M_L_runs) (As := [aR 0, aI (h 1000 (x5 + 1)), aR 81]) (st := []) (E0 := [aR 0, aI (h 1000 (x5 + 1)), aR 81, aU]) dL_law_2550 ms_L_309 J_L_runs b0_4 b0_5 (Nat.le_of_ble_eq_true rfl) rfl (Nat.le_of_ble_eq_true rfl) (List.forall_mem_cons.mpr ⟨rfl, List.forall_mem_cons.mpr ⟨rfl, List.forall_mem_cons.mpr ⟨rfl, fun _ h9 => absurd h9 List.not_mem_nil⟩⟩⟩) (Nat.le_of_ble_eq_true rfl) rfl pn_L_runs rfl k
theorem S_law_2553 {kc ks : Nat} {h : Hh} {Q : PQ} {X : PX} {x5 : Int} {xs0 : Int}
    (k : ((-2147483648 ≤ ((x5 + 1) : Int) ∧ ((x5 + 1) : Int) < 2147483648) ∧ (0 : Int) ≤ (x5 + 1) ∧ ((x5 + 1) : Int) < h 1001 0) ∧ am_V M_X11_runs 0 0 0 [aR 72, aI (h 1000 (x5 + 1)), aU, aU] [] am_R0 h (fun v ρ' h' => am_V M_L_law kc ks 2565 [aR 1000, aR 0, aR 72, aR 81, aR 82, aI x5, aI xs0, aU, aU] (v ++ []) ρ' h' Q X) X) :
    am_V M_L_law kc ks 2553 [aR 1000, aR 0, aR 72, aR 81, aR 82, aI x5, aU, aU, aU] [aI xs0] am_R0 h Q X := by
  obtain ⟨⟨b0_1, b0_2, b0_3⟩, k⟩ := k
  refine v_istore (E2 := [aR 1000, aR 0, aR 72, aR 81, aR 82, aI x5, aI xs0, aU, aU]) dL_law_2553 (Nat.le_of_ble_eq_true rfl) rfl ?_
  refine v_aload_n dL_law_2555 rfl rfl ?_
  refine v_aload_n dL_law_2556 rfl rfl ?_
  refine v_iload dL_law_2557 rfl ?_
  refine v_iconst dL_law_2559 ⟨by decide, by decide⟩ ?_
  refine v_iadd dL_law_2560 b0_1 ?_
  refine v_sld dL_law_2561 rfl b0_2 b0_3 (fun _ => ?_)
  exact v_callV (j := M_X11_runs) (As := [aI (h 1000 (x5 + 1))]) (st := []) (E0 := [aR 72, aI (h 1000 (x5 + 1)), aU, aU]) (a := 72) (ci := 9) (N := 11) (q9 := (RX11, TX11, 11)) dL_law_2562 ml_L_311 J_X11_runs (Nat.zero_le _) (Nat.zero_le _) (Nat.le_of_ble_eq_true rfl) rfl (Nat.le_of_ble_eq_true rfl) (List.forall_mem_cons.mpr ⟨rfl, List.forall_mem_cons.mpr ⟨rfl, fun _ h9 => absurd h9 List.not_mem_nil⟩⟩) (Nat.le_of_ble_eq_true rfl) rfl rfl rfl rfl pn_X11_runs rfl k
theorem S_law_2565 {kc ks : Nat} {h : Hh} {Q : PQ} {X : PX} {x5 : Int} {x6 : Int} {xs0 : Int}
    (k : am_V M_X11_thrown 0 0 0 [aR 72] [] am_R0 h (fun v ρ' h' => am_V M_L_law kc ks 2571 [aR 1000, aR 0, aR 72, aR 81, aR 82, aI x5, aI x6, aI xs0, aU] (v ++ []) ρ' h' Q X) X) :
    am_V M_L_law kc ks 2565 [aR 1000, aR 0, aR 72, aR 81, aR 82, aI x5, aI x6, aU, aU] [aI xs0] am_R0 h Q X := by
  refine v_istore (E2 := [aR 1000, aR 0, aR 72, aR 81, aR 82, aI x5, aI x6, aI xs0, aU]) dL_law_2565 (Nat.le_of_ble_eq_true rfl) rfl ?_
  refine v_aload_n dL_law_2567 rfl rfl ?_
  exact v_callV (j := M_X11_thrown) (As := []) (st := []) (E0 := [aR 72]) (a := 72) (ci := 9) (N := 11) (q9 := (RX11, TX11, 11)) dL_law_2568 ml_L_195 J_X11_thrown (Nat.zero_le _) (Nat.zero_le _) (Nat.le_of_ble_eq_true rfl) rfl (Nat.le_of_ble_eq_true rfl) (List.forall_mem_cons.mpr ⟨rfl, fun _ h9 => absurd h9 List.not_mem_nil⟩) (Nat.le_of_ble_eq_true rfl) rfl rfl rfl rfl pn_X11_thrown rfl k
theorem S_law_2571 {kc ks : Nat} {h : Hh} {Q : PQ} {X : PX} {x5 : Int} {x6 : Int} {x7 : Int} {xs0 : Int}
    (k : ((xs0 = x6 → ((x6 ≠ 0 → ((-2147483648 ≤ ((x5 + 10) : Int) ∧ ((x5 + 10) : Int) < 2147483648)) ∧ am_V M_L_law kc ks 28 [aR 1000, aR 0, aR 72, aR 81, aR 82, aI (x5 + 10), aU, aU, aU] [] am_R0 h Q X) ∧ (x6 = 0 → ((0 : Int) ≤ 0 ∧ (0 : Int) < 1) ∧ (((if x7 < (h 81 0) then 1 else if (h 81 0) = x7 then 0 else -1) = 0 → ((-2147483648 ≤ ((x5 + 10) : Int) ∧ ((x5 + 10) : Int) < 2147483648)) ∧ am_V M_L_law kc ks 28 [aR 1000, aR 0, aR 72, aR 81, aR 82, aI (x5 + 10), aU, aU, aU] [] am_R0 h Q X) ∧ ((if x7 < (h 81 0) then 1 else if (h 81 0) = x7 then 0 else -1) ≠ 0 → Q [aI 0] am_R0 h))))) ∧ (xs0 ≠ x6 → Q [aI 0] am_R0 h))) :
    am_V M_L_law kc ks 2571 [aR 1000, aR 0, aR 72, aR 81, aR 82, aI x5, aI x6, aI x7, aU] [aI xs0] am_R0 h Q X := by
  refine v_iload dL_law_2571 rfl ?_
  refine v_icmp_eq (tgt := 2578) dL_law_2573 (by decide) (fun z => ?_) (fun z => ?_)
  · have k := k.1 z
    refine v_iload dL_law_2578 rfl ?_
    refine v_if_ne (tgt := 2595) dL_law_2580 (by decide) (fun z => ?_) (fun z => ?_)
    · have k := k.1 z
      obtain ⟨b2_1, k⟩ := k
      refine v_goto (tgt := 3556) dL_law_2595 (by decide) ?_
      refine v_iinc (E2 := [aR 1000, aR 0, aR 72, aR 81, aR 82, aI (x5 + 10), aI x6, aI x7, aU]) dL_law_3556 rfl b2_1 rfl ?_
      refine v_goto (tgt := 28) dL_law_3559 (by decide) ?_
      refine v_weak (E2 := [aR 1000, aR 0, aR 72, aR 81, aR 82, aI (x5 + 10), aU, aU, aU]) ⟨Or.inl rfl, ⟨Or.inl rfl, ⟨Or.inl rfl, ⟨Or.inl rfl, ⟨Or.inl rfl, ⟨Or.inl rfl, ⟨Or.inr rfl, ⟨Or.inr rfl, ⟨Or.inl rfl, trivial⟩⟩⟩⟩⟩⟩⟩⟩⟩ ?_
      exact k
    · have k := k.2 z
      obtain ⟨⟨b2_1, b2_2⟩, k⟩ := k
      refine v_aload_n dL_law_2583 rfl rfl ?_
      refine v_iconst dL_law_2584 ⟨by decide, by decide⟩ ?_
      refine v_lald dL_law_2585 rfl b2_1 b2_2 ?_
      refine v_iload dL_law_2586 rfl ?_
      refine v_i2l dL_law_2588 ?_
      refine v_lcmp dL_law_2589 ?_
      refine v_if_eq (tgt := 2595) dL_law_2590 (by decide) (fun z => ?_) (fun z => ?_)
      · have k := k.1 z
        obtain ⟨b3_1, k⟩ := k
        refine v_goto (tgt := 3556) dL_law_2595 (by decide) ?_
        refine v_iinc (E2 := [aR 1000, aR 0, aR 72, aR 81, aR 82, aI (x5 + 10), aI x6, aI x7, aU]) dL_law_3556 rfl b3_1 rfl ?_
        refine v_goto (tgt := 28) dL_law_3559 (by decide) ?_
        refine v_weak (E2 := [aR 1000, aR 0, aR 72, aR 81, aR 82, aI (x5 + 10), aU, aU, aU]) ⟨Or.inl rfl, ⟨Or.inl rfl, ⟨Or.inl rfl, ⟨Or.inl rfl, ⟨Or.inl rfl, ⟨Or.inl rfl, ⟨Or.inr rfl, ⟨Or.inr rfl, ⟨Or.inl rfl, trivial⟩⟩⟩⟩⟩⟩⟩⟩⟩ ?_
        exact k
      · have k := k.2 z
        refine v_iconst dL_law_2593 ⟨by decide, by decide⟩ ?_
        exact v_lawret dL_law_2594 rfl k
  · have k := k.2 z
    refine v_iconst dL_law_2576 ⟨by decide, by decide⟩ ?_
    exact v_lawret dL_law_2577 rfl k
theorem S_law_2598 {kc ks : Nat} {h : Hh} {Q : PQ} {X : PX} {x5 : Int}
    (k : ((-2147483648 ≤ ((x5 + 1) : Int) ∧ ((x5 + 1) : Int) < 2147483648) ∧ (0 : Int) ≤ (x5 + 1) ∧ ((x5 + 1) : Int) < h 1001 0 ∧ (-2147483648 ≤ ((x5 + 2) : Int) ∧ ((x5 + 2) : Int) < 2147483648) ∧ (0 : Int) ≤ (x5 + 2) ∧ ((x5 + 2) : Int) < h 1001 0 ∧ 2 ≤ kc ∧ 12 ≤ ks) ∧ am_V M_L_front 2 12 0 [aR 0, aI (h 1000 (x5 + 1)), aI (h 1000 (x5 + 2)), aR 81, aU] [] am_R0 h (fun v ρ' h' => am_V M_L_law (kc - 2) (ks - 12) 2615 [aR 1000, aR 0, aR 72, aR 81, aR 82, aI x5, aU, aU, aU] (v ++ []) ρ' h' Q X) X) :
    am_V M_L_law kc ks 2598 [aR 1000, aR 0, aR 72, aR 81, aR 82, aI x5, aU, aU, aU] [] am_R0 h Q X := by
  obtain ⟨⟨b0_1, b0_2, b0_3, b0_4, b0_5, b0_6, b0_7, b0_8⟩, k⟩ := k
  refine v_aload_n dL_law_2598 rfl rfl ?_
  refine v_aload_n dL_law_2599 rfl rfl ?_
  refine v_iload dL_law_2600 rfl ?_
  refine v_iconst dL_law_2602 ⟨by decide, by decide⟩ ?_
  refine v_iadd dL_law_2603 b0_1 ?_
  refine v_sld dL_law_2604 rfl b0_2 b0_3 (fun _ => ?_)
  refine v_aload_n dL_law_2605 rfl rfl ?_
  refine v_iload dL_law_2606 rfl ?_
  refine v_iconst dL_law_2608 ⟨by decide, by decide⟩ ?_
  refine v_iadd dL_law_2609 b0_4 ?_
  refine v_sld dL_law_2610 rfl b0_5 b0_6 (fun _ => ?_)
  refine v_aload_n dL_law_2611 rfl rfl ?_
  exact v_callSX (j := M_L_front) (As := [aR 0, aI (h 1000 (x5 + 1)), aI (h 1000 (x5 + 2)), aR 81]) (st := []) (E0 := [aR 0, aI (h 1000 (x5 + 1)), aI (h 1000 (x5 + 2)), aR 81, aU]) dL_law_2612 ms_L_312 J_L_front b0_7 b0_8 (Nat.le_of_ble_eq_true rfl) rfl (Nat.le_of_ble_eq_true rfl) (List.forall_mem_cons.mpr ⟨rfl, List.forall_mem_cons.mpr ⟨rfl, List.forall_mem_cons.mpr ⟨rfl, List.forall_mem_cons.mpr ⟨rfl, fun _ h9 => absurd h9 List.not_mem_nil⟩⟩⟩⟩) (Nat.le_of_ble_eq_true rfl) rfl pn_L_front rfl k
theorem S_law_2615 {kc ks : Nat} {h : Hh} {Q : PQ} {X : PX} {x5 : Int} {xs0 : Int}
    (k : ((-2147483648 ≤ ((x5 + 1) : Int) ∧ ((x5 + 1) : Int) < 2147483648) ∧ (0 : Int) ≤ (x5 + 1) ∧ ((x5 + 1) : Int) < h 1001 0 ∧ (-2147483648 ≤ ((x5 + 2) : Int) ∧ ((x5 + 2) : Int) < 2147483648) ∧ (0 : Int) ≤ (x5 + 2) ∧ ((x5 + 2) : Int) < h 1001 0) ∧ am_V M_X11_front 0 0 0 [aR 72, aI (h 1000 (x5 + 1)), aI (h 1000 (x5 + 2)), aU, aU, aU] [] am_R0 h (fun v ρ' h' => am_V M_L_law kc ks 2633 [aR 1000, aR 0, aR 72, aR 81, aR 82, aI x5, aI xs0, aU, aU] (v ++ []) ρ' h' Q X) X) :
    am_V M_L_law kc ks 2615 [aR 1000, aR 0, aR 72, aR 81, aR 82, aI x5, aU, aU, aU] [aI xs0] am_R0 h Q X := by
  obtain ⟨⟨b0_1, b0_2, b0_3, b0_4, b0_5, b0_6⟩, k⟩ := k
  refine v_istore (E2 := [aR 1000, aR 0, aR 72, aR 81, aR 82, aI x5, aI xs0, aU, aU]) dL_law_2615 (Nat.le_of_ble_eq_true rfl) rfl ?_
  refine v_aload_n dL_law_2617 rfl rfl ?_
  refine v_aload_n dL_law_2618 rfl rfl ?_
  refine v_iload dL_law_2619 rfl ?_
  refine v_iconst dL_law_2621 ⟨by decide, by decide⟩ ?_
  refine v_iadd dL_law_2622 b0_1 ?_
  refine v_sld dL_law_2623 rfl b0_2 b0_3 (fun _ => ?_)
  refine v_aload_n dL_law_2624 rfl rfl ?_
  refine v_iload dL_law_2625 rfl ?_
  refine v_iconst dL_law_2627 ⟨by decide, by decide⟩ ?_
  refine v_iadd dL_law_2628 b0_4 ?_
  refine v_sld dL_law_2629 rfl b0_5 b0_6 (fun _ => ?_)
  exact v_callV (j := M_X11_front) (As := [aI (h 1000 (x5 + 1)), aI (h 1000 (x5 + 2))]) (st := []) (E0 := [aR 72, aI (h 1000 (x5 + 1)), aI (h 1000 (x5 + 2)), aU, aU, aU]) (a := 72) (ci := 9) (N := 11) (q9 := (RX11, TX11, 11)) dL_law_2630 ml_L_314 J_X11_front (Nat.zero_le _) (Nat.zero_le _) (Nat.le_of_ble_eq_true rfl) rfl (Nat.le_of_ble_eq_true rfl) (List.forall_mem_cons.mpr ⟨rfl, List.forall_mem_cons.mpr ⟨rfl, List.forall_mem_cons.mpr ⟨rfl, fun _ h9 => absurd h9 List.not_mem_nil⟩⟩⟩) (Nat.le_of_ble_eq_true rfl) rfl rfl rfl rfl pn_X11_front rfl k
theorem S_law_2633 {kc ks : Nat} {h : Hh} {Q : PQ} {X : PX} {x5 : Int} {x6 : Int} {xs0 : Int}
    (k : am_V M_X11_thrown 0 0 0 [aR 72] [] am_R0 h (fun v ρ' h' => am_V M_L_law kc ks 2639 [aR 1000, aR 0, aR 72, aR 81, aR 82, aI x5, aI x6, aI xs0, aU] (v ++ []) ρ' h' Q X) X) :
    am_V M_L_law kc ks 2633 [aR 1000, aR 0, aR 72, aR 81, aR 82, aI x5, aI x6, aU, aU] [aI xs0] am_R0 h Q X := by
  refine v_istore (E2 := [aR 1000, aR 0, aR 72, aR 81, aR 82, aI x5, aI x6, aI xs0, aU]) dL_law_2633 (Nat.le_of_ble_eq_true rfl) rfl ?_
  refine v_aload_n dL_law_2635 rfl rfl ?_
  exact v_callV (j := M_X11_thrown) (As := []) (st := []) (E0 := [aR 72]) (a := 72) (ci := 9) (N := 11) (q9 := (RX11, TX11, 11)) dL_law_2636 ml_L_195 J_X11_thrown (Nat.zero_le _) (Nat.zero_le _) (Nat.le_of_ble_eq_true rfl) rfl (Nat.le_of_ble_eq_true rfl) (List.forall_mem_cons.mpr ⟨rfl, fun _ h9 => absurd h9 List.not_mem_nil⟩) (Nat.le_of_ble_eq_true rfl) rfl rfl rfl rfl pn_X11_thrown rfl k
theorem S_law_2639 {kc ks : Nat} {h : Hh} {Q : PQ} {X : PX} {x5 : Int} {x6 : Int} {x7 : Int} {xs0 : Int}
    (k : ((xs0 = x6 → ((x6 ≠ 0 → ((-2147483648 ≤ ((x5 + 10) : Int) ∧ ((x5 + 10) : Int) < 2147483648)) ∧ am_V M_L_law kc ks 28 [aR 1000, aR 0, aR 72, aR 81, aR 82, aI (x5 + 10), aU, aU, aU] [] am_R0 h Q X) ∧ (x6 = 0 → ((0 : Int) ≤ 0 ∧ (0 : Int) < 1) ∧ (((if x7 < (h 81 0) then 1 else if (h 81 0) = x7 then 0 else -1) = 0 → ((-2147483648 ≤ ((x5 + 10) : Int) ∧ ((x5 + 10) : Int) < 2147483648)) ∧ am_V M_L_law kc ks 28 [aR 1000, aR 0, aR 72, aR 81, aR 82, aI (x5 + 10), aU, aU, aU] [] am_R0 h Q X) ∧ ((if x7 < (h 81 0) then 1 else if (h 81 0) = x7 then 0 else -1) ≠ 0 → Q [aI 0] am_R0 h))))) ∧ (xs0 ≠ x6 → Q [aI 0] am_R0 h))) :
    am_V M_L_law kc ks 2639 [aR 1000, aR 0, aR 72, aR 81, aR 82, aI x5, aI x6, aI x7, aU] [aI xs0] am_R0 h Q X := by
  refine v_iload dL_law_2639 rfl ?_
  refine v_icmp_eq (tgt := 2646) dL_law_2641 (by decide) (fun z => ?_) (fun z => ?_)
  · have k := k.1 z
    refine v_iload dL_law_2646 rfl ?_
    refine v_if_ne (tgt := 2663) dL_law_2648 (by decide) (fun z => ?_) (fun z => ?_)
    · have k := k.1 z
      obtain ⟨b2_1, k⟩ := k
      refine v_goto (tgt := 3556) dL_law_2663 (by decide) ?_
      refine v_iinc (E2 := [aR 1000, aR 0, aR 72, aR 81, aR 82, aI (x5 + 10), aI x6, aI x7, aU]) dL_law_3556 rfl b2_1 rfl ?_
      refine v_goto (tgt := 28) dL_law_3559 (by decide) ?_
      refine v_weak (E2 := [aR 1000, aR 0, aR 72, aR 81, aR 82, aI (x5 + 10), aU, aU, aU]) ⟨Or.inl rfl, ⟨Or.inl rfl, ⟨Or.inl rfl, ⟨Or.inl rfl, ⟨Or.inl rfl, ⟨Or.inl rfl, ⟨Or.inr rfl, ⟨Or.inr rfl, ⟨Or.inl rfl, trivial⟩⟩⟩⟩⟩⟩⟩⟩⟩ ?_
      exact k
    · have k := k.2 z
      obtain ⟨⟨b2_1, b2_2⟩, k⟩ := k
      refine v_aload_n dL_law_2651 rfl rfl ?_
      refine v_iconst dL_law_2652 ⟨by decide, by decide⟩ ?_
      refine v_lald dL_law_2653 rfl b2_1 b2_2 ?_
      refine v_iload dL_law_2654 rfl ?_
      refine v_i2l dL_law_2656 ?_
      refine v_lcmp dL_law_2657 ?_
      refine v_if_eq (tgt := 2663) dL_law_2658 (by decide) (fun z => ?_) (fun z => ?_)
      · have k := k.1 z
        obtain ⟨b3_1, k⟩ := k
        refine v_goto (tgt := 3556) dL_law_2663 (by decide) ?_
        refine v_iinc (E2 := [aR 1000, aR 0, aR 72, aR 81, aR 82, aI (x5 + 10), aI x6, aI x7, aU]) dL_law_3556 rfl b3_1 rfl ?_
        refine v_goto (tgt := 28) dL_law_3559 (by decide) ?_
        refine v_weak (E2 := [aR 1000, aR 0, aR 72, aR 81, aR 82, aI (x5 + 10), aU, aU, aU]) ⟨Or.inl rfl, ⟨Or.inl rfl, ⟨Or.inl rfl, ⟨Or.inl rfl, ⟨Or.inl rfl, ⟨Or.inl rfl, ⟨Or.inr rfl, ⟨Or.inr rfl, ⟨Or.inl rfl, trivial⟩⟩⟩⟩⟩⟩⟩⟩⟩ ?_
        exact k
      · have k := k.2 z
        refine v_iconst dL_law_2661 ⟨by decide, by decide⟩ ?_
        exact v_lawret dL_law_2662 rfl k
  · have k := k.2 z
    refine v_iconst dL_law_2644 ⟨by decide, by decide⟩ ?_
    exact v_lawret dL_law_2645 rfl k
theorem S_law_2666 {kc ks : Nat} {h : Hh} {Q : PQ} {X : PX} {x5 : Int}
    (k : ((-2147483648 ≤ ((x5 + 1) : Int) ∧ ((x5 + 1) : Int) < 2147483648) ∧ (0 : Int) ≤ (x5 + 1) ∧ ((x5 + 1) : Int) < h 1001 0 ∧ 1 ≤ kc ∧ 6 ≤ ks) ∧ am_V M_L_column 1 6 0 [aR 0, aI (h 1000 (x5 + 1)), aR 81, aU] [] am_R0 h (fun v ρ' h' => am_V M_L_law (kc - 1) (ks - 6) 2677 [aR 1000, aR 0, aR 72, aR 81, aR 82, aI x5, aU, aU, aU] (v ++ []) ρ' h' Q X) X) :
    am_V M_L_law kc ks 2666 [aR 1000, aR 0, aR 72, aR 81, aR 82, aI x5, aU, aU, aU] [] am_R0 h Q X := by
  obtain ⟨⟨b0_1, b0_2, b0_3, b0_4, b0_5⟩, k⟩ := k
  refine v_aload_n dL_law_2666 rfl rfl ?_
  refine v_aload_n dL_law_2667 rfl rfl ?_
  refine v_iload dL_law_2668 rfl ?_
  refine v_iconst dL_law_2670 ⟨by decide, by decide⟩ ?_
  refine v_iadd dL_law_2671 b0_1 ?_
  refine v_sld dL_law_2672 rfl b0_2 b0_3 (fun _ => ?_)
  refine v_aload_n dL_law_2673 rfl rfl ?_
  exact v_callSX (j := M_L_column) (As := [aR 0, aI (h 1000 (x5 + 1)), aR 81]) (st := []) (E0 := [aR 0, aI (h 1000 (x5 + 1)), aR 81, aU]) dL_law_2674 ms_L_315 J_L_column b0_4 b0_5 (Nat.le_of_ble_eq_true rfl) rfl (Nat.le_of_ble_eq_true rfl) (List.forall_mem_cons.mpr ⟨rfl, List.forall_mem_cons.mpr ⟨rfl, List.forall_mem_cons.mpr ⟨rfl, fun _ h9 => absurd h9 List.not_mem_nil⟩⟩⟩) (Nat.le_of_ble_eq_true rfl) rfl pn_L_column rfl k
theorem S_law_2677 {kc ks : Nat} {h : Hh} {Q : PQ} {X : PX} {x5 : Int} {xs0 : Int}
    (k : ((-2147483648 ≤ ((x5 + 1) : Int) ∧ ((x5 + 1) : Int) < 2147483648) ∧ (0 : Int) ≤ (x5 + 1) ∧ ((x5 + 1) : Int) < h 1001 0) ∧ am_V M_X11_column 0 0 0 [aR 72, aI (h 1000 (x5 + 1)), aU] [] am_R0 h (fun v ρ' h' => am_V M_L_law kc ks 2689 [aR 1000, aR 0, aR 72, aR 81, aR 82, aI x5, aI xs0, aU, aU] (v ++ []) ρ' h' Q X) X) :
    am_V M_L_law kc ks 2677 [aR 1000, aR 0, aR 72, aR 81, aR 82, aI x5, aU, aU, aU] [aI xs0] am_R0 h Q X := by
  obtain ⟨⟨b0_1, b0_2, b0_3⟩, k⟩ := k
  refine v_istore (E2 := [aR 1000, aR 0, aR 72, aR 81, aR 82, aI x5, aI xs0, aU, aU]) dL_law_2677 (Nat.le_of_ble_eq_true rfl) rfl ?_
  refine v_aload_n dL_law_2679 rfl rfl ?_
  refine v_aload_n dL_law_2680 rfl rfl ?_
  refine v_iload dL_law_2681 rfl ?_
  refine v_iconst dL_law_2683 ⟨by decide, by decide⟩ ?_
  refine v_iadd dL_law_2684 b0_1 ?_
  refine v_sld dL_law_2685 rfl b0_2 b0_3 (fun _ => ?_)
  exact v_callV (j := M_X11_column) (As := [aI (h 1000 (x5 + 1))]) (st := []) (E0 := [aR 72, aI (h 1000 (x5 + 1)), aU]) (a := 72) (ci := 9) (N := 11) (q9 := (RX11, TX11, 11)) dL_law_2686 ml_L_317 J_X11_column (Nat.zero_le _) (Nat.zero_le _) (Nat.le_of_ble_eq_true rfl) rfl (Nat.le_of_ble_eq_true rfl) (List.forall_mem_cons.mpr ⟨rfl, List.forall_mem_cons.mpr ⟨rfl, fun _ h9 => absurd h9 List.not_mem_nil⟩⟩) (Nat.le_of_ble_eq_true rfl) rfl rfl rfl rfl pn_X11_column rfl k
theorem S_law_2689 {kc ks : Nat} {h : Hh} {Q : PQ} {X : PX} {x5 : Int} {x6 : Int} {xs0 : Int}
    (k : am_V M_X11_thrown 0 0 0 [aR 72] [] am_R0 h (fun v ρ' h' => am_V M_L_law kc ks 2695 [aR 1000, aR 0, aR 72, aR 81, aR 82, aI x5, aI x6, aI xs0, aU] (v ++ []) ρ' h' Q X) X) :
    am_V M_L_law kc ks 2689 [aR 1000, aR 0, aR 72, aR 81, aR 82, aI x5, aI x6, aU, aU] [aI xs0] am_R0 h Q X := by
  refine v_istore (E2 := [aR 1000, aR 0, aR 72, aR 81, aR 82, aI x5, aI x6, aI xs0, aU]) dL_law_2689 (Nat.le_of_ble_eq_true rfl) rfl ?_
  refine v_aload_n dL_law_2691 rfl rfl ?_
  exact v_callV (j := M_X11_thrown) (As := []) (st := []) (E0 := [aR 72]) (a := 72) (ci := 9) (N := 11) (q9 := (RX11, TX11, 11)) dL_law_2692 ml_L_195 J_X11_thrown (Nat.zero_le _) (Nat.zero_le _) (Nat.le_of_ble_eq_true rfl) rfl (Nat.le_of_ble_eq_true rfl) (List.forall_mem_cons.mpr ⟨rfl, fun _ h9 => absurd h9 List.not_mem_nil⟩) (Nat.le_of_ble_eq_true rfl) rfl rfl rfl rfl pn_X11_thrown rfl k
theorem S_law_2695 {kc ks : Nat} {h : Hh} {Q : PQ} {X : PX} {x5 : Int} {x6 : Int} {x7 : Int} {xs0 : Int}
    (k : ((xs0 = x6 → ((x6 ≠ 0 → ((-2147483648 ≤ ((x5 + 10) : Int) ∧ ((x5 + 10) : Int) < 2147483648)) ∧ am_V M_L_law kc ks 28 [aR 1000, aR 0, aR 72, aR 81, aR 82, aI (x5 + 10), aU, aU, aU] [] am_R0 h Q X) ∧ (x6 = 0 → ((0 : Int) ≤ 0 ∧ (0 : Int) < 1) ∧ (((if x7 < (h 81 0) then 1 else if (h 81 0) = x7 then 0 else -1) = 0 → ((-2147483648 ≤ ((x5 + 10) : Int) ∧ ((x5 + 10) : Int) < 2147483648)) ∧ am_V M_L_law kc ks 28 [aR 1000, aR 0, aR 72, aR 81, aR 82, aI (x5 + 10), aU, aU, aU] [] am_R0 h Q X) ∧ ((if x7 < (h 81 0) then 1 else if (h 81 0) = x7 then 0 else -1) ≠ 0 → Q [aI 0] am_R0 h))))) ∧ (xs0 ≠ x6 → Q [aI 0] am_R0 h))) :
    am_V M_L_law kc ks 2695 [aR 1000, aR 0, aR 72, aR 81, aR 82, aI x5, aI x6, aI x7, aU] [aI xs0] am_R0 h Q X := by
  refine v_iload dL_law_2695 rfl ?_
  refine v_icmp_eq (tgt := 2702) dL_law_2697 (by decide) (fun z => ?_) (fun z => ?_)
  · have k := k.1 z
    refine v_iload dL_law_2702 rfl ?_
    refine v_if_ne (tgt := 2719) dL_law_2704 (by decide) (fun z => ?_) (fun z => ?_)
    · have k := k.1 z
      obtain ⟨b2_1, k⟩ := k
      refine v_goto (tgt := 3556) dL_law_2719 (by decide) ?_
      refine v_iinc (E2 := [aR 1000, aR 0, aR 72, aR 81, aR 82, aI (x5 + 10), aI x6, aI x7, aU]) dL_law_3556 rfl b2_1 rfl ?_
      refine v_goto (tgt := 28) dL_law_3559 (by decide) ?_
      refine v_weak (E2 := [aR 1000, aR 0, aR 72, aR 81, aR 82, aI (x5 + 10), aU, aU, aU]) ⟨Or.inl rfl, ⟨Or.inl rfl, ⟨Or.inl rfl, ⟨Or.inl rfl, ⟨Or.inl rfl, ⟨Or.inl rfl, ⟨Or.inr rfl, ⟨Or.inr rfl, ⟨Or.inl rfl, trivial⟩⟩⟩⟩⟩⟩⟩⟩⟩ ?_
      exact k
    · have k := k.2 z
      obtain ⟨⟨b2_1, b2_2⟩, k⟩ := k
      refine v_aload_n dL_law_2707 rfl rfl ?_
      refine v_iconst dL_law_2708 ⟨by decide, by decide⟩ ?_
      refine v_lald dL_law_2709 rfl b2_1 b2_2 ?_
      refine v_iload dL_law_2710 rfl ?_
      refine v_i2l dL_law_2712 ?_
      refine v_lcmp dL_law_2713 ?_
      refine v_if_eq (tgt := 2719) dL_law_2714 (by decide) (fun z => ?_) (fun z => ?_)
      · have k := k.1 z
        obtain ⟨b3_1, k⟩ := k
        refine v_goto (tgt := 3556) dL_law_2719 (by decide) ?_
        refine v_iinc (E2 := [aR 1000, aR 0, aR 72, aR 81, aR 82, aI (x5 + 10), aI x6, aI x7, aU]) dL_law_3556 rfl b3_1 rfl ?_
        refine v_goto (tgt := 28) dL_law_3559 (by decide) ?_
        refine v_weak (E2 := [aR 1000, aR 0, aR 72, aR 81, aR 82, aI (x5 + 10), aU, aU, aU]) ⟨Or.inl rfl, ⟨Or.inl rfl, ⟨Or.inl rfl, ⟨Or.inl rfl, ⟨Or.inl rfl, ⟨Or.inl rfl, ⟨Or.inr rfl, ⟨Or.inr rfl, ⟨Or.inl rfl, trivial⟩⟩⟩⟩⟩⟩⟩⟩⟩ ?_
        exact k
      · have k := k.2 z
        refine v_iconst dL_law_2717 ⟨by decide, by decide⟩ ?_
        exact v_lawret dL_law_2718 rfl k
  · have k := k.2 z
    refine v_iconst dL_law_2700 ⟨by decide, by decide⟩ ?_
    exact v_lawret dL_law_2701 rfl k
theorem S_law_2722 {kc ks : Nat} {h : Hh} {Q : PQ} {X : PX} {x5 : Int}
    (k : (2 ≤ kc ∧ 12 ≤ ks) ∧ am_V M_L_undo 2 12 0 [aR 0, aR 81, aU] [] am_R0 h (fun v ρ' h' => am_V M_L_law (kc - 2) (ks - 12) 2727 [aR 1000, aR 0, aR 72, aR 81, aR 82, aI x5, aU, aU, aU] (v ++ []) ρ' h' Q X) X) :
    am_V M_L_law kc ks 2722 [aR 1000, aR 0, aR 72, aR 81, aR 82, aI x5, aU, aU, aU] [] am_R0 h Q X := by
  obtain ⟨⟨b0_1, b0_2⟩, k⟩ := k
  refine v_aload_n dL_law_2722 rfl rfl ?_
  refine v_aload_n dL_law_2723 rfl rfl ?_
  exact v_callSX (j := M_L_undo) (As := [aR 0, aR 81]) (st := []) (E0 := [aR 0, aR 81, aU]) dL_law_2724 ms_L_318 J_L_undo b0_1 b0_2 (Nat.le_of_ble_eq_true rfl) rfl (Nat.le_of_ble_eq_true rfl) (List.forall_mem_cons.mpr ⟨rfl, List.forall_mem_cons.mpr ⟨rfl, fun _ h9 => absurd h9 List.not_mem_nil⟩⟩) (Nat.le_of_ble_eq_true rfl) rfl pn_L_undo rfl k
theorem S_law_2727 {kc ks : Nat} {h : Hh} {Q : PQ} {X : PX} {x5 : Int} {xs0 : Int}
    (k : am_V M_X11_undo 0 0 0 [aR 72] [] am_R0 h (fun v ρ' h' => am_V M_L_law kc ks 2733 [aR 1000, aR 0, aR 72, aR 81, aR 82, aI x5, aI xs0, aU, aU] (v ++ []) ρ' h' Q X) X) :
    am_V M_L_law kc ks 2727 [aR 1000, aR 0, aR 72, aR 81, aR 82, aI x5, aU, aU, aU] [aI xs0] am_R0 h Q X := by
  refine v_istore (E2 := [aR 1000, aR 0, aR 72, aR 81, aR 82, aI x5, aI xs0, aU, aU]) dL_law_2727 (Nat.le_of_ble_eq_true rfl) rfl ?_
  refine v_aload_n dL_law_2729 rfl rfl ?_
  exact v_callV (j := M_X11_undo) (As := []) (st := []) (E0 := [aR 72]) (a := 72) (ci := 9) (N := 11) (q9 := (RX11, TX11, 11)) dL_law_2730 ml_L_320 J_X11_undo (Nat.zero_le _) (Nat.zero_le _) (Nat.le_of_ble_eq_true rfl) rfl (Nat.le_of_ble_eq_true rfl) (List.forall_mem_cons.mpr ⟨rfl, fun _ h9 => absurd h9 List.not_mem_nil⟩) (Nat.le_of_ble_eq_true rfl) rfl rfl rfl rfl pn_X11_undo rfl k
theorem S_law_2733 {kc ks : Nat} {h : Hh} {Q : PQ} {X : PX} {x5 : Int} {x6 : Int} {xs0 : Int}
    (k : am_V M_X11_thrown 0 0 0 [aR 72] [] am_R0 h (fun v ρ' h' => am_V M_L_law kc ks 2739 [aR 1000, aR 0, aR 72, aR 81, aR 82, aI x5, aI x6, aI xs0, aU] (v ++ []) ρ' h' Q X) X) :
    am_V M_L_law kc ks 2733 [aR 1000, aR 0, aR 72, aR 81, aR 82, aI x5, aI x6, aU, aU] [aI xs0] am_R0 h Q X := by
  refine v_istore (E2 := [aR 1000, aR 0, aR 72, aR 81, aR 82, aI x5, aI x6, aI xs0, aU]) dL_law_2733 (Nat.le_of_ble_eq_true rfl) rfl ?_
  refine v_aload_n dL_law_2735 rfl rfl ?_
  exact v_callV (j := M_X11_thrown) (As := []) (st := []) (E0 := [aR 72]) (a := 72) (ci := 9) (N := 11) (q9 := (RX11, TX11, 11)) dL_law_2736 ml_L_195 J_X11_thrown (Nat.zero_le _) (Nat.zero_le _) (Nat.le_of_ble_eq_true rfl) rfl (Nat.le_of_ble_eq_true rfl) (List.forall_mem_cons.mpr ⟨rfl, fun _ h9 => absurd h9 List.not_mem_nil⟩) (Nat.le_of_ble_eq_true rfl) rfl rfl rfl rfl pn_X11_thrown rfl k
theorem S_law_2739 {kc ks : Nat} {h : Hh} {Q : PQ} {X : PX} {x5 : Int} {x6 : Int} {x7 : Int} {xs0 : Int}
    (k : ((xs0 = x6 → ((x6 ≠ 0 → ((-2147483648 ≤ ((x5 + 10) : Int) ∧ ((x5 + 10) : Int) < 2147483648)) ∧ am_V M_L_law kc ks 28 [aR 1000, aR 0, aR 72, aR 81, aR 82, aI (x5 + 10), aU, aU, aU] [] am_R0 h Q X) ∧ (x6 = 0 → ((0 : Int) ≤ 0 ∧ (0 : Int) < 1) ∧ (((if x7 < (h 81 0) then 1 else if (h 81 0) = x7 then 0 else -1) = 0 → ((-2147483648 ≤ ((x5 + 10) : Int) ∧ ((x5 + 10) : Int) < 2147483648)) ∧ am_V M_L_law kc ks 28 [aR 1000, aR 0, aR 72, aR 81, aR 82, aI (x5 + 10), aU, aU, aU] [] am_R0 h Q X) ∧ ((if x7 < (h 81 0) then 1 else if (h 81 0) = x7 then 0 else -1) ≠ 0 → Q [aI 0] am_R0 h))))) ∧ (xs0 ≠ x6 → Q [aI 0] am_R0 h))) :
    am_V M_L_law kc ks 2739 [aR 1000, aR 0, aR 72, aR 81, aR 82, aI x5, aI x6, aI x7, aU] [aI xs0] am_R0 h Q X := by
  refine v_iload dL_law_2739 rfl ?_
  refine v_icmp_eq (tgt := 2746) dL_law_2741 (by decide) (fun z => ?_) (fun z => ?_)
  · have k := k.1 z
    refine v_iload dL_law_2746 rfl ?_
    refine v_if_ne (tgt := 2763) dL_law_2748 (by decide) (fun z => ?_) (fun z => ?_)
    · have k := k.1 z
      obtain ⟨b2_1, k⟩ := k
      refine v_goto (tgt := 3556) dL_law_2763 (by decide) ?_
      refine v_iinc (E2 := [aR 1000, aR 0, aR 72, aR 81, aR 82, aI (x5 + 10), aI x6, aI x7, aU]) dL_law_3556 rfl b2_1 rfl ?_
      refine v_goto (tgt := 28) dL_law_3559 (by decide) ?_
      refine v_weak (E2 := [aR 1000, aR 0, aR 72, aR 81, aR 82, aI (x5 + 10), aU, aU, aU]) ⟨Or.inl rfl, ⟨Or.inl rfl, ⟨Or.inl rfl, ⟨Or.inl rfl, ⟨Or.inl rfl, ⟨Or.inl rfl, ⟨Or.inr rfl, ⟨Or.inr rfl, ⟨Or.inl rfl, trivial⟩⟩⟩⟩⟩⟩⟩⟩⟩ ?_
      exact k
    · have k := k.2 z
      obtain ⟨⟨b2_1, b2_2⟩, k⟩ := k
      refine v_aload_n dL_law_2751 rfl rfl ?_
      refine v_iconst dL_law_2752 ⟨by decide, by decide⟩ ?_
      refine v_lald dL_law_2753 rfl b2_1 b2_2 ?_
      refine v_iload dL_law_2754 rfl ?_
      refine v_i2l dL_law_2756 ?_
      refine v_lcmp dL_law_2757 ?_
      refine v_if_eq (tgt := 2763) dL_law_2758 (by decide) (fun z => ?_) (fun z => ?_)
      · have k := k.1 z
        obtain ⟨b3_1, k⟩ := k
        refine v_goto (tgt := 3556) dL_law_2763 (by decide) ?_
        refine v_iinc (E2 := [aR 1000, aR 0, aR 72, aR 81, aR 82, aI (x5 + 10), aI x6, aI x7, aU]) dL_law_3556 rfl b3_1 rfl ?_
        refine v_goto (tgt := 28) dL_law_3559 (by decide) ?_
        refine v_weak (E2 := [aR 1000, aR 0, aR 72, aR 81, aR 82, aI (x5 + 10), aU, aU, aU]) ⟨Or.inl rfl, ⟨Or.inl rfl, ⟨Or.inl rfl, ⟨Or.inl rfl, ⟨Or.inl rfl, ⟨Or.inl rfl, ⟨Or.inr rfl, ⟨Or.inr rfl, ⟨Or.inl rfl, trivial⟩⟩⟩⟩⟩⟩⟩⟩⟩ ?_
        exact k
      · have k := k.2 z
        refine v_iconst dL_law_2761 ⟨by decide, by decide⟩ ?_
        exact v_lawret dL_law_2762 rfl k
  · have k := k.2 z
    refine v_iconst dL_law_2744 ⟨by decide, by decide⟩ ?_
    exact v_lawret dL_law_2745 rfl k
theorem S_law_2766 {kc ks : Nat} {h : Hh} {Q : PQ} {X : PX} {x5 : Int}
    (k : ((-2147483648 ≤ ((x5 + 1) : Int) ∧ ((x5 + 1) : Int) < 2147483648) ∧ (0 : Int) ≤ (x5 + 1) ∧ ((x5 + 1) : Int) < h 1001 0 ∧ 1 ≤ kc ∧ 6 ≤ ks) ∧ am_V M_L_squares 1 6 0 [aR 0, aI (h 1000 (x5 + 1)), aR 81, aU] [] am_R0 h (fun v ρ' h' => am_V M_L_law (kc - 1) (ks - 6) 2777 [aR 1000, aR 0, aR 72, aR 81, aR 82, aI x5, aU, aU, aU] (v ++ []) ρ' h' Q X) X) :
    am_V M_L_law kc ks 2766 [aR 1000, aR 0, aR 72, aR 81, aR 82, aI x5, aU, aU, aU] [] am_R0 h Q X := by
  obtain ⟨⟨b0_1, b0_2, b0_3, b0_4, b0_5⟩, k⟩ := k
  refine v_aload_n dL_law_2766 rfl rfl ?_
  refine v_aload_n dL_law_2767 rfl rfl ?_
  refine v_iload dL_law_2768 rfl ?_
  refine v_iconst dL_law_2770 ⟨by decide, by decide⟩ ?_
  refine v_iadd dL_law_2771 b0_1 ?_
  refine v_sld dL_law_2772 rfl b0_2 b0_3 (fun _ => ?_)
  refine v_aload_n dL_law_2773 rfl rfl ?_
  exact v_callSX (j := M_L_squares) (As := [aR 0, aI (h 1000 (x5 + 1)), aR 81]) (st := []) (E0 := [aR 0, aI (h 1000 (x5 + 1)), aR 81, aU]) dL_law_2774 ms_L_321 J_L_squares b0_4 b0_5 (Nat.le_of_ble_eq_true rfl) rfl (Nat.le_of_ble_eq_true rfl) (List.forall_mem_cons.mpr ⟨rfl, List.forall_mem_cons.mpr ⟨rfl, List.forall_mem_cons.mpr ⟨rfl, fun _ h9 => absurd h9 List.not_mem_nil⟩⟩⟩) (Nat.le_of_ble_eq_true rfl) rfl pn_L_squares rfl k
theorem S_law_2777 {kc ks : Nat} {h : Hh} {Q : PQ} {X : PX} {x5 : Int} {xs0 : Int}
    (k : ((-2147483648 ≤ ((x5 + 1) : Int) ∧ ((x5 + 1) : Int) < 2147483648) ∧ (0 : Int) ≤ (x5 + 1) ∧ ((x5 + 1) : Int) < h 1001 0) ∧ am_V M_X11_squares 0 0 0 [aR 72, aI (h 1000 (x5 + 1)), aU, aU, aU] [] am_R0 h (fun v ρ' h' => am_V M_L_law kc ks 2789 [aR 1000, aR 0, aR 72, aR 81, aR 82, aI x5, aI xs0, aU, aU] (v ++ []) ρ' h' Q X) X) :
    am_V M_L_law kc ks 2777 [aR 1000, aR 0, aR 72, aR 81, aR 82, aI x5, aU, aU, aU] [aI xs0] am_R0 h Q X := by
  obtain ⟨⟨b0_1, b0_2, b0_3⟩, k⟩ := k
  refine v_istore (E2 := [aR 1000, aR 0, aR 72, aR 81, aR 82, aI x5, aI xs0, aU, aU]) dL_law_2777 (Nat.le_of_ble_eq_true rfl) rfl ?_
  refine v_aload_n dL_law_2779 rfl rfl ?_
  refine v_aload_n dL_law_2780 rfl rfl ?_
  refine v_iload dL_law_2781 rfl ?_
  refine v_iconst dL_law_2783 ⟨by decide, by decide⟩ ?_
  refine v_iadd dL_law_2784 b0_1 ?_
  refine v_sld dL_law_2785 rfl b0_2 b0_3 (fun _ => ?_)
  exact v_callV (j := M_X11_squares) (As := [aI (h 1000 (x5 + 1))]) (st := []) (E0 := [aR 72, aI (h 1000 (x5 + 1)), aU, aU, aU]) (a := 72) (ci := 9) (N := 11) (q9 := (RX11, TX11, 11)) dL_law_2786 ml_L_323 J_X11_squares (Nat.zero_le _) (Nat.zero_le _) (Nat.le_of_ble_eq_true rfl) rfl (Nat.le_of_ble_eq_true rfl) (List.forall_mem_cons.mpr ⟨rfl, List.forall_mem_cons.mpr ⟨rfl, fun _ h9 => absurd h9 List.not_mem_nil⟩⟩) (Nat.le_of_ble_eq_true rfl) rfl rfl rfl rfl pn_X11_squares rfl k
theorem S_law_2789 {kc ks : Nat} {h : Hh} {Q : PQ} {X : PX} {x5 : Int} {x6 : Int} {xs0 : Int}
    (k : am_V M_X11_thrown 0 0 0 [aR 72] [] am_R0 h (fun v ρ' h' => am_V M_L_law kc ks 2795 [aR 1000, aR 0, aR 72, aR 81, aR 82, aI x5, aI x6, aI xs0, aU] (v ++ []) ρ' h' Q X) X) :
    am_V M_L_law kc ks 2789 [aR 1000, aR 0, aR 72, aR 81, aR 82, aI x5, aI x6, aU, aU] [aI xs0] am_R0 h Q X := by
  refine v_istore (E2 := [aR 1000, aR 0, aR 72, aR 81, aR 82, aI x5, aI x6, aI xs0, aU]) dL_law_2789 (Nat.le_of_ble_eq_true rfl) rfl ?_
  refine v_aload_n dL_law_2791 rfl rfl ?_
  exact v_callV (j := M_X11_thrown) (As := []) (st := []) (E0 := [aR 72]) (a := 72) (ci := 9) (N := 11) (q9 := (RX11, TX11, 11)) dL_law_2792 ml_L_195 J_X11_thrown (Nat.zero_le _) (Nat.zero_le _) (Nat.le_of_ble_eq_true rfl) rfl (Nat.le_of_ble_eq_true rfl) (List.forall_mem_cons.mpr ⟨rfl, fun _ h9 => absurd h9 List.not_mem_nil⟩) (Nat.le_of_ble_eq_true rfl) rfl rfl rfl rfl pn_X11_thrown rfl k
theorem S_law_2795 {kc ks : Nat} {h : Hh} {Q : PQ} {X : PX} {x5 : Int} {x6 : Int} {x7 : Int} {xs0 : Int}
    (k : ((xs0 = x6 → ((x6 ≠ 0 → ((-2147483648 ≤ ((x5 + 10) : Int) ∧ ((x5 + 10) : Int) < 2147483648)) ∧ am_V M_L_law kc ks 28 [aR 1000, aR 0, aR 72, aR 81, aR 82, aI (x5 + 10), aU, aU, aU] [] am_R0 h Q X) ∧ (x6 = 0 → ((0 : Int) ≤ 0 ∧ (0 : Int) < 1) ∧ (((if x7 < (h 81 0) then 1 else if (h 81 0) = x7 then 0 else -1) = 0 → ((-2147483648 ≤ ((x5 + 10) : Int) ∧ ((x5 + 10) : Int) < 2147483648)) ∧ am_V M_L_law kc ks 28 [aR 1000, aR 0, aR 72, aR 81, aR 82, aI (x5 + 10), aU, aU, aU] [] am_R0 h Q X) ∧ ((if x7 < (h 81 0) then 1 else if (h 81 0) = x7 then 0 else -1) ≠ 0 → Q [aI 0] am_R0 h))))) ∧ (xs0 ≠ x6 → Q [aI 0] am_R0 h))) :
    am_V M_L_law kc ks 2795 [aR 1000, aR 0, aR 72, aR 81, aR 82, aI x5, aI x6, aI x7, aU] [aI xs0] am_R0 h Q X := by
  refine v_iload dL_law_2795 rfl ?_
  refine v_icmp_eq (tgt := 2802) dL_law_2797 (by decide) (fun z => ?_) (fun z => ?_)
  · have k := k.1 z
    refine v_iload dL_law_2802 rfl ?_
    refine v_if_ne (tgt := 2819) dL_law_2804 (by decide) (fun z => ?_) (fun z => ?_)
    · have k := k.1 z
      obtain ⟨b2_1, k⟩ := k
      refine v_goto (tgt := 3556) dL_law_2819 (by decide) ?_
      refine v_iinc (E2 := [aR 1000, aR 0, aR 72, aR 81, aR 82, aI (x5 + 10), aI x6, aI x7, aU]) dL_law_3556 rfl b2_1 rfl ?_
      refine v_goto (tgt := 28) dL_law_3559 (by decide) ?_
      refine v_weak (E2 := [aR 1000, aR 0, aR 72, aR 81, aR 82, aI (x5 + 10), aU, aU, aU]) ⟨Or.inl rfl, ⟨Or.inl rfl, ⟨Or.inl rfl, ⟨Or.inl rfl, ⟨Or.inl rfl, ⟨Or.inl rfl, ⟨Or.inr rfl, ⟨Or.inr rfl, ⟨Or.inl rfl, trivial⟩⟩⟩⟩⟩⟩⟩⟩⟩ ?_
      exact k
    · have k := k.2 z
      obtain ⟨⟨b2_1, b2_2⟩, k⟩ := k
      refine v_aload_n dL_law_2807 rfl rfl ?_
      refine v_iconst dL_law_2808 ⟨by decide, by decide⟩ ?_
      refine v_lald dL_law_2809 rfl b2_1 b2_2 ?_
      refine v_iload dL_law_2810 rfl ?_
      refine v_i2l dL_law_2812 ?_
      refine v_lcmp dL_law_2813 ?_
      refine v_if_eq (tgt := 2819) dL_law_2814 (by decide) (fun z => ?_) (fun z => ?_)
      · have k := k.1 z
        obtain ⟨b3_1, k⟩ := k
        refine v_goto (tgt := 3556) dL_law_2819 (by decide) ?_
        refine v_iinc (E2 := [aR 1000, aR 0, aR 72, aR 81, aR 82, aI (x5 + 10), aI x6, aI x7, aU]) dL_law_3556 rfl b3_1 rfl ?_
        refine v_goto (tgt := 28) dL_law_3559 (by decide) ?_
        refine v_weak (E2 := [aR 1000, aR 0, aR 72, aR 81, aR 82, aI (x5 + 10), aU, aU, aU]) ⟨Or.inl rfl, ⟨Or.inl rfl, ⟨Or.inl rfl, ⟨Or.inl rfl, ⟨Or.inl rfl, ⟨Or.inl rfl, ⟨Or.inr rfl, ⟨Or.inr rfl, ⟨Or.inl rfl, trivial⟩⟩⟩⟩⟩⟩⟩⟩⟩ ?_
        exact k
      · have k := k.2 z
        refine v_iconst dL_law_2817 ⟨by decide, by decide⟩ ?_
        exact v_lawret dL_law_2818 rfl k
  · have k := k.2 z
    refine v_iconst dL_law_2800 ⟨by decide, by decide⟩ ?_
    exact v_lawret dL_law_2801 rfl k
theorem S_law_2822 {kc ks : Nat} {h : Hh} {Q : PQ} {X : PX} {x5 : Int}
    (k : ((-2147483648 ≤ ((x5 + 1) : Int) ∧ ((x5 + 1) : Int) < 2147483648) ∧ (0 : Int) ≤ (x5 + 1) ∧ ((x5 + 1) : Int) < h 1001 0 ∧ (-2147483648 ≤ ((x5 + 2) : Int) ∧ ((x5 + 2) : Int) < 2147483648) ∧ (0 : Int) ≤ (x5 + 2) ∧ ((x5 + 2) : Int) < h 1001 0 ∧ 3 ≤ kc ∧ 18 ≤ ks) ∧ am_V M_L_squareAt 3 18 0 [aR 0, aI (h 1000 (x5 + 1)), aI (h 1000 (x5 + 2)), aR 81, aU] [] am_R0 h (fun v ρ' h' => am_V M_L_law (kc - 3) (ks - 18) 2839 [aR 1000, aR 0, aR 72, aR 81, aR 82, aI x5, aU, aU, aU] (v ++ []) ρ' h' Q X) X) :
    am_V M_L_law kc ks 2822 [aR 1000, aR 0, aR 72, aR 81, aR 82, aI x5, aU, aU, aU] [] am_R0 h Q X := by
  obtain ⟨⟨b0_1, b0_2, b0_3, b0_4, b0_5, b0_6, b0_7, b0_8⟩, k⟩ := k
  refine v_aload_n dL_law_2822 rfl rfl ?_
  refine v_aload_n dL_law_2823 rfl rfl ?_
  refine v_iload dL_law_2824 rfl ?_
  refine v_iconst dL_law_2826 ⟨by decide, by decide⟩ ?_
  refine v_iadd dL_law_2827 b0_1 ?_
  refine v_sld dL_law_2828 rfl b0_2 b0_3 (fun _ => ?_)
  refine v_aload_n dL_law_2829 rfl rfl ?_
  refine v_iload dL_law_2830 rfl ?_
  refine v_iconst dL_law_2832 ⟨by decide, by decide⟩ ?_
  refine v_iadd dL_law_2833 b0_4 ?_
  refine v_sld dL_law_2834 rfl b0_5 b0_6 (fun _ => ?_)
  refine v_aload_n dL_law_2835 rfl rfl ?_
  exact v_callSX (j := M_L_squareAt) (As := [aR 0, aI (h 1000 (x5 + 1)), aI (h 1000 (x5 + 2)), aR 81]) (st := []) (E0 := [aR 0, aI (h 1000 (x5 + 1)), aI (h 1000 (x5 + 2)), aR 81, aU]) dL_law_2836 ms_L_324 J_L_squareAt b0_7 b0_8 (Nat.le_of_ble_eq_true rfl) rfl (Nat.le_of_ble_eq_true rfl) (List.forall_mem_cons.mpr ⟨rfl, List.forall_mem_cons.mpr ⟨rfl, List.forall_mem_cons.mpr ⟨rfl, List.forall_mem_cons.mpr ⟨rfl, fun _ h9 => absurd h9 List.not_mem_nil⟩⟩⟩⟩) (Nat.le_of_ble_eq_true rfl) rfl pn_L_squareAt rfl k
theorem S_law_2839 {kc ks : Nat} {h : Hh} {Q : PQ} {X : PX} {x5 : Int} {xs0 : Int}
    (k : ((-2147483648 ≤ ((x5 + 1) : Int) ∧ ((x5 + 1) : Int) < 2147483648) ∧ (0 : Int) ≤ (x5 + 1) ∧ ((x5 + 1) : Int) < h 1001 0 ∧ (-2147483648 ≤ ((x5 + 2) : Int) ∧ ((x5 + 2) : Int) < 2147483648) ∧ (0 : Int) ≤ (x5 + 2) ∧ ((x5 + 2) : Int) < h 1001 0) ∧ am_V M_X11_squareAt 0 0 0 [aR 72, aI (h 1000 (x5 + 1)), aI (h 1000 (x5 + 2)), aU] [] am_R0 h (fun v ρ' h' => am_V M_L_law kc ks 2857 [aR 1000, aR 0, aR 72, aR 81, aR 82, aI x5, aI xs0, aU, aU] (v ++ []) ρ' h' Q X) X) :
    am_V M_L_law kc ks 2839 [aR 1000, aR 0, aR 72, aR 81, aR 82, aI x5, aU, aU, aU] [aI xs0] am_R0 h Q X := by
  obtain ⟨⟨b0_1, b0_2, b0_3, b0_4, b0_5, b0_6⟩, k⟩ := k
  refine v_istore (E2 := [aR 1000, aR 0, aR 72, aR 81, aR 82, aI x5, aI xs0, aU, aU]) dL_law_2839 (Nat.le_of_ble_eq_true rfl) rfl ?_
  refine v_aload_n dL_law_2841 rfl rfl ?_
  refine v_aload_n dL_law_2842 rfl rfl ?_
  refine v_iload dL_law_2843 rfl ?_
  refine v_iconst dL_law_2845 ⟨by decide, by decide⟩ ?_
  refine v_iadd dL_law_2846 b0_1 ?_
  refine v_sld dL_law_2847 rfl b0_2 b0_3 (fun _ => ?_)
  refine v_aload_n dL_law_2848 rfl rfl ?_
  refine v_iload dL_law_2849 rfl ?_
  refine v_iconst dL_law_2851 ⟨by decide, by decide⟩ ?_
  refine v_iadd dL_law_2852 b0_4 ?_
  refine v_sld dL_law_2853 rfl b0_5 b0_6 (fun _ => ?_)
  exact v_callV (j := M_X11_squareAt) (As := [aI (h 1000 (x5 + 1)), aI (h 1000 (x5 + 2))]) (st := []) (E0 := [aR 72, aI (h 1000 (x5 + 1)), aI (h 1000 (x5 + 2)), aU]) (a := 72) (ci := 9) (N := 11) (q9 := (RX11, TX11, 11)) dL_law_2854 ml_L_326 J_X11_squareAt (Nat.zero_le _) (Nat.zero_le _) (Nat.le_of_ble_eq_true rfl) rfl (Nat.le_of_ble_eq_true rfl) (List.forall_mem_cons.mpr ⟨rfl, List.forall_mem_cons.mpr ⟨rfl, List.forall_mem_cons.mpr ⟨rfl, fun _ h9 => absurd h9 List.not_mem_nil⟩⟩⟩) (Nat.le_of_ble_eq_true rfl) rfl rfl rfl rfl pn_X11_squareAt rfl k
theorem S_law_2857 {kc ks : Nat} {h : Hh} {Q : PQ} {X : PX} {x5 : Int} {x6 : Int} {xs0 : Int}
    (k : am_V M_X11_thrown 0 0 0 [aR 72] [] am_R0 h (fun v ρ' h' => am_V M_L_law kc ks 2863 [aR 1000, aR 0, aR 72, aR 81, aR 82, aI x5, aI x6, aI xs0, aU] (v ++ []) ρ' h' Q X) X) :
    am_V M_L_law kc ks 2857 [aR 1000, aR 0, aR 72, aR 81, aR 82, aI x5, aI x6, aU, aU] [aI xs0] am_R0 h Q X := by
  refine v_istore (E2 := [aR 1000, aR 0, aR 72, aR 81, aR 82, aI x5, aI x6, aI xs0, aU]) dL_law_2857 (Nat.le_of_ble_eq_true rfl) rfl ?_
  refine v_aload_n dL_law_2859 rfl rfl ?_
  exact v_callV (j := M_X11_thrown) (As := []) (st := []) (E0 := [aR 72]) (a := 72) (ci := 9) (N := 11) (q9 := (RX11, TX11, 11)) dL_law_2860 ml_L_195 J_X11_thrown (Nat.zero_le _) (Nat.zero_le _) (Nat.le_of_ble_eq_true rfl) rfl (Nat.le_of_ble_eq_true rfl) (List.forall_mem_cons.mpr ⟨rfl, fun _ h9 => absurd h9 List.not_mem_nil⟩) (Nat.le_of_ble_eq_true rfl) rfl rfl rfl rfl pn_X11_thrown rfl k
theorem S_law_2863 {kc ks : Nat} {h : Hh} {Q : PQ} {X : PX} {x5 : Int} {x6 : Int} {x7 : Int} {xs0 : Int}
    (k : ((xs0 = x6 → ((x6 ≠ 0 → ((-2147483648 ≤ ((x5 + 10) : Int) ∧ ((x5 + 10) : Int) < 2147483648)) ∧ am_V M_L_law kc ks 28 [aR 1000, aR 0, aR 72, aR 81, aR 82, aI (x5 + 10), aU, aU, aU] [] am_R0 h Q X) ∧ (x6 = 0 → ((0 : Int) ≤ 0 ∧ (0 : Int) < 1) ∧ (((if x7 < (h 81 0) then 1 else if (h 81 0) = x7 then 0 else -1) = 0 → ((-2147483648 ≤ ((x5 + 10) : Int) ∧ ((x5 + 10) : Int) < 2147483648)) ∧ am_V M_L_law kc ks 28 [aR 1000, aR 0, aR 72, aR 81, aR 82, aI (x5 + 10), aU, aU, aU] [] am_R0 h Q X) ∧ ((if x7 < (h 81 0) then 1 else if (h 81 0) = x7 then 0 else -1) ≠ 0 → Q [aI 0] am_R0 h))))) ∧ (xs0 ≠ x6 → Q [aI 0] am_R0 h))) :
    am_V M_L_law kc ks 2863 [aR 1000, aR 0, aR 72, aR 81, aR 82, aI x5, aI x6, aI x7, aU] [aI xs0] am_R0 h Q X := by
  refine v_iload dL_law_2863 rfl ?_
  refine v_icmp_eq (tgt := 2870) dL_law_2865 (by decide) (fun z => ?_) (fun z => ?_)
  · have k := k.1 z
    refine v_iload dL_law_2870 rfl ?_
    refine v_if_ne (tgt := 2887) dL_law_2872 (by decide) (fun z => ?_) (fun z => ?_)
    · have k := k.1 z
      obtain ⟨b2_1, k⟩ := k
      refine v_goto (tgt := 3556) dL_law_2887 (by decide) ?_
      refine v_iinc (E2 := [aR 1000, aR 0, aR 72, aR 81, aR 82, aI (x5 + 10), aI x6, aI x7, aU]) dL_law_3556 rfl b2_1 rfl ?_
      refine v_goto (tgt := 28) dL_law_3559 (by decide) ?_
      refine v_weak (E2 := [aR 1000, aR 0, aR 72, aR 81, aR 82, aI (x5 + 10), aU, aU, aU]) ⟨Or.inl rfl, ⟨Or.inl rfl, ⟨Or.inl rfl, ⟨Or.inl rfl, ⟨Or.inl rfl, ⟨Or.inl rfl, ⟨Or.inr rfl, ⟨Or.inr rfl, ⟨Or.inl rfl, trivial⟩⟩⟩⟩⟩⟩⟩⟩⟩ ?_
      exact k
    · have k := k.2 z
      obtain ⟨⟨b2_1, b2_2⟩, k⟩ := k
      refine v_aload_n dL_law_2875 rfl rfl ?_
      refine v_iconst dL_law_2876 ⟨by decide, by decide⟩ ?_
      refine v_lald dL_law_2877 rfl b2_1 b2_2 ?_
      refine v_iload dL_law_2878 rfl ?_
      refine v_i2l dL_law_2880 ?_
      refine v_lcmp dL_law_2881 ?_
      refine v_if_eq (tgt := 2887) dL_law_2882 (by decide) (fun z => ?_) (fun z => ?_)
      · have k := k.1 z
        obtain ⟨b3_1, k⟩ := k
        refine v_goto (tgt := 3556) dL_law_2887 (by decide) ?_
        refine v_iinc (E2 := [aR 1000, aR 0, aR 72, aR 81, aR 82, aI (x5 + 10), aI x6, aI x7, aU]) dL_law_3556 rfl b3_1 rfl ?_
        refine v_goto (tgt := 28) dL_law_3559 (by decide) ?_
        refine v_weak (E2 := [aR 1000, aR 0, aR 72, aR 81, aR 82, aI (x5 + 10), aU, aU, aU]) ⟨Or.inl rfl, ⟨Or.inl rfl, ⟨Or.inl rfl, ⟨Or.inl rfl, ⟨Or.inl rfl, ⟨Or.inl rfl, ⟨Or.inr rfl, ⟨Or.inr rfl, ⟨Or.inl rfl, trivial⟩⟩⟩⟩⟩⟩⟩⟩⟩ ?_
        exact k
      · have k := k.2 z
        refine v_iconst dL_law_2885 ⟨by decide, by decide⟩ ?_
        exact v_lawret dL_law_2886 rfl k
  · have k := k.2 z
    refine v_iconst dL_law_2868 ⟨by decide, by decide⟩ ?_
    exact v_lawret dL_law_2869 rfl k
theorem S_law_2890 {kc ks : Nat} {h : Hh} {Q : PQ} {X : PX} {x5 : Int}
    (k : ((-2147483648 ≤ ((x5 + 1) : Int) ∧ ((x5 + 1) : Int) < 2147483648) ∧ (0 : Int) ≤ (x5 + 1) ∧ ((x5 + 1) : Int) < h 1001 0 ∧ 2 ≤ kc ∧ 12 ≤ ks) ∧ am_V M_L_period 2 12 0 [aR 0, aI (h 1000 (x5 + 1)), aR 81, aU] [] am_R0 h (fun v ρ' h' => am_V M_L_law (kc - 2) (ks - 12) 2901 [aR 1000, aR 0, aR 72, aR 81, aR 82, aI x5, aU, aU, aU] (v ++ []) ρ' h' Q X) X) :
    am_V M_L_law kc ks 2890 [aR 1000, aR 0, aR 72, aR 81, aR 82, aI x5, aU, aU, aU] [] am_R0 h Q X := by
  obtain ⟨⟨b0_1, b0_2, b0_3, b0_4, b0_5⟩, k⟩ := k
  refine v_aload_n dL_law_2890 rfl rfl ?_
  refine v_aload_n dL_law_2891 rfl rfl ?_
  refine v_iload dL_law_2892 rfl ?_
  refine v_iconst dL_law_2894 ⟨by decide, by decide⟩ ?_
  refine v_iadd dL_law_2895 b0_1 ?_
  refine v_sld dL_law_2896 rfl b0_2 b0_3 (fun _ => ?_)
  refine v_aload_n dL_law_2897 rfl rfl ?_
  exact v_callSX (j := M_L_period) (As := [aR 0, aI (h 1000 (x5 + 1)), aR 81]) (st := []) (E0 := [aR 0, aI (h 1000 (x5 + 1)), aR 81, aU]) dL_law_2898 ms_L_327 J_L_period b0_4 b0_5 (Nat.le_of_ble_eq_true rfl) rfl (Nat.le_of_ble_eq_true rfl) (List.forall_mem_cons.mpr ⟨rfl, List.forall_mem_cons.mpr ⟨rfl, List.forall_mem_cons.mpr ⟨rfl, fun _ h9 => absurd h9 List.not_mem_nil⟩⟩⟩) (Nat.le_of_ble_eq_true rfl) rfl pn_L_period rfl k
theorem S_law_2901 {kc ks : Nat} {h : Hh} {Q : PQ} {X : PX} {x5 : Int} {xs0 : Int}
    (k : ((-2147483648 ≤ ((x5 + 1) : Int) ∧ ((x5 + 1) : Int) < 2147483648) ∧ (0 : Int) ≤ (x5 + 1) ∧ ((x5 + 1) : Int) < h 1001 0) ∧ am_V M_X11_period 0 0 0 [aR 72, aI (h 1000 (x5 + 1)), aU] [] am_R0 h (fun v ρ' h' => am_V M_L_law kc ks 2913 [aR 1000, aR 0, aR 72, aR 81, aR 82, aI x5, aI xs0, aU, aU] (v ++ []) ρ' h' Q X) X) :
    am_V M_L_law kc ks 2901 [aR 1000, aR 0, aR 72, aR 81, aR 82, aI x5, aU, aU, aU] [aI xs0] am_R0 h Q X := by
  obtain ⟨⟨b0_1, b0_2, b0_3⟩, k⟩ := k
  refine v_istore (E2 := [aR 1000, aR 0, aR 72, aR 81, aR 82, aI x5, aI xs0, aU, aU]) dL_law_2901 (Nat.le_of_ble_eq_true rfl) rfl ?_
  refine v_aload_n dL_law_2903 rfl rfl ?_
  refine v_aload_n dL_law_2904 rfl rfl ?_
  refine v_iload dL_law_2905 rfl ?_
  refine v_iconst dL_law_2907 ⟨by decide, by decide⟩ ?_
  refine v_iadd dL_law_2908 b0_1 ?_
  refine v_sld dL_law_2909 rfl b0_2 b0_3 (fun _ => ?_)
  exact v_callV (j := M_X11_period) (As := [aI (h 1000 (x5 + 1))]) (st := []) (E0 := [aR 72, aI (h 1000 (x5 + 1)), aU]) (a := 72) (ci := 9) (N := 11) (q9 := (RX11, TX11, 11)) dL_law_2910 ml_L_329 J_X11_period (Nat.zero_le _) (Nat.zero_le _) (Nat.le_of_ble_eq_true rfl) rfl (Nat.le_of_ble_eq_true rfl) (List.forall_mem_cons.mpr ⟨rfl, List.forall_mem_cons.mpr ⟨rfl, fun _ h9 => absurd h9 List.not_mem_nil⟩⟩) (Nat.le_of_ble_eq_true rfl) rfl rfl rfl rfl pn_X11_period rfl k
theorem S_law_2913 {kc ks : Nat} {h : Hh} {Q : PQ} {X : PX} {x5 : Int} {x6 : Int} {xs0 : Int}
    (k : am_V M_X11_thrown 0 0 0 [aR 72] [] am_R0 h (fun v ρ' h' => am_V M_L_law kc ks 2919 [aR 1000, aR 0, aR 72, aR 81, aR 82, aI x5, aI x6, aI xs0, aU] (v ++ []) ρ' h' Q X) X) :
    am_V M_L_law kc ks 2913 [aR 1000, aR 0, aR 72, aR 81, aR 82, aI x5, aI x6, aU, aU] [aI xs0] am_R0 h Q X := by
  refine v_istore (E2 := [aR 1000, aR 0, aR 72, aR 81, aR 82, aI x5, aI x6, aI xs0, aU]) dL_law_2913 (Nat.le_of_ble_eq_true rfl) rfl ?_
  refine v_aload_n dL_law_2915 rfl rfl ?_
  exact v_callV (j := M_X11_thrown) (As := []) (st := []) (E0 := [aR 72]) (a := 72) (ci := 9) (N := 11) (q9 := (RX11, TX11, 11)) dL_law_2916 ml_L_195 J_X11_thrown (Nat.zero_le _) (Nat.zero_le _) (Nat.le_of_ble_eq_true rfl) rfl (Nat.le_of_ble_eq_true rfl) (List.forall_mem_cons.mpr ⟨rfl, fun _ h9 => absurd h9 List.not_mem_nil⟩) (Nat.le_of_ble_eq_true rfl) rfl rfl rfl rfl pn_X11_thrown rfl k
theorem S_law_2919 {kc ks : Nat} {h : Hh} {Q : PQ} {X : PX} {x5 : Int} {x6 : Int} {x7 : Int} {xs0 : Int}
    (k : ((xs0 = x6 → ((x6 ≠ 0 → ((-2147483648 ≤ ((x5 + 10) : Int) ∧ ((x5 + 10) : Int) < 2147483648)) ∧ am_V M_L_law kc ks 28 [aR 1000, aR 0, aR 72, aR 81, aR 82, aI (x5 + 10), aU, aU, aU] [] am_R0 h Q X) ∧ (x6 = 0 → ((0 : Int) ≤ 0 ∧ (0 : Int) < 1) ∧ (((if x7 < (h 81 0) then 1 else if (h 81 0) = x7 then 0 else -1) = 0 → ((-2147483648 ≤ ((x5 + 10) : Int) ∧ ((x5 + 10) : Int) < 2147483648)) ∧ am_V M_L_law kc ks 28 [aR 1000, aR 0, aR 72, aR 81, aR 82, aI (x5 + 10), aU, aU, aU] [] am_R0 h Q X) ∧ ((if x7 < (h 81 0) then 1 else if (h 81 0) = x7 then 0 else -1) ≠ 0 → Q [aI 0] am_R0 h))))) ∧ (xs0 ≠ x6 → Q [aI 0] am_R0 h))) :
    am_V M_L_law kc ks 2919 [aR 1000, aR 0, aR 72, aR 81, aR 82, aI x5, aI x6, aI x7, aU] [aI xs0] am_R0 h Q X := by
  refine v_iload dL_law_2919 rfl ?_
  refine v_icmp_eq (tgt := 2926) dL_law_2921 (by decide) (fun z => ?_) (fun z => ?_)
  · have k := k.1 z
    refine v_iload dL_law_2926 rfl ?_
    refine v_if_ne (tgt := 2943) dL_law_2928 (by decide) (fun z => ?_) (fun z => ?_)
    · have k := k.1 z
      obtain ⟨b2_1, k⟩ := k
      refine v_goto (tgt := 3556) dL_law_2943 (by decide) ?_
      refine v_iinc (E2 := [aR 1000, aR 0, aR 72, aR 81, aR 82, aI (x5 + 10), aI x6, aI x7, aU]) dL_law_3556 rfl b2_1 rfl ?_
      refine v_goto (tgt := 28) dL_law_3559 (by decide) ?_
      refine v_weak (E2 := [aR 1000, aR 0, aR 72, aR 81, aR 82, aI (x5 + 10), aU, aU, aU]) ⟨Or.inl rfl, ⟨Or.inl rfl, ⟨Or.inl rfl, ⟨Or.inl rfl, ⟨Or.inl rfl, ⟨Or.inl rfl, ⟨Or.inr rfl, ⟨Or.inr rfl, ⟨Or.inl rfl, trivial⟩⟩⟩⟩⟩⟩⟩⟩⟩ ?_
      exact k
    · have k := k.2 z
      obtain ⟨⟨b2_1, b2_2⟩, k⟩ := k
      refine v_aload_n dL_law_2931 rfl rfl ?_
      refine v_iconst dL_law_2932 ⟨by decide, by decide⟩ ?_
      refine v_lald dL_law_2933 rfl b2_1 b2_2 ?_
      refine v_iload dL_law_2934 rfl ?_
      refine v_i2l dL_law_2936 ?_
      refine v_lcmp dL_law_2937 ?_
      refine v_if_eq (tgt := 2943) dL_law_2938 (by decide) (fun z => ?_) (fun z => ?_)
      · have k := k.1 z
        obtain ⟨b3_1, k⟩ := k
        refine v_goto (tgt := 3556) dL_law_2943 (by decide) ?_
        refine v_iinc (E2 := [aR 1000, aR 0, aR 72, aR 81, aR 82, aI (x5 + 10), aI x6, aI x7, aU]) dL_law_3556 rfl b3_1 rfl ?_
        refine v_goto (tgt := 28) dL_law_3559 (by decide) ?_
        refine v_weak (E2 := [aR 1000, aR 0, aR 72, aR 81, aR 82, aI (x5 + 10), aU, aU, aU]) ⟨Or.inl rfl, ⟨Or.inl rfl, ⟨Or.inl rfl, ⟨Or.inl rfl, ⟨Or.inl rfl, ⟨Or.inl rfl, ⟨Or.inr rfl, ⟨Or.inr rfl, ⟨Or.inl rfl, trivial⟩⟩⟩⟩⟩⟩⟩⟩⟩ ?_
        exact k
      · have k := k.2 z
        refine v_iconst dL_law_2941 ⟨by decide, by decide⟩ ?_
        exact v_lawret dL_law_2942 rfl k
  · have k := k.2 z
    refine v_iconst dL_law_2924 ⟨by decide, by decide⟩ ?_
    exact v_lawret dL_law_2925 rfl k
theorem S_law_2946 {kc ks : Nat} {h : Hh} {Q : PQ} {X : PX} {x5 : Int}
    (k : ((-2147483648 ≤ ((x5 + 1) : Int) ∧ ((x5 + 1) : Int) < 2147483648) ∧ (0 : Int) ≤ (x5 + 1) ∧ ((x5 + 1) : Int) < h 1001 0 ∧ 2 ≤ kc ∧ 12 ≤ ks) ∧ am_V M_L_turnAt 2 12 0 [aR 0, aI (h 1000 (x5 + 1)), aR 81, aU] [] am_R0 h (fun v ρ' h' => am_V M_L_law (kc - 2) (ks - 12) 2957 [aR 1000, aR 0, aR 72, aR 81, aR 82, aI x5, aU, aU, aU] (v ++ []) ρ' h' Q X) X) :
    am_V M_L_law kc ks 2946 [aR 1000, aR 0, aR 72, aR 81, aR 82, aI x5, aU, aU, aU] [] am_R0 h Q X := by
  obtain ⟨⟨b0_1, b0_2, b0_3, b0_4, b0_5⟩, k⟩ := k
  refine v_aload_n dL_law_2946 rfl rfl ?_
  refine v_aload_n dL_law_2947 rfl rfl ?_
  refine v_iload dL_law_2948 rfl ?_
  refine v_iconst dL_law_2950 ⟨by decide, by decide⟩ ?_
  refine v_iadd dL_law_2951 b0_1 ?_
  refine v_sld dL_law_2952 rfl b0_2 b0_3 (fun _ => ?_)
  refine v_aload_n dL_law_2953 rfl rfl ?_
  exact v_callSX (j := M_L_turnAt) (As := [aR 0, aI (h 1000 (x5 + 1)), aR 81]) (st := []) (E0 := [aR 0, aI (h 1000 (x5 + 1)), aR 81, aU]) dL_law_2954 ms_L_330 J_L_turnAt b0_4 b0_5 (Nat.le_of_ble_eq_true rfl) rfl (Nat.le_of_ble_eq_true rfl) (List.forall_mem_cons.mpr ⟨rfl, List.forall_mem_cons.mpr ⟨rfl, List.forall_mem_cons.mpr ⟨rfl, fun _ h9 => absurd h9 List.not_mem_nil⟩⟩⟩) (Nat.le_of_ble_eq_true rfl) rfl pn_L_turnAt rfl k
theorem S_law_2957 {kc ks : Nat} {h : Hh} {Q : PQ} {X : PX} {x5 : Int} {xs0 : Int}
    (k : ((-2147483648 ≤ ((x5 + 1) : Int) ∧ ((x5 + 1) : Int) < 2147483648) ∧ (0 : Int) ≤ (x5 + 1) ∧ ((x5 + 1) : Int) < h 1001 0) ∧ am_V M_X11_turnAt 0 0 0 [aR 72, aI (h 1000 (x5 + 1)), aU, aU, aU, aU] [] am_R0 h (fun v ρ' h' => am_V M_L_law kc ks 2969 [aR 1000, aR 0, aR 72, aR 81, aR 82, aI x5, aI xs0, aU, aU] (v ++ []) ρ' h' Q X) X) :
    am_V M_L_law kc ks 2957 [aR 1000, aR 0, aR 72, aR 81, aR 82, aI x5, aU, aU, aU] [aI xs0] am_R0 h Q X := by
  obtain ⟨⟨b0_1, b0_2, b0_3⟩, k⟩ := k
  refine v_istore (E2 := [aR 1000, aR 0, aR 72, aR 81, aR 82, aI x5, aI xs0, aU, aU]) dL_law_2957 (Nat.le_of_ble_eq_true rfl) rfl ?_
  refine v_aload_n dL_law_2959 rfl rfl ?_
  refine v_aload_n dL_law_2960 rfl rfl ?_
  refine v_iload dL_law_2961 rfl ?_
  refine v_iconst dL_law_2963 ⟨by decide, by decide⟩ ?_
  refine v_iadd dL_law_2964 b0_1 ?_
  refine v_sld dL_law_2965 rfl b0_2 b0_3 (fun _ => ?_)
  exact v_callV (j := M_X11_turnAt) (As := [aI (h 1000 (x5 + 1))]) (st := []) (E0 := [aR 72, aI (h 1000 (x5 + 1)), aU, aU, aU, aU]) (a := 72) (ci := 9) (N := 11) (q9 := (RX11, TX11, 11)) dL_law_2966 ml_L_332 J_X11_turnAt (Nat.zero_le _) (Nat.zero_le _) (Nat.le_of_ble_eq_true rfl) rfl (Nat.le_of_ble_eq_true rfl) (List.forall_mem_cons.mpr ⟨rfl, List.forall_mem_cons.mpr ⟨rfl, fun _ h9 => absurd h9 List.not_mem_nil⟩⟩) (Nat.le_of_ble_eq_true rfl) rfl rfl rfl rfl pn_X11_turnAt rfl k
theorem S_law_2969 {kc ks : Nat} {h : Hh} {Q : PQ} {X : PX} {x5 : Int} {x6 : Int} {xs0 : Int}
    (k : am_V M_X11_thrown 0 0 0 [aR 72] [] am_R0 h (fun v ρ' h' => am_V M_L_law kc ks 2975 [aR 1000, aR 0, aR 72, aR 81, aR 82, aI x5, aI x6, aI xs0, aU] (v ++ []) ρ' h' Q X) X) :
    am_V M_L_law kc ks 2969 [aR 1000, aR 0, aR 72, aR 81, aR 82, aI x5, aI x6, aU, aU] [aI xs0] am_R0 h Q X := by
  refine v_istore (E2 := [aR 1000, aR 0, aR 72, aR 81, aR 82, aI x5, aI x6, aI xs0, aU]) dL_law_2969 (Nat.le_of_ble_eq_true rfl) rfl ?_
  refine v_aload_n dL_law_2971 rfl rfl ?_
  exact v_callV (j := M_X11_thrown) (As := []) (st := []) (E0 := [aR 72]) (a := 72) (ci := 9) (N := 11) (q9 := (RX11, TX11, 11)) dL_law_2972 ml_L_195 J_X11_thrown (Nat.zero_le _) (Nat.zero_le _) (Nat.le_of_ble_eq_true rfl) rfl (Nat.le_of_ble_eq_true rfl) (List.forall_mem_cons.mpr ⟨rfl, fun _ h9 => absurd h9 List.not_mem_nil⟩) (Nat.le_of_ble_eq_true rfl) rfl rfl rfl rfl pn_X11_thrown rfl k
theorem S_law_2975 {kc ks : Nat} {h : Hh} {Q : PQ} {X : PX} {x5 : Int} {x6 : Int} {x7 : Int} {xs0 : Int}
    (k : ((xs0 = x6 → ((x6 ≠ 0 → ((-2147483648 ≤ ((x5 + 10) : Int) ∧ ((x5 + 10) : Int) < 2147483648)) ∧ am_V M_L_law kc ks 28 [aR 1000, aR 0, aR 72, aR 81, aR 82, aI (x5 + 10), aU, aU, aU] [] am_R0 h Q X) ∧ (x6 = 0 → ((0 : Int) ≤ 0 ∧ (0 : Int) < 1) ∧ (((if x7 < (h 81 0) then 1 else if (h 81 0) = x7 then 0 else -1) = 0 → ((-2147483648 ≤ ((x5 + 10) : Int) ∧ ((x5 + 10) : Int) < 2147483648)) ∧ am_V M_L_law kc ks 28 [aR 1000, aR 0, aR 72, aR 81, aR 82, aI (x5 + 10), aU, aU, aU] [] am_R0 h Q X) ∧ ((if x7 < (h 81 0) then 1 else if (h 81 0) = x7 then 0 else -1) ≠ 0 → Q [aI 0] am_R0 h))))) ∧ (xs0 ≠ x6 → Q [aI 0] am_R0 h))) :
    am_V M_L_law kc ks 2975 [aR 1000, aR 0, aR 72, aR 81, aR 82, aI x5, aI x6, aI x7, aU] [aI xs0] am_R0 h Q X := by
  refine v_iload dL_law_2975 rfl ?_
  refine v_icmp_eq (tgt := 2982) dL_law_2977 (by decide) (fun z => ?_) (fun z => ?_)
  · have k := k.1 z
    refine v_iload dL_law_2982 rfl ?_
    refine v_if_ne (tgt := 2999) dL_law_2984 (by decide) (fun z => ?_) (fun z => ?_)
    · have k := k.1 z
      obtain ⟨b2_1, k⟩ := k
      refine v_goto (tgt := 3556) dL_law_2999 (by decide) ?_
      refine v_iinc (E2 := [aR 1000, aR 0, aR 72, aR 81, aR 82, aI (x5 + 10), aI x6, aI x7, aU]) dL_law_3556 rfl b2_1 rfl ?_
      refine v_goto (tgt := 28) dL_law_3559 (by decide) ?_
      refine v_weak (E2 := [aR 1000, aR 0, aR 72, aR 81, aR 82, aI (x5 + 10), aU, aU, aU]) ⟨Or.inl rfl, ⟨Or.inl rfl, ⟨Or.inl rfl, ⟨Or.inl rfl, ⟨Or.inl rfl, ⟨Or.inl rfl, ⟨Or.inr rfl, ⟨Or.inr rfl, ⟨Or.inl rfl, trivial⟩⟩⟩⟩⟩⟩⟩⟩⟩ ?_
      exact k
    · have k := k.2 z
      obtain ⟨⟨b2_1, b2_2⟩, k⟩ := k
      refine v_aload_n dL_law_2987 rfl rfl ?_
      refine v_iconst dL_law_2988 ⟨by decide, by decide⟩ ?_
      refine v_lald dL_law_2989 rfl b2_1 b2_2 ?_
      refine v_iload dL_law_2990 rfl ?_
      refine v_i2l dL_law_2992 ?_
      refine v_lcmp dL_law_2993 ?_
      refine v_if_eq (tgt := 2999) dL_law_2994 (by decide) (fun z => ?_) (fun z => ?_)
      · have k := k.1 z
        obtain ⟨b3_1, k⟩ := k
        refine v_goto (tgt := 3556) dL_law_2999 (by decide) ?_
        refine v_iinc (E2 := [aR 1000, aR 0, aR 72, aR 81, aR 82, aI (x5 + 10), aI x6, aI x7, aU]) dL_law_3556 rfl b3_1 rfl ?_
        refine v_goto (tgt := 28) dL_law_3559 (by decide) ?_
        refine v_weak (E2 := [aR 1000, aR 0, aR 72, aR 81, aR 82, aI (x5 + 10), aU, aU, aU]) ⟨Or.inl rfl, ⟨Or.inl rfl, ⟨Or.inl rfl, ⟨Or.inl rfl, ⟨Or.inl rfl, ⟨Or.inl rfl, ⟨Or.inr rfl, ⟨Or.inr rfl, ⟨Or.inl rfl, trivial⟩⟩⟩⟩⟩⟩⟩⟩⟩ ?_
        exact k
      · have k := k.2 z
        refine v_iconst dL_law_2997 ⟨by decide, by decide⟩ ?_
        exact v_lawret dL_law_2998 rfl k
  · have k := k.2 z
    refine v_iconst dL_law_2980 ⟨by decide, by decide⟩ ?_
    exact v_lawret dL_law_2981 rfl k
theorem S_law_3002 {kc ks : Nat} {h : Hh} {Q : PQ} {X : PX} {x5 : Int}
    (k : ((-2147483648 ≤ ((x5 + 1) : Int) ∧ ((x5 + 1) : Int) < 2147483648) ∧ (0 : Int) ≤ (x5 + 1) ∧ ((x5 + 1) : Int) < h 1001 0 ∧ 1 ≤ kc ∧ 6 ≤ ks) ∧ am_V M_L_parts 1 6 0 [aR 0, aI (h 1000 (x5 + 1)), aR 81, aU] [] am_R0 h (fun v ρ' h' => am_V M_L_law (kc - 1) (ks - 6) 3013 [aR 1000, aR 0, aR 72, aR 81, aR 82, aI x5, aU, aU, aU] (v ++ []) ρ' h' Q X) X) :
    am_V M_L_law kc ks 3002 [aR 1000, aR 0, aR 72, aR 81, aR 82, aI x5, aU, aU, aU] [] am_R0 h Q X := by
  obtain ⟨⟨b0_1, b0_2, b0_3, b0_4, b0_5⟩, k⟩ := k
  refine v_aload_n dL_law_3002 rfl rfl ?_
  refine v_aload_n dL_law_3003 rfl rfl ?_
  refine v_iload dL_law_3004 rfl ?_
  refine v_iconst dL_law_3006 ⟨by decide, by decide⟩ ?_
  refine v_iadd dL_law_3007 b0_1 ?_
  refine v_sld dL_law_3008 rfl b0_2 b0_3 (fun _ => ?_)
  refine v_aload_n dL_law_3009 rfl rfl ?_
  exact v_callSX (j := M_L_parts) (As := [aR 0, aI (h 1000 (x5 + 1)), aR 81]) (st := []) (E0 := [aR 0, aI (h 1000 (x5 + 1)), aR 81, aU]) dL_law_3010 ms_L_333 J_L_parts b0_4 b0_5 (Nat.le_of_ble_eq_true rfl) rfl (Nat.le_of_ble_eq_true rfl) (List.forall_mem_cons.mpr ⟨rfl, List.forall_mem_cons.mpr ⟨rfl, List.forall_mem_cons.mpr ⟨rfl, fun _ h9 => absurd h9 List.not_mem_nil⟩⟩⟩) (Nat.le_of_ble_eq_true rfl) rfl pn_L_parts rfl k
theorem S_law_3013 {kc ks : Nat} {h : Hh} {Q : PQ} {X : PX} {x5 : Int} {xs0 : Int}
    (k : ((-2147483648 ≤ ((x5 + 1) : Int) ∧ ((x5 + 1) : Int) < 2147483648) ∧ (0 : Int) ≤ (x5 + 1) ∧ ((x5 + 1) : Int) < h 1001 0) ∧ am_V M_X11_parts 0 0 0 [aR 72, aI (h 1000 (x5 + 1))] [] am_R0 h (fun v ρ' h' => am_V M_L_law kc ks 3025 [aR 1000, aR 0, aR 72, aR 81, aR 82, aI x5, aI xs0, aU, aU] (v ++ []) ρ' h' Q X) X) :
    am_V M_L_law kc ks 3013 [aR 1000, aR 0, aR 72, aR 81, aR 82, aI x5, aU, aU, aU] [aI xs0] am_R0 h Q X := by
  obtain ⟨⟨b0_1, b0_2, b0_3⟩, k⟩ := k
  refine v_istore (E2 := [aR 1000, aR 0, aR 72, aR 81, aR 82, aI x5, aI xs0, aU, aU]) dL_law_3013 (Nat.le_of_ble_eq_true rfl) rfl ?_
  refine v_aload_n dL_law_3015 rfl rfl ?_
  refine v_aload_n dL_law_3016 rfl rfl ?_
  refine v_iload dL_law_3017 rfl ?_
  refine v_iconst dL_law_3019 ⟨by decide, by decide⟩ ?_
  refine v_iadd dL_law_3020 b0_1 ?_
  refine v_sld dL_law_3021 rfl b0_2 b0_3 (fun _ => ?_)
  exact v_callV (j := M_X11_parts) (As := [aI (h 1000 (x5 + 1))]) (st := []) (E0 := [aR 72, aI (h 1000 (x5 + 1))]) (a := 72) (ci := 9) (N := 11) (q9 := (RX11, TX11, 11)) dL_law_3022 ml_L_335 J_X11_parts (Nat.zero_le _) (Nat.zero_le _) (Nat.le_of_ble_eq_true rfl) rfl (Nat.le_of_ble_eq_true rfl) (List.forall_mem_cons.mpr ⟨rfl, List.forall_mem_cons.mpr ⟨rfl, fun _ h9 => absurd h9 List.not_mem_nil⟩⟩) (Nat.le_of_ble_eq_true rfl) rfl rfl rfl rfl pn_X11_parts rfl k
theorem S_law_3025 {kc ks : Nat} {h : Hh} {Q : PQ} {X : PX} {x5 : Int} {x6 : Int} {xs0 : Int}
    (k : am_V M_X11_thrown 0 0 0 [aR 72] [] am_R0 h (fun v ρ' h' => am_V M_L_law kc ks 3031 [aR 1000, aR 0, aR 72, aR 81, aR 82, aI x5, aI x6, aI xs0, aU] (v ++ []) ρ' h' Q X) X) :
    am_V M_L_law kc ks 3025 [aR 1000, aR 0, aR 72, aR 81, aR 82, aI x5, aI x6, aU, aU] [aI xs0] am_R0 h Q X := by
  refine v_istore (E2 := [aR 1000, aR 0, aR 72, aR 81, aR 82, aI x5, aI x6, aI xs0, aU]) dL_law_3025 (Nat.le_of_ble_eq_true rfl) rfl ?_
  refine v_aload_n dL_law_3027 rfl rfl ?_
  exact v_callV (j := M_X11_thrown) (As := []) (st := []) (E0 := [aR 72]) (a := 72) (ci := 9) (N := 11) (q9 := (RX11, TX11, 11)) dL_law_3028 ml_L_195 J_X11_thrown (Nat.zero_le _) (Nat.zero_le _) (Nat.le_of_ble_eq_true rfl) rfl (Nat.le_of_ble_eq_true rfl) (List.forall_mem_cons.mpr ⟨rfl, fun _ h9 => absurd h9 List.not_mem_nil⟩) (Nat.le_of_ble_eq_true rfl) rfl rfl rfl rfl pn_X11_thrown rfl k
theorem S_law_3031 {kc ks : Nat} {h : Hh} {Q : PQ} {X : PX} {x5 : Int} {x6 : Int} {x7 : Int} {xs0 : Int}
    (k : ((xs0 = x6 → ((x6 ≠ 0 → ((-2147483648 ≤ ((x5 + 10) : Int) ∧ ((x5 + 10) : Int) < 2147483648)) ∧ am_V M_L_law kc ks 28 [aR 1000, aR 0, aR 72, aR 81, aR 82, aI (x5 + 10), aU, aU, aU] [] am_R0 h Q X) ∧ (x6 = 0 → ((0 : Int) ≤ 0 ∧ (0 : Int) < 1) ∧ (((if x7 < (h 81 0) then 1 else if (h 81 0) = x7 then 0 else -1) = 0 → ((-2147483648 ≤ ((x5 + 10) : Int) ∧ ((x5 + 10) : Int) < 2147483648)) ∧ am_V M_L_law kc ks 28 [aR 1000, aR 0, aR 72, aR 81, aR 82, aI (x5 + 10), aU, aU, aU] [] am_R0 h Q X) ∧ ((if x7 < (h 81 0) then 1 else if (h 81 0) = x7 then 0 else -1) ≠ 0 → Q [aI 0] am_R0 h))))) ∧ (xs0 ≠ x6 → Q [aI 0] am_R0 h))) :
    am_V M_L_law kc ks 3031 [aR 1000, aR 0, aR 72, aR 81, aR 82, aI x5, aI x6, aI x7, aU] [aI xs0] am_R0 h Q X := by
  refine v_iload dL_law_3031 rfl ?_
  refine v_icmp_eq (tgt := 3038) dL_law_3033 (by decide) (fun z => ?_) (fun z => ?_)
  · have k := k.1 z
    refine v_iload dL_law_3038 rfl ?_
    refine v_if_ne (tgt := 3055) dL_law_3040 (by decide) (fun z => ?_) (fun z => ?_)
    · have k := k.1 z
      obtain ⟨b2_1, k⟩ := k
      refine v_goto (tgt := 3556) dL_law_3055 (by decide) ?_
      refine v_iinc (E2 := [aR 1000, aR 0, aR 72, aR 81, aR 82, aI (x5 + 10), aI x6, aI x7, aU]) dL_law_3556 rfl b2_1 rfl ?_
      refine v_goto (tgt := 28) dL_law_3559 (by decide) ?_
      refine v_weak (E2 := [aR 1000, aR 0, aR 72, aR 81, aR 82, aI (x5 + 10), aU, aU, aU]) ⟨Or.inl rfl, ⟨Or.inl rfl, ⟨Or.inl rfl, ⟨Or.inl rfl, ⟨Or.inl rfl, ⟨Or.inl rfl, ⟨Or.inr rfl, ⟨Or.inr rfl, ⟨Or.inl rfl, trivial⟩⟩⟩⟩⟩⟩⟩⟩⟩ ?_
      exact k
    · have k := k.2 z
      obtain ⟨⟨b2_1, b2_2⟩, k⟩ := k
      refine v_aload_n dL_law_3043 rfl rfl ?_
      refine v_iconst dL_law_3044 ⟨by decide, by decide⟩ ?_
      refine v_lald dL_law_3045 rfl b2_1 b2_2 ?_
      refine v_iload dL_law_3046 rfl ?_
      refine v_i2l dL_law_3048 ?_
      refine v_lcmp dL_law_3049 ?_
      refine v_if_eq (tgt := 3055) dL_law_3050 (by decide) (fun z => ?_) (fun z => ?_)
      · have k := k.1 z
        obtain ⟨b3_1, k⟩ := k
        refine v_goto (tgt := 3556) dL_law_3055 (by decide) ?_
        refine v_iinc (E2 := [aR 1000, aR 0, aR 72, aR 81, aR 82, aI (x5 + 10), aI x6, aI x7, aU]) dL_law_3556 rfl b3_1 rfl ?_
        refine v_goto (tgt := 28) dL_law_3559 (by decide) ?_
        refine v_weak (E2 := [aR 1000, aR 0, aR 72, aR 81, aR 82, aI (x5 + 10), aU, aU, aU]) ⟨Or.inl rfl, ⟨Or.inl rfl, ⟨Or.inl rfl, ⟨Or.inl rfl, ⟨Or.inl rfl, ⟨Or.inl rfl, ⟨Or.inr rfl, ⟨Or.inr rfl, ⟨Or.inl rfl, trivial⟩⟩⟩⟩⟩⟩⟩⟩⟩ ?_
        exact k
      · have k := k.2 z
        refine v_iconst dL_law_3053 ⟨by decide, by decide⟩ ?_
        exact v_lawret dL_law_3054 rfl k
  · have k := k.2 z
    refine v_iconst dL_law_3036 ⟨by decide, by decide⟩ ?_
    exact v_lawret dL_law_3037 rfl k
theorem S_law_3058 {kc ks : Nat} {h : Hh} {Q : PQ} {X : PX} {x5 : Int}
    (k : ((-2147483648 ≤ ((x5 + 1) : Int) ∧ ((x5 + 1) : Int) < 2147483648) ∧ (0 : Int) ≤ (x5 + 1) ∧ ((x5 + 1) : Int) < h 1001 0 ∧ (-2147483648 ≤ ((x5 + 2) : Int) ∧ ((x5 + 2) : Int) < 2147483648) ∧ (0 : Int) ≤ (x5 + 2) ∧ ((x5 + 2) : Int) < h 1001 0 ∧ 2 ≤ kc ∧ 12 ≤ ks) ∧ am_V M_L_partAt 2 12 0 [aR 0, aI (h 1000 (x5 + 1)), aI (h 1000 (x5 + 2)), aR 81, aU] [] am_R0 h (fun v ρ' h' => am_V M_L_law (kc - 2) (ks - 12) 3075 [aR 1000, aR 0, aR 72, aR 81, aR 82, aI x5, aU, aU, aU] (v ++ []) ρ' h' Q X) X) :
    am_V M_L_law kc ks 3058 [aR 1000, aR 0, aR 72, aR 81, aR 82, aI x5, aU, aU, aU] [] am_R0 h Q X := by
  obtain ⟨⟨b0_1, b0_2, b0_3, b0_4, b0_5, b0_6, b0_7, b0_8⟩, k⟩ := k
  refine v_aload_n dL_law_3058 rfl rfl ?_
  refine v_aload_n dL_law_3059 rfl rfl ?_
  refine v_iload dL_law_3060 rfl ?_
  refine v_iconst dL_law_3062 ⟨by decide, by decide⟩ ?_
  refine v_iadd dL_law_3063 b0_1 ?_
  refine v_sld dL_law_3064 rfl b0_2 b0_3 (fun _ => ?_)
  refine v_aload_n dL_law_3065 rfl rfl ?_
  refine v_iload dL_law_3066 rfl ?_
  refine v_iconst dL_law_3068 ⟨by decide, by decide⟩ ?_
  refine v_iadd dL_law_3069 b0_4 ?_
  refine v_sld dL_law_3070 rfl b0_5 b0_6 (fun _ => ?_)
  refine v_aload_n dL_law_3071 rfl rfl ?_
  exact v_callSX (j := M_L_partAt) (As := [aR 0, aI (h 1000 (x5 + 1)), aI (h 1000 (x5 + 2)), aR 81]) (st := []) (E0 := [aR 0, aI (h 1000 (x5 + 1)), aI (h 1000 (x5 + 2)), aR 81, aU]) dL_law_3072 ms_L_336 J_L_partAt b0_7 b0_8 (Nat.le_of_ble_eq_true rfl) rfl (Nat.le_of_ble_eq_true rfl) (List.forall_mem_cons.mpr ⟨rfl, List.forall_mem_cons.mpr ⟨rfl, List.forall_mem_cons.mpr ⟨rfl, List.forall_mem_cons.mpr ⟨rfl, fun _ h9 => absurd h9 List.not_mem_nil⟩⟩⟩⟩) (Nat.le_of_ble_eq_true rfl) rfl pn_L_partAt rfl k
theorem S_law_3075 {kc ks : Nat} {h : Hh} {Q : PQ} {X : PX} {x5 : Int} {xs0 : Int}
    (k : ((-2147483648 ≤ ((x5 + 1) : Int) ∧ ((x5 + 1) : Int) < 2147483648) ∧ (0 : Int) ≤ (x5 + 1) ∧ ((x5 + 1) : Int) < h 1001 0 ∧ (-2147483648 ≤ ((x5 + 2) : Int) ∧ ((x5 + 2) : Int) < 2147483648) ∧ (0 : Int) ≤ (x5 + 2) ∧ ((x5 + 2) : Int) < h 1001 0) ∧ am_V M_X11_partAt 0 0 0 [aR 72, aI (h 1000 (x5 + 1)), aI (h 1000 (x5 + 2)), aU] [] am_R0 h (fun v ρ' h' => am_V M_L_law kc ks 3093 [aR 1000, aR 0, aR 72, aR 81, aR 82, aI x5, aI xs0, aU, aU] (v ++ []) ρ' h' Q X) X) :
    am_V M_L_law kc ks 3075 [aR 1000, aR 0, aR 72, aR 81, aR 82, aI x5, aU, aU, aU] [aI xs0] am_R0 h Q X := by
  obtain ⟨⟨b0_1, b0_2, b0_3, b0_4, b0_5, b0_6⟩, k⟩ := k
  refine v_istore (E2 := [aR 1000, aR 0, aR 72, aR 81, aR 82, aI x5, aI xs0, aU, aU]) dL_law_3075 (Nat.le_of_ble_eq_true rfl) rfl ?_
  refine v_aload_n dL_law_3077 rfl rfl ?_
  refine v_aload_n dL_law_3078 rfl rfl ?_
  refine v_iload dL_law_3079 rfl ?_
  refine v_iconst dL_law_3081 ⟨by decide, by decide⟩ ?_
  refine v_iadd dL_law_3082 b0_1 ?_
  refine v_sld dL_law_3083 rfl b0_2 b0_3 (fun _ => ?_)
  refine v_aload_n dL_law_3084 rfl rfl ?_
  refine v_iload dL_law_3085 rfl ?_
  refine v_iconst dL_law_3087 ⟨by decide, by decide⟩ ?_
  refine v_iadd dL_law_3088 b0_4 ?_
  refine v_sld dL_law_3089 rfl b0_5 b0_6 (fun _ => ?_)
  exact v_callV (j := M_X11_partAt) (As := [aI (h 1000 (x5 + 1)), aI (h 1000 (x5 + 2))]) (st := []) (E0 := [aR 72, aI (h 1000 (x5 + 1)), aI (h 1000 (x5 + 2)), aU]) (a := 72) (ci := 9) (N := 11) (q9 := (RX11, TX11, 11)) dL_law_3090 ml_L_338 J_X11_partAt (Nat.zero_le _) (Nat.zero_le _) (Nat.le_of_ble_eq_true rfl) rfl (Nat.le_of_ble_eq_true rfl) (List.forall_mem_cons.mpr ⟨rfl, List.forall_mem_cons.mpr ⟨rfl, List.forall_mem_cons.mpr ⟨rfl, fun _ h9 => absurd h9 List.not_mem_nil⟩⟩⟩) (Nat.le_of_ble_eq_true rfl) rfl rfl rfl rfl pn_X11_partAt rfl k
theorem S_law_3093 {kc ks : Nat} {h : Hh} {Q : PQ} {X : PX} {x5 : Int} {x6 : Int} {xs0 : Int}
    (k : am_V M_X11_thrown 0 0 0 [aR 72] [] am_R0 h (fun v ρ' h' => am_V M_L_law kc ks 3099 [aR 1000, aR 0, aR 72, aR 81, aR 82, aI x5, aI x6, aI xs0, aU] (v ++ []) ρ' h' Q X) X) :
    am_V M_L_law kc ks 3093 [aR 1000, aR 0, aR 72, aR 81, aR 82, aI x5, aI x6, aU, aU] [aI xs0] am_R0 h Q X := by
  refine v_istore (E2 := [aR 1000, aR 0, aR 72, aR 81, aR 82, aI x5, aI x6, aI xs0, aU]) dL_law_3093 (Nat.le_of_ble_eq_true rfl) rfl ?_
  refine v_aload_n dL_law_3095 rfl rfl ?_
  exact v_callV (j := M_X11_thrown) (As := []) (st := []) (E0 := [aR 72]) (a := 72) (ci := 9) (N := 11) (q9 := (RX11, TX11, 11)) dL_law_3096 ml_L_195 J_X11_thrown (Nat.zero_le _) (Nat.zero_le _) (Nat.le_of_ble_eq_true rfl) rfl (Nat.le_of_ble_eq_true rfl) (List.forall_mem_cons.mpr ⟨rfl, fun _ h9 => absurd h9 List.not_mem_nil⟩) (Nat.le_of_ble_eq_true rfl) rfl rfl rfl rfl pn_X11_thrown rfl k
theorem S_law_3099 {kc ks : Nat} {h : Hh} {Q : PQ} {X : PX} {x5 : Int} {x6 : Int} {x7 : Int} {xs0 : Int}
    (k : ((xs0 = x6 → ((x6 ≠ 0 → ((-2147483648 ≤ ((x5 + 10) : Int) ∧ ((x5 + 10) : Int) < 2147483648)) ∧ am_V M_L_law kc ks 28 [aR 1000, aR 0, aR 72, aR 81, aR 82, aI (x5 + 10), aU, aU, aU] [] am_R0 h Q X) ∧ (x6 = 0 → ((0 : Int) ≤ 0 ∧ (0 : Int) < 1) ∧ (((if x7 < (h 81 0) then 1 else if (h 81 0) = x7 then 0 else -1) = 0 → ((-2147483648 ≤ ((x5 + 10) : Int) ∧ ((x5 + 10) : Int) < 2147483648)) ∧ am_V M_L_law kc ks 28 [aR 1000, aR 0, aR 72, aR 81, aR 82, aI (x5 + 10), aU, aU, aU] [] am_R0 h Q X) ∧ ((if x7 < (h 81 0) then 1 else if (h 81 0) = x7 then 0 else -1) ≠ 0 → Q [aI 0] am_R0 h))))) ∧ (xs0 ≠ x6 → Q [aI 0] am_R0 h))) :
    am_V M_L_law kc ks 3099 [aR 1000, aR 0, aR 72, aR 81, aR 82, aI x5, aI x6, aI x7, aU] [aI xs0] am_R0 h Q X := by
  refine v_iload dL_law_3099 rfl ?_
  refine v_icmp_eq (tgt := 3106) dL_law_3101 (by decide) (fun z => ?_) (fun z => ?_)
  · have k := k.1 z
    refine v_iload dL_law_3106 rfl ?_
    refine v_if_ne (tgt := 3123) dL_law_3108 (by decide) (fun z => ?_) (fun z => ?_)
    · have k := k.1 z
      obtain ⟨b2_1, k⟩ := k
      refine v_goto (tgt := 3556) dL_law_3123 (by decide) ?_
      refine v_iinc (E2 := [aR 1000, aR 0, aR 72, aR 81, aR 82, aI (x5 + 10), aI x6, aI x7, aU]) dL_law_3556 rfl b2_1 rfl ?_
      refine v_goto (tgt := 28) dL_law_3559 (by decide) ?_
      refine v_weak (E2 := [aR 1000, aR 0, aR 72, aR 81, aR 82, aI (x5 + 10), aU, aU, aU]) ⟨Or.inl rfl, ⟨Or.inl rfl, ⟨Or.inl rfl, ⟨Or.inl rfl, ⟨Or.inl rfl, ⟨Or.inl rfl, ⟨Or.inr rfl, ⟨Or.inr rfl, ⟨Or.inl rfl, trivial⟩⟩⟩⟩⟩⟩⟩⟩⟩ ?_
      exact k
    · have k := k.2 z
      obtain ⟨⟨b2_1, b2_2⟩, k⟩ := k
      refine v_aload_n dL_law_3111 rfl rfl ?_
      refine v_iconst dL_law_3112 ⟨by decide, by decide⟩ ?_
      refine v_lald dL_law_3113 rfl b2_1 b2_2 ?_
      refine v_iload dL_law_3114 rfl ?_
      refine v_i2l dL_law_3116 ?_
      refine v_lcmp dL_law_3117 ?_
      refine v_if_eq (tgt := 3123) dL_law_3118 (by decide) (fun z => ?_) (fun z => ?_)
      · have k := k.1 z
        obtain ⟨b3_1, k⟩ := k
        refine v_goto (tgt := 3556) dL_law_3123 (by decide) ?_
        refine v_iinc (E2 := [aR 1000, aR 0, aR 72, aR 81, aR 82, aI (x5 + 10), aI x6, aI x7, aU]) dL_law_3556 rfl b3_1 rfl ?_
        refine v_goto (tgt := 28) dL_law_3559 (by decide) ?_
        refine v_weak (E2 := [aR 1000, aR 0, aR 72, aR 81, aR 82, aI (x5 + 10), aU, aU, aU]) ⟨Or.inl rfl, ⟨Or.inl rfl, ⟨Or.inl rfl, ⟨Or.inl rfl, ⟨Or.inl rfl, ⟨Or.inl rfl, ⟨Or.inr rfl, ⟨Or.inr rfl, ⟨Or.inl rfl, trivial⟩⟩⟩⟩⟩⟩⟩⟩⟩ ?_
        exact k
      · have k := k.2 z
        refine v_iconst dL_law_3121 ⟨by decide, by decide⟩ ?_
        exact v_lawret dL_law_3122 rfl k
  · have k := k.2 z
    refine v_iconst dL_law_3104 ⟨by decide, by decide⟩ ?_
    exact v_lawret dL_law_3105 rfl k
theorem S_law_3126 {kc ks : Nat} {h : Hh} {Q : PQ} {X : PX} {x5 : Int}
    (k : ((-2147483648 ≤ ((x5 + 1) : Int) ∧ ((x5 + 1) : Int) < 2147483648) ∧ (0 : Int) ≤ (x5 + 1) ∧ ((x5 + 1) : Int) < h 1001 0 ∧ 1 ≤ kc ∧ 6 ≤ ks) ∧ am_V M_L_pieces 1 6 0 [aR 0, aI (h 1000 (x5 + 1)), aR 81, aU] [] am_R0 h (fun v ρ' h' => am_V M_L_law (kc - 1) (ks - 6) 3137 [aR 1000, aR 0, aR 72, aR 81, aR 82, aI x5, aU, aU, aU] (v ++ []) ρ' h' Q X) X) :
    am_V M_L_law kc ks 3126 [aR 1000, aR 0, aR 72, aR 81, aR 82, aI x5, aU, aU, aU] [] am_R0 h Q X := by
  obtain ⟨⟨b0_1, b0_2, b0_3, b0_4, b0_5⟩, k⟩ := k
  refine v_aload_n dL_law_3126 rfl rfl ?_
  refine v_aload_n dL_law_3127 rfl rfl ?_
  refine v_iload dL_law_3128 rfl ?_
  refine v_iconst dL_law_3130 ⟨by decide, by decide⟩ ?_
  refine v_iadd dL_law_3131 b0_1 ?_
  refine v_sld dL_law_3132 rfl b0_2 b0_3 (fun _ => ?_)
  refine v_aload_n dL_law_3133 rfl rfl ?_
  exact v_callSX (j := M_L_pieces) (As := [aR 0, aI (h 1000 (x5 + 1)), aR 81]) (st := []) (E0 := [aR 0, aI (h 1000 (x5 + 1)), aR 81, aU]) dL_law_3134 ms_L_339 J_L_pieces b0_4 b0_5 (Nat.le_of_ble_eq_true rfl) rfl (Nat.le_of_ble_eq_true rfl) (List.forall_mem_cons.mpr ⟨rfl, List.forall_mem_cons.mpr ⟨rfl, List.forall_mem_cons.mpr ⟨rfl, fun _ h9 => absurd h9 List.not_mem_nil⟩⟩⟩) (Nat.le_of_ble_eq_true rfl) rfl pn_L_pieces rfl k
theorem S_law_3137 {kc ks : Nat} {h : Hh} {Q : PQ} {X : PX} {x5 : Int} {xs0 : Int}
    (k : ((-2147483648 ≤ ((x5 + 1) : Int) ∧ ((x5 + 1) : Int) < 2147483648) ∧ (0 : Int) ≤ (x5 + 1) ∧ ((x5 + 1) : Int) < h 1001 0) ∧ am_V M_X11_pieces 0 0 0 [aR 72, aI (h 1000 (x5 + 1))] [] am_R0 h (fun v ρ' h' => am_V M_L_law kc ks 3149 [aR 1000, aR 0, aR 72, aR 81, aR 82, aI x5, aI xs0, aU, aU] (v ++ []) ρ' h' Q X) X) :
    am_V M_L_law kc ks 3137 [aR 1000, aR 0, aR 72, aR 81, aR 82, aI x5, aU, aU, aU] [aI xs0] am_R0 h Q X := by
  obtain ⟨⟨b0_1, b0_2, b0_3⟩, k⟩ := k
  refine v_istore (E2 := [aR 1000, aR 0, aR 72, aR 81, aR 82, aI x5, aI xs0, aU, aU]) dL_law_3137 (Nat.le_of_ble_eq_true rfl) rfl ?_
  refine v_aload_n dL_law_3139 rfl rfl ?_
  refine v_aload_n dL_law_3140 rfl rfl ?_
  refine v_iload dL_law_3141 rfl ?_
  refine v_iconst dL_law_3143 ⟨by decide, by decide⟩ ?_
  refine v_iadd dL_law_3144 b0_1 ?_
  refine v_sld dL_law_3145 rfl b0_2 b0_3 (fun _ => ?_)
  exact v_callV (j := M_X11_pieces) (As := [aI (h 1000 (x5 + 1))]) (st := []) (E0 := [aR 72, aI (h 1000 (x5 + 1))]) (a := 72) (ci := 9) (N := 11) (q9 := (RX11, TX11, 11)) dL_law_3146 ml_L_341 J_X11_pieces (Nat.zero_le _) (Nat.zero_le _) (Nat.le_of_ble_eq_true rfl) rfl (Nat.le_of_ble_eq_true rfl) (List.forall_mem_cons.mpr ⟨rfl, List.forall_mem_cons.mpr ⟨rfl, fun _ h9 => absurd h9 List.not_mem_nil⟩⟩) (Nat.le_of_ble_eq_true rfl) rfl rfl rfl rfl pn_X11_pieces rfl k
theorem S_law_3149 {kc ks : Nat} {h : Hh} {Q : PQ} {X : PX} {x5 : Int} {x6 : Int} {xs0 : Int}
    (k : am_V M_X11_thrown 0 0 0 [aR 72] [] am_R0 h (fun v ρ' h' => am_V M_L_law kc ks 3155 [aR 1000, aR 0, aR 72, aR 81, aR 82, aI x5, aI x6, aI xs0, aU] (v ++ []) ρ' h' Q X) X) :
    am_V M_L_law kc ks 3149 [aR 1000, aR 0, aR 72, aR 81, aR 82, aI x5, aI x6, aU, aU] [aI xs0] am_R0 h Q X := by
  refine v_istore (E2 := [aR 1000, aR 0, aR 72, aR 81, aR 82, aI x5, aI x6, aI xs0, aU]) dL_law_3149 (Nat.le_of_ble_eq_true rfl) rfl ?_
  refine v_aload_n dL_law_3151 rfl rfl ?_
  exact v_callV (j := M_X11_thrown) (As := []) (st := []) (E0 := [aR 72]) (a := 72) (ci := 9) (N := 11) (q9 := (RX11, TX11, 11)) dL_law_3152 ml_L_195 J_X11_thrown (Nat.zero_le _) (Nat.zero_le _) (Nat.le_of_ble_eq_true rfl) rfl (Nat.le_of_ble_eq_true rfl) (List.forall_mem_cons.mpr ⟨rfl, fun _ h9 => absurd h9 List.not_mem_nil⟩) (Nat.le_of_ble_eq_true rfl) rfl rfl rfl rfl pn_X11_thrown rfl k
theorem S_law_3155 {kc ks : Nat} {h : Hh} {Q : PQ} {X : PX} {x5 : Int} {x6 : Int} {x7 : Int} {xs0 : Int}
    (k : ((xs0 = x6 → ((x6 ≠ 0 → ((-2147483648 ≤ ((x5 + 10) : Int) ∧ ((x5 + 10) : Int) < 2147483648)) ∧ am_V M_L_law kc ks 28 [aR 1000, aR 0, aR 72, aR 81, aR 82, aI (x5 + 10), aU, aU, aU] [] am_R0 h Q X) ∧ (x6 = 0 → ((0 : Int) ≤ 0 ∧ (0 : Int) < 1) ∧ (((if x7 < (h 81 0) then 1 else if (h 81 0) = x7 then 0 else -1) = 0 → ((-2147483648 ≤ ((x5 + 10) : Int) ∧ ((x5 + 10) : Int) < 2147483648)) ∧ am_V M_L_law kc ks 28 [aR 1000, aR 0, aR 72, aR 81, aR 82, aI (x5 + 10), aU, aU, aU] [] am_R0 h Q X) ∧ ((if x7 < (h 81 0) then 1 else if (h 81 0) = x7 then 0 else -1) ≠ 0 → Q [aI 0] am_R0 h))))) ∧ (xs0 ≠ x6 → Q [aI 0] am_R0 h))) :
    am_V M_L_law kc ks 3155 [aR 1000, aR 0, aR 72, aR 81, aR 82, aI x5, aI x6, aI x7, aU] [aI xs0] am_R0 h Q X := by
  refine v_iload dL_law_3155 rfl ?_
  refine v_icmp_eq (tgt := 3162) dL_law_3157 (by decide) (fun z => ?_) (fun z => ?_)
  · have k := k.1 z
    refine v_iload dL_law_3162 rfl ?_
    refine v_if_ne (tgt := 3179) dL_law_3164 (by decide) (fun z => ?_) (fun z => ?_)
    · have k := k.1 z
      obtain ⟨b2_1, k⟩ := k
      refine v_goto (tgt := 3556) dL_law_3179 (by decide) ?_
      refine v_iinc (E2 := [aR 1000, aR 0, aR 72, aR 81, aR 82, aI (x5 + 10), aI x6, aI x7, aU]) dL_law_3556 rfl b2_1 rfl ?_
      refine v_goto (tgt := 28) dL_law_3559 (by decide) ?_
      refine v_weak (E2 := [aR 1000, aR 0, aR 72, aR 81, aR 82, aI (x5 + 10), aU, aU, aU]) ⟨Or.inl rfl, ⟨Or.inl rfl, ⟨Or.inl rfl, ⟨Or.inl rfl, ⟨Or.inl rfl, ⟨Or.inl rfl, ⟨Or.inr rfl, ⟨Or.inr rfl, ⟨Or.inl rfl, trivial⟩⟩⟩⟩⟩⟩⟩⟩⟩ ?_
      exact k
    · have k := k.2 z
      obtain ⟨⟨b2_1, b2_2⟩, k⟩ := k
      refine v_aload_n dL_law_3167 rfl rfl ?_
      refine v_iconst dL_law_3168 ⟨by decide, by decide⟩ ?_
      refine v_lald dL_law_3169 rfl b2_1 b2_2 ?_
      refine v_iload dL_law_3170 rfl ?_
      refine v_i2l dL_law_3172 ?_
      refine v_lcmp dL_law_3173 ?_
      refine v_if_eq (tgt := 3179) dL_law_3174 (by decide) (fun z => ?_) (fun z => ?_)
      · have k := k.1 z
        obtain ⟨b3_1, k⟩ := k
        refine v_goto (tgt := 3556) dL_law_3179 (by decide) ?_
        refine v_iinc (E2 := [aR 1000, aR 0, aR 72, aR 81, aR 82, aI (x5 + 10), aI x6, aI x7, aU]) dL_law_3556 rfl b3_1 rfl ?_
        refine v_goto (tgt := 28) dL_law_3559 (by decide) ?_
        refine v_weak (E2 := [aR 1000, aR 0, aR 72, aR 81, aR 82, aI (x5 + 10), aU, aU, aU]) ⟨Or.inl rfl, ⟨Or.inl rfl, ⟨Or.inl rfl, ⟨Or.inl rfl, ⟨Or.inl rfl, ⟨Or.inl rfl, ⟨Or.inr rfl, ⟨Or.inr rfl, ⟨Or.inl rfl, trivial⟩⟩⟩⟩⟩⟩⟩⟩⟩ ?_
        exact k
      · have k := k.2 z
        refine v_iconst dL_law_3177 ⟨by decide, by decide⟩ ?_
        exact v_lawret dL_law_3178 rfl k
  · have k := k.2 z
    refine v_iconst dL_law_3160 ⟨by decide, by decide⟩ ?_
    exact v_lawret dL_law_3161 rfl k
theorem S_law_3182 {kc ks : Nat} {h : Hh} {Q : PQ} {X : PX} {x5 : Int}
    (k : ((-2147483648 ≤ ((x5 + 1) : Int) ∧ ((x5 + 1) : Int) < 2147483648) ∧ (0 : Int) ≤ (x5 + 1) ∧ ((x5 + 1) : Int) < h 1001 0 ∧ (-2147483648 ≤ ((x5 + 2) : Int) ∧ ((x5 + 2) : Int) < 2147483648) ∧ (0 : Int) ≤ (x5 + 2) ∧ ((x5 + 2) : Int) < h 1001 0 ∧ 2 ≤ kc ∧ 12 ≤ ks) ∧ am_V M_L_pieceLength 2 12 0 [aR 0, aI (h 1000 (x5 + 1)), aI (h 1000 (x5 + 2)), aR 81, aU] [] am_R0 h (fun v ρ' h' => am_V M_L_law (kc - 2) (ks - 12) 3199 [aR 1000, aR 0, aR 72, aR 81, aR 82, aI x5, aU, aU, aU] (v ++ []) ρ' h' Q X) X) :
    am_V M_L_law kc ks 3182 [aR 1000, aR 0, aR 72, aR 81, aR 82, aI x5, aU, aU, aU] [] am_R0 h Q X := by
  obtain ⟨⟨b0_1, b0_2, b0_3, b0_4, b0_5, b0_6, b0_7, b0_8⟩, k⟩ := k
  refine v_aload_n dL_law_3182 rfl rfl ?_
  refine v_aload_n dL_law_3183 rfl rfl ?_
  refine v_iload dL_law_3184 rfl ?_
  refine v_iconst dL_law_3186 ⟨by decide, by decide⟩ ?_
  refine v_iadd dL_law_3187 b0_1 ?_
  refine v_sld dL_law_3188 rfl b0_2 b0_3 (fun _ => ?_)
  refine v_aload_n dL_law_3189 rfl rfl ?_
  refine v_iload dL_law_3190 rfl ?_
  refine v_iconst dL_law_3192 ⟨by decide, by decide⟩ ?_
  refine v_iadd dL_law_3193 b0_4 ?_
  refine v_sld dL_law_3194 rfl b0_5 b0_6 (fun _ => ?_)
  refine v_aload_n dL_law_3195 rfl rfl ?_
  exact v_callSX (j := M_L_pieceLength) (As := [aR 0, aI (h 1000 (x5 + 1)), aI (h 1000 (x5 + 2)), aR 81]) (st := []) (E0 := [aR 0, aI (h 1000 (x5 + 1)), aI (h 1000 (x5 + 2)), aR 81, aU]) dL_law_3196 ms_L_342 J_L_pieceLength b0_7 b0_8 (Nat.le_of_ble_eq_true rfl) rfl (Nat.le_of_ble_eq_true rfl) (List.forall_mem_cons.mpr ⟨rfl, List.forall_mem_cons.mpr ⟨rfl, List.forall_mem_cons.mpr ⟨rfl, List.forall_mem_cons.mpr ⟨rfl, fun _ h9 => absurd h9 List.not_mem_nil⟩⟩⟩⟩) (Nat.le_of_ble_eq_true rfl) rfl pn_L_pieceLength rfl k
theorem S_law_3199 {kc ks : Nat} {h : Hh} {Q : PQ} {X : PX} {x5 : Int} {xs0 : Int}
    (k : ((-2147483648 ≤ ((x5 + 1) : Int) ∧ ((x5 + 1) : Int) < 2147483648) ∧ (0 : Int) ≤ (x5 + 1) ∧ ((x5 + 1) : Int) < h 1001 0 ∧ (-2147483648 ≤ ((x5 + 2) : Int) ∧ ((x5 + 2) : Int) < 2147483648) ∧ (0 : Int) ≤ (x5 + 2) ∧ ((x5 + 2) : Int) < h 1001 0) ∧ am_V M_X11_pieceLength 0 0 0 [aR 72, aI (h 1000 (x5 + 1)), aI (h 1000 (x5 + 2))] [] am_R0 h (fun v ρ' h' => am_V M_L_law kc ks 3217 [aR 1000, aR 0, aR 72, aR 81, aR 82, aI x5, aI xs0, aU, aU] (v ++ []) ρ' h' Q X) X) :
    am_V M_L_law kc ks 3199 [aR 1000, aR 0, aR 72, aR 81, aR 82, aI x5, aU, aU, aU] [aI xs0] am_R0 h Q X := by
  obtain ⟨⟨b0_1, b0_2, b0_3, b0_4, b0_5, b0_6⟩, k⟩ := k
  refine v_istore (E2 := [aR 1000, aR 0, aR 72, aR 81, aR 82, aI x5, aI xs0, aU, aU]) dL_law_3199 (Nat.le_of_ble_eq_true rfl) rfl ?_
  refine v_aload_n dL_law_3201 rfl rfl ?_
  refine v_aload_n dL_law_3202 rfl rfl ?_
  refine v_iload dL_law_3203 rfl ?_
  refine v_iconst dL_law_3205 ⟨by decide, by decide⟩ ?_
  refine v_iadd dL_law_3206 b0_1 ?_
  refine v_sld dL_law_3207 rfl b0_2 b0_3 (fun _ => ?_)
  refine v_aload_n dL_law_3208 rfl rfl ?_
  refine v_iload dL_law_3209 rfl ?_
  refine v_iconst dL_law_3211 ⟨by decide, by decide⟩ ?_
  refine v_iadd dL_law_3212 b0_4 ?_
  refine v_sld dL_law_3213 rfl b0_5 b0_6 (fun _ => ?_)
  exact v_callV (j := M_X11_pieceLength) (As := [aI (h 1000 (x5 + 1)), aI (h 1000 (x5 + 2))]) (st := []) (E0 := [aR 72, aI (h 1000 (x5 + 1)), aI (h 1000 (x5 + 2))]) (a := 72) (ci := 9) (N := 11) (q9 := (RX11, TX11, 11)) dL_law_3214 ml_L_344 J_X11_pieceLength (Nat.zero_le _) (Nat.zero_le _) (Nat.le_of_ble_eq_true rfl) rfl (Nat.le_of_ble_eq_true rfl) (List.forall_mem_cons.mpr ⟨rfl, List.forall_mem_cons.mpr ⟨rfl, List.forall_mem_cons.mpr ⟨rfl, fun _ h9 => absurd h9 List.not_mem_nil⟩⟩⟩) (Nat.le_of_ble_eq_true rfl) rfl rfl rfl rfl pn_X11_pieceLength rfl k
theorem S_law_3217 {kc ks : Nat} {h : Hh} {Q : PQ} {X : PX} {x5 : Int} {x6 : Int} {xs0 : Int}
    (k : am_V M_X11_thrown 0 0 0 [aR 72] [] am_R0 h (fun v ρ' h' => am_V M_L_law kc ks 3223 [aR 1000, aR 0, aR 72, aR 81, aR 82, aI x5, aI x6, aI xs0, aU] (v ++ []) ρ' h' Q X) X) :
    am_V M_L_law kc ks 3217 [aR 1000, aR 0, aR 72, aR 81, aR 82, aI x5, aI x6, aU, aU] [aI xs0] am_R0 h Q X := by
  refine v_istore (E2 := [aR 1000, aR 0, aR 72, aR 81, aR 82, aI x5, aI x6, aI xs0, aU]) dL_law_3217 (Nat.le_of_ble_eq_true rfl) rfl ?_
  refine v_aload_n dL_law_3219 rfl rfl ?_
  exact v_callV (j := M_X11_thrown) (As := []) (st := []) (E0 := [aR 72]) (a := 72) (ci := 9) (N := 11) (q9 := (RX11, TX11, 11)) dL_law_3220 ml_L_195 J_X11_thrown (Nat.zero_le _) (Nat.zero_le _) (Nat.le_of_ble_eq_true rfl) rfl (Nat.le_of_ble_eq_true rfl) (List.forall_mem_cons.mpr ⟨rfl, fun _ h9 => absurd h9 List.not_mem_nil⟩) (Nat.le_of_ble_eq_true rfl) rfl rfl rfl rfl pn_X11_thrown rfl k
theorem S_law_3223 {kc ks : Nat} {h : Hh} {Q : PQ} {X : PX} {x5 : Int} {x6 : Int} {x7 : Int} {xs0 : Int}
    (k : ((xs0 = x6 → ((x6 ≠ 0 → ((-2147483648 ≤ ((x5 + 10) : Int) ∧ ((x5 + 10) : Int) < 2147483648)) ∧ am_V M_L_law kc ks 28 [aR 1000, aR 0, aR 72, aR 81, aR 82, aI (x5 + 10), aU, aU, aU] [] am_R0 h Q X) ∧ (x6 = 0 → ((0 : Int) ≤ 0 ∧ (0 : Int) < 1) ∧ (((if x7 < (h 81 0) then 1 else if (h 81 0) = x7 then 0 else -1) = 0 → ((-2147483648 ≤ ((x5 + 10) : Int) ∧ ((x5 + 10) : Int) < 2147483648)) ∧ am_V M_L_law kc ks 28 [aR 1000, aR 0, aR 72, aR 81, aR 82, aI (x5 + 10), aU, aU, aU] [] am_R0 h Q X) ∧ ((if x7 < (h 81 0) then 1 else if (h 81 0) = x7 then 0 else -1) ≠ 0 → Q [aI 0] am_R0 h))))) ∧ (xs0 ≠ x6 → Q [aI 0] am_R0 h))) :
    am_V M_L_law kc ks 3223 [aR 1000, aR 0, aR 72, aR 81, aR 82, aI x5, aI x6, aI x7, aU] [aI xs0] am_R0 h Q X := by
  refine v_iload dL_law_3223 rfl ?_
  refine v_icmp_eq (tgt := 3230) dL_law_3225 (by decide) (fun z => ?_) (fun z => ?_)
  · have k := k.1 z
    refine v_iload dL_law_3230 rfl ?_
    refine v_if_ne (tgt := 3247) dL_law_3232 (by decide) (fun z => ?_) (fun z => ?_)
    · have k := k.1 z
      obtain ⟨b2_1, k⟩ := k
      refine v_goto (tgt := 3556) dL_law_3247 (by decide) ?_
      refine v_iinc (E2 := [aR 1000, aR 0, aR 72, aR 81, aR 82, aI (x5 + 10), aI x6, aI x7, aU]) dL_law_3556 rfl b2_1 rfl ?_
      refine v_goto (tgt := 28) dL_law_3559 (by decide) ?_
      refine v_weak (E2 := [aR 1000, aR 0, aR 72, aR 81, aR 82, aI (x5 + 10), aU, aU, aU]) ⟨Or.inl rfl, ⟨Or.inl rfl, ⟨Or.inl rfl, ⟨Or.inl rfl, ⟨Or.inl rfl, ⟨Or.inl rfl, ⟨Or.inr rfl, ⟨Or.inr rfl, ⟨Or.inl rfl, trivial⟩⟩⟩⟩⟩⟩⟩⟩⟩ ?_
      exact k
    · have k := k.2 z
      obtain ⟨⟨b2_1, b2_2⟩, k⟩ := k
      refine v_aload_n dL_law_3235 rfl rfl ?_
      refine v_iconst dL_law_3236 ⟨by decide, by decide⟩ ?_
      refine v_lald dL_law_3237 rfl b2_1 b2_2 ?_
      refine v_iload dL_law_3238 rfl ?_
      refine v_i2l dL_law_3240 ?_
      refine v_lcmp dL_law_3241 ?_
      refine v_if_eq (tgt := 3247) dL_law_3242 (by decide) (fun z => ?_) (fun z => ?_)
      · have k := k.1 z
        obtain ⟨b3_1, k⟩ := k
        refine v_goto (tgt := 3556) dL_law_3247 (by decide) ?_
        refine v_iinc (E2 := [aR 1000, aR 0, aR 72, aR 81, aR 82, aI (x5 + 10), aI x6, aI x7, aU]) dL_law_3556 rfl b3_1 rfl ?_
        refine v_goto (tgt := 28) dL_law_3559 (by decide) ?_
        refine v_weak (E2 := [aR 1000, aR 0, aR 72, aR 81, aR 82, aI (x5 + 10), aU, aU, aU]) ⟨Or.inl rfl, ⟨Or.inl rfl, ⟨Or.inl rfl, ⟨Or.inl rfl, ⟨Or.inl rfl, ⟨Or.inl rfl, ⟨Or.inr rfl, ⟨Or.inr rfl, ⟨Or.inl rfl, trivial⟩⟩⟩⟩⟩⟩⟩⟩⟩ ?_
        exact k
      · have k := k.2 z
        refine v_iconst dL_law_3245 ⟨by decide, by decide⟩ ?_
        exact v_lawret dL_law_3246 rfl k
  · have k := k.2 z
    refine v_iconst dL_law_3228 ⟨by decide, by decide⟩ ?_
    exact v_lawret dL_law_3229 rfl k
theorem S_law_3250 {kc ks : Nat} {h : Hh} {Q : PQ} {X : PX} {x5 : Int}
    (k : ((-2147483648 ≤ ((x5 + 1) : Int) ∧ ((x5 + 1) : Int) < 2147483648) ∧ (0 : Int) ≤ (x5 + 1) ∧ ((x5 + 1) : Int) < h 1001 0 ∧ (-2147483648 ≤ ((x5 + 2) : Int) ∧ ((x5 + 2) : Int) < 2147483648) ∧ (0 : Int) ≤ (x5 + 2) ∧ ((x5 + 2) : Int) < h 1001 0 ∧ 3 ≤ kc ∧ 18 ≤ ks) ∧ am_V M_L_pieceFrom 3 18 0 [aR 0, aI (h 1000 (x5 + 1)), aI (h 1000 (x5 + 2)), aR 81, aU] [] am_R0 h (fun v ρ' h' => am_V M_L_law (kc - 3) (ks - 18) 3267 [aR 1000, aR 0, aR 72, aR 81, aR 82, aI x5, aU, aU, aU] (v ++ []) ρ' h' Q X) X) :
    am_V M_L_law kc ks 3250 [aR 1000, aR 0, aR 72, aR 81, aR 82, aI x5, aU, aU, aU] [] am_R0 h Q X := by
  obtain ⟨⟨b0_1, b0_2, b0_3, b0_4, b0_5, b0_6, b0_7, b0_8⟩, k⟩ := k
  refine v_aload_n dL_law_3250 rfl rfl ?_
  refine v_aload_n dL_law_3251 rfl rfl ?_
  refine v_iload dL_law_3252 rfl ?_
  refine v_iconst dL_law_3254 ⟨by decide, by decide⟩ ?_
  refine v_iadd dL_law_3255 b0_1 ?_
  refine v_sld dL_law_3256 rfl b0_2 b0_3 (fun _ => ?_)
  refine v_aload_n dL_law_3257 rfl rfl ?_
  refine v_iload dL_law_3258 rfl ?_
  refine v_iconst dL_law_3260 ⟨by decide, by decide⟩ ?_
  refine v_iadd dL_law_3261 b0_4 ?_
  refine v_sld dL_law_3262 rfl b0_5 b0_6 (fun _ => ?_)
  refine v_aload_n dL_law_3263 rfl rfl ?_
  exact v_callSX (j := M_L_pieceFrom) (As := [aR 0, aI (h 1000 (x5 + 1)), aI (h 1000 (x5 + 2)), aR 81]) (st := []) (E0 := [aR 0, aI (h 1000 (x5 + 1)), aI (h 1000 (x5 + 2)), aR 81, aU]) dL_law_3264 ms_L_345 J_L_pieceFrom b0_7 b0_8 (Nat.le_of_ble_eq_true rfl) rfl (Nat.le_of_ble_eq_true rfl) (List.forall_mem_cons.mpr ⟨rfl, List.forall_mem_cons.mpr ⟨rfl, List.forall_mem_cons.mpr ⟨rfl, List.forall_mem_cons.mpr ⟨rfl, fun _ h9 => absurd h9 List.not_mem_nil⟩⟩⟩⟩) (Nat.le_of_ble_eq_true rfl) rfl pn_L_pieceFrom rfl k
theorem S_law_3267 {kc ks : Nat} {h : Hh} {Q : PQ} {X : PX} {x5 : Int} {xs0 : Int}
    (k : ((-2147483648 ≤ ((x5 + 1) : Int) ∧ ((x5 + 1) : Int) < 2147483648) ∧ (0 : Int) ≤ (x5 + 1) ∧ ((x5 + 1) : Int) < h 1001 0 ∧ (-2147483648 ≤ ((x5 + 2) : Int) ∧ ((x5 + 2) : Int) < 2147483648) ∧ (0 : Int) ≤ (x5 + 2) ∧ ((x5 + 2) : Int) < h 1001 0) ∧ am_V M_X11_pieceFrom 0 0 0 [aR 72, aI (h 1000 (x5 + 1)), aI (h 1000 (x5 + 2)), aU, aU] [] am_R0 h (fun v ρ' h' => am_V M_L_law kc ks 3285 [aR 1000, aR 0, aR 72, aR 81, aR 82, aI x5, aI xs0, aU, aU] (v ++ []) ρ' h' Q X) X) :
    am_V M_L_law kc ks 3267 [aR 1000, aR 0, aR 72, aR 81, aR 82, aI x5, aU, aU, aU] [aI xs0] am_R0 h Q X := by
  obtain ⟨⟨b0_1, b0_2, b0_3, b0_4, b0_5, b0_6⟩, k⟩ := k
  refine v_istore (E2 := [aR 1000, aR 0, aR 72, aR 81, aR 82, aI x5, aI xs0, aU, aU]) dL_law_3267 (Nat.le_of_ble_eq_true rfl) rfl ?_
  refine v_aload_n dL_law_3269 rfl rfl ?_
  refine v_aload_n dL_law_3270 rfl rfl ?_
  refine v_iload dL_law_3271 rfl ?_
  refine v_iconst dL_law_3273 ⟨by decide, by decide⟩ ?_
  refine v_iadd dL_law_3274 b0_1 ?_
  refine v_sld dL_law_3275 rfl b0_2 b0_3 (fun _ => ?_)
  refine v_aload_n dL_law_3276 rfl rfl ?_
  refine v_iload dL_law_3277 rfl ?_
  refine v_iconst dL_law_3279 ⟨by decide, by decide⟩ ?_
  refine v_iadd dL_law_3280 b0_4 ?_
  refine v_sld dL_law_3281 rfl b0_5 b0_6 (fun _ => ?_)
  exact v_callV (j := M_X11_pieceFrom) (As := [aI (h 1000 (x5 + 1)), aI (h 1000 (x5 + 2))]) (st := []) (E0 := [aR 72, aI (h 1000 (x5 + 1)), aI (h 1000 (x5 + 2)), aU, aU]) (a := 72) (ci := 9) (N := 11) (q9 := (RX11, TX11, 11)) dL_law_3282 ml_L_347 J_X11_pieceFrom (Nat.zero_le _) (Nat.zero_le _) (Nat.le_of_ble_eq_true rfl) rfl (Nat.le_of_ble_eq_true rfl) (List.forall_mem_cons.mpr ⟨rfl, List.forall_mem_cons.mpr ⟨rfl, List.forall_mem_cons.mpr ⟨rfl, fun _ h9 => absurd h9 List.not_mem_nil⟩⟩⟩) (Nat.le_of_ble_eq_true rfl) rfl rfl rfl rfl pn_X11_pieceFrom rfl k
theorem S_law_3285 {kc ks : Nat} {h : Hh} {Q : PQ} {X : PX} {x5 : Int} {x6 : Int} {xs0 : Int}
    (k : am_V M_X11_thrown 0 0 0 [aR 72] [] am_R0 h (fun v ρ' h' => am_V M_L_law kc ks 3291 [aR 1000, aR 0, aR 72, aR 81, aR 82, aI x5, aI x6, aI xs0, aU] (v ++ []) ρ' h' Q X) X) :
    am_V M_L_law kc ks 3285 [aR 1000, aR 0, aR 72, aR 81, aR 82, aI x5, aI x6, aU, aU] [aI xs0] am_R0 h Q X := by
  refine v_istore (E2 := [aR 1000, aR 0, aR 72, aR 81, aR 82, aI x5, aI x6, aI xs0, aU]) dL_law_3285 (Nat.le_of_ble_eq_true rfl) rfl ?_
  refine v_aload_n dL_law_3287 rfl rfl ?_
  exact v_callV (j := M_X11_thrown) (As := []) (st := []) (E0 := [aR 72]) (a := 72) (ci := 9) (N := 11) (q9 := (RX11, TX11, 11)) dL_law_3288 ml_L_195 J_X11_thrown (Nat.zero_le _) (Nat.zero_le _) (Nat.le_of_ble_eq_true rfl) rfl (Nat.le_of_ble_eq_true rfl) (List.forall_mem_cons.mpr ⟨rfl, fun _ h9 => absurd h9 List.not_mem_nil⟩) (Nat.le_of_ble_eq_true rfl) rfl rfl rfl rfl pn_X11_thrown rfl k
theorem S_law_3291 {kc ks : Nat} {h : Hh} {Q : PQ} {X : PX} {x5 : Int} {x6 : Int} {x7 : Int} {xs0 : Int}
    (k : ((xs0 = x6 → ((x6 ≠ 0 → ((-2147483648 ≤ ((x5 + 10) : Int) ∧ ((x5 + 10) : Int) < 2147483648)) ∧ am_V M_L_law kc ks 28 [aR 1000, aR 0, aR 72, aR 81, aR 82, aI (x5 + 10), aU, aU, aU] [] am_R0 h Q X) ∧ (x6 = 0 → ((0 : Int) ≤ 0 ∧ (0 : Int) < 1) ∧ (((if x7 < (h 81 0) then 1 else if (h 81 0) = x7 then 0 else -1) = 0 → ((-2147483648 ≤ ((x5 + 10) : Int) ∧ ((x5 + 10) : Int) < 2147483648)) ∧ am_V M_L_law kc ks 28 [aR 1000, aR 0, aR 72, aR 81, aR 82, aI (x5 + 10), aU, aU, aU] [] am_R0 h Q X) ∧ ((if x7 < (h 81 0) then 1 else if (h 81 0) = x7 then 0 else -1) ≠ 0 → Q [aI 0] am_R0 h))))) ∧ (xs0 ≠ x6 → Q [aI 0] am_R0 h))) :
    am_V M_L_law kc ks 3291 [aR 1000, aR 0, aR 72, aR 81, aR 82, aI x5, aI x6, aI x7, aU] [aI xs0] am_R0 h Q X := by
  refine v_iload dL_law_3291 rfl ?_
  refine v_icmp_eq (tgt := 3298) dL_law_3293 (by decide) (fun z => ?_) (fun z => ?_)
  · have k := k.1 z
    refine v_iload dL_law_3298 rfl ?_
    refine v_if_ne (tgt := 3315) dL_law_3300 (by decide) (fun z => ?_) (fun z => ?_)
    · have k := k.1 z
      obtain ⟨b2_1, k⟩ := k
      refine v_goto (tgt := 3556) dL_law_3315 (by decide) ?_
      refine v_iinc (E2 := [aR 1000, aR 0, aR 72, aR 81, aR 82, aI (x5 + 10), aI x6, aI x7, aU]) dL_law_3556 rfl b2_1 rfl ?_
      refine v_goto (tgt := 28) dL_law_3559 (by decide) ?_
      refine v_weak (E2 := [aR 1000, aR 0, aR 72, aR 81, aR 82, aI (x5 + 10), aU, aU, aU]) ⟨Or.inl rfl, ⟨Or.inl rfl, ⟨Or.inl rfl, ⟨Or.inl rfl, ⟨Or.inl rfl, ⟨Or.inl rfl, ⟨Or.inr rfl, ⟨Or.inr rfl, ⟨Or.inl rfl, trivial⟩⟩⟩⟩⟩⟩⟩⟩⟩ ?_
      exact k
    · have k := k.2 z
      obtain ⟨⟨b2_1, b2_2⟩, k⟩ := k
      refine v_aload_n dL_law_3303 rfl rfl ?_
      refine v_iconst dL_law_3304 ⟨by decide, by decide⟩ ?_
      refine v_lald dL_law_3305 rfl b2_1 b2_2 ?_
      refine v_iload dL_law_3306 rfl ?_
      refine v_i2l dL_law_3308 ?_
      refine v_lcmp dL_law_3309 ?_
      refine v_if_eq (tgt := 3315) dL_law_3310 (by decide) (fun z => ?_) (fun z => ?_)
      · have k := k.1 z
        obtain ⟨b3_1, k⟩ := k
        refine v_goto (tgt := 3556) dL_law_3315 (by decide) ?_
        refine v_iinc (E2 := [aR 1000, aR 0, aR 72, aR 81, aR 82, aI (x5 + 10), aI x6, aI x7, aU]) dL_law_3556 rfl b3_1 rfl ?_
        refine v_goto (tgt := 28) dL_law_3559 (by decide) ?_
        refine v_weak (E2 := [aR 1000, aR 0, aR 72, aR 81, aR 82, aI (x5 + 10), aU, aU, aU]) ⟨Or.inl rfl, ⟨Or.inl rfl, ⟨Or.inl rfl, ⟨Or.inl rfl, ⟨Or.inl rfl, ⟨Or.inl rfl, ⟨Or.inr rfl, ⟨Or.inr rfl, ⟨Or.inl rfl, trivial⟩⟩⟩⟩⟩⟩⟩⟩⟩ ?_
        exact k
      · have k := k.2 z
        refine v_iconst dL_law_3313 ⟨by decide, by decide⟩ ?_
        exact v_lawret dL_law_3314 rfl k
  · have k := k.2 z
    refine v_iconst dL_law_3296 ⟨by decide, by decide⟩ ?_
    exact v_lawret dL_law_3297 rfl k
theorem S_law_3318 {kc ks : Nat} {h : Hh} {Q : PQ} {X : PX} {x5 : Int}
    (k : ((-2147483648 ≤ ((x5 + 1) : Int) ∧ ((x5 + 1) : Int) < 2147483648) ∧ (0 : Int) ≤ (x5 + 1) ∧ ((x5 + 1) : Int) < h 1001 0 ∧ 1 ≤ kc ∧ 6 ≤ ks) ∧ am_V M_L_fewest 1 6 0 [aR 0, aI (h 1000 (x5 + 1)), aR 81, aU] [] am_R0 h (fun v ρ' h' => am_V M_L_law (kc - 1) (ks - 6) 3329 [aR 1000, aR 0, aR 72, aR 81, aR 82, aI x5, aU, aU, aU] (v ++ []) ρ' h' Q X) X) :
    am_V M_L_law kc ks 3318 [aR 1000, aR 0, aR 72, aR 81, aR 82, aI x5, aU, aU, aU] [] am_R0 h Q X := by
  obtain ⟨⟨b0_1, b0_2, b0_3, b0_4, b0_5⟩, k⟩ := k
  refine v_aload_n dL_law_3318 rfl rfl ?_
  refine v_aload_n dL_law_3319 rfl rfl ?_
  refine v_iload dL_law_3320 rfl ?_
  refine v_iconst dL_law_3322 ⟨by decide, by decide⟩ ?_
  refine v_iadd dL_law_3323 b0_1 ?_
  refine v_sld dL_law_3324 rfl b0_2 b0_3 (fun _ => ?_)
  refine v_aload_n dL_law_3325 rfl rfl ?_
  exact v_callSX (j := M_L_fewest) (As := [aR 0, aI (h 1000 (x5 + 1)), aR 81]) (st := []) (E0 := [aR 0, aI (h 1000 (x5 + 1)), aR 81, aU]) dL_law_3326 ms_L_348 J_L_fewest b0_4 b0_5 (Nat.le_of_ble_eq_true rfl) rfl (Nat.le_of_ble_eq_true rfl) (List.forall_mem_cons.mpr ⟨rfl, List.forall_mem_cons.mpr ⟨rfl, List.forall_mem_cons.mpr ⟨rfl, fun _ h9 => absurd h9 List.not_mem_nil⟩⟩⟩) (Nat.le_of_ble_eq_true rfl) rfl pn_L_fewest rfl k
theorem S_law_3329 {kc ks : Nat} {h : Hh} {Q : PQ} {X : PX} {x5 : Int} {xs0 : Int}
    (k : ((-2147483648 ≤ ((x5 + 1) : Int) ∧ ((x5 + 1) : Int) < 2147483648) ∧ (0 : Int) ≤ (x5 + 1) ∧ ((x5 + 1) : Int) < h 1001 0) ∧ am_V M_X11_fewest 0 0 0 [aR 72, aI (h 1000 (x5 + 1))] [] am_R0 h (fun v ρ' h' => am_V M_L_law kc ks 3341 [aR 1000, aR 0, aR 72, aR 81, aR 82, aI x5, aI xs0, aU, aU] (v ++ []) ρ' h' Q X) X) :
    am_V M_L_law kc ks 3329 [aR 1000, aR 0, aR 72, aR 81, aR 82, aI x5, aU, aU, aU] [aI xs0] am_R0 h Q X := by
  obtain ⟨⟨b0_1, b0_2, b0_3⟩, k⟩ := k
  refine v_istore (E2 := [aR 1000, aR 0, aR 72, aR 81, aR 82, aI x5, aI xs0, aU, aU]) dL_law_3329 (Nat.le_of_ble_eq_true rfl) rfl ?_
  refine v_aload_n dL_law_3331 rfl rfl ?_
  refine v_aload_n dL_law_3332 rfl rfl ?_
  refine v_iload dL_law_3333 rfl ?_
  refine v_iconst dL_law_3335 ⟨by decide, by decide⟩ ?_
  refine v_iadd dL_law_3336 b0_1 ?_
  refine v_sld dL_law_3337 rfl b0_2 b0_3 (fun _ => ?_)
  exact v_callV (j := M_X11_fewest) (As := [aI (h 1000 (x5 + 1))]) (st := []) (E0 := [aR 72, aI (h 1000 (x5 + 1))]) (a := 72) (ci := 9) (N := 11) (q9 := (RX11, TX11, 11)) dL_law_3338 ml_L_350 J_X11_fewest (Nat.zero_le _) (Nat.zero_le _) (Nat.le_of_ble_eq_true rfl) rfl (Nat.le_of_ble_eq_true rfl) (List.forall_mem_cons.mpr ⟨rfl, List.forall_mem_cons.mpr ⟨rfl, fun _ h9 => absurd h9 List.not_mem_nil⟩⟩) (Nat.le_of_ble_eq_true rfl) rfl rfl rfl rfl pn_X11_fewest rfl k
theorem S_law_3341 {kc ks : Nat} {h : Hh} {Q : PQ} {X : PX} {x5 : Int} {x6 : Int} {xs0 : Int}
    (k : am_V M_X11_thrown 0 0 0 [aR 72] [] am_R0 h (fun v ρ' h' => am_V M_L_law kc ks 3347 [aR 1000, aR 0, aR 72, aR 81, aR 82, aI x5, aI x6, aI xs0, aU] (v ++ []) ρ' h' Q X) X) :
    am_V M_L_law kc ks 3341 [aR 1000, aR 0, aR 72, aR 81, aR 82, aI x5, aI x6, aU, aU] [aI xs0] am_R0 h Q X := by
  refine v_istore (E2 := [aR 1000, aR 0, aR 72, aR 81, aR 82, aI x5, aI x6, aI xs0, aU]) dL_law_3341 (Nat.le_of_ble_eq_true rfl) rfl ?_
  refine v_aload_n dL_law_3343 rfl rfl ?_
  exact v_callV (j := M_X11_thrown) (As := []) (st := []) (E0 := [aR 72]) (a := 72) (ci := 9) (N := 11) (q9 := (RX11, TX11, 11)) dL_law_3344 ml_L_195 J_X11_thrown (Nat.zero_le _) (Nat.zero_le _) (Nat.le_of_ble_eq_true rfl) rfl (Nat.le_of_ble_eq_true rfl) (List.forall_mem_cons.mpr ⟨rfl, fun _ h9 => absurd h9 List.not_mem_nil⟩) (Nat.le_of_ble_eq_true rfl) rfl rfl rfl rfl pn_X11_thrown rfl k
theorem S_law_3347 {kc ks : Nat} {h : Hh} {Q : PQ} {X : PX} {x5 : Int} {x6 : Int} {x7 : Int} {xs0 : Int}
    (k : ((xs0 = x6 → ((x6 ≠ 0 → ((-2147483648 ≤ ((x5 + 10) : Int) ∧ ((x5 + 10) : Int) < 2147483648)) ∧ am_V M_L_law kc ks 28 [aR 1000, aR 0, aR 72, aR 81, aR 82, aI (x5 + 10), aU, aU, aU] [] am_R0 h Q X) ∧ (x6 = 0 → ((0 : Int) ≤ 0 ∧ (0 : Int) < 1) ∧ (((if x7 < (h 81 0) then 1 else if (h 81 0) = x7 then 0 else -1) = 0 → ((-2147483648 ≤ ((x5 + 10) : Int) ∧ ((x5 + 10) : Int) < 2147483648)) ∧ am_V M_L_law kc ks 28 [aR 1000, aR 0, aR 72, aR 81, aR 82, aI (x5 + 10), aU, aU, aU] [] am_R0 h Q X) ∧ ((if x7 < (h 81 0) then 1 else if (h 81 0) = x7 then 0 else -1) ≠ 0 → Q [aI 0] am_R0 h))))) ∧ (xs0 ≠ x6 → Q [aI 0] am_R0 h))) :
    am_V M_L_law kc ks 3347 [aR 1000, aR 0, aR 72, aR 81, aR 82, aI x5, aI x6, aI x7, aU] [aI xs0] am_R0 h Q X := by
  refine v_iload dL_law_3347 rfl ?_
  refine v_icmp_eq (tgt := 3354) dL_law_3349 (by decide) (fun z => ?_) (fun z => ?_)
  · have k := k.1 z
    refine v_iload dL_law_3354 rfl ?_
    refine v_if_ne (tgt := 3371) dL_law_3356 (by decide) (fun z => ?_) (fun z => ?_)
    · have k := k.1 z
      obtain ⟨b2_1, k⟩ := k
      refine v_goto (tgt := 3556) dL_law_3371 (by decide) ?_
      refine v_iinc (E2 := [aR 1000, aR 0, aR 72, aR 81, aR 82, aI (x5 + 10), aI x6, aI x7, aU]) dL_law_3556 rfl b2_1 rfl ?_
      refine v_goto (tgt := 28) dL_law_3559 (by decide) ?_
      refine v_weak (E2 := [aR 1000, aR 0, aR 72, aR 81, aR 82, aI (x5 + 10), aU, aU, aU]) ⟨Or.inl rfl, ⟨Or.inl rfl, ⟨Or.inl rfl, ⟨Or.inl rfl, ⟨Or.inl rfl, ⟨Or.inl rfl, ⟨Or.inr rfl, ⟨Or.inr rfl, ⟨Or.inl rfl, trivial⟩⟩⟩⟩⟩⟩⟩⟩⟩ ?_
      exact k
    · have k := k.2 z
      obtain ⟨⟨b2_1, b2_2⟩, k⟩ := k
      refine v_aload_n dL_law_3359 rfl rfl ?_
      refine v_iconst dL_law_3360 ⟨by decide, by decide⟩ ?_
      refine v_lald dL_law_3361 rfl b2_1 b2_2 ?_
      refine v_iload dL_law_3362 rfl ?_
      refine v_i2l dL_law_3364 ?_
      refine v_lcmp dL_law_3365 ?_
      refine v_if_eq (tgt := 3371) dL_law_3366 (by decide) (fun z => ?_) (fun z => ?_)
      · have k := k.1 z
        obtain ⟨b3_1, k⟩ := k
        refine v_goto (tgt := 3556) dL_law_3371 (by decide) ?_
        refine v_iinc (E2 := [aR 1000, aR 0, aR 72, aR 81, aR 82, aI (x5 + 10), aI x6, aI x7, aU]) dL_law_3556 rfl b3_1 rfl ?_
        refine v_goto (tgt := 28) dL_law_3559 (by decide) ?_
        refine v_weak (E2 := [aR 1000, aR 0, aR 72, aR 81, aR 82, aI (x5 + 10), aU, aU, aU]) ⟨Or.inl rfl, ⟨Or.inl rfl, ⟨Or.inl rfl, ⟨Or.inl rfl, ⟨Or.inl rfl, ⟨Or.inl rfl, ⟨Or.inr rfl, ⟨Or.inr rfl, ⟨Or.inl rfl, trivial⟩⟩⟩⟩⟩⟩⟩⟩⟩ ?_
        exact k
      · have k := k.2 z
        refine v_iconst dL_law_3369 ⟨by decide, by decide⟩ ?_
        exact v_lawret dL_law_3370 rfl k
  · have k := k.2 z
    refine v_iconst dL_law_3352 ⟨by decide, by decide⟩ ?_
    exact v_lawret dL_law_3353 rfl k
theorem S_law_3374 {kc ks : Nat} {h : Hh} {Q : PQ} {X : PX} {x5 : Int}
    (k : ((-2147483648 ≤ ((x5 + 1) : Int) ∧ ((x5 + 1) : Int) < 2147483648) ∧ (0 : Int) ≤ (x5 + 1) ∧ ((x5 + 1) : Int) < h 1001 0 ∧ 2 ≤ kc ∧ 12 ≤ ks) ∧ am_V M_L_commonShare 2 12 0 [aR 0, aI (h 1000 (x5 + 1)), aR 82, aU] [] am_R0 h (fun v ρ' h' => am_V M_L_law (kc - 2) (ks - 12) 3386 [aR 1000, aR 0, aR 72, aR 81, aR 82, aI x5, aU, aU, aU] (v ++ []) ρ' h' Q X) X) :
    am_V M_L_law kc ks 3374 [aR 1000, aR 0, aR 72, aR 81, aR 82, aI x5, aU, aU, aU] [] am_R0 h Q X := by
  obtain ⟨⟨b0_1, b0_2, b0_3, b0_4, b0_5⟩, k⟩ := k
  refine v_aload_n dL_law_3374 rfl rfl ?_
  refine v_aload_n dL_law_3375 rfl rfl ?_
  refine v_iload dL_law_3376 rfl ?_
  refine v_iconst dL_law_3378 ⟨by decide, by decide⟩ ?_
  refine v_iadd dL_law_3379 b0_1 ?_
  refine v_sld dL_law_3380 rfl b0_2 b0_3 (fun _ => ?_)
  refine v_aload dL_law_3381 rfl ?_
  exact v_callSX (j := M_L_commonShare) (As := [aR 0, aI (h 1000 (x5 + 1)), aR 82]) (st := []) (E0 := [aR 0, aI (h 1000 (x5 + 1)), aR 82, aU]) dL_law_3383 ms_L_351 J_L_commonShare b0_4 b0_5 (Nat.le_of_ble_eq_true rfl) rfl (Nat.le_of_ble_eq_true rfl) (List.forall_mem_cons.mpr ⟨rfl, List.forall_mem_cons.mpr ⟨rfl, List.forall_mem_cons.mpr ⟨rfl, fun _ h9 => absurd h9 List.not_mem_nil⟩⟩⟩) (Nat.le_of_ble_eq_true rfl) rfl pn_L_commonShare rfl k
theorem S_law_3386 {kc ks : Nat} {h : Hh} {Q : PQ} {X : PX} {x5 : Int} {xs0 : Int}
    (k : ((-2147483648 ≤ ((x5 + 1) : Int) ∧ ((x5 + 1) : Int) < 2147483648) ∧ (0 : Int) ≤ (x5 + 1) ∧ ((x5 + 1) : Int) < h 1001 0) ∧ am_V M_X11_commonShare 0 0 0 [aR 72, aI (h 1000 (x5 + 1)), aU, aU] [] am_R0 h (fun v ρ' h' => am_V M_L_law kc ks 3398 [aR 1000, aR 0, aR 72, aR 81, aR 82, aI x5, aI xs0, aU, aU] (v ++ []) ρ' h' Q X) X) :
    am_V M_L_law kc ks 3386 [aR 1000, aR 0, aR 72, aR 81, aR 82, aI x5, aU, aU, aU] [aI xs0] am_R0 h Q X := by
  obtain ⟨⟨b0_1, b0_2, b0_3⟩, k⟩ := k
  refine v_istore (E2 := [aR 1000, aR 0, aR 72, aR 81, aR 82, aI x5, aI xs0, aU, aU]) dL_law_3386 (Nat.le_of_ble_eq_true rfl) rfl ?_
  refine v_aload_n dL_law_3388 rfl rfl ?_
  refine v_aload_n dL_law_3389 rfl rfl ?_
  refine v_iload dL_law_3390 rfl ?_
  refine v_iconst dL_law_3392 ⟨by decide, by decide⟩ ?_
  refine v_iadd dL_law_3393 b0_1 ?_
  refine v_sld dL_law_3394 rfl b0_2 b0_3 (fun _ => ?_)
  exact v_callV (j := M_X11_commonShare) (As := [aI (h 1000 (x5 + 1))]) (st := []) (E0 := [aR 72, aI (h 1000 (x5 + 1)), aU, aU]) (a := 72) (ci := 9) (N := 11) (q9 := (RX11, TX11, 11)) dL_law_3395 ml_L_354 J_X11_commonShare (Nat.zero_le _) (Nat.zero_le _) (Nat.le_of_ble_eq_true rfl) rfl (Nat.le_of_ble_eq_true rfl) (List.forall_mem_cons.mpr ⟨rfl, List.forall_mem_cons.mpr ⟨rfl, fun _ h9 => absurd h9 List.not_mem_nil⟩⟩) (Nat.le_of_ble_eq_true rfl) rfl rfl rfl rfl pn_X11_commonShare rfl k
theorem S_law_3398 {kc ks : Nat} {h : Hh} {Q : PQ} {X : PX} {x5 : Int} {x6 : Int} {xs0 : UInt32}
    (k : am_V M_X11_thrown 0 0 0 [aR 72] [] am_R0 h (fun v ρ' h' => am_V M_L_law kc ks 3404 [aR 1000, aR 0, aR 72, aR 81, aR 82, aI x5, aI x6, aF xs0, aU] (v ++ []) ρ' h' Q X) X) :
    am_V M_L_law kc ks 3398 [aR 1000, aR 0, aR 72, aR 81, aR 82, aI x5, aI x6, aU, aU] [aF xs0] am_R0 h Q X := by
  refine v_fstore (E2 := [aR 1000, aR 0, aR 72, aR 81, aR 82, aI x5, aI x6, aF xs0, aU]) dL_law_3398 (Nat.le_of_ble_eq_true rfl) rfl ?_
  refine v_aload_n dL_law_3400 rfl rfl ?_
  exact v_callV (j := M_X11_thrown) (As := []) (st := []) (E0 := [aR 72]) (a := 72) (ci := 9) (N := 11) (q9 := (RX11, TX11, 11)) dL_law_3401 ml_L_195 J_X11_thrown (Nat.zero_le _) (Nat.zero_le _) (Nat.le_of_ble_eq_true rfl) rfl (Nat.le_of_ble_eq_true rfl) (List.forall_mem_cons.mpr ⟨rfl, fun _ h9 => absurd h9 List.not_mem_nil⟩) (Nat.le_of_ble_eq_true rfl) rfl rfl rfl rfl pn_X11_thrown rfl k
theorem S_law_3404 {kc ks : Nat} {h : Hh} {Q : PQ} {X : PX} {x5 : Int} {x6 : Int} {x7 : UInt32} {xs0 : Int}
    (k : ((xs0 = x6 → ((x6 ≠ 0 → ((-2147483648 ≤ ((x5 + 10) : Int) ∧ ((x5 + 10) : Int) < 2147483648)) ∧ am_V M_L_law kc ks 28 [aR 1000, aR 0, aR 72, aR 81, aR 82, aI (x5 + 10), aU, aU, aU] [] am_R0 h Q X) ∧ (x6 = 0 → ((0 : Int) ≤ 0 ∧ (0 : Int) < 1 ∧ vf_n64 (FP.f2d x7)) ∧ (((Op.cmpValue (FP.dcmp (UInt64.ofNat (h 82 0).toNat) (FP.f2d x7)) CmpOp.l).toInt = 0 → ((-2147483648 ≤ ((x5 + 10) : Int) ∧ ((x5 + 10) : Int) < 2147483648)) ∧ am_V M_L_law kc ks 28 [aR 1000, aR 0, aR 72, aR 81, aR 82, aI (x5 + 10), aU, aU, aU] [] am_R0 h Q X) ∧ ((Op.cmpValue (FP.dcmp (UInt64.ofNat (h 82 0).toNat) (FP.f2d x7)) CmpOp.l).toInt ≠ 0 → ((0 : Int) ≤ 0 ∧ (0 : Int) < 1 ∧ (0 : Int) ≤ 0 ∧ (0 : Int) < 1) ∧ (((Op.cmpValue (FP.dcmp (UInt64.ofNat (h 82 0).toNat) (UInt64.ofNat (h 82 0).toNat)) CmpOp.l).toInt = 0 → Q [aI 0] am_R0 h) ∧ ((Op.cmpValue (FP.dcmp (UInt64.ofNat (h 82 0).toNat) (UInt64.ofNat (h 82 0).toNat)) CmpOp.l).toInt ≠ 0 → (((Op.cmpValue (FP.fcmp x7 x7) CmpOp.l).toInt ≠ 0 → ((-2147483648 ≤ ((x5 + 10) : Int) ∧ ((x5 + 10) : Int) < 2147483648)) ∧ am_V M_L_law kc ks 28 [aR 1000, aR 0, aR 72, aR 81, aR 82, aI (x5 + 10), aU, aU, aU] [] am_R0 h Q X) ∧ ((Op.cmpValue (FP.fcmp x7 x7) CmpOp.l).toInt = 0 → Q [aI 0] am_R0 h))))))))) ∧ (xs0 ≠ x6 → Q [aI 0] am_R0 h))) :
    am_V M_L_law kc ks 3404 [aR 1000, aR 0, aR 72, aR 81, aR 82, aI x5, aI x6, aF x7, aU] [aI xs0] am_R0 h Q X := by
  refine v_iload dL_law_3404 rfl ?_
  refine v_icmp_eq (tgt := 3411) dL_law_3406 (by decide) (fun z => ?_) (fun z => ?_)
  · have k := k.1 z
    refine v_iload dL_law_3411 rfl ?_
    refine v_if_ne (tgt := 3449) dL_law_3413 (by decide) (fun z => ?_) (fun z => ?_)
    · have k := k.1 z
      obtain ⟨b2_1, k⟩ := k
      refine v_goto (tgt := 3556) dL_law_3449 (by decide) ?_
      refine v_iinc (E2 := [aR 1000, aR 0, aR 72, aR 81, aR 82, aI (x5 + 10), aI x6, aF x7, aU]) dL_law_3556 rfl b2_1 rfl ?_
      refine v_goto (tgt := 28) dL_law_3559 (by decide) ?_
      refine v_weak (E2 := [aR 1000, aR 0, aR 72, aR 81, aR 82, aI (x5 + 10), aU, aU, aU]) ⟨Or.inl rfl, ⟨Or.inl rfl, ⟨Or.inl rfl, ⟨Or.inl rfl, ⟨Or.inl rfl, ⟨Or.inl rfl, ⟨Or.inr rfl, ⟨Or.inr rfl, ⟨Or.inl rfl, trivial⟩⟩⟩⟩⟩⟩⟩⟩⟩ ?_
      exact k
    · have k := k.2 z
      obtain ⟨⟨b2_1, b2_2, b2_3⟩, k⟩ := k
      refine v_aload dL_law_3416 rfl ?_
      refine v_iconst dL_law_3418 ⟨by decide, by decide⟩ ?_
      refine v_dald dL_law_3419 rfl b2_1 b2_2 ?_
      refine v_fload dL_law_3420 rfl ?_
      refine v_f2d dL_law_3422 b2_3 ?_
      refine v_dcmp dL_law_3423 ?_
      refine v_if_eq (tgt := 3449) dL_law_3424 (by decide) (fun z => ?_) (fun z => ?_)
      · have k := k.1 z
        obtain ⟨b3_1, k⟩ := k
        refine v_goto (tgt := 3556) dL_law_3449 (by decide) ?_
        refine v_iinc (E2 := [aR 1000, aR 0, aR 72, aR 81, aR 82, aI (x5 + 10), aI x6, aF x7, aU]) dL_law_3556 rfl b3_1 rfl ?_
        refine v_goto (tgt := 28) dL_law_3559 (by decide) ?_
        refine v_weak (E2 := [aR 1000, aR 0, aR 72, aR 81, aR 82, aI (x5 + 10), aU, aU, aU]) ⟨Or.inl rfl, ⟨Or.inl rfl, ⟨Or.inl rfl, ⟨Or.inl rfl, ⟨Or.inl rfl, ⟨Or.inl rfl, ⟨Or.inr rfl, ⟨Or.inr rfl, ⟨Or.inl rfl, trivial⟩⟩⟩⟩⟩⟩⟩⟩⟩ ?_
        exact k
      · have k := k.2 z
        obtain ⟨⟨b3_1, b3_2, b3_3, b3_4⟩, k⟩ := k
        refine v_aload dL_law_3427 rfl ?_
        refine v_iconst dL_law_3429 ⟨by decide, by decide⟩ ?_
        refine v_dald dL_law_3430 rfl b3_1 b3_2 ?_
        refine v_aload dL_law_3431 rfl ?_
        refine v_iconst dL_law_3433 ⟨by decide, by decide⟩ ?_
        refine v_dald dL_law_3434 rfl b3_3 b3_4 ?_
        refine v_dcmp dL_law_3435 ?_
        refine v_if_eq (tgt := 3447) dL_law_3436 (by decide) (fun z => ?_) (fun z => ?_)
        · have k := k.1 z
          refine v_iconst dL_law_3447 ⟨by decide, by decide⟩ ?_
          exact v_lawret dL_law_3448 rfl k
        · have k := k.2 z
          refine v_fload dL_law_3439 rfl ?_
          refine v_fload dL_law_3441 rfl ?_
          refine v_fcmp dL_law_3443 ?_
          refine v_if_ne (tgt := 3449) dL_law_3444 (by decide) (fun z => ?_) (fun z => ?_)
          · have k := k.1 z
            obtain ⟨b5_1, k⟩ := k
            refine v_goto (tgt := 3556) dL_law_3449 (by decide) ?_
            refine v_iinc (E2 := [aR 1000, aR 0, aR 72, aR 81, aR 82, aI (x5 + 10), aI x6, aF x7, aU]) dL_law_3556 rfl b5_1 rfl ?_
            refine v_goto (tgt := 28) dL_law_3559 (by decide) ?_
            refine v_weak (E2 := [aR 1000, aR 0, aR 72, aR 81, aR 82, aI (x5 + 10), aU, aU, aU]) ⟨Or.inl rfl, ⟨Or.inl rfl, ⟨Or.inl rfl, ⟨Or.inl rfl, ⟨Or.inl rfl, ⟨Or.inl rfl, ⟨Or.inr rfl, ⟨Or.inr rfl, ⟨Or.inl rfl, trivial⟩⟩⟩⟩⟩⟩⟩⟩⟩ ?_
            exact k
          · have k := k.2 z
            refine v_iconst dL_law_3447 ⟨by decide, by decide⟩ ?_
            exact v_lawret dL_law_3448 rfl k
  · have k := k.2 z
    refine v_iconst dL_law_3409 ⟨by decide, by decide⟩ ?_
    exact v_lawret dL_law_3410 rfl k
theorem S_law_3452 {kc ks : Nat} {h : Hh} {Q : PQ} {X : PX} {x5 : Int}
    (k : ((-2147483648 ≤ ((x5 + 1) : Int) ∧ ((x5 + 1) : Int) < 2147483648) ∧ (0 : Int) ≤ (x5 + 1) ∧ ((x5 + 1) : Int) < h 1001 0 ∧ 2 ≤ kc ∧ 12 ≤ ks) ∧ am_V M_L_meanCommon 2 12 0 [aR 0, aI (h 1000 (x5 + 1)), aR 82, aU] [] am_R0 h (fun v ρ' h' => am_V M_L_law (kc - 2) (ks - 12) 3464 [aR 1000, aR 0, aR 72, aR 81, aR 82, aI x5, aU, aU, aU] (v ++ []) ρ' h' Q X) X) :
    am_V M_L_law kc ks 3452 [aR 1000, aR 0, aR 72, aR 81, aR 82, aI x5, aU, aU, aU] [] am_R0 h Q X := by
  obtain ⟨⟨b0_1, b0_2, b0_3, b0_4, b0_5⟩, k⟩ := k
  refine v_aload_n dL_law_3452 rfl rfl ?_
  refine v_aload_n dL_law_3453 rfl rfl ?_
  refine v_iload dL_law_3454 rfl ?_
  refine v_iconst dL_law_3456 ⟨by decide, by decide⟩ ?_
  refine v_iadd dL_law_3457 b0_1 ?_
  refine v_sld dL_law_3458 rfl b0_2 b0_3 (fun _ => ?_)
  refine v_aload dL_law_3459 rfl ?_
  exact v_callSX (j := M_L_meanCommon) (As := [aR 0, aI (h 1000 (x5 + 1)), aR 82]) (st := []) (E0 := [aR 0, aI (h 1000 (x5 + 1)), aR 82, aU]) dL_law_3461 ms_L_355 J_L_meanCommon b0_4 b0_5 (Nat.le_of_ble_eq_true rfl) rfl (Nat.le_of_ble_eq_true rfl) (List.forall_mem_cons.mpr ⟨rfl, List.forall_mem_cons.mpr ⟨rfl, List.forall_mem_cons.mpr ⟨rfl, fun _ h9 => absurd h9 List.not_mem_nil⟩⟩⟩) (Nat.le_of_ble_eq_true rfl) rfl pn_L_meanCommon rfl k
theorem S_law_3464 {kc ks : Nat} {h : Hh} {Q : PQ} {X : PX} {x5 : Int} {xs0 : Int}
    (k : ((-2147483648 ≤ ((x5 + 1) : Int) ∧ ((x5 + 1) : Int) < 2147483648) ∧ (0 : Int) ≤ (x5 + 1) ∧ ((x5 + 1) : Int) < h 1001 0) ∧ am_V M_X11_meanCommon 0 0 0 [aR 72, aI (h 1000 (x5 + 1))] [] am_R0 h (fun v ρ' h' => am_V M_L_law kc ks 3476 [aR 1000, aR 0, aR 72, aR 81, aR 82, aI x5, aI xs0, aU, aU] (v ++ []) ρ' h' Q X) X) :
    am_V M_L_law kc ks 3464 [aR 1000, aR 0, aR 72, aR 81, aR 82, aI x5, aU, aU, aU] [aI xs0] am_R0 h Q X := by
  obtain ⟨⟨b0_1, b0_2, b0_3⟩, k⟩ := k
  refine v_istore (E2 := [aR 1000, aR 0, aR 72, aR 81, aR 82, aI x5, aI xs0, aU, aU]) dL_law_3464 (Nat.le_of_ble_eq_true rfl) rfl ?_
  refine v_aload_n dL_law_3466 rfl rfl ?_
  refine v_aload_n dL_law_3467 rfl rfl ?_
  refine v_iload dL_law_3468 rfl ?_
  refine v_iconst dL_law_3470 ⟨by decide, by decide⟩ ?_
  refine v_iadd dL_law_3471 b0_1 ?_
  refine v_sld dL_law_3472 rfl b0_2 b0_3 (fun _ => ?_)
  exact v_callV (j := M_X11_meanCommon) (As := [aI (h 1000 (x5 + 1))]) (st := []) (E0 := [aR 72, aI (h 1000 (x5 + 1))]) (a := 72) (ci := 9) (N := 11) (q9 := (RX11, TX11, 11)) dL_law_3473 ml_L_357 J_X11_meanCommon (Nat.zero_le _) (Nat.zero_le _) (Nat.le_of_ble_eq_true rfl) rfl (Nat.le_of_ble_eq_true rfl) (List.forall_mem_cons.mpr ⟨rfl, List.forall_mem_cons.mpr ⟨rfl, fun _ h9 => absurd h9 List.not_mem_nil⟩⟩) (Nat.le_of_ble_eq_true rfl) rfl rfl rfl rfl pn_X11_meanCommon rfl k
theorem S_law_3476 {kc ks : Nat} {h : Hh} {Q : PQ} {X : PX} {x5 : Int} {x6 : Int} {xs0 : UInt64}
    (k : am_V M_X11_thrown 0 0 0 [aR 72] [] am_R0 h (fun v ρ' h' => am_V M_L_law kc ks 3482 [aR 1000, aR 0, aR 72, aR 81, aR 82, aI x5, aI x6, aD xs0, aU] (v ++ []) ρ' h' Q X) X) :
    am_V M_L_law kc ks 3476 [aR 1000, aR 0, aR 72, aR 81, aR 82, aI x5, aI x6, aU, aU] [aD xs0] am_R0 h Q X := by
  refine v_dstore (E2 := [aR 1000, aR 0, aR 72, aR 81, aR 82, aI x5, aI x6, aD xs0, aU]) dL_law_3476 (Nat.le_of_ble_eq_true rfl) rfl ?_
  refine v_aload_n dL_law_3478 rfl rfl ?_
  exact v_callV (j := M_X11_thrown) (As := []) (st := []) (E0 := [aR 72]) (a := 72) (ci := 9) (N := 11) (q9 := (RX11, TX11, 11)) dL_law_3479 ml_L_195 J_X11_thrown (Nat.zero_le _) (Nat.zero_le _) (Nat.le_of_ble_eq_true rfl) rfl (Nat.le_of_ble_eq_true rfl) (List.forall_mem_cons.mpr ⟨rfl, fun _ h9 => absurd h9 List.not_mem_nil⟩) (Nat.le_of_ble_eq_true rfl) rfl rfl rfl rfl pn_X11_thrown rfl k
theorem S_law_3482 {kc ks : Nat} {h : Hh} {Q : PQ} {X : PX} {x5 : Int} {x6 : Int} {x7 : UInt64} {xs0 : Int}
    (k : ((xs0 = x6 → ((x6 ≠ 0 → ((-2147483648 ≤ ((x5 + 10) : Int) ∧ ((x5 + 10) : Int) < 2147483648)) ∧ am_V M_L_law kc ks 28 [aR 1000, aR 0, aR 72, aR 81, aR 82, aI (x5 + 10), aU, aU, aU] [] am_R0 h Q X) ∧ (x6 = 0 → ((0 : Int) ≤ 0 ∧ (0 : Int) < 1) ∧ (((Op.cmpValue (FP.dcmp (UInt64.ofNat (h 82 0).toNat) x7) CmpOp.l).toInt = 0 → ((-2147483648 ≤ ((x5 + 10) : Int) ∧ ((x5 + 10) : Int) < 2147483648)) ∧ am_V M_L_law kc ks 28 [aR 1000, aR 0, aR 72, aR 81, aR 82, aI (x5 + 10), aU, aU, aU] [] am_R0 h Q X) ∧ ((Op.cmpValue (FP.dcmp (UInt64.ofNat (h 82 0).toNat) x7) CmpOp.l).toInt ≠ 0 → ((0 : Int) ≤ 0 ∧ (0 : Int) < 1 ∧ (0 : Int) ≤ 0 ∧ (0 : Int) < 1) ∧ (((Op.cmpValue (FP.dcmp (UInt64.ofNat (h 82 0).toNat) (UInt64.ofNat (h 82 0).toNat)) CmpOp.l).toInt = 0 → Q [aI 0] am_R0 h) ∧ ((Op.cmpValue (FP.dcmp (UInt64.ofNat (h 82 0).toNat) (UInt64.ofNat (h 82 0).toNat)) CmpOp.l).toInt ≠ 0 → (((Op.cmpValue (FP.dcmp x7 x7) CmpOp.l).toInt ≠ 0 → ((-2147483648 ≤ ((x5 + 10) : Int) ∧ ((x5 + 10) : Int) < 2147483648)) ∧ am_V M_L_law kc ks 28 [aR 1000, aR 0, aR 72, aR 81, aR 82, aI (x5 + 10), aU, aU, aU] [] am_R0 h Q X) ∧ ((Op.cmpValue (FP.dcmp x7 x7) CmpOp.l).toInt = 0 → Q [aI 0] am_R0 h))))))))) ∧ (xs0 ≠ x6 → Q [aI 0] am_R0 h))) :
    am_V M_L_law kc ks 3482 [aR 1000, aR 0, aR 72, aR 81, aR 82, aI x5, aI x6, aD x7, aU] [aI xs0] am_R0 h Q X := by
  refine v_iload dL_law_3482 rfl ?_
  refine v_icmp_eq (tgt := 3489) dL_law_3484 (by decide) (fun z => ?_) (fun z => ?_)
  · have k := k.1 z
    refine v_iload dL_law_3489 rfl ?_
    refine v_if_ne (tgt := 3526) dL_law_3491 (by decide) (fun z => ?_) (fun z => ?_)
    · have k := k.1 z
      obtain ⟨b2_1, k⟩ := k
      refine v_goto (tgt := 3556) dL_law_3526 (by decide) ?_
      refine v_iinc (E2 := [aR 1000, aR 0, aR 72, aR 81, aR 82, aI (x5 + 10), aI x6, aD x7, aU]) dL_law_3556 rfl b2_1 rfl ?_
      refine v_goto (tgt := 28) dL_law_3559 (by decide) ?_
      refine v_weak (E2 := [aR 1000, aR 0, aR 72, aR 81, aR 82, aI (x5 + 10), aU, aU, aU]) ⟨Or.inl rfl, ⟨Or.inl rfl, ⟨Or.inl rfl, ⟨Or.inl rfl, ⟨Or.inl rfl, ⟨Or.inl rfl, ⟨Or.inr rfl, ⟨Or.inr rfl, ⟨Or.inl rfl, trivial⟩⟩⟩⟩⟩⟩⟩⟩⟩ ?_
      exact k
    · have k := k.2 z
      obtain ⟨⟨b2_1, b2_2⟩, k⟩ := k
      refine v_aload dL_law_3494 rfl ?_
      refine v_iconst dL_law_3496 ⟨by decide, by decide⟩ ?_
      refine v_dald dL_law_3497 rfl b2_1 b2_2 ?_
      refine v_dload dL_law_3498 rfl ?_
      refine v_dcmp dL_law_3500 ?_
      refine v_if_eq (tgt := 3526) dL_law_3501 (by decide) (fun z => ?_) (fun z => ?_)
      · have k := k.1 z
        obtain ⟨b3_1, k⟩ := k
        refine v_goto (tgt := 3556) dL_law_3526 (by decide) ?_
        refine v_iinc (E2 := [aR 1000, aR 0, aR 72, aR 81, aR 82, aI (x5 + 10), aI x6, aD x7, aU]) dL_law_3556 rfl b3_1 rfl ?_
        refine v_goto (tgt := 28) dL_law_3559 (by decide) ?_
        refine v_weak (E2 := [aR 1000, aR 0, aR 72, aR 81, aR 82, aI (x5 + 10), aU, aU, aU]) ⟨Or.inl rfl, ⟨Or.inl rfl, ⟨Or.inl rfl, ⟨Or.inl rfl, ⟨Or.inl rfl, ⟨Or.inl rfl, ⟨Or.inr rfl, ⟨Or.inr rfl, ⟨Or.inl rfl, trivial⟩⟩⟩⟩⟩⟩⟩⟩⟩ ?_
        exact k
      · have k := k.2 z
        obtain ⟨⟨b3_1, b3_2, b3_3, b3_4⟩, k⟩ := k
        refine v_aload dL_law_3504 rfl ?_
        refine v_iconst dL_law_3506 ⟨by decide, by decide⟩ ?_
        refine v_dald dL_law_3507 rfl b3_1 b3_2 ?_
        refine v_aload dL_law_3508 rfl ?_
        refine v_iconst dL_law_3510 ⟨by decide, by decide⟩ ?_
        refine v_dald dL_law_3511 rfl b3_3 b3_4 ?_
        refine v_dcmp dL_law_3512 ?_
        refine v_if_eq (tgt := 3524) dL_law_3513 (by decide) (fun z => ?_) (fun z => ?_)
        · have k := k.1 z
          refine v_iconst dL_law_3524 ⟨by decide, by decide⟩ ?_
          exact v_lawret dL_law_3525 rfl k
        · have k := k.2 z
          refine v_dload dL_law_3516 rfl ?_
          refine v_dload dL_law_3518 rfl ?_
          refine v_dcmp dL_law_3520 ?_
          refine v_if_ne (tgt := 3526) dL_law_3521 (by decide) (fun z => ?_) (fun z => ?_)
          · have k := k.1 z
            obtain ⟨b5_1, k⟩ := k
            refine v_goto (tgt := 3556) dL_law_3526 (by decide) ?_
            refine v_iinc (E2 := [aR 1000, aR 0, aR 72, aR 81, aR 82, aI (x5 + 10), aI x6, aD x7, aU]) dL_law_3556 rfl b5_1 rfl ?_
            refine v_goto (tgt := 28) dL_law_3559 (by decide) ?_
            refine v_weak (E2 := [aR 1000, aR 0, aR 72, aR 81, aR 82, aI (x5 + 10), aU, aU, aU]) ⟨Or.inl rfl, ⟨Or.inl rfl, ⟨Or.inl rfl, ⟨Or.inl rfl, ⟨Or.inl rfl, ⟨Or.inl rfl, ⟨Or.inr rfl, ⟨Or.inr rfl, ⟨Or.inl rfl, trivial⟩⟩⟩⟩⟩⟩⟩⟩⟩ ?_
            exact k
          · have k := k.2 z
            refine v_iconst dL_law_3524 ⟨by decide, by decide⟩ ?_
            exact v_lawret dL_law_3525 rfl k
  · have k := k.2 z
    refine v_iconst dL_law_3487 ⟨by decide, by decide⟩ ?_
    exact v_lawret dL_law_3488 rfl k
theorem S_law_3529 {kc ks : Nat} {h : Hh} {Q : PQ} {X : PX} {x5 : Int}
    (k : am_V M_X10_checksum 0 0 0 [aR 0, aU, aU, aU, aU, aU] [] am_R0 h (fun v ρ' h' => am_V M_L_law kc ks 3533 [aR 1000, aR 0, aR 72, aR 81, aR 82, aI x5, aU, aU, aU] (v ++ []) ρ' h' Q X) X) :
    am_V M_L_law kc ks 3529 [aR 1000, aR 0, aR 72, aR 81, aR 82, aI x5, aU, aU, aU] [] am_R0 h Q X := by
  refine v_aload_n dL_law_3529 rfl rfl ?_
  exact v_callV (j := M_X10_checksum) (As := []) (st := []) (E0 := [aR 0, aU, aU, aU, aU, aU]) (a := 0) (ci := 8) (N := 10) (q9 := (RX10, TX10, 10)) dL_law_3530 ml_L_358 J_X10_checksum (Nat.zero_le _) (Nat.zero_le _) (Nat.le_of_ble_eq_true rfl) rfl (Nat.le_of_ble_eq_true rfl) (List.forall_mem_cons.mpr ⟨rfl, fun _ h9 => absurd h9 List.not_mem_nil⟩) (Nat.le_of_ble_eq_true rfl) rfl rfl rfl rfl pn_X10_checksum rfl k
theorem S_law_3533 {kc ks : Nat} {h : Hh} {Q : PQ} {X : PX} {x5 : Int} {xs0 : Int}
    (k : am_V M_X11_checksum 0 0 0 [aR 72, aU, aU, aU, aU] [] am_R0 h (fun v ρ' h' => am_V M_L_law kc ks 3537 [aR 1000, aR 0, aR 72, aR 81, aR 82, aI x5, aU, aU, aU] (v ++ [aL xs0]) ρ' h' Q X) X) :
    am_V M_L_law kc ks 3533 [aR 1000, aR 0, aR 72, aR 81, aR 82, aI x5, aU, aU, aU] [aL xs0] am_R0 h Q X := by
  refine v_aload_n dL_law_3533 rfl rfl ?_
  exact v_callV (j := M_X11_checksum) (As := []) (st := [aL xs0]) (E0 := [aR 72, aU, aU, aU, aU]) (a := 72) (ci := 9) (N := 11) (q9 := (RX11, TX11, 11)) dL_law_3534 ml_L_362 J_X11_checksum (Nat.zero_le _) (Nat.zero_le _) (Nat.le_of_ble_eq_true rfl) rfl (Nat.le_of_ble_eq_true rfl) (List.forall_mem_cons.mpr ⟨rfl, fun _ h9 => absurd h9 List.not_mem_nil⟩) (Nat.le_of_ble_eq_true rfl) rfl rfl rfl rfl pn_X11_checksum rfl k
theorem S_law_3537 {kc ks : Nat} {h : Hh} {Q : PQ} {X : PX} {x5 : Int} {xs0 : Int} {xs1 : Int}
    (k : (((if xs0 < xs1 then 1 else if xs1 = xs0 then 0 else -1) = 0 → ((-2147483648 ≤ ((x5 + 10) : Int) ∧ ((x5 + 10) : Int) < 2147483648)) ∧ am_V M_L_law kc ks 28 [aR 1000, aR 0, aR 72, aR 81, aR 82, aI (x5 + 10), aU, aU, aU] [] am_R0 h Q X) ∧ ((if xs0 < xs1 then 1 else if xs1 = xs0 then 0 else -1) ≠ 0 → Q [aI 0] am_R0 h))) :
    am_V M_L_law kc ks 3537 [aR 1000, aR 0, aR 72, aR 81, aR 82, aI x5, aU, aU, aU] [aL xs0, aL xs1] am_R0 h Q X := by
  refine v_lcmp dL_law_3537 ?_
  refine v_if_eq (tgt := 3556) dL_law_3538 (by decide) (fun z => ?_) (fun z => ?_)
  · have k := k.1 z
    obtain ⟨b1_1, k⟩ := k
    refine v_iinc (E2 := [aR 1000, aR 0, aR 72, aR 81, aR 82, aI (x5 + 10), aU, aU, aU]) dL_law_3556 rfl b1_1 rfl ?_
    refine v_goto (tgt := 28) dL_law_3559 (by decide) ?_
    exact k
  · have k := k.2 z
    refine v_iconst dL_law_3541 ⟨by decide, by decide⟩ ?_
    exact v_lawret dL_law_3542 rfl k
theorem S_law_3543 {kc ks : Nat} {h : Hh} {Q : PQ} {X : PX} {x5 : Int}
    (k : am_V M_X10_isSound 0 0 0 [aR 0, aU, aU, aU] [] am_R0 h (fun v ρ' h' => am_V M_L_law kc ks 3547 [aR 1000, aR 0, aR 72, aR 81, aR 82, aI x5, aU, aU, aU] (v ++ []) ρ' h' Q X) X) :
    am_V M_L_law kc ks 3543 [aR 1000, aR 0, aR 72, aR 81, aR 82, aI x5, aU, aU, aU] [] am_R0 h Q X := by
  refine v_aload_n dL_law_3543 rfl rfl ?_
  exact v_callV (j := M_X10_isSound) (As := []) (st := []) (E0 := [aR 0, aU, aU, aU]) (a := 0) (ci := 8) (N := 10) (q9 := (RX10, TX10, 10)) dL_law_3544 ml_L_363 J_X10_isSound (Nat.zero_le _) (Nat.zero_le _) (Nat.le_of_ble_eq_true rfl) rfl (Nat.le_of_ble_eq_true rfl) (List.forall_mem_cons.mpr ⟨rfl, fun _ h9 => absurd h9 List.not_mem_nil⟩) (Nat.le_of_ble_eq_true rfl) rfl rfl rfl rfl pn_X10_isSound rfl k
theorem S_law_3547 {kc ks : Nat} {h : Hh} {Q : PQ} {X : PX} {x5 : Int} {xs0 : Int}
    (k : am_V M_X11_isSound 0 0 0 [aR 72, aU, aU, aU, aU, aU, aU, aU, aU] [] am_R0 h (fun v ρ' h' => am_V M_L_law kc ks 3551 [aR 1000, aR 0, aR 72, aR 81, aR 82, aI x5, aU, aU, aU] (v ++ [aI xs0]) ρ' h' Q X) X) :
    am_V M_L_law kc ks 3547 [aR 1000, aR 0, aR 72, aR 81, aR 82, aI x5, aU, aU, aU] [aI xs0] am_R0 h Q X := by
  refine v_aload_n dL_law_3547 rfl rfl ?_
  exact v_callV (j := M_X11_isSound) (As := []) (st := [aI xs0]) (E0 := [aR 72, aU, aU, aU, aU, aU, aU, aU, aU]) (a := 72) (ci := 9) (N := 11) (q9 := (RX11, TX11, 11)) dL_law_3548 ml_L_367 J_X11_isSound (Nat.zero_le _) (Nat.zero_le _) (Nat.le_of_ble_eq_true rfl) rfl (Nat.le_of_ble_eq_true rfl) (List.forall_mem_cons.mpr ⟨rfl, fun _ h9 => absurd h9 List.not_mem_nil⟩) (Nat.le_of_ble_eq_true rfl) rfl rfl rfl rfl pn_X11_isSound rfl k
theorem S_law_3551 {kc ks : Nat} {h : Hh} {Q : PQ} {X : PX} {x5 : Int} {xs0 : Int} {xs1 : Int}
    (k : ((xs1 = xs0 → ((-2147483648 ≤ ((x5 + 10) : Int) ∧ ((x5 + 10) : Int) < 2147483648)) ∧ am_V M_L_law kc ks 28 [aR 1000, aR 0, aR 72, aR 81, aR 82, aI (x5 + 10), aU, aU, aU] [] am_R0 h Q X) ∧ (xs1 ≠ xs0 → Q [aI 0] am_R0 h))) :
    am_V M_L_law kc ks 3551 [aR 1000, aR 0, aR 72, aR 81, aR 82, aI x5, aU, aU, aU] [aI xs0, aI xs1] am_R0 h Q X := by
  refine v_icmp_eq (tgt := 3556) dL_law_3551 (by decide) (fun z => ?_) (fun z => ?_)
  · have k := k.1 z
    obtain ⟨b1_1, k⟩ := k
    refine v_iinc (E2 := [aR 1000, aR 0, aR 72, aR 81, aR 82, aI (x5 + 10), aU, aU, aU]) dL_law_3556 rfl b1_1 rfl ?_
    refine v_goto (tgt := 28) dL_law_3559 (by decide) ?_
    exact k
  · have k := k.2 z
    refine v_iconst dL_law_3554 ⟨by decide, by decide⟩ ?_
    exact v_lawret dL_law_3555 rfl k
theorem S_law_3556 {kc ks : Nat} {h : Hh} {Q : PQ} {X : PX} {x5 : Int}
    (k : ((-2147483648 ≤ ((x5 + 10) : Int) ∧ ((x5 + 10) : Int) < 2147483648)) ∧ am_V M_L_law kc ks 28 [aR 1000, aR 0, aR 72, aR 81, aR 82, aI (x5 + 10), aU, aU, aU] [] am_R0 h Q X) :
    am_V M_L_law kc ks 3556 [aR 1000, aR 0, aR 72, aR 81, aR 82, aI x5, aU, aU, aU] [] am_R0 h Q X := by
  obtain ⟨b0_1, k⟩ := k
  refine v_iinc (E2 := [aR 1000, aR 0, aR 72, aR 81, aR 82, aI (x5 + 10), aU, aU, aU]) dL_law_3556 rfl b0_1 rfl ?_
  refine v_goto (tgt := 28) dL_law_3559 (by decide) ?_
  exact k
