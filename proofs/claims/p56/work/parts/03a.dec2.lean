theorem dX6_endsAboveWhole_10 : decode cX6_endsAboveWhole 10 = .ok (.iconst 0, 1) := by decide +kernel
theorem dX6_endsAboveWhole_11 : decode cX6_endsAboveWhole 11 = .ok (.iaload, 1) := by decide +kernel
theorem dX6_endsAboveWhole_12 : decode cX6_endsAboveWhole 12 = .ok (.isub, 1) := by decide +kernel
theorem dX6_endsAboveWhole_13 : decode cX6_endsAboveWhole 13 = .ok (.ireturn, 1) := by decide +kernel
theorem dX6_likeSigns_0 : decode cX6_likeSigns 0 = .ok (.aload_n 0, 1) := by decide +kernel
theorem dX6_likeSigns_1 : decode cX6_likeSigns 1 = .ok (.getfield 25, 3) := by decide +kernel
theorem dX6_likeSigns_4 : decode cX6_likeSigns 4 = .ok (.iload_n 1, 1) := by decide +kernel
theorem dX6_likeSigns_5 : decode cX6_likeSigns 5 = .ok (.isub, 1) := by decide +kernel
theorem dX6_likeSigns_6 : decode cX6_likeSigns 6 = .ok (.aload_n 2, 1) := by decide +kernel
theorem dX6_likeSigns_7 : decode cX6_likeSigns 7 = .ok (.getfield 25, 3) := by decide +kernel
theorem dX6_likeSigns_10 : decode cX6_likeSigns 10 = .ok (.iload_n 3, 1) := by decide +kernel
theorem dX6_likeSigns_11 : decode cX6_likeSigns 11 = .ok (.isub, 1) := by decide +kernel
theorem dX6_likeSigns_12 : decode cX6_likeSigns 12 = .ok (.invokestatic 29, 3) := by decide +kernel
theorem dX6_likeSigns_15 : decode cX6_likeSigns 15 = .ok (.istore 4, 2) := by decide +kernel
theorem dX6_likeSigns_17 : decode cX6_likeSigns 17 = .ok (.iconst 0, 1) := by decide +kernel
theorem dX6_likeSigns_18 : decode cX6_likeSigns 18 = .ok (.istore 5, 2) := by decide +kernel
theorem dX6_likeSigns_20 : decode cX6_likeSigns 20 = .ok (.iload 5, 2) := by decide +kernel
theorem dX6_likeSigns_22 : decode cX6_likeSigns 22 = .ok (.iload 4, 2) := by decide +kernel
theorem dX6_likeSigns_24 : decode cX6_likeSigns 24 = .ok (.if_icmp .ge 30, 3) := by decide +kernel
theorem dX6_likeSigns_27 : decode cX6_likeSigns 27 = .ok (.aload_n 0, 1) := by decide +kernel
theorem dX6_likeSigns_28 : decode cX6_likeSigns 28 = .ok (.getfield 9, 3) := by decide +kernel
theorem dX6_likeSigns_31 : decode cX6_likeSigns 31 = .ok (.iload_n 1, 1) := by decide +kernel
theorem dX6_likeSigns_32 : decode cX6_likeSigns 32 = .ok (.iload 5, 2) := by decide +kernel
theorem dX6_likeSigns_34 : decode cX6_likeSigns 34 = .ok (.iadd, 1) := by decide +kernel
theorem dX6_likeSigns_35 : decode cX6_likeSigns 35 = .ok (.caload, 1) := by decide +kernel
theorem dX6_likeSigns_36 : decode cX6_likeSigns 36 = .ok (.aload_n 2, 1) := by decide +kernel
theorem dX6_likeSigns_37 : decode cX6_likeSigns 37 = .ok (.getfield 9, 3) := by decide +kernel
theorem dX6_likeSigns_40 : decode cX6_likeSigns 40 = .ok (.iload_n 3, 1) := by decide +kernel
theorem dX6_likeSigns_41 : decode cX6_likeSigns 41 = .ok (.iload 5, 2) := by decide +kernel
theorem dX6_likeSigns_43 : decode cX6_likeSigns 43 = .ok (.iadd, 1) := by decide +kernel
theorem dX6_likeSigns_44 : decode cX6_likeSigns 44 = .ok (.caload, 1) := by decide +kernel
theorem dX6_likeSigns_45 : decode cX6_likeSigns 45 = .ok (.if_icmp .ne 9, 3) := by decide +kernel
theorem dX6_likeSigns_48 : decode cX6_likeSigns 48 = .ok (.iinc 5 1, 3) := by decide +kernel
theorem dX6_likeSigns_51 : decode cX6_likeSigns 51 = .ok (.goto (-31), 3) := by decide +kernel
theorem dX6_likeSigns_54 : decode cX6_likeSigns 54 = .ok (.iload 5, 2) := by decide +kernel
theorem dX6_likeSigns_56 : decode cX6_likeSigns 56 = .ok (.ireturn, 1) := by decide +kernel
theorem dX6_unlikeBeginnings_0 : decode cX6_unlikeBeginnings 0 = .ok (.iconst 0, 1) := by decide +kernel
theorem dX6_unlikeBeginnings_1 : decode cX6_unlikeBeginnings 1 = .ok (.istore_n 3, 1) := by decide +kernel
theorem dX6_unlikeBeginnings_2 : decode cX6_unlikeBeginnings 2 = .ok (.iconst 0, 1) := by decide +kernel
theorem dX6_unlikeBeginnings_3 : decode cX6_unlikeBeginnings 3 = .ok (.istore 4, 2) := by decide +kernel
theorem dX6_unlikeBeginnings_5 : decode cX6_unlikeBeginnings 5 = .ok (.iload 4, 2) := by decide +kernel
theorem dX6_unlikeBeginnings_7 : decode cX6_unlikeBeginnings 7 = .ok (.iload_n 2, 1) := by decide +kernel
theorem dX6_unlikeBeginnings_8 : decode cX6_unlikeBeginnings 8 = .ok (.if_icmp .gt 23, 3) := by decide +kernel
theorem dX6_unlikeBeginnings_11 : decode cX6_unlikeBeginnings 11 = .ok (.aload_n 0, 1) := by decide +kernel
theorem dX6_unlikeBeginnings_12 : decode cX6_unlikeBeginnings 12 = .ok (.getfield 22, 3) := by decide +kernel
theorem dX6_unlikeBeginnings_15 : decode cX6_unlikeBeginnings 15 = .ok (.iload 4, 2) := by decide +kernel
theorem dX6_unlikeBeginnings_17 : decode cX6_unlikeBeginnings 17 = .ok (.iaload, 1) := by decide +kernel
theorem dX6_unlikeBeginnings_18 : decode cX6_unlikeBeginnings 18 = .ok (.iload_n 1, 1) := by decide +kernel
theorem dX6_unlikeBeginnings_19 : decode cX6_unlikeBeginnings 19 = .ok (.if_icmp .ge 6, 3) := by decide +kernel
theorem dX6_unlikeBeginnings_22 : decode cX6_unlikeBeginnings 22 = .ok (.iinc 3 1, 3) := by decide +kernel
theorem dX6_unlikeBeginnings_25 : decode cX6_unlikeBeginnings 25 = .ok (.iinc 4 1, 3) := by decide +kernel
theorem dX6_unlikeBeginnings_28 : decode cX6_unlikeBeginnings 28 = .ok (.goto (-23), 3) := by decide +kernel
theorem dX6_unlikeBeginnings_31 : decode cX6_unlikeBeginnings 31 = .ok (.iload_n 3, 1) := by decide +kernel
theorem dX6_unlikeBeginnings_32 : decode cX6_unlikeBeginnings 32 = .ok (.ireturn, 1) := by decide +kernel
theorem dX6_greatestCommon_0 : decode cX6_greatestCommon 0 = .ok (.iconst 0, 1) := by decide +kernel
theorem dX6_greatestCommon_1 : decode cX6_greatestCommon 1 = .ok (.istore_n 1, 1) := by decide +kernel
theorem dX6_greatestCommon_2 : decode cX6_greatestCommon 2 = .ok (.iconst 0, 1) := by decide +kernel
theorem dX6_greatestCommon_3 : decode cX6_greatestCommon 3 = .ok (.istore_n 2, 1) := by decide +kernel
theorem dX6_greatestCommon_4 : decode cX6_greatestCommon 4 = .ok (.iload_n 2, 1) := by decide +kernel
theorem dX6_greatestCommon_5 : decode cX6_greatestCommon 5 = .ok (.aload_n 0, 1) := by decide +kernel
theorem dX6_greatestCommon_6 : decode cX6_greatestCommon 6 = .ok (.getfield 25, 3) := by decide +kernel
theorem dX6_greatestCommon_9 : decode cX6_greatestCommon 9 = .ok (.if_icmp .ge 20, 3) := by decide +kernel
theorem dX6_greatestCommon_12 : decode cX6_greatestCommon 12 = .ok (.iload_n 1, 1) := by decide +kernel
theorem dX6_greatestCommon_13 : decode cX6_greatestCommon 13 = .ok (.aload_n 0, 1) := by decide +kernel
theorem dX6_greatestCommon_14 : decode cX6_greatestCommon 14 = .ok (.getfield 22, 3) := by decide +kernel
theorem dX6_greatestCommon_17 : decode cX6_greatestCommon 17 = .ok (.iload_n 2, 1) := by decide +kernel
theorem dX6_greatestCommon_18 : decode cX6_greatestCommon 18 = .ok (.iaload, 1) := by decide +kernel
theorem dX6_greatestCommon_19 : decode cX6_greatestCommon 19 = .ok (.invokestatic 39, 3) := by decide +kernel
theorem dX6_greatestCommon_22 : decode cX6_greatestCommon 22 = .ok (.istore_n 1, 1) := by decide +kernel
theorem dX6_greatestCommon_23 : decode cX6_greatestCommon 23 = .ok (.iinc 2 1, 3) := by decide +kernel
theorem dX6_greatestCommon_26 : decode cX6_greatestCommon 26 = .ok (.goto (-22), 3) := by decide +kernel
theorem dX6_greatestCommon_29 : decode cX6_greatestCommon 29 = .ok (.iload_n 1, 1) := by decide +kernel
theorem dX6_greatestCommon_30 : decode cX6_greatestCommon 30 = .ok (.ireturn, 1) := by decide +kernel
theorem dX6_againstWord_0 : decode cX6_againstWord 0 = .ok (.aload_n 2, 1) := by decide +kernel
theorem dX6_againstWord_1 : decode cX6_againstWord 1 = .ok (.getfield 42, 3) := by decide +kernel
theorem dX6_againstWord_4 : decode cX6_againstWord 4 = .ok (.iload_n 3, 1) := by decide +kernel
theorem dX6_againstWord_5 : decode cX6_againstWord 5 = .ok (.isub, 1) := by decide +kernel
theorem dX6_againstWord_6 : decode cX6_againstWord 6 = .ok (.istore 4, 2) := by decide +kernel
theorem dX6_againstWord_8 : decode cX6_againstWord 8 = .ok (.aload_n 0, 1) := by decide +kernel
theorem dX6_againstWord_9 : decode cX6_againstWord 9 = .ok (.getfield 25, 3) := by decide +kernel
theorem dX6_againstWord_12 : decode cX6_againstWord 12 = .ok (.iload_n 1, 1) := by decide +kernel
theorem dX6_againstWord_13 : decode cX6_againstWord 13 = .ok (.isub, 1) := by decide +kernel
theorem dX6_againstWord_14 : decode cX6_againstWord 14 = .ok (.iload 4, 2) := by decide +kernel
theorem dX6_againstWord_16 : decode cX6_againstWord 16 = .ok (.invokestatic 29, 3) := by decide +kernel
theorem dX6_againstWord_19 : decode cX6_againstWord 19 = .ok (.istore 5, 2) := by decide +kernel
theorem dX6_againstWord_21 : decode cX6_againstWord 21 = .ok (.iconst 0, 1) := by decide +kernel
theorem dX6_againstWord_22 : decode cX6_againstWord 22 = .ok (.istore 6, 2) := by decide +kernel
theorem dX6_againstWord_24 : decode cX6_againstWord 24 = .ok (.iload 6, 2) := by decide +kernel
theorem dX6_againstWord_26 : decode cX6_againstWord 26 = .ok (.iload 5, 2) := by decide +kernel
theorem dX6_againstWord_28 : decode cX6_againstWord 28 = .ok (.if_icmp .ge 38, 3) := by decide +kernel
theorem dX6_againstWord_31 : decode cX6_againstWord 31 = .ok (.aload_n 0, 1) := by decide +kernel
theorem dX6_againstWord_32 : decode cX6_againstWord 32 = .ok (.getfield 9, 3) := by decide +kernel
theorem dX6_againstWord_35 : decode cX6_againstWord 35 = .ok (.iload_n 1, 1) := by decide +kernel
theorem dX6_againstWord_36 : decode cX6_againstWord 36 = .ok (.iload 6, 2) := by decide +kernel
theorem dX6_againstWord_38 : decode cX6_againstWord 38 = .ok (.iadd, 1) := by decide +kernel
theorem dX6_againstWord_39 : decode cX6_againstWord 39 = .ok (.caload, 1) := by decide +kernel
theorem dX6_againstWord_40 : decode cX6_againstWord 40 = .ok (.aload_n 2, 1) := by decide +kernel
theorem dX6_againstWord_41 : decode cX6_againstWord 41 = .ok (.getfield 45, 3) := by decide +kernel
theorem dX6_againstWord_44 : decode cX6_againstWord 44 = .ok (.iload_n 3, 1) := by decide +kernel
theorem dX6_againstWord_45 : decode cX6_againstWord 45 = .ok (.iload 6, 2) := by decide +kernel
theorem dX6_againstWord_47 : decode cX6_againstWord 47 = .ok (.iadd, 1) := by decide +kernel
theorem dX6_againstWord_48 : decode cX6_againstWord 48 = .ok (.caload, 1) := by decide +kernel
theorem dX6_againstWord_49 : decode cX6_againstWord 49 = .ok (.isub, 1) := by decide +kernel
theorem dX6_againstWord_50 : decode cX6_againstWord 50 = .ok (.istore 7, 2) := by decide +kernel
theorem dX6_againstWord_52 : decode cX6_againstWord 52 = .ok (.iload 7, 2) := by decide +kernel
theorem dX6_againstWord_54 : decode cX6_againstWord 54 = .ok (.ifCond .eq 6, 3) := by decide +kernel
theorem dX6_againstWord_57 : decode cX6_againstWord 57 = .ok (.iload 7, 2) := by decide +kernel
theorem dX6_againstWord_59 : decode cX6_againstWord 59 = .ok (.ireturn, 1) := by decide +kernel
theorem dX6_againstWord_60 : decode cX6_againstWord 60 = .ok (.iinc 6 1, 3) := by decide +kernel
theorem dX6_againstWord_63 : decode cX6_againstWord 63 = .ok (.goto (-39), 3) := by decide +kernel
theorem dX6_againstWord_66 : decode cX6_againstWord 66 = .ok (.iload 5, 2) := by decide +kernel
theorem dX6_againstWord_68 : decode cX6_againstWord 68 = .ok (.iload 4, 2) := by decide +kernel
theorem dX6_againstWord_70 : decode cX6_againstWord 70 = .ok (.isub, 1) := by decide +kernel
theorem dX6_againstWord_71 : decode cX6_againstWord 71 = .ok (.ireturn, 1) := by decide +kernel
theorem dX6_endsBelow_0 : decode cX6_endsBelow 0 = .ok (.aload_n 0, 1) := by decide +kernel
theorem dX6_endsBelow_1 : decode cX6_endsBelow 1 = .ok (.aload_n 1, 1) := by decide +kernel
theorem dX6_endsBelow_2 : decode cX6_endsBelow 2 = .ok (.iload_n 2, 1) := by decide +kernel
theorem dX6_endsBelow_3 : decode cX6_endsBelow 3 = .ok (.iconst 0, 1) := by decide +kernel
theorem dX6_endsBelow_4 : decode cX6_endsBelow 4 = .ok (.invokevirtual 46, 3) := by decide +kernel
theorem dX6_endsBelow_7 : decode cX6_endsBelow 7 = .ok (.ireturn, 1) := by decide +kernel
theorem dX6_endsUpTo_0 : decode cX6_endsUpTo 0 = .ok (.aload_n 0, 1) := by decide +kernel
theorem dX6_endsUpTo_1 : decode cX6_endsUpTo 1 = .ok (.aload_n 1, 1) := by decide +kernel
theorem dX6_endsUpTo_2 : decode cX6_endsUpTo 2 = .ok (.iload_n 2, 1) := by decide +kernel
theorem dX6_endsUpTo_3 : decode cX6_endsUpTo 3 = .ok (.iconst 1, 1) := by decide +kernel
theorem dX6_endsUpTo_4 : decode cX6_endsUpTo 4 = .ok (.invokevirtual 46, 3) := by decide +kernel
theorem dX6_endsUpTo_7 : decode cX6_endsUpTo 7 = .ok (.ireturn, 1) := by decide +kernel
theorem dX6_endsUnder_0 : decode cX6_endsUnder 0 = .ok (.iconst 0, 1) := by decide +kernel
theorem dX6_endsUnder_1 : decode cX6_endsUnder 1 = .ok (.istore 4, 2) := by decide +kernel
theorem dX6_endsUnder_3 : decode cX6_endsUnder 3 = .ok (.aload_n 0, 1) := by decide +kernel
theorem dX6_endsUnder_4 : decode cX6_endsUnder 4 = .ok (.getfield 25, 3) := by decide +kernel
theorem dX6_endsUnder_7 : decode cX6_endsUnder 7 = .ok (.istore 5, 2) := by decide +kernel
theorem dX6_endsUnder_9 : decode cX6_endsUnder 9 = .ok (.iload 4, 2) := by decide +kernel
theorem dX6_endsUnder_11 : decode cX6_endsUnder 11 = .ok (.iload 5, 2) := by decide +kernel
theorem dX6_endsUnder_13 : decode cX6_endsUnder 13 = .ok (.if_icmp .ge 45, 3) := by decide +kernel
theorem dX6_endsUnder_16 : decode cX6_endsUnder 16 = .ok (.iload 4, 2) := by decide +kernel
theorem dX6_endsUnder_18 : decode cX6_endsUnder 18 = .ok (.iload 5, 2) := by decide +kernel
theorem dX6_endsUnder_20 : decode cX6_endsUnder 20 = .ok (.iadd, 1) := by decide +kernel
theorem dX6_endsUnder_21 : decode cX6_endsUnder 21 = .ok (.iconst 2, 1) := by decide +kernel
theorem dX6_endsUnder_22 : decode cX6_endsUnder 22 = .ok (.idiv, 1) := by decide +kernel
theorem dX6_endsUnder_23 : decode cX6_endsUnder 23 = .ok (.istore 6, 2) := by decide +kernel
theorem dX6_endsUnder_25 : decode cX6_endsUnder 25 = .ok (.aload_n 0, 1) := by decide +kernel
theorem dX6_endsUnder_26 : decode cX6_endsUnder 26 = .ok (.aload_n 0, 1) := by decide +kernel
theorem dX6_endsUnder_27 : decode cX6_endsUnder 27 = .ok (.getfield 15, 3) := by decide +kernel
theorem dX6_endsUnder_30 : decode cX6_endsUnder 30 = .ok (.iload 6, 2) := by decide +kernel
theorem dX6_endsUnder_32 : decode cX6_endsUnder 32 = .ok (.iaload, 1) := by decide +kernel
theorem dX6_endsUnder_33 : decode cX6_endsUnder 33 = .ok (.aload_n 1, 1) := by decide +kernel
theorem dX6_endsUnder_34 : decode cX6_endsUnder 34 = .ok (.iload_n 2, 1) := by decide +kernel
theorem dX6_endsUnder_35 : decode cX6_endsUnder 35 = .ok (.invokevirtual 50, 3) := by decide +kernel
theorem dX6_endsUnder_38 : decode cX6_endsUnder 38 = .ok (.iload_n 3, 1) := by decide +kernel
theorem dX6_endsUnder_39 : decode cX6_endsUnder 39 = .ok (.if_icmp .ge 12, 3) := by decide +kernel
theorem dX6_endsUnder_42 : decode cX6_endsUnder 42 = .ok (.iload 6, 2) := by decide +kernel
theorem dX6_endsUnder_44 : decode cX6_endsUnder 44 = .ok (.iconst 1, 1) := by decide +kernel
theorem dX6_endsUnder_45 : decode cX6_endsUnder 45 = .ok (.iadd, 1) := by decide +kernel
theorem dX6_endsUnder_46 : decode cX6_endsUnder 46 = .ok (.istore 4, 2) := by decide +kernel
theorem dX6_endsUnder_48 : decode cX6_endsUnder 48 = .ok (.goto 7, 3) := by decide +kernel
theorem dX6_endsUnder_51 : decode cX6_endsUnder 51 = .ok (.iload 6, 2) := by decide +kernel
theorem dX6_endsUnder_53 : decode cX6_endsUnder 53 = .ok (.istore 5, 2) := by decide +kernel
theorem dX6_endsUnder_55 : decode cX6_endsUnder 55 = .ok (.goto (-46), 3) := by decide +kernel
theorem dX6_endsUnder_58 : decode cX6_endsUnder 58 = .ok (.iload 4, 2) := by decide +kernel
theorem dX6_endsUnder_60 : decode cX6_endsUnder 60 = .ok (.ireturn, 1) := by decide +kernel
theorem dX6_risingPlace_0 : decode cX6_risingPlace 0 = .ok (.iconst 0, 1) := by decide +kernel
theorem dX6_risingPlace_1 : decode cX6_risingPlace 1 = .ok (.istore 4, 2) := by decide +kernel
theorem dX6_risingPlace_3 : decode cX6_risingPlace 3 = .ok (.iconst 0, 1) := by decide +kernel
theorem dX6_risingPlace_4 : decode cX6_risingPlace 4 = .ok (.istore 5, 2) := by decide +kernel
theorem dX6_risingPlace_6 : decode cX6_risingPlace 6 = .ok (.iload 5, 2) := by decide +kernel
theorem dX6_risingPlace_8 : decode cX6_risingPlace 8 = .ok (.aload_n 0, 1) := by decide +kernel
theorem dX6_risingPlace_9 : decode cX6_risingPlace 9 = .ok (.getfield 25, 3) := by decide +kernel
theorem dX6_risingPlace_12 : decode cX6_risingPlace 12 = .ok (.if_icmp .ge 43, 3) := by decide +kernel
theorem dX6_risingPlace_15 : decode cX6_risingPlace 15 = .ok (.aload_n 0, 1) := by decide +kernel
theorem dX6_risingPlace_16 : decode cX6_risingPlace 16 = .ok (.getfield 19, 3) := by decide +kernel
theorem dX6_risingPlace_19 : decode cX6_risingPlace 19 = .ok (.iload 5, 2) := by decide +kernel
theorem dX6_risingPlace_21 : decode cX6_risingPlace 21 = .ok (.iaload, 1) := by decide +kernel
theorem dX6_risingPlace_22 : decode cX6_risingPlace 22 = .ok (.iload_n 1, 1) := by decide +kernel
theorem dX6_risingPlace_23 : decode cX6_risingPlace 23 = .ok (.if_icmp .lt 26, 3) := by decide +kernel
theorem dX6_risingPlace_26 : decode cX6_risingPlace 26 = .ok (.aload_n 0, 1) := by decide +kernel
theorem dX6_risingPlace_27 : decode cX6_risingPlace 27 = .ok (.getfield 19, 3) := by decide +kernel
theorem dX6_risingPlace_30 : decode cX6_risingPlace 30 = .ok (.iload 5, 2) := by decide +kernel
theorem dX6_risingPlace_32 : decode cX6_risingPlace 32 = .ok (.iaload, 1) := by decide +kernel
theorem dX6_risingPlace_33 : decode cX6_risingPlace 33 = .ok (.iload_n 2, 1) := by decide +kernel
theorem dX6_risingPlace_34 : decode cX6_risingPlace 34 = .ok (.if_icmp .ge 15, 3) := by decide +kernel
theorem dX6_risingPlace_37 : decode cX6_risingPlace 37 = .ok (.iload 4, 2) := by decide +kernel
theorem dX6_risingPlace_39 : decode cX6_risingPlace 39 = .ok (.iload_n 3, 1) := by decide +kernel
theorem dX6_risingPlace_40 : decode cX6_risingPlace 40 = .ok (.if_icmp .ne 6, 3) := by decide +kernel
theorem dX6_risingPlace_43 : decode cX6_risingPlace 43 = .ok (.iload 5, 2) := by decide +kernel
theorem dX6_risingPlace_45 : decode cX6_risingPlace 45 = .ok (.ireturn, 1) := by decide +kernel
theorem dX6_risingPlace_46 : decode cX6_risingPlace 46 = .ok (.iinc 4 1, 3) := by decide +kernel
theorem dX6_risingPlace_49 : decode cX6_risingPlace 49 = .ok (.iinc 5 1, 3) := by decide +kernel
theorem dX6_risingPlace_52 : decode cX6_risingPlace 52 = .ok (.goto (-46), 3) := by decide +kernel
theorem dX6_risingPlace_55 : decode cX6_risingPlace 55 = .ok (.aload_n 0, 1) := by decide +kernel
theorem dX6_risingPlace_56 : decode cX6_risingPlace 56 = .ok (.getfield 25, 3) := by decide +kernel
theorem dX6_risingPlace_59 : decode cX6_risingPlace 59 = .ok (.ireturn, 1) := by decide +kernel
theorem dX6_newWordsBelow_0 : decode cX6_newWordsBelow 0 = .ok (.iconst 0, 1) := by decide +kernel
theorem dX6_newWordsBelow_1 : decode cX6_newWordsBelow 1 = .ok (.istore_n 2, 1) := by decide +kernel
theorem dX6_newWordsBelow_2 : decode cX6_newWordsBelow 2 = .ok (.iconst 0, 1) := by decide +kernel
theorem dX6_newWordsBelow_3 : decode cX6_newWordsBelow 3 = .ok (.istore_n 3, 1) := by decide +kernel
theorem dX6_newWordsBelow_4 : decode cX6_newWordsBelow 4 = .ok (.iload_n 3, 1) := by decide +kernel
theorem dX6_newWordsBelow_5 : decode cX6_newWordsBelow 5 = .ok (.iload_n 1, 1) := by decide +kernel
theorem dX6_newWordsBelow_6 : decode cX6_newWordsBelow 6 = .ok (.if_icmp .ge 30, 3) := by decide +kernel
theorem dX6_newWordsBelow_9 : decode cX6_newWordsBelow 9 = .ok (.iload_n 2, 1) := by decide +kernel
theorem dX6_newWordsBelow_10 : decode cX6_newWordsBelow 10 = .ok (.aload_n 0, 1) := by decide +kernel
theorem dX6_newWordsBelow_11 : decode cX6_newWordsBelow 11 = .ok (.getfield 25, 3) := by decide +kernel
theorem dX6_newWordsBelow_14 : decode cX6_newWordsBelow 14 = .ok (.aload_n 0, 1) := by decide +kernel
theorem dX6_newWordsBelow_15 : decode cX6_newWordsBelow 15 = .ok (.getfield 15, 3) := by decide +kernel
theorem dX6_newWordsBelow_18 : decode cX6_newWordsBelow 18 = .ok (.iload_n 3, 1) := by decide +kernel
theorem dX6_newWordsBelow_19 : decode cX6_newWordsBelow 19 = .ok (.iaload, 1) := by decide +kernel
theorem dX6_newWordsBelow_20 : decode cX6_newWordsBelow 20 = .ok (.isub, 1) := by decide +kernel
theorem dX6_newWordsBelow_21 : decode cX6_newWordsBelow 21 = .ok (.aload_n 0, 1) := by decide +kernel
theorem dX6_newWordsBelow_22 : decode cX6_newWordsBelow 22 = .ok (.getfield 22, 3) := by decide +kernel
theorem dX6_newWordsBelow_25 : decode cX6_newWordsBelow 25 = .ok (.iload_n 3, 1) := by decide +kernel
theorem dX6_newWordsBelow_26 : decode cX6_newWordsBelow 26 = .ok (.iaload, 1) := by decide +kernel
theorem dX6_newWordsBelow_27 : decode cX6_newWordsBelow 27 = .ok (.isub, 1) := by decide +kernel
theorem dX6_newWordsBelow_28 : decode cX6_newWordsBelow 28 = .ok (.iadd, 1) := by decide +kernel
theorem dX6_newWordsBelow_29 : decode cX6_newWordsBelow 29 = .ok (.istore_n 2, 1) := by decide +kernel
theorem dX6_newWordsBelow_30 : decode cX6_newWordsBelow 30 = .ok (.iinc 3 1, 3) := by decide +kernel
theorem dX6_newWordsBelow_33 : decode cX6_newWordsBelow 33 = .ok (.goto (-29), 3) := by decide +kernel
theorem dX6_newWordsBelow_36 : decode cX6_newWordsBelow 36 = .ok (.iload_n 2, 1) := by decide +kernel
theorem dX6_newWordsBelow_37 : decode cX6_newWordsBelow 37 = .ok (.ireturn, 1) := by decide +kernel
theorem dX6_rankBringing_0 : decode cX6_rankBringing 0 = .ok (.iconst 0, 1) := by decide +kernel
theorem dX6_rankBringing_1 : decode cX6_rankBringing 1 = .ok (.istore_n 2, 1) := by decide +kernel
theorem dX6_rankBringing_2 : decode cX6_rankBringing 2 = .ok (.iconst 0, 1) := by decide +kernel
theorem dX6_rankBringing_3 : decode cX6_rankBringing 3 = .ok (.istore_n 3, 1) := by decide +kernel
theorem dX6_rankBringing_4 : decode cX6_rankBringing 4 = .ok (.iload_n 2, 1) := by decide +kernel
theorem dX6_rankBringing_5 : decode cX6_rankBringing 5 = .ok (.aload_n 0, 1) := by decide +kernel
theorem dX6_rankBringing_6 : decode cX6_rankBringing 6 = .ok (.getfield 25, 3) := by decide +kernel
theorem dX6_rankBringing_9 : decode cX6_rankBringing 9 = .ok (.iconst 1, 1) := by decide +kernel
theorem dX6_rankBringing_10 : decode cX6_rankBringing 10 = .ok (.isub, 1) := by decide +kernel
theorem dX6_rankBringing_11 : decode cX6_rankBringing 11 = .ok (.if_icmp .ge 54, 3) := by decide +kernel
theorem dX6_rankBringing_14 : decode cX6_rankBringing 14 = .ok (.iload_n 1, 1) := by decide +kernel
theorem dX6_rankBringing_15 : decode cX6_rankBringing 15 = .ok (.iload_n 3, 1) := by decide +kernel
theorem dX6_rankBringing_16 : decode cX6_rankBringing 16 = .ok (.aload_n 0, 1) := by decide +kernel
theorem dX6_rankBringing_17 : decode cX6_rankBringing 17 = .ok (.getfield 25, 3) := by decide +kernel
theorem dX6_rankBringing_20 : decode cX6_rankBringing 20 = .ok (.iadd, 1) := by decide +kernel
theorem dX6_rankBringing_21 : decode cX6_rankBringing 21 = .ok (.aload_n 0, 1) := by decide +kernel
theorem dX6_rankBringing_22 : decode cX6_rankBringing 22 = .ok (.getfield 15, 3) := by decide +kernel
theorem dX6_rankBringing_25 : decode cX6_rankBringing 25 = .ok (.iload_n 2, 1) := by decide +kernel
theorem dX6_rankBringing_26 : decode cX6_rankBringing 26 = .ok (.iaload, 1) := by decide +kernel
theorem dX6_rankBringing_27 : decode cX6_rankBringing 27 = .ok (.isub, 1) := by decide +kernel
theorem dX6_rankBringing_28 : decode cX6_rankBringing 28 = .ok (.aload_n 0, 1) := by decide +kernel
theorem dX6_rankBringing_29 : decode cX6_rankBringing 29 = .ok (.getfield 22, 3) := by decide +kernel
theorem dX6_rankBringing_32 : decode cX6_rankBringing 32 = .ok (.iload_n 2, 1) := by decide +kernel
theorem dX6_rankBringing_33 : decode cX6_rankBringing 33 = .ok (.iaload, 1) := by decide +kernel
theorem dX6_rankBringing_34 : decode cX6_rankBringing 34 = .ok (.isub, 1) := by decide +kernel
theorem dX6_rankBringing_35 : decode cX6_rankBringing 35 = .ok (.if_icmp .lt 30, 3) := by decide +kernel
theorem dX6_rankBringing_38 : decode cX6_rankBringing 38 = .ok (.iload_n 3, 1) := by decide +kernel
theorem dX6_rankBringing_39 : decode cX6_rankBringing 39 = .ok (.aload_n 0, 1) := by decide +kernel
theorem dX6_rankBringing_40 : decode cX6_rankBringing 40 = .ok (.getfield 25, 3) := by decide +kernel
theorem dX6_rankBringing_43 : decode cX6_rankBringing 43 = .ok (.aload_n 0, 1) := by decide +kernel
theorem dX6_rankBringing_44 : decode cX6_rankBringing 44 = .ok (.getfield 15, 3) := by decide +kernel
theorem dX6_rankBringing_47 : decode cX6_rankBringing 47 = .ok (.iload_n 2, 1) := by decide +kernel
theorem dX6_rankBringing_48 : decode cX6_rankBringing 48 = .ok (.iaload, 1) := by decide +kernel
theorem dX6_rankBringing_49 : decode cX6_rankBringing 49 = .ok (.isub, 1) := by decide +kernel
theorem dX6_rankBringing_50 : decode cX6_rankBringing 50 = .ok (.aload_n 0, 1) := by decide +kernel
theorem dX6_rankBringing_51 : decode cX6_rankBringing 51 = .ok (.getfield 22, 3) := by decide +kernel
theorem dX6_rankBringing_54 : decode cX6_rankBringing 54 = .ok (.iload_n 2, 1) := by decide +kernel
theorem dX6_rankBringing_55 : decode cX6_rankBringing 55 = .ok (.iaload, 1) := by decide +kernel
theorem dX6_rankBringing_56 : decode cX6_rankBringing 56 = .ok (.isub, 1) := by decide +kernel
theorem dX6_rankBringing_57 : decode cX6_rankBringing 57 = .ok (.iadd, 1) := by decide +kernel
theorem dX6_rankBringing_58 : decode cX6_rankBringing 58 = .ok (.istore_n 3, 1) := by decide +kernel
theorem dX6_rankBringing_59 : decode cX6_rankBringing 59 = .ok (.iinc 2 1, 3) := by decide +kernel
theorem dX6_rankBringing_62 : decode cX6_rankBringing 62 = .ok (.goto (-58), 3) := by decide +kernel
theorem dX6_rankBringing_65 : decode cX6_rankBringing 65 = .ok (.iload_n 2, 1) := by decide +kernel
theorem dX6_rankBringing_66 : decode cX6_rankBringing 66 = .ok (.ireturn, 1) := by decide +kernel
theorem dX6_firstPlaceOfLongestTwice_0 : decode cX6_firstPlaceOfLongestTwice 0 = .ok (.aload_n 0, 1) := by decide +kernel
theorem dX6_firstPlaceOfLongestTwice_1 : decode cX6_firstPlaceOfLongestTwice 1 = .ok (.invokevirtual 54, 3) := by decide +kernel
theorem dX6_firstPlaceOfLongestTwice_4 : decode cX6_firstPlaceOfLongestTwice 4 = .ok (.istore_n 1, 1) := by decide +kernel
theorem dX6_firstPlaceOfLongestTwice_5 : decode cX6_firstPlaceOfLongestTwice 5 = .ok (.iconst 1, 1) := by decide +kernel
theorem dX6_firstPlaceOfLongestTwice_6 : decode cX6_firstPlaceOfLongestTwice 6 = .ok (.istore_n 2, 1) := by decide +kernel
theorem dX6_firstPlaceOfLongestTwice_7 : decode cX6_firstPlaceOfLongestTwice 7 = .ok (.iload_n 2, 1) := by decide +kernel
theorem dX6_firstPlaceOfLongestTwice_8 : decode cX6_firstPlaceOfLongestTwice 8 = .ok (.aload_n 0, 1) := by decide +kernel
theorem dX6_firstPlaceOfLongestTwice_9 : decode cX6_firstPlaceOfLongestTwice 9 = .ok (.getfield 25, 3) := by decide +kernel
theorem dX6_firstPlaceOfLongestTwice_12 : decode cX6_firstPlaceOfLongestTwice 12 = .ok (.if_icmp .ge 19, 3) := by decide +kernel
theorem dX6_firstPlaceOfLongestTwice_15 : decode cX6_firstPlaceOfLongestTwice 15 = .ok (.aload_n 0, 1) := by decide +kernel
theorem dX6_firstPlaceOfLongestTwice_16 : decode cX6_firstPlaceOfLongestTwice 16 = .ok (.getfield 22, 3) := by decide +kernel
theorem dX6_firstPlaceOfLongestTwice_19 : decode cX6_firstPlaceOfLongestTwice 19 = .ok (.iload_n 2, 1) := by decide +kernel
theorem dX6_firstPlaceOfLongestTwice_20 : decode cX6_firstPlaceOfLongestTwice 20 = .ok (.iaload, 1) := by decide +kernel
theorem dX6_firstPlaceOfLongestTwice_21 : decode cX6_firstPlaceOfLongestTwice 21 = .ok (.iload_n 1, 1) := by decide +kernel
theorem dX6_firstPlaceOfLongestTwice_22 : decode cX6_firstPlaceOfLongestTwice 22 = .ok (.if_icmp .ge 9, 3) := by decide +kernel
theorem dX6_firstPlaceOfLongestTwice_25 : decode cX6_firstPlaceOfLongestTwice 25 = .ok (.iinc 2 1, 3) := by decide +kernel
theorem dX6_firstPlaceOfLongestTwice_28 : decode cX6_firstPlaceOfLongestTwice 28 = .ok (.goto (-21), 3) := by decide +kernel
theorem dX6_firstPlaceOfLongestTwice_31 : decode cX6_firstPlaceOfLongestTwice 31 = .ok (.aload_n 0, 1) := by decide +kernel
theorem dX6_firstPlaceOfLongestTwice_32 : decode cX6_firstPlaceOfLongestTwice 32 = .ok (.getfield 15, 3) := by decide +kernel
theorem dX6_firstPlaceOfLongestTwice_35 : decode cX6_firstPlaceOfLongestTwice 35 = .ok (.iload_n 2, 1) := by decide +kernel
theorem dX6_firstPlaceOfLongestTwice_36 : decode cX6_firstPlaceOfLongestTwice 36 = .ok (.iconst 1, 1) := by decide +kernel
theorem dX6_firstPlaceOfLongestTwice_37 : decode cX6_firstPlaceOfLongestTwice 37 = .ok (.isub, 1) := by decide +kernel
theorem dX6_firstPlaceOfLongestTwice_38 : decode cX6_firstPlaceOfLongestTwice 38 = .ok (.iaload, 1) := by decide +kernel
theorem dX6_firstPlaceOfLongestTwice_39 : decode cX6_firstPlaceOfLongestTwice 39 = .ok (.istore_n 3, 1) := by decide +kernel
theorem dX6_firstPlaceOfLongestTwice_40 : decode cX6_firstPlaceOfLongestTwice 40 = .ok (.iload_n 2, 1) := by decide +kernel
theorem dX6_firstPlaceOfLongestTwice_41 : decode cX6_firstPlaceOfLongestTwice 41 = .ok (.aload_n 0, 1) := by decide +kernel
theorem dX6_firstPlaceOfLongestTwice_42 : decode cX6_firstPlaceOfLongestTwice 42 = .ok (.getfield 25, 3) := by decide +kernel
theorem dX6_firstPlaceOfLongestTwice_45 : decode cX6_firstPlaceOfLongestTwice 45 = .ok (.if_icmp .ge 30, 3) := by decide +kernel
theorem dX6_firstPlaceOfLongestTwice_48 : decode cX6_firstPlaceOfLongestTwice 48 = .ok (.aload_n 0, 1) := by decide +kernel
theorem dX6_firstPlaceOfLongestTwice_49 : decode cX6_firstPlaceOfLongestTwice 49 = .ok (.getfield 22, 3) := by decide +kernel
theorem dX6_firstPlaceOfLongestTwice_52 : decode cX6_firstPlaceOfLongestTwice 52 = .ok (.iload_n 2, 1) := by decide +kernel
theorem dX6_firstPlaceOfLongestTwice_53 : decode cX6_firstPlaceOfLongestTwice 53 = .ok (.iaload, 1) := by decide +kernel
theorem dX6_firstPlaceOfLongestTwice_54 : decode cX6_firstPlaceOfLongestTwice 54 = .ok (.iload_n 1, 1) := by decide +kernel
theorem dX6_firstPlaceOfLongestTwice_55 : decode cX6_firstPlaceOfLongestTwice 55 = .ok (.if_icmp .ne 20, 3) := by decide +kernel
theorem dX6_firstPlaceOfLongestTwice_58 : decode cX6_firstPlaceOfLongestTwice 58 = .ok (.iload_n 3, 1) := by decide +kernel
theorem dX6_firstPlaceOfLongestTwice_59 : decode cX6_firstPlaceOfLongestTwice 59 = .ok (.aload_n 0, 1) := by decide +kernel
theorem dX6_firstPlaceOfLongestTwice_60 : decode cX6_firstPlaceOfLongestTwice 60 = .ok (.getfield 15, 3) := by decide +kernel
theorem dX6_firstPlaceOfLongestTwice_63 : decode cX6_firstPlaceOfLongestTwice 63 = .ok (.iload_n 2, 1) := by decide +kernel
theorem dX6_firstPlaceOfLongestTwice_64 : decode cX6_firstPlaceOfLongestTwice 64 = .ok (.iaload, 1) := by decide +kernel
theorem dX6_firstPlaceOfLongestTwice_65 : decode cX6_firstPlaceOfLongestTwice 65 = .ok (.invokestatic 29, 3) := by decide +kernel
theorem dX6_firstPlaceOfLongestTwice_68 : decode cX6_firstPlaceOfLongestTwice 68 = .ok (.istore_n 3, 1) := by decide +kernel
theorem dX6_firstPlaceOfLongestTwice_69 : decode cX6_firstPlaceOfLongestTwice 69 = .ok (.iinc 2 1, 3) := by decide +kernel
theorem dX6_firstPlaceOfLongestTwice_72 : decode cX6_firstPlaceOfLongestTwice 72 = .ok (.goto (-32), 3) := by decide +kernel
theorem dX6_firstPlaceOfLongestTwice_75 : decode cX6_firstPlaceOfLongestTwice 75 = .ok (.iload_n 3, 1) := by decide +kernel
theorem dX6_firstPlaceOfLongestTwice_76 : decode cX6_firstPlaceOfLongestTwice 76 = .ok (.ireturn, 1) := by decide +kernel
theorem dX6_placeOfRow_0 : decode cX6_placeOfRow 0 = .ok (.iload_n 1, 1) := by decide +kernel
theorem dX6_placeOfRow_1 : decode cX6_placeOfRow 1 = .ok (.ifCond .ne 10, 3) := by decide +kernel
theorem dX6_placeOfRow_4 : decode cX6_placeOfRow 4 = .ok (.aload_n 0, 1) := by decide +kernel
theorem dX6_placeOfRow_5 : decode cX6_placeOfRow 5 = .ok (.getfield 25, 3) := by decide +kernel
theorem dX6_placeOfRow_8 : decode cX6_placeOfRow 8 = .ok (.goto 11, 3) := by decide +kernel
theorem dX6_placeOfRow_11 : decode cX6_placeOfRow 11 = .ok (.aload_n 0, 1) := by decide +kernel
theorem dX6_placeOfRow_12 : decode cX6_placeOfRow 12 = .ok (.getfield 15, 3) := by decide +kernel
theorem dX6_placeOfRow_15 : decode cX6_placeOfRow 15 = .ok (.iload_n 1, 1) := by decide +kernel
theorem dX6_placeOfRow_16 : decode cX6_placeOfRow 16 = .ok (.iconst 1, 1) := by decide +kernel
theorem dX6_placeOfRow_17 : decode cX6_placeOfRow 17 = .ok (.isub, 1) := by decide +kernel
theorem dX6_placeOfRow_18 : decode cX6_placeOfRow 18 = .ok (.iaload, 1) := by decide +kernel
theorem dX6_placeOfRow_19 : decode cX6_placeOfRow 19 = .ok (.ireturn, 1) := by decide +kernel
theorem dX6_firstSign_0 : decode cX6_firstSign 0 = .ok (.iload_n 1, 1) := by decide +kernel
theorem dX6_firstSign_1 : decode cX6_firstSign 1 = .ok (.ifCond .ne 8, 3) := by decide +kernel
theorem dX6_firstSign_4 : decode cX6_firstSign 4 = .ok (.bipush 36, 2) := by decide +kernel
theorem dX6_firstSign_6 : decode cX6_firstSign 6 = .ok (.goto 16, 3) := by decide +kernel
theorem dX6_firstSign_9 : decode cX6_firstSign 9 = .ok (.aload_n 0, 1) := by decide +kernel
theorem dX6_firstSign_10 : decode cX6_firstSign 10 = .ok (.getfield 9, 3) := by decide +kernel
theorem dX6_firstSign_13 : decode cX6_firstSign 13 = .ok (.aload_n 0, 1) := by decide +kernel
theorem dX6_firstSign_14 : decode cX6_firstSign 14 = .ok (.getfield 15, 3) := by decide +kernel
theorem dX6_firstSign_17 : decode cX6_firstSign 17 = .ok (.iload_n 1, 1) := by decide +kernel
theorem dX6_firstSign_18 : decode cX6_firstSign 18 = .ok (.iconst 1, 1) := by decide +kernel
theorem dX6_firstSign_19 : decode cX6_firstSign 19 = .ok (.isub, 1) := by decide +kernel
theorem dX6_firstSign_20 : decode cX6_firstSign 20 = .ok (.iaload, 1) := by decide +kernel
theorem dX6_firstSign_21 : decode cX6_firstSign 21 = .ok (.caload, 1) := by decide +kernel
theorem dX6_firstSign_22 : decode cX6_firstSign 22 = .ok (.ireturn, 1) := by decide +kernel
theorem dX6_lastSign_0 : decode cX6_lastSign 0 = .ok (.aload_n 0, 1) := by decide +kernel
theorem dX6_lastSign_1 : decode cX6_lastSign 1 = .ok (.iload_n 1, 1) := by decide +kernel
theorem dX6_lastSign_2 : decode cX6_lastSign 2 = .ok (.invokevirtual 65, 3) := by decide +kernel
theorem dX6_lastSign_5 : decode cX6_lastSign 5 = .ok (.istore_n 2, 1) := by decide +kernel
theorem dX6_lastSign_6 : decode cX6_lastSign 6 = .ok (.iload_n 2, 1) := by decide +kernel
theorem dX6_lastSign_7 : decode cX6_lastSign 7 = .ok (.ifCond .ne 8, 3) := by decide +kernel
theorem dX6_lastSign_10 : decode cX6_lastSign 10 = .ok (.bipush 36, 2) := by decide +kernel
theorem dX6_lastSign_12 : decode cX6_lastSign 12 = .ok (.goto 11, 3) := by decide +kernel
theorem dX6_lastSign_15 : decode cX6_lastSign 15 = .ok (.aload_n 0, 1) := by decide +kernel
theorem dX6_lastSign_16 : decode cX6_lastSign 16 = .ok (.getfield 9, 3) := by decide +kernel
theorem dX6_lastSign_19 : decode cX6_lastSign 19 = .ok (.iload_n 2, 1) := by decide +kernel
theorem dX6_lastSign_20 : decode cX6_lastSign 20 = .ok (.iconst 1, 1) := by decide +kernel
theorem dX6_lastSign_21 : decode cX6_lastSign 21 = .ok (.isub, 1) := by decide +kernel
theorem dX6_lastSign_22 : decode cX6_lastSign 22 = .ok (.caload, 1) := by decide +kernel
theorem dX6_lastSign_23 : decode cX6_lastSign 23 = .ok (.ireturn, 1) := by decide +kernel
theorem dX6_rowAhead_0 : decode cX6_rowAhead 0 = .ok (.aload_n 0, 1) := by decide +kernel
theorem dX6_rowAhead_1 : decode cX6_rowAhead 1 = .ok (.iload_n 1, 1) := by decide +kernel
theorem dX6_rowAhead_2 : decode cX6_rowAhead 2 = .ok (.invokevirtual 65, 3) := by decide +kernel
theorem dX6_rowAhead_5 : decode cX6_rowAhead 5 = .ok (.istore_n 2, 1) := by decide +kernel
theorem dX6_rowAhead_6 : decode cX6_rowAhead 6 = .ok (.iload_n 2, 1) := by decide +kernel
theorem dX6_rowAhead_7 : decode cX6_rowAhead 7 = .ok (.ifCond .ne 7, 3) := by decide +kernel
theorem dX6_rowAhead_10 : decode cX6_rowAhead 10 = .ok (.iconst 0, 1) := by decide +kernel
theorem dX6_rowAhead_11 : decode cX6_rowAhead 11 = .ok (.goto 13, 3) := by decide +kernel
theorem dX6_rowAhead_14 : decode cX6_rowAhead 14 = .ok (.aload_n 0, 1) := by decide +kernel
theorem dX6_rowAhead_15 : decode cX6_rowAhead 15 = .ok (.getfield 19, 3) := by decide +kernel
theorem dX6_rowAhead_18 : decode cX6_rowAhead 18 = .ok (.iload_n 2, 1) := by decide +kernel
theorem dX6_rowAhead_19 : decode cX6_rowAhead 19 = .ok (.iconst 1, 1) := by decide +kernel
theorem dX6_rowAhead_20 : decode cX6_rowAhead 20 = .ok (.isub, 1) := by decide +kernel
theorem dX6_rowAhead_21 : decode cX6_rowAhead 21 = .ok (.iaload, 1) := by decide +kernel
theorem dX6_rowAhead_22 : decode cX6_rowAhead 22 = .ok (.iconst 1, 1) := by decide +kernel
theorem dX6_rowAhead_23 : decode cX6_rowAhead 23 = .ok (.iadd, 1) := by decide +kernel
theorem dX6_rowAhead_24 : decode cX6_rowAhead 24 = .ok (.ireturn, 1) := by decide +kernel
theorem dX7_init_0 : decode cX7_init 0 = .ok (.aload_n 0, 1) := by decide +kernel
theorem dX7_init_1 : decode cX7_init 1 = .ok (.invokespecial 3, 3) := by decide +kernel
theorem dX7_init_4 : decode cX7_init 4 = .ok (.aload_n 0, 1) := by decide +kernel
theorem dX7_init_5 : decode cX7_init 5 = .ok (.bipush 64, 2) := by decide +kernel
theorem dX7_init_7 : decode cX7_init 7 = .ok (.newarray .char, 2) := by decide +kernel
theorem dX7_init_9 : decode cX7_init 9 = .ok (.putfield 9, 3) := by decide +kernel
theorem dX7_init_12 : decode cX7_init 12 = .ok (.aload_n 0, 1) := by decide +kernel
theorem dX7_init_13 : decode cX7_init 13 = .ok (.bipush 65, 2) := by decide +kernel
theorem dX7_init_15 : decode cX7_init 15 = .ok (.newarray .char, 2) := by decide +kernel
theorem dX7_init_17 : decode cX7_init 17 = .ok (.putfield 15, 3) := by decide +kernel
theorem dX7_init_20 : decode cX7_init 20 = .ok (.aload_n 0, 1) := by decide +kernel
theorem dX7_init_21 : decode cX7_init 21 = .ok (.bipush 65, 2) := by decide +kernel
theorem dX7_init_23 : decode cX7_init 23 = .ok (.newarray .int, 2) := by decide +kernel
theorem dX7_init_25 : decode cX7_init 25 = .ok (.putfield 18, 3) := by decide +kernel
theorem dX7_init_28 : decode cX7_init 28 = .ok (.aload_n 0, 1) := by decide +kernel
theorem dX7_init_29 : decode cX7_init 29 = .ok (.bipush 28, 2) := by decide +kernel
theorem dX7_init_31 : decode cX7_init 31 = .ok (.newarray .int, 2) := by decide +kernel
theorem dX7_init_33 : decode cX7_init 33 = .ok (.putfield 22, 3) := by decide +kernel
theorem dX7_init_36 : decode cX7_init 36 = .ok (.aload_n 0, 1) := by decide +kernel
theorem dX7_init_37 : decode cX7_init 37 = .ok (.bipush 27, 2) := by decide +kernel
theorem dX7_init_39 : decode cX7_init 39 = .ok (.newarray .char, 2) := by decide +kernel
theorem dX7_init_41 : decode cX7_init 41 = .ok (.putfield 25, 3) := by decide +kernel
theorem dX7_init_44 : decode cX7_init 44 = .ok (.return_, 1) := by decide +kernel
theorem dX7_indexOfSign_0 : decode cX7_indexOfSign 0 = .ok (.iload_n 0, 1) := by decide +kernel
theorem dX7_indexOfSign_1 : decode cX7_indexOfSign 1 = .ok (.invokestatic 28, 3) := by decide +kernel
theorem dX7_indexOfSign_4 : decode cX7_indexOfSign 4 = .ok (.ifCond .eq 12, 3) := by decide +kernel
theorem dX7_indexOfSign_7 : decode cX7_indexOfSign 7 = .ok (.iload_n 0, 1) := by decide +kernel
theorem dX7_indexOfSign_8 : decode cX7_indexOfSign 8 = .ok (.bipush 97, 2) := by decide +kernel
theorem dX7_indexOfSign_10 : decode cX7_indexOfSign 10 = .ok (.isub, 1) := by decide +kernel
theorem dX7_indexOfSign_11 : decode cX7_indexOfSign 11 = .ok (.iconst 1, 1) := by decide +kernel
theorem dX7_indexOfSign_12 : decode cX7_indexOfSign 12 = .ok (.iadd, 1) := by decide +kernel
theorem dX7_indexOfSign_13 : decode cX7_indexOfSign 13 = .ok (.goto 4, 3) := by decide +kernel
theorem dX7_indexOfSign_16 : decode cX7_indexOfSign 16 = .ok (.iconst 0, 1) := by decide +kernel
theorem dX7_indexOfSign_17 : decode cX7_indexOfSign 17 = .ok (.ireturn, 1) := by decide +kernel
theorem dX7_turnBack_0 : decode cX7_turnBack 0 = .ok (.aload_n 0, 1) := by decide +kernel
theorem dX7_turnBack_1 : decode cX7_turnBack 1 = .ok (.aload_n 1, 1) := by decide +kernel
theorem dX7_turnBack_2 : decode cX7_turnBack 2 = .ok (.iload_n 2, 1) := by decide +kernel
theorem dX7_turnBack_3 : decode cX7_turnBack 3 = .ok (.invokevirtual 42, 3) := by decide +kernel
theorem dX7_turnBack_6 : decode cX7_turnBack 6 = .ok (.iconst 1, 1) := by decide +kernel
theorem dX7_turnBack_7 : decode cX7_turnBack 7 = .ok (.if_icmp .eq 5, 3) := by decide +kernel
theorem dX7_turnBack_10 : decode cX7_turnBack 10 = .ok (.iconst 0, 1) := by decide +kernel
theorem dX7_turnBack_11 : decode cX7_turnBack 11 = .ok (.ireturn, 1) := by decide +kernel
theorem dX7_turnBack_12 : decode cX7_turnBack 12 = .ok (.aload_n 0, 1) := by decide +kernel
theorem dX7_turnBack_13 : decode cX7_turnBack 13 = .ok (.aload_n 1, 1) := by decide +kernel
theorem dX7_turnBack_14 : decode cX7_turnBack 14 = .ok (.iload_n 2, 1) := by decide +kernel
theorem dX7_turnBack_15 : decode cX7_turnBack 15 = .ok (.invokevirtual 46, 3) := by decide +kernel
theorem dX7_turnBack_18 : decode cX7_turnBack 18 = .ok (.iconst 0, 1) := by decide +kernel
theorem dX7_turnBack_19 : decode cX7_turnBack 19 = .ok (.istore_n 3, 1) := by decide +kernel
theorem dX7_turnBack_20 : decode cX7_turnBack 20 = .ok (.iload_n 2, 1) := by decide +kernel
theorem dX7_turnBack_21 : decode cX7_turnBack 21 = .ok (.iconst 2, 1) := by decide +kernel
theorem dX7_turnBack_22 : decode cX7_turnBack 22 = .ok (.isub, 1) := by decide +kernel
theorem dX7_turnBack_23 : decode cX7_turnBack 23 = .ok (.istore 4, 2) := by decide +kernel
theorem dX7_turnBack_25 : decode cX7_turnBack 25 = .ok (.iload 4, 2) := by decide +kernel
theorem dX7_turnBack_27 : decode cX7_turnBack 27 = .ok (.ifCond .lt 36, 3) := by decide +kernel
theorem dX7_turnBack_30 : decode cX7_turnBack 30 = .ok (.aload_n 1, 1) := by decide +kernel
theorem dX7_turnBack_31 : decode cX7_turnBack 31 = .ok (.iload_n 3, 1) := by decide +kernel
theorem dX7_turnBack_32 : decode cX7_turnBack 32 = .ok (.caload, 1) := by decide +kernel
theorem dX7_turnBack_33 : decode cX7_turnBack 33 = .ok (.bipush 36, 2) := by decide +kernel
theorem dX7_turnBack_35 : decode cX7_turnBack 35 = .ok (.if_icmp .ne 5, 3) := by decide +kernel
theorem dX7_turnBack_38 : decode cX7_turnBack 38 = .ok (.iconst 0, 1) := by decide +kernel
theorem dX7_turnBack_39 : decode cX7_turnBack 39 = .ok (.ireturn, 1) := by decide +kernel
theorem dX7_turnBack_40 : decode cX7_turnBack 40 = .ok (.aload_n 0, 1) := by decide +kernel
theorem dX7_turnBack_41 : decode cX7_turnBack 41 = .ok (.getfield 9, 3) := by decide +kernel
theorem dX7_turnBack_44 : decode cX7_turnBack 44 = .ok (.iload 4, 2) := by decide +kernel
theorem dX7_turnBack_46 : decode cX7_turnBack 46 = .ok (.aload_n 1, 1) := by decide +kernel
theorem dX7_turnBack_47 : decode cX7_turnBack 47 = .ok (.iload_n 3, 1) := by decide +kernel
theorem dX7_turnBack_48 : decode cX7_turnBack 48 = .ok (.caload, 1) := by decide +kernel
theorem dX7_turnBack_49 : decode cX7_turnBack 49 = .ok (.castore, 1) := by decide +kernel
theorem dX7_turnBack_50 : decode cX7_turnBack 50 = .ok (.aload_n 0, 1) := by decide +kernel
theorem dX7_turnBack_51 : decode cX7_turnBack 51 = .ok (.getfield 18, 3) := by decide +kernel
theorem dX7_turnBack_54 : decode cX7_turnBack 54 = .ok (.iload_n 3, 1) := by decide +kernel
theorem dX7_turnBack_55 : decode cX7_turnBack 55 = .ok (.iaload, 1) := by decide +kernel
theorem dX7_turnBack_56 : decode cX7_turnBack 56 = .ok (.istore_n 3, 1) := by decide +kernel
theorem dX7_turnBack_57 : decode cX7_turnBack 57 = .ok (.iinc 4 (-1), 3) := by decide +kernel
theorem dX7_turnBack_60 : decode cX7_turnBack 60 = .ok (.goto (-35), 3) := by decide +kernel
theorem dX7_turnBack_63 : decode cX7_turnBack 63 = .ok (.iconst 1, 1) := by decide +kernel
theorem dX7_turnBack_64 : decode cX7_turnBack 64 = .ok (.ireturn, 1) := by decide +kernel
theorem dX7_endSigns_0 : decode cX7_endSigns 0 = .ok (.iconst 0, 1) := by decide +kernel
theorem dX7_endSigns_1 : decode cX7_endSigns 1 = .ok (.istore_n 3, 1) := by decide +kernel
theorem dX7_endSigns_2 : decode cX7_endSigns 2 = .ok (.iconst 0, 1) := by decide +kernel
theorem dX7_endSigns_3 : decode cX7_endSigns 3 = .ok (.istore 4, 2) := by decide +kernel
theorem dX7_endSigns_5 : decode cX7_endSigns 5 = .ok (.iload 4, 2) := by decide +kernel
theorem dX7_endSigns_7 : decode cX7_endSigns 7 = .ok (.iload_n 2, 1) := by decide +kernel
theorem dX7_endSigns_8 : decode cX7_endSigns 8 = .ok (.if_icmp .ge 21, 3) := by decide +kernel
theorem dX7_endSigns_11 : decode cX7_endSigns 11 = .ok (.aload_n 1, 1) := by decide +kernel
theorem dX7_endSigns_12 : decode cX7_endSigns 12 = .ok (.iload 4, 2) := by decide +kernel
theorem dX7_endSigns_14 : decode cX7_endSigns 14 = .ok (.caload, 1) := by decide +kernel
theorem dX7_endSigns_15 : decode cX7_endSigns 15 = .ok (.bipush 36, 2) := by decide +kernel
theorem dX7_endSigns_17 : decode cX7_endSigns 17 = .ok (.if_icmp .ne 6, 3) := by decide +kernel
theorem dX7_endSigns_20 : decode cX7_endSigns 20 = .ok (.iinc 3 1, 3) := by decide +kernel
theorem dX7_endSigns_23 : decode cX7_endSigns 23 = .ok (.iinc 4 1, 3) := by decide +kernel
theorem dX7_endSigns_26 : decode cX7_endSigns 26 = .ok (.goto (-21), 3) := by decide +kernel
theorem dX7_endSigns_29 : decode cX7_endSigns 29 = .ok (.iload_n 3, 1) := by decide +kernel
theorem dX7_endSigns_30 : decode cX7_endSigns 30 = .ok (.ireturn, 1) := by decide +kernel
theorem dX7_tellRowsAhead_0 : decode cX7_tellRowsAhead 0 = .ok (.iconst 0, 1) := by decide +kernel
theorem dX7_tellRowsAhead_1 : decode cX7_tellRowsAhead 1 = .ok (.istore_n 3, 1) := by decide +kernel
theorem dX7_tellRowsAhead_2 : decode cX7_tellRowsAhead 2 = .ok (.iload_n 3, 1) := by decide +kernel
theorem dX7_tellRowsAhead_3 : decode cX7_tellRowsAhead 3 = .ok (.aload_n 0, 1) := by decide +kernel
theorem dX7_tellRowsAhead_4 : decode cX7_tellRowsAhead 4 = .ok (.getfield 22, 3) := by decide +kernel
theorem dX7_tellRowsAhead_7 : decode cX7_tellRowsAhead 7 = .ok (.arraylength, 1) := by decide +kernel
theorem dX7_tellRowsAhead_8 : decode cX7_tellRowsAhead 8 = .ok (.if_icmp .ge 16, 3) := by decide +kernel
theorem dX7_tellRowsAhead_11 : decode cX7_tellRowsAhead 11 = .ok (.aload_n 0, 1) := by decide +kernel
theorem dX7_tellRowsAhead_12 : decode cX7_tellRowsAhead 12 = .ok (.getfield 22, 3) := by decide +kernel
theorem dX7_tellRowsAhead_15 : decode cX7_tellRowsAhead 15 = .ok (.iload_n 3, 1) := by decide +kernel
theorem dX7_tellRowsAhead_16 : decode cX7_tellRowsAhead 16 = .ok (.iconst 0, 1) := by decide +kernel
theorem dX7_tellRowsAhead_17 : decode cX7_tellRowsAhead 17 = .ok (.iastore, 1) := by decide +kernel
theorem dX7_tellRowsAhead_18 : decode cX7_tellRowsAhead 18 = .ok (.iinc 3 1, 3) := by decide +kernel
theorem dX7_tellRowsAhead_21 : decode cX7_tellRowsAhead 21 = .ok (.goto (-19), 3) := by decide +kernel
theorem dX7_tellRowsAhead_24 : decode cX7_tellRowsAhead 24 = .ok (.iconst 0, 1) := by decide +kernel
theorem dX7_tellRowsAhead_25 : decode cX7_tellRowsAhead 25 = .ok (.istore_n 3, 1) := by decide +kernel
theorem dX7_tellRowsAhead_26 : decode cX7_tellRowsAhead 26 = .ok (.iload_n 3, 1) := by decide +kernel
theorem dX7_tellRowsAhead_27 : decode cX7_tellRowsAhead 27 = .ok (.iload_n 2, 1) := by decide +kernel
theorem dX7_tellRowsAhead_28 : decode cX7_tellRowsAhead 28 = .ok (.if_icmp .ge 26, 3) := by decide +kernel
theorem dX7_tellRowsAhead_31 : decode cX7_tellRowsAhead 31 = .ok (.aload_n 0, 1) := by decide +kernel
theorem dX7_tellRowsAhead_32 : decode cX7_tellRowsAhead 32 = .ok (.getfield 22, 3) := by decide +kernel
theorem dX7_tellRowsAhead_35 : decode cX7_tellRowsAhead 35 = .ok (.aload_n 1, 1) := by decide +kernel
theorem dX7_tellRowsAhead_36 : decode cX7_tellRowsAhead 36 = .ok (.iload_n 3, 1) := by decide +kernel
theorem dX7_tellRowsAhead_37 : decode cX7_tellRowsAhead 37 = .ok (.caload, 1) := by decide +kernel
theorem dX7_tellRowsAhead_38 : decode cX7_tellRowsAhead 38 = .ok (.invokestatic 50, 3) := by decide +kernel
theorem dX7_tellRowsAhead_41 : decode cX7_tellRowsAhead 41 = .ok (.iconst 1, 1) := by decide +kernel
theorem dX7_tellRowsAhead_42 : decode cX7_tellRowsAhead 42 = .ok (.iadd, 1) := by decide +kernel
theorem dX7_tellRowsAhead_43 : decode cX7_tellRowsAhead 43 = .ok (.dup2, 1) := by decide +kernel
theorem dX7_tellRowsAhead_44 : decode cX7_tellRowsAhead 44 = .ok (.iaload, 1) := by decide +kernel
theorem dX7_tellRowsAhead_45 : decode cX7_tellRowsAhead 45 = .ok (.iconst 1, 1) := by decide +kernel
theorem dX7_tellRowsAhead_46 : decode cX7_tellRowsAhead 46 = .ok (.iadd, 1) := by decide +kernel
theorem dX7_tellRowsAhead_47 : decode cX7_tellRowsAhead 47 = .ok (.iastore, 1) := by decide +kernel
theorem dX7_tellRowsAhead_48 : decode cX7_tellRowsAhead 48 = .ok (.iinc 3 1, 3) := by decide +kernel
theorem dX7_tellRowsAhead_51 : decode cX7_tellRowsAhead 51 = .ok (.goto (-25), 3) := by decide +kernel
theorem dX7_tellRowsAhead_54 : decode cX7_tellRowsAhead 54 = .ok (.iconst 1, 1) := by decide +kernel
theorem dX7_tellRowsAhead_55 : decode cX7_tellRowsAhead 55 = .ok (.istore_n 3, 1) := by decide +kernel
theorem dX7_tellRowsAhead_56 : decode cX7_tellRowsAhead 56 = .ok (.iload_n 3, 1) := by decide +kernel
theorem dX7_tellRowsAhead_57 : decode cX7_tellRowsAhead 57 = .ok (.aload_n 0, 1) := by decide +kernel
theorem dX7_tellRowsAhead_58 : decode cX7_tellRowsAhead 58 = .ok (.getfield 22, 3) := by decide +kernel
theorem dX7_tellRowsAhead_61 : decode cX7_tellRowsAhead 61 = .ok (.arraylength, 1) := by decide +kernel
theorem dX7_tellRowsAhead_62 : decode cX7_tellRowsAhead 62 = .ok (.if_icmp .ge 26, 3) := by decide +kernel
theorem dX7_tellRowsAhead_65 : decode cX7_tellRowsAhead 65 = .ok (.aload_n 0, 1) := by decide +kernel
theorem dX7_tellRowsAhead_66 : decode cX7_tellRowsAhead 66 = .ok (.getfield 22, 3) := by decide +kernel
theorem dX7_tellRowsAhead_69 : decode cX7_tellRowsAhead 69 = .ok (.iload_n 3, 1) := by decide +kernel
theorem dX7_tellRowsAhead_70 : decode cX7_tellRowsAhead 70 = .ok (.dup2, 1) := by decide +kernel
theorem dX7_tellRowsAhead_71 : decode cX7_tellRowsAhead 71 = .ok (.iaload, 1) := by decide +kernel
theorem dX7_tellRowsAhead_72 : decode cX7_tellRowsAhead 72 = .ok (.aload_n 0, 1) := by decide +kernel
theorem dX7_tellRowsAhead_73 : decode cX7_tellRowsAhead 73 = .ok (.getfield 22, 3) := by decide +kernel
theorem dX7_tellRowsAhead_76 : decode cX7_tellRowsAhead 76 = .ok (.iload_n 3, 1) := by decide +kernel
theorem dX7_tellRowsAhead_77 : decode cX7_tellRowsAhead 77 = .ok (.iconst 1, 1) := by decide +kernel
theorem dX7_tellRowsAhead_78 : decode cX7_tellRowsAhead 78 = .ok (.isub, 1) := by decide +kernel
theorem dX7_tellRowsAhead_79 : decode cX7_tellRowsAhead 79 = .ok (.iaload, 1) := by decide +kernel
theorem dX7_tellRowsAhead_80 : decode cX7_tellRowsAhead 80 = .ok (.iadd, 1) := by decide +kernel
theorem dX7_tellRowsAhead_81 : decode cX7_tellRowsAhead 81 = .ok (.iastore, 1) := by decide +kernel
theorem dX7_tellRowsAhead_82 : decode cX7_tellRowsAhead 82 = .ok (.iinc 3 1, 3) := by decide +kernel
theorem dX7_tellRowsAhead_85 : decode cX7_tellRowsAhead 85 = .ok (.goto (-29), 3) := by decide +kernel
theorem dX7_tellRowsAhead_88 : decode cX7_tellRowsAhead 88 = .ok (.iconst 0, 1) := by decide +kernel
theorem dX7_tellRowsAhead_89 : decode cX7_tellRowsAhead 89 = .ok (.istore_n 3, 1) := by decide +kernel
theorem dX7_tellRowsAhead_90 : decode cX7_tellRowsAhead 90 = .ok (.iload_n 3, 1) := by decide +kernel
theorem dX7_tellRowsAhead_91 : decode cX7_tellRowsAhead 91 = .ok (.iload_n 2, 1) := by decide +kernel
theorem dX7_tellRowsAhead_92 : decode cX7_tellRowsAhead 92 = .ok (.if_icmp .ge 41, 3) := by decide +kernel
theorem dX7_tellRowsAhead_95 : decode cX7_tellRowsAhead 95 = .ok (.aload_n 1, 1) := by decide +kernel
theorem dX7_tellRowsAhead_96 : decode cX7_tellRowsAhead 96 = .ok (.iload_n 3, 1) := by decide +kernel
theorem dX7_tellRowsAhead_97 : decode cX7_tellRowsAhead 97 = .ok (.caload, 1) := by decide +kernel
theorem dX7_tellRowsAhead_98 : decode cX7_tellRowsAhead 98 = .ok (.invokestatic 50, 3) := by decide +kernel
theorem dX7_tellRowsAhead_101 : decode cX7_tellRowsAhead 101 = .ok (.istore 4, 2) := by decide +kernel
theorem dX7_tellRowsAhead_103 : decode cX7_tellRowsAhead 103 = .ok (.aload_n 0, 1) := by decide +kernel
theorem dX7_tellRowsAhead_104 : decode cX7_tellRowsAhead 104 = .ok (.getfield 18, 3) := by decide +kernel
theorem dX7_tellRowsAhead_107 : decode cX7_tellRowsAhead 107 = .ok (.iload_n 3, 1) := by decide +kernel
theorem dX7_tellRowsAhead_108 : decode cX7_tellRowsAhead 108 = .ok (.aload_n 0, 1) := by decide +kernel
theorem dX7_tellRowsAhead_109 : decode cX7_tellRowsAhead 109 = .ok (.getfield 22, 3) := by decide +kernel
theorem dX7_tellRowsAhead_112 : decode cX7_tellRowsAhead 112 = .ok (.iload 4, 2) := by decide +kernel
theorem dX7_tellRowsAhead_114 : decode cX7_tellRowsAhead 114 = .ok (.iaload, 1) := by decide +kernel
theorem dX7_tellRowsAhead_115 : decode cX7_tellRowsAhead 115 = .ok (.iastore, 1) := by decide +kernel
theorem dX7_tellRowsAhead_116 : decode cX7_tellRowsAhead 116 = .ok (.aload_n 0, 1) := by decide +kernel
theorem dX7_tellRowsAhead_117 : decode cX7_tellRowsAhead 117 = .ok (.getfield 22, 3) := by decide +kernel
theorem dX7_tellRowsAhead_120 : decode cX7_tellRowsAhead 120 = .ok (.iload 4, 2) := by decide +kernel
theorem dX7_tellRowsAhead_122 : decode cX7_tellRowsAhead 122 = .ok (.dup2, 1) := by decide +kernel
theorem dX7_tellRowsAhead_123 : decode cX7_tellRowsAhead 123 = .ok (.iaload, 1) := by decide +kernel
theorem dX7_tellRowsAhead_124 : decode cX7_tellRowsAhead 124 = .ok (.iconst 1, 1) := by decide +kernel
theorem dX7_tellRowsAhead_125 : decode cX7_tellRowsAhead 125 = .ok (.iadd, 1) := by decide +kernel
theorem dX7_tellRowsAhead_126 : decode cX7_tellRowsAhead 126 = .ok (.iastore, 1) := by decide +kernel
theorem dX7_tellRowsAhead_127 : decode cX7_tellRowsAhead 127 = .ok (.iinc 3 1, 3) := by decide +kernel
theorem dX7_tellRowsAhead_130 : decode cX7_tellRowsAhead 130 = .ok (.goto (-40), 3) := by decide +kernel
theorem dX7_tellRowsAhead_133 : decode cX7_tellRowsAhead 133 = .ok (.return_, 1) := by decide +kernel
theorem dX7_comesBack_0 : decode cX7_comesBack 0 = .ok (.aload_n 1, 1) := by decide +kernel
theorem dX7_comesBack_1 : decode cX7_comesBack 1 = .ok (.getfield 53, 3) := by decide +kernel
theorem dX7_comesBack_4 : decode cX7_comesBack 4 = .ok (.iconst 1, 1) := by decide +kernel
theorem dX7_comesBack_5 : decode cX7_comesBack 5 = .ok (.iadd, 1) := by decide +kernel
theorem dX7_comesBack_6 : decode cX7_comesBack 6 = .ok (.istore_n 2, 1) := by decide +kernel
theorem dX7_comesBack_7 : decode cX7_comesBack 7 = .ok (.iconst 0, 1) := by decide +kernel
theorem dX7_comesBack_8 : decode cX7_comesBack 8 = .ok (.istore_n 3, 1) := by decide +kernel
theorem dX7_comesBack_9 : decode cX7_comesBack 9 = .ok (.iload_n 3, 1) := by decide +kernel
theorem dX7_comesBack_10 : decode cX7_comesBack 10 = .ok (.iload_n 2, 1) := by decide +kernel
theorem dX7_comesBack_11 : decode cX7_comesBack 11 = .ok (.if_icmp .ge 20, 3) := by decide +kernel
theorem dX7_comesBack_14 : decode cX7_comesBack 14 = .ok (.aload_n 0, 1) := by decide +kernel
theorem dX7_comesBack_15 : decode cX7_comesBack 15 = .ok (.getfield 15, 3) := by decide +kernel
theorem dX7_comesBack_18 : decode cX7_comesBack 18 = .ok (.iload_n 3, 1) := by decide +kernel
theorem dX7_comesBack_19 : decode cX7_comesBack 19 = .ok (.aload_n 1, 1) := by decide +kernel
theorem dX7_comesBack_20 : decode cX7_comesBack 20 = .ok (.iload_n 3, 1) := by decide +kernel
theorem dX7_comesBack_21 : decode cX7_comesBack 21 = .ok (.invokevirtual 32, 3) := by decide +kernel
theorem dX7_comesBack_24 : decode cX7_comesBack 24 = .ok (.castore, 1) := by decide +kernel
theorem dX7_comesBack_25 : decode cX7_comesBack 25 = .ok (.iinc 3 1, 3) := by decide +kernel
theorem dX7_comesBack_28 : decode cX7_comesBack 28 = .ok (.goto (-19), 3) := by decide +kernel
theorem dX7_comesBack_31 : decode cX7_comesBack 31 = .ok (.aload_n 0, 1) := by decide +kernel
theorem dX7_comesBack_32 : decode cX7_comesBack 32 = .ok (.aload_n 0, 1) := by decide +kernel
theorem dX7_comesBack_33 : decode cX7_comesBack 33 = .ok (.getfield 15, 3) := by decide +kernel
theorem dX7_comesBack_36 : decode cX7_comesBack 36 = .ok (.iload_n 2, 1) := by decide +kernel
theorem dX7_comesBack_37 : decode cX7_comesBack 37 = .ok (.invokevirtual 57, 3) := by decide +kernel
theorem dX7_comesBack_40 : decode cX7_comesBack 40 = .ok (.ifCond .ne 5, 3) := by decide +kernel
theorem dX7_comesBack_43 : decode cX7_comesBack 43 = .ok (.iconst 0, 1) := by decide +kernel
theorem dX7_comesBack_44 : decode cX7_comesBack 44 = .ok (.ireturn, 1) := by decide +kernel
theorem dX7_comesBack_45 : decode cX7_comesBack 45 = .ok (.iconst 0, 1) := by decide +kernel
theorem dX7_comesBack_46 : decode cX7_comesBack 46 = .ok (.istore_n 3, 1) := by decide +kernel
theorem dX7_comesBack_47 : decode cX7_comesBack 47 = .ok (.iload_n 3, 1) := by decide +kernel
theorem dX7_comesBack_48 : decode cX7_comesBack 48 = .ok (.iload_n 2, 1) := by decide +kernel
theorem dX7_comesBack_49 : decode cX7_comesBack 49 = .ok (.if_icmp .ge 25, 3) := by decide +kernel
theorem dX7_comesBack_52 : decode cX7_comesBack 52 = .ok (.aload_n 0, 1) := by decide +kernel
theorem dX7_comesBack_53 : decode cX7_comesBack 53 = .ok (.getfield 18, 3) := by decide +kernel
theorem dX7_comesBack_56 : decode cX7_comesBack 56 = .ok (.iload_n 3, 1) := by decide +kernel
theorem dX7_comesBack_57 : decode cX7_comesBack 57 = .ok (.iaload, 1) := by decide +kernel
theorem dX7_comesBack_58 : decode cX7_comesBack 58 = .ok (.aload_n 1, 1) := by decide +kernel
theorem dX7_comesBack_59 : decode cX7_comesBack 59 = .ok (.iload_n 3, 1) := by decide +kernel
theorem dX7_comesBack_60 : decode cX7_comesBack 60 = .ok (.invokevirtual 61, 3) := by decide +kernel
theorem dX7_comesBack_63 : decode cX7_comesBack 63 = .ok (.if_icmp .eq 5, 3) := by decide +kernel
theorem dX7_comesBack_66 : decode cX7_comesBack 66 = .ok (.iconst 0, 1) := by decide +kernel
theorem dX7_comesBack_67 : decode cX7_comesBack 67 = .ok (.ireturn, 1) := by decide +kernel
theorem dX7_comesBack_68 : decode cX7_comesBack 68 = .ok (.iinc 3 1, 3) := by decide +kernel
theorem dX7_comesBack_71 : decode cX7_comesBack 71 = .ok (.goto (-24), 3) := by decide +kernel
theorem dX7_comesBack_74 : decode cX7_comesBack 74 = .ok (.iconst 0, 1) := by decide +kernel
theorem dX7_comesBack_75 : decode cX7_comesBack 75 = .ok (.istore_n 3, 1) := by decide +kernel
theorem dX7_comesBack_76 : decode cX7_comesBack 76 = .ok (.iload_n 3, 1) := by decide +kernel
theorem dX7_comesBack_77 : decode cX7_comesBack 77 = .ok (.aload_n 1, 1) := by decide +kernel
theorem dX7_comesBack_78 : decode cX7_comesBack 78 = .ok (.getfield 53, 3) := by decide +kernel
theorem dX7_comesBack_81 : decode cX7_comesBack 81 = .ok (.if_icmp .ge 26, 3) := by decide +kernel
theorem dX7_comesBack_84 : decode cX7_comesBack 84 = .ok (.aload_n 0, 1) := by decide +kernel
theorem dX7_comesBack_85 : decode cX7_comesBack 85 = .ok (.getfield 9, 3) := by decide +kernel
theorem dX7_comesBack_88 : decode cX7_comesBack 88 = .ok (.iload_n 3, 1) := by decide +kernel
theorem dX7_comesBack_89 : decode cX7_comesBack 89 = .ok (.caload, 1) := by decide +kernel
theorem dX7_comesBack_90 : decode cX7_comesBack 90 = .ok (.aload_n 1, 1) := by decide +kernel
theorem dX7_comesBack_91 : decode cX7_comesBack 91 = .ok (.getfield 65, 3) := by decide +kernel
theorem dX7_comesBack_94 : decode cX7_comesBack 94 = .ok (.iload_n 3, 1) := by decide +kernel
theorem dX7_comesBack_95 : decode cX7_comesBack 95 = .ok (.caload, 1) := by decide +kernel
theorem dX7_comesBack_96 : decode cX7_comesBack 96 = .ok (.if_icmp .eq 5, 3) := by decide +kernel
theorem dX7_comesBack_99 : decode cX7_comesBack 99 = .ok (.iconst 0, 1) := by decide +kernel
theorem dX7_comesBack_100 : decode cX7_comesBack 100 = .ok (.ireturn, 1) := by decide +kernel
theorem dX7_comesBack_101 : decode cX7_comesBack 101 = .ok (.iinc 3 1, 3) := by decide +kernel
theorem dX7_comesBack_104 : decode cX7_comesBack 104 = .ok (.goto (-28), 3) := by decide +kernel
theorem dX7_comesBack_107 : decode cX7_comesBack 107 = .ok (.iconst 1, 1) := by decide +kernel
theorem dX7_comesBack_108 : decode cX7_comesBack 108 = .ok (.ireturn, 1) := by decide +kernel
theorem dX8_init_0 : decode cX8_init 0 = .ok (.aload_n 0, 1) := by decide +kernel
theorem dX8_init_1 : decode cX8_init 1 = .ok (.invokespecial 3, 3) := by decide +kernel
theorem dX8_init_4 : decode cX8_init 4 = .ok (.aload_n 0, 1) := by decide +kernel
theorem dX8_init_5 : decode cX8_init 5 = .ok (.bipush 65, 2) := by decide +kernel
theorem dX8_init_7 : decode cX8_init 7 = .ok (.newarray .char, 2) := by decide +kernel
theorem dX8_init_9 : decode cX8_init 9 = .ok (.putfield 9, 3) := by decide +kernel
theorem dX8_init_12 : decode cX8_init 12 = .ok (.return_, 1) := by decide +kernel
theorem dX8_put_0 : decode cX8_put 0 = .ok (.aload_n 0, 1) := by decide +kernel
theorem dX8_put_1 : decode cX8_put 1 = .ok (.getfield 15, 3) := by decide +kernel
theorem dX8_put_4 : decode cX8_put 4 = .ok (.aload_n 0, 1) := by decide +kernel
theorem dX8_put_5 : decode cX8_put 5 = .ok (.getfield 9, 3) := by decide +kernel
theorem dX8_put_8 : decode cX8_put 8 = .ok (.arraylength, 1) := by decide +kernel
theorem dX8_put_9 : decode cX8_put 9 = .ok (.if_icmp .ge 23, 3) := by decide +kernel
theorem dX8_put_12 : decode cX8_put 12 = .ok (.aload_n 0, 1) := by decide +kernel
theorem dX8_put_13 : decode cX8_put 13 = .ok (.getfield 9, 3) := by decide +kernel
theorem dX8_put_16 : decode cX8_put 16 = .ok (.aload_n 0, 1) := by decide +kernel
theorem dX8_put_17 : decode cX8_put 17 = .ok (.getfield 15, 3) := by decide +kernel
theorem dX8_put_20 : decode cX8_put 20 = .ok (.iload_n 1, 1) := by decide +kernel
theorem dX8_put_21 : decode cX8_put 21 = .ok (.castore, 1) := by decide +kernel
theorem dX8_put_22 : decode cX8_put 22 = .ok (.aload_n 0, 1) := by decide +kernel
theorem dX8_put_23 : decode cX8_put 23 = .ok (.dup, 1) := by decide +kernel
theorem dX8_put_24 : decode cX8_put 24 = .ok (.getfield 15, 3) := by decide +kernel
theorem dX8_put_27 : decode cX8_put 27 = .ok (.iconst 1, 1) := by decide +kernel
theorem dX8_put_28 : decode cX8_put 28 = .ok (.iadd, 1) := by decide +kernel
theorem dX8_put_29 : decode cX8_put 29 = .ok (.putfield 15, 3) := by decide +kernel
theorem dX8_put_32 : decode cX8_put 32 = .ok (.return_, 1) := by decide +kernel
theorem dX8_hold_0 : decode cX8_hold 0 = .ok (.aload_n 0, 1) := by decide +kernel
theorem dX8_hold_1 : decode cX8_hold 1 = .ok (.iconst 0, 1) := by decide +kernel
theorem dX8_hold_2 : decode cX8_hold 2 = .ok (.putfield 15, 3) := by decide +kernel
theorem dX8_hold_5 : decode cX8_hold 5 = .ok (.iconst 0, 1) := by decide +kernel
theorem dX8_hold_6 : decode cX8_hold 6 = .ok (.istore 4, 2) := by decide +kernel
theorem dX8_hold_8 : decode cX8_hold 8 = .ok (.iload 4, 2) := by decide +kernel
theorem dX8_hold_10 : decode cX8_hold 10 = .ok (.iload_n 3, 1) := by decide +kernel
theorem dX8_hold_11 : decode cX8_hold 11 = .ok (.if_icmp .ge 19, 3) := by decide +kernel
theorem dX8_hold_14 : decode cX8_hold 14 = .ok (.aload_n 0, 1) := by decide +kernel
theorem dX8_hold_15 : decode cX8_hold 15 = .ok (.aload_n 1, 1) := by decide +kernel
theorem dX8_hold_16 : decode cX8_hold 16 = .ok (.iload_n 2, 1) := by decide +kernel
theorem dX8_hold_17 : decode cX8_hold 17 = .ok (.iload 4, 2) := by decide +kernel
theorem dX8_hold_19 : decode cX8_hold 19 = .ok (.iadd, 1) := by decide +kernel
theorem dX8_hold_20 : decode cX8_hold 20 = .ok (.caload, 1) := by decide +kernel
theorem dX8_hold_21 : decode cX8_hold 21 = .ok (.invokevirtual 19, 3) := by decide +kernel
theorem dX8_hold_24 : decode cX8_hold 24 = .ok (.iinc 4 1, 3) := by decide +kernel
theorem dX8_hold_27 : decode cX8_hold 27 = .ok (.goto (-19), 3) := by decide +kernel
theorem dX8_hold_30 : decode cX8_hold 30 = .ok (.return_, 1) := by decide +kernel
theorem dX8_hasEndSign_0 : decode cX8_hasEndSign 0 = .ok (.iconst 0, 1) := by decide +kernel
theorem dX8_hasEndSign_1 : decode cX8_hasEndSign 1 = .ok (.istore_n 1, 1) := by decide +kernel
theorem dX8_hasEndSign_2 : decode cX8_hasEndSign 2 = .ok (.iload_n 1, 1) := by decide +kernel
theorem dX8_hasEndSign_3 : decode cX8_hasEndSign 3 = .ok (.aload_n 0, 1) := by decide +kernel
theorem dX8_hasEndSign_4 : decode cX8_hasEndSign 4 = .ok (.getfield 15, 3) := by decide +kernel
theorem dX8_hasEndSign_7 : decode cX8_hasEndSign 7 = .ok (.if_icmp .ge 22, 3) := by decide +kernel
theorem dX8_hasEndSign_10 : decode cX8_hasEndSign 10 = .ok (.aload_n 0, 1) := by decide +kernel
theorem dX8_hasEndSign_11 : decode cX8_hasEndSign 11 = .ok (.getfield 9, 3) := by decide +kernel
theorem dX8_hasEndSign_14 : decode cX8_hasEndSign 14 = .ok (.iload_n 1, 1) := by decide +kernel
theorem dX8_hasEndSign_15 : decode cX8_hasEndSign 15 = .ok (.caload, 1) := by decide +kernel
theorem dX8_hasEndSign_16 : decode cX8_hasEndSign 16 = .ok (.bipush 36, 2) := by decide +kernel
theorem dX8_hasEndSign_18 : decode cX8_hasEndSign 18 = .ok (.if_icmp .ne 5, 3) := by decide +kernel
theorem dX8_hasEndSign_21 : decode cX8_hasEndSign 21 = .ok (.iconst 1, 1) := by decide +kernel
theorem dX8_hasEndSign_22 : decode cX8_hasEndSign 22 = .ok (.ireturn, 1) := by decide +kernel
theorem dX8_hasEndSign_23 : decode cX8_hasEndSign 23 = .ok (.iinc 1 1, 3) := by decide +kernel
theorem dX8_hasEndSign_26 : decode cX8_hasEndSign 26 = .ok (.goto (-24), 3) := by decide +kernel
theorem dX8_hasEndSign_29 : decode cX8_hasEndSign 29 = .ok (.iconst 0, 1) := by decide +kernel
theorem dX8_hasEndSign_30 : decode cX8_hasEndSign 30 = .ok (.ireturn, 1) := by decide +kernel
theorem dX9_init_0 : decode cX9_init 0 = .ok (.aload_n 0, 1) := by decide +kernel
theorem dX9_init_1 : decode cX9_init 1 = .ok (.invokespecial 3, 3) := by decide +kernel
theorem dX9_init_4 : decode cX9_init 4 = .ok (.aload_n 0, 1) := by decide +kernel
theorem dX9_init_5 : decode cX9_init 5 = .ok (.sipush 2081, 3) := by decide +kernel
theorem dX9_init_8 : decode cX9_init 8 = .ok (.newarray .char, 2) := by decide +kernel
theorem dX9_init_10 : decode cX9_init 10 = .ok (.putfield 11, 3) := by decide +kernel
theorem dX9_init_13 : decode cX9_init 13 = .ok (.aload_n 0, 1) := by decide +kernel
theorem dX9_init_14 : decode cX9_init 14 = .ok (.sipush 2081, 3) := by decide +kernel
theorem dX9_init_17 : decode cX9_init 17 = .ok (.newarray .int, 2) := by decide +kernel
theorem dX9_init_19 : decode cX9_init 19 = .ok (.putfield 15, 3) := by decide +kernel
theorem dX9_init_22 : decode cX9_init 22 = .ok (.aload_n 0, 1) := by decide +kernel
theorem dX9_init_23 : decode cX9_init 23 = .ok (.sipush 2081, 3) := by decide +kernel
theorem dX9_init_26 : decode cX9_init 26 = .ok (.newarray .int, 2) := by decide +kernel
theorem dX9_init_28 : decode cX9_init 28 = .ok (.putfield 19, 3) := by decide +kernel
theorem dX9_init_31 : decode cX9_init 31 = .ok (.return_, 1) := by decide +kernel
theorem dX9_agreesWith_0 : decode cX9_agreesWith 0 = .ok (.aload_n 0, 1) := by decide +kernel
theorem dX9_agreesWith_1 : decode cX9_agreesWith 1 = .ok (.aload_n 1, 1) := by decide +kernel
theorem dX9_agreesWith_2 : decode cX9_agreesWith 2 = .ok (.invokevirtual 22, 3) := by decide +kernel
theorem dX9_agreesWith_5 : decode cX9_agreesWith 5 = .ok (.aload_n 0, 1) := by decide +kernel
theorem dX9_agreesWith_6 : decode cX9_agreesWith 6 = .ok (.getfield 26, 3) := by decide +kernel
theorem dX9_agreesWith_9 : decode cX9_agreesWith 9 = .ok (.iconst 1, 1) := by decide +kernel
theorem dX9_agreesWith_10 : decode cX9_agreesWith 10 = .ok (.isub, 1) := by decide +kernel
theorem dX9_agreesWith_11 : decode cX9_agreesWith 11 = .ok (.aload_n 1, 1) := by decide +kernel
theorem dX9_agreesWith_12 : decode cX9_agreesWith 12 = .ok (.aload_n 1, 1) := by decide +kernel
theorem dX9_agreesWith_13 : decode cX9_agreesWith 13 = .ok (.getfield 30, 3) := by decide +kernel
theorem dX9_agreesWith_16 : decode cX9_agreesWith 16 = .ok (.invokevirtual 33, 3) := by decide +kernel
theorem dX9_agreesWith_19 : decode cX9_agreesWith 19 = .ok (.if_icmp .ne 18, 3) := by decide +kernel
theorem dX9_agreesWith_22 : decode cX9_agreesWith 22 = .ok (.aload_n 0, 1) := by decide +kernel
theorem dX9_agreesWith_23 : decode cX9_agreesWith 23 = .ok (.getfield 37, 3) := by decide +kernel
theorem dX9_agreesWith_26 : decode cX9_agreesWith 26 = .ok (.aload_n 1, 1) := by decide +kernel
theorem dX9_agreesWith_27 : decode cX9_agreesWith 27 = .ok (.invokevirtual 40, 3) := by decide +kernel
theorem dX9_agreesWith_30 : decode cX9_agreesWith 30 = .ok (.if_icmp .ne 7, 3) := by decide +kernel
theorem dX9_agreesWith_33 : decode cX9_agreesWith 33 = .ok (.iconst 1, 1) := by decide +kernel
theorem dX9_agreesWith_34 : decode cX9_agreesWith 34 = .ok (.goto 4, 3) := by decide +kernel
theorem dX9_agreesWith_37 : decode cX9_agreesWith 37 = .ok (.iconst 0, 1) := by decide +kernel
theorem dX9_agreesWith_38 : decode cX9_agreesWith 38 = .ok (.ireturn, 1) := by decide +kernel
theorem dX9_listWords_0 : decode cX9_listWords 0 = .ok (.aload_n 0, 1) := by decide +kernel
theorem dX9_listWords_1 : decode cX9_listWords 1 = .ok (.iconst 1, 1) := by decide +kernel
theorem dX9_listWords_2 : decode cX9_listWords 2 = .ok (.putfield 26, 3) := by decide +kernel
theorem dX9_listWords_5 : decode cX9_listWords 5 = .ok (.aload_n 0, 1) := by decide +kernel
theorem dX9_listWords_6 : decode cX9_listWords 6 = .ok (.getfield 15, 3) := by decide +kernel
theorem dX9_listWords_9 : decode cX9_listWords 9 = .ok (.iconst 0, 1) := by decide +kernel
theorem dX9_listWords_10 : decode cX9_listWords 10 = .ok (.iconst 0, 1) := by decide +kernel
theorem dX9_listWords_11 : decode cX9_listWords 11 = .ok (.iastore, 1) := by decide +kernel
theorem dX9_listWords_12 : decode cX9_listWords 12 = .ok (.aload_n 0, 1) := by decide +kernel
theorem dX9_listWords_13 : decode cX9_listWords 13 = .ok (.iconst 0, 1) := by decide +kernel
theorem dX9_listWords_14 : decode cX9_listWords 14 = .ok (.putfield 37, 3) := by decide +kernel
theorem dX9_listWords_17 : decode cX9_listWords 17 = .ok (.iconst 0, 1) := by decide +kernel
theorem dX9_listWords_18 : decode cX9_listWords 18 = .ok (.istore_n 2, 1) := by decide +kernel
theorem dX9_listWords_19 : decode cX9_listWords 19 = .ok (.iload_n 2, 1) := by decide +kernel
theorem dX9_listWords_20 : decode cX9_listWords 20 = .ok (.aload_n 1, 1) := by decide +kernel
theorem dX9_listWords_21 : decode cX9_listWords 21 = .ok (.getfield 30, 3) := by decide +kernel
theorem dX9_listWords_24 : decode cX9_listWords 24 = .ok (.if_icmp .ge 85, 3) := by decide +kernel
theorem dX9_listWords_27 : decode cX9_listWords 27 = .ok (.iconst 0, 1) := by decide +kernel
theorem dX9_listWords_28 : decode cX9_listWords 28 = .ok (.istore_n 3, 1) := by decide +kernel
theorem dX9_listWords_29 : decode cX9_listWords 29 = .ok (.iload_n 2, 1) := by decide +kernel
theorem dX9_listWords_30 : decode cX9_listWords 30 = .ok (.istore 4, 2) := by decide +kernel
theorem dX9_listWords_32 : decode cX9_listWords 32 = .ok (.iload 4, 2) := by decide +kernel
theorem dX9_listWords_34 : decode cX9_listWords 34 = .ok (.aload_n 1, 1) := by decide +kernel
theorem dX9_listWords_35 : decode cX9_listWords 35 = .ok (.getfield 30, 3) := by decide +kernel
theorem dX9_listWords_38 : decode cX9_listWords 38 = .ok (.if_icmp .ge 65, 3) := by decide +kernel
theorem dX9_listWords_41 : decode cX9_listWords 41 = .ok (.aload_n 0, 1) := by decide +kernel
theorem dX9_listWords_42 : decode cX9_listWords 42 = .ok (.iload_n 3, 1) := by decide +kernel
theorem dX9_listWords_43 : decode cX9_listWords 43 = .ok (.aload_n 1, 1) := by decide +kernel
theorem dX9_listWords_44 : decode cX9_listWords 44 = .ok (.getfield 44, 3) := by decide +kernel
theorem dX9_listWords_47 : decode cX9_listWords 47 = .ok (.iload 4, 2) := by decide +kernel
theorem dX9_listWords_49 : decode cX9_listWords 49 = .ok (.caload, 1) := by decide +kernel
theorem dX9_listWords_50 : decode cX9_listWords 50 = .ok (.invokevirtual 45, 3) := by decide +kernel
theorem dX9_listWords_53 : decode cX9_listWords 53 = .ok (.istore 5, 2) := by decide +kernel
theorem dX9_listWords_55 : decode cX9_listWords 55 = .ok (.iload 5, 2) := by decide +kernel
theorem dX9_listWords_57 : decode cX9_listWords 57 = .ok (.ifCond .ne 20, 3) := by decide +kernel
theorem dX9_listWords_60 : decode cX9_listWords 60 = .ok (.aload_n 0, 1) := by decide +kernel
theorem dX9_listWords_61 : decode cX9_listWords 61 = .ok (.iload_n 3, 1) := by decide +kernel
theorem dX9_listWords_62 : decode cX9_listWords 62 = .ok (.aload_n 1, 1) := by decide +kernel
theorem dX9_listWords_63 : decode cX9_listWords 63 = .ok (.getfield 44, 3) := by decide +kernel
theorem dX9_listWords_66 : decode cX9_listWords 66 = .ok (.iload 4, 2) := by decide +kernel
theorem dX9_listWords_68 : decode cX9_listWords 68 = .ok (.caload, 1) := by decide +kernel
theorem dX9_listWords_69 : decode cX9_listWords 69 = .ok (.invokevirtual 49, 3) := by decide +kernel
theorem dX9_listWords_72 : decode cX9_listWords 72 = .ok (.istore 5, 2) := by decide +kernel
theorem dX9_listWords_74 : decode cX9_listWords 74 = .ok (.goto 20, 3) := by decide +kernel
theorem dX9_listWords_77 : decode cX9_listWords 77 = .ok (.aload_n 0, 1) := by decide +kernel
theorem dX9_listWords_78 : decode cX9_listWords 78 = .ok (.aload_n 0, 1) := by decide +kernel
theorem dX9_listWords_79 : decode cX9_listWords 79 = .ok (.getfield 37, 3) := by decide +kernel
theorem dX9_listWords_82 : decode cX9_listWords 82 = .ok (.iload 4, 2) := by decide +kernel
theorem dX9_listWords_84 : decode cX9_listWords 84 = .ok (.iload_n 2, 1) := by decide +kernel
theorem dX9_listWords_85 : decode cX9_listWords 85 = .ok (.isub, 1) := by decide +kernel
theorem dX9_listWords_86 : decode cX9_listWords 86 = .ok (.iconst 1, 1) := by decide +kernel
theorem dX9_listWords_87 : decode cX9_listWords 87 = .ok (.iadd, 1) := by decide +kernel
theorem dX9_listWords_88 : decode cX9_listWords 88 = .ok (.invokestatic 52, 3) := by decide +kernel
theorem dX9_listWords_91 : decode cX9_listWords 91 = .ok (.putfield 37, 3) := by decide +kernel
theorem dX9_listWords_94 : decode cX9_listWords 94 = .ok (.iload 5, 2) := by decide +kernel
theorem dX9_listWords_96 : decode cX9_listWords 96 = .ok (.istore_n 3, 1) := by decide +kernel
theorem dX9_listWords_97 : decode cX9_listWords 97 = .ok (.iinc 4 1, 3) := by decide +kernel
theorem dX9_listWords_100 : decode cX9_listWords 100 = .ok (.goto (-68), 3) := by decide +kernel
theorem dX9_listWords_103 : decode cX9_listWords 103 = .ok (.iinc 2 1, 3) := by decide +kernel
theorem dX9_listWords_106 : decode cX9_listWords 106 = .ok (.goto (-87), 3) := by decide +kernel
theorem dX9_listWords_109 : decode cX9_listWords 109 = .ok (.return_, 1) := by decide +kernel
theorem dX9_nodeBelow_0 : decode cX9_nodeBelow 0 = .ok (.aload_n 0, 1) := by decide +kernel
theorem dX9_nodeBelow_1 : decode cX9_nodeBelow 1 = .ok (.getfield 15, 3) := by decide +kernel
theorem dX9_nodeBelow_4 : decode cX9_nodeBelow 4 = .ok (.iload_n 1, 1) := by decide +kernel
theorem dX9_nodeBelow_5 : decode cX9_nodeBelow 5 = .ok (.iaload, 1) := by decide +kernel
theorem dX9_nodeBelow_6 : decode cX9_nodeBelow 6 = .ok (.istore_n 3, 1) := by decide +kernel
theorem dX9_nodeBelow_7 : decode cX9_nodeBelow 7 = .ok (.iconst 0, 1) := by decide +kernel
theorem dX9_nodeBelow_8 : decode cX9_nodeBelow 8 = .ok (.istore 4, 2) := by decide +kernel
theorem dX9_nodeBelow_10 : decode cX9_nodeBelow 10 = .ok (.iload 4, 2) := by decide +kernel
theorem dX9_nodeBelow_12 : decode cX9_nodeBelow 12 = .ok (.bipush 27, 2) := by decide +kernel
theorem dX9_nodeBelow_14 : decode cX9_nodeBelow 14 = .ok (.if_icmp .ge 32, 3) := by decide +kernel
theorem dX9_nodeBelow_17 : decode cX9_nodeBelow 17 = .ok (.iload_n 3, 1) := by decide +kernel
theorem dX9_nodeBelow_18 : decode cX9_nodeBelow 18 = .ok (.ifCond .eq 28, 3) := by decide +kernel
theorem dX9_nodeBelow_21 : decode cX9_nodeBelow 21 = .ok (.aload_n 0, 1) := by decide +kernel
theorem dX9_nodeBelow_22 : decode cX9_nodeBelow 22 = .ok (.getfield 11, 3) := by decide +kernel
theorem dX9_nodeBelow_25 : decode cX9_nodeBelow 25 = .ok (.iload_n 3, 1) := by decide +kernel
theorem dX9_nodeBelow_26 : decode cX9_nodeBelow 26 = .ok (.caload, 1) := by decide +kernel
theorem dX9_nodeBelow_27 : decode cX9_nodeBelow 27 = .ok (.iload_n 2, 1) := by decide +kernel
theorem dX9_nodeBelow_28 : decode cX9_nodeBelow 28 = .ok (.if_icmp .ne 5, 3) := by decide +kernel
theorem dX9_nodeBelow_31 : decode cX9_nodeBelow 31 = .ok (.iload_n 3, 1) := by decide +kernel
theorem dX9_nodeBelow_32 : decode cX9_nodeBelow 32 = .ok (.ireturn, 1) := by decide +kernel
theorem dX9_nodeBelow_33 : decode cX9_nodeBelow 33 = .ok (.aload_n 0, 1) := by decide +kernel
theorem dX9_nodeBelow_34 : decode cX9_nodeBelow 34 = .ok (.getfield 19, 3) := by decide +kernel
theorem dX9_nodeBelow_37 : decode cX9_nodeBelow 37 = .ok (.iload_n 3, 1) := by decide +kernel
theorem dX9_nodeBelow_38 : decode cX9_nodeBelow 38 = .ok (.iaload, 1) := by decide +kernel
theorem dX9_nodeBelow_39 : decode cX9_nodeBelow 39 = .ok (.istore_n 3, 1) := by decide +kernel
theorem dX9_nodeBelow_40 : decode cX9_nodeBelow 40 = .ok (.iinc 4 1, 3) := by decide +kernel
theorem dX9_nodeBelow_43 : decode cX9_nodeBelow 43 = .ok (.goto (-33), 3) := by decide +kernel
theorem dX9_nodeBelow_46 : decode cX9_nodeBelow 46 = .ok (.iconst 0, 1) := by decide +kernel
theorem dX9_nodeBelow_47 : decode cX9_nodeBelow 47 = .ok (.ireturn, 1) := by decide +kernel
theorem dX9_addBelow_0 : decode cX9_addBelow 0 = .ok (.aload_n 0, 1) := by decide +kernel
theorem dX9_addBelow_1 : decode cX9_addBelow 1 = .ok (.getfield 26, 3) := by decide +kernel
theorem dX9_addBelow_4 : decode cX9_addBelow 4 = .ok (.aload_n 0, 1) := by decide +kernel
theorem dX9_addBelow_5 : decode cX9_addBelow 5 = .ok (.getfield 11, 3) := by decide +kernel
theorem dX9_addBelow_8 : decode cX9_addBelow 8 = .ok (.arraylength, 1) := by decide +kernel
theorem dX9_addBelow_9 : decode cX9_addBelow 9 = .ok (.if_icmp .lt 5, 3) := by decide +kernel
theorem dX9_addBelow_12 : decode cX9_addBelow 12 = .ok (.iconst 0, 1) := by decide +kernel
theorem dX9_addBelow_13 : decode cX9_addBelow 13 = .ok (.ireturn, 1) := by decide +kernel
theorem dX9_addBelow_14 : decode cX9_addBelow 14 = .ok (.aload_n 0, 1) := by decide +kernel
theorem dX9_addBelow_15 : decode cX9_addBelow 15 = .ok (.getfield 26, 3) := by decide +kernel
theorem dX9_addBelow_18 : decode cX9_addBelow 18 = .ok (.istore_n 3, 1) := by decide +kernel
theorem dX9_addBelow_19 : decode cX9_addBelow 19 = .ok (.aload_n 0, 1) := by decide +kernel
theorem dX9_addBelow_20 : decode cX9_addBelow 20 = .ok (.getfield 11, 3) := by decide +kernel
theorem dX9_addBelow_23 : decode cX9_addBelow 23 = .ok (.iload_n 3, 1) := by decide +kernel
theorem dX9_addBelow_24 : decode cX9_addBelow 24 = .ok (.iload_n 2, 1) := by decide +kernel
theorem dX9_addBelow_25 : decode cX9_addBelow 25 = .ok (.castore, 1) := by decide +kernel
theorem dX9_addBelow_26 : decode cX9_addBelow 26 = .ok (.aload_n 0, 1) := by decide +kernel
theorem dX9_addBelow_27 : decode cX9_addBelow 27 = .ok (.getfield 15, 3) := by decide +kernel
theorem dX9_addBelow_30 : decode cX9_addBelow 30 = .ok (.iload_n 3, 1) := by decide +kernel
theorem dX9_addBelow_31 : decode cX9_addBelow 31 = .ok (.iconst 0, 1) := by decide +kernel
theorem dX9_addBelow_32 : decode cX9_addBelow 32 = .ok (.iastore, 1) := by decide +kernel
theorem dX9_addBelow_33 : decode cX9_addBelow 33 = .ok (.aload_n 0, 1) := by decide +kernel
theorem dX9_addBelow_34 : decode cX9_addBelow 34 = .ok (.getfield 19, 3) := by decide +kernel
theorem dX9_addBelow_37 : decode cX9_addBelow 37 = .ok (.iload_n 3, 1) := by decide +kernel
theorem dX9_addBelow_38 : decode cX9_addBelow 38 = .ok (.aload_n 0, 1) := by decide +kernel
theorem dX9_addBelow_39 : decode cX9_addBelow 39 = .ok (.getfield 15, 3) := by decide +kernel
theorem dX9_addBelow_42 : decode cX9_addBelow 42 = .ok (.iload_n 1, 1) := by decide +kernel
theorem dX9_addBelow_43 : decode cX9_addBelow 43 = .ok (.iaload, 1) := by decide +kernel
theorem dX9_addBelow_44 : decode cX9_addBelow 44 = .ok (.iastore, 1) := by decide +kernel
theorem dX9_addBelow_45 : decode cX9_addBelow 45 = .ok (.aload_n 0, 1) := by decide +kernel
theorem dX9_addBelow_46 : decode cX9_addBelow 46 = .ok (.getfield 15, 3) := by decide +kernel
theorem dX9_addBelow_49 : decode cX9_addBelow 49 = .ok (.iload_n 1, 1) := by decide +kernel
theorem dX9_addBelow_50 : decode cX9_addBelow 50 = .ok (.iload_n 3, 1) := by decide +kernel
theorem dX9_addBelow_51 : decode cX9_addBelow 51 = .ok (.iastore, 1) := by decide +kernel
theorem dX9_addBelow_52 : decode cX9_addBelow 52 = .ok (.aload_n 0, 1) := by decide +kernel
theorem dX9_addBelow_53 : decode cX9_addBelow 53 = .ok (.dup, 1) := by decide +kernel
theorem dX9_addBelow_54 : decode cX9_addBelow 54 = .ok (.getfield 26, 3) := by decide +kernel
theorem dX9_addBelow_57 : decode cX9_addBelow 57 = .ok (.iconst 1, 1) := by decide +kernel
theorem dX9_addBelow_58 : decode cX9_addBelow 58 = .ok (.iadd, 1) := by decide +kernel
theorem dX9_addBelow_59 : decode cX9_addBelow 59 = .ok (.putfield 26, 3) := by decide +kernel
theorem dX9_addBelow_62 : decode cX9_addBelow 62 = .ok (.iload_n 3, 1) := by decide +kernel
theorem dX9_addBelow_63 : decode cX9_addBelow 63 = .ok (.ireturn, 1) := by decide +kernel
theorem dX10_init_0 : decode cX10_init 0 = .ok (.aload_n 0, 1) := by decide +kernel
theorem dX10_init_1 : decode cX10_init 1 = .ok (.invokespecial 1, 3) := by decide +kernel
theorem dX10_init_4 : decode cX10_init 4 = .ok (.aload_n 0, 1) := by decide +kernel
theorem dX10_init_5 : decode cX10_init 5 = .ok (.bipush 8, 2) := by decide +kernel
theorem dX10_init_7 : decode cX10_init 7 = .ok (.anewarray 9, 3) := by decide +kernel
theorem dX10_init_10 : decode cX10_init 10 = .ok (.putfield 11, 3) := by decide +kernel
theorem dX10_init_13 : decode cX10_init 13 = .ok (.aload_n 0, 1) := by decide +kernel
theorem dX10_init_14 : decode cX10_init 14 = .ok (.new 15, 3) := by decide +kernel
theorem dX10_init_17 : decode cX10_init 17 = .ok (.dup, 1) := by decide +kernel
theorem dX10_init_18 : decode cX10_init 18 = .ok (.invokespecial 17, 3) := by decide +kernel
theorem dX10_init_21 : decode cX10_init 21 = .ok (.putfield 18, 3) := by decide +kernel
theorem dX10_init_24 : decode cX10_init 24 = .ok (.aload_n 0, 1) := by decide +kernel
theorem dX10_init_25 : decode cX10_init 25 = .ok (.bipush 8, 2) := by decide +kernel
theorem dX10_init_27 : decode cX10_init 27 = .ok (.newarray .char, 2) := by decide +kernel
theorem dX10_init_29 : decode cX10_init 29 = .ok (.putfield 22, 3) := by decide +kernel
theorem dX10_init_32 : decode cX10_init 32 = .ok (.aload_n 0, 1) := by decide +kernel
theorem dX10_init_33 : decode cX10_init 33 = .ok (.new 26, 3) := by decide +kernel
theorem dX10_init_36 : decode cX10_init 36 = .ok (.dup, 1) := by decide +kernel
theorem dX10_init_37 : decode cX10_init 37 = .ok (.invokespecial 28, 3) := by decide +kernel
theorem dX10_init_40 : decode cX10_init 40 = .ok (.putfield 29, 3) := by decide +kernel
theorem dX10_init_43 : decode cX10_init 43 = .ok (.aload_n 0, 1) := by decide +kernel
theorem dX10_init_44 : decode cX10_init 44 = .ok (.new 33, 3) := by decide +kernel
theorem dX10_init_47 : decode cX10_init 47 = .ok (.dup, 1) := by decide +kernel
theorem dX10_init_48 : decode cX10_init 48 = .ok (.invokespecial 35, 3) := by decide +kernel
theorem dX10_init_51 : decode cX10_init 51 = .ok (.putfield 36, 3) := by decide +kernel
theorem dX10_init_54 : decode cX10_init 54 = .ok (.aload_n 0, 1) := by decide +kernel
theorem dX10_init_55 : decode cX10_init 55 = .ok (.new 40, 3) := by decide +kernel
theorem dX10_init_58 : decode cX10_init 58 = .ok (.dup, 1) := by decide +kernel
theorem dX10_init_59 : decode cX10_init 59 = .ok (.invokespecial 42, 3) := by decide +kernel
theorem dX10_init_62 : decode cX10_init 62 = .ok (.putfield 43, 3) := by decide +kernel
theorem dX10_init_65 : decode cX10_init 65 = .ok (.aload_n 0, 1) := by decide +kernel
theorem dX10_init_66 : decode cX10_init 66 = .ok (.new 47, 3) := by decide +kernel
theorem dX10_init_69 : decode cX10_init 69 = .ok (.dup, 1) := by decide +kernel
theorem dX10_init_70 : decode cX10_init 70 = .ok (.invokespecial 49, 3) := by decide +kernel
theorem dX10_init_73 : decode cX10_init 73 = .ok (.putfield 50, 3) := by decide +kernel
theorem dX10_init_76 : decode cX10_init 76 = .ok (.aload_n 0, 1) := by decide +kernel
theorem dX10_init_77 : decode cX10_init 77 = .ok (.new 54, 3) := by decide +kernel
theorem dX10_init_80 : decode cX10_init 80 = .ok (.dup, 1) := by decide +kernel
theorem dX10_init_81 : decode cX10_init 81 = .ok (.invokespecial 56, 3) := by decide +kernel
theorem dX10_init_84 : decode cX10_init 84 = .ok (.putfield 57, 3) := by decide +kernel
theorem dX10_init_87 : decode cX10_init 87 = .ok (.aload_n 0, 1) := by decide +kernel
theorem dX10_init_88 : decode cX10_init 88 = .ok (.new 61, 3) := by decide +kernel
theorem dX10_init_91 : decode cX10_init 91 = .ok (.dup, 1) := by decide +kernel
theorem dX10_init_92 : decode cX10_init 92 = .ok (.invokespecial 63, 3) := by decide +kernel
theorem dX10_init_95 : decode cX10_init 95 = .ok (.putfield 64, 3) := by decide +kernel
theorem dX10_init_98 : decode cX10_init 98 = .ok (.iconst 0, 1) := by decide +kernel
theorem dX10_init_99 : decode cX10_init 99 = .ok (.istore_n 1, 1) := by decide +kernel
theorem dX10_init_100 : decode cX10_init 100 = .ok (.iload_n 1, 1) := by decide +kernel
