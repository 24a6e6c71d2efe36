theorem dX0_init_0 : decode cX0_init 0 = .ok (.aload_n 0, 1) := by decide +kernel
theorem dX0_init_1 : decode cX0_init 1 = .ok (.invokespecial 1, 3) := by decide +kernel
theorem dX0_init_4 : decode cX0_init 4 = .ok (.return_, 1) := by decide +kernel
theorem dX0_allCuts_0 : decode cX0_allCuts 0 = .ok (.iconst 0, 1) := by decide +kernel
theorem dX0_allCuts_1 : decode cX0_allCuts 1 = .ok (.istore_n 2, 1) := by decide +kernel
theorem dX0_allCuts_2 : decode cX0_allCuts 2 = .ok (.iconst 0, 1) := by decide +kernel
theorem dX0_allCuts_3 : decode cX0_allCuts 3 = .ok (.istore_n 3, 1) := by decide +kernel
theorem dX0_allCuts_4 : decode cX0_allCuts 4 = .ok (.iconst 0, 1) := by decide +kernel
theorem dX0_allCuts_5 : decode cX0_allCuts 5 = .ok (.istore 4, 2) := by decide +kernel
theorem dX0_allCuts_7 : decode cX0_allCuts 7 = .ok (.iload 4, 2) := by decide +kernel
theorem dX0_allCuts_9 : decode cX0_allCuts 9 = .ok (.aload_n 1, 1) := by decide +kernel
theorem dX0_allCuts_10 : decode cX0_allCuts 10 = .ok (.getfield 7, 3) := by decide +kernel
theorem dX0_allCuts_13 : decode cX0_allCuts 13 = .ok (.if_icmp .ge 28, 3) := by decide +kernel
theorem dX0_allCuts_16 : decode cX0_allCuts 16 = .ok (.iload 4, 2) := by decide +kernel
theorem dX0_allCuts_18 : decode cX0_allCuts 18 = .ok (.iload_n 3, 1) := by decide +kernel
theorem dX0_allCuts_19 : decode cX0_allCuts 19 = .ok (.if_icmp .ne 16, 3) := by decide +kernel
theorem dX0_allCuts_22 : decode cX0_allCuts 22 = .ok (.iinc 2 1, 3) := by decide +kernel
theorem dX0_allCuts_25 : decode cX0_allCuts 25 = .ok (.iload_n 3, 1) := by decide +kernel
theorem dX0_allCuts_26 : decode cX0_allCuts 26 = .ok (.aload_n 0, 1) := by decide +kernel
theorem dX0_allCuts_27 : decode cX0_allCuts 27 = .ok (.aload_n 1, 1) := by decide +kernel
theorem dX0_allCuts_28 : decode cX0_allCuts 28 = .ok (.iload 4, 2) := by decide +kernel
theorem dX0_allCuts_30 : decode cX0_allCuts 30 = .ok (.invokevirtual 13, 3) := by decide +kernel
theorem dX0_allCuts_33 : decode cX0_allCuts 33 = .ok (.iadd, 1) := by decide +kernel
theorem dX0_allCuts_34 : decode cX0_allCuts 34 = .ok (.istore_n 3, 1) := by decide +kernel
theorem dX0_allCuts_35 : decode cX0_allCuts 35 = .ok (.iinc 4 1, 3) := by decide +kernel
theorem dX0_allCuts_38 : decode cX0_allCuts 38 = .ok (.goto (-31), 3) := by decide +kernel
theorem dX0_allCuts_41 : decode cX0_allCuts 41 = .ok (.iload_n 2, 1) := by decide +kernel
theorem dX0_allCuts_42 : decode cX0_allCuts 42 = .ok (.ireturn, 1) := by decide +kernel
theorem dX0_startOf_0 : decode cX0_startOf 0 = .ok (.iconst 0, 1) := by decide +kernel
theorem dX0_startOf_1 : decode cX0_startOf 1 = .ok (.istore_n 3, 1) := by decide +kernel
theorem dX0_startOf_2 : decode cX0_startOf 2 = .ok (.iconst 0, 1) := by decide +kernel
theorem dX0_startOf_3 : decode cX0_startOf 3 = .ok (.istore 4, 2) := by decide +kernel
theorem dX0_startOf_5 : decode cX0_startOf 5 = .ok (.iconst 0, 1) := by decide +kernel
theorem dX0_startOf_6 : decode cX0_startOf 6 = .ok (.istore 5, 2) := by decide +kernel
theorem dX0_startOf_8 : decode cX0_startOf 8 = .ok (.iload 5, 2) := by decide +kernel
theorem dX0_startOf_10 : decode cX0_startOf 10 = .ok (.aload_n 1, 1) := by decide +kernel
theorem dX0_startOf_11 : decode cX0_startOf 11 = .ok (.getfield 7, 3) := by decide +kernel
theorem dX0_startOf_14 : decode cX0_startOf 14 = .ok (.if_icmp .ge 39, 3) := by decide +kernel
theorem dX0_startOf_17 : decode cX0_startOf 17 = .ok (.iload 5, 2) := by decide +kernel
theorem dX0_startOf_19 : decode cX0_startOf 19 = .ok (.iload 4, 2) := by decide +kernel
theorem dX0_startOf_21 : decode cX0_startOf 21 = .ok (.if_icmp .ne 26, 3) := by decide +kernel
theorem dX0_startOf_24 : decode cX0_startOf 24 = .ok (.iload_n 3, 1) := by decide +kernel
theorem dX0_startOf_25 : decode cX0_startOf 25 = .ok (.iload_n 2, 1) := by decide +kernel
theorem dX0_startOf_26 : decode cX0_startOf 26 = .ok (.if_icmp .ne 6, 3) := by decide +kernel
theorem dX0_startOf_29 : decode cX0_startOf 29 = .ok (.iload 5, 2) := by decide +kernel
theorem dX0_startOf_31 : decode cX0_startOf 31 = .ok (.ireturn, 1) := by decide +kernel
theorem dX0_startOf_32 : decode cX0_startOf 32 = .ok (.iinc 3 1, 3) := by decide +kernel
theorem dX0_startOf_35 : decode cX0_startOf 35 = .ok (.iload 4, 2) := by decide +kernel
theorem dX0_startOf_37 : decode cX0_startOf 37 = .ok (.aload_n 0, 1) := by decide +kernel
theorem dX0_startOf_38 : decode cX0_startOf 38 = .ok (.aload_n 1, 1) := by decide +kernel
theorem dX0_startOf_39 : decode cX0_startOf 39 = .ok (.iload 5, 2) := by decide +kernel
theorem dX0_startOf_41 : decode cX0_startOf 41 = .ok (.invokevirtual 13, 3) := by decide +kernel
theorem dX0_startOf_44 : decode cX0_startOf 44 = .ok (.iadd, 1) := by decide +kernel
theorem dX0_startOf_45 : decode cX0_startOf 45 = .ok (.istore 4, 2) := by decide +kernel
theorem dX0_startOf_47 : decode cX0_startOf 47 = .ok (.iinc 5 1, 3) := by decide +kernel
theorem dX0_startOf_50 : decode cX0_startOf 50 = .ok (.goto (-42), 3) := by decide +kernel
theorem dX0_startOf_53 : decode cX0_startOf 53 = .ok (.aload_n 1, 1) := by decide +kernel
theorem dX0_startOf_54 : decode cX0_startOf 54 = .ok (.getfield 7, 3) := by decide +kernel
theorem dX0_startOf_57 : decode cX0_startOf 57 = .ok (.ireturn, 1) := by decide +kernel
theorem dX1_init_0 : decode cX1_init 0 = .ok (.aload_n 0, 1) := by decide +kernel
theorem dX1_init_1 : decode cX1_init 1 = .ok (.invokespecial 3, 3) := by decide +kernel
theorem dX1_init_4 : decode cX1_init 4 = .ok (.aload_n 0, 1) := by decide +kernel
theorem dX1_init_5 : decode cX1_init 5 = .ok (.bipush 65, 2) := by decide +kernel
theorem dX1_init_7 : decode cX1_init 7 = .ok (.newarray .int, 2) := by decide +kernel
theorem dX1_init_9 : decode cX1_init 9 = .ok (.putfield 9, 3) := by decide +kernel
theorem dX1_init_12 : decode cX1_init 12 = .ok (.aload_n 0, 1) := by decide +kernel
theorem dX1_init_13 : decode cX1_init 13 = .ok (.bipush 64, 2) := by decide +kernel
theorem dX1_init_15 : decode cX1_init 15 = .ok (.newarray .int, 2) := by decide +kernel
theorem dX1_init_17 : decode cX1_init 17 = .ok (.putfield 15, 3) := by decide +kernel
theorem dX1_init_20 : decode cX1_init 20 = .ok (.aload_n 0, 1) := by decide +kernel
theorem dX1_init_21 : decode cX1_init 21 = .ok (.bipush 64, 2) := by decide +kernel
theorem dX1_init_23 : decode cX1_init 23 = .ok (.newarray .int, 2) := by decide +kernel
theorem dX1_init_25 : decode cX1_init 25 = .ok (.putfield 18, 3) := by decide +kernel
theorem dX1_init_28 : decode cX1_init 28 = .ok (.return_, 1) := by decide +kernel
theorem dX1_sortEnds_0 : decode cX1_sortEnds 0 = .ok (.iconst 0, 1) := by decide +kernel
theorem dX1_sortEnds_1 : decode cX1_sortEnds 1 = .ok (.istore_n 2, 1) := by decide +kernel
theorem dX1_sortEnds_2 : decode cX1_sortEnds 2 = .ok (.iload_n 2, 1) := by decide +kernel
theorem dX1_sortEnds_3 : decode cX1_sortEnds 3 = .ok (.aload_n 1, 1) := by decide +kernel
theorem dX1_sortEnds_4 : decode cX1_sortEnds 4 = .ok (.getfield 21, 3) := by decide +kernel
theorem dX1_sortEnds_7 : decode cX1_sortEnds 7 = .ok (.if_icmp .ge 31, 3) := by decide +kernel
theorem dX1_sortEnds_10 : decode cX1_sortEnds 10 = .ok (.aload_n 1, 1) := by decide +kernel
theorem dX1_sortEnds_11 : decode cX1_sortEnds 11 = .ok (.getfield 27, 3) := by decide +kernel
theorem dX1_sortEnds_14 : decode cX1_sortEnds 14 = .ok (.iload_n 2, 1) := by decide +kernel
theorem dX1_sortEnds_15 : decode cX1_sortEnds 15 = .ok (.aload_n 1, 1) := by decide +kernel
theorem dX1_sortEnds_16 : decode cX1_sortEnds 16 = .ok (.getfield 30, 3) := by decide +kernel
theorem dX1_sortEnds_19 : decode cX1_sortEnds 19 = .ok (.iload_n 2, 1) := by decide +kernel
theorem dX1_sortEnds_20 : decode cX1_sortEnds 20 = .ok (.caload, 1) := by decide +kernel
theorem dX1_sortEnds_21 : decode cX1_sortEnds 21 = .ok (.bipush 97, 2) := by decide +kernel
theorem dX1_sortEnds_23 : decode cX1_sortEnds 23 = .ok (.isub, 1) := by decide +kernel
theorem dX1_sortEnds_24 : decode cX1_sortEnds 24 = .ok (.iastore, 1) := by decide +kernel
theorem dX1_sortEnds_25 : decode cX1_sortEnds 25 = .ok (.aload_n 0, 1) := by decide +kernel
theorem dX1_sortEnds_26 : decode cX1_sortEnds 26 = .ok (.getfield 15, 3) := by decide +kernel
theorem dX1_sortEnds_29 : decode cX1_sortEnds 29 = .ok (.iload_n 2, 1) := by decide +kernel
theorem dX1_sortEnds_30 : decode cX1_sortEnds 30 = .ok (.iload_n 2, 1) := by decide +kernel
theorem dX1_sortEnds_31 : decode cX1_sortEnds 31 = .ok (.iastore, 1) := by decide +kernel
theorem dX1_sortEnds_32 : decode cX1_sortEnds 32 = .ok (.iinc 2 1, 3) := by decide +kernel
theorem dX1_sortEnds_35 : decode cX1_sortEnds 35 = .ok (.goto (-33), 3) := by decide +kernel
theorem dX1_sortEnds_38 : decode cX1_sortEnds 38 = .ok (.aload_n 0, 1) := by decide +kernel
theorem dX1_sortEnds_39 : decode cX1_sortEnds 39 = .ok (.aload_n 1, 1) := by decide +kernel
theorem dX1_sortEnds_40 : decode cX1_sortEnds 40 = .ok (.invokevirtual 34, 3) := by decide +kernel
theorem dX1_sortEnds_43 : decode cX1_sortEnds 43 = .ok (.aload_n 0, 1) := by decide +kernel
theorem dX1_sortEnds_44 : decode cX1_sortEnds 44 = .ok (.aload_n 1, 1) := by decide +kernel
theorem dX1_sortEnds_45 : decode cX1_sortEnds 45 = .ok (.aload_n 1, 1) := by decide +kernel
theorem dX1_sortEnds_46 : decode cX1_sortEnds 46 = .ok (.getfield 21, 3) := by decide +kernel
theorem dX1_sortEnds_49 : decode cX1_sortEnds 49 = .ok (.invokevirtual 38, 3) := by decide +kernel
theorem dX1_sortEnds_52 : decode cX1_sortEnds 52 = .ok (.istore_n 2, 1) := by decide +kernel
theorem dX1_sortEnds_53 : decode cX1_sortEnds 53 = .ok (.iconst 1, 1) := by decide +kernel
theorem dX1_sortEnds_54 : decode cX1_sortEnds 54 = .ok (.istore_n 3, 1) := by decide +kernel
theorem dX1_sortEnds_55 : decode cX1_sortEnds 55 = .ok (.iload_n 3, 1) := by decide +kernel
theorem dX1_sortEnds_56 : decode cX1_sortEnds 56 = .ok (.aload_n 1, 1) := by decide +kernel
theorem dX1_sortEnds_57 : decode cX1_sortEnds 57 = .ok (.getfield 21, 3) := by decide +kernel
theorem dX1_sortEnds_60 : decode cX1_sortEnds 60 = .ok (.if_icmp .ge 36, 3) := by decide +kernel
theorem dX1_sortEnds_63 : decode cX1_sortEnds 63 = .ok (.iload_n 2, 1) := by decide +kernel
theorem dX1_sortEnds_64 : decode cX1_sortEnds 64 = .ok (.aload_n 1, 1) := by decide +kernel
theorem dX1_sortEnds_65 : decode cX1_sortEnds 65 = .ok (.getfield 21, 3) := by decide +kernel
theorem dX1_sortEnds_68 : decode cX1_sortEnds 68 = .ok (.if_icmp .ge 28, 3) := by decide +kernel
theorem dX1_sortEnds_71 : decode cX1_sortEnds 71 = .ok (.aload_n 0, 1) := by decide +kernel
theorem dX1_sortEnds_72 : decode cX1_sortEnds 72 = .ok (.aload_n 1, 1) := by decide +kernel
theorem dX1_sortEnds_73 : decode cX1_sortEnds 73 = .ok (.iload_n 3, 1) := by decide +kernel
theorem dX1_sortEnds_74 : decode cX1_sortEnds 74 = .ok (.invokevirtual 42, 3) := by decide +kernel
theorem dX1_sortEnds_77 : decode cX1_sortEnds 77 = .ok (.aload_n 0, 1) := by decide +kernel
theorem dX1_sortEnds_78 : decode cX1_sortEnds 78 = .ok (.aload_n 1, 1) := by decide +kernel
theorem dX1_sortEnds_79 : decode cX1_sortEnds 79 = .ok (.invokevirtual 34, 3) := by decide +kernel
theorem dX1_sortEnds_82 : decode cX1_sortEnds 82 = .ok (.aload_n 0, 1) := by decide +kernel
theorem dX1_sortEnds_83 : decode cX1_sortEnds 83 = .ok (.aload_n 1, 1) := by decide +kernel
theorem dX1_sortEnds_84 : decode cX1_sortEnds 84 = .ok (.iload_n 3, 1) := by decide +kernel
theorem dX1_sortEnds_85 : decode cX1_sortEnds 85 = .ok (.invokevirtual 38, 3) := by decide +kernel
theorem dX1_sortEnds_88 : decode cX1_sortEnds 88 = .ok (.istore_n 2, 1) := by decide +kernel
theorem dX1_sortEnds_89 : decode cX1_sortEnds 89 = .ok (.iload_n 3, 1) := by decide +kernel
theorem dX1_sortEnds_90 : decode cX1_sortEnds 90 = .ok (.iconst 2, 1) := by decide +kernel
theorem dX1_sortEnds_91 : decode cX1_sortEnds 91 = .ok (.imul, 1) := by decide +kernel
theorem dX1_sortEnds_92 : decode cX1_sortEnds 92 = .ok (.istore_n 3, 1) := by decide +kernel
theorem dX1_sortEnds_93 : decode cX1_sortEnds 93 = .ok (.goto (-38), 3) := by decide +kernel
theorem dX1_sortEnds_96 : decode cX1_sortEnds 96 = .ok (.aload_n 0, 1) := by decide +kernel
theorem dX1_sortEnds_97 : decode cX1_sortEnds 97 = .ok (.aload_n 1, 1) := by decide +kernel
theorem dX1_sortEnds_98 : decode cX1_sortEnds 98 = .ok (.invokevirtual 46, 3) := by decide +kernel
theorem dX1_sortEnds_101 : decode cX1_sortEnds 101 = .ok (.return_, 1) := by decide +kernel
theorem dX1_listBySecondHalf_0 : decode cX1_listBySecondHalf 0 = .ok (.iconst 0, 1) := by decide +kernel
theorem dX1_listBySecondHalf_1 : decode cX1_listBySecondHalf 1 = .ok (.istore_n 3, 1) := by decide +kernel
theorem dX1_listBySecondHalf_2 : decode cX1_listBySecondHalf 2 = .ok (.aload_n 1, 1) := by decide +kernel
theorem dX1_listBySecondHalf_3 : decode cX1_listBySecondHalf 3 = .ok (.getfield 21, 3) := by decide +kernel
theorem dX1_listBySecondHalf_6 : decode cX1_listBySecondHalf 6 = .ok (.iload_n 2, 1) := by decide +kernel
theorem dX1_listBySecondHalf_7 : decode cX1_listBySecondHalf 7 = .ok (.isub, 1) := by decide +kernel
theorem dX1_listBySecondHalf_8 : decode cX1_listBySecondHalf 8 = .ok (.istore 4, 2) := by decide +kernel
theorem dX1_listBySecondHalf_10 : decode cX1_listBySecondHalf 10 = .ok (.iload 4, 2) := by decide +kernel
theorem dX1_listBySecondHalf_12 : decode cX1_listBySecondHalf 12 = .ok (.aload_n 1, 1) := by decide +kernel
theorem dX1_listBySecondHalf_13 : decode cX1_listBySecondHalf 13 = .ok (.getfield 21, 3) := by decide +kernel
theorem dX1_listBySecondHalf_16 : decode cX1_listBySecondHalf 16 = .ok (.if_icmp .ge 20, 3) := by decide +kernel
theorem dX1_listBySecondHalf_19 : decode cX1_listBySecondHalf 19 = .ok (.aload_n 0, 1) := by decide +kernel
theorem dX1_listBySecondHalf_20 : decode cX1_listBySecondHalf 20 = .ok (.getfield 15, 3) := by decide +kernel
theorem dX1_listBySecondHalf_23 : decode cX1_listBySecondHalf 23 = .ok (.iload_n 3, 1) := by decide +kernel
theorem dX1_listBySecondHalf_24 : decode cX1_listBySecondHalf 24 = .ok (.iload 4, 2) := by decide +kernel
theorem dX1_listBySecondHalf_26 : decode cX1_listBySecondHalf 26 = .ok (.iastore, 1) := by decide +kernel
theorem dX1_listBySecondHalf_27 : decode cX1_listBySecondHalf 27 = .ok (.iinc 3 1, 3) := by decide +kernel
theorem dX1_listBySecondHalf_30 : decode cX1_listBySecondHalf 30 = .ok (.iinc 4 1, 3) := by decide +kernel
theorem dX1_listBySecondHalf_33 : decode cX1_listBySecondHalf 33 = .ok (.goto (-23), 3) := by decide +kernel
theorem dX1_listBySecondHalf_36 : decode cX1_listBySecondHalf 36 = .ok (.iconst 0, 1) := by decide +kernel
theorem dX1_listBySecondHalf_37 : decode cX1_listBySecondHalf 37 = .ok (.istore 4, 2) := by decide +kernel
theorem dX1_listBySecondHalf_39 : decode cX1_listBySecondHalf 39 = .ok (.iload 4, 2) := by decide +kernel
theorem dX1_listBySecondHalf_41 : decode cX1_listBySecondHalf 41 = .ok (.aload_n 1, 1) := by decide +kernel
theorem dX1_listBySecondHalf_42 : decode cX1_listBySecondHalf 42 = .ok (.getfield 21, 3) := by decide +kernel
theorem dX1_listBySecondHalf_45 : decode cX1_listBySecondHalf 45 = .ok (.if_icmp .ge 38, 3) := by decide +kernel
theorem dX1_listBySecondHalf_48 : decode cX1_listBySecondHalf 48 = .ok (.aload_n 1, 1) := by decide +kernel
theorem dX1_listBySecondHalf_49 : decode cX1_listBySecondHalf 49 = .ok (.getfield 49, 3) := by decide +kernel
theorem dX1_listBySecondHalf_52 : decode cX1_listBySecondHalf 52 = .ok (.iload 4, 2) := by decide +kernel
theorem dX1_listBySecondHalf_54 : decode cX1_listBySecondHalf 54 = .ok (.iaload, 1) := by decide +kernel
theorem dX1_listBySecondHalf_55 : decode cX1_listBySecondHalf 55 = .ok (.iload_n 2, 1) := by decide +kernel
theorem dX1_listBySecondHalf_56 : decode cX1_listBySecondHalf 56 = .ok (.if_icmp .lt 21, 3) := by decide +kernel
theorem dX1_listBySecondHalf_59 : decode cX1_listBySecondHalf 59 = .ok (.aload_n 0, 1) := by decide +kernel
theorem dX1_listBySecondHalf_60 : decode cX1_listBySecondHalf 60 = .ok (.getfield 15, 3) := by decide +kernel
theorem dX1_listBySecondHalf_63 : decode cX1_listBySecondHalf 63 = .ok (.iload_n 3, 1) := by decide +kernel
theorem dX1_listBySecondHalf_64 : decode cX1_listBySecondHalf 64 = .ok (.aload_n 1, 1) := by decide +kernel
theorem dX1_listBySecondHalf_65 : decode cX1_listBySecondHalf 65 = .ok (.getfield 49, 3) := by decide +kernel
theorem dX1_listBySecondHalf_68 : decode cX1_listBySecondHalf 68 = .ok (.iload 4, 2) := by decide +kernel
theorem dX1_listBySecondHalf_70 : decode cX1_listBySecondHalf 70 = .ok (.iaload, 1) := by decide +kernel
theorem dX1_listBySecondHalf_71 : decode cX1_listBySecondHalf 71 = .ok (.iload_n 2, 1) := by decide +kernel
theorem dX1_listBySecondHalf_72 : decode cX1_listBySecondHalf 72 = .ok (.isub, 1) := by decide +kernel
theorem dX1_listBySecondHalf_73 : decode cX1_listBySecondHalf 73 = .ok (.iastore, 1) := by decide +kernel
theorem dX1_listBySecondHalf_74 : decode cX1_listBySecondHalf 74 = .ok (.iinc 3 1, 3) := by decide +kernel
theorem dX1_listBySecondHalf_77 : decode cX1_listBySecondHalf 77 = .ok (.iinc 4 1, 3) := by decide +kernel
theorem dX1_listBySecondHalf_80 : decode cX1_listBySecondHalf 80 = .ok (.goto (-41), 3) := by decide +kernel
theorem dX1_listBySecondHalf_83 : decode cX1_listBySecondHalf 83 = .ok (.return_, 1) := by decide +kernel
theorem dX1_orderByClass_0 : decode cX1_orderByClass 0 = .ok (.iconst 0, 1) := by decide +kernel
theorem dX1_orderByClass_1 : decode cX1_orderByClass 1 = .ok (.istore_n 2, 1) := by decide +kernel
theorem dX1_orderByClass_2 : decode cX1_orderByClass 2 = .ok (.iload_n 2, 1) := by decide +kernel
theorem dX1_orderByClass_3 : decode cX1_orderByClass 3 = .ok (.aload_n 0, 1) := by decide +kernel
theorem dX1_orderByClass_4 : decode cX1_orderByClass 4 = .ok (.getfield 9, 3) := by decide +kernel
theorem dX1_orderByClass_7 : decode cX1_orderByClass 7 = .ok (.arraylength, 1) := by decide +kernel
theorem dX1_orderByClass_8 : decode cX1_orderByClass 8 = .ok (.if_icmp .ge 16, 3) := by decide +kernel
theorem dX1_orderByClass_11 : decode cX1_orderByClass 11 = .ok (.aload_n 0, 1) := by decide +kernel
theorem dX1_orderByClass_12 : decode cX1_orderByClass 12 = .ok (.getfield 9, 3) := by decide +kernel
theorem dX1_orderByClass_15 : decode cX1_orderByClass 15 = .ok (.iload_n 2, 1) := by decide +kernel
theorem dX1_orderByClass_16 : decode cX1_orderByClass 16 = .ok (.iconst 0, 1) := by decide +kernel
theorem dX1_orderByClass_17 : decode cX1_orderByClass 17 = .ok (.iastore, 1) := by decide +kernel
theorem dX1_orderByClass_18 : decode cX1_orderByClass 18 = .ok (.iinc 2 1, 3) := by decide +kernel
theorem dX1_orderByClass_21 : decode cX1_orderByClass 21 = .ok (.goto (-19), 3) := by decide +kernel
theorem dX1_orderByClass_24 : decode cX1_orderByClass 24 = .ok (.iconst 0, 1) := by decide +kernel
theorem dX1_orderByClass_25 : decode cX1_orderByClass 25 = .ok (.istore_n 2, 1) := by decide +kernel
theorem dX1_orderByClass_26 : decode cX1_orderByClass 26 = .ok (.iload_n 2, 1) := by decide +kernel
theorem dX1_orderByClass_27 : decode cX1_orderByClass 27 = .ok (.aload_n 1, 1) := by decide +kernel
theorem dX1_orderByClass_28 : decode cX1_orderByClass 28 = .ok (.getfield 21, 3) := by decide +kernel
theorem dX1_orderByClass_31 : decode cX1_orderByClass 31 = .ok (.if_icmp .ge 26, 3) := by decide +kernel
theorem dX1_orderByClass_34 : decode cX1_orderByClass 34 = .ok (.aload_n 0, 1) := by decide +kernel
theorem dX1_orderByClass_35 : decode cX1_orderByClass 35 = .ok (.getfield 9, 3) := by decide +kernel
theorem dX1_orderByClass_38 : decode cX1_orderByClass 38 = .ok (.aload_n 1, 1) := by decide +kernel
theorem dX1_orderByClass_39 : decode cX1_orderByClass 39 = .ok (.getfield 27, 3) := by decide +kernel
theorem dX1_orderByClass_42 : decode cX1_orderByClass 42 = .ok (.iload_n 2, 1) := by decide +kernel
theorem dX1_orderByClass_43 : decode cX1_orderByClass 43 = .ok (.iaload, 1) := by decide +kernel
theorem dX1_orderByClass_44 : decode cX1_orderByClass 44 = .ok (.iconst 1, 1) := by decide +kernel
theorem dX1_orderByClass_45 : decode cX1_orderByClass 45 = .ok (.iadd, 1) := by decide +kernel
theorem dX1_orderByClass_46 : decode cX1_orderByClass 46 = .ok (.dup2, 1) := by decide +kernel
theorem dX1_orderByClass_47 : decode cX1_orderByClass 47 = .ok (.iaload, 1) := by decide +kernel
theorem dX1_orderByClass_48 : decode cX1_orderByClass 48 = .ok (.iconst 1, 1) := by decide +kernel
theorem dX1_orderByClass_49 : decode cX1_orderByClass 49 = .ok (.iadd, 1) := by decide +kernel
theorem dX1_orderByClass_50 : decode cX1_orderByClass 50 = .ok (.iastore, 1) := by decide +kernel
theorem dX1_orderByClass_51 : decode cX1_orderByClass 51 = .ok (.iinc 2 1, 3) := by decide +kernel
theorem dX1_orderByClass_54 : decode cX1_orderByClass 54 = .ok (.goto (-28), 3) := by decide +kernel
theorem dX1_orderByClass_57 : decode cX1_orderByClass 57 = .ok (.iconst 1, 1) := by decide +kernel
theorem dX1_orderByClass_58 : decode cX1_orderByClass 58 = .ok (.istore_n 2, 1) := by decide +kernel
theorem dX1_orderByClass_59 : decode cX1_orderByClass 59 = .ok (.iload_n 2, 1) := by decide +kernel
theorem dX1_orderByClass_60 : decode cX1_orderByClass 60 = .ok (.aload_n 0, 1) := by decide +kernel
theorem dX1_orderByClass_61 : decode cX1_orderByClass 61 = .ok (.getfield 9, 3) := by decide +kernel
theorem dX1_orderByClass_64 : decode cX1_orderByClass 64 = .ok (.arraylength, 1) := by decide +kernel
theorem dX1_orderByClass_65 : decode cX1_orderByClass 65 = .ok (.if_icmp .ge 26, 3) := by decide +kernel
theorem dX1_orderByClass_68 : decode cX1_orderByClass 68 = .ok (.aload_n 0, 1) := by decide +kernel
theorem dX1_orderByClass_69 : decode cX1_orderByClass 69 = .ok (.getfield 9, 3) := by decide +kernel
theorem dX1_orderByClass_72 : decode cX1_orderByClass 72 = .ok (.iload_n 2, 1) := by decide +kernel
theorem dX1_orderByClass_73 : decode cX1_orderByClass 73 = .ok (.dup2, 1) := by decide +kernel
theorem dX1_orderByClass_74 : decode cX1_orderByClass 74 = .ok (.iaload, 1) := by decide +kernel
theorem dX1_orderByClass_75 : decode cX1_orderByClass 75 = .ok (.aload_n 0, 1) := by decide +kernel
theorem dX1_orderByClass_76 : decode cX1_orderByClass 76 = .ok (.getfield 9, 3) := by decide +kernel
theorem dX1_orderByClass_79 : decode cX1_orderByClass 79 = .ok (.iload_n 2, 1) := by decide +kernel
theorem dX1_orderByClass_80 : decode cX1_orderByClass 80 = .ok (.iconst 1, 1) := by decide +kernel
theorem dX1_orderByClass_81 : decode cX1_orderByClass 81 = .ok (.isub, 1) := by decide +kernel
theorem dX1_orderByClass_82 : decode cX1_orderByClass 82 = .ok (.iaload, 1) := by decide +kernel
theorem dX1_orderByClass_83 : decode cX1_orderByClass 83 = .ok (.iadd, 1) := by decide +kernel
theorem dX1_orderByClass_84 : decode cX1_orderByClass 84 = .ok (.iastore, 1) := by decide +kernel
theorem dX1_orderByClass_85 : decode cX1_orderByClass 85 = .ok (.iinc 2 1, 3) := by decide +kernel
theorem dX1_orderByClass_88 : decode cX1_orderByClass 88 = .ok (.goto (-29), 3) := by decide +kernel
theorem dX1_orderByClass_91 : decode cX1_orderByClass 91 = .ok (.iconst 0, 1) := by decide +kernel
theorem dX1_orderByClass_92 : decode cX1_orderByClass 92 = .ok (.istore_n 2, 1) := by decide +kernel
theorem dX1_orderByClass_93 : decode cX1_orderByClass 93 = .ok (.iload_n 2, 1) := by decide +kernel
theorem dX1_orderByClass_94 : decode cX1_orderByClass 94 = .ok (.aload_n 1, 1) := by decide +kernel
theorem dX1_orderByClass_95 : decode cX1_orderByClass 95 = .ok (.getfield 21, 3) := by decide +kernel
theorem dX1_orderByClass_98 : decode cX1_orderByClass 98 = .ok (.if_icmp .ge 48, 3) := by decide +kernel
theorem dX1_orderByClass_101 : decode cX1_orderByClass 101 = .ok (.aload_n 0, 1) := by decide +kernel
theorem dX1_orderByClass_102 : decode cX1_orderByClass 102 = .ok (.getfield 15, 3) := by decide +kernel
theorem dX1_orderByClass_105 : decode cX1_orderByClass 105 = .ok (.iload_n 2, 1) := by decide +kernel
theorem dX1_orderByClass_106 : decode cX1_orderByClass 106 = .ok (.iaload, 1) := by decide +kernel
theorem dX1_orderByClass_107 : decode cX1_orderByClass 107 = .ok (.istore_n 3, 1) := by decide +kernel
theorem dX1_orderByClass_108 : decode cX1_orderByClass 108 = .ok (.aload_n 1, 1) := by decide +kernel
theorem dX1_orderByClass_109 : decode cX1_orderByClass 109 = .ok (.getfield 27, 3) := by decide +kernel
theorem dX1_orderByClass_112 : decode cX1_orderByClass 112 = .ok (.iload_n 3, 1) := by decide +kernel
theorem dX1_orderByClass_113 : decode cX1_orderByClass 113 = .ok (.iaload, 1) := by decide +kernel
theorem dX1_orderByClass_114 : decode cX1_orderByClass 114 = .ok (.istore 4, 2) := by decide +kernel
theorem dX1_orderByClass_116 : decode cX1_orderByClass 116 = .ok (.aload_n 1, 1) := by decide +kernel
theorem dX1_orderByClass_117 : decode cX1_orderByClass 117 = .ok (.getfield 49, 3) := by decide +kernel
theorem dX1_orderByClass_120 : decode cX1_orderByClass 120 = .ok (.aload_n 0, 1) := by decide +kernel
theorem dX1_orderByClass_121 : decode cX1_orderByClass 121 = .ok (.getfield 9, 3) := by decide +kernel
theorem dX1_orderByClass_124 : decode cX1_orderByClass 124 = .ok (.iload 4, 2) := by decide +kernel
theorem dX1_orderByClass_126 : decode cX1_orderByClass 126 = .ok (.iaload, 1) := by decide +kernel
theorem dX1_orderByClass_127 : decode cX1_orderByClass 127 = .ok (.iload_n 3, 1) := by decide +kernel
theorem dX1_orderByClass_128 : decode cX1_orderByClass 128 = .ok (.iastore, 1) := by decide +kernel
theorem dX1_orderByClass_129 : decode cX1_orderByClass 129 = .ok (.aload_n 0, 1) := by decide +kernel
theorem dX1_orderByClass_130 : decode cX1_orderByClass 130 = .ok (.getfield 9, 3) := by decide +kernel
theorem dX1_orderByClass_133 : decode cX1_orderByClass 133 = .ok (.iload 4, 2) := by decide +kernel
theorem dX1_orderByClass_135 : decode cX1_orderByClass 135 = .ok (.dup2, 1) := by decide +kernel
theorem dX1_orderByClass_136 : decode cX1_orderByClass 136 = .ok (.iaload, 1) := by decide +kernel
theorem dX1_orderByClass_137 : decode cX1_orderByClass 137 = .ok (.iconst 1, 1) := by decide +kernel
theorem dX1_orderByClass_138 : decode cX1_orderByClass 138 = .ok (.iadd, 1) := by decide +kernel
theorem dX1_orderByClass_139 : decode cX1_orderByClass 139 = .ok (.iastore, 1) := by decide +kernel
theorem dX1_orderByClass_140 : decode cX1_orderByClass 140 = .ok (.iinc 2 1, 3) := by decide +kernel
theorem dX1_orderByClass_143 : decode cX1_orderByClass 143 = .ok (.goto (-50), 3) := by decide +kernel
theorem dX1_orderByClass_146 : decode cX1_orderByClass 146 = .ok (.return_, 1) := by decide +kernel
theorem dX1_numberClasses_0 : decode cX1_numberClasses 0 = .ok (.iconst 0, 1) := by decide +kernel
theorem dX1_numberClasses_1 : decode cX1_numberClasses 1 = .ok (.istore_n 3, 1) := by decide +kernel
theorem dX1_numberClasses_2 : decode cX1_numberClasses 2 = .ok (.iconst 0, 1) := by decide +kernel
theorem dX1_numberClasses_3 : decode cX1_numberClasses 3 = .ok (.istore 4, 2) := by decide +kernel
theorem dX1_numberClasses_5 : decode cX1_numberClasses 5 = .ok (.iload 4, 2) := by decide +kernel
theorem dX1_numberClasses_7 : decode cX1_numberClasses 7 = .ok (.aload_n 1, 1) := by decide +kernel
theorem dX1_numberClasses_8 : decode cX1_numberClasses 8 = .ok (.getfield 21, 3) := by decide +kernel
theorem dX1_numberClasses_11 : decode cX1_numberClasses 11 = .ok (.if_icmp .ge 56, 3) := by decide +kernel
theorem dX1_numberClasses_14 : decode cX1_numberClasses 14 = .ok (.aload_n 1, 1) := by decide +kernel
theorem dX1_numberClasses_15 : decode cX1_numberClasses 15 = .ok (.getfield 49, 3) := by decide +kernel
theorem dX1_numberClasses_18 : decode cX1_numberClasses 18 = .ok (.iload 4, 2) := by decide +kernel
theorem dX1_numberClasses_20 : decode cX1_numberClasses 20 = .ok (.iaload, 1) := by decide +kernel
theorem dX1_numberClasses_21 : decode cX1_numberClasses 21 = .ok (.istore 5, 2) := by decide +kernel
theorem dX1_numberClasses_23 : decode cX1_numberClasses 23 = .ok (.iload 4, 2) := by decide +kernel
theorem dX1_numberClasses_25 : decode cX1_numberClasses 25 = .ok (.ifCond .eq 23, 3) := by decide +kernel
theorem dX1_numberClasses_28 : decode cX1_numberClasses 28 = .ok (.aload_n 0, 1) := by decide +kernel
theorem dX1_numberClasses_29 : decode cX1_numberClasses 29 = .ok (.aload_n 1, 1) := by decide +kernel
theorem dX1_numberClasses_30 : decode cX1_numberClasses 30 = .ok (.aload_n 1, 1) := by decide +kernel
theorem dX1_numberClasses_31 : decode cX1_numberClasses 31 = .ok (.getfield 49, 3) := by decide +kernel
theorem dX1_numberClasses_34 : decode cX1_numberClasses 34 = .ok (.iload 4, 2) := by decide +kernel
theorem dX1_numberClasses_36 : decode cX1_numberClasses 36 = .ok (.iconst 1, 1) := by decide +kernel
theorem dX1_numberClasses_37 : decode cX1_numberClasses 37 = .ok (.isub, 1) := by decide +kernel
theorem dX1_numberClasses_38 : decode cX1_numberClasses 38 = .ok (.iaload, 1) := by decide +kernel
theorem dX1_numberClasses_39 : decode cX1_numberClasses 39 = .ok (.iload 5, 2) := by decide +kernel
theorem dX1_numberClasses_41 : decode cX1_numberClasses 41 = .ok (.iload_n 2, 1) := by decide +kernel
theorem dX1_numberClasses_42 : decode cX1_numberClasses 42 = .ok (.invokevirtual 52, 3) := by decide +kernel
theorem dX1_numberClasses_45 : decode cX1_numberClasses 45 = .ok (.ifCond .ne 6, 3) := by decide +kernel
theorem dX1_numberClasses_48 : decode cX1_numberClasses 48 = .ok (.iinc 3 1, 3) := by decide +kernel
theorem dX1_numberClasses_51 : decode cX1_numberClasses 51 = .ok (.aload_n 0, 1) := by decide +kernel
theorem dX1_numberClasses_52 : decode cX1_numberClasses 52 = .ok (.getfield 18, 3) := by decide +kernel
theorem dX1_numberClasses_55 : decode cX1_numberClasses 55 = .ok (.iload 5, 2) := by decide +kernel
theorem dX1_numberClasses_57 : decode cX1_numberClasses 57 = .ok (.iload_n 3, 1) := by decide +kernel
theorem dX1_numberClasses_58 : decode cX1_numberClasses 58 = .ok (.iconst 1, 1) := by decide +kernel
theorem dX1_numberClasses_59 : decode cX1_numberClasses 59 = .ok (.isub, 1) := by decide +kernel
theorem dX1_numberClasses_60 : decode cX1_numberClasses 60 = .ok (.iastore, 1) := by decide +kernel
theorem dX1_numberClasses_61 : decode cX1_numberClasses 61 = .ok (.iinc 4 1, 3) := by decide +kernel
theorem dX1_numberClasses_64 : decode cX1_numberClasses 64 = .ok (.goto (-59), 3) := by decide +kernel
theorem dX1_numberClasses_67 : decode cX1_numberClasses 67 = .ok (.iconst 0, 1) := by decide +kernel
theorem dX1_numberClasses_68 : decode cX1_numberClasses 68 = .ok (.istore 4, 2) := by decide +kernel
theorem dX1_numberClasses_70 : decode cX1_numberClasses 70 = .ok (.iload 4, 2) := by decide +kernel
theorem dX1_numberClasses_72 : decode cX1_numberClasses 72 = .ok (.aload_n 1, 1) := by decide +kernel
theorem dX1_numberClasses_73 : decode cX1_numberClasses 73 = .ok (.getfield 21, 3) := by decide +kernel
theorem dX1_numberClasses_76 : decode cX1_numberClasses 76 = .ok (.if_icmp .ge 23, 3) := by decide +kernel
theorem dX1_numberClasses_79 : decode cX1_numberClasses 79 = .ok (.aload_n 1, 1) := by decide +kernel
theorem dX1_numberClasses_80 : decode cX1_numberClasses 80 = .ok (.getfield 27, 3) := by decide +kernel
theorem dX1_numberClasses_83 : decode cX1_numberClasses 83 = .ok (.iload 4, 2) := by decide +kernel
theorem dX1_numberClasses_85 : decode cX1_numberClasses 85 = .ok (.aload_n 0, 1) := by decide +kernel
theorem dX1_numberClasses_86 : decode cX1_numberClasses 86 = .ok (.getfield 18, 3) := by decide +kernel
theorem dX1_numberClasses_89 : decode cX1_numberClasses 89 = .ok (.iload 4, 2) := by decide +kernel
theorem dX1_numberClasses_91 : decode cX1_numberClasses 91 = .ok (.iaload, 1) := by decide +kernel
theorem dX1_numberClasses_92 : decode cX1_numberClasses 92 = .ok (.iastore, 1) := by decide +kernel
theorem dX1_numberClasses_93 : decode cX1_numberClasses 93 = .ok (.iinc 4 1, 3) := by decide +kernel
theorem dX1_numberClasses_96 : decode cX1_numberClasses 96 = .ok (.goto (-26), 3) := by decide +kernel
theorem dX1_numberClasses_99 : decode cX1_numberClasses 99 = .ok (.iload_n 3, 1) := by decide +kernel
theorem dX1_numberClasses_100 : decode cX1_numberClasses 100 = .ok (.ireturn, 1) := by decide +kernel
theorem dX1_areAlike_0 : decode cX1_areAlike 0 = .ok (.aload_n 1, 1) := by decide +kernel
theorem dX1_areAlike_1 : decode cX1_areAlike 1 = .ok (.getfield 27, 3) := by decide +kernel
theorem dX1_areAlike_4 : decode cX1_areAlike 4 = .ok (.iload_n 2, 1) := by decide +kernel
theorem dX1_areAlike_5 : decode cX1_areAlike 5 = .ok (.iaload, 1) := by decide +kernel
theorem dX1_areAlike_6 : decode cX1_areAlike 6 = .ok (.aload_n 1, 1) := by decide +kernel
theorem dX1_areAlike_7 : decode cX1_areAlike 7 = .ok (.getfield 27, 3) := by decide +kernel
theorem dX1_areAlike_10 : decode cX1_areAlike 10 = .ok (.iload_n 3, 1) := by decide +kernel
theorem dX1_areAlike_11 : decode cX1_areAlike 11 = .ok (.iaload, 1) := by decide +kernel
theorem dX1_areAlike_12 : decode cX1_areAlike 12 = .ok (.if_icmp .ne 28, 3) := by decide +kernel
theorem dX1_areAlike_15 : decode cX1_areAlike 15 = .ok (.aload_n 0, 1) := by decide +kernel
theorem dX1_areAlike_16 : decode cX1_areAlike 16 = .ok (.aload_n 1, 1) := by decide +kernel
theorem dX1_areAlike_17 : decode cX1_areAlike 17 = .ok (.iload_n 2, 1) := by decide +kernel
theorem dX1_areAlike_18 : decode cX1_areAlike 18 = .ok (.iload 4, 2) := by decide +kernel
theorem dX1_areAlike_20 : decode cX1_areAlike 20 = .ok (.iadd, 1) := by decide +kernel
theorem dX1_areAlike_21 : decode cX1_areAlike 21 = .ok (.invokevirtual 56, 3) := by decide +kernel
theorem dX1_areAlike_24 : decode cX1_areAlike 24 = .ok (.aload_n 0, 1) := by decide +kernel
theorem dX1_areAlike_25 : decode cX1_areAlike 25 = .ok (.aload_n 1, 1) := by decide +kernel
theorem dX1_areAlike_26 : decode cX1_areAlike 26 = .ok (.iload_n 3, 1) := by decide +kernel
theorem dX1_areAlike_27 : decode cX1_areAlike 27 = .ok (.iload 4, 2) := by decide +kernel
theorem dX1_areAlike_29 : decode cX1_areAlike 29 = .ok (.iadd, 1) := by decide +kernel
theorem dX1_areAlike_30 : decode cX1_areAlike 30 = .ok (.invokevirtual 56, 3) := by decide +kernel
theorem dX1_areAlike_33 : decode cX1_areAlike 33 = .ok (.if_icmp .ne 7, 3) := by decide +kernel
theorem dX1_areAlike_36 : decode cX1_areAlike 36 = .ok (.iconst 1, 1) := by decide +kernel
theorem dX1_areAlike_37 : decode cX1_areAlike 37 = .ok (.goto 4, 3) := by decide +kernel
theorem dX1_areAlike_40 : decode cX1_areAlike 40 = .ok (.iconst 0, 1) := by decide +kernel
theorem dX1_areAlike_41 : decode cX1_areAlike 41 = .ok (.ireturn, 1) := by decide +kernel
theorem dX1_classBehind_0 : decode cX1_classBehind 0 = .ok (.iload_n 2, 1) := by decide +kernel
theorem dX1_classBehind_1 : decode cX1_classBehind 1 = .ok (.aload_n 1, 1) := by decide +kernel
theorem dX1_classBehind_2 : decode cX1_classBehind 2 = .ok (.getfield 21, 3) := by decide +kernel
theorem dX1_classBehind_5 : decode cX1_classBehind 5 = .ok (.if_icmp .ge 12, 3) := by decide +kernel
theorem dX1_classBehind_8 : decode cX1_classBehind 8 = .ok (.aload_n 1, 1) := by decide +kernel
theorem dX1_classBehind_9 : decode cX1_classBehind 9 = .ok (.getfield 27, 3) := by decide +kernel
theorem dX1_classBehind_12 : decode cX1_classBehind 12 = .ok (.iload_n 2, 1) := by decide +kernel
theorem dX1_classBehind_13 : decode cX1_classBehind 13 = .ok (.iaload, 1) := by decide +kernel
theorem dX1_classBehind_14 : decode cX1_classBehind 14 = .ok (.goto 4, 3) := by decide +kernel
theorem dX1_classBehind_17 : decode cX1_classBehind 17 = .ok (.iconst (-1), 1) := by decide +kernel
theorem dX1_classBehind_18 : decode cX1_classBehind 18 = .ok (.ireturn, 1) := by decide +kernel
theorem dX1_tellCommons_0 : decode cX1_tellCommons 0 = .ok (.iconst 0, 1) := by decide +kernel
theorem dX1_tellCommons_1 : decode cX1_tellCommons 1 = .ok (.istore_n 2, 1) := by decide +kernel
theorem dX1_tellCommons_2 : decode cX1_tellCommons 2 = .ok (.iconst 0, 1) := by decide +kernel
theorem dX1_tellCommons_3 : decode cX1_tellCommons 3 = .ok (.istore_n 3, 1) := by decide +kernel
theorem dX1_tellCommons_4 : decode cX1_tellCommons 4 = .ok (.iload_n 3, 1) := by decide +kernel
theorem dX1_tellCommons_5 : decode cX1_tellCommons 5 = .ok (.aload_n 1, 1) := by decide +kernel
theorem dX1_tellCommons_6 : decode cX1_tellCommons 6 = .ok (.getfield 21, 3) := by decide +kernel
theorem dX1_tellCommons_9 : decode cX1_tellCommons 9 = .ok (.if_icmp .ge 69, 3) := by decide +kernel
theorem dX1_tellCommons_12 : decode cX1_tellCommons 12 = .ok (.aload_n 1, 1) := by decide +kernel
theorem dX1_tellCommons_13 : decode cX1_tellCommons 13 = .ok (.getfield 27, 3) := by decide +kernel
theorem dX1_tellCommons_16 : decode cX1_tellCommons 16 = .ok (.iload_n 3, 1) := by decide +kernel
theorem dX1_tellCommons_17 : decode cX1_tellCommons 17 = .ok (.iaload, 1) := by decide +kernel
theorem dX1_tellCommons_18 : decode cX1_tellCommons 18 = .ok (.istore 4, 2) := by decide +kernel
theorem dX1_tellCommons_20 : decode cX1_tellCommons 20 = .ok (.iload 4, 2) := by decide +kernel
theorem dX1_tellCommons_22 : decode cX1_tellCommons 22 = .ok (.ifCond .ne 8, 3) := by decide +kernel
theorem dX1_tellCommons_25 : decode cX1_tellCommons 25 = .ok (.iconst 0, 1) := by decide +kernel
theorem dX1_tellCommons_26 : decode cX1_tellCommons 26 = .ok (.istore_n 2, 1) := by decide +kernel
theorem dX1_tellCommons_27 : decode cX1_tellCommons 27 = .ok (.goto 37, 3) := by decide +kernel
theorem dX1_tellCommons_30 : decode cX1_tellCommons 30 = .ok (.aload_n 1, 1) := by decide +kernel
theorem dX1_tellCommons_31 : decode cX1_tellCommons 31 = .ok (.getfield 49, 3) := by decide +kernel
theorem dX1_tellCommons_34 : decode cX1_tellCommons 34 = .ok (.iload 4, 2) := by decide +kernel
theorem dX1_tellCommons_36 : decode cX1_tellCommons 36 = .ok (.iconst 1, 1) := by decide +kernel
theorem dX1_tellCommons_37 : decode cX1_tellCommons 37 = .ok (.isub, 1) := by decide +kernel
theorem dX1_tellCommons_38 : decode cX1_tellCommons 38 = .ok (.iaload, 1) := by decide +kernel
theorem dX1_tellCommons_39 : decode cX1_tellCommons 39 = .ok (.istore 5, 2) := by decide +kernel
theorem dX1_tellCommons_41 : decode cX1_tellCommons 41 = .ok (.iload_n 2, 1) := by decide +kernel
theorem dX1_tellCommons_42 : decode cX1_tellCommons 42 = .ok (.iconst 1, 1) := by decide +kernel
theorem dX1_tellCommons_43 : decode cX1_tellCommons 43 = .ok (.isub, 1) := by decide +kernel
theorem dX1_tellCommons_44 : decode cX1_tellCommons 44 = .ok (.iconst 0, 1) := by decide +kernel
theorem dX1_tellCommons_45 : decode cX1_tellCommons 45 = .ok (.invokestatic 59, 3) := by decide +kernel
theorem dX1_tellCommons_48 : decode cX1_tellCommons 48 = .ok (.istore_n 2, 1) := by decide +kernel
theorem dX1_tellCommons_49 : decode cX1_tellCommons 49 = .ok (.iload_n 2, 1) := by decide +kernel
theorem dX1_tellCommons_50 : decode cX1_tellCommons 50 = .ok (.aload_n 1, 1) := by decide +kernel
theorem dX1_tellCommons_51 : decode cX1_tellCommons 51 = .ok (.iload_n 3, 1) := by decide +kernel
theorem dX1_tellCommons_52 : decode cX1_tellCommons 52 = .ok (.iload_n 2, 1) := by decide +kernel
theorem dX1_tellCommons_53 : decode cX1_tellCommons 53 = .ok (.iadd, 1) := by decide +kernel
theorem dX1_tellCommons_54 : decode cX1_tellCommons 54 = .ok (.aload_n 1, 1) := by decide +kernel
theorem dX1_tellCommons_55 : decode cX1_tellCommons 55 = .ok (.iload 5, 2) := by decide +kernel
theorem dX1_tellCommons_57 : decode cX1_tellCommons 57 = .ok (.iload_n 2, 1) := by decide +kernel
theorem dX1_tellCommons_58 : decode cX1_tellCommons 58 = .ok (.iadd, 1) := by decide +kernel
theorem dX1_tellCommons_59 : decode cX1_tellCommons 59 = .ok (.invokevirtual 65, 3) := by decide +kernel
theorem dX1_tellCommons_62 : decode cX1_tellCommons 62 = .ok (.iadd, 1) := by decide +kernel
theorem dX1_tellCommons_63 : decode cX1_tellCommons 63 = .ok (.istore_n 2, 1) := by decide +kernel
theorem dX1_tellCommons_64 : decode cX1_tellCommons 64 = .ok (.aload_n 1, 1) := by decide +kernel
theorem dX1_tellCommons_65 : decode cX1_tellCommons 65 = .ok (.getfield 69, 3) := by decide +kernel
theorem dX1_tellCommons_68 : decode cX1_tellCommons 68 = .ok (.iload 4, 2) := by decide +kernel
theorem dX1_tellCommons_70 : decode cX1_tellCommons 70 = .ok (.iload_n 2, 1) := by decide +kernel
theorem dX1_tellCommons_71 : decode cX1_tellCommons 71 = .ok (.iastore, 1) := by decide +kernel
theorem dX1_tellCommons_72 : decode cX1_tellCommons 72 = .ok (.iinc 3 1, 3) := by decide +kernel
theorem dX1_tellCommons_75 : decode cX1_tellCommons 75 = .ok (.goto (-71), 3) := by decide +kernel
theorem dX1_tellCommons_78 : decode cX1_tellCommons 78 = .ok (.return_, 1) := by decide +kernel
theorem dX2_init_0 : decode cX2_init 0 = .ok (.aload_n 0, 1) := by decide +kernel
theorem dX2_init_1 : decode cX2_init 1 = .ok (.invokespecial 3, 3) := by decide +kernel
theorem dX2_init_4 : decode cX2_init 4 = .ok (.aload_n 0, 1) := by decide +kernel
theorem dX2_init_5 : decode cX2_init 5 = .ok (.bipush 65, 2) := by decide +kernel
theorem dX2_init_7 : decode cX2_init 7 = .ok (.newarray .int, 2) := by decide +kernel
theorem dX2_init_9 : decode cX2_init 9 = .ok (.putfield 9, 3) := by decide +kernel
theorem dX2_init_12 : decode cX2_init 12 = .ok (.return_, 1) := by decide +kernel
theorem dX2_sizeFrom_0 : decode cX2_sizeFrom 0 = .ok (.iconst 1, 1) := by decide +kernel
theorem dX2_sizeFrom_1 : decode cX2_sizeFrom 1 = .ok (.istore_n 3, 1) := by decide +kernel
theorem dX2_sizeFrom_2 : decode cX2_sizeFrom 2 = .ok (.iload_n 2, 1) := by decide +kernel
theorem dX2_sizeFrom_3 : decode cX2_sizeFrom 3 = .ok (.aload_n 1, 1) := by decide +kernel
theorem dX2_sizeFrom_4 : decode cX2_sizeFrom 4 = .ok (.getfield 15, 3) := by decide +kernel
theorem dX2_sizeFrom_7 : decode cX2_sizeFrom 7 = .ok (.if_icmp .ge 25, 3) := by decide +kernel
theorem dX2_sizeFrom_10 : decode cX2_sizeFrom 10 = .ok (.iload_n 3, 1) := by decide +kernel
theorem dX2_sizeFrom_11 : decode cX2_sizeFrom 11 = .ok (.aload_n 0, 1) := by decide +kernel
theorem dX2_sizeFrom_12 : decode cX2_sizeFrom 12 = .ok (.aload_n 1, 1) := by decide +kernel
theorem dX2_sizeFrom_13 : decode cX2_sizeFrom 13 = .ok (.iload_n 2, 1) := by decide +kernel
theorem dX2_sizeFrom_14 : decode cX2_sizeFrom 14 = .ok (.invokevirtual 21, 3) := by decide +kernel
theorem dX2_sizeFrom_17 : decode cX2_sizeFrom 17 = .ok (.invokestatic 25, 3) := by decide +kernel
theorem dX2_sizeFrom_20 : decode cX2_sizeFrom 20 = .ok (.istore_n 3, 1) := by decide +kernel
theorem dX2_sizeFrom_21 : decode cX2_sizeFrom 21 = .ok (.iload_n 3, 1) := by decide +kernel
theorem dX2_sizeFrom_22 : decode cX2_sizeFrom 22 = .ok (.aload_n 0, 1) := by decide +kernel
theorem dX2_sizeFrom_23 : decode cX2_sizeFrom 23 = .ok (.aload_n 1, 1) := by decide +kernel
theorem dX2_sizeFrom_24 : decode cX2_sizeFrom 24 = .ok (.iload_n 2, 1) := by decide +kernel
theorem dX2_sizeFrom_25 : decode cX2_sizeFrom 25 = .ok (.invokevirtual 31, 3) := by decide +kernel
theorem dX2_sizeFrom_28 : decode cX2_sizeFrom 28 = .ok (.invokestatic 25, 3) := by decide +kernel
theorem dX2_sizeFrom_31 : decode cX2_sizeFrom 31 = .ok (.istore_n 3, 1) := by decide +kernel
theorem dX2_sizeFrom_32 : decode cX2_sizeFrom 32 = .ok (.iload_n 3, 1) := by decide +kernel
theorem dX2_sizeFrom_33 : decode cX2_sizeFrom 33 = .ok (.ireturn, 1) := by decide +kernel
theorem dX2_commonWithLowerAhead_0 : decode cX2_commonWithLowerAhead 0 = .ok (.aload_n 1, 1) := by decide +kernel
theorem dX2_commonWithLowerAhead_1 : decode cX2_commonWithLowerAhead 1 = .ok (.getfield 15, 3) := by decide +kernel
theorem dX2_commonWithLowerAhead_4 : decode cX2_commonWithLowerAhead 4 = .ok (.iload_n 2, 1) := by decide +kernel
theorem dX2_commonWithLowerAhead_5 : decode cX2_commonWithLowerAhead 5 = .ok (.isub, 1) := by decide +kernel
theorem dX2_commonWithLowerAhead_6 : decode cX2_commonWithLowerAhead 6 = .ok (.istore_n 3, 1) := by decide +kernel
theorem dX2_commonWithLowerAhead_7 : decode cX2_commonWithLowerAhead 7 = .ok (.aload_n 1, 1) := by decide +kernel
theorem dX2_commonWithLowerAhead_8 : decode cX2_commonWithLowerAhead 8 = .ok (.getfield 34, 3) := by decide +kernel
theorem dX2_commonWithLowerAhead_11 : decode cX2_commonWithLowerAhead 11 = .ok (.iload_n 2, 1) := by decide +kernel
theorem dX2_commonWithLowerAhead_12 : decode cX2_commonWithLowerAhead 12 = .ok (.iaload, 1) := by decide +kernel
theorem dX2_commonWithLowerAhead_13 : decode cX2_commonWithLowerAhead 13 = .ok (.istore 4, 2) := by decide +kernel
theorem dX2_commonWithLowerAhead_15 : decode cX2_commonWithLowerAhead 15 = .ok (.iload 4, 2) := by decide +kernel
theorem dX2_commonWithLowerAhead_17 : decode cX2_commonWithLowerAhead 17 = .ok (.ifCond .le 36, 3) := by decide +kernel
theorem dX2_commonWithLowerAhead_20 : decode cX2_commonWithLowerAhead 20 = .ok (.iload_n 3, 1) := by decide +kernel
theorem dX2_commonWithLowerAhead_21 : decode cX2_commonWithLowerAhead 21 = .ok (.aload_n 1, 1) := by decide +kernel
theorem dX2_commonWithLowerAhead_22 : decode cX2_commonWithLowerAhead 22 = .ok (.getfield 37, 3) := by decide +kernel
theorem dX2_commonWithLowerAhead_25 : decode cX2_commonWithLowerAhead 25 = .ok (.iload 4, 2) := by decide +kernel
theorem dX2_commonWithLowerAhead_27 : decode cX2_commonWithLowerAhead 27 = .ok (.iaload, 1) := by decide +kernel
theorem dX2_commonWithLowerAhead_28 : decode cX2_commonWithLowerAhead 28 = .ok (.invokestatic 40, 3) := by decide +kernel
theorem dX2_commonWithLowerAhead_31 : decode cX2_commonWithLowerAhead 31 = .ok (.istore_n 3, 1) := by decide +kernel
theorem dX2_commonWithLowerAhead_32 : decode cX2_commonWithLowerAhead 32 = .ok (.aload_n 1, 1) := by decide +kernel
theorem dX2_commonWithLowerAhead_33 : decode cX2_commonWithLowerAhead 33 = .ok (.getfield 43, 3) := by decide +kernel
theorem dX2_commonWithLowerAhead_36 : decode cX2_commonWithLowerAhead 36 = .ok (.iload 4, 2) := by decide +kernel
theorem dX2_commonWithLowerAhead_38 : decode cX2_commonWithLowerAhead 38 = .ok (.iconst 1, 1) := by decide +kernel
theorem dX2_commonWithLowerAhead_39 : decode cX2_commonWithLowerAhead 39 = .ok (.isub, 1) := by decide +kernel
theorem dX2_commonWithLowerAhead_40 : decode cX2_commonWithLowerAhead 40 = .ok (.iaload, 1) := by decide +kernel
theorem dX2_commonWithLowerAhead_41 : decode cX2_commonWithLowerAhead 41 = .ok (.iload_n 2, 1) := by decide +kernel
theorem dX2_commonWithLowerAhead_42 : decode cX2_commonWithLowerAhead 42 = .ok (.if_icmp .ge 5, 3) := by decide +kernel
theorem dX2_commonWithLowerAhead_45 : decode cX2_commonWithLowerAhead 45 = .ok (.iload_n 3, 1) := by decide +kernel
theorem dX2_commonWithLowerAhead_46 : decode cX2_commonWithLowerAhead 46 = .ok (.ireturn, 1) := by decide +kernel
theorem dX2_commonWithLowerAhead_47 : decode cX2_commonWithLowerAhead 47 = .ok (.iinc 4 (-1), 3) := by decide +kernel
theorem dX2_commonWithLowerAhead_50 : decode cX2_commonWithLowerAhead 50 = .ok (.goto (-35), 3) := by decide +kernel
theorem dX2_commonWithLowerAhead_53 : decode cX2_commonWithLowerAhead 53 = .ok (.iconst 0, 1) := by decide +kernel
theorem dX2_commonWithLowerAhead_54 : decode cX2_commonWithLowerAhead 54 = .ok (.ireturn, 1) := by decide +kernel
theorem dX2_commonWithUpperAhead_0 : decode cX2_commonWithUpperAhead 0 = .ok (.aload_n 1, 1) := by decide +kernel
theorem dX2_commonWithUpperAhead_1 : decode cX2_commonWithUpperAhead 1 = .ok (.getfield 15, 3) := by decide +kernel
theorem dX2_commonWithUpperAhead_4 : decode cX2_commonWithUpperAhead 4 = .ok (.iload_n 2, 1) := by decide +kernel
theorem dX2_commonWithUpperAhead_5 : decode cX2_commonWithUpperAhead 5 = .ok (.isub, 1) := by decide +kernel
theorem dX2_commonWithUpperAhead_6 : decode cX2_commonWithUpperAhead 6 = .ok (.istore_n 3, 1) := by decide +kernel
theorem dX2_commonWithUpperAhead_7 : decode cX2_commonWithUpperAhead 7 = .ok (.aload_n 1, 1) := by decide +kernel
theorem dX2_commonWithUpperAhead_8 : decode cX2_commonWithUpperAhead 8 = .ok (.getfield 34, 3) := by decide +kernel
theorem dX2_commonWithUpperAhead_11 : decode cX2_commonWithUpperAhead 11 = .ok (.iload_n 2, 1) := by decide +kernel
theorem dX2_commonWithUpperAhead_12 : decode cX2_commonWithUpperAhead 12 = .ok (.iaload, 1) := by decide +kernel
theorem dX2_commonWithUpperAhead_13 : decode cX2_commonWithUpperAhead 13 = .ok (.iconst 1, 1) := by decide +kernel
theorem dX2_commonWithUpperAhead_14 : decode cX2_commonWithUpperAhead 14 = .ok (.iadd, 1) := by decide +kernel
theorem dX2_commonWithUpperAhead_15 : decode cX2_commonWithUpperAhead 15 = .ok (.istore 4, 2) := by decide +kernel
theorem dX2_commonWithUpperAhead_17 : decode cX2_commonWithUpperAhead 17 = .ok (.iload 4, 2) := by decide +kernel
theorem dX2_commonWithUpperAhead_19 : decode cX2_commonWithUpperAhead 19 = .ok (.aload_n 1, 1) := by decide +kernel
theorem dX2_commonWithUpperAhead_20 : decode cX2_commonWithUpperAhead 20 = .ok (.getfield 15, 3) := by decide +kernel
theorem dX2_commonWithUpperAhead_23 : decode cX2_commonWithUpperAhead 23 = .ok (.if_icmp .ge 34, 3) := by decide +kernel
theorem dX2_commonWithUpperAhead_26 : decode cX2_commonWithUpperAhead 26 = .ok (.iload_n 3, 1) := by decide +kernel
theorem dX2_commonWithUpperAhead_27 : decode cX2_commonWithUpperAhead 27 = .ok (.aload_n 1, 1) := by decide +kernel
theorem dX2_commonWithUpperAhead_28 : decode cX2_commonWithUpperAhead 28 = .ok (.getfield 37, 3) := by decide +kernel
theorem dX2_commonWithUpperAhead_31 : decode cX2_commonWithUpperAhead 31 = .ok (.iload 4, 2) := by decide +kernel
theorem dX2_commonWithUpperAhead_33 : decode cX2_commonWithUpperAhead 33 = .ok (.iaload, 1) := by decide +kernel
theorem dX2_commonWithUpperAhead_34 : decode cX2_commonWithUpperAhead 34 = .ok (.invokestatic 40, 3) := by decide +kernel
theorem dX2_commonWithUpperAhead_37 : decode cX2_commonWithUpperAhead 37 = .ok (.istore_n 3, 1) := by decide +kernel
theorem dX2_commonWithUpperAhead_38 : decode cX2_commonWithUpperAhead 38 = .ok (.aload_n 1, 1) := by decide +kernel
theorem dX2_commonWithUpperAhead_39 : decode cX2_commonWithUpperAhead 39 = .ok (.getfield 43, 3) := by decide +kernel
theorem dX2_commonWithUpperAhead_42 : decode cX2_commonWithUpperAhead 42 = .ok (.iload 4, 2) := by decide +kernel
theorem dX2_commonWithUpperAhead_44 : decode cX2_commonWithUpperAhead 44 = .ok (.iaload, 1) := by decide +kernel
theorem dX2_commonWithUpperAhead_45 : decode cX2_commonWithUpperAhead 45 = .ok (.iload_n 2, 1) := by decide +kernel
theorem dX2_commonWithUpperAhead_46 : decode cX2_commonWithUpperAhead 46 = .ok (.if_icmp .ge 5, 3) := by decide +kernel
theorem dX2_commonWithUpperAhead_49 : decode cX2_commonWithUpperAhead 49 = .ok (.iload_n 3, 1) := by decide +kernel
theorem dX2_commonWithUpperAhead_50 : decode cX2_commonWithUpperAhead 50 = .ok (.ireturn, 1) := by decide +kernel
theorem dX2_commonWithUpperAhead_51 : decode cX2_commonWithUpperAhead 51 = .ok (.iinc 4 1, 3) := by decide +kernel
theorem dX2_commonWithUpperAhead_54 : decode cX2_commonWithUpperAhead 54 = .ok (.goto (-37), 3) := by decide +kernel
theorem dX2_commonWithUpperAhead_57 : decode cX2_commonWithUpperAhead 57 = .ok (.iconst 0, 1) := by decide +kernel
theorem dX2_commonWithUpperAhead_58 : decode cX2_commonWithUpperAhead 58 = .ok (.ireturn, 1) := by decide +kernel
theorem dX2_fewestWords_0 : decode cX2_fewestWords 0 = .ok (.aload_n 0, 1) := by decide +kernel
theorem dX2_fewestWords_1 : decode cX2_fewestWords 1 = .ok (.getfield 9, 3) := by decide +kernel
theorem dX2_fewestWords_4 : decode cX2_fewestWords 4 = .ok (.aload_n 1, 1) := by decide +kernel
theorem dX2_fewestWords_5 : decode cX2_fewestWords 5 = .ok (.getfield 15, 3) := by decide +kernel
theorem dX2_fewestWords_8 : decode cX2_fewestWords 8 = .ok (.iconst 0, 1) := by decide +kernel
theorem dX2_fewestWords_9 : decode cX2_fewestWords 9 = .ok (.iastore, 1) := by decide +kernel
theorem dX2_fewestWords_10 : decode cX2_fewestWords 10 = .ok (.aload_n 1, 1) := by decide +kernel
theorem dX2_fewestWords_11 : decode cX2_fewestWords 11 = .ok (.getfield 15, 3) := by decide +kernel
theorem dX2_fewestWords_14 : decode cX2_fewestWords 14 = .ok (.iconst 1, 1) := by decide +kernel
theorem dX2_fewestWords_15 : decode cX2_fewestWords 15 = .ok (.isub, 1) := by decide +kernel
theorem dX2_fewestWords_16 : decode cX2_fewestWords 16 = .ok (.istore_n 2, 1) := by decide +kernel
theorem dX2_fewestWords_17 : decode cX2_fewestWords 17 = .ok (.iload_n 2, 1) := by decide +kernel
theorem dX2_fewestWords_18 : decode cX2_fewestWords 18 = .ok (.ifCond .lt 67, 3) := by decide +kernel
theorem dX2_fewestWords_21 : decode cX2_fewestWords 21 = .ok (.aload_n 0, 1) := by decide +kernel
theorem dX2_fewestWords_22 : decode cX2_fewestWords 22 = .ok (.aload_n 1, 1) := by decide +kernel
theorem dX2_fewestWords_23 : decode cX2_fewestWords 23 = .ok (.iload_n 2, 1) := by decide +kernel
theorem dX2_fewestWords_24 : decode cX2_fewestWords 24 = .ok (.invokevirtual 46, 3) := by decide +kernel
theorem dX2_fewestWords_27 : decode cX2_fewestWords 27 = .ok (.istore_n 3, 1) := by decide +kernel
theorem dX2_fewestWords_28 : decode cX2_fewestWords 28 = .ok (.aload_n 0, 1) := by decide +kernel
theorem dX2_fewestWords_29 : decode cX2_fewestWords 29 = .ok (.getfield 9, 3) := by decide +kernel
theorem dX2_fewestWords_32 : decode cX2_fewestWords 32 = .ok (.iload_n 2, 1) := by decide +kernel
theorem dX2_fewestWords_33 : decode cX2_fewestWords 33 = .ok (.iconst 1, 1) := by decide +kernel
theorem dX2_fewestWords_34 : decode cX2_fewestWords 34 = .ok (.iadd, 1) := by decide +kernel
theorem dX2_fewestWords_35 : decode cX2_fewestWords 35 = .ok (.iaload, 1) := by decide +kernel
theorem dX2_fewestWords_36 : decode cX2_fewestWords 36 = .ok (.istore 4, 2) := by decide +kernel
theorem dX2_fewestWords_38 : decode cX2_fewestWords 38 = .ok (.iconst 2, 1) := by decide +kernel
theorem dX2_fewestWords_39 : decode cX2_fewestWords 39 = .ok (.istore 5, 2) := by decide +kernel
theorem dX2_fewestWords_41 : decode cX2_fewestWords 41 = .ok (.iload 5, 2) := by decide +kernel
theorem dX2_fewestWords_43 : decode cX2_fewestWords 43 = .ok (.iload_n 3, 1) := by decide +kernel
theorem dX2_fewestWords_44 : decode cX2_fewestWords 44 = .ok (.if_icmp .gt 25, 3) := by decide +kernel
theorem dX2_fewestWords_47 : decode cX2_fewestWords 47 = .ok (.iload 4, 2) := by decide +kernel
theorem dX2_fewestWords_49 : decode cX2_fewestWords 49 = .ok (.aload_n 0, 1) := by decide +kernel
theorem dX2_fewestWords_50 : decode cX2_fewestWords 50 = .ok (.getfield 9, 3) := by decide +kernel
theorem dX2_fewestWords_53 : decode cX2_fewestWords 53 = .ok (.iload_n 2, 1) := by decide +kernel
theorem dX2_fewestWords_54 : decode cX2_fewestWords 54 = .ok (.iload 5, 2) := by decide +kernel
theorem dX2_fewestWords_56 : decode cX2_fewestWords 56 = .ok (.iadd, 1) := by decide +kernel
theorem dX2_fewestWords_57 : decode cX2_fewestWords 57 = .ok (.iaload, 1) := by decide +kernel
theorem dX2_fewestWords_58 : decode cX2_fewestWords 58 = .ok (.invokestatic 40, 3) := by decide +kernel
theorem dX2_fewestWords_61 : decode cX2_fewestWords 61 = .ok (.istore 4, 2) := by decide +kernel
theorem dX2_fewestWords_63 : decode cX2_fewestWords 63 = .ok (.iinc 5 1, 3) := by decide +kernel
theorem dX2_fewestWords_66 : decode cX2_fewestWords 66 = .ok (.goto (-25), 3) := by decide +kernel
theorem dX2_fewestWords_69 : decode cX2_fewestWords 69 = .ok (.aload_n 0, 1) := by decide +kernel
theorem dX2_fewestWords_70 : decode cX2_fewestWords 70 = .ok (.getfield 9, 3) := by decide +kernel
theorem dX2_fewestWords_73 : decode cX2_fewestWords 73 = .ok (.iload_n 2, 1) := by decide +kernel
theorem dX2_fewestWords_74 : decode cX2_fewestWords 74 = .ok (.iload 4, 2) := by decide +kernel
theorem dX2_fewestWords_76 : decode cX2_fewestWords 76 = .ok (.iconst 1, 1) := by decide +kernel
theorem dX2_fewestWords_77 : decode cX2_fewestWords 77 = .ok (.iadd, 1) := by decide +kernel
theorem dX2_fewestWords_78 : decode cX2_fewestWords 78 = .ok (.iastore, 1) := by decide +kernel
theorem dX2_fewestWords_79 : decode cX2_fewestWords 79 = .ok (.iinc 2 (-1), 3) := by decide +kernel
theorem dX2_fewestWords_82 : decode cX2_fewestWords 82 = .ok (.goto (-65), 3) := by decide +kernel
theorem dX2_fewestWords_85 : decode cX2_fewestWords 85 = .ok (.aload_n 0, 1) := by decide +kernel
theorem dX2_fewestWords_86 : decode cX2_fewestWords 86 = .ok (.getfield 9, 3) := by decide +kernel
theorem dX2_fewestWords_89 : decode cX2_fewestWords 89 = .ok (.iconst 0, 1) := by decide +kernel
theorem dX2_fewestWords_90 : decode cX2_fewestWords 90 = .ok (.iaload, 1) := by decide +kernel
theorem dX2_fewestWords_91 : decode cX2_fewestWords 91 = .ok (.ireturn, 1) := by decide +kernel
theorem dX3_init_0 : decode cX3_init 0 = .ok (.aload_n 0, 1) := by decide +kernel
theorem dX3_init_1 : decode cX3_init 1 = .ok (.invokespecial 1, 3) := by decide +kernel
theorem dX3_init_4 : decode cX3_init 4 = .ok (.return_, 1) := by decide +kernel
theorem dX3_sizeFrom_0 : decode cX3_sizeFrom 0 = .ok (.iload_n 2, 1) := by decide +kernel
theorem dX3_sizeFrom_1 : decode cX3_sizeFrom 1 = .ok (.istore_n 3, 1) := by decide +kernel
theorem dX3_sizeFrom_2 : decode cX3_sizeFrom 2 = .ok (.iload_n 2, 1) := by decide +kernel
theorem dX3_sizeFrom_3 : decode cX3_sizeFrom 3 = .ok (.iconst 1, 1) := by decide +kernel
theorem dX3_sizeFrom_4 : decode cX3_sizeFrom 4 = .ok (.iadd, 1) := by decide +kernel
theorem dX3_sizeFrom_5 : decode cX3_sizeFrom 5 = .ok (.istore 4, 2) := by decide +kernel
theorem dX3_sizeFrom_7 : decode cX3_sizeFrom 7 = .ok (.iload 4, 2) := by decide +kernel
theorem dX3_sizeFrom_9 : decode cX3_sizeFrom 9 = .ok (.aload_n 1, 1) := by decide +kernel
theorem dX3_sizeFrom_10 : decode cX3_sizeFrom 10 = .ok (.getfield 7, 3) := by decide +kernel
theorem dX3_sizeFrom_13 : decode cX3_sizeFrom 13 = .ok (.if_icmp .ge 49, 3) := by decide +kernel
theorem dX3_sizeFrom_16 : decode cX3_sizeFrom 16 = .ok (.aload_n 1, 1) := by decide +kernel
theorem dX3_sizeFrom_17 : decode cX3_sizeFrom 17 = .ok (.getfield 13, 3) := by decide +kernel
theorem dX3_sizeFrom_20 : decode cX3_sizeFrom 20 = .ok (.iload_n 3, 1) := by decide +kernel
theorem dX3_sizeFrom_21 : decode cX3_sizeFrom 21 = .ok (.caload, 1) := by decide +kernel
theorem dX3_sizeFrom_22 : decode cX3_sizeFrom 22 = .ok (.aload_n 1, 1) := by decide +kernel
theorem dX3_sizeFrom_23 : decode cX3_sizeFrom 23 = .ok (.getfield 13, 3) := by decide +kernel
theorem dX3_sizeFrom_26 : decode cX3_sizeFrom 26 = .ok (.iload 4, 2) := by decide +kernel
theorem dX3_sizeFrom_28 : decode cX3_sizeFrom 28 = .ok (.caload, 1) := by decide +kernel
theorem dX3_sizeFrom_29 : decode cX3_sizeFrom 29 = .ok (.if_icmp .gt 33, 3) := by decide +kernel
theorem dX3_sizeFrom_32 : decode cX3_sizeFrom 32 = .ok (.aload_n 1, 1) := by decide +kernel
theorem dX3_sizeFrom_33 : decode cX3_sizeFrom 33 = .ok (.getfield 13, 3) := by decide +kernel
theorem dX3_sizeFrom_36 : decode cX3_sizeFrom 36 = .ok (.iload_n 3, 1) := by decide +kernel
theorem dX3_sizeFrom_37 : decode cX3_sizeFrom 37 = .ok (.caload, 1) := by decide +kernel
theorem dX3_sizeFrom_38 : decode cX3_sizeFrom 38 = .ok (.aload_n 1, 1) := by decide +kernel
theorem dX3_sizeFrom_39 : decode cX3_sizeFrom 39 = .ok (.getfield 13, 3) := by decide +kernel
theorem dX3_sizeFrom_42 : decode cX3_sizeFrom 42 = .ok (.iload 4, 2) := by decide +kernel
theorem dX3_sizeFrom_44 : decode cX3_sizeFrom 44 = .ok (.caload, 1) := by decide +kernel
theorem dX3_sizeFrom_45 : decode cX3_sizeFrom 45 = .ok (.if_icmp .ge 7, 3) := by decide +kernel
theorem dX3_sizeFrom_48 : decode cX3_sizeFrom 48 = .ok (.iload_n 2, 1) := by decide +kernel
theorem dX3_sizeFrom_49 : decode cX3_sizeFrom 49 = .ok (.goto 6, 3) := by decide +kernel
theorem dX3_sizeFrom_52 : decode cX3_sizeFrom 52 = .ok (.iload_n 3, 1) := by decide +kernel
theorem dX3_sizeFrom_53 : decode cX3_sizeFrom 53 = .ok (.iconst 1, 1) := by decide +kernel
theorem dX3_sizeFrom_54 : decode cX3_sizeFrom 54 = .ok (.iadd, 1) := by decide +kernel
theorem dX3_sizeFrom_55 : decode cX3_sizeFrom 55 = .ok (.istore_n 3, 1) := by decide +kernel
theorem dX3_sizeFrom_56 : decode cX3_sizeFrom 56 = .ok (.iinc 4 1, 3) := by decide +kernel
theorem dX3_sizeFrom_59 : decode cX3_sizeFrom 59 = .ok (.goto (-52), 3) := by decide +kernel
theorem dX3_sizeFrom_62 : decode cX3_sizeFrom 62 = .ok (.iload 4, 2) := by decide +kernel
theorem dX3_sizeFrom_64 : decode cX3_sizeFrom 64 = .ok (.iload_n 3, 1) := by decide +kernel
theorem dX3_sizeFrom_65 : decode cX3_sizeFrom 65 = .ok (.isub, 1) := by decide +kernel
theorem dX3_sizeFrom_66 : decode cX3_sizeFrom 66 = .ok (.ireturn, 1) := by decide +kernel
theorem dX3_agreesWith_0 : decode cX3_agreesWith 0 = .ok (.iconst 0, 1) := by decide +kernel
theorem dX3_agreesWith_1 : decode cX3_agreesWith 1 = .ok (.istore_n 2, 1) := by decide +kernel
theorem dX3_agreesWith_2 : decode cX3_agreesWith 2 = .ok (.aload_n 1, 1) := by decide +kernel
theorem dX3_agreesWith_3 : decode cX3_agreesWith 3 = .ok (.getfield 7, 3) := by decide +kernel
theorem dX3_agreesWith_6 : decode cX3_agreesWith 6 = .ok (.istore_n 3, 1) := by decide +kernel
theorem dX3_agreesWith_7 : decode cX3_agreesWith 7 = .ok (.iconst 0, 1) := by decide +kernel
theorem dX3_agreesWith_8 : decode cX3_agreesWith 8 = .ok (.istore 4, 2) := by decide +kernel
theorem dX3_agreesWith_10 : decode cX3_agreesWith 10 = .ok (.iload 4, 2) := by decide +kernel
theorem dX3_agreesWith_12 : decode cX3_agreesWith 12 = .ok (.aload_n 1, 1) := by decide +kernel
theorem dX3_agreesWith_13 : decode cX3_agreesWith 13 = .ok (.getfield 7, 3) := by decide +kernel
theorem dX3_agreesWith_16 : decode cX3_agreesWith 16 = .ok (.if_icmp .ge 68, 3) := by decide +kernel
theorem dX3_agreesWith_19 : decode cX3_agreesWith 19 = .ok (.aload_n 1, 1) := by decide +kernel
theorem dX3_agreesWith_20 : decode cX3_agreesWith 20 = .ok (.getfield 17, 3) := by decide +kernel
theorem dX3_agreesWith_23 : decode cX3_agreesWith 23 = .ok (.iload 4, 2) := by decide +kernel
theorem dX3_agreesWith_25 : decode cX3_agreesWith 25 = .ok (.iaload, 1) := by decide +kernel
theorem dX3_agreesWith_26 : decode cX3_agreesWith 26 = .ok (.iload_n 3, 1) := by decide +kernel
theorem dX3_agreesWith_27 : decode cX3_agreesWith 27 = .ok (.if_icmp .ge 7, 3) := by decide +kernel
theorem dX3_agreesWith_30 : decode cX3_agreesWith 30 = .ok (.iconst 1, 1) := by decide +kernel
theorem dX3_agreesWith_31 : decode cX3_agreesWith 31 = .ok (.goto 4, 3) := by decide +kernel
theorem dX3_agreesWith_34 : decode cX3_agreesWith 34 = .ok (.iconst 0, 1) := by decide +kernel
theorem dX3_agreesWith_35 : decode cX3_agreesWith 35 = .ok (.istore 5, 2) := by decide +kernel
theorem dX3_agreesWith_37 : decode cX3_agreesWith 37 = .ok (.iload 5, 2) := by decide +kernel
theorem dX3_agreesWith_39 : decode cX3_agreesWith 39 = .ok (.iload 4, 2) := by decide +kernel
theorem dX3_agreesWith_41 : decode cX3_agreesWith 41 = .ok (.iload_n 2, 1) := by decide +kernel
theorem dX3_agreesWith_42 : decode cX3_agreesWith 42 = .ok (.if_icmp .ne 7, 3) := by decide +kernel
theorem dX3_agreesWith_45 : decode cX3_agreesWith 45 = .ok (.iconst 1, 1) := by decide +kernel
theorem dX3_agreesWith_46 : decode cX3_agreesWith 46 = .ok (.goto 4, 3) := by decide +kernel
theorem dX3_agreesWith_49 : decode cX3_agreesWith 49 = .ok (.iconst 0, 1) := by decide +kernel
theorem dX3_agreesWith_50 : decode cX3_agreesWith 50 = .ok (.if_icmp .eq 5, 3) := by decide +kernel
theorem dX3_agreesWith_53 : decode cX3_agreesWith 53 = .ok (.iconst 0, 1) := by decide +kernel
theorem dX3_agreesWith_54 : decode cX3_agreesWith 54 = .ok (.ireturn, 1) := by decide +kernel
theorem dX3_agreesWith_55 : decode cX3_agreesWith 55 = .ok (.iload 5, 2) := by decide +kernel
theorem dX3_agreesWith_57 : decode cX3_agreesWith 57 = .ok (.ifCond .eq 21, 3) := by decide +kernel
theorem dX3_agreesWith_60 : decode cX3_agreesWith 60 = .ok (.aload_n 1, 1) := by decide +kernel
theorem dX3_agreesWith_61 : decode cX3_agreesWith 61 = .ok (.getfield 17, 3) := by decide +kernel
theorem dX3_agreesWith_64 : decode cX3_agreesWith 64 = .ok (.iload 4, 2) := by decide +kernel
theorem dX3_agreesWith_66 : decode cX3_agreesWith 66 = .ok (.iaload, 1) := by decide +kernel
theorem dX3_agreesWith_67 : decode cX3_agreesWith 67 = .ok (.istore_n 3, 1) := by decide +kernel
theorem dX3_agreesWith_68 : decode cX3_agreesWith 68 = .ok (.iload_n 2, 1) := by decide +kernel
theorem dX3_agreesWith_69 : decode cX3_agreesWith 69 = .ok (.aload_n 0, 1) := by decide +kernel
theorem dX3_agreesWith_70 : decode cX3_agreesWith 70 = .ok (.aload_n 1, 1) := by decide +kernel
theorem dX3_agreesWith_71 : decode cX3_agreesWith 71 = .ok (.iload 4, 2) := by decide +kernel
theorem dX3_agreesWith_73 : decode cX3_agreesWith 73 = .ok (.invokevirtual 21, 3) := by decide +kernel
theorem dX3_agreesWith_76 : decode cX3_agreesWith 76 = .ok (.iadd, 1) := by decide +kernel
theorem dX3_agreesWith_77 : decode cX3_agreesWith 77 = .ok (.istore_n 2, 1) := by decide +kernel
theorem dX3_agreesWith_78 : decode cX3_agreesWith 78 = .ok (.iinc 4 1, 3) := by decide +kernel
theorem dX3_agreesWith_81 : decode cX3_agreesWith 81 = .ok (.goto (-71), 3) := by decide +kernel
theorem dX3_agreesWith_84 : decode cX3_agreesWith 84 = .ok (.iconst 1, 1) := by decide +kernel
theorem dX3_agreesWith_85 : decode cX3_agreesWith 85 = .ok (.ireturn, 1) := by decide +kernel
theorem dX4_allSquares_0 : decode cX4_allSquares 0 = .ok (.iconst 0, 1) := by decide +kernel
theorem dX4_allSquares_1 : decode cX4_allSquares 1 = .ok (.istore_n 1, 1) := by decide +kernel
theorem dX4_allSquares_2 : decode cX4_allSquares 2 = .ok (.iconst 1, 1) := by decide +kernel
theorem dX4_allSquares_3 : decode cX4_allSquares 3 = .ok (.istore_n 2, 1) := by decide +kernel
theorem dX4_allSquares_4 : decode cX4_allSquares 4 = .ok (.iconst 2, 1) := by decide +kernel
theorem dX4_allSquares_5 : decode cX4_allSquares 5 = .ok (.iload_n 2, 1) := by decide +kernel
theorem dX4_allSquares_6 : decode cX4_allSquares 6 = .ok (.imul, 1) := by decide +kernel
theorem dX4_allSquares_7 : decode cX4_allSquares 7 = .ok (.aload_n 0, 1) := by decide +kernel
theorem dX4_allSquares_8 : decode cX4_allSquares 8 = .ok (.getfield 7, 3) := by decide +kernel
theorem dX4_allSquares_11 : decode cX4_allSquares 11 = .ok (.if_icmp .gt 67, 3) := by decide +kernel
theorem dX4_allSquares_14 : decode cX4_allSquares 14 = .ok (.iconst 0, 1) := by decide +kernel
theorem dX4_allSquares_15 : decode cX4_allSquares 15 = .ok (.istore_n 3, 1) := by decide +kernel
theorem dX4_allSquares_16 : decode cX4_allSquares 16 = .ok (.aload_n 0, 1) := by decide +kernel
theorem dX4_allSquares_17 : decode cX4_allSquares 17 = .ok (.getfield 7, 3) := by decide +kernel
theorem dX4_allSquares_20 : decode cX4_allSquares 20 = .ok (.iload_n 2, 1) := by decide +kernel
theorem dX4_allSquares_21 : decode cX4_allSquares 21 = .ok (.isub, 1) := by decide +kernel
theorem dX4_allSquares_22 : decode cX4_allSquares 22 = .ok (.iconst 1, 1) := by decide +kernel
theorem dX4_allSquares_23 : decode cX4_allSquares 23 = .ok (.isub, 1) := by decide +kernel
theorem dX4_allSquares_24 : decode cX4_allSquares 24 = .ok (.istore 4, 2) := by decide +kernel
theorem dX4_allSquares_26 : decode cX4_allSquares 26 = .ok (.iload 4, 2) := by decide +kernel
theorem dX4_allSquares_28 : decode cX4_allSquares 28 = .ok (.ifCond .lt 44, 3) := by decide +kernel
theorem dX4_allSquares_31 : decode cX4_allSquares 31 = .ok (.aload_n 0, 1) := by decide +kernel
theorem dX4_allSquares_32 : decode cX4_allSquares 32 = .ok (.getfield 13, 3) := by decide +kernel
theorem dX4_allSquares_35 : decode cX4_allSquares 35 = .ok (.iload 4, 2) := by decide +kernel
theorem dX4_allSquares_37 : decode cX4_allSquares 37 = .ok (.caload, 1) := by decide +kernel
theorem dX4_allSquares_38 : decode cX4_allSquares 38 = .ok (.aload_n 0, 1) := by decide +kernel
theorem dX4_allSquares_39 : decode cX4_allSquares 39 = .ok (.getfield 13, 3) := by decide +kernel
theorem dX4_allSquares_42 : decode cX4_allSquares 42 = .ok (.iload 4, 2) := by decide +kernel
theorem dX4_allSquares_44 : decode cX4_allSquares 44 = .ok (.iload_n 2, 1) := by decide +kernel
theorem dX4_allSquares_45 : decode cX4_allSquares 45 = .ok (.iadd, 1) := by decide +kernel
theorem dX4_allSquares_46 : decode cX4_allSquares 46 = .ok (.caload, 1) := by decide +kernel
theorem dX4_allSquares_47 : decode cX4_allSquares 47 = .ok (.if_icmp .ne 9, 3) := by decide +kernel
theorem dX4_allSquares_50 : decode cX4_allSquares 50 = .ok (.iload_n 3, 1) := by decide +kernel
theorem dX4_allSquares_51 : decode cX4_allSquares 51 = .ok (.iconst 1, 1) := by decide +kernel
theorem dX4_allSquares_52 : decode cX4_allSquares 52 = .ok (.iadd, 1) := by decide +kernel
theorem dX4_allSquares_53 : decode cX4_allSquares 53 = .ok (.goto 4, 3) := by decide +kernel
theorem dX4_allSquares_56 : decode cX4_allSquares 56 = .ok (.iconst 0, 1) := by decide +kernel
theorem dX4_allSquares_57 : decode cX4_allSquares 57 = .ok (.istore_n 3, 1) := by decide +kernel
theorem dX4_allSquares_58 : decode cX4_allSquares 58 = .ok (.iload_n 3, 1) := by decide +kernel
theorem dX4_allSquares_59 : decode cX4_allSquares 59 = .ok (.iload_n 2, 1) := by decide +kernel
theorem dX4_allSquares_60 : decode cX4_allSquares 60 = .ok (.if_icmp .lt 6, 3) := by decide +kernel
theorem dX4_allSquares_63 : decode cX4_allSquares 63 = .ok (.iinc 1 1, 3) := by decide +kernel
theorem dX4_allSquares_66 : decode cX4_allSquares 66 = .ok (.iinc 4 (-1), 3) := by decide +kernel
theorem dX4_allSquares_69 : decode cX4_allSquares 69 = .ok (.goto (-43), 3) := by decide +kernel
theorem dX4_allSquares_72 : decode cX4_allSquares 72 = .ok (.iinc 2 1, 3) := by decide +kernel
theorem dX4_allSquares_75 : decode cX4_allSquares 75 = .ok (.goto (-71), 3) := by decide +kernel
theorem dX4_allSquares_78 : decode cX4_allSquares 78 = .ok (.iload_n 1, 1) := by decide +kernel
theorem dX4_allSquares_79 : decode cX4_allSquares 79 = .ok (.ireturn, 1) := by decide +kernel
theorem dX4_leastPeriod_0 : decode cX4_leastPeriod 0 = .ok (.iconst 1, 1) := by decide +kernel
theorem dX4_leastPeriod_1 : decode cX4_leastPeriod 1 = .ok (.istore_n 1, 1) := by decide +kernel
theorem dX4_leastPeriod_2 : decode cX4_leastPeriod 2 = .ok (.iload_n 1, 1) := by decide +kernel
theorem dX4_leastPeriod_3 : decode cX4_leastPeriod 3 = .ok (.aload_n 0, 1) := by decide +kernel
theorem dX4_leastPeriod_4 : decode cX4_leastPeriod 4 = .ok (.getfield 7, 3) := by decide +kernel
theorem dX4_leastPeriod_7 : decode cX4_leastPeriod 7 = .ok (.if_icmp .ge 27, 3) := by decide +kernel
theorem dX4_leastPeriod_10 : decode cX4_leastPeriod 10 = .ok (.aload_n 0, 1) := by decide +kernel
theorem dX4_leastPeriod_11 : decode cX4_leastPeriod 11 = .ok (.iload_n 1, 1) := by decide +kernel
theorem dX4_leastPeriod_12 : decode cX4_leastPeriod 12 = .ok (.aload_n 0, 1) := by decide +kernel
theorem dX4_leastPeriod_13 : decode cX4_leastPeriod 13 = .ok (.iconst 0, 1) := by decide +kernel
theorem dX4_leastPeriod_14 : decode cX4_leastPeriod 14 = .ok (.invokevirtual 17, 3) := by decide +kernel
theorem dX4_leastPeriod_17 : decode cX4_leastPeriod 17 = .ok (.aload_n 0, 1) := by decide +kernel
theorem dX4_leastPeriod_18 : decode cX4_leastPeriod 18 = .ok (.getfield 7, 3) := by decide +kernel
theorem dX4_leastPeriod_21 : decode cX4_leastPeriod 21 = .ok (.iload_n 1, 1) := by decide +kernel
theorem dX4_leastPeriod_22 : decode cX4_leastPeriod 22 = .ok (.isub, 1) := by decide +kernel
theorem dX4_leastPeriod_23 : decode cX4_leastPeriod 23 = .ok (.if_icmp .ne 5, 3) := by decide +kernel
theorem dX4_leastPeriod_26 : decode cX4_leastPeriod 26 = .ok (.iload_n 1, 1) := by decide +kernel
theorem dX4_leastPeriod_27 : decode cX4_leastPeriod 27 = .ok (.ireturn, 1) := by decide +kernel
theorem dX4_leastPeriod_28 : decode cX4_leastPeriod 28 = .ok (.iinc 1 1, 3) := by decide +kernel
theorem dX4_leastPeriod_31 : decode cX4_leastPeriod 31 = .ok (.goto (-29), 3) := by decide +kernel
theorem dX4_leastPeriod_34 : decode cX4_leastPeriod 34 = .ok (.aload_n 0, 1) := by decide +kernel
theorem dX4_leastPeriod_35 : decode cX4_leastPeriod 35 = .ok (.getfield 7, 3) := by decide +kernel
theorem dX4_leastPeriod_38 : decode cX4_leastPeriod 38 = .ok (.ireturn, 1) := by decide +kernel
theorem dX5_init_0 : decode cX5_init 0 = .ok (.aload_n 0, 1) := by decide +kernel
theorem dX5_init_1 : decode cX5_init 1 = .ok (.invokespecial 3, 3) := by decide +kernel
theorem dX5_init_4 : decode cX5_init 4 = .ok (.aload_n 0, 1) := by decide +kernel
theorem dX5_init_5 : decode cX5_init 5 = .ok (.bipush 8, 2) := by decide +kernel
theorem dX5_init_7 : decode cX5_init 7 = .ok (.bipush 64, 2) := by decide +kernel
theorem dX5_init_9 : decode cX5_init 9 = .ok (.multianewarray 9 2, 4) := by decide +kernel
theorem dX5_init_13 : decode cX5_init 13 = .ok (.putfield 11, 3) := by decide +kernel
theorem dX5_init_16 : decode cX5_init 16 = .ok (.return_, 1) := by decide +kernel
theorem dX6_init_0 : decode cX6_init 0 = .ok (.aload_n 0, 1) := by decide +kernel
theorem dX6_init_1 : decode cX6_init 1 = .ok (.invokespecial 3, 3) := by decide +kernel
theorem dX6_init_4 : decode cX6_init 4 = .ok (.aload_n 0, 1) := by decide +kernel
theorem dX6_init_5 : decode cX6_init 5 = .ok (.bipush 64, 2) := by decide +kernel
theorem dX6_init_7 : decode cX6_init 7 = .ok (.newarray .char, 2) := by decide +kernel
theorem dX6_init_9 : decode cX6_init 9 = .ok (.putfield 9, 3) := by decide +kernel
theorem dX6_init_12 : decode cX6_init 12 = .ok (.aload_n 0, 1) := by decide +kernel
theorem dX6_init_13 : decode cX6_init 13 = .ok (.bipush 64, 2) := by decide +kernel
theorem dX6_init_15 : decode cX6_init 15 = .ok (.newarray .int, 2) := by decide +kernel
theorem dX6_init_17 : decode cX6_init 17 = .ok (.putfield 15, 3) := by decide +kernel
theorem dX6_init_20 : decode cX6_init 20 = .ok (.aload_n 0, 1) := by decide +kernel
theorem dX6_init_21 : decode cX6_init 21 = .ok (.bipush 64, 2) := by decide +kernel
theorem dX6_init_23 : decode cX6_init 23 = .ok (.newarray .int, 2) := by decide +kernel
theorem dX6_init_25 : decode cX6_init 25 = .ok (.putfield 19, 3) := by decide +kernel
theorem dX6_init_28 : decode cX6_init 28 = .ok (.aload_n 0, 1) := by decide +kernel
theorem dX6_init_29 : decode cX6_init 29 = .ok (.bipush 64, 2) := by decide +kernel
theorem dX6_init_31 : decode cX6_init 31 = .ok (.newarray .int, 2) := by decide +kernel
theorem dX6_init_33 : decode cX6_init 33 = .ok (.putfield 22, 3) := by decide +kernel
theorem dX6_init_36 : decode cX6_init 36 = .ok (.return_, 1) := by decide +kernel
theorem dX6_add_0 : decode cX6_add 0 = .ok (.iconst 0, 1) := by decide +kernel
theorem dX6_add_1 : decode cX6_add 1 = .ok (.istore_n 3, 1) := by decide +kernel
theorem dX6_add_2 : decode cX6_add 2 = .ok (.iload_n 3, 1) := by decide +kernel
theorem dX6_add_3 : decode cX6_add 3 = .ok (.iload_n 2, 1) := by decide +kernel
theorem dX6_add_4 : decode cX6_add 4 = .ok (.if_icmp .ge 43, 3) := by decide +kernel
theorem dX6_add_7 : decode cX6_add 7 = .ok (.aload_n 0, 1) := by decide +kernel
theorem dX6_add_8 : decode cX6_add 8 = .ok (.getfield 25, 3) := by decide +kernel
theorem dX6_add_11 : decode cX6_add 11 = .ok (.aload_n 0, 1) := by decide +kernel
theorem dX6_add_12 : decode cX6_add 12 = .ok (.getfield 9, 3) := by decide +kernel
theorem dX6_add_15 : decode cX6_add 15 = .ok (.arraylength, 1) := by decide +kernel
theorem dX6_add_16 : decode cX6_add 16 = .ok (.if_icmp .ge 31, 3) := by decide +kernel
theorem dX6_add_19 : decode cX6_add 19 = .ok (.aload_n 0, 1) := by decide +kernel
theorem dX6_add_20 : decode cX6_add 20 = .ok (.getfield 9, 3) := by decide +kernel
theorem dX6_add_23 : decode cX6_add 23 = .ok (.aload_n 0, 1) := by decide +kernel
theorem dX6_add_24 : decode cX6_add 24 = .ok (.getfield 25, 3) := by decide +kernel
theorem dX6_add_27 : decode cX6_add 27 = .ok (.aload_n 1, 1) := by decide +kernel
theorem dX6_add_28 : decode cX6_add 28 = .ok (.iload_n 3, 1) := by decide +kernel
theorem dX6_add_29 : decode cX6_add 29 = .ok (.caload, 1) := by decide +kernel
theorem dX6_add_30 : decode cX6_add 30 = .ok (.castore, 1) := by decide +kernel
theorem dX6_add_31 : decode cX6_add 31 = .ok (.aload_n 0, 1) := by decide +kernel
theorem dX6_add_32 : decode cX6_add 32 = .ok (.dup, 1) := by decide +kernel
theorem dX6_add_33 : decode cX6_add 33 = .ok (.getfield 25, 3) := by decide +kernel
theorem dX6_add_36 : decode cX6_add 36 = .ok (.iconst 1, 1) := by decide +kernel
theorem dX6_add_37 : decode cX6_add 37 = .ok (.iadd, 1) := by decide +kernel
theorem dX6_add_38 : decode cX6_add 38 = .ok (.putfield 25, 3) := by decide +kernel
theorem dX6_add_41 : decode cX6_add 41 = .ok (.iinc 3 1, 3) := by decide +kernel
theorem dX6_add_44 : decode cX6_add 44 = .ok (.goto (-42), 3) := by decide +kernel
theorem dX6_add_47 : decode cX6_add 47 = .ok (.return_, 1) := by decide +kernel
theorem dX6_addTurnedRound_0 : decode cX6_addTurnedRound 0 = .ok (.aload_n 1, 1) := by decide +kernel
theorem dX6_addTurnedRound_1 : decode cX6_addTurnedRound 1 = .ok (.getfield 25, 3) := by decide +kernel
theorem dX6_addTurnedRound_4 : decode cX6_addTurnedRound 4 = .ok (.iconst 1, 1) := by decide +kernel
theorem dX6_addTurnedRound_5 : decode cX6_addTurnedRound 5 = .ok (.isub, 1) := by decide +kernel
theorem dX6_addTurnedRound_6 : decode cX6_addTurnedRound 6 = .ok (.istore_n 2, 1) := by decide +kernel
theorem dX6_addTurnedRound_7 : decode cX6_addTurnedRound 7 = .ok (.iload_n 2, 1) := by decide +kernel
theorem dX6_addTurnedRound_8 : decode cX6_addTurnedRound 8 = .ok (.ifCond .lt 46, 3) := by decide +kernel
theorem dX6_addTurnedRound_11 : decode cX6_addTurnedRound 11 = .ok (.aload_n 0, 1) := by decide +kernel
theorem dX6_addTurnedRound_12 : decode cX6_addTurnedRound 12 = .ok (.getfield 25, 3) := by decide +kernel
theorem dX6_addTurnedRound_15 : decode cX6_addTurnedRound 15 = .ok (.aload_n 0, 1) := by decide +kernel
theorem dX6_addTurnedRound_16 : decode cX6_addTurnedRound 16 = .ok (.getfield 9, 3) := by decide +kernel
theorem dX6_addTurnedRound_19 : decode cX6_addTurnedRound 19 = .ok (.arraylength, 1) := by decide +kernel
theorem dX6_addTurnedRound_20 : decode cX6_addTurnedRound 20 = .ok (.if_icmp .ge 34, 3) := by decide +kernel
theorem dX6_addTurnedRound_23 : decode cX6_addTurnedRound 23 = .ok (.aload_n 0, 1) := by decide +kernel
theorem dX6_addTurnedRound_24 : decode cX6_addTurnedRound 24 = .ok (.getfield 9, 3) := by decide +kernel
theorem dX6_addTurnedRound_27 : decode cX6_addTurnedRound 27 = .ok (.aload_n 0, 1) := by decide +kernel
theorem dX6_addTurnedRound_28 : decode cX6_addTurnedRound 28 = .ok (.getfield 25, 3) := by decide +kernel
theorem dX6_addTurnedRound_31 : decode cX6_addTurnedRound 31 = .ok (.aload_n 1, 1) := by decide +kernel
theorem dX6_addTurnedRound_32 : decode cX6_addTurnedRound 32 = .ok (.getfield 9, 3) := by decide +kernel
theorem dX6_addTurnedRound_35 : decode cX6_addTurnedRound 35 = .ok (.iload_n 2, 1) := by decide +kernel
theorem dX6_addTurnedRound_36 : decode cX6_addTurnedRound 36 = .ok (.caload, 1) := by decide +kernel
theorem dX6_addTurnedRound_37 : decode cX6_addTurnedRound 37 = .ok (.castore, 1) := by decide +kernel
theorem dX6_addTurnedRound_38 : decode cX6_addTurnedRound 38 = .ok (.aload_n 0, 1) := by decide +kernel
theorem dX6_addTurnedRound_39 : decode cX6_addTurnedRound 39 = .ok (.dup, 1) := by decide +kernel
theorem dX6_addTurnedRound_40 : decode cX6_addTurnedRound 40 = .ok (.getfield 25, 3) := by decide +kernel
theorem dX6_addTurnedRound_43 : decode cX6_addTurnedRound 43 = .ok (.iconst 1, 1) := by decide +kernel
theorem dX6_addTurnedRound_44 : decode cX6_addTurnedRound 44 = .ok (.iadd, 1) := by decide +kernel
theorem dX6_addTurnedRound_45 : decode cX6_addTurnedRound 45 = .ok (.putfield 25, 3) := by decide +kernel
theorem dX6_addTurnedRound_48 : decode cX6_addTurnedRound 48 = .ok (.iinc 2 (-1), 3) := by decide +kernel
theorem dX6_addTurnedRound_51 : decode cX6_addTurnedRound 51 = .ok (.goto (-44), 3) := by decide +kernel
theorem dX6_addTurnedRound_54 : decode cX6_addTurnedRound 54 = .ok (.return_, 1) := by decide +kernel
theorem dX6_putAhead_0 : decode cX6_putAhead 0 = .ok (.aload_n 0, 1) := by decide +kernel
theorem dX6_putAhead_1 : decode cX6_putAhead 1 = .ok (.getfield 25, 3) := by decide +kernel
theorem dX6_putAhead_4 : decode cX6_putAhead 4 = .ok (.aload_n 0, 1) := by decide +kernel
theorem dX6_putAhead_5 : decode cX6_putAhead 5 = .ok (.getfield 9, 3) := by decide +kernel
theorem dX6_putAhead_8 : decode cX6_putAhead 8 = .ok (.arraylength, 1) := by decide +kernel
theorem dX6_putAhead_9 : decode cX6_putAhead 9 = .ok (.if_icmp .ge 49, 3) := by decide +kernel
theorem dX6_putAhead_12 : decode cX6_putAhead 12 = .ok (.aload_n 0, 1) := by decide +kernel
theorem dX6_putAhead_13 : decode cX6_putAhead 13 = .ok (.getfield 25, 3) := by decide +kernel
theorem dX6_putAhead_16 : decode cX6_putAhead 16 = .ok (.istore_n 2, 1) := by decide +kernel
theorem dX6_putAhead_17 : decode cX6_putAhead 17 = .ok (.iload_n 2, 1) := by decide +kernel
theorem dX6_putAhead_18 : decode cX6_putAhead 18 = .ok (.ifCond .le 23, 3) := by decide +kernel
theorem dX6_putAhead_21 : decode cX6_putAhead 21 = .ok (.aload_n 0, 1) := by decide +kernel
theorem dX6_putAhead_22 : decode cX6_putAhead 22 = .ok (.getfield 9, 3) := by decide +kernel
theorem dX6_putAhead_25 : decode cX6_putAhead 25 = .ok (.iload_n 2, 1) := by decide +kernel
theorem dX6_putAhead_26 : decode cX6_putAhead 26 = .ok (.aload_n 0, 1) := by decide +kernel
theorem dX6_putAhead_27 : decode cX6_putAhead 27 = .ok (.getfield 9, 3) := by decide +kernel
theorem dX6_putAhead_30 : decode cX6_putAhead 30 = .ok (.iload_n 2, 1) := by decide +kernel
theorem dX6_putAhead_31 : decode cX6_putAhead 31 = .ok (.iconst 1, 1) := by decide +kernel
theorem dX6_putAhead_32 : decode cX6_putAhead 32 = .ok (.isub, 1) := by decide +kernel
theorem dX6_putAhead_33 : decode cX6_putAhead 33 = .ok (.caload, 1) := by decide +kernel
theorem dX6_putAhead_34 : decode cX6_putAhead 34 = .ok (.castore, 1) := by decide +kernel
theorem dX6_putAhead_35 : decode cX6_putAhead 35 = .ok (.iinc 2 (-1), 3) := by decide +kernel
theorem dX6_putAhead_38 : decode cX6_putAhead 38 = .ok (.goto (-21), 3) := by decide +kernel
theorem dX6_putAhead_41 : decode cX6_putAhead 41 = .ok (.aload_n 0, 1) := by decide +kernel
theorem dX6_putAhead_42 : decode cX6_putAhead 42 = .ok (.getfield 9, 3) := by decide +kernel
theorem dX6_putAhead_45 : decode cX6_putAhead 45 = .ok (.iconst 0, 1) := by decide +kernel
theorem dX6_putAhead_46 : decode cX6_putAhead 46 = .ok (.iload_n 1, 1) := by decide +kernel
theorem dX6_putAhead_47 : decode cX6_putAhead 47 = .ok (.castore, 1) := by decide +kernel
theorem dX6_putAhead_48 : decode cX6_putAhead 48 = .ok (.aload_n 0, 1) := by decide +kernel
theorem dX6_putAhead_49 : decode cX6_putAhead 49 = .ok (.dup, 1) := by decide +kernel
theorem dX6_putAhead_50 : decode cX6_putAhead 50 = .ok (.getfield 25, 3) := by decide +kernel
theorem dX6_putAhead_53 : decode cX6_putAhead 53 = .ok (.iconst 1, 1) := by decide +kernel
theorem dX6_putAhead_54 : decode cX6_putAhead 54 = .ok (.iadd, 1) := by decide +kernel
theorem dX6_putAhead_55 : decode cX6_putAhead 55 = .ok (.putfield 25, 3) := by decide +kernel
theorem dX6_putAhead_58 : decode cX6_putAhead 58 = .ok (.return_, 1) := by decide +kernel
theorem dX6_dropFirst_0 : decode cX6_dropFirst 0 = .ok (.iconst 1, 1) := by decide +kernel
theorem dX6_dropFirst_1 : decode cX6_dropFirst 1 = .ok (.istore_n 1, 1) := by decide +kernel
theorem dX6_dropFirst_2 : decode cX6_dropFirst 2 = .ok (.iload_n 1, 1) := by decide +kernel
theorem dX6_dropFirst_3 : decode cX6_dropFirst 3 = .ok (.aload_n 0, 1) := by decide +kernel
theorem dX6_dropFirst_4 : decode cX6_dropFirst 4 = .ok (.getfield 25, 3) := by decide +kernel
theorem dX6_dropFirst_7 : decode cX6_dropFirst 7 = .ok (.if_icmp .ge 23, 3) := by decide +kernel
theorem dX6_dropFirst_10 : decode cX6_dropFirst 10 = .ok (.aload_n 0, 1) := by decide +kernel
theorem dX6_dropFirst_11 : decode cX6_dropFirst 11 = .ok (.getfield 9, 3) := by decide +kernel
theorem dX6_dropFirst_14 : decode cX6_dropFirst 14 = .ok (.iload_n 1, 1) := by decide +kernel
theorem dX6_dropFirst_15 : decode cX6_dropFirst 15 = .ok (.iconst 1, 1) := by decide +kernel
theorem dX6_dropFirst_16 : decode cX6_dropFirst 16 = .ok (.isub, 1) := by decide +kernel
theorem dX6_dropFirst_17 : decode cX6_dropFirst 17 = .ok (.aload_n 0, 1) := by decide +kernel
theorem dX6_dropFirst_18 : decode cX6_dropFirst 18 = .ok (.getfield 9, 3) := by decide +kernel
theorem dX6_dropFirst_21 : decode cX6_dropFirst 21 = .ok (.iload_n 1, 1) := by decide +kernel
theorem dX6_dropFirst_22 : decode cX6_dropFirst 22 = .ok (.caload, 1) := by decide +kernel
theorem dX6_dropFirst_23 : decode cX6_dropFirst 23 = .ok (.castore, 1) := by decide +kernel
theorem dX6_dropFirst_24 : decode cX6_dropFirst 24 = .ok (.iinc 1 1, 3) := by decide +kernel
theorem dX6_dropFirst_27 : decode cX6_dropFirst 27 = .ok (.goto (-25), 3) := by decide +kernel
theorem dX6_dropFirst_30 : decode cX6_dropFirst 30 = .ok (.aload_n 0, 1) := by decide +kernel
theorem dX6_dropFirst_31 : decode cX6_dropFirst 31 = .ok (.getfield 25, 3) := by decide +kernel
theorem dX6_dropFirst_34 : decode cX6_dropFirst 34 = .ok (.ifCond .le 13, 3) := by decide +kernel
theorem dX6_dropFirst_37 : decode cX6_dropFirst 37 = .ok (.aload_n 0, 1) := by decide +kernel
theorem dX6_dropFirst_38 : decode cX6_dropFirst 38 = .ok (.dup, 1) := by decide +kernel
theorem dX6_dropFirst_39 : decode cX6_dropFirst 39 = .ok (.getfield 25, 3) := by decide +kernel
theorem dX6_dropFirst_42 : decode cX6_dropFirst 42 = .ok (.iconst 1, 1) := by decide +kernel
theorem dX6_dropFirst_43 : decode cX6_dropFirst 43 = .ok (.isub, 1) := by decide +kernel
theorem dX6_dropFirst_44 : decode cX6_dropFirst 44 = .ok (.putfield 25, 3) := by decide +kernel
theorem dX6_dropFirst_47 : decode cX6_dropFirst 47 = .ok (.return_, 1) := by decide +kernel
theorem dX6_endsAboveWhole_0 : decode cX6_endsAboveWhole 0 = .ok (.aload_n 0, 1) := by decide +kernel
theorem dX6_endsAboveWhole_1 : decode cX6_endsAboveWhole 1 = .ok (.getfield 25, 3) := by decide +kernel
theorem dX6_endsAboveWhole_4 : decode cX6_endsAboveWhole 4 = .ok (.iconst 1, 1) := by decide +kernel
theorem dX6_endsAboveWhole_5 : decode cX6_endsAboveWhole 5 = .ok (.isub, 1) := by decide +kernel
theorem dX6_endsAboveWhole_6 : decode cX6_endsAboveWhole 6 = .ok (.aload_n 0, 1) := by decide +kernel
theorem dX6_endsAboveWhole_7 : decode cX6_endsAboveWhole 7 = .ok (.getfield 19, 3) := by decide +kernel
