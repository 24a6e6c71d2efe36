theorem dX0_init_0 : decode cX0_init 0 = .ok (.aload_n 0, 1) := by decide +kernel
theorem dX0_init_1 : decode cX0_init 1 = .ok (.invokespecial 1, 3) := by decide +kernel
theorem dX0_init_4 : decode cX0_init 4 = .ok (.return_, 1) := by decide +kernel
theorem dX0_allCuts_0 : decode cX0_allCuts 0 = .ok (.iconst 0, 1) := by decide +kernel
theorem dX0_allCuts_1 : decode cX0_allCuts 1 = .ok (.istore_n 2, 1) := by decide +kernel
theorem dX0_allCuts_2 : decode cX0_allCuts 2 = .ok (.iconst 0, 1) := by decide +kernel
theorem dX0_allCuts_3 : decode cX0_allCuts 3 = .ok (.istore_n 3, 1) := by decide +kernel
theorem dX0_allCuts_4 : decode cX0_allCuts 4 = .ok (.iconst 0, 1) := by decide +kernel
theorem dX0_allCuts_5 : decode cX0_allCuts 5 = .ok (.istore 4, 2) := by decide +kernel
theorem dX0_allCuts_7 : decode cX0_allCuts 7 = .ok (.iload 4, 2) := by decide +kernel
theorem dX0_allCuts_9 : decode cX0_allCuts 9 = .ok (.aload_n 1, 1) := by decide +kernel
theorem dX0_allCuts_10 : decode cX0_allCuts 10 = .ok (.getfield 7, 3) := by decide +kernel
theorem dX0_allCuts_13 : decode cX0_allCuts 13 = .ok (.if_icmp .ge 28, 3) := by decide +kernel
theorem dX0_allCuts_16 : decode cX0_allCuts 16 = .ok (.iload 4, 2) := by decide +kernel
theorem dX0_allCuts_18 : decode cX0_allCuts 18 = .ok (.iload_n 3, 1) := by decide +kernel
theorem dX0_allCuts_19 : decode cX0_allCuts 19 = .ok (.if_icmp .ne 16, 3) := by decide +kernel
theorem dX0_allCuts_22 : decode cX0_allCuts 22 = .ok (.iinc 2 1, 3) := by decide +kernel
theorem dX0_allCuts_25 : decode cX0_allCuts 25 = .ok (.iload_n 3, 1) := by decide +kernel
theorem dX0_allCuts_26 : decode cX0_allCuts 26 = .ok (.aload_n 0, 1) := by decide +kernel
theorem dX0_allCuts_27 : decode cX0_allCuts 27 = .ok (.aload_n 1, 1) := by decide +kernel
theorem dX0_allCuts_28 : decode cX0_allCuts 28 = .ok (.iload 4, 2) := by decide +kernel
theorem dX0_allCuts_30 : decode cX0_allCuts 30 = .ok (.invokevirtual 13, 3) := by decide +kernel
theorem dX0_allCuts_33 : decode cX0_allCuts 33 = .ok (.iadd, 1) := by decide +kernel
theorem dX0_allCuts_34 : decode cX0_allCuts 34 = .ok (.istore_n 3, 1) := by decide +kernel
theorem dX0_allCuts_35 : decode cX0_allCuts 35 = .ok (.iinc 4 1, 3) := by decide +kernel
theorem dX0_allCuts_38 : decode cX0_allCuts 38 = .ok (.goto (-31), 3) := by decide +kernel
theorem dX0_allCuts_41 : decode cX0_allCuts 41 = .ok (.iload_n 2, 1) := by decide +kernel
theorem dX0_allCuts_42 : decode cX0_allCuts 42 = .ok (.ireturn, 1) := by decide +kernel
theorem dX0_startOf_0 : decode cX0_startOf 0 = .ok (.iconst 0, 1) := by decide +kernel
theorem dX0_startOf_1 : decode cX0_startOf 1 = .ok (.istore_n 3, 1) := by decide +kernel
theorem dX0_startOf_2 : decode cX0_startOf 2 = .ok (.iconst 0, 1) := by decide +kernel
theorem dX0_startOf_3 : decode cX0_startOf 3 = .ok (.istore 4, 2) := by decide +kernel
theorem dX0_startOf_5 : decode cX0_startOf 5 = .ok (.iconst 0, 1) := by decide +kernel
theorem dX0_startOf_6 : decode cX0_startOf 6 = .ok (.istore 5, 2) := by decide +kernel
theorem dX0_startOf_8 : decode cX0_startOf 8 = .ok (.iload 5, 2) := by decide +kernel
theorem dX0_startOf_10 : decode cX0_startOf 10 = .ok (.aload_n 1, 1) := by decide +kernel
theorem dX0_startOf_11 : decode cX0_startOf 11 = .ok (.getfield 7, 3) := by decide +kernel
theorem dX0_startOf_14 : decode cX0_startOf 14 = .ok (.if_icmp .ge 39, 3) := by decide +kernel
theorem dX0_startOf_17 : decode cX0_startOf 17 = .ok (.iload 5, 2) := by decide +kernel
theorem dX0_startOf_19 : decode cX0_startOf 19 = .ok (.iload 4, 2) := by decide +kernel
theorem dX0_startOf_21 : decode cX0_startOf 21 = .ok (.if_icmp .ne 26, 3) := by decide +kernel
theorem dX0_startOf_24 : decode cX0_startOf 24 = .ok (.iload_n 3, 1) := by decide +kernel
theorem dX0_startOf_25 : decode cX0_startOf 25 = .ok (.iload_n 2, 1) := by decide +kernel
theorem dX0_startOf_26 : decode cX0_startOf 26 = .ok (.if_icmp .ne 6, 3) := by decide +kernel
theorem dX0_startOf_29 : decode cX0_startOf 29 = .ok (.iload 5, 2) := by decide +kernel
theorem dX0_startOf_31 : decode cX0_startOf 31 = .ok (.ireturn, 1) := by decide +kernel
theorem dX0_startOf_32 : decode cX0_startOf 32 = .ok (.iinc 3 1, 3) := by decide +kernel
theorem dX0_startOf_35 : decode cX0_startOf 35 = .ok (.iload 4, 2) := by decide +kernel
theorem dX0_startOf_37 : decode cX0_startOf 37 = .ok (.aload_n 0, 1) := by decide +kernel
theorem dX0_startOf_38 : decode cX0_startOf 38 = .ok (.aload_n 1, 1) := by decide +kernel
theorem dX0_startOf_39 : decode cX0_startOf 39 = .ok (.iload 5, 2) := by decide +kernel
theorem dX0_startOf_41 : decode cX0_startOf 41 = .ok (.invokevirtual 13, 3) := by decide +kernel
theorem dX0_startOf_44 : decode cX0_startOf 44 = .ok (.iadd, 1) := by decide +kernel
theorem dX0_startOf_45 : decode cX0_startOf 45 = .ok (.istore 4, 2) := by decide +kernel
theorem dX0_startOf_47 : decode cX0_startOf 47 = .ok (.iinc 5 1, 3) := by decide +kernel
theorem dX0_startOf_50 : decode cX0_startOf 50 = .ok (.goto (-42), 3) := by decide +kernel
theorem dX0_startOf_53 : decode cX0_startOf 53 = .ok (.aload_n 1, 1) := by decide +kernel
theorem dX0_startOf_54 : decode cX0_startOf 54 = .ok (.getfield 7, 3) := by decide +kernel
theorem dX0_startOf_57 : decode cX0_startOf 57 = .ok (.ireturn, 1) := by decide +kernel
theorem dX1_init_0 : decode cX1_init 0 = .ok (.aload_n 0, 1) := by decide +kernel
theorem dX1_init_1 : decode cX1_init 1 = .ok (.invokespecial 3, 3) := by decide +kernel
theorem dX1_init_4 : decode cX1_init 4 = .ok (.aload_n 0, 1) := by decide +kernel
theorem dX1_init_5 : decode cX1_init 5 = .ok (.bipush 65, 2) := by decide +kernel
theorem dX1_init_7 : decode cX1_init 7 = .ok (.newarray .int, 2) := by decide +kernel
theorem dX1_init_9 : decode cX1_init 9 = .ok (.putfield 9, 3) := by decide +kernel
theorem dX1_init_12 : decode cX1_init 12 = .ok (.aload_n 0, 1) := by decide +kernel
theorem dX1_init_13 : decode cX1_init 13 = .ok (.bipush 64, 2) := by decide +kernel
theorem dX1_init_15 : decode cX1_init 15 = .ok (.newarray .int, 2) := by decide +kernel
theorem dX1_init_17 : decode cX1_init 17 = .ok (.putfield 15, 3) := by decide +kernel
theorem dX1_init_20 : decode cX1_init 20 = .ok (.aload_n 0, 1) := by decide +kernel
theorem dX1_init_21 : decode cX1_init 21 = .ok (.bipush 64, 2) := by decide +kernel
theorem dX1_init_23 : decode cX1_init 23 = .ok (.newarray .int, 2) := by decide +kernel
theorem dX1_init_25 : decode cX1_init 25 = .ok (.putfield 18, 3) := by decide +kernel
theorem dX1_init_28 : decode cX1_init 28 = .ok (.return_, 1) := by decide +kernel
theorem dX1_sortEnds_0 : decode cX1_sortEnds 0 = .ok (.iconst 0, 1) := by decide +kernel
theorem dX1_sortEnds_1 : decode cX1_sortEnds 1 = .ok (.istore_n 2, 1) := by decide +kernel
theorem dX1_sortEnds_2 : decode cX1_sortEnds 2 = .ok (.iload_n 2, 1) := by decide +kernel
theorem dX1_sortEnds_3 : decode cX1_sortEnds 3 = .ok (.aload_n 1, 1) := by decide +kernel
theorem dX1_sortEnds_4 : decode cX1_sortEnds 4 = .ok (.getfield 21, 3) := by decide +kernel
theorem dX1_sortEnds_7 : decode cX1_sortEnds 7 = .ok (.if_icmp .ge 31, 3) := by decide +kernel
theorem dX1_sortEnds_10 : decode cX1_sortEnds 10 = .ok (.aload_n 1, 1) := by decide +kernel
theorem dX1_sortEnds_11 : decode cX1_sortEnds 11 = .ok (.getfield 27, 3) := by decide +kernel
theorem dX1_sortEnds_14 : decode cX1_sortEnds 14 = .ok (.iload_n 2, 1) := by decide +kernel
theorem dX1_sortEnds_15 : decode cX1_sortEnds 15 = .ok (.aload_n 1, 1) := by decide +kernel
theorem dX1_sortEnds_16 : decode cX1_sortEnds 16 = .ok (.getfield 30, 3) := by decide +kernel
theorem dX1_sortEnds_19 : decode cX1_sortEnds 19 = .ok (.iload_n 2, 1) := by decide +kernel
theorem dX1_sortEnds_20 : decode cX1_sortEnds 20 = .ok (.caload, 1) := by decide +kernel
theorem dX1_sortEnds_21 : decode cX1_sortEnds 21 = .ok (.bipush 97, 2) := by decide +kernel
theorem dX1_sortEnds_23 : decode cX1_sortEnds 23 = .ok (.isub, 1) := by decide +kernel
theorem dX1_sortEnds_24 : decode cX1_sortEnds 24 = .ok (.iastore, 1) := by decide +kernel
theorem dX1_sortEnds_25 : decode cX1_sortEnds 25 = .ok (.aload_n 0, 1) := by decide +kernel
theorem dX1_sortEnds_26 : decode cX1_sortEnds 26 = .ok (.getfield 15, 3) := by decide +kernel
theorem dX1_sortEnds_29 : decode cX1_sortEnds 29 = .ok (.iload_n 2, 1) := by decide +kernel
theorem dX1_sortEnds_30 : decode cX1_sortEnds 30 = .ok (.iload_n 2, 1) := by decide +kernel
theorem dX1_sortEnds_31 : decode cX1_sortEnds 31 = .ok (.iastore, 1) := by decide +kernel
theorem dX1_sortEnds_32 : decode cX1_sortEnds 32 = .ok (.iinc 2 1, 3) := by decide +kernel
theorem dX1_sortEnds_35 : decode cX1_sortEnds 35 = .ok (.goto (-33), 3) := by decide +kernel
theorem dX1_sortEnds_38 : decode cX1_sortEnds 38 = .ok (.aload_n 0, 1) := by decide +kernel
theorem dX1_sortEnds_39 : decode cX1_sortEnds 39 = .ok (.aload_n 1, 1) := by decide +kernel
theorem dX1_sortEnds_40 : decode cX1_sortEnds 40 = .ok (.invokevirtual 34, 3) := by decide +kernel
theorem dX1_sortEnds_43 : decode cX1_sortEnds 43 = .ok (.aload_n 0, 1) := by decide +kernel
theorem dX1_sortEnds_44 : decode cX1_sortEnds 44 = .ok (.aload_n 1, 1) := by decide +kernel
theorem dX1_sortEnds_45 : decode cX1_sortEnds 45 = .ok (.aload_n 1, 1) := by decide +kernel
theorem dX1_sortEnds_46 : decode cX1_sortEnds 46 = .ok (.getfield 21, 3) := by decide +kernel
theorem dX1_sortEnds_49 : decode cX1_sortEnds 49 = .ok (.invokevirtual 38, 3) := by decide +kernel
theorem dX1_sortEnds_52 : decode cX1_sortEnds 52 = .ok (.istore_n 2, 1) := by decide +kernel
theorem dX1_sortEnds_53 : decode cX1_sortEnds 53 = .ok (.iconst 1, 1) := by decide +kernel
theorem dX1_sortEnds_54 : decode cX1_sortEnds 54 = .ok (.istore_n 3, 1) := by decide +kernel
theorem dX1_sortEnds_55 : decode cX1_sortEnds 55 = .ok (.iload_n 3, 1) := by decide +kernel
theorem dX1_sortEnds_56 : decode cX1_sortEnds 56 = .ok (.aload_n 1, 1) := by decide +kernel
theorem dX1_sortEnds_57 : decode cX1_sortEnds 57 = .ok (.getfield 21, 3) := by decide +kernel
theorem dX1_sortEnds_60 : decode cX1_sortEnds 60 = .ok (.if_icmp .ge 36, 3) := by decide +kernel
theorem dX1_sortEnds_63 : decode cX1_sortEnds 63 = .ok (.iload_n 2, 1) := by decide +kernel
theorem dX1_sortEnds_64 : decode cX1_sortEnds 64 = .ok (.aload_n 1, 1) := by decide +kernel
theorem dX1_sortEnds_65 : decode cX1_sortEnds 65 = .ok (.getfield 21, 3) := by decide +kernel
theorem dX1_sortEnds_68 : decode cX1_sortEnds 68 = .ok (.if_icmp .ge 28, 3) := by decide +kernel
theorem dX1_sortEnds_71 : decode cX1_sortEnds 71 = .ok (.aload_n 0, 1) := by decide +kernel
theorem dX1_sortEnds_72 : decode cX1_sortEnds 72 = .ok (.aload_n 1, 1) := by decide +kernel
theorem dX1_sortEnds_73 : decode cX1_sortEnds 73 = .ok (.iload_n 3, 1) := by decide +kernel
theorem dX1_sortEnds_74 : decode cX1_sortEnds 74 = .ok (.invokevirtual 42, 3) := by decide +kernel
theorem dX1_sortEnds_77 : decode cX1_sortEnds 77 = .ok (.aload_n 0, 1) := by decide +kernel
theorem dX1_sortEnds_78 : decode cX1_sortEnds 78 = .ok (.aload_n 1, 1) := by decide +kernel
theorem dX1_sortEnds_79 : decode cX1_sortEnds 79 = .ok (.invokevirtual 34, 3) := by decide +kernel
theorem dX1_sortEnds_82 : decode cX1_sortEnds 82 = .ok (.aload_n 0, 1) := by decide +kernel
theorem dX1_sortEnds_83 : decode cX1_sortEnds 83 = .ok (.aload_n 1, 1) := by decide +kernel
theorem dX1_sortEnds_84 : decode cX1_sortEnds 84 = .ok (.iload_n 3, 1) := by decide +kernel
theorem dX1_sortEnds_85 : decode cX1_sortEnds 85 = .ok (.invokevirtual 38, 3) := by decide +kernel
theorem dX1_sortEnds_88 : decode cX1_sortEnds 88 = .ok (.istore_n 2, 1) := by decide +kernel
theorem dX1_sortEnds_89 : decode cX1_sortEnds 89 = .ok (.iload_n 3, 1) := by decide +kernel
theorem dX1_sortEnds_90 : decode cX1_sortEnds 90 = .ok (.iconst 2, 1) := by decide +kernel
theorem dX1_sortEnds_91 : decode cX1_sortEnds 91 = .ok (.imul, 1) := by decide +kernel
theorem dX1_sortEnds_92 : decode cX1_sortEnds 92 = .ok (.istore_n 3, 1) := by decide +kernel
theorem dX1_sortEnds_93 : decode cX1_sortEnds 93 = .ok (.goto (-38), 3) := by decide +kernel
theorem dX1_sortEnds_96 : decode cX1_sortEnds 96 = .ok (.aload_n 0, 1) := by decide +kernel
theorem dX1_sortEnds_97 : decode cX1_sortEnds 97 = .ok (.aload_n 1, 1) := by decide +kernel
theorem dX1_sortEnds_98 : decode cX1_sortEnds 98 = .ok (.invokevirtual 46, 3) := by decide +kernel
theorem dX1_sortEnds_101 : decode cX1_sortEnds 101 = .ok (.return_, 1) := by decide +kernel
theorem dX1_listBySecondHalf_0 : decode cX1_listBySecondHalf 0 = .ok (.iconst 0, 1) := by decide +kernel
theorem dX1_listBySecondHalf_1 : decode cX1_listBySecondHalf 1 = .ok (.istore_n 3, 1) := by decide +kernel
theorem dX1_listBySecondHalf_2 : decode cX1_listBySecondHalf 2 = .ok (.aload_n 1, 1) := by decide +kernel
theorem dX1_listBySecondHalf_3 : decode cX1_listBySecondHalf 3 = .ok (.getfield 21, 3) := by decide +kernel
theorem dX1_listBySecondHalf_6 : decode cX1_listBySecondHalf 6 = .ok (.iload_n 2, 1) := by decide +kernel
theorem dX1_listBySecondHalf_7 : decode cX1_listBySecondHalf 7 = .ok (.isub, 1) := by decide +kernel
theorem dX1_listBySecondHalf_8 : decode cX1_listBySecondHalf 8 = .ok (.istore 4, 2) := by decide +kernel
theorem dX1_listBySecondHalf_10 : decode cX1_listBySecondHalf 10 = .ok (.iload 4, 2) := by decide +kernel
theorem dX1_listBySecondHalf_12 : decode cX1_listBySecondHalf 12 = .ok (.aload_n 1, 1) := by decide +kernel
theorem dX1_listBySecondHalf_13 : decode cX1_listBySecondHalf 13 = .ok (.getfield 21, 3) := by decide +kernel
theorem dX1_listBySecondHalf_16 : decode cX1_listBySecondHalf 16 = .ok (.if_icmp .ge 20, 3) := by decide +kernel
theorem dX1_listBySecondHalf_19 : decode cX1_listBySecondHalf 19 = .ok (.aload_n 0, 1) := by decide +kernel
theorem dX1_listBySecondHalf_20 : decode cX1_listBySecondHalf 20 = .ok (.getfield 15, 3) := by decide +kernel
theorem dX1_listBySecondHalf_23 : decode cX1_listBySecondHalf 23 = .ok (.iload_n 3, 1) := by decide +kernel
theorem dX1_listBySecondHalf_24 : decode cX1_listBySecondHalf 24 = .ok (.iload 4, 2) := by decide +kernel
theorem dX1_listBySecondHalf_26 : decode cX1_listBySecondHalf 26 = .ok (.iastore, 1) := by decide +kernel
theorem dX1_listBySecondHalf_27 : decode cX1_listBySecondHalf 27 = .ok (.iinc 3 1, 3) := by decide +kernel
theorem dX1_listBySecondHalf_30 : decode cX1_listBySecondHalf 30 = .ok (.iinc 4 1, 3) := by decide +kernel
theorem dX1_listBySecondHalf_33 : decode cX1_listBySecondHalf 33 = .ok (.goto (-23), 3) := by decide +kernel
theorem dX1_listBySecondHalf_36 : decode cX1_listBySecondHalf 36 = .ok (.iconst 0, 1) := by decide +kernel
theorem dX1_listBySecondHalf_37 : decode cX1_listBySecondHalf 37 = .ok (.istore 4, 2) := by decide +kernel
theorem dX1_listBySecondHalf_39 : decode cX1_listBySecondHalf 39 = .ok (.iload 4, 2) := by decide +kernel
theorem dX1_listBySecondHalf_41 : decode cX1_listBySecondHalf 41 = .ok (.aload_n 1, 1) := by decide +kernel
theorem dX1_listBySecondHalf_42 : decode cX1_listBySecondHalf 42 = .ok (.getfield 21, 3) := by decide +kernel
theorem dX1_listBySecondHalf_45 : decode cX1_listBySecondHalf 45 = .ok (.if_icmp .ge 38, 3) := by decide +kernel
theorem dX1_listBySecondHalf_48 : decode cX1_listBySecondHalf 48 = .ok (.aload_n 1, 1) := by decide +kernel
theorem dX1_listBySecondHalf_49 : decode cX1_listBySecondHalf 49 = .ok (.getfield 49, 3) := by decide +kernel
theorem dX1_listBySecondHalf_52 : decode cX1_listBySecondHalf 52 = .ok (.iload 4, 2) := by decide +kernel
theorem dX1_listBySecondHalf_54 : decode cX1_listBySecondHalf 54 = .ok (.iaload, 1) := by decide +kernel
theorem dX1_listBySecondHalf_55 : decode cX1_listBySecondHalf 55 = .ok (.iload_n 2, 1) := by decide +kernel
theorem dX1_listBySecondHalf_56 : decode cX1_listBySecondHalf 56 = .ok (.if_icmp .lt 21, 3) := by decide +kernel
theorem dX1_listBySecondHalf_59 : decode cX1_listBySecondHalf 59 = .ok (.aload_n 0, 1) := by decide +kernel
theorem dX1_listBySecondHalf_60 : decode cX1_listBySecondHalf 60 = .ok (.getfield 15, 3) := by decide +kernel
theorem dX1_listBySecondHalf_63 : decode cX1_listBySecondHalf 63 = .ok (.iload_n 3, 1) := by decide +kernel
theorem dX1_listBySecondHalf_64 : decode cX1_listBySecondHalf 64 = .ok (.aload_n 1, 1) := by decide +kernel
theorem dX1_listBySecondHalf_65 : decode cX1_listBySecondHalf 65 = .ok (.getfield 49, 3) := by decide +kernel
theorem dX1_listBySecondHalf_68 : decode cX1_listBySecondHalf 68 = .ok (.iload 4, 2) := by decide +kernel
theorem dX1_listBySecondHalf_70 : decode cX1_listBySecondHalf 70 = .ok (.iaload, 1) := by decide +kernel
theorem dX1_listBySecondHalf_71 : decode cX1_listBySecondHalf 71 = .ok (.iload_n 2, 1) := by decide +kernel
theorem dX1_listBySecondHalf_72 : decode cX1_listBySecondHalf 72 = .ok (.isub, 1) := by decide +kernel
theorem dX1_listBySecondHalf_73 : decode cX1_listBySecondHalf 73 = .ok (.iastore, 1) := by decide +kernel
theorem dX1_listBySecondHalf_74 : decode cX1_listBySecondHalf 74 = .ok (.iinc 3 1, 3) := by decide +kernel
theorem dX1_listBySecondHalf_77 : decode cX1_listBySecondHalf 77 = .ok (.iinc 4 1, 3) := by decide +kernel
theorem dX1_listBySecondHalf_80 : decode cX1_listBySecondHalf 80 = .ok (.goto (-41), 3) := by decide +kernel
theorem dX1_listBySecondHalf_83 : decode cX1_listBySecondHalf 83 = .ok (.return_, 1) := by decide +kernel
theorem dX1_orderByClass_0 : decode cX1_orderByClass 0 = .ok (.iconst 0, 1) := by decide +kernel
theorem dX1_orderByClass_1 : decode cX1_orderByClass 1 = .ok (.istore_n 2, 1) := by decide +kernel
theorem dX1_orderByClass_2 : decode cX1_orderByClass 2 = .ok (.iload_n 2, 1) := by decide +kernel
theorem dX1_orderByClass_3 : decode cX1_orderByClass 3 = .ok (.aload_n 0, 1) := by decide +kernel
theorem dX1_orderByClass_4 : decode cX1_orderByClass 4 = .ok (.getfield 9, 3) := by decide +kernel
theorem dX1_orderByClass_7 : decode cX1_orderByClass 7 = .ok (.arraylength, 1) := by decide +kernel
theorem dX1_orderByClass_8 : decode cX1_orderByClass 8 = .ok (.if_icmp .ge 16, 3) := by decide +kernel
theorem dX1_orderByClass_11 : decode cX1_orderByClass 11 = .ok (.aload_n 0, 1) := by decide +kernel
theorem dX1_orderByClass_12 : decode cX1_orderByClass 12 = .ok (.getfield 9, 3) := by decide +kernel
theorem dX1_orderByClass_15 : decode cX1_orderByClass 15 = .ok (.iload_n 2, 1) := by decide +kernel
theorem dX1_orderByClass_16 : decode cX1_orderByClass 16 = .ok (.iconst 0, 1) := by decide +kernel
theorem dX1_orderByClass_17 : decode cX1_orderByClass 17 = .ok (.iastore, 1) := by decide +kernel
theorem dX1_orderByClass_18 : decode cX1_orderByClass 18 = .ok (.iinc 2 1, 3) := by decide +kernel
theorem dX1_orderByClass_21 : decode cX1_orderByClass 21 = .ok (.goto (-19), 3) := by decide +kernel
theorem dX1_orderByClass_24 : decode cX1_orderByClass 24 = .ok (.iconst 0, 1) := by decide +kernel
theorem dX1_orderByClass_25 : decode cX1_orderByClass 25 = .ok (.istore_n 2, 1) := by decide +kernel
theorem dX1_orderByClass_26 : decode cX1_orderByClass 26 = .ok (.iload_n 2, 1) := by decide +kernel
theorem dX1_orderByClass_27 : decode cX1_orderByClass 27 = .ok (.aload_n 1, 1) := by decide +kernel
theorem dX1_orderByClass_28 : decode cX1_orderByClass 28 = .ok (.getfield 21, 3) := by decide +kernel
theorem dX1_orderByClass_31 : decode cX1_orderByClass 31 = .ok (.if_icmp .ge 26, 3) := by decide +kernel
theorem dX1_orderByClass_34 : decode cX1_orderByClass 34 = .ok (.aload_n 0, 1) := by decide +kernel
theorem dX1_orderByClass_35 : decode cX1_orderByClass 35 = .ok (.getfield 9, 3) := by decide +kernel
theorem dX1_orderByClass_38 : decode cX1_orderByClass 38 = .ok (.aload_n 1, 1) := by decide +kernel
theorem dX1_orderByClass_39 : decode cX1_orderByClass 39 = .ok (.getfield 27, 3) := by decide +kernel
theorem dX1_orderByClass_42 : decode cX1_orderByClass 42 = .ok (.iload_n 2, 1) := by decide +kernel
theorem dX1_orderByClass_43 : decode cX1_orderByClass 43 = .ok (.iaload, 1) := by decide +kernel
theorem dX1_orderByClass_44 : decode cX1_orderByClass 44 = .ok (.iconst 1, 1) := by decide +kernel
theorem dX1_orderByClass_45 : decode cX1_orderByClass 45 = .ok (.iadd, 1) := by decide +kernel
theorem dX1_orderByClass_46 : decode cX1_orderByClass 46 = .ok (.dup2, 1) := by decide +kernel
theorem dX1_orderByClass_47 : decode cX1_orderByClass 47 = .ok (.iaload, 1) := by decide +kernel
theorem dX1_orderByClass_48 : decode cX1_orderByClass 48 = .ok (.iconst 1, 1) := by decide +kernel
theorem dX1_orderByClass_49 : decode cX1_orderByClass 49 = .ok (.iadd, 1) := by decide +kernel
theorem dX1_orderByClass_50 : decode cX1_orderByClass 50 = .ok (.iastore, 1) := by decide +kernel
theorem dX1_orderByClass_51 : decode cX1_orderByClass 51 = .ok (.iinc 2 1, 3) := by decide +kernel
theorem dX1_orderByClass_54 : decode cX1_orderByClass 54 = .ok (.goto (-28), 3) := by decide +kernel
theorem dX1_orderByClass_57 : decode cX1_orderByClass 57 = .ok (.iconst 1, 1) := by decide +kernel
theorem dX1_orderByClass_58 : decode cX1_orderByClass 58 = .ok (.istore_n 2, 1) := by decide +kernel
theorem dX1_orderByClass_59 : decode cX1_orderByClass 59 = .ok (.iload_n 2, 1) := by decide +kernel
theorem dX1_orderByClass_60 : decode cX1_orderByClass 60 = .ok (.aload_n 0, 1) := by decide +kernel
theorem dX1_orderByClass_61 : decode cX1_orderByClass 61 = .ok (.getfield 9, 3) := by decide +kernel
theorem dX1_orderByClass_64 : decode cX1_orderByClass 64 = .ok (.arraylength, 1) := by decide +kernel
theorem dX1_orderByClass_65 : decode cX1_orderByClass 65 = .ok (.if_icmp .ge 26, 3) := by decide +kernel
theorem dX1_orderByClass_68 : decode cX1_orderByClass 68 = .ok (.aload_n 0, 1) := by decide +kernel
theorem dX1_orderByClass_69 : decode cX1_orderByClass 69 = .ok (.getfield 9, 3) := by decide +kernel
theorem dX1_orderByClass_72 : decode cX1_orderByClass 72 = .ok (.iload_n 2, 1) := by decide +kernel
theorem dX1_orderByClass_73 : decode cX1_orderByClass 73 = .ok (.dup2, 1) := by decide +kernel
theorem dX1_orderByClass_74 : decode cX1_orderByClass 74 = .ok (.iaload, 1) := by decide +kernel
theorem dX1_orderByClass_75 : decode cX1_orderByClass 75 = .ok (.aload_n 0, 1) := by decide +kernel
theorem dX1_orderByClass_76 : decode cX1_orderByClass 76 = .ok (.getfield 9, 3) := by decide +kernel
theorem dX1_orderByClass_79 : decode cX1_orderByClass 79 = .ok (.iload_n 2, 1) := by decide +kernel
theorem dX1_orderByClass_80 : decode cX1_orderByClass 80 = .ok (.iconst 1, 1) := by decide +kernel
theorem dX1_orderByClass_81 : decode cX1_orderByClass 81 = .ok (.isub, 1) := by decide +kernel
theorem dX1_orderByClass_82 : decode cX1_orderByClass 82 = .ok (.iaload, 1) := by decide +kernel
theorem dX1_orderByClass_83 : decode cX1_orderByClass 83 = .ok (.iadd, 1) := by decide +kernel
theorem dX1_orderByClass_84 : decode cX1_orderByClass 84 = .ok (.iastore, 1) := by decide +kernel
theorem dX1_orderByClass_85 : decode cX1_orderByClass 85 = .ok (.iinc 2 1, 3) := by decide +kernel
theorem dX1_orderByClass_88 : decode cX1_orderByClass 88 = .ok (.goto (-29), 3) := by decide +kernel
theorem dX1_orderByClass_91 : decode cX1_orderByClass 91 = .ok (.iconst 0, 1) := by decide +kernel
theorem dX1_orderByClass_92 : decode cX1_orderByClass 92 = .ok (.istore_n 2, 1) := by decide +kernel
theorem dX1_orderByClass_93 : decode cX1_orderByClass 93 = .ok (.iload_n 2, 1) := by decide +kernel
theorem dX1_orderByClass_94 : decode cX1_orderByClass 94 = .ok (.aload_n 1, 1) := by decide +kernel
theorem dX1_orderByClass_95 : decode cX1_orderByClass 95 = .ok (.getfield 21, 3) := by decide +kernel
theorem dX1_orderByClass_98 : decode cX1_orderByClass 98 = .ok (.if_icmp .ge 48, 3) := by decide +kernel
theorem dX1_orderByClass_101 : decode cX1_orderByClass 101 = .ok (.aload_n 0, 1) := by decide +kernel
theorem dX1_orderByClass_102 : decode cX1_orderByClass 102 = .ok (.getfield 15, 3) := by decide +kernel
theorem dX1_orderByClass_105 : decode cX1_orderByClass 105 = .ok (.iload_n 2, 1) := by decide +kernel
theorem dX1_orderByClass_106 : decode cX1_orderByClass 106 = .ok (.iaload, 1) := by decide +kernel
theorem dX1_orderByClass_107 : decode cX1_orderByClass 107 = .ok (.istore_n 3, 1) := by decide +kernel
theorem dX1_orderByClass_108 : decode cX1_orderByClass 108 = .ok (.aload_n 1, 1) := by decide +kernel
theorem dX1_orderByClass_109 : decode cX1_orderByClass 109 = .ok (.getfield 27, 3) := by decide +kernel
theorem dX1_orderByClass_112 : decode cX1_orderByClass 112 = .ok (.iload_n 3, 1) := by decide +kernel
theorem dX1_orderByClass_113 : decode cX1_orderByClass 113 = .ok (.iaload, 1) := by decide +kernel
theorem dX1_orderByClass_114 : decode cX1_orderByClass 114 = .ok (.istore 4, 2) := by decide +kernel
theorem dX1_orderByClass_116 : decode cX1_orderByClass 116 = .ok (.aload_n 1, 1) := by decide +kernel
theorem dX1_orderByClass_117 : decode cX1_orderByClass 117 = .ok (.getfield 49, 3) := by decide +kernel
theorem dX1_orderByClass_120 : decode cX1_orderByClass 120 = .ok (.aload_n 0, 1) := by decide +kernel
theorem dX1_orderByClass_121 : decode cX1_orderByClass 121 = .ok (.getfield 9, 3) := by decide +kernel
theorem dX1_orderByClass_124 : decode cX1_orderByClass 124 = .ok (.iload 4, 2) := by decide +kernel
theorem dX1_orderByClass_126 : decode cX1_orderByClass 126 = .ok (.iaload, 1) := by decide +kernel
theorem dX1_orderByClass_127 : decode cX1_orderByClass 127 = .ok (.iload_n 3, 1) := by decide +kernel
theorem dX1_orderByClass_128 : decode cX1_orderByClass 128 = .ok (.iastore, 1) := by decide +kernel
theorem dX1_orderByClass_129 : decode cX1_orderByClass 129 = .ok (.aload_n 0, 1) := by decide +kernel
theorem dX1_orderByClass_130 : decode cX1_orderByClass 130 = .ok (.getfield 9, 3) := by decide +kernel
theorem dX1_orderByClass_133 : decode cX1_orderByClass 133 = .ok (.iload 4, 2) := by decide +kernel
theorem dX1_orderByClass_135 : decode cX1_orderByClass 135 = .ok (.dup2, 1) := by decide +kernel
theorem dX1_orderByClass_136 : decode cX1_orderByClass 136 = .ok (.iaload, 1) := by decide +kernel
theorem dX1_orderByClass_137 : decode cX1_orderByClass 137 = .ok (.iconst 1, 1) := by decide +kernel
theorem dX1_orderByClass_138 : decode cX1_orderByClass 138 = .ok (.iadd, 1) := by decide +kernel
theorem dX1_orderByClass_139 : decode cX1_orderByClass 139 = .ok (.iastore, 1) := by decide +kernel
theorem dX1_orderByClass_140 : decode cX1_orderByClass 140 = .ok (.iinc 2 1, 3) := by decide +kernel
theorem dX1_orderByClass_143 : decode cX1_orderByClass 143 = .ok (.goto (-50), 3) := by decide +kernel
theorem dX1_orderByClass_146 : decode cX1_orderByClass 146 = .ok (.return_, 1) := by decide +kernel
theorem dX1_numberClasses_0 : decode cX1_numberClasses 0 = .ok (.iconst 0, 1) := by decide +kernel
theorem dX1_numberClasses_1 : decode cX1_numberClasses 1 = .ok (.istore_n 3, 1) := by decide +kernel
theorem dX1_numberClasses_2 : decode cX1_numberClasses 2 = .ok (.iconst 0, 1) := by decide +kernel
theorem dX1_numberClasses_3 : decode cX1_numberClasses 3 = .ok (.istore 4, 2) := by decide +kernel
theorem dX1_numberClasses_5 : decode cX1_numberClasses 5 = .ok (.iload 4, 2) := by decide +kernel
theorem dX1_numberClasses_7 : decode cX1_numberClasses 7 = .ok (.aload_n 1, 1) := by decide +kernel
theorem dX1_numberClasses_8 : decode cX1_numberClasses 8 = .ok (.getfield 21, 3) := by decide +kernel
theorem dX1_numberClasses_11 : decode cX1_numberClasses 11 = .ok (.if_icmp .ge 56, 3) := by decide +kernel
theorem dX1_numberClasses_14 : decode cX1_numberClasses 14 = .ok (.aload_n 1, 1) := by decide +kernel
theorem dX1_numberClasses_15 : decode cX1_numberClasses 15 = .ok (.getfield 49, 3) := by decide +kernel
theorem dX1_numberClasses_18 : decode cX1_numberClasses 18 = .ok (.iload 4, 2) := by decide +kernel
theorem dX1_numberClasses_20 : decode cX1_numberClasses 20 = .ok (.iaload, 1) := by decide +kernel
theorem dX1_numberClasses_21 : decode cX1_numberClasses 21 = .ok (.istore 5, 2) := by decide +kernel
theorem dX1_numberClasses_23 : decode cX1_numberClasses 23 = .ok (.iload 4, 2) := by decide +kernel
theorem dX1_numberClasses_25 : decode cX1_numberClasses 25 = .ok (.ifCond .eq 23, 3) := by decide +kernel
theorem dX1_numberClasses_28 : decode cX1_numberClasses 28 = .ok (.aload_n 0, 1) := by decide +kernel
theorem dX1_numberClasses_29 : decode cX1_numberClasses 29 = .ok (.aload_n 1, 1) := by decide +kernel
theorem dX1_numberClasses_30 : decode cX1_numberClasses 30 = .ok (.aload_n 1, 1) := by decide +kernel
theorem dX1_numberClasses_31 : decode cX1_numberClasses 31 = .ok (.getfield 49, 3) := by decide +kernel
theorem dX1_numberClasses_34 : decode cX1_numberClasses 34 = .ok (.iload 4, 2) := by decide +kernel
theorem dX1_numberClasses_36 : decode cX1_numberClasses 36 = .ok (.iconst 1, 1) := by decide +kernel
theorem dX1_numberClasses_37 : decode cX1_numberClasses 37 = .ok (.isub, 1) := by decide +kernel
theorem dX1_numberClasses_38 : decode cX1_numberClasses 38 = .ok (.iaload, 1) := by decide +kernel
theorem dX1_numberClasses_39 : decode cX1_numberClasses 39 = .ok (.iload 5, 2) := by decide +kernel
theorem dX1_numberClasses_41 : decode cX1_numberClasses 41 = .ok (.iload_n 2, 1) := by decide +kernel
theorem dX1_numberClasses_42 : decode cX1_numberClasses 42 = .ok (.invokevirtual 52, 3) := by decide +kernel
theorem dX1_numberClasses_45 : decode cX1_numberClasses 45 = .ok (.ifCond .ne 6, 3) := by decide +kernel
theorem dX1_numberClasses_48 : decode cX1_numberClasses 48 = .ok (.iinc 3 1, 3) := by decide +kernel
theorem dX1_numberClasses_51 : decode cX1_numberClasses 51 = .ok (.aload_n 0, 1) := by decide +kernel
theorem dX1_numberClasses_52 : decode cX1_numberClasses 52 = .ok (.getfield 18, 3) := by decide +kernel
theorem dX1_numberClasses_55 : decode cX1_numberClasses 55 = .ok (.iload 5, 2) := by decide +kernel
theorem dX1_numberClasses_57 : decode cX1_numberClasses 57 = .ok (.iload_n 3, 1) := by decide +kernel
theorem dX1_numberClasses_58 : decode cX1_numberClasses 58 = .ok (.iconst 1, 1) := by decide +kernel
theorem dX1_numberClasses_59 : decode cX1_numberClasses 59 = .ok (.isub, 1) := by decide +kernel
theorem dX1_numberClasses_60 : decode cX1_numberClasses 60 = .ok (.iastore, 1) := by decide +kernel
theorem dX1_numberClasses_61 : decode cX1_numberClasses 61 = .ok (.iinc 4 1, 3) := by decide +kernel
theorem dX1_numberClasses_64 : decode cX1_numberClasses 64 = .ok (.goto (-59), 3) := by decide +kernel
theorem dX1_numberClasses_67 : decode cX1_numberClasses 67 = .ok (.iconst 0, 1) := by decide +kernel
theorem dX1_numberClasses_68 : decode cX1_numberClasses 68 = .ok (.istore 4, 2) := by decide +kernel
theorem dX1_numberClasses_70 : decode cX1_numberClasses 70 = .ok (.iload 4, 2) := by decide +kernel
theorem dX1_numberClasses_72 : decode cX1_numberClasses 72 = .ok (.aload_n 1, 1) := by decide +kernel
theorem dX1_numberClasses_73 : decode cX1_numberClasses 73 = .ok (.getfield 21, 3) := by decide +kernel
theorem dX1_numberClasses_76 : decode cX1_numberClasses 76 = .ok (.if_icmp .ge 23, 3) := by decide +kernel
theorem dX1_numberClasses_79 : decode cX1_numberClasses 79 = .ok (.aload_n 1, 1) := by decide +kernel
theorem dX1_numberClasses_80 : decode cX1_numberClasses 80 = .ok (.getfield 27, 3) := by decide +kernel
theorem dX1_numberClasses_83 : decode cX1_numberClasses 83 = .ok (.iload 4, 2) := by decide +kernel
theorem dX1_numberClasses_85 : decode cX1_numberClasses 85 = .ok (.aload_n 0, 1) := by decide +kernel
theorem dX1_numberClasses_86 : decode cX1_numberClasses 86 = .ok (.getfield 18, 3) := by decide +kernel
theorem dX1_numberClasses_89 : decode cX1_numberClasses 89 = .ok (.iload 4, 2) := by decide +kernel
theorem dX1_numberClasses_91 : decode cX1_numberClasses 91 = .ok (.iaload, 1) := by decide +kernel
theorem dX1_numberClasses_92 : decode cX1_numberClasses 92 = .ok (.iastore, 1) := by decide +kernel
theorem dX1_numberClasses_93 : decode cX1_numberClasses 93 = .ok (.iinc 4 1, 3) := by decide +kernel
theorem dX1_numberClasses_96 : decode cX1_numberClasses 96 = .ok (.goto (-26), 3) := by decide +kernel
theorem dX1_numberClasses_99 : decode cX1_numberClasses 99 = .ok (.iload_n 3, 1) := by decide +kernel
theorem dX1_numberClasses_100 : decode cX1_numberClasses 100 = .ok (.ireturn, 1) := by decide +kernel
theorem dX1_areAlike_0 : decode cX1_areAlike 0 = .ok (.aload_n 1, 1) := by decide +kernel
theorem dX1_areAlike_1 : decode cX1_areAlike 1 = .ok (.getfield 27, 3) := by decide +kernel
theorem dX1_areAlike_4 : decode cX1_areAlike 4 = .ok (.iload_n 2, 1) := by decide +kernel
theorem dX1_areAlike_5 : decode cX1_areAlike 5 = .ok (.iaload, 1) := by decide +kernel
theorem dX1_areAlike_6 : decode cX1_areAlike 6 = .ok (.aload_n 1, 1) := by decide +kernel
theorem dX1_areAlike_7 : decode cX1_areAlike 7 = .ok (.getfield 27, 3) := by decide +kernel
theorem dX1_areAlike_10 : decode cX1_areAlike 10 = .ok (.iload_n 3, 1) := by decide +kernel
theorem dX1_areAlike_11 : decode cX1_areAlike 11 = .ok (.iaload, 1) := by decide +kernel
theorem dX1_areAlike_12 : decode cX1_areAlike 12 = .ok (.if_icmp .ne 28, 3) := by decide +kernel
theorem dX1_areAlike_15 : decode cX1_areAlike 15 = .ok (.aload_n 0, 1) := by decide +kernel
theorem dX1_areAlike_16 : decode cX1_areAlike 16 = .ok (.aload_n 1, 1) := by decide +kernel
theorem dX1_areAlike_17 : decode cX1_areAlike 17 = .ok (.iload_n 2, 1) := by decide +kernel
theorem dX1_areAlike_18 : decode cX1_areAlike 18 = .ok (.iload 4, 2) := by decide +kernel
theorem dX1_areAlike_20 : decode cX1_areAlike 20 = .ok (.iadd, 1) := by decide +kernel
theorem dX1_areAlike_21 : decode cX1_areAlike 21 = .ok (.invokevirtual 56, 3) := by decide +kernel
theorem dX1_areAlike_24 : decode cX1_areAlike 24 = .ok (.aload_n 0, 1) := by decide +kernel
theorem dX1_areAlike_25 : decode cX1_areAlike 25 = .ok (.aload_n 1, 1) := by decide +kernel
theorem dX1_areAlike_26 : decode cX1_areAlike 26 = .ok (.iload_n 3, 1) := by decide +kernel
theorem dX1_areAlike_27 : decode cX1_areAlike 27 = .ok (.iload 4, 2) := by decide +kernel
theorem dX1_areAlike_29 : decode cX1_areAlike 29 = .ok (.iadd, 1) := by decide +kernel
theorem dX1_areAlike_30 : decode cX1_areAlike 30 = .ok (.invokevirtual 56, 3) := by decide +kernel
theorem dX1_areAlike_33 : decode cX1_areAlike 33 = .ok (.if_icmp .ne 7, 3) := by decide +kernel
theorem dX1_areAlike_36 : decode cX1_areAlike 36 = .ok (.iconst 1, 1) := by decide +kernel
theorem dX1_areAlike_37 : decode cX1_areAlike 37 = .ok (.goto 4, 3) := by decide +kernel
theorem dX1_areAlike_40 : decode cX1_areAlike 40 = .ok (.iconst 0, 1) := by decide +kernel
theorem dX1_areAlike_41 : decode cX1_areAlike 41 = .ok (.ireturn, 1) := by decide +kernel
theorem dX1_classBehind_0 : decode cX1_classBehind 0 = .ok (.iload_n 2, 1) := by decide +kernel
theorem dX1_classBehind_1 : decode cX1_classBehind 1 = .ok (.aload_n 1, 1) := by decide +kernel
theorem dX1_classBehind_2 : decode cX1_classBehind 2 = .ok (.getfield 21, 3) := by decide +kernel
theorem dX1_classBehind_5 : decode cX1_classBehind 5 = .ok (.if_icmp .ge 12, 3) := by decide +kernel
theorem dX1_classBehind_8 : decode cX1_classBehind 8 = .ok (.aload_n 1, 1) := by decide +kernel
theorem dX1_classBehind_9 : decode cX1_classBehind 9 = .ok (.getfield 27, 3) := by decide +kernel
theorem dX1_classBehind_12 : decode cX1_classBehind 12 = .ok (.iload_n 2, 1) := by decide +kernel
theorem dX1_classBehind_13 : decode cX1_classBehind 13 = .ok (.iaload, 1) := by decide +kernel
theorem dX1_classBehind_14 : decode cX1_classBehind 14 = .ok (.goto 4, 3) := by decide +kernel
theorem dX1_classBehind_17 : decode cX1_classBehind 17 = .ok (.iconst (-1), 1) := by decide +kernel
theorem dX1_classBehind_18 : decode cX1_classBehind 18 = .ok (.ireturn, 1) := by decide +kernel
theorem dX1_tellCommons_0 : decode cX1_tellCommons 0 = .ok (.iconst 0, 1) := by decide +kernel
theorem dX1_tellCommons_1 : decode cX1_tellCommons 1 = .ok (.istore_n 2, 1) := by decide +kernel
theorem dX1_tellCommons_2 : decode cX1_tellCommons 2 = .ok (.iconst 0, 1) := by decide +kernel
theorem dX1_tellCommons_3 : decode cX1_tellCommons 3 = .ok (.istore_n 3, 1) := by decide +kernel
theorem dX1_tellCommons_4 : decode cX1_tellCommons 4 = .ok (.iload_n 3, 1) := by decide +kernel
theorem dX1_tellCommons_5 : decode cX1_tellCommons 5 = .ok (.aload_n 1, 1) := by decide +kernel
theorem dX1_tellCommons_6 : decode cX1_tellCommons 6 = .ok (.getfield 21, 3) := by decide +kernel
theorem dX1_tellCommons_9 : decode cX1_tellCommons 9 = .ok (.if_icmp .ge 69, 3) := by decide +kernel
theorem dX1_tellCommons_12 : decode cX1_tellCommons 12 = .ok (.aload_n 1, 1) := by decide +kernel
theorem dX1_tellCommons_13 : decode cX1_tellCommons 13 = .ok (.getfield 27, 3) := by decide +kernel
theorem dX1_tellCommons_16 : decode cX1_tellCommons 16 = .ok (.iload_n 3, 1) := by decide +kernel
theorem dX1_tellCommons_17 : decode cX1_tellCommons 17 = .ok (.iaload, 1) := by decide +kernel
theorem dX1_tellCommons_18 : decode cX1_tellCommons 18 = .ok (.istore 4, 2) := by decide +kernel
theorem dX1_tellCommons_20 : decode cX1_tellCommons 20 = .ok (.iload 4, 2) := by decide +kernel
theorem dX1_tellCommons_22 : decode cX1_tellCommons 22 = .ok (.ifCond .ne 8, 3) := by decide +kernel
theorem dX1_tellCommons_25 : decode cX1_tellCommons 25 = .ok (.iconst 0, 1) := by decide +kernel
theorem dX1_tellCommons_26 : decode cX1_tellCommons 26 = .ok (.istore_n 2, 1) := by decide +kernel
theorem dX1_tellCommons_27 : decode cX1_tellCommons 27 = .ok (.goto 37, 3) := by decide +kernel
theorem dX1_tellCommons_30 : decode cX1_tellCommons 30 = .ok (.aload_n 1, 1) := by decide +kernel
theorem dX1_tellCommons_31 : decode cX1_tellCommons 31 = .ok (.getfield 49, 3) := by decide +kernel
theorem dX1_tellCommons_34 : decode cX1_tellCommons 34 = .ok (.iload 4, 2) := by decide +kernel
theorem dX1_tellCommons_36 : decode cX1_tellCommons 36 = .ok (.iconst 1, 1) := by decide +kernel
theorem dX1_tellCommons_37 : decode cX1_tellCommons 37 = .ok (.isub, 1) := by decide +kernel
theorem dX1_tellCommons_38 : decode cX1_tellCommons 38 = .ok (.iaload, 1) := by decide +kernel
theorem dX1_tellCommons_39 : decode cX1_tellCommons 39 = .ok (.istore 5, 2) := by decide +kernel
theorem dX1_tellCommons_41 : decode cX1_tellCommons 41 = .ok (.iload_n 2, 1) := by decide +kernel
theorem dX1_tellCommons_42 : decode cX1_tellCommons 42 = .ok (.iconst 1, 1) := by decide +kernel
theorem dX1_tellCommons_43 : decode cX1_tellCommons 43 = .ok (.isub, 1) := by decide +kernel
theorem dX1_tellCommons_44 : decode cX1_tellCommons 44 = .ok (.iconst 0, 1) := by decide +kernel
theorem dX1_tellCommons_45 : decode cX1_tellCommons 45 = .ok (.invokestatic 59, 3) := by decide +kernel
theorem dX1_tellCommons_48 : decode cX1_tellCommons 48 = .ok (.istore_n 2, 1) := by decide +kernel
theorem dX1_tellCommons_49 : decode cX1_tellCommons 49 = .ok (.iload_n 2, 1) := by decide +kernel
theorem dX1_tellCommons_50 : decode cX1_tellCommons 50 = .ok (.aload_n 1, 1) := by decide +kernel
theorem dX1_tellCommons_51 : decode cX1_tellCommons 51 = .ok (.iload_n 3, 1) := by decide +kernel
theorem dX1_tellCommons_52 : decode cX1_tellCommons 52 = .ok (.iload_n 2, 1) := by decide +kernel
theorem dX1_tellCommons_53 : decode cX1_tellCommons 53 = .ok (.iadd, 1) := by decide +kernel
theorem dX1_tellCommons_54 : decode cX1_tellCommons 54 = .ok (.aload_n 1, 1) := by decide +kernel
theorem dX1_tellCommons_55 : decode cX1_tellCommons 55 = .ok (.iload 5, 2) := by decide +kernel
theorem dX1_tellCommons_57 : decode cX1_tellCommons 57 = .ok (.iload_n 2, 1) := by decide +kernel
theorem dX1_tellCommons_58 : decode cX1_tellCommons 58 = .ok (.iadd, 1) := by decide +kernel
theorem dX1_tellCommons_59 : decode cX1_tellCommons 59 = .ok (.invokevirtual 65, 3) := by decide +kernel
theorem dX1_tellCommons_62 : decode cX1_tellCommons 62 = .ok (.iadd, 1) := by decide +kernel
theorem dX1_tellCommons_63 : decode cX1_tellCommons 63 = .ok (.istore_n 2, 1) := by decide +kernel
theorem dX1_tellCommons_64 : decode cX1_tellCommons 64 = .ok (.aload_n 1, 1) := by decide +kernel
theorem dX1_tellCommons_65 : decode cX1_tellCommons 65 = .ok (.getfield 69, 3) := by decide +kernel
theorem dX1_tellCommons_68 : decode cX1_tellCommons 68 = .ok (.iload 4, 2) := by decide +kernel
theorem dX1_tellCommons_70 : decode cX1_tellCommons 70 = .ok (.iload_n 2, 1) := by decide +kernel
theorem dX1_tellCommons_71 : decode cX1_tellCommons 71 = .ok (.iastore, 1) := by decide +kernel
theorem dX1_tellCommons_72 : decode cX1_tellCommons 72 = .ok (.iinc 3 1, 3) := by decide +kernel
theorem dX1_tellCommons_75 : decode cX1_tellCommons 75 = .ok (.goto (-71), 3) := by decide +kernel
theorem dX1_tellCommons_78 : decode cX1_tellCommons 78 = .ok (.return_, 1) := by decide +kernel
theorem dX2_init_0 : decode cX2_init 0 = .ok (.aload_n 0, 1) := by decide +kernel
theorem dX2_init_1 : decode cX2_init 1 = .ok (.invokespecial 3, 3) := by decide +kernel
theorem dX2_init_4 : decode cX2_init 4 = .ok (.aload_n 0, 1) := by decide +kernel
theorem dX2_init_5 : decode cX2_init 5 = .ok (.bipush 65, 2) := by decide +kernel
theorem dX2_init_7 : decode cX2_init 7 = .ok (.newarray .int, 2) := by decide +kernel
theorem dX2_init_9 : decode cX2_init 9 = .ok (.putfield 9, 3) := by decide +kernel
theorem dX2_init_12 : decode cX2_init 12 = .ok (.return_, 1) := by decide +kernel
theorem dX2_sizeFrom_0 : decode cX2_sizeFrom 0 = .ok (.iconst 1, 1) := by decide +kernel
theorem dX2_sizeFrom_1 : decode cX2_sizeFrom 1 = .ok (.istore_n 3, 1) := by decide +kernel
theorem dX2_sizeFrom_2 : decode cX2_sizeFrom 2 = .ok (.iload_n 2, 1) := by decide +kernel
theorem dX2_sizeFrom_3 : decode cX2_sizeFrom 3 = .ok (.aload_n 1, 1) := by decide +kernel
theorem dX2_sizeFrom_4 : decode cX2_sizeFrom 4 = .ok (.getfield 15, 3) := by decide +kernel
theorem dX2_sizeFrom_7 : decode cX2_sizeFrom 7 = .ok (.if_icmp .ge 25, 3) := by decide +kernel
theorem dX2_sizeFrom_10 : decode cX2_sizeFrom 10 = .ok (.iload_n 3, 1) := by decide +kernel
theorem dX2_sizeFrom_11 : decode cX2_sizeFrom 11 = .ok (.aload_n 0, 1) := by decide +kernel
theorem dX2_sizeFrom_12 : decode cX2_sizeFrom 12 = .ok (.aload_n 1, 1) := by decide +kernel
theorem dX2_sizeFrom_13 : decode cX2_sizeFrom 13 = .ok (.iload_n 2, 1) := by decide +kernel
theorem dX2_sizeFrom_14 : decode cX2_sizeFrom 14 = .ok (.invokevirtual 21, 3) := by decide +kernel
theorem dX2_sizeFrom_17 : decode cX2_sizeFrom 17 = .ok (.invokestatic 25, 3) := by decide +kernel
theorem dX2_sizeFrom_20 : decode cX2_sizeFrom 20 = .ok (.istore_n 3, 1) := by decide +kernel
theorem dX2_sizeFrom_21 : decode cX2_sizeFrom 21 = .ok (.iload_n 3, 1) := by decide +kernel
theorem dX2_sizeFrom_22 : decode cX2_sizeFrom 22 = .ok (.aload_n 0, 1) := by decide +kernel
theorem dX2_sizeFrom_23 : decode cX2_sizeFrom 23 = .ok (.aload_n 1, 1) := by decide +kernel
theorem dX2_sizeFrom_24 : decode cX2_sizeFrom 24 = .ok (.iload_n 2, 1) := by decide +kernel
theorem dX2_sizeFrom_25 : decode cX2_sizeFrom 25 = .ok (.invokevirtual 31, 3) := by decide +kernel
theorem dX2_sizeFrom_28 : decode cX2_sizeFrom 28 = .ok (.invokestatic 25, 3) := by decide +kernel
theorem dX2_sizeFrom_31 : decode cX2_sizeFrom 31 = .ok (.istore_n 3, 1) := by decide +kernel
theorem dX2_sizeFrom_32 : decode cX2_sizeFrom 32 = .ok (.iload_n 3, 1) := by decide +kernel
theorem dX2_sizeFrom_33 : decode cX2_sizeFrom 33 = .ok (.ireturn, 1) := by decide +kernel
theorem dX2_commonWithLowerAhead_0 : decode cX2_commonWithLowerAhead 0 = .ok (.aload_n 1, 1) := by decide +kernel
theorem dX2_commonWithLowerAhead_1 : decode cX2_commonWithLowerAhead 1 = .ok (.getfield 15, 3) := by decide +kernel
theorem dX2_commonWithLowerAhead_4 : decode cX2_commonWithLowerAhead 4 = .ok (.iload_n 2, 1) := by decide +kernel
theorem dX2_commonWithLowerAhead_5 : decode cX2_commonWithLowerAhead 5 = .ok (.isub, 1) := by decide +kernel
theorem dX2_commonWithLowerAhead_6 : decode cX2_commonWithLowerAhead 6 = .ok (.istore_n 3, 1) := by decide +kernel
theorem dX2_commonWithLowerAhead_7 : decode cX2_commonWithLowerAhead 7 = .ok (.aload_n 1, 1) := by decide +kernel
theorem dX2_commonWithLowerAhead_8 : decode cX2_commonWithLowerAhead 8 = .ok (.getfield 34, 3) := by decide +kernel
theorem dX2_commonWithLowerAhead_11 : decode cX2_commonWithLowerAhead 11 = .ok (.iload_n 2, 1) := by decide +kernel
theorem dX2_commonWithLowerAhead_12 : decode cX2_commonWithLowerAhead 12 = .ok (.iaload, 1) := by decide +kernel
theorem dX2_commonWithLowerAhead_13 : decode cX2_commonWithLowerAhead 13 = .ok (.istore 4, 2) := by decide +kernel
theorem dX2_commonWithLowerAhead_15 : decode cX2_commonWithLowerAhead 15 = .ok (.iload 4, 2) := by decide +kernel
theorem dX2_commonWithLowerAhead_17 : decode cX2_commonWithLowerAhead 17 = .ok (.ifCond .le 36, 3) := by decide +kernel
theorem dX2_commonWithLowerAhead_20 : decode cX2_commonWithLowerAhead 20 = .ok (.iload_n 3, 1) := by decide +kernel
theorem dX2_commonWithLowerAhead_21 : decode cX2_commonWithLowerAhead 21 = .ok (.aload_n 1, 1) := by decide +kernel
theorem dX2_commonWithLowerAhead_22 : decode cX2_commonWithLowerAhead 22 = .ok (.getfield 37, 3) := by decide +kernel
theorem dX2_commonWithLowerAhead_25 : decode cX2_commonWithLowerAhead 25 = .ok (.iload 4, 2) := by decide +kernel
theorem dX2_commonWithLowerAhead_27 : decode cX2_commonWithLowerAhead 27 = .ok (.iaload, 1) := by decide +kernel
theorem dX2_commonWithLowerAhead_28 : decode cX2_commonWithLowerAhead 28 = .ok (.invokestatic 40, 3) := by decide +kernel
theorem dX2_commonWithLowerAhead_31 : decode cX2_commonWithLowerAhead 31 = .ok (.istore_n 3, 1) := by decide +kernel
theorem dX2_commonWithLowerAhead_32 : decode cX2_commonWithLowerAhead 32 = .ok (.aload_n 1, 1) := by decide +kernel
theorem dX2_commonWithLowerAhead_33 : decode cX2_commonWithLowerAhead 33 = .ok (.getfield 43, 3) := by decide +kernel
theorem dX2_commonWithLowerAhead_36 : decode cX2_commonWithLowerAhead 36 = .ok (.iload 4, 2) := by decide +kernel
theorem dX2_commonWithLowerAhead_38 : decode cX2_commonWithLowerAhead 38 = .ok (.iconst 1, 1) := by decide +kernel
theorem dX2_commonWithLowerAhead_39 : decode cX2_commonWithLowerAhead 39 = .ok (.isub, 1) := by decide +kernel
theorem dX2_commonWithLowerAhead_40 : decode cX2_commonWithLowerAhead 40 = .ok (.iaload, 1) := by decide +kernel
theorem dX2_commonWithLowerAhead_41 : decode cX2_commonWithLowerAhead 41 = .ok (.iload_n 2, 1) := by decide +kernel
theorem dX2_commonWithLowerAhead_42 : decode cX2_commonWithLowerAhead 42 = .ok (.if_icmp .ge 5, 3) := by decide +kernel
theorem dX2_commonWithLowerAhead_45 : decode cX2_commonWithLowerAhead 45 = .ok (.iload_n 3, 1) := by decide +kernel
theorem dX2_commonWithLowerAhead_46 : decode cX2_commonWithLowerAhead 46 = .ok (.ireturn, 1) := by decide +kernel
theorem dX2_commonWithLowerAhead_47 : decode cX2_commonWithLowerAhead 47 = .ok (.iinc 4 (-1), 3) := by decide +kernel
theorem dX2_commonWithLowerAhead_50 : decode cX2_commonWithLowerAhead 50 = .ok (.goto (-35), 3) := by decide +kernel
theorem dX2_commonWithLowerAhead_53 : decode cX2_commonWithLowerAhead 53 = .ok (.iconst 0, 1) := by decide +kernel
theorem dX2_commonWithLowerAhead_54 : decode cX2_commonWithLowerAhead 54 = .ok (.ireturn, 1) := by decide +kernel
theorem dX2_commonWithUpperAhead_0 : decode cX2_commonWithUpperAhead 0 = .ok (.aload_n 1, 1) := by decide +kernel
theorem dX2_commonWithUpperAhead_1 : decode cX2_commonWithUpperAhead 1 = .ok (.getfield 15, 3) := by decide +kernel
theorem dX2_commonWithUpperAhead_4 : decode cX2_commonWithUpperAhead 4 = .ok (.iload_n 2, 1) := by decide +kernel
theorem dX2_commonWithUpperAhead_5 : decode cX2_commonWithUpperAhead 5 = .ok (.isub, 1) := by decide +kernel
theorem dX2_commonWithUpperAhead_6 : decode cX2_commonWithUpperAhead 6 = .ok (.istore_n 3, 1) := by decide +kernel
theorem dX2_commonWithUpperAhead_7 : decode cX2_commonWithUpperAhead 7 = .ok (.aload_n 1, 1) := by decide +kernel
theorem dX2_commonWithUpperAhead_8 : decode cX2_commonWithUpperAhead 8 = .ok (.getfield 34, 3) := by decide +kernel
theorem dX2_commonWithUpperAhead_11 : decode cX2_commonWithUpperAhead 11 = .ok (.iload_n 2, 1) := by decide +kernel
theorem dX2_commonWithUpperAhead_12 : decode cX2_commonWithUpperAhead 12 = .ok (.iaload, 1) := by decide +kernel
theorem dX2_commonWithUpperAhead_13 : decode cX2_commonWithUpperAhead 13 = .ok (.iconst 1, 1) := by decide +kernel
theorem dX2_commonWithUpperAhead_14 : decode cX2_commonWithUpperAhead 14 = .ok (.iadd, 1) := by decide +kernel
theorem dX2_commonWithUpperAhead_15 : decode cX2_commonWithUpperAhead 15 = .ok (.istore 4, 2) := by decide +kernel
theorem dX2_commonWithUpperAhead_17 : decode cX2_commonWithUpperAhead 17 = .ok (.iload 4, 2) := by decide +kernel
theorem dX2_commonWithUpperAhead_19 : decode cX2_commonWithUpperAhead 19 = .ok (.aload_n 1, 1) := by decide +kernel
theorem dX2_commonWithUpperAhead_20 : decode cX2_commonWithUpperAhead 20 = .ok (.getfield 15, 3) := by decide +kernel
theorem dX2_commonWithUpperAhead_23 : decode cX2_commonWithUpperAhead 23 = .ok (.if_icmp .ge 34, 3) := by decide +kernel
theorem dX2_commonWithUpperAhead_26 : decode cX2_commonWithUpperAhead 26 = .ok (.iload_n 3, 1) := by decide +kernel
theorem dX2_commonWithUpperAhead_27 : decode cX2_commonWithUpperAhead 27 = .ok (.aload_n 1, 1) := by decide +kernel
theorem dX2_commonWithUpperAhead_28 : decode cX2_commonWithUpperAhead 28 = .ok (.getfield 37, 3) := by decide +kernel
theorem dX2_commonWithUpperAhead_31 : decode cX2_commonWithUpperAhead 31 = .ok (.iload 4, 2) := by decide +kernel
theorem dX2_commonWithUpperAhead_33 : decode cX2_commonWithUpperAhead 33 = .ok (.iaload, 1) := by decide +kernel
theorem dX2_commonWithUpperAhead_34 : decode cX2_commonWithUpperAhead 34 = .ok (.invokestatic 40, 3) := by decide +kernel
theorem dX2_commonWithUpperAhead_37 : decode cX2_commonWithUpperAhead 37 = .ok (.istore_n 3, 1) := by decide +kernel
theorem dX2_commonWithUpperAhead_38 : decode cX2_commonWithUpperAhead 38 = .ok (.aload_n 1, 1) := by decide +kernel
theorem dX2_commonWithUpperAhead_39 : decode cX2_commonWithUpperAhead 39 = .ok (.getfield 43, 3) := by decide +kernel
theorem dX2_commonWithUpperAhead_42 : decode cX2_commonWithUpperAhead 42 = .ok (.iload 4, 2) := by decide +kernel
theorem dX2_commonWithUpperAhead_44 : decode cX2_commonWithUpperAhead 44 = .ok (.iaload, 1) := by decide +kernel
theorem dX2_commonWithUpperAhead_45 : decode cX2_commonWithUpperAhead 45 = .ok (.iload_n 2, 1) := by decide +kernel
theorem dX2_commonWithUpperAhead_46 : decode cX2_commonWithUpperAhead 46 = .ok (.if_icmp .ge 5, 3) := by decide +kernel
theorem dX2_commonWithUpperAhead_49 : decode cX2_commonWithUpperAhead 49 = .ok (.iload_n 3, 1) := by decide +kernel
theorem dX2_commonWithUpperAhead_50 : decode cX2_commonWithUpperAhead 50 = .ok (.ireturn, 1) := by decide +kernel
theorem dX2_commonWithUpperAhead_51 : decode cX2_commonWithUpperAhead 51 = .ok (.iinc 4 1, 3) := by decide +kernel
theorem dX2_commonWithUpperAhead_54 : decode cX2_commonWithUpperAhead 54 = .ok (.goto (-37), 3) := by decide +kernel
theorem dX2_commonWithUpperAhead_57 : decode cX2_commonWithUpperAhead 57 = .ok (.iconst 0, 1) := by decide +kernel
theorem dX2_commonWithUpperAhead_58 : decode cX2_commonWithUpperAhead 58 = .ok (.ireturn, 1) := by decide +kernel
theorem dX2_fewestWords_0 : decode cX2_fewestWords 0 = .ok (.aload_n 0, 1) := by decide +kernel
theorem dX2_fewestWords_1 : decode cX2_fewestWords 1 = .ok (.getfield 9, 3) := by decide +kernel
theorem dX2_fewestWords_4 : decode cX2_fewestWords 4 = .ok (.aload_n 1, 1) := by decide +kernel
theorem dX2_fewestWords_5 : decode cX2_fewestWords 5 = .ok (.getfield 15, 3) := by decide +kernel
theorem dX2_fewestWords_8 : decode cX2_fewestWords 8 = .ok (.iconst 0, 1) := by decide +kernel
theorem dX2_fewestWords_9 : decode cX2_fewestWords 9 = .ok (.iastore, 1) := by decide +kernel
theorem dX2_fewestWords_10 : decode cX2_fewestWords 10 = .ok (.aload_n 1, 1) := by decide +kernel
theorem dX2_fewestWords_11 : decode cX2_fewestWords 11 = .ok (.getfield 15, 3) := by decide +kernel
theorem dX2_fewestWords_14 : decode cX2_fewestWords 14 = .ok (.iconst 1, 1) := by decide +kernel
theorem dX2_fewestWords_15 : decode cX2_fewestWords 15 = .ok (.isub, 1) := by decide +kernel
theorem dX2_fewestWords_16 : decode cX2_fewestWords 16 = .ok (.istore_n 2, 1) := by decide +kernel
theorem dX2_fewestWords_17 : decode cX2_fewestWords 17 = .ok (.iload_n 2, 1) := by decide +kernel
theorem dX2_fewestWords_18 : decode cX2_fewestWords 18 = .ok (.ifCond .lt 67, 3) := by decide +kernel
theorem dX2_fewestWords_21 : decode cX2_fewestWords 21 = .ok (.aload_n 0, 1) := by decide +kernel
theorem dX2_fewestWords_22 : decode cX2_fewestWords 22 = .ok (.aload_n 1, 1) := by decide +kernel
theorem dX2_fewestWords_23 : decode cX2_fewestWords 23 = .ok (.iload_n 2, 1) := by decide +kernel
theorem dX2_fewestWords_24 : decode cX2_fewestWords 24 = .ok (.invokevirtual 46, 3) := by decide +kernel
theorem dX2_fewestWords_27 : decode cX2_fewestWords 27 = .ok (.istore_n 3, 1) := by decide +kernel
theorem dX2_fewestWords_28 : decode cX2_fewestWords 28 = .ok (.aload_n 0, 1) := by decide +kernel
theorem dX2_fewestWords_29 : decode cX2_fewestWords 29 = .ok (.getfield 9, 3) := by decide +kernel
theorem dX2_fewestWords_32 : decode cX2_fewestWords 32 = .ok (.iload_n 2, 1) := by decide +kernel
theorem dX2_fewestWords_33 : decode cX2_fewestWords 33 = .ok (.iconst 1, 1) := by decide +kernel
theorem dX2_fewestWords_34 : decode cX2_fewestWords 34 = .ok (.iadd, 1) := by decide +kernel
theorem dX2_fewestWords_35 : decode cX2_fewestWords 35 = .ok (.iaload, 1) := by decide +kernel
theorem dX2_fewestWords_36 : decode cX2_fewestWords 36 = .ok (.istore 4, 2) := by decide +kernel
theorem dX2_fewestWords_38 : decode cX2_fewestWords 38 = .ok (.iconst 2, 1) := by decide +kernel
theorem dX2_fewestWords_39 : decode cX2_fewestWords 39 = .ok (.istore 5, 2) := by decide +kernel
theorem dX2_fewestWords_41 : decode cX2_fewestWords 41 = .ok (.iload 5, 2) := by decide +kernel
theorem dX2_fewestWords_43 : decode cX2_fewestWords 43 = .ok (.iload_n 3, 1) := by decide +kernel
theorem dX2_fewestWords_44 : decode cX2_fewestWords 44 = .ok (.if_icmp .gt 25, 3) := by decide +kernel
theorem dX2_fewestWords_47 : decode cX2_fewestWords 47 = .ok (.iload 4, 2) := by decide +kernel
theorem dX2_fewestWords_49 : decode cX2_fewestWords 49 = .ok (.aload_n 0, 1) := by decide +kernel
theorem dX2_fewestWords_50 : decode cX2_fewestWords 50 = .ok (.getfield 9, 3) := by decide +kernel
theorem dX2_fewestWords_53 : decode cX2_fewestWords 53 = .ok (.iload_n 2, 1) := by decide +kernel
theorem dX2_fewestWords_54 : decode cX2_fewestWords 54 = .ok (.iload 5, 2) := by decide +kernel
theorem dX2_fewestWords_56 : decode cX2_fewestWords 56 = .ok (.iadd, 1) := by decide +kernel
theorem dX2_fewestWords_57 : decode cX2_fewestWords 57 = .ok (.iaload, 1) := by decide +kernel
theorem dX2_fewestWords_58 : decode cX2_fewestWords 58 = .ok (.invokestatic 40, 3) := by decide +kernel
theorem dX2_fewestWords_61 : decode cX2_fewestWords 61 = .ok (.istore 4, 2) := by decide +kernel
theorem dX2_fewestWords_63 : decode cX2_fewestWords 63 = .ok (.iinc 5 1, 3) := by decide +kernel
theorem dX2_fewestWords_66 : decode cX2_fewestWords 66 = .ok (.goto (-25), 3) := by decide +kernel
theorem dX2_fewestWords_69 : decode cX2_fewestWords 69 = .ok (.aload_n 0, 1) := by decide +kernel
theorem dX2_fewestWords_70 : decode cX2_fewestWords 70 = .ok (.getfield 9, 3) := by decide +kernel
theorem dX2_fewestWords_73 : decode cX2_fewestWords 73 = .ok (.iload_n 2, 1) := by decide +kernel
theorem dX2_fewestWords_74 : decode cX2_fewestWords 74 = .ok (.iload 4, 2) := by decide +kernel
theorem dX2_fewestWords_76 : decode cX2_fewestWords 76 = .ok (.iconst 1, 1) := by decide +kernel
theorem dX2_fewestWords_77 : decode cX2_fewestWords 77 = .ok (.iadd, 1) := by decide +kernel
theorem dX2_fewestWords_78 : decode cX2_fewestWords 78 = .ok (.iastore, 1) := by decide +kernel
theorem dX2_fewestWords_79 : decode cX2_fewestWords 79 = .ok (.iinc 2 (-1), 3) := by decide +kernel
theorem dX2_fewestWords_82 : decode cX2_fewestWords 82 = .ok (.goto (-65), 3) := by decide +kernel
theorem dX2_fewestWords_85 : decode cX2_fewestWords 85 = .ok (.aload_n 0, 1) := by decide +kernel
theorem dX2_fewestWords_86 : decode cX2_fewestWords 86 = .ok (.getfield 9, 3) := by decide +kernel
theorem dX2_fewestWords_89 : decode cX2_fewestWords 89 = .ok (.iconst 0, 1) := by decide +kernel
theorem dX2_fewestWords_90 : decode cX2_fewestWords 90 = .ok (.iaload, 1) := by decide +kernel
theorem dX2_fewestWords_91 : decode cX2_fewestWords 91 = .ok (.ireturn, 1) := by decide +kernel
theorem dX3_init_0 : decode cX3_init 0 = .ok (.aload_n 0, 1) := by decide +kernel
theorem dX3_init_1 : decode cX3_init 1 = .ok (.invokespecial 1, 3) := by decide +kernel
theorem dX3_init_4 : decode cX3_init 4 = .ok (.return_, 1) := by decide +kernel
theorem dX3_sizeFrom_0 : decode cX3_sizeFrom 0 = .ok (.iload_n 2, 1) := by decide +kernel
theorem dX3_sizeFrom_1 : decode cX3_sizeFrom 1 = .ok (.istore_n 3, 1) := by decide +kernel
theorem dX3_sizeFrom_2 : decode cX3_sizeFrom 2 = .ok (.iload_n 2, 1) := by decide +kernel
theorem dX3_sizeFrom_3 : decode cX3_sizeFrom 3 = .ok (.iconst 1, 1) := by decide +kernel
theorem dX3_sizeFrom_4 : decode cX3_sizeFrom 4 = .ok (.iadd, 1) := by decide +kernel
theorem dX3_sizeFrom_5 : decode cX3_sizeFrom 5 = .ok (.istore 4, 2) := by decide +kernel
theorem dX3_sizeFrom_7 : decode cX3_sizeFrom 7 = .ok (.iload 4, 2) := by decide +kernel
theorem dX3_sizeFrom_9 : decode cX3_sizeFrom 9 = .ok (.aload_n 1, 1) := by decide +kernel
theorem dX3_sizeFrom_10 : decode cX3_sizeFrom 10 = .ok (.getfield 7, 3) := by decide +kernel
theorem dX3_sizeFrom_13 : decode cX3_sizeFrom 13 = .ok (.if_icmp .ge 49, 3) := by decide +kernel
theorem dX3_sizeFrom_16 : decode cX3_sizeFrom 16 = .ok (.aload_n 1, 1) := by decide +kernel
theorem dX3_sizeFrom_17 : decode cX3_sizeFrom 17 = .ok (.getfield 13, 3) := by decide +kernel
theorem dX3_sizeFrom_20 : decode cX3_sizeFrom 20 = .ok (.iload_n 3, 1) := by decide +kernel
theorem dX3_sizeFrom_21 : decode cX3_sizeFrom 21 = .ok (.caload, 1) := by decide +kernel
theorem dX3_sizeFrom_22 : decode cX3_sizeFrom 22 = .ok (.aload_n 1, 1) := by decide +kernel
theorem dX3_sizeFrom_23 : decode cX3_sizeFrom 23 = .ok (.getfield 13, 3) := by decide +kernel
theorem dX3_sizeFrom_26 : decode cX3_sizeFrom 26 = .ok (.iload 4, 2) := by decide +kernel
theorem dX3_sizeFrom_28 : decode cX3_sizeFrom 28 = .ok (.caload, 1) := by decide +kernel
theorem dX3_sizeFrom_29 : decode cX3_sizeFrom 29 = .ok (.if_icmp .gt 33, 3) := by decide +kernel
theorem dX3_sizeFrom_32 : decode cX3_sizeFrom 32 = .ok (.aload_n 1, 1) := by decide +kernel
theorem dX3_sizeFrom_33 : decode cX3_sizeFrom 33 = .ok (.getfield 13, 3) := by decide +kernel
theorem dX3_sizeFrom_36 : decode cX3_sizeFrom 36 = .ok (.iload_n 3, 1) := by decide +kernel
theorem dX3_sizeFrom_37 : decode cX3_sizeFrom 37 = .ok (.caload, 1) := by decide +kernel
theorem dX3_sizeFrom_38 : decode cX3_sizeFrom 38 = .ok (.aload_n 1, 1) := by decide +kernel
theorem dX3_sizeFrom_39 : decode cX3_sizeFrom 39 = .ok (.getfield 13, 3) := by decide +kernel
theorem dX3_sizeFrom_42 : decode cX3_sizeFrom 42 = .ok (.iload 4, 2) := by decide +kernel
theorem dX3_sizeFrom_44 : decode cX3_sizeFrom 44 = .ok (.caload, 1) := by decide +kernel
theorem dX3_sizeFrom_45 : decode cX3_sizeFrom 45 = .ok (.if_icmp .ge 7, 3) := by decide +kernel
theorem dX3_sizeFrom_48 : decode cX3_sizeFrom 48 = .ok (.iload_n 2, 1) := by decide +kernel
theorem dX3_sizeFrom_49 : decode cX3_sizeFrom 49 = .ok (.goto 6, 3) := by decide +kernel
theorem dX3_sizeFrom_52 : decode cX3_sizeFrom 52 = .ok (.iload_n 3, 1) := by decide +kernel
theorem dX3_sizeFrom_53 : decode cX3_sizeFrom 53 = .ok (.iconst 1, 1) := by decide +kernel
theorem dX3_sizeFrom_54 : decode cX3_sizeFrom 54 = .ok (.iadd, 1) := by decide +kernel
theorem dX3_sizeFrom_55 : decode cX3_sizeFrom 55 = .ok (.istore_n 3, 1) := by decide +kernel
theorem dX3_sizeFrom_56 : decode cX3_sizeFrom 56 = .ok (.iinc 4 1, 3) := by decide +kernel
theorem dX3_sizeFrom_59 : decode cX3_sizeFrom 59 = .ok (.goto (-52), 3) := by decide +kernel
theorem dX3_sizeFrom_62 : decode cX3_sizeFrom 62 = .ok (.iload 4, 2) := by decide +kernel
theorem dX3_sizeFrom_64 : decode cX3_sizeFrom 64 = .ok (.iload_n 3, 1) := by decide +kernel
theorem dX3_sizeFrom_65 : decode cX3_sizeFrom 65 = .ok (.isub, 1) := by decide +kernel
theorem dX3_sizeFrom_66 : decode cX3_sizeFrom 66 = .ok (.ireturn, 1) := by decide +kernel
theorem dX3_agreesWith_0 : decode cX3_agreesWith 0 = .ok (.iconst 0, 1) := by decide +kernel
theorem dX3_agreesWith_1 : decode cX3_agreesWith 1 = .ok (.istore_n 2, 1) := by decide +kernel
theorem dX3_agreesWith_2 : decode cX3_agreesWith 2 = .ok (.aload_n 1, 1) := by decide +kernel
theorem dX3_agreesWith_3 : decode cX3_agreesWith 3 = .ok (.getfield 7, 3) := by decide +kernel
theorem dX3_agreesWith_6 : decode cX3_agreesWith 6 = .ok (.istore_n 3, 1) := by decide +kernel
theorem dX3_agreesWith_7 : decode cX3_agreesWith 7 = .ok (.iconst 0, 1) := by decide +kernel
theorem dX3_agreesWith_8 : decode cX3_agreesWith 8 = .ok (.istore 4, 2) := by decide +kernel
theorem dX3_agreesWith_10 : decode cX3_agreesWith 10 = .ok (.iload 4, 2) := by decide +kernel
theorem dX3_agreesWith_12 : decode cX3_agreesWith 12 = .ok (.aload_n 1, 1) := by decide +kernel
theorem dX3_agreesWith_13 : decode cX3_agreesWith 13 = .ok (.getfield 7, 3) := by decide +kernel
theorem dX3_agreesWith_16 : decode cX3_agreesWith 16 = .ok (.if_icmp .ge 68, 3) := by decide +kernel
theorem dX3_agreesWith_19 : decode cX3_agreesWith 19 = .ok (.aload_n 1, 1) := by decide +kernel
theorem dX3_agreesWith_20 : decode cX3_agreesWith 20 = .ok (.getfield 17, 3) := by decide +kernel
theorem dX3_agreesWith_23 : decode cX3_agreesWith 23 = .ok (.iload 4, 2) := by decide +kernel
theorem dX3_agreesWith_25 : decode cX3_agreesWith 25 = .ok (.iaload, 1) := by decide +kernel
theorem dX3_agreesWith_26 : decode cX3_agreesWith 26 = .ok (.iload_n 3, 1) := by decide +kernel
theorem dX3_agreesWith_27 : decode cX3_agreesWith 27 = .ok (.if_icmp .ge 7, 3) := by decide +kernel
theorem dX3_agreesWith_30 : decode cX3_agreesWith 30 = .ok (.iconst 1, 1) := by decide +kernel
theorem dX3_agreesWith_31 : decode cX3_agreesWith 31 = .ok (.goto 4, 3) := by decide +kernel
theorem dX3_agreesWith_34 : decode cX3_agreesWith 34 = .ok (.iconst 0, 1) := by decide +kernel
theorem dX3_agreesWith_35 : decode cX3_agreesWith 35 = .ok (.istore 5, 2) := by decide +kernel
theorem dX3_agreesWith_37 : decode cX3_agreesWith 37 = .ok (.iload 5, 2) := by decide +kernel
theorem dX3_agreesWith_39 : decode cX3_agreesWith 39 = .ok (.iload 4, 2) := by decide +kernel
theorem dX3_agreesWith_41 : decode cX3_agreesWith 41 = .ok (.iload_n 2, 1) := by decide +kernel
theorem dX3_agreesWith_42 : decode cX3_agreesWith 42 = .ok (.if_icmp .ne 7, 3) := by decide +kernel
theorem dX3_agreesWith_45 : decode cX3_agreesWith 45 = .ok (.iconst 1, 1) := by decide +kernel
theorem dX3_agreesWith_46 : decode cX3_agreesWith 46 = .ok (.goto 4, 3) := by decide +kernel
theorem dX3_agreesWith_49 : decode cX3_agreesWith 49 = .ok (.iconst 0, 1) := by decide +kernel
theorem dX3_agreesWith_50 : decode cX3_agreesWith 50 = .ok (.if_icmp .eq 5, 3) := by decide +kernel
theorem dX3_agreesWith_53 : decode cX3_agreesWith 53 = .ok (.iconst 0, 1) := by decide +kernel
theorem dX3_agreesWith_54 : decode cX3_agreesWith 54 = .ok (.ireturn, 1) := by decide +kernel
theorem dX3_agreesWith_55 : decode cX3_agreesWith 55 = .ok (.iload 5, 2) := by decide +kernel
theorem dX3_agreesWith_57 : decode cX3_agreesWith 57 = .ok (.ifCond .eq 21, 3) := by decide +kernel
theorem dX3_agreesWith_60 : decode cX3_agreesWith 60 = .ok (.aload_n 1, 1) := by decide +kernel
theorem dX3_agreesWith_61 : decode cX3_agreesWith 61 = .ok (.getfield 17, 3) := by decide +kernel
theorem dX3_agreesWith_64 : decode cX3_agreesWith 64 = .ok (.iload 4, 2) := by decide +kernel
theorem dX3_agreesWith_66 : decode cX3_agreesWith 66 = .ok (.iaload, 1) := by decide +kernel
theorem dX3_agreesWith_67 : decode cX3_agreesWith 67 = .ok (.istore_n 3, 1) := by decide +kernel
theorem dX3_agreesWith_68 : decode cX3_agreesWith 68 = .ok (.iload_n 2, 1) := by decide +kernel
theorem dX3_agreesWith_69 : decode cX3_agreesWith 69 = .ok (.aload_n 0, 1) := by decide +kernel
theorem dX3_agreesWith_70 : decode cX3_agreesWith 70 = .ok (.aload_n 1, 1) := by decide +kernel
theorem dX3_agreesWith_71 : decode cX3_agreesWith 71 = .ok (.iload 4, 2) := by decide +kernel
theorem dX3_agreesWith_73 : decode cX3_agreesWith 73 = .ok (.invokevirtual 21, 3) := by decide +kernel
theorem dX3_agreesWith_76 : decode cX3_agreesWith 76 = .ok (.iadd, 1) := by decide +kernel
theorem dX3_agreesWith_77 : decode cX3_agreesWith 77 = .ok (.istore_n 2, 1) := by decide +kernel
theorem dX3_agreesWith_78 : decode cX3_agreesWith 78 = .ok (.iinc 4 1, 3) := by decide +kernel
theorem dX3_agreesWith_81 : decode cX3_agreesWith 81 = .ok (.goto (-71), 3) := by decide +kernel
theorem dX3_agreesWith_84 : decode cX3_agreesWith 84 = .ok (.iconst 1, 1) := by decide +kernel
theorem dX3_agreesWith_85 : decode cX3_agreesWith 85 = .ok (.ireturn, 1) := by decide +kernel
theorem dX4_allSquares_0 : decode cX4_allSquares 0 = .ok (.iconst 0, 1) := by decide +kernel
theorem dX4_allSquares_1 : decode cX4_allSquares 1 = .ok (.istore_n 1, 1) := by decide +kernel
theorem dX4_allSquares_2 : decode cX4_allSquares 2 = .ok (.iconst 1, 1) := by decide +kernel
theorem dX4_allSquares_3 : decode cX4_allSquares 3 = .ok (.istore_n 2, 1) := by decide +kernel
theorem dX4_allSquares_4 : decode cX4_allSquares 4 = .ok (.iconst 2, 1) := by decide +kernel
theorem dX4_allSquares_5 : decode cX4_allSquares 5 = .ok (.iload_n 2, 1) := by decide +kernel
theorem dX4_allSquares_6 : decode cX4_allSquares 6 = .ok (.imul, 1) := by decide +kernel
theorem dX4_allSquares_7 : decode cX4_allSquares 7 = .ok (.aload_n 0, 1) := by decide +kernel
theorem dX4_allSquares_8 : decode cX4_allSquares 8 = .ok (.getfield 7, 3) := by decide +kernel
theorem dX4_allSquares_11 : decode cX4_allSquares 11 = .ok (.if_icmp .gt 67, 3) := by decide +kernel
theorem dX4_allSquares_14 : decode cX4_allSquares 14 = .ok (.iconst 0, 1) := by decide +kernel
theorem dX4_allSquares_15 : decode cX4_allSquares 15 = .ok (.istore_n 3, 1) := by decide +kernel
theorem dX4_allSquares_16 : decode cX4_allSquares 16 = .ok (.aload_n 0, 1) := by decide +kernel
theorem dX4_allSquares_17 : decode cX4_allSquares 17 = .ok (.getfield 7, 3) := by decide +kernel
theorem dX4_allSquares_20 : decode cX4_allSquares 20 = .ok (.iload_n 2, 1) := by decide +kernel
theorem dX4_allSquares_21 : decode cX4_allSquares 21 = .ok (.isub, 1) := by decide +kernel
theorem dX4_allSquares_22 : decode cX4_allSquares 22 = .ok (.iconst 1, 1) := by decide +kernel
theorem dX4_allSquares_23 : decode cX4_allSquares 23 = .ok (.isub, 1) := by decide +kernel
theorem dX4_allSquares_24 : decode cX4_allSquares 24 = .ok (.istore 4, 2) := by decide +kernel
theorem dX4_allSquares_26 : decode cX4_allSquares 26 = .ok (.iload 4, 2) := by decide +kernel
theorem dX4_allSquares_28 : decode cX4_allSquares 28 = .ok (.ifCond .lt 44, 3) := by decide +kernel
theorem dX4_allSquares_31 : decode cX4_allSquares 31 = .ok (.aload_n 0, 1) := by decide +kernel
theorem dX4_allSquares_32 : decode cX4_allSquares 32 = .ok (.getfield 13, 3) := by decide +kernel
theorem dX4_allSquares_35 : decode cX4_allSquares 35 = .ok (.iload 4, 2) := by decide +kernel
theorem dX4_allSquares_37 : decode cX4_allSquares 37 = .ok (.caload, 1) := by decide +kernel
theorem dX4_allSquares_38 : decode cX4_allSquares 38 = .ok (.aload_n 0, 1) := by decide +kernel
theorem dX4_allSquares_39 : decode cX4_allSquares 39 = .ok (.getfield 13, 3) := by decide +kernel
theorem dX4_allSquares_42 : decode cX4_allSquares 42 = .ok (.iload 4, 2) := by decide +kernel
theorem dX4_allSquares_44 : decode cX4_allSquares 44 = .ok (.iload_n 2, 1) := by decide +kernel
theorem dX4_allSquares_45 : decode cX4_allSquares 45 = .ok (.iadd, 1) := by decide +kernel
theorem dX4_allSquares_46 : decode cX4_allSquares 46 = .ok (.caload, 1) := by decide +kernel
theorem dX4_allSquares_47 : decode cX4_allSquares 47 = .ok (.if_icmp .ne 9, 3) := by decide +kernel
theorem dX4_allSquares_50 : decode cX4_allSquares 50 = .ok (.iload_n 3, 1) := by decide +kernel
theorem dX4_allSquares_51 : decode cX4_allSquares 51 = .ok (.iconst 1, 1) := by decide +kernel
theorem dX4_allSquares_52 : decode cX4_allSquares 52 = .ok (.iadd, 1) := by decide +kernel
theorem dX4_allSquares_53 : decode cX4_allSquares 53 = .ok (.goto 4, 3) := by decide +kernel
theorem dX4_allSquares_56 : decode cX4_allSquares 56 = .ok (.iconst 0, 1) := by decide +kernel
theorem dX4_allSquares_57 : decode cX4_allSquares 57 = .ok (.istore_n 3, 1) := by decide +kernel
theorem dX4_allSquares_58 : decode cX4_allSquares 58 = .ok (.iload_n 3, 1) := by decide +kernel
theorem dX4_allSquares_59 : decode cX4_allSquares 59 = .ok (.iload_n 2, 1) := by decide +kernel
theorem dX4_allSquares_60 : decode cX4_allSquares 60 = .ok (.if_icmp .lt 6, 3) := by decide +kernel
theorem dX4_allSquares_63 : decode cX4_allSquares 63 = .ok (.iinc 1 1, 3) := by decide +kernel
theorem dX4_allSquares_66 : decode cX4_allSquares 66 = .ok (.iinc 4 (-1), 3) := by decide +kernel
theorem dX4_allSquares_69 : decode cX4_allSquares 69 = .ok (.goto (-43), 3) := by decide +kernel
theorem dX4_allSquares_72 : decode cX4_allSquares 72 = .ok (.iinc 2 1, 3) := by decide +kernel
theorem dX4_allSquares_75 : decode cX4_allSquares 75 = .ok (.goto (-71), 3) := by decide +kernel
theorem dX4_allSquares_78 : decode cX4_allSquares 78 = .ok (.iload_n 1, 1) := by decide +kernel
theorem dX4_allSquares_79 : decode cX4_allSquares 79 = .ok (.ireturn, 1) := by decide +kernel
theorem dX4_leastSquare_0 : decode cX4_leastSquare 0 = .ok (.iconst 1, 1) := by decide +kernel
theorem dX4_leastSquare_1 : decode cX4_leastSquare 1 = .ok (.istore_n 2, 1) := by decide +kernel
theorem dX4_leastSquare_2 : decode cX4_leastSquare 2 = .ok (.iload_n 1, 1) := by decide +kernel
theorem dX4_leastSquare_3 : decode cX4_leastSquare 3 = .ok (.iconst 2, 1) := by decide +kernel
theorem dX4_leastSquare_4 : decode cX4_leastSquare 4 = .ok (.iload_n 2, 1) := by decide +kernel
theorem dX4_leastSquare_5 : decode cX4_leastSquare 5 = .ok (.imul, 1) := by decide +kernel
theorem dX4_leastSquare_6 : decode cX4_leastSquare 6 = .ok (.iadd, 1) := by decide +kernel
theorem dX4_leastSquare_7 : decode cX4_leastSquare 7 = .ok (.aload_n 0, 1) := by decide +kernel
theorem dX4_leastSquare_8 : decode cX4_leastSquare 8 = .ok (.getfield 7, 3) := by decide +kernel
theorem dX4_leastSquare_11 : decode cX4_leastSquare 11 = .ok (.if_icmp .gt 24, 3) := by decide +kernel
theorem dX4_leastSquare_14 : decode cX4_leastSquare 14 = .ok (.aload_n 0, 1) := by decide +kernel
theorem dX4_leastSquare_15 : decode cX4_leastSquare 15 = .ok (.iload_n 1, 1) := by decide +kernel
theorem dX4_leastSquare_16 : decode cX4_leastSquare 16 = .ok (.aload_n 0, 1) := by decide +kernel
theorem dX4_leastSquare_17 : decode cX4_leastSquare 17 = .ok (.iload_n 1, 1) := by decide +kernel
theorem dX4_leastSquare_18 : decode cX4_leastSquare 18 = .ok (.iload_n 2, 1) := by decide +kernel
theorem dX4_leastSquare_19 : decode cX4_leastSquare 19 = .ok (.iadd, 1) := by decide +kernel
theorem dX4_leastSquare_20 : decode cX4_leastSquare 20 = .ok (.invokevirtual 17, 3) := by decide +kernel
theorem dX4_leastSquare_23 : decode cX4_leastSquare 23 = .ok (.iload_n 2, 1) := by decide +kernel
theorem dX4_leastSquare_24 : decode cX4_leastSquare 24 = .ok (.if_icmp .lt 5, 3) := by decide +kernel
theorem dX4_leastSquare_27 : decode cX4_leastSquare 27 = .ok (.iload_n 2, 1) := by decide +kernel
theorem dX4_leastSquare_28 : decode cX4_leastSquare 28 = .ok (.ireturn, 1) := by decide +kernel
theorem dX4_leastSquare_29 : decode cX4_leastSquare 29 = .ok (.iinc 2 1, 3) := by decide +kernel
theorem dX4_leastSquare_32 : decode cX4_leastSquare 32 = .ok (.goto (-30), 3) := by decide +kernel
theorem dX4_leastSquare_35 : decode cX4_leastSquare 35 = .ok (.iconst 0, 1) := by decide +kernel
theorem dX4_leastSquare_36 : decode cX4_leastSquare 36 = .ok (.ireturn, 1) := by decide +kernel
theorem dX4_leastPeriod_0 : decode cX4_leastPeriod 0 = .ok (.iconst 1, 1) := by decide +kernel
theorem dX4_leastPeriod_1 : decode cX4_leastPeriod 1 = .ok (.istore_n 1, 1) := by decide +kernel
theorem dX4_leastPeriod_2 : decode cX4_leastPeriod 2 = .ok (.iload_n 1, 1) := by decide +kernel
theorem dX4_leastPeriod_3 : decode cX4_leastPeriod 3 = .ok (.aload_n 0, 1) := by decide +kernel
theorem dX4_leastPeriod_4 : decode cX4_leastPeriod 4 = .ok (.getfield 7, 3) := by decide +kernel
theorem dX4_leastPeriod_7 : decode cX4_leastPeriod 7 = .ok (.if_icmp .ge 27, 3) := by decide +kernel
theorem dX4_leastPeriod_10 : decode cX4_leastPeriod 10 = .ok (.aload_n 0, 1) := by decide +kernel
theorem dX4_leastPeriod_11 : decode cX4_leastPeriod 11 = .ok (.iload_n 1, 1) := by decide +kernel
theorem dX4_leastPeriod_12 : decode cX4_leastPeriod 12 = .ok (.aload_n 0, 1) := by decide +kernel
theorem dX4_leastPeriod_13 : decode cX4_leastPeriod 13 = .ok (.iconst 0, 1) := by decide +kernel
theorem dX4_leastPeriod_14 : decode cX4_leastPeriod 14 = .ok (.invokevirtual 17, 3) := by decide +kernel
theorem dX4_leastPeriod_17 : decode cX4_leastPeriod 17 = .ok (.aload_n 0, 1) := by decide +kernel
theorem dX4_leastPeriod_18 : decode cX4_leastPeriod 18 = .ok (.getfield 7, 3) := by decide +kernel
theorem dX4_leastPeriod_21 : decode cX4_leastPeriod 21 = .ok (.iload_n 1, 1) := by decide +kernel
theorem dX4_leastPeriod_22 : decode cX4_leastPeriod 22 = .ok (.isub, 1) := by decide +kernel
theorem dX4_leastPeriod_23 : decode cX4_leastPeriod 23 = .ok (.if_icmp .ne 5, 3) := by decide +kernel
theorem dX4_leastPeriod_26 : decode cX4_leastPeriod 26 = .ok (.iload_n 1, 1) := by decide +kernel
theorem dX4_leastPeriod_27 : decode cX4_leastPeriod 27 = .ok (.ireturn, 1) := by decide +kernel
theorem dX4_leastPeriod_28 : decode cX4_leastPeriod 28 = .ok (.iinc 1 1, 3) := by decide +kernel
theorem dX4_leastPeriod_31 : decode cX4_leastPeriod 31 = .ok (.goto (-29), 3) := by decide +kernel
theorem dX4_leastPeriod_34 : decode cX4_leastPeriod 34 = .ok (.aload_n 0, 1) := by decide +kernel
theorem dX4_leastPeriod_35 : decode cX4_leastPeriod 35 = .ok (.getfield 7, 3) := by decide +kernel
theorem dX4_leastPeriod_38 : decode cX4_leastPeriod 38 = .ok (.ireturn, 1) := by decide +kernel
theorem dX4_leastTurn_0 : decode cX4_leastTurn 0 = .ok (.iconst 0, 1) := by decide +kernel
theorem dX4_leastTurn_1 : decode cX4_leastTurn 1 = .ok (.istore_n 1, 1) := by decide +kernel
theorem dX4_leastTurn_2 : decode cX4_leastTurn 2 = .ok (.iconst 1, 1) := by decide +kernel
theorem dX4_leastTurn_3 : decode cX4_leastTurn 3 = .ok (.istore_n 2, 1) := by decide +kernel
theorem dX4_leastTurn_4 : decode cX4_leastTurn 4 = .ok (.iload_n 2, 1) := by decide +kernel
theorem dX4_leastTurn_5 : decode cX4_leastTurn 5 = .ok (.aload_n 0, 1) := by decide +kernel
theorem dX4_leastTurn_6 : decode cX4_leastTurn 6 = .ok (.getfield 7, 3) := by decide +kernel
theorem dX4_leastTurn_9 : decode cX4_leastTurn 9 = .ok (.if_icmp .ge 20, 3) := by decide +kernel
theorem dX4_leastTurn_12 : decode cX4_leastTurn 12 = .ok (.aload_n 0, 1) := by decide +kernel
theorem dX4_leastTurn_13 : decode cX4_leastTurn 13 = .ok (.iload_n 2, 1) := by decide +kernel
theorem dX4_leastTurn_14 : decode cX4_leastTurn 14 = .ok (.iload_n 1, 1) := by decide +kernel
theorem dX4_leastTurn_15 : decode cX4_leastTurn 15 = .ok (.invokestatic 21, 3) := by decide +kernel
theorem dX4_leastTurn_18 : decode cX4_leastTurn 18 = .ok (.ifCond .eq 5, 3) := by decide +kernel
theorem dX4_leastTurn_21 : decode cX4_leastTurn 21 = .ok (.iload_n 2, 1) := by decide +kernel
theorem dX4_leastTurn_22 : decode cX4_leastTurn 22 = .ok (.istore_n 1, 1) := by decide +kernel
theorem dX4_leastTurn_23 : decode cX4_leastTurn 23 = .ok (.iinc 2 1, 3) := by decide +kernel
theorem dX4_leastTurn_26 : decode cX4_leastTurn 26 = .ok (.goto (-22), 3) := by decide +kernel
theorem dX4_leastTurn_29 : decode cX4_leastTurn 29 = .ok (.iload_n 1, 1) := by decide +kernel
theorem dX4_leastTurn_30 : decode cX4_leastTurn 30 = .ok (.ireturn, 1) := by decide +kernel
theorem dX4_isTurnLess_0 : decode cX4_isTurnLess 0 = .ok (.iconst 0, 1) := by decide +kernel
theorem dX4_isTurnLess_1 : decode cX4_isTurnLess 1 = .ok (.istore_n 3, 1) := by decide +kernel
theorem dX4_isTurnLess_2 : decode cX4_isTurnLess 2 = .ok (.iload_n 3, 1) := by decide +kernel
theorem dX4_isTurnLess_3 : decode cX4_isTurnLess 3 = .ok (.aload_n 0, 1) := by decide +kernel
theorem dX4_isTurnLess_4 : decode cX4_isTurnLess 4 = .ok (.getfield 7, 3) := by decide +kernel
theorem dX4_isTurnLess_7 : decode cX4_isTurnLess 7 = .ok (.if_icmp .ge 42, 3) := by decide +kernel
theorem dX4_isTurnLess_10 : decode cX4_isTurnLess 10 = .ok (.aload_n 0, 1) := by decide +kernel
theorem dX4_isTurnLess_11 : decode cX4_isTurnLess 11 = .ok (.iload_n 1, 1) := by decide +kernel
theorem dX4_isTurnLess_12 : decode cX4_isTurnLess 12 = .ok (.iload_n 3, 1) := by decide +kernel
theorem dX4_isTurnLess_13 : decode cX4_isTurnLess 13 = .ok (.iadd, 1) := by decide +kernel
theorem dX4_isTurnLess_14 : decode cX4_isTurnLess 14 = .ok (.invokestatic 27, 3) := by decide +kernel
theorem dX4_isTurnLess_17 : decode cX4_isTurnLess 17 = .ok (.aload_n 0, 1) := by decide +kernel
theorem dX4_isTurnLess_18 : decode cX4_isTurnLess 18 = .ok (.iload_n 2, 1) := by decide +kernel
theorem dX4_isTurnLess_19 : decode cX4_isTurnLess 19 = .ok (.iload_n 3, 1) := by decide +kernel
theorem dX4_isTurnLess_20 : decode cX4_isTurnLess 20 = .ok (.iadd, 1) := by decide +kernel
theorem dX4_isTurnLess_21 : decode cX4_isTurnLess 21 = .ok (.invokestatic 27, 3) := by decide +kernel
theorem dX4_isTurnLess_24 : decode cX4_isTurnLess 24 = .ok (.isub, 1) := by decide +kernel
theorem dX4_isTurnLess_25 : decode cX4_isTurnLess 25 = .ok (.istore 4, 2) := by decide +kernel
theorem dX4_isTurnLess_27 : decode cX4_isTurnLess 27 = .ok (.iload 4, 2) := by decide +kernel
theorem dX4_isTurnLess_29 : decode cX4_isTurnLess 29 = .ok (.ifCond .eq 14, 3) := by decide +kernel
theorem dX4_isTurnLess_32 : decode cX4_isTurnLess 32 = .ok (.iload 4, 2) := by decide +kernel
theorem dX4_isTurnLess_34 : decode cX4_isTurnLess 34 = .ok (.ifCond .ge 7, 3) := by decide +kernel
theorem dX4_isTurnLess_37 : decode cX4_isTurnLess 37 = .ok (.iconst 1, 1) := by decide +kernel
theorem dX4_isTurnLess_38 : decode cX4_isTurnLess 38 = .ok (.goto 4, 3) := by decide +kernel
theorem dX4_isTurnLess_41 : decode cX4_isTurnLess 41 = .ok (.iconst 0, 1) := by decide +kernel
theorem dX4_isTurnLess_42 : decode cX4_isTurnLess 42 = .ok (.ireturn, 1) := by decide +kernel
theorem dX4_isTurnLess_43 : decode cX4_isTurnLess 43 = .ok (.iinc 3 1, 3) := by decide +kernel
theorem dX4_isTurnLess_46 : decode cX4_isTurnLess 46 = .ok (.goto (-44), 3) := by decide +kernel
theorem dX4_isTurnLess_49 : decode cX4_isTurnLess 49 = .ok (.iconst 0, 1) := by decide +kernel
theorem dX4_isTurnLess_50 : decode cX4_isTurnLess 50 = .ok (.ireturn, 1) := by decide +kernel
theorem dX4_roundSign_0 : decode cX4_roundSign 0 = .ok (.aload_n 0, 1) := by decide +kernel
theorem dX4_roundSign_1 : decode cX4_roundSign 1 = .ok (.getfield 13, 3) := by decide +kernel
theorem dX4_roundSign_4 : decode cX4_roundSign 4 = .ok (.iload_n 1, 1) := by decide +kernel
theorem dX4_roundSign_5 : decode cX4_roundSign 5 = .ok (.aload_n 0, 1) := by decide +kernel
theorem dX4_roundSign_6 : decode cX4_roundSign 6 = .ok (.getfield 7, 3) := by decide +kernel
theorem dX4_roundSign_9 : decode cX4_roundSign 9 = .ok (.if_icmp .ge 7, 3) := by decide +kernel
theorem dX4_roundSign_12 : decode cX4_roundSign 12 = .ok (.iload_n 1, 1) := by decide +kernel
theorem dX4_roundSign_13 : decode cX4_roundSign 13 = .ok (.goto 9, 3) := by decide +kernel
theorem dX4_roundSign_16 : decode cX4_roundSign 16 = .ok (.iload_n 1, 1) := by decide +kernel
theorem dX4_roundSign_17 : decode cX4_roundSign 17 = .ok (.aload_n 0, 1) := by decide +kernel
theorem dX4_roundSign_18 : decode cX4_roundSign 18 = .ok (.getfield 7, 3) := by decide +kernel
theorem dX4_roundSign_21 : decode cX4_roundSign 21 = .ok (.isub, 1) := by decide +kernel
theorem dX4_roundSign_22 : decode cX4_roundSign 22 = .ok (.caload, 1) := by decide +kernel
theorem dX4_roundSign_23 : decode cX4_roundSign 23 = .ok (.ireturn, 1) := by decide +kernel
theorem dX5_init_0 : decode cX5_init 0 = .ok (.aload_n 0, 1) := by decide +kernel
theorem dX5_init_1 : decode cX5_init 1 = .ok (.invokespecial 3, 3) := by decide +kernel
theorem dX5_init_4 : decode cX5_init 4 = .ok (.aload_n 0, 1) := by decide +kernel
theorem dX5_init_5 : decode cX5_init 5 = .ok (.bipush 8, 2) := by decide +kernel
theorem dX5_init_7 : decode cX5_init 7 = .ok (.bipush 64, 2) := by decide +kernel
theorem dX5_init_9 : decode cX5_init 9 = .ok (.multianewarray 9 2, 4) := by decide +kernel
theorem dX5_init_13 : decode cX5_init 13 = .ok (.putfield 11, 3) := by decide +kernel
theorem dX5_init_16 : decode cX5_init 16 = .ok (.return_, 1) := by decide +kernel
theorem dX5_search_0 : decode cX5_search 0 = .ok (.iconst (-1), 1) := by decide +kernel
theorem dX5_search_1 : decode cX5_search 1 = .ok (.istore 4, 2) := by decide +kernel
theorem dX5_search_3 : decode cX5_search 3 = .ok (.aload_n 0, 1) := by decide +kernel
theorem dX5_search_4 : decode cX5_search 4 = .ok (.iconst 0, 1) := by decide +kernel
theorem dX5_search_5 : decode cX5_search 5 = .ok (.putfield 16, 3) := by decide +kernel
theorem dX5_search_8 : decode cX5_search 8 = .ok (.aload_n 0, 1) := by decide +kernel
theorem dX5_search_9 : decode cX5_search 9 = .ok (.iconst 0, 1) := by decide +kernel
theorem dX5_search_10 : decode cX5_search 10 = .ok (.putfield 20, 3) := by decide +kernel
theorem dX5_search_13 : decode cX5_search 13 = .ok (.iconst 0, 1) := by decide +kernel
theorem dX5_search_14 : decode cX5_search 14 = .ok (.istore 5, 2) := by decide +kernel
theorem dX5_search_16 : decode cX5_search 16 = .ok (.iload 5, 2) := by decide +kernel
theorem dX5_search_18 : decode cX5_search 18 = .ok (.iload_n 2, 1) := by decide +kernel
theorem dX5_search_19 : decode cX5_search 19 = .ok (.if_icmp .ge 134, 3) := by decide +kernel
theorem dX5_search_22 : decode cX5_search 22 = .ok (.aload_n 1, 1) := by decide +kernel
theorem dX5_search_23 : decode cX5_search 23 = .ok (.iload 5, 2) := by decide +kernel
theorem dX5_search_25 : decode cX5_search 25 = .ok (.aaload, 1) := by decide +kernel
theorem dX5_search_26 : decode cX5_search 26 = .ok (.astore 6, 2) := by decide +kernel
theorem dX5_search_28 : decode cX5_search 28 = .ok (.iconst 0, 1) := by decide +kernel
theorem dX5_search_29 : decode cX5_search 29 = .ok (.istore 7, 2) := by decide +kernel
theorem dX5_search_31 : decode cX5_search 31 = .ok (.iload 7, 2) := by decide +kernel
theorem dX5_search_33 : decode cX5_search 33 = .ok (.iload_n 2, 1) := by decide +kernel
theorem dX5_search_34 : decode cX5_search 34 = .ok (.if_icmp .ge 26, 3) := by decide +kernel
theorem dX5_search_37 : decode cX5_search 37 = .ok (.aload_n 0, 1) := by decide +kernel
theorem dX5_search_38 : decode cX5_search 38 = .ok (.aload 6, 2) := by decide +kernel
theorem dX5_search_40 : decode cX5_search 40 = .ok (.aload_n 1, 1) := by decide +kernel
theorem dX5_search_41 : decode cX5_search 41 = .ok (.iload 7, 2) := by decide +kernel
theorem dX5_search_43 : decode cX5_search 43 = .ok (.aaload, 1) := by decide +kernel
theorem dX5_search_44 : decode cX5_search 44 = .ok (.aload_n 0, 1) := by decide +kernel
theorem dX5_search_45 : decode cX5_search 45 = .ok (.getfield 11, 3) := by decide +kernel
theorem dX5_search_48 : decode cX5_search 48 = .ok (.iload 7, 2) := by decide +kernel
theorem dX5_search_50 : decode cX5_search 50 = .ok (.aaload, 1) := by decide +kernel
theorem dX5_search_51 : decode cX5_search 51 = .ok (.invokevirtual 23, 3) := by decide +kernel
theorem dX5_search_54 : decode cX5_search 54 = .ok (.iinc 7 1, 3) := by decide +kernel
theorem dX5_search_57 : decode cX5_search 57 = .ok (.goto (-26), 3) := by decide +kernel
theorem dX5_search_60 : decode cX5_search 60 = .ok (.iconst 0, 1) := by decide +kernel
theorem dX5_search_61 : decode cX5_search 61 = .ok (.istore 7, 2) := by decide +kernel
theorem dX5_search_63 : decode cX5_search 63 = .ok (.iload 7, 2) := by decide +kernel
theorem dX5_search_65 : decode cX5_search 65 = .ok (.aload 6, 2) := by decide +kernel
theorem dX5_search_67 : decode cX5_search 67 = .ok (.getfield 27, 3) := by decide +kernel
theorem dX5_search_70 : decode cX5_search 70 = .ok (.if_icmp .ge 77, 3) := by decide +kernel
theorem dX5_search_73 : decode cX5_search 73 = .ok (.iload 7, 2) := by decide +kernel
theorem dX5_search_75 : decode cX5_search 75 = .ok (.aload_n 0, 1) := by decide +kernel
theorem dX5_search_76 : decode cX5_search 76 = .ok (.getfield 20, 3) := by decide +kernel
theorem dX5_search_79 : decode cX5_search 79 = .ok (.iadd, 1) := by decide +kernel
theorem dX5_search_80 : decode cX5_search 80 = .ok (.aload 6, 2) := by decide +kernel
theorem dX5_search_82 : decode cX5_search 82 = .ok (.getfield 27, 3) := by decide +kernel
theorem dX5_search_85 : decode cX5_search 85 = .ok (.if_icmp .gt 62, 3) := by decide +kernel
theorem dX5_search_88 : decode cX5_search 88 = .ok (.aload_n 0, 1) := by decide +kernel
theorem dX5_search_89 : decode cX5_search 89 = .ok (.iload 7, 2) := by decide +kernel
theorem dX5_search_91 : decode cX5_search 91 = .ok (.iload_n 2, 1) := by decide +kernel
theorem dX5_search_92 : decode cX5_search 92 = .ok (.iload_n 3, 1) := by decide +kernel
theorem dX5_search_93 : decode cX5_search 93 = .ok (.invokevirtual 32, 3) := by decide +kernel
theorem dX5_search_96 : decode cX5_search 96 = .ok (.istore 8, 2) := by decide +kernel
theorem dX5_search_98 : decode cX5_search 98 = .ok (.iload 8, 2) := by decide +kernel
theorem dX5_search_100 : decode cX5_search 100 = .ok (.ifCond .le 41, 3) := by decide +kernel
theorem dX5_search_103 : decode cX5_search 103 = .ok (.iload 4, 2) := by decide +kernel
theorem dX5_search_105 : decode cX5_search 105 = .ok (.ifCond .lt 20, 3) := by decide +kernel
theorem dX5_search_108 : decode cX5_search 108 = .ok (.aload_n 0, 1) := by decide +kernel
theorem dX5_search_109 : decode cX5_search 109 = .ok (.aload 6, 2) := by decide +kernel
theorem dX5_search_111 : decode cX5_search 111 = .ok (.iload 7, 2) := by decide +kernel
theorem dX5_search_113 : decode cX5_search 113 = .ok (.iload 8, 2) := by decide +kernel
theorem dX5_search_115 : decode cX5_search 115 = .ok (.aload_n 1, 1) := by decide +kernel
theorem dX5_search_116 : decode cX5_search 116 = .ok (.iload 4, 2) := by decide +kernel
theorem dX5_search_118 : decode cX5_search 118 = .ok (.aaload, 1) := by decide +kernel
theorem dX5_search_119 : decode cX5_search 119 = .ok (.invokevirtual 36, 3) := by decide +kernel
theorem dX5_search_122 : decode cX5_search 122 = .ok (.ifCond .eq 19, 3) := by decide +kernel
theorem dX5_search_125 : decode cX5_search 125 = .ok (.iload 5, 2) := by decide +kernel
theorem dX5_search_127 : decode cX5_search 127 = .ok (.istore 4, 2) := by decide +kernel
theorem dX5_search_129 : decode cX5_search 129 = .ok (.aload_n 0, 1) := by decide +kernel
theorem dX5_search_130 : decode cX5_search 130 = .ok (.iload 7, 2) := by decide +kernel
theorem dX5_search_132 : decode cX5_search 132 = .ok (.putfield 16, 3) := by decide +kernel
theorem dX5_search_135 : decode cX5_search 135 = .ok (.aload_n 0, 1) := by decide +kernel
theorem dX5_search_136 : decode cX5_search 136 = .ok (.iload 8, 2) := by decide +kernel
theorem dX5_search_138 : decode cX5_search 138 = .ok (.putfield 20, 3) := by decide +kernel
theorem dX5_search_141 : decode cX5_search 141 = .ok (.iinc 7 1, 3) := by decide +kernel
theorem dX5_search_144 : decode cX5_search 144 = .ok (.goto (-81), 3) := by decide +kernel
theorem dX5_search_147 : decode cX5_search 147 = .ok (.iinc 5 1, 3) := by decide +kernel
theorem dX5_search_150 : decode cX5_search 150 = .ok (.goto (-134), 3) := by decide +kernel
theorem dX5_search_153 : decode cX5_search 153 = .ok (.iload 4, 2) := by decide +kernel
theorem dX5_search_155 : decode cX5_search 155 = .ok (.ireturn, 1) := by decide +kernel
theorem dX5_tellReach_0 : decode cX5_tellReach 0 = .ok (.iconst 0, 1) := by decide +kernel
theorem dX5_tellReach_1 : decode cX5_tellReach 1 = .ok (.istore 4, 2) := by decide +kernel
theorem dX5_tellReach_3 : decode cX5_tellReach 3 = .ok (.iconst 0, 1) := by decide +kernel
theorem dX5_tellReach_4 : decode cX5_tellReach 4 = .ok (.istore 5, 2) := by decide +kernel
theorem dX5_tellReach_6 : decode cX5_tellReach 6 = .ok (.iconst 0, 1) := by decide +kernel
theorem dX5_tellReach_7 : decode cX5_tellReach 7 = .ok (.istore 6, 2) := by decide +kernel
theorem dX5_tellReach_9 : decode cX5_tellReach 9 = .ok (.iload 6, 2) := by decide +kernel
theorem dX5_tellReach_11 : decode cX5_tellReach 11 = .ok (.aload_n 1, 1) := by decide +kernel
theorem dX5_tellReach_12 : decode cX5_tellReach 12 = .ok (.getfield 27, 3) := by decide +kernel
theorem dX5_tellReach_15 : decode cX5_tellReach 15 = .ok (.if_icmp .ge 137, 3) := by decide +kernel
theorem dX5_tellReach_18 : decode cX5_tellReach 18 = .ok (.aload_n 1, 1) := by decide +kernel
theorem dX5_tellReach_19 : decode cX5_tellReach 19 = .ok (.getfield 40, 3) := by decide +kernel
theorem dX5_tellReach_22 : decode cX5_tellReach 22 = .ok (.iload 6, 2) := by decide +kernel
theorem dX5_tellReach_24 : decode cX5_tellReach 24 = .ok (.iaload, 1) := by decide +kernel
theorem dX5_tellReach_25 : decode cX5_tellReach 25 = .ok (.istore 7, 2) := by decide +kernel
theorem dX5_tellReach_27 : decode cX5_tellReach 27 = .ok (.iload 5, 2) := by decide +kernel
theorem dX5_tellReach_29 : decode cX5_tellReach 29 = .ok (.aload_n 1, 1) := by decide +kernel
theorem dX5_tellReach_30 : decode cX5_tellReach 30 = .ok (.getfield 44, 3) := by decide +kernel
theorem dX5_tellReach_33 : decode cX5_tellReach 33 = .ok (.iload 6, 2) := by decide +kernel
theorem dX5_tellReach_35 : decode cX5_tellReach 35 = .ok (.iaload, 1) := by decide +kernel
theorem dX5_tellReach_36 : decode cX5_tellReach 36 = .ok (.invokestatic 47, 3) := by decide +kernel
theorem dX5_tellReach_39 : decode cX5_tellReach 39 = .ok (.istore 5, 2) := by decide +kernel
theorem dX5_tellReach_41 : decode cX5_tellReach 41 = .ok (.iload 5, 2) := by decide +kernel
theorem dX5_tellReach_43 : decode cX5_tellReach 43 = .ok (.aload_n 0, 1) := by decide +kernel
theorem dX5_tellReach_44 : decode cX5_tellReach 44 = .ok (.aload_n 1, 1) := by decide +kernel
theorem dX5_tellReach_45 : decode cX5_tellReach 45 = .ok (.iload 7, 2) := by decide +kernel
theorem dX5_tellReach_47 : decode cX5_tellReach 47 = .ok (.aload_n 2, 1) := by decide +kernel
theorem dX5_tellReach_48 : decode cX5_tellReach 48 = .ok (.iload 4, 2) := by decide +kernel
theorem dX5_tellReach_50 : decode cX5_tellReach 50 = .ok (.iload 5, 2) := by decide +kernel
theorem dX5_tellReach_52 : decode cX5_tellReach 52 = .ok (.invokevirtual 53, 3) := by decide +kernel
theorem dX5_tellReach_55 : decode cX5_tellReach 55 = .ok (.iadd, 1) := by decide +kernel
theorem dX5_tellReach_56 : decode cX5_tellReach 56 = .ok (.istore 5, 2) := by decide +kernel
theorem dX5_tellReach_58 : decode cX5_tellReach 58 = .ok (.iload 4, 2) := by decide +kernel
theorem dX5_tellReach_60 : decode cX5_tellReach 60 = .ok (.aload_n 2, 1) := by decide +kernel
theorem dX5_tellReach_61 : decode cX5_tellReach 61 = .ok (.getfield 27, 3) := by decide +kernel
theorem dX5_tellReach_64 : decode cX5_tellReach 64 = .ok (.if_icmp .ge 76, 3) := by decide +kernel
theorem dX5_tellReach_67 : decode cX5_tellReach 67 = .ok (.aload_n 2, 1) := by decide +kernel
theorem dX5_tellReach_68 : decode cX5_tellReach 68 = .ok (.aload_n 2, 1) := by decide +kernel
theorem dX5_tellReach_69 : decode cX5_tellReach 69 = .ok (.getfield 40, 3) := by decide +kernel
theorem dX5_tellReach_72 : decode cX5_tellReach 72 = .ok (.iload 4, 2) := by decide +kernel
theorem dX5_tellReach_74 : decode cX5_tellReach 74 = .ok (.iaload, 1) := by decide +kernel
theorem dX5_tellReach_75 : decode cX5_tellReach 75 = .ok (.iload 5, 2) := by decide +kernel
theorem dX5_tellReach_77 : decode cX5_tellReach 77 = .ok (.iadd, 1) := by decide +kernel
theorem dX5_tellReach_78 : decode cX5_tellReach 78 = .ok (.aload_n 1, 1) := by decide +kernel
theorem dX5_tellReach_79 : decode cX5_tellReach 79 = .ok (.iload 7, 2) := by decide +kernel
theorem dX5_tellReach_81 : decode cX5_tellReach 81 = .ok (.iload 5, 2) := by decide +kernel
theorem dX5_tellReach_83 : decode cX5_tellReach 83 = .ok (.iadd, 1) := by decide +kernel
theorem dX5_tellReach_84 : decode cX5_tellReach 84 = .ok (.invokevirtual 57, 3) := by decide +kernel
theorem dX5_tellReach_87 : decode cX5_tellReach 87 = .ok (.ifCond .eq 53, 3) := by decide +kernel
theorem dX5_tellReach_90 : decode cX5_tellReach 90 = .ok (.iinc 4 1, 3) := by decide +kernel
theorem dX5_tellReach_93 : decode cX5_tellReach 93 = .ok (.iload 4, 2) := by decide +kernel
theorem dX5_tellReach_95 : decode cX5_tellReach 95 = .ok (.aload_n 2, 1) := by decide +kernel
theorem dX5_tellReach_96 : decode cX5_tellReach 96 = .ok (.getfield 27, 3) := by decide +kernel
theorem dX5_tellReach_99 : decode cX5_tellReach 99 = .ok (.if_icmp .ge 18, 3) := by decide +kernel
theorem dX5_tellReach_102 : decode cX5_tellReach 102 = .ok (.iload 5, 2) := by decide +kernel
theorem dX5_tellReach_104 : decode cX5_tellReach 104 = .ok (.aload_n 2, 1) := by decide +kernel
theorem dX5_tellReach_105 : decode cX5_tellReach 105 = .ok (.getfield 44, 3) := by decide +kernel
theorem dX5_tellReach_108 : decode cX5_tellReach 108 = .ok (.iload 4, 2) := by decide +kernel
theorem dX5_tellReach_110 : decode cX5_tellReach 110 = .ok (.iaload, 1) := by decide +kernel
theorem dX5_tellReach_111 : decode cX5_tellReach 111 = .ok (.invokestatic 47, 3) := by decide +kernel
theorem dX5_tellReach_114 : decode cX5_tellReach 114 = .ok (.goto 4, 3) := by decide +kernel
theorem dX5_tellReach_117 : decode cX5_tellReach 117 = .ok (.iconst 0, 1) := by decide +kernel
theorem dX5_tellReach_118 : decode cX5_tellReach 118 = .ok (.istore 5, 2) := by decide +kernel
theorem dX5_tellReach_120 : decode cX5_tellReach 120 = .ok (.iload 5, 2) := by decide +kernel
theorem dX5_tellReach_122 : decode cX5_tellReach 122 = .ok (.aload_n 0, 1) := by decide +kernel
theorem dX5_tellReach_123 : decode cX5_tellReach 123 = .ok (.aload_n 1, 1) := by decide +kernel
theorem dX5_tellReach_124 : decode cX5_tellReach 124 = .ok (.iload 7, 2) := by decide +kernel
theorem dX5_tellReach_126 : decode cX5_tellReach 126 = .ok (.aload_n 2, 1) := by decide +kernel
theorem dX5_tellReach_127 : decode cX5_tellReach 127 = .ok (.iload 4, 2) := by decide +kernel
theorem dX5_tellReach_129 : decode cX5_tellReach 129 = .ok (.iload 5, 2) := by decide +kernel
theorem dX5_tellReach_131 : decode cX5_tellReach 131 = .ok (.invokevirtual 53, 3) := by decide +kernel
theorem dX5_tellReach_134 : decode cX5_tellReach 134 = .ok (.iadd, 1) := by decide +kernel
theorem dX5_tellReach_135 : decode cX5_tellReach 135 = .ok (.istore 5, 2) := by decide +kernel
theorem dX5_tellReach_137 : decode cX5_tellReach 137 = .ok (.goto (-79), 3) := by decide +kernel
theorem dX5_tellReach_140 : decode cX5_tellReach 140 = .ok (.aload_n 3, 1) := by decide +kernel
theorem dX5_tellReach_141 : decode cX5_tellReach 141 = .ok (.iload 7, 2) := by decide +kernel
theorem dX5_tellReach_143 : decode cX5_tellReach 143 = .ok (.iload 5, 2) := by decide +kernel
theorem dX5_tellReach_145 : decode cX5_tellReach 145 = .ok (.iastore, 1) := by decide +kernel
theorem dX5_tellReach_146 : decode cX5_tellReach 146 = .ok (.iinc 6 1, 3) := by decide +kernel
theorem dX5_tellReach_149 : decode cX5_tellReach 149 = .ok (.goto (-140), 3) := by decide +kernel
theorem dX5_tellReach_152 : decode cX5_tellReach 152 = .ok (.return_, 1) := by decide +kernel
theorem dX5_moreLike_0 : decode cX5_moreLike 0 = .ok (.iload 4, 2) := by decide +kernel
theorem dX5_moreLike_2 : decode cX5_moreLike 2 = .ok (.aload_n 3, 1) := by decide +kernel
theorem dX5_moreLike_3 : decode cX5_moreLike 3 = .ok (.getfield 27, 3) := by decide +kernel
theorem dX5_moreLike_6 : decode cX5_moreLike 6 = .ok (.if_icmp .ge 25, 3) := by decide +kernel
theorem dX5_moreLike_9 : decode cX5_moreLike 9 = .ok (.aload_n 1, 1) := by decide +kernel
theorem dX5_moreLike_10 : decode cX5_moreLike 10 = .ok (.iload_n 2, 1) := by decide +kernel
theorem dX5_moreLike_11 : decode cX5_moreLike 11 = .ok (.iload 5, 2) := by decide +kernel
theorem dX5_moreLike_13 : decode cX5_moreLike 13 = .ok (.iadd, 1) := by decide +kernel
theorem dX5_moreLike_14 : decode cX5_moreLike 14 = .ok (.aload_n 3, 1) := by decide +kernel
theorem dX5_moreLike_15 : decode cX5_moreLike 15 = .ok (.aload_n 3, 1) := by decide +kernel
theorem dX5_moreLike_16 : decode cX5_moreLike 16 = .ok (.getfield 40, 3) := by decide +kernel
theorem dX5_moreLike_19 : decode cX5_moreLike 19 = .ok (.iload 4, 2) := by decide +kernel
theorem dX5_moreLike_21 : decode cX5_moreLike 21 = .ok (.iaload, 1) := by decide +kernel
theorem dX5_moreLike_22 : decode cX5_moreLike 22 = .ok (.iload 5, 2) := by decide +kernel
theorem dX5_moreLike_24 : decode cX5_moreLike 24 = .ok (.iadd, 1) := by decide +kernel
theorem dX5_moreLike_25 : decode cX5_moreLike 25 = .ok (.invokevirtual 61, 3) := by decide +kernel
theorem dX5_moreLike_28 : decode cX5_moreLike 28 = .ok (.goto 4, 3) := by decide +kernel
theorem dX5_moreLike_31 : decode cX5_moreLike 31 = .ok (.iconst 0, 1) := by decide +kernel
theorem dX5_moreLike_32 : decode cX5_moreLike 32 = .ok (.ireturn, 1) := by decide +kernel
theorem dX5_reachedInMany_0 : decode cX5_reachedInMany 0 = .ok (.iconst 0, 1) := by decide +kernel
theorem dX5_reachedInMany_1 : decode cX5_reachedInMany 1 = .ok (.istore 4, 2) := by decide +kernel
theorem dX5_reachedInMany_3 : decode cX5_reachedInMany 3 = .ok (.iconst 0, 1) := by decide +kernel
theorem dX5_reachedInMany_4 : decode cX5_reachedInMany 4 = .ok (.istore 5, 2) := by decide +kernel
theorem dX5_reachedInMany_6 : decode cX5_reachedInMany 6 = .ok (.iload 5, 2) := by decide +kernel
theorem dX5_reachedInMany_8 : decode cX5_reachedInMany 8 = .ok (.iload_n 2, 1) := by decide +kernel
theorem dX5_reachedInMany_9 : decode cX5_reachedInMany 9 = .ok (.if_icmp .ge 73, 3) := by decide +kernel
theorem dX5_reachedInMany_12 : decode cX5_reachedInMany 12 = .ok (.iconst 0, 1) := by decide +kernel
theorem dX5_reachedInMany_13 : decode cX5_reachedInMany 13 = .ok (.istore 6, 2) := by decide +kernel
theorem dX5_reachedInMany_15 : decode cX5_reachedInMany 15 = .ok (.iconst 0, 1) := by decide +kernel
theorem dX5_reachedInMany_16 : decode cX5_reachedInMany 16 = .ok (.istore 7, 2) := by decide +kernel
theorem dX5_reachedInMany_18 : decode cX5_reachedInMany 18 = .ok (.iload 7, 2) := by decide +kernel
theorem dX5_reachedInMany_20 : decode cX5_reachedInMany 20 = .ok (.iload_n 2, 1) := by decide +kernel
theorem dX5_reachedInMany_21 : decode cX5_reachedInMany 21 = .ok (.if_icmp .ge 33, 3) := by decide +kernel
theorem dX5_reachedInMany_24 : decode cX5_reachedInMany 24 = .ok (.aload_n 0, 1) := by decide +kernel
theorem dX5_reachedInMany_25 : decode cX5_reachedInMany 25 = .ok (.getfield 11, 3) := by decide +kernel
theorem dX5_reachedInMany_28 : decode cX5_reachedInMany 28 = .ok (.iload 7, 2) := by decide +kernel
theorem dX5_reachedInMany_30 : decode cX5_reachedInMany 30 = .ok (.aaload, 1) := by decide +kernel
theorem dX5_reachedInMany_31 : decode cX5_reachedInMany 31 = .ok (.iload_n 1, 1) := by decide +kernel
theorem dX5_reachedInMany_32 : decode cX5_reachedInMany 32 = .ok (.iaload, 1) := by decide +kernel
theorem dX5_reachedInMany_33 : decode cX5_reachedInMany 33 = .ok (.aload_n 0, 1) := by decide +kernel
theorem dX5_reachedInMany_34 : decode cX5_reachedInMany 34 = .ok (.getfield 11, 3) := by decide +kernel
theorem dX5_reachedInMany_37 : decode cX5_reachedInMany 37 = .ok (.iload 5, 2) := by decide +kernel
theorem dX5_reachedInMany_39 : decode cX5_reachedInMany 39 = .ok (.aaload, 1) := by decide +kernel
theorem dX5_reachedInMany_40 : decode cX5_reachedInMany 40 = .ok (.iload_n 1, 1) := by decide +kernel
theorem dX5_reachedInMany_41 : decode cX5_reachedInMany 41 = .ok (.iaload, 1) := by decide +kernel
theorem dX5_reachedInMany_42 : decode cX5_reachedInMany 42 = .ok (.if_icmp .lt 6, 3) := by decide +kernel
theorem dX5_reachedInMany_45 : decode cX5_reachedInMany 45 = .ok (.iinc 6 1, 3) := by decide +kernel
theorem dX5_reachedInMany_48 : decode cX5_reachedInMany 48 = .ok (.iinc 7 1, 3) := by decide +kernel
theorem dX5_reachedInMany_51 : decode cX5_reachedInMany 51 = .ok (.goto (-33), 3) := by decide +kernel
theorem dX5_reachedInMany_54 : decode cX5_reachedInMany 54 = .ok (.iload 6, 2) := by decide +kernel
theorem dX5_reachedInMany_56 : decode cX5_reachedInMany 56 = .ok (.iload_n 3, 1) := by decide +kernel
theorem dX5_reachedInMany_57 : decode cX5_reachedInMany 57 = .ok (.if_icmp .lt 19, 3) := by decide +kernel
theorem dX5_reachedInMany_60 : decode cX5_reachedInMany 60 = .ok (.iload 4, 2) := by decide +kernel
theorem dX5_reachedInMany_62 : decode cX5_reachedInMany 62 = .ok (.aload_n 0, 1) := by decide +kernel
theorem dX5_reachedInMany_63 : decode cX5_reachedInMany 63 = .ok (.getfield 11, 3) := by decide +kernel
theorem dX5_reachedInMany_66 : decode cX5_reachedInMany 66 = .ok (.iload 5, 2) := by decide +kernel
theorem dX5_reachedInMany_68 : decode cX5_reachedInMany 68 = .ok (.aaload, 1) := by decide +kernel
theorem dX5_reachedInMany_69 : decode cX5_reachedInMany 69 = .ok (.iload_n 1, 1) := by decide +kernel
theorem dX5_reachedInMany_70 : decode cX5_reachedInMany 70 = .ok (.iaload, 1) := by decide +kernel
theorem dX5_reachedInMany_71 : decode cX5_reachedInMany 71 = .ok (.invokestatic 65, 3) := by decide +kernel
theorem dX5_reachedInMany_74 : decode cX5_reachedInMany 74 = .ok (.istore 4, 2) := by decide +kernel
theorem dX5_reachedInMany_76 : decode cX5_reachedInMany 76 = .ok (.iinc 5 1, 3) := by decide +kernel
theorem dX5_reachedInMany_79 : decode cX5_reachedInMany 79 = .ok (.goto (-73), 3) := by decide +kernel
theorem dX5_reachedInMany_82 : decode cX5_reachedInMany 82 = .ok (.iload 4, 2) := by decide +kernel
theorem dX5_reachedInMany_84 : decode cX5_reachedInMany 84 = .ok (.ireturn, 1) := by decide +kernel
theorem dX5_isBetter_0 : decode cX5_isBetter 0 = .ok (.iload_n 3, 1) := by decide +kernel
theorem dX5_isBetter_1 : decode cX5_isBetter 1 = .ok (.aload_n 0, 1) := by decide +kernel
theorem dX5_isBetter_2 : decode cX5_isBetter 2 = .ok (.getfield 20, 3) := by decide +kernel
theorem dX5_isBetter_5 : decode cX5_isBetter 5 = .ok (.if_icmp .eq 17, 3) := by decide +kernel
theorem dX5_isBetter_8 : decode cX5_isBetter 8 = .ok (.iload_n 3, 1) := by decide +kernel
theorem dX5_isBetter_9 : decode cX5_isBetter 9 = .ok (.aload_n 0, 1) := by decide +kernel
theorem dX5_isBetter_10 : decode cX5_isBetter 10 = .ok (.getfield 20, 3) := by decide +kernel
theorem dX5_isBetter_13 : decode cX5_isBetter 13 = .ok (.if_icmp .le 7, 3) := by decide +kernel
theorem dX5_isBetter_16 : decode cX5_isBetter 16 = .ok (.iconst 1, 1) := by decide +kernel
theorem dX5_isBetter_17 : decode cX5_isBetter 17 = .ok (.goto 4, 3) := by decide +kernel
theorem dX5_isBetter_20 : decode cX5_isBetter 20 = .ok (.iconst 0, 1) := by decide +kernel
theorem dX5_isBetter_21 : decode cX5_isBetter 21 = .ok (.ireturn, 1) := by decide +kernel
theorem dX5_isBetter_22 : decode cX5_isBetter 22 = .ok (.aload_n 1, 1) := by decide +kernel
theorem dX5_isBetter_23 : decode cX5_isBetter 23 = .ok (.iload_n 2, 1) := by decide +kernel
theorem dX5_isBetter_24 : decode cX5_isBetter 24 = .ok (.aload 4, 2) := by decide +kernel
theorem dX5_isBetter_26 : decode cX5_isBetter 26 = .ok (.aload_n 0, 1) := by decide +kernel
theorem dX5_isBetter_27 : decode cX5_isBetter 27 = .ok (.getfield 16, 3) := by decide +kernel
theorem dX5_isBetter_30 : decode cX5_isBetter 30 = .ok (.invokevirtual 61, 3) := by decide +kernel
theorem dX5_isBetter_33 : decode cX5_isBetter 33 = .ok (.istore 5, 2) := by decide +kernel
theorem dX5_isBetter_35 : decode cX5_isBetter 35 = .ok (.iload 5, 2) := by decide +kernel
theorem dX5_isBetter_37 : decode cX5_isBetter 37 = .ok (.iload_n 3, 1) := by decide +kernel
theorem dX5_isBetter_38 : decode cX5_isBetter 38 = .ok (.if_icmp .ge 32, 3) := by decide +kernel
theorem dX5_isBetter_41 : decode cX5_isBetter 41 = .ok (.aload_n 1, 1) := by decide +kernel
theorem dX5_isBetter_42 : decode cX5_isBetter 42 = .ok (.getfield 68, 3) := by decide +kernel
theorem dX5_isBetter_45 : decode cX5_isBetter 45 = .ok (.iload_n 2, 1) := by decide +kernel
theorem dX5_isBetter_46 : decode cX5_isBetter 46 = .ok (.iload 5, 2) := by decide +kernel
theorem dX5_isBetter_48 : decode cX5_isBetter 48 = .ok (.iadd, 1) := by decide +kernel
theorem dX5_isBetter_49 : decode cX5_isBetter 49 = .ok (.caload, 1) := by decide +kernel
theorem dX5_isBetter_50 : decode cX5_isBetter 50 = .ok (.aload 4, 2) := by decide +kernel
theorem dX5_isBetter_52 : decode cX5_isBetter 52 = .ok (.getfield 68, 3) := by decide +kernel
theorem dX5_isBetter_55 : decode cX5_isBetter 55 = .ok (.aload_n 0, 1) := by decide +kernel
theorem dX5_isBetter_56 : decode cX5_isBetter 56 = .ok (.getfield 16, 3) := by decide +kernel
theorem dX5_isBetter_59 : decode cX5_isBetter 59 = .ok (.iload 5, 2) := by decide +kernel
theorem dX5_isBetter_61 : decode cX5_isBetter 61 = .ok (.iadd, 1) := by decide +kernel
theorem dX5_isBetter_62 : decode cX5_isBetter 62 = .ok (.caload, 1) := by decide +kernel
theorem dX5_isBetter_63 : decode cX5_isBetter 63 = .ok (.if_icmp .ge 7, 3) := by decide +kernel
theorem dX5_isBetter_66 : decode cX5_isBetter 66 = .ok (.iconst 1, 1) := by decide +kernel
theorem dX5_isBetter_67 : decode cX5_isBetter 67 = .ok (.goto 4, 3) := by decide +kernel
theorem dX5_isBetter_70 : decode cX5_isBetter 70 = .ok (.iconst 0, 1) := by decide +kernel
theorem dX5_isBetter_71 : decode cX5_isBetter 71 = .ok (.ireturn, 1) := by decide +kernel
theorem dX6_init_0 : decode cX6_init 0 = .ok (.aload_n 0, 1) := by decide +kernel
theorem dX6_init_1 : decode cX6_init 1 = .ok (.invokespecial 3, 3) := by decide +kernel
theorem dX6_init_4 : decode cX6_init 4 = .ok (.aload_n 0, 1) := by decide +kernel
theorem dX6_init_5 : decode cX6_init 5 = .ok (.bipush 64, 2) := by decide +kernel
theorem dX6_init_7 : decode cX6_init 7 = .ok (.newarray .char, 2) := by decide +kernel
theorem dX6_init_9 : decode cX6_init 9 = .ok (.putfield 9, 3) := by decide +kernel
theorem dX6_init_12 : decode cX6_init 12 = .ok (.aload_n 0, 1) := by decide +kernel
theorem dX6_init_13 : decode cX6_init 13 = .ok (.bipush 64, 2) := by decide +kernel
theorem dX6_init_15 : decode cX6_init 15 = .ok (.newarray .int, 2) := by decide +kernel
theorem dX6_init_17 : decode cX6_init 17 = .ok (.putfield 15, 3) := by decide +kernel
theorem dX6_init_20 : decode cX6_init 20 = .ok (.aload_n 0, 1) := by decide +kernel
theorem dX6_init_21 : decode cX6_init 21 = .ok (.bipush 64, 2) := by decide +kernel
theorem dX6_init_23 : decode cX6_init 23 = .ok (.newarray .int, 2) := by decide +kernel
theorem dX6_init_25 : decode cX6_init 25 = .ok (.putfield 19, 3) := by decide +kernel
theorem dX6_init_28 : decode cX6_init 28 = .ok (.aload_n 0, 1) := by decide +kernel
theorem dX6_init_29 : decode cX6_init 29 = .ok (.bipush 64, 2) := by decide +kernel
theorem dX6_init_31 : decode cX6_init 31 = .ok (.newarray .int, 2) := by decide +kernel
theorem dX6_init_33 : decode cX6_init 33 = .ok (.putfield 22, 3) := by decide +kernel
theorem dX6_init_36 : decode cX6_init 36 = .ok (.return_, 1) := by decide +kernel
theorem dX6_add_0 : decode cX6_add 0 = .ok (.iconst 0, 1) := by decide +kernel
theorem dX6_add_1 : decode cX6_add 1 = .ok (.istore_n 3, 1) := by decide +kernel
theorem dX6_add_2 : decode cX6_add 2 = .ok (.iload_n 3, 1) := by decide +kernel
theorem dX6_add_3 : decode cX6_add 3 = .ok (.iload_n 2, 1) := by decide +kernel
theorem dX6_add_4 : decode cX6_add 4 = .ok (.if_icmp .ge 43, 3) := by decide +kernel
theorem dX6_add_7 : decode cX6_add 7 = .ok (.aload_n 0, 1) := by decide +kernel
theorem dX6_add_8 : decode cX6_add 8 = .ok (.getfield 25, 3) := by decide +kernel
theorem dX6_add_11 : decode cX6_add 11 = .ok (.aload_n 0, 1) := by decide +kernel
theorem dX6_add_12 : decode cX6_add 12 = .ok (.getfield 9, 3) := by decide +kernel
theorem dX6_add_15 : decode cX6_add 15 = .ok (.arraylength, 1) := by decide +kernel
theorem dX6_add_16 : decode cX6_add 16 = .ok (.if_icmp .ge 31, 3) := by decide +kernel
theorem dX6_add_19 : decode cX6_add 19 = .ok (.aload_n 0, 1) := by decide +kernel
theorem dX6_add_20 : decode cX6_add 20 = .ok (.getfield 9, 3) := by decide +kernel
theorem dX6_add_23 : decode cX6_add 23 = .ok (.aload_n 0, 1) := by decide +kernel
theorem dX6_add_24 : decode cX6_add 24 = .ok (.getfield 25, 3) := by decide +kernel
theorem dX6_add_27 : decode cX6_add 27 = .ok (.aload_n 1, 1) := by decide +kernel
theorem dX6_add_28 : decode cX6_add 28 = .ok (.iload_n 3, 1) := by decide +kernel
theorem dX6_add_29 : decode cX6_add 29 = .ok (.caload, 1) := by decide +kernel
theorem dX6_add_30 : decode cX6_add 30 = .ok (.castore, 1) := by decide +kernel
theorem dX6_add_31 : decode cX6_add 31 = .ok (.aload_n 0, 1) := by decide +kernel
theorem dX6_add_32 : decode cX6_add 32 = .ok (.dup, 1) := by decide +kernel
theorem dX6_add_33 : decode cX6_add 33 = .ok (.getfield 25, 3) := by decide +kernel
theorem dX6_add_36 : decode cX6_add 36 = .ok (.iconst 1, 1) := by decide +kernel
theorem dX6_add_37 : decode cX6_add 37 = .ok (.iadd, 1) := by decide +kernel
theorem dX6_add_38 : decode cX6_add 38 = .ok (.putfield 25, 3) := by decide +kernel
theorem dX6_add_41 : decode cX6_add 41 = .ok (.iinc 3 1, 3) := by decide +kernel
theorem dX6_add_44 : decode cX6_add 44 = .ok (.goto (-42), 3) := by decide +kernel
theorem dX6_add_47 : decode cX6_add 47 = .ok (.return_, 1) := by decide +kernel
theorem dX6_addTurnedRound_0 : decode cX6_addTurnedRound 0 = .ok (.aload_n 1, 1) := by decide +kernel
theorem dX6_addTurnedRound_1 : decode cX6_addTurnedRound 1 = .ok (.getfield 25, 3) := by decide +kernel
theorem dX6_addTurnedRound_4 : decode cX6_addTurnedRound 4 = .ok (.iconst 1, 1) := by decide +kernel
theorem dX6_addTurnedRound_5 : decode cX6_addTurnedRound 5 = .ok (.isub, 1) := by decide +kernel
theorem dX6_addTurnedRound_6 : decode cX6_addTurnedRound 6 = .ok (.istore_n 2, 1) := by decide +kernel
theorem dX6_addTurnedRound_7 : decode cX6_addTurnedRound 7 = .ok (.iload_n 2, 1) := by decide +kernel
theorem dX6_addTurnedRound_8 : decode cX6_addTurnedRound 8 = .ok (.ifCond .lt 46, 3) := by decide +kernel
theorem dX6_addTurnedRound_11 : decode cX6_addTurnedRound 11 = .ok (.aload_n 0, 1) := by decide +kernel
theorem dX6_addTurnedRound_12 : decode cX6_addTurnedRound 12 = .ok (.getfield 25, 3) := by decide +kernel
theorem dX6_addTurnedRound_15 : decode cX6_addTurnedRound 15 = .ok (.aload_n 0, 1) := by decide +kernel
theorem dX6_addTurnedRound_16 : decode cX6_addTurnedRound 16 = .ok (.getfield 9, 3) := by decide +kernel
theorem dX6_addTurnedRound_19 : decode cX6_addTurnedRound 19 = .ok (.arraylength, 1) := by decide +kernel
theorem dX6_addTurnedRound_20 : decode cX6_addTurnedRound 20 = .ok (.if_icmp .ge 34, 3) := by decide +kernel
theorem dX6_addTurnedRound_23 : decode cX6_addTurnedRound 23 = .ok (.aload_n 0, 1) := by decide +kernel
theorem dX6_addTurnedRound_24 : decode cX6_addTurnedRound 24 = .ok (.getfield 9, 3) := by decide +kernel
theorem dX6_addTurnedRound_27 : decode cX6_addTurnedRound 27 = .ok (.aload_n 0, 1) := by decide +kernel
theorem dX6_addTurnedRound_28 : decode cX6_addTurnedRound 28 = .ok (.getfield 25, 3) := by decide +kernel
theorem dX6_addTurnedRound_31 : decode cX6_addTurnedRound 31 = .ok (.aload_n 1, 1) := by decide +kernel
theorem dX6_addTurnedRound_32 : decode cX6_addTurnedRound 32 = .ok (.getfield 9, 3) := by decide +kernel
theorem dX6_addTurnedRound_35 : decode cX6_addTurnedRound 35 = .ok (.iload_n 2, 1) := by decide +kernel
theorem dX6_addTurnedRound_36 : decode cX6_addTurnedRound 36 = .ok (.caload, 1) := by decide +kernel
theorem dX6_addTurnedRound_37 : decode cX6_addTurnedRound 37 = .ok (.castore, 1) := by decide +kernel
theorem dX6_addTurnedRound_38 : decode cX6_addTurnedRound 38 = .ok (.aload_n 0, 1) := by decide +kernel
theorem dX6_addTurnedRound_39 : decode cX6_addTurnedRound 39 = .ok (.dup, 1) := by decide +kernel
theorem dX6_addTurnedRound_40 : decode cX6_addTurnedRound 40 = .ok (.getfield 25, 3) := by decide +kernel
theorem dX6_addTurnedRound_43 : decode cX6_addTurnedRound 43 = .ok (.iconst 1, 1) := by decide +kernel
theorem dX6_addTurnedRound_44 : decode cX6_addTurnedRound 44 = .ok (.iadd, 1) := by decide +kernel
theorem dX6_addTurnedRound_45 : decode cX6_addTurnedRound 45 = .ok (.putfield 25, 3) := by decide +kernel
theorem dX6_addTurnedRound_48 : decode cX6_addTurnedRound 48 = .ok (.iinc 2 (-1), 3) := by decide +kernel
theorem dX6_addTurnedRound_51 : decode cX6_addTurnedRound 51 = .ok (.goto (-44), 3) := by decide +kernel
theorem dX6_addTurnedRound_54 : decode cX6_addTurnedRound 54 = .ok (.return_, 1) := by decide +kernel
theorem dX6_putAhead_0 : decode cX6_putAhead 0 = .ok (.aload_n 0, 1) := by decide +kernel
theorem dX6_putAhead_1 : decode cX6_putAhead 1 = .ok (.getfield 25, 3) := by decide +kernel
theorem dX6_putAhead_4 : decode cX6_putAhead 4 = .ok (.aload_n 0, 1) := by decide +kernel
theorem dX6_putAhead_5 : decode cX6_putAhead 5 = .ok (.getfield 9, 3) := by decide +kernel
theorem dX6_putAhead_8 : decode cX6_putAhead 8 = .ok (.arraylength, 1) := by decide +kernel
theorem dX6_putAhead_9 : decode cX6_putAhead 9 = .ok (.if_icmp .ge 49, 3) := by decide +kernel
theorem dX6_putAhead_12 : decode cX6_putAhead 12 = .ok (.aload_n 0, 1) := by decide +kernel
theorem dX6_putAhead_13 : decode cX6_putAhead 13 = .ok (.getfield 25, 3) := by decide +kernel
theorem dX6_putAhead_16 : decode cX6_putAhead 16 = .ok (.istore_n 2, 1) := by decide +kernel
theorem dX6_putAhead_17 : decode cX6_putAhead 17 = .ok (.iload_n 2, 1) := by decide +kernel
theorem dX6_putAhead_18 : decode cX6_putAhead 18 = .ok (.ifCond .le 23, 3) := by decide +kernel
theorem dX6_putAhead_21 : decode cX6_putAhead 21 = .ok (.aload_n 0, 1) := by decide +kernel
theorem dX6_putAhead_22 : decode cX6_putAhead 22 = .ok (.getfield 9, 3) := by decide +kernel
theorem dX6_putAhead_25 : decode cX6_putAhead 25 = .ok (.iload_n 2, 1) := by decide +kernel
theorem dX6_putAhead_26 : decode cX6_putAhead 26 = .ok (.aload_n 0, 1) := by decide +kernel
theorem dX6_putAhead_27 : decode cX6_putAhead 27 = .ok (.getfield 9, 3) := by decide +kernel
theorem dX6_putAhead_30 : decode cX6_putAhead 30 = .ok (.iload_n 2, 1) := by decide +kernel
theorem dX6_putAhead_31 : decode cX6_putAhead 31 = .ok (.iconst 1, 1) := by decide +kernel
theorem dX6_putAhead_32 : decode cX6_putAhead 32 = .ok (.isub, 1) := by decide +kernel
theorem dX6_putAhead_33 : decode cX6_putAhead 33 = .ok (.caload, 1) := by decide +kernel
theorem dX6_putAhead_34 : decode cX6_putAhead 34 = .ok (.castore, 1) := by decide +kernel
theorem dX6_putAhead_35 : decode cX6_putAhead 35 = .ok (.iinc 2 (-1), 3) := by decide +kernel
theorem dX6_putAhead_38 : decode cX6_putAhead 38 = .ok (.goto (-21), 3) := by decide +kernel
theorem dX6_putAhead_41 : decode cX6_putAhead 41 = .ok (.aload_n 0, 1) := by decide +kernel
theorem dX6_putAhead_42 : decode cX6_putAhead 42 = .ok (.getfield 9, 3) := by decide +kernel
theorem dX6_putAhead_45 : decode cX6_putAhead 45 = .ok (.iconst 0, 1) := by decide +kernel
theorem dX6_putAhead_46 : decode cX6_putAhead 46 = .ok (.iload_n 1, 1) := by decide +kernel
theorem dX6_putAhead_47 : decode cX6_putAhead 47 = .ok (.castore, 1) := by decide +kernel
theorem dX6_putAhead_48 : decode cX6_putAhead 48 = .ok (.aload_n 0, 1) := by decide +kernel
theorem dX6_putAhead_49 : decode cX6_putAhead 49 = .ok (.dup, 1) := by decide +kernel
theorem dX6_putAhead_50 : decode cX6_putAhead 50 = .ok (.getfield 25, 3) := by decide +kernel
theorem dX6_putAhead_53 : decode cX6_putAhead 53 = .ok (.iconst 1, 1) := by decide +kernel
theorem dX6_putAhead_54 : decode cX6_putAhead 54 = .ok (.iadd, 1) := by decide +kernel
theorem dX6_putAhead_55 : decode cX6_putAhead 55 = .ok (.putfield 25, 3) := by decide +kernel
theorem dX6_putAhead_58 : decode cX6_putAhead 58 = .ok (.return_, 1) := by decide +kernel
theorem dX6_dropFirst_0 : decode cX6_dropFirst 0 = .ok (.iconst 1, 1) := by decide +kernel
theorem dX6_dropFirst_1 : decode cX6_dropFirst 1 = .ok (.istore_n 1, 1) := by decide +kernel
theorem dX6_dropFirst_2 : decode cX6_dropFirst 2 = .ok (.iload_n 1, 1) := by decide +kernel
theorem dX6_dropFirst_3 : decode cX6_dropFirst 3 = .ok (.aload_n 0, 1) := by decide +kernel
theorem dX6_dropFirst_4 : decode cX6_dropFirst 4 = .ok (.getfield 25, 3) := by decide +kernel
theorem dX6_dropFirst_7 : decode cX6_dropFirst 7 = .ok (.if_icmp .ge 23, 3) := by decide +kernel
theorem dX6_dropFirst_10 : decode cX6_dropFirst 10 = .ok (.aload_n 0, 1) := by decide +kernel
theorem dX6_dropFirst_11 : decode cX6_dropFirst 11 = .ok (.getfield 9, 3) := by decide +kernel
theorem dX6_dropFirst_14 : decode cX6_dropFirst 14 = .ok (.iload_n 1, 1) := by decide +kernel
theorem dX6_dropFirst_15 : decode cX6_dropFirst 15 = .ok (.iconst 1, 1) := by decide +kernel
theorem dX6_dropFirst_16 : decode cX6_dropFirst 16 = .ok (.isub, 1) := by decide +kernel
theorem dX6_dropFirst_17 : decode cX6_dropFirst 17 = .ok (.aload_n 0, 1) := by decide +kernel
theorem dX6_dropFirst_18 : decode cX6_dropFirst 18 = .ok (.getfield 9, 3) := by decide +kernel
theorem dX6_dropFirst_21 : decode cX6_dropFirst 21 = .ok (.iload_n 1, 1) := by decide +kernel
theorem dX6_dropFirst_22 : decode cX6_dropFirst 22 = .ok (.caload, 1) := by decide +kernel
theorem dX6_dropFirst_23 : decode cX6_dropFirst 23 = .ok (.castore, 1) := by decide +kernel
theorem dX6_dropFirst_24 : decode cX6_dropFirst 24 = .ok (.iinc 1 1, 3) := by decide +kernel
theorem dX6_dropFirst_27 : decode cX6_dropFirst 27 = .ok (.goto (-25), 3) := by decide +kernel
theorem dX6_dropFirst_30 : decode cX6_dropFirst 30 = .ok (.aload_n 0, 1) := by decide +kernel
theorem dX6_dropFirst_31 : decode cX6_dropFirst 31 = .ok (.getfield 25, 3) := by decide +kernel
theorem dX6_dropFirst_34 : decode cX6_dropFirst 34 = .ok (.ifCond .le 13, 3) := by decide +kernel
theorem dX6_dropFirst_37 : decode cX6_dropFirst 37 = .ok (.aload_n 0, 1) := by decide +kernel
theorem dX6_dropFirst_38 : decode cX6_dropFirst 38 = .ok (.dup, 1) := by decide +kernel
theorem dX6_dropFirst_39 : decode cX6_dropFirst 39 = .ok (.getfield 25, 3) := by decide +kernel
theorem dX6_dropFirst_42 : decode cX6_dropFirst 42 = .ok (.iconst 1, 1) := by decide +kernel
theorem dX6_dropFirst_43 : decode cX6_dropFirst 43 = .ok (.isub, 1) := by decide +kernel
theorem dX6_dropFirst_44 : decode cX6_dropFirst 44 = .ok (.putfield 25, 3) := by decide +kernel
theorem dX6_dropFirst_47 : decode cX6_dropFirst 47 = .ok (.return_, 1) := by decide +kernel
theorem dX6_endsAboveWhole_0 : decode cX6_endsAboveWhole 0 = .ok (.aload_n 0, 1) := by decide +kernel
theorem dX6_endsAboveWhole_1 : decode cX6_endsAboveWhole 1 = .ok (.getfield 25, 3) := by decide +kernel
theorem dX6_endsAboveWhole_4 : decode cX6_endsAboveWhole 4 = .ok (.iconst 1, 1) := by decide +kernel
theorem dX6_endsAboveWhole_5 : decode cX6_endsAboveWhole 5 = .ok (.isub, 1) := by decide +kernel
theorem dX6_endsAboveWhole_6 : decode cX6_endsAboveWhole 6 = .ok (.aload_n 0, 1) := by decide +kernel
theorem dX6_endsAboveWhole_7 : decode cX6_endsAboveWhole 7 = .ok (.getfield 19, 3) := by decide +kernel
theorem dX6_endsAboveWhole_10 : decode cX6_endsAboveWhole 10 = .ok (.iconst 0, 1) := by decide +kernel
theorem dX6_endsAboveWhole_11 : decode cX6_endsAboveWhole 11 = .ok (.iaload, 1) := by decide +kernel
theorem dX6_endsAboveWhole_12 : decode cX6_endsAboveWhole 12 = .ok (.isub, 1) := by decide +kernel
theorem dX6_endsAboveWhole_13 : decode cX6_endsAboveWhole 13 = .ok (.ireturn, 1) := by decide +kernel
theorem dX6_likeSigns_0 : decode cX6_likeSigns 0 = .ok (.aload_n 0, 1) := by decide +kernel
theorem dX6_likeSigns_1 : decode cX6_likeSigns 1 = .ok (.getfield 25, 3) := by decide +kernel
theorem dX6_likeSigns_4 : decode cX6_likeSigns 4 = .ok (.iload_n 1, 1) := by decide +kernel
theorem dX6_likeSigns_5 : decode cX6_likeSigns 5 = .ok (.isub, 1) := by decide +kernel
theorem dX6_likeSigns_6 : decode cX6_likeSigns 6 = .ok (.aload_n 2, 1) := by decide +kernel
theorem dX6_likeSigns_7 : decode cX6_likeSigns 7 = .ok (.getfield 25, 3) := by decide +kernel
theorem dX6_likeSigns_10 : decode cX6_likeSigns 10 = .ok (.iload_n 3, 1) := by decide +kernel
theorem dX6_likeSigns_11 : decode cX6_likeSigns 11 = .ok (.isub, 1) := by decide +kernel
theorem dX6_likeSigns_12 : decode cX6_likeSigns 12 = .ok (.invokestatic 29, 3) := by decide +kernel
theorem dX6_likeSigns_15 : decode cX6_likeSigns 15 = .ok (.istore 4, 2) := by decide +kernel
theorem dX6_likeSigns_17 : decode cX6_likeSigns 17 = .ok (.iconst 0, 1) := by decide +kernel
theorem dX6_likeSigns_18 : decode cX6_likeSigns 18 = .ok (.istore 5, 2) := by decide +kernel
theorem dX6_likeSigns_20 : decode cX6_likeSigns 20 = .ok (.iload 5, 2) := by decide +kernel
theorem dX6_likeSigns_22 : decode cX6_likeSigns 22 = .ok (.iload 4, 2) := by decide +kernel
theorem dX6_likeSigns_24 : decode cX6_likeSigns 24 = .ok (.if_icmp .ge 30, 3) := by decide +kernel
theorem dX6_likeSigns_27 : decode cX6_likeSigns 27 = .ok (.aload_n 0, 1) := by decide +kernel
theorem dX6_likeSigns_28 : decode cX6_likeSigns 28 = .ok (.getfield 9, 3) := by decide +kernel
theorem dX6_likeSigns_31 : decode cX6_likeSigns 31 = .ok (.iload_n 1, 1) := by decide +kernel
theorem dX6_likeSigns_32 : decode cX6_likeSigns 32 = .ok (.iload 5, 2) := by decide +kernel
theorem dX6_likeSigns_34 : decode cX6_likeSigns 34 = .ok (.iadd, 1) := by decide +kernel
theorem dX6_likeSigns_35 : decode cX6_likeSigns 35 = .ok (.caload, 1) := by decide +kernel
theorem dX6_likeSigns_36 : decode cX6_likeSigns 36 = .ok (.aload_n 2, 1) := by decide +kernel
theorem dX6_likeSigns_37 : decode cX6_likeSigns 37 = .ok (.getfield 9, 3) := by decide +kernel
theorem dX6_likeSigns_40 : decode cX6_likeSigns 40 = .ok (.iload_n 3, 1) := by decide +kernel
theorem dX6_likeSigns_41 : decode cX6_likeSigns 41 = .ok (.iload 5, 2) := by decide +kernel
theorem dX6_likeSigns_43 : decode cX6_likeSigns 43 = .ok (.iadd, 1) := by decide +kernel
theorem dX6_likeSigns_44 : decode cX6_likeSigns 44 = .ok (.caload, 1) := by decide +kernel
theorem dX6_likeSigns_45 : decode cX6_likeSigns 45 = .ok (.if_icmp .ne 9, 3) := by decide +kernel
theorem dX6_likeSigns_48 : decode cX6_likeSigns 48 = .ok (.iinc 5 1, 3) := by decide +kernel
theorem dX6_likeSigns_51 : decode cX6_likeSigns 51 = .ok (.goto (-31), 3) := by decide +kernel
theorem dX6_likeSigns_54 : decode cX6_likeSigns 54 = .ok (.iload 5, 2) := by decide +kernel
theorem dX6_likeSigns_56 : decode cX6_likeSigns 56 = .ok (.ireturn, 1) := by decide +kernel
theorem dX6_isEndLess_0 : decode cX6_isEndLess 0 = .ok (.aload_n 0, 1) := by decide +kernel
theorem dX6_isEndLess_1 : decode cX6_isEndLess 1 = .ok (.iload_n 1, 1) := by decide +kernel
theorem dX6_isEndLess_2 : decode cX6_isEndLess 2 = .ok (.aload_n 2, 1) := by decide +kernel
theorem dX6_isEndLess_3 : decode cX6_isEndLess 3 = .ok (.iload_n 3, 1) := by decide +kernel
theorem dX6_isEndLess_4 : decode cX6_isEndLess 4 = .ok (.invokevirtual 35, 3) := by decide +kernel
theorem dX6_isEndLess_7 : decode cX6_isEndLess 7 = .ok (.istore 4, 2) := by decide +kernel
theorem dX6_isEndLess_9 : decode cX6_isEndLess 9 = .ok (.iload_n 3, 1) := by decide +kernel
theorem dX6_isEndLess_10 : decode cX6_isEndLess 10 = .ok (.iload 4, 2) := by decide +kernel
theorem dX6_isEndLess_12 : decode cX6_isEndLess 12 = .ok (.iadd, 1) := by decide +kernel
theorem dX6_isEndLess_13 : decode cX6_isEndLess 13 = .ok (.aload_n 2, 1) := by decide +kernel
theorem dX6_isEndLess_14 : decode cX6_isEndLess 14 = .ok (.getfield 25, 3) := by decide +kernel
theorem dX6_isEndLess_17 : decode cX6_isEndLess 17 = .ok (.if_icmp .lt 5, 3) := by decide +kernel
theorem dX6_isEndLess_20 : decode cX6_isEndLess 20 = .ok (.iconst 0, 1) := by decide +kernel
theorem dX6_isEndLess_21 : decode cX6_isEndLess 21 = .ok (.ireturn, 1) := by decide +kernel
theorem dX6_isEndLess_22 : decode cX6_isEndLess 22 = .ok (.iload_n 1, 1) := by decide +kernel
theorem dX6_isEndLess_23 : decode cX6_isEndLess 23 = .ok (.iload 4, 2) := by decide +kernel
theorem dX6_isEndLess_25 : decode cX6_isEndLess 25 = .ok (.iadd, 1) := by decide +kernel
theorem dX6_isEndLess_26 : decode cX6_isEndLess 26 = .ok (.aload_n 0, 1) := by decide +kernel
theorem dX6_isEndLess_27 : decode cX6_isEndLess 27 = .ok (.getfield 25, 3) := by decide +kernel
theorem dX6_isEndLess_30 : decode cX6_isEndLess 30 = .ok (.if_icmp .ge 24, 3) := by decide +kernel
theorem dX6_isEndLess_33 : decode cX6_isEndLess 33 = .ok (.aload_n 0, 1) := by decide +kernel
theorem dX6_isEndLess_34 : decode cX6_isEndLess 34 = .ok (.getfield 9, 3) := by decide +kernel
theorem dX6_isEndLess_37 : decode cX6_isEndLess 37 = .ok (.iload_n 1, 1) := by decide +kernel
theorem dX6_isEndLess_38 : decode cX6_isEndLess 38 = .ok (.iload 4, 2) := by decide +kernel
theorem dX6_isEndLess_40 : decode cX6_isEndLess 40 = .ok (.iadd, 1) := by decide +kernel
theorem dX6_isEndLess_41 : decode cX6_isEndLess 41 = .ok (.caload, 1) := by decide +kernel
theorem dX6_isEndLess_42 : decode cX6_isEndLess 42 = .ok (.aload_n 2, 1) := by decide +kernel
theorem dX6_isEndLess_43 : decode cX6_isEndLess 43 = .ok (.getfield 9, 3) := by decide +kernel
theorem dX6_isEndLess_46 : decode cX6_isEndLess 46 = .ok (.iload_n 3, 1) := by decide +kernel
theorem dX6_isEndLess_47 : decode cX6_isEndLess 47 = .ok (.iload 4, 2) := by decide +kernel
theorem dX6_isEndLess_49 : decode cX6_isEndLess 49 = .ok (.iadd, 1) := by decide +kernel
theorem dX6_isEndLess_50 : decode cX6_isEndLess 50 = .ok (.caload, 1) := by decide +kernel
theorem dX6_isEndLess_51 : decode cX6_isEndLess 51 = .ok (.if_icmp .ge 7, 3) := by decide +kernel
theorem dX6_isEndLess_54 : decode cX6_isEndLess 54 = .ok (.iconst 1, 1) := by decide +kernel
theorem dX6_isEndLess_55 : decode cX6_isEndLess 55 = .ok (.goto 4, 3) := by decide +kernel
theorem dX6_isEndLess_58 : decode cX6_isEndLess 58 = .ok (.iconst 0, 1) := by decide +kernel
theorem dX6_isEndLess_59 : decode cX6_isEndLess 59 = .ok (.ireturn, 1) := by decide +kernel
theorem dX6_unlikeBeginnings_0 : decode cX6_unlikeBeginnings 0 = .ok (.iconst 0, 1) := by decide +kernel
theorem dX6_unlikeBeginnings_1 : decode cX6_unlikeBeginnings 1 = .ok (.istore_n 3, 1) := by decide +kernel
theorem dX6_unlikeBeginnings_2 : decode cX6_unlikeBeginnings 2 = .ok (.iconst 0, 1) := by decide +kernel
theorem dX6_unlikeBeginnings_3 : decode cX6_unlikeBeginnings 3 = .ok (.istore 4, 2) := by decide +kernel
theorem dX6_unlikeBeginnings_5 : decode cX6_unlikeBeginnings 5 = .ok (.iload 4, 2) := by decide +kernel
theorem dX6_unlikeBeginnings_7 : decode cX6_unlikeBeginnings 7 = .ok (.iload_n 2, 1) := by decide +kernel
theorem dX6_unlikeBeginnings_8 : decode cX6_unlikeBeginnings 8 = .ok (.if_icmp .gt 23, 3) := by decide +kernel
theorem dX6_unlikeBeginnings_11 : decode cX6_unlikeBeginnings 11 = .ok (.aload_n 0, 1) := by decide +kernel
theorem dX6_unlikeBeginnings_12 : decode cX6_unlikeBeginnings 12 = .ok (.getfield 22, 3) := by decide +kernel
theorem dX6_unlikeBeginnings_15 : decode cX6_unlikeBeginnings 15 = .ok (.iload 4, 2) := by decide +kernel
theorem dX6_unlikeBeginnings_17 : decode cX6_unlikeBeginnings 17 = .ok (.iaload, 1) := by decide +kernel
theorem dX6_unlikeBeginnings_18 : decode cX6_unlikeBeginnings 18 = .ok (.iload_n 1, 1) := by decide +kernel
theorem dX6_unlikeBeginnings_19 : decode cX6_unlikeBeginnings 19 = .ok (.if_icmp .ge 6, 3) := by decide +kernel
theorem dX6_unlikeBeginnings_22 : decode cX6_unlikeBeginnings 22 = .ok (.iinc 3 1, 3) := by decide +kernel
theorem dX6_unlikeBeginnings_25 : decode cX6_unlikeBeginnings 25 = .ok (.iinc 4 1, 3) := by decide +kernel
theorem dX6_unlikeBeginnings_28 : decode cX6_unlikeBeginnings 28 = .ok (.goto (-23), 3) := by decide +kernel
theorem dX6_unlikeBeginnings_31 : decode cX6_unlikeBeginnings 31 = .ok (.iload_n 3, 1) := by decide +kernel
theorem dX6_unlikeBeginnings_32 : decode cX6_unlikeBeginnings 32 = .ok (.ireturn, 1) := by decide +kernel
theorem dX6_greatestCommon_0 : decode cX6_greatestCommon 0 = .ok (.iconst 0, 1) := by decide +kernel
theorem dX6_greatestCommon_1 : decode cX6_greatestCommon 1 = .ok (.istore_n 1, 1) := by decide +kernel
theorem dX6_greatestCommon_2 : decode cX6_greatestCommon 2 = .ok (.iconst 0, 1) := by decide +kernel
theorem dX6_greatestCommon_3 : decode cX6_greatestCommon 3 = .ok (.istore_n 2, 1) := by decide +kernel
theorem dX6_greatestCommon_4 : decode cX6_greatestCommon 4 = .ok (.iload_n 2, 1) := by decide +kernel
theorem dX6_greatestCommon_5 : decode cX6_greatestCommon 5 = .ok (.aload_n 0, 1) := by decide +kernel
theorem dX6_greatestCommon_6 : decode cX6_greatestCommon 6 = .ok (.getfield 25, 3) := by decide +kernel
theorem dX6_greatestCommon_9 : decode cX6_greatestCommon 9 = .ok (.if_icmp .ge 20, 3) := by decide +kernel
theorem dX6_greatestCommon_12 : decode cX6_greatestCommon 12 = .ok (.iload_n 1, 1) := by decide +kernel
theorem dX6_greatestCommon_13 : decode cX6_greatestCommon 13 = .ok (.aload_n 0, 1) := by decide +kernel
theorem dX6_greatestCommon_14 : decode cX6_greatestCommon 14 = .ok (.getfield 22, 3) := by decide +kernel
theorem dX6_greatestCommon_17 : decode cX6_greatestCommon 17 = .ok (.iload_n 2, 1) := by decide +kernel
theorem dX6_greatestCommon_18 : decode cX6_greatestCommon 18 = .ok (.iaload, 1) := by decide +kernel
theorem dX6_greatestCommon_19 : decode cX6_greatestCommon 19 = .ok (.invokestatic 39, 3) := by decide +kernel
theorem dX6_greatestCommon_22 : decode cX6_greatestCommon 22 = .ok (.istore_n 1, 1) := by decide +kernel
theorem dX6_greatestCommon_23 : decode cX6_greatestCommon 23 = .ok (.iinc 2 1, 3) := by decide +kernel
theorem dX6_greatestCommon_26 : decode cX6_greatestCommon 26 = .ok (.goto (-22), 3) := by decide +kernel
theorem dX6_greatestCommon_29 : decode cX6_greatestCommon 29 = .ok (.iload_n 1, 1) := by decide +kernel
theorem dX6_greatestCommon_30 : decode cX6_greatestCommon 30 = .ok (.ireturn, 1) := by decide +kernel
theorem dX6_againstWord_0 : decode cX6_againstWord 0 = .ok (.aload_n 2, 1) := by decide +kernel
theorem dX6_againstWord_1 : decode cX6_againstWord 1 = .ok (.getfield 42, 3) := by decide +kernel
theorem dX6_againstWord_4 : decode cX6_againstWord 4 = .ok (.iload_n 3, 1) := by decide +kernel
theorem dX6_againstWord_5 : decode cX6_againstWord 5 = .ok (.isub, 1) := by decide +kernel
theorem dX6_againstWord_6 : decode cX6_againstWord 6 = .ok (.istore 4, 2) := by decide +kernel
theorem dX6_againstWord_8 : decode cX6_againstWord 8 = .ok (.aload_n 0, 1) := by decide +kernel
theorem dX6_againstWord_9 : decode cX6_againstWord 9 = .ok (.getfield 25, 3) := by decide +kernel
theorem dX6_againstWord_12 : decode cX6_againstWord 12 = .ok (.iload_n 1, 1) := by decide +kernel
theorem dX6_againstWord_13 : decode cX6_againstWord 13 = .ok (.isub, 1) := by decide +kernel
theorem dX6_againstWord_14 : decode cX6_againstWord 14 = .ok (.iload 4, 2) := by decide +kernel
theorem dX6_againstWord_16 : decode cX6_againstWord 16 = .ok (.invokestatic 29, 3) := by decide +kernel
theorem dX6_againstWord_19 : decode cX6_againstWord 19 = .ok (.istore 5, 2) := by decide +kernel
theorem dX6_againstWord_21 : decode cX6_againstWord 21 = .ok (.iconst 0, 1) := by decide +kernel
theorem dX6_againstWord_22 : decode cX6_againstWord 22 = .ok (.istore 6, 2) := by decide +kernel
theorem dX6_againstWord_24 : decode cX6_againstWord 24 = .ok (.iload 6, 2) := by decide +kernel
theorem dX6_againstWord_26 : decode cX6_againstWord 26 = .ok (.iload 5, 2) := by decide +kernel
theorem dX6_againstWord_28 : decode cX6_againstWord 28 = .ok (.if_icmp .ge 38, 3) := by decide +kernel
theorem dX6_againstWord_31 : decode cX6_againstWord 31 = .ok (.aload_n 0, 1) := by decide +kernel
theorem dX6_againstWord_32 : decode cX6_againstWord 32 = .ok (.getfield 9, 3) := by decide +kernel
theorem dX6_againstWord_35 : decode cX6_againstWord 35 = .ok (.iload_n 1, 1) := by decide +kernel
theorem dX6_againstWord_36 : decode cX6_againstWord 36 = .ok (.iload 6, 2) := by decide +kernel
theorem dX6_againstWord_38 : decode cX6_againstWord 38 = .ok (.iadd, 1) := by decide +kernel
theorem dX6_againstWord_39 : decode cX6_againstWord 39 = .ok (.caload, 1) := by decide +kernel
theorem dX6_againstWord_40 : decode cX6_againstWord 40 = .ok (.aload_n 2, 1) := by decide +kernel
theorem dX6_againstWord_41 : decode cX6_againstWord 41 = .ok (.getfield 45, 3) := by decide +kernel
theorem dX6_againstWord_44 : decode cX6_againstWord 44 = .ok (.iload_n 3, 1) := by decide +kernel
theorem dX6_againstWord_45 : decode cX6_againstWord 45 = .ok (.iload 6, 2) := by decide +kernel
theorem dX6_againstWord_47 : decode cX6_againstWord 47 = .ok (.iadd, 1) := by decide +kernel
theorem dX6_againstWord_48 : decode cX6_againstWord 48 = .ok (.caload, 1) := by decide +kernel
theorem dX6_againstWord_49 : decode cX6_againstWord 49 = .ok (.isub, 1) := by decide +kernel
theorem dX6_againstWord_50 : decode cX6_againstWord 50 = .ok (.istore 7, 2) := by decide +kernel
theorem dX6_againstWord_52 : decode cX6_againstWord 52 = .ok (.iload 7, 2) := by decide +kernel
theorem dX6_againstWord_54 : decode cX6_againstWord 54 = .ok (.ifCond .eq 6, 3) := by decide +kernel
theorem dX6_againstWord_57 : decode cX6_againstWord 57 = .ok (.iload 7, 2) := by decide +kernel
theorem dX6_againstWord_59 : decode cX6_againstWord 59 = .ok (.ireturn, 1) := by decide +kernel
theorem dX6_againstWord_60 : decode cX6_againstWord 60 = .ok (.iinc 6 1, 3) := by decide +kernel
theorem dX6_againstWord_63 : decode cX6_againstWord 63 = .ok (.goto (-39), 3) := by decide +kernel
theorem dX6_againstWord_66 : decode cX6_againstWord 66 = .ok (.iload 5, 2) := by decide +kernel
theorem dX6_againstWord_68 : decode cX6_againstWord 68 = .ok (.iload 4, 2) := by decide +kernel
theorem dX6_againstWord_70 : decode cX6_againstWord 70 = .ok (.isub, 1) := by decide +kernel
theorem dX6_againstWord_71 : decode cX6_againstWord 71 = .ok (.ireturn, 1) := by decide +kernel
theorem dX6_endsBelow_0 : decode cX6_endsBelow 0 = .ok (.aload_n 0, 1) := by decide +kernel
theorem dX6_endsBelow_1 : decode cX6_endsBelow 1 = .ok (.aload_n 1, 1) := by decide +kernel
theorem dX6_endsBelow_2 : decode cX6_endsBelow 2 = .ok (.iload_n 2, 1) := by decide +kernel
theorem dX6_endsBelow_3 : decode cX6_endsBelow 3 = .ok (.iconst 0, 1) := by decide +kernel
theorem dX6_endsBelow_4 : decode cX6_endsBelow 4 = .ok (.invokevirtual 46, 3) := by decide +kernel
theorem dX6_endsBelow_7 : decode cX6_endsBelow 7 = .ok (.ireturn, 1) := by decide +kernel
theorem dX6_endsUpTo_0 : decode cX6_endsUpTo 0 = .ok (.aload_n 0, 1) := by decide +kernel
theorem dX6_endsUpTo_1 : decode cX6_endsUpTo 1 = .ok (.aload_n 1, 1) := by decide +kernel
theorem dX6_endsUpTo_2 : decode cX6_endsUpTo 2 = .ok (.iload_n 2, 1) := by decide +kernel
theorem dX6_endsUpTo_3 : decode cX6_endsUpTo 3 = .ok (.iconst 1, 1) := by decide +kernel
theorem dX6_endsUpTo_4 : decode cX6_endsUpTo 4 = .ok (.invokevirtual 46, 3) := by decide +kernel
theorem dX6_endsUpTo_7 : decode cX6_endsUpTo 7 = .ok (.ireturn, 1) := by decide +kernel
theorem dX6_endsUnder_0 : decode cX6_endsUnder 0 = .ok (.iconst 0, 1) := by decide +kernel
theorem dX6_endsUnder_1 : decode cX6_endsUnder 1 = .ok (.istore 4, 2) := by decide +kernel
theorem dX6_endsUnder_3 : decode cX6_endsUnder 3 = .ok (.aload_n 0, 1) := by decide +kernel
theorem dX6_endsUnder_4 : decode cX6_endsUnder 4 = .ok (.getfield 25, 3) := by decide +kernel
theorem dX6_endsUnder_7 : decode cX6_endsUnder 7 = .ok (.istore 5, 2) := by decide +kernel
theorem dX6_endsUnder_9 : decode cX6_endsUnder 9 = .ok (.iload 4, 2) := by decide +kernel
theorem dX6_endsUnder_11 : decode cX6_endsUnder 11 = .ok (.iload 5, 2) := by decide +kernel
theorem dX6_endsUnder_13 : decode cX6_endsUnder 13 = .ok (.if_icmp .ge 45, 3) := by decide +kernel
theorem dX6_endsUnder_16 : decode cX6_endsUnder 16 = .ok (.iload 4, 2) := by decide +kernel
theorem dX6_endsUnder_18 : decode cX6_endsUnder 18 = .ok (.iload 5, 2) := by decide +kernel
theorem dX6_endsUnder_20 : decode cX6_endsUnder 20 = .ok (.iadd, 1) := by decide +kernel
theorem dX6_endsUnder_21 : decode cX6_endsUnder 21 = .ok (.iconst 2, 1) := by decide +kernel
theorem dX6_endsUnder_22 : decode cX6_endsUnder 22 = .ok (.idiv, 1) := by decide +kernel
theorem dX6_endsUnder_23 : decode cX6_endsUnder 23 = .ok (.istore 6, 2) := by decide +kernel
theorem dX6_endsUnder_25 : decode cX6_endsUnder 25 = .ok (.aload_n 0, 1) := by decide +kernel
theorem dX6_endsUnder_26 : decode cX6_endsUnder 26 = .ok (.aload_n 0, 1) := by decide +kernel
theorem dX6_endsUnder_27 : decode cX6_endsUnder 27 = .ok (.getfield 15, 3) := by decide +kernel
theorem dX6_endsUnder_30 : decode cX6_endsUnder 30 = .ok (.iload 6, 2) := by decide +kernel
theorem dX6_endsUnder_32 : decode cX6_endsUnder 32 = .ok (.iaload, 1) := by decide +kernel
theorem dX6_endsUnder_33 : decode cX6_endsUnder 33 = .ok (.aload_n 1, 1) := by decide +kernel
theorem dX6_endsUnder_34 : decode cX6_endsUnder 34 = .ok (.iload_n 2, 1) := by decide +kernel
theorem dX6_endsUnder_35 : decode cX6_endsUnder 35 = .ok (.invokevirtual 50, 3) := by decide +kernel
theorem dX6_endsUnder_38 : decode cX6_endsUnder 38 = .ok (.iload_n 3, 1) := by decide +kernel
theorem dX6_endsUnder_39 : decode cX6_endsUnder 39 = .ok (.if_icmp .ge 12, 3) := by decide +kernel
theorem dX6_endsUnder_42 : decode cX6_endsUnder 42 = .ok (.iload 6, 2) := by decide +kernel
theorem dX6_endsUnder_44 : decode cX6_endsUnder 44 = .ok (.iconst 1, 1) := by decide +kernel
theorem dX6_endsUnder_45 : decode cX6_endsUnder 45 = .ok (.iadd, 1) := by decide +kernel
theorem dX6_endsUnder_46 : decode cX6_endsUnder 46 = .ok (.istore 4, 2) := by decide +kernel
theorem dX6_endsUnder_48 : decode cX6_endsUnder 48 = .ok (.goto 7, 3) := by decide +kernel
theorem dX6_endsUnder_51 : decode cX6_endsUnder 51 = .ok (.iload 6, 2) := by decide +kernel
theorem dX6_endsUnder_53 : decode cX6_endsUnder 53 = .ok (.istore 5, 2) := by decide +kernel
theorem dX6_endsUnder_55 : decode cX6_endsUnder 55 = .ok (.goto (-46), 3) := by decide +kernel
theorem dX6_endsUnder_58 : decode cX6_endsUnder 58 = .ok (.iload 4, 2) := by decide +kernel
theorem dX6_endsUnder_60 : decode cX6_endsUnder 60 = .ok (.ireturn, 1) := by decide +kernel
theorem dX6_risingPlace_0 : decode cX6_risingPlace 0 = .ok (.iconst 0, 1) := by decide +kernel
theorem dX6_risingPlace_1 : decode cX6_risingPlace 1 = .ok (.istore 4, 2) := by decide +kernel
theorem dX6_risingPlace_3 : decode cX6_risingPlace 3 = .ok (.iconst 0, 1) := by decide +kernel
theorem dX6_risingPlace_4 : decode cX6_risingPlace 4 = .ok (.istore 5, 2) := by decide +kernel
theorem dX6_risingPlace_6 : decode cX6_risingPlace 6 = .ok (.iload 5, 2) := by decide +kernel
theorem dX6_risingPlace_8 : decode cX6_risingPlace 8 = .ok (.aload_n 0, 1) := by decide +kernel
theorem dX6_risingPlace_9 : decode cX6_risingPlace 9 = .ok (.getfield 25, 3) := by decide +kernel
theorem dX6_risingPlace_12 : decode cX6_risingPlace 12 = .ok (.if_icmp .ge 43, 3) := by decide +kernel
theorem dX6_risingPlace_15 : decode cX6_risingPlace 15 = .ok (.aload_n 0, 1) := by decide +kernel
theorem dX6_risingPlace_16 : decode cX6_risingPlace 16 = .ok (.getfield 19, 3) := by decide +kernel
theorem dX6_risingPlace_19 : decode cX6_risingPlace 19 = .ok (.iload 5, 2) := by decide +kernel
theorem dX6_risingPlace_21 : decode cX6_risingPlace 21 = .ok (.iaload, 1) := by decide +kernel
theorem dX6_risingPlace_22 : decode cX6_risingPlace 22 = .ok (.iload_n 1, 1) := by decide +kernel
theorem dX6_risingPlace_23 : decode cX6_risingPlace 23 = .ok (.if_icmp .lt 26, 3) := by decide +kernel
theorem dX6_risingPlace_26 : decode cX6_risingPlace 26 = .ok (.aload_n 0, 1) := by decide +kernel
theorem dX6_risingPlace_27 : decode cX6_risingPlace 27 = .ok (.getfield 19, 3) := by decide +kernel
theorem dX6_risingPlace_30 : decode cX6_risingPlace 30 = .ok (.iload 5, 2) := by decide +kernel
theorem dX6_risingPlace_32 : decode cX6_risingPlace 32 = .ok (.iaload, 1) := by decide +kernel
theorem dX6_risingPlace_33 : decode cX6_risingPlace 33 = .ok (.iload_n 2, 1) := by decide +kernel
theorem dX6_risingPlace_34 : decode cX6_risingPlace 34 = .ok (.if_icmp .ge 15, 3) := by decide +kernel
theorem dX6_risingPlace_37 : decode cX6_risingPlace 37 = .ok (.iload 4, 2) := by decide +kernel
theorem dX6_risingPlace_39 : decode cX6_risingPlace 39 = .ok (.iload_n 3, 1) := by decide +kernel
theorem dX6_risingPlace_40 : decode cX6_risingPlace 40 = .ok (.if_icmp .ne 6, 3) := by decide +kernel
theorem dX6_risingPlace_43 : decode cX6_risingPlace 43 = .ok (.iload 5, 2) := by decide +kernel
theorem dX6_risingPlace_45 : decode cX6_risingPlace 45 = .ok (.ireturn, 1) := by decide +kernel
theorem dX6_risingPlace_46 : decode cX6_risingPlace 46 = .ok (.iinc 4 1, 3) := by decide +kernel
theorem dX6_risingPlace_49 : decode cX6_risingPlace 49 = .ok (.iinc 5 1, 3) := by decide +kernel
theorem dX6_risingPlace_52 : decode cX6_risingPlace 52 = .ok (.goto (-46), 3) := by decide +kernel
theorem dX6_risingPlace_55 : decode cX6_risingPlace 55 = .ok (.aload_n 0, 1) := by decide +kernel
theorem dX6_risingPlace_56 : decode cX6_risingPlace 56 = .ok (.getfield 25, 3) := by decide +kernel
theorem dX6_risingPlace_59 : decode cX6_risingPlace 59 = .ok (.ireturn, 1) := by decide +kernel
theorem dX6_newWordsBelow_0 : decode cX6_newWordsBelow 0 = .ok (.iconst 0, 1) := by decide +kernel
theorem dX6_newWordsBelow_1 : decode cX6_newWordsBelow 1 = .ok (.istore_n 2, 1) := by decide +kernel
theorem dX6_newWordsBelow_2 : decode cX6_newWordsBelow 2 = .ok (.iconst 0, 1) := by decide +kernel
theorem dX6_newWordsBelow_3 : decode cX6_newWordsBelow 3 = .ok (.istore_n 3, 1) := by decide +kernel
theorem dX6_newWordsBelow_4 : decode cX6_newWordsBelow 4 = .ok (.iload_n 3, 1) := by decide +kernel
theorem dX6_newWordsBelow_5 : decode cX6_newWordsBelow 5 = .ok (.iload_n 1, 1) := by decide +kernel
theorem dX6_newWordsBelow_6 : decode cX6_newWordsBelow 6 = .ok (.if_icmp .ge 30, 3) := by decide +kernel
theorem dX6_newWordsBelow_9 : decode cX6_newWordsBelow 9 = .ok (.iload_n 2, 1) := by decide +kernel
theorem dX6_newWordsBelow_10 : decode cX6_newWordsBelow 10 = .ok (.aload_n 0, 1) := by decide +kernel
theorem dX6_newWordsBelow_11 : decode cX6_newWordsBelow 11 = .ok (.getfield 25, 3) := by decide +kernel
theorem dX6_newWordsBelow_14 : decode cX6_newWordsBelow 14 = .ok (.aload_n 0, 1) := by decide +kernel
theorem dX6_newWordsBelow_15 : decode cX6_newWordsBelow 15 = .ok (.getfield 15, 3) := by decide +kernel
theorem dX6_newWordsBelow_18 : decode cX6_newWordsBelow 18 = .ok (.iload_n 3, 1) := by decide +kernel
theorem dX6_newWordsBelow_19 : decode cX6_newWordsBelow 19 = .ok (.iaload, 1) := by decide +kernel
theorem dX6_newWordsBelow_20 : decode cX6_newWordsBelow 20 = .ok (.isub, 1) := by decide +kernel
theorem dX6_newWordsBelow_21 : decode cX6_newWordsBelow 21 = .ok (.aload_n 0, 1) := by decide +kernel
theorem dX6_newWordsBelow_22 : decode cX6_newWordsBelow 22 = .ok (.getfield 22, 3) := by decide +kernel
theorem dX6_newWordsBelow_25 : decode cX6_newWordsBelow 25 = .ok (.iload_n 3, 1) := by decide +kernel
theorem dX6_newWordsBelow_26 : decode cX6_newWordsBelow 26 = .ok (.iaload, 1) := by decide +kernel
theorem dX6_newWordsBelow_27 : decode cX6_newWordsBelow 27 = .ok (.isub, 1) := by decide +kernel
theorem dX6_newWordsBelow_28 : decode cX6_newWordsBelow 28 = .ok (.iadd, 1) := by decide +kernel
theorem dX6_newWordsBelow_29 : decode cX6_newWordsBelow 29 = .ok (.istore_n 2, 1) := by decide +kernel
theorem dX6_newWordsBelow_30 : decode cX6_newWordsBelow 30 = .ok (.iinc 3 1, 3) := by decide +kernel
theorem dX6_newWordsBelow_33 : decode cX6_newWordsBelow 33 = .ok (.goto (-29), 3) := by decide +kernel
theorem dX6_newWordsBelow_36 : decode cX6_newWordsBelow 36 = .ok (.iload_n 2, 1) := by decide +kernel
theorem dX6_newWordsBelow_37 : decode cX6_newWordsBelow 37 = .ok (.ireturn, 1) := by decide +kernel
theorem dX6_rankBringing_0 : decode cX6_rankBringing 0 = .ok (.iconst 0, 1) := by decide +kernel
theorem dX6_rankBringing_1 : decode cX6_rankBringing 1 = .ok (.istore_n 2, 1) := by decide +kernel
theorem dX6_rankBringing_2 : decode cX6_rankBringing 2 = .ok (.iconst 0, 1) := by decide +kernel
theorem dX6_rankBringing_3 : decode cX6_rankBringing 3 = .ok (.istore_n 3, 1) := by decide +kernel
theorem dX6_rankBringing_4 : decode cX6_rankBringing 4 = .ok (.iload_n 2, 1) := by decide +kernel
theorem dX6_rankBringing_5 : decode cX6_rankBringing 5 = .ok (.aload_n 0, 1) := by decide +kernel
theorem dX6_rankBringing_6 : decode cX6_rankBringing 6 = .ok (.getfield 25, 3) := by decide +kernel
theorem dX6_rankBringing_9 : decode cX6_rankBringing 9 = .ok (.iconst 1, 1) := by decide +kernel
theorem dX6_rankBringing_10 : decode cX6_rankBringing 10 = .ok (.isub, 1) := by decide +kernel
theorem dX6_rankBringing_11 : decode cX6_rankBringing 11 = .ok (.if_icmp .ge 54, 3) := by decide +kernel
theorem dX6_rankBringing_14 : decode cX6_rankBringing 14 = .ok (.iload_n 1, 1) := by decide +kernel
theorem dX6_rankBringing_15 : decode cX6_rankBringing 15 = .ok (.iload_n 3, 1) := by decide +kernel
theorem dX6_rankBringing_16 : decode cX6_rankBringing 16 = .ok (.aload_n 0, 1) := by decide +kernel
theorem dX6_rankBringing_17 : decode cX6_rankBringing 17 = .ok (.getfield 25, 3) := by decide +kernel
theorem dX6_rankBringing_20 : decode cX6_rankBringing 20 = .ok (.iadd, 1) := by decide +kernel
theorem dX6_rankBringing_21 : decode cX6_rankBringing 21 = .ok (.aload_n 0, 1) := by decide +kernel
theorem dX6_rankBringing_22 : decode cX6_rankBringing 22 = .ok (.getfield 15, 3) := by decide +kernel
theorem dX6_rankBringing_25 : decode cX6_rankBringing 25 = .ok (.iload_n 2, 1) := by decide +kernel
theorem dX6_rankBringing_26 : decode cX6_rankBringing 26 = .ok (.iaload, 1) := by decide +kernel
theorem dX6_rankBringing_27 : decode cX6_rankBringing 27 = .ok (.isub, 1) := by decide +kernel
theorem dX6_rankBringing_28 : decode cX6_rankBringing 28 = .ok (.aload_n 0, 1) := by decide +kernel
theorem dX6_rankBringing_29 : decode cX6_rankBringing 29 = .ok (.getfield 22, 3) := by decide +kernel
theorem dX6_rankBringing_32 : decode cX6_rankBringing 32 = .ok (.iload_n 2, 1) := by decide +kernel
theorem dX6_rankBringing_33 : decode cX6_rankBringing 33 = .ok (.iaload, 1) := by decide +kernel
theorem dX6_rankBringing_34 : decode cX6_rankBringing 34 = .ok (.isub, 1) := by decide +kernel
theorem dX6_rankBringing_35 : decode cX6_rankBringing 35 = .ok (.if_icmp .lt 30, 3) := by decide +kernel
theorem dX6_rankBringing_38 : decode cX6_rankBringing 38 = .ok (.iload_n 3, 1) := by decide +kernel
theorem dX6_rankBringing_39 : decode cX6_rankBringing 39 = .ok (.aload_n 0, 1) := by decide +kernel
theorem dX6_rankBringing_40 : decode cX6_rankBringing 40 = .ok (.getfield 25, 3) := by decide +kernel
theorem dX6_rankBringing_43 : decode cX6_rankBringing 43 = .ok (.aload_n 0, 1) := by decide +kernel
theorem dX6_rankBringing_44 : decode cX6_rankBringing 44 = .ok (.getfield 15, 3) := by decide +kernel
theorem dX6_rankBringing_47 : decode cX6_rankBringing 47 = .ok (.iload_n 2, 1) := by decide +kernel
theorem dX6_rankBringing_48 : decode cX6_rankBringing 48 = .ok (.iaload, 1) := by decide +kernel
theorem dX6_rankBringing_49 : decode cX6_rankBringing 49 = .ok (.isub, 1) := by decide +kernel
theorem dX6_rankBringing_50 : decode cX6_rankBringing 50 = .ok (.aload_n 0, 1) := by decide +kernel
theorem dX6_rankBringing_51 : decode cX6_rankBringing 51 = .ok (.getfield 22, 3) := by decide +kernel
theorem dX6_rankBringing_54 : decode cX6_rankBringing 54 = .ok (.iload_n 2, 1) := by decide +kernel
theorem dX6_rankBringing_55 : decode cX6_rankBringing 55 = .ok (.iaload, 1) := by decide +kernel
theorem dX6_rankBringing_56 : decode cX6_rankBringing 56 = .ok (.isub, 1) := by decide +kernel
theorem dX6_rankBringing_57 : decode cX6_rankBringing 57 = .ok (.iadd, 1) := by decide +kernel
theorem dX6_rankBringing_58 : decode cX6_rankBringing 58 = .ok (.istore_n 3, 1) := by decide +kernel
theorem dX6_rankBringing_59 : decode cX6_rankBringing 59 = .ok (.iinc 2 1, 3) := by decide +kernel
theorem dX6_rankBringing_62 : decode cX6_rankBringing 62 = .ok (.goto (-58), 3) := by decide +kernel
theorem dX6_rankBringing_65 : decode cX6_rankBringing 65 = .ok (.iload_n 2, 1) := by decide +kernel
theorem dX6_rankBringing_66 : decode cX6_rankBringing 66 = .ok (.ireturn, 1) := by decide +kernel
theorem dX6_firstPlaceOfLongestTwice_0 : decode cX6_firstPlaceOfLongestTwice 0 = .ok (.aload_n 0, 1) := by decide +kernel
theorem dX6_firstPlaceOfLongestTwice_1 : decode cX6_firstPlaceOfLongestTwice 1 = .ok (.invokevirtual 54, 3) := by decide +kernel
theorem dX6_firstPlaceOfLongestTwice_4 : decode cX6_firstPlaceOfLongestTwice 4 = .ok (.istore_n 1, 1) := by decide +kernel
theorem dX6_firstPlaceOfLongestTwice_5 : decode cX6_firstPlaceOfLongestTwice 5 = .ok (.iconst 1, 1) := by decide +kernel
theorem dX6_firstPlaceOfLongestTwice_6 : decode cX6_firstPlaceOfLongestTwice 6 = .ok (.istore_n 2, 1) := by decide +kernel
theorem dX6_firstPlaceOfLongestTwice_7 : decode cX6_firstPlaceOfLongestTwice 7 = .ok (.iload_n 2, 1) := by decide +kernel
theorem dX6_firstPlaceOfLongestTwice_8 : decode cX6_firstPlaceOfLongestTwice 8 = .ok (.aload_n 0, 1) := by decide +kernel
theorem dX6_firstPlaceOfLongestTwice_9 : decode cX6_firstPlaceOfLongestTwice 9 = .ok (.getfield 25, 3) := by decide +kernel
theorem dX6_firstPlaceOfLongestTwice_12 : decode cX6_firstPlaceOfLongestTwice 12 = .ok (.if_icmp .ge 19, 3) := by decide +kernel
theorem dX6_firstPlaceOfLongestTwice_15 : decode cX6_firstPlaceOfLongestTwice 15 = .ok (.aload_n 0, 1) := by decide +kernel
theorem dX6_firstPlaceOfLongestTwice_16 : decode cX6_firstPlaceOfLongestTwice 16 = .ok (.getfield 22, 3) := by decide +kernel
theorem dX6_firstPlaceOfLongestTwice_19 : decode cX6_firstPlaceOfLongestTwice 19 = .ok (.iload_n 2, 1) := by decide +kernel
theorem dX6_firstPlaceOfLongestTwice_20 : decode cX6_firstPlaceOfLongestTwice 20 = .ok (.iaload, 1) := by decide +kernel
theorem dX6_firstPlaceOfLongestTwice_21 : decode cX6_firstPlaceOfLongestTwice 21 = .ok (.iload_n 1, 1) := by decide +kernel
theorem dX6_firstPlaceOfLongestTwice_22 : decode cX6_firstPlaceOfLongestTwice 22 = .ok (.if_icmp .ge 9, 3) := by decide +kernel
theorem dX6_firstPlaceOfLongestTwice_25 : decode cX6_firstPlaceOfLongestTwice 25 = .ok (.iinc 2 1, 3) := by decide +kernel
theorem dX6_firstPlaceOfLongestTwice_28 : decode cX6_firstPlaceOfLongestTwice 28 = .ok (.goto (-21), 3) := by decide +kernel
theorem dX6_firstPlaceOfLongestTwice_31 : decode cX6_firstPlaceOfLongestTwice 31 = .ok (.aload_n 0, 1) := by decide +kernel
theorem dX6_firstPlaceOfLongestTwice_32 : decode cX6_firstPlaceOfLongestTwice 32 = .ok (.getfield 15, 3) := by decide +kernel
theorem dX6_firstPlaceOfLongestTwice_35 : decode cX6_firstPlaceOfLongestTwice 35 = .ok (.iload_n 2, 1) := by decide +kernel
theorem dX6_firstPlaceOfLongestTwice_36 : decode cX6_firstPlaceOfLongestTwice 36 = .ok (.iconst 1, 1) := by decide +kernel
theorem dX6_firstPlaceOfLongestTwice_37 : decode cX6_firstPlaceOfLongestTwice 37 = .ok (.isub, 1) := by decide +kernel
theorem dX6_firstPlaceOfLongestTwice_38 : decode cX6_firstPlaceOfLongestTwice 38 = .ok (.iaload, 1) := by decide +kernel
theorem dX6_firstPlaceOfLongestTwice_39 : decode cX6_firstPlaceOfLongestTwice 39 = .ok (.istore_n 3, 1) := by decide +kernel
theorem dX6_firstPlaceOfLongestTwice_40 : decode cX6_firstPlaceOfLongestTwice 40 = .ok (.iload_n 2, 1) := by decide +kernel
theorem dX6_firstPlaceOfLongestTwice_41 : decode cX6_firstPlaceOfLongestTwice 41 = .ok (.aload_n 0, 1) := by decide +kernel
theorem dX6_firstPlaceOfLongestTwice_42 : decode cX6_firstPlaceOfLongestTwice 42 = .ok (.getfield 25, 3) := by decide +kernel
theorem dX6_firstPlaceOfLongestTwice_45 : decode cX6_firstPlaceOfLongestTwice 45 = .ok (.if_icmp .ge 30, 3) := by decide +kernel
theorem dX6_firstPlaceOfLongestTwice_48 : decode cX6_firstPlaceOfLongestTwice 48 = .ok (.aload_n 0, 1) := by decide +kernel
theorem dX6_firstPlaceOfLongestTwice_49 : decode cX6_firstPlaceOfLongestTwice 49 = .ok (.getfield 22, 3) := by decide +kernel
theorem dX6_firstPlaceOfLongestTwice_52 : decode cX6_firstPlaceOfLongestTwice 52 = .ok (.iload_n 2, 1) := by decide +kernel
theorem dX6_firstPlaceOfLongestTwice_53 : decode cX6_firstPlaceOfLongestTwice 53 = .ok (.iaload, 1) := by decide +kernel
theorem dX6_firstPlaceOfLongestTwice_54 : decode cX6_firstPlaceOfLongestTwice 54 = .ok (.iload_n 1, 1) := by decide +kernel
theorem dX6_firstPlaceOfLongestTwice_55 : decode cX6_firstPlaceOfLongestTwice 55 = .ok (.if_icmp .ne 20, 3) := by decide +kernel
theorem dX6_firstPlaceOfLongestTwice_58 : decode cX6_firstPlaceOfLongestTwice 58 = .ok (.iload_n 3, 1) := by decide +kernel
theorem dX6_firstPlaceOfLongestTwice_59 : decode cX6_firstPlaceOfLongestTwice 59 = .ok (.aload_n 0, 1) := by decide +kernel
theorem dX6_firstPlaceOfLongestTwice_60 : decode cX6_firstPlaceOfLongestTwice 60 = .ok (.getfield 15, 3) := by decide +kernel
theorem dX6_firstPlaceOfLongestTwice_63 : decode cX6_firstPlaceOfLongestTwice 63 = .ok (.iload_n 2, 1) := by decide +kernel
theorem dX6_firstPlaceOfLongestTwice_64 : decode cX6_firstPlaceOfLongestTwice 64 = .ok (.iaload, 1) := by decide +kernel
theorem dX6_firstPlaceOfLongestTwice_65 : decode cX6_firstPlaceOfLongestTwice 65 = .ok (.invokestatic 29, 3) := by decide +kernel
theorem dX6_firstPlaceOfLongestTwice_68 : decode cX6_firstPlaceOfLongestTwice 68 = .ok (.istore_n 3, 1) := by decide +kernel
theorem dX6_firstPlaceOfLongestTwice_69 : decode cX6_firstPlaceOfLongestTwice 69 = .ok (.iinc 2 1, 3) := by decide +kernel
theorem dX6_firstPlaceOfLongestTwice_72 : decode cX6_firstPlaceOfLongestTwice 72 = .ok (.goto (-32), 3) := by decide +kernel
theorem dX6_firstPlaceOfLongestTwice_75 : decode cX6_firstPlaceOfLongestTwice 75 = .ok (.iload_n 3, 1) := by decide +kernel
theorem dX6_firstPlaceOfLongestTwice_76 : decode cX6_firstPlaceOfLongestTwice 76 = .ok (.ireturn, 1) := by decide +kernel
theorem dX6_signsToBeAlone_0 : decode cX6_signsToBeAlone 0 = .ok (.iload_n 1, 1) := by decide +kernel
theorem dX6_signsToBeAlone_1 : decode cX6_signsToBeAlone 1 = .ok (.iconst 1, 1) := by decide +kernel
theorem dX6_signsToBeAlone_2 : decode cX6_signsToBeAlone 2 = .ok (.iadd, 1) := by decide +kernel
theorem dX6_signsToBeAlone_3 : decode cX6_signsToBeAlone 3 = .ok (.aload_n 0, 1) := by decide +kernel
theorem dX6_signsToBeAlone_4 : decode cX6_signsToBeAlone 4 = .ok (.getfield 25, 3) := by decide +kernel
theorem dX6_signsToBeAlone_7 : decode cX6_signsToBeAlone 7 = .ok (.if_icmp .ge 14, 3) := by decide +kernel
theorem dX6_signsToBeAlone_10 : decode cX6_signsToBeAlone 10 = .ok (.aload_n 0, 1) := by decide +kernel
theorem dX6_signsToBeAlone_11 : decode cX6_signsToBeAlone 11 = .ok (.getfield 22, 3) := by decide +kernel
theorem dX6_signsToBeAlone_14 : decode cX6_signsToBeAlone 14 = .ok (.iload_n 1, 1) := by decide +kernel
theorem dX6_signsToBeAlone_15 : decode cX6_signsToBeAlone 15 = .ok (.iconst 1, 1) := by decide +kernel
theorem dX6_signsToBeAlone_16 : decode cX6_signsToBeAlone 16 = .ok (.iadd, 1) := by decide +kernel
theorem dX6_signsToBeAlone_17 : decode cX6_signsToBeAlone 17 = .ok (.iaload, 1) := by decide +kernel
theorem dX6_signsToBeAlone_18 : decode cX6_signsToBeAlone 18 = .ok (.goto 4, 3) := by decide +kernel
theorem dX6_signsToBeAlone_21 : decode cX6_signsToBeAlone 21 = .ok (.iconst 0, 1) := by decide +kernel
theorem dX6_signsToBeAlone_22 : decode cX6_signsToBeAlone 22 = .ok (.istore_n 2, 1) := by decide +kernel
theorem dX6_signsToBeAlone_23 : decode cX6_signsToBeAlone 23 = .ok (.aload_n 0, 1) := by decide +kernel
theorem dX6_signsToBeAlone_24 : decode cX6_signsToBeAlone 24 = .ok (.getfield 22, 3) := by decide +kernel
theorem dX6_signsToBeAlone_27 : decode cX6_signsToBeAlone 27 = .ok (.iload_n 1, 1) := by decide +kernel
theorem dX6_signsToBeAlone_28 : decode cX6_signsToBeAlone 28 = .ok (.iaload, 1) := by decide +kernel
theorem dX6_signsToBeAlone_29 : decode cX6_signsToBeAlone 29 = .ok (.iload_n 2, 1) := by decide +kernel
theorem dX6_signsToBeAlone_30 : decode cX6_signsToBeAlone 30 = .ok (.invokestatic 39, 3) := by decide +kernel
theorem dX6_signsToBeAlone_33 : decode cX6_signsToBeAlone 33 = .ok (.iconst 1, 1) := by decide +kernel
theorem dX6_signsToBeAlone_34 : decode cX6_signsToBeAlone 34 = .ok (.iadd, 1) := by decide +kernel
theorem dX6_signsToBeAlone_35 : decode cX6_signsToBeAlone 35 = .ok (.ireturn, 1) := by decide +kernel
theorem dX6_shortestAlone_0 : decode cX6_shortestAlone 0 = .ok (.aload_n 0, 1) := by decide +kernel
theorem dX6_shortestAlone_1 : decode cX6_shortestAlone 1 = .ok (.getfield 25, 3) := by decide +kernel
theorem dX6_shortestAlone_4 : decode cX6_shortestAlone 4 = .ok (.istore_n 1, 1) := by decide +kernel
theorem dX6_shortestAlone_5 : decode cX6_shortestAlone 5 = .ok (.iconst 0, 1) := by decide +kernel
theorem dX6_shortestAlone_6 : decode cX6_shortestAlone 6 = .ok (.istore_n 2, 1) := by decide +kernel
theorem dX6_shortestAlone_7 : decode cX6_shortestAlone 7 = .ok (.iload_n 2, 1) := by decide +kernel
theorem dX6_shortestAlone_8 : decode cX6_shortestAlone 8 = .ok (.aload_n 0, 1) := by decide +kernel
theorem dX6_shortestAlone_9 : decode cX6_shortestAlone 9 = .ok (.getfield 25, 3) := by decide +kernel
theorem dX6_shortestAlone_12 : decode cX6_shortestAlone 12 = .ok (.if_icmp .ge 36, 3) := by decide +kernel
theorem dX6_shortestAlone_15 : decode cX6_shortestAlone 15 = .ok (.aload_n 0, 1) := by decide +kernel
theorem dX6_shortestAlone_16 : decode cX6_shortestAlone 16 = .ok (.iload_n 2, 1) := by decide +kernel
theorem dX6_shortestAlone_17 : decode cX6_shortestAlone 17 = .ok (.invokevirtual 58, 3) := by decide +kernel
theorem dX6_shortestAlone_20 : decode cX6_shortestAlone 20 = .ok (.istore_n 3, 1) := by decide +kernel
theorem dX6_shortestAlone_21 : decode cX6_shortestAlone 21 = .ok (.aload_n 0, 1) := by decide +kernel
theorem dX6_shortestAlone_22 : decode cX6_shortestAlone 22 = .ok (.getfield 15, 3) := by decide +kernel
theorem dX6_shortestAlone_25 : decode cX6_shortestAlone 25 = .ok (.iload_n 2, 1) := by decide +kernel
theorem dX6_shortestAlone_26 : decode cX6_shortestAlone 26 = .ok (.iaload, 1) := by decide +kernel
theorem dX6_shortestAlone_27 : decode cX6_shortestAlone 27 = .ok (.iload_n 3, 1) := by decide +kernel
theorem dX6_shortestAlone_28 : decode cX6_shortestAlone 28 = .ok (.iadd, 1) := by decide +kernel
theorem dX6_shortestAlone_29 : decode cX6_shortestAlone 29 = .ok (.aload_n 0, 1) := by decide +kernel
theorem dX6_shortestAlone_30 : decode cX6_shortestAlone 30 = .ok (.getfield 25, 3) := by decide +kernel
theorem dX6_shortestAlone_33 : decode cX6_shortestAlone 33 = .ok (.if_icmp .gt 9, 3) := by decide +kernel
theorem dX6_shortestAlone_36 : decode cX6_shortestAlone 36 = .ok (.iload_n 1, 1) := by decide +kernel
theorem dX6_shortestAlone_37 : decode cX6_shortestAlone 37 = .ok (.iload_n 3, 1) := by decide +kernel
theorem dX6_shortestAlone_38 : decode cX6_shortestAlone 38 = .ok (.invokestatic 29, 3) := by decide +kernel
theorem dX6_shortestAlone_41 : decode cX6_shortestAlone 41 = .ok (.istore_n 1, 1) := by decide +kernel
theorem dX6_shortestAlone_42 : decode cX6_shortestAlone 42 = .ok (.iinc 2 1, 3) := by decide +kernel
theorem dX6_shortestAlone_45 : decode cX6_shortestAlone 45 = .ok (.goto (-38), 3) := by decide +kernel
theorem dX6_shortestAlone_48 : decode cX6_shortestAlone 48 = .ok (.iload_n 1, 1) := by decide +kernel
theorem dX6_shortestAlone_49 : decode cX6_shortestAlone 49 = .ok (.ireturn, 1) := by decide +kernel
theorem dX6_firstPlaceOfShortestAlone_0 : decode cX6_firstPlaceOfShortestAlone 0 = .ok (.aload_n 0, 1) := by decide +kernel
theorem dX6_firstPlaceOfShortestAlone_1 : decode cX6_firstPlaceOfShortestAlone 1 = .ok (.invokevirtual 62, 3) := by decide +kernel
theorem dX6_firstPlaceOfShortestAlone_4 : decode cX6_firstPlaceOfShortestAlone 4 = .ok (.istore_n 1, 1) := by decide +kernel
theorem dX6_firstPlaceOfShortestAlone_5 : decode cX6_firstPlaceOfShortestAlone 5 = .ok (.iconst 0, 1) := by decide +kernel
theorem dX6_firstPlaceOfShortestAlone_6 : decode cX6_firstPlaceOfShortestAlone 6 = .ok (.istore_n 2, 1) := by decide +kernel
theorem dX6_firstPlaceOfShortestAlone_7 : decode cX6_firstPlaceOfShortestAlone 7 = .ok (.iload_n 2, 1) := by decide +kernel
theorem dX6_firstPlaceOfShortestAlone_8 : decode cX6_firstPlaceOfShortestAlone 8 = .ok (.iload_n 1, 1) := by decide +kernel
theorem dX6_firstPlaceOfShortestAlone_9 : decode cX6_firstPlaceOfShortestAlone 9 = .ok (.iadd, 1) := by decide +kernel
theorem dX6_firstPlaceOfShortestAlone_10 : decode cX6_firstPlaceOfShortestAlone 10 = .ok (.aload_n 0, 1) := by decide +kernel
theorem dX6_firstPlaceOfShortestAlone_11 : decode cX6_firstPlaceOfShortestAlone 11 = .ok (.getfield 25, 3) := by decide +kernel
theorem dX6_firstPlaceOfShortestAlone_14 : decode cX6_firstPlaceOfShortestAlone 14 = .ok (.if_icmp .gt 25, 3) := by decide +kernel
theorem dX6_firstPlaceOfShortestAlone_17 : decode cX6_firstPlaceOfShortestAlone 17 = .ok (.aload_n 0, 1) := by decide +kernel
theorem dX6_firstPlaceOfShortestAlone_18 : decode cX6_firstPlaceOfShortestAlone 18 = .ok (.aload_n 0, 1) := by decide +kernel
theorem dX6_firstPlaceOfShortestAlone_19 : decode cX6_firstPlaceOfShortestAlone 19 = .ok (.getfield 19, 3) := by decide +kernel
theorem dX6_firstPlaceOfShortestAlone_22 : decode cX6_firstPlaceOfShortestAlone 22 = .ok (.iload_n 2, 1) := by decide +kernel
theorem dX6_firstPlaceOfShortestAlone_23 : decode cX6_firstPlaceOfShortestAlone 23 = .ok (.iaload, 1) := by decide +kernel
theorem dX6_firstPlaceOfShortestAlone_24 : decode cX6_firstPlaceOfShortestAlone 24 = .ok (.invokevirtual 58, 3) := by decide +kernel
theorem dX6_firstPlaceOfShortestAlone_27 : decode cX6_firstPlaceOfShortestAlone 27 = .ok (.iload_n 1, 1) := by decide +kernel
theorem dX6_firstPlaceOfShortestAlone_28 : decode cX6_firstPlaceOfShortestAlone 28 = .ok (.if_icmp .ne 5, 3) := by decide +kernel
theorem dX6_firstPlaceOfShortestAlone_31 : decode cX6_firstPlaceOfShortestAlone 31 = .ok (.iload_n 2, 1) := by decide +kernel
theorem dX6_firstPlaceOfShortestAlone_32 : decode cX6_firstPlaceOfShortestAlone 32 = .ok (.ireturn, 1) := by decide +kernel
theorem dX6_firstPlaceOfShortestAlone_33 : decode cX6_firstPlaceOfShortestAlone 33 = .ok (.iinc 2 1, 3) := by decide +kernel
theorem dX6_firstPlaceOfShortestAlone_36 : decode cX6_firstPlaceOfShortestAlone 36 = .ok (.goto (-29), 3) := by decide +kernel
theorem dX6_firstPlaceOfShortestAlone_39 : decode cX6_firstPlaceOfShortestAlone 39 = .ok (.iconst 0, 1) := by decide +kernel
theorem dX6_firstPlaceOfShortestAlone_40 : decode cX6_firstPlaceOfShortestAlone 40 = .ok (.ireturn, 1) := by decide +kernel
theorem dX6_placeOfRow_0 : decode cX6_placeOfRow 0 = .ok (.iload_n 1, 1) := by decide +kernel
theorem dX6_placeOfRow_1 : decode cX6_placeOfRow 1 = .ok (.ifCond .ne 10, 3) := by decide +kernel
theorem dX6_placeOfRow_4 : decode cX6_placeOfRow 4 = .ok (.aload_n 0, 1) := by decide +kernel
theorem dX6_placeOfRow_5 : decode cX6_placeOfRow 5 = .ok (.getfield 25, 3) := by decide +kernel
theorem dX6_placeOfRow_8 : decode cX6_placeOfRow 8 = .ok (.goto 11, 3) := by decide +kernel
theorem dX6_placeOfRow_11 : decode cX6_placeOfRow 11 = .ok (.aload_n 0, 1) := by decide +kernel
theorem dX6_placeOfRow_12 : decode cX6_placeOfRow 12 = .ok (.getfield 15, 3) := by decide +kernel
theorem dX6_placeOfRow_15 : decode cX6_placeOfRow 15 = .ok (.iload_n 1, 1) := by decide +kernel
theorem dX6_placeOfRow_16 : decode cX6_placeOfRow 16 = .ok (.iconst 1, 1) := by decide +kernel
theorem dX6_placeOfRow_17 : decode cX6_placeOfRow 17 = .ok (.isub, 1) := by decide +kernel
theorem dX6_placeOfRow_18 : decode cX6_placeOfRow 18 = .ok (.iaload, 1) := by decide +kernel
theorem dX6_placeOfRow_19 : decode cX6_placeOfRow 19 = .ok (.ireturn, 1) := by decide +kernel
theorem dX6_firstSign_0 : decode cX6_firstSign 0 = .ok (.iload_n 1, 1) := by decide +kernel
theorem dX6_firstSign_1 : decode cX6_firstSign 1 = .ok (.ifCond .ne 8, 3) := by decide +kernel
theorem dX6_firstSign_4 : decode cX6_firstSign 4 = .ok (.bipush 36, 2) := by decide +kernel
theorem dX6_firstSign_6 : decode cX6_firstSign 6 = .ok (.goto 16, 3) := by decide +kernel
theorem dX6_firstSign_9 : decode cX6_firstSign 9 = .ok (.aload_n 0, 1) := by decide +kernel
theorem dX6_firstSign_10 : decode cX6_firstSign 10 = .ok (.getfield 9, 3) := by decide +kernel
theorem dX6_firstSign_13 : decode cX6_firstSign 13 = .ok (.aload_n 0, 1) := by decide +kernel
theorem dX6_firstSign_14 : decode cX6_firstSign 14 = .ok (.getfield 15, 3) := by decide +kernel
theorem dX6_firstSign_17 : decode cX6_firstSign 17 = .ok (.iload_n 1, 1) := by decide +kernel
theorem dX6_firstSign_18 : decode cX6_firstSign 18 = .ok (.iconst 1, 1) := by decide +kernel
theorem dX6_firstSign_19 : decode cX6_firstSign 19 = .ok (.isub, 1) := by decide +kernel
theorem dX6_firstSign_20 : decode cX6_firstSign 20 = .ok (.iaload, 1) := by decide +kernel
theorem dX6_firstSign_21 : decode cX6_firstSign 21 = .ok (.caload, 1) := by decide +kernel
theorem dX6_firstSign_22 : decode cX6_firstSign 22 = .ok (.ireturn, 1) := by decide +kernel
theorem dX6_lastSign_0 : decode cX6_lastSign 0 = .ok (.aload_n 0, 1) := by decide +kernel
theorem dX6_lastSign_1 : decode cX6_lastSign 1 = .ok (.iload_n 1, 1) := by decide +kernel
theorem dX6_lastSign_2 : decode cX6_lastSign 2 = .ok (.invokevirtual 65, 3) := by decide +kernel
theorem dX6_lastSign_5 : decode cX6_lastSign 5 = .ok (.istore_n 2, 1) := by decide +kernel
theorem dX6_lastSign_6 : decode cX6_lastSign 6 = .ok (.iload_n 2, 1) := by decide +kernel
theorem dX6_lastSign_7 : decode cX6_lastSign 7 = .ok (.ifCond .ne 8, 3) := by decide +kernel
theorem dX6_lastSign_10 : decode cX6_lastSign 10 = .ok (.bipush 36, 2) := by decide +kernel
theorem dX6_lastSign_12 : decode cX6_lastSign 12 = .ok (.goto 11, 3) := by decide +kernel
theorem dX6_lastSign_15 : decode cX6_lastSign 15 = .ok (.aload_n 0, 1) := by decide +kernel
theorem dX6_lastSign_16 : decode cX6_lastSign 16 = .ok (.getfield 9, 3) := by decide +kernel
theorem dX6_lastSign_19 : decode cX6_lastSign 19 = .ok (.iload_n 2, 1) := by decide +kernel
theorem dX6_lastSign_20 : decode cX6_lastSign 20 = .ok (.iconst 1, 1) := by decide +kernel
theorem dX6_lastSign_21 : decode cX6_lastSign 21 = .ok (.isub, 1) := by decide +kernel
theorem dX6_lastSign_22 : decode cX6_lastSign 22 = .ok (.caload, 1) := by decide +kernel
theorem dX6_lastSign_23 : decode cX6_lastSign 23 = .ok (.ireturn, 1) := by decide +kernel
theorem dX6_rowAhead_0 : decode cX6_rowAhead 0 = .ok (.aload_n 0, 1) := by decide +kernel
theorem dX6_rowAhead_1 : decode cX6_rowAhead 1 = .ok (.iload_n 1, 1) := by decide +kernel
theorem dX6_rowAhead_2 : decode cX6_rowAhead 2 = .ok (.invokevirtual 65, 3) := by decide +kernel
theorem dX6_rowAhead_5 : decode cX6_rowAhead 5 = .ok (.istore_n 2, 1) := by decide +kernel
theorem dX6_rowAhead_6 : decode cX6_rowAhead 6 = .ok (.iload_n 2, 1) := by decide +kernel
theorem dX6_rowAhead_7 : decode cX6_rowAhead 7 = .ok (.ifCond .ne 7, 3) := by decide +kernel
theorem dX6_rowAhead_10 : decode cX6_rowAhead 10 = .ok (.iconst 0, 1) := by decide +kernel
theorem dX6_rowAhead_11 : decode cX6_rowAhead 11 = .ok (.goto 13, 3) := by decide +kernel
theorem dX6_rowAhead_14 : decode cX6_rowAhead 14 = .ok (.aload_n 0, 1) := by decide +kernel
theorem dX6_rowAhead_15 : decode cX6_rowAhead 15 = .ok (.getfield 19, 3) := by decide +kernel
theorem dX6_rowAhead_18 : decode cX6_rowAhead 18 = .ok (.iload_n 2, 1) := by decide +kernel
theorem dX6_rowAhead_19 : decode cX6_rowAhead 19 = .ok (.iconst 1, 1) := by decide +kernel
theorem dX6_rowAhead_20 : decode cX6_rowAhead 20 = .ok (.isub, 1) := by decide +kernel
theorem dX6_rowAhead_21 : decode cX6_rowAhead 21 = .ok (.iaload, 1) := by decide +kernel
theorem dX6_rowAhead_22 : decode cX6_rowAhead 22 = .ok (.iconst 1, 1) := by decide +kernel
theorem dX6_rowAhead_23 : decode cX6_rowAhead 23 = .ok (.iadd, 1) := by decide +kernel
theorem dX6_rowAhead_24 : decode cX6_rowAhead 24 = .ok (.ireturn, 1) := by decide +kernel
theorem dX6_firstAhead_0 : decode cX6_firstAhead 0 = .ok (.iconst 0, 1) := by decide +kernel
theorem dX6_firstAhead_1 : decode cX6_firstAhead 1 = .ok (.istore_n 3, 1) := by decide +kernel
theorem dX6_firstAhead_2 : decode cX6_firstAhead 2 = .ok (.iload_n 3, 1) := by decide +kernel
theorem dX6_firstAhead_3 : decode cX6_firstAhead 3 = .ok (.iload_n 1, 1) := by decide +kernel
theorem dX6_firstAhead_4 : decode cX6_firstAhead 4 = .ok (.if_icmp .ge 22, 3) := by decide +kernel
theorem dX6_firstAhead_7 : decode cX6_firstAhead 7 = .ok (.aload_n 0, 1) := by decide +kernel
theorem dX6_firstAhead_8 : decode cX6_firstAhead 8 = .ok (.iload_n 3, 1) := by decide +kernel
theorem dX6_firstAhead_9 : decode cX6_firstAhead 9 = .ok (.aload_n 0, 1) := by decide +kernel
theorem dX6_firstAhead_10 : decode cX6_firstAhead 10 = .ok (.iload_n 1, 1) := by decide +kernel
theorem dX6_firstAhead_11 : decode cX6_firstAhead 11 = .ok (.invokevirtual 35, 3) := by decide +kernel
theorem dX6_firstAhead_14 : decode cX6_firstAhead 14 = .ok (.iload_n 2, 1) := by decide +kernel
theorem dX6_firstAhead_15 : decode cX6_firstAhead 15 = .ok (.if_icmp .lt 5, 3) := by decide +kernel
theorem dX6_firstAhead_18 : decode cX6_firstAhead 18 = .ok (.iload_n 3, 1) := by decide +kernel
theorem dX6_firstAhead_19 : decode cX6_firstAhead 19 = .ok (.ireturn, 1) := by decide +kernel
theorem dX6_firstAhead_20 : decode cX6_firstAhead 20 = .ok (.iinc 3 1, 3) := by decide +kernel
theorem dX6_firstAhead_23 : decode cX6_firstAhead 23 = .ok (.goto (-21), 3) := by decide +kernel
theorem dX6_firstAhead_26 : decode cX6_firstAhead 26 = .ok (.iload_n 1, 1) := by decide +kernel
theorem dX6_firstAhead_27 : decode cX6_firstAhead 27 = .ok (.ireturn, 1) := by decide +kernel
theorem dX7_init_0 : decode cX7_init 0 = .ok (.aload_n 0, 1) := by decide +kernel
theorem dX7_init_1 : decode cX7_init 1 = .ok (.invokespecial 3, 3) := by decide +kernel
theorem dX7_init_4 : decode cX7_init 4 = .ok (.aload_n 0, 1) := by decide +kernel
theorem dX7_init_5 : decode cX7_init 5 = .ok (.bipush 64, 2) := by decide +kernel
theorem dX7_init_7 : decode cX7_init 7 = .ok (.newarray .char, 2) := by decide +kernel
theorem dX7_init_9 : decode cX7_init 9 = .ok (.putfield 9, 3) := by decide +kernel
theorem dX7_init_12 : decode cX7_init 12 = .ok (.aload_n 0, 1) := by decide +kernel
theorem dX7_init_13 : decode cX7_init 13 = .ok (.bipush 65, 2) := by decide +kernel
theorem dX7_init_15 : decode cX7_init 15 = .ok (.newarray .char, 2) := by decide +kernel
theorem dX7_init_17 : decode cX7_init 17 = .ok (.putfield 15, 3) := by decide +kernel
theorem dX7_init_20 : decode cX7_init 20 = .ok (.aload_n 0, 1) := by decide +kernel
theorem dX7_init_21 : decode cX7_init 21 = .ok (.bipush 65, 2) := by decide +kernel
theorem dX7_init_23 : decode cX7_init 23 = .ok (.newarray .int, 2) := by decide +kernel
theorem dX7_init_25 : decode cX7_init 25 = .ok (.putfield 18, 3) := by decide +kernel
theorem dX7_init_28 : decode cX7_init 28 = .ok (.aload_n 0, 1) := by decide +kernel
theorem dX7_init_29 : decode cX7_init 29 = .ok (.bipush 28, 2) := by decide +kernel
theorem dX7_init_31 : decode cX7_init 31 = .ok (.newarray .int, 2) := by decide +kernel
theorem dX7_init_33 : decode cX7_init 33 = .ok (.putfield 22, 3) := by decide +kernel
theorem dX7_init_36 : decode cX7_init 36 = .ok (.aload_n 0, 1) := by decide +kernel
theorem dX7_init_37 : decode cX7_init 37 = .ok (.bipush 27, 2) := by decide +kernel
theorem dX7_init_39 : decode cX7_init 39 = .ok (.newarray .char, 2) := by decide +kernel
theorem dX7_init_41 : decode cX7_init 41 = .ok (.putfield 25, 3) := by decide +kernel
theorem dX7_init_44 : decode cX7_init 44 = .ok (.return_, 1) := by decide +kernel
theorem dX7_indexOfSign_0 : decode cX7_indexOfSign 0 = .ok (.iload_n 0, 1) := by decide +kernel
theorem dX7_indexOfSign_1 : decode cX7_indexOfSign 1 = .ok (.invokestatic 28, 3) := by decide +kernel
theorem dX7_indexOfSign_4 : decode cX7_indexOfSign 4 = .ok (.ifCond .eq 12, 3) := by decide +kernel
theorem dX7_indexOfSign_7 : decode cX7_indexOfSign 7 = .ok (.iload_n 0, 1) := by decide +kernel
theorem dX7_indexOfSign_8 : decode cX7_indexOfSign 8 = .ok (.bipush 97, 2) := by decide +kernel
theorem dX7_indexOfSign_10 : decode cX7_indexOfSign 10 = .ok (.isub, 1) := by decide +kernel
theorem dX7_indexOfSign_11 : decode cX7_indexOfSign 11 = .ok (.iconst 1, 1) := by decide +kernel
theorem dX7_indexOfSign_12 : decode cX7_indexOfSign 12 = .ok (.iadd, 1) := by decide +kernel
theorem dX7_indexOfSign_13 : decode cX7_indexOfSign 13 = .ok (.goto 4, 3) := by decide +kernel
theorem dX7_indexOfSign_16 : decode cX7_indexOfSign 16 = .ok (.iconst 0, 1) := by decide +kernel
theorem dX7_indexOfSign_17 : decode cX7_indexOfSign 17 = .ok (.ireturn, 1) := by decide +kernel
theorem dX7_moveOfRow_0 : decode cX7_moveOfRow 0 = .ok (.aload_n 0, 1) := by decide +kernel
theorem dX7_moveOfRow_1 : decode cX7_moveOfRow 1 = .ok (.getfield 25, 3) := by decide +kernel
theorem dX7_moveOfRow_4 : decode cX7_moveOfRow 4 = .ok (.iconst 0, 1) := by decide +kernel
theorem dX7_moveOfRow_5 : decode cX7_moveOfRow 5 = .ok (.bipush 36, 2) := by decide +kernel
theorem dX7_moveOfRow_7 : decode cX7_moveOfRow 7 = .ok (.castore, 1) := by decide +kernel
theorem dX7_moveOfRow_8 : decode cX7_moveOfRow 8 = .ok (.iconst 1, 1) := by decide +kernel
theorem dX7_moveOfRow_9 : decode cX7_moveOfRow 9 = .ok (.istore_n 3, 1) := by decide +kernel
theorem dX7_moveOfRow_10 : decode cX7_moveOfRow 10 = .ok (.iload_n 3, 1) := by decide +kernel
theorem dX7_moveOfRow_11 : decode cX7_moveOfRow 11 = .ok (.aload_n 0, 1) := by decide +kernel
theorem dX7_moveOfRow_12 : decode cX7_moveOfRow 12 = .ok (.getfield 25, 3) := by decide +kernel
theorem dX7_moveOfRow_15 : decode cX7_moveOfRow 15 = .ok (.arraylength, 1) := by decide +kernel
theorem dX7_moveOfRow_16 : decode cX7_moveOfRow 16 = .ok (.if_icmp .ge 22, 3) := by decide +kernel
theorem dX7_moveOfRow_19 : decode cX7_moveOfRow 19 = .ok (.aload_n 0, 1) := by decide +kernel
theorem dX7_moveOfRow_20 : decode cX7_moveOfRow 20 = .ok (.getfield 25, 3) := by decide +kernel
theorem dX7_moveOfRow_23 : decode cX7_moveOfRow 23 = .ok (.iload_n 3, 1) := by decide +kernel
theorem dX7_moveOfRow_24 : decode cX7_moveOfRow 24 = .ok (.bipush 97, 2) := by decide +kernel
theorem dX7_moveOfRow_26 : decode cX7_moveOfRow 26 = .ok (.iload_n 3, 1) := by decide +kernel
theorem dX7_moveOfRow_27 : decode cX7_moveOfRow 27 = .ok (.iadd, 1) := by decide +kernel
theorem dX7_moveOfRow_28 : decode cX7_moveOfRow 28 = .ok (.iconst 1, 1) := by decide +kernel
theorem dX7_moveOfRow_29 : decode cX7_moveOfRow 29 = .ok (.isub, 1) := by decide +kernel
theorem dX7_moveOfRow_30 : decode cX7_moveOfRow 30 = .ok (.i2c, 1) := by decide +kernel
theorem dX7_moveOfRow_31 : decode cX7_moveOfRow 31 = .ok (.castore, 1) := by decide +kernel
theorem dX7_moveOfRow_32 : decode cX7_moveOfRow 32 = .ok (.iinc 3 1, 3) := by decide +kernel
theorem dX7_moveOfRow_35 : decode cX7_moveOfRow 35 = .ok (.goto (-25), 3) := by decide +kernel
theorem dX7_moveOfRow_38 : decode cX7_moveOfRow 38 = .ok (.iconst 0, 1) := by decide +kernel
theorem dX7_moveOfRow_39 : decode cX7_moveOfRow 39 = .ok (.istore_n 3, 1) := by decide +kernel
theorem dX7_moveOfRow_40 : decode cX7_moveOfRow 40 = .ok (.iconst 0, 1) := by decide +kernel
theorem dX7_moveOfRow_41 : decode cX7_moveOfRow 41 = .ok (.istore 4, 2) := by decide +kernel
theorem dX7_moveOfRow_43 : decode cX7_moveOfRow 43 = .ok (.iload 4, 2) := by decide +kernel
theorem dX7_moveOfRow_45 : decode cX7_moveOfRow 45 = .ok (.iload_n 2, 1) := by decide +kernel
theorem dX7_moveOfRow_46 : decode cX7_moveOfRow 46 = .ok (.if_icmp .gt 20, 3) := by decide +kernel
theorem dX7_moveOfRow_49 : decode cX7_moveOfRow 49 = .ok (.aload_n 0, 1) := by decide +kernel
theorem dX7_moveOfRow_50 : decode cX7_moveOfRow 50 = .ok (.aload_n 1, 1) := by decide +kernel
theorem dX7_moveOfRow_51 : decode cX7_moveOfRow 51 = .ok (.iload 4, 2) := by decide +kernel
theorem dX7_moveOfRow_53 : decode cX7_moveOfRow 53 = .ok (.invokevirtual 32, 3) := by decide +kernel
theorem dX7_moveOfRow_56 : decode cX7_moveOfRow 56 = .ok (.invokevirtual 38, 3) := by decide +kernel
theorem dX7_moveOfRow_59 : decode cX7_moveOfRow 59 = .ok (.istore_n 3, 1) := by decide +kernel
theorem dX7_moveOfRow_60 : decode cX7_moveOfRow 60 = .ok (.iinc 4 1, 3) := by decide +kernel
theorem dX7_moveOfRow_63 : decode cX7_moveOfRow 63 = .ok (.goto (-20), 3) := by decide +kernel
theorem dX7_moveOfRow_66 : decode cX7_moveOfRow 66 = .ok (.iload_n 3, 1) := by decide +kernel
theorem dX7_moveOfRow_67 : decode cX7_moveOfRow 67 = .ok (.ireturn, 1) := by decide +kernel
theorem dX7_moveToFront_0 : decode cX7_moveToFront 0 = .ok (.iconst 0, 1) := by decide +kernel
theorem dX7_moveToFront_1 : decode cX7_moveToFront 1 = .ok (.istore_n 2, 1) := by decide +kernel
theorem dX7_moveToFront_2 : decode cX7_moveToFront 2 = .ok (.iload_n 2, 1) := by decide +kernel
theorem dX7_moveToFront_3 : decode cX7_moveToFront 3 = .ok (.aload_n 0, 1) := by decide +kernel
theorem dX7_moveToFront_4 : decode cX7_moveToFront 4 = .ok (.getfield 25, 3) := by decide +kernel
theorem dX7_moveToFront_7 : decode cX7_moveToFront 7 = .ok (.arraylength, 1) := by decide +kernel
theorem dX7_moveToFront_8 : decode cX7_moveToFront 8 = .ok (.iconst 1, 1) := by decide +kernel
theorem dX7_moveToFront_9 : decode cX7_moveToFront 9 = .ok (.isub, 1) := by decide +kernel
theorem dX7_moveToFront_10 : decode cX7_moveToFront 10 = .ok (.if_icmp .ge 19, 3) := by decide +kernel
theorem dX7_moveToFront_13 : decode cX7_moveToFront 13 = .ok (.aload_n 0, 1) := by decide +kernel
theorem dX7_moveToFront_14 : decode cX7_moveToFront 14 = .ok (.getfield 25, 3) := by decide +kernel
theorem dX7_moveToFront_17 : decode cX7_moveToFront 17 = .ok (.iload_n 2, 1) := by decide +kernel
theorem dX7_moveToFront_18 : decode cX7_moveToFront 18 = .ok (.caload, 1) := by decide +kernel
theorem dX7_moveToFront_19 : decode cX7_moveToFront 19 = .ok (.iload_n 1, 1) := by decide +kernel
theorem dX7_moveToFront_20 : decode cX7_moveToFront 20 = .ok (.if_icmp .eq 9, 3) := by decide +kernel
theorem dX7_moveToFront_23 : decode cX7_moveToFront 23 = .ok (.iinc 2 1, 3) := by decide +kernel
theorem dX7_moveToFront_26 : decode cX7_moveToFront 26 = .ok (.goto (-24), 3) := by decide +kernel
theorem dX7_moveToFront_29 : decode cX7_moveToFront 29 = .ok (.iload_n 2, 1) := by decide +kernel
theorem dX7_moveToFront_30 : decode cX7_moveToFront 30 = .ok (.istore_n 3, 1) := by decide +kernel
theorem dX7_moveToFront_31 : decode cX7_moveToFront 31 = .ok (.iload_n 3, 1) := by decide +kernel
theorem dX7_moveToFront_32 : decode cX7_moveToFront 32 = .ok (.ifCond .le 23, 3) := by decide +kernel
theorem dX7_moveToFront_35 : decode cX7_moveToFront 35 = .ok (.aload_n 0, 1) := by decide +kernel
theorem dX7_moveToFront_36 : decode cX7_moveToFront 36 = .ok (.getfield 25, 3) := by decide +kernel
theorem dX7_moveToFront_39 : decode cX7_moveToFront 39 = .ok (.iload_n 3, 1) := by decide +kernel
theorem dX7_moveToFront_40 : decode cX7_moveToFront 40 = .ok (.aload_n 0, 1) := by decide +kernel
theorem dX7_moveToFront_41 : decode cX7_moveToFront 41 = .ok (.getfield 25, 3) := by decide +kernel
theorem dX7_moveToFront_44 : decode cX7_moveToFront 44 = .ok (.iload_n 3, 1) := by decide +kernel
theorem dX7_moveToFront_45 : decode cX7_moveToFront 45 = .ok (.iconst 1, 1) := by decide +kernel
theorem dX7_moveToFront_46 : decode cX7_moveToFront 46 = .ok (.isub, 1) := by decide +kernel
theorem dX7_moveToFront_47 : decode cX7_moveToFront 47 = .ok (.caload, 1) := by decide +kernel
theorem dX7_moveToFront_48 : decode cX7_moveToFront 48 = .ok (.castore, 1) := by decide +kernel
theorem dX7_moveToFront_49 : decode cX7_moveToFront 49 = .ok (.iinc 3 (-1), 3) := by decide +kernel
theorem dX7_moveToFront_52 : decode cX7_moveToFront 52 = .ok (.goto (-21), 3) := by decide +kernel
theorem dX7_moveToFront_55 : decode cX7_moveToFront 55 = .ok (.aload_n 0, 1) := by decide +kernel
theorem dX7_moveToFront_56 : decode cX7_moveToFront 56 = .ok (.getfield 25, 3) := by decide +kernel
theorem dX7_moveToFront_59 : decode cX7_moveToFront 59 = .ok (.iconst 0, 1) := by decide +kernel
theorem dX7_moveToFront_60 : decode cX7_moveToFront 60 = .ok (.iload_n 1, 1) := by decide +kernel
theorem dX7_moveToFront_61 : decode cX7_moveToFront 61 = .ok (.castore, 1) := by decide +kernel
theorem dX7_moveToFront_62 : decode cX7_moveToFront 62 = .ok (.iload_n 2, 1) := by decide +kernel
theorem dX7_moveToFront_63 : decode cX7_moveToFront 63 = .ok (.ireturn, 1) := by decide +kernel
theorem dX7_turnBack_0 : decode cX7_turnBack 0 = .ok (.aload_n 0, 1) := by decide +kernel
theorem dX7_turnBack_1 : decode cX7_turnBack 1 = .ok (.aload_n 1, 1) := by decide +kernel
theorem dX7_turnBack_2 : decode cX7_turnBack 2 = .ok (.iload_n 2, 1) := by decide +kernel
theorem dX7_turnBack_3 : decode cX7_turnBack 3 = .ok (.invokevirtual 42, 3) := by decide +kernel
theorem dX7_turnBack_6 : decode cX7_turnBack 6 = .ok (.iconst 1, 1) := by decide +kernel
theorem dX7_turnBack_7 : decode cX7_turnBack 7 = .ok (.if_icmp .eq 5, 3) := by decide +kernel
theorem dX7_turnBack_10 : decode cX7_turnBack 10 = .ok (.iconst 0, 1) := by decide +kernel
theorem dX7_turnBack_11 : decode cX7_turnBack 11 = .ok (.ireturn, 1) := by decide +kernel
theorem dX7_turnBack_12 : decode cX7_turnBack 12 = .ok (.aload_n 0, 1) := by decide +kernel
theorem dX7_turnBack_13 : decode cX7_turnBack 13 = .ok (.aload_n 1, 1) := by decide +kernel
theorem dX7_turnBack_14 : decode cX7_turnBack 14 = .ok (.iload_n 2, 1) := by decide +kernel
theorem dX7_turnBack_15 : decode cX7_turnBack 15 = .ok (.invokevirtual 46, 3) := by decide +kernel
theorem dX7_turnBack_18 : decode cX7_turnBack 18 = .ok (.iconst 0, 1) := by decide +kernel
theorem dX7_turnBack_19 : decode cX7_turnBack 19 = .ok (.istore_n 3, 1) := by decide +kernel
theorem dX7_turnBack_20 : decode cX7_turnBack 20 = .ok (.iload_n 2, 1) := by decide +kernel
theorem dX7_turnBack_21 : decode cX7_turnBack 21 = .ok (.iconst 2, 1) := by decide +kernel
theorem dX7_turnBack_22 : decode cX7_turnBack 22 = .ok (.isub, 1) := by decide +kernel
theorem dX7_turnBack_23 : decode cX7_turnBack 23 = .ok (.istore 4, 2) := by decide +kernel
theorem dX7_turnBack_25 : decode cX7_turnBack 25 = .ok (.iload 4, 2) := by decide +kernel
theorem dX7_turnBack_27 : decode cX7_turnBack 27 = .ok (.ifCond .lt 36, 3) := by decide +kernel
theorem dX7_turnBack_30 : decode cX7_turnBack 30 = .ok (.aload_n 1, 1) := by decide +kernel
theorem dX7_turnBack_31 : decode cX7_turnBack 31 = .ok (.iload_n 3, 1) := by decide +kernel
theorem dX7_turnBack_32 : decode cX7_turnBack 32 = .ok (.caload, 1) := by decide +kernel
theorem dX7_turnBack_33 : decode cX7_turnBack 33 = .ok (.bipush 36, 2) := by decide +kernel
theorem dX7_turnBack_35 : decode cX7_turnBack 35 = .ok (.if_icmp .ne 5, 3) := by decide +kernel
theorem dX7_turnBack_38 : decode cX7_turnBack 38 = .ok (.iconst 0, 1) := by decide +kernel
theorem dX7_turnBack_39 : decode cX7_turnBack 39 = .ok (.ireturn, 1) := by decide +kernel
theorem dX7_turnBack_40 : decode cX7_turnBack 40 = .ok (.aload_n 0, 1) := by decide +kernel
theorem dX7_turnBack_41 : decode cX7_turnBack 41 = .ok (.getfield 9, 3) := by decide +kernel
theorem dX7_turnBack_44 : decode cX7_turnBack 44 = .ok (.iload 4, 2) := by decide +kernel
theorem dX7_turnBack_46 : decode cX7_turnBack 46 = .ok (.aload_n 1, 1) := by decide +kernel
theorem dX7_turnBack_47 : decode cX7_turnBack 47 = .ok (.iload_n 3, 1) := by decide +kernel
theorem dX7_turnBack_48 : decode cX7_turnBack 48 = .ok (.caload, 1) := by decide +kernel
theorem dX7_turnBack_49 : decode cX7_turnBack 49 = .ok (.castore, 1) := by decide +kernel
theorem dX7_turnBack_50 : decode cX7_turnBack 50 = .ok (.aload_n 0, 1) := by decide +kernel
theorem dX7_turnBack_51 : decode cX7_turnBack 51 = .ok (.getfield 18, 3) := by decide +kernel
theorem dX7_turnBack_54 : decode cX7_turnBack 54 = .ok (.iload_n 3, 1) := by decide +kernel
theorem dX7_turnBack_55 : decode cX7_turnBack 55 = .ok (.iaload, 1) := by decide +kernel
theorem dX7_turnBack_56 : decode cX7_turnBack 56 = .ok (.istore_n 3, 1) := by decide +kernel
theorem dX7_turnBack_57 : decode cX7_turnBack 57 = .ok (.iinc 4 (-1), 3) := by decide +kernel
theorem dX7_turnBack_60 : decode cX7_turnBack 60 = .ok (.goto (-35), 3) := by decide +kernel
theorem dX7_turnBack_63 : decode cX7_turnBack 63 = .ok (.iconst 1, 1) := by decide +kernel
theorem dX7_turnBack_64 : decode cX7_turnBack 64 = .ok (.ireturn, 1) := by decide +kernel
theorem dX7_endSigns_0 : decode cX7_endSigns 0 = .ok (.iconst 0, 1) := by decide +kernel
theorem dX7_endSigns_1 : decode cX7_endSigns 1 = .ok (.istore_n 3, 1) := by decide +kernel
theorem dX7_endSigns_2 : decode cX7_endSigns 2 = .ok (.iconst 0, 1) := by decide +kernel
theorem dX7_endSigns_3 : decode cX7_endSigns 3 = .ok (.istore 4, 2) := by decide +kernel
theorem dX7_endSigns_5 : decode cX7_endSigns 5 = .ok (.iload 4, 2) := by decide +kernel
theorem dX7_endSigns_7 : decode cX7_endSigns 7 = .ok (.iload_n 2, 1) := by decide +kernel
theorem dX7_endSigns_8 : decode cX7_endSigns 8 = .ok (.if_icmp .ge 21, 3) := by decide +kernel
theorem dX7_endSigns_11 : decode cX7_endSigns 11 = .ok (.aload_n 1, 1) := by decide +kernel
theorem dX7_endSigns_12 : decode cX7_endSigns 12 = .ok (.iload 4, 2) := by decide +kernel
theorem dX7_endSigns_14 : decode cX7_endSigns 14 = .ok (.caload, 1) := by decide +kernel
theorem dX7_endSigns_15 : decode cX7_endSigns 15 = .ok (.bipush 36, 2) := by decide +kernel
theorem dX7_endSigns_17 : decode cX7_endSigns 17 = .ok (.if_icmp .ne 6, 3) := by decide +kernel
theorem dX7_endSigns_20 : decode cX7_endSigns 20 = .ok (.iinc 3 1, 3) := by decide +kernel
theorem dX7_endSigns_23 : decode cX7_endSigns 23 = .ok (.iinc 4 1, 3) := by decide +kernel
theorem dX7_endSigns_26 : decode cX7_endSigns 26 = .ok (.goto (-21), 3) := by decide +kernel
theorem dX7_endSigns_29 : decode cX7_endSigns 29 = .ok (.iload_n 3, 1) := by decide +kernel
theorem dX7_endSigns_30 : decode cX7_endSigns 30 = .ok (.ireturn, 1) := by decide +kernel
theorem dX7_tellRowsAhead_0 : decode cX7_tellRowsAhead 0 = .ok (.iconst 0, 1) := by decide +kernel
theorem dX7_tellRowsAhead_1 : decode cX7_tellRowsAhead 1 = .ok (.istore_n 3, 1) := by decide +kernel
theorem dX7_tellRowsAhead_2 : decode cX7_tellRowsAhead 2 = .ok (.iload_n 3, 1) := by decide +kernel
theorem dX7_tellRowsAhead_3 : decode cX7_tellRowsAhead 3 = .ok (.aload_n 0, 1) := by decide +kernel
theorem dX7_tellRowsAhead_4 : decode cX7_tellRowsAhead 4 = .ok (.getfield 22, 3) := by decide +kernel
theorem dX7_tellRowsAhead_7 : decode cX7_tellRowsAhead 7 = .ok (.arraylength, 1) := by decide +kernel
theorem dX7_tellRowsAhead_8 : decode cX7_tellRowsAhead 8 = .ok (.if_icmp .ge 16, 3) := by decide +kernel
theorem dX7_tellRowsAhead_11 : decode cX7_tellRowsAhead 11 = .ok (.aload_n 0, 1) := by decide +kernel
theorem dX7_tellRowsAhead_12 : decode cX7_tellRowsAhead 12 = .ok (.getfield 22, 3) := by decide +kernel
theorem dX7_tellRowsAhead_15 : decode cX7_tellRowsAhead 15 = .ok (.iload_n 3, 1) := by decide +kernel
theorem dX7_tellRowsAhead_16 : decode cX7_tellRowsAhead 16 = .ok (.iconst 0, 1) := by decide +kernel
theorem dX7_tellRowsAhead_17 : decode cX7_tellRowsAhead 17 = .ok (.iastore, 1) := by decide +kernel
theorem dX7_tellRowsAhead_18 : decode cX7_tellRowsAhead 18 = .ok (.iinc 3 1, 3) := by decide +kernel
theorem dX7_tellRowsAhead_21 : decode cX7_tellRowsAhead 21 = .ok (.goto (-19), 3) := by decide +kernel
theorem dX7_tellRowsAhead_24 : decode cX7_tellRowsAhead 24 = .ok (.iconst 0, 1) := by decide +kernel
theorem dX7_tellRowsAhead_25 : decode cX7_tellRowsAhead 25 = .ok (.istore_n 3, 1) := by decide +kernel
theorem dX7_tellRowsAhead_26 : decode cX7_tellRowsAhead 26 = .ok (.iload_n 3, 1) := by decide +kernel
theorem dX7_tellRowsAhead_27 : decode cX7_tellRowsAhead 27 = .ok (.iload_n 2, 1) := by decide +kernel
theorem dX7_tellRowsAhead_28 : decode cX7_tellRowsAhead 28 = .ok (.if_icmp .ge 26, 3) := by decide +kernel
theorem dX7_tellRowsAhead_31 : decode cX7_tellRowsAhead 31 = .ok (.aload_n 0, 1) := by decide +kernel
theorem dX7_tellRowsAhead_32 : decode cX7_tellRowsAhead 32 = .ok (.getfield 22, 3) := by decide +kernel
theorem dX7_tellRowsAhead_35 : decode cX7_tellRowsAhead 35 = .ok (.aload_n 1, 1) := by decide +kernel
theorem dX7_tellRowsAhead_36 : decode cX7_tellRowsAhead 36 = .ok (.iload_n 3, 1) := by decide +kernel
theorem dX7_tellRowsAhead_37 : decode cX7_tellRowsAhead 37 = .ok (.caload, 1) := by decide +kernel
theorem dX7_tellRowsAhead_38 : decode cX7_tellRowsAhead 38 = .ok (.invokestatic 50, 3) := by decide +kernel
theorem dX7_tellRowsAhead_41 : decode cX7_tellRowsAhead 41 = .ok (.iconst 1, 1) := by decide +kernel
theorem dX7_tellRowsAhead_42 : decode cX7_tellRowsAhead 42 = .ok (.iadd, 1) := by decide +kernel
theorem dX7_tellRowsAhead_43 : decode cX7_tellRowsAhead 43 = .ok (.dup2, 1) := by decide +kernel
theorem dX7_tellRowsAhead_44 : decode cX7_tellRowsAhead 44 = .ok (.iaload, 1) := by decide +kernel
theorem dX7_tellRowsAhead_45 : decode cX7_tellRowsAhead 45 = .ok (.iconst 1, 1) := by decide +kernel
theorem dX7_tellRowsAhead_46 : decode cX7_tellRowsAhead 46 = .ok (.iadd, 1) := by decide +kernel
theorem dX7_tellRowsAhead_47 : decode cX7_tellRowsAhead 47 = .ok (.iastore, 1) := by decide +kernel
theorem dX7_tellRowsAhead_48 : decode cX7_tellRowsAhead 48 = .ok (.iinc 3 1, 3) := by decide +kernel
theorem dX7_tellRowsAhead_51 : decode cX7_tellRowsAhead 51 = .ok (.goto (-25), 3) := by decide +kernel
theorem dX7_tellRowsAhead_54 : decode cX7_tellRowsAhead 54 = .ok (.iconst 1, 1) := by decide +kernel
theorem dX7_tellRowsAhead_55 : decode cX7_tellRowsAhead 55 = .ok (.istore_n 3, 1) := by decide +kernel
theorem dX7_tellRowsAhead_56 : decode cX7_tellRowsAhead 56 = .ok (.iload_n 3, 1) := by decide +kernel
theorem dX7_tellRowsAhead_57 : decode cX7_tellRowsAhead 57 = .ok (.aload_n 0, 1) := by decide +kernel
theorem dX7_tellRowsAhead_58 : decode cX7_tellRowsAhead 58 = .ok (.getfield 22, 3) := by decide +kernel
theorem dX7_tellRowsAhead_61 : decode cX7_tellRowsAhead 61 = .ok (.arraylength, 1) := by decide +kernel
theorem dX7_tellRowsAhead_62 : decode cX7_tellRowsAhead 62 = .ok (.if_icmp .ge 26, 3) := by decide +kernel
theorem dX7_tellRowsAhead_65 : decode cX7_tellRowsAhead 65 = .ok (.aload_n 0, 1) := by decide +kernel
theorem dX7_tellRowsAhead_66 : decode cX7_tellRowsAhead 66 = .ok (.getfield 22, 3) := by decide +kernel
theorem dX7_tellRowsAhead_69 : decode cX7_tellRowsAhead 69 = .ok (.iload_n 3, 1) := by decide +kernel
theorem dX7_tellRowsAhead_70 : decode cX7_tellRowsAhead 70 = .ok (.dup2, 1) := by decide +kernel
theorem dX7_tellRowsAhead_71 : decode cX7_tellRowsAhead 71 = .ok (.iaload, 1) := by decide +kernel
theorem dX7_tellRowsAhead_72 : decode cX7_tellRowsAhead 72 = .ok (.aload_n 0, 1) := by decide +kernel
theorem dX7_tellRowsAhead_73 : decode cX7_tellRowsAhead 73 = .ok (.getfield 22, 3) := by decide +kernel
theorem dX7_tellRowsAhead_76 : decode cX7_tellRowsAhead 76 = .ok (.iload_n 3, 1) := by decide +kernel
theorem dX7_tellRowsAhead_77 : decode cX7_tellRowsAhead 77 = .ok (.iconst 1, 1) := by decide +kernel
theorem dX7_tellRowsAhead_78 : decode cX7_tellRowsAhead 78 = .ok (.isub, 1) := by decide +kernel
theorem dX7_tellRowsAhead_79 : decode cX7_tellRowsAhead 79 = .ok (.iaload, 1) := by decide +kernel
theorem dX7_tellRowsAhead_80 : decode cX7_tellRowsAhead 80 = .ok (.iadd, 1) := by decide +kernel
