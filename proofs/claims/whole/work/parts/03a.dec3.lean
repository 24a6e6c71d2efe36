theorem dX11_hasEnd_23 : decode cX11_hasEnd 23 = .ok (.iinc 1 1, 3) := by decide +kernel
theorem dX11_hasEnd_26 : decode cX11_hasEnd 26 = .ok (.goto (-24), 3) := by decide +kernel
theorem dX11_hasEnd_29 : decode cX11_hasEnd 29 = .ok (.iconst 0, 1) := by decide +kernel
theorem dX11_hasEnd_30 : decode cX11_hasEnd 30 = .ok (.ireturn, 1) := by decide +kernel
theorem dX11_text_0 : decode cX11_text 0 = .ok (.aload_n 0, 1) := by decide +kernel
theorem dX11_text_1 : decode cX11_text 1 = .ok (.aload_n 0, 1) := by decide +kernel
theorem dX11_text_2 : decode cX11_text 2 = .ok (.invokevirtual 64, 3) := by decide +kernel
theorem dX11_text_5 : decode cX11_text 5 = .ok (.ifCond .ne 12, 3) := by decide +kernel
theorem dX11_text_8 : decode cX11_text 8 = .ok (.aload_n 0, 1) := by decide +kernel
theorem dX11_text_9 : decode cX11_text 9 = .ok (.getfield 54, 3) := by decide +kernel
theorem dX11_text_12 : decode cX11_text 12 = .ok (.bipush 64, 2) := by decide +kernel
theorem dX11_text_14 : decode cX11_text 14 = .ok (.if_icmp .le 7, 3) := by decide +kernel
theorem dX11_text_17 : decode cX11_text 17 = .ok (.iconst 1, 1) := by decide +kernel
theorem dX11_text_18 : decode cX11_text 18 = .ok (.goto 17, 3) := by decide +kernel
theorem dX11_text_21 : decode cX11_text 21 = .ok (.aload_n 0, 1) := by decide +kernel
theorem dX11_text_22 : decode cX11_text 22 = .ok (.getfield 39, 3) := by decide +kernel
theorem dX11_text_25 : decode cX11_text 25 = .ok (.bipush 8, 2) := by decide +kernel
theorem dX11_text_27 : decode cX11_text 27 = .ok (.if_icmp .ne 7, 3) := by decide +kernel
theorem dX11_text_30 : decode cX11_text 30 = .ok (.iconst 2, 1) := by decide +kernel
theorem dX11_text_31 : decode cX11_text 31 = .ok (.goto 4, 3) := by decide +kernel
theorem dX11_text_34 : decode cX11_text 34 = .ok (.iconst 0, 1) := by decide +kernel
theorem dX11_text_35 : decode cX11_text 35 = .ok (.invokevirtual 57, 3) := by decide +kernel
theorem dX11_text_38 : decode cX11_text 38 = .ok (.ifCond .eq 5, 3) := by decide +kernel
theorem dX11_text_41 : decode cX11_text 41 = .ok (.iconst 0, 1) := by decide +kernel
theorem dX11_text_42 : decode cX11_text 42 = .ok (.ireturn, 1) := by decide +kernel
theorem dX11_text_43 : decode cX11_text 43 = .ok (.iconst 0, 1) := by decide +kernel
theorem dX11_text_44 : decode cX11_text 44 = .ok (.istore_n 1, 1) := by decide +kernel
theorem dX11_text_45 : decode cX11_text 45 = .ok (.iload_n 1, 1) := by decide +kernel
theorem dX11_text_46 : decode cX11_text 46 = .ok (.aload_n 0, 1) := by decide +kernel
theorem dX11_text_47 : decode cX11_text 47 = .ok (.getfield 54, 3) := by decide +kernel
theorem dX11_text_50 : decode cX11_text 50 = .ok (.if_icmp .ge 29, 3) := by decide +kernel
theorem dX11_text_53 : decode cX11_text 53 = .ok (.aload_n 0, 1) := by decide +kernel
theorem dX11_text_54 : decode cX11_text 54 = .ok (.getfield 7, 3) := by decide +kernel
theorem dX11_text_57 : decode cX11_text 57 = .ok (.bipush 64, 2) := by decide +kernel
theorem dX11_text_59 : decode cX11_text 59 = .ok (.aload_n 0, 1) := by decide +kernel
theorem dX11_text_60 : decode cX11_text 60 = .ok (.getfield 39, 3) := by decide +kernel
theorem dX11_text_63 : decode cX11_text 63 = .ok (.imul, 1) := by decide +kernel
theorem dX11_text_64 : decode cX11_text 64 = .ok (.iload_n 1, 1) := by decide +kernel
theorem dX11_text_65 : decode cX11_text 65 = .ok (.iadd, 1) := by decide +kernel
theorem dX11_text_66 : decode cX11_text 66 = .ok (.aload_n 0, 1) := by decide +kernel
theorem dX11_text_67 : decode cX11_text 67 = .ok (.getfield 17, 3) := by decide +kernel
theorem dX11_text_70 : decode cX11_text 70 = .ok (.iload_n 1, 1) := by decide +kernel
theorem dX11_text_71 : decode cX11_text 71 = .ok (.caload, 1) := by decide +kernel
theorem dX11_text_72 : decode cX11_text 72 = .ok (.castore, 1) := by decide +kernel
theorem dX11_text_73 : decode cX11_text 73 = .ok (.iinc 1 1, 3) := by decide +kernel
theorem dX11_text_76 : decode cX11_text 76 = .ok (.goto (-31), 3) := by decide +kernel
theorem dX11_text_79 : decode cX11_text 79 = .ok (.aload_n 0, 1) := by decide +kernel
theorem dX11_text_80 : decode cX11_text 80 = .ok (.getfield 13, 3) := by decide +kernel
theorem dX11_text_83 : decode cX11_text 83 = .ok (.aload_n 0, 1) := by decide +kernel
theorem dX11_text_84 : decode cX11_text 84 = .ok (.getfield 39, 3) := by decide +kernel
theorem dX11_text_87 : decode cX11_text 87 = .ok (.aload_n 0, 1) := by decide +kernel
theorem dX11_text_88 : decode cX11_text 88 = .ok (.getfield 54, 3) := by decide +kernel
theorem dX11_text_91 : decode cX11_text 91 = .ok (.iastore, 1) := by decide +kernel
theorem dX11_text_92 : decode cX11_text 92 = .ok (.aload_n 0, 1) := by decide +kernel
theorem dX11_text_93 : decode cX11_text 93 = .ok (.iconst 0, 1) := by decide +kernel
theorem dX11_text_94 : decode cX11_text 94 = .ok (.putfield 54, 3) := by decide +kernel
theorem dX11_text_97 : decode cX11_text 97 = .ok (.aload_n 0, 1) := by decide +kernel
theorem dX11_text_98 : decode cX11_text 98 = .ok (.dup, 1) := by decide +kernel
theorem dX11_text_99 : decode cX11_text 99 = .ok (.getfield 39, 3) := by decide +kernel
theorem dX11_text_102 : decode cX11_text 102 = .ok (.iconst 1, 1) := by decide +kernel
theorem dX11_text_103 : decode cX11_text 103 = .ok (.iadd, 1) := by decide +kernel
theorem dX11_text_104 : decode cX11_text 104 = .ok (.putfield 39, 3) := by decide +kernel
theorem dX11_text_107 : decode cX11_text 107 = .ok (.aload_n 0, 1) := by decide +kernel
theorem dX11_text_108 : decode cX11_text 108 = .ok (.getfield 39, 3) := by decide +kernel
theorem dX11_text_111 : decode cX11_text 111 = .ok (.iconst 1, 1) := by decide +kernel
theorem dX11_text_112 : decode cX11_text 112 = .ok (.isub, 1) := by decide +kernel
theorem dX11_text_113 : decode cX11_text 113 = .ok (.ireturn, 1) := by decide +kernel
theorem dX11_isNone_0 : decode cX11_isNone 0 = .ok (.aload_n 0, 1) := by decide +kernel
theorem dX11_isNone_1 : decode cX11_isNone 1 = .ok (.aload_n 0, 1) := by decide +kernel
theorem dX11_isNone_2 : decode cX11_isNone 2 = .ok (.iload_n 1, 1) := by decide +kernel
theorem dX11_isNone_3 : decode cX11_isNone 3 = .ok (.invokevirtual 46, 3) := by decide +kernel
theorem dX11_isNone_6 : decode cX11_isNone 6 = .ok (.ifCond .eq 7, 3) := by decide +kernel
theorem dX11_isNone_9 : decode cX11_isNone 9 = .ok (.iconst 0, 1) := by decide +kernel
theorem dX11_isNone_10 : decode cX11_isNone 10 = .ok (.goto 4, 3) := by decide +kernel
theorem dX11_isNone_13 : decode cX11_isNone 13 = .ok (.iconst 1, 1) := by decide +kernel
theorem dX11_isNone_14 : decode cX11_isNone 14 = .ok (.invokevirtual 57, 3) := by decide +kernel
theorem dX11_isNone_17 : decode cX11_isNone 17 = .ok (.ireturn, 1) := by decide +kernel
theorem dX11_take_0 : decode cX11_take 0 = .ok (.aload_n 0, 1) := by decide +kernel
theorem dX11_take_1 : decode cX11_take 1 = .ok (.iload_n 1, 1) := by decide +kernel
theorem dX11_take_2 : decode cX11_take 2 = .ok (.invokevirtual 68, 3) := by decide +kernel
theorem dX11_take_5 : decode cX11_take 5 = .ok (.ifCond .eq 5, 3) := by decide +kernel
theorem dX11_take_8 : decode cX11_take 8 = .ok (.iconst 0, 1) := by decide +kernel
theorem dX11_take_9 : decode cX11_take 9 = .ok (.ireturn, 1) := by decide +kernel
theorem dX11_take_10 : decode cX11_take 10 = .ok (.aload_n 0, 1) := by decide +kernel
theorem dX11_take_11 : decode cX11_take 11 = .ok (.aload_n 0, 1) := by decide +kernel
theorem dX11_take_12 : decode cX11_take 12 = .ok (.getfield 13, 3) := by decide +kernel
theorem dX11_take_15 : decode cX11_take 15 = .ok (.iload_n 1, 1) := by decide +kernel
theorem dX11_take_16 : decode cX11_take 16 = .ok (.iaload, 1) := by decide +kernel
theorem dX11_take_17 : decode cX11_take 17 = .ok (.putfield 54, 3) := by decide +kernel
theorem dX11_take_20 : decode cX11_take 20 = .ok (.iconst 0, 1) := by decide +kernel
theorem dX11_take_21 : decode cX11_take 21 = .ok (.istore_n 2, 1) := by decide +kernel
theorem dX11_take_22 : decode cX11_take 22 = .ok (.iload_n 2, 1) := by decide +kernel
theorem dX11_take_23 : decode cX11_take 23 = .ok (.aload_n 0, 1) := by decide +kernel
theorem dX11_take_24 : decode cX11_take 24 = .ok (.getfield 54, 3) := by decide +kernel
theorem dX11_take_27 : decode cX11_take 27 = .ok (.if_icmp .ge 26, 3) := by decide +kernel
theorem dX11_take_30 : decode cX11_take 30 = .ok (.aload_n 0, 1) := by decide +kernel
theorem dX11_take_31 : decode cX11_take 31 = .ok (.getfield 17, 3) := by decide +kernel
theorem dX11_take_34 : decode cX11_take 34 = .ok (.iload_n 2, 1) := by decide +kernel
theorem dX11_take_35 : decode cX11_take 35 = .ok (.aload_n 0, 1) := by decide +kernel
theorem dX11_take_36 : decode cX11_take 36 = .ok (.getfield 7, 3) := by decide +kernel
theorem dX11_take_39 : decode cX11_take 39 = .ok (.bipush 64, 2) := by decide +kernel
theorem dX11_take_41 : decode cX11_take 41 = .ok (.iload_n 1, 1) := by decide +kernel
theorem dX11_take_42 : decode cX11_take 42 = .ok (.imul, 1) := by decide +kernel
theorem dX11_take_43 : decode cX11_take 43 = .ok (.iload_n 2, 1) := by decide +kernel
theorem dX11_take_44 : decode cX11_take 44 = .ok (.iadd, 1) := by decide +kernel
theorem dX11_take_45 : decode cX11_take 45 = .ok (.caload, 1) := by decide +kernel
theorem dX11_take_46 : decode cX11_take 46 = .ok (.castore, 1) := by decide +kernel
theorem dX11_take_47 : decode cX11_take 47 = .ok (.iinc 2 1, 3) := by decide +kernel
theorem dX11_take_50 : decode cX11_take 50 = .ok (.goto (-28), 3) := by decide +kernel
theorem dX11_take_53 : decode cX11_take 53 = .ok (.aload_n 0, 1) := by decide +kernel
theorem dX11_take_54 : decode cX11_take 54 = .ok (.getfield 54, 3) := by decide +kernel
theorem dX11_take_57 : decode cX11_take 57 = .ok (.ireturn, 1) := by decide +kernel
theorem dX11_length_0 : decode cX11_length 0 = .ok (.aload_n 0, 1) := by decide +kernel
theorem dX11_length_1 : decode cX11_length 1 = .ok (.iload_n 1, 1) := by decide +kernel
theorem dX11_length_2 : decode cX11_length 2 = .ok (.invokevirtual 68, 3) := by decide +kernel
theorem dX11_length_5 : decode cX11_length 5 = .ok (.ifCond .eq 7, 3) := by decide +kernel
theorem dX11_length_8 : decode cX11_length 8 = .ok (.iconst 0, 1) := by decide +kernel
theorem dX11_length_9 : decode cX11_length 9 = .ok (.goto 9, 3) := by decide +kernel
theorem dX11_length_12 : decode cX11_length 12 = .ok (.aload_n 0, 1) := by decide +kernel
theorem dX11_length_13 : decode cX11_length 13 = .ok (.getfield 13, 3) := by decide +kernel
theorem dX11_length_16 : decode cX11_length 16 = .ok (.iload_n 1, 1) := by decide +kernel
theorem dX11_length_17 : decode cX11_length 17 = .ok (.iaload, 1) := by decide +kernel
theorem dX11_length_18 : decode cX11_length 18 = .ok (.ireturn, 1) := by decide +kernel
theorem dX11_isNoPlace_0 : decode cX11_isNoPlace 0 = .ok (.aload_n 0, 1) := by decide +kernel
theorem dX11_isNoPlace_1 : decode cX11_isNoPlace 1 = .ok (.aload_n 0, 1) := by decide +kernel
theorem dX11_isNoPlace_2 : decode cX11_isNoPlace 2 = .ok (.iload_n 1, 1) := by decide +kernel
theorem dX11_isNoPlace_3 : decode cX11_isNoPlace 3 = .ok (.iload_n 2, 1) := by decide +kernel
theorem dX11_isNoPlace_4 : decode cX11_isNoPlace 4 = .ok (.invokevirtual 71, 3) := by decide +kernel
theorem dX11_isNoPlace_7 : decode cX11_isNoPlace 7 = .ok (.ifCond .eq 7, 3) := by decide +kernel
theorem dX11_isNoPlace_10 : decode cX11_isNoPlace 10 = .ok (.iconst 0, 1) := by decide +kernel
theorem dX11_isNoPlace_11 : decode cX11_isNoPlace 11 = .ok (.goto 4, 3) := by decide +kernel
theorem dX11_isNoPlace_14 : decode cX11_isNoPlace 14 = .ok (.iconst 1, 1) := by decide +kernel
theorem dX11_isNoPlace_15 : decode cX11_isNoPlace 15 = .ok (.invokevirtual 57, 3) := by decide +kernel
theorem dX11_isNoPlace_18 : decode cX11_isNoPlace 18 = .ok (.ireturn, 1) := by decide +kernel
theorem dX11_signAt_0 : decode cX11_signAt 0 = .ok (.aload_n 0, 1) := by decide +kernel
theorem dX11_signAt_1 : decode cX11_signAt 1 = .ok (.iload_n 1, 1) := by decide +kernel
theorem dX11_signAt_2 : decode cX11_signAt 2 = .ok (.iload_n 2, 1) := by decide +kernel
theorem dX11_signAt_3 : decode cX11_signAt 3 = .ok (.invokevirtual 75, 3) := by decide +kernel
theorem dX11_signAt_6 : decode cX11_signAt 6 = .ok (.ifCond .eq 7, 3) := by decide +kernel
theorem dX11_signAt_9 : decode cX11_signAt 9 = .ok (.iconst 0, 1) := by decide +kernel
theorem dX11_signAt_10 : decode cX11_signAt 10 = .ok (.goto 14, 3) := by decide +kernel
theorem dX11_signAt_13 : decode cX11_signAt 13 = .ok (.aload_n 0, 1) := by decide +kernel
theorem dX11_signAt_14 : decode cX11_signAt 14 = .ok (.getfield 7, 3) := by decide +kernel
theorem dX11_signAt_17 : decode cX11_signAt 17 = .ok (.bipush 64, 2) := by decide +kernel
theorem dX11_signAt_19 : decode cX11_signAt 19 = .ok (.iload_n 1, 1) := by decide +kernel
theorem dX11_signAt_20 : decode cX11_signAt 20 = .ok (.imul, 1) := by decide +kernel
theorem dX11_signAt_21 : decode cX11_signAt 21 = .ok (.iload_n 2, 1) := by decide +kernel
theorem dX11_signAt_22 : decode cX11_signAt 22 = .ok (.iadd, 1) := by decide +kernel
theorem dX11_signAt_23 : decode cX11_signAt 23 = .ok (.caload, 1) := by decide +kernel
theorem dX11_signAt_24 : decode cX11_signAt 24 = .ok (.ireturn, 1) := by decide +kernel
theorem dX11_join_0 : decode cX11_join 0 = .ok (.aload_n 0, 1) := by decide +kernel
theorem dX11_join_1 : decode cX11_join 1 = .ok (.aload_n 0, 1) := by decide +kernel
theorem dX11_join_2 : decode cX11_join 2 = .ok (.iload_n 1, 1) := by decide +kernel
theorem dX11_join_3 : decode cX11_join 3 = .ok (.invokevirtual 46, 3) := by decide +kernel
theorem dX11_join_6 : decode cX11_join 6 = .ok (.ifCond .eq 11, 3) := by decide +kernel
theorem dX11_join_9 : decode cX11_join 9 = .ok (.aload_n 0, 1) := by decide +kernel
theorem dX11_join_10 : decode cX11_join 10 = .ok (.iload_n 2, 1) := by decide +kernel
theorem dX11_join_11 : decode cX11_join 11 = .ok (.invokevirtual 46, 3) := by decide +kernel
theorem dX11_join_14 : decode cX11_join 14 = .ok (.ifCond .ne 7, 3) := by decide +kernel
theorem dX11_join_17 : decode cX11_join 17 = .ok (.iconst 1, 1) := by decide +kernel
theorem dX11_join_18 : decode cX11_join 18 = .ok (.goto 39, 3) := by decide +kernel
theorem dX11_join_21 : decode cX11_join 21 = .ok (.aload_n 0, 1) := by decide +kernel
theorem dX11_join_22 : decode cX11_join 22 = .ok (.getfield 13, 3) := by decide +kernel
theorem dX11_join_25 : decode cX11_join 25 = .ok (.iload_n 1, 1) := by decide +kernel
theorem dX11_join_26 : decode cX11_join 26 = .ok (.iaload, 1) := by decide +kernel
theorem dX11_join_27 : decode cX11_join 27 = .ok (.aload_n 0, 1) := by decide +kernel
theorem dX11_join_28 : decode cX11_join 28 = .ok (.getfield 13, 3) := by decide +kernel
theorem dX11_join_31 : decode cX11_join 31 = .ok (.iload_n 2, 1) := by decide +kernel
theorem dX11_join_32 : decode cX11_join 32 = .ok (.iaload, 1) := by decide +kernel
theorem dX11_join_33 : decode cX11_join 33 = .ok (.iadd, 1) := by decide +kernel
theorem dX11_join_34 : decode cX11_join 34 = .ok (.bipush 64, 2) := by decide +kernel
theorem dX11_join_36 : decode cX11_join 36 = .ok (.if_icmp .le 7, 3) := by decide +kernel
theorem dX11_join_39 : decode cX11_join 39 = .ok (.iconst 2, 1) := by decide +kernel
theorem dX11_join_40 : decode cX11_join 40 = .ok (.goto 17, 3) := by decide +kernel
theorem dX11_join_43 : decode cX11_join 43 = .ok (.aload_n 0, 1) := by decide +kernel
theorem dX11_join_44 : decode cX11_join 44 = .ok (.getfield 39, 3) := by decide +kernel
theorem dX11_join_47 : decode cX11_join 47 = .ok (.bipush 8, 2) := by decide +kernel
theorem dX11_join_49 : decode cX11_join 49 = .ok (.if_icmp .ne 7, 3) := by decide +kernel
theorem dX11_join_52 : decode cX11_join 52 = .ok (.iconst 3, 1) := by decide +kernel
theorem dX11_join_53 : decode cX11_join 53 = .ok (.goto 4, 3) := by decide +kernel
theorem dX11_join_56 : decode cX11_join 56 = .ok (.iconst 0, 1) := by decide +kernel
theorem dX11_join_57 : decode cX11_join 57 = .ok (.invokevirtual 57, 3) := by decide +kernel
theorem dX11_join_60 : decode cX11_join 60 = .ok (.ifCond .eq 5, 3) := by decide +kernel
theorem dX11_join_63 : decode cX11_join 63 = .ok (.iconst 0, 1) := by decide +kernel
theorem dX11_join_64 : decode cX11_join 64 = .ok (.ireturn, 1) := by decide +kernel
theorem dX11_join_65 : decode cX11_join 65 = .ok (.iconst 0, 1) := by decide +kernel
theorem dX11_join_66 : decode cX11_join 66 = .ok (.istore_n 3, 1) := by decide +kernel
theorem dX11_join_67 : decode cX11_join 67 = .ok (.iload_n 3, 1) := by decide +kernel
theorem dX11_join_68 : decode cX11_join 68 = .ok (.aload_n 0, 1) := by decide +kernel
theorem dX11_join_69 : decode cX11_join 69 = .ok (.getfield 13, 3) := by decide +kernel
theorem dX11_join_72 : decode cX11_join 72 = .ok (.iload_n 1, 1) := by decide +kernel
theorem dX11_join_73 : decode cX11_join 73 = .ok (.iaload, 1) := by decide +kernel
theorem dX11_join_74 : decode cX11_join 74 = .ok (.if_icmp .ge 34, 3) := by decide +kernel
theorem dX11_join_77 : decode cX11_join 77 = .ok (.aload_n 0, 1) := by decide +kernel
theorem dX11_join_78 : decode cX11_join 78 = .ok (.getfield 7, 3) := by decide +kernel
theorem dX11_join_81 : decode cX11_join 81 = .ok (.bipush 64, 2) := by decide +kernel
theorem dX11_join_83 : decode cX11_join 83 = .ok (.aload_n 0, 1) := by decide +kernel
theorem dX11_join_84 : decode cX11_join 84 = .ok (.getfield 39, 3) := by decide +kernel
theorem dX11_join_87 : decode cX11_join 87 = .ok (.imul, 1) := by decide +kernel
theorem dX11_join_88 : decode cX11_join 88 = .ok (.iload_n 3, 1) := by decide +kernel
theorem dX11_join_89 : decode cX11_join 89 = .ok (.iadd, 1) := by decide +kernel
theorem dX11_join_90 : decode cX11_join 90 = .ok (.aload_n 0, 1) := by decide +kernel
theorem dX11_join_91 : decode cX11_join 91 = .ok (.getfield 7, 3) := by decide +kernel
theorem dX11_join_94 : decode cX11_join 94 = .ok (.bipush 64, 2) := by decide +kernel
theorem dX11_join_96 : decode cX11_join 96 = .ok (.iload_n 1, 1) := by decide +kernel
theorem dX11_join_97 : decode cX11_join 97 = .ok (.imul, 1) := by decide +kernel
theorem dX11_join_98 : decode cX11_join 98 = .ok (.iload_n 3, 1) := by decide +kernel
theorem dX11_join_99 : decode cX11_join 99 = .ok (.iadd, 1) := by decide +kernel
theorem dX11_join_100 : decode cX11_join 100 = .ok (.caload, 1) := by decide +kernel
theorem dX11_join_101 : decode cX11_join 101 = .ok (.castore, 1) := by decide +kernel
theorem dX11_join_102 : decode cX11_join 102 = .ok (.iinc 3 1, 3) := by decide +kernel
theorem dX11_join_105 : decode cX11_join 105 = .ok (.goto (-38), 3) := by decide +kernel
theorem dX11_join_108 : decode cX11_join 108 = .ok (.iconst 0, 1) := by decide +kernel
theorem dX11_join_109 : decode cX11_join 109 = .ok (.istore_n 3, 1) := by decide +kernel
theorem dX11_join_110 : decode cX11_join 110 = .ok (.iload_n 3, 1) := by decide +kernel
theorem dX11_join_111 : decode cX11_join 111 = .ok (.aload_n 0, 1) := by decide +kernel
theorem dX11_join_112 : decode cX11_join 112 = .ok (.getfield 13, 3) := by decide +kernel
theorem dX11_join_115 : decode cX11_join 115 = .ok (.iload_n 2, 1) := by decide +kernel
theorem dX11_join_116 : decode cX11_join 116 = .ok (.iaload, 1) := by decide +kernel
theorem dX11_join_117 : decode cX11_join 117 = .ok (.if_icmp .ge 41, 3) := by decide +kernel
theorem dX11_join_120 : decode cX11_join 120 = .ok (.aload_n 0, 1) := by decide +kernel
theorem dX11_join_121 : decode cX11_join 121 = .ok (.getfield 7, 3) := by decide +kernel
theorem dX11_join_124 : decode cX11_join 124 = .ok (.bipush 64, 2) := by decide +kernel
theorem dX11_join_126 : decode cX11_join 126 = .ok (.aload_n 0, 1) := by decide +kernel
theorem dX11_join_127 : decode cX11_join 127 = .ok (.getfield 39, 3) := by decide +kernel
theorem dX11_join_130 : decode cX11_join 130 = .ok (.imul, 1) := by decide +kernel
theorem dX11_join_131 : decode cX11_join 131 = .ok (.aload_n 0, 1) := by decide +kernel
theorem dX11_join_132 : decode cX11_join 132 = .ok (.getfield 13, 3) := by decide +kernel
theorem dX11_join_135 : decode cX11_join 135 = .ok (.iload_n 1, 1) := by decide +kernel
theorem dX11_join_136 : decode cX11_join 136 = .ok (.iaload, 1) := by decide +kernel
theorem dX11_join_137 : decode cX11_join 137 = .ok (.iadd, 1) := by decide +kernel
theorem dX11_join_138 : decode cX11_join 138 = .ok (.iload_n 3, 1) := by decide +kernel
theorem dX11_join_139 : decode cX11_join 139 = .ok (.iadd, 1) := by decide +kernel
theorem dX11_join_140 : decode cX11_join 140 = .ok (.aload_n 0, 1) := by decide +kernel
theorem dX11_join_141 : decode cX11_join 141 = .ok (.getfield 7, 3) := by decide +kernel
theorem dX11_join_144 : decode cX11_join 144 = .ok (.bipush 64, 2) := by decide +kernel
theorem dX11_join_146 : decode cX11_join 146 = .ok (.iload_n 2, 1) := by decide +kernel
theorem dX11_join_147 : decode cX11_join 147 = .ok (.imul, 1) := by decide +kernel
theorem dX11_join_148 : decode cX11_join 148 = .ok (.iload_n 3, 1) := by decide +kernel
theorem dX11_join_149 : decode cX11_join 149 = .ok (.iadd, 1) := by decide +kernel
theorem dX11_join_150 : decode cX11_join 150 = .ok (.caload, 1) := by decide +kernel
theorem dX11_join_151 : decode cX11_join 151 = .ok (.castore, 1) := by decide +kernel
theorem dX11_join_152 : decode cX11_join 152 = .ok (.iinc 3 1, 3) := by decide +kernel
theorem dX11_join_155 : decode cX11_join 155 = .ok (.goto (-45), 3) := by decide +kernel
theorem dX11_join_158 : decode cX11_join 158 = .ok (.aload_n 0, 1) := by decide +kernel
theorem dX11_join_159 : decode cX11_join 159 = .ok (.getfield 13, 3) := by decide +kernel
theorem dX11_join_162 : decode cX11_join 162 = .ok (.aload_n 0, 1) := by decide +kernel
theorem dX11_join_163 : decode cX11_join 163 = .ok (.getfield 39, 3) := by decide +kernel
theorem dX11_join_166 : decode cX11_join 166 = .ok (.aload_n 0, 1) := by decide +kernel
theorem dX11_join_167 : decode cX11_join 167 = .ok (.getfield 13, 3) := by decide +kernel
theorem dX11_join_170 : decode cX11_join 170 = .ok (.iload_n 1, 1) := by decide +kernel
theorem dX11_join_171 : decode cX11_join 171 = .ok (.iaload, 1) := by decide +kernel
theorem dX11_join_172 : decode cX11_join 172 = .ok (.aload_n 0, 1) := by decide +kernel
theorem dX11_join_173 : decode cX11_join 173 = .ok (.getfield 13, 3) := by decide +kernel
theorem dX11_join_176 : decode cX11_join 176 = .ok (.iload_n 2, 1) := by decide +kernel
theorem dX11_join_177 : decode cX11_join 177 = .ok (.iaload, 1) := by decide +kernel
theorem dX11_join_178 : decode cX11_join 178 = .ok (.iadd, 1) := by decide +kernel
theorem dX11_join_179 : decode cX11_join 179 = .ok (.iastore, 1) := by decide +kernel
theorem dX11_join_180 : decode cX11_join 180 = .ok (.aload_n 0, 1) := by decide +kernel
theorem dX11_join_181 : decode cX11_join 181 = .ok (.dup, 1) := by decide +kernel
theorem dX11_join_182 : decode cX11_join 182 = .ok (.getfield 39, 3) := by decide +kernel
theorem dX11_join_185 : decode cX11_join 185 = .ok (.iconst 1, 1) := by decide +kernel
theorem dX11_join_186 : decode cX11_join 186 = .ok (.iadd, 1) := by decide +kernel
theorem dX11_join_187 : decode cX11_join 187 = .ok (.putfield 39, 3) := by decide +kernel
theorem dX11_join_190 : decode cX11_join 190 = .ok (.aload_n 0, 1) := by decide +kernel
theorem dX11_join_191 : decode cX11_join 191 = .ok (.getfield 39, 3) := by decide +kernel
theorem dX11_join_194 : decode cX11_join 194 = .ok (.iconst 1, 1) := by decide +kernel
theorem dX11_join_195 : decode cX11_join 195 = .ok (.isub, 1) := by decide +kernel
theorem dX11_join_196 : decode cX11_join 196 = .ok (.ireturn, 1) := by decide +kernel
theorem dX11_mirror_0 : decode cX11_mirror 0 = .ok (.aload_n 0, 1) := by decide +kernel
theorem dX11_mirror_1 : decode cX11_mirror 1 = .ok (.aload_n 0, 1) := by decide +kernel
theorem dX11_mirror_2 : decode cX11_mirror 2 = .ok (.iload_n 1, 1) := by decide +kernel
theorem dX11_mirror_3 : decode cX11_mirror 3 = .ok (.invokevirtual 46, 3) := by decide +kernel
theorem dX11_mirror_6 : decode cX11_mirror 6 = .ok (.ifCond .ne 7, 3) := by decide +kernel
theorem dX11_mirror_9 : decode cX11_mirror 9 = .ok (.iconst 1, 1) := by decide +kernel
theorem dX11_mirror_10 : decode cX11_mirror 10 = .ok (.goto 17, 3) := by decide +kernel
theorem dX11_mirror_13 : decode cX11_mirror 13 = .ok (.aload_n 0, 1) := by decide +kernel
theorem dX11_mirror_14 : decode cX11_mirror 14 = .ok (.getfield 39, 3) := by decide +kernel
theorem dX11_mirror_17 : decode cX11_mirror 17 = .ok (.bipush 8, 2) := by decide +kernel
theorem dX11_mirror_19 : decode cX11_mirror 19 = .ok (.if_icmp .ne 7, 3) := by decide +kernel
theorem dX11_mirror_22 : decode cX11_mirror 22 = .ok (.iconst 2, 1) := by decide +kernel
theorem dX11_mirror_23 : decode cX11_mirror 23 = .ok (.goto 4, 3) := by decide +kernel
theorem dX11_mirror_26 : decode cX11_mirror 26 = .ok (.iconst 0, 1) := by decide +kernel
theorem dX11_mirror_27 : decode cX11_mirror 27 = .ok (.invokevirtual 57, 3) := by decide +kernel
theorem dX11_mirror_30 : decode cX11_mirror 30 = .ok (.ifCond .eq 5, 3) := by decide +kernel
theorem dX11_mirror_33 : decode cX11_mirror 33 = .ok (.iconst 0, 1) := by decide +kernel
theorem dX11_mirror_34 : decode cX11_mirror 34 = .ok (.ireturn, 1) := by decide +kernel
theorem dX11_mirror_35 : decode cX11_mirror 35 = .ok (.iconst 0, 1) := by decide +kernel
theorem dX11_mirror_36 : decode cX11_mirror 36 = .ok (.istore_n 2, 1) := by decide +kernel
theorem dX11_mirror_37 : decode cX11_mirror 37 = .ok (.iload_n 2, 1) := by decide +kernel
theorem dX11_mirror_38 : decode cX11_mirror 38 = .ok (.aload_n 0, 1) := by decide +kernel
theorem dX11_mirror_39 : decode cX11_mirror 39 = .ok (.getfield 13, 3) := by decide +kernel
theorem dX11_mirror_42 : decode cX11_mirror 42 = .ok (.iload_n 1, 1) := by decide +kernel
theorem dX11_mirror_43 : decode cX11_mirror 43 = .ok (.iaload, 1) := by decide +kernel
theorem dX11_mirror_44 : decode cX11_mirror 44 = .ok (.if_icmp .ge 43, 3) := by decide +kernel
theorem dX11_mirror_47 : decode cX11_mirror 47 = .ok (.aload_n 0, 1) := by decide +kernel
theorem dX11_mirror_48 : decode cX11_mirror 48 = .ok (.getfield 7, 3) := by decide +kernel
theorem dX11_mirror_51 : decode cX11_mirror 51 = .ok (.bipush 64, 2) := by decide +kernel
theorem dX11_mirror_53 : decode cX11_mirror 53 = .ok (.aload_n 0, 1) := by decide +kernel
theorem dX11_mirror_54 : decode cX11_mirror 54 = .ok (.getfield 39, 3) := by decide +kernel
theorem dX11_mirror_57 : decode cX11_mirror 57 = .ok (.imul, 1) := by decide +kernel
theorem dX11_mirror_58 : decode cX11_mirror 58 = .ok (.iload_n 2, 1) := by decide +kernel
theorem dX11_mirror_59 : decode cX11_mirror 59 = .ok (.iadd, 1) := by decide +kernel
theorem dX11_mirror_60 : decode cX11_mirror 60 = .ok (.aload_n 0, 1) := by decide +kernel
theorem dX11_mirror_61 : decode cX11_mirror 61 = .ok (.getfield 7, 3) := by decide +kernel
theorem dX11_mirror_64 : decode cX11_mirror 64 = .ok (.bipush 64, 2) := by decide +kernel
theorem dX11_mirror_66 : decode cX11_mirror 66 = .ok (.iload_n 1, 1) := by decide +kernel
theorem dX11_mirror_67 : decode cX11_mirror 67 = .ok (.imul, 1) := by decide +kernel
theorem dX11_mirror_68 : decode cX11_mirror 68 = .ok (.aload_n 0, 1) := by decide +kernel
theorem dX11_mirror_69 : decode cX11_mirror 69 = .ok (.getfield 13, 3) := by decide +kernel
theorem dX11_mirror_72 : decode cX11_mirror 72 = .ok (.iload_n 1, 1) := by decide +kernel
theorem dX11_mirror_73 : decode cX11_mirror 73 = .ok (.iaload, 1) := by decide +kernel
theorem dX11_mirror_74 : decode cX11_mirror 74 = .ok (.iadd, 1) := by decide +kernel
theorem dX11_mirror_75 : decode cX11_mirror 75 = .ok (.iconst 1, 1) := by decide +kernel
theorem dX11_mirror_76 : decode cX11_mirror 76 = .ok (.isub, 1) := by decide +kernel
theorem dX11_mirror_77 : decode cX11_mirror 77 = .ok (.iload_n 2, 1) := by decide +kernel
theorem dX11_mirror_78 : decode cX11_mirror 78 = .ok (.isub, 1) := by decide +kernel
theorem dX11_mirror_79 : decode cX11_mirror 79 = .ok (.caload, 1) := by decide +kernel
theorem dX11_mirror_80 : decode cX11_mirror 80 = .ok (.castore, 1) := by decide +kernel
theorem dX11_mirror_81 : decode cX11_mirror 81 = .ok (.iinc 2 1, 3) := by decide +kernel
theorem dX11_mirror_84 : decode cX11_mirror 84 = .ok (.goto (-47), 3) := by decide +kernel
theorem dX11_mirror_87 : decode cX11_mirror 87 = .ok (.aload_n 0, 1) := by decide +kernel
theorem dX11_mirror_88 : decode cX11_mirror 88 = .ok (.getfield 13, 3) := by decide +kernel
theorem dX11_mirror_91 : decode cX11_mirror 91 = .ok (.aload_n 0, 1) := by decide +kernel
theorem dX11_mirror_92 : decode cX11_mirror 92 = .ok (.getfield 39, 3) := by decide +kernel
theorem dX11_mirror_95 : decode cX11_mirror 95 = .ok (.aload_n 0, 1) := by decide +kernel
theorem dX11_mirror_96 : decode cX11_mirror 96 = .ok (.getfield 13, 3) := by decide +kernel
theorem dX11_mirror_99 : decode cX11_mirror 99 = .ok (.iload_n 1, 1) := by decide +kernel
theorem dX11_mirror_100 : decode cX11_mirror 100 = .ok (.iaload, 1) := by decide +kernel
theorem dX11_mirror_101 : decode cX11_mirror 101 = .ok (.iastore, 1) := by decide +kernel
theorem dX11_mirror_102 : decode cX11_mirror 102 = .ok (.aload_n 0, 1) := by decide +kernel
theorem dX11_mirror_103 : decode cX11_mirror 103 = .ok (.dup, 1) := by decide +kernel
theorem dX11_mirror_104 : decode cX11_mirror 104 = .ok (.getfield 39, 3) := by decide +kernel
theorem dX11_mirror_107 : decode cX11_mirror 107 = .ok (.iconst 1, 1) := by decide +kernel
theorem dX11_mirror_108 : decode cX11_mirror 108 = .ok (.iadd, 1) := by decide +kernel
theorem dX11_mirror_109 : decode cX11_mirror 109 = .ok (.putfield 39, 3) := by decide +kernel
theorem dX11_mirror_112 : decode cX11_mirror 112 = .ok (.aload_n 0, 1) := by decide +kernel
theorem dX11_mirror_113 : decode cX11_mirror 113 = .ok (.getfield 39, 3) := by decide +kernel
theorem dX11_mirror_116 : decode cX11_mirror 116 = .ok (.iconst 1, 1) := by decide +kernel
theorem dX11_mirror_117 : decode cX11_mirror 117 = .ok (.isub, 1) := by decide +kernel
theorem dX11_mirror_118 : decode cX11_mirror 118 = .ok (.ireturn, 1) := by decide +kernel
theorem dX11_change_0 : decode cX11_change 0 = .ok (.aload_n 0, 1) := by decide +kernel
theorem dX11_change_1 : decode cX11_change 1 = .ok (.aload_n 0, 1) := by decide +kernel
theorem dX11_change_2 : decode cX11_change 2 = .ok (.iload_n 1, 1) := by decide +kernel
theorem dX11_change_3 : decode cX11_change 3 = .ok (.iload_n 2, 1) := by decide +kernel
theorem dX11_change_4 : decode cX11_change 4 = .ok (.invokevirtual 71, 3) := by decide +kernel
theorem dX11_change_7 : decode cX11_change 7 = .ok (.ifCond .ne 7, 3) := by decide +kernel
theorem dX11_change_10 : decode cX11_change 10 = .ok (.iconst 1, 1) := by decide +kernel
theorem dX11_change_11 : decode cX11_change 11 = .ok (.goto 15, 3) := by decide +kernel
theorem dX11_change_14 : decode cX11_change 14 = .ok (.iload_n 3, 1) := by decide +kernel
theorem dX11_change_15 : decode cX11_change 15 = .ok (.invokestatic 50, 3) := by decide +kernel
theorem dX11_change_18 : decode cX11_change 18 = .ok (.ifCond .ne 7, 3) := by decide +kernel
theorem dX11_change_21 : decode cX11_change 21 = .ok (.iconst 2, 1) := by decide +kernel
theorem dX11_change_22 : decode cX11_change 22 = .ok (.goto 4, 3) := by decide +kernel
theorem dX11_change_25 : decode cX11_change 25 = .ok (.iconst 0, 1) := by decide +kernel
theorem dX11_change_26 : decode cX11_change 26 = .ok (.invokevirtual 57, 3) := by decide +kernel
theorem dX11_change_29 : decode cX11_change 29 = .ok (.ifCond .eq 5, 3) := by decide +kernel
theorem dX11_change_32 : decode cX11_change 32 = .ok (.iconst 0, 1) := by decide +kernel
theorem dX11_change_33 : decode cX11_change 33 = .ok (.ireturn, 1) := by decide +kernel
theorem dX11_change_34 : decode cX11_change 34 = .ok (.aload_n 0, 1) := by decide +kernel
theorem dX11_change_35 : decode cX11_change 35 = .ok (.getfield 7, 3) := by decide +kernel
theorem dX11_change_38 : decode cX11_change 38 = .ok (.bipush 64, 2) := by decide +kernel
theorem dX11_change_40 : decode cX11_change 40 = .ok (.iload_n 1, 1) := by decide +kernel
theorem dX11_change_41 : decode cX11_change 41 = .ok (.imul, 1) := by decide +kernel
theorem dX11_change_42 : decode cX11_change 42 = .ok (.iload_n 2, 1) := by decide +kernel
theorem dX11_change_43 : decode cX11_change 43 = .ok (.iadd, 1) := by decide +kernel
theorem dX11_change_44 : decode cX11_change 44 = .ok (.caload, 1) := by decide +kernel
theorem dX11_change_45 : decode cX11_change 45 = .ok (.istore 4, 2) := by decide +kernel
theorem dX11_change_47 : decode cX11_change 47 = .ok (.aload_n 0, 1) := by decide +kernel
theorem dX11_change_48 : decode cX11_change 48 = .ok (.getfield 7, 3) := by decide +kernel
theorem dX11_change_51 : decode cX11_change 51 = .ok (.bipush 64, 2) := by decide +kernel
theorem dX11_change_53 : decode cX11_change 53 = .ok (.iload_n 1, 1) := by decide +kernel
theorem dX11_change_54 : decode cX11_change 54 = .ok (.imul, 1) := by decide +kernel
theorem dX11_change_55 : decode cX11_change 55 = .ok (.iload_n 2, 1) := by decide +kernel
theorem dX11_change_56 : decode cX11_change 56 = .ok (.iadd, 1) := by decide +kernel
theorem dX11_change_57 : decode cX11_change 57 = .ok (.iload_n 3, 1) := by decide +kernel
theorem dX11_change_58 : decode cX11_change 58 = .ok (.castore, 1) := by decide +kernel
theorem dX11_change_59 : decode cX11_change 59 = .ok (.iload 4, 2) := by decide +kernel
theorem dX11_change_61 : decode cX11_change 61 = .ok (.ireturn, 1) := by decide +kernel
theorem dX11_keepRanks_0 : decode cX11_keepRanks 0 = .ok (.iconst 0, 1) := by decide +kernel
theorem dX11_keepRanks_1 : decode cX11_keepRanks 1 = .ok (.istore_n 2, 1) := by decide +kernel
theorem dX11_keepRanks_2 : decode cX11_keepRanks 2 = .ok (.iload_n 2, 1) := by decide +kernel
theorem dX11_keepRanks_3 : decode cX11_keepRanks 3 = .ok (.aload_n 0, 1) := by decide +kernel
theorem dX11_keepRanks_4 : decode cX11_keepRanks 4 = .ok (.getfield 13, 3) := by decide +kernel
theorem dX11_keepRanks_7 : decode cX11_keepRanks 7 = .ok (.iload_n 1, 1) := by decide +kernel
theorem dX11_keepRanks_8 : decode cX11_keepRanks 8 = .ok (.iaload, 1) := by decide +kernel
theorem dX11_keepRanks_9 : decode cX11_keepRanks 9 = .ok (.if_icmp .ge 21, 3) := by decide +kernel
theorem dX11_keepRanks_12 : decode cX11_keepRanks 12 = .ok (.aload_n 0, 1) := by decide +kernel
theorem dX11_keepRanks_13 : decode cX11_keepRanks 13 = .ok (.getfield 26, 3) := by decide +kernel
theorem dX11_keepRanks_16 : decode cX11_keepRanks 16 = .ok (.iload_n 2, 1) := by decide +kernel
theorem dX11_keepRanks_17 : decode cX11_keepRanks 17 = .ok (.aload_n 0, 1) := by decide +kernel
theorem dX11_keepRanks_18 : decode cX11_keepRanks 18 = .ok (.iload_n 1, 1) := by decide +kernel
theorem dX11_keepRanks_19 : decode cX11_keepRanks 19 = .ok (.iload_n 2, 1) := by decide +kernel
theorem dX11_keepRanks_20 : decode cX11_keepRanks 20 = .ok (.invokevirtual 78, 3) := by decide +kernel
theorem dX11_keepRanks_23 : decode cX11_keepRanks 23 = .ok (.iastore, 1) := by decide +kernel
theorem dX11_keepRanks_24 : decode cX11_keepRanks 24 = .ok (.iinc 2 1, 3) := by decide +kernel
theorem dX11_keepRanks_27 : decode cX11_keepRanks 27 = .ok (.goto (-25), 3) := by decide +kernel
theorem dX11_keepRanks_30 : decode cX11_keepRanks 30 = .ok (.return_, 1) := by decide +kernel
theorem dX11_ahead_0 : decode cX11_ahead 0 = .ok (.aload_n 0, 1) := by decide +kernel
theorem dX11_ahead_1 : decode cX11_ahead 1 = .ok (.aload_n 0, 1) := by decide +kernel
theorem dX11_ahead_2 : decode cX11_ahead 2 = .ok (.iload_n 1, 1) := by decide +kernel
theorem dX11_ahead_3 : decode cX11_ahead 3 = .ok (.invokevirtual 46, 3) := by decide +kernel
theorem dX11_ahead_6 : decode cX11_ahead 6 = .ok (.ifCond .ne 7, 3) := by decide +kernel
theorem dX11_ahead_9 : decode cX11_ahead 9 = .ok (.iconst 1, 1) := by decide +kernel
theorem dX11_ahead_10 : decode cX11_ahead 10 = .ok (.goto 30, 3) := by decide +kernel
theorem dX11_ahead_13 : decode cX11_ahead 13 = .ok (.iload_n 2, 1) := by decide +kernel
theorem dX11_ahead_14 : decode cX11_ahead 14 = .ok (.invokestatic 50, 3) := by decide +kernel
theorem dX11_ahead_17 : decode cX11_ahead 17 = .ok (.ifCond .ne 7, 3) := by decide +kernel
theorem dX11_ahead_20 : decode cX11_ahead 20 = .ok (.iconst 2, 1) := by decide +kernel
theorem dX11_ahead_21 : decode cX11_ahead 21 = .ok (.goto 19, 3) := by decide +kernel
theorem dX11_ahead_24 : decode cX11_ahead 24 = .ok (.aload_n 0, 1) := by decide +kernel
theorem dX11_ahead_25 : decode cX11_ahead 25 = .ok (.getfield 13, 3) := by decide +kernel
theorem dX11_ahead_28 : decode cX11_ahead 28 = .ok (.iload_n 1, 1) := by decide +kernel
theorem dX11_ahead_29 : decode cX11_ahead 29 = .ok (.iaload, 1) := by decide +kernel
theorem dX11_ahead_30 : decode cX11_ahead 30 = .ok (.bipush 64, 2) := by decide +kernel
theorem dX11_ahead_32 : decode cX11_ahead 32 = .ok (.if_icmp .ne 7, 3) := by decide +kernel
theorem dX11_ahead_35 : decode cX11_ahead 35 = .ok (.iconst 3, 1) := by decide +kernel
theorem dX11_ahead_36 : decode cX11_ahead 36 = .ok (.goto 4, 3) := by decide +kernel
theorem dX11_ahead_39 : decode cX11_ahead 39 = .ok (.iconst 0, 1) := by decide +kernel
theorem dX11_ahead_40 : decode cX11_ahead 40 = .ok (.invokevirtual 57, 3) := by decide +kernel
theorem dX11_ahead_43 : decode cX11_ahead 43 = .ok (.ifCond .eq 5, 3) := by decide +kernel
theorem dX11_ahead_46 : decode cX11_ahead 46 = .ok (.iconst 0, 1) := by decide +kernel
theorem dX11_ahead_47 : decode cX11_ahead 47 = .ok (.ireturn, 1) := by decide +kernel
theorem dX11_ahead_48 : decode cX11_ahead 48 = .ok (.aload_n 0, 1) := by decide +kernel
theorem dX11_ahead_49 : decode cX11_ahead 49 = .ok (.iload_n 1, 1) := by decide +kernel
theorem dX11_ahead_50 : decode cX11_ahead 50 = .ok (.invokevirtual 82, 3) := by decide +kernel
theorem dX11_ahead_53 : decode cX11_ahead 53 = .ok (.aload_n 0, 1) := by decide +kernel
theorem dX11_ahead_54 : decode cX11_ahead 54 = .ok (.getfield 13, 3) := by decide +kernel
theorem dX11_ahead_57 : decode cX11_ahead 57 = .ok (.iload_n 1, 1) := by decide +kernel
theorem dX11_ahead_58 : decode cX11_ahead 58 = .ok (.iaload, 1) := by decide +kernel
theorem dX11_ahead_59 : decode cX11_ahead 59 = .ok (.istore_n 3, 1) := by decide +kernel
theorem dX11_ahead_60 : decode cX11_ahead 60 = .ok (.iload_n 3, 1) := by decide +kernel
theorem dX11_ahead_61 : decode cX11_ahead 61 = .ok (.ifCond .le 33, 3) := by decide +kernel
theorem dX11_ahead_64 : decode cX11_ahead 64 = .ok (.aload_n 0, 1) := by decide +kernel
theorem dX11_ahead_65 : decode cX11_ahead 65 = .ok (.getfield 7, 3) := by decide +kernel
theorem dX11_ahead_68 : decode cX11_ahead 68 = .ok (.bipush 64, 2) := by decide +kernel
theorem dX11_ahead_70 : decode cX11_ahead 70 = .ok (.iload_n 1, 1) := by decide +kernel
theorem dX11_ahead_71 : decode cX11_ahead 71 = .ok (.imul, 1) := by decide +kernel
theorem dX11_ahead_72 : decode cX11_ahead 72 = .ok (.iload_n 3, 1) := by decide +kernel
theorem dX11_ahead_73 : decode cX11_ahead 73 = .ok (.iadd, 1) := by decide +kernel
theorem dX11_ahead_74 : decode cX11_ahead 74 = .ok (.aload_n 0, 1) := by decide +kernel
theorem dX11_ahead_75 : decode cX11_ahead 75 = .ok (.getfield 7, 3) := by decide +kernel
theorem dX11_ahead_78 : decode cX11_ahead 78 = .ok (.bipush 64, 2) := by decide +kernel
theorem dX11_ahead_80 : decode cX11_ahead 80 = .ok (.iload_n 1, 1) := by decide +kernel
theorem dX11_ahead_81 : decode cX11_ahead 81 = .ok (.imul, 1) := by decide +kernel
theorem dX11_ahead_82 : decode cX11_ahead 82 = .ok (.iload_n 3, 1) := by decide +kernel
theorem dX11_ahead_83 : decode cX11_ahead 83 = .ok (.iadd, 1) := by decide +kernel
theorem dX11_ahead_84 : decode cX11_ahead 84 = .ok (.iconst 1, 1) := by decide +kernel
theorem dX11_ahead_85 : decode cX11_ahead 85 = .ok (.isub, 1) := by decide +kernel
theorem dX11_ahead_86 : decode cX11_ahead 86 = .ok (.caload, 1) := by decide +kernel
theorem dX11_ahead_87 : decode cX11_ahead 87 = .ok (.castore, 1) := by decide +kernel
theorem dX11_ahead_88 : decode cX11_ahead 88 = .ok (.iinc 3 (-1), 3) := by decide +kernel
theorem dX11_ahead_91 : decode cX11_ahead 91 = .ok (.goto (-31), 3) := by decide +kernel
theorem dX11_ahead_94 : decode cX11_ahead 94 = .ok (.aload_n 0, 1) := by decide +kernel
theorem dX11_ahead_95 : decode cX11_ahead 95 = .ok (.getfield 7, 3) := by decide +kernel
theorem dX11_ahead_98 : decode cX11_ahead 98 = .ok (.bipush 64, 2) := by decide +kernel
theorem dX11_ahead_100 : decode cX11_ahead 100 = .ok (.iload_n 1, 1) := by decide +kernel
theorem dX11_ahead_101 : decode cX11_ahead 101 = .ok (.imul, 1) := by decide +kernel
theorem dX11_ahead_102 : decode cX11_ahead 102 = .ok (.iconst 0, 1) := by decide +kernel
theorem dX11_ahead_103 : decode cX11_ahead 103 = .ok (.iadd, 1) := by decide +kernel
theorem dX11_ahead_104 : decode cX11_ahead 104 = .ok (.iload_n 2, 1) := by decide +kernel
theorem dX11_ahead_105 : decode cX11_ahead 105 = .ok (.castore, 1) := by decide +kernel
theorem dX11_ahead_106 : decode cX11_ahead 106 = .ok (.aload_n 0, 1) := by decide +kernel
theorem dX11_ahead_107 : decode cX11_ahead 107 = .ok (.getfield 13, 3) := by decide +kernel
theorem dX11_ahead_110 : decode cX11_ahead 110 = .ok (.iload_n 1, 1) := by decide +kernel
theorem dX11_ahead_111 : decode cX11_ahead 111 = .ok (.dup2, 1) := by decide +kernel
theorem dX11_ahead_112 : decode cX11_ahead 112 = .ok (.iaload, 1) := by decide +kernel
theorem dX11_ahead_113 : decode cX11_ahead 113 = .ok (.iconst 1, 1) := by decide +kernel
theorem dX11_ahead_114 : decode cX11_ahead 114 = .ok (.iadd, 1) := by decide +kernel
theorem dX11_ahead_115 : decode cX11_ahead 115 = .ok (.iastore, 1) := by decide +kernel
theorem dX11_ahead_116 : decode cX11_ahead 116 = .ok (.iconst 0, 1) := by decide +kernel
theorem dX11_ahead_117 : decode cX11_ahead 117 = .ok (.istore_n 3, 1) := by decide +kernel
theorem dX11_ahead_118 : decode cX11_ahead 118 = .ok (.iconst 1, 1) := by decide +kernel
theorem dX11_ahead_119 : decode cX11_ahead 119 = .ok (.istore 4, 2) := by decide +kernel
theorem dX11_ahead_121 : decode cX11_ahead 121 = .ok (.iload 4, 2) := by decide +kernel
theorem dX11_ahead_123 : decode cX11_ahead 123 = .ok (.aload_n 0, 1) := by decide +kernel
theorem dX11_ahead_124 : decode cX11_ahead 124 = .ok (.getfield 13, 3) := by decide +kernel
theorem dX11_ahead_127 : decode cX11_ahead 127 = .ok (.iload_n 1, 1) := by decide +kernel
theorem dX11_ahead_128 : decode cX11_ahead 128 = .ok (.iaload, 1) := by decide +kernel
theorem dX11_ahead_129 : decode cX11_ahead 129 = .ok (.if_icmp .ge 36, 3) := by decide +kernel
theorem dX11_ahead_132 : decode cX11_ahead 132 = .ok (.iload_n 3, 1) := by decide +kernel
theorem dX11_ahead_133 : decode cX11_ahead 133 = .ok (.aload_n 0, 1) := by decide +kernel
theorem dX11_ahead_134 : decode cX11_ahead 134 = .ok (.iload_n 1, 1) := by decide +kernel
theorem dX11_ahead_135 : decode cX11_ahead 135 = .ok (.iload 4, 2) := by decide +kernel
theorem dX11_ahead_137 : decode cX11_ahead 137 = .ok (.invokevirtual 78, 3) := by decide +kernel
theorem dX11_ahead_140 : decode cX11_ahead 140 = .ok (.aload_n 0, 1) := by decide +kernel
theorem dX11_ahead_141 : decode cX11_ahead 141 = .ok (.getfield 26, 3) := by decide +kernel
theorem dX11_ahead_144 : decode cX11_ahead 144 = .ok (.iload 4, 2) := by decide +kernel
theorem dX11_ahead_146 : decode cX11_ahead 146 = .ok (.iconst 1, 1) := by decide +kernel
theorem dX11_ahead_147 : decode cX11_ahead 147 = .ok (.isub, 1) := by decide +kernel
theorem dX11_ahead_148 : decode cX11_ahead 148 = .ok (.iaload, 1) := by decide +kernel
theorem dX11_ahead_149 : decode cX11_ahead 149 = .ok (.if_icmp .ne 7, 3) := by decide +kernel
theorem dX11_ahead_152 : decode cX11_ahead 152 = .ok (.iconst 0, 1) := by decide +kernel
theorem dX11_ahead_153 : decode cX11_ahead 153 = .ok (.goto 4, 3) := by decide +kernel
theorem dX11_ahead_156 : decode cX11_ahead 156 = .ok (.iconst 1, 1) := by decide +kernel
theorem dX11_ahead_157 : decode cX11_ahead 157 = .ok (.iadd, 1) := by decide +kernel
theorem dX11_ahead_158 : decode cX11_ahead 158 = .ok (.istore_n 3, 1) := by decide +kernel
theorem dX11_ahead_159 : decode cX11_ahead 159 = .ok (.iinc 4 1, 3) := by decide +kernel
theorem dX11_ahead_162 : decode cX11_ahead 162 = .ok (.goto (-41), 3) := by decide +kernel
theorem dX11_ahead_165 : decode cX11_ahead 165 = .ok (.iload_n 3, 1) := by decide +kernel
theorem dX11_ahead_166 : decode cX11_ahead 166 = .ok (.ireturn, 1) := by decide +kernel
theorem dX11_chop_0 : decode cX11_chop 0 = .ok (.aload_n 0, 1) := by decide +kernel
theorem dX11_chop_1 : decode cX11_chop 1 = .ok (.aload_n 0, 1) := by decide +kernel
theorem dX11_chop_2 : decode cX11_chop 2 = .ok (.iload_n 1, 1) := by decide +kernel
theorem dX11_chop_3 : decode cX11_chop 3 = .ok (.invokevirtual 46, 3) := by decide +kernel
theorem dX11_chop_6 : decode cX11_chop 6 = .ok (.ifCond .ne 7, 3) := by decide +kernel
theorem dX11_chop_9 : decode cX11_chop 9 = .ok (.iconst 1, 1) := by decide +kernel
theorem dX11_chop_10 : decode cX11_chop 10 = .ok (.goto 17, 3) := by decide +kernel
theorem dX11_chop_13 : decode cX11_chop 13 = .ok (.aload_n 0, 1) := by decide +kernel
theorem dX11_chop_14 : decode cX11_chop 14 = .ok (.getfield 13, 3) := by decide +kernel
theorem dX11_chop_17 : decode cX11_chop 17 = .ok (.iload_n 1, 1) := by decide +kernel
theorem dX11_chop_18 : decode cX11_chop 18 = .ok (.iaload, 1) := by decide +kernel
theorem dX11_chop_19 : decode cX11_chop 19 = .ok (.ifCond .ne 7, 3) := by decide +kernel
theorem dX11_chop_22 : decode cX11_chop 22 = .ok (.iconst 2, 1) := by decide +kernel
theorem dX11_chop_23 : decode cX11_chop 23 = .ok (.goto 4, 3) := by decide +kernel
theorem dX11_chop_26 : decode cX11_chop 26 = .ok (.iconst 0, 1) := by decide +kernel
theorem dX11_chop_27 : decode cX11_chop 27 = .ok (.invokevirtual 57, 3) := by decide +kernel
theorem dX11_chop_30 : decode cX11_chop 30 = .ok (.ifCond .eq 5, 3) := by decide +kernel
theorem dX11_chop_33 : decode cX11_chop 33 = .ok (.iconst 0, 1) := by decide +kernel
theorem dX11_chop_34 : decode cX11_chop 34 = .ok (.ireturn, 1) := by decide +kernel
theorem dX11_chop_35 : decode cX11_chop 35 = .ok (.aload_n 0, 1) := by decide +kernel
theorem dX11_chop_36 : decode cX11_chop 36 = .ok (.iload_n 1, 1) := by decide +kernel
theorem dX11_chop_37 : decode cX11_chop 37 = .ok (.invokevirtual 82, 3) := by decide +kernel
theorem dX11_chop_40 : decode cX11_chop 40 = .ok (.aload_n 0, 1) := by decide +kernel
theorem dX11_chop_41 : decode cX11_chop 41 = .ok (.getfield 13, 3) := by decide +kernel
theorem dX11_chop_44 : decode cX11_chop 44 = .ok (.iload_n 1, 1) := by decide +kernel
theorem dX11_chop_45 : decode cX11_chop 45 = .ok (.dup2, 1) := by decide +kernel
theorem dX11_chop_46 : decode cX11_chop 46 = .ok (.iaload, 1) := by decide +kernel
theorem dX11_chop_47 : decode cX11_chop 47 = .ok (.iconst 1, 1) := by decide +kernel
theorem dX11_chop_48 : decode cX11_chop 48 = .ok (.isub, 1) := by decide +kernel
theorem dX11_chop_49 : decode cX11_chop 49 = .ok (.iastore, 1) := by decide +kernel
theorem dX11_chop_50 : decode cX11_chop 50 = .ok (.iconst 0, 1) := by decide +kernel
theorem dX11_chop_51 : decode cX11_chop 51 = .ok (.istore_n 2, 1) := by decide +kernel
theorem dX11_chop_52 : decode cX11_chop 52 = .ok (.iload_n 2, 1) := by decide +kernel
theorem dX11_chop_53 : decode cX11_chop 53 = .ok (.aload_n 0, 1) := by decide +kernel
theorem dX11_chop_54 : decode cX11_chop 54 = .ok (.getfield 13, 3) := by decide +kernel
theorem dX11_chop_57 : decode cX11_chop 57 = .ok (.iload_n 1, 1) := by decide +kernel
theorem dX11_chop_58 : decode cX11_chop 58 = .ok (.iaload, 1) := by decide +kernel
theorem dX11_chop_59 : decode cX11_chop 59 = .ok (.if_icmp .ge 33, 3) := by decide +kernel
theorem dX11_chop_62 : decode cX11_chop 62 = .ok (.aload_n 0, 1) := by decide +kernel
theorem dX11_chop_63 : decode cX11_chop 63 = .ok (.getfield 7, 3) := by decide +kernel
theorem dX11_chop_66 : decode cX11_chop 66 = .ok (.bipush 64, 2) := by decide +kernel
theorem dX11_chop_68 : decode cX11_chop 68 = .ok (.iload_n 1, 1) := by decide +kernel
theorem dX11_chop_69 : decode cX11_chop 69 = .ok (.imul, 1) := by decide +kernel
theorem dX11_chop_70 : decode cX11_chop 70 = .ok (.iload_n 2, 1) := by decide +kernel
theorem dX11_chop_71 : decode cX11_chop 71 = .ok (.iadd, 1) := by decide +kernel
theorem dX11_chop_72 : decode cX11_chop 72 = .ok (.aload_n 0, 1) := by decide +kernel
theorem dX11_chop_73 : decode cX11_chop 73 = .ok (.getfield 7, 3) := by decide +kernel
theorem dX11_chop_76 : decode cX11_chop 76 = .ok (.bipush 64, 2) := by decide +kernel
theorem dX11_chop_78 : decode cX11_chop 78 = .ok (.iload_n 1, 1) := by decide +kernel
theorem dX11_chop_79 : decode cX11_chop 79 = .ok (.imul, 1) := by decide +kernel
theorem dX11_chop_80 : decode cX11_chop 80 = .ok (.iload_n 2, 1) := by decide +kernel
theorem dX11_chop_81 : decode cX11_chop 81 = .ok (.iadd, 1) := by decide +kernel
theorem dX11_chop_82 : decode cX11_chop 82 = .ok (.iconst 1, 1) := by decide +kernel
theorem dX11_chop_83 : decode cX11_chop 83 = .ok (.iadd, 1) := by decide +kernel
theorem dX11_chop_84 : decode cX11_chop 84 = .ok (.caload, 1) := by decide +kernel
theorem dX11_chop_85 : decode cX11_chop 85 = .ok (.castore, 1) := by decide +kernel
theorem dX11_chop_86 : decode cX11_chop 86 = .ok (.iinc 2 1, 3) := by decide +kernel
theorem dX11_chop_89 : decode cX11_chop 89 = .ok (.goto (-37), 3) := by decide +kernel
theorem dX11_chop_92 : decode cX11_chop 92 = .ok (.iconst 0, 1) := by decide +kernel
theorem dX11_chop_93 : decode cX11_chop 93 = .ok (.istore_n 2, 1) := by decide +kernel
theorem dX11_chop_94 : decode cX11_chop 94 = .ok (.iconst 0, 1) := by decide +kernel
theorem dX11_chop_95 : decode cX11_chop 95 = .ok (.istore_n 3, 1) := by decide +kernel
theorem dX11_chop_96 : decode cX11_chop 96 = .ok (.iload_n 3, 1) := by decide +kernel
theorem dX11_chop_97 : decode cX11_chop 97 = .ok (.aload_n 0, 1) := by decide +kernel
theorem dX11_chop_98 : decode cX11_chop 98 = .ok (.getfield 13, 3) := by decide +kernel
theorem dX11_chop_101 : decode cX11_chop 101 = .ok (.iload_n 1, 1) := by decide +kernel
theorem dX11_chop_102 : decode cX11_chop 102 = .ok (.iaload, 1) := by decide +kernel
theorem dX11_chop_103 : decode cX11_chop 103 = .ok (.if_icmp .ge 34, 3) := by decide +kernel
theorem dX11_chop_106 : decode cX11_chop 106 = .ok (.iload_n 2, 1) := by decide +kernel
theorem dX11_chop_107 : decode cX11_chop 107 = .ok (.aload_n 0, 1) := by decide +kernel
theorem dX11_chop_108 : decode cX11_chop 108 = .ok (.iload_n 1, 1) := by decide +kernel
theorem dX11_chop_109 : decode cX11_chop 109 = .ok (.iload_n 3, 1) := by decide +kernel
theorem dX11_chop_110 : decode cX11_chop 110 = .ok (.invokevirtual 78, 3) := by decide +kernel
theorem dX11_chop_113 : decode cX11_chop 113 = .ok (.aload_n 0, 1) := by decide +kernel
theorem dX11_chop_114 : decode cX11_chop 114 = .ok (.getfield 26, 3) := by decide +kernel
theorem dX11_chop_117 : decode cX11_chop 117 = .ok (.iload_n 3, 1) := by decide +kernel
theorem dX11_chop_118 : decode cX11_chop 118 = .ok (.iconst 1, 1) := by decide +kernel
theorem dX11_chop_119 : decode cX11_chop 119 = .ok (.iadd, 1) := by decide +kernel
theorem dX11_chop_120 : decode cX11_chop 120 = .ok (.iaload, 1) := by decide +kernel
theorem dX11_chop_121 : decode cX11_chop 121 = .ok (.if_icmp .ne 7, 3) := by decide +kernel
theorem dX11_chop_124 : decode cX11_chop 124 = .ok (.iconst 0, 1) := by decide +kernel
theorem dX11_chop_125 : decode cX11_chop 125 = .ok (.goto 4, 3) := by decide +kernel
theorem dX11_chop_128 : decode cX11_chop 128 = .ok (.iconst 1, 1) := by decide +kernel
theorem dX11_chop_129 : decode cX11_chop 129 = .ok (.iadd, 1) := by decide +kernel
theorem dX11_chop_130 : decode cX11_chop 130 = .ok (.istore_n 2, 1) := by decide +kernel
theorem dX11_chop_131 : decode cX11_chop 131 = .ok (.iinc 3 1, 3) := by decide +kernel
theorem dX11_chop_134 : decode cX11_chop 134 = .ok (.goto (-38), 3) := by decide +kernel
theorem dX11_chop_137 : decode cX11_chop 137 = .ok (.iload_n 2, 1) := by decide +kernel
theorem dX11_chop_138 : decode cX11_chop 138 = .ok (.ireturn, 1) := by decide +kernel
theorem dX11_compared_0 : decode cX11_compared 0 = .ok (.aload_n 0, 1) := by decide +kernel
theorem dX11_compared_1 : decode cX11_compared 1 = .ok (.getfield 13, 3) := by decide +kernel
theorem dX11_compared_4 : decode cX11_compared 4 = .ok (.iload_n 1, 1) := by decide +kernel
theorem dX11_compared_5 : decode cX11_compared 5 = .ok (.iaload, 1) := by decide +kernel
theorem dX11_compared_6 : decode cX11_compared 6 = .ok (.istore 5, 2) := by decide +kernel
theorem dX11_compared_8 : decode cX11_compared 8 = .ok (.iconst 0, 1) := by decide +kernel
theorem dX11_compared_9 : decode cX11_compared 9 = .ok (.istore 6, 2) := by decide +kernel
theorem dX11_compared_11 : decode cX11_compared 11 = .ok (.iload 6, 2) := by decide +kernel
theorem dX11_compared_13 : decode cX11_compared 13 = .ok (.iload 4, 2) := by decide +kernel
theorem dX11_compared_15 : decode cX11_compared 15 = .ok (.if_icmp .ge 132, 3) := by decide +kernel
theorem dX11_compared_18 : decode cX11_compared 18 = .ok (.iload_n 2, 1) := by decide +kernel
theorem dX11_compared_19 : decode cX11_compared 19 = .ok (.iload 6, 2) := by decide +kernel
theorem dX11_compared_21 : decode cX11_compared 21 = .ok (.iadd, 1) := by decide +kernel
theorem dX11_compared_22 : decode cX11_compared 22 = .ok (.iload 5, 2) := by decide +kernel
theorem dX11_compared_24 : decode cX11_compared 24 = .ok (.if_icmp .ge 12, 3) := by decide +kernel
theorem dX11_compared_27 : decode cX11_compared 27 = .ok (.iload_n 3, 1) := by decide +kernel
theorem dX11_compared_28 : decode cX11_compared 28 = .ok (.iload 6, 2) := by decide +kernel
theorem dX11_compared_30 : decode cX11_compared 30 = .ok (.iadd, 1) := by decide +kernel
theorem dX11_compared_31 : decode cX11_compared 31 = .ok (.iload 5, 2) := by decide +kernel
theorem dX11_compared_33 : decode cX11_compared 33 = .ok (.if_icmp .lt 40, 3) := by decide +kernel
theorem dX11_compared_36 : decode cX11_compared 36 = .ok (.iload_n 2, 1) := by decide +kernel
theorem dX11_compared_37 : decode cX11_compared 37 = .ok (.iload 6, 2) := by decide +kernel
theorem dX11_compared_39 : decode cX11_compared 39 = .ok (.iadd, 1) := by decide +kernel
theorem dX11_compared_40 : decode cX11_compared 40 = .ok (.iload 5, 2) := by decide +kernel
theorem dX11_compared_42 : decode cX11_compared 42 = .ok (.if_icmp .lt 16, 3) := by decide +kernel
theorem dX11_compared_45 : decode cX11_compared 45 = .ok (.iload_n 3, 1) := by decide +kernel
theorem dX11_compared_46 : decode cX11_compared 46 = .ok (.iload 6, 2) := by decide +kernel
theorem dX11_compared_48 : decode cX11_compared 48 = .ok (.iadd, 1) := by decide +kernel
theorem dX11_compared_49 : decode cX11_compared 49 = .ok (.iload 5, 2) := by decide +kernel
theorem dX11_compared_51 : decode cX11_compared 51 = .ok (.if_icmp .lt 7, 3) := by decide +kernel
theorem dX11_compared_54 : decode cX11_compared 54 = .ok (.iconst 0, 1) := by decide +kernel
theorem dX11_compared_55 : decode cX11_compared 55 = .ok (.goto 17, 3) := by decide +kernel
theorem dX11_compared_58 : decode cX11_compared 58 = .ok (.iload_n 2, 1) := by decide +kernel
theorem dX11_compared_59 : decode cX11_compared 59 = .ok (.iload 6, 2) := by decide +kernel
theorem dX11_compared_61 : decode cX11_compared 61 = .ok (.iadd, 1) := by decide +kernel
theorem dX11_compared_62 : decode cX11_compared 62 = .ok (.iload 5, 2) := by decide +kernel
theorem dX11_compared_64 : decode cX11_compared 64 = .ok (.if_icmp .lt 7, 3) := by decide +kernel
theorem dX11_compared_67 : decode cX11_compared 67 = .ok (.iconst (-1), 1) := by decide +kernel
theorem dX11_compared_68 : decode cX11_compared 68 = .ok (.goto 4, 3) := by decide +kernel
theorem dX11_compared_71 : decode cX11_compared 71 = .ok (.iconst 1, 1) := by decide +kernel
theorem dX11_compared_72 : decode cX11_compared 72 = .ok (.ireturn, 1) := by decide +kernel
theorem dX11_compared_73 : decode cX11_compared 73 = .ok (.aload_n 0, 1) := by decide +kernel
theorem dX11_compared_74 : decode cX11_compared 74 = .ok (.getfield 7, 3) := by decide +kernel
theorem dX11_compared_77 : decode cX11_compared 77 = .ok (.bipush 64, 2) := by decide +kernel
theorem dX11_compared_79 : decode cX11_compared 79 = .ok (.iload_n 1, 1) := by decide +kernel
theorem dX11_compared_80 : decode cX11_compared 80 = .ok (.imul, 1) := by decide +kernel
theorem dX11_compared_81 : decode cX11_compared 81 = .ok (.iload_n 2, 1) := by decide +kernel
theorem dX11_compared_82 : decode cX11_compared 82 = .ok (.iadd, 1) := by decide +kernel
theorem dX11_compared_83 : decode cX11_compared 83 = .ok (.iload 6, 2) := by decide +kernel
theorem dX11_compared_85 : decode cX11_compared 85 = .ok (.iadd, 1) := by decide +kernel
theorem dX11_compared_86 : decode cX11_compared 86 = .ok (.caload, 1) := by decide +kernel
theorem dX11_compared_87 : decode cX11_compared 87 = .ok (.aload_n 0, 1) := by decide +kernel
theorem dX11_compared_88 : decode cX11_compared 88 = .ok (.getfield 7, 3) := by decide +kernel
theorem dX11_compared_91 : decode cX11_compared 91 = .ok (.bipush 64, 2) := by decide +kernel
theorem dX11_compared_93 : decode cX11_compared 93 = .ok (.iload_n 1, 1) := by decide +kernel
theorem dX11_compared_94 : decode cX11_compared 94 = .ok (.imul, 1) := by decide +kernel
theorem dX11_compared_95 : decode cX11_compared 95 = .ok (.iload_n 3, 1) := by decide +kernel
theorem dX11_compared_96 : decode cX11_compared 96 = .ok (.iadd, 1) := by decide +kernel
theorem dX11_compared_97 : decode cX11_compared 97 = .ok (.iload 6, 2) := by decide +kernel
theorem dX11_compared_99 : decode cX11_compared 99 = .ok (.iadd, 1) := by decide +kernel
theorem dX11_compared_100 : decode cX11_compared 100 = .ok (.caload, 1) := by decide +kernel
theorem dX11_compared_101 : decode cX11_compared 101 = .ok (.if_icmp .eq 40, 3) := by decide +kernel
theorem dX11_compared_104 : decode cX11_compared 104 = .ok (.aload_n 0, 1) := by decide +kernel
theorem dX11_compared_105 : decode cX11_compared 105 = .ok (.getfield 7, 3) := by decide +kernel
theorem dX11_compared_108 : decode cX11_compared 108 = .ok (.bipush 64, 2) := by decide +kernel
theorem dX11_compared_110 : decode cX11_compared 110 = .ok (.iload_n 1, 1) := by decide +kernel
theorem dX11_compared_111 : decode cX11_compared 111 = .ok (.imul, 1) := by decide +kernel
theorem dX11_compared_112 : decode cX11_compared 112 = .ok (.iload_n 2, 1) := by decide +kernel
theorem dX11_compared_113 : decode cX11_compared 113 = .ok (.iadd, 1) := by decide +kernel
theorem dX11_compared_114 : decode cX11_compared 114 = .ok (.iload 6, 2) := by decide +kernel
theorem dX11_compared_116 : decode cX11_compared 116 = .ok (.iadd, 1) := by decide +kernel
theorem dX11_compared_117 : decode cX11_compared 117 = .ok (.caload, 1) := by decide +kernel
theorem dX11_compared_118 : decode cX11_compared 118 = .ok (.aload_n 0, 1) := by decide +kernel
theorem dX11_compared_119 : decode cX11_compared 119 = .ok (.getfield 7, 3) := by decide +kernel
theorem dX11_compared_122 : decode cX11_compared 122 = .ok (.bipush 64, 2) := by decide +kernel
theorem dX11_compared_124 : decode cX11_compared 124 = .ok (.iload_n 1, 1) := by decide +kernel
theorem dX11_compared_125 : decode cX11_compared 125 = .ok (.imul, 1) := by decide +kernel
theorem dX11_compared_126 : decode cX11_compared 126 = .ok (.iload_n 3, 1) := by decide +kernel
theorem dX11_compared_127 : decode cX11_compared 127 = .ok (.iadd, 1) := by decide +kernel
theorem dX11_compared_128 : decode cX11_compared 128 = .ok (.iload 6, 2) := by decide +kernel
theorem dX11_compared_130 : decode cX11_compared 130 = .ok (.iadd, 1) := by decide +kernel
theorem dX11_compared_131 : decode cX11_compared 131 = .ok (.caload, 1) := by decide +kernel
theorem dX11_compared_132 : decode cX11_compared 132 = .ok (.if_icmp .ge 7, 3) := by decide +kernel
theorem dX11_compared_135 : decode cX11_compared 135 = .ok (.iconst (-1), 1) := by decide +kernel
theorem dX11_compared_136 : decode cX11_compared 136 = .ok (.goto 4, 3) := by decide +kernel
theorem dX11_compared_139 : decode cX11_compared 139 = .ok (.iconst 1, 1) := by decide +kernel
theorem dX11_compared_140 : decode cX11_compared 140 = .ok (.ireturn, 1) := by decide +kernel
theorem dX11_compared_141 : decode cX11_compared 141 = .ok (.iinc 6 1, 3) := by decide +kernel
theorem dX11_compared_144 : decode cX11_compared 144 = .ok (.goto (-133), 3) := by decide +kernel
theorem dX11_compared_147 : decode cX11_compared 147 = .ok (.iconst 0, 1) := by decide +kernel
theorem dX11_compared_148 : decode cX11_compared 148 = .ok (.ireturn, 1) := by decide +kernel
theorem dX11_rank_0 : decode cX11_rank 0 = .ok (.iconst 0, 1) := by decide +kernel
theorem dX11_rank_1 : decode cX11_rank 1 = .ok (.istore_n 3, 1) := by decide +kernel
theorem dX11_rank_2 : decode cX11_rank 2 = .ok (.iconst 0, 1) := by decide +kernel
theorem dX11_rank_3 : decode cX11_rank 3 = .ok (.istore 4, 2) := by decide +kernel
theorem dX11_rank_5 : decode cX11_rank 5 = .ok (.iload 4, 2) := by decide +kernel
theorem dX11_rank_7 : decode cX11_rank 7 = .ok (.aload_n 0, 1) := by decide +kernel
theorem dX11_rank_8 : decode cX11_rank 8 = .ok (.getfield 13, 3) := by decide +kernel
theorem dX11_rank_11 : decode cX11_rank 11 = .ok (.iload_n 1, 1) := by decide +kernel
theorem dX11_rank_12 : decode cX11_rank 12 = .ok (.iaload, 1) := by decide +kernel
theorem dX11_rank_13 : decode cX11_rank 13 = .ok (.if_icmp .ge 30, 3) := by decide +kernel
theorem dX11_rank_16 : decode cX11_rank 16 = .ok (.iload_n 3, 1) := by decide +kernel
theorem dX11_rank_17 : decode cX11_rank 17 = .ok (.aload_n 0, 1) := by decide +kernel
theorem dX11_rank_18 : decode cX11_rank 18 = .ok (.iload_n 1, 1) := by decide +kernel
theorem dX11_rank_19 : decode cX11_rank 19 = .ok (.iload 4, 2) := by decide +kernel
theorem dX11_rank_21 : decode cX11_rank 21 = .ok (.iload_n 2, 1) := by decide +kernel
theorem dX11_rank_22 : decode cX11_rank 22 = .ok (.bipush 64, 2) := by decide +kernel
theorem dX11_rank_24 : decode cX11_rank 24 = .ok (.invokevirtual 86, 3) := by decide +kernel
theorem dX11_rank_27 : decode cX11_rank 27 = .ok (.ifCond .ge 7, 3) := by decide +kernel
theorem dX11_rank_30 : decode cX11_rank 30 = .ok (.iconst 1, 1) := by decide +kernel
theorem dX11_rank_31 : decode cX11_rank 31 = .ok (.goto 4, 3) := by decide +kernel
theorem dX11_rank_34 : decode cX11_rank 34 = .ok (.iconst 0, 1) := by decide +kernel
theorem dX11_rank_35 : decode cX11_rank 35 = .ok (.iadd, 1) := by decide +kernel
theorem dX11_rank_36 : decode cX11_rank 36 = .ok (.istore_n 3, 1) := by decide +kernel
theorem dX11_rank_37 : decode cX11_rank 37 = .ok (.iinc 4 1, 3) := by decide +kernel
theorem dX11_rank_40 : decode cX11_rank 40 = .ok (.goto (-35), 3) := by decide +kernel
theorem dX11_rank_43 : decode cX11_rank 43 = .ok (.iload_n 3, 1) := by decide +kernel
theorem dX11_rank_44 : decode cX11_rank 44 = .ok (.ireturn, 1) := by decide +kernel
theorem dX11_sorts_0 : decode cX11_sorts 0 = .ok (.iconst 0, 1) := by decide +kernel
theorem dX11_sorts_1 : decode cX11_sorts 1 = .ok (.istore_n 2, 1) := by decide +kernel
theorem dX11_sorts_2 : decode cX11_sorts 2 = .ok (.iload_n 2, 1) := by decide +kernel
theorem dX11_sorts_3 : decode cX11_sorts 3 = .ok (.aload_n 0, 1) := by decide +kernel
theorem dX11_sorts_4 : decode cX11_sorts 4 = .ok (.getfield 13, 3) := by decide +kernel
theorem dX11_sorts_7 : decode cX11_sorts 7 = .ok (.iload_n 1, 1) := by decide +kernel
theorem dX11_sorts_8 : decode cX11_sorts 8 = .ok (.iaload, 1) := by decide +kernel
theorem dX11_sorts_9 : decode cX11_sorts 9 = .ok (.if_icmp .ge 21, 3) := by decide +kernel
theorem dX11_sorts_12 : decode cX11_sorts 12 = .ok (.aload_n 0, 1) := by decide +kernel
theorem dX11_sorts_13 : decode cX11_sorts 13 = .ok (.getfield 20, 3) := by decide +kernel
theorem dX11_sorts_16 : decode cX11_sorts 16 = .ok (.aload_n 0, 1) := by decide +kernel
theorem dX11_sorts_17 : decode cX11_sorts 17 = .ok (.iload_n 1, 1) := by decide +kernel
theorem dX11_sorts_18 : decode cX11_sorts 18 = .ok (.iload_n 2, 1) := by decide +kernel
theorem dX11_sorts_19 : decode cX11_sorts 19 = .ok (.invokevirtual 78, 3) := by decide +kernel
theorem dX11_sorts_22 : decode cX11_sorts 22 = .ok (.iload_n 2, 1) := by decide +kernel
theorem dX11_sorts_23 : decode cX11_sorts 23 = .ok (.iastore, 1) := by decide +kernel
theorem dX11_sorts_24 : decode cX11_sorts 24 = .ok (.iinc 2 1, 3) := by decide +kernel
theorem dX11_sorts_27 : decode cX11_sorts 27 = .ok (.goto (-25), 3) := by decide +kernel
theorem dX11_sorts_30 : decode cX11_sorts 30 = .ok (.return_, 1) := by decide +kernel
theorem dX11_isNoRank_0 : decode cX11_isNoRank 0 = .ok (.aload_n 0, 1) := by decide +kernel
theorem dX11_isNoRank_1 : decode cX11_isNoRank 1 = .ok (.aload_n 0, 1) := by decide +kernel
theorem dX11_isNoRank_2 : decode cX11_isNoRank 2 = .ok (.iload_n 1, 1) := by decide +kernel
theorem dX11_isNoRank_3 : decode cX11_isNoRank 3 = .ok (.iload_n 2, 1) := by decide +kernel
theorem dX11_isNoRank_4 : decode cX11_isNoRank 4 = .ok (.invokevirtual 71, 3) := by decide +kernel
theorem dX11_isNoRank_7 : decode cX11_isNoRank 7 = .ok (.ifCond .eq 7, 3) := by decide +kernel
theorem dX11_isNoRank_10 : decode cX11_isNoRank 10 = .ok (.iconst 0, 1) := by decide +kernel
theorem dX11_isNoRank_11 : decode cX11_isNoRank 11 = .ok (.goto 4, 3) := by decide +kernel
theorem dX11_isNoRank_14 : decode cX11_isNoRank 14 = .ok (.iconst 1, 1) := by decide +kernel
theorem dX11_isNoRank_15 : decode cX11_isNoRank 15 = .ok (.invokevirtual 57, 3) := by decide +kernel
theorem dX11_isNoRank_18 : decode cX11_isNoRank 18 = .ok (.ireturn, 1) := by decide +kernel
theorem dX11_endAt_0 : decode cX11_endAt 0 = .ok (.aload_n 0, 1) := by decide +kernel
theorem dX11_endAt_1 : decode cX11_endAt 1 = .ok (.iload_n 1, 1) := by decide +kernel
theorem dX11_endAt_2 : decode cX11_endAt 2 = .ok (.iload_n 2, 1) := by decide +kernel
theorem dX11_endAt_3 : decode cX11_endAt 3 = .ok (.invokevirtual 90, 3) := by decide +kernel
theorem dX11_endAt_6 : decode cX11_endAt 6 = .ok (.ifCond .eq 5, 3) := by decide +kernel
theorem dX11_endAt_9 : decode cX11_endAt 9 = .ok (.iconst 0, 1) := by decide +kernel
theorem dX11_endAt_10 : decode cX11_endAt 10 = .ok (.ireturn, 1) := by decide +kernel
theorem dX11_endAt_11 : decode cX11_endAt 11 = .ok (.aload_n 0, 1) := by decide +kernel
theorem dX11_endAt_12 : decode cX11_endAt 12 = .ok (.iload_n 1, 1) := by decide +kernel
theorem dX11_endAt_13 : decode cX11_endAt 13 = .ok (.invokevirtual 93, 3) := by decide +kernel
theorem dX11_endAt_16 : decode cX11_endAt 16 = .ok (.aload_n 0, 1) := by decide +kernel
theorem dX11_endAt_17 : decode cX11_endAt 17 = .ok (.getfield 20, 3) := by decide +kernel
theorem dX11_endAt_20 : decode cX11_endAt 20 = .ok (.iload_n 2, 1) := by decide +kernel
theorem dX11_endAt_21 : decode cX11_endAt 21 = .ok (.iaload, 1) := by decide +kernel
theorem dX11_endAt_22 : decode cX11_endAt 22 = .ok (.ireturn, 1) := by decide +kernel
theorem dX11_rankOf_0 : decode cX11_rankOf 0 = .ok (.aload_n 0, 1) := by decide +kernel
theorem dX11_rankOf_1 : decode cX11_rankOf 1 = .ok (.iload_n 1, 1) := by decide +kernel
theorem dX11_rankOf_2 : decode cX11_rankOf 2 = .ok (.iload_n 2, 1) := by decide +kernel
theorem dX11_rankOf_3 : decode cX11_rankOf 3 = .ok (.invokevirtual 75, 3) := by decide +kernel
theorem dX11_rankOf_6 : decode cX11_rankOf 6 = .ok (.ifCond .eq 7, 3) := by decide +kernel
theorem dX11_rankOf_9 : decode cX11_rankOf 9 = .ok (.iconst 0, 1) := by decide +kernel
theorem dX11_rankOf_10 : decode cX11_rankOf 10 = .ok (.goto 9, 3) := by decide +kernel
theorem dX11_rankOf_13 : decode cX11_rankOf 13 = .ok (.aload_n 0, 1) := by decide +kernel
theorem dX11_rankOf_14 : decode cX11_rankOf 14 = .ok (.iload_n 1, 1) := by decide +kernel
theorem dX11_rankOf_15 : decode cX11_rankOf 15 = .ok (.iload_n 2, 1) := by decide +kernel
theorem dX11_rankOf_16 : decode cX11_rankOf 16 = .ok (.invokevirtual 78, 3) := by decide +kernel
theorem dX11_rankOf_19 : decode cX11_rankOf 19 = .ok (.ireturn, 1) := by decide +kernel
theorem dX11_isFirst_0 : decode cX11_isFirst 0 = .ok (.iconst 0, 1) := by decide +kernel
theorem dX11_isFirst_1 : decode cX11_isFirst 1 = .ok (.istore 4, 2) := by decide +kernel
theorem dX11_isFirst_3 : decode cX11_isFirst 3 = .ok (.iload 4, 2) := by decide +kernel
theorem dX11_isFirst_5 : decode cX11_isFirst 5 = .ok (.iload_n 2, 1) := by decide +kernel
theorem dX11_isFirst_6 : decode cX11_isFirst 6 = .ok (.if_icmp .ge 23, 3) := by decide +kernel
theorem dX11_isFirst_9 : decode cX11_isFirst 9 = .ok (.aload_n 0, 1) := by decide +kernel
theorem dX11_isFirst_10 : decode cX11_isFirst 10 = .ok (.iload_n 1, 1) := by decide +kernel
theorem dX11_isFirst_11 : decode cX11_isFirst 11 = .ok (.iload 4, 2) := by decide +kernel
theorem dX11_isFirst_13 : decode cX11_isFirst 13 = .ok (.iload_n 2, 1) := by decide +kernel
theorem dX11_isFirst_14 : decode cX11_isFirst 14 = .ok (.iload_n 3, 1) := by decide +kernel
theorem dX11_isFirst_15 : decode cX11_isFirst 15 = .ok (.invokevirtual 86, 3) := by decide +kernel
theorem dX11_isFirst_18 : decode cX11_isFirst 18 = .ok (.ifCond .ne 5, 3) := by decide +kernel
theorem dX11_isFirst_21 : decode cX11_isFirst 21 = .ok (.iconst 0, 1) := by decide +kernel
theorem dX11_isFirst_22 : decode cX11_isFirst 22 = .ok (.ireturn, 1) := by decide +kernel
theorem dX11_isFirst_23 : decode cX11_isFirst 23 = .ok (.iinc 4 1, 3) := by decide +kernel
theorem dX11_isFirst_26 : decode cX11_isFirst 26 = .ok (.goto (-23), 3) := by decide +kernel
theorem dX11_isFirst_29 : decode cX11_isFirst 29 = .ok (.iconst 1, 1) := by decide +kernel
theorem dX11_isFirst_30 : decode cX11_isFirst 30 = .ok (.ireturn, 1) := by decide +kernel
theorem dX11_classesBy_0 : decode cX11_classesBy 0 = .ok (.iconst 0, 1) := by decide +kernel
theorem dX11_classesBy_1 : decode cX11_classesBy 1 = .ok (.istore_n 3, 1) := by decide +kernel
theorem dX11_classesBy_2 : decode cX11_classesBy 2 = .ok (.iconst 0, 1) := by decide +kernel
theorem dX11_classesBy_3 : decode cX11_classesBy 3 = .ok (.istore 4, 2) := by decide +kernel
theorem dX11_classesBy_5 : decode cX11_classesBy 5 = .ok (.iload 4, 2) := by decide +kernel
theorem dX11_classesBy_7 : decode cX11_classesBy 7 = .ok (.aload_n 0, 1) := by decide +kernel
theorem dX11_classesBy_8 : decode cX11_classesBy 8 = .ok (.getfield 13, 3) := by decide +kernel
theorem dX11_classesBy_11 : decode cX11_classesBy 11 = .ok (.iload_n 1, 1) := by decide +kernel
theorem dX11_classesBy_12 : decode cX11_classesBy 12 = .ok (.iaload, 1) := by decide +kernel
theorem dX11_classesBy_13 : decode cX11_classesBy 13 = .ok (.if_icmp .ge 28, 3) := by decide +kernel
theorem dX11_classesBy_16 : decode cX11_classesBy 16 = .ok (.iload_n 3, 1) := by decide +kernel
theorem dX11_classesBy_17 : decode cX11_classesBy 17 = .ok (.aload_n 0, 1) := by decide +kernel
theorem dX11_classesBy_18 : decode cX11_classesBy 18 = .ok (.iload_n 1, 1) := by decide +kernel
theorem dX11_classesBy_19 : decode cX11_classesBy 19 = .ok (.iload 4, 2) := by decide +kernel
theorem dX11_classesBy_21 : decode cX11_classesBy 21 = .ok (.iload_n 2, 1) := by decide +kernel
theorem dX11_classesBy_22 : decode cX11_classesBy 22 = .ok (.invokevirtual 96, 3) := by decide +kernel
theorem dX11_classesBy_25 : decode cX11_classesBy 25 = .ok (.ifCond .eq 7, 3) := by decide +kernel
theorem dX11_classesBy_28 : decode cX11_classesBy 28 = .ok (.iconst 1, 1) := by decide +kernel
theorem dX11_classesBy_29 : decode cX11_classesBy 29 = .ok (.goto 4, 3) := by decide +kernel
theorem dX11_classesBy_32 : decode cX11_classesBy 32 = .ok (.iconst 0, 1) := by decide +kernel
theorem dX11_classesBy_33 : decode cX11_classesBy 33 = .ok (.iadd, 1) := by decide +kernel
theorem dX11_classesBy_34 : decode cX11_classesBy 34 = .ok (.istore_n 3, 1) := by decide +kernel
theorem dX11_classesBy_35 : decode cX11_classesBy 35 = .ok (.iinc 4 1, 3) := by decide +kernel
theorem dX11_classesBy_38 : decode cX11_classesBy 38 = .ok (.goto (-33), 3) := by decide +kernel
theorem dX11_classesBy_41 : decode cX11_classesBy 41 = .ok (.iload_n 3, 1) := by decide +kernel
theorem dX11_classesBy_42 : decode cX11_classesBy 42 = .ok (.ireturn, 1) := by decide +kernel
theorem dX11_classOf_0 : decode cX11_classOf 0 = .ok (.aload_n 0, 1) := by decide +kernel
theorem dX11_classOf_1 : decode cX11_classOf 1 = .ok (.aload_n 0, 1) := by decide +kernel
theorem dX11_classOf_2 : decode cX11_classOf 2 = .ok (.iload_n 1, 1) := by decide +kernel
theorem dX11_classOf_3 : decode cX11_classOf 3 = .ok (.iload_n 2, 1) := by decide +kernel
theorem dX11_classOf_4 : decode cX11_classOf 4 = .ok (.invokevirtual 71, 3) := by decide +kernel
theorem dX11_classOf_7 : decode cX11_classOf 7 = .ok (.ifCond .ne 7, 3) := by decide +kernel
theorem dX11_classOf_10 : decode cX11_classOf 10 = .ok (.iconst 1, 1) := by decide +kernel
theorem dX11_classOf_11 : decode cX11_classOf 11 = .ok (.goto 18, 3) := by decide +kernel
theorem dX11_classOf_14 : decode cX11_classOf 14 = .ok (.iload_n 3, 1) := by decide +kernel
theorem dX11_classOf_15 : decode cX11_classOf 15 = .ok (.iconst 1, 1) := by decide +kernel
theorem dX11_classOf_16 : decode cX11_classOf 16 = .ok (.bipush 64, 2) := by decide +kernel
theorem dX11_classOf_18 : decode cX11_classOf 18 = .ok (.invokestatic 42, 3) := by decide +kernel
theorem dX11_classOf_21 : decode cX11_classOf 21 = .ok (.ifCond .ne 7, 3) := by decide +kernel
theorem dX11_classOf_24 : decode cX11_classOf 24 = .ok (.iconst 2, 1) := by decide +kernel
theorem dX11_classOf_25 : decode cX11_classOf 25 = .ok (.goto 4, 3) := by decide +kernel
theorem dX11_classOf_28 : decode cX11_classOf 28 = .ok (.iconst 0, 1) := by decide +kernel
theorem dX11_classOf_29 : decode cX11_classOf 29 = .ok (.invokevirtual 57, 3) := by decide +kernel
theorem dX11_classOf_32 : decode cX11_classOf 32 = .ok (.ifCond .eq 5, 3) := by decide +kernel
theorem dX11_classOf_35 : decode cX11_classOf 35 = .ok (.iconst 0, 1) := by decide +kernel
theorem dX11_classOf_36 : decode cX11_classOf 36 = .ok (.ireturn, 1) := by decide +kernel
theorem dX11_classOf_37 : decode cX11_classOf 37 = .ok (.iconst 0, 1) := by decide +kernel
theorem dX11_classOf_38 : decode cX11_classOf 38 = .ok (.istore 4, 2) := by decide +kernel
theorem dX11_classOf_40 : decode cX11_classOf 40 = .ok (.iconst 0, 1) := by decide +kernel
theorem dX11_classOf_41 : decode cX11_classOf 41 = .ok (.istore 5, 2) := by decide +kernel
theorem dX11_classOf_43 : decode cX11_classOf 43 = .ok (.iload 5, 2) := by decide +kernel
theorem dX11_classOf_45 : decode cX11_classOf 45 = .ok (.aload_n 0, 1) := by decide +kernel
theorem dX11_classOf_46 : decode cX11_classOf 46 = .ok (.getfield 13, 3) := by decide +kernel
theorem dX11_classOf_49 : decode cX11_classOf 49 = .ok (.iload_n 1, 1) := by decide +kernel
theorem dX11_classOf_50 : decode cX11_classOf 50 = .ok (.iaload, 1) := by decide +kernel
theorem dX11_classOf_51 : decode cX11_classOf 51 = .ok (.if_icmp .ge 42, 3) := by decide +kernel
theorem dX11_classOf_54 : decode cX11_classOf 54 = .ok (.iload 4, 2) := by decide +kernel
theorem dX11_classOf_56 : decode cX11_classOf 56 = .ok (.aload_n 0, 1) := by decide +kernel
theorem dX11_classOf_57 : decode cX11_classOf 57 = .ok (.iload_n 1, 1) := by decide +kernel
theorem dX11_classOf_58 : decode cX11_classOf 58 = .ok (.iload 5, 2) := by decide +kernel
theorem dX11_classOf_60 : decode cX11_classOf 60 = .ok (.iload_n 3, 1) := by decide +kernel
theorem dX11_classOf_61 : decode cX11_classOf 61 = .ok (.invokevirtual 96, 3) := by decide +kernel
theorem dX11_classOf_64 : decode cX11_classOf 64 = .ok (.ifCond .eq 19, 3) := by decide +kernel
theorem dX11_classOf_67 : decode cX11_classOf 67 = .ok (.aload_n 0, 1) := by decide +kernel
theorem dX11_classOf_68 : decode cX11_classOf 68 = .ok (.iload_n 1, 1) := by decide +kernel
theorem dX11_classOf_69 : decode cX11_classOf 69 = .ok (.iload 5, 2) := by decide +kernel
theorem dX11_classOf_71 : decode cX11_classOf 71 = .ok (.iload_n 2, 1) := by decide +kernel
theorem dX11_classOf_72 : decode cX11_classOf 72 = .ok (.iload_n 3, 1) := by decide +kernel
theorem dX11_classOf_73 : decode cX11_classOf 73 = .ok (.invokevirtual 86, 3) := by decide +kernel
theorem dX11_classOf_76 : decode cX11_classOf 76 = .ok (.ifCond .ge 7, 3) := by decide +kernel
theorem dX11_classOf_79 : decode cX11_classOf 79 = .ok (.iconst 1, 1) := by decide +kernel
theorem dX11_classOf_80 : decode cX11_classOf 80 = .ok (.goto 4, 3) := by decide +kernel
theorem dX11_classOf_83 : decode cX11_classOf 83 = .ok (.iconst 0, 1) := by decide +kernel
theorem dX11_classOf_84 : decode cX11_classOf 84 = .ok (.iadd, 1) := by decide +kernel
theorem dX11_classOf_85 : decode cX11_classOf 85 = .ok (.istore 4, 2) := by decide +kernel
theorem dX11_classOf_87 : decode cX11_classOf 87 = .ok (.iinc 5 1, 3) := by decide +kernel
theorem dX11_classOf_90 : decode cX11_classOf 90 = .ok (.goto (-47), 3) := by decide +kernel
theorem dX11_classOf_93 : decode cX11_classOf 93 = .ok (.iload 4, 2) := by decide +kernel
theorem dX11_classOf_95 : decode cX11_classOf 95 = .ok (.ireturn, 1) := by decide +kernel
theorem dX11_classes_0 : decode cX11_classes 0 = .ok (.aload_n 0, 1) := by decide +kernel
theorem dX11_classes_1 : decode cX11_classes 1 = .ok (.aload_n 0, 1) := by decide +kernel
theorem dX11_classes_2 : decode cX11_classes 2 = .ok (.iload_n 1, 1) := by decide +kernel
theorem dX11_classes_3 : decode cX11_classes 3 = .ok (.invokevirtual 46, 3) := by decide +kernel
theorem dX11_classes_6 : decode cX11_classes 6 = .ok (.ifCond .ne 7, 3) := by decide +kernel
theorem dX11_classes_9 : decode cX11_classes 9 = .ok (.iconst 1, 1) := by decide +kernel
theorem dX11_classes_10 : decode cX11_classes 10 = .ok (.goto 18, 3) := by decide +kernel
theorem dX11_classes_13 : decode cX11_classes 13 = .ok (.iload_n 2, 1) := by decide +kernel
theorem dX11_classes_14 : decode cX11_classes 14 = .ok (.iconst 1, 1) := by decide +kernel
theorem dX11_classes_15 : decode cX11_classes 15 = .ok (.bipush 64, 2) := by decide +kernel
theorem dX11_classes_17 : decode cX11_classes 17 = .ok (.invokestatic 42, 3) := by decide +kernel
theorem dX11_classes_20 : decode cX11_classes 20 = .ok (.ifCond .ne 7, 3) := by decide +kernel
theorem dX11_classes_23 : decode cX11_classes 23 = .ok (.iconst 2, 1) := by decide +kernel
theorem dX11_classes_24 : decode cX11_classes 24 = .ok (.goto 4, 3) := by decide +kernel
theorem dX11_classes_27 : decode cX11_classes 27 = .ok (.iconst 0, 1) := by decide +kernel
theorem dX11_classes_28 : decode cX11_classes 28 = .ok (.invokevirtual 57, 3) := by decide +kernel
theorem dX11_classes_31 : decode cX11_classes 31 = .ok (.ifCond .eq 7, 3) := by decide +kernel
theorem dX11_classes_34 : decode cX11_classes 34 = .ok (.iconst 0, 1) := by decide +kernel
theorem dX11_classes_35 : decode cX11_classes 35 = .ok (.goto 9, 3) := by decide +kernel
theorem dX11_classes_38 : decode cX11_classes 38 = .ok (.aload_n 0, 1) := by decide +kernel
theorem dX11_classes_39 : decode cX11_classes 39 = .ok (.iload_n 1, 1) := by decide +kernel
theorem dX11_classes_40 : decode cX11_classes 40 = .ok (.iload_n 2, 1) := by decide +kernel
theorem dX11_classes_41 : decode cX11_classes 41 = .ok (.invokevirtual 99, 3) := by decide +kernel
theorem dX11_classes_44 : decode cX11_classes 44 = .ok (.ireturn, 1) := by decide +kernel
theorem dX11_rounds_0 : decode cX11_rounds 0 = .ok (.aload_n 0, 1) := by decide +kernel
theorem dX11_rounds_1 : decode cX11_rounds 1 = .ok (.iload_n 1, 1) := by decide +kernel
theorem dX11_rounds_2 : decode cX11_rounds 2 = .ok (.invokevirtual 68, 3) := by decide +kernel
theorem dX11_rounds_5 : decode cX11_rounds 5 = .ok (.ifCond .ne 12, 3) := by decide +kernel
theorem dX11_rounds_8 : decode cX11_rounds 8 = .ok (.aload_n 0, 1) := by decide +kernel
theorem dX11_rounds_9 : decode cX11_rounds 9 = .ok (.getfield 13, 3) := by decide +kernel
theorem dX11_rounds_12 : decode cX11_rounds 12 = .ok (.iload_n 1, 1) := by decide +kernel
theorem dX11_rounds_13 : decode cX11_rounds 13 = .ok (.iaload, 1) := by decide +kernel
theorem dX11_rounds_14 : decode cX11_rounds 14 = .ok (.ifCond .ne 5, 3) := by decide +kernel
theorem dX11_rounds_17 : decode cX11_rounds 17 = .ok (.iconst 0, 1) := by decide +kernel
theorem dX11_rounds_18 : decode cX11_rounds 18 = .ok (.ireturn, 1) := by decide +kernel
theorem dX11_rounds_19 : decode cX11_rounds 19 = .ok (.iconst 1, 1) := by decide +kernel
theorem dX11_rounds_20 : decode cX11_rounds 20 = .ok (.istore_n 2, 1) := by decide +kernel
theorem dX11_rounds_21 : decode cX11_rounds 21 = .ok (.iconst 1, 1) := by decide +kernel
theorem dX11_rounds_22 : decode cX11_rounds 22 = .ok (.istore_n 3, 1) := by decide +kernel
theorem dX11_rounds_23 : decode cX11_rounds 23 = .ok (.aload_n 0, 1) := by decide +kernel
theorem dX11_rounds_24 : decode cX11_rounds 24 = .ok (.iload_n 1, 1) := by decide +kernel
theorem dX11_rounds_25 : decode cX11_rounds 25 = .ok (.iload_n 3, 1) := by decide +kernel
theorem dX11_rounds_26 : decode cX11_rounds 26 = .ok (.invokevirtual 99, 3) := by decide +kernel
theorem dX11_rounds_29 : decode cX11_rounds 29 = .ok (.aload_n 0, 1) := by decide +kernel
theorem dX11_rounds_30 : decode cX11_rounds 30 = .ok (.getfield 13, 3) := by decide +kernel
theorem dX11_rounds_33 : decode cX11_rounds 33 = .ok (.iload_n 1, 1) := by decide +kernel
theorem dX11_rounds_34 : decode cX11_rounds 34 = .ok (.iaload, 1) := by decide +kernel
theorem dX11_rounds_35 : decode cX11_rounds 35 = .ok (.if_icmp .ge 13, 3) := by decide +kernel
theorem dX11_rounds_38 : decode cX11_rounds 38 = .ok (.iinc 2 1, 3) := by decide +kernel
theorem dX11_rounds_41 : decode cX11_rounds 41 = .ok (.iload_n 3, 1) := by decide +kernel
theorem dX11_rounds_42 : decode cX11_rounds 42 = .ok (.iconst 2, 1) := by decide +kernel
theorem dX11_rounds_43 : decode cX11_rounds 43 = .ok (.imul, 1) := by decide +kernel
theorem dX11_rounds_44 : decode cX11_rounds 44 = .ok (.istore_n 3, 1) := by decide +kernel
theorem dX11_rounds_45 : decode cX11_rounds 45 = .ok (.goto (-22), 3) := by decide +kernel
theorem dX11_rounds_48 : decode cX11_rounds 48 = .ok (.iload_n 2, 1) := by decide +kernel
theorem dX11_rounds_49 : decode cX11_rounds 49 = .ok (.ireturn, 1) := by decide +kernel
theorem dX11_together_0 : decode cX11_together 0 = .ok (.iconst 0, 1) := by decide +kernel
theorem dX11_together_1 : decode cX11_together 1 = .ok (.istore 5, 2) := by decide +kernel
theorem dX11_together_3 : decode cX11_together 3 = .ok (.iload_n 2, 1) := by decide +kernel
theorem dX11_together_4 : decode cX11_together 4 = .ok (.iload 5, 2) := by decide +kernel
theorem dX11_together_6 : decode cX11_together 6 = .ok (.iadd, 1) := by decide +kernel
theorem dX11_together_7 : decode cX11_together 7 = .ok (.aload_n 0, 1) := by decide +kernel
theorem dX11_together_8 : decode cX11_together 8 = .ok (.getfield 13, 3) := by decide +kernel
theorem dX11_together_11 : decode cX11_together 11 = .ok (.iload_n 1, 1) := by decide +kernel
theorem dX11_together_12 : decode cX11_together 12 = .ok (.iaload, 1) := by decide +kernel
theorem dX11_together_13 : decode cX11_together 13 = .ok (.if_icmp .ge 55, 3) := by decide +kernel
theorem dX11_together_16 : decode cX11_together 16 = .ok (.iload 4, 2) := by decide +kernel
theorem dX11_together_18 : decode cX11_together 18 = .ok (.iload 5, 2) := by decide +kernel
theorem dX11_together_20 : decode cX11_together 20 = .ok (.iadd, 1) := by decide +kernel
theorem dX11_together_21 : decode cX11_together 21 = .ok (.aload_n 0, 1) := by decide +kernel
theorem dX11_together_22 : decode cX11_together 22 = .ok (.getfield 13, 3) := by decide +kernel
theorem dX11_together_25 : decode cX11_together 25 = .ok (.iload_n 3, 1) := by decide +kernel
theorem dX11_together_26 : decode cX11_together 26 = .ok (.iaload, 1) := by decide +kernel
theorem dX11_together_27 : decode cX11_together 27 = .ok (.if_icmp .ge 41, 3) := by decide +kernel
theorem dX11_together_30 : decode cX11_together 30 = .ok (.aload_n 0, 1) := by decide +kernel
theorem dX11_together_31 : decode cX11_together 31 = .ok (.getfield 7, 3) := by decide +kernel
theorem dX11_together_34 : decode cX11_together 34 = .ok (.bipush 64, 2) := by decide +kernel
theorem dX11_together_36 : decode cX11_together 36 = .ok (.iload_n 1, 1) := by decide +kernel
theorem dX11_together_37 : decode cX11_together 37 = .ok (.imul, 1) := by decide +kernel
theorem dX11_together_38 : decode cX11_together 38 = .ok (.iload_n 2, 1) := by decide +kernel
theorem dX11_together_39 : decode cX11_together 39 = .ok (.iadd, 1) := by decide +kernel
theorem dX11_together_40 : decode cX11_together 40 = .ok (.iload 5, 2) := by decide +kernel
theorem dX11_together_42 : decode cX11_together 42 = .ok (.iadd, 1) := by decide +kernel
theorem dX11_together_43 : decode cX11_together 43 = .ok (.caload, 1) := by decide +kernel
theorem dX11_together_44 : decode cX11_together 44 = .ok (.aload_n 0, 1) := by decide +kernel
theorem dX11_together_45 : decode cX11_together 45 = .ok (.getfield 7, 3) := by decide +kernel
theorem dX11_together_48 : decode cX11_together 48 = .ok (.bipush 64, 2) := by decide +kernel
theorem dX11_together_50 : decode cX11_together 50 = .ok (.iload_n 3, 1) := by decide +kernel
theorem dX11_together_51 : decode cX11_together 51 = .ok (.imul, 1) := by decide +kernel
theorem dX11_together_52 : decode cX11_together 52 = .ok (.iload 4, 2) := by decide +kernel
theorem dX11_together_54 : decode cX11_together 54 = .ok (.iadd, 1) := by decide +kernel
theorem dX11_together_55 : decode cX11_together 55 = .ok (.iload 5, 2) := by decide +kernel
theorem dX11_together_57 : decode cX11_together 57 = .ok (.iadd, 1) := by decide +kernel
theorem dX11_together_58 : decode cX11_together 58 = .ok (.caload, 1) := by decide +kernel
theorem dX11_together_59 : decode cX11_together 59 = .ok (.if_icmp .ne 9, 3) := by decide +kernel
theorem dX11_together_62 : decode cX11_together 62 = .ok (.iinc 5 1, 3) := by decide +kernel
theorem dX11_together_65 : decode cX11_together 65 = .ok (.goto (-62), 3) := by decide +kernel
theorem dX11_together_68 : decode cX11_together 68 = .ok (.iload 5, 2) := by decide +kernel
theorem dX11_together_70 : decode cX11_together 70 = .ok (.ireturn, 1) := by decide +kernel
theorem dX11_commonAt_0 : decode cX11_commonAt 0 = .ok (.iload_n 2, 1) := by decide +kernel
theorem dX11_commonAt_1 : decode cX11_commonAt 1 = .ok (.ifCond .ne 7, 3) := by decide +kernel
theorem dX11_commonAt_4 : decode cX11_commonAt 4 = .ok (.iconst 0, 1) := by decide +kernel
theorem dX11_commonAt_5 : decode cX11_commonAt 5 = .ok (.goto 23, 3) := by decide +kernel
theorem dX11_commonAt_8 : decode cX11_commonAt 8 = .ok (.aload_n 0, 1) := by decide +kernel
theorem dX11_commonAt_9 : decode cX11_commonAt 9 = .ok (.iload_n 1, 1) := by decide +kernel
theorem dX11_commonAt_10 : decode cX11_commonAt 10 = .ok (.aload_n 0, 1) := by decide +kernel
theorem dX11_commonAt_11 : decode cX11_commonAt 11 = .ok (.getfield 20, 3) := by decide +kernel
theorem dX11_commonAt_14 : decode cX11_commonAt 14 = .ok (.iload_n 2, 1) := by decide +kernel
theorem dX11_commonAt_15 : decode cX11_commonAt 15 = .ok (.iconst 1, 1) := by decide +kernel
theorem dX11_commonAt_16 : decode cX11_commonAt 16 = .ok (.isub, 1) := by decide +kernel
theorem dX11_commonAt_17 : decode cX11_commonAt 17 = .ok (.iaload, 1) := by decide +kernel
theorem dX11_commonAt_18 : decode cX11_commonAt 18 = .ok (.iload_n 1, 1) := by decide +kernel
theorem dX11_commonAt_19 : decode cX11_commonAt 19 = .ok (.aload_n 0, 1) := by decide +kernel
theorem dX11_commonAt_20 : decode cX11_commonAt 20 = .ok (.getfield 20, 3) := by decide +kernel
theorem dX11_commonAt_23 : decode cX11_commonAt 23 = .ok (.iload_n 2, 1) := by decide +kernel
theorem dX11_commonAt_24 : decode cX11_commonAt 24 = .ok (.iaload, 1) := by decide +kernel
theorem dX11_commonAt_25 : decode cX11_commonAt 25 = .ok (.invokevirtual 102, 3) := by decide +kernel
theorem dX11_commonAt_28 : decode cX11_commonAt 28 = .ok (.ireturn, 1) := by decide +kernel
theorem dX11_common_0 : decode cX11_common 0 = .ok (.aload_n 0, 1) := by decide +kernel
theorem dX11_common_1 : decode cX11_common 1 = .ok (.iload_n 1, 1) := by decide +kernel
theorem dX11_common_2 : decode cX11_common 2 = .ok (.iload_n 2, 1) := by decide +kernel
theorem dX11_common_3 : decode cX11_common 3 = .ok (.invokevirtual 90, 3) := by decide +kernel
theorem dX11_common_6 : decode cX11_common 6 = .ok (.ifCond .eq 5, 3) := by decide +kernel
theorem dX11_common_9 : decode cX11_common 9 = .ok (.iconst 0, 1) := by decide +kernel
theorem dX11_common_10 : decode cX11_common 10 = .ok (.ireturn, 1) := by decide +kernel
theorem dX11_common_11 : decode cX11_common 11 = .ok (.aload_n 0, 1) := by decide +kernel
theorem dX11_common_12 : decode cX11_common 12 = .ok (.iload_n 1, 1) := by decide +kernel
theorem dX11_common_13 : decode cX11_common 13 = .ok (.invokevirtual 93, 3) := by decide +kernel
theorem dX11_common_16 : decode cX11_common 16 = .ok (.aload_n 0, 1) := by decide +kernel
theorem dX11_common_17 : decode cX11_common 17 = .ok (.iload_n 1, 1) := by decide +kernel
theorem dX11_common_18 : decode cX11_common 18 = .ok (.iload_n 2, 1) := by decide +kernel
theorem dX11_common_19 : decode cX11_common 19 = .ok (.invokevirtual 105, 3) := by decide +kernel
theorem dX11_common_22 : decode cX11_common 22 = .ok (.ireturn, 1) := by decide +kernel
theorem dX11_shared_0 : decode cX11_shared 0 = .ok (.aload_n 0, 1) := by decide +kernel
theorem dX11_shared_1 : decode cX11_shared 1 = .ok (.aload_n 0, 1) := by decide +kernel
theorem dX11_shared_2 : decode cX11_shared 2 = .ok (.iload_n 1, 1) := by decide +kernel
theorem dX11_shared_3 : decode cX11_shared 3 = .ok (.iload_n 2, 1) := by decide +kernel
theorem dX11_shared_4 : decode cX11_shared 4 = .ok (.invokevirtual 71, 3) := by decide +kernel
theorem dX11_shared_7 : decode cX11_shared 7 = .ok (.ifCond .eq 17, 3) := by decide +kernel
theorem dX11_shared_10 : decode cX11_shared 10 = .ok (.aload_n 0, 1) := by decide +kernel
theorem dX11_shared_11 : decode cX11_shared 11 = .ok (.iload_n 3, 1) := by decide +kernel
theorem dX11_shared_12 : decode cX11_shared 12 = .ok (.iload 4, 2) := by decide +kernel
theorem dX11_shared_14 : decode cX11_shared 14 = .ok (.invokevirtual 71, 3) := by decide +kernel
theorem dX11_shared_17 : decode cX11_shared 17 = .ok (.ifCond .eq 7, 3) := by decide +kernel
theorem dX11_shared_20 : decode cX11_shared 20 = .ok (.iconst 0, 1) := by decide +kernel
theorem dX11_shared_21 : decode cX11_shared 21 = .ok (.goto 4, 3) := by decide +kernel
theorem dX11_shared_24 : decode cX11_shared 24 = .ok (.iconst 1, 1) := by decide +kernel
theorem dX11_shared_25 : decode cX11_shared 25 = .ok (.invokevirtual 57, 3) := by decide +kernel
theorem dX11_shared_28 : decode cX11_shared 28 = .ok (.ifCond .eq 7, 3) := by decide +kernel
theorem dX11_shared_31 : decode cX11_shared 31 = .ok (.iconst 0, 1) := by decide +kernel
theorem dX11_shared_32 : decode cX11_shared 32 = .ok (.goto 12, 3) := by decide +kernel
theorem dX11_shared_35 : decode cX11_shared 35 = .ok (.aload_n 0, 1) := by decide +kernel
theorem dX11_shared_36 : decode cX11_shared 36 = .ok (.iload_n 1, 1) := by decide +kernel
theorem dX11_shared_37 : decode cX11_shared 37 = .ok (.iload_n 2, 1) := by decide +kernel
theorem dX11_shared_38 : decode cX11_shared 38 = .ok (.iload_n 3, 1) := by decide +kernel
theorem dX11_shared_39 : decode cX11_shared 39 = .ok (.iload 4, 2) := by decide +kernel
theorem dX11_shared_41 : decode cX11_shared 41 = .ok (.invokevirtual 102, 3) := by decide +kernel
theorem dX11_shared_44 : decode cX11_shared 44 = .ok (.ireturn, 1) := by decide +kernel
theorem dX11_stands_0 : decode cX11_stands 0 = .ok (.iload_n 3, 1) := by decide +kernel
theorem dX11_stands_1 : decode cX11_stands 1 = .ok (.aload_n 0, 1) := by decide +kernel
theorem dX11_stands_2 : decode cX11_stands 2 = .ok (.getfield 54, 3) := by decide +kernel
theorem dX11_stands_5 : decode cX11_stands 5 = .ok (.iadd, 1) := by decide +kernel
theorem dX11_stands_6 : decode cX11_stands 6 = .ok (.iload_n 1, 1) := by decide +kernel
theorem dX11_stands_7 : decode cX11_stands 7 = .ok (.isub, 1) := by decide +kernel
theorem dX11_stands_8 : decode cX11_stands 8 = .ok (.aload_n 0, 1) := by decide +kernel
theorem dX11_stands_9 : decode cX11_stands 9 = .ok (.getfield 13, 3) := by decide +kernel
theorem dX11_stands_12 : decode cX11_stands 12 = .ok (.iload_n 2, 1) := by decide +kernel
theorem dX11_stands_13 : decode cX11_stands 13 = .ok (.iaload, 1) := by decide +kernel
theorem dX11_stands_14 : decode cX11_stands 14 = .ok (.if_icmp .le 5, 3) := by decide +kernel
theorem dX11_stands_17 : decode cX11_stands 17 = .ok (.iconst 0, 1) := by decide +kernel
theorem dX11_stands_18 : decode cX11_stands 18 = .ok (.ireturn, 1) := by decide +kernel
theorem dX11_stands_19 : decode cX11_stands 19 = .ok (.iload_n 1, 1) := by decide +kernel
theorem dX11_stands_20 : decode cX11_stands 20 = .ok (.istore 4, 2) := by decide +kernel
theorem dX11_stands_22 : decode cX11_stands 22 = .ok (.iload 4, 2) := by decide +kernel
theorem dX11_stands_24 : decode cX11_stands 24 = .ok (.aload_n 0, 1) := by decide +kernel
theorem dX11_stands_25 : decode cX11_stands 25 = .ok (.getfield 54, 3) := by decide +kernel
theorem dX11_stands_28 : decode cX11_stands 28 = .ok (.if_icmp .ge 37, 3) := by decide +kernel
theorem dX11_stands_31 : decode cX11_stands 31 = .ok (.aload_n 0, 1) := by decide +kernel
theorem dX11_stands_32 : decode cX11_stands 32 = .ok (.getfield 7, 3) := by decide +kernel
theorem dX11_stands_35 : decode cX11_stands 35 = .ok (.bipush 64, 2) := by decide +kernel
theorem dX11_stands_37 : decode cX11_stands 37 = .ok (.iload_n 2, 1) := by decide +kernel
theorem dX11_stands_38 : decode cX11_stands 38 = .ok (.imul, 1) := by decide +kernel
theorem dX11_stands_39 : decode cX11_stands 39 = .ok (.iload_n 3, 1) := by decide +kernel
theorem dX11_stands_40 : decode cX11_stands 40 = .ok (.iadd, 1) := by decide +kernel
theorem dX11_stands_41 : decode cX11_stands 41 = .ok (.iload 4, 2) := by decide +kernel
theorem dX11_stands_43 : decode cX11_stands 43 = .ok (.iadd, 1) := by decide +kernel
theorem dX11_stands_44 : decode cX11_stands 44 = .ok (.iload_n 1, 1) := by decide +kernel
theorem dX11_stands_45 : decode cX11_stands 45 = .ok (.isub, 1) := by decide +kernel
theorem dX11_stands_46 : decode cX11_stands 46 = .ok (.caload, 1) := by decide +kernel
theorem dX11_stands_47 : decode cX11_stands 47 = .ok (.aload_n 0, 1) := by decide +kernel
theorem dX11_stands_48 : decode cX11_stands 48 = .ok (.getfield 17, 3) := by decide +kernel
theorem dX11_stands_51 : decode cX11_stands 51 = .ok (.iload 4, 2) := by decide +kernel
theorem dX11_stands_53 : decode cX11_stands 53 = .ok (.caload, 1) := by decide +kernel
theorem dX11_stands_54 : decode cX11_stands 54 = .ok (.if_icmp .eq 5, 3) := by decide +kernel
theorem dX11_stands_57 : decode cX11_stands 57 = .ok (.iconst 0, 1) := by decide +kernel
theorem dX11_stands_58 : decode cX11_stands 58 = .ok (.ireturn, 1) := by decide +kernel
theorem dX11_stands_59 : decode cX11_stands 59 = .ok (.iinc 4 1, 3) := by decide +kernel
theorem dX11_stands_62 : decode cX11_stands 62 = .ok (.goto (-40), 3) := by decide +kernel
theorem dX11_stands_65 : decode cX11_stands 65 = .ok (.iconst 1, 1) := by decide +kernel
theorem dX11_stands_66 : decode cX11_stands 66 = .ok (.ireturn, 1) := by decide +kernel
theorem dX11_countFrom_0 : decode cX11_countFrom 0 = .ok (.iconst 0, 1) := by decide +kernel
theorem dX11_countFrom_1 : decode cX11_countFrom 1 = .ok (.istore_n 3, 1) := by decide +kernel
theorem dX11_countFrom_2 : decode cX11_countFrom 2 = .ok (.iconst 0, 1) := by decide +kernel
theorem dX11_countFrom_3 : decode cX11_countFrom 3 = .ok (.istore 4, 2) := by decide +kernel
theorem dX11_countFrom_5 : decode cX11_countFrom 5 = .ok (.iload 4, 2) := by decide +kernel
theorem dX11_countFrom_7 : decode cX11_countFrom 7 = .ok (.aload_n 0, 1) := by decide +kernel
theorem dX11_countFrom_8 : decode cX11_countFrom 8 = .ok (.getfield 13, 3) := by decide +kernel
theorem dX11_countFrom_11 : decode cX11_countFrom 11 = .ok (.iload_n 2, 1) := by decide +kernel
theorem dX11_countFrom_12 : decode cX11_countFrom 12 = .ok (.iaload, 1) := by decide +kernel
theorem dX11_countFrom_13 : decode cX11_countFrom 13 = .ok (.if_icmp .ge 28, 3) := by decide +kernel
theorem dX11_countFrom_16 : decode cX11_countFrom 16 = .ok (.iload_n 3, 1) := by decide +kernel
theorem dX11_countFrom_17 : decode cX11_countFrom 17 = .ok (.aload_n 0, 1) := by decide +kernel
theorem dX11_countFrom_18 : decode cX11_countFrom 18 = .ok (.iload_n 1, 1) := by decide +kernel
theorem dX11_countFrom_19 : decode cX11_countFrom 19 = .ok (.iload_n 2, 1) := by decide +kernel
theorem dX11_countFrom_20 : decode cX11_countFrom 20 = .ok (.iload 4, 2) := by decide +kernel
theorem dX11_countFrom_22 : decode cX11_countFrom 22 = .ok (.invokevirtual 108, 3) := by decide +kernel
theorem dX11_countFrom_25 : decode cX11_countFrom 25 = .ok (.ifCond .eq 7, 3) := by decide +kernel
theorem dX11_countFrom_28 : decode cX11_countFrom 28 = .ok (.iconst 1, 1) := by decide +kernel
theorem dX11_countFrom_29 : decode cX11_countFrom 29 = .ok (.goto 4, 3) := by decide +kernel
theorem dX11_countFrom_32 : decode cX11_countFrom 32 = .ok (.iconst 0, 1) := by decide +kernel
theorem dX11_countFrom_33 : decode cX11_countFrom 33 = .ok (.iadd, 1) := by decide +kernel
theorem dX11_countFrom_34 : decode cX11_countFrom 34 = .ok (.istore_n 3, 1) := by decide +kernel
theorem dX11_countFrom_35 : decode cX11_countFrom 35 = .ok (.iinc 4 1, 3) := by decide +kernel
theorem dX11_countFrom_38 : decode cX11_countFrom 38 = .ok (.goto (-33), 3) := by decide +kernel
theorem dX11_countFrom_41 : decode cX11_countFrom 41 = .ok (.iload_n 3, 1) := by decide +kernel
theorem dX11_countFrom_42 : decode cX11_countFrom 42 = .ok (.ireturn, 1) := by decide +kernel
theorem dX11_isNoWord_0 : decode cX11_isNoWord 0 = .ok (.aload_n 0, 1) := by decide +kernel
theorem dX11_isNoWord_1 : decode cX11_isNoWord 1 = .ok (.aload_n 0, 1) := by decide +kernel
theorem dX11_isNoWord_2 : decode cX11_isNoWord 2 = .ok (.iload_n 1, 1) := by decide +kernel
theorem dX11_isNoWord_3 : decode cX11_isNoWord 3 = .ok (.invokevirtual 46, 3) := by decide +kernel
theorem dX11_isNoWord_6 : decode cX11_isNoWord 6 = .ok (.ifCond .ne 7, 3) := by decide +kernel
theorem dX11_isNoWord_9 : decode cX11_isNoWord 9 = .ok (.iconst 1, 1) := by decide +kernel
theorem dX11_isNoWord_10 : decode cX11_isNoWord 10 = .ok (.goto 22, 3) := by decide +kernel
theorem dX11_isNoWord_13 : decode cX11_isNoWord 13 = .ok (.aload_n 0, 1) := by decide +kernel
theorem dX11_isNoWord_14 : decode cX11_isNoWord 14 = .ok (.getfield 54, 3) := by decide +kernel
theorem dX11_isNoWord_17 : decode cX11_isNoWord 17 = .ok (.ifCond .eq 10, 3) := by decide +kernel
theorem dX11_isNoWord_20 : decode cX11_isNoWord 20 = .ok (.aload_n 0, 1) := by decide +kernel
theorem dX11_isNoWord_21 : decode cX11_isNoWord 21 = .ok (.invokevirtual 64, 3) := by decide +kernel
theorem dX11_isNoWord_24 : decode cX11_isNoWord 24 = .ok (.ifCond .eq 7, 3) := by decide +kernel
theorem dX11_isNoWord_27 : decode cX11_isNoWord 27 = .ok (.iconst 2, 1) := by decide +kernel
theorem dX11_isNoWord_28 : decode cX11_isNoWord 28 = .ok (.goto 4, 3) := by decide +kernel
theorem dX11_isNoWord_31 : decode cX11_isNoWord 31 = .ok (.iconst 0, 1) := by decide +kernel
theorem dX11_isNoWord_32 : decode cX11_isNoWord 32 = .ok (.invokevirtual 57, 3) := by decide +kernel
theorem dX11_isNoWord_35 : decode cX11_isNoWord 35 = .ok (.ireturn, 1) := by decide +kernel
theorem dX11_count_0 : decode cX11_count 0 = .ok (.aload_n 0, 1) := by decide +kernel
theorem dX11_count_1 : decode cX11_count 1 = .ok (.iload_n 1, 1) := by decide +kernel
theorem dX11_count_2 : decode cX11_count 2 = .ok (.invokevirtual 111, 3) := by decide +kernel
theorem dX11_count_5 : decode cX11_count 5 = .ok (.ifCond .eq 7, 3) := by decide +kernel
theorem dX11_count_8 : decode cX11_count 8 = .ok (.iconst 0, 1) := by decide +kernel
theorem dX11_count_9 : decode cX11_count 9 = .ok (.goto 9, 3) := by decide +kernel
theorem dX11_count_12 : decode cX11_count 12 = .ok (.aload_n 0, 1) := by decide +kernel
theorem dX11_count_13 : decode cX11_count 13 = .ok (.iconst 0, 1) := by decide +kernel
theorem dX11_count_14 : decode cX11_count 14 = .ok (.iload_n 1, 1) := by decide +kernel
theorem dX11_count_15 : decode cX11_count 15 = .ok (.invokevirtual 114, 3) := by decide +kernel
theorem dX11_count_18 : decode cX11_count 18 = .ok (.ireturn, 1) := by decide +kernel
theorem dX11_runFrom_0 : decode cX11_runFrom 0 = .ok (.aload_n 0, 1) := by decide +kernel
theorem dX11_runFrom_1 : decode cX11_runFrom 1 = .ok (.iload_n 1, 1) := by decide +kernel
theorem dX11_runFrom_2 : decode cX11_runFrom 2 = .ok (.invokevirtual 111, 3) := by decide +kernel
theorem dX11_runFrom_5 : decode cX11_runFrom 5 = .ok (.ifCond .eq 5, 3) := by decide +kernel
theorem dX11_runFrom_8 : decode cX11_runFrom 8 = .ok (.iconst 0, 1) := by decide +kernel
theorem dX11_runFrom_9 : decode cX11_runFrom 9 = .ok (.ireturn, 1) := by decide +kernel
theorem dX11_runFrom_10 : decode cX11_runFrom 10 = .ok (.bipush 64, 2) := by decide +kernel
theorem dX11_runFrom_12 : decode cX11_runFrom 12 = .ok (.istore_n 2, 1) := by decide +kernel
theorem dX11_runFrom_13 : decode cX11_runFrom 13 = .ok (.iconst 0, 1) := by decide +kernel
theorem dX11_runFrom_14 : decode cX11_runFrom 14 = .ok (.istore_n 3, 1) := by decide +kernel
theorem dX11_runFrom_15 : decode cX11_runFrom 15 = .ok (.iload_n 3, 1) := by decide +kernel
theorem dX11_runFrom_16 : decode cX11_runFrom 16 = .ok (.aload_n 0, 1) := by decide +kernel
theorem dX11_runFrom_17 : decode cX11_runFrom 17 = .ok (.getfield 13, 3) := by decide +kernel
theorem dX11_runFrom_20 : decode cX11_runFrom 20 = .ok (.iload_n 1, 1) := by decide +kernel
theorem dX11_runFrom_21 : decode cX11_runFrom 21 = .ok (.iaload, 1) := by decide +kernel
theorem dX11_runFrom_22 : decode cX11_runFrom 22 = .ok (.if_icmp .ge 36, 3) := by decide +kernel
theorem dX11_runFrom_25 : decode cX11_runFrom 25 = .ok (.aload_n 0, 1) := by decide +kernel
theorem dX11_runFrom_26 : decode cX11_runFrom 26 = .ok (.iconst 0, 1) := by decide +kernel
theorem dX11_runFrom_27 : decode cX11_runFrom 27 = .ok (.iload_n 1, 1) := by decide +kernel
theorem dX11_runFrom_28 : decode cX11_runFrom 28 = .ok (.iload_n 3, 1) := by decide +kernel
theorem dX11_runFrom_29 : decode cX11_runFrom 29 = .ok (.invokevirtual 108, 3) := by decide +kernel
theorem dX11_runFrom_32 : decode cX11_runFrom 32 = .ok (.ifCond .eq 20, 3) := by decide +kernel
theorem dX11_runFrom_35 : decode cX11_runFrom 35 = .ok (.aload_n 0, 1) := by decide +kernel
theorem dX11_runFrom_36 : decode cX11_runFrom 36 = .ok (.iload_n 1, 1) := by decide +kernel
theorem dX11_runFrom_37 : decode cX11_runFrom 37 = .ok (.iload_n 3, 1) := by decide +kernel
theorem dX11_runFrom_38 : decode cX11_runFrom 38 = .ok (.invokevirtual 78, 3) := by decide +kernel
theorem dX11_runFrom_41 : decode cX11_runFrom 41 = .ok (.iload_n 2, 1) := by decide +kernel
theorem dX11_runFrom_42 : decode cX11_runFrom 42 = .ok (.if_icmp .ge 10, 3) := by decide +kernel
theorem dX11_runFrom_45 : decode cX11_runFrom 45 = .ok (.aload_n 0, 1) := by decide +kernel
theorem dX11_runFrom_46 : decode cX11_runFrom 46 = .ok (.iload_n 1, 1) := by decide +kernel
theorem dX11_runFrom_47 : decode cX11_runFrom 47 = .ok (.iload_n 3, 1) := by decide +kernel
theorem dX11_runFrom_48 : decode cX11_runFrom 48 = .ok (.invokevirtual 78, 3) := by decide +kernel
theorem dX11_runFrom_51 : decode cX11_runFrom 51 = .ok (.istore_n 2, 1) := by decide +kernel
theorem dX11_runFrom_52 : decode cX11_runFrom 52 = .ok (.iinc 3 1, 3) := by decide +kernel
theorem dX11_runFrom_55 : decode cX11_runFrom 55 = .ok (.goto (-40), 3) := by decide +kernel
theorem dX11_runFrom_58 : decode cX11_runFrom 58 = .ok (.aload_n 0, 1) := by decide +kernel
theorem dX11_runFrom_59 : decode cX11_runFrom 59 = .ok (.iload_n 2, 1) := by decide +kernel
theorem dX11_runFrom_60 : decode cX11_runFrom 60 = .ok (.bipush 64, 2) := by decide +kernel
theorem dX11_runFrom_62 : decode cX11_runFrom 62 = .ok (.if_icmp .ne 7, 3) := by decide +kernel
theorem dX11_runFrom_65 : decode cX11_runFrom 65 = .ok (.iconst 3, 1) := by decide +kernel
theorem dX11_runFrom_66 : decode cX11_runFrom 66 = .ok (.goto 4, 3) := by decide +kernel
theorem dX11_runFrom_69 : decode cX11_runFrom 69 = .ok (.iconst 0, 1) := by decide +kernel
theorem dX11_runFrom_70 : decode cX11_runFrom 70 = .ok (.invokevirtual 57, 3) := by decide +kernel
theorem dX11_runFrom_73 : decode cX11_runFrom 73 = .ok (.ifCond .eq 7, 3) := by decide +kernel
theorem dX11_runFrom_76 : decode cX11_runFrom 76 = .ok (.iconst 0, 1) := by decide +kernel
theorem dX11_runFrom_77 : decode cX11_runFrom 77 = .ok (.goto 4, 3) := by decide +kernel
theorem dX11_runFrom_80 : decode cX11_runFrom 80 = .ok (.iload_n 2, 1) := by decide +kernel
theorem dX11_runFrom_81 : decode cX11_runFrom 81 = .ok (.ireturn, 1) := by decide +kernel
theorem dX11_standsAt_0 : decode cX11_standsAt 0 = .ok (.aload_n 0, 1) := by decide +kernel
theorem dX11_standsAt_1 : decode cX11_standsAt 1 = .ok (.iload_n 1, 1) := by decide +kernel
theorem dX11_standsAt_2 : decode cX11_standsAt 2 = .ok (.invokevirtual 111, 3) := by decide +kernel
theorem dX11_standsAt_5 : decode cX11_standsAt 5 = .ok (.ifCond .eq 5, 3) := by decide +kernel
theorem dX11_standsAt_8 : decode cX11_standsAt 8 = .ok (.iconst 0, 1) := by decide +kernel
theorem dX11_standsAt_9 : decode cX11_standsAt 9 = .ok (.ireturn, 1) := by decide +kernel
theorem dX11_standsAt_10 : decode cX11_standsAt 10 = .ok (.iload_n 2, 1) := by decide +kernel
theorem dX11_standsAt_11 : decode cX11_standsAt 11 = .ok (.istore_n 3, 1) := by decide +kernel
theorem dX11_standsAt_12 : decode cX11_standsAt 12 = .ok (.iconst 0, 1) := by decide +kernel
theorem dX11_standsAt_13 : decode cX11_standsAt 13 = .ok (.istore 4, 2) := by decide +kernel
theorem dX11_standsAt_15 : decode cX11_standsAt 15 = .ok (.iload 4, 2) := by decide +kernel
theorem dX11_standsAt_17 : decode cX11_standsAt 17 = .ok (.aload_n 0, 1) := by decide +kernel
theorem dX11_standsAt_18 : decode cX11_standsAt 18 = .ok (.getfield 13, 3) := by decide +kernel
theorem dX11_standsAt_21 : decode cX11_standsAt 21 = .ok (.iload_n 1, 1) := by decide +kernel
theorem dX11_standsAt_22 : decode cX11_standsAt 22 = .ok (.iaload, 1) := by decide +kernel
theorem dX11_standsAt_23 : decode cX11_standsAt 23 = .ok (.if_icmp .ge 34, 3) := by decide +kernel
theorem dX11_standsAt_26 : decode cX11_standsAt 26 = .ok (.iload_n 2, 1) := by decide +kernel
theorem dX11_standsAt_27 : decode cX11_standsAt 27 = .ok (.ifCond .lt 30, 3) := by decide +kernel
theorem dX11_standsAt_30 : decode cX11_standsAt 30 = .ok (.aload_n 0, 1) := by decide +kernel
theorem dX11_standsAt_31 : decode cX11_standsAt 31 = .ok (.iconst 0, 1) := by decide +kernel
theorem dX11_standsAt_32 : decode cX11_standsAt 32 = .ok (.iload_n 1, 1) := by decide +kernel
theorem dX11_standsAt_33 : decode cX11_standsAt 33 = .ok (.iload 4, 2) := by decide +kernel
theorem dX11_standsAt_35 : decode cX11_standsAt 35 = .ok (.invokevirtual 108, 3) := by decide +kernel
theorem dX11_standsAt_38 : decode cX11_standsAt 38 = .ok (.ifCond .eq 13, 3) := by decide +kernel
theorem dX11_standsAt_41 : decode cX11_standsAt 41 = .ok (.iload_n 3, 1) := by decide +kernel
theorem dX11_standsAt_42 : decode cX11_standsAt 42 = .ok (.ifCond .ne 6, 3) := by decide +kernel
theorem dX11_standsAt_45 : decode cX11_standsAt 45 = .ok (.iload 4, 2) := by decide +kernel
theorem dX11_standsAt_47 : decode cX11_standsAt 47 = .ok (.ireturn, 1) := by decide +kernel
theorem dX11_standsAt_48 : decode cX11_standsAt 48 = .ok (.iinc 3 (-1), 3) := by decide +kernel
theorem dX11_standsAt_51 : decode cX11_standsAt 51 = .ok (.iinc 4 1, 3) := by decide +kernel
theorem dX11_standsAt_54 : decode cX11_standsAt 54 = .ok (.goto (-39), 3) := by decide +kernel
theorem dX11_standsAt_57 : decode cX11_standsAt 57 = .ok (.aload_n 0, 1) := by decide +kernel
theorem dX11_standsAt_58 : decode cX11_standsAt 58 = .ok (.iconst 3, 1) := by decide +kernel
theorem dX11_standsAt_59 : decode cX11_standsAt 59 = .ok (.putfield 35, 3) := by decide +kernel
theorem dX11_standsAt_62 : decode cX11_standsAt 62 = .ok (.iconst 0, 1) := by decide +kernel
theorem dX11_standsAt_63 : decode cX11_standsAt 63 = .ok (.ireturn, 1) := by decide +kernel
theorem dX11_tail_0 : decode cX11_tail 0 = .ok (.aload_n 0, 1) := by decide +kernel
theorem dX11_tail_1 : decode cX11_tail 1 = .ok (.iload_n 1, 1) := by decide +kernel
theorem dX11_tail_2 : decode cX11_tail 2 = .ok (.invokevirtual 111, 3) := by decide +kernel
theorem dX11_tail_5 : decode cX11_tail 5 = .ok (.ifCond .eq 5, 3) := by decide +kernel
theorem dX11_tail_8 : decode cX11_tail 8 = .ok (.iconst 0, 1) := by decide +kernel
theorem dX11_tail_9 : decode cX11_tail 9 = .ok (.ireturn, 1) := by decide +kernel
theorem dX11_tail_10 : decode cX11_tail 10 = .ok (.aload_n 0, 1) := by decide +kernel
theorem dX11_tail_11 : decode cX11_tail 11 = .ok (.iload_n 2, 1) := by decide +kernel
theorem dX11_tail_12 : decode cX11_tail 12 = .ok (.iconst 1, 1) := by decide +kernel
theorem dX11_tail_13 : decode cX11_tail 13 = .ok (.aload_n 0, 1) := by decide +kernel
theorem dX11_tail_14 : decode cX11_tail 14 = .ok (.getfield 54, 3) := by decide +kernel
theorem dX11_tail_17 : decode cX11_tail 17 = .ok (.invokestatic 42, 3) := by decide +kernel
theorem dX11_tail_20 : decode cX11_tail 20 = .ok (.ifCond .eq 7, 3) := by decide +kernel
theorem dX11_tail_23 : decode cX11_tail 23 = .ok (.iconst 0, 1) := by decide +kernel
theorem dX11_tail_24 : decode cX11_tail 24 = .ok (.goto 4, 3) := by decide +kernel
theorem dX11_tail_27 : decode cX11_tail 27 = .ok (.iconst 3, 1) := by decide +kernel
theorem dX11_tail_28 : decode cX11_tail 28 = .ok (.invokevirtual 57, 3) := by decide +kernel
theorem dX11_tail_31 : decode cX11_tail 31 = .ok (.ifCond .eq 7, 3) := by decide +kernel
theorem dX11_tail_34 : decode cX11_tail 34 = .ok (.iconst 0, 1) := by decide +kernel
theorem dX11_tail_35 : decode cX11_tail 35 = .ok (.goto 14, 3) := by decide +kernel
theorem dX11_tail_38 : decode cX11_tail 38 = .ok (.aload_n 0, 1) := by decide +kernel
theorem dX11_tail_39 : decode cX11_tail 39 = .ok (.aload_n 0, 1) := by decide +kernel
theorem dX11_tail_40 : decode cX11_tail 40 = .ok (.getfield 54, 3) := by decide +kernel
theorem dX11_tail_43 : decode cX11_tail 43 = .ok (.iload_n 2, 1) := by decide +kernel
theorem dX11_tail_44 : decode cX11_tail 44 = .ok (.isub, 1) := by decide +kernel
theorem dX11_tail_45 : decode cX11_tail 45 = .ok (.iload_n 1, 1) := by decide +kernel
theorem dX11_tail_46 : decode cX11_tail 46 = .ok (.invokevirtual 114, 3) := by decide +kernel
theorem dX11_tail_49 : decode cX11_tail 49 = .ok (.ireturn, 1) := by decide +kernel
theorem dX11_newWords_0 : decode cX11_newWords 0 = .ok (.iconst 0, 1) := by decide +kernel
theorem dX11_newWords_1 : decode cX11_newWords 1 = .ok (.istore_n 3, 1) := by decide +kernel
theorem dX11_newWords_2 : decode cX11_newWords 2 = .ok (.iconst 0, 1) := by decide +kernel
theorem dX11_newWords_3 : decode cX11_newWords 3 = .ok (.istore 4, 2) := by decide +kernel
theorem dX11_newWords_5 : decode cX11_newWords 5 = .ok (.iload 4, 2) := by decide +kernel
theorem dX11_newWords_7 : decode cX11_newWords 7 = .ok (.iload_n 2, 1) := by decide +kernel
theorem dX11_newWords_8 : decode cX11_newWords 8 = .ok (.if_icmp .ge 33, 3) := by decide +kernel
theorem dX11_newWords_11 : decode cX11_newWords 11 = .ok (.aload_n 0, 1) := by decide +kernel
theorem dX11_newWords_12 : decode cX11_newWords 12 = .ok (.iload_n 1, 1) := by decide +kernel
theorem dX11_newWords_13 : decode cX11_newWords 13 = .ok (.iload 4, 2) := by decide +kernel
theorem dX11_newWords_15 : decode cX11_newWords 15 = .ok (.iload_n 1, 1) := by decide +kernel
theorem dX11_newWords_16 : decode cX11_newWords 16 = .ok (.iload_n 2, 1) := by decide +kernel
theorem dX11_newWords_17 : decode cX11_newWords 17 = .ok (.invokevirtual 102, 3) := by decide +kernel
theorem dX11_newWords_20 : decode cX11_newWords 20 = .ok (.istore 5, 2) := by decide +kernel
theorem dX11_newWords_22 : decode cX11_newWords 22 = .ok (.iload 5, 2) := by decide +kernel
theorem dX11_newWords_24 : decode cX11_newWords 24 = .ok (.iload_n 3, 1) := by decide +kernel
theorem dX11_newWords_25 : decode cX11_newWords 25 = .ok (.if_icmp .le 8, 3) := by decide +kernel
theorem dX11_newWords_28 : decode cX11_newWords 28 = .ok (.iload 5, 2) := by decide +kernel
theorem dX11_newWords_30 : decode cX11_newWords 30 = .ok (.goto 4, 3) := by decide +kernel
theorem dX11_newWords_33 : decode cX11_newWords 33 = .ok (.iload_n 3, 1) := by decide +kernel
theorem dX11_newWords_34 : decode cX11_newWords 34 = .ok (.istore_n 3, 1) := by decide +kernel
theorem dX11_newWords_35 : decode cX11_newWords 35 = .ok (.iinc 4 1, 3) := by decide +kernel
theorem dX11_newWords_38 : decode cX11_newWords 38 = .ok (.goto (-33), 3) := by decide +kernel
theorem dX11_newWords_41 : decode cX11_newWords 41 = .ok (.aload_n 0, 1) := by decide +kernel
theorem dX11_newWords_42 : decode cX11_newWords 42 = .ok (.getfield 13, 3) := by decide +kernel
theorem dX11_newWords_45 : decode cX11_newWords 45 = .ok (.iload_n 1, 1) := by decide +kernel
theorem dX11_newWords_46 : decode cX11_newWords 46 = .ok (.iaload, 1) := by decide +kernel
theorem dX11_newWords_47 : decode cX11_newWords 47 = .ok (.iload_n 2, 1) := by decide +kernel
theorem dX11_newWords_48 : decode cX11_newWords 48 = .ok (.isub, 1) := by decide +kernel
theorem dX11_newWords_49 : decode cX11_newWords 49 = .ok (.iload_n 3, 1) := by decide +kernel
theorem dX11_newWords_50 : decode cX11_newWords 50 = .ok (.isub, 1) := by decide +kernel
theorem dX11_newWords_51 : decode cX11_newWords 51 = .ok (.ireturn, 1) := by decide +kernel
theorem dX11_allWords_0 : decode cX11_allWords 0 = .ok (.lconst 0, 1) := by decide +kernel
theorem dX11_allWords_1 : decode cX11_allWords 1 = .ok (.lstore_n 2, 1) := by decide +kernel
theorem dX11_allWords_2 : decode cX11_allWords 2 = .ok (.iconst 0, 1) := by decide +kernel
theorem dX11_allWords_3 : decode cX11_allWords 3 = .ok (.istore 4, 2) := by decide +kernel
theorem dX11_allWords_5 : decode cX11_allWords 5 = .ok (.iload 4, 2) := by decide +kernel
theorem dX11_allWords_7 : decode cX11_allWords 7 = .ok (.aload_n 0, 1) := by decide +kernel
theorem dX11_allWords_8 : decode cX11_allWords 8 = .ok (.getfield 13, 3) := by decide +kernel
theorem dX11_allWords_11 : decode cX11_allWords 11 = .ok (.iload_n 1, 1) := by decide +kernel
theorem dX11_allWords_12 : decode cX11_allWords 12 = .ok (.iaload, 1) := by decide +kernel
theorem dX11_allWords_13 : decode cX11_allWords 13 = .ok (.if_icmp .ge 20, 3) := by decide +kernel
theorem dX11_allWords_16 : decode cX11_allWords 16 = .ok (.lload_n 2, 1) := by decide +kernel
theorem dX11_allWords_17 : decode cX11_allWords 17 = .ok (.aload_n 0, 1) := by decide +kernel
theorem dX11_allWords_18 : decode cX11_allWords 18 = .ok (.iload_n 1, 1) := by decide +kernel
theorem dX11_allWords_19 : decode cX11_allWords 19 = .ok (.iload 4, 2) := by decide +kernel
theorem dX11_allWords_21 : decode cX11_allWords 21 = .ok (.invokevirtual 117, 3) := by decide +kernel
theorem dX11_allWords_24 : decode cX11_allWords 24 = .ok (.i2l, 1) := by decide +kernel
theorem dX11_allWords_25 : decode cX11_allWords 25 = .ok (.ladd, 1) := by decide +kernel
theorem dX11_allWords_26 : decode cX11_allWords 26 = .ok (.lstore_n 2, 1) := by decide +kernel
theorem dX11_allWords_27 : decode cX11_allWords 27 = .ok (.iinc 4 1, 3) := by decide +kernel
theorem dX11_allWords_30 : decode cX11_allWords 30 = .ok (.goto (-25), 3) := by decide +kernel
theorem dX11_allWords_33 : decode cX11_allWords 33 = .ok (.lload_n 2, 1) := by decide +kernel
theorem dX11_allWords_34 : decode cX11_allWords 34 = .ok (.lreturn, 1) := by decide +kernel
theorem dX11_words_0 : decode cX11_words 0 = .ok (.aload_n 0, 1) := by decide +kernel
theorem dX11_words_1 : decode cX11_words 1 = .ok (.iload_n 1, 1) := by decide +kernel
theorem dX11_words_2 : decode cX11_words 2 = .ok (.invokevirtual 68, 3) := by decide +kernel
theorem dX11_words_5 : decode cX11_words 5 = .ok (.ifCond .eq 7, 3) := by decide +kernel
theorem dX11_words_8 : decode cX11_words 8 = .ok (.lconst 0, 1) := by decide +kernel
theorem dX11_words_9 : decode cX11_words 9 = .ok (.goto 8, 3) := by decide +kernel
theorem dX11_words_12 : decode cX11_words 12 = .ok (.aload_n 0, 1) := by decide +kernel
theorem dX11_words_13 : decode cX11_words 13 = .ok (.iload_n 1, 1) := by decide +kernel
theorem dX11_words_14 : decode cX11_words 14 = .ok (.invokevirtual 120, 3) := by decide +kernel
theorem dX11_words_17 : decode cX11_words 17 = .ok (.lreturn, 1) := by decide +kernel
theorem dX11_word_0 : decode cX11_word 0 = .ok (.aload_n 0, 1) := by decide +kernel
theorem dX11_word_1 : decode cX11_word 1 = .ok (.iload_n 1, 1) := by decide +kernel
theorem dX11_word_2 : decode cX11_word 2 = .ok (.invokevirtual 68, 3) := by decide +kernel
theorem dX11_word_5 : decode cX11_word 5 = .ok (.ifCond .eq 5, 3) := by decide +kernel
theorem dX11_word_8 : decode cX11_word 8 = .ok (.iconst 0, 1) := by decide +kernel
theorem dX11_word_9 : decode cX11_word 9 = .ok (.ireturn, 1) := by decide +kernel
theorem dX11_word_10 : decode cX11_word 10 = .ok (.aload_n 0, 1) := by decide +kernel
theorem dX11_word_11 : decode cX11_word 11 = .ok (.iload_n 1, 1) := by decide +kernel
theorem dX11_word_12 : decode cX11_word 12 = .ok (.invokevirtual 93, 3) := by decide +kernel
theorem dX11_word_15 : decode cX11_word 15 = .ok (.iload_n 2, 1) := by decide +kernel
theorem dX11_word_16 : decode cX11_word 16 = .ok (.istore_n 3, 1) := by decide +kernel
theorem dX11_word_17 : decode cX11_word 17 = .ok (.iconst 0, 1) := by decide +kernel
theorem dX11_word_18 : decode cX11_word 18 = .ok (.istore 4, 2) := by decide +kernel
theorem dX11_word_20 : decode cX11_word 20 = .ok (.iload 4, 2) := by decide +kernel
theorem dX11_word_22 : decode cX11_word 22 = .ok (.aload_n 0, 1) := by decide +kernel
theorem dX11_word_23 : decode cX11_word 23 = .ok (.getfield 13, 3) := by decide +kernel
theorem dX11_word_26 : decode cX11_word 26 = .ok (.iload_n 1, 1) := by decide +kernel
theorem dX11_word_27 : decode cX11_word 27 = .ok (.iaload, 1) := by decide +kernel
theorem dX11_word_28 : decode cX11_word 28 = .ok (.if_icmp .ge 112, 3) := by decide +kernel
theorem dX11_word_31 : decode cX11_word 31 = .ok (.iload_n 2, 1) := by decide +kernel
theorem dX11_word_32 : decode cX11_word 32 = .ok (.ifCond .lt 108, 3) := by decide +kernel
theorem dX11_word_35 : decode cX11_word 35 = .ok (.aload_n 0, 1) := by decide +kernel
theorem dX11_word_36 : decode cX11_word 36 = .ok (.iload_n 1, 1) := by decide +kernel
theorem dX11_word_37 : decode cX11_word 37 = .ok (.iload 4, 2) := by decide +kernel
theorem dX11_word_39 : decode cX11_word 39 = .ok (.invokevirtual 105, 3) := by decide +kernel
theorem dX11_word_42 : decode cX11_word 42 = .ok (.istore 5, 2) := by decide +kernel
theorem dX11_word_44 : decode cX11_word 44 = .ok (.aload_n 0, 1) := by decide +kernel
theorem dX11_word_45 : decode cX11_word 45 = .ok (.getfield 13, 3) := by decide +kernel
theorem dX11_word_48 : decode cX11_word 48 = .ok (.iload_n 1, 1) := by decide +kernel
theorem dX11_word_49 : decode cX11_word 49 = .ok (.iaload, 1) := by decide +kernel
theorem dX11_word_50 : decode cX11_word 50 = .ok (.aload_n 0, 1) := by decide +kernel
theorem dX11_word_51 : decode cX11_word 51 = .ok (.getfield 20, 3) := by decide +kernel
theorem dX11_word_54 : decode cX11_word 54 = .ok (.iload 4, 2) := by decide +kernel
theorem dX11_word_56 : decode cX11_word 56 = .ok (.iaload, 1) := by decide +kernel
theorem dX11_word_57 : decode cX11_word 57 = .ok (.isub, 1) := by decide +kernel
theorem dX11_word_58 : decode cX11_word 58 = .ok (.iload 5, 2) := by decide +kernel
theorem dX11_word_60 : decode cX11_word 60 = .ok (.isub, 1) := by decide +kernel
theorem dX11_word_61 : decode cX11_word 61 = .ok (.istore 6, 2) := by decide +kernel
theorem dX11_word_63 : decode cX11_word 63 = .ok (.iload_n 3, 1) := by decide +kernel
theorem dX11_word_64 : decode cX11_word 64 = .ok (.iload 6, 2) := by decide +kernel
theorem dX11_word_66 : decode cX11_word 66 = .ok (.if_icmp .ge 63, 3) := by decide +kernel
theorem dX11_word_69 : decode cX11_word 69 = .ok (.aload_n 0, 1) := by decide +kernel
theorem dX11_word_70 : decode cX11_word 70 = .ok (.iload 5, 2) := by decide +kernel
theorem dX11_word_72 : decode cX11_word 72 = .ok (.iload_n 3, 1) := by decide +kernel
theorem dX11_word_73 : decode cX11_word 73 = .ok (.iadd, 1) := by decide +kernel
theorem dX11_word_74 : decode cX11_word 74 = .ok (.iconst 1, 1) := by decide +kernel
theorem dX11_word_75 : decode cX11_word 75 = .ok (.iadd, 1) := by decide +kernel
theorem dX11_word_76 : decode cX11_word 76 = .ok (.putfield 54, 3) := by decide +kernel
theorem dX11_word_79 : decode cX11_word 79 = .ok (.iconst 0, 1) := by decide +kernel
theorem dX11_word_80 : decode cX11_word 80 = .ok (.istore 7, 2) := by decide +kernel
theorem dX11_word_82 : decode cX11_word 82 = .ok (.iload 7, 2) := by decide +kernel
theorem dX11_word_84 : decode cX11_word 84 = .ok (.aload_n 0, 1) := by decide +kernel
theorem dX11_word_85 : decode cX11_word 85 = .ok (.getfield 54, 3) := by decide +kernel
theorem dX11_word_88 : decode cX11_word 88 = .ok (.if_icmp .ge 36, 3) := by decide +kernel
theorem dX11_word_91 : decode cX11_word 91 = .ok (.aload_n 0, 1) := by decide +kernel
theorem dX11_word_92 : decode cX11_word 92 = .ok (.getfield 17, 3) := by decide +kernel
theorem dX11_word_95 : decode cX11_word 95 = .ok (.iload 7, 2) := by decide +kernel
theorem dX11_word_97 : decode cX11_word 97 = .ok (.aload_n 0, 1) := by decide +kernel
theorem dX11_word_98 : decode cX11_word 98 = .ok (.getfield 7, 3) := by decide +kernel
theorem dX11_word_101 : decode cX11_word 101 = .ok (.bipush 64, 2) := by decide +kernel
theorem dX11_word_103 : decode cX11_word 103 = .ok (.iload_n 1, 1) := by decide +kernel
theorem dX11_word_104 : decode cX11_word 104 = .ok (.imul, 1) := by decide +kernel
theorem dX11_word_105 : decode cX11_word 105 = .ok (.aload_n 0, 1) := by decide +kernel
theorem dX11_word_106 : decode cX11_word 106 = .ok (.getfield 20, 3) := by decide +kernel
theorem dX11_word_109 : decode cX11_word 109 = .ok (.iload 4, 2) := by decide +kernel
theorem dX11_word_111 : decode cX11_word 111 = .ok (.iaload, 1) := by decide +kernel
theorem dX11_word_112 : decode cX11_word 112 = .ok (.iadd, 1) := by decide +kernel
theorem dX11_word_113 : decode cX11_word 113 = .ok (.iload 7, 2) := by decide +kernel
theorem dX11_word_115 : decode cX11_word 115 = .ok (.iadd, 1) := by decide +kernel
theorem dX11_word_116 : decode cX11_word 116 = .ok (.caload, 1) := by decide +kernel
theorem dX11_word_117 : decode cX11_word 117 = .ok (.castore, 1) := by decide +kernel
theorem dX11_word_118 : decode cX11_word 118 = .ok (.iinc 7 1, 3) := by decide +kernel
theorem dX11_word_121 : decode cX11_word 121 = .ok (.goto (-39), 3) := by decide +kernel
theorem dX11_word_124 : decode cX11_word 124 = .ok (.aload_n 0, 1) := by decide +kernel
theorem dX11_word_125 : decode cX11_word 125 = .ok (.getfield 54, 3) := by decide +kernel
theorem dX11_word_128 : decode cX11_word 128 = .ok (.ireturn, 1) := by decide +kernel
theorem dX11_word_129 : decode cX11_word 129 = .ok (.iload_n 3, 1) := by decide +kernel
theorem dX11_word_130 : decode cX11_word 130 = .ok (.iload 6, 2) := by decide +kernel
theorem dX11_word_132 : decode cX11_word 132 = .ok (.isub, 1) := by decide +kernel
theorem dX11_word_133 : decode cX11_word 133 = .ok (.istore_n 3, 1) := by decide +kernel
theorem dX11_word_134 : decode cX11_word 134 = .ok (.iinc 4 1, 3) := by decide +kernel
theorem dX11_word_137 : decode cX11_word 137 = .ok (.goto (-117), 3) := by decide +kernel
theorem dX11_word_140 : decode cX11_word 140 = .ok (.aload_n 0, 1) := by decide +kernel
theorem dX11_word_141 : decode cX11_word 141 = .ok (.iconst 2, 1) := by decide +kernel
theorem dX11_word_142 : decode cX11_word 142 = .ok (.putfield 35, 3) := by decide +kernel
theorem dX11_word_145 : decode cX11_word 145 = .ok (.iconst 0, 1) := by decide +kernel
theorem dX11_word_146 : decode cX11_word 146 = .ok (.ireturn, 1) := by decide +kernel
theorem dX11_numberOf_0 : decode cX11_numberOf 0 = .ok (.aload_n 0, 1) := by decide +kernel
theorem dX11_numberOf_1 : decode cX11_numberOf 1 = .ok (.iload_n 1, 1) := by decide +kernel
theorem dX11_numberOf_2 : decode cX11_numberOf 2 = .ok (.invokevirtual 111, 3) := by decide +kernel
theorem dX11_numberOf_5 : decode cX11_numberOf 5 = .ok (.ifCond .eq 5, 3) := by decide +kernel
theorem dX11_numberOf_8 : decode cX11_numberOf 8 = .ok (.iconst 0, 1) := by decide +kernel
theorem dX11_numberOf_9 : decode cX11_numberOf 9 = .ok (.ireturn, 1) := by decide +kernel
theorem dX11_numberOf_10 : decode cX11_numberOf 10 = .ok (.aload_n 0, 1) := by decide +kernel
theorem dX11_numberOf_11 : decode cX11_numberOf 11 = .ok (.iload_n 1, 1) := by decide +kernel
theorem dX11_numberOf_12 : decode cX11_numberOf 12 = .ok (.invokevirtual 93, 3) := by decide +kernel
theorem dX11_numberOf_15 : decode cX11_numberOf 15 = .ok (.iconst 0, 1) := by decide +kernel
theorem dX11_numberOf_16 : decode cX11_numberOf 16 = .ok (.istore_n 2, 1) := by decide +kernel
theorem dX11_numberOf_17 : decode cX11_numberOf 17 = .ok (.iconst 0, 1) := by decide +kernel
theorem dX11_numberOf_18 : decode cX11_numberOf 18 = .ok (.istore_n 3, 1) := by decide +kernel
theorem dX11_numberOf_19 : decode cX11_numberOf 19 = .ok (.iload_n 3, 1) := by decide +kernel
theorem dX11_numberOf_20 : decode cX11_numberOf 20 = .ok (.aload_n 0, 1) := by decide +kernel
theorem dX11_numberOf_21 : decode cX11_numberOf 21 = .ok (.getfield 13, 3) := by decide +kernel
theorem dX11_numberOf_24 : decode cX11_numberOf 24 = .ok (.iload_n 1, 1) := by decide +kernel
theorem dX11_numberOf_25 : decode cX11_numberOf 25 = .ok (.iaload, 1) := by decide +kernel
theorem dX11_numberOf_26 : decode cX11_numberOf 26 = .ok (.if_icmp .ge 63, 3) := by decide +kernel
theorem dX11_numberOf_29 : decode cX11_numberOf 29 = .ok (.aload_n 0, 1) := by decide +kernel
theorem dX11_numberOf_30 : decode cX11_numberOf 30 = .ok (.iload_n 1, 1) := by decide +kernel
theorem dX11_numberOf_31 : decode cX11_numberOf 31 = .ok (.iload_n 3, 1) := by decide +kernel
theorem dX11_numberOf_32 : decode cX11_numberOf 32 = .ok (.invokevirtual 105, 3) := by decide +kernel
theorem dX11_numberOf_35 : decode cX11_numberOf 35 = .ok (.istore 4, 2) := by decide +kernel
theorem dX11_numberOf_37 : decode cX11_numberOf 37 = .ok (.aload_n 0, 1) := by decide +kernel
theorem dX11_numberOf_38 : decode cX11_numberOf 38 = .ok (.iconst 0, 1) := by decide +kernel
theorem dX11_numberOf_39 : decode cX11_numberOf 39 = .ok (.iload_n 1, 1) := by decide +kernel
theorem dX11_numberOf_40 : decode cX11_numberOf 40 = .ok (.aload_n 0, 1) := by decide +kernel
theorem dX11_numberOf_41 : decode cX11_numberOf 41 = .ok (.getfield 20, 3) := by decide +kernel
theorem dX11_numberOf_44 : decode cX11_numberOf 44 = .ok (.iload_n 3, 1) := by decide +kernel
theorem dX11_numberOf_45 : decode cX11_numberOf 45 = .ok (.iaload, 1) := by decide +kernel
theorem dX11_numberOf_46 : decode cX11_numberOf 46 = .ok (.invokevirtual 108, 3) := by decide +kernel
theorem dX11_numberOf_49 : decode cX11_numberOf 49 = .ok (.ifCond .eq 15, 3) := by decide +kernel
theorem dX11_numberOf_52 : decode cX11_numberOf 52 = .ok (.iload_n 2, 1) := by decide +kernel
theorem dX11_numberOf_53 : decode cX11_numberOf 53 = .ok (.aload_n 0, 1) := by decide +kernel
theorem dX11_numberOf_54 : decode cX11_numberOf 54 = .ok (.getfield 54, 3) := by decide +kernel
theorem dX11_numberOf_57 : decode cX11_numberOf 57 = .ok (.iadd, 1) := by decide +kernel
theorem dX11_numberOf_58 : decode cX11_numberOf 58 = .ok (.iload 4, 2) := by decide +kernel
theorem dX11_numberOf_60 : decode cX11_numberOf 60 = .ok (.isub, 1) := by decide +kernel
theorem dX11_numberOf_61 : decode cX11_numberOf 61 = .ok (.iconst 1, 1) := by decide +kernel
theorem dX11_numberOf_62 : decode cX11_numberOf 62 = .ok (.isub, 1) := by decide +kernel
theorem dX11_numberOf_63 : decode cX11_numberOf 63 = .ok (.ireturn, 1) := by decide +kernel
theorem dX11_numberOf_64 : decode cX11_numberOf 64 = .ok (.iload_n 2, 1) := by decide +kernel
theorem dX11_numberOf_65 : decode cX11_numberOf 65 = .ok (.aload_n 0, 1) := by decide +kernel
theorem dX11_numberOf_66 : decode cX11_numberOf 66 = .ok (.getfield 13, 3) := by decide +kernel
theorem dX11_numberOf_69 : decode cX11_numberOf 69 = .ok (.iload_n 1, 1) := by decide +kernel
theorem dX11_numberOf_70 : decode cX11_numberOf 70 = .ok (.iaload, 1) := by decide +kernel
theorem dX11_numberOf_71 : decode cX11_numberOf 71 = .ok (.aload_n 0, 1) := by decide +kernel
theorem dX11_numberOf_72 : decode cX11_numberOf 72 = .ok (.getfield 20, 3) := by decide +kernel
theorem dX11_numberOf_75 : decode cX11_numberOf 75 = .ok (.iload_n 3, 1) := by decide +kernel
theorem dX11_numberOf_76 : decode cX11_numberOf 76 = .ok (.iaload, 1) := by decide +kernel
theorem dX11_numberOf_77 : decode cX11_numberOf 77 = .ok (.isub, 1) := by decide +kernel
theorem dX11_numberOf_78 : decode cX11_numberOf 78 = .ok (.iload 4, 2) := by decide +kernel
theorem dX11_numberOf_80 : decode cX11_numberOf 80 = .ok (.isub, 1) := by decide +kernel
theorem dX11_numberOf_81 : decode cX11_numberOf 81 = .ok (.iadd, 1) := by decide +kernel
theorem dX11_numberOf_82 : decode cX11_numberOf 82 = .ok (.istore_n 2, 1) := by decide +kernel
theorem dX11_numberOf_83 : decode cX11_numberOf 83 = .ok (.iinc 3 1, 3) := by decide +kernel
theorem dX11_numberOf_86 : decode cX11_numberOf 86 = .ok (.goto (-67), 3) := by decide +kernel
theorem dX11_numberOf_89 : decode cX11_numberOf 89 = .ok (.aload_n 0, 1) := by decide +kernel
theorem dX11_numberOf_90 : decode cX11_numberOf 90 = .ok (.iconst 3, 1) := by decide +kernel
theorem dX11_numberOf_91 : decode cX11_numberOf 91 = .ok (.putfield 35, 3) := by decide +kernel
theorem dX11_numberOf_94 : decode cX11_numberOf 94 = .ok (.iconst 0, 1) := by decide +kernel
theorem dX11_numberOf_95 : decode cX11_numberOf 95 = .ok (.ireturn, 1) := by decide +kernel
theorem dX11_longestTwice_0 : decode cX11_longestTwice 0 = .ok (.iconst 0, 1) := by decide +kernel
theorem dX11_longestTwice_1 : decode cX11_longestTwice 1 = .ok (.istore_n 2, 1) := by decide +kernel
theorem dX11_longestTwice_2 : decode cX11_longestTwice 2 = .ok (.iconst 0, 1) := by decide +kernel
theorem dX11_longestTwice_3 : decode cX11_longestTwice 3 = .ok (.istore_n 3, 1) := by decide +kernel
theorem dX11_longestTwice_4 : decode cX11_longestTwice 4 = .ok (.iload_n 3, 1) := by decide +kernel
theorem dX11_longestTwice_5 : decode cX11_longestTwice 5 = .ok (.aload_n 0, 1) := by decide +kernel
theorem dX11_longestTwice_6 : decode cX11_longestTwice 6 = .ok (.getfield 13, 3) := by decide +kernel
theorem dX11_longestTwice_9 : decode cX11_longestTwice 9 = .ok (.iload_n 1, 1) := by decide +kernel
theorem dX11_longestTwice_10 : decode cX11_longestTwice 10 = .ok (.iaload, 1) := by decide +kernel
theorem dX11_longestTwice_11 : decode cX11_longestTwice 11 = .ok (.if_icmp .ge 55, 3) := by decide +kernel
theorem dX11_longestTwice_14 : decode cX11_longestTwice 14 = .ok (.iload_n 3, 1) := by decide +kernel
theorem dX11_longestTwice_15 : decode cX11_longestTwice 15 = .ok (.iconst 1, 1) := by decide +kernel
theorem dX11_longestTwice_16 : decode cX11_longestTwice 16 = .ok (.iadd, 1) := by decide +kernel
theorem dX11_longestTwice_17 : decode cX11_longestTwice 17 = .ok (.istore 4, 2) := by decide +kernel
theorem dX11_longestTwice_19 : decode cX11_longestTwice 19 = .ok (.iload 4, 2) := by decide +kernel
theorem dX11_longestTwice_21 : decode cX11_longestTwice 21 = .ok (.aload_n 0, 1) := by decide +kernel
theorem dX11_longestTwice_22 : decode cX11_longestTwice 22 = .ok (.getfield 13, 3) := by decide +kernel
theorem dX11_longestTwice_25 : decode cX11_longestTwice 25 = .ok (.iload_n 1, 1) := by decide +kernel
theorem dX11_longestTwice_26 : decode cX11_longestTwice 26 = .ok (.iaload, 1) := by decide +kernel
theorem dX11_longestTwice_27 : decode cX11_longestTwice 27 = .ok (.if_icmp .ge 33, 3) := by decide +kernel
theorem dX11_longestTwice_30 : decode cX11_longestTwice 30 = .ok (.aload_n 0, 1) := by decide +kernel
theorem dX11_longestTwice_31 : decode cX11_longestTwice 31 = .ok (.iload_n 1, 1) := by decide +kernel
theorem dX11_longestTwice_32 : decode cX11_longestTwice 32 = .ok (.iload_n 3, 1) := by decide +kernel
theorem dX11_longestTwice_33 : decode cX11_longestTwice 33 = .ok (.iload_n 1, 1) := by decide +kernel
theorem dX11_longestTwice_34 : decode cX11_longestTwice 34 = .ok (.iload 4, 2) := by decide +kernel
theorem dX11_longestTwice_36 : decode cX11_longestTwice 36 = .ok (.invokevirtual 102, 3) := by decide +kernel
theorem dX11_longestTwice_39 : decode cX11_longestTwice 39 = .ok (.istore 5, 2) := by decide +kernel
theorem dX11_longestTwice_41 : decode cX11_longestTwice 41 = .ok (.iload 5, 2) := by decide +kernel
theorem dX11_longestTwice_43 : decode cX11_longestTwice 43 = .ok (.iload_n 2, 1) := by decide +kernel
theorem dX11_longestTwice_44 : decode cX11_longestTwice 44 = .ok (.if_icmp .le 8, 3) := by decide +kernel
theorem dX11_longestTwice_47 : decode cX11_longestTwice 47 = .ok (.iload 5, 2) := by decide +kernel
theorem dX11_longestTwice_49 : decode cX11_longestTwice 49 = .ok (.goto 4, 3) := by decide +kernel
theorem dX11_longestTwice_52 : decode cX11_longestTwice 52 = .ok (.iload_n 2, 1) := by decide +kernel
theorem dX11_longestTwice_53 : decode cX11_longestTwice 53 = .ok (.istore_n 2, 1) := by decide +kernel
theorem dX11_longestTwice_54 : decode cX11_longestTwice 54 = .ok (.iinc 4 1, 3) := by decide +kernel
theorem dX11_longestTwice_57 : decode cX11_longestTwice 57 = .ok (.goto (-38), 3) := by decide +kernel
theorem dX11_longestTwice_60 : decode cX11_longestTwice 60 = .ok (.iinc 3 1, 3) := by decide +kernel
theorem dX11_longestTwice_63 : decode cX11_longestTwice 63 = .ok (.goto (-59), 3) := by decide +kernel
theorem dX11_longestTwice_66 : decode cX11_longestTwice 66 = .ok (.iload_n 2, 1) := by decide +kernel
theorem dX11_longestTwice_67 : decode cX11_longestTwice 67 = .ok (.ireturn, 1) := by decide +kernel
theorem dX11_places_0 : decode cX11_places 0 = .ok (.iconst 0, 1) := by decide +kernel
theorem dX11_places_1 : decode cX11_places 1 = .ok (.istore 5, 2) := by decide +kernel
theorem dX11_places_3 : decode cX11_places 3 = .ok (.iconst 0, 1) := by decide +kernel
theorem dX11_places_4 : decode cX11_places 4 = .ok (.istore 6, 2) := by decide +kernel
theorem dX11_places_6 : decode cX11_places 6 = .ok (.iload 6, 2) := by decide +kernel
theorem dX11_places_8 : decode cX11_places 8 = .ok (.iload_n 3, 1) := by decide +kernel
theorem dX11_places_9 : decode cX11_places 9 = .ok (.iadd, 1) := by decide +kernel
theorem dX11_places_10 : decode cX11_places 10 = .ok (.aload_n 0, 1) := by decide +kernel
theorem dX11_places_11 : decode cX11_places 11 = .ok (.getfield 13, 3) := by decide +kernel
theorem dX11_places_14 : decode cX11_places 14 = .ok (.iload 4, 2) := by decide +kernel
theorem dX11_places_16 : decode cX11_places 16 = .ok (.iaload, 1) := by decide +kernel
theorem dX11_places_17 : decode cX11_places 17 = .ok (.if_icmp .gt 33, 3) := by decide +kernel
theorem dX11_places_20 : decode cX11_places 20 = .ok (.iload 5, 2) := by decide +kernel
theorem dX11_places_22 : decode cX11_places 22 = .ok (.aload_n 0, 1) := by decide +kernel
theorem dX11_places_23 : decode cX11_places 23 = .ok (.iload_n 1, 1) := by decide +kernel
theorem dX11_places_24 : decode cX11_places 24 = .ok (.iload_n 2, 1) := by decide +kernel
theorem dX11_places_25 : decode cX11_places 25 = .ok (.iload 4, 2) := by decide +kernel
theorem dX11_places_27 : decode cX11_places 27 = .ok (.iload 6, 2) := by decide +kernel
theorem dX11_places_29 : decode cX11_places 29 = .ok (.invokevirtual 102, 3) := by decide +kernel
theorem dX11_places_32 : decode cX11_places 32 = .ok (.iload_n 3, 1) := by decide +kernel
theorem dX11_places_33 : decode cX11_places 33 = .ok (.if_icmp .lt 7, 3) := by decide +kernel
theorem dX11_places_36 : decode cX11_places 36 = .ok (.iconst 1, 1) := by decide +kernel
theorem dX11_places_37 : decode cX11_places 37 = .ok (.goto 4, 3) := by decide +kernel
theorem dX11_places_40 : decode cX11_places 40 = .ok (.iconst 0, 1) := by decide +kernel
theorem dX11_places_41 : decode cX11_places 41 = .ok (.iadd, 1) := by decide +kernel
theorem dX11_places_42 : decode cX11_places 42 = .ok (.istore 5, 2) := by decide +kernel
theorem dX11_places_44 : decode cX11_places 44 = .ok (.iinc 6 1, 3) := by decide +kernel
theorem dX11_places_47 : decode cX11_places 47 = .ok (.goto (-41), 3) := by decide +kernel
theorem dX11_places_50 : decode cX11_places 50 = .ok (.iload 5, 2) := by decide +kernel
theorem dX11_places_52 : decode cX11_places 52 = .ok (.ireturn, 1) := by decide +kernel
theorem dX11_twice_0 : decode cX11_twice 0 = .ok (.aload_n 0, 1) := by decide +kernel
theorem dX11_twice_1 : decode cX11_twice 1 = .ok (.iload_n 1, 1) := by decide +kernel
theorem dX11_twice_2 : decode cX11_twice 2 = .ok (.invokevirtual 68, 3) := by decide +kernel
theorem dX11_twice_5 : decode cX11_twice 5 = .ok (.ifCond .eq 7, 3) := by decide +kernel
theorem dX11_twice_8 : decode cX11_twice 8 = .ok (.iconst 0, 1) := by decide +kernel
theorem dX11_twice_9 : decode cX11_twice 9 = .ok (.goto 8, 3) := by decide +kernel
theorem dX11_twice_12 : decode cX11_twice 12 = .ok (.aload_n 0, 1) := by decide +kernel
theorem dX11_twice_13 : decode cX11_twice 13 = .ok (.iload_n 1, 1) := by decide +kernel
theorem dX11_twice_14 : decode cX11_twice 14 = .ok (.invokevirtual 124, 3) := by decide +kernel
theorem dX11_twice_17 : decode cX11_twice 17 = .ok (.ireturn, 1) := by decide +kernel
theorem dX11_twiceAt_0 : decode cX11_twiceAt 0 = .ok (.aload_n 0, 1) := by decide +kernel
theorem dX11_twiceAt_1 : decode cX11_twiceAt 1 = .ok (.iload_n 1, 1) := by decide +kernel
theorem dX11_twiceAt_2 : decode cX11_twiceAt 2 = .ok (.invokevirtual 68, 3) := by decide +kernel
theorem dX11_twiceAt_5 : decode cX11_twiceAt 5 = .ok (.ifCond .eq 5, 3) := by decide +kernel
theorem dX11_twiceAt_8 : decode cX11_twiceAt 8 = .ok (.iconst 0, 1) := by decide +kernel
theorem dX11_twiceAt_9 : decode cX11_twiceAt 9 = .ok (.ireturn, 1) := by decide +kernel
theorem dX11_twiceAt_10 : decode cX11_twiceAt 10 = .ok (.aload_n 0, 1) := by decide +kernel
theorem dX11_twiceAt_11 : decode cX11_twiceAt 11 = .ok (.iload_n 1, 1) := by decide +kernel
theorem dX11_twiceAt_12 : decode cX11_twiceAt 12 = .ok (.invokevirtual 124, 3) := by decide +kernel
theorem dX11_twiceAt_15 : decode cX11_twiceAt 15 = .ok (.istore_n 2, 1) := by decide +kernel
theorem dX11_twiceAt_16 : decode cX11_twiceAt 16 = .ok (.iconst (-1), 1) := by decide +kernel
theorem dX11_twiceAt_17 : decode cX11_twiceAt 17 = .ok (.istore_n 3, 1) := by decide +kernel
theorem dX11_twiceAt_18 : decode cX11_twiceAt 18 = .ok (.iconst 0, 1) := by decide +kernel
theorem dX11_twiceAt_19 : decode cX11_twiceAt 19 = .ok (.istore 4, 2) := by decide +kernel
theorem dX11_twiceAt_21 : decode cX11_twiceAt 21 = .ok (.iload_n 2, 1) := by decide +kernel
theorem dX11_twiceAt_22 : decode cX11_twiceAt 22 = .ok (.ifCond .le 54, 3) := by decide +kernel
theorem dX11_twiceAt_25 : decode cX11_twiceAt 25 = .ok (.iload 4, 2) := by decide +kernel
theorem dX11_twiceAt_27 : decode cX11_twiceAt 27 = .ok (.iload_n 2, 1) := by decide +kernel
theorem dX11_twiceAt_28 : decode cX11_twiceAt 28 = .ok (.iadd, 1) := by decide +kernel
theorem dX11_twiceAt_29 : decode cX11_twiceAt 29 = .ok (.aload_n 0, 1) := by decide +kernel
theorem dX11_twiceAt_30 : decode cX11_twiceAt 30 = .ok (.getfield 13, 3) := by decide +kernel
theorem dX11_twiceAt_33 : decode cX11_twiceAt 33 = .ok (.iload_n 1, 1) := by decide +kernel
theorem dX11_twiceAt_34 : decode cX11_twiceAt 34 = .ok (.iaload, 1) := by decide +kernel
theorem dX11_twiceAt_35 : decode cX11_twiceAt 35 = .ok (.if_icmp .gt 41, 3) := by decide +kernel
theorem dX11_twiceAt_38 : decode cX11_twiceAt 38 = .ok (.aload_n 0, 1) := by decide +kernel
theorem dX11_twiceAt_39 : decode cX11_twiceAt 39 = .ok (.iload_n 1, 1) := by decide +kernel
theorem dX11_twiceAt_40 : decode cX11_twiceAt 40 = .ok (.iload 4, 2) := by decide +kernel
theorem dX11_twiceAt_42 : decode cX11_twiceAt 42 = .ok (.iload_n 2, 1) := by decide +kernel
theorem dX11_twiceAt_43 : decode cX11_twiceAt 43 = .ok (.iload_n 1, 1) := by decide +kernel
theorem dX11_twiceAt_44 : decode cX11_twiceAt 44 = .ok (.invokevirtual 128, 3) := by decide +kernel
theorem dX11_twiceAt_47 : decode cX11_twiceAt 47 = .ok (.iconst 1, 1) := by decide +kernel
theorem dX11_twiceAt_48 : decode cX11_twiceAt 48 = .ok (.if_icmp .le 22, 3) := by decide +kernel
theorem dX11_twiceAt_51 : decode cX11_twiceAt 51 = .ok (.iload_n 3, 1) := by decide +kernel
theorem dX11_twiceAt_52 : decode cX11_twiceAt 52 = .ok (.ifCond .lt 15, 3) := by decide +kernel
theorem dX11_twiceAt_55 : decode cX11_twiceAt 55 = .ok (.aload_n 0, 1) := by decide +kernel
theorem dX11_twiceAt_56 : decode cX11_twiceAt 56 = .ok (.iload_n 1, 1) := by decide +kernel
theorem dX11_twiceAt_57 : decode cX11_twiceAt 57 = .ok (.iload 4, 2) := by decide +kernel
theorem dX11_twiceAt_59 : decode cX11_twiceAt 59 = .ok (.iload_n 3, 1) := by decide +kernel
theorem dX11_twiceAt_60 : decode cX11_twiceAt 60 = .ok (.iload_n 2, 1) := by decide +kernel
theorem dX11_twiceAt_61 : decode cX11_twiceAt 61 = .ok (.invokevirtual 86, 3) := by decide +kernel
theorem dX11_twiceAt_64 : decode cX11_twiceAt 64 = .ok (.ifCond .ge 6, 3) := by decide +kernel
theorem dX11_twiceAt_67 : decode cX11_twiceAt 67 = .ok (.iload 4, 2) := by decide +kernel
theorem dX11_twiceAt_69 : decode cX11_twiceAt 69 = .ok (.istore_n 3, 1) := by decide +kernel
theorem dX11_twiceAt_70 : decode cX11_twiceAt 70 = .ok (.iinc 4 1, 3) := by decide +kernel
theorem dX11_twiceAt_73 : decode cX11_twiceAt 73 = .ok (.goto (-52), 3) := by decide +kernel
theorem dX11_twiceAt_76 : decode cX11_twiceAt 76 = .ok (.aload_n 0, 1) := by decide +kernel
theorem dX11_twiceAt_77 : decode cX11_twiceAt 77 = .ok (.iload_n 3, 1) := by decide +kernel
theorem dX11_twiceAt_78 : decode cX11_twiceAt 78 = .ok (.ifCond .ge 7, 3) := by decide +kernel
theorem dX11_twiceAt_81 : decode cX11_twiceAt 81 = .ok (.iconst 2, 1) := by decide +kernel
theorem dX11_twiceAt_82 : decode cX11_twiceAt 82 = .ok (.goto 4, 3) := by decide +kernel
theorem dX11_twiceAt_85 : decode cX11_twiceAt 85 = .ok (.iconst 0, 1) := by decide +kernel
theorem dX11_twiceAt_86 : decode cX11_twiceAt 86 = .ok (.invokevirtual 57, 3) := by decide +kernel
theorem dX11_twiceAt_89 : decode cX11_twiceAt 89 = .ok (.ifCond .eq 7, 3) := by decide +kernel
theorem dX11_twiceAt_92 : decode cX11_twiceAt 92 = .ok (.iconst 0, 1) := by decide +kernel
theorem dX11_twiceAt_93 : decode cX11_twiceAt 93 = .ok (.goto 4, 3) := by decide +kernel
theorem dX11_twiceAt_96 : decode cX11_twiceAt 96 = .ok (.iload_n 3, 1) := by decide +kernel
theorem dX11_twiceAt_97 : decode cX11_twiceAt 97 = .ok (.ireturn, 1) := by decide +kernel
theorem dX11_alone_0 : decode cX11_alone 0 = .ok (.iconst 0, 1) := by decide +kernel
theorem dX11_alone_1 : decode cX11_alone 1 = .ok (.istore_n 3, 1) := by decide +kernel
theorem dX11_alone_2 : decode cX11_alone 2 = .ok (.iload_n 3, 1) := by decide +kernel
theorem dX11_alone_3 : decode cX11_alone 3 = .ok (.iload_n 2, 1) := by decide +kernel
theorem dX11_alone_4 : decode cX11_alone 4 = .ok (.iadd, 1) := by decide +kernel
theorem dX11_alone_5 : decode cX11_alone 5 = .ok (.aload_n 0, 1) := by decide +kernel
theorem dX11_alone_6 : decode cX11_alone 6 = .ok (.getfield 13, 3) := by decide +kernel
theorem dX11_alone_9 : decode cX11_alone 9 = .ok (.iload_n 1, 1) := by decide +kernel
theorem dX11_alone_10 : decode cX11_alone 10 = .ok (.iaload, 1) := by decide +kernel
theorem dX11_alone_11 : decode cX11_alone 11 = .ok (.if_icmp .gt 23, 3) := by decide +kernel
theorem dX11_alone_14 : decode cX11_alone 14 = .ok (.aload_n 0, 1) := by decide +kernel
theorem dX11_alone_15 : decode cX11_alone 15 = .ok (.iload_n 1, 1) := by decide +kernel
theorem dX11_alone_16 : decode cX11_alone 16 = .ok (.iload_n 3, 1) := by decide +kernel
theorem dX11_alone_17 : decode cX11_alone 17 = .ok (.iload_n 2, 1) := by decide +kernel
theorem dX11_alone_18 : decode cX11_alone 18 = .ok (.iload_n 1, 1) := by decide +kernel
theorem dX11_alone_19 : decode cX11_alone 19 = .ok (.invokevirtual 128, 3) := by decide +kernel
theorem dX11_alone_22 : decode cX11_alone 22 = .ok (.iconst 1, 1) := by decide +kernel
theorem dX11_alone_23 : decode cX11_alone 23 = .ok (.if_icmp .ne 5, 3) := by decide +kernel
theorem dX11_alone_26 : decode cX11_alone 26 = .ok (.iload_n 3, 1) := by decide +kernel
theorem dX11_alone_27 : decode cX11_alone 27 = .ok (.ireturn, 1) := by decide +kernel
theorem dX11_alone_28 : decode cX11_alone 28 = .ok (.iinc 3 1, 3) := by decide +kernel
theorem dX11_alone_31 : decode cX11_alone 31 = .ok (.goto (-29), 3) := by decide +kernel
theorem dX11_alone_34 : decode cX11_alone 34 = .ok (.iconst (-1), 1) := by decide +kernel
theorem dX11_alone_35 : decode cX11_alone 35 = .ok (.ireturn, 1) := by decide +kernel
theorem dX11_shortestAlone_0 : decode cX11_shortestAlone 0 = .ok (.iconst 1, 1) := by decide +kernel
theorem dX11_shortestAlone_1 : decode cX11_shortestAlone 1 = .ok (.istore_n 2, 1) := by decide +kernel
theorem dX11_shortestAlone_2 : decode cX11_shortestAlone 2 = .ok (.aload_n 0, 1) := by decide +kernel
theorem dX11_shortestAlone_3 : decode cX11_shortestAlone 3 = .ok (.iload_n 1, 1) := by decide +kernel
theorem dX11_shortestAlone_4 : decode cX11_shortestAlone 4 = .ok (.iload_n 2, 1) := by decide +kernel
theorem dX11_shortestAlone_5 : decode cX11_shortestAlone 5 = .ok (.invokevirtual 131, 3) := by decide +kernel
theorem dX11_shortestAlone_8 : decode cX11_shortestAlone 8 = .ok (.ifCond .ge 9, 3) := by decide +kernel
theorem dX11_shortestAlone_11 : decode cX11_shortestAlone 11 = .ok (.iinc 2 1, 3) := by decide +kernel
theorem dX11_shortestAlone_14 : decode cX11_shortestAlone 14 = .ok (.goto (-12), 3) := by decide +kernel
theorem dX11_shortestAlone_17 : decode cX11_shortestAlone 17 = .ok (.iload_n 2, 1) := by decide +kernel
theorem dX11_shortestAlone_18 : decode cX11_shortestAlone 18 = .ok (.ireturn, 1) := by decide +kernel
theorem dX11_isEmpty_0 : decode cX11_isEmpty 0 = .ok (.aload_n 0, 1) := by decide +kernel
theorem dX11_isEmpty_1 : decode cX11_isEmpty 1 = .ok (.aload_n 0, 1) := by decide +kernel
theorem dX11_isEmpty_2 : decode cX11_isEmpty 2 = .ok (.iload_n 1, 1) := by decide +kernel
theorem dX11_isEmpty_3 : decode cX11_isEmpty 3 = .ok (.invokevirtual 46, 3) := by decide +kernel
theorem dX11_isEmpty_6 : decode cX11_isEmpty 6 = .ok (.ifCond .ne 7, 3) := by decide +kernel
theorem dX11_isEmpty_9 : decode cX11_isEmpty 9 = .ok (.iconst 1, 1) := by decide +kernel
theorem dX11_isEmpty_10 : decode cX11_isEmpty 10 = .ok (.goto 17, 3) := by decide +kernel
theorem dX11_isEmpty_13 : decode cX11_isEmpty 13 = .ok (.aload_n 0, 1) := by decide +kernel
theorem dX11_isEmpty_14 : decode cX11_isEmpty 14 = .ok (.getfield 13, 3) := by decide +kernel
theorem dX11_isEmpty_17 : decode cX11_isEmpty 17 = .ok (.iload_n 1, 1) := by decide +kernel
theorem dX11_isEmpty_18 : decode cX11_isEmpty 18 = .ok (.iaload, 1) := by decide +kernel
theorem dX11_isEmpty_19 : decode cX11_isEmpty 19 = .ok (.ifCond .ne 7, 3) := by decide +kernel
theorem dX11_isEmpty_22 : decode cX11_isEmpty 22 = .ok (.iconst 2, 1) := by decide +kernel
theorem dX11_isEmpty_23 : decode cX11_isEmpty 23 = .ok (.goto 4, 3) := by decide +kernel
theorem dX11_isEmpty_26 : decode cX11_isEmpty 26 = .ok (.iconst 0, 1) := by decide +kernel
theorem dX11_isEmpty_27 : decode cX11_isEmpty 27 = .ok (.invokevirtual 57, 3) := by decide +kernel
theorem dX11_isEmpty_30 : decode cX11_isEmpty 30 = .ok (.ireturn, 1) := by decide +kernel
theorem dX11_once_0 : decode cX11_once 0 = .ok (.aload_n 0, 1) := by decide +kernel
theorem dX11_once_1 : decode cX11_once 1 = .ok (.iload_n 1, 1) := by decide +kernel
theorem dX11_once_2 : decode cX11_once 2 = .ok (.invokevirtual 134, 3) := by decide +kernel
theorem dX11_once_5 : decode cX11_once 5 = .ok (.ifCond .eq 7, 3) := by decide +kernel
theorem dX11_once_8 : decode cX11_once 8 = .ok (.iconst 0, 1) := by decide +kernel
theorem dX11_once_9 : decode cX11_once 9 = .ok (.goto 8, 3) := by decide +kernel
theorem dX11_once_12 : decode cX11_once 12 = .ok (.aload_n 0, 1) := by decide +kernel
theorem dX11_once_13 : decode cX11_once 13 = .ok (.iload_n 1, 1) := by decide +kernel
theorem dX11_once_14 : decode cX11_once 14 = .ok (.invokevirtual 137, 3) := by decide +kernel
theorem dX11_once_17 : decode cX11_once 17 = .ok (.ireturn, 1) := by decide +kernel
theorem dX11_onceAt_0 : decode cX11_onceAt 0 = .ok (.aload_n 0, 1) := by decide +kernel
theorem dX11_onceAt_1 : decode cX11_onceAt 1 = .ok (.iload_n 1, 1) := by decide +kernel
theorem dX11_onceAt_2 : decode cX11_onceAt 2 = .ok (.invokevirtual 134, 3) := by decide +kernel
theorem dX11_onceAt_5 : decode cX11_onceAt 5 = .ok (.ifCond .eq 7, 3) := by decide +kernel
theorem dX11_onceAt_8 : decode cX11_onceAt 8 = .ok (.iconst 0, 1) := by decide +kernel
theorem dX11_onceAt_9 : decode cX11_onceAt 9 = .ok (.goto 13, 3) := by decide +kernel
theorem dX11_onceAt_12 : decode cX11_onceAt 12 = .ok (.aload_n 0, 1) := by decide +kernel
theorem dX11_onceAt_13 : decode cX11_onceAt 13 = .ok (.iload_n 1, 1) := by decide +kernel
theorem dX11_onceAt_14 : decode cX11_onceAt 14 = .ok (.aload_n 0, 1) := by decide +kernel
theorem dX11_onceAt_15 : decode cX11_onceAt 15 = .ok (.iload_n 1, 1) := by decide +kernel
theorem dX11_onceAt_16 : decode cX11_onceAt 16 = .ok (.invokevirtual 137, 3) := by decide +kernel
theorem dX11_onceAt_19 : decode cX11_onceAt 19 = .ok (.invokevirtual 131, 3) := by decide +kernel
theorem dX11_onceAt_22 : decode cX11_onceAt 22 = .ok (.ireturn, 1) := by decide +kernel
theorem dX11_standsIn_0 : decode cX11_standsIn 0 = .ok (.iconst 0, 1) := by decide +kernel
theorem dX11_standsIn_1 : decode cX11_standsIn 1 = .ok (.istore 5, 2) := by decide +kernel
theorem dX11_standsIn_3 : decode cX11_standsIn 3 = .ok (.iconst 0, 1) := by decide +kernel
theorem dX11_standsIn_4 : decode cX11_standsIn 4 = .ok (.istore 6, 2) := by decide +kernel
theorem dX11_standsIn_6 : decode cX11_standsIn 6 = .ok (.iload 6, 2) := by decide +kernel
theorem dX11_standsIn_8 : decode cX11_standsIn 8 = .ok (.aload_n 0, 1) := by decide +kernel
theorem dX11_standsIn_9 : decode cX11_standsIn 9 = .ok (.getfield 39, 3) := by decide +kernel
theorem dX11_standsIn_12 : decode cX11_standsIn 12 = .ok (.if_icmp .ge 31, 3) := by decide +kernel
theorem dX11_standsIn_15 : decode cX11_standsIn 15 = .ok (.iload 5, 2) := by decide +kernel
theorem dX11_standsIn_17 : decode cX11_standsIn 17 = .ok (.aload_n 0, 1) := by decide +kernel
theorem dX11_standsIn_18 : decode cX11_standsIn 18 = .ok (.iload_n 1, 1) := by decide +kernel
theorem dX11_standsIn_19 : decode cX11_standsIn 19 = .ok (.iload_n 2, 1) := by decide +kernel
theorem dX11_standsIn_20 : decode cX11_standsIn 20 = .ok (.iload_n 3, 1) := by decide +kernel
theorem dX11_standsIn_21 : decode cX11_standsIn 21 = .ok (.iload 6, 2) := by decide +kernel
theorem dX11_standsIn_23 : decode cX11_standsIn 23 = .ok (.invokevirtual 128, 3) := by decide +kernel
theorem dX11_standsIn_26 : decode cX11_standsIn 26 = .ok (.ifCond .le 7, 3) := by decide +kernel
theorem dX11_standsIn_29 : decode cX11_standsIn 29 = .ok (.iconst 1, 1) := by decide +kernel
theorem dX11_standsIn_30 : decode cX11_standsIn 30 = .ok (.goto 4, 3) := by decide +kernel
theorem dX11_standsIn_33 : decode cX11_standsIn 33 = .ok (.iconst 0, 1) := by decide +kernel
theorem dX11_standsIn_34 : decode cX11_standsIn 34 = .ok (.iadd, 1) := by decide +kernel
theorem dX11_standsIn_35 : decode cX11_standsIn 35 = .ok (.istore 5, 2) := by decide +kernel
theorem dX11_standsIn_37 : decode cX11_standsIn 37 = .ok (.iinc 6 1, 3) := by decide +kernel
theorem dX11_standsIn_40 : decode cX11_standsIn 40 = .ok (.goto (-34), 3) := by decide +kernel
theorem dX11_standsIn_43 : decode cX11_standsIn 43 = .ok (.iload 5, 2) := by decide +kernel
theorem dX11_standsIn_45 : decode cX11_standsIn 45 = .ok (.iload 4, 2) := by decide +kernel
theorem dX11_standsIn_47 : decode cX11_standsIn 47 = .ok (.if_icmp .lt 7, 3) := by decide +kernel
theorem dX11_standsIn_50 : decode cX11_standsIn 50 = .ok (.iconst 1, 1) := by decide +kernel
theorem dX11_standsIn_51 : decode cX11_standsIn 51 = .ok (.goto 4, 3) := by decide +kernel
theorem dX11_standsIn_54 : decode cX11_standsIn 54 = .ok (.iconst 0, 1) := by decide +kernel
theorem dX11_standsIn_55 : decode cX11_standsIn 55 = .ok (.ireturn, 1) := by decide +kernel
theorem dX11_isLess_0 : decode cX11_isLess 0 = .ok (.aload_n 0, 1) := by decide +kernel
theorem dX11_isLess_1 : decode cX11_isLess 1 = .ok (.iload_n 1, 1) := by decide +kernel
theorem dX11_isLess_2 : decode cX11_isLess 2 = .ok (.iload_n 2, 1) := by decide +kernel
theorem dX11_isLess_3 : decode cX11_isLess 3 = .ok (.iload_n 3, 1) := by decide +kernel
theorem dX11_isLess_4 : decode cX11_isLess 4 = .ok (.iload 4, 2) := by decide +kernel
theorem dX11_isLess_6 : decode cX11_isLess 6 = .ok (.invokevirtual 102, 3) := by decide +kernel
theorem dX11_isLess_9 : decode cX11_isLess 9 = .ok (.istore 6, 2) := by decide +kernel
theorem dX11_isLess_11 : decode cX11_isLess 11 = .ok (.iload 6, 2) := by decide +kernel
theorem dX11_isLess_13 : decode cX11_isLess 13 = .ok (.iload 5, 2) := by decide +kernel
theorem dX11_isLess_15 : decode cX11_isLess 15 = .ok (.if_icmp .ge 39, 3) := by decide +kernel
theorem dX11_isLess_18 : decode cX11_isLess 18 = .ok (.aload_n 0, 1) := by decide +kernel
theorem dX11_isLess_19 : decode cX11_isLess 19 = .ok (.getfield 7, 3) := by decide +kernel
theorem dX11_isLess_22 : decode cX11_isLess 22 = .ok (.bipush 64, 2) := by decide +kernel
theorem dX11_isLess_24 : decode cX11_isLess 24 = .ok (.iload_n 1, 1) := by decide +kernel
theorem dX11_isLess_25 : decode cX11_isLess 25 = .ok (.imul, 1) := by decide +kernel
theorem dX11_isLess_26 : decode cX11_isLess 26 = .ok (.iload_n 2, 1) := by decide +kernel
theorem dX11_isLess_27 : decode cX11_isLess 27 = .ok (.iadd, 1) := by decide +kernel
theorem dX11_isLess_28 : decode cX11_isLess 28 = .ok (.iload 6, 2) := by decide +kernel
theorem dX11_isLess_30 : decode cX11_isLess 30 = .ok (.iadd, 1) := by decide +kernel
theorem dX11_isLess_31 : decode cX11_isLess 31 = .ok (.caload, 1) := by decide +kernel
theorem dX11_isLess_32 : decode cX11_isLess 32 = .ok (.aload_n 0, 1) := by decide +kernel
theorem dX11_isLess_33 : decode cX11_isLess 33 = .ok (.getfield 7, 3) := by decide +kernel
theorem dX11_isLess_36 : decode cX11_isLess 36 = .ok (.bipush 64, 2) := by decide +kernel
theorem dX11_isLess_38 : decode cX11_isLess 38 = .ok (.iload_n 3, 1) := by decide +kernel
theorem dX11_isLess_39 : decode cX11_isLess 39 = .ok (.imul, 1) := by decide +kernel
theorem dX11_isLess_40 : decode cX11_isLess 40 = .ok (.iload 4, 2) := by decide +kernel
theorem dX11_isLess_42 : decode cX11_isLess 42 = .ok (.iadd, 1) := by decide +kernel
theorem dX11_isLess_43 : decode cX11_isLess 43 = .ok (.iload 6, 2) := by decide +kernel
theorem dX11_isLess_45 : decode cX11_isLess 45 = .ok (.iadd, 1) := by decide +kernel
theorem dX11_isLess_46 : decode cX11_isLess 46 = .ok (.caload, 1) := by decide +kernel
theorem dX11_isLess_47 : decode cX11_isLess 47 = .ok (.if_icmp .ge 7, 3) := by decide +kernel
theorem dX11_isLess_50 : decode cX11_isLess 50 = .ok (.iconst 1, 1) := by decide +kernel
theorem dX11_isLess_51 : decode cX11_isLess 51 = .ok (.goto 4, 3) := by decide +kernel
theorem dX11_isLess_54 : decode cX11_isLess 54 = .ok (.iconst 0, 1) := by decide +kernel
theorem dX11_isLess_55 : decode cX11_isLess 55 = .ok (.ireturn, 1) := by decide +kernel
theorem dX11_longestIn_0 : decode cX11_longestIn 0 = .ok (.aload_n 0, 1) := by decide +kernel
theorem dX11_longestIn_1 : decode cX11_longestIn 1 = .ok (.iload_n 1, 1) := by decide +kernel
theorem dX11_longestIn_2 : decode cX11_longestIn 2 = .ok (.iconst 1, 1) := by decide +kernel
theorem dX11_longestIn_3 : decode cX11_longestIn 3 = .ok (.bipush 8, 2) := by decide +kernel
theorem dX11_longestIn_5 : decode cX11_longestIn 5 = .ok (.invokestatic 42, 3) := by decide +kernel
theorem dX11_longestIn_8 : decode cX11_longestIn 8 = .ok (.ifCond .eq 7, 3) := by decide +kernel
theorem dX11_longestIn_11 : decode cX11_longestIn 11 = .ok (.iconst 0, 1) := by decide +kernel
theorem dX11_longestIn_12 : decode cX11_longestIn 12 = .ok (.goto 4, 3) := by decide +kernel
theorem dX11_longestIn_15 : decode cX11_longestIn 15 = .ok (.iconst 1, 1) := by decide +kernel
theorem dX11_longestIn_16 : decode cX11_longestIn 16 = .ok (.invokevirtual 57, 3) := by decide +kernel
theorem dX11_longestIn_19 : decode cX11_longestIn 19 = .ok (.ifCond .eq 5, 3) := by decide +kernel
theorem dX11_longestIn_22 : decode cX11_longestIn 22 = .ok (.iconst 0, 1) := by decide +kernel
theorem dX11_longestIn_23 : decode cX11_longestIn 23 = .ok (.ireturn, 1) := by decide +kernel
theorem dX11_longestIn_24 : decode cX11_longestIn 24 = .ok (.bipush 64, 2) := by decide +kernel
theorem dX11_longestIn_26 : decode cX11_longestIn 26 = .ok (.istore_n 2, 1) := by decide +kernel
theorem dX11_longestIn_27 : decode cX11_longestIn 27 = .ok (.iload_n 2, 1) := by decide +kernel
theorem dX11_longestIn_28 : decode cX11_longestIn 28 = .ok (.ifCond .le 142, 3) := by decide +kernel
theorem dX11_longestIn_31 : decode cX11_longestIn 31 = .ok (.iconst (-1), 1) := by decide +kernel
theorem dX11_longestIn_32 : decode cX11_longestIn 32 = .ok (.istore_n 3, 1) := by decide +kernel
theorem dX11_longestIn_33 : decode cX11_longestIn 33 = .ok (.iconst 0, 1) := by decide +kernel
theorem dX11_longestIn_34 : decode cX11_longestIn 34 = .ok (.istore 4, 2) := by decide +kernel
theorem dX11_longestIn_36 : decode cX11_longestIn 36 = .ok (.iconst 0, 1) := by decide +kernel
theorem dX11_longestIn_37 : decode cX11_longestIn 37 = .ok (.istore 5, 2) := by decide +kernel
theorem dX11_longestIn_39 : decode cX11_longestIn 39 = .ok (.iload 5, 2) := by decide +kernel
theorem dX11_longestIn_41 : decode cX11_longestIn 41 = .ok (.aload_n 0, 1) := by decide +kernel
theorem dX11_longestIn_42 : decode cX11_longestIn 42 = .ok (.getfield 39, 3) := by decide +kernel
theorem dX11_longestIn_45 : decode cX11_longestIn 45 = .ok (.if_icmp .ge 71, 3) := by decide +kernel
theorem dX11_longestIn_48 : decode cX11_longestIn 48 = .ok (.iconst 0, 1) := by decide +kernel
theorem dX11_longestIn_49 : decode cX11_longestIn 49 = .ok (.istore 6, 2) := by decide +kernel
theorem dX11_longestIn_51 : decode cX11_longestIn 51 = .ok (.iload 6, 2) := by decide +kernel
theorem dX11_longestIn_53 : decode cX11_longestIn 53 = .ok (.iload_n 2, 1) := by decide +kernel
theorem dX11_longestIn_54 : decode cX11_longestIn 54 = .ok (.iadd, 1) := by decide +kernel
theorem dX11_longestIn_55 : decode cX11_longestIn 55 = .ok (.aload_n 0, 1) := by decide +kernel
theorem dX11_longestIn_56 : decode cX11_longestIn 56 = .ok (.getfield 13, 3) := by decide +kernel
theorem dX11_longestIn_59 : decode cX11_longestIn 59 = .ok (.iload 5, 2) := by decide +kernel
theorem dX11_longestIn_61 : decode cX11_longestIn 61 = .ok (.iaload, 1) := by decide +kernel
theorem dX11_longestIn_62 : decode cX11_longestIn 62 = .ok (.if_icmp .gt 48, 3) := by decide +kernel
theorem dX11_longestIn_65 : decode cX11_longestIn 65 = .ok (.iload_n 3, 1) := by decide +kernel
theorem dX11_longestIn_66 : decode cX11_longestIn 66 = .ok (.ifCond .lt 18, 3) := by decide +kernel
theorem dX11_longestIn_69 : decode cX11_longestIn 69 = .ok (.aload_n 0, 1) := by decide +kernel
theorem dX11_longestIn_70 : decode cX11_longestIn 70 = .ok (.iload 5, 2) := by decide +kernel
theorem dX11_longestIn_72 : decode cX11_longestIn 72 = .ok (.iload 6, 2) := by decide +kernel
theorem dX11_longestIn_74 : decode cX11_longestIn 74 = .ok (.iload_n 3, 1) := by decide +kernel
theorem dX11_longestIn_75 : decode cX11_longestIn 75 = .ok (.iload 4, 2) := by decide +kernel
theorem dX11_longestIn_77 : decode cX11_longestIn 77 = .ok (.iload_n 2, 1) := by decide +kernel
theorem dX11_longestIn_78 : decode cX11_longestIn 78 = .ok (.invokevirtual 140, 3) := by decide +kernel
theorem dX11_longestIn_81 : decode cX11_longestIn 81 = .ok (.ifCond .eq 23, 3) := by decide +kernel
theorem dX11_longestIn_84 : decode cX11_longestIn 84 = .ok (.aload_n 0, 1) := by decide +kernel
theorem dX11_longestIn_85 : decode cX11_longestIn 85 = .ok (.iload 5, 2) := by decide +kernel
theorem dX11_longestIn_87 : decode cX11_longestIn 87 = .ok (.iload 6, 2) := by decide +kernel
theorem dX11_longestIn_89 : decode cX11_longestIn 89 = .ok (.iload_n 2, 1) := by decide +kernel
theorem dX11_longestIn_90 : decode cX11_longestIn 90 = .ok (.iload_n 1, 1) := by decide +kernel
theorem dX11_longestIn_91 : decode cX11_longestIn 91 = .ok (.invokevirtual 144, 3) := by decide +kernel
theorem dX11_longestIn_94 : decode cX11_longestIn 94 = .ok (.ifCond .eq 10, 3) := by decide +kernel
theorem dX11_longestIn_97 : decode cX11_longestIn 97 = .ok (.iload 5, 2) := by decide +kernel
theorem dX11_longestIn_99 : decode cX11_longestIn 99 = .ok (.istore_n 3, 1) := by decide +kernel
theorem dX11_longestIn_100 : decode cX11_longestIn 100 = .ok (.iload 6, 2) := by decide +kernel
theorem dX11_longestIn_102 : decode cX11_longestIn 102 = .ok (.istore 4, 2) := by decide +kernel
theorem dX11_longestIn_104 : decode cX11_longestIn 104 = .ok (.iinc 6 1, 3) := by decide +kernel
theorem dX11_longestIn_107 : decode cX11_longestIn 107 = .ok (.goto (-56), 3) := by decide +kernel
theorem dX11_longestIn_110 : decode cX11_longestIn 110 = .ok (.iinc 5 1, 3) := by decide +kernel
theorem dX11_longestIn_113 : decode cX11_longestIn 113 = .ok (.goto (-74), 3) := by decide +kernel
theorem dX11_longestIn_116 : decode cX11_longestIn 116 = .ok (.iload_n 3, 1) := by decide +kernel
theorem dX11_longestIn_117 : decode cX11_longestIn 117 = .ok (.ifCond .lt 47, 3) := by decide +kernel
theorem dX11_longestIn_120 : decode cX11_longestIn 120 = .ok (.iconst 0, 1) := by decide +kernel
theorem dX11_longestIn_121 : decode cX11_longestIn 121 = .ok (.istore 5, 2) := by decide +kernel
theorem dX11_longestIn_123 : decode cX11_longestIn 123 = .ok (.iload 5, 2) := by decide +kernel
theorem dX11_longestIn_125 : decode cX11_longestIn 125 = .ok (.iload_n 2, 1) := by decide +kernel
theorem dX11_longestIn_126 : decode cX11_longestIn 126 = .ok (.if_icmp .ge 31, 3) := by decide +kernel
theorem dX11_longestIn_129 : decode cX11_longestIn 129 = .ok (.aload_n 0, 1) := by decide +kernel
theorem dX11_longestIn_130 : decode cX11_longestIn 130 = .ok (.getfield 17, 3) := by decide +kernel
theorem dX11_longestIn_133 : decode cX11_longestIn 133 = .ok (.iload 5, 2) := by decide +kernel
theorem dX11_longestIn_135 : decode cX11_longestIn 135 = .ok (.aload_n 0, 1) := by decide +kernel
theorem dX11_longestIn_136 : decode cX11_longestIn 136 = .ok (.getfield 7, 3) := by decide +kernel
theorem dX11_longestIn_139 : decode cX11_longestIn 139 = .ok (.bipush 64, 2) := by decide +kernel
theorem dX11_longestIn_141 : decode cX11_longestIn 141 = .ok (.iload_n 3, 1) := by decide +kernel
theorem dX11_longestIn_142 : decode cX11_longestIn 142 = .ok (.imul, 1) := by decide +kernel
theorem dX11_longestIn_143 : decode cX11_longestIn 143 = .ok (.iload 4, 2) := by decide +kernel
theorem dX11_longestIn_145 : decode cX11_longestIn 145 = .ok (.iadd, 1) := by decide +kernel
theorem dX11_longestIn_146 : decode cX11_longestIn 146 = .ok (.iload 5, 2) := by decide +kernel
theorem dX11_longestIn_148 : decode cX11_longestIn 148 = .ok (.iadd, 1) := by decide +kernel
theorem dX11_longestIn_149 : decode cX11_longestIn 149 = .ok (.caload, 1) := by decide +kernel
theorem dX11_longestIn_150 : decode cX11_longestIn 150 = .ok (.castore, 1) := by decide +kernel
theorem dX11_longestIn_151 : decode cX11_longestIn 151 = .ok (.iinc 5 1, 3) := by decide +kernel
theorem dX11_longestIn_154 : decode cX11_longestIn 154 = .ok (.goto (-31), 3) := by decide +kernel
theorem dX11_longestIn_157 : decode cX11_longestIn 157 = .ok (.aload_n 0, 1) := by decide +kernel
theorem dX11_longestIn_158 : decode cX11_longestIn 158 = .ok (.iload_n 2, 1) := by decide +kernel
theorem dX11_longestIn_159 : decode cX11_longestIn 159 = .ok (.putfield 54, 3) := by decide +kernel
theorem dX11_longestIn_162 : decode cX11_longestIn 162 = .ok (.iload_n 2, 1) := by decide +kernel
theorem dX11_longestIn_163 : decode cX11_longestIn 163 = .ok (.ireturn, 1) := by decide +kernel
theorem dX11_longestIn_164 : decode cX11_longestIn 164 = .ok (.iinc 2 (-1), 3) := by decide +kernel
theorem dX11_longestIn_167 : decode cX11_longestIn 167 = .ok (.goto (-140), 3) := by decide +kernel
theorem dX11_longestIn_170 : decode cX11_longestIn 170 = .ok (.aload_n 0, 1) := by decide +kernel
theorem dX11_longestIn_171 : decode cX11_longestIn 171 = .ok (.iconst 2, 1) := by decide +kernel
theorem dX11_longestIn_172 : decode cX11_longestIn 172 = .ok (.putfield 35, 3) := by decide +kernel
theorem dX11_longestIn_175 : decode cX11_longestIn 175 = .ok (.iconst 0, 1) := by decide +kernel
theorem dX11_longestIn_176 : decode cX11_longestIn 176 = .ok (.ireturn, 1) := by decide +kernel
theorem dX11_around_0 : decode cX11_around 0 = .ok (.iload_n 2, 1) := by decide +kernel
theorem dX11_around_1 : decode cX11_around 1 = .ok (.aload_n 0, 1) := by decide +kernel
theorem dX11_around_2 : decode cX11_around 2 = .ok (.getfield 13, 3) := by decide +kernel
theorem dX11_around_5 : decode cX11_around 5 = .ok (.iload_n 1, 1) := by decide +kernel
theorem dX11_around_6 : decode cX11_around 6 = .ok (.iaload, 1) := by decide +kernel
theorem dX11_around_7 : decode cX11_around 7 = .ok (.iconst 1, 1) := by decide +kernel
theorem dX11_around_8 : decode cX11_around 8 = .ok (.iadd, 1) := by decide +kernel
theorem dX11_around_9 : decode cX11_around 9 = .ok (.irem, 1) := by decide +kernel
theorem dX11_around_10 : decode cX11_around 10 = .ok (.istore_n 3, 1) := by decide +kernel
theorem dX11_around_11 : decode cX11_around 11 = .ok (.iload_n 3, 1) := by decide +kernel
theorem dX11_around_12 : decode cX11_around 12 = .ok (.aload_n 0, 1) := by decide +kernel
theorem dX11_around_13 : decode cX11_around 13 = .ok (.getfield 13, 3) := by decide +kernel
theorem dX11_around_16 : decode cX11_around 16 = .ok (.iload_n 1, 1) := by decide +kernel
theorem dX11_around_17 : decode cX11_around 17 = .ok (.iaload, 1) := by decide +kernel
theorem dX11_around_18 : decode cX11_around 18 = .ok (.if_icmp .ne 8, 3) := by decide +kernel
theorem dX11_around_21 : decode cX11_around 21 = .ok (.bipush 36, 2) := by decide +kernel
theorem dX11_around_23 : decode cX11_around 23 = .ok (.goto 14, 3) := by decide +kernel
theorem dX11_around_26 : decode cX11_around 26 = .ok (.aload_n 0, 1) := by decide +kernel
theorem dX11_around_27 : decode cX11_around 27 = .ok (.getfield 7, 3) := by decide +kernel
theorem dX11_around_30 : decode cX11_around 30 = .ok (.bipush 64, 2) := by decide +kernel
theorem dX11_around_32 : decode cX11_around 32 = .ok (.iload_n 1, 1) := by decide +kernel
theorem dX11_around_33 : decode cX11_around 33 = .ok (.imul, 1) := by decide +kernel
theorem dX11_around_34 : decode cX11_around 34 = .ok (.iload_n 3, 1) := by decide +kernel
theorem dX11_around_35 : decode cX11_around 35 = .ok (.iadd, 1) := by decide +kernel
theorem dX11_around_36 : decode cX11_around 36 = .ok (.caload, 1) := by decide +kernel
theorem dX11_around_37 : decode cX11_around 37 = .ok (.ireturn, 1) := by decide +kernel
theorem dX11_isTurnedLess_0 : decode cX11_isTurnedLess 0 = .ok (.iconst 0, 1) := by decide +kernel
theorem dX11_isTurnedLess_1 : decode cX11_isTurnedLess 1 = .ok (.istore 4, 2) := by decide +kernel
theorem dX11_isTurnedLess_3 : decode cX11_isTurnedLess 3 = .ok (.iload 4, 2) := by decide +kernel
theorem dX11_isTurnedLess_5 : decode cX11_isTurnedLess 5 = .ok (.aload_n 0, 1) := by decide +kernel
theorem dX11_isTurnedLess_6 : decode cX11_isTurnedLess 6 = .ok (.getfield 13, 3) := by decide +kernel
theorem dX11_isTurnedLess_9 : decode cX11_isTurnedLess 9 = .ok (.iload_n 1, 1) := by decide +kernel
theorem dX11_isTurnedLess_10 : decode cX11_isTurnedLess 10 = .ok (.iaload, 1) := by decide +kernel
theorem dX11_isTurnedLess_11 : decode cX11_isTurnedLess 11 = .ok (.if_icmp .gt 57, 3) := by decide +kernel
theorem dX11_isTurnedLess_14 : decode cX11_isTurnedLess 14 = .ok (.aload_n 0, 1) := by decide +kernel
theorem dX11_isTurnedLess_15 : decode cX11_isTurnedLess 15 = .ok (.iload_n 1, 1) := by decide +kernel
theorem dX11_isTurnedLess_16 : decode cX11_isTurnedLess 16 = .ok (.iload_n 2, 1) := by decide +kernel
theorem dX11_isTurnedLess_17 : decode cX11_isTurnedLess 17 = .ok (.iload 4, 2) := by decide +kernel
theorem dX11_isTurnedLess_19 : decode cX11_isTurnedLess 19 = .ok (.iadd, 1) := by decide +kernel
theorem dX11_isTurnedLess_20 : decode cX11_isTurnedLess 20 = .ok (.invokevirtual 148, 3) := by decide +kernel
theorem dX11_isTurnedLess_23 : decode cX11_isTurnedLess 23 = .ok (.aload_n 0, 1) := by decide +kernel
theorem dX11_isTurnedLess_24 : decode cX11_isTurnedLess 24 = .ok (.iload_n 1, 1) := by decide +kernel
theorem dX11_isTurnedLess_25 : decode cX11_isTurnedLess 25 = .ok (.iload_n 3, 1) := by decide +kernel
theorem dX11_isTurnedLess_26 : decode cX11_isTurnedLess 26 = .ok (.iload 4, 2) := by decide +kernel
theorem dX11_isTurnedLess_28 : decode cX11_isTurnedLess 28 = .ok (.iadd, 1) := by decide +kernel
theorem dX11_isTurnedLess_29 : decode cX11_isTurnedLess 29 = .ok (.invokevirtual 148, 3) := by decide +kernel
theorem dX11_isTurnedLess_32 : decode cX11_isTurnedLess 32 = .ok (.if_icmp .eq 30, 3) := by decide +kernel
theorem dX11_isTurnedLess_35 : decode cX11_isTurnedLess 35 = .ok (.aload_n 0, 1) := by decide +kernel
theorem dX11_isTurnedLess_36 : decode cX11_isTurnedLess 36 = .ok (.iload_n 1, 1) := by decide +kernel
theorem dX11_isTurnedLess_37 : decode cX11_isTurnedLess 37 = .ok (.iload_n 2, 1) := by decide +kernel
theorem dX11_isTurnedLess_38 : decode cX11_isTurnedLess 38 = .ok (.iload 4, 2) := by decide +kernel
theorem dX11_isTurnedLess_40 : decode cX11_isTurnedLess 40 = .ok (.iadd, 1) := by decide +kernel
theorem dX11_isTurnedLess_41 : decode cX11_isTurnedLess 41 = .ok (.invokevirtual 148, 3) := by decide +kernel
theorem dX11_isTurnedLess_44 : decode cX11_isTurnedLess 44 = .ok (.aload_n 0, 1) := by decide +kernel
theorem dX11_isTurnedLess_45 : decode cX11_isTurnedLess 45 = .ok (.iload_n 1, 1) := by decide +kernel
theorem dX11_isTurnedLess_46 : decode cX11_isTurnedLess 46 = .ok (.iload_n 3, 1) := by decide +kernel
theorem dX11_isTurnedLess_47 : decode cX11_isTurnedLess 47 = .ok (.iload 4, 2) := by decide +kernel
theorem dX11_isTurnedLess_49 : decode cX11_isTurnedLess 49 = .ok (.iadd, 1) := by decide +kernel
theorem dX11_isTurnedLess_50 : decode cX11_isTurnedLess 50 = .ok (.invokevirtual 148, 3) := by decide +kernel
theorem dX11_isTurnedLess_53 : decode cX11_isTurnedLess 53 = .ok (.if_icmp .ge 7, 3) := by decide +kernel
theorem dX11_isTurnedLess_56 : decode cX11_isTurnedLess 56 = .ok (.iconst 1, 1) := by decide +kernel
theorem dX11_isTurnedLess_57 : decode cX11_isTurnedLess 57 = .ok (.goto 4, 3) := by decide +kernel
theorem dX11_isTurnedLess_60 : decode cX11_isTurnedLess 60 = .ok (.iconst 0, 1) := by decide +kernel
theorem dX11_isTurnedLess_61 : decode cX11_isTurnedLess 61 = .ok (.ireturn, 1) := by decide +kernel
theorem dX11_isTurnedLess_62 : decode cX11_isTurnedLess 62 = .ok (.iinc 4 1, 3) := by decide +kernel
theorem dX11_isTurnedLess_65 : decode cX11_isTurnedLess 65 = .ok (.goto (-62), 3) := by decide +kernel
theorem dX11_isTurnedLess_68 : decode cX11_isTurnedLess 68 = .ok (.iconst 0, 1) := by decide +kernel
theorem dX11_isTurnedLess_69 : decode cX11_isTurnedLess 69 = .ok (.ireturn, 1) := by decide +kernel
theorem dX11_turns_0 : decode cX11_turns 0 = .ok (.iconst 0, 1) := by decide +kernel
theorem dX11_turns_1 : decode cX11_turns 1 = .ok (.istore_n 2, 1) := by decide +kernel
theorem dX11_turns_2 : decode cX11_turns 2 = .ok (.iload_n 2, 1) := by decide +kernel
theorem dX11_turns_3 : decode cX11_turns 3 = .ok (.aload_n 0, 1) := by decide +kernel
theorem dX11_turns_4 : decode cX11_turns 4 = .ok (.getfield 13, 3) := by decide +kernel
theorem dX11_turns_7 : decode cX11_turns 7 = .ok (.iload_n 1, 1) := by decide +kernel
theorem dX11_turns_8 : decode cX11_turns 8 = .ok (.iaload, 1) := by decide +kernel
theorem dX11_turns_9 : decode cX11_turns 9 = .ok (.if_icmp .gt 57, 3) := by decide +kernel
theorem dX11_turns_12 : decode cX11_turns 12 = .ok (.iconst 0, 1) := by decide +kernel
theorem dX11_turns_13 : decode cX11_turns 13 = .ok (.istore_n 3, 1) := by decide +kernel
theorem dX11_turns_14 : decode cX11_turns 14 = .ok (.iconst 0, 1) := by decide +kernel
theorem dX11_turns_15 : decode cX11_turns 15 = .ok (.istore 4, 2) := by decide +kernel
theorem dX11_turns_17 : decode cX11_turns 17 = .ok (.iload 4, 2) := by decide +kernel
theorem dX11_turns_19 : decode cX11_turns 19 = .ok (.aload_n 0, 1) := by decide +kernel
theorem dX11_turns_20 : decode cX11_turns 20 = .ok (.getfield 13, 3) := by decide +kernel
theorem dX11_turns_23 : decode cX11_turns 23 = .ok (.iload_n 1, 1) := by decide +kernel
theorem dX11_turns_24 : decode cX11_turns 24 = .ok (.iaload, 1) := by decide +kernel
theorem dX11_turns_25 : decode cX11_turns 25 = .ok (.if_icmp .gt 28, 3) := by decide +kernel
theorem dX11_turns_28 : decode cX11_turns 28 = .ok (.iload_n 3, 1) := by decide +kernel
theorem dX11_turns_29 : decode cX11_turns 29 = .ok (.aload_n 0, 1) := by decide +kernel
theorem dX11_turns_30 : decode cX11_turns 30 = .ok (.iload_n 1, 1) := by decide +kernel
theorem dX11_turns_31 : decode cX11_turns 31 = .ok (.iload 4, 2) := by decide +kernel
theorem dX11_turns_33 : decode cX11_turns 33 = .ok (.iload_n 2, 1) := by decide +kernel
theorem dX11_turns_34 : decode cX11_turns 34 = .ok (.invokevirtual 152, 3) := by decide +kernel
theorem dX11_turns_37 : decode cX11_turns 37 = .ok (.ifCond .eq 7, 3) := by decide +kernel
theorem dX11_turns_40 : decode cX11_turns 40 = .ok (.iconst 1, 1) := by decide +kernel
theorem dX11_turns_41 : decode cX11_turns 41 = .ok (.goto 4, 3) := by decide +kernel
theorem dX11_turns_44 : decode cX11_turns 44 = .ok (.iconst 0, 1) := by decide +kernel
theorem dX11_turns_45 : decode cX11_turns 45 = .ok (.iadd, 1) := by decide +kernel
theorem dX11_turns_46 : decode cX11_turns 46 = .ok (.istore_n 3, 1) := by decide +kernel
theorem dX11_turns_47 : decode cX11_turns 47 = .ok (.iinc 4 1, 3) := by decide +kernel
theorem dX11_turns_50 : decode cX11_turns 50 = .ok (.goto (-33), 3) := by decide +kernel
theorem dX11_turns_53 : decode cX11_turns 53 = .ok (.aload_n 0, 1) := by decide +kernel
theorem dX11_turns_54 : decode cX11_turns 54 = .ok (.getfield 23, 3) := by decide +kernel
theorem dX11_turns_57 : decode cX11_turns 57 = .ok (.iload_n 3, 1) := by decide +kernel
theorem dX11_turns_58 : decode cX11_turns 58 = .ok (.iload_n 2, 1) := by decide +kernel
theorem dX11_turns_59 : decode cX11_turns 59 = .ok (.iastore, 1) := by decide +kernel
theorem dX11_turns_60 : decode cX11_turns 60 = .ok (.iinc 2 1, 3) := by decide +kernel
theorem dX11_turns_63 : decode cX11_turns 63 = .ok (.goto (-61), 3) := by decide +kernel
theorem dX11_turns_66 : decode cX11_turns 66 = .ok (.return_, 1) := by decide +kernel
theorem dX11_lastAt_0 : decode cX11_lastAt 0 = .ok (.aload_n 0, 1) := by decide +kernel
theorem dX11_lastAt_1 : decode cX11_lastAt 1 = .ok (.iload_n 1, 1) := by decide +kernel
theorem dX11_lastAt_2 : decode cX11_lastAt 2 = .ok (.aload_n 0, 1) := by decide +kernel
theorem dX11_lastAt_3 : decode cX11_lastAt 3 = .ok (.getfield 23, 3) := by decide +kernel
theorem dX11_lastAt_6 : decode cX11_lastAt 6 = .ok (.iload_n 2, 1) := by decide +kernel
theorem dX11_lastAt_7 : decode cX11_lastAt 7 = .ok (.iaload, 1) := by decide +kernel
theorem dX11_lastAt_8 : decode cX11_lastAt 8 = .ok (.aload_n 0, 1) := by decide +kernel
theorem dX11_lastAt_9 : decode cX11_lastAt 9 = .ok (.getfield 13, 3) := by decide +kernel
theorem dX11_lastAt_12 : decode cX11_lastAt 12 = .ok (.iload_n 1, 1) := by decide +kernel
theorem dX11_lastAt_13 : decode cX11_lastAt 13 = .ok (.iaload, 1) := by decide +kernel
theorem dX11_lastAt_14 : decode cX11_lastAt 14 = .ok (.iadd, 1) := by decide +kernel
theorem dX11_lastAt_15 : decode cX11_lastAt 15 = .ok (.invokevirtual 148, 3) := by decide +kernel
theorem dX11_lastAt_18 : decode cX11_lastAt 18 = .ok (.ireturn, 1) := by decide +kernel
theorem dX11_isNoRow_0 : decode cX11_isNoRow 0 = .ok (.aload_n 0, 1) := by decide +kernel
theorem dX11_isNoRow_1 : decode cX11_isNoRow 1 = .ok (.aload_n 0, 1) := by decide +kernel
theorem dX11_isNoRow_2 : decode cX11_isNoRow 2 = .ok (.iload_n 1, 1) := by decide +kernel
theorem dX11_isNoRow_3 : decode cX11_isNoRow 3 = .ok (.invokevirtual 46, 3) := by decide +kernel
theorem dX11_isNoRow_6 : decode cX11_isNoRow 6 = .ok (.ifCond .eq 21, 3) := by decide +kernel
theorem dX11_isNoRow_9 : decode cX11_isNoRow 9 = .ok (.iload_n 2, 1) := by decide +kernel
theorem dX11_isNoRow_10 : decode cX11_isNoRow 10 = .ok (.iconst 0, 1) := by decide +kernel
theorem dX11_isNoRow_11 : decode cX11_isNoRow 11 = .ok (.aload_n 0, 1) := by decide +kernel
theorem dX11_isNoRow_12 : decode cX11_isNoRow 12 = .ok (.getfield 13, 3) := by decide +kernel
theorem dX11_isNoRow_15 : decode cX11_isNoRow 15 = .ok (.iload_n 1, 1) := by decide +kernel
theorem dX11_isNoRow_16 : decode cX11_isNoRow 16 = .ok (.iaload, 1) := by decide +kernel
theorem dX11_isNoRow_17 : decode cX11_isNoRow 17 = .ok (.invokestatic 42, 3) := by decide +kernel
theorem dX11_isNoRow_20 : decode cX11_isNoRow 20 = .ok (.ifCond .eq 7, 3) := by decide +kernel
theorem dX11_isNoRow_23 : decode cX11_isNoRow 23 = .ok (.iconst 0, 1) := by decide +kernel
theorem dX11_isNoRow_24 : decode cX11_isNoRow 24 = .ok (.goto 4, 3) := by decide +kernel
theorem dX11_isNoRow_27 : decode cX11_isNoRow 27 = .ok (.iconst 1, 1) := by decide +kernel
theorem dX11_isNoRow_28 : decode cX11_isNoRow 28 = .ok (.invokevirtual 57, 3) := by decide +kernel
theorem dX11_isNoRow_31 : decode cX11_isNoRow 31 = .ok (.ifCond .eq 5, 3) := by decide +kernel
theorem dX11_isNoRow_34 : decode cX11_isNoRow 34 = .ok (.iconst 1, 1) := by decide +kernel
theorem dX11_isNoRow_35 : decode cX11_isNoRow 35 = .ok (.ireturn, 1) := by decide +kernel
theorem dX11_isNoRow_36 : decode cX11_isNoRow 36 = .ok (.aload_n 0, 1) := by decide +kernel
theorem dX11_isNoRow_37 : decode cX11_isNoRow 37 = .ok (.iload_n 1, 1) := by decide +kernel
theorem dX11_isNoRow_38 : decode cX11_isNoRow 38 = .ok (.invokevirtual 155, 3) := by decide +kernel
theorem dX11_isNoRow_41 : decode cX11_isNoRow 41 = .ok (.iconst 0, 1) := by decide +kernel
theorem dX11_isNoRow_42 : decode cX11_isNoRow 42 = .ok (.ireturn, 1) := by decide +kernel
theorem dX11_first_0 : decode cX11_first 0 = .ok (.aload_n 0, 1) := by decide +kernel
theorem dX11_first_1 : decode cX11_first 1 = .ok (.iload_n 1, 1) := by decide +kernel
theorem dX11_first_2 : decode cX11_first 2 = .ok (.iload_n 2, 1) := by decide +kernel
theorem dX11_first_3 : decode cX11_first 3 = .ok (.invokevirtual 158, 3) := by decide +kernel
theorem dX11_first_6 : decode cX11_first 6 = .ok (.ifCond .eq 7, 3) := by decide +kernel
