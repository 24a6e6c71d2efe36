theorem dX7_tellRowsAhead_81 : decode cX7_tellRowsAhead 81 = .ok (.iastore, 1) := by decide +kernel
theorem dX7_tellRowsAhead_82 : decode cX7_tellRowsAhead 82 = .ok (.iinc 3 1, 3) := by decide +kernel
theorem dX7_tellRowsAhead_85 : decode cX7_tellRowsAhead 85 = .ok (.goto (-29), 3) := by decide +kernel
theorem dX7_tellRowsAhead_88 : decode cX7_tellRowsAhead 88 = .ok (.iconst 0, 1) := by decide +kernel
theorem dX7_tellRowsAhead_89 : decode cX7_tellRowsAhead 89 = .ok (.istore_n 3, 1) := by decide +kernel
theorem dX7_tellRowsAhead_90 : decode cX7_tellRowsAhead 90 = .ok (.iload_n 3, 1) := by decide +kernel
theorem dX7_tellRowsAhead_91 : decode cX7_tellRowsAhead 91 = .ok (.iload_n 2, 1) := by decide +kernel
theorem dX7_tellRowsAhead_92 : decode cX7_tellRowsAhead 92 = .ok (.if_icmp .ge 41, 3) := by decide +kernel
theorem dX7_tellRowsAhead_95 : decode cX7_tellRowsAhead 95 = .ok (.aload_n 1, 1) := by decide +kernel
theorem dX7_tellRowsAhead_96 : decode cX7_tellRowsAhead 96 = .ok (.iload_n 3, 1) := by decide +kernel
theorem dX7_tellRowsAhead_97 : decode cX7_tellRowsAhead 97 = .ok (.caload, 1) := by decide +kernel
theorem dX7_tellRowsAhead_98 : decode cX7_tellRowsAhead 98 = .ok (.invokestatic 50, 3) := by decide +kernel
theorem dX7_tellRowsAhead_101 : decode cX7_tellRowsAhead 101 = .ok (.istore 4, 2) := by decide +kernel
theorem dX7_tellRowsAhead_103 : decode cX7_tellRowsAhead 103 = .ok (.aload_n 0, 1) := by decide +kernel
theorem dX7_tellRowsAhead_104 : decode cX7_tellRowsAhead 104 = .ok (.getfield 18, 3) := by decide +kernel
theorem dX7_tellRowsAhead_107 : decode cX7_tellRowsAhead 107 = .ok (.iload_n 3, 1) := by decide +kernel
theorem dX7_tellRowsAhead_108 : decode cX7_tellRowsAhead 108 = .ok (.aload_n 0, 1) := by decide +kernel
theorem dX7_tellRowsAhead_109 : decode cX7_tellRowsAhead 109 = .ok (.getfield 22, 3) := by decide +kernel
theorem dX7_tellRowsAhead_112 : decode cX7_tellRowsAhead 112 = .ok (.iload 4, 2) := by decide +kernel
theorem dX7_tellRowsAhead_114 : decode cX7_tellRowsAhead 114 = .ok (.iaload, 1) := by decide +kernel
theorem dX7_tellRowsAhead_115 : decode cX7_tellRowsAhead 115 = .ok (.iastore, 1) := by decide +kernel
theorem dX7_tellRowsAhead_116 : decode cX7_tellRowsAhead 116 = .ok (.aload_n 0, 1) := by decide +kernel
theorem dX7_tellRowsAhead_117 : decode cX7_tellRowsAhead 117 = .ok (.getfield 22, 3) := by decide +kernel
theorem dX7_tellRowsAhead_120 : decode cX7_tellRowsAhead 120 = .ok (.iload 4, 2) := by decide +kernel
theorem dX7_tellRowsAhead_122 : decode cX7_tellRowsAhead 122 = .ok (.dup2, 1) := by decide +kernel
theorem dX7_tellRowsAhead_123 : decode cX7_tellRowsAhead 123 = .ok (.iaload, 1) := by decide +kernel
theorem dX7_tellRowsAhead_124 : decode cX7_tellRowsAhead 124 = .ok (.iconst 1, 1) := by decide +kernel
theorem dX7_tellRowsAhead_125 : decode cX7_tellRowsAhead 125 = .ok (.iadd, 1) := by decide +kernel
theorem dX7_tellRowsAhead_126 : decode cX7_tellRowsAhead 126 = .ok (.iastore, 1) := by decide +kernel
theorem dX7_tellRowsAhead_127 : decode cX7_tellRowsAhead 127 = .ok (.iinc 3 1, 3) := by decide +kernel
theorem dX7_tellRowsAhead_130 : decode cX7_tellRowsAhead 130 = .ok (.goto (-40), 3) := by decide +kernel
theorem dX7_tellRowsAhead_133 : decode cX7_tellRowsAhead 133 = .ok (.return_, 1) := by decide +kernel
theorem dX7_comesBack_0 : decode cX7_comesBack 0 = .ok (.aload_n 1, 1) := by decide +kernel
theorem dX7_comesBack_1 : decode cX7_comesBack 1 = .ok (.getfield 53, 3) := by decide +kernel
theorem dX7_comesBack_4 : decode cX7_comesBack 4 = .ok (.iconst 1, 1) := by decide +kernel
theorem dX7_comesBack_5 : decode cX7_comesBack 5 = .ok (.iadd, 1) := by decide +kernel
theorem dX7_comesBack_6 : decode cX7_comesBack 6 = .ok (.istore_n 2, 1) := by decide +kernel
theorem dX7_comesBack_7 : decode cX7_comesBack 7 = .ok (.iconst 0, 1) := by decide +kernel
theorem dX7_comesBack_8 : decode cX7_comesBack 8 = .ok (.istore_n 3, 1) := by decide +kernel
theorem dX7_comesBack_9 : decode cX7_comesBack 9 = .ok (.iload_n 3, 1) := by decide +kernel
theorem dX7_comesBack_10 : decode cX7_comesBack 10 = .ok (.iload_n 2, 1) := by decide +kernel
theorem dX7_comesBack_11 : decode cX7_comesBack 11 = .ok (.if_icmp .ge 20, 3) := by decide +kernel
theorem dX7_comesBack_14 : decode cX7_comesBack 14 = .ok (.aload_n 0, 1) := by decide +kernel
theorem dX7_comesBack_15 : decode cX7_comesBack 15 = .ok (.getfield 15, 3) := by decide +kernel
theorem dX7_comesBack_18 : decode cX7_comesBack 18 = .ok (.iload_n 3, 1) := by decide +kernel
theorem dX7_comesBack_19 : decode cX7_comesBack 19 = .ok (.aload_n 1, 1) := by decide +kernel
theorem dX7_comesBack_20 : decode cX7_comesBack 20 = .ok (.iload_n 3, 1) := by decide +kernel
theorem dX7_comesBack_21 : decode cX7_comesBack 21 = .ok (.invokevirtual 32, 3) := by decide +kernel
theorem dX7_comesBack_24 : decode cX7_comesBack 24 = .ok (.castore, 1) := by decide +kernel
theorem dX7_comesBack_25 : decode cX7_comesBack 25 = .ok (.iinc 3 1, 3) := by decide +kernel
theorem dX7_comesBack_28 : decode cX7_comesBack 28 = .ok (.goto (-19), 3) := by decide +kernel
theorem dX7_comesBack_31 : decode cX7_comesBack 31 = .ok (.aload_n 0, 1) := by decide +kernel
theorem dX7_comesBack_32 : decode cX7_comesBack 32 = .ok (.aload_n 0, 1) := by decide +kernel
theorem dX7_comesBack_33 : decode cX7_comesBack 33 = .ok (.getfield 15, 3) := by decide +kernel
theorem dX7_comesBack_36 : decode cX7_comesBack 36 = .ok (.iload_n 2, 1) := by decide +kernel
theorem dX7_comesBack_37 : decode cX7_comesBack 37 = .ok (.invokevirtual 57, 3) := by decide +kernel
theorem dX7_comesBack_40 : decode cX7_comesBack 40 = .ok (.ifCond .ne 5, 3) := by decide +kernel
theorem dX7_comesBack_43 : decode cX7_comesBack 43 = .ok (.iconst 0, 1) := by decide +kernel
theorem dX7_comesBack_44 : decode cX7_comesBack 44 = .ok (.ireturn, 1) := by decide +kernel
theorem dX7_comesBack_45 : decode cX7_comesBack 45 = .ok (.iconst 0, 1) := by decide +kernel
theorem dX7_comesBack_46 : decode cX7_comesBack 46 = .ok (.istore_n 3, 1) := by decide +kernel
theorem dX7_comesBack_47 : decode cX7_comesBack 47 = .ok (.iload_n 3, 1) := by decide +kernel
theorem dX7_comesBack_48 : decode cX7_comesBack 48 = .ok (.iload_n 2, 1) := by decide +kernel
theorem dX7_comesBack_49 : decode cX7_comesBack 49 = .ok (.if_icmp .ge 25, 3) := by decide +kernel
theorem dX7_comesBack_52 : decode cX7_comesBack 52 = .ok (.aload_n 0, 1) := by decide +kernel
theorem dX7_comesBack_53 : decode cX7_comesBack 53 = .ok (.getfield 18, 3) := by decide +kernel
theorem dX7_comesBack_56 : decode cX7_comesBack 56 = .ok (.iload_n 3, 1) := by decide +kernel
theorem dX7_comesBack_57 : decode cX7_comesBack 57 = .ok (.iaload, 1) := by decide +kernel
theorem dX7_comesBack_58 : decode cX7_comesBack 58 = .ok (.aload_n 1, 1) := by decide +kernel
theorem dX7_comesBack_59 : decode cX7_comesBack 59 = .ok (.iload_n 3, 1) := by decide +kernel
theorem dX7_comesBack_60 : decode cX7_comesBack 60 = .ok (.invokevirtual 61, 3) := by decide +kernel
theorem dX7_comesBack_63 : decode cX7_comesBack 63 = .ok (.if_icmp .eq 5, 3) := by decide +kernel
theorem dX7_comesBack_66 : decode cX7_comesBack 66 = .ok (.iconst 0, 1) := by decide +kernel
theorem dX7_comesBack_67 : decode cX7_comesBack 67 = .ok (.ireturn, 1) := by decide +kernel
theorem dX7_comesBack_68 : decode cX7_comesBack 68 = .ok (.iinc 3 1, 3) := by decide +kernel
theorem dX7_comesBack_71 : decode cX7_comesBack 71 = .ok (.goto (-24), 3) := by decide +kernel
theorem dX7_comesBack_74 : decode cX7_comesBack 74 = .ok (.iconst 0, 1) := by decide +kernel
theorem dX7_comesBack_75 : decode cX7_comesBack 75 = .ok (.istore_n 3, 1) := by decide +kernel
theorem dX7_comesBack_76 : decode cX7_comesBack 76 = .ok (.iload_n 3, 1) := by decide +kernel
theorem dX7_comesBack_77 : decode cX7_comesBack 77 = .ok (.aload_n 1, 1) := by decide +kernel
theorem dX7_comesBack_78 : decode cX7_comesBack 78 = .ok (.getfield 53, 3) := by decide +kernel
theorem dX7_comesBack_81 : decode cX7_comesBack 81 = .ok (.if_icmp .ge 26, 3) := by decide +kernel
theorem dX7_comesBack_84 : decode cX7_comesBack 84 = .ok (.aload_n 0, 1) := by decide +kernel
theorem dX7_comesBack_85 : decode cX7_comesBack 85 = .ok (.getfield 9, 3) := by decide +kernel
theorem dX7_comesBack_88 : decode cX7_comesBack 88 = .ok (.iload_n 3, 1) := by decide +kernel
theorem dX7_comesBack_89 : decode cX7_comesBack 89 = .ok (.caload, 1) := by decide +kernel
theorem dX7_comesBack_90 : decode cX7_comesBack 90 = .ok (.aload_n 1, 1) := by decide +kernel
theorem dX7_comesBack_91 : decode cX7_comesBack 91 = .ok (.getfield 65, 3) := by decide +kernel
theorem dX7_comesBack_94 : decode cX7_comesBack 94 = .ok (.iload_n 3, 1) := by decide +kernel
theorem dX7_comesBack_95 : decode cX7_comesBack 95 = .ok (.caload, 1) := by decide +kernel
theorem dX7_comesBack_96 : decode cX7_comesBack 96 = .ok (.if_icmp .eq 5, 3) := by decide +kernel
theorem dX7_comesBack_99 : decode cX7_comesBack 99 = .ok (.iconst 0, 1) := by decide +kernel
theorem dX7_comesBack_100 : decode cX7_comesBack 100 = .ok (.ireturn, 1) := by decide +kernel
theorem dX7_comesBack_101 : decode cX7_comesBack 101 = .ok (.iinc 3 1, 3) := by decide +kernel
theorem dX7_comesBack_104 : decode cX7_comesBack 104 = .ok (.goto (-28), 3) := by decide +kernel
theorem dX7_comesBack_107 : decode cX7_comesBack 107 = .ok (.iconst 1, 1) := by decide +kernel
theorem dX7_comesBack_108 : decode cX7_comesBack 108 = .ok (.ireturn, 1) := by decide +kernel
theorem dX8_init_0 : decode cX8_init 0 = .ok (.aload_n 0, 1) := by decide +kernel
theorem dX8_init_1 : decode cX8_init 1 = .ok (.invokespecial 3, 3) := by decide +kernel
theorem dX8_init_4 : decode cX8_init 4 = .ok (.aload_n 0, 1) := by decide +kernel
theorem dX8_init_5 : decode cX8_init 5 = .ok (.bipush 65, 2) := by decide +kernel
theorem dX8_init_7 : decode cX8_init 7 = .ok (.newarray .char, 2) := by decide +kernel
theorem dX8_init_9 : decode cX8_init 9 = .ok (.putfield 9, 3) := by decide +kernel
theorem dX8_init_12 : decode cX8_init 12 = .ok (.return_, 1) := by decide +kernel
theorem dX8_put_0 : decode cX8_put 0 = .ok (.aload_n 0, 1) := by decide +kernel
theorem dX8_put_1 : decode cX8_put 1 = .ok (.getfield 15, 3) := by decide +kernel
theorem dX8_put_4 : decode cX8_put 4 = .ok (.aload_n 0, 1) := by decide +kernel
theorem dX8_put_5 : decode cX8_put 5 = .ok (.getfield 9, 3) := by decide +kernel
theorem dX8_put_8 : decode cX8_put 8 = .ok (.arraylength, 1) := by decide +kernel
theorem dX8_put_9 : decode cX8_put 9 = .ok (.if_icmp .ge 23, 3) := by decide +kernel
theorem dX8_put_12 : decode cX8_put 12 = .ok (.aload_n 0, 1) := by decide +kernel
theorem dX8_put_13 : decode cX8_put 13 = .ok (.getfield 9, 3) := by decide +kernel
theorem dX8_put_16 : decode cX8_put 16 = .ok (.aload_n 0, 1) := by decide +kernel
theorem dX8_put_17 : decode cX8_put 17 = .ok (.getfield 15, 3) := by decide +kernel
theorem dX8_put_20 : decode cX8_put 20 = .ok (.iload_n 1, 1) := by decide +kernel
theorem dX8_put_21 : decode cX8_put 21 = .ok (.castore, 1) := by decide +kernel
theorem dX8_put_22 : decode cX8_put 22 = .ok (.aload_n 0, 1) := by decide +kernel
theorem dX8_put_23 : decode cX8_put 23 = .ok (.dup, 1) := by decide +kernel
theorem dX8_put_24 : decode cX8_put 24 = .ok (.getfield 15, 3) := by decide +kernel
theorem dX8_put_27 : decode cX8_put 27 = .ok (.iconst 1, 1) := by decide +kernel
theorem dX8_put_28 : decode cX8_put 28 = .ok (.iadd, 1) := by decide +kernel
theorem dX8_put_29 : decode cX8_put 29 = .ok (.putfield 15, 3) := by decide +kernel
theorem dX8_put_32 : decode cX8_put 32 = .ok (.return_, 1) := by decide +kernel
theorem dX8_hold_0 : decode cX8_hold 0 = .ok (.aload_n 0, 1) := by decide +kernel
theorem dX8_hold_1 : decode cX8_hold 1 = .ok (.iconst 0, 1) := by decide +kernel
theorem dX8_hold_2 : decode cX8_hold 2 = .ok (.putfield 15, 3) := by decide +kernel
theorem dX8_hold_5 : decode cX8_hold 5 = .ok (.iconst 0, 1) := by decide +kernel
theorem dX8_hold_6 : decode cX8_hold 6 = .ok (.istore 4, 2) := by decide +kernel
theorem dX8_hold_8 : decode cX8_hold 8 = .ok (.iload 4, 2) := by decide +kernel
theorem dX8_hold_10 : decode cX8_hold 10 = .ok (.iload_n 3, 1) := by decide +kernel
theorem dX8_hold_11 : decode cX8_hold 11 = .ok (.if_icmp .ge 19, 3) := by decide +kernel
theorem dX8_hold_14 : decode cX8_hold 14 = .ok (.aload_n 0, 1) := by decide +kernel
theorem dX8_hold_15 : decode cX8_hold 15 = .ok (.aload_n 1, 1) := by decide +kernel
theorem dX8_hold_16 : decode cX8_hold 16 = .ok (.iload_n 2, 1) := by decide +kernel
theorem dX8_hold_17 : decode cX8_hold 17 = .ok (.iload 4, 2) := by decide +kernel
theorem dX8_hold_19 : decode cX8_hold 19 = .ok (.iadd, 1) := by decide +kernel
theorem dX8_hold_20 : decode cX8_hold 20 = .ok (.caload, 1) := by decide +kernel
theorem dX8_hold_21 : decode cX8_hold 21 = .ok (.invokevirtual 19, 3) := by decide +kernel
theorem dX8_hold_24 : decode cX8_hold 24 = .ok (.iinc 4 1, 3) := by decide +kernel
theorem dX8_hold_27 : decode cX8_hold 27 = .ok (.goto (-19), 3) := by decide +kernel
theorem dX8_hold_30 : decode cX8_hold 30 = .ok (.return_, 1) := by decide +kernel
theorem dX8_hasEndSign_0 : decode cX8_hasEndSign 0 = .ok (.iconst 0, 1) := by decide +kernel
theorem dX8_hasEndSign_1 : decode cX8_hasEndSign 1 = .ok (.istore_n 1, 1) := by decide +kernel
theorem dX8_hasEndSign_2 : decode cX8_hasEndSign 2 = .ok (.iload_n 1, 1) := by decide +kernel
theorem dX8_hasEndSign_3 : decode cX8_hasEndSign 3 = .ok (.aload_n 0, 1) := by decide +kernel
theorem dX8_hasEndSign_4 : decode cX8_hasEndSign 4 = .ok (.getfield 15, 3) := by decide +kernel
theorem dX8_hasEndSign_7 : decode cX8_hasEndSign 7 = .ok (.if_icmp .ge 22, 3) := by decide +kernel
theorem dX8_hasEndSign_10 : decode cX8_hasEndSign 10 = .ok (.aload_n 0, 1) := by decide +kernel
theorem dX8_hasEndSign_11 : decode cX8_hasEndSign 11 = .ok (.getfield 9, 3) := by decide +kernel
theorem dX8_hasEndSign_14 : decode cX8_hasEndSign 14 = .ok (.iload_n 1, 1) := by decide +kernel
theorem dX8_hasEndSign_15 : decode cX8_hasEndSign 15 = .ok (.caload, 1) := by decide +kernel
theorem dX8_hasEndSign_16 : decode cX8_hasEndSign 16 = .ok (.bipush 36, 2) := by decide +kernel
theorem dX8_hasEndSign_18 : decode cX8_hasEndSign 18 = .ok (.if_icmp .ne 5, 3) := by decide +kernel
theorem dX8_hasEndSign_21 : decode cX8_hasEndSign 21 = .ok (.iconst 1, 1) := by decide +kernel
theorem dX8_hasEndSign_22 : decode cX8_hasEndSign 22 = .ok (.ireturn, 1) := by decide +kernel
theorem dX8_hasEndSign_23 : decode cX8_hasEndSign 23 = .ok (.iinc 1 1, 3) := by decide +kernel
theorem dX8_hasEndSign_26 : decode cX8_hasEndSign 26 = .ok (.goto (-24), 3) := by decide +kernel
theorem dX8_hasEndSign_29 : decode cX8_hasEndSign 29 = .ok (.iconst 0, 1) := by decide +kernel
theorem dX8_hasEndSign_30 : decode cX8_hasEndSign 30 = .ok (.ireturn, 1) := by decide +kernel
theorem dX9_init_0 : decode cX9_init 0 = .ok (.aload_n 0, 1) := by decide +kernel
theorem dX9_init_1 : decode cX9_init 1 = .ok (.invokespecial 3, 3) := by decide +kernel
theorem dX9_init_4 : decode cX9_init 4 = .ok (.aload_n 0, 1) := by decide +kernel
theorem dX9_init_5 : decode cX9_init 5 = .ok (.sipush 2081, 3) := by decide +kernel
theorem dX9_init_8 : decode cX9_init 8 = .ok (.newarray .char, 2) := by decide +kernel
theorem dX9_init_10 : decode cX9_init 10 = .ok (.putfield 11, 3) := by decide +kernel
theorem dX9_init_13 : decode cX9_init 13 = .ok (.aload_n 0, 1) := by decide +kernel
theorem dX9_init_14 : decode cX9_init 14 = .ok (.sipush 2081, 3) := by decide +kernel
theorem dX9_init_17 : decode cX9_init 17 = .ok (.newarray .int, 2) := by decide +kernel
theorem dX9_init_19 : decode cX9_init 19 = .ok (.putfield 15, 3) := by decide +kernel
theorem dX9_init_22 : decode cX9_init 22 = .ok (.aload_n 0, 1) := by decide +kernel
theorem dX9_init_23 : decode cX9_init 23 = .ok (.sipush 2081, 3) := by decide +kernel
theorem dX9_init_26 : decode cX9_init 26 = .ok (.newarray .int, 2) := by decide +kernel
theorem dX9_init_28 : decode cX9_init 28 = .ok (.putfield 19, 3) := by decide +kernel
theorem dX9_init_31 : decode cX9_init 31 = .ok (.return_, 1) := by decide +kernel
theorem dX9_agreesWith_0 : decode cX9_agreesWith 0 = .ok (.aload_n 0, 1) := by decide +kernel
theorem dX9_agreesWith_1 : decode cX9_agreesWith 1 = .ok (.aload_n 1, 1) := by decide +kernel
theorem dX9_agreesWith_2 : decode cX9_agreesWith 2 = .ok (.invokevirtual 22, 3) := by decide +kernel
theorem dX9_agreesWith_5 : decode cX9_agreesWith 5 = .ok (.aload_n 0, 1) := by decide +kernel
theorem dX9_agreesWith_6 : decode cX9_agreesWith 6 = .ok (.getfield 26, 3) := by decide +kernel
theorem dX9_agreesWith_9 : decode cX9_agreesWith 9 = .ok (.iconst 1, 1) := by decide +kernel
theorem dX9_agreesWith_10 : decode cX9_agreesWith 10 = .ok (.isub, 1) := by decide +kernel
theorem dX9_agreesWith_11 : decode cX9_agreesWith 11 = .ok (.aload_n 1, 1) := by decide +kernel
theorem dX9_agreesWith_12 : decode cX9_agreesWith 12 = .ok (.aload_n 1, 1) := by decide +kernel
theorem dX9_agreesWith_13 : decode cX9_agreesWith 13 = .ok (.getfield 30, 3) := by decide +kernel
theorem dX9_agreesWith_16 : decode cX9_agreesWith 16 = .ok (.invokevirtual 33, 3) := by decide +kernel
theorem dX9_agreesWith_19 : decode cX9_agreesWith 19 = .ok (.if_icmp .ne 18, 3) := by decide +kernel
theorem dX9_agreesWith_22 : decode cX9_agreesWith 22 = .ok (.aload_n 0, 1) := by decide +kernel
theorem dX9_agreesWith_23 : decode cX9_agreesWith 23 = .ok (.getfield 37, 3) := by decide +kernel
theorem dX9_agreesWith_26 : decode cX9_agreesWith 26 = .ok (.aload_n 1, 1) := by decide +kernel
theorem dX9_agreesWith_27 : decode cX9_agreesWith 27 = .ok (.invokevirtual 40, 3) := by decide +kernel
theorem dX9_agreesWith_30 : decode cX9_agreesWith 30 = .ok (.if_icmp .ne 7, 3) := by decide +kernel
theorem dX9_agreesWith_33 : decode cX9_agreesWith 33 = .ok (.iconst 1, 1) := by decide +kernel
theorem dX9_agreesWith_34 : decode cX9_agreesWith 34 = .ok (.goto 4, 3) := by decide +kernel
theorem dX9_agreesWith_37 : decode cX9_agreesWith 37 = .ok (.iconst 0, 1) := by decide +kernel
theorem dX9_agreesWith_38 : decode cX9_agreesWith 38 = .ok (.ireturn, 1) := by decide +kernel
theorem dX9_listWords_0 : decode cX9_listWords 0 = .ok (.aload_n 0, 1) := by decide +kernel
theorem dX9_listWords_1 : decode cX9_listWords 1 = .ok (.iconst 1, 1) := by decide +kernel
theorem dX9_listWords_2 : decode cX9_listWords 2 = .ok (.putfield 26, 3) := by decide +kernel
theorem dX9_listWords_5 : decode cX9_listWords 5 = .ok (.aload_n 0, 1) := by decide +kernel
theorem dX9_listWords_6 : decode cX9_listWords 6 = .ok (.getfield 15, 3) := by decide +kernel
theorem dX9_listWords_9 : decode cX9_listWords 9 = .ok (.iconst 0, 1) := by decide +kernel
theorem dX9_listWords_10 : decode cX9_listWords 10 = .ok (.iconst 0, 1) := by decide +kernel
theorem dX9_listWords_11 : decode cX9_listWords 11 = .ok (.iastore, 1) := by decide +kernel
theorem dX9_listWords_12 : decode cX9_listWords 12 = .ok (.aload_n 0, 1) := by decide +kernel
theorem dX9_listWords_13 : decode cX9_listWords 13 = .ok (.iconst 0, 1) := by decide +kernel
theorem dX9_listWords_14 : decode cX9_listWords 14 = .ok (.putfield 37, 3) := by decide +kernel
theorem dX9_listWords_17 : decode cX9_listWords 17 = .ok (.iconst 0, 1) := by decide +kernel
theorem dX9_listWords_18 : decode cX9_listWords 18 = .ok (.istore_n 2, 1) := by decide +kernel
theorem dX9_listWords_19 : decode cX9_listWords 19 = .ok (.iload_n 2, 1) := by decide +kernel
theorem dX9_listWords_20 : decode cX9_listWords 20 = .ok (.aload_n 1, 1) := by decide +kernel
theorem dX9_listWords_21 : decode cX9_listWords 21 = .ok (.getfield 30, 3) := by decide +kernel
theorem dX9_listWords_24 : decode cX9_listWords 24 = .ok (.if_icmp .ge 85, 3) := by decide +kernel
theorem dX9_listWords_27 : decode cX9_listWords 27 = .ok (.iconst 0, 1) := by decide +kernel
theorem dX9_listWords_28 : decode cX9_listWords 28 = .ok (.istore_n 3, 1) := by decide +kernel
theorem dX9_listWords_29 : decode cX9_listWords 29 = .ok (.iload_n 2, 1) := by decide +kernel
theorem dX9_listWords_30 : decode cX9_listWords 30 = .ok (.istore 4, 2) := by decide +kernel
theorem dX9_listWords_32 : decode cX9_listWords 32 = .ok (.iload 4, 2) := by decide +kernel
theorem dX9_listWords_34 : decode cX9_listWords 34 = .ok (.aload_n 1, 1) := by decide +kernel
theorem dX9_listWords_35 : decode cX9_listWords 35 = .ok (.getfield 30, 3) := by decide +kernel
theorem dX9_listWords_38 : decode cX9_listWords 38 = .ok (.if_icmp .ge 65, 3) := by decide +kernel
theorem dX9_listWords_41 : decode cX9_listWords 41 = .ok (.aload_n 0, 1) := by decide +kernel
theorem dX9_listWords_42 : decode cX9_listWords 42 = .ok (.iload_n 3, 1) := by decide +kernel
theorem dX9_listWords_43 : decode cX9_listWords 43 = .ok (.aload_n 1, 1) := by decide +kernel
theorem dX9_listWords_44 : decode cX9_listWords 44 = .ok (.getfield 44, 3) := by decide +kernel
theorem dX9_listWords_47 : decode cX9_listWords 47 = .ok (.iload 4, 2) := by decide +kernel
theorem dX9_listWords_49 : decode cX9_listWords 49 = .ok (.caload, 1) := by decide +kernel
theorem dX9_listWords_50 : decode cX9_listWords 50 = .ok (.invokevirtual 45, 3) := by decide +kernel
theorem dX9_listWords_53 : decode cX9_listWords 53 = .ok (.istore 5, 2) := by decide +kernel
theorem dX9_listWords_55 : decode cX9_listWords 55 = .ok (.iload 5, 2) := by decide +kernel
theorem dX9_listWords_57 : decode cX9_listWords 57 = .ok (.ifCond .ne 20, 3) := by decide +kernel
theorem dX9_listWords_60 : decode cX9_listWords 60 = .ok (.aload_n 0, 1) := by decide +kernel
theorem dX9_listWords_61 : decode cX9_listWords 61 = .ok (.iload_n 3, 1) := by decide +kernel
theorem dX9_listWords_62 : decode cX9_listWords 62 = .ok (.aload_n 1, 1) := by decide +kernel
theorem dX9_listWords_63 : decode cX9_listWords 63 = .ok (.getfield 44, 3) := by decide +kernel
theorem dX9_listWords_66 : decode cX9_listWords 66 = .ok (.iload 4, 2) := by decide +kernel
theorem dX9_listWords_68 : decode cX9_listWords 68 = .ok (.caload, 1) := by decide +kernel
theorem dX9_listWords_69 : decode cX9_listWords 69 = .ok (.invokevirtual 49, 3) := by decide +kernel
theorem dX9_listWords_72 : decode cX9_listWords 72 = .ok (.istore 5, 2) := by decide +kernel
theorem dX9_listWords_74 : decode cX9_listWords 74 = .ok (.goto 20, 3) := by decide +kernel
theorem dX9_listWords_77 : decode cX9_listWords 77 = .ok (.aload_n 0, 1) := by decide +kernel
theorem dX9_listWords_78 : decode cX9_listWords 78 = .ok (.aload_n 0, 1) := by decide +kernel
theorem dX9_listWords_79 : decode cX9_listWords 79 = .ok (.getfield 37, 3) := by decide +kernel
theorem dX9_listWords_82 : decode cX9_listWords 82 = .ok (.iload 4, 2) := by decide +kernel
theorem dX9_listWords_84 : decode cX9_listWords 84 = .ok (.iload_n 2, 1) := by decide +kernel
theorem dX9_listWords_85 : decode cX9_listWords 85 = .ok (.isub, 1) := by decide +kernel
theorem dX9_listWords_86 : decode cX9_listWords 86 = .ok (.iconst 1, 1) := by decide +kernel
theorem dX9_listWords_87 : decode cX9_listWords 87 = .ok (.iadd, 1) := by decide +kernel
theorem dX9_listWords_88 : decode cX9_listWords 88 = .ok (.invokestatic 52, 3) := by decide +kernel
theorem dX9_listWords_91 : decode cX9_listWords 91 = .ok (.putfield 37, 3) := by decide +kernel
theorem dX9_listWords_94 : decode cX9_listWords 94 = .ok (.iload 5, 2) := by decide +kernel
theorem dX9_listWords_96 : decode cX9_listWords 96 = .ok (.istore_n 3, 1) := by decide +kernel
theorem dX9_listWords_97 : decode cX9_listWords 97 = .ok (.iinc 4 1, 3) := by decide +kernel
theorem dX9_listWords_100 : decode cX9_listWords 100 = .ok (.goto (-68), 3) := by decide +kernel
theorem dX9_listWords_103 : decode cX9_listWords 103 = .ok (.iinc 2 1, 3) := by decide +kernel
theorem dX9_listWords_106 : decode cX9_listWords 106 = .ok (.goto (-87), 3) := by decide +kernel
theorem dX9_listWords_109 : decode cX9_listWords 109 = .ok (.return_, 1) := by decide +kernel
theorem dX9_nodeBelow_0 : decode cX9_nodeBelow 0 = .ok (.aload_n 0, 1) := by decide +kernel
theorem dX9_nodeBelow_1 : decode cX9_nodeBelow 1 = .ok (.getfield 15, 3) := by decide +kernel
theorem dX9_nodeBelow_4 : decode cX9_nodeBelow 4 = .ok (.iload_n 1, 1) := by decide +kernel
theorem dX9_nodeBelow_5 : decode cX9_nodeBelow 5 = .ok (.iaload, 1) := by decide +kernel
theorem dX9_nodeBelow_6 : decode cX9_nodeBelow 6 = .ok (.istore_n 3, 1) := by decide +kernel
theorem dX9_nodeBelow_7 : decode cX9_nodeBelow 7 = .ok (.iconst 0, 1) := by decide +kernel
theorem dX9_nodeBelow_8 : decode cX9_nodeBelow 8 = .ok (.istore 4, 2) := by decide +kernel
theorem dX9_nodeBelow_10 : decode cX9_nodeBelow 10 = .ok (.iload 4, 2) := by decide +kernel
theorem dX9_nodeBelow_12 : decode cX9_nodeBelow 12 = .ok (.bipush 27, 2) := by decide +kernel
theorem dX9_nodeBelow_14 : decode cX9_nodeBelow 14 = .ok (.if_icmp .ge 32, 3) := by decide +kernel
theorem dX9_nodeBelow_17 : decode cX9_nodeBelow 17 = .ok (.iload_n 3, 1) := by decide +kernel
theorem dX9_nodeBelow_18 : decode cX9_nodeBelow 18 = .ok (.ifCond .eq 28, 3) := by decide +kernel
theorem dX9_nodeBelow_21 : decode cX9_nodeBelow 21 = .ok (.aload_n 0, 1) := by decide +kernel
theorem dX9_nodeBelow_22 : decode cX9_nodeBelow 22 = .ok (.getfield 11, 3) := by decide +kernel
theorem dX9_nodeBelow_25 : decode cX9_nodeBelow 25 = .ok (.iload_n 3, 1) := by decide +kernel
theorem dX9_nodeBelow_26 : decode cX9_nodeBelow 26 = .ok (.caload, 1) := by decide +kernel
theorem dX9_nodeBelow_27 : decode cX9_nodeBelow 27 = .ok (.iload_n 2, 1) := by decide +kernel
theorem dX9_nodeBelow_28 : decode cX9_nodeBelow 28 = .ok (.if_icmp .ne 5, 3) := by decide +kernel
theorem dX9_nodeBelow_31 : decode cX9_nodeBelow 31 = .ok (.iload_n 3, 1) := by decide +kernel
theorem dX9_nodeBelow_32 : decode cX9_nodeBelow 32 = .ok (.ireturn, 1) := by decide +kernel
theorem dX9_nodeBelow_33 : decode cX9_nodeBelow 33 = .ok (.aload_n 0, 1) := by decide +kernel
theorem dX9_nodeBelow_34 : decode cX9_nodeBelow 34 = .ok (.getfield 19, 3) := by decide +kernel
theorem dX9_nodeBelow_37 : decode cX9_nodeBelow 37 = .ok (.iload_n 3, 1) := by decide +kernel
theorem dX9_nodeBelow_38 : decode cX9_nodeBelow 38 = .ok (.iaload, 1) := by decide +kernel
theorem dX9_nodeBelow_39 : decode cX9_nodeBelow 39 = .ok (.istore_n 3, 1) := by decide +kernel
theorem dX9_nodeBelow_40 : decode cX9_nodeBelow 40 = .ok (.iinc 4 1, 3) := by decide +kernel
theorem dX9_nodeBelow_43 : decode cX9_nodeBelow 43 = .ok (.goto (-33), 3) := by decide +kernel
theorem dX9_nodeBelow_46 : decode cX9_nodeBelow 46 = .ok (.iconst 0, 1) := by decide +kernel
theorem dX9_nodeBelow_47 : decode cX9_nodeBelow 47 = .ok (.ireturn, 1) := by decide +kernel
theorem dX9_addBelow_0 : decode cX9_addBelow 0 = .ok (.aload_n 0, 1) := by decide +kernel
theorem dX9_addBelow_1 : decode cX9_addBelow 1 = .ok (.getfield 26, 3) := by decide +kernel
theorem dX9_addBelow_4 : decode cX9_addBelow 4 = .ok (.aload_n 0, 1) := by decide +kernel
theorem dX9_addBelow_5 : decode cX9_addBelow 5 = .ok (.getfield 11, 3) := by decide +kernel
theorem dX9_addBelow_8 : decode cX9_addBelow 8 = .ok (.arraylength, 1) := by decide +kernel
theorem dX9_addBelow_9 : decode cX9_addBelow 9 = .ok (.if_icmp .lt 5, 3) := by decide +kernel
theorem dX9_addBelow_12 : decode cX9_addBelow 12 = .ok (.iconst 0, 1) := by decide +kernel
theorem dX9_addBelow_13 : decode cX9_addBelow 13 = .ok (.ireturn, 1) := by decide +kernel
theorem dX9_addBelow_14 : decode cX9_addBelow 14 = .ok (.aload_n 0, 1) := by decide +kernel
theorem dX9_addBelow_15 : decode cX9_addBelow 15 = .ok (.getfield 26, 3) := by decide +kernel
theorem dX9_addBelow_18 : decode cX9_addBelow 18 = .ok (.istore_n 3, 1) := by decide +kernel
theorem dX9_addBelow_19 : decode cX9_addBelow 19 = .ok (.aload_n 0, 1) := by decide +kernel
theorem dX9_addBelow_20 : decode cX9_addBelow 20 = .ok (.getfield 11, 3) := by decide +kernel
theorem dX9_addBelow_23 : decode cX9_addBelow 23 = .ok (.iload_n 3, 1) := by decide +kernel
theorem dX9_addBelow_24 : decode cX9_addBelow 24 = .ok (.iload_n 2, 1) := by decide +kernel
theorem dX9_addBelow_25 : decode cX9_addBelow 25 = .ok (.castore, 1) := by decide +kernel
theorem dX9_addBelow_26 : decode cX9_addBelow 26 = .ok (.aload_n 0, 1) := by decide +kernel
theorem dX9_addBelow_27 : decode cX9_addBelow 27 = .ok (.getfield 15, 3) := by decide +kernel
theorem dX9_addBelow_30 : decode cX9_addBelow 30 = .ok (.iload_n 3, 1) := by decide +kernel
theorem dX9_addBelow_31 : decode cX9_addBelow 31 = .ok (.iconst 0, 1) := by decide +kernel
theorem dX9_addBelow_32 : decode cX9_addBelow 32 = .ok (.iastore, 1) := by decide +kernel
theorem dX9_addBelow_33 : decode cX9_addBelow 33 = .ok (.aload_n 0, 1) := by decide +kernel
theorem dX9_addBelow_34 : decode cX9_addBelow 34 = .ok (.getfield 19, 3) := by decide +kernel
theorem dX9_addBelow_37 : decode cX9_addBelow 37 = .ok (.iload_n 3, 1) := by decide +kernel
theorem dX9_addBelow_38 : decode cX9_addBelow 38 = .ok (.aload_n 0, 1) := by decide +kernel
theorem dX9_addBelow_39 : decode cX9_addBelow 39 = .ok (.getfield 15, 3) := by decide +kernel
theorem dX9_addBelow_42 : decode cX9_addBelow 42 = .ok (.iload_n 1, 1) := by decide +kernel
theorem dX9_addBelow_43 : decode cX9_addBelow 43 = .ok (.iaload, 1) := by decide +kernel
theorem dX9_addBelow_44 : decode cX9_addBelow 44 = .ok (.iastore, 1) := by decide +kernel
theorem dX9_addBelow_45 : decode cX9_addBelow 45 = .ok (.aload_n 0, 1) := by decide +kernel
theorem dX9_addBelow_46 : decode cX9_addBelow 46 = .ok (.getfield 15, 3) := by decide +kernel
theorem dX9_addBelow_49 : decode cX9_addBelow 49 = .ok (.iload_n 1, 1) := by decide +kernel
theorem dX9_addBelow_50 : decode cX9_addBelow 50 = .ok (.iload_n 3, 1) := by decide +kernel
theorem dX9_addBelow_51 : decode cX9_addBelow 51 = .ok (.iastore, 1) := by decide +kernel
theorem dX9_addBelow_52 : decode cX9_addBelow 52 = .ok (.aload_n 0, 1) := by decide +kernel
theorem dX9_addBelow_53 : decode cX9_addBelow 53 = .ok (.dup, 1) := by decide +kernel
theorem dX9_addBelow_54 : decode cX9_addBelow 54 = .ok (.getfield 26, 3) := by decide +kernel
theorem dX9_addBelow_57 : decode cX9_addBelow 57 = .ok (.iconst 1, 1) := by decide +kernel
theorem dX9_addBelow_58 : decode cX9_addBelow 58 = .ok (.iadd, 1) := by decide +kernel
theorem dX9_addBelow_59 : decode cX9_addBelow 59 = .ok (.putfield 26, 3) := by decide +kernel
theorem dX9_addBelow_62 : decode cX9_addBelow 62 = .ok (.iload_n 3, 1) := by decide +kernel
theorem dX9_addBelow_63 : decode cX9_addBelow 63 = .ok (.ireturn, 1) := by decide +kernel
theorem dX10_init_0 : decode cX10_init 0 = .ok (.aload_n 0, 1) := by decide +kernel
theorem dX10_init_1 : decode cX10_init 1 = .ok (.invokespecial 1, 3) := by decide +kernel
theorem dX10_init_4 : decode cX10_init 4 = .ok (.aload_n 0, 1) := by decide +kernel
theorem dX10_init_5 : decode cX10_init 5 = .ok (.bipush 8, 2) := by decide +kernel
theorem dX10_init_7 : decode cX10_init 7 = .ok (.anewarray 9, 3) := by decide +kernel
theorem dX10_init_10 : decode cX10_init 10 = .ok (.putfield 11, 3) := by decide +kernel
theorem dX10_init_13 : decode cX10_init 13 = .ok (.aload_n 0, 1) := by decide +kernel
theorem dX10_init_14 : decode cX10_init 14 = .ok (.new 15, 3) := by decide +kernel
theorem dX10_init_17 : decode cX10_init 17 = .ok (.dup, 1) := by decide +kernel
theorem dX10_init_18 : decode cX10_init 18 = .ok (.invokespecial 17, 3) := by decide +kernel
theorem dX10_init_21 : decode cX10_init 21 = .ok (.putfield 18, 3) := by decide +kernel
theorem dX10_init_24 : decode cX10_init 24 = .ok (.aload_n 0, 1) := by decide +kernel
theorem dX10_init_25 : decode cX10_init 25 = .ok (.bipush 8, 2) := by decide +kernel
theorem dX10_init_27 : decode cX10_init 27 = .ok (.newarray .char, 2) := by decide +kernel
theorem dX10_init_29 : decode cX10_init 29 = .ok (.putfield 22, 3) := by decide +kernel
theorem dX10_init_32 : decode cX10_init 32 = .ok (.aload_n 0, 1) := by decide +kernel
theorem dX10_init_33 : decode cX10_init 33 = .ok (.new 26, 3) := by decide +kernel
theorem dX10_init_36 : decode cX10_init 36 = .ok (.dup, 1) := by decide +kernel
theorem dX10_init_37 : decode cX10_init 37 = .ok (.invokespecial 28, 3) := by decide +kernel
theorem dX10_init_40 : decode cX10_init 40 = .ok (.putfield 29, 3) := by decide +kernel
theorem dX10_init_43 : decode cX10_init 43 = .ok (.aload_n 0, 1) := by decide +kernel
theorem dX10_init_44 : decode cX10_init 44 = .ok (.new 33, 3) := by decide +kernel
theorem dX10_init_47 : decode cX10_init 47 = .ok (.dup, 1) := by decide +kernel
theorem dX10_init_48 : decode cX10_init 48 = .ok (.invokespecial 35, 3) := by decide +kernel
theorem dX10_init_51 : decode cX10_init 51 = .ok (.putfield 36, 3) := by decide +kernel
theorem dX10_init_54 : decode cX10_init 54 = .ok (.aload_n 0, 1) := by decide +kernel
theorem dX10_init_55 : decode cX10_init 55 = .ok (.new 40, 3) := by decide +kernel
theorem dX10_init_58 : decode cX10_init 58 = .ok (.dup, 1) := by decide +kernel
theorem dX10_init_59 : decode cX10_init 59 = .ok (.invokespecial 42, 3) := by decide +kernel
theorem dX10_init_62 : decode cX10_init 62 = .ok (.putfield 43, 3) := by decide +kernel
theorem dX10_init_65 : decode cX10_init 65 = .ok (.aload_n 0, 1) := by decide +kernel
theorem dX10_init_66 : decode cX10_init 66 = .ok (.new 47, 3) := by decide +kernel
theorem dX10_init_69 : decode cX10_init 69 = .ok (.dup, 1) := by decide +kernel
theorem dX10_init_70 : decode cX10_init 70 = .ok (.invokespecial 49, 3) := by decide +kernel
theorem dX10_init_73 : decode cX10_init 73 = .ok (.putfield 50, 3) := by decide +kernel
theorem dX10_init_76 : decode cX10_init 76 = .ok (.aload_n 0, 1) := by decide +kernel
theorem dX10_init_77 : decode cX10_init 77 = .ok (.new 54, 3) := by decide +kernel
theorem dX10_init_80 : decode cX10_init 80 = .ok (.dup, 1) := by decide +kernel
theorem dX10_init_81 : decode cX10_init 81 = .ok (.invokespecial 56, 3) := by decide +kernel
theorem dX10_init_84 : decode cX10_init 84 = .ok (.putfield 57, 3) := by decide +kernel
theorem dX10_init_87 : decode cX10_init 87 = .ok (.aload_n 0, 1) := by decide +kernel
theorem dX10_init_88 : decode cX10_init 88 = .ok (.new 61, 3) := by decide +kernel
theorem dX10_init_91 : decode cX10_init 91 = .ok (.dup, 1) := by decide +kernel
theorem dX10_init_92 : decode cX10_init 92 = .ok (.invokespecial 63, 3) := by decide +kernel
theorem dX10_init_95 : decode cX10_init 95 = .ok (.putfield 64, 3) := by decide +kernel
theorem dX10_init_98 : decode cX10_init 98 = .ok (.iconst 0, 1) := by decide +kernel
theorem dX10_init_99 : decode cX10_init 99 = .ok (.istore_n 1, 1) := by decide +kernel
theorem dX10_init_100 : decode cX10_init 100 = .ok (.iload_n 1, 1) := by decide +kernel
theorem dX10_init_101 : decode cX10_init 101 = .ok (.aload_n 0, 1) := by decide +kernel
theorem dX10_init_102 : decode cX10_init 102 = .ok (.getfield 11, 3) := by decide +kernel
theorem dX10_init_105 : decode cX10_init 105 = .ok (.arraylength, 1) := by decide +kernel
theorem dX10_init_106 : decode cX10_init 106 = .ok (.if_icmp .ge 22, 3) := by decide +kernel
theorem dX10_init_109 : decode cX10_init 109 = .ok (.aload_n 0, 1) := by decide +kernel
theorem dX10_init_110 : decode cX10_init 110 = .ok (.getfield 11, 3) := by decide +kernel
theorem dX10_init_113 : decode cX10_init 113 = .ok (.iload_n 1, 1) := by decide +kernel
theorem dX10_init_114 : decode cX10_init 114 = .ok (.new 9, 3) := by decide +kernel
theorem dX10_init_117 : decode cX10_init 117 = .ok (.dup, 1) := by decide +kernel
theorem dX10_init_118 : decode cX10_init 118 = .ok (.invokespecial 68, 3) := by decide +kernel
theorem dX10_init_121 : decode cX10_init 121 = .ok (.aastore, 1) := by decide +kernel
theorem dX10_init_122 : decode cX10_init 122 = .ok (.iinc 1 1, 3) := by decide +kernel
theorem dX10_init_125 : decode cX10_init 125 = .ok (.goto (-25), 3) := by decide +kernel
theorem dX10_init_128 : decode cX10_init 128 = .ok (.return_, 1) := by decide +kernel
theorem dX10_type_0 : decode cX10_type 0 = .ok (.iload_n 1, 1) := by decide +kernel
theorem dX10_type_1 : decode cX10_type 1 = .ok (.invokestatic 69, 3) := by decide +kernel
theorem dX10_type_4 : decode cX10_type 4 = .ok (.ifCond .ne 13, 3) := by decide +kernel
theorem dX10_type_7 : decode cX10_type 7 = .ok (.new 73, 3) := by decide +kernel
theorem dX10_type_10 : decode cX10_type 10 = .ok (.dup, 1) := by decide +kernel
theorem dX10_type_11 : decode cX10_type 11 = .ok (.ldc 75, 2) := by decide +kernel
theorem dX10_type_13 : decode cX10_type 13 = .ok (.invokespecial 77, 3) := by decide +kernel
theorem dX10_type_16 : decode cX10_type 16 = .ok (.athrow, 1) := by decide +kernel
theorem dX10_type_17 : decode cX10_type 17 = .ok (.aload_n 0, 1) := by decide +kernel
theorem dX10_type_18 : decode cX10_type 18 = .ok (.getfield 18, 3) := by decide +kernel
theorem dX10_type_21 : decode cX10_type 21 = .ok (.getfield 80, 3) := by decide +kernel
theorem dX10_type_24 : decode cX10_type 24 = .ok (.bipush 65, 2) := by decide +kernel
theorem dX10_type_26 : decode cX10_type 26 = .ok (.if_icmp .lt 13, 3) := by decide +kernel
theorem dX10_type_29 : decode cX10_type 29 = .ok (.new 84, 3) := by decide +kernel
theorem dX10_type_32 : decode cX10_type 32 = .ok (.dup, 1) := by decide +kernel
theorem dX10_type_33 : decode cX10_type 33 = .ok (.ldc 86, 2) := by decide +kernel
theorem dX10_type_35 : decode cX10_type 35 = .ok (.invokespecial 88, 3) := by decide +kernel
theorem dX10_type_38 : decode cX10_type 38 = .ok (.athrow, 1) := by decide +kernel
theorem dX10_type_39 : decode cX10_type 39 = .ok (.aload_n 0, 1) := by decide +kernel
theorem dX10_type_40 : decode cX10_type 40 = .ok (.getfield 18, 3) := by decide +kernel
theorem dX10_type_43 : decode cX10_type 43 = .ok (.iload_n 1, 1) := by decide +kernel
theorem dX10_type_44 : decode cX10_type 44 = .ok (.invokevirtual 89, 3) := by decide +kernel
theorem dX10_type_47 : decode cX10_type 47 = .ok (.aload_n 0, 1) := by decide +kernel
theorem dX10_type_48 : decode cX10_type 48 = .ok (.getfield 18, 3) := by decide +kernel
theorem dX10_type_51 : decode cX10_type 51 = .ok (.getfield 80, 3) := by decide +kernel
theorem dX10_type_54 : decode cX10_type 54 = .ok (.ireturn, 1) := by decide +kernel
theorem dX10_typeMore_0 : decode cX10_typeMore 0 = .ok (.iload_n 1, 1) := by decide +kernel
theorem dX10_typeMore_1 : decode cX10_typeMore 1 = .ok (.iconst 1, 1) := by decide +kernel
theorem dX10_typeMore_2 : decode cX10_typeMore 2 = .ok (.if_icmp .lt 9, 3) := by decide +kernel
theorem dX10_typeMore_5 : decode cX10_typeMore 5 = .ok (.iload_n 1, 1) := by decide +kernel
theorem dX10_typeMore_6 : decode cX10_typeMore 6 = .ok (.bipush 8, 2) := by decide +kernel
theorem dX10_typeMore_8 : decode cX10_typeMore 8 = .ok (.if_icmp .le 13, 3) := by decide +kernel
theorem dX10_typeMore_11 : decode cX10_typeMore 11 = .ok (.new 73, 3) := by decide +kernel
theorem dX10_typeMore_14 : decode cX10_typeMore 14 = .ok (.dup, 1) := by decide +kernel
theorem dX10_typeMore_15 : decode cX10_typeMore 15 = .ok (.ldc 93, 2) := by decide +kernel
theorem dX10_typeMore_17 : decode cX10_typeMore 17 = .ok (.invokespecial 77, 3) := by decide +kernel
theorem dX10_typeMore_20 : decode cX10_typeMore 20 = .ok (.athrow, 1) := by decide +kernel
theorem dX10_typeMore_21 : decode cX10_typeMore 21 = .ok (.aload_n 0, 1) := by decide +kernel
theorem dX10_typeMore_22 : decode cX10_typeMore 22 = .ok (.getfield 22, 3) := by decide +kernel
theorem dX10_typeMore_25 : decode cX10_typeMore 25 = .ok (.iconst 0, 1) := by decide +kernel
theorem dX10_typeMore_26 : decode cX10_typeMore 26 = .ok (.iload_n 2, 1) := by decide +kernel
theorem dX10_typeMore_27 : decode cX10_typeMore 27 = .ok (.castore, 1) := by decide +kernel
theorem dX10_typeMore_28 : decode cX10_typeMore 28 = .ok (.aload_n 0, 1) := by decide +kernel
theorem dX10_typeMore_29 : decode cX10_typeMore 29 = .ok (.getfield 22, 3) := by decide +kernel
theorem dX10_typeMore_32 : decode cX10_typeMore 32 = .ok (.iconst 1, 1) := by decide +kernel
theorem dX10_typeMore_33 : decode cX10_typeMore 33 = .ok (.iload_n 3, 1) := by decide +kernel
theorem dX10_typeMore_34 : decode cX10_typeMore 34 = .ok (.castore, 1) := by decide +kernel
theorem dX10_typeMore_35 : decode cX10_typeMore 35 = .ok (.aload_n 0, 1) := by decide +kernel
theorem dX10_typeMore_36 : decode cX10_typeMore 36 = .ok (.getfield 22, 3) := by decide +kernel
theorem dX10_typeMore_39 : decode cX10_typeMore 39 = .ok (.iconst 2, 1) := by decide +kernel
theorem dX10_typeMore_40 : decode cX10_typeMore 40 = .ok (.iload 4, 2) := by decide +kernel
theorem dX10_typeMore_42 : decode cX10_typeMore 42 = .ok (.castore, 1) := by decide +kernel
theorem dX10_typeMore_43 : decode cX10_typeMore 43 = .ok (.aload_n 0, 1) := by decide +kernel
theorem dX10_typeMore_44 : decode cX10_typeMore 44 = .ok (.getfield 22, 3) := by decide +kernel
theorem dX10_typeMore_47 : decode cX10_typeMore 47 = .ok (.iconst 3, 1) := by decide +kernel
theorem dX10_typeMore_48 : decode cX10_typeMore 48 = .ok (.iload 5, 2) := by decide +kernel
theorem dX10_typeMore_50 : decode cX10_typeMore 50 = .ok (.castore, 1) := by decide +kernel
theorem dX10_typeMore_51 : decode cX10_typeMore 51 = .ok (.aload_n 0, 1) := by decide +kernel
theorem dX10_typeMore_52 : decode cX10_typeMore 52 = .ok (.getfield 22, 3) := by decide +kernel
theorem dX10_typeMore_55 : decode cX10_typeMore 55 = .ok (.iconst 4, 1) := by decide +kernel
theorem dX10_typeMore_56 : decode cX10_typeMore 56 = .ok (.iload 6, 2) := by decide +kernel
theorem dX10_typeMore_58 : decode cX10_typeMore 58 = .ok (.castore, 1) := by decide +kernel
theorem dX10_typeMore_59 : decode cX10_typeMore 59 = .ok (.aload_n 0, 1) := by decide +kernel
theorem dX10_typeMore_60 : decode cX10_typeMore 60 = .ok (.getfield 22, 3) := by decide +kernel
theorem dX10_typeMore_63 : decode cX10_typeMore 63 = .ok (.iconst 5, 1) := by decide +kernel
theorem dX10_typeMore_64 : decode cX10_typeMore 64 = .ok (.iload 7, 2) := by decide +kernel
theorem dX10_typeMore_66 : decode cX10_typeMore 66 = .ok (.castore, 1) := by decide +kernel
theorem dX10_typeMore_67 : decode cX10_typeMore 67 = .ok (.aload_n 0, 1) := by decide +kernel
theorem dX10_typeMore_68 : decode cX10_typeMore 68 = .ok (.getfield 22, 3) := by decide +kernel
theorem dX10_typeMore_71 : decode cX10_typeMore 71 = .ok (.bipush 6, 2) := by decide +kernel
theorem dX10_typeMore_73 : decode cX10_typeMore 73 = .ok (.iload 8, 2) := by decide +kernel
theorem dX10_typeMore_75 : decode cX10_typeMore 75 = .ok (.castore, 1) := by decide +kernel
theorem dX10_typeMore_76 : decode cX10_typeMore 76 = .ok (.aload_n 0, 1) := by decide +kernel
theorem dX10_typeMore_77 : decode cX10_typeMore 77 = .ok (.getfield 22, 3) := by decide +kernel
theorem dX10_typeMore_80 : decode cX10_typeMore 80 = .ok (.bipush 7, 2) := by decide +kernel
theorem dX10_typeMore_82 : decode cX10_typeMore 82 = .ok (.iload 9, 2) := by decide +kernel
theorem dX10_typeMore_84 : decode cX10_typeMore 84 = .ok (.castore, 1) := by decide +kernel
theorem dX10_typeMore_85 : decode cX10_typeMore 85 = .ok (.iconst 0, 1) := by decide +kernel
theorem dX10_typeMore_86 : decode cX10_typeMore 86 = .ok (.istore 10, 2) := by decide +kernel
theorem dX10_typeMore_88 : decode cX10_typeMore 88 = .ok (.iload 10, 2) := by decide +kernel
theorem dX10_typeMore_90 : decode cX10_typeMore 90 = .ok (.iload_n 1, 1) := by decide +kernel
theorem dX10_typeMore_91 : decode cX10_typeMore 91 = .ok (.if_icmp .ge 32, 3) := by decide +kernel
theorem dX10_typeMore_94 : decode cX10_typeMore 94 = .ok (.aload_n 0, 1) := by decide +kernel
theorem dX10_typeMore_95 : decode cX10_typeMore 95 = .ok (.getfield 22, 3) := by decide +kernel
theorem dX10_typeMore_98 : decode cX10_typeMore 98 = .ok (.iload 10, 2) := by decide +kernel
theorem dX10_typeMore_100 : decode cX10_typeMore 100 = .ok (.caload, 1) := by decide +kernel
theorem dX10_typeMore_101 : decode cX10_typeMore 101 = .ok (.invokestatic 69, 3) := by decide +kernel
theorem dX10_typeMore_104 : decode cX10_typeMore 104 = .ok (.ifCond .ne 13, 3) := by decide +kernel
theorem dX10_typeMore_107 : decode cX10_typeMore 107 = .ok (.new 73, 3) := by decide +kernel
theorem dX10_typeMore_110 : decode cX10_typeMore 110 = .ok (.dup, 1) := by decide +kernel
theorem dX10_typeMore_111 : decode cX10_typeMore 111 = .ok (.ldc 75, 2) := by decide +kernel
theorem dX10_typeMore_113 : decode cX10_typeMore 113 = .ok (.invokespecial 77, 3) := by decide +kernel
theorem dX10_typeMore_116 : decode cX10_typeMore 116 = .ok (.athrow, 1) := by decide +kernel
theorem dX10_typeMore_117 : decode cX10_typeMore 117 = .ok (.iinc 10 1, 3) := by decide +kernel
theorem dX10_typeMore_120 : decode cX10_typeMore 120 = .ok (.goto (-32), 3) := by decide +kernel
theorem dX10_typeMore_123 : decode cX10_typeMore 123 = .ok (.aload_n 0, 1) := by decide +kernel
theorem dX10_typeMore_124 : decode cX10_typeMore 124 = .ok (.getfield 18, 3) := by decide +kernel
theorem dX10_typeMore_127 : decode cX10_typeMore 127 = .ok (.getfield 80, 3) := by decide +kernel
theorem dX10_typeMore_130 : decode cX10_typeMore 130 = .ok (.iload_n 1, 1) := by decide +kernel
theorem dX10_typeMore_131 : decode cX10_typeMore 131 = .ok (.iadd, 1) := by decide +kernel
theorem dX10_typeMore_132 : decode cX10_typeMore 132 = .ok (.bipush 65, 2) := by decide +kernel
theorem dX10_typeMore_134 : decode cX10_typeMore 134 = .ok (.if_icmp .le 13, 3) := by decide +kernel
theorem dX10_typeMore_137 : decode cX10_typeMore 137 = .ok (.new 84, 3) := by decide +kernel
theorem dX10_typeMore_140 : decode cX10_typeMore 140 = .ok (.dup, 1) := by decide +kernel
theorem dX10_typeMore_141 : decode cX10_typeMore 141 = .ok (.ldc 95, 2) := by decide +kernel
theorem dX10_typeMore_143 : decode cX10_typeMore 143 = .ok (.invokespecial 88, 3) := by decide +kernel
theorem dX10_typeMore_146 : decode cX10_typeMore 146 = .ok (.athrow, 1) := by decide +kernel
theorem dX10_typeMore_147 : decode cX10_typeMore 147 = .ok (.iconst 0, 1) := by decide +kernel
theorem dX10_typeMore_148 : decode cX10_typeMore 148 = .ok (.istore 10, 2) := by decide +kernel
theorem dX10_typeMore_150 : decode cX10_typeMore 150 = .ok (.iload 10, 2) := by decide +kernel
theorem dX10_typeMore_152 : decode cX10_typeMore 152 = .ok (.iload_n 1, 1) := by decide +kernel
theorem dX10_typeMore_153 : decode cX10_typeMore 153 = .ok (.if_icmp .ge 23, 3) := by decide +kernel
theorem dX10_typeMore_156 : decode cX10_typeMore 156 = .ok (.aload_n 0, 1) := by decide +kernel
theorem dX10_typeMore_157 : decode cX10_typeMore 157 = .ok (.getfield 18, 3) := by decide +kernel
theorem dX10_typeMore_160 : decode cX10_typeMore 160 = .ok (.aload_n 0, 1) := by decide +kernel
theorem dX10_typeMore_161 : decode cX10_typeMore 161 = .ok (.getfield 22, 3) := by decide +kernel
theorem dX10_typeMore_164 : decode cX10_typeMore 164 = .ok (.iload 10, 2) := by decide +kernel
theorem dX10_typeMore_166 : decode cX10_typeMore 166 = .ok (.caload, 1) := by decide +kernel
theorem dX10_typeMore_167 : decode cX10_typeMore 167 = .ok (.invokevirtual 89, 3) := by decide +kernel
theorem dX10_typeMore_170 : decode cX10_typeMore 170 = .ok (.iinc 10 1, 3) := by decide +kernel
theorem dX10_typeMore_173 : decode cX10_typeMore 173 = .ok (.goto (-23), 3) := by decide +kernel
theorem dX10_typeMore_176 : decode cX10_typeMore 176 = .ok (.aload_n 0, 1) := by decide +kernel
theorem dX10_typeMore_177 : decode cX10_typeMore 177 = .ok (.getfield 18, 3) := by decide +kernel
theorem dX10_typeMore_180 : decode cX10_typeMore 180 = .ok (.getfield 80, 3) := by decide +kernel
theorem dX10_typeMore_183 : decode cX10_typeMore 183 = .ok (.ireturn, 1) := by decide +kernel
theorem dX10_wipe_0 : decode cX10_wipe 0 = .ok (.aload_n 0, 1) := by decide +kernel
theorem dX10_wipe_1 : decode cX10_wipe 1 = .ok (.getfield 18, 3) := by decide +kernel
theorem dX10_wipe_4 : decode cX10_wipe 4 = .ok (.getfield 80, 3) := by decide +kernel
theorem dX10_wipe_7 : decode cX10_wipe 7 = .ok (.istore_n 1, 1) := by decide +kernel
theorem dX10_wipe_8 : decode cX10_wipe 8 = .ok (.aload_n 0, 1) := by decide +kernel
theorem dX10_wipe_9 : decode cX10_wipe 9 = .ok (.getfield 18, 3) := by decide +kernel
theorem dX10_wipe_12 : decode cX10_wipe 12 = .ok (.iconst 0, 1) := by decide +kernel
theorem dX10_wipe_13 : decode cX10_wipe 13 = .ok (.putfield 80, 3) := by decide +kernel
theorem dX10_wipe_16 : decode cX10_wipe 16 = .ok (.iload_n 1, 1) := by decide +kernel
theorem dX10_wipe_17 : decode cX10_wipe 17 = .ok (.ireturn, 1) := by decide +kernel
theorem dX10_typed_0 : decode cX10_typed 0 = .ok (.iload_n 1, 1) := by decide +kernel
theorem dX10_typed_1 : decode cX10_typed 1 = .ok (.ifCond .lt 14, 3) := by decide +kernel
theorem dX10_typed_4 : decode cX10_typed 4 = .ok (.iload_n 1, 1) := by decide +kernel
theorem dX10_typed_5 : decode cX10_typed 5 = .ok (.aload_n 0, 1) := by decide +kernel
theorem dX10_typed_6 : decode cX10_typed 6 = .ok (.getfield 18, 3) := by decide +kernel
theorem dX10_typed_9 : decode cX10_typed 9 = .ok (.getfield 80, 3) := by decide +kernel
theorem dX10_typed_12 : decode cX10_typed 12 = .ok (.if_icmp .lt 13, 3) := by decide +kernel
theorem dX10_typed_15 : decode cX10_typed 15 = .ok (.new 97, 3) := by decide +kernel
theorem dX10_typed_18 : decode cX10_typed 18 = .ok (.dup, 1) := by decide +kernel
theorem dX10_typed_19 : decode cX10_typed 19 = .ok (.ldc 99, 2) := by decide +kernel
theorem dX10_typed_21 : decode cX10_typed 21 = .ok (.invokespecial 101, 3) := by decide +kernel
theorem dX10_typed_24 : decode cX10_typed 24 = .ok (.athrow, 1) := by decide +kernel
theorem dX10_typed_25 : decode cX10_typed 25 = .ok (.aload_n 0, 1) := by decide +kernel
theorem dX10_typed_26 : decode cX10_typed 26 = .ok (.getfield 18, 3) := by decide +kernel
theorem dX10_typed_29 : decode cX10_typed 29 = .ok (.getfield 102, 3) := by decide +kernel
theorem dX10_typed_32 : decode cX10_typed 32 = .ok (.iload_n 1, 1) := by decide +kernel
theorem dX10_typed_33 : decode cX10_typed 33 = .ok (.caload, 1) := by decide +kernel
theorem dX10_typed_34 : decode cX10_typed 34 = .ok (.ireturn, 1) := by decide +kernel
theorem dX10_text_0 : decode cX10_text 0 = .ok (.aload_n 0, 1) := by decide +kernel
theorem dX10_text_1 : decode cX10_text 1 = .ok (.getfield 18, 3) := by decide +kernel
theorem dX10_text_4 : decode cX10_text 4 = .ok (.getfield 80, 3) := by decide +kernel
theorem dX10_text_7 : decode cX10_text 7 = .ok (.bipush 64, 2) := by decide +kernel
theorem dX10_text_9 : decode cX10_text 9 = .ok (.if_icmp .gt 13, 3) := by decide +kernel
theorem dX10_text_12 : decode cX10_text 12 = .ok (.aload_n 0, 1) := by decide +kernel
theorem dX10_text_13 : decode cX10_text 13 = .ok (.getfield 18, 3) := by decide +kernel
theorem dX10_text_16 : decode cX10_text 16 = .ok (.invokevirtual 105, 3) := by decide +kernel
theorem dX10_text_19 : decode cX10_text 19 = .ok (.ifCond .eq 13, 3) := by decide +kernel
theorem dX10_text_22 : decode cX10_text 22 = .ok (.new 109, 3) := by decide +kernel
theorem dX10_text_25 : decode cX10_text 25 = .ok (.dup, 1) := by decide +kernel
theorem dX10_text_26 : decode cX10_text 26 = .ok (.ldc 111, 2) := by decide +kernel
theorem dX10_text_28 : decode cX10_text 28 = .ok (.invokespecial 113, 3) := by decide +kernel
theorem dX10_text_31 : decode cX10_text 31 = .ok (.athrow, 1) := by decide +kernel
theorem dX10_text_32 : decode cX10_text 32 = .ok (.aload_n 0, 1) := by decide +kernel
theorem dX10_text_33 : decode cX10_text 33 = .ok (.invokevirtual 114, 3) := by decide +kernel
theorem dX10_text_36 : decode cX10_text 36 = .ok (.astore_n 1, 1) := by decide +kernel
theorem dX10_text_37 : decode cX10_text 37 = .ok (.aload_n 1, 1) := by decide +kernel
theorem dX10_text_38 : decode cX10_text 38 = .ok (.aload_n 0, 1) := by decide +kernel
theorem dX10_text_39 : decode cX10_text 39 = .ok (.getfield 18, 3) := by decide +kernel
theorem dX10_text_42 : decode cX10_text 42 = .ok (.getfield 102, 3) := by decide +kernel
theorem dX10_text_45 : decode cX10_text 45 = .ok (.aload_n 0, 1) := by decide +kernel
theorem dX10_text_46 : decode cX10_text 46 = .ok (.getfield 18, 3) := by decide +kernel
theorem dX10_text_49 : decode cX10_text 49 = .ok (.getfield 80, 3) := by decide +kernel
theorem dX10_text_52 : decode cX10_text 52 = .ok (.invokevirtual 118, 3) := by decide +kernel
theorem dX10_text_55 : decode cX10_text 55 = .ok (.aload_n 0, 1) := by decide +kernel
theorem dX10_text_56 : decode cX10_text 56 = .ok (.getfield 18, 3) := by decide +kernel
theorem dX10_text_59 : decode cX10_text 59 = .ok (.iconst 0, 1) := by decide +kernel
theorem dX10_text_60 : decode cX10_text 60 = .ok (.putfield 80, 3) := by decide +kernel
theorem dX10_text_63 : decode cX10_text 63 = .ok (.aload_n 0, 1) := by decide +kernel
theorem dX10_text_64 : decode cX10_text 64 = .ok (.aload_n 1, 1) := by decide +kernel
theorem dX10_text_65 : decode cX10_text 65 = .ok (.invokevirtual 122, 3) := by decide +kernel
theorem dX10_text_68 : decode cX10_text 68 = .ok (.ireturn, 1) := by decide +kernel
theorem dX10_take_0 : decode cX10_take 0 = .ok (.aload_n 0, 1) := by decide +kernel
theorem dX10_take_1 : decode cX10_take 1 = .ok (.iload_n 1, 1) := by decide +kernel
theorem dX10_take_2 : decode cX10_take 2 = .ok (.invokevirtual 126, 3) := by decide +kernel
theorem dX10_take_5 : decode cX10_take 5 = .ok (.astore_n 2, 1) := by decide +kernel
theorem dX10_take_6 : decode cX10_take 6 = .ok (.aload_n 0, 1) := by decide +kernel
theorem dX10_take_7 : decode cX10_take 7 = .ok (.getfield 18, 3) := by decide +kernel
theorem dX10_take_10 : decode cX10_take 10 = .ok (.aload_n 2, 1) := by decide +kernel
theorem dX10_take_11 : decode cX10_take 11 = .ok (.getfield 130, 3) := by decide +kernel
theorem dX10_take_14 : decode cX10_take 14 = .ok (.iconst 0, 1) := by decide +kernel
theorem dX10_take_15 : decode cX10_take 15 = .ok (.aload_n 2, 1) := by decide +kernel
theorem dX10_take_16 : decode cX10_take 16 = .ok (.getfield 131, 3) := by decide +kernel
theorem dX10_take_19 : decode cX10_take 19 = .ok (.invokevirtual 132, 3) := by decide +kernel
theorem dX10_take_22 : decode cX10_take 22 = .ok (.aload_n 0, 1) := by decide +kernel
theorem dX10_take_23 : decode cX10_take 23 = .ok (.getfield 18, 3) := by decide +kernel
theorem dX10_take_26 : decode cX10_take 26 = .ok (.getfield 80, 3) := by decide +kernel
theorem dX10_take_29 : decode cX10_take 29 = .ok (.ireturn, 1) := by decide +kernel
theorem dX10_length_0 : decode cX10_length 0 = .ok (.aload_n 0, 1) := by decide +kernel
theorem dX10_length_1 : decode cX10_length 1 = .ok (.iload_n 1, 1) := by decide +kernel
theorem dX10_length_2 : decode cX10_length 2 = .ok (.invokevirtual 126, 3) := by decide +kernel
theorem dX10_length_5 : decode cX10_length 5 = .ok (.getfield 131, 3) := by decide +kernel
theorem dX10_length_8 : decode cX10_length 8 = .ok (.ireturn, 1) := by decide +kernel
theorem dX10_signAt_0 : decode cX10_signAt 0 = .ok (.aload_n 0, 1) := by decide +kernel
theorem dX10_signAt_1 : decode cX10_signAt 1 = .ok (.iload_n 1, 1) := by decide +kernel
theorem dX10_signAt_2 : decode cX10_signAt 2 = .ok (.iload_n 2, 1) := by decide +kernel
theorem dX10_signAt_3 : decode cX10_signAt 3 = .ok (.invokevirtual 136, 3) := by decide +kernel
theorem dX10_signAt_6 : decode cX10_signAt 6 = .ok (.getfield 130, 3) := by decide +kernel
theorem dX10_signAt_9 : decode cX10_signAt 9 = .ok (.iload_n 2, 1) := by decide +kernel
theorem dX10_signAt_10 : decode cX10_signAt 10 = .ok (.caload, 1) := by decide +kernel
theorem dX10_signAt_11 : decode cX10_signAt 11 = .ok (.ireturn, 1) := by decide +kernel
theorem dX10_join_0 : decode cX10_join 0 = .ok (.aload_n 0, 1) := by decide +kernel
theorem dX10_join_1 : decode cX10_join 1 = .ok (.iload_n 1, 1) := by decide +kernel
theorem dX10_join_2 : decode cX10_join 2 = .ok (.invokevirtual 126, 3) := by decide +kernel
theorem dX10_join_5 : decode cX10_join 5 = .ok (.astore_n 3, 1) := by decide +kernel
theorem dX10_join_6 : decode cX10_join 6 = .ok (.aload_n 0, 1) := by decide +kernel
theorem dX10_join_7 : decode cX10_join 7 = .ok (.iload_n 2, 1) := by decide +kernel
theorem dX10_join_8 : decode cX10_join 8 = .ok (.invokevirtual 126, 3) := by decide +kernel
theorem dX10_join_11 : decode cX10_join 11 = .ok (.astore 4, 2) := by decide +kernel
theorem dX10_join_13 : decode cX10_join 13 = .ok (.aload_n 3, 1) := by decide +kernel
theorem dX10_join_14 : decode cX10_join 14 = .ok (.getfield 131, 3) := by decide +kernel
theorem dX10_join_17 : decode cX10_join 17 = .ok (.aload 4, 2) := by decide +kernel
theorem dX10_join_19 : decode cX10_join 19 = .ok (.getfield 131, 3) := by decide +kernel
theorem dX10_join_22 : decode cX10_join 22 = .ok (.iadd, 1) := by decide +kernel
theorem dX10_join_23 : decode cX10_join 23 = .ok (.bipush 64, 2) := by decide +kernel
theorem dX10_join_25 : decode cX10_join 25 = .ok (.if_icmp .le 13, 3) := by decide +kernel
theorem dX10_join_28 : decode cX10_join 28 = .ok (.new 109, 3) := by decide +kernel
theorem dX10_join_31 : decode cX10_join 31 = .ok (.dup, 1) := by decide +kernel
theorem dX10_join_32 : decode cX10_join 32 = .ok (.ldc 140, 2) := by decide +kernel
theorem dX10_join_34 : decode cX10_join 34 = .ok (.invokespecial 113, 3) := by decide +kernel
theorem dX10_join_37 : decode cX10_join 37 = .ok (.athrow, 1) := by decide +kernel
theorem dX10_join_38 : decode cX10_join 38 = .ok (.aload_n 0, 1) := by decide +kernel
theorem dX10_join_39 : decode cX10_join 39 = .ok (.invokevirtual 114, 3) := by decide +kernel
theorem dX10_join_42 : decode cX10_join 42 = .ok (.astore 5, 2) := by decide +kernel
theorem dX10_join_44 : decode cX10_join 44 = .ok (.aload 5, 2) := by decide +kernel
theorem dX10_join_46 : decode cX10_join 46 = .ok (.aload_n 3, 1) := by decide +kernel
theorem dX10_join_47 : decode cX10_join 47 = .ok (.getfield 130, 3) := by decide +kernel
theorem dX10_join_50 : decode cX10_join 50 = .ok (.aload_n 3, 1) := by decide +kernel
theorem dX10_join_51 : decode cX10_join 51 = .ok (.getfield 131, 3) := by decide +kernel
theorem dX10_join_54 : decode cX10_join 54 = .ok (.invokevirtual 118, 3) := by decide +kernel
theorem dX10_join_57 : decode cX10_join 57 = .ok (.aload 5, 2) := by decide +kernel
theorem dX10_join_59 : decode cX10_join 59 = .ok (.aload 4, 2) := by decide +kernel
theorem dX10_join_61 : decode cX10_join 61 = .ok (.getfield 130, 3) := by decide +kernel
theorem dX10_join_64 : decode cX10_join 64 = .ok (.aload 4, 2) := by decide +kernel
theorem dX10_join_66 : decode cX10_join 66 = .ok (.getfield 131, 3) := by decide +kernel
theorem dX10_join_69 : decode cX10_join 69 = .ok (.invokevirtual 118, 3) := by decide +kernel
theorem dX10_join_72 : decode cX10_join 72 = .ok (.aload_n 0, 1) := by decide +kernel
theorem dX10_join_73 : decode cX10_join 73 = .ok (.aload 5, 2) := by decide +kernel
theorem dX10_join_75 : decode cX10_join 75 = .ok (.invokevirtual 122, 3) := by decide +kernel
theorem dX10_join_78 : decode cX10_join 78 = .ok (.ireturn, 1) := by decide +kernel
theorem dX10_mirror_0 : decode cX10_mirror 0 = .ok (.aload_n 0, 1) := by decide +kernel
theorem dX10_mirror_1 : decode cX10_mirror 1 = .ok (.iload_n 1, 1) := by decide +kernel
theorem dX10_mirror_2 : decode cX10_mirror 2 = .ok (.invokevirtual 126, 3) := by decide +kernel
theorem dX10_mirror_5 : decode cX10_mirror 5 = .ok (.astore_n 2, 1) := by decide +kernel
theorem dX10_mirror_6 : decode cX10_mirror 6 = .ok (.aload_n 0, 1) := by decide +kernel
theorem dX10_mirror_7 : decode cX10_mirror 7 = .ok (.invokevirtual 114, 3) := by decide +kernel
theorem dX10_mirror_10 : decode cX10_mirror 10 = .ok (.astore_n 3, 1) := by decide +kernel
theorem dX10_mirror_11 : decode cX10_mirror 11 = .ok (.aload_n 3, 1) := by decide +kernel
theorem dX10_mirror_12 : decode cX10_mirror 12 = .ok (.aload_n 2, 1) := by decide +kernel
theorem dX10_mirror_13 : decode cX10_mirror 13 = .ok (.invokevirtual 142, 3) := by decide +kernel
theorem dX10_mirror_16 : decode cX10_mirror 16 = .ok (.aload_n 0, 1) := by decide +kernel
theorem dX10_mirror_17 : decode cX10_mirror 17 = .ok (.aload_n 3, 1) := by decide +kernel
theorem dX10_mirror_18 : decode cX10_mirror 18 = .ok (.invokevirtual 122, 3) := by decide +kernel
theorem dX10_mirror_21 : decode cX10_mirror 21 = .ok (.ireturn, 1) := by decide +kernel
theorem dX10_change_0 : decode cX10_change 0 = .ok (.aload_n 0, 1) := by decide +kernel
theorem dX10_change_1 : decode cX10_change 1 = .ok (.iload_n 1, 1) := by decide +kernel
theorem dX10_change_2 : decode cX10_change 2 = .ok (.iload_n 2, 1) := by decide +kernel
theorem dX10_change_3 : decode cX10_change 3 = .ok (.invokevirtual 136, 3) := by decide +kernel
theorem dX10_change_6 : decode cX10_change 6 = .ok (.astore 4, 2) := by decide +kernel
theorem dX10_change_8 : decode cX10_change 8 = .ok (.iload_n 3, 1) := by decide +kernel
theorem dX10_change_9 : decode cX10_change 9 = .ok (.invokestatic 146, 3) := by decide +kernel
theorem dX10_change_12 : decode cX10_change 12 = .ok (.ifCond .ne 13, 3) := by decide +kernel
theorem dX10_change_15 : decode cX10_change 15 = .ok (.new 73, 3) := by decide +kernel
theorem dX10_change_18 : decode cX10_change 18 = .ok (.dup, 1) := by decide +kernel
theorem dX10_change_19 : decode cX10_change 19 = .ok (.ldc 75, 2) := by decide +kernel
theorem dX10_change_21 : decode cX10_change 21 = .ok (.invokespecial 77, 3) := by decide +kernel
theorem dX10_change_24 : decode cX10_change 24 = .ok (.athrow, 1) := by decide +kernel
theorem dX10_change_25 : decode cX10_change 25 = .ok (.aload 4, 2) := by decide +kernel
theorem dX10_change_27 : decode cX10_change 27 = .ok (.getfield 130, 3) := by decide +kernel
theorem dX10_change_30 : decode cX10_change 30 = .ok (.iload_n 2, 1) := by decide +kernel
theorem dX10_change_31 : decode cX10_change 31 = .ok (.caload, 1) := by decide +kernel
theorem dX10_change_32 : decode cX10_change 32 = .ok (.istore 5, 2) := by decide +kernel
theorem dX10_change_34 : decode cX10_change 34 = .ok (.aload 4, 2) := by decide +kernel
theorem dX10_change_36 : decode cX10_change 36 = .ok (.getfield 130, 3) := by decide +kernel
theorem dX10_change_39 : decode cX10_change 39 = .ok (.iload_n 2, 1) := by decide +kernel
theorem dX10_change_40 : decode cX10_change 40 = .ok (.iload_n 3, 1) := by decide +kernel
theorem dX10_change_41 : decode cX10_change 41 = .ok (.castore, 1) := by decide +kernel
theorem dX10_change_42 : decode cX10_change 42 = .ok (.aload_n 0, 1) := by decide +kernel
theorem dX10_change_43 : decode cX10_change 43 = .ok (.getfield 29, 3) := by decide +kernel
theorem dX10_change_46 : decode cX10_change 46 = .ok (.aload 4, 2) := by decide +kernel
theorem dX10_change_48 : decode cX10_change 48 = .ok (.invokevirtual 149, 3) := by decide +kernel
theorem dX10_change_51 : decode cX10_change 51 = .ok (.iload 5, 2) := by decide +kernel
theorem dX10_change_53 : decode cX10_change 53 = .ok (.ireturn, 1) := by decide +kernel
theorem dX10_ahead_0 : decode cX10_ahead 0 = .ok (.aload_n 0, 1) := by decide +kernel
theorem dX10_ahead_1 : decode cX10_ahead 1 = .ok (.iload_n 1, 1) := by decide +kernel
theorem dX10_ahead_2 : decode cX10_ahead 2 = .ok (.invokevirtual 126, 3) := by decide +kernel
theorem dX10_ahead_5 : decode cX10_ahead 5 = .ok (.astore_n 3, 1) := by decide +kernel
theorem dX10_ahead_6 : decode cX10_ahead 6 = .ok (.iload_n 2, 1) := by decide +kernel
theorem dX10_ahead_7 : decode cX10_ahead 7 = .ok (.invokestatic 146, 3) := by decide +kernel
theorem dX10_ahead_10 : decode cX10_ahead 10 = .ok (.ifCond .ne 13, 3) := by decide +kernel
theorem dX10_ahead_13 : decode cX10_ahead 13 = .ok (.new 73, 3) := by decide +kernel
theorem dX10_ahead_16 : decode cX10_ahead 16 = .ok (.dup, 1) := by decide +kernel
theorem dX10_ahead_17 : decode cX10_ahead 17 = .ok (.ldc 75, 2) := by decide +kernel
theorem dX10_ahead_19 : decode cX10_ahead 19 = .ok (.invokespecial 77, 3) := by decide +kernel
theorem dX10_ahead_22 : decode cX10_ahead 22 = .ok (.athrow, 1) := by decide +kernel
theorem dX10_ahead_23 : decode cX10_ahead 23 = .ok (.aload_n 3, 1) := by decide +kernel
theorem dX10_ahead_24 : decode cX10_ahead 24 = .ok (.getfield 131, 3) := by decide +kernel
theorem dX10_ahead_27 : decode cX10_ahead 27 = .ok (.bipush 64, 2) := by decide +kernel
theorem dX10_ahead_29 : decode cX10_ahead 29 = .ok (.if_icmp .lt 13, 3) := by decide +kernel
theorem dX10_ahead_32 : decode cX10_ahead 32 = .ok (.new 84, 3) := by decide +kernel
theorem dX10_ahead_35 : decode cX10_ahead 35 = .ok (.dup, 1) := by decide +kernel
theorem dX10_ahead_36 : decode cX10_ahead 36 = .ok (.ldc 152, 2) := by decide +kernel
theorem dX10_ahead_38 : decode cX10_ahead 38 = .ok (.invokespecial 88, 3) := by decide +kernel
theorem dX10_ahead_41 : decode cX10_ahead 41 = .ok (.athrow, 1) := by decide +kernel
theorem dX10_ahead_42 : decode cX10_ahead 42 = .ok (.aload_n 3, 1) := by decide +kernel
theorem dX10_ahead_43 : decode cX10_ahead 43 = .ok (.iload_n 2, 1) := by decide +kernel
theorem dX10_ahead_44 : decode cX10_ahead 44 = .ok (.invokevirtual 154, 3) := by decide +kernel
theorem dX10_ahead_47 : decode cX10_ahead 47 = .ok (.aload_n 0, 1) := by decide +kernel
theorem dX10_ahead_48 : decode cX10_ahead 48 = .ok (.getfield 29, 3) := by decide +kernel
theorem dX10_ahead_51 : decode cX10_ahead 51 = .ok (.aload_n 3, 1) := by decide +kernel
theorem dX10_ahead_52 : decode cX10_ahead 52 = .ok (.invokevirtual 149, 3) := by decide +kernel
theorem dX10_ahead_55 : decode cX10_ahead 55 = .ok (.aload_n 3, 1) := by decide +kernel
theorem dX10_ahead_56 : decode cX10_ahead 56 = .ok (.invokevirtual 157, 3) := by decide +kernel
theorem dX10_ahead_59 : decode cX10_ahead 59 = .ok (.ireturn, 1) := by decide +kernel
theorem dX10_chop_0 : decode cX10_chop 0 = .ok (.aload_n 0, 1) := by decide +kernel
theorem dX10_chop_1 : decode cX10_chop 1 = .ok (.iload_n 1, 1) := by decide +kernel
theorem dX10_chop_2 : decode cX10_chop 2 = .ok (.invokevirtual 161, 3) := by decide +kernel
theorem dX10_chop_5 : decode cX10_chop 5 = .ok (.astore_n 2, 1) := by decide +kernel
theorem dX10_chop_6 : decode cX10_chop 6 = .ok (.aload_n 2, 1) := by decide +kernel
theorem dX10_chop_7 : decode cX10_chop 7 = .ok (.invokevirtual 157, 3) := by decide +kernel
theorem dX10_chop_10 : decode cX10_chop 10 = .ok (.istore_n 3, 1) := by decide +kernel
theorem dX10_chop_11 : decode cX10_chop 11 = .ok (.aload_n 2, 1) := by decide +kernel
theorem dX10_chop_12 : decode cX10_chop 12 = .ok (.invokevirtual 164, 3) := by decide +kernel
theorem dX10_chop_15 : decode cX10_chop 15 = .ok (.aload_n 0, 1) := by decide +kernel
theorem dX10_chop_16 : decode cX10_chop 16 = .ok (.getfield 29, 3) := by decide +kernel
theorem dX10_chop_19 : decode cX10_chop 19 = .ok (.aload_n 2, 1) := by decide +kernel
theorem dX10_chop_20 : decode cX10_chop 20 = .ok (.invokevirtual 149, 3) := by decide +kernel
theorem dX10_chop_23 : decode cX10_chop 23 = .ok (.iload_n 3, 1) := by decide +kernel
theorem dX10_chop_24 : decode cX10_chop 24 = .ok (.ireturn, 1) := by decide +kernel
theorem dX10_endAt_0 : decode cX10_endAt 0 = .ok (.aload_n 0, 1) := by decide +kernel
theorem dX10_endAt_1 : decode cX10_endAt 1 = .ok (.iload_n 1, 1) := by decide +kernel
theorem dX10_endAt_2 : decode cX10_endAt 2 = .ok (.iload_n 2, 1) := by decide +kernel
theorem dX10_endAt_3 : decode cX10_endAt 3 = .ok (.invokevirtual 136, 3) := by decide +kernel
theorem dX10_endAt_6 : decode cX10_endAt 6 = .ok (.getfield 167, 3) := by decide +kernel
theorem dX10_endAt_9 : decode cX10_endAt 9 = .ok (.iload_n 2, 1) := by decide +kernel
theorem dX10_endAt_10 : decode cX10_endAt 10 = .ok (.iaload, 1) := by decide +kernel
theorem dX10_endAt_11 : decode cX10_endAt 11 = .ok (.ireturn, 1) := by decide +kernel
theorem dX10_rankOf_0 : decode cX10_rankOf 0 = .ok (.aload_n 0, 1) := by decide +kernel
theorem dX10_rankOf_1 : decode cX10_rankOf 1 = .ok (.iload_n 1, 1) := by decide +kernel
theorem dX10_rankOf_2 : decode cX10_rankOf 2 = .ok (.iload_n 2, 1) := by decide +kernel
theorem dX10_rankOf_3 : decode cX10_rankOf 3 = .ok (.invokevirtual 136, 3) := by decide +kernel
theorem dX10_rankOf_6 : decode cX10_rankOf 6 = .ok (.getfield 171, 3) := by decide +kernel
theorem dX10_rankOf_9 : decode cX10_rankOf 9 = .ok (.iload_n 2, 1) := by decide +kernel
theorem dX10_rankOf_10 : decode cX10_rankOf 10 = .ok (.iaload, 1) := by decide +kernel
theorem dX10_rankOf_11 : decode cX10_rankOf 11 = .ok (.ireturn, 1) := by decide +kernel
theorem dX10_classOf_0 : decode cX10_classOf 0 = .ok (.aload_n 0, 1) := by decide +kernel
theorem dX10_classOf_1 : decode cX10_classOf 1 = .ok (.iload_n 1, 1) := by decide +kernel
theorem dX10_classOf_2 : decode cX10_classOf 2 = .ok (.iload_n 2, 1) := by decide +kernel
theorem dX10_classOf_3 : decode cX10_classOf 3 = .ok (.invokevirtual 136, 3) := by decide +kernel
theorem dX10_classOf_6 : decode cX10_classOf 6 = .ok (.astore 4, 2) := by decide +kernel
theorem dX10_classOf_8 : decode cX10_classOf 8 = .ok (.aload_n 0, 1) := by decide +kernel
theorem dX10_classOf_9 : decode cX10_classOf 9 = .ok (.iload_n 3, 1) := by decide +kernel
theorem dX10_classOf_10 : decode cX10_classOf 10 = .ok (.invokevirtual 174, 3) := by decide +kernel
theorem dX10_classOf_13 : decode cX10_classOf 13 = .ok (.aload 4, 2) := by decide +kernel
theorem dX10_classOf_15 : decode cX10_classOf 15 = .ok (.iload_n 3, 1) := by decide +kernel
theorem dX10_classOf_16 : decode cX10_classOf 16 = .ok (.aload 4, 2) := by decide +kernel
theorem dX10_classOf_18 : decode cX10_classOf 18 = .ok (.getfield 171, 3) := by decide +kernel
theorem dX10_classOf_21 : decode cX10_classOf 21 = .ok (.iload_n 2, 1) := by decide +kernel
theorem dX10_classOf_22 : decode cX10_classOf 22 = .ok (.iaload, 1) := by decide +kernel
theorem dX10_classOf_23 : decode cX10_classOf 23 = .ok (.invokevirtual 178, 3) := by decide +kernel
theorem dX10_classOf_26 : decode cX10_classOf 26 = .ok (.iconst 1, 1) := by decide +kernel
theorem dX10_classOf_27 : decode cX10_classOf 27 = .ok (.isub, 1) := by decide +kernel
theorem dX10_classOf_28 : decode cX10_classOf 28 = .ok (.ireturn, 1) := by decide +kernel
theorem dX10_classes_0 : decode cX10_classes 0 = .ok (.aload_n 0, 1) := by decide +kernel
theorem dX10_classes_1 : decode cX10_classes 1 = .ok (.iload_n 1, 1) := by decide +kernel
theorem dX10_classes_2 : decode cX10_classes 2 = .ok (.invokevirtual 126, 3) := by decide +kernel
theorem dX10_classes_5 : decode cX10_classes 5 = .ok (.astore_n 3, 1) := by decide +kernel
theorem dX10_classes_6 : decode cX10_classes 6 = .ok (.aload_n 0, 1) := by decide +kernel
theorem dX10_classes_7 : decode cX10_classes 7 = .ok (.iload_n 2, 1) := by decide +kernel
theorem dX10_classes_8 : decode cX10_classes 8 = .ok (.invokevirtual 174, 3) := by decide +kernel
theorem dX10_classes_11 : decode cX10_classes 11 = .ok (.aload_n 3, 1) := by decide +kernel
theorem dX10_classes_12 : decode cX10_classes 12 = .ok (.iload_n 2, 1) := by decide +kernel
theorem dX10_classes_13 : decode cX10_classes 13 = .ok (.aload_n 3, 1) := by decide +kernel
theorem dX10_classes_14 : decode cX10_classes 14 = .ok (.getfield 131, 3) := by decide +kernel
theorem dX10_classes_17 : decode cX10_classes 17 = .ok (.iconst 1, 1) := by decide +kernel
theorem dX10_classes_18 : decode cX10_classes 18 = .ok (.isub, 1) := by decide +kernel
theorem dX10_classes_19 : decode cX10_classes 19 = .ok (.invokevirtual 178, 3) := by decide +kernel
theorem dX10_classes_22 : decode cX10_classes 22 = .ok (.ireturn, 1) := by decide +kernel
theorem dX10_rounds_0 : decode cX10_rounds 0 = .ok (.aload_n 0, 1) := by decide +kernel
theorem dX10_rounds_1 : decode cX10_rounds 1 = .ok (.iload_n 1, 1) := by decide +kernel
theorem dX10_rounds_2 : decode cX10_rounds 2 = .ok (.invokevirtual 126, 3) := by decide +kernel
theorem dX10_rounds_5 : decode cX10_rounds 5 = .ok (.astore_n 2, 1) := by decide +kernel
theorem dX10_rounds_6 : decode cX10_rounds 6 = .ok (.aload_n 2, 1) := by decide +kernel
theorem dX10_rounds_7 : decode cX10_rounds 7 = .ok (.getfield 131, 3) := by decide +kernel
theorem dX10_rounds_10 : decode cX10_rounds 10 = .ok (.ifCond .ne 5, 3) := by decide +kernel
theorem dX10_rounds_13 : decode cX10_rounds 13 = .ok (.iconst 0, 1) := by decide +kernel
theorem dX10_rounds_14 : decode cX10_rounds 14 = .ok (.ireturn, 1) := by decide +kernel
theorem dX10_rounds_15 : decode cX10_rounds 15 = .ok (.aload_n 2, 1) := by decide +kernel
theorem dX10_rounds_16 : decode cX10_rounds 16 = .ok (.invokevirtual 182, 3) := by decide +kernel
theorem dX10_rounds_19 : decode cX10_rounds 19 = .ok (.istore_n 3, 1) := by decide +kernel
theorem dX10_rounds_20 : decode cX10_rounds 20 = .ok (.iconst 1, 1) := by decide +kernel
theorem dX10_rounds_21 : decode cX10_rounds 21 = .ok (.istore 4, 2) := by decide +kernel
theorem dX10_rounds_23 : decode cX10_rounds 23 = .ok (.iconst 1, 1) := by decide +kernel
theorem dX10_rounds_24 : decode cX10_rounds 24 = .ok (.istore 5, 2) := by decide +kernel
theorem dX10_rounds_26 : decode cX10_rounds 26 = .ok (.iload 5, 2) := by decide +kernel
theorem dX10_rounds_28 : decode cX10_rounds 28 = .ok (.iload_n 3, 1) := by decide +kernel
theorem dX10_rounds_29 : decode cX10_rounds 29 = .ok (.if_icmp .gt 15, 3) := by decide +kernel
theorem dX10_rounds_32 : decode cX10_rounds 32 = .ok (.iinc 4 1, 3) := by decide +kernel
theorem dX10_rounds_35 : decode cX10_rounds 35 = .ok (.iload 5, 2) := by decide +kernel
theorem dX10_rounds_37 : decode cX10_rounds 37 = .ok (.iconst 2, 1) := by decide +kernel
theorem dX10_rounds_38 : decode cX10_rounds 38 = .ok (.imul, 1) := by decide +kernel
theorem dX10_rounds_39 : decode cX10_rounds 39 = .ok (.istore 5, 2) := by decide +kernel
theorem dX10_rounds_41 : decode cX10_rounds 41 = .ok (.goto (-15), 3) := by decide +kernel
theorem dX10_rounds_44 : decode cX10_rounds 44 = .ok (.iload 4, 2) := by decide +kernel
theorem dX10_rounds_46 : decode cX10_rounds 46 = .ok (.ireturn, 1) := by decide +kernel
theorem dX10_common_0 : decode cX10_common 0 = .ok (.aload_n 0, 1) := by decide +kernel
theorem dX10_common_1 : decode cX10_common 1 = .ok (.iload_n 1, 1) := by decide +kernel
theorem dX10_common_2 : decode cX10_common 2 = .ok (.iload_n 2, 1) := by decide +kernel
theorem dX10_common_3 : decode cX10_common 3 = .ok (.invokevirtual 136, 3) := by decide +kernel
theorem dX10_common_6 : decode cX10_common 6 = .ok (.getfield 185, 3) := by decide +kernel
theorem dX10_common_9 : decode cX10_common 9 = .ok (.iload_n 2, 1) := by decide +kernel
theorem dX10_common_10 : decode cX10_common 10 = .ok (.iaload, 1) := by decide +kernel
theorem dX10_common_11 : decode cX10_common 11 = .ok (.ireturn, 1) := by decide +kernel
theorem dX10_shared_0 : decode cX10_shared 0 = .ok (.aload_n 0, 1) := by decide +kernel
theorem dX10_shared_1 : decode cX10_shared 1 = .ok (.iload_n 1, 1) := by decide +kernel
theorem dX10_shared_2 : decode cX10_shared 2 = .ok (.iload_n 2, 1) := by decide +kernel
theorem dX10_shared_3 : decode cX10_shared 3 = .ok (.invokevirtual 136, 3) := by decide +kernel
theorem dX10_shared_6 : decode cX10_shared 6 = .ok (.astore 5, 2) := by decide +kernel
theorem dX10_shared_8 : decode cX10_shared 8 = .ok (.aload_n 0, 1) := by decide +kernel
theorem dX10_shared_9 : decode cX10_shared 9 = .ok (.iload_n 3, 1) := by decide +kernel
theorem dX10_shared_10 : decode cX10_shared 10 = .ok (.iload 4, 2) := by decide +kernel
theorem dX10_shared_12 : decode cX10_shared 12 = .ok (.invokevirtual 136, 3) := by decide +kernel
theorem dX10_shared_15 : decode cX10_shared 15 = .ok (.astore 6, 2) := by decide +kernel
theorem dX10_shared_17 : decode cX10_shared 17 = .ok (.aload 5, 2) := by decide +kernel
theorem dX10_shared_19 : decode cX10_shared 19 = .ok (.iload_n 2, 1) := by decide +kernel
theorem dX10_shared_20 : decode cX10_shared 20 = .ok (.aload 6, 2) := by decide +kernel
theorem dX10_shared_22 : decode cX10_shared 22 = .ok (.iload 4, 2) := by decide +kernel
theorem dX10_shared_24 : decode cX10_shared 24 = .ok (.invokevirtual 188, 3) := by decide +kernel
theorem dX10_shared_27 : decode cX10_shared 27 = .ok (.ireturn, 1) := by decide +kernel
theorem dX10_count_0 : decode cX10_count 0 = .ok (.aload_n 0, 1) := by decide +kernel
theorem dX10_count_1 : decode cX10_count 1 = .ok (.iload_n 1, 1) := by decide +kernel
theorem dX10_count_2 : decode cX10_count 2 = .ok (.invokevirtual 126, 3) := by decide +kernel
theorem dX10_count_5 : decode cX10_count 5 = .ok (.astore_n 2, 1) := by decide +kernel
theorem dX10_count_6 : decode cX10_count 6 = .ok (.aload_n 0, 1) := by decide +kernel
theorem dX10_count_7 : decode cX10_count 7 = .ok (.invokevirtual 192, 3) := by decide +kernel
theorem dX10_count_10 : decode cX10_count 10 = .ok (.aload_n 2, 1) := by decide +kernel
theorem dX10_count_11 : decode cX10_count 11 = .ok (.aload_n 0, 1) := by decide +kernel
theorem dX10_count_12 : decode cX10_count 12 = .ok (.getfield 18, 3) := by decide +kernel
theorem dX10_count_15 : decode cX10_count 15 = .ok (.iconst 0, 1) := by decide +kernel
theorem dX10_count_16 : decode cX10_count 16 = .ok (.invokevirtual 195, 3) := by decide +kernel
theorem dX10_count_19 : decode cX10_count 19 = .ok (.aload_n 2, 1) := by decide +kernel
theorem dX10_count_20 : decode cX10_count 20 = .ok (.aload_n 0, 1) := by decide +kernel
theorem dX10_count_21 : decode cX10_count 21 = .ok (.getfield 18, 3) := by decide +kernel
theorem dX10_count_24 : decode cX10_count 24 = .ok (.iconst 0, 1) := by decide +kernel
theorem dX10_count_25 : decode cX10_count 25 = .ok (.invokevirtual 199, 3) := by decide +kernel
theorem dX10_count_28 : decode cX10_count 28 = .ok (.isub, 1) := by decide +kernel
theorem dX10_count_29 : decode cX10_count 29 = .ok (.ireturn, 1) := by decide +kernel
theorem dX10_runFrom_0 : decode cX10_runFrom 0 = .ok (.aload_n 0, 1) := by decide +kernel
theorem dX10_runFrom_1 : decode cX10_runFrom 1 = .ok (.iload_n 1, 1) := by decide +kernel
theorem dX10_runFrom_2 : decode cX10_runFrom 2 = .ok (.invokevirtual 126, 3) := by decide +kernel
theorem dX10_runFrom_5 : decode cX10_runFrom 5 = .ok (.astore_n 2, 1) := by decide +kernel
theorem dX10_runFrom_6 : decode cX10_runFrom 6 = .ok (.aload_n 0, 1) := by decide +kernel
theorem dX10_runFrom_7 : decode cX10_runFrom 7 = .ok (.invokevirtual 192, 3) := by decide +kernel
theorem dX10_runFrom_10 : decode cX10_runFrom 10 = .ok (.aload_n 0, 1) := by decide +kernel
theorem dX10_runFrom_11 : decode cX10_runFrom 11 = .ok (.aload_n 2, 1) := by decide +kernel
theorem dX10_runFrom_12 : decode cX10_runFrom 12 = .ok (.invokevirtual 202, 3) := by decide +kernel
theorem dX10_runFrom_15 : decode cX10_runFrom 15 = .ok (.ireturn, 1) := by decide +kernel
theorem dX10_standsAt_0 : decode cX10_standsAt 0 = .ok (.aload_n 0, 1) := by decide +kernel
theorem dX10_standsAt_1 : decode cX10_standsAt 1 = .ok (.iload_n 1, 1) := by decide +kernel
theorem dX10_standsAt_2 : decode cX10_standsAt 2 = .ok (.invokevirtual 126, 3) := by decide +kernel
theorem dX10_standsAt_5 : decode cX10_standsAt 5 = .ok (.astore_n 3, 1) := by decide +kernel
theorem dX10_standsAt_6 : decode cX10_standsAt 6 = .ok (.aload_n 0, 1) := by decide +kernel
theorem dX10_standsAt_7 : decode cX10_standsAt 7 = .ok (.invokevirtual 192, 3) := by decide +kernel
theorem dX10_standsAt_10 : decode cX10_standsAt 10 = .ok (.aload_n 3, 1) := by decide +kernel
theorem dX10_standsAt_11 : decode cX10_standsAt 11 = .ok (.aload_n 0, 1) := by decide +kernel
theorem dX10_standsAt_12 : decode cX10_standsAt 12 = .ok (.getfield 18, 3) := by decide +kernel
theorem dX10_standsAt_15 : decode cX10_standsAt 15 = .ok (.iconst 0, 1) := by decide +kernel
theorem dX10_standsAt_16 : decode cX10_standsAt 16 = .ok (.invokevirtual 199, 3) := by decide +kernel
theorem dX10_standsAt_19 : decode cX10_standsAt 19 = .ok (.istore 4, 2) := by decide +kernel
theorem dX10_standsAt_21 : decode cX10_standsAt 21 = .ok (.aload_n 3, 1) := by decide +kernel
theorem dX10_standsAt_22 : decode cX10_standsAt 22 = .ok (.aload_n 0, 1) := by decide +kernel
theorem dX10_standsAt_23 : decode cX10_standsAt 23 = .ok (.getfield 18, 3) := by decide +kernel
theorem dX10_standsAt_26 : decode cX10_standsAt 26 = .ok (.iconst 0, 1) := by decide +kernel
theorem dX10_standsAt_27 : decode cX10_standsAt 27 = .ok (.invokevirtual 195, 3) := by decide +kernel
theorem dX10_standsAt_30 : decode cX10_standsAt 30 = .ok (.istore 5, 2) := by decide +kernel
theorem dX10_standsAt_32 : decode cX10_standsAt 32 = .ok (.iload_n 2, 1) := by decide +kernel
theorem dX10_standsAt_33 : decode cX10_standsAt 33 = .ok (.ifCond .lt 12, 3) := by decide +kernel
theorem dX10_standsAt_36 : decode cX10_standsAt 36 = .ok (.iload_n 2, 1) := by decide +kernel
theorem dX10_standsAt_37 : decode cX10_standsAt 37 = .ok (.iload 5, 2) := by decide +kernel
theorem dX10_standsAt_39 : decode cX10_standsAt 39 = .ok (.iload 4, 2) := by decide +kernel
theorem dX10_standsAt_41 : decode cX10_standsAt 41 = .ok (.isub, 1) := by decide +kernel
theorem dX10_standsAt_42 : decode cX10_standsAt 42 = .ok (.if_icmp .lt 13, 3) := by decide +kernel
theorem dX10_standsAt_45 : decode cX10_standsAt 45 = .ok (.new 97, 3) := by decide +kernel
theorem dX10_standsAt_48 : decode cX10_standsAt 48 = .ok (.dup, 1) := by decide +kernel
theorem dX10_standsAt_49 : decode cX10_standsAt 49 = .ok (.ldc 205, 2) := by decide +kernel
theorem dX10_standsAt_51 : decode cX10_standsAt 51 = .ok (.invokespecial 101, 3) := by decide +kernel
theorem dX10_standsAt_54 : decode cX10_standsAt 54 = .ok (.athrow, 1) := by decide +kernel
theorem dX10_standsAt_55 : decode cX10_standsAt 55 = .ok (.aload_n 3, 1) := by decide +kernel
theorem dX10_standsAt_56 : decode cX10_standsAt 56 = .ok (.iload 4, 2) := by decide +kernel
theorem dX10_standsAt_58 : decode cX10_standsAt 58 = .ok (.iload 5, 2) := by decide +kernel
theorem dX10_standsAt_60 : decode cX10_standsAt 60 = .ok (.iload_n 2, 1) := by decide +kernel
theorem dX10_standsAt_61 : decode cX10_standsAt 61 = .ok (.invokevirtual 207, 3) := by decide +kernel
theorem dX10_standsAt_64 : decode cX10_standsAt 64 = .ok (.ireturn, 1) := by decide +kernel
theorem dX10_tail_0 : decode cX10_tail 0 = .ok (.aload_n 0, 1) := by decide +kernel
theorem dX10_tail_1 : decode cX10_tail 1 = .ok (.iload_n 1, 1) := by decide +kernel
theorem dX10_tail_2 : decode cX10_tail 2 = .ok (.invokevirtual 126, 3) := by decide +kernel
theorem dX10_tail_5 : decode cX10_tail 5 = .ok (.astore_n 3, 1) := by decide +kernel
theorem dX10_tail_6 : decode cX10_tail 6 = .ok (.aload_n 0, 1) := by decide +kernel
theorem dX10_tail_7 : decode cX10_tail 7 = .ok (.invokevirtual 192, 3) := by decide +kernel
theorem dX10_tail_10 : decode cX10_tail 10 = .ok (.iload_n 2, 1) := by decide +kernel
theorem dX10_tail_11 : decode cX10_tail 11 = .ok (.iconst 1, 1) := by decide +kernel
theorem dX10_tail_12 : decode cX10_tail 12 = .ok (.if_icmp .lt 14, 3) := by decide +kernel
theorem dX10_tail_15 : decode cX10_tail 15 = .ok (.iload_n 2, 1) := by decide +kernel
theorem dX10_tail_16 : decode cX10_tail 16 = .ok (.aload_n 0, 1) := by decide +kernel
theorem dX10_tail_17 : decode cX10_tail 17 = .ok (.getfield 18, 3) := by decide +kernel
theorem dX10_tail_20 : decode cX10_tail 20 = .ok (.getfield 80, 3) := by decide +kernel
theorem dX10_tail_23 : decode cX10_tail 23 = .ok (.if_icmp .le 13, 3) := by decide +kernel
theorem dX10_tail_26 : decode cX10_tail 26 = .ok (.new 73, 3) := by decide +kernel
theorem dX10_tail_29 : decode cX10_tail 29 = .ok (.dup, 1) := by decide +kernel
theorem dX10_tail_30 : decode cX10_tail 30 = .ok (.ldc 211, 2) := by decide +kernel
theorem dX10_tail_32 : decode cX10_tail 32 = .ok (.invokespecial 77, 3) := by decide +kernel
theorem dX10_tail_35 : decode cX10_tail 35 = .ok (.athrow, 1) := by decide +kernel
theorem dX10_tail_36 : decode cX10_tail 36 = .ok (.aload_n 0, 1) := by decide +kernel
theorem dX10_tail_37 : decode cX10_tail 37 = .ok (.getfield 18, 3) := by decide +kernel
theorem dX10_tail_40 : decode cX10_tail 40 = .ok (.getfield 80, 3) := by decide +kernel
theorem dX10_tail_43 : decode cX10_tail 43 = .ok (.iload_n 2, 1) := by decide +kernel
theorem dX10_tail_44 : decode cX10_tail 44 = .ok (.isub, 1) := by decide +kernel
theorem dX10_tail_45 : decode cX10_tail 45 = .ok (.istore 4, 2) := by decide +kernel
theorem dX10_tail_47 : decode cX10_tail 47 = .ok (.aload_n 3, 1) := by decide +kernel
theorem dX10_tail_48 : decode cX10_tail 48 = .ok (.aload_n 0, 1) := by decide +kernel
theorem dX10_tail_49 : decode cX10_tail 49 = .ok (.getfield 18, 3) := by decide +kernel
theorem dX10_tail_52 : decode cX10_tail 52 = .ok (.iload 4, 2) := by decide +kernel
theorem dX10_tail_54 : decode cX10_tail 54 = .ok (.invokevirtual 195, 3) := by decide +kernel
theorem dX10_tail_57 : decode cX10_tail 57 = .ok (.aload_n 3, 1) := by decide +kernel
theorem dX10_tail_58 : decode cX10_tail 58 = .ok (.aload_n 0, 1) := by decide +kernel
theorem dX10_tail_59 : decode cX10_tail 59 = .ok (.getfield 18, 3) := by decide +kernel
theorem dX10_tail_62 : decode cX10_tail 62 = .ok (.iload 4, 2) := by decide +kernel
theorem dX10_tail_64 : decode cX10_tail 64 = .ok (.invokevirtual 199, 3) := by decide +kernel
theorem dX10_tail_67 : decode cX10_tail 67 = .ok (.isub, 1) := by decide +kernel
theorem dX10_tail_68 : decode cX10_tail 68 = .ok (.ireturn, 1) := by decide +kernel
theorem dX10_words_0 : decode cX10_words 0 = .ok (.aload_n 0, 1) := by decide +kernel
theorem dX10_words_1 : decode cX10_words 1 = .ok (.iload_n 1, 1) := by decide +kernel
theorem dX10_words_2 : decode cX10_words 2 = .ok (.invokevirtual 126, 3) := by decide +kernel
theorem dX10_words_5 : decode cX10_words 5 = .ok (.astore_n 2, 1) := by decide +kernel
theorem dX10_words_6 : decode cX10_words 6 = .ok (.aload_n 2, 1) := by decide +kernel
theorem dX10_words_7 : decode cX10_words 7 = .ok (.aload_n 2, 1) := by decide +kernel
theorem dX10_words_8 : decode cX10_words 8 = .ok (.getfield 131, 3) := by decide +kernel
theorem dX10_words_11 : decode cX10_words 11 = .ok (.invokevirtual 213, 3) := by decide +kernel
theorem dX10_words_14 : decode cX10_words 14 = .ok (.i2l, 1) := by decide +kernel
theorem dX10_words_15 : decode cX10_words 15 = .ok (.lreturn, 1) := by decide +kernel
theorem dX10_word_0 : decode cX10_word 0 = .ok (.aload_n 0, 1) := by decide +kernel
theorem dX10_word_1 : decode cX10_word 1 = .ok (.iload_n 1, 1) := by decide +kernel
theorem dX10_word_2 : decode cX10_word 2 = .ok (.invokevirtual 126, 3) := by decide +kernel
theorem dX10_word_5 : decode cX10_word 5 = .ok (.astore_n 3, 1) := by decide +kernel
theorem dX10_word_6 : decode cX10_word 6 = .ok (.iload_n 2, 1) := by decide +kernel
theorem dX10_word_7 : decode cX10_word 7 = .ok (.ifCond .lt 15, 3) := by decide +kernel
theorem dX10_word_10 : decode cX10_word 10 = .ok (.iload_n 2, 1) := by decide +kernel
theorem dX10_word_11 : decode cX10_word 11 = .ok (.aload_n 3, 1) := by decide +kernel
theorem dX10_word_12 : decode cX10_word 12 = .ok (.aload_n 3, 1) := by decide +kernel
theorem dX10_word_13 : decode cX10_word 13 = .ok (.getfield 131, 3) := by decide +kernel
theorem dX10_word_16 : decode cX10_word 16 = .ok (.invokevirtual 213, 3) := by decide +kernel
theorem dX10_word_19 : decode cX10_word 19 = .ok (.if_icmp .lt 13, 3) := by decide +kernel
theorem dX10_word_22 : decode cX10_word 22 = .ok (.new 97, 3) := by decide +kernel
theorem dX10_word_25 : decode cX10_word 25 = .ok (.dup, 1) := by decide +kernel
theorem dX10_word_26 : decode cX10_word 26 = .ok (.ldc 217, 2) := by decide +kernel
theorem dX10_word_28 : decode cX10_word 28 = .ok (.invokespecial 101, 3) := by decide +kernel
theorem dX10_word_31 : decode cX10_word 31 = .ok (.athrow, 1) := by decide +kernel
theorem dX10_word_32 : decode cX10_word 32 = .ok (.aload_n 3, 1) := by decide +kernel
theorem dX10_word_33 : decode cX10_word 33 = .ok (.iload_n 2, 1) := by decide +kernel
theorem dX10_word_34 : decode cX10_word 34 = .ok (.invokevirtual 219, 3) := by decide +kernel
theorem dX10_word_37 : decode cX10_word 37 = .ok (.istore 4, 2) := by decide +kernel
theorem dX10_word_39 : decode cX10_word 39 = .ok (.aload_n 3, 1) := by decide +kernel
theorem dX10_word_40 : decode cX10_word 40 = .ok (.getfield 185, 3) := by decide +kernel
theorem dX10_word_43 : decode cX10_word 43 = .ok (.iload 4, 2) := by decide +kernel
theorem dX10_word_45 : decode cX10_word 45 = .ok (.iaload, 1) := by decide +kernel
theorem dX10_word_46 : decode cX10_word 46 = .ok (.iconst 1, 1) := by decide +kernel
theorem dX10_word_47 : decode cX10_word 47 = .ok (.iadd, 1) := by decide +kernel
theorem dX10_word_48 : decode cX10_word 48 = .ok (.iload_n 2, 1) := by decide +kernel
theorem dX10_word_49 : decode cX10_word 49 = .ok (.iadd, 1) := by decide +kernel
theorem dX10_word_50 : decode cX10_word 50 = .ok (.aload_n 3, 1) := by decide +kernel
theorem dX10_word_51 : decode cX10_word 51 = .ok (.iload 4, 2) := by decide +kernel
theorem dX10_word_53 : decode cX10_word 53 = .ok (.invokevirtual 213, 3) := by decide +kernel
theorem dX10_word_56 : decode cX10_word 56 = .ok (.isub, 1) := by decide +kernel
theorem dX10_word_57 : decode cX10_word 57 = .ok (.istore 5, 2) := by decide +kernel
theorem dX10_word_59 : decode cX10_word 59 = .ok (.aload_n 0, 1) := by decide +kernel
theorem dX10_word_60 : decode cX10_word 60 = .ok (.getfield 18, 3) := by decide +kernel
theorem dX10_word_63 : decode cX10_word 63 = .ok (.aload_n 3, 1) := by decide +kernel
theorem dX10_word_64 : decode cX10_word 64 = .ok (.getfield 130, 3) := by decide +kernel
theorem dX10_word_67 : decode cX10_word 67 = .ok (.aload_n 3, 1) := by decide +kernel
theorem dX10_word_68 : decode cX10_word 68 = .ok (.getfield 167, 3) := by decide +kernel
theorem dX10_word_71 : decode cX10_word 71 = .ok (.iload 4, 2) := by decide +kernel
theorem dX10_word_73 : decode cX10_word 73 = .ok (.iaload, 1) := by decide +kernel
theorem dX10_word_74 : decode cX10_word 74 = .ok (.iload 5, 2) := by decide +kernel
theorem dX10_word_76 : decode cX10_word 76 = .ok (.invokevirtual 132, 3) := by decide +kernel
theorem dX10_word_79 : decode cX10_word 79 = .ok (.aload_n 0, 1) := by decide +kernel
theorem dX10_word_80 : decode cX10_word 80 = .ok (.getfield 18, 3) := by decide +kernel
theorem dX10_word_83 : decode cX10_word 83 = .ok (.getfield 80, 3) := by decide +kernel
theorem dX10_word_86 : decode cX10_word 86 = .ok (.ireturn, 1) := by decide +kernel
theorem dX10_numberOf_0 : decode cX10_numberOf 0 = .ok (.aload_n 0, 1) := by decide +kernel
theorem dX10_numberOf_1 : decode cX10_numberOf 1 = .ok (.iload_n 1, 1) := by decide +kernel
theorem dX10_numberOf_2 : decode cX10_numberOf 2 = .ok (.invokevirtual 126, 3) := by decide +kernel
theorem dX10_numberOf_5 : decode cX10_numberOf 5 = .ok (.astore_n 2, 1) := by decide +kernel
theorem dX10_numberOf_6 : decode cX10_numberOf 6 = .ok (.aload_n 0, 1) := by decide +kernel
theorem dX10_numberOf_7 : decode cX10_numberOf 7 = .ok (.invokevirtual 192, 3) := by decide +kernel
theorem dX10_numberOf_10 : decode cX10_numberOf 10 = .ok (.aload_n 0, 1) := by decide +kernel
theorem dX10_numberOf_11 : decode cX10_numberOf 11 = .ok (.aload_n 2, 1) := by decide +kernel
theorem dX10_numberOf_12 : decode cX10_numberOf 12 = .ok (.invokevirtual 202, 3) := by decide +kernel
theorem dX10_numberOf_15 : decode cX10_numberOf 15 = .ok (.istore_n 3, 1) := by decide +kernel
theorem dX10_numberOf_16 : decode cX10_numberOf 16 = .ok (.aload_n 2, 1) := by decide +kernel
theorem dX10_numberOf_17 : decode cX10_numberOf 17 = .ok (.iload_n 3, 1) := by decide +kernel
theorem dX10_numberOf_18 : decode cX10_numberOf 18 = .ok (.invokevirtual 213, 3) := by decide +kernel
theorem dX10_numberOf_21 : decode cX10_numberOf 21 = .ok (.aload_n 0, 1) := by decide +kernel
theorem dX10_numberOf_22 : decode cX10_numberOf 22 = .ok (.getfield 18, 3) := by decide +kernel
theorem dX10_numberOf_25 : decode cX10_numberOf 25 = .ok (.getfield 80, 3) := by decide +kernel
theorem dX10_numberOf_28 : decode cX10_numberOf 28 = .ok (.iadd, 1) := by decide +kernel
theorem dX10_numberOf_29 : decode cX10_numberOf 29 = .ok (.aload_n 2, 1) := by decide +kernel
theorem dX10_numberOf_30 : decode cX10_numberOf 30 = .ok (.getfield 185, 3) := by decide +kernel
theorem dX10_numberOf_33 : decode cX10_numberOf 33 = .ok (.iload_n 3, 1) := by decide +kernel
theorem dX10_numberOf_34 : decode cX10_numberOf 34 = .ok (.iaload, 1) := by decide +kernel
theorem dX10_numberOf_35 : decode cX10_numberOf 35 = .ok (.isub, 1) := by decide +kernel
theorem dX10_numberOf_36 : decode cX10_numberOf 36 = .ok (.iconst 1, 1) := by decide +kernel
theorem dX10_numberOf_37 : decode cX10_numberOf 37 = .ok (.isub, 1) := by decide +kernel
theorem dX10_numberOf_38 : decode cX10_numberOf 38 = .ok (.ireturn, 1) := by decide +kernel
theorem dX10_twice_0 : decode cX10_twice 0 = .ok (.aload_n 0, 1) := by decide +kernel
theorem dX10_twice_1 : decode cX10_twice 1 = .ok (.iload_n 1, 1) := by decide +kernel
theorem dX10_twice_2 : decode cX10_twice 2 = .ok (.invokevirtual 126, 3) := by decide +kernel
theorem dX10_twice_5 : decode cX10_twice 5 = .ok (.invokevirtual 182, 3) := by decide +kernel
theorem dX10_twice_8 : decode cX10_twice 8 = .ok (.ireturn, 1) := by decide +kernel
theorem dX10_twiceAt_0 : decode cX10_twiceAt 0 = .ok (.aload_n 0, 1) := by decide +kernel
theorem dX10_twiceAt_1 : decode cX10_twiceAt 1 = .ok (.iload_n 1, 1) := by decide +kernel
theorem dX10_twiceAt_2 : decode cX10_twiceAt 2 = .ok (.invokevirtual 126, 3) := by decide +kernel
theorem dX10_twiceAt_5 : decode cX10_twiceAt 5 = .ok (.astore_n 2, 1) := by decide +kernel
theorem dX10_twiceAt_6 : decode cX10_twiceAt 6 = .ok (.aload_n 2, 1) := by decide +kernel
theorem dX10_twiceAt_7 : decode cX10_twiceAt 7 = .ok (.invokevirtual 182, 3) := by decide +kernel
theorem dX10_twiceAt_10 : decode cX10_twiceAt 10 = .ok (.ifCond .ne 13, 3) := by decide +kernel
theorem dX10_twiceAt_13 : decode cX10_twiceAt 13 = .ok (.new 97, 3) := by decide +kernel
theorem dX10_twiceAt_16 : decode cX10_twiceAt 16 = .ok (.dup, 1) := by decide +kernel
theorem dX10_twiceAt_17 : decode cX10_twiceAt 17 = .ok (.ldc 222, 2) := by decide +kernel
theorem dX10_twiceAt_19 : decode cX10_twiceAt 19 = .ok (.invokespecial 101, 3) := by decide +kernel
theorem dX10_twiceAt_22 : decode cX10_twiceAt 22 = .ok (.athrow, 1) := by decide +kernel
theorem dX10_twiceAt_23 : decode cX10_twiceAt 23 = .ok (.aload_n 2, 1) := by decide +kernel
theorem dX10_twiceAt_24 : decode cX10_twiceAt 24 = .ok (.invokevirtual 224, 3) := by decide +kernel
theorem dX10_twiceAt_27 : decode cX10_twiceAt 27 = .ok (.ireturn, 1) := by decide +kernel
theorem dX10_once_0 : decode cX10_once 0 = .ok (.aload_n 0, 1) := by decide +kernel
theorem dX10_once_1 : decode cX10_once 1 = .ok (.iload_n 1, 1) := by decide +kernel
theorem dX10_once_2 : decode cX10_once 2 = .ok (.invokevirtual 161, 3) := by decide +kernel
theorem dX10_once_5 : decode cX10_once 5 = .ok (.invokevirtual 227, 3) := by decide +kernel
theorem dX10_once_8 : decode cX10_once 8 = .ok (.ireturn, 1) := by decide +kernel
theorem dX10_onceAt_0 : decode cX10_onceAt 0 = .ok (.aload_n 0, 1) := by decide +kernel
theorem dX10_onceAt_1 : decode cX10_onceAt 1 = .ok (.iload_n 1, 1) := by decide +kernel
theorem dX10_onceAt_2 : decode cX10_onceAt 2 = .ok (.invokevirtual 161, 3) := by decide +kernel
theorem dX10_onceAt_5 : decode cX10_onceAt 5 = .ok (.invokevirtual 230, 3) := by decide +kernel
theorem dX10_onceAt_8 : decode cX10_onceAt 8 = .ok (.ireturn, 1) := by decide +kernel
theorem dX10_longestIn_0 : decode cX10_longestIn 0 = .ok (.iload_n 1, 1) := by decide +kernel
theorem dX10_longestIn_1 : decode cX10_longestIn 1 = .ok (.iconst 1, 1) := by decide +kernel
theorem dX10_longestIn_2 : decode cX10_longestIn 2 = .ok (.if_icmp .lt 9, 3) := by decide +kernel
theorem dX10_longestIn_5 : decode cX10_longestIn 5 = .ok (.iload_n 1, 1) := by decide +kernel
theorem dX10_longestIn_6 : decode cX10_longestIn 6 = .ok (.bipush 8, 2) := by decide +kernel
theorem dX10_longestIn_8 : decode cX10_longestIn 8 = .ok (.if_icmp .le 13, 3) := by decide +kernel
theorem dX10_longestIn_11 : decode cX10_longestIn 11 = .ok (.new 73, 3) := by decide +kernel
theorem dX10_longestIn_14 : decode cX10_longestIn 14 = .ok (.dup, 1) := by decide +kernel
theorem dX10_longestIn_15 : decode cX10_longestIn 15 = .ok (.ldc 233, 2) := by decide +kernel
theorem dX10_longestIn_17 : decode cX10_longestIn 17 = .ok (.invokespecial 77, 3) := by decide +kernel
theorem dX10_longestIn_20 : decode cX10_longestIn 20 = .ok (.athrow, 1) := by decide +kernel
theorem dX10_longestIn_21 : decode cX10_longestIn 21 = .ok (.aload_n 0, 1) := by decide +kernel
theorem dX10_longestIn_22 : decode cX10_longestIn 22 = .ok (.getfield 43, 3) := by decide +kernel
theorem dX10_longestIn_25 : decode cX10_longestIn 25 = .ok (.aload_n 0, 1) := by decide +kernel
theorem dX10_longestIn_26 : decode cX10_longestIn 26 = .ok (.getfield 11, 3) := by decide +kernel
theorem dX10_longestIn_29 : decode cX10_longestIn 29 = .ok (.aload_n 0, 1) := by decide +kernel
theorem dX10_longestIn_30 : decode cX10_longestIn 30 = .ok (.getfield 235, 3) := by decide +kernel
theorem dX10_longestIn_33 : decode cX10_longestIn 33 = .ok (.iload_n 1, 1) := by decide +kernel
theorem dX10_longestIn_34 : decode cX10_longestIn 34 = .ok (.invokevirtual 238, 3) := by decide +kernel
theorem dX10_longestIn_37 : decode cX10_longestIn 37 = .ok (.istore_n 2, 1) := by decide +kernel
theorem dX10_longestIn_38 : decode cX10_longestIn 38 = .ok (.iload_n 2, 1) := by decide +kernel
theorem dX10_longestIn_39 : decode cX10_longestIn 39 = .ok (.ifCond .lt 11, 3) := by decide +kernel
theorem dX10_longestIn_42 : decode cX10_longestIn 42 = .ok (.iload_n 2, 1) := by decide +kernel
theorem dX10_longestIn_43 : decode cX10_longestIn 43 = .ok (.aload_n 0, 1) := by decide +kernel
theorem dX10_longestIn_44 : decode cX10_longestIn 44 = .ok (.getfield 235, 3) := by decide +kernel
theorem dX10_longestIn_47 : decode cX10_longestIn 47 = .ok (.if_icmp .lt 13, 3) := by decide +kernel
theorem dX10_longestIn_50 : decode cX10_longestIn 50 = .ok (.new 97, 3) := by decide +kernel
theorem dX10_longestIn_53 : decode cX10_longestIn 53 = .ok (.dup, 1) := by decide +kernel
theorem dX10_longestIn_54 : decode cX10_longestIn 54 = .ok (.ldc 242, 2) := by decide +kernel
theorem dX10_longestIn_56 : decode cX10_longestIn 56 = .ok (.invokespecial 101, 3) := by decide +kernel
theorem dX10_longestIn_59 : decode cX10_longestIn 59 = .ok (.athrow, 1) := by decide +kernel
theorem dX10_longestIn_60 : decode cX10_longestIn 60 = .ok (.aload_n 0, 1) := by decide +kernel
theorem dX10_longestIn_61 : decode cX10_longestIn 61 = .ok (.getfield 18, 3) := by decide +kernel
theorem dX10_longestIn_64 : decode cX10_longestIn 64 = .ok (.aload_n 0, 1) := by decide +kernel
theorem dX10_longestIn_65 : decode cX10_longestIn 65 = .ok (.getfield 11, 3) := by decide +kernel
theorem dX10_longestIn_68 : decode cX10_longestIn 68 = .ok (.iload_n 2, 1) := by decide +kernel
theorem dX10_longestIn_69 : decode cX10_longestIn 69 = .ok (.aaload, 1) := by decide +kernel
theorem dX10_longestIn_70 : decode cX10_longestIn 70 = .ok (.getfield 130, 3) := by decide +kernel
theorem dX10_longestIn_73 : decode cX10_longestIn 73 = .ok (.aload_n 0, 1) := by decide +kernel
theorem dX10_longestIn_74 : decode cX10_longestIn 74 = .ok (.getfield 43, 3) := by decide +kernel
theorem dX10_longestIn_77 : decode cX10_longestIn 77 = .ok (.getfield 244, 3) := by decide +kernel
theorem dX10_longestIn_80 : decode cX10_longestIn 80 = .ok (.aload_n 0, 1) := by decide +kernel
theorem dX10_longestIn_81 : decode cX10_longestIn 81 = .ok (.getfield 43, 3) := by decide +kernel
theorem dX10_longestIn_84 : decode cX10_longestIn 84 = .ok (.getfield 247, 3) := by decide +kernel
theorem dX10_longestIn_87 : decode cX10_longestIn 87 = .ok (.invokevirtual 132, 3) := by decide +kernel
theorem dX10_longestIn_90 : decode cX10_longestIn 90 = .ok (.aload_n 0, 1) := by decide +kernel
theorem dX10_longestIn_91 : decode cX10_longestIn 91 = .ok (.getfield 18, 3) := by decide +kernel
theorem dX10_longestIn_94 : decode cX10_longestIn 94 = .ok (.getfield 80, 3) := by decide +kernel
theorem dX10_longestIn_97 : decode cX10_longestIn 97 = .ok (.ireturn, 1) := by decide +kernel
theorem dX10_first_0 : decode cX10_first 0 = .ok (.aload_n 0, 1) := by decide +kernel
theorem dX10_first_1 : decode cX10_first 1 = .ok (.iload_n 1, 1) := by decide +kernel
theorem dX10_first_2 : decode cX10_first 2 = .ok (.iload_n 2, 1) := by decide +kernel
theorem dX10_first_3 : decode cX10_first 3 = .ok (.invokevirtual 250, 3) := by decide +kernel
theorem dX10_first_6 : decode cX10_first 6 = .ok (.iload_n 2, 1) := by decide +kernel
theorem dX10_first_7 : decode cX10_first 7 = .ok (.invokevirtual 253, 3) := by decide +kernel
theorem dX10_first_10 : decode cX10_first 10 = .ok (.ireturn, 1) := by decide +kernel
theorem dX10_last_0 : decode cX10_last 0 = .ok (.aload_n 0, 1) := by decide +kernel
theorem dX10_last_1 : decode cX10_last 1 = .ok (.iload_n 1, 1) := by decide +kernel
theorem dX10_last_2 : decode cX10_last 2 = .ok (.iload_n 2, 1) := by decide +kernel
theorem dX10_last_3 : decode cX10_last 3 = .ok (.invokevirtual 250, 3) := by decide +kernel
theorem dX10_last_6 : decode cX10_last 6 = .ok (.iload_n 2, 1) := by decide +kernel
theorem dX10_last_7 : decode cX10_last 7 = .ok (.invokevirtual 257, 3) := by decide +kernel
theorem dX10_last_10 : decode cX10_last 10 = .ok (.ireturn, 1) := by decide +kernel
theorem dX10_back_0 : decode cX10_back 0 = .ok (.aload_n 0, 1) := by decide +kernel
theorem dX10_back_1 : decode cX10_back 1 = .ok (.iload_n 1, 1) := by decide +kernel
theorem dX10_back_2 : decode cX10_back 2 = .ok (.iload_n 2, 1) := by decide +kernel
theorem dX10_back_3 : decode cX10_back 3 = .ok (.invokevirtual 250, 3) := by decide +kernel
theorem dX10_back_6 : decode cX10_back 6 = .ok (.iload_n 2, 1) := by decide +kernel
theorem dX10_back_7 : decode cX10_back 7 = .ok (.invokevirtual 260, 3) := by decide +kernel
theorem dX10_back_10 : decode cX10_back 10 = .ok (.ireturn, 1) := by decide +kernel
theorem dX10_runs_0 : decode cX10_runs 0 = .ok (.aload_n 0, 1) := by decide +kernel
theorem dX10_runs_1 : decode cX10_runs 1 = .ok (.iload_n 1, 1) := by decide +kernel
theorem dX10_runs_2 : decode cX10_runs 2 = .ok (.invokevirtual 126, 3) := by decide +kernel
theorem dX10_runs_5 : decode cX10_runs 5 = .ok (.astore_n 2, 1) := by decide +kernel
theorem dX10_runs_6 : decode cX10_runs 6 = .ok (.iconst 1, 1) := by decide +kernel
theorem dX10_runs_7 : decode cX10_runs 7 = .ok (.istore_n 3, 1) := by decide +kernel
theorem dX10_runs_8 : decode cX10_runs 8 = .ok (.iconst 1, 1) := by decide +kernel
theorem dX10_runs_9 : decode cX10_runs 9 = .ok (.istore 4, 2) := by decide +kernel
theorem dX10_runs_11 : decode cX10_runs 11 = .ok (.iload 4, 2) := by decide +kernel
theorem dX10_runs_13 : decode cX10_runs 13 = .ok (.aload_n 2, 1) := by decide +kernel
theorem dX10_runs_14 : decode cX10_runs 14 = .ok (.getfield 131, 3) := by decide +kernel
theorem dX10_runs_17 : decode cX10_runs 17 = .ok (.if_icmp .gt 29, 3) := by decide +kernel
theorem dX10_runs_20 : decode cX10_runs 20 = .ok (.aload_n 2, 1) := by decide +kernel
theorem dX10_runs_21 : decode cX10_runs 21 = .ok (.iload 4, 2) := by decide +kernel
theorem dX10_runs_23 : decode cX10_runs 23 = .ok (.invokevirtual 257, 3) := by decide +kernel
theorem dX10_runs_26 : decode cX10_runs 26 = .ok (.aload_n 2, 1) := by decide +kernel
theorem dX10_runs_27 : decode cX10_runs 27 = .ok (.iload 4, 2) := by decide +kernel
theorem dX10_runs_29 : decode cX10_runs 29 = .ok (.iconst 1, 1) := by decide +kernel
theorem dX10_runs_30 : decode cX10_runs 30 = .ok (.isub, 1) := by decide +kernel
theorem dX10_runs_31 : decode cX10_runs 31 = .ok (.invokevirtual 257, 3) := by decide +kernel
theorem dX10_runs_34 : decode cX10_runs 34 = .ok (.if_icmp .eq 6, 3) := by decide +kernel
theorem dX10_runs_37 : decode cX10_runs 37 = .ok (.iinc 3 1, 3) := by decide +kernel
theorem dX10_runs_40 : decode cX10_runs 40 = .ok (.iinc 4 1, 3) := by decide +kernel
theorem dX10_runs_43 : decode cX10_runs 43 = .ok (.goto (-32), 3) := by decide +kernel
theorem dX10_runs_46 : decode cX10_runs 46 = .ok (.iload_n 3, 1) := by decide +kernel
theorem dX10_runs_47 : decode cX10_runs 47 = .ok (.ireturn, 1) := by decide +kernel
theorem dX10_front_0 : decode cX10_front 0 = .ok (.aload_n 0, 1) := by decide +kernel
theorem dX10_front_1 : decode cX10_front 1 = .ok (.getfield 36, 3) := by decide +kernel
theorem dX10_front_4 : decode cX10_front 4 = .ok (.aload_n 0, 1) := by decide +kernel
theorem dX10_front_5 : decode cX10_front 5 = .ok (.iload_n 1, 1) := by decide +kernel
theorem dX10_front_6 : decode cX10_front 6 = .ok (.iload_n 2, 1) := by decide +kernel
theorem dX10_front_7 : decode cX10_front 7 = .ok (.invokevirtual 250, 3) := by decide +kernel
theorem dX10_front_10 : decode cX10_front 10 = .ok (.iload_n 2, 1) := by decide +kernel
theorem dX10_front_11 : decode cX10_front 11 = .ok (.invokevirtual 263, 3) := by decide +kernel
theorem dX10_front_14 : decode cX10_front 14 = .ok (.ireturn, 1) := by decide +kernel
theorem dX10_column_0 : decode cX10_column 0 = .ok (.aload_n 0, 1) := by decide +kernel
theorem dX10_column_1 : decode cX10_column 1 = .ok (.iload_n 1, 1) := by decide +kernel
theorem dX10_column_2 : decode cX10_column 2 = .ok (.invokevirtual 126, 3) := by decide +kernel
theorem dX10_column_5 : decode cX10_column 5 = .ok (.astore_n 2, 1) := by decide +kernel
theorem dX10_column_6 : decode cX10_column 6 = .ok (.aload_n 0, 1) := by decide +kernel
theorem dX10_column_7 : decode cX10_column 7 = .ok (.getfield 18, 3) := by decide +kernel
theorem dX10_column_10 : decode cX10_column 10 = .ok (.iconst 0, 1) := by decide +kernel
theorem dX10_column_11 : decode cX10_column 11 = .ok (.putfield 80, 3) := by decide +kernel
theorem dX10_column_14 : decode cX10_column 14 = .ok (.iconst 0, 1) := by decide +kernel
theorem dX10_column_15 : decode cX10_column 15 = .ok (.istore_n 3, 1) := by decide +kernel
theorem dX10_column_16 : decode cX10_column 16 = .ok (.iload_n 3, 1) := by decide +kernel
theorem dX10_column_17 : decode cX10_column 17 = .ok (.aload_n 2, 1) := by decide +kernel
theorem dX10_column_18 : decode cX10_column 18 = .ok (.getfield 131, 3) := by decide +kernel
theorem dX10_column_21 : decode cX10_column 21 = .ok (.if_icmp .gt 21, 3) := by decide +kernel
theorem dX10_column_24 : decode cX10_column 24 = .ok (.aload_n 0, 1) := by decide +kernel
theorem dX10_column_25 : decode cX10_column 25 = .ok (.getfield 18, 3) := by decide +kernel
theorem dX10_column_28 : decode cX10_column 28 = .ok (.aload_n 2, 1) := by decide +kernel
theorem dX10_column_29 : decode cX10_column 29 = .ok (.iload_n 3, 1) := by decide +kernel
theorem dX10_column_30 : decode cX10_column 30 = .ok (.invokevirtual 257, 3) := by decide +kernel
theorem dX10_column_33 : decode cX10_column 33 = .ok (.invokevirtual 89, 3) := by decide +kernel
theorem dX10_column_36 : decode cX10_column 36 = .ok (.iinc 3 1, 3) := by decide +kernel
theorem dX10_column_39 : decode cX10_column 39 = .ok (.goto (-23), 3) := by decide +kernel
theorem dX10_column_42 : decode cX10_column 42 = .ok (.aload_n 0, 1) := by decide +kernel
theorem dX10_column_43 : decode cX10_column 43 = .ok (.getfield 18, 3) := by decide +kernel
theorem dX10_column_46 : decode cX10_column 46 = .ok (.getfield 80, 3) := by decide +kernel
theorem dX10_column_49 : decode cX10_column 49 = .ok (.ireturn, 1) := by decide +kernel
theorem dX10_undo_0 : decode cX10_undo 0 = .ok (.aload_n 0, 1) := by decide +kernel
theorem dX10_undo_1 : decode cX10_undo 1 = .ok (.getfield 36, 3) := by decide +kernel
theorem dX10_undo_4 : decode cX10_undo 4 = .ok (.aload_n 0, 1) := by decide +kernel
theorem dX10_undo_5 : decode cX10_undo 5 = .ok (.getfield 18, 3) := by decide +kernel
theorem dX10_undo_8 : decode cX10_undo 8 = .ok (.getfield 102, 3) := by decide +kernel
theorem dX10_undo_11 : decode cX10_undo 11 = .ok (.aload_n 0, 1) := by decide +kernel
theorem dX10_undo_12 : decode cX10_undo 12 = .ok (.getfield 18, 3) := by decide +kernel
theorem dX10_undo_15 : decode cX10_undo 15 = .ok (.getfield 80, 3) := by decide +kernel
theorem dX10_undo_18 : decode cX10_undo 18 = .ok (.invokevirtual 267, 3) := by decide +kernel
theorem dX10_undo_21 : decode cX10_undo 21 = .ok (.ifCond .ne 14, 3) := by decide +kernel
theorem dX10_undo_24 : decode cX10_undo 24 = .ok (.new 109, 3) := by decide +kernel
theorem dX10_undo_27 : decode cX10_undo 27 = .ok (.dup, 1) := by decide +kernel
theorem dX10_undo_28 : decode cX10_undo 28 = .ok (.ldc_w 271, 3) := by decide +kernel
theorem dX10_undo_31 : decode cX10_undo 31 = .ok (.invokespecial 113, 3) := by decide +kernel
theorem dX10_undo_34 : decode cX10_undo 34 = .ok (.athrow, 1) := by decide +kernel
theorem dX10_undo_35 : decode cX10_undo 35 = .ok (.aload_n 0, 1) := by decide +kernel
theorem dX10_undo_36 : decode cX10_undo 36 = .ok (.invokevirtual 114, 3) := by decide +kernel
theorem dX10_undo_39 : decode cX10_undo 39 = .ok (.astore_n 1, 1) := by decide +kernel
theorem dX10_undo_40 : decode cX10_undo 40 = .ok (.aload_n 1, 1) := by decide +kernel
theorem dX10_undo_41 : decode cX10_undo 41 = .ok (.aload_n 0, 1) := by decide +kernel
theorem dX10_undo_42 : decode cX10_undo 42 = .ok (.getfield 36, 3) := by decide +kernel
theorem dX10_undo_45 : decode cX10_undo 45 = .ok (.getfield 273, 3) := by decide +kernel
theorem dX10_undo_48 : decode cX10_undo 48 = .ok (.aload_n 0, 1) := by decide +kernel
theorem dX10_undo_49 : decode cX10_undo 49 = .ok (.getfield 18, 3) := by decide +kernel
theorem dX10_undo_52 : decode cX10_undo 52 = .ok (.getfield 80, 3) := by decide +kernel
theorem dX10_undo_55 : decode cX10_undo 55 = .ok (.iconst 1, 1) := by decide +kernel
theorem dX10_undo_56 : decode cX10_undo 56 = .ok (.isub, 1) := by decide +kernel
theorem dX10_undo_57 : decode cX10_undo 57 = .ok (.invokevirtual 118, 3) := by decide +kernel
theorem dX10_undo_60 : decode cX10_undo 60 = .ok (.aload_n 0, 1) := by decide +kernel
theorem dX10_undo_61 : decode cX10_undo 61 = .ok (.aload_n 1, 1) := by decide +kernel
theorem dX10_undo_62 : decode cX10_undo 62 = .ok (.invokevirtual 122, 3) := by decide +kernel
theorem dX10_undo_65 : decode cX10_undo 65 = .ok (.ireturn, 1) := by decide +kernel
theorem dX10_squares_0 : decode cX10_squares 0 = .ok (.aload_n 0, 1) := by decide +kernel
theorem dX10_squares_1 : decode cX10_squares 1 = .ok (.iload_n 1, 1) := by decide +kernel
theorem dX10_squares_2 : decode cX10_squares 2 = .ok (.invokevirtual 126, 3) := by decide +kernel
theorem dX10_squares_5 : decode cX10_squares 5 = .ok (.invokestatic 276, 3) := by decide +kernel
theorem dX10_squares_8 : decode cX10_squares 8 = .ok (.ireturn, 1) := by decide +kernel
theorem dX10_squareAt_0 : decode cX10_squareAt 0 = .ok (.aload_n 0, 1) := by decide +kernel
theorem dX10_squareAt_1 : decode cX10_squareAt 1 = .ok (.iload_n 1, 1) := by decide +kernel
theorem dX10_squareAt_2 : decode cX10_squareAt 2 = .ok (.iload_n 2, 1) := by decide +kernel
theorem dX10_squareAt_3 : decode cX10_squareAt 3 = .ok (.invokevirtual 136, 3) := by decide +kernel
theorem dX10_squareAt_6 : decode cX10_squareAt 6 = .ok (.iload_n 2, 1) := by decide +kernel
theorem dX10_squareAt_7 : decode cX10_squareAt 7 = .ok (.invokestatic 281, 3) := by decide +kernel
theorem dX10_squareAt_10 : decode cX10_squareAt 10 = .ok (.istore_n 3, 1) := by decide +kernel
theorem dX10_squareAt_11 : decode cX10_squareAt 11 = .ok (.iload_n 3, 1) := by decide +kernel
theorem dX10_squareAt_12 : decode cX10_squareAt 12 = .ok (.ifCond .ne 14, 3) := by decide +kernel
theorem dX10_squareAt_15 : decode cX10_squareAt 15 = .ok (.new 97, 3) := by decide +kernel
theorem dX10_squareAt_18 : decode cX10_squareAt 18 = .ok (.dup, 1) := by decide +kernel
theorem dX10_squareAt_19 : decode cX10_squareAt 19 = .ok (.ldc_w 284, 3) := by decide +kernel
theorem dX10_squareAt_22 : decode cX10_squareAt 22 = .ok (.invokespecial 101, 3) := by decide +kernel
theorem dX10_squareAt_25 : decode cX10_squareAt 25 = .ok (.athrow, 1) := by decide +kernel
theorem dX10_squareAt_26 : decode cX10_squareAt 26 = .ok (.iload_n 3, 1) := by decide +kernel
theorem dX10_squareAt_27 : decode cX10_squareAt 27 = .ok (.ireturn, 1) := by decide +kernel
theorem dX10_period_0 : decode cX10_period 0 = .ok (.aload_n 0, 1) := by decide +kernel
theorem dX10_period_1 : decode cX10_period 1 = .ok (.iload_n 1, 1) := by decide +kernel
theorem dX10_period_2 : decode cX10_period 2 = .ok (.invokevirtual 161, 3) := by decide +kernel
theorem dX10_period_5 : decode cX10_period 5 = .ok (.invokestatic 286, 3) := by decide +kernel
theorem dX10_period_8 : decode cX10_period 8 = .ok (.ireturn, 1) := by decide +kernel
theorem dX10_turnAt_0 : decode cX10_turnAt 0 = .ok (.aload_n 0, 1) := by decide +kernel
theorem dX10_turnAt_1 : decode cX10_turnAt 1 = .ok (.iload_n 1, 1) := by decide +kernel
theorem dX10_turnAt_2 : decode cX10_turnAt 2 = .ok (.invokevirtual 161, 3) := by decide +kernel
theorem dX10_turnAt_5 : decode cX10_turnAt 5 = .ok (.invokestatic 289, 3) := by decide +kernel
theorem dX10_turnAt_8 : decode cX10_turnAt 8 = .ok (.ireturn, 1) := by decide +kernel
theorem dX10_parts_0 : decode cX10_parts 0 = .ok (.aload_n 0, 1) := by decide +kernel
theorem dX10_parts_1 : decode cX10_parts 1 = .ok (.getfield 57, 3) := by decide +kernel
theorem dX10_parts_4 : decode cX10_parts 4 = .ok (.aload_n 0, 1) := by decide +kernel
theorem dX10_parts_5 : decode cX10_parts 5 = .ok (.iload_n 1, 1) := by decide +kernel
theorem dX10_parts_6 : decode cX10_parts 6 = .ok (.invokevirtual 126, 3) := by decide +kernel
theorem dX10_parts_9 : decode cX10_parts 9 = .ok (.invokevirtual 292, 3) := by decide +kernel
theorem dX10_parts_12 : decode cX10_parts 12 = .ok (.ireturn, 1) := by decide +kernel
theorem dX10_partAt_0 : decode cX10_partAt 0 = .ok (.aload_n 0, 1) := by decide +kernel
theorem dX10_partAt_1 : decode cX10_partAt 1 = .ok (.iload_n 1, 1) := by decide +kernel
theorem dX10_partAt_2 : decode cX10_partAt 2 = .ok (.invokevirtual 126, 3) := by decide +kernel
theorem dX10_partAt_5 : decode cX10_partAt 5 = .ok (.astore_n 3, 1) := by decide +kernel
theorem dX10_partAt_6 : decode cX10_partAt 6 = .ok (.iload_n 2, 1) := by decide +kernel
theorem dX10_partAt_7 : decode cX10_partAt 7 = .ok (.ifCond .lt 15, 3) := by decide +kernel
theorem dX10_partAt_10 : decode cX10_partAt 10 = .ok (.iload_n 2, 1) := by decide +kernel
theorem dX10_partAt_11 : decode cX10_partAt 11 = .ok (.aload_n 0, 1) := by decide +kernel
theorem dX10_partAt_12 : decode cX10_partAt 12 = .ok (.getfield 57, 3) := by decide +kernel
theorem dX10_partAt_15 : decode cX10_partAt 15 = .ok (.aload_n 3, 1) := by decide +kernel
theorem dX10_partAt_16 : decode cX10_partAt 16 = .ok (.invokevirtual 292, 3) := by decide +kernel
theorem dX10_partAt_19 : decode cX10_partAt 19 = .ok (.if_icmp .lt 14, 3) := by decide +kernel
theorem dX10_partAt_22 : decode cX10_partAt 22 = .ok (.new 295, 3) := by decide +kernel
theorem dX10_partAt_25 : decode cX10_partAt 25 = .ok (.dup, 1) := by decide +kernel
theorem dX10_partAt_26 : decode cX10_partAt 26 = .ok (.ldc_w 297, 3) := by decide +kernel
theorem dX10_partAt_29 : decode cX10_partAt 29 = .ok (.invokespecial 299, 3) := by decide +kernel
theorem dX10_partAt_32 : decode cX10_partAt 32 = .ok (.athrow, 1) := by decide +kernel
theorem dX10_partAt_33 : decode cX10_partAt 33 = .ok (.aload_n 0, 1) := by decide +kernel
theorem dX10_partAt_34 : decode cX10_partAt 34 = .ok (.getfield 57, 3) := by decide +kernel
theorem dX10_partAt_37 : decode cX10_partAt 37 = .ok (.aload_n 3, 1) := by decide +kernel
theorem dX10_partAt_38 : decode cX10_partAt 38 = .ok (.iload_n 2, 1) := by decide +kernel
theorem dX10_partAt_39 : decode cX10_partAt 39 = .ok (.invokevirtual 300, 3) := by decide +kernel
theorem dX10_partAt_42 : decode cX10_partAt 42 = .ok (.ireturn, 1) := by decide +kernel
theorem dX10_pieces_0 : decode cX10_pieces 0 = .ok (.aload_n 0, 1) := by decide +kernel
theorem dX10_pieces_1 : decode cX10_pieces 1 = .ok (.getfield 64, 3) := by decide +kernel
theorem dX10_pieces_4 : decode cX10_pieces 4 = .ok (.aload_n 0, 1) := by decide +kernel
theorem dX10_pieces_5 : decode cX10_pieces 5 = .ok (.iload_n 1, 1) := by decide +kernel
theorem dX10_pieces_6 : decode cX10_pieces 6 = .ok (.invokevirtual 126, 3) := by decide +kernel
theorem dX10_pieces_9 : decode cX10_pieces 9 = .ok (.invokevirtual 303, 3) := by decide +kernel
theorem dX10_pieces_12 : decode cX10_pieces 12 = .ok (.ireturn, 1) := by decide +kernel
theorem dX10_pieceLength_0 : decode cX10_pieceLength 0 = .ok (.aload_n 0, 1) := by decide +kernel
theorem dX10_pieceLength_1 : decode cX10_pieceLength 1 = .ok (.iload_n 1, 1) := by decide +kernel
theorem dX10_pieceLength_2 : decode cX10_pieceLength 2 = .ok (.iload_n 2, 1) := by decide +kernel
theorem dX10_pieceLength_3 : decode cX10_pieceLength 3 = .ok (.invokevirtual 304, 3) := by decide +kernel
theorem dX10_pieceLength_6 : decode cX10_pieceLength 6 = .ok (.astore_n 3, 1) := by decide +kernel
theorem dX10_pieceLength_7 : decode cX10_pieceLength 7 = .ok (.aload_n 0, 1) := by decide +kernel
theorem dX10_pieceLength_8 : decode cX10_pieceLength 8 = .ok (.getfield 64, 3) := by decide +kernel
theorem dX10_pieceLength_11 : decode cX10_pieceLength 11 = .ok (.aload_n 3, 1) := by decide +kernel
theorem dX10_pieceLength_12 : decode cX10_pieceLength 12 = .ok (.aload_n 0, 1) := by decide +kernel
theorem dX10_pieceLength_13 : decode cX10_pieceLength 13 = .ok (.getfield 64, 3) := by decide +kernel
theorem dX10_pieceLength_16 : decode cX10_pieceLength 16 = .ok (.aload_n 3, 1) := by decide +kernel
theorem dX10_pieceLength_17 : decode cX10_pieceLength 17 = .ok (.iload_n 2, 1) := by decide +kernel
theorem dX10_pieceLength_18 : decode cX10_pieceLength 18 = .ok (.invokevirtual 307, 3) := by decide +kernel
theorem dX10_pieceLength_21 : decode cX10_pieceLength 21 = .ok (.invokevirtual 308, 3) := by decide +kernel
theorem dX10_pieceLength_24 : decode cX10_pieceLength 24 = .ok (.ireturn, 1) := by decide +kernel
theorem dX10_pieceFrom_0 : decode cX10_pieceFrom 0 = .ok (.aload_n 0, 1) := by decide +kernel
theorem dX10_pieceFrom_1 : decode cX10_pieceFrom 1 = .ok (.iload_n 1, 1) := by decide +kernel
theorem dX10_pieceFrom_2 : decode cX10_pieceFrom 2 = .ok (.iload_n 2, 1) := by decide +kernel
theorem dX10_pieceFrom_3 : decode cX10_pieceFrom 3 = .ok (.invokevirtual 304, 3) := by decide +kernel
theorem dX10_pieceFrom_6 : decode cX10_pieceFrom 6 = .ok (.astore_n 3, 1) := by decide +kernel
theorem dX10_pieceFrom_7 : decode cX10_pieceFrom 7 = .ok (.aload_n 0, 1) := by decide +kernel
theorem dX10_pieceFrom_8 : decode cX10_pieceFrom 8 = .ok (.getfield 64, 3) := by decide +kernel
theorem dX10_pieceFrom_11 : decode cX10_pieceFrom 11 = .ok (.aload_n 3, 1) := by decide +kernel
theorem dX10_pieceFrom_12 : decode cX10_pieceFrom 12 = .ok (.iload_n 2, 1) := by decide +kernel
theorem dX10_pieceFrom_13 : decode cX10_pieceFrom 13 = .ok (.invokevirtual 307, 3) := by decide +kernel
theorem dX10_pieceFrom_16 : decode cX10_pieceFrom 16 = .ok (.istore 4, 2) := by decide +kernel
theorem dX10_pieceFrom_18 : decode cX10_pieceFrom 18 = .ok (.aload_n 3, 1) := by decide +kernel
theorem dX10_pieceFrom_19 : decode cX10_pieceFrom 19 = .ok (.iload 4, 2) := by decide +kernel
theorem dX10_pieceFrom_21 : decode cX10_pieceFrom 21 = .ok (.aload_n 0, 1) := by decide +kernel
theorem dX10_pieceFrom_22 : decode cX10_pieceFrom 22 = .ok (.getfield 64, 3) := by decide +kernel
theorem dX10_pieceFrom_25 : decode cX10_pieceFrom 25 = .ok (.aload_n 3, 1) := by decide +kernel
theorem dX10_pieceFrom_26 : decode cX10_pieceFrom 26 = .ok (.iload 4, 2) := by decide +kernel
theorem dX10_pieceFrom_28 : decode cX10_pieceFrom 28 = .ok (.invokevirtual 308, 3) := by decide +kernel
theorem dX10_pieceFrom_31 : decode cX10_pieceFrom 31 = .ok (.invokevirtual 311, 3) := by decide +kernel
theorem dX10_pieceFrom_34 : decode cX10_pieceFrom 34 = .ok (.istore 5, 2) := by decide +kernel
theorem dX10_pieceFrom_36 : decode cX10_pieceFrom 36 = .ok (.iload 5, 2) := by decide +kernel
theorem dX10_pieceFrom_38 : decode cX10_pieceFrom 38 = .ok (.iload 4, 2) := by decide +kernel
theorem dX10_pieceFrom_40 : decode cX10_pieceFrom 40 = .ok (.if_icmp .ne 14, 3) := by decide +kernel
theorem dX10_pieceFrom_43 : decode cX10_pieceFrom 43 = .ok (.new 97, 3) := by decide +kernel
theorem dX10_pieceFrom_46 : decode cX10_pieceFrom 46 = .ok (.dup, 1) := by decide +kernel
theorem dX10_pieceFrom_47 : decode cX10_pieceFrom 47 = .ok (.ldc_w 314, 3) := by decide +kernel
theorem dX10_pieceFrom_50 : decode cX10_pieceFrom 50 = .ok (.invokespecial 101, 3) := by decide +kernel
theorem dX10_pieceFrom_53 : decode cX10_pieceFrom 53 = .ok (.athrow, 1) := by decide +kernel
theorem dX10_pieceFrom_54 : decode cX10_pieceFrom 54 = .ok (.iload 5, 2) := by decide +kernel
theorem dX10_pieceFrom_56 : decode cX10_pieceFrom 56 = .ok (.ireturn, 1) := by decide +kernel
theorem dX10_fewest_0 : decode cX10_fewest 0 = .ok (.aload_n 0, 1) := by decide +kernel
theorem dX10_fewest_1 : decode cX10_fewest 1 = .ok (.getfield 64, 3) := by decide +kernel
theorem dX10_fewest_4 : decode cX10_fewest 4 = .ok (.aload_n 0, 1) := by decide +kernel
theorem dX10_fewest_5 : decode cX10_fewest 5 = .ok (.iload_n 1, 1) := by decide +kernel
theorem dX10_fewest_6 : decode cX10_fewest 6 = .ok (.invokevirtual 126, 3) := by decide +kernel
theorem dX10_fewest_9 : decode cX10_fewest 9 = .ok (.invokevirtual 316, 3) := by decide +kernel
theorem dX10_fewest_12 : decode cX10_fewest 12 = .ok (.ireturn, 1) := by decide +kernel
theorem dX10_commonShare_0 : decode cX10_commonShare 0 = .ok (.aload_n 0, 1) := by decide +kernel
theorem dX10_commonShare_1 : decode cX10_commonShare 1 = .ok (.iload_n 1, 1) := by decide +kernel
theorem dX10_commonShare_2 : decode cX10_commonShare 2 = .ok (.invokevirtual 126, 3) := by decide +kernel
theorem dX10_commonShare_5 : decode cX10_commonShare 5 = .ok (.astore_n 2, 1) := by decide +kernel
theorem dX10_commonShare_6 : decode cX10_commonShare 6 = .ok (.aload_n 2, 1) := by decide +kernel
theorem dX10_commonShare_7 : decode cX10_commonShare 7 = .ok (.getfield 131, 3) := by decide +kernel
theorem dX10_commonShare_10 : decode cX10_commonShare 10 = .ok (.ifCond .ne 14, 3) := by decide +kernel
theorem dX10_commonShare_13 : decode cX10_commonShare 13 = .ok (.new 319, 3) := by decide +kernel
theorem dX10_commonShare_16 : decode cX10_commonShare 16 = .ok (.dup, 1) := by decide +kernel
theorem dX10_commonShare_17 : decode cX10_commonShare 17 = .ok (.ldc_w 321, 3) := by decide +kernel
theorem dX10_commonShare_20 : decode cX10_commonShare 20 = .ok (.invokespecial 323, 3) := by decide +kernel
theorem dX10_commonShare_23 : decode cX10_commonShare 23 = .ok (.athrow, 1) := by decide +kernel
theorem dX10_commonShare_24 : decode cX10_commonShare 24 = .ok (.aload_n 2, 1) := by decide +kernel
theorem dX10_commonShare_25 : decode cX10_commonShare 25 = .ok (.getfield 131, 3) := by decide +kernel
theorem dX10_commonShare_28 : decode cX10_commonShare 28 = .ok (.aload_n 2, 1) := by decide +kernel
theorem dX10_commonShare_29 : decode cX10_commonShare 29 = .ok (.iconst 1, 1) := by decide +kernel
theorem dX10_commonShare_30 : decode cX10_commonShare 30 = .ok (.aload_n 2, 1) := by decide +kernel
theorem dX10_commonShare_31 : decode cX10_commonShare 31 = .ok (.getfield 131, 3) := by decide +kernel
theorem dX10_commonShare_34 : decode cX10_commonShare 34 = .ok (.iconst 1, 1) := by decide +kernel
theorem dX10_commonShare_35 : decode cX10_commonShare 35 = .ok (.isub, 1) := by decide +kernel
theorem dX10_commonShare_36 : decode cX10_commonShare 36 = .ok (.invokevirtual 178, 3) := by decide +kernel
theorem dX10_commonShare_39 : decode cX10_commonShare 39 = .ok (.isub, 1) := by decide +kernel
theorem dX10_commonShare_40 : decode cX10_commonShare 40 = .ok (.istore_n 3, 1) := by decide +kernel
theorem dX10_commonShare_41 : decode cX10_commonShare 41 = .ok (.iload_n 3, 1) := by decide +kernel
theorem dX10_commonShare_42 : decode cX10_commonShare 42 = .ok (.i2f, 1) := by decide +kernel
theorem dX10_commonShare_43 : decode cX10_commonShare 43 = .ok (.aload_n 2, 1) := by decide +kernel
theorem dX10_commonShare_44 : decode cX10_commonShare 44 = .ok (.getfield 131, 3) := by decide +kernel
theorem dX10_commonShare_47 : decode cX10_commonShare 47 = .ok (.i2f, 1) := by decide +kernel
theorem dX10_commonShare_48 : decode cX10_commonShare 48 = .ok (.fdiv, 1) := by decide +kernel
theorem dX10_commonShare_49 : decode cX10_commonShare 49 = .ok (.freturn, 1) := by decide +kernel
theorem dX10_meanCommon_0 : decode cX10_meanCommon 0 = .ok (.aload_n 0, 1) := by decide +kernel
theorem dX10_meanCommon_1 : decode cX10_meanCommon 1 = .ok (.iload_n 1, 1) := by decide +kernel
theorem dX10_meanCommon_2 : decode cX10_meanCommon 2 = .ok (.invokevirtual 126, 3) := by decide +kernel
theorem dX10_meanCommon_5 : decode cX10_meanCommon 5 = .ok (.astore_n 2, 1) := by decide +kernel
theorem dX10_meanCommon_6 : decode cX10_meanCommon 6 = .ok (.aload_n 2, 1) := by decide +kernel
theorem dX10_meanCommon_7 : decode cX10_meanCommon 7 = .ok (.getfield 131, 3) := by decide +kernel
theorem dX10_meanCommon_10 : decode cX10_meanCommon 10 = .ok (.ifCond .ne 14, 3) := by decide +kernel
theorem dX10_meanCommon_13 : decode cX10_meanCommon 13 = .ok (.new 319, 3) := by decide +kernel
theorem dX10_meanCommon_16 : decode cX10_meanCommon 16 = .ok (.dup, 1) := by decide +kernel
theorem dX10_meanCommon_17 : decode cX10_meanCommon 17 = .ok (.ldc_w 321, 3) := by decide +kernel
theorem dX10_meanCommon_20 : decode cX10_meanCommon 20 = .ok (.invokespecial 323, 3) := by decide +kernel
theorem dX10_meanCommon_23 : decode cX10_meanCommon 23 = .ok (.athrow, 1) := by decide +kernel
theorem dX10_meanCommon_24 : decode cX10_meanCommon 24 = .ok (.iconst 0, 1) := by decide +kernel
theorem dX10_meanCommon_25 : decode cX10_meanCommon 25 = .ok (.istore_n 3, 1) := by decide +kernel
theorem dX10_meanCommon_26 : decode cX10_meanCommon 26 = .ok (.iconst 0, 1) := by decide +kernel
theorem dX10_meanCommon_27 : decode cX10_meanCommon 27 = .ok (.istore 4, 2) := by decide +kernel
theorem dX10_meanCommon_29 : decode cX10_meanCommon 29 = .ok (.iload 4, 2) := by decide +kernel
theorem dX10_meanCommon_31 : decode cX10_meanCommon 31 = .ok (.aload_n 2, 1) := by decide +kernel
theorem dX10_meanCommon_32 : decode cX10_meanCommon 32 = .ok (.getfield 131, 3) := by decide +kernel
theorem dX10_meanCommon_35 : decode cX10_meanCommon 35 = .ok (.if_icmp .ge 19, 3) := by decide +kernel
theorem dX10_meanCommon_38 : decode cX10_meanCommon 38 = .ok (.iload_n 3, 1) := by decide +kernel
theorem dX10_meanCommon_39 : decode cX10_meanCommon 39 = .ok (.aload_n 2, 1) := by decide +kernel
theorem dX10_meanCommon_40 : decode cX10_meanCommon 40 = .ok (.getfield 185, 3) := by decide +kernel
theorem dX10_meanCommon_43 : decode cX10_meanCommon 43 = .ok (.iload 4, 2) := by decide +kernel
theorem dX10_meanCommon_45 : decode cX10_meanCommon 45 = .ok (.iaload, 1) := by decide +kernel
theorem dX10_meanCommon_46 : decode cX10_meanCommon 46 = .ok (.iadd, 1) := by decide +kernel
theorem dX10_meanCommon_47 : decode cX10_meanCommon 47 = .ok (.istore_n 3, 1) := by decide +kernel
theorem dX10_meanCommon_48 : decode cX10_meanCommon 48 = .ok (.iinc 4 1, 3) := by decide +kernel
theorem dX10_meanCommon_51 : decode cX10_meanCommon 51 = .ok (.goto (-22), 3) := by decide +kernel
theorem dX10_meanCommon_54 : decode cX10_meanCommon 54 = .ok (.iload_n 3, 1) := by decide +kernel
theorem dX10_meanCommon_55 : decode cX10_meanCommon 55 = .ok (.i2d, 1) := by decide +kernel
theorem dX10_meanCommon_56 : decode cX10_meanCommon 56 = .ok (.aload_n 2, 1) := by decide +kernel
theorem dX10_meanCommon_57 : decode cX10_meanCommon 57 = .ok (.getfield 131, 3) := by decide +kernel
theorem dX10_meanCommon_60 : decode cX10_meanCommon 60 = .ok (.i2d, 1) := by decide +kernel
theorem dX10_meanCommon_61 : decode cX10_meanCommon 61 = .ok (.ddiv, 1) := by decide +kernel
theorem dX10_meanCommon_62 : decode cX10_meanCommon 62 = .ok (.dreturn, 1) := by decide +kernel
theorem dX10_checksum_0 : decode cX10_checksum 0 = .ok (.ldc2_w 324, 3) := by decide +kernel
theorem dX10_checksum_3 : decode cX10_checksum 3 = .ok (.lstore_n 1, 1) := by decide +kernel
theorem dX10_checksum_4 : decode cX10_checksum 4 = .ok (.iconst 0, 1) := by decide +kernel
theorem dX10_checksum_5 : decode cX10_checksum 5 = .ok (.istore_n 3, 1) := by decide +kernel
theorem dX10_checksum_6 : decode cX10_checksum 6 = .ok (.iload_n 3, 1) := by decide +kernel
theorem dX10_checksum_7 : decode cX10_checksum 7 = .ok (.aload_n 0, 1) := by decide +kernel
theorem dX10_checksum_8 : decode cX10_checksum 8 = .ok (.getfield 235, 3) := by decide +kernel
theorem dX10_checksum_11 : decode cX10_checksum 11 = .ok (.if_icmp .ge 81, 3) := by decide +kernel
theorem dX10_checksum_14 : decode cX10_checksum 14 = .ok (.aload_n 0, 1) := by decide +kernel
theorem dX10_checksum_15 : decode cX10_checksum 15 = .ok (.getfield 11, 3) := by decide +kernel
theorem dX10_checksum_18 : decode cX10_checksum 18 = .ok (.iload_n 3, 1) := by decide +kernel
theorem dX10_checksum_19 : decode cX10_checksum 19 = .ok (.aaload, 1) := by decide +kernel
theorem dX10_checksum_20 : decode cX10_checksum 20 = .ok (.astore 4, 2) := by decide +kernel
theorem dX10_checksum_22 : decode cX10_checksum 22 = .ok (.ldc2_w 326, 3) := by decide +kernel
theorem dX10_checksum_25 : decode cX10_checksum 25 = .ok (.lload_n 1, 1) := by decide +kernel
theorem dX10_checksum_26 : decode cX10_checksum 26 = .ok (.lmul, 1) := by decide +kernel
theorem dX10_checksum_27 : decode cX10_checksum 27 = .ok (.aload 4, 2) := by decide +kernel
theorem dX10_checksum_29 : decode cX10_checksum 29 = .ok (.getfield 131, 3) := by decide +kernel
theorem dX10_checksum_32 : decode cX10_checksum 32 = .ok (.i2l, 1) := by decide +kernel
theorem dX10_checksum_33 : decode cX10_checksum 33 = .ok (.ladd, 1) := by decide +kernel
theorem dX10_checksum_34 : decode cX10_checksum 34 = .ok (.lstore_n 1, 1) := by decide +kernel
theorem dX10_checksum_35 : decode cX10_checksum 35 = .ok (.iconst 0, 1) := by decide +kernel
theorem dX10_checksum_36 : decode cX10_checksum 36 = .ok (.istore 5, 2) := by decide +kernel
theorem dX10_checksum_38 : decode cX10_checksum 38 = .ok (.iload 5, 2) := by decide +kernel
theorem dX10_checksum_40 : decode cX10_checksum 40 = .ok (.aload 4, 2) := by decide +kernel
theorem dX10_checksum_42 : decode cX10_checksum 42 = .ok (.getfield 131, 3) := by decide +kernel
theorem dX10_checksum_45 : decode cX10_checksum 45 = .ok (.if_icmp .ge 41, 3) := by decide +kernel
theorem dX10_checksum_48 : decode cX10_checksum 48 = .ok (.ldc2_w 326, 3) := by decide +kernel
theorem dX10_checksum_51 : decode cX10_checksum 51 = .ok (.lload_n 1, 1) := by decide +kernel
theorem dX10_checksum_52 : decode cX10_checksum 52 = .ok (.lmul, 1) := by decide +kernel
theorem dX10_checksum_53 : decode cX10_checksum 53 = .ok (.aload 4, 2) := by decide +kernel
theorem dX10_checksum_55 : decode cX10_checksum 55 = .ok (.getfield 167, 3) := by decide +kernel
theorem dX10_checksum_58 : decode cX10_checksum 58 = .ok (.iload 5, 2) := by decide +kernel
theorem dX10_checksum_60 : decode cX10_checksum 60 = .ok (.iaload, 1) := by decide +kernel
theorem dX10_checksum_61 : decode cX10_checksum 61 = .ok (.i2l, 1) := by decide +kernel
theorem dX10_checksum_62 : decode cX10_checksum 62 = .ok (.ladd, 1) := by decide +kernel
theorem dX10_checksum_63 : decode cX10_checksum 63 = .ok (.lstore_n 1, 1) := by decide +kernel
theorem dX10_checksum_64 : decode cX10_checksum 64 = .ok (.ldc2_w 326, 3) := by decide +kernel
theorem dX10_checksum_67 : decode cX10_checksum 67 = .ok (.lload_n 1, 1) := by decide +kernel
theorem dX10_checksum_68 : decode cX10_checksum 68 = .ok (.lmul, 1) := by decide +kernel
theorem dX10_checksum_69 : decode cX10_checksum 69 = .ok (.aload 4, 2) := by decide +kernel
theorem dX10_checksum_71 : decode cX10_checksum 71 = .ok (.getfield 185, 3) := by decide +kernel
theorem dX10_checksum_74 : decode cX10_checksum 74 = .ok (.iload 5, 2) := by decide +kernel
theorem dX10_checksum_76 : decode cX10_checksum 76 = .ok (.iaload, 1) := by decide +kernel
theorem dX10_checksum_77 : decode cX10_checksum 77 = .ok (.i2l, 1) := by decide +kernel
theorem dX10_checksum_78 : decode cX10_checksum 78 = .ok (.ladd, 1) := by decide +kernel
theorem dX10_checksum_79 : decode cX10_checksum 79 = .ok (.lstore_n 1, 1) := by decide +kernel
theorem dX10_checksum_80 : decode cX10_checksum 80 = .ok (.iinc 5 1, 3) := by decide +kernel
theorem dX10_checksum_83 : decode cX10_checksum 83 = .ok (.goto (-45), 3) := by decide +kernel
theorem dX10_checksum_86 : decode cX10_checksum 86 = .ok (.iinc 3 1, 3) := by decide +kernel
theorem dX10_checksum_89 : decode cX10_checksum 89 = .ok (.goto (-83), 3) := by decide +kernel
theorem dX10_checksum_92 : decode cX10_checksum 92 = .ok (.lload_n 1, 1) := by decide +kernel
theorem dX10_checksum_93 : decode cX10_checksum 93 = .ok (.lreturn, 1) := by decide +kernel
theorem dX10_isSound_0 : decode cX10_isSound 0 = .ok (.iconst 0, 1) := by decide +kernel
theorem dX10_isSound_1 : decode cX10_isSound 1 = .ok (.istore_n 1, 1) := by decide +kernel
theorem dX10_isSound_2 : decode cX10_isSound 2 = .ok (.iload_n 1, 1) := by decide +kernel
theorem dX10_isSound_3 : decode cX10_isSound 3 = .ok (.aload_n 0, 1) := by decide +kernel
theorem dX10_isSound_4 : decode cX10_isSound 4 = .ok (.getfield 235, 3) := by decide +kernel
theorem dX10_isSound_7 : decode cX10_isSound 7 = .ok (.if_icmp .ge 80, 3) := by decide +kernel
theorem dX10_isSound_10 : decode cX10_isSound 10 = .ok (.aload_n 0, 1) := by decide +kernel
theorem dX10_isSound_11 : decode cX10_isSound 11 = .ok (.getfield 11, 3) := by decide +kernel
theorem dX10_isSound_14 : decode cX10_isSound 14 = .ok (.iload_n 1, 1) := by decide +kernel
theorem dX10_isSound_15 : decode cX10_isSound 15 = .ok (.aaload, 1) := by decide +kernel
theorem dX10_isSound_16 : decode cX10_isSound 16 = .ok (.astore_n 2, 1) := by decide +kernel
theorem dX10_isSound_17 : decode cX10_isSound 17 = .ok (.aload_n 0, 1) := by decide +kernel
theorem dX10_isSound_18 : decode cX10_isSound 18 = .ok (.getfield 36, 3) := by decide +kernel
theorem dX10_isSound_21 : decode cX10_isSound 21 = .ok (.aload_n 2, 1) := by decide +kernel
theorem dX10_isSound_22 : decode cX10_isSound 22 = .ok (.invokevirtual 328, 3) := by decide +kernel
theorem dX10_isSound_25 : decode cX10_isSound 25 = .ok (.ifCond .eq 48, 3) := by decide +kernel
theorem dX10_isSound_28 : decode cX10_isSound 28 = .ok (.aload_n 0, 1) := by decide +kernel
theorem dX10_isSound_29 : decode cX10_isSound 29 = .ok (.getfield 50, 3) := by decide +kernel
theorem dX10_isSound_32 : decode cX10_isSound 32 = .ok (.aload_n 2, 1) := by decide +kernel
theorem dX10_isSound_33 : decode cX10_isSound 33 = .ok (.invokevirtual 332, 3) := by decide +kernel
theorem dX10_isSound_36 : decode cX10_isSound 36 = .ok (.ifCond .eq 37, 3) := by decide +kernel
theorem dX10_isSound_39 : decode cX10_isSound 39 = .ok (.aload_n 0, 1) := by decide +kernel
theorem dX10_isSound_40 : decode cX10_isSound 40 = .ok (.getfield 57, 3) := by decide +kernel
theorem dX10_isSound_43 : decode cX10_isSound 43 = .ok (.aload_n 2, 1) := by decide +kernel
theorem dX10_isSound_44 : decode cX10_isSound 44 = .ok (.invokevirtual 335, 3) := by decide +kernel
theorem dX10_isSound_47 : decode cX10_isSound 47 = .ok (.ifCond .eq 26, 3) := by decide +kernel
theorem dX10_isSound_50 : decode cX10_isSound 50 = .ok (.aload_n 0, 1) := by decide +kernel
theorem dX10_isSound_51 : decode cX10_isSound 51 = .ok (.getfield 64, 3) := by decide +kernel
theorem dX10_isSound_54 : decode cX10_isSound 54 = .ok (.aload_n 2, 1) := by decide +kernel
theorem dX10_isSound_55 : decode cX10_isSound 55 = .ok (.invokevirtual 303, 3) := by decide +kernel
theorem dX10_isSound_58 : decode cX10_isSound 58 = .ok (.aload_n 0, 1) := by decide +kernel
theorem dX10_isSound_59 : decode cX10_isSound 59 = .ok (.getfield 64, 3) := by decide +kernel
theorem dX10_isSound_62 : decode cX10_isSound 62 = .ok (.aload_n 2, 1) := by decide +kernel
theorem dX10_isSound_63 : decode cX10_isSound 63 = .ok (.invokevirtual 316, 3) := by decide +kernel
theorem dX10_isSound_66 : decode cX10_isSound 66 = .ok (.if_icmp .ne 7, 3) := by decide +kernel
theorem dX10_isSound_69 : decode cX10_isSound 69 = .ok (.iconst 1, 1) := by decide +kernel
theorem dX10_isSound_70 : decode cX10_isSound 70 = .ok (.goto 4, 3) := by decide +kernel
theorem dX10_isSound_73 : decode cX10_isSound 73 = .ok (.iconst 0, 1) := by decide +kernel
theorem dX10_isSound_74 : decode cX10_isSound 74 = .ok (.istore_n 3, 1) := by decide +kernel
theorem dX10_isSound_75 : decode cX10_isSound 75 = .ok (.iload_n 3, 1) := by decide +kernel
theorem dX10_isSound_76 : decode cX10_isSound 76 = .ok (.ifCond .ne 5, 3) := by decide +kernel
theorem dX10_isSound_79 : decode cX10_isSound 79 = .ok (.iconst 0, 1) := by decide +kernel
theorem dX10_isSound_80 : decode cX10_isSound 80 = .ok (.ireturn, 1) := by decide +kernel
theorem dX10_isSound_81 : decode cX10_isSound 81 = .ok (.iinc 1 1, 3) := by decide +kernel
theorem dX10_isSound_84 : decode cX10_isSound 84 = .ok (.goto (-82), 3) := by decide +kernel
theorem dX10_isSound_87 : decode cX10_isSound 87 = .ok (.iconst 1, 1) := by decide +kernel
theorem dX10_isSound_88 : decode cX10_isSound 88 = .ok (.ireturn, 1) := by decide +kernel
theorem dX10_isLetter_0 : decode cX10_isLetter 0 = .ok (.iload_n 0, 1) := by decide +kernel
theorem dX10_isLetter_1 : decode cX10_isLetter 1 = .ok (.bipush 97, 2) := by decide +kernel
theorem dX10_isLetter_3 : decode cX10_isLetter 3 = .ok (.if_icmp .lt 13, 3) := by decide +kernel
theorem dX10_isLetter_6 : decode cX10_isLetter 6 = .ok (.iload_n 0, 1) := by decide +kernel
theorem dX10_isLetter_7 : decode cX10_isLetter 7 = .ok (.bipush 122, 2) := by decide +kernel
theorem dX10_isLetter_9 : decode cX10_isLetter 9 = .ok (.if_icmp .gt 7, 3) := by decide +kernel
theorem dX10_isLetter_12 : decode cX10_isLetter 12 = .ok (.iconst 1, 1) := by decide +kernel
theorem dX10_isLetter_13 : decode cX10_isLetter 13 = .ok (.goto 4, 3) := by decide +kernel
theorem dX10_isLetter_16 : decode cX10_isLetter 16 = .ok (.iconst 0, 1) := by decide +kernel
theorem dX10_isLetter_17 : decode cX10_isLetter 17 = .ok (.ireturn, 1) := by decide +kernel
theorem dX10_isTypable_0 : decode cX10_isTypable 0 = .ok (.iload_n 0, 1) := by decide +kernel
theorem dX10_isTypable_1 : decode cX10_isTypable 1 = .ok (.bipush 36, 2) := by decide +kernel
theorem dX10_isTypable_3 : decode cX10_isTypable 3 = .ok (.if_icmp .eq 10, 3) := by decide +kernel
theorem dX10_isTypable_6 : decode cX10_isTypable 6 = .ok (.iload_n 0, 1) := by decide +kernel
theorem dX10_isTypable_7 : decode cX10_isTypable 7 = .ok (.invokestatic 146, 3) := by decide +kernel
theorem dX10_isTypable_10 : decode cX10_isTypable 10 = .ok (.ifCond .eq 7, 3) := by decide +kernel
theorem dX10_isTypable_13 : decode cX10_isTypable 13 = .ok (.iconst 1, 1) := by decide +kernel
theorem dX10_isTypable_14 : decode cX10_isTypable 14 = .ok (.goto 4, 3) := by decide +kernel
theorem dX10_isTypable_17 : decode cX10_isTypable 17 = .ok (.iconst 0, 1) := by decide +kernel
theorem dX10_isTypable_18 : decode cX10_isTypable 18 = .ok (.ireturn, 1) := by decide +kernel
theorem dX10_known_0 : decode cX10_known 0 = .ok (.iload_n 1, 1) := by decide +kernel
theorem dX10_known_1 : decode cX10_known 1 = .ok (.ifCond .lt 11, 3) := by decide +kernel
theorem dX10_known_4 : decode cX10_known 4 = .ok (.iload_n 1, 1) := by decide +kernel
theorem dX10_known_5 : decode cX10_known 5 = .ok (.aload_n 0, 1) := by decide +kernel
theorem dX10_known_6 : decode cX10_known 6 = .ok (.getfield 235, 3) := by decide +kernel
theorem dX10_known_9 : decode cX10_known 9 = .ok (.if_icmp .lt 14, 3) := by decide +kernel
theorem dX10_known_12 : decode cX10_known 12 = .ok (.new 295, 3) := by decide +kernel
theorem dX10_known_15 : decode cX10_known 15 = .ok (.dup, 1) := by decide +kernel
theorem dX10_known_16 : decode cX10_known 16 = .ok (.ldc_w 336, 3) := by decide +kernel
theorem dX10_known_19 : decode cX10_known 19 = .ok (.invokespecial 299, 3) := by decide +kernel
theorem dX10_known_22 : decode cX10_known 22 = .ok (.athrow, 1) := by decide +kernel
theorem dX10_known_23 : decode cX10_known 23 = .ok (.aload_n 0, 1) := by decide +kernel
theorem dX10_known_24 : decode cX10_known 24 = .ok (.getfield 11, 3) := by decide +kernel
theorem dX10_known_27 : decode cX10_known 27 = .ok (.iload_n 1, 1) := by decide +kernel
theorem dX10_known_28 : decode cX10_known 28 = .ok (.aaload, 1) := by decide +kernel
theorem dX10_known_29 : decode cX10_known 29 = .ok (.areturn, 1) := by decide +kernel
theorem dX10_knownWith_0 : decode cX10_knownWith 0 = .ok (.aload_n 0, 1) := by decide +kernel
theorem dX10_knownWith_1 : decode cX10_knownWith 1 = .ok (.iload_n 1, 1) := by decide +kernel
theorem dX10_knownWith_2 : decode cX10_knownWith 2 = .ok (.invokevirtual 126, 3) := by decide +kernel
theorem dX10_knownWith_5 : decode cX10_knownWith 5 = .ok (.astore_n 3, 1) := by decide +kernel
theorem dX10_knownWith_6 : decode cX10_knownWith 6 = .ok (.iload_n 2, 1) := by decide +kernel
theorem dX10_knownWith_7 : decode cX10_knownWith 7 = .ok (.ifCond .lt 11, 3) := by decide +kernel
theorem dX10_knownWith_10 : decode cX10_knownWith 10 = .ok (.iload_n 2, 1) := by decide +kernel
theorem dX10_knownWith_11 : decode cX10_knownWith 11 = .ok (.aload_n 3, 1) := by decide +kernel
theorem dX10_knownWith_12 : decode cX10_knownWith 12 = .ok (.getfield 131, 3) := by decide +kernel
theorem dX10_knownWith_15 : decode cX10_knownWith 15 = .ok (.if_icmp .lt 14, 3) := by decide +kernel
theorem dX10_knownWith_18 : decode cX10_knownWith 18 = .ok (.new 295, 3) := by decide +kernel
theorem dX10_knownWith_21 : decode cX10_knownWith 21 = .ok (.dup, 1) := by decide +kernel
theorem dX10_knownWith_22 : decode cX10_knownWith 22 = .ok (.ldc_w 338, 3) := by decide +kernel
theorem dX10_knownWith_25 : decode cX10_knownWith 25 = .ok (.invokespecial 299, 3) := by decide +kernel
theorem dX10_knownWith_28 : decode cX10_knownWith 28 = .ok (.athrow, 1) := by decide +kernel
theorem dX10_knownWith_29 : decode cX10_knownWith 29 = .ok (.aload_n 3, 1) := by decide +kernel
theorem dX10_knownWith_30 : decode cX10_knownWith 30 = .ok (.areturn, 1) := by decide +kernel
theorem dX10_knownWithRow_0 : decode cX10_knownWithRow 0 = .ok (.aload_n 0, 1) := by decide +kernel
theorem dX10_knownWithRow_1 : decode cX10_knownWithRow 1 = .ok (.iload_n 1, 1) := by decide +kernel
theorem dX10_knownWithRow_2 : decode cX10_knownWithRow 2 = .ok (.invokevirtual 126, 3) := by decide +kernel
theorem dX10_knownWithRow_5 : decode cX10_knownWithRow 5 = .ok (.astore_n 3, 1) := by decide +kernel
theorem dX10_knownWithRow_6 : decode cX10_knownWithRow 6 = .ok (.iload_n 2, 1) := by decide +kernel
theorem dX10_knownWithRow_7 : decode cX10_knownWithRow 7 = .ok (.ifCond .lt 11, 3) := by decide +kernel
theorem dX10_knownWithRow_10 : decode cX10_knownWithRow 10 = .ok (.iload_n 2, 1) := by decide +kernel
theorem dX10_knownWithRow_11 : decode cX10_knownWithRow 11 = .ok (.aload_n 3, 1) := by decide +kernel
theorem dX10_knownWithRow_12 : decode cX10_knownWithRow 12 = .ok (.getfield 131, 3) := by decide +kernel
theorem dX10_knownWithRow_15 : decode cX10_knownWithRow 15 = .ok (.if_icmp .le 14, 3) := by decide +kernel
theorem dX10_knownWithRow_18 : decode cX10_knownWithRow 18 = .ok (.new 295, 3) := by decide +kernel
theorem dX10_knownWithRow_21 : decode cX10_knownWithRow 21 = .ok (.dup, 1) := by decide +kernel
theorem dX10_knownWithRow_22 : decode cX10_knownWithRow 22 = .ok (.ldc_w 340, 3) := by decide +kernel
theorem dX10_knownWithRow_25 : decode cX10_knownWithRow 25 = .ok (.invokespecial 299, 3) := by decide +kernel
theorem dX10_knownWithRow_28 : decode cX10_knownWithRow 28 = .ok (.athrow, 1) := by decide +kernel
theorem dX10_knownWithRow_29 : decode cX10_knownWithRow 29 = .ok (.aload_n 3, 1) := by decide +kernel
theorem dX10_knownWithRow_30 : decode cX10_knownWithRow 30 = .ok (.areturn, 1) := by decide +kernel
theorem dX10_knownWithPiece_0 : decode cX10_knownWithPiece 0 = .ok (.aload_n 0, 1) := by decide +kernel
theorem dX10_knownWithPiece_1 : decode cX10_knownWithPiece 1 = .ok (.iload_n 1, 1) := by decide +kernel
theorem dX10_knownWithPiece_2 : decode cX10_knownWithPiece 2 = .ok (.invokevirtual 126, 3) := by decide +kernel
theorem dX10_knownWithPiece_5 : decode cX10_knownWithPiece 5 = .ok (.astore_n 3, 1) := by decide +kernel
theorem dX10_knownWithPiece_6 : decode cX10_knownWithPiece 6 = .ok (.iload_n 2, 1) := by decide +kernel
theorem dX10_knownWithPiece_7 : decode cX10_knownWithPiece 7 = .ok (.ifCond .lt 15, 3) := by decide +kernel
theorem dX10_knownWithPiece_10 : decode cX10_knownWithPiece 10 = .ok (.iload_n 2, 1) := by decide +kernel
theorem dX10_knownWithPiece_11 : decode cX10_knownWithPiece 11 = .ok (.aload_n 0, 1) := by decide +kernel
theorem dX10_knownWithPiece_12 : decode cX10_knownWithPiece 12 = .ok (.getfield 64, 3) := by decide +kernel
theorem dX10_knownWithPiece_15 : decode cX10_knownWithPiece 15 = .ok (.aload_n 3, 1) := by decide +kernel
theorem dX10_knownWithPiece_16 : decode cX10_knownWithPiece 16 = .ok (.invokevirtual 303, 3) := by decide +kernel
theorem dX10_knownWithPiece_19 : decode cX10_knownWithPiece 19 = .ok (.if_icmp .lt 14, 3) := by decide +kernel
theorem dX10_knownWithPiece_22 : decode cX10_knownWithPiece 22 = .ok (.new 295, 3) := by decide +kernel
theorem dX10_knownWithPiece_25 : decode cX10_knownWithPiece 25 = .ok (.dup, 1) := by decide +kernel
theorem dX10_knownWithPiece_26 : decode cX10_knownWithPiece 26 = .ok (.ldc_w 342, 3) := by decide +kernel
theorem dX10_knownWithPiece_29 : decode cX10_knownWithPiece 29 = .ok (.invokespecial 299, 3) := by decide +kernel
theorem dX10_knownWithPiece_32 : decode cX10_knownWithPiece 32 = .ok (.athrow, 1) := by decide +kernel
theorem dX10_knownWithPiece_33 : decode cX10_knownWithPiece 33 = .ok (.aload_n 3, 1) := by decide +kernel
theorem dX10_knownWithPiece_34 : decode cX10_knownWithPiece 34 = .ok (.areturn, 1) := by decide +kernel
theorem dX10_knownNotEmpty_0 : decode cX10_knownNotEmpty 0 = .ok (.aload_n 0, 1) := by decide +kernel
theorem dX10_knownNotEmpty_1 : decode cX10_knownNotEmpty 1 = .ok (.iload_n 1, 1) := by decide +kernel
theorem dX10_knownNotEmpty_2 : decode cX10_knownNotEmpty 2 = .ok (.invokevirtual 126, 3) := by decide +kernel
theorem dX10_knownNotEmpty_5 : decode cX10_knownNotEmpty 5 = .ok (.astore_n 2, 1) := by decide +kernel
theorem dX10_knownNotEmpty_6 : decode cX10_knownNotEmpty 6 = .ok (.aload_n 2, 1) := by decide +kernel
theorem dX10_knownNotEmpty_7 : decode cX10_knownNotEmpty 7 = .ok (.getfield 131, 3) := by decide +kernel
theorem dX10_knownNotEmpty_10 : decode cX10_knownNotEmpty 10 = .ok (.ifCond .ne 14, 3) := by decide +kernel
theorem dX10_knownNotEmpty_13 : decode cX10_knownNotEmpty 13 = .ok (.new 97, 3) := by decide +kernel
theorem dX10_knownNotEmpty_16 : decode cX10_knownNotEmpty 16 = .ok (.dup, 1) := by decide +kernel
theorem dX10_knownNotEmpty_17 : decode cX10_knownNotEmpty 17 = .ok (.ldc_w 321, 3) := by decide +kernel
theorem dX10_knownNotEmpty_20 : decode cX10_knownNotEmpty 20 = .ok (.invokespecial 101, 3) := by decide +kernel
theorem dX10_knownNotEmpty_23 : decode cX10_knownNotEmpty 23 = .ok (.athrow, 1) := by decide +kernel
theorem dX10_knownNotEmpty_24 : decode cX10_knownNotEmpty 24 = .ok (.aload_n 2, 1) := by decide +kernel
theorem dX10_knownNotEmpty_25 : decode cX10_knownNotEmpty 25 = .ok (.areturn, 1) := by decide +kernel
theorem dX10_refuseClassSize_0 : decode cX10_refuseClassSize 0 = .ok (.iload_n 1, 1) := by decide +kernel
theorem dX10_refuseClassSize_1 : decode cX10_refuseClassSize 1 = .ok (.iconst 1, 1) := by decide +kernel
theorem dX10_refuseClassSize_2 : decode cX10_refuseClassSize 2 = .ok (.if_icmp .lt 9, 3) := by decide +kernel
theorem dX10_refuseClassSize_5 : decode cX10_refuseClassSize 5 = .ok (.iload_n 1, 1) := by decide +kernel
theorem dX10_refuseClassSize_6 : decode cX10_refuseClassSize 6 = .ok (.bipush 64, 2) := by decide +kernel
theorem dX10_refuseClassSize_8 : decode cX10_refuseClassSize 8 = .ok (.if_icmp .le 14, 3) := by decide +kernel
theorem dX10_refuseClassSize_11 : decode cX10_refuseClassSize 11 = .ok (.new 73, 3) := by decide +kernel
theorem dX10_refuseClassSize_14 : decode cX10_refuseClassSize 14 = .ok (.dup, 1) := by decide +kernel
theorem dX10_refuseClassSize_15 : decode cX10_refuseClassSize 15 = .ok (.ldc_w 344, 3) := by decide +kernel
theorem dX10_refuseClassSize_18 : decode cX10_refuseClassSize 18 = .ok (.invokespecial 77, 3) := by decide +kernel
theorem dX10_refuseClassSize_21 : decode cX10_refuseClassSize 21 = .ok (.athrow, 1) := by decide +kernel
theorem dX10_refuseClassSize_22 : decode cX10_refuseClassSize 22 = .ok (.return_, 1) := by decide +kernel
theorem dX10_refuseNoWord_0 : decode cX10_refuseNoWord 0 = .ok (.aload_n 0, 1) := by decide +kernel
theorem dX10_refuseNoWord_1 : decode cX10_refuseNoWord 1 = .ok (.getfield 18, 3) := by decide +kernel
theorem dX10_refuseNoWord_4 : decode cX10_refuseNoWord 4 = .ok (.getfield 80, 3) := by decide +kernel
theorem dX10_refuseNoWord_7 : decode cX10_refuseNoWord 7 = .ok (.ifCond .eq 13, 3) := by decide +kernel
theorem dX10_refuseNoWord_10 : decode cX10_refuseNoWord 10 = .ok (.aload_n 0, 1) := by decide +kernel
theorem dX10_refuseNoWord_11 : decode cX10_refuseNoWord 11 = .ok (.getfield 18, 3) := by decide +kernel
theorem dX10_refuseNoWord_14 : decode cX10_refuseNoWord 14 = .ok (.invokevirtual 105, 3) := by decide +kernel
theorem dX10_refuseNoWord_17 : decode cX10_refuseNoWord 17 = .ok (.ifCond .eq 14, 3) := by decide +kernel
theorem dX10_refuseNoWord_20 : decode cX10_refuseNoWord 20 = .ok (.new 109, 3) := by decide +kernel
theorem dX10_refuseNoWord_23 : decode cX10_refuseNoWord 23 = .ok (.dup, 1) := by decide +kernel
theorem dX10_refuseNoWord_24 : decode cX10_refuseNoWord 24 = .ok (.ldc_w 346, 3) := by decide +kernel
theorem dX10_refuseNoWord_27 : decode cX10_refuseNoWord 27 = .ok (.invokespecial 113, 3) := by decide +kernel
theorem dX10_refuseNoWord_30 : decode cX10_refuseNoWord 30 = .ok (.athrow, 1) := by decide +kernel
theorem dX10_refuseNoWord_31 : decode cX10_refuseNoWord 31 = .ok (.return_, 1) := by decide +kernel
theorem dX10_leastRank_0 : decode cX10_leastRank 0 = .ok (.aload_n 1, 1) := by decide +kernel
theorem dX10_leastRank_1 : decode cX10_leastRank 1 = .ok (.aload_n 0, 1) := by decide +kernel
theorem dX10_leastRank_2 : decode cX10_leastRank 2 = .ok (.getfield 18, 3) := by decide +kernel
theorem dX10_leastRank_5 : decode cX10_leastRank 5 = .ok (.iconst 0, 1) := by decide +kernel
theorem dX10_leastRank_6 : decode cX10_leastRank 6 = .ok (.invokevirtual 199, 3) := by decide +kernel
theorem dX10_leastRank_9 : decode cX10_leastRank 9 = .ok (.istore_n 2, 1) := by decide +kernel
theorem dX10_leastRank_10 : decode cX10_leastRank 10 = .ok (.iload_n 2, 1) := by decide +kernel
theorem dX10_leastRank_11 : decode cX10_leastRank 11 = .ok (.aload_n 1, 1) := by decide +kernel
theorem dX10_leastRank_12 : decode cX10_leastRank 12 = .ok (.aload_n 0, 1) := by decide +kernel
theorem dX10_leastRank_13 : decode cX10_leastRank 13 = .ok (.getfield 18, 3) := by decide +kernel
theorem dX10_leastRank_16 : decode cX10_leastRank 16 = .ok (.iconst 0, 1) := by decide +kernel
theorem dX10_leastRank_17 : decode cX10_leastRank 17 = .ok (.invokevirtual 195, 3) := by decide +kernel
theorem dX10_leastRank_20 : decode cX10_leastRank 20 = .ok (.if_icmp .lt 14, 3) := by decide +kernel
theorem dX10_leastRank_23 : decode cX10_leastRank 23 = .ok (.new 97, 3) := by decide +kernel
theorem dX10_leastRank_26 : decode cX10_leastRank 26 = .ok (.dup, 1) := by decide +kernel
theorem dX10_leastRank_27 : decode cX10_leastRank 27 = .ok (.ldc_w 348, 3) := by decide +kernel
theorem dX10_leastRank_30 : decode cX10_leastRank 30 = .ok (.invokespecial 101, 3) := by decide +kernel
theorem dX10_leastRank_33 : decode cX10_leastRank 33 = .ok (.athrow, 1) := by decide +kernel
theorem dX10_leastRank_34 : decode cX10_leastRank 34 = .ok (.iload_n 2, 1) := by decide +kernel
theorem dX10_leastRank_35 : decode cX10_leastRank 35 = .ok (.ireturn, 1) := by decide +kernel
theorem dX10_freshText_0 : decode cX10_freshText 0 = .ok (.aload_n 0, 1) := by decide +kernel
theorem dX10_freshText_1 : decode cX10_freshText 1 = .ok (.getfield 235, 3) := by decide +kernel
theorem dX10_freshText_4 : decode cX10_freshText 4 = .ok (.bipush 8, 2) := by decide +kernel
theorem dX10_freshText_6 : decode cX10_freshText 6 = .ok (.if_icmp .lt 14, 3) := by decide +kernel
theorem dX10_freshText_9 : decode cX10_freshText 9 = .ok (.new 84, 3) := by decide +kernel
theorem dX10_freshText_12 : decode cX10_freshText 12 = .ok (.dup, 1) := by decide +kernel
theorem dX10_freshText_13 : decode cX10_freshText 13 = .ok (.ldc_w 350, 3) := by decide +kernel
theorem dX10_freshText_16 : decode cX10_freshText 16 = .ok (.invokespecial 88, 3) := by decide +kernel
theorem dX10_freshText_19 : decode cX10_freshText 19 = .ok (.athrow, 1) := by decide +kernel
theorem dX10_freshText_20 : decode cX10_freshText 20 = .ok (.aload_n 0, 1) := by decide +kernel
theorem dX10_freshText_21 : decode cX10_freshText 21 = .ok (.getfield 11, 3) := by decide +kernel
theorem dX10_freshText_24 : decode cX10_freshText 24 = .ok (.aload_n 0, 1) := by decide +kernel
theorem dX10_freshText_25 : decode cX10_freshText 25 = .ok (.getfield 235, 3) := by decide +kernel
theorem dX10_freshText_28 : decode cX10_freshText 28 = .ok (.aaload, 1) := by decide +kernel
theorem dX10_freshText_29 : decode cX10_freshText 29 = .ok (.areturn, 1) := by decide +kernel
theorem dX10_keep_0 : decode cX10_keep 0 = .ok (.aload_n 0, 1) := by decide +kernel
theorem dX10_keep_1 : decode cX10_keep 1 = .ok (.getfield 29, 3) := by decide +kernel
theorem dX10_keep_4 : decode cX10_keep 4 = .ok (.aload_n 1, 1) := by decide +kernel
theorem dX10_keep_5 : decode cX10_keep 5 = .ok (.invokevirtual 149, 3) := by decide +kernel
theorem dX10_keep_8 : decode cX10_keep 8 = .ok (.aload_n 0, 1) := by decide +kernel
theorem dX10_keep_9 : decode cX10_keep 9 = .ok (.dup, 1) := by decide +kernel
theorem dX10_keep_10 : decode cX10_keep 10 = .ok (.getfield 235, 3) := by decide +kernel
theorem dX10_keep_13 : decode cX10_keep 13 = .ok (.iconst 1, 1) := by decide +kernel
theorem dX10_keep_14 : decode cX10_keep 14 = .ok (.iadd, 1) := by decide +kernel
theorem dX10_keep_15 : decode cX10_keep 15 = .ok (.putfield 235, 3) := by decide +kernel
theorem dX10_keep_18 : decode cX10_keep 18 = .ok (.aload_n 0, 1) := by decide +kernel
theorem dX10_keep_19 : decode cX10_keep 19 = .ok (.getfield 235, 3) := by decide +kernel
theorem dX10_keep_22 : decode cX10_keep 22 = .ok (.iconst 1, 1) := by decide +kernel
theorem dX10_keep_23 : decode cX10_keep 23 = .ok (.isub, 1) := by decide +kernel
theorem dX10_keep_24 : decode cX10_keep 24 = .ok (.ireturn, 1) := by decide +kernel
theorem dX11_init_0 : decode cX11_init 0 = .ok (.aload_n 0, 1) := by decide +kernel
theorem dX11_init_1 : decode cX11_init 1 = .ok (.invokespecial 1, 3) := by decide +kernel
theorem dX11_init_4 : decode cX11_init 4 = .ok (.aload_n 0, 1) := by decide +kernel
theorem dX11_init_5 : decode cX11_init 5 = .ok (.sipush 576, 3) := by decide +kernel
theorem dX11_init_8 : decode cX11_init 8 = .ok (.newarray .char, 2) := by decide +kernel
theorem dX11_init_10 : decode cX11_init 10 = .ok (.putfield 7, 3) := by decide +kernel
theorem dX11_init_13 : decode cX11_init 13 = .ok (.aload_n 0, 1) := by decide +kernel
theorem dX11_init_14 : decode cX11_init 14 = .ok (.bipush 9, 2) := by decide +kernel
theorem dX11_init_16 : decode cX11_init 16 = .ok (.newarray .int, 2) := by decide +kernel
theorem dX11_init_18 : decode cX11_init 18 = .ok (.putfield 13, 3) := by decide +kernel
theorem dX11_init_21 : decode cX11_init 21 = .ok (.aload_n 0, 1) := by decide +kernel
theorem dX11_init_22 : decode cX11_init 22 = .ok (.bipush 65, 2) := by decide +kernel
theorem dX11_init_24 : decode cX11_init 24 = .ok (.newarray .char, 2) := by decide +kernel
theorem dX11_init_26 : decode cX11_init 26 = .ok (.putfield 17, 3) := by decide +kernel
theorem dX11_init_29 : decode cX11_init 29 = .ok (.aload_n 0, 1) := by decide +kernel
theorem dX11_init_30 : decode cX11_init 30 = .ok (.bipush 64, 2) := by decide +kernel
theorem dX11_init_32 : decode cX11_init 32 = .ok (.newarray .int, 2) := by decide +kernel
theorem dX11_init_34 : decode cX11_init 34 = .ok (.putfield 20, 3) := by decide +kernel
theorem dX11_init_37 : decode cX11_init 37 = .ok (.aload_n 0, 1) := by decide +kernel
theorem dX11_init_38 : decode cX11_init 38 = .ok (.bipush 65, 2) := by decide +kernel
theorem dX11_init_40 : decode cX11_init 40 = .ok (.newarray .int, 2) := by decide +kernel
theorem dX11_init_42 : decode cX11_init 42 = .ok (.putfield 23, 3) := by decide +kernel
theorem dX11_init_45 : decode cX11_init 45 = .ok (.aload_n 0, 1) := by decide +kernel
theorem dX11_init_46 : decode cX11_init 46 = .ok (.bipush 64, 2) := by decide +kernel
theorem dX11_init_48 : decode cX11_init 48 = .ok (.newarray .int, 2) := by decide +kernel
theorem dX11_init_50 : decode cX11_init 50 = .ok (.putfield 26, 3) := by decide +kernel
theorem dX11_init_53 : decode cX11_init 53 = .ok (.aload_n 0, 1) := by decide +kernel
theorem dX11_init_54 : decode cX11_init 54 = .ok (.bipush 65, 2) := by decide +kernel
theorem dX11_init_56 : decode cX11_init 56 = .ok (.newarray .int, 2) := by decide +kernel
theorem dX11_init_58 : decode cX11_init 58 = .ok (.putfield 29, 3) := by decide +kernel
theorem dX11_init_61 : decode cX11_init 61 = .ok (.aload_n 0, 1) := by decide +kernel
theorem dX11_init_62 : decode cX11_init 62 = .ok (.bipush 27, 2) := by decide +kernel
theorem dX11_init_64 : decode cX11_init 64 = .ok (.newarray .char, 2) := by decide +kernel
theorem dX11_init_66 : decode cX11_init 66 = .ok (.putfield 32, 3) := by decide +kernel
theorem dX11_init_69 : decode cX11_init 69 = .ok (.return_, 1) := by decide +kernel
theorem dX11_thrown_0 : decode cX11_thrown 0 = .ok (.aload_n 0, 1) := by decide +kernel
theorem dX11_thrown_1 : decode cX11_thrown 1 = .ok (.getfield 35, 3) := by decide +kernel
theorem dX11_thrown_4 : decode cX11_thrown 4 = .ok (.ireturn, 1) := by decide +kernel
theorem dX11_isWrong_0 : decode cX11_isWrong 0 = .ok (.aload_n 0, 1) := by decide +kernel
theorem dX11_isWrong_1 : decode cX11_isWrong 1 = .ok (.iload_n 1, 1) := by decide +kernel
theorem dX11_isWrong_2 : decode cX11_isWrong 2 = .ok (.putfield 35, 3) := by decide +kernel
theorem dX11_isWrong_5 : decode cX11_isWrong 5 = .ok (.iload_n 1, 1) := by decide +kernel
theorem dX11_isWrong_6 : decode cX11_isWrong 6 = .ok (.ifCond .eq 7, 3) := by decide +kernel
theorem dX11_isWrong_9 : decode cX11_isWrong 9 = .ok (.iconst 1, 1) := by decide +kernel
theorem dX11_isWrong_10 : decode cX11_isWrong 10 = .ok (.goto 4, 3) := by decide +kernel
theorem dX11_isWrong_13 : decode cX11_isWrong 13 = .ok (.iconst 0, 1) := by decide +kernel
theorem dX11_isWrong_14 : decode cX11_isWrong 14 = .ok (.ireturn, 1) := by decide +kernel
theorem dX11_isBetween_0 : decode cX11_isBetween 0 = .ok (.iload_n 0, 1) := by decide +kernel
theorem dX11_isBetween_1 : decode cX11_isBetween 1 = .ok (.iload_n 1, 1) := by decide +kernel
theorem dX11_isBetween_2 : decode cX11_isBetween 2 = .ok (.if_icmp .lt 12, 3) := by decide +kernel
theorem dX11_isBetween_5 : decode cX11_isBetween 5 = .ok (.iload_n 0, 1) := by decide +kernel
theorem dX11_isBetween_6 : decode cX11_isBetween 6 = .ok (.iload_n 2, 1) := by decide +kernel
theorem dX11_isBetween_7 : decode cX11_isBetween 7 = .ok (.if_icmp .gt 7, 3) := by decide +kernel
theorem dX11_isBetween_10 : decode cX11_isBetween 10 = .ok (.iconst 1, 1) := by decide +kernel
theorem dX11_isBetween_11 : decode cX11_isBetween 11 = .ok (.goto 4, 3) := by decide +kernel
theorem dX11_isBetween_14 : decode cX11_isBetween 14 = .ok (.iconst 0, 1) := by decide +kernel
theorem dX11_isBetween_15 : decode cX11_isBetween 15 = .ok (.ireturn, 1) := by decide +kernel
theorem dX11_isText_0 : decode cX11_isText 0 = .ok (.iload_n 1, 1) := by decide +kernel
theorem dX11_isText_1 : decode cX11_isText 1 = .ok (.iconst 0, 1) := by decide +kernel
theorem dX11_isText_2 : decode cX11_isText 2 = .ok (.aload_n 0, 1) := by decide +kernel
theorem dX11_isText_3 : decode cX11_isText 3 = .ok (.getfield 39, 3) := by decide +kernel
theorem dX11_isText_6 : decode cX11_isText 6 = .ok (.iconst 1, 1) := by decide +kernel
theorem dX11_isText_7 : decode cX11_isText 7 = .ok (.isub, 1) := by decide +kernel
theorem dX11_isText_8 : decode cX11_isText 8 = .ok (.invokestatic 42, 3) := by decide +kernel
theorem dX11_isText_11 : decode cX11_isText 11 = .ok (.ireturn, 1) := by decide +kernel
theorem dX11_isPlace_0 : decode cX11_isPlace 0 = .ok (.aload_n 0, 1) := by decide +kernel
theorem dX11_isPlace_1 : decode cX11_isPlace 1 = .ok (.iload_n 1, 1) := by decide +kernel
theorem dX11_isPlace_2 : decode cX11_isPlace 2 = .ok (.invokevirtual 46, 3) := by decide +kernel
theorem dX11_isPlace_5 : decode cX11_isPlace 5 = .ok (.ifCond .eq 23, 3) := by decide +kernel
theorem dX11_isPlace_8 : decode cX11_isPlace 8 = .ok (.iload_n 2, 1) := by decide +kernel
theorem dX11_isPlace_9 : decode cX11_isPlace 9 = .ok (.iconst 0, 1) := by decide +kernel
theorem dX11_isPlace_10 : decode cX11_isPlace 10 = .ok (.aload_n 0, 1) := by decide +kernel
theorem dX11_isPlace_11 : decode cX11_isPlace 11 = .ok (.getfield 13, 3) := by decide +kernel
theorem dX11_isPlace_14 : decode cX11_isPlace 14 = .ok (.iload_n 1, 1) := by decide +kernel
theorem dX11_isPlace_15 : decode cX11_isPlace 15 = .ok (.iaload, 1) := by decide +kernel
theorem dX11_isPlace_16 : decode cX11_isPlace 16 = .ok (.iconst 1, 1) := by decide +kernel
theorem dX11_isPlace_17 : decode cX11_isPlace 17 = .ok (.isub, 1) := by decide +kernel
theorem dX11_isPlace_18 : decode cX11_isPlace 18 = .ok (.invokestatic 42, 3) := by decide +kernel
theorem dX11_isPlace_21 : decode cX11_isPlace 21 = .ok (.ifCond .eq 7, 3) := by decide +kernel
theorem dX11_isPlace_24 : decode cX11_isPlace 24 = .ok (.iconst 1, 1) := by decide +kernel
theorem dX11_isPlace_25 : decode cX11_isPlace 25 = .ok (.goto 4, 3) := by decide +kernel
theorem dX11_isPlace_28 : decode cX11_isPlace 28 = .ok (.iconst 0, 1) := by decide +kernel
theorem dX11_isPlace_29 : decode cX11_isPlace 29 = .ok (.ireturn, 1) := by decide +kernel
theorem dX11_isLetter_0 : decode cX11_isLetter 0 = .ok (.iload_n 0, 1) := by decide +kernel
theorem dX11_isLetter_1 : decode cX11_isLetter 1 = .ok (.bipush 97, 2) := by decide +kernel
theorem dX11_isLetter_3 : decode cX11_isLetter 3 = .ok (.if_icmp .lt 13, 3) := by decide +kernel
theorem dX11_isLetter_6 : decode cX11_isLetter 6 = .ok (.iload_n 0, 1) := by decide +kernel
theorem dX11_isLetter_7 : decode cX11_isLetter 7 = .ok (.bipush 122, 2) := by decide +kernel
theorem dX11_isLetter_9 : decode cX11_isLetter 9 = .ok (.if_icmp .gt 7, 3) := by decide +kernel
theorem dX11_isLetter_12 : decode cX11_isLetter 12 = .ok (.iconst 1, 1) := by decide +kernel
theorem dX11_isLetter_13 : decode cX11_isLetter 13 = .ok (.goto 4, 3) := by decide +kernel
theorem dX11_isLetter_16 : decode cX11_isLetter 16 = .ok (.iconst 0, 1) := by decide +kernel
theorem dX11_isLetter_17 : decode cX11_isLetter 17 = .ok (.ireturn, 1) := by decide +kernel
theorem dX11_type_0 : decode cX11_type 0 = .ok (.aload_n 0, 1) := by decide +kernel
theorem dX11_type_1 : decode cX11_type 1 = .ok (.iload_n 1, 1) := by decide +kernel
theorem dX11_type_2 : decode cX11_type 2 = .ok (.invokestatic 50, 3) := by decide +kernel
theorem dX11_type_5 : decode cX11_type 5 = .ok (.ifCond .ne 13, 3) := by decide +kernel
theorem dX11_type_8 : decode cX11_type 8 = .ok (.iload_n 1, 1) := by decide +kernel
theorem dX11_type_9 : decode cX11_type 9 = .ok (.bipush 36, 2) := by decide +kernel
theorem dX11_type_11 : decode cX11_type 11 = .ok (.if_icmp .eq 7, 3) := by decide +kernel
theorem dX11_type_14 : decode cX11_type 14 = .ok (.iconst 1, 1) := by decide +kernel
theorem dX11_type_15 : decode cX11_type 15 = .ok (.goto 17, 3) := by decide +kernel
theorem dX11_type_18 : decode cX11_type 18 = .ok (.aload_n 0, 1) := by decide +kernel
theorem dX11_type_19 : decode cX11_type 19 = .ok (.getfield 54, 3) := by decide +kernel
theorem dX11_type_22 : decode cX11_type 22 = .ok (.bipush 65, 2) := by decide +kernel
theorem dX11_type_24 : decode cX11_type 24 = .ok (.if_icmp .ne 7, 3) := by decide +kernel
theorem dX11_type_27 : decode cX11_type 27 = .ok (.iconst 2, 1) := by decide +kernel
theorem dX11_type_28 : decode cX11_type 28 = .ok (.goto 4, 3) := by decide +kernel
theorem dX11_type_31 : decode cX11_type 31 = .ok (.iconst 0, 1) := by decide +kernel
theorem dX11_type_32 : decode cX11_type 32 = .ok (.invokevirtual 57, 3) := by decide +kernel
theorem dX11_type_35 : decode cX11_type 35 = .ok (.ifCond .eq 5, 3) := by decide +kernel
theorem dX11_type_38 : decode cX11_type 38 = .ok (.iconst 0, 1) := by decide +kernel
theorem dX11_type_39 : decode cX11_type 39 = .ok (.ireturn, 1) := by decide +kernel
theorem dX11_type_40 : decode cX11_type 40 = .ok (.aload_n 0, 1) := by decide +kernel
theorem dX11_type_41 : decode cX11_type 41 = .ok (.getfield 17, 3) := by decide +kernel
theorem dX11_type_44 : decode cX11_type 44 = .ok (.aload_n 0, 1) := by decide +kernel
theorem dX11_type_45 : decode cX11_type 45 = .ok (.getfield 54, 3) := by decide +kernel
theorem dX11_type_48 : decode cX11_type 48 = .ok (.iload_n 1, 1) := by decide +kernel
theorem dX11_type_49 : decode cX11_type 49 = .ok (.castore, 1) := by decide +kernel
theorem dX11_type_50 : decode cX11_type 50 = .ok (.aload_n 0, 1) := by decide +kernel
theorem dX11_type_51 : decode cX11_type 51 = .ok (.dup, 1) := by decide +kernel
theorem dX11_type_52 : decode cX11_type 52 = .ok (.getfield 54, 3) := by decide +kernel
theorem dX11_type_55 : decode cX11_type 55 = .ok (.iconst 1, 1) := by decide +kernel
theorem dX11_type_56 : decode cX11_type 56 = .ok (.iadd, 1) := by decide +kernel
theorem dX11_type_57 : decode cX11_type 57 = .ok (.putfield 54, 3) := by decide +kernel
theorem dX11_type_60 : decode cX11_type 60 = .ok (.aload_n 0, 1) := by decide +kernel
theorem dX11_type_61 : decode cX11_type 61 = .ok (.getfield 54, 3) := by decide +kernel
theorem dX11_type_64 : decode cX11_type 64 = .ok (.ireturn, 1) := by decide +kernel
theorem dX11_of_0 : decode cX11_of 0 = .ok (.iload_n 0, 1) := by decide +kernel
theorem dX11_of_1 : decode cX11_of 1 = .ok (.iconst 4, 1) := by decide +kernel
theorem dX11_of_2 : decode cX11_of 2 = .ok (.if_icmp .ge 32, 3) := by decide +kernel
theorem dX11_of_5 : decode cX11_of 5 = .ok (.iload_n 0, 1) := by decide +kernel
theorem dX11_of_6 : decode cX11_of 6 = .ok (.ifCond .ne 7, 3) := by decide +kernel
theorem dX11_of_9 : decode cX11_of 9 = .ok (.iload_n 1, 1) := by decide +kernel
theorem dX11_of_10 : decode cX11_of 10 = .ok (.goto 23, 3) := by decide +kernel
theorem dX11_of_13 : decode cX11_of 13 = .ok (.iload_n 0, 1) := by decide +kernel
theorem dX11_of_14 : decode cX11_of 14 = .ok (.iconst 1, 1) := by decide +kernel
theorem dX11_of_15 : decode cX11_of 15 = .ok (.if_icmp .ne 7, 3) := by decide +kernel
theorem dX11_of_18 : decode cX11_of 18 = .ok (.iload_n 2, 1) := by decide +kernel
theorem dX11_of_19 : decode cX11_of 19 = .ok (.goto 14, 3) := by decide +kernel
theorem dX11_of_22 : decode cX11_of 22 = .ok (.iload_n 0, 1) := by decide +kernel
theorem dX11_of_23 : decode cX11_of 23 = .ok (.iconst 2, 1) := by decide +kernel
theorem dX11_of_24 : decode cX11_of 24 = .ok (.if_icmp .ne 7, 3) := by decide +kernel
theorem dX11_of_27 : decode cX11_of 27 = .ok (.iload_n 3, 1) := by decide +kernel
theorem dX11_of_28 : decode cX11_of 28 = .ok (.goto 5, 3) := by decide +kernel
theorem dX11_of_31 : decode cX11_of 31 = .ok (.iload 4, 2) := by decide +kernel
theorem dX11_of_33 : decode cX11_of 33 = .ok (.ireturn, 1) := by decide +kernel
theorem dX11_of_34 : decode cX11_of 34 = .ok (.iload_n 0, 1) := by decide +kernel
theorem dX11_of_35 : decode cX11_of 35 = .ok (.iconst 4, 1) := by decide +kernel
theorem dX11_of_36 : decode cX11_of 36 = .ok (.if_icmp .ne 8, 3) := by decide +kernel
theorem dX11_of_39 : decode cX11_of 39 = .ok (.iload 5, 2) := by decide +kernel
theorem dX11_of_41 : decode cX11_of 41 = .ok (.goto 26, 3) := by decide +kernel
theorem dX11_of_44 : decode cX11_of 44 = .ok (.iload_n 0, 1) := by decide +kernel
theorem dX11_of_45 : decode cX11_of 45 = .ok (.iconst 5, 1) := by decide +kernel
theorem dX11_of_46 : decode cX11_of 46 = .ok (.if_icmp .ne 8, 3) := by decide +kernel
theorem dX11_of_49 : decode cX11_of 49 = .ok (.iload 6, 2) := by decide +kernel
theorem dX11_of_51 : decode cX11_of 51 = .ok (.goto 16, 3) := by decide +kernel
theorem dX11_of_54 : decode cX11_of 54 = .ok (.iload_n 0, 1) := by decide +kernel
theorem dX11_of_55 : decode cX11_of 55 = .ok (.bipush 6, 2) := by decide +kernel
theorem dX11_of_57 : decode cX11_of 57 = .ok (.if_icmp .ne 8, 3) := by decide +kernel
theorem dX11_of_60 : decode cX11_of 60 = .ok (.iload 7, 2) := by decide +kernel
theorem dX11_of_62 : decode cX11_of 62 = .ok (.goto 5, 3) := by decide +kernel
theorem dX11_of_65 : decode cX11_of 65 = .ok (.iload 8, 2) := by decide +kernel
theorem dX11_of_67 : decode cX11_of 67 = .ok (.ireturn, 1) := by decide +kernel
theorem dX11_typeMore_0 : decode cX11_typeMore 0 = .ok (.iload_n 1, 1) := by decide +kernel
theorem dX11_typeMore_1 : decode cX11_typeMore 1 = .ok (.iconst 1, 1) := by decide +kernel
theorem dX11_typeMore_2 : decode cX11_typeMore 2 = .ok (.bipush 8, 2) := by decide +kernel
theorem dX11_typeMore_4 : decode cX11_typeMore 4 = .ok (.invokestatic 42, 3) := by decide +kernel
theorem dX11_typeMore_7 : decode cX11_typeMore 7 = .ok (.istore 10, 2) := by decide +kernel
theorem dX11_typeMore_9 : decode cX11_typeMore 9 = .ok (.iconst 0, 1) := by decide +kernel
theorem dX11_typeMore_10 : decode cX11_typeMore 10 = .ok (.istore 11, 2) := by decide +kernel
theorem dX11_typeMore_12 : decode cX11_typeMore 12 = .ok (.iload 10, 2) := by decide +kernel
theorem dX11_typeMore_14 : decode cX11_typeMore 14 = .ok (.ifCond .eq 58, 3) := by decide +kernel
theorem dX11_typeMore_17 : decode cX11_typeMore 17 = .ok (.iload 11, 2) := by decide +kernel
theorem dX11_typeMore_19 : decode cX11_typeMore 19 = .ok (.iload_n 1, 1) := by decide +kernel
theorem dX11_typeMore_20 : decode cX11_typeMore 20 = .ok (.if_icmp .ge 52, 3) := by decide +kernel
theorem dX11_typeMore_23 : decode cX11_typeMore 23 = .ok (.iload 11, 2) := by decide +kernel
theorem dX11_typeMore_25 : decode cX11_typeMore 25 = .ok (.iload_n 2, 1) := by decide +kernel
theorem dX11_typeMore_26 : decode cX11_typeMore 26 = .ok (.iload_n 3, 1) := by decide +kernel
theorem dX11_typeMore_27 : decode cX11_typeMore 27 = .ok (.iload 4, 2) := by decide +kernel
theorem dX11_typeMore_29 : decode cX11_typeMore 29 = .ok (.iload 5, 2) := by decide +kernel
theorem dX11_typeMore_31 : decode cX11_typeMore 31 = .ok (.iload 6, 2) := by decide +kernel
theorem dX11_typeMore_33 : decode cX11_typeMore 33 = .ok (.iload 7, 2) := by decide +kernel
theorem dX11_typeMore_35 : decode cX11_typeMore 35 = .ok (.iload 8, 2) := by decide +kernel
theorem dX11_typeMore_37 : decode cX11_typeMore 37 = .ok (.iload 9, 2) := by decide +kernel
theorem dX11_typeMore_39 : decode cX11_typeMore 39 = .ok (.invokestatic 60, 3) := by decide +kernel
theorem dX11_typeMore_42 : decode cX11_typeMore 42 = .ok (.istore 12, 2) := by decide +kernel
theorem dX11_typeMore_44 : decode cX11_typeMore 44 = .ok (.iload 12, 2) := by decide +kernel
theorem dX11_typeMore_46 : decode cX11_typeMore 46 = .ok (.invokestatic 50, 3) := by decide +kernel
theorem dX11_typeMore_49 : decode cX11_typeMore 49 = .ok (.ifCond .ne 10, 3) := by decide +kernel
theorem dX11_typeMore_52 : decode cX11_typeMore 52 = .ok (.iload 12, 2) := by decide +kernel
theorem dX11_typeMore_54 : decode cX11_typeMore 54 = .ok (.bipush 36, 2) := by decide +kernel
theorem dX11_typeMore_56 : decode cX11_typeMore 56 = .ok (.if_icmp .ne 7, 3) := by decide +kernel
theorem dX11_typeMore_59 : decode cX11_typeMore 59 = .ok (.iconst 1, 1) := by decide +kernel
theorem dX11_typeMore_60 : decode cX11_typeMore 60 = .ok (.goto 4, 3) := by decide +kernel
theorem dX11_typeMore_63 : decode cX11_typeMore 63 = .ok (.iconst 0, 1) := by decide +kernel
theorem dX11_typeMore_64 : decode cX11_typeMore 64 = .ok (.istore 10, 2) := by decide +kernel
theorem dX11_typeMore_66 : decode cX11_typeMore 66 = .ok (.iinc 11 1, 3) := by decide +kernel
theorem dX11_typeMore_69 : decode cX11_typeMore 69 = .ok (.goto (-57), 3) := by decide +kernel
theorem dX11_typeMore_72 : decode cX11_typeMore 72 = .ok (.aload_n 0, 1) := by decide +kernel
theorem dX11_typeMore_73 : decode cX11_typeMore 73 = .ok (.iload 10, 2) := by decide +kernel
theorem dX11_typeMore_75 : decode cX11_typeMore 75 = .ok (.ifCond .ne 7, 3) := by decide +kernel
theorem dX11_typeMore_78 : decode cX11_typeMore 78 = .ok (.iconst 1, 1) := by decide +kernel
theorem dX11_typeMore_79 : decode cX11_typeMore 79 = .ok (.goto 19, 3) := by decide +kernel
theorem dX11_typeMore_82 : decode cX11_typeMore 82 = .ok (.aload_n 0, 1) := by decide +kernel
theorem dX11_typeMore_83 : decode cX11_typeMore 83 = .ok (.getfield 54, 3) := by decide +kernel
theorem dX11_typeMore_86 : decode cX11_typeMore 86 = .ok (.iload_n 1, 1) := by decide +kernel
theorem dX11_typeMore_87 : decode cX11_typeMore 87 = .ok (.iadd, 1) := by decide +kernel
theorem dX11_typeMore_88 : decode cX11_typeMore 88 = .ok (.bipush 65, 2) := by decide +kernel
theorem dX11_typeMore_90 : decode cX11_typeMore 90 = .ok (.if_icmp .le 7, 3) := by decide +kernel
theorem dX11_typeMore_93 : decode cX11_typeMore 93 = .ok (.iconst 2, 1) := by decide +kernel
theorem dX11_typeMore_94 : decode cX11_typeMore 94 = .ok (.goto 4, 3) := by decide +kernel
theorem dX11_typeMore_97 : decode cX11_typeMore 97 = .ok (.iconst 0, 1) := by decide +kernel
theorem dX11_typeMore_98 : decode cX11_typeMore 98 = .ok (.invokevirtual 57, 3) := by decide +kernel
theorem dX11_typeMore_101 : decode cX11_typeMore 101 = .ok (.ifCond .eq 5, 3) := by decide +kernel
theorem dX11_typeMore_104 : decode cX11_typeMore 104 = .ok (.iconst 0, 1) := by decide +kernel
theorem dX11_typeMore_105 : decode cX11_typeMore 105 = .ok (.ireturn, 1) := by decide +kernel
theorem dX11_typeMore_106 : decode cX11_typeMore 106 = .ok (.iconst 0, 1) := by decide +kernel
theorem dX11_typeMore_107 : decode cX11_typeMore 107 = .ok (.istore 11, 2) := by decide +kernel
theorem dX11_typeMore_109 : decode cX11_typeMore 109 = .ok (.iload 11, 2) := by decide +kernel
theorem dX11_typeMore_111 : decode cX11_typeMore 111 = .ok (.iload_n 1, 1) := by decide +kernel
theorem dX11_typeMore_112 : decode cX11_typeMore 112 = .ok (.if_icmp .ge 47, 3) := by decide +kernel
theorem dX11_typeMore_115 : decode cX11_typeMore 115 = .ok (.aload_n 0, 1) := by decide +kernel
theorem dX11_typeMore_116 : decode cX11_typeMore 116 = .ok (.getfield 17, 3) := by decide +kernel
theorem dX11_typeMore_119 : decode cX11_typeMore 119 = .ok (.aload_n 0, 1) := by decide +kernel
theorem dX11_typeMore_120 : decode cX11_typeMore 120 = .ok (.getfield 54, 3) := by decide +kernel
theorem dX11_typeMore_123 : decode cX11_typeMore 123 = .ok (.iload 11, 2) := by decide +kernel
theorem dX11_typeMore_125 : decode cX11_typeMore 125 = .ok (.iload_n 2, 1) := by decide +kernel
theorem dX11_typeMore_126 : decode cX11_typeMore 126 = .ok (.iload_n 3, 1) := by decide +kernel
theorem dX11_typeMore_127 : decode cX11_typeMore 127 = .ok (.iload 4, 2) := by decide +kernel
theorem dX11_typeMore_129 : decode cX11_typeMore 129 = .ok (.iload 5, 2) := by decide +kernel
theorem dX11_typeMore_131 : decode cX11_typeMore 131 = .ok (.iload 6, 2) := by decide +kernel
theorem dX11_typeMore_133 : decode cX11_typeMore 133 = .ok (.iload 7, 2) := by decide +kernel
theorem dX11_typeMore_135 : decode cX11_typeMore 135 = .ok (.iload 8, 2) := by decide +kernel
theorem dX11_typeMore_137 : decode cX11_typeMore 137 = .ok (.iload 9, 2) := by decide +kernel
theorem dX11_typeMore_139 : decode cX11_typeMore 139 = .ok (.invokestatic 60, 3) := by decide +kernel
theorem dX11_typeMore_142 : decode cX11_typeMore 142 = .ok (.castore, 1) := by decide +kernel
theorem dX11_typeMore_143 : decode cX11_typeMore 143 = .ok (.aload_n 0, 1) := by decide +kernel
theorem dX11_typeMore_144 : decode cX11_typeMore 144 = .ok (.dup, 1) := by decide +kernel
theorem dX11_typeMore_145 : decode cX11_typeMore 145 = .ok (.getfield 54, 3) := by decide +kernel
theorem dX11_typeMore_148 : decode cX11_typeMore 148 = .ok (.iconst 1, 1) := by decide +kernel
theorem dX11_typeMore_149 : decode cX11_typeMore 149 = .ok (.iadd, 1) := by decide +kernel
theorem dX11_typeMore_150 : decode cX11_typeMore 150 = .ok (.putfield 54, 3) := by decide +kernel
theorem dX11_typeMore_153 : decode cX11_typeMore 153 = .ok (.iinc 11 1, 3) := by decide +kernel
theorem dX11_typeMore_156 : decode cX11_typeMore 156 = .ok (.goto (-47), 3) := by decide +kernel
theorem dX11_typeMore_159 : decode cX11_typeMore 159 = .ok (.aload_n 0, 1) := by decide +kernel
theorem dX11_typeMore_160 : decode cX11_typeMore 160 = .ok (.getfield 54, 3) := by decide +kernel
theorem dX11_typeMore_163 : decode cX11_typeMore 163 = .ok (.ireturn, 1) := by decide +kernel
theorem dX11_wipe_0 : decode cX11_wipe 0 = .ok (.aload_n 0, 1) := by decide +kernel
theorem dX11_wipe_1 : decode cX11_wipe 1 = .ok (.iconst 0, 1) := by decide +kernel
theorem dX11_wipe_2 : decode cX11_wipe 2 = .ok (.putfield 35, 3) := by decide +kernel
theorem dX11_wipe_5 : decode cX11_wipe 5 = .ok (.aload_n 0, 1) := by decide +kernel
theorem dX11_wipe_6 : decode cX11_wipe 6 = .ok (.getfield 54, 3) := by decide +kernel
theorem dX11_wipe_9 : decode cX11_wipe 9 = .ok (.istore_n 1, 1) := by decide +kernel
theorem dX11_wipe_10 : decode cX11_wipe 10 = .ok (.aload_n 0, 1) := by decide +kernel
theorem dX11_wipe_11 : decode cX11_wipe 11 = .ok (.iconst 0, 1) := by decide +kernel
theorem dX11_wipe_12 : decode cX11_wipe 12 = .ok (.putfield 54, 3) := by decide +kernel
theorem dX11_wipe_15 : decode cX11_wipe 15 = .ok (.iload_n 1, 1) := by decide +kernel
theorem dX11_wipe_16 : decode cX11_wipe 16 = .ok (.ireturn, 1) := by decide +kernel
theorem dX11_typed_0 : decode cX11_typed 0 = .ok (.aload_n 0, 1) := by decide +kernel
theorem dX11_typed_1 : decode cX11_typed 1 = .ok (.iload_n 1, 1) := by decide +kernel
theorem dX11_typed_2 : decode cX11_typed 2 = .ok (.iconst 0, 1) := by decide +kernel
theorem dX11_typed_3 : decode cX11_typed 3 = .ok (.aload_n 0, 1) := by decide +kernel
theorem dX11_typed_4 : decode cX11_typed 4 = .ok (.getfield 54, 3) := by decide +kernel
theorem dX11_typed_7 : decode cX11_typed 7 = .ok (.iconst 1, 1) := by decide +kernel
theorem dX11_typed_8 : decode cX11_typed 8 = .ok (.isub, 1) := by decide +kernel
theorem dX11_typed_9 : decode cX11_typed 9 = .ok (.invokestatic 42, 3) := by decide +kernel
theorem dX11_typed_12 : decode cX11_typed 12 = .ok (.ifCond .eq 7, 3) := by decide +kernel
theorem dX11_typed_15 : decode cX11_typed 15 = .ok (.iconst 0, 1) := by decide +kernel
theorem dX11_typed_16 : decode cX11_typed 16 = .ok (.goto 4, 3) := by decide +kernel
theorem dX11_typed_19 : decode cX11_typed 19 = .ok (.iconst 1, 1) := by decide +kernel
theorem dX11_typed_20 : decode cX11_typed 20 = .ok (.invokevirtual 57, 3) := by decide +kernel
theorem dX11_typed_23 : decode cX11_typed 23 = .ok (.ifCond .eq 7, 3) := by decide +kernel
theorem dX11_typed_26 : decode cX11_typed 26 = .ok (.iconst 0, 1) := by decide +kernel
theorem dX11_typed_27 : decode cX11_typed 27 = .ok (.goto 9, 3) := by decide +kernel
theorem dX11_typed_30 : decode cX11_typed 30 = .ok (.aload_n 0, 1) := by decide +kernel
theorem dX11_typed_31 : decode cX11_typed 31 = .ok (.getfield 17, 3) := by decide +kernel
theorem dX11_typed_34 : decode cX11_typed 34 = .ok (.iload_n 1, 1) := by decide +kernel
theorem dX11_typed_35 : decode cX11_typed 35 = .ok (.caload, 1) := by decide +kernel
theorem dX11_typed_36 : decode cX11_typed 36 = .ok (.ireturn, 1) := by decide +kernel
theorem dX11_hasEnd_0 : decode cX11_hasEnd 0 = .ok (.iconst 0, 1) := by decide +kernel
theorem dX11_hasEnd_1 : decode cX11_hasEnd 1 = .ok (.istore_n 1, 1) := by decide +kernel
theorem dX11_hasEnd_2 : decode cX11_hasEnd 2 = .ok (.iload_n 1, 1) := by decide +kernel
theorem dX11_hasEnd_3 : decode cX11_hasEnd 3 = .ok (.aload_n 0, 1) := by decide +kernel
theorem dX11_hasEnd_4 : decode cX11_hasEnd 4 = .ok (.getfield 54, 3) := by decide +kernel
theorem dX11_hasEnd_7 : decode cX11_hasEnd 7 = .ok (.if_icmp .ge 22, 3) := by decide +kernel
theorem dX11_hasEnd_10 : decode cX11_hasEnd 10 = .ok (.aload_n 0, 1) := by decide +kernel
theorem dX11_hasEnd_11 : decode cX11_hasEnd 11 = .ok (.getfield 17, 3) := by decide +kernel
theorem dX11_hasEnd_14 : decode cX11_hasEnd 14 = .ok (.iload_n 1, 1) := by decide +kernel
theorem dX11_hasEnd_15 : decode cX11_hasEnd 15 = .ok (.caload, 1) := by decide +kernel
theorem dX11_hasEnd_16 : decode cX11_hasEnd 16 = .ok (.bipush 36, 2) := by decide +kernel
theorem dX11_hasEnd_18 : decode cX11_hasEnd 18 = .ok (.if_icmp .ne 5, 3) := by decide +kernel
theorem dX11_hasEnd_21 : decode cX11_hasEnd 21 = .ok (.iconst 1, 1) := by decide +kernel
theorem dX11_hasEnd_22 : decode cX11_hasEnd 22 = .ok (.ireturn, 1) := by decide +kernel
