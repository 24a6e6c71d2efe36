theorem dX11_first_9 : decode cX11_first 9 = .ok (.iconst 0, 1) := by decide +kernel
theorem dX11_first_10 : decode cX11_first 10 = .ok (.goto 14, 3) := by decide +kernel
theorem dX11_first_13 : decode cX11_first 13 = .ok (.aload_n 0, 1) := by decide +kernel
theorem dX11_first_14 : decode cX11_first 14 = .ok (.iload_n 1, 1) := by decide +kernel
theorem dX11_first_15 : decode cX11_first 15 = .ok (.aload_n 0, 1) := by decide +kernel
theorem dX11_first_16 : decode cX11_first 16 = .ok (.getfield 23, 3) := by decide +kernel
theorem dX11_first_19 : decode cX11_first 19 = .ok (.iload_n 2, 1) := by decide +kernel
theorem dX11_first_20 : decode cX11_first 20 = .ok (.iaload, 1) := by decide +kernel
theorem dX11_first_21 : decode cX11_first 21 = .ok (.invokevirtual 148, 3) := by decide +kernel
theorem dX11_first_24 : decode cX11_first 24 = .ok (.ireturn, 1) := by decide +kernel
theorem dX11_last_0 : decode cX11_last 0 = .ok (.aload_n 0, 1) := by decide +kernel
theorem dX11_last_1 : decode cX11_last 1 = .ok (.iload_n 1, 1) := by decide +kernel
theorem dX11_last_2 : decode cX11_last 2 = .ok (.iload_n 2, 1) := by decide +kernel
theorem dX11_last_3 : decode cX11_last 3 = .ok (.invokevirtual 158, 3) := by decide +kernel
theorem dX11_last_6 : decode cX11_last 6 = .ok (.ifCond .eq 7, 3) := by decide +kernel
theorem dX11_last_9 : decode cX11_last 9 = .ok (.iconst 0, 1) := by decide +kernel
theorem dX11_last_10 : decode cX11_last 10 = .ok (.goto 9, 3) := by decide +kernel
theorem dX11_last_13 : decode cX11_last 13 = .ok (.aload_n 0, 1) := by decide +kernel
theorem dX11_last_14 : decode cX11_last 14 = .ok (.iload_n 1, 1) := by decide +kernel
theorem dX11_last_15 : decode cX11_last 15 = .ok (.iload_n 2, 1) := by decide +kernel
theorem dX11_last_16 : decode cX11_last 16 = .ok (.invokevirtual 161, 3) := by decide +kernel
theorem dX11_last_19 : decode cX11_last 19 = .ok (.ireturn, 1) := by decide +kernel
theorem dX11_back_0 : decode cX11_back 0 = .ok (.aload_n 0, 1) := by decide +kernel
theorem dX11_back_1 : decode cX11_back 1 = .ok (.iload_n 1, 1) := by decide +kernel
theorem dX11_back_2 : decode cX11_back 2 = .ok (.iload_n 2, 1) := by decide +kernel
theorem dX11_back_3 : decode cX11_back 3 = .ok (.invokevirtual 158, 3) := by decide +kernel
theorem dX11_back_6 : decode cX11_back 6 = .ok (.ifCond .eq 5, 3) := by decide +kernel
theorem dX11_back_9 : decode cX11_back 9 = .ok (.iconst 0, 1) := by decide +kernel
theorem dX11_back_10 : decode cX11_back 10 = .ok (.ireturn, 1) := by decide +kernel
theorem dX11_back_11 : decode cX11_back 11 = .ok (.aload_n 0, 1) := by decide +kernel
theorem dX11_back_12 : decode cX11_back 12 = .ok (.getfield 23, 3) := by decide +kernel
theorem dX11_back_15 : decode cX11_back 15 = .ok (.iload_n 2, 1) := by decide +kernel
theorem dX11_back_16 : decode cX11_back 16 = .ok (.iaload, 1) := by decide +kernel
theorem dX11_back_17 : decode cX11_back 17 = .ok (.aload_n 0, 1) := by decide +kernel
theorem dX11_back_18 : decode cX11_back 18 = .ok (.getfield 13, 3) := by decide +kernel
theorem dX11_back_21 : decode cX11_back 21 = .ok (.iload_n 1, 1) := by decide +kernel
theorem dX11_back_22 : decode cX11_back 22 = .ok (.iaload, 1) := by decide +kernel
theorem dX11_back_23 : decode cX11_back 23 = .ok (.iadd, 1) := by decide +kernel
theorem dX11_back_24 : decode cX11_back 24 = .ok (.aload_n 0, 1) := by decide +kernel
theorem dX11_back_25 : decode cX11_back 25 = .ok (.getfield 13, 3) := by decide +kernel
theorem dX11_back_28 : decode cX11_back 28 = .ok (.iload_n 1, 1) := by decide +kernel
theorem dX11_back_29 : decode cX11_back 29 = .ok (.iaload, 1) := by decide +kernel
theorem dX11_back_30 : decode cX11_back 30 = .ok (.iconst 1, 1) := by decide +kernel
theorem dX11_back_31 : decode cX11_back 31 = .ok (.iadd, 1) := by decide +kernel
theorem dX11_back_32 : decode cX11_back 32 = .ok (.irem, 1) := by decide +kernel
theorem dX11_back_33 : decode cX11_back 33 = .ok (.istore_n 3, 1) := by decide +kernel
theorem dX11_back_34 : decode cX11_back 34 = .ok (.iconst 0, 1) := by decide +kernel
theorem dX11_back_35 : decode cX11_back 35 = .ok (.istore 4, 2) := by decide +kernel
theorem dX11_back_37 : decode cX11_back 37 = .ok (.aload_n 0, 1) := by decide +kernel
theorem dX11_back_38 : decode cX11_back 38 = .ok (.getfield 23, 3) := by decide +kernel
theorem dX11_back_41 : decode cX11_back 41 = .ok (.iload 4, 2) := by decide +kernel
theorem dX11_back_43 : decode cX11_back 43 = .ok (.iaload, 1) := by decide +kernel
theorem dX11_back_44 : decode cX11_back 44 = .ok (.iload_n 3, 1) := by decide +kernel
theorem dX11_back_45 : decode cX11_back 45 = .ok (.if_icmp .eq 9, 3) := by decide +kernel
theorem dX11_back_48 : decode cX11_back 48 = .ok (.iinc 4 1, 3) := by decide +kernel
theorem dX11_back_51 : decode cX11_back 51 = .ok (.goto (-14), 3) := by decide +kernel
theorem dX11_back_54 : decode cX11_back 54 = .ok (.iload 4, 2) := by decide +kernel
theorem dX11_back_56 : decode cX11_back 56 = .ok (.ireturn, 1) := by decide +kernel
theorem dX11_runs_0 : decode cX11_runs 0 = .ok (.aload_n 0, 1) := by decide +kernel
theorem dX11_runs_1 : decode cX11_runs 1 = .ok (.iload_n 1, 1) := by decide +kernel
theorem dX11_runs_2 : decode cX11_runs 2 = .ok (.iconst 0, 1) := by decide +kernel
theorem dX11_runs_3 : decode cX11_runs 3 = .ok (.invokevirtual 158, 3) := by decide +kernel
theorem dX11_runs_6 : decode cX11_runs 6 = .ok (.ifCond .eq 5, 3) := by decide +kernel
theorem dX11_runs_9 : decode cX11_runs 9 = .ok (.iconst 0, 1) := by decide +kernel
theorem dX11_runs_10 : decode cX11_runs 10 = .ok (.ireturn, 1) := by decide +kernel
theorem dX11_runs_11 : decode cX11_runs 11 = .ok (.iconst 1, 1) := by decide +kernel
theorem dX11_runs_12 : decode cX11_runs 12 = .ok (.istore_n 2, 1) := by decide +kernel
theorem dX11_runs_13 : decode cX11_runs 13 = .ok (.iconst 1, 1) := by decide +kernel
theorem dX11_runs_14 : decode cX11_runs 14 = .ok (.istore_n 3, 1) := by decide +kernel
theorem dX11_runs_15 : decode cX11_runs 15 = .ok (.iload_n 3, 1) := by decide +kernel
theorem dX11_runs_16 : decode cX11_runs 16 = .ok (.aload_n 0, 1) := by decide +kernel
theorem dX11_runs_17 : decode cX11_runs 17 = .ok (.getfield 13, 3) := by decide +kernel
theorem dX11_runs_20 : decode cX11_runs 20 = .ok (.iload_n 1, 1) := by decide +kernel
theorem dX11_runs_21 : decode cX11_runs 21 = .ok (.iaload, 1) := by decide +kernel
theorem dX11_runs_22 : decode cX11_runs 22 = .ok (.if_icmp .gt 34, 3) := by decide +kernel
theorem dX11_runs_25 : decode cX11_runs 25 = .ok (.iload_n 2, 1) := by decide +kernel
theorem dX11_runs_26 : decode cX11_runs 26 = .ok (.aload_n 0, 1) := by decide +kernel
theorem dX11_runs_27 : decode cX11_runs 27 = .ok (.iload_n 1, 1) := by decide +kernel
theorem dX11_runs_28 : decode cX11_runs 28 = .ok (.iload_n 3, 1) := by decide +kernel
theorem dX11_runs_29 : decode cX11_runs 29 = .ok (.invokevirtual 161, 3) := by decide +kernel
theorem dX11_runs_32 : decode cX11_runs 32 = .ok (.aload_n 0, 1) := by decide +kernel
theorem dX11_runs_33 : decode cX11_runs 33 = .ok (.iload_n 1, 1) := by decide +kernel
theorem dX11_runs_34 : decode cX11_runs 34 = .ok (.iload_n 3, 1) := by decide +kernel
theorem dX11_runs_35 : decode cX11_runs 35 = .ok (.iconst 1, 1) := by decide +kernel
theorem dX11_runs_36 : decode cX11_runs 36 = .ok (.isub, 1) := by decide +kernel
theorem dX11_runs_37 : decode cX11_runs 37 = .ok (.invokevirtual 161, 3) := by decide +kernel
theorem dX11_runs_40 : decode cX11_runs 40 = .ok (.if_icmp .ne 7, 3) := by decide +kernel
theorem dX11_runs_43 : decode cX11_runs 43 = .ok (.iconst 0, 1) := by decide +kernel
theorem dX11_runs_44 : decode cX11_runs 44 = .ok (.goto 4, 3) := by decide +kernel
theorem dX11_runs_47 : decode cX11_runs 47 = .ok (.iconst 1, 1) := by decide +kernel
theorem dX11_runs_48 : decode cX11_runs 48 = .ok (.iadd, 1) := by decide +kernel
theorem dX11_runs_49 : decode cX11_runs 49 = .ok (.istore_n 2, 1) := by decide +kernel
theorem dX11_runs_50 : decode cX11_runs 50 = .ok (.iinc 3 1, 3) := by decide +kernel
theorem dX11_runs_53 : decode cX11_runs 53 = .ok (.goto (-38), 3) := by decide +kernel
theorem dX11_runs_56 : decode cX11_runs 56 = .ok (.iload_n 2, 1) := by decide +kernel
theorem dX11_runs_57 : decode cX11_runs 57 = .ok (.ireturn, 1) := by decide +kernel
theorem dX11_front_0 : decode cX11_front 0 = .ok (.aload_n 0, 1) := by decide +kernel
theorem dX11_front_1 : decode cX11_front 1 = .ok (.iload_n 1, 1) := by decide +kernel
theorem dX11_front_2 : decode cX11_front 2 = .ok (.iload_n 2, 1) := by decide +kernel
theorem dX11_front_3 : decode cX11_front 3 = .ok (.invokevirtual 158, 3) := by decide +kernel
theorem dX11_front_6 : decode cX11_front 6 = .ok (.ifCond .eq 5, 3) := by decide +kernel
theorem dX11_front_9 : decode cX11_front 9 = .ok (.iconst 0, 1) := by decide +kernel
theorem dX11_front_10 : decode cX11_front 10 = .ok (.ireturn, 1) := by decide +kernel
theorem dX11_front_11 : decode cX11_front 11 = .ok (.aload_n 0, 1) := by decide +kernel
theorem dX11_front_12 : decode cX11_front 12 = .ok (.getfield 32, 3) := by decide +kernel
theorem dX11_front_15 : decode cX11_front 15 = .ok (.iconst 0, 1) := by decide +kernel
theorem dX11_front_16 : decode cX11_front 16 = .ok (.bipush 36, 2) := by decide +kernel
theorem dX11_front_18 : decode cX11_front 18 = .ok (.castore, 1) := by decide +kernel
theorem dX11_front_19 : decode cX11_front 19 = .ok (.iconst 1, 1) := by decide +kernel
theorem dX11_front_20 : decode cX11_front 20 = .ok (.istore_n 3, 1) := by decide +kernel
theorem dX11_front_21 : decode cX11_front 21 = .ok (.iload_n 3, 1) := by decide +kernel
theorem dX11_front_22 : decode cX11_front 22 = .ok (.bipush 27, 2) := by decide +kernel
theorem dX11_front_24 : decode cX11_front 24 = .ok (.if_icmp .ge 22, 3) := by decide +kernel
theorem dX11_front_27 : decode cX11_front 27 = .ok (.aload_n 0, 1) := by decide +kernel
theorem dX11_front_28 : decode cX11_front 28 = .ok (.getfield 32, 3) := by decide +kernel
theorem dX11_front_31 : decode cX11_front 31 = .ok (.iload_n 3, 1) := by decide +kernel
theorem dX11_front_32 : decode cX11_front 32 = .ok (.bipush 97, 2) := by decide +kernel
theorem dX11_front_34 : decode cX11_front 34 = .ok (.iload_n 3, 1) := by decide +kernel
theorem dX11_front_35 : decode cX11_front 35 = .ok (.iadd, 1) := by decide +kernel
theorem dX11_front_36 : decode cX11_front 36 = .ok (.iconst 1, 1) := by decide +kernel
theorem dX11_front_37 : decode cX11_front 37 = .ok (.isub, 1) := by decide +kernel
theorem dX11_front_38 : decode cX11_front 38 = .ok (.i2c, 1) := by decide +kernel
theorem dX11_front_39 : decode cX11_front 39 = .ok (.castore, 1) := by decide +kernel
theorem dX11_front_40 : decode cX11_front 40 = .ok (.iinc 3 1, 3) := by decide +kernel
theorem dX11_front_43 : decode cX11_front 43 = .ok (.goto (-22), 3) := by decide +kernel
theorem dX11_front_46 : decode cX11_front 46 = .ok (.iconst 0, 1) := by decide +kernel
theorem dX11_front_47 : decode cX11_front 47 = .ok (.istore_n 3, 1) := by decide +kernel
theorem dX11_front_48 : decode cX11_front 48 = .ok (.iconst 0, 1) := by decide +kernel
theorem dX11_front_49 : decode cX11_front 49 = .ok (.istore 4, 2) := by decide +kernel
theorem dX11_front_51 : decode cX11_front 51 = .ok (.iload 4, 2) := by decide +kernel
theorem dX11_front_53 : decode cX11_front 53 = .ok (.iload_n 2, 1) := by decide +kernel
theorem dX11_front_54 : decode cX11_front 54 = .ok (.if_icmp .gt 76, 3) := by decide +kernel
theorem dX11_front_57 : decode cX11_front 57 = .ok (.iconst 0, 1) := by decide +kernel
theorem dX11_front_58 : decode cX11_front 58 = .ok (.istore_n 3, 1) := by decide +kernel
theorem dX11_front_59 : decode cX11_front 59 = .ok (.aload_n 0, 1) := by decide +kernel
theorem dX11_front_60 : decode cX11_front 60 = .ok (.getfield 32, 3) := by decide +kernel
theorem dX11_front_63 : decode cX11_front 63 = .ok (.iload_n 3, 1) := by decide +kernel
theorem dX11_front_64 : decode cX11_front 64 = .ok (.caload, 1) := by decide +kernel
theorem dX11_front_65 : decode cX11_front 65 = .ok (.aload_n 0, 1) := by decide +kernel
theorem dX11_front_66 : decode cX11_front 66 = .ok (.iload_n 1, 1) := by decide +kernel
theorem dX11_front_67 : decode cX11_front 67 = .ok (.iload 4, 2) := by decide +kernel
theorem dX11_front_69 : decode cX11_front 69 = .ok (.invokevirtual 161, 3) := by decide +kernel
theorem dX11_front_72 : decode cX11_front 72 = .ok (.if_icmp .eq 9, 3) := by decide +kernel
theorem dX11_front_75 : decode cX11_front 75 = .ok (.iinc 3 1, 3) := by decide +kernel
theorem dX11_front_78 : decode cX11_front 78 = .ok (.goto (-19), 3) := by decide +kernel
theorem dX11_front_81 : decode cX11_front 81 = .ok (.iload_n 3, 1) := by decide +kernel
theorem dX11_front_82 : decode cX11_front 82 = .ok (.istore 5, 2) := by decide +kernel
theorem dX11_front_84 : decode cX11_front 84 = .ok (.iload 5, 2) := by decide +kernel
theorem dX11_front_86 : decode cX11_front 86 = .ok (.ifCond .le 25, 3) := by decide +kernel
theorem dX11_front_89 : decode cX11_front 89 = .ok (.aload_n 0, 1) := by decide +kernel
theorem dX11_front_90 : decode cX11_front 90 = .ok (.getfield 32, 3) := by decide +kernel
theorem dX11_front_93 : decode cX11_front 93 = .ok (.iload 5, 2) := by decide +kernel
theorem dX11_front_95 : decode cX11_front 95 = .ok (.aload_n 0, 1) := by decide +kernel
theorem dX11_front_96 : decode cX11_front 96 = .ok (.getfield 32, 3) := by decide +kernel
theorem dX11_front_99 : decode cX11_front 99 = .ok (.iload 5, 2) := by decide +kernel
theorem dX11_front_101 : decode cX11_front 101 = .ok (.iconst 1, 1) := by decide +kernel
theorem dX11_front_102 : decode cX11_front 102 = .ok (.isub, 1) := by decide +kernel
theorem dX11_front_103 : decode cX11_front 103 = .ok (.caload, 1) := by decide +kernel
theorem dX11_front_104 : decode cX11_front 104 = .ok (.castore, 1) := by decide +kernel
theorem dX11_front_105 : decode cX11_front 105 = .ok (.iinc 5 (-1), 3) := by decide +kernel
theorem dX11_front_108 : decode cX11_front 108 = .ok (.goto (-24), 3) := by decide +kernel
theorem dX11_front_111 : decode cX11_front 111 = .ok (.aload_n 0, 1) := by decide +kernel
theorem dX11_front_112 : decode cX11_front 112 = .ok (.getfield 32, 3) := by decide +kernel
theorem dX11_front_115 : decode cX11_front 115 = .ok (.iconst 0, 1) := by decide +kernel
theorem dX11_front_116 : decode cX11_front 116 = .ok (.aload_n 0, 1) := by decide +kernel
theorem dX11_front_117 : decode cX11_front 117 = .ok (.iload_n 1, 1) := by decide +kernel
theorem dX11_front_118 : decode cX11_front 118 = .ok (.iload 4, 2) := by decide +kernel
theorem dX11_front_120 : decode cX11_front 120 = .ok (.invokevirtual 161, 3) := by decide +kernel
theorem dX11_front_123 : decode cX11_front 123 = .ok (.castore, 1) := by decide +kernel
theorem dX11_front_124 : decode cX11_front 124 = .ok (.iinc 4 1, 3) := by decide +kernel
theorem dX11_front_127 : decode cX11_front 127 = .ok (.goto (-76), 3) := by decide +kernel
theorem dX11_front_130 : decode cX11_front 130 = .ok (.iload_n 3, 1) := by decide +kernel
theorem dX11_front_131 : decode cX11_front 131 = .ok (.ireturn, 1) := by decide +kernel
theorem dX11_column_0 : decode cX11_column 0 = .ok (.aload_n 0, 1) := by decide +kernel
theorem dX11_column_1 : decode cX11_column 1 = .ok (.iload_n 1, 1) := by decide +kernel
theorem dX11_column_2 : decode cX11_column 2 = .ok (.iconst 0, 1) := by decide +kernel
theorem dX11_column_3 : decode cX11_column 3 = .ok (.invokevirtual 158, 3) := by decide +kernel
theorem dX11_column_6 : decode cX11_column 6 = .ok (.ifCond .eq 5, 3) := by decide +kernel
theorem dX11_column_9 : decode cX11_column 9 = .ok (.iconst 0, 1) := by decide +kernel
theorem dX11_column_10 : decode cX11_column 10 = .ok (.ireturn, 1) := by decide +kernel
theorem dX11_column_11 : decode cX11_column 11 = .ok (.iconst 0, 1) := by decide +kernel
theorem dX11_column_12 : decode cX11_column 12 = .ok (.istore_n 2, 1) := by decide +kernel
theorem dX11_column_13 : decode cX11_column 13 = .ok (.iload_n 2, 1) := by decide +kernel
theorem dX11_column_14 : decode cX11_column 14 = .ok (.aload_n 0, 1) := by decide +kernel
theorem dX11_column_15 : decode cX11_column 15 = .ok (.getfield 13, 3) := by decide +kernel
theorem dX11_column_18 : decode cX11_column 18 = .ok (.iload_n 1, 1) := by decide +kernel
theorem dX11_column_19 : decode cX11_column 19 = .ok (.iaload, 1) := by decide +kernel
theorem dX11_column_20 : decode cX11_column 20 = .ok (.if_icmp .gt 21, 3) := by decide +kernel
theorem dX11_column_23 : decode cX11_column 23 = .ok (.aload_n 0, 1) := by decide +kernel
theorem dX11_column_24 : decode cX11_column 24 = .ok (.getfield 17, 3) := by decide +kernel
theorem dX11_column_27 : decode cX11_column 27 = .ok (.iload_n 2, 1) := by decide +kernel
theorem dX11_column_28 : decode cX11_column 28 = .ok (.aload_n 0, 1) := by decide +kernel
theorem dX11_column_29 : decode cX11_column 29 = .ok (.iload_n 1, 1) := by decide +kernel
theorem dX11_column_30 : decode cX11_column 30 = .ok (.iload_n 2, 1) := by decide +kernel
theorem dX11_column_31 : decode cX11_column 31 = .ok (.invokevirtual 161, 3) := by decide +kernel
theorem dX11_column_34 : decode cX11_column 34 = .ok (.castore, 1) := by decide +kernel
theorem dX11_column_35 : decode cX11_column 35 = .ok (.iinc 2 1, 3) := by decide +kernel
theorem dX11_column_38 : decode cX11_column 38 = .ok (.goto (-25), 3) := by decide +kernel
theorem dX11_column_41 : decode cX11_column 41 = .ok (.aload_n 0, 1) := by decide +kernel
theorem dX11_column_42 : decode cX11_column 42 = .ok (.aload_n 0, 1) := by decide +kernel
theorem dX11_column_43 : decode cX11_column 43 = .ok (.getfield 13, 3) := by decide +kernel
theorem dX11_column_46 : decode cX11_column 46 = .ok (.iload_n 1, 1) := by decide +kernel
theorem dX11_column_47 : decode cX11_column 47 = .ok (.iaload, 1) := by decide +kernel
theorem dX11_column_48 : decode cX11_column 48 = .ok (.iconst 1, 1) := by decide +kernel
theorem dX11_column_49 : decode cX11_column 49 = .ok (.iadd, 1) := by decide +kernel
theorem dX11_column_50 : decode cX11_column 50 = .ok (.putfield 54, 3) := by decide +kernel
theorem dX11_column_53 : decode cX11_column 53 = .ok (.aload_n 0, 1) := by decide +kernel
theorem dX11_column_54 : decode cX11_column 54 = .ok (.getfield 54, 3) := by decide +kernel
theorem dX11_column_57 : decode cX11_column 57 = .ok (.ireturn, 1) := by decide +kernel
theorem dX11_lays_0 : decode cX11_lays 0 = .ok (.iconst 0, 1) := by decide +kernel
theorem dX11_lays_1 : decode cX11_lays 1 = .ok (.istore_n 1, 1) := by decide +kernel
theorem dX11_lays_2 : decode cX11_lays 2 = .ok (.aload_n 0, 1) := by decide +kernel
theorem dX11_lays_3 : decode cX11_lays 3 = .ok (.getfield 13, 3) := by decide +kernel
theorem dX11_lays_6 : decode cX11_lays 6 = .ok (.aload_n 0, 1) := by decide +kernel
theorem dX11_lays_7 : decode cX11_lays 7 = .ok (.getfield 39, 3) := by decide +kernel
theorem dX11_lays_10 : decode cX11_lays 10 = .ok (.aload_n 0, 1) := by decide +kernel
theorem dX11_lays_11 : decode cX11_lays 11 = .ok (.getfield 54, 3) := by decide +kernel
theorem dX11_lays_14 : decode cX11_lays 14 = .ok (.iconst 1, 1) := by decide +kernel
theorem dX11_lays_15 : decode cX11_lays 15 = .ok (.isub, 1) := by decide +kernel
theorem dX11_lays_16 : decode cX11_lays 16 = .ok (.iastore, 1) := by decide +kernel
theorem dX11_lays_17 : decode cX11_lays 17 = .ok (.aload_n 0, 1) := by decide +kernel
theorem dX11_lays_18 : decode cX11_lays 18 = .ok (.getfield 54, 3) := by decide +kernel
theorem dX11_lays_21 : decode cX11_lays 21 = .ok (.iconst 2, 1) := by decide +kernel
theorem dX11_lays_22 : decode cX11_lays 22 = .ok (.isub, 1) := by decide +kernel
theorem dX11_lays_23 : decode cX11_lays 23 = .ok (.istore_n 2, 1) := by decide +kernel
theorem dX11_lays_24 : decode cX11_lays 24 = .ok (.iload_n 2, 1) := by decide +kernel
theorem dX11_lays_25 : decode cX11_lays 25 = .ok (.ifCond .lt 110, 3) := by decide +kernel
theorem dX11_lays_28 : decode cX11_lays 28 = .ok (.aload_n 0, 1) := by decide +kernel
theorem dX11_lays_29 : decode cX11_lays 29 = .ok (.getfield 17, 3) := by decide +kernel
theorem dX11_lays_32 : decode cX11_lays 32 = .ok (.iload_n 1, 1) := by decide +kernel
theorem dX11_lays_33 : decode cX11_lays 33 = .ok (.caload, 1) := by decide +kernel
theorem dX11_lays_34 : decode cX11_lays 34 = .ok (.bipush 36, 2) := by decide +kernel
theorem dX11_lays_36 : decode cX11_lays 36 = .ok (.if_icmp .ne 5, 3) := by decide +kernel
theorem dX11_lays_39 : decode cX11_lays 39 = .ok (.iconst 0, 1) := by decide +kernel
theorem dX11_lays_40 : decode cX11_lays 40 = .ok (.ireturn, 1) := by decide +kernel
theorem dX11_lays_41 : decode cX11_lays 41 = .ok (.aload_n 0, 1) := by decide +kernel
theorem dX11_lays_42 : decode cX11_lays 42 = .ok (.getfield 7, 3) := by decide +kernel
theorem dX11_lays_45 : decode cX11_lays 45 = .ok (.bipush 64, 2) := by decide +kernel
theorem dX11_lays_47 : decode cX11_lays 47 = .ok (.aload_n 0, 1) := by decide +kernel
theorem dX11_lays_48 : decode cX11_lays 48 = .ok (.getfield 39, 3) := by decide +kernel
theorem dX11_lays_51 : decode cX11_lays 51 = .ok (.imul, 1) := by decide +kernel
theorem dX11_lays_52 : decode cX11_lays 52 = .ok (.iload_n 2, 1) := by decide +kernel
theorem dX11_lays_53 : decode cX11_lays 53 = .ok (.iadd, 1) := by decide +kernel
theorem dX11_lays_54 : decode cX11_lays 54 = .ok (.aload_n 0, 1) := by decide +kernel
theorem dX11_lays_55 : decode cX11_lays 55 = .ok (.getfield 17, 3) := by decide +kernel
theorem dX11_lays_58 : decode cX11_lays 58 = .ok (.iload_n 1, 1) := by decide +kernel
theorem dX11_lays_59 : decode cX11_lays 59 = .ok (.caload, 1) := by decide +kernel
theorem dX11_lays_60 : decode cX11_lays 60 = .ok (.castore, 1) := by decide +kernel
theorem dX11_lays_61 : decode cX11_lays 61 = .ok (.iconst 0, 1) := by decide +kernel
theorem dX11_lays_62 : decode cX11_lays 62 = .ok (.istore_n 3, 1) := by decide +kernel
theorem dX11_lays_63 : decode cX11_lays 63 = .ok (.iconst 0, 1) := by decide +kernel
theorem dX11_lays_64 : decode cX11_lays 64 = .ok (.istore 4, 2) := by decide +kernel
theorem dX11_lays_66 : decode cX11_lays 66 = .ok (.iload 4, 2) := by decide +kernel
theorem dX11_lays_68 : decode cX11_lays 68 = .ok (.aload_n 0, 1) := by decide +kernel
theorem dX11_lays_69 : decode cX11_lays 69 = .ok (.getfield 54, 3) := by decide +kernel
theorem dX11_lays_72 : decode cX11_lays 72 = .ok (.if_icmp .ge 55, 3) := by decide +kernel
theorem dX11_lays_75 : decode cX11_lays 75 = .ok (.iload_n 3, 1) := by decide +kernel
theorem dX11_lays_76 : decode cX11_lays 76 = .ok (.aload_n 0, 1) := by decide +kernel
theorem dX11_lays_77 : decode cX11_lays 77 = .ok (.getfield 17, 3) := by decide +kernel
theorem dX11_lays_80 : decode cX11_lays 80 = .ok (.iload 4, 2) := by decide +kernel
theorem dX11_lays_82 : decode cX11_lays 82 = .ok (.caload, 1) := by decide +kernel
theorem dX11_lays_83 : decode cX11_lays 83 = .ok (.aload_n 0, 1) := by decide +kernel
theorem dX11_lays_84 : decode cX11_lays 84 = .ok (.getfield 17, 3) := by decide +kernel
theorem dX11_lays_87 : decode cX11_lays 87 = .ok (.iload_n 1, 1) := by decide +kernel
theorem dX11_lays_88 : decode cX11_lays 88 = .ok (.caload, 1) := by decide +kernel
theorem dX11_lays_89 : decode cX11_lays 89 = .ok (.if_icmp .lt 25, 3) := by decide +kernel
theorem dX11_lays_92 : decode cX11_lays 92 = .ok (.aload_n 0, 1) := by decide +kernel
theorem dX11_lays_93 : decode cX11_lays 93 = .ok (.getfield 17, 3) := by decide +kernel
theorem dX11_lays_96 : decode cX11_lays 96 = .ok (.iload 4, 2) := by decide +kernel
theorem dX11_lays_98 : decode cX11_lays 98 = .ok (.caload, 1) := by decide +kernel
theorem dX11_lays_99 : decode cX11_lays 99 = .ok (.aload_n 0, 1) := by decide +kernel
theorem dX11_lays_100 : decode cX11_lays 100 = .ok (.getfield 17, 3) := by decide +kernel
theorem dX11_lays_103 : decode cX11_lays 103 = .ok (.iload_n 1, 1) := by decide +kernel
theorem dX11_lays_104 : decode cX11_lays 104 = .ok (.caload, 1) := by decide +kernel
theorem dX11_lays_105 : decode cX11_lays 105 = .ok (.if_icmp .ne 13, 3) := by decide +kernel
theorem dX11_lays_108 : decode cX11_lays 108 = .ok (.iload 4, 2) := by decide +kernel
theorem dX11_lays_110 : decode cX11_lays 110 = .ok (.iload_n 1, 1) := by decide +kernel
theorem dX11_lays_111 : decode cX11_lays 111 = .ok (.if_icmp .ge 7, 3) := by decide +kernel
theorem dX11_lays_114 : decode cX11_lays 114 = .ok (.iconst 1, 1) := by decide +kernel
theorem dX11_lays_115 : decode cX11_lays 115 = .ok (.goto 4, 3) := by decide +kernel
theorem dX11_lays_118 : decode cX11_lays 118 = .ok (.iconst 0, 1) := by decide +kernel
theorem dX11_lays_119 : decode cX11_lays 119 = .ok (.iadd, 1) := by decide +kernel
theorem dX11_lays_120 : decode cX11_lays 120 = .ok (.istore_n 3, 1) := by decide +kernel
theorem dX11_lays_121 : decode cX11_lays 121 = .ok (.iinc 4 1, 3) := by decide +kernel
theorem dX11_lays_124 : decode cX11_lays 124 = .ok (.goto (-58), 3) := by decide +kernel
theorem dX11_lays_127 : decode cX11_lays 127 = .ok (.iload_n 3, 1) := by decide +kernel
theorem dX11_lays_128 : decode cX11_lays 128 = .ok (.istore_n 1, 1) := by decide +kernel
theorem dX11_lays_129 : decode cX11_lays 129 = .ok (.iinc 2 (-1), 3) := by decide +kernel
theorem dX11_lays_132 : decode cX11_lays 132 = .ok (.goto (-108), 3) := by decide +kernel
theorem dX11_lays_135 : decode cX11_lays 135 = .ok (.aload_n 0, 1) := by decide +kernel
theorem dX11_lays_136 : decode cX11_lays 136 = .ok (.aload_n 0, 1) := by decide +kernel
theorem dX11_lays_137 : decode cX11_lays 137 = .ok (.getfield 39, 3) := by decide +kernel
theorem dX11_lays_140 : decode cX11_lays 140 = .ok (.invokevirtual 155, 3) := by decide +kernel
theorem dX11_lays_143 : decode cX11_lays 143 = .ok (.iconst 0, 1) := by decide +kernel
theorem dX11_lays_144 : decode cX11_lays 144 = .ok (.istore_n 2, 1) := by decide +kernel
theorem dX11_lays_145 : decode cX11_lays 145 = .ok (.iload_n 2, 1) := by decide +kernel
theorem dX11_lays_146 : decode cX11_lays 146 = .ok (.aload_n 0, 1) := by decide +kernel
theorem dX11_lays_147 : decode cX11_lays 147 = .ok (.getfield 54, 3) := by decide +kernel
theorem dX11_lays_150 : decode cX11_lays 150 = .ok (.if_icmp .ge 29, 3) := by decide +kernel
theorem dX11_lays_153 : decode cX11_lays 153 = .ok (.aload_n 0, 1) := by decide +kernel
theorem dX11_lays_154 : decode cX11_lays 154 = .ok (.aload_n 0, 1) := by decide +kernel
theorem dX11_lays_155 : decode cX11_lays 155 = .ok (.getfield 39, 3) := by decide +kernel
theorem dX11_lays_158 : decode cX11_lays 158 = .ok (.iload_n 2, 1) := by decide +kernel
theorem dX11_lays_159 : decode cX11_lays 159 = .ok (.invokevirtual 161, 3) := by decide +kernel
theorem dX11_lays_162 : decode cX11_lays 162 = .ok (.aload_n 0, 1) := by decide +kernel
theorem dX11_lays_163 : decode cX11_lays 163 = .ok (.getfield 17, 3) := by decide +kernel
theorem dX11_lays_166 : decode cX11_lays 166 = .ok (.iload_n 2, 1) := by decide +kernel
theorem dX11_lays_167 : decode cX11_lays 167 = .ok (.caload, 1) := by decide +kernel
theorem dX11_lays_168 : decode cX11_lays 168 = .ok (.if_icmp .eq 5, 3) := by decide +kernel
theorem dX11_lays_171 : decode cX11_lays 171 = .ok (.iconst 0, 1) := by decide +kernel
theorem dX11_lays_172 : decode cX11_lays 172 = .ok (.ireturn, 1) := by decide +kernel
theorem dX11_lays_173 : decode cX11_lays 173 = .ok (.iinc 2 1, 3) := by decide +kernel
theorem dX11_lays_176 : decode cX11_lays 176 = .ok (.goto (-31), 3) := by decide +kernel
theorem dX11_lays_179 : decode cX11_lays 179 = .ok (.iconst 1, 1) := by decide +kernel
theorem dX11_lays_180 : decode cX11_lays 180 = .ok (.ireturn, 1) := by decide +kernel
theorem dX11_undo_0 : decode cX11_undo 0 = .ok (.aload_n 0, 1) := by decide +kernel
theorem dX11_undo_1 : decode cX11_undo 1 = .ok (.aload_n 0, 1) := by decide +kernel
theorem dX11_undo_2 : decode cX11_undo 2 = .ok (.getfield 54, 3) := by decide +kernel
theorem dX11_undo_5 : decode cX11_undo 5 = .ok (.ifCond .eq 10, 3) := by decide +kernel
theorem dX11_undo_8 : decode cX11_undo 8 = .ok (.aload_n 0, 1) := by decide +kernel
theorem dX11_undo_9 : decode cX11_undo 9 = .ok (.invokevirtual 164, 3) := by decide +kernel
theorem dX11_undo_12 : decode cX11_undo 12 = .ok (.ifCond .ne 7, 3) := by decide +kernel
theorem dX11_undo_15 : decode cX11_undo 15 = .ok (.iconst 1, 1) := by decide +kernel
theorem dX11_undo_16 : decode cX11_undo 16 = .ok (.goto 17, 3) := by decide +kernel
theorem dX11_undo_19 : decode cX11_undo 19 = .ok (.aload_n 0, 1) := by decide +kernel
theorem dX11_undo_20 : decode cX11_undo 20 = .ok (.getfield 39, 3) := by decide +kernel
theorem dX11_undo_23 : decode cX11_undo 23 = .ok (.bipush 8, 2) := by decide +kernel
theorem dX11_undo_25 : decode cX11_undo 25 = .ok (.if_icmp .ne 7, 3) := by decide +kernel
theorem dX11_undo_28 : decode cX11_undo 28 = .ok (.iconst 2, 1) := by decide +kernel
theorem dX11_undo_29 : decode cX11_undo 29 = .ok (.goto 4, 3) := by decide +kernel
theorem dX11_undo_32 : decode cX11_undo 32 = .ok (.iconst 0, 1) := by decide +kernel
theorem dX11_undo_33 : decode cX11_undo 33 = .ok (.invokevirtual 57, 3) := by decide +kernel
theorem dX11_undo_36 : decode cX11_undo 36 = .ok (.ifCond .eq 5, 3) := by decide +kernel
theorem dX11_undo_39 : decode cX11_undo 39 = .ok (.iconst 0, 1) := by decide +kernel
theorem dX11_undo_40 : decode cX11_undo 40 = .ok (.ireturn, 1) := by decide +kernel
theorem dX11_undo_41 : decode cX11_undo 41 = .ok (.aload_n 0, 1) := by decide +kernel
theorem dX11_undo_42 : decode cX11_undo 42 = .ok (.dup, 1) := by decide +kernel
theorem dX11_undo_43 : decode cX11_undo 43 = .ok (.getfield 39, 3) := by decide +kernel
theorem dX11_undo_46 : decode cX11_undo 46 = .ok (.iconst 1, 1) := by decide +kernel
theorem dX11_undo_47 : decode cX11_undo 47 = .ok (.iadd, 1) := by decide +kernel
theorem dX11_undo_48 : decode cX11_undo 48 = .ok (.putfield 39, 3) := by decide +kernel
theorem dX11_undo_51 : decode cX11_undo 51 = .ok (.aload_n 0, 1) := by decide +kernel
theorem dX11_undo_52 : decode cX11_undo 52 = .ok (.getfield 39, 3) := by decide +kernel
theorem dX11_undo_55 : decode cX11_undo 55 = .ok (.iconst 1, 1) := by decide +kernel
theorem dX11_undo_56 : decode cX11_undo 56 = .ok (.isub, 1) := by decide +kernel
theorem dX11_undo_57 : decode cX11_undo 57 = .ok (.ireturn, 1) := by decide +kernel
theorem dX11_isSquare_0 : decode cX11_isSquare 0 = .ok (.iload_n 2, 1) := by decide +kernel
theorem dX11_isSquare_1 : decode cX11_isSquare 1 = .ok (.iconst 2, 1) := by decide +kernel
theorem dX11_isSquare_2 : decode cX11_isSquare 2 = .ok (.iload_n 3, 1) := by decide +kernel
theorem dX11_isSquare_3 : decode cX11_isSquare 3 = .ok (.imul, 1) := by decide +kernel
theorem dX11_isSquare_4 : decode cX11_isSquare 4 = .ok (.iadd, 1) := by decide +kernel
theorem dX11_isSquare_5 : decode cX11_isSquare 5 = .ok (.aload_n 0, 1) := by decide +kernel
theorem dX11_isSquare_6 : decode cX11_isSquare 6 = .ok (.getfield 13, 3) := by decide +kernel
theorem dX11_isSquare_9 : decode cX11_isSquare 9 = .ok (.iload_n 1, 1) := by decide +kernel
theorem dX11_isSquare_10 : decode cX11_isSquare 10 = .ok (.iaload, 1) := by decide +kernel
theorem dX11_isSquare_11 : decode cX11_isSquare 11 = .ok (.if_icmp .gt 21, 3) := by decide +kernel
theorem dX11_isSquare_14 : decode cX11_isSquare 14 = .ok (.aload_n 0, 1) := by decide +kernel
theorem dX11_isSquare_15 : decode cX11_isSquare 15 = .ok (.iload_n 1, 1) := by decide +kernel
theorem dX11_isSquare_16 : decode cX11_isSquare 16 = .ok (.iload_n 2, 1) := by decide +kernel
theorem dX11_isSquare_17 : decode cX11_isSquare 17 = .ok (.iload_n 1, 1) := by decide +kernel
theorem dX11_isSquare_18 : decode cX11_isSquare 18 = .ok (.iload_n 2, 1) := by decide +kernel
theorem dX11_isSquare_19 : decode cX11_isSquare 19 = .ok (.iload_n 3, 1) := by decide +kernel
theorem dX11_isSquare_20 : decode cX11_isSquare 20 = .ok (.iadd, 1) := by decide +kernel
theorem dX11_isSquare_21 : decode cX11_isSquare 21 = .ok (.invokevirtual 102, 3) := by decide +kernel
theorem dX11_isSquare_24 : decode cX11_isSquare 24 = .ok (.iload_n 3, 1) := by decide +kernel
theorem dX11_isSquare_25 : decode cX11_isSquare 25 = .ok (.if_icmp .lt 7, 3) := by decide +kernel
theorem dX11_isSquare_28 : decode cX11_isSquare 28 = .ok (.iconst 1, 1) := by decide +kernel
theorem dX11_isSquare_29 : decode cX11_isSquare 29 = .ok (.goto 4, 3) := by decide +kernel
theorem dX11_isSquare_32 : decode cX11_isSquare 32 = .ok (.iconst 0, 1) := by decide +kernel
theorem dX11_isSquare_33 : decode cX11_isSquare 33 = .ok (.ireturn, 1) := by decide +kernel
theorem dX11_squares_0 : decode cX11_squares 0 = .ok (.aload_n 0, 1) := by decide +kernel
theorem dX11_squares_1 : decode cX11_squares 1 = .ok (.iload_n 1, 1) := by decide +kernel
theorem dX11_squares_2 : decode cX11_squares 2 = .ok (.invokevirtual 68, 3) := by decide +kernel
theorem dX11_squares_5 : decode cX11_squares 5 = .ok (.ifCond .eq 5, 3) := by decide +kernel
theorem dX11_squares_8 : decode cX11_squares 8 = .ok (.iconst 0, 1) := by decide +kernel
theorem dX11_squares_9 : decode cX11_squares 9 = .ok (.ireturn, 1) := by decide +kernel
theorem dX11_squares_10 : decode cX11_squares 10 = .ok (.iconst 0, 1) := by decide +kernel
theorem dX11_squares_11 : decode cX11_squares 11 = .ok (.istore_n 2, 1) := by decide +kernel
theorem dX11_squares_12 : decode cX11_squares 12 = .ok (.iconst 0, 1) := by decide +kernel
theorem dX11_squares_13 : decode cX11_squares 13 = .ok (.istore_n 3, 1) := by decide +kernel
theorem dX11_squares_14 : decode cX11_squares 14 = .ok (.iload_n 3, 1) := by decide +kernel
theorem dX11_squares_15 : decode cX11_squares 15 = .ok (.aload_n 0, 1) := by decide +kernel
theorem dX11_squares_16 : decode cX11_squares 16 = .ok (.getfield 13, 3) := by decide +kernel
theorem dX11_squares_19 : decode cX11_squares 19 = .ok (.iload_n 1, 1) := by decide +kernel
theorem dX11_squares_20 : decode cX11_squares 20 = .ok (.iaload, 1) := by decide +kernel
theorem dX11_squares_21 : decode cX11_squares 21 = .ok (.if_icmp .ge 44, 3) := by decide +kernel
theorem dX11_squares_24 : decode cX11_squares 24 = .ok (.iconst 1, 1) := by decide +kernel
theorem dX11_squares_25 : decode cX11_squares 25 = .ok (.istore 4, 2) := by decide +kernel
theorem dX11_squares_27 : decode cX11_squares 27 = .ok (.iload 4, 2) := by decide +kernel
theorem dX11_squares_29 : decode cX11_squares 29 = .ok (.bipush 32, 2) := by decide +kernel
theorem dX11_squares_31 : decode cX11_squares 31 = .ok (.if_icmp .gt 28, 3) := by decide +kernel
theorem dX11_squares_34 : decode cX11_squares 34 = .ok (.iload_n 2, 1) := by decide +kernel
theorem dX11_squares_35 : decode cX11_squares 35 = .ok (.aload_n 0, 1) := by decide +kernel
theorem dX11_squares_36 : decode cX11_squares 36 = .ok (.iload_n 1, 1) := by decide +kernel
theorem dX11_squares_37 : decode cX11_squares 37 = .ok (.iload_n 3, 1) := by decide +kernel
theorem dX11_squares_38 : decode cX11_squares 38 = .ok (.iload 4, 2) := by decide +kernel
theorem dX11_squares_40 : decode cX11_squares 40 = .ok (.invokevirtual 167, 3) := by decide +kernel
theorem dX11_squares_43 : decode cX11_squares 43 = .ok (.ifCond .eq 7, 3) := by decide +kernel
theorem dX11_squares_46 : decode cX11_squares 46 = .ok (.iconst 1, 1) := by decide +kernel
theorem dX11_squares_47 : decode cX11_squares 47 = .ok (.goto 4, 3) := by decide +kernel
theorem dX11_squares_50 : decode cX11_squares 50 = .ok (.iconst 0, 1) := by decide +kernel
theorem dX11_squares_51 : decode cX11_squares 51 = .ok (.iadd, 1) := by decide +kernel
theorem dX11_squares_52 : decode cX11_squares 52 = .ok (.istore_n 2, 1) := by decide +kernel
theorem dX11_squares_53 : decode cX11_squares 53 = .ok (.iinc 4 1, 3) := by decide +kernel
theorem dX11_squares_56 : decode cX11_squares 56 = .ok (.goto (-29), 3) := by decide +kernel
theorem dX11_squares_59 : decode cX11_squares 59 = .ok (.iinc 3 1, 3) := by decide +kernel
theorem dX11_squares_62 : decode cX11_squares 62 = .ok (.goto (-48), 3) := by decide +kernel
theorem dX11_squares_65 : decode cX11_squares 65 = .ok (.iload_n 2, 1) := by decide +kernel
theorem dX11_squares_66 : decode cX11_squares 66 = .ok (.ireturn, 1) := by decide +kernel
theorem dX11_squareAt_0 : decode cX11_squareAt 0 = .ok (.aload_n 0, 1) := by decide +kernel
theorem dX11_squareAt_1 : decode cX11_squareAt 1 = .ok (.iload_n 1, 1) := by decide +kernel
theorem dX11_squareAt_2 : decode cX11_squareAt 2 = .ok (.iload_n 2, 1) := by decide +kernel
theorem dX11_squareAt_3 : decode cX11_squareAt 3 = .ok (.invokevirtual 75, 3) := by decide +kernel
theorem dX11_squareAt_6 : decode cX11_squareAt 6 = .ok (.ifCond .eq 5, 3) := by decide +kernel
theorem dX11_squareAt_9 : decode cX11_squareAt 9 = .ok (.iconst 0, 1) := by decide +kernel
theorem dX11_squareAt_10 : decode cX11_squareAt 10 = .ok (.ireturn, 1) := by decide +kernel
theorem dX11_squareAt_11 : decode cX11_squareAt 11 = .ok (.iconst 1, 1) := by decide +kernel
theorem dX11_squareAt_12 : decode cX11_squareAt 12 = .ok (.istore_n 3, 1) := by decide +kernel
theorem dX11_squareAt_13 : decode cX11_squareAt 13 = .ok (.iload_n 3, 1) := by decide +kernel
theorem dX11_squareAt_14 : decode cX11_squareAt 14 = .ok (.bipush 32, 2) := by decide +kernel
theorem dX11_squareAt_16 : decode cX11_squareAt 16 = .ok (.if_icmp .gt 21, 3) := by decide +kernel
theorem dX11_squareAt_19 : decode cX11_squareAt 19 = .ok (.aload_n 0, 1) := by decide +kernel
theorem dX11_squareAt_20 : decode cX11_squareAt 20 = .ok (.iload_n 1, 1) := by decide +kernel
theorem dX11_squareAt_21 : decode cX11_squareAt 21 = .ok (.iload_n 2, 1) := by decide +kernel
theorem dX11_squareAt_22 : decode cX11_squareAt 22 = .ok (.iload_n 3, 1) := by decide +kernel
theorem dX11_squareAt_23 : decode cX11_squareAt 23 = .ok (.invokevirtual 167, 3) := by decide +kernel
theorem dX11_squareAt_26 : decode cX11_squareAt 26 = .ok (.ifCond .eq 5, 3) := by decide +kernel
theorem dX11_squareAt_29 : decode cX11_squareAt 29 = .ok (.iload_n 3, 1) := by decide +kernel
theorem dX11_squareAt_30 : decode cX11_squareAt 30 = .ok (.ireturn, 1) := by decide +kernel
theorem dX11_squareAt_31 : decode cX11_squareAt 31 = .ok (.iinc 3 1, 3) := by decide +kernel
theorem dX11_squareAt_34 : decode cX11_squareAt 34 = .ok (.goto (-21), 3) := by decide +kernel
theorem dX11_squareAt_37 : decode cX11_squareAt 37 = .ok (.aload_n 0, 1) := by decide +kernel
theorem dX11_squareAt_38 : decode cX11_squareAt 38 = .ok (.iconst 2, 1) := by decide +kernel
theorem dX11_squareAt_39 : decode cX11_squareAt 39 = .ok (.putfield 35, 3) := by decide +kernel
theorem dX11_squareAt_42 : decode cX11_squareAt 42 = .ok (.iconst 0, 1) := by decide +kernel
theorem dX11_squareAt_43 : decode cX11_squareAt 43 = .ok (.ireturn, 1) := by decide +kernel
theorem dX11_period_0 : decode cX11_period 0 = .ok (.aload_n 0, 1) := by decide +kernel
theorem dX11_period_1 : decode cX11_period 1 = .ok (.iload_n 1, 1) := by decide +kernel
theorem dX11_period_2 : decode cX11_period 2 = .ok (.invokevirtual 134, 3) := by decide +kernel
theorem dX11_period_5 : decode cX11_period 5 = .ok (.ifCond .eq 5, 3) := by decide +kernel
theorem dX11_period_8 : decode cX11_period 8 = .ok (.iconst 0, 1) := by decide +kernel
theorem dX11_period_9 : decode cX11_period 9 = .ok (.ireturn, 1) := by decide +kernel
theorem dX11_period_10 : decode cX11_period 10 = .ok (.iconst 1, 1) := by decide +kernel
theorem dX11_period_11 : decode cX11_period 11 = .ok (.istore_n 2, 1) := by decide +kernel
theorem dX11_period_12 : decode cX11_period 12 = .ok (.iload_n 2, 1) := by decide +kernel
theorem dX11_period_13 : decode cX11_period 13 = .ok (.aload_n 0, 1) := by decide +kernel
theorem dX11_period_14 : decode cX11_period 14 = .ok (.getfield 13, 3) := by decide +kernel
theorem dX11_period_17 : decode cX11_period 17 = .ok (.iload_n 1, 1) := by decide +kernel
theorem dX11_period_18 : decode cX11_period 18 = .ok (.iaload, 1) := by decide +kernel
theorem dX11_period_19 : decode cX11_period 19 = .ok (.if_icmp .ge 28, 3) := by decide +kernel
theorem dX11_period_22 : decode cX11_period 22 = .ok (.aload_n 0, 1) := by decide +kernel
theorem dX11_period_23 : decode cX11_period 23 = .ok (.iload_n 1, 1) := by decide +kernel
theorem dX11_period_24 : decode cX11_period 24 = .ok (.iconst 0, 1) := by decide +kernel
theorem dX11_period_25 : decode cX11_period 25 = .ok (.iload_n 1, 1) := by decide +kernel
theorem dX11_period_26 : decode cX11_period 26 = .ok (.iload_n 2, 1) := by decide +kernel
theorem dX11_period_27 : decode cX11_period 27 = .ok (.invokevirtual 102, 3) := by decide +kernel
theorem dX11_period_30 : decode cX11_period 30 = .ok (.aload_n 0, 1) := by decide +kernel
theorem dX11_period_31 : decode cX11_period 31 = .ok (.getfield 13, 3) := by decide +kernel
theorem dX11_period_34 : decode cX11_period 34 = .ok (.iload_n 1, 1) := by decide +kernel
theorem dX11_period_35 : decode cX11_period 35 = .ok (.iaload, 1) := by decide +kernel
theorem dX11_period_36 : decode cX11_period 36 = .ok (.iload_n 2, 1) := by decide +kernel
theorem dX11_period_37 : decode cX11_period 37 = .ok (.isub, 1) := by decide +kernel
theorem dX11_period_38 : decode cX11_period 38 = .ok (.if_icmp .ge 9, 3) := by decide +kernel
theorem dX11_period_41 : decode cX11_period 41 = .ok (.iinc 2 1, 3) := by decide +kernel
theorem dX11_period_44 : decode cX11_period 44 = .ok (.goto (-32), 3) := by decide +kernel
theorem dX11_period_47 : decode cX11_period 47 = .ok (.iload_n 2, 1) := by decide +kernel
theorem dX11_period_48 : decode cX11_period 48 = .ok (.ireturn, 1) := by decide +kernel
theorem dX11_turnAt_0 : decode cX11_turnAt 0 = .ok (.aload_n 0, 1) := by decide +kernel
theorem dX11_turnAt_1 : decode cX11_turnAt 1 = .ok (.iload_n 1, 1) := by decide +kernel
theorem dX11_turnAt_2 : decode cX11_turnAt 2 = .ok (.invokevirtual 134, 3) := by decide +kernel
theorem dX11_turnAt_5 : decode cX11_turnAt 5 = .ok (.ifCond .eq 5, 3) := by decide +kernel
theorem dX11_turnAt_8 : decode cX11_turnAt 8 = .ok (.iconst 0, 1) := by decide +kernel
theorem dX11_turnAt_9 : decode cX11_turnAt 9 = .ok (.ireturn, 1) := by decide +kernel
theorem dX11_turnAt_10 : decode cX11_turnAt 10 = .ok (.aload_n 0, 1) := by decide +kernel
theorem dX11_turnAt_11 : decode cX11_turnAt 11 = .ok (.getfield 13, 3) := by decide +kernel
theorem dX11_turnAt_14 : decode cX11_turnAt 14 = .ok (.iload_n 1, 1) := by decide +kernel
theorem dX11_turnAt_15 : decode cX11_turnAt 15 = .ok (.iaload, 1) := by decide +kernel
theorem dX11_turnAt_16 : decode cX11_turnAt 16 = .ok (.istore_n 2, 1) := by decide +kernel
theorem dX11_turnAt_17 : decode cX11_turnAt 17 = .ok (.iconst 0, 1) := by decide +kernel
theorem dX11_turnAt_18 : decode cX11_turnAt 18 = .ok (.istore_n 3, 1) := by decide +kernel
theorem dX11_turnAt_19 : decode cX11_turnAt 19 = .ok (.iconst 1, 1) := by decide +kernel
theorem dX11_turnAt_20 : decode cX11_turnAt 20 = .ok (.istore 4, 2) := by decide +kernel
theorem dX11_turnAt_22 : decode cX11_turnAt 22 = .ok (.iload 4, 2) := by decide +kernel
theorem dX11_turnAt_24 : decode cX11_turnAt 24 = .ok (.iload_n 2, 1) := by decide +kernel
theorem dX11_turnAt_25 : decode cX11_turnAt 25 = .ok (.if_icmp .ge 109, 3) := by decide +kernel
theorem dX11_turnAt_28 : decode cX11_turnAt 28 = .ok (.iconst 0, 1) := by decide +kernel
theorem dX11_turnAt_29 : decode cX11_turnAt 29 = .ok (.istore 5, 2) := by decide +kernel
theorem dX11_turnAt_31 : decode cX11_turnAt 31 = .ok (.iload 5, 2) := by decide +kernel
theorem dX11_turnAt_33 : decode cX11_turnAt 33 = .ok (.iload_n 2, 1) := by decide +kernel
theorem dX11_turnAt_34 : decode cX11_turnAt 34 = .ok (.if_icmp .ge 45, 3) := by decide +kernel
theorem dX11_turnAt_37 : decode cX11_turnAt 37 = .ok (.aload_n 0, 1) := by decide +kernel
theorem dX11_turnAt_38 : decode cX11_turnAt 38 = .ok (.getfield 7, 3) := by decide +kernel
theorem dX11_turnAt_41 : decode cX11_turnAt 41 = .ok (.bipush 64, 2) := by decide +kernel
theorem dX11_turnAt_43 : decode cX11_turnAt 43 = .ok (.iload_n 1, 1) := by decide +kernel
theorem dX11_turnAt_44 : decode cX11_turnAt 44 = .ok (.imul, 1) := by decide +kernel
theorem dX11_turnAt_45 : decode cX11_turnAt 45 = .ok (.iload 4, 2) := by decide +kernel
theorem dX11_turnAt_47 : decode cX11_turnAt 47 = .ok (.iload 5, 2) := by decide +kernel
theorem dX11_turnAt_49 : decode cX11_turnAt 49 = .ok (.iadd, 1) := by decide +kernel
theorem dX11_turnAt_50 : decode cX11_turnAt 50 = .ok (.iload_n 2, 1) := by decide +kernel
theorem dX11_turnAt_51 : decode cX11_turnAt 51 = .ok (.irem, 1) := by decide +kernel
theorem dX11_turnAt_52 : decode cX11_turnAt 52 = .ok (.iadd, 1) := by decide +kernel
theorem dX11_turnAt_53 : decode cX11_turnAt 53 = .ok (.caload, 1) := by decide +kernel
theorem dX11_turnAt_54 : decode cX11_turnAt 54 = .ok (.aload_n 0, 1) := by decide +kernel
theorem dX11_turnAt_55 : decode cX11_turnAt 55 = .ok (.getfield 7, 3) := by decide +kernel
theorem dX11_turnAt_58 : decode cX11_turnAt 58 = .ok (.bipush 64, 2) := by decide +kernel
theorem dX11_turnAt_60 : decode cX11_turnAt 60 = .ok (.iload_n 1, 1) := by decide +kernel
theorem dX11_turnAt_61 : decode cX11_turnAt 61 = .ok (.imul, 1) := by decide +kernel
theorem dX11_turnAt_62 : decode cX11_turnAt 62 = .ok (.iload_n 3, 1) := by decide +kernel
theorem dX11_turnAt_63 : decode cX11_turnAt 63 = .ok (.iload 5, 2) := by decide +kernel
theorem dX11_turnAt_65 : decode cX11_turnAt 65 = .ok (.iadd, 1) := by decide +kernel
theorem dX11_turnAt_66 : decode cX11_turnAt 66 = .ok (.iload_n 2, 1) := by decide +kernel
theorem dX11_turnAt_67 : decode cX11_turnAt 67 = .ok (.irem, 1) := by decide +kernel
theorem dX11_turnAt_68 : decode cX11_turnAt 68 = .ok (.iadd, 1) := by decide +kernel
theorem dX11_turnAt_69 : decode cX11_turnAt 69 = .ok (.caload, 1) := by decide +kernel
theorem dX11_turnAt_70 : decode cX11_turnAt 70 = .ok (.if_icmp .ne 9, 3) := by decide +kernel
theorem dX11_turnAt_73 : decode cX11_turnAt 73 = .ok (.iinc 5 1, 3) := by decide +kernel
theorem dX11_turnAt_76 : decode cX11_turnAt 76 = .ok (.goto (-45), 3) := by decide +kernel
theorem dX11_turnAt_79 : decode cX11_turnAt 79 = .ok (.iload 5, 2) := by decide +kernel
theorem dX11_turnAt_81 : decode cX11_turnAt 81 = .ok (.iload_n 2, 1) := by decide +kernel
theorem dX11_turnAt_82 : decode cX11_turnAt 82 = .ok (.if_icmp .ge 44, 3) := by decide +kernel
theorem dX11_turnAt_85 : decode cX11_turnAt 85 = .ok (.aload_n 0, 1) := by decide +kernel
theorem dX11_turnAt_86 : decode cX11_turnAt 86 = .ok (.getfield 7, 3) := by decide +kernel
theorem dX11_turnAt_89 : decode cX11_turnAt 89 = .ok (.bipush 64, 2) := by decide +kernel
theorem dX11_turnAt_91 : decode cX11_turnAt 91 = .ok (.iload_n 1, 1) := by decide +kernel
theorem dX11_turnAt_92 : decode cX11_turnAt 92 = .ok (.imul, 1) := by decide +kernel
theorem dX11_turnAt_93 : decode cX11_turnAt 93 = .ok (.iload 4, 2) := by decide +kernel
theorem dX11_turnAt_95 : decode cX11_turnAt 95 = .ok (.iload 5, 2) := by decide +kernel
theorem dX11_turnAt_97 : decode cX11_turnAt 97 = .ok (.iadd, 1) := by decide +kernel
theorem dX11_turnAt_98 : decode cX11_turnAt 98 = .ok (.iload_n 2, 1) := by decide +kernel
theorem dX11_turnAt_99 : decode cX11_turnAt 99 = .ok (.irem, 1) := by decide +kernel
theorem dX11_turnAt_100 : decode cX11_turnAt 100 = .ok (.iadd, 1) := by decide +kernel
theorem dX11_turnAt_101 : decode cX11_turnAt 101 = .ok (.caload, 1) := by decide +kernel
theorem dX11_turnAt_102 : decode cX11_turnAt 102 = .ok (.aload_n 0, 1) := by decide +kernel
theorem dX11_turnAt_103 : decode cX11_turnAt 103 = .ok (.getfield 7, 3) := by decide +kernel
theorem dX11_turnAt_106 : decode cX11_turnAt 106 = .ok (.bipush 64, 2) := by decide +kernel
theorem dX11_turnAt_108 : decode cX11_turnAt 108 = .ok (.iload_n 1, 1) := by decide +kernel
theorem dX11_turnAt_109 : decode cX11_turnAt 109 = .ok (.imul, 1) := by decide +kernel
theorem dX11_turnAt_110 : decode cX11_turnAt 110 = .ok (.iload_n 3, 1) := by decide +kernel
theorem dX11_turnAt_111 : decode cX11_turnAt 111 = .ok (.iload 5, 2) := by decide +kernel
theorem dX11_turnAt_113 : decode cX11_turnAt 113 = .ok (.iadd, 1) := by decide +kernel
theorem dX11_turnAt_114 : decode cX11_turnAt 114 = .ok (.iload_n 2, 1) := by decide +kernel
theorem dX11_turnAt_115 : decode cX11_turnAt 115 = .ok (.irem, 1) := by decide +kernel
theorem dX11_turnAt_116 : decode cX11_turnAt 116 = .ok (.iadd, 1) := by decide +kernel
theorem dX11_turnAt_117 : decode cX11_turnAt 117 = .ok (.caload, 1) := by decide +kernel
theorem dX11_turnAt_118 : decode cX11_turnAt 118 = .ok (.if_icmp .ge 8, 3) := by decide +kernel
theorem dX11_turnAt_121 : decode cX11_turnAt 121 = .ok (.iload 4, 2) := by decide +kernel
theorem dX11_turnAt_123 : decode cX11_turnAt 123 = .ok (.goto 4, 3) := by decide +kernel
theorem dX11_turnAt_126 : decode cX11_turnAt 126 = .ok (.iload_n 3, 1) := by decide +kernel
theorem dX11_turnAt_127 : decode cX11_turnAt 127 = .ok (.istore_n 3, 1) := by decide +kernel
theorem dX11_turnAt_128 : decode cX11_turnAt 128 = .ok (.iinc 4 1, 3) := by decide +kernel
theorem dX11_turnAt_131 : decode cX11_turnAt 131 = .ok (.goto (-109), 3) := by decide +kernel
theorem dX11_turnAt_134 : decode cX11_turnAt 134 = .ok (.iload_n 3, 1) := by decide +kernel
theorem dX11_turnAt_135 : decode cX11_turnAt 135 = .ok (.ireturn, 1) := by decide +kernel
theorem dX11_findParts_0 : decode cX11_findParts 0 = .ok (.iconst 0, 1) := by decide +kernel
theorem dX11_findParts_1 : decode cX11_findParts 1 = .ok (.istore_n 2, 1) := by decide +kernel
theorem dX11_findParts_2 : decode cX11_findParts 2 = .ok (.iconst 0, 1) := by decide +kernel
theorem dX11_findParts_3 : decode cX11_findParts 3 = .ok (.istore_n 3, 1) := by decide +kernel
theorem dX11_findParts_4 : decode cX11_findParts 4 = .ok (.iload_n 3, 1) := by decide +kernel
theorem dX11_findParts_5 : decode cX11_findParts 5 = .ok (.aload_n 0, 1) := by decide +kernel
theorem dX11_findParts_6 : decode cX11_findParts 6 = .ok (.getfield 13, 3) := by decide +kernel
theorem dX11_findParts_9 : decode cX11_findParts 9 = .ok (.iload_n 1, 1) := by decide +kernel
theorem dX11_findParts_10 : decode cX11_findParts 10 = .ok (.iaload, 1) := by decide +kernel
theorem dX11_findParts_11 : decode cX11_findParts 11 = .ok (.if_icmp .ge 48, 3) := by decide +kernel
theorem dX11_findParts_14 : decode cX11_findParts 14 = .ok (.aload_n 0, 1) := by decide +kernel
theorem dX11_findParts_15 : decode cX11_findParts 15 = .ok (.getfield 13, 3) := by decide +kernel
theorem dX11_findParts_18 : decode cX11_findParts 18 = .ok (.iload_n 1, 1) := by decide +kernel
theorem dX11_findParts_19 : decode cX11_findParts 19 = .ok (.iaload, 1) := by decide +kernel
theorem dX11_findParts_20 : decode cX11_findParts 20 = .ok (.iload_n 3, 1) := by decide +kernel
theorem dX11_findParts_21 : decode cX11_findParts 21 = .ok (.isub, 1) := by decide +kernel
theorem dX11_findParts_22 : decode cX11_findParts 22 = .ok (.istore 4, 2) := by decide +kernel
theorem dX11_findParts_24 : decode cX11_findParts 24 = .ok (.aload_n 0, 1) := by decide +kernel
theorem dX11_findParts_25 : decode cX11_findParts 25 = .ok (.iload_n 1, 1) := by decide +kernel
theorem dX11_findParts_26 : decode cX11_findParts 26 = .ok (.iload_n 3, 1) := by decide +kernel
theorem dX11_findParts_27 : decode cX11_findParts 27 = .ok (.iload 4, 2) := by decide +kernel
theorem dX11_findParts_29 : decode cX11_findParts 29 = .ok (.invokevirtual 170, 3) := by decide +kernel
theorem dX11_findParts_32 : decode cX11_findParts 32 = .ok (.ifCond .ne 9, 3) := by decide +kernel
theorem dX11_findParts_35 : decode cX11_findParts 35 = .ok (.iinc 4 (-1), 3) := by decide +kernel
theorem dX11_findParts_38 : decode cX11_findParts 38 = .ok (.goto (-14), 3) := by decide +kernel
theorem dX11_findParts_41 : decode cX11_findParts 41 = .ok (.aload_n 0, 1) := by decide +kernel
theorem dX11_findParts_42 : decode cX11_findParts 42 = .ok (.getfield 29, 3) := by decide +kernel
theorem dX11_findParts_45 : decode cX11_findParts 45 = .ok (.iload_n 2, 1) := by decide +kernel
theorem dX11_findParts_46 : decode cX11_findParts 46 = .ok (.iload_n 3, 1) := by decide +kernel
theorem dX11_findParts_47 : decode cX11_findParts 47 = .ok (.iastore, 1) := by decide +kernel
theorem dX11_findParts_48 : decode cX11_findParts 48 = .ok (.iinc 2 1, 3) := by decide +kernel
theorem dX11_findParts_51 : decode cX11_findParts 51 = .ok (.iload_n 3, 1) := by decide +kernel
theorem dX11_findParts_52 : decode cX11_findParts 52 = .ok (.iload 4, 2) := by decide +kernel
theorem dX11_findParts_54 : decode cX11_findParts 54 = .ok (.iadd, 1) := by decide +kernel
theorem dX11_findParts_55 : decode cX11_findParts 55 = .ok (.istore_n 3, 1) := by decide +kernel
theorem dX11_findParts_56 : decode cX11_findParts 56 = .ok (.goto (-52), 3) := by decide +kernel
theorem dX11_findParts_59 : decode cX11_findParts 59 = .ok (.iload_n 2, 1) := by decide +kernel
theorem dX11_findParts_60 : decode cX11_findParts 60 = .ok (.ireturn, 1) := by decide +kernel
theorem dX11_isPlain_0 : decode cX11_isPlain 0 = .ok (.iconst 1, 1) := by decide +kernel
theorem dX11_isPlain_1 : decode cX11_isPlain 1 = .ok (.istore 4, 2) := by decide +kernel
theorem dX11_isPlain_3 : decode cX11_isPlain 3 = .ok (.iload 4, 2) := by decide +kernel
theorem dX11_isPlain_5 : decode cX11_isPlain 5 = .ok (.iload_n 3, 1) := by decide +kernel
theorem dX11_isPlain_6 : decode cX11_isPlain 6 = .ok (.if_icmp .ge 67, 3) := by decide +kernel
theorem dX11_isPlain_9 : decode cX11_isPlain 9 = .ok (.aload_n 0, 1) := by decide +kernel
theorem dX11_isPlain_10 : decode cX11_isPlain 10 = .ok (.iload_n 1, 1) := by decide +kernel
theorem dX11_isPlain_11 : decode cX11_isPlain 11 = .ok (.iload_n 2, 1) := by decide +kernel
theorem dX11_isPlain_12 : decode cX11_isPlain 12 = .ok (.iload_n 1, 1) := by decide +kernel
theorem dX11_isPlain_13 : decode cX11_isPlain 13 = .ok (.iload_n 2, 1) := by decide +kernel
theorem dX11_isPlain_14 : decode cX11_isPlain 14 = .ok (.iload 4, 2) := by decide +kernel
theorem dX11_isPlain_16 : decode cX11_isPlain 16 = .ok (.iadd, 1) := by decide +kernel
theorem dX11_isPlain_17 : decode cX11_isPlain 17 = .ok (.invokevirtual 102, 3) := by decide +kernel
theorem dX11_isPlain_20 : decode cX11_isPlain 20 = .ok (.istore 5, 2) := by decide +kernel
theorem dX11_isPlain_22 : decode cX11_isPlain 22 = .ok (.iload 4, 2) := by decide +kernel
theorem dX11_isPlain_24 : decode cX11_isPlain 24 = .ok (.iload 5, 2) := by decide +kernel
theorem dX11_isPlain_26 : decode cX11_isPlain 26 = .ok (.iadd, 1) := by decide +kernel
theorem dX11_isPlain_27 : decode cX11_isPlain 27 = .ok (.iload_n 3, 1) := by decide +kernel
theorem dX11_isPlain_28 : decode cX11_isPlain 28 = .ok (.if_icmp .ge 37, 3) := by decide +kernel
theorem dX11_isPlain_31 : decode cX11_isPlain 31 = .ok (.aload_n 0, 1) := by decide +kernel
theorem dX11_isPlain_32 : decode cX11_isPlain 32 = .ok (.getfield 7, 3) := by decide +kernel
theorem dX11_isPlain_35 : decode cX11_isPlain 35 = .ok (.bipush 64, 2) := by decide +kernel
theorem dX11_isPlain_37 : decode cX11_isPlain 37 = .ok (.iload_n 1, 1) := by decide +kernel
theorem dX11_isPlain_38 : decode cX11_isPlain 38 = .ok (.imul, 1) := by decide +kernel
theorem dX11_isPlain_39 : decode cX11_isPlain 39 = .ok (.iload_n 2, 1) := by decide +kernel
theorem dX11_isPlain_40 : decode cX11_isPlain 40 = .ok (.iadd, 1) := by decide +kernel
theorem dX11_isPlain_41 : decode cX11_isPlain 41 = .ok (.iload 5, 2) := by decide +kernel
theorem dX11_isPlain_43 : decode cX11_isPlain 43 = .ok (.iadd, 1) := by decide +kernel
theorem dX11_isPlain_44 : decode cX11_isPlain 44 = .ok (.caload, 1) := by decide +kernel
theorem dX11_isPlain_45 : decode cX11_isPlain 45 = .ok (.aload_n 0, 1) := by decide +kernel
theorem dX11_isPlain_46 : decode cX11_isPlain 46 = .ok (.getfield 7, 3) := by decide +kernel
theorem dX11_isPlain_49 : decode cX11_isPlain 49 = .ok (.bipush 64, 2) := by decide +kernel
theorem dX11_isPlain_51 : decode cX11_isPlain 51 = .ok (.iload_n 1, 1) := by decide +kernel
theorem dX11_isPlain_52 : decode cX11_isPlain 52 = .ok (.imul, 1) := by decide +kernel
theorem dX11_isPlain_53 : decode cX11_isPlain 53 = .ok (.iload_n 2, 1) := by decide +kernel
theorem dX11_isPlain_54 : decode cX11_isPlain 54 = .ok (.iadd, 1) := by decide +kernel
theorem dX11_isPlain_55 : decode cX11_isPlain 55 = .ok (.iload 4, 2) := by decide +kernel
theorem dX11_isPlain_57 : decode cX11_isPlain 57 = .ok (.iadd, 1) := by decide +kernel
theorem dX11_isPlain_58 : decode cX11_isPlain 58 = .ok (.iload 5, 2) := by decide +kernel
theorem dX11_isPlain_60 : decode cX11_isPlain 60 = .ok (.iadd, 1) := by decide +kernel
theorem dX11_isPlain_61 : decode cX11_isPlain 61 = .ok (.caload, 1) := by decide +kernel
theorem dX11_isPlain_62 : decode cX11_isPlain 62 = .ok (.if_icmp .le 5, 3) := by decide +kernel
theorem dX11_isPlain_65 : decode cX11_isPlain 65 = .ok (.iconst 0, 1) := by decide +kernel
theorem dX11_isPlain_66 : decode cX11_isPlain 66 = .ok (.ireturn, 1) := by decide +kernel
theorem dX11_isPlain_67 : decode cX11_isPlain 67 = .ok (.iinc 4 1, 3) := by decide +kernel
theorem dX11_isPlain_70 : decode cX11_isPlain 70 = .ok (.goto (-67), 3) := by decide +kernel
theorem dX11_isPlain_73 : decode cX11_isPlain 73 = .ok (.iconst 1, 1) := by decide +kernel
theorem dX11_isPlain_74 : decode cX11_isPlain 74 = .ok (.ireturn, 1) := by decide +kernel
theorem dX11_parts_0 : decode cX11_parts 0 = .ok (.aload_n 0, 1) := by decide +kernel
theorem dX11_parts_1 : decode cX11_parts 1 = .ok (.iload_n 1, 1) := by decide +kernel
theorem dX11_parts_2 : decode cX11_parts 2 = .ok (.invokevirtual 68, 3) := by decide +kernel
theorem dX11_parts_5 : decode cX11_parts 5 = .ok (.ifCond .eq 7, 3) := by decide +kernel
theorem dX11_parts_8 : decode cX11_parts 8 = .ok (.iconst 0, 1) := by decide +kernel
theorem dX11_parts_9 : decode cX11_parts 9 = .ok (.goto 8, 3) := by decide +kernel
theorem dX11_parts_12 : decode cX11_parts 12 = .ok (.aload_n 0, 1) := by decide +kernel
theorem dX11_parts_13 : decode cX11_parts 13 = .ok (.iload_n 1, 1) := by decide +kernel
theorem dX11_parts_14 : decode cX11_parts 14 = .ok (.invokevirtual 173, 3) := by decide +kernel
theorem dX11_parts_17 : decode cX11_parts 17 = .ok (.ireturn, 1) := by decide +kernel
theorem dX11_partAt_0 : decode cX11_partAt 0 = .ok (.aload_n 0, 1) := by decide +kernel
theorem dX11_partAt_1 : decode cX11_partAt 1 = .ok (.iload_n 1, 1) := by decide +kernel
theorem dX11_partAt_2 : decode cX11_partAt 2 = .ok (.invokevirtual 46, 3) := by decide +kernel
theorem dX11_partAt_5 : decode cX11_partAt 5 = .ok (.ifCond .eq 22, 3) := by decide +kernel
theorem dX11_partAt_8 : decode cX11_partAt 8 = .ok (.iload_n 2, 1) := by decide +kernel
theorem dX11_partAt_9 : decode cX11_partAt 9 = .ok (.iconst 0, 1) := by decide +kernel
theorem dX11_partAt_10 : decode cX11_partAt 10 = .ok (.aload_n 0, 1) := by decide +kernel
theorem dX11_partAt_11 : decode cX11_partAt 11 = .ok (.iload_n 1, 1) := by decide +kernel
theorem dX11_partAt_12 : decode cX11_partAt 12 = .ok (.invokevirtual 173, 3) := by decide +kernel
theorem dX11_partAt_15 : decode cX11_partAt 15 = .ok (.iconst 1, 1) := by decide +kernel
theorem dX11_partAt_16 : decode cX11_partAt 16 = .ok (.isub, 1) := by decide +kernel
theorem dX11_partAt_17 : decode cX11_partAt 17 = .ok (.invokestatic 42, 3) := by decide +kernel
theorem dX11_partAt_20 : decode cX11_partAt 20 = .ok (.ifCond .eq 7, 3) := by decide +kernel
theorem dX11_partAt_23 : decode cX11_partAt 23 = .ok (.iconst 1, 1) := by decide +kernel
theorem dX11_partAt_24 : decode cX11_partAt 24 = .ok (.goto 4, 3) := by decide +kernel
theorem dX11_partAt_27 : decode cX11_partAt 27 = .ok (.iconst 0, 1) := by decide +kernel
theorem dX11_partAt_28 : decode cX11_partAt 28 = .ok (.istore_n 3, 1) := by decide +kernel
theorem dX11_partAt_29 : decode cX11_partAt 29 = .ok (.aload_n 0, 1) := by decide +kernel
theorem dX11_partAt_30 : decode cX11_partAt 30 = .ok (.iload_n 3, 1) := by decide +kernel
theorem dX11_partAt_31 : decode cX11_partAt 31 = .ok (.ifCond .eq 7, 3) := by decide +kernel
theorem dX11_partAt_34 : decode cX11_partAt 34 = .ok (.iconst 0, 1) := by decide +kernel
theorem dX11_partAt_35 : decode cX11_partAt 35 = .ok (.goto 4, 3) := by decide +kernel
theorem dX11_partAt_38 : decode cX11_partAt 38 = .ok (.iconst 1, 1) := by decide +kernel
theorem dX11_partAt_39 : decode cX11_partAt 39 = .ok (.invokevirtual 57, 3) := by decide +kernel
theorem dX11_partAt_42 : decode cX11_partAt 42 = .ok (.ifCond .eq 7, 3) := by decide +kernel
theorem dX11_partAt_45 : decode cX11_partAt 45 = .ok (.iconst 0, 1) := by decide +kernel
theorem dX11_partAt_46 : decode cX11_partAt 46 = .ok (.goto 9, 3) := by decide +kernel
theorem dX11_partAt_49 : decode cX11_partAt 49 = .ok (.aload_n 0, 1) := by decide +kernel
theorem dX11_partAt_50 : decode cX11_partAt 50 = .ok (.getfield 29, 3) := by decide +kernel
theorem dX11_partAt_53 : decode cX11_partAt 53 = .ok (.iload_n 2, 1) := by decide +kernel
theorem dX11_partAt_54 : decode cX11_partAt 54 = .ok (.iaload, 1) := by decide +kernel
theorem dX11_partAt_55 : decode cX11_partAt 55 = .ok (.ireturn, 1) := by decide +kernel
theorem dX11_longestAhead_0 : decode cX11_longestAhead 0 = .ok (.aload_n 0, 1) := by decide +kernel
theorem dX11_longestAhead_1 : decode cX11_longestAhead 1 = .ok (.getfield 13, 3) := by decide +kernel
theorem dX11_longestAhead_4 : decode cX11_longestAhead 4 = .ok (.iload_n 1, 1) := by decide +kernel
theorem dX11_longestAhead_5 : decode cX11_longestAhead 5 = .ok (.iaload, 1) := by decide +kernel
theorem dX11_longestAhead_6 : decode cX11_longestAhead 6 = .ok (.iload_n 2, 1) := by decide +kernel
theorem dX11_longestAhead_7 : decode cX11_longestAhead 7 = .ok (.isub, 1) := by decide +kernel
theorem dX11_longestAhead_8 : decode cX11_longestAhead 8 = .ok (.aload_n 0, 1) := by decide +kernel
theorem dX11_longestAhead_9 : decode cX11_longestAhead 9 = .ok (.iload_n 1, 1) := by decide +kernel
theorem dX11_longestAhead_10 : decode cX11_longestAhead 10 = .ok (.iload_n 2, 1) := by decide +kernel
theorem dX11_longestAhead_11 : decode cX11_longestAhead 11 = .ok (.invokevirtual 117, 3) := by decide +kernel
theorem dX11_longestAhead_14 : decode cX11_longestAhead 14 = .ok (.isub, 1) := by decide +kernel
theorem dX11_longestAhead_15 : decode cX11_longestAhead 15 = .ok (.ireturn, 1) := by decide +kernel
theorem dX11_findPieces_0 : decode cX11_findPieces 0 = .ok (.iconst 0, 1) := by decide +kernel
theorem dX11_findPieces_1 : decode cX11_findPieces 1 = .ok (.istore_n 2, 1) := by decide +kernel
theorem dX11_findPieces_2 : decode cX11_findPieces 2 = .ok (.iconst 0, 1) := by decide +kernel
theorem dX11_findPieces_3 : decode cX11_findPieces 3 = .ok (.istore_n 3, 1) := by decide +kernel
theorem dX11_findPieces_4 : decode cX11_findPieces 4 = .ok (.iload_n 3, 1) := by decide +kernel
theorem dX11_findPieces_5 : decode cX11_findPieces 5 = .ok (.aload_n 0, 1) := by decide +kernel
theorem dX11_findPieces_6 : decode cX11_findPieces 6 = .ok (.getfield 13, 3) := by decide +kernel
theorem dX11_findPieces_9 : decode cX11_findPieces 9 = .ok (.iload_n 1, 1) := by decide +kernel
theorem dX11_findPieces_10 : decode cX11_findPieces 10 = .ok (.iaload, 1) := by decide +kernel
theorem dX11_findPieces_11 : decode cX11_findPieces 11 = .ok (.if_icmp .ge 38, 3) := by decide +kernel
theorem dX11_findPieces_14 : decode cX11_findPieces 14 = .ok (.aload_n 0, 1) := by decide +kernel
theorem dX11_findPieces_15 : decode cX11_findPieces 15 = .ok (.getfield 29, 3) := by decide +kernel
theorem dX11_findPieces_18 : decode cX11_findPieces 18 = .ok (.iload_n 2, 1) := by decide +kernel
theorem dX11_findPieces_19 : decode cX11_findPieces 19 = .ok (.iload_n 3, 1) := by decide +kernel
theorem dX11_findPieces_20 : decode cX11_findPieces 20 = .ok (.iastore, 1) := by decide +kernel
theorem dX11_findPieces_21 : decode cX11_findPieces 21 = .ok (.iinc 2 1, 3) := by decide +kernel
theorem dX11_findPieces_24 : decode cX11_findPieces 24 = .ok (.aload_n 0, 1) := by decide +kernel
theorem dX11_findPieces_25 : decode cX11_findPieces 25 = .ok (.iload_n 1, 1) := by decide +kernel
theorem dX11_findPieces_26 : decode cX11_findPieces 26 = .ok (.iload_n 3, 1) := by decide +kernel
theorem dX11_findPieces_27 : decode cX11_findPieces 27 = .ok (.invokevirtual 176, 3) := by decide +kernel
theorem dX11_findPieces_30 : decode cX11_findPieces 30 = .ok (.istore 4, 2) := by decide +kernel
theorem dX11_findPieces_32 : decode cX11_findPieces 32 = .ok (.iload_n 3, 1) := by decide +kernel
theorem dX11_findPieces_33 : decode cX11_findPieces 33 = .ok (.iload 4, 2) := by decide +kernel
theorem dX11_findPieces_35 : decode cX11_findPieces 35 = .ok (.ifCond .le 8, 3) := by decide +kernel
theorem dX11_findPieces_38 : decode cX11_findPieces 38 = .ok (.iload 4, 2) := by decide +kernel
theorem dX11_findPieces_40 : decode cX11_findPieces 40 = .ok (.goto 4, 3) := by decide +kernel
theorem dX11_findPieces_43 : decode cX11_findPieces 43 = .ok (.iconst 1, 1) := by decide +kernel
theorem dX11_findPieces_44 : decode cX11_findPieces 44 = .ok (.iadd, 1) := by decide +kernel
theorem dX11_findPieces_45 : decode cX11_findPieces 45 = .ok (.istore_n 3, 1) := by decide +kernel
theorem dX11_findPieces_46 : decode cX11_findPieces 46 = .ok (.goto (-42), 3) := by decide +kernel
theorem dX11_findPieces_49 : decode cX11_findPieces 49 = .ok (.aload_n 0, 1) := by decide +kernel
theorem dX11_findPieces_50 : decode cX11_findPieces 50 = .ok (.getfield 29, 3) := by decide +kernel
theorem dX11_findPieces_53 : decode cX11_findPieces 53 = .ok (.iload_n 2, 1) := by decide +kernel
theorem dX11_findPieces_54 : decode cX11_findPieces 54 = .ok (.aload_n 0, 1) := by decide +kernel
theorem dX11_findPieces_55 : decode cX11_findPieces 55 = .ok (.getfield 13, 3) := by decide +kernel
theorem dX11_findPieces_58 : decode cX11_findPieces 58 = .ok (.iload_n 1, 1) := by decide +kernel
theorem dX11_findPieces_59 : decode cX11_findPieces 59 = .ok (.iaload, 1) := by decide +kernel
theorem dX11_findPieces_60 : decode cX11_findPieces 60 = .ok (.iastore, 1) := by decide +kernel
theorem dX11_findPieces_61 : decode cX11_findPieces 61 = .ok (.iload_n 2, 1) := by decide +kernel
theorem dX11_findPieces_62 : decode cX11_findPieces 62 = .ok (.ireturn, 1) := by decide +kernel
theorem dX11_pieces_0 : decode cX11_pieces 0 = .ok (.aload_n 0, 1) := by decide +kernel
theorem dX11_pieces_1 : decode cX11_pieces 1 = .ok (.iload_n 1, 1) := by decide +kernel
theorem dX11_pieces_2 : decode cX11_pieces 2 = .ok (.invokevirtual 68, 3) := by decide +kernel
theorem dX11_pieces_5 : decode cX11_pieces 5 = .ok (.ifCond .eq 7, 3) := by decide +kernel
theorem dX11_pieces_8 : decode cX11_pieces 8 = .ok (.iconst 0, 1) := by decide +kernel
theorem dX11_pieces_9 : decode cX11_pieces 9 = .ok (.goto 8, 3) := by decide +kernel
theorem dX11_pieces_12 : decode cX11_pieces 12 = .ok (.aload_n 0, 1) := by decide +kernel
theorem dX11_pieces_13 : decode cX11_pieces 13 = .ok (.iload_n 1, 1) := by decide +kernel
theorem dX11_pieces_14 : decode cX11_pieces 14 = .ok (.invokevirtual 179, 3) := by decide +kernel
theorem dX11_pieces_17 : decode cX11_pieces 17 = .ok (.ireturn, 1) := by decide +kernel
theorem dX11_isNoPiece_0 : decode cX11_isNoPiece 0 = .ok (.aload_n 0, 1) := by decide +kernel
theorem dX11_isNoPiece_1 : decode cX11_isNoPiece 1 = .ok (.aload_n 0, 1) := by decide +kernel
theorem dX11_isNoPiece_2 : decode cX11_isNoPiece 2 = .ok (.iload_n 1, 1) := by decide +kernel
theorem dX11_isNoPiece_3 : decode cX11_isNoPiece 3 = .ok (.invokevirtual 46, 3) := by decide +kernel
theorem dX11_isNoPiece_6 : decode cX11_isNoPiece 6 = .ok (.ifCond .eq 22, 3) := by decide +kernel
theorem dX11_isNoPiece_9 : decode cX11_isNoPiece 9 = .ok (.iload_n 2, 1) := by decide +kernel
theorem dX11_isNoPiece_10 : decode cX11_isNoPiece 10 = .ok (.iconst 0, 1) := by decide +kernel
theorem dX11_isNoPiece_11 : decode cX11_isNoPiece 11 = .ok (.aload_n 0, 1) := by decide +kernel
theorem dX11_isNoPiece_12 : decode cX11_isNoPiece 12 = .ok (.iload_n 1, 1) := by decide +kernel
theorem dX11_isNoPiece_13 : decode cX11_isNoPiece 13 = .ok (.invokevirtual 179, 3) := by decide +kernel
theorem dX11_isNoPiece_16 : decode cX11_isNoPiece 16 = .ok (.iconst 1, 1) := by decide +kernel
theorem dX11_isNoPiece_17 : decode cX11_isNoPiece 17 = .ok (.isub, 1) := by decide +kernel
theorem dX11_isNoPiece_18 : decode cX11_isNoPiece 18 = .ok (.invokestatic 42, 3) := by decide +kernel
theorem dX11_isNoPiece_21 : decode cX11_isNoPiece 21 = .ok (.ifCond .eq 7, 3) := by decide +kernel
theorem dX11_isNoPiece_24 : decode cX11_isNoPiece 24 = .ok (.iconst 0, 1) := by decide +kernel
theorem dX11_isNoPiece_25 : decode cX11_isNoPiece 25 = .ok (.goto 4, 3) := by decide +kernel
theorem dX11_isNoPiece_28 : decode cX11_isNoPiece 28 = .ok (.iconst 1, 1) := by decide +kernel
theorem dX11_isNoPiece_29 : decode cX11_isNoPiece 29 = .ok (.invokevirtual 57, 3) := by decide +kernel
theorem dX11_isNoPiece_32 : decode cX11_isNoPiece 32 = .ok (.ireturn, 1) := by decide +kernel
theorem dX11_pieceLength_0 : decode cX11_pieceLength 0 = .ok (.aload_n 0, 1) := by decide +kernel
theorem dX11_pieceLength_1 : decode cX11_pieceLength 1 = .ok (.iload_n 1, 1) := by decide +kernel
theorem dX11_pieceLength_2 : decode cX11_pieceLength 2 = .ok (.iload_n 2, 1) := by decide +kernel
theorem dX11_pieceLength_3 : decode cX11_pieceLength 3 = .ok (.invokevirtual 182, 3) := by decide +kernel
theorem dX11_pieceLength_6 : decode cX11_pieceLength 6 = .ok (.ifCond .eq 7, 3) := by decide +kernel
theorem dX11_pieceLength_9 : decode cX11_pieceLength 9 = .ok (.iconst 0, 1) := by decide +kernel
theorem dX11_pieceLength_10 : decode cX11_pieceLength 10 = .ok (.goto 18, 3) := by decide +kernel
theorem dX11_pieceLength_13 : decode cX11_pieceLength 13 = .ok (.aload_n 0, 1) := by decide +kernel
theorem dX11_pieceLength_14 : decode cX11_pieceLength 14 = .ok (.getfield 29, 3) := by decide +kernel
theorem dX11_pieceLength_17 : decode cX11_pieceLength 17 = .ok (.iload_n 2, 1) := by decide +kernel
theorem dX11_pieceLength_18 : decode cX11_pieceLength 18 = .ok (.iconst 1, 1) := by decide +kernel
theorem dX11_pieceLength_19 : decode cX11_pieceLength 19 = .ok (.iadd, 1) := by decide +kernel
theorem dX11_pieceLength_20 : decode cX11_pieceLength 20 = .ok (.iaload, 1) := by decide +kernel
theorem dX11_pieceLength_21 : decode cX11_pieceLength 21 = .ok (.aload_n 0, 1) := by decide +kernel
theorem dX11_pieceLength_22 : decode cX11_pieceLength 22 = .ok (.getfield 29, 3) := by decide +kernel
theorem dX11_pieceLength_25 : decode cX11_pieceLength 25 = .ok (.iload_n 2, 1) := by decide +kernel
theorem dX11_pieceLength_26 : decode cX11_pieceLength 26 = .ok (.iaload, 1) := by decide +kernel
theorem dX11_pieceLength_27 : decode cX11_pieceLength 27 = .ok (.isub, 1) := by decide +kernel
theorem dX11_pieceLength_28 : decode cX11_pieceLength 28 = .ok (.ireturn, 1) := by decide +kernel
theorem dX11_pieceFrom_0 : decode cX11_pieceFrom 0 = .ok (.aload_n 0, 1) := by decide +kernel
theorem dX11_pieceFrom_1 : decode cX11_pieceFrom 1 = .ok (.iload_n 1, 1) := by decide +kernel
theorem dX11_pieceFrom_2 : decode cX11_pieceFrom 2 = .ok (.iload_n 2, 1) := by decide +kernel
theorem dX11_pieceFrom_3 : decode cX11_pieceFrom 3 = .ok (.invokevirtual 182, 3) := by decide +kernel
theorem dX11_pieceFrom_6 : decode cX11_pieceFrom 6 = .ok (.ifCond .eq 5, 3) := by decide +kernel
theorem dX11_pieceFrom_9 : decode cX11_pieceFrom 9 = .ok (.iconst 0, 1) := by decide +kernel
theorem dX11_pieceFrom_10 : decode cX11_pieceFrom 10 = .ok (.ireturn, 1) := by decide +kernel
theorem dX11_pieceFrom_11 : decode cX11_pieceFrom 11 = .ok (.aload_n 0, 1) := by decide +kernel
theorem dX11_pieceFrom_12 : decode cX11_pieceFrom 12 = .ok (.getfield 29, 3) := by decide +kernel
theorem dX11_pieceFrom_15 : decode cX11_pieceFrom 15 = .ok (.iload_n 2, 1) := by decide +kernel
theorem dX11_pieceFrom_16 : decode cX11_pieceFrom 16 = .ok (.iconst 1, 1) := by decide +kernel
theorem dX11_pieceFrom_17 : decode cX11_pieceFrom 17 = .ok (.iadd, 1) := by decide +kernel
theorem dX11_pieceFrom_18 : decode cX11_pieceFrom 18 = .ok (.iaload, 1) := by decide +kernel
theorem dX11_pieceFrom_19 : decode cX11_pieceFrom 19 = .ok (.aload_n 0, 1) := by decide +kernel
theorem dX11_pieceFrom_20 : decode cX11_pieceFrom 20 = .ok (.getfield 29, 3) := by decide +kernel
theorem dX11_pieceFrom_23 : decode cX11_pieceFrom 23 = .ok (.iload_n 2, 1) := by decide +kernel
theorem dX11_pieceFrom_24 : decode cX11_pieceFrom 24 = .ok (.iaload, 1) := by decide +kernel
theorem dX11_pieceFrom_25 : decode cX11_pieceFrom 25 = .ok (.isub, 1) := by decide +kernel
theorem dX11_pieceFrom_26 : decode cX11_pieceFrom 26 = .ok (.istore_n 3, 1) := by decide +kernel
theorem dX11_pieceFrom_27 : decode cX11_pieceFrom 27 = .ok (.iconst 0, 1) := by decide +kernel
theorem dX11_pieceFrom_28 : decode cX11_pieceFrom 28 = .ok (.istore 4, 2) := by decide +kernel
theorem dX11_pieceFrom_30 : decode cX11_pieceFrom 30 = .ok (.iload 4, 2) := by decide +kernel
theorem dX11_pieceFrom_32 : decode cX11_pieceFrom 32 = .ok (.aload_n 0, 1) := by decide +kernel
theorem dX11_pieceFrom_33 : decode cX11_pieceFrom 33 = .ok (.getfield 29, 3) := by decide +kernel
theorem dX11_pieceFrom_36 : decode cX11_pieceFrom 36 = .ok (.iload_n 2, 1) := by decide +kernel
theorem dX11_pieceFrom_37 : decode cX11_pieceFrom 37 = .ok (.iaload, 1) := by decide +kernel
theorem dX11_pieceFrom_38 : decode cX11_pieceFrom 38 = .ok (.if_icmp .ge 30, 3) := by decide +kernel
theorem dX11_pieceFrom_41 : decode cX11_pieceFrom 41 = .ok (.aload_n 0, 1) := by decide +kernel
theorem dX11_pieceFrom_42 : decode cX11_pieceFrom 42 = .ok (.iload_n 1, 1) := by decide +kernel
theorem dX11_pieceFrom_43 : decode cX11_pieceFrom 43 = .ok (.iload 4, 2) := by decide +kernel
theorem dX11_pieceFrom_45 : decode cX11_pieceFrom 45 = .ok (.iload_n 1, 1) := by decide +kernel
theorem dX11_pieceFrom_46 : decode cX11_pieceFrom 46 = .ok (.aload_n 0, 1) := by decide +kernel
theorem dX11_pieceFrom_47 : decode cX11_pieceFrom 47 = .ok (.getfield 29, 3) := by decide +kernel
theorem dX11_pieceFrom_50 : decode cX11_pieceFrom 50 = .ok (.iload_n 2, 1) := by decide +kernel
theorem dX11_pieceFrom_51 : decode cX11_pieceFrom 51 = .ok (.iaload, 1) := by decide +kernel
theorem dX11_pieceFrom_52 : decode cX11_pieceFrom 52 = .ok (.invokevirtual 102, 3) := by decide +kernel
theorem dX11_pieceFrom_55 : decode cX11_pieceFrom 55 = .ok (.iload_n 3, 1) := by decide +kernel
theorem dX11_pieceFrom_56 : decode cX11_pieceFrom 56 = .ok (.if_icmp .lt 6, 3) := by decide +kernel
theorem dX11_pieceFrom_59 : decode cX11_pieceFrom 59 = .ok (.iload 4, 2) := by decide +kernel
theorem dX11_pieceFrom_61 : decode cX11_pieceFrom 61 = .ok (.ireturn, 1) := by decide +kernel
theorem dX11_pieceFrom_62 : decode cX11_pieceFrom 62 = .ok (.iinc 4 1, 3) := by decide +kernel
theorem dX11_pieceFrom_65 : decode cX11_pieceFrom 65 = .ok (.goto (-35), 3) := by decide +kernel
theorem dX11_pieceFrom_68 : decode cX11_pieceFrom 68 = .ok (.aload_n 0, 1) := by decide +kernel
theorem dX11_pieceFrom_69 : decode cX11_pieceFrom 69 = .ok (.iconst 2, 1) := by decide +kernel
theorem dX11_pieceFrom_70 : decode cX11_pieceFrom 70 = .ok (.putfield 35, 3) := by decide +kernel
theorem dX11_pieceFrom_73 : decode cX11_pieceFrom 73 = .ok (.iconst 0, 1) := by decide +kernel
theorem dX11_pieceFrom_74 : decode cX11_pieceFrom 74 = .ok (.ireturn, 1) := by decide +kernel
theorem dX11_fewestOf_0 : decode cX11_fewestOf 0 = .ok (.aload_n 0, 1) := by decide +kernel
theorem dX11_fewestOf_1 : decode cX11_fewestOf 1 = .ok (.getfield 29, 3) := by decide +kernel
theorem dX11_fewestOf_4 : decode cX11_fewestOf 4 = .ok (.aload_n 0, 1) := by decide +kernel
theorem dX11_fewestOf_5 : decode cX11_fewestOf 5 = .ok (.getfield 13, 3) := by decide +kernel
theorem dX11_fewestOf_8 : decode cX11_fewestOf 8 = .ok (.iload_n 1, 1) := by decide +kernel
theorem dX11_fewestOf_9 : decode cX11_fewestOf 9 = .ok (.iaload, 1) := by decide +kernel
theorem dX11_fewestOf_10 : decode cX11_fewestOf 10 = .ok (.iconst 0, 1) := by decide +kernel
theorem dX11_fewestOf_11 : decode cX11_fewestOf 11 = .ok (.iastore, 1) := by decide +kernel
theorem dX11_fewestOf_12 : decode cX11_fewestOf 12 = .ok (.aload_n 0, 1) := by decide +kernel
theorem dX11_fewestOf_13 : decode cX11_fewestOf 13 = .ok (.getfield 13, 3) := by decide +kernel
theorem dX11_fewestOf_16 : decode cX11_fewestOf 16 = .ok (.iload_n 1, 1) := by decide +kernel
theorem dX11_fewestOf_17 : decode cX11_fewestOf 17 = .ok (.iaload, 1) := by decide +kernel
theorem dX11_fewestOf_18 : decode cX11_fewestOf 18 = .ok (.iconst 1, 1) := by decide +kernel
theorem dX11_fewestOf_19 : decode cX11_fewestOf 19 = .ok (.isub, 1) := by decide +kernel
theorem dX11_fewestOf_20 : decode cX11_fewestOf 20 = .ok (.istore_n 2, 1) := by decide +kernel
theorem dX11_fewestOf_21 : decode cX11_fewestOf 21 = .ok (.iload_n 2, 1) := by decide +kernel
theorem dX11_fewestOf_22 : decode cX11_fewestOf 22 = .ok (.ifCond .lt 93, 3) := by decide +kernel
theorem dX11_fewestOf_25 : decode cX11_fewestOf 25 = .ok (.aload_n 0, 1) := by decide +kernel
theorem dX11_fewestOf_26 : decode cX11_fewestOf 26 = .ok (.iload_n 1, 1) := by decide +kernel
theorem dX11_fewestOf_27 : decode cX11_fewestOf 27 = .ok (.iload_n 2, 1) := by decide +kernel
theorem dX11_fewestOf_28 : decode cX11_fewestOf 28 = .ok (.invokevirtual 176, 3) := by decide +kernel
theorem dX11_fewestOf_31 : decode cX11_fewestOf 31 = .ok (.istore_n 3, 1) := by decide +kernel
theorem dX11_fewestOf_32 : decode cX11_fewestOf 32 = .ok (.aload_n 0, 1) := by decide +kernel
theorem dX11_fewestOf_33 : decode cX11_fewestOf 33 = .ok (.getfield 29, 3) := by decide +kernel
theorem dX11_fewestOf_36 : decode cX11_fewestOf 36 = .ok (.iload_n 2, 1) := by decide +kernel
theorem dX11_fewestOf_37 : decode cX11_fewestOf 37 = .ok (.aload_n 0, 1) := by decide +kernel
theorem dX11_fewestOf_38 : decode cX11_fewestOf 38 = .ok (.getfield 29, 3) := by decide +kernel
theorem dX11_fewestOf_41 : decode cX11_fewestOf 41 = .ok (.iload_n 2, 1) := by decide +kernel
theorem dX11_fewestOf_42 : decode cX11_fewestOf 42 = .ok (.iconst 1, 1) := by decide +kernel
theorem dX11_fewestOf_43 : decode cX11_fewestOf 43 = .ok (.iadd, 1) := by decide +kernel
theorem dX11_fewestOf_44 : decode cX11_fewestOf 44 = .ok (.iaload, 1) := by decide +kernel
theorem dX11_fewestOf_45 : decode cX11_fewestOf 45 = .ok (.iconst 1, 1) := by decide +kernel
theorem dX11_fewestOf_46 : decode cX11_fewestOf 46 = .ok (.iadd, 1) := by decide +kernel
theorem dX11_fewestOf_47 : decode cX11_fewestOf 47 = .ok (.iastore, 1) := by decide +kernel
theorem dX11_fewestOf_48 : decode cX11_fewestOf 48 = .ok (.iconst 2, 1) := by decide +kernel
theorem dX11_fewestOf_49 : decode cX11_fewestOf 49 = .ok (.istore 4, 2) := by decide +kernel
theorem dX11_fewestOf_51 : decode cX11_fewestOf 51 = .ok (.iload 4, 2) := by decide +kernel
theorem dX11_fewestOf_53 : decode cX11_fewestOf 53 = .ok (.iload_n 3, 1) := by decide +kernel
theorem dX11_fewestOf_54 : decode cX11_fewestOf 54 = .ok (.if_icmp .gt 55, 3) := by decide +kernel
theorem dX11_fewestOf_57 : decode cX11_fewestOf 57 = .ok (.aload_n 0, 1) := by decide +kernel
theorem dX11_fewestOf_58 : decode cX11_fewestOf 58 = .ok (.getfield 29, 3) := by decide +kernel
theorem dX11_fewestOf_61 : decode cX11_fewestOf 61 = .ok (.iload_n 2, 1) := by decide +kernel
theorem dX11_fewestOf_62 : decode cX11_fewestOf 62 = .ok (.aload_n 0, 1) := by decide +kernel
theorem dX11_fewestOf_63 : decode cX11_fewestOf 63 = .ok (.getfield 29, 3) := by decide +kernel
theorem dX11_fewestOf_66 : decode cX11_fewestOf 66 = .ok (.iload_n 2, 1) := by decide +kernel
theorem dX11_fewestOf_67 : decode cX11_fewestOf 67 = .ok (.iload 4, 2) := by decide +kernel
theorem dX11_fewestOf_69 : decode cX11_fewestOf 69 = .ok (.iadd, 1) := by decide +kernel
theorem dX11_fewestOf_70 : decode cX11_fewestOf 70 = .ok (.iaload, 1) := by decide +kernel
theorem dX11_fewestOf_71 : decode cX11_fewestOf 71 = .ok (.iconst 1, 1) := by decide +kernel
theorem dX11_fewestOf_72 : decode cX11_fewestOf 72 = .ok (.iadd, 1) := by decide +kernel
theorem dX11_fewestOf_73 : decode cX11_fewestOf 73 = .ok (.aload_n 0, 1) := by decide +kernel
theorem dX11_fewestOf_74 : decode cX11_fewestOf 74 = .ok (.getfield 29, 3) := by decide +kernel
theorem dX11_fewestOf_77 : decode cX11_fewestOf 77 = .ok (.iload_n 2, 1) := by decide +kernel
theorem dX11_fewestOf_78 : decode cX11_fewestOf 78 = .ok (.iaload, 1) := by decide +kernel
theorem dX11_fewestOf_79 : decode cX11_fewestOf 79 = .ok (.if_icmp .ge 17, 3) := by decide +kernel
theorem dX11_fewestOf_82 : decode cX11_fewestOf 82 = .ok (.aload_n 0, 1) := by decide +kernel
theorem dX11_fewestOf_83 : decode cX11_fewestOf 83 = .ok (.getfield 29, 3) := by decide +kernel
theorem dX11_fewestOf_86 : decode cX11_fewestOf 86 = .ok (.iload_n 2, 1) := by decide +kernel
theorem dX11_fewestOf_87 : decode cX11_fewestOf 87 = .ok (.iload 4, 2) := by decide +kernel
theorem dX11_fewestOf_89 : decode cX11_fewestOf 89 = .ok (.iadd, 1) := by decide +kernel
theorem dX11_fewestOf_90 : decode cX11_fewestOf 90 = .ok (.iaload, 1) := by decide +kernel
theorem dX11_fewestOf_91 : decode cX11_fewestOf 91 = .ok (.iconst 1, 1) := by decide +kernel
theorem dX11_fewestOf_92 : decode cX11_fewestOf 92 = .ok (.iadd, 1) := by decide +kernel
theorem dX11_fewestOf_93 : decode cX11_fewestOf 93 = .ok (.goto 9, 3) := by decide +kernel
theorem dX11_fewestOf_96 : decode cX11_fewestOf 96 = .ok (.aload_n 0, 1) := by decide +kernel
theorem dX11_fewestOf_97 : decode cX11_fewestOf 97 = .ok (.getfield 29, 3) := by decide +kernel
theorem dX11_fewestOf_100 : decode cX11_fewestOf 100 = .ok (.iload_n 2, 1) := by decide +kernel
theorem dX11_fewestOf_101 : decode cX11_fewestOf 101 = .ok (.iaload, 1) := by decide +kernel
theorem dX11_fewestOf_102 : decode cX11_fewestOf 102 = .ok (.iastore, 1) := by decide +kernel
theorem dX11_fewestOf_103 : decode cX11_fewestOf 103 = .ok (.iinc 4 1, 3) := by decide +kernel
theorem dX11_fewestOf_106 : decode cX11_fewestOf 106 = .ok (.goto (-55), 3) := by decide +kernel
theorem dX11_fewestOf_109 : decode cX11_fewestOf 109 = .ok (.iinc 2 (-1), 3) := by decide +kernel
theorem dX11_fewestOf_112 : decode cX11_fewestOf 112 = .ok (.goto (-91), 3) := by decide +kernel
theorem dX11_fewestOf_115 : decode cX11_fewestOf 115 = .ok (.aload_n 0, 1) := by decide +kernel
theorem dX11_fewestOf_116 : decode cX11_fewestOf 116 = .ok (.getfield 29, 3) := by decide +kernel
theorem dX11_fewestOf_119 : decode cX11_fewestOf 119 = .ok (.iconst 0, 1) := by decide +kernel
theorem dX11_fewestOf_120 : decode cX11_fewestOf 120 = .ok (.iaload, 1) := by decide +kernel
theorem dX11_fewestOf_121 : decode cX11_fewestOf 121 = .ok (.ireturn, 1) := by decide +kernel
theorem dX11_fewest_0 : decode cX11_fewest 0 = .ok (.aload_n 0, 1) := by decide +kernel
theorem dX11_fewest_1 : decode cX11_fewest 1 = .ok (.iload_n 1, 1) := by decide +kernel
theorem dX11_fewest_2 : decode cX11_fewest 2 = .ok (.invokevirtual 68, 3) := by decide +kernel
theorem dX11_fewest_5 : decode cX11_fewest 5 = .ok (.ifCond .eq 7, 3) := by decide +kernel
theorem dX11_fewest_8 : decode cX11_fewest 8 = .ok (.iconst 0, 1) := by decide +kernel
theorem dX11_fewest_9 : decode cX11_fewest 9 = .ok (.goto 8, 3) := by decide +kernel
theorem dX11_fewest_12 : decode cX11_fewest 12 = .ok (.aload_n 0, 1) := by decide +kernel
theorem dX11_fewest_13 : decode cX11_fewest 13 = .ok (.iload_n 1, 1) := by decide +kernel
theorem dX11_fewest_14 : decode cX11_fewest 14 = .ok (.invokevirtual 185, 3) := by decide +kernel
theorem dX11_fewest_17 : decode cX11_fewest 17 = .ok (.ireturn, 1) := by decide +kernel
theorem dX11_commonShare_0 : decode cX11_commonShare 0 = .ok (.aload_n 0, 1) := by decide +kernel
theorem dX11_commonShare_1 : decode cX11_commonShare 1 = .ok (.iload_n 1, 1) := by decide +kernel
theorem dX11_commonShare_2 : decode cX11_commonShare 2 = .ok (.invokevirtual 134, 3) := by decide +kernel
theorem dX11_commonShare_5 : decode cX11_commonShare 5 = .ok (.ifCond .eq 5, 3) := by decide +kernel
theorem dX11_commonShare_8 : decode cX11_commonShare 8 = .ok (.fconst 0, 1) := by decide +kernel
theorem dX11_commonShare_9 : decode cX11_commonShare 9 = .ok (.freturn, 1) := by decide +kernel
theorem dX11_commonShare_10 : decode cX11_commonShare 10 = .ok (.aload_n 0, 1) := by decide +kernel
theorem dX11_commonShare_11 : decode cX11_commonShare 11 = .ok (.iload_n 1, 1) := by decide +kernel
theorem dX11_commonShare_12 : decode cX11_commonShare 12 = .ok (.invokevirtual 93, 3) := by decide +kernel
theorem dX11_commonShare_15 : decode cX11_commonShare 15 = .ok (.iconst 0, 1) := by decide +kernel
theorem dX11_commonShare_16 : decode cX11_commonShare 16 = .ok (.istore_n 2, 1) := by decide +kernel
theorem dX11_commonShare_17 : decode cX11_commonShare 17 = .ok (.iconst 0, 1) := by decide +kernel
theorem dX11_commonShare_18 : decode cX11_commonShare 18 = .ok (.istore_n 3, 1) := by decide +kernel
theorem dX11_commonShare_19 : decode cX11_commonShare 19 = .ok (.iload_n 3, 1) := by decide +kernel
theorem dX11_commonShare_20 : decode cX11_commonShare 20 = .ok (.aload_n 0, 1) := by decide +kernel
theorem dX11_commonShare_21 : decode cX11_commonShare 21 = .ok (.getfield 13, 3) := by decide +kernel
theorem dX11_commonShare_24 : decode cX11_commonShare 24 = .ok (.iload_n 1, 1) := by decide +kernel
theorem dX11_commonShare_25 : decode cX11_commonShare 25 = .ok (.iaload, 1) := by decide +kernel
theorem dX11_commonShare_26 : decode cX11_commonShare 26 = .ok (.if_icmp .ge 26, 3) := by decide +kernel
theorem dX11_commonShare_29 : decode cX11_commonShare 29 = .ok (.iload_n 2, 1) := by decide +kernel
theorem dX11_commonShare_30 : decode cX11_commonShare 30 = .ok (.aload_n 0, 1) := by decide +kernel
theorem dX11_commonShare_31 : decode cX11_commonShare 31 = .ok (.iload_n 1, 1) := by decide +kernel
theorem dX11_commonShare_32 : decode cX11_commonShare 32 = .ok (.iload_n 3, 1) := by decide +kernel
theorem dX11_commonShare_33 : decode cX11_commonShare 33 = .ok (.invokevirtual 105, 3) := by decide +kernel
theorem dX11_commonShare_36 : decode cX11_commonShare 36 = .ok (.ifCond .le 7, 3) := by decide +kernel
theorem dX11_commonShare_39 : decode cX11_commonShare 39 = .ok (.iconst 1, 1) := by decide +kernel
theorem dX11_commonShare_40 : decode cX11_commonShare 40 = .ok (.goto 4, 3) := by decide +kernel
theorem dX11_commonShare_43 : decode cX11_commonShare 43 = .ok (.iconst 0, 1) := by decide +kernel
theorem dX11_commonShare_44 : decode cX11_commonShare 44 = .ok (.iadd, 1) := by decide +kernel
theorem dX11_commonShare_45 : decode cX11_commonShare 45 = .ok (.istore_n 2, 1) := by decide +kernel
theorem dX11_commonShare_46 : decode cX11_commonShare 46 = .ok (.iinc 3 1, 3) := by decide +kernel
theorem dX11_commonShare_49 : decode cX11_commonShare 49 = .ok (.goto (-30), 3) := by decide +kernel
theorem dX11_commonShare_52 : decode cX11_commonShare 52 = .ok (.iload_n 2, 1) := by decide +kernel
theorem dX11_commonShare_53 : decode cX11_commonShare 53 = .ok (.i2f, 1) := by decide +kernel
theorem dX11_commonShare_54 : decode cX11_commonShare 54 = .ok (.aload_n 0, 1) := by decide +kernel
theorem dX11_commonShare_55 : decode cX11_commonShare 55 = .ok (.getfield 13, 3) := by decide +kernel
theorem dX11_commonShare_58 : decode cX11_commonShare 58 = .ok (.iload_n 1, 1) := by decide +kernel
theorem dX11_commonShare_59 : decode cX11_commonShare 59 = .ok (.iaload, 1) := by decide +kernel
theorem dX11_commonShare_60 : decode cX11_commonShare 60 = .ok (.i2f, 1) := by decide +kernel
theorem dX11_commonShare_61 : decode cX11_commonShare 61 = .ok (.fdiv, 1) := by decide +kernel
theorem dX11_commonShare_62 : decode cX11_commonShare 62 = .ok (.freturn, 1) := by decide +kernel
theorem dX11_commons_0 : decode cX11_commons 0 = .ok (.aload_n 0, 1) := by decide +kernel
theorem dX11_commons_1 : decode cX11_commons 1 = .ok (.iload_n 1, 1) := by decide +kernel
theorem dX11_commons_2 : decode cX11_commons 2 = .ok (.invokevirtual 93, 3) := by decide +kernel
theorem dX11_commons_5 : decode cX11_commons 5 = .ok (.iconst 0, 1) := by decide +kernel
theorem dX11_commons_6 : decode cX11_commons 6 = .ok (.istore_n 2, 1) := by decide +kernel
theorem dX11_commons_7 : decode cX11_commons 7 = .ok (.iconst 0, 1) := by decide +kernel
theorem dX11_commons_8 : decode cX11_commons 8 = .ok (.istore_n 3, 1) := by decide +kernel
theorem dX11_commons_9 : decode cX11_commons 9 = .ok (.iload_n 3, 1) := by decide +kernel
theorem dX11_commons_10 : decode cX11_commons 10 = .ok (.aload_n 0, 1) := by decide +kernel
theorem dX11_commons_11 : decode cX11_commons 11 = .ok (.getfield 13, 3) := by decide +kernel
theorem dX11_commons_14 : decode cX11_commons 14 = .ok (.iload_n 1, 1) := by decide +kernel
theorem dX11_commons_15 : decode cX11_commons 15 = .ok (.iaload, 1) := by decide +kernel
theorem dX11_commons_16 : decode cX11_commons 16 = .ok (.if_icmp .ge 18, 3) := by decide +kernel
theorem dX11_commons_19 : decode cX11_commons 19 = .ok (.iload_n 2, 1) := by decide +kernel
theorem dX11_commons_20 : decode cX11_commons 20 = .ok (.aload_n 0, 1) := by decide +kernel
theorem dX11_commons_21 : decode cX11_commons 21 = .ok (.iload_n 1, 1) := by decide +kernel
theorem dX11_commons_22 : decode cX11_commons 22 = .ok (.iload_n 3, 1) := by decide +kernel
theorem dX11_commons_23 : decode cX11_commons 23 = .ok (.invokevirtual 105, 3) := by decide +kernel
theorem dX11_commons_26 : decode cX11_commons 26 = .ok (.iadd, 1) := by decide +kernel
theorem dX11_commons_27 : decode cX11_commons 27 = .ok (.istore_n 2, 1) := by decide +kernel
theorem dX11_commons_28 : decode cX11_commons 28 = .ok (.iinc 3 1, 3) := by decide +kernel
theorem dX11_commons_31 : decode cX11_commons 31 = .ok (.goto (-22), 3) := by decide +kernel
theorem dX11_commons_34 : decode cX11_commons 34 = .ok (.iload_n 2, 1) := by decide +kernel
theorem dX11_commons_35 : decode cX11_commons 35 = .ok (.ireturn, 1) := by decide +kernel
theorem dX11_meanCommon_0 : decode cX11_meanCommon 0 = .ok (.aload_n 0, 1) := by decide +kernel
theorem dX11_meanCommon_1 : decode cX11_meanCommon 1 = .ok (.iload_n 1, 1) := by decide +kernel
theorem dX11_meanCommon_2 : decode cX11_meanCommon 2 = .ok (.invokevirtual 134, 3) := by decide +kernel
theorem dX11_meanCommon_5 : decode cX11_meanCommon 5 = .ok (.ifCond .eq 7, 3) := by decide +kernel
theorem dX11_meanCommon_8 : decode cX11_meanCommon 8 = .ok (.dconst 0, 1) := by decide +kernel
theorem dX11_meanCommon_9 : decode cX11_meanCommon 9 = .ok (.goto 17, 3) := by decide +kernel
theorem dX11_meanCommon_12 : decode cX11_meanCommon 12 = .ok (.aload_n 0, 1) := by decide +kernel
theorem dX11_meanCommon_13 : decode cX11_meanCommon 13 = .ok (.iload_n 1, 1) := by decide +kernel
theorem dX11_meanCommon_14 : decode cX11_meanCommon 14 = .ok (.invokevirtual 188, 3) := by decide +kernel
theorem dX11_meanCommon_17 : decode cX11_meanCommon 17 = .ok (.i2d, 1) := by decide +kernel
theorem dX11_meanCommon_18 : decode cX11_meanCommon 18 = .ok (.aload_n 0, 1) := by decide +kernel
theorem dX11_meanCommon_19 : decode cX11_meanCommon 19 = .ok (.getfield 13, 3) := by decide +kernel
theorem dX11_meanCommon_22 : decode cX11_meanCommon 22 = .ok (.iload_n 1, 1) := by decide +kernel
theorem dX11_meanCommon_23 : decode cX11_meanCommon 23 = .ok (.iaload, 1) := by decide +kernel
theorem dX11_meanCommon_24 : decode cX11_meanCommon 24 = .ok (.i2d, 1) := by decide +kernel
theorem dX11_meanCommon_25 : decode cX11_meanCommon 25 = .ok (.ddiv, 1) := by decide +kernel
theorem dX11_meanCommon_26 : decode cX11_meanCommon 26 = .ok (.dreturn, 1) := by decide +kernel
theorem dX11_checksum_0 : decode cX11_checksum 0 = .ok (.aload_n 0, 1) := by decide +kernel
theorem dX11_checksum_1 : decode cX11_checksum 1 = .ok (.iconst 0, 1) := by decide +kernel
theorem dX11_checksum_2 : decode cX11_checksum 2 = .ok (.putfield 35, 3) := by decide +kernel
theorem dX11_checksum_5 : decode cX11_checksum 5 = .ok (.ldc2_w 191, 3) := by decide +kernel
theorem dX11_checksum_8 : decode cX11_checksum 8 = .ok (.lstore_n 1, 1) := by decide +kernel
theorem dX11_checksum_9 : decode cX11_checksum 9 = .ok (.iconst 0, 1) := by decide +kernel
theorem dX11_checksum_10 : decode cX11_checksum 10 = .ok (.istore_n 3, 1) := by decide +kernel
theorem dX11_checksum_11 : decode cX11_checksum 11 = .ok (.iload_n 3, 1) := by decide +kernel
theorem dX11_checksum_12 : decode cX11_checksum 12 = .ok (.aload_n 0, 1) := by decide +kernel
theorem dX11_checksum_13 : decode cX11_checksum 13 = .ok (.getfield 39, 3) := by decide +kernel
theorem dX11_checksum_16 : decode cX11_checksum 16 = .ok (.if_icmp .ge 76, 3) := by decide +kernel
theorem dX11_checksum_19 : decode cX11_checksum 19 = .ok (.ldc2_w 193, 3) := by decide +kernel
theorem dX11_checksum_22 : decode cX11_checksum 22 = .ok (.lload_n 1, 1) := by decide +kernel
theorem dX11_checksum_23 : decode cX11_checksum 23 = .ok (.lmul, 1) := by decide +kernel
theorem dX11_checksum_24 : decode cX11_checksum 24 = .ok (.aload_n 0, 1) := by decide +kernel
theorem dX11_checksum_25 : decode cX11_checksum 25 = .ok (.getfield 13, 3) := by decide +kernel
theorem dX11_checksum_28 : decode cX11_checksum 28 = .ok (.iload_n 3, 1) := by decide +kernel
theorem dX11_checksum_29 : decode cX11_checksum 29 = .ok (.iaload, 1) := by decide +kernel
theorem dX11_checksum_30 : decode cX11_checksum 30 = .ok (.i2l, 1) := by decide +kernel
theorem dX11_checksum_31 : decode cX11_checksum 31 = .ok (.ladd, 1) := by decide +kernel
theorem dX11_checksum_32 : decode cX11_checksum 32 = .ok (.lstore_n 1, 1) := by decide +kernel
theorem dX11_checksum_33 : decode cX11_checksum 33 = .ok (.aload_n 0, 1) := by decide +kernel
theorem dX11_checksum_34 : decode cX11_checksum 34 = .ok (.iload_n 3, 1) := by decide +kernel
theorem dX11_checksum_35 : decode cX11_checksum 35 = .ok (.invokevirtual 93, 3) := by decide +kernel
theorem dX11_checksum_38 : decode cX11_checksum 38 = .ok (.iconst 0, 1) := by decide +kernel
theorem dX11_checksum_39 : decode cX11_checksum 39 = .ok (.istore 4, 2) := by decide +kernel
theorem dX11_checksum_41 : decode cX11_checksum 41 = .ok (.iload 4, 2) := by decide +kernel
theorem dX11_checksum_43 : decode cX11_checksum 43 = .ok (.aload_n 0, 1) := by decide +kernel
theorem dX11_checksum_44 : decode cX11_checksum 44 = .ok (.getfield 13, 3) := by decide +kernel
theorem dX11_checksum_47 : decode cX11_checksum 47 = .ok (.iload_n 3, 1) := by decide +kernel
theorem dX11_checksum_48 : decode cX11_checksum 48 = .ok (.iaload, 1) := by decide +kernel
theorem dX11_checksum_49 : decode cX11_checksum 49 = .ok (.if_icmp .ge 37, 3) := by decide +kernel
theorem dX11_checksum_52 : decode cX11_checksum 52 = .ok (.ldc2_w 193, 3) := by decide +kernel
theorem dX11_checksum_55 : decode cX11_checksum 55 = .ok (.ldc2_w 193, 3) := by decide +kernel
theorem dX11_checksum_58 : decode cX11_checksum 58 = .ok (.lload_n 1, 1) := by decide +kernel
theorem dX11_checksum_59 : decode cX11_checksum 59 = .ok (.lmul, 1) := by decide +kernel
theorem dX11_checksum_60 : decode cX11_checksum 60 = .ok (.aload_n 0, 1) := by decide +kernel
theorem dX11_checksum_61 : decode cX11_checksum 61 = .ok (.getfield 20, 3) := by decide +kernel
theorem dX11_checksum_64 : decode cX11_checksum 64 = .ok (.iload 4, 2) := by decide +kernel
theorem dX11_checksum_66 : decode cX11_checksum 66 = .ok (.iaload, 1) := by decide +kernel
theorem dX11_checksum_67 : decode cX11_checksum 67 = .ok (.i2l, 1) := by decide +kernel
theorem dX11_checksum_68 : decode cX11_checksum 68 = .ok (.ladd, 1) := by decide +kernel
theorem dX11_checksum_69 : decode cX11_checksum 69 = .ok (.lmul, 1) := by decide +kernel
theorem dX11_checksum_70 : decode cX11_checksum 70 = .ok (.aload_n 0, 1) := by decide +kernel
theorem dX11_checksum_71 : decode cX11_checksum 71 = .ok (.iload_n 3, 1) := by decide +kernel
theorem dX11_checksum_72 : decode cX11_checksum 72 = .ok (.iload 4, 2) := by decide +kernel
theorem dX11_checksum_74 : decode cX11_checksum 74 = .ok (.invokevirtual 105, 3) := by decide +kernel
theorem dX11_checksum_77 : decode cX11_checksum 77 = .ok (.i2l, 1) := by decide +kernel
theorem dX11_checksum_78 : decode cX11_checksum 78 = .ok (.ladd, 1) := by decide +kernel
theorem dX11_checksum_79 : decode cX11_checksum 79 = .ok (.lstore_n 1, 1) := by decide +kernel
theorem dX11_checksum_80 : decode cX11_checksum 80 = .ok (.iinc 4 1, 3) := by decide +kernel
theorem dX11_checksum_83 : decode cX11_checksum 83 = .ok (.goto (-42), 3) := by decide +kernel
theorem dX11_checksum_86 : decode cX11_checksum 86 = .ok (.iinc 3 1, 3) := by decide +kernel
theorem dX11_checksum_89 : decode cX11_checksum 89 = .ok (.goto (-78), 3) := by decide +kernel
theorem dX11_checksum_92 : decode cX11_checksum 92 = .ok (.lload_n 1, 1) := by decide +kernel
theorem dX11_checksum_93 : decode cX11_checksum 93 = .ok (.lreturn, 1) := by decide +kernel
theorem dX11_isSound_0 : decode cX11_isSound 0 = .ok (.aload_n 0, 1) := by decide +kernel
theorem dX11_isSound_1 : decode cX11_isSound 1 = .ok (.iconst 0, 1) := by decide +kernel
theorem dX11_isSound_2 : decode cX11_isSound 2 = .ok (.putfield 35, 3) := by decide +kernel
theorem dX11_isSound_5 : decode cX11_isSound 5 = .ok (.iconst 1, 1) := by decide +kernel
theorem dX11_isSound_6 : decode cX11_isSound 6 = .ok (.istore_n 1, 1) := by decide +kernel
theorem dX11_isSound_7 : decode cX11_isSound 7 = .ok (.iconst 0, 1) := by decide +kernel
theorem dX11_isSound_8 : decode cX11_isSound 8 = .ok (.istore_n 2, 1) := by decide +kernel
theorem dX11_isSound_9 : decode cX11_isSound 9 = .ok (.iload_n 2, 1) := by decide +kernel
theorem dX11_isSound_10 : decode cX11_isSound 10 = .ok (.aload_n 0, 1) := by decide +kernel
theorem dX11_isSound_11 : decode cX11_isSound 11 = .ok (.getfield 39, 3) := by decide +kernel
theorem dX11_isSound_14 : decode cX11_isSound 14 = .ok (.if_icmp .ge 220, 3) := by decide +kernel
theorem dX11_isSound_17 : decode cX11_isSound 17 = .ok (.aload_n 0, 1) := by decide +kernel
theorem dX11_isSound_18 : decode cX11_isSound 18 = .ok (.getfield 13, 3) := by decide +kernel
theorem dX11_isSound_21 : decode cX11_isSound 21 = .ok (.iload_n 2, 1) := by decide +kernel
theorem dX11_isSound_22 : decode cX11_isSound 22 = .ok (.iaload, 1) := by decide +kernel
theorem dX11_isSound_23 : decode cX11_isSound 23 = .ok (.istore_n 3, 1) := by decide +kernel
theorem dX11_isSound_24 : decode cX11_isSound 24 = .ok (.iload_n 1, 1) := by decide +kernel
theorem dX11_isSound_25 : decode cX11_isSound 25 = .ok (.aload_n 0, 1) := by decide +kernel
theorem dX11_isSound_26 : decode cX11_isSound 26 = .ok (.iload_n 2, 1) := by decide +kernel
theorem dX11_isSound_27 : decode cX11_isSound 27 = .ok (.invokevirtual 120, 3) := by decide +kernel
theorem dX11_isSound_30 : decode cX11_isSound 30 = .ok (.iload_n 3, 1) := by decide +kernel
theorem dX11_isSound_31 : decode cX11_isSound 31 = .ok (.i2l, 1) := by decide +kernel
theorem dX11_isSound_32 : decode cX11_isSound 32 = .ok (.iload_n 3, 1) := by decide +kernel
theorem dX11_isSound_33 : decode cX11_isSound 33 = .ok (.i2l, 1) := by decide +kernel
theorem dX11_isSound_34 : decode cX11_isSound 34 = .ok (.lconst 1, 1) := by decide +kernel
theorem dX11_isSound_35 : decode cX11_isSound 35 = .ok (.ladd, 1) := by decide +kernel
theorem dX11_isSound_36 : decode cX11_isSound 36 = .ok (.lmul, 1) := by decide +kernel
theorem dX11_isSound_37 : decode cX11_isSound 37 = .ok (.ldc2_w 195, 3) := by decide +kernel
theorem dX11_isSound_40 : decode cX11_isSound 40 = .ok (.ldiv, 1) := by decide +kernel
theorem dX11_isSound_41 : decode cX11_isSound 41 = .ok (.aload_n 0, 1) := by decide +kernel
theorem dX11_isSound_42 : decode cX11_isSound 42 = .ok (.iload_n 2, 1) := by decide +kernel
theorem dX11_isSound_43 : decode cX11_isSound 43 = .ok (.invokevirtual 188, 3) := by decide +kernel
theorem dX11_isSound_46 : decode cX11_isSound 46 = .ok (.i2l, 1) := by decide +kernel
theorem dX11_isSound_47 : decode cX11_isSound 47 = .ok (.lsub, 1) := by decide +kernel
theorem dX11_isSound_48 : decode cX11_isSound 48 = .ok (.lcmp, 1) := by decide +kernel
theorem dX11_isSound_49 : decode cX11_isSound 49 = .ok (.ifCond .ne 7, 3) := by decide +kernel
theorem dX11_isSound_52 : decode cX11_isSound 52 = .ok (.iconst 1, 1) := by decide +kernel
theorem dX11_isSound_53 : decode cX11_isSound 53 = .ok (.goto 4, 3) := by decide +kernel
theorem dX11_isSound_56 : decode cX11_isSound 56 = .ok (.iconst 0, 1) := by decide +kernel
theorem dX11_isSound_57 : decode cX11_isSound 57 = .ok (.iand, 1) := by decide +kernel
theorem dX11_isSound_58 : decode cX11_isSound 58 = .ok (.istore_n 1, 1) := by decide +kernel
theorem dX11_isSound_59 : decode cX11_isSound 59 = .ok (.iconst 0, 1) := by decide +kernel
theorem dX11_isSound_60 : decode cX11_isSound 60 = .ok (.istore 4, 2) := by decide +kernel
theorem dX11_isSound_62 : decode cX11_isSound 62 = .ok (.iconst 0, 1) := by decide +kernel
theorem dX11_isSound_63 : decode cX11_isSound 63 = .ok (.istore 5, 2) := by decide +kernel
theorem dX11_isSound_65 : decode cX11_isSound 65 = .ok (.iload 5, 2) := by decide +kernel
theorem dX11_isSound_67 : decode cX11_isSound 67 = .ok (.iload_n 3, 1) := by decide +kernel
theorem dX11_isSound_68 : decode cX11_isSound 68 = .ok (.if_icmp .ge 35, 3) := by decide +kernel
theorem dX11_isSound_71 : decode cX11_isSound 71 = .ok (.aload_n 0, 1) := by decide +kernel
theorem dX11_isSound_72 : decode cX11_isSound 72 = .ok (.iload_n 2, 1) := by decide +kernel
theorem dX11_isSound_73 : decode cX11_isSound 73 = .ok (.iload 5, 2) := by decide +kernel
theorem dX11_isSound_75 : decode cX11_isSound 75 = .ok (.invokevirtual 105, 3) := by decide +kernel
theorem dX11_isSound_78 : decode cX11_isSound 78 = .ok (.iload 4, 2) := by decide +kernel
theorem dX11_isSound_80 : decode cX11_isSound 80 = .ok (.if_icmp .le 13, 3) := by decide +kernel
theorem dX11_isSound_83 : decode cX11_isSound 83 = .ok (.aload_n 0, 1) := by decide +kernel
theorem dX11_isSound_84 : decode cX11_isSound 84 = .ok (.iload_n 2, 1) := by decide +kernel
theorem dX11_isSound_85 : decode cX11_isSound 85 = .ok (.iload 5, 2) := by decide +kernel
theorem dX11_isSound_87 : decode cX11_isSound 87 = .ok (.invokevirtual 105, 3) := by decide +kernel
theorem dX11_isSound_90 : decode cX11_isSound 90 = .ok (.goto 5, 3) := by decide +kernel
theorem dX11_isSound_93 : decode cX11_isSound 93 = .ok (.iload 4, 2) := by decide +kernel
theorem dX11_isSound_95 : decode cX11_isSound 95 = .ok (.istore 4, 2) := by decide +kernel
theorem dX11_isSound_97 : decode cX11_isSound 97 = .ok (.iinc 5 1, 3) := by decide +kernel
theorem dX11_isSound_100 : decode cX11_isSound 100 = .ok (.goto (-35), 3) := by decide +kernel
theorem dX11_isSound_103 : decode cX11_isSound 103 = .ok (.iload_n 1, 1) := by decide +kernel
theorem dX11_isSound_104 : decode cX11_isSound 104 = .ok (.iload 4, 2) := by decide +kernel
theorem dX11_isSound_106 : decode cX11_isSound 106 = .ok (.aload_n 0, 1) := by decide +kernel
theorem dX11_isSound_107 : decode cX11_isSound 107 = .ok (.iload_n 2, 1) := by decide +kernel
theorem dX11_isSound_108 : decode cX11_isSound 108 = .ok (.invokevirtual 124, 3) := by decide +kernel
theorem dX11_isSound_111 : decode cX11_isSound 111 = .ok (.if_icmp .ne 20, 3) := by decide +kernel
theorem dX11_isSound_114 : decode cX11_isSound 114 = .ok (.aload_n 0, 1) := by decide +kernel
theorem dX11_isSound_115 : decode cX11_isSound 115 = .ok (.iload_n 2, 1) := by decide +kernel
theorem dX11_isSound_116 : decode cX11_isSound 116 = .ok (.invokevirtual 179, 3) := by decide +kernel
theorem dX11_isSound_119 : decode cX11_isSound 119 = .ok (.aload_n 0, 1) := by decide +kernel
theorem dX11_isSound_120 : decode cX11_isSound 120 = .ok (.iload_n 2, 1) := by decide +kernel
theorem dX11_isSound_121 : decode cX11_isSound 121 = .ok (.invokevirtual 185, 3) := by decide +kernel
theorem dX11_isSound_124 : decode cX11_isSound 124 = .ok (.if_icmp .ne 7, 3) := by decide +kernel
theorem dX11_isSound_127 : decode cX11_isSound 127 = .ok (.iconst 1, 1) := by decide +kernel
theorem dX11_isSound_128 : decode cX11_isSound 128 = .ok (.goto 4, 3) := by decide +kernel
theorem dX11_isSound_131 : decode cX11_isSound 131 = .ok (.iconst 0, 1) := by decide +kernel
theorem dX11_isSound_132 : decode cX11_isSound 132 = .ok (.iand, 1) := by decide +kernel
theorem dX11_isSound_133 : decode cX11_isSound 133 = .ok (.istore_n 1, 1) := by decide +kernel
theorem dX11_isSound_134 : decode cX11_isSound 134 = .ok (.aload_n 0, 1) := by decide +kernel
theorem dX11_isSound_135 : decode cX11_isSound 135 = .ok (.iload_n 2, 1) := by decide +kernel
theorem dX11_isSound_136 : decode cX11_isSound 136 = .ok (.invokevirtual 173, 3) := by decide +kernel
theorem dX11_isSound_139 : decode cX11_isSound 139 = .ok (.istore 5, 2) := by decide +kernel
theorem dX11_isSound_141 : decode cX11_isSound 141 = .ok (.iload_n 3, 1) := by decide +kernel
theorem dX11_isSound_142 : decode cX11_isSound 142 = .ok (.istore 6, 2) := by decide +kernel
theorem dX11_isSound_144 : decode cX11_isSound 144 = .ok (.iconst 0, 1) := by decide +kernel
theorem dX11_isSound_145 : decode cX11_isSound 145 = .ok (.istore 7, 2) := by decide +kernel
theorem dX11_isSound_147 : decode cX11_isSound 147 = .ok (.iconst 0, 1) := by decide +kernel
theorem dX11_isSound_148 : decode cX11_isSound 148 = .ok (.istore 8, 2) := by decide +kernel
theorem dX11_isSound_150 : decode cX11_isSound 150 = .ok (.iload 8, 2) := by decide +kernel
theorem dX11_isSound_152 : decode cX11_isSound 152 = .ok (.iload_n 3, 1) := by decide +kernel
theorem dX11_isSound_153 : decode cX11_isSound 153 = .ok (.if_icmp .ge 60, 3) := by decide +kernel
theorem dX11_isSound_156 : decode cX11_isSound 156 = .ok (.aload_n 0, 1) := by decide +kernel
theorem dX11_isSound_157 : decode cX11_isSound 157 = .ok (.iload_n 2, 1) := by decide +kernel
theorem dX11_isSound_158 : decode cX11_isSound 158 = .ok (.iload 8, 2) := by decide +kernel
theorem dX11_isSound_160 : decode cX11_isSound 160 = .ok (.invokevirtual 78, 3) := by decide +kernel
theorem dX11_isSound_163 : decode cX11_isSound 163 = .ok (.iload 6, 2) := by decide +kernel
theorem dX11_isSound_165 : decode cX11_isSound 165 = .ok (.if_icmp .ge 42, 3) := by decide +kernel
theorem dX11_isSound_168 : decode cX11_isSound 168 = .ok (.iload_n 1, 1) := by decide +kernel
theorem dX11_isSound_169 : decode cX11_isSound 169 = .ok (.iload 7, 2) := by decide +kernel
theorem dX11_isSound_171 : decode cX11_isSound 171 = .ok (.iload 5, 2) := by decide +kernel
theorem dX11_isSound_173 : decode cX11_isSound 173 = .ok (.if_icmp .ge 19, 3) := by decide +kernel
theorem dX11_isSound_176 : decode cX11_isSound 176 = .ok (.aload_n 0, 1) := by decide +kernel
theorem dX11_isSound_177 : decode cX11_isSound 177 = .ok (.getfield 29, 3) := by decide +kernel
theorem dX11_isSound_180 : decode cX11_isSound 180 = .ok (.iload 7, 2) := by decide +kernel
theorem dX11_isSound_182 : decode cX11_isSound 182 = .ok (.iaload, 1) := by decide +kernel
theorem dX11_isSound_183 : decode cX11_isSound 183 = .ok (.iload 8, 2) := by decide +kernel
theorem dX11_isSound_185 : decode cX11_isSound 185 = .ok (.if_icmp .ne 7, 3) := by decide +kernel
theorem dX11_isSound_188 : decode cX11_isSound 188 = .ok (.iconst 1, 1) := by decide +kernel
theorem dX11_isSound_189 : decode cX11_isSound 189 = .ok (.goto 4, 3) := by decide +kernel
theorem dX11_isSound_192 : decode cX11_isSound 192 = .ok (.iconst 0, 1) := by decide +kernel
theorem dX11_isSound_193 : decode cX11_isSound 193 = .ok (.iand, 1) := by decide +kernel
theorem dX11_isSound_194 : decode cX11_isSound 194 = .ok (.istore_n 1, 1) := by decide +kernel
theorem dX11_isSound_195 : decode cX11_isSound 195 = .ok (.aload_n 0, 1) := by decide +kernel
theorem dX11_isSound_196 : decode cX11_isSound 196 = .ok (.iload_n 2, 1) := by decide +kernel
theorem dX11_isSound_197 : decode cX11_isSound 197 = .ok (.iload 8, 2) := by decide +kernel
theorem dX11_isSound_199 : decode cX11_isSound 199 = .ok (.invokevirtual 78, 3) := by decide +kernel
theorem dX11_isSound_202 : decode cX11_isSound 202 = .ok (.istore 6, 2) := by decide +kernel
theorem dX11_isSound_204 : decode cX11_isSound 204 = .ok (.iinc 7 1, 3) := by decide +kernel
theorem dX11_isSound_207 : decode cX11_isSound 207 = .ok (.iinc 8 1, 3) := by decide +kernel
theorem dX11_isSound_210 : decode cX11_isSound 210 = .ok (.goto (-60), 3) := by decide +kernel
theorem dX11_isSound_213 : decode cX11_isSound 213 = .ok (.iload_n 1, 1) := by decide +kernel
theorem dX11_isSound_214 : decode cX11_isSound 214 = .ok (.iload 7, 2) := by decide +kernel
theorem dX11_isSound_216 : decode cX11_isSound 216 = .ok (.iload 5, 2) := by decide +kernel
theorem dX11_isSound_218 : decode cX11_isSound 218 = .ok (.if_icmp .ne 7, 3) := by decide +kernel
theorem dX11_isSound_221 : decode cX11_isSound 221 = .ok (.iconst 1, 1) := by decide +kernel
theorem dX11_isSound_222 : decode cX11_isSound 222 = .ok (.goto 4, 3) := by decide +kernel
theorem dX11_isSound_225 : decode cX11_isSound 225 = .ok (.iconst 0, 1) := by decide +kernel
theorem dX11_isSound_226 : decode cX11_isSound 226 = .ok (.iand, 1) := by decide +kernel
theorem dX11_isSound_227 : decode cX11_isSound 227 = .ok (.istore_n 1, 1) := by decide +kernel
theorem dX11_isSound_228 : decode cX11_isSound 228 = .ok (.iinc 2 1, 3) := by decide +kernel
theorem dX11_isSound_231 : decode cX11_isSound 231 = .ok (.goto (-222), 3) := by decide +kernel
theorem dX11_isSound_234 : decode cX11_isSound 234 = .ok (.iload_n 1, 1) := by decide +kernel
theorem dX11_isSound_235 : decode cX11_isSound 235 = .ok (.ireturn, 1) := by decide +kernel
theorem dL_type_0 : decode cL_type 0 = .ok (.aload_n 2, 1) := by decide +kernel
theorem dL_type_1 : decode cL_type 1 = .ok (.iconst 0, 1) := by decide +kernel
theorem dL_type_2 : decode cL_type 2 = .ok (.aload_n 0, 1) := by decide +kernel
theorem dL_type_3 : decode cL_type 3 = .ok (.iload_n 1, 1) := by decide +kernel
theorem dL_type_4 : decode cL_type 4 = .ok (.invokevirtual 7, 3) := by decide +kernel
theorem dL_type_7 : decode cL_type 7 = .ok (.i2l, 1) := by decide +kernel
theorem dL_type_8 : decode cL_type 8 = .ok (.lastore, 1) := by decide +kernel
theorem dL_type_9 : decode cL_type 9 = .ok (.goto 9, 3) := by decide +kernel
theorem dL_type_12 : decode cL_type 12 = .ok (.astore_n 3, 1) := by decide +kernel
theorem dL_type_13 : decode cL_type 13 = .ok (.iconst 1, 1) := by decide +kernel
theorem dL_type_14 : decode cL_type 14 = .ok (.ireturn, 1) := by decide +kernel
theorem dL_type_15 : decode cL_type 15 = .ok (.astore_n 3, 1) := by decide +kernel
theorem dL_type_16 : decode cL_type 16 = .ok (.iconst 2, 1) := by decide +kernel
theorem dL_type_17 : decode cL_type 17 = .ok (.ireturn, 1) := by decide +kernel
theorem dL_type_18 : decode cL_type 18 = .ok (.iconst 0, 1) := by decide +kernel
theorem dL_type_19 : decode cL_type 19 = .ok (.ireturn, 1) := by decide +kernel
theorem dL_typeMore_0 : decode cL_typeMore 0 = .ok (.aload 10, 2) := by decide +kernel
theorem dL_typeMore_2 : decode cL_typeMore 2 = .ok (.iconst 0, 1) := by decide +kernel
theorem dL_typeMore_3 : decode cL_typeMore 3 = .ok (.aload_n 0, 1) := by decide +kernel
theorem dL_typeMore_4 : decode cL_typeMore 4 = .ok (.iload_n 1, 1) := by decide +kernel
theorem dL_typeMore_5 : decode cL_typeMore 5 = .ok (.iload_n 2, 1) := by decide +kernel
theorem dL_typeMore_6 : decode cL_typeMore 6 = .ok (.iload_n 3, 1) := by decide +kernel
theorem dL_typeMore_7 : decode cL_typeMore 7 = .ok (.iload 4, 2) := by decide +kernel
theorem dL_typeMore_9 : decode cL_typeMore 9 = .ok (.iload 5, 2) := by decide +kernel
theorem dL_typeMore_11 : decode cL_typeMore 11 = .ok (.iload 6, 2) := by decide +kernel
theorem dL_typeMore_13 : decode cL_typeMore 13 = .ok (.iload 7, 2) := by decide +kernel
theorem dL_typeMore_15 : decode cL_typeMore 15 = .ok (.iload 8, 2) := by decide +kernel
theorem dL_typeMore_17 : decode cL_typeMore 17 = .ok (.iload 9, 2) := by decide +kernel
theorem dL_typeMore_19 : decode cL_typeMore 19 = .ok (.invokevirtual 17, 3) := by decide +kernel
theorem dL_typeMore_22 : decode cL_typeMore 22 = .ok (.i2l, 1) := by decide +kernel
theorem dL_typeMore_23 : decode cL_typeMore 23 = .ok (.lastore, 1) := by decide +kernel
theorem dL_typeMore_24 : decode cL_typeMore 24 = .ok (.goto 11, 3) := by decide +kernel
theorem dL_typeMore_27 : decode cL_typeMore 27 = .ok (.astore 11, 2) := by decide +kernel
theorem dL_typeMore_29 : decode cL_typeMore 29 = .ok (.iconst 1, 1) := by decide +kernel
theorem dL_typeMore_30 : decode cL_typeMore 30 = .ok (.ireturn, 1) := by decide +kernel
theorem dL_typeMore_31 : decode cL_typeMore 31 = .ok (.astore 11, 2) := by decide +kernel
theorem dL_typeMore_33 : decode cL_typeMore 33 = .ok (.iconst 2, 1) := by decide +kernel
theorem dL_typeMore_34 : decode cL_typeMore 34 = .ok (.ireturn, 1) := by decide +kernel
theorem dL_typeMore_35 : decode cL_typeMore 35 = .ok (.iconst 0, 1) := by decide +kernel
theorem dL_typeMore_36 : decode cL_typeMore 36 = .ok (.ireturn, 1) := by decide +kernel
theorem dL_typed_0 : decode cL_typed 0 = .ok (.aload_n 2, 1) := by decide +kernel
theorem dL_typed_1 : decode cL_typed 1 = .ok (.iconst 0, 1) := by decide +kernel
theorem dL_typed_2 : decode cL_typed 2 = .ok (.aload_n 0, 1) := by decide +kernel
theorem dL_typed_3 : decode cL_typed 3 = .ok (.iload_n 1, 1) := by decide +kernel
theorem dL_typed_4 : decode cL_typed 4 = .ok (.invokevirtual 21, 3) := by decide +kernel
theorem dL_typed_7 : decode cL_typed 7 = .ok (.i2l, 1) := by decide +kernel
theorem dL_typed_8 : decode cL_typed 8 = .ok (.lastore, 1) := by decide +kernel
theorem dL_typed_9 : decode cL_typed 9 = .ok (.goto 6, 3) := by decide +kernel
theorem dL_typed_12 : decode cL_typed 12 = .ok (.astore_n 3, 1) := by decide +kernel
theorem dL_typed_13 : decode cL_typed 13 = .ok (.iconst 1, 1) := by decide +kernel
theorem dL_typed_14 : decode cL_typed 14 = .ok (.ireturn, 1) := by decide +kernel
theorem dL_typed_15 : decode cL_typed 15 = .ok (.iconst 0, 1) := by decide +kernel
theorem dL_typed_16 : decode cL_typed 16 = .ok (.ireturn, 1) := by decide +kernel
theorem dL_text_0 : decode cL_text 0 = .ok (.aload_n 1, 1) := by decide +kernel
theorem dL_text_1 : decode cL_text 1 = .ok (.iconst 0, 1) := by decide +kernel
theorem dL_text_2 : decode cL_text 2 = .ok (.aload_n 0, 1) := by decide +kernel
theorem dL_text_3 : decode cL_text 3 = .ok (.invokevirtual 27, 3) := by decide +kernel
theorem dL_text_6 : decode cL_text 6 = .ok (.i2l, 1) := by decide +kernel
theorem dL_text_7 : decode cL_text 7 = .ok (.lastore, 1) := by decide +kernel
theorem dL_text_8 : decode cL_text 8 = .ok (.goto 9, 3) := by decide +kernel
theorem dL_text_11 : decode cL_text 11 = .ok (.astore_n 2, 1) := by decide +kernel
theorem dL_text_12 : decode cL_text 12 = .ok (.iconst 1, 1) := by decide +kernel
theorem dL_text_13 : decode cL_text 13 = .ok (.ireturn, 1) := by decide +kernel
theorem dL_text_14 : decode cL_text 14 = .ok (.astore_n 2, 1) := by decide +kernel
theorem dL_text_15 : decode cL_text 15 = .ok (.iconst 2, 1) := by decide +kernel
theorem dL_text_16 : decode cL_text 16 = .ok (.ireturn, 1) := by decide +kernel
theorem dL_text_17 : decode cL_text 17 = .ok (.iconst 0, 1) := by decide +kernel
theorem dL_text_18 : decode cL_text 18 = .ok (.ireturn, 1) := by decide +kernel
theorem dL_take_0 : decode cL_take 0 = .ok (.aload_n 2, 1) := by decide +kernel
theorem dL_take_1 : decode cL_take 1 = .ok (.iconst 0, 1) := by decide +kernel
theorem dL_take_2 : decode cL_take 2 = .ok (.aload_n 0, 1) := by decide +kernel
theorem dL_take_3 : decode cL_take 3 = .ok (.iload_n 1, 1) := by decide +kernel
theorem dL_take_4 : decode cL_take 4 = .ok (.invokevirtual 33, 3) := by decide +kernel
theorem dL_take_7 : decode cL_take 7 = .ok (.i2l, 1) := by decide +kernel
theorem dL_take_8 : decode cL_take 8 = .ok (.lastore, 1) := by decide +kernel
theorem dL_take_9 : decode cL_take 9 = .ok (.goto 6, 3) := by decide +kernel
theorem dL_take_12 : decode cL_take 12 = .ok (.astore_n 3, 1) := by decide +kernel
theorem dL_take_13 : decode cL_take 13 = .ok (.iconst 1, 1) := by decide +kernel
theorem dL_take_14 : decode cL_take 14 = .ok (.ireturn, 1) := by decide +kernel
theorem dL_take_15 : decode cL_take 15 = .ok (.iconst 0, 1) := by decide +kernel
theorem dL_take_16 : decode cL_take 16 = .ok (.ireturn, 1) := by decide +kernel
theorem dL_length_0 : decode cL_length 0 = .ok (.aload_n 2, 1) := by decide +kernel
theorem dL_length_1 : decode cL_length 1 = .ok (.iconst 0, 1) := by decide +kernel
theorem dL_length_2 : decode cL_length 2 = .ok (.aload_n 0, 1) := by decide +kernel
theorem dL_length_3 : decode cL_length 3 = .ok (.iload_n 1, 1) := by decide +kernel
theorem dL_length_4 : decode cL_length 4 = .ok (.invokevirtual 39, 3) := by decide +kernel
theorem dL_length_7 : decode cL_length 7 = .ok (.i2l, 1) := by decide +kernel
theorem dL_length_8 : decode cL_length 8 = .ok (.lastore, 1) := by decide +kernel
theorem dL_length_9 : decode cL_length 9 = .ok (.goto 6, 3) := by decide +kernel
theorem dL_length_12 : decode cL_length 12 = .ok (.astore_n 3, 1) := by decide +kernel
theorem dL_length_13 : decode cL_length 13 = .ok (.iconst 1, 1) := by decide +kernel
theorem dL_length_14 : decode cL_length 14 = .ok (.ireturn, 1) := by decide +kernel
theorem dL_length_15 : decode cL_length 15 = .ok (.iconst 0, 1) := by decide +kernel
theorem dL_length_16 : decode cL_length 16 = .ok (.ireturn, 1) := by decide +kernel
theorem dL_signAt_0 : decode cL_signAt 0 = .ok (.aload_n 3, 1) := by decide +kernel
theorem dL_signAt_1 : decode cL_signAt 1 = .ok (.iconst 0, 1) := by decide +kernel
theorem dL_signAt_2 : decode cL_signAt 2 = .ok (.aload_n 0, 1) := by decide +kernel
theorem dL_signAt_3 : decode cL_signAt 3 = .ok (.iload_n 1, 1) := by decide +kernel
theorem dL_signAt_4 : decode cL_signAt 4 = .ok (.iload_n 2, 1) := by decide +kernel
theorem dL_signAt_5 : decode cL_signAt 5 = .ok (.invokevirtual 42, 3) := by decide +kernel
theorem dL_signAt_8 : decode cL_signAt 8 = .ok (.i2l, 1) := by decide +kernel
theorem dL_signAt_9 : decode cL_signAt 9 = .ok (.lastore, 1) := by decide +kernel
theorem dL_signAt_10 : decode cL_signAt 10 = .ok (.goto 7, 3) := by decide +kernel
theorem dL_signAt_13 : decode cL_signAt 13 = .ok (.astore 4, 2) := by decide +kernel
theorem dL_signAt_15 : decode cL_signAt 15 = .ok (.iconst 1, 1) := by decide +kernel
theorem dL_signAt_16 : decode cL_signAt 16 = .ok (.ireturn, 1) := by decide +kernel
theorem dL_signAt_17 : decode cL_signAt 17 = .ok (.iconst 0, 1) := by decide +kernel
theorem dL_signAt_18 : decode cL_signAt 18 = .ok (.ireturn, 1) := by decide +kernel
theorem dL_join_0 : decode cL_join 0 = .ok (.aload_n 3, 1) := by decide +kernel
theorem dL_join_1 : decode cL_join 1 = .ok (.iconst 0, 1) := by decide +kernel
theorem dL_join_2 : decode cL_join 2 = .ok (.aload_n 0, 1) := by decide +kernel
theorem dL_join_3 : decode cL_join 3 = .ok (.iload_n 1, 1) := by decide +kernel
theorem dL_join_4 : decode cL_join 4 = .ok (.iload_n 2, 1) := by decide +kernel
theorem dL_join_5 : decode cL_join 5 = .ok (.invokevirtual 46, 3) := by decide +kernel
theorem dL_join_8 : decode cL_join 8 = .ok (.i2l, 1) := by decide +kernel
theorem dL_join_9 : decode cL_join 9 = .ok (.lastore, 1) := by decide +kernel
theorem dL_join_10 : decode cL_join 10 = .ok (.goto 15, 3) := by decide +kernel
theorem dL_join_13 : decode cL_join 13 = .ok (.astore 4, 2) := by decide +kernel
theorem dL_join_15 : decode cL_join 15 = .ok (.iconst 1, 1) := by decide +kernel
theorem dL_join_16 : decode cL_join 16 = .ok (.ireturn, 1) := by decide +kernel
theorem dL_join_17 : decode cL_join 17 = .ok (.astore 4, 2) := by decide +kernel
theorem dL_join_19 : decode cL_join 19 = .ok (.iconst 2, 1) := by decide +kernel
theorem dL_join_20 : decode cL_join 20 = .ok (.ireturn, 1) := by decide +kernel
theorem dL_join_21 : decode cL_join 21 = .ok (.astore 4, 2) := by decide +kernel
theorem dL_join_23 : decode cL_join 23 = .ok (.iconst 3, 1) := by decide +kernel
theorem dL_join_24 : decode cL_join 24 = .ok (.ireturn, 1) := by decide +kernel
theorem dL_join_25 : decode cL_join 25 = .ok (.iconst 0, 1) := by decide +kernel
theorem dL_join_26 : decode cL_join 26 = .ok (.ireturn, 1) := by decide +kernel
theorem dL_mirror_0 : decode cL_mirror 0 = .ok (.aload_n 2, 1) := by decide +kernel
theorem dL_mirror_1 : decode cL_mirror 1 = .ok (.iconst 0, 1) := by decide +kernel
theorem dL_mirror_2 : decode cL_mirror 2 = .ok (.aload_n 0, 1) := by decide +kernel
theorem dL_mirror_3 : decode cL_mirror 3 = .ok (.iload_n 1, 1) := by decide +kernel
theorem dL_mirror_4 : decode cL_mirror 4 = .ok (.invokevirtual 50, 3) := by decide +kernel
theorem dL_mirror_7 : decode cL_mirror 7 = .ok (.i2l, 1) := by decide +kernel
theorem dL_mirror_8 : decode cL_mirror 8 = .ok (.lastore, 1) := by decide +kernel
theorem dL_mirror_9 : decode cL_mirror 9 = .ok (.goto 9, 3) := by decide +kernel
theorem dL_mirror_12 : decode cL_mirror 12 = .ok (.astore_n 3, 1) := by decide +kernel
theorem dL_mirror_13 : decode cL_mirror 13 = .ok (.iconst 1, 1) := by decide +kernel
theorem dL_mirror_14 : decode cL_mirror 14 = .ok (.ireturn, 1) := by decide +kernel
theorem dL_mirror_15 : decode cL_mirror 15 = .ok (.astore_n 3, 1) := by decide +kernel
theorem dL_mirror_16 : decode cL_mirror 16 = .ok (.iconst 2, 1) := by decide +kernel
theorem dL_mirror_17 : decode cL_mirror 17 = .ok (.ireturn, 1) := by decide +kernel
theorem dL_mirror_18 : decode cL_mirror 18 = .ok (.iconst 0, 1) := by decide +kernel
theorem dL_mirror_19 : decode cL_mirror 19 = .ok (.ireturn, 1) := by decide +kernel
theorem dL_change_0 : decode cL_change 0 = .ok (.aload 4, 2) := by decide +kernel
theorem dL_change_2 : decode cL_change 2 = .ok (.iconst 0, 1) := by decide +kernel
theorem dL_change_3 : decode cL_change 3 = .ok (.aload_n 0, 1) := by decide +kernel
theorem dL_change_4 : decode cL_change 4 = .ok (.iload_n 1, 1) := by decide +kernel
theorem dL_change_5 : decode cL_change 5 = .ok (.iload_n 2, 1) := by decide +kernel
theorem dL_change_6 : decode cL_change 6 = .ok (.iload_n 3, 1) := by decide +kernel
theorem dL_change_7 : decode cL_change 7 = .ok (.invokevirtual 53, 3) := by decide +kernel
theorem dL_change_10 : decode cL_change 10 = .ok (.i2l, 1) := by decide +kernel
theorem dL_change_11 : decode cL_change 11 = .ok (.lastore, 1) := by decide +kernel
theorem dL_change_12 : decode cL_change 12 = .ok (.goto 11, 3) := by decide +kernel
theorem dL_change_15 : decode cL_change 15 = .ok (.astore 5, 2) := by decide +kernel
theorem dL_change_17 : decode cL_change 17 = .ok (.iconst 1, 1) := by decide +kernel
theorem dL_change_18 : decode cL_change 18 = .ok (.ireturn, 1) := by decide +kernel
theorem dL_change_19 : decode cL_change 19 = .ok (.astore 5, 2) := by decide +kernel
theorem dL_change_21 : decode cL_change 21 = .ok (.iconst 2, 1) := by decide +kernel
theorem dL_change_22 : decode cL_change 22 = .ok (.ireturn, 1) := by decide +kernel
theorem dL_change_23 : decode cL_change 23 = .ok (.iconst 0, 1) := by decide +kernel
theorem dL_change_24 : decode cL_change 24 = .ok (.ireturn, 1) := by decide +kernel
theorem dL_ahead_0 : decode cL_ahead 0 = .ok (.aload_n 3, 1) := by decide +kernel
theorem dL_ahead_1 : decode cL_ahead 1 = .ok (.iconst 0, 1) := by decide +kernel
theorem dL_ahead_2 : decode cL_ahead 2 = .ok (.aload_n 0, 1) := by decide +kernel
theorem dL_ahead_3 : decode cL_ahead 3 = .ok (.iload_n 1, 1) := by decide +kernel
theorem dL_ahead_4 : decode cL_ahead 4 = .ok (.iload_n 2, 1) := by decide +kernel
theorem dL_ahead_5 : decode cL_ahead 5 = .ok (.invokevirtual 57, 3) := by decide +kernel
theorem dL_ahead_8 : decode cL_ahead 8 = .ok (.i2l, 1) := by decide +kernel
theorem dL_ahead_9 : decode cL_ahead 9 = .ok (.lastore, 1) := by decide +kernel
theorem dL_ahead_10 : decode cL_ahead 10 = .ok (.goto 15, 3) := by decide +kernel
theorem dL_ahead_13 : decode cL_ahead 13 = .ok (.astore 4, 2) := by decide +kernel
theorem dL_ahead_15 : decode cL_ahead 15 = .ok (.iconst 1, 1) := by decide +kernel
theorem dL_ahead_16 : decode cL_ahead 16 = .ok (.ireturn, 1) := by decide +kernel
theorem dL_ahead_17 : decode cL_ahead 17 = .ok (.astore 4, 2) := by decide +kernel
theorem dL_ahead_19 : decode cL_ahead 19 = .ok (.iconst 2, 1) := by decide +kernel
theorem dL_ahead_20 : decode cL_ahead 20 = .ok (.ireturn, 1) := by decide +kernel
theorem dL_ahead_21 : decode cL_ahead 21 = .ok (.astore 4, 2) := by decide +kernel
theorem dL_ahead_23 : decode cL_ahead 23 = .ok (.iconst 3, 1) := by decide +kernel
theorem dL_ahead_24 : decode cL_ahead 24 = .ok (.ireturn, 1) := by decide +kernel
theorem dL_ahead_25 : decode cL_ahead 25 = .ok (.iconst 0, 1) := by decide +kernel
theorem dL_ahead_26 : decode cL_ahead 26 = .ok (.ireturn, 1) := by decide +kernel
theorem dL_chop_0 : decode cL_chop 0 = .ok (.aload_n 2, 1) := by decide +kernel
theorem dL_chop_1 : decode cL_chop 1 = .ok (.iconst 0, 1) := by decide +kernel
theorem dL_chop_2 : decode cL_chop 2 = .ok (.aload_n 0, 1) := by decide +kernel
theorem dL_chop_3 : decode cL_chop 3 = .ok (.iload_n 1, 1) := by decide +kernel
theorem dL_chop_4 : decode cL_chop 4 = .ok (.invokevirtual 61, 3) := by decide +kernel
theorem dL_chop_7 : decode cL_chop 7 = .ok (.i2l, 1) := by decide +kernel
theorem dL_chop_8 : decode cL_chop 8 = .ok (.lastore, 1) := by decide +kernel
theorem dL_chop_9 : decode cL_chop 9 = .ok (.goto 9, 3) := by decide +kernel
theorem dL_chop_12 : decode cL_chop 12 = .ok (.astore_n 3, 1) := by decide +kernel
theorem dL_chop_13 : decode cL_chop 13 = .ok (.iconst 1, 1) := by decide +kernel
theorem dL_chop_14 : decode cL_chop 14 = .ok (.ireturn, 1) := by decide +kernel
theorem dL_chop_15 : decode cL_chop 15 = .ok (.astore_n 3, 1) := by decide +kernel
theorem dL_chop_16 : decode cL_chop 16 = .ok (.iconst 2, 1) := by decide +kernel
theorem dL_chop_17 : decode cL_chop 17 = .ok (.ireturn, 1) := by decide +kernel
theorem dL_chop_18 : decode cL_chop 18 = .ok (.iconst 0, 1) := by decide +kernel
theorem dL_chop_19 : decode cL_chop 19 = .ok (.ireturn, 1) := by decide +kernel
theorem dL_endAt_0 : decode cL_endAt 0 = .ok (.aload_n 3, 1) := by decide +kernel
theorem dL_endAt_1 : decode cL_endAt 1 = .ok (.iconst 0, 1) := by decide +kernel
theorem dL_endAt_2 : decode cL_endAt 2 = .ok (.aload_n 0, 1) := by decide +kernel
theorem dL_endAt_3 : decode cL_endAt 3 = .ok (.iload_n 1, 1) := by decide +kernel
theorem dL_endAt_4 : decode cL_endAt 4 = .ok (.iload_n 2, 1) := by decide +kernel
theorem dL_endAt_5 : decode cL_endAt 5 = .ok (.invokevirtual 64, 3) := by decide +kernel
theorem dL_endAt_8 : decode cL_endAt 8 = .ok (.i2l, 1) := by decide +kernel
theorem dL_endAt_9 : decode cL_endAt 9 = .ok (.lastore, 1) := by decide +kernel
theorem dL_endAt_10 : decode cL_endAt 10 = .ok (.goto 7, 3) := by decide +kernel
theorem dL_endAt_13 : decode cL_endAt 13 = .ok (.astore 4, 2) := by decide +kernel
theorem dL_endAt_15 : decode cL_endAt 15 = .ok (.iconst 1, 1) := by decide +kernel
theorem dL_endAt_16 : decode cL_endAt 16 = .ok (.ireturn, 1) := by decide +kernel
theorem dL_endAt_17 : decode cL_endAt 17 = .ok (.iconst 0, 1) := by decide +kernel
theorem dL_endAt_18 : decode cL_endAt 18 = .ok (.ireturn, 1) := by decide +kernel
theorem dL_rankOf_0 : decode cL_rankOf 0 = .ok (.aload_n 3, 1) := by decide +kernel
theorem dL_rankOf_1 : decode cL_rankOf 1 = .ok (.iconst 0, 1) := by decide +kernel
theorem dL_rankOf_2 : decode cL_rankOf 2 = .ok (.aload_n 0, 1) := by decide +kernel
theorem dL_rankOf_3 : decode cL_rankOf 3 = .ok (.iload_n 1, 1) := by decide +kernel
theorem dL_rankOf_4 : decode cL_rankOf 4 = .ok (.iload_n 2, 1) := by decide +kernel
theorem dL_rankOf_5 : decode cL_rankOf 5 = .ok (.invokevirtual 67, 3) := by decide +kernel
theorem dL_rankOf_8 : decode cL_rankOf 8 = .ok (.i2l, 1) := by decide +kernel
theorem dL_rankOf_9 : decode cL_rankOf 9 = .ok (.lastore, 1) := by decide +kernel
theorem dL_rankOf_10 : decode cL_rankOf 10 = .ok (.goto 7, 3) := by decide +kernel
theorem dL_rankOf_13 : decode cL_rankOf 13 = .ok (.astore 4, 2) := by decide +kernel
theorem dL_rankOf_15 : decode cL_rankOf 15 = .ok (.iconst 1, 1) := by decide +kernel
theorem dL_rankOf_16 : decode cL_rankOf 16 = .ok (.ireturn, 1) := by decide +kernel
theorem dL_rankOf_17 : decode cL_rankOf 17 = .ok (.iconst 0, 1) := by decide +kernel
theorem dL_rankOf_18 : decode cL_rankOf 18 = .ok (.ireturn, 1) := by decide +kernel
theorem dL_classOf_0 : decode cL_classOf 0 = .ok (.aload 4, 2) := by decide +kernel
theorem dL_classOf_2 : decode cL_classOf 2 = .ok (.iconst 0, 1) := by decide +kernel
theorem dL_classOf_3 : decode cL_classOf 3 = .ok (.aload_n 0, 1) := by decide +kernel
theorem dL_classOf_4 : decode cL_classOf 4 = .ok (.iload_n 1, 1) := by decide +kernel
theorem dL_classOf_5 : decode cL_classOf 5 = .ok (.iload_n 2, 1) := by decide +kernel
theorem dL_classOf_6 : decode cL_classOf 6 = .ok (.iload_n 3, 1) := by decide +kernel
theorem dL_classOf_7 : decode cL_classOf 7 = .ok (.invokevirtual 70, 3) := by decide +kernel
theorem dL_classOf_10 : decode cL_classOf 10 = .ok (.i2l, 1) := by decide +kernel
theorem dL_classOf_11 : decode cL_classOf 11 = .ok (.lastore, 1) := by decide +kernel
theorem dL_classOf_12 : decode cL_classOf 12 = .ok (.goto 11, 3) := by decide +kernel
theorem dL_classOf_15 : decode cL_classOf 15 = .ok (.astore 5, 2) := by decide +kernel
theorem dL_classOf_17 : decode cL_classOf 17 = .ok (.iconst 1, 1) := by decide +kernel
theorem dL_classOf_18 : decode cL_classOf 18 = .ok (.ireturn, 1) := by decide +kernel
theorem dL_classOf_19 : decode cL_classOf 19 = .ok (.astore 5, 2) := by decide +kernel
theorem dL_classOf_21 : decode cL_classOf 21 = .ok (.iconst 2, 1) := by decide +kernel
theorem dL_classOf_22 : decode cL_classOf 22 = .ok (.ireturn, 1) := by decide +kernel
theorem dL_classOf_23 : decode cL_classOf 23 = .ok (.iconst 0, 1) := by decide +kernel
theorem dL_classOf_24 : decode cL_classOf 24 = .ok (.ireturn, 1) := by decide +kernel
theorem dL_classes_0 : decode cL_classes 0 = .ok (.aload_n 3, 1) := by decide +kernel
theorem dL_classes_1 : decode cL_classes 1 = .ok (.iconst 0, 1) := by decide +kernel
theorem dL_classes_2 : decode cL_classes 2 = .ok (.aload_n 0, 1) := by decide +kernel
theorem dL_classes_3 : decode cL_classes 3 = .ok (.iload_n 1, 1) := by decide +kernel
theorem dL_classes_4 : decode cL_classes 4 = .ok (.iload_n 2, 1) := by decide +kernel
theorem dL_classes_5 : decode cL_classes 5 = .ok (.invokevirtual 74, 3) := by decide +kernel
theorem dL_classes_8 : decode cL_classes 8 = .ok (.i2l, 1) := by decide +kernel
theorem dL_classes_9 : decode cL_classes 9 = .ok (.lastore, 1) := by decide +kernel
theorem dL_classes_10 : decode cL_classes 10 = .ok (.goto 11, 3) := by decide +kernel
theorem dL_classes_13 : decode cL_classes 13 = .ok (.astore 4, 2) := by decide +kernel
theorem dL_classes_15 : decode cL_classes 15 = .ok (.iconst 1, 1) := by decide +kernel
theorem dL_classes_16 : decode cL_classes 16 = .ok (.ireturn, 1) := by decide +kernel
theorem dL_classes_17 : decode cL_classes 17 = .ok (.astore 4, 2) := by decide +kernel
theorem dL_classes_19 : decode cL_classes 19 = .ok (.iconst 2, 1) := by decide +kernel
theorem dL_classes_20 : decode cL_classes 20 = .ok (.ireturn, 1) := by decide +kernel
theorem dL_classes_21 : decode cL_classes 21 = .ok (.iconst 0, 1) := by decide +kernel
theorem dL_classes_22 : decode cL_classes 22 = .ok (.ireturn, 1) := by decide +kernel
theorem dL_rounds_0 : decode cL_rounds 0 = .ok (.aload_n 2, 1) := by decide +kernel
theorem dL_rounds_1 : decode cL_rounds 1 = .ok (.iconst 0, 1) := by decide +kernel
theorem dL_rounds_2 : decode cL_rounds 2 = .ok (.aload_n 0, 1) := by decide +kernel
theorem dL_rounds_3 : decode cL_rounds 3 = .ok (.iload_n 1, 1) := by decide +kernel
theorem dL_rounds_4 : decode cL_rounds 4 = .ok (.invokevirtual 77, 3) := by decide +kernel
theorem dL_rounds_7 : decode cL_rounds 7 = .ok (.i2l, 1) := by decide +kernel
theorem dL_rounds_8 : decode cL_rounds 8 = .ok (.lastore, 1) := by decide +kernel
theorem dL_rounds_9 : decode cL_rounds 9 = .ok (.goto 6, 3) := by decide +kernel
theorem dL_rounds_12 : decode cL_rounds 12 = .ok (.astore_n 3, 1) := by decide +kernel
theorem dL_rounds_13 : decode cL_rounds 13 = .ok (.iconst 1, 1) := by decide +kernel
theorem dL_rounds_14 : decode cL_rounds 14 = .ok (.ireturn, 1) := by decide +kernel
theorem dL_rounds_15 : decode cL_rounds 15 = .ok (.iconst 0, 1) := by decide +kernel
theorem dL_rounds_16 : decode cL_rounds 16 = .ok (.ireturn, 1) := by decide +kernel
theorem dL_common_0 : decode cL_common 0 = .ok (.aload_n 3, 1) := by decide +kernel
theorem dL_common_1 : decode cL_common 1 = .ok (.iconst 0, 1) := by decide +kernel
theorem dL_common_2 : decode cL_common 2 = .ok (.aload_n 0, 1) := by decide +kernel
theorem dL_common_3 : decode cL_common 3 = .ok (.iload_n 1, 1) := by decide +kernel
theorem dL_common_4 : decode cL_common 4 = .ok (.iload_n 2, 1) := by decide +kernel
theorem dL_common_5 : decode cL_common 5 = .ok (.invokevirtual 80, 3) := by decide +kernel
theorem dL_common_8 : decode cL_common 8 = .ok (.i2l, 1) := by decide +kernel
theorem dL_common_9 : decode cL_common 9 = .ok (.lastore, 1) := by decide +kernel
theorem dL_common_10 : decode cL_common 10 = .ok (.goto 7, 3) := by decide +kernel
theorem dL_common_13 : decode cL_common 13 = .ok (.astore 4, 2) := by decide +kernel
theorem dL_common_15 : decode cL_common 15 = .ok (.iconst 1, 1) := by decide +kernel
theorem dL_common_16 : decode cL_common 16 = .ok (.ireturn, 1) := by decide +kernel
theorem dL_common_17 : decode cL_common 17 = .ok (.iconst 0, 1) := by decide +kernel
theorem dL_common_18 : decode cL_common 18 = .ok (.ireturn, 1) := by decide +kernel
theorem dL_shared_0 : decode cL_shared 0 = .ok (.aload 5, 2) := by decide +kernel
theorem dL_shared_2 : decode cL_shared 2 = .ok (.iconst 0, 1) := by decide +kernel
theorem dL_shared_3 : decode cL_shared 3 = .ok (.aload_n 0, 1) := by decide +kernel
theorem dL_shared_4 : decode cL_shared 4 = .ok (.iload_n 1, 1) := by decide +kernel
theorem dL_shared_5 : decode cL_shared 5 = .ok (.iload_n 2, 1) := by decide +kernel
theorem dL_shared_6 : decode cL_shared 6 = .ok (.iload_n 3, 1) := by decide +kernel
theorem dL_shared_7 : decode cL_shared 7 = .ok (.iload 4, 2) := by decide +kernel
theorem dL_shared_9 : decode cL_shared 9 = .ok (.invokevirtual 83, 3) := by decide +kernel
theorem dL_shared_12 : decode cL_shared 12 = .ok (.i2l, 1) := by decide +kernel
theorem dL_shared_13 : decode cL_shared 13 = .ok (.lastore, 1) := by decide +kernel
theorem dL_shared_14 : decode cL_shared 14 = .ok (.goto 7, 3) := by decide +kernel
theorem dL_shared_17 : decode cL_shared 17 = .ok (.astore 6, 2) := by decide +kernel
theorem dL_shared_19 : decode cL_shared 19 = .ok (.iconst 1, 1) := by decide +kernel
theorem dL_shared_20 : decode cL_shared 20 = .ok (.ireturn, 1) := by decide +kernel
theorem dL_shared_21 : decode cL_shared 21 = .ok (.iconst 0, 1) := by decide +kernel
theorem dL_shared_22 : decode cL_shared 22 = .ok (.ireturn, 1) := by decide +kernel
theorem dL_count_0 : decode cL_count 0 = .ok (.aload_n 2, 1) := by decide +kernel
theorem dL_count_1 : decode cL_count 1 = .ok (.iconst 0, 1) := by decide +kernel
theorem dL_count_2 : decode cL_count 2 = .ok (.aload_n 0, 1) := by decide +kernel
theorem dL_count_3 : decode cL_count 3 = .ok (.iload_n 1, 1) := by decide +kernel
theorem dL_count_4 : decode cL_count 4 = .ok (.invokevirtual 87, 3) := by decide +kernel
theorem dL_count_7 : decode cL_count 7 = .ok (.i2l, 1) := by decide +kernel
theorem dL_count_8 : decode cL_count 8 = .ok (.lastore, 1) := by decide +kernel
theorem dL_count_9 : decode cL_count 9 = .ok (.goto 9, 3) := by decide +kernel
theorem dL_count_12 : decode cL_count 12 = .ok (.astore_n 3, 1) := by decide +kernel
theorem dL_count_13 : decode cL_count 13 = .ok (.iconst 1, 1) := by decide +kernel
theorem dL_count_14 : decode cL_count 14 = .ok (.ireturn, 1) := by decide +kernel
theorem dL_count_15 : decode cL_count 15 = .ok (.astore_n 3, 1) := by decide +kernel
theorem dL_count_16 : decode cL_count 16 = .ok (.iconst 2, 1) := by decide +kernel
theorem dL_count_17 : decode cL_count 17 = .ok (.ireturn, 1) := by decide +kernel
theorem dL_count_18 : decode cL_count 18 = .ok (.iconst 0, 1) := by decide +kernel
theorem dL_count_19 : decode cL_count 19 = .ok (.ireturn, 1) := by decide +kernel
theorem dL_runFrom_0 : decode cL_runFrom 0 = .ok (.aload_n 2, 1) := by decide +kernel
theorem dL_runFrom_1 : decode cL_runFrom 1 = .ok (.iconst 0, 1) := by decide +kernel
theorem dL_runFrom_2 : decode cL_runFrom 2 = .ok (.aload_n 0, 1) := by decide +kernel
theorem dL_runFrom_3 : decode cL_runFrom 3 = .ok (.iload_n 1, 1) := by decide +kernel
theorem dL_runFrom_4 : decode cL_runFrom 4 = .ok (.invokevirtual 90, 3) := by decide +kernel
theorem dL_runFrom_7 : decode cL_runFrom 7 = .ok (.i2l, 1) := by decide +kernel
theorem dL_runFrom_8 : decode cL_runFrom 8 = .ok (.lastore, 1) := by decide +kernel
theorem dL_runFrom_9 : decode cL_runFrom 9 = .ok (.goto 12, 3) := by decide +kernel
theorem dL_runFrom_12 : decode cL_runFrom 12 = .ok (.astore_n 3, 1) := by decide +kernel
theorem dL_runFrom_13 : decode cL_runFrom 13 = .ok (.iconst 1, 1) := by decide +kernel
theorem dL_runFrom_14 : decode cL_runFrom 14 = .ok (.ireturn, 1) := by decide +kernel
theorem dL_runFrom_15 : decode cL_runFrom 15 = .ok (.astore_n 3, 1) := by decide +kernel
theorem dL_runFrom_16 : decode cL_runFrom 16 = .ok (.iconst 2, 1) := by decide +kernel
theorem dL_runFrom_17 : decode cL_runFrom 17 = .ok (.ireturn, 1) := by decide +kernel
theorem dL_runFrom_18 : decode cL_runFrom 18 = .ok (.astore_n 3, 1) := by decide +kernel
theorem dL_runFrom_19 : decode cL_runFrom 19 = .ok (.iconst 3, 1) := by decide +kernel
theorem dL_runFrom_20 : decode cL_runFrom 20 = .ok (.ireturn, 1) := by decide +kernel
theorem dL_runFrom_21 : decode cL_runFrom 21 = .ok (.iconst 0, 1) := by decide +kernel
theorem dL_runFrom_22 : decode cL_runFrom 22 = .ok (.ireturn, 1) := by decide +kernel
theorem dL_standsAt_0 : decode cL_standsAt 0 = .ok (.aload_n 3, 1) := by decide +kernel
theorem dL_standsAt_1 : decode cL_standsAt 1 = .ok (.iconst 0, 1) := by decide +kernel
theorem dL_standsAt_2 : decode cL_standsAt 2 = .ok (.aload_n 0, 1) := by decide +kernel
theorem dL_standsAt_3 : decode cL_standsAt 3 = .ok (.iload_n 1, 1) := by decide +kernel
theorem dL_standsAt_4 : decode cL_standsAt 4 = .ok (.iload_n 2, 1) := by decide +kernel
theorem dL_standsAt_5 : decode cL_standsAt 5 = .ok (.invokevirtual 93, 3) := by decide +kernel
theorem dL_standsAt_8 : decode cL_standsAt 8 = .ok (.i2l, 1) := by decide +kernel
theorem dL_standsAt_9 : decode cL_standsAt 9 = .ok (.lastore, 1) := by decide +kernel
theorem dL_standsAt_10 : decode cL_standsAt 10 = .ok (.goto 15, 3) := by decide +kernel
theorem dL_standsAt_13 : decode cL_standsAt 13 = .ok (.astore 4, 2) := by decide +kernel
theorem dL_standsAt_15 : decode cL_standsAt 15 = .ok (.iconst 1, 1) := by decide +kernel
theorem dL_standsAt_16 : decode cL_standsAt 16 = .ok (.ireturn, 1) := by decide +kernel
theorem dL_standsAt_17 : decode cL_standsAt 17 = .ok (.astore 4, 2) := by decide +kernel
theorem dL_standsAt_19 : decode cL_standsAt 19 = .ok (.iconst 2, 1) := by decide +kernel
theorem dL_standsAt_20 : decode cL_standsAt 20 = .ok (.ireturn, 1) := by decide +kernel
theorem dL_standsAt_21 : decode cL_standsAt 21 = .ok (.astore 4, 2) := by decide +kernel
theorem dL_standsAt_23 : decode cL_standsAt 23 = .ok (.iconst 3, 1) := by decide +kernel
theorem dL_standsAt_24 : decode cL_standsAt 24 = .ok (.ireturn, 1) := by decide +kernel
theorem dL_standsAt_25 : decode cL_standsAt 25 = .ok (.iconst 0, 1) := by decide +kernel
theorem dL_standsAt_26 : decode cL_standsAt 26 = .ok (.ireturn, 1) := by decide +kernel
theorem dL_tail_0 : decode cL_tail 0 = .ok (.aload_n 3, 1) := by decide +kernel
theorem dL_tail_1 : decode cL_tail 1 = .ok (.iconst 0, 1) := by decide +kernel
theorem dL_tail_2 : decode cL_tail 2 = .ok (.aload_n 0, 1) := by decide +kernel
theorem dL_tail_3 : decode cL_tail 3 = .ok (.iload_n 1, 1) := by decide +kernel
theorem dL_tail_4 : decode cL_tail 4 = .ok (.iload_n 2, 1) := by decide +kernel
theorem dL_tail_5 : decode cL_tail 5 = .ok (.invokevirtual 96, 3) := by decide +kernel
theorem dL_tail_8 : decode cL_tail 8 = .ok (.i2l, 1) := by decide +kernel
theorem dL_tail_9 : decode cL_tail 9 = .ok (.lastore, 1) := by decide +kernel
theorem dL_tail_10 : decode cL_tail 10 = .ok (.goto 15, 3) := by decide +kernel
theorem dL_tail_13 : decode cL_tail 13 = .ok (.astore 4, 2) := by decide +kernel
theorem dL_tail_15 : decode cL_tail 15 = .ok (.iconst 1, 1) := by decide +kernel
theorem dL_tail_16 : decode cL_tail 16 = .ok (.ireturn, 1) := by decide +kernel
theorem dL_tail_17 : decode cL_tail 17 = .ok (.astore 4, 2) := by decide +kernel
theorem dL_tail_19 : decode cL_tail 19 = .ok (.iconst 2, 1) := by decide +kernel
theorem dL_tail_20 : decode cL_tail 20 = .ok (.ireturn, 1) := by decide +kernel
theorem dL_tail_21 : decode cL_tail 21 = .ok (.astore 4, 2) := by decide +kernel
theorem dL_tail_23 : decode cL_tail 23 = .ok (.iconst 3, 1) := by decide +kernel
theorem dL_tail_24 : decode cL_tail 24 = .ok (.ireturn, 1) := by decide +kernel
theorem dL_tail_25 : decode cL_tail 25 = .ok (.iconst 0, 1) := by decide +kernel
theorem dL_tail_26 : decode cL_tail 26 = .ok (.ireturn, 1) := by decide +kernel
theorem dL_words_0 : decode cL_words 0 = .ok (.aload_n 2, 1) := by decide +kernel
theorem dL_words_1 : decode cL_words 1 = .ok (.iconst 0, 1) := by decide +kernel
theorem dL_words_2 : decode cL_words 2 = .ok (.aload_n 0, 1) := by decide +kernel
theorem dL_words_3 : decode cL_words 3 = .ok (.iload_n 1, 1) := by decide +kernel
theorem dL_words_4 : decode cL_words 4 = .ok (.invokevirtual 99, 3) := by decide +kernel
theorem dL_words_7 : decode cL_words 7 = .ok (.lastore, 1) := by decide +kernel
theorem dL_words_8 : decode cL_words 8 = .ok (.goto 6, 3) := by decide +kernel
theorem dL_words_11 : decode cL_words 11 = .ok (.astore_n 3, 1) := by decide +kernel
theorem dL_words_12 : decode cL_words 12 = .ok (.iconst 1, 1) := by decide +kernel
theorem dL_words_13 : decode cL_words 13 = .ok (.ireturn, 1) := by decide +kernel
theorem dL_words_14 : decode cL_words 14 = .ok (.iconst 0, 1) := by decide +kernel
theorem dL_words_15 : decode cL_words 15 = .ok (.ireturn, 1) := by decide +kernel
theorem dL_word_0 : decode cL_word 0 = .ok (.aload_n 3, 1) := by decide +kernel
theorem dL_word_1 : decode cL_word 1 = .ok (.iconst 0, 1) := by decide +kernel
theorem dL_word_2 : decode cL_word 2 = .ok (.aload_n 0, 1) := by decide +kernel
theorem dL_word_3 : decode cL_word 3 = .ok (.iload_n 1, 1) := by decide +kernel
theorem dL_word_4 : decode cL_word 4 = .ok (.iload_n 2, 1) := by decide +kernel
theorem dL_word_5 : decode cL_word 5 = .ok (.invokevirtual 103, 3) := by decide +kernel
theorem dL_word_8 : decode cL_word 8 = .ok (.i2l, 1) := by decide +kernel
theorem dL_word_9 : decode cL_word 9 = .ok (.lastore, 1) := by decide +kernel
theorem dL_word_10 : decode cL_word 10 = .ok (.goto 11, 3) := by decide +kernel
theorem dL_word_13 : decode cL_word 13 = .ok (.astore 4, 2) := by decide +kernel
theorem dL_word_15 : decode cL_word 15 = .ok (.iconst 1, 1) := by decide +kernel
theorem dL_word_16 : decode cL_word 16 = .ok (.ireturn, 1) := by decide +kernel
theorem dL_word_17 : decode cL_word 17 = .ok (.astore 4, 2) := by decide +kernel
theorem dL_word_19 : decode cL_word 19 = .ok (.iconst 2, 1) := by decide +kernel
theorem dL_word_20 : decode cL_word 20 = .ok (.ireturn, 1) := by decide +kernel
theorem dL_word_21 : decode cL_word 21 = .ok (.iconst 0, 1) := by decide +kernel
theorem dL_word_22 : decode cL_word 22 = .ok (.ireturn, 1) := by decide +kernel
theorem dL_numberOf_0 : decode cL_numberOf 0 = .ok (.aload_n 2, 1) := by decide +kernel
theorem dL_numberOf_1 : decode cL_numberOf 1 = .ok (.iconst 0, 1) := by decide +kernel
theorem dL_numberOf_2 : decode cL_numberOf 2 = .ok (.aload_n 0, 1) := by decide +kernel
theorem dL_numberOf_3 : decode cL_numberOf 3 = .ok (.iload_n 1, 1) := by decide +kernel
theorem dL_numberOf_4 : decode cL_numberOf 4 = .ok (.invokevirtual 106, 3) := by decide +kernel
theorem dL_numberOf_7 : decode cL_numberOf 7 = .ok (.i2l, 1) := by decide +kernel
theorem dL_numberOf_8 : decode cL_numberOf 8 = .ok (.lastore, 1) := by decide +kernel
theorem dL_numberOf_9 : decode cL_numberOf 9 = .ok (.goto 12, 3) := by decide +kernel
theorem dL_numberOf_12 : decode cL_numberOf 12 = .ok (.astore_n 3, 1) := by decide +kernel
theorem dL_numberOf_13 : decode cL_numberOf 13 = .ok (.iconst 1, 1) := by decide +kernel
theorem dL_numberOf_14 : decode cL_numberOf 14 = .ok (.ireturn, 1) := by decide +kernel
theorem dL_numberOf_15 : decode cL_numberOf 15 = .ok (.astore_n 3, 1) := by decide +kernel
theorem dL_numberOf_16 : decode cL_numberOf 16 = .ok (.iconst 2, 1) := by decide +kernel
theorem dL_numberOf_17 : decode cL_numberOf 17 = .ok (.ireturn, 1) := by decide +kernel
theorem dL_numberOf_18 : decode cL_numberOf 18 = .ok (.astore_n 3, 1) := by decide +kernel
theorem dL_numberOf_19 : decode cL_numberOf 19 = .ok (.iconst 3, 1) := by decide +kernel
theorem dL_numberOf_20 : decode cL_numberOf 20 = .ok (.ireturn, 1) := by decide +kernel
theorem dL_numberOf_21 : decode cL_numberOf 21 = .ok (.iconst 0, 1) := by decide +kernel
theorem dL_numberOf_22 : decode cL_numberOf 22 = .ok (.ireturn, 1) := by decide +kernel
theorem dL_twice_0 : decode cL_twice 0 = .ok (.aload_n 2, 1) := by decide +kernel
theorem dL_twice_1 : decode cL_twice 1 = .ok (.iconst 0, 1) := by decide +kernel
theorem dL_twice_2 : decode cL_twice 2 = .ok (.aload_n 0, 1) := by decide +kernel
theorem dL_twice_3 : decode cL_twice 3 = .ok (.iload_n 1, 1) := by decide +kernel
theorem dL_twice_4 : decode cL_twice 4 = .ok (.invokevirtual 109, 3) := by decide +kernel
theorem dL_twice_7 : decode cL_twice 7 = .ok (.i2l, 1) := by decide +kernel
theorem dL_twice_8 : decode cL_twice 8 = .ok (.lastore, 1) := by decide +kernel
theorem dL_twice_9 : decode cL_twice 9 = .ok (.goto 6, 3) := by decide +kernel
theorem dL_twice_12 : decode cL_twice 12 = .ok (.astore_n 3, 1) := by decide +kernel
theorem dL_twice_13 : decode cL_twice 13 = .ok (.iconst 1, 1) := by decide +kernel
theorem dL_twice_14 : decode cL_twice 14 = .ok (.ireturn, 1) := by decide +kernel
theorem dL_twice_15 : decode cL_twice 15 = .ok (.iconst 0, 1) := by decide +kernel
theorem dL_twice_16 : decode cL_twice 16 = .ok (.ireturn, 1) := by decide +kernel
theorem dL_twiceAt_0 : decode cL_twiceAt 0 = .ok (.aload_n 2, 1) := by decide +kernel
theorem dL_twiceAt_1 : decode cL_twiceAt 1 = .ok (.iconst 0, 1) := by decide +kernel
theorem dL_twiceAt_2 : decode cL_twiceAt 2 = .ok (.aload_n 0, 1) := by decide +kernel
theorem dL_twiceAt_3 : decode cL_twiceAt 3 = .ok (.iload_n 1, 1) := by decide +kernel
theorem dL_twiceAt_4 : decode cL_twiceAt 4 = .ok (.invokevirtual 112, 3) := by decide +kernel
theorem dL_twiceAt_7 : decode cL_twiceAt 7 = .ok (.i2l, 1) := by decide +kernel
theorem dL_twiceAt_8 : decode cL_twiceAt 8 = .ok (.lastore, 1) := by decide +kernel
theorem dL_twiceAt_9 : decode cL_twiceAt 9 = .ok (.goto 9, 3) := by decide +kernel
theorem dL_twiceAt_12 : decode cL_twiceAt 12 = .ok (.astore_n 3, 1) := by decide +kernel
theorem dL_twiceAt_13 : decode cL_twiceAt 13 = .ok (.iconst 1, 1) := by decide +kernel
theorem dL_twiceAt_14 : decode cL_twiceAt 14 = .ok (.ireturn, 1) := by decide +kernel
theorem dL_twiceAt_15 : decode cL_twiceAt 15 = .ok (.astore_n 3, 1) := by decide +kernel
theorem dL_twiceAt_16 : decode cL_twiceAt 16 = .ok (.iconst 2, 1) := by decide +kernel
theorem dL_twiceAt_17 : decode cL_twiceAt 17 = .ok (.ireturn, 1) := by decide +kernel
theorem dL_twiceAt_18 : decode cL_twiceAt 18 = .ok (.iconst 0, 1) := by decide +kernel
theorem dL_twiceAt_19 : decode cL_twiceAt 19 = .ok (.ireturn, 1) := by decide +kernel
theorem dL_once_0 : decode cL_once 0 = .ok (.aload_n 2, 1) := by decide +kernel
theorem dL_once_1 : decode cL_once 1 = .ok (.iconst 0, 1) := by decide +kernel
theorem dL_once_2 : decode cL_once 2 = .ok (.aload_n 0, 1) := by decide +kernel
theorem dL_once_3 : decode cL_once 3 = .ok (.iload_n 1, 1) := by decide +kernel
theorem dL_once_4 : decode cL_once 4 = .ok (.invokevirtual 115, 3) := by decide +kernel
theorem dL_once_7 : decode cL_once 7 = .ok (.i2l, 1) := by decide +kernel
theorem dL_once_8 : decode cL_once 8 = .ok (.lastore, 1) := by decide +kernel
theorem dL_once_9 : decode cL_once 9 = .ok (.goto 9, 3) := by decide +kernel
theorem dL_once_12 : decode cL_once 12 = .ok (.astore_n 3, 1) := by decide +kernel
theorem dL_once_13 : decode cL_once 13 = .ok (.iconst 1, 1) := by decide +kernel
theorem dL_once_14 : decode cL_once 14 = .ok (.ireturn, 1) := by decide +kernel
theorem dL_once_15 : decode cL_once 15 = .ok (.astore_n 3, 1) := by decide +kernel
theorem dL_once_16 : decode cL_once 16 = .ok (.iconst 2, 1) := by decide +kernel
theorem dL_once_17 : decode cL_once 17 = .ok (.ireturn, 1) := by decide +kernel
theorem dL_once_18 : decode cL_once 18 = .ok (.iconst 0, 1) := by decide +kernel
theorem dL_once_19 : decode cL_once 19 = .ok (.ireturn, 1) := by decide +kernel
theorem dL_onceAt_0 : decode cL_onceAt 0 = .ok (.aload_n 2, 1) := by decide +kernel
theorem dL_onceAt_1 : decode cL_onceAt 1 = .ok (.iconst 0, 1) := by decide +kernel
theorem dL_onceAt_2 : decode cL_onceAt 2 = .ok (.aload_n 0, 1) := by decide +kernel
theorem dL_onceAt_3 : decode cL_onceAt 3 = .ok (.iload_n 1, 1) := by decide +kernel
theorem dL_onceAt_4 : decode cL_onceAt 4 = .ok (.invokevirtual 118, 3) := by decide +kernel
theorem dL_onceAt_7 : decode cL_onceAt 7 = .ok (.i2l, 1) := by decide +kernel
theorem dL_onceAt_8 : decode cL_onceAt 8 = .ok (.lastore, 1) := by decide +kernel
theorem dL_onceAt_9 : decode cL_onceAt 9 = .ok (.goto 9, 3) := by decide +kernel
theorem dL_onceAt_12 : decode cL_onceAt 12 = .ok (.astore_n 3, 1) := by decide +kernel
theorem dL_onceAt_13 : decode cL_onceAt 13 = .ok (.iconst 1, 1) := by decide +kernel
theorem dL_onceAt_14 : decode cL_onceAt 14 = .ok (.ireturn, 1) := by decide +kernel
theorem dL_onceAt_15 : decode cL_onceAt 15 = .ok (.astore_n 3, 1) := by decide +kernel
theorem dL_onceAt_16 : decode cL_onceAt 16 = .ok (.iconst 2, 1) := by decide +kernel
theorem dL_onceAt_17 : decode cL_onceAt 17 = .ok (.ireturn, 1) := by decide +kernel
theorem dL_onceAt_18 : decode cL_onceAt 18 = .ok (.iconst 0, 1) := by decide +kernel
theorem dL_onceAt_19 : decode cL_onceAt 19 = .ok (.ireturn, 1) := by decide +kernel
theorem dL_longestIn_0 : decode cL_longestIn 0 = .ok (.aload_n 2, 1) := by decide +kernel
theorem dL_longestIn_1 : decode cL_longestIn 1 = .ok (.iconst 0, 1) := by decide +kernel
theorem dL_longestIn_2 : decode cL_longestIn 2 = .ok (.aload_n 0, 1) := by decide +kernel
theorem dL_longestIn_3 : decode cL_longestIn 3 = .ok (.iload_n 1, 1) := by decide +kernel
theorem dL_longestIn_4 : decode cL_longestIn 4 = .ok (.invokevirtual 121, 3) := by decide +kernel
theorem dL_longestIn_7 : decode cL_longestIn 7 = .ok (.i2l, 1) := by decide +kernel
theorem dL_longestIn_8 : decode cL_longestIn 8 = .ok (.lastore, 1) := by decide +kernel
theorem dL_longestIn_9 : decode cL_longestIn 9 = .ok (.goto 9, 3) := by decide +kernel
theorem dL_longestIn_12 : decode cL_longestIn 12 = .ok (.astore_n 3, 1) := by decide +kernel
theorem dL_longestIn_13 : decode cL_longestIn 13 = .ok (.iconst 1, 1) := by decide +kernel
theorem dL_longestIn_14 : decode cL_longestIn 14 = .ok (.ireturn, 1) := by decide +kernel
theorem dL_longestIn_15 : decode cL_longestIn 15 = .ok (.astore_n 3, 1) := by decide +kernel
theorem dL_longestIn_16 : decode cL_longestIn 16 = .ok (.iconst 2, 1) := by decide +kernel
theorem dL_longestIn_17 : decode cL_longestIn 17 = .ok (.ireturn, 1) := by decide +kernel
theorem dL_longestIn_18 : decode cL_longestIn 18 = .ok (.iconst 0, 1) := by decide +kernel
theorem dL_longestIn_19 : decode cL_longestIn 19 = .ok (.ireturn, 1) := by decide +kernel
theorem dL_first_0 : decode cL_first 0 = .ok (.aload_n 3, 1) := by decide +kernel
theorem dL_first_1 : decode cL_first 1 = .ok (.iconst 0, 1) := by decide +kernel
theorem dL_first_2 : decode cL_first 2 = .ok (.aload_n 0, 1) := by decide +kernel
theorem dL_first_3 : decode cL_first 3 = .ok (.iload_n 1, 1) := by decide +kernel
theorem dL_first_4 : decode cL_first 4 = .ok (.iload_n 2, 1) := by decide +kernel
theorem dL_first_5 : decode cL_first 5 = .ok (.invokevirtual 124, 3) := by decide +kernel
theorem dL_first_8 : decode cL_first 8 = .ok (.i2l, 1) := by decide +kernel
theorem dL_first_9 : decode cL_first 9 = .ok (.lastore, 1) := by decide +kernel
theorem dL_first_10 : decode cL_first 10 = .ok (.goto 7, 3) := by decide +kernel
theorem dL_first_13 : decode cL_first 13 = .ok (.astore 4, 2) := by decide +kernel
theorem dL_first_15 : decode cL_first 15 = .ok (.iconst 1, 1) := by decide +kernel
theorem dL_first_16 : decode cL_first 16 = .ok (.ireturn, 1) := by decide +kernel
theorem dL_first_17 : decode cL_first 17 = .ok (.iconst 0, 1) := by decide +kernel
theorem dL_first_18 : decode cL_first 18 = .ok (.ireturn, 1) := by decide +kernel
theorem dL_last_0 : decode cL_last 0 = .ok (.aload_n 3, 1) := by decide +kernel
theorem dL_last_1 : decode cL_last 1 = .ok (.iconst 0, 1) := by decide +kernel
theorem dL_last_2 : decode cL_last 2 = .ok (.aload_n 0, 1) := by decide +kernel
theorem dL_last_3 : decode cL_last 3 = .ok (.iload_n 1, 1) := by decide +kernel
theorem dL_last_4 : decode cL_last 4 = .ok (.iload_n 2, 1) := by decide +kernel
theorem dL_last_5 : decode cL_last 5 = .ok (.invokevirtual 127, 3) := by decide +kernel
theorem dL_last_8 : decode cL_last 8 = .ok (.i2l, 1) := by decide +kernel
theorem dL_last_9 : decode cL_last 9 = .ok (.lastore, 1) := by decide +kernel
theorem dL_last_10 : decode cL_last 10 = .ok (.goto 7, 3) := by decide +kernel
theorem dL_last_13 : decode cL_last 13 = .ok (.astore 4, 2) := by decide +kernel
theorem dL_last_15 : decode cL_last 15 = .ok (.iconst 1, 1) := by decide +kernel
theorem dL_last_16 : decode cL_last 16 = .ok (.ireturn, 1) := by decide +kernel
theorem dL_last_17 : decode cL_last 17 = .ok (.iconst 0, 1) := by decide +kernel
theorem dL_last_18 : decode cL_last 18 = .ok (.ireturn, 1) := by decide +kernel
theorem dL_back_0 : decode cL_back 0 = .ok (.aload_n 3, 1) := by decide +kernel
theorem dL_back_1 : decode cL_back 1 = .ok (.iconst 0, 1) := by decide +kernel
theorem dL_back_2 : decode cL_back 2 = .ok (.aload_n 0, 1) := by decide +kernel
theorem dL_back_3 : decode cL_back 3 = .ok (.iload_n 1, 1) := by decide +kernel
theorem dL_back_4 : decode cL_back 4 = .ok (.iload_n 2, 1) := by decide +kernel
theorem dL_back_5 : decode cL_back 5 = .ok (.invokevirtual 130, 3) := by decide +kernel
theorem dL_back_8 : decode cL_back 8 = .ok (.i2l, 1) := by decide +kernel
theorem dL_back_9 : decode cL_back 9 = .ok (.lastore, 1) := by decide +kernel
theorem dL_back_10 : decode cL_back 10 = .ok (.goto 7, 3) := by decide +kernel
theorem dL_back_13 : decode cL_back 13 = .ok (.astore 4, 2) := by decide +kernel
theorem dL_back_15 : decode cL_back 15 = .ok (.iconst 1, 1) := by decide +kernel
theorem dL_back_16 : decode cL_back 16 = .ok (.ireturn, 1) := by decide +kernel
theorem dL_back_17 : decode cL_back 17 = .ok (.iconst 0, 1) := by decide +kernel
theorem dL_back_18 : decode cL_back 18 = .ok (.ireturn, 1) := by decide +kernel
theorem dL_runs_0 : decode cL_runs 0 = .ok (.aload_n 2, 1) := by decide +kernel
theorem dL_runs_1 : decode cL_runs 1 = .ok (.iconst 0, 1) := by decide +kernel
theorem dL_runs_2 : decode cL_runs 2 = .ok (.aload_n 0, 1) := by decide +kernel
theorem dL_runs_3 : decode cL_runs 3 = .ok (.iload_n 1, 1) := by decide +kernel
theorem dL_runs_4 : decode cL_runs 4 = .ok (.invokevirtual 133, 3) := by decide +kernel
theorem dL_runs_7 : decode cL_runs 7 = .ok (.i2l, 1) := by decide +kernel
theorem dL_runs_8 : decode cL_runs 8 = .ok (.lastore, 1) := by decide +kernel
theorem dL_runs_9 : decode cL_runs 9 = .ok (.goto 6, 3) := by decide +kernel
theorem dL_runs_12 : decode cL_runs 12 = .ok (.astore_n 3, 1) := by decide +kernel
theorem dL_runs_13 : decode cL_runs 13 = .ok (.iconst 1, 1) := by decide +kernel
theorem dL_runs_14 : decode cL_runs 14 = .ok (.ireturn, 1) := by decide +kernel
theorem dL_runs_15 : decode cL_runs 15 = .ok (.iconst 0, 1) := by decide +kernel
theorem dL_runs_16 : decode cL_runs 16 = .ok (.ireturn, 1) := by decide +kernel
theorem dL_front_0 : decode cL_front 0 = .ok (.aload_n 3, 1) := by decide +kernel
theorem dL_front_1 : decode cL_front 1 = .ok (.iconst 0, 1) := by decide +kernel
theorem dL_front_2 : decode cL_front 2 = .ok (.aload_n 0, 1) := by decide +kernel
theorem dL_front_3 : decode cL_front 3 = .ok (.iload_n 1, 1) := by decide +kernel
theorem dL_front_4 : decode cL_front 4 = .ok (.iload_n 2, 1) := by decide +kernel
theorem dL_front_5 : decode cL_front 5 = .ok (.invokevirtual 136, 3) := by decide +kernel
theorem dL_front_8 : decode cL_front 8 = .ok (.i2l, 1) := by decide +kernel
theorem dL_front_9 : decode cL_front 9 = .ok (.lastore, 1) := by decide +kernel
theorem dL_front_10 : decode cL_front 10 = .ok (.goto 7, 3) := by decide +kernel
theorem dL_front_13 : decode cL_front 13 = .ok (.astore 4, 2) := by decide +kernel
theorem dL_front_15 : decode cL_front 15 = .ok (.iconst 1, 1) := by decide +kernel
theorem dL_front_16 : decode cL_front 16 = .ok (.ireturn, 1) := by decide +kernel
theorem dL_front_17 : decode cL_front 17 = .ok (.iconst 0, 1) := by decide +kernel
theorem dL_front_18 : decode cL_front 18 = .ok (.ireturn, 1) := by decide +kernel
theorem dL_column_0 : decode cL_column 0 = .ok (.aload_n 2, 1) := by decide +kernel
theorem dL_column_1 : decode cL_column 1 = .ok (.iconst 0, 1) := by decide +kernel
theorem dL_column_2 : decode cL_column 2 = .ok (.aload_n 0, 1) := by decide +kernel
theorem dL_column_3 : decode cL_column 3 = .ok (.iload_n 1, 1) := by decide +kernel
theorem dL_column_4 : decode cL_column 4 = .ok (.invokevirtual 139, 3) := by decide +kernel
theorem dL_column_7 : decode cL_column 7 = .ok (.i2l, 1) := by decide +kernel
theorem dL_column_8 : decode cL_column 8 = .ok (.lastore, 1) := by decide +kernel
theorem dL_column_9 : decode cL_column 9 = .ok (.goto 6, 3) := by decide +kernel
theorem dL_column_12 : decode cL_column 12 = .ok (.astore_n 3, 1) := by decide +kernel
theorem dL_column_13 : decode cL_column 13 = .ok (.iconst 1, 1) := by decide +kernel
theorem dL_column_14 : decode cL_column 14 = .ok (.ireturn, 1) := by decide +kernel
theorem dL_column_15 : decode cL_column 15 = .ok (.iconst 0, 1) := by decide +kernel
theorem dL_column_16 : decode cL_column 16 = .ok (.ireturn, 1) := by decide +kernel
theorem dL_undo_0 : decode cL_undo 0 = .ok (.aload_n 1, 1) := by decide +kernel
theorem dL_undo_1 : decode cL_undo 1 = .ok (.iconst 0, 1) := by decide +kernel
theorem dL_undo_2 : decode cL_undo 2 = .ok (.aload_n 0, 1) := by decide +kernel
theorem dL_undo_3 : decode cL_undo 3 = .ok (.invokevirtual 142, 3) := by decide +kernel
theorem dL_undo_6 : decode cL_undo 6 = .ok (.i2l, 1) := by decide +kernel
theorem dL_undo_7 : decode cL_undo 7 = .ok (.lastore, 1) := by decide +kernel
theorem dL_undo_8 : decode cL_undo 8 = .ok (.goto 9, 3) := by decide +kernel
theorem dL_undo_11 : decode cL_undo 11 = .ok (.astore_n 2, 1) := by decide +kernel
theorem dL_undo_12 : decode cL_undo 12 = .ok (.iconst 1, 1) := by decide +kernel
theorem dL_undo_13 : decode cL_undo 13 = .ok (.ireturn, 1) := by decide +kernel
theorem dL_undo_14 : decode cL_undo 14 = .ok (.astore_n 2, 1) := by decide +kernel
theorem dL_undo_15 : decode cL_undo 15 = .ok (.iconst 2, 1) := by decide +kernel
theorem dL_undo_16 : decode cL_undo 16 = .ok (.ireturn, 1) := by decide +kernel
theorem dL_undo_17 : decode cL_undo 17 = .ok (.iconst 0, 1) := by decide +kernel
theorem dL_undo_18 : decode cL_undo 18 = .ok (.ireturn, 1) := by decide +kernel
theorem dL_squares_0 : decode cL_squares 0 = .ok (.aload_n 2, 1) := by decide +kernel
theorem dL_squares_1 : decode cL_squares 1 = .ok (.iconst 0, 1) := by decide +kernel
theorem dL_squares_2 : decode cL_squares 2 = .ok (.aload_n 0, 1) := by decide +kernel
theorem dL_squares_3 : decode cL_squares 3 = .ok (.iload_n 1, 1) := by decide +kernel
theorem dL_squares_4 : decode cL_squares 4 = .ok (.invokevirtual 145, 3) := by decide +kernel
theorem dL_squares_7 : decode cL_squares 7 = .ok (.i2l, 1) := by decide +kernel
theorem dL_squares_8 : decode cL_squares 8 = .ok (.lastore, 1) := by decide +kernel
theorem dL_squares_9 : decode cL_squares 9 = .ok (.goto 6, 3) := by decide +kernel
theorem dL_squares_12 : decode cL_squares 12 = .ok (.astore_n 3, 1) := by decide +kernel
theorem dL_squares_13 : decode cL_squares 13 = .ok (.iconst 1, 1) := by decide +kernel
theorem dL_squares_14 : decode cL_squares 14 = .ok (.ireturn, 1) := by decide +kernel
theorem dL_squares_15 : decode cL_squares 15 = .ok (.iconst 0, 1) := by decide +kernel
theorem dL_squares_16 : decode cL_squares 16 = .ok (.ireturn, 1) := by decide +kernel
theorem dL_squareAt_0 : decode cL_squareAt 0 = .ok (.aload_n 3, 1) := by decide +kernel
theorem dL_squareAt_1 : decode cL_squareAt 1 = .ok (.iconst 0, 1) := by decide +kernel
theorem dL_squareAt_2 : decode cL_squareAt 2 = .ok (.aload_n 0, 1) := by decide +kernel
theorem dL_squareAt_3 : decode cL_squareAt 3 = .ok (.iload_n 1, 1) := by decide +kernel
theorem dL_squareAt_4 : decode cL_squareAt 4 = .ok (.iload_n 2, 1) := by decide +kernel
theorem dL_squareAt_5 : decode cL_squareAt 5 = .ok (.invokevirtual 148, 3) := by decide +kernel
theorem dL_squareAt_8 : decode cL_squareAt 8 = .ok (.i2l, 1) := by decide +kernel
theorem dL_squareAt_9 : decode cL_squareAt 9 = .ok (.lastore, 1) := by decide +kernel
theorem dL_squareAt_10 : decode cL_squareAt 10 = .ok (.goto 11, 3) := by decide +kernel
theorem dL_squareAt_13 : decode cL_squareAt 13 = .ok (.astore 4, 2) := by decide +kernel
theorem dL_squareAt_15 : decode cL_squareAt 15 = .ok (.iconst 1, 1) := by decide +kernel
theorem dL_squareAt_16 : decode cL_squareAt 16 = .ok (.ireturn, 1) := by decide +kernel
theorem dL_squareAt_17 : decode cL_squareAt 17 = .ok (.astore 4, 2) := by decide +kernel
theorem dL_squareAt_19 : decode cL_squareAt 19 = .ok (.iconst 2, 1) := by decide +kernel
theorem dL_squareAt_20 : decode cL_squareAt 20 = .ok (.ireturn, 1) := by decide +kernel
theorem dL_squareAt_21 : decode cL_squareAt 21 = .ok (.iconst 0, 1) := by decide +kernel
theorem dL_squareAt_22 : decode cL_squareAt 22 = .ok (.ireturn, 1) := by decide +kernel
theorem dL_period_0 : decode cL_period 0 = .ok (.aload_n 2, 1) := by decide +kernel
theorem dL_period_1 : decode cL_period 1 = .ok (.iconst 0, 1) := by decide +kernel
theorem dL_period_2 : decode cL_period 2 = .ok (.aload_n 0, 1) := by decide +kernel
theorem dL_period_3 : decode cL_period 3 = .ok (.iload_n 1, 1) := by decide +kernel
theorem dL_period_4 : decode cL_period 4 = .ok (.invokevirtual 151, 3) := by decide +kernel
theorem dL_period_7 : decode cL_period 7 = .ok (.i2l, 1) := by decide +kernel
theorem dL_period_8 : decode cL_period 8 = .ok (.lastore, 1) := by decide +kernel
theorem dL_period_9 : decode cL_period 9 = .ok (.goto 9, 3) := by decide +kernel
theorem dL_period_12 : decode cL_period 12 = .ok (.astore_n 3, 1) := by decide +kernel
theorem dL_period_13 : decode cL_period 13 = .ok (.iconst 1, 1) := by decide +kernel
theorem dL_period_14 : decode cL_period 14 = .ok (.ireturn, 1) := by decide +kernel
theorem dL_period_15 : decode cL_period 15 = .ok (.astore_n 3, 1) := by decide +kernel
theorem dL_period_16 : decode cL_period 16 = .ok (.iconst 2, 1) := by decide +kernel
theorem dL_period_17 : decode cL_period 17 = .ok (.ireturn, 1) := by decide +kernel
theorem dL_period_18 : decode cL_period 18 = .ok (.iconst 0, 1) := by decide +kernel
theorem dL_period_19 : decode cL_period 19 = .ok (.ireturn, 1) := by decide +kernel
theorem dL_turnAt_0 : decode cL_turnAt 0 = .ok (.aload_n 2, 1) := by decide +kernel
theorem dL_turnAt_1 : decode cL_turnAt 1 = .ok (.iconst 0, 1) := by decide +kernel
theorem dL_turnAt_2 : decode cL_turnAt 2 = .ok (.aload_n 0, 1) := by decide +kernel
theorem dL_turnAt_3 : decode cL_turnAt 3 = .ok (.iload_n 1, 1) := by decide +kernel
theorem dL_turnAt_4 : decode cL_turnAt 4 = .ok (.invokevirtual 154, 3) := by decide +kernel
theorem dL_turnAt_7 : decode cL_turnAt 7 = .ok (.i2l, 1) := by decide +kernel
theorem dL_turnAt_8 : decode cL_turnAt 8 = .ok (.lastore, 1) := by decide +kernel
theorem dL_turnAt_9 : decode cL_turnAt 9 = .ok (.goto 9, 3) := by decide +kernel
theorem dL_turnAt_12 : decode cL_turnAt 12 = .ok (.astore_n 3, 1) := by decide +kernel
theorem dL_turnAt_13 : decode cL_turnAt 13 = .ok (.iconst 1, 1) := by decide +kernel
theorem dL_turnAt_14 : decode cL_turnAt 14 = .ok (.ireturn, 1) := by decide +kernel
theorem dL_turnAt_15 : decode cL_turnAt 15 = .ok (.astore_n 3, 1) := by decide +kernel
theorem dL_turnAt_16 : decode cL_turnAt 16 = .ok (.iconst 2, 1) := by decide +kernel
theorem dL_turnAt_17 : decode cL_turnAt 17 = .ok (.ireturn, 1) := by decide +kernel
theorem dL_turnAt_18 : decode cL_turnAt 18 = .ok (.iconst 0, 1) := by decide +kernel
theorem dL_turnAt_19 : decode cL_turnAt 19 = .ok (.ireturn, 1) := by decide +kernel
theorem dL_parts_0 : decode cL_parts 0 = .ok (.aload_n 2, 1) := by decide +kernel
theorem dL_parts_1 : decode cL_parts 1 = .ok (.iconst 0, 1) := by decide +kernel
theorem dL_parts_2 : decode cL_parts 2 = .ok (.aload_n 0, 1) := by decide +kernel
theorem dL_parts_3 : decode cL_parts 3 = .ok (.iload_n 1, 1) := by decide +kernel
theorem dL_parts_4 : decode cL_parts 4 = .ok (.invokevirtual 157, 3) := by decide +kernel
theorem dL_parts_7 : decode cL_parts 7 = .ok (.i2l, 1) := by decide +kernel
theorem dL_parts_8 : decode cL_parts 8 = .ok (.lastore, 1) := by decide +kernel
theorem dL_parts_9 : decode cL_parts 9 = .ok (.goto 6, 3) := by decide +kernel
theorem dL_parts_12 : decode cL_parts 12 = .ok (.astore_n 3, 1) := by decide +kernel
theorem dL_parts_13 : decode cL_parts 13 = .ok (.iconst 1, 1) := by decide +kernel
theorem dL_parts_14 : decode cL_parts 14 = .ok (.ireturn, 1) := by decide +kernel
theorem dL_parts_15 : decode cL_parts 15 = .ok (.iconst 0, 1) := by decide +kernel
theorem dL_parts_16 : decode cL_parts 16 = .ok (.ireturn, 1) := by decide +kernel
theorem dL_partAt_0 : decode cL_partAt 0 = .ok (.aload_n 3, 1) := by decide +kernel
theorem dL_partAt_1 : decode cL_partAt 1 = .ok (.iconst 0, 1) := by decide +kernel
theorem dL_partAt_2 : decode cL_partAt 2 = .ok (.aload_n 0, 1) := by decide +kernel
theorem dL_partAt_3 : decode cL_partAt 3 = .ok (.iload_n 1, 1) := by decide +kernel
theorem dL_partAt_4 : decode cL_partAt 4 = .ok (.iload_n 2, 1) := by decide +kernel
theorem dL_partAt_5 : decode cL_partAt 5 = .ok (.invokevirtual 160, 3) := by decide +kernel
theorem dL_partAt_8 : decode cL_partAt 8 = .ok (.i2l, 1) := by decide +kernel
theorem dL_partAt_9 : decode cL_partAt 9 = .ok (.lastore, 1) := by decide +kernel
theorem dL_partAt_10 : decode cL_partAt 10 = .ok (.goto 7, 3) := by decide +kernel
theorem dL_partAt_13 : decode cL_partAt 13 = .ok (.astore 4, 2) := by decide +kernel
theorem dL_partAt_15 : decode cL_partAt 15 = .ok (.iconst 1, 1) := by decide +kernel
theorem dL_partAt_16 : decode cL_partAt 16 = .ok (.ireturn, 1) := by decide +kernel
theorem dL_partAt_17 : decode cL_partAt 17 = .ok (.iconst 0, 1) := by decide +kernel
theorem dL_partAt_18 : decode cL_partAt 18 = .ok (.ireturn, 1) := by decide +kernel
theorem dL_pieces_0 : decode cL_pieces 0 = .ok (.aload_n 2, 1) := by decide +kernel
theorem dL_pieces_1 : decode cL_pieces 1 = .ok (.iconst 0, 1) := by decide +kernel
theorem dL_pieces_2 : decode cL_pieces 2 = .ok (.aload_n 0, 1) := by decide +kernel
theorem dL_pieces_3 : decode cL_pieces 3 = .ok (.iload_n 1, 1) := by decide +kernel
theorem dL_pieces_4 : decode cL_pieces 4 = .ok (.invokevirtual 163, 3) := by decide +kernel
theorem dL_pieces_7 : decode cL_pieces 7 = .ok (.i2l, 1) := by decide +kernel
theorem dL_pieces_8 : decode cL_pieces 8 = .ok (.lastore, 1) := by decide +kernel
theorem dL_pieces_9 : decode cL_pieces 9 = .ok (.goto 6, 3) := by decide +kernel
theorem dL_pieces_12 : decode cL_pieces 12 = .ok (.astore_n 3, 1) := by decide +kernel
theorem dL_pieces_13 : decode cL_pieces 13 = .ok (.iconst 1, 1) := by decide +kernel
theorem dL_pieces_14 : decode cL_pieces 14 = .ok (.ireturn, 1) := by decide +kernel
theorem dL_pieces_15 : decode cL_pieces 15 = .ok (.iconst 0, 1) := by decide +kernel
theorem dL_pieces_16 : decode cL_pieces 16 = .ok (.ireturn, 1) := by decide +kernel
theorem dL_pieceLength_0 : decode cL_pieceLength 0 = .ok (.aload_n 3, 1) := by decide +kernel
theorem dL_pieceLength_1 : decode cL_pieceLength 1 = .ok (.iconst 0, 1) := by decide +kernel
theorem dL_pieceLength_2 : decode cL_pieceLength 2 = .ok (.aload_n 0, 1) := by decide +kernel
theorem dL_pieceLength_3 : decode cL_pieceLength 3 = .ok (.iload_n 1, 1) := by decide +kernel
theorem dL_pieceLength_4 : decode cL_pieceLength 4 = .ok (.iload_n 2, 1) := by decide +kernel
theorem dL_pieceLength_5 : decode cL_pieceLength 5 = .ok (.invokevirtual 166, 3) := by decide +kernel
theorem dL_pieceLength_8 : decode cL_pieceLength 8 = .ok (.i2l, 1) := by decide +kernel
theorem dL_pieceLength_9 : decode cL_pieceLength 9 = .ok (.lastore, 1) := by decide +kernel
theorem dL_pieceLength_10 : decode cL_pieceLength 10 = .ok (.goto 7, 3) := by decide +kernel
theorem dL_pieceLength_13 : decode cL_pieceLength 13 = .ok (.astore 4, 2) := by decide +kernel
theorem dL_pieceLength_15 : decode cL_pieceLength 15 = .ok (.iconst 1, 1) := by decide +kernel
theorem dL_pieceLength_16 : decode cL_pieceLength 16 = .ok (.ireturn, 1) := by decide +kernel
theorem dL_pieceLength_17 : decode cL_pieceLength 17 = .ok (.iconst 0, 1) := by decide +kernel
theorem dL_pieceLength_18 : decode cL_pieceLength 18 = .ok (.ireturn, 1) := by decide +kernel
theorem dL_pieceFrom_0 : decode cL_pieceFrom 0 = .ok (.aload_n 3, 1) := by decide +kernel
theorem dL_pieceFrom_1 : decode cL_pieceFrom 1 = .ok (.iconst 0, 1) := by decide +kernel
theorem dL_pieceFrom_2 : decode cL_pieceFrom 2 = .ok (.aload_n 0, 1) := by decide +kernel
theorem dL_pieceFrom_3 : decode cL_pieceFrom 3 = .ok (.iload_n 1, 1) := by decide +kernel
theorem dL_pieceFrom_4 : decode cL_pieceFrom 4 = .ok (.iload_n 2, 1) := by decide +kernel
theorem dL_pieceFrom_5 : decode cL_pieceFrom 5 = .ok (.invokevirtual 169, 3) := by decide +kernel
theorem dL_pieceFrom_8 : decode cL_pieceFrom 8 = .ok (.i2l, 1) := by decide +kernel
theorem dL_pieceFrom_9 : decode cL_pieceFrom 9 = .ok (.lastore, 1) := by decide +kernel
theorem dL_pieceFrom_10 : decode cL_pieceFrom 10 = .ok (.goto 11, 3) := by decide +kernel
theorem dL_pieceFrom_13 : decode cL_pieceFrom 13 = .ok (.astore 4, 2) := by decide +kernel
theorem dL_pieceFrom_15 : decode cL_pieceFrom 15 = .ok (.iconst 1, 1) := by decide +kernel
theorem dL_pieceFrom_16 : decode cL_pieceFrom 16 = .ok (.ireturn, 1) := by decide +kernel
theorem dL_pieceFrom_17 : decode cL_pieceFrom 17 = .ok (.astore 4, 2) := by decide +kernel
theorem dL_pieceFrom_19 : decode cL_pieceFrom 19 = .ok (.iconst 2, 1) := by decide +kernel
theorem dL_pieceFrom_20 : decode cL_pieceFrom 20 = .ok (.ireturn, 1) := by decide +kernel
theorem dL_pieceFrom_21 : decode cL_pieceFrom 21 = .ok (.iconst 0, 1) := by decide +kernel
theorem dL_pieceFrom_22 : decode cL_pieceFrom 22 = .ok (.ireturn, 1) := by decide +kernel
theorem dL_fewest_0 : decode cL_fewest 0 = .ok (.aload_n 2, 1) := by decide +kernel
theorem dL_fewest_1 : decode cL_fewest 1 = .ok (.iconst 0, 1) := by decide +kernel
theorem dL_fewest_2 : decode cL_fewest 2 = .ok (.aload_n 0, 1) := by decide +kernel
theorem dL_fewest_3 : decode cL_fewest 3 = .ok (.iload_n 1, 1) := by decide +kernel
theorem dL_fewest_4 : decode cL_fewest 4 = .ok (.invokevirtual 172, 3) := by decide +kernel
theorem dL_fewest_7 : decode cL_fewest 7 = .ok (.i2l, 1) := by decide +kernel
theorem dL_fewest_8 : decode cL_fewest 8 = .ok (.lastore, 1) := by decide +kernel
theorem dL_fewest_9 : decode cL_fewest 9 = .ok (.goto 6, 3) := by decide +kernel
theorem dL_fewest_12 : decode cL_fewest 12 = .ok (.astore_n 3, 1) := by decide +kernel
theorem dL_fewest_13 : decode cL_fewest 13 = .ok (.iconst 1, 1) := by decide +kernel
theorem dL_fewest_14 : decode cL_fewest 14 = .ok (.ireturn, 1) := by decide +kernel
theorem dL_fewest_15 : decode cL_fewest 15 = .ok (.iconst 0, 1) := by decide +kernel
theorem dL_fewest_16 : decode cL_fewest 16 = .ok (.ireturn, 1) := by decide +kernel
theorem dL_commonShare_0 : decode cL_commonShare 0 = .ok (.aload_n 2, 1) := by decide +kernel
theorem dL_commonShare_1 : decode cL_commonShare 1 = .ok (.iconst 0, 1) := by decide +kernel
theorem dL_commonShare_2 : decode cL_commonShare 2 = .ok (.aload_n 0, 1) := by decide +kernel
theorem dL_commonShare_3 : decode cL_commonShare 3 = .ok (.iload_n 1, 1) := by decide +kernel
theorem dL_commonShare_4 : decode cL_commonShare 4 = .ok (.invokevirtual 175, 3) := by decide +kernel
theorem dL_commonShare_7 : decode cL_commonShare 7 = .ok (.f2d, 1) := by decide +kernel
theorem dL_commonShare_8 : decode cL_commonShare 8 = .ok (.dastore, 1) := by decide +kernel
theorem dL_commonShare_9 : decode cL_commonShare 9 = .ok (.goto 9, 3) := by decide +kernel
theorem dL_commonShare_12 : decode cL_commonShare 12 = .ok (.astore_n 3, 1) := by decide +kernel
theorem dL_commonShare_13 : decode cL_commonShare 13 = .ok (.iconst 1, 1) := by decide +kernel
theorem dL_commonShare_14 : decode cL_commonShare 14 = .ok (.ireturn, 1) := by decide +kernel
theorem dL_commonShare_15 : decode cL_commonShare 15 = .ok (.astore_n 3, 1) := by decide +kernel
theorem dL_commonShare_16 : decode cL_commonShare 16 = .ok (.iconst 2, 1) := by decide +kernel
theorem dL_commonShare_17 : decode cL_commonShare 17 = .ok (.ireturn, 1) := by decide +kernel
theorem dL_commonShare_18 : decode cL_commonShare 18 = .ok (.iconst 0, 1) := by decide +kernel
theorem dL_commonShare_19 : decode cL_commonShare 19 = .ok (.ireturn, 1) := by decide +kernel
theorem dL_meanCommon_0 : decode cL_meanCommon 0 = .ok (.aload_n 2, 1) := by decide +kernel
theorem dL_meanCommon_1 : decode cL_meanCommon 1 = .ok (.iconst 0, 1) := by decide +kernel
theorem dL_meanCommon_2 : decode cL_meanCommon 2 = .ok (.aload_n 0, 1) := by decide +kernel
theorem dL_meanCommon_3 : decode cL_meanCommon 3 = .ok (.iload_n 1, 1) := by decide +kernel
theorem dL_meanCommon_4 : decode cL_meanCommon 4 = .ok (.invokevirtual 181, 3) := by decide +kernel
theorem dL_meanCommon_7 : decode cL_meanCommon 7 = .ok (.dastore, 1) := by decide +kernel
theorem dL_meanCommon_8 : decode cL_meanCommon 8 = .ok (.goto 9, 3) := by decide +kernel
theorem dL_meanCommon_11 : decode cL_meanCommon 11 = .ok (.astore_n 3, 1) := by decide +kernel
theorem dL_meanCommon_12 : decode cL_meanCommon 12 = .ok (.iconst 1, 1) := by decide +kernel
theorem dL_meanCommon_13 : decode cL_meanCommon 13 = .ok (.ireturn, 1) := by decide +kernel
theorem dL_meanCommon_14 : decode cL_meanCommon 14 = .ok (.astore_n 3, 1) := by decide +kernel
theorem dL_meanCommon_15 : decode cL_meanCommon 15 = .ok (.iconst 2, 1) := by decide +kernel
theorem dL_meanCommon_16 : decode cL_meanCommon 16 = .ok (.ireturn, 1) := by decide +kernel
theorem dL_meanCommon_17 : decode cL_meanCommon 17 = .ok (.iconst 0, 1) := by decide +kernel
theorem dL_meanCommon_18 : decode cL_meanCommon 18 = .ok (.ireturn, 1) := by decide +kernel
