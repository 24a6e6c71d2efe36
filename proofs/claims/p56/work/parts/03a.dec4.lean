theorem dL_cell_53 : decode cL_cell 53 = .ok (.iconst 3, 1) := by decide +kernel
theorem dL_cell_54 : decode cL_cell 54 = .ok (.iand, 1) := by decide +kernel
theorem dL_cell_55 : decode cL_cell 55 = .ok (.ifCond .ne 24, 3) := by decide +kernel
theorem dL_cell_58 : decode cL_cell 58 = .ok (.iload_n 1, 1) := by decide +kernel
theorem dL_cell_59 : decode cL_cell 59 = .ok (.aload_n 0, 1) := by decide +kernel
theorem dL_cell_60 : decode cL_cell 60 = .ok (.arraylength, 1) := by decide +kernel
theorem dL_cell_61 : decode cL_cell 61 = .ok (.if_icmp .ge 9, 3) := by decide +kernel
theorem dL_cell_64 : decode cL_cell 64 = .ok (.aload_n 0, 1) := by decide +kernel
theorem dL_cell_65 : decode cL_cell 65 = .ok (.iload_n 1, 1) := by decide +kernel
theorem dL_cell_66 : decode cL_cell 66 = .ok (.iaload, 1) := by decide +kernel
theorem dL_cell_67 : decode cL_cell 67 = .ok (.goto 11, 3) := by decide +kernel
theorem dL_cell_70 : decode cL_cell 70 = .ok (.sipush 7919, 3) := by decide +kernel
theorem dL_cell_73 : decode cL_cell 73 = .ok (.iload_n 1, 1) := by decide +kernel
theorem dL_cell_74 : decode cL_cell 74 = .ok (.imul, 1) := by decide +kernel
theorem dL_cell_75 : decode cL_cell 75 = .ok (.bipush 12, 2) := by decide +kernel
theorem dL_cell_77 : decode cL_cell 77 = .ok (.iadd, 1) := by decide +kernel
theorem dL_cell_78 : decode cL_cell 78 = .ok (.ireturn, 1) := by decide +kernel
theorem dL_cell_79 : decode cL_cell 79 = .ok (.iload_n 2, 1) := by decide +kernel
theorem dL_cell_80 : decode cL_cell 80 = .ok (.ldc 8, 2) := by decide +kernel
theorem dL_cell_82 : decode cL_cell 82 = .ok (.iload_n 1, 1) := by decide +kernel
theorem dL_cell_83 : decode cL_cell 83 = .ok (.sipush 1009, 3) := by decide +kernel
theorem dL_cell_86 : decode cL_cell 86 = .ok (.iadd, 1) := by decide +kernel
theorem dL_cell_87 : decode cL_cell 87 = .ok (.imul, 1) := by decide +kernel
theorem dL_cell_88 : decode cL_cell 88 = .ok (.ixor, 1) := by decide +kernel
theorem dL_cell_89 : decode cL_cell 89 = .ok (.istore_n 3, 1) := by decide +kernel
theorem dL_cell_90 : decode cL_cell 90 = .ok (.iload_n 3, 1) := by decide +kernel
theorem dL_cell_91 : decode cL_cell 91 = .ok (.iload_n 3, 1) := by decide +kernel
theorem dL_cell_92 : decode cL_cell 92 = .ok (.bipush 13, 2) := by decide +kernel
theorem dL_cell_94 : decode cL_cell 94 = .ok (.iushr, 1) := by decide +kernel
theorem dL_cell_95 : decode cL_cell 95 = .ok (.ixor, 1) := by decide +kernel
theorem dL_cell_96 : decode cL_cell 96 = .ok (.ldc 9, 2) := by decide +kernel
theorem dL_cell_98 : decode cL_cell 98 = .ok (.imul, 1) := by decide +kernel
theorem dL_cell_99 : decode cL_cell 99 = .ok (.istore_n 3, 1) := by decide +kernel
theorem dL_cell_100 : decode cL_cell 100 = .ok (.iload_n 3, 1) := by decide +kernel
theorem dL_cell_101 : decode cL_cell 101 = .ok (.iload_n 3, 1) := by decide +kernel
theorem dL_cell_102 : decode cL_cell 102 = .ok (.bipush 16, 2) := by decide +kernel
theorem dL_cell_104 : decode cL_cell 104 = .ok (.iushr, 1) := by decide +kernel
theorem dL_cell_105 : decode cL_cell 105 = .ok (.ixor, 1) := by decide +kernel
theorem dL_cell_106 : decode cL_cell 106 = .ok (.ireturn, 1) := by decide +kernel
theorem dL_chosen_0 : decode cL_chosen 0 = .ok (.iload_n 0, 1) := by decide +kernel
theorem dL_chosen_1 : decode cL_chosen 1 = .ok (.ldc 10, 2) := by decide +kernel
theorem dL_chosen_3 : decode cL_chosen 3 = .ok (.iand, 1) := by decide +kernel
theorem dL_chosen_4 : decode cL_chosen 4 = .ok (.iload_n 1, 1) := by decide +kernel
theorem dL_chosen_5 : decode cL_chosen 5 = .ok (.irem, 1) := by decide +kernel
theorem dL_chosen_6 : decode cL_chosen 6 = .ok (.ireturn, 1) := by decide +kernel
theorem dL_type_0 : decode cL_type 0 = .ok (.aload_n 0, 1) := by decide +kernel
theorem dL_type_1 : decode cL_type 1 = .ok (.iload_n 1, 1) := by decide +kernel
theorem dL_type_2 : decode cL_type 2 = .ok (.invokevirtual 11, 3) := by decide +kernel
theorem dL_type_5 : decode cL_type 5 = .ok (.i2l, 1) := by decide +kernel
theorem dL_type_6 : decode cL_type 6 = .ok (.lreturn, 1) := by decide +kernel
theorem dL_type_7 : decode cL_type 7 = .ok (.astore_n 2, 1) := by decide +kernel
theorem dL_type_8 : decode cL_type 8 = .ok (.ldc2_w 21, 3) := by decide +kernel
theorem dL_type_11 : decode cL_type 11 = .ok (.lreturn, 1) := by decide +kernel
theorem dL_type_12 : decode cL_type 12 = .ok (.astore_n 2, 1) := by decide +kernel
theorem dL_type_13 : decode cL_type 13 = .ok (.ldc2_w 25, 3) := by decide +kernel
theorem dL_type_16 : decode cL_type 16 = .ok (.lreturn, 1) := by decide +kernel
theorem dL_wipe_0 : decode cL_wipe 0 = .ok (.aload_n 0, 1) := by decide +kernel
theorem dL_wipe_1 : decode cL_wipe 1 = .ok (.invokevirtual 27, 3) := by decide +kernel
theorem dL_wipe_4 : decode cL_wipe 4 = .ok (.i2l, 1) := by decide +kernel
theorem dL_wipe_5 : decode cL_wipe 5 = .ok (.lreturn, 1) := by decide +kernel
theorem dL_typed_0 : decode cL_typed 0 = .ok (.aload_n 0, 1) := by decide +kernel
theorem dL_typed_1 : decode cL_typed 1 = .ok (.iload_n 1, 1) := by decide +kernel
theorem dL_typed_2 : decode cL_typed 2 = .ok (.invokevirtual 31, 3) := by decide +kernel
theorem dL_typed_5 : decode cL_typed 5 = .ok (.i2l, 1) := by decide +kernel
theorem dL_typed_6 : decode cL_typed 6 = .ok (.lreturn, 1) := by decide +kernel
theorem dL_typed_7 : decode cL_typed 7 = .ok (.astore_n 2, 1) := by decide +kernel
theorem dL_typed_8 : decode cL_typed 8 = .ok (.ldc2_w 21, 3) := by decide +kernel
theorem dL_typed_11 : decode cL_typed 11 = .ok (.lreturn, 1) := by decide +kernel
theorem dL_text_0 : decode cL_text 0 = .ok (.aload_n 0, 1) := by decide +kernel
theorem dL_text_1 : decode cL_text 1 = .ok (.invokevirtual 37, 3) := by decide +kernel
theorem dL_text_4 : decode cL_text 4 = .ok (.i2l, 1) := by decide +kernel
theorem dL_text_5 : decode cL_text 5 = .ok (.lreturn, 1) := by decide +kernel
theorem dL_text_6 : decode cL_text 6 = .ok (.astore_n 1, 1) := by decide +kernel
theorem dL_text_7 : decode cL_text 7 = .ok (.ldc2_w 21, 3) := by decide +kernel
theorem dL_text_10 : decode cL_text 10 = .ok (.lreturn, 1) := by decide +kernel
theorem dL_text_11 : decode cL_text 11 = .ok (.astore_n 1, 1) := by decide +kernel
theorem dL_text_12 : decode cL_text 12 = .ok (.ldc2_w 25, 3) := by decide +kernel
theorem dL_text_15 : decode cL_text 15 = .ok (.lreturn, 1) := by decide +kernel
theorem dL_length_0 : decode cL_length 0 = .ok (.aload_n 0, 1) := by decide +kernel
theorem dL_length_1 : decode cL_length 1 = .ok (.iload_n 1, 1) := by decide +kernel
theorem dL_length_2 : decode cL_length 2 = .ok (.invokevirtual 42, 3) := by decide +kernel
theorem dL_length_5 : decode cL_length 5 = .ok (.i2l, 1) := by decide +kernel
theorem dL_length_6 : decode cL_length 6 = .ok (.lreturn, 1) := by decide +kernel
theorem dL_length_7 : decode cL_length 7 = .ok (.astore_n 2, 1) := by decide +kernel
theorem dL_length_8 : decode cL_length 8 = .ok (.ldc2_w 21, 3) := by decide +kernel
theorem dL_length_11 : decode cL_length 11 = .ok (.lreturn, 1) := by decide +kernel
theorem dL_signAt_0 : decode cL_signAt 0 = .ok (.aload_n 0, 1) := by decide +kernel
theorem dL_signAt_1 : decode cL_signAt 1 = .ok (.iload_n 1, 1) := by decide +kernel
theorem dL_signAt_2 : decode cL_signAt 2 = .ok (.iload_n 2, 1) := by decide +kernel
theorem dL_signAt_3 : decode cL_signAt 3 = .ok (.invokevirtual 48, 3) := by decide +kernel
theorem dL_signAt_6 : decode cL_signAt 6 = .ok (.i2l, 1) := by decide +kernel
theorem dL_signAt_7 : decode cL_signAt 7 = .ok (.lreturn, 1) := by decide +kernel
theorem dL_signAt_8 : decode cL_signAt 8 = .ok (.astore_n 3, 1) := by decide +kernel
theorem dL_signAt_9 : decode cL_signAt 9 = .ok (.ldc2_w 21, 3) := by decide +kernel
theorem dL_signAt_12 : decode cL_signAt 12 = .ok (.lreturn, 1) := by decide +kernel
theorem dL_mirror_0 : decode cL_mirror 0 = .ok (.aload_n 0, 1) := by decide +kernel
theorem dL_mirror_1 : decode cL_mirror 1 = .ok (.iload_n 1, 1) := by decide +kernel
theorem dL_mirror_2 : decode cL_mirror 2 = .ok (.invokevirtual 52, 3) := by decide +kernel
theorem dL_mirror_5 : decode cL_mirror 5 = .ok (.i2l, 1) := by decide +kernel
theorem dL_mirror_6 : decode cL_mirror 6 = .ok (.lreturn, 1) := by decide +kernel
theorem dL_mirror_7 : decode cL_mirror 7 = .ok (.astore_n 2, 1) := by decide +kernel
theorem dL_mirror_8 : decode cL_mirror 8 = .ok (.ldc2_w 21, 3) := by decide +kernel
theorem dL_mirror_11 : decode cL_mirror 11 = .ok (.lreturn, 1) := by decide +kernel
theorem dL_mirror_12 : decode cL_mirror 12 = .ok (.astore_n 2, 1) := by decide +kernel
theorem dL_mirror_13 : decode cL_mirror 13 = .ok (.ldc2_w 25, 3) := by decide +kernel
theorem dL_mirror_16 : decode cL_mirror 16 = .ok (.lreturn, 1) := by decide +kernel
theorem dL_ahead_0 : decode cL_ahead 0 = .ok (.aload_n 0, 1) := by decide +kernel
theorem dL_ahead_1 : decode cL_ahead 1 = .ok (.iload_n 1, 1) := by decide +kernel
theorem dL_ahead_2 : decode cL_ahead 2 = .ok (.iload_n 2, 1) := by decide +kernel
theorem dL_ahead_3 : decode cL_ahead 3 = .ok (.invokevirtual 55, 3) := by decide +kernel
theorem dL_ahead_6 : decode cL_ahead 6 = .ok (.i2l, 1) := by decide +kernel
theorem dL_ahead_7 : decode cL_ahead 7 = .ok (.lreturn, 1) := by decide +kernel
theorem dL_ahead_8 : decode cL_ahead 8 = .ok (.astore_n 3, 1) := by decide +kernel
theorem dL_ahead_9 : decode cL_ahead 9 = .ok (.ldc2_w 21, 3) := by decide +kernel
theorem dL_ahead_12 : decode cL_ahead 12 = .ok (.lreturn, 1) := by decide +kernel
theorem dL_ahead_13 : decode cL_ahead 13 = .ok (.astore_n 3, 1) := by decide +kernel
theorem dL_ahead_14 : decode cL_ahead 14 = .ok (.ldc2_w 25, 3) := by decide +kernel
theorem dL_ahead_17 : decode cL_ahead 17 = .ok (.lreturn, 1) := by decide +kernel
theorem dL_ahead_18 : decode cL_ahead 18 = .ok (.astore_n 3, 1) := by decide +kernel
theorem dL_ahead_19 : decode cL_ahead 19 = .ok (.ldc2_w 59, 3) := by decide +kernel
theorem dL_ahead_22 : decode cL_ahead 22 = .ok (.lreturn, 1) := by decide +kernel
theorem dL_chop_0 : decode cL_chop 0 = .ok (.aload_n 0, 1) := by decide +kernel
theorem dL_chop_1 : decode cL_chop 1 = .ok (.iload_n 1, 1) := by decide +kernel
theorem dL_chop_2 : decode cL_chop 2 = .ok (.invokevirtual 61, 3) := by decide +kernel
theorem dL_chop_5 : decode cL_chop 5 = .ok (.i2l, 1) := by decide +kernel
theorem dL_chop_6 : decode cL_chop 6 = .ok (.lreturn, 1) := by decide +kernel
theorem dL_chop_7 : decode cL_chop 7 = .ok (.astore_n 2, 1) := by decide +kernel
theorem dL_chop_8 : decode cL_chop 8 = .ok (.ldc2_w 21, 3) := by decide +kernel
theorem dL_chop_11 : decode cL_chop 11 = .ok (.lreturn, 1) := by decide +kernel
theorem dL_chop_12 : decode cL_chop 12 = .ok (.astore_n 2, 1) := by decide +kernel
theorem dL_chop_13 : decode cL_chop 13 = .ok (.ldc2_w 25, 3) := by decide +kernel
theorem dL_chop_16 : decode cL_chop 16 = .ok (.lreturn, 1) := by decide +kernel
theorem dL_endAt_0 : decode cL_endAt 0 = .ok (.aload_n 0, 1) := by decide +kernel
theorem dL_endAt_1 : decode cL_endAt 1 = .ok (.iload_n 1, 1) := by decide +kernel
theorem dL_endAt_2 : decode cL_endAt 2 = .ok (.iload_n 2, 1) := by decide +kernel
theorem dL_endAt_3 : decode cL_endAt 3 = .ok (.invokevirtual 64, 3) := by decide +kernel
theorem dL_endAt_6 : decode cL_endAt 6 = .ok (.i2l, 1) := by decide +kernel
theorem dL_endAt_7 : decode cL_endAt 7 = .ok (.lreturn, 1) := by decide +kernel
theorem dL_endAt_8 : decode cL_endAt 8 = .ok (.astore_n 3, 1) := by decide +kernel
theorem dL_endAt_9 : decode cL_endAt 9 = .ok (.ldc2_w 21, 3) := by decide +kernel
theorem dL_endAt_12 : decode cL_endAt 12 = .ok (.lreturn, 1) := by decide +kernel
theorem dL_rankOf_0 : decode cL_rankOf 0 = .ok (.aload_n 0, 1) := by decide +kernel
theorem dL_rankOf_1 : decode cL_rankOf 1 = .ok (.iload_n 1, 1) := by decide +kernel
theorem dL_rankOf_2 : decode cL_rankOf 2 = .ok (.iload_n 2, 1) := by decide +kernel
theorem dL_rankOf_3 : decode cL_rankOf 3 = .ok (.invokevirtual 68, 3) := by decide +kernel
theorem dL_rankOf_6 : decode cL_rankOf 6 = .ok (.i2l, 1) := by decide +kernel
theorem dL_rankOf_7 : decode cL_rankOf 7 = .ok (.lreturn, 1) := by decide +kernel
theorem dL_rankOf_8 : decode cL_rankOf 8 = .ok (.astore_n 3, 1) := by decide +kernel
theorem dL_rankOf_9 : decode cL_rankOf 9 = .ok (.ldc2_w 21, 3) := by decide +kernel
theorem dL_rankOf_12 : decode cL_rankOf 12 = .ok (.lreturn, 1) := by decide +kernel
theorem dL_classes_0 : decode cL_classes 0 = .ok (.aload_n 0, 1) := by decide +kernel
theorem dL_classes_1 : decode cL_classes 1 = .ok (.iload_n 1, 1) := by decide +kernel
theorem dL_classes_2 : decode cL_classes 2 = .ok (.iload_n 2, 1) := by decide +kernel
theorem dL_classes_3 : decode cL_classes 3 = .ok (.invokevirtual 71, 3) := by decide +kernel
theorem dL_classes_6 : decode cL_classes 6 = .ok (.i2l, 1) := by decide +kernel
theorem dL_classes_7 : decode cL_classes 7 = .ok (.lreturn, 1) := by decide +kernel
theorem dL_classes_8 : decode cL_classes 8 = .ok (.astore_n 3, 1) := by decide +kernel
theorem dL_classes_9 : decode cL_classes 9 = .ok (.ldc2_w 21, 3) := by decide +kernel
theorem dL_classes_12 : decode cL_classes 12 = .ok (.lreturn, 1) := by decide +kernel
theorem dL_classes_13 : decode cL_classes 13 = .ok (.astore_n 3, 1) := by decide +kernel
theorem dL_classes_14 : decode cL_classes 14 = .ok (.ldc2_w 25, 3) := by decide +kernel
theorem dL_classes_17 : decode cL_classes 17 = .ok (.lreturn, 1) := by decide +kernel
theorem dL_rounds_0 : decode cL_rounds 0 = .ok (.aload_n 0, 1) := by decide +kernel
theorem dL_rounds_1 : decode cL_rounds 1 = .ok (.iload_n 1, 1) := by decide +kernel
theorem dL_rounds_2 : decode cL_rounds 2 = .ok (.invokevirtual 74, 3) := by decide +kernel
theorem dL_rounds_5 : decode cL_rounds 5 = .ok (.i2l, 1) := by decide +kernel
theorem dL_rounds_6 : decode cL_rounds 6 = .ok (.lreturn, 1) := by decide +kernel
theorem dL_rounds_7 : decode cL_rounds 7 = .ok (.astore_n 2, 1) := by decide +kernel
theorem dL_rounds_8 : decode cL_rounds 8 = .ok (.ldc2_w 21, 3) := by decide +kernel
theorem dL_rounds_11 : decode cL_rounds 11 = .ok (.lreturn, 1) := by decide +kernel
theorem dL_common_0 : decode cL_common 0 = .ok (.aload_n 0, 1) := by decide +kernel
theorem dL_common_1 : decode cL_common 1 = .ok (.iload_n 1, 1) := by decide +kernel
theorem dL_common_2 : decode cL_common 2 = .ok (.iload_n 2, 1) := by decide +kernel
theorem dL_common_3 : decode cL_common 3 = .ok (.invokevirtual 77, 3) := by decide +kernel
theorem dL_common_6 : decode cL_common 6 = .ok (.i2l, 1) := by decide +kernel
theorem dL_common_7 : decode cL_common 7 = .ok (.lreturn, 1) := by decide +kernel
theorem dL_common_8 : decode cL_common 8 = .ok (.astore_n 3, 1) := by decide +kernel
theorem dL_common_9 : decode cL_common 9 = .ok (.ldc2_w 21, 3) := by decide +kernel
theorem dL_common_12 : decode cL_common 12 = .ok (.lreturn, 1) := by decide +kernel
theorem dL_shared_0 : decode cL_shared 0 = .ok (.aload_n 0, 1) := by decide +kernel
theorem dL_shared_1 : decode cL_shared 1 = .ok (.iload_n 1, 1) := by decide +kernel
theorem dL_shared_2 : decode cL_shared 2 = .ok (.iload_n 2, 1) := by decide +kernel
theorem dL_shared_3 : decode cL_shared 3 = .ok (.iload_n 3, 1) := by decide +kernel
theorem dL_shared_4 : decode cL_shared 4 = .ok (.iload 4, 2) := by decide +kernel
theorem dL_shared_6 : decode cL_shared 6 = .ok (.invokevirtual 80, 3) := by decide +kernel
theorem dL_shared_9 : decode cL_shared 9 = .ok (.i2l, 1) := by decide +kernel
theorem dL_shared_10 : decode cL_shared 10 = .ok (.lreturn, 1) := by decide +kernel
theorem dL_shared_11 : decode cL_shared 11 = .ok (.astore 5, 2) := by decide +kernel
theorem dL_shared_13 : decode cL_shared 13 = .ok (.ldc2_w 21, 3) := by decide +kernel
theorem dL_shared_16 : decode cL_shared 16 = .ok (.lreturn, 1) := by decide +kernel
theorem dL_count_0 : decode cL_count 0 = .ok (.aload_n 0, 1) := by decide +kernel
theorem dL_count_1 : decode cL_count 1 = .ok (.iload_n 1, 1) := by decide +kernel
theorem dL_count_2 : decode cL_count 2 = .ok (.invokevirtual 84, 3) := by decide +kernel
theorem dL_count_5 : decode cL_count 5 = .ok (.i2l, 1) := by decide +kernel
theorem dL_count_6 : decode cL_count 6 = .ok (.lreturn, 1) := by decide +kernel
theorem dL_count_7 : decode cL_count 7 = .ok (.astore_n 2, 1) := by decide +kernel
theorem dL_count_8 : decode cL_count 8 = .ok (.ldc2_w 21, 3) := by decide +kernel
theorem dL_count_11 : decode cL_count 11 = .ok (.lreturn, 1) := by decide +kernel
theorem dL_count_12 : decode cL_count 12 = .ok (.astore_n 2, 1) := by decide +kernel
theorem dL_count_13 : decode cL_count 13 = .ok (.ldc2_w 25, 3) := by decide +kernel
theorem dL_count_16 : decode cL_count 16 = .ok (.lreturn, 1) := by decide +kernel
theorem dL_runFrom_0 : decode cL_runFrom 0 = .ok (.aload_n 0, 1) := by decide +kernel
theorem dL_runFrom_1 : decode cL_runFrom 1 = .ok (.iload_n 1, 1) := by decide +kernel
theorem dL_runFrom_2 : decode cL_runFrom 2 = .ok (.invokevirtual 87, 3) := by decide +kernel
theorem dL_runFrom_5 : decode cL_runFrom 5 = .ok (.i2l, 1) := by decide +kernel
theorem dL_runFrom_6 : decode cL_runFrom 6 = .ok (.lreturn, 1) := by decide +kernel
theorem dL_runFrom_7 : decode cL_runFrom 7 = .ok (.astore_n 2, 1) := by decide +kernel
theorem dL_runFrom_8 : decode cL_runFrom 8 = .ok (.ldc2_w 21, 3) := by decide +kernel
theorem dL_runFrom_11 : decode cL_runFrom 11 = .ok (.lreturn, 1) := by decide +kernel
theorem dL_runFrom_12 : decode cL_runFrom 12 = .ok (.astore_n 2, 1) := by decide +kernel
theorem dL_runFrom_13 : decode cL_runFrom 13 = .ok (.ldc2_w 25, 3) := by decide +kernel
theorem dL_runFrom_16 : decode cL_runFrom 16 = .ok (.lreturn, 1) := by decide +kernel
theorem dL_runFrom_17 : decode cL_runFrom 17 = .ok (.astore_n 2, 1) := by decide +kernel
theorem dL_runFrom_18 : decode cL_runFrom 18 = .ok (.ldc2_w 59, 3) := by decide +kernel
theorem dL_runFrom_21 : decode cL_runFrom 21 = .ok (.lreturn, 1) := by decide +kernel
theorem dL_standsAt_0 : decode cL_standsAt 0 = .ok (.aload_n 0, 1) := by decide +kernel
theorem dL_standsAt_1 : decode cL_standsAt 1 = .ok (.iload_n 1, 1) := by decide +kernel
theorem dL_standsAt_2 : decode cL_standsAt 2 = .ok (.iload_n 2, 1) := by decide +kernel
theorem dL_standsAt_3 : decode cL_standsAt 3 = .ok (.invokevirtual 90, 3) := by decide +kernel
theorem dL_standsAt_6 : decode cL_standsAt 6 = .ok (.i2l, 1) := by decide +kernel
theorem dL_standsAt_7 : decode cL_standsAt 7 = .ok (.lreturn, 1) := by decide +kernel
theorem dL_standsAt_8 : decode cL_standsAt 8 = .ok (.astore_n 3, 1) := by decide +kernel
theorem dL_standsAt_9 : decode cL_standsAt 9 = .ok (.ldc2_w 21, 3) := by decide +kernel
theorem dL_standsAt_12 : decode cL_standsAt 12 = .ok (.lreturn, 1) := by decide +kernel
theorem dL_standsAt_13 : decode cL_standsAt 13 = .ok (.astore_n 3, 1) := by decide +kernel
theorem dL_standsAt_14 : decode cL_standsAt 14 = .ok (.ldc2_w 25, 3) := by decide +kernel
theorem dL_standsAt_17 : decode cL_standsAt 17 = .ok (.lreturn, 1) := by decide +kernel
theorem dL_standsAt_18 : decode cL_standsAt 18 = .ok (.astore_n 3, 1) := by decide +kernel
theorem dL_standsAt_19 : decode cL_standsAt 19 = .ok (.ldc2_w 59, 3) := by decide +kernel
theorem dL_standsAt_22 : decode cL_standsAt 22 = .ok (.lreturn, 1) := by decide +kernel
theorem dL_tail_0 : decode cL_tail 0 = .ok (.aload_n 0, 1) := by decide +kernel
theorem dL_tail_1 : decode cL_tail 1 = .ok (.iload_n 1, 1) := by decide +kernel
theorem dL_tail_2 : decode cL_tail 2 = .ok (.iload_n 2, 1) := by decide +kernel
theorem dL_tail_3 : decode cL_tail 3 = .ok (.invokevirtual 93, 3) := by decide +kernel
theorem dL_tail_6 : decode cL_tail 6 = .ok (.i2l, 1) := by decide +kernel
theorem dL_tail_7 : decode cL_tail 7 = .ok (.lreturn, 1) := by decide +kernel
theorem dL_tail_8 : decode cL_tail 8 = .ok (.astore_n 3, 1) := by decide +kernel
theorem dL_tail_9 : decode cL_tail 9 = .ok (.ldc2_w 21, 3) := by decide +kernel
theorem dL_tail_12 : decode cL_tail 12 = .ok (.lreturn, 1) := by decide +kernel
theorem dL_tail_13 : decode cL_tail 13 = .ok (.astore_n 3, 1) := by decide +kernel
theorem dL_tail_14 : decode cL_tail 14 = .ok (.ldc2_w 25, 3) := by decide +kernel
theorem dL_tail_17 : decode cL_tail 17 = .ok (.lreturn, 1) := by decide +kernel
theorem dL_tail_18 : decode cL_tail 18 = .ok (.astore_n 3, 1) := by decide +kernel
theorem dL_tail_19 : decode cL_tail 19 = .ok (.ldc2_w 59, 3) := by decide +kernel
theorem dL_tail_22 : decode cL_tail 22 = .ok (.lreturn, 1) := by decide +kernel
theorem dL_words_0 : decode cL_words 0 = .ok (.aload_n 0, 1) := by decide +kernel
theorem dL_words_1 : decode cL_words 1 = .ok (.iload_n 1, 1) := by decide +kernel
theorem dL_words_2 : decode cL_words 2 = .ok (.invokevirtual 96, 3) := by decide +kernel
theorem dL_words_5 : decode cL_words 5 = .ok (.lreturn, 1) := by decide +kernel
theorem dL_words_6 : decode cL_words 6 = .ok (.astore_n 2, 1) := by decide +kernel
theorem dL_words_7 : decode cL_words 7 = .ok (.ldc2_w 21, 3) := by decide +kernel
theorem dL_words_10 : decode cL_words 10 = .ok (.lreturn, 1) := by decide +kernel
theorem dL_word_0 : decode cL_word 0 = .ok (.aload_n 0, 1) := by decide +kernel
theorem dL_word_1 : decode cL_word 1 = .ok (.iload_n 1, 1) := by decide +kernel
theorem dL_word_2 : decode cL_word 2 = .ok (.iload_n 2, 1) := by decide +kernel
theorem dL_word_3 : decode cL_word 3 = .ok (.invokevirtual 100, 3) := by decide +kernel
theorem dL_word_6 : decode cL_word 6 = .ok (.i2l, 1) := by decide +kernel
theorem dL_word_7 : decode cL_word 7 = .ok (.lreturn, 1) := by decide +kernel
theorem dL_word_8 : decode cL_word 8 = .ok (.astore_n 3, 1) := by decide +kernel
theorem dL_word_9 : decode cL_word 9 = .ok (.ldc2_w 21, 3) := by decide +kernel
theorem dL_word_12 : decode cL_word 12 = .ok (.lreturn, 1) := by decide +kernel
theorem dL_word_13 : decode cL_word 13 = .ok (.astore_n 3, 1) := by decide +kernel
theorem dL_word_14 : decode cL_word 14 = .ok (.ldc2_w 25, 3) := by decide +kernel
theorem dL_word_17 : decode cL_word 17 = .ok (.lreturn, 1) := by decide +kernel
theorem dL_numberOf_0 : decode cL_numberOf 0 = .ok (.aload_n 0, 1) := by decide +kernel
theorem dL_numberOf_1 : decode cL_numberOf 1 = .ok (.iload_n 1, 1) := by decide +kernel
theorem dL_numberOf_2 : decode cL_numberOf 2 = .ok (.invokevirtual 103, 3) := by decide +kernel
theorem dL_numberOf_5 : decode cL_numberOf 5 = .ok (.i2l, 1) := by decide +kernel
theorem dL_numberOf_6 : decode cL_numberOf 6 = .ok (.lreturn, 1) := by decide +kernel
theorem dL_numberOf_7 : decode cL_numberOf 7 = .ok (.astore_n 2, 1) := by decide +kernel
theorem dL_numberOf_8 : decode cL_numberOf 8 = .ok (.ldc2_w 21, 3) := by decide +kernel
theorem dL_numberOf_11 : decode cL_numberOf 11 = .ok (.lreturn, 1) := by decide +kernel
theorem dL_numberOf_12 : decode cL_numberOf 12 = .ok (.astore_n 2, 1) := by decide +kernel
theorem dL_numberOf_13 : decode cL_numberOf 13 = .ok (.ldc2_w 25, 3) := by decide +kernel
theorem dL_numberOf_16 : decode cL_numberOf 16 = .ok (.lreturn, 1) := by decide +kernel
theorem dL_numberOf_17 : decode cL_numberOf 17 = .ok (.astore_n 2, 1) := by decide +kernel
theorem dL_numberOf_18 : decode cL_numberOf 18 = .ok (.ldc2_w 59, 3) := by decide +kernel
theorem dL_numberOf_21 : decode cL_numberOf 21 = .ok (.lreturn, 1) := by decide +kernel
theorem dL_twice_0 : decode cL_twice 0 = .ok (.aload_n 0, 1) := by decide +kernel
theorem dL_twice_1 : decode cL_twice 1 = .ok (.iload_n 1, 1) := by decide +kernel
theorem dL_twice_2 : decode cL_twice 2 = .ok (.invokevirtual 106, 3) := by decide +kernel
theorem dL_twice_5 : decode cL_twice 5 = .ok (.i2l, 1) := by decide +kernel
theorem dL_twice_6 : decode cL_twice 6 = .ok (.lreturn, 1) := by decide +kernel
theorem dL_twice_7 : decode cL_twice 7 = .ok (.astore_n 2, 1) := by decide +kernel
theorem dL_twice_8 : decode cL_twice 8 = .ok (.ldc2_w 21, 3) := by decide +kernel
theorem dL_twice_11 : decode cL_twice 11 = .ok (.lreturn, 1) := by decide +kernel
theorem dL_twiceAt_0 : decode cL_twiceAt 0 = .ok (.aload_n 0, 1) := by decide +kernel
theorem dL_twiceAt_1 : decode cL_twiceAt 1 = .ok (.iload_n 1, 1) := by decide +kernel
theorem dL_twiceAt_2 : decode cL_twiceAt 2 = .ok (.invokevirtual 109, 3) := by decide +kernel
theorem dL_twiceAt_5 : decode cL_twiceAt 5 = .ok (.i2l, 1) := by decide +kernel
theorem dL_twiceAt_6 : decode cL_twiceAt 6 = .ok (.lreturn, 1) := by decide +kernel
theorem dL_twiceAt_7 : decode cL_twiceAt 7 = .ok (.astore_n 2, 1) := by decide +kernel
theorem dL_twiceAt_8 : decode cL_twiceAt 8 = .ok (.ldc2_w 21, 3) := by decide +kernel
theorem dL_twiceAt_11 : decode cL_twiceAt 11 = .ok (.lreturn, 1) := by decide +kernel
theorem dL_twiceAt_12 : decode cL_twiceAt 12 = .ok (.astore_n 2, 1) := by decide +kernel
theorem dL_twiceAt_13 : decode cL_twiceAt 13 = .ok (.ldc2_w 25, 3) := by decide +kernel
theorem dL_twiceAt_16 : decode cL_twiceAt 16 = .ok (.lreturn, 1) := by decide +kernel
theorem dL_first_0 : decode cL_first 0 = .ok (.aload_n 0, 1) := by decide +kernel
theorem dL_first_1 : decode cL_first 1 = .ok (.iload_n 1, 1) := by decide +kernel
theorem dL_first_2 : decode cL_first 2 = .ok (.iload_n 2, 1) := by decide +kernel
theorem dL_first_3 : decode cL_first 3 = .ok (.invokevirtual 112, 3) := by decide +kernel
theorem dL_first_6 : decode cL_first 6 = .ok (.i2l, 1) := by decide +kernel
theorem dL_first_7 : decode cL_first 7 = .ok (.lreturn, 1) := by decide +kernel
theorem dL_first_8 : decode cL_first 8 = .ok (.astore_n 3, 1) := by decide +kernel
theorem dL_first_9 : decode cL_first 9 = .ok (.ldc2_w 21, 3) := by decide +kernel
theorem dL_first_12 : decode cL_first 12 = .ok (.lreturn, 1) := by decide +kernel
theorem dL_last_0 : decode cL_last 0 = .ok (.aload_n 0, 1) := by decide +kernel
theorem dL_last_1 : decode cL_last 1 = .ok (.iload_n 1, 1) := by decide +kernel
theorem dL_last_2 : decode cL_last 2 = .ok (.iload_n 2, 1) := by decide +kernel
theorem dL_last_3 : decode cL_last 3 = .ok (.invokevirtual 115, 3) := by decide +kernel
theorem dL_last_6 : decode cL_last 6 = .ok (.i2l, 1) := by decide +kernel
theorem dL_last_7 : decode cL_last 7 = .ok (.lreturn, 1) := by decide +kernel
theorem dL_last_8 : decode cL_last 8 = .ok (.astore_n 3, 1) := by decide +kernel
theorem dL_last_9 : decode cL_last 9 = .ok (.ldc2_w 21, 3) := by decide +kernel
theorem dL_last_12 : decode cL_last 12 = .ok (.lreturn, 1) := by decide +kernel
theorem dL_back_0 : decode cL_back 0 = .ok (.aload_n 0, 1) := by decide +kernel
theorem dL_back_1 : decode cL_back 1 = .ok (.iload_n 1, 1) := by decide +kernel
theorem dL_back_2 : decode cL_back 2 = .ok (.iload_n 2, 1) := by decide +kernel
theorem dL_back_3 : decode cL_back 3 = .ok (.invokevirtual 118, 3) := by decide +kernel
theorem dL_back_6 : decode cL_back 6 = .ok (.i2l, 1) := by decide +kernel
theorem dL_back_7 : decode cL_back 7 = .ok (.lreturn, 1) := by decide +kernel
theorem dL_back_8 : decode cL_back 8 = .ok (.astore_n 3, 1) := by decide +kernel
theorem dL_back_9 : decode cL_back 9 = .ok (.ldc2_w 21, 3) := by decide +kernel
theorem dL_back_12 : decode cL_back 12 = .ok (.lreturn, 1) := by decide +kernel
theorem dL_column_0 : decode cL_column 0 = .ok (.aload_n 0, 1) := by decide +kernel
theorem dL_column_1 : decode cL_column 1 = .ok (.iload_n 1, 1) := by decide +kernel
theorem dL_column_2 : decode cL_column 2 = .ok (.invokevirtual 121, 3) := by decide +kernel
theorem dL_column_5 : decode cL_column 5 = .ok (.i2l, 1) := by decide +kernel
theorem dL_column_6 : decode cL_column 6 = .ok (.lreturn, 1) := by decide +kernel
theorem dL_column_7 : decode cL_column 7 = .ok (.astore_n 2, 1) := by decide +kernel
theorem dL_column_8 : decode cL_column 8 = .ok (.ldc2_w 21, 3) := by decide +kernel
theorem dL_column_11 : decode cL_column 11 = .ok (.lreturn, 1) := by decide +kernel
theorem dL_undo_0 : decode cL_undo 0 = .ok (.aload_n 0, 1) := by decide +kernel
theorem dL_undo_1 : decode cL_undo 1 = .ok (.invokevirtual 124, 3) := by decide +kernel
theorem dL_undo_4 : decode cL_undo 4 = .ok (.i2l, 1) := by decide +kernel
theorem dL_undo_5 : decode cL_undo 5 = .ok (.lreturn, 1) := by decide +kernel
theorem dL_undo_6 : decode cL_undo 6 = .ok (.astore_n 1, 1) := by decide +kernel
theorem dL_undo_7 : decode cL_undo 7 = .ok (.ldc2_w 21, 3) := by decide +kernel
theorem dL_undo_10 : decode cL_undo 10 = .ok (.lreturn, 1) := by decide +kernel
theorem dL_undo_11 : decode cL_undo 11 = .ok (.astore_n 1, 1) := by decide +kernel
theorem dL_undo_12 : decode cL_undo 12 = .ok (.ldc2_w 25, 3) := by decide +kernel
theorem dL_undo_15 : decode cL_undo 15 = .ok (.lreturn, 1) := by decide +kernel
theorem dL_squares_0 : decode cL_squares 0 = .ok (.aload_n 0, 1) := by decide +kernel
theorem dL_squares_1 : decode cL_squares 1 = .ok (.iload_n 1, 1) := by decide +kernel
theorem dL_squares_2 : decode cL_squares 2 = .ok (.invokevirtual 127, 3) := by decide +kernel
theorem dL_squares_5 : decode cL_squares 5 = .ok (.i2l, 1) := by decide +kernel
theorem dL_squares_6 : decode cL_squares 6 = .ok (.lreturn, 1) := by decide +kernel
theorem dL_squares_7 : decode cL_squares 7 = .ok (.astore_n 2, 1) := by decide +kernel
theorem dL_squares_8 : decode cL_squares 8 = .ok (.ldc2_w 21, 3) := by decide +kernel
theorem dL_squares_11 : decode cL_squares 11 = .ok (.lreturn, 1) := by decide +kernel
theorem dL_period_0 : decode cL_period 0 = .ok (.aload_n 0, 1) := by decide +kernel
theorem dL_period_1 : decode cL_period 1 = .ok (.iload_n 1, 1) := by decide +kernel
theorem dL_period_2 : decode cL_period 2 = .ok (.invokevirtual 130, 3) := by decide +kernel
theorem dL_period_5 : decode cL_period 5 = .ok (.i2l, 1) := by decide +kernel
theorem dL_period_6 : decode cL_period 6 = .ok (.lreturn, 1) := by decide +kernel
theorem dL_period_7 : decode cL_period 7 = .ok (.astore_n 2, 1) := by decide +kernel
theorem dL_period_8 : decode cL_period 8 = .ok (.ldc2_w 21, 3) := by decide +kernel
theorem dL_period_11 : decode cL_period 11 = .ok (.lreturn, 1) := by decide +kernel
theorem dL_period_12 : decode cL_period 12 = .ok (.astore_n 2, 1) := by decide +kernel
theorem dL_period_13 : decode cL_period 13 = .ok (.ldc2_w 25, 3) := by decide +kernel
theorem dL_period_16 : decode cL_period 16 = .ok (.lreturn, 1) := by decide +kernel
theorem dL_parts_0 : decode cL_parts 0 = .ok (.aload_n 0, 1) := by decide +kernel
theorem dL_parts_1 : decode cL_parts 1 = .ok (.iload_n 1, 1) := by decide +kernel
theorem dL_parts_2 : decode cL_parts 2 = .ok (.invokevirtual 133, 3) := by decide +kernel
theorem dL_parts_5 : decode cL_parts 5 = .ok (.i2l, 1) := by decide +kernel
theorem dL_parts_6 : decode cL_parts 6 = .ok (.lreturn, 1) := by decide +kernel
theorem dL_parts_7 : decode cL_parts 7 = .ok (.astore_n 2, 1) := by decide +kernel
theorem dL_parts_8 : decode cL_parts 8 = .ok (.ldc2_w 21, 3) := by decide +kernel
theorem dL_parts_11 : decode cL_parts 11 = .ok (.lreturn, 1) := by decide +kernel
theorem dL_partAt_0 : decode cL_partAt 0 = .ok (.aload_n 0, 1) := by decide +kernel
theorem dL_partAt_1 : decode cL_partAt 1 = .ok (.iload_n 1, 1) := by decide +kernel
theorem dL_partAt_2 : decode cL_partAt 2 = .ok (.iload_n 2, 1) := by decide +kernel
theorem dL_partAt_3 : decode cL_partAt 3 = .ok (.invokevirtual 136, 3) := by decide +kernel
theorem dL_partAt_6 : decode cL_partAt 6 = .ok (.i2l, 1) := by decide +kernel
theorem dL_partAt_7 : decode cL_partAt 7 = .ok (.lreturn, 1) := by decide +kernel
theorem dL_partAt_8 : decode cL_partAt 8 = .ok (.astore_n 3, 1) := by decide +kernel
theorem dL_partAt_9 : decode cL_partAt 9 = .ok (.ldc2_w 21, 3) := by decide +kernel
theorem dL_partAt_12 : decode cL_partAt 12 = .ok (.lreturn, 1) := by decide +kernel
theorem dL_pieces_0 : decode cL_pieces 0 = .ok (.aload_n 0, 1) := by decide +kernel
theorem dL_pieces_1 : decode cL_pieces 1 = .ok (.iload_n 1, 1) := by decide +kernel
theorem dL_pieces_2 : decode cL_pieces 2 = .ok (.invokevirtual 139, 3) := by decide +kernel
theorem dL_pieces_5 : decode cL_pieces 5 = .ok (.i2l, 1) := by decide +kernel
theorem dL_pieces_6 : decode cL_pieces 6 = .ok (.lreturn, 1) := by decide +kernel
theorem dL_pieces_7 : decode cL_pieces 7 = .ok (.astore_n 2, 1) := by decide +kernel
theorem dL_pieces_8 : decode cL_pieces 8 = .ok (.ldc2_w 21, 3) := by decide +kernel
theorem dL_pieces_11 : decode cL_pieces 11 = .ok (.lreturn, 1) := by decide +kernel
theorem dL_fewest_0 : decode cL_fewest 0 = .ok (.aload_n 0, 1) := by decide +kernel
theorem dL_fewest_1 : decode cL_fewest 1 = .ok (.iload_n 1, 1) := by decide +kernel
theorem dL_fewest_2 : decode cL_fewest 2 = .ok (.invokevirtual 142, 3) := by decide +kernel
theorem dL_fewest_5 : decode cL_fewest 5 = .ok (.i2l, 1) := by decide +kernel
theorem dL_fewest_6 : decode cL_fewest 6 = .ok (.lreturn, 1) := by decide +kernel
theorem dL_fewest_7 : decode cL_fewest 7 = .ok (.astore_n 2, 1) := by decide +kernel
theorem dL_fewest_8 : decode cL_fewest 8 = .ok (.ldc2_w 21, 3) := by decide +kernel
theorem dL_fewest_11 : decode cL_fewest 11 = .ok (.lreturn, 1) := by decide +kernel
theorem dL_checksum_0 : decode cL_checksum 0 = .ok (.aload_n 0, 1) := by decide +kernel
theorem dL_checksum_1 : decode cL_checksum 1 = .ok (.invokevirtual 145, 3) := by decide +kernel
theorem dL_checksum_4 : decode cL_checksum 4 = .ok (.lreturn, 1) := by decide +kernel
theorem dL_isSound_0 : decode cL_isSound 0 = .ok (.aload_n 0, 1) := by decide +kernel
theorem dL_isSound_1 : decode cL_isSound 1 = .ok (.invokevirtual 149, 3) := by decide +kernel
theorem dL_isSound_4 : decode cL_isSound 4 = .ok (.ifCond .eq 7, 3) := by decide +kernel
theorem dL_isSound_7 : decode cL_isSound 7 = .ok (.lconst 1, 1) := by decide +kernel
theorem dL_isSound_8 : decode cL_isSound 8 = .ok (.goto 4, 3) := by decide +kernel
theorem dL_isSound_11 : decode cL_isSound 11 = .ok (.lconst 0, 1) := by decide +kernel
theorem dL_isSound_12 : decode cL_isSound 12 = .ok (.lreturn, 1) := by decide +kernel
theorem dL_size_0 : decode cL_size 0 = .ok (.aload_n 0, 1) := by decide +kernel
theorem dL_size_1 : decode cL_size 1 = .ok (.iconst 0, 1) := by decide +kernel
theorem dL_size_2 : decode cL_size 2 = .ok (.invokestatic 153, 3) := by decide +kernel
theorem dL_size_5 : decode cL_size 5 = .ok (.bipush 6, 2) := by decide +kernel
theorem dL_size_7 : decode cL_size 7 = .ok (.invokestatic 157, 3) := by decide +kernel
theorem dL_size_10 : decode cL_size 10 = .ok (.ifCond .ne 16, 3) := by decide +kernel
theorem dL_size_13 : decode cL_size 13 = .ok (.aload_n 0, 1) := by decide +kernel
theorem dL_size_14 : decode cL_size 14 = .ok (.iconst 1, 1) := by decide +kernel
theorem dL_size_15 : decode cL_size 15 = .ok (.invokestatic 153, 3) := by decide +kernel
theorem dL_size_18 : decode cL_size 18 = .ok (.bipush 64, 2) := by decide +kernel
theorem dL_size_20 : decode cL_size 20 = .ok (.invokestatic 157, 3) := by decide +kernel
theorem dL_size_23 : decode cL_size 23 = .ok (.goto 15, 3) := by decide +kernel
theorem dL_size_26 : decode cL_size 26 = .ok (.iconst 1, 1) := by decide +kernel
theorem dL_size_27 : decode cL_size 27 = .ok (.aload_n 0, 1) := by decide +kernel
theorem dL_size_28 : decode cL_size 28 = .ok (.iconst 1, 1) := by decide +kernel
theorem dL_size_29 : decode cL_size 29 = .ok (.invokestatic 153, 3) := by decide +kernel
theorem dL_size_32 : decode cL_size 32 = .ok (.bipush 24, 2) := by decide +kernel
theorem dL_size_34 : decode cL_size 34 = .ok (.invokestatic 157, 3) := by decide +kernel
theorem dL_size_37 : decode cL_size 37 = .ok (.iadd, 1) := by decide +kernel
theorem dL_size_38 : decode cL_size 38 = .ok (.ireturn, 1) := by decide +kernel
theorem dL_signs_0 : decode cL_signs 0 = .ok (.aload_n 0, 1) := by decide +kernel
theorem dL_signs_1 : decode cL_signs 1 = .ok (.invokestatic 160, 3) := by decide +kernel
theorem dL_signs_4 : decode cL_signs 4 = .ok (.newarray .char, 2) := by decide +kernel
theorem dL_signs_6 : decode cL_signs 6 = .ok (.astore_n 1, 1) := by decide +kernel
theorem dL_signs_7 : decode cL_signs 7 = .ok (.iconst 1, 1) := by decide +kernel
theorem dL_signs_8 : decode cL_signs 8 = .ok (.aload_n 0, 1) := by decide +kernel
theorem dL_signs_9 : decode cL_signs 9 = .ok (.iconst 2, 1) := by decide +kernel
theorem dL_signs_10 : decode cL_signs 10 = .ok (.invokestatic 153, 3) := by decide +kernel
theorem dL_signs_13 : decode cL_signs 13 = .ok (.iconst 4, 1) := by decide +kernel
theorem dL_signs_14 : decode cL_signs 14 = .ok (.invokestatic 157, 3) := by decide +kernel
theorem dL_signs_17 : decode cL_signs 17 = .ok (.iadd, 1) := by decide +kernel
theorem dL_signs_18 : decode cL_signs 18 = .ok (.istore_n 2, 1) := by decide +kernel
theorem dL_signs_19 : decode cL_signs 19 = .ok (.iconst 1, 1) := by decide +kernel
theorem dL_signs_20 : decode cL_signs 20 = .ok (.aload_n 0, 1) := by decide +kernel
theorem dL_signs_21 : decode cL_signs 21 = .ok (.iconst 3, 1) := by decide +kernel
theorem dL_signs_22 : decode cL_signs 22 = .ok (.invokestatic 153, 3) := by decide +kernel
theorem dL_signs_25 : decode cL_signs 25 = .ok (.bipush 9, 2) := by decide +kernel
theorem dL_signs_27 : decode cL_signs 27 = .ok (.invokestatic 157, 3) := by decide +kernel
theorem dL_signs_30 : decode cL_signs 30 = .ok (.iadd, 1) := by decide +kernel
theorem dL_signs_31 : decode cL_signs 31 = .ok (.istore_n 3, 1) := by decide +kernel
theorem dL_signs_32 : decode cL_signs 32 = .ok (.iconst 0, 1) := by decide +kernel
theorem dL_signs_33 : decode cL_signs 33 = .ok (.istore 4, 2) := by decide +kernel
theorem dL_signs_35 : decode cL_signs 35 = .ok (.iload 4, 2) := by decide +kernel
theorem dL_signs_37 : decode cL_signs 37 = .ok (.aload_n 1, 1) := by decide +kernel
theorem dL_signs_38 : decode cL_signs 38 = .ok (.arraylength, 1) := by decide +kernel
theorem dL_signs_39 : decode cL_signs 39 = .ok (.if_icmp .ge 67, 3) := by decide +kernel
theorem dL_signs_42 : decode cL_signs 42 = .ok (.aload_n 0, 1) := by decide +kernel
theorem dL_signs_43 : decode cL_signs 43 = .ok (.iconst 4, 1) := by decide +kernel
theorem dL_signs_44 : decode cL_signs 44 = .ok (.iload 4, 2) := by decide +kernel
theorem dL_signs_46 : decode cL_signs 46 = .ok (.iadd, 1) := by decide +kernel
theorem dL_signs_47 : decode cL_signs 47 = .ok (.invokestatic 153, 3) := by decide +kernel
theorem dL_signs_50 : decode cL_signs 50 = .ok (.bipush 31, 2) := by decide +kernel
theorem dL_signs_52 : decode cL_signs 52 = .ok (.iload 4, 2) := by decide +kernel
theorem dL_signs_54 : decode cL_signs 54 = .ok (.imul, 1) := by decide +kernel
theorem dL_signs_55 : decode cL_signs 55 = .ok (.iadd, 1) := by decide +kernel
theorem dL_signs_56 : decode cL_signs 56 = .ok (.sipush 1000, 3) := by decide +kernel
theorem dL_signs_59 : decode cL_signs 59 = .ok (.invokestatic 157, 3) := by decide +kernel
theorem dL_signs_62 : decode cL_signs 62 = .ok (.istore 5, 2) := by decide +kernel
theorem dL_signs_64 : decode cL_signs 64 = .ok (.aload_n 1, 1) := by decide +kernel
theorem dL_signs_65 : decode cL_signs 65 = .ok (.iload 4, 2) := by decide +kernel
theorem dL_signs_67 : decode cL_signs 67 = .ok (.iload 4, 2) := by decide +kernel
theorem dL_signs_69 : decode cL_signs 69 = .ok (.iload_n 3, 1) := by decide +kernel
theorem dL_signs_70 : decode cL_signs 70 = .ok (.if_icmp .lt 19, 3) := by decide +kernel
theorem dL_signs_73 : decode cL_signs 73 = .ok (.iload 5, 2) := by decide +kernel
theorem dL_signs_75 : decode cL_signs 75 = .ok (.iconst 3, 1) := by decide +kernel
theorem dL_signs_76 : decode cL_signs 76 = .ok (.irem, 1) := by decide +kernel
theorem dL_signs_77 : decode cL_signs 77 = .ok (.ifCond .le 12, 3) := by decide +kernel
theorem dL_signs_80 : decode cL_signs 80 = .ok (.aload_n 1, 1) := by decide +kernel
theorem dL_signs_81 : decode cL_signs 81 = .ok (.iload 4, 2) := by decide +kernel
theorem dL_signs_83 : decode cL_signs 83 = .ok (.iload_n 3, 1) := by decide +kernel
theorem dL_signs_84 : decode cL_signs 84 = .ok (.isub, 1) := by decide +kernel
theorem dL_signs_85 : decode cL_signs 85 = .ok (.caload, 1) := by decide +kernel
theorem dL_signs_86 : decode cL_signs 86 = .ok (.goto 13, 3) := by decide +kernel
theorem dL_signs_89 : decode cL_signs 89 = .ok (.bipush 97, 2) := by decide +kernel
theorem dL_signs_91 : decode cL_signs 91 = .ok (.iload 5, 2) := by decide +kernel
theorem dL_signs_93 : decode cL_signs 93 = .ok (.iconst 3, 1) := by decide +kernel
theorem dL_signs_94 : decode cL_signs 94 = .ok (.idiv, 1) := by decide +kernel
theorem dL_signs_95 : decode cL_signs 95 = .ok (.iload_n 2, 1) := by decide +kernel
theorem dL_signs_96 : decode cL_signs 96 = .ok (.irem, 1) := by decide +kernel
theorem dL_signs_97 : decode cL_signs 97 = .ok (.iadd, 1) := by decide +kernel
theorem dL_signs_98 : decode cL_signs 98 = .ok (.i2c, 1) := by decide +kernel
theorem dL_signs_99 : decode cL_signs 99 = .ok (.castore, 1) := by decide +kernel
theorem dL_signs_100 : decode cL_signs 100 = .ok (.iinc 4 1, 3) := by decide +kernel
theorem dL_signs_103 : decode cL_signs 103 = .ok (.goto (-68), 3) := by decide +kernel
theorem dL_signs_106 : decode cL_signs 106 = .ok (.aload_n 1, 1) := by decide +kernel
theorem dL_signs_107 : decode cL_signs 107 = .ok (.areturn, 1) := by decide +kernel
theorem dL_tells_0 : decode cL_tells 0 = .ok (.aload_n 0, 1) := by decide +kernel
theorem dL_tells_1 : decode cL_tells 1 = .ok (.invokestatic 164, 3) := by decide +kernel
theorem dL_tells_4 : decode cL_tells 4 = .ok (.pop2, 1) := by decide +kernel
theorem dL_tells_5 : decode cL_tells 5 = .ok (.aload_n 1, 1) := by decide +kernel
theorem dL_tells_6 : decode cL_tells 6 = .ok (.astore_n 2, 1) := by decide +kernel
theorem dL_tells_7 : decode cL_tells 7 = .ok (.aload_n 2, 1) := by decide +kernel
theorem dL_tells_8 : decode cL_tells 8 = .ok (.arraylength, 1) := by decide +kernel
theorem dL_tells_9 : decode cL_tells 9 = .ok (.istore_n 3, 1) := by decide +kernel
theorem dL_tells_10 : decode cL_tells 10 = .ok (.iconst 0, 1) := by decide +kernel
theorem dL_tells_11 : decode cL_tells 11 = .ok (.istore 4, 2) := by decide +kernel
theorem dL_tells_13 : decode cL_tells 13 = .ok (.iload 4, 2) := by decide +kernel
theorem dL_tells_15 : decode cL_tells 15 = .ok (.iload_n 3, 1) := by decide +kernel
theorem dL_tells_16 : decode cL_tells 16 = .ok (.if_icmp .ge 22, 3) := by decide +kernel
theorem dL_tells_19 : decode cL_tells 19 = .ok (.aload_n 2, 1) := by decide +kernel
theorem dL_tells_20 : decode cL_tells 20 = .ok (.iload 4, 2) := by decide +kernel
theorem dL_tells_22 : decode cL_tells 22 = .ok (.caload, 1) := by decide +kernel
theorem dL_tells_23 : decode cL_tells 23 = .ok (.istore 5, 2) := by decide +kernel
theorem dL_tells_25 : decode cL_tells 25 = .ok (.aload_n 0, 1) := by decide +kernel
theorem dL_tells_26 : decode cL_tells 26 = .ok (.iload 5, 2) := by decide +kernel
theorem dL_tells_28 : decode cL_tells 28 = .ok (.invokestatic 167, 3) := by decide +kernel
theorem dL_tells_31 : decode cL_tells 31 = .ok (.pop2, 1) := by decide +kernel
theorem dL_tells_32 : decode cL_tells 32 = .ok (.iinc 4 1, 3) := by decide +kernel
theorem dL_tells_35 : decode cL_tells 35 = .ok (.goto (-22), 3) := by decide +kernel
theorem dL_tells_38 : decode cL_tells 38 = .ok (.aload_n 0, 1) := by decide +kernel
theorem dL_tells_39 : decode cL_tells 39 = .ok (.invokestatic 170, 3) := by decide +kernel
theorem dL_tells_42 : decode cL_tells 42 = .ok (.l2i, 1) := by decide +kernel
theorem dL_tells_43 : decode cL_tells 43 = .ok (.ireturn, 1) := by decide +kernel
theorem dL_comesBack_0 : decode cL_comesBack 0 = .ok (.aload_n 2, 1) := by decide +kernel
theorem dL_comesBack_1 : decode cL_comesBack 1 = .ok (.arraylength, 1) := by decide +kernel
theorem dL_comesBack_2 : decode cL_comesBack 2 = .ok (.istore_n 3, 1) := by decide +kernel
theorem dL_comesBack_3 : decode cL_comesBack 3 = .ok (.aload_n 0, 1) := by decide +kernel
theorem dL_comesBack_4 : decode cL_comesBack 4 = .ok (.iload_n 1, 1) := by decide +kernel
theorem dL_comesBack_5 : decode cL_comesBack 5 = .ok (.invokestatic 172, 3) := by decide +kernel
theorem dL_comesBack_8 : decode cL_comesBack 8 = .ok (.iload_n 3, 1) := by decide +kernel
theorem dL_comesBack_9 : decode cL_comesBack 9 = .ok (.i2l, 1) := by decide +kernel
theorem dL_comesBack_10 : decode cL_comesBack 10 = .ok (.lconst 1, 1) := by decide +kernel
theorem dL_comesBack_11 : decode cL_comesBack 11 = .ok (.ladd, 1) := by decide +kernel
theorem dL_comesBack_12 : decode cL_comesBack 12 = .ok (.lcmp, 1) := by decide +kernel
theorem dL_comesBack_13 : decode cL_comesBack 13 = .ok (.ifCond .eq 5, 3) := by decide +kernel
theorem dL_comesBack_16 : decode cL_comesBack 16 = .ok (.iconst 0, 1) := by decide +kernel
theorem dL_comesBack_17 : decode cL_comesBack 17 = .ok (.ireturn, 1) := by decide +kernel
theorem dL_comesBack_18 : decode cL_comesBack 18 = .ok (.iconst 0, 1) := by decide +kernel
theorem dL_comesBack_19 : decode cL_comesBack 19 = .ok (.istore 4, 2) := by decide +kernel
theorem dL_comesBack_21 : decode cL_comesBack 21 = .ok (.iload 4, 2) := by decide +kernel
theorem dL_comesBack_23 : decode cL_comesBack 23 = .ok (.iload_n 3, 1) := by decide +kernel
theorem dL_comesBack_24 : decode cL_comesBack 24 = .ok (.if_icmp .gt 53, 3) := by decide +kernel
theorem dL_comesBack_27 : decode cL_comesBack 27 = .ok (.aload_n 0, 1) := by decide +kernel
theorem dL_comesBack_28 : decode cL_comesBack 28 = .ok (.iload 4, 2) := by decide +kernel
theorem dL_comesBack_30 : decode cL_comesBack 30 = .ok (.invokestatic 175, 3) := by decide +kernel
theorem dL_comesBack_33 : decode cL_comesBack 33 = .ok (.aload_n 0, 1) := by decide +kernel
theorem dL_comesBack_34 : decode cL_comesBack 34 = .ok (.iload_n 1, 1) := by decide +kernel
theorem dL_comesBack_35 : decode cL_comesBack 35 = .ok (.iload 4, 2) := by decide +kernel
theorem dL_comesBack_37 : decode cL_comesBack 37 = .ok (.invokestatic 177, 3) := by decide +kernel
theorem dL_comesBack_40 : decode cL_comesBack 40 = .ok (.lcmp, 1) := by decide +kernel
theorem dL_comesBack_41 : decode cL_comesBack 41 = .ok (.ifCond .ne 28, 3) := by decide +kernel
theorem dL_comesBack_44 : decode cL_comesBack 44 = .ok (.iload 4, 2) := by decide +kernel
theorem dL_comesBack_46 : decode cL_comesBack 46 = .ok (.ifCond .le 25, 3) := by decide +kernel
theorem dL_comesBack_49 : decode cL_comesBack 49 = .ok (.aload_n 0, 1) := by decide +kernel
theorem dL_comesBack_50 : decode cL_comesBack 50 = .ok (.iload_n 1, 1) := by decide +kernel
theorem dL_comesBack_51 : decode cL_comesBack 51 = .ok (.iload 4, 2) := by decide +kernel
theorem dL_comesBack_53 : decode cL_comesBack 53 = .ok (.invokestatic 180, 3) := by decide +kernel
theorem dL_comesBack_56 : decode cL_comesBack 56 = .ok (.aload_n 0, 1) := by decide +kernel
theorem dL_comesBack_57 : decode cL_comesBack 57 = .ok (.iload_n 1, 1) := by decide +kernel
theorem dL_comesBack_58 : decode cL_comesBack 58 = .ok (.iload 4, 2) := by decide +kernel
theorem dL_comesBack_60 : decode cL_comesBack 60 = .ok (.iconst 1, 1) := by decide +kernel
theorem dL_comesBack_61 : decode cL_comesBack 61 = .ok (.isub, 1) := by decide +kernel
theorem dL_comesBack_62 : decode cL_comesBack 62 = .ok (.invokestatic 180, 3) := by decide +kernel
theorem dL_comesBack_65 : decode cL_comesBack 65 = .ok (.lcmp, 1) := by decide +kernel
theorem dL_comesBack_66 : decode cL_comesBack 66 = .ok (.ifCond .ge 5, 3) := by decide +kernel
theorem dL_comesBack_69 : decode cL_comesBack 69 = .ok (.iconst 0, 1) := by decide +kernel
theorem dL_comesBack_70 : decode cL_comesBack 70 = .ok (.ireturn, 1) := by decide +kernel
theorem dL_comesBack_71 : decode cL_comesBack 71 = .ok (.iinc 4 1, 3) := by decide +kernel
theorem dL_comesBack_74 : decode cL_comesBack 74 = .ok (.goto (-53), 3) := by decide +kernel
theorem dL_comesBack_77 : decode cL_comesBack 77 = .ok (.sipush 128, 3) := by decide +kernel
theorem dL_comesBack_80 : decode cL_comesBack 80 = .ok (.newarray .int, 2) := by decide +kernel
theorem dL_comesBack_82 : decode cL_comesBack 82 = .ok (.astore 4, 2) := by decide +kernel
theorem dL_comesBack_84 : decode cL_comesBack 84 = .ok (.iload_n 3, 1) := by decide +kernel
theorem dL_comesBack_85 : decode cL_comesBack 85 = .ok (.iconst 1, 1) := by decide +kernel
theorem dL_comesBack_86 : decode cL_comesBack 86 = .ok (.iadd, 1) := by decide +kernel
theorem dL_comesBack_87 : decode cL_comesBack 87 = .ok (.newarray .int, 2) := by decide +kernel
theorem dL_comesBack_89 : decode cL_comesBack 89 = .ok (.astore 5, 2) := by decide +kernel
theorem dL_comesBack_91 : decode cL_comesBack 91 = .ok (.iconst 0, 1) := by decide +kernel
theorem dL_comesBack_92 : decode cL_comesBack 92 = .ok (.istore 6, 2) := by decide +kernel
theorem dL_comesBack_94 : decode cL_comesBack 94 = .ok (.iload 6, 2) := by decide +kernel
theorem dL_comesBack_96 : decode cL_comesBack 96 = .ok (.iload_n 3, 1) := by decide +kernel
theorem dL_comesBack_97 : decode cL_comesBack 97 = .ok (.if_icmp .gt 77, 3) := by decide +kernel
theorem dL_comesBack_100 : decode cL_comesBack 100 = .ok (.aload 5, 2) := by decide +kernel
theorem dL_comesBack_102 : decode cL_comesBack 102 = .ok (.iload 6, 2) := by decide +kernel
theorem dL_comesBack_104 : decode cL_comesBack 104 = .ok (.aload_n 0, 1) := by decide +kernel
theorem dL_comesBack_105 : decode cL_comesBack 105 = .ok (.iload_n 1, 1) := by decide +kernel
theorem dL_comesBack_106 : decode cL_comesBack 106 = .ok (.iload 6, 2) := by decide +kernel
theorem dL_comesBack_108 : decode cL_comesBack 108 = .ok (.invokestatic 182, 3) := by decide +kernel
theorem dL_comesBack_111 : decode cL_comesBack 111 = .ok (.l2i, 1) := by decide +kernel
theorem dL_comesBack_112 : decode cL_comesBack 112 = .ok (.iastore, 1) := by decide +kernel
theorem dL_comesBack_113 : decode cL_comesBack 113 = .ok (.aload_n 0, 1) := by decide +kernel
theorem dL_comesBack_114 : decode cL_comesBack 114 = .ok (.iload_n 1, 1) := by decide +kernel
theorem dL_comesBack_115 : decode cL_comesBack 115 = .ok (.iload 6, 2) := by decide +kernel
theorem dL_comesBack_117 : decode cL_comesBack 117 = .ok (.invokestatic 177, 3) := by decide +kernel
theorem dL_comesBack_120 : decode cL_comesBack 120 = .ok (.l2i, 1) := by decide +kernel
theorem dL_comesBack_121 : decode cL_comesBack 121 = .ok (.i2c, 1) := by decide +kernel
theorem dL_comesBack_122 : decode cL_comesBack 122 = .ok (.istore 7, 2) := by decide +kernel
theorem dL_comesBack_124 : decode cL_comesBack 124 = .ok (.aload_n 0, 1) := by decide +kernel
theorem dL_comesBack_125 : decode cL_comesBack 125 = .ok (.iload_n 1, 1) := by decide +kernel
theorem dL_comesBack_126 : decode cL_comesBack 126 = .ok (.aload 5, 2) := by decide +kernel
theorem dL_comesBack_128 : decode cL_comesBack 128 = .ok (.iload 6, 2) := by decide +kernel
theorem dL_comesBack_130 : decode cL_comesBack 130 = .ok (.iaload, 1) := by decide +kernel
theorem dL_comesBack_131 : decode cL_comesBack 131 = .ok (.invokestatic 180, 3) := by decide +kernel
theorem dL_comesBack_134 : decode cL_comesBack 134 = .ok (.iload 7, 2) := by decide +kernel
theorem dL_comesBack_136 : decode cL_comesBack 136 = .ok (.i2l, 1) := by decide +kernel
theorem dL_comesBack_137 : decode cL_comesBack 137 = .ok (.lcmp, 1) := by decide +kernel
theorem dL_comesBack_138 : decode cL_comesBack 138 = .ok (.ifCond .ne 16, 3) := by decide +kernel
theorem dL_comesBack_141 : decode cL_comesBack 141 = .ok (.aload 4, 2) := by decide +kernel
theorem dL_comesBack_143 : decode cL_comesBack 143 = .ok (.iload 7, 2) := by decide +kernel
theorem dL_comesBack_145 : decode cL_comesBack 145 = .ok (.iaload, 1) := by decide +kernel
theorem dL_comesBack_146 : decode cL_comesBack 146 = .ok (.aload 5, 2) := by decide +kernel
theorem dL_comesBack_148 : decode cL_comesBack 148 = .ok (.iload 6, 2) := by decide +kernel
theorem dL_comesBack_150 : decode cL_comesBack 150 = .ok (.iaload, 1) := by decide +kernel
theorem dL_comesBack_151 : decode cL_comesBack 151 = .ok (.if_icmp .le 5, 3) := by decide +kernel
theorem dL_comesBack_154 : decode cL_comesBack 154 = .ok (.iconst 0, 1) := by decide +kernel
theorem dL_comesBack_155 : decode cL_comesBack 155 = .ok (.ireturn, 1) := by decide +kernel
theorem dL_comesBack_156 : decode cL_comesBack 156 = .ok (.aload 4, 2) := by decide +kernel
theorem dL_comesBack_158 : decode cL_comesBack 158 = .ok (.iload 7, 2) := by decide +kernel
theorem dL_comesBack_160 : decode cL_comesBack 160 = .ok (.aload 5, 2) := by decide +kernel
theorem dL_comesBack_162 : decode cL_comesBack 162 = .ok (.iload 6, 2) := by decide +kernel
theorem dL_comesBack_164 : decode cL_comesBack 164 = .ok (.iaload, 1) := by decide +kernel
theorem dL_comesBack_165 : decode cL_comesBack 165 = .ok (.iconst 1, 1) := by decide +kernel
theorem dL_comesBack_166 : decode cL_comesBack 166 = .ok (.iadd, 1) := by decide +kernel
theorem dL_comesBack_167 : decode cL_comesBack 167 = .ok (.iastore, 1) := by decide +kernel
theorem dL_comesBack_168 : decode cL_comesBack 168 = .ok (.iinc 6 1, 3) := by decide +kernel
theorem dL_comesBack_171 : decode cL_comesBack 171 = .ok (.goto (-77), 3) := by decide +kernel
theorem dL_comesBack_174 : decode cL_comesBack 174 = .ok (.aload_n 0, 1) := by decide +kernel
theorem dL_comesBack_175 : decode cL_comesBack 175 = .ok (.invokestatic 184, 3) := by decide +kernel
theorem dL_comesBack_178 : decode cL_comesBack 178 = .ok (.lstore 6, 2) := by decide +kernel
theorem dL_comesBack_180 : decode cL_comesBack 180 = .ok (.lload 6, 2) := by decide +kernel
theorem dL_comesBack_182 : decode cL_comesBack 182 = .ok (.lconst 0, 1) := by decide +kernel
theorem dL_comesBack_183 : decode cL_comesBack 183 = .ok (.lcmp, 1) := by decide +kernel
theorem dL_comesBack_184 : decode cL_comesBack 184 = .ok (.ifCond .lt 16, 3) := by decide +kernel
theorem dL_comesBack_187 : decode cL_comesBack 187 = .ok (.aload_n 0, 1) := by decide +kernel
theorem dL_comesBack_188 : decode cL_comesBack 188 = .ok (.lload 6, 2) := by decide +kernel
theorem dL_comesBack_190 : decode cL_comesBack 190 = .ok (.l2i, 1) := by decide +kernel
theorem dL_comesBack_191 : decode cL_comesBack 191 = .ok (.invokestatic 186, 3) := by decide +kernel
theorem dL_comesBack_194 : decode cL_comesBack 194 = .ok (.iload_n 3, 1) := by decide +kernel
theorem dL_comesBack_195 : decode cL_comesBack 195 = .ok (.i2l, 1) := by decide +kernel
theorem dL_comesBack_196 : decode cL_comesBack 196 = .ok (.lcmp, 1) := by decide +kernel
theorem dL_comesBack_197 : decode cL_comesBack 197 = .ok (.ifCond .eq 5, 3) := by decide +kernel
theorem dL_comesBack_200 : decode cL_comesBack 200 = .ok (.iconst 0, 1) := by decide +kernel
theorem dL_comesBack_201 : decode cL_comesBack 201 = .ok (.ireturn, 1) := by decide +kernel
theorem dL_comesBack_202 : decode cL_comesBack 202 = .ok (.iconst 0, 1) := by decide +kernel
theorem dL_comesBack_203 : decode cL_comesBack 203 = .ok (.istore 8, 2) := by decide +kernel
theorem dL_comesBack_205 : decode cL_comesBack 205 = .ok (.iload_n 3, 1) := by decide +kernel
theorem dL_comesBack_206 : decode cL_comesBack 206 = .ok (.iconst 1, 1) := by decide +kernel
theorem dL_comesBack_207 : decode cL_comesBack 207 = .ok (.isub, 1) := by decide +kernel
theorem dL_comesBack_208 : decode cL_comesBack 208 = .ok (.istore 9, 2) := by decide +kernel
theorem dL_comesBack_210 : decode cL_comesBack 210 = .ok (.iload 9, 2) := by decide +kernel
theorem dL_comesBack_212 : decode cL_comesBack 212 = .ok (.ifCond .lt 52, 3) := by decide +kernel
theorem dL_comesBack_215 : decode cL_comesBack 215 = .ok (.aload_n 0, 1) := by decide +kernel
theorem dL_comesBack_216 : decode cL_comesBack 216 = .ok (.iload_n 1, 1) := by decide +kernel
theorem dL_comesBack_217 : decode cL_comesBack 217 = .ok (.iload 8, 2) := by decide +kernel
theorem dL_comesBack_219 : decode cL_comesBack 219 = .ok (.invokestatic 177, 3) := by decide +kernel
theorem dL_comesBack_222 : decode cL_comesBack 222 = .ok (.aload_n 2, 1) := by decide +kernel
theorem dL_comesBack_223 : decode cL_comesBack 223 = .ok (.iload 9, 2) := by decide +kernel
theorem dL_comesBack_225 : decode cL_comesBack 225 = .ok (.caload, 1) := by decide +kernel
theorem dL_comesBack_226 : decode cL_comesBack 226 = .ok (.i2l, 1) := by decide +kernel
theorem dL_comesBack_227 : decode cL_comesBack 227 = .ok (.lcmp, 1) := by decide +kernel
theorem dL_comesBack_228 : decode cL_comesBack 228 = .ok (.ifCond .ne 21, 3) := by decide +kernel
theorem dL_comesBack_231 : decode cL_comesBack 231 = .ok (.aload_n 0, 1) := by decide +kernel
theorem dL_comesBack_232 : decode cL_comesBack 232 = .ok (.lload 6, 2) := by decide +kernel
theorem dL_comesBack_234 : decode cL_comesBack 234 = .ok (.l2i, 1) := by decide +kernel
theorem dL_comesBack_235 : decode cL_comesBack 235 = .ok (.iload 9, 2) := by decide +kernel
theorem dL_comesBack_237 : decode cL_comesBack 237 = .ok (.invokestatic 188, 3) := by decide +kernel
theorem dL_comesBack_240 : decode cL_comesBack 240 = .ok (.aload_n 2, 1) := by decide +kernel
theorem dL_comesBack_241 : decode cL_comesBack 241 = .ok (.iload 9, 2) := by decide +kernel
theorem dL_comesBack_243 : decode cL_comesBack 243 = .ok (.caload, 1) := by decide +kernel
theorem dL_comesBack_244 : decode cL_comesBack 244 = .ok (.i2l, 1) := by decide +kernel
theorem dL_comesBack_245 : decode cL_comesBack 245 = .ok (.lcmp, 1) := by decide +kernel
theorem dL_comesBack_246 : decode cL_comesBack 246 = .ok (.ifCond .eq 5, 3) := by decide +kernel
theorem dL_comesBack_249 : decode cL_comesBack 249 = .ok (.iconst 0, 1) := by decide +kernel
theorem dL_comesBack_250 : decode cL_comesBack 250 = .ok (.ireturn, 1) := by decide +kernel
theorem dL_comesBack_251 : decode cL_comesBack 251 = .ok (.aload 5, 2) := by decide +kernel
theorem dL_comesBack_253 : decode cL_comesBack 253 = .ok (.iload 8, 2) := by decide +kernel
theorem dL_comesBack_255 : decode cL_comesBack 255 = .ok (.iaload, 1) := by decide +kernel
theorem dL_comesBack_256 : decode cL_comesBack 256 = .ok (.istore 8, 2) := by decide +kernel
theorem dL_comesBack_258 : decode cL_comesBack 258 = .ok (.iinc 9 (-1), 3) := by decide +kernel
theorem dL_comesBack_261 : decode cL_comesBack 261 = .ok (.goto (-51), 3) := by decide +kernel
theorem dL_comesBack_264 : decode cL_comesBack 264 = .ok (.aload_n 0, 1) := by decide +kernel
theorem dL_comesBack_265 : decode cL_comesBack 265 = .ok (.iload_n 1, 1) := by decide +kernel
theorem dL_comesBack_266 : decode cL_comesBack 266 = .ok (.iload 8, 2) := by decide +kernel
theorem dL_comesBack_268 : decode cL_comesBack 268 = .ok (.invokestatic 177, 3) := by decide +kernel
theorem dL_comesBack_271 : decode cL_comesBack 271 = .ok (.ldc2_w 190, 3) := by decide +kernel
theorem dL_comesBack_274 : decode cL_comesBack 274 = .ok (.lcmp, 1) := by decide +kernel
theorem dL_comesBack_275 : decode cL_comesBack 275 = .ok (.ifCond .ne 7, 3) := by decide +kernel
theorem dL_comesBack_278 : decode cL_comesBack 278 = .ok (.iconst 1, 1) := by decide +kernel
theorem dL_comesBack_279 : decode cL_comesBack 279 = .ok (.goto 4, 3) := by decide +kernel
theorem dL_comesBack_282 : decode cL_comesBack 282 = .ok (.iconst 0, 1) := by decide +kernel
theorem dL_comesBack_283 : decode cL_comesBack 283 = .ok (.ireturn, 1) := by decide +kernel
theorem dL_isRun_0 : decode cL_isRun 0 = .ok (.aload_n 0, 1) := by decide +kernel
theorem dL_isRun_1 : decode cL_isRun 1 = .ok (.invokestatic 164, 3) := by decide +kernel
theorem dL_isRun_4 : decode cL_isRun 4 = .ok (.pop2, 1) := by decide +kernel
theorem dL_isRun_5 : decode cL_isRun 5 = .ok (.iconst 0, 1) := by decide +kernel
theorem dL_isRun_6 : decode cL_isRun 6 = .ok (.istore 5, 2) := by decide +kernel
theorem dL_isRun_8 : decode cL_isRun 8 = .ok (.iload 5, 2) := by decide +kernel
theorem dL_isRun_10 : decode cL_isRun 10 = .ok (.iload 4, 2) := by decide +kernel
theorem dL_isRun_12 : decode cL_isRun 12 = .ok (.if_icmp .ge 20, 3) := by decide +kernel
theorem dL_isRun_15 : decode cL_isRun 15 = .ok (.aload_n 0, 1) := by decide +kernel
theorem dL_isRun_16 : decode cL_isRun 16 = .ok (.aload_n 2, 1) := by decide +kernel
theorem dL_isRun_17 : decode cL_isRun 17 = .ok (.iload_n 3, 1) := by decide +kernel
theorem dL_isRun_18 : decode cL_isRun 18 = .ok (.iload 5, 2) := by decide +kernel
theorem dL_isRun_20 : decode cL_isRun 20 = .ok (.iadd, 1) := by decide +kernel
theorem dL_isRun_21 : decode cL_isRun 21 = .ok (.caload, 1) := by decide +kernel
theorem dL_isRun_22 : decode cL_isRun 22 = .ok (.invokestatic 167, 3) := by decide +kernel
theorem dL_isRun_25 : decode cL_isRun 25 = .ok (.pop2, 1) := by decide +kernel
theorem dL_isRun_26 : decode cL_isRun 26 = .ok (.iinc 5 1, 3) := by decide +kernel
theorem dL_isRun_29 : decode cL_isRun 29 = .ok (.goto (-21), 3) := by decide +kernel
theorem dL_isRun_32 : decode cL_isRun 32 = .ok (.aload_n 0, 1) := by decide +kernel
theorem dL_isRun_33 : decode cL_isRun 33 = .ok (.iload_n 1, 1) := by decide +kernel
theorem dL_isRun_34 : decode cL_isRun 34 = .ok (.invokestatic 192, 3) := by decide +kernel
theorem dL_isRun_37 : decode cL_isRun 37 = .ok (.lstore 5, 2) := by decide +kernel
theorem dL_isRun_39 : decode cL_isRun 39 = .ok (.aload_n 0, 1) := by decide +kernel
theorem dL_isRun_40 : decode cL_isRun 40 = .ok (.iload_n 1, 1) := by decide +kernel
theorem dL_isRun_41 : decode cL_isRun 41 = .ok (.invokestatic 194, 3) := by decide +kernel
theorem dL_isRun_44 : decode cL_isRun 44 = .ok (.lstore 7, 2) := by decide +kernel
theorem dL_isRun_46 : decode cL_isRun 46 = .ok (.aload_n 0, 1) := by decide +kernel
theorem dL_isRun_47 : decode cL_isRun 47 = .ok (.iload_n 1, 1) := by decide +kernel
theorem dL_isRun_48 : decode cL_isRun 48 = .ok (.invokestatic 196, 3) := by decide +kernel
theorem dL_isRun_51 : decode cL_isRun 51 = .ok (.lstore 9, 2) := by decide +kernel
theorem dL_isRun_53 : decode cL_isRun 53 = .ok (.iconst 0, 1) := by decide +kernel
theorem dL_isRun_54 : decode cL_isRun 54 = .ok (.istore 11, 2) := by decide +kernel
theorem dL_isRun_56 : decode cL_isRun 56 = .ok (.iconst (-1), 1) := by decide +kernel
theorem dL_isRun_57 : decode cL_isRun 57 = .ok (.istore 12, 2) := by decide +kernel
theorem dL_isRun_59 : decode cL_isRun 59 = .ok (.iconst 0, 1) := by decide +kernel
theorem dL_isRun_60 : decode cL_isRun 60 = .ok (.istore 13, 2) := by decide +kernel
theorem dL_isRun_62 : decode cL_isRun 62 = .ok (.iload 13, 2) := by decide +kernel
theorem dL_isRun_64 : decode cL_isRun 64 = .ok (.aload_n 2, 1) := by decide +kernel
theorem dL_isRun_65 : decode cL_isRun 65 = .ok (.arraylength, 1) := by decide +kernel
theorem dL_isRun_66 : decode cL_isRun 66 = .ok (.if_icmp .ge 165, 3) := by decide +kernel
theorem dL_isRun_69 : decode cL_isRun 69 = .ok (.iload 13, 2) := by decide +kernel
theorem dL_isRun_71 : decode cL_isRun 71 = .ok (.iload 4, 2) := by decide +kernel
theorem dL_isRun_73 : decode cL_isRun 73 = .ok (.iadd, 1) := by decide +kernel
theorem dL_isRun_74 : decode cL_isRun 74 = .ok (.aload_n 2, 1) := by decide +kernel
theorem dL_isRun_75 : decode cL_isRun 75 = .ok (.arraylength, 1) := by decide +kernel
theorem dL_isRun_76 : decode cL_isRun 76 = .ok (.if_icmp .gt 7, 3) := by decide +kernel
theorem dL_isRun_79 : decode cL_isRun 79 = .ok (.iconst 1, 1) := by decide +kernel
theorem dL_isRun_80 : decode cL_isRun 80 = .ok (.goto 4, 3) := by decide +kernel
theorem dL_isRun_83 : decode cL_isRun 83 = .ok (.iconst 0, 1) := by decide +kernel
theorem dL_isRun_84 : decode cL_isRun 84 = .ok (.istore 14, 2) := by decide +kernel
theorem dL_isRun_86 : decode cL_isRun 86 = .ok (.iconst 0, 1) := by decide +kernel
theorem dL_isRun_87 : decode cL_isRun 87 = .ok (.istore 15, 2) := by decide +kernel
theorem dL_isRun_89 : decode cL_isRun 89 = .ok (.iload 14, 2) := by decide +kernel
theorem dL_isRun_91 : decode cL_isRun 91 = .ok (.ifCond .eq 39, 3) := by decide +kernel
theorem dL_isRun_94 : decode cL_isRun 94 = .ok (.iload 15, 2) := by decide +kernel
theorem dL_isRun_96 : decode cL_isRun 96 = .ok (.iload 4, 2) := by decide +kernel
theorem dL_isRun_98 : decode cL_isRun 98 = .ok (.if_icmp .ge 32, 3) := by decide +kernel
theorem dL_isRun_101 : decode cL_isRun 101 = .ok (.aload_n 2, 1) := by decide +kernel
theorem dL_isRun_102 : decode cL_isRun 102 = .ok (.iload 13, 2) := by decide +kernel
theorem dL_isRun_104 : decode cL_isRun 104 = .ok (.iload 15, 2) := by decide +kernel
theorem dL_isRun_106 : decode cL_isRun 106 = .ok (.iadd, 1) := by decide +kernel
theorem dL_isRun_107 : decode cL_isRun 107 = .ok (.caload, 1) := by decide +kernel
theorem dL_isRun_108 : decode cL_isRun 108 = .ok (.aload_n 2, 1) := by decide +kernel
theorem dL_isRun_109 : decode cL_isRun 109 = .ok (.iload_n 3, 1) := by decide +kernel
theorem dL_isRun_110 : decode cL_isRun 110 = .ok (.iload 15, 2) := by decide +kernel
theorem dL_isRun_112 : decode cL_isRun 112 = .ok (.iadd, 1) := by decide +kernel
theorem dL_isRun_113 : decode cL_isRun 113 = .ok (.caload, 1) := by decide +kernel
theorem dL_isRun_114 : decode cL_isRun 114 = .ok (.if_icmp .ne 7, 3) := by decide +kernel
theorem dL_isRun_117 : decode cL_isRun 117 = .ok (.iconst 1, 1) := by decide +kernel
theorem dL_isRun_118 : decode cL_isRun 118 = .ok (.goto 4, 3) := by decide +kernel
theorem dL_isRun_121 : decode cL_isRun 121 = .ok (.iconst 0, 1) := by decide +kernel
theorem dL_isRun_122 : decode cL_isRun 122 = .ok (.istore 14, 2) := by decide +kernel
theorem dL_isRun_124 : decode cL_isRun 124 = .ok (.iinc 15 1, 3) := by decide +kernel
theorem dL_isRun_127 : decode cL_isRun 127 = .ok (.goto (-38), 3) := by decide +kernel
theorem dL_isRun_130 : decode cL_isRun 130 = .ok (.aload_n 0, 1) := by decide +kernel
theorem dL_isRun_131 : decode cL_isRun 131 = .ok (.iload_n 1, 1) := by decide +kernel
theorem dL_isRun_132 : decode cL_isRun 132 = .ok (.iload 13, 2) := by decide +kernel
theorem dL_isRun_134 : decode cL_isRun 134 = .ok (.invokestatic 198, 3) := by decide +kernel
theorem dL_isRun_137 : decode cL_isRun 137 = .ok (.lstore 15, 2) := by decide +kernel
theorem dL_isRun_139 : decode cL_isRun 139 = .ok (.iload 14, 2) := by decide +kernel
theorem dL_isRun_141 : decode cL_isRun 141 = .ok (.lload 15, 2) := by decide +kernel
theorem dL_isRun_143 : decode cL_isRun 143 = .ok (.lload 7, 2) := by decide +kernel
theorem dL_isRun_145 : decode cL_isRun 145 = .ok (.lcmp, 1) := by decide +kernel
theorem dL_isRun_146 : decode cL_isRun 146 = .ok (.ifCond .lt 18, 3) := by decide +kernel
theorem dL_isRun_149 : decode cL_isRun 149 = .ok (.lload 15, 2) := by decide +kernel
theorem dL_isRun_151 : decode cL_isRun 151 = .ok (.lload 7, 2) := by decide +kernel
theorem dL_isRun_153 : decode cL_isRun 153 = .ok (.lload 5, 2) := by decide +kernel
theorem dL_isRun_155 : decode cL_isRun 155 = .ok (.ladd, 1) := by decide +kernel
theorem dL_isRun_156 : decode cL_isRun 156 = .ok (.lcmp, 1) := by decide +kernel
theorem dL_isRun_157 : decode cL_isRun 157 = .ok (.ifCond .ge 7, 3) := by decide +kernel
theorem dL_isRun_160 : decode cL_isRun 160 = .ok (.iconst 1, 1) := by decide +kernel
theorem dL_isRun_161 : decode cL_isRun 161 = .ok (.goto 4, 3) := by decide +kernel
theorem dL_isRun_164 : decode cL_isRun 164 = .ok (.iconst 0, 1) := by decide +kernel
theorem dL_isRun_165 : decode cL_isRun 165 = .ok (.if_icmp .eq 5, 3) := by decide +kernel
theorem dL_isRun_168 : decode cL_isRun 168 = .ok (.iconst 0, 1) := by decide +kernel
theorem dL_isRun_169 : decode cL_isRun 169 = .ok (.ireturn, 1) := by decide +kernel
theorem dL_isRun_170 : decode cL_isRun 170 = .ok (.iload 14, 2) := by decide +kernel
theorem dL_isRun_172 : decode cL_isRun 172 = .ok (.ifCond .eq 19, 3) := by decide +kernel
theorem dL_isRun_175 : decode cL_isRun 175 = .ok (.aload_n 0, 1) := by decide +kernel
theorem dL_isRun_176 : decode cL_isRun 176 = .ok (.iload_n 1, 1) := by decide +kernel
theorem dL_isRun_177 : decode cL_isRun 177 = .ok (.iload 11, 2) := by decide +kernel
theorem dL_isRun_179 : decode cL_isRun 179 = .ok (.invokestatic 200, 3) := by decide +kernel
theorem dL_isRun_182 : decode cL_isRun 182 = .ok (.iload 13, 2) := by decide +kernel
theorem dL_isRun_184 : decode cL_isRun 184 = .ok (.i2l, 1) := by decide +kernel
theorem dL_isRun_185 : decode cL_isRun 185 = .ok (.lcmp, 1) := by decide +kernel
theorem dL_isRun_186 : decode cL_isRun 186 = .ok (.ifCond .eq 5, 3) := by decide +kernel
theorem dL_isRun_189 : decode cL_isRun 189 = .ok (.iconst 0, 1) := by decide +kernel
theorem dL_isRun_190 : decode cL_isRun 190 = .ok (.ireturn, 1) := by decide +kernel
theorem dL_isRun_191 : decode cL_isRun 191 = .ok (.iload 11, 2) := by decide +kernel
theorem dL_isRun_193 : decode cL_isRun 193 = .ok (.iload 14, 2) := by decide +kernel
theorem dL_isRun_195 : decode cL_isRun 195 = .ok (.ifCond .eq 7, 3) := by decide +kernel
theorem dL_isRun_198 : decode cL_isRun 198 = .ok (.iconst 1, 1) := by decide +kernel
theorem dL_isRun_199 : decode cL_isRun 199 = .ok (.goto 4, 3) := by decide +kernel
theorem dL_isRun_202 : decode cL_isRun 202 = .ok (.iconst 0, 1) := by decide +kernel
theorem dL_isRun_203 : decode cL_isRun 203 = .ok (.iadd, 1) := by decide +kernel
theorem dL_isRun_204 : decode cL_isRun 204 = .ok (.istore 11, 2) := by decide +kernel
theorem dL_isRun_206 : decode cL_isRun 206 = .ok (.iload 14, 2) := by decide +kernel
theorem dL_isRun_208 : decode cL_isRun 208 = .ok (.ifCond .eq 13, 3) := by decide +kernel
theorem dL_isRun_211 : decode cL_isRun 211 = .ok (.iload 12, 2) := by decide +kernel
theorem dL_isRun_213 : decode cL_isRun 213 = .ok (.ifCond .ge 8, 3) := by decide +kernel
theorem dL_isRun_216 : decode cL_isRun 216 = .ok (.iload 13, 2) := by decide +kernel
theorem dL_isRun_218 : decode cL_isRun 218 = .ok (.goto 5, 3) := by decide +kernel
theorem dL_isRun_221 : decode cL_isRun 221 = .ok (.iload 12, 2) := by decide +kernel
theorem dL_isRun_223 : decode cL_isRun 223 = .ok (.istore 12, 2) := by decide +kernel
theorem dL_isRun_225 : decode cL_isRun 225 = .ok (.iinc 13 1, 3) := by decide +kernel
theorem dL_isRun_228 : decode cL_isRun 228 = .ok (.goto (-166), 3) := by decide +kernel
theorem dL_isRun_231 : decode cL_isRun 231 = .ok (.iload 11, 2) := by decide +kernel
theorem dL_isRun_233 : decode cL_isRun 233 = .ok (.i2l, 1) := by decide +kernel
theorem dL_isRun_234 : decode cL_isRun 234 = .ok (.lload 5, 2) := by decide +kernel
theorem dL_isRun_236 : decode cL_isRun 236 = .ok (.lcmp, 1) := by decide +kernel
theorem dL_isRun_237 : decode cL_isRun 237 = .ok (.ifCond .ne 36, 3) := by decide +kernel
theorem dL_isRun_240 : decode cL_isRun 240 = .ok (.aload_n 0, 1) := by decide +kernel
theorem dL_isRun_241 : decode cL_isRun 241 = .ok (.iload_n 1, 1) := by decide +kernel
theorem dL_isRun_242 : decode cL_isRun 242 = .ok (.iload 11, 2) := by decide +kernel
theorem dL_isRun_244 : decode cL_isRun 244 = .ok (.invokestatic 200, 3) := by decide +kernel
theorem dL_isRun_247 : decode cL_isRun 247 = .ok (.ldc2_w 59, 3) := by decide +kernel
theorem dL_isRun_250 : decode cL_isRun 250 = .ok (.lcmp, 1) := by decide +kernel
theorem dL_isRun_251 : decode cL_isRun 251 = .ok (.ifCond .ne 22, 3) := by decide +kernel
theorem dL_isRun_254 : decode cL_isRun 254 = .ok (.aload_n 0, 1) := by decide +kernel
theorem dL_isRun_255 : decode cL_isRun 255 = .ok (.iload_n 1, 1) := by decide +kernel
theorem dL_isRun_256 : decode cL_isRun 256 = .ok (.iload 4, 2) := by decide +kernel
theorem dL_isRun_258 : decode cL_isRun 258 = .ok (.invokestatic 202, 3) := by decide +kernel
theorem dL_isRun_261 : decode cL_isRun 261 = .ok (.lload 5, 2) := by decide +kernel
theorem dL_isRun_263 : decode cL_isRun 263 = .ok (.lcmp, 1) := by decide +kernel
theorem dL_isRun_264 : decode cL_isRun 264 = .ok (.ifCond .ne 9, 3) := by decide +kernel
theorem dL_isRun_267 : decode cL_isRun 267 = .ok (.iload 12, 2) := by decide +kernel
theorem dL_isRun_269 : decode cL_isRun 269 = .ok (.iload_n 3, 1) := by decide +kernel
theorem dL_isRun_270 : decode cL_isRun 270 = .ok (.if_icmp .le 5, 3) := by decide +kernel
theorem dL_isRun_273 : decode cL_isRun 273 = .ok (.iconst 0, 1) := by decide +kernel
theorem dL_isRun_274 : decode cL_isRun 274 = .ok (.ireturn, 1) := by decide +kernel
theorem dL_isRun_275 : decode cL_isRun 275 = .ok (.aload_n 0, 1) := by decide +kernel
theorem dL_isRun_276 : decode cL_isRun 276 = .ok (.iload_n 1, 1) := by decide +kernel
theorem dL_isRun_277 : decode cL_isRun 277 = .ok (.lload 9, 2) := by decide +kernel
theorem dL_isRun_279 : decode cL_isRun 279 = .ok (.l2i, 1) := by decide +kernel
theorem dL_isRun_280 : decode cL_isRun 280 = .ok (.invokestatic 204, 3) := by decide +kernel
theorem dL_isRun_283 : decode cL_isRun 283 = .ok (.iload 4, 2) := by decide +kernel
theorem dL_isRun_285 : decode cL_isRun 285 = .ok (.i2l, 1) := by decide +kernel
theorem dL_isRun_286 : decode cL_isRun 286 = .ok (.lcmp, 1) := by decide +kernel
theorem dL_isRun_287 : decode cL_isRun 287 = .ok (.ifCond .eq 5, 3) := by decide +kernel
theorem dL_isRun_290 : decode cL_isRun 290 = .ok (.iconst 0, 1) := by decide +kernel
theorem dL_isRun_291 : decode cL_isRun 291 = .ok (.ireturn, 1) := by decide +kernel
theorem dL_isRun_292 : decode cL_isRun 292 = .ok (.iconst 0, 1) := by decide +kernel
theorem dL_isRun_293 : decode cL_isRun 293 = .ok (.istore 13, 2) := by decide +kernel
theorem dL_isRun_295 : decode cL_isRun 295 = .ok (.iload 13, 2) := by decide +kernel
theorem dL_isRun_297 : decode cL_isRun 297 = .ok (.iload 4, 2) := by decide +kernel
theorem dL_isRun_299 : decode cL_isRun 299 = .ok (.if_icmp .ge 28, 3) := by decide +kernel
theorem dL_isRun_302 : decode cL_isRun 302 = .ok (.aload_n 0, 1) := by decide +kernel
theorem dL_isRun_303 : decode cL_isRun 303 = .ok (.iload 13, 2) := by decide +kernel
theorem dL_isRun_305 : decode cL_isRun 305 = .ok (.invokestatic 175, 3) := by decide +kernel
theorem dL_isRun_308 : decode cL_isRun 308 = .ok (.aload_n 2, 1) := by decide +kernel
theorem dL_isRun_309 : decode cL_isRun 309 = .ok (.iload_n 3, 1) := by decide +kernel
theorem dL_isRun_310 : decode cL_isRun 310 = .ok (.iload 13, 2) := by decide +kernel
theorem dL_isRun_312 : decode cL_isRun 312 = .ok (.iadd, 1) := by decide +kernel
theorem dL_isRun_313 : decode cL_isRun 313 = .ok (.caload, 1) := by decide +kernel
theorem dL_isRun_314 : decode cL_isRun 314 = .ok (.i2l, 1) := by decide +kernel
theorem dL_isRun_315 : decode cL_isRun 315 = .ok (.lcmp, 1) := by decide +kernel
theorem dL_isRun_316 : decode cL_isRun 316 = .ok (.ifCond .eq 5, 3) := by decide +kernel
theorem dL_isRun_319 : decode cL_isRun 319 = .ok (.iconst 0, 1) := by decide +kernel
theorem dL_isRun_320 : decode cL_isRun 320 = .ok (.ireturn, 1) := by decide +kernel
theorem dL_isRun_321 : decode cL_isRun 321 = .ok (.iinc 13 1, 3) := by decide +kernel
theorem dL_isRun_324 : decode cL_isRun 324 = .ok (.goto (-29), 3) := by decide +kernel
theorem dL_isRun_327 : decode cL_isRun 327 = .ok (.aload_n 0, 1) := by decide +kernel
theorem dL_isRun_328 : decode cL_isRun 328 = .ok (.iload_n 1, 1) := by decide +kernel
theorem dL_isRun_329 : decode cL_isRun 329 = .ok (.invokestatic 196, 3) := by decide +kernel
theorem dL_isRun_332 : decode cL_isRun 332 = .ok (.lload 9, 2) := by decide +kernel
theorem dL_isRun_334 : decode cL_isRun 334 = .ok (.lcmp, 1) := by decide +kernel
theorem dL_isRun_335 : decode cL_isRun 335 = .ok (.ifCond .ne 25, 3) := by decide +kernel
theorem dL_isRun_338 : decode cL_isRun 338 = .ok (.lload 9, 2) := by decide +kernel
theorem dL_isRun_340 : decode cL_isRun 340 = .ok (.lconst 0, 1) := by decide +kernel
theorem dL_isRun_341 : decode cL_isRun 341 = .ok (.lcmp, 1) := by decide +kernel
theorem dL_isRun_342 : decode cL_isRun 342 = .ok (.ifCond .lt 18, 3) := by decide +kernel
theorem dL_isRun_345 : decode cL_isRun 345 = .ok (.lload 9, 2) := by decide +kernel
theorem dL_isRun_347 : decode cL_isRun 347 = .ok (.aload_n 0, 1) := by decide +kernel
theorem dL_isRun_348 : decode cL_isRun 348 = .ok (.iload_n 1, 1) := by decide +kernel
theorem dL_isRun_349 : decode cL_isRun 349 = .ok (.invokestatic 206, 3) := by decide +kernel
theorem dL_isRun_352 : decode cL_isRun 352 = .ok (.lcmp, 1) := by decide +kernel
theorem dL_isRun_353 : decode cL_isRun 353 = .ok (.ifCond .ge 7, 3) := by decide +kernel
theorem dL_isRun_356 : decode cL_isRun 356 = .ok (.iconst 1, 1) := by decide +kernel
theorem dL_isRun_357 : decode cL_isRun 357 = .ok (.goto 4, 3) := by decide +kernel
theorem dL_isRun_360 : decode cL_isRun 360 = .ok (.iconst 0, 1) := by decide +kernel
theorem dL_isRun_361 : decode cL_isRun 361 = .ok (.ireturn, 1) := by decide +kernel
