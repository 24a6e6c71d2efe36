theorem dX10_init_101 : decode cX10_init 101 = .ok (.aload_n 0, 1) := by decide +kernel
theorem dX10_init_102 : decode cX10_init 102 = .ok (.getfield 11, 3) := by decide +kernel
theorem dX10_init_105 : decode cX10_init 105 = .ok (.arraylength, 1) := by decide +kernel
theorem dX10_init_106 : decode cX10_init 106 = .ok (.if_icmp .ge 22, 3) := by decide +kernel
theorem dX10_init_109 : decode cX10_init 109 = .ok (.aload_n 0, 1) := by decide +kernel
theorem dX10_init_110 : decode cX10_init 110 = .ok (.getfield 11, 3) := by decide +kernel
theorem dX10_init_113 : decode cX10_init 113 = .ok (.iload_n 1, 1) := by decide +kernel
theorem dX10_init_114 : decode cX10_init 114 = .ok (.new 9, 3) := by decide +kernel
theorem dX10_init_117 : decode cX10_init 117 = .ok (.dup, 1) := by decide +kernel
theorem dX10_init_118 : decode cX10_init 118 = .ok (.invokespecial 68, 3) := by decide +kernel
theorem dX10_init_121 : decode cX10_init 121 = .ok (.aastore, 1) := by decide +kernel
theorem dX10_init_122 : decode cX10_init 122 = .ok (.iinc 1 1, 3) := by decide +kernel
theorem dX10_init_125 : decode cX10_init 125 = .ok (.goto (-25), 3) := by decide +kernel
theorem dX10_init_128 : decode cX10_init 128 = .ok (.return_, 1) := by decide +kernel
theorem dX10_type_0 : decode cX10_type 0 = .ok (.iload_n 1, 1) := by decide +kernel
theorem dX10_type_1 : decode cX10_type 1 = .ok (.invokestatic 69, 3) := by decide +kernel
theorem dX10_type_4 : decode cX10_type 4 = .ok (.ifCond .ne 13, 3) := by decide +kernel
theorem dX10_type_7 : decode cX10_type 7 = .ok (.new 73, 3) := by decide +kernel
theorem dX10_type_10 : decode cX10_type 10 = .ok (.dup, 1) := by decide +kernel
theorem dX10_type_11 : decode cX10_type 11 = .ok (.ldc 75, 2) := by decide +kernel
theorem dX10_type_13 : decode cX10_type 13 = .ok (.invokespecial 77, 3) := by decide +kernel
theorem dX10_type_16 : decode cX10_type 16 = .ok (.athrow, 1) := by decide +kernel
theorem dX10_type_17 : decode cX10_type 17 = .ok (.aload_n 0, 1) := by decide +kernel
theorem dX10_type_18 : decode cX10_type 18 = .ok (.getfield 18, 3) := by decide +kernel
theorem dX10_type_21 : decode cX10_type 21 = .ok (.getfield 80, 3) := by decide +kernel
theorem dX10_type_24 : decode cX10_type 24 = .ok (.bipush 65, 2) := by decide +kernel
theorem dX10_type_26 : decode cX10_type 26 = .ok (.if_icmp .lt 13, 3) := by decide +kernel
theorem dX10_type_29 : decode cX10_type 29 = .ok (.new 84, 3) := by decide +kernel
theorem dX10_type_32 : decode cX10_type 32 = .ok (.dup, 1) := by decide +kernel
theorem dX10_type_33 : decode cX10_type 33 = .ok (.ldc 86, 2) := by decide +kernel
theorem dX10_type_35 : decode cX10_type 35 = .ok (.invokespecial 88, 3) := by decide +kernel
theorem dX10_type_38 : decode cX10_type 38 = .ok (.athrow, 1) := by decide +kernel
theorem dX10_type_39 : decode cX10_type 39 = .ok (.aload_n 0, 1) := by decide +kernel
theorem dX10_type_40 : decode cX10_type 40 = .ok (.getfield 18, 3) := by decide +kernel
theorem dX10_type_43 : decode cX10_type 43 = .ok (.iload_n 1, 1) := by decide +kernel
theorem dX10_type_44 : decode cX10_type 44 = .ok (.invokevirtual 89, 3) := by decide +kernel
theorem dX10_type_47 : decode cX10_type 47 = .ok (.aload_n 0, 1) := by decide +kernel
theorem dX10_type_48 : decode cX10_type 48 = .ok (.getfield 18, 3) := by decide +kernel
theorem dX10_type_51 : decode cX10_type 51 = .ok (.getfield 80, 3) := by decide +kernel
theorem dX10_type_54 : decode cX10_type 54 = .ok (.ireturn, 1) := by decide +kernel
theorem dX10_wipe_0 : decode cX10_wipe 0 = .ok (.aload_n 0, 1) := by decide +kernel
theorem dX10_wipe_1 : decode cX10_wipe 1 = .ok (.getfield 18, 3) := by decide +kernel
theorem dX10_wipe_4 : decode cX10_wipe 4 = .ok (.getfield 80, 3) := by decide +kernel
theorem dX10_wipe_7 : decode cX10_wipe 7 = .ok (.istore_n 1, 1) := by decide +kernel
theorem dX10_wipe_8 : decode cX10_wipe 8 = .ok (.aload_n 0, 1) := by decide +kernel
theorem dX10_wipe_9 : decode cX10_wipe 9 = .ok (.getfield 18, 3) := by decide +kernel
theorem dX10_wipe_12 : decode cX10_wipe 12 = .ok (.iconst 0, 1) := by decide +kernel
theorem dX10_wipe_13 : decode cX10_wipe 13 = .ok (.putfield 80, 3) := by decide +kernel
theorem dX10_wipe_16 : decode cX10_wipe 16 = .ok (.iload_n 1, 1) := by decide +kernel
theorem dX10_wipe_17 : decode cX10_wipe 17 = .ok (.ireturn, 1) := by decide +kernel
theorem dX10_typed_0 : decode cX10_typed 0 = .ok (.iload_n 1, 1) := by decide +kernel
theorem dX10_typed_1 : decode cX10_typed 1 = .ok (.ifCond .lt 14, 3) := by decide +kernel
theorem dX10_typed_4 : decode cX10_typed 4 = .ok (.iload_n 1, 1) := by decide +kernel
theorem dX10_typed_5 : decode cX10_typed 5 = .ok (.aload_n 0, 1) := by decide +kernel
theorem dX10_typed_6 : decode cX10_typed 6 = .ok (.getfield 18, 3) := by decide +kernel
theorem dX10_typed_9 : decode cX10_typed 9 = .ok (.getfield 80, 3) := by decide +kernel
theorem dX10_typed_12 : decode cX10_typed 12 = .ok (.if_icmp .lt 13, 3) := by decide +kernel
theorem dX10_typed_15 : decode cX10_typed 15 = .ok (.new 97, 3) := by decide +kernel
theorem dX10_typed_18 : decode cX10_typed 18 = .ok (.dup, 1) := by decide +kernel
theorem dX10_typed_19 : decode cX10_typed 19 = .ok (.ldc 99, 2) := by decide +kernel
theorem dX10_typed_21 : decode cX10_typed 21 = .ok (.invokespecial 101, 3) := by decide +kernel
theorem dX10_typed_24 : decode cX10_typed 24 = .ok (.athrow, 1) := by decide +kernel
theorem dX10_typed_25 : decode cX10_typed 25 = .ok (.aload_n 0, 1) := by decide +kernel
theorem dX10_typed_26 : decode cX10_typed 26 = .ok (.getfield 18, 3) := by decide +kernel
theorem dX10_typed_29 : decode cX10_typed 29 = .ok (.getfield 102, 3) := by decide +kernel
theorem dX10_typed_32 : decode cX10_typed 32 = .ok (.iload_n 1, 1) := by decide +kernel
theorem dX10_typed_33 : decode cX10_typed 33 = .ok (.caload, 1) := by decide +kernel
theorem dX10_typed_34 : decode cX10_typed 34 = .ok (.ireturn, 1) := by decide +kernel
theorem dX10_text_0 : decode cX10_text 0 = .ok (.aload_n 0, 1) := by decide +kernel
theorem dX10_text_1 : decode cX10_text 1 = .ok (.getfield 18, 3) := by decide +kernel
theorem dX10_text_4 : decode cX10_text 4 = .ok (.getfield 80, 3) := by decide +kernel
theorem dX10_text_7 : decode cX10_text 7 = .ok (.bipush 64, 2) := by decide +kernel
theorem dX10_text_9 : decode cX10_text 9 = .ok (.if_icmp .gt 13, 3) := by decide +kernel
theorem dX10_text_12 : decode cX10_text 12 = .ok (.aload_n 0, 1) := by decide +kernel
theorem dX10_text_13 : decode cX10_text 13 = .ok (.getfield 18, 3) := by decide +kernel
theorem dX10_text_16 : decode cX10_text 16 = .ok (.invokevirtual 105, 3) := by decide +kernel
theorem dX10_text_19 : decode cX10_text 19 = .ok (.ifCond .eq 13, 3) := by decide +kernel
theorem dX10_text_22 : decode cX10_text 22 = .ok (.new 109, 3) := by decide +kernel
theorem dX10_text_25 : decode cX10_text 25 = .ok (.dup, 1) := by decide +kernel
theorem dX10_text_26 : decode cX10_text 26 = .ok (.ldc 111, 2) := by decide +kernel
theorem dX10_text_28 : decode cX10_text 28 = .ok (.invokespecial 113, 3) := by decide +kernel
theorem dX10_text_31 : decode cX10_text 31 = .ok (.athrow, 1) := by decide +kernel
theorem dX10_text_32 : decode cX10_text 32 = .ok (.aload_n 0, 1) := by decide +kernel
theorem dX10_text_33 : decode cX10_text 33 = .ok (.invokevirtual 114, 3) := by decide +kernel
theorem dX10_text_36 : decode cX10_text 36 = .ok (.astore_n 1, 1) := by decide +kernel
theorem dX10_text_37 : decode cX10_text 37 = .ok (.aload_n 1, 1) := by decide +kernel
theorem dX10_text_38 : decode cX10_text 38 = .ok (.aload_n 0, 1) := by decide +kernel
theorem dX10_text_39 : decode cX10_text 39 = .ok (.getfield 18, 3) := by decide +kernel
theorem dX10_text_42 : decode cX10_text 42 = .ok (.getfield 102, 3) := by decide +kernel
theorem dX10_text_45 : decode cX10_text 45 = .ok (.aload_n 0, 1) := by decide +kernel
theorem dX10_text_46 : decode cX10_text 46 = .ok (.getfield 18, 3) := by decide +kernel
theorem dX10_text_49 : decode cX10_text 49 = .ok (.getfield 80, 3) := by decide +kernel
theorem dX10_text_52 : decode cX10_text 52 = .ok (.invokevirtual 118, 3) := by decide +kernel
theorem dX10_text_55 : decode cX10_text 55 = .ok (.aload_n 0, 1) := by decide +kernel
theorem dX10_text_56 : decode cX10_text 56 = .ok (.getfield 18, 3) := by decide +kernel
theorem dX10_text_59 : decode cX10_text 59 = .ok (.iconst 0, 1) := by decide +kernel
theorem dX10_text_60 : decode cX10_text 60 = .ok (.putfield 80, 3) := by decide +kernel
theorem dX10_text_63 : decode cX10_text 63 = .ok (.aload_n 0, 1) := by decide +kernel
theorem dX10_text_64 : decode cX10_text 64 = .ok (.aload_n 1, 1) := by decide +kernel
theorem dX10_text_65 : decode cX10_text 65 = .ok (.invokevirtual 122, 3) := by decide +kernel
theorem dX10_text_68 : decode cX10_text 68 = .ok (.ireturn, 1) := by decide +kernel
theorem dX10_length_0 : decode cX10_length 0 = .ok (.aload_n 0, 1) := by decide +kernel
theorem dX10_length_1 : decode cX10_length 1 = .ok (.iload_n 1, 1) := by decide +kernel
theorem dX10_length_2 : decode cX10_length 2 = .ok (.invokevirtual 126, 3) := by decide +kernel
theorem dX10_length_5 : decode cX10_length 5 = .ok (.getfield 131, 3) := by decide +kernel
theorem dX10_length_8 : decode cX10_length 8 = .ok (.ireturn, 1) := by decide +kernel
theorem dX10_signAt_0 : decode cX10_signAt 0 = .ok (.aload_n 0, 1) := by decide +kernel
theorem dX10_signAt_1 : decode cX10_signAt 1 = .ok (.iload_n 1, 1) := by decide +kernel
theorem dX10_signAt_2 : decode cX10_signAt 2 = .ok (.iload_n 2, 1) := by decide +kernel
theorem dX10_signAt_3 : decode cX10_signAt 3 = .ok (.invokevirtual 136, 3) := by decide +kernel
theorem dX10_signAt_6 : decode cX10_signAt 6 = .ok (.getfield 130, 3) := by decide +kernel
theorem dX10_signAt_9 : decode cX10_signAt 9 = .ok (.iload_n 2, 1) := by decide +kernel
theorem dX10_signAt_10 : decode cX10_signAt 10 = .ok (.caload, 1) := by decide +kernel
theorem dX10_signAt_11 : decode cX10_signAt 11 = .ok (.ireturn, 1) := by decide +kernel
theorem dX10_mirror_0 : decode cX10_mirror 0 = .ok (.aload_n 0, 1) := by decide +kernel
theorem dX10_mirror_1 : decode cX10_mirror 1 = .ok (.iload_n 1, 1) := by decide +kernel
theorem dX10_mirror_2 : decode cX10_mirror 2 = .ok (.invokevirtual 126, 3) := by decide +kernel
theorem dX10_mirror_5 : decode cX10_mirror 5 = .ok (.astore_n 2, 1) := by decide +kernel
theorem dX10_mirror_6 : decode cX10_mirror 6 = .ok (.aload_n 0, 1) := by decide +kernel
theorem dX10_mirror_7 : decode cX10_mirror 7 = .ok (.invokevirtual 114, 3) := by decide +kernel
theorem dX10_mirror_10 : decode cX10_mirror 10 = .ok (.astore_n 3, 1) := by decide +kernel
theorem dX10_mirror_11 : decode cX10_mirror 11 = .ok (.aload_n 3, 1) := by decide +kernel
theorem dX10_mirror_12 : decode cX10_mirror 12 = .ok (.aload_n 2, 1) := by decide +kernel
theorem dX10_mirror_13 : decode cX10_mirror 13 = .ok (.invokevirtual 142, 3) := by decide +kernel
theorem dX10_mirror_16 : decode cX10_mirror 16 = .ok (.aload_n 0, 1) := by decide +kernel
theorem dX10_mirror_17 : decode cX10_mirror 17 = .ok (.aload_n 3, 1) := by decide +kernel
theorem dX10_mirror_18 : decode cX10_mirror 18 = .ok (.invokevirtual 122, 3) := by decide +kernel
theorem dX10_mirror_21 : decode cX10_mirror 21 = .ok (.ireturn, 1) := by decide +kernel
theorem dX10_ahead_0 : decode cX10_ahead 0 = .ok (.aload_n 0, 1) := by decide +kernel
theorem dX10_ahead_1 : decode cX10_ahead 1 = .ok (.iload_n 1, 1) := by decide +kernel
theorem dX10_ahead_2 : decode cX10_ahead 2 = .ok (.invokevirtual 126, 3) := by decide +kernel
theorem dX10_ahead_5 : decode cX10_ahead 5 = .ok (.astore_n 3, 1) := by decide +kernel
theorem dX10_ahead_6 : decode cX10_ahead 6 = .ok (.iload_n 2, 1) := by decide +kernel
theorem dX10_ahead_7 : decode cX10_ahead 7 = .ok (.invokestatic 146, 3) := by decide +kernel
theorem dX10_ahead_10 : decode cX10_ahead 10 = .ok (.ifCond .ne 13, 3) := by decide +kernel
theorem dX10_ahead_13 : decode cX10_ahead 13 = .ok (.new 73, 3) := by decide +kernel
theorem dX10_ahead_16 : decode cX10_ahead 16 = .ok (.dup, 1) := by decide +kernel
theorem dX10_ahead_17 : decode cX10_ahead 17 = .ok (.ldc 75, 2) := by decide +kernel
theorem dX10_ahead_19 : decode cX10_ahead 19 = .ok (.invokespecial 77, 3) := by decide +kernel
theorem dX10_ahead_22 : decode cX10_ahead 22 = .ok (.athrow, 1) := by decide +kernel
theorem dX10_ahead_23 : decode cX10_ahead 23 = .ok (.aload_n 3, 1) := by decide +kernel
theorem dX10_ahead_24 : decode cX10_ahead 24 = .ok (.getfield 131, 3) := by decide +kernel
theorem dX10_ahead_27 : decode cX10_ahead 27 = .ok (.bipush 64, 2) := by decide +kernel
theorem dX10_ahead_29 : decode cX10_ahead 29 = .ok (.if_icmp .lt 13, 3) := by decide +kernel
theorem dX10_ahead_32 : decode cX10_ahead 32 = .ok (.new 84, 3) := by decide +kernel
theorem dX10_ahead_35 : decode cX10_ahead 35 = .ok (.dup, 1) := by decide +kernel
theorem dX10_ahead_36 : decode cX10_ahead 36 = .ok (.ldc 152, 2) := by decide +kernel
theorem dX10_ahead_38 : decode cX10_ahead 38 = .ok (.invokespecial 88, 3) := by decide +kernel
theorem dX10_ahead_41 : decode cX10_ahead 41 = .ok (.athrow, 1) := by decide +kernel
theorem dX10_ahead_42 : decode cX10_ahead 42 = .ok (.aload_n 3, 1) := by decide +kernel
theorem dX10_ahead_43 : decode cX10_ahead 43 = .ok (.iload_n 2, 1) := by decide +kernel
theorem dX10_ahead_44 : decode cX10_ahead 44 = .ok (.invokevirtual 154, 3) := by decide +kernel
theorem dX10_ahead_47 : decode cX10_ahead 47 = .ok (.aload_n 0, 1) := by decide +kernel
theorem dX10_ahead_48 : decode cX10_ahead 48 = .ok (.getfield 29, 3) := by decide +kernel
theorem dX10_ahead_51 : decode cX10_ahead 51 = .ok (.aload_n 3, 1) := by decide +kernel
theorem dX10_ahead_52 : decode cX10_ahead 52 = .ok (.invokevirtual 149, 3) := by decide +kernel
theorem dX10_ahead_55 : decode cX10_ahead 55 = .ok (.aload_n 3, 1) := by decide +kernel
theorem dX10_ahead_56 : decode cX10_ahead 56 = .ok (.invokevirtual 157, 3) := by decide +kernel
theorem dX10_ahead_59 : decode cX10_ahead 59 = .ok (.ireturn, 1) := by decide +kernel
theorem dX10_chop_0 : decode cX10_chop 0 = .ok (.aload_n 0, 1) := by decide +kernel
theorem dX10_chop_1 : decode cX10_chop 1 = .ok (.iload_n 1, 1) := by decide +kernel
theorem dX10_chop_2 : decode cX10_chop 2 = .ok (.invokevirtual 161, 3) := by decide +kernel
theorem dX10_chop_5 : decode cX10_chop 5 = .ok (.astore_n 2, 1) := by decide +kernel
theorem dX10_chop_6 : decode cX10_chop 6 = .ok (.aload_n 2, 1) := by decide +kernel
theorem dX10_chop_7 : decode cX10_chop 7 = .ok (.invokevirtual 157, 3) := by decide +kernel
theorem dX10_chop_10 : decode cX10_chop 10 = .ok (.istore_n 3, 1) := by decide +kernel
theorem dX10_chop_11 : decode cX10_chop 11 = .ok (.aload_n 2, 1) := by decide +kernel
theorem dX10_chop_12 : decode cX10_chop 12 = .ok (.invokevirtual 164, 3) := by decide +kernel
theorem dX10_chop_15 : decode cX10_chop 15 = .ok (.aload_n 0, 1) := by decide +kernel
theorem dX10_chop_16 : decode cX10_chop 16 = .ok (.getfield 29, 3) := by decide +kernel
theorem dX10_chop_19 : decode cX10_chop 19 = .ok (.aload_n 2, 1) := by decide +kernel
theorem dX10_chop_20 : decode cX10_chop 20 = .ok (.invokevirtual 149, 3) := by decide +kernel
theorem dX10_chop_23 : decode cX10_chop 23 = .ok (.iload_n 3, 1) := by decide +kernel
theorem dX10_chop_24 : decode cX10_chop 24 = .ok (.ireturn, 1) := by decide +kernel
theorem dX10_endAt_0 : decode cX10_endAt 0 = .ok (.aload_n 0, 1) := by decide +kernel
theorem dX10_endAt_1 : decode cX10_endAt 1 = .ok (.iload_n 1, 1) := by decide +kernel
theorem dX10_endAt_2 : decode cX10_endAt 2 = .ok (.iload_n 2, 1) := by decide +kernel
theorem dX10_endAt_3 : decode cX10_endAt 3 = .ok (.invokevirtual 136, 3) := by decide +kernel
theorem dX10_endAt_6 : decode cX10_endAt 6 = .ok (.getfield 167, 3) := by decide +kernel
theorem dX10_endAt_9 : decode cX10_endAt 9 = .ok (.iload_n 2, 1) := by decide +kernel
theorem dX10_endAt_10 : decode cX10_endAt 10 = .ok (.iaload, 1) := by decide +kernel
theorem dX10_endAt_11 : decode cX10_endAt 11 = .ok (.ireturn, 1) := by decide +kernel
theorem dX10_rankOf_0 : decode cX10_rankOf 0 = .ok (.aload_n 0, 1) := by decide +kernel
theorem dX10_rankOf_1 : decode cX10_rankOf 1 = .ok (.iload_n 1, 1) := by decide +kernel
theorem dX10_rankOf_2 : decode cX10_rankOf 2 = .ok (.iload_n 2, 1) := by decide +kernel
theorem dX10_rankOf_3 : decode cX10_rankOf 3 = .ok (.invokevirtual 136, 3) := by decide +kernel
theorem dX10_rankOf_6 : decode cX10_rankOf 6 = .ok (.getfield 171, 3) := by decide +kernel
theorem dX10_rankOf_9 : decode cX10_rankOf 9 = .ok (.iload_n 2, 1) := by decide +kernel
theorem dX10_rankOf_10 : decode cX10_rankOf 10 = .ok (.iaload, 1) := by decide +kernel
theorem dX10_rankOf_11 : decode cX10_rankOf 11 = .ok (.ireturn, 1) := by decide +kernel
theorem dX10_classes_0 : decode cX10_classes 0 = .ok (.aload_n 0, 1) := by decide +kernel
theorem dX10_classes_1 : decode cX10_classes 1 = .ok (.iload_n 1, 1) := by decide +kernel
theorem dX10_classes_2 : decode cX10_classes 2 = .ok (.invokevirtual 126, 3) := by decide +kernel
theorem dX10_classes_5 : decode cX10_classes 5 = .ok (.astore_n 3, 1) := by decide +kernel
theorem dX10_classes_6 : decode cX10_classes 6 = .ok (.aload_n 0, 1) := by decide +kernel
theorem dX10_classes_7 : decode cX10_classes 7 = .ok (.iload_n 2, 1) := by decide +kernel
theorem dX10_classes_8 : decode cX10_classes 8 = .ok (.invokevirtual 174, 3) := by decide +kernel
theorem dX10_classes_11 : decode cX10_classes 11 = .ok (.aload_n 3, 1) := by decide +kernel
theorem dX10_classes_12 : decode cX10_classes 12 = .ok (.iload_n 2, 1) := by decide +kernel
theorem dX10_classes_13 : decode cX10_classes 13 = .ok (.aload_n 3, 1) := by decide +kernel
theorem dX10_classes_14 : decode cX10_classes 14 = .ok (.getfield 131, 3) := by decide +kernel
theorem dX10_classes_17 : decode cX10_classes 17 = .ok (.iconst 1, 1) := by decide +kernel
theorem dX10_classes_18 : decode cX10_classes 18 = .ok (.isub, 1) := by decide +kernel
theorem dX10_classes_19 : decode cX10_classes 19 = .ok (.invokevirtual 178, 3) := by decide +kernel
theorem dX10_classes_22 : decode cX10_classes 22 = .ok (.ireturn, 1) := by decide +kernel
theorem dX10_rounds_0 : decode cX10_rounds 0 = .ok (.aload_n 0, 1) := by decide +kernel
theorem dX10_rounds_1 : decode cX10_rounds 1 = .ok (.iload_n 1, 1) := by decide +kernel
theorem dX10_rounds_2 : decode cX10_rounds 2 = .ok (.invokevirtual 126, 3) := by decide +kernel
theorem dX10_rounds_5 : decode cX10_rounds 5 = .ok (.astore_n 2, 1) := by decide +kernel
theorem dX10_rounds_6 : decode cX10_rounds 6 = .ok (.aload_n 2, 1) := by decide +kernel
theorem dX10_rounds_7 : decode cX10_rounds 7 = .ok (.getfield 131, 3) := by decide +kernel
theorem dX10_rounds_10 : decode cX10_rounds 10 = .ok (.ifCond .ne 5, 3) := by decide +kernel
theorem dX10_rounds_13 : decode cX10_rounds 13 = .ok (.iconst 0, 1) := by decide +kernel
theorem dX10_rounds_14 : decode cX10_rounds 14 = .ok (.ireturn, 1) := by decide +kernel
theorem dX10_rounds_15 : decode cX10_rounds 15 = .ok (.aload_n 2, 1) := by decide +kernel
theorem dX10_rounds_16 : decode cX10_rounds 16 = .ok (.invokevirtual 182, 3) := by decide +kernel
theorem dX10_rounds_19 : decode cX10_rounds 19 = .ok (.istore_n 3, 1) := by decide +kernel
theorem dX10_rounds_20 : decode cX10_rounds 20 = .ok (.iconst 1, 1) := by decide +kernel
theorem dX10_rounds_21 : decode cX10_rounds 21 = .ok (.istore 4, 2) := by decide +kernel
theorem dX10_rounds_23 : decode cX10_rounds 23 = .ok (.iconst 1, 1) := by decide +kernel
theorem dX10_rounds_24 : decode cX10_rounds 24 = .ok (.istore 5, 2) := by decide +kernel
theorem dX10_rounds_26 : decode cX10_rounds 26 = .ok (.iload 5, 2) := by decide +kernel
theorem dX10_rounds_28 : decode cX10_rounds 28 = .ok (.iload_n 3, 1) := by decide +kernel
theorem dX10_rounds_29 : decode cX10_rounds 29 = .ok (.if_icmp .gt 15, 3) := by decide +kernel
theorem dX10_rounds_32 : decode cX10_rounds 32 = .ok (.iinc 4 1, 3) := by decide +kernel
theorem dX10_rounds_35 : decode cX10_rounds 35 = .ok (.iload 5, 2) := by decide +kernel
theorem dX10_rounds_37 : decode cX10_rounds 37 = .ok (.iconst 2, 1) := by decide +kernel
theorem dX10_rounds_38 : decode cX10_rounds 38 = .ok (.imul, 1) := by decide +kernel
theorem dX10_rounds_39 : decode cX10_rounds 39 = .ok (.istore 5, 2) := by decide +kernel
theorem dX10_rounds_41 : decode cX10_rounds 41 = .ok (.goto (-15), 3) := by decide +kernel
theorem dX10_rounds_44 : decode cX10_rounds 44 = .ok (.iload 4, 2) := by decide +kernel
theorem dX10_rounds_46 : decode cX10_rounds 46 = .ok (.ireturn, 1) := by decide +kernel
theorem dX10_common_0 : decode cX10_common 0 = .ok (.aload_n 0, 1) := by decide +kernel
theorem dX10_common_1 : decode cX10_common 1 = .ok (.iload_n 1, 1) := by decide +kernel
theorem dX10_common_2 : decode cX10_common 2 = .ok (.iload_n 2, 1) := by decide +kernel
theorem dX10_common_3 : decode cX10_common 3 = .ok (.invokevirtual 136, 3) := by decide +kernel
theorem dX10_common_6 : decode cX10_common 6 = .ok (.getfield 185, 3) := by decide +kernel
theorem dX10_common_9 : decode cX10_common 9 = .ok (.iload_n 2, 1) := by decide +kernel
theorem dX10_common_10 : decode cX10_common 10 = .ok (.iaload, 1) := by decide +kernel
theorem dX10_common_11 : decode cX10_common 11 = .ok (.ireturn, 1) := by decide +kernel
theorem dX10_shared_0 : decode cX10_shared 0 = .ok (.aload_n 0, 1) := by decide +kernel
theorem dX10_shared_1 : decode cX10_shared 1 = .ok (.iload_n 1, 1) := by decide +kernel
theorem dX10_shared_2 : decode cX10_shared 2 = .ok (.iload_n 2, 1) := by decide +kernel
theorem dX10_shared_3 : decode cX10_shared 3 = .ok (.invokevirtual 136, 3) := by decide +kernel
theorem dX10_shared_6 : decode cX10_shared 6 = .ok (.astore 5, 2) := by decide +kernel
theorem dX10_shared_8 : decode cX10_shared 8 = .ok (.aload_n 0, 1) := by decide +kernel
theorem dX10_shared_9 : decode cX10_shared 9 = .ok (.iload_n 3, 1) := by decide +kernel
theorem dX10_shared_10 : decode cX10_shared 10 = .ok (.iload 4, 2) := by decide +kernel
theorem dX10_shared_12 : decode cX10_shared 12 = .ok (.invokevirtual 136, 3) := by decide +kernel
theorem dX10_shared_15 : decode cX10_shared 15 = .ok (.astore 6, 2) := by decide +kernel
theorem dX10_shared_17 : decode cX10_shared 17 = .ok (.aload 5, 2) := by decide +kernel
theorem dX10_shared_19 : decode cX10_shared 19 = .ok (.iload_n 2, 1) := by decide +kernel
theorem dX10_shared_20 : decode cX10_shared 20 = .ok (.aload 6, 2) := by decide +kernel
theorem dX10_shared_22 : decode cX10_shared 22 = .ok (.iload 4, 2) := by decide +kernel
theorem dX10_shared_24 : decode cX10_shared 24 = .ok (.invokevirtual 188, 3) := by decide +kernel
theorem dX10_shared_27 : decode cX10_shared 27 = .ok (.ireturn, 1) := by decide +kernel
theorem dX10_count_0 : decode cX10_count 0 = .ok (.aload_n 0, 1) := by decide +kernel
theorem dX10_count_1 : decode cX10_count 1 = .ok (.iload_n 1, 1) := by decide +kernel
theorem dX10_count_2 : decode cX10_count 2 = .ok (.invokevirtual 126, 3) := by decide +kernel
theorem dX10_count_5 : decode cX10_count 5 = .ok (.astore_n 2, 1) := by decide +kernel
theorem dX10_count_6 : decode cX10_count 6 = .ok (.aload_n 0, 1) := by decide +kernel
theorem dX10_count_7 : decode cX10_count 7 = .ok (.invokevirtual 192, 3) := by decide +kernel
theorem dX10_count_10 : decode cX10_count 10 = .ok (.aload_n 2, 1) := by decide +kernel
theorem dX10_count_11 : decode cX10_count 11 = .ok (.aload_n 0, 1) := by decide +kernel
theorem dX10_count_12 : decode cX10_count 12 = .ok (.getfield 18, 3) := by decide +kernel
theorem dX10_count_15 : decode cX10_count 15 = .ok (.iconst 0, 1) := by decide +kernel
theorem dX10_count_16 : decode cX10_count 16 = .ok (.invokevirtual 195, 3) := by decide +kernel
theorem dX10_count_19 : decode cX10_count 19 = .ok (.aload_n 2, 1) := by decide +kernel
theorem dX10_count_20 : decode cX10_count 20 = .ok (.aload_n 0, 1) := by decide +kernel
theorem dX10_count_21 : decode cX10_count 21 = .ok (.getfield 18, 3) := by decide +kernel
theorem dX10_count_24 : decode cX10_count 24 = .ok (.iconst 0, 1) := by decide +kernel
theorem dX10_count_25 : decode cX10_count 25 = .ok (.invokevirtual 199, 3) := by decide +kernel
theorem dX10_count_28 : decode cX10_count 28 = .ok (.isub, 1) := by decide +kernel
theorem dX10_count_29 : decode cX10_count 29 = .ok (.ireturn, 1) := by decide +kernel
theorem dX10_runFrom_0 : decode cX10_runFrom 0 = .ok (.aload_n 0, 1) := by decide +kernel
theorem dX10_runFrom_1 : decode cX10_runFrom 1 = .ok (.iload_n 1, 1) := by decide +kernel
theorem dX10_runFrom_2 : decode cX10_runFrom 2 = .ok (.invokevirtual 126, 3) := by decide +kernel
theorem dX10_runFrom_5 : decode cX10_runFrom 5 = .ok (.astore_n 2, 1) := by decide +kernel
theorem dX10_runFrom_6 : decode cX10_runFrom 6 = .ok (.aload_n 0, 1) := by decide +kernel
theorem dX10_runFrom_7 : decode cX10_runFrom 7 = .ok (.invokevirtual 192, 3) := by decide +kernel
theorem dX10_runFrom_10 : decode cX10_runFrom 10 = .ok (.aload_n 0, 1) := by decide +kernel
theorem dX10_runFrom_11 : decode cX10_runFrom 11 = .ok (.aload_n 2, 1) := by decide +kernel
theorem dX10_runFrom_12 : decode cX10_runFrom 12 = .ok (.invokevirtual 202, 3) := by decide +kernel
theorem dX10_runFrom_15 : decode cX10_runFrom 15 = .ok (.ireturn, 1) := by decide +kernel
theorem dX10_standsAt_0 : decode cX10_standsAt 0 = .ok (.aload_n 0, 1) := by decide +kernel
theorem dX10_standsAt_1 : decode cX10_standsAt 1 = .ok (.iload_n 1, 1) := by decide +kernel
theorem dX10_standsAt_2 : decode cX10_standsAt 2 = .ok (.invokevirtual 126, 3) := by decide +kernel
theorem dX10_standsAt_5 : decode cX10_standsAt 5 = .ok (.astore_n 3, 1) := by decide +kernel
theorem dX10_standsAt_6 : decode cX10_standsAt 6 = .ok (.aload_n 0, 1) := by decide +kernel
theorem dX10_standsAt_7 : decode cX10_standsAt 7 = .ok (.invokevirtual 192, 3) := by decide +kernel
theorem dX10_standsAt_10 : decode cX10_standsAt 10 = .ok (.aload_n 3, 1) := by decide +kernel
theorem dX10_standsAt_11 : decode cX10_standsAt 11 = .ok (.aload_n 0, 1) := by decide +kernel
theorem dX10_standsAt_12 : decode cX10_standsAt 12 = .ok (.getfield 18, 3) := by decide +kernel
theorem dX10_standsAt_15 : decode cX10_standsAt 15 = .ok (.iconst 0, 1) := by decide +kernel
theorem dX10_standsAt_16 : decode cX10_standsAt 16 = .ok (.invokevirtual 199, 3) := by decide +kernel
theorem dX10_standsAt_19 : decode cX10_standsAt 19 = .ok (.istore 4, 2) := by decide +kernel
theorem dX10_standsAt_21 : decode cX10_standsAt 21 = .ok (.aload_n 3, 1) := by decide +kernel
theorem dX10_standsAt_22 : decode cX10_standsAt 22 = .ok (.aload_n 0, 1) := by decide +kernel
theorem dX10_standsAt_23 : decode cX10_standsAt 23 = .ok (.getfield 18, 3) := by decide +kernel
theorem dX10_standsAt_26 : decode cX10_standsAt 26 = .ok (.iconst 0, 1) := by decide +kernel
theorem dX10_standsAt_27 : decode cX10_standsAt 27 = .ok (.invokevirtual 195, 3) := by decide +kernel
theorem dX10_standsAt_30 : decode cX10_standsAt 30 = .ok (.istore 5, 2) := by decide +kernel
theorem dX10_standsAt_32 : decode cX10_standsAt 32 = .ok (.iload_n 2, 1) := by decide +kernel
theorem dX10_standsAt_33 : decode cX10_standsAt 33 = .ok (.ifCond .lt 12, 3) := by decide +kernel
theorem dX10_standsAt_36 : decode cX10_standsAt 36 = .ok (.iload_n 2, 1) := by decide +kernel
theorem dX10_standsAt_37 : decode cX10_standsAt 37 = .ok (.iload 5, 2) := by decide +kernel
theorem dX10_standsAt_39 : decode cX10_standsAt 39 = .ok (.iload 4, 2) := by decide +kernel
theorem dX10_standsAt_41 : decode cX10_standsAt 41 = .ok (.isub, 1) := by decide +kernel
theorem dX10_standsAt_42 : decode cX10_standsAt 42 = .ok (.if_icmp .lt 13, 3) := by decide +kernel
theorem dX10_standsAt_45 : decode cX10_standsAt 45 = .ok (.new 97, 3) := by decide +kernel
theorem dX10_standsAt_48 : decode cX10_standsAt 48 = .ok (.dup, 1) := by decide +kernel
theorem dX10_standsAt_49 : decode cX10_standsAt 49 = .ok (.ldc 205, 2) := by decide +kernel
theorem dX10_standsAt_51 : decode cX10_standsAt 51 = .ok (.invokespecial 101, 3) := by decide +kernel
theorem dX10_standsAt_54 : decode cX10_standsAt 54 = .ok (.athrow, 1) := by decide +kernel
theorem dX10_standsAt_55 : decode cX10_standsAt 55 = .ok (.aload_n 3, 1) := by decide +kernel
theorem dX10_standsAt_56 : decode cX10_standsAt 56 = .ok (.iload 4, 2) := by decide +kernel
theorem dX10_standsAt_58 : decode cX10_standsAt 58 = .ok (.iload 5, 2) := by decide +kernel
theorem dX10_standsAt_60 : decode cX10_standsAt 60 = .ok (.iload_n 2, 1) := by decide +kernel
theorem dX10_standsAt_61 : decode cX10_standsAt 61 = .ok (.invokevirtual 207, 3) := by decide +kernel
theorem dX10_standsAt_64 : decode cX10_standsAt 64 = .ok (.ireturn, 1) := by decide +kernel
theorem dX10_tail_0 : decode cX10_tail 0 = .ok (.aload_n 0, 1) := by decide +kernel
theorem dX10_tail_1 : decode cX10_tail 1 = .ok (.iload_n 1, 1) := by decide +kernel
theorem dX10_tail_2 : decode cX10_tail 2 = .ok (.invokevirtual 126, 3) := by decide +kernel
theorem dX10_tail_5 : decode cX10_tail 5 = .ok (.astore_n 3, 1) := by decide +kernel
theorem dX10_tail_6 : decode cX10_tail 6 = .ok (.aload_n 0, 1) := by decide +kernel
theorem dX10_tail_7 : decode cX10_tail 7 = .ok (.invokevirtual 192, 3) := by decide +kernel
theorem dX10_tail_10 : decode cX10_tail 10 = .ok (.iload_n 2, 1) := by decide +kernel
theorem dX10_tail_11 : decode cX10_tail 11 = .ok (.iconst 1, 1) := by decide +kernel
theorem dX10_tail_12 : decode cX10_tail 12 = .ok (.if_icmp .lt 14, 3) := by decide +kernel
theorem dX10_tail_15 : decode cX10_tail 15 = .ok (.iload_n 2, 1) := by decide +kernel
theorem dX10_tail_16 : decode cX10_tail 16 = .ok (.aload_n 0, 1) := by decide +kernel
theorem dX10_tail_17 : decode cX10_tail 17 = .ok (.getfield 18, 3) := by decide +kernel
theorem dX10_tail_20 : decode cX10_tail 20 = .ok (.getfield 80, 3) := by decide +kernel
theorem dX10_tail_23 : decode cX10_tail 23 = .ok (.if_icmp .le 13, 3) := by decide +kernel
theorem dX10_tail_26 : decode cX10_tail 26 = .ok (.new 73, 3) := by decide +kernel
theorem dX10_tail_29 : decode cX10_tail 29 = .ok (.dup, 1) := by decide +kernel
theorem dX10_tail_30 : decode cX10_tail 30 = .ok (.ldc 211, 2) := by decide +kernel
theorem dX10_tail_32 : decode cX10_tail 32 = .ok (.invokespecial 77, 3) := by decide +kernel
theorem dX10_tail_35 : decode cX10_tail 35 = .ok (.athrow, 1) := by decide +kernel
theorem dX10_tail_36 : decode cX10_tail 36 = .ok (.aload_n 0, 1) := by decide +kernel
theorem dX10_tail_37 : decode cX10_tail 37 = .ok (.getfield 18, 3) := by decide +kernel
theorem dX10_tail_40 : decode cX10_tail 40 = .ok (.getfield 80, 3) := by decide +kernel
theorem dX10_tail_43 : decode cX10_tail 43 = .ok (.iload_n 2, 1) := by decide +kernel
theorem dX10_tail_44 : decode cX10_tail 44 = .ok (.isub, 1) := by decide +kernel
theorem dX10_tail_45 : decode cX10_tail 45 = .ok (.istore 4, 2) := by decide +kernel
theorem dX10_tail_47 : decode cX10_tail 47 = .ok (.aload_n 3, 1) := by decide +kernel
theorem dX10_tail_48 : decode cX10_tail 48 = .ok (.aload_n 0, 1) := by decide +kernel
theorem dX10_tail_49 : decode cX10_tail 49 = .ok (.getfield 18, 3) := by decide +kernel
theorem dX10_tail_52 : decode cX10_tail 52 = .ok (.iload 4, 2) := by decide +kernel
theorem dX10_tail_54 : decode cX10_tail 54 = .ok (.invokevirtual 195, 3) := by decide +kernel
theorem dX10_tail_57 : decode cX10_tail 57 = .ok (.aload_n 3, 1) := by decide +kernel
theorem dX10_tail_58 : decode cX10_tail 58 = .ok (.aload_n 0, 1) := by decide +kernel
theorem dX10_tail_59 : decode cX10_tail 59 = .ok (.getfield 18, 3) := by decide +kernel
theorem dX10_tail_62 : decode cX10_tail 62 = .ok (.iload 4, 2) := by decide +kernel
theorem dX10_tail_64 : decode cX10_tail 64 = .ok (.invokevirtual 199, 3) := by decide +kernel
theorem dX10_tail_67 : decode cX10_tail 67 = .ok (.isub, 1) := by decide +kernel
theorem dX10_tail_68 : decode cX10_tail 68 = .ok (.ireturn, 1) := by decide +kernel
theorem dX10_words_0 : decode cX10_words 0 = .ok (.aload_n 0, 1) := by decide +kernel
theorem dX10_words_1 : decode cX10_words 1 = .ok (.iload_n 1, 1) := by decide +kernel
theorem dX10_words_2 : decode cX10_words 2 = .ok (.invokevirtual 126, 3) := by decide +kernel
theorem dX10_words_5 : decode cX10_words 5 = .ok (.astore_n 2, 1) := by decide +kernel
theorem dX10_words_6 : decode cX10_words 6 = .ok (.aload_n 2, 1) := by decide +kernel
theorem dX10_words_7 : decode cX10_words 7 = .ok (.aload_n 2, 1) := by decide +kernel
theorem dX10_words_8 : decode cX10_words 8 = .ok (.getfield 131, 3) := by decide +kernel
theorem dX10_words_11 : decode cX10_words 11 = .ok (.invokevirtual 213, 3) := by decide +kernel
theorem dX10_words_14 : decode cX10_words 14 = .ok (.i2l, 1) := by decide +kernel
theorem dX10_words_15 : decode cX10_words 15 = .ok (.lreturn, 1) := by decide +kernel
theorem dX10_word_0 : decode cX10_word 0 = .ok (.aload_n 0, 1) := by decide +kernel
theorem dX10_word_1 : decode cX10_word 1 = .ok (.iload_n 1, 1) := by decide +kernel
theorem dX10_word_2 : decode cX10_word 2 = .ok (.invokevirtual 126, 3) := by decide +kernel
theorem dX10_word_5 : decode cX10_word 5 = .ok (.astore_n 3, 1) := by decide +kernel
theorem dX10_word_6 : decode cX10_word 6 = .ok (.iload_n 2, 1) := by decide +kernel
theorem dX10_word_7 : decode cX10_word 7 = .ok (.ifCond .lt 15, 3) := by decide +kernel
theorem dX10_word_10 : decode cX10_word 10 = .ok (.iload_n 2, 1) := by decide +kernel
theorem dX10_word_11 : decode cX10_word 11 = .ok (.aload_n 3, 1) := by decide +kernel
theorem dX10_word_12 : decode cX10_word 12 = .ok (.aload_n 3, 1) := by decide +kernel
theorem dX10_word_13 : decode cX10_word 13 = .ok (.getfield 131, 3) := by decide +kernel
theorem dX10_word_16 : decode cX10_word 16 = .ok (.invokevirtual 213, 3) := by decide +kernel
theorem dX10_word_19 : decode cX10_word 19 = .ok (.if_icmp .lt 13, 3) := by decide +kernel
theorem dX10_word_22 : decode cX10_word 22 = .ok (.new 97, 3) := by decide +kernel
theorem dX10_word_25 : decode cX10_word 25 = .ok (.dup, 1) := by decide +kernel
theorem dX10_word_26 : decode cX10_word 26 = .ok (.ldc 217, 2) := by decide +kernel
theorem dX10_word_28 : decode cX10_word 28 = .ok (.invokespecial 101, 3) := by decide +kernel
theorem dX10_word_31 : decode cX10_word 31 = .ok (.athrow, 1) := by decide +kernel
theorem dX10_word_32 : decode cX10_word 32 = .ok (.aload_n 3, 1) := by decide +kernel
theorem dX10_word_33 : decode cX10_word 33 = .ok (.iload_n 2, 1) := by decide +kernel
theorem dX10_word_34 : decode cX10_word 34 = .ok (.invokevirtual 219, 3) := by decide +kernel
theorem dX10_word_37 : decode cX10_word 37 = .ok (.istore 4, 2) := by decide +kernel
theorem dX10_word_39 : decode cX10_word 39 = .ok (.aload_n 3, 1) := by decide +kernel
theorem dX10_word_40 : decode cX10_word 40 = .ok (.getfield 185, 3) := by decide +kernel
theorem dX10_word_43 : decode cX10_word 43 = .ok (.iload 4, 2) := by decide +kernel
theorem dX10_word_45 : decode cX10_word 45 = .ok (.iaload, 1) := by decide +kernel
theorem dX10_word_46 : decode cX10_word 46 = .ok (.iconst 1, 1) := by decide +kernel
theorem dX10_word_47 : decode cX10_word 47 = .ok (.iadd, 1) := by decide +kernel
theorem dX10_word_48 : decode cX10_word 48 = .ok (.iload_n 2, 1) := by decide +kernel
theorem dX10_word_49 : decode cX10_word 49 = .ok (.iadd, 1) := by decide +kernel
theorem dX10_word_50 : decode cX10_word 50 = .ok (.aload_n 3, 1) := by decide +kernel
theorem dX10_word_51 : decode cX10_word 51 = .ok (.iload 4, 2) := by decide +kernel
theorem dX10_word_53 : decode cX10_word 53 = .ok (.invokevirtual 213, 3) := by decide +kernel
theorem dX10_word_56 : decode cX10_word 56 = .ok (.isub, 1) := by decide +kernel
theorem dX10_word_57 : decode cX10_word 57 = .ok (.istore 5, 2) := by decide +kernel
theorem dX10_word_59 : decode cX10_word 59 = .ok (.aload_n 0, 1) := by decide +kernel
theorem dX10_word_60 : decode cX10_word 60 = .ok (.getfield 18, 3) := by decide +kernel
theorem dX10_word_63 : decode cX10_word 63 = .ok (.aload_n 3, 1) := by decide +kernel
theorem dX10_word_64 : decode cX10_word 64 = .ok (.getfield 130, 3) := by decide +kernel
theorem dX10_word_67 : decode cX10_word 67 = .ok (.aload_n 3, 1) := by decide +kernel
theorem dX10_word_68 : decode cX10_word 68 = .ok (.getfield 167, 3) := by decide +kernel
theorem dX10_word_71 : decode cX10_word 71 = .ok (.iload 4, 2) := by decide +kernel
theorem dX10_word_73 : decode cX10_word 73 = .ok (.iaload, 1) := by decide +kernel
theorem dX10_word_74 : decode cX10_word 74 = .ok (.iload 5, 2) := by decide +kernel
theorem dX10_word_76 : decode cX10_word 76 = .ok (.invokevirtual 132, 3) := by decide +kernel
theorem dX10_word_79 : decode cX10_word 79 = .ok (.aload_n 0, 1) := by decide +kernel
theorem dX10_word_80 : decode cX10_word 80 = .ok (.getfield 18, 3) := by decide +kernel
theorem dX10_word_83 : decode cX10_word 83 = .ok (.getfield 80, 3) := by decide +kernel
theorem dX10_word_86 : decode cX10_word 86 = .ok (.ireturn, 1) := by decide +kernel
theorem dX10_numberOf_0 : decode cX10_numberOf 0 = .ok (.aload_n 0, 1) := by decide +kernel
theorem dX10_numberOf_1 : decode cX10_numberOf 1 = .ok (.iload_n 1, 1) := by decide +kernel
theorem dX10_numberOf_2 : decode cX10_numberOf 2 = .ok (.invokevirtual 126, 3) := by decide +kernel
theorem dX10_numberOf_5 : decode cX10_numberOf 5 = .ok (.astore_n 2, 1) := by decide +kernel
theorem dX10_numberOf_6 : decode cX10_numberOf 6 = .ok (.aload_n 0, 1) := by decide +kernel
theorem dX10_numberOf_7 : decode cX10_numberOf 7 = .ok (.invokevirtual 192, 3) := by decide +kernel
theorem dX10_numberOf_10 : decode cX10_numberOf 10 = .ok (.aload_n 0, 1) := by decide +kernel
theorem dX10_numberOf_11 : decode cX10_numberOf 11 = .ok (.aload_n 2, 1) := by decide +kernel
theorem dX10_numberOf_12 : decode cX10_numberOf 12 = .ok (.invokevirtual 202, 3) := by decide +kernel
theorem dX10_numberOf_15 : decode cX10_numberOf 15 = .ok (.istore_n 3, 1) := by decide +kernel
theorem dX10_numberOf_16 : decode cX10_numberOf 16 = .ok (.aload_n 2, 1) := by decide +kernel
theorem dX10_numberOf_17 : decode cX10_numberOf 17 = .ok (.iload_n 3, 1) := by decide +kernel
theorem dX10_numberOf_18 : decode cX10_numberOf 18 = .ok (.invokevirtual 213, 3) := by decide +kernel
theorem dX10_numberOf_21 : decode cX10_numberOf 21 = .ok (.aload_n 0, 1) := by decide +kernel
theorem dX10_numberOf_22 : decode cX10_numberOf 22 = .ok (.getfield 18, 3) := by decide +kernel
theorem dX10_numberOf_25 : decode cX10_numberOf 25 = .ok (.getfield 80, 3) := by decide +kernel
theorem dX10_numberOf_28 : decode cX10_numberOf 28 = .ok (.iadd, 1) := by decide +kernel
theorem dX10_numberOf_29 : decode cX10_numberOf 29 = .ok (.aload_n 2, 1) := by decide +kernel
theorem dX10_numberOf_30 : decode cX10_numberOf 30 = .ok (.getfield 185, 3) := by decide +kernel
theorem dX10_numberOf_33 : decode cX10_numberOf 33 = .ok (.iload_n 3, 1) := by decide +kernel
theorem dX10_numberOf_34 : decode cX10_numberOf 34 = .ok (.iaload, 1) := by decide +kernel
theorem dX10_numberOf_35 : decode cX10_numberOf 35 = .ok (.isub, 1) := by decide +kernel
theorem dX10_numberOf_36 : decode cX10_numberOf 36 = .ok (.iconst 1, 1) := by decide +kernel
theorem dX10_numberOf_37 : decode cX10_numberOf 37 = .ok (.isub, 1) := by decide +kernel
theorem dX10_numberOf_38 : decode cX10_numberOf 38 = .ok (.ireturn, 1) := by decide +kernel
theorem dX10_twice_0 : decode cX10_twice 0 = .ok (.aload_n 0, 1) := by decide +kernel
theorem dX10_twice_1 : decode cX10_twice 1 = .ok (.iload_n 1, 1) := by decide +kernel
theorem dX10_twice_2 : decode cX10_twice 2 = .ok (.invokevirtual 126, 3) := by decide +kernel
theorem dX10_twice_5 : decode cX10_twice 5 = .ok (.invokevirtual 182, 3) := by decide +kernel
theorem dX10_twice_8 : decode cX10_twice 8 = .ok (.ireturn, 1) := by decide +kernel
theorem dX10_twiceAt_0 : decode cX10_twiceAt 0 = .ok (.aload_n 0, 1) := by decide +kernel
theorem dX10_twiceAt_1 : decode cX10_twiceAt 1 = .ok (.iload_n 1, 1) := by decide +kernel
theorem dX10_twiceAt_2 : decode cX10_twiceAt 2 = .ok (.invokevirtual 126, 3) := by decide +kernel
theorem dX10_twiceAt_5 : decode cX10_twiceAt 5 = .ok (.astore_n 2, 1) := by decide +kernel
theorem dX10_twiceAt_6 : decode cX10_twiceAt 6 = .ok (.aload_n 2, 1) := by decide +kernel
theorem dX10_twiceAt_7 : decode cX10_twiceAt 7 = .ok (.invokevirtual 182, 3) := by decide +kernel
theorem dX10_twiceAt_10 : decode cX10_twiceAt 10 = .ok (.ifCond .ne 13, 3) := by decide +kernel
theorem dX10_twiceAt_13 : decode cX10_twiceAt 13 = .ok (.new 97, 3) := by decide +kernel
theorem dX10_twiceAt_16 : decode cX10_twiceAt 16 = .ok (.dup, 1) := by decide +kernel
theorem dX10_twiceAt_17 : decode cX10_twiceAt 17 = .ok (.ldc 222, 2) := by decide +kernel
theorem dX10_twiceAt_19 : decode cX10_twiceAt 19 = .ok (.invokespecial 101, 3) := by decide +kernel
theorem dX10_twiceAt_22 : decode cX10_twiceAt 22 = .ok (.athrow, 1) := by decide +kernel
theorem dX10_twiceAt_23 : decode cX10_twiceAt 23 = .ok (.aload_n 2, 1) := by decide +kernel
theorem dX10_twiceAt_24 : decode cX10_twiceAt 24 = .ok (.invokevirtual 224, 3) := by decide +kernel
theorem dX10_twiceAt_27 : decode cX10_twiceAt 27 = .ok (.ireturn, 1) := by decide +kernel
theorem dX10_first_0 : decode cX10_first 0 = .ok (.aload_n 0, 1) := by decide +kernel
theorem dX10_first_1 : decode cX10_first 1 = .ok (.iload_n 1, 1) := by decide +kernel
theorem dX10_first_2 : decode cX10_first 2 = .ok (.iload_n 2, 1) := by decide +kernel
theorem dX10_first_3 : decode cX10_first 3 = .ok (.invokevirtual 250, 3) := by decide +kernel
theorem dX10_first_6 : decode cX10_first 6 = .ok (.iload_n 2, 1) := by decide +kernel
theorem dX10_first_7 : decode cX10_first 7 = .ok (.invokevirtual 253, 3) := by decide +kernel
theorem dX10_first_10 : decode cX10_first 10 = .ok (.ireturn, 1) := by decide +kernel
theorem dX10_last_0 : decode cX10_last 0 = .ok (.aload_n 0, 1) := by decide +kernel
theorem dX10_last_1 : decode cX10_last 1 = .ok (.iload_n 1, 1) := by decide +kernel
theorem dX10_last_2 : decode cX10_last 2 = .ok (.iload_n 2, 1) := by decide +kernel
theorem dX10_last_3 : decode cX10_last 3 = .ok (.invokevirtual 250, 3) := by decide +kernel
theorem dX10_last_6 : decode cX10_last 6 = .ok (.iload_n 2, 1) := by decide +kernel
theorem dX10_last_7 : decode cX10_last 7 = .ok (.invokevirtual 257, 3) := by decide +kernel
theorem dX10_last_10 : decode cX10_last 10 = .ok (.ireturn, 1) := by decide +kernel
theorem dX10_back_0 : decode cX10_back 0 = .ok (.aload_n 0, 1) := by decide +kernel
theorem dX10_back_1 : decode cX10_back 1 = .ok (.iload_n 1, 1) := by decide +kernel
theorem dX10_back_2 : decode cX10_back 2 = .ok (.iload_n 2, 1) := by decide +kernel
theorem dX10_back_3 : decode cX10_back 3 = .ok (.invokevirtual 250, 3) := by decide +kernel
theorem dX10_back_6 : decode cX10_back 6 = .ok (.iload_n 2, 1) := by decide +kernel
theorem dX10_back_7 : decode cX10_back 7 = .ok (.invokevirtual 260, 3) := by decide +kernel
theorem dX10_back_10 : decode cX10_back 10 = .ok (.ireturn, 1) := by decide +kernel
theorem dX10_column_0 : decode cX10_column 0 = .ok (.aload_n 0, 1) := by decide +kernel
theorem dX10_column_1 : decode cX10_column 1 = .ok (.iload_n 1, 1) := by decide +kernel
theorem dX10_column_2 : decode cX10_column 2 = .ok (.invokevirtual 126, 3) := by decide +kernel
theorem dX10_column_5 : decode cX10_column 5 = .ok (.astore_n 2, 1) := by decide +kernel
theorem dX10_column_6 : decode cX10_column 6 = .ok (.aload_n 0, 1) := by decide +kernel
theorem dX10_column_7 : decode cX10_column 7 = .ok (.getfield 18, 3) := by decide +kernel
theorem dX10_column_10 : decode cX10_column 10 = .ok (.iconst 0, 1) := by decide +kernel
theorem dX10_column_11 : decode cX10_column 11 = .ok (.putfield 80, 3) := by decide +kernel
theorem dX10_column_14 : decode cX10_column 14 = .ok (.iconst 0, 1) := by decide +kernel
theorem dX10_column_15 : decode cX10_column 15 = .ok (.istore_n 3, 1) := by decide +kernel
theorem dX10_column_16 : decode cX10_column 16 = .ok (.iload_n 3, 1) := by decide +kernel
theorem dX10_column_17 : decode cX10_column 17 = .ok (.aload_n 2, 1) := by decide +kernel
theorem dX10_column_18 : decode cX10_column 18 = .ok (.getfield 131, 3) := by decide +kernel
theorem dX10_column_21 : decode cX10_column 21 = .ok (.if_icmp .gt 21, 3) := by decide +kernel
theorem dX10_column_24 : decode cX10_column 24 = .ok (.aload_n 0, 1) := by decide +kernel
theorem dX10_column_25 : decode cX10_column 25 = .ok (.getfield 18, 3) := by decide +kernel
theorem dX10_column_28 : decode cX10_column 28 = .ok (.aload_n 2, 1) := by decide +kernel
theorem dX10_column_29 : decode cX10_column 29 = .ok (.iload_n 3, 1) := by decide +kernel
theorem dX10_column_30 : decode cX10_column 30 = .ok (.invokevirtual 257, 3) := by decide +kernel
theorem dX10_column_33 : decode cX10_column 33 = .ok (.invokevirtual 89, 3) := by decide +kernel
theorem dX10_column_36 : decode cX10_column 36 = .ok (.iinc 3 1, 3) := by decide +kernel
theorem dX10_column_39 : decode cX10_column 39 = .ok (.goto (-23), 3) := by decide +kernel
theorem dX10_column_42 : decode cX10_column 42 = .ok (.aload_n 0, 1) := by decide +kernel
theorem dX10_column_43 : decode cX10_column 43 = .ok (.getfield 18, 3) := by decide +kernel
theorem dX10_column_46 : decode cX10_column 46 = .ok (.getfield 80, 3) := by decide +kernel
theorem dX10_column_49 : decode cX10_column 49 = .ok (.ireturn, 1) := by decide +kernel
theorem dX10_undo_0 : decode cX10_undo 0 = .ok (.aload_n 0, 1) := by decide +kernel
theorem dX10_undo_1 : decode cX10_undo 1 = .ok (.getfield 36, 3) := by decide +kernel
theorem dX10_undo_4 : decode cX10_undo 4 = .ok (.aload_n 0, 1) := by decide +kernel
theorem dX10_undo_5 : decode cX10_undo 5 = .ok (.getfield 18, 3) := by decide +kernel
theorem dX10_undo_8 : decode cX10_undo 8 = .ok (.getfield 102, 3) := by decide +kernel
theorem dX10_undo_11 : decode cX10_undo 11 = .ok (.aload_n 0, 1) := by decide +kernel
theorem dX10_undo_12 : decode cX10_undo 12 = .ok (.getfield 18, 3) := by decide +kernel
theorem dX10_undo_15 : decode cX10_undo 15 = .ok (.getfield 80, 3) := by decide +kernel
theorem dX10_undo_18 : decode cX10_undo 18 = .ok (.invokevirtual 267, 3) := by decide +kernel
theorem dX10_undo_21 : decode cX10_undo 21 = .ok (.ifCond .ne 14, 3) := by decide +kernel
theorem dX10_undo_24 : decode cX10_undo 24 = .ok (.new 109, 3) := by decide +kernel
theorem dX10_undo_27 : decode cX10_undo 27 = .ok (.dup, 1) := by decide +kernel
theorem dX10_undo_28 : decode cX10_undo 28 = .ok (.ldc_w 271, 3) := by decide +kernel
theorem dX10_undo_31 : decode cX10_undo 31 = .ok (.invokespecial 113, 3) := by decide +kernel
theorem dX10_undo_34 : decode cX10_undo 34 = .ok (.athrow, 1) := by decide +kernel
theorem dX10_undo_35 : decode cX10_undo 35 = .ok (.aload_n 0, 1) := by decide +kernel
theorem dX10_undo_36 : decode cX10_undo 36 = .ok (.invokevirtual 114, 3) := by decide +kernel
theorem dX10_undo_39 : decode cX10_undo 39 = .ok (.astore_n 1, 1) := by decide +kernel
theorem dX10_undo_40 : decode cX10_undo 40 = .ok (.aload_n 1, 1) := by decide +kernel
theorem dX10_undo_41 : decode cX10_undo 41 = .ok (.aload_n 0, 1) := by decide +kernel
theorem dX10_undo_42 : decode cX10_undo 42 = .ok (.getfield 36, 3) := by decide +kernel
theorem dX10_undo_45 : decode cX10_undo 45 = .ok (.getfield 273, 3) := by decide +kernel
theorem dX10_undo_48 : decode cX10_undo 48 = .ok (.aload_n 0, 1) := by decide +kernel
theorem dX10_undo_49 : decode cX10_undo 49 = .ok (.getfield 18, 3) := by decide +kernel
theorem dX10_undo_52 : decode cX10_undo 52 = .ok (.getfield 80, 3) := by decide +kernel
theorem dX10_undo_55 : decode cX10_undo 55 = .ok (.iconst 1, 1) := by decide +kernel
theorem dX10_undo_56 : decode cX10_undo 56 = .ok (.isub, 1) := by decide +kernel
theorem dX10_undo_57 : decode cX10_undo 57 = .ok (.invokevirtual 118, 3) := by decide +kernel
theorem dX10_undo_60 : decode cX10_undo 60 = .ok (.aload_n 0, 1) := by decide +kernel
theorem dX10_undo_61 : decode cX10_undo 61 = .ok (.aload_n 1, 1) := by decide +kernel
theorem dX10_undo_62 : decode cX10_undo 62 = .ok (.invokevirtual 122, 3) := by decide +kernel
theorem dX10_undo_65 : decode cX10_undo 65 = .ok (.ireturn, 1) := by decide +kernel
theorem dX10_squares_0 : decode cX10_squares 0 = .ok (.aload_n 0, 1) := by decide +kernel
theorem dX10_squares_1 : decode cX10_squares 1 = .ok (.iload_n 1, 1) := by decide +kernel
theorem dX10_squares_2 : decode cX10_squares 2 = .ok (.invokevirtual 126, 3) := by decide +kernel
theorem dX10_squares_5 : decode cX10_squares 5 = .ok (.invokestatic 276, 3) := by decide +kernel
theorem dX10_squares_8 : decode cX10_squares 8 = .ok (.ireturn, 1) := by decide +kernel
theorem dX10_period_0 : decode cX10_period 0 = .ok (.aload_n 0, 1) := by decide +kernel
theorem dX10_period_1 : decode cX10_period 1 = .ok (.iload_n 1, 1) := by decide +kernel
theorem dX10_period_2 : decode cX10_period 2 = .ok (.invokevirtual 161, 3) := by decide +kernel
theorem dX10_period_5 : decode cX10_period 5 = .ok (.invokestatic 286, 3) := by decide +kernel
theorem dX10_period_8 : decode cX10_period 8 = .ok (.ireturn, 1) := by decide +kernel
theorem dX10_parts_0 : decode cX10_parts 0 = .ok (.aload_n 0, 1) := by decide +kernel
theorem dX10_parts_1 : decode cX10_parts 1 = .ok (.getfield 57, 3) := by decide +kernel
theorem dX10_parts_4 : decode cX10_parts 4 = .ok (.aload_n 0, 1) := by decide +kernel
theorem dX10_parts_5 : decode cX10_parts 5 = .ok (.iload_n 1, 1) := by decide +kernel
theorem dX10_parts_6 : decode cX10_parts 6 = .ok (.invokevirtual 126, 3) := by decide +kernel
theorem dX10_parts_9 : decode cX10_parts 9 = .ok (.invokevirtual 292, 3) := by decide +kernel
theorem dX10_parts_12 : decode cX10_parts 12 = .ok (.ireturn, 1) := by decide +kernel
theorem dX10_partAt_0 : decode cX10_partAt 0 = .ok (.aload_n 0, 1) := by decide +kernel
theorem dX10_partAt_1 : decode cX10_partAt 1 = .ok (.iload_n 1, 1) := by decide +kernel
theorem dX10_partAt_2 : decode cX10_partAt 2 = .ok (.invokevirtual 126, 3) := by decide +kernel
theorem dX10_partAt_5 : decode cX10_partAt 5 = .ok (.astore_n 3, 1) := by decide +kernel
theorem dX10_partAt_6 : decode cX10_partAt 6 = .ok (.iload_n 2, 1) := by decide +kernel
theorem dX10_partAt_7 : decode cX10_partAt 7 = .ok (.ifCond .lt 15, 3) := by decide +kernel
theorem dX10_partAt_10 : decode cX10_partAt 10 = .ok (.iload_n 2, 1) := by decide +kernel
theorem dX10_partAt_11 : decode cX10_partAt 11 = .ok (.aload_n 0, 1) := by decide +kernel
theorem dX10_partAt_12 : decode cX10_partAt 12 = .ok (.getfield 57, 3) := by decide +kernel
theorem dX10_partAt_15 : decode cX10_partAt 15 = .ok (.aload_n 3, 1) := by decide +kernel
theorem dX10_partAt_16 : decode cX10_partAt 16 = .ok (.invokevirtual 292, 3) := by decide +kernel
theorem dX10_partAt_19 : decode cX10_partAt 19 = .ok (.if_icmp .lt 14, 3) := by decide +kernel
theorem dX10_partAt_22 : decode cX10_partAt 22 = .ok (.new 295, 3) := by decide +kernel
theorem dX10_partAt_25 : decode cX10_partAt 25 = .ok (.dup, 1) := by decide +kernel
theorem dX10_partAt_26 : decode cX10_partAt 26 = .ok (.ldc_w 297, 3) := by decide +kernel
theorem dX10_partAt_29 : decode cX10_partAt 29 = .ok (.invokespecial 299, 3) := by decide +kernel
theorem dX10_partAt_32 : decode cX10_partAt 32 = .ok (.athrow, 1) := by decide +kernel
theorem dX10_partAt_33 : decode cX10_partAt 33 = .ok (.aload_n 0, 1) := by decide +kernel
theorem dX10_partAt_34 : decode cX10_partAt 34 = .ok (.getfield 57, 3) := by decide +kernel
theorem dX10_partAt_37 : decode cX10_partAt 37 = .ok (.aload_n 3, 1) := by decide +kernel
theorem dX10_partAt_38 : decode cX10_partAt 38 = .ok (.iload_n 2, 1) := by decide +kernel
theorem dX10_partAt_39 : decode cX10_partAt 39 = .ok (.invokevirtual 300, 3) := by decide +kernel
theorem dX10_partAt_42 : decode cX10_partAt 42 = .ok (.ireturn, 1) := by decide +kernel
theorem dX10_pieces_0 : decode cX10_pieces 0 = .ok (.aload_n 0, 1) := by decide +kernel
theorem dX10_pieces_1 : decode cX10_pieces 1 = .ok (.getfield 64, 3) := by decide +kernel
theorem dX10_pieces_4 : decode cX10_pieces 4 = .ok (.aload_n 0, 1) := by decide +kernel
theorem dX10_pieces_5 : decode cX10_pieces 5 = .ok (.iload_n 1, 1) := by decide +kernel
theorem dX10_pieces_6 : decode cX10_pieces 6 = .ok (.invokevirtual 126, 3) := by decide +kernel
theorem dX10_pieces_9 : decode cX10_pieces 9 = .ok (.invokevirtual 303, 3) := by decide +kernel
theorem dX10_pieces_12 : decode cX10_pieces 12 = .ok (.ireturn, 1) := by decide +kernel
theorem dX10_fewest_0 : decode cX10_fewest 0 = .ok (.aload_n 0, 1) := by decide +kernel
theorem dX10_fewest_1 : decode cX10_fewest 1 = .ok (.getfield 64, 3) := by decide +kernel
theorem dX10_fewest_4 : decode cX10_fewest 4 = .ok (.aload_n 0, 1) := by decide +kernel
theorem dX10_fewest_5 : decode cX10_fewest 5 = .ok (.iload_n 1, 1) := by decide +kernel
theorem dX10_fewest_6 : decode cX10_fewest 6 = .ok (.invokevirtual 126, 3) := by decide +kernel
theorem dX10_fewest_9 : decode cX10_fewest 9 = .ok (.invokevirtual 316, 3) := by decide +kernel
theorem dX10_fewest_12 : decode cX10_fewest 12 = .ok (.ireturn, 1) := by decide +kernel
theorem dX10_checksum_0 : decode cX10_checksum 0 = .ok (.ldc2_w 324, 3) := by decide +kernel
theorem dX10_checksum_3 : decode cX10_checksum 3 = .ok (.lstore_n 1, 1) := by decide +kernel
theorem dX10_checksum_4 : decode cX10_checksum 4 = .ok (.iconst 0, 1) := by decide +kernel
theorem dX10_checksum_5 : decode cX10_checksum 5 = .ok (.istore_n 3, 1) := by decide +kernel
theorem dX10_checksum_6 : decode cX10_checksum 6 = .ok (.iload_n 3, 1) := by decide +kernel
theorem dX10_checksum_7 : decode cX10_checksum 7 = .ok (.aload_n 0, 1) := by decide +kernel
theorem dX10_checksum_8 : decode cX10_checksum 8 = .ok (.getfield 235, 3) := by decide +kernel
theorem dX10_checksum_11 : decode cX10_checksum 11 = .ok (.if_icmp .ge 81, 3) := by decide +kernel
theorem dX10_checksum_14 : decode cX10_checksum 14 = .ok (.aload_n 0, 1) := by decide +kernel
theorem dX10_checksum_15 : decode cX10_checksum 15 = .ok (.getfield 11, 3) := by decide +kernel
theorem dX10_checksum_18 : decode cX10_checksum 18 = .ok (.iload_n 3, 1) := by decide +kernel
theorem dX10_checksum_19 : decode cX10_checksum 19 = .ok (.aaload, 1) := by decide +kernel
theorem dX10_checksum_20 : decode cX10_checksum 20 = .ok (.astore 4, 2) := by decide +kernel
theorem dX10_checksum_22 : decode cX10_checksum 22 = .ok (.ldc2_w 326, 3) := by decide +kernel
theorem dX10_checksum_25 : decode cX10_checksum 25 = .ok (.lload_n 1, 1) := by decide +kernel
theorem dX10_checksum_26 : decode cX10_checksum 26 = .ok (.lmul, 1) := by decide +kernel
theorem dX10_checksum_27 : decode cX10_checksum 27 = .ok (.aload 4, 2) := by decide +kernel
theorem dX10_checksum_29 : decode cX10_checksum 29 = .ok (.getfield 131, 3) := by decide +kernel
theorem dX10_checksum_32 : decode cX10_checksum 32 = .ok (.i2l, 1) := by decide +kernel
theorem dX10_checksum_33 : decode cX10_checksum 33 = .ok (.ladd, 1) := by decide +kernel
theorem dX10_checksum_34 : decode cX10_checksum 34 = .ok (.lstore_n 1, 1) := by decide +kernel
theorem dX10_checksum_35 : decode cX10_checksum 35 = .ok (.iconst 0, 1) := by decide +kernel
theorem dX10_checksum_36 : decode cX10_checksum 36 = .ok (.istore 5, 2) := by decide +kernel
theorem dX10_checksum_38 : decode cX10_checksum 38 = .ok (.iload 5, 2) := by decide +kernel
theorem dX10_checksum_40 : decode cX10_checksum 40 = .ok (.aload 4, 2) := by decide +kernel
theorem dX10_checksum_42 : decode cX10_checksum 42 = .ok (.getfield 131, 3) := by decide +kernel
theorem dX10_checksum_45 : decode cX10_checksum 45 = .ok (.if_icmp .ge 41, 3) := by decide +kernel
theorem dX10_checksum_48 : decode cX10_checksum 48 = .ok (.ldc2_w 326, 3) := by decide +kernel
theorem dX10_checksum_51 : decode cX10_checksum 51 = .ok (.lload_n 1, 1) := by decide +kernel
theorem dX10_checksum_52 : decode cX10_checksum 52 = .ok (.lmul, 1) := by decide +kernel
theorem dX10_checksum_53 : decode cX10_checksum 53 = .ok (.aload 4, 2) := by decide +kernel
theorem dX10_checksum_55 : decode cX10_checksum 55 = .ok (.getfield 167, 3) := by decide +kernel
theorem dX10_checksum_58 : decode cX10_checksum 58 = .ok (.iload 5, 2) := by decide +kernel
theorem dX10_checksum_60 : decode cX10_checksum 60 = .ok (.iaload, 1) := by decide +kernel
theorem dX10_checksum_61 : decode cX10_checksum 61 = .ok (.i2l, 1) := by decide +kernel
theorem dX10_checksum_62 : decode cX10_checksum 62 = .ok (.ladd, 1) := by decide +kernel
theorem dX10_checksum_63 : decode cX10_checksum 63 = .ok (.lstore_n 1, 1) := by decide +kernel
theorem dX10_checksum_64 : decode cX10_checksum 64 = .ok (.ldc2_w 326, 3) := by decide +kernel
theorem dX10_checksum_67 : decode cX10_checksum 67 = .ok (.lload_n 1, 1) := by decide +kernel
theorem dX10_checksum_68 : decode cX10_checksum 68 = .ok (.lmul, 1) := by decide +kernel
theorem dX10_checksum_69 : decode cX10_checksum 69 = .ok (.aload 4, 2) := by decide +kernel
theorem dX10_checksum_71 : decode cX10_checksum 71 = .ok (.getfield 185, 3) := by decide +kernel
theorem dX10_checksum_74 : decode cX10_checksum 74 = .ok (.iload 5, 2) := by decide +kernel
theorem dX10_checksum_76 : decode cX10_checksum 76 = .ok (.iaload, 1) := by decide +kernel
theorem dX10_checksum_77 : decode cX10_checksum 77 = .ok (.i2l, 1) := by decide +kernel
theorem dX10_checksum_78 : decode cX10_checksum 78 = .ok (.ladd, 1) := by decide +kernel
theorem dX10_checksum_79 : decode cX10_checksum 79 = .ok (.lstore_n 1, 1) := by decide +kernel
theorem dX10_checksum_80 : decode cX10_checksum 80 = .ok (.iinc 5 1, 3) := by decide +kernel
theorem dX10_checksum_83 : decode cX10_checksum 83 = .ok (.goto (-45), 3) := by decide +kernel
theorem dX10_checksum_86 : decode cX10_checksum 86 = .ok (.iinc 3 1, 3) := by decide +kernel
theorem dX10_checksum_89 : decode cX10_checksum 89 = .ok (.goto (-83), 3) := by decide +kernel
theorem dX10_checksum_92 : decode cX10_checksum 92 = .ok (.lload_n 1, 1) := by decide +kernel
theorem dX10_checksum_93 : decode cX10_checksum 93 = .ok (.lreturn, 1) := by decide +kernel
theorem dX10_isSound_0 : decode cX10_isSound 0 = .ok (.iconst 0, 1) := by decide +kernel
theorem dX10_isSound_1 : decode cX10_isSound 1 = .ok (.istore_n 1, 1) := by decide +kernel
theorem dX10_isSound_2 : decode cX10_isSound 2 = .ok (.iload_n 1, 1) := by decide +kernel
theorem dX10_isSound_3 : decode cX10_isSound 3 = .ok (.aload_n 0, 1) := by decide +kernel
theorem dX10_isSound_4 : decode cX10_isSound 4 = .ok (.getfield 235, 3) := by decide +kernel
theorem dX10_isSound_7 : decode cX10_isSound 7 = .ok (.if_icmp .ge 80, 3) := by decide +kernel
theorem dX10_isSound_10 : decode cX10_isSound 10 = .ok (.aload_n 0, 1) := by decide +kernel
theorem dX10_isSound_11 : decode cX10_isSound 11 = .ok (.getfield 11, 3) := by decide +kernel
theorem dX10_isSound_14 : decode cX10_isSound 14 = .ok (.iload_n 1, 1) := by decide +kernel
theorem dX10_isSound_15 : decode cX10_isSound 15 = .ok (.aaload, 1) := by decide +kernel
theorem dX10_isSound_16 : decode cX10_isSound 16 = .ok (.astore_n 2, 1) := by decide +kernel
theorem dX10_isSound_17 : decode cX10_isSound 17 = .ok (.aload_n 0, 1) := by decide +kernel
theorem dX10_isSound_18 : decode cX10_isSound 18 = .ok (.getfield 36, 3) := by decide +kernel
theorem dX10_isSound_21 : decode cX10_isSound 21 = .ok (.aload_n 2, 1) := by decide +kernel
theorem dX10_isSound_22 : decode cX10_isSound 22 = .ok (.invokevirtual 328, 3) := by decide +kernel
theorem dX10_isSound_25 : decode cX10_isSound 25 = .ok (.ifCond .eq 48, 3) := by decide +kernel
theorem dX10_isSound_28 : decode cX10_isSound 28 = .ok (.aload_n 0, 1) := by decide +kernel
theorem dX10_isSound_29 : decode cX10_isSound 29 = .ok (.getfield 50, 3) := by decide +kernel
theorem dX10_isSound_32 : decode cX10_isSound 32 = .ok (.aload_n 2, 1) := by decide +kernel
theorem dX10_isSound_33 : decode cX10_isSound 33 = .ok (.invokevirtual 332, 3) := by decide +kernel
theorem dX10_isSound_36 : decode cX10_isSound 36 = .ok (.ifCond .eq 37, 3) := by decide +kernel
theorem dX10_isSound_39 : decode cX10_isSound 39 = .ok (.aload_n 0, 1) := by decide +kernel
theorem dX10_isSound_40 : decode cX10_isSound 40 = .ok (.getfield 57, 3) := by decide +kernel
theorem dX10_isSound_43 : decode cX10_isSound 43 = .ok (.aload_n 2, 1) := by decide +kernel
theorem dX10_isSound_44 : decode cX10_isSound 44 = .ok (.invokevirtual 335, 3) := by decide +kernel
theorem dX10_isSound_47 : decode cX10_isSound 47 = .ok (.ifCond .eq 26, 3) := by decide +kernel
theorem dX10_isSound_50 : decode cX10_isSound 50 = .ok (.aload_n 0, 1) := by decide +kernel
theorem dX10_isSound_51 : decode cX10_isSound 51 = .ok (.getfield 64, 3) := by decide +kernel
theorem dX10_isSound_54 : decode cX10_isSound 54 = .ok (.aload_n 2, 1) := by decide +kernel
theorem dX10_isSound_55 : decode cX10_isSound 55 = .ok (.invokevirtual 303, 3) := by decide +kernel
theorem dX10_isSound_58 : decode cX10_isSound 58 = .ok (.aload_n 0, 1) := by decide +kernel
theorem dX10_isSound_59 : decode cX10_isSound 59 = .ok (.getfield 64, 3) := by decide +kernel
theorem dX10_isSound_62 : decode cX10_isSound 62 = .ok (.aload_n 2, 1) := by decide +kernel
theorem dX10_isSound_63 : decode cX10_isSound 63 = .ok (.invokevirtual 316, 3) := by decide +kernel
theorem dX10_isSound_66 : decode cX10_isSound 66 = .ok (.if_icmp .ne 7, 3) := by decide +kernel
theorem dX10_isSound_69 : decode cX10_isSound 69 = .ok (.iconst 1, 1) := by decide +kernel
theorem dX10_isSound_70 : decode cX10_isSound 70 = .ok (.goto 4, 3) := by decide +kernel
theorem dX10_isSound_73 : decode cX10_isSound 73 = .ok (.iconst 0, 1) := by decide +kernel
theorem dX10_isSound_74 : decode cX10_isSound 74 = .ok (.istore_n 3, 1) := by decide +kernel
theorem dX10_isSound_75 : decode cX10_isSound 75 = .ok (.iload_n 3, 1) := by decide +kernel
theorem dX10_isSound_76 : decode cX10_isSound 76 = .ok (.ifCond .ne 5, 3) := by decide +kernel
theorem dX10_isSound_79 : decode cX10_isSound 79 = .ok (.iconst 0, 1) := by decide +kernel
theorem dX10_isSound_80 : decode cX10_isSound 80 = .ok (.ireturn, 1) := by decide +kernel
theorem dX10_isSound_81 : decode cX10_isSound 81 = .ok (.iinc 1 1, 3) := by decide +kernel
theorem dX10_isSound_84 : decode cX10_isSound 84 = .ok (.goto (-82), 3) := by decide +kernel
theorem dX10_isSound_87 : decode cX10_isSound 87 = .ok (.iconst 1, 1) := by decide +kernel
theorem dX10_isSound_88 : decode cX10_isSound 88 = .ok (.ireturn, 1) := by decide +kernel
theorem dX10_isLetter_0 : decode cX10_isLetter 0 = .ok (.iload_n 0, 1) := by decide +kernel
theorem dX10_isLetter_1 : decode cX10_isLetter 1 = .ok (.bipush 97, 2) := by decide +kernel
theorem dX10_isLetter_3 : decode cX10_isLetter 3 = .ok (.if_icmp .lt 13, 3) := by decide +kernel
theorem dX10_isLetter_6 : decode cX10_isLetter 6 = .ok (.iload_n 0, 1) := by decide +kernel
theorem dX10_isLetter_7 : decode cX10_isLetter 7 = .ok (.bipush 122, 2) := by decide +kernel
theorem dX10_isLetter_9 : decode cX10_isLetter 9 = .ok (.if_icmp .gt 7, 3) := by decide +kernel
theorem dX10_isLetter_12 : decode cX10_isLetter 12 = .ok (.iconst 1, 1) := by decide +kernel
theorem dX10_isLetter_13 : decode cX10_isLetter 13 = .ok (.goto 4, 3) := by decide +kernel
theorem dX10_isLetter_16 : decode cX10_isLetter 16 = .ok (.iconst 0, 1) := by decide +kernel
theorem dX10_isLetter_17 : decode cX10_isLetter 17 = .ok (.ireturn, 1) := by decide +kernel
theorem dX10_isTypable_0 : decode cX10_isTypable 0 = .ok (.iload_n 0, 1) := by decide +kernel
theorem dX10_isTypable_1 : decode cX10_isTypable 1 = .ok (.bipush 36, 2) := by decide +kernel
theorem dX10_isTypable_3 : decode cX10_isTypable 3 = .ok (.if_icmp .eq 10, 3) := by decide +kernel
theorem dX10_isTypable_6 : decode cX10_isTypable 6 = .ok (.iload_n 0, 1) := by decide +kernel
theorem dX10_isTypable_7 : decode cX10_isTypable 7 = .ok (.invokestatic 146, 3) := by decide +kernel
theorem dX10_isTypable_10 : decode cX10_isTypable 10 = .ok (.ifCond .eq 7, 3) := by decide +kernel
theorem dX10_isTypable_13 : decode cX10_isTypable 13 = .ok (.iconst 1, 1) := by decide +kernel
theorem dX10_isTypable_14 : decode cX10_isTypable 14 = .ok (.goto 4, 3) := by decide +kernel
theorem dX10_isTypable_17 : decode cX10_isTypable 17 = .ok (.iconst 0, 1) := by decide +kernel
theorem dX10_isTypable_18 : decode cX10_isTypable 18 = .ok (.ireturn, 1) := by decide +kernel
theorem dX10_known_0 : decode cX10_known 0 = .ok (.iload_n 1, 1) := by decide +kernel
theorem dX10_known_1 : decode cX10_known 1 = .ok (.ifCond .lt 11, 3) := by decide +kernel
theorem dX10_known_4 : decode cX10_known 4 = .ok (.iload_n 1, 1) := by decide +kernel
theorem dX10_known_5 : decode cX10_known 5 = .ok (.aload_n 0, 1) := by decide +kernel
theorem dX10_known_6 : decode cX10_known 6 = .ok (.getfield 235, 3) := by decide +kernel
theorem dX10_known_9 : decode cX10_known 9 = .ok (.if_icmp .lt 14, 3) := by decide +kernel
theorem dX10_known_12 : decode cX10_known 12 = .ok (.new 295, 3) := by decide +kernel
theorem dX10_known_15 : decode cX10_known 15 = .ok (.dup, 1) := by decide +kernel
theorem dX10_known_16 : decode cX10_known 16 = .ok (.ldc_w 336, 3) := by decide +kernel
theorem dX10_known_19 : decode cX10_known 19 = .ok (.invokespecial 299, 3) := by decide +kernel
theorem dX10_known_22 : decode cX10_known 22 = .ok (.athrow, 1) := by decide +kernel
theorem dX10_known_23 : decode cX10_known 23 = .ok (.aload_n 0, 1) := by decide +kernel
theorem dX10_known_24 : decode cX10_known 24 = .ok (.getfield 11, 3) := by decide +kernel
theorem dX10_known_27 : decode cX10_known 27 = .ok (.iload_n 1, 1) := by decide +kernel
theorem dX10_known_28 : decode cX10_known 28 = .ok (.aaload, 1) := by decide +kernel
theorem dX10_known_29 : decode cX10_known 29 = .ok (.areturn, 1) := by decide +kernel
theorem dX10_knownWith_0 : decode cX10_knownWith 0 = .ok (.aload_n 0, 1) := by decide +kernel
theorem dX10_knownWith_1 : decode cX10_knownWith 1 = .ok (.iload_n 1, 1) := by decide +kernel
theorem dX10_knownWith_2 : decode cX10_knownWith 2 = .ok (.invokevirtual 126, 3) := by decide +kernel
theorem dX10_knownWith_5 : decode cX10_knownWith 5 = .ok (.astore_n 3, 1) := by decide +kernel
theorem dX10_knownWith_6 : decode cX10_knownWith 6 = .ok (.iload_n 2, 1) := by decide +kernel
theorem dX10_knownWith_7 : decode cX10_knownWith 7 = .ok (.ifCond .lt 11, 3) := by decide +kernel
theorem dX10_knownWith_10 : decode cX10_knownWith 10 = .ok (.iload_n 2, 1) := by decide +kernel
theorem dX10_knownWith_11 : decode cX10_knownWith 11 = .ok (.aload_n 3, 1) := by decide +kernel
theorem dX10_knownWith_12 : decode cX10_knownWith 12 = .ok (.getfield 131, 3) := by decide +kernel
theorem dX10_knownWith_15 : decode cX10_knownWith 15 = .ok (.if_icmp .lt 14, 3) := by decide +kernel
theorem dX10_knownWith_18 : decode cX10_knownWith 18 = .ok (.new 295, 3) := by decide +kernel
theorem dX10_knownWith_21 : decode cX10_knownWith 21 = .ok (.dup, 1) := by decide +kernel
theorem dX10_knownWith_22 : decode cX10_knownWith 22 = .ok (.ldc_w 338, 3) := by decide +kernel
theorem dX10_knownWith_25 : decode cX10_knownWith 25 = .ok (.invokespecial 299, 3) := by decide +kernel
theorem dX10_knownWith_28 : decode cX10_knownWith 28 = .ok (.athrow, 1) := by decide +kernel
theorem dX10_knownWith_29 : decode cX10_knownWith 29 = .ok (.aload_n 3, 1) := by decide +kernel
theorem dX10_knownWith_30 : decode cX10_knownWith 30 = .ok (.areturn, 1) := by decide +kernel
theorem dX10_knownWithRow_0 : decode cX10_knownWithRow 0 = .ok (.aload_n 0, 1) := by decide +kernel
theorem dX10_knownWithRow_1 : decode cX10_knownWithRow 1 = .ok (.iload_n 1, 1) := by decide +kernel
theorem dX10_knownWithRow_2 : decode cX10_knownWithRow 2 = .ok (.invokevirtual 126, 3) := by decide +kernel
theorem dX10_knownWithRow_5 : decode cX10_knownWithRow 5 = .ok (.astore_n 3, 1) := by decide +kernel
theorem dX10_knownWithRow_6 : decode cX10_knownWithRow 6 = .ok (.iload_n 2, 1) := by decide +kernel
theorem dX10_knownWithRow_7 : decode cX10_knownWithRow 7 = .ok (.ifCond .lt 11, 3) := by decide +kernel
theorem dX10_knownWithRow_10 : decode cX10_knownWithRow 10 = .ok (.iload_n 2, 1) := by decide +kernel
theorem dX10_knownWithRow_11 : decode cX10_knownWithRow 11 = .ok (.aload_n 3, 1) := by decide +kernel
theorem dX10_knownWithRow_12 : decode cX10_knownWithRow 12 = .ok (.getfield 131, 3) := by decide +kernel
theorem dX10_knownWithRow_15 : decode cX10_knownWithRow 15 = .ok (.if_icmp .le 14, 3) := by decide +kernel
theorem dX10_knownWithRow_18 : decode cX10_knownWithRow 18 = .ok (.new 295, 3) := by decide +kernel
theorem dX10_knownWithRow_21 : decode cX10_knownWithRow 21 = .ok (.dup, 1) := by decide +kernel
theorem dX10_knownWithRow_22 : decode cX10_knownWithRow 22 = .ok (.ldc_w 340, 3) := by decide +kernel
theorem dX10_knownWithRow_25 : decode cX10_knownWithRow 25 = .ok (.invokespecial 299, 3) := by decide +kernel
theorem dX10_knownWithRow_28 : decode cX10_knownWithRow 28 = .ok (.athrow, 1) := by decide +kernel
theorem dX10_knownWithRow_29 : decode cX10_knownWithRow 29 = .ok (.aload_n 3, 1) := by decide +kernel
theorem dX10_knownWithRow_30 : decode cX10_knownWithRow 30 = .ok (.areturn, 1) := by decide +kernel
theorem dX10_knownNotEmpty_0 : decode cX10_knownNotEmpty 0 = .ok (.aload_n 0, 1) := by decide +kernel
theorem dX10_knownNotEmpty_1 : decode cX10_knownNotEmpty 1 = .ok (.iload_n 1, 1) := by decide +kernel
theorem dX10_knownNotEmpty_2 : decode cX10_knownNotEmpty 2 = .ok (.invokevirtual 126, 3) := by decide +kernel
theorem dX10_knownNotEmpty_5 : decode cX10_knownNotEmpty 5 = .ok (.astore_n 2, 1) := by decide +kernel
theorem dX10_knownNotEmpty_6 : decode cX10_knownNotEmpty 6 = .ok (.aload_n 2, 1) := by decide +kernel
theorem dX10_knownNotEmpty_7 : decode cX10_knownNotEmpty 7 = .ok (.getfield 131, 3) := by decide +kernel
theorem dX10_knownNotEmpty_10 : decode cX10_knownNotEmpty 10 = .ok (.ifCond .ne 14, 3) := by decide +kernel
theorem dX10_knownNotEmpty_13 : decode cX10_knownNotEmpty 13 = .ok (.new 97, 3) := by decide +kernel
theorem dX10_knownNotEmpty_16 : decode cX10_knownNotEmpty 16 = .ok (.dup, 1) := by decide +kernel
theorem dX10_knownNotEmpty_17 : decode cX10_knownNotEmpty 17 = .ok (.ldc_w 321, 3) := by decide +kernel
theorem dX10_knownNotEmpty_20 : decode cX10_knownNotEmpty 20 = .ok (.invokespecial 101, 3) := by decide +kernel
theorem dX10_knownNotEmpty_23 : decode cX10_knownNotEmpty 23 = .ok (.athrow, 1) := by decide +kernel
theorem dX10_knownNotEmpty_24 : decode cX10_knownNotEmpty 24 = .ok (.aload_n 2, 1) := by decide +kernel
theorem dX10_knownNotEmpty_25 : decode cX10_knownNotEmpty 25 = .ok (.areturn, 1) := by decide +kernel
theorem dX10_refuseClassSize_0 : decode cX10_refuseClassSize 0 = .ok (.iload_n 1, 1) := by decide +kernel
theorem dX10_refuseClassSize_1 : decode cX10_refuseClassSize 1 = .ok (.iconst 1, 1) := by decide +kernel
theorem dX10_refuseClassSize_2 : decode cX10_refuseClassSize 2 = .ok (.if_icmp .lt 9, 3) := by decide +kernel
theorem dX10_refuseClassSize_5 : decode cX10_refuseClassSize 5 = .ok (.iload_n 1, 1) := by decide +kernel
theorem dX10_refuseClassSize_6 : decode cX10_refuseClassSize 6 = .ok (.bipush 64, 2) := by decide +kernel
theorem dX10_refuseClassSize_8 : decode cX10_refuseClassSize 8 = .ok (.if_icmp .le 14, 3) := by decide +kernel
theorem dX10_refuseClassSize_11 : decode cX10_refuseClassSize 11 = .ok (.new 73, 3) := by decide +kernel
theorem dX10_refuseClassSize_14 : decode cX10_refuseClassSize 14 = .ok (.dup, 1) := by decide +kernel
theorem dX10_refuseClassSize_15 : decode cX10_refuseClassSize 15 = .ok (.ldc_w 344, 3) := by decide +kernel
theorem dX10_refuseClassSize_18 : decode cX10_refuseClassSize 18 = .ok (.invokespecial 77, 3) := by decide +kernel
theorem dX10_refuseClassSize_21 : decode cX10_refuseClassSize 21 = .ok (.athrow, 1) := by decide +kernel
theorem dX10_refuseClassSize_22 : decode cX10_refuseClassSize 22 = .ok (.return_, 1) := by decide +kernel
theorem dX10_refuseNoWord_0 : decode cX10_refuseNoWord 0 = .ok (.aload_n 0, 1) := by decide +kernel
theorem dX10_refuseNoWord_1 : decode cX10_refuseNoWord 1 = .ok (.getfield 18, 3) := by decide +kernel
theorem dX10_refuseNoWord_4 : decode cX10_refuseNoWord 4 = .ok (.getfield 80, 3) := by decide +kernel
theorem dX10_refuseNoWord_7 : decode cX10_refuseNoWord 7 = .ok (.ifCond .eq 13, 3) := by decide +kernel
theorem dX10_refuseNoWord_10 : decode cX10_refuseNoWord 10 = .ok (.aload_n 0, 1) := by decide +kernel
theorem dX10_refuseNoWord_11 : decode cX10_refuseNoWord 11 = .ok (.getfield 18, 3) := by decide +kernel
theorem dX10_refuseNoWord_14 : decode cX10_refuseNoWord 14 = .ok (.invokevirtual 105, 3) := by decide +kernel
theorem dX10_refuseNoWord_17 : decode cX10_refuseNoWord 17 = .ok (.ifCond .eq 14, 3) := by decide +kernel
theorem dX10_refuseNoWord_20 : decode cX10_refuseNoWord 20 = .ok (.new 109, 3) := by decide +kernel
theorem dX10_refuseNoWord_23 : decode cX10_refuseNoWord 23 = .ok (.dup, 1) := by decide +kernel
theorem dX10_refuseNoWord_24 : decode cX10_refuseNoWord 24 = .ok (.ldc_w 346, 3) := by decide +kernel
theorem dX10_refuseNoWord_27 : decode cX10_refuseNoWord 27 = .ok (.invokespecial 113, 3) := by decide +kernel
theorem dX10_refuseNoWord_30 : decode cX10_refuseNoWord 30 = .ok (.athrow, 1) := by decide +kernel
theorem dX10_refuseNoWord_31 : decode cX10_refuseNoWord 31 = .ok (.return_, 1) := by decide +kernel
theorem dX10_leastRank_0 : decode cX10_leastRank 0 = .ok (.aload_n 1, 1) := by decide +kernel
theorem dX10_leastRank_1 : decode cX10_leastRank 1 = .ok (.aload_n 0, 1) := by decide +kernel
theorem dX10_leastRank_2 : decode cX10_leastRank 2 = .ok (.getfield 18, 3) := by decide +kernel
theorem dX10_leastRank_5 : decode cX10_leastRank 5 = .ok (.iconst 0, 1) := by decide +kernel
theorem dX10_leastRank_6 : decode cX10_leastRank 6 = .ok (.invokevirtual 199, 3) := by decide +kernel
theorem dX10_leastRank_9 : decode cX10_leastRank 9 = .ok (.istore_n 2, 1) := by decide +kernel
theorem dX10_leastRank_10 : decode cX10_leastRank 10 = .ok (.iload_n 2, 1) := by decide +kernel
theorem dX10_leastRank_11 : decode cX10_leastRank 11 = .ok (.aload_n 1, 1) := by decide +kernel
theorem dX10_leastRank_12 : decode cX10_leastRank 12 = .ok (.aload_n 0, 1) := by decide +kernel
theorem dX10_leastRank_13 : decode cX10_leastRank 13 = .ok (.getfield 18, 3) := by decide +kernel
theorem dX10_leastRank_16 : decode cX10_leastRank 16 = .ok (.iconst 0, 1) := by decide +kernel
theorem dX10_leastRank_17 : decode cX10_leastRank 17 = .ok (.invokevirtual 195, 3) := by decide +kernel
theorem dX10_leastRank_20 : decode cX10_leastRank 20 = .ok (.if_icmp .lt 14, 3) := by decide +kernel
theorem dX10_leastRank_23 : decode cX10_leastRank 23 = .ok (.new 97, 3) := by decide +kernel
theorem dX10_leastRank_26 : decode cX10_leastRank 26 = .ok (.dup, 1) := by decide +kernel
theorem dX10_leastRank_27 : decode cX10_leastRank 27 = .ok (.ldc_w 348, 3) := by decide +kernel
theorem dX10_leastRank_30 : decode cX10_leastRank 30 = .ok (.invokespecial 101, 3) := by decide +kernel
theorem dX10_leastRank_33 : decode cX10_leastRank 33 = .ok (.athrow, 1) := by decide +kernel
theorem dX10_leastRank_34 : decode cX10_leastRank 34 = .ok (.iload_n 2, 1) := by decide +kernel
theorem dX10_leastRank_35 : decode cX10_leastRank 35 = .ok (.ireturn, 1) := by decide +kernel
theorem dX10_freshText_0 : decode cX10_freshText 0 = .ok (.aload_n 0, 1) := by decide +kernel
theorem dX10_freshText_1 : decode cX10_freshText 1 = .ok (.getfield 235, 3) := by decide +kernel
theorem dX10_freshText_4 : decode cX10_freshText 4 = .ok (.bipush 8, 2) := by decide +kernel
theorem dX10_freshText_6 : decode cX10_freshText 6 = .ok (.if_icmp .lt 14, 3) := by decide +kernel
theorem dX10_freshText_9 : decode cX10_freshText 9 = .ok (.new 84, 3) := by decide +kernel
theorem dX10_freshText_12 : decode cX10_freshText 12 = .ok (.dup, 1) := by decide +kernel
theorem dX10_freshText_13 : decode cX10_freshText 13 = .ok (.ldc_w 350, 3) := by decide +kernel
theorem dX10_freshText_16 : decode cX10_freshText 16 = .ok (.invokespecial 88, 3) := by decide +kernel
theorem dX10_freshText_19 : decode cX10_freshText 19 = .ok (.athrow, 1) := by decide +kernel
theorem dX10_freshText_20 : decode cX10_freshText 20 = .ok (.aload_n 0, 1) := by decide +kernel
theorem dX10_freshText_21 : decode cX10_freshText 21 = .ok (.getfield 11, 3) := by decide +kernel
theorem dX10_freshText_24 : decode cX10_freshText 24 = .ok (.aload_n 0, 1) := by decide +kernel
theorem dX10_freshText_25 : decode cX10_freshText 25 = .ok (.getfield 235, 3) := by decide +kernel
theorem dX10_freshText_28 : decode cX10_freshText 28 = .ok (.aaload, 1) := by decide +kernel
theorem dX10_freshText_29 : decode cX10_freshText 29 = .ok (.areturn, 1) := by decide +kernel
theorem dX10_keep_0 : decode cX10_keep 0 = .ok (.aload_n 0, 1) := by decide +kernel
theorem dX10_keep_1 : decode cX10_keep 1 = .ok (.getfield 29, 3) := by decide +kernel
theorem dX10_keep_4 : decode cX10_keep 4 = .ok (.aload_n 1, 1) := by decide +kernel
theorem dX10_keep_5 : decode cX10_keep 5 = .ok (.invokevirtual 149, 3) := by decide +kernel
theorem dX10_keep_8 : decode cX10_keep 8 = .ok (.aload_n 0, 1) := by decide +kernel
theorem dX10_keep_9 : decode cX10_keep 9 = .ok (.dup, 1) := by decide +kernel
theorem dX10_keep_10 : decode cX10_keep 10 = .ok (.getfield 235, 3) := by decide +kernel
theorem dX10_keep_13 : decode cX10_keep 13 = .ok (.iconst 1, 1) := by decide +kernel
theorem dX10_keep_14 : decode cX10_keep 14 = .ok (.iadd, 1) := by decide +kernel
theorem dX10_keep_15 : decode cX10_keep 15 = .ok (.putfield 235, 3) := by decide +kernel
theorem dX10_keep_18 : decode cX10_keep 18 = .ok (.aload_n 0, 1) := by decide +kernel
theorem dX10_keep_19 : decode cX10_keep 19 = .ok (.getfield 235, 3) := by decide +kernel
theorem dX10_keep_22 : decode cX10_keep 22 = .ok (.iconst 1, 1) := by decide +kernel
theorem dX10_keep_23 : decode cX10_keep 23 = .ok (.isub, 1) := by decide +kernel
theorem dX10_keep_24 : decode cX10_keep 24 = .ok (.ireturn, 1) := by decide +kernel
theorem dL_cell_0 : decode cL_cell 0 = .ok (.sipush 12345, 3) := by decide +kernel
theorem dL_cell_3 : decode cL_cell 3 = .ok (.bipush 31, 2) := by decide +kernel
theorem dL_cell_5 : decode cL_cell 5 = .ok (.aload_n 0, 1) := by decide +kernel
theorem dL_cell_6 : decode cL_cell 6 = .ok (.arraylength, 1) := by decide +kernel
theorem dL_cell_7 : decode cL_cell 7 = .ok (.imul, 1) := by decide +kernel
theorem dL_cell_8 : decode cL_cell 8 = .ok (.iadd, 1) := by decide +kernel
theorem dL_cell_9 : decode cL_cell 9 = .ok (.istore_n 2, 1) := by decide +kernel
theorem dL_cell_10 : decode cL_cell 10 = .ok (.aload_n 0, 1) := by decide +kernel
theorem dL_cell_11 : decode cL_cell 11 = .ok (.astore_n 3, 1) := by decide +kernel
theorem dL_cell_12 : decode cL_cell 12 = .ok (.aload_n 3, 1) := by decide +kernel
theorem dL_cell_13 : decode cL_cell 13 = .ok (.arraylength, 1) := by decide +kernel
theorem dL_cell_14 : decode cL_cell 14 = .ok (.istore 4, 2) := by decide +kernel
theorem dL_cell_16 : decode cL_cell 16 = .ok (.iconst 0, 1) := by decide +kernel
theorem dL_cell_17 : decode cL_cell 17 = .ok (.istore 5, 2) := by decide +kernel
theorem dL_cell_19 : decode cL_cell 19 = .ok (.iload 5, 2) := by decide +kernel
theorem dL_cell_21 : decode cL_cell 21 = .ok (.iload 4, 2) := by decide +kernel
theorem dL_cell_23 : decode cL_cell 23 = .ok (.if_icmp .ge 26, 3) := by decide +kernel
theorem dL_cell_26 : decode cL_cell 26 = .ok (.aload_n 3, 1) := by decide +kernel
theorem dL_cell_27 : decode cL_cell 27 = .ok (.iload 5, 2) := by decide +kernel
theorem dL_cell_29 : decode cL_cell 29 = .ok (.iaload, 1) := by decide +kernel
theorem dL_cell_30 : decode cL_cell 30 = .ok (.istore 6, 2) := by decide +kernel
theorem dL_cell_32 : decode cL_cell 32 = .ok (.iload_n 2, 1) := by decide +kernel
theorem dL_cell_33 : decode cL_cell 33 = .ok (.iload 6, 2) := by decide +kernel
theorem dL_cell_35 : decode cL_cell 35 = .ok (.ixor, 1) := by decide +kernel
theorem dL_cell_36 : decode cL_cell 36 = .ok (.ldc 7, 2) := by decide +kernel
theorem dL_cell_38 : decode cL_cell 38 = .ok (.imul, 1) := by decide +kernel
theorem dL_cell_39 : decode cL_cell 39 = .ok (.bipush 7, 2) := by decide +kernel
theorem dL_cell_41 : decode cL_cell 41 = .ok (.iadd, 1) := by decide +kernel
theorem dL_cell_42 : decode cL_cell 42 = .ok (.istore_n 2, 1) := by decide +kernel
theorem dL_cell_43 : decode cL_cell 43 = .ok (.iinc 5 1, 3) := by decide +kernel
theorem dL_cell_46 : decode cL_cell 46 = .ok (.goto (-27), 3) := by decide +kernel
theorem dL_cell_49 : decode cL_cell 49 = .ok (.iload_n 2, 1) := by decide +kernel
theorem dL_cell_50 : decode cL_cell 50 = .ok (.bipush 7, 2) := by decide +kernel
theorem dL_cell_52 : decode cL_cell 52 = .ok (.iushr, 1) := by decide +kernel
