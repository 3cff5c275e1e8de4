theorem dL_insert_9 : decode cL_insert 9 = .ok (.ireturn, 1) := by decide +kernel
theorem dL_replace_0 : decode cL_replace 0 = .ok (.aload_n 0, 1) := by decide +kernel
theorem dL_replace_1 : decode cL_replace 1 = .ok (.iload_n 1, 1) := by decide +kernel
theorem dL_replace_2 : decode cL_replace 2 = .ok (.invokevirtual 56, 3) := by decide +kernel
theorem dL_replace_5 : decode cL_replace 5 = .ok (.ireturn, 1) := by decide +kernel
theorem dL_replace_6 : decode cL_replace 6 = .ok (.astore_n 2, 1) := by decide +kernel
theorem dL_replace_7 : decode cL_replace 7 = .ok (.ldc 18, 2) := by decide +kernel
theorem dL_replace_9 : decode cL_replace 9 = .ok (.ireturn, 1) := by decide +kernel
theorem dL_delete_0 : decode cL_delete 0 = .ok (.aload_n 0, 1) := by decide +kernel
theorem dL_delete_1 : decode cL_delete 1 = .ok (.iload_n 1, 1) := by decide +kernel
theorem dL_delete_2 : decode cL_delete 2 = .ok (.invokevirtual 59, 3) := by decide +kernel
theorem dL_delete_5 : decode cL_delete 5 = .ok (.ireturn, 1) := by decide +kernel
theorem dL_delete_6 : decode cL_delete 6 = .ok (.astore_n 2, 1) := by decide +kernel
theorem dL_delete_7 : decode cL_delete 7 = .ok (.ldc 18, 2) := by decide +kernel
theorem dL_delete_9 : decode cL_delete 9 = .ok (.ireturn, 1) := by decide +kernel
theorem dL_count_0 : decode cL_count 0 = .ok (.aload_n 0, 1) := by decide +kernel
theorem dL_count_1 : decode cL_count 1 = .ok (.iload_n 1, 1) := by decide +kernel
theorem dL_count_2 : decode cL_count 2 = .ok (.invokevirtual 62, 3) := by decide +kernel
theorem dL_count_5 : decode cL_count 5 = .ok (.ireturn, 1) := by decide +kernel
theorem dL_count_6 : decode cL_count 6 = .ok (.astore_n 2, 1) := by decide +kernel
theorem dL_count_7 : decode cL_count 7 = .ok (.ldc 18, 2) := by decide +kernel
theorem dL_count_9 : decode cL_count 9 = .ok (.ireturn, 1) := by decide +kernel
theorem dL_rowAt_0 : decode cL_rowAt 0 = .ok (.aload_n 0, 1) := by decide +kernel
theorem dL_rowAt_1 : decode cL_rowAt 1 = .ok (.iload_n 1, 1) := by decide +kernel
theorem dL_rowAt_2 : decode cL_rowAt 2 = .ok (.iload_n 2, 1) := by decide +kernel
theorem dL_rowAt_3 : decode cL_rowAt 3 = .ok (.invokevirtual 65, 3) := by decide +kernel
theorem dL_rowAt_6 : decode cL_rowAt 6 = .ok (.ireturn, 1) := by decide +kernel
theorem dL_rowAt_7 : decode cL_rowAt 7 = .ok (.astore_n 3, 1) := by decide +kernel
theorem dL_rowAt_8 : decode cL_rowAt 8 = .ok (.ldc 18, 2) := by decide +kernel
theorem dL_rowAt_10 : decode cL_rowAt 10 = .ok (.ireturn, 1) := by decide +kernel
theorem dL_rowAnew_0 : decode cL_rowAnew 0 = .ok (.aload_n 0, 1) := by decide +kernel
theorem dL_rowAnew_1 : decode cL_rowAnew 1 = .ok (.iload_n 1, 1) := by decide +kernel
theorem dL_rowAnew_2 : decode cL_rowAnew 2 = .ok (.iload_n 2, 1) := by decide +kernel
theorem dL_rowAnew_3 : decode cL_rowAnew 3 = .ok (.invokevirtual 68, 3) := by decide +kernel
theorem dL_rowAnew_6 : decode cL_rowAnew 6 = .ok (.ireturn, 1) := by decide +kernel
theorem dL_rowAnew_7 : decode cL_rowAnew 7 = .ok (.astore_n 3, 1) := by decide +kernel
theorem dL_rowAnew_8 : decode cL_rowAnew 8 = .ok (.ldc 18, 2) := by decide +kernel
theorem dL_rowAnew_10 : decode cL_rowAnew 10 = .ok (.ireturn, 1) := by decide +kernel
theorem dL_fieldAt_0 : decode cL_fieldAt 0 = .ok (.aload_n 0, 1) := by decide +kernel
theorem dL_fieldAt_1 : decode cL_fieldAt 1 = .ok (.iload_n 1, 1) := by decide +kernel
theorem dL_fieldAt_2 : decode cL_fieldAt 2 = .ok (.iload_n 2, 1) := by decide +kernel
theorem dL_fieldAt_3 : decode cL_fieldAt 3 = .ok (.iload_n 3, 1) := by decide +kernel
theorem dL_fieldAt_4 : decode cL_fieldAt 4 = .ok (.invokevirtual 71, 3) := by decide +kernel
theorem dL_fieldAt_7 : decode cL_fieldAt 7 = .ok (.ireturn, 1) := by decide +kernel
theorem dL_fieldAt_8 : decode cL_fieldAt 8 = .ok (.astore 4, 2) := by decide +kernel
theorem dL_fieldAt_10 : decode cL_fieldAt 10 = .ok (.ldc 18, 2) := by decide +kernel
theorem dL_fieldAt_12 : decode cL_fieldAt 12 = .ok (.ireturn, 1) := by decide +kernel
theorem dL_place_0 : decode cL_place 0 = .ok (.aload_n 0, 1) := by decide +kernel
theorem dL_place_1 : decode cL_place 1 = .ok (.iload_n 1, 1) := by decide +kernel
theorem dL_place_2 : decode cL_place 2 = .ok (.invokevirtual 74, 3) := by decide +kernel
theorem dL_place_5 : decode cL_place 5 = .ok (.ireturn, 1) := by decide +kernel
theorem dL_place_6 : decode cL_place 6 = .ok (.astore_n 2, 1) := by decide +kernel
theorem dL_place_7 : decode cL_place 7 = .ok (.ldc 18, 2) := by decide +kernel
theorem dL_place_9 : decode cL_place 9 = .ok (.ireturn, 1) := by decide +kernel
theorem dL_ahead_0 : decode cL_ahead 0 = .ok (.aload_n 0, 1) := by decide +kernel
theorem dL_ahead_1 : decode cL_ahead 1 = .ok (.iload_n 1, 1) := by decide +kernel
theorem dL_ahead_2 : decode cL_ahead 2 = .ok (.invokevirtual 77, 3) := by decide +kernel
theorem dL_ahead_5 : decode cL_ahead 5 = .ok (.ireturn, 1) := by decide +kernel
theorem dL_ahead_6 : decode cL_ahead 6 = .ok (.astore_n 2, 1) := by decide +kernel
theorem dL_ahead_7 : decode cL_ahead 7 = .ok (.ldc 18, 2) := by decide +kernel
theorem dL_ahead_9 : decode cL_ahead 9 = .ok (.ireturn, 1) := by decide +kernel
theorem dL_parent_0 : decode cL_parent 0 = .ok (.aload_n 0, 1) := by decide +kernel
theorem dL_parent_1 : decode cL_parent 1 = .ok (.iload_n 1, 1) := by decide +kernel
theorem dL_parent_2 : decode cL_parent 2 = .ok (.invokevirtual 80, 3) := by decide +kernel
theorem dL_parent_5 : decode cL_parent 5 = .ok (.ireturn, 1) := by decide +kernel
theorem dL_parent_6 : decode cL_parent 6 = .ok (.astore_n 2, 1) := by decide +kernel
theorem dL_parent_7 : decode cL_parent 7 = .ok (.ldc 18, 2) := by decide +kernel
theorem dL_parent_9 : decode cL_parent 9 = .ok (.ireturn, 1) := by decide +kernel
theorem dL_holds_0 : decode cL_holds 0 = .ok (.aload_n 0, 1) := by decide +kernel
theorem dL_holds_1 : decode cL_holds 1 = .ok (.iload_n 1, 1) := by decide +kernel
theorem dL_holds_2 : decode cL_holds 2 = .ok (.invokevirtual 83, 3) := by decide +kernel
theorem dL_holds_5 : decode cL_holds 5 = .ok (.ireturn, 1) := by decide +kernel
theorem dL_holds_6 : decode cL_holds 6 = .ok (.astore_n 2, 1) := by decide +kernel
theorem dL_holds_7 : decode cL_holds 7 = .ok (.ldc 18, 2) := by decide +kernel
theorem dL_holds_9 : decode cL_holds 9 = .ok (.ireturn, 1) := by decide +kernel
theorem dL_second_0 : decode cL_second 0 = .ok (.aload_n 0, 1) := by decide +kernel
theorem dL_second_1 : decode cL_second 1 = .ok (.iload_n 1, 1) := by decide +kernel
theorem dL_second_2 : decode cL_second 2 = .ok (.invokevirtual 86, 3) := by decide +kernel
theorem dL_second_5 : decode cL_second 5 = .ok (.ireturn, 1) := by decide +kernel
theorem dL_second_6 : decode cL_second 6 = .ok (.astore_n 2, 1) := by decide +kernel
theorem dL_second_7 : decode cL_second 7 = .ok (.ldc 18, 2) := by decide +kernel
theorem dL_second_9 : decode cL_second 9 = .ok (.ireturn, 1) := by decide +kernel
theorem dL_tied_0 : decode cL_tied 0 = .ok (.aload_n 0, 1) := by decide +kernel
theorem dL_tied_1 : decode cL_tied 1 = .ok (.iload_n 1, 1) := by decide +kernel
theorem dL_tied_2 : decode cL_tied 2 = .ok (.invokevirtual 89, 3) := by decide +kernel
theorem dL_tied_5 : decode cL_tied 5 = .ok (.ireturn, 1) := by decide +kernel
theorem dL_tied_6 : decode cL_tied 6 = .ok (.astore_n 2, 1) := by decide +kernel
theorem dL_tied_7 : decode cL_tied 7 = .ok (.ldc 18, 2) := by decide +kernel
theorem dL_tied_9 : decode cL_tied 9 = .ok (.ireturn, 1) := by decide +kernel
theorem dL_keys_0 : decode cL_keys 0 = .ok (.aload_n 0, 1) := by decide +kernel
theorem dL_keys_1 : decode cL_keys 1 = .ok (.iload_n 1, 1) := by decide +kernel
theorem dL_keys_2 : decode cL_keys 2 = .ok (.invokevirtual 92, 3) := by decide +kernel
theorem dL_keys_5 : decode cL_keys 5 = .ok (.lreturn, 1) := by decide +kernel
theorem dL_keys_6 : decode cL_keys 6 = .ok (.astore_n 2, 1) := by decide +kernel
theorem dL_keys_7 : decode cL_keys 7 = .ok (.ldc2_w 96, 3) := by decide +kernel
theorem dL_keys_10 : decode cL_keys 10 = .ok (.lreturn, 1) := by decide +kernel
theorem dL_typeOf_0 : decode cL_typeOf 0 = .ok (.lload_n 0, 1) := by decide +kernel
theorem dL_typeOf_1 : decode cL_typeOf 1 = .ok (.ldc2_w 98, 3) := by decide +kernel
theorem dL_typeOf_4 : decode cL_typeOf 4 = .ok (.land, 1) := by decide +kernel
theorem dL_typeOf_5 : decode cL_typeOf 5 = .ok (.l2i, 1) := by decide +kernel
theorem dL_typeOf_6 : decode cL_typeOf 6 = .ok (.ireturn, 1) := by decide +kernel
theorem dL_fieldOf_0 : decode cL_fieldOf 0 = .ok (.lload_n 0, 1) := by decide +kernel
theorem dL_fieldOf_1 : decode cL_fieldOf 1 = .ok (.iconst 4, 1) := by decide +kernel
theorem dL_fieldOf_2 : decode cL_fieldOf 2 = .ok (.bipush 10, 2) := by decide +kernel
theorem dL_fieldOf_4 : decode cL_fieldOf 4 = .ok (.iload_n 2, 1) := by decide +kernel
theorem dL_fieldOf_5 : decode cL_fieldOf 5 = .ok (.imul, 1) := by decide +kernel
theorem dL_fieldOf_6 : decode cL_fieldOf 6 = .ok (.iadd, 1) := by decide +kernel
theorem dL_fieldOf_7 : decode cL_fieldOf 7 = .ok (.lshr, 1) := by decide +kernel
theorem dL_fieldOf_8 : decode cL_fieldOf 8 = .ok (.ldc2_w 100, 3) := by decide +kernel
theorem dL_fieldOf_11 : decode cL_fieldOf 11 = .ok (.land, 1) := by decide +kernel
theorem dL_fieldOf_12 : decode cL_fieldOf 12 = .ok (.l2i, 1) := by decide +kernel
theorem dL_fieldOf_13 : decode cL_fieldOf 13 = .ok (.ireturn, 1) := by decide +kernel
theorem dL_above_0 : decode cL_above 0 = .ok (.aload_n 0, 1) := by decide +kernel
theorem dL_above_1 : decode cL_above 1 = .ok (.iload_n 1, 1) := by decide +kernel
theorem dL_above_2 : decode cL_above 2 = .ok (.iaload, 1) := by decide +kernel
theorem dL_above_3 : decode cL_above 3 = .ok (.iconst 4, 1) := by decide +kernel
theorem dL_above_4 : decode cL_above 4 = .ok (.idiv, 1) := by decide +kernel
theorem dL_above_5 : decode cL_above 5 = .ok (.bipush 16, 2) := by decide +kernel
theorem dL_above_7 : decode cL_above 7 = .ok (.irem, 1) := by decide +kernel
theorem dL_above_8 : decode cL_above 8 = .ok (.iconst 1, 1) := by decide +kernel
theorem dL_above_9 : decode cL_above 9 = .ok (.isub, 1) := by decide +kernel
theorem dL_above_10 : decode cL_above 10 = .ok (.ireturn, 1) := by decide +kernel
theorem dL_level_0 : decode cL_level 0 = .ok (.aload_n 0, 1) := by decide +kernel
theorem dL_level_1 : decode cL_level 1 = .ok (.iload_n 1, 1) := by decide +kernel
theorem dL_level_2 : decode cL_level 2 = .ok (.iaload, 1) := by decide +kernel
theorem dL_level_3 : decode cL_level 3 = .ok (.sipush 1024, 3) := by decide +kernel
theorem dL_level_6 : decode cL_level 6 = .ok (.idiv, 1) := by decide +kernel
theorem dL_level_7 : decode cL_level 7 = .ok (.bipush 8, 2) := by decide +kernel
theorem dL_level_9 : decode cL_level 9 = .ok (.irem, 1) := by decide +kernel
theorem dL_level_10 : decode cL_level 10 = .ok (.ireturn, 1) := by decide +kernel
theorem dL_target_0 : decode cL_target 0 = .ok (.aload_n 0, 1) := by decide +kernel
theorem dL_target_1 : decode cL_target 1 = .ok (.iload_n 1, 1) := by decide +kernel
theorem dL_target_2 : decode cL_target 2 = .ok (.iaload, 1) := by decide +kernel
theorem dL_target_3 : decode cL_target 3 = .ok (.sipush 8192, 3) := by decide +kernel
theorem dL_target_6 : decode cL_target 6 = .ok (.idiv, 1) := by decide +kernel
theorem dL_target_7 : decode cL_target 7 = .ok (.bipush 16, 2) := by decide +kernel
theorem dL_target_9 : decode cL_target 9 = .ok (.irem, 1) := by decide +kernel
theorem dL_target_10 : decode cL_target 10 = .ok (.iconst 1, 1) := by decide +kernel
theorem dL_target_11 : decode cL_target 11 = .ok (.isub, 1) := by decide +kernel
theorem dL_target_12 : decode cL_target 12 = .ok (.ireturn, 1) := by decide +kernel
theorem dL_base_0 : decode cL_base 0 = .ok (.aload_n 0, 1) := by decide +kernel
theorem dL_base_1 : decode cL_base 1 = .ok (.iload_n 1, 1) := by decide +kernel
theorem dL_base_2 : decode cL_base 2 = .ok (.iaload, 1) := by decide +kernel
theorem dL_base_3 : decode cL_base 3 = .ok (.iconst 4, 1) := by decide +kernel
theorem dL_base_4 : decode cL_base 4 = .ok (.irem, 1) := by decide +kernel
theorem dL_base_5 : decode cL_base 5 = .ok (.ireturn, 1) := by decide +kernel
theorem dL_row_0 : decode cL_row 0 = .ok (.iload_n 0, 1) := by decide +kernel
theorem dL_row_1 : decode cL_row 1 = .ok (.ifCond .ne 7, 3) := by decide +kernel
theorem dL_row_4 : decode cL_row 4 = .ok (.aload_n 1, 1) := by decide +kernel
theorem dL_row_5 : decode cL_row 5 = .ok (.goto 13, 3) := by decide +kernel
theorem dL_row_8 : decode cL_row 8 = .ok (.iload_n 0, 1) := by decide +kernel
theorem dL_row_9 : decode cL_row 9 = .ok (.iconst 1, 1) := by decide +kernel
theorem dL_row_10 : decode cL_row 10 = .ok (.if_icmp .ne 7, 3) := by decide +kernel
theorem dL_row_13 : decode cL_row 13 = .ok (.aload_n 2, 1) := by decide +kernel
theorem dL_row_14 : decode cL_row 14 = .ok (.goto 4, 3) := by decide +kernel
theorem dL_row_17 : decode cL_row 17 = .ok (.aload_n 3, 1) := by decide +kernel
theorem dL_row_18 : decode cL_row 18 = .ok (.areturn, 1) := by decide +kernel
theorem dL_reads_0 : decode cL_reads 0 = .ok (.iconst 0, 1) := by decide +kernel
theorem dL_reads_1 : decode cL_reads 1 = .ok (.istore 6, 2) := by decide +kernel
theorem dL_reads_3 : decode cL_reads 3 = .ok (.iload 6, 2) := by decide +kernel
theorem dL_reads_5 : decode cL_reads 5 = .ok (.iconst 3, 1) := by decide +kernel
theorem dL_reads_6 : decode cL_reads 6 = .ok (.if_icmp .ge 372, 3) := by decide +kernel
theorem dL_reads_9 : decode cL_reads 9 = .ok (.iload 6, 2) := by decide +kernel
theorem dL_reads_11 : decode cL_reads 11 = .ok (.aload_n 2, 1) := by decide +kernel
theorem dL_reads_12 : decode cL_reads 12 = .ok (.aload_n 3, 1) := by decide +kernel
theorem dL_reads_13 : decode cL_reads 13 = .ok (.aload 4, 2) := by decide +kernel
theorem dL_reads_15 : decode cL_reads 15 = .ok (.invokestatic 102, 3) := by decide +kernel
theorem dL_reads_18 : decode cL_reads 18 = .ok (.astore 7, 2) := by decide +kernel
theorem dL_reads_20 : decode cL_reads 20 = .ok (.aload 5, 2) := by decide +kernel
theorem dL_reads_22 : decode cL_reads 22 = .ok (.iload 6, 2) := by decide +kernel
theorem dL_reads_24 : decode cL_reads 24 = .ok (.aload_n 0, 1) := by decide +kernel
theorem dL_reads_25 : decode cL_reads 25 = .ok (.iload 6, 2) := by decide +kernel
theorem dL_reads_27 : decode cL_reads 27 = .ok (.invokestatic 108, 3) := by decide +kernel
theorem dL_reads_30 : decode cL_reads 30 = .ok (.iastore, 1) := by decide +kernel
theorem dL_reads_31 : decode cL_reads 31 = .ok (.iconst 0, 1) := by decide +kernel
theorem dL_reads_32 : decode cL_reads 32 = .ok (.istore 8, 2) := by decide +kernel
theorem dL_reads_34 : decode cL_reads 34 = .ok (.iload 8, 2) := by decide +kernel
theorem dL_reads_36 : decode cL_reads 36 = .ok (.aload 5, 2) := by decide +kernel
theorem dL_reads_38 : decode cL_reads 38 = .ok (.iload 6, 2) := by decide +kernel
theorem dL_reads_40 : decode cL_reads 40 = .ok (.iaload, 1) := by decide +kernel
theorem dL_reads_41 : decode cL_reads 41 = .ok (.if_icmp .ge 331, 3) := by decide +kernel
theorem dL_reads_44 : decode cL_reads 44 = .ok (.aload_n 0, 1) := by decide +kernel
theorem dL_reads_45 : decode cL_reads 45 = .ok (.iload 6, 2) := by decide +kernel
theorem dL_reads_47 : decode cL_reads 47 = .ok (.iload 8, 2) := by decide +kernel
theorem dL_reads_49 : decode cL_reads 49 = .ok (.invokestatic 111, 3) := by decide +kernel
theorem dL_reads_52 : decode cL_reads 52 = .ok (.istore 9, 2) := by decide +kernel
theorem dL_reads_54 : decode cL_reads 54 = .ok (.aload 7, 2) := by decide +kernel
theorem dL_reads_56 : decode cL_reads 56 = .ok (.iload 8, 2) := by decide +kernel
theorem dL_reads_58 : decode cL_reads 58 = .ok (.iload 9, 2) := by decide +kernel
theorem dL_reads_60 : decode cL_reads 60 = .ok (.sipush 1000, 3) := by decide +kernel
theorem dL_reads_63 : decode cL_reads 63 = .ok (.idiv, 1) := by decide +kernel
theorem dL_reads_64 : decode cL_reads 64 = .ok (.i2l, 1) := by decide +kernel
theorem dL_reads_65 : decode cL_reads 65 = .ok (.ldc2_w 114, 3) := by decide +kernel
theorem dL_reads_68 : decode cL_reads 68 = .ok (.iload 9, 2) := by decide +kernel
theorem dL_reads_70 : decode cL_reads 70 = .ok (.sipush 1000, 3) := by decide +kernel
theorem dL_reads_73 : decode cL_reads 73 = .ok (.irem, 1) := by decide +kernel
theorem dL_reads_74 : decode cL_reads 74 = .ok (.i2l, 1) := by decide +kernel
theorem dL_reads_75 : decode cL_reads 75 = .ok (.lmul, 1) := by decide +kernel
theorem dL_reads_76 : decode cL_reads 76 = .ok (.ladd, 1) := by decide +kernel
theorem dL_reads_77 : decode cL_reads 77 = .ok (.ldc2_w 116, 3) := by decide +kernel
theorem dL_reads_80 : decode cL_reads 80 = .ok (.aload_n 0, 1) := by decide +kernel
theorem dL_reads_81 : decode cL_reads 81 = .ok (.iload 6, 2) := by decide +kernel
theorem dL_reads_83 : decode cL_reads 83 = .ok (.iload 8, 2) := by decide +kernel
theorem dL_reads_85 : decode cL_reads 85 = .ok (.iconst 1, 1) := by decide +kernel
theorem dL_reads_86 : decode cL_reads 86 = .ok (.invokestatic 118, 3) := by decide +kernel
theorem dL_reads_89 : decode cL_reads 89 = .ok (.i2l, 1) := by decide +kernel
theorem dL_reads_90 : decode cL_reads 90 = .ok (.lmul, 1) := by decide +kernel
theorem dL_reads_91 : decode cL_reads 91 = .ok (.ladd, 1) := by decide +kernel
theorem dL_reads_92 : decode cL_reads 92 = .ok (.ldc2_w 121, 3) := by decide +kernel
theorem dL_reads_95 : decode cL_reads 95 = .ok (.aload_n 0, 1) := by decide +kernel
theorem dL_reads_96 : decode cL_reads 96 = .ok (.iload 6, 2) := by decide +kernel
theorem dL_reads_98 : decode cL_reads 98 = .ok (.iload 8, 2) := by decide +kernel
theorem dL_reads_100 : decode cL_reads 100 = .ok (.iconst 2, 1) := by decide +kernel
theorem dL_reads_101 : decode cL_reads 101 = .ok (.invokestatic 118, 3) := by decide +kernel
theorem dL_reads_104 : decode cL_reads 104 = .ok (.i2l, 1) := by decide +kernel
theorem dL_reads_105 : decode cL_reads 105 = .ok (.lmul, 1) := by decide +kernel
theorem dL_reads_106 : decode cL_reads 106 = .ok (.ladd, 1) := by decide +kernel
theorem dL_reads_107 : decode cL_reads 107 = .ok (.lastore, 1) := by decide +kernel
theorem dL_reads_108 : decode cL_reads 108 = .ok (.aload_n 1, 1) := by decide +kernel
theorem dL_reads_109 : decode cL_reads 109 = .ok (.iload 9, 2) := by decide +kernel
theorem dL_reads_111 : decode cL_reads 111 = .ok (.sipush 1000, 3) := by decide +kernel
theorem dL_reads_114 : decode cL_reads 114 = .ok (.idiv, 1) := by decide +kernel
theorem dL_reads_115 : decode cL_reads 115 = .ok (.invokestatic 123, 3) := by decide +kernel
theorem dL_reads_118 : decode cL_reads 118 = .ok (.istore 10, 2) := by decide +kernel
theorem dL_reads_120 : decode cL_reads 120 = .ok (.iload 8, 2) := by decide +kernel
theorem dL_reads_122 : decode cL_reads 122 = .ok (.aload 5, 2) := by decide +kernel
theorem dL_reads_124 : decode cL_reads 124 = .ok (.iconst 0, 1) := by decide +kernel
theorem dL_reads_125 : decode cL_reads 125 = .ok (.iaload, 1) := by decide +kernel
theorem dL_reads_126 : decode cL_reads 126 = .ok (.iadd, 1) := by decide +kernel
theorem dL_reads_127 : decode cL_reads 127 = .ok (.iconst 5, 1) := by decide +kernel
theorem dL_reads_128 : decode cL_reads 128 = .ok (.irem, 1) := by decide +kernel
theorem dL_reads_129 : decode cL_reads 129 = .ok (.ifCond .ne 16, 3) := by decide +kernel
theorem dL_reads_132 : decode cL_reads 132 = .ok (.iload 9, 2) := by decide +kernel
theorem dL_reads_134 : decode cL_reads 134 = .ok (.aload_n 0, 1) := by decide +kernel
theorem dL_reads_135 : decode cL_reads 135 = .ok (.iload 6, 2) := by decide +kernel
theorem dL_reads_137 : decode cL_reads 137 = .ok (.iload 8, 2) := by decide +kernel
theorem dL_reads_139 : decode cL_reads 139 = .ok (.invokestatic 127, 3) := by decide +kernel
theorem dL_reads_142 : decode cL_reads 142 = .ok (.if_icmp .ne 52, 3) := by decide +kernel
theorem dL_reads_145 : decode cL_reads 145 = .ok (.aload_n 1, 1) := by decide +kernel
theorem dL_reads_146 : decode cL_reads 146 = .ok (.iload 9, 2) := by decide +kernel
theorem dL_reads_148 : decode cL_reads 148 = .ok (.sipush 1000, 3) := by decide +kernel
theorem dL_reads_151 : decode cL_reads 151 = .ok (.idiv, 1) := by decide +kernel
theorem dL_reads_152 : decode cL_reads 152 = .ok (.invokestatic 129, 3) := by decide +kernel
theorem dL_reads_155 : decode cL_reads 155 = .ok (.iload 6, 2) := by decide +kernel
theorem dL_reads_157 : decode cL_reads 157 = .ok (.if_icmp .ne 37, 3) := by decide +kernel
theorem dL_reads_160 : decode cL_reads 160 = .ok (.aload_n 0, 1) := by decide +kernel
theorem dL_reads_161 : decode cL_reads 161 = .ok (.iload 6, 2) := by decide +kernel
theorem dL_reads_163 : decode cL_reads 163 = .ok (.iload 8, 2) := by decide +kernel
theorem dL_reads_165 : decode cL_reads 165 = .ok (.iconst 0, 1) := by decide +kernel
theorem dL_reads_166 : decode cL_reads 166 = .ok (.invokestatic 118, 3) := by decide +kernel
theorem dL_reads_169 : decode cL_reads 169 = .ok (.iload 9, 2) := by decide +kernel
theorem dL_reads_171 : decode cL_reads 171 = .ok (.sipush 1000, 3) := by decide +kernel
theorem dL_reads_174 : decode cL_reads 174 = .ok (.irem, 1) := by decide +kernel
theorem dL_reads_175 : decode cL_reads 175 = .ok (.if_icmp .ne 19, 3) := by decide +kernel
theorem dL_reads_178 : decode cL_reads 178 = .ok (.iload 10, 2) := by decide +kernel
theorem dL_reads_180 : decode cL_reads 180 = .ok (.ifCond .lt 16, 3) := by decide +kernel
theorem dL_reads_183 : decode cL_reads 183 = .ok (.aload_n 1, 1) := by decide +kernel
theorem dL_reads_184 : decode cL_reads 184 = .ok (.aload 7, 2) := by decide +kernel
theorem dL_reads_186 : decode cL_reads 186 = .ok (.iload 8, 2) := by decide +kernel
theorem dL_reads_188 : decode cL_reads 188 = .ok (.invokestatic 132, 3) := by decide +kernel
theorem dL_reads_191 : decode cL_reads 191 = .ok (.ifCond .ge 5, 3) := by decide +kernel
theorem dL_reads_194 : decode cL_reads 194 = .ok (.iconst 0, 1) := by decide +kernel
theorem dL_reads_195 : decode cL_reads 195 = .ok (.ireturn, 1) := by decide +kernel
theorem dL_reads_196 : decode cL_reads 196 = .ok (.iload 8, 2) := by decide +kernel
theorem dL_reads_198 : decode cL_reads 198 = .ok (.iconst 1, 1) := by decide +kernel
theorem dL_reads_199 : decode cL_reads 199 = .ok (.isub, 1) := by decide +kernel
theorem dL_reads_200 : decode cL_reads 200 = .ok (.istore 11, 2) := by decide +kernel
theorem dL_reads_202 : decode cL_reads 202 = .ok (.iload 11, 2) := by decide +kernel
theorem dL_reads_204 : decode cL_reads 204 = .ok (.ifCond .lt 34, 3) := by decide +kernel
theorem dL_reads_207 : decode cL_reads 207 = .ok (.aload_n 1, 1) := by decide +kernel
theorem dL_reads_208 : decode cL_reads 208 = .ok (.aload 7, 2) := by decide +kernel
theorem dL_reads_210 : decode cL_reads 210 = .ok (.iload 11, 2) := by decide +kernel
theorem dL_reads_212 : decode cL_reads 212 = .ok (.laload, 1) := by decide +kernel
theorem dL_reads_213 : decode cL_reads 213 = .ok (.invokestatic 136, 3) := by decide +kernel
theorem dL_reads_216 : decode cL_reads 216 = .ok (.invokestatic 140, 3) := by decide +kernel
theorem dL_reads_219 : decode cL_reads 219 = .ok (.aload_n 1, 1) := by decide +kernel
theorem dL_reads_220 : decode cL_reads 220 = .ok (.iload 9, 2) := by decide +kernel
theorem dL_reads_222 : decode cL_reads 222 = .ok (.sipush 1000, 3) := by decide +kernel
theorem dL_reads_225 : decode cL_reads 225 = .ok (.idiv, 1) := by decide +kernel
theorem dL_reads_226 : decode cL_reads 226 = .ok (.invokestatic 140, 3) := by decide +kernel
theorem dL_reads_229 : decode cL_reads 229 = .ok (.if_icmp .le 9, 3) := by decide +kernel
theorem dL_reads_232 : decode cL_reads 232 = .ok (.iinc 11 (-1), 3) := by decide +kernel
theorem dL_reads_235 : decode cL_reads 235 = .ok (.goto (-33), 3) := by decide +kernel
theorem dL_reads_238 : decode cL_reads 238 = .ok (.iload 11, 2) := by decide +kernel
theorem dL_reads_240 : decode cL_reads 240 = .ok (.ifCond .lt 32, 3) := by decide +kernel
theorem dL_reads_243 : decode cL_reads 243 = .ok (.aload_n 1, 1) := by decide +kernel
theorem dL_reads_244 : decode cL_reads 244 = .ok (.aload 7, 2) := by decide +kernel
theorem dL_reads_246 : decode cL_reads 246 = .ok (.iload 11, 2) := by decide +kernel
theorem dL_reads_248 : decode cL_reads 248 = .ok (.laload, 1) := by decide +kernel
theorem dL_reads_249 : decode cL_reads 249 = .ok (.invokestatic 136, 3) := by decide +kernel
theorem dL_reads_252 : decode cL_reads 252 = .ok (.invokestatic 140, 3) := by decide +kernel
theorem dL_reads_255 : decode cL_reads 255 = .ok (.aload_n 1, 1) := by decide +kernel
theorem dL_reads_256 : decode cL_reads 256 = .ok (.iload 9, 2) := by decide +kernel
theorem dL_reads_258 : decode cL_reads 258 = .ok (.sipush 1000, 3) := by decide +kernel
theorem dL_reads_261 : decode cL_reads 261 = .ok (.idiv, 1) := by decide +kernel
theorem dL_reads_262 : decode cL_reads 262 = .ok (.invokestatic 140, 3) := by decide +kernel
theorem dL_reads_265 : decode cL_reads 265 = .ok (.if_icmp .ne 7, 3) := by decide +kernel
theorem dL_reads_268 : decode cL_reads 268 = .ok (.iconst 1, 1) := by decide +kernel
theorem dL_reads_269 : decode cL_reads 269 = .ok (.goto 4, 3) := by decide +kernel
theorem dL_reads_272 : decode cL_reads 272 = .ok (.iconst 0, 1) := by decide +kernel
theorem dL_reads_273 : decode cL_reads 273 = .ok (.istore 12, 2) := by decide +kernel
theorem dL_reads_275 : decode cL_reads 275 = .ok (.aload_n 1, 1) := by decide +kernel
theorem dL_reads_276 : decode cL_reads 276 = .ok (.iload 9, 2) := by decide +kernel
theorem dL_reads_278 : decode cL_reads 278 = .ok (.sipush 1000, 3) := by decide +kernel
theorem dL_reads_281 : decode cL_reads 281 = .ok (.idiv, 1) := by decide +kernel
theorem dL_reads_282 : decode cL_reads 282 = .ok (.iaload, 1) := by decide +kernel
theorem dL_reads_283 : decode cL_reads 283 = .ok (.bipush 64, 2) := by decide +kernel
theorem dL_reads_285 : decode cL_reads 285 = .ok (.idiv, 1) := by decide +kernel
theorem dL_reads_286 : decode cL_reads 286 = .ok (.iconst 4, 1) := by decide +kernel
theorem dL_reads_287 : decode cL_reads 287 = .ok (.irem, 1) := by decide +kernel
theorem dL_reads_288 : decode cL_reads 288 = .ok (.istore 13, 2) := by decide +kernel
theorem dL_reads_290 : decode cL_reads 290 = .ok (.iload 12, 2) := by decide +kernel
theorem dL_reads_292 : decode cL_reads 292 = .ok (.ifCond .eq 74, 3) := by decide +kernel
theorem dL_reads_295 : decode cL_reads 295 = .ok (.aload 7, 2) := by decide +kernel
theorem dL_reads_297 : decode cL_reads 297 = .ok (.iload 11, 2) := by decide +kernel
theorem dL_reads_299 : decode cL_reads 299 = .ok (.laload, 1) := by decide +kernel
theorem dL_reads_300 : decode cL_reads 300 = .ok (.invokestatic 136, 3) := by decide +kernel
theorem dL_reads_303 : decode cL_reads 303 = .ok (.iload 9, 2) := by decide +kernel
theorem dL_reads_305 : decode cL_reads 305 = .ok (.sipush 1000, 3) := by decide +kernel
theorem dL_reads_308 : decode cL_reads 308 = .ok (.idiv, 1) := by decide +kernel
theorem dL_reads_309 : decode cL_reads 309 = .ok (.if_icmp .gt 55, 3) := by decide +kernel
theorem dL_reads_312 : decode cL_reads 312 = .ok (.aload 7, 2) := by decide +kernel
theorem dL_reads_314 : decode cL_reads 314 = .ok (.iload 11, 2) := by decide +kernel
theorem dL_reads_316 : decode cL_reads 316 = .ok (.laload, 1) := by decide +kernel
theorem dL_reads_317 : decode cL_reads 317 = .ok (.invokestatic 136, 3) := by decide +kernel
theorem dL_reads_320 : decode cL_reads 320 = .ok (.iload 9, 2) := by decide +kernel
theorem dL_reads_322 : decode cL_reads 322 = .ok (.sipush 1000, 3) := by decide +kernel
theorem dL_reads_325 : decode cL_reads 325 = .ok (.idiv, 1) := by decide +kernel
theorem dL_reads_326 : decode cL_reads 326 = .ok (.if_icmp .ne 40, 3) := by decide +kernel
theorem dL_reads_329 : decode cL_reads 329 = .ok (.iload 13, 2) := by decide +kernel
theorem dL_reads_331 : decode cL_reads 331 = .ok (.iconst 2, 1) := by decide +kernel
theorem dL_reads_332 : decode cL_reads 332 = .ok (.if_icmp .ge 34, 3) := by decide +kernel
theorem dL_reads_335 : decode cL_reads 335 = .ok (.aload 7, 2) := by decide +kernel
theorem dL_reads_337 : decode cL_reads 337 = .ok (.iload 11, 2) := by decide +kernel
theorem dL_reads_339 : decode cL_reads 339 = .ok (.laload, 1) := by decide +kernel
theorem dL_reads_340 : decode cL_reads 340 = .ok (.iconst 0, 1) := by decide +kernel
theorem dL_reads_341 : decode cL_reads 341 = .ok (.invokestatic 143, 3) := by decide +kernel
theorem dL_reads_344 : decode cL_reads 344 = .ok (.iload 9, 2) := by decide +kernel
theorem dL_reads_346 : decode cL_reads 346 = .ok (.sipush 1000, 3) := by decide +kernel
theorem dL_reads_349 : decode cL_reads 349 = .ok (.irem, 1) := by decide +kernel
theorem dL_reads_350 : decode cL_reads 350 = .ok (.isub, 1) := by decide +kernel
theorem dL_reads_351 : decode cL_reads 351 = .ok (.iload 13, 2) := by decide +kernel
theorem dL_reads_353 : decode cL_reads 353 = .ok (.ifCond .ne 7, 3) := by decide +kernel
theorem dL_reads_356 : decode cL_reads 356 = .ok (.iconst (-1), 1) := by decide +kernel
theorem dL_reads_357 : decode cL_reads 357 = .ok (.goto 4, 3) := by decide +kernel
theorem dL_reads_360 : decode cL_reads 360 = .ok (.iconst 0, 1) := by decide +kernel
theorem dL_reads_361 : decode cL_reads 361 = .ok (.if_icmp .le 5, 3) := by decide +kernel
theorem dL_reads_364 : decode cL_reads 364 = .ok (.iconst 0, 1) := by decide +kernel
theorem dL_reads_365 : decode cL_reads 365 = .ok (.ireturn, 1) := by decide +kernel
theorem dL_reads_366 : decode cL_reads 366 = .ok (.iinc 8 1, 3) := by decide +kernel
theorem dL_reads_369 : decode cL_reads 369 = .ok (.goto (-335), 3) := by decide +kernel
theorem dL_reads_372 : decode cL_reads 372 = .ok (.iinc 6 1, 3) := by decide +kernel
theorem dL_reads_375 : decode cL_reads 375 = .ok (.goto (-372), 3) := by decide +kernel
theorem dL_reads_378 : decode cL_reads 378 = .ok (.aload 5, 2) := by decide +kernel
theorem dL_reads_380 : decode cL_reads 380 = .ok (.iconst 0, 1) := by decide +kernel
theorem dL_reads_381 : decode cL_reads 381 = .ok (.iaload, 1) := by decide +kernel
theorem dL_reads_382 : decode cL_reads 382 = .ok (.aload 5, 2) := by decide +kernel
theorem dL_reads_384 : decode cL_reads 384 = .ok (.iconst 1, 1) := by decide +kernel
theorem dL_reads_385 : decode cL_reads 385 = .ok (.iaload, 1) := by decide +kernel
theorem dL_reads_386 : decode cL_reads 386 = .ok (.iadd, 1) := by decide +kernel
theorem dL_reads_387 : decode cL_reads 387 = .ok (.aload 5, 2) := by decide +kernel
theorem dL_reads_389 : decode cL_reads 389 = .ok (.iconst 2, 1) := by decide +kernel
theorem dL_reads_390 : decode cL_reads 390 = .ok (.iaload, 1) := by decide +kernel
theorem dL_reads_391 : decode cL_reads 391 = .ok (.iadd, 1) := by decide +kernel
theorem dL_reads_392 : decode cL_reads 392 = .ok (.bipush 60, 2) := by decide +kernel
theorem dL_reads_394 : decode cL_reads 394 = .ok (.if_icmp .gt 47, 3) := by decide +kernel
theorem dL_reads_397 : decode cL_reads 397 = .ok (.aload_n 0, 1) := by decide +kernel
theorem dL_reads_398 : decode cL_reads 398 = .ok (.iconst 0, 1) := by decide +kernel
theorem dL_reads_399 : decode cL_reads 399 = .ok (.aload 5, 2) := by decide +kernel
theorem dL_reads_401 : decode cL_reads 401 = .ok (.iconst 0, 1) := by decide +kernel
theorem dL_reads_402 : decode cL_reads 402 = .ok (.iaload, 1) := by decide +kernel
theorem dL_reads_403 : decode cL_reads 403 = .ok (.invokestatic 111, 3) := by decide +kernel
theorem dL_reads_406 : decode cL_reads 406 = .ok (.ldc 18, 2) := by decide +kernel
theorem dL_reads_408 : decode cL_reads 408 = .ok (.if_icmp .ne 33, 3) := by decide +kernel
theorem dL_reads_411 : decode cL_reads 411 = .ok (.aload_n 0, 1) := by decide +kernel
theorem dL_reads_412 : decode cL_reads 412 = .ok (.iconst 1, 1) := by decide +kernel
theorem dL_reads_413 : decode cL_reads 413 = .ok (.iconst (-1), 1) := by decide +kernel
theorem dL_reads_414 : decode cL_reads 414 = .ok (.invokestatic 127, 3) := by decide +kernel
theorem dL_reads_417 : decode cL_reads 417 = .ok (.ldc 18, 2) := by decide +kernel
theorem dL_reads_419 : decode cL_reads 419 = .ok (.if_icmp .ne 22, 3) := by decide +kernel
theorem dL_reads_422 : decode cL_reads 422 = .ok (.aload_n 0, 1) := by decide +kernel
theorem dL_reads_423 : decode cL_reads 423 = .ok (.iconst 2, 1) := by decide +kernel
theorem dL_reads_424 : decode cL_reads 424 = .ok (.aload 5, 2) := by decide +kernel
theorem dL_reads_426 : decode cL_reads 426 = .ok (.iconst 2, 1) := by decide +kernel
theorem dL_reads_427 : decode cL_reads 427 = .ok (.iaload, 1) := by decide +kernel
theorem dL_reads_428 : decode cL_reads 428 = .ok (.iconst 0, 1) := by decide +kernel
theorem dL_reads_429 : decode cL_reads 429 = .ok (.invokestatic 118, 3) := by decide +kernel
theorem dL_reads_432 : decode cL_reads 432 = .ok (.ldc 18, 2) := by decide +kernel
theorem dL_reads_434 : decode cL_reads 434 = .ok (.if_icmp .ne 7, 3) := by decide +kernel
theorem dL_reads_437 : decode cL_reads 437 = .ok (.iconst 1, 1) := by decide +kernel
theorem dL_reads_438 : decode cL_reads 438 = .ok (.goto 4, 3) := by decide +kernel
theorem dL_reads_441 : decode cL_reads 441 = .ok (.iconst 0, 1) := by decide +kernel
theorem dL_reads_442 : decode cL_reads 442 = .ok (.ireturn, 1) := by decide +kernel
theorem dL_over_0 : decode cL_over 0 = .ok (.aload_n 0, 1) := by decide +kernel
theorem dL_over_1 : decode cL_over 1 = .ok (.aload_n 1, 1) := by decide +kernel
theorem dL_over_2 : decode cL_over 2 = .ok (.iload_n 2, 1) := by decide +kernel
theorem dL_over_3 : decode cL_over 3 = .ok (.laload, 1) := by decide +kernel
theorem dL_over_4 : decode cL_over 4 = .ok (.invokestatic 136, 3) := by decide +kernel
theorem dL_over_7 : decode cL_over 7 = .ok (.invokestatic 123, 3) := by decide +kernel
theorem dL_over_10 : decode cL_over 10 = .ok (.istore_n 3, 1) := by decide +kernel
theorem dL_over_11 : decode cL_over 11 = .ok (.iload_n 3, 1) := by decide +kernel
theorem dL_over_12 : decode cL_over 12 = .ok (.ifCond .ge 7, 3) := by decide +kernel
theorem dL_over_15 : decode cL_over 15 = .ok (.iconst (-1), 1) := by decide +kernel
theorem dL_over_16 : decode cL_over 16 = .ok (.goto 6, 3) := by decide +kernel
theorem dL_over_19 : decode cL_over 19 = .ok (.iload_n 2, 1) := by decide +kernel
theorem dL_over_20 : decode cL_over 20 = .ok (.iconst 1, 1) := by decide +kernel
theorem dL_over_21 : decode cL_over 21 = .ok (.isub, 1) := by decide +kernel
theorem dL_over_22 : decode cL_over 22 = .ok (.istore 4, 2) := by decide +kernel
theorem dL_over_24 : decode cL_over 24 = .ok (.iload 4, 2) := by decide +kernel
theorem dL_over_26 : decode cL_over 26 = .ok (.ifCond .lt 20, 3) := by decide +kernel
theorem dL_over_29 : decode cL_over 29 = .ok (.aload_n 1, 1) := by decide +kernel
theorem dL_over_30 : decode cL_over 30 = .ok (.iload 4, 2) := by decide +kernel
theorem dL_over_32 : decode cL_over 32 = .ok (.laload, 1) := by decide +kernel
theorem dL_over_33 : decode cL_over 33 = .ok (.invokestatic 136, 3) := by decide +kernel
theorem dL_over_36 : decode cL_over 36 = .ok (.iload_n 3, 1) := by decide +kernel
theorem dL_over_37 : decode cL_over 37 = .ok (.if_icmp .eq 9, 3) := by decide +kernel
theorem dL_over_40 : decode cL_over 40 = .ok (.iinc 4 (-1), 3) := by decide +kernel
theorem dL_over_43 : decode cL_over 43 = .ok (.goto (-19), 3) := by decide +kernel
theorem dL_over_46 : decode cL_over 46 = .ok (.iload 4, 2) := by decide +kernel
theorem dL_over_48 : decode cL_over 48 = .ok (.ireturn, 1) := by decide +kernel
theorem dL_among_0 : decode cL_among 0 = .ok (.iload_n 2, 1) := by decide +kernel
theorem dL_among_1 : decode cL_among 1 = .ok (.istore 4, 2) := by decide +kernel
theorem dL_among_3 : decode cL_among 3 = .ok (.iload 4, 2) := by decide +kernel
theorem dL_among_5 : decode cL_among 5 = .ok (.ifCond .lt 26, 3) := by decide +kernel
theorem dL_among_8 : decode cL_among 8 = .ok (.aload_n 1, 1) := by decide +kernel
theorem dL_among_9 : decode cL_among 9 = .ok (.iload 4, 2) := by decide +kernel
theorem dL_among_11 : decode cL_among 11 = .ok (.laload, 1) := by decide +kernel
theorem dL_among_12 : decode cL_among 12 = .ok (.invokestatic 136, 3) := by decide +kernel
theorem dL_among_15 : decode cL_among 15 = .ok (.iload_n 3, 1) := by decide +kernel
theorem dL_among_16 : decode cL_among 16 = .ok (.if_icmp .eq 15, 3) := by decide +kernel
theorem dL_among_19 : decode cL_among 19 = .ok (.aload_n 0, 1) := by decide +kernel
theorem dL_among_20 : decode cL_among 20 = .ok (.aload_n 1, 1) := by decide +kernel
theorem dL_among_21 : decode cL_among 21 = .ok (.iload 4, 2) := by decide +kernel
theorem dL_among_23 : decode cL_among 23 = .ok (.invokestatic 132, 3) := by decide +kernel
theorem dL_among_26 : decode cL_among 26 = .ok (.istore 4, 2) := by decide +kernel
theorem dL_among_28 : decode cL_among 28 = .ok (.goto (-25), 3) := by decide +kernel
theorem dL_among_31 : decode cL_among 31 = .ok (.iload 4, 2) := by decide +kernel
theorem dL_among_33 : decode cL_among 33 = .ok (.ireturn, 1) := by decide +kernel
theorem dL_end_0 : decode cL_end 0 = .ok (.iload_n 3, 1) := by decide +kernel
theorem dL_end_1 : decode cL_end 1 = .ok (.iconst 1, 1) := by decide +kernel
theorem dL_end_2 : decode cL_end 2 = .ok (.iadd, 1) := by decide +kernel
theorem dL_end_3 : decode cL_end 3 = .ok (.istore 4, 2) := by decide +kernel
theorem dL_end_5 : decode cL_end 5 = .ok (.iload 4, 2) := by decide +kernel
theorem dL_end_7 : decode cL_end 7 = .ok (.iload_n 2, 1) := by decide +kernel
theorem dL_end_8 : decode cL_end 8 = .ok (.if_icmp .ge 33, 3) := by decide +kernel
theorem dL_end_11 : decode cL_end 11 = .ok (.aload_n 0, 1) := by decide +kernel
theorem dL_end_12 : decode cL_end 12 = .ok (.aload_n 1, 1) := by decide +kernel
theorem dL_end_13 : decode cL_end 13 = .ok (.iload 4, 2) := by decide +kernel
theorem dL_end_15 : decode cL_end 15 = .ok (.laload, 1) := by decide +kernel
theorem dL_end_16 : decode cL_end 16 = .ok (.invokestatic 136, 3) := by decide +kernel
theorem dL_end_19 : decode cL_end 19 = .ok (.invokestatic 140, 3) := by decide +kernel
theorem dL_end_22 : decode cL_end 22 = .ok (.aload_n 0, 1) := by decide +kernel
theorem dL_end_23 : decode cL_end 23 = .ok (.aload_n 1, 1) := by decide +kernel
theorem dL_end_24 : decode cL_end 24 = .ok (.iload_n 3, 1) := by decide +kernel
theorem dL_end_25 : decode cL_end 25 = .ok (.laload, 1) := by decide +kernel
theorem dL_end_26 : decode cL_end 26 = .ok (.invokestatic 136, 3) := by decide +kernel
theorem dL_end_29 : decode cL_end 29 = .ok (.invokestatic 140, 3) := by decide +kernel
theorem dL_end_32 : decode cL_end 32 = .ok (.if_icmp .le 9, 3) := by decide +kernel
theorem dL_end_35 : decode cL_end 35 = .ok (.iinc 4 1, 3) := by decide +kernel
theorem dL_end_38 : decode cL_end 38 = .ok (.goto (-33), 3) := by decide +kernel
theorem dL_end_41 : decode cL_end 41 = .ok (.iload 4, 2) := by decide +kernel
theorem dL_end_43 : decode cL_end 43 = .ok (.ireturn, 1) := by decide +kernel
theorem dL_rootOf_0 : decode cL_rootOf 0 = .ok (.aload_n 0, 1) := by decide +kernel
theorem dL_rootOf_1 : decode cL_rootOf 1 = .ok (.iload 5, 2) := by decide +kernel
theorem dL_rootOf_3 : decode cL_rootOf 3 = .ok (.invokestatic 129, 3) := by decide +kernel
theorem dL_rootOf_6 : decode cL_rootOf 6 = .ok (.aload_n 1, 1) := by decide +kernel
theorem dL_rootOf_7 : decode cL_rootOf 7 = .ok (.aload_n 2, 1) := by decide +kernel
theorem dL_rootOf_8 : decode cL_rootOf 8 = .ok (.aload_n 3, 1) := by decide +kernel
theorem dL_rootOf_9 : decode cL_rootOf 9 = .ok (.invokestatic 102, 3) := by decide +kernel
theorem dL_rootOf_12 : decode cL_rootOf 12 = .ok (.astore 7, 2) := by decide +kernel
theorem dL_rootOf_14 : decode cL_rootOf 14 = .ok (.iconst 0, 1) := by decide +kernel
theorem dL_rootOf_15 : decode cL_rootOf 15 = .ok (.istore 8, 2) := by decide +kernel
theorem dL_rootOf_17 : decode cL_rootOf 17 = .ok (.iload 8, 2) := by decide +kernel
theorem dL_rootOf_19 : decode cL_rootOf 19 = .ok (.aload 4, 2) := by decide +kernel
theorem dL_rootOf_21 : decode cL_rootOf 21 = .ok (.aload_n 0, 1) := by decide +kernel
theorem dL_rootOf_22 : decode cL_rootOf 22 = .ok (.iload 5, 2) := by decide +kernel
theorem dL_rootOf_24 : decode cL_rootOf 24 = .ok (.invokestatic 129, 3) := by decide +kernel
theorem dL_rootOf_27 : decode cL_rootOf 27 = .ok (.iaload, 1) := by decide +kernel
theorem dL_rootOf_28 : decode cL_rootOf 28 = .ok (.if_icmp .ge 39, 3) := by decide +kernel
theorem dL_rootOf_31 : decode cL_rootOf 31 = .ok (.aload 7, 2) := by decide +kernel
theorem dL_rootOf_33 : decode cL_rootOf 33 = .ok (.iload 8, 2) := by decide +kernel
theorem dL_rootOf_35 : decode cL_rootOf 35 = .ok (.laload, 1) := by decide +kernel
theorem dL_rootOf_36 : decode cL_rootOf 36 = .ok (.invokestatic 136, 3) := by decide +kernel
theorem dL_rootOf_39 : decode cL_rootOf 39 = .ok (.iload 5, 2) := by decide +kernel
theorem dL_rootOf_41 : decode cL_rootOf 41 = .ok (.if_icmp .ne 20, 3) := by decide +kernel
theorem dL_rootOf_44 : decode cL_rootOf 44 = .ok (.aload 7, 2) := by decide +kernel
theorem dL_rootOf_46 : decode cL_rootOf 46 = .ok (.iload 8, 2) := by decide +kernel
theorem dL_rootOf_48 : decode cL_rootOf 48 = .ok (.laload, 1) := by decide +kernel
theorem dL_rootOf_49 : decode cL_rootOf 49 = .ok (.iconst 0, 1) := by decide +kernel
theorem dL_rootOf_50 : decode cL_rootOf 50 = .ok (.invokestatic 143, 3) := by decide +kernel
theorem dL_rootOf_53 : decode cL_rootOf 53 = .ok (.iload 6, 2) := by decide +kernel
theorem dL_rootOf_55 : decode cL_rootOf 55 = .ok (.if_icmp .ne 6, 3) := by decide +kernel
theorem dL_rootOf_58 : decode cL_rootOf 58 = .ok (.iload 8, 2) := by decide +kernel
theorem dL_rootOf_60 : decode cL_rootOf 60 = .ok (.ireturn, 1) := by decide +kernel
theorem dL_rootOf_61 : decode cL_rootOf 61 = .ok (.iinc 8 1, 3) := by decide +kernel
theorem dL_rootOf_64 : decode cL_rootOf 64 = .ok (.goto (-47), 3) := by decide +kernel
theorem dL_rootOf_67 : decode cL_rootOf 67 = .ok (.iconst (-1), 1) := by decide +kernel
theorem dL_rootOf_68 : decode cL_rootOf 68 = .ok (.ireturn, 1) := by decide +kernel
theorem dL_fulfils_0 : decode cL_fulfils 0 = .ok (.iconst 0, 1) := by decide +kernel
theorem dL_fulfils_1 : decode cL_fulfils 1 = .ok (.istore 4, 2) := by decide +kernel
theorem dL_fulfils_3 : decode cL_fulfils 3 = .ok (.iconst 1, 1) := by decide +kernel
theorem dL_fulfils_4 : decode cL_fulfils 4 = .ok (.istore 5, 2) := by decide +kernel
theorem dL_fulfils_6 : decode cL_fulfils 6 = .ok (.iconst 0, 1) := by decide +kernel
theorem dL_fulfils_7 : decode cL_fulfils 7 = .ok (.istore 6, 2) := by decide +kernel
theorem dL_fulfils_9 : decode cL_fulfils 9 = .ok (.iload 6, 2) := by decide +kernel
theorem dL_fulfils_11 : decode cL_fulfils 11 = .ok (.lload_n 2, 1) := by decide +kernel
theorem dL_fulfils_12 : decode cL_fulfils 12 = .ok (.ldc2_w 147, 3) := by decide +kernel
theorem dL_fulfils_15 : decode cL_fulfils 15 = .ok (.land, 1) := by decide +kernel
theorem dL_fulfils_16 : decode cL_fulfils 16 = .ok (.l2i, 1) := by decide +kernel
theorem dL_fulfils_17 : decode cL_fulfils 17 = .ok (.if_icmp .ge 231, 3) := by decide +kernel
theorem dL_fulfils_20 : decode cL_fulfils 20 = .ok (.lload_n 2, 1) := by decide +kernel
theorem dL_fulfils_21 : decode cL_fulfils 21 = .ok (.iconst 2, 1) := by decide +kernel
theorem dL_fulfils_22 : decode cL_fulfils 22 = .ok (.bipush 16, 2) := by decide +kernel
theorem dL_fulfils_24 : decode cL_fulfils 24 = .ok (.iload 6, 2) := by decide +kernel
theorem dL_fulfils_26 : decode cL_fulfils 26 = .ok (.imul, 1) := by decide +kernel
theorem dL_fulfils_27 : decode cL_fulfils 27 = .ok (.iadd, 1) := by decide +kernel
theorem dL_fulfils_28 : decode cL_fulfils 28 = .ok (.lshr, 1) := by decide +kernel
theorem dL_fulfils_29 : decode cL_fulfils 29 = .ok (.ldc2_w 149, 3) := by decide +kernel
theorem dL_fulfils_32 : decode cL_fulfils 32 = .ok (.land, 1) := by decide +kernel
theorem dL_fulfils_33 : decode cL_fulfils 33 = .ok (.l2i, 1) := by decide +kernel
theorem dL_fulfils_34 : decode cL_fulfils 34 = .ok (.istore 7, 2) := by decide +kernel
theorem dL_fulfils_36 : decode cL_fulfils 36 = .ok (.lload_n 0, 1) := by decide +kernel
theorem dL_fulfils_37 : decode cL_fulfils 37 = .ok (.iload 7, 2) := by decide +kernel
theorem dL_fulfils_39 : decode cL_fulfils 39 = .ok (.iconst 2, 1) := by decide +kernel
theorem dL_fulfils_40 : decode cL_fulfils 40 = .ok (.idiv, 1) := by decide +kernel
theorem dL_fulfils_41 : decode cL_fulfils 41 = .ok (.iconst 4, 1) := by decide +kernel
theorem dL_fulfils_42 : decode cL_fulfils 42 = .ok (.irem, 1) := by decide +kernel
theorem dL_fulfils_43 : decode cL_fulfils 43 = .ok (.invokestatic 143, 3) := by decide +kernel
theorem dL_fulfils_46 : decode cL_fulfils 46 = .ok (.istore 8, 2) := by decide +kernel
theorem dL_fulfils_48 : decode cL_fulfils 48 = .ok (.iload 7, 2) := by decide +kernel
theorem dL_fulfils_50 : decode cL_fulfils 50 = .ok (.bipush 64, 2) := by decide +kernel
theorem dL_fulfils_52 : decode cL_fulfils 52 = .ok (.idiv, 1) := by decide +kernel
theorem dL_fulfils_53 : decode cL_fulfils 53 = .ok (.istore 9, 2) := by decide +kernel
theorem dL_fulfils_55 : decode cL_fulfils 55 = .ok (.iload 7, 2) := by decide +kernel
theorem dL_fulfils_57 : decode cL_fulfils 57 = .ok (.bipush 8, 2) := by decide +kernel
theorem dL_fulfils_59 : decode cL_fulfils 59 = .ok (.idiv, 1) := by decide +kernel
theorem dL_fulfils_60 : decode cL_fulfils 60 = .ok (.bipush 8, 2) := by decide +kernel
theorem dL_fulfils_62 : decode cL_fulfils 62 = .ok (.irem, 1) := by decide +kernel
theorem dL_fulfils_63 : decode cL_fulfils 63 = .ok (.istore 10, 2) := by decide +kernel
theorem dL_fulfils_65 : decode cL_fulfils 65 = .ok (.iload 10, 2) := by decide +kernel
theorem dL_fulfils_67 : decode cL_fulfils 67 = .ok (.ifCond .ne 18, 3) := by decide +kernel
theorem dL_fulfils_70 : decode cL_fulfils 70 = .ok (.iload 8, 2) := by decide +kernel
theorem dL_fulfils_72 : decode cL_fulfils 72 = .ok (.iload 9, 2) := by decide +kernel
theorem dL_fulfils_74 : decode cL_fulfils 74 = .ok (.if_icmp .ne 7, 3) := by decide +kernel
theorem dL_fulfils_77 : decode cL_fulfils 77 = .ok (.iconst 1, 1) := by decide +kernel
theorem dL_fulfils_78 : decode cL_fulfils 78 = .ok (.goto 103, 3) := by decide +kernel
theorem dL_fulfils_81 : decode cL_fulfils 81 = .ok (.iconst 0, 1) := by decide +kernel
theorem dL_fulfils_82 : decode cL_fulfils 82 = .ok (.goto 99, 3) := by decide +kernel
theorem dL_fulfils_85 : decode cL_fulfils 85 = .ok (.iload 10, 2) := by decide +kernel
theorem dL_fulfils_87 : decode cL_fulfils 87 = .ok (.iconst 1, 1) := by decide +kernel
theorem dL_fulfils_88 : decode cL_fulfils 88 = .ok (.if_icmp .ne 18, 3) := by decide +kernel
theorem dL_fulfils_91 : decode cL_fulfils 91 = .ok (.iload 8, 2) := by decide +kernel
theorem dL_fulfils_93 : decode cL_fulfils 93 = .ok (.iload 9, 2) := by decide +kernel
theorem dL_fulfils_95 : decode cL_fulfils 95 = .ok (.if_icmp .eq 7, 3) := by decide +kernel
theorem dL_fulfils_98 : decode cL_fulfils 98 = .ok (.iconst 1, 1) := by decide +kernel
theorem dL_fulfils_99 : decode cL_fulfils 99 = .ok (.goto 82, 3) := by decide +kernel
theorem dL_fulfils_102 : decode cL_fulfils 102 = .ok (.iconst 0, 1) := by decide +kernel
theorem dL_fulfils_103 : decode cL_fulfils 103 = .ok (.goto 78, 3) := by decide +kernel
theorem dL_fulfils_106 : decode cL_fulfils 106 = .ok (.iload 10, 2) := by decide +kernel
theorem dL_fulfils_108 : decode cL_fulfils 108 = .ok (.iconst 2, 1) := by decide +kernel
theorem dL_fulfils_109 : decode cL_fulfils 109 = .ok (.if_icmp .ne 18, 3) := by decide +kernel
theorem dL_fulfils_112 : decode cL_fulfils 112 = .ok (.iload 8, 2) := by decide +kernel
theorem dL_fulfils_114 : decode cL_fulfils 114 = .ok (.iload 9, 2) := by decide +kernel
theorem dL_fulfils_116 : decode cL_fulfils 116 = .ok (.if_icmp .ge 7, 3) := by decide +kernel
theorem dL_fulfils_119 : decode cL_fulfils 119 = .ok (.iconst 1, 1) := by decide +kernel
theorem dL_fulfils_120 : decode cL_fulfils 120 = .ok (.goto 61, 3) := by decide +kernel
theorem dL_fulfils_123 : decode cL_fulfils 123 = .ok (.iconst 0, 1) := by decide +kernel
theorem dL_fulfils_124 : decode cL_fulfils 124 = .ok (.goto 57, 3) := by decide +kernel
theorem dL_fulfils_127 : decode cL_fulfils 127 = .ok (.iload 10, 2) := by decide +kernel
theorem dL_fulfils_129 : decode cL_fulfils 129 = .ok (.iconst 3, 1) := by decide +kernel
theorem dL_fulfils_130 : decode cL_fulfils 130 = .ok (.if_icmp .ne 18, 3) := by decide +kernel
theorem dL_fulfils_133 : decode cL_fulfils 133 = .ok (.iload 8, 2) := by decide +kernel
theorem dL_fulfils_135 : decode cL_fulfils 135 = .ok (.iload 9, 2) := by decide +kernel
theorem dL_fulfils_137 : decode cL_fulfils 137 = .ok (.if_icmp .gt 7, 3) := by decide +kernel
theorem dL_fulfils_140 : decode cL_fulfils 140 = .ok (.iconst 1, 1) := by decide +kernel
theorem dL_fulfils_141 : decode cL_fulfils 141 = .ok (.goto 40, 3) := by decide +kernel
theorem dL_fulfils_144 : decode cL_fulfils 144 = .ok (.iconst 0, 1) := by decide +kernel
theorem dL_fulfils_145 : decode cL_fulfils 145 = .ok (.goto 36, 3) := by decide +kernel
theorem dL_fulfils_148 : decode cL_fulfils 148 = .ok (.iload 10, 2) := by decide +kernel
theorem dL_fulfils_150 : decode cL_fulfils 150 = .ok (.iconst 4, 1) := by decide +kernel
theorem dL_fulfils_151 : decode cL_fulfils 151 = .ok (.if_icmp .ne 18, 3) := by decide +kernel
theorem dL_fulfils_154 : decode cL_fulfils 154 = .ok (.iload 8, 2) := by decide +kernel
theorem dL_fulfils_156 : decode cL_fulfils 156 = .ok (.iload 9, 2) := by decide +kernel
theorem dL_fulfils_158 : decode cL_fulfils 158 = .ok (.if_icmp .le 7, 3) := by decide +kernel
theorem dL_fulfils_161 : decode cL_fulfils 161 = .ok (.iconst 1, 1) := by decide +kernel
theorem dL_fulfils_162 : decode cL_fulfils 162 = .ok (.goto 19, 3) := by decide +kernel
theorem dL_fulfils_165 : decode cL_fulfils 165 = .ok (.iconst 0, 1) := by decide +kernel
theorem dL_fulfils_166 : decode cL_fulfils 166 = .ok (.goto 15, 3) := by decide +kernel
theorem dL_fulfils_169 : decode cL_fulfils 169 = .ok (.iload 8, 2) := by decide +kernel
theorem dL_fulfils_171 : decode cL_fulfils 171 = .ok (.iload 9, 2) := by decide +kernel
theorem dL_fulfils_173 : decode cL_fulfils 173 = .ok (.if_icmp .lt 7, 3) := by decide +kernel
theorem dL_fulfils_176 : decode cL_fulfils 176 = .ok (.iconst 1, 1) := by decide +kernel
theorem dL_fulfils_177 : decode cL_fulfils 177 = .ok (.goto 4, 3) := by decide +kernel
theorem dL_fulfils_180 : decode cL_fulfils 180 = .ok (.iconst 0, 1) := by decide +kernel
theorem dL_fulfils_181 : decode cL_fulfils 181 = .ok (.istore 11, 2) := by decide +kernel
theorem dL_fulfils_183 : decode cL_fulfils 183 = .ok (.iload 4, 2) := by decide +kernel
theorem dL_fulfils_185 : decode cL_fulfils 185 = .ok (.ifCond .ne 21, 3) := by decide +kernel
theorem dL_fulfils_188 : decode cL_fulfils 188 = .ok (.iload 6, 2) := by decide +kernel
theorem dL_fulfils_190 : decode cL_fulfils 190 = .ok (.ifCond .le 20, 3) := by decide +kernel
theorem dL_fulfils_193 : decode cL_fulfils 193 = .ok (.iload 7, 2) := by decide +kernel
theorem dL_fulfils_195 : decode cL_fulfils 195 = .ok (.iconst 2, 1) := by decide +kernel
theorem dL_fulfils_196 : decode cL_fulfils 196 = .ok (.irem, 1) := by decide +kernel
theorem dL_fulfils_197 : decode cL_fulfils 197 = .ok (.iconst 1, 1) := by decide +kernel
theorem dL_fulfils_198 : decode cL_fulfils 198 = .ok (.if_icmp .ne 12, 3) := by decide +kernel
theorem dL_fulfils_201 : decode cL_fulfils 201 = .ok (.iload 5, 2) := by decide +kernel
theorem dL_fulfils_203 : decode cL_fulfils 203 = .ok (.ifCond .eq 7, 3) := by decide +kernel
theorem dL_fulfils_206 : decode cL_fulfils 206 = .ok (.iconst 1, 1) := by decide +kernel
theorem dL_fulfils_207 : decode cL_fulfils 207 = .ok (.goto 4, 3) := by decide +kernel
theorem dL_fulfils_210 : decode cL_fulfils 210 = .ok (.iconst 0, 1) := by decide +kernel
theorem dL_fulfils_211 : decode cL_fulfils 211 = .ok (.istore 4, 2) := by decide +kernel
theorem dL_fulfils_213 : decode cL_fulfils 213 = .ok (.iload 6, 2) := by decide +kernel
theorem dL_fulfils_215 : decode cL_fulfils 215 = .ok (.ifCond .le 15, 3) := by decide +kernel
theorem dL_fulfils_218 : decode cL_fulfils 218 = .ok (.iload 7, 2) := by decide +kernel
theorem dL_fulfils_220 : decode cL_fulfils 220 = .ok (.iconst 2, 1) := by decide +kernel
theorem dL_fulfils_221 : decode cL_fulfils 221 = .ok (.irem, 1) := by decide +kernel
theorem dL_fulfils_222 : decode cL_fulfils 222 = .ok (.ifCond .ne 8, 3) := by decide +kernel
theorem dL_fulfils_225 : decode cL_fulfils 225 = .ok (.iload 5, 2) := by decide +kernel
theorem dL_fulfils_227 : decode cL_fulfils 227 = .ok (.ifCond .eq 12, 3) := by decide +kernel
theorem dL_fulfils_230 : decode cL_fulfils 230 = .ok (.iload 11, 2) := by decide +kernel
theorem dL_fulfils_232 : decode cL_fulfils 232 = .ok (.ifCond .eq 7, 3) := by decide +kernel
theorem dL_fulfils_235 : decode cL_fulfils 235 = .ok (.iconst 1, 1) := by decide +kernel
theorem dL_fulfils_236 : decode cL_fulfils 236 = .ok (.goto 4, 3) := by decide +kernel
theorem dL_fulfils_239 : decode cL_fulfils 239 = .ok (.iconst 0, 1) := by decide +kernel
theorem dL_fulfils_240 : decode cL_fulfils 240 = .ok (.istore 5, 2) := by decide +kernel
theorem dL_fulfils_242 : decode cL_fulfils 242 = .ok (.iinc 6 1, 3) := by decide +kernel
theorem dL_fulfils_245 : decode cL_fulfils 245 = .ok (.goto (-236), 3) := by decide +kernel
theorem dL_fulfils_248 : decode cL_fulfils 248 = .ok (.iload 4, 2) := by decide +kernel
theorem dL_fulfils_250 : decode cL_fulfils 250 = .ok (.ifCond .ne 8, 3) := by decide +kernel
theorem dL_fulfils_253 : decode cL_fulfils 253 = .ok (.iload 5, 2) := by decide +kernel
theorem dL_fulfils_255 : decode cL_fulfils 255 = .ok (.ifCond .eq 7, 3) := by decide +kernel
theorem dL_fulfils_258 : decode cL_fulfils 258 = .ok (.iconst 1, 1) := by decide +kernel
theorem dL_fulfils_259 : decode cL_fulfils 259 = .ok (.goto 4, 3) := by decide +kernel
theorem dL_fulfils_262 : decode cL_fulfils 262 = .ok (.iconst 0, 1) := by decide +kernel
theorem dL_fulfils_263 : decode cL_fulfils 263 = .ok (.ireturn, 1) := by decide +kernel
theorem dL_sees_0 : decode cL_sees 0 = .ok (.iload_n 2, 1) := by decide +kernel
theorem dL_sees_1 : decode cL_sees 1 = .ok (.istore_n 3, 1) := by decide +kernel
theorem dL_sees_2 : decode cL_sees 2 = .ok (.aload_n 0, 1) := by decide +kernel
theorem dL_sees_3 : decode cL_sees 3 = .ok (.iload_n 2, 1) := by decide +kernel
theorem dL_sees_4 : decode cL_sees 4 = .ok (.invokestatic 129, 3) := by decide +kernel
theorem dL_sees_7 : decode cL_sees 7 = .ok (.iload_n 1, 1) := by decide +kernel
theorem dL_sees_8 : decode cL_sees 8 = .ok (.iconst 4, 1) := by decide +kernel
theorem dL_sees_9 : decode cL_sees 9 = .ok (.irem, 1) := by decide +kernel
theorem dL_sees_10 : decode cL_sees 10 = .ok (.if_icmp .ne 7, 3) := by decide +kernel
theorem dL_sees_13 : decode cL_sees 13 = .ok (.iconst 1, 1) := by decide +kernel
theorem dL_sees_14 : decode cL_sees 14 = .ok (.goto 4, 3) := by decide +kernel
theorem dL_sees_17 : decode cL_sees 17 = .ok (.iconst 0, 1) := by decide +kernel
theorem dL_sees_18 : decode cL_sees 18 = .ok (.istore 4, 2) := by decide +kernel
theorem dL_sees_20 : decode cL_sees 20 = .ok (.iload_n 3, 1) := by decide +kernel
theorem dL_sees_21 : decode cL_sees 21 = .ok (.ifCond .lt 35, 3) := by decide +kernel
theorem dL_sees_24 : decode cL_sees 24 = .ok (.iload 4, 2) := by decide +kernel
theorem dL_sees_26 : decode cL_sees 26 = .ok (.ifCond .eq 18, 3) := by decide +kernel
theorem dL_sees_29 : decode cL_sees 29 = .ok (.iload_n 1, 1) := by decide +kernel
theorem dL_sees_30 : decode cL_sees 30 = .ok (.iconst 4, 1) := by decide +kernel
theorem dL_sees_31 : decode cL_sees 31 = .ok (.idiv, 1) := by decide +kernel
theorem dL_sees_32 : decode cL_sees 32 = .ok (.iload_n 3, 1) := by decide +kernel
theorem dL_sees_33 : decode cL_sees 33 = .ok (.ishr, 1) := by decide +kernel
theorem dL_sees_34 : decode cL_sees 34 = .ok (.iconst 1, 1) := by decide +kernel
theorem dL_sees_35 : decode cL_sees 35 = .ok (.iand, 1) := by decide +kernel
theorem dL_sees_36 : decode cL_sees 36 = .ok (.iconst 1, 1) := by decide +kernel
theorem dL_sees_37 : decode cL_sees 37 = .ok (.if_icmp .ne 7, 3) := by decide +kernel
theorem dL_sees_40 : decode cL_sees 40 = .ok (.iconst 1, 1) := by decide +kernel
theorem dL_sees_41 : decode cL_sees 41 = .ok (.goto 4, 3) := by decide +kernel
theorem dL_sees_44 : decode cL_sees 44 = .ok (.iconst 0, 1) := by decide +kernel
theorem dL_sees_45 : decode cL_sees 45 = .ok (.istore 4, 2) := by decide +kernel
theorem dL_sees_47 : decode cL_sees 47 = .ok (.aload_n 0, 1) := by decide +kernel
theorem dL_sees_48 : decode cL_sees 48 = .ok (.iload_n 3, 1) := by decide +kernel
theorem dL_sees_49 : decode cL_sees 49 = .ok (.invokestatic 123, 3) := by decide +kernel
theorem dL_sees_52 : decode cL_sees 52 = .ok (.istore_n 3, 1) := by decide +kernel
theorem dL_sees_53 : decode cL_sees 53 = .ok (.goto (-33), 3) := by decide +kernel
theorem dL_sees_56 : decode cL_sees 56 = .ok (.iload 4, 2) := by decide +kernel
theorem dL_sees_58 : decode cL_sees 58 = .ok (.ireturn, 1) := by decide +kernel
theorem dL_isList_0 : decode cL_isList 0 = .ok (.iconst 0, 1) := by decide +kernel
theorem dL_isList_1 : decode cL_isList 1 = .ok (.istore 4, 2) := by decide +kernel
theorem dL_isList_3 : decode cL_isList 3 = .ok (.iload 4, 2) := by decide +kernel
theorem dL_isList_5 : decode cL_isList 5 = .ok (.aload_n 2, 1) := by decide +kernel
theorem dL_isList_6 : decode cL_isList 6 = .ok (.iconst 1, 1) := by decide +kernel
theorem dL_isList_7 : decode cL_isList 7 = .ok (.iaload, 1) := by decide +kernel
theorem dL_isList_8 : decode cL_isList 8 = .ok (.if_icmp .ge 99, 3) := by decide +kernel
theorem dL_isList_11 : decode cL_isList 11 = .ok (.aload_n 1, 1) := by decide +kernel
theorem dL_isList_12 : decode cL_isList 12 = .ok (.iload 4, 2) := by decide +kernel
theorem dL_isList_14 : decode cL_isList 14 = .ok (.iaload, 1) := by decide +kernel
theorem dL_isList_15 : decode cL_isList 15 = .ok (.bipush 16, 2) := by decide +kernel
theorem dL_isList_17 : decode cL_isList 17 = .ok (.irem, 1) := by decide +kernel
theorem dL_isList_18 : decode cL_isList 18 = .ok (.istore 5, 2) := by decide +kernel
theorem dL_isList_20 : decode cL_isList 20 = .ok (.iload 4, 2) := by decide +kernel
theorem dL_isList_22 : decode cL_isList 22 = .ok (.ifCond .le 33, 3) := by decide +kernel
theorem dL_isList_25 : decode cL_isList 25 = .ok (.iload 5, 2) := by decide +kernel
theorem dL_isList_27 : decode cL_isList 27 = .ok (.ifCond .lt 28, 3) := by decide +kernel
theorem dL_isList_30 : decode cL_isList 30 = .ok (.iload 5, 2) := by decide +kernel
theorem dL_isList_32 : decode cL_isList 32 = .ok (.aload_n 1, 1) := by decide +kernel
theorem dL_isList_33 : decode cL_isList 33 = .ok (.iload 4, 2) := by decide +kernel
theorem dL_isList_35 : decode cL_isList 35 = .ok (.iconst 1, 1) := by decide +kernel
theorem dL_isList_36 : decode cL_isList 36 = .ok (.isub, 1) := by decide +kernel
theorem dL_isList_37 : decode cL_isList 37 = .ok (.iaload, 1) := by decide +kernel
theorem dL_isList_38 : decode cL_isList 38 = .ok (.bipush 16, 2) := by decide +kernel
theorem dL_isList_40 : decode cL_isList 40 = .ok (.irem, 1) := by decide +kernel
theorem dL_isList_41 : decode cL_isList 41 = .ok (.if_icmp .eq 14, 3) := by decide +kernel
theorem dL_isList_44 : decode cL_isList 44 = .ok (.aload_n 0, 1) := by decide +kernel
theorem dL_isList_45 : decode cL_isList 45 = .ok (.iload 5, 2) := by decide +kernel
theorem dL_isList_47 : decode cL_isList 47 = .ok (.invokestatic 123, 3) := by decide +kernel
theorem dL_isList_50 : decode cL_isList 50 = .ok (.istore 5, 2) := by decide +kernel
theorem dL_isList_52 : decode cL_isList 52 = .ok (.goto (-32), 3) := by decide +kernel
theorem dL_isList_55 : decode cL_isList 55 = .ok (.aload_n 0, 1) := by decide +kernel
theorem dL_isList_56 : decode cL_isList 56 = .ok (.iload_n 3, 1) := by decide +kernel
theorem dL_isList_57 : decode cL_isList 57 = .ok (.aload_n 1, 1) := by decide +kernel
theorem dL_isList_58 : decode cL_isList 58 = .ok (.iload 4, 2) := by decide +kernel
theorem dL_isList_60 : decode cL_isList 60 = .ok (.iaload, 1) := by decide +kernel
theorem dL_isList_61 : decode cL_isList 61 = .ok (.bipush 16, 2) := by decide +kernel
theorem dL_isList_63 : decode cL_isList 63 = .ok (.irem, 1) := by decide +kernel
theorem dL_isList_64 : decode cL_isList 64 = .ok (.invokestatic 151, 3) := by decide +kernel
theorem dL_isList_67 : decode cL_isList 67 = .ok (.ifCond .eq 32, 3) := by decide +kernel
theorem dL_isList_70 : decode cL_isList 70 = .ok (.iload 4, 2) := by decide +kernel
theorem dL_isList_72 : decode cL_isList 72 = .ok (.ifCond .le 29, 3) := by decide +kernel
theorem dL_isList_75 : decode cL_isList 75 = .ok (.iload 5, 2) := by decide +kernel
theorem dL_isList_77 : decode cL_isList 77 = .ok (.ifCond .lt 22, 3) := by decide +kernel
theorem dL_isList_80 : decode cL_isList 80 = .ok (.aload_n 1, 1) := by decide +kernel
theorem dL_isList_81 : decode cL_isList 81 = .ok (.iload 4, 2) := by decide +kernel
theorem dL_isList_83 : decode cL_isList 83 = .ok (.iaload, 1) := by decide +kernel
theorem dL_isList_84 : decode cL_isList 84 = .ok (.bipush 16, 2) := by decide +kernel
theorem dL_isList_86 : decode cL_isList 86 = .ok (.irem, 1) := by decide +kernel
theorem dL_isList_87 : decode cL_isList 87 = .ok (.aload_n 1, 1) := by decide +kernel
theorem dL_isList_88 : decode cL_isList 88 = .ok (.iload 4, 2) := by decide +kernel
theorem dL_isList_90 : decode cL_isList 90 = .ok (.iconst 1, 1) := by decide +kernel
theorem dL_isList_91 : decode cL_isList 91 = .ok (.isub, 1) := by decide +kernel
theorem dL_isList_92 : decode cL_isList 92 = .ok (.iaload, 1) := by decide +kernel
theorem dL_isList_93 : decode cL_isList 93 = .ok (.bipush 16, 2) := by decide +kernel
theorem dL_isList_95 : decode cL_isList 95 = .ok (.irem, 1) := by decide +kernel
theorem dL_isList_96 : decode cL_isList 96 = .ok (.if_icmp .ne 5, 3) := by decide +kernel
theorem dL_isList_99 : decode cL_isList 99 = .ok (.iconst 0, 1) := by decide +kernel
theorem dL_isList_100 : decode cL_isList 100 = .ok (.ireturn, 1) := by decide +kernel
theorem dL_isList_101 : decode cL_isList 101 = .ok (.iinc 4 1, 3) := by decide +kernel
theorem dL_isList_104 : decode cL_isList 104 = .ok (.goto (-101), 3) := by decide +kernel
theorem dL_isList_107 : decode cL_isList 107 = .ok (.iconst 1, 1) := by decide +kernel
theorem dL_isList_108 : decode cL_isList 108 = .ok (.ireturn, 1) := by decide +kernel
theorem dL_right_0 : decode cL_right 0 = .ok (.aload_n 0, 1) := by decide +kernel
theorem dL_right_1 : decode cL_right 1 = .ok (.iload 6, 2) := by decide +kernel
theorem dL_right_3 : decode cL_right 3 = .ok (.aload_n 1, 1) := by decide +kernel
theorem dL_right_4 : decode cL_right 4 = .ok (.iload 8, 2) := by decide +kernel
theorem dL_right_6 : decode cL_right 6 = .ok (.laload, 1) := by decide +kernel
theorem dL_right_7 : decode cL_right 7 = .ok (.invokestatic 136, 3) := by decide +kernel
theorem dL_right_10 : decode cL_right 10 = .ok (.invokestatic 151, 3) := by decide +kernel
theorem dL_right_13 : decode cL_right 13 = .ok (.ifCond .eq 27, 3) := by decide +kernel
theorem dL_right_16 : decode cL_right 16 = .ok (.iload 5, 2) := by decide +kernel
theorem dL_right_18 : decode cL_right 18 = .ok (.ifCond .le 24, 3) := by decide +kernel
theorem dL_right_21 : decode cL_right 21 = .ok (.aload_n 1, 1) := by decide +kernel
theorem dL_right_22 : decode cL_right 22 = .ok (.iload 8, 2) := by decide +kernel
theorem dL_right_24 : decode cL_right 24 = .ok (.laload, 1) := by decide +kernel
theorem dL_right_25 : decode cL_right 25 = .ok (.invokestatic 136, 3) := by decide +kernel
theorem dL_right_28 : decode cL_right 28 = .ok (.aload_n 3, 1) := by decide +kernel
theorem dL_right_29 : decode cL_right 29 = .ok (.iload 5, 2) := by decide +kernel
theorem dL_right_31 : decode cL_right 31 = .ok (.iconst 1, 1) := by decide +kernel
theorem dL_right_32 : decode cL_right 32 = .ok (.isub, 1) := by decide +kernel
theorem dL_right_33 : decode cL_right 33 = .ok (.iaload, 1) := by decide +kernel
theorem dL_right_34 : decode cL_right 34 = .ok (.bipush 16, 2) := by decide +kernel
theorem dL_right_36 : decode cL_right 36 = .ok (.irem, 1) := by decide +kernel
theorem dL_right_37 : decode cL_right 37 = .ok (.if_icmp .eq 5, 3) := by decide +kernel
theorem dL_right_40 : decode cL_right 40 = .ok (.iconst 0, 1) := by decide +kernel
theorem dL_right_41 : decode cL_right 41 = .ok (.ireturn, 1) := by decide +kernel
theorem dL_right_42 : decode cL_right 42 = .ok (.iconst 0, 1) := by decide +kernel
theorem dL_right_43 : decode cL_right 43 = .ok (.istore 9, 2) := by decide +kernel
theorem dL_right_45 : decode cL_right 45 = .ok (.iload 9, 2) := by decide +kernel
theorem dL_right_47 : decode cL_right 47 = .ok (.iload 5, 2) := by decide +kernel
theorem dL_right_49 : decode cL_right 49 = .ok (.if_icmp .ge 210, 3) := by decide +kernel
theorem dL_right_52 : decode cL_right 52 = .ok (.aload_n 0, 1) := by decide +kernel
theorem dL_right_53 : decode cL_right 53 = .ok (.aload_n 1, 1) := by decide +kernel
theorem dL_right_54 : decode cL_right 54 = .ok (.iload 8, 2) := by decide +kernel
theorem dL_right_56 : decode cL_right 56 = .ok (.aload_n 3, 1) := by decide +kernel
theorem dL_right_57 : decode cL_right 57 = .ok (.iload 9, 2) := by decide +kernel
theorem dL_right_59 : decode cL_right 59 = .ok (.iaload, 1) := by decide +kernel
theorem dL_right_60 : decode cL_right 60 = .ok (.bipush 16, 2) := by decide +kernel
theorem dL_right_62 : decode cL_right 62 = .ok (.irem, 1) := by decide +kernel
theorem dL_right_63 : decode cL_right 63 = .ok (.invokestatic 155, 3) := by decide +kernel
theorem dL_right_66 : decode cL_right 66 = .ok (.istore 10, 2) := by decide +kernel
theorem dL_right_68 : decode cL_right 68 = .ok (.aload_n 3, 1) := by decide +kernel
theorem dL_right_69 : decode cL_right 69 = .ok (.iload 9, 2) := by decide +kernel
theorem dL_right_71 : decode cL_right 71 = .ok (.iaload, 1) := by decide +kernel
theorem dL_right_72 : decode cL_right 72 = .ok (.bipush 16, 2) := by decide +kernel
theorem dL_right_74 : decode cL_right 74 = .ok (.idiv, 1) := by decide +kernel
theorem dL_right_75 : decode cL_right 75 = .ok (.istore 11, 2) := by decide +kernel
theorem dL_right_77 : decode cL_right 77 = .ok (.aload_n 1, 1) := by decide +kernel
theorem dL_right_78 : decode cL_right 78 = .ok (.iload 10, 2) := by decide +kernel
theorem dL_right_80 : decode cL_right 80 = .ok (.laload, 1) := by decide +kernel
theorem dL_right_81 : decode cL_right 81 = .ok (.aload 4, 2) := by decide +kernel
theorem dL_right_83 : decode cL_right 83 = .ok (.iload 9, 2) := by decide +kernel
theorem dL_right_85 : decode cL_right 85 = .ok (.laload, 1) := by decide +kernel
theorem dL_right_86 : decode cL_right 86 = .ok (.invokestatic 159, 3) := by decide +kernel
theorem dL_right_89 : decode cL_right 89 = .ok (.ifCond .eq 34, 3) := by decide +kernel
theorem dL_right_92 : decode cL_right 92 = .ok (.iload 11, 2) := by decide +kernel
theorem dL_right_94 : decode cL_right 94 = .ok (.bipush 8, 2) := by decide +kernel
theorem dL_right_96 : decode cL_right 96 = .ok (.idiv, 1) := by decide +kernel
theorem dL_right_97 : decode cL_right 97 = .ok (.iconst 2, 1) := by decide +kernel
theorem dL_right_98 : decode cL_right 98 = .ok (.irem, 1) := by decide +kernel
theorem dL_right_99 : decode cL_right 99 = .ok (.iconst 1, 1) := by decide +kernel
theorem dL_right_100 : decode cL_right 100 = .ok (.if_icmp .ne 25, 3) := by decide +kernel
theorem dL_right_103 : decode cL_right 103 = .ok (.iload 7, 2) := by decide +kernel
theorem dL_right_105 : decode cL_right 105 = .ok (.iload 10, 2) := by decide +kernel
theorem dL_right_107 : decode cL_right 107 = .ok (.if_icmp .lt 16, 3) := by decide +kernel
theorem dL_right_110 : decode cL_right 110 = .ok (.iload 7, 2) := by decide +kernel
theorem dL_right_112 : decode cL_right 112 = .ok (.aload_n 0, 1) := by decide +kernel
theorem dL_right_113 : decode cL_right 113 = .ok (.aload_n 1, 1) := by decide +kernel
theorem dL_right_114 : decode cL_right 114 = .ok (.iload_n 2, 1) := by decide +kernel
theorem dL_right_115 : decode cL_right 115 = .ok (.iload 10, 2) := by decide +kernel
theorem dL_right_117 : decode cL_right 117 = .ok (.invokestatic 163, 3) := by decide +kernel
theorem dL_right_120 : decode cL_right 120 = .ok (.if_icmp .lt 5, 3) := by decide +kernel
theorem dL_right_123 : decode cL_right 123 = .ok (.iconst 0, 1) := by decide +kernel
theorem dL_right_124 : decode cL_right 124 = .ok (.ireturn, 1) := by decide +kernel
theorem dL_right_125 : decode cL_right 125 = .ok (.aload_n 0, 1) := by decide +kernel
theorem dL_right_126 : decode cL_right 126 = .ok (.aload_n 1, 1) := by decide +kernel
theorem dL_right_127 : decode cL_right 127 = .ok (.iload 10, 2) := by decide +kernel
theorem dL_right_129 : decode cL_right 129 = .ok (.invokestatic 132, 3) := by decide +kernel
theorem dL_right_132 : decode cL_right 132 = .ok (.istore 12, 2) := by decide +kernel
theorem dL_right_134 : decode cL_right 134 = .ok (.iconst 0, 1) := by decide +kernel
theorem dL_right_135 : decode cL_right 135 = .ok (.istore 13, 2) := by decide +kernel
theorem dL_right_137 : decode cL_right 137 = .ok (.iload 13, 2) := by decide +kernel
theorem dL_right_139 : decode cL_right 139 = .ok (.iload_n 2, 1) := by decide +kernel
theorem dL_right_140 : decode cL_right 140 = .ok (.if_icmp .ge 113, 3) := by decide +kernel
theorem dL_right_143 : decode cL_right 143 = .ok (.iload 11, 2) := by decide +kernel
theorem dL_right_145 : decode cL_right 145 = .ok (.iconst 2, 1) := by decide +kernel
theorem dL_right_146 : decode cL_right 146 = .ok (.idiv, 1) := by decide +kernel
theorem dL_right_147 : decode cL_right 147 = .ok (.iconst 4, 1) := by decide +kernel
theorem dL_right_148 : decode cL_right 148 = .ok (.irem, 1) := by decide +kernel
theorem dL_right_149 : decode cL_right 149 = .ok (.ifCond .le 104, 3) := by decide +kernel
theorem dL_right_152 : decode cL_right 152 = .ok (.iload 13, 2) := by decide +kernel
theorem dL_right_154 : decode cL_right 154 = .ok (.iload 10, 2) := by decide +kernel
theorem dL_right_156 : decode cL_right 156 = .ok (.if_icmp .eq 51, 3) := by decide +kernel
theorem dL_right_159 : decode cL_right 159 = .ok (.aload_n 1, 1) := by decide +kernel
theorem dL_right_160 : decode cL_right 160 = .ok (.iload 13, 2) := by decide +kernel
theorem dL_right_162 : decode cL_right 162 = .ok (.laload, 1) := by decide +kernel
theorem dL_right_163 : decode cL_right 163 = .ok (.invokestatic 136, 3) := by decide +kernel
theorem dL_right_166 : decode cL_right 166 = .ok (.aload_n 1, 1) := by decide +kernel
theorem dL_right_167 : decode cL_right 167 = .ok (.iload 10, 2) := by decide +kernel
theorem dL_right_169 : decode cL_right 169 = .ok (.laload, 1) := by decide +kernel
theorem dL_right_170 : decode cL_right 170 = .ok (.invokestatic 136, 3) := by decide +kernel
theorem dL_right_173 : decode cL_right 173 = .ok (.if_icmp .ne 34, 3) := by decide +kernel
theorem dL_right_176 : decode cL_right 176 = .ok (.aload_n 0, 1) := by decide +kernel
theorem dL_right_177 : decode cL_right 177 = .ok (.aload_n 1, 1) := by decide +kernel
theorem dL_right_178 : decode cL_right 178 = .ok (.iload 13, 2) := by decide +kernel
theorem dL_right_180 : decode cL_right 180 = .ok (.invokestatic 132, 3) := by decide +kernel
theorem dL_right_183 : decode cL_right 183 = .ok (.iload 12, 2) := by decide +kernel
theorem dL_right_185 : decode cL_right 185 = .ok (.if_icmp .ne 22, 3) := by decide +kernel
theorem dL_right_188 : decode cL_right 188 = .ok (.aload_n 1, 1) := by decide +kernel
theorem dL_right_189 : decode cL_right 189 = .ok (.iload 13, 2) := by decide +kernel
theorem dL_right_191 : decode cL_right 191 = .ok (.laload, 1) := by decide +kernel
theorem dL_right_192 : decode cL_right 192 = .ok (.aload 4, 2) := by decide +kernel
theorem dL_right_194 : decode cL_right 194 = .ok (.iload 9, 2) := by decide +kernel
theorem dL_right_196 : decode cL_right 196 = .ok (.laload, 1) := by decide +kernel
theorem dL_right_197 : decode cL_right 197 = .ok (.invokestatic 159, 3) := by decide +kernel
theorem dL_right_200 : decode cL_right 200 = .ok (.ifCond .eq 7, 3) := by decide +kernel
theorem dL_right_203 : decode cL_right 203 = .ok (.iconst 1, 1) := by decide +kernel
theorem dL_right_204 : decode cL_right 204 = .ok (.goto 4, 3) := by decide +kernel
theorem dL_right_207 : decode cL_right 207 = .ok (.iconst 0, 1) := by decide +kernel
theorem dL_right_208 : decode cL_right 208 = .ok (.istore 14, 2) := by decide +kernel
theorem dL_right_210 : decode cL_right 210 = .ok (.iload 14, 2) := by decide +kernel
theorem dL_right_212 : decode cL_right 212 = .ok (.ifCond .eq 35, 3) := by decide +kernel
theorem dL_right_215 : decode cL_right 215 = .ok (.iload 13, 2) := by decide +kernel
theorem dL_right_217 : decode cL_right 217 = .ok (.iload 10, 2) := by decide +kernel
theorem dL_right_219 : decode cL_right 219 = .ok (.if_icmp .ge 16, 3) := by decide +kernel
theorem dL_right_222 : decode cL_right 222 = .ok (.iload 11, 2) := by decide +kernel
theorem dL_right_224 : decode cL_right 224 = .ok (.iconst 2, 1) := by decide +kernel
theorem dL_right_225 : decode cL_right 225 = .ok (.idiv, 1) := by decide +kernel
theorem dL_right_226 : decode cL_right 226 = .ok (.iconst 2, 1) := by decide +kernel
theorem dL_right_227 : decode cL_right 227 = .ok (.irem, 1) := by decide +kernel
theorem dL_right_228 : decode cL_right 228 = .ok (.iconst 1, 1) := by decide +kernel
theorem dL_right_229 : decode cL_right 229 = .ok (.if_icmp .ne 18, 3) := by decide +kernel
theorem dL_right_232 : decode cL_right 232 = .ok (.goto 13, 3) := by decide +kernel
theorem dL_right_235 : decode cL_right 235 = .ok (.iload 11, 2) := by decide +kernel
theorem dL_right_237 : decode cL_right 237 = .ok (.iconst 4, 1) := by decide +kernel
theorem dL_right_238 : decode cL_right 238 = .ok (.idiv, 1) := by decide +kernel
theorem dL_right_239 : decode cL_right 239 = .ok (.iconst 2, 1) := by decide +kernel
theorem dL_right_240 : decode cL_right 240 = .ok (.irem, 1) := by decide +kernel
theorem dL_right_241 : decode cL_right 241 = .ok (.iconst 1, 1) := by decide +kernel
theorem dL_right_242 : decode cL_right 242 = .ok (.if_icmp .ne 5, 3) := by decide +kernel
theorem dL_right_245 : decode cL_right 245 = .ok (.iconst 0, 1) := by decide +kernel
theorem dL_right_246 : decode cL_right 246 = .ok (.ireturn, 1) := by decide +kernel
theorem dL_right_247 : decode cL_right 247 = .ok (.iinc 13 1, 3) := by decide +kernel
theorem dL_right_250 : decode cL_right 250 = .ok (.goto (-113), 3) := by decide +kernel
theorem dL_right_253 : decode cL_right 253 = .ok (.iinc 9 1, 3) := by decide +kernel
theorem dL_right_256 : decode cL_right 256 = .ok (.goto (-211), 3) := by decide +kernel
theorem dL_right_259 : decode cL_right 259 = .ok (.iconst 1, 1) := by decide +kernel
theorem dL_right_260 : decode cL_right 260 = .ok (.ireturn, 1) := by decide +kernel
theorem dL_lists_0 : decode cL_lists 0 = .ok (.aload_n 0, 1) := by decide +kernel
theorem dL_lists_1 : decode cL_lists 1 = .ok (.invokevirtual 166, 3) := by decide +kernel
theorem dL_lists_4 : decode cL_lists 4 = .ok (.aload 4, 2) := by decide +kernel
theorem dL_lists_6 : decode cL_lists 6 = .ok (.iconst 1, 1) := by decide +kernel
theorem dL_lists_7 : decode cL_lists 7 = .ok (.iaload, 1) := by decide +kernel
theorem dL_lists_8 : decode cL_lists 8 = .ok (.if_icmp .ne 7, 3) := by decide +kernel
theorem dL_lists_11 : decode cL_lists 11 = .ok (.iconst 1, 1) := by decide +kernel
theorem dL_lists_12 : decode cL_lists 12 = .ok (.goto 4, 3) := by decide +kernel
theorem dL_lists_15 : decode cL_lists 15 = .ok (.iconst 0, 1) := by decide +kernel
theorem dL_lists_16 : decode cL_lists 16 = .ok (.istore 9, 2) := by decide +kernel
theorem dL_lists_18 : decode cL_lists 18 = .ok (.aload 4, 2) := by decide +kernel
theorem dL_lists_20 : decode cL_lists 20 = .ok (.iconst 1, 1) := by decide +kernel
theorem dL_lists_21 : decode cL_lists 21 = .ok (.iconst 0, 1) := by decide +kernel
theorem dL_lists_22 : decode cL_lists 22 = .ok (.iastore, 1) := by decide +kernel
theorem dL_lists_23 : decode cL_lists 23 = .ok (.iload 6, 2) := by decide +kernel
theorem dL_lists_25 : decode cL_lists 25 = .ok (.aload 4, 2) := by decide +kernel
theorem dL_lists_27 : decode cL_lists 27 = .ok (.iconst 0, 1) := by decide +kernel
theorem dL_lists_28 : decode cL_lists 28 = .ok (.iaload, 1) := by decide +kernel
theorem dL_lists_29 : decode cL_lists 29 = .ok (.invokestatic 170, 3) := by decide +kernel
theorem dL_lists_32 : decode cL_lists 32 = .ok (.istore 10, 2) := by decide +kernel
theorem dL_lists_34 : decode cL_lists 34 = .ok (.iconst 0, 1) := by decide +kernel
theorem dL_lists_35 : decode cL_lists 35 = .ok (.istore 11, 2) := by decide +kernel
theorem dL_lists_37 : decode cL_lists 37 = .ok (.iload 11, 2) := by decide +kernel
theorem dL_lists_39 : decode cL_lists 39 = .ok (.bipush 8, 2) := by decide +kernel
theorem dL_lists_41 : decode cL_lists 41 = .ok (.if_icmp .ge 33, 3) := by decide +kernel
theorem dL_lists_44 : decode cL_lists 44 = .ok (.aload_n 1, 1) := by decide +kernel
theorem dL_lists_45 : decode cL_lists 45 = .ok (.iload 10, 2) := by decide +kernel
theorem dL_lists_47 : decode cL_lists 47 = .ok (.invokestatic 129, 3) := by decide +kernel
theorem dL_lists_50 : decode cL_lists 50 = .ok (.iload 5, 2) := by decide +kernel
theorem dL_lists_52 : decode cL_lists 52 = .ok (.iconst 4, 1) := by decide +kernel
theorem dL_lists_53 : decode cL_lists 53 = .ok (.irem, 1) := by decide +kernel
theorem dL_lists_54 : decode cL_lists 54 = .ok (.if_icmp .eq 20, 3) := by decide +kernel
theorem dL_lists_57 : decode cL_lists 57 = .ok (.iload 10, 2) := by decide +kernel
theorem dL_lists_59 : decode cL_lists 59 = .ok (.iconst 1, 1) := by decide +kernel
theorem dL_lists_60 : decode cL_lists 60 = .ok (.iadd, 1) := by decide +kernel
theorem dL_lists_61 : decode cL_lists 61 = .ok (.aload 4, 2) := by decide +kernel
theorem dL_lists_63 : decode cL_lists 63 = .ok (.iconst 0, 1) := by decide +kernel
theorem dL_lists_64 : decode cL_lists 64 = .ok (.iaload, 1) := by decide +kernel
theorem dL_lists_65 : decode cL_lists 65 = .ok (.irem, 1) := by decide +kernel
theorem dL_lists_66 : decode cL_lists 66 = .ok (.istore 10, 2) := by decide +kernel
theorem dL_lists_68 : decode cL_lists 68 = .ok (.iinc 11 1, 3) := by decide +kernel
theorem dL_lists_71 : decode cL_lists 71 = .ok (.goto (-34), 3) := by decide +kernel
theorem dL_lists_74 : decode cL_lists 74 = .ok (.iload 10, 2) := by decide +kernel
theorem dL_lists_76 : decode cL_lists 76 = .ok (.istore 11, 2) := by decide +kernel
theorem dL_lists_78 : decode cL_lists 78 = .ok (.aload_n 1, 1) := by decide +kernel
theorem dL_lists_79 : decode cL_lists 79 = .ok (.iload 11, 2) := by decide +kernel
theorem dL_lists_81 : decode cL_lists 81 = .ok (.invokestatic 123, 3) := by decide +kernel
theorem dL_lists_84 : decode cL_lists 84 = .ok (.ifCond .lt 30, 3) := by decide +kernel
theorem dL_lists_87 : decode cL_lists 87 = .ok (.iload 7, 2) := by decide +kernel
theorem dL_lists_89 : decode cL_lists 89 = .ok (.aload_n 1, 1) := by decide +kernel
theorem dL_lists_90 : decode cL_lists 90 = .ok (.iload 11, 2) := by decide +kernel
theorem dL_lists_92 : decode cL_lists 92 = .ok (.invokestatic 140, 3) := by decide +kernel
theorem dL_lists_95 : decode cL_lists 95 = .ok (.ishr, 1) := by decide +kernel
theorem dL_lists_96 : decode cL_lists 96 = .ok (.iconst 3, 1) := by decide +kernel
theorem dL_lists_97 : decode cL_lists 97 = .ok (.invokestatic 170, 3) := by decide +kernel
theorem dL_lists_100 : decode cL_lists 100 = .ok (.ifCond .le 14, 3) := by decide +kernel
theorem dL_lists_103 : decode cL_lists 103 = .ok (.aload_n 1, 1) := by decide +kernel
theorem dL_lists_104 : decode cL_lists 104 = .ok (.iload 11, 2) := by decide +kernel
theorem dL_lists_106 : decode cL_lists 106 = .ok (.invokestatic 123, 3) := by decide +kernel
theorem dL_lists_109 : decode cL_lists 109 = .ok (.istore 11, 2) := by decide +kernel
theorem dL_lists_111 : decode cL_lists 111 = .ok (.goto (-33), 3) := by decide +kernel
theorem dL_lists_114 : decode cL_lists 114 = .ok (.iload 6, 2) := by decide +kernel
theorem dL_lists_116 : decode cL_lists 116 = .ok (.iconst 4, 1) := by decide +kernel
theorem dL_lists_117 : decode cL_lists 117 = .ok (.ishr, 1) := by decide +kernel
theorem dL_lists_118 : decode cL_lists 118 = .ok (.iconst 5, 1) := by decide +kernel
theorem dL_lists_119 : decode cL_lists 119 = .ok (.invokestatic 170, 3) := by decide +kernel
theorem dL_lists_122 : decode cL_lists 122 = .ok (.ifCond .ne 7, 3) := by decide +kernel
theorem dL_lists_125 : decode cL_lists 125 = .ok (.iconst 0, 1) := by decide +kernel
theorem dL_lists_126 : decode cL_lists 126 = .ok (.goto 18, 3) := by decide +kernel
theorem dL_lists_129 : decode cL_lists 129 = .ok (.aload_n 1, 1) := by decide +kernel
theorem dL_lists_130 : decode cL_lists 130 = .ok (.iload 10, 2) := by decide +kernel
theorem dL_lists_132 : decode cL_lists 132 = .ok (.invokestatic 140, 3) := by decide +kernel
theorem dL_lists_135 : decode cL_lists 135 = .ok (.aload_n 1, 1) := by decide +kernel
theorem dL_lists_136 : decode cL_lists 136 = .ok (.iload 11, 2) := by decide +kernel
theorem dL_lists_138 : decode cL_lists 138 = .ok (.invokestatic 140, 3) := by decide +kernel
theorem dL_lists_141 : decode cL_lists 141 = .ok (.isub, 1) := by decide +kernel
theorem dL_lists_142 : decode cL_lists 142 = .ok (.iconst 1, 1) := by decide +kernel
theorem dL_lists_143 : decode cL_lists 143 = .ok (.iadd, 1) := by decide +kernel
theorem dL_lists_144 : decode cL_lists 144 = .ok (.istore 12, 2) := by decide +kernel
theorem dL_lists_146 : decode cL_lists 146 = .ok (.iconst 0, 1) := by decide +kernel
theorem dL_lists_147 : decode cL_lists 147 = .ok (.istore 13, 2) := by decide +kernel
theorem dL_lists_149 : decode cL_lists 149 = .ok (.iload 13, 2) := by decide +kernel
theorem dL_lists_151 : decode cL_lists 151 = .ok (.iload 12, 2) := by decide +kernel
theorem dL_lists_153 : decode cL_lists 153 = .ok (.if_icmp .ge 442, 3) := by decide +kernel
theorem dL_lists_156 : decode cL_lists 156 = .ok (.iload 9, 2) := by decide +kernel
theorem dL_lists_158 : decode cL_lists 158 = .ok (.ifCond .eq 437, 3) := by decide +kernel
theorem dL_lists_161 : decode cL_lists 161 = .ok (.iload 10, 2) := by decide +kernel
theorem dL_lists_163 : decode cL_lists 163 = .ok (.istore 14, 2) := by decide +kernel
theorem dL_lists_165 : decode cL_lists 165 = .ok (.aload_n 1, 1) := by decide +kernel
theorem dL_lists_166 : decode cL_lists 166 = .ok (.iload 14, 2) := by decide +kernel
theorem dL_lists_168 : decode cL_lists 168 = .ok (.invokestatic 140, 3) := by decide +kernel
theorem dL_lists_171 : decode cL_lists 171 = .ok (.aload_n 1, 1) := by decide +kernel
theorem dL_lists_172 : decode cL_lists 172 = .ok (.iload 11, 2) := by decide +kernel
theorem dL_lists_174 : decode cL_lists 174 = .ok (.invokestatic 140, 3) := by decide +kernel
theorem dL_lists_177 : decode cL_lists 177 = .ok (.iload 13, 2) := by decide +kernel
theorem dL_lists_179 : decode cL_lists 179 = .ok (.iadd, 1) := by decide +kernel
theorem dL_lists_180 : decode cL_lists 180 = .ok (.if_icmp .le 14, 3) := by decide +kernel
theorem dL_lists_183 : decode cL_lists 183 = .ok (.aload_n 1, 1) := by decide +kernel
theorem dL_lists_184 : decode cL_lists 184 = .ok (.iload 14, 2) := by decide +kernel
theorem dL_lists_186 : decode cL_lists 186 = .ok (.invokestatic 123, 3) := by decide +kernel
theorem dL_lists_189 : decode cL_lists 189 = .ok (.istore 14, 2) := by decide +kernel
theorem dL_lists_191 : decode cL_lists 191 = .ok (.goto (-26), 3) := by decide +kernel
theorem dL_lists_194 : decode cL_lists 194 = .ok (.iload 6, 2) := by decide +kernel
theorem dL_lists_196 : decode cL_lists 196 = .ok (.bipush 7, 2) := by decide +kernel
theorem dL_lists_198 : decode cL_lists 198 = .ok (.iload 13, 2) := by decide +kernel
theorem dL_lists_200 : decode cL_lists 200 = .ok (.iadd, 1) := by decide +kernel
theorem dL_lists_201 : decode cL_lists 201 = .ok (.ishr, 1) := by decide +kernel
theorem dL_lists_202 : decode cL_lists 202 = .ok (.bipush 19, 2) := by decide +kernel
theorem dL_lists_204 : decode cL_lists 204 = .ok (.invokestatic 170, 3) := by decide +kernel
theorem dL_lists_207 : decode cL_lists 207 = .ok (.ifCond .ne 15, 3) := by decide +kernel
theorem dL_lists_210 : decode cL_lists 210 = .ok (.iload 7, 2) := by decide +kernel
theorem dL_lists_212 : decode cL_lists 212 = .ok (.aload 4, 2) := by decide +kernel
theorem dL_lists_214 : decode cL_lists 214 = .ok (.iconst 0, 1) := by decide +kernel
theorem dL_lists_215 : decode cL_lists 215 = .ok (.iaload, 1) := by decide +kernel
theorem dL_lists_216 : decode cL_lists 216 = .ok (.invokestatic 170, 3) := by decide +kernel
theorem dL_lists_219 : decode cL_lists 219 = .ok (.goto 5, 3) := by decide +kernel
theorem dL_lists_222 : decode cL_lists 222 = .ok (.iload 14, 2) := by decide +kernel
theorem dL_lists_224 : decode cL_lists 224 = .ok (.istore 14, 2) := by decide +kernel
theorem dL_lists_226 : decode cL_lists 226 = .ok (.aload 4, 2) := by decide +kernel
theorem dL_lists_228 : decode cL_lists 228 = .ok (.iconst 1, 1) := by decide +kernel
theorem dL_lists_229 : decode cL_lists 229 = .ok (.iaload, 1) := by decide +kernel
theorem dL_lists_230 : decode cL_lists 230 = .ok (.istore 15, 2) := by decide +kernel
theorem dL_lists_232 : decode cL_lists 232 = .ok (.iload 8, 2) := by decide +kernel
theorem dL_lists_234 : decode cL_lists 234 = .ok (.ifCond .ne 26, 3) := by decide +kernel
theorem dL_lists_237 : decode cL_lists 237 = .ok (.iload 13, 2) := by decide +kernel
theorem dL_lists_239 : decode cL_lists 239 = .ok (.iload 12, 2) := by decide +kernel
theorem dL_lists_241 : decode cL_lists 241 = .ok (.iconst 1, 1) := by decide +kernel
theorem dL_lists_242 : decode cL_lists 242 = .ok (.isub, 1) := by decide +kernel
theorem dL_lists_243 : decode cL_lists 243 = .ok (.if_icmp .eq 17, 3) := by decide +kernel
theorem dL_lists_246 : decode cL_lists 246 = .ok (.iload 7, 2) := by decide +kernel
theorem dL_lists_248 : decode cL_lists 248 = .ok (.iconst 5, 1) := by decide +kernel
theorem dL_lists_249 : decode cL_lists 249 = .ok (.iload 13, 2) := by decide +kernel
theorem dL_lists_251 : decode cL_lists 251 = .ok (.iadd, 1) := by decide +kernel
theorem dL_lists_252 : decode cL_lists 252 = .ok (.ishr, 1) := by decide +kernel
theorem dL_lists_253 : decode cL_lists 253 = .ok (.iconst 4, 1) := by decide +kernel
theorem dL_lists_254 : decode cL_lists 254 = .ok (.invokestatic 170, 3) := by decide +kernel
theorem dL_lists_257 : decode cL_lists 257 = .ok (.ifCond .le 332, 3) := by decide +kernel
theorem dL_lists_260 : decode cL_lists 260 = .ok (.iload 7, 2) := by decide +kernel
theorem dL_lists_262 : decode cL_lists 262 = .ok (.iconst 4, 1) := by decide +kernel
theorem dL_lists_263 : decode cL_lists 263 = .ok (.iconst 3, 1) := by decide +kernel
theorem dL_lists_264 : decode cL_lists 264 = .ok (.iload 13, 2) := by decide +kernel
theorem dL_lists_266 : decode cL_lists 266 = .ok (.imul, 1) := by decide +kernel
theorem dL_lists_267 : decode cL_lists 267 = .ok (.iadd, 1) := by decide +kernel
theorem dL_lists_268 : decode cL_lists 268 = .ok (.ishr, 1) := by decide +kernel
theorem dL_lists_269 : decode cL_lists 269 = .ok (.iconst 3, 1) := by decide +kernel
theorem dL_lists_270 : decode cL_lists 270 = .ok (.invokestatic 170, 3) := by decide +kernel
theorem dL_lists_273 : decode cL_lists 273 = .ok (.ifCond .ne 19, 3) := by decide +kernel
theorem dL_lists_276 : decode cL_lists 276 = .ok (.iload 6, 2) := by decide +kernel
theorem dL_lists_278 : decode cL_lists 278 = .ok (.bipush 6, 2) := by decide +kernel
theorem dL_lists_280 : decode cL_lists 280 = .ok (.iload 13, 2) := by decide +kernel
theorem dL_lists_282 : decode cL_lists 282 = .ok (.iadd, 1) := by decide +kernel
theorem dL_lists_283 : decode cL_lists 283 = .ok (.ishr, 1) := by decide +kernel
theorem dL_lists_284 : decode cL_lists 284 = .ok (.bipush 64, 2) := by decide +kernel
theorem dL_lists_286 : decode cL_lists 286 = .ok (.invokestatic 170, 3) := by decide +kernel
theorem dL_lists_289 : decode cL_lists 289 = .ok (.goto 15, 3) := by decide +kernel
theorem dL_lists_292 : decode cL_lists 292 = .ok (.iload 6, 2) := by decide +kernel
theorem dL_lists_294 : decode cL_lists 294 = .ok (.bipush 6, 2) := by decide +kernel
theorem dL_lists_296 : decode cL_lists 296 = .ok (.iload 13, 2) := by decide +kernel
theorem dL_lists_298 : decode cL_lists 298 = .ok (.iadd, 1) := by decide +kernel
theorem dL_lists_299 : decode cL_lists 299 = .ok (.ishr, 1) := by decide +kernel
theorem dL_lists_300 : decode cL_lists 300 = .ok (.iconst 2, 1) := by decide +kernel
theorem dL_lists_301 : decode cL_lists 301 = .ok (.invokestatic 170, 3) := by decide +kernel
theorem dL_lists_304 : decode cL_lists 304 = .ok (.istore 16, 2) := by decide +kernel
theorem dL_lists_306 : decode cL_lists 306 = .ok (.iload 8, 2) := by decide +kernel
theorem dL_lists_308 : decode cL_lists 308 = .ok (.ifCond .eq 10, 3) := by decide +kernel
theorem dL_lists_311 : decode cL_lists 311 = .ok (.iload 16, 2) := by decide +kernel
theorem dL_lists_313 : decode cL_lists 313 = .ok (.iconst 1, 1) := by decide +kernel
theorem dL_lists_314 : decode cL_lists 314 = .ok (.iand, 1) := by decide +kernel
theorem dL_lists_315 : decode cL_lists 315 = .ok (.goto 5, 3) := by decide +kernel
theorem dL_lists_318 : decode cL_lists 318 = .ok (.iload 16, 2) := by decide +kernel
theorem dL_lists_320 : decode cL_lists 320 = .ok (.istore 16, 2) := by decide +kernel
theorem dL_lists_322 : decode cL_lists 322 = .ok (.aload_n 2, 1) := by decide +kernel
theorem dL_lists_323 : decode cL_lists 323 = .ok (.iload 15, 2) := by decide +kernel
theorem dL_lists_325 : decode cL_lists 325 = .ok (.iload 14, 2) := by decide +kernel
theorem dL_lists_327 : decode cL_lists 327 = .ok (.bipush 16, 2) := by decide +kernel
theorem dL_lists_329 : decode cL_lists 329 = .ok (.iload 16, 2) := by decide +kernel
theorem dL_lists_331 : decode cL_lists 331 = .ok (.imul, 1) := by decide +kernel
theorem dL_lists_332 : decode cL_lists 332 = .ok (.iadd, 1) := by decide +kernel
theorem dL_lists_333 : decode cL_lists 333 = .ok (.iastore, 1) := by decide +kernel
theorem dL_lists_334 : decode cL_lists 334 = .ok (.aload_n 3, 1) := by decide +kernel
theorem dL_lists_335 : decode cL_lists 335 = .ok (.iload 15, 2) := by decide +kernel
theorem dL_lists_337 : decode cL_lists 337 = .ok (.lconst 0, 1) := by decide +kernel
theorem dL_lists_338 : decode cL_lists 338 = .ok (.lastore, 1) := by decide +kernel
theorem dL_lists_339 : decode cL_lists 339 = .ok (.aload 4, 2) := by decide +kernel
theorem dL_lists_341 : decode cL_lists 341 = .ok (.iconst 1, 1) := by decide +kernel
theorem dL_lists_342 : decode cL_lists 342 = .ok (.dup2, 1) := by decide +kernel
theorem dL_lists_343 : decode cL_lists 343 = .ok (.iaload, 1) := by decide +kernel
theorem dL_lists_344 : decode cL_lists 344 = .ok (.iconst 1, 1) := by decide +kernel
theorem dL_lists_345 : decode cL_lists 345 = .ok (.iadd, 1) := by decide +kernel
theorem dL_lists_346 : decode cL_lists 346 = .ok (.iastore, 1) := by decide +kernel
theorem dL_lists_347 : decode cL_lists 347 = .ok (.aload_n 0, 1) := by decide +kernel
theorem dL_lists_348 : decode cL_lists 348 = .ok (.iload 14, 2) := by decide +kernel
theorem dL_lists_350 : decode cL_lists 350 = .ok (.iload 16, 2) := by decide +kernel
theorem dL_lists_352 : decode cL_lists 352 = .ok (.invokestatic 173, 3) := by decide +kernel
theorem dL_lists_355 : decode cL_lists 355 = .ok (.aload 4, 2) := by decide +kernel
theorem dL_lists_357 : decode cL_lists 357 = .ok (.iconst 1, 1) := by decide +kernel
theorem dL_lists_358 : decode cL_lists 358 = .ok (.iaload, 1) := by decide +kernel
theorem dL_lists_359 : decode cL_lists 359 = .ok (.if_icmp .ne 7, 3) := by decide +kernel
theorem dL_lists_362 : decode cL_lists 362 = .ok (.iconst 1, 1) := by decide +kernel
theorem dL_lists_363 : decode cL_lists 363 = .ok (.goto 4, 3) := by decide +kernel
theorem dL_lists_366 : decode cL_lists 366 = .ok (.iconst 0, 1) := by decide +kernel
theorem dL_lists_367 : decode cL_lists 367 = .ok (.istore 9, 2) := by decide +kernel
theorem dL_lists_369 : decode cL_lists 369 = .ok (.iload 8, 2) := by decide +kernel
theorem dL_lists_371 : decode cL_lists 371 = .ok (.ifCond .eq 51, 3) := by decide +kernel
theorem dL_lists_374 : decode cL_lists 374 = .ok (.iload 6, 2) := by decide +kernel
theorem dL_lists_376 : decode cL_lists 376 = .ok (.bipush 9, 2) := by decide +kernel
theorem dL_lists_378 : decode cL_lists 378 = .ok (.iload 13, 2) := by decide +kernel
theorem dL_lists_380 : decode cL_lists 380 = .ok (.iadd, 1) := by decide +kernel
theorem dL_lists_381 : decode cL_lists 381 = .ok (.ishr, 1) := by decide +kernel
theorem dL_lists_382 : decode cL_lists 382 = .ok (.bipush 12, 2) := by decide +kernel
theorem dL_lists_384 : decode cL_lists 384 = .ok (.invokestatic 170, 3) := by decide +kernel
theorem dL_lists_387 : decode cL_lists 387 = .ok (.ifCond .eq 27, 3) := by decide +kernel
theorem dL_lists_390 : decode cL_lists 390 = .ok (.iload 13, 2) := by decide +kernel
theorem dL_lists_392 : decode cL_lists 392 = .ok (.iload 12, 2) := by decide +kernel
theorem dL_lists_394 : decode cL_lists 394 = .ok (.iconst 1, 1) := by decide +kernel
theorem dL_lists_395 : decode cL_lists 395 = .ok (.isub, 1) := by decide +kernel
theorem dL_lists_396 : decode cL_lists 396 = .ok (.if_icmp .ge 22, 3) := by decide +kernel
theorem dL_lists_399 : decode cL_lists 399 = .ok (.iload 7, 2) := by decide +kernel
theorem dL_lists_401 : decode cL_lists 401 = .ok (.bipush 7, 2) := by decide +kernel
theorem dL_lists_403 : decode cL_lists 403 = .ok (.iload 13, 2) := by decide +kernel
theorem dL_lists_405 : decode cL_lists 405 = .ok (.iadd, 1) := by decide +kernel
theorem dL_lists_406 : decode cL_lists 406 = .ok (.ishr, 1) := by decide +kernel
theorem dL_lists_407 : decode cL_lists 407 = .ok (.iconst 2, 1) := by decide +kernel
theorem dL_lists_408 : decode cL_lists 408 = .ok (.invokestatic 170, 3) := by decide +kernel
theorem dL_lists_411 : decode cL_lists 411 = .ok (.ifCond .ne 7, 3) := by decide +kernel
theorem dL_lists_414 : decode cL_lists 414 = .ok (.iconst 1, 1) := by decide +kernel
theorem dL_lists_415 : decode cL_lists 415 = .ok (.goto 19, 3) := by decide +kernel
theorem dL_lists_418 : decode cL_lists 418 = .ok (.iconst 0, 1) := by decide +kernel
theorem dL_lists_419 : decode cL_lists 419 = .ok (.goto 15, 3) := by decide +kernel
theorem dL_lists_422 : decode cL_lists 422 = .ok (.iload 7, 2) := by decide +kernel
theorem dL_lists_424 : decode cL_lists 424 = .ok (.bipush 9, 2) := by decide +kernel
theorem dL_lists_426 : decode cL_lists 426 = .ok (.iload 13, 2) := by decide +kernel
theorem dL_lists_428 : decode cL_lists 428 = .ok (.iadd, 1) := by decide +kernel
theorem dL_lists_429 : decode cL_lists 429 = .ok (.ishr, 1) := by decide +kernel
theorem dL_lists_430 : decode cL_lists 430 = .ok (.iconst 4, 1) := by decide +kernel
theorem dL_lists_431 : decode cL_lists 431 = .ok (.invokestatic 170, 3) := by decide +kernel
theorem dL_lists_434 : decode cL_lists 434 = .ok (.istore 17, 2) := by decide +kernel
theorem dL_lists_436 : decode cL_lists 436 = .ok (.iconst 0, 1) := by decide +kernel
theorem dL_lists_437 : decode cL_lists 437 = .ok (.istore 18, 2) := by decide +kernel
theorem dL_lists_439 : decode cL_lists 439 = .ok (.iload 18, 2) := by decide +kernel
theorem dL_lists_441 : decode cL_lists 441 = .ok (.iload 17, 2) := by decide +kernel
theorem dL_lists_443 : decode cL_lists 443 = .ok (.if_icmp .ge 146, 3) := by decide +kernel
theorem dL_lists_446 : decode cL_lists 446 = .ok (.iload 9, 2) := by decide +kernel
theorem dL_lists_448 : decode cL_lists 448 = .ok (.ifCond .eq 141, 3) := by decide +kernel
theorem dL_lists_451 : decode cL_lists 451 = .ok (.iload 6, 2) := by decide +kernel
theorem dL_lists_453 : decode cL_lists 453 = .ok (.bipush 11, 2) := by decide +kernel
theorem dL_lists_455 : decode cL_lists 455 = .ok (.iload 18, 2) := by decide +kernel
theorem dL_lists_457 : decode cL_lists 457 = .ok (.iadd, 1) := by decide +kernel
theorem dL_lists_458 : decode cL_lists 458 = .ok (.ishr, 1) := by decide +kernel
theorem dL_lists_459 : decode cL_lists 459 = .ok (.iconst 2, 1) := by decide +kernel
theorem dL_lists_460 : decode cL_lists 460 = .ok (.invokestatic 170, 3) := by decide +kernel
theorem dL_lists_463 : decode cL_lists 463 = .ok (.istore 19, 2) := by decide +kernel
theorem dL_lists_465 : decode cL_lists 465 = .ok (.iload 6, 2) := by decide +kernel
theorem dL_lists_467 : decode cL_lists 467 = .ok (.bipush 13, 2) := by decide +kernel
theorem dL_lists_469 : decode cL_lists 469 = .ok (.iload 18, 2) := by decide +kernel
theorem dL_lists_471 : decode cL_lists 471 = .ok (.iadd, 1) := by decide +kernel
theorem dL_lists_472 : decode cL_lists 472 = .ok (.ishr, 1) := by decide +kernel
theorem dL_lists_473 : decode cL_lists 473 = .ok (.iconst 3, 1) := by decide +kernel
theorem dL_lists_474 : decode cL_lists 474 = .ok (.invokestatic 170, 3) := by decide +kernel
theorem dL_lists_477 : decode cL_lists 477 = .ok (.istore 20, 2) := by decide +kernel
theorem dL_lists_479 : decode cL_lists 479 = .ok (.iload 7, 2) := by decide +kernel
theorem dL_lists_481 : decode cL_lists 481 = .ok (.bipush 12, 2) := by decide +kernel
theorem dL_lists_483 : decode cL_lists 483 = .ok (.iload 18, 2) := by decide +kernel
theorem dL_lists_485 : decode cL_lists 485 = .ok (.iadd, 1) := by decide +kernel
theorem dL_lists_486 : decode cL_lists 486 = .ok (.ishr, 1) := by decide +kernel
theorem dL_lists_487 : decode cL_lists 487 = .ok (.bipush 6, 2) := by decide +kernel
theorem dL_lists_489 : decode cL_lists 489 = .ok (.invokestatic 170, 3) := by decide +kernel
theorem dL_lists_492 : decode cL_lists 492 = .ok (.istore 21, 2) := by decide +kernel
theorem dL_lists_494 : decode cL_lists 494 = .ok (.iload 7, 2) := by decide +kernel
theorem dL_lists_496 : decode cL_lists 496 = .ok (.iconst 2, 1) := by decide +kernel
theorem dL_lists_497 : decode cL_lists 497 = .ok (.iload 18, 2) := by decide +kernel
theorem dL_lists_499 : decode cL_lists 499 = .ok (.imul, 1) := by decide +kernel
theorem dL_lists_500 : decode cL_lists 500 = .ok (.iload 13, 2) := by decide +kernel
theorem dL_lists_502 : decode cL_lists 502 = .ok (.iadd, 1) := by decide +kernel
theorem dL_lists_503 : decode cL_lists 503 = .ok (.ishr, 1) := by decide +kernel
theorem dL_lists_504 : decode cL_lists 504 = .ok (.bipush 12, 2) := by decide +kernel
theorem dL_lists_506 : decode cL_lists 506 = .ok (.invokestatic 170, 3) := by decide +kernel
theorem dL_lists_509 : decode cL_lists 509 = .ok (.istore 22, 2) := by decide +kernel
theorem dL_lists_511 : decode cL_lists 511 = .ok (.aload_n 3, 1) := by decide +kernel
theorem dL_lists_512 : decode cL_lists 512 = .ok (.iload 15, 2) := by decide +kernel
theorem dL_lists_514 : decode cL_lists 514 = .ok (.dup2, 1) := by decide +kernel
theorem dL_lists_515 : decode cL_lists 515 = .ok (.laload, 1) := by decide +kernel
theorem dL_lists_516 : decode cL_lists 516 = .ok (.lconst 1, 1) := by decide +kernel
theorem dL_lists_517 : decode cL_lists 517 = .ok (.iload 19, 2) := by decide +kernel
theorem dL_lists_519 : decode cL_lists 519 = .ok (.iconst 2, 1) := by decide +kernel
theorem dL_lists_520 : decode cL_lists 520 = .ok (.iload 20, 2) := by decide +kernel
theorem dL_lists_522 : decode cL_lists 522 = .ok (.imul, 1) := by decide +kernel
theorem dL_lists_523 : decode cL_lists 523 = .ok (.iadd, 1) := by decide +kernel
theorem dL_lists_524 : decode cL_lists 524 = .ok (.bipush 8, 2) := by decide +kernel
theorem dL_lists_526 : decode cL_lists 526 = .ok (.iload 21, 2) := by decide +kernel
theorem dL_lists_528 : decode cL_lists 528 = .ok (.imul, 1) := by decide +kernel
theorem dL_lists_529 : decode cL_lists 529 = .ok (.iadd, 1) := by decide +kernel
theorem dL_lists_530 : decode cL_lists 530 = .ok (.bipush 64, 2) := by decide +kernel
theorem dL_lists_532 : decode cL_lists 532 = .ok (.iload 22, 2) := by decide +kernel
theorem dL_lists_534 : decode cL_lists 534 = .ok (.imul, 1) := by decide +kernel
theorem dL_lists_535 : decode cL_lists 535 = .ok (.iadd, 1) := by decide +kernel
theorem dL_lists_536 : decode cL_lists 536 = .ok (.i2l, 1) := by decide +kernel
theorem dL_lists_537 : decode cL_lists 537 = .ok (.iconst 2, 1) := by decide +kernel
theorem dL_lists_538 : decode cL_lists 538 = .ok (.bipush 16, 2) := by decide +kernel
theorem dL_lists_540 : decode cL_lists 540 = .ok (.iload 18, 2) := by decide +kernel
theorem dL_lists_542 : decode cL_lists 542 = .ok (.imul, 1) := by decide +kernel
theorem dL_lists_543 : decode cL_lists 543 = .ok (.iadd, 1) := by decide +kernel
theorem dL_lists_544 : decode cL_lists 544 = .ok (.lshl, 1) := by decide +kernel
theorem dL_lists_545 : decode cL_lists 545 = .ok (.ladd, 1) := by decide +kernel
theorem dL_lists_546 : decode cL_lists 546 = .ok (.ladd, 1) := by decide +kernel
theorem dL_lists_547 : decode cL_lists 547 = .ok (.lastore, 1) := by decide +kernel
theorem dL_lists_548 : decode cL_lists 548 = .ok (.aload_n 0, 1) := by decide +kernel
theorem dL_lists_549 : decode cL_lists 549 = .ok (.iload 19, 2) := by decide +kernel
theorem dL_lists_551 : decode cL_lists 551 = .ok (.iconst 1, 1) := by decide +kernel
theorem dL_lists_552 : decode cL_lists 552 = .ok (.if_icmp .ne 7, 3) := by decide +kernel
theorem dL_lists_555 : decode cL_lists 555 = .ok (.iconst 1, 1) := by decide +kernel
theorem dL_lists_556 : decode cL_lists 556 = .ok (.goto 4, 3) := by decide +kernel
theorem dL_lists_559 : decode cL_lists 559 = .ok (.iconst 0, 1) := by decide +kernel
theorem dL_lists_560 : decode cL_lists 560 = .ok (.iload 20, 2) := by decide +kernel
theorem dL_lists_562 : decode cL_lists 562 = .ok (.iload 21, 2) := by decide +kernel
theorem dL_lists_564 : decode cL_lists 564 = .ok (.iload 22, 2) := by decide +kernel
theorem dL_lists_566 : decode cL_lists 566 = .ok (.invokestatic 175, 3) := by decide +kernel
theorem dL_lists_569 : decode cL_lists 569 = .ok (.iload 18, 2) := by decide +kernel
theorem dL_lists_571 : decode cL_lists 571 = .ok (.iconst 1, 1) := by decide +kernel
theorem dL_lists_572 : decode cL_lists 572 = .ok (.iadd, 1) := by decide +kernel
theorem dL_lists_573 : decode cL_lists 573 = .ok (.if_icmp .ne 7, 3) := by decide +kernel
theorem dL_lists_576 : decode cL_lists 576 = .ok (.iconst 1, 1) := by decide +kernel
theorem dL_lists_577 : decode cL_lists 577 = .ok (.goto 4, 3) := by decide +kernel
theorem dL_lists_580 : decode cL_lists 580 = .ok (.iconst 0, 1) := by decide +kernel
theorem dL_lists_581 : decode cL_lists 581 = .ok (.istore 9, 2) := by decide +kernel
theorem dL_lists_583 : decode cL_lists 583 = .ok (.iinc 18 1, 3) := by decide +kernel
theorem dL_lists_586 : decode cL_lists 586 = .ok (.goto (-147), 3) := by decide +kernel
theorem dL_lists_589 : decode cL_lists 589 = .ok (.iinc 13 1, 3) := by decide +kernel
theorem dL_lists_592 : decode cL_lists 592 = .ok (.goto (-443), 3) := by decide +kernel
theorem dL_lists_595 : decode cL_lists 595 = .ok (.iload 9, 2) := by decide +kernel
theorem dL_lists_597 : decode cL_lists 597 = .ok (.ifCond .eq 97, 3) := by decide +kernel
theorem dL_lists_600 : decode cL_lists 600 = .ok (.aload_n 0, 1) := by decide +kernel
theorem dL_lists_601 : decode cL_lists 601 = .ok (.aload 4, 2) := by decide +kernel
theorem dL_lists_603 : decode cL_lists 603 = .ok (.iconst 0, 1) := by decide +kernel
theorem dL_lists_604 : decode cL_lists 604 = .ok (.iaload, 1) := by decide +kernel
theorem dL_lists_605 : decode cL_lists 605 = .ok (.bipush 64, 2) := by decide +kernel
theorem dL_lists_607 : decode cL_lists 607 = .ok (.invokestatic 173, 3) := by decide +kernel
theorem dL_lists_610 : decode cL_lists 610 = .ok (.ldc 18, 2) := by decide +kernel
theorem dL_lists_612 : decode cL_lists 612 = .ok (.if_icmp .ne 82, 3) := by decide +kernel
theorem dL_lists_615 : decode cL_lists 615 = .ok (.aload_n 0, 1) := by decide +kernel
theorem dL_lists_616 : decode cL_lists 616 = .ok (.iconst 0, 1) := by decide +kernel
theorem dL_lists_617 : decode cL_lists 617 = .ok (.bipush 64, 2) := by decide +kernel
theorem dL_lists_619 : decode cL_lists 619 = .ok (.invokestatic 173, 3) := by decide +kernel
theorem dL_lists_622 : decode cL_lists 622 = .ok (.ldc 21, 2) := by decide +kernel
theorem dL_lists_624 : decode cL_lists 624 = .ok (.if_icmp .ne 70, 3) := by decide +kernel
theorem dL_lists_627 : decode cL_lists 627 = .ok (.aload_n 0, 1) := by decide +kernel
theorem dL_lists_628 : decode cL_lists 628 = .ok (.iconst 1, 1) := by decide +kernel
theorem dL_lists_629 : decode cL_lists 629 = .ok (.iconst 3, 1) := by decide +kernel
theorem dL_lists_630 : decode cL_lists 630 = .ok (.bipush 6, 2) := by decide +kernel
theorem dL_lists_632 : decode cL_lists 632 = .ok (.iconst 0, 1) := by decide +kernel
theorem dL_lists_633 : decode cL_lists 633 = .ok (.invokestatic 175, 3) := by decide +kernel
theorem dL_lists_636 : decode cL_lists 636 = .ok (.ldc 18, 2) := by decide +kernel
theorem dL_lists_638 : decode cL_lists 638 = .ok (.if_icmp .ne 56, 3) := by decide +kernel
theorem dL_lists_641 : decode cL_lists 641 = .ok (.aload_n 0, 1) := by decide +kernel
theorem dL_lists_642 : decode cL_lists 642 = .ok (.iconst 1, 1) := by decide +kernel
theorem dL_lists_643 : decode cL_lists 643 = .ok (.iconst 0, 1) := by decide +kernel
theorem dL_lists_644 : decode cL_lists 644 = .ok (.bipush 6, 2) := by decide +kernel
theorem dL_lists_646 : decode cL_lists 646 = .ok (.iconst 0, 1) := by decide +kernel
theorem dL_lists_647 : decode cL_lists 647 = .ok (.invokestatic 175, 3) := by decide +kernel
theorem dL_lists_650 : decode cL_lists 650 = .ok (.ldc 21, 2) := by decide +kernel
theorem dL_lists_652 : decode cL_lists 652 = .ok (.if_icmp .ne 42, 3) := by decide +kernel
theorem dL_lists_655 : decode cL_lists 655 = .ok (.aload_n 0, 1) := by decide +kernel
theorem dL_lists_656 : decode cL_lists 656 = .ok (.iconst 1, 1) := by decide +kernel
theorem dL_lists_657 : decode cL_lists 657 = .ok (.iconst 0, 1) := by decide +kernel
theorem dL_lists_658 : decode cL_lists 658 = .ok (.iconst 0, 1) := by decide +kernel
theorem dL_lists_659 : decode cL_lists 659 = .ok (.sipush 1000, 3) := by decide +kernel
theorem dL_lists_662 : decode cL_lists 662 = .ok (.invokestatic 175, 3) := by decide +kernel
theorem dL_lists_665 : decode cL_lists 665 = .ok (.ldc 21, 2) := by decide +kernel
theorem dL_lists_667 : decode cL_lists 667 = .ok (.if_icmp .ne 27, 3) := by decide +kernel
theorem dL_lists_670 : decode cL_lists 670 = .ok (.aload 4, 2) := by decide +kernel
theorem dL_lists_672 : decode cL_lists 672 = .ok (.iconst 1, 1) := by decide +kernel
theorem dL_lists_673 : decode cL_lists 673 = .ok (.iaload, 1) := by decide +kernel
theorem dL_lists_674 : decode cL_lists 674 = .ok (.ifCond .gt 16, 3) := by decide +kernel
theorem dL_lists_677 : decode cL_lists 677 = .ok (.aload_n 0, 1) := by decide +kernel
theorem dL_lists_678 : decode cL_lists 678 = .ok (.iconst 1, 1) := by decide +kernel
theorem dL_lists_679 : decode cL_lists 679 = .ok (.iconst 0, 1) := by decide +kernel
theorem dL_lists_680 : decode cL_lists 680 = .ok (.iconst 0, 1) := by decide +kernel
theorem dL_lists_681 : decode cL_lists 681 = .ok (.iconst 0, 1) := by decide +kernel
theorem dL_lists_682 : decode cL_lists 682 = .ok (.invokestatic 175, 3) := by decide +kernel
theorem dL_lists_685 : decode cL_lists 685 = .ok (.ldc 24, 2) := by decide +kernel
theorem dL_lists_687 : decode cL_lists 687 = .ok (.if_icmp .ne 7, 3) := by decide +kernel
theorem dL_lists_690 : decode cL_lists 690 = .ok (.iconst 1, 1) := by decide +kernel
theorem dL_lists_691 : decode cL_lists 691 = .ok (.goto 4, 3) := by decide +kernel
theorem dL_lists_694 : decode cL_lists 694 = .ok (.iconst 0, 1) := by decide +kernel
theorem dL_lists_695 : decode cL_lists 695 = .ok (.ireturn, 1) := by decide +kernel
theorem dL_gets_0 : decode cL_gets 0 = .ok (.aload 8, 2) := by decide +kernel
theorem dL_gets_2 : decode cL_gets 2 = .ok (.iload 10, 2) := by decide +kernel
theorem dL_gets_4 : decode cL_gets 4 = .ok (.iaload, 1) := by decide +kernel
theorem dL_gets_5 : decode cL_gets 5 = .ok (.istore 13, 2) := by decide +kernel
theorem dL_gets_7 : decode cL_gets 7 = .ok (.iload 13, 2) := by decide +kernel
theorem dL_gets_9 : decode cL_gets 9 = .ok (.iconst 4, 1) := by decide +kernel
theorem dL_gets_10 : decode cL_gets 10 = .ok (.irem, 1) := by decide +kernel
theorem dL_gets_11 : decode cL_gets 11 = .ok (.istore 14, 2) := by decide +kernel
theorem dL_gets_13 : decode cL_gets 13 = .ok (.iload 14, 2) := by decide +kernel
theorem dL_gets_15 : decode cL_gets 15 = .ok (.aload_n 2, 1) := by decide +kernel
theorem dL_gets_16 : decode cL_gets 16 = .ok (.aload_n 3, 1) := by decide +kernel
theorem dL_gets_17 : decode cL_gets 17 = .ok (.aload 4, 2) := by decide +kernel
theorem dL_gets_19 : decode cL_gets 19 = .ok (.invokestatic 102, 3) := by decide +kernel
theorem dL_gets_22 : decode cL_gets 22 = .ok (.astore 15, 2) := by decide +kernel
theorem dL_gets_24 : decode cL_gets 24 = .ok (.aload_n 0, 1) := by decide +kernel
theorem dL_gets_25 : decode cL_gets 25 = .ok (.iload 10, 2) := by decide +kernel
theorem dL_gets_27 : decode cL_gets 27 = .ok (.invokestatic 178, 3) := by decide +kernel
theorem dL_gets_30 : decode cL_gets 30 = .ok (.istore 16, 2) := by decide +kernel
theorem dL_gets_32 : decode cL_gets 32 = .ok (.aload_n 0, 1) := by decide +kernel
theorem dL_gets_33 : decode cL_gets 33 = .ok (.iload 10, 2) := by decide +kernel
theorem dL_gets_35 : decode cL_gets 35 = .ok (.invokestatic 181, 3) := by decide +kernel
theorem dL_gets_38 : decode cL_gets 38 = .ok (.istore 17, 2) := by decide +kernel
theorem dL_gets_40 : decode cL_gets 40 = .ok (.aload_n 0, 1) := by decide +kernel
theorem dL_gets_41 : decode cL_gets 41 = .ok (.iload 10, 2) := by decide +kernel
theorem dL_gets_43 : decode cL_gets 43 = .ok (.invokestatic 183, 3) := by decide +kernel
theorem dL_gets_46 : decode cL_gets 46 = .ok (.istore 18, 2) := by decide +kernel
theorem dL_gets_48 : decode cL_gets 48 = .ok (.aload_n 0, 1) := by decide +kernel
theorem dL_gets_49 : decode cL_gets 49 = .ok (.iconst 3, 1) := by decide +kernel
theorem dL_gets_50 : decode cL_gets 50 = .ok (.iconst 1, 1) := by decide +kernel
theorem dL_gets_51 : decode cL_gets 51 = .ok (.invokestatic 185, 3) := by decide +kernel
theorem dL_gets_54 : decode cL_gets 54 = .ok (.istore 19, 2) := by decide +kernel
theorem dL_gets_56 : decode cL_gets 56 = .ok (.aload_n 1, 1) := by decide +kernel
theorem dL_gets_57 : decode cL_gets 57 = .ok (.aload 6, 2) := by decide +kernel
theorem dL_gets_59 : decode cL_gets 59 = .ok (.aload 9, 2) := by decide +kernel
theorem dL_gets_61 : decode cL_gets 61 = .ok (.iload 13, 2) := by decide +kernel
theorem dL_gets_63 : decode cL_gets 63 = .ok (.invokestatic 187, 3) := by decide +kernel
theorem dL_gets_66 : decode cL_gets 66 = .ok (.ifCond .ne 7, 3) := by decide +kernel
theorem dL_gets_69 : decode cL_gets 69 = .ok (.iconst 4, 1) := by decide +kernel
theorem dL_gets_70 : decode cL_gets 70 = .ok (.goto 19, 3) := by decide +kernel
theorem dL_gets_73 : decode cL_gets 73 = .ok (.iload 11, 2) := by decide +kernel
theorem dL_gets_75 : decode cL_gets 75 = .ok (.iconst 2, 1) := by decide +kernel
theorem dL_gets_76 : decode cL_gets 76 = .ok (.if_icmp .ne 12, 3) := by decide +kernel
theorem dL_gets_79 : decode cL_gets 79 = .ok (.iload 18, 2) := by decide +kernel
theorem dL_gets_81 : decode cL_gets 81 = .ok (.ifCond .ge 7, 3) := by decide +kernel
theorem dL_gets_84 : decode cL_gets 84 = .ok (.iconst 5, 1) := by decide +kernel
theorem dL_gets_85 : decode cL_gets 85 = .ok (.goto 4, 3) := by decide +kernel
theorem dL_gets_88 : decode cL_gets 88 = .ok (.iconst (-1), 1) := by decide +kernel
theorem dL_gets_89 : decode cL_gets 89 = .ok (.istore 20, 2) := by decide +kernel
theorem dL_gets_91 : decode cL_gets 91 = .ok (.iconst (-1), 1) := by decide +kernel
theorem dL_gets_92 : decode cL_gets 92 = .ok (.istore 21, 2) := by decide +kernel
theorem dL_gets_94 : decode cL_gets 94 = .ok (.iload 11, 2) := by decide +kernel
theorem dL_gets_96 : decode cL_gets 96 = .ok (.ifCond .ne 7, 3) := by decide +kernel
theorem dL_gets_99 : decode cL_gets 99 = .ok (.iconst 0, 1) := by decide +kernel
theorem dL_gets_100 : decode cL_gets 100 = .ok (.goto 17, 3) := by decide +kernel
theorem dL_gets_103 : decode cL_gets 103 = .ok (.iload 16, 2) := by decide +kernel
theorem dL_gets_105 : decode cL_gets 105 = .ok (.ifCond .lt 10, 3) := by decide +kernel
theorem dL_gets_108 : decode cL_gets 108 = .ok (.iload 16, 2) := by decide +kernel
theorem dL_gets_110 : decode cL_gets 110 = .ok (.iconst 1, 1) := by decide +kernel
theorem dL_gets_111 : decode cL_gets 111 = .ok (.iadd, 1) := by decide +kernel
theorem dL_gets_112 : decode cL_gets 112 = .ok (.goto 5, 3) := by decide +kernel
theorem dL_gets_115 : decode cL_gets 115 = .ok (.iload 17, 2) := by decide +kernel
theorem dL_gets_117 : decode cL_gets 117 = .ok (.istore 22, 2) := by decide +kernel
theorem dL_gets_119 : decode cL_gets 119 = .ok (.iload 22, 2) := by decide +kernel
theorem dL_gets_121 : decode cL_gets 121 = .ok (.aload 5, 2) := by decide +kernel
theorem dL_gets_123 : decode cL_gets 123 = .ok (.iload 14, 2) := by decide +kernel
theorem dL_gets_125 : decode cL_gets 125 = .ok (.iaload, 1) := by decide +kernel
theorem dL_gets_126 : decode cL_gets 126 = .ok (.if_icmp .ge 99, 3) := by decide +kernel
theorem dL_gets_129 : decode cL_gets 129 = .ok (.iload 20, 2) := by decide +kernel
theorem dL_gets_131 : decode cL_gets 131 = .ok (.ifCond .ge 94, 3) := by decide +kernel
theorem dL_gets_134 : decode cL_gets 134 = .ok (.iload 21, 2) := by decide +kernel
theorem dL_gets_136 : decode cL_gets 136 = .ok (.ifCond .ge 89, 3) := by decide +kernel
theorem dL_gets_139 : decode cL_gets 139 = .ok (.iload 11, 2) := by decide +kernel
theorem dL_gets_141 : decode cL_gets 141 = .ok (.iconst 2, 1) := by decide +kernel
theorem dL_gets_142 : decode cL_gets 142 = .ok (.if_icmp .ne 28, 3) := by decide +kernel
theorem dL_gets_145 : decode cL_gets 145 = .ok (.iload 22, 2) := by decide +kernel
theorem dL_gets_147 : decode cL_gets 147 = .ok (.iload 18, 2) := by decide +kernel
theorem dL_gets_149 : decode cL_gets 149 = .ok (.if_icmp .le 25, 3) := by decide +kernel
theorem dL_gets_152 : decode cL_gets 152 = .ok (.iload 22, 2) := by decide +kernel
theorem dL_gets_154 : decode cL_gets 154 = .ok (.aload_n 1, 1) := by decide +kernel
theorem dL_gets_155 : decode cL_gets 155 = .ok (.aload 15, 2) := by decide +kernel
theorem dL_gets_157 : decode cL_gets 157 = .ok (.aload 5, 2) := by decide +kernel
theorem dL_gets_159 : decode cL_gets 159 = .ok (.iload 14, 2) := by decide +kernel
theorem dL_gets_161 : decode cL_gets 161 = .ok (.iaload, 1) := by decide +kernel
theorem dL_gets_162 : decode cL_gets 162 = .ok (.iload 18, 2) := by decide +kernel
theorem dL_gets_164 : decode cL_gets 164 = .ok (.invokestatic 163, 3) := by decide +kernel
theorem dL_gets_167 : decode cL_gets 167 = .ok (.if_icmp .ge 7, 3) := by decide +kernel
theorem dL_gets_170 : decode cL_gets 170 = .ok (.iconst 1, 1) := by decide +kernel
theorem dL_gets_171 : decode cL_gets 171 = .ok (.goto 4, 3) := by decide +kernel
theorem dL_gets_174 : decode cL_gets 174 = .ok (.iconst 0, 1) := by decide +kernel
theorem dL_gets_175 : decode cL_gets 175 = .ok (.istore 23, 2) := by decide +kernel
theorem dL_gets_177 : decode cL_gets 177 = .ok (.iload 23, 2) := by decide +kernel
theorem dL_gets_179 : decode cL_gets 179 = .ok (.ifCond .eq 36, 3) := by decide +kernel
theorem dL_gets_182 : decode cL_gets 182 = .ok (.aload_n 1, 1) := by decide +kernel
theorem dL_gets_183 : decode cL_gets 183 = .ok (.aload 15, 2) := by decide +kernel
theorem dL_gets_185 : decode cL_gets 185 = .ok (.aload 5, 2) := by decide +kernel
theorem dL_gets_187 : decode cL_gets 187 = .ok (.iload 14, 2) := by decide +kernel
theorem dL_gets_189 : decode cL_gets 189 = .ok (.iaload, 1) := by decide +kernel
theorem dL_gets_190 : decode cL_gets 190 = .ok (.aload 6, 2) := by decide +kernel
theorem dL_gets_192 : decode cL_gets 192 = .ok (.aload 7, 2) := by decide +kernel
theorem dL_gets_194 : decode cL_gets 194 = .ok (.aload 9, 2) := by decide +kernel
theorem dL_gets_196 : decode cL_gets 196 = .ok (.iconst 1, 1) := by decide +kernel
theorem dL_gets_197 : decode cL_gets 197 = .ok (.iaload, 1) := by decide +kernel
theorem dL_gets_198 : decode cL_gets 198 = .ok (.iload 13, 2) := by decide +kernel
theorem dL_gets_200 : decode cL_gets 200 = .ok (.iload 16, 2) := by decide +kernel
theorem dL_gets_202 : decode cL_gets 202 = .ok (.iload 22, 2) := by decide +kernel
theorem dL_gets_204 : decode cL_gets 204 = .ok (.invokestatic 191, 3) := by decide +kernel
theorem dL_gets_207 : decode cL_gets 207 = .ok (.ifCond .eq 8, 3) := by decide +kernel
theorem dL_gets_210 : decode cL_gets 210 = .ok (.iload 22, 2) := by decide +kernel
theorem dL_gets_212 : decode cL_gets 212 = .ok (.goto 5, 3) := by decide +kernel
theorem dL_gets_215 : decode cL_gets 215 = .ok (.iload 21, 2) := by decide +kernel
theorem dL_gets_217 : decode cL_gets 217 = .ok (.istore 21, 2) := by decide +kernel
theorem dL_gets_219 : decode cL_gets 219 = .ok (.iinc 22 1, 3) := by decide +kernel
theorem dL_gets_222 : decode cL_gets 222 = .ok (.goto (-103), 3) := by decide +kernel
theorem dL_gets_225 : decode cL_gets 225 = .ok (.aload 9, 2) := by decide +kernel
theorem dL_gets_227 : decode cL_gets 227 = .ok (.iconst 1, 1) := by decide +kernel
theorem dL_gets_228 : decode cL_gets 228 = .ok (.iaload, 1) := by decide +kernel
theorem dL_gets_229 : decode cL_gets 229 = .ok (.ifCond .ne 22, 3) := by decide +kernel
theorem dL_gets_232 : decode cL_gets 232 = .ok (.iload 11, 2) := by decide +kernel
theorem dL_gets_234 : decode cL_gets 234 = .ok (.ifCond .le 17, 3) := by decide +kernel
theorem dL_gets_237 : decode cL_gets 237 = .ok (.iload 16, 2) := by decide +kernel
theorem dL_gets_239 : decode cL_gets 239 = .ok (.ifCond .lt 12, 3) := by decide +kernel
theorem dL_gets_242 : decode cL_gets 242 = .ok (.iload 21, 2) := by decide +kernel
theorem dL_gets_244 : decode cL_gets 244 = .ok (.ifCond .lt 7, 3) := by decide +kernel
theorem dL_gets_247 : decode cL_gets 247 = .ok (.iconst 1, 1) := by decide +kernel
theorem dL_gets_248 : decode cL_gets 248 = .ok (.goto 4, 3) := by decide +kernel
theorem dL_gets_251 : decode cL_gets 251 = .ok (.iconst 0, 1) := by decide +kernel
theorem dL_gets_252 : decode cL_gets 252 = .ok (.istore 22, 2) := by decide +kernel
theorem dL_gets_254 : decode cL_gets 254 = .ok (.iload 21, 2) := by decide +kernel
theorem dL_gets_256 : decode cL_gets 256 = .ok (.ifCond .ge 7, 3) := by decide +kernel
theorem dL_gets_259 : decode cL_gets 259 = .ok (.iconst 0, 1) := by decide +kernel
theorem dL_gets_260 : decode cL_gets 260 = .ok (.goto 15, 3) := by decide +kernel
theorem dL_gets_263 : decode cL_gets 263 = .ok (.aload_n 1, 1) := by decide +kernel
theorem dL_gets_264 : decode cL_gets 264 = .ok (.aload 15, 2) := by decide +kernel
theorem dL_gets_266 : decode cL_gets 266 = .ok (.iload 21, 2) := by decide +kernel
theorem dL_gets_268 : decode cL_gets 268 = .ok (.laload, 1) := by decide +kernel
theorem dL_gets_269 : decode cL_gets 269 = .ok (.invokestatic 136, 3) := by decide +kernel
theorem dL_gets_272 : decode cL_gets 272 = .ok (.invokestatic 140, 3) := by decide +kernel
theorem dL_gets_275 : decode cL_gets 275 = .ok (.istore 23, 2) := by decide +kernel
theorem dL_gets_277 : decode cL_gets 277 = .ok (.iload 16, 2) := by decide +kernel
theorem dL_gets_279 : decode cL_gets 279 = .ok (.ifCond .ge 7, 3) := by decide +kernel
theorem dL_gets_282 : decode cL_gets 282 = .ok (.iconst 0, 1) := by decide +kernel
theorem dL_gets_283 : decode cL_gets 283 = .ok (.goto 15, 3) := by decide +kernel
theorem dL_gets_286 : decode cL_gets 286 = .ok (.aload_n 1, 1) := by decide +kernel
theorem dL_gets_287 : decode cL_gets 287 = .ok (.aload 15, 2) := by decide +kernel
theorem dL_gets_289 : decode cL_gets 289 = .ok (.iload 16, 2) := by decide +kernel
theorem dL_gets_291 : decode cL_gets 291 = .ok (.laload, 1) := by decide +kernel
theorem dL_gets_292 : decode cL_gets 292 = .ok (.invokestatic 136, 3) := by decide +kernel
theorem dL_gets_295 : decode cL_gets 295 = .ok (.invokestatic 140, 3) := by decide +kernel
theorem dL_gets_298 : decode cL_gets 298 = .ok (.istore 24, 2) := by decide +kernel
theorem dL_gets_300 : decode cL_gets 300 = .ok (.iload 20, 2) := by decide +kernel
theorem dL_gets_302 : decode cL_gets 302 = .ok (.ifCond .le 8, 3) := by decide +kernel
theorem dL_gets_305 : decode cL_gets 305 = .ok (.iload 20, 2) := by decide +kernel
theorem dL_gets_307 : decode cL_gets 307 = .ok (.goto 82, 3) := by decide +kernel
theorem dL_gets_310 : decode cL_gets 310 = .ok (.iload 21, 2) := by decide +kernel
theorem dL_gets_312 : decode cL_gets 312 = .ok (.ifCond .ge 25, 3) := by decide +kernel
theorem dL_gets_315 : decode cL_gets 315 = .ok (.iload 11, 2) := by decide +kernel
theorem dL_gets_317 : decode cL_gets 317 = .ok (.iconst 1, 1) := by decide +kernel
theorem dL_gets_318 : decode cL_gets 318 = .ok (.if_icmp .ne 14, 3) := by decide +kernel
theorem dL_gets_321 : decode cL_gets 321 = .ok (.aload 9, 2) := by decide +kernel
theorem dL_gets_323 : decode cL_gets 323 = .ok (.iconst 1, 1) := by decide +kernel
theorem dL_gets_324 : decode cL_gets 324 = .ok (.iaload, 1) := by decide +kernel
theorem dL_gets_325 : decode cL_gets 325 = .ok (.ifCond .ne 7, 3) := by decide +kernel
theorem dL_gets_328 : decode cL_gets 328 = .ok (.iconst 3, 1) := by decide +kernel
theorem dL_gets_329 : decode cL_gets 329 = .ok (.goto 60, 3) := by decide +kernel
theorem dL_gets_332 : decode cL_gets 332 = .ok (.bipush 7, 2) := by decide +kernel
theorem dL_gets_334 : decode cL_gets 334 = .ok (.goto 55, 3) := by decide +kernel
theorem dL_gets_337 : decode cL_gets 337 = .ok (.iload 22, 2) := by decide +kernel
theorem dL_gets_339 : decode cL_gets 339 = .ok (.ifCond .eq 14, 3) := by decide +kernel
theorem dL_gets_342 : decode cL_gets 342 = .ok (.iload 23, 2) := by decide +kernel
theorem dL_gets_344 : decode cL_gets 344 = .ok (.iload 24, 2) := by decide +kernel
theorem dL_gets_346 : decode cL_gets 346 = .ok (.if_icmp .ge 7, 3) := by decide +kernel
theorem dL_gets_349 : decode cL_gets 349 = .ok (.iconst 1, 1) := by decide +kernel
theorem dL_gets_350 : decode cL_gets 350 = .ok (.goto 39, 3) := by decide +kernel
theorem dL_gets_353 : decode cL_gets 353 = .ok (.iload 22, 2) := by decide +kernel
theorem dL_gets_355 : decode cL_gets 355 = .ok (.ifCond .eq 33, 3) := by decide +kernel
theorem dL_gets_358 : decode cL_gets 358 = .ok (.iload 23, 2) := by decide +kernel
theorem dL_gets_360 : decode cL_gets 360 = .ok (.iload 24, 2) := by decide +kernel
theorem dL_gets_362 : decode cL_gets 362 = .ok (.if_icmp .ne 26, 3) := by decide +kernel
theorem dL_gets_365 : decode cL_gets 365 = .ok (.aload 15, 2) := by decide +kernel
theorem dL_gets_367 : decode cL_gets 367 = .ok (.iload 21, 2) := by decide +kernel
theorem dL_gets_369 : decode cL_gets 369 = .ok (.laload, 1) := by decide +kernel
theorem dL_gets_370 : decode cL_gets 370 = .ok (.invokestatic 136, 3) := by decide +kernel
theorem dL_gets_373 : decode cL_gets 373 = .ok (.aload 15, 2) := by decide +kernel
theorem dL_gets_375 : decode cL_gets 375 = .ok (.iload 16, 2) := by decide +kernel
theorem dL_gets_377 : decode cL_gets 377 = .ok (.laload, 1) := by decide +kernel
theorem dL_gets_378 : decode cL_gets 378 = .ok (.invokestatic 136, 3) := by decide +kernel
theorem dL_gets_381 : decode cL_gets 381 = .ok (.if_icmp .eq 7, 3) := by decide +kernel
theorem dL_gets_384 : decode cL_gets 384 = .ok (.iconst 2, 1) := by decide +kernel
theorem dL_gets_385 : decode cL_gets 385 = .ok (.goto 4, 3) := by decide +kernel
theorem dL_gets_388 : decode cL_gets 388 = .ok (.iconst 0, 1) := by decide +kernel
theorem dL_gets_389 : decode cL_gets 389 = .ok (.istore 20, 2) := by decide +kernel
theorem dL_gets_391 : decode cL_gets 391 = .ok (.aload_n 0, 1) := by decide +kernel
theorem dL_gets_392 : decode cL_gets 392 = .ok (.iload 10, 2) := by decide +kernel
theorem dL_gets_394 : decode cL_gets 394 = .ok (.iload 11, 2) := by decide +kernel
theorem dL_gets_396 : decode cL_gets 396 = .ok (.iload 12, 2) := by decide +kernel
theorem dL_gets_398 : decode cL_gets 398 = .ok (.invokestatic 195, 3) := by decide +kernel
theorem dL_gets_401 : decode cL_gets 401 = .ok (.iload 20, 2) := by decide +kernel
theorem dL_gets_403 : decode cL_gets 403 = .ok (.if_icmp .eq 5, 3) := by decide +kernel
theorem dL_gets_406 : decode cL_gets 406 = .ok (.iconst 0, 1) := by decide +kernel
theorem dL_gets_407 : decode cL_gets 407 = .ok (.ireturn, 1) := by decide +kernel
theorem dL_gets_408 : decode cL_gets 408 = .ok (.aload 9, 2) := by decide +kernel
theorem dL_gets_410 : decode cL_gets 410 = .ok (.iconst 1, 1) := by decide +kernel
theorem dL_gets_411 : decode cL_gets 411 = .ok (.iaload, 1) := by decide +kernel
theorem dL_gets_412 : decode cL_gets 412 = .ok (.istore 25, 2) := by decide +kernel
theorem dL_gets_414 : decode cL_gets 414 = .ok (.aload 9, 2) := by decide +kernel
theorem dL_gets_416 : decode cL_gets 416 = .ok (.iconst 1, 1) := by decide +kernel
theorem dL_gets_417 : decode cL_gets 417 = .ok (.iconst 0, 1) := by decide +kernel
theorem dL_gets_418 : decode cL_gets 418 = .ok (.iastore, 1) := by decide +kernel
theorem dL_gets_419 : decode cL_gets 419 = .ok (.iload 21, 2) := by decide +kernel
theorem dL_gets_421 : decode cL_gets 421 = .ok (.ifCond .ge 90, 3) := by decide +kernel
theorem dL_gets_424 : decode cL_gets 424 = .ok (.aload_n 0, 1) := by decide +kernel
theorem dL_gets_425 : decode cL_gets 425 = .ok (.iload 10, 2) := by decide +kernel
theorem dL_gets_427 : decode cL_gets 427 = .ok (.invokestatic 198, 3) := by decide +kernel
theorem dL_gets_430 : decode cL_gets 430 = .ok (.ifCond .ne 79, 3) := by decide +kernel
theorem dL_gets_433 : decode cL_gets 433 = .ok (.aload_n 0, 1) := by decide +kernel
theorem dL_gets_434 : decode cL_gets 434 = .ok (.iload 10, 2) := by decide +kernel
theorem dL_gets_436 : decode cL_gets 436 = .ok (.invokestatic 183, 3) := by decide +kernel
theorem dL_gets_439 : decode cL_gets 439 = .ok (.iload 18, 2) := by decide +kernel
theorem dL_gets_441 : decode cL_gets 441 = .ok (.if_icmp .ne 68, 3) := by decide +kernel
theorem dL_gets_444 : decode cL_gets 444 = .ok (.aload_n 0, 1) := by decide +kernel
theorem dL_gets_445 : decode cL_gets 445 = .ok (.iconst 3, 1) := by decide +kernel
theorem dL_gets_446 : decode cL_gets 446 = .ok (.iconst 1, 1) := by decide +kernel
theorem dL_gets_447 : decode cL_gets 447 = .ok (.invokestatic 185, 3) := by decide +kernel
theorem dL_gets_450 : decode cL_gets 450 = .ok (.iload 19, 2) := by decide +kernel
theorem dL_gets_452 : decode cL_gets 452 = .ok (.if_icmp .ne 57, 3) := by decide +kernel
theorem dL_gets_455 : decode cL_gets 455 = .ok (.iload 20, 2) := by decide +kernel
theorem dL_gets_457 : decode cL_gets 457 = .ok (.iconst 3, 1) := by decide +kernel
theorem dL_gets_458 : decode cL_gets 458 = .ok (.if_icmp .ne 25, 3) := by decide +kernel
theorem dL_gets_461 : decode cL_gets 461 = .ok (.aload_n 0, 1) := by decide +kernel
theorem dL_gets_462 : decode cL_gets 462 = .ok (.iload 10, 2) := by decide +kernel
theorem dL_gets_464 : decode cL_gets 464 = .ok (.invokestatic 178, 3) := by decide +kernel
theorem dL_gets_467 : decode cL_gets 467 = .ok (.iconst (-1), 1) := by decide +kernel
theorem dL_gets_468 : decode cL_gets 468 = .ok (.if_icmp .ne 41, 3) := by decide +kernel
theorem dL_gets_471 : decode cL_gets 471 = .ok (.aload_n 0, 1) := by decide +kernel
theorem dL_gets_472 : decode cL_gets 472 = .ok (.iload 10, 2) := by decide +kernel
theorem dL_gets_474 : decode cL_gets 474 = .ok (.invokestatic 181, 3) := by decide +kernel
theorem dL_gets_477 : decode cL_gets 477 = .ok (.ifCond .ne 32, 3) := by decide +kernel
theorem dL_gets_480 : decode cL_gets 480 = .ok (.goto 25, 3) := by decide +kernel
theorem dL_gets_483 : decode cL_gets 483 = .ok (.aload_n 0, 1) := by decide +kernel
theorem dL_gets_484 : decode cL_gets 484 = .ok (.iload 10, 2) := by decide +kernel
theorem dL_gets_486 : decode cL_gets 486 = .ok (.invokestatic 178, 3) := by decide +kernel
theorem dL_gets_489 : decode cL_gets 489 = .ok (.iload 16, 2) := by decide +kernel
theorem dL_gets_491 : decode cL_gets 491 = .ok (.if_icmp .ne 18, 3) := by decide +kernel
theorem dL_gets_494 : decode cL_gets 494 = .ok (.aload_n 0, 1) := by decide +kernel
theorem dL_gets_495 : decode cL_gets 495 = .ok (.iload 10, 2) := by decide +kernel
theorem dL_gets_497 : decode cL_gets 497 = .ok (.invokestatic 181, 3) := by decide +kernel
theorem dL_gets_500 : decode cL_gets 500 = .ok (.iload 17, 2) := by decide +kernel
theorem dL_gets_502 : decode cL_gets 502 = .ok (.if_icmp .ne 7, 3) := by decide +kernel
theorem dL_gets_505 : decode cL_gets 505 = .ok (.iconst 1, 1) := by decide +kernel
theorem dL_gets_506 : decode cL_gets 506 = .ok (.goto 4, 3) := by decide +kernel
theorem dL_gets_509 : decode cL_gets 509 = .ok (.iconst 0, 1) := by decide +kernel
theorem dL_gets_510 : decode cL_gets 510 = .ok (.ireturn, 1) := by decide +kernel
theorem dL_gets_511 : decode cL_gets 511 = .ok (.iconst 0, 1) := by decide +kernel
theorem dL_gets_512 : decode cL_gets 512 = .ok (.istore 26, 2) := by decide +kernel
theorem dL_gets_514 : decode cL_gets 514 = .ok (.iload 21, 2) := by decide +kernel
theorem dL_gets_516 : decode cL_gets 516 = .ok (.istore 27, 2) := by decide +kernel
theorem dL_gets_518 : decode cL_gets 518 = .ok (.aload_n 0, 1) := by decide +kernel
theorem dL_gets_519 : decode cL_gets 519 = .ok (.iload 10, 2) := by decide +kernel
theorem dL_gets_521 : decode cL_gets 521 = .ok (.invokestatic 178, 3) := by decide +kernel
theorem dL_gets_524 : decode cL_gets 524 = .ok (.iload 21, 2) := by decide +kernel
theorem dL_gets_526 : decode cL_gets 526 = .ok (.if_icmp .ne 18, 3) := by decide +kernel
theorem dL_gets_529 : decode cL_gets 529 = .ok (.aload_n 0, 1) := by decide +kernel
theorem dL_gets_530 : decode cL_gets 530 = .ok (.iload 10, 2) := by decide +kernel
theorem dL_gets_532 : decode cL_gets 532 = .ok (.invokestatic 181, 3) := by decide +kernel
theorem dL_gets_535 : decode cL_gets 535 = .ok (.iload 21, 2) := by decide +kernel
theorem dL_gets_537 : decode cL_gets 537 = .ok (.if_icmp .ne 7, 3) := by decide +kernel
theorem dL_gets_540 : decode cL_gets 540 = .ok (.iconst 1, 1) := by decide +kernel
theorem dL_gets_541 : decode cL_gets 541 = .ok (.goto 4, 3) := by decide +kernel
theorem dL_gets_544 : decode cL_gets 544 = .ok (.iconst 0, 1) := by decide +kernel
theorem dL_gets_545 : decode cL_gets 545 = .ok (.istore 28, 2) := by decide +kernel
theorem dL_gets_547 : decode cL_gets 547 = .ok (.iconst 0, 1) := by decide +kernel
theorem dL_gets_548 : decode cL_gets 548 = .ok (.istore 29, 2) := by decide +kernel
theorem dL_gets_550 : decode cL_gets 550 = .ok (.iload 29, 2) := by decide +kernel
theorem dL_gets_552 : decode cL_gets 552 = .ok (.iload 25, 2) := by decide +kernel
theorem dL_gets_554 : decode cL_gets 554 = .ok (.if_icmp .lt 8, 3) := by decide +kernel
theorem dL_gets_557 : decode cL_gets 557 = .ok (.iload 29, 2) := by decide +kernel
theorem dL_gets_559 : decode cL_gets 559 = .ok (.ifCond .ne 145, 3) := by decide +kernel
theorem dL_gets_562 : decode cL_gets 562 = .ok (.iload 25, 2) := by decide +kernel
theorem dL_gets_564 : decode cL_gets 564 = .ok (.ifCond .ne 8, 3) := by decide +kernel
theorem dL_gets_567 : decode cL_gets 567 = .ok (.iload 21, 2) := by decide +kernel
theorem dL_gets_569 : decode cL_gets 569 = .ok (.goto 19, 3) := by decide +kernel
theorem dL_gets_572 : decode cL_gets 572 = .ok (.aload_n 1, 1) := by decide +kernel
theorem dL_gets_573 : decode cL_gets 573 = .ok (.aload 15, 2) := by decide +kernel
theorem dL_gets_575 : decode cL_gets 575 = .ok (.iload 21, 2) := by decide +kernel
theorem dL_gets_577 : decode cL_gets 577 = .ok (.aload 6, 2) := by decide +kernel
theorem dL_gets_579 : decode cL_gets 579 = .ok (.iload 29, 2) := by decide +kernel
theorem dL_gets_581 : decode cL_gets 581 = .ok (.iaload, 1) := by decide +kernel
theorem dL_gets_582 : decode cL_gets 582 = .ok (.bipush 16, 2) := by decide +kernel
theorem dL_gets_584 : decode cL_gets 584 = .ok (.irem, 1) := by decide +kernel
theorem dL_gets_585 : decode cL_gets 585 = .ok (.invokestatic 155, 3) := by decide +kernel
theorem dL_gets_588 : decode cL_gets 588 = .ok (.istore 30, 2) := by decide +kernel
theorem dL_gets_590 : decode cL_gets 590 = .ok (.iload 25, 2) := by decide +kernel
theorem dL_gets_592 : decode cL_gets 592 = .ok (.ifCond .eq 26, 3) := by decide +kernel
theorem dL_gets_595 : decode cL_gets 595 = .ok (.aload 6, 2) := by decide +kernel
theorem dL_gets_597 : decode cL_gets 597 = .ok (.iload 29, 2) := by decide +kernel
theorem dL_gets_599 : decode cL_gets 599 = .ok (.iaload, 1) := by decide +kernel
theorem dL_gets_600 : decode cL_gets 600 = .ok (.bipush 16, 2) := by decide +kernel
theorem dL_gets_602 : decode cL_gets 602 = .ok (.idiv, 1) := by decide +kernel
theorem dL_gets_603 : decode cL_gets 603 = .ok (.iconst 2, 1) := by decide +kernel
theorem dL_gets_604 : decode cL_gets 604 = .ok (.irem, 1) := by decide +kernel
theorem dL_gets_605 : decode cL_gets 605 = .ok (.iconst 1, 1) := by decide +kernel
theorem dL_gets_606 : decode cL_gets 606 = .ok (.if_icmp .eq 12, 3) := by decide +kernel
theorem dL_gets_609 : decode cL_gets 609 = .ok (.iload 29, 2) := by decide +kernel
theorem dL_gets_611 : decode cL_gets 611 = .ok (.iload 25, 2) := by decide +kernel
theorem dL_gets_613 : decode cL_gets 613 = .ok (.iconst 1, 1) := by decide +kernel
theorem dL_gets_614 : decode cL_gets 614 = .ok (.isub, 1) := by decide +kernel
theorem dL_gets_615 : decode cL_gets 615 = .ok (.if_icmp .ne 54, 3) := by decide +kernel
theorem dL_gets_618 : decode cL_gets 618 = .ok (.iconst 0, 1) := by decide +kernel
theorem dL_gets_619 : decode cL_gets 619 = .ok (.istore 31, 2) := by decide +kernel
theorem dL_gets_621 : decode cL_gets 621 = .ok (.iload 31, 2) := by decide +kernel
theorem dL_gets_623 : decode cL_gets 623 = .ok (.iconst 3, 1) := by decide +kernel
theorem dL_gets_624 : decode cL_gets 624 = .ok (.if_icmp .ge 42, 3) := by decide +kernel
theorem dL_gets_627 : decode cL_gets 627 = .ok (.iload 28, 2) := by decide +kernel
theorem dL_gets_629 : decode cL_gets 629 = .ok (.ifCond .eq 28, 3) := by decide +kernel
theorem dL_gets_632 : decode cL_gets 632 = .ok (.aload_n 0, 1) := by decide +kernel
theorem dL_gets_633 : decode cL_gets 633 = .ok (.iload 26, 2) := by decide +kernel
theorem dL_gets_635 : decode cL_gets 635 = .ok (.iload 31, 2) := by decide +kernel
theorem dL_gets_637 : decode cL_gets 637 = .ok (.invokestatic 185, 3) := by decide +kernel
theorem dL_gets_640 : decode cL_gets 640 = .ok (.aload 15, 2) := by decide +kernel
theorem dL_gets_642 : decode cL_gets 642 = .ok (.iload 30, 2) := by decide +kernel
theorem dL_gets_644 : decode cL_gets 644 = .ok (.laload, 1) := by decide +kernel
theorem dL_gets_645 : decode cL_gets 645 = .ok (.iload 31, 2) := by decide +kernel
theorem dL_gets_647 : decode cL_gets 647 = .ok (.invokestatic 143, 3) := by decide +kernel
theorem dL_gets_650 : decode cL_gets 650 = .ok (.if_icmp .ne 7, 3) := by decide +kernel
theorem dL_gets_653 : decode cL_gets 653 = .ok (.iconst 1, 1) := by decide +kernel
theorem dL_gets_654 : decode cL_gets 654 = .ok (.goto 4, 3) := by decide +kernel
theorem dL_gets_657 : decode cL_gets 657 = .ok (.iconst 0, 1) := by decide +kernel
theorem dL_gets_658 : decode cL_gets 658 = .ok (.istore 28, 2) := by decide +kernel
theorem dL_gets_660 : decode cL_gets 660 = .ok (.iinc 31 1, 3) := by decide +kernel
theorem dL_gets_663 : decode cL_gets 663 = .ok (.goto (-42), 3) := by decide +kernel
theorem dL_gets_666 : decode cL_gets 666 = .ok (.iinc 26 1, 3) := by decide +kernel
theorem dL_gets_669 : decode cL_gets 669 = .ok (.iload 25, 2) := by decide +kernel
theorem dL_gets_671 : decode cL_gets 671 = .ok (.ifCond .le 23, 3) := by decide +kernel
theorem dL_gets_674 : decode cL_gets 674 = .ok (.aload 6, 2) := by decide +kernel
theorem dL_gets_676 : decode cL_gets 676 = .ok (.iload 29, 2) := by decide +kernel
theorem dL_gets_678 : decode cL_gets 678 = .ok (.iaload, 1) := by decide +kernel
theorem dL_gets_679 : decode cL_gets 679 = .ok (.sipush 256, 3) := by decide +kernel
theorem dL_gets_682 : decode cL_gets 682 = .ok (.idiv, 1) := by decide +kernel
theorem dL_gets_683 : decode cL_gets 683 = .ok (.iconst 2, 1) := by decide +kernel
theorem dL_gets_684 : decode cL_gets 684 = .ok (.irem, 1) := by decide +kernel
theorem dL_gets_685 : decode cL_gets 685 = .ok (.iconst 1, 1) := by decide +kernel
theorem dL_gets_686 : decode cL_gets 686 = .ok (.if_icmp .ne 8, 3) := by decide +kernel
theorem dL_gets_689 : decode cL_gets 689 = .ok (.iload 30, 2) := by decide +kernel
theorem dL_gets_691 : decode cL_gets 691 = .ok (.goto 5, 3) := by decide +kernel
theorem dL_gets_694 : decode cL_gets 694 = .ok (.iload 27, 2) := by decide +kernel
theorem dL_gets_696 : decode cL_gets 696 = .ok (.istore 27, 2) := by decide +kernel
theorem dL_gets_698 : decode cL_gets 698 = .ok (.iinc 29 1, 3) := by decide +kernel
theorem dL_gets_701 : decode cL_gets 701 = .ok (.goto (-151), 3) := by decide +kernel
theorem dL_gets_704 : decode cL_gets 704 = .ok (.iload 28, 2) := by decide +kernel
theorem dL_gets_706 : decode cL_gets 706 = .ok (.ifCond .eq 69, 3) := by decide +kernel
theorem dL_gets_709 : decode cL_gets 709 = .ok (.aload_n 0, 1) := by decide +kernel
theorem dL_gets_710 : decode cL_gets 710 = .ok (.iload 10, 2) := by decide +kernel
theorem dL_gets_712 : decode cL_gets 712 = .ok (.invokestatic 183, 3) := by decide +kernel
theorem dL_gets_715 : decode cL_gets 715 = .ok (.iload 11, 2) := by decide +kernel
theorem dL_gets_717 : decode cL_gets 717 = .ok (.iconst 2, 1) := by decide +kernel
theorem dL_gets_718 : decode cL_gets 718 = .ok (.if_icmp .ne 8, 3) := by decide +kernel
theorem dL_gets_721 : decode cL_gets 721 = .ok (.iload 18, 2) := by decide +kernel
theorem dL_gets_723 : decode cL_gets 723 = .ok (.goto 5, 3) := by decide +kernel
theorem dL_gets_726 : decode cL_gets 726 = .ok (.iload 27, 2) := by decide +kernel
theorem dL_gets_728 : decode cL_gets 728 = .ok (.if_icmp .ne 47, 3) := by decide +kernel
theorem dL_gets_731 : decode cL_gets 731 = .ok (.aload_n 0, 1) := by decide +kernel
theorem dL_gets_732 : decode cL_gets 732 = .ok (.iload 10, 2) := by decide +kernel
theorem dL_gets_734 : decode cL_gets 734 = .ok (.invokestatic 198, 3) := by decide +kernel
theorem dL_gets_737 : decode cL_gets 737 = .ok (.iload 12, 2) := by decide +kernel
theorem dL_gets_739 : decode cL_gets 739 = .ok (.ifCond .eq 8, 3) := by decide +kernel
theorem dL_gets_742 : decode cL_gets 742 = .ok (.iload 26, 2) := by decide +kernel
theorem dL_gets_744 : decode cL_gets 744 = .ok (.goto 4, 3) := by decide +kernel
theorem dL_gets_747 : decode cL_gets 747 = .ok (.iconst 0, 1) := by decide +kernel
theorem dL_gets_748 : decode cL_gets 748 = .ok (.if_icmp .ne 27, 3) := by decide +kernel
theorem dL_gets_751 : decode cL_gets 751 = .ok (.aload_n 0, 1) := by decide +kernel
theorem dL_gets_752 : decode cL_gets 752 = .ok (.aload_n 1, 1) := by decide +kernel
theorem dL_gets_753 : decode cL_gets 753 = .ok (.aload 15, 2) := by decide +kernel
theorem dL_gets_755 : decode cL_gets 755 = .ok (.aload_n 2, 1) := by decide +kernel
theorem dL_gets_756 : decode cL_gets 756 = .ok (.aload_n 3, 1) := by decide +kernel
theorem dL_gets_757 : decode cL_gets 757 = .ok (.aload 4, 2) := by decide +kernel
theorem dL_gets_759 : decode cL_gets 759 = .ok (.aload 5, 2) := by decide +kernel
theorem dL_gets_761 : decode cL_gets 761 = .ok (.iload 10, 2) := by decide +kernel
theorem dL_gets_763 : decode cL_gets 763 = .ok (.iload 21, 2) := by decide +kernel
theorem dL_gets_765 : decode cL_gets 765 = .ok (.invokestatic 200, 3) := by decide +kernel
theorem dL_gets_768 : decode cL_gets 768 = .ok (.ifCond .eq 7, 3) := by decide +kernel
theorem dL_gets_771 : decode cL_gets 771 = .ok (.iconst 1, 1) := by decide +kernel
theorem dL_gets_772 : decode cL_gets 772 = .ok (.goto 4, 3) := by decide +kernel
theorem dL_gets_775 : decode cL_gets 775 = .ok (.iconst 0, 1) := by decide +kernel
theorem dL_gets_776 : decode cL_gets 776 = .ok (.ireturn, 1) := by decide +kernel
theorem dL_told_0 : decode cL_told 0 = .ok (.lconst 0, 1) := by decide +kernel
theorem dL_told_1 : decode cL_told 1 = .ok (.lstore 9, 2) := by decide +kernel
theorem dL_told_3 : decode cL_told 3 = .ok (.lconst 1, 1) := by decide +kernel
theorem dL_told_4 : decode cL_told 4 = .ok (.lstore 11, 2) := by decide +kernel
theorem dL_told_6 : decode cL_told 6 = .ok (.iload 8, 2) := by decide +kernel
theorem dL_told_8 : decode cL_told 8 = .ok (.istore 13, 2) := by decide +kernel
theorem dL_told_10 : decode cL_told 10 = .ok (.iload 13, 2) := by decide +kernel
theorem dL_told_12 : decode cL_told 12 = .ok (.ifCond .lt 40, 3) := by decide +kernel
theorem dL_told_15 : decode cL_told 15 = .ok (.lload 9, 2) := by decide +kernel
theorem dL_told_17 : decode cL_told 17 = .ok (.lload 11, 2) := by decide +kernel
theorem dL_told_19 : decode cL_told 19 = .ok (.aload_n 2, 1) := by decide +kernel
theorem dL_told_20 : decode cL_told 20 = .ok (.iload 13, 2) := by decide +kernel
theorem dL_told_22 : decode cL_told 22 = .ok (.laload, 1) := by decide +kernel
theorem dL_told_23 : decode cL_told 23 = .ok (.iconst 0, 1) := by decide +kernel
theorem dL_told_24 : decode cL_told 24 = .ok (.invokestatic 143, 3) := by decide +kernel
theorem dL_told_27 : decode cL_told 27 = .ok (.i2l, 1) := by decide +kernel
theorem dL_told_28 : decode cL_told 28 = .ok (.lmul, 1) := by decide +kernel
theorem dL_told_29 : decode cL_told 29 = .ok (.ladd, 1) := by decide +kernel
theorem dL_told_30 : decode cL_told 30 = .ok (.lstore 9, 2) := by decide +kernel
theorem dL_told_32 : decode cL_told 32 = .ok (.lload 11, 2) := by decide +kernel
theorem dL_told_34 : decode cL_told 34 = .ok (.ldc2_w 204, 3) := by decide +kernel
theorem dL_told_37 : decode cL_told 37 = .ok (.lmul, 1) := by decide +kernel
theorem dL_told_38 : decode cL_told 38 = .ok (.lstore 11, 2) := by decide +kernel
theorem dL_told_40 : decode cL_told 40 = .ok (.aload_n 1, 1) := by decide +kernel
theorem dL_told_41 : decode cL_told 41 = .ok (.aload_n 2, 1) := by decide +kernel
theorem dL_told_42 : decode cL_told 42 = .ok (.iload 13, 2) := by decide +kernel
theorem dL_told_44 : decode cL_told 44 = .ok (.invokestatic 132, 3) := by decide +kernel
theorem dL_told_47 : decode cL_told 47 = .ok (.istore 13, 2) := by decide +kernel
theorem dL_told_49 : decode cL_told 49 = .ok (.goto (-39), 3) := by decide +kernel
theorem dL_told_52 : decode cL_told 52 = .ok (.aload_n 2, 1) := by decide +kernel
theorem dL_told_53 : decode cL_told 53 = .ok (.iload 8, 2) := by decide +kernel
theorem dL_told_55 : decode cL_told 55 = .ok (.laload, 1) := by decide +kernel
theorem dL_told_56 : decode cL_told 56 = .ok (.invokestatic 136, 3) := by decide +kernel
theorem dL_told_59 : decode cL_told 59 = .ok (.istore 13, 2) := by decide +kernel
theorem dL_told_61 : decode cL_told 61 = .ok (.aload_n 1, 1) := by decide +kernel
theorem dL_told_62 : decode cL_told 62 = .ok (.iload 13, 2) := by decide +kernel
theorem dL_told_64 : decode cL_told 64 = .ok (.invokestatic 206, 3) := by decide +kernel
theorem dL_told_67 : decode cL_told 67 = .ok (.ifCond .ge 7, 3) := by decide +kernel
theorem dL_told_70 : decode cL_told 70 = .ok (.iconst (-1), 1) := by decide +kernel
theorem dL_told_71 : decode cL_told 71 = .ok (.goto 28, 3) := by decide +kernel
theorem dL_told_74 : decode cL_told 74 = .ok (.aload_n 1, 1) := by decide +kernel
theorem dL_told_75 : decode cL_told 75 = .ok (.aload_n 3, 1) := by decide +kernel
theorem dL_told_76 : decode cL_told 76 = .ok (.aload 4, 2) := by decide +kernel
theorem dL_told_78 : decode cL_told 78 = .ok (.aload 5, 2) := by decide +kernel
theorem dL_told_80 : decode cL_told 80 = .ok (.aload 6, 2) := by decide +kernel
theorem dL_told_82 : decode cL_told 82 = .ok (.aload_n 1, 1) := by decide +kernel
theorem dL_told_83 : decode cL_told 83 = .ok (.iload 13, 2) := by decide +kernel
theorem dL_told_85 : decode cL_told 85 = .ok (.invokestatic 206, 3) := by decide +kernel
theorem dL_told_88 : decode cL_told 88 = .ok (.aload_n 2, 1) := by decide +kernel
theorem dL_told_89 : decode cL_told 89 = .ok (.iload 8, 2) := by decide +kernel
theorem dL_told_91 : decode cL_told 91 = .ok (.laload, 1) := by decide +kernel
theorem dL_told_92 : decode cL_told 92 = .ok (.iconst 2, 1) := by decide +kernel
theorem dL_told_93 : decode cL_told 93 = .ok (.invokestatic 143, 3) := by decide +kernel
theorem dL_told_96 : decode cL_told 96 = .ok (.invokestatic 209, 3) := by decide +kernel
theorem dL_told_99 : decode cL_told 99 = .ok (.istore 14, 2) := by decide +kernel
theorem dL_told_101 : decode cL_told 101 = .ok (.iconst 0, 1) := by decide +kernel
theorem dL_told_102 : decode cL_told 102 = .ok (.istore 15, 2) := by decide +kernel
theorem dL_told_104 : decode cL_told 104 = .ok (.iconst 0, 1) := by decide +kernel
theorem dL_told_105 : decode cL_told 105 = .ok (.istore 16, 2) := by decide +kernel
theorem dL_told_107 : decode cL_told 107 = .ok (.iload 16, 2) := by decide +kernel
theorem dL_told_109 : decode cL_told 109 = .ok (.iconst 3, 1) := by decide +kernel
theorem dL_told_110 : decode cL_told 110 = .ok (.if_icmp .ge 87, 3) := by decide +kernel
theorem dL_told_113 : decode cL_told 113 = .ok (.iload 16, 2) := by decide +kernel
theorem dL_told_115 : decode cL_told 115 = .ok (.aload_n 3, 1) := by decide +kernel
theorem dL_told_116 : decode cL_told 116 = .ok (.aload 4, 2) := by decide +kernel
theorem dL_told_118 : decode cL_told 118 = .ok (.aload 5, 2) := by decide +kernel
theorem dL_told_120 : decode cL_told 120 = .ok (.invokestatic 102, 3) := by decide +kernel
theorem dL_told_123 : decode cL_told 123 = .ok (.astore 17, 2) := by decide +kernel
theorem dL_told_125 : decode cL_told 125 = .ok (.iconst 0, 1) := by decide +kernel
theorem dL_told_126 : decode cL_told 126 = .ok (.istore 18, 2) := by decide +kernel
theorem dL_told_128 : decode cL_told 128 = .ok (.iload 18, 2) := by decide +kernel
theorem dL_told_130 : decode cL_told 130 = .ok (.aload 6, 2) := by decide +kernel
theorem dL_told_132 : decode cL_told 132 = .ok (.iload 16, 2) := by decide +kernel
theorem dL_told_134 : decode cL_told 134 = .ok (.iaload, 1) := by decide +kernel
theorem dL_told_135 : decode cL_told 135 = .ok (.if_icmp .ge 56, 3) := by decide +kernel
theorem dL_told_138 : decode cL_told 138 = .ok (.iload 15, 2) := by decide +kernel
theorem dL_told_140 : decode cL_told 140 = .ok (.aload_n 1, 1) := by decide +kernel
theorem dL_told_141 : decode cL_told 141 = .ok (.aload 17, 2) := by decide +kernel
theorem dL_told_143 : decode cL_told 143 = .ok (.iload 18, 2) := by decide +kernel
theorem dL_told_145 : decode cL_told 145 = .ok (.laload, 1) := by decide +kernel
theorem dL_told_146 : decode cL_told 146 = .ok (.invokestatic 136, 3) := by decide +kernel
theorem dL_told_149 : decode cL_told 149 = .ok (.invokestatic 206, 3) := by decide +kernel
theorem dL_told_152 : decode cL_told 152 = .ok (.iload 13, 2) := by decide +kernel
theorem dL_told_154 : decode cL_told 154 = .ok (.if_icmp .ne 27, 3) := by decide +kernel
theorem dL_told_157 : decode cL_told 157 = .ok (.aload 17, 2) := by decide +kernel
theorem dL_told_159 : decode cL_told 159 = .ok (.iload 18, 2) := by decide +kernel
theorem dL_told_161 : decode cL_told 161 = .ok (.laload, 1) := by decide +kernel
theorem dL_told_162 : decode cL_told 162 = .ok (.iconst 2, 1) := by decide +kernel
theorem dL_told_163 : decode cL_told 163 = .ok (.invokestatic 143, 3) := by decide +kernel
theorem dL_told_166 : decode cL_told 166 = .ok (.aload_n 2, 1) := by decide +kernel
theorem dL_told_167 : decode cL_told 167 = .ok (.iload 8, 2) := by decide +kernel
theorem dL_told_169 : decode cL_told 169 = .ok (.laload, 1) := by decide +kernel
theorem dL_told_170 : decode cL_told 170 = .ok (.iconst 0, 1) := by decide +kernel
theorem dL_told_171 : decode cL_told 171 = .ok (.invokestatic 143, 3) := by decide +kernel
theorem dL_told_174 : decode cL_told 174 = .ok (.if_icmp .ne 7, 3) := by decide +kernel
theorem dL_told_177 : decode cL_told 177 = .ok (.iconst 1, 1) := by decide +kernel
theorem dL_told_178 : decode cL_told 178 = .ok (.goto 4, 3) := by decide +kernel
theorem dL_told_181 : decode cL_told 181 = .ok (.iconst 0, 1) := by decide +kernel
theorem dL_told_182 : decode cL_told 182 = .ok (.iadd, 1) := by decide +kernel
theorem dL_told_183 : decode cL_told 183 = .ok (.istore 15, 2) := by decide +kernel
theorem dL_told_185 : decode cL_told 185 = .ok (.iinc 18 1, 3) := by decide +kernel
theorem dL_told_188 : decode cL_told 188 = .ok (.goto (-60), 3) := by decide +kernel
theorem dL_told_191 : decode cL_told 191 = .ok (.iinc 16 1, 3) := by decide +kernel
theorem dL_told_194 : decode cL_told 194 = .ok (.goto (-87), 3) := by decide +kernel
theorem dL_told_197 : decode cL_told 197 = .ok (.aload_n 0, 1) := by decide +kernel
theorem dL_told_198 : decode cL_told 198 = .ok (.iload 7, 2) := by decide +kernel
theorem dL_told_200 : decode cL_told 200 = .ok (.invokestatic 213, 3) := by decide +kernel
theorem dL_told_203 : decode cL_told 203 = .ok (.lload 9, 2) := by decide +kernel
theorem dL_told_205 : decode cL_told 205 = .ok (.lcmp, 1) := by decide +kernel
theorem dL_told_206 : decode cL_told 206 = .ok (.ifCond .ne 29, 3) := by decide +kernel
theorem dL_told_209 : decode cL_told 209 = .ok (.aload_n 0, 1) := by decide +kernel
theorem dL_told_210 : decode cL_told 210 = .ok (.iload 7, 2) := by decide +kernel
theorem dL_told_212 : decode cL_told 212 = .ok (.invokestatic 216, 3) := by decide +kernel
theorem dL_told_215 : decode cL_told 215 = .ok (.iload 14, 2) := by decide +kernel
theorem dL_told_217 : decode cL_told 217 = .ok (.if_icmp .ne 18, 3) := by decide +kernel
theorem dL_told_220 : decode cL_told 220 = .ok (.aload_n 0, 1) := by decide +kernel
theorem dL_told_221 : decode cL_told 221 = .ok (.iload 7, 2) := by decide +kernel
theorem dL_told_223 : decode cL_told 223 = .ok (.invokestatic 218, 3) := by decide +kernel
theorem dL_told_226 : decode cL_told 226 = .ok (.iload 15, 2) := by decide +kernel
theorem dL_told_228 : decode cL_told 228 = .ok (.if_icmp .ne 7, 3) := by decide +kernel
theorem dL_told_231 : decode cL_told 231 = .ok (.iconst 1, 1) := by decide +kernel
theorem dL_told_232 : decode cL_told 232 = .ok (.goto 4, 3) := by decide +kernel
theorem dL_told_235 : decode cL_told 235 = .ok (.iconst 0, 1) := by decide +kernel
theorem dL_told_236 : decode cL_told 236 = .ok (.ireturn, 1) := by decide +kernel
theorem dL_same_0 : decode cL_same 0 = .ok (.iconst 0, 1) := by decide +kernel
theorem dL_same_1 : decode cL_same 1 = .ok (.istore 5, 2) := by decide +kernel
theorem dL_same_3 : decode cL_same 3 = .ok (.iload 5, 2) := by decide +kernel
theorem dL_same_5 : decode cL_same 5 = .ok (.iconst 3, 1) := by decide +kernel
theorem dL_same_6 : decode cL_same 6 = .ok (.if_icmp .ge 131, 3) := by decide +kernel
theorem dL_same_9 : decode cL_same 9 = .ok (.iload 5, 2) := by decide +kernel
theorem dL_same_11 : decode cL_same 11 = .ok (.aload_n 1, 1) := by decide +kernel
theorem dL_same_12 : decode cL_same 12 = .ok (.aload_n 2, 1) := by decide +kernel
theorem dL_same_13 : decode cL_same 13 = .ok (.aload_n 3, 1) := by decide +kernel
theorem dL_same_14 : decode cL_same 14 = .ok (.invokestatic 102, 3) := by decide +kernel
theorem dL_same_17 : decode cL_same 17 = .ok (.astore 6, 2) := by decide +kernel
theorem dL_same_19 : decode cL_same 19 = .ok (.aload_n 0, 1) := by decide +kernel
theorem dL_same_20 : decode cL_same 20 = .ok (.iload 5, 2) := by decide +kernel
theorem dL_same_22 : decode cL_same 22 = .ok (.invokestatic 108, 3) := by decide +kernel
theorem dL_same_25 : decode cL_same 25 = .ok (.aload 4, 2) := by decide +kernel
theorem dL_same_27 : decode cL_same 27 = .ok (.iload 5, 2) := by decide +kernel
theorem dL_same_29 : decode cL_same 29 = .ok (.iaload, 1) := by decide +kernel
theorem dL_same_30 : decode cL_same 30 = .ok (.if_icmp .eq 5, 3) := by decide +kernel
theorem dL_same_33 : decode cL_same 33 = .ok (.iconst 0, 1) := by decide +kernel
theorem dL_same_34 : decode cL_same 34 = .ok (.ireturn, 1) := by decide +kernel
theorem dL_same_35 : decode cL_same 35 = .ok (.iconst 0, 1) := by decide +kernel
theorem dL_same_36 : decode cL_same 36 = .ok (.istore 7, 2) := by decide +kernel
theorem dL_same_38 : decode cL_same 38 = .ok (.iload 7, 2) := by decide +kernel
theorem dL_same_40 : decode cL_same 40 = .ok (.aload 4, 2) := by decide +kernel
theorem dL_same_42 : decode cL_same 42 = .ok (.iload 5, 2) := by decide +kernel
theorem dL_same_44 : decode cL_same 44 = .ok (.iaload, 1) := by decide +kernel
theorem dL_same_45 : decode cL_same 45 = .ok (.if_icmp .ge 86, 3) := by decide +kernel
theorem dL_same_48 : decode cL_same 48 = .ok (.aload_n 0, 1) := by decide +kernel
theorem dL_same_49 : decode cL_same 49 = .ok (.iload 5, 2) := by decide +kernel
theorem dL_same_51 : decode cL_same 51 = .ok (.iload 7, 2) := by decide +kernel
theorem dL_same_53 : decode cL_same 53 = .ok (.invokestatic 111, 3) := by decide +kernel
theorem dL_same_56 : decode cL_same 56 = .ok (.sipush 1000, 3) := by decide +kernel
theorem dL_same_59 : decode cL_same 59 = .ok (.aload 6, 2) := by decide +kernel
theorem dL_same_61 : decode cL_same 61 = .ok (.iload 7, 2) := by decide +kernel
theorem dL_same_63 : decode cL_same 63 = .ok (.laload, 1) := by decide +kernel
theorem dL_same_64 : decode cL_same 64 = .ok (.invokestatic 136, 3) := by decide +kernel
theorem dL_same_67 : decode cL_same 67 = .ok (.imul, 1) := by decide +kernel
theorem dL_same_68 : decode cL_same 68 = .ok (.aload 6, 2) := by decide +kernel
theorem dL_same_70 : decode cL_same 70 = .ok (.iload 7, 2) := by decide +kernel
theorem dL_same_72 : decode cL_same 72 = .ok (.laload, 1) := by decide +kernel
theorem dL_same_73 : decode cL_same 73 = .ok (.iconst 0, 1) := by decide +kernel
theorem dL_same_74 : decode cL_same 74 = .ok (.invokestatic 143, 3) := by decide +kernel
theorem dL_same_77 : decode cL_same 77 = .ok (.iadd, 1) := by decide +kernel
theorem dL_same_78 : decode cL_same 78 = .ok (.if_icmp .ne 45, 3) := by decide +kernel
theorem dL_same_81 : decode cL_same 81 = .ok (.aload_n 0, 1) := by decide +kernel
theorem dL_same_82 : decode cL_same 82 = .ok (.iload 5, 2) := by decide +kernel
theorem dL_same_84 : decode cL_same 84 = .ok (.iload 7, 2) := by decide +kernel
theorem dL_same_86 : decode cL_same 86 = .ok (.iconst 1, 1) := by decide +kernel
theorem dL_same_87 : decode cL_same 87 = .ok (.invokestatic 118, 3) := by decide +kernel
theorem dL_same_90 : decode cL_same 90 = .ok (.aload 6, 2) := by decide +kernel
theorem dL_same_92 : decode cL_same 92 = .ok (.iload 7, 2) := by decide +kernel
theorem dL_same_94 : decode cL_same 94 = .ok (.laload, 1) := by decide +kernel
theorem dL_same_95 : decode cL_same 95 = .ok (.iconst 1, 1) := by decide +kernel
theorem dL_same_96 : decode cL_same 96 = .ok (.invokestatic 143, 3) := by decide +kernel
theorem dL_same_99 : decode cL_same 99 = .ok (.if_icmp .ne 24, 3) := by decide +kernel
theorem dL_same_102 : decode cL_same 102 = .ok (.aload_n 0, 1) := by decide +kernel
theorem dL_same_103 : decode cL_same 103 = .ok (.iload 5, 2) := by decide +kernel
theorem dL_same_105 : decode cL_same 105 = .ok (.iload 7, 2) := by decide +kernel
theorem dL_same_107 : decode cL_same 107 = .ok (.iconst 2, 1) := by decide +kernel
theorem dL_same_108 : decode cL_same 108 = .ok (.invokestatic 118, 3) := by decide +kernel
theorem dL_same_111 : decode cL_same 111 = .ok (.aload 6, 2) := by decide +kernel
theorem dL_same_113 : decode cL_same 113 = .ok (.iload 7, 2) := by decide +kernel
theorem dL_same_115 : decode cL_same 115 = .ok (.laload, 1) := by decide +kernel
theorem dL_same_116 : decode cL_same 116 = .ok (.iconst 2, 1) := by decide +kernel
theorem dL_same_117 : decode cL_same 117 = .ok (.invokestatic 143, 3) := by decide +kernel
theorem dL_same_120 : decode cL_same 120 = .ok (.if_icmp .eq 5, 3) := by decide +kernel
theorem dL_same_123 : decode cL_same 123 = .ok (.iconst 0, 1) := by decide +kernel
theorem dL_same_124 : decode cL_same 124 = .ok (.ireturn, 1) := by decide +kernel
theorem dL_same_125 : decode cL_same 125 = .ok (.iinc 7 1, 3) := by decide +kernel
theorem dL_same_128 : decode cL_same 128 = .ok (.goto (-90), 3) := by decide +kernel
theorem dL_same_131 : decode cL_same 131 = .ok (.iinc 5 1, 3) := by decide +kernel
theorem dL_same_134 : decode cL_same 134 = .ok (.goto (-131), 3) := by decide +kernel
theorem dL_same_137 : decode cL_same 137 = .ok (.iconst 1, 1) := by decide +kernel
theorem dL_same_138 : decode cL_same 138 = .ok (.ireturn, 1) := by decide +kernel
theorem dL_putIn_0 : decode cL_putIn 0 = .ok (.aload_n 1, 1) := by decide +kernel
theorem dL_putIn_1 : decode cL_putIn 1 = .ok (.iload_n 2, 1) := by decide +kernel
theorem dL_putIn_2 : decode cL_putIn 2 = .ok (.iaload, 1) := by decide +kernel
theorem dL_putIn_3 : decode cL_putIn 3 = .ok (.istore 6, 2) := by decide +kernel
theorem dL_putIn_5 : decode cL_putIn 5 = .ok (.iload 6, 2) := by decide +kernel
theorem dL_putIn_7 : decode cL_putIn 7 = .ok (.iload_n 3, 1) := by decide +kernel
theorem dL_putIn_8 : decode cL_putIn 8 = .ok (.if_icmp .le 19, 3) := by decide +kernel
theorem dL_putIn_11 : decode cL_putIn 11 = .ok (.aload_n 0, 1) := by decide +kernel
theorem dL_putIn_12 : decode cL_putIn 12 = .ok (.iload 6, 2) := by decide +kernel
theorem dL_putIn_14 : decode cL_putIn 14 = .ok (.aload_n 0, 1) := by decide +kernel
theorem dL_putIn_15 : decode cL_putIn 15 = .ok (.iload 6, 2) := by decide +kernel
theorem dL_putIn_17 : decode cL_putIn 17 = .ok (.iconst 1, 1) := by decide +kernel
theorem dL_putIn_18 : decode cL_putIn 18 = .ok (.isub, 1) := by decide +kernel
theorem dL_putIn_19 : decode cL_putIn 19 = .ok (.laload, 1) := by decide +kernel
theorem dL_putIn_20 : decode cL_putIn 20 = .ok (.lastore, 1) := by decide +kernel
theorem dL_putIn_21 : decode cL_putIn 21 = .ok (.iinc 6 (-1), 3) := by decide +kernel
theorem dL_putIn_24 : decode cL_putIn 24 = .ok (.goto (-19), 3) := by decide +kernel
theorem dL_putIn_27 : decode cL_putIn 27 = .ok (.aload_n 0, 1) := by decide +kernel
theorem dL_putIn_28 : decode cL_putIn 28 = .ok (.iload_n 3, 1) := by decide +kernel
theorem dL_putIn_29 : decode cL_putIn 29 = .ok (.lload 4, 2) := by decide +kernel
theorem dL_putIn_31 : decode cL_putIn 31 = .ok (.lastore, 1) := by decide +kernel
theorem dL_putIn_32 : decode cL_putIn 32 = .ok (.aload_n 1, 1) := by decide +kernel
theorem dL_putIn_33 : decode cL_putIn 33 = .ok (.iload_n 2, 1) := by decide +kernel
theorem dL_putIn_34 : decode cL_putIn 34 = .ok (.dup2, 1) := by decide +kernel
theorem dL_putIn_35 : decode cL_putIn 35 = .ok (.iaload, 1) := by decide +kernel
theorem dL_putIn_36 : decode cL_putIn 36 = .ok (.iconst 1, 1) := by decide +kernel
theorem dL_putIn_37 : decode cL_putIn 37 = .ok (.iadd, 1) := by decide +kernel
theorem dL_putIn_38 : decode cL_putIn 38 = .ok (.iastore, 1) := by decide +kernel
theorem dL_putIn_39 : decode cL_putIn 39 = .ok (.return_, 1) := by decide +kernel
theorem dL_comes_0 : decode cL_comes 0 = .ok (.iload 4, 2) := by decide +kernel
theorem dL_comes_2 : decode cL_comes 2 = .ok (.iconst 1, 1) := by decide +kernel
theorem dL_comes_3 : decode cL_comes 3 = .ok (.iadd, 1) := by decide +kernel
theorem dL_comes_4 : decode cL_comes 4 = .ok (.istore 7, 2) := by decide +kernel
theorem dL_comes_6 : decode cL_comes 6 = .ok (.iload 4, 2) := by decide +kernel
theorem dL_comes_8 : decode cL_comes 8 = .ok (.ifCond .ge 7, 3) := by decide +kernel
theorem dL_comes_11 : decode cL_comes 11 = .ok (.iload_n 2, 1) := by decide +kernel
theorem dL_comes_12 : decode cL_comes 12 = .ok (.goto 11, 3) := by decide +kernel
theorem dL_comes_15 : decode cL_comes 15 = .ok (.aload_n 0, 1) := by decide +kernel
theorem dL_comes_16 : decode cL_comes 16 = .ok (.aload_n 1, 1) := by decide +kernel
theorem dL_comes_17 : decode cL_comes 17 = .ok (.iload_n 2, 1) := by decide +kernel
theorem dL_comes_18 : decode cL_comes 18 = .ok (.iload 4, 2) := by decide +kernel
theorem dL_comes_20 : decode cL_comes 20 = .ok (.invokestatic 163, 3) := by decide +kernel
theorem dL_comes_23 : decode cL_comes 23 = .ok (.istore 8, 2) := by decide +kernel
theorem dL_comes_25 : decode cL_comes 25 = .ok (.aload_n 0, 1) := by decide +kernel
theorem dL_comes_26 : decode cL_comes 26 = .ok (.iload_n 3, 1) := by decide +kernel
theorem dL_comes_27 : decode cL_comes 27 = .ok (.iaload, 1) := by decide +kernel
theorem dL_comes_28 : decode cL_comes 28 = .ok (.bipush 64, 2) := by decide +kernel
theorem dL_comes_30 : decode cL_comes 30 = .ok (.idiv, 1) := by decide +kernel
theorem dL_comes_31 : decode cL_comes 31 = .ok (.iconst 4, 1) := by decide +kernel
theorem dL_comes_32 : decode cL_comes 32 = .ok (.irem, 1) := by decide +kernel
theorem dL_comes_33 : decode cL_comes 33 = .ok (.istore 9, 2) := by decide +kernel
theorem dL_comes_35 : decode cL_comes 35 = .ok (.aload_n 0, 1) := by decide +kernel
theorem dL_comes_36 : decode cL_comes 36 = .ok (.iload_n 3, 1) := by decide +kernel
theorem dL_comes_37 : decode cL_comes 37 = .ok (.iaload, 1) := by decide +kernel
theorem dL_comes_38 : decode cL_comes 38 = .ok (.sipush 256, 3) := by decide +kernel
theorem dL_comes_41 : decode cL_comes 41 = .ok (.idiv, 1) := by decide +kernel
theorem dL_comes_42 : decode cL_comes 42 = .ok (.iconst 4, 1) := by decide +kernel
theorem dL_comes_43 : decode cL_comes 43 = .ok (.irem, 1) := by decide +kernel
theorem dL_comes_44 : decode cL_comes 44 = .ok (.istore 10, 2) := by decide +kernel
theorem dL_comes_46 : decode cL_comes 46 = .ok (.iload 6, 2) := by decide +kernel
theorem dL_comes_48 : decode cL_comes 48 = .ok (.ifCond .lt 49, 3) := by decide +kernel
theorem dL_comes_51 : decode cL_comes 51 = .ok (.aload_n 1, 1) := by decide +kernel
theorem dL_comes_52 : decode cL_comes 52 = .ok (.iload 6, 2) := by decide +kernel
theorem dL_comes_54 : decode cL_comes 54 = .ok (.laload, 1) := by decide +kernel
theorem dL_comes_55 : decode cL_comes 55 = .ok (.invokestatic 136, 3) := by decide +kernel
theorem dL_comes_58 : decode cL_comes 58 = .ok (.iload_n 3, 1) := by decide +kernel
theorem dL_comes_59 : decode cL_comes 59 = .ok (.if_icmp .ne 38, 3) := by decide +kernel
theorem dL_comes_62 : decode cL_comes 62 = .ok (.aload_n 0, 1) := by decide +kernel
theorem dL_comes_63 : decode cL_comes 63 = .ok (.aload_n 1, 1) := by decide +kernel
theorem dL_comes_64 : decode cL_comes 64 = .ok (.iload 6, 2) := by decide +kernel
theorem dL_comes_66 : decode cL_comes 66 = .ok (.invokestatic 132, 3) := by decide +kernel
theorem dL_comes_69 : decode cL_comes 69 = .ok (.iload 4, 2) := by decide +kernel
theorem dL_comes_71 : decode cL_comes 71 = .ok (.if_icmp .ne 26, 3) := by decide +kernel
theorem dL_comes_74 : decode cL_comes 74 = .ok (.iload 9, 2) := by decide +kernel
theorem dL_comes_76 : decode cL_comes 76 = .ok (.iconst 2, 1) := by decide +kernel
theorem dL_comes_77 : decode cL_comes 77 = .ok (.if_icmp .eq 16, 3) := by decide +kernel
theorem dL_comes_80 : decode cL_comes 80 = .ok (.aload_n 1, 1) := by decide +kernel
theorem dL_comes_81 : decode cL_comes 81 = .ok (.iload 6, 2) := by decide +kernel
theorem dL_comes_83 : decode cL_comes 83 = .ok (.laload, 1) := by decide +kernel
theorem dL_comes_84 : decode cL_comes 84 = .ok (.iconst 0, 1) := by decide +kernel
theorem dL_comes_85 : decode cL_comes 85 = .ok (.invokestatic 143, 3) := by decide +kernel
theorem dL_comes_88 : decode cL_comes 88 = .ok (.iload 5, 2) := by decide +kernel
theorem dL_comes_90 : decode cL_comes 90 = .ok (.if_icmp .ne 7, 3) := by decide +kernel
theorem dL_comes_93 : decode cL_comes 93 = .ok (.iconst 1, 1) := by decide +kernel
theorem dL_comes_94 : decode cL_comes 94 = .ok (.goto 4, 3) := by decide +kernel
theorem dL_comes_97 : decode cL_comes 97 = .ok (.iconst 0, 1) := by decide +kernel
theorem dL_comes_98 : decode cL_comes 98 = .ok (.istore 11, 2) := by decide +kernel
theorem dL_comes_100 : decode cL_comes 100 = .ok (.iload 7, 2) := by decide +kernel
theorem dL_comes_102 : decode cL_comes 102 = .ok (.iload 8, 2) := by decide +kernel
theorem dL_comes_104 : decode cL_comes 104 = .ok (.if_icmp .ge 129, 3) := by decide +kernel
theorem dL_comes_107 : decode cL_comes 107 = .ok (.aload_n 1, 1) := by decide +kernel
theorem dL_comes_108 : decode cL_comes 108 = .ok (.iload 7, 2) := by decide +kernel
theorem dL_comes_110 : decode cL_comes 110 = .ok (.laload, 1) := by decide +kernel
theorem dL_comes_111 : decode cL_comes 111 = .ok (.invokestatic 136, 3) := by decide +kernel
theorem dL_comes_114 : decode cL_comes 114 = .ok (.istore 12, 2) := by decide +kernel
theorem dL_comes_116 : decode cL_comes 116 = .ok (.iload 12, 2) := by decide +kernel
theorem dL_comes_118 : decode cL_comes 118 = .ok (.iload_n 3, 1) := by decide +kernel
theorem dL_comes_119 : decode cL_comes 119 = .ok (.if_icmp .ge 7, 3) := by decide +kernel
theorem dL_comes_122 : decode cL_comes 122 = .ok (.iconst 1, 1) := by decide +kernel
theorem dL_comes_123 : decode cL_comes 123 = .ok (.goto 4, 3) := by decide +kernel
theorem dL_comes_126 : decode cL_comes 126 = .ok (.iconst 0, 1) := by decide +kernel
theorem dL_comes_127 : decode cL_comes 127 = .ok (.istore 13, 2) := by decide +kernel
theorem dL_comes_129 : decode cL_comes 129 = .ok (.iload 12, 2) := by decide +kernel
theorem dL_comes_131 : decode cL_comes 131 = .ok (.iload_n 3, 1) := by decide +kernel
theorem dL_comes_132 : decode cL_comes 132 = .ok (.if_icmp .ne 80, 3) := by decide +kernel
theorem dL_comes_135 : decode cL_comes 135 = .ok (.aload_n 1, 1) := by decide +kernel
theorem dL_comes_136 : decode cL_comes 136 = .ok (.iload 7, 2) := by decide +kernel
theorem dL_comes_138 : decode cL_comes 138 = .ok (.laload, 1) := by decide +kernel
theorem dL_comes_139 : decode cL_comes 139 = .ok (.iconst 0, 1) := by decide +kernel
theorem dL_comes_140 : decode cL_comes 140 = .ok (.invokestatic 143, 3) := by decide +kernel
theorem dL_comes_143 : decode cL_comes 143 = .ok (.istore 14, 2) := by decide +kernel
theorem dL_comes_145 : decode cL_comes 145 = .ok (.iload 9, 2) := by decide +kernel
theorem dL_comes_147 : decode cL_comes 147 = .ok (.iconst 2, 1) := by decide +kernel
theorem dL_comes_148 : decode cL_comes 148 = .ok (.if_icmp .ge 25, 3) := by decide +kernel
theorem dL_comes_151 : decode cL_comes 151 = .ok (.iload 14, 2) := by decide +kernel
theorem dL_comes_153 : decode cL_comes 153 = .ok (.iload 5, 2) := by decide +kernel
theorem dL_comes_155 : decode cL_comes 155 = .ok (.if_icmp .eq 18, 3) := by decide +kernel
theorem dL_comes_158 : decode cL_comes 158 = .ok (.iload 14, 2) := by decide +kernel
theorem dL_comes_160 : decode cL_comes 160 = .ok (.iload 5, 2) := by decide +kernel
theorem dL_comes_162 : decode cL_comes 162 = .ok (.if_icmp .ge 7, 3) := by decide +kernel
theorem dL_comes_165 : decode cL_comes 165 = .ok (.iconst 1, 1) := by decide +kernel
theorem dL_comes_166 : decode cL_comes 166 = .ok (.goto 44, 3) := by decide +kernel
theorem dL_comes_169 : decode cL_comes 169 = .ok (.iconst 0, 1) := by decide +kernel
theorem dL_comes_170 : decode cL_comes 170 = .ok (.goto 40, 3) := by decide +kernel
theorem dL_comes_173 : decode cL_comes 173 = .ok (.iload 10, 2) := by decide +kernel
theorem dL_comes_175 : decode cL_comes 175 = .ok (.iconst 2, 1) := by decide +kernel
theorem dL_comes_176 : decode cL_comes 176 = .ok (.if_icmp .ne 23, 3) := by decide +kernel
theorem dL_comes_179 : decode cL_comes 179 = .ok (.iload 11, 2) := by decide +kernel
theorem dL_comes_181 : decode cL_comes 181 = .ok (.ifCond .eq 14, 3) := by decide +kernel
theorem dL_comes_184 : decode cL_comes 184 = .ok (.iload 7, 2) := by decide +kernel
theorem dL_comes_186 : decode cL_comes 186 = .ok (.iload 6, 2) := by decide +kernel
theorem dL_comes_188 : decode cL_comes 188 = .ok (.if_icmp .ge 7, 3) := by decide +kernel
theorem dL_comes_191 : decode cL_comes 191 = .ok (.iconst 1, 1) := by decide +kernel
theorem dL_comes_192 : decode cL_comes 192 = .ok (.goto 18, 3) := by decide +kernel
theorem dL_comes_195 : decode cL_comes 195 = .ok (.iconst 0, 1) := by decide +kernel
theorem dL_comes_196 : decode cL_comes 196 = .ok (.goto 14, 3) := by decide +kernel
theorem dL_comes_199 : decode cL_comes 199 = .ok (.iload 10, 2) := by decide +kernel
theorem dL_comes_201 : decode cL_comes 201 = .ok (.iconst 1, 1) := by decide +kernel
theorem dL_comes_202 : decode cL_comes 202 = .ok (.if_icmp .ne 7, 3) := by decide +kernel
theorem dL_comes_205 : decode cL_comes 205 = .ok (.iconst 1, 1) := by decide +kernel
theorem dL_comes_206 : decode cL_comes 206 = .ok (.goto 4, 3) := by decide +kernel
theorem dL_comes_209 : decode cL_comes 209 = .ok (.iconst 0, 1) := by decide +kernel
theorem dL_comes_210 : decode cL_comes 210 = .ok (.istore 13, 2) := by decide +kernel
theorem dL_comes_212 : decode cL_comes 212 = .ok (.iload 13, 2) := by decide +kernel
theorem dL_comes_214 : decode cL_comes 214 = .ok (.ifCond .ne 6, 3) := by decide +kernel
theorem dL_comes_217 : decode cL_comes 217 = .ok (.iload 7, 2) := by decide +kernel
theorem dL_comes_219 : decode cL_comes 219 = .ok (.ireturn, 1) := by decide +kernel
theorem dL_comes_220 : decode cL_comes 220 = .ok (.aload_n 0, 1) := by decide +kernel
