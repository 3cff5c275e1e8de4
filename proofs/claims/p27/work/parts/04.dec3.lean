theorem dL_comes_221 : decode cL_comes 221 = .ok (.aload_n 1, 1) := by decide +kernel
theorem dL_comes_222 : decode cL_comes 222 = .ok (.iload_n 2, 1) := by decide +kernel
theorem dL_comes_223 : decode cL_comes 223 = .ok (.iload 7, 2) := by decide +kernel
theorem dL_comes_225 : decode cL_comes 225 = .ok (.invokestatic 163, 3) := by decide +kernel
theorem dL_comes_228 : decode cL_comes 228 = .ok (.istore 7, 2) := by decide +kernel
theorem dL_comes_230 : decode cL_comes 230 = .ok (.goto (-130), 3) := by decide +kernel
theorem dL_comes_233 : decode cL_comes 233 = .ok (.iload 7, 2) := by decide +kernel
theorem dL_comes_235 : decode cL_comes 235 = .ok (.ireturn, 1) := by decide +kernel
theorem dL_needs_0 : decode cL_needs 0 = .ok (.aload_n 0, 1) := by decide +kernel
theorem dL_needs_1 : decode cL_needs 1 = .ok (.iload 6, 2) := by decide +kernel
theorem dL_needs_3 : decode cL_needs 3 = .ok (.invokestatic 206, 3) := by decide +kernel
theorem dL_needs_6 : decode cL_needs 6 = .ok (.istore 8, 2) := by decide +kernel
theorem dL_needs_8 : decode cL_needs 8 = .ok (.iload 8, 2) := by decide +kernel
theorem dL_needs_10 : decode cL_needs 10 = .ok (.ifCond .lt 19, 3) := by decide +kernel
theorem dL_needs_13 : decode cL_needs 13 = .ok (.aload_n 0, 1) := by decide +kernel
theorem dL_needs_14 : decode cL_needs 14 = .ok (.aload_n 1, 1) := by decide +kernel
theorem dL_needs_15 : decode cL_needs 15 = .ok (.aload_n 2, 1) := by decide +kernel
theorem dL_needs_16 : decode cL_needs 16 = .ok (.aload_n 3, 1) := by decide +kernel
theorem dL_needs_17 : decode cL_needs 17 = .ok (.aload 4, 2) := by decide +kernel
theorem dL_needs_19 : decode cL_needs 19 = .ok (.iload 8, 2) := by decide +kernel
theorem dL_needs_21 : decode cL_needs 21 = .ok (.iload 7, 2) := by decide +kernel
theorem dL_needs_23 : decode cL_needs 23 = .ok (.invokestatic 209, 3) := by decide +kernel
theorem dL_needs_26 : decode cL_needs 26 = .ok (.ifCond .lt 5, 3) := by decide +kernel
theorem dL_needs_29 : decode cL_needs 29 = .ok (.iconst 0, 1) := by decide +kernel
theorem dL_needs_30 : decode cL_needs 30 = .ok (.ireturn, 1) := by decide +kernel
theorem dL_needs_31 : decode cL_needs 31 = .ok (.aload_n 0, 1) := by decide +kernel
theorem dL_needs_32 : decode cL_needs 32 = .ok (.iload 6, 2) := by decide +kernel
theorem dL_needs_34 : decode cL_needs 34 = .ok (.iaload, 1) := by decide +kernel
theorem dL_needs_35 : decode cL_needs 35 = .ok (.ldc 220, 2) := by decide +kernel
theorem dL_needs_37 : decode cL_needs 37 = .ok (.idiv, 1) := by decide +kernel
theorem dL_needs_38 : decode cL_needs 38 = .ok (.iconst 2, 1) := by decide +kernel
theorem dL_needs_39 : decode cL_needs 39 = .ok (.irem, 1) := by decide +kernel
theorem dL_needs_40 : decode cL_needs 40 = .ok (.ifCond .ne 5, 3) := by decide +kernel
theorem dL_needs_43 : decode cL_needs 43 = .ok (.iconst 1, 1) := by decide +kernel
theorem dL_needs_44 : decode cL_needs 44 = .ok (.ireturn, 1) := by decide +kernel
theorem dL_needs_45 : decode cL_needs 45 = .ok (.iconst 0, 1) := by decide +kernel
theorem dL_needs_46 : decode cL_needs 46 = .ok (.istore 9, 2) := by decide +kernel
theorem dL_needs_48 : decode cL_needs 48 = .ok (.iconst 0, 1) := by decide +kernel
theorem dL_needs_49 : decode cL_needs 49 = .ok (.istore 10, 2) := by decide +kernel
theorem dL_needs_51 : decode cL_needs 51 = .ok (.iload 10, 2) := by decide +kernel
theorem dL_needs_53 : decode cL_needs 53 = .ok (.aload 5, 2) := by decide +kernel
theorem dL_needs_55 : decode cL_needs 55 = .ok (.iconst 0, 1) := by decide +kernel
theorem dL_needs_56 : decode cL_needs 56 = .ok (.iaload, 1) := by decide +kernel
theorem dL_needs_57 : decode cL_needs 57 = .ok (.if_icmp .ge 40, 3) := by decide +kernel
theorem dL_needs_60 : decode cL_needs 60 = .ok (.iload 9, 2) := by decide +kernel
theorem dL_needs_62 : decode cL_needs 62 = .ok (.ifCond .ne 22, 3) := by decide +kernel
theorem dL_needs_65 : decode cL_needs 65 = .ok (.aload 5, 2) := by decide +kernel
theorem dL_needs_67 : decode cL_needs 67 = .ok (.iconst 1, 1) := by decide +kernel
theorem dL_needs_68 : decode cL_needs 68 = .ok (.iload 10, 2) := by decide +kernel
theorem dL_needs_70 : decode cL_needs 70 = .ok (.iadd, 1) := by decide +kernel
theorem dL_needs_71 : decode cL_needs 71 = .ok (.iaload, 1) := by decide +kernel
theorem dL_needs_72 : decode cL_needs 72 = .ok (.sipush 1000, 3) := by decide +kernel
theorem dL_needs_75 : decode cL_needs 75 = .ok (.iload 8, 2) := by decide +kernel
theorem dL_needs_77 : decode cL_needs 77 = .ok (.imul, 1) := by decide +kernel
theorem dL_needs_78 : decode cL_needs 78 = .ok (.iload 7, 2) := by decide +kernel
theorem dL_needs_80 : decode cL_needs 80 = .ok (.iadd, 1) := by decide +kernel
theorem dL_needs_81 : decode cL_needs 81 = .ok (.if_icmp .ne 7, 3) := by decide +kernel
theorem dL_needs_84 : decode cL_needs 84 = .ok (.iconst 1, 1) := by decide +kernel
theorem dL_needs_85 : decode cL_needs 85 = .ok (.goto 4, 3) := by decide +kernel
theorem dL_needs_88 : decode cL_needs 88 = .ok (.iconst 0, 1) := by decide +kernel
theorem dL_needs_89 : decode cL_needs 89 = .ok (.istore 9, 2) := by decide +kernel
theorem dL_needs_91 : decode cL_needs 91 = .ok (.iinc 10 1, 3) := by decide +kernel
theorem dL_needs_94 : decode cL_needs 94 = .ok (.goto (-43), 3) := by decide +kernel
theorem dL_needs_97 : decode cL_needs 97 = .ok (.aload 5, 2) := by decide +kernel
theorem dL_needs_99 : decode cL_needs 99 = .ok (.iconst 1, 1) := by decide +kernel
theorem dL_needs_100 : decode cL_needs 100 = .ok (.aload 5, 2) := by decide +kernel
theorem dL_needs_102 : decode cL_needs 102 = .ok (.iconst 0, 1) := by decide +kernel
theorem dL_needs_103 : decode cL_needs 103 = .ok (.iaload, 1) := by decide +kernel
theorem dL_needs_104 : decode cL_needs 104 = .ok (.iadd, 1) := by decide +kernel
theorem dL_needs_105 : decode cL_needs 105 = .ok (.iload 9, 2) := by decide +kernel
theorem dL_needs_107 : decode cL_needs 107 = .ok (.ifCond .eq 7, 3) := by decide +kernel
theorem dL_needs_110 : decode cL_needs 110 = .ok (.iconst 0, 1) := by decide +kernel
theorem dL_needs_111 : decode cL_needs 111 = .ok (.goto 12, 3) := by decide +kernel
theorem dL_needs_114 : decode cL_needs 114 = .ok (.sipush 1000, 3) := by decide +kernel
theorem dL_needs_117 : decode cL_needs 117 = .ok (.iload 8, 2) := by decide +kernel
theorem dL_needs_119 : decode cL_needs 119 = .ok (.imul, 1) := by decide +kernel
theorem dL_needs_120 : decode cL_needs 120 = .ok (.iload 7, 2) := by decide +kernel
theorem dL_needs_122 : decode cL_needs 122 = .ok (.iadd, 1) := by decide +kernel
theorem dL_needs_123 : decode cL_needs 123 = .ok (.iastore, 1) := by decide +kernel
theorem dL_needs_124 : decode cL_needs 124 = .ok (.aload 5, 2) := by decide +kernel
theorem dL_needs_126 : decode cL_needs 126 = .ok (.iconst 0, 1) := by decide +kernel
theorem dL_needs_127 : decode cL_needs 127 = .ok (.dup2, 1) := by decide +kernel
theorem dL_needs_128 : decode cL_needs 128 = .ok (.iaload, 1) := by decide +kernel
theorem dL_needs_129 : decode cL_needs 129 = .ok (.iload 9, 2) := by decide +kernel
theorem dL_needs_131 : decode cL_needs 131 = .ok (.ifCond .eq 7, 3) := by decide +kernel
theorem dL_needs_134 : decode cL_needs 134 = .ok (.iconst 0, 1) := by decide +kernel
theorem dL_needs_135 : decode cL_needs 135 = .ok (.goto 4, 3) := by decide +kernel
theorem dL_needs_138 : decode cL_needs 138 = .ok (.iconst 1, 1) := by decide +kernel
theorem dL_needs_139 : decode cL_needs 139 = .ok (.iadd, 1) := by decide +kernel
theorem dL_needs_140 : decode cL_needs 140 = .ok (.iastore, 1) := by decide +kernel
theorem dL_needs_141 : decode cL_needs 141 = .ok (.iconst 0, 1) := by decide +kernel
theorem dL_needs_142 : decode cL_needs 142 = .ok (.ireturn, 1) := by decide +kernel
theorem dL_makes_0 : decode cL_makes 0 = .ok (.iconst 0, 1) := by decide +kernel
theorem dL_makes_1 : decode cL_makes 1 = .ok (.istore 6, 2) := by decide +kernel
theorem dL_makes_3 : decode cL_makes 3 = .ok (.iload 6, 2) := by decide +kernel
theorem dL_makes_5 : decode cL_makes 5 = .ok (.aload 5, 2) := by decide +kernel
theorem dL_makes_7 : decode cL_makes 7 = .ok (.iconst 0, 1) := by decide +kernel
theorem dL_makes_8 : decode cL_makes 8 = .ok (.iaload, 1) := by decide +kernel
theorem dL_makes_9 : decode cL_makes 9 = .ok (.if_icmp .ge 95, 3) := by decide +kernel
theorem dL_makes_12 : decode cL_makes 12 = .ok (.aload 5, 2) := by decide +kernel
theorem dL_makes_14 : decode cL_makes 14 = .ok (.iconst 1, 1) := by decide +kernel
theorem dL_makes_15 : decode cL_makes 15 = .ok (.iload 6, 2) := by decide +kernel
theorem dL_makes_17 : decode cL_makes 17 = .ok (.iadd, 1) := by decide +kernel
theorem dL_makes_18 : decode cL_makes 18 = .ok (.iaload, 1) := by decide +kernel
theorem dL_makes_19 : decode cL_makes 19 = .ok (.sipush 1000, 3) := by decide +kernel
theorem dL_makes_22 : decode cL_makes 22 = .ok (.idiv, 1) := by decide +kernel
theorem dL_makes_23 : decode cL_makes 23 = .ok (.istore 7, 2) := by decide +kernel
theorem dL_makes_25 : decode cL_makes 25 = .ok (.aload_n 0, 1) := by decide +kernel
theorem dL_makes_26 : decode cL_makes 26 = .ok (.iload 7, 2) := by decide +kernel
theorem dL_makes_28 : decode cL_makes 28 = .ok (.invokestatic 129, 3) := by decide +kernel
theorem dL_makes_31 : decode cL_makes 31 = .ok (.istore 8, 2) := by decide +kernel
theorem dL_makes_33 : decode cL_makes 33 = .ok (.iload 8, 2) := by decide +kernel
theorem dL_makes_35 : decode cL_makes 35 = .ok (.aload_n 1, 1) := by decide +kernel
theorem dL_makes_36 : decode cL_makes 36 = .ok (.aload_n 2, 1) := by decide +kernel
theorem dL_makes_37 : decode cL_makes 37 = .ok (.aload_n 3, 1) := by decide +kernel
theorem dL_makes_38 : decode cL_makes 38 = .ok (.invokestatic 102, 3) := by decide +kernel
theorem dL_makes_41 : decode cL_makes 41 = .ok (.astore 9, 2) := by decide +kernel
theorem dL_makes_43 : decode cL_makes 43 = .ok (.aload 9, 2) := by decide +kernel
theorem dL_makes_45 : decode cL_makes 45 = .ok (.aload 4, 2) := by decide +kernel
theorem dL_makes_47 : decode cL_makes 47 = .ok (.iload 8, 2) := by decide +kernel
theorem dL_makes_49 : decode cL_makes 49 = .ok (.aload_n 0, 1) := by decide +kernel
theorem dL_makes_50 : decode cL_makes 50 = .ok (.aload 9, 2) := by decide +kernel
theorem dL_makes_52 : decode cL_makes 52 = .ok (.aload 4, 2) := by decide +kernel
theorem dL_makes_54 : decode cL_makes 54 = .ok (.iload 8, 2) := by decide +kernel
theorem dL_makes_56 : decode cL_makes 56 = .ok (.iaload, 1) := by decide +kernel
theorem dL_makes_57 : decode cL_makes 57 = .ok (.iload 7, 2) := by decide +kernel
theorem dL_makes_59 : decode cL_makes 59 = .ok (.iconst (-1), 1) := by decide +kernel
theorem dL_makes_60 : decode cL_makes 60 = .ok (.aload 5, 2) := by decide +kernel
theorem dL_makes_62 : decode cL_makes 62 = .ok (.iconst 1, 1) := by decide +kernel
theorem dL_makes_63 : decode cL_makes 63 = .ok (.iload 6, 2) := by decide +kernel
theorem dL_makes_65 : decode cL_makes 65 = .ok (.iadd, 1) := by decide +kernel
theorem dL_makes_66 : decode cL_makes 66 = .ok (.iaload, 1) := by decide +kernel
theorem dL_makes_67 : decode cL_makes 67 = .ok (.sipush 1000, 3) := by decide +kernel
theorem dL_makes_70 : decode cL_makes 70 = .ok (.irem, 1) := by decide +kernel
theorem dL_makes_71 : decode cL_makes 71 = .ok (.iconst (-1), 1) := by decide +kernel
theorem dL_makes_72 : decode cL_makes 72 = .ok (.invokestatic 221, 3) := by decide +kernel
theorem dL_makes_75 : decode cL_makes 75 = .ok (.iload 7, 2) := by decide +kernel
theorem dL_makes_77 : decode cL_makes 77 = .ok (.i2l, 1) := by decide +kernel
theorem dL_makes_78 : decode cL_makes 78 = .ok (.ldc2_w 114, 3) := by decide +kernel
theorem dL_makes_81 : decode cL_makes 81 = .ok (.aload 5, 2) := by decide +kernel
theorem dL_makes_83 : decode cL_makes 83 = .ok (.iconst 1, 1) := by decide +kernel
theorem dL_makes_84 : decode cL_makes 84 = .ok (.iload 6, 2) := by decide +kernel
theorem dL_makes_86 : decode cL_makes 86 = .ok (.iadd, 1) := by decide +kernel
theorem dL_makes_87 : decode cL_makes 87 = .ok (.iaload, 1) := by decide +kernel
theorem dL_makes_88 : decode cL_makes 88 = .ok (.sipush 1000, 3) := by decide +kernel
theorem dL_makes_91 : decode cL_makes 91 = .ok (.irem, 1) := by decide +kernel
theorem dL_makes_92 : decode cL_makes 92 = .ok (.i2l, 1) := by decide +kernel
theorem dL_makes_93 : decode cL_makes 93 = .ok (.lmul, 1) := by decide +kernel
theorem dL_makes_94 : decode cL_makes 94 = .ok (.ladd, 1) := by decide +kernel
theorem dL_makes_95 : decode cL_makes 95 = .ok (.invokestatic 225, 3) := by decide +kernel
theorem dL_makes_98 : decode cL_makes 98 = .ok (.iinc 6 1, 3) := by decide +kernel
theorem dL_makes_101 : decode cL_makes 101 = .ok (.goto (-98), 3) := by decide +kernel
theorem dL_makes_104 : decode cL_makes 104 = .ok (.return_, 1) := by decide +kernel
theorem dL_slot_0 : decode cL_slot 0 = .ok (.iload_n 2, 1) := by decide +kernel
theorem dL_slot_1 : decode cL_slot 1 = .ok (.i2l, 1) := by decide +kernel
theorem dL_slot_2 : decode cL_slot 2 = .ok (.ldc2_w 114, 3) := by decide +kernel
theorem dL_slot_5 : decode cL_slot 5 = .ok (.aload_n 0, 1) := by decide +kernel
theorem dL_slot_6 : decode cL_slot 6 = .ok (.iload_n 1, 1) := by decide +kernel
theorem dL_slot_7 : decode cL_slot 7 = .ok (.iconst 0, 1) := by decide +kernel
theorem dL_slot_8 : decode cL_slot 8 = .ok (.invokestatic 185, 3) := by decide +kernel
theorem dL_slot_11 : decode cL_slot 11 = .ok (.i2l, 1) := by decide +kernel
theorem dL_slot_12 : decode cL_slot 12 = .ok (.lmul, 1) := by decide +kernel
theorem dL_slot_13 : decode cL_slot 13 = .ok (.ladd, 1) := by decide +kernel
theorem dL_slot_14 : decode cL_slot 14 = .ok (.ldc2_w 116, 3) := by decide +kernel
theorem dL_slot_17 : decode cL_slot 17 = .ok (.aload_n 0, 1) := by decide +kernel
theorem dL_slot_18 : decode cL_slot 18 = .ok (.iload_n 1, 1) := by decide +kernel
theorem dL_slot_19 : decode cL_slot 19 = .ok (.iconst 1, 1) := by decide +kernel
theorem dL_slot_20 : decode cL_slot 20 = .ok (.invokestatic 185, 3) := by decide +kernel
theorem dL_slot_23 : decode cL_slot 23 = .ok (.i2l, 1) := by decide +kernel
theorem dL_slot_24 : decode cL_slot 24 = .ok (.lmul, 1) := by decide +kernel
theorem dL_slot_25 : decode cL_slot 25 = .ok (.ladd, 1) := by decide +kernel
theorem dL_slot_26 : decode cL_slot 26 = .ok (.ldc2_w 121, 3) := by decide +kernel
theorem dL_slot_29 : decode cL_slot 29 = .ok (.aload_n 0, 1) := by decide +kernel
theorem dL_slot_30 : decode cL_slot 30 = .ok (.iload_n 1, 1) := by decide +kernel
theorem dL_slot_31 : decode cL_slot 31 = .ok (.iconst 2, 1) := by decide +kernel
theorem dL_slot_32 : decode cL_slot 32 = .ok (.invokestatic 185, 3) := by decide +kernel
theorem dL_slot_35 : decode cL_slot 35 = .ok (.i2l, 1) := by decide +kernel
theorem dL_slot_36 : decode cL_slot 36 = .ok (.lmul, 1) := by decide +kernel
theorem dL_slot_37 : decode cL_slot 37 = .ok (.ladd, 1) := by decide +kernel
theorem dL_slot_38 : decode cL_slot 38 = .ok (.lreturn, 1) := by decide +kernel
theorem dL_inserts_0 : decode cL_inserts 0 = .ok (.aload 8, 2) := by decide +kernel
theorem dL_inserts_2 : decode cL_inserts 2 = .ok (.iload 10, 2) := by decide +kernel
theorem dL_inserts_4 : decode cL_inserts 4 = .ok (.iaload, 1) := by decide +kernel
theorem dL_inserts_5 : decode cL_inserts 5 = .ok (.iconst 4, 1) := by decide +kernel
theorem dL_inserts_6 : decode cL_inserts 6 = .ok (.irem, 1) := by decide +kernel
theorem dL_inserts_7 : decode cL_inserts 7 = .ok (.istore 11, 2) := by decide +kernel
theorem dL_inserts_9 : decode cL_inserts 9 = .ok (.iload 11, 2) := by decide +kernel
theorem dL_inserts_11 : decode cL_inserts 11 = .ok (.aload_n 2, 1) := by decide +kernel
theorem dL_inserts_12 : decode cL_inserts 12 = .ok (.aload_n 3, 1) := by decide +kernel
theorem dL_inserts_13 : decode cL_inserts 13 = .ok (.aload 4, 2) := by decide +kernel
theorem dL_inserts_15 : decode cL_inserts 15 = .ok (.invokestatic 102, 3) := by decide +kernel
theorem dL_inserts_18 : decode cL_inserts 18 = .ok (.astore 12, 2) := by decide +kernel
theorem dL_inserts_20 : decode cL_inserts 20 = .ok (.aload_n 0, 1) := by decide +kernel
theorem dL_inserts_21 : decode cL_inserts 21 = .ok (.iload 10, 2) := by decide +kernel
theorem dL_inserts_23 : decode cL_inserts 23 = .ok (.invokestatic 178, 3) := by decide +kernel
theorem dL_inserts_26 : decode cL_inserts 26 = .ok (.istore 13, 2) := by decide +kernel
theorem dL_inserts_28 : decode cL_inserts 28 = .ok (.aload 9, 2) := by decide +kernel
theorem dL_inserts_30 : decode cL_inserts 30 = .ok (.iconst 1, 1) := by decide +kernel
theorem dL_inserts_31 : decode cL_inserts 31 = .ok (.iaload, 1) := by decide +kernel
theorem dL_inserts_32 : decode cL_inserts 32 = .ok (.iconst 1, 1) := by decide +kernel
theorem dL_inserts_33 : decode cL_inserts 33 = .ok (.isub, 1) := by decide +kernel
theorem dL_inserts_34 : decode cL_inserts 34 = .ok (.istore 14, 2) := by decide +kernel
theorem dL_inserts_36 : decode cL_inserts 36 = .ok (.aload 9, 2) := by decide +kernel
theorem dL_inserts_38 : decode cL_inserts 38 = .ok (.iconst 1, 1) := by decide +kernel
theorem dL_inserts_39 : decode cL_inserts 39 = .ok (.iaload, 1) := by decide +kernel
theorem dL_inserts_40 : decode cL_inserts 40 = .ok (.iconst 1, 1) := by decide +kernel
theorem dL_inserts_41 : decode cL_inserts 41 = .ok (.isub, 1) := by decide +kernel
theorem dL_inserts_42 : decode cL_inserts 42 = .ok (.istore 15, 2) := by decide +kernel
theorem dL_inserts_44 : decode cL_inserts 44 = .ok (.iload 15, 2) := by decide +kernel
theorem dL_inserts_46 : decode cL_inserts 46 = .ok (.ifCond .lt 32, 3) := by decide +kernel
theorem dL_inserts_49 : decode cL_inserts 49 = .ok (.aload 6, 2) := by decide +kernel
theorem dL_inserts_51 : decode cL_inserts 51 = .ok (.iload 15, 2) := by decide +kernel
theorem dL_inserts_53 : decode cL_inserts 53 = .ok (.iaload, 1) := by decide +kernel
theorem dL_inserts_54 : decode cL_inserts 54 = .ok (.bipush 16, 2) := by decide +kernel
theorem dL_inserts_56 : decode cL_inserts 56 = .ok (.idiv, 1) := by decide +kernel
theorem dL_inserts_57 : decode cL_inserts 57 = .ok (.iconst 2, 1) := by decide +kernel
theorem dL_inserts_58 : decode cL_inserts 58 = .ok (.irem, 1) := by decide +kernel
theorem dL_inserts_59 : decode cL_inserts 59 = .ok (.iconst 1, 1) := by decide +kernel
theorem dL_inserts_60 : decode cL_inserts 60 = .ok (.if_icmp .ne 8, 3) := by decide +kernel
theorem dL_inserts_63 : decode cL_inserts 63 = .ok (.iload 15, 2) := by decide +kernel
theorem dL_inserts_65 : decode cL_inserts 65 = .ok (.goto 5, 3) := by decide +kernel
theorem dL_inserts_68 : decode cL_inserts 68 = .ok (.iload 14, 2) := by decide +kernel
theorem dL_inserts_70 : decode cL_inserts 70 = .ok (.istore 14, 2) := by decide +kernel
theorem dL_inserts_72 : decode cL_inserts 72 = .ok (.iinc 15 (-1), 3) := by decide +kernel
theorem dL_inserts_75 : decode cL_inserts 75 = .ok (.goto (-31), 3) := by decide +kernel
theorem dL_inserts_78 : decode cL_inserts 78 = .ok (.aload 9, 2) := by decide +kernel
theorem dL_inserts_80 : decode cL_inserts 80 = .ok (.iconst 1, 1) := by decide +kernel
theorem dL_inserts_81 : decode cL_inserts 81 = .ok (.iaload, 1) := by decide +kernel
theorem dL_inserts_82 : decode cL_inserts 82 = .ok (.ifCond .le 23, 3) := by decide +kernel
theorem dL_inserts_85 : decode cL_inserts 85 = .ok (.aload_n 1, 1) := by decide +kernel
theorem dL_inserts_86 : decode cL_inserts 86 = .ok (.aload 6, 2) := by decide +kernel
theorem dL_inserts_88 : decode cL_inserts 88 = .ok (.aload 9, 2) := by decide +kernel
theorem dL_inserts_90 : decode cL_inserts 90 = .ok (.aload 8, 2) := by decide +kernel
theorem dL_inserts_92 : decode cL_inserts 92 = .ok (.iload 10, 2) := by decide +kernel
theorem dL_inserts_94 : decode cL_inserts 94 = .ok (.iaload, 1) := by decide +kernel
theorem dL_inserts_95 : decode cL_inserts 95 = .ok (.invokestatic 187, 3) := by decide +kernel
theorem dL_inserts_98 : decode cL_inserts 98 = .ok (.ifCond .eq 7, 3) := by decide +kernel
theorem dL_inserts_101 : decode cL_inserts 101 = .ok (.iconst 1, 1) := by decide +kernel
theorem dL_inserts_102 : decode cL_inserts 102 = .ok (.goto 4, 3) := by decide +kernel
theorem dL_inserts_105 : decode cL_inserts 105 = .ok (.iconst 0, 1) := by decide +kernel
theorem dL_inserts_106 : decode cL_inserts 106 = .ok (.istore 15, 2) := by decide +kernel
theorem dL_inserts_108 : decode cL_inserts 108 = .ok (.iload 14, 2) := by decide +kernel
theorem dL_inserts_110 : decode cL_inserts 110 = .ok (.istore 16, 2) := by decide +kernel
theorem dL_inserts_112 : decode cL_inserts 112 = .ok (.iload 16, 2) := by decide +kernel
theorem dL_inserts_114 : decode cL_inserts 114 = .ok (.aload 9, 2) := by decide +kernel
theorem dL_inserts_116 : decode cL_inserts 116 = .ok (.iconst 1, 1) := by decide +kernel
theorem dL_inserts_117 : decode cL_inserts 117 = .ok (.iaload, 1) := by decide +kernel
theorem dL_inserts_118 : decode cL_inserts 118 = .ok (.if_icmp .ge 61, 3) := by decide +kernel
theorem dL_inserts_121 : decode cL_inserts 121 = .ok (.iload 15, 2) := by decide +kernel
theorem dL_inserts_123 : decode cL_inserts 123 = .ok (.ifCond .eq 56, 3) := by decide +kernel
theorem dL_inserts_126 : decode cL_inserts 126 = .ok (.aload 7, 2) := by decide +kernel
theorem dL_inserts_128 : decode cL_inserts 128 = .ok (.iload 16, 2) := by decide +kernel
theorem dL_inserts_130 : decode cL_inserts 130 = .ok (.laload, 1) := by decide +kernel
theorem dL_inserts_131 : decode cL_inserts 131 = .ok (.lconst 0, 1) := by decide +kernel
theorem dL_inserts_132 : decode cL_inserts 132 = .ok (.lcmp, 1) := by decide +kernel
theorem dL_inserts_133 : decode cL_inserts 133 = .ok (.ifCond .ne 37, 3) := by decide +kernel
theorem dL_inserts_136 : decode cL_inserts 136 = .ok (.iload 16, 2) := by decide +kernel
theorem dL_inserts_138 : decode cL_inserts 138 = .ok (.ifCond .eq 28, 3) := by decide +kernel
theorem dL_inserts_141 : decode cL_inserts 141 = .ok (.aload_n 1, 1) := by decide +kernel
theorem dL_inserts_142 : decode cL_inserts 142 = .ok (.aload 6, 2) := by decide +kernel
theorem dL_inserts_144 : decode cL_inserts 144 = .ok (.iload 16, 2) := by decide +kernel
theorem dL_inserts_146 : decode cL_inserts 146 = .ok (.iaload, 1) := by decide +kernel
theorem dL_inserts_147 : decode cL_inserts 147 = .ok (.bipush 16, 2) := by decide +kernel
theorem dL_inserts_149 : decode cL_inserts 149 = .ok (.irem, 1) := by decide +kernel
theorem dL_inserts_150 : decode cL_inserts 150 = .ok (.invokestatic 123, 3) := by decide +kernel
theorem dL_inserts_153 : decode cL_inserts 153 = .ok (.aload 6, 2) := by decide +kernel
theorem dL_inserts_155 : decode cL_inserts 155 = .ok (.iload 16, 2) := by decide +kernel
theorem dL_inserts_157 : decode cL_inserts 157 = .ok (.iconst 1, 1) := by decide +kernel
theorem dL_inserts_158 : decode cL_inserts 158 = .ok (.isub, 1) := by decide +kernel
theorem dL_inserts_159 : decode cL_inserts 159 = .ok (.iaload, 1) := by decide +kernel
theorem dL_inserts_160 : decode cL_inserts 160 = .ok (.bipush 16, 2) := by decide +kernel
theorem dL_inserts_162 : decode cL_inserts 162 = .ok (.irem, 1) := by decide +kernel
theorem dL_inserts_163 : decode cL_inserts 163 = .ok (.if_icmp .ne 7, 3) := by decide +kernel
theorem dL_inserts_166 : decode cL_inserts 166 = .ok (.iconst 1, 1) := by decide +kernel
theorem dL_inserts_167 : decode cL_inserts 167 = .ok (.goto 4, 3) := by decide +kernel
theorem dL_inserts_170 : decode cL_inserts 170 = .ok (.iconst 0, 1) := by decide +kernel
theorem dL_inserts_171 : decode cL_inserts 171 = .ok (.istore 15, 2) := by decide +kernel
theorem dL_inserts_173 : decode cL_inserts 173 = .ok (.iinc 16 1, 3) := by decide +kernel
theorem dL_inserts_176 : decode cL_inserts 176 = .ok (.goto (-64), 3) := by decide +kernel
theorem dL_inserts_179 : decode cL_inserts 179 = .ok (.iload 15, 2) := by decide +kernel
theorem dL_inserts_181 : decode cL_inserts 181 = .ok (.ifCond .eq 7, 3) := by decide +kernel
theorem dL_inserts_184 : decode cL_inserts 184 = .ok (.iconst 0, 1) := by decide +kernel
theorem dL_inserts_185 : decode cL_inserts 185 = .ok (.goto 4, 3) := by decide +kernel
theorem dL_inserts_188 : decode cL_inserts 188 = .ok (.iconst 4, 1) := by decide +kernel
theorem dL_inserts_189 : decode cL_inserts 189 = .ok (.istore 16, 2) := by decide +kernel
theorem dL_inserts_191 : decode cL_inserts 191 = .ok (.iload 15, 2) := by decide +kernel
theorem dL_inserts_193 : decode cL_inserts 193 = .ok (.ifCond .eq 14, 3) := by decide +kernel
theorem dL_inserts_196 : decode cL_inserts 196 = .ok (.aload 6, 2) := by decide +kernel
theorem dL_inserts_198 : decode cL_inserts 198 = .ok (.iload 14, 2) := by decide +kernel
theorem dL_inserts_200 : decode cL_inserts 200 = .ok (.iaload, 1) := by decide +kernel
theorem dL_inserts_201 : decode cL_inserts 201 = .ok (.bipush 16, 2) := by decide +kernel
theorem dL_inserts_203 : decode cL_inserts 203 = .ok (.irem, 1) := by decide +kernel
theorem dL_inserts_204 : decode cL_inserts 204 = .ok (.goto 4, 3) := by decide +kernel
theorem dL_inserts_207 : decode cL_inserts 207 = .ok (.iconst 0, 1) := by decide +kernel
theorem dL_inserts_208 : decode cL_inserts 208 = .ok (.istore 17, 2) := by decide +kernel
theorem dL_inserts_210 : decode cL_inserts 210 = .ok (.iconst (-1), 1) := by decide +kernel
theorem dL_inserts_211 : decode cL_inserts 211 = .ok (.istore 18, 2) := by decide +kernel
theorem dL_inserts_213 : decode cL_inserts 213 = .ok (.iload 15, 2) := by decide +kernel
theorem dL_inserts_215 : decode cL_inserts 215 = .ok (.ifCond .eq 122, 3) := by decide +kernel
theorem dL_inserts_218 : decode cL_inserts 218 = .ok (.aload_n 1, 1) := by decide +kernel
theorem dL_inserts_219 : decode cL_inserts 219 = .ok (.iload 17, 2) := by decide +kernel
theorem dL_inserts_221 : decode cL_inserts 221 = .ok (.invokestatic 123, 3) := by decide +kernel
theorem dL_inserts_224 : decode cL_inserts 224 = .ok (.ifCond .lt 113, 3) := by decide +kernel
theorem dL_inserts_227 : decode cL_inserts 227 = .ok (.iload 14, 2) := by decide +kernel
theorem dL_inserts_229 : decode cL_inserts 229 = .ok (.ifCond .ne 25, 3) := by decide +kernel
theorem dL_inserts_232 : decode cL_inserts 232 = .ok (.iload 13, 2) := by decide +kernel
theorem dL_inserts_234 : decode cL_inserts 234 = .ok (.ifCond .lt 20, 3) := by decide +kernel
theorem dL_inserts_237 : decode cL_inserts 237 = .ok (.aload_n 1, 1) := by decide +kernel
theorem dL_inserts_238 : decode cL_inserts 238 = .ok (.aload 12, 2) := by decide +kernel
theorem dL_inserts_240 : decode cL_inserts 240 = .ok (.iload 13, 2) := by decide +kernel
theorem dL_inserts_242 : decode cL_inserts 242 = .ok (.aload_n 1, 1) := by decide +kernel
theorem dL_inserts_243 : decode cL_inserts 243 = .ok (.iload 17, 2) := by decide +kernel
theorem dL_inserts_245 : decode cL_inserts 245 = .ok (.invokestatic 123, 3) := by decide +kernel
theorem dL_inserts_248 : decode cL_inserts 248 = .ok (.invokestatic 155, 3) := by decide +kernel
theorem dL_inserts_251 : decode cL_inserts 251 = .ok (.goto 4, 3) := by decide +kernel
theorem dL_inserts_254 : decode cL_inserts 254 = .ok (.iconst (-1), 1) := by decide +kernel
theorem dL_inserts_255 : decode cL_inserts 255 = .ok (.istore 18, 2) := by decide +kernel
theorem dL_inserts_257 : decode cL_inserts 257 = .ok (.iconst 0, 1) := by decide +kernel
theorem dL_inserts_258 : decode cL_inserts 258 = .ok (.istore 19, 2) := by decide +kernel
theorem dL_inserts_260 : decode cL_inserts 260 = .ok (.iload 19, 2) := by decide +kernel
theorem dL_inserts_262 : decode cL_inserts 262 = .ok (.aload 5, 2) := by decide +kernel
theorem dL_inserts_264 : decode cL_inserts 264 = .ok (.iload 11, 2) := by decide +kernel
theorem dL_inserts_266 : decode cL_inserts 266 = .ok (.iaload, 1) := by decide +kernel
theorem dL_inserts_267 : decode cL_inserts 267 = .ok (.if_icmp .ge 57, 3) := by decide +kernel
theorem dL_inserts_270 : decode cL_inserts 270 = .ok (.iload 14, 2) := by decide +kernel
theorem dL_inserts_272 : decode cL_inserts 272 = .ok (.ifCond .le 52, 3) := by decide +kernel
theorem dL_inserts_275 : decode cL_inserts 275 = .ok (.iload 18, 2) := by decide +kernel
theorem dL_inserts_277 : decode cL_inserts 277 = .ok (.ifCond .ge 47, 3) := by decide +kernel
theorem dL_inserts_280 : decode cL_inserts 280 = .ok (.aload_n 1, 1) := by decide +kernel
theorem dL_inserts_281 : decode cL_inserts 281 = .ok (.aload 12, 2) := by decide +kernel
theorem dL_inserts_283 : decode cL_inserts 283 = .ok (.aload 5, 2) := by decide +kernel
theorem dL_inserts_285 : decode cL_inserts 285 = .ok (.iload 11, 2) := by decide +kernel
theorem dL_inserts_287 : decode cL_inserts 287 = .ok (.iaload, 1) := by decide +kernel
theorem dL_inserts_288 : decode cL_inserts 288 = .ok (.aload 6, 2) := by decide +kernel
theorem dL_inserts_290 : decode cL_inserts 290 = .ok (.aload 7, 2) := by decide +kernel
theorem dL_inserts_292 : decode cL_inserts 292 = .ok (.iload 14, 2) := by decide +kernel
theorem dL_inserts_294 : decode cL_inserts 294 = .ok (.aload 8, 2) := by decide +kernel
theorem dL_inserts_296 : decode cL_inserts 296 = .ok (.iload 10, 2) := by decide +kernel
theorem dL_inserts_298 : decode cL_inserts 298 = .ok (.iaload, 1) := by decide +kernel
theorem dL_inserts_299 : decode cL_inserts 299 = .ok (.iload 13, 2) := by decide +kernel
theorem dL_inserts_301 : decode cL_inserts 301 = .ok (.iload 19, 2) := by decide +kernel
theorem dL_inserts_303 : decode cL_inserts 303 = .ok (.invokestatic 191, 3) := by decide +kernel
theorem dL_inserts_306 : decode cL_inserts 306 = .ok (.ifCond .eq 8, 3) := by decide +kernel
theorem dL_inserts_309 : decode cL_inserts 309 = .ok (.iload 19, 2) := by decide +kernel
theorem dL_inserts_311 : decode cL_inserts 311 = .ok (.goto 5, 3) := by decide +kernel
theorem dL_inserts_314 : decode cL_inserts 314 = .ok (.iload 18, 2) := by decide +kernel
theorem dL_inserts_316 : decode cL_inserts 316 = .ok (.istore 18, 2) := by decide +kernel
theorem dL_inserts_318 : decode cL_inserts 318 = .ok (.iinc 19 1, 3) := by decide +kernel
theorem dL_inserts_321 : decode cL_inserts 321 = .ok (.goto (-61), 3) := by decide +kernel
theorem dL_inserts_324 : decode cL_inserts 324 = .ok (.iload 18, 2) := by decide +kernel
theorem dL_inserts_326 : decode cL_inserts 326 = .ok (.ifCond .ge 8, 3) := by decide +kernel
theorem dL_inserts_329 : decode cL_inserts 329 = .ok (.bipush 7, 2) := by decide +kernel
theorem dL_inserts_331 : decode cL_inserts 331 = .ok (.goto 4, 3) := by decide +kernel
theorem dL_inserts_334 : decode cL_inserts 334 = .ok (.iconst 0, 1) := by decide +kernel
theorem dL_inserts_335 : decode cL_inserts 335 = .ok (.istore 16, 2) := by decide +kernel
theorem dL_inserts_337 : decode cL_inserts 337 = .ok (.iconst 5, 1) := by decide +kernel
theorem dL_inserts_338 : decode cL_inserts 338 = .ok (.newarray .int, 2) := by decide +kernel
theorem dL_inserts_340 : decode cL_inserts 340 = .ok (.astore 19, 2) := by decide +kernel
theorem dL_inserts_342 : decode cL_inserts 342 = .ok (.iload 16, 2) := by decide +kernel
theorem dL_inserts_344 : decode cL_inserts 344 = .ok (.ifCond .ne 280, 3) := by decide +kernel
theorem dL_inserts_347 : decode cL_inserts 347 = .ok (.aload_n 0, 1) := by decide +kernel
theorem dL_inserts_348 : decode cL_inserts 348 = .ok (.iconst 0, 1) := by decide +kernel
theorem dL_inserts_349 : decode cL_inserts 349 = .ok (.iconst 0, 1) := by decide +kernel
theorem dL_inserts_350 : decode cL_inserts 350 = .ok (.invokestatic 185, 3) := by decide +kernel
theorem dL_inserts_353 : decode cL_inserts 353 = .ok (.istore 20, 2) := by decide +kernel
theorem dL_inserts_355 : decode cL_inserts 355 = .ok (.iconst 0, 1) := by decide +kernel
theorem dL_inserts_356 : decode cL_inserts 356 = .ok (.istore 21, 2) := by decide +kernel
theorem dL_inserts_358 : decode cL_inserts 358 = .ok (.iload 21, 2) := by decide +kernel
theorem dL_inserts_360 : decode cL_inserts 360 = .ok (.aload 5, 2) := by decide +kernel
theorem dL_inserts_362 : decode cL_inserts 362 = .ok (.iload 11, 2) := by decide +kernel
theorem dL_inserts_364 : decode cL_inserts 364 = .ok (.iaload, 1) := by decide +kernel
theorem dL_inserts_365 : decode cL_inserts 365 = .ok (.if_icmp .ge 82, 3) := by decide +kernel
theorem dL_inserts_368 : decode cL_inserts 368 = .ok (.aload 12, 2) := by decide +kernel
theorem dL_inserts_370 : decode cL_inserts 370 = .ok (.iload 21, 2) := by decide +kernel
theorem dL_inserts_372 : decode cL_inserts 372 = .ok (.laload, 1) := by decide +kernel
theorem dL_inserts_373 : decode cL_inserts 373 = .ok (.invokestatic 136, 3) := by decide +kernel
theorem dL_inserts_376 : decode cL_inserts 376 = .ok (.iload 17, 2) := by decide +kernel
theorem dL_inserts_378 : decode cL_inserts 378 = .ok (.if_icmp .ne 34, 3) := by decide +kernel
theorem dL_inserts_381 : decode cL_inserts 381 = .ok (.aload_n 1, 1) := by decide +kernel
theorem dL_inserts_382 : decode cL_inserts 382 = .ok (.aload 12, 2) := by decide +kernel
theorem dL_inserts_384 : decode cL_inserts 384 = .ok (.iload 21, 2) := by decide +kernel
theorem dL_inserts_386 : decode cL_inserts 386 = .ok (.invokestatic 132, 3) := by decide +kernel
theorem dL_inserts_389 : decode cL_inserts 389 = .ok (.iload 18, 2) := by decide +kernel
theorem dL_inserts_391 : decode cL_inserts 391 = .ok (.if_icmp .ne 21, 3) := by decide +kernel
theorem dL_inserts_394 : decode cL_inserts 394 = .ok (.aload 12, 2) := by decide +kernel
theorem dL_inserts_396 : decode cL_inserts 396 = .ok (.iload 21, 2) := by decide +kernel
theorem dL_inserts_398 : decode cL_inserts 398 = .ok (.laload, 1) := by decide +kernel
theorem dL_inserts_399 : decode cL_inserts 399 = .ok (.iconst 0, 1) := by decide +kernel
theorem dL_inserts_400 : decode cL_inserts 400 = .ok (.invokestatic 143, 3) := by decide +kernel
theorem dL_inserts_403 : decode cL_inserts 403 = .ok (.iload 20, 2) := by decide +kernel
theorem dL_inserts_405 : decode cL_inserts 405 = .ok (.if_icmp .ne 7, 3) := by decide +kernel
theorem dL_inserts_408 : decode cL_inserts 408 = .ok (.iconst 1, 1) := by decide +kernel
theorem dL_inserts_409 : decode cL_inserts 409 = .ok (.goto 4, 3) := by decide +kernel
theorem dL_inserts_412 : decode cL_inserts 412 = .ok (.iconst 0, 1) := by decide +kernel
theorem dL_inserts_413 : decode cL_inserts 413 = .ok (.istore 22, 2) := by decide +kernel
theorem dL_inserts_415 : decode cL_inserts 415 = .ok (.iload 22, 2) := by decide +kernel
theorem dL_inserts_417 : decode cL_inserts 417 = .ok (.ifCond .eq 20, 3) := by decide +kernel
theorem dL_inserts_420 : decode cL_inserts 420 = .ok (.aload_n 1, 1) := by decide +kernel
theorem dL_inserts_421 : decode cL_inserts 421 = .ok (.iload 17, 2) := by decide +kernel
theorem dL_inserts_423 : decode cL_inserts 423 = .ok (.iaload, 1) := by decide +kernel
theorem dL_inserts_424 : decode cL_inserts 424 = .ok (.bipush 64, 2) := by decide +kernel
theorem dL_inserts_426 : decode cL_inserts 426 = .ok (.idiv, 1) := by decide +kernel
theorem dL_inserts_427 : decode cL_inserts 427 = .ok (.iconst 4, 1) := by decide +kernel
theorem dL_inserts_428 : decode cL_inserts 428 = .ok (.irem, 1) := by decide +kernel
theorem dL_inserts_429 : decode cL_inserts 429 = .ok (.ifCond .ne 8, 3) := by decide +kernel
theorem dL_inserts_432 : decode cL_inserts 432 = .ok (.bipush 9, 2) := by decide +kernel
theorem dL_inserts_434 : decode cL_inserts 434 = .ok (.goto 5, 3) := by decide +kernel
theorem dL_inserts_437 : decode cL_inserts 437 = .ok (.iload 16, 2) := by decide +kernel
theorem dL_inserts_439 : decode cL_inserts 439 = .ok (.istore 16, 2) := by decide +kernel
theorem dL_inserts_441 : decode cL_inserts 441 = .ok (.iinc 21 1, 3) := by decide +kernel
theorem dL_inserts_444 : decode cL_inserts 444 = .ok (.goto (-86), 3) := by decide +kernel
theorem dL_inserts_447 : decode cL_inserts 447 = .ok (.iconst 0, 1) := by decide +kernel
theorem dL_inserts_448 : decode cL_inserts 448 = .ok (.istore 21, 2) := by decide +kernel
theorem dL_inserts_450 : decode cL_inserts 450 = .ok (.iload 14, 2) := by decide +kernel
theorem dL_inserts_452 : decode cL_inserts 452 = .ok (.istore 22, 2) := by decide +kernel
theorem dL_inserts_454 : decode cL_inserts 454 = .ok (.iload 22, 2) := by decide +kernel
theorem dL_inserts_456 : decode cL_inserts 456 = .ok (.aload 9, 2) := by decide +kernel
theorem dL_inserts_458 : decode cL_inserts 458 = .ok (.iconst 1, 1) := by decide +kernel
theorem dL_inserts_459 : decode cL_inserts 459 = .ok (.iaload, 1) := by decide +kernel
theorem dL_inserts_460 : decode cL_inserts 460 = .ok (.if_icmp .ge 92, 3) := by decide +kernel
theorem dL_inserts_463 : decode cL_inserts 463 = .ok (.aload_n 1, 1) := by decide +kernel
theorem dL_inserts_464 : decode cL_inserts 464 = .ok (.aload 6, 2) := by decide +kernel
theorem dL_inserts_466 : decode cL_inserts 466 = .ok (.iload 22, 2) := by decide +kernel
theorem dL_inserts_468 : decode cL_inserts 468 = .ok (.iaload, 1) := by decide +kernel
theorem dL_inserts_469 : decode cL_inserts 469 = .ok (.bipush 16, 2) := by decide +kernel
theorem dL_inserts_471 : decode cL_inserts 471 = .ok (.irem, 1) := by decide +kernel
theorem dL_inserts_472 : decode cL_inserts 472 = .ok (.invokestatic 206, 3) := by decide +kernel
theorem dL_inserts_475 : decode cL_inserts 475 = .ok (.iload 17, 2) := by decide +kernel
theorem dL_inserts_477 : decode cL_inserts 477 = .ok (.if_icmp .ne 22, 3) := by decide +kernel
theorem dL_inserts_480 : decode cL_inserts 480 = .ok (.aload_n 0, 1) := by decide +kernel
theorem dL_inserts_481 : decode cL_inserts 481 = .ok (.iload 22, 2) := by decide +kernel
theorem dL_inserts_483 : decode cL_inserts 483 = .ok (.iload 14, 2) := by decide +kernel
theorem dL_inserts_485 : decode cL_inserts 485 = .ok (.isub, 1) := by decide +kernel
theorem dL_inserts_486 : decode cL_inserts 486 = .ok (.iconst 2, 1) := by decide +kernel
theorem dL_inserts_487 : decode cL_inserts 487 = .ok (.invokestatic 185, 3) := by decide +kernel
theorem dL_inserts_490 : decode cL_inserts 490 = .ok (.iload 20, 2) := by decide +kernel
theorem dL_inserts_492 : decode cL_inserts 492 = .ok (.if_icmp .ne 7, 3) := by decide +kernel
theorem dL_inserts_495 : decode cL_inserts 495 = .ok (.iconst 1, 1) := by decide +kernel
theorem dL_inserts_496 : decode cL_inserts 496 = .ok (.goto 4, 3) := by decide +kernel
theorem dL_inserts_499 : decode cL_inserts 499 = .ok (.iconst 0, 1) := by decide +kernel
theorem dL_inserts_500 : decode cL_inserts 500 = .ok (.istore 23, 2) := by decide +kernel
theorem dL_inserts_502 : decode cL_inserts 502 = .ok (.iload 21, 2) := by decide +kernel
theorem dL_inserts_504 : decode cL_inserts 504 = .ok (.iload 23, 2) := by decide +kernel
theorem dL_inserts_506 : decode cL_inserts 506 = .ok (.ifCond .eq 7, 3) := by decide +kernel
theorem dL_inserts_509 : decode cL_inserts 509 = .ok (.iconst 0, 1) := by decide +kernel
theorem dL_inserts_510 : decode cL_inserts 510 = .ok (.goto 33, 3) := by decide +kernel
theorem dL_inserts_513 : decode cL_inserts 513 = .ok (.aload_n 1, 1) := by decide +kernel
theorem dL_inserts_514 : decode cL_inserts 514 = .ok (.aload_n 2, 1) := by decide +kernel
theorem dL_inserts_515 : decode cL_inserts 515 = .ok (.aload_n 3, 1) := by decide +kernel
theorem dL_inserts_516 : decode cL_inserts 516 = .ok (.aload 4, 2) := by decide +kernel
theorem dL_inserts_518 : decode cL_inserts 518 = .ok (.aload 5, 2) := by decide +kernel
theorem dL_inserts_520 : decode cL_inserts 520 = .ok (.aload 19, 2) := by decide +kernel
theorem dL_inserts_522 : decode cL_inserts 522 = .ok (.aload 6, 2) := by decide +kernel
theorem dL_inserts_524 : decode cL_inserts 524 = .ok (.iload 22, 2) := by decide +kernel
theorem dL_inserts_526 : decode cL_inserts 526 = .ok (.iaload, 1) := by decide +kernel
theorem dL_inserts_527 : decode cL_inserts 527 = .ok (.bipush 16, 2) := by decide +kernel
theorem dL_inserts_529 : decode cL_inserts 529 = .ok (.irem, 1) := by decide +kernel
theorem dL_inserts_530 : decode cL_inserts 530 = .ok (.aload_n 0, 1) := by decide +kernel
theorem dL_inserts_531 : decode cL_inserts 531 = .ok (.iload 22, 2) := by decide +kernel
theorem dL_inserts_533 : decode cL_inserts 533 = .ok (.iload 14, 2) := by decide +kernel
theorem dL_inserts_535 : decode cL_inserts 535 = .ok (.isub, 1) := by decide +kernel
theorem dL_inserts_536 : decode cL_inserts 536 = .ok (.iconst 2, 1) := by decide +kernel
theorem dL_inserts_537 : decode cL_inserts 537 = .ok (.invokestatic 185, 3) := by decide +kernel
theorem dL_inserts_540 : decode cL_inserts 540 = .ok (.invokestatic 229, 3) := by decide +kernel
theorem dL_inserts_543 : decode cL_inserts 543 = .ok (.iadd, 1) := by decide +kernel
theorem dL_inserts_544 : decode cL_inserts 544 = .ok (.istore 21, 2) := by decide +kernel
theorem dL_inserts_546 : decode cL_inserts 546 = .ok (.iinc 22 1, 3) := by decide +kernel
theorem dL_inserts_549 : decode cL_inserts 549 = .ok (.goto (-95), 3) := by decide +kernel
theorem dL_inserts_552 : decode cL_inserts 552 = .ok (.aload 5, 2) := by decide +kernel
theorem dL_inserts_554 : decode cL_inserts 554 = .ok (.iconst 0, 1) := by decide +kernel
theorem dL_inserts_555 : decode cL_inserts 555 = .ok (.iaload, 1) := by decide +kernel
theorem dL_inserts_556 : decode cL_inserts 556 = .ok (.aload 5, 2) := by decide +kernel
theorem dL_inserts_558 : decode cL_inserts 558 = .ok (.iconst 1, 1) := by decide +kernel
theorem dL_inserts_559 : decode cL_inserts 559 = .ok (.iaload, 1) := by decide +kernel
theorem dL_inserts_560 : decode cL_inserts 560 = .ok (.iadd, 1) := by decide +kernel
theorem dL_inserts_561 : decode cL_inserts 561 = .ok (.aload 5, 2) := by decide +kernel
theorem dL_inserts_563 : decode cL_inserts 563 = .ok (.iconst 2, 1) := by decide +kernel
theorem dL_inserts_564 : decode cL_inserts 564 = .ok (.iaload, 1) := by decide +kernel
theorem dL_inserts_565 : decode cL_inserts 565 = .ok (.iadd, 1) := by decide +kernel
theorem dL_inserts_566 : decode cL_inserts 566 = .ok (.aload 19, 2) := by decide +kernel
theorem dL_inserts_568 : decode cL_inserts 568 = .ok (.iconst 0, 1) := by decide +kernel
theorem dL_inserts_569 : decode cL_inserts 569 = .ok (.iaload, 1) := by decide +kernel
theorem dL_inserts_570 : decode cL_inserts 570 = .ok (.iadd, 1) := by decide +kernel
theorem dL_inserts_571 : decode cL_inserts 571 = .ok (.aload 9, 2) := by decide +kernel
theorem dL_inserts_573 : decode cL_inserts 573 = .ok (.iconst 1, 1) := by decide +kernel
theorem dL_inserts_574 : decode cL_inserts 574 = .ok (.iaload, 1) := by decide +kernel
theorem dL_inserts_575 : decode cL_inserts 575 = .ok (.iadd, 1) := by decide +kernel
theorem dL_inserts_576 : decode cL_inserts 576 = .ok (.iload 14, 2) := by decide +kernel
theorem dL_inserts_578 : decode cL_inserts 578 = .ok (.isub, 1) := by decide +kernel
theorem dL_inserts_579 : decode cL_inserts 579 = .ok (.bipush 60, 2) := by decide +kernel
theorem dL_inserts_581 : decode cL_inserts 581 = .ok (.if_icmp .le 7, 3) := by decide +kernel
theorem dL_inserts_584 : decode cL_inserts 584 = .ok (.iconst 1, 1) := by decide +kernel
theorem dL_inserts_585 : decode cL_inserts 585 = .ok (.goto 4, 3) := by decide +kernel
theorem dL_inserts_588 : decode cL_inserts 588 = .ok (.iconst 0, 1) := by decide +kernel
theorem dL_inserts_589 : decode cL_inserts 589 = .ok (.istore 22, 2) := by decide +kernel
theorem dL_inserts_591 : decode cL_inserts 591 = .ok (.iload 16, 2) := by decide +kernel
theorem dL_inserts_593 : decode cL_inserts 593 = .ok (.ifCond .le 8, 3) := by decide +kernel
theorem dL_inserts_596 : decode cL_inserts 596 = .ok (.iload 16, 2) := by decide +kernel
theorem dL_inserts_598 : decode cL_inserts 598 = .ok (.goto 24, 3) := by decide +kernel
theorem dL_inserts_601 : decode cL_inserts 601 = .ok (.iload 21, 2) := by decide +kernel
theorem dL_inserts_603 : decode cL_inserts 603 = .ok (.ifCond .le 8, 3) := by decide +kernel
theorem dL_inserts_606 : decode cL_inserts 606 = .ok (.bipush 10, 2) := by decide +kernel
theorem dL_inserts_608 : decode cL_inserts 608 = .ok (.goto 14, 3) := by decide +kernel
theorem dL_inserts_611 : decode cL_inserts 611 = .ok (.iload 22, 2) := by decide +kernel
theorem dL_inserts_613 : decode cL_inserts 613 = .ok (.ifCond .eq 8, 3) := by decide +kernel
theorem dL_inserts_616 : decode cL_inserts 616 = .ok (.bipush 11, 2) := by decide +kernel
theorem dL_inserts_618 : decode cL_inserts 618 = .ok (.goto 4, 3) := by decide +kernel
theorem dL_inserts_621 : decode cL_inserts 621 = .ok (.iconst 0, 1) := by decide +kernel
theorem dL_inserts_622 : decode cL_inserts 622 = .ok (.istore 16, 2) := by decide +kernel
theorem dL_inserts_624 : decode cL_inserts 624 = .ok (.iload 16, 2) := by decide +kernel
theorem dL_inserts_626 : decode cL_inserts 626 = .ok (.ifCond .ne 232, 3) := by decide +kernel
theorem dL_inserts_629 : decode cL_inserts 629 = .ok (.iconst 0, 1) := by decide +kernel
theorem dL_inserts_630 : decode cL_inserts 630 = .ok (.istore 20, 2) := by decide +kernel
theorem dL_inserts_632 : decode cL_inserts 632 = .ok (.iload 20, 2) := by decide +kernel
theorem dL_inserts_634 : decode cL_inserts 634 = .ok (.aload 19, 2) := by decide +kernel
theorem dL_inserts_636 : decode cL_inserts 636 = .ok (.iconst 0, 1) := by decide +kernel
theorem dL_inserts_637 : decode cL_inserts 637 = .ok (.iaload, 1) := by decide +kernel
theorem dL_inserts_638 : decode cL_inserts 638 = .ok (.if_icmp .ge 128, 3) := by decide +kernel
theorem dL_inserts_641 : decode cL_inserts 641 = .ok (.aload 19, 2) := by decide +kernel
theorem dL_inserts_643 : decode cL_inserts 643 = .ok (.iconst 1, 1) := by decide +kernel
theorem dL_inserts_644 : decode cL_inserts 644 = .ok (.iload 20, 2) := by decide +kernel
theorem dL_inserts_646 : decode cL_inserts 646 = .ok (.iadd, 1) := by decide +kernel
theorem dL_inserts_647 : decode cL_inserts 647 = .ok (.iaload, 1) := by decide +kernel
theorem dL_inserts_648 : decode cL_inserts 648 = .ok (.sipush 1000, 3) := by decide +kernel
theorem dL_inserts_651 : decode cL_inserts 651 = .ok (.idiv, 1) := by decide +kernel
theorem dL_inserts_652 : decode cL_inserts 652 = .ok (.istore 21, 2) := by decide +kernel
theorem dL_inserts_654 : decode cL_inserts 654 = .ok (.aload_n 1, 1) := by decide +kernel
theorem dL_inserts_655 : decode cL_inserts 655 = .ok (.iload 21, 2) := by decide +kernel
theorem dL_inserts_657 : decode cL_inserts 657 = .ok (.invokestatic 129, 3) := by decide +kernel
theorem dL_inserts_660 : decode cL_inserts 660 = .ok (.iload 11, 2) := by decide +kernel
theorem dL_inserts_662 : decode cL_inserts 662 = .ok (.if_icmp .ne 65, 3) := by decide +kernel
theorem dL_inserts_665 : decode cL_inserts 665 = .ok (.aload_n 1, 1) := by decide +kernel
theorem dL_inserts_666 : decode cL_inserts 666 = .ok (.aload 12, 2) := by decide +kernel
theorem dL_inserts_668 : decode cL_inserts 668 = .ok (.aload 5, 2) := by decide +kernel
theorem dL_inserts_670 : decode cL_inserts 670 = .ok (.iload 11, 2) := by decide +kernel
theorem dL_inserts_672 : decode cL_inserts 672 = .ok (.iaload, 1) := by decide +kernel
theorem dL_inserts_673 : decode cL_inserts 673 = .ok (.iload 21, 2) := by decide +kernel
theorem dL_inserts_675 : decode cL_inserts 675 = .ok (.iconst (-1), 1) := by decide +kernel
theorem dL_inserts_676 : decode cL_inserts 676 = .ok (.aload 19, 2) := by decide +kernel
theorem dL_inserts_678 : decode cL_inserts 678 = .ok (.iconst 1, 1) := by decide +kernel
theorem dL_inserts_679 : decode cL_inserts 679 = .ok (.iload 20, 2) := by decide +kernel
theorem dL_inserts_681 : decode cL_inserts 681 = .ok (.iadd, 1) := by decide +kernel
theorem dL_inserts_682 : decode cL_inserts 682 = .ok (.iaload, 1) := by decide +kernel
theorem dL_inserts_683 : decode cL_inserts 683 = .ok (.sipush 1000, 3) := by decide +kernel
theorem dL_inserts_686 : decode cL_inserts 686 = .ok (.irem, 1) := by decide +kernel
theorem dL_inserts_687 : decode cL_inserts 687 = .ok (.iconst (-1), 1) := by decide +kernel
theorem dL_inserts_688 : decode cL_inserts 688 = .ok (.invokestatic 221, 3) := by decide +kernel
theorem dL_inserts_691 : decode cL_inserts 691 = .ok (.istore 22, 2) := by decide +kernel
theorem dL_inserts_693 : decode cL_inserts 693 = .ok (.iload 18, 2) := by decide +kernel
theorem dL_inserts_695 : decode cL_inserts 695 = .ok (.iload 18, 2) := by decide +kernel
theorem dL_inserts_697 : decode cL_inserts 697 = .ok (.iload 22, 2) := by decide +kernel
theorem dL_inserts_699 : decode cL_inserts 699 = .ok (.if_icmp .lt 7, 3) := by decide +kernel
theorem dL_inserts_702 : decode cL_inserts 702 = .ok (.iconst 1, 1) := by decide +kernel
theorem dL_inserts_703 : decode cL_inserts 703 = .ok (.goto 4, 3) := by decide +kernel
theorem dL_inserts_706 : decode cL_inserts 706 = .ok (.iconst 0, 1) := by decide +kernel
theorem dL_inserts_707 : decode cL_inserts 707 = .ok (.iadd, 1) := by decide +kernel
theorem dL_inserts_708 : decode cL_inserts 708 = .ok (.istore 18, 2) := by decide +kernel
theorem dL_inserts_710 : decode cL_inserts 710 = .ok (.iload 13, 2) := by decide +kernel
theorem dL_inserts_712 : decode cL_inserts 712 = .ok (.iload 13, 2) := by decide +kernel
theorem dL_inserts_714 : decode cL_inserts 714 = .ok (.iload 22, 2) := by decide +kernel
theorem dL_inserts_716 : decode cL_inserts 716 = .ok (.if_icmp .lt 7, 3) := by decide +kernel
theorem dL_inserts_719 : decode cL_inserts 719 = .ok (.iconst 1, 1) := by decide +kernel
theorem dL_inserts_720 : decode cL_inserts 720 = .ok (.goto 4, 3) := by decide +kernel
theorem dL_inserts_723 : decode cL_inserts 723 = .ok (.iconst 0, 1) := by decide +kernel
theorem dL_inserts_724 : decode cL_inserts 724 = .ok (.iadd, 1) := by decide +kernel
theorem dL_inserts_725 : decode cL_inserts 725 = .ok (.istore 13, 2) := by decide +kernel
theorem dL_inserts_727 : decode cL_inserts 727 = .ok (.iconst 2, 1) := by decide +kernel
theorem dL_inserts_728 : decode cL_inserts 728 = .ok (.newarray .int, 2) := by decide +kernel
theorem dL_inserts_730 : decode cL_inserts 730 = .ok (.astore 22, 2) := by decide +kernel
theorem dL_inserts_732 : decode cL_inserts 732 = .ok (.aload 22, 2) := by decide +kernel
theorem dL_inserts_734 : decode cL_inserts 734 = .ok (.iconst 0, 1) := by decide +kernel
theorem dL_inserts_735 : decode cL_inserts 735 = .ok (.iconst 1, 1) := by decide +kernel
theorem dL_inserts_736 : decode cL_inserts 736 = .ok (.iastore, 1) := by decide +kernel
theorem dL_inserts_737 : decode cL_inserts 737 = .ok (.aload 22, 2) := by decide +kernel
theorem dL_inserts_739 : decode cL_inserts 739 = .ok (.iconst 1, 1) := by decide +kernel
theorem dL_inserts_740 : decode cL_inserts 740 = .ok (.aload 19, 2) := by decide +kernel
theorem dL_inserts_742 : decode cL_inserts 742 = .ok (.iconst 1, 1) := by decide +kernel
theorem dL_inserts_743 : decode cL_inserts 743 = .ok (.iload 20, 2) := by decide +kernel
theorem dL_inserts_745 : decode cL_inserts 745 = .ok (.iadd, 1) := by decide +kernel
theorem dL_inserts_746 : decode cL_inserts 746 = .ok (.iaload, 1) := by decide +kernel
theorem dL_inserts_747 : decode cL_inserts 747 = .ok (.iastore, 1) := by decide +kernel
theorem dL_inserts_748 : decode cL_inserts 748 = .ok (.aload_n 1, 1) := by decide +kernel
theorem dL_inserts_749 : decode cL_inserts 749 = .ok (.aload_n 2, 1) := by decide +kernel
theorem dL_inserts_750 : decode cL_inserts 750 = .ok (.aload_n 3, 1) := by decide +kernel
theorem dL_inserts_751 : decode cL_inserts 751 = .ok (.aload 4, 2) := by decide +kernel
theorem dL_inserts_753 : decode cL_inserts 753 = .ok (.aload 5, 2) := by decide +kernel
theorem dL_inserts_755 : decode cL_inserts 755 = .ok (.aload 22, 2) := by decide +kernel
theorem dL_inserts_757 : decode cL_inserts 757 = .ok (.invokestatic 233, 3) := by decide +kernel
theorem dL_inserts_760 : decode cL_inserts 760 = .ok (.iinc 20 1, 3) := by decide +kernel
theorem dL_inserts_763 : decode cL_inserts 763 = .ok (.goto (-131), 3) := by decide +kernel
theorem dL_inserts_766 : decode cL_inserts 766 = .ok (.aload_n 1, 1) := by decide +kernel
theorem dL_inserts_767 : decode cL_inserts 767 = .ok (.aload 12, 2) := by decide +kernel
theorem dL_inserts_769 : decode cL_inserts 769 = .ok (.aload 5, 2) := by decide +kernel
theorem dL_inserts_771 : decode cL_inserts 771 = .ok (.iload 11, 2) := by decide +kernel
theorem dL_inserts_773 : decode cL_inserts 773 = .ok (.iaload, 1) := by decide +kernel
theorem dL_inserts_774 : decode cL_inserts 774 = .ok (.iload 17, 2) := by decide +kernel
theorem dL_inserts_776 : decode cL_inserts 776 = .ok (.iload 18, 2) := by decide +kernel
theorem dL_inserts_778 : decode cL_inserts 778 = .ok (.aload_n 0, 1) := by decide +kernel
theorem dL_inserts_779 : decode cL_inserts 779 = .ok (.iconst 0, 1) := by decide +kernel
theorem dL_inserts_780 : decode cL_inserts 780 = .ok (.iconst 0, 1) := by decide +kernel
theorem dL_inserts_781 : decode cL_inserts 781 = .ok (.invokestatic 185, 3) := by decide +kernel
theorem dL_inserts_784 : decode cL_inserts 784 = .ok (.iload 13, 2) := by decide +kernel
theorem dL_inserts_786 : decode cL_inserts 786 = .ok (.invokestatic 221, 3) := by decide +kernel
theorem dL_inserts_789 : decode cL_inserts 789 = .ok (.istore 20, 2) := by decide +kernel
theorem dL_inserts_791 : decode cL_inserts 791 = .ok (.iload 14, 2) := by decide +kernel
theorem dL_inserts_793 : decode cL_inserts 793 = .ok (.istore 21, 2) := by decide +kernel
theorem dL_inserts_795 : decode cL_inserts 795 = .ok (.iload 21, 2) := by decide +kernel
theorem dL_inserts_797 : decode cL_inserts 797 = .ok (.aload 9, 2) := by decide +kernel
theorem dL_inserts_799 : decode cL_inserts 799 = .ok (.iconst 1, 1) := by decide +kernel
theorem dL_inserts_800 : decode cL_inserts 800 = .ok (.iaload, 1) := by decide +kernel
theorem dL_inserts_801 : decode cL_inserts 801 = .ok (.if_icmp .ge 43, 3) := by decide +kernel
theorem dL_inserts_804 : decode cL_inserts 804 = .ok (.aload 12, 2) := by decide +kernel
theorem dL_inserts_806 : decode cL_inserts 806 = .ok (.aload 5, 2) := by decide +kernel
theorem dL_inserts_808 : decode cL_inserts 808 = .ok (.iload 11, 2) := by decide +kernel
theorem dL_inserts_810 : decode cL_inserts 810 = .ok (.iload 20, 2) := by decide +kernel
theorem dL_inserts_812 : decode cL_inserts 812 = .ok (.iload 21, 2) := by decide +kernel
theorem dL_inserts_814 : decode cL_inserts 814 = .ok (.iadd, 1) := by decide +kernel
theorem dL_inserts_815 : decode cL_inserts 815 = .ok (.iload 14, 2) := by decide +kernel
theorem dL_inserts_817 : decode cL_inserts 817 = .ok (.isub, 1) := by decide +kernel
theorem dL_inserts_818 : decode cL_inserts 818 = .ok (.aload_n 0, 1) := by decide +kernel
theorem dL_inserts_819 : decode cL_inserts 819 = .ok (.iload 21, 2) := by decide +kernel
theorem dL_inserts_821 : decode cL_inserts 821 = .ok (.iload 14, 2) := by decide +kernel
theorem dL_inserts_823 : decode cL_inserts 823 = .ok (.isub, 1) := by decide +kernel
theorem dL_inserts_824 : decode cL_inserts 824 = .ok (.aload 6, 2) := by decide +kernel
theorem dL_inserts_826 : decode cL_inserts 826 = .ok (.iload 21, 2) := by decide +kernel
theorem dL_inserts_828 : decode cL_inserts 828 = .ok (.iaload, 1) := by decide +kernel
theorem dL_inserts_829 : decode cL_inserts 829 = .ok (.bipush 16, 2) := by decide +kernel
theorem dL_inserts_831 : decode cL_inserts 831 = .ok (.irem, 1) := by decide +kernel
theorem dL_inserts_832 : decode cL_inserts 832 = .ok (.invokestatic 237, 3) := by decide +kernel
theorem dL_inserts_835 : decode cL_inserts 835 = .ok (.invokestatic 225, 3) := by decide +kernel
theorem dL_inserts_838 : decode cL_inserts 838 = .ok (.iinc 21 1, 3) := by decide +kernel
theorem dL_inserts_841 : decode cL_inserts 841 = .ok (.goto (-46), 3) := by decide +kernel
theorem dL_inserts_844 : decode cL_inserts 844 = .ok (.iload 20, 2) := by decide +kernel
theorem dL_inserts_846 : decode cL_inserts 846 = .ok (.aload 9, 2) := by decide +kernel
theorem dL_inserts_848 : decode cL_inserts 848 = .ok (.iconst 1, 1) := by decide +kernel
theorem dL_inserts_849 : decode cL_inserts 849 = .ok (.iaload, 1) := by decide +kernel
theorem dL_inserts_850 : decode cL_inserts 850 = .ok (.iadd, 1) := by decide +kernel
theorem dL_inserts_851 : decode cL_inserts 851 = .ok (.iload 14, 2) := by decide +kernel
theorem dL_inserts_853 : decode cL_inserts 853 = .ok (.isub, 1) := by decide +kernel
theorem dL_inserts_854 : decode cL_inserts 854 = .ok (.iconst 1, 1) := by decide +kernel
theorem dL_inserts_855 : decode cL_inserts 855 = .ok (.isub, 1) := by decide +kernel
theorem dL_inserts_856 : decode cL_inserts 856 = .ok (.istore 13, 2) := by decide +kernel
theorem dL_inserts_858 : decode cL_inserts 858 = .ok (.aload 9, 2) := by decide +kernel
theorem dL_inserts_860 : decode cL_inserts 860 = .ok (.iconst 1, 1) := by decide +kernel
theorem dL_inserts_861 : decode cL_inserts 861 = .ok (.iconst 0, 1) := by decide +kernel
theorem dL_inserts_862 : decode cL_inserts 862 = .ok (.iastore, 1) := by decide +kernel
theorem dL_inserts_863 : decode cL_inserts 863 = .ok (.aload_n 0, 1) := by decide +kernel
theorem dL_inserts_864 : decode cL_inserts 864 = .ok (.iload 10, 2) := by decide +kernel
theorem dL_inserts_866 : decode cL_inserts 866 = .ok (.invokestatic 241, 3) := by decide +kernel
theorem dL_inserts_869 : decode cL_inserts 869 = .ok (.iload 16, 2) := by decide +kernel
theorem dL_inserts_871 : decode cL_inserts 871 = .ok (.if_icmp .ne 70, 3) := by decide +kernel
theorem dL_inserts_874 : decode cL_inserts 874 = .ok (.aload_n 0, 1) := by decide +kernel
theorem dL_inserts_875 : decode cL_inserts 875 = .ok (.aload_n 2, 1) := by decide +kernel
theorem dL_inserts_876 : decode cL_inserts 876 = .ok (.aload_n 3, 1) := by decide +kernel
theorem dL_inserts_877 : decode cL_inserts 877 = .ok (.aload 4, 2) := by decide +kernel
theorem dL_inserts_879 : decode cL_inserts 879 = .ok (.aload 5, 2) := by decide +kernel
theorem dL_inserts_881 : decode cL_inserts 881 = .ok (.invokestatic 243, 3) := by decide +kernel
theorem dL_inserts_884 : decode cL_inserts 884 = .ok (.ifCond .eq 57, 3) := by decide +kernel
theorem dL_inserts_887 : decode cL_inserts 887 = .ok (.aload_n 0, 1) := by decide +kernel
theorem dL_inserts_888 : decode cL_inserts 888 = .ok (.iload 10, 2) := by decide +kernel
theorem dL_inserts_890 : decode cL_inserts 890 = .ok (.invokestatic 198, 3) := by decide +kernel
theorem dL_inserts_893 : decode cL_inserts 893 = .ok (.ifCond .ne 48, 3) := by decide +kernel
theorem dL_inserts_896 : decode cL_inserts 896 = .ok (.iload 16, 2) := by decide +kernel
theorem dL_inserts_898 : decode cL_inserts 898 = .ok (.ifCond .le 17, 3) := by decide +kernel
theorem dL_inserts_901 : decode cL_inserts 901 = .ok (.aload_n 0, 1) := by decide +kernel
theorem dL_inserts_902 : decode cL_inserts 902 = .ok (.iload 10, 2) := by decide +kernel
theorem dL_inserts_904 : decode cL_inserts 904 = .ok (.invokestatic 178, 3) := by decide +kernel
theorem dL_inserts_907 : decode cL_inserts 907 = .ok (.iload 13, 2) := by decide +kernel
theorem dL_inserts_909 : decode cL_inserts 909 = .ok (.if_icmp .ne 32, 3) := by decide +kernel
theorem dL_inserts_912 : decode cL_inserts 912 = .ok (.goto 25, 3) := by decide +kernel
theorem dL_inserts_915 : decode cL_inserts 915 = .ok (.aload_n 0, 1) := by decide +kernel
theorem dL_inserts_916 : decode cL_inserts 916 = .ok (.iload 10, 2) := by decide +kernel
theorem dL_inserts_918 : decode cL_inserts 918 = .ok (.invokestatic 178, 3) := by decide +kernel
theorem dL_inserts_921 : decode cL_inserts 921 = .ok (.iload 13, 2) := by decide +kernel
theorem dL_inserts_923 : decode cL_inserts 923 = .ok (.if_icmp .ne 18, 3) := by decide +kernel
theorem dL_inserts_926 : decode cL_inserts 926 = .ok (.aload_n 0, 1) := by decide +kernel
theorem dL_inserts_927 : decode cL_inserts 927 = .ok (.iload 10, 2) := by decide +kernel
theorem dL_inserts_929 : decode cL_inserts 929 = .ok (.invokestatic 183, 3) := by decide +kernel
theorem dL_inserts_932 : decode cL_inserts 932 = .ok (.iload 13, 2) := by decide +kernel
theorem dL_inserts_934 : decode cL_inserts 934 = .ok (.if_icmp .ne 7, 3) := by decide +kernel
theorem dL_inserts_937 : decode cL_inserts 937 = .ok (.iconst 1, 1) := by decide +kernel
theorem dL_inserts_938 : decode cL_inserts 938 = .ok (.goto 4, 3) := by decide +kernel
theorem dL_inserts_941 : decode cL_inserts 941 = .ok (.iconst 0, 1) := by decide +kernel
theorem dL_inserts_942 : decode cL_inserts 942 = .ok (.ireturn, 1) := by decide +kernel
theorem dL_replaces_0 : decode cL_replaces 0 = .ok (.aload 6, 2) := by decide +kernel
theorem dL_replaces_2 : decode cL_replaces 2 = .ok (.iload 7, 2) := by decide +kernel
theorem dL_replaces_4 : decode cL_replaces 4 = .ok (.iaload, 1) := by decide +kernel
theorem dL_replaces_5 : decode cL_replaces 5 = .ok (.iconst 4, 1) := by decide +kernel
theorem dL_replaces_6 : decode cL_replaces 6 = .ok (.irem, 1) := by decide +kernel
theorem dL_replaces_7 : decode cL_replaces 7 = .ok (.istore 9, 2) := by decide +kernel
theorem dL_replaces_9 : decode cL_replaces 9 = .ok (.iload 9, 2) := by decide +kernel
theorem dL_replaces_11 : decode cL_replaces 11 = .ok (.aload_n 2, 1) := by decide +kernel
theorem dL_replaces_12 : decode cL_replaces 12 = .ok (.aload_n 3, 1) := by decide +kernel
theorem dL_replaces_13 : decode cL_replaces 13 = .ok (.aload 4, 2) := by decide +kernel
theorem dL_replaces_15 : decode cL_replaces 15 = .ok (.invokestatic 102, 3) := by decide +kernel
theorem dL_replaces_18 : decode cL_replaces 18 = .ok (.astore 10, 2) := by decide +kernel
theorem dL_replaces_20 : decode cL_replaces 20 = .ok (.aload_n 0, 1) := by decide +kernel
theorem dL_replaces_21 : decode cL_replaces 21 = .ok (.iload 7, 2) := by decide +kernel
theorem dL_replaces_23 : decode cL_replaces 23 = .ok (.invokestatic 178, 3) := by decide +kernel
theorem dL_replaces_26 : decode cL_replaces 26 = .ok (.istore 11, 2) := by decide +kernel
theorem dL_replaces_28 : decode cL_replaces 28 = .ok (.aload_n 0, 1) := by decide +kernel
theorem dL_replaces_29 : decode cL_replaces 29 = .ok (.iconst 0, 1) := by decide +kernel
theorem dL_replaces_30 : decode cL_replaces 30 = .ok (.iconst 1, 1) := by decide +kernel
theorem dL_replaces_31 : decode cL_replaces 31 = .ok (.iload 8, 2) := by decide +kernel
theorem dL_replaces_33 : decode cL_replaces 33 = .ok (.bipush 9, 2) := by decide +kernel
theorem dL_replaces_35 : decode cL_replaces 35 = .ok (.invokestatic 170, 3) := by decide +kernel
theorem dL_replaces_38 : decode cL_replaces 38 = .ok (.invokestatic 247, 3) := by decide +kernel
theorem dL_replaces_41 : decode cL_replaces 41 = .ok (.ifCond .lt 56, 3) := by decide +kernel
theorem dL_replaces_44 : decode cL_replaces 44 = .ok (.aload_n 0, 1) := by decide +kernel
theorem dL_replaces_45 : decode cL_replaces 45 = .ok (.iconst 0, 1) := by decide +kernel
theorem dL_replaces_46 : decode cL_replaces 46 = .ok (.iconst 2, 1) := by decide +kernel
theorem dL_replaces_47 : decode cL_replaces 47 = .ok (.iload 8, 2) := by decide +kernel
theorem dL_replaces_49 : decode cL_replaces 49 = .ok (.iconst 4, 1) := by decide +kernel
theorem dL_replaces_50 : decode cL_replaces 50 = .ok (.ishr, 1) := by decide +kernel
theorem dL_replaces_51 : decode cL_replaces 51 = .ok (.bipush 9, 2) := by decide +kernel
theorem dL_replaces_53 : decode cL_replaces 53 = .ok (.invokestatic 170, 3) := by decide +kernel
theorem dL_replaces_56 : decode cL_replaces 56 = .ok (.invokestatic 247, 3) := by decide +kernel
theorem dL_replaces_59 : decode cL_replaces 59 = .ok (.ifCond .lt 38, 3) := by decide +kernel
theorem dL_replaces_62 : decode cL_replaces 62 = .ok (.iload 8, 2) := by decide +kernel
theorem dL_replaces_64 : decode cL_replaces 64 = .ok (.bipush 8, 2) := by decide +kernel
theorem dL_replaces_66 : decode cL_replaces 66 = .ok (.ishr, 1) := by decide +kernel
theorem dL_replaces_67 : decode cL_replaces 67 = .ok (.iconst 4, 1) := by decide +kernel
theorem dL_replaces_68 : decode cL_replaces 68 = .ok (.invokestatic 170, 3) := by decide +kernel
theorem dL_replaces_71 : decode cL_replaces 71 = .ok (.ifCond .gt 22, 3) := by decide +kernel
theorem dL_replaces_74 : decode cL_replaces 74 = .ok (.aload_n 0, 1) := by decide +kernel
theorem dL_replaces_75 : decode cL_replaces 75 = .ok (.iconst 0, 1) := by decide +kernel
theorem dL_replaces_76 : decode cL_replaces 76 = .ok (.iconst 0, 1) := by decide +kernel
theorem dL_replaces_77 : decode cL_replaces 77 = .ok (.iload 8, 2) := by decide +kernel
theorem dL_replaces_79 : decode cL_replaces 79 = .ok (.bipush 10, 2) := by decide +kernel
theorem dL_replaces_81 : decode cL_replaces 81 = .ok (.ishr, 1) := by decide +kernel
theorem dL_replaces_82 : decode cL_replaces 82 = .ok (.bipush 9, 2) := by decide +kernel
theorem dL_replaces_84 : decode cL_replaces 84 = .ok (.invokestatic 170, 3) := by decide +kernel
theorem dL_replaces_87 : decode cL_replaces 87 = .ok (.invokestatic 247, 3) := by decide +kernel
theorem dL_replaces_90 : decode cL_replaces 90 = .ok (.ifCond .lt 7, 3) := by decide +kernel
theorem dL_replaces_93 : decode cL_replaces 93 = .ok (.iconst 1, 1) := by decide +kernel
theorem dL_replaces_94 : decode cL_replaces 94 = .ok (.goto 4, 3) := by decide +kernel
theorem dL_replaces_97 : decode cL_replaces 97 = .ok (.iconst 0, 1) := by decide +kernel
theorem dL_replaces_98 : decode cL_replaces 98 = .ok (.istore 12, 2) := by decide +kernel
theorem dL_replaces_100 : decode cL_replaces 100 = .ok (.aload 10, 2) := by decide +kernel
theorem dL_replaces_102 : decode cL_replaces 102 = .ok (.iload 11, 2) := by decide +kernel
theorem dL_replaces_104 : decode cL_replaces 104 = .ok (.laload, 1) := by decide +kernel
theorem dL_replaces_105 : decode cL_replaces 105 = .ok (.invokestatic 136, 3) := by decide +kernel
theorem dL_replaces_108 : decode cL_replaces 108 = .ok (.istore 13, 2) := by decide +kernel
theorem dL_replaces_110 : decode cL_replaces 110 = .ok (.aload_n 0, 1) := by decide +kernel
theorem dL_replaces_111 : decode cL_replaces 111 = .ok (.iconst 0, 1) := by decide +kernel
theorem dL_replaces_112 : decode cL_replaces 112 = .ok (.iconst 2, 1) := by decide +kernel
theorem dL_replaces_113 : decode cL_replaces 113 = .ok (.invokestatic 185, 3) := by decide +kernel
theorem dL_replaces_116 : decode cL_replaces 116 = .ok (.istore 14, 2) := by decide +kernel
theorem dL_replaces_118 : decode cL_replaces 118 = .ok (.iconst 5, 1) := by decide +kernel
theorem dL_replaces_119 : decode cL_replaces 119 = .ok (.newarray .int, 2) := by decide +kernel
theorem dL_replaces_121 : decode cL_replaces 121 = .ok (.astore 15, 2) := by decide +kernel
theorem dL_replaces_123 : decode cL_replaces 123 = .ok (.iload 14, 2) := by decide +kernel
theorem dL_replaces_125 : decode cL_replaces 125 = .ok (.aload 10, 2) := by decide +kernel
theorem dL_replaces_127 : decode cL_replaces 127 = .ok (.iload 11, 2) := by decide +kernel
theorem dL_replaces_129 : decode cL_replaces 129 = .ok (.laload, 1) := by decide +kernel
theorem dL_replaces_130 : decode cL_replaces 130 = .ok (.iconst 2, 1) := by decide +kernel
theorem dL_replaces_131 : decode cL_replaces 131 = .ok (.invokestatic 143, 3) := by decide +kernel
theorem dL_replaces_134 : decode cL_replaces 134 = .ok (.if_icmp .ne 7, 3) := by decide +kernel
theorem dL_replaces_137 : decode cL_replaces 137 = .ok (.iconst 0, 1) := by decide +kernel
theorem dL_replaces_138 : decode cL_replaces 138 = .ok (.goto 19, 3) := by decide +kernel
theorem dL_replaces_141 : decode cL_replaces 141 = .ok (.aload_n 1, 1) := by decide +kernel
theorem dL_replaces_142 : decode cL_replaces 142 = .ok (.aload_n 2, 1) := by decide +kernel
theorem dL_replaces_143 : decode cL_replaces 143 = .ok (.aload_n 3, 1) := by decide +kernel
theorem dL_replaces_144 : decode cL_replaces 144 = .ok (.aload 4, 2) := by decide +kernel
theorem dL_replaces_146 : decode cL_replaces 146 = .ok (.aload 5, 2) := by decide +kernel
theorem dL_replaces_148 : decode cL_replaces 148 = .ok (.aload 15, 2) := by decide +kernel
theorem dL_replaces_150 : decode cL_replaces 150 = .ok (.iload 13, 2) := by decide +kernel
theorem dL_replaces_152 : decode cL_replaces 152 = .ok (.iload 14, 2) := by decide +kernel
theorem dL_replaces_154 : decode cL_replaces 154 = .ok (.invokestatic 229, 3) := by decide +kernel
theorem dL_replaces_157 : decode cL_replaces 157 = .ok (.istore 16, 2) := by decide +kernel
theorem dL_replaces_159 : decode cL_replaces 159 = .ok (.aload_n 1, 1) := by decide +kernel
theorem dL_replaces_160 : decode cL_replaces 160 = .ok (.iload 13, 2) := by decide +kernel
theorem dL_replaces_162 : decode cL_replaces 162 = .ok (.iaload, 1) := by decide +kernel
theorem dL_replaces_163 : decode cL_replaces 163 = .ok (.bipush 64, 2) := by decide +kernel
theorem dL_replaces_165 : decode cL_replaces 165 = .ok (.idiv, 1) := by decide +kernel
theorem dL_replaces_166 : decode cL_replaces 166 = .ok (.iconst 4, 1) := by decide +kernel
theorem dL_replaces_167 : decode cL_replaces 167 = .ok (.irem, 1) := by decide +kernel
theorem dL_replaces_168 : decode cL_replaces 168 = .ok (.iconst 2, 1) := by decide +kernel
theorem dL_replaces_169 : decode cL_replaces 169 = .ok (.if_icmp .ge 25, 3) := by decide +kernel
theorem dL_replaces_172 : decode cL_replaces 172 = .ok (.aload_n 0, 1) := by decide +kernel
theorem dL_replaces_173 : decode cL_replaces 173 = .ok (.iconst 0, 1) := by decide +kernel
theorem dL_replaces_174 : decode cL_replaces 174 = .ok (.iconst 0, 1) := by decide +kernel
theorem dL_replaces_175 : decode cL_replaces 175 = .ok (.invokestatic 185, 3) := by decide +kernel
theorem dL_replaces_178 : decode cL_replaces 178 = .ok (.aload 10, 2) := by decide +kernel
theorem dL_replaces_180 : decode cL_replaces 180 = .ok (.iload 11, 2) := by decide +kernel
theorem dL_replaces_182 : decode cL_replaces 182 = .ok (.laload, 1) := by decide +kernel
theorem dL_replaces_183 : decode cL_replaces 183 = .ok (.iconst 0, 1) := by decide +kernel
theorem dL_replaces_184 : decode cL_replaces 184 = .ok (.invokestatic 143, 3) := by decide +kernel
theorem dL_replaces_187 : decode cL_replaces 187 = .ok (.if_icmp .eq 7, 3) := by decide +kernel
theorem dL_replaces_190 : decode cL_replaces 190 = .ok (.iconst 1, 1) := by decide +kernel
theorem dL_replaces_191 : decode cL_replaces 191 = .ok (.goto 4, 3) := by decide +kernel
theorem dL_replaces_194 : decode cL_replaces 194 = .ok (.iconst 0, 1) := by decide +kernel
theorem dL_replaces_195 : decode cL_replaces 195 = .ok (.istore 17, 2) := by decide +kernel
theorem dL_replaces_197 : decode cL_replaces 197 = .ok (.iload 17, 2) := by decide +kernel
theorem dL_replaces_199 : decode cL_replaces 199 = .ok (.ifCond .eq 8, 3) := by decide +kernel
theorem dL_replaces_202 : decode cL_replaces 202 = .ok (.bipush 8, 2) := by decide +kernel
theorem dL_replaces_204 : decode cL_replaces 204 = .ok (.goto 43, 3) := by decide +kernel
theorem dL_replaces_207 : decode cL_replaces 207 = .ok (.iload 16, 2) := by decide +kernel
theorem dL_replaces_209 : decode cL_replaces 209 = .ok (.ifCond .le 8, 3) := by decide +kernel
theorem dL_replaces_212 : decode cL_replaces 212 = .ok (.bipush 10, 2) := by decide +kernel
theorem dL_replaces_214 : decode cL_replaces 214 = .ok (.goto 33, 3) := by decide +kernel
theorem dL_replaces_217 : decode cL_replaces 217 = .ok (.aload 5, 2) := by decide +kernel
theorem dL_replaces_219 : decode cL_replaces 219 = .ok (.iconst 0, 1) := by decide +kernel
theorem dL_replaces_220 : decode cL_replaces 220 = .ok (.iaload, 1) := by decide +kernel
theorem dL_replaces_221 : decode cL_replaces 221 = .ok (.aload 5, 2) := by decide +kernel
theorem dL_replaces_223 : decode cL_replaces 223 = .ok (.iconst 1, 1) := by decide +kernel
theorem dL_replaces_224 : decode cL_replaces 224 = .ok (.iaload, 1) := by decide +kernel
theorem dL_replaces_225 : decode cL_replaces 225 = .ok (.iadd, 1) := by decide +kernel
theorem dL_replaces_226 : decode cL_replaces 226 = .ok (.aload 5, 2) := by decide +kernel
theorem dL_replaces_228 : decode cL_replaces 228 = .ok (.iconst 2, 1) := by decide +kernel
theorem dL_replaces_229 : decode cL_replaces 229 = .ok (.iaload, 1) := by decide +kernel
theorem dL_replaces_230 : decode cL_replaces 230 = .ok (.iadd, 1) := by decide +kernel
theorem dL_replaces_231 : decode cL_replaces 231 = .ok (.aload 15, 2) := by decide +kernel
theorem dL_replaces_233 : decode cL_replaces 233 = .ok (.iconst 0, 1) := by decide +kernel
theorem dL_replaces_234 : decode cL_replaces 234 = .ok (.iaload, 1) := by decide +kernel
theorem dL_replaces_235 : decode cL_replaces 235 = .ok (.iadd, 1) := by decide +kernel
theorem dL_replaces_236 : decode cL_replaces 236 = .ok (.bipush 60, 2) := by decide +kernel
theorem dL_replaces_238 : decode cL_replaces 238 = .ok (.if_icmp .le 8, 3) := by decide +kernel
theorem dL_replaces_241 : decode cL_replaces 241 = .ok (.bipush 11, 2) := by decide +kernel
theorem dL_replaces_243 : decode cL_replaces 243 = .ok (.goto 4, 3) := by decide +kernel
theorem dL_replaces_246 : decode cL_replaces 246 = .ok (.iconst 0, 1) := by decide +kernel
theorem dL_replaces_247 : decode cL_replaces 247 = .ok (.istore 18, 2) := by decide +kernel
theorem dL_replaces_249 : decode cL_replaces 249 = .ok (.iload 18, 2) := by decide +kernel
theorem dL_replaces_251 : decode cL_replaces 251 = .ok (.ifCond .ne 27, 3) := by decide +kernel
theorem dL_replaces_254 : decode cL_replaces 254 = .ok (.aload 10, 2) := by decide +kernel
theorem dL_replaces_256 : decode cL_replaces 256 = .ok (.iload 11, 2) := by decide +kernel
theorem dL_replaces_258 : decode cL_replaces 258 = .ok (.aload_n 0, 1) := by decide +kernel
theorem dL_replaces_259 : decode cL_replaces 259 = .ok (.iconst 0, 1) := by decide +kernel
theorem dL_replaces_260 : decode cL_replaces 260 = .ok (.iload 13, 2) := by decide +kernel
theorem dL_replaces_262 : decode cL_replaces 262 = .ok (.invokestatic 237, 3) := by decide +kernel
theorem dL_replaces_265 : decode cL_replaces 265 = .ok (.lastore, 1) := by decide +kernel
theorem dL_replaces_266 : decode cL_replaces 266 = .ok (.aload_n 1, 1) := by decide +kernel
theorem dL_replaces_267 : decode cL_replaces 267 = .ok (.aload_n 2, 1) := by decide +kernel
theorem dL_replaces_268 : decode cL_replaces 268 = .ok (.aload_n 3, 1) := by decide +kernel
theorem dL_replaces_269 : decode cL_replaces 269 = .ok (.aload 4, 2) := by decide +kernel
theorem dL_replaces_271 : decode cL_replaces 271 = .ok (.aload 5, 2) := by decide +kernel
theorem dL_replaces_273 : decode cL_replaces 273 = .ok (.aload 15, 2) := by decide +kernel
theorem dL_replaces_275 : decode cL_replaces 275 = .ok (.invokestatic 233, 3) := by decide +kernel
theorem dL_replaces_278 : decode cL_replaces 278 = .ok (.iload 12, 2) := by decide +kernel
theorem dL_replaces_280 : decode cL_replaces 280 = .ok (.ifCond .eq 51, 3) := by decide +kernel
theorem dL_replaces_283 : decode cL_replaces 283 = .ok (.aload_n 0, 1) := by decide +kernel
theorem dL_replaces_284 : decode cL_replaces 284 = .ok (.iload 7, 2) := by decide +kernel
theorem dL_replaces_286 : decode cL_replaces 286 = .ok (.invokestatic 249, 3) := by decide +kernel
theorem dL_replaces_289 : decode cL_replaces 289 = .ok (.iload 18, 2) := by decide +kernel
theorem dL_replaces_291 : decode cL_replaces 291 = .ok (.if_icmp .ne 40, 3) := by decide +kernel
theorem dL_replaces_294 : decode cL_replaces 294 = .ok (.aload_n 0, 1) := by decide +kernel
theorem dL_replaces_295 : decode cL_replaces 295 = .ok (.aload_n 2, 1) := by decide +kernel
theorem dL_replaces_296 : decode cL_replaces 296 = .ok (.aload_n 3, 1) := by decide +kernel
theorem dL_replaces_297 : decode cL_replaces 297 = .ok (.aload 4, 2) := by decide +kernel
theorem dL_replaces_299 : decode cL_replaces 299 = .ok (.aload 5, 2) := by decide +kernel
theorem dL_replaces_301 : decode cL_replaces 301 = .ok (.invokestatic 243, 3) := by decide +kernel
theorem dL_replaces_304 : decode cL_replaces 304 = .ok (.ifCond .eq 27, 3) := by decide +kernel
theorem dL_replaces_307 : decode cL_replaces 307 = .ok (.aload_n 0, 1) := by decide +kernel
theorem dL_replaces_308 : decode cL_replaces 308 = .ok (.iload 7, 2) := by decide +kernel
theorem dL_replaces_310 : decode cL_replaces 310 = .ok (.invokestatic 198, 3) := by decide +kernel
theorem dL_replaces_313 : decode cL_replaces 313 = .ok (.ifCond .ne 18, 3) := by decide +kernel
theorem dL_replaces_316 : decode cL_replaces 316 = .ok (.aload_n 0, 1) := by decide +kernel
theorem dL_replaces_317 : decode cL_replaces 317 = .ok (.iload 7, 2) := by decide +kernel
theorem dL_replaces_319 : decode cL_replaces 319 = .ok (.invokestatic 249, 3) := by decide +kernel
theorem dL_replaces_322 : decode cL_replaces 322 = .ok (.bipush 6, 2) := by decide +kernel
theorem dL_replaces_324 : decode cL_replaces 324 = .ok (.if_icmp .ne 7, 3) := by decide +kernel
theorem dL_replaces_327 : decode cL_replaces 327 = .ok (.iconst 1, 1) := by decide +kernel
theorem dL_replaces_328 : decode cL_replaces 328 = .ok (.goto 4, 3) := by decide +kernel
theorem dL_replaces_331 : decode cL_replaces 331 = .ok (.iconst 0, 1) := by decide +kernel
theorem dL_replaces_332 : decode cL_replaces 332 = .ok (.ireturn, 1) := by decide +kernel
theorem dL_deletes_0 : decode cL_deletes 0 = .ok (.aload 6, 2) := by decide +kernel
theorem dL_deletes_2 : decode cL_deletes 2 = .ok (.iload 7, 2) := by decide +kernel
theorem dL_deletes_4 : decode cL_deletes 4 = .ok (.iaload, 1) := by decide +kernel
theorem dL_deletes_5 : decode cL_deletes 5 = .ok (.iconst 4, 1) := by decide +kernel
theorem dL_deletes_6 : decode cL_deletes 6 = .ok (.irem, 1) := by decide +kernel
theorem dL_deletes_7 : decode cL_deletes 7 = .ok (.istore 8, 2) := by decide +kernel
theorem dL_deletes_9 : decode cL_deletes 9 = .ok (.aload_n 0, 1) := by decide +kernel
theorem dL_deletes_10 : decode cL_deletes 10 = .ok (.iload 7, 2) := by decide +kernel
theorem dL_deletes_12 : decode cL_deletes 12 = .ok (.invokestatic 178, 3) := by decide +kernel
theorem dL_deletes_15 : decode cL_deletes 15 = .ok (.istore 9, 2) := by decide +kernel
theorem dL_deletes_17 : decode cL_deletes 17 = .ok (.iload 8, 2) := by decide +kernel
theorem dL_deletes_19 : decode cL_deletes 19 = .ok (.aload_n 2, 1) := by decide +kernel
theorem dL_deletes_20 : decode cL_deletes 20 = .ok (.aload_n 3, 1) := by decide +kernel
theorem dL_deletes_21 : decode cL_deletes 21 = .ok (.aload 4, 2) := by decide +kernel
theorem dL_deletes_23 : decode cL_deletes 23 = .ok (.invokestatic 102, 3) := by decide +kernel
theorem dL_deletes_26 : decode cL_deletes 26 = .ok (.astore 10, 2) := by decide +kernel
theorem dL_deletes_28 : decode cL_deletes 28 = .ok (.aload 10, 2) := by decide +kernel
theorem dL_deletes_30 : decode cL_deletes 30 = .ok (.iload 9, 2) := by decide +kernel
theorem dL_deletes_32 : decode cL_deletes 32 = .ok (.laload, 1) := by decide +kernel
theorem dL_deletes_33 : decode cL_deletes 33 = .ok (.invokestatic 136, 3) := by decide +kernel
theorem dL_deletes_36 : decode cL_deletes 36 = .ok (.istore 11, 2) := by decide +kernel
theorem dL_deletes_38 : decode cL_deletes 38 = .ok (.aload 10, 2) := by decide +kernel
theorem dL_deletes_40 : decode cL_deletes 40 = .ok (.iload 9, 2) := by decide +kernel
theorem dL_deletes_42 : decode cL_deletes 42 = .ok (.laload, 1) := by decide +kernel
theorem dL_deletes_43 : decode cL_deletes 43 = .ok (.iconst 0, 1) := by decide +kernel
theorem dL_deletes_44 : decode cL_deletes 44 = .ok (.invokestatic 143, 3) := by decide +kernel
theorem dL_deletes_47 : decode cL_deletes 47 = .ok (.istore 12, 2) := by decide +kernel
theorem dL_deletes_49 : decode cL_deletes 49 = .ok (.iconst 0, 1) := by decide +kernel
theorem dL_deletes_50 : decode cL_deletes 50 = .ok (.istore 13, 2) := by decide +kernel
theorem dL_deletes_52 : decode cL_deletes 52 = .ok (.iconst 3, 1) := by decide +kernel
theorem dL_deletes_53 : decode cL_deletes 53 = .ok (.newarray .int, 2) := by decide +kernel
theorem dL_deletes_55 : decode cL_deletes 55 = .ok (.astore 14, 2) := by decide +kernel
theorem dL_deletes_57 : decode cL_deletes 57 = .ok (.iconst 4, 1) := by decide +kernel
theorem dL_deletes_58 : decode cL_deletes 58 = .ok (.newarray .int, 2) := by decide +kernel
theorem dL_deletes_60 : decode cL_deletes 60 = .ok (.astore 15, 2) := by decide +kernel
theorem dL_deletes_62 : decode cL_deletes 62 = .ok (.iconst 0, 1) := by decide +kernel
theorem dL_deletes_63 : decode cL_deletes 63 = .ok (.istore 16, 2) := by decide +kernel
theorem dL_deletes_65 : decode cL_deletes 65 = .ok (.iload 16, 2) := by decide +kernel
theorem dL_deletes_67 : decode cL_deletes 67 = .ok (.iconst 4, 1) := by decide +kernel
theorem dL_deletes_68 : decode cL_deletes 68 = .ok (.if_icmp .ge 20, 3) := by decide +kernel
theorem dL_deletes_71 : decode cL_deletes 71 = .ok (.aload 15, 2) := by decide +kernel
theorem dL_deletes_73 : decode cL_deletes 73 = .ok (.iload 16, 2) := by decide +kernel
theorem dL_deletes_75 : decode cL_deletes 75 = .ok (.aload_n 0, 1) := by decide +kernel
theorem dL_deletes_76 : decode cL_deletes 76 = .ok (.iload 16, 2) := by decide +kernel
theorem dL_deletes_78 : decode cL_deletes 78 = .ok (.invokestatic 181, 3) := by decide +kernel
theorem dL_deletes_81 : decode cL_deletes 81 = .ok (.iastore, 1) := by decide +kernel
theorem dL_deletes_82 : decode cL_deletes 82 = .ok (.iinc 16 1, 3) := by decide +kernel
theorem dL_deletes_85 : decode cL_deletes 85 = .ok (.goto (-20), 3) := by decide +kernel
theorem dL_deletes_88 : decode cL_deletes 88 = .ok (.iconst 4, 1) := by decide +kernel
theorem dL_deletes_89 : decode cL_deletes 89 = .ok (.newarray .int, 2) := by decide +kernel
theorem dL_deletes_91 : decode cL_deletes 91 = .ok (.astore 16, 2) := by decide +kernel
theorem dL_deletes_93 : decode cL_deletes 93 = .ok (.iconst 0, 1) := by decide +kernel
theorem dL_deletes_94 : decode cL_deletes 94 = .ok (.istore 17, 2) := by decide +kernel
theorem dL_deletes_96 : decode cL_deletes 96 = .ok (.iload 17, 2) := by decide +kernel
theorem dL_deletes_98 : decode cL_deletes 98 = .ok (.iconst 3, 1) := by decide +kernel
theorem dL_deletes_99 : decode cL_deletes 99 = .ok (.if_icmp .ge 204, 3) := by decide +kernel
theorem dL_deletes_102 : decode cL_deletes 102 = .ok (.iload 17, 2) := by decide +kernel
theorem dL_deletes_104 : decode cL_deletes 104 = .ok (.aload_n 2, 1) := by decide +kernel
theorem dL_deletes_105 : decode cL_deletes 105 = .ok (.aload_n 3, 1) := by decide +kernel
theorem dL_deletes_106 : decode cL_deletes 106 = .ok (.aload 4, 2) := by decide +kernel
theorem dL_deletes_108 : decode cL_deletes 108 = .ok (.invokestatic 102, 3) := by decide +kernel
theorem dL_deletes_111 : decode cL_deletes 111 = .ok (.astore 18, 2) := by decide +kernel
theorem dL_deletes_113 : decode cL_deletes 113 = .ok (.iconst 0, 1) := by decide +kernel
theorem dL_deletes_114 : decode cL_deletes 114 = .ok (.istore 19, 2) := by decide +kernel
theorem dL_deletes_116 : decode cL_deletes 116 = .ok (.iconst 0, 1) := by decide +kernel
theorem dL_deletes_117 : decode cL_deletes 117 = .ok (.istore 20, 2) := by decide +kernel
theorem dL_deletes_119 : decode cL_deletes 119 = .ok (.iload 20, 2) := by decide +kernel
theorem dL_deletes_121 : decode cL_deletes 121 = .ok (.aload 5, 2) := by decide +kernel
theorem dL_deletes_123 : decode cL_deletes 123 = .ok (.iload 17, 2) := by decide +kernel
theorem dL_deletes_125 : decode cL_deletes 125 = .ok (.iaload, 1) := by decide +kernel
theorem dL_deletes_126 : decode cL_deletes 126 = .ok (.if_icmp .ge 171, 3) := by decide +kernel
theorem dL_deletes_129 : decode cL_deletes 129 = .ok (.aload_n 1, 1) := by decide +kernel
theorem dL_deletes_130 : decode cL_deletes 130 = .ok (.aload 18, 2) := by decide +kernel
theorem dL_deletes_132 : decode cL_deletes 132 = .ok (.iload 20, 2) := by decide +kernel
theorem dL_deletes_134 : decode cL_deletes 134 = .ok (.laload, 1) := by decide +kernel
theorem dL_deletes_135 : decode cL_deletes 135 = .ok (.invokestatic 136, 3) := by decide +kernel
theorem dL_deletes_138 : decode cL_deletes 138 = .ok (.invokestatic 206, 3) := by decide +kernel
theorem dL_deletes_141 : decode cL_deletes 141 = .ok (.iload 11, 2) := by decide +kernel
theorem dL_deletes_143 : decode cL_deletes 143 = .ok (.if_icmp .ne 21, 3) := by decide +kernel
theorem dL_deletes_146 : decode cL_deletes 146 = .ok (.aload 18, 2) := by decide +kernel
theorem dL_deletes_148 : decode cL_deletes 148 = .ok (.iload 20, 2) := by decide +kernel
theorem dL_deletes_150 : decode cL_deletes 150 = .ok (.laload, 1) := by decide +kernel
theorem dL_deletes_151 : decode cL_deletes 151 = .ok (.iconst 2, 1) := by decide +kernel
theorem dL_deletes_152 : decode cL_deletes 152 = .ok (.invokestatic 143, 3) := by decide +kernel
theorem dL_deletes_155 : decode cL_deletes 155 = .ok (.iload 12, 2) := by decide +kernel
theorem dL_deletes_157 : decode cL_deletes 157 = .ok (.if_icmp .ne 7, 3) := by decide +kernel
theorem dL_deletes_160 : decode cL_deletes 160 = .ok (.iconst 1, 1) := by decide +kernel
theorem dL_deletes_161 : decode cL_deletes 161 = .ok (.goto 4, 3) := by decide +kernel
theorem dL_deletes_164 : decode cL_deletes 164 = .ok (.iconst 0, 1) := by decide +kernel
theorem dL_deletes_165 : decode cL_deletes 165 = .ok (.istore 21, 2) := by decide +kernel
theorem dL_deletes_167 : decode cL_deletes 167 = .ok (.aload_n 1, 1) := by decide +kernel
theorem dL_deletes_168 : decode cL_deletes 168 = .ok (.aload 18, 2) := by decide +kernel
theorem dL_deletes_170 : decode cL_deletes 170 = .ok (.iload 20, 2) := by decide +kernel
theorem dL_deletes_172 : decode cL_deletes 172 = .ok (.laload, 1) := by decide +kernel
theorem dL_deletes_173 : decode cL_deletes 173 = .ok (.invokestatic 136, 3) := by decide +kernel
theorem dL_deletes_176 : decode cL_deletes 176 = .ok (.iaload, 1) := by decide +kernel
theorem dL_deletes_177 : decode cL_deletes 177 = .ok (.ldc 251, 2) := by decide +kernel
theorem dL_deletes_179 : decode cL_deletes 179 = .ok (.idiv, 1) := by decide +kernel
theorem dL_deletes_180 : decode cL_deletes 180 = .ok (.iconst 4, 1) := by decide +kernel
theorem dL_deletes_181 : decode cL_deletes 181 = .ok (.irem, 1) := by decide +kernel
theorem dL_deletes_182 : decode cL_deletes 182 = .ok (.istore 22, 2) := by decide +kernel
theorem dL_deletes_184 : decode cL_deletes 184 = .ok (.iload 17, 2) := by decide +kernel
theorem dL_deletes_186 : decode cL_deletes 186 = .ok (.iload 8, 2) := by decide +kernel
theorem dL_deletes_188 : decode cL_deletes 188 = .ok (.if_icmp .ne 10, 3) := by decide +kernel
theorem dL_deletes_191 : decode cL_deletes 191 = .ok (.iload 20, 2) := by decide +kernel
theorem dL_deletes_193 : decode cL_deletes 193 = .ok (.iload 9, 2) := by decide +kernel
theorem dL_deletes_195 : decode cL_deletes 195 = .ok (.if_icmp .eq 14, 3) := by decide +kernel
theorem dL_deletes_198 : decode cL_deletes 198 = .ok (.iload 21, 2) := by decide +kernel
theorem dL_deletes_200 : decode cL_deletes 200 = .ok (.ifCond .eq 40, 3) := by decide +kernel
theorem dL_deletes_203 : decode cL_deletes 203 = .ok (.iload 22, 2) := by decide +kernel
theorem dL_deletes_205 : decode cL_deletes 205 = .ok (.iconst 2, 1) := by decide +kernel
theorem dL_deletes_206 : decode cL_deletes 206 = .ok (.if_icmp .ne 34, 3) := by decide +kernel
theorem dL_deletes_209 : decode cL_deletes 209 = .ok (.aload_n 1, 1) := by decide +kernel
theorem dL_deletes_210 : decode cL_deletes 210 = .ok (.aload 18, 2) := by decide +kernel
theorem dL_deletes_212 : decode cL_deletes 212 = .ok (.aload 5, 2) := by decide +kernel
theorem dL_deletes_214 : decode cL_deletes 214 = .ok (.iload 17, 2) := by decide +kernel
theorem dL_deletes_216 : decode cL_deletes 216 = .ok (.iaload, 1) := by decide +kernel
theorem dL_deletes_217 : decode cL_deletes 217 = .ok (.iload 20, 2) := by decide +kernel
theorem dL_deletes_219 : decode cL_deletes 219 = .ok (.invokestatic 163, 3) := by decide +kernel
theorem dL_deletes_222 : decode cL_deletes 222 = .ok (.istore 23, 2) := by decide +kernel
theorem dL_deletes_224 : decode cL_deletes 224 = .ok (.iload 23, 2) := by decide +kernel
theorem dL_deletes_226 : decode cL_deletes 226 = .ok (.iload 19, 2) := by decide +kernel
theorem dL_deletes_228 : decode cL_deletes 228 = .ok (.if_icmp .le 8, 3) := by decide +kernel
theorem dL_deletes_231 : decode cL_deletes 231 = .ok (.iload 23, 2) := by decide +kernel
theorem dL_deletes_233 : decode cL_deletes 233 = .ok (.goto 5, 3) := by decide +kernel
theorem dL_deletes_236 : decode cL_deletes 236 = .ok (.iload 19, 2) := by decide +kernel
theorem dL_deletes_238 : decode cL_deletes 238 = .ok (.istore 19, 2) := by decide +kernel
theorem dL_deletes_240 : decode cL_deletes 240 = .ok (.iload 13, 2) := by decide +kernel
theorem dL_deletes_242 : decode cL_deletes 242 = .ok (.ifCond .ne 20, 3) := by decide +kernel
theorem dL_deletes_245 : decode cL_deletes 245 = .ok (.iload 21, 2) := by decide +kernel
theorem dL_deletes_247 : decode cL_deletes 247 = .ok (.ifCond .eq 19, 3) := by decide +kernel
theorem dL_deletes_250 : decode cL_deletes 250 = .ok (.iload 22, 2) := by decide +kernel
theorem dL_deletes_252 : decode cL_deletes 252 = .ok (.ifCond .ne 14, 3) := by decide +kernel
theorem dL_deletes_255 : decode cL_deletes 255 = .ok (.iload 20, 2) := by decide +kernel
theorem dL_deletes_257 : decode cL_deletes 257 = .ok (.iload 19, 2) := by decide +kernel
theorem dL_deletes_259 : decode cL_deletes 259 = .ok (.if_icmp .lt 7, 3) := by decide +kernel
theorem dL_deletes_262 : decode cL_deletes 262 = .ok (.iconst 1, 1) := by decide +kernel
theorem dL_deletes_263 : decode cL_deletes 263 = .ok (.goto 4, 3) := by decide +kernel
theorem dL_deletes_266 : decode cL_deletes 266 = .ok (.iconst 0, 1) := by decide +kernel
theorem dL_deletes_267 : decode cL_deletes 267 = .ok (.istore 13, 2) := by decide +kernel
theorem dL_deletes_269 : decode cL_deletes 269 = .ok (.aload 18, 2) := by decide +kernel
theorem dL_deletes_271 : decode cL_deletes 271 = .ok (.iload 20, 2) := by decide +kernel
theorem dL_deletes_273 : decode cL_deletes 273 = .ok (.dup2, 1) := by decide +kernel
theorem dL_deletes_274 : decode cL_deletes 274 = .ok (.laload, 1) := by decide +kernel
theorem dL_deletes_275 : decode cL_deletes 275 = .ok (.iload 20, 2) := by decide +kernel
theorem dL_deletes_277 : decode cL_deletes 277 = .ok (.iload 19, 2) := by decide +kernel
theorem dL_deletes_279 : decode cL_deletes 279 = .ok (.if_icmp .ge 9, 3) := by decide +kernel
theorem dL_deletes_282 : decode cL_deletes 282 = .ok (.ldc2_w 252, 3) := by decide +kernel
theorem dL_deletes_285 : decode cL_deletes 285 = .ok (.goto 4, 3) := by decide +kernel
theorem dL_deletes_288 : decode cL_deletes 288 = .ok (.lconst 0, 1) := by decide +kernel
theorem dL_deletes_289 : decode cL_deletes 289 = .ok (.ladd, 1) := by decide +kernel
theorem dL_deletes_290 : decode cL_deletes 290 = .ok (.lastore, 1) := by decide +kernel
theorem dL_deletes_291 : decode cL_deletes 291 = .ok (.iinc 20 1, 3) := by decide +kernel
theorem dL_deletes_294 : decode cL_deletes 294 = .ok (.goto (-175), 3) := by decide +kernel
theorem dL_deletes_297 : decode cL_deletes 297 = .ok (.iinc 17 1, 3) := by decide +kernel
theorem dL_deletes_300 : decode cL_deletes 300 = .ok (.goto (-204), 3) := by decide +kernel
theorem dL_deletes_303 : decode cL_deletes 303 = .ok (.iconst 0, 1) := by decide +kernel
theorem dL_deletes_304 : decode cL_deletes 304 = .ok (.istore 17, 2) := by decide +kernel
theorem dL_deletes_306 : decode cL_deletes 306 = .ok (.iload 17, 2) := by decide +kernel
theorem dL_deletes_308 : decode cL_deletes 308 = .ok (.iconst 3, 1) := by decide +kernel
theorem dL_deletes_309 : decode cL_deletes 309 = .ok (.if_icmp .ge 165, 3) := by decide +kernel
theorem dL_deletes_312 : decode cL_deletes 312 = .ok (.iload 17, 2) := by decide +kernel
theorem dL_deletes_314 : decode cL_deletes 314 = .ok (.aload_n 2, 1) := by decide +kernel
theorem dL_deletes_315 : decode cL_deletes 315 = .ok (.aload_n 3, 1) := by decide +kernel
theorem dL_deletes_316 : decode cL_deletes 316 = .ok (.aload 4, 2) := by decide +kernel
theorem dL_deletes_318 : decode cL_deletes 318 = .ok (.invokestatic 102, 3) := by decide +kernel
theorem dL_deletes_321 : decode cL_deletes 321 = .ok (.astore 18, 2) := by decide +kernel
theorem dL_deletes_323 : decode cL_deletes 323 = .ok (.iconst 0, 1) := by decide +kernel
theorem dL_deletes_324 : decode cL_deletes 324 = .ok (.istore 19, 2) := by decide +kernel
theorem dL_deletes_326 : decode cL_deletes 326 = .ok (.iload 19, 2) := by decide +kernel
theorem dL_deletes_328 : decode cL_deletes 328 = .ok (.aload 5, 2) := by decide +kernel
theorem dL_deletes_330 : decode cL_deletes 330 = .ok (.iload 17, 2) := by decide +kernel
theorem dL_deletes_332 : decode cL_deletes 332 = .ok (.iaload, 1) := by decide +kernel
theorem dL_deletes_333 : decode cL_deletes 333 = .ok (.if_icmp .ge 125, 3) := by decide +kernel
theorem dL_deletes_336 : decode cL_deletes 336 = .ok (.aload 18, 2) := by decide +kernel
theorem dL_deletes_338 : decode cL_deletes 338 = .ok (.iload 19, 2) := by decide +kernel
theorem dL_deletes_340 : decode cL_deletes 340 = .ok (.laload, 1) := by decide +kernel
theorem dL_deletes_341 : decode cL_deletes 341 = .ok (.bipush 40, 2) := by decide +kernel
theorem dL_deletes_343 : decode cL_deletes 343 = .ok (.lshr, 1) := by decide +kernel
theorem dL_deletes_344 : decode cL_deletes 344 = .ok (.lconst 1, 1) := by decide +kernel
theorem dL_deletes_345 : decode cL_deletes 345 = .ok (.lcmp, 1) := by decide +kernel
theorem dL_deletes_346 : decode cL_deletes 346 = .ok (.ifCond .ne 7, 3) := by decide +kernel
theorem dL_deletes_349 : decode cL_deletes 349 = .ok (.iconst 1, 1) := by decide +kernel
theorem dL_deletes_350 : decode cL_deletes 350 = .ok (.goto 4, 3) := by decide +kernel
theorem dL_deletes_353 : decode cL_deletes 353 = .ok (.iconst 0, 1) := by decide +kernel
theorem dL_deletes_354 : decode cL_deletes 354 = .ok (.istore 20, 2) := by decide +kernel
theorem dL_deletes_356 : decode cL_deletes 356 = .ok (.iload 13, 2) := by decide +kernel
theorem dL_deletes_358 : decode cL_deletes 358 = .ok (.ifCond .ne 8, 3) := by decide +kernel
theorem dL_deletes_361 : decode cL_deletes 361 = .ok (.iload 20, 2) := by decide +kernel
theorem dL_deletes_363 : decode cL_deletes 363 = .ok (.ifCond .ne 29, 3) := by decide +kernel
theorem dL_deletes_366 : decode cL_deletes 366 = .ok (.aload 18, 2) := by decide +kernel
theorem dL_deletes_368 : decode cL_deletes 368 = .ok (.aload 14, 2) := by decide +kernel
theorem dL_deletes_370 : decode cL_deletes 370 = .ok (.iload 17, 2) := by decide +kernel
theorem dL_deletes_372 : decode cL_deletes 372 = .ok (.iaload, 1) := by decide +kernel
theorem dL_deletes_373 : decode cL_deletes 373 = .ok (.aload 18, 2) := by decide +kernel
theorem dL_deletes_375 : decode cL_deletes 375 = .ok (.iload 19, 2) := by decide +kernel
theorem dL_deletes_377 : decode cL_deletes 377 = .ok (.laload, 1) := by decide +kernel
theorem dL_deletes_378 : decode cL_deletes 378 = .ok (.ldc2_w 254, 3) := by decide +kernel
theorem dL_deletes_381 : decode cL_deletes 381 = .ok (.land, 1) := by decide +kernel
theorem dL_deletes_382 : decode cL_deletes 382 = .ok (.lastore, 1) := by decide +kernel
theorem dL_deletes_383 : decode cL_deletes 383 = .ok (.aload 14, 2) := by decide +kernel
theorem dL_deletes_385 : decode cL_deletes 385 = .ok (.iload 17, 2) := by decide +kernel
theorem dL_deletes_387 : decode cL_deletes 387 = .ok (.dup2, 1) := by decide +kernel
theorem dL_deletes_388 : decode cL_deletes 388 = .ok (.iaload, 1) := by decide +kernel
theorem dL_deletes_389 : decode cL_deletes 389 = .ok (.iconst 1, 1) := by decide +kernel
theorem dL_deletes_390 : decode cL_deletes 390 = .ok (.iadd, 1) := by decide +kernel
theorem dL_deletes_391 : decode cL_deletes 391 = .ok (.iastore, 1) := by decide +kernel
theorem dL_deletes_392 : decode cL_deletes 392 = .ok (.iconst 0, 1) := by decide +kernel
theorem dL_deletes_393 : decode cL_deletes 393 = .ok (.istore 21, 2) := by decide +kernel
theorem dL_deletes_395 : decode cL_deletes 395 = .ok (.iload 21, 2) := by decide +kernel
theorem dL_deletes_397 : decode cL_deletes 397 = .ok (.iconst 4, 1) := by decide +kernel
theorem dL_deletes_398 : decode cL_deletes 398 = .ok (.if_icmp .ge 54, 3) := by decide +kernel
theorem dL_deletes_401 : decode cL_deletes 401 = .ok (.aload 16, 2) := by decide +kernel
theorem dL_deletes_403 : decode cL_deletes 403 = .ok (.iload 21, 2) := by decide +kernel
theorem dL_deletes_405 : decode cL_deletes 405 = .ok (.dup2, 1) := by decide +kernel
theorem dL_deletes_406 : decode cL_deletes 406 = .ok (.iaload, 1) := by decide +kernel
theorem dL_deletes_407 : decode cL_deletes 407 = .ok (.iload 13, 2) := by decide +kernel
theorem dL_deletes_409 : decode cL_deletes 409 = .ok (.ifCond .ne 34, 3) := by decide +kernel
theorem dL_deletes_412 : decode cL_deletes 412 = .ok (.iload 20, 2) := by decide +kernel
theorem dL_deletes_414 : decode cL_deletes 414 = .ok (.ifCond .eq 29, 3) := by decide +kernel
theorem dL_deletes_417 : decode cL_deletes 417 = .ok (.aload 6, 2) := by decide +kernel
theorem dL_deletes_419 : decode cL_deletes 419 = .ok (.iload 21, 2) := by decide +kernel
theorem dL_deletes_421 : decode cL_deletes 421 = .ok (.iaload, 1) := by decide +kernel
theorem dL_deletes_422 : decode cL_deletes 422 = .ok (.iconst 4, 1) := by decide +kernel
theorem dL_deletes_423 : decode cL_deletes 423 = .ok (.irem, 1) := by decide +kernel
theorem dL_deletes_424 : decode cL_deletes 424 = .ok (.iload 17, 2) := by decide +kernel
theorem dL_deletes_426 : decode cL_deletes 426 = .ok (.if_icmp .ne 17, 3) := by decide +kernel
theorem dL_deletes_429 : decode cL_deletes 429 = .ok (.iload 19, 2) := by decide +kernel
theorem dL_deletes_431 : decode cL_deletes 431 = .ok (.aload 15, 2) := by decide +kernel
theorem dL_deletes_433 : decode cL_deletes 433 = .ok (.iload 21, 2) := by decide +kernel
theorem dL_deletes_435 : decode cL_deletes 435 = .ok (.iaload, 1) := by decide +kernel
theorem dL_deletes_436 : decode cL_deletes 436 = .ok (.if_icmp .ge 7, 3) := by decide +kernel
theorem dL_deletes_439 : decode cL_deletes 439 = .ok (.iconst 1, 1) := by decide +kernel
theorem dL_deletes_440 : decode cL_deletes 440 = .ok (.goto 4, 3) := by decide +kernel
theorem dL_deletes_443 : decode cL_deletes 443 = .ok (.iconst 0, 1) := by decide +kernel
theorem dL_deletes_444 : decode cL_deletes 444 = .ok (.iadd, 1) := by decide +kernel
theorem dL_deletes_445 : decode cL_deletes 445 = .ok (.iastore, 1) := by decide +kernel
theorem dL_deletes_446 : decode cL_deletes 446 = .ok (.iinc 21 1, 3) := by decide +kernel
theorem dL_deletes_449 : decode cL_deletes 449 = .ok (.goto (-54), 3) := by decide +kernel
theorem dL_deletes_452 : decode cL_deletes 452 = .ok (.iinc 19 1, 3) := by decide +kernel
theorem dL_deletes_455 : decode cL_deletes 455 = .ok (.goto (-129), 3) := by decide +kernel
theorem dL_deletes_458 : decode cL_deletes 458 = .ok (.aload 5, 2) := by decide +kernel
theorem dL_deletes_460 : decode cL_deletes 460 = .ok (.iload 17, 2) := by decide +kernel
theorem dL_deletes_462 : decode cL_deletes 462 = .ok (.aload 14, 2) := by decide +kernel
theorem dL_deletes_464 : decode cL_deletes 464 = .ok (.iload 17, 2) := by decide +kernel
theorem dL_deletes_466 : decode cL_deletes 466 = .ok (.iaload, 1) := by decide +kernel
theorem dL_deletes_467 : decode cL_deletes 467 = .ok (.iastore, 1) := by decide +kernel
theorem dL_deletes_468 : decode cL_deletes 468 = .ok (.iinc 17 1, 3) := by decide +kernel
theorem dL_deletes_471 : decode cL_deletes 471 = .ok (.goto (-165), 3) := by decide +kernel
theorem dL_deletes_474 : decode cL_deletes 474 = .ok (.aload_n 0, 1) := by decide +kernel
theorem dL_deletes_475 : decode cL_deletes 475 = .ok (.iload 7, 2) := by decide +kernel
theorem dL_deletes_477 : decode cL_deletes 477 = .ok (.invokestatic 256, 3) := by decide +kernel
theorem dL_deletes_480 : decode cL_deletes 480 = .ok (.iload 13, 2) := by decide +kernel
theorem dL_deletes_482 : decode cL_deletes 482 = .ok (.ifCond .eq 8, 3) := by decide +kernel
theorem dL_deletes_485 : decode cL_deletes 485 = .ok (.bipush 12, 2) := by decide +kernel
theorem dL_deletes_487 : decode cL_deletes 487 = .ok (.goto 4, 3) := by decide +kernel
theorem dL_deletes_490 : decode cL_deletes 490 = .ok (.iconst 0, 1) := by decide +kernel
theorem dL_deletes_491 : decode cL_deletes 491 = .ok (.if_icmp .ne 40, 3) := by decide +kernel
theorem dL_deletes_494 : decode cL_deletes 494 = .ok (.aload_n 0, 1) := by decide +kernel
theorem dL_deletes_495 : decode cL_deletes 495 = .ok (.aload_n 2, 1) := by decide +kernel
theorem dL_deletes_496 : decode cL_deletes 496 = .ok (.aload_n 3, 1) := by decide +kernel
theorem dL_deletes_497 : decode cL_deletes 497 = .ok (.aload 4, 2) := by decide +kernel
theorem dL_deletes_499 : decode cL_deletes 499 = .ok (.aload 5, 2) := by decide +kernel
theorem dL_deletes_501 : decode cL_deletes 501 = .ok (.invokestatic 243, 3) := by decide +kernel
theorem dL_deletes_504 : decode cL_deletes 504 = .ok (.ifCond .eq 27, 3) := by decide +kernel
theorem dL_deletes_507 : decode cL_deletes 507 = .ok (.aload_n 0, 1) := by decide +kernel
theorem dL_deletes_508 : decode cL_deletes 508 = .ok (.iload 7, 2) := by decide +kernel
theorem dL_deletes_510 : decode cL_deletes 510 = .ok (.invokestatic 198, 3) := by decide +kernel
theorem dL_deletes_513 : decode cL_deletes 513 = .ok (.ifCond .ne 18, 3) := by decide +kernel
theorem dL_deletes_516 : decode cL_deletes 516 = .ok (.aload_n 0, 1) := by decide +kernel
theorem dL_deletes_517 : decode cL_deletes 517 = .ok (.iload 7, 2) := by decide +kernel
theorem dL_deletes_519 : decode cL_deletes 519 = .ok (.invokestatic 256, 3) := by decide +kernel
theorem dL_deletes_522 : decode cL_deletes 522 = .ok (.bipush 6, 2) := by decide +kernel
theorem dL_deletes_524 : decode cL_deletes 524 = .ok (.if_icmp .ne 7, 3) := by decide +kernel
theorem dL_deletes_527 : decode cL_deletes 527 = .ok (.iconst 1, 1) := by decide +kernel
theorem dL_deletes_528 : decode cL_deletes 528 = .ok (.goto 4, 3) := by decide +kernel
theorem dL_deletes_531 : decode cL_deletes 531 = .ok (.iconst 0, 1) := by decide +kernel
theorem dL_deletes_532 : decode cL_deletes 532 = .ok (.istore 17, 2) := by decide +kernel
theorem dL_deletes_534 : decode cL_deletes 534 = .ok (.iconst 0, 1) := by decide +kernel
theorem dL_deletes_535 : decode cL_deletes 535 = .ok (.istore 18, 2) := by decide +kernel
theorem dL_deletes_537 : decode cL_deletes 537 = .ok (.iload 18, 2) := by decide +kernel
theorem dL_deletes_539 : decode cL_deletes 539 = .ok (.iconst 4, 1) := by decide +kernel
theorem dL_deletes_540 : decode cL_deletes 540 = .ok (.if_icmp .ge 41, 3) := by decide +kernel
theorem dL_deletes_543 : decode cL_deletes 543 = .ok (.iload 17, 2) := by decide +kernel
theorem dL_deletes_545 : decode cL_deletes 545 = .ok (.ifCond .eq 27, 3) := by decide +kernel
theorem dL_deletes_548 : decode cL_deletes 548 = .ok (.aload_n 0, 1) := by decide +kernel
theorem dL_deletes_549 : decode cL_deletes 549 = .ok (.iload 18, 2) := by decide +kernel
theorem dL_deletes_551 : decode cL_deletes 551 = .ok (.invokestatic 181, 3) := by decide +kernel
theorem dL_deletes_554 : decode cL_deletes 554 = .ok (.aload 15, 2) := by decide +kernel
theorem dL_deletes_556 : decode cL_deletes 556 = .ok (.iload 18, 2) := by decide +kernel
theorem dL_deletes_558 : decode cL_deletes 558 = .ok (.iaload, 1) := by decide +kernel
theorem dL_deletes_559 : decode cL_deletes 559 = .ok (.aload 16, 2) := by decide +kernel
theorem dL_deletes_561 : decode cL_deletes 561 = .ok (.iload 18, 2) := by decide +kernel
theorem dL_deletes_563 : decode cL_deletes 563 = .ok (.iaload, 1) := by decide +kernel
theorem dL_deletes_564 : decode cL_deletes 564 = .ok (.isub, 1) := by decide +kernel
theorem dL_deletes_565 : decode cL_deletes 565 = .ok (.if_icmp .ne 7, 3) := by decide +kernel
theorem dL_deletes_568 : decode cL_deletes 568 = .ok (.iconst 1, 1) := by decide +kernel
theorem dL_deletes_569 : decode cL_deletes 569 = .ok (.goto 4, 3) := by decide +kernel
theorem dL_deletes_572 : decode cL_deletes 572 = .ok (.iconst 0, 1) := by decide +kernel
theorem dL_deletes_573 : decode cL_deletes 573 = .ok (.istore 17, 2) := by decide +kernel
theorem dL_deletes_575 : decode cL_deletes 575 = .ok (.iinc 18 1, 3) := by decide +kernel
theorem dL_deletes_578 : decode cL_deletes 578 = .ok (.goto (-41), 3) := by decide +kernel
theorem dL_deletes_581 : decode cL_deletes 581 = .ok (.iload 17, 2) := by decide +kernel
theorem dL_deletes_583 : decode cL_deletes 583 = .ok (.ifCond .eq 22, 3) := by decide +kernel
theorem dL_deletes_586 : decode cL_deletes 586 = .ok (.iload 13, 2) := by decide +kernel
theorem dL_deletes_588 : decode cL_deletes 588 = .ok (.ifCond .ne 13, 3) := by decide +kernel
theorem dL_deletes_591 : decode cL_deletes 591 = .ok (.aload_n 0, 1) := by decide +kernel
theorem dL_deletes_592 : decode cL_deletes 592 = .ok (.iload 7, 2) := by decide +kernel
theorem dL_deletes_594 : decode cL_deletes 594 = .ok (.invokestatic 178, 3) := by decide +kernel
theorem dL_deletes_597 : decode cL_deletes 597 = .ok (.iconst (-1), 1) := by decide +kernel
theorem dL_deletes_598 : decode cL_deletes 598 = .ok (.if_icmp .ne 7, 3) := by decide +kernel
theorem dL_deletes_601 : decode cL_deletes 601 = .ok (.iconst 1, 1) := by decide +kernel
theorem dL_deletes_602 : decode cL_deletes 602 = .ok (.goto 4, 3) := by decide +kernel
theorem dL_deletes_605 : decode cL_deletes 605 = .ok (.iconst 0, 1) := by decide +kernel
theorem dL_deletes_606 : decode cL_deletes 606 = .ok (.ireturn, 1) := by decide +kernel
theorem dL_defines_0 : decode cL_defines 0 = .ok (.aload_n 2, 1) := by decide +kernel
theorem dL_defines_1 : decode cL_defines 1 = .ok (.iconst 0, 1) := by decide +kernel
theorem dL_defines_2 : decode cL_defines 2 = .ok (.iaload, 1) := by decide +kernel
theorem dL_defines_3 : decode cL_defines 3 = .ok (.istore 5, 2) := by decide +kernel
theorem dL_defines_5 : decode cL_defines 5 = .ok (.iload 5, 2) := by decide +kernel
theorem dL_defines_7 : decode cL_defines 7 = .ok (.iconst 2, 1) := by decide +kernel
theorem dL_defines_8 : decode cL_defines 8 = .ok (.if_icmp .ge 8, 3) := by decide +kernel
theorem dL_defines_11 : decode cL_defines 11 = .ok (.iload 5, 2) := by decide +kernel
theorem dL_defines_13 : decode cL_defines 13 = .ok (.goto 16, 3) := by decide +kernel
theorem dL_defines_16 : decode cL_defines 16 = .ok (.iload_n 3, 1) := by decide +kernel
theorem dL_defines_17 : decode cL_defines 17 = .ok (.iconst 3, 1) := by decide +kernel
theorem dL_defines_18 : decode cL_defines 18 = .ok (.invokestatic 170, 3) := by decide +kernel
theorem dL_defines_21 : decode cL_defines 21 = .ok (.ifCond .ne 7, 3) := by decide +kernel
theorem dL_defines_24 : decode cL_defines 24 = .ok (.iconst 1, 1) := by decide +kernel
theorem dL_defines_25 : decode cL_defines 25 = .ok (.goto 4, 3) := by decide +kernel
theorem dL_defines_28 : decode cL_defines 28 = .ok (.iconst 0, 1) := by decide +kernel
theorem dL_defines_29 : decode cL_defines 29 = .ok (.istore 6, 2) := by decide +kernel
theorem dL_defines_31 : decode cL_defines 31 = .ok (.iconst (-1), 1) := by decide +kernel
theorem dL_defines_32 : decode cL_defines 32 = .ok (.istore 7, 2) := by decide +kernel
theorem dL_defines_34 : decode cL_defines 34 = .ok (.iload 5, 2) := by decide +kernel
theorem dL_defines_36 : decode cL_defines 36 = .ok (.iconst 1, 1) := by decide +kernel
theorem dL_defines_37 : decode cL_defines 37 = .ok (.if_icmp .le 59, 3) := by decide +kernel
theorem dL_defines_40 : decode cL_defines 40 = .ok (.iload_n 3, 1) := by decide +kernel
theorem dL_defines_41 : decode cL_defines 41 = .ok (.iconst 2, 1) := by decide +kernel
theorem dL_defines_42 : decode cL_defines 42 = .ok (.ishr, 1) := by decide +kernel
theorem dL_defines_43 : decode cL_defines 43 = .ok (.iload 5, 2) := by decide +kernel
theorem dL_defines_45 : decode cL_defines 45 = .ok (.invokestatic 170, 3) := by decide +kernel
theorem dL_defines_48 : decode cL_defines 48 = .ok (.istore 7, 2) := by decide +kernel
theorem dL_defines_50 : decode cL_defines 50 = .ok (.iconst 0, 1) := by decide +kernel
theorem dL_defines_51 : decode cL_defines 51 = .ok (.istore 8, 2) := by decide +kernel
theorem dL_defines_53 : decode cL_defines 53 = .ok (.iload 8, 2) := by decide +kernel
theorem dL_defines_55 : decode cL_defines 55 = .ok (.iload 5, 2) := by decide +kernel
theorem dL_defines_57 : decode cL_defines 57 = .ok (.if_icmp .ge 39, 3) := by decide +kernel
theorem dL_defines_60 : decode cL_defines 60 = .ok (.aload_n 1, 1) := by decide +kernel
theorem dL_defines_61 : decode cL_defines 61 = .ok (.iload 7, 2) := by decide +kernel
theorem dL_defines_63 : decode cL_defines 63 = .ok (.invokestatic 129, 3) := by decide +kernel
theorem dL_defines_66 : decode cL_defines 66 = .ok (.iload 6, 2) := by decide +kernel
theorem dL_defines_68 : decode cL_defines 68 = .ok (.if_icmp .ne 13, 3) := by decide +kernel
theorem dL_defines_71 : decode cL_defines 71 = .ok (.aload_n 1, 1) := by decide +kernel
theorem dL_defines_72 : decode cL_defines 72 = .ok (.iload 7, 2) := by decide +kernel
theorem dL_defines_74 : decode cL_defines 74 = .ok (.invokestatic 140, 3) := by decide +kernel
theorem dL_defines_77 : decode cL_defines 77 = .ok (.iconst 4, 1) := by decide +kernel
theorem dL_defines_78 : decode cL_defines 78 = .ok (.if_icmp .ne 18, 3) := by decide +kernel
theorem dL_defines_81 : decode cL_defines 81 = .ok (.iload 7, 2) := by decide +kernel
theorem dL_defines_83 : decode cL_defines 83 = .ok (.iconst 1, 1) := by decide +kernel
theorem dL_defines_84 : decode cL_defines 84 = .ok (.iadd, 1) := by decide +kernel
theorem dL_defines_85 : decode cL_defines 85 = .ok (.iload 5, 2) := by decide +kernel
theorem dL_defines_87 : decode cL_defines 87 = .ok (.irem, 1) := by decide +kernel
theorem dL_defines_88 : decode cL_defines 88 = .ok (.istore 7, 2) := by decide +kernel
theorem dL_defines_90 : decode cL_defines 90 = .ok (.iinc 8 1, 3) := by decide +kernel
theorem dL_defines_93 : decode cL_defines 93 = .ok (.goto (-40), 3) := by decide +kernel
theorem dL_defines_96 : decode cL_defines 96 = .ok (.iload 7, 2) := by decide +kernel
theorem dL_defines_98 : decode cL_defines 98 = .ok (.ifCond .ge 7, 3) := by decide +kernel
theorem dL_defines_101 : decode cL_defines 101 = .ok (.iconst 0, 1) := by decide +kernel
theorem dL_defines_102 : decode cL_defines 102 = .ok (.goto 9, 3) := by decide +kernel
theorem dL_defines_105 : decode cL_defines 105 = .ok (.iload 4, 2) := by decide +kernel
theorem dL_defines_107 : decode cL_defines 107 = .ok (.iconst 3, 1) := by decide +kernel
theorem dL_defines_108 : decode cL_defines 108 = .ok (.invokestatic 170, 3) := by decide +kernel
theorem dL_defines_111 : decode cL_defines 111 = .ok (.istore 8, 2) := by decide +kernel
theorem dL_defines_113 : decode cL_defines 113 = .ok (.iload 4, 2) := by decide +kernel
theorem dL_defines_115 : decode cL_defines 115 = .ok (.iconst 2, 1) := by decide +kernel
theorem dL_defines_116 : decode cL_defines 116 = .ok (.ishr, 1) := by decide +kernel
theorem dL_defines_117 : decode cL_defines 117 = .ok (.iconst 3, 1) := by decide +kernel
theorem dL_defines_118 : decode cL_defines 118 = .ok (.invokestatic 170, 3) := by decide +kernel
theorem dL_defines_121 : decode cL_defines 121 = .ok (.istore 9, 2) := by decide +kernel
theorem dL_defines_123 : decode cL_defines 123 = .ok (.aload_n 1, 1) := by decide +kernel
theorem dL_defines_124 : decode cL_defines 124 = .ok (.iload 5, 2) := by decide +kernel
theorem dL_defines_126 : decode cL_defines 126 = .ok (.iload 6, 2) := by decide +kernel
theorem dL_defines_128 : decode cL_defines 128 = .ok (.iconst 4, 1) := by decide +kernel
theorem dL_defines_129 : decode cL_defines 129 = .ok (.iload 7, 2) := by decide +kernel
theorem dL_defines_131 : decode cL_defines 131 = .ok (.iconst 1, 1) := by decide +kernel
theorem dL_defines_132 : decode cL_defines 132 = .ok (.iadd, 1) := by decide +kernel
theorem dL_defines_133 : decode cL_defines 133 = .ok (.imul, 1) := by decide +kernel
theorem dL_defines_134 : decode cL_defines 134 = .ok (.iadd, 1) := by decide +kernel
theorem dL_defines_135 : decode cL_defines 135 = .ok (.bipush 64, 2) := by decide +kernel
theorem dL_defines_137 : decode cL_defines 137 = .ok (.iload 8, 2) := by decide +kernel
theorem dL_defines_139 : decode cL_defines 139 = .ok (.imul, 1) := by decide +kernel
theorem dL_defines_140 : decode cL_defines 140 = .ok (.iadd, 1) := by decide +kernel
theorem dL_defines_141 : decode cL_defines 141 = .ok (.sipush 256, 3) := by decide +kernel
theorem dL_defines_144 : decode cL_defines 144 = .ok (.iload 9, 2) := by decide +kernel
theorem dL_defines_146 : decode cL_defines 146 = .ok (.imul, 1) := by decide +kernel
theorem dL_defines_147 : decode cL_defines 147 = .ok (.iadd, 1) := by decide +kernel
theorem dL_defines_148 : decode cL_defines 148 = .ok (.sipush 1024, 3) := by decide +kernel
theorem dL_defines_151 : decode cL_defines 151 = .ok (.iload 7, 2) := by decide +kernel
theorem dL_defines_153 : decode cL_defines 153 = .ok (.ifCond .ge 7, 3) := by decide +kernel
theorem dL_defines_156 : decode cL_defines 156 = .ok (.iconst 1, 1) := by decide +kernel
theorem dL_defines_157 : decode cL_defines 157 = .ok (.goto 11, 3) := by decide +kernel
theorem dL_defines_160 : decode cL_defines 160 = .ok (.aload_n 1, 1) := by decide +kernel
theorem dL_defines_161 : decode cL_defines 161 = .ok (.iload 7, 2) := by decide +kernel
theorem dL_defines_163 : decode cL_defines 163 = .ok (.invokestatic 140, 3) := by decide +kernel
theorem dL_defines_166 : decode cL_defines 166 = .ok (.iconst 1, 1) := by decide +kernel
theorem dL_defines_167 : decode cL_defines 167 = .ok (.iadd, 1) := by decide +kernel
theorem dL_defines_168 : decode cL_defines 168 = .ok (.imul, 1) := by decide +kernel
theorem dL_defines_169 : decode cL_defines 169 = .ok (.iadd, 1) := by decide +kernel
theorem dL_defines_170 : decode cL_defines 170 = .ok (.iastore, 1) := by decide +kernel
theorem dL_defines_171 : decode cL_defines 171 = .ok (.aload_n 2, 1) := by decide +kernel
theorem dL_defines_172 : decode cL_defines 172 = .ok (.iconst 0, 1) := by decide +kernel
theorem dL_defines_173 : decode cL_defines 173 = .ok (.dup2, 1) := by decide +kernel
theorem dL_defines_174 : decode cL_defines 174 = .ok (.iaload, 1) := by decide +kernel
theorem dL_defines_175 : decode cL_defines 175 = .ok (.iconst 1, 1) := by decide +kernel
theorem dL_defines_176 : decode cL_defines 176 = .ok (.iadd, 1) := by decide +kernel
theorem dL_defines_177 : decode cL_defines 177 = .ok (.iastore, 1) := by decide +kernel
theorem dL_defines_178 : decode cL_defines 178 = .ok (.aload_n 0, 1) := by decide +kernel
theorem dL_defines_179 : decode cL_defines 179 = .ok (.iload 6, 2) := by decide +kernel
theorem dL_defines_181 : decode cL_defines 181 = .ok (.iload 7, 2) := by decide +kernel
theorem dL_defines_183 : decode cL_defines 183 = .ok (.iload 8, 2) := by decide +kernel
theorem dL_defines_185 : decode cL_defines 185 = .ok (.iload 9, 2) := by decide +kernel
theorem dL_defines_187 : decode cL_defines 187 = .ok (.invokestatic 258, 3) := by decide +kernel
theorem dL_defines_190 : decode cL_defines 190 = .ok (.iload 5, 2) := by decide +kernel
theorem dL_defines_192 : decode cL_defines 192 = .ok (.if_icmp .ne 105, 3) := by decide +kernel
theorem dL_defines_195 : decode cL_defines 195 = .ok (.aload_n 0, 1) := by decide +kernel
theorem dL_defines_196 : decode cL_defines 196 = .ok (.iconst 3, 1) := by decide +kernel
theorem dL_defines_197 : decode cL_defines 197 = .ok (.bipush (-2), 2) := by decide +kernel
theorem dL_defines_199 : decode cL_defines 199 = .ok (.iconst 3, 1) := by decide +kernel
theorem dL_defines_200 : decode cL_defines 200 = .ok (.iconst 3, 1) := by decide +kernel
theorem dL_defines_201 : decode cL_defines 201 = .ok (.invokestatic 258, 3) := by decide +kernel
theorem dL_defines_204 : decode cL_defines 204 = .ok (.ldc 18, 2) := by decide +kernel
theorem dL_defines_206 : decode cL_defines 206 = .ok (.if_icmp .ne 91, 3) := by decide +kernel
theorem dL_defines_209 : decode cL_defines 209 = .ok (.aload_n 0, 1) := by decide +kernel
theorem dL_defines_210 : decode cL_defines 210 = .ok (.iconst 0, 1) := by decide +kernel
theorem dL_defines_211 : decode cL_defines 211 = .ok (.iload 5, 2) := by decide +kernel
theorem dL_defines_213 : decode cL_defines 213 = .ok (.iconst 1, 1) := by decide +kernel
theorem dL_defines_214 : decode cL_defines 214 = .ok (.iadd, 1) := by decide +kernel
theorem dL_defines_215 : decode cL_defines 215 = .ok (.iconst 0, 1) := by decide +kernel
theorem dL_defines_216 : decode cL_defines 216 = .ok (.iconst 0, 1) := by decide +kernel
theorem dL_defines_217 : decode cL_defines 217 = .ok (.invokestatic 258, 3) := by decide +kernel
theorem dL_defines_220 : decode cL_defines 220 = .ok (.ldc 18, 2) := by decide +kernel
theorem dL_defines_222 : decode cL_defines 222 = .ok (.if_icmp .ne 75, 3) := by decide +kernel
theorem dL_defines_225 : decode cL_defines 225 = .ok (.aload_n 0, 1) := by decide +kernel
theorem dL_defines_226 : decode cL_defines 226 = .ok (.iconst 0, 1) := by decide +kernel
theorem dL_defines_227 : decode cL_defines 227 = .ok (.iconst (-1), 1) := by decide +kernel
theorem dL_defines_228 : decode cL_defines 228 = .ok (.iconst 1, 1) := by decide +kernel
theorem dL_defines_229 : decode cL_defines 229 = .ok (.iconst 0, 1) := by decide +kernel
theorem dL_defines_230 : decode cL_defines 230 = .ok (.invokestatic 258, 3) := by decide +kernel
theorem dL_defines_233 : decode cL_defines 233 = .ok (.ldc 21, 2) := by decide +kernel
theorem dL_defines_235 : decode cL_defines 235 = .ok (.if_icmp .ne 62, 3) := by decide +kernel
theorem dL_defines_238 : decode cL_defines 238 = .ok (.aload_n 0, 1) := by decide +kernel
theorem dL_defines_239 : decode cL_defines 239 = .ok (.iconst 0, 1) := by decide +kernel
theorem dL_defines_240 : decode cL_defines 240 = .ok (.iconst (-1), 1) := by decide +kernel
theorem dL_defines_241 : decode cL_defines 241 = .ok (.iconst 0, 1) := by decide +kernel
theorem dL_defines_242 : decode cL_defines 242 = .ok (.iconst 3, 1) := by decide +kernel
theorem dL_defines_243 : decode cL_defines 243 = .ok (.invokestatic 258, 3) := by decide +kernel
theorem dL_defines_246 : decode cL_defines 246 = .ok (.ldc 21, 2) := by decide +kernel
theorem dL_defines_248 : decode cL_defines 248 = .ok (.if_icmp .ne 49, 3) := by decide +kernel
theorem dL_defines_251 : decode cL_defines 251 = .ok (.aload_n 0, 1) := by decide +kernel
theorem dL_defines_252 : decode cL_defines 252 = .ok (.iload 6, 2) := by decide +kernel
theorem dL_defines_254 : decode cL_defines 254 = .ok (.iload 6, 2) := by decide +kernel
theorem dL_defines_256 : decode cL_defines 256 = .ok (.iconst 3, 1) := by decide +kernel
theorem dL_defines_257 : decode cL_defines 257 = .ok (.iconst 0, 1) := by decide +kernel
theorem dL_defines_258 : decode cL_defines 258 = .ok (.invokestatic 258, 3) := by decide +kernel
theorem dL_defines_261 : decode cL_defines 261 = .ok (.ldc 21, 2) := by decide +kernel
theorem dL_defines_263 : decode cL_defines 263 = .ok (.if_icmp .ne 34, 3) := by decide +kernel
theorem dL_defines_266 : decode cL_defines 266 = .ok (.aload_n 0, 1) := by decide +kernel
theorem dL_defines_267 : decode cL_defines 267 = .ok (.iconst 2, 1) := by decide +kernel
theorem dL_defines_268 : decode cL_defines 268 = .ok (.iconst 0, 1) := by decide +kernel
theorem dL_defines_269 : decode cL_defines 269 = .ok (.iconst 0, 1) := by decide +kernel
theorem dL_defines_270 : decode cL_defines 270 = .ok (.iconst 0, 1) := by decide +kernel
theorem dL_defines_271 : decode cL_defines 271 = .ok (.invokestatic 258, 3) := by decide +kernel
theorem dL_defines_274 : decode cL_defines 274 = .ok (.ldc 21, 2) := by decide +kernel
theorem dL_defines_276 : decode cL_defines 276 = .ok (.if_icmp .ne 21, 3) := by decide +kernel
theorem dL_defines_279 : decode cL_defines 279 = .ok (.aload_n 0, 1) := by decide +kernel
theorem dL_defines_280 : decode cL_defines 280 = .ok (.iload 6, 2) := by decide +kernel
theorem dL_defines_282 : decode cL_defines 282 = .ok (.iconst (-1), 1) := by decide +kernel
theorem dL_defines_283 : decode cL_defines 283 = .ok (.iconst 0, 1) := by decide +kernel
theorem dL_defines_284 : decode cL_defines 284 = .ok (.iconst 0, 1) := by decide +kernel
theorem dL_defines_285 : decode cL_defines 285 = .ok (.invokestatic 258, 3) := by decide +kernel
theorem dL_defines_288 : decode cL_defines 288 = .ok (.ldc 24, 2) := by decide +kernel
theorem dL_defines_290 : decode cL_defines 290 = .ok (.if_icmp .ne 7, 3) := by decide +kernel
theorem dL_defines_293 : decode cL_defines 293 = .ok (.iconst 1, 1) := by decide +kernel
theorem dL_defines_294 : decode cL_defines 294 = .ok (.goto 4, 3) := by decide +kernel
theorem dL_defines_297 : decode cL_defines 297 = .ok (.iconst 0, 1) := by decide +kernel
theorem dL_defines_298 : decode cL_defines 298 = .ok (.istore 10, 2) := by decide +kernel
theorem dL_defines_300 : decode cL_defines 300 = .ok (.iload 7, 2) := by decide +kernel
theorem dL_defines_302 : decode cL_defines 302 = .ok (.ifCond .lt 126, 3) := by decide +kernel
theorem dL_defines_305 : decode cL_defines 305 = .ok (.iload 4, 2) := by decide +kernel
theorem dL_defines_307 : decode cL_defines 307 = .ok (.iconst 4, 1) := by decide +kernel
theorem dL_defines_308 : decode cL_defines 308 = .ok (.ishr, 1) := by decide +kernel
theorem dL_defines_309 : decode cL_defines 309 = .ok (.iconst 3, 1) := by decide +kernel
theorem dL_defines_310 : decode cL_defines 310 = .ok (.invokestatic 170, 3) := by decide +kernel
theorem dL_defines_313 : decode cL_defines 313 = .ok (.ifCond .le 115, 3) := by decide +kernel
theorem dL_defines_316 : decode cL_defines 316 = .ok (.iload 4, 2) := by decide +kernel
theorem dL_defines_318 : decode cL_defines 318 = .ok (.bipush 6, 2) := by decide +kernel
theorem dL_defines_320 : decode cL_defines 320 = .ok (.ishr, 1) := by decide +kernel
theorem dL_defines_321 : decode cL_defines 321 = .ok (.iconst 2, 1) := by decide +kernel
theorem dL_defines_322 : decode cL_defines 322 = .ok (.invokestatic 170, 3) := by decide +kernel
theorem dL_defines_325 : decode cL_defines 325 = .ok (.istore 11, 2) := by decide +kernel
theorem dL_defines_327 : decode cL_defines 327 = .ok (.iload 4, 2) := by decide +kernel
theorem dL_defines_329 : decode cL_defines 329 = .ok (.bipush 7, 2) := by decide +kernel
theorem dL_defines_331 : decode cL_defines 331 = .ok (.ishr, 1) := by decide +kernel
theorem dL_defines_332 : decode cL_defines 332 = .ok (.iconst 3, 1) := by decide +kernel
theorem dL_defines_333 : decode cL_defines 333 = .ok (.invokestatic 170, 3) := by decide +kernel
theorem dL_defines_336 : decode cL_defines 336 = .ok (.ifCond .le 7, 3) := by decide +kernel
theorem dL_defines_339 : decode cL_defines 339 = .ok (.iconst 1, 1) := by decide +kernel
theorem dL_defines_340 : decode cL_defines 340 = .ok (.goto 4, 3) := by decide +kernel
theorem dL_defines_343 : decode cL_defines 343 = .ok (.iconst 0, 1) := by decide +kernel
theorem dL_defines_344 : decode cL_defines 344 = .ok (.istore 12, 2) := by decide +kernel
theorem dL_defines_346 : decode cL_defines 346 = .ok (.iload 4, 2) := by decide +kernel
theorem dL_defines_348 : decode cL_defines 348 = .ok (.bipush 9, 2) := by decide +kernel
theorem dL_defines_350 : decode cL_defines 350 = .ok (.ishr, 1) := by decide +kernel
theorem dL_defines_351 : decode cL_defines 351 = .ok (.iconst 3, 1) := by decide +kernel
theorem dL_defines_352 : decode cL_defines 352 = .ok (.invokestatic 170, 3) := by decide +kernel
theorem dL_defines_355 : decode cL_defines 355 = .ok (.istore 13, 2) := by decide +kernel
theorem dL_defines_357 : decode cL_defines 357 = .ok (.aload_n 1, 1) := by decide +kernel
theorem dL_defines_358 : decode cL_defines 358 = .ok (.iload 5, 2) := by decide +kernel
theorem dL_defines_360 : decode cL_defines 360 = .ok (.dup2, 1) := by decide +kernel
theorem dL_defines_361 : decode cL_defines 361 = .ok (.iaload, 1) := by decide +kernel
theorem dL_defines_362 : decode cL_defines 362 = .ok (.sipush 8192, 3) := by decide +kernel
theorem dL_defines_365 : decode cL_defines 365 = .ok (.iload 11, 2) := by decide +kernel
theorem dL_defines_367 : decode cL_defines 367 = .ok (.iconst 1, 1) := by decide +kernel
theorem dL_defines_368 : decode cL_defines 368 = .ok (.iadd, 1) := by decide +kernel
theorem dL_defines_369 : decode cL_defines 369 = .ok (.imul, 1) := by decide +kernel
theorem dL_defines_370 : decode cL_defines 370 = .ok (.ldc 220, 2) := by decide +kernel
theorem dL_defines_372 : decode cL_defines 372 = .ok (.iload 12, 2) := by decide +kernel
theorem dL_defines_374 : decode cL_defines 374 = .ok (.imul, 1) := by decide +kernel
theorem dL_defines_375 : decode cL_defines 375 = .ok (.iadd, 1) := by decide +kernel
theorem dL_defines_376 : decode cL_defines 376 = .ok (.ldc 251, 2) := by decide +kernel
theorem dL_defines_378 : decode cL_defines 378 = .ok (.iload 13, 2) := by decide +kernel
theorem dL_defines_380 : decode cL_defines 380 = .ok (.imul, 1) := by decide +kernel
theorem dL_defines_381 : decode cL_defines 381 = .ok (.iadd, 1) := by decide +kernel
theorem dL_defines_382 : decode cL_defines 382 = .ok (.iadd, 1) := by decide +kernel
theorem dL_defines_383 : decode cL_defines 383 = .ok (.iastore, 1) := by decide +kernel
theorem dL_defines_384 : decode cL_defines 384 = .ok (.iload 10, 2) := by decide +kernel
theorem dL_defines_386 : decode cL_defines 386 = .ok (.ifCond .eq 39, 3) := by decide +kernel
theorem dL_defines_389 : decode cL_defines 389 = .ok (.aload_n 0, 1) := by decide +kernel
theorem dL_defines_390 : decode cL_defines 390 = .ok (.iload 5, 2) := by decide +kernel
theorem dL_defines_392 : decode cL_defines 392 = .ok (.iload 11, 2) := by decide +kernel
theorem dL_defines_394 : decode cL_defines 394 = .ok (.iload 12, 2) := by decide +kernel
theorem dL_defines_396 : decode cL_defines 396 = .ok (.iload 13, 2) := by decide +kernel
theorem dL_defines_398 : decode cL_defines 398 = .ok (.invokestatic 261, 3) := by decide +kernel
theorem dL_defines_401 : decode cL_defines 401 = .ok (.ifCond .ne 24, 3) := by decide +kernel
theorem dL_defines_404 : decode cL_defines 404 = .ok (.aload_n 0, 1) := by decide +kernel
theorem dL_defines_405 : decode cL_defines 405 = .ok (.iload 5, 2) := by decide +kernel
theorem dL_defines_407 : decode cL_defines 407 = .ok (.iload 11, 2) := by decide +kernel
theorem dL_defines_409 : decode cL_defines 409 = .ok (.iload 12, 2) := by decide +kernel
theorem dL_defines_411 : decode cL_defines 411 = .ok (.iload 13, 2) := by decide +kernel
theorem dL_defines_413 : decode cL_defines 413 = .ok (.invokestatic 261, 3) := by decide +kernel
theorem dL_defines_416 : decode cL_defines 416 = .ok (.ldc 24, 2) := by decide +kernel
theorem dL_defines_418 : decode cL_defines 418 = .ok (.if_icmp .ne 7, 3) := by decide +kernel
theorem dL_defines_421 : decode cL_defines 421 = .ok (.iconst 1, 1) := by decide +kernel
theorem dL_defines_422 : decode cL_defines 422 = .ok (.goto 4, 3) := by decide +kernel
theorem dL_defines_425 : decode cL_defines 425 = .ok (.iconst 0, 1) := by decide +kernel
theorem dL_defines_426 : decode cL_defines 426 = .ok (.istore 10, 2) := by decide +kernel
theorem dL_defines_428 : decode cL_defines 428 = .ok (.iload 10, 2) := by decide +kernel
theorem dL_defines_430 : decode cL_defines 430 = .ok (.ifCond .eq 84, 3) := by decide +kernel
theorem dL_defines_433 : decode cL_defines 433 = .ok (.aload_n 0, 1) := by decide +kernel
theorem dL_defines_434 : decode cL_defines 434 = .ok (.iload 5, 2) := by decide +kernel
theorem dL_defines_436 : decode cL_defines 436 = .ok (.aload_n 2, 1) := by decide +kernel
theorem dL_defines_437 : decode cL_defines 437 = .ok (.iconst 0, 1) := by decide +kernel
theorem dL_defines_438 : decode cL_defines 438 = .ok (.iaload, 1) := by decide +kernel
theorem dL_defines_439 : decode cL_defines 439 = .ok (.iconst 0, 1) := by decide +kernel
theorem dL_defines_440 : decode cL_defines 440 = .ok (.iconst 0, 1) := by decide +kernel
theorem dL_defines_441 : decode cL_defines 441 = .ok (.invokestatic 261, 3) := by decide +kernel
theorem dL_defines_444 : decode cL_defines 444 = .ok (.ldc 18, 2) := by decide +kernel
theorem dL_defines_446 : decode cL_defines 446 = .ok (.if_icmp .ne 68, 3) := by decide +kernel
theorem dL_defines_449 : decode cL_defines 449 = .ok (.aload_n 0, 1) := by decide +kernel
theorem dL_defines_450 : decode cL_defines 450 = .ok (.iconst 0, 1) := by decide +kernel
theorem dL_defines_451 : decode cL_defines 451 = .ok (.iconst 0, 1) := by decide +kernel
theorem dL_defines_452 : decode cL_defines 452 = .ok (.iconst 0, 1) := by decide +kernel
theorem dL_defines_453 : decode cL_defines 453 = .ok (.iconst 0, 1) := by decide +kernel
theorem dL_defines_454 : decode cL_defines 454 = .ok (.invokestatic 261, 3) := by decide +kernel
theorem dL_defines_457 : decode cL_defines 457 = .ok (.ldc 21, 2) := by decide +kernel
theorem dL_defines_459 : decode cL_defines 459 = .ok (.if_icmp .ne 55, 3) := by decide +kernel
theorem dL_defines_462 : decode cL_defines 462 = .ok (.iload 7, 2) := by decide +kernel
theorem dL_defines_464 : decode cL_defines 464 = .ok (.ifCond .lt 46, 3) := by decide +kernel
theorem dL_defines_467 : decode cL_defines 467 = .ok (.aload_n 0, 1) := by decide +kernel
theorem dL_defines_468 : decode cL_defines 468 = .ok (.iload 5, 2) := by decide +kernel
theorem dL_defines_470 : decode cL_defines 470 = .ok (.iload 5, 2) := by decide +kernel
theorem dL_defines_472 : decode cL_defines 472 = .ok (.iconst 0, 1) := by decide +kernel
theorem dL_defines_473 : decode cL_defines 473 = .ok (.iconst 0, 1) := by decide +kernel
theorem dL_defines_474 : decode cL_defines 474 = .ok (.invokestatic 261, 3) := by decide +kernel
theorem dL_defines_477 : decode cL_defines 477 = .ok (.ldc 21, 2) := by decide +kernel
theorem dL_defines_479 : decode cL_defines 479 = .ok (.if_icmp .ne 35, 3) := by decide +kernel
theorem dL_defines_482 : decode cL_defines 482 = .ok (.aload_n 0, 1) := by decide +kernel
theorem dL_defines_483 : decode cL_defines 483 = .ok (.iload 5, 2) := by decide +kernel
theorem dL_defines_485 : decode cL_defines 485 = .ok (.iconst 0, 1) := by decide +kernel
theorem dL_defines_486 : decode cL_defines 486 = .ok (.iconst 2, 1) := by decide +kernel
theorem dL_defines_487 : decode cL_defines 487 = .ok (.iconst 0, 1) := by decide +kernel
theorem dL_defines_488 : decode cL_defines 488 = .ok (.invokestatic 261, 3) := by decide +kernel
theorem dL_defines_491 : decode cL_defines 491 = .ok (.ldc 21, 2) := by decide +kernel
theorem dL_defines_493 : decode cL_defines 493 = .ok (.if_icmp .ne 21, 3) := by decide +kernel
theorem dL_defines_496 : decode cL_defines 496 = .ok (.aload_n 0, 1) := by decide +kernel
theorem dL_defines_497 : decode cL_defines 497 = .ok (.iload 5, 2) := by decide +kernel
theorem dL_defines_499 : decode cL_defines 499 = .ok (.iconst 0, 1) := by decide +kernel
theorem dL_defines_500 : decode cL_defines 500 = .ok (.iconst 0, 1) := by decide +kernel
theorem dL_defines_501 : decode cL_defines 501 = .ok (.iconst 3, 1) := by decide +kernel
theorem dL_defines_502 : decode cL_defines 502 = .ok (.invokestatic 261, 3) := by decide +kernel
theorem dL_defines_505 : decode cL_defines 505 = .ok (.ldc 21, 2) := by decide +kernel
theorem dL_defines_507 : decode cL_defines 507 = .ok (.if_icmp .ne 7, 3) := by decide +kernel
theorem dL_defines_510 : decode cL_defines 510 = .ok (.iconst 1, 1) := by decide +kernel
theorem dL_defines_511 : decode cL_defines 511 = .ok (.goto 4, 3) := by decide +kernel
theorem dL_defines_514 : decode cL_defines 514 = .ok (.iconst 0, 1) := by decide +kernel
theorem dL_defines_515 : decode cL_defines 515 = .ok (.ireturn, 1) := by decide +kernel
theorem dL_acts_0 : decode cL_acts 0 = .ok (.aload 9, 2) := by decide +kernel
theorem dL_acts_2 : decode cL_acts 2 = .ok (.iconst 0, 1) := by decide +kernel
theorem dL_acts_3 : decode cL_acts 3 = .ok (.iaload, 1) := by decide +kernel
theorem dL_acts_4 : decode cL_acts 4 = .ok (.bipush 7, 2) := by decide +kernel
theorem dL_acts_6 : decode cL_acts 6 = .ok (.if_icmp .ge 15, 3) := by decide +kernel
theorem dL_acts_9 : decode cL_acts 9 = .ok (.aload_n 0, 1) := by decide +kernel
theorem dL_acts_10 : decode cL_acts 10 = .ok (.aload_n 1, 1) := by decide +kernel
theorem dL_acts_11 : decode cL_acts 11 = .ok (.aload 9, 2) := by decide +kernel
theorem dL_acts_13 : decode cL_acts 13 = .ok (.iload 10, 2) := by decide +kernel
theorem dL_acts_15 : decode cL_acts 15 = .ok (.iload 11, 2) := by decide +kernel
theorem dL_acts_17 : decode cL_acts 17 = .ok (.invokestatic 263, 3) := by decide +kernel
theorem dL_acts_20 : decode cL_acts 20 = .ok (.ireturn, 1) := by decide +kernel
theorem dL_acts_21 : decode cL_acts 21 = .ok (.iload 10, 2) := by decide +kernel
theorem dL_acts_23 : decode cL_acts 23 = .ok (.bipush 20, 2) := by decide +kernel
theorem dL_acts_25 : decode cL_acts 25 = .ok (.invokestatic 170, 3) := by decide +kernel
theorem dL_acts_28 : decode cL_acts 28 = .ok (.istore 12, 2) := by decide +kernel
theorem dL_acts_30 : decode cL_acts 30 = .ok (.iload 10, 2) := by decide +kernel
theorem dL_acts_32 : decode cL_acts 32 = .ok (.iconst 5, 1) := by decide +kernel
theorem dL_acts_33 : decode cL_acts 33 = .ok (.ishr, 1) := by decide +kernel
theorem dL_acts_34 : decode cL_acts 34 = .ok (.iconst 4, 1) := by decide +kernel
theorem dL_acts_35 : decode cL_acts 35 = .ok (.invokestatic 170, 3) := by decide +kernel
theorem dL_acts_38 : decode cL_acts 38 = .ok (.istore 13, 2) := by decide +kernel
theorem dL_acts_40 : decode cL_acts 40 = .ok (.iload 12, 2) := by decide +kernel
theorem dL_acts_42 : decode cL_acts 42 = .ok (.ifCond .eq 12, 3) := by decide +kernel
theorem dL_acts_45 : decode cL_acts 45 = .ok (.aload 8, 2) := by decide +kernel
theorem dL_acts_47 : decode cL_acts 47 = .ok (.iload 13, 2) := by decide +kernel
theorem dL_acts_49 : decode cL_acts 49 = .ok (.iaload, 1) := by decide +kernel
theorem dL_acts_50 : decode cL_acts 50 = .ok (.iconst 4, 1) := by decide +kernel
theorem dL_acts_51 : decode cL_acts 51 = .ok (.if_icmp .ge 186, 3) := by decide +kernel
theorem dL_acts_54 : decode cL_acts 54 = .ok (.iload 11, 2) := by decide +kernel
theorem dL_acts_56 : decode cL_acts 56 = .ok (.iconst 3, 1) := by decide +kernel
theorem dL_acts_57 : decode cL_acts 57 = .ok (.invokestatic 170, 3) := by decide +kernel
theorem dL_acts_60 : decode cL_acts 60 = .ok (.ifCond .ne 16, 3) := by decide +kernel
theorem dL_acts_63 : decode cL_acts 63 = .ok (.iload 11, 2) := by decide +kernel
theorem dL_acts_65 : decode cL_acts 65 = .ok (.iconst 2, 1) := by decide +kernel
theorem dL_acts_66 : decode cL_acts 66 = .ok (.ishr, 1) := by decide +kernel
theorem dL_acts_67 : decode cL_acts 67 = .ok (.sipush 4096, 3) := by decide +kernel
theorem dL_acts_70 : decode cL_acts 70 = .ok (.invokestatic 170, 3) := by decide +kernel
theorem dL_acts_73 : decode cL_acts 73 = .ok (.goto 6, 3) := by decide +kernel
theorem dL_acts_76 : decode cL_acts 76 = .ok (.sipush 4095, 3) := by decide +kernel
theorem dL_acts_79 : decode cL_acts 79 = .ok (.istore 14, 2) := by decide +kernel
theorem dL_acts_81 : decode cL_acts 81 = .ok (.aload 8, 2) := by decide +kernel
theorem dL_acts_83 : decode cL_acts 83 = .ok (.iload 13, 2) := by decide +kernel
theorem dL_acts_85 : decode cL_acts 85 = .ok (.iload 10, 2) := by decide +kernel
theorem dL_acts_87 : decode cL_acts 87 = .ok (.bipush 7, 2) := by decide +kernel
theorem dL_acts_89 : decode cL_acts 89 = .ok (.ishr, 1) := by decide +kernel
theorem dL_acts_90 : decode cL_acts 90 = .ok (.iconst 4, 1) := by decide +kernel
theorem dL_acts_91 : decode cL_acts 91 = .ok (.invokestatic 170, 3) := by decide +kernel
theorem dL_acts_94 : decode cL_acts 94 = .ok (.iconst 3, 1) := by decide +kernel
theorem dL_acts_95 : decode cL_acts 95 = .ok (.idiv, 1) := by decide +kernel
theorem dL_acts_96 : decode cL_acts 96 = .ok (.iconst 4, 1) := by decide +kernel
theorem dL_acts_97 : decode cL_acts 97 = .ok (.iload 14, 2) := by decide +kernel
theorem dL_acts_99 : decode cL_acts 99 = .ok (.imul, 1) := by decide +kernel
theorem dL_acts_100 : decode cL_acts 100 = .ok (.iadd, 1) := by decide +kernel
theorem dL_acts_101 : decode cL_acts 101 = .ok (.iastore, 1) := by decide +kernel
theorem dL_acts_102 : decode cL_acts 102 = .ok (.aload_n 0, 1) := by decide +kernel
theorem dL_acts_103 : decode cL_acts 103 = .ok (.iload 13, 2) := by decide +kernel
theorem dL_acts_105 : decode cL_acts 105 = .ok (.aload 8, 2) := by decide +kernel
theorem dL_acts_107 : decode cL_acts 107 = .ok (.iload 13, 2) := by decide +kernel
theorem dL_acts_109 : decode cL_acts 109 = .ok (.iaload, 1) := by decide +kernel
theorem dL_acts_110 : decode cL_acts 110 = .ok (.iconst 4, 1) := by decide +kernel
theorem dL_acts_111 : decode cL_acts 111 = .ok (.irem, 1) := by decide +kernel
theorem dL_acts_112 : decode cL_acts 112 = .ok (.iload 14, 2) := by decide +kernel
theorem dL_acts_114 : decode cL_acts 114 = .ok (.invokestatic 267, 3) := by decide +kernel
theorem dL_acts_117 : decode cL_acts 117 = .ok (.ifCond .ne 118, 3) := by decide +kernel
theorem dL_acts_120 : decode cL_acts 120 = .ok (.aload_n 0, 1) := by decide +kernel
theorem dL_acts_121 : decode cL_acts 121 = .ok (.iload 13, 2) := by decide +kernel
theorem dL_acts_123 : decode cL_acts 123 = .ok (.invokestatic 178, 3) := by decide +kernel
theorem dL_acts_126 : decode cL_acts 126 = .ok (.iconst (-1), 1) := by decide +kernel
theorem dL_acts_127 : decode cL_acts 127 = .ok (.if_icmp .ne 108, 3) := by decide +kernel
theorem dL_acts_130 : decode cL_acts 130 = .ok (.aload_n 0, 1) := by decide +kernel
theorem dL_acts_131 : decode cL_acts 131 = .ok (.iload 13, 2) := by decide +kernel
theorem dL_acts_133 : decode cL_acts 133 = .ok (.invokestatic 181, 3) := by decide +kernel
theorem dL_acts_136 : decode cL_acts 136 = .ok (.ifCond .ne 99, 3) := by decide +kernel
theorem dL_acts_139 : decode cL_acts 139 = .ok (.aload_n 0, 1) := by decide +kernel
theorem dL_acts_140 : decode cL_acts 140 = .ok (.iload 13, 2) := by decide +kernel
theorem dL_acts_142 : decode cL_acts 142 = .ok (.invokestatic 183, 3) := by decide +kernel
theorem dL_acts_145 : decode cL_acts 145 = .ok (.iconst (-1), 1) := by decide +kernel
theorem dL_acts_146 : decode cL_acts 146 = .ok (.if_icmp .ne 89, 3) := by decide +kernel
theorem dL_acts_149 : decode cL_acts 149 = .ok (.aload_n 0, 1) := by decide +kernel
theorem dL_acts_150 : decode cL_acts 150 = .ok (.iload 13, 2) := by decide +kernel
theorem dL_acts_152 : decode cL_acts 152 = .ok (.invokestatic 198, 3) := by decide +kernel
theorem dL_acts_155 : decode cL_acts 155 = .ok (.ifCond .ne 80, 3) := by decide +kernel
theorem dL_acts_158 : decode cL_acts 158 = .ok (.aload_n 0, 1) := by decide +kernel
theorem dL_acts_159 : decode cL_acts 159 = .ok (.iload 13, 2) := by decide +kernel
theorem dL_acts_161 : decode cL_acts 161 = .ok (.invokestatic 213, 3) := by decide +kernel
theorem dL_acts_164 : decode cL_acts 164 = .ok (.ldc2_w 269, 3) := by decide +kernel
theorem dL_acts_167 : decode cL_acts 167 = .ok (.lcmp, 1) := by decide +kernel
theorem dL_acts_168 : decode cL_acts 168 = .ok (.ifCond .ne 67, 3) := by decide +kernel
theorem dL_acts_171 : decode cL_acts 171 = .ok (.aload_n 0, 1) := by decide +kernel
theorem dL_acts_172 : decode cL_acts 172 = .ok (.iload 13, 2) := by decide +kernel
theorem dL_acts_174 : decode cL_acts 174 = .ok (.invokestatic 216, 3) := by decide +kernel
theorem dL_acts_177 : decode cL_acts 177 = .ok (.iconst (-1), 1) := by decide +kernel
theorem dL_acts_178 : decode cL_acts 178 = .ok (.if_icmp .ne 57, 3) := by decide +kernel
theorem dL_acts_181 : decode cL_acts 181 = .ok (.aload_n 0, 1) := by decide +kernel
theorem dL_acts_182 : decode cL_acts 182 = .ok (.iload 13, 2) := by decide +kernel
theorem dL_acts_184 : decode cL_acts 184 = .ok (.invokestatic 218, 3) := by decide +kernel
theorem dL_acts_187 : decode cL_acts 187 = .ok (.ifCond .ne 48, 3) := by decide +kernel
theorem dL_acts_190 : decode cL_acts 190 = .ok (.aload_n 0, 1) := by decide +kernel
theorem dL_acts_191 : decode cL_acts 191 = .ok (.iconst 4, 1) := by decide +kernel
theorem dL_acts_192 : decode cL_acts 192 = .ok (.iconst 0, 1) := by decide +kernel
theorem dL_acts_193 : decode cL_acts 193 = .ok (.sipush 4096, 3) := by decide +kernel
theorem dL_acts_196 : decode cL_acts 196 = .ok (.invokestatic 267, 3) := by decide +kernel
theorem dL_acts_199 : decode cL_acts 199 = .ok (.ldc 18, 2) := by decide +kernel
theorem dL_acts_201 : decode cL_acts 201 = .ok (.if_icmp .ne 34, 3) := by decide +kernel
theorem dL_acts_204 : decode cL_acts 204 = .ok (.aload_n 0, 1) := by decide +kernel
theorem dL_acts_205 : decode cL_acts 205 = .ok (.iconst 0, 1) := by decide +kernel
theorem dL_acts_206 : decode cL_acts 206 = .ok (.iconst 3, 1) := by decide +kernel
theorem dL_acts_207 : decode cL_acts 207 = .ok (.iconst 0, 1) := by decide +kernel
theorem dL_acts_208 : decode cL_acts 208 = .ok (.invokestatic 267, 3) := by decide +kernel
theorem dL_acts_211 : decode cL_acts 211 = .ok (.ldc 18, 2) := by decide +kernel
theorem dL_acts_213 : decode cL_acts 213 = .ok (.if_icmp .ne 22, 3) := by decide +kernel
theorem dL_acts_216 : decode cL_acts 216 = .ok (.aload_n 0, 1) := by decide +kernel
theorem dL_acts_217 : decode cL_acts 217 = .ok (.iload 13, 2) := by decide +kernel
theorem dL_acts_219 : decode cL_acts 219 = .ok (.iconst 0, 1) := by decide +kernel
theorem dL_acts_220 : decode cL_acts 220 = .ok (.sipush 4096, 3) := by decide +kernel
theorem dL_acts_223 : decode cL_acts 223 = .ok (.invokestatic 267, 3) := by decide +kernel
theorem dL_acts_226 : decode cL_acts 226 = .ok (.ldc 21, 2) := by decide +kernel
theorem dL_acts_228 : decode cL_acts 228 = .ok (.if_icmp .ne 7, 3) := by decide +kernel
theorem dL_acts_231 : decode cL_acts 231 = .ok (.iconst 1, 1) := by decide +kernel
theorem dL_acts_232 : decode cL_acts 232 = .ok (.goto 4, 3) := by decide +kernel
theorem dL_acts_235 : decode cL_acts 235 = .ok (.iconst 0, 1) := by decide +kernel
theorem dL_acts_236 : decode cL_acts 236 = .ok (.ireturn, 1) := by decide +kernel
theorem dL_acts_237 : decode cL_acts 237 = .ok (.aload_n 0, 1) := by decide +kernel
theorem dL_acts_238 : decode cL_acts 238 = .ok (.aload_n 1, 1) := by decide +kernel
theorem dL_acts_239 : decode cL_acts 239 = .ok (.aload_n 2, 1) := by decide +kernel
theorem dL_acts_240 : decode cL_acts 240 = .ok (.aload_n 3, 1) := by decide +kernel
theorem dL_acts_241 : decode cL_acts 241 = .ok (.aload 4, 2) := by decide +kernel
theorem dL_acts_243 : decode cL_acts 243 = .ok (.aload 5, 2) := by decide +kernel
theorem dL_acts_245 : decode cL_acts 245 = .ok (.invokestatic 271, 3) := by decide +kernel
theorem dL_acts_248 : decode cL_acts 248 = .ok (.ifCond .ne 5, 3) := by decide +kernel
theorem dL_acts_251 : decode cL_acts 251 = .ok (.iconst 0, 1) := by decide +kernel
theorem dL_acts_252 : decode cL_acts 252 = .ok (.ireturn, 1) := by decide +kernel
theorem dL_acts_253 : decode cL_acts 253 = .ok (.iload 12, 2) := by decide +kernel
theorem dL_acts_255 : decode cL_acts 255 = .ok (.bipush 8, 2) := by decide +kernel
theorem dL_acts_257 : decode cL_acts 257 = .ok (.if_icmp .ge 228, 3) := by decide +kernel
theorem dL_acts_260 : decode cL_acts 260 = .ok (.aload_n 0, 1) := by decide +kernel
theorem dL_acts_261 : decode cL_acts 261 = .ok (.aload_n 1, 1) := by decide +kernel
theorem dL_acts_262 : decode cL_acts 262 = .ok (.aload 6, 2) := by decide +kernel
theorem dL_acts_264 : decode cL_acts 264 = .ok (.aload 7, 2) := by decide +kernel
theorem dL_acts_266 : decode cL_acts 266 = .ok (.aload 9, 2) := by decide +kernel
theorem dL_acts_268 : decode cL_acts 268 = .ok (.iload 13, 2) := by decide +kernel
theorem dL_acts_270 : decode cL_acts 270 = .ok (.iload 10, 2) := by decide +kernel
theorem dL_acts_272 : decode cL_acts 272 = .ok (.bipush 7, 2) := by decide +kernel
theorem dL_acts_274 : decode cL_acts 274 = .ok (.ishr, 1) := by decide +kernel
theorem dL_acts_275 : decode cL_acts 275 = .ok (.iload 11, 2) := by decide +kernel
theorem dL_acts_277 : decode cL_acts 277 = .ok (.iconst 1, 1) := by decide +kernel
theorem dL_acts_278 : decode cL_acts 278 = .ok (.invokestatic 275, 3) := by decide +kernel
theorem dL_acts_281 : decode cL_acts 281 = .ok (.istore 14, 2) := by decide +kernel
theorem dL_acts_283 : decode cL_acts 283 = .ok (.iconst 0, 1) := by decide +kernel
theorem dL_acts_284 : decode cL_acts 284 = .ok (.istore 15, 2) := by decide +kernel
theorem dL_acts_286 : decode cL_acts 286 = .ok (.iload 15, 2) := by decide +kernel
theorem dL_acts_288 : decode cL_acts 288 = .ok (.bipush 12, 2) := by decide +kernel
theorem dL_acts_290 : decode cL_acts 290 = .ok (.if_icmp .ge 87, 3) := by decide +kernel
theorem dL_acts_293 : decode cL_acts 293 = .ok (.iload 14, 2) := by decide +kernel
theorem dL_acts_295 : decode cL_acts 295 = .ok (.ifCond .eq 82, 3) := by decide +kernel
theorem dL_acts_298 : decode cL_acts 298 = .ok (.iload 15, 2) := by decide +kernel
theorem dL_acts_300 : decode cL_acts 300 = .ok (.iconst 3, 1) := by decide +kernel
theorem dL_acts_301 : decode cL_acts 301 = .ok (.irem, 1) := by decide +kernel
theorem dL_acts_302 : decode cL_acts 302 = .ok (.ifCond .ne 16, 3) := by decide +kernel
theorem dL_acts_305 : decode cL_acts 305 = .ok (.iload 11, 2) := by decide +kernel
theorem dL_acts_307 : decode cL_acts 307 = .ok (.iload 15, 2) := by decide +kernel
theorem dL_acts_309 : decode cL_acts 309 = .ok (.ishr, 1) := by decide +kernel
theorem dL_acts_310 : decode cL_acts 310 = .ok (.bipush 12, 2) := by decide +kernel
theorem dL_acts_312 : decode cL_acts 312 = .ok (.invokestatic 170, 3) := by decide +kernel
theorem dL_acts_315 : decode cL_acts 315 = .ok (.goto 13, 3) := by decide +kernel
theorem dL_acts_318 : decode cL_acts 318 = .ok (.iload 10, 2) := by decide +kernel
theorem dL_acts_320 : decode cL_acts 320 = .ok (.iload 15, 2) := by decide +kernel
theorem dL_acts_322 : decode cL_acts 322 = .ok (.ishr, 1) := by decide +kernel
theorem dL_acts_323 : decode cL_acts 323 = .ok (.bipush 9, 2) := by decide +kernel
theorem dL_acts_325 : decode cL_acts 325 = .ok (.invokestatic 170, 3) := by decide +kernel
theorem dL_acts_328 : decode cL_acts 328 = .ok (.istore 16, 2) := by decide +kernel
theorem dL_acts_330 : decode cL_acts 330 = .ok (.aload_n 0, 1) := by decide +kernel
theorem dL_acts_331 : decode cL_acts 331 = .ok (.iload 15, 2) := by decide +kernel
theorem dL_acts_333 : decode cL_acts 333 = .ok (.iconst 3, 1) := by decide +kernel
theorem dL_acts_334 : decode cL_acts 334 = .ok (.idiv, 1) := by decide +kernel
theorem dL_acts_335 : decode cL_acts 335 = .ok (.iload 15, 2) := by decide +kernel
theorem dL_acts_337 : decode cL_acts 337 = .ok (.iconst 3, 1) := by decide +kernel
theorem dL_acts_338 : decode cL_acts 338 = .ok (.irem, 1) := by decide +kernel
theorem dL_acts_339 : decode cL_acts 339 = .ok (.iload 16, 2) := by decide +kernel
theorem dL_acts_341 : decode cL_acts 341 = .ok (.invokestatic 247, 3) := by decide +kernel
theorem dL_acts_344 : decode cL_acts 344 = .ok (.ifCond .lt 24, 3) := by decide +kernel
theorem dL_acts_347 : decode cL_acts 347 = .ok (.aload_n 0, 1) := by decide +kernel
theorem dL_acts_348 : decode cL_acts 348 = .ok (.iload 15, 2) := by decide +kernel
theorem dL_acts_350 : decode cL_acts 350 = .ok (.iconst 3, 1) := by decide +kernel
theorem dL_acts_351 : decode cL_acts 351 = .ok (.idiv, 1) := by decide +kernel
theorem dL_acts_352 : decode cL_acts 352 = .ok (.iload 15, 2) := by decide +kernel
theorem dL_acts_354 : decode cL_acts 354 = .ok (.iconst 3, 1) := by decide +kernel
theorem dL_acts_355 : decode cL_acts 355 = .ok (.irem, 1) := by decide +kernel
theorem dL_acts_356 : decode cL_acts 356 = .ok (.invokestatic 185, 3) := by decide +kernel
theorem dL_acts_359 : decode cL_acts 359 = .ok (.iload 16, 2) := by decide +kernel
theorem dL_acts_361 : decode cL_acts 361 = .ok (.if_icmp .ne 7, 3) := by decide +kernel
theorem dL_acts_364 : decode cL_acts 364 = .ok (.iconst 1, 1) := by decide +kernel
theorem dL_acts_365 : decode cL_acts 365 = .ok (.goto 4, 3) := by decide +kernel
theorem dL_acts_368 : decode cL_acts 368 = .ok (.iconst 0, 1) := by decide +kernel
theorem dL_acts_369 : decode cL_acts 369 = .ok (.istore 14, 2) := by decide +kernel
theorem dL_acts_371 : decode cL_acts 371 = .ok (.iinc 15 1, 3) := by decide +kernel
theorem dL_acts_374 : decode cL_acts 374 = .ok (.goto (-88), 3) := by decide +kernel
theorem dL_acts_377 : decode cL_acts 377 = .ok (.iload 14, 2) := by decide +kernel
theorem dL_acts_379 : decode cL_acts 379 = .ok (.ifCond .eq 58, 3) := by decide +kernel
theorem dL_acts_382 : decode cL_acts 382 = .ok (.aload_n 0, 1) := by decide +kernel
theorem dL_acts_383 : decode cL_acts 383 = .ok (.iconst 4, 1) := by decide +kernel
theorem dL_acts_384 : decode cL_acts 384 = .ok (.iconst 0, 1) := by decide +kernel
theorem dL_acts_385 : decode cL_acts 385 = .ok (.sipush 1000, 3) := by decide +kernel
theorem dL_acts_388 : decode cL_acts 388 = .ok (.invokestatic 247, 3) := by decide +kernel
theorem dL_acts_391 : decode cL_acts 391 = .ok (.ldc 18, 2) := by decide +kernel
theorem dL_acts_393 : decode cL_acts 393 = .ok (.if_icmp .ne 44, 3) := by decide +kernel
theorem dL_acts_396 : decode cL_acts 396 = .ok (.aload_n 0, 1) := by decide +kernel
theorem dL_acts_397 : decode cL_acts 397 = .ok (.iconst 0, 1) := by decide +kernel
theorem dL_acts_398 : decode cL_acts 398 = .ok (.iconst 3, 1) := by decide +kernel
theorem dL_acts_399 : decode cL_acts 399 = .ok (.iconst 0, 1) := by decide +kernel
theorem dL_acts_400 : decode cL_acts 400 = .ok (.invokestatic 247, 3) := by decide +kernel
theorem dL_acts_403 : decode cL_acts 403 = .ok (.ldc 18, 2) := by decide +kernel
theorem dL_acts_405 : decode cL_acts 405 = .ok (.if_icmp .ne 32, 3) := by decide +kernel
theorem dL_acts_408 : decode cL_acts 408 = .ok (.aload_n 0, 1) := by decide +kernel
theorem dL_acts_409 : decode cL_acts 409 = .ok (.iconst 0, 1) := by decide +kernel
theorem dL_acts_410 : decode cL_acts 410 = .ok (.iconst 0, 1) := by decide +kernel
theorem dL_acts_411 : decode cL_acts 411 = .ok (.sipush 1000, 3) := by decide +kernel
theorem dL_acts_414 : decode cL_acts 414 = .ok (.invokestatic 247, 3) := by decide +kernel
theorem dL_acts_417 : decode cL_acts 417 = .ok (.ldc 21, 2) := by decide +kernel
theorem dL_acts_419 : decode cL_acts 419 = .ok (.if_icmp .ne 18, 3) := by decide +kernel
theorem dL_acts_422 : decode cL_acts 422 = .ok (.aload_n 0, 1) := by decide +kernel
theorem dL_acts_423 : decode cL_acts 423 = .ok (.iconst 4, 1) := by decide +kernel
theorem dL_acts_424 : decode cL_acts 424 = .ok (.iconst 0, 1) := by decide +kernel
theorem dL_acts_425 : decode cL_acts 425 = .ok (.invokestatic 185, 3) := by decide +kernel
theorem dL_acts_428 : decode cL_acts 428 = .ok (.ldc 18, 2) := by decide +kernel
theorem dL_acts_430 : decode cL_acts 430 = .ok (.if_icmp .ne 7, 3) := by decide +kernel
theorem dL_acts_433 : decode cL_acts 433 = .ok (.iconst 1, 1) := by decide +kernel
theorem dL_acts_434 : decode cL_acts 434 = .ok (.goto 4, 3) := by decide +kernel
theorem dL_acts_437 : decode cL_acts 437 = .ok (.iconst 0, 1) := by decide +kernel
theorem dL_acts_438 : decode cL_acts 438 = .ok (.istore 14, 2) := by decide +kernel
theorem dL_acts_440 : decode cL_acts 440 = .ok (.iload 14, 2) := by decide +kernel
theorem dL_acts_442 : decode cL_acts 442 = .ok (.ifCond .eq 41, 3) := by decide +kernel
theorem dL_acts_445 : decode cL_acts 445 = .ok (.aload_n 0, 1) := by decide +kernel
theorem dL_acts_446 : decode cL_acts 446 = .ok (.aload_n 1, 1) := by decide +kernel
theorem dL_acts_447 : decode cL_acts 447 = .ok (.aload_n 2, 1) := by decide +kernel
theorem dL_acts_448 : decode cL_acts 448 = .ok (.aload_n 3, 1) := by decide +kernel
theorem dL_acts_449 : decode cL_acts 449 = .ok (.aload 4, 2) := by decide +kernel
theorem dL_acts_451 : decode cL_acts 451 = .ok (.aload 5, 2) := by decide +kernel
theorem dL_acts_453 : decode cL_acts 453 = .ok (.aload 6, 2) := by decide +kernel
theorem dL_acts_455 : decode cL_acts 455 = .ok (.aload 7, 2) := by decide +kernel
theorem dL_acts_457 : decode cL_acts 457 = .ok (.aload 8, 2) := by decide +kernel
theorem dL_acts_459 : decode cL_acts 459 = .ok (.aload 9, 2) := by decide +kernel
theorem dL_acts_461 : decode cL_acts 461 = .ok (.iload 13, 2) := by decide +kernel
theorem dL_acts_463 : decode cL_acts 463 = .ok (.invokestatic 279, 3) := by decide +kernel
theorem dL_acts_466 : decode cL_acts 466 = .ok (.ifCond .eq 17, 3) := by decide +kernel
theorem dL_acts_469 : decode cL_acts 469 = .ok (.aload_n 0, 1) := by decide +kernel
theorem dL_acts_470 : decode cL_acts 470 = .ok (.iconst 4, 1) := by decide +kernel
theorem dL_acts_471 : decode cL_acts 471 = .ok (.invokestatic 241, 3) := by decide +kernel
theorem dL_acts_474 : decode cL_acts 474 = .ok (.ldc 18, 2) := by decide +kernel
theorem dL_acts_476 : decode cL_acts 476 = .ok (.if_icmp .ne 7, 3) := by decide +kernel
theorem dL_acts_479 : decode cL_acts 479 = .ok (.iconst 1, 1) := by decide +kernel
theorem dL_acts_480 : decode cL_acts 480 = .ok (.goto 4, 3) := by decide +kernel
theorem dL_acts_483 : decode cL_acts 483 = .ok (.iconst 0, 1) := by decide +kernel
theorem dL_acts_484 : decode cL_acts 484 = .ok (.ireturn, 1) := by decide +kernel
theorem dL_acts_485 : decode cL_acts 485 = .ok (.iload 12, 2) := by decide +kernel
theorem dL_acts_487 : decode cL_acts 487 = .ok (.bipush 15, 2) := by decide +kernel
theorem dL_acts_489 : decode cL_acts 489 = .ok (.if_icmp .ge 110, 3) := by decide +kernel
theorem dL_acts_492 : decode cL_acts 492 = .ok (.aload_n 0, 1) := by decide +kernel
theorem dL_acts_493 : decode cL_acts 493 = .ok (.aload_n 1, 1) := by decide +kernel
theorem dL_acts_494 : decode cL_acts 494 = .ok (.aload 6, 2) := by decide +kernel
theorem dL_acts_496 : decode cL_acts 496 = .ok (.aload 7, 2) := by decide +kernel
theorem dL_acts_498 : decode cL_acts 498 = .ok (.aload 9, 2) := by decide +kernel
theorem dL_acts_500 : decode cL_acts 500 = .ok (.aload 8, 2) := by decide +kernel
theorem dL_acts_502 : decode cL_acts 502 = .ok (.iload 13, 2) := by decide +kernel
theorem dL_acts_504 : decode cL_acts 504 = .ok (.iaload, 1) := by decide +kernel
theorem dL_acts_505 : decode cL_acts 505 = .ok (.iload 10, 2) := by decide +kernel
theorem dL_acts_507 : decode cL_acts 507 = .ok (.bipush 7, 2) := by decide +kernel
theorem dL_acts_509 : decode cL_acts 509 = .ok (.ishr, 1) := by decide +kernel
theorem dL_acts_510 : decode cL_acts 510 = .ok (.iload 11, 2) := by decide +kernel
theorem dL_acts_512 : decode cL_acts 512 = .ok (.iconst 0, 1) := by decide +kernel
theorem dL_acts_513 : decode cL_acts 513 = .ok (.invokestatic 275, 3) := by decide +kernel
theorem dL_acts_516 : decode cL_acts 516 = .ok (.ifCond .eq 81, 3) := by decide +kernel
theorem dL_acts_519 : decode cL_acts 519 = .ok (.aload_n 0, 1) := by decide +kernel
theorem dL_acts_520 : decode cL_acts 520 = .ok (.aload_n 1, 1) := by decide +kernel
theorem dL_acts_521 : decode cL_acts 521 = .ok (.aload_n 2, 1) := by decide +kernel
theorem dL_acts_522 : decode cL_acts 522 = .ok (.aload_n 3, 1) := by decide +kernel
theorem dL_acts_523 : decode cL_acts 523 = .ok (.aload 4, 2) := by decide +kernel
theorem dL_acts_525 : decode cL_acts 525 = .ok (.aload 5, 2) := by decide +kernel
theorem dL_acts_527 : decode cL_acts 527 = .ok (.aload 6, 2) := by decide +kernel
theorem dL_acts_529 : decode cL_acts 529 = .ok (.aload 7, 2) := by decide +kernel
theorem dL_acts_531 : decode cL_acts 531 = .ok (.aload 8, 2) := by decide +kernel
theorem dL_acts_533 : decode cL_acts 533 = .ok (.aload 9, 2) := by decide +kernel
theorem dL_acts_535 : decode cL_acts 535 = .ok (.iload 13, 2) := by decide +kernel
theorem dL_acts_537 : decode cL_acts 537 = .ok (.iload 10, 2) := by decide +kernel
theorem dL_acts_539 : decode cL_acts 539 = .ok (.bipush 9, 2) := by decide +kernel
theorem dL_acts_541 : decode cL_acts 541 = .ok (.ishr, 1) := by decide +kernel
theorem dL_acts_542 : decode cL_acts 542 = .ok (.iconst 3, 1) := by decide +kernel
theorem dL_acts_543 : decode cL_acts 543 = .ok (.invokestatic 170, 3) := by decide +kernel
theorem dL_acts_546 : decode cL_acts 546 = .ok (.iload 10, 2) := by decide +kernel
theorem dL_acts_548 : decode cL_acts 548 = .ok (.bipush 11, 2) := by decide +kernel
theorem dL_acts_550 : decode cL_acts 550 = .ok (.ishr, 1) := by decide +kernel
theorem dL_acts_551 : decode cL_acts 551 = .ok (.iconst 2, 1) := by decide +kernel
theorem dL_acts_552 : decode cL_acts 552 = .ok (.invokestatic 170, 3) := by decide +kernel
theorem dL_acts_555 : decode cL_acts 555 = .ok (.ifCond .ne 7, 3) := by decide +kernel
theorem dL_acts_558 : decode cL_acts 558 = .ok (.iconst 1, 1) := by decide +kernel
theorem dL_acts_559 : decode cL_acts 559 = .ok (.goto 4, 3) := by decide +kernel
theorem dL_acts_562 : decode cL_acts 562 = .ok (.iconst 0, 1) := by decide +kernel
theorem dL_acts_563 : decode cL_acts 563 = .ok (.invokestatic 283, 3) := by decide +kernel
theorem dL_acts_566 : decode cL_acts 566 = .ok (.ifCond .eq 31, 3) := by decide +kernel
theorem dL_acts_569 : decode cL_acts 569 = .ok (.aload_n 0, 1) := by decide +kernel
theorem dL_acts_570 : decode cL_acts 570 = .ok (.iconst 4, 1) := by decide +kernel
theorem dL_acts_571 : decode cL_acts 571 = .ok (.iconst 3, 1) := by decide +kernel
theorem dL_acts_572 : decode cL_acts 572 = .ok (.iconst 1, 1) := by decide +kernel
theorem dL_acts_573 : decode cL_acts 573 = .ok (.invokestatic 195, 3) := by decide +kernel
theorem dL_acts_576 : decode cL_acts 576 = .ok (.ldc 18, 2) := by decide +kernel
theorem dL_acts_578 : decode cL_acts 578 = .ok (.if_icmp .ne 19, 3) := by decide +kernel
theorem dL_acts_581 : decode cL_acts 581 = .ok (.aload_n 0, 1) := by decide +kernel
theorem dL_acts_582 : decode cL_acts 582 = .ok (.iconst 0, 1) := by decide +kernel
theorem dL_acts_583 : decode cL_acts 583 = .ok (.iconst 3, 1) := by decide +kernel
theorem dL_acts_584 : decode cL_acts 584 = .ok (.iconst 1, 1) := by decide +kernel
theorem dL_acts_585 : decode cL_acts 585 = .ok (.invokestatic 195, 3) := by decide +kernel
theorem dL_acts_588 : decode cL_acts 588 = .ok (.ldc 21, 2) := by decide +kernel
theorem dL_acts_590 : decode cL_acts 590 = .ok (.if_icmp .ne 7, 3) := by decide +kernel
theorem dL_acts_593 : decode cL_acts 593 = .ok (.iconst 1, 1) := by decide +kernel
theorem dL_acts_594 : decode cL_acts 594 = .ok (.goto 4, 3) := by decide +kernel
theorem dL_acts_597 : decode cL_acts 597 = .ok (.iconst 0, 1) := by decide +kernel
theorem dL_acts_598 : decode cL_acts 598 = .ok (.ireturn, 1) := by decide +kernel
theorem dL_acts_599 : decode cL_acts 599 = .ok (.aload 9, 2) := by decide +kernel
theorem dL_acts_601 : decode cL_acts 601 = .ok (.iconst 1, 1) := by decide +kernel
theorem dL_acts_602 : decode cL_acts 602 = .ok (.iconst 0, 1) := by decide +kernel
theorem dL_acts_603 : decode cL_acts 603 = .ok (.iastore, 1) := by decide +kernel
theorem dL_acts_604 : decode cL_acts 604 = .ok (.aload_n 0, 1) := by decide +kernel
theorem dL_acts_605 : decode cL_acts 605 = .ok (.invokevirtual 166, 3) := by decide +kernel
theorem dL_acts_608 : decode cL_acts 608 = .ok (.ifCond .lt 41, 3) := by decide +kernel
theorem dL_acts_611 : decode cL_acts 611 = .ok (.aload_n 0, 1) := by decide +kernel
theorem dL_acts_612 : decode cL_acts 612 = .ok (.aload_n 1, 1) := by decide +kernel
theorem dL_acts_613 : decode cL_acts 613 = .ok (.aload_n 2, 1) := by decide +kernel
theorem dL_acts_614 : decode cL_acts 614 = .ok (.aload_n 3, 1) := by decide +kernel
theorem dL_acts_615 : decode cL_acts 615 = .ok (.aload 4, 2) := by decide +kernel
theorem dL_acts_617 : decode cL_acts 617 = .ok (.aload 5, 2) := by decide +kernel
theorem dL_acts_619 : decode cL_acts 619 = .ok (.aload 6, 2) := by decide +kernel
theorem dL_acts_621 : decode cL_acts 621 = .ok (.aload 7, 2) := by decide +kernel
theorem dL_acts_623 : decode cL_acts 623 = .ok (.aload 8, 2) := by decide +kernel
theorem dL_acts_625 : decode cL_acts 625 = .ok (.aload 9, 2) := by decide +kernel
theorem dL_acts_627 : decode cL_acts 627 = .ok (.iload 13, 2) := by decide +kernel
theorem dL_acts_629 : decode cL_acts 629 = .ok (.iload 10, 2) := by decide +kernel
theorem dL_acts_631 : decode cL_acts 631 = .ok (.bipush 9, 2) := by decide +kernel
theorem dL_acts_633 : decode cL_acts 633 = .ok (.ishr, 1) := by decide +kernel
theorem dL_acts_634 : decode cL_acts 634 = .ok (.iconst 2, 1) := by decide +kernel
theorem dL_acts_635 : decode cL_acts 635 = .ok (.invokestatic 170, 3) := by decide +kernel
theorem dL_acts_638 : decode cL_acts 638 = .ok (.iconst 1, 1) := by decide +kernel
theorem dL_acts_639 : decode cL_acts 639 = .ok (.invokestatic 283, 3) := by decide +kernel
theorem dL_acts_642 : decode cL_acts 642 = .ok (.ifCond .eq 7, 3) := by decide +kernel
theorem dL_acts_645 : decode cL_acts 645 = .ok (.iconst 1, 1) := by decide +kernel
theorem dL_acts_646 : decode cL_acts 646 = .ok (.goto 4, 3) := by decide +kernel
theorem dL_acts_649 : decode cL_acts 649 = .ok (.iconst 0, 1) := by decide +kernel
theorem dL_acts_650 : decode cL_acts 650 = .ok (.istore 14, 2) := by decide +kernel
theorem dL_acts_652 : decode cL_acts 652 = .ok (.aload_n 0, 1) := by decide +kernel
theorem dL_acts_653 : decode cL_acts 653 = .ok (.iload 13, 2) := by decide +kernel
theorem dL_acts_655 : decode cL_acts 655 = .ok (.invokestatic 198, 3) := by decide +kernel
theorem dL_acts_658 : decode cL_acts 658 = .ok (.ifCond .ne 56, 3) := by decide +kernel
theorem dL_acts_661 : decode cL_acts 661 = .ok (.iload 14, 2) := by decide +kernel
theorem dL_acts_663 : decode cL_acts 663 = .ok (.ifCond .eq 49, 3) := by decide +kernel
theorem dL_acts_666 : decode cL_acts 666 = .ok (.aload_n 0, 1) := by decide +kernel
theorem dL_acts_667 : decode cL_acts 667 = .ok (.iload 13, 2) := by decide +kernel
theorem dL_acts_669 : decode cL_acts 669 = .ok (.invokestatic 249, 3) := by decide +kernel
theorem dL_acts_672 : decode cL_acts 672 = .ok (.bipush 6, 2) := by decide +kernel
theorem dL_acts_674 : decode cL_acts 674 = .ok (.if_icmp .ne 38, 3) := by decide +kernel
theorem dL_acts_677 : decode cL_acts 677 = .ok (.aload_n 0, 1) := by decide +kernel
theorem dL_acts_678 : decode cL_acts 678 = .ok (.iload 13, 2) := by decide +kernel
theorem dL_acts_680 : decode cL_acts 680 = .ok (.invokestatic 256, 3) := by decide +kernel
theorem dL_acts_683 : decode cL_acts 683 = .ok (.bipush 6, 2) := by decide +kernel
theorem dL_acts_685 : decode cL_acts 685 = .ok (.if_icmp .ne 27, 3) := by decide +kernel
theorem dL_acts_688 : decode cL_acts 688 = .ok (.aload_n 0, 1) := by decide +kernel
theorem dL_acts_689 : decode cL_acts 689 = .ok (.iconst 4, 1) := by decide +kernel
theorem dL_acts_690 : decode cL_acts 690 = .ok (.invokestatic 249, 3) := by decide +kernel
theorem dL_acts_693 : decode cL_acts 693 = .ok (.ldc 18, 2) := by decide +kernel
theorem dL_acts_695 : decode cL_acts 695 = .ok (.if_icmp .ne 17, 3) := by decide +kernel
theorem dL_acts_698 : decode cL_acts 698 = .ok (.aload_n 0, 1) := by decide +kernel
theorem dL_acts_699 : decode cL_acts 699 = .ok (.iconst (-1), 1) := by decide +kernel
theorem dL_acts_700 : decode cL_acts 700 = .ok (.invokestatic 256, 3) := by decide +kernel
theorem dL_acts_703 : decode cL_acts 703 = .ok (.ldc 18, 2) := by decide +kernel
theorem dL_acts_705 : decode cL_acts 705 = .ok (.if_icmp .ne 7, 3) := by decide +kernel
theorem dL_acts_708 : decode cL_acts 708 = .ok (.iconst 1, 1) := by decide +kernel
theorem dL_acts_709 : decode cL_acts 709 = .ok (.goto 4, 3) := by decide +kernel
theorem dL_acts_712 : decode cL_acts 712 = .ok (.iconst 0, 1) := by decide +kernel
theorem dL_acts_713 : decode cL_acts 713 = .ok (.ireturn, 1) := by decide +kernel
theorem dL_acts_714 : decode cL_acts 714 = .ok (.iload 14, 2) := by decide +kernel
theorem dL_acts_716 : decode cL_acts 716 = .ok (.ifCond .eq 55, 3) := by decide +kernel
theorem dL_acts_719 : decode cL_acts 719 = .ok (.iload 12, 2) := by decide +kernel
theorem dL_acts_721 : decode cL_acts 721 = .ok (.bipush 18, 2) := by decide +kernel
theorem dL_acts_723 : decode cL_acts 723 = .ok (.if_icmp .ge 26, 3) := by decide +kernel
theorem dL_acts_726 : decode cL_acts 726 = .ok (.aload_n 0, 1) := by decide +kernel
theorem dL_acts_727 : decode cL_acts 727 = .ok (.aload_n 1, 1) := by decide +kernel
theorem dL_acts_728 : decode cL_acts 728 = .ok (.aload_n 2, 1) := by decide +kernel
theorem dL_acts_729 : decode cL_acts 729 = .ok (.aload_n 3, 1) := by decide +kernel
theorem dL_acts_730 : decode cL_acts 730 = .ok (.aload 4, 2) := by decide +kernel
theorem dL_acts_732 : decode cL_acts 732 = .ok (.aload 5, 2) := by decide +kernel
theorem dL_acts_734 : decode cL_acts 734 = .ok (.aload 8, 2) := by decide +kernel
theorem dL_acts_736 : decode cL_acts 736 = .ok (.iload 13, 2) := by decide +kernel
theorem dL_acts_738 : decode cL_acts 738 = .ok (.iload 11, 2) := by decide +kernel
theorem dL_acts_740 : decode cL_acts 740 = .ok (.invokestatic 287, 3) := by decide +kernel
theorem dL_acts_743 : decode cL_acts 743 = .ok (.ifCond .eq 28, 3) := by decide +kernel
theorem dL_acts_746 : decode cL_acts 746 = .ok (.goto 21, 3) := by decide +kernel
theorem dL_acts_749 : decode cL_acts 749 = .ok (.aload_n 0, 1) := by decide +kernel
theorem dL_acts_750 : decode cL_acts 750 = .ok (.aload_n 1, 1) := by decide +kernel
theorem dL_acts_751 : decode cL_acts 751 = .ok (.aload_n 2, 1) := by decide +kernel
theorem dL_acts_752 : decode cL_acts 752 = .ok (.aload_n 3, 1) := by decide +kernel
theorem dL_acts_753 : decode cL_acts 753 = .ok (.aload 4, 2) := by decide +kernel
theorem dL_acts_755 : decode cL_acts 755 = .ok (.aload 5, 2) := by decide +kernel
theorem dL_acts_757 : decode cL_acts 757 = .ok (.aload 8, 2) := by decide +kernel
theorem dL_acts_759 : decode cL_acts 759 = .ok (.iload 13, 2) := by decide +kernel
theorem dL_acts_761 : decode cL_acts 761 = .ok (.invokestatic 291, 3) := by decide +kernel
theorem dL_acts_764 : decode cL_acts 764 = .ok (.ifCond .eq 7, 3) := by decide +kernel
theorem dL_acts_767 : decode cL_acts 767 = .ok (.iconst 1, 1) := by decide +kernel
theorem dL_acts_768 : decode cL_acts 768 = .ok (.goto 4, 3) := by decide +kernel
theorem dL_acts_771 : decode cL_acts 771 = .ok (.iconst 0, 1) := by decide +kernel
theorem dL_acts_772 : decode cL_acts 772 = .ok (.ireturn, 1) := by decide +kernel
theorem dL_law_0 : decode cL_law 0 = .ok (.new 11, 3) := by decide +kernel
theorem dL_law_3 : decode cL_law 3 = .ok (.dup, 1) := by decide +kernel
theorem dL_law_4 : decode cL_law 4 = .ok (.invokespecial 295, 3) := by decide +kernel
theorem dL_law_7 : decode cL_law 7 = .ok (.astore_n 1, 1) := by decide +kernel
theorem dL_law_8 : decode cL_law 8 = .ok (.bipush 12, 2) := by decide +kernel
theorem dL_law_10 : decode cL_law 10 = .ok (.newarray .int, 2) := by decide +kernel
theorem dL_law_12 : decode cL_law 12 = .ok (.astore_n 2, 1) := by decide +kernel
theorem dL_law_13 : decode cL_law 13 = .ok (.bipush 64, 2) := by decide +kernel
theorem dL_law_15 : decode cL_law 15 = .ok (.newarray .long, 2) := by decide +kernel
theorem dL_law_17 : decode cL_law 17 = .ok (.astore_n 3, 1) := by decide +kernel
theorem dL_law_18 : decode cL_law 18 = .ok (.bipush 64, 2) := by decide +kernel
theorem dL_law_20 : decode cL_law 20 = .ok (.newarray .long, 2) := by decide +kernel
theorem dL_law_22 : decode cL_law 22 = .ok (.astore 4, 2) := by decide +kernel
theorem dL_law_24 : decode cL_law 24 = .ok (.bipush 64, 2) := by decide +kernel
theorem dL_law_26 : decode cL_law 26 = .ok (.newarray .long, 2) := by decide +kernel
theorem dL_law_28 : decode cL_law 28 = .ok (.astore 5, 2) := by decide +kernel
theorem dL_law_30 : decode cL_law 30 = .ok (.iconst 3, 1) := by decide +kernel
theorem dL_law_31 : decode cL_law 31 = .ok (.newarray .int, 2) := by decide +kernel
theorem dL_law_33 : decode cL_law 33 = .ok (.astore 6, 2) := by decide +kernel
theorem dL_law_35 : decode cL_law 35 = .ok (.iconst 4, 1) := by decide +kernel
theorem dL_law_36 : decode cL_law 36 = .ok (.newarray .int, 2) := by decide +kernel
theorem dL_law_38 : decode cL_law 38 = .ok (.astore 7, 2) := by decide +kernel
theorem dL_law_40 : decode cL_law 40 = .ok (.iconst 4, 1) := by decide +kernel
theorem dL_law_41 : decode cL_law 41 = .ok (.newarray .long, 2) := by decide +kernel
theorem dL_law_43 : decode cL_law 43 = .ok (.astore 8, 2) := by decide +kernel
theorem dL_law_45 : decode cL_law 45 = .ok (.iconst 4, 1) := by decide +kernel
theorem dL_law_46 : decode cL_law 46 = .ok (.newarray .int, 2) := by decide +kernel
theorem dL_law_48 : decode cL_law 48 = .ok (.astore 9, 2) := by decide +kernel
theorem dL_law_50 : decode cL_law 50 = .ok (.iconst 2, 1) := by decide +kernel
theorem dL_law_51 : decode cL_law 51 = .ok (.newarray .int, 2) := by decide +kernel
theorem dL_law_53 : decode cL_law 53 = .ok (.astore 10, 2) := by decide +kernel
theorem dL_law_55 : decode cL_law 55 = .ok (.aload_n 1, 1) := by decide +kernel
theorem dL_law_56 : decode cL_law 56 = .ok (.invokevirtual 296, 3) := by decide +kernel
theorem dL_law_59 : decode cL_law 59 = .ok (.ifCond .ne 57, 3) := by decide +kernel
theorem dL_law_62 : decode cL_law 62 = .ok (.aload_n 1, 1) := by decide +kernel
theorem dL_law_63 : decode cL_law 63 = .ok (.iconst 2, 1) := by decide +kernel
theorem dL_law_64 : decode cL_law 64 = .ok (.invokestatic 108, 3) := by decide +kernel
theorem dL_law_67 : decode cL_law 67 = .ok (.ifCond .ne 49, 3) := by decide +kernel
theorem dL_law_70 : decode cL_law 70 = .ok (.aload_n 1, 1) := by decide +kernel
theorem dL_law_71 : decode cL_law 71 = .ok (.iconst 3, 1) := by decide +kernel
theorem dL_law_72 : decode cL_law 72 = .ok (.invokestatic 108, 3) := by decide +kernel
theorem dL_law_75 : decode cL_law 75 = .ok (.ldc 18, 2) := by decide +kernel
theorem dL_law_77 : decode cL_law 77 = .ok (.if_icmp .ne 39, 3) := by decide +kernel
theorem dL_law_80 : decode cL_law 80 = .ok (.aload_n 1, 1) := by decide +kernel
theorem dL_law_81 : decode cL_law 81 = .ok (.iconst 0, 1) := by decide +kernel
theorem dL_law_82 : decode cL_law 82 = .ok (.iconst 1, 1) := by decide +kernel
theorem dL_law_83 : decode cL_law 83 = .ok (.iconst 0, 1) := by decide +kernel
theorem dL_law_84 : decode cL_law 84 = .ok (.invokestatic 195, 3) := by decide +kernel
theorem dL_law_87 : decode cL_law 87 = .ok (.iconst 3, 1) := by decide +kernel
theorem dL_law_88 : decode cL_law 88 = .ok (.if_icmp .ne 28, 3) := by decide +kernel
theorem dL_law_91 : decode cL_law 91 = .ok (.aload_n 1, 1) := by decide +kernel
theorem dL_law_92 : decode cL_law 92 = .ok (.iconst 0, 1) := by decide +kernel
theorem dL_law_93 : decode cL_law 93 = .ok (.iconst 0, 1) := by decide +kernel
theorem dL_law_94 : decode cL_law 94 = .ok (.iconst 0, 1) := by decide +kernel
theorem dL_law_95 : decode cL_law 95 = .ok (.invokestatic 195, 3) := by decide +kernel
theorem dL_law_98 : decode cL_law 98 = .ok (.bipush 7, 2) := by decide +kernel
theorem dL_law_100 : decode cL_law 100 = .ok (.if_icmp .ne 16, 3) := by decide +kernel
theorem dL_law_103 : decode cL_law 103 = .ok (.aload_n 1, 1) := by decide +kernel
theorem dL_law_104 : decode cL_law 104 = .ok (.iconst 0, 1) := by decide +kernel
theorem dL_law_105 : decode cL_law 105 = .ok (.invokestatic 241, 3) := by decide +kernel
theorem dL_law_108 : decode cL_law 108 = .ok (.iconst 4, 1) := by decide +kernel
theorem dL_law_109 : decode cL_law 109 = .ok (.if_icmp .ne 7, 3) := by decide +kernel
theorem dL_law_112 : decode cL_law 112 = .ok (.iconst 1, 1) := by decide +kernel
theorem dL_law_113 : decode cL_law 113 = .ok (.goto 4, 3) := by decide +kernel
theorem dL_law_116 : decode cL_law 116 = .ok (.iconst 0, 1) := by decide +kernel
theorem dL_law_117 : decode cL_law 117 = .ok (.istore 11, 2) := by decide +kernel
theorem dL_law_119 : decode cL_law 119 = .ok (.iconst 0, 1) := by decide +kernel
theorem dL_law_120 : decode cL_law 120 = .ok (.istore 12, 2) := by decide +kernel
theorem dL_law_122 : decode cL_law 122 = .ok (.iload 12, 2) := by decide +kernel
theorem dL_law_124 : decode cL_law 124 = .ok (.sipush 130, 3) := by decide +kernel
theorem dL_law_127 : decode cL_law 127 = .ok (.if_icmp .ge 73, 3) := by decide +kernel
theorem dL_law_130 : decode cL_law 130 = .ok (.iload 11, 2) := by decide +kernel
theorem dL_law_132 : decode cL_law 132 = .ok (.ifCond .eq 68, 3) := by decide +kernel
theorem dL_law_135 : decode cL_law 135 = .ok (.aload_n 1, 1) := by decide +kernel
theorem dL_law_136 : decode cL_law 136 = .ok (.aload_n 2, 1) := by decide +kernel
theorem dL_law_137 : decode cL_law 137 = .ok (.aload_n 3, 1) := by decide +kernel
theorem dL_law_138 : decode cL_law 138 = .ok (.aload 4, 2) := by decide +kernel
theorem dL_law_140 : decode cL_law 140 = .ok (.aload 5, 2) := by decide +kernel
theorem dL_law_142 : decode cL_law 142 = .ok (.aload 6, 2) := by decide +kernel
theorem dL_law_144 : decode cL_law 144 = .ok (.aload 7, 2) := by decide +kernel
theorem dL_law_146 : decode cL_law 146 = .ok (.aload 8, 2) := by decide +kernel
theorem dL_law_148 : decode cL_law 148 = .ok (.aload 9, 2) := by decide +kernel
theorem dL_law_150 : decode cL_law 150 = .ok (.aload 10, 2) := by decide +kernel
theorem dL_law_152 : decode cL_law 152 = .ok (.aload_n 0, 1) := by decide +kernel
theorem dL_law_153 : decode cL_law 153 = .ok (.iconst 2, 1) := by decide +kernel
theorem dL_law_154 : decode cL_law 154 = .ok (.iload 12, 2) := by decide +kernel
theorem dL_law_156 : decode cL_law 156 = .ok (.imul, 1) := by decide +kernel
theorem dL_law_157 : decode cL_law 157 = .ok (.invokestatic 299, 3) := by decide +kernel
theorem dL_law_160 : decode cL_law 160 = .ok (.aload_n 0, 1) := by decide +kernel
theorem dL_law_161 : decode cL_law 161 = .ok (.iconst 2, 1) := by decide +kernel
theorem dL_law_162 : decode cL_law 162 = .ok (.iload 12, 2) := by decide +kernel
theorem dL_law_164 : decode cL_law 164 = .ok (.imul, 1) := by decide +kernel
theorem dL_law_165 : decode cL_law 165 = .ok (.iconst 1, 1) := by decide +kernel
theorem dL_law_166 : decode cL_law 166 = .ok (.iadd, 1) := by decide +kernel
theorem dL_law_167 : decode cL_law 167 = .ok (.invokestatic 299, 3) := by decide +kernel
theorem dL_law_170 : decode cL_law 170 = .ok (.invokestatic 301, 3) := by decide +kernel
theorem dL_law_173 : decode cL_law 173 = .ok (.ifCond .eq 18, 3) := by decide +kernel
theorem dL_law_176 : decode cL_law 176 = .ok (.aload_n 1, 1) := by decide +kernel
theorem dL_law_177 : decode cL_law 177 = .ok (.invokevirtual 296, 3) := by decide +kernel
theorem dL_law_180 : decode cL_law 180 = .ok (.aload 10, 2) := by decide +kernel
theorem dL_law_182 : decode cL_law 182 = .ok (.iconst 0, 1) := by decide +kernel
theorem dL_law_183 : decode cL_law 183 = .ok (.iaload, 1) := by decide +kernel
theorem dL_law_184 : decode cL_law 184 = .ok (.if_icmp .ne 7, 3) := by decide +kernel
theorem dL_law_187 : decode cL_law 187 = .ok (.iconst 1, 1) := by decide +kernel
theorem dL_law_188 : decode cL_law 188 = .ok (.goto 4, 3) := by decide +kernel
theorem dL_law_191 : decode cL_law 191 = .ok (.iconst 0, 1) := by decide +kernel
theorem dL_law_192 : decode cL_law 192 = .ok (.istore 11, 2) := by decide +kernel
theorem dL_law_194 : decode cL_law 194 = .ok (.iinc 12 1, 3) := by decide +kernel
theorem dL_law_197 : decode cL_law 197 = .ok (.goto (-75), 3) := by decide +kernel
theorem dL_law_200 : decode cL_law 200 = .ok (.iload 11, 2) := by decide +kernel
theorem dL_law_202 : decode cL_law 202 = .ok (.ireturn, 1) := by decide +kernel
