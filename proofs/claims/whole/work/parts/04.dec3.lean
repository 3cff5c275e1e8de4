theorem dX6_replaces_228 : decode cX6_replaces 228 = .ok (.idiv, 1) := by decide +kernel
theorem dX6_replaces_229 : decode cX6_replaces 229 = .ok (.iadd, 1) := by decide +kernel
theorem dX6_replaces_230 : decode cX6_replaces 230 = .ok (.iaload, 1) := by decide +kernel
theorem dX6_replaces_231 : decode cX6_replaces 231 = .ok (.ifCond .ne 35, 3) := by decide +kernel
theorem dX6_replaces_234 : decode cX6_replaces 234 = .ok (.aload_n 0, 1) := by decide +kernel
theorem dX6_replaces_235 : decode cX6_replaces 235 = .ok (.getfield 40, 3) := by decide +kernel
theorem dX6_replaces_238 : decode cX6_replaces 238 = .ok (.iconst 3, 1) := by decide +kernel
theorem dX6_replaces_239 : decode cX6_replaces 239 = .ok (.aload_n 0, 1) := by decide +kernel
theorem dX6_replaces_240 : decode cX6_replaces 240 = .ok (.getfield 71, 3) := by decide +kernel
theorem dX6_replaces_243 : decode cX6_replaces 243 = .ok (.iconst 4, 1) := by decide +kernel
theorem dX6_replaces_244 : decode cX6_replaces 244 = .ok (.iload_n 1, 1) := by decide +kernel
theorem dX6_replaces_245 : decode cX6_replaces 245 = .ok (.imul, 1) := by decide +kernel
theorem dX6_replaces_246 : decode cX6_replaces 246 = .ok (.iload 4, 2) := by decide +kernel
theorem dX6_replaces_248 : decode cX6_replaces 248 = .ok (.iconst 3, 1) := by decide +kernel
theorem dX6_replaces_249 : decode cX6_replaces 249 = .ok (.idiv, 1) := by decide +kernel
theorem dX6_replaces_250 : decode cX6_replaces 250 = .ok (.iadd, 1) := by decide +kernel
theorem dX6_replaces_251 : decode cX6_replaces 251 = .ok (.iaload, 1) := by decide +kernel
theorem dX6_replaces_252 : decode cX6_replaces 252 = .ok (.imul, 1) := by decide +kernel
theorem dX6_replaces_253 : decode cX6_replaces 253 = .ok (.iload 4, 2) := by decide +kernel
theorem dX6_replaces_255 : decode cX6_replaces 255 = .ok (.iconst 3, 1) := by decide +kernel
theorem dX6_replaces_256 : decode cX6_replaces 256 = .ok (.irem, 1) := by decide +kernel
theorem dX6_replaces_257 : decode cX6_replaces 257 = .ok (.iadd, 1) := by decide +kernel
theorem dX6_replaces_258 : decode cX6_replaces 258 = .ok (.aload_n 0, 1) := by decide +kernel
theorem dX6_replaces_259 : decode cX6_replaces 259 = .ok (.getfield 98, 3) := by decide +kernel
theorem dX6_replaces_262 : decode cX6_replaces 262 = .ok (.iload 4, 2) := by decide +kernel
theorem dX6_replaces_264 : decode cX6_replaces 264 = .ok (.iaload, 1) := by decide +kernel
theorem dX6_replaces_265 : decode cX6_replaces 265 = .ok (.iastore, 1) := by decide +kernel
theorem dX6_replaces_266 : decode cX6_replaces 266 = .ok (.iinc 4 1, 3) := by decide +kernel
theorem dX6_replaces_269 : decode cX6_replaces 269 = .ok (.goto (-62), 3) := by decide +kernel
theorem dX6_replaces_272 : decode cX6_replaces 272 = .ok (.iconst 0, 1) := by decide +kernel
theorem dX6_replaces_273 : decode cX6_replaces 273 = .ok (.ireturn, 1) := by decide +kernel
theorem dX6_replace_0 : decode cX6_replace 0 = .ok (.aload_n 0, 1) := by decide +kernel
theorem dX6_replace_1 : decode cX6_replace 1 = .ok (.iload_n 1, 1) := by decide +kernel
theorem dX6_replace_2 : decode cX6_replace 2 = .ok (.invokestatic 136, 3) := by decide +kernel
theorem dX6_replace_5 : decode cX6_replace 5 = .ok (.iconst 1, 1) := by decide +kernel
theorem dX6_replace_6 : decode cX6_replace 6 = .ok (.iconst 1, 1) := by decide +kernel
theorem dX6_replace_7 : decode cX6_replace 7 = .ok (.invokevirtual 132, 3) := by decide +kernel
theorem dX6_replace_10 : decode cX6_replace 10 = .ok (.ifCond .ne 5, 3) := by decide +kernel
theorem dX6_replace_13 : decode cX6_replace 13 = .ok (.iconst 0, 1) := by decide +kernel
theorem dX6_replace_14 : decode cX6_replace 14 = .ok (.ireturn, 1) := by decide +kernel
theorem dX6_replace_15 : decode cX6_replace 15 = .ok (.aload_n 0, 1) := by decide +kernel
theorem dX6_replace_16 : decode cX6_replace 16 = .ok (.iload_n 1, 1) := by decide +kernel
theorem dX6_replace_17 : decode cX6_replace 17 = .ok (.invokevirtual 232, 3) := by decide +kernel
theorem dX6_replace_20 : decode cX6_replace 20 = .ok (.aload_n 0, 1) := by decide +kernel
theorem dX6_replace_21 : decode cX6_replace 21 = .ok (.iload_n 1, 1) := by decide +kernel
theorem dX6_replace_22 : decode cX6_replace 22 = .ok (.invokevirtual 274, 3) := by decide +kernel
theorem dX6_replace_25 : decode cX6_replace 25 = .ok (.istore_n 2, 1) := by decide +kernel
theorem dX6_replace_26 : decode cX6_replace 26 = .ok (.aload_n 0, 1) := by decide +kernel
theorem dX6_replace_27 : decode cX6_replace 27 = .ok (.invokevirtual 145, 3) := by decide +kernel
theorem dX6_replace_30 : decode cX6_replace 30 = .ok (.istore_n 3, 1) := by decide +kernel
theorem dX6_replace_31 : decode cX6_replace 31 = .ok (.iload_n 2, 1) := by decide +kernel
theorem dX6_replace_32 : decode cX6_replace 32 = .ok (.ireturn, 1) := by decide +kernel
theorem dX6_marks_0 : decode cX6_marks 0 = .ok (.iconst 0, 1) := by decide +kernel
theorem dX6_marks_1 : decode cX6_marks 1 = .ok (.istore_n 2, 1) := by decide +kernel
theorem dX6_marks_2 : decode cX6_marks 2 = .ok (.iload_n 2, 1) := by decide +kernel
theorem dX6_marks_3 : decode cX6_marks 3 = .ok (.bipush 60, 2) := by decide +kernel
theorem dX6_marks_5 : decode cX6_marks 5 = .ok (.if_icmp .ge 48, 3) := by decide +kernel
theorem dX6_marks_8 : decode cX6_marks 8 = .ok (.aload_n 0, 1) := by decide +kernel
theorem dX6_marks_9 : decode cX6_marks 9 = .ok (.getfield 43, 3) := by decide +kernel
theorem dX6_marks_12 : decode cX6_marks 12 = .ok (.iload_n 2, 1) := by decide +kernel
theorem dX6_marks_13 : decode cX6_marks 13 = .ok (.aload_n 0, 1) := by decide +kernel
theorem dX6_marks_14 : decode cX6_marks 14 = .ok (.getfield 43, 3) := by decide +kernel
theorem dX6_marks_17 : decode cX6_marks 17 = .ok (.iload_n 2, 1) := by decide +kernel
theorem dX6_marks_18 : decode cX6_marks 18 = .ok (.baload, 1) := by decide +kernel
theorem dX6_marks_19 : decode cX6_marks 19 = .ok (.ifCond .ne 22, 3) := by decide +kernel
theorem dX6_marks_22 : decode cX6_marks 22 = .ok (.aload_n 0, 1) := by decide +kernel
theorem dX6_marks_23 : decode cX6_marks 23 = .ok (.getfield 34, 3) := by decide +kernel
theorem dX6_marks_26 : decode cX6_marks 26 = .ok (.iload_n 2, 1) := by decide +kernel
theorem dX6_marks_27 : decode cX6_marks 27 = .ok (.iaload, 1) := by decide +kernel
theorem dX6_marks_28 : decode cX6_marks 28 = .ok (.iconst (-1), 1) := by decide +kernel
theorem dX6_marks_29 : decode cX6_marks 29 = .ok (.if_icmp .eq 16, 3) := by decide +kernel
theorem dX6_marks_32 : decode cX6_marks 32 = .ok (.aload_n 0, 1) := by decide +kernel
theorem dX6_marks_33 : decode cX6_marks 33 = .ok (.iload_n 2, 1) := by decide +kernel
theorem dX6_marks_34 : decode cX6_marks 34 = .ok (.iload_n 1, 1) := by decide +kernel
theorem dX6_marks_35 : decode cX6_marks 35 = .ok (.invokevirtual 170, 3) := by decide +kernel
theorem dX6_marks_38 : decode cX6_marks 38 = .ok (.ifCond .eq 7, 3) := by decide +kernel
theorem dX6_marks_41 : decode cX6_marks 41 = .ok (.iconst 1, 1) := by decide +kernel
theorem dX6_marks_42 : decode cX6_marks 42 = .ok (.goto 4, 3) := by decide +kernel
theorem dX6_marks_45 : decode cX6_marks 45 = .ok (.iconst 0, 1) := by decide +kernel
theorem dX6_marks_46 : decode cX6_marks 46 = .ok (.bastore, 1) := by decide +kernel
theorem dX6_marks_47 : decode cX6_marks 47 = .ok (.iinc 2 1, 3) := by decide +kernel
theorem dX6_marks_50 : decode cX6_marks 50 = .ok (.goto (-48), 3) := by decide +kernel
theorem dX6_marks_53 : decode cX6_marks 53 = .ok (.return_, 1) := by decide +kernel
theorem dX6_marksAll_0 : decode cX6_marksAll 0 = .ok (.iconst 0, 1) := by decide +kernel
theorem dX6_marksAll_1 : decode cX6_marksAll 1 = .ok (.istore_n 2, 1) := by decide +kernel
theorem dX6_marksAll_2 : decode cX6_marksAll 2 = .ok (.iload_n 2, 1) := by decide +kernel
theorem dX6_marksAll_3 : decode cX6_marksAll 3 = .ok (.bipush 60, 2) := by decide +kernel
theorem dX6_marksAll_5 : decode cX6_marksAll 5 = .ok (.if_icmp .ge 16, 3) := by decide +kernel
theorem dX6_marksAll_8 : decode cX6_marksAll 8 = .ok (.aload_n 0, 1) := by decide +kernel
theorem dX6_marksAll_9 : decode cX6_marksAll 9 = .ok (.getfield 43, 3) := by decide +kernel
theorem dX6_marksAll_12 : decode cX6_marksAll 12 = .ok (.iload_n 2, 1) := by decide +kernel
theorem dX6_marksAll_13 : decode cX6_marksAll 13 = .ok (.iconst 0, 1) := by decide +kernel
theorem dX6_marksAll_14 : decode cX6_marksAll 14 = .ok (.bastore, 1) := by decide +kernel
theorem dX6_marksAll_15 : decode cX6_marksAll 15 = .ok (.iinc 2 1, 3) := by decide +kernel
theorem dX6_marksAll_18 : decode cX6_marksAll 18 = .ok (.goto (-16), 3) := by decide +kernel
theorem dX6_marksAll_21 : decode cX6_marksAll 21 = .ok (.aload_n 0, 1) := by decide +kernel
theorem dX6_marksAll_22 : decode cX6_marksAll 22 = .ok (.iload_n 1, 1) := by decide +kernel
theorem dX6_marksAll_23 : decode cX6_marksAll 23 = .ok (.invokevirtual 277, 3) := by decide +kernel
theorem dX6_marksAll_26 : decode cX6_marksAll 26 = .ok (.iconst 0, 1) := by decide +kernel
theorem dX6_marksAll_27 : decode cX6_marksAll 27 = .ok (.istore_n 2, 1) := by decide +kernel
theorem dX6_marksAll_28 : decode cX6_marksAll 28 = .ok (.iload_n 2, 1) := by decide +kernel
theorem dX6_marksAll_29 : decode cX6_marksAll 29 = .ok (.bipush 60, 2) := by decide +kernel
theorem dX6_marksAll_31 : decode cX6_marksAll 31 = .ok (.if_icmp .ge 63, 3) := by decide +kernel
theorem dX6_marksAll_34 : decode cX6_marksAll 34 = .ok (.aload_n 0, 1) := by decide +kernel
theorem dX6_marksAll_35 : decode cX6_marksAll 35 = .ok (.getfield 34, 3) := by decide +kernel
theorem dX6_marksAll_38 : decode cX6_marksAll 38 = .ok (.iload_n 2, 1) := by decide +kernel
theorem dX6_marksAll_39 : decode cX6_marksAll 39 = .ok (.iaload, 1) := by decide +kernel
theorem dX6_marksAll_40 : decode cX6_marksAll 40 = .ok (.iconst (-1), 1) := by decide +kernel
theorem dX6_marksAll_41 : decode cX6_marksAll 41 = .ok (.if_icmp .eq 47, 3) := by decide +kernel
theorem dX6_marksAll_44 : decode cX6_marksAll 44 = .ok (.aload_n 0, 1) := by decide +kernel
theorem dX6_marksAll_45 : decode cX6_marksAll 45 = .ok (.getfield 25, 3) := by decide +kernel
theorem dX6_marksAll_48 : decode cX6_marksAll 48 = .ok (.aload_n 0, 1) := by decide +kernel
theorem dX6_marksAll_49 : decode cX6_marksAll 49 = .ok (.getfield 34, 3) := by decide +kernel
theorem dX6_marksAll_52 : decode cX6_marksAll 52 = .ok (.iload_n 2, 1) := by decide +kernel
theorem dX6_marksAll_53 : decode cX6_marksAll 53 = .ok (.iaload, 1) := by decide +kernel
theorem dX6_marksAll_54 : decode cX6_marksAll 54 = .ok (.iaload, 1) := by decide +kernel
theorem dX6_marksAll_55 : decode cX6_marksAll 55 = .ok (.iconst (-1), 1) := by decide +kernel
theorem dX6_marksAll_56 : decode cX6_marksAll 56 = .ok (.if_icmp .eq 32, 3) := by decide +kernel
theorem dX6_marksAll_59 : decode cX6_marksAll 59 = .ok (.aload_n 0, 1) := by decide +kernel
theorem dX6_marksAll_60 : decode cX6_marksAll 60 = .ok (.iload_n 2, 1) := by decide +kernel
theorem dX6_marksAll_61 : decode cX6_marksAll 61 = .ok (.invokevirtual 280, 3) := by decide +kernel
theorem dX6_marksAll_64 : decode cX6_marksAll 64 = .ok (.iload_n 1, 1) := by decide +kernel
theorem dX6_marksAll_65 : decode cX6_marksAll 65 = .ok (.if_icmp .ne 23, 3) := by decide +kernel
theorem dX6_marksAll_68 : decode cX6_marksAll 68 = .ok (.aload_n 0, 1) := by decide +kernel
theorem dX6_marksAll_69 : decode cX6_marksAll 69 = .ok (.getfield 31, 3) := by decide +kernel
theorem dX6_marksAll_72 : decode cX6_marksAll 72 = .ok (.aload_n 0, 1) := by decide +kernel
theorem dX6_marksAll_73 : decode cX6_marksAll 73 = .ok (.getfield 34, 3) := by decide +kernel
theorem dX6_marksAll_76 : decode cX6_marksAll 76 = .ok (.iload_n 2, 1) := by decide +kernel
theorem dX6_marksAll_77 : decode cX6_marksAll 77 = .ok (.iaload, 1) := by decide +kernel
theorem dX6_marksAll_78 : decode cX6_marksAll 78 = .ok (.iaload, 1) := by decide +kernel
theorem dX6_marksAll_79 : decode cX6_marksAll 79 = .ok (.iconst 2, 1) := by decide +kernel
theorem dX6_marksAll_80 : decode cX6_marksAll 80 = .ok (.if_icmp .ne 8, 3) := by decide +kernel
theorem dX6_marksAll_83 : decode cX6_marksAll 83 = .ok (.aload_n 0, 1) := by decide +kernel
theorem dX6_marksAll_84 : decode cX6_marksAll 84 = .ok (.iload_n 2, 1) := by decide +kernel
theorem dX6_marksAll_85 : decode cX6_marksAll 85 = .ok (.invokevirtual 277, 3) := by decide +kernel
theorem dX6_marksAll_88 : decode cX6_marksAll 88 = .ok (.iinc 2 1, 3) := by decide +kernel
theorem dX6_marksAll_91 : decode cX6_marksAll 91 = .ok (.goto (-63), 3) := by decide +kernel
theorem dX6_marksAll_94 : decode cX6_marksAll 94 = .ok (.iconst 1, 1) := by decide +kernel
theorem dX6_marksAll_95 : decode cX6_marksAll 95 = .ok (.istore_n 2, 1) := by decide +kernel
theorem dX6_marksAll_96 : decode cX6_marksAll 96 = .ok (.iconst 0, 1) := by decide +kernel
theorem dX6_marksAll_97 : decode cX6_marksAll 97 = .ok (.istore_n 3, 1) := by decide +kernel
theorem dX6_marksAll_98 : decode cX6_marksAll 98 = .ok (.iload_n 3, 1) := by decide +kernel
theorem dX6_marksAll_99 : decode cX6_marksAll 99 = .ok (.bipush 60, 2) := by decide +kernel
theorem dX6_marksAll_101 : decode cX6_marksAll 101 = .ok (.if_icmp .ge 88, 3) := by decide +kernel
theorem dX6_marksAll_104 : decode cX6_marksAll 104 = .ok (.aload_n 0, 1) := by decide +kernel
theorem dX6_marksAll_105 : decode cX6_marksAll 105 = .ok (.getfield 34, 3) := by decide +kernel
theorem dX6_marksAll_108 : decode cX6_marksAll 108 = .ok (.iload_n 3, 1) := by decide +kernel
theorem dX6_marksAll_109 : decode cX6_marksAll 109 = .ok (.iaload, 1) := by decide +kernel
theorem dX6_marksAll_110 : decode cX6_marksAll 110 = .ok (.iconst (-1), 1) := by decide +kernel
theorem dX6_marksAll_111 : decode cX6_marksAll 111 = .ok (.if_icmp .eq 45, 3) := by decide +kernel
theorem dX6_marksAll_114 : decode cX6_marksAll 114 = .ok (.aload_n 0, 1) := by decide +kernel
theorem dX6_marksAll_115 : decode cX6_marksAll 115 = .ok (.getfield 25, 3) := by decide +kernel
theorem dX6_marksAll_118 : decode cX6_marksAll 118 = .ok (.aload_n 0, 1) := by decide +kernel
theorem dX6_marksAll_119 : decode cX6_marksAll 119 = .ok (.getfield 34, 3) := by decide +kernel
theorem dX6_marksAll_122 : decode cX6_marksAll 122 = .ok (.iload_n 3, 1) := by decide +kernel
theorem dX6_marksAll_123 : decode cX6_marksAll 123 = .ok (.iaload, 1) := by decide +kernel
theorem dX6_marksAll_124 : decode cX6_marksAll 124 = .ok (.iaload, 1) := by decide +kernel
theorem dX6_marksAll_125 : decode cX6_marksAll 125 = .ok (.iconst (-1), 1) := by decide +kernel
theorem dX6_marksAll_126 : decode cX6_marksAll 126 = .ok (.if_icmp .eq 30, 3) := by decide +kernel
theorem dX6_marksAll_129 : decode cX6_marksAll 129 = .ok (.aload_n 0, 1) := by decide +kernel
theorem dX6_marksAll_130 : decode cX6_marksAll 130 = .ok (.iload_n 3, 1) := by decide +kernel
theorem dX6_marksAll_131 : decode cX6_marksAll 131 = .ok (.invokevirtual 280, 3) := by decide +kernel
theorem dX6_marksAll_134 : decode cX6_marksAll 134 = .ok (.iload_n 1, 1) := by decide +kernel
theorem dX6_marksAll_135 : decode cX6_marksAll 135 = .ok (.if_icmp .ne 21, 3) := by decide +kernel
theorem dX6_marksAll_138 : decode cX6_marksAll 138 = .ok (.aload_n 0, 1) := by decide +kernel
theorem dX6_marksAll_139 : decode cX6_marksAll 139 = .ok (.getfield 31, 3) := by decide +kernel
theorem dX6_marksAll_142 : decode cX6_marksAll 142 = .ok (.aload_n 0, 1) := by decide +kernel
theorem dX6_marksAll_143 : decode cX6_marksAll 143 = .ok (.getfield 34, 3) := by decide +kernel
theorem dX6_marksAll_146 : decode cX6_marksAll 146 = .ok (.iload_n 3, 1) := by decide +kernel
theorem dX6_marksAll_147 : decode cX6_marksAll 147 = .ok (.iaload, 1) := by decide +kernel
theorem dX6_marksAll_148 : decode cX6_marksAll 148 = .ok (.iaload, 1) := by decide +kernel
theorem dX6_marksAll_149 : decode cX6_marksAll 149 = .ok (.ifCond .ne 7, 3) := by decide +kernel
theorem dX6_marksAll_152 : decode cX6_marksAll 152 = .ok (.iconst 1, 1) := by decide +kernel
theorem dX6_marksAll_153 : decode cX6_marksAll 153 = .ok (.goto 4, 3) := by decide +kernel
theorem dX6_marksAll_156 : decode cX6_marksAll 156 = .ok (.iconst 0, 1) := by decide +kernel
theorem dX6_marksAll_157 : decode cX6_marksAll 157 = .ok (.istore 4, 2) := by decide +kernel
theorem dX6_marksAll_159 : decode cX6_marksAll 159 = .ok (.iload_n 2, 1) := by decide +kernel
theorem dX6_marksAll_160 : decode cX6_marksAll 160 = .ok (.ifCond .eq 21, 3) := by decide +kernel
theorem dX6_marksAll_163 : decode cX6_marksAll 163 = .ok (.iload 4, 2) := by decide +kernel
theorem dX6_marksAll_165 : decode cX6_marksAll 165 = .ok (.ifCond .eq 12, 3) := by decide +kernel
theorem dX6_marksAll_168 : decode cX6_marksAll 168 = .ok (.aload_n 0, 1) := by decide +kernel
theorem dX6_marksAll_169 : decode cX6_marksAll 169 = .ok (.getfield 43, 3) := by decide +kernel
theorem dX6_marksAll_172 : decode cX6_marksAll 172 = .ok (.iload_n 3, 1) := by decide +kernel
theorem dX6_marksAll_173 : decode cX6_marksAll 173 = .ok (.baload, 1) := by decide +kernel
theorem dX6_marksAll_174 : decode cX6_marksAll 174 = .ok (.ifCond .eq 7, 3) := by decide +kernel
theorem dX6_marksAll_177 : decode cX6_marksAll 177 = .ok (.iconst 1, 1) := by decide +kernel
theorem dX6_marksAll_178 : decode cX6_marksAll 178 = .ok (.goto 4, 3) := by decide +kernel
theorem dX6_marksAll_181 : decode cX6_marksAll 181 = .ok (.iconst 0, 1) := by decide +kernel
theorem dX6_marksAll_182 : decode cX6_marksAll 182 = .ok (.istore_n 2, 1) := by decide +kernel
theorem dX6_marksAll_183 : decode cX6_marksAll 183 = .ok (.iinc 3 1, 3) := by decide +kernel
theorem dX6_marksAll_186 : decode cX6_marksAll 186 = .ok (.goto (-88), 3) := by decide +kernel
theorem dX6_marksAll_189 : decode cX6_marksAll 189 = .ok (.iload_n 2, 1) := by decide +kernel
theorem dX6_marksAll_190 : decode cX6_marksAll 190 = .ok (.ireturn, 1) := by decide +kernel
theorem dX6_leaves_0 : decode cX6_leaves 0 = .ok (.aload_n 0, 1) := by decide +kernel
theorem dX6_leaves_1 : decode cX6_leaves 1 = .ok (.getfield 59, 3) := by decide +kernel
theorem dX6_leaves_4 : decode cX6_leaves 4 = .ok (.iload_n 1, 1) := by decide +kernel
theorem dX6_leaves_5 : decode cX6_leaves 5 = .ok (.iaload, 1) := by decide +kernel
theorem dX6_leaves_6 : decode cX6_leaves 6 = .ok (.iconst 1, 1) := by decide +kernel
theorem dX6_leaves_7 : decode cX6_leaves 7 = .ok (.if_icmp .gt 130, 3) := by decide +kernel
theorem dX6_leaves_10 : decode cX6_leaves 10 = .ok (.aload_n 0, 1) := by decide +kernel
theorem dX6_leaves_11 : decode cX6_leaves 11 = .ok (.getfield 43, 3) := by decide +kernel
theorem dX6_leaves_14 : decode cX6_leaves 14 = .ok (.aload_n 0, 1) := by decide +kernel
theorem dX6_leaves_15 : decode cX6_leaves 15 = .ok (.getfield 62, 3) := by decide +kernel
theorem dX6_leaves_18 : decode cX6_leaves 18 = .ok (.iload_n 1, 1) := by decide +kernel
theorem dX6_leaves_19 : decode cX6_leaves 19 = .ok (.iaload, 1) := by decide +kernel
theorem dX6_leaves_20 : decode cX6_leaves 20 = .ok (.baload, 1) := by decide +kernel
theorem dX6_leaves_21 : decode cX6_leaves 21 = .ok (.ifCond .eq 116, 3) := by decide +kernel
theorem dX6_leaves_24 : decode cX6_leaves 24 = .ok (.aload_n 0, 1) := by decide +kernel
theorem dX6_leaves_25 : decode cX6_leaves 25 = .ok (.aload_n 0, 1) := by decide +kernel
theorem dX6_leaves_26 : decode cX6_leaves 26 = .ok (.getfield 62, 3) := by decide +kernel
theorem dX6_leaves_29 : decode cX6_leaves 29 = .ok (.iload_n 1, 1) := by decide +kernel
theorem dX6_leaves_30 : decode cX6_leaves 30 = .ok (.iaload, 1) := by decide +kernel
theorem dX6_leaves_31 : decode cX6_leaves 31 = .ok (.invokevirtual 167, 3) := by decide +kernel
theorem dX6_leaves_34 : decode cX6_leaves 34 = .ok (.istore_n 2, 1) := by decide +kernel
theorem dX6_leaves_35 : decode cX6_leaves 35 = .ok (.iload_n 2, 1) := by decide +kernel
theorem dX6_leaves_36 : decode cX6_leaves 36 = .ok (.aload_n 0, 1) := by decide +kernel
theorem dX6_leaves_37 : decode cX6_leaves 37 = .ok (.getfield 47, 3) := by decide +kernel
theorem dX6_leaves_40 : decode cX6_leaves 40 = .ok (.aload_n 0, 1) := by decide +kernel
theorem dX6_leaves_41 : decode cX6_leaves 41 = .ok (.getfield 53, 3) := by decide +kernel
theorem dX6_leaves_44 : decode cX6_leaves 44 = .ok (.iload_n 1, 1) := by decide +kernel
theorem dX6_leaves_45 : decode cX6_leaves 45 = .ok (.iaload, 1) := by decide +kernel
theorem dX6_leaves_46 : decode cX6_leaves 46 = .ok (.iaload, 1) := by decide +kernel
theorem dX6_leaves_47 : decode cX6_leaves 47 = .ok (.if_icmp .ge 28, 3) := by decide +kernel
theorem dX6_leaves_50 : decode cX6_leaves 50 = .ok (.aload_n 0, 1) := by decide +kernel
theorem dX6_leaves_51 : decode cX6_leaves 51 = .ok (.getfield 43, 3) := by decide +kernel
theorem dX6_leaves_54 : decode cX6_leaves 54 = .ok (.aload_n 0, 1) := by decide +kernel
theorem dX6_leaves_55 : decode cX6_leaves 55 = .ok (.aload_n 0, 1) := by decide +kernel
theorem dX6_leaves_56 : decode cX6_leaves 56 = .ok (.getfield 53, 3) := by decide +kernel
theorem dX6_leaves_59 : decode cX6_leaves 59 = .ok (.iload_n 1, 1) := by decide +kernel
theorem dX6_leaves_60 : decode cX6_leaves 60 = .ok (.iaload, 1) := by decide +kernel
theorem dX6_leaves_61 : decode cX6_leaves 61 = .ok (.iload_n 2, 1) := by decide +kernel
theorem dX6_leaves_62 : decode cX6_leaves 62 = .ok (.invokevirtual 157, 3) := by decide +kernel
theorem dX6_leaves_65 : decode cX6_leaves 65 = .ok (.baload, 1) := by decide +kernel
theorem dX6_leaves_66 : decode cX6_leaves 66 = .ok (.ifCond .eq 9, 3) := by decide +kernel
theorem dX6_leaves_69 : decode cX6_leaves 69 = .ok (.iinc 2 1, 3) := by decide +kernel
theorem dX6_leaves_72 : decode cX6_leaves 72 = .ok (.goto (-37), 3) := by decide +kernel
theorem dX6_leaves_75 : decode cX6_leaves 75 = .ok (.aload_n 0, 1) := by decide +kernel
theorem dX6_leaves_76 : decode cX6_leaves 76 = .ok (.getfield 59, 3) := by decide +kernel
theorem dX6_leaves_79 : decode cX6_leaves 79 = .ok (.iload_n 1, 1) := by decide +kernel
theorem dX6_leaves_80 : decode cX6_leaves 80 = .ok (.iload_n 2, 1) := by decide +kernel
theorem dX6_leaves_81 : decode cX6_leaves 81 = .ok (.aload_n 0, 1) := by decide +kernel
theorem dX6_leaves_82 : decode cX6_leaves 82 = .ok (.getfield 47, 3) := by decide +kernel
theorem dX6_leaves_85 : decode cX6_leaves 85 = .ok (.aload_n 0, 1) := by decide +kernel
theorem dX6_leaves_86 : decode cX6_leaves 86 = .ok (.getfield 53, 3) := by decide +kernel
theorem dX6_leaves_89 : decode cX6_leaves 89 = .ok (.iload_n 1, 1) := by decide +kernel
theorem dX6_leaves_90 : decode cX6_leaves 90 = .ok (.iaload, 1) := by decide +kernel
theorem dX6_leaves_91 : decode cX6_leaves 91 = .ok (.iaload, 1) := by decide +kernel
theorem dX6_leaves_92 : decode cX6_leaves 92 = .ok (.if_icmp .ge 7, 3) := by decide +kernel
theorem dX6_leaves_95 : decode cX6_leaves 95 = .ok (.iconst 1, 1) := by decide +kernel
theorem dX6_leaves_96 : decode cX6_leaves 96 = .ok (.goto 4, 3) := by decide +kernel
theorem dX6_leaves_99 : decode cX6_leaves 99 = .ok (.iconst 3, 1) := by decide +kernel
theorem dX6_leaves_100 : decode cX6_leaves 100 = .ok (.iastore, 1) := by decide +kernel
theorem dX6_leaves_101 : decode cX6_leaves 101 = .ok (.aload_n 0, 1) := by decide +kernel
theorem dX6_leaves_102 : decode cX6_leaves 102 = .ok (.getfield 62, 3) := by decide +kernel
theorem dX6_leaves_105 : decode cX6_leaves 105 = .ok (.iload_n 1, 1) := by decide +kernel
theorem dX6_leaves_106 : decode cX6_leaves 106 = .ok (.iload_n 2, 1) := by decide +kernel
theorem dX6_leaves_107 : decode cX6_leaves 107 = .ok (.aload_n 0, 1) := by decide +kernel
theorem dX6_leaves_108 : decode cX6_leaves 108 = .ok (.getfield 47, 3) := by decide +kernel
theorem dX6_leaves_111 : decode cX6_leaves 111 = .ok (.aload_n 0, 1) := by decide +kernel
theorem dX6_leaves_112 : decode cX6_leaves 112 = .ok (.getfield 53, 3) := by decide +kernel
theorem dX6_leaves_115 : decode cX6_leaves 115 = .ok (.iload_n 1, 1) := by decide +kernel
theorem dX6_leaves_116 : decode cX6_leaves 116 = .ok (.iaload, 1) := by decide +kernel
theorem dX6_leaves_117 : decode cX6_leaves 117 = .ok (.iaload, 1) := by decide +kernel
theorem dX6_leaves_118 : decode cX6_leaves 118 = .ok (.if_icmp .ge 17, 3) := by decide +kernel
theorem dX6_leaves_121 : decode cX6_leaves 121 = .ok (.aload_n 0, 1) := by decide +kernel
theorem dX6_leaves_122 : decode cX6_leaves 122 = .ok (.aload_n 0, 1) := by decide +kernel
theorem dX6_leaves_123 : decode cX6_leaves 123 = .ok (.getfield 53, 3) := by decide +kernel
theorem dX6_leaves_126 : decode cX6_leaves 126 = .ok (.iload_n 1, 1) := by decide +kernel
theorem dX6_leaves_127 : decode cX6_leaves 127 = .ok (.iaload, 1) := by decide +kernel
theorem dX6_leaves_128 : decode cX6_leaves 128 = .ok (.iload_n 2, 1) := by decide +kernel
theorem dX6_leaves_129 : decode cX6_leaves 129 = .ok (.invokevirtual 157, 3) := by decide +kernel
theorem dX6_leaves_132 : decode cX6_leaves 132 = .ok (.goto 4, 3) := by decide +kernel
theorem dX6_leaves_135 : decode cX6_leaves 135 = .ok (.iconst (-1), 1) := by decide +kernel
theorem dX6_leaves_136 : decode cX6_leaves 136 = .ok (.iastore, 1) := by decide +kernel
theorem dX6_leaves_137 : decode cX6_leaves 137 = .ok (.aload_n 0, 1) := by decide +kernel
theorem dX6_leaves_138 : decode cX6_leaves 138 = .ok (.getfield 65, 3) := by decide +kernel
theorem dX6_leaves_141 : decode cX6_leaves 141 = .ok (.iload_n 1, 1) := by decide +kernel
theorem dX6_leaves_142 : decode cX6_leaves 142 = .ok (.aload_n 0, 1) := by decide +kernel
theorem dX6_leaves_143 : decode cX6_leaves 143 = .ok (.getfield 65, 3) := by decide +kernel
theorem dX6_leaves_146 : decode cX6_leaves 146 = .ok (.iload_n 1, 1) := by decide +kernel
theorem dX6_leaves_147 : decode cX6_leaves 147 = .ok (.iaload, 1) := by decide +kernel
theorem dX6_leaves_148 : decode cX6_leaves 148 = .ok (.iconst (-1), 1) := by decide +kernel
theorem dX6_leaves_149 : decode cX6_leaves 149 = .ok (.if_icmp .eq 21, 3) := by decide +kernel
theorem dX6_leaves_152 : decode cX6_leaves 152 = .ok (.aload_n 0, 1) := by decide +kernel
theorem dX6_leaves_153 : decode cX6_leaves 153 = .ok (.getfield 43, 3) := by decide +kernel
theorem dX6_leaves_156 : decode cX6_leaves 156 = .ok (.aload_n 0, 1) := by decide +kernel
theorem dX6_leaves_157 : decode cX6_leaves 157 = .ok (.getfield 65, 3) := by decide +kernel
theorem dX6_leaves_160 : decode cX6_leaves 160 = .ok (.iload_n 1, 1) := by decide +kernel
theorem dX6_leaves_161 : decode cX6_leaves 161 = .ok (.iaload, 1) := by decide +kernel
theorem dX6_leaves_162 : decode cX6_leaves 162 = .ok (.baload, 1) := by decide +kernel
theorem dX6_leaves_163 : decode cX6_leaves 163 = .ok (.ifCond .eq 7, 3) := by decide +kernel
theorem dX6_leaves_166 : decode cX6_leaves 166 = .ok (.iconst (-1), 1) := by decide +kernel
theorem dX6_leaves_167 : decode cX6_leaves 167 = .ok (.goto 9, 3) := by decide +kernel
theorem dX6_leaves_170 : decode cX6_leaves 170 = .ok (.aload_n 0, 1) := by decide +kernel
theorem dX6_leaves_171 : decode cX6_leaves 171 = .ok (.getfield 65, 3) := by decide +kernel
theorem dX6_leaves_174 : decode cX6_leaves 174 = .ok (.iload_n 1, 1) := by decide +kernel
theorem dX6_leaves_175 : decode cX6_leaves 175 = .ok (.iaload, 1) := by decide +kernel
theorem dX6_leaves_176 : decode cX6_leaves 176 = .ok (.iastore, 1) := by decide +kernel
theorem dX6_leaves_177 : decode cX6_leaves 177 = .ok (.iconst 0, 1) := by decide +kernel
theorem dX6_leaves_178 : decode cX6_leaves 178 = .ok (.istore_n 2, 1) := by decide +kernel
theorem dX6_leaves_179 : decode cX6_leaves 179 = .ok (.iload_n 2, 1) := by decide +kernel
theorem dX6_leaves_180 : decode cX6_leaves 180 = .ok (.aload_n 0, 1) := by decide +kernel
theorem dX6_leaves_181 : decode cX6_leaves 181 = .ok (.getfield 68, 3) := by decide +kernel
theorem dX6_leaves_184 : decode cX6_leaves 184 = .ok (.iload_n 1, 1) := by decide +kernel
theorem dX6_leaves_185 : decode cX6_leaves 185 = .ok (.iaload, 1) := by decide +kernel
theorem dX6_leaves_186 : decode cX6_leaves 186 = .ok (.if_icmp .ge 34, 3) := by decide +kernel
theorem dX6_leaves_189 : decode cX6_leaves 189 = .ok (.aload_n 0, 1) := by decide +kernel
theorem dX6_leaves_190 : decode cX6_leaves 190 = .ok (.getfield 43, 3) := by decide +kernel
theorem dX6_leaves_193 : decode cX6_leaves 193 = .ok (.aload_n 0, 1) := by decide +kernel
theorem dX6_leaves_194 : decode cX6_leaves 194 = .ok (.getfield 71, 3) := by decide +kernel
theorem dX6_leaves_197 : decode cX6_leaves 197 = .ok (.iconst 4, 1) := by decide +kernel
theorem dX6_leaves_198 : decode cX6_leaves 198 = .ok (.iload_n 1, 1) := by decide +kernel
theorem dX6_leaves_199 : decode cX6_leaves 199 = .ok (.imul, 1) := by decide +kernel
theorem dX6_leaves_200 : decode cX6_leaves 200 = .ok (.iload_n 2, 1) := by decide +kernel
theorem dX6_leaves_201 : decode cX6_leaves 201 = .ok (.iadd, 1) := by decide +kernel
theorem dX6_leaves_202 : decode cX6_leaves 202 = .ok (.iaload, 1) := by decide +kernel
theorem dX6_leaves_203 : decode cX6_leaves 203 = .ok (.baload, 1) := by decide +kernel
theorem dX6_leaves_204 : decode cX6_leaves 204 = .ok (.ifCond .eq 10, 3) := by decide +kernel
theorem dX6_leaves_207 : decode cX6_leaves 207 = .ok (.aload_n 0, 1) := by decide +kernel
theorem dX6_leaves_208 : decode cX6_leaves 208 = .ok (.getfield 68, 3) := by decide +kernel
theorem dX6_leaves_211 : decode cX6_leaves 211 = .ok (.iload_n 1, 1) := by decide +kernel
theorem dX6_leaves_212 : decode cX6_leaves 212 = .ok (.iconst 0, 1) := by decide +kernel
theorem dX6_leaves_213 : decode cX6_leaves 213 = .ok (.iastore, 1) := by decide +kernel
theorem dX6_leaves_214 : decode cX6_leaves 214 = .ok (.iinc 2 1, 3) := by decide +kernel
theorem dX6_leaves_217 : decode cX6_leaves 217 = .ok (.goto (-38), 3) := by decide +kernel
theorem dX6_leaves_220 : decode cX6_leaves 220 = .ok (.return_, 1) := by decide +kernel
theorem dX6_removes_0 : decode cX6_removes 0 = .ok (.iconst 0, 1) := by decide +kernel
theorem dX6_removes_1 : decode cX6_removes 1 = .ok (.istore_n 1, 1) := by decide +kernel
theorem dX6_removes_2 : decode cX6_removes 2 = .ok (.iload_n 1, 1) := by decide +kernel
theorem dX6_removes_3 : decode cX6_removes 3 = .ok (.iconst 3, 1) := by decide +kernel
theorem dX6_removes_4 : decode cX6_removes 4 = .ok (.if_icmp .ge 70, 3) := by decide +kernel
theorem dX6_removes_7 : decode cX6_removes 7 = .ok (.iconst 0, 1) := by decide +kernel
theorem dX6_removes_8 : decode cX6_removes 8 = .ok (.istore_n 2, 1) := by decide +kernel
theorem dX6_removes_9 : decode cX6_removes 9 = .ok (.iconst 0, 1) := by decide +kernel
theorem dX6_removes_10 : decode cX6_removes 10 = .ok (.istore_n 3, 1) := by decide +kernel
theorem dX6_removes_11 : decode cX6_removes 11 = .ok (.iload_n 3, 1) := by decide +kernel
theorem dX6_removes_12 : decode cX6_removes 12 = .ok (.aload_n 0, 1) := by decide +kernel
theorem dX6_removes_13 : decode cX6_removes 13 = .ok (.getfield 47, 3) := by decide +kernel
theorem dX6_removes_16 : decode cX6_removes 16 = .ok (.iload_n 1, 1) := by decide +kernel
theorem dX6_removes_17 : decode cX6_removes 17 = .ok (.iaload, 1) := by decide +kernel
theorem dX6_removes_18 : decode cX6_removes 18 = .ok (.if_icmp .ge 43, 3) := by decide +kernel
theorem dX6_removes_21 : decode cX6_removes 21 = .ok (.aload_n 0, 1) := by decide +kernel
theorem dX6_removes_22 : decode cX6_removes 22 = .ok (.iload_n 1, 1) := by decide +kernel
theorem dX6_removes_23 : decode cX6_removes 23 = .ok (.iload_n 3, 1) := by decide +kernel
theorem dX6_removes_24 : decode cX6_removes 24 = .ok (.invokevirtual 157, 3) := by decide +kernel
theorem dX6_removes_27 : decode cX6_removes 27 = .ok (.istore 4, 2) := by decide +kernel
theorem dX6_removes_29 : decode cX6_removes 29 = .ok (.aload_n 0, 1) := by decide +kernel
theorem dX6_removes_30 : decode cX6_removes 30 = .ok (.getfield 43, 3) := by decide +kernel
theorem dX6_removes_33 : decode cX6_removes 33 = .ok (.iload 4, 2) := by decide +kernel
theorem dX6_removes_35 : decode cX6_removes 35 = .ok (.baload, 1) := by decide +kernel
theorem dX6_removes_36 : decode cX6_removes 36 = .ok (.ifCond .ne 19, 3) := by decide +kernel
theorem dX6_removes_39 : decode cX6_removes 39 = .ok (.aload_n 0, 1) := by decide +kernel
theorem dX6_removes_40 : decode cX6_removes 40 = .ok (.getfield 50, 3) := by decide +kernel
theorem dX6_removes_43 : decode cX6_removes 43 = .ok (.bipush 60, 2) := by decide +kernel
theorem dX6_removes_45 : decode cX6_removes 45 = .ok (.iload_n 1, 1) := by decide +kernel
theorem dX6_removes_46 : decode cX6_removes 46 = .ok (.imul, 1) := by decide +kernel
theorem dX6_removes_47 : decode cX6_removes 47 = .ok (.iload_n 2, 1) := by decide +kernel
theorem dX6_removes_48 : decode cX6_removes 48 = .ok (.iadd, 1) := by decide +kernel
theorem dX6_removes_49 : decode cX6_removes 49 = .ok (.iload 4, 2) := by decide +kernel
theorem dX6_removes_51 : decode cX6_removes 51 = .ok (.iastore, 1) := by decide +kernel
theorem dX6_removes_52 : decode cX6_removes 52 = .ok (.iinc 2 1, 3) := by decide +kernel
theorem dX6_removes_55 : decode cX6_removes 55 = .ok (.iinc 3 1, 3) := by decide +kernel
theorem dX6_removes_58 : decode cX6_removes 58 = .ok (.goto (-47), 3) := by decide +kernel
theorem dX6_removes_61 : decode cX6_removes 61 = .ok (.aload_n 0, 1) := by decide +kernel
theorem dX6_removes_62 : decode cX6_removes 62 = .ok (.getfield 47, 3) := by decide +kernel
theorem dX6_removes_65 : decode cX6_removes 65 = .ok (.iload_n 1, 1) := by decide +kernel
theorem dX6_removes_66 : decode cX6_removes 66 = .ok (.iload_n 2, 1) := by decide +kernel
theorem dX6_removes_67 : decode cX6_removes 67 = .ok (.iastore, 1) := by decide +kernel
theorem dX6_removes_68 : decode cX6_removes 68 = .ok (.iinc 1 1, 3) := by decide +kernel
theorem dX6_removes_71 : decode cX6_removes 71 = .ok (.goto (-69), 3) := by decide +kernel
theorem dX6_removes_74 : decode cX6_removes 74 = .ok (.iconst 0, 1) := by decide +kernel
theorem dX6_removes_75 : decode cX6_removes 75 = .ok (.istore_n 1, 1) := by decide +kernel
theorem dX6_removes_76 : decode cX6_removes 76 = .ok (.iload_n 1, 1) := by decide +kernel
theorem dX6_removes_77 : decode cX6_removes 77 = .ok (.bipush 60, 2) := by decide +kernel
theorem dX6_removes_79 : decode cX6_removes 79 = .ok (.if_icmp .ge 34, 3) := by decide +kernel
theorem dX6_removes_82 : decode cX6_removes 82 = .ok (.aload_n 0, 1) := by decide +kernel
theorem dX6_removes_83 : decode cX6_removes 83 = .ok (.getfield 34, 3) := by decide +kernel
theorem dX6_removes_86 : decode cX6_removes 86 = .ok (.iload_n 1, 1) := by decide +kernel
theorem dX6_removes_87 : decode cX6_removes 87 = .ok (.aload_n 0, 1) := by decide +kernel
theorem dX6_removes_88 : decode cX6_removes 88 = .ok (.getfield 43, 3) := by decide +kernel
theorem dX6_removes_91 : decode cX6_removes 91 = .ok (.iload_n 1, 1) := by decide +kernel
theorem dX6_removes_92 : decode cX6_removes 92 = .ok (.baload, 1) := by decide +kernel
theorem dX6_removes_93 : decode cX6_removes 93 = .ok (.ifCond .eq 7, 3) := by decide +kernel
theorem dX6_removes_96 : decode cX6_removes 96 = .ok (.iconst (-1), 1) := by decide +kernel
theorem dX6_removes_97 : decode cX6_removes 97 = .ok (.goto 9, 3) := by decide +kernel
theorem dX6_removes_100 : decode cX6_removes 100 = .ok (.aload_n 0, 1) := by decide +kernel
theorem dX6_removes_101 : decode cX6_removes 101 = .ok (.getfield 34, 3) := by decide +kernel
theorem dX6_removes_104 : decode cX6_removes 104 = .ok (.iload_n 1, 1) := by decide +kernel
theorem dX6_removes_105 : decode cX6_removes 105 = .ok (.iaload, 1) := by decide +kernel
theorem dX6_removes_106 : decode cX6_removes 106 = .ok (.iastore, 1) := by decide +kernel
theorem dX6_removes_107 : decode cX6_removes 107 = .ok (.iinc 1 1, 3) := by decide +kernel
theorem dX6_removes_110 : decode cX6_removes 110 = .ok (.goto (-34), 3) := by decide +kernel
theorem dX6_removes_113 : decode cX6_removes 113 = .ok (.return_, 1) := by decide +kernel
theorem dX6_deletes_0 : decode cX6_deletes 0 = .ok (.aload_n 0, 1) := by decide +kernel
theorem dX6_deletes_1 : decode cX6_deletes 1 = .ok (.getfield 209, 3) := by decide +kernel
theorem dX6_deletes_4 : decode cX6_deletes 4 = .ok (.ifCond .ne 6, 3) := by decide +kernel
theorem dX6_deletes_7 : decode cX6_deletes 7 = .ok (.bipush 6, 2) := by decide +kernel
theorem dX6_deletes_9 : decode cX6_deletes 9 = .ok (.ireturn, 1) := by decide +kernel
theorem dX6_deletes_10 : decode cX6_deletes 10 = .ok (.aload_n 0, 1) := by decide +kernel
theorem dX6_deletes_11 : decode cX6_deletes 11 = .ok (.aload_n 0, 1) := by decide +kernel
theorem dX6_deletes_12 : decode cX6_deletes 12 = .ok (.getfield 71, 3) := by decide +kernel
theorem dX6_deletes_15 : decode cX6_deletes 15 = .ok (.iconst 4, 1) := by decide +kernel
theorem dX6_deletes_16 : decode cX6_deletes 16 = .ok (.iload_n 1, 1) := by decide +kernel
theorem dX6_deletes_17 : decode cX6_deletes 17 = .ok (.imul, 1) := by decide +kernel
theorem dX6_deletes_18 : decode cX6_deletes 18 = .ok (.aload_n 0, 1) := by decide +kernel
theorem dX6_deletes_19 : decode cX6_deletes 19 = .ok (.getfield 209, 3) := by decide +kernel
theorem dX6_deletes_22 : decode cX6_deletes 22 = .ok (.iadd, 1) := by decide +kernel
theorem dX6_deletes_23 : decode cX6_deletes 23 = .ok (.iconst 1, 1) := by decide +kernel
theorem dX6_deletes_24 : decode cX6_deletes 24 = .ok (.isub, 1) := by decide +kernel
theorem dX6_deletes_25 : decode cX6_deletes 25 = .ok (.iaload, 1) := by decide +kernel
theorem dX6_deletes_26 : decode cX6_deletes 26 = .ok (.invokevirtual 283, 3) := by decide +kernel
theorem dX6_deletes_29 : decode cX6_deletes 29 = .ok (.ifCond .ne 6, 3) := by decide +kernel
theorem dX6_deletes_32 : decode cX6_deletes 32 = .ok (.bipush 12, 2) := by decide +kernel
theorem dX6_deletes_34 : decode cX6_deletes 34 = .ok (.ireturn, 1) := by decide +kernel
theorem dX6_deletes_35 : decode cX6_deletes 35 = .ok (.iconst 0, 1) := by decide +kernel
theorem dX6_deletes_36 : decode cX6_deletes 36 = .ok (.istore_n 2, 1) := by decide +kernel
theorem dX6_deletes_37 : decode cX6_deletes 37 = .ok (.iload_n 2, 1) := by decide +kernel
theorem dX6_deletes_38 : decode cX6_deletes 38 = .ok (.iconst 4, 1) := by decide +kernel
theorem dX6_deletes_39 : decode cX6_deletes 39 = .ok (.if_icmp .ge 14, 3) := by decide +kernel
theorem dX6_deletes_42 : decode cX6_deletes 42 = .ok (.aload_n 0, 1) := by decide +kernel
theorem dX6_deletes_43 : decode cX6_deletes 43 = .ok (.iload_n 2, 1) := by decide +kernel
theorem dX6_deletes_44 : decode cX6_deletes 44 = .ok (.invokevirtual 286, 3) := by decide +kernel
theorem dX6_deletes_47 : decode cX6_deletes 47 = .ok (.iinc 2 1, 3) := by decide +kernel
theorem dX6_deletes_50 : decode cX6_deletes 50 = .ok (.goto (-13), 3) := by decide +kernel
theorem dX6_deletes_53 : decode cX6_deletes 53 = .ok (.aload_n 0, 1) := by decide +kernel
theorem dX6_deletes_54 : decode cX6_deletes 54 = .ok (.invokevirtual 289, 3) := by decide +kernel
theorem dX6_deletes_57 : decode cX6_deletes 57 = .ok (.iconst 0, 1) := by decide +kernel
theorem dX6_deletes_58 : decode cX6_deletes 58 = .ok (.ireturn, 1) := by decide +kernel
theorem dX6_delete_0 : decode cX6_delete 0 = .ok (.aload_n 0, 1) := by decide +kernel
theorem dX6_delete_1 : decode cX6_delete 1 = .ok (.iload_n 1, 1) := by decide +kernel
theorem dX6_delete_2 : decode cX6_delete 2 = .ok (.invokestatic 136, 3) := by decide +kernel
theorem dX6_delete_5 : decode cX6_delete 5 = .ok (.iconst 1, 1) := by decide +kernel
theorem dX6_delete_6 : decode cX6_delete 6 = .ok (.iconst 1, 1) := by decide +kernel
theorem dX6_delete_7 : decode cX6_delete 7 = .ok (.invokevirtual 132, 3) := by decide +kernel
theorem dX6_delete_10 : decode cX6_delete 10 = .ok (.ifCond .ne 5, 3) := by decide +kernel
theorem dX6_delete_13 : decode cX6_delete 13 = .ok (.iconst 0, 1) := by decide +kernel
theorem dX6_delete_14 : decode cX6_delete 14 = .ok (.ireturn, 1) := by decide +kernel
theorem dX6_delete_15 : decode cX6_delete 15 = .ok (.aload_n 0, 1) := by decide +kernel
theorem dX6_delete_16 : decode cX6_delete 16 = .ok (.iload_n 1, 1) := by decide +kernel
theorem dX6_delete_17 : decode cX6_delete 17 = .ok (.invokevirtual 232, 3) := by decide +kernel
theorem dX6_delete_20 : decode cX6_delete 20 = .ok (.aload_n 0, 1) := by decide +kernel
theorem dX6_delete_21 : decode cX6_delete 21 = .ok (.iload_n 1, 1) := by decide +kernel
theorem dX6_delete_22 : decode cX6_delete 22 = .ok (.invokevirtual 292, 3) := by decide +kernel
theorem dX6_delete_25 : decode cX6_delete 25 = .ok (.istore_n 2, 1) := by decide +kernel
theorem dX6_delete_26 : decode cX6_delete 26 = .ok (.aload_n 0, 1) := by decide +kernel
theorem dX6_delete_27 : decode cX6_delete 27 = .ok (.invokevirtual 145, 3) := by decide +kernel
theorem dX6_delete_30 : decode cX6_delete 30 = .ok (.istore_n 3, 1) := by decide +kernel
theorem dX6_delete_31 : decode cX6_delete 31 = .ok (.iload_n 2, 1) := by decide +kernel
theorem dX6_delete_32 : decode cX6_delete 32 = .ok (.ireturn, 1) := by decide +kernel
theorem dX6_types_0 : decode cX6_types 0 = .ok (.aload_n 0, 1) := by decide +kernel
theorem dX6_types_1 : decode cX6_types 1 = .ok (.aload_n 0, 1) := by decide +kernel
theorem dX6_types_2 : decode cX6_types 2 = .ok (.getfield 119, 3) := by decide +kernel
theorem dX6_types_5 : decode cX6_types 5 = .ok (.invokevirtual 149, 3) := by decide +kernel
theorem dX6_types_8 : decode cX6_types 8 = .ok (.ireturn, 1) := by decide +kernel
theorem dX6_count_0 : decode cX6_count 0 = .ok (.aload_n 0, 1) := by decide +kernel
theorem dX6_count_1 : decode cX6_count 1 = .ok (.iload_n 1, 1) := by decide +kernel
theorem dX6_count_2 : decode cX6_count 2 = .ok (.invokestatic 122, 3) := by decide +kernel
theorem dX6_count_5 : decode cX6_count 5 = .ok (.iconst 1, 1) := by decide +kernel
theorem dX6_count_6 : decode cX6_count 6 = .ok (.iconst 1, 1) := by decide +kernel
theorem dX6_count_7 : decode cX6_count 7 = .ok (.invokevirtual 132, 3) := by decide +kernel
theorem dX6_count_10 : decode cX6_count 10 = .ok (.ifCond .eq 12, 3) := by decide +kernel
theorem dX6_count_13 : decode cX6_count 13 = .ok (.aload_n 0, 1) := by decide +kernel
theorem dX6_count_14 : decode cX6_count 14 = .ok (.getfield 47, 3) := by decide +kernel
theorem dX6_count_17 : decode cX6_count 17 = .ok (.iload_n 1, 1) := by decide +kernel
theorem dX6_count_18 : decode cX6_count 18 = .ok (.iaload, 1) := by decide +kernel
theorem dX6_count_19 : decode cX6_count 19 = .ok (.goto 4, 3) := by decide +kernel
theorem dX6_count_22 : decode cX6_count 22 = .ok (.iconst 0, 1) := by decide +kernel
theorem dX6_count_23 : decode cX6_count 23 = .ok (.ireturn, 1) := by decide +kernel
theorem dX6_isPlace_0 : decode cX6_isPlace 0 = .ok (.iload_n 1, 1) := by decide +kernel
theorem dX6_isPlace_1 : decode cX6_isPlace 1 = .ok (.invokestatic 122, 3) := by decide +kernel
theorem dX6_isPlace_4 : decode cX6_isPlace 4 = .ok (.ifCond .eq 23, 3) := by decide +kernel
theorem dX6_isPlace_7 : decode cX6_isPlace 7 = .ok (.iload_n 2, 1) := by decide +kernel
theorem dX6_isPlace_8 : decode cX6_isPlace 8 = .ok (.iconst 0, 1) := by decide +kernel
theorem dX6_isPlace_9 : decode cX6_isPlace 9 = .ok (.aload_n 0, 1) := by decide +kernel
theorem dX6_isPlace_10 : decode cX6_isPlace 10 = .ok (.getfield 47, 3) := by decide +kernel
theorem dX6_isPlace_13 : decode cX6_isPlace 13 = .ok (.iload_n 1, 1) := by decide +kernel
theorem dX6_isPlace_14 : decode cX6_isPlace 14 = .ok (.iaload, 1) := by decide +kernel
theorem dX6_isPlace_15 : decode cX6_isPlace 15 = .ok (.iconst 1, 1) := by decide +kernel
theorem dX6_isPlace_16 : decode cX6_isPlace 16 = .ok (.isub, 1) := by decide +kernel
theorem dX6_isPlace_17 : decode cX6_isPlace 17 = .ok (.invokestatic 115, 3) := by decide +kernel
theorem dX6_isPlace_20 : decode cX6_isPlace 20 = .ok (.ifCond .eq 7, 3) := by decide +kernel
theorem dX6_isPlace_23 : decode cX6_isPlace 23 = .ok (.iconst 1, 1) := by decide +kernel
theorem dX6_isPlace_24 : decode cX6_isPlace 24 = .ok (.goto 4, 3) := by decide +kernel
theorem dX6_isPlace_27 : decode cX6_isPlace 27 = .ok (.iconst 0, 1) := by decide +kernel
theorem dX6_isPlace_28 : decode cX6_isPlace 28 = .ok (.ireturn, 1) := by decide +kernel
theorem dX6_rowAt_0 : decode cX6_rowAt 0 = .ok (.aload_n 0, 1) := by decide +kernel
theorem dX6_rowAt_1 : decode cX6_rowAt 1 = .ok (.aload_n 0, 1) := by decide +kernel
theorem dX6_rowAt_2 : decode cX6_rowAt 2 = .ok (.iload_n 1, 1) := by decide +kernel
theorem dX6_rowAt_3 : decode cX6_rowAt 3 = .ok (.iload_n 2, 1) := by decide +kernel
theorem dX6_rowAt_4 : decode cX6_rowAt 4 = .ok (.invokevirtual 295, 3) := by decide +kernel
theorem dX6_rowAt_7 : decode cX6_rowAt 7 = .ok (.iconst 1, 1) := by decide +kernel
theorem dX6_rowAt_8 : decode cX6_rowAt 8 = .ok (.iconst 1, 1) := by decide +kernel
theorem dX6_rowAt_9 : decode cX6_rowAt 9 = .ok (.invokevirtual 132, 3) := by decide +kernel
theorem dX6_rowAt_12 : decode cX6_rowAt 12 = .ok (.ifCond .eq 32, 3) := by decide +kernel
theorem dX6_rowAt_15 : decode cX6_rowAt 15 = .ok (.sipush 1000, 3) := by decide +kernel
theorem dX6_rowAt_18 : decode cX6_rowAt 18 = .ok (.aload_n 0, 1) := by decide +kernel
theorem dX6_rowAt_19 : decode cX6_rowAt 19 = .ok (.getfield 34, 3) := by decide +kernel
theorem dX6_rowAt_22 : decode cX6_rowAt 22 = .ok (.aload_n 0, 1) := by decide +kernel
theorem dX6_rowAt_23 : decode cX6_rowAt 23 = .ok (.iload_n 1, 1) := by decide +kernel
theorem dX6_rowAt_24 : decode cX6_rowAt 24 = .ok (.iload_n 2, 1) := by decide +kernel
theorem dX6_rowAt_25 : decode cX6_rowAt 25 = .ok (.invokevirtual 157, 3) := by decide +kernel
theorem dX6_rowAt_28 : decode cX6_rowAt 28 = .ok (.iaload, 1) := by decide +kernel
theorem dX6_rowAt_29 : decode cX6_rowAt 29 = .ok (.imul, 1) := by decide +kernel
theorem dX6_rowAt_30 : decode cX6_rowAt 30 = .ok (.aload_n 0, 1) := by decide +kernel
theorem dX6_rowAt_31 : decode cX6_rowAt 31 = .ok (.aload_n 0, 1) := by decide +kernel
theorem dX6_rowAt_32 : decode cX6_rowAt 32 = .ok (.iload_n 1, 1) := by decide +kernel
theorem dX6_rowAt_33 : decode cX6_rowAt 33 = .ok (.iload_n 2, 1) := by decide +kernel
theorem dX6_rowAt_34 : decode cX6_rowAt 34 = .ok (.invokevirtual 157, 3) := by decide +kernel
theorem dX6_rowAt_37 : decode cX6_rowAt 37 = .ok (.invokevirtual 161, 3) := by decide +kernel
theorem dX6_rowAt_40 : decode cX6_rowAt 40 = .ok (.iadd, 1) := by decide +kernel
theorem dX6_rowAt_41 : decode cX6_rowAt 41 = .ok (.goto 4, 3) := by decide +kernel
theorem dX6_rowAt_44 : decode cX6_rowAt 44 = .ok (.iconst 0, 1) := by decide +kernel
theorem dX6_rowAt_45 : decode cX6_rowAt 45 = .ok (.ireturn, 1) := by decide +kernel
theorem dX6_rowAnew_0 : decode cX6_rowAnew 0 = .ok (.aload_n 0, 1) := by decide +kernel
theorem dX6_rowAnew_1 : decode cX6_rowAnew 1 = .ok (.iload_n 1, 1) := by decide +kernel
theorem dX6_rowAnew_2 : decode cX6_rowAnew 2 = .ok (.iload_n 2, 1) := by decide +kernel
theorem dX6_rowAnew_3 : decode cX6_rowAnew 3 = .ok (.invokevirtual 298, 3) := by decide +kernel
theorem dX6_rowAnew_6 : decode cX6_rowAnew 6 = .ok (.ireturn, 1) := by decide +kernel
theorem dX6_fieldAt_0 : decode cX6_fieldAt 0 = .ok (.aload_n 0, 1) := by decide +kernel
theorem dX6_fieldAt_1 : decode cX6_fieldAt 1 = .ok (.aload_n 0, 1) := by decide +kernel
theorem dX6_fieldAt_2 : decode cX6_fieldAt 2 = .ok (.iload_n 1, 1) := by decide +kernel
theorem dX6_fieldAt_3 : decode cX6_fieldAt 3 = .ok (.iload_n 2, 1) := by decide +kernel
theorem dX6_fieldAt_4 : decode cX6_fieldAt 4 = .ok (.invokevirtual 295, 3) := by decide +kernel
theorem dX6_fieldAt_7 : decode cX6_fieldAt 7 = .ok (.ifCond .eq 16, 3) := by decide +kernel
theorem dX6_fieldAt_10 : decode cX6_fieldAt 10 = .ok (.iload_n 3, 1) := by decide +kernel
theorem dX6_fieldAt_11 : decode cX6_fieldAt 11 = .ok (.iconst 0, 1) := by decide +kernel
theorem dX6_fieldAt_12 : decode cX6_fieldAt 12 = .ok (.iconst 2, 1) := by decide +kernel
theorem dX6_fieldAt_13 : decode cX6_fieldAt 13 = .ok (.invokestatic 115, 3) := by decide +kernel
theorem dX6_fieldAt_16 : decode cX6_fieldAt 16 = .ok (.ifCond .eq 7, 3) := by decide +kernel
theorem dX6_fieldAt_19 : decode cX6_fieldAt 19 = .ok (.iconst 1, 1) := by decide +kernel
theorem dX6_fieldAt_20 : decode cX6_fieldAt 20 = .ok (.goto 4, 3) := by decide +kernel
theorem dX6_fieldAt_23 : decode cX6_fieldAt 23 = .ok (.iconst 0, 1) := by decide +kernel
theorem dX6_fieldAt_24 : decode cX6_fieldAt 24 = .ok (.iconst 1, 1) := by decide +kernel
theorem dX6_fieldAt_25 : decode cX6_fieldAt 25 = .ok (.iconst 1, 1) := by decide +kernel
theorem dX6_fieldAt_26 : decode cX6_fieldAt 26 = .ok (.invokevirtual 132, 3) := by decide +kernel
theorem dX6_fieldAt_29 : decode cX6_fieldAt 29 = .ok (.ifCond .eq 21, 3) := by decide +kernel
theorem dX6_fieldAt_32 : decode cX6_fieldAt 32 = .ok (.aload_n 0, 1) := by decide +kernel
theorem dX6_fieldAt_33 : decode cX6_fieldAt 33 = .ok (.getfield 40, 3) := by decide +kernel
theorem dX6_fieldAt_36 : decode cX6_fieldAt 36 = .ok (.iconst 3, 1) := by decide +kernel
theorem dX6_fieldAt_37 : decode cX6_fieldAt 37 = .ok (.aload_n 0, 1) := by decide +kernel
theorem dX6_fieldAt_38 : decode cX6_fieldAt 38 = .ok (.iload_n 1, 1) := by decide +kernel
theorem dX6_fieldAt_39 : decode cX6_fieldAt 39 = .ok (.iload_n 2, 1) := by decide +kernel
theorem dX6_fieldAt_40 : decode cX6_fieldAt 40 = .ok (.invokevirtual 157, 3) := by decide +kernel
theorem dX6_fieldAt_43 : decode cX6_fieldAt 43 = .ok (.imul, 1) := by decide +kernel
theorem dX6_fieldAt_44 : decode cX6_fieldAt 44 = .ok (.iload_n 3, 1) := by decide +kernel
theorem dX6_fieldAt_45 : decode cX6_fieldAt 45 = .ok (.iadd, 1) := by decide +kernel
theorem dX6_fieldAt_46 : decode cX6_fieldAt 46 = .ok (.iaload, 1) := by decide +kernel
theorem dX6_fieldAt_47 : decode cX6_fieldAt 47 = .ok (.goto 4, 3) := by decide +kernel
theorem dX6_fieldAt_50 : decode cX6_fieldAt 50 = .ok (.iconst 0, 1) := by decide +kernel
theorem dX6_fieldAt_51 : decode cX6_fieldAt 51 = .ok (.ireturn, 1) := by decide +kernel
theorem dX6_at_0 : decode cX6_at 0 = .ok (.aload_n 0, 1) := by decide +kernel
theorem dX6_at_1 : decode cX6_at 1 = .ok (.iload_n 1, 1) := by decide +kernel
theorem dX6_at_2 : decode cX6_at 2 = .ok (.invokestatic 136, 3) := by decide +kernel
theorem dX6_at_5 : decode cX6_at 5 = .ok (.iconst 1, 1) := by decide +kernel
theorem dX6_at_6 : decode cX6_at 6 = .ok (.iconst 1, 1) := by decide +kernel
theorem dX6_at_7 : decode cX6_at 7 = .ok (.invokevirtual 132, 3) := by decide +kernel
theorem dX6_at_10 : decode cX6_at 10 = .ok (.ifCond .ne 5, 3) := by decide +kernel
theorem dX6_at_13 : decode cX6_at 13 = .ok (.iconst 0, 1) := by decide +kernel
theorem dX6_at_14 : decode cX6_at 14 = .ok (.ireturn, 1) := by decide +kernel
theorem dX6_at_15 : decode cX6_at 15 = .ok (.aload_n 0, 1) := by decide +kernel
theorem dX6_at_16 : decode cX6_at 16 = .ok (.getfield 59, 3) := by decide +kernel
theorem dX6_at_19 : decode cX6_at 19 = .ok (.iload_n 1, 1) := by decide +kernel
theorem dX6_at_20 : decode cX6_at 20 = .ok (.iaload, 1) := by decide +kernel
theorem dX6_at_21 : decode cX6_at 21 = .ok (.ifCond .ne 16, 3) := by decide +kernel
theorem dX6_at_24 : decode cX6_at 24 = .ok (.aload_n 0, 1) := by decide +kernel
theorem dX6_at_25 : decode cX6_at 25 = .ok (.aload_n 0, 1) := by decide +kernel
theorem dX6_at_26 : decode cX6_at 26 = .ok (.getfield 62, 3) := by decide +kernel
theorem dX6_at_29 : decode cX6_at 29 = .ok (.iload_n 1, 1) := by decide +kernel
theorem dX6_at_30 : decode cX6_at 30 = .ok (.iaload, 1) := by decide +kernel
theorem dX6_at_31 : decode cX6_at 31 = .ok (.invokevirtual 167, 3) := by decide +kernel
theorem dX6_at_34 : decode cX6_at 34 = .ok (.goto 4, 3) := by decide +kernel
theorem dX6_at_37 : decode cX6_at 37 = .ok (.iconst (-1), 1) := by decide +kernel
theorem dX6_at_38 : decode cX6_at 38 = .ok (.ireturn, 1) := by decide +kernel
theorem dX6_ahead_0 : decode cX6_ahead 0 = .ok (.aload_n 0, 1) := by decide +kernel
theorem dX6_ahead_1 : decode cX6_ahead 1 = .ok (.iload_n 1, 1) := by decide +kernel
theorem dX6_ahead_2 : decode cX6_ahead 2 = .ok (.invokestatic 136, 3) := by decide +kernel
theorem dX6_ahead_5 : decode cX6_ahead 5 = .ok (.iconst 1, 1) := by decide +kernel
theorem dX6_ahead_6 : decode cX6_ahead 6 = .ok (.iconst 1, 1) := by decide +kernel
theorem dX6_ahead_7 : decode cX6_ahead 7 = .ok (.invokevirtual 132, 3) := by decide +kernel
theorem dX6_ahead_10 : decode cX6_ahead 10 = .ok (.ifCond .ne 5, 3) := by decide +kernel
theorem dX6_ahead_13 : decode cX6_ahead 13 = .ok (.iconst 0, 1) := by decide +kernel
theorem dX6_ahead_14 : decode cX6_ahead 14 = .ok (.ireturn, 1) := by decide +kernel
theorem dX6_ahead_15 : decode cX6_ahead 15 = .ok (.aload_n 0, 1) := by decide +kernel
theorem dX6_ahead_16 : decode cX6_ahead 16 = .ok (.getfield 59, 3) := by decide +kernel
theorem dX6_ahead_19 : decode cX6_ahead 19 = .ok (.iload_n 1, 1) := by decide +kernel
theorem dX6_ahead_20 : decode cX6_ahead 20 = .ok (.iaload, 1) := by decide +kernel
theorem dX6_ahead_21 : decode cX6_ahead 21 = .ok (.iconst 1, 1) := by decide +kernel
theorem dX6_ahead_22 : decode cX6_ahead 22 = .ok (.if_icmp .gt 16, 3) := by decide +kernel
theorem dX6_ahead_25 : decode cX6_ahead 25 = .ok (.aload_n 0, 1) := by decide +kernel
theorem dX6_ahead_26 : decode cX6_ahead 26 = .ok (.aload_n 0, 1) := by decide +kernel
theorem dX6_ahead_27 : decode cX6_ahead 27 = .ok (.getfield 62, 3) := by decide +kernel
theorem dX6_ahead_30 : decode cX6_ahead 30 = .ok (.iload_n 1, 1) := by decide +kernel
theorem dX6_ahead_31 : decode cX6_ahead 31 = .ok (.iaload, 1) := by decide +kernel
theorem dX6_ahead_32 : decode cX6_ahead 32 = .ok (.invokevirtual 167, 3) := by decide +kernel
theorem dX6_ahead_35 : decode cX6_ahead 35 = .ok (.goto 28, 3) := by decide +kernel
theorem dX6_ahead_38 : decode cX6_ahead 38 = .ok (.aload_n 0, 1) := by decide +kernel
theorem dX6_ahead_39 : decode cX6_ahead 39 = .ok (.getfield 59, 3) := by decide +kernel
theorem dX6_ahead_42 : decode cX6_ahead 42 = .ok (.iload_n 1, 1) := by decide +kernel
theorem dX6_ahead_43 : decode cX6_ahead 43 = .ok (.iaload, 1) := by decide +kernel
theorem dX6_ahead_44 : decode cX6_ahead 44 = .ok (.iconst 2, 1) := by decide +kernel
theorem dX6_ahead_45 : decode cX6_ahead 45 = .ok (.if_icmp .ne 7, 3) := by decide +kernel
theorem dX6_ahead_48 : decode cX6_ahead 48 = .ok (.iconst 0, 1) := by decide +kernel
theorem dX6_ahead_49 : decode cX6_ahead 49 = .ok (.goto 14, 3) := by decide +kernel
theorem dX6_ahead_52 : decode cX6_ahead 52 = .ok (.aload_n 0, 1) := by decide +kernel
theorem dX6_ahead_53 : decode cX6_ahead 53 = .ok (.getfield 47, 3) := by decide +kernel
theorem dX6_ahead_56 : decode cX6_ahead 56 = .ok (.aload_n 0, 1) := by decide +kernel
theorem dX6_ahead_57 : decode cX6_ahead 57 = .ok (.getfield 53, 3) := by decide +kernel
theorem dX6_ahead_60 : decode cX6_ahead 60 = .ok (.iload_n 1, 1) := by decide +kernel
theorem dX6_ahead_61 : decode cX6_ahead 61 = .ok (.iaload, 1) := by decide +kernel
theorem dX6_ahead_62 : decode cX6_ahead 62 = .ok (.iaload, 1) := by decide +kernel
theorem dX6_ahead_63 : decode cX6_ahead 63 = .ok (.ireturn, 1) := by decide +kernel
theorem dX6_parent_0 : decode cX6_parent 0 = .ok (.aload_n 0, 1) := by decide +kernel
theorem dX6_parent_1 : decode cX6_parent 1 = .ok (.iload_n 1, 1) := by decide +kernel
theorem dX6_parent_2 : decode cX6_parent 2 = .ok (.invokestatic 136, 3) := by decide +kernel
theorem dX6_parent_5 : decode cX6_parent 5 = .ok (.iconst 1, 1) := by decide +kernel
theorem dX6_parent_6 : decode cX6_parent 6 = .ok (.iconst 1, 1) := by decide +kernel
theorem dX6_parent_7 : decode cX6_parent 7 = .ok (.invokevirtual 132, 3) := by decide +kernel
theorem dX6_parent_10 : decode cX6_parent 10 = .ok (.ifCond .ne 5, 3) := by decide +kernel
theorem dX6_parent_13 : decode cX6_parent 13 = .ok (.iconst 0, 1) := by decide +kernel
theorem dX6_parent_14 : decode cX6_parent 14 = .ok (.ireturn, 1) := by decide +kernel
theorem dX6_parent_15 : decode cX6_parent 15 = .ok (.aload_n 0, 1) := by decide +kernel
theorem dX6_parent_16 : decode cX6_parent 16 = .ok (.getfield 65, 3) := by decide +kernel
theorem dX6_parent_19 : decode cX6_parent 19 = .ok (.iload_n 1, 1) := by decide +kernel
theorem dX6_parent_20 : decode cX6_parent 20 = .ok (.iaload, 1) := by decide +kernel
theorem dX6_parent_21 : decode cX6_parent 21 = .ok (.iconst (-1), 1) := by decide +kernel
theorem dX6_parent_22 : decode cX6_parent 22 = .ok (.if_icmp .ne 7, 3) := by decide +kernel
theorem dX6_parent_25 : decode cX6_parent 25 = .ok (.iconst (-1), 1) := by decide +kernel
theorem dX6_parent_26 : decode cX6_parent 26 = .ok (.goto 13, 3) := by decide +kernel
theorem dX6_parent_29 : decode cX6_parent 29 = .ok (.aload_n 0, 1) := by decide +kernel
theorem dX6_parent_30 : decode cX6_parent 30 = .ok (.aload_n 0, 1) := by decide +kernel
theorem dX6_parent_31 : decode cX6_parent 31 = .ok (.getfield 65, 3) := by decide +kernel
theorem dX6_parent_34 : decode cX6_parent 34 = .ok (.iload_n 1, 1) := by decide +kernel
theorem dX6_parent_35 : decode cX6_parent 35 = .ok (.iaload, 1) := by decide +kernel
theorem dX6_parent_36 : decode cX6_parent 36 = .ok (.invokevirtual 167, 3) := by decide +kernel
theorem dX6_parent_39 : decode cX6_parent 39 = .ok (.ireturn, 1) := by decide +kernel
theorem dX6_holds_0 : decode cX6_holds 0 = .ok (.aload_n 0, 1) := by decide +kernel
theorem dX6_holds_1 : decode cX6_holds 1 = .ok (.iload_n 1, 1) := by decide +kernel
theorem dX6_holds_2 : decode cX6_holds 2 = .ok (.invokestatic 136, 3) := by decide +kernel
theorem dX6_holds_5 : decode cX6_holds 5 = .ok (.iconst 1, 1) := by decide +kernel
theorem dX6_holds_6 : decode cX6_holds 6 = .ok (.iconst 1, 1) := by decide +kernel
theorem dX6_holds_7 : decode cX6_holds 7 = .ok (.invokevirtual 132, 3) := by decide +kernel
theorem dX6_holds_10 : decode cX6_holds 10 = .ok (.ifCond .eq 12, 3) := by decide +kernel
theorem dX6_holds_13 : decode cX6_holds 13 = .ok (.aload_n 0, 1) := by decide +kernel
theorem dX6_holds_14 : decode cX6_holds 14 = .ok (.getfield 68, 3) := by decide +kernel
theorem dX6_holds_17 : decode cX6_holds 17 = .ok (.iload_n 1, 1) := by decide +kernel
theorem dX6_holds_18 : decode cX6_holds 18 = .ok (.iaload, 1) := by decide +kernel
theorem dX6_holds_19 : decode cX6_holds 19 = .ok (.goto 4, 3) := by decide +kernel
theorem dX6_holds_22 : decode cX6_holds 22 = .ok (.iconst 0, 1) := by decide +kernel
theorem dX6_holds_23 : decode cX6_holds 23 = .ok (.ireturn, 1) := by decide +kernel
theorem dX6_keys_0 : decode cX6_keys 0 = .ok (.aload_n 0, 1) := by decide +kernel
theorem dX6_keys_1 : decode cX6_keys 1 = .ok (.iload_n 1, 1) := by decide +kernel
theorem dX6_keys_2 : decode cX6_keys 2 = .ok (.invokestatic 136, 3) := by decide +kernel
theorem dX6_keys_5 : decode cX6_keys 5 = .ok (.iconst 1, 1) := by decide +kernel
theorem dX6_keys_6 : decode cX6_keys 6 = .ok (.iconst 1, 1) := by decide +kernel
theorem dX6_keys_7 : decode cX6_keys 7 = .ok (.invokevirtual 132, 3) := by decide +kernel
theorem dX6_keys_10 : decode cX6_keys 10 = .ok (.ifCond .eq 12, 3) := by decide +kernel
theorem dX6_keys_13 : decode cX6_keys 13 = .ok (.aload_n 0, 1) := by decide +kernel
theorem dX6_keys_14 : decode cX6_keys 14 = .ok (.getfield 59, 3) := by decide +kernel
theorem dX6_keys_17 : decode cX6_keys 17 = .ok (.iload_n 1, 1) := by decide +kernel
theorem dX6_keys_18 : decode cX6_keys 18 = .ok (.iaload, 1) := by decide +kernel
theorem dX6_keys_19 : decode cX6_keys 19 = .ok (.ifCond .eq 18, 3) := by decide +kernel
theorem dX6_keys_22 : decode cX6_keys 22 = .ok (.aload_n 0, 1) := by decide +kernel
theorem dX6_keys_23 : decode cX6_keys 23 = .ok (.getfield 111, 3) := by decide +kernel
theorem dX6_keys_26 : decode cX6_keys 26 = .ok (.ifCond .ne 9, 3) := by decide +kernel
theorem dX6_keys_29 : decode cX6_keys 29 = .ok (.ldc2_w 301, 3) := by decide +kernel
theorem dX6_keys_32 : decode cX6_keys 32 = .ok (.goto 4, 3) := by decide +kernel
theorem dX6_keys_35 : decode cX6_keys 35 = .ok (.lconst 0, 1) := by decide +kernel
theorem dX6_keys_36 : decode cX6_keys 36 = .ok (.lreturn, 1) := by decide +kernel
theorem dX6_keys_37 : decode cX6_keys 37 = .ok (.lconst 0, 1) := by decide +kernel
theorem dX6_keys_38 : decode cX6_keys 38 = .ok (.lstore_n 2, 1) := by decide +kernel
theorem dX6_keys_39 : decode cX6_keys 39 = .ok (.iconst 1, 1) := by decide +kernel
theorem dX6_keys_40 : decode cX6_keys 40 = .ok (.istore 4, 2) := by decide +kernel
theorem dX6_keys_42 : decode cX6_keys 42 = .ok (.iload 4, 2) := by decide +kernel
theorem dX6_keys_44 : decode cX6_keys 44 = .ok (.aload_n 0, 1) := by decide +kernel
theorem dX6_keys_45 : decode cX6_keys 45 = .ok (.getfield 22, 3) := by decide +kernel
theorem dX6_keys_48 : decode cX6_keys 48 = .ok (.aload_n 0, 1) := by decide +kernel
theorem dX6_keys_49 : decode cX6_keys 49 = .ok (.getfield 34, 3) := by decide +kernel
theorem dX6_keys_52 : decode cX6_keys 52 = .ok (.aload_n 0, 1) := by decide +kernel
theorem dX6_keys_53 : decode cX6_keys 53 = .ok (.getfield 62, 3) := by decide +kernel
theorem dX6_keys_56 : decode cX6_keys 56 = .ok (.iload_n 1, 1) := by decide +kernel
theorem dX6_keys_57 : decode cX6_keys 57 = .ok (.iaload, 1) := by decide +kernel
theorem dX6_keys_58 : decode cX6_keys 58 = .ok (.iaload, 1) := by decide +kernel
theorem dX6_keys_59 : decode cX6_keys 59 = .ok (.iaload, 1) := by decide +kernel
theorem dX6_keys_60 : decode cX6_keys 60 = .ok (.if_icmp .gt 60, 3) := by decide +kernel
theorem dX6_keys_63 : decode cX6_keys 63 = .ok (.aload_n 0, 1) := by decide +kernel
theorem dX6_keys_64 : decode cX6_keys 64 = .ok (.getfield 62, 3) := by decide +kernel
theorem dX6_keys_67 : decode cX6_keys 67 = .ok (.iload_n 1, 1) := by decide +kernel
theorem dX6_keys_68 : decode cX6_keys 68 = .ok (.iaload, 1) := by decide +kernel
theorem dX6_keys_69 : decode cX6_keys 69 = .ok (.istore 5, 2) := by decide +kernel
theorem dX6_keys_71 : decode cX6_keys 71 = .ok (.aload_n 0, 1) := by decide +kernel
theorem dX6_keys_72 : decode cX6_keys 72 = .ok (.getfield 22, 3) := by decide +kernel
theorem dX6_keys_75 : decode cX6_keys 75 = .ok (.aload_n 0, 1) := by decide +kernel
theorem dX6_keys_76 : decode cX6_keys 76 = .ok (.getfield 34, 3) := by decide +kernel
theorem dX6_keys_79 : decode cX6_keys 79 = .ok (.iload 5, 2) := by decide +kernel
theorem dX6_keys_81 : decode cX6_keys 81 = .ok (.iaload, 1) := by decide +kernel
theorem dX6_keys_82 : decode cX6_keys 82 = .ok (.iaload, 1) := by decide +kernel
theorem dX6_keys_83 : decode cX6_keys 83 = .ok (.iload 4, 2) := by decide +kernel
theorem dX6_keys_85 : decode cX6_keys 85 = .ok (.if_icmp .le 15, 3) := by decide +kernel
theorem dX6_keys_88 : decode cX6_keys 88 = .ok (.aload_n 0, 1) := by decide +kernel
theorem dX6_keys_89 : decode cX6_keys 89 = .ok (.getfield 37, 3) := by decide +kernel
theorem dX6_keys_92 : decode cX6_keys 92 = .ok (.iload 5, 2) := by decide +kernel
theorem dX6_keys_94 : decode cX6_keys 94 = .ok (.iaload, 1) := by decide +kernel
theorem dX6_keys_95 : decode cX6_keys 95 = .ok (.istore 5, 2) := by decide +kernel
theorem dX6_keys_97 : decode cX6_keys 97 = .ok (.goto (-26), 3) := by decide +kernel
theorem dX6_keys_100 : decode cX6_keys 100 = .ok (.ldc2_w 303, 3) := by decide +kernel
theorem dX6_keys_103 : decode cX6_keys 103 = .ok (.lload_n 2, 1) := by decide +kernel
theorem dX6_keys_104 : decode cX6_keys 104 = .ok (.lmul, 1) := by decide +kernel
theorem dX6_keys_105 : decode cX6_keys 105 = .ok (.aload_n 0, 1) := by decide +kernel
theorem dX6_keys_106 : decode cX6_keys 106 = .ok (.iload 5, 2) := by decide +kernel
theorem dX6_keys_108 : decode cX6_keys 108 = .ok (.invokevirtual 161, 3) := by decide +kernel
theorem dX6_keys_111 : decode cX6_keys 111 = .ok (.i2l, 1) := by decide +kernel
theorem dX6_keys_112 : decode cX6_keys 112 = .ok (.ladd, 1) := by decide +kernel
theorem dX6_keys_113 : decode cX6_keys 113 = .ok (.lstore_n 2, 1) := by decide +kernel
theorem dX6_keys_114 : decode cX6_keys 114 = .ok (.iinc 4 1, 3) := by decide +kernel
theorem dX6_keys_117 : decode cX6_keys 117 = .ok (.goto (-75), 3) := by decide +kernel
theorem dX6_keys_120 : decode cX6_keys 120 = .ok (.lload_n 2, 1) := by decide +kernel
theorem dX6_keys_121 : decode cX6_keys 121 = .ok (.lreturn, 1) := by decide +kernel
theorem dX6_second_0 : decode cX6_second 0 = .ok (.aload_n 0, 1) := by decide +kernel
theorem dX6_second_1 : decode cX6_second 1 = .ok (.iload_n 1, 1) := by decide +kernel
theorem dX6_second_2 : decode cX6_second 2 = .ok (.invokestatic 136, 3) := by decide +kernel
theorem dX6_second_5 : decode cX6_second 5 = .ok (.iconst 1, 1) := by decide +kernel
theorem dX6_second_6 : decode cX6_second 6 = .ok (.iconst 1, 1) := by decide +kernel
theorem dX6_second_7 : decode cX6_second 7 = .ok (.invokevirtual 132, 3) := by decide +kernel
theorem dX6_second_10 : decode cX6_second 10 = .ok (.ifCond .eq 12, 3) := by decide +kernel
theorem dX6_second_13 : decode cX6_second 13 = .ok (.aload_n 0, 1) := by decide +kernel
theorem dX6_second_14 : decode cX6_second 14 = .ok (.getfield 59, 3) := by decide +kernel
theorem dX6_second_17 : decode cX6_second 17 = .ok (.iload_n 1, 1) := by decide +kernel
theorem dX6_second_18 : decode cX6_second 18 = .ok (.iaload, 1) := by decide +kernel
theorem dX6_second_19 : decode cX6_second 19 = .ok (.ifCond .eq 16, 3) := by decide +kernel
theorem dX6_second_22 : decode cX6_second 22 = .ok (.aload_n 0, 1) := by decide +kernel
theorem dX6_second_23 : decode cX6_second 23 = .ok (.getfield 111, 3) := by decide +kernel
theorem dX6_second_26 : decode cX6_second 26 = .ok (.ifCond .ne 7, 3) := by decide +kernel
theorem dX6_second_29 : decode cX6_second 29 = .ok (.iconst (-1), 1) := by decide +kernel
theorem dX6_second_30 : decode cX6_second 30 = .ok (.goto 4, 3) := by decide +kernel
theorem dX6_second_33 : decode cX6_second 33 = .ok (.iconst 0, 1) := by decide +kernel
theorem dX6_second_34 : decode cX6_second 34 = .ok (.ireturn, 1) := by decide +kernel
theorem dX6_second_35 : decode cX6_second 35 = .ok (.aload_n 0, 1) := by decide +kernel
theorem dX6_second_36 : decode cX6_second 36 = .ok (.aload_n 0, 1) := by decide +kernel
theorem dX6_second_37 : decode cX6_second 37 = .ok (.getfield 62, 3) := by decide +kernel
theorem dX6_second_40 : decode cX6_second 40 = .ok (.iload_n 1, 1) := by decide +kernel
theorem dX6_second_41 : decode cX6_second 41 = .ok (.iaload, 1) := by decide +kernel
theorem dX6_second_42 : decode cX6_second 42 = .ok (.invokevirtual 280, 3) := by decide +kernel
theorem dX6_second_45 : decode cX6_second 45 = .ok (.istore_n 2, 1) := by decide +kernel
theorem dX6_second_46 : decode cX6_second 46 = .ok (.iload_n 2, 1) := by decide +kernel
theorem dX6_second_47 : decode cX6_second 47 = .ok (.iconst (-1), 1) := by decide +kernel
theorem dX6_second_48 : decode cX6_second 48 = .ok (.if_icmp .ne 7, 3) := by decide +kernel
theorem dX6_second_51 : decode cX6_second 51 = .ok (.iconst (-1), 1) := by decide +kernel
theorem dX6_second_52 : decode cX6_second 52 = .ok (.goto 8, 3) := by decide +kernel
theorem dX6_second_55 : decode cX6_second 55 = .ok (.aload_n 0, 1) := by decide +kernel
theorem dX6_second_56 : decode cX6_second 56 = .ok (.iload_n 2, 1) := by decide +kernel
theorem dX6_second_57 : decode cX6_second 57 = .ok (.invokevirtual 167, 3) := by decide +kernel
theorem dX6_second_60 : decode cX6_second 60 = .ok (.ireturn, 1) := by decide +kernel
theorem dX6_tied_0 : decode cX6_tied 0 = .ok (.iconst 0, 1) := by decide +kernel
theorem dX6_tied_1 : decode cX6_tied 1 = .ok (.istore_n 2, 1) := by decide +kernel
theorem dX6_tied_2 : decode cX6_tied 2 = .ok (.aload_n 0, 1) := by decide +kernel
theorem dX6_tied_3 : decode cX6_tied 3 = .ok (.iload_n 1, 1) := by decide +kernel
theorem dX6_tied_4 : decode cX6_tied 4 = .ok (.invokestatic 136, 3) := by decide +kernel
theorem dX6_tied_7 : decode cX6_tied 7 = .ok (.iconst 1, 1) := by decide +kernel
theorem dX6_tied_8 : decode cX6_tied 8 = .ok (.iconst 1, 1) := by decide +kernel
theorem dX6_tied_9 : decode cX6_tied 9 = .ok (.invokevirtual 132, 3) := by decide +kernel
theorem dX6_tied_12 : decode cX6_tied 12 = .ok (.ifCond .eq 16, 3) := by decide +kernel
theorem dX6_tied_15 : decode cX6_tied 15 = .ok (.aload_n 0, 1) := by decide +kernel
theorem dX6_tied_16 : decode cX6_tied 16 = .ok (.getfield 59, 3) := by decide +kernel
theorem dX6_tied_19 : decode cX6_tied 19 = .ok (.iload_n 1, 1) := by decide +kernel
theorem dX6_tied_20 : decode cX6_tied 20 = .ok (.iaload, 1) := by decide +kernel
theorem dX6_tied_21 : decode cX6_tied 21 = .ok (.ifCond .ne 7, 3) := by decide +kernel
theorem dX6_tied_24 : decode cX6_tied 24 = .ok (.iconst 1, 1) := by decide +kernel
theorem dX6_tied_25 : decode cX6_tied 25 = .ok (.goto 4, 3) := by decide +kernel
theorem dX6_tied_28 : decode cX6_tied 28 = .ok (.iconst 0, 1) := by decide +kernel
theorem dX6_tied_29 : decode cX6_tied 29 = .ok (.istore_n 3, 1) := by decide +kernel
theorem dX6_tied_30 : decode cX6_tied 30 = .ok (.iconst 0, 1) := by decide +kernel
theorem dX6_tied_31 : decode cX6_tied 31 = .ok (.istore 4, 2) := by decide +kernel
theorem dX6_tied_33 : decode cX6_tied 33 = .ok (.iload 4, 2) := by decide +kernel
theorem dX6_tied_35 : decode cX6_tied 35 = .ok (.bipush 60, 2) := by decide +kernel
theorem dX6_tied_37 : decode cX6_tied 37 = .ok (.if_icmp .ge 63, 3) := by decide +kernel
theorem dX6_tied_40 : decode cX6_tied 40 = .ok (.iload_n 3, 1) := by decide +kernel
theorem dX6_tied_41 : decode cX6_tied 41 = .ok (.ifCond .eq 59, 3) := by decide +kernel
theorem dX6_tied_44 : decode cX6_tied 44 = .ok (.iload_n 2, 1) := by decide +kernel
theorem dX6_tied_45 : decode cX6_tied 45 = .ok (.aload_n 0, 1) := by decide +kernel
theorem dX6_tied_46 : decode cX6_tied 46 = .ok (.getfield 34, 3) := by decide +kernel
theorem dX6_tied_49 : decode cX6_tied 49 = .ok (.iload 4, 2) := by decide +kernel
theorem dX6_tied_51 : decode cX6_tied 51 = .ok (.iaload, 1) := by decide +kernel
theorem dX6_tied_52 : decode cX6_tied 52 = .ok (.iconst (-1), 1) := by decide +kernel
theorem dX6_tied_53 : decode cX6_tied 53 = .ok (.if_icmp .eq 38, 3) := by decide +kernel
theorem dX6_tied_56 : decode cX6_tied 56 = .ok (.aload_n 0, 1) := by decide +kernel
theorem dX6_tied_57 : decode cX6_tied 57 = .ok (.getfield 25, 3) := by decide +kernel
theorem dX6_tied_60 : decode cX6_tied 60 = .ok (.aload_n 0, 1) := by decide +kernel
theorem dX6_tied_61 : decode cX6_tied 61 = .ok (.getfield 34, 3) := by decide +kernel
theorem dX6_tied_64 : decode cX6_tied 64 = .ok (.iload 4, 2) := by decide +kernel
theorem dX6_tied_66 : decode cX6_tied 66 = .ok (.iaload, 1) := by decide +kernel
theorem dX6_tied_67 : decode cX6_tied 67 = .ok (.iaload, 1) := by decide +kernel
theorem dX6_tied_68 : decode cX6_tied 68 = .ok (.iconst (-1), 1) := by decide +kernel
theorem dX6_tied_69 : decode cX6_tied 69 = .ok (.if_icmp .eq 22, 3) := by decide +kernel
theorem dX6_tied_72 : decode cX6_tied 72 = .ok (.aload_n 0, 1) := by decide +kernel
theorem dX6_tied_73 : decode cX6_tied 73 = .ok (.iload 4, 2) := by decide +kernel
theorem dX6_tied_75 : decode cX6_tied 75 = .ok (.invokevirtual 280, 3) := by decide +kernel
theorem dX6_tied_78 : decode cX6_tied 78 = .ok (.aload_n 0, 1) := by decide +kernel
theorem dX6_tied_79 : decode cX6_tied 79 = .ok (.getfield 62, 3) := by decide +kernel
theorem dX6_tied_82 : decode cX6_tied 82 = .ok (.iload_n 1, 1) := by decide +kernel
theorem dX6_tied_83 : decode cX6_tied 83 = .ok (.iaload, 1) := by decide +kernel
theorem dX6_tied_84 : decode cX6_tied 84 = .ok (.if_icmp .ne 7, 3) := by decide +kernel
theorem dX6_tied_87 : decode cX6_tied 87 = .ok (.iconst 1, 1) := by decide +kernel
theorem dX6_tied_88 : decode cX6_tied 88 = .ok (.goto 4, 3) := by decide +kernel
theorem dX6_tied_91 : decode cX6_tied 91 = .ok (.iconst 0, 1) := by decide +kernel
theorem dX6_tied_92 : decode cX6_tied 92 = .ok (.iadd, 1) := by decide +kernel
theorem dX6_tied_93 : decode cX6_tied 93 = .ok (.istore_n 2, 1) := by decide +kernel
theorem dX6_tied_94 : decode cX6_tied 94 = .ok (.iinc 4 1, 3) := by decide +kernel
theorem dX6_tied_97 : decode cX6_tied 97 = .ok (.goto (-64), 3) := by decide +kernel
theorem dX6_tied_100 : decode cX6_tied 100 = .ok (.iload_n 2, 1) := by decide +kernel
theorem dX6_tied_101 : decode cX6_tied 101 = .ok (.ireturn, 1) := by decide +kernel
theorem dJ9_max_7cf53_0 : decode cJ9_max_7cf53 0 = .ok (.iload_n 0, 1) := by decide +kernel
theorem dJ9_max_7cf53_1 : decode cJ9_max_7cf53 1 = .ok (.iload_n 1, 1) := by decide +kernel
theorem dJ9_max_7cf53_2 : decode cJ9_max_7cf53 2 = .ok (.if_icmp .lt 7, 3) := by decide +kernel
theorem dJ9_max_7cf53_5 : decode cJ9_max_7cf53 5 = .ok (.iload_n 0, 1) := by decide +kernel
theorem dJ9_max_7cf53_6 : decode cJ9_max_7cf53 6 = .ok (.goto 4, 3) := by decide +kernel
theorem dJ9_max_7cf53_9 : decode cJ9_max_7cf53 9 = .ok (.iload_n 1, 1) := by decide +kernel
theorem dJ9_max_7cf53_10 : decode cJ9_max_7cf53 10 = .ok (.ireturn, 1) := by decide +kernel
theorem dL_type_0 : decode cL_type 0 = .ok (.aload 5, 2) := by decide +kernel
theorem dL_type_2 : decode cL_type 2 = .ok (.iconst 0, 1) := by decide +kernel
theorem dL_type_3 : decode cL_type 3 = .ok (.aload_n 0, 1) := by decide +kernel
theorem dL_type_4 : decode cL_type 4 = .ok (.iload_n 1, 1) := by decide +kernel
theorem dL_type_5 : decode cL_type 5 = .ok (.iload_n 2, 1) := by decide +kernel
theorem dL_type_6 : decode cL_type 6 = .ok (.iload_n 3, 1) := by decide +kernel
theorem dL_type_7 : decode cL_type 7 = .ok (.iload 4, 2) := by decide +kernel
theorem dL_type_9 : decode cL_type 9 = .ok (.invokevirtual 7, 3) := by decide +kernel
theorem dL_type_12 : decode cL_type 12 = .ok (.i2l, 1) := by decide +kernel
theorem dL_type_13 : decode cL_type 13 = .ok (.lastore, 1) := by decide +kernel
theorem dL_type_14 : decode cL_type 14 = .ok (.goto 15, 3) := by decide +kernel
theorem dL_type_17 : decode cL_type 17 = .ok (.astore 6, 2) := by decide +kernel
theorem dL_type_19 : decode cL_type 19 = .ok (.iconst 1, 1) := by decide +kernel
theorem dL_type_20 : decode cL_type 20 = .ok (.ireturn, 1) := by decide +kernel
theorem dL_type_21 : decode cL_type 21 = .ok (.astore 6, 2) := by decide +kernel
theorem dL_type_23 : decode cL_type 23 = .ok (.iconst 2, 1) := by decide +kernel
theorem dL_type_24 : decode cL_type 24 = .ok (.ireturn, 1) := by decide +kernel
theorem dL_type_25 : decode cL_type 25 = .ok (.astore 6, 2) := by decide +kernel
theorem dL_type_27 : decode cL_type 27 = .ok (.iconst 3, 1) := by decide +kernel
theorem dL_type_28 : decode cL_type 28 = .ok (.ireturn, 1) := by decide +kernel
theorem dL_type_29 : decode cL_type 29 = .ok (.iconst 0, 1) := by decide +kernel
theorem dL_type_30 : decode cL_type 30 = .ok (.ireturn, 1) := by decide +kernel
theorem dL_tie_0 : decode cL_tie 0 = .ok (.aload_n 0, 1) := by decide +kernel
theorem dL_tie_1 : decode cL_tie 1 = .ok (.iload_n 1, 1) := by decide +kernel
theorem dL_tie_2 : decode cL_tie 2 = .ok (.iload_n 2, 1) := by decide +kernel
theorem dL_tie_3 : decode cL_tie 3 = .ok (.iload_n 3, 1) := by decide +kernel
theorem dL_tie_4 : decode cL_tie 4 = .ok (.iload 4, 2) := by decide +kernel
theorem dL_tie_6 : decode cL_tie 6 = .ok (.invokevirtual 19, 3) := by decide +kernel
theorem dL_tie_9 : decode cL_tie 9 = .ok (.goto 15, 3) := by decide +kernel
theorem dL_tie_12 : decode cL_tie 12 = .ok (.astore 5, 2) := by decide +kernel
theorem dL_tie_14 : decode cL_tie 14 = .ok (.iconst 1, 1) := by decide +kernel
theorem dL_tie_15 : decode cL_tie 15 = .ok (.ireturn, 1) := by decide +kernel
theorem dL_tie_16 : decode cL_tie 16 = .ok (.astore 5, 2) := by decide +kernel
theorem dL_tie_18 : decode cL_tie 18 = .ok (.iconst 2, 1) := by decide +kernel
theorem dL_tie_19 : decode cL_tie 19 = .ok (.ireturn, 1) := by decide +kernel
theorem dL_tie_20 : decode cL_tie 20 = .ok (.astore 5, 2) := by decide +kernel
theorem dL_tie_22 : decode cL_tie 22 = .ok (.iconst 3, 1) := by decide +kernel
theorem dL_tie_23 : decode cL_tie 23 = .ok (.ireturn, 1) := by decide +kernel
theorem dL_tie_24 : decode cL_tie 24 = .ok (.iconst 0, 1) := by decide +kernel
theorem dL_tie_25 : decode cL_tie 25 = .ok (.ireturn, 1) := by decide +kernel
theorem dL_open_0 : decode cL_open 0 = .ok (.aload_n 0, 1) := by decide +kernel
theorem dL_open_1 : decode cL_open 1 = .ok (.iload_n 1, 1) := by decide +kernel
theorem dL_open_2 : decode cL_open 2 = .ok (.iload_n 2, 1) := by decide +kernel
theorem dL_open_3 : decode cL_open 3 = .ok (.iload_n 3, 1) := by decide +kernel
theorem dL_open_4 : decode cL_open 4 = .ok (.invokevirtual 23, 3) := by decide +kernel
theorem dL_open_7 : decode cL_open 7 = .ok (.goto 11, 3) := by decide +kernel
theorem dL_open_10 : decode cL_open 10 = .ok (.astore 4, 2) := by decide +kernel
theorem dL_open_12 : decode cL_open 12 = .ok (.iconst 1, 1) := by decide +kernel
theorem dL_open_13 : decode cL_open 13 = .ok (.ireturn, 1) := by decide +kernel
theorem dL_open_14 : decode cL_open 14 = .ok (.astore 4, 2) := by decide +kernel
theorem dL_open_16 : decode cL_open 16 = .ok (.iconst 2, 1) := by decide +kernel
theorem dL_open_17 : decode cL_open 17 = .ok (.ireturn, 1) := by decide +kernel
theorem dL_open_18 : decode cL_open 18 = .ok (.iconst 0, 1) := by decide +kernel
theorem dL_open_19 : decode cL_open 19 = .ok (.ireturn, 1) := by decide +kernel
theorem dL_argument_0 : decode cL_argument 0 = .ok (.aload_n 3, 1) := by decide +kernel
theorem dL_argument_1 : decode cL_argument 1 = .ok (.iconst 0, 1) := by decide +kernel
theorem dL_argument_2 : decode cL_argument 2 = .ok (.aload_n 0, 1) := by decide +kernel
theorem dL_argument_3 : decode cL_argument 3 = .ok (.iload_n 1, 1) := by decide +kernel
theorem dL_argument_4 : decode cL_argument 4 = .ok (.iload_n 2, 1) := by decide +kernel
theorem dL_argument_5 : decode cL_argument 5 = .ok (.invokevirtual 27, 3) := by decide +kernel
theorem dL_argument_8 : decode cL_argument 8 = .ok (.i2l, 1) := by decide +kernel
theorem dL_argument_9 : decode cL_argument 9 = .ok (.lastore, 1) := by decide +kernel
theorem dL_argument_10 : decode cL_argument 10 = .ok (.goto 15, 3) := by decide +kernel
theorem dL_argument_13 : decode cL_argument 13 = .ok (.astore 4, 2) := by decide +kernel
theorem dL_argument_15 : decode cL_argument 15 = .ok (.iconst 1, 1) := by decide +kernel
theorem dL_argument_16 : decode cL_argument 16 = .ok (.ireturn, 1) := by decide +kernel
theorem dL_argument_17 : decode cL_argument 17 = .ok (.astore 4, 2) := by decide +kernel
theorem dL_argument_19 : decode cL_argument 19 = .ok (.iconst 2, 1) := by decide +kernel
theorem dL_argument_20 : decode cL_argument 20 = .ok (.ireturn, 1) := by decide +kernel
theorem dL_argument_21 : decode cL_argument 21 = .ok (.astore 4, 2) := by decide +kernel
theorem dL_argument_23 : decode cL_argument 23 = .ok (.iconst 3, 1) := by decide +kernel
theorem dL_argument_24 : decode cL_argument 24 = .ok (.ireturn, 1) := by decide +kernel
theorem dL_argument_25 : decode cL_argument 25 = .ok (.iconst 0, 1) := by decide +kernel
theorem dL_argument_26 : decode cL_argument 26 = .ok (.ireturn, 1) := by decide +kernel
theorem dL_condition_0 : decode cL_condition 0 = .ok (.aload 5, 2) := by decide +kernel
theorem dL_condition_2 : decode cL_condition 2 = .ok (.iconst 0, 1) := by decide +kernel
theorem dL_condition_3 : decode cL_condition 3 = .ok (.aload_n 0, 1) := by decide +kernel
theorem dL_condition_4 : decode cL_condition 4 = .ok (.iload_n 1, 1) := by decide +kernel
theorem dL_condition_5 : decode cL_condition 5 = .ok (.iload_n 2, 1) := by decide +kernel
theorem dL_condition_6 : decode cL_condition 6 = .ok (.iload_n 3, 1) := by decide +kernel
theorem dL_condition_7 : decode cL_condition 7 = .ok (.iload 4, 2) := by decide +kernel
theorem dL_condition_9 : decode cL_condition 9 = .ok (.invokevirtual 31, 3) := by decide +kernel
theorem dL_condition_12 : decode cL_condition 12 = .ok (.i2l, 1) := by decide +kernel
theorem dL_condition_13 : decode cL_condition 13 = .ok (.lastore, 1) := by decide +kernel
theorem dL_condition_14 : decode cL_condition 14 = .ok (.goto 15, 3) := by decide +kernel
theorem dL_condition_17 : decode cL_condition 17 = .ok (.astore 6, 2) := by decide +kernel
theorem dL_condition_19 : decode cL_condition 19 = .ok (.iconst 1, 1) := by decide +kernel
theorem dL_condition_20 : decode cL_condition 20 = .ok (.ireturn, 1) := by decide +kernel
theorem dL_condition_21 : decode cL_condition 21 = .ok (.astore 6, 2) := by decide +kernel
theorem dL_condition_23 : decode cL_condition 23 = .ok (.iconst 2, 1) := by decide +kernel
theorem dL_condition_24 : decode cL_condition 24 = .ok (.ireturn, 1) := by decide +kernel
theorem dL_condition_25 : decode cL_condition 25 = .ok (.astore 6, 2) := by decide +kernel
theorem dL_condition_27 : decode cL_condition 27 = .ok (.iconst 3, 1) := by decide +kernel
theorem dL_condition_28 : decode cL_condition 28 = .ok (.ireturn, 1) := by decide +kernel
theorem dL_condition_29 : decode cL_condition 29 = .ok (.iconst 0, 1) := by decide +kernel
theorem dL_condition_30 : decode cL_condition 30 = .ok (.ireturn, 1) := by decide +kernel
theorem dL_put_0 : decode cL_put 0 = .ok (.aload 4, 2) := by decide +kernel
theorem dL_put_2 : decode cL_put 2 = .ok (.iconst 0, 1) := by decide +kernel
theorem dL_put_3 : decode cL_put 3 = .ok (.aload_n 0, 1) := by decide +kernel
theorem dL_put_4 : decode cL_put 4 = .ok (.iload_n 1, 1) := by decide +kernel
theorem dL_put_5 : decode cL_put 5 = .ok (.iload_n 2, 1) := by decide +kernel
theorem dL_put_6 : decode cL_put 6 = .ok (.iload_n 3, 1) := by decide +kernel
theorem dL_put_7 : decode cL_put 7 = .ok (.invokevirtual 35, 3) := by decide +kernel
theorem dL_put_10 : decode cL_put 10 = .ok (.i2l, 1) := by decide +kernel
theorem dL_put_11 : decode cL_put 11 = .ok (.lastore, 1) := by decide +kernel
theorem dL_put_12 : decode cL_put 12 = .ok (.goto 11, 3) := by decide +kernel
theorem dL_put_15 : decode cL_put 15 = .ok (.astore 5, 2) := by decide +kernel
theorem dL_put_17 : decode cL_put 17 = .ok (.iconst 1, 1) := by decide +kernel
theorem dL_put_18 : decode cL_put 18 = .ok (.ireturn, 1) := by decide +kernel
theorem dL_put_19 : decode cL_put 19 = .ok (.astore 5, 2) := by decide +kernel
theorem dL_put_21 : decode cL_put 21 = .ok (.iconst 2, 1) := by decide +kernel
theorem dL_put_22 : decode cL_put 22 = .ok (.ireturn, 1) := by decide +kernel
theorem dL_put_23 : decode cL_put 23 = .ok (.iconst 0, 1) := by decide +kernel
theorem dL_put_24 : decode cL_put 24 = .ok (.ireturn, 1) := by decide +kernel
theorem dL_area_0 : decode cL_area 0 = .ok (.aload_n 3, 1) := by decide +kernel
theorem dL_area_1 : decode cL_area 1 = .ok (.iconst 0, 1) := by decide +kernel
theorem dL_area_2 : decode cL_area 2 = .ok (.aload_n 0, 1) := by decide +kernel
theorem dL_area_3 : decode cL_area 3 = .ok (.iload_n 1, 1) := by decide +kernel
theorem dL_area_4 : decode cL_area 4 = .ok (.iload_n 2, 1) := by decide +kernel
theorem dL_area_5 : decode cL_area 5 = .ok (.invokevirtual 39, 3) := by decide +kernel
theorem dL_area_8 : decode cL_area 8 = .ok (.i2l, 1) := by decide +kernel
theorem dL_area_9 : decode cL_area 9 = .ok (.lastore, 1) := by decide +kernel
theorem dL_area_10 : decode cL_area 10 = .ok (.goto 7, 3) := by decide +kernel
theorem dL_area_13 : decode cL_area 13 = .ok (.astore 4, 2) := by decide +kernel
theorem dL_area_15 : decode cL_area 15 = .ok (.iconst 1, 1) := by decide +kernel
theorem dL_area_16 : decode cL_area 16 = .ok (.ireturn, 1) := by decide +kernel
theorem dL_area_17 : decode cL_area 17 = .ok (.iconst 0, 1) := by decide +kernel
theorem dL_area_18 : decode cL_area 18 = .ok (.ireturn, 1) := by decide +kernel
theorem dL_get_0 : decode cL_get 0 = .ok (.aload 4, 2) := by decide +kernel
theorem dL_get_2 : decode cL_get 2 = .ok (.iconst 0, 1) := by decide +kernel
theorem dL_get_3 : decode cL_get 3 = .ok (.aload_n 0, 1) := by decide +kernel
theorem dL_get_4 : decode cL_get 4 = .ok (.iload_n 1, 1) := by decide +kernel
theorem dL_get_5 : decode cL_get 5 = .ok (.iload_n 2, 1) := by decide +kernel
theorem dL_get_6 : decode cL_get 6 = .ok (.iload_n 3, 1) := by decide +kernel
theorem dL_get_7 : decode cL_get 7 = .ok (.invokevirtual 42, 3) := by decide +kernel
theorem dL_get_10 : decode cL_get 10 = .ok (.i2l, 1) := by decide +kernel
theorem dL_get_11 : decode cL_get 11 = .ok (.lastore, 1) := by decide +kernel
theorem dL_get_12 : decode cL_get 12 = .ok (.goto 11, 3) := by decide +kernel
theorem dL_get_15 : decode cL_get 15 = .ok (.astore 5, 2) := by decide +kernel
theorem dL_get_17 : decode cL_get 17 = .ok (.iconst 1, 1) := by decide +kernel
theorem dL_get_18 : decode cL_get 18 = .ok (.ireturn, 1) := by decide +kernel
theorem dL_get_19 : decode cL_get 19 = .ok (.astore 5, 2) := by decide +kernel
theorem dL_get_21 : decode cL_get 21 = .ok (.iconst 2, 1) := by decide +kernel
theorem dL_get_22 : decode cL_get 22 = .ok (.ireturn, 1) := by decide +kernel
theorem dL_get_23 : decode cL_get 23 = .ok (.iconst 0, 1) := by decide +kernel
theorem dL_get_24 : decode cL_get 24 = .ok (.ireturn, 1) := by decide +kernel
theorem dL_insert_0 : decode cL_insert 0 = .ok (.aload_n 2, 1) := by decide +kernel
theorem dL_insert_1 : decode cL_insert 1 = .ok (.iconst 0, 1) := by decide +kernel
theorem dL_insert_2 : decode cL_insert 2 = .ok (.aload_n 0, 1) := by decide +kernel
theorem dL_insert_3 : decode cL_insert 3 = .ok (.iload_n 1, 1) := by decide +kernel
theorem dL_insert_4 : decode cL_insert 4 = .ok (.invokevirtual 46, 3) := by decide +kernel
theorem dL_insert_7 : decode cL_insert 7 = .ok (.i2l, 1) := by decide +kernel
theorem dL_insert_8 : decode cL_insert 8 = .ok (.lastore, 1) := by decide +kernel
theorem dL_insert_9 : decode cL_insert 9 = .ok (.goto 6, 3) := by decide +kernel
theorem dL_insert_12 : decode cL_insert 12 = .ok (.astore_n 3, 1) := by decide +kernel
theorem dL_insert_13 : decode cL_insert 13 = .ok (.iconst 1, 1) := by decide +kernel
theorem dL_insert_14 : decode cL_insert 14 = .ok (.ireturn, 1) := by decide +kernel
theorem dL_insert_15 : decode cL_insert 15 = .ok (.iconst 0, 1) := by decide +kernel
theorem dL_insert_16 : decode cL_insert 16 = .ok (.ireturn, 1) := by decide +kernel
theorem dL_replace_0 : decode cL_replace 0 = .ok (.aload_n 2, 1) := by decide +kernel
theorem dL_replace_1 : decode cL_replace 1 = .ok (.iconst 0, 1) := by decide +kernel
theorem dL_replace_2 : decode cL_replace 2 = .ok (.aload_n 0, 1) := by decide +kernel
theorem dL_replace_3 : decode cL_replace 3 = .ok (.iload_n 1, 1) := by decide +kernel
theorem dL_replace_4 : decode cL_replace 4 = .ok (.invokevirtual 50, 3) := by decide +kernel
theorem dL_replace_7 : decode cL_replace 7 = .ok (.i2l, 1) := by decide +kernel
theorem dL_replace_8 : decode cL_replace 8 = .ok (.lastore, 1) := by decide +kernel
theorem dL_replace_9 : decode cL_replace 9 = .ok (.goto 6, 3) := by decide +kernel
theorem dL_replace_12 : decode cL_replace 12 = .ok (.astore_n 3, 1) := by decide +kernel
theorem dL_replace_13 : decode cL_replace 13 = .ok (.iconst 1, 1) := by decide +kernel
theorem dL_replace_14 : decode cL_replace 14 = .ok (.ireturn, 1) := by decide +kernel
theorem dL_replace_15 : decode cL_replace 15 = .ok (.iconst 0, 1) := by decide +kernel
theorem dL_replace_16 : decode cL_replace 16 = .ok (.ireturn, 1) := by decide +kernel
theorem dL_delete_0 : decode cL_delete 0 = .ok (.aload_n 2, 1) := by decide +kernel
theorem dL_delete_1 : decode cL_delete 1 = .ok (.iconst 0, 1) := by decide +kernel
theorem dL_delete_2 : decode cL_delete 2 = .ok (.aload_n 0, 1) := by decide +kernel
theorem dL_delete_3 : decode cL_delete 3 = .ok (.iload_n 1, 1) := by decide +kernel
theorem dL_delete_4 : decode cL_delete 4 = .ok (.invokevirtual 53, 3) := by decide +kernel
theorem dL_delete_7 : decode cL_delete 7 = .ok (.i2l, 1) := by decide +kernel
theorem dL_delete_8 : decode cL_delete 8 = .ok (.lastore, 1) := by decide +kernel
theorem dL_delete_9 : decode cL_delete 9 = .ok (.goto 6, 3) := by decide +kernel
theorem dL_delete_12 : decode cL_delete 12 = .ok (.astore_n 3, 1) := by decide +kernel
theorem dL_delete_13 : decode cL_delete 13 = .ok (.iconst 1, 1) := by decide +kernel
theorem dL_delete_14 : decode cL_delete 14 = .ok (.ireturn, 1) := by decide +kernel
theorem dL_delete_15 : decode cL_delete 15 = .ok (.iconst 0, 1) := by decide +kernel
theorem dL_delete_16 : decode cL_delete 16 = .ok (.ireturn, 1) := by decide +kernel
theorem dL_count_0 : decode cL_count 0 = .ok (.aload_n 2, 1) := by decide +kernel
theorem dL_count_1 : decode cL_count 1 = .ok (.iconst 0, 1) := by decide +kernel
theorem dL_count_2 : decode cL_count 2 = .ok (.aload_n 0, 1) := by decide +kernel
theorem dL_count_3 : decode cL_count 3 = .ok (.iload_n 1, 1) := by decide +kernel
theorem dL_count_4 : decode cL_count 4 = .ok (.invokevirtual 56, 3) := by decide +kernel
theorem dL_count_7 : decode cL_count 7 = .ok (.i2l, 1) := by decide +kernel
theorem dL_count_8 : decode cL_count 8 = .ok (.lastore, 1) := by decide +kernel
theorem dL_count_9 : decode cL_count 9 = .ok (.goto 6, 3) := by decide +kernel
theorem dL_count_12 : decode cL_count 12 = .ok (.astore_n 3, 1) := by decide +kernel
theorem dL_count_13 : decode cL_count 13 = .ok (.iconst 1, 1) := by decide +kernel
theorem dL_count_14 : decode cL_count 14 = .ok (.ireturn, 1) := by decide +kernel
theorem dL_count_15 : decode cL_count 15 = .ok (.iconst 0, 1) := by decide +kernel
theorem dL_count_16 : decode cL_count 16 = .ok (.ireturn, 1) := by decide +kernel
theorem dL_rowAt_0 : decode cL_rowAt 0 = .ok (.aload_n 3, 1) := by decide +kernel
theorem dL_rowAt_1 : decode cL_rowAt 1 = .ok (.iconst 0, 1) := by decide +kernel
theorem dL_rowAt_2 : decode cL_rowAt 2 = .ok (.aload_n 0, 1) := by decide +kernel
theorem dL_rowAt_3 : decode cL_rowAt 3 = .ok (.iload_n 1, 1) := by decide +kernel
theorem dL_rowAt_4 : decode cL_rowAt 4 = .ok (.iload_n 2, 1) := by decide +kernel
theorem dL_rowAt_5 : decode cL_rowAt 5 = .ok (.invokevirtual 59, 3) := by decide +kernel
theorem dL_rowAt_8 : decode cL_rowAt 8 = .ok (.i2l, 1) := by decide +kernel
theorem dL_rowAt_9 : decode cL_rowAt 9 = .ok (.lastore, 1) := by decide +kernel
theorem dL_rowAt_10 : decode cL_rowAt 10 = .ok (.goto 7, 3) := by decide +kernel
theorem dL_rowAt_13 : decode cL_rowAt 13 = .ok (.astore 4, 2) := by decide +kernel
theorem dL_rowAt_15 : decode cL_rowAt 15 = .ok (.iconst 1, 1) := by decide +kernel
theorem dL_rowAt_16 : decode cL_rowAt 16 = .ok (.ireturn, 1) := by decide +kernel
theorem dL_rowAt_17 : decode cL_rowAt 17 = .ok (.iconst 0, 1) := by decide +kernel
theorem dL_rowAt_18 : decode cL_rowAt 18 = .ok (.ireturn, 1) := by decide +kernel
theorem dL_rowAnew_0 : decode cL_rowAnew 0 = .ok (.aload_n 3, 1) := by decide +kernel
theorem dL_rowAnew_1 : decode cL_rowAnew 1 = .ok (.iconst 0, 1) := by decide +kernel
theorem dL_rowAnew_2 : decode cL_rowAnew 2 = .ok (.aload_n 0, 1) := by decide +kernel
theorem dL_rowAnew_3 : decode cL_rowAnew 3 = .ok (.iload_n 1, 1) := by decide +kernel
theorem dL_rowAnew_4 : decode cL_rowAnew 4 = .ok (.iload_n 2, 1) := by decide +kernel
theorem dL_rowAnew_5 : decode cL_rowAnew 5 = .ok (.invokevirtual 62, 3) := by decide +kernel
theorem dL_rowAnew_8 : decode cL_rowAnew 8 = .ok (.i2l, 1) := by decide +kernel
theorem dL_rowAnew_9 : decode cL_rowAnew 9 = .ok (.lastore, 1) := by decide +kernel
theorem dL_rowAnew_10 : decode cL_rowAnew 10 = .ok (.goto 7, 3) := by decide +kernel
theorem dL_rowAnew_13 : decode cL_rowAnew 13 = .ok (.astore 4, 2) := by decide +kernel
theorem dL_rowAnew_15 : decode cL_rowAnew 15 = .ok (.iconst 1, 1) := by decide +kernel
theorem dL_rowAnew_16 : decode cL_rowAnew 16 = .ok (.ireturn, 1) := by decide +kernel
theorem dL_rowAnew_17 : decode cL_rowAnew 17 = .ok (.iconst 0, 1) := by decide +kernel
theorem dL_rowAnew_18 : decode cL_rowAnew 18 = .ok (.ireturn, 1) := by decide +kernel
theorem dL_fieldAt_0 : decode cL_fieldAt 0 = .ok (.aload 4, 2) := by decide +kernel
theorem dL_fieldAt_2 : decode cL_fieldAt 2 = .ok (.iconst 0, 1) := by decide +kernel
theorem dL_fieldAt_3 : decode cL_fieldAt 3 = .ok (.aload_n 0, 1) := by decide +kernel
theorem dL_fieldAt_4 : decode cL_fieldAt 4 = .ok (.iload_n 1, 1) := by decide +kernel
theorem dL_fieldAt_5 : decode cL_fieldAt 5 = .ok (.iload_n 2, 1) := by decide +kernel
theorem dL_fieldAt_6 : decode cL_fieldAt 6 = .ok (.iload_n 3, 1) := by decide +kernel
theorem dL_fieldAt_7 : decode cL_fieldAt 7 = .ok (.invokevirtual 65, 3) := by decide +kernel
theorem dL_fieldAt_10 : decode cL_fieldAt 10 = .ok (.i2l, 1) := by decide +kernel
theorem dL_fieldAt_11 : decode cL_fieldAt 11 = .ok (.lastore, 1) := by decide +kernel
theorem dL_fieldAt_12 : decode cL_fieldAt 12 = .ok (.goto 7, 3) := by decide +kernel
theorem dL_fieldAt_15 : decode cL_fieldAt 15 = .ok (.astore 5, 2) := by decide +kernel
theorem dL_fieldAt_17 : decode cL_fieldAt 17 = .ok (.iconst 1, 1) := by decide +kernel
theorem dL_fieldAt_18 : decode cL_fieldAt 18 = .ok (.ireturn, 1) := by decide +kernel
theorem dL_fieldAt_19 : decode cL_fieldAt 19 = .ok (.iconst 0, 1) := by decide +kernel
theorem dL_fieldAt_20 : decode cL_fieldAt 20 = .ok (.ireturn, 1) := by decide +kernel
theorem dL_at_0 : decode cL_at 0 = .ok (.aload_n 2, 1) := by decide +kernel
theorem dL_at_1 : decode cL_at 1 = .ok (.iconst 0, 1) := by decide +kernel
theorem dL_at_2 : decode cL_at 2 = .ok (.aload_n 0, 1) := by decide +kernel
theorem dL_at_3 : decode cL_at 3 = .ok (.iload_n 1, 1) := by decide +kernel
theorem dL_at_4 : decode cL_at 4 = .ok (.invokevirtual 68, 3) := by decide +kernel
theorem dL_at_7 : decode cL_at 7 = .ok (.i2l, 1) := by decide +kernel
theorem dL_at_8 : decode cL_at 8 = .ok (.lastore, 1) := by decide +kernel
theorem dL_at_9 : decode cL_at 9 = .ok (.goto 6, 3) := by decide +kernel
theorem dL_at_12 : decode cL_at 12 = .ok (.astore_n 3, 1) := by decide +kernel
theorem dL_at_13 : decode cL_at 13 = .ok (.iconst 1, 1) := by decide +kernel
theorem dL_at_14 : decode cL_at 14 = .ok (.ireturn, 1) := by decide +kernel
theorem dL_at_15 : decode cL_at 15 = .ok (.iconst 0, 1) := by decide +kernel
theorem dL_at_16 : decode cL_at 16 = .ok (.ireturn, 1) := by decide +kernel
theorem dL_ahead_0 : decode cL_ahead 0 = .ok (.aload_n 2, 1) := by decide +kernel
theorem dL_ahead_1 : decode cL_ahead 1 = .ok (.iconst 0, 1) := by decide +kernel
theorem dL_ahead_2 : decode cL_ahead 2 = .ok (.aload_n 0, 1) := by decide +kernel
theorem dL_ahead_3 : decode cL_ahead 3 = .ok (.iload_n 1, 1) := by decide +kernel
theorem dL_ahead_4 : decode cL_ahead 4 = .ok (.invokevirtual 71, 3) := by decide +kernel
theorem dL_ahead_7 : decode cL_ahead 7 = .ok (.i2l, 1) := by decide +kernel
theorem dL_ahead_8 : decode cL_ahead 8 = .ok (.lastore, 1) := by decide +kernel
theorem dL_ahead_9 : decode cL_ahead 9 = .ok (.goto 6, 3) := by decide +kernel
theorem dL_ahead_12 : decode cL_ahead 12 = .ok (.astore_n 3, 1) := by decide +kernel
theorem dL_ahead_13 : decode cL_ahead 13 = .ok (.iconst 1, 1) := by decide +kernel
theorem dL_ahead_14 : decode cL_ahead 14 = .ok (.ireturn, 1) := by decide +kernel
theorem dL_ahead_15 : decode cL_ahead 15 = .ok (.iconst 0, 1) := by decide +kernel
theorem dL_ahead_16 : decode cL_ahead 16 = .ok (.ireturn, 1) := by decide +kernel
theorem dL_parent_0 : decode cL_parent 0 = .ok (.aload_n 2, 1) := by decide +kernel
theorem dL_parent_1 : decode cL_parent 1 = .ok (.iconst 0, 1) := by decide +kernel
theorem dL_parent_2 : decode cL_parent 2 = .ok (.aload_n 0, 1) := by decide +kernel
theorem dL_parent_3 : decode cL_parent 3 = .ok (.iload_n 1, 1) := by decide +kernel
theorem dL_parent_4 : decode cL_parent 4 = .ok (.invokevirtual 74, 3) := by decide +kernel
theorem dL_parent_7 : decode cL_parent 7 = .ok (.i2l, 1) := by decide +kernel
theorem dL_parent_8 : decode cL_parent 8 = .ok (.lastore, 1) := by decide +kernel
theorem dL_parent_9 : decode cL_parent 9 = .ok (.goto 6, 3) := by decide +kernel
theorem dL_parent_12 : decode cL_parent 12 = .ok (.astore_n 3, 1) := by decide +kernel
theorem dL_parent_13 : decode cL_parent 13 = .ok (.iconst 1, 1) := by decide +kernel
theorem dL_parent_14 : decode cL_parent 14 = .ok (.ireturn, 1) := by decide +kernel
theorem dL_parent_15 : decode cL_parent 15 = .ok (.iconst 0, 1) := by decide +kernel
theorem dL_parent_16 : decode cL_parent 16 = .ok (.ireturn, 1) := by decide +kernel
theorem dL_holds_0 : decode cL_holds 0 = .ok (.aload_n 2, 1) := by decide +kernel
theorem dL_holds_1 : decode cL_holds 1 = .ok (.iconst 0, 1) := by decide +kernel
theorem dL_holds_2 : decode cL_holds 2 = .ok (.aload_n 0, 1) := by decide +kernel
theorem dL_holds_3 : decode cL_holds 3 = .ok (.iload_n 1, 1) := by decide +kernel
theorem dL_holds_4 : decode cL_holds 4 = .ok (.invokevirtual 77, 3) := by decide +kernel
theorem dL_holds_7 : decode cL_holds 7 = .ok (.i2l, 1) := by decide +kernel
theorem dL_holds_8 : decode cL_holds 8 = .ok (.lastore, 1) := by decide +kernel
theorem dL_holds_9 : decode cL_holds 9 = .ok (.goto 6, 3) := by decide +kernel
theorem dL_holds_12 : decode cL_holds 12 = .ok (.astore_n 3, 1) := by decide +kernel
theorem dL_holds_13 : decode cL_holds 13 = .ok (.iconst 1, 1) := by decide +kernel
theorem dL_holds_14 : decode cL_holds 14 = .ok (.ireturn, 1) := by decide +kernel
theorem dL_holds_15 : decode cL_holds 15 = .ok (.iconst 0, 1) := by decide +kernel
theorem dL_holds_16 : decode cL_holds 16 = .ok (.ireturn, 1) := by decide +kernel
theorem dL_keys_0 : decode cL_keys 0 = .ok (.aload_n 2, 1) := by decide +kernel
theorem dL_keys_1 : decode cL_keys 1 = .ok (.iconst 0, 1) := by decide +kernel
theorem dL_keys_2 : decode cL_keys 2 = .ok (.aload_n 0, 1) := by decide +kernel
theorem dL_keys_3 : decode cL_keys 3 = .ok (.iload_n 1, 1) := by decide +kernel
theorem dL_keys_4 : decode cL_keys 4 = .ok (.invokevirtual 80, 3) := by decide +kernel
theorem dL_keys_7 : decode cL_keys 7 = .ok (.lastore, 1) := by decide +kernel
theorem dL_keys_8 : decode cL_keys 8 = .ok (.goto 6, 3) := by decide +kernel
theorem dL_keys_11 : decode cL_keys 11 = .ok (.astore_n 3, 1) := by decide +kernel
theorem dL_keys_12 : decode cL_keys 12 = .ok (.iconst 1, 1) := by decide +kernel
theorem dL_keys_13 : decode cL_keys 13 = .ok (.ireturn, 1) := by decide +kernel
theorem dL_keys_14 : decode cL_keys 14 = .ok (.iconst 0, 1) := by decide +kernel
theorem dL_keys_15 : decode cL_keys 15 = .ok (.ireturn, 1) := by decide +kernel
theorem dL_second_0 : decode cL_second 0 = .ok (.aload_n 2, 1) := by decide +kernel
theorem dL_second_1 : decode cL_second 1 = .ok (.iconst 0, 1) := by decide +kernel
theorem dL_second_2 : decode cL_second 2 = .ok (.aload_n 0, 1) := by decide +kernel
theorem dL_second_3 : decode cL_second 3 = .ok (.iload_n 1, 1) := by decide +kernel
theorem dL_second_4 : decode cL_second 4 = .ok (.invokevirtual 84, 3) := by decide +kernel
theorem dL_second_7 : decode cL_second 7 = .ok (.i2l, 1) := by decide +kernel
theorem dL_second_8 : decode cL_second 8 = .ok (.lastore, 1) := by decide +kernel
theorem dL_second_9 : decode cL_second 9 = .ok (.goto 6, 3) := by decide +kernel
theorem dL_second_12 : decode cL_second 12 = .ok (.astore_n 3, 1) := by decide +kernel
theorem dL_second_13 : decode cL_second 13 = .ok (.iconst 1, 1) := by decide +kernel
theorem dL_second_14 : decode cL_second 14 = .ok (.ireturn, 1) := by decide +kernel
theorem dL_second_15 : decode cL_second 15 = .ok (.iconst 0, 1) := by decide +kernel
theorem dL_second_16 : decode cL_second 16 = .ok (.ireturn, 1) := by decide +kernel
theorem dL_tied_0 : decode cL_tied 0 = .ok (.aload_n 2, 1) := by decide +kernel
theorem dL_tied_1 : decode cL_tied 1 = .ok (.iconst 0, 1) := by decide +kernel
theorem dL_tied_2 : decode cL_tied 2 = .ok (.aload_n 0, 1) := by decide +kernel
theorem dL_tied_3 : decode cL_tied 3 = .ok (.iload_n 1, 1) := by decide +kernel
theorem dL_tied_4 : decode cL_tied 4 = .ok (.invokevirtual 87, 3) := by decide +kernel
theorem dL_tied_7 : decode cL_tied 7 = .ok (.i2l, 1) := by decide +kernel
theorem dL_tied_8 : decode cL_tied 8 = .ok (.lastore, 1) := by decide +kernel
theorem dL_tied_9 : decode cL_tied 9 = .ok (.goto 6, 3) := by decide +kernel
theorem dL_tied_12 : decode cL_tied 12 = .ok (.astore_n 3, 1) := by decide +kernel
theorem dL_tied_13 : decode cL_tied 13 = .ok (.iconst 1, 1) := by decide +kernel
theorem dL_tied_14 : decode cL_tied 14 = .ok (.ireturn, 1) := by decide +kernel
theorem dL_tied_15 : decode cL_tied 15 = .ok (.iconst 0, 1) := by decide +kernel
theorem dL_tied_16 : decode cL_tied 16 = .ok (.ireturn, 1) := by decide +kernel
theorem dL_law_0 : decode cL_law 0 = .ok (.new 8, 3) := by decide +kernel
theorem dL_law_3 : decode cL_law 3 = .ok (.dup, 1) := by decide +kernel
theorem dL_law_4 : decode cL_law 4 = .ok (.invokespecial 90, 3) := by decide +kernel
theorem dL_law_7 : decode cL_law 7 = .ok (.astore_n 1, 1) := by decide +kernel
theorem dL_law_8 : decode cL_law 8 = .ok (.new 91, 3) := by decide +kernel
theorem dL_law_11 : decode cL_law 11 = .ok (.dup, 1) := by decide +kernel
theorem dL_law_12 : decode cL_law 12 = .ok (.invokespecial 93, 3) := by decide +kernel
theorem dL_law_15 : decode cL_law 15 = .ok (.astore_n 2, 1) := by decide +kernel
theorem dL_law_16 : decode cL_law 16 = .ok (.iconst 1, 1) := by decide +kernel
theorem dL_law_17 : decode cL_law 17 = .ok (.newarray .long, 2) := by decide +kernel
theorem dL_law_19 : decode cL_law 19 = .ok (.astore_n 3, 1) := by decide +kernel
theorem dL_law_20 : decode cL_law 20 = .ok (.iconst 0, 1) := by decide +kernel
theorem dL_law_21 : decode cL_law 21 = .ok (.istore 4, 2) := by decide +kernel
theorem dL_law_23 : decode cL_law 23 = .ok (.iload 4, 2) := by decide +kernel
theorem dL_law_25 : decode cL_law 25 = .ok (.aload_n 0, 1) := by decide +kernel
theorem dL_law_26 : decode cL_law 26 = .ok (.arraylength, 1) := by decide +kernel
theorem dL_law_27 : decode cL_law 27 = .ok (.iconst 5, 1) := by decide +kernel
theorem dL_law_28 : decode cL_law 28 = .ok (.isub, 1) := by decide +kernel
theorem dL_law_29 : decode cL_law 29 = .ok (.if_icmp .gt 1626, 3) := by decide +kernel
theorem dL_law_32 : decode cL_law 32 = .ok (.aload_n 0, 1) := by decide +kernel
theorem dL_law_33 : decode cL_law 33 = .ok (.iload 4, 2) := by decide +kernel
theorem dL_law_35 : decode cL_law 35 = .ok (.iaload, 1) := by decide +kernel
theorem dL_law_36 : decode cL_law 36 = .ok (.bipush 31, 2) := by decide +kernel
theorem dL_law_38 : decode cL_law 38 = .ok (.iand, 1) := by decide +kernel
theorem dL_law_39 : decode cL_law 39 = .ok (.tableswitch 1610 0 23 #[109, 201, 273, 333, 401, 509, 522, 602, 670, 766, 822, 878, 934, 947, 1003, 1071, 1139, 1219, 1275, 1331, 1387, 1443, 1498, 1554], 109) := by decide +kernel
theorem dL_law_148 : decode cL_law 148 = .ok (.aload_n 1, 1) := by decide +kernel
theorem dL_law_149 : decode cL_law 149 = .ok (.aload_n 0, 1) := by decide +kernel
theorem dL_law_150 : decode cL_law 150 = .ok (.iload 4, 2) := by decide +kernel
theorem dL_law_152 : decode cL_law 152 = .ok (.iconst 1, 1) := by decide +kernel
theorem dL_law_153 : decode cL_law 153 = .ok (.iadd, 1) := by decide +kernel
theorem dL_law_154 : decode cL_law 154 = .ok (.iaload, 1) := by decide +kernel
theorem dL_law_155 : decode cL_law 155 = .ok (.aload_n 0, 1) := by decide +kernel
theorem dL_law_156 : decode cL_law 156 = .ok (.iload 4, 2) := by decide +kernel
theorem dL_law_158 : decode cL_law 158 = .ok (.iconst 2, 1) := by decide +kernel
theorem dL_law_159 : decode cL_law 159 = .ok (.iadd, 1) := by decide +kernel
theorem dL_law_160 : decode cL_law 160 = .ok (.iaload, 1) := by decide +kernel
theorem dL_law_161 : decode cL_law 161 = .ok (.aload_n 0, 1) := by decide +kernel
theorem dL_law_162 : decode cL_law 162 = .ok (.iload 4, 2) := by decide +kernel
theorem dL_law_164 : decode cL_law 164 = .ok (.iconst 3, 1) := by decide +kernel
theorem dL_law_165 : decode cL_law 165 = .ok (.iadd, 1) := by decide +kernel
theorem dL_law_166 : decode cL_law 166 = .ok (.iaload, 1) := by decide +kernel
theorem dL_law_167 : decode cL_law 167 = .ok (.aload_n 0, 1) := by decide +kernel
theorem dL_law_168 : decode cL_law 168 = .ok (.iload 4, 2) := by decide +kernel
theorem dL_law_170 : decode cL_law 170 = .ok (.iconst 4, 1) := by decide +kernel
theorem dL_law_171 : decode cL_law 171 = .ok (.iadd, 1) := by decide +kernel
theorem dL_law_172 : decode cL_law 172 = .ok (.iaload, 1) := by decide +kernel
theorem dL_law_173 : decode cL_law 173 = .ok (.aload_n 3, 1) := by decide +kernel
theorem dL_law_174 : decode cL_law 174 = .ok (.invokestatic 94, 3) := by decide +kernel
theorem dL_law_177 : decode cL_law 177 = .ok (.istore 5, 2) := by decide +kernel
theorem dL_law_179 : decode cL_law 179 = .ok (.aload_n 2, 1) := by decide +kernel
theorem dL_law_180 : decode cL_law 180 = .ok (.aload_n 0, 1) := by decide +kernel
theorem dL_law_181 : decode cL_law 181 = .ok (.iload 4, 2) := by decide +kernel
theorem dL_law_183 : decode cL_law 183 = .ok (.iconst 1, 1) := by decide +kernel
theorem dL_law_184 : decode cL_law 184 = .ok (.iadd, 1) := by decide +kernel
theorem dL_law_185 : decode cL_law 185 = .ok (.iaload, 1) := by decide +kernel
theorem dL_law_186 : decode cL_law 186 = .ok (.aload_n 0, 1) := by decide +kernel
theorem dL_law_187 : decode cL_law 187 = .ok (.iload 4, 2) := by decide +kernel
theorem dL_law_189 : decode cL_law 189 = .ok (.iconst 2, 1) := by decide +kernel
theorem dL_law_190 : decode cL_law 190 = .ok (.iadd, 1) := by decide +kernel
theorem dL_law_191 : decode cL_law 191 = .ok (.iaload, 1) := by decide +kernel
theorem dL_law_192 : decode cL_law 192 = .ok (.aload_n 0, 1) := by decide +kernel
theorem dL_law_193 : decode cL_law 193 = .ok (.iload 4, 2) := by decide +kernel
theorem dL_law_195 : decode cL_law 195 = .ok (.iconst 3, 1) := by decide +kernel
theorem dL_law_196 : decode cL_law 196 = .ok (.iadd, 1) := by decide +kernel
theorem dL_law_197 : decode cL_law 197 = .ok (.iaload, 1) := by decide +kernel
theorem dL_law_198 : decode cL_law 198 = .ok (.aload_n 0, 1) := by decide +kernel
theorem dL_law_199 : decode cL_law 199 = .ok (.iload 4, 2) := by decide +kernel
theorem dL_law_201 : decode cL_law 201 = .ok (.iconst 4, 1) := by decide +kernel
theorem dL_law_202 : decode cL_law 202 = .ok (.iadd, 1) := by decide +kernel
theorem dL_law_203 : decode cL_law 203 = .ok (.iaload, 1) := by decide +kernel
theorem dL_law_204 : decode cL_law 204 = .ok (.invokevirtual 99, 3) := by decide +kernel
theorem dL_law_207 : decode cL_law 207 = .ok (.istore 6, 2) := by decide +kernel
theorem dL_law_209 : decode cL_law 209 = .ok (.aload_n 2, 1) := by decide +kernel
theorem dL_law_210 : decode cL_law 210 = .ok (.invokevirtual 100, 3) := by decide +kernel
theorem dL_law_213 : decode cL_law 213 = .ok (.iload 5, 2) := by decide +kernel
theorem dL_law_215 : decode cL_law 215 = .ok (.if_icmp .eq 5, 3) := by decide +kernel
theorem dL_law_218 : decode cL_law 218 = .ok (.iconst 0, 1) := by decide +kernel
theorem dL_law_219 : decode cL_law 219 = .ok (.ireturn, 1) := by decide +kernel
theorem dL_law_220 : decode cL_law 220 = .ok (.iload 5, 2) := by decide +kernel
theorem dL_law_222 : decode cL_law 222 = .ok (.ifCond .ne 15, 3) := by decide +kernel
theorem dL_law_225 : decode cL_law 225 = .ok (.aload_n 3, 1) := by decide +kernel
theorem dL_law_226 : decode cL_law 226 = .ok (.iconst 0, 1) := by decide +kernel
theorem dL_law_227 : decode cL_law 227 = .ok (.laload, 1) := by decide +kernel
theorem dL_law_228 : decode cL_law 228 = .ok (.iload 6, 2) := by decide +kernel
theorem dL_law_230 : decode cL_law 230 = .ok (.i2l, 1) := by decide +kernel
theorem dL_law_231 : decode cL_law 231 = .ok (.lcmp, 1) := by decide +kernel
theorem dL_law_232 : decode cL_law 232 = .ok (.ifCond .eq 5, 3) := by decide +kernel
theorem dL_law_235 : decode cL_law 235 = .ok (.iconst 0, 1) := by decide +kernel
theorem dL_law_236 : decode cL_law 236 = .ok (.ireturn, 1) := by decide +kernel
theorem dL_law_237 : decode cL_law 237 = .ok (.goto 1412, 3) := by decide +kernel
theorem dL_law_240 : decode cL_law 240 = .ok (.aload_n 1, 1) := by decide +kernel
theorem dL_law_241 : decode cL_law 241 = .ok (.aload_n 0, 1) := by decide +kernel
theorem dL_law_242 : decode cL_law 242 = .ok (.iload 4, 2) := by decide +kernel
theorem dL_law_244 : decode cL_law 244 = .ok (.iconst 1, 1) := by decide +kernel
theorem dL_law_245 : decode cL_law 245 = .ok (.iadd, 1) := by decide +kernel
theorem dL_law_246 : decode cL_law 246 = .ok (.iaload, 1) := by decide +kernel
theorem dL_law_247 : decode cL_law 247 = .ok (.aload_n 0, 1) := by decide +kernel
theorem dL_law_248 : decode cL_law 248 = .ok (.iload 4, 2) := by decide +kernel
theorem dL_law_250 : decode cL_law 250 = .ok (.iconst 2, 1) := by decide +kernel
theorem dL_law_251 : decode cL_law 251 = .ok (.iadd, 1) := by decide +kernel
theorem dL_law_252 : decode cL_law 252 = .ok (.iaload, 1) := by decide +kernel
theorem dL_law_253 : decode cL_law 253 = .ok (.aload_n 0, 1) := by decide +kernel
theorem dL_law_254 : decode cL_law 254 = .ok (.iload 4, 2) := by decide +kernel
theorem dL_law_256 : decode cL_law 256 = .ok (.iconst 3, 1) := by decide +kernel
theorem dL_law_257 : decode cL_law 257 = .ok (.iadd, 1) := by decide +kernel
theorem dL_law_258 : decode cL_law 258 = .ok (.iaload, 1) := by decide +kernel
theorem dL_law_259 : decode cL_law 259 = .ok (.aload_n 0, 1) := by decide +kernel
theorem dL_law_260 : decode cL_law 260 = .ok (.iload 4, 2) := by decide +kernel
theorem dL_law_262 : decode cL_law 262 = .ok (.iconst 4, 1) := by decide +kernel
theorem dL_law_263 : decode cL_law 263 = .ok (.iadd, 1) := by decide +kernel
theorem dL_law_264 : decode cL_law 264 = .ok (.iaload, 1) := by decide +kernel
theorem dL_law_265 : decode cL_law 265 = .ok (.invokestatic 104, 3) := by decide +kernel
theorem dL_law_268 : decode cL_law 268 = .ok (.istore 5, 2) := by decide +kernel
theorem dL_law_270 : decode cL_law 270 = .ok (.aload_n 2, 1) := by decide +kernel
theorem dL_law_271 : decode cL_law 271 = .ok (.aload_n 0, 1) := by decide +kernel
theorem dL_law_272 : decode cL_law 272 = .ok (.iload 4, 2) := by decide +kernel
theorem dL_law_274 : decode cL_law 274 = .ok (.iconst 1, 1) := by decide +kernel
theorem dL_law_275 : decode cL_law 275 = .ok (.iadd, 1) := by decide +kernel
theorem dL_law_276 : decode cL_law 276 = .ok (.iaload, 1) := by decide +kernel
theorem dL_law_277 : decode cL_law 277 = .ok (.aload_n 0, 1) := by decide +kernel
theorem dL_law_278 : decode cL_law 278 = .ok (.iload 4, 2) := by decide +kernel
theorem dL_law_280 : decode cL_law 280 = .ok (.iconst 2, 1) := by decide +kernel
theorem dL_law_281 : decode cL_law 281 = .ok (.iadd, 1) := by decide +kernel
theorem dL_law_282 : decode cL_law 282 = .ok (.iaload, 1) := by decide +kernel
theorem dL_law_283 : decode cL_law 283 = .ok (.aload_n 0, 1) := by decide +kernel
theorem dL_law_284 : decode cL_law 284 = .ok (.iload 4, 2) := by decide +kernel
theorem dL_law_286 : decode cL_law 286 = .ok (.iconst 3, 1) := by decide +kernel
theorem dL_law_287 : decode cL_law 287 = .ok (.iadd, 1) := by decide +kernel
theorem dL_law_288 : decode cL_law 288 = .ok (.iaload, 1) := by decide +kernel
theorem dL_law_289 : decode cL_law 289 = .ok (.aload_n 0, 1) := by decide +kernel
theorem dL_law_290 : decode cL_law 290 = .ok (.iload 4, 2) := by decide +kernel
theorem dL_law_292 : decode cL_law 292 = .ok (.iconst 4, 1) := by decide +kernel
theorem dL_law_293 : decode cL_law 293 = .ok (.iadd, 1) := by decide +kernel
theorem dL_law_294 : decode cL_law 294 = .ok (.iaload, 1) := by decide +kernel
theorem dL_law_295 : decode cL_law 295 = .ok (.invokevirtual 107, 3) := by decide +kernel
theorem dL_law_298 : decode cL_law 298 = .ok (.aload_n 2, 1) := by decide +kernel
theorem dL_law_299 : decode cL_law 299 = .ok (.invokevirtual 100, 3) := by decide +kernel
theorem dL_law_302 : decode cL_law 302 = .ok (.iload 5, 2) := by decide +kernel
theorem dL_law_304 : decode cL_law 304 = .ok (.if_icmp .eq 5, 3) := by decide +kernel
theorem dL_law_307 : decode cL_law 307 = .ok (.iconst 0, 1) := by decide +kernel
theorem dL_law_308 : decode cL_law 308 = .ok (.ireturn, 1) := by decide +kernel
theorem dL_law_309 : decode cL_law 309 = .ok (.goto 1340, 3) := by decide +kernel
theorem dL_law_312 : decode cL_law 312 = .ok (.aload_n 1, 1) := by decide +kernel
theorem dL_law_313 : decode cL_law 313 = .ok (.aload_n 0, 1) := by decide +kernel
theorem dL_law_314 : decode cL_law 314 = .ok (.iload 4, 2) := by decide +kernel
theorem dL_law_316 : decode cL_law 316 = .ok (.iconst 1, 1) := by decide +kernel
theorem dL_law_317 : decode cL_law 317 = .ok (.iadd, 1) := by decide +kernel
theorem dL_law_318 : decode cL_law 318 = .ok (.iaload, 1) := by decide +kernel
theorem dL_law_319 : decode cL_law 319 = .ok (.aload_n 0, 1) := by decide +kernel
theorem dL_law_320 : decode cL_law 320 = .ok (.iload 4, 2) := by decide +kernel
theorem dL_law_322 : decode cL_law 322 = .ok (.iconst 2, 1) := by decide +kernel
theorem dL_law_323 : decode cL_law 323 = .ok (.iadd, 1) := by decide +kernel
theorem dL_law_324 : decode cL_law 324 = .ok (.iaload, 1) := by decide +kernel
theorem dL_law_325 : decode cL_law 325 = .ok (.aload_n 0, 1) := by decide +kernel
theorem dL_law_326 : decode cL_law 326 = .ok (.iload 4, 2) := by decide +kernel
theorem dL_law_328 : decode cL_law 328 = .ok (.iconst 3, 1) := by decide +kernel
theorem dL_law_329 : decode cL_law 329 = .ok (.iadd, 1) := by decide +kernel
theorem dL_law_330 : decode cL_law 330 = .ok (.iaload, 1) := by decide +kernel
theorem dL_law_331 : decode cL_law 331 = .ok (.invokestatic 108, 3) := by decide +kernel
theorem dL_law_334 : decode cL_law 334 = .ok (.istore 5, 2) := by decide +kernel
theorem dL_law_336 : decode cL_law 336 = .ok (.aload_n 2, 1) := by decide +kernel
theorem dL_law_337 : decode cL_law 337 = .ok (.aload_n 0, 1) := by decide +kernel
theorem dL_law_338 : decode cL_law 338 = .ok (.iload 4, 2) := by decide +kernel
theorem dL_law_340 : decode cL_law 340 = .ok (.iconst 1, 1) := by decide +kernel
theorem dL_law_341 : decode cL_law 341 = .ok (.iadd, 1) := by decide +kernel
theorem dL_law_342 : decode cL_law 342 = .ok (.iaload, 1) := by decide +kernel
theorem dL_law_343 : decode cL_law 343 = .ok (.aload_n 0, 1) := by decide +kernel
theorem dL_law_344 : decode cL_law 344 = .ok (.iload 4, 2) := by decide +kernel
theorem dL_law_346 : decode cL_law 346 = .ok (.iconst 2, 1) := by decide +kernel
theorem dL_law_347 : decode cL_law 347 = .ok (.iadd, 1) := by decide +kernel
theorem dL_law_348 : decode cL_law 348 = .ok (.iaload, 1) := by decide +kernel
theorem dL_law_349 : decode cL_law 349 = .ok (.aload_n 0, 1) := by decide +kernel
theorem dL_law_350 : decode cL_law 350 = .ok (.iload 4, 2) := by decide +kernel
theorem dL_law_352 : decode cL_law 352 = .ok (.iconst 3, 1) := by decide +kernel
theorem dL_law_353 : decode cL_law 353 = .ok (.iadd, 1) := by decide +kernel
theorem dL_law_354 : decode cL_law 354 = .ok (.iaload, 1) := by decide +kernel
theorem dL_law_355 : decode cL_law 355 = .ok (.invokevirtual 111, 3) := by decide +kernel
theorem dL_law_358 : decode cL_law 358 = .ok (.aload_n 2, 1) := by decide +kernel
theorem dL_law_359 : decode cL_law 359 = .ok (.invokevirtual 100, 3) := by decide +kernel
theorem dL_law_362 : decode cL_law 362 = .ok (.iload 5, 2) := by decide +kernel
theorem dL_law_364 : decode cL_law 364 = .ok (.if_icmp .eq 5, 3) := by decide +kernel
theorem dL_law_367 : decode cL_law 367 = .ok (.iconst 0, 1) := by decide +kernel
theorem dL_law_368 : decode cL_law 368 = .ok (.ireturn, 1) := by decide +kernel
theorem dL_law_369 : decode cL_law 369 = .ok (.goto 1280, 3) := by decide +kernel
theorem dL_law_372 : decode cL_law 372 = .ok (.aload_n 1, 1) := by decide +kernel
theorem dL_law_373 : decode cL_law 373 = .ok (.aload_n 0, 1) := by decide +kernel
theorem dL_law_374 : decode cL_law 374 = .ok (.iload 4, 2) := by decide +kernel
theorem dL_law_376 : decode cL_law 376 = .ok (.iconst 1, 1) := by decide +kernel
theorem dL_law_377 : decode cL_law 377 = .ok (.iadd, 1) := by decide +kernel
theorem dL_law_378 : decode cL_law 378 = .ok (.iaload, 1) := by decide +kernel
theorem dL_law_379 : decode cL_law 379 = .ok (.aload_n 0, 1) := by decide +kernel
theorem dL_law_380 : decode cL_law 380 = .ok (.iload 4, 2) := by decide +kernel
theorem dL_law_382 : decode cL_law 382 = .ok (.iconst 2, 1) := by decide +kernel
theorem dL_law_383 : decode cL_law 383 = .ok (.iadd, 1) := by decide +kernel
theorem dL_law_384 : decode cL_law 384 = .ok (.iaload, 1) := by decide +kernel
theorem dL_law_385 : decode cL_law 385 = .ok (.aload_n 3, 1) := by decide +kernel
theorem dL_law_386 : decode cL_law 386 = .ok (.invokestatic 112, 3) := by decide +kernel
theorem dL_law_389 : decode cL_law 389 = .ok (.istore 5, 2) := by decide +kernel
theorem dL_law_391 : decode cL_law 391 = .ok (.aload_n 2, 1) := by decide +kernel
theorem dL_law_392 : decode cL_law 392 = .ok (.aload_n 0, 1) := by decide +kernel
theorem dL_law_393 : decode cL_law 393 = .ok (.iload 4, 2) := by decide +kernel
theorem dL_law_395 : decode cL_law 395 = .ok (.iconst 1, 1) := by decide +kernel
theorem dL_law_396 : decode cL_law 396 = .ok (.iadd, 1) := by decide +kernel
theorem dL_law_397 : decode cL_law 397 = .ok (.iaload, 1) := by decide +kernel
theorem dL_law_398 : decode cL_law 398 = .ok (.aload_n 0, 1) := by decide +kernel
theorem dL_law_399 : decode cL_law 399 = .ok (.iload 4, 2) := by decide +kernel
theorem dL_law_401 : decode cL_law 401 = .ok (.iconst 2, 1) := by decide +kernel
theorem dL_law_402 : decode cL_law 402 = .ok (.iadd, 1) := by decide +kernel
theorem dL_law_403 : decode cL_law 403 = .ok (.iaload, 1) := by decide +kernel
theorem dL_law_404 : decode cL_law 404 = .ok (.invokevirtual 115, 3) := by decide +kernel
theorem dL_law_407 : decode cL_law 407 = .ok (.istore 6, 2) := by decide +kernel
theorem dL_law_409 : decode cL_law 409 = .ok (.aload_n 2, 1) := by decide +kernel
theorem dL_law_410 : decode cL_law 410 = .ok (.invokevirtual 100, 3) := by decide +kernel
theorem dL_law_413 : decode cL_law 413 = .ok (.iload 5, 2) := by decide +kernel
theorem dL_law_415 : decode cL_law 415 = .ok (.if_icmp .eq 5, 3) := by decide +kernel
theorem dL_law_418 : decode cL_law 418 = .ok (.iconst 0, 1) := by decide +kernel
theorem dL_law_419 : decode cL_law 419 = .ok (.ireturn, 1) := by decide +kernel
theorem dL_law_420 : decode cL_law 420 = .ok (.iload 5, 2) := by decide +kernel
theorem dL_law_422 : decode cL_law 422 = .ok (.ifCond .ne 15, 3) := by decide +kernel
theorem dL_law_425 : decode cL_law 425 = .ok (.aload_n 3, 1) := by decide +kernel
theorem dL_law_426 : decode cL_law 426 = .ok (.iconst 0, 1) := by decide +kernel
theorem dL_law_427 : decode cL_law 427 = .ok (.laload, 1) := by decide +kernel
theorem dL_law_428 : decode cL_law 428 = .ok (.iload 6, 2) := by decide +kernel
theorem dL_law_430 : decode cL_law 430 = .ok (.i2l, 1) := by decide +kernel
theorem dL_law_431 : decode cL_law 431 = .ok (.lcmp, 1) := by decide +kernel
theorem dL_law_432 : decode cL_law 432 = .ok (.ifCond .eq 5, 3) := by decide +kernel
theorem dL_law_435 : decode cL_law 435 = .ok (.iconst 0, 1) := by decide +kernel
theorem dL_law_436 : decode cL_law 436 = .ok (.ireturn, 1) := by decide +kernel
theorem dL_law_437 : decode cL_law 437 = .ok (.goto 1212, 3) := by decide +kernel
theorem dL_law_440 : decode cL_law 440 = .ok (.aload_n 1, 1) := by decide +kernel
theorem dL_law_441 : decode cL_law 441 = .ok (.aload_n 0, 1) := by decide +kernel
theorem dL_law_442 : decode cL_law 442 = .ok (.iload 4, 2) := by decide +kernel
theorem dL_law_444 : decode cL_law 444 = .ok (.iconst 1, 1) := by decide +kernel
theorem dL_law_445 : decode cL_law 445 = .ok (.iadd, 1) := by decide +kernel
theorem dL_law_446 : decode cL_law 446 = .ok (.iaload, 1) := by decide +kernel
theorem dL_law_447 : decode cL_law 447 = .ok (.ifCond .eq 7, 3) := by decide +kernel
theorem dL_law_450 : decode cL_law 450 = .ok (.iconst 1, 1) := by decide +kernel
theorem dL_law_451 : decode cL_law 451 = .ok (.goto 4, 3) := by decide +kernel
theorem dL_law_454 : decode cL_law 454 = .ok (.iconst 0, 1) := by decide +kernel
theorem dL_law_455 : decode cL_law 455 = .ok (.aload_n 0, 1) := by decide +kernel
theorem dL_law_456 : decode cL_law 456 = .ok (.iload 4, 2) := by decide +kernel
theorem dL_law_458 : decode cL_law 458 = .ok (.iconst 2, 1) := by decide +kernel
theorem dL_law_459 : decode cL_law 459 = .ok (.iadd, 1) := by decide +kernel
theorem dL_law_460 : decode cL_law 460 = .ok (.iaload, 1) := by decide +kernel
theorem dL_law_461 : decode cL_law 461 = .ok (.aload_n 0, 1) := by decide +kernel
theorem dL_law_462 : decode cL_law 462 = .ok (.iload 4, 2) := by decide +kernel
theorem dL_law_464 : decode cL_law 464 = .ok (.iconst 3, 1) := by decide +kernel
theorem dL_law_465 : decode cL_law 465 = .ok (.iadd, 1) := by decide +kernel
theorem dL_law_466 : decode cL_law 466 = .ok (.iaload, 1) := by decide +kernel
theorem dL_law_467 : decode cL_law 467 = .ok (.aload_n 0, 1) := by decide +kernel
theorem dL_law_468 : decode cL_law 468 = .ok (.iload 4, 2) := by decide +kernel
theorem dL_law_470 : decode cL_law 470 = .ok (.iconst 4, 1) := by decide +kernel
theorem dL_law_471 : decode cL_law 471 = .ok (.iadd, 1) := by decide +kernel
theorem dL_law_472 : decode cL_law 472 = .ok (.iaload, 1) := by decide +kernel
theorem dL_law_473 : decode cL_law 473 = .ok (.aload_n 3, 1) := by decide +kernel
theorem dL_law_474 : decode cL_law 474 = .ok (.invokestatic 116, 3) := by decide +kernel
theorem dL_law_477 : decode cL_law 477 = .ok (.istore 5, 2) := by decide +kernel
theorem dL_law_479 : decode cL_law 479 = .ok (.aload_n 2, 1) := by decide +kernel
theorem dL_law_480 : decode cL_law 480 = .ok (.aload_n 0, 1) := by decide +kernel
theorem dL_law_481 : decode cL_law 481 = .ok (.iload 4, 2) := by decide +kernel
theorem dL_law_483 : decode cL_law 483 = .ok (.iconst 1, 1) := by decide +kernel
theorem dL_law_484 : decode cL_law 484 = .ok (.iadd, 1) := by decide +kernel
theorem dL_law_485 : decode cL_law 485 = .ok (.iaload, 1) := by decide +kernel
theorem dL_law_486 : decode cL_law 486 = .ok (.ifCond .eq 7, 3) := by decide +kernel
theorem dL_law_489 : decode cL_law 489 = .ok (.iconst 1, 1) := by decide +kernel
theorem dL_law_490 : decode cL_law 490 = .ok (.goto 4, 3) := by decide +kernel
theorem dL_law_493 : decode cL_law 493 = .ok (.iconst 0, 1) := by decide +kernel
theorem dL_law_494 : decode cL_law 494 = .ok (.aload_n 0, 1) := by decide +kernel
theorem dL_law_495 : decode cL_law 495 = .ok (.iload 4, 2) := by decide +kernel
theorem dL_law_497 : decode cL_law 497 = .ok (.iconst 2, 1) := by decide +kernel
theorem dL_law_498 : decode cL_law 498 = .ok (.iadd, 1) := by decide +kernel
theorem dL_law_499 : decode cL_law 499 = .ok (.iaload, 1) := by decide +kernel
theorem dL_law_500 : decode cL_law 500 = .ok (.aload_n 0, 1) := by decide +kernel
theorem dL_law_501 : decode cL_law 501 = .ok (.iload 4, 2) := by decide +kernel
theorem dL_law_503 : decode cL_law 503 = .ok (.iconst 3, 1) := by decide +kernel
theorem dL_law_504 : decode cL_law 504 = .ok (.iadd, 1) := by decide +kernel
theorem dL_law_505 : decode cL_law 505 = .ok (.iaload, 1) := by decide +kernel
theorem dL_law_506 : decode cL_law 506 = .ok (.aload_n 0, 1) := by decide +kernel
theorem dL_law_507 : decode cL_law 507 = .ok (.iload 4, 2) := by decide +kernel
theorem dL_law_509 : decode cL_law 509 = .ok (.iconst 4, 1) := by decide +kernel
theorem dL_law_510 : decode cL_law 510 = .ok (.iadd, 1) := by decide +kernel
theorem dL_law_511 : decode cL_law 511 = .ok (.iaload, 1) := by decide +kernel
theorem dL_law_512 : decode cL_law 512 = .ok (.invokevirtual 119, 3) := by decide +kernel
theorem dL_law_515 : decode cL_law 515 = .ok (.istore 6, 2) := by decide +kernel
theorem dL_law_517 : decode cL_law 517 = .ok (.aload_n 2, 1) := by decide +kernel
theorem dL_law_518 : decode cL_law 518 = .ok (.invokevirtual 100, 3) := by decide +kernel
theorem dL_law_521 : decode cL_law 521 = .ok (.iload 5, 2) := by decide +kernel
theorem dL_law_523 : decode cL_law 523 = .ok (.if_icmp .eq 5, 3) := by decide +kernel
theorem dL_law_526 : decode cL_law 526 = .ok (.iconst 0, 1) := by decide +kernel
theorem dL_law_527 : decode cL_law 527 = .ok (.ireturn, 1) := by decide +kernel
theorem dL_law_528 : decode cL_law 528 = .ok (.iload 5, 2) := by decide +kernel
theorem dL_law_530 : decode cL_law 530 = .ok (.ifCond .ne 15, 3) := by decide +kernel
theorem dL_law_533 : decode cL_law 533 = .ok (.aload_n 3, 1) := by decide +kernel
theorem dL_law_534 : decode cL_law 534 = .ok (.iconst 0, 1) := by decide +kernel
theorem dL_law_535 : decode cL_law 535 = .ok (.laload, 1) := by decide +kernel
theorem dL_law_536 : decode cL_law 536 = .ok (.iload 6, 2) := by decide +kernel
theorem dL_law_538 : decode cL_law 538 = .ok (.i2l, 1) := by decide +kernel
theorem dL_law_539 : decode cL_law 539 = .ok (.lcmp, 1) := by decide +kernel
theorem dL_law_540 : decode cL_law 540 = .ok (.ifCond .eq 5, 3) := by decide +kernel
theorem dL_law_543 : decode cL_law 543 = .ok (.iconst 0, 1) := by decide +kernel
theorem dL_law_544 : decode cL_law 544 = .ok (.ireturn, 1) := by decide +kernel
theorem dL_law_545 : decode cL_law 545 = .ok (.goto 1104, 3) := by decide +kernel
theorem dL_law_548 : decode cL_law 548 = .ok (.aload_n 1, 1) := by decide +kernel
theorem dL_law_549 : decode cL_law 549 = .ok (.invokevirtual 120, 3) := by decide +kernel
theorem dL_law_552 : decode cL_law 552 = .ok (.aload_n 2, 1) := by decide +kernel
theorem dL_law_553 : decode cL_law 553 = .ok (.invokevirtual 123, 3) := by decide +kernel
theorem dL_law_556 : decode cL_law 556 = .ok (.if_icmp .eq 1093, 3) := by decide +kernel
theorem dL_law_559 : decode cL_law 559 = .ok (.iconst 0, 1) := by decide +kernel
theorem dL_law_560 : decode cL_law 560 = .ok (.ireturn, 1) := by decide +kernel
theorem dL_law_561 : decode cL_law 561 = .ok (.aload_n 1, 1) := by decide +kernel
theorem dL_law_562 : decode cL_law 562 = .ok (.aload_n 0, 1) := by decide +kernel
theorem dL_law_563 : decode cL_law 563 = .ok (.iload 4, 2) := by decide +kernel
theorem dL_law_565 : decode cL_law 565 = .ok (.iconst 1, 1) := by decide +kernel
theorem dL_law_566 : decode cL_law 566 = .ok (.iadd, 1) := by decide +kernel
theorem dL_law_567 : decode cL_law 567 = .ok (.iaload, 1) := by decide +kernel
theorem dL_law_568 : decode cL_law 568 = .ok (.aload_n 0, 1) := by decide +kernel
theorem dL_law_569 : decode cL_law 569 = .ok (.iload 4, 2) := by decide +kernel
theorem dL_law_571 : decode cL_law 571 = .ok (.iconst 2, 1) := by decide +kernel
theorem dL_law_572 : decode cL_law 572 = .ok (.iadd, 1) := by decide +kernel
theorem dL_law_573 : decode cL_law 573 = .ok (.iaload, 1) := by decide +kernel
theorem dL_law_574 : decode cL_law 574 = .ok (.aload_n 0, 1) := by decide +kernel
theorem dL_law_575 : decode cL_law 575 = .ok (.iload 4, 2) := by decide +kernel
theorem dL_law_577 : decode cL_law 577 = .ok (.iconst 3, 1) := by decide +kernel
theorem dL_law_578 : decode cL_law 578 = .ok (.iadd, 1) := by decide +kernel
theorem dL_law_579 : decode cL_law 579 = .ok (.iaload, 1) := by decide +kernel
theorem dL_law_580 : decode cL_law 580 = .ok (.aload_n 3, 1) := by decide +kernel
theorem dL_law_581 : decode cL_law 581 = .ok (.invokestatic 124, 3) := by decide +kernel
theorem dL_law_584 : decode cL_law 584 = .ok (.istore 5, 2) := by decide +kernel
theorem dL_law_586 : decode cL_law 586 = .ok (.aload_n 2, 1) := by decide +kernel
theorem dL_law_587 : decode cL_law 587 = .ok (.aload_n 0, 1) := by decide +kernel
theorem dL_law_588 : decode cL_law 588 = .ok (.iload 4, 2) := by decide +kernel
theorem dL_law_590 : decode cL_law 590 = .ok (.iconst 1, 1) := by decide +kernel
theorem dL_law_591 : decode cL_law 591 = .ok (.iadd, 1) := by decide +kernel
theorem dL_law_592 : decode cL_law 592 = .ok (.iaload, 1) := by decide +kernel
theorem dL_law_593 : decode cL_law 593 = .ok (.aload_n 0, 1) := by decide +kernel
theorem dL_law_594 : decode cL_law 594 = .ok (.iload 4, 2) := by decide +kernel
theorem dL_law_596 : decode cL_law 596 = .ok (.iconst 2, 1) := by decide +kernel
theorem dL_law_597 : decode cL_law 597 = .ok (.iadd, 1) := by decide +kernel
theorem dL_law_598 : decode cL_law 598 = .ok (.iaload, 1) := by decide +kernel
theorem dL_law_599 : decode cL_law 599 = .ok (.aload_n 0, 1) := by decide +kernel
theorem dL_law_600 : decode cL_law 600 = .ok (.iload 4, 2) := by decide +kernel
theorem dL_law_602 : decode cL_law 602 = .ok (.iconst 3, 1) := by decide +kernel
theorem dL_law_603 : decode cL_law 603 = .ok (.iadd, 1) := by decide +kernel
theorem dL_law_604 : decode cL_law 604 = .ok (.iaload, 1) := by decide +kernel
theorem dL_law_605 : decode cL_law 605 = .ok (.invokevirtual 127, 3) := by decide +kernel
theorem dL_law_608 : decode cL_law 608 = .ok (.istore 6, 2) := by decide +kernel
theorem dL_law_610 : decode cL_law 610 = .ok (.aload_n 2, 1) := by decide +kernel
theorem dL_law_611 : decode cL_law 611 = .ok (.invokevirtual 100, 3) := by decide +kernel
theorem dL_law_614 : decode cL_law 614 = .ok (.iload 5, 2) := by decide +kernel
theorem dL_law_616 : decode cL_law 616 = .ok (.if_icmp .eq 5, 3) := by decide +kernel
theorem dL_law_619 : decode cL_law 619 = .ok (.iconst 0, 1) := by decide +kernel
theorem dL_law_620 : decode cL_law 620 = .ok (.ireturn, 1) := by decide +kernel
theorem dL_law_621 : decode cL_law 621 = .ok (.iload 5, 2) := by decide +kernel
theorem dL_law_623 : decode cL_law 623 = .ok (.ifCond .ne 15, 3) := by decide +kernel
theorem dL_law_626 : decode cL_law 626 = .ok (.aload_n 3, 1) := by decide +kernel
theorem dL_law_627 : decode cL_law 627 = .ok (.iconst 0, 1) := by decide +kernel
theorem dL_law_628 : decode cL_law 628 = .ok (.laload, 1) := by decide +kernel
theorem dL_law_629 : decode cL_law 629 = .ok (.iload 6, 2) := by decide +kernel
theorem dL_law_631 : decode cL_law 631 = .ok (.i2l, 1) := by decide +kernel
theorem dL_law_632 : decode cL_law 632 = .ok (.lcmp, 1) := by decide +kernel
theorem dL_law_633 : decode cL_law 633 = .ok (.ifCond .eq 5, 3) := by decide +kernel
theorem dL_law_636 : decode cL_law 636 = .ok (.iconst 0, 1) := by decide +kernel
theorem dL_law_637 : decode cL_law 637 = .ok (.ireturn, 1) := by decide +kernel
theorem dL_law_638 : decode cL_law 638 = .ok (.goto 1011, 3) := by decide +kernel
theorem dL_law_641 : decode cL_law 641 = .ok (.aload_n 1, 1) := by decide +kernel
theorem dL_law_642 : decode cL_law 642 = .ok (.aload_n 0, 1) := by decide +kernel
theorem dL_law_643 : decode cL_law 643 = .ok (.iload 4, 2) := by decide +kernel
theorem dL_law_645 : decode cL_law 645 = .ok (.iconst 1, 1) := by decide +kernel
theorem dL_law_646 : decode cL_law 646 = .ok (.iadd, 1) := by decide +kernel
theorem dL_law_647 : decode cL_law 647 = .ok (.iaload, 1) := by decide +kernel
theorem dL_law_648 : decode cL_law 648 = .ok (.aload_n 0, 1) := by decide +kernel
theorem dL_law_649 : decode cL_law 649 = .ok (.iload 4, 2) := by decide +kernel
theorem dL_law_651 : decode cL_law 651 = .ok (.iconst 2, 1) := by decide +kernel
theorem dL_law_652 : decode cL_law 652 = .ok (.iadd, 1) := by decide +kernel
theorem dL_law_653 : decode cL_law 653 = .ok (.iaload, 1) := by decide +kernel
theorem dL_law_654 : decode cL_law 654 = .ok (.aload_n 3, 1) := by decide +kernel
theorem dL_law_655 : decode cL_law 655 = .ok (.invokestatic 128, 3) := by decide +kernel
theorem dL_law_658 : decode cL_law 658 = .ok (.istore 5, 2) := by decide +kernel
theorem dL_law_660 : decode cL_law 660 = .ok (.aload_n 2, 1) := by decide +kernel
theorem dL_law_661 : decode cL_law 661 = .ok (.aload_n 0, 1) := by decide +kernel
theorem dL_law_662 : decode cL_law 662 = .ok (.iload 4, 2) := by decide +kernel
theorem dL_law_664 : decode cL_law 664 = .ok (.iconst 1, 1) := by decide +kernel
theorem dL_law_665 : decode cL_law 665 = .ok (.iadd, 1) := by decide +kernel
theorem dL_law_666 : decode cL_law 666 = .ok (.iaload, 1) := by decide +kernel
theorem dL_law_667 : decode cL_law 667 = .ok (.aload_n 0, 1) := by decide +kernel
theorem dL_law_668 : decode cL_law 668 = .ok (.iload 4, 2) := by decide +kernel
theorem dL_law_670 : decode cL_law 670 = .ok (.iconst 2, 1) := by decide +kernel
theorem dL_law_671 : decode cL_law 671 = .ok (.iadd, 1) := by decide +kernel
theorem dL_law_672 : decode cL_law 672 = .ok (.iaload, 1) := by decide +kernel
theorem dL_law_673 : decode cL_law 673 = .ok (.invokevirtual 130, 3) := by decide +kernel
theorem dL_law_676 : decode cL_law 676 = .ok (.istore 6, 2) := by decide +kernel
theorem dL_law_678 : decode cL_law 678 = .ok (.aload_n 2, 1) := by decide +kernel
theorem dL_law_679 : decode cL_law 679 = .ok (.invokevirtual 100, 3) := by decide +kernel
theorem dL_law_682 : decode cL_law 682 = .ok (.iload 5, 2) := by decide +kernel
theorem dL_law_684 : decode cL_law 684 = .ok (.if_icmp .eq 5, 3) := by decide +kernel
theorem dL_law_687 : decode cL_law 687 = .ok (.iconst 0, 1) := by decide +kernel
theorem dL_law_688 : decode cL_law 688 = .ok (.ireturn, 1) := by decide +kernel
theorem dL_law_689 : decode cL_law 689 = .ok (.iload 5, 2) := by decide +kernel
theorem dL_law_691 : decode cL_law 691 = .ok (.ifCond .ne 15, 3) := by decide +kernel
theorem dL_law_694 : decode cL_law 694 = .ok (.aload_n 3, 1) := by decide +kernel
theorem dL_law_695 : decode cL_law 695 = .ok (.iconst 0, 1) := by decide +kernel
theorem dL_law_696 : decode cL_law 696 = .ok (.laload, 1) := by decide +kernel
theorem dL_law_697 : decode cL_law 697 = .ok (.iload 6, 2) := by decide +kernel
theorem dL_law_699 : decode cL_law 699 = .ok (.i2l, 1) := by decide +kernel
theorem dL_law_700 : decode cL_law 700 = .ok (.lcmp, 1) := by decide +kernel
theorem dL_law_701 : decode cL_law 701 = .ok (.ifCond .eq 5, 3) := by decide +kernel
theorem dL_law_704 : decode cL_law 704 = .ok (.iconst 0, 1) := by decide +kernel
theorem dL_law_705 : decode cL_law 705 = .ok (.ireturn, 1) := by decide +kernel
theorem dL_law_706 : decode cL_law 706 = .ok (.goto 943, 3) := by decide +kernel
theorem dL_law_709 : decode cL_law 709 = .ok (.aload_n 1, 1) := by decide +kernel
theorem dL_law_710 : decode cL_law 710 = .ok (.aload_n 0, 1) := by decide +kernel
theorem dL_law_711 : decode cL_law 711 = .ok (.iload 4, 2) := by decide +kernel
theorem dL_law_713 : decode cL_law 713 = .ok (.iconst 1, 1) := by decide +kernel
theorem dL_law_714 : decode cL_law 714 = .ok (.iadd, 1) := by decide +kernel
theorem dL_law_715 : decode cL_law 715 = .ok (.iaload, 1) := by decide +kernel
theorem dL_law_716 : decode cL_law 716 = .ok (.aload_n 0, 1) := by decide +kernel
theorem dL_law_717 : decode cL_law 717 = .ok (.iload 4, 2) := by decide +kernel
theorem dL_law_719 : decode cL_law 719 = .ok (.iconst 2, 1) := by decide +kernel
theorem dL_law_720 : decode cL_law 720 = .ok (.iadd, 1) := by decide +kernel
theorem dL_law_721 : decode cL_law 721 = .ok (.iaload, 1) := by decide +kernel
theorem dL_law_722 : decode cL_law 722 = .ok (.aload_n 0, 1) := by decide +kernel
theorem dL_law_723 : decode cL_law 723 = .ok (.iload 4, 2) := by decide +kernel
theorem dL_law_725 : decode cL_law 725 = .ok (.iconst 3, 1) := by decide +kernel
theorem dL_law_726 : decode cL_law 726 = .ok (.iadd, 1) := by decide +kernel
theorem dL_law_727 : decode cL_law 727 = .ok (.iaload, 1) := by decide +kernel
theorem dL_law_728 : decode cL_law 728 = .ok (.ifCond .eq 7, 3) := by decide +kernel
theorem dL_law_731 : decode cL_law 731 = .ok (.iconst 1, 1) := by decide +kernel
theorem dL_law_732 : decode cL_law 732 = .ok (.goto 4, 3) := by decide +kernel
theorem dL_law_735 : decode cL_law 735 = .ok (.iconst 0, 1) := by decide +kernel
theorem dL_law_736 : decode cL_law 736 = .ok (.aload_n 3, 1) := by decide +kernel
theorem dL_law_737 : decode cL_law 737 = .ok (.invokestatic 131, 3) := by decide +kernel
theorem dL_law_740 : decode cL_law 740 = .ok (.istore 5, 2) := by decide +kernel
theorem dL_law_742 : decode cL_law 742 = .ok (.aload_n 2, 1) := by decide +kernel
theorem dL_law_743 : decode cL_law 743 = .ok (.aload_n 0, 1) := by decide +kernel
theorem dL_law_744 : decode cL_law 744 = .ok (.iload 4, 2) := by decide +kernel
theorem dL_law_746 : decode cL_law 746 = .ok (.iconst 1, 1) := by decide +kernel
theorem dL_law_747 : decode cL_law 747 = .ok (.iadd, 1) := by decide +kernel
theorem dL_law_748 : decode cL_law 748 = .ok (.iaload, 1) := by decide +kernel
theorem dL_law_749 : decode cL_law 749 = .ok (.aload_n 0, 1) := by decide +kernel
theorem dL_law_750 : decode cL_law 750 = .ok (.iload 4, 2) := by decide +kernel
theorem dL_law_752 : decode cL_law 752 = .ok (.iconst 2, 1) := by decide +kernel
theorem dL_law_753 : decode cL_law 753 = .ok (.iadd, 1) := by decide +kernel
theorem dL_law_754 : decode cL_law 754 = .ok (.iaload, 1) := by decide +kernel
theorem dL_law_755 : decode cL_law 755 = .ok (.aload_n 0, 1) := by decide +kernel
theorem dL_law_756 : decode cL_law 756 = .ok (.iload 4, 2) := by decide +kernel
theorem dL_law_758 : decode cL_law 758 = .ok (.iconst 3, 1) := by decide +kernel
theorem dL_law_759 : decode cL_law 759 = .ok (.iadd, 1) := by decide +kernel
theorem dL_law_760 : decode cL_law 760 = .ok (.iaload, 1) := by decide +kernel
theorem dL_law_761 : decode cL_law 761 = .ok (.ifCond .eq 7, 3) := by decide +kernel
theorem dL_law_764 : decode cL_law 764 = .ok (.iconst 1, 1) := by decide +kernel
theorem dL_law_765 : decode cL_law 765 = .ok (.goto 4, 3) := by decide +kernel
theorem dL_law_768 : decode cL_law 768 = .ok (.iconst 0, 1) := by decide +kernel
theorem dL_law_769 : decode cL_law 769 = .ok (.invokevirtual 134, 3) := by decide +kernel
theorem dL_law_772 : decode cL_law 772 = .ok (.istore 6, 2) := by decide +kernel
theorem dL_law_774 : decode cL_law 774 = .ok (.aload_n 2, 1) := by decide +kernel
theorem dL_law_775 : decode cL_law 775 = .ok (.invokevirtual 100, 3) := by decide +kernel
theorem dL_law_778 : decode cL_law 778 = .ok (.iload 5, 2) := by decide +kernel
theorem dL_law_780 : decode cL_law 780 = .ok (.if_icmp .eq 5, 3) := by decide +kernel
theorem dL_law_783 : decode cL_law 783 = .ok (.iconst 0, 1) := by decide +kernel
theorem dL_law_784 : decode cL_law 784 = .ok (.ireturn, 1) := by decide +kernel
theorem dL_law_785 : decode cL_law 785 = .ok (.iload 5, 2) := by decide +kernel
theorem dL_law_787 : decode cL_law 787 = .ok (.ifCond .ne 15, 3) := by decide +kernel
theorem dL_law_790 : decode cL_law 790 = .ok (.aload_n 3, 1) := by decide +kernel
theorem dL_law_791 : decode cL_law 791 = .ok (.iconst 0, 1) := by decide +kernel
theorem dL_law_792 : decode cL_law 792 = .ok (.laload, 1) := by decide +kernel
theorem dL_law_793 : decode cL_law 793 = .ok (.iload 6, 2) := by decide +kernel
theorem dL_law_795 : decode cL_law 795 = .ok (.i2l, 1) := by decide +kernel
theorem dL_law_796 : decode cL_law 796 = .ok (.lcmp, 1) := by decide +kernel
theorem dL_law_797 : decode cL_law 797 = .ok (.ifCond .eq 5, 3) := by decide +kernel
theorem dL_law_800 : decode cL_law 800 = .ok (.iconst 0, 1) := by decide +kernel
theorem dL_law_801 : decode cL_law 801 = .ok (.ireturn, 1) := by decide +kernel
theorem dL_law_802 : decode cL_law 802 = .ok (.goto 847, 3) := by decide +kernel
theorem dL_law_805 : decode cL_law 805 = .ok (.aload_n 1, 1) := by decide +kernel
theorem dL_law_806 : decode cL_law 806 = .ok (.aload_n 0, 1) := by decide +kernel
theorem dL_law_807 : decode cL_law 807 = .ok (.iload 4, 2) := by decide +kernel
theorem dL_law_809 : decode cL_law 809 = .ok (.iconst 1, 1) := by decide +kernel
theorem dL_law_810 : decode cL_law 810 = .ok (.iadd, 1) := by decide +kernel
theorem dL_law_811 : decode cL_law 811 = .ok (.iaload, 1) := by decide +kernel
theorem dL_law_812 : decode cL_law 812 = .ok (.aload_n 3, 1) := by decide +kernel
theorem dL_law_813 : decode cL_law 813 = .ok (.invokestatic 135, 3) := by decide +kernel
theorem dL_law_816 : decode cL_law 816 = .ok (.istore 5, 2) := by decide +kernel
theorem dL_law_818 : decode cL_law 818 = .ok (.aload_n 2, 1) := by decide +kernel
theorem dL_law_819 : decode cL_law 819 = .ok (.aload_n 0, 1) := by decide +kernel
theorem dL_law_820 : decode cL_law 820 = .ok (.iload 4, 2) := by decide +kernel
theorem dL_law_822 : decode cL_law 822 = .ok (.iconst 1, 1) := by decide +kernel
theorem dL_law_823 : decode cL_law 823 = .ok (.iadd, 1) := by decide +kernel
theorem dL_law_824 : decode cL_law 824 = .ok (.iaload, 1) := by decide +kernel
theorem dL_law_825 : decode cL_law 825 = .ok (.invokevirtual 138, 3) := by decide +kernel
theorem dL_law_828 : decode cL_law 828 = .ok (.istore 6, 2) := by decide +kernel
theorem dL_law_830 : decode cL_law 830 = .ok (.aload_n 2, 1) := by decide +kernel
theorem dL_law_831 : decode cL_law 831 = .ok (.invokevirtual 100, 3) := by decide +kernel
theorem dL_law_834 : decode cL_law 834 = .ok (.iload 5, 2) := by decide +kernel
theorem dL_law_836 : decode cL_law 836 = .ok (.if_icmp .eq 5, 3) := by decide +kernel
theorem dL_law_839 : decode cL_law 839 = .ok (.iconst 0, 1) := by decide +kernel
theorem dL_law_840 : decode cL_law 840 = .ok (.ireturn, 1) := by decide +kernel
theorem dL_law_841 : decode cL_law 841 = .ok (.iload 5, 2) := by decide +kernel
theorem dL_law_843 : decode cL_law 843 = .ok (.ifCond .ne 15, 3) := by decide +kernel
theorem dL_law_846 : decode cL_law 846 = .ok (.aload_n 3, 1) := by decide +kernel
theorem dL_law_847 : decode cL_law 847 = .ok (.iconst 0, 1) := by decide +kernel
theorem dL_law_848 : decode cL_law 848 = .ok (.laload, 1) := by decide +kernel
theorem dL_law_849 : decode cL_law 849 = .ok (.iload 6, 2) := by decide +kernel
theorem dL_law_851 : decode cL_law 851 = .ok (.i2l, 1) := by decide +kernel
theorem dL_law_852 : decode cL_law 852 = .ok (.lcmp, 1) := by decide +kernel
theorem dL_law_853 : decode cL_law 853 = .ok (.ifCond .eq 5, 3) := by decide +kernel
theorem dL_law_856 : decode cL_law 856 = .ok (.iconst 0, 1) := by decide +kernel
theorem dL_law_857 : decode cL_law 857 = .ok (.ireturn, 1) := by decide +kernel
theorem dL_law_858 : decode cL_law 858 = .ok (.goto 791, 3) := by decide +kernel
theorem dL_law_861 : decode cL_law 861 = .ok (.aload_n 1, 1) := by decide +kernel
theorem dL_law_862 : decode cL_law 862 = .ok (.aload_n 0, 1) := by decide +kernel
theorem dL_law_863 : decode cL_law 863 = .ok (.iload 4, 2) := by decide +kernel
theorem dL_law_865 : decode cL_law 865 = .ok (.iconst 1, 1) := by decide +kernel
theorem dL_law_866 : decode cL_law 866 = .ok (.iadd, 1) := by decide +kernel
theorem dL_law_867 : decode cL_law 867 = .ok (.iaload, 1) := by decide +kernel
theorem dL_law_868 : decode cL_law 868 = .ok (.aload_n 3, 1) := by decide +kernel
theorem dL_law_869 : decode cL_law 869 = .ok (.invokestatic 139, 3) := by decide +kernel
theorem dL_law_872 : decode cL_law 872 = .ok (.istore 5, 2) := by decide +kernel
theorem dL_law_874 : decode cL_law 874 = .ok (.aload_n 2, 1) := by decide +kernel
theorem dL_law_875 : decode cL_law 875 = .ok (.aload_n 0, 1) := by decide +kernel
theorem dL_law_876 : decode cL_law 876 = .ok (.iload 4, 2) := by decide +kernel
theorem dL_law_878 : decode cL_law 878 = .ok (.iconst 1, 1) := by decide +kernel
theorem dL_law_879 : decode cL_law 879 = .ok (.iadd, 1) := by decide +kernel
theorem dL_law_880 : decode cL_law 880 = .ok (.iaload, 1) := by decide +kernel
theorem dL_law_881 : decode cL_law 881 = .ok (.invokevirtual 141, 3) := by decide +kernel
theorem dL_law_884 : decode cL_law 884 = .ok (.istore 6, 2) := by decide +kernel
theorem dL_law_886 : decode cL_law 886 = .ok (.aload_n 2, 1) := by decide +kernel
theorem dL_law_887 : decode cL_law 887 = .ok (.invokevirtual 100, 3) := by decide +kernel
theorem dL_law_890 : decode cL_law 890 = .ok (.iload 5, 2) := by decide +kernel
theorem dL_law_892 : decode cL_law 892 = .ok (.if_icmp .eq 5, 3) := by decide +kernel
theorem dL_law_895 : decode cL_law 895 = .ok (.iconst 0, 1) := by decide +kernel
theorem dL_law_896 : decode cL_law 896 = .ok (.ireturn, 1) := by decide +kernel
theorem dL_law_897 : decode cL_law 897 = .ok (.iload 5, 2) := by decide +kernel
theorem dL_law_899 : decode cL_law 899 = .ok (.ifCond .ne 15, 3) := by decide +kernel
theorem dL_law_902 : decode cL_law 902 = .ok (.aload_n 3, 1) := by decide +kernel
theorem dL_law_903 : decode cL_law 903 = .ok (.iconst 0, 1) := by decide +kernel
theorem dL_law_904 : decode cL_law 904 = .ok (.laload, 1) := by decide +kernel
theorem dL_law_905 : decode cL_law 905 = .ok (.iload 6, 2) := by decide +kernel
theorem dL_law_907 : decode cL_law 907 = .ok (.i2l, 1) := by decide +kernel
theorem dL_law_908 : decode cL_law 908 = .ok (.lcmp, 1) := by decide +kernel
theorem dL_law_909 : decode cL_law 909 = .ok (.ifCond .eq 5, 3) := by decide +kernel
theorem dL_law_912 : decode cL_law 912 = .ok (.iconst 0, 1) := by decide +kernel
theorem dL_law_913 : decode cL_law 913 = .ok (.ireturn, 1) := by decide +kernel
theorem dL_law_914 : decode cL_law 914 = .ok (.goto 735, 3) := by decide +kernel
theorem dL_law_917 : decode cL_law 917 = .ok (.aload_n 1, 1) := by decide +kernel
theorem dL_law_918 : decode cL_law 918 = .ok (.aload_n 0, 1) := by decide +kernel
theorem dL_law_919 : decode cL_law 919 = .ok (.iload 4, 2) := by decide +kernel
theorem dL_law_921 : decode cL_law 921 = .ok (.iconst 1, 1) := by decide +kernel
theorem dL_law_922 : decode cL_law 922 = .ok (.iadd, 1) := by decide +kernel
theorem dL_law_923 : decode cL_law 923 = .ok (.iaload, 1) := by decide +kernel
theorem dL_law_924 : decode cL_law 924 = .ok (.aload_n 3, 1) := by decide +kernel
theorem dL_law_925 : decode cL_law 925 = .ok (.invokestatic 142, 3) := by decide +kernel
theorem dL_law_928 : decode cL_law 928 = .ok (.istore 5, 2) := by decide +kernel
theorem dL_law_930 : decode cL_law 930 = .ok (.aload_n 2, 1) := by decide +kernel
theorem dL_law_931 : decode cL_law 931 = .ok (.aload_n 0, 1) := by decide +kernel
theorem dL_law_932 : decode cL_law 932 = .ok (.iload 4, 2) := by decide +kernel
theorem dL_law_934 : decode cL_law 934 = .ok (.iconst 1, 1) := by decide +kernel
theorem dL_law_935 : decode cL_law 935 = .ok (.iadd, 1) := by decide +kernel
theorem dL_law_936 : decode cL_law 936 = .ok (.iaload, 1) := by decide +kernel
theorem dL_law_937 : decode cL_law 937 = .ok (.invokevirtual 144, 3) := by decide +kernel
theorem dL_law_940 : decode cL_law 940 = .ok (.istore 6, 2) := by decide +kernel
theorem dL_law_942 : decode cL_law 942 = .ok (.aload_n 2, 1) := by decide +kernel
theorem dL_law_943 : decode cL_law 943 = .ok (.invokevirtual 100, 3) := by decide +kernel
theorem dL_law_946 : decode cL_law 946 = .ok (.iload 5, 2) := by decide +kernel
theorem dL_law_948 : decode cL_law 948 = .ok (.if_icmp .eq 5, 3) := by decide +kernel
theorem dL_law_951 : decode cL_law 951 = .ok (.iconst 0, 1) := by decide +kernel
theorem dL_law_952 : decode cL_law 952 = .ok (.ireturn, 1) := by decide +kernel
theorem dL_law_953 : decode cL_law 953 = .ok (.iload 5, 2) := by decide +kernel
theorem dL_law_955 : decode cL_law 955 = .ok (.ifCond .ne 15, 3) := by decide +kernel
theorem dL_law_958 : decode cL_law 958 = .ok (.aload_n 3, 1) := by decide +kernel
theorem dL_law_959 : decode cL_law 959 = .ok (.iconst 0, 1) := by decide +kernel
theorem dL_law_960 : decode cL_law 960 = .ok (.laload, 1) := by decide +kernel
theorem dL_law_961 : decode cL_law 961 = .ok (.iload 6, 2) := by decide +kernel
theorem dL_law_963 : decode cL_law 963 = .ok (.i2l, 1) := by decide +kernel
theorem dL_law_964 : decode cL_law 964 = .ok (.lcmp, 1) := by decide +kernel
theorem dL_law_965 : decode cL_law 965 = .ok (.ifCond .eq 5, 3) := by decide +kernel
theorem dL_law_968 : decode cL_law 968 = .ok (.iconst 0, 1) := by decide +kernel
theorem dL_law_969 : decode cL_law 969 = .ok (.ireturn, 1) := by decide +kernel
theorem dL_law_970 : decode cL_law 970 = .ok (.goto 679, 3) := by decide +kernel
theorem dL_law_973 : decode cL_law 973 = .ok (.aload_n 1, 1) := by decide +kernel
theorem dL_law_974 : decode cL_law 974 = .ok (.invokevirtual 145, 3) := by decide +kernel
theorem dL_law_977 : decode cL_law 977 = .ok (.aload_n 2, 1) := by decide +kernel
theorem dL_law_978 : decode cL_law 978 = .ok (.invokevirtual 148, 3) := by decide +kernel
theorem dL_law_981 : decode cL_law 981 = .ok (.if_icmp .eq 668, 3) := by decide +kernel
theorem dL_law_984 : decode cL_law 984 = .ok (.iconst 0, 1) := by decide +kernel
theorem dL_law_985 : decode cL_law 985 = .ok (.ireturn, 1) := by decide +kernel
theorem dL_law_986 : decode cL_law 986 = .ok (.aload_n 1, 1) := by decide +kernel
theorem dL_law_987 : decode cL_law 987 = .ok (.aload_n 0, 1) := by decide +kernel
theorem dL_law_988 : decode cL_law 988 = .ok (.iload 4, 2) := by decide +kernel
theorem dL_law_990 : decode cL_law 990 = .ok (.iconst 1, 1) := by decide +kernel
theorem dL_law_991 : decode cL_law 991 = .ok (.iadd, 1) := by decide +kernel
theorem dL_law_992 : decode cL_law 992 = .ok (.iaload, 1) := by decide +kernel
theorem dL_law_993 : decode cL_law 993 = .ok (.aload_n 3, 1) := by decide +kernel
theorem dL_law_994 : decode cL_law 994 = .ok (.invokestatic 149, 3) := by decide +kernel
theorem dL_law_997 : decode cL_law 997 = .ok (.istore 5, 2) := by decide +kernel
theorem dL_law_999 : decode cL_law 999 = .ok (.aload_n 2, 1) := by decide +kernel
theorem dL_law_1000 : decode cL_law 1000 = .ok (.aload_n 0, 1) := by decide +kernel
theorem dL_law_1001 : decode cL_law 1001 = .ok (.iload 4, 2) := by decide +kernel
theorem dL_law_1003 : decode cL_law 1003 = .ok (.iconst 1, 1) := by decide +kernel
theorem dL_law_1004 : decode cL_law 1004 = .ok (.iadd, 1) := by decide +kernel
theorem dL_law_1005 : decode cL_law 1005 = .ok (.iaload, 1) := by decide +kernel
theorem dL_law_1006 : decode cL_law 1006 = .ok (.invokevirtual 151, 3) := by decide +kernel
theorem dL_law_1009 : decode cL_law 1009 = .ok (.istore 6, 2) := by decide +kernel
theorem dL_law_1011 : decode cL_law 1011 = .ok (.aload_n 2, 1) := by decide +kernel
theorem dL_law_1012 : decode cL_law 1012 = .ok (.invokevirtual 100, 3) := by decide +kernel
theorem dL_law_1015 : decode cL_law 1015 = .ok (.iload 5, 2) := by decide +kernel
theorem dL_law_1017 : decode cL_law 1017 = .ok (.if_icmp .eq 5, 3) := by decide +kernel
theorem dL_law_1020 : decode cL_law 1020 = .ok (.iconst 0, 1) := by decide +kernel
theorem dL_law_1021 : decode cL_law 1021 = .ok (.ireturn, 1) := by decide +kernel
theorem dL_law_1022 : decode cL_law 1022 = .ok (.iload 5, 2) := by decide +kernel
theorem dL_law_1024 : decode cL_law 1024 = .ok (.ifCond .ne 15, 3) := by decide +kernel
theorem dL_law_1027 : decode cL_law 1027 = .ok (.aload_n 3, 1) := by decide +kernel
theorem dL_law_1028 : decode cL_law 1028 = .ok (.iconst 0, 1) := by decide +kernel
theorem dL_law_1029 : decode cL_law 1029 = .ok (.laload, 1) := by decide +kernel
theorem dL_law_1030 : decode cL_law 1030 = .ok (.iload 6, 2) := by decide +kernel
theorem dL_law_1032 : decode cL_law 1032 = .ok (.i2l, 1) := by decide +kernel
theorem dL_law_1033 : decode cL_law 1033 = .ok (.lcmp, 1) := by decide +kernel
theorem dL_law_1034 : decode cL_law 1034 = .ok (.ifCond .eq 5, 3) := by decide +kernel
theorem dL_law_1037 : decode cL_law 1037 = .ok (.iconst 0, 1) := by decide +kernel
theorem dL_law_1038 : decode cL_law 1038 = .ok (.ireturn, 1) := by decide +kernel
theorem dL_law_1039 : decode cL_law 1039 = .ok (.goto 610, 3) := by decide +kernel
theorem dL_law_1042 : decode cL_law 1042 = .ok (.aload_n 1, 1) := by decide +kernel
theorem dL_law_1043 : decode cL_law 1043 = .ok (.aload_n 0, 1) := by decide +kernel
theorem dL_law_1044 : decode cL_law 1044 = .ok (.iload 4, 2) := by decide +kernel
theorem dL_law_1046 : decode cL_law 1046 = .ok (.iconst 1, 1) := by decide +kernel
theorem dL_law_1047 : decode cL_law 1047 = .ok (.iadd, 1) := by decide +kernel
theorem dL_law_1048 : decode cL_law 1048 = .ok (.iaload, 1) := by decide +kernel
theorem dL_law_1049 : decode cL_law 1049 = .ok (.aload_n 0, 1) := by decide +kernel
theorem dL_law_1050 : decode cL_law 1050 = .ok (.iload 4, 2) := by decide +kernel
theorem dL_law_1052 : decode cL_law 1052 = .ok (.iconst 2, 1) := by decide +kernel
theorem dL_law_1053 : decode cL_law 1053 = .ok (.iadd, 1) := by decide +kernel
theorem dL_law_1054 : decode cL_law 1054 = .ok (.iaload, 1) := by decide +kernel
theorem dL_law_1055 : decode cL_law 1055 = .ok (.aload_n 3, 1) := by decide +kernel
theorem dL_law_1056 : decode cL_law 1056 = .ok (.invokestatic 152, 3) := by decide +kernel
theorem dL_law_1059 : decode cL_law 1059 = .ok (.istore 5, 2) := by decide +kernel
theorem dL_law_1061 : decode cL_law 1061 = .ok (.aload_n 2, 1) := by decide +kernel
theorem dL_law_1062 : decode cL_law 1062 = .ok (.aload_n 0, 1) := by decide +kernel
theorem dL_law_1063 : decode cL_law 1063 = .ok (.iload 4, 2) := by decide +kernel
theorem dL_law_1065 : decode cL_law 1065 = .ok (.iconst 1, 1) := by decide +kernel
theorem dL_law_1066 : decode cL_law 1066 = .ok (.iadd, 1) := by decide +kernel
theorem dL_law_1067 : decode cL_law 1067 = .ok (.iaload, 1) := by decide +kernel
theorem dL_law_1068 : decode cL_law 1068 = .ok (.aload_n 0, 1) := by decide +kernel
theorem dL_law_1069 : decode cL_law 1069 = .ok (.iload 4, 2) := by decide +kernel
theorem dL_law_1071 : decode cL_law 1071 = .ok (.iconst 2, 1) := by decide +kernel
theorem dL_law_1072 : decode cL_law 1072 = .ok (.iadd, 1) := by decide +kernel
theorem dL_law_1073 : decode cL_law 1073 = .ok (.iaload, 1) := by decide +kernel
theorem dL_law_1074 : decode cL_law 1074 = .ok (.invokevirtual 154, 3) := by decide +kernel
theorem dL_law_1077 : decode cL_law 1077 = .ok (.istore 6, 2) := by decide +kernel
theorem dL_law_1079 : decode cL_law 1079 = .ok (.aload_n 2, 1) := by decide +kernel
theorem dL_law_1080 : decode cL_law 1080 = .ok (.invokevirtual 100, 3) := by decide +kernel
theorem dL_law_1083 : decode cL_law 1083 = .ok (.iload 5, 2) := by decide +kernel
theorem dL_law_1085 : decode cL_law 1085 = .ok (.if_icmp .eq 5, 3) := by decide +kernel
theorem dL_law_1088 : decode cL_law 1088 = .ok (.iconst 0, 1) := by decide +kernel
theorem dL_law_1089 : decode cL_law 1089 = .ok (.ireturn, 1) := by decide +kernel
theorem dL_law_1090 : decode cL_law 1090 = .ok (.iload 5, 2) := by decide +kernel
theorem dL_law_1092 : decode cL_law 1092 = .ok (.ifCond .ne 15, 3) := by decide +kernel
theorem dL_law_1095 : decode cL_law 1095 = .ok (.aload_n 3, 1) := by decide +kernel
theorem dL_law_1096 : decode cL_law 1096 = .ok (.iconst 0, 1) := by decide +kernel
theorem dL_law_1097 : decode cL_law 1097 = .ok (.laload, 1) := by decide +kernel
theorem dL_law_1098 : decode cL_law 1098 = .ok (.iload 6, 2) := by decide +kernel
theorem dL_law_1100 : decode cL_law 1100 = .ok (.i2l, 1) := by decide +kernel
theorem dL_law_1101 : decode cL_law 1101 = .ok (.lcmp, 1) := by decide +kernel
theorem dL_law_1102 : decode cL_law 1102 = .ok (.ifCond .eq 5, 3) := by decide +kernel
theorem dL_law_1105 : decode cL_law 1105 = .ok (.iconst 0, 1) := by decide +kernel
theorem dL_law_1106 : decode cL_law 1106 = .ok (.ireturn, 1) := by decide +kernel
theorem dL_law_1107 : decode cL_law 1107 = .ok (.goto 542, 3) := by decide +kernel
theorem dL_law_1110 : decode cL_law 1110 = .ok (.aload_n 1, 1) := by decide +kernel
theorem dL_law_1111 : decode cL_law 1111 = .ok (.aload_n 0, 1) := by decide +kernel
theorem dL_law_1112 : decode cL_law 1112 = .ok (.iload 4, 2) := by decide +kernel
theorem dL_law_1114 : decode cL_law 1114 = .ok (.iconst 1, 1) := by decide +kernel
theorem dL_law_1115 : decode cL_law 1115 = .ok (.iadd, 1) := by decide +kernel
theorem dL_law_1116 : decode cL_law 1116 = .ok (.iaload, 1) := by decide +kernel
theorem dL_law_1117 : decode cL_law 1117 = .ok (.aload_n 0, 1) := by decide +kernel
theorem dL_law_1118 : decode cL_law 1118 = .ok (.iload 4, 2) := by decide +kernel
theorem dL_law_1120 : decode cL_law 1120 = .ok (.iconst 2, 1) := by decide +kernel
theorem dL_law_1121 : decode cL_law 1121 = .ok (.iadd, 1) := by decide +kernel
theorem dL_law_1122 : decode cL_law 1122 = .ok (.iaload, 1) := by decide +kernel
theorem dL_law_1123 : decode cL_law 1123 = .ok (.aload_n 3, 1) := by decide +kernel
theorem dL_law_1124 : decode cL_law 1124 = .ok (.invokestatic 155, 3) := by decide +kernel
theorem dL_law_1127 : decode cL_law 1127 = .ok (.istore 5, 2) := by decide +kernel
theorem dL_law_1129 : decode cL_law 1129 = .ok (.aload_n 2, 1) := by decide +kernel
theorem dL_law_1130 : decode cL_law 1130 = .ok (.aload_n 0, 1) := by decide +kernel
theorem dL_law_1131 : decode cL_law 1131 = .ok (.iload 4, 2) := by decide +kernel
theorem dL_law_1133 : decode cL_law 1133 = .ok (.iconst 1, 1) := by decide +kernel
theorem dL_law_1134 : decode cL_law 1134 = .ok (.iadd, 1) := by decide +kernel
theorem dL_law_1135 : decode cL_law 1135 = .ok (.iaload, 1) := by decide +kernel
theorem dL_law_1136 : decode cL_law 1136 = .ok (.aload_n 0, 1) := by decide +kernel
theorem dL_law_1137 : decode cL_law 1137 = .ok (.iload 4, 2) := by decide +kernel
theorem dL_law_1139 : decode cL_law 1139 = .ok (.iconst 2, 1) := by decide +kernel
theorem dL_law_1140 : decode cL_law 1140 = .ok (.iadd, 1) := by decide +kernel
theorem dL_law_1141 : decode cL_law 1141 = .ok (.iaload, 1) := by decide +kernel
theorem dL_law_1142 : decode cL_law 1142 = .ok (.invokevirtual 157, 3) := by decide +kernel
theorem dL_law_1145 : decode cL_law 1145 = .ok (.istore 6, 2) := by decide +kernel
theorem dL_law_1147 : decode cL_law 1147 = .ok (.aload_n 2, 1) := by decide +kernel
theorem dL_law_1148 : decode cL_law 1148 = .ok (.invokevirtual 100, 3) := by decide +kernel
theorem dL_law_1151 : decode cL_law 1151 = .ok (.iload 5, 2) := by decide +kernel
theorem dL_law_1153 : decode cL_law 1153 = .ok (.if_icmp .eq 5, 3) := by decide +kernel
theorem dL_law_1156 : decode cL_law 1156 = .ok (.iconst 0, 1) := by decide +kernel
theorem dL_law_1157 : decode cL_law 1157 = .ok (.ireturn, 1) := by decide +kernel
theorem dL_law_1158 : decode cL_law 1158 = .ok (.iload 5, 2) := by decide +kernel
theorem dL_law_1160 : decode cL_law 1160 = .ok (.ifCond .ne 15, 3) := by decide +kernel
theorem dL_law_1163 : decode cL_law 1163 = .ok (.aload_n 3, 1) := by decide +kernel
theorem dL_law_1164 : decode cL_law 1164 = .ok (.iconst 0, 1) := by decide +kernel
theorem dL_law_1165 : decode cL_law 1165 = .ok (.laload, 1) := by decide +kernel
theorem dL_law_1166 : decode cL_law 1166 = .ok (.iload 6, 2) := by decide +kernel
theorem dL_law_1168 : decode cL_law 1168 = .ok (.i2l, 1) := by decide +kernel
theorem dL_law_1169 : decode cL_law 1169 = .ok (.lcmp, 1) := by decide +kernel
theorem dL_law_1170 : decode cL_law 1170 = .ok (.ifCond .eq 5, 3) := by decide +kernel
theorem dL_law_1173 : decode cL_law 1173 = .ok (.iconst 0, 1) := by decide +kernel
theorem dL_law_1174 : decode cL_law 1174 = .ok (.ireturn, 1) := by decide +kernel
theorem dL_law_1175 : decode cL_law 1175 = .ok (.goto 474, 3) := by decide +kernel
theorem dL_law_1178 : decode cL_law 1178 = .ok (.aload_n 1, 1) := by decide +kernel
theorem dL_law_1179 : decode cL_law 1179 = .ok (.aload_n 0, 1) := by decide +kernel
theorem dL_law_1180 : decode cL_law 1180 = .ok (.iload 4, 2) := by decide +kernel
theorem dL_law_1182 : decode cL_law 1182 = .ok (.iconst 1, 1) := by decide +kernel
theorem dL_law_1183 : decode cL_law 1183 = .ok (.iadd, 1) := by decide +kernel
theorem dL_law_1184 : decode cL_law 1184 = .ok (.iaload, 1) := by decide +kernel
theorem dL_law_1185 : decode cL_law 1185 = .ok (.aload_n 0, 1) := by decide +kernel
theorem dL_law_1186 : decode cL_law 1186 = .ok (.iload 4, 2) := by decide +kernel
theorem dL_law_1188 : decode cL_law 1188 = .ok (.iconst 2, 1) := by decide +kernel
theorem dL_law_1189 : decode cL_law 1189 = .ok (.iadd, 1) := by decide +kernel
theorem dL_law_1190 : decode cL_law 1190 = .ok (.iaload, 1) := by decide +kernel
theorem dL_law_1191 : decode cL_law 1191 = .ok (.aload_n 0, 1) := by decide +kernel
theorem dL_law_1192 : decode cL_law 1192 = .ok (.iload 4, 2) := by decide +kernel
theorem dL_law_1194 : decode cL_law 1194 = .ok (.iconst 3, 1) := by decide +kernel
theorem dL_law_1195 : decode cL_law 1195 = .ok (.iadd, 1) := by decide +kernel
theorem dL_law_1196 : decode cL_law 1196 = .ok (.iaload, 1) := by decide +kernel
theorem dL_law_1197 : decode cL_law 1197 = .ok (.aload_n 3, 1) := by decide +kernel
theorem dL_law_1198 : decode cL_law 1198 = .ok (.invokestatic 158, 3) := by decide +kernel
theorem dL_law_1201 : decode cL_law 1201 = .ok (.istore 5, 2) := by decide +kernel
theorem dL_law_1203 : decode cL_law 1203 = .ok (.aload_n 2, 1) := by decide +kernel
theorem dL_law_1204 : decode cL_law 1204 = .ok (.aload_n 0, 1) := by decide +kernel
theorem dL_law_1205 : decode cL_law 1205 = .ok (.iload 4, 2) := by decide +kernel
theorem dL_law_1207 : decode cL_law 1207 = .ok (.iconst 1, 1) := by decide +kernel
theorem dL_law_1208 : decode cL_law 1208 = .ok (.iadd, 1) := by decide +kernel
theorem dL_law_1209 : decode cL_law 1209 = .ok (.iaload, 1) := by decide +kernel
theorem dL_law_1210 : decode cL_law 1210 = .ok (.aload_n 0, 1) := by decide +kernel
theorem dL_law_1211 : decode cL_law 1211 = .ok (.iload 4, 2) := by decide +kernel
theorem dL_law_1213 : decode cL_law 1213 = .ok (.iconst 2, 1) := by decide +kernel
theorem dL_law_1214 : decode cL_law 1214 = .ok (.iadd, 1) := by decide +kernel
theorem dL_law_1215 : decode cL_law 1215 = .ok (.iaload, 1) := by decide +kernel
theorem dL_law_1216 : decode cL_law 1216 = .ok (.aload_n 0, 1) := by decide +kernel
theorem dL_law_1217 : decode cL_law 1217 = .ok (.iload 4, 2) := by decide +kernel
theorem dL_law_1219 : decode cL_law 1219 = .ok (.iconst 3, 1) := by decide +kernel
theorem dL_law_1220 : decode cL_law 1220 = .ok (.iadd, 1) := by decide +kernel
theorem dL_law_1221 : decode cL_law 1221 = .ok (.iaload, 1) := by decide +kernel
theorem dL_law_1222 : decode cL_law 1222 = .ok (.invokevirtual 160, 3) := by decide +kernel
theorem dL_law_1225 : decode cL_law 1225 = .ok (.istore 6, 2) := by decide +kernel
theorem dL_law_1227 : decode cL_law 1227 = .ok (.aload_n 2, 1) := by decide +kernel
theorem dL_law_1228 : decode cL_law 1228 = .ok (.invokevirtual 100, 3) := by decide +kernel
theorem dL_law_1231 : decode cL_law 1231 = .ok (.iload 5, 2) := by decide +kernel
theorem dL_law_1233 : decode cL_law 1233 = .ok (.if_icmp .eq 5, 3) := by decide +kernel
theorem dL_law_1236 : decode cL_law 1236 = .ok (.iconst 0, 1) := by decide +kernel
theorem dL_law_1237 : decode cL_law 1237 = .ok (.ireturn, 1) := by decide +kernel
theorem dL_law_1238 : decode cL_law 1238 = .ok (.iload 5, 2) := by decide +kernel
theorem dL_law_1240 : decode cL_law 1240 = .ok (.ifCond .ne 15, 3) := by decide +kernel
theorem dL_law_1243 : decode cL_law 1243 = .ok (.aload_n 3, 1) := by decide +kernel
theorem dL_law_1244 : decode cL_law 1244 = .ok (.iconst 0, 1) := by decide +kernel
theorem dL_law_1245 : decode cL_law 1245 = .ok (.laload, 1) := by decide +kernel
theorem dL_law_1246 : decode cL_law 1246 = .ok (.iload 6, 2) := by decide +kernel
theorem dL_law_1248 : decode cL_law 1248 = .ok (.i2l, 1) := by decide +kernel
theorem dL_law_1249 : decode cL_law 1249 = .ok (.lcmp, 1) := by decide +kernel
theorem dL_law_1250 : decode cL_law 1250 = .ok (.ifCond .eq 5, 3) := by decide +kernel
theorem dL_law_1253 : decode cL_law 1253 = .ok (.iconst 0, 1) := by decide +kernel
theorem dL_law_1254 : decode cL_law 1254 = .ok (.ireturn, 1) := by decide +kernel
theorem dL_law_1255 : decode cL_law 1255 = .ok (.goto 394, 3) := by decide +kernel
theorem dL_law_1258 : decode cL_law 1258 = .ok (.aload_n 1, 1) := by decide +kernel
theorem dL_law_1259 : decode cL_law 1259 = .ok (.aload_n 0, 1) := by decide +kernel
theorem dL_law_1260 : decode cL_law 1260 = .ok (.iload 4, 2) := by decide +kernel
theorem dL_law_1262 : decode cL_law 1262 = .ok (.iconst 1, 1) := by decide +kernel
theorem dL_law_1263 : decode cL_law 1263 = .ok (.iadd, 1) := by decide +kernel
theorem dL_law_1264 : decode cL_law 1264 = .ok (.iaload, 1) := by decide +kernel
theorem dL_law_1265 : decode cL_law 1265 = .ok (.aload_n 3, 1) := by decide +kernel
theorem dL_law_1266 : decode cL_law 1266 = .ok (.invokestatic 161, 3) := by decide +kernel
theorem dL_law_1269 : decode cL_law 1269 = .ok (.istore 5, 2) := by decide +kernel
theorem dL_law_1271 : decode cL_law 1271 = .ok (.aload_n 2, 1) := by decide +kernel
theorem dL_law_1272 : decode cL_law 1272 = .ok (.aload_n 0, 1) := by decide +kernel
theorem dL_law_1273 : decode cL_law 1273 = .ok (.iload 4, 2) := by decide +kernel
theorem dL_law_1275 : decode cL_law 1275 = .ok (.iconst 1, 1) := by decide +kernel
theorem dL_law_1276 : decode cL_law 1276 = .ok (.iadd, 1) := by decide +kernel
theorem dL_law_1277 : decode cL_law 1277 = .ok (.iaload, 1) := by decide +kernel
theorem dL_law_1278 : decode cL_law 1278 = .ok (.invokevirtual 163, 3) := by decide +kernel
theorem dL_law_1281 : decode cL_law 1281 = .ok (.istore 6, 2) := by decide +kernel
theorem dL_law_1283 : decode cL_law 1283 = .ok (.aload_n 2, 1) := by decide +kernel
theorem dL_law_1284 : decode cL_law 1284 = .ok (.invokevirtual 100, 3) := by decide +kernel
theorem dL_law_1287 : decode cL_law 1287 = .ok (.iload 5, 2) := by decide +kernel
theorem dL_law_1289 : decode cL_law 1289 = .ok (.if_icmp .eq 5, 3) := by decide +kernel
theorem dL_law_1292 : decode cL_law 1292 = .ok (.iconst 0, 1) := by decide +kernel
theorem dL_law_1293 : decode cL_law 1293 = .ok (.ireturn, 1) := by decide +kernel
theorem dL_law_1294 : decode cL_law 1294 = .ok (.iload 5, 2) := by decide +kernel
theorem dL_law_1296 : decode cL_law 1296 = .ok (.ifCond .ne 15, 3) := by decide +kernel
theorem dL_law_1299 : decode cL_law 1299 = .ok (.aload_n 3, 1) := by decide +kernel
theorem dL_law_1300 : decode cL_law 1300 = .ok (.iconst 0, 1) := by decide +kernel
theorem dL_law_1301 : decode cL_law 1301 = .ok (.laload, 1) := by decide +kernel
theorem dL_law_1302 : decode cL_law 1302 = .ok (.iload 6, 2) := by decide +kernel
theorem dL_law_1304 : decode cL_law 1304 = .ok (.i2l, 1) := by decide +kernel
theorem dL_law_1305 : decode cL_law 1305 = .ok (.lcmp, 1) := by decide +kernel
theorem dL_law_1306 : decode cL_law 1306 = .ok (.ifCond .eq 5, 3) := by decide +kernel
theorem dL_law_1309 : decode cL_law 1309 = .ok (.iconst 0, 1) := by decide +kernel
theorem dL_law_1310 : decode cL_law 1310 = .ok (.ireturn, 1) := by decide +kernel
theorem dL_law_1311 : decode cL_law 1311 = .ok (.goto 338, 3) := by decide +kernel
theorem dL_law_1314 : decode cL_law 1314 = .ok (.aload_n 1, 1) := by decide +kernel
theorem dL_law_1315 : decode cL_law 1315 = .ok (.aload_n 0, 1) := by decide +kernel
theorem dL_law_1316 : decode cL_law 1316 = .ok (.iload 4, 2) := by decide +kernel
theorem dL_law_1318 : decode cL_law 1318 = .ok (.iconst 1, 1) := by decide +kernel
theorem dL_law_1319 : decode cL_law 1319 = .ok (.iadd, 1) := by decide +kernel
theorem dL_law_1320 : decode cL_law 1320 = .ok (.iaload, 1) := by decide +kernel
theorem dL_law_1321 : decode cL_law 1321 = .ok (.aload_n 3, 1) := by decide +kernel
theorem dL_law_1322 : decode cL_law 1322 = .ok (.invokestatic 164, 3) := by decide +kernel
theorem dL_law_1325 : decode cL_law 1325 = .ok (.istore 5, 2) := by decide +kernel
theorem dL_law_1327 : decode cL_law 1327 = .ok (.aload_n 2, 1) := by decide +kernel
theorem dL_law_1328 : decode cL_law 1328 = .ok (.aload_n 0, 1) := by decide +kernel
theorem dL_law_1329 : decode cL_law 1329 = .ok (.iload 4, 2) := by decide +kernel
theorem dL_law_1331 : decode cL_law 1331 = .ok (.iconst 1, 1) := by decide +kernel
theorem dL_law_1332 : decode cL_law 1332 = .ok (.iadd, 1) := by decide +kernel
theorem dL_law_1333 : decode cL_law 1333 = .ok (.iaload, 1) := by decide +kernel
theorem dL_law_1334 : decode cL_law 1334 = .ok (.invokevirtual 166, 3) := by decide +kernel
theorem dL_law_1337 : decode cL_law 1337 = .ok (.istore 6, 2) := by decide +kernel
theorem dL_law_1339 : decode cL_law 1339 = .ok (.aload_n 2, 1) := by decide +kernel
theorem dL_law_1340 : decode cL_law 1340 = .ok (.invokevirtual 100, 3) := by decide +kernel
theorem dL_law_1343 : decode cL_law 1343 = .ok (.iload 5, 2) := by decide +kernel
theorem dL_law_1345 : decode cL_law 1345 = .ok (.if_icmp .eq 5, 3) := by decide +kernel
theorem dL_law_1348 : decode cL_law 1348 = .ok (.iconst 0, 1) := by decide +kernel
theorem dL_law_1349 : decode cL_law 1349 = .ok (.ireturn, 1) := by decide +kernel
theorem dL_law_1350 : decode cL_law 1350 = .ok (.iload 5, 2) := by decide +kernel
theorem dL_law_1352 : decode cL_law 1352 = .ok (.ifCond .ne 15, 3) := by decide +kernel
theorem dL_law_1355 : decode cL_law 1355 = .ok (.aload_n 3, 1) := by decide +kernel
theorem dL_law_1356 : decode cL_law 1356 = .ok (.iconst 0, 1) := by decide +kernel
theorem dL_law_1357 : decode cL_law 1357 = .ok (.laload, 1) := by decide +kernel
theorem dL_law_1358 : decode cL_law 1358 = .ok (.iload 6, 2) := by decide +kernel
theorem dL_law_1360 : decode cL_law 1360 = .ok (.i2l, 1) := by decide +kernel
theorem dL_law_1361 : decode cL_law 1361 = .ok (.lcmp, 1) := by decide +kernel
theorem dL_law_1362 : decode cL_law 1362 = .ok (.ifCond .eq 5, 3) := by decide +kernel
theorem dL_law_1365 : decode cL_law 1365 = .ok (.iconst 0, 1) := by decide +kernel
theorem dL_law_1366 : decode cL_law 1366 = .ok (.ireturn, 1) := by decide +kernel
theorem dL_law_1367 : decode cL_law 1367 = .ok (.goto 282, 3) := by decide +kernel
theorem dL_law_1370 : decode cL_law 1370 = .ok (.aload_n 1, 1) := by decide +kernel
theorem dL_law_1371 : decode cL_law 1371 = .ok (.aload_n 0, 1) := by decide +kernel
theorem dL_law_1372 : decode cL_law 1372 = .ok (.iload 4, 2) := by decide +kernel
theorem dL_law_1374 : decode cL_law 1374 = .ok (.iconst 1, 1) := by decide +kernel
theorem dL_law_1375 : decode cL_law 1375 = .ok (.iadd, 1) := by decide +kernel
theorem dL_law_1376 : decode cL_law 1376 = .ok (.iaload, 1) := by decide +kernel
theorem dL_law_1377 : decode cL_law 1377 = .ok (.aload_n 3, 1) := by decide +kernel
theorem dL_law_1378 : decode cL_law 1378 = .ok (.invokestatic 167, 3) := by decide +kernel
theorem dL_law_1381 : decode cL_law 1381 = .ok (.istore 5, 2) := by decide +kernel
theorem dL_law_1383 : decode cL_law 1383 = .ok (.aload_n 2, 1) := by decide +kernel
theorem dL_law_1384 : decode cL_law 1384 = .ok (.aload_n 0, 1) := by decide +kernel
theorem dL_law_1385 : decode cL_law 1385 = .ok (.iload 4, 2) := by decide +kernel
theorem dL_law_1387 : decode cL_law 1387 = .ok (.iconst 1, 1) := by decide +kernel
theorem dL_law_1388 : decode cL_law 1388 = .ok (.iadd, 1) := by decide +kernel
theorem dL_law_1389 : decode cL_law 1389 = .ok (.iaload, 1) := by decide +kernel
theorem dL_law_1390 : decode cL_law 1390 = .ok (.invokevirtual 169, 3) := by decide +kernel
theorem dL_law_1393 : decode cL_law 1393 = .ok (.istore 6, 2) := by decide +kernel
theorem dL_law_1395 : decode cL_law 1395 = .ok (.aload_n 2, 1) := by decide +kernel
theorem dL_law_1396 : decode cL_law 1396 = .ok (.invokevirtual 100, 3) := by decide +kernel
theorem dL_law_1399 : decode cL_law 1399 = .ok (.iload 5, 2) := by decide +kernel
theorem dL_law_1401 : decode cL_law 1401 = .ok (.if_icmp .eq 5, 3) := by decide +kernel
theorem dL_law_1404 : decode cL_law 1404 = .ok (.iconst 0, 1) := by decide +kernel
theorem dL_law_1405 : decode cL_law 1405 = .ok (.ireturn, 1) := by decide +kernel
theorem dL_law_1406 : decode cL_law 1406 = .ok (.iload 5, 2) := by decide +kernel
theorem dL_law_1408 : decode cL_law 1408 = .ok (.ifCond .ne 15, 3) := by decide +kernel
theorem dL_law_1411 : decode cL_law 1411 = .ok (.aload_n 3, 1) := by decide +kernel
theorem dL_law_1412 : decode cL_law 1412 = .ok (.iconst 0, 1) := by decide +kernel
theorem dL_law_1413 : decode cL_law 1413 = .ok (.laload, 1) := by decide +kernel
theorem dL_law_1414 : decode cL_law 1414 = .ok (.iload 6, 2) := by decide +kernel
theorem dL_law_1416 : decode cL_law 1416 = .ok (.i2l, 1) := by decide +kernel
theorem dL_law_1417 : decode cL_law 1417 = .ok (.lcmp, 1) := by decide +kernel
theorem dL_law_1418 : decode cL_law 1418 = .ok (.ifCond .eq 5, 3) := by decide +kernel
theorem dL_law_1421 : decode cL_law 1421 = .ok (.iconst 0, 1) := by decide +kernel
theorem dL_law_1422 : decode cL_law 1422 = .ok (.ireturn, 1) := by decide +kernel
theorem dL_law_1423 : decode cL_law 1423 = .ok (.goto 226, 3) := by decide +kernel
theorem dL_law_1426 : decode cL_law 1426 = .ok (.aload_n 1, 1) := by decide +kernel
theorem dL_law_1427 : decode cL_law 1427 = .ok (.aload_n 0, 1) := by decide +kernel
theorem dL_law_1428 : decode cL_law 1428 = .ok (.iload 4, 2) := by decide +kernel
theorem dL_law_1430 : decode cL_law 1430 = .ok (.iconst 1, 1) := by decide +kernel
theorem dL_law_1431 : decode cL_law 1431 = .ok (.iadd, 1) := by decide +kernel
theorem dL_law_1432 : decode cL_law 1432 = .ok (.iaload, 1) := by decide +kernel
theorem dL_law_1433 : decode cL_law 1433 = .ok (.aload_n 3, 1) := by decide +kernel
theorem dL_law_1434 : decode cL_law 1434 = .ok (.invokestatic 170, 3) := by decide +kernel
theorem dL_law_1437 : decode cL_law 1437 = .ok (.istore 5, 2) := by decide +kernel
theorem dL_law_1439 : decode cL_law 1439 = .ok (.aload_n 2, 1) := by decide +kernel
theorem dL_law_1440 : decode cL_law 1440 = .ok (.aload_n 0, 1) := by decide +kernel
theorem dL_law_1441 : decode cL_law 1441 = .ok (.iload 4, 2) := by decide +kernel
theorem dL_law_1443 : decode cL_law 1443 = .ok (.iconst 1, 1) := by decide +kernel
theorem dL_law_1444 : decode cL_law 1444 = .ok (.iadd, 1) := by decide +kernel
theorem dL_law_1445 : decode cL_law 1445 = .ok (.iaload, 1) := by decide +kernel
theorem dL_law_1446 : decode cL_law 1446 = .ok (.invokevirtual 172, 3) := by decide +kernel
theorem dL_law_1449 : decode cL_law 1449 = .ok (.istore 6, 2) := by decide +kernel
theorem dL_law_1451 : decode cL_law 1451 = .ok (.aload_n 2, 1) := by decide +kernel
theorem dL_law_1452 : decode cL_law 1452 = .ok (.invokevirtual 100, 3) := by decide +kernel
theorem dL_law_1455 : decode cL_law 1455 = .ok (.iload 5, 2) := by decide +kernel
theorem dL_law_1457 : decode cL_law 1457 = .ok (.if_icmp .eq 5, 3) := by decide +kernel
theorem dL_law_1460 : decode cL_law 1460 = .ok (.iconst 0, 1) := by decide +kernel
theorem dL_law_1461 : decode cL_law 1461 = .ok (.ireturn, 1) := by decide +kernel
theorem dL_law_1462 : decode cL_law 1462 = .ok (.iload 5, 2) := by decide +kernel
theorem dL_law_1464 : decode cL_law 1464 = .ok (.ifCond .ne 15, 3) := by decide +kernel
theorem dL_law_1467 : decode cL_law 1467 = .ok (.aload_n 3, 1) := by decide +kernel
theorem dL_law_1468 : decode cL_law 1468 = .ok (.iconst 0, 1) := by decide +kernel
theorem dL_law_1469 : decode cL_law 1469 = .ok (.laload, 1) := by decide +kernel
theorem dL_law_1470 : decode cL_law 1470 = .ok (.iload 6, 2) := by decide +kernel
theorem dL_law_1472 : decode cL_law 1472 = .ok (.i2l, 1) := by decide +kernel
theorem dL_law_1473 : decode cL_law 1473 = .ok (.lcmp, 1) := by decide +kernel
theorem dL_law_1474 : decode cL_law 1474 = .ok (.ifCond .eq 5, 3) := by decide +kernel
theorem dL_law_1477 : decode cL_law 1477 = .ok (.iconst 0, 1) := by decide +kernel
theorem dL_law_1478 : decode cL_law 1478 = .ok (.ireturn, 1) := by decide +kernel
theorem dL_law_1479 : decode cL_law 1479 = .ok (.goto 170, 3) := by decide +kernel
theorem dL_law_1482 : decode cL_law 1482 = .ok (.aload_n 1, 1) := by decide +kernel
theorem dL_law_1483 : decode cL_law 1483 = .ok (.aload_n 0, 1) := by decide +kernel
theorem dL_law_1484 : decode cL_law 1484 = .ok (.iload 4, 2) := by decide +kernel
theorem dL_law_1486 : decode cL_law 1486 = .ok (.iconst 1, 1) := by decide +kernel
theorem dL_law_1487 : decode cL_law 1487 = .ok (.iadd, 1) := by decide +kernel
theorem dL_law_1488 : decode cL_law 1488 = .ok (.iaload, 1) := by decide +kernel
theorem dL_law_1489 : decode cL_law 1489 = .ok (.aload_n 3, 1) := by decide +kernel
theorem dL_law_1490 : decode cL_law 1490 = .ok (.invokestatic 173, 3) := by decide +kernel
theorem dL_law_1493 : decode cL_law 1493 = .ok (.istore 5, 2) := by decide +kernel
theorem dL_law_1495 : decode cL_law 1495 = .ok (.aload_n 2, 1) := by decide +kernel
theorem dL_law_1496 : decode cL_law 1496 = .ok (.aload_n 0, 1) := by decide +kernel
theorem dL_law_1497 : decode cL_law 1497 = .ok (.iload 4, 2) := by decide +kernel
theorem dL_law_1499 : decode cL_law 1499 = .ok (.iconst 1, 1) := by decide +kernel
theorem dL_law_1500 : decode cL_law 1500 = .ok (.iadd, 1) := by decide +kernel
theorem dL_law_1501 : decode cL_law 1501 = .ok (.iaload, 1) := by decide +kernel
theorem dL_law_1502 : decode cL_law 1502 = .ok (.invokevirtual 175, 3) := by decide +kernel
theorem dL_law_1505 : decode cL_law 1505 = .ok (.lstore 6, 2) := by decide +kernel
theorem dL_law_1507 : decode cL_law 1507 = .ok (.aload_n 2, 1) := by decide +kernel
theorem dL_law_1508 : decode cL_law 1508 = .ok (.invokevirtual 100, 3) := by decide +kernel
theorem dL_law_1511 : decode cL_law 1511 = .ok (.iload 5, 2) := by decide +kernel
theorem dL_law_1513 : decode cL_law 1513 = .ok (.if_icmp .eq 5, 3) := by decide +kernel
theorem dL_law_1516 : decode cL_law 1516 = .ok (.iconst 0, 1) := by decide +kernel
theorem dL_law_1517 : decode cL_law 1517 = .ok (.ireturn, 1) := by decide +kernel
theorem dL_law_1518 : decode cL_law 1518 = .ok (.iload 5, 2) := by decide +kernel
theorem dL_law_1520 : decode cL_law 1520 = .ok (.ifCond .ne 14, 3) := by decide +kernel
theorem dL_law_1523 : decode cL_law 1523 = .ok (.aload_n 3, 1) := by decide +kernel
theorem dL_law_1524 : decode cL_law 1524 = .ok (.iconst 0, 1) := by decide +kernel
theorem dL_law_1525 : decode cL_law 1525 = .ok (.laload, 1) := by decide +kernel
theorem dL_law_1526 : decode cL_law 1526 = .ok (.lload 6, 2) := by decide +kernel
theorem dL_law_1528 : decode cL_law 1528 = .ok (.lcmp, 1) := by decide +kernel
theorem dL_law_1529 : decode cL_law 1529 = .ok (.ifCond .eq 5, 3) := by decide +kernel
theorem dL_law_1532 : decode cL_law 1532 = .ok (.iconst 0, 1) := by decide +kernel
theorem dL_law_1533 : decode cL_law 1533 = .ok (.ireturn, 1) := by decide +kernel
theorem dL_law_1534 : decode cL_law 1534 = .ok (.goto 115, 3) := by decide +kernel
theorem dL_law_1537 : decode cL_law 1537 = .ok (.aload_n 1, 1) := by decide +kernel
theorem dL_law_1538 : decode cL_law 1538 = .ok (.aload_n 0, 1) := by decide +kernel
theorem dL_law_1539 : decode cL_law 1539 = .ok (.iload 4, 2) := by decide +kernel
theorem dL_law_1541 : decode cL_law 1541 = .ok (.iconst 1, 1) := by decide +kernel
theorem dL_law_1542 : decode cL_law 1542 = .ok (.iadd, 1) := by decide +kernel
theorem dL_law_1543 : decode cL_law 1543 = .ok (.iaload, 1) := by decide +kernel
theorem dL_law_1544 : decode cL_law 1544 = .ok (.aload_n 3, 1) := by decide +kernel
theorem dL_law_1545 : decode cL_law 1545 = .ok (.invokestatic 176, 3) := by decide +kernel
theorem dL_law_1548 : decode cL_law 1548 = .ok (.istore 5, 2) := by decide +kernel
theorem dL_law_1550 : decode cL_law 1550 = .ok (.aload_n 2, 1) := by decide +kernel
theorem dL_law_1551 : decode cL_law 1551 = .ok (.aload_n 0, 1) := by decide +kernel
theorem dL_law_1552 : decode cL_law 1552 = .ok (.iload 4, 2) := by decide +kernel
theorem dL_law_1554 : decode cL_law 1554 = .ok (.iconst 1, 1) := by decide +kernel
theorem dL_law_1555 : decode cL_law 1555 = .ok (.iadd, 1) := by decide +kernel
theorem dL_law_1556 : decode cL_law 1556 = .ok (.iaload, 1) := by decide +kernel
theorem dL_law_1557 : decode cL_law 1557 = .ok (.invokevirtual 178, 3) := by decide +kernel
theorem dL_law_1560 : decode cL_law 1560 = .ok (.istore 6, 2) := by decide +kernel
theorem dL_law_1562 : decode cL_law 1562 = .ok (.aload_n 2, 1) := by decide +kernel
theorem dL_law_1563 : decode cL_law 1563 = .ok (.invokevirtual 100, 3) := by decide +kernel
theorem dL_law_1566 : decode cL_law 1566 = .ok (.iload 5, 2) := by decide +kernel
theorem dL_law_1568 : decode cL_law 1568 = .ok (.if_icmp .eq 5, 3) := by decide +kernel
theorem dL_law_1571 : decode cL_law 1571 = .ok (.iconst 0, 1) := by decide +kernel
theorem dL_law_1572 : decode cL_law 1572 = .ok (.ireturn, 1) := by decide +kernel
theorem dL_law_1573 : decode cL_law 1573 = .ok (.iload 5, 2) := by decide +kernel
theorem dL_law_1575 : decode cL_law 1575 = .ok (.ifCond .ne 15, 3) := by decide +kernel
theorem dL_law_1578 : decode cL_law 1578 = .ok (.aload_n 3, 1) := by decide +kernel
theorem dL_law_1579 : decode cL_law 1579 = .ok (.iconst 0, 1) := by decide +kernel
theorem dL_law_1580 : decode cL_law 1580 = .ok (.laload, 1) := by decide +kernel
theorem dL_law_1581 : decode cL_law 1581 = .ok (.iload 6, 2) := by decide +kernel
theorem dL_law_1583 : decode cL_law 1583 = .ok (.i2l, 1) := by decide +kernel
theorem dL_law_1584 : decode cL_law 1584 = .ok (.lcmp, 1) := by decide +kernel
theorem dL_law_1585 : decode cL_law 1585 = .ok (.ifCond .eq 5, 3) := by decide +kernel
theorem dL_law_1588 : decode cL_law 1588 = .ok (.iconst 0, 1) := by decide +kernel
theorem dL_law_1589 : decode cL_law 1589 = .ok (.ireturn, 1) := by decide +kernel
theorem dL_law_1590 : decode cL_law 1590 = .ok (.goto 59, 3) := by decide +kernel
theorem dL_law_1593 : decode cL_law 1593 = .ok (.aload_n 1, 1) := by decide +kernel
theorem dL_law_1594 : decode cL_law 1594 = .ok (.aload_n 0, 1) := by decide +kernel
theorem dL_law_1595 : decode cL_law 1595 = .ok (.iload 4, 2) := by decide +kernel
theorem dL_law_1597 : decode cL_law 1597 = .ok (.iconst 1, 1) := by decide +kernel
theorem dL_law_1598 : decode cL_law 1598 = .ok (.iadd, 1) := by decide +kernel
theorem dL_law_1599 : decode cL_law 1599 = .ok (.iaload, 1) := by decide +kernel
theorem dL_law_1600 : decode cL_law 1600 = .ok (.aload_n 3, 1) := by decide +kernel
theorem dL_law_1601 : decode cL_law 1601 = .ok (.invokestatic 179, 3) := by decide +kernel
theorem dL_law_1604 : decode cL_law 1604 = .ok (.istore 5, 2) := by decide +kernel
theorem dL_law_1606 : decode cL_law 1606 = .ok (.aload_n 2, 1) := by decide +kernel
theorem dL_law_1607 : decode cL_law 1607 = .ok (.aload_n 0, 1) := by decide +kernel
theorem dL_law_1608 : decode cL_law 1608 = .ok (.iload 4, 2) := by decide +kernel
theorem dL_law_1610 : decode cL_law 1610 = .ok (.iconst 1, 1) := by decide +kernel
theorem dL_law_1611 : decode cL_law 1611 = .ok (.iadd, 1) := by decide +kernel
theorem dL_law_1612 : decode cL_law 1612 = .ok (.iaload, 1) := by decide +kernel
theorem dL_law_1613 : decode cL_law 1613 = .ok (.invokevirtual 181, 3) := by decide +kernel
theorem dL_law_1616 : decode cL_law 1616 = .ok (.istore 6, 2) := by decide +kernel
theorem dL_law_1618 : decode cL_law 1618 = .ok (.aload_n 2, 1) := by decide +kernel
theorem dL_law_1619 : decode cL_law 1619 = .ok (.invokevirtual 100, 3) := by decide +kernel
theorem dL_law_1622 : decode cL_law 1622 = .ok (.iload 5, 2) := by decide +kernel
theorem dL_law_1624 : decode cL_law 1624 = .ok (.if_icmp .eq 5, 3) := by decide +kernel
theorem dL_law_1627 : decode cL_law 1627 = .ok (.iconst 0, 1) := by decide +kernel
theorem dL_law_1628 : decode cL_law 1628 = .ok (.ireturn, 1) := by decide +kernel
theorem dL_law_1629 : decode cL_law 1629 = .ok (.iload 5, 2) := by decide +kernel
theorem dL_law_1631 : decode cL_law 1631 = .ok (.ifCond .ne 15, 3) := by decide +kernel
theorem dL_law_1634 : decode cL_law 1634 = .ok (.aload_n 3, 1) := by decide +kernel
theorem dL_law_1635 : decode cL_law 1635 = .ok (.iconst 0, 1) := by decide +kernel
theorem dL_law_1636 : decode cL_law 1636 = .ok (.laload, 1) := by decide +kernel
theorem dL_law_1637 : decode cL_law 1637 = .ok (.iload 6, 2) := by decide +kernel
theorem dL_law_1639 : decode cL_law 1639 = .ok (.i2l, 1) := by decide +kernel
theorem dL_law_1640 : decode cL_law 1640 = .ok (.lcmp, 1) := by decide +kernel
theorem dL_law_1641 : decode cL_law 1641 = .ok (.ifCond .eq 5, 3) := by decide +kernel
theorem dL_law_1644 : decode cL_law 1644 = .ok (.iconst 0, 1) := by decide +kernel
theorem dL_law_1645 : decode cL_law 1645 = .ok (.ireturn, 1) := by decide +kernel
theorem dL_law_1646 : decode cL_law 1646 = .ok (.goto 3, 3) := by decide +kernel
theorem dL_law_1649 : decode cL_law 1649 = .ok (.iinc 4 5, 3) := by decide +kernel
theorem dL_law_1652 : decode cL_law 1652 = .ok (.goto (-1629), 3) := by decide +kernel
theorem dL_law_1655 : decode cL_law 1655 = .ok (.iconst 1, 1) := by decide +kernel
theorem dL_law_1656 : decode cL_law 1656 = .ok (.ireturn, 1) := by decide +kernel
