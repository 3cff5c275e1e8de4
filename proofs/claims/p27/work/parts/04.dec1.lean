theorem dX5_type_154 : decode cX5_type 154 = .ok (.aload_n 0, 1) := by decide +kernel
theorem dX5_type_155 : decode cX5_type 155 = .ok (.getfield 10, 3) := by decide +kernel
theorem dX5_type_158 : decode cX5_type 158 = .ok (.invokevirtual 81, 3) := by decide +kernel
theorem dX5_type_161 : decode cX5_type 161 = .ok (.bipush 12, 2) := by decide +kernel
theorem dX5_type_163 : decode cX5_type 163 = .ok (.if_icmp .ge 7, 3) := by decide +kernel
theorem dX5_type_166 : decode cX5_type 166 = .ok (.iconst 1, 1) := by decide +kernel
theorem dX5_type_167 : decode cX5_type 167 = .ok (.goto 4, 3) := by decide +kernel
theorem dX5_type_170 : decode cX5_type 170 = .ok (.iconst 0, 1) := by decide +kernel
theorem dX5_type_171 : decode cX5_type 171 = .ok (.invokestatic 72, 3) := by decide +kernel
theorem dX5_type_174 : decode cX5_type 174 = .ok (.aload_n 0, 1) := by decide +kernel
theorem dX5_type_175 : decode cX5_type 175 = .ok (.getfield 10, 3) := by decide +kernel
theorem dX5_type_178 : decode cX5_type 178 = .ok (.iload_n 1, 1) := by decide +kernel
theorem dX5_type_179 : decode cX5_type 179 = .ok (.iload_n 2, 1) := by decide +kernel
theorem dX5_type_180 : decode cX5_type 180 = .ok (.iload_n 3, 1) := by decide +kernel
theorem dX5_type_181 : decode cX5_type 181 = .ok (.iload 4, 2) := by decide +kernel
theorem dX5_type_183 : decode cX5_type 183 = .ok (.invokevirtual 85, 3) := by decide +kernel
theorem dX5_type_186 : decode cX5_type 186 = .ok (.ireturn, 1) := by decide +kernel
theorem dX5_tie_0 : decode cX5_tie 0 = .ok (.aload_n 0, 1) := by decide +kernel
theorem dX5_tie_1 : decode cX5_tie 1 = .ok (.getfield 10, 3) := by decide +kernel
theorem dX5_tie_4 : decode cX5_tie 4 = .ok (.iload_n 1, 1) := by decide +kernel
theorem dX5_tie_5 : decode cX5_tie 5 = .ok (.invokevirtual 54, 3) := by decide +kernel
theorem dX5_tie_8 : decode cX5_tie 8 = .ok (.ifCond .eq 18, 3) := by decide +kernel
theorem dX5_tie_11 : decode cX5_tie 11 = .ok (.aload_n 0, 1) := by decide +kernel
theorem dX5_tie_12 : decode cX5_tie 12 = .ok (.getfield 10, 3) := by decide +kernel
theorem dX5_tie_15 : decode cX5_tie 15 = .ok (.iload_n 2, 1) := by decide +kernel
theorem dX5_tie_16 : decode cX5_tie 16 = .ok (.invokevirtual 54, 3) := by decide +kernel
theorem dX5_tie_19 : decode cX5_tie 19 = .ok (.ifCond .eq 7, 3) := by decide +kernel
theorem dX5_tie_22 : decode cX5_tie 22 = .ok (.iconst 1, 1) := by decide +kernel
theorem dX5_tie_23 : decode cX5_tie 23 = .ok (.goto 4, 3) := by decide +kernel
theorem dX5_tie_26 : decode cX5_tie 26 = .ok (.iconst 0, 1) := by decide +kernel
theorem dX5_tie_27 : decode cX5_tie 27 = .ok (.invokestatic 58, 3) := by decide +kernel
theorem dX5_tie_30 : decode cX5_tie 30 = .ok (.aload_n 0, 1) := by decide +kernel
theorem dX5_tie_31 : decode cX5_tie 31 = .ok (.getfield 10, 3) := by decide +kernel
theorem dX5_tie_34 : decode cX5_tie 34 = .ok (.iload_n 1, 1) := by decide +kernel
theorem dX5_tie_35 : decode cX5_tie 35 = .ok (.invokevirtual 89, 3) := by decide +kernel
theorem dX5_tie_38 : decode cX5_tie 38 = .ok (.ifCond .ne 18, 3) := by decide +kernel
theorem dX5_tie_41 : decode cX5_tie 41 = .ok (.aload_n 0, 1) := by decide +kernel
theorem dX5_tie_42 : decode cX5_tie 42 = .ok (.getfield 10, 3) := by decide +kernel
theorem dX5_tie_45 : decode cX5_tie 45 = .ok (.iload_n 2, 1) := by decide +kernel
theorem dX5_tie_46 : decode cX5_tie 46 = .ok (.invokevirtual 89, 3) := by decide +kernel
theorem dX5_tie_49 : decode cX5_tie 49 = .ok (.ifCond .eq 7, 3) := by decide +kernel
theorem dX5_tie_52 : decode cX5_tie 52 = .ok (.iconst 1, 1) := by decide +kernel
theorem dX5_tie_53 : decode cX5_tie 53 = .ok (.goto 4, 3) := by decide +kernel
theorem dX5_tie_56 : decode cX5_tie 56 = .ok (.iconst 0, 1) := by decide +kernel
theorem dX5_tie_57 : decode cX5_tie 57 = .ok (.invokestatic 66, 3) := by decide +kernel
theorem dX5_tie_60 : decode cX5_tie 60 = .ok (.iload_n 3, 1) := by decide +kernel
theorem dX5_tie_61 : decode cX5_tie 61 = .ok (.iconst 2, 1) := by decide +kernel
theorem dX5_tie_62 : decode cX5_tie 62 = .ok (.invokestatic 50, 3) := by decide +kernel
theorem dX5_tie_65 : decode cX5_tie 65 = .ok (.ifCond .eq 16, 3) := by decide +kernel
theorem dX5_tie_68 : decode cX5_tie 68 = .ok (.iload 4, 2) := by decide +kernel
theorem dX5_tie_70 : decode cX5_tie 70 = .ok (.iconst 3, 1) := by decide +kernel
theorem dX5_tie_71 : decode cX5_tie 71 = .ok (.invokestatic 50, 3) := by decide +kernel
theorem dX5_tie_74 : decode cX5_tie 74 = .ok (.ifCond .eq 7, 3) := by decide +kernel
theorem dX5_tie_77 : decode cX5_tie 77 = .ok (.iconst 1, 1) := by decide +kernel
theorem dX5_tie_78 : decode cX5_tie 78 = .ok (.goto 4, 3) := by decide +kernel
theorem dX5_tie_81 : decode cX5_tie 81 = .ok (.iconst 0, 1) := by decide +kernel
theorem dX5_tie_82 : decode cX5_tie 82 = .ok (.invokestatic 66, 3) := by decide +kernel
theorem dX5_tie_85 : decode cX5_tie 85 = .ok (.aload_n 0, 1) := by decide +kernel
theorem dX5_tie_86 : decode cX5_tie 86 = .ok (.getfield 21, 3) := by decide +kernel
theorem dX5_tie_89 : decode cX5_tie 89 = .ok (.aload_n 0, 1) := by decide +kernel
theorem dX5_tie_90 : decode cX5_tie 90 = .ok (.getfield 10, 3) := by decide +kernel
theorem dX5_tie_93 : decode cX5_tie 93 = .ok (.iload_n 1, 1) := by decide +kernel
theorem dX5_tie_94 : decode cX5_tie 94 = .ok (.invokevirtual 62, 3) := by decide +kernel
theorem dX5_tie_97 : decode cX5_tie 97 = .ok (.invokevirtual 69, 3) := by decide +kernel
theorem dX5_tie_100 : decode cX5_tie 100 = .ok (.ifCond .ne 7, 3) := by decide +kernel
theorem dX5_tie_103 : decode cX5_tie 103 = .ok (.iconst 1, 1) := by decide +kernel
theorem dX5_tie_104 : decode cX5_tie 104 = .ok (.goto 4, 3) := by decide +kernel
theorem dX5_tie_107 : decode cX5_tie 107 = .ok (.iconst 0, 1) := by decide +kernel
theorem dX5_tie_108 : decode cX5_tie 108 = .ok (.invokestatic 72, 3) := by decide +kernel
theorem dX5_tie_111 : decode cX5_tie 111 = .ok (.aload_n 0, 1) := by decide +kernel
theorem dX5_tie_112 : decode cX5_tie 112 = .ok (.getfield 10, 3) := by decide +kernel
theorem dX5_tie_115 : decode cX5_tie 115 = .ok (.iload_n 1, 1) := by decide +kernel
theorem dX5_tie_116 : decode cX5_tie 116 = .ok (.invokevirtual 92, 3) := by decide +kernel
theorem dX5_tie_119 : decode cX5_tie 119 = .ok (.iconst (-1), 1) := by decide +kernel
theorem dX5_tie_120 : decode cX5_tie 120 = .ok (.if_icmp .ne 7, 3) := by decide +kernel
theorem dX5_tie_123 : decode cX5_tie 123 = .ok (.iconst 1, 1) := by decide +kernel
theorem dX5_tie_124 : decode cX5_tie 124 = .ok (.goto 4, 3) := by decide +kernel
theorem dX5_tie_127 : decode cX5_tie 127 = .ok (.iconst 0, 1) := by decide +kernel
theorem dX5_tie_128 : decode cX5_tie 128 = .ok (.invokestatic 72, 3) := by decide +kernel
theorem dX5_tie_131 : decode cX5_tie 131 = .ok (.aload_n 0, 1) := by decide +kernel
theorem dX5_tie_132 : decode cX5_tie 132 = .ok (.getfield 10, 3) := by decide +kernel
theorem dX5_tie_135 : decode cX5_tie 135 = .ok (.iload_n 1, 1) := by decide +kernel
theorem dX5_tie_136 : decode cX5_tie 136 = .ok (.iload_n 2, 1) := by decide +kernel
theorem dX5_tie_137 : decode cX5_tie 137 = .ok (.iload_n 3, 1) := by decide +kernel
theorem dX5_tie_138 : decode cX5_tie 138 = .ok (.iload 4, 2) := by decide +kernel
theorem dX5_tie_140 : decode cX5_tie 140 = .ok (.invokevirtual 95, 3) := by decide +kernel
theorem dX5_tie_143 : decode cX5_tie 143 = .ok (.return_, 1) := by decide +kernel
theorem dX5_open_0 : decode cX5_open 0 = .ok (.aload_n 0, 1) := by decide +kernel
theorem dX5_open_1 : decode cX5_open 1 = .ok (.iload_n 1, 1) := by decide +kernel
theorem dX5_open_2 : decode cX5_open 2 = .ok (.invokevirtual 99, 3) := by decide +kernel
theorem dX5_open_5 : decode cX5_open 5 = .ok (.astore 4, 2) := by decide +kernel
theorem dX5_open_7 : decode cX5_open 7 = .ok (.iload_n 2, 1) := by decide +kernel
theorem dX5_open_8 : decode cX5_open 8 = .ok (.iconst 3, 1) := by decide +kernel
theorem dX5_open_9 : decode cX5_open 9 = .ok (.invokestatic 50, 3) := by decide +kernel
theorem dX5_open_12 : decode cX5_open 12 = .ok (.invokestatic 58, 3) := by decide +kernel
theorem dX5_open_15 : decode cX5_open 15 = .ok (.iload_n 3, 1) := by decide +kernel
theorem dX5_open_16 : decode cX5_open 16 = .ok (.sipush 4096, 3) := by decide +kernel
theorem dX5_open_19 : decode cX5_open 19 = .ok (.invokestatic 50, 3) := by decide +kernel
theorem dX5_open_22 : decode cX5_open 22 = .ok (.invokestatic 66, 3) := by decide +kernel
theorem dX5_open_25 : decode cX5_open 25 = .ok (.aload 4, 2) := by decide +kernel
theorem dX5_open_27 : decode cX5_open 27 = .ok (.iload_n 2, 1) := by decide +kernel
theorem dX5_open_28 : decode cX5_open 28 = .ok (.iload_n 3, 1) := by decide +kernel
theorem dX5_open_29 : decode cX5_open 29 = .ok (.invokevirtual 103, 3) := by decide +kernel
theorem dX5_open_32 : decode cX5_open 32 = .ok (.return_, 1) := by decide +kernel
theorem dX5_argument_0 : decode cX5_argument 0 = .ok (.aload_n 0, 1) := by decide +kernel
theorem dX5_argument_1 : decode cX5_argument 1 = .ok (.getfield 10, 3) := by decide +kernel
theorem dX5_argument_4 : decode cX5_argument 4 = .ok (.iload_n 1, 1) := by decide +kernel
theorem dX5_argument_5 : decode cX5_argument 5 = .ok (.invokevirtual 54, 3) := by decide +kernel
theorem dX5_argument_8 : decode cX5_argument 8 = .ok (.invokestatic 58, 3) := by decide +kernel
theorem dX5_argument_11 : decode cX5_argument 11 = .ok (.iload_n 2, 1) := by decide +kernel
theorem dX5_argument_12 : decode cX5_argument 12 = .ok (.bipush 64, 2) := by decide +kernel
theorem dX5_argument_14 : decode cX5_argument 14 = .ok (.invokestatic 50, 3) := by decide +kernel
theorem dX5_argument_17 : decode cX5_argument 17 = .ok (.invokestatic 66, 3) := by decide +kernel
theorem dX5_argument_20 : decode cX5_argument 20 = .ok (.aload_n 0, 1) := by decide +kernel
theorem dX5_argument_21 : decode cX5_argument 21 = .ok (.getfield 28, 3) := by decide +kernel
theorem dX5_argument_24 : decode cX5_argument 24 = .ok (.invokevirtual 107, 3) := by decide +kernel
theorem dX5_argument_27 : decode cX5_argument 27 = .ok (.iconst 4, 1) := by decide +kernel
theorem dX5_argument_28 : decode cX5_argument 28 = .ok (.if_icmp .ge 7, 3) := by decide +kernel
theorem dX5_argument_31 : decode cX5_argument 31 = .ok (.iconst 1, 1) := by decide +kernel
theorem dX5_argument_32 : decode cX5_argument 32 = .ok (.goto 4, 3) := by decide +kernel
theorem dX5_argument_35 : decode cX5_argument 35 = .ok (.iconst 0, 1) := by decide +kernel
theorem dX5_argument_36 : decode cX5_argument 36 = .ok (.invokestatic 72, 3) := by decide +kernel
theorem dX5_argument_39 : decode cX5_argument 39 = .ok (.aload_n 0, 1) := by decide +kernel
theorem dX5_argument_40 : decode cX5_argument 40 = .ok (.getfield 28, 3) := by decide +kernel
theorem dX5_argument_43 : decode cX5_argument 43 = .ok (.iload_n 1, 1) := by decide +kernel
theorem dX5_argument_44 : decode cX5_argument 44 = .ok (.iload_n 2, 1) := by decide +kernel
theorem dX5_argument_45 : decode cX5_argument 45 = .ok (.invokevirtual 108, 3) := by decide +kernel
theorem dX5_argument_48 : decode cX5_argument 48 = .ok (.ireturn, 1) := by decide +kernel
theorem dX5_condition_0 : decode cX5_condition 0 = .ok (.iload_n 2, 1) := by decide +kernel
theorem dX5_condition_1 : decode cX5_condition 1 = .ok (.iconst 3, 1) := by decide +kernel
theorem dX5_condition_2 : decode cX5_condition 2 = .ok (.invokestatic 50, 3) := by decide +kernel
theorem dX5_condition_5 : decode cX5_condition 5 = .ok (.invokestatic 58, 3) := by decide +kernel
theorem dX5_condition_8 : decode cX5_condition 8 = .ok (.iload_n 3, 1) := by decide +kernel
theorem dX5_condition_9 : decode cX5_condition 9 = .ok (.bipush 6, 2) := by decide +kernel
theorem dX5_condition_11 : decode cX5_condition 11 = .ok (.invokestatic 50, 3) := by decide +kernel
theorem dX5_condition_14 : decode cX5_condition 14 = .ok (.ifCond .eq 18, 3) := by decide +kernel
theorem dX5_condition_17 : decode cX5_condition 17 = .ok (.iload 4, 2) := by decide +kernel
theorem dX5_condition_19 : decode cX5_condition 19 = .ok (.sipush 1000, 3) := by decide +kernel
theorem dX5_condition_22 : decode cX5_condition 22 = .ok (.invokestatic 50, 3) := by decide +kernel
theorem dX5_condition_25 : decode cX5_condition 25 = .ok (.ifCond .eq 7, 3) := by decide +kernel
theorem dX5_condition_28 : decode cX5_condition 28 = .ok (.iconst 1, 1) := by decide +kernel
theorem dX5_condition_29 : decode cX5_condition 29 = .ok (.goto 4, 3) := by decide +kernel
theorem dX5_condition_32 : decode cX5_condition 32 = .ok (.iconst 0, 1) := by decide +kernel
theorem dX5_condition_33 : decode cX5_condition 33 = .ok (.invokestatic 66, 3) := by decide +kernel
theorem dX5_condition_36 : decode cX5_condition 36 = .ok (.aload_n 0, 1) := by decide +kernel
theorem dX5_condition_37 : decode cX5_condition 37 = .ok (.getfield 28, 3) := by decide +kernel
theorem dX5_condition_40 : decode cX5_condition 40 = .ok (.invokevirtual 107, 3) := by decide +kernel
theorem dX5_condition_43 : decode cX5_condition 43 = .ok (.iconst 1, 1) := by decide +kernel
theorem dX5_condition_44 : decode cX5_condition 44 = .ok (.isub, 1) := by decide +kernel
theorem dX5_condition_45 : decode cX5_condition 45 = .ok (.istore 5, 2) := by decide +kernel
theorem dX5_condition_47 : decode cX5_condition 47 = .ok (.iload 5, 2) := by decide +kernel
theorem dX5_condition_49 : decode cX5_condition 49 = .ok (.ifCond .lt 20, 3) := by decide +kernel
theorem dX5_condition_52 : decode cX5_condition 52 = .ok (.aload_n 0, 1) := by decide +kernel
theorem dX5_condition_53 : decode cX5_condition 53 = .ok (.getfield 28, 3) := by decide +kernel
theorem dX5_condition_56 : decode cX5_condition 56 = .ok (.iload 5, 2) := by decide +kernel
theorem dX5_condition_58 : decode cX5_condition 58 = .ok (.invokevirtual 112, 3) := by decide +kernel
theorem dX5_condition_61 : decode cX5_condition 61 = .ok (.iconst 3, 1) := by decide +kernel
theorem dX5_condition_62 : decode cX5_condition 62 = .ok (.if_icmp .ge 7, 3) := by decide +kernel
theorem dX5_condition_65 : decode cX5_condition 65 = .ok (.iconst 1, 1) := by decide +kernel
theorem dX5_condition_66 : decode cX5_condition 66 = .ok (.goto 4, 3) := by decide +kernel
theorem dX5_condition_69 : decode cX5_condition 69 = .ok (.iconst 0, 1) := by decide +kernel
theorem dX5_condition_70 : decode cX5_condition 70 = .ok (.invokestatic 72, 3) := by decide +kernel
theorem dX5_condition_73 : decode cX5_condition 73 = .ok (.aload_n 0, 1) := by decide +kernel
theorem dX5_condition_74 : decode cX5_condition 74 = .ok (.getfield 28, 3) := by decide +kernel
theorem dX5_condition_77 : decode cX5_condition 77 = .ok (.iload_n 1, 1) := by decide +kernel
theorem dX5_condition_78 : decode cX5_condition 78 = .ok (.iload_n 2, 1) := by decide +kernel
theorem dX5_condition_79 : decode cX5_condition 79 = .ok (.iload_n 3, 1) := by decide +kernel
theorem dX5_condition_80 : decode cX5_condition 80 = .ok (.iload 4, 2) := by decide +kernel
theorem dX5_condition_82 : decode cX5_condition 82 = .ok (.invokevirtual 115, 3) := by decide +kernel
theorem dX5_condition_85 : decode cX5_condition 85 = .ok (.ireturn, 1) := by decide +kernel
theorem dX5_clear_0 : decode cX5_clear 0 = .ok (.aload_n 0, 1) := by decide +kernel
theorem dX5_clear_1 : decode cX5_clear 1 = .ok (.getfield 28, 3) := by decide +kernel
theorem dX5_clear_4 : decode cX5_clear 4 = .ok (.invokevirtual 119, 3) := by decide +kernel
theorem dX5_clear_7 : decode cX5_clear 7 = .ok (.ireturn, 1) := by decide +kernel
theorem dX5_put_0 : decode cX5_put 0 = .ok (.iload_n 1, 1) := by decide +kernel
theorem dX5_put_1 : decode cX5_put 1 = .ok (.iconst 4, 1) := by decide +kernel
theorem dX5_put_2 : decode cX5_put 2 = .ok (.invokestatic 50, 3) := by decide +kernel
theorem dX5_put_5 : decode cX5_put 5 = .ok (.ifCond .eq 15, 3) := by decide +kernel
theorem dX5_put_8 : decode cX5_put 8 = .ok (.iload_n 2, 1) := by decide +kernel
theorem dX5_put_9 : decode cX5_put 9 = .ok (.iconst 3, 1) := by decide +kernel
theorem dX5_put_10 : decode cX5_put 10 = .ok (.invokestatic 50, 3) := by decide +kernel
theorem dX5_put_13 : decode cX5_put 13 = .ok (.ifCond .eq 7, 3) := by decide +kernel
theorem dX5_put_16 : decode cX5_put 16 = .ok (.iconst 1, 1) := by decide +kernel
theorem dX5_put_17 : decode cX5_put 17 = .ok (.goto 4, 3) := by decide +kernel
theorem dX5_put_20 : decode cX5_put 20 = .ok (.iconst 0, 1) := by decide +kernel
theorem dX5_put_21 : decode cX5_put 21 = .ok (.invokestatic 58, 3) := by decide +kernel
theorem dX5_put_24 : decode cX5_put 24 = .ok (.iload_n 3, 1) := by decide +kernel
theorem dX5_put_25 : decode cX5_put 25 = .ok (.sipush 1000, 3) := by decide +kernel
theorem dX5_put_28 : decode cX5_put 28 = .ok (.invokestatic 50, 3) := by decide +kernel
theorem dX5_put_31 : decode cX5_put 31 = .ok (.invokestatic 66, 3) := by decide +kernel
theorem dX5_put_34 : decode cX5_put 34 = .ok (.aload_n 0, 1) := by decide +kernel
theorem dX5_put_35 : decode cX5_put 35 = .ok (.iload_n 1, 1) := by decide +kernel
theorem dX5_put_36 : decode cX5_put 36 = .ok (.iload_n 2, 1) := by decide +kernel
theorem dX5_put_37 : decode cX5_put 37 = .ok (.invokevirtual 122, 3) := by decide +kernel
theorem dX5_put_40 : decode cX5_put 40 = .ok (.istore 4, 2) := by decide +kernel
theorem dX5_put_42 : decode cX5_put 42 = .ok (.aload_n 0, 1) := by decide +kernel
theorem dX5_put_43 : decode cX5_put 43 = .ok (.iload_n 1, 1) := by decide +kernel
theorem dX5_put_44 : decode cX5_put 44 = .ok (.iload_n 2, 1) := by decide +kernel
theorem dX5_put_45 : decode cX5_put 45 = .ok (.iload_n 3, 1) := by decide +kernel
theorem dX5_put_46 : decode cX5_put 46 = .ok (.invokevirtual 125, 3) := by decide +kernel
theorem dX5_put_49 : decode cX5_put 49 = .ok (.iload 4, 2) := by decide +kernel
theorem dX5_put_51 : decode cX5_put 51 = .ok (.ireturn, 1) := by decide +kernel
theorem dX5_area_0 : decode cX5_area 0 = .ok (.iload_n 1, 1) := by decide +kernel
theorem dX5_area_1 : decode cX5_area 1 = .ok (.iconst 4, 1) := by decide +kernel
theorem dX5_area_2 : decode cX5_area 2 = .ok (.invokestatic 50, 3) := by decide +kernel
theorem dX5_area_5 : decode cX5_area 5 = .ok (.ifCond .eq 15, 3) := by decide +kernel
theorem dX5_area_8 : decode cX5_area 8 = .ok (.iload_n 2, 1) := by decide +kernel
theorem dX5_area_9 : decode cX5_area 9 = .ok (.iconst 3, 1) := by decide +kernel
theorem dX5_area_10 : decode cX5_area 10 = .ok (.invokestatic 50, 3) := by decide +kernel
theorem dX5_area_13 : decode cX5_area 13 = .ok (.ifCond .eq 7, 3) := by decide +kernel
theorem dX5_area_16 : decode cX5_area 16 = .ok (.iconst 1, 1) := by decide +kernel
theorem dX5_area_17 : decode cX5_area 17 = .ok (.goto 4, 3) := by decide +kernel
theorem dX5_area_20 : decode cX5_area 20 = .ok (.iconst 0, 1) := by decide +kernel
theorem dX5_area_21 : decode cX5_area 21 = .ok (.invokestatic 58, 3) := by decide +kernel
theorem dX5_area_24 : decode cX5_area 24 = .ok (.aload_n 0, 1) := by decide +kernel
theorem dX5_area_25 : decode cX5_area 25 = .ok (.iload_n 1, 1) := by decide +kernel
theorem dX5_area_26 : decode cX5_area 26 = .ok (.iload_n 2, 1) := by decide +kernel
theorem dX5_area_27 : decode cX5_area 27 = .ok (.invokevirtual 122, 3) := by decide +kernel
theorem dX5_area_30 : decode cX5_area 30 = .ok (.ireturn, 1) := by decide +kernel
theorem dX5_get_0 : decode cX5_get 0 = .ok (.aload_n 0, 1) := by decide +kernel
theorem dX5_get_1 : decode cX5_get 1 = .ok (.iload_n 1, 1) := by decide +kernel
theorem dX5_get_2 : decode cX5_get 2 = .ok (.invokevirtual 99, 3) := by decide +kernel
theorem dX5_get_5 : decode cX5_get 5 = .ok (.astore 4, 2) := by decide +kernel
theorem dX5_get_7 : decode cX5_get 7 = .ok (.iload_n 2, 1) := by decide +kernel
theorem dX5_get_8 : decode cX5_get 8 = .ok (.iconst 3, 1) := by decide +kernel
theorem dX5_get_9 : decode cX5_get 9 = .ok (.invokestatic 50, 3) := by decide +kernel
theorem dX5_get_12 : decode cX5_get 12 = .ok (.invokestatic 66, 3) := by decide +kernel
theorem dX5_get_15 : decode cX5_get 15 = .ok (.aload 4, 2) := by decide +kernel
theorem dX5_get_17 : decode cX5_get 17 = .ok (.invokevirtual 129, 3) := by decide +kernel
theorem dX5_get_20 : decode cX5_get 20 = .ok (.aload_n 0, 1) := by decide +kernel
theorem dX5_get_21 : decode cX5_get 21 = .ok (.aload 4, 2) := by decide +kernel
theorem dX5_get_23 : decode cX5_get 23 = .ok (.iload_n 2, 1) := by decide +kernel
theorem dX5_get_24 : decode cX5_get 24 = .ok (.iload_n 3, 1) := by decide +kernel
theorem dX5_get_25 : decode cX5_get 25 = .ok (.invokevirtual 132, 3) := by decide +kernel
theorem dX5_get_28 : decode cX5_get 28 = .ok (.istore 5, 2) := by decide +kernel
theorem dX5_get_30 : decode cX5_get 30 = .ok (.aload_n 0, 1) := by decide +kernel
theorem dX5_get_31 : decode cX5_get 31 = .ok (.getfield 28, 3) := by decide +kernel
theorem dX5_get_34 : decode cX5_get 34 = .ok (.invokevirtual 119, 3) := by decide +kernel
theorem dX5_get_37 : decode cX5_get 37 = .ok (.pop, 1) := by decide +kernel
theorem dX5_get_38 : decode cX5_get 38 = .ok (.iload 5, 2) := by decide +kernel
theorem dX5_get_40 : decode cX5_get 40 = .ok (.ireturn, 1) := by decide +kernel
theorem dX5_insert_0 : decode cX5_insert 0 = .ok (.aload_n 0, 1) := by decide +kernel
theorem dX5_insert_1 : decode cX5_insert 1 = .ok (.iload_n 1, 1) := by decide +kernel
theorem dX5_insert_2 : decode cX5_insert 2 = .ok (.invokevirtual 99, 3) := by decide +kernel
theorem dX5_insert_5 : decode cX5_insert 5 = .ok (.astore_n 2, 1) := by decide +kernel
theorem dX5_insert_6 : decode cX5_insert 6 = .ok (.aload_n 2, 1) := by decide +kernel
theorem dX5_insert_7 : decode cX5_insert 7 = .ok (.invokevirtual 129, 3) := by decide +kernel
theorem dX5_insert_10 : decode cX5_insert 10 = .ok (.aload_n 0, 1) := by decide +kernel
theorem dX5_insert_11 : decode cX5_insert 11 = .ok (.aload_n 2, 1) := by decide +kernel
theorem dX5_insert_12 : decode cX5_insert 12 = .ok (.invokevirtual 136, 3) := by decide +kernel
theorem dX5_insert_15 : decode cX5_insert 15 = .ok (.istore_n 3, 1) := by decide +kernel
theorem dX5_insert_16 : decode cX5_insert 16 = .ok (.aload_n 0, 1) := by decide +kernel
theorem dX5_insert_17 : decode cX5_insert 17 = .ok (.getfield 28, 3) := by decide +kernel
theorem dX5_insert_20 : decode cX5_insert 20 = .ok (.invokevirtual 119, 3) := by decide +kernel
theorem dX5_insert_23 : decode cX5_insert 23 = .ok (.pop, 1) := by decide +kernel
theorem dX5_insert_24 : decode cX5_insert 24 = .ok (.iload_n 3, 1) := by decide +kernel
theorem dX5_insert_25 : decode cX5_insert 25 = .ok (.ireturn, 1) := by decide +kernel
theorem dX5_replace_0 : decode cX5_replace 0 = .ok (.aload_n 0, 1) := by decide +kernel
theorem dX5_replace_1 : decode cX5_replace 1 = .ok (.iload_n 1, 1) := by decide +kernel
theorem dX5_replace_2 : decode cX5_replace 2 = .ok (.invokevirtual 99, 3) := by decide +kernel
theorem dX5_replace_5 : decode cX5_replace 5 = .ok (.astore_n 2, 1) := by decide +kernel
theorem dX5_replace_6 : decode cX5_replace 6 = .ok (.aload_n 0, 1) := by decide +kernel
theorem dX5_replace_7 : decode cX5_replace 7 = .ok (.aload_n 2, 1) := by decide +kernel
theorem dX5_replace_8 : decode cX5_replace 8 = .ok (.invokevirtual 140, 3) := by decide +kernel
theorem dX5_replace_11 : decode cX5_replace 11 = .ok (.istore_n 3, 1) := by decide +kernel
theorem dX5_replace_12 : decode cX5_replace 12 = .ok (.aload_n 2, 1) := by decide +kernel
theorem dX5_replace_13 : decode cX5_replace 13 = .ok (.invokevirtual 129, 3) := by decide +kernel
theorem dX5_replace_16 : decode cX5_replace 16 = .ok (.aload_n 0, 1) := by decide +kernel
theorem dX5_replace_17 : decode cX5_replace 17 = .ok (.getfield 28, 3) := by decide +kernel
theorem dX5_replace_20 : decode cX5_replace 20 = .ok (.invokevirtual 119, 3) := by decide +kernel
theorem dX5_replace_23 : decode cX5_replace 23 = .ok (.pop, 1) := by decide +kernel
theorem dX5_replace_24 : decode cX5_replace 24 = .ok (.iload_n 3, 1) := by decide +kernel
theorem dX5_replace_25 : decode cX5_replace 25 = .ok (.ireturn, 1) := by decide +kernel
theorem dX5_delete_0 : decode cX5_delete 0 = .ok (.aload_n 0, 1) := by decide +kernel
theorem dX5_delete_1 : decode cX5_delete 1 = .ok (.iload_n 1, 1) := by decide +kernel
theorem dX5_delete_2 : decode cX5_delete 2 = .ok (.invokevirtual 99, 3) := by decide +kernel
theorem dX5_delete_5 : decode cX5_delete 5 = .ok (.astore_n 2, 1) := by decide +kernel
theorem dX5_delete_6 : decode cX5_delete 6 = .ok (.aload_n 2, 1) := by decide +kernel
theorem dX5_delete_7 : decode cX5_delete 7 = .ok (.invokevirtual 143, 3) := by decide +kernel
theorem dX5_delete_10 : decode cX5_delete 10 = .ok (.istore_n 3, 1) := by decide +kernel
theorem dX5_delete_11 : decode cX5_delete 11 = .ok (.aload_n 2, 1) := by decide +kernel
theorem dX5_delete_12 : decode cX5_delete 12 = .ok (.invokevirtual 129, 3) := by decide +kernel
theorem dX5_delete_15 : decode cX5_delete 15 = .ok (.iload_n 3, 1) := by decide +kernel
theorem dX5_delete_16 : decode cX5_delete 16 = .ok (.iconst (-1), 1) := by decide +kernel
theorem dX5_delete_17 : decode cX5_delete 17 = .ok (.if_icmp .ne 8, 3) := by decide +kernel
theorem dX5_delete_20 : decode cX5_delete 20 = .ok (.bipush 6, 2) := by decide +kernel
theorem dX5_delete_22 : decode cX5_delete 22 = .ok (.goto 8, 3) := by decide +kernel
theorem dX5_delete_25 : decode cX5_delete 25 = .ok (.aload_n 0, 1) := by decide +kernel
theorem dX5_delete_26 : decode cX5_delete 26 = .ok (.iload_n 3, 1) := by decide +kernel
theorem dX5_delete_27 : decode cX5_delete 27 = .ok (.invokevirtual 146, 3) := by decide +kernel
theorem dX5_delete_30 : decode cX5_delete 30 = .ok (.istore 4, 2) := by decide +kernel
theorem dX5_delete_32 : decode cX5_delete 32 = .ok (.aload_n 0, 1) := by decide +kernel
theorem dX5_delete_33 : decode cX5_delete 33 = .ok (.getfield 28, 3) := by decide +kernel
theorem dX5_delete_36 : decode cX5_delete 36 = .ok (.invokevirtual 119, 3) := by decide +kernel
theorem dX5_delete_39 : decode cX5_delete 39 = .ok (.pop, 1) := by decide +kernel
theorem dX5_delete_40 : decode cX5_delete 40 = .ok (.iload 4, 2) := by decide +kernel
theorem dX5_delete_42 : decode cX5_delete 42 = .ok (.ireturn, 1) := by decide +kernel
theorem dX5_types_0 : decode cX5_types 0 = .ok (.aload_n 0, 1) := by decide +kernel
theorem dX5_types_1 : decode cX5_types 1 = .ok (.getfield 10, 3) := by decide +kernel
theorem dX5_types_4 : decode cX5_types 4 = .ok (.invokevirtual 81, 3) := by decide +kernel
theorem dX5_types_7 : decode cX5_types 7 = .ok (.ireturn, 1) := by decide +kernel
theorem dX5_count_0 : decode cX5_count 0 = .ok (.iload_n 1, 1) := by decide +kernel
theorem dX5_count_1 : decode cX5_count 1 = .ok (.iconst 3, 1) := by decide +kernel
theorem dX5_count_2 : decode cX5_count 2 = .ok (.invokestatic 50, 3) := by decide +kernel
theorem dX5_count_5 : decode cX5_count 5 = .ok (.invokestatic 58, 3) := by decide +kernel
theorem dX5_count_8 : decode cX5_count 8 = .ok (.aload_n 0, 1) := by decide +kernel
theorem dX5_count_9 : decode cX5_count 9 = .ok (.getfield 21, 3) := by decide +kernel
theorem dX5_count_12 : decode cX5_count 12 = .ok (.iload_n 1, 1) := by decide +kernel
theorem dX5_count_13 : decode cX5_count 13 = .ok (.invokevirtual 69, 3) := by decide +kernel
theorem dX5_count_16 : decode cX5_count 16 = .ok (.ireturn, 1) := by decide +kernel
theorem dX5_rowAt_0 : decode cX5_rowAt 0 = .ok (.aload_n 0, 1) := by decide +kernel
theorem dX5_rowAt_1 : decode cX5_rowAt 1 = .ok (.iload_n 1, 1) := by decide +kernel
theorem dX5_rowAt_2 : decode cX5_rowAt 2 = .ok (.iload_n 2, 1) := by decide +kernel
theorem dX5_rowAt_3 : decode cX5_rowAt 3 = .ok (.invokevirtual 149, 3) := by decide +kernel
theorem dX5_rowAt_6 : decode cX5_rowAt 6 = .ok (.invokestatic 58, 3) := by decide +kernel
theorem dX5_rowAt_9 : decode cX5_rowAt 9 = .ok (.aload_n 0, 1) := by decide +kernel
theorem dX5_rowAt_10 : decode cX5_rowAt 10 = .ok (.getfield 21, 3) := by decide +kernel
theorem dX5_rowAt_13 : decode cX5_rowAt 13 = .ok (.aload_n 0, 1) := by decide +kernel
theorem dX5_rowAt_14 : decode cX5_rowAt 14 = .ok (.getfield 21, 3) := by decide +kernel
theorem dX5_rowAt_17 : decode cX5_rowAt 17 = .ok (.iload_n 1, 1) := by decide +kernel
theorem dX5_rowAt_18 : decode cX5_rowAt 18 = .ok (.iload_n 2, 1) := by decide +kernel
theorem dX5_rowAt_19 : decode cX5_rowAt 19 = .ok (.invokevirtual 152, 3) := by decide +kernel
theorem dX5_rowAt_22 : decode cX5_rowAt 22 = .ok (.invokevirtual 155, 3) := by decide +kernel
theorem dX5_rowAt_25 : decode cX5_rowAt 25 = .ok (.ireturn, 1) := by decide +kernel
theorem dX5_rowAnew_0 : decode cX5_rowAnew 0 = .ok (.aload_n 0, 1) := by decide +kernel
theorem dX5_rowAnew_1 : decode cX5_rowAnew 1 = .ok (.iload_n 1, 1) := by decide +kernel
theorem dX5_rowAnew_2 : decode cX5_rowAnew 2 = .ok (.iload_n 2, 1) := by decide +kernel
theorem dX5_rowAnew_3 : decode cX5_rowAnew 3 = .ok (.invokevirtual 149, 3) := by decide +kernel
theorem dX5_rowAnew_6 : decode cX5_rowAnew 6 = .ok (.invokestatic 58, 3) := by decide +kernel
theorem dX5_rowAnew_9 : decode cX5_rowAnew 9 = .ok (.iconst 0, 1) := by decide +kernel
theorem dX5_rowAnew_10 : decode cX5_rowAnew 10 = .ok (.istore_n 3, 1) := by decide +kernel
theorem dX5_rowAnew_11 : decode cX5_rowAnew 11 = .ok (.iload_n 3, 1) := by decide +kernel
theorem dX5_rowAnew_12 : decode cX5_rowAnew 12 = .ok (.bipush 60, 2) := by decide +kernel
theorem dX5_rowAnew_14 : decode cX5_rowAnew 14 = .ok (.if_icmp .ge 40, 3) := by decide +kernel
theorem dX5_rowAnew_17 : decode cX5_rowAnew 17 = .ok (.aload_n 0, 1) := by decide +kernel
theorem dX5_rowAnew_18 : decode cX5_rowAnew 18 = .ok (.getfield 21, 3) := by decide +kernel
theorem dX5_rowAnew_21 : decode cX5_rowAnew 21 = .ok (.iload_n 3, 1) := by decide +kernel
theorem dX5_rowAnew_22 : decode cX5_rowAnew 22 = .ok (.invokevirtual 158, 3) := by decide +kernel
theorem dX5_rowAnew_25 : decode cX5_rowAnew 25 = .ok (.iload_n 1, 1) := by decide +kernel
theorem dX5_rowAnew_26 : decode cX5_rowAnew 26 = .ok (.if_icmp .ne 22, 3) := by decide +kernel
theorem dX5_rowAnew_29 : decode cX5_rowAnew 29 = .ok (.aload_n 0, 1) := by decide +kernel
theorem dX5_rowAnew_30 : decode cX5_rowAnew 30 = .ok (.iload_n 1, 1) := by decide +kernel
theorem dX5_rowAnew_31 : decode cX5_rowAnew 31 = .ok (.iload_n 3, 1) := by decide +kernel
theorem dX5_rowAnew_32 : decode cX5_rowAnew 32 = .ok (.invokevirtual 159, 3) := by decide +kernel
theorem dX5_rowAnew_35 : decode cX5_rowAnew 35 = .ok (.iload_n 2, 1) := by decide +kernel
theorem dX5_rowAnew_36 : decode cX5_rowAnew 36 = .ok (.if_icmp .ne 12, 3) := by decide +kernel
theorem dX5_rowAnew_39 : decode cX5_rowAnew 39 = .ok (.aload_n 0, 1) := by decide +kernel
theorem dX5_rowAnew_40 : decode cX5_rowAnew 40 = .ok (.getfield 21, 3) := by decide +kernel
theorem dX5_rowAnew_43 : decode cX5_rowAnew 43 = .ok (.iload_n 3, 1) := by decide +kernel
theorem dX5_rowAnew_44 : decode cX5_rowAnew 44 = .ok (.invokevirtual 155, 3) := by decide +kernel
theorem dX5_rowAnew_47 : decode cX5_rowAnew 47 = .ok (.ireturn, 1) := by decide +kernel
theorem dX5_rowAnew_48 : decode cX5_rowAnew 48 = .ok (.iinc 3 1, 3) := by decide +kernel
theorem dX5_rowAnew_51 : decode cX5_rowAnew 51 = .ok (.goto (-40), 3) := by decide +kernel
theorem dX5_rowAnew_54 : decode cX5_rowAnew 54 = .ok (.iconst (-1), 1) := by decide +kernel
theorem dX5_rowAnew_55 : decode cX5_rowAnew 55 = .ok (.ireturn, 1) := by decide +kernel
theorem dX5_fieldAt_0 : decode cX5_fieldAt 0 = .ok (.aload_n 0, 1) := by decide +kernel
theorem dX5_fieldAt_1 : decode cX5_fieldAt 1 = .ok (.iload_n 1, 1) := by decide +kernel
theorem dX5_fieldAt_2 : decode cX5_fieldAt 2 = .ok (.iload_n 2, 1) := by decide +kernel
theorem dX5_fieldAt_3 : decode cX5_fieldAt 3 = .ok (.invokevirtual 149, 3) := by decide +kernel
theorem dX5_fieldAt_6 : decode cX5_fieldAt 6 = .ok (.ifCond .eq 15, 3) := by decide +kernel
theorem dX5_fieldAt_9 : decode cX5_fieldAt 9 = .ok (.iload_n 3, 1) := by decide +kernel
theorem dX5_fieldAt_10 : decode cX5_fieldAt 10 = .ok (.iconst 3, 1) := by decide +kernel
theorem dX5_fieldAt_11 : decode cX5_fieldAt 11 = .ok (.invokestatic 50, 3) := by decide +kernel
theorem dX5_fieldAt_14 : decode cX5_fieldAt 14 = .ok (.ifCond .eq 7, 3) := by decide +kernel
theorem dX5_fieldAt_17 : decode cX5_fieldAt 17 = .ok (.iconst 1, 1) := by decide +kernel
theorem dX5_fieldAt_18 : decode cX5_fieldAt 18 = .ok (.goto 4, 3) := by decide +kernel
theorem dX5_fieldAt_21 : decode cX5_fieldAt 21 = .ok (.iconst 0, 1) := by decide +kernel
theorem dX5_fieldAt_22 : decode cX5_fieldAt 22 = .ok (.invokestatic 58, 3) := by decide +kernel
theorem dX5_fieldAt_25 : decode cX5_fieldAt 25 = .ok (.aload_n 0, 1) := by decide +kernel
theorem dX5_fieldAt_26 : decode cX5_fieldAt 26 = .ok (.getfield 21, 3) := by decide +kernel
theorem dX5_fieldAt_29 : decode cX5_fieldAt 29 = .ok (.aload_n 0, 1) := by decide +kernel
theorem dX5_fieldAt_30 : decode cX5_fieldAt 30 = .ok (.getfield 21, 3) := by decide +kernel
theorem dX5_fieldAt_33 : decode cX5_fieldAt 33 = .ok (.iload_n 1, 1) := by decide +kernel
theorem dX5_fieldAt_34 : decode cX5_fieldAt 34 = .ok (.iload_n 2, 1) := by decide +kernel
theorem dX5_fieldAt_35 : decode cX5_fieldAt 35 = .ok (.invokevirtual 152, 3) := by decide +kernel
theorem dX5_fieldAt_38 : decode cX5_fieldAt 38 = .ok (.iload_n 3, 1) := by decide +kernel
theorem dX5_fieldAt_39 : decode cX5_fieldAt 39 = .ok (.invokevirtual 162, 3) := by decide +kernel
theorem dX5_fieldAt_42 : decode cX5_fieldAt 42 = .ok (.ireturn, 1) := by decide +kernel
theorem dX5_at_0 : decode cX5_at 0 = .ok (.aload_n 0, 1) := by decide +kernel
theorem dX5_at_1 : decode cX5_at 1 = .ok (.iload_n 1, 1) := by decide +kernel
theorem dX5_at_2 : decode cX5_at 2 = .ok (.invokevirtual 99, 3) := by decide +kernel
theorem dX5_at_5 : decode cX5_at 5 = .ok (.astore_n 2, 1) := by decide +kernel
theorem dX5_at_6 : decode cX5_at 6 = .ok (.aload_n 0, 1) := by decide +kernel
theorem dX5_at_7 : decode cX5_at 7 = .ok (.getfield 21, 3) := by decide +kernel
theorem dX5_at_10 : decode cX5_at 10 = .ok (.aload_n 2, 1) := by decide +kernel
theorem dX5_at_11 : decode cX5_at 11 = .ok (.invokevirtual 165, 3) := by decide +kernel
theorem dX5_at_14 : decode cX5_at 14 = .ok (.invokevirtual 167, 3) := by decide +kernel
theorem dX5_at_17 : decode cX5_at 17 = .ok (.ireturn, 1) := by decide +kernel
theorem dX5_ahead_0 : decode cX5_ahead 0 = .ok (.aload_n 0, 1) := by decide +kernel
theorem dX5_ahead_1 : decode cX5_ahead 1 = .ok (.aload_n 0, 1) := by decide +kernel
theorem dX5_ahead_2 : decode cX5_ahead 2 = .ok (.iload_n 1, 1) := by decide +kernel
theorem dX5_ahead_3 : decode cX5_ahead 3 = .ok (.invokevirtual 99, 3) := by decide +kernel
theorem dX5_ahead_6 : decode cX5_ahead 6 = .ok (.invokevirtual 170, 3) := by decide +kernel
theorem dX5_ahead_9 : decode cX5_ahead 9 = .ok (.ireturn, 1) := by decide +kernel
theorem dX5_parent_0 : decode cX5_parent 0 = .ok (.aload_n 0, 1) := by decide +kernel
theorem dX5_parent_1 : decode cX5_parent 1 = .ok (.iload_n 1, 1) := by decide +kernel
theorem dX5_parent_2 : decode cX5_parent 2 = .ok (.invokevirtual 99, 3) := by decide +kernel
theorem dX5_parent_5 : decode cX5_parent 5 = .ok (.astore_n 2, 1) := by decide +kernel
theorem dX5_parent_6 : decode cX5_parent 6 = .ok (.aload_n 0, 1) := by decide +kernel
theorem dX5_parent_7 : decode cX5_parent 7 = .ok (.getfield 21, 3) := by decide +kernel
theorem dX5_parent_10 : decode cX5_parent 10 = .ok (.aload_n 2, 1) := by decide +kernel
theorem dX5_parent_11 : decode cX5_parent 11 = .ok (.invokevirtual 173, 3) := by decide +kernel
theorem dX5_parent_14 : decode cX5_parent 14 = .ok (.invokevirtual 167, 3) := by decide +kernel
theorem dX5_parent_17 : decode cX5_parent 17 = .ok (.ireturn, 1) := by decide +kernel
theorem dX5_holds_0 : decode cX5_holds 0 = .ok (.aload_n 0, 1) := by decide +kernel
theorem dX5_holds_1 : decode cX5_holds 1 = .ok (.iload_n 1, 1) := by decide +kernel
theorem dX5_holds_2 : decode cX5_holds 2 = .ok (.invokevirtual 99, 3) := by decide +kernel
theorem dX5_holds_5 : decode cX5_holds 5 = .ok (.astore_n 2, 1) := by decide +kernel
theorem dX5_holds_6 : decode cX5_holds 6 = .ok (.aload_n 2, 1) := by decide +kernel
theorem dX5_holds_7 : decode cX5_holds 7 = .ok (.invokevirtual 176, 3) := by decide +kernel
theorem dX5_holds_10 : decode cX5_holds 10 = .ok (.ireturn, 1) := by decide +kernel
theorem dX5_keys_0 : decode cX5_keys 0 = .ok (.aload_n 0, 1) := by decide +kernel
theorem dX5_keys_1 : decode cX5_keys 1 = .ok (.iload_n 1, 1) := by decide +kernel
theorem dX5_keys_2 : decode cX5_keys 2 = .ok (.invokevirtual 99, 3) := by decide +kernel
theorem dX5_keys_5 : decode cX5_keys 5 = .ok (.astore_n 2, 1) := by decide +kernel
theorem dX5_keys_6 : decode cX5_keys 6 = .ok (.aload_n 2, 1) := by decide +kernel
theorem dX5_keys_7 : decode cX5_keys 7 = .ok (.invokevirtual 165, 3) := by decide +kernel
theorem dX5_keys_10 : decode cX5_keys 10 = .ok (.istore_n 3, 1) := by decide +kernel
theorem dX5_keys_11 : decode cX5_keys 11 = .ok (.iload_n 3, 1) := by decide +kernel
theorem dX5_keys_12 : decode cX5_keys 12 = .ok (.iconst (-1), 1) := by decide +kernel
theorem dX5_keys_13 : decode cX5_keys 13 = .ok (.if_icmp .ne 7, 3) := by decide +kernel
theorem dX5_keys_16 : decode cX5_keys 16 = .ok (.ldc2_w 179, 3) := by decide +kernel
theorem dX5_keys_19 : decode cX5_keys 19 = .ok (.lreturn, 1) := by decide +kernel
theorem dX5_keys_20 : decode cX5_keys 20 = .ok (.lconst 0, 1) := by decide +kernel
theorem dX5_keys_21 : decode cX5_keys 21 = .ok (.lstore 4, 2) := by decide +kernel
theorem dX5_keys_23 : decode cX5_keys 23 = .ok (.lconst 1, 1) := by decide +kernel
theorem dX5_keys_24 : decode cX5_keys 24 = .ok (.lstore 6, 2) := by decide +kernel
theorem dX5_keys_26 : decode cX5_keys 26 = .ok (.iconst 0, 1) := by decide +kernel
theorem dX5_keys_27 : decode cX5_keys 27 = .ok (.istore 8, 2) := by decide +kernel
theorem dX5_keys_29 : decode cX5_keys 29 = .ok (.iload 8, 2) := by decide +kernel
theorem dX5_keys_31 : decode cX5_keys 31 = .ok (.iconst 4, 1) := by decide +kernel
theorem dX5_keys_32 : decode cX5_keys 32 = .ok (.if_icmp .ge 49, 3) := by decide +kernel
theorem dX5_keys_35 : decode cX5_keys 35 = .ok (.iload_n 3, 1) := by decide +kernel
theorem dX5_keys_36 : decode cX5_keys 36 = .ok (.iconst (-1), 1) := by decide +kernel
theorem dX5_keys_37 : decode cX5_keys 37 = .ok (.if_icmp .eq 44, 3) := by decide +kernel
theorem dX5_keys_40 : decode cX5_keys 40 = .ok (.lload 4, 2) := by decide +kernel
theorem dX5_keys_42 : decode cX5_keys 42 = .ok (.lload 6, 2) := by decide +kernel
theorem dX5_keys_44 : decode cX5_keys 44 = .ok (.aload_n 0, 1) := by decide +kernel
theorem dX5_keys_45 : decode cX5_keys 45 = .ok (.getfield 21, 3) := by decide +kernel
theorem dX5_keys_48 : decode cX5_keys 48 = .ok (.iload_n 3, 1) := by decide +kernel
theorem dX5_keys_49 : decode cX5_keys 49 = .ok (.iconst 0, 1) := by decide +kernel
theorem dX5_keys_50 : decode cX5_keys 50 = .ok (.invokevirtual 162, 3) := by decide +kernel
theorem dX5_keys_53 : decode cX5_keys 53 = .ok (.i2l, 1) := by decide +kernel
theorem dX5_keys_54 : decode cX5_keys 54 = .ok (.lmul, 1) := by decide +kernel
theorem dX5_keys_55 : decode cX5_keys 55 = .ok (.ladd, 1) := by decide +kernel
theorem dX5_keys_56 : decode cX5_keys 56 = .ok (.lstore 4, 2) := by decide +kernel
theorem dX5_keys_58 : decode cX5_keys 58 = .ok (.lload 6, 2) := by decide +kernel
theorem dX5_keys_60 : decode cX5_keys 60 = .ok (.ldc2_w 181, 3) := by decide +kernel
theorem dX5_keys_63 : decode cX5_keys 63 = .ok (.lmul, 1) := by decide +kernel
theorem dX5_keys_64 : decode cX5_keys 64 = .ok (.lstore 6, 2) := by decide +kernel
theorem dX5_keys_66 : decode cX5_keys 66 = .ok (.aload_n 0, 1) := by decide +kernel
theorem dX5_keys_67 : decode cX5_keys 67 = .ok (.getfield 21, 3) := by decide +kernel
theorem dX5_keys_70 : decode cX5_keys 70 = .ok (.iload_n 3, 1) := by decide +kernel
theorem dX5_keys_71 : decode cX5_keys 71 = .ok (.invokevirtual 183, 3) := by decide +kernel
theorem dX5_keys_74 : decode cX5_keys 74 = .ok (.istore_n 3, 1) := by decide +kernel
theorem dX5_keys_75 : decode cX5_keys 75 = .ok (.iinc 8 1, 3) := by decide +kernel
theorem dX5_keys_78 : decode cX5_keys 78 = .ok (.goto (-49), 3) := by decide +kernel
theorem dX5_keys_81 : decode cX5_keys 81 = .ok (.lload 4, 2) := by decide +kernel
theorem dX5_keys_83 : decode cX5_keys 83 = .ok (.lreturn, 1) := by decide +kernel
theorem dX5_second_0 : decode cX5_second 0 = .ok (.aload_n 0, 1) := by decide +kernel
theorem dX5_second_1 : decode cX5_second 1 = .ok (.iload_n 1, 1) := by decide +kernel
theorem dX5_second_2 : decode cX5_second 2 = .ok (.invokevirtual 99, 3) := by decide +kernel
theorem dX5_second_5 : decode cX5_second 5 = .ok (.astore_n 2, 1) := by decide +kernel
theorem dX5_second_6 : decode cX5_second 6 = .ok (.aload_n 2, 1) := by decide +kernel
theorem dX5_second_7 : decode cX5_second 7 = .ok (.invokevirtual 165, 3) := by decide +kernel
theorem dX5_second_10 : decode cX5_second 10 = .ok (.istore_n 3, 1) := by decide +kernel
theorem dX5_second_11 : decode cX5_second 11 = .ok (.aload_n 0, 1) := by decide +kernel
theorem dX5_second_12 : decode cX5_second 12 = .ok (.getfield 10, 3) := by decide +kernel
theorem dX5_second_15 : decode cX5_second 15 = .ok (.aload_n 0, 1) := by decide +kernel
theorem dX5_second_16 : decode cX5_second 16 = .ok (.getfield 21, 3) := by decide +kernel
theorem dX5_second_19 : decode cX5_second 19 = .ok (.iload_n 3, 1) := by decide +kernel
theorem dX5_second_20 : decode cX5_second 20 = .ok (.invokevirtual 186, 3) := by decide +kernel
theorem dX5_second_23 : decode cX5_second 23 = .ok (.invokevirtual 92, 3) := by decide +kernel
theorem dX5_second_26 : decode cX5_second 26 = .ok (.istore 4, 2) := by decide +kernel
theorem dX5_second_28 : decode cX5_second 28 = .ok (.aload_n 0, 1) := by decide +kernel
theorem dX5_second_29 : decode cX5_second 29 = .ok (.getfield 21, 3) := by decide +kernel
theorem dX5_second_32 : decode cX5_second 32 = .ok (.aload_n 0, 1) := by decide +kernel
theorem dX5_second_33 : decode cX5_second 33 = .ok (.getfield 21, 3) := by decide +kernel
theorem dX5_second_36 : decode cX5_second 36 = .ok (.iload 4, 2) := by decide +kernel
theorem dX5_second_38 : decode cX5_second 38 = .ok (.aload_n 0, 1) := by decide +kernel
theorem dX5_second_39 : decode cX5_second 39 = .ok (.getfield 21, 3) := by decide +kernel
theorem dX5_second_42 : decode cX5_second 42 = .ok (.iload_n 3, 1) := by decide +kernel
theorem dX5_second_43 : decode cX5_second 43 = .ok (.iconst 2, 1) := by decide +kernel
theorem dX5_second_44 : decode cX5_second 44 = .ok (.invokevirtual 162, 3) := by decide +kernel
theorem dX5_second_47 : decode cX5_second 47 = .ok (.invokevirtual 189, 3) := by decide +kernel
theorem dX5_second_50 : decode cX5_second 50 = .ok (.invokevirtual 167, 3) := by decide +kernel
theorem dX5_second_53 : decode cX5_second 53 = .ok (.ireturn, 1) := by decide +kernel
theorem dX5_tied_0 : decode cX5_tied 0 = .ok (.aload_n 0, 1) := by decide +kernel
theorem dX5_tied_1 : decode cX5_tied 1 = .ok (.iload_n 1, 1) := by decide +kernel
theorem dX5_tied_2 : decode cX5_tied 2 = .ok (.invokevirtual 99, 3) := by decide +kernel
theorem dX5_tied_5 : decode cX5_tied 5 = .ok (.astore_n 2, 1) := by decide +kernel
theorem dX5_tied_6 : decode cX5_tied 6 = .ok (.aload_n 2, 1) := by decide +kernel
theorem dX5_tied_7 : decode cX5_tied 7 = .ok (.invokevirtual 165, 3) := by decide +kernel
theorem dX5_tied_10 : decode cX5_tied 10 = .ok (.istore_n 3, 1) := by decide +kernel
theorem dX5_tied_11 : decode cX5_tied 11 = .ok (.iconst 0, 1) := by decide +kernel
theorem dX5_tied_12 : decode cX5_tied 12 = .ok (.istore 4, 2) := by decide +kernel
theorem dX5_tied_14 : decode cX5_tied 14 = .ok (.iconst 0, 1) := by decide +kernel
theorem dX5_tied_15 : decode cX5_tied 15 = .ok (.istore 5, 2) := by decide +kernel
theorem dX5_tied_17 : decode cX5_tied 17 = .ok (.iload 5, 2) := by decide +kernel
theorem dX5_tied_19 : decode cX5_tied 19 = .ok (.bipush 60, 2) := by decide +kernel
theorem dX5_tied_21 : decode cX5_tied 21 = .ok (.if_icmp .ge 25, 3) := by decide +kernel
theorem dX5_tied_24 : decode cX5_tied 24 = .ok (.aload_n 0, 1) := by decide +kernel
theorem dX5_tied_25 : decode cX5_tied 25 = .ok (.getfield 21, 3) := by decide +kernel
theorem dX5_tied_28 : decode cX5_tied 28 = .ok (.iload 5, 2) := by decide +kernel
theorem dX5_tied_30 : decode cX5_tied 30 = .ok (.iload_n 3, 1) := by decide +kernel
theorem dX5_tied_31 : decode cX5_tied 31 = .ok (.invokevirtual 192, 3) := by decide +kernel
theorem dX5_tied_34 : decode cX5_tied 34 = .ok (.ifCond .eq 6, 3) := by decide +kernel
theorem dX5_tied_37 : decode cX5_tied 37 = .ok (.iinc 4 1, 3) := by decide +kernel
theorem dX5_tied_40 : decode cX5_tied 40 = .ok (.iinc 5 1, 3) := by decide +kernel
theorem dX5_tied_43 : decode cX5_tied 43 = .ok (.goto (-26), 3) := by decide +kernel
theorem dX5_tied_46 : decode cX5_tied 46 = .ok (.iload 4, 2) := by decide +kernel
theorem dX5_tied_48 : decode cX5_tied 48 = .ok (.ireturn, 1) := by decide +kernel
theorem dX5_isIn_0 : decode cX5_isIn 0 = .ok (.iload_n 0, 1) := by decide +kernel
theorem dX5_isIn_1 : decode cX5_isIn 1 = .ok (.ifCond .lt 12, 3) := by decide +kernel
theorem dX5_isIn_4 : decode cX5_isIn 4 = .ok (.iload_n 0, 1) := by decide +kernel
theorem dX5_isIn_5 : decode cX5_isIn 5 = .ok (.iload_n 1, 1) := by decide +kernel
theorem dX5_isIn_6 : decode cX5_isIn 6 = .ok (.if_icmp .ge 7, 3) := by decide +kernel
theorem dX5_isIn_9 : decode cX5_isIn 9 = .ok (.iconst 1, 1) := by decide +kernel
theorem dX5_isIn_10 : decode cX5_isIn 10 = .ok (.goto 4, 3) := by decide +kernel
theorem dX5_isIn_13 : decode cX5_isIn 13 = .ok (.iconst 0, 1) := by decide +kernel
theorem dX5_isIn_14 : decode cX5_isIn 14 = .ok (.ireturn, 1) := by decide +kernel
theorem dX5_isPlace_0 : decode cX5_isPlace 0 = .ok (.iload_n 1, 1) := by decide +kernel
theorem dX5_isPlace_1 : decode cX5_isPlace 1 = .ok (.iconst 3, 1) := by decide +kernel
theorem dX5_isPlace_2 : decode cX5_isPlace 2 = .ok (.invokestatic 50, 3) := by decide +kernel
theorem dX5_isPlace_5 : decode cX5_isPlace 5 = .ok (.ifCond .eq 22, 3) := by decide +kernel
theorem dX5_isPlace_8 : decode cX5_isPlace 8 = .ok (.iload_n 2, 1) := by decide +kernel
theorem dX5_isPlace_9 : decode cX5_isPlace 9 = .ok (.aload_n 0, 1) := by decide +kernel
theorem dX5_isPlace_10 : decode cX5_isPlace 10 = .ok (.getfield 21, 3) := by decide +kernel
theorem dX5_isPlace_13 : decode cX5_isPlace 13 = .ok (.iload_n 1, 1) := by decide +kernel
theorem dX5_isPlace_14 : decode cX5_isPlace 14 = .ok (.invokevirtual 69, 3) := by decide +kernel
theorem dX5_isPlace_17 : decode cX5_isPlace 17 = .ok (.invokestatic 50, 3) := by decide +kernel
theorem dX5_isPlace_20 : decode cX5_isPlace 20 = .ok (.ifCond .eq 7, 3) := by decide +kernel
theorem dX5_isPlace_23 : decode cX5_isPlace 23 = .ok (.iconst 1, 1) := by decide +kernel
theorem dX5_isPlace_24 : decode cX5_isPlace 24 = .ok (.goto 4, 3) := by decide +kernel
theorem dX5_isPlace_27 : decode cX5_isPlace 27 = .ok (.iconst 0, 1) := by decide +kernel
theorem dX5_isPlace_28 : decode cX5_isPlace 28 = .ok (.ireturn, 1) := by decide +kernel
theorem dX5_needIndex_0 : decode cX5_needIndex 0 = .ok (.iload_n 0, 1) := by decide +kernel
theorem dX5_needIndex_1 : decode cX5_needIndex 1 = .ok (.ifCond .ne 13, 3) := by decide +kernel
theorem dX5_needIndex_4 : decode cX5_needIndex 4 = .ok (.new 195, 3) := by decide +kernel
theorem dX5_needIndex_7 : decode cX5_needIndex 7 = .ok (.dup, 1) := by decide +kernel
theorem dX5_needIndex_8 : decode cX5_needIndex 8 = .ok (.ldc 197, 2) := by decide +kernel
theorem dX5_needIndex_10 : decode cX5_needIndex 10 = .ok (.invokespecial 199, 3) := by decide +kernel
theorem dX5_needIndex_13 : decode cX5_needIndex 13 = .ok (.athrow, 1) := by decide +kernel
theorem dX5_needIndex_14 : decode cX5_needIndex 14 = .ok (.return_, 1) := by decide +kernel
theorem dX5_needRange_0 : decode cX5_needRange 0 = .ok (.iload_n 0, 1) := by decide +kernel
theorem dX5_needRange_1 : decode cX5_needRange 1 = .ok (.ifCond .ne 13, 3) := by decide +kernel
theorem dX5_needRange_4 : decode cX5_needRange 4 = .ok (.new 202, 3) := by decide +kernel
theorem dX5_needRange_7 : decode cX5_needRange 7 = .ok (.dup, 1) := by decide +kernel
theorem dX5_needRange_8 : decode cX5_needRange 8 = .ok (.ldc 204, 2) := by decide +kernel
theorem dX5_needRange_10 : decode cX5_needRange 10 = .ok (.invokespecial 206, 3) := by decide +kernel
theorem dX5_needRange_13 : decode cX5_needRange 13 = .ok (.athrow, 1) := by decide +kernel
theorem dX5_needRange_14 : decode cX5_needRange 14 = .ok (.return_, 1) := by decide +kernel
theorem dX5_needState_0 : decode cX5_needState 0 = .ok (.iload_n 0, 1) := by decide +kernel
theorem dX5_needState_1 : decode cX5_needState 1 = .ok (.ifCond .ne 13, 3) := by decide +kernel
theorem dX5_needState_4 : decode cX5_needState 4 = .ok (.new 207, 3) := by decide +kernel
theorem dX5_needState_7 : decode cX5_needState 7 = .ok (.dup, 1) := by decide +kernel
theorem dX5_needState_8 : decode cX5_needState 8 = .ok (.ldc 209, 2) := by decide +kernel
theorem dX5_needState_10 : decode cX5_needState 10 = .ok (.invokespecial 211, 3) := by decide +kernel
theorem dX5_needState_13 : decode cX5_needState 13 = .ok (.athrow, 1) := by decide +kernel
theorem dX5_needState_14 : decode cX5_needState 14 = .ok (.return_, 1) := by decide +kernel
theorem dX5_viewOf_0 : decode cX5_viewOf 0 = .ok (.iload_n 1, 1) := by decide +kernel
theorem dX5_viewOf_1 : decode cX5_viewOf 1 = .ok (.ifCond .lt 21, 3) := by decide +kernel
theorem dX5_viewOf_4 : decode cX5_viewOf 4 = .ok (.iload_n 1, 1) := by decide +kernel
theorem dX5_viewOf_5 : decode cX5_viewOf 5 = .ok (.aload_n 0, 1) := by decide +kernel
theorem dX5_viewOf_6 : decode cX5_viewOf 6 = .ok (.getfield 41, 3) := by decide +kernel
theorem dX5_viewOf_9 : decode cX5_viewOf 9 = .ok (.arraylength, 1) := by decide +kernel
theorem dX5_viewOf_10 : decode cX5_viewOf 10 = .ok (.if_icmp .ge 12, 3) := by decide +kernel
theorem dX5_viewOf_13 : decode cX5_viewOf 13 = .ok (.aload_n 0, 1) := by decide +kernel
theorem dX5_viewOf_14 : decode cX5_viewOf 14 = .ok (.getfield 41, 3) := by decide +kernel
theorem dX5_viewOf_17 : decode cX5_viewOf 17 = .ok (.iload_n 1, 1) := by decide +kernel
theorem dX5_viewOf_18 : decode cX5_viewOf 18 = .ok (.aaload, 1) := by decide +kernel
theorem dX5_viewOf_19 : decode cX5_viewOf 19 = .ok (.ifnonnull 13, 3) := by decide +kernel
theorem dX5_viewOf_22 : decode cX5_viewOf 22 = .ok (.new 195, 3) := by decide +kernel
theorem dX5_viewOf_25 : decode cX5_viewOf 25 = .ok (.dup, 1) := by decide +kernel
theorem dX5_viewOf_26 : decode cX5_viewOf 26 = .ok (.ldc 212, 2) := by decide +kernel
theorem dX5_viewOf_28 : decode cX5_viewOf 28 = .ok (.invokespecial 199, 3) := by decide +kernel
theorem dX5_viewOf_31 : decode cX5_viewOf 31 = .ok (.athrow, 1) := by decide +kernel
theorem dX5_viewOf_32 : decode cX5_viewOf 32 = .ok (.aload_n 0, 1) := by decide +kernel
theorem dX5_viewOf_33 : decode cX5_viewOf 33 = .ok (.getfield 41, 3) := by decide +kernel
theorem dX5_viewOf_36 : decode cX5_viewOf 36 = .ok (.iload_n 1, 1) := by decide +kernel
theorem dX5_viewOf_37 : decode cX5_viewOf 37 = .ok (.aaload, 1) := by decide +kernel
theorem dX5_viewOf_38 : decode cX5_viewOf 38 = .ok (.areturn, 1) := by decide +kernel
theorem dX5_slotNumber_0 : decode cX5_slotNumber 0 = .ok (.iload_n 1, 1) := by decide +kernel
theorem dX5_slotNumber_1 : decode cX5_slotNumber 1 = .ok (.iconst 4, 1) := by decide +kernel
theorem dX5_slotNumber_2 : decode cX5_slotNumber 2 = .ok (.invokestatic 50, 3) := by decide +kernel
theorem dX5_slotNumber_5 : decode cX5_slotNumber 5 = .ok (.ifCond .eq 24, 3) := by decide +kernel
theorem dX5_slotNumber_8 : decode cX5_slotNumber 8 = .ok (.iload_n 2, 1) := by decide +kernel
theorem dX5_slotNumber_9 : decode cX5_slotNumber 9 = .ok (.iconst 3, 1) := by decide +kernel
theorem dX5_slotNumber_10 : decode cX5_slotNumber 10 = .ok (.invokestatic 50, 3) := by decide +kernel
theorem dX5_slotNumber_13 : decode cX5_slotNumber 13 = .ok (.ifCond .eq 16, 3) := by decide +kernel
theorem dX5_slotNumber_16 : decode cX5_slotNumber 16 = .ok (.aload_n 0, 1) := by decide +kernel
theorem dX5_slotNumber_17 : decode cX5_slotNumber 17 = .ok (.getfield 45, 3) := by decide +kernel
theorem dX5_slotNumber_20 : decode cX5_slotNumber 20 = .ok (.iload_n 1, 1) := by decide +kernel
theorem dX5_slotNumber_21 : decode cX5_slotNumber 21 = .ok (.iconst 3, 1) := by decide +kernel
theorem dX5_slotNumber_22 : decode cX5_slotNumber 22 = .ok (.imul, 1) := by decide +kernel
theorem dX5_slotNumber_23 : decode cX5_slotNumber 23 = .ok (.iload_n 2, 1) := by decide +kernel
theorem dX5_slotNumber_24 : decode cX5_slotNumber 24 = .ok (.iadd, 1) := by decide +kernel
theorem dX5_slotNumber_25 : decode cX5_slotNumber 25 = .ok (.iaload, 1) := by decide +kernel
theorem dX5_slotNumber_26 : decode cX5_slotNumber 26 = .ok (.goto 4, 3) := by decide +kernel
theorem dX5_slotNumber_29 : decode cX5_slotNumber 29 = .ok (.iconst 0, 1) := by decide +kernel
theorem dX5_slotNumber_30 : decode cX5_slotNumber 30 = .ok (.ireturn, 1) := by decide +kernel
theorem dX5_setSlotNumber_0 : decode cX5_setSlotNumber 0 = .ok (.iload_n 1, 1) := by decide +kernel
theorem dX5_setSlotNumber_1 : decode cX5_setSlotNumber 1 = .ok (.iconst 4, 1) := by decide +kernel
theorem dX5_setSlotNumber_2 : decode cX5_setSlotNumber 2 = .ok (.invokestatic 50, 3) := by decide +kernel
theorem dX5_setSlotNumber_5 : decode cX5_setSlotNumber 5 = .ok (.ifCond .eq 22, 3) := by decide +kernel
theorem dX5_setSlotNumber_8 : decode cX5_setSlotNumber 8 = .ok (.iload_n 2, 1) := by decide +kernel
theorem dX5_setSlotNumber_9 : decode cX5_setSlotNumber 9 = .ok (.iconst 3, 1) := by decide +kernel
theorem dX5_setSlotNumber_10 : decode cX5_setSlotNumber 10 = .ok (.invokestatic 50, 3) := by decide +kernel
theorem dX5_setSlotNumber_13 : decode cX5_setSlotNumber 13 = .ok (.ifCond .eq 14, 3) := by decide +kernel
theorem dX5_setSlotNumber_16 : decode cX5_setSlotNumber 16 = .ok (.aload_n 0, 1) := by decide +kernel
theorem dX5_setSlotNumber_17 : decode cX5_setSlotNumber 17 = .ok (.getfield 45, 3) := by decide +kernel
theorem dX5_setSlotNumber_20 : decode cX5_setSlotNumber 20 = .ok (.iload_n 1, 1) := by decide +kernel
theorem dX5_setSlotNumber_21 : decode cX5_setSlotNumber 21 = .ok (.iconst 3, 1) := by decide +kernel
theorem dX5_setSlotNumber_22 : decode cX5_setSlotNumber 22 = .ok (.imul, 1) := by decide +kernel
theorem dX5_setSlotNumber_23 : decode cX5_setSlotNumber 23 = .ok (.iload_n 2, 1) := by decide +kernel
theorem dX5_setSlotNumber_24 : decode cX5_setSlotNumber 24 = .ok (.iadd, 1) := by decide +kernel
theorem dX5_setSlotNumber_25 : decode cX5_setSlotNumber 25 = .ok (.iload_n 3, 1) := by decide +kernel
theorem dX5_setSlotNumber_26 : decode cX5_setSlotNumber 26 = .ok (.iastore, 1) := by decide +kernel
theorem dX5_setSlotNumber_27 : decode cX5_setSlotNumber 27 = .ok (.return_, 1) := by decide +kernel
theorem dX5_fillSlot_0 : decode cX5_fillSlot 0 = .ok (.iconst 0, 1) := by decide +kernel
theorem dX5_fillSlot_1 : decode cX5_fillSlot 1 = .ok (.istore_n 3, 1) := by decide +kernel
theorem dX5_fillSlot_2 : decode cX5_fillSlot 2 = .ok (.iload_n 3, 1) := by decide +kernel
theorem dX5_fillSlot_3 : decode cX5_fillSlot 3 = .ok (.iconst 3, 1) := by decide +kernel
theorem dX5_fillSlot_4 : decode cX5_fillSlot 4 = .ok (.if_icmp .ge 24, 3) := by decide +kernel
theorem dX5_fillSlot_7 : decode cX5_fillSlot 7 = .ok (.aload_n 0, 1) := by decide +kernel
theorem dX5_fillSlot_8 : decode cX5_fillSlot 8 = .ok (.iload_n 1, 1) := by decide +kernel
theorem dX5_fillSlot_9 : decode cX5_fillSlot 9 = .ok (.iload_n 3, 1) := by decide +kernel
theorem dX5_fillSlot_10 : decode cX5_fillSlot 10 = .ok (.aload_n 0, 1) := by decide +kernel
theorem dX5_fillSlot_11 : decode cX5_fillSlot 11 = .ok (.getfield 21, 3) := by decide +kernel
theorem dX5_fillSlot_14 : decode cX5_fillSlot 14 = .ok (.iload_n 2, 1) := by decide +kernel
theorem dX5_fillSlot_15 : decode cX5_fillSlot 15 = .ok (.iload_n 3, 1) := by decide +kernel
theorem dX5_fillSlot_16 : decode cX5_fillSlot 16 = .ok (.invokevirtual 162, 3) := by decide +kernel
theorem dX5_fillSlot_19 : decode cX5_fillSlot 19 = .ok (.invokevirtual 125, 3) := by decide +kernel
theorem dX5_fillSlot_22 : decode cX5_fillSlot 22 = .ok (.iinc 3 1, 3) := by decide +kernel
theorem dX5_fillSlot_25 : decode cX5_fillSlot 25 = .ok (.goto (-23), 3) := by decide +kernel
theorem dX5_fillSlot_28 : decode cX5_fillSlot 28 = .ok (.return_, 1) := by decide +kernel
theorem dX5_fillSegment_0 : decode cX5_fillSegment 0 = .ok (.iconst 0, 1) := by decide +kernel
theorem dX5_fillSegment_1 : decode cX5_fillSegment 1 = .ok (.istore_n 3, 1) := by decide +kernel
theorem dX5_fillSegment_2 : decode cX5_fillSegment 2 = .ok (.iload_n 3, 1) := by decide +kernel
theorem dX5_fillSegment_3 : decode cX5_fillSegment 3 = .ok (.iconst 3, 1) := by decide +kernel
theorem dX5_fillSegment_4 : decode cX5_fillSegment 4 = .ok (.if_icmp .ge 24, 3) := by decide +kernel
theorem dX5_fillSegment_7 : decode cX5_fillSegment 7 = .ok (.aload_n 0, 1) := by decide +kernel
theorem dX5_fillSegment_8 : decode cX5_fillSegment 8 = .ok (.getfield 21, 3) := by decide +kernel
theorem dX5_fillSegment_11 : decode cX5_fillSegment 11 = .ok (.iload_n 1, 1) := by decide +kernel
theorem dX5_fillSegment_12 : decode cX5_fillSegment 12 = .ok (.iload_n 3, 1) := by decide +kernel
theorem dX5_fillSegment_13 : decode cX5_fillSegment 13 = .ok (.aload_n 0, 1) := by decide +kernel
theorem dX5_fillSegment_14 : decode cX5_fillSegment 14 = .ok (.iload_n 2, 1) := by decide +kernel
theorem dX5_fillSegment_15 : decode cX5_fillSegment 15 = .ok (.iload_n 3, 1) := by decide +kernel
theorem dX5_fillSegment_16 : decode cX5_fillSegment 16 = .ok (.invokevirtual 122, 3) := by decide +kernel
theorem dX5_fillSegment_19 : decode cX5_fillSegment 19 = .ok (.invokevirtual 214, 3) := by decide +kernel
theorem dX5_fillSegment_22 : decode cX5_fillSegment 22 = .ok (.iinc 3 1, 3) := by decide +kernel
theorem dX5_fillSegment_25 : decode cX5_fillSegment 25 = .ok (.goto (-23), 3) := by decide +kernel
theorem dX5_fillSegment_28 : decode cX5_fillSegment 28 = .ok (.return_, 1) := by decide +kernel
theorem dX5_seek_0 : decode cX5_seek 0 = .ok (.aload_n 0, 1) := by decide +kernel
theorem dX5_seek_1 : decode cX5_seek 1 = .ok (.aload_n 1, 1) := by decide +kernel
theorem dX5_seek_2 : decode cX5_seek 2 = .ok (.invokevirtual 217, 3) := by decide +kernel
theorem dX5_seek_5 : decode cX5_seek 5 = .ok (.ifCond .ne 5, 3) := by decide +kernel
theorem dX5_seek_8 : decode cX5_seek 8 = .ok (.iconst 4, 1) := by decide +kernel
theorem dX5_seek_9 : decode cX5_seek 9 = .ok (.ireturn, 1) := by decide +kernel
theorem dX5_seek_10 : decode cX5_seek 10 = .ok (.iload_n 2, 1) := by decide +kernel
theorem dX5_seek_11 : decode cX5_seek 11 = .ok (.iconst 2, 1) := by decide +kernel
theorem dX5_seek_12 : decode cX5_seek 12 = .ok (.if_icmp .ne 10, 3) := by decide +kernel
theorem dX5_seek_15 : decode cX5_seek 15 = .ok (.aload_n 1, 1) := by decide +kernel
theorem dX5_seek_16 : decode cX5_seek 16 = .ok (.invokevirtual 173, 3) := by decide +kernel
theorem dX5_seek_19 : decode cX5_seek 19 = .ok (.goto 4, 3) := by decide +kernel
theorem dX5_seek_22 : decode cX5_seek 22 = .ok (.iconst (-1), 1) := by decide +kernel
theorem dX5_seek_23 : decode cX5_seek 23 = .ok (.istore 4, 2) := by decide +kernel
theorem dX5_seek_25 : decode cX5_seek 25 = .ok (.iload_n 2, 1) := by decide +kernel
theorem dX5_seek_26 : decode cX5_seek 26 = .ok (.iconst 2, 1) := by decide +kernel
theorem dX5_seek_27 : decode cX5_seek 27 = .ok (.if_icmp .ne 11, 3) := by decide +kernel
theorem dX5_seek_30 : decode cX5_seek 30 = .ok (.iload 4, 2) := by decide +kernel
theorem dX5_seek_32 : decode cX5_seek 32 = .ok (.iconst (-1), 1) := by decide +kernel
theorem dX5_seek_33 : decode cX5_seek 33 = .ok (.if_icmp .ne 5, 3) := by decide +kernel
theorem dX5_seek_36 : decode cX5_seek 36 = .ok (.iconst 5, 1) := by decide +kernel
theorem dX5_seek_37 : decode cX5_seek 37 = .ok (.ireturn, 1) := by decide +kernel
theorem dX5_seek_38 : decode cX5_seek 38 = .ok (.iload_n 2, 1) := by decide +kernel
theorem dX5_seek_39 : decode cX5_seek 39 = .ok (.ifCond .ne 7, 3) := by decide +kernel
theorem dX5_seek_42 : decode cX5_seek 42 = .ok (.iconst 0, 1) := by decide +kernel
theorem dX5_seek_43 : decode cX5_seek 43 = .ok (.goto 8, 3) := by decide +kernel
theorem dX5_seek_46 : decode cX5_seek 46 = .ok (.aload_n 0, 1) := by decide +kernel
theorem dX5_seek_47 : decode cX5_seek 47 = .ok (.aload_n 1, 1) := by decide +kernel
theorem dX5_seek_48 : decode cX5_seek 48 = .ok (.invokevirtual 221, 3) := by decide +kernel
theorem dX5_seek_51 : decode cX5_seek 51 = .ok (.istore 5, 2) := by decide +kernel
theorem dX5_seek_53 : decode cX5_seek 53 = .ok (.aload_n 0, 1) := by decide +kernel
theorem dX5_seek_54 : decode cX5_seek 54 = .ok (.aload_n 1, 1) := by decide +kernel
theorem dX5_seek_55 : decode cX5_seek 55 = .ok (.aload_n 0, 1) := by decide +kernel
theorem dX5_seek_56 : decode cX5_seek 56 = .ok (.getfield 28, 3) := by decide +kernel
theorem dX5_seek_59 : decode cX5_seek 59 = .ok (.invokevirtual 107, 3) := by decide +kernel
theorem dX5_seek_62 : decode cX5_seek 62 = .ok (.iload 5, 2) := by decide +kernel
theorem dX5_seek_64 : decode cX5_seek 64 = .ok (.iload 4, 2) := by decide +kernel
theorem dX5_seek_66 : decode cX5_seek 66 = .ok (.invokevirtual 224, 3) := by decide +kernel
theorem dX5_seek_69 : decode cX5_seek 69 = .ok (.istore 6, 2) := by decide +kernel
theorem dX5_seek_71 : decode cX5_seek 71 = .ok (.iload 6, 2) := by decide +kernel
theorem dX5_seek_73 : decode cX5_seek 73 = .ok (.iconst (-1), 1) := by decide +kernel
theorem dX5_seek_74 : decode cX5_seek 74 = .ok (.if_icmp .ne 10, 3) := by decide +kernel
theorem dX5_seek_77 : decode cX5_seek 77 = .ok (.aload_n 0, 1) := by decide +kernel
theorem dX5_seek_78 : decode cX5_seek 78 = .ok (.aload_n 1, 1) := by decide +kernel
theorem dX5_seek_79 : decode cX5_seek 79 = .ok (.iload_n 2, 1) := by decide +kernel
theorem dX5_seek_80 : decode cX5_seek 80 = .ok (.invokevirtual 228, 3) := by decide +kernel
theorem dX5_seek_83 : decode cX5_seek 83 = .ok (.ireturn, 1) := by decide +kernel
theorem dX5_seek_84 : decode cX5_seek 84 = .ok (.iload_n 2, 1) := by decide +kernel
theorem dX5_seek_85 : decode cX5_seek 85 = .ok (.ifCond .ne 7, 3) := by decide +kernel
theorem dX5_seek_88 : decode cX5_seek 88 = .ok (.iconst 0, 1) := by decide +kernel
theorem dX5_seek_89 : decode cX5_seek 89 = .ok (.goto 13, 3) := by decide +kernel
theorem dX5_seek_92 : decode cX5_seek 92 = .ok (.aload_n 0, 1) := by decide +kernel
theorem dX5_seek_93 : decode cX5_seek 93 = .ok (.aload_n 1, 1) := by decide +kernel
theorem dX5_seek_94 : decode cX5_seek 94 = .ok (.invokevirtual 165, 3) := by decide +kernel
theorem dX5_seek_97 : decode cX5_seek 97 = .ok (.iload 6, 2) := by decide +kernel
theorem dX5_seek_99 : decode cX5_seek 99 = .ok (.invokevirtual 232, 3) := by decide +kernel
theorem dX5_seek_102 : decode cX5_seek 102 = .ok (.istore 7, 2) := by decide +kernel
theorem dX5_seek_104 : decode cX5_seek 104 = .ok (.aload_n 0, 1) := by decide +kernel
theorem dX5_seek_105 : decode cX5_seek 105 = .ok (.aload_n 1, 1) := by decide +kernel
theorem dX5_seek_106 : decode cX5_seek 106 = .ok (.iload 6, 2) := by decide +kernel
theorem dX5_seek_108 : decode cX5_seek 108 = .ok (.iload_n 3, 1) := by decide +kernel
theorem dX5_seek_109 : decode cX5_seek 109 = .ok (.invokevirtual 235, 3) := by decide +kernel
theorem dX5_seek_112 : decode cX5_seek 112 = .ok (.iload_n 2, 1) := by decide +kernel
theorem dX5_seek_113 : decode cX5_seek 113 = .ok (.iconst 2, 1) := by decide +kernel
theorem dX5_seek_114 : decode cX5_seek 114 = .ok (.if_icmp .eq 13, 3) := by decide +kernel
theorem dX5_seek_117 : decode cX5_seek 117 = .ok (.aload_n 1, 1) := by decide +kernel
theorem dX5_seek_118 : decode cX5_seek 118 = .ok (.aload_n 0, 1) := by decide +kernel
theorem dX5_seek_119 : decode cX5_seek 119 = .ok (.iload 6, 2) := by decide +kernel
theorem dX5_seek_121 : decode cX5_seek 121 = .ok (.invokevirtual 239, 3) := by decide +kernel
theorem dX5_seek_124 : decode cX5_seek 124 = .ok (.invokevirtual 242, 3) := by decide +kernel
theorem dX5_seek_127 : decode cX5_seek 127 = .ok (.aload_n 1, 1) := by decide +kernel
theorem dX5_seek_128 : decode cX5_seek 128 = .ok (.iload 6, 2) := by decide +kernel
theorem dX5_seek_130 : decode cX5_seek 130 = .ok (.invokevirtual 246, 3) := by decide +kernel
theorem dX5_seek_133 : decode cX5_seek 133 = .ok (.iload 7, 2) := by decide +kernel
theorem dX5_seek_135 : decode cX5_seek 135 = .ok (.ireturn, 1) := by decide +kernel
theorem dX5_isListOrdered_0 : decode cX5_isListOrdered 0 = .ok (.iconst 0, 1) := by decide +kernel
theorem dX5_isListOrdered_1 : decode cX5_isListOrdered 1 = .ok (.istore_n 2, 1) := by decide +kernel
theorem dX5_isListOrdered_2 : decode cX5_isListOrdered 2 = .ok (.iload_n 2, 1) := by decide +kernel
theorem dX5_isListOrdered_3 : decode cX5_isListOrdered 3 = .ok (.aload_n 0, 1) := by decide +kernel
theorem dX5_isListOrdered_4 : decode cX5_isListOrdered 4 = .ok (.getfield 28, 3) := by decide +kernel
theorem dX5_isListOrdered_7 : decode cX5_isListOrdered 7 = .ok (.invokevirtual 107, 3) := by decide +kernel
theorem dX5_isListOrdered_10 : decode cX5_isListOrdered 10 = .ok (.if_icmp .ge 59, 3) := by decide +kernel
theorem dX5_isListOrdered_13 : decode cX5_isListOrdered 13 = .ok (.aload_n 0, 1) := by decide +kernel
theorem dX5_isListOrdered_14 : decode cX5_isListOrdered 14 = .ok (.getfield 28, 3) := by decide +kernel
theorem dX5_isListOrdered_17 : decode cX5_isListOrdered 17 = .ok (.iload_n 2, 1) := by decide +kernel
theorem dX5_isListOrdered_18 : decode cX5_isListOrdered 18 = .ok (.invokevirtual 249, 3) := by decide +kernel
theorem dX5_isListOrdered_21 : decode cX5_isListOrdered 21 = .ok (.istore_n 3, 1) := by decide +kernel
theorem dX5_isListOrdered_22 : decode cX5_isListOrdered 22 = .ok (.aload_n 1, 1) := by decide +kernel
theorem dX5_isListOrdered_23 : decode cX5_isListOrdered 23 = .ok (.aload_n 0, 1) := by decide +kernel
theorem dX5_isListOrdered_24 : decode cX5_isListOrdered 24 = .ok (.getfield 10, 3) := by decide +kernel
theorem dX5_isListOrdered_27 : decode cX5_isListOrdered 27 = .ok (.iload_n 3, 1) := by decide +kernel
theorem dX5_isListOrdered_28 : decode cX5_isListOrdered 28 = .ok (.invokevirtual 250, 3) := by decide +kernel
theorem dX5_isListOrdered_31 : decode cX5_isListOrdered 31 = .ok (.ifCond .ne 5, 3) := by decide +kernel
theorem dX5_isListOrdered_34 : decode cX5_isListOrdered 34 = .ok (.iconst 0, 1) := by decide +kernel
theorem dX5_isListOrdered_35 : decode cX5_isListOrdered 35 = .ok (.ireturn, 1) := by decide +kernel
theorem dX5_isListOrdered_36 : decode cX5_isListOrdered 36 = .ok (.iload_n 2, 1) := by decide +kernel
theorem dX5_isListOrdered_37 : decode cX5_isListOrdered 37 = .ok (.ifCond .le 26, 3) := by decide +kernel
theorem dX5_isListOrdered_40 : decode cX5_isListOrdered 40 = .ok (.aload_n 0, 1) := by decide +kernel
theorem dX5_isListOrdered_41 : decode cX5_isListOrdered 41 = .ok (.getfield 10, 3) := by decide +kernel
theorem dX5_isListOrdered_44 : decode cX5_isListOrdered 44 = .ok (.iload_n 3, 1) := by decide +kernel
theorem dX5_isListOrdered_45 : decode cX5_isListOrdered 45 = .ok (.aload_n 0, 1) := by decide +kernel
theorem dX5_isListOrdered_46 : decode cX5_isListOrdered 46 = .ok (.getfield 28, 3) := by decide +kernel
theorem dX5_isListOrdered_49 : decode cX5_isListOrdered 49 = .ok (.iload_n 2, 1) := by decide +kernel
theorem dX5_isListOrdered_50 : decode cX5_isListOrdered 50 = .ok (.iconst 1, 1) := by decide +kernel
theorem dX5_isListOrdered_51 : decode cX5_isListOrdered 51 = .ok (.isub, 1) := by decide +kernel
theorem dX5_isListOrdered_52 : decode cX5_isListOrdered 52 = .ok (.invokevirtual 249, 3) := by decide +kernel
theorem dX5_isListOrdered_55 : decode cX5_isListOrdered 55 = .ok (.invokevirtual 254, 3) := by decide +kernel
theorem dX5_isListOrdered_58 : decode cX5_isListOrdered 58 = .ok (.ifCond .ne 5, 3) := by decide +kernel
theorem dX5_isListOrdered_61 : decode cX5_isListOrdered 61 = .ok (.iconst 0, 1) := by decide +kernel
theorem dX5_isListOrdered_62 : decode cX5_isListOrdered 62 = .ok (.ireturn, 1) := by decide +kernel
theorem dX5_isListOrdered_63 : decode cX5_isListOrdered 63 = .ok (.iinc 2 1, 3) := by decide +kernel
theorem dX5_isListOrdered_66 : decode cX5_isListOrdered 66 = .ok (.goto (-64), 3) := by decide +kernel
theorem dX5_isListOrdered_69 : decode cX5_isListOrdered 69 = .ok (.iconst 1, 1) := by decide +kernel
theorem dX5_isListOrdered_70 : decode cX5_isListOrdered 70 = .ok (.ireturn, 1) := by decide +kernel
theorem dX5_miss_0 : decode cX5_miss 0 = .ok (.iload_n 2, 1) := by decide +kernel
theorem dX5_miss_1 : decode cX5_miss 1 = .ok (.iconst 1, 1) := by decide +kernel
theorem dX5_miss_2 : decode cX5_miss 2 = .ok (.if_icmp .ne 13, 3) := by decide +kernel
theorem dX5_miss_5 : decode cX5_miss 5 = .ok (.aload_n 0, 1) := by decide +kernel
theorem dX5_miss_6 : decode cX5_miss 6 = .ok (.getfield 28, 3) := by decide +kernel
theorem dX5_miss_9 : decode cX5_miss 9 = .ok (.invokevirtual 107, 3) := by decide +kernel
theorem dX5_miss_12 : decode cX5_miss 12 = .ok (.ifCond .le 6, 3) := by decide +kernel
theorem dX5_miss_15 : decode cX5_miss 15 = .ok (.bipush 7, 2) := by decide +kernel
theorem dX5_miss_17 : decode cX5_miss 17 = .ok (.ireturn, 1) := by decide +kernel
theorem dX5_miss_18 : decode cX5_miss 18 = .ok (.aload_n 1, 1) := by decide +kernel
theorem dX5_miss_19 : decode cX5_miss 19 = .ok (.invokevirtual 257, 3) := by decide +kernel
theorem dX5_miss_22 : decode cX5_miss 22 = .ok (.iconst 3, 1) := by decide +kernel
theorem dX5_miss_23 : decode cX5_miss 23 = .ok (.ireturn, 1) := by decide +kernel
theorem dX5_statusOfStep_0 : decode cX5_statusOfStep 0 = .ok (.aload_n 0, 1) := by decide +kernel
theorem dX5_statusOfStep_1 : decode cX5_statusOfStep 1 = .ok (.getfield 28, 3) := by decide +kernel
theorem dX5_statusOfStep_4 : decode cX5_statusOfStep 4 = .ok (.invokevirtual 107, 3) := by decide +kernel
theorem dX5_statusOfStep_7 : decode cX5_statusOfStep 7 = .ok (.ifCond .gt 8, 3) := by decide +kernel
theorem dX5_statusOfStep_10 : decode cX5_statusOfStep 10 = .ok (.iload_n 1, 1) := by decide +kernel
theorem dX5_statusOfStep_11 : decode cX5_statusOfStep 11 = .ok (.iconst (-1), 1) := by decide +kernel
theorem dX5_statusOfStep_12 : decode cX5_statusOfStep 12 = .ok (.if_icmp .ne 5, 3) := by decide +kernel
theorem dX5_statusOfStep_15 : decode cX5_statusOfStep 15 = .ok (.iconst 0, 1) := by decide +kernel
theorem dX5_statusOfStep_16 : decode cX5_statusOfStep 16 = .ok (.ireturn, 1) := by decide +kernel
theorem dX5_statusOfStep_17 : decode cX5_statusOfStep 17 = .ok (.aload_n 0, 1) := by decide +kernel
theorem dX5_statusOfStep_18 : decode cX5_statusOfStep 18 = .ok (.getfield 10, 3) := by decide +kernel
theorem dX5_statusOfStep_21 : decode cX5_statusOfStep 21 = .ok (.aload_n 0, 1) := by decide +kernel
theorem dX5_statusOfStep_22 : decode cX5_statusOfStep 22 = .ok (.getfield 21, 3) := by decide +kernel
theorem dX5_statusOfStep_25 : decode cX5_statusOfStep 25 = .ok (.iload_n 1, 1) := by decide +kernel
theorem dX5_statusOfStep_26 : decode cX5_statusOfStep 26 = .ok (.invokevirtual 186, 3) := by decide +kernel
theorem dX5_statusOfStep_29 : decode cX5_statusOfStep 29 = .ok (.invokevirtual 260, 3) := by decide +kernel
theorem dX5_statusOfStep_32 : decode cX5_statusOfStep 32 = .ok (.istore_n 3, 1) := by decide +kernel
theorem dX5_statusOfStep_33 : decode cX5_statusOfStep 33 = .ok (.aload_n 0, 1) := by decide +kernel
theorem dX5_statusOfStep_34 : decode cX5_statusOfStep 34 = .ok (.getfield 10, 3) := by decide +kernel
theorem dX5_statusOfStep_37 : decode cX5_statusOfStep 37 = .ok (.aload_n 0, 1) := by decide +kernel
theorem dX5_statusOfStep_38 : decode cX5_statusOfStep 38 = .ok (.getfield 21, 3) := by decide +kernel
theorem dX5_statusOfStep_41 : decode cX5_statusOfStep 41 = .ok (.iload_n 2, 1) := by decide +kernel
theorem dX5_statusOfStep_42 : decode cX5_statusOfStep 42 = .ok (.invokevirtual 186, 3) := by decide +kernel
theorem dX5_statusOfStep_45 : decode cX5_statusOfStep 45 = .ok (.invokevirtual 260, 3) := by decide +kernel
theorem dX5_statusOfStep_48 : decode cX5_statusOfStep 48 = .ok (.istore 4, 2) := by decide +kernel
theorem dX5_statusOfStep_50 : decode cX5_statusOfStep 50 = .ok (.iload 4, 2) := by decide +kernel
theorem dX5_statusOfStep_52 : decode cX5_statusOfStep 52 = .ok (.iload_n 3, 1) := by decide +kernel
theorem dX5_statusOfStep_53 : decode cX5_statusOfStep 53 = .ok (.if_icmp .ge 5, 3) := by decide +kernel
theorem dX5_statusOfStep_56 : decode cX5_statusOfStep 56 = .ok (.iconst 1, 1) := by decide +kernel
theorem dX5_statusOfStep_57 : decode cX5_statusOfStep 57 = .ok (.ireturn, 1) := by decide +kernel
theorem dX5_statusOfStep_58 : decode cX5_statusOfStep 58 = .ok (.iload 4, 2) := by decide +kernel
theorem dX5_statusOfStep_60 : decode cX5_statusOfStep 60 = .ok (.iload_n 3, 1) := by decide +kernel
theorem dX5_statusOfStep_61 : decode cX5_statusOfStep 61 = .ok (.if_icmp .ne 26, 3) := by decide +kernel
theorem dX5_statusOfStep_64 : decode cX5_statusOfStep 64 = .ok (.aload_n 0, 1) := by decide +kernel
theorem dX5_statusOfStep_65 : decode cX5_statusOfStep 65 = .ok (.getfield 21, 3) := by decide +kernel
theorem dX5_statusOfStep_68 : decode cX5_statusOfStep 68 = .ok (.iload_n 2, 1) := by decide +kernel
theorem dX5_statusOfStep_69 : decode cX5_statusOfStep 69 = .ok (.invokevirtual 186, 3) := by decide +kernel
theorem dX5_statusOfStep_72 : decode cX5_statusOfStep 72 = .ok (.aload_n 0, 1) := by decide +kernel
theorem dX5_statusOfStep_73 : decode cX5_statusOfStep 73 = .ok (.getfield 21, 3) := by decide +kernel
theorem dX5_statusOfStep_76 : decode cX5_statusOfStep 76 = .ok (.iload_n 1, 1) := by decide +kernel
theorem dX5_statusOfStep_77 : decode cX5_statusOfStep 77 = .ok (.invokevirtual 186, 3) := by decide +kernel
theorem dX5_statusOfStep_80 : decode cX5_statusOfStep 80 = .ok (.if_icmp .eq 7, 3) := by decide +kernel
theorem dX5_statusOfStep_83 : decode cX5_statusOfStep 83 = .ok (.iconst 2, 1) := by decide +kernel
theorem dX5_statusOfStep_84 : decode cX5_statusOfStep 84 = .ok (.goto 4, 3) := by decide +kernel
theorem dX5_statusOfStep_87 : decode cX5_statusOfStep 87 = .ok (.iconst 0, 1) := by decide +kernel
theorem dX5_statusOfStep_88 : decode cX5_statusOfStep 88 = .ok (.ireturn, 1) := by decide +kernel
theorem dX5_deliver_0 : decode cX5_deliver 0 = .ok (.iconst 0, 1) := by decide +kernel
theorem dX5_deliver_1 : decode cX5_deliver 1 = .ok (.istore 4, 2) := by decide +kernel
theorem dX5_deliver_3 : decode cX5_deliver 3 = .ok (.aload_n 0, 1) := by decide +kernel
theorem dX5_deliver_4 : decode cX5_deliver 4 = .ok (.getfield 28, 3) := by decide +kernel
theorem dX5_deliver_7 : decode cX5_deliver 7 = .ok (.invokevirtual 107, 3) := by decide +kernel
theorem dX5_deliver_10 : decode cX5_deliver 10 = .ok (.iconst 1, 1) := by decide +kernel
theorem dX5_deliver_11 : decode cX5_deliver 11 = .ok (.isub, 1) := by decide +kernel
theorem dX5_deliver_12 : decode cX5_deliver 12 = .ok (.istore 5, 2) := by decide +kernel
theorem dX5_deliver_14 : decode cX5_deliver 14 = .ok (.iconst 0, 1) := by decide +kernel
theorem dX5_deliver_15 : decode cX5_deliver 15 = .ok (.istore 6, 2) := by decide +kernel
theorem dX5_deliver_17 : decode cX5_deliver 17 = .ok (.iload 6, 2) := by decide +kernel
theorem dX5_deliver_19 : decode cX5_deliver 19 = .ok (.iload 5, 2) := by decide +kernel
theorem dX5_deliver_21 : decode cX5_deliver 21 = .ok (.if_icmp .ge 52, 3) := by decide +kernel
theorem dX5_deliver_24 : decode cX5_deliver 24 = .ok (.aload_n 0, 1) := by decide +kernel
theorem dX5_deliver_25 : decode cX5_deliver 25 = .ok (.getfield 28, 3) := by decide +kernel
theorem dX5_deliver_28 : decode cX5_deliver 28 = .ok (.iload 6, 2) := by decide +kernel
theorem dX5_deliver_30 : decode cX5_deliver 30 = .ok (.iconst 1, 1) := by decide +kernel
theorem dX5_deliver_31 : decode cX5_deliver 31 = .ok (.invokevirtual 263, 3) := by decide +kernel
theorem dX5_deliver_34 : decode cX5_deliver 34 = .ok (.ifCond .eq 33, 3) := by decide +kernel
theorem dX5_deliver_37 : decode cX5_deliver 37 = .ok (.aload_n 0, 1) := by decide +kernel
theorem dX5_deliver_38 : decode cX5_deliver 38 = .ok (.aload_n 1, 1) := by decide +kernel
theorem dX5_deliver_39 : decode cX5_deliver 39 = .ok (.aload_n 0, 1) := by decide +kernel
theorem dX5_deliver_40 : decode cX5_deliver 40 = .ok (.getfield 21, 3) := by decide +kernel
theorem dX5_deliver_43 : decode cX5_deliver 43 = .ok (.iload_n 2, 1) := by decide +kernel
theorem dX5_deliver_44 : decode cX5_deliver 44 = .ok (.aload_n 0, 1) := by decide +kernel
theorem dX5_deliver_45 : decode cX5_deliver 45 = .ok (.getfield 28, 3) := by decide +kernel
theorem dX5_deliver_48 : decode cX5_deliver 48 = .ok (.iload 6, 2) := by decide +kernel
theorem dX5_deliver_50 : decode cX5_deliver 50 = .ok (.invokevirtual 249, 3) := by decide +kernel
theorem dX5_deliver_53 : decode cX5_deliver 53 = .ok (.invokevirtual 266, 3) := by decide +kernel
theorem dX5_deliver_56 : decode cX5_deliver 56 = .ok (.iload 4, 2) := by decide +kernel
theorem dX5_deliver_58 : decode cX5_deliver 58 = .ok (.iload 6, 2) := by decide +kernel
theorem dX5_deliver_60 : decode cX5_deliver 60 = .ok (.iload_n 3, 1) := by decide +kernel
theorem dX5_deliver_61 : decode cX5_deliver 61 = .ok (.invokevirtual 269, 3) := by decide +kernel
theorem dX5_deliver_64 : decode cX5_deliver 64 = .ok (.iinc 4 1, 3) := by decide +kernel
theorem dX5_deliver_67 : decode cX5_deliver 67 = .ok (.iinc 6 1, 3) := by decide +kernel
theorem dX5_deliver_70 : decode cX5_deliver 70 = .ok (.goto (-53), 3) := by decide +kernel
theorem dX5_deliver_73 : decode cX5_deliver 73 = .ok (.aload_n 0, 1) := by decide +kernel
theorem dX5_deliver_74 : decode cX5_deliver 74 = .ok (.aload_n 1, 1) := by decide +kernel
theorem dX5_deliver_75 : decode cX5_deliver 75 = .ok (.iload_n 2, 1) := by decide +kernel
theorem dX5_deliver_76 : decode cX5_deliver 76 = .ok (.iload 4, 2) := by decide +kernel
theorem dX5_deliver_78 : decode cX5_deliver 78 = .ok (.iload 5, 2) := by decide +kernel
theorem dX5_deliver_80 : decode cX5_deliver 80 = .ok (.iload_n 3, 1) := by decide +kernel
theorem dX5_deliver_81 : decode cX5_deliver 81 = .ok (.invokevirtual 269, 3) := by decide +kernel
theorem dX5_deliver_84 : decode cX5_deliver 84 = .ok (.return_, 1) := by decide +kernel
theorem dX5_deliverOne_0 : decode cX5_deliverOne 0 = .ok (.aload_n 0, 1) := by decide +kernel
theorem dX5_deliverOne_1 : decode cX5_deliverOne 1 = .ok (.iload_n 3, 1) := by decide +kernel
theorem dX5_deliverOne_2 : decode cX5_deliverOne 2 = .ok (.iload_n 2, 1) := by decide +kernel
theorem dX5_deliverOne_3 : decode cX5_deliverOne 3 = .ok (.invokevirtual 273, 3) := by decide +kernel
theorem dX5_deliverOne_6 : decode cX5_deliverOne 6 = .ok (.iload 5, 2) := by decide +kernel
theorem dX5_deliverOne_8 : decode cX5_deliverOne 8 = .ok (.ifCond .eq 19, 3) := by decide +kernel
theorem dX5_deliverOne_11 : decode cX5_deliverOne 11 = .ok (.aload_n 1, 1) := by decide +kernel
theorem dX5_deliverOne_12 : decode cX5_deliverOne 12 = .ok (.iload_n 2, 1) := by decide +kernel
theorem dX5_deliverOne_13 : decode cX5_deliverOne 13 = .ok (.aload_n 0, 1) := by decide +kernel
theorem dX5_deliverOne_14 : decode cX5_deliverOne 14 = .ok (.getfield 28, 3) := by decide +kernel
theorem dX5_deliverOne_17 : decode cX5_deliverOne 17 = .ok (.iload 4, 2) := by decide +kernel
theorem dX5_deliverOne_19 : decode cX5_deliverOne 19 = .ok (.bipush 32, 2) := by decide +kernel
theorem dX5_deliverOne_21 : decode cX5_deliverOne 21 = .ok (.invokevirtual 263, 3) := by decide +kernel
theorem dX5_deliverOne_24 : decode cX5_deliverOne 24 = .ok (.invokevirtual 276, 3) := by decide +kernel
theorem dX5_deliverOne_27 : decode cX5_deliverOne 27 = .ok (.return_, 1) := by decide +kernel
theorem dX5_parentageOf_0 : decode cX5_parentageOf 0 = .ok (.aload_n 0, 1) := by decide +kernel
theorem dX5_parentageOf_1 : decode cX5_parentageOf 1 = .ok (.getfield 28, 3) := by decide +kernel
theorem dX5_parentageOf_4 : decode cX5_parentageOf 4 = .ok (.invokevirtual 107, 3) := by decide +kernel
theorem dX5_parentageOf_7 : decode cX5_parentageOf 7 = .ok (.iconst 1, 1) := by decide +kernel
theorem dX5_parentageOf_8 : decode cX5_parentageOf 8 = .ok (.isub, 1) := by decide +kernel
theorem dX5_parentageOf_9 : decode cX5_parentageOf 9 = .ok (.istore_n 2, 1) := by decide +kernel
theorem dX5_parentageOf_10 : decode cX5_parentageOf 10 = .ok (.iload_n 2, 1) := by decide +kernel
theorem dX5_parentageOf_11 : decode cX5_parentageOf 11 = .ok (.ifCond .lt 39, 3) := by decide +kernel
theorem dX5_parentageOf_14 : decode cX5_parentageOf 14 = .ok (.aload_n 0, 1) := by decide +kernel
theorem dX5_parentageOf_15 : decode cX5_parentageOf 15 = .ok (.getfield 28, 3) := by decide +kernel
theorem dX5_parentageOf_18 : decode cX5_parentageOf 18 = .ok (.iload_n 2, 1) := by decide +kernel
theorem dX5_parentageOf_19 : decode cX5_parentageOf 19 = .ok (.bipush 16, 2) := by decide +kernel
theorem dX5_parentageOf_21 : decode cX5_parentageOf 21 = .ok (.invokevirtual 263, 3) := by decide +kernel
theorem dX5_parentageOf_24 : decode cX5_parentageOf 24 = .ok (.ifCond .eq 20, 3) := by decide +kernel
theorem dX5_parentageOf_27 : decode cX5_parentageOf 27 = .ok (.aload_n 0, 1) := by decide +kernel
theorem dX5_parentageOf_28 : decode cX5_parentageOf 28 = .ok (.getfield 21, 3) := by decide +kernel
theorem dX5_parentageOf_31 : decode cX5_parentageOf 31 = .ok (.iload_n 1, 1) := by decide +kernel
theorem dX5_parentageOf_32 : decode cX5_parentageOf 32 = .ok (.aload_n 0, 1) := by decide +kernel
theorem dX5_parentageOf_33 : decode cX5_parentageOf 33 = .ok (.getfield 28, 3) := by decide +kernel
theorem dX5_parentageOf_36 : decode cX5_parentageOf 36 = .ok (.iload_n 2, 1) := by decide +kernel
theorem dX5_parentageOf_37 : decode cX5_parentageOf 37 = .ok (.invokevirtual 249, 3) := by decide +kernel
theorem dX5_parentageOf_40 : decode cX5_parentageOf 40 = .ok (.invokevirtual 266, 3) := by decide +kernel
theorem dX5_parentageOf_43 : decode cX5_parentageOf 43 = .ok (.ireturn, 1) := by decide +kernel
theorem dX5_parentageOf_44 : decode cX5_parentageOf 44 = .ok (.iinc 2 (-1), 3) := by decide +kernel
theorem dX5_parentageOf_47 : decode cX5_parentageOf 47 = .ok (.goto (-37), 3) := by decide +kernel
theorem dX5_parentageOf_50 : decode cX5_parentageOf 50 = .ok (.iload_n 1, 1) := by decide +kernel
theorem dX5_parentageOf_51 : decode cX5_parentageOf 51 = .ok (.ireturn, 1) := by decide +kernel
theorem dX5_countAhead_0 : decode cX5_countAhead 0 = .ok (.aload_n 1, 1) := by decide +kernel
theorem dX5_countAhead_1 : decode cX5_countAhead 1 = .ok (.invokevirtual 280, 3) := by decide +kernel
theorem dX5_countAhead_4 : decode cX5_countAhead 4 = .ok (.ifCond .eq 15, 3) := by decide +kernel
theorem dX5_countAhead_7 : decode cX5_countAhead 7 = .ok (.aload_n 0, 1) := by decide +kernel
theorem dX5_countAhead_8 : decode cX5_countAhead 8 = .ok (.getfield 21, 3) := by decide +kernel
theorem dX5_countAhead_11 : decode cX5_countAhead 11 = .ok (.aload_n 1, 1) := by decide +kernel
theorem dX5_countAhead_12 : decode cX5_countAhead 12 = .ok (.invokevirtual 284, 3) := by decide +kernel
theorem dX5_countAhead_15 : decode cX5_countAhead 15 = .ok (.invokevirtual 69, 3) := by decide +kernel
theorem dX5_countAhead_18 : decode cX5_countAhead 18 = .ok (.ireturn, 1) := by decide +kernel
theorem dX5_countAhead_19 : decode cX5_countAhead 19 = .ok (.aload_n 0, 1) := by decide +kernel
theorem dX5_countAhead_20 : decode cX5_countAhead 20 = .ok (.getfield 21, 3) := by decide +kernel
theorem dX5_countAhead_23 : decode cX5_countAhead 23 = .ok (.aload_n 1, 1) := by decide +kernel
theorem dX5_countAhead_24 : decode cX5_countAhead 24 = .ok (.invokevirtual 287, 3) := by decide +kernel
theorem dX5_countAhead_27 : decode cX5_countAhead 27 = .ok (.invokevirtual 167, 3) := by decide +kernel
theorem dX5_countAhead_30 : decode cX5_countAhead 30 = .ok (.istore_n 2, 1) := by decide +kernel
theorem dX5_countAhead_31 : decode cX5_countAhead 31 = .ok (.iload_n 2, 1) := by decide +kernel
theorem dX5_countAhead_32 : decode cX5_countAhead 32 = .ok (.iconst (-1), 1) := by decide +kernel
theorem dX5_countAhead_33 : decode cX5_countAhead 33 = .ok (.if_icmp .ne 7, 3) := by decide +kernel
theorem dX5_countAhead_36 : decode cX5_countAhead 36 = .ok (.iconst 0, 1) := by decide +kernel
theorem dX5_countAhead_37 : decode cX5_countAhead 37 = .ok (.goto 4, 3) := by decide +kernel
theorem dX5_countAhead_40 : decode cX5_countAhead 40 = .ok (.iload_n 2, 1) := by decide +kernel
theorem dX5_countAhead_41 : decode cX5_countAhead 41 = .ok (.ireturn, 1) := by decide +kernel
theorem dX5_placeBehind_0 : decode cX5_placeBehind 0 = .ok (.aload_n 0, 1) := by decide +kernel
theorem dX5_placeBehind_1 : decode cX5_placeBehind 1 = .ok (.aload_n 1, 1) := by decide +kernel
theorem dX5_placeBehind_2 : decode cX5_placeBehind 2 = .ok (.invokevirtual 170, 3) := by decide +kernel
theorem dX5_placeBehind_5 : decode cX5_placeBehind 5 = .ok (.istore_n 2, 1) := by decide +kernel
theorem dX5_placeBehind_6 : decode cX5_placeBehind 6 = .ok (.aload_n 1, 1) := by decide +kernel
theorem dX5_placeBehind_7 : decode cX5_placeBehind 7 = .ok (.invokevirtual 165, 3) := by decide +kernel
theorem dX5_placeBehind_10 : decode cX5_placeBehind 10 = .ok (.iconst (-1), 1) := by decide +kernel
theorem dX5_placeBehind_11 : decode cX5_placeBehind 11 = .ok (.if_icmp .ne 7, 3) := by decide +kernel
theorem dX5_placeBehind_14 : decode cX5_placeBehind 14 = .ok (.iload_n 2, 1) := by decide +kernel
theorem dX5_placeBehind_15 : decode cX5_placeBehind 15 = .ok (.goto 6, 3) := by decide +kernel
theorem dX5_placeBehind_18 : decode cX5_placeBehind 18 = .ok (.iload_n 2, 1) := by decide +kernel
theorem dX5_placeBehind_19 : decode cX5_placeBehind 19 = .ok (.iconst 1, 1) := by decide +kernel
theorem dX5_placeBehind_20 : decode cX5_placeBehind 20 = .ok (.iadd, 1) := by decide +kernel
theorem dX5_placeBehind_21 : decode cX5_placeBehind 21 = .ok (.ireturn, 1) := by decide +kernel
theorem dX5_firstRight_0 : decode cX5_firstRight 0 = .ok (.aload_n 1, 1) := by decide +kernel
theorem dX5_firstRight_1 : decode cX5_firstRight 1 = .ok (.invokevirtual 284, 3) := by decide +kernel
theorem dX5_firstRight_4 : decode cX5_firstRight 4 = .ok (.istore 5, 2) := by decide +kernel
theorem dX5_firstRight_6 : decode cX5_firstRight 6 = .ok (.iload_n 3, 1) := by decide +kernel
theorem dX5_firstRight_7 : decode cX5_firstRight 7 = .ok (.istore 6, 2) := by decide +kernel
theorem dX5_firstRight_9 : decode cX5_firstRight 9 = .ok (.iload 6, 2) := by decide +kernel
theorem dX5_firstRight_11 : decode cX5_firstRight 11 = .ok (.aload_n 0, 1) := by decide +kernel
theorem dX5_firstRight_12 : decode cX5_firstRight 12 = .ok (.getfield 21, 3) := by decide +kernel
theorem dX5_firstRight_15 : decode cX5_firstRight 15 = .ok (.iload 5, 2) := by decide +kernel
theorem dX5_firstRight_17 : decode cX5_firstRight 17 = .ok (.invokevirtual 69, 3) := by decide +kernel
theorem dX5_firstRight_20 : decode cX5_firstRight 20 = .ok (.if_icmp .ge 56, 3) := by decide +kernel
theorem dX5_firstRight_23 : decode cX5_firstRight 23 = .ok (.aload_n 0, 1) := by decide +kernel
theorem dX5_firstRight_24 : decode cX5_firstRight 24 = .ok (.getfield 21, 3) := by decide +kernel
theorem dX5_firstRight_27 : decode cX5_firstRight 27 = .ok (.iload 5, 2) := by decide +kernel
theorem dX5_firstRight_29 : decode cX5_firstRight 29 = .ok (.iload 6, 2) := by decide +kernel
theorem dX5_firstRight_31 : decode cX5_firstRight 31 = .ok (.invokevirtual 152, 3) := by decide +kernel
theorem dX5_firstRight_34 : decode cX5_firstRight 34 = .ok (.istore 7, 2) := by decide +kernel
theorem dX5_firstRight_36 : decode cX5_firstRight 36 = .ok (.iload 4, 2) := by decide +kernel
theorem dX5_firstRight_38 : decode cX5_firstRight 38 = .ok (.iconst (-1), 1) := by decide +kernel
theorem dX5_firstRight_39 : decode cX5_firstRight 39 = .ok (.if_icmp .eq 17, 3) := by decide +kernel
theorem dX5_firstRight_42 : decode cX5_firstRight 42 = .ok (.aload_n 0, 1) := by decide +kernel
theorem dX5_firstRight_43 : decode cX5_firstRight 43 = .ok (.getfield 21, 3) := by decide +kernel
theorem dX5_firstRight_46 : decode cX5_firstRight 46 = .ok (.iload 7, 2) := by decide +kernel
theorem dX5_firstRight_48 : decode cX5_firstRight 48 = .ok (.iload 4, 2) := by decide +kernel
theorem dX5_firstRight_50 : decode cX5_firstRight 50 = .ok (.invokevirtual 290, 3) := by decide +kernel
theorem dX5_firstRight_53 : decode cX5_firstRight 53 = .ok (.ifCond .eq 17, 3) := by decide +kernel
theorem dX5_firstRight_56 : decode cX5_firstRight 56 = .ok (.aload_n 0, 1) := by decide +kernel
theorem dX5_firstRight_57 : decode cX5_firstRight 57 = .ok (.aload_n 1, 1) := by decide +kernel
theorem dX5_firstRight_58 : decode cX5_firstRight 58 = .ok (.iload 7, 2) := by decide +kernel
theorem dX5_firstRight_60 : decode cX5_firstRight 60 = .ok (.iload_n 2, 1) := by decide +kernel
theorem dX5_firstRight_61 : decode cX5_firstRight 61 = .ok (.invokevirtual 291, 3) := by decide +kernel
theorem dX5_firstRight_64 : decode cX5_firstRight 64 = .ok (.ifCond .eq 6, 3) := by decide +kernel
theorem dX5_firstRight_67 : decode cX5_firstRight 67 = .ok (.iload 7, 2) := by decide +kernel
theorem dX5_firstRight_69 : decode cX5_firstRight 69 = .ok (.ireturn, 1) := by decide +kernel
theorem dX5_firstRight_70 : decode cX5_firstRight 70 = .ok (.iinc 6 1, 3) := by decide +kernel
theorem dX5_firstRight_73 : decode cX5_firstRight 73 = .ok (.goto (-64), 3) := by decide +kernel
theorem dX5_firstRight_76 : decode cX5_firstRight 76 = .ok (.iconst (-1), 1) := by decide +kernel
theorem dX5_firstRight_77 : decode cX5_firstRight 77 = .ok (.ireturn, 1) := by decide +kernel
theorem dX5_isRight_0 : decode cX5_isRight 0 = .ok (.aload_n 0, 1) := by decide +kernel
theorem dX5_isRight_1 : decode cX5_isRight 1 = .ok (.getfield 21, 3) := by decide +kernel
theorem dX5_isRight_4 : decode cX5_isRight 4 = .ok (.iload_n 2, 1) := by decide +kernel
theorem dX5_isRight_5 : decode cX5_isRight 5 = .ok (.invokevirtual 186, 3) := by decide +kernel
theorem dX5_isRight_8 : decode cX5_isRight 8 = .ok (.istore 4, 2) := by decide +kernel
theorem dX5_isRight_10 : decode cX5_isRight 10 = .ok (.aload_n 1, 1) := by decide +kernel
theorem dX5_isRight_11 : decode cX5_isRight 11 = .ok (.aload_n 0, 1) := by decide +kernel
theorem dX5_isRight_12 : decode cX5_isRight 12 = .ok (.getfield 10, 3) := by decide +kernel
theorem dX5_isRight_15 : decode cX5_isRight 15 = .ok (.iload 4, 2) := by decide +kernel
theorem dX5_isRight_17 : decode cX5_isRight 17 = .ok (.invokevirtual 250, 3) := by decide +kernel
theorem dX5_isRight_20 : decode cX5_isRight 20 = .ok (.ifCond .eq 22, 3) := by decide +kernel
theorem dX5_isRight_23 : decode cX5_isRight 23 = .ok (.iload_n 3, 1) := by decide +kernel
theorem dX5_isRight_24 : decode cX5_isRight 24 = .ok (.ifCond .le 20, 3) := by decide +kernel
theorem dX5_isRight_27 : decode cX5_isRight 27 = .ok (.iload 4, 2) := by decide +kernel
theorem dX5_isRight_29 : decode cX5_isRight 29 = .ok (.aload_n 0, 1) := by decide +kernel
theorem dX5_isRight_30 : decode cX5_isRight 30 = .ok (.getfield 28, 3) := by decide +kernel
theorem dX5_isRight_33 : decode cX5_isRight 33 = .ok (.iload_n 3, 1) := by decide +kernel
theorem dX5_isRight_34 : decode cX5_isRight 34 = .ok (.iconst 1, 1) := by decide +kernel
theorem dX5_isRight_35 : decode cX5_isRight 35 = .ok (.isub, 1) := by decide +kernel
theorem dX5_isRight_36 : decode cX5_isRight 36 = .ok (.invokevirtual 249, 3) := by decide +kernel
theorem dX5_isRight_39 : decode cX5_isRight 39 = .ok (.if_icmp .eq 5, 3) := by decide +kernel
theorem dX5_isRight_42 : decode cX5_isRight 42 = .ok (.iconst 0, 1) := by decide +kernel
theorem dX5_isRight_43 : decode cX5_isRight 43 = .ok (.ireturn, 1) := by decide +kernel
theorem dX5_isRight_44 : decode cX5_isRight 44 = .ok (.iconst 0, 1) := by decide +kernel
theorem dX5_isRight_45 : decode cX5_isRight 45 = .ok (.istore 5, 2) := by decide +kernel
theorem dX5_isRight_47 : decode cX5_isRight 47 = .ok (.iload 5, 2) := by decide +kernel
theorem dX5_isRight_49 : decode cX5_isRight 49 = .ok (.iload_n 3, 1) := by decide +kernel
theorem dX5_isRight_50 : decode cX5_isRight 50 = .ok (.if_icmp .ge 60, 3) := by decide +kernel
theorem dX5_isRight_53 : decode cX5_isRight 53 = .ok (.aload_n 0, 1) := by decide +kernel
theorem dX5_isRight_54 : decode cX5_isRight 54 = .ok (.getfield 21, 3) := by decide +kernel
theorem dX5_isRight_57 : decode cX5_isRight 57 = .ok (.iload_n 2, 1) := by decide +kernel
theorem dX5_isRight_58 : decode cX5_isRight 58 = .ok (.aload_n 0, 1) := by decide +kernel
theorem dX5_isRight_59 : decode cX5_isRight 59 = .ok (.getfield 28, 3) := by decide +kernel
theorem dX5_isRight_62 : decode cX5_isRight 62 = .ok (.iload 5, 2) := by decide +kernel
theorem dX5_isRight_64 : decode cX5_isRight 64 = .ok (.invokevirtual 249, 3) := by decide +kernel
theorem dX5_isRight_67 : decode cX5_isRight 67 = .ok (.invokevirtual 266, 3) := by decide +kernel
theorem dX5_isRight_70 : decode cX5_isRight 70 = .ok (.istore 6, 2) := by decide +kernel
theorem dX5_isRight_72 : decode cX5_isRight 72 = .ok (.aload_n 0, 1) := by decide +kernel
theorem dX5_isRight_73 : decode cX5_isRight 73 = .ok (.getfield 28, 3) := by decide +kernel
theorem dX5_isRight_76 : decode cX5_isRight 76 = .ok (.iload 5, 2) := by decide +kernel
theorem dX5_isRight_78 : decode cX5_isRight 78 = .ok (.aload_n 0, 1) := by decide +kernel
theorem dX5_isRight_79 : decode cX5_isRight 79 = .ok (.getfield 21, 3) := by decide +kernel
theorem dX5_isRight_82 : decode cX5_isRight 82 = .ok (.iload 6, 2) := by decide +kernel
theorem dX5_isRight_84 : decode cX5_isRight 84 = .ok (.invokevirtual 295, 3) := by decide +kernel
theorem dX5_isRight_87 : decode cX5_isRight 87 = .ok (.ifCond .eq 15, 3) := by decide +kernel
theorem dX5_isRight_90 : decode cX5_isRight 90 = .ok (.aload_n 0, 1) := by decide +kernel
theorem dX5_isRight_91 : decode cX5_isRight 91 = .ok (.aload_n 1, 1) := by decide +kernel
theorem dX5_isRight_92 : decode cX5_isRight 92 = .ok (.iload 6, 2) := by decide +kernel
theorem dX5_isRight_94 : decode cX5_isRight 94 = .ok (.iload 5, 2) := by decide +kernel
theorem dX5_isRight_96 : decode cX5_isRight 96 = .ok (.invokevirtual 299, 3) := by decide +kernel
theorem dX5_isRight_99 : decode cX5_isRight 99 = .ok (.ifCond .ne 5, 3) := by decide +kernel
theorem dX5_isRight_102 : decode cX5_isRight 102 = .ok (.iconst 0, 1) := by decide +kernel
theorem dX5_isRight_103 : decode cX5_isRight 103 = .ok (.ireturn, 1) := by decide +kernel
theorem dX5_isRight_104 : decode cX5_isRight 104 = .ok (.iinc 5 1, 3) := by decide +kernel
theorem dX5_isRight_107 : decode cX5_isRight 107 = .ok (.goto (-60), 3) := by decide +kernel
theorem dX5_isRight_110 : decode cX5_isRight 110 = .ok (.iconst 1, 1) := by decide +kernel
theorem dX5_isRight_111 : decode cX5_isRight 111 = .ok (.ireturn, 1) := by decide +kernel
theorem dX5_areCodesRight_0 : decode cX5_areCodesRight 0 = .ok (.aload_n 0, 1) := by decide +kernel
theorem dX5_areCodesRight_1 : decode cX5_areCodesRight 1 = .ok (.getfield 28, 3) := by decide +kernel
theorem dX5_areCodesRight_4 : decode cX5_areCodesRight 4 = .ok (.iload_n 3, 1) := by decide +kernel
theorem dX5_areCodesRight_5 : decode cX5_areCodesRight 5 = .ok (.iconst 2, 1) := by decide +kernel
theorem dX5_areCodesRight_6 : decode cX5_areCodesRight 6 = .ok (.invokevirtual 263, 3) := by decide +kernel
theorem dX5_areCodesRight_9 : decode cX5_areCodesRight 9 = .ok (.ifCond .eq 15, 3) := by decide +kernel
theorem dX5_areCodesRight_12 : decode cX5_areCodesRight 12 = .ok (.aload_n 0, 1) := by decide +kernel
theorem dX5_areCodesRight_13 : decode cX5_areCodesRight 13 = .ok (.iload_n 2, 1) := by decide +kernel
theorem dX5_areCodesRight_14 : decode cX5_areCodesRight 14 = .ok (.iload_n 3, 1) := by decide +kernel
theorem dX5_areCodesRight_15 : decode cX5_areCodesRight 15 = .ok (.iconst 1, 1) := by decide +kernel
theorem dX5_areCodesRight_16 : decode cX5_areCodesRight 16 = .ok (.invokevirtual 302, 3) := by decide +kernel
theorem dX5_areCodesRight_19 : decode cX5_areCodesRight 19 = .ok (.ifCond .eq 5, 3) := by decide +kernel
theorem dX5_areCodesRight_22 : decode cX5_areCodesRight 22 = .ok (.iconst 0, 1) := by decide +kernel
theorem dX5_areCodesRight_23 : decode cX5_areCodesRight 23 = .ok (.ireturn, 1) := by decide +kernel
theorem dX5_areCodesRight_24 : decode cX5_areCodesRight 24 = .ok (.aload_n 0, 1) := by decide +kernel
theorem dX5_areCodesRight_25 : decode cX5_areCodesRight 25 = .ok (.getfield 28, 3) := by decide +kernel
theorem dX5_areCodesRight_28 : decode cX5_areCodesRight 28 = .ok (.iload_n 3, 1) := by decide +kernel
theorem dX5_areCodesRight_29 : decode cX5_areCodesRight 29 = .ok (.iconst 4, 1) := by decide +kernel
theorem dX5_areCodesRight_30 : decode cX5_areCodesRight 30 = .ok (.invokevirtual 263, 3) := by decide +kernel
theorem dX5_areCodesRight_33 : decode cX5_areCodesRight 33 = .ok (.ifCond .eq 15, 3) := by decide +kernel
theorem dX5_areCodesRight_36 : decode cX5_areCodesRight 36 = .ok (.aload_n 0, 1) := by decide +kernel
theorem dX5_areCodesRight_37 : decode cX5_areCodesRight 37 = .ok (.iload_n 2, 1) := by decide +kernel
theorem dX5_areCodesRight_38 : decode cX5_areCodesRight 38 = .ok (.iload_n 3, 1) := by decide +kernel
theorem dX5_areCodesRight_39 : decode cX5_areCodesRight 39 = .ok (.iconst 0, 1) := by decide +kernel
theorem dX5_areCodesRight_40 : decode cX5_areCodesRight 40 = .ok (.invokevirtual 302, 3) := by decide +kernel
theorem dX5_areCodesRight_43 : decode cX5_areCodesRight 43 = .ok (.ifCond .eq 5, 3) := by decide +kernel
theorem dX5_areCodesRight_46 : decode cX5_areCodesRight 46 = .ok (.iconst 0, 1) := by decide +kernel
theorem dX5_areCodesRight_47 : decode cX5_areCodesRight 47 = .ok (.ireturn, 1) := by decide +kernel
theorem dX5_areCodesRight_48 : decode cX5_areCodesRight 48 = .ok (.aload_n 1, 1) := by decide +kernel
theorem dX5_areCodesRight_49 : decode cX5_areCodesRight 49 = .ok (.invokevirtual 165, 3) := by decide +kernel
theorem dX5_areCodesRight_52 : decode cX5_areCodesRight 52 = .ok (.istore 4, 2) := by decide +kernel
theorem dX5_areCodesRight_54 : decode cX5_areCodesRight 54 = .ok (.aload_n 0, 1) := by decide +kernel
theorem dX5_areCodesRight_55 : decode cX5_areCodesRight 55 = .ok (.getfield 28, 3) := by decide +kernel
theorem dX5_areCodesRight_58 : decode cX5_areCodesRight 58 = .ok (.iload_n 3, 1) := by decide +kernel
theorem dX5_areCodesRight_59 : decode cX5_areCodesRight 59 = .ok (.bipush 8, 2) := by decide +kernel
theorem dX5_areCodesRight_61 : decode cX5_areCodesRight 61 = .ok (.invokevirtual 263, 3) := by decide +kernel
theorem dX5_areCodesRight_64 : decode cX5_areCodesRight 64 = .ok (.ifCond .eq 22, 3) := by decide +kernel
theorem dX5_areCodesRight_67 : decode cX5_areCodesRight 67 = .ok (.iload 4, 2) := by decide +kernel
theorem dX5_areCodesRight_69 : decode cX5_areCodesRight 69 = .ok (.iload_n 2, 1) := by decide +kernel
theorem dX5_areCodesRight_70 : decode cX5_areCodesRight 70 = .ok (.if_icmp .eq 16, 3) := by decide +kernel
theorem dX5_areCodesRight_73 : decode cX5_areCodesRight 73 = .ok (.aload_n 0, 1) := by decide +kernel
theorem dX5_areCodesRight_74 : decode cX5_areCodesRight 74 = .ok (.getfield 21, 3) := by decide +kernel
theorem dX5_areCodesRight_77 : decode cX5_areCodesRight 77 = .ok (.iload 4, 2) := by decide +kernel
theorem dX5_areCodesRight_79 : decode cX5_areCodesRight 79 = .ok (.iload_n 2, 1) := by decide +kernel
theorem dX5_areCodesRight_80 : decode cX5_areCodesRight 80 = .ok (.invokevirtual 290, 3) := by decide +kernel
theorem dX5_areCodesRight_83 : decode cX5_areCodesRight 83 = .ok (.ifCond .eq 7, 3) := by decide +kernel
theorem dX5_areCodesRight_86 : decode cX5_areCodesRight 86 = .ok (.iconst 1, 1) := by decide +kernel
theorem dX5_areCodesRight_87 : decode cX5_areCodesRight 87 = .ok (.goto 4, 3) := by decide +kernel
theorem dX5_areCodesRight_90 : decode cX5_areCodesRight 90 = .ok (.iconst 0, 1) := by decide +kernel
theorem dX5_areCodesRight_91 : decode cX5_areCodesRight 91 = .ok (.ireturn, 1) := by decide +kernel
theorem dX5_isTwinFulfilling_0 : decode cX5_isTwinFulfilling 0 = .ok (.aload_n 0, 1) := by decide +kernel
theorem dX5_isTwinFulfilling_1 : decode cX5_isTwinFulfilling 1 = .ok (.getfield 21, 3) := by decide +kernel
theorem dX5_isTwinFulfilling_4 : decode cX5_isTwinFulfilling 4 = .ok (.iload_n 1, 1) := by decide +kernel
theorem dX5_isTwinFulfilling_5 : decode cX5_isTwinFulfilling 5 = .ok (.invokevirtual 186, 3) := by decide +kernel
theorem dX5_isTwinFulfilling_8 : decode cX5_isTwinFulfilling 8 = .ok (.istore 4, 2) := by decide +kernel
theorem dX5_isTwinFulfilling_10 : decode cX5_isTwinFulfilling 10 = .ok (.aload_n 0, 1) := by decide +kernel
theorem dX5_isTwinFulfilling_11 : decode cX5_isTwinFulfilling 11 = .ok (.getfield 21, 3) := by decide +kernel
theorem dX5_isTwinFulfilling_14 : decode cX5_isTwinFulfilling 14 = .ok (.iload_n 1, 1) := by decide +kernel
theorem dX5_isTwinFulfilling_15 : decode cX5_isTwinFulfilling 15 = .ok (.invokevirtual 183, 3) := by decide +kernel
theorem dX5_isTwinFulfilling_18 : decode cX5_isTwinFulfilling 18 = .ok (.istore 5, 2) := by decide +kernel
theorem dX5_isTwinFulfilling_20 : decode cX5_isTwinFulfilling 20 = .ok (.iconst 0, 1) := by decide +kernel
theorem dX5_isTwinFulfilling_21 : decode cX5_isTwinFulfilling 21 = .ok (.istore 6, 2) := by decide +kernel
theorem dX5_isTwinFulfilling_23 : decode cX5_isTwinFulfilling 23 = .ok (.iload 6, 2) := by decide +kernel
theorem dX5_isTwinFulfilling_25 : decode cX5_isTwinFulfilling 25 = .ok (.bipush 60, 2) := by decide +kernel
theorem dX5_isTwinFulfilling_27 : decode cX5_isTwinFulfilling 27 = .ok (.if_icmp .ge 91, 3) := by decide +kernel
theorem dX5_isTwinFulfilling_30 : decode cX5_isTwinFulfilling 30 = .ok (.iload 6, 2) := by decide +kernel
theorem dX5_isTwinFulfilling_32 : decode cX5_isTwinFulfilling 32 = .ok (.iload_n 1, 1) := by decide +kernel
theorem dX5_isTwinFulfilling_33 : decode cX5_isTwinFulfilling 33 = .ok (.if_icmp .eq 23, 3) := by decide +kernel
theorem dX5_isTwinFulfilling_36 : decode cX5_isTwinFulfilling 36 = .ok (.aload_n 0, 1) := by decide +kernel
theorem dX5_isTwinFulfilling_37 : decode cX5_isTwinFulfilling 37 = .ok (.getfield 21, 3) := by decide +kernel
theorem dX5_isTwinFulfilling_40 : decode cX5_isTwinFulfilling 40 = .ok (.iload 6, 2) := by decide +kernel
theorem dX5_isTwinFulfilling_42 : decode cX5_isTwinFulfilling 42 = .ok (.iload 4, 2) := by decide +kernel
theorem dX5_isTwinFulfilling_44 : decode cX5_isTwinFulfilling 44 = .ok (.iload 5, 2) := by decide +kernel
theorem dX5_isTwinFulfilling_46 : decode cX5_isTwinFulfilling 46 = .ok (.invokevirtual 306, 3) := by decide +kernel
theorem dX5_isTwinFulfilling_49 : decode cX5_isTwinFulfilling 49 = .ok (.ifCond .eq 7, 3) := by decide +kernel
theorem dX5_isTwinFulfilling_52 : decode cX5_isTwinFulfilling 52 = .ok (.iconst 1, 1) := by decide +kernel
theorem dX5_isTwinFulfilling_53 : decode cX5_isTwinFulfilling 53 = .ok (.goto 4, 3) := by decide +kernel
theorem dX5_isTwinFulfilling_56 : decode cX5_isTwinFulfilling 56 = .ok (.iconst 0, 1) := by decide +kernel
theorem dX5_isTwinFulfilling_57 : decode cX5_isTwinFulfilling 57 = .ok (.istore 7, 2) := by decide +kernel
theorem dX5_isTwinFulfilling_59 : decode cX5_isTwinFulfilling 59 = .ok (.iload 7, 2) := by decide +kernel
theorem dX5_isTwinFulfilling_61 : decode cX5_isTwinFulfilling 61 = .ok (.ifCond .eq 51, 3) := by decide +kernel
theorem dX5_isTwinFulfilling_64 : decode cX5_isTwinFulfilling 64 = .ok (.aload_n 0, 1) := by decide +kernel
theorem dX5_isTwinFulfilling_65 : decode cX5_isTwinFulfilling 65 = .ok (.getfield 21, 3) := by decide +kernel
theorem dX5_isTwinFulfilling_68 : decode cX5_isTwinFulfilling 68 = .ok (.iload 6, 2) := by decide +kernel
theorem dX5_isTwinFulfilling_70 : decode cX5_isTwinFulfilling 70 = .ok (.invokevirtual 167, 3) := by decide +kernel
theorem dX5_isTwinFulfilling_73 : decode cX5_isTwinFulfilling 73 = .ok (.aload_n 0, 1) := by decide +kernel
theorem dX5_isTwinFulfilling_74 : decode cX5_isTwinFulfilling 74 = .ok (.getfield 21, 3) := by decide +kernel
theorem dX5_isTwinFulfilling_77 : decode cX5_isTwinFulfilling 77 = .ok (.iload_n 1, 1) := by decide +kernel
theorem dX5_isTwinFulfilling_78 : decode cX5_isTwinFulfilling 78 = .ok (.invokevirtual 167, 3) := by decide +kernel
theorem dX5_isTwinFulfilling_81 : decode cX5_isTwinFulfilling 81 = .ok (.if_icmp .ge 7, 3) := by decide +kernel
theorem dX5_isTwinFulfilling_84 : decode cX5_isTwinFulfilling 84 = .ok (.iconst 1, 1) := by decide +kernel
theorem dX5_isTwinFulfilling_85 : decode cX5_isTwinFulfilling 85 = .ok (.goto 4, 3) := by decide +kernel
theorem dX5_isTwinFulfilling_88 : decode cX5_isTwinFulfilling 88 = .ok (.iconst 0, 1) := by decide +kernel
theorem dX5_isTwinFulfilling_89 : decode cX5_isTwinFulfilling 89 = .ok (.iload_n 3, 1) := by decide +kernel
theorem dX5_isTwinFulfilling_90 : decode cX5_isTwinFulfilling 90 = .ok (.if_icmp .ne 22, 3) := by decide +kernel
theorem dX5_isTwinFulfilling_93 : decode cX5_isTwinFulfilling 93 = .ok (.aload_n 0, 1) := by decide +kernel
theorem dX5_isTwinFulfilling_94 : decode cX5_isTwinFulfilling 94 = .ok (.getfield 28, 3) := by decide +kernel
theorem dX5_isTwinFulfilling_97 : decode cX5_isTwinFulfilling 97 = .ok (.iload_n 2, 1) := by decide +kernel
theorem dX5_isTwinFulfilling_98 : decode cX5_isTwinFulfilling 98 = .ok (.aload_n 0, 1) := by decide +kernel
theorem dX5_isTwinFulfilling_99 : decode cX5_isTwinFulfilling 99 = .ok (.getfield 21, 3) := by decide +kernel
theorem dX5_isTwinFulfilling_102 : decode cX5_isTwinFulfilling 102 = .ok (.iload 6, 2) := by decide +kernel
theorem dX5_isTwinFulfilling_104 : decode cX5_isTwinFulfilling 104 = .ok (.invokevirtual 295, 3) := by decide +kernel
theorem dX5_isTwinFulfilling_107 : decode cX5_isTwinFulfilling 107 = .ok (.ifCond .eq 5, 3) := by decide +kernel
theorem dX5_isTwinFulfilling_110 : decode cX5_isTwinFulfilling 110 = .ok (.iconst 1, 1) := by decide +kernel
theorem dX5_isTwinFulfilling_111 : decode cX5_isTwinFulfilling 111 = .ok (.ireturn, 1) := by decide +kernel
theorem dX5_isTwinFulfilling_112 : decode cX5_isTwinFulfilling 112 = .ok (.iinc 6 1, 3) := by decide +kernel
theorem dX5_isTwinFulfilling_115 : decode cX5_isTwinFulfilling 115 = .ok (.goto (-92), 3) := by decide +kernel
theorem dX5_isTwinFulfilling_118 : decode cX5_isTwinFulfilling 118 = .ok (.iconst 0, 1) := by decide +kernel
theorem dX5_isTwinFulfilling_119 : decode cX5_isTwinFulfilling 119 = .ok (.ireturn, 1) := by decide +kernel
theorem dX5_insertListed_0 : decode cX5_insertListed 0 = .ok (.aload_n 0, 1) := by decide +kernel
theorem dX5_insertListed_1 : decode cX5_insertListed 1 = .ok (.getfield 28, 3) := by decide +kernel
theorem dX5_insertListed_4 : decode cX5_insertListed 4 = .ok (.invokevirtual 310, 3) := by decide +kernel
theorem dX5_insertListed_7 : decode cX5_insertListed 7 = .ok (.istore_n 2, 1) := by decide +kernel
theorem dX5_insertListed_8 : decode cX5_insertListed 8 = .ok (.iload_n 2, 1) := by decide +kernel
theorem dX5_insertListed_9 : decode cX5_insertListed 9 = .ok (.iconst (-1), 1) := by decide +kernel
theorem dX5_insertListed_10 : decode cX5_insertListed 10 = .ok (.if_icmp .eq 19, 3) := by decide +kernel
theorem dX5_insertListed_13 : decode cX5_insertListed 13 = .ok (.aload_n 0, 1) := by decide +kernel
theorem dX5_insertListed_14 : decode cX5_insertListed 14 = .ok (.aload_n 1, 1) := by decide +kernel
theorem dX5_insertListed_15 : decode cX5_insertListed 15 = .ok (.invokevirtual 217, 3) := by decide +kernel
theorem dX5_insertListed_18 : decode cX5_insertListed 18 = .ok (.ifCond .eq 11, 3) := by decide +kernel
theorem dX5_insertListed_21 : decode cX5_insertListed 21 = .ok (.aload_n 0, 1) := by decide +kernel
theorem dX5_insertListed_22 : decode cX5_insertListed 22 = .ok (.iload_n 2, 1) := by decide +kernel
theorem dX5_insertListed_23 : decode cX5_insertListed 23 = .ok (.invokevirtual 313, 3) := by decide +kernel
theorem dX5_insertListed_26 : decode cX5_insertListed 26 = .ok (.ifCond .ne 5, 3) := by decide +kernel
theorem dX5_insertListed_29 : decode cX5_insertListed 29 = .ok (.iconst 4, 1) := by decide +kernel
theorem dX5_insertListed_30 : decode cX5_insertListed 30 = .ok (.ireturn, 1) := by decide +kernel
theorem dX5_insertListed_31 : decode cX5_insertListed 31 = .ok (.aload_n 0, 1) := by decide +kernel
theorem dX5_insertListed_32 : decode cX5_insertListed 32 = .ok (.getfield 28, 3) := by decide +kernel
theorem dX5_insertListed_35 : decode cX5_insertListed 35 = .ok (.iload_n 2, 1) := by decide +kernel
theorem dX5_insertListed_36 : decode cX5_insertListed 36 = .ok (.invokevirtual 249, 3) := by decide +kernel
theorem dX5_insertListed_39 : decode cX5_insertListed 39 = .ok (.istore_n 3, 1) := by decide +kernel
theorem dX5_insertListed_40 : decode cX5_insertListed 40 = .ok (.iload_n 2, 1) := by decide +kernel
theorem dX5_insertListed_41 : decode cX5_insertListed 41 = .ok (.ifCond .le 14, 3) := by decide +kernel
theorem dX5_insertListed_44 : decode cX5_insertListed 44 = .ok (.aload_n 0, 1) := by decide +kernel
theorem dX5_insertListed_45 : decode cX5_insertListed 45 = .ok (.aload_n 1, 1) := by decide +kernel
theorem dX5_insertListed_46 : decode cX5_insertListed 46 = .ok (.iload_n 2, 1) := by decide +kernel
theorem dX5_insertListed_47 : decode cX5_insertListed 47 = .ok (.iconst 0, 1) := by decide +kernel
theorem dX5_insertListed_48 : decode cX5_insertListed 48 = .ok (.iconst (-1), 1) := by decide +kernel
theorem dX5_insertListed_49 : decode cX5_insertListed 49 = .ok (.invokevirtual 224, 3) := by decide +kernel
theorem dX5_insertListed_52 : decode cX5_insertListed 52 = .ok (.goto 22, 3) := by decide +kernel
theorem dX5_insertListed_55 : decode cX5_insertListed 55 = .ok (.aload_n 0, 1) := by decide +kernel
theorem dX5_insertListed_56 : decode cX5_insertListed 56 = .ok (.getfield 21, 3) := by decide +kernel
theorem dX5_insertListed_59 : decode cX5_insertListed 59 = .ok (.aload_n 1, 1) := by decide +kernel
theorem dX5_insertListed_60 : decode cX5_insertListed 60 = .ok (.invokevirtual 165, 3) := by decide +kernel
theorem dX5_insertListed_63 : decode cX5_insertListed 63 = .ok (.aload_n 0, 1) := by decide +kernel
theorem dX5_insertListed_64 : decode cX5_insertListed 64 = .ok (.getfield 10, 3) := by decide +kernel
theorem dX5_insertListed_67 : decode cX5_insertListed 67 = .ok (.iload_n 3, 1) := by decide +kernel
theorem dX5_insertListed_68 : decode cX5_insertListed 68 = .ok (.invokevirtual 316, 3) := by decide +kernel
theorem dX5_insertListed_71 : decode cX5_insertListed 71 = .ok (.invokevirtual 266, 3) := by decide +kernel
theorem dX5_insertListed_74 : decode cX5_insertListed 74 = .ok (.istore 4, 2) := by decide +kernel
theorem dX5_insertListed_76 : decode cX5_insertListed 76 = .ok (.iload 4, 2) := by decide +kernel
theorem dX5_insertListed_78 : decode cX5_insertListed 78 = .ok (.iconst (-1), 1) := by decide +kernel
theorem dX5_insertListed_79 : decode cX5_insertListed 79 = .ok (.if_icmp .ne 17, 3) := by decide +kernel
theorem dX5_insertListed_82 : decode cX5_insertListed 82 = .ok (.aload_n 0, 1) := by decide +kernel
theorem dX5_insertListed_83 : decode cX5_insertListed 83 = .ok (.getfield 10, 3) := by decide +kernel
theorem dX5_insertListed_86 : decode cX5_insertListed 86 = .ok (.iload_n 3, 1) := by decide +kernel
theorem dX5_insertListed_87 : decode cX5_insertListed 87 = .ok (.invokevirtual 89, 3) := by decide +kernel
theorem dX5_insertListed_90 : decode cX5_insertListed 90 = .ok (.ifCond .ne 6, 3) := by decide +kernel
theorem dX5_insertListed_93 : decode cX5_insertListed 93 = .ok (.bipush 7, 2) := by decide +kernel
theorem dX5_insertListed_95 : decode cX5_insertListed 95 = .ok (.ireturn, 1) := by decide +kernel
theorem dX5_insertListed_96 : decode cX5_insertListed 96 = .ok (.aload_n 0, 1) := by decide +kernel
theorem dX5_insertListed_97 : decode cX5_insertListed 97 = .ok (.getfield 10, 3) := by decide +kernel
theorem dX5_insertListed_100 : decode cX5_insertListed 100 = .ok (.iload_n 3, 1) := by decide +kernel
theorem dX5_insertListed_101 : decode cX5_insertListed 101 = .ok (.invokevirtual 317, 3) := by decide +kernel
theorem dX5_insertListed_104 : decode cX5_insertListed 104 = .ok (.ifCond .ne 25, 3) := by decide +kernel
theorem dX5_insertListed_107 : decode cX5_insertListed 107 = .ok (.aload_n 0, 1) := by decide +kernel
theorem dX5_insertListed_108 : decode cX5_insertListed 108 = .ok (.getfield 21, 3) := by decide +kernel
theorem dX5_insertListed_111 : decode cX5_insertListed 111 = .ok (.iload_n 3, 1) := by decide +kernel
theorem dX5_insertListed_112 : decode cX5_insertListed 112 = .ok (.iload 4, 2) := by decide +kernel
theorem dX5_insertListed_114 : decode cX5_insertListed 114 = .ok (.aload_n 0, 1) := by decide +kernel
theorem dX5_insertListed_115 : decode cX5_insertListed 115 = .ok (.iconst 0, 1) := by decide +kernel
theorem dX5_insertListed_116 : decode cX5_insertListed 116 = .ok (.iconst 0, 1) := by decide +kernel
theorem dX5_insertListed_117 : decode cX5_insertListed 117 = .ok (.invokevirtual 122, 3) := by decide +kernel
theorem dX5_insertListed_120 : decode cX5_insertListed 120 = .ok (.invokevirtual 320, 3) := by decide +kernel
theorem dX5_insertListed_123 : decode cX5_insertListed 123 = .ok (.ifCond .eq 6, 3) := by decide +kernel
theorem dX5_insertListed_126 : decode cX5_insertListed 126 = .ok (.bipush 9, 2) := by decide +kernel
theorem dX5_insertListed_128 : decode cX5_insertListed 128 = .ok (.ireturn, 1) := by decide +kernel
theorem dX5_insertListed_129 : decode cX5_insertListed 129 = .ok (.aload_n 0, 1) := by decide +kernel
theorem dX5_insertListed_130 : decode cX5_insertListed 130 = .ok (.iload_n 2, 1) := by decide +kernel
theorem dX5_insertListed_131 : decode cX5_insertListed 131 = .ok (.invokevirtual 323, 3) := by decide +kernel
theorem dX5_insertListed_134 : decode cX5_insertListed 134 = .ok (.aload_n 0, 1) := by decide +kernel
theorem dX5_insertListed_135 : decode cX5_insertListed 135 = .ok (.aload_n 0, 1) := by decide +kernel
theorem dX5_insertListed_136 : decode cX5_insertListed 136 = .ok (.getfield 28, 3) := by decide +kernel
theorem dX5_insertListed_139 : decode cX5_insertListed 139 = .ok (.invokevirtual 107, 3) := by decide +kernel
theorem dX5_insertListed_142 : decode cX5_insertListed 142 = .ok (.iload_n 2, 1) := by decide +kernel
theorem dX5_insertListed_143 : decode cX5_insertListed 143 = .ok (.isub, 1) := by decide +kernel
theorem dX5_insertListed_144 : decode cX5_insertListed 144 = .ok (.invokevirtual 326, 3) := by decide +kernel
theorem dX5_insertListed_147 : decode cX5_insertListed 147 = .ok (.istore 5, 2) := by decide +kernel
theorem dX5_insertListed_149 : decode cX5_insertListed 149 = .ok (.iload 5, 2) := by decide +kernel
theorem dX5_insertListed_151 : decode cX5_insertListed 151 = .ok (.ifCond .ne 15, 3) := by decide +kernel
theorem dX5_insertListed_154 : decode cX5_insertListed 154 = .ok (.aload_n 0, 1) := by decide +kernel
theorem dX5_insertListed_155 : decode cX5_insertListed 155 = .ok (.invokevirtual 329, 3) := by decide +kernel
theorem dX5_insertListed_158 : decode cX5_insertListed 158 = .ok (.aload_n 0, 1) := by decide +kernel
theorem dX5_insertListed_159 : decode cX5_insertListed 159 = .ok (.aload_n 1, 1) := by decide +kernel
theorem dX5_insertListed_160 : decode cX5_insertListed 160 = .ok (.iload_n 2, 1) := by decide +kernel
theorem dX5_insertListed_161 : decode cX5_insertListed 161 = .ok (.iload 4, 2) := by decide +kernel
theorem dX5_insertListed_163 : decode cX5_insertListed 163 = .ok (.invokevirtual 332, 3) := by decide +kernel
theorem dX5_insertListed_166 : decode cX5_insertListed 166 = .ok (.iload 5, 2) := by decide +kernel
theorem dX5_insertListed_168 : decode cX5_insertListed 168 = .ok (.ireturn, 1) := by decide +kernel
theorem dX5_areNewOnesOrdered_0 : decode cX5_areNewOnesOrdered 0 = .ok (.iload_n 1, 1) := by decide +kernel
theorem dX5_areNewOnesOrdered_1 : decode cX5_areNewOnesOrdered 1 = .ok (.istore_n 2, 1) := by decide +kernel
theorem dX5_areNewOnesOrdered_2 : decode cX5_areNewOnesOrdered 2 = .ok (.iload_n 2, 1) := by decide +kernel
theorem dX5_areNewOnesOrdered_3 : decode cX5_areNewOnesOrdered 3 = .ok (.aload_n 0, 1) := by decide +kernel
theorem dX5_areNewOnesOrdered_4 : decode cX5_areNewOnesOrdered 4 = .ok (.getfield 28, 3) := by decide +kernel
theorem dX5_areNewOnesOrdered_7 : decode cX5_areNewOnesOrdered 7 = .ok (.invokevirtual 107, 3) := by decide +kernel
theorem dX5_areNewOnesOrdered_10 : decode cX5_areNewOnesOrdered 10 = .ok (.if_icmp .ge 56, 3) := by decide +kernel
theorem dX5_areNewOnesOrdered_13 : decode cX5_areNewOnesOrdered 13 = .ok (.aload_n 0, 1) := by decide +kernel
theorem dX5_areNewOnesOrdered_14 : decode cX5_areNewOnesOrdered 14 = .ok (.getfield 28, 3) := by decide +kernel
theorem dX5_areNewOnesOrdered_17 : decode cX5_areNewOnesOrdered 17 = .ok (.iload_n 2, 1) := by decide +kernel
theorem dX5_areNewOnesOrdered_18 : decode cX5_areNewOnesOrdered 18 = .ok (.invokevirtual 112, 3) := by decide +kernel
theorem dX5_areNewOnesOrdered_21 : decode cX5_areNewOnesOrdered 21 = .ok (.ifCond .le 5, 3) := by decide +kernel
theorem dX5_areNewOnesOrdered_24 : decode cX5_areNewOnesOrdered 24 = .ok (.iconst 0, 1) := by decide +kernel
theorem dX5_areNewOnesOrdered_25 : decode cX5_areNewOnesOrdered 25 = .ok (.ireturn, 1) := by decide +kernel
theorem dX5_areNewOnesOrdered_26 : decode cX5_areNewOnesOrdered 26 = .ok (.iload_n 2, 1) := by decide +kernel
theorem dX5_areNewOnesOrdered_27 : decode cX5_areNewOnesOrdered 27 = .ok (.ifCond .le 33, 3) := by decide +kernel
theorem dX5_areNewOnesOrdered_30 : decode cX5_areNewOnesOrdered 30 = .ok (.aload_n 0, 1) := by decide +kernel
theorem dX5_areNewOnesOrdered_31 : decode cX5_areNewOnesOrdered 31 = .ok (.getfield 10, 3) := by decide +kernel
theorem dX5_areNewOnesOrdered_34 : decode cX5_areNewOnesOrdered 34 = .ok (.aload_n 0, 1) := by decide +kernel
theorem dX5_areNewOnesOrdered_35 : decode cX5_areNewOnesOrdered 35 = .ok (.getfield 28, 3) := by decide +kernel
theorem dX5_areNewOnesOrdered_38 : decode cX5_areNewOnesOrdered 38 = .ok (.iload_n 2, 1) := by decide +kernel
theorem dX5_areNewOnesOrdered_39 : decode cX5_areNewOnesOrdered 39 = .ok (.invokevirtual 249, 3) := by decide +kernel
theorem dX5_areNewOnesOrdered_42 : decode cX5_areNewOnesOrdered 42 = .ok (.invokevirtual 316, 3) := by decide +kernel
theorem dX5_areNewOnesOrdered_45 : decode cX5_areNewOnesOrdered 45 = .ok (.aload_n 0, 1) := by decide +kernel
theorem dX5_areNewOnesOrdered_46 : decode cX5_areNewOnesOrdered 46 = .ok (.getfield 28, 3) := by decide +kernel
theorem dX5_areNewOnesOrdered_49 : decode cX5_areNewOnesOrdered 49 = .ok (.iload_n 2, 1) := by decide +kernel
theorem dX5_areNewOnesOrdered_50 : decode cX5_areNewOnesOrdered 50 = .ok (.iconst 1, 1) := by decide +kernel
theorem dX5_areNewOnesOrdered_51 : decode cX5_areNewOnesOrdered 51 = .ok (.isub, 1) := by decide +kernel
theorem dX5_areNewOnesOrdered_52 : decode cX5_areNewOnesOrdered 52 = .ok (.invokevirtual 249, 3) := by decide +kernel
theorem dX5_areNewOnesOrdered_55 : decode cX5_areNewOnesOrdered 55 = .ok (.if_icmp .eq 5, 3) := by decide +kernel
theorem dX5_areNewOnesOrdered_58 : decode cX5_areNewOnesOrdered 58 = .ok (.iconst 0, 1) := by decide +kernel
theorem dX5_areNewOnesOrdered_59 : decode cX5_areNewOnesOrdered 59 = .ok (.ireturn, 1) := by decide +kernel
theorem dX5_areNewOnesOrdered_60 : decode cX5_areNewOnesOrdered 60 = .ok (.iinc 2 1, 3) := by decide +kernel
theorem dX5_areNewOnesOrdered_63 : decode cX5_areNewOnesOrdered 63 = .ok (.goto (-61), 3) := by decide +kernel
theorem dX5_areNewOnesOrdered_66 : decode cX5_areNewOnesOrdered 66 = .ok (.iconst 1, 1) := by decide +kernel
theorem dX5_areNewOnesOrdered_67 : decode cX5_areNewOnesOrdered 67 = .ok (.ireturn, 1) := by decide +kernel
theorem dX5_gatherNeedsOfNew_0 : decode cX5_gatherNeedsOfNew 0 = .ok (.aload_n 0, 1) := by decide +kernel
theorem dX5_gatherNeedsOfNew_1 : decode cX5_gatherNeedsOfNew 1 = .ok (.getfield 35, 3) := by decide +kernel
theorem dX5_gatherNeedsOfNew_4 : decode cX5_gatherNeedsOfNew 4 = .ok (.invokevirtual 336, 3) := by decide +kernel
theorem dX5_gatherNeedsOfNew_7 : decode cX5_gatherNeedsOfNew 7 = .ok (.iload_n 1, 1) := by decide +kernel
theorem dX5_gatherNeedsOfNew_8 : decode cX5_gatherNeedsOfNew 8 = .ok (.istore_n 2, 1) := by decide +kernel
theorem dX5_gatherNeedsOfNew_9 : decode cX5_gatherNeedsOfNew 9 = .ok (.iload_n 2, 1) := by decide +kernel
theorem dX5_gatherNeedsOfNew_10 : decode cX5_gatherNeedsOfNew 10 = .ok (.aload_n 0, 1) := by decide +kernel
theorem dX5_gatherNeedsOfNew_11 : decode cX5_gatherNeedsOfNew 11 = .ok (.getfield 28, 3) := by decide +kernel
theorem dX5_gatherNeedsOfNew_14 : decode cX5_gatherNeedsOfNew 14 = .ok (.invokevirtual 107, 3) := by decide +kernel
theorem dX5_gatherNeedsOfNew_17 : decode cX5_gatherNeedsOfNew 17 = .ok (.if_icmp .ge 77, 3) := by decide +kernel
theorem dX5_gatherNeedsOfNew_20 : decode cX5_gatherNeedsOfNew 20 = .ok (.aload_n 0, 1) := by decide +kernel
theorem dX5_gatherNeedsOfNew_21 : decode cX5_gatherNeedsOfNew 21 = .ok (.getfield 28, 3) := by decide +kernel
theorem dX5_gatherNeedsOfNew_24 : decode cX5_gatherNeedsOfNew 24 = .ok (.iload_n 2, 1) := by decide +kernel
theorem dX5_gatherNeedsOfNew_25 : decode cX5_gatherNeedsOfNew 25 = .ok (.invokevirtual 249, 3) := by decide +kernel
theorem dX5_gatherNeedsOfNew_28 : decode cX5_gatherNeedsOfNew 28 = .ok (.istore_n 3, 1) := by decide +kernel
theorem dX5_gatherNeedsOfNew_29 : decode cX5_gatherNeedsOfNew 29 = .ok (.aload_n 0, 1) := by decide +kernel
theorem dX5_gatherNeedsOfNew_30 : decode cX5_gatherNeedsOfNew 30 = .ok (.iload_n 2, 1) := by decide +kernel
theorem dX5_gatherNeedsOfNew_31 : decode cX5_gatherNeedsOfNew 31 = .ok (.iload_n 1, 1) := by decide +kernel
theorem dX5_gatherNeedsOfNew_32 : decode cX5_gatherNeedsOfNew 32 = .ok (.isub, 1) := by decide +kernel
theorem dX5_gatherNeedsOfNew_33 : decode cX5_gatherNeedsOfNew 33 = .ok (.iconst 2, 1) := by decide +kernel
theorem dX5_gatherNeedsOfNew_34 : decode cX5_gatherNeedsOfNew 34 = .ok (.invokevirtual 122, 3) := by decide +kernel
theorem dX5_gatherNeedsOfNew_37 : decode cX5_gatherNeedsOfNew 37 = .ok (.istore 4, 2) := by decide +kernel
theorem dX5_gatherNeedsOfNew_39 : decode cX5_gatherNeedsOfNew 39 = .ok (.aload_n 0, 1) := by decide +kernel
theorem dX5_gatherNeedsOfNew_40 : decode cX5_gatherNeedsOfNew 40 = .ok (.getfield 10, 3) := by decide +kernel
theorem dX5_gatherNeedsOfNew_43 : decode cX5_gatherNeedsOfNew 43 = .ok (.iload_n 3, 1) := by decide +kernel
theorem dX5_gatherNeedsOfNew_44 : decode cX5_gatherNeedsOfNew 44 = .ok (.invokevirtual 92, 3) := by decide +kernel
theorem dX5_gatherNeedsOfNew_47 : decode cX5_gatherNeedsOfNew 47 = .ok (.aload_n 0, 1) := by decide +kernel
theorem dX5_gatherNeedsOfNew_48 : decode cX5_gatherNeedsOfNew 48 = .ok (.getfield 28, 3) := by decide +kernel
theorem dX5_gatherNeedsOfNew_51 : decode cX5_gatherNeedsOfNew 51 = .ok (.iload_n 1, 1) := by decide +kernel
theorem dX5_gatherNeedsOfNew_52 : decode cX5_gatherNeedsOfNew 52 = .ok (.invokevirtual 249, 3) := by decide +kernel
theorem dX5_gatherNeedsOfNew_55 : decode cX5_gatherNeedsOfNew 55 = .ok (.if_icmp .ne 18, 3) := by decide +kernel
theorem dX5_gatherNeedsOfNew_58 : decode cX5_gatherNeedsOfNew 58 = .ok (.iload 4, 2) := by decide +kernel
theorem dX5_gatherNeedsOfNew_60 : decode cX5_gatherNeedsOfNew 60 = .ok (.aload_n 0, 1) := by decide +kernel
theorem dX5_gatherNeedsOfNew_61 : decode cX5_gatherNeedsOfNew 61 = .ok (.iconst 0, 1) := by decide +kernel
theorem dX5_gatherNeedsOfNew_62 : decode cX5_gatherNeedsOfNew 62 = .ok (.iconst 0, 1) := by decide +kernel
theorem dX5_gatherNeedsOfNew_63 : decode cX5_gatherNeedsOfNew 63 = .ok (.invokevirtual 122, 3) := by decide +kernel
theorem dX5_gatherNeedsOfNew_66 : decode cX5_gatherNeedsOfNew 66 = .ok (.if_icmp .ne 7, 3) := by decide +kernel
theorem dX5_gatherNeedsOfNew_69 : decode cX5_gatherNeedsOfNew 69 = .ok (.iconst 1, 1) := by decide +kernel
theorem dX5_gatherNeedsOfNew_70 : decode cX5_gatherNeedsOfNew 70 = .ok (.goto 4, 3) := by decide +kernel
theorem dX5_gatherNeedsOfNew_73 : decode cX5_gatherNeedsOfNew 73 = .ok (.iconst 0, 1) := by decide +kernel
theorem dX5_gatherNeedsOfNew_74 : decode cX5_gatherNeedsOfNew 74 = .ok (.istore 5, 2) := by decide +kernel
theorem dX5_gatherNeedsOfNew_76 : decode cX5_gatherNeedsOfNew 76 = .ok (.iload 5, 2) := by decide +kernel
theorem dX5_gatherNeedsOfNew_78 : decode cX5_gatherNeedsOfNew 78 = .ok (.ifCond .ne 10, 3) := by decide +kernel
theorem dX5_gatherNeedsOfNew_81 : decode cX5_gatherNeedsOfNew 81 = .ok (.aload_n 0, 1) := by decide +kernel
theorem dX5_gatherNeedsOfNew_82 : decode cX5_gatherNeedsOfNew 82 = .ok (.iload_n 3, 1) := by decide +kernel
theorem dX5_gatherNeedsOfNew_83 : decode cX5_gatherNeedsOfNew 83 = .ok (.iload 4, 2) := by decide +kernel
theorem dX5_gatherNeedsOfNew_85 : decode cX5_gatherNeedsOfNew 85 = .ok (.invokevirtual 339, 3) := by decide +kernel
theorem dX5_gatherNeedsOfNew_88 : decode cX5_gatherNeedsOfNew 88 = .ok (.iinc 2 1, 3) := by decide +kernel
theorem dX5_gatherNeedsOfNew_91 : decode cX5_gatherNeedsOfNew 91 = .ok (.goto (-82), 3) := by decide +kernel
theorem dX5_gatherNeedsOfNew_94 : decode cX5_gatherNeedsOfNew 94 = .ok (.return_, 1) := by decide +kernel
theorem dX5_insertNew_0 : decode cX5_insertNew 0 = .ok (.iload_n 3, 1) := by decide +kernel
theorem dX5_insertNew_1 : decode cX5_insertNew 1 = .ok (.istore 4, 2) := by decide +kernel
theorem dX5_insertNew_3 : decode cX5_insertNew 3 = .ok (.iload_n 2, 1) := by decide +kernel
theorem dX5_insertNew_4 : decode cX5_insertNew 4 = .ok (.istore 5, 2) := by decide +kernel
theorem dX5_insertNew_6 : decode cX5_insertNew 6 = .ok (.iload 5, 2) := by decide +kernel
theorem dX5_insertNew_8 : decode cX5_insertNew 8 = .ok (.aload_n 0, 1) := by decide +kernel
theorem dX5_insertNew_9 : decode cX5_insertNew 9 = .ok (.getfield 28, 3) := by decide +kernel
theorem dX5_insertNew_12 : decode cX5_insertNew 12 = .ok (.invokevirtual 107, 3) := by decide +kernel
theorem dX5_insertNew_15 : decode cX5_insertNew 15 = .ok (.if_icmp .ge 53, 3) := by decide +kernel
theorem dX5_insertNew_18 : decode cX5_insertNew 18 = .ok (.aload_n 0, 1) := by decide +kernel
theorem dX5_insertNew_19 : decode cX5_insertNew 19 = .ok (.aload_n 0, 1) := by decide +kernel
theorem dX5_insertNew_20 : decode cX5_insertNew 20 = .ok (.getfield 28, 3) := by decide +kernel
theorem dX5_insertNew_23 : decode cX5_insertNew 23 = .ok (.iload 5, 2) := by decide +kernel
theorem dX5_insertNew_25 : decode cX5_insertNew 25 = .ok (.invokevirtual 249, 3) := by decide +kernel
theorem dX5_insertNew_28 : decode cX5_insertNew 28 = .ok (.iload 4, 2) := by decide +kernel
theorem dX5_insertNew_30 : decode cX5_insertNew 30 = .ok (.aload_n 0, 1) := by decide +kernel
theorem dX5_insertNew_31 : decode cX5_insertNew 31 = .ok (.iload 5, 2) := by decide +kernel
theorem dX5_insertNew_33 : decode cX5_insertNew 33 = .ok (.iload_n 2, 1) := by decide +kernel
theorem dX5_insertNew_34 : decode cX5_insertNew 34 = .ok (.isub, 1) := by decide +kernel
theorem dX5_insertNew_35 : decode cX5_insertNew 35 = .ok (.iconst 0, 1) := by decide +kernel
theorem dX5_insertNew_36 : decode cX5_insertNew 36 = .ok (.invokevirtual 122, 3) := by decide +kernel
theorem dX5_insertNew_39 : decode cX5_insertNew 39 = .ok (.aload_n 1, 1) := by decide +kernel
theorem dX5_insertNew_40 : decode cX5_insertNew 40 = .ok (.invokevirtual 165, 3) := by decide +kernel
theorem dX5_insertNew_43 : decode cX5_insertNew 43 = .ok (.invokevirtual 342, 3) := by decide +kernel
theorem dX5_insertNew_46 : decode cX5_insertNew 46 = .ok (.istore 6, 2) := by decide +kernel
theorem dX5_insertNew_48 : decode cX5_insertNew 48 = .ok (.aload_n 0, 1) := by decide +kernel
theorem dX5_insertNew_49 : decode cX5_insertNew 49 = .ok (.iload 6, 2) := by decide +kernel
theorem dX5_insertNew_51 : decode cX5_insertNew 51 = .ok (.iload 5, 2) := by decide +kernel
theorem dX5_insertNew_53 : decode cX5_insertNew 53 = .ok (.iload_n 2, 1) := by decide +kernel
theorem dX5_insertNew_54 : decode cX5_insertNew 54 = .ok (.isub, 1) := by decide +kernel
theorem dX5_insertNew_55 : decode cX5_insertNew 55 = .ok (.invokevirtual 345, 3) := by decide +kernel
theorem dX5_insertNew_58 : decode cX5_insertNew 58 = .ok (.iload 6, 2) := by decide +kernel
theorem dX5_insertNew_60 : decode cX5_insertNew 60 = .ok (.istore 4, 2) := by decide +kernel
theorem dX5_insertNew_62 : decode cX5_insertNew 62 = .ok (.iinc 5 1, 3) := by decide +kernel
theorem dX5_insertNew_65 : decode cX5_insertNew 65 = .ok (.goto (-59), 3) := by decide +kernel
theorem dX5_insertNew_68 : decode cX5_insertNew 68 = .ok (.aload_n 1, 1) := by decide +kernel
theorem dX5_insertNew_69 : decode cX5_insertNew 69 = .ok (.iload 4, 2) := by decide +kernel
theorem dX5_insertNew_71 : decode cX5_insertNew 71 = .ok (.invokevirtual 246, 3) := by decide +kernel
theorem dX5_insertNew_74 : decode cX5_insertNew 74 = .ok (.aload_n 1, 1) := by decide +kernel
theorem dX5_insertNew_75 : decode cX5_insertNew 75 = .ok (.iload 4, 2) := by decide +kernel
theorem dX5_insertNew_77 : decode cX5_insertNew 77 = .ok (.invokevirtual 242, 3) := by decide +kernel
theorem dX5_insertNew_80 : decode cX5_insertNew 80 = .ok (.return_, 1) := by decide +kernel
theorem dX5_addSegment_0 : decode cX5_addSegment 0 = .ok (.aload_n 0, 1) := by decide +kernel
theorem dX5_addSegment_1 : decode cX5_addSegment 1 = .ok (.getfield 21, 3) := by decide +kernel
theorem dX5_addSegment_4 : decode cX5_addSegment 4 = .ok (.iload_n 1, 1) := by decide +kernel
theorem dX5_addSegment_5 : decode cX5_addSegment 5 = .ok (.iload_n 2, 1) := by decide +kernel
theorem dX5_addSegment_6 : decode cX5_addSegment 6 = .ok (.aload_n 0, 1) := by decide +kernel
theorem dX5_addSegment_7 : decode cX5_addSegment 7 = .ok (.iload_n 1, 1) := by decide +kernel
theorem dX5_addSegment_8 : decode cX5_addSegment 8 = .ok (.iload_n 2, 1) := by decide +kernel
theorem dX5_addSegment_9 : decode cX5_addSegment 9 = .ok (.iload_n 3, 1) := by decide +kernel
theorem dX5_addSegment_10 : decode cX5_addSegment 10 = .ok (.iload 4, 2) := by decide +kernel
theorem dX5_addSegment_12 : decode cX5_addSegment 12 = .ok (.invokevirtual 348, 3) := by decide +kernel
theorem dX5_addSegment_15 : decode cX5_addSegment 15 = .ok (.invokevirtual 351, 3) := by decide +kernel
theorem dX5_addSegment_18 : decode cX5_addSegment 18 = .ok (.istore 5, 2) := by decide +kernel
theorem dX5_addSegment_20 : decode cX5_addSegment 20 = .ok (.aload_n 0, 1) := by decide +kernel
theorem dX5_addSegment_21 : decode cX5_addSegment 21 = .ok (.getfield 21, 3) := by decide +kernel
theorem dX5_addSegment_24 : decode cX5_addSegment 24 = .ok (.iload 5, 2) := by decide +kernel
theorem dX5_addSegment_26 : decode cX5_addSegment 26 = .ok (.iconst 0, 1) := by decide +kernel
theorem dX5_addSegment_27 : decode cX5_addSegment 27 = .ok (.iload_n 3, 1) := by decide +kernel
theorem dX5_addSegment_28 : decode cX5_addSegment 28 = .ok (.invokevirtual 214, 3) := by decide +kernel
theorem dX5_addSegment_31 : decode cX5_addSegment 31 = .ok (.iload 5, 2) := by decide +kernel
theorem dX5_addSegment_33 : decode cX5_addSegment 33 = .ok (.ireturn, 1) := by decide +kernel
theorem dX5_twinBehindNew_0 : decode cX5_twinBehindNew 0 = .ok (.aload_n 0, 1) := by decide +kernel
theorem dX5_twinBehindNew_1 : decode cX5_twinBehindNew 1 = .ok (.getfield 10, 3) := by decide +kernel
theorem dX5_twinBehindNew_4 : decode cX5_twinBehindNew 4 = .ok (.iload_n 1, 1) := by decide +kernel
theorem dX5_twinBehindNew_5 : decode cX5_twinBehindNew 5 = .ok (.invokevirtual 317, 3) := by decide +kernel
theorem dX5_twinBehindNew_8 : decode cX5_twinBehindNew 8 = .ok (.iconst 2, 1) := by decide +kernel
theorem dX5_twinBehindNew_9 : decode cX5_twinBehindNew 9 = .ok (.if_icmp .eq 7, 3) := by decide +kernel
theorem dX5_twinBehindNew_12 : decode cX5_twinBehindNew 12 = .ok (.iconst 1, 1) := by decide +kernel
theorem dX5_twinBehindNew_13 : decode cX5_twinBehindNew 13 = .ok (.goto 4, 3) := by decide +kernel
theorem dX5_twinBehindNew_16 : decode cX5_twinBehindNew 16 = .ok (.iconst 0, 1) := by decide +kernel
theorem dX5_twinBehindNew_17 : decode cX5_twinBehindNew 17 = .ok (.istore 5, 2) := by decide +kernel
theorem dX5_twinBehindNew_19 : decode cX5_twinBehindNew 19 = .ok (.aload_n 0, 1) := by decide +kernel
theorem dX5_twinBehindNew_20 : decode cX5_twinBehindNew 20 = .ok (.getfield 10, 3) := by decide +kernel
theorem dX5_twinBehindNew_23 : decode cX5_twinBehindNew 23 = .ok (.iload_n 1, 1) := by decide +kernel
theorem dX5_twinBehindNew_24 : decode cX5_twinBehindNew 24 = .ok (.invokevirtual 355, 3) := by decide +kernel
theorem dX5_twinBehindNew_27 : decode cX5_twinBehindNew 27 = .ok (.istore 6, 2) := by decide +kernel
theorem dX5_twinBehindNew_29 : decode cX5_twinBehindNew 29 = .ok (.iload 6, 2) := by decide +kernel
theorem dX5_twinBehindNew_31 : decode cX5_twinBehindNew 31 = .ok (.iconst 2, 1) := by decide +kernel
theorem dX5_twinBehindNew_32 : decode cX5_twinBehindNew 32 = .ok (.if_icmp .ne 39, 3) := by decide +kernel
theorem dX5_twinBehindNew_35 : decode cX5_twinBehindNew 35 = .ok (.aload_n 0, 1) := by decide +kernel
theorem dX5_twinBehindNew_36 : decode cX5_twinBehindNew 36 = .ok (.getfield 21, 3) := by decide +kernel
theorem dX5_twinBehindNew_39 : decode cX5_twinBehindNew 39 = .ok (.iload 4, 2) := by decide +kernel
theorem dX5_twinBehindNew_41 : decode cX5_twinBehindNew 41 = .ok (.iload_n 1, 1) := by decide +kernel
theorem dX5_twinBehindNew_42 : decode cX5_twinBehindNew 42 = .ok (.iload_n 2, 1) := by decide +kernel
theorem dX5_twinBehindNew_43 : decode cX5_twinBehindNew 43 = .ok (.invokevirtual 306, 3) := by decide +kernel
theorem dX5_twinBehindNew_46 : decode cX5_twinBehindNew 46 = .ok (.ifCond .eq 25, 3) := by decide +kernel
theorem dX5_twinBehindNew_49 : decode cX5_twinBehindNew 49 = .ok (.iload 5, 2) := by decide +kernel
theorem dX5_twinBehindNew_51 : decode cX5_twinBehindNew 51 = .ok (.ifCond .eq 17, 3) := by decide +kernel
theorem dX5_twinBehindNew_54 : decode cX5_twinBehindNew 54 = .ok (.aload_n 0, 1) := by decide +kernel
theorem dX5_twinBehindNew_55 : decode cX5_twinBehindNew 55 = .ok (.getfield 21, 3) := by decide +kernel
theorem dX5_twinBehindNew_58 : decode cX5_twinBehindNew 58 = .ok (.iload 4, 2) := by decide +kernel
theorem dX5_twinBehindNew_60 : decode cX5_twinBehindNew 60 = .ok (.iconst 0, 1) := by decide +kernel
theorem dX5_twinBehindNew_61 : decode cX5_twinBehindNew 61 = .ok (.invokevirtual 162, 3) := by decide +kernel
theorem dX5_twinBehindNew_64 : decode cX5_twinBehindNew 64 = .ok (.iload_n 3, 1) := by decide +kernel
theorem dX5_twinBehindNew_65 : decode cX5_twinBehindNew 65 = .ok (.if_icmp .ne 6, 3) := by decide +kernel
theorem dX5_twinBehindNew_68 : decode cX5_twinBehindNew 68 = .ok (.iload 4, 2) := by decide +kernel
theorem dX5_twinBehindNew_70 : decode cX5_twinBehindNew 70 = .ok (.ireturn, 1) := by decide +kernel
theorem dX5_twinBehindNew_71 : decode cX5_twinBehindNew 71 = .ok (.iload 6, 2) := by decide +kernel
theorem dX5_twinBehindNew_73 : decode cX5_twinBehindNew 73 = .ok (.iconst 1, 1) := by decide +kernel
theorem dX5_twinBehindNew_74 : decode cX5_twinBehindNew 74 = .ok (.if_icmp .ne 10, 3) := by decide +kernel
theorem dX5_twinBehindNew_77 : decode cX5_twinBehindNew 77 = .ok (.iload 5, 2) := by decide +kernel
theorem dX5_twinBehindNew_79 : decode cX5_twinBehindNew 79 = .ok (.ifCond .ne 5, 3) := by decide +kernel
theorem dX5_twinBehindNew_82 : decode cX5_twinBehindNew 82 = .ok (.iconst (-1), 1) := by decide +kernel
theorem dX5_twinBehindNew_83 : decode cX5_twinBehindNew 83 = .ok (.ireturn, 1) := by decide +kernel
theorem dX5_twinBehindNew_84 : decode cX5_twinBehindNew 84 = .ok (.iload 5, 2) := by decide +kernel
theorem dX5_twinBehindNew_86 : decode cX5_twinBehindNew 86 = .ok (.ifCond .ne 7, 3) := by decide +kernel
theorem dX5_twinBehindNew_89 : decode cX5_twinBehindNew 89 = .ok (.iconst 0, 1) := by decide +kernel
theorem dX5_twinBehindNew_90 : decode cX5_twinBehindNew 90 = .ok (.goto 16, 3) := by decide +kernel
theorem dX5_twinBehindNew_93 : decode cX5_twinBehindNew 93 = .ok (.iload 6, 2) := by decide +kernel
theorem dX5_twinBehindNew_95 : decode cX5_twinBehindNew 95 = .ok (.iconst 1, 1) := by decide +kernel
theorem dX5_twinBehindNew_96 : decode cX5_twinBehindNew 96 = .ok (.if_icmp .ne 9, 3) := by decide +kernel
theorem dX5_twinBehindNew_99 : decode cX5_twinBehindNew 99 = .ok (.iload_n 3, 1) := by decide +kernel
theorem dX5_twinBehindNew_100 : decode cX5_twinBehindNew 100 = .ok (.iconst 1, 1) := by decide +kernel
theorem dX5_twinBehindNew_101 : decode cX5_twinBehindNew 101 = .ok (.iadd, 1) := by decide +kernel
theorem dX5_twinBehindNew_102 : decode cX5_twinBehindNew 102 = .ok (.goto 4, 3) := by decide +kernel
theorem dX5_twinBehindNew_105 : decode cX5_twinBehindNew 105 = .ok (.iload_n 3, 1) := by decide +kernel
theorem dX5_twinBehindNew_106 : decode cX5_twinBehindNew 106 = .ok (.istore 7, 2) := by decide +kernel
theorem dX5_twinBehindNew_108 : decode cX5_twinBehindNew 108 = .ok (.aload_n 0, 1) := by decide +kernel
theorem dX5_twinBehindNew_109 : decode cX5_twinBehindNew 109 = .ok (.getfield 10, 3) := by decide +kernel
theorem dX5_twinBehindNew_112 : decode cX5_twinBehindNew 112 = .ok (.iload_n 1, 1) := by decide +kernel
theorem dX5_twinBehindNew_113 : decode cX5_twinBehindNew 113 = .ok (.invokevirtual 62, 3) := by decide +kernel
theorem dX5_twinBehindNew_116 : decode cX5_twinBehindNew 116 = .ok (.istore 8, 2) := by decide +kernel
theorem dX5_twinBehindNew_118 : decode cX5_twinBehindNew 118 = .ok (.iconst 0, 1) := by decide +kernel
theorem dX5_twinBehindNew_119 : decode cX5_twinBehindNew 119 = .ok (.istore 9, 2) := by decide +kernel
theorem dX5_twinBehindNew_121 : decode cX5_twinBehindNew 121 = .ok (.iload 9, 2) := by decide +kernel
theorem dX5_twinBehindNew_123 : decode cX5_twinBehindNew 123 = .ok (.aload_n 0, 1) := by decide +kernel
theorem dX5_twinBehindNew_124 : decode cX5_twinBehindNew 124 = .ok (.getfield 21, 3) := by decide +kernel
theorem dX5_twinBehindNew_127 : decode cX5_twinBehindNew 127 = .ok (.iload 8, 2) := by decide +kernel
theorem dX5_twinBehindNew_129 : decode cX5_twinBehindNew 129 = .ok (.invokevirtual 69, 3) := by decide +kernel
theorem dX5_twinBehindNew_132 : decode cX5_twinBehindNew 132 = .ok (.if_icmp .ge 54, 3) := by decide +kernel
theorem dX5_twinBehindNew_135 : decode cX5_twinBehindNew 135 = .ok (.aload_n 0, 1) := by decide +kernel
theorem dX5_twinBehindNew_136 : decode cX5_twinBehindNew 136 = .ok (.getfield 21, 3) := by decide +kernel
theorem dX5_twinBehindNew_139 : decode cX5_twinBehindNew 139 = .ok (.iload 8, 2) := by decide +kernel
theorem dX5_twinBehindNew_141 : decode cX5_twinBehindNew 141 = .ok (.iload 9, 2) := by decide +kernel
theorem dX5_twinBehindNew_143 : decode cX5_twinBehindNew 143 = .ok (.invokevirtual 152, 3) := by decide +kernel
theorem dX5_twinBehindNew_146 : decode cX5_twinBehindNew 146 = .ok (.istore 10, 2) := by decide +kernel
theorem dX5_twinBehindNew_148 : decode cX5_twinBehindNew 148 = .ok (.aload_n 0, 1) := by decide +kernel
theorem dX5_twinBehindNew_149 : decode cX5_twinBehindNew 149 = .ok (.getfield 21, 3) := by decide +kernel
theorem dX5_twinBehindNew_152 : decode cX5_twinBehindNew 152 = .ok (.iload 10, 2) := by decide +kernel
theorem dX5_twinBehindNew_154 : decode cX5_twinBehindNew 154 = .ok (.iload_n 1, 1) := by decide +kernel
theorem dX5_twinBehindNew_155 : decode cX5_twinBehindNew 155 = .ok (.iload_n 2, 1) := by decide +kernel
theorem dX5_twinBehindNew_156 : decode cX5_twinBehindNew 156 = .ok (.invokevirtual 306, 3) := by decide +kernel
theorem dX5_twinBehindNew_159 : decode cX5_twinBehindNew 159 = .ok (.ifCond .eq 21, 3) := by decide +kernel
theorem dX5_twinBehindNew_162 : decode cX5_twinBehindNew 162 = .ok (.aload_n 0, 1) := by decide +kernel
theorem dX5_twinBehindNew_163 : decode cX5_twinBehindNew 163 = .ok (.getfield 21, 3) := by decide +kernel
theorem dX5_twinBehindNew_166 : decode cX5_twinBehindNew 166 = .ok (.iload 10, 2) := by decide +kernel
theorem dX5_twinBehindNew_168 : decode cX5_twinBehindNew 168 = .ok (.iconst 0, 1) := by decide +kernel
theorem dX5_twinBehindNew_169 : decode cX5_twinBehindNew 169 = .ok (.invokevirtual 162, 3) := by decide +kernel
theorem dX5_twinBehindNew_172 : decode cX5_twinBehindNew 172 = .ok (.iload 7, 2) := by decide +kernel
theorem dX5_twinBehindNew_174 : decode cX5_twinBehindNew 174 = .ok (.if_icmp .lt 6, 3) := by decide +kernel
theorem dX5_twinBehindNew_177 : decode cX5_twinBehindNew 177 = .ok (.iload 10, 2) := by decide +kernel
theorem dX5_twinBehindNew_179 : decode cX5_twinBehindNew 179 = .ok (.ireturn, 1) := by decide +kernel
theorem dX5_twinBehindNew_180 : decode cX5_twinBehindNew 180 = .ok (.iinc 9 1, 3) := by decide +kernel
theorem dX5_twinBehindNew_183 : decode cX5_twinBehindNew 183 = .ok (.goto (-62), 3) := by decide +kernel
theorem dX5_twinBehindNew_186 : decode cX5_twinBehindNew 186 = .ok (.iconst (-1), 1) := by decide +kernel
theorem dX5_twinBehindNew_187 : decode cX5_twinBehindNew 187 = .ok (.ireturn, 1) := by decide +kernel
theorem dX5_needRoot_0 : decode cX5_needRoot 0 = .ok (.aload_n 0, 1) := by decide +kernel
theorem dX5_needRoot_1 : decode cX5_needRoot 1 = .ok (.getfield 10, 3) := by decide +kernel
theorem dX5_needRoot_4 : decode cX5_needRoot 4 = .ok (.iload_n 1, 1) := by decide +kernel
theorem dX5_needRoot_5 : decode cX5_needRoot 5 = .ok (.invokevirtual 92, 3) := by decide +kernel
theorem dX5_needRoot_8 : decode cX5_needRoot 8 = .ok (.istore_n 3, 1) := by decide +kernel
theorem dX5_needRoot_9 : decode cX5_needRoot 9 = .ok (.iload_n 3, 1) := by decide +kernel
theorem dX5_needRoot_10 : decode cX5_needRoot 10 = .ok (.iconst (-1), 1) := by decide +kernel
theorem dX5_needRoot_11 : decode cX5_needRoot 11 = .ok (.if_icmp .eq 16, 3) := by decide +kernel
theorem dX5_needRoot_14 : decode cX5_needRoot 14 = .ok (.aload_n 0, 1) := by decide +kernel
theorem dX5_needRoot_15 : decode cX5_needRoot 15 = .ok (.getfield 21, 3) := by decide +kernel
theorem dX5_needRoot_18 : decode cX5_needRoot 18 = .ok (.iload_n 3, 1) := by decide +kernel
theorem dX5_needRoot_19 : decode cX5_needRoot 19 = .ok (.iload_n 2, 1) := by decide +kernel
theorem dX5_needRoot_20 : decode cX5_needRoot 20 = .ok (.invokevirtual 189, 3) := by decide +kernel
theorem dX5_needRoot_23 : decode cX5_needRoot 23 = .ok (.iconst (-1), 1) := by decide +kernel
theorem dX5_needRoot_24 : decode cX5_needRoot 24 = .ok (.if_icmp .eq 4, 3) := by decide +kernel
theorem dX5_needRoot_27 : decode cX5_needRoot 27 = .ok (.return_, 1) := by decide +kernel
theorem dX5_needRoot_28 : decode cX5_needRoot 28 = .ok (.aload_n 0, 1) := by decide +kernel
theorem dX5_needRoot_29 : decode cX5_needRoot 29 = .ok (.getfield 10, 3) := by decide +kernel
theorem dX5_needRoot_32 : decode cX5_needRoot 32 = .ok (.iload_n 1, 1) := by decide +kernel
theorem dX5_needRoot_33 : decode cX5_needRoot 33 = .ok (.invokevirtual 358, 3) := by decide +kernel
theorem dX5_needRoot_36 : decode cX5_needRoot 36 = .ok (.ifCond .ne 13, 3) := by decide +kernel
theorem dX5_needRoot_39 : decode cX5_needRoot 39 = .ok (.aload_n 0, 1) := by decide +kernel
theorem dX5_needRoot_40 : decode cX5_needRoot 40 = .ok (.getfield 35, 3) := by decide +kernel
theorem dX5_needRoot_43 : decode cX5_needRoot 43 = .ok (.invokevirtual 361, 3) := by decide +kernel
theorem dX5_needRoot_46 : decode cX5_needRoot 46 = .ok (.goto 12, 3) := by decide +kernel
theorem dX5_needRoot_49 : decode cX5_needRoot 49 = .ok (.aload_n 0, 1) := by decide +kernel
theorem dX5_needRoot_50 : decode cX5_needRoot 50 = .ok (.getfield 35, 3) := by decide +kernel
theorem dX5_needRoot_53 : decode cX5_needRoot 53 = .ok (.iload_n 3, 1) := by decide +kernel
theorem dX5_needRoot_54 : decode cX5_needRoot 54 = .ok (.iload_n 2, 1) := by decide +kernel
theorem dX5_needRoot_55 : decode cX5_needRoot 55 = .ok (.invokevirtual 364, 3) := by decide +kernel
theorem dX5_needRoot_58 : decode cX5_needRoot 58 = .ok (.return_, 1) := by decide +kernel
theorem dX5_statusOfNeeds_0 : decode cX5_statusOfNeeds 0 = .ok (.aload_n 0, 1) := by decide +kernel
theorem dX5_statusOfNeeds_1 : decode cX5_statusOfNeeds 1 = .ok (.getfield 35, 3) := by decide +kernel
theorem dX5_statusOfNeeds_4 : decode cX5_statusOfNeeds 4 = .ok (.invokevirtual 366, 3) := by decide +kernel
theorem dX5_statusOfNeeds_7 : decode cX5_statusOfNeeds 7 = .ok (.ifCond .eq 6, 3) := by decide +kernel
theorem dX5_statusOfNeeds_10 : decode cX5_statusOfNeeds 10 = .ok (.bipush 10, 2) := by decide +kernel
theorem dX5_statusOfNeeds_12 : decode cX5_statusOfNeeds 12 = .ok (.ireturn, 1) := by decide +kernel
theorem dX5_statusOfNeeds_13 : decode cX5_statusOfNeeds 13 = .ok (.aload_n 0, 1) := by decide +kernel
theorem dX5_statusOfNeeds_14 : decode cX5_statusOfNeeds 14 = .ok (.getfield 21, 3) := by decide +kernel
theorem dX5_statusOfNeeds_17 : decode cX5_statusOfNeeds 17 = .ok (.invokevirtual 369, 3) := by decide +kernel
theorem dX5_statusOfNeeds_20 : decode cX5_statusOfNeeds 20 = .ok (.iload_n 1, 1) := by decide +kernel
theorem dX5_statusOfNeeds_21 : decode cX5_statusOfNeeds 21 = .ok (.iadd, 1) := by decide +kernel
theorem dX5_statusOfNeeds_22 : decode cX5_statusOfNeeds 22 = .ok (.aload_n 0, 1) := by decide +kernel
theorem dX5_statusOfNeeds_23 : decode cX5_statusOfNeeds 23 = .ok (.getfield 35, 3) := by decide +kernel
theorem dX5_statusOfNeeds_26 : decode cX5_statusOfNeeds 26 = .ok (.invokevirtual 370, 3) := by decide +kernel
theorem dX5_statusOfNeeds_29 : decode cX5_statusOfNeeds 29 = .ok (.iadd, 1) := by decide +kernel
theorem dX5_statusOfNeeds_30 : decode cX5_statusOfNeeds 30 = .ok (.bipush 60, 2) := by decide +kernel
theorem dX5_statusOfNeeds_32 : decode cX5_statusOfNeeds 32 = .ok (.if_icmp .le 8, 3) := by decide +kernel
theorem dX5_statusOfNeeds_35 : decode cX5_statusOfNeeds 35 = .ok (.bipush 11, 2) := by decide +kernel
theorem dX5_statusOfNeeds_37 : decode cX5_statusOfNeeds 37 = .ok (.goto 4, 3) := by decide +kernel
theorem dX5_statusOfNeeds_40 : decode cX5_statusOfNeeds 40 = .ok (.iconst 0, 1) := by decide +kernel
theorem dX5_statusOfNeeds_41 : decode cX5_statusOfNeeds 41 = .ok (.ireturn, 1) := by decide +kernel
theorem dX5_makeNeeded_0 : decode cX5_makeNeeded 0 = .ok (.iconst 0, 1) := by decide +kernel
theorem dX5_makeNeeded_1 : decode cX5_makeNeeded 1 = .ok (.istore_n 1, 1) := by decide +kernel
theorem dX5_makeNeeded_2 : decode cX5_makeNeeded 2 = .ok (.iload_n 1, 1) := by decide +kernel
theorem dX5_makeNeeded_3 : decode cX5_makeNeeded 3 = .ok (.aload_n 0, 1) := by decide +kernel
theorem dX5_makeNeeded_4 : decode cX5_makeNeeded 4 = .ok (.getfield 35, 3) := by decide +kernel
theorem dX5_makeNeeded_7 : decode cX5_makeNeeded 7 = .ok (.invokevirtual 370, 3) := by decide +kernel
theorem dX5_makeNeeded_10 : decode cX5_makeNeeded 10 = .ok (.if_icmp .ge 32, 3) := by decide +kernel
theorem dX5_makeNeeded_13 : decode cX5_makeNeeded 13 = .ok (.aload_n 0, 1) := by decide +kernel
theorem dX5_makeNeeded_14 : decode cX5_makeNeeded 14 = .ok (.aload_n 0, 1) := by decide +kernel
theorem dX5_makeNeeded_15 : decode cX5_makeNeeded 15 = .ok (.getfield 35, 3) := by decide +kernel
theorem dX5_makeNeeded_18 : decode cX5_makeNeeded 18 = .ok (.iload_n 1, 1) := by decide +kernel
theorem dX5_makeNeeded_19 : decode cX5_makeNeeded 19 = .ok (.invokevirtual 371, 3) := by decide +kernel
theorem dX5_makeNeeded_22 : decode cX5_makeNeeded 22 = .ok (.iconst (-1), 1) := by decide +kernel
theorem dX5_makeNeeded_23 : decode cX5_makeNeeded 23 = .ok (.aload_n 0, 1) := by decide +kernel
theorem dX5_makeNeeded_24 : decode cX5_makeNeeded 24 = .ok (.getfield 35, 3) := by decide +kernel
theorem dX5_makeNeeded_27 : decode cX5_makeNeeded 27 = .ok (.iload_n 1, 1) := by decide +kernel
theorem dX5_makeNeeded_28 : decode cX5_makeNeeded 28 = .ok (.invokevirtual 372, 3) := by decide +kernel
theorem dX5_makeNeeded_31 : decode cX5_makeNeeded 31 = .ok (.iconst (-1), 1) := by decide +kernel
theorem dX5_makeNeeded_32 : decode cX5_makeNeeded 32 = .ok (.invokevirtual 342, 3) := by decide +kernel
theorem dX5_makeNeeded_35 : decode cX5_makeNeeded 35 = .ok (.pop, 1) := by decide +kernel
theorem dX5_makeNeeded_36 : decode cX5_makeNeeded 36 = .ok (.iinc 1 1, 3) := by decide +kernel
theorem dX5_makeNeeded_39 : decode cX5_makeNeeded 39 = .ok (.goto (-37), 3) := by decide +kernel
theorem dX5_makeNeeded_42 : decode cX5_makeNeeded 42 = .ok (.return_, 1) := by decide +kernel
theorem dX5_replaceHeld_0 : decode cX5_replaceHeld 0 = .ok (.aload_n 1, 1) := by decide +kernel
theorem dX5_replaceHeld_1 : decode cX5_replaceHeld 1 = .ok (.invokevirtual 176, 3) := by decide +kernel
theorem dX5_replaceHeld_4 : decode cX5_replaceHeld 4 = .ok (.ifCond .ne 6, 3) := by decide +kernel
theorem dX5_replaceHeld_7 : decode cX5_replaceHeld 7 = .ok (.bipush 6, 2) := by decide +kernel
theorem dX5_replaceHeld_9 : decode cX5_replaceHeld 9 = .ok (.ireturn, 1) := by decide +kernel
theorem dX5_replaceHeld_10 : decode cX5_replaceHeld 10 = .ok (.aload_n 0, 1) := by decide +kernel
theorem dX5_replaceHeld_11 : decode cX5_replaceHeld 11 = .ok (.aload_n 1, 1) := by decide +kernel
theorem dX5_replaceHeld_12 : decode cX5_replaceHeld 12 = .ok (.invokevirtual 375, 3) := by decide +kernel
theorem dX5_replaceHeld_15 : decode cX5_replaceHeld 15 = .ok (.ifCond .eq 6, 3) := by decide +kernel
theorem dX5_replaceHeld_18 : decode cX5_replaceHeld 18 = .ok (.bipush 8, 2) := by decide +kernel
theorem dX5_replaceHeld_20 : decode cX5_replaceHeld 20 = .ok (.ireturn, 1) := by decide +kernel
theorem dX5_replaceHeld_21 : decode cX5_replaceHeld 21 = .ok (.aload_n 0, 1) := by decide +kernel
theorem dX5_replaceHeld_22 : decode cX5_replaceHeld 22 = .ok (.aload_n 1, 1) := by decide +kernel
theorem dX5_replaceHeld_23 : decode cX5_replaceHeld 23 = .ok (.invokevirtual 378, 3) := by decide +kernel
theorem dX5_replaceHeld_26 : decode cX5_replaceHeld 26 = .ok (.aload_n 0, 1) := by decide +kernel
theorem dX5_replaceHeld_27 : decode cX5_replaceHeld 27 = .ok (.iconst 0, 1) := by decide +kernel
theorem dX5_replaceHeld_28 : decode cX5_replaceHeld 28 = .ok (.invokevirtual 326, 3) := by decide +kernel
theorem dX5_replaceHeld_31 : decode cX5_replaceHeld 31 = .ok (.istore_n 2, 1) := by decide +kernel
theorem dX5_replaceHeld_32 : decode cX5_replaceHeld 32 = .ok (.iload_n 2, 1) := by decide +kernel
theorem dX5_replaceHeld_33 : decode cX5_replaceHeld 33 = .ok (.ifCond .ne 12, 3) := by decide +kernel
theorem dX5_replaceHeld_36 : decode cX5_replaceHeld 36 = .ok (.aload_n 0, 1) := by decide +kernel
theorem dX5_replaceHeld_37 : decode cX5_replaceHeld 37 = .ok (.invokevirtual 329, 3) := by decide +kernel
theorem dX5_replaceHeld_40 : decode cX5_replaceHeld 40 = .ok (.aload_n 0, 1) := by decide +kernel
theorem dX5_replaceHeld_41 : decode cX5_replaceHeld 41 = .ok (.aload_n 1, 1) := by decide +kernel
theorem dX5_replaceHeld_42 : decode cX5_replaceHeld 42 = .ok (.invokevirtual 382, 3) := by decide +kernel
theorem dX5_replaceHeld_45 : decode cX5_replaceHeld 45 = .ok (.iload_n 2, 1) := by decide +kernel
theorem dX5_replaceHeld_46 : decode cX5_replaceHeld 46 = .ok (.ireturn, 1) := by decide +kernel
theorem dX5_wouldChangeKey_0 : decode cX5_wouldChangeKey 0 = .ok (.iconst 0, 1) := by decide +kernel
theorem dX5_wouldChangeKey_1 : decode cX5_wouldChangeKey 1 = .ok (.istore_n 2, 1) := by decide +kernel
theorem dX5_wouldChangeKey_2 : decode cX5_wouldChangeKey 2 = .ok (.iload_n 2, 1) := by decide +kernel
theorem dX5_wouldChangeKey_3 : decode cX5_wouldChangeKey 3 = .ok (.aload_n 1, 1) := by decide +kernel
theorem dX5_wouldChangeKey_4 : decode cX5_wouldChangeKey 4 = .ok (.invokevirtual 176, 3) := by decide +kernel
theorem dX5_wouldChangeKey_7 : decode cX5_wouldChangeKey 7 = .ok (.if_icmp .ge 74, 3) := by decide +kernel
theorem dX5_wouldChangeKey_10 : decode cX5_wouldChangeKey 10 = .ok (.aload_n 1, 1) := by decide +kernel
theorem dX5_wouldChangeKey_11 : decode cX5_wouldChangeKey 11 = .ok (.iload_n 2, 1) := by decide +kernel
theorem dX5_wouldChangeKey_12 : decode cX5_wouldChangeKey 12 = .ok (.invokevirtual 385, 3) := by decide +kernel
theorem dX5_wouldChangeKey_15 : decode cX5_wouldChangeKey 15 = .ok (.istore_n 3, 1) := by decide +kernel
theorem dX5_wouldChangeKey_16 : decode cX5_wouldChangeKey 16 = .ok (.aload_n 0, 1) := by decide +kernel
theorem dX5_wouldChangeKey_17 : decode cX5_wouldChangeKey 17 = .ok (.getfield 10, 3) := by decide +kernel
theorem dX5_wouldChangeKey_20 : decode cX5_wouldChangeKey 20 = .ok (.aload_n 0, 1) := by decide +kernel
theorem dX5_wouldChangeKey_21 : decode cX5_wouldChangeKey 21 = .ok (.getfield 21, 3) := by decide +kernel
theorem dX5_wouldChangeKey_24 : decode cX5_wouldChangeKey 24 = .ok (.iload_n 3, 1) := by decide +kernel
theorem dX5_wouldChangeKey_25 : decode cX5_wouldChangeKey 25 = .ok (.invokevirtual 186, 3) := by decide +kernel
theorem dX5_wouldChangeKey_28 : decode cX5_wouldChangeKey 28 = .ok (.invokevirtual 317, 3) := by decide +kernel
theorem dX5_wouldChangeKey_31 : decode cX5_wouldChangeKey 31 = .ok (.iconst 2, 1) := by decide +kernel
theorem dX5_wouldChangeKey_32 : decode cX5_wouldChangeKey 32 = .ok (.if_icmp .eq 7, 3) := by decide +kernel
theorem dX5_wouldChangeKey_35 : decode cX5_wouldChangeKey 35 = .ok (.iconst 1, 1) := by decide +kernel
theorem dX5_wouldChangeKey_36 : decode cX5_wouldChangeKey 36 = .ok (.goto 4, 3) := by decide +kernel
theorem dX5_wouldChangeKey_39 : decode cX5_wouldChangeKey 39 = .ok (.iconst 0, 1) := by decide +kernel
theorem dX5_wouldChangeKey_40 : decode cX5_wouldChangeKey 40 = .ok (.istore 4, 2) := by decide +kernel
theorem dX5_wouldChangeKey_42 : decode cX5_wouldChangeKey 42 = .ok (.iload 4, 2) := by decide +kernel
theorem dX5_wouldChangeKey_44 : decode cX5_wouldChangeKey 44 = .ok (.ifCond .eq 31, 3) := by decide +kernel
theorem dX5_wouldChangeKey_47 : decode cX5_wouldChangeKey 47 = .ok (.aload_n 1, 1) := by decide +kernel
theorem dX5_wouldChangeKey_48 : decode cX5_wouldChangeKey 48 = .ok (.iload_n 2, 1) := by decide +kernel
theorem dX5_wouldChangeKey_49 : decode cX5_wouldChangeKey 49 = .ok (.invokevirtual 388, 3) := by decide +kernel
theorem dX5_wouldChangeKey_52 : decode cX5_wouldChangeKey 52 = .ok (.ifCond .ne 23, 3) := by decide +kernel
theorem dX5_wouldChangeKey_55 : decode cX5_wouldChangeKey 55 = .ok (.aload_n 0, 1) := by decide +kernel
theorem dX5_wouldChangeKey_56 : decode cX5_wouldChangeKey 56 = .ok (.getfield 21, 3) := by decide +kernel
theorem dX5_wouldChangeKey_59 : decode cX5_wouldChangeKey 59 = .ok (.iload_n 3, 1) := by decide +kernel
theorem dX5_wouldChangeKey_60 : decode cX5_wouldChangeKey 60 = .ok (.iconst 0, 1) := by decide +kernel
theorem dX5_wouldChangeKey_61 : decode cX5_wouldChangeKey 61 = .ok (.invokevirtual 162, 3) := by decide +kernel
theorem dX5_wouldChangeKey_64 : decode cX5_wouldChangeKey 64 = .ok (.aload_n 0, 1) := by decide +kernel
theorem dX5_wouldChangeKey_65 : decode cX5_wouldChangeKey 65 = .ok (.iload_n 2, 1) := by decide +kernel
theorem dX5_wouldChangeKey_66 : decode cX5_wouldChangeKey 66 = .ok (.iconst 0, 1) := by decide +kernel
theorem dX5_wouldChangeKey_67 : decode cX5_wouldChangeKey 67 = .ok (.invokevirtual 122, 3) := by decide +kernel
theorem dX5_wouldChangeKey_70 : decode cX5_wouldChangeKey 70 = .ok (.if_icmp .eq 5, 3) := by decide +kernel
theorem dX5_wouldChangeKey_73 : decode cX5_wouldChangeKey 73 = .ok (.iconst 1, 1) := by decide +kernel
theorem dX5_wouldChangeKey_74 : decode cX5_wouldChangeKey 74 = .ok (.ireturn, 1) := by decide +kernel
theorem dX5_wouldChangeKey_75 : decode cX5_wouldChangeKey 75 = .ok (.iinc 2 1, 3) := by decide +kernel
theorem dX5_wouldChangeKey_78 : decode cX5_wouldChangeKey 78 = .ok (.goto (-76), 3) := by decide +kernel
theorem dX5_wouldChangeKey_81 : decode cX5_wouldChangeKey 81 = .ok (.iconst 0, 1) := by decide +kernel
theorem dX5_wouldChangeKey_82 : decode cX5_wouldChangeKey 82 = .ok (.ireturn, 1) := by decide +kernel
theorem dX5_gatherNeedsOfHeld_0 : decode cX5_gatherNeedsOfHeld 0 = .ok (.aload_n 0, 1) := by decide +kernel
theorem dX5_gatherNeedsOfHeld_1 : decode cX5_gatherNeedsOfHeld 1 = .ok (.getfield 35, 3) := by decide +kernel
theorem dX5_gatherNeedsOfHeld_4 : decode cX5_gatherNeedsOfHeld 4 = .ok (.invokevirtual 336, 3) := by decide +kernel
theorem dX5_gatherNeedsOfHeld_7 : decode cX5_gatherNeedsOfHeld 7 = .ok (.iconst 0, 1) := by decide +kernel
theorem dX5_gatherNeedsOfHeld_8 : decode cX5_gatherNeedsOfHeld 8 = .ok (.istore_n 2, 1) := by decide +kernel
theorem dX5_gatherNeedsOfHeld_9 : decode cX5_gatherNeedsOfHeld 9 = .ok (.iload_n 2, 1) := by decide +kernel
theorem dX5_gatherNeedsOfHeld_10 : decode cX5_gatherNeedsOfHeld 10 = .ok (.aload_n 1, 1) := by decide +kernel
theorem dX5_gatherNeedsOfHeld_11 : decode cX5_gatherNeedsOfHeld 11 = .ok (.invokevirtual 176, 3) := by decide +kernel
theorem dX5_gatherNeedsOfHeld_14 : decode cX5_gatherNeedsOfHeld 14 = .ok (.if_icmp .ge 59, 3) := by decide +kernel
theorem dX5_gatherNeedsOfHeld_17 : decode cX5_gatherNeedsOfHeld 17 = .ok (.aload_n 1, 1) := by decide +kernel
theorem dX5_gatherNeedsOfHeld_18 : decode cX5_gatherNeedsOfHeld 18 = .ok (.iload_n 2, 1) := by decide +kernel
theorem dX5_gatherNeedsOfHeld_19 : decode cX5_gatherNeedsOfHeld 19 = .ok (.invokevirtual 385, 3) := by decide +kernel
theorem dX5_gatherNeedsOfHeld_22 : decode cX5_gatherNeedsOfHeld 22 = .ok (.istore_n 3, 1) := by decide +kernel
theorem dX5_gatherNeedsOfHeld_23 : decode cX5_gatherNeedsOfHeld 23 = .ok (.aload_n 0, 1) := by decide +kernel
theorem dX5_gatherNeedsOfHeld_24 : decode cX5_gatherNeedsOfHeld 24 = .ok (.iload_n 2, 1) := by decide +kernel
theorem dX5_gatherNeedsOfHeld_25 : decode cX5_gatherNeedsOfHeld 25 = .ok (.iconst 2, 1) := by decide +kernel
theorem dX5_gatherNeedsOfHeld_26 : decode cX5_gatherNeedsOfHeld 26 = .ok (.invokevirtual 122, 3) := by decide +kernel
theorem dX5_gatherNeedsOfHeld_29 : decode cX5_gatherNeedsOfHeld 29 = .ok (.istore 4, 2) := by decide +kernel
theorem dX5_gatherNeedsOfHeld_31 : decode cX5_gatherNeedsOfHeld 31 = .ok (.aload_n 1, 1) := by decide +kernel
theorem dX5_gatherNeedsOfHeld_32 : decode cX5_gatherNeedsOfHeld 32 = .ok (.iload_n 2, 1) := by decide +kernel
theorem dX5_gatherNeedsOfHeld_33 : decode cX5_gatherNeedsOfHeld 33 = .ok (.invokevirtual 388, 3) := by decide +kernel
theorem dX5_gatherNeedsOfHeld_36 : decode cX5_gatherNeedsOfHeld 36 = .ok (.ifCond .ne 31, 3) := by decide +kernel
theorem dX5_gatherNeedsOfHeld_39 : decode cX5_gatherNeedsOfHeld 39 = .ok (.aload_n 0, 1) := by decide +kernel
theorem dX5_gatherNeedsOfHeld_40 : decode cX5_gatherNeedsOfHeld 40 = .ok (.getfield 21, 3) := by decide +kernel
theorem dX5_gatherNeedsOfHeld_43 : decode cX5_gatherNeedsOfHeld 43 = .ok (.iload_n 3, 1) := by decide +kernel
theorem dX5_gatherNeedsOfHeld_44 : decode cX5_gatherNeedsOfHeld 44 = .ok (.iconst 2, 1) := by decide +kernel
theorem dX5_gatherNeedsOfHeld_45 : decode cX5_gatherNeedsOfHeld 45 = .ok (.invokevirtual 162, 3) := by decide +kernel
theorem dX5_gatherNeedsOfHeld_48 : decode cX5_gatherNeedsOfHeld 48 = .ok (.iload 4, 2) := by decide +kernel
theorem dX5_gatherNeedsOfHeld_50 : decode cX5_gatherNeedsOfHeld 50 = .ok (.if_icmp .eq 17, 3) := by decide +kernel
theorem dX5_gatherNeedsOfHeld_53 : decode cX5_gatherNeedsOfHeld 53 = .ok (.aload_n 0, 1) := by decide +kernel
theorem dX5_gatherNeedsOfHeld_54 : decode cX5_gatherNeedsOfHeld 54 = .ok (.aload_n 0, 1) := by decide +kernel
theorem dX5_gatherNeedsOfHeld_55 : decode cX5_gatherNeedsOfHeld 55 = .ok (.getfield 21, 3) := by decide +kernel
theorem dX5_gatherNeedsOfHeld_58 : decode cX5_gatherNeedsOfHeld 58 = .ok (.iload_n 3, 1) := by decide +kernel
theorem dX5_gatherNeedsOfHeld_59 : decode cX5_gatherNeedsOfHeld 59 = .ok (.invokevirtual 186, 3) := by decide +kernel
theorem dX5_gatherNeedsOfHeld_62 : decode cX5_gatherNeedsOfHeld 62 = .ok (.iload 4, 2) := by decide +kernel
theorem dX5_gatherNeedsOfHeld_64 : decode cX5_gatherNeedsOfHeld 64 = .ok (.invokevirtual 339, 3) := by decide +kernel
theorem dX5_gatherNeedsOfHeld_67 : decode cX5_gatherNeedsOfHeld 67 = .ok (.iinc 2 1, 3) := by decide +kernel
theorem dX5_gatherNeedsOfHeld_70 : decode cX5_gatherNeedsOfHeld 70 = .ok (.goto (-61), 3) := by decide +kernel
theorem dX5_gatherNeedsOfHeld_73 : decode cX5_gatherNeedsOfHeld 73 = .ok (.return_, 1) := by decide +kernel
theorem dX5_fillHeld_0 : decode cX5_fillHeld 0 = .ok (.iconst 0, 1) := by decide +kernel
theorem dX5_fillHeld_1 : decode cX5_fillHeld 1 = .ok (.istore_n 2, 1) := by decide +kernel
theorem dX5_fillHeld_2 : decode cX5_fillHeld 2 = .ok (.iload_n 2, 1) := by decide +kernel
theorem dX5_fillHeld_3 : decode cX5_fillHeld 3 = .ok (.aload_n 1, 1) := by decide +kernel
theorem dX5_fillHeld_4 : decode cX5_fillHeld 4 = .ok (.invokevirtual 176, 3) := by decide +kernel
theorem dX5_fillHeld_7 : decode cX5_fillHeld 7 = .ok (.if_icmp .ge 27, 3) := by decide +kernel
theorem dX5_fillHeld_10 : decode cX5_fillHeld 10 = .ok (.aload_n 1, 1) := by decide +kernel
theorem dX5_fillHeld_11 : decode cX5_fillHeld 11 = .ok (.iload_n 2, 1) := by decide +kernel
theorem dX5_fillHeld_12 : decode cX5_fillHeld 12 = .ok (.invokevirtual 388, 3) := by decide +kernel
theorem dX5_fillHeld_15 : decode cX5_fillHeld 15 = .ok (.ifCond .ne 13, 3) := by decide +kernel
theorem dX5_fillHeld_18 : decode cX5_fillHeld 18 = .ok (.aload_n 0, 1) := by decide +kernel
theorem dX5_fillHeld_19 : decode cX5_fillHeld 19 = .ok (.aload_n 1, 1) := by decide +kernel
theorem dX5_fillHeld_20 : decode cX5_fillHeld 20 = .ok (.iload_n 2, 1) := by decide +kernel
theorem dX5_fillHeld_21 : decode cX5_fillHeld 21 = .ok (.invokevirtual 385, 3) := by decide +kernel
theorem dX5_fillHeld_24 : decode cX5_fillHeld 24 = .ok (.iload_n 2, 1) := by decide +kernel
theorem dX5_fillHeld_25 : decode cX5_fillHeld 25 = .ok (.invokevirtual 345, 3) := by decide +kernel
theorem dX5_fillHeld_28 : decode cX5_fillHeld 28 = .ok (.iinc 2 1, 3) := by decide +kernel
theorem dX5_fillHeld_31 : decode cX5_fillHeld 31 = .ok (.goto (-29), 3) := by decide +kernel
theorem dX5_fillHeld_34 : decode cX5_fillHeld 34 = .ok (.return_, 1) := by decide +kernel
theorem dX5_deleteFrom_0 : decode cX5_deleteFrom 0 = .ok (.aload_n 0, 1) := by decide +kernel
theorem dX5_deleteFrom_1 : decode cX5_deleteFrom 1 = .ok (.getfield 21, 3) := by decide +kernel
theorem dX5_deleteFrom_4 : decode cX5_deleteFrom 4 = .ok (.invokevirtual 391, 3) := by decide +kernel
theorem dX5_deleteFrom_7 : decode cX5_deleteFrom 7 = .ok (.aload_n 0, 1) := by decide +kernel
theorem dX5_deleteFrom_8 : decode cX5_deleteFrom 8 = .ok (.getfield 21, 3) := by decide +kernel
theorem dX5_deleteFrom_11 : decode cX5_deleteFrom 11 = .ok (.iload_n 1, 1) := by decide +kernel
theorem dX5_deleteFrom_12 : decode cX5_deleteFrom 12 = .ok (.invokevirtual 394, 3) := by decide +kernel
theorem dX5_deleteFrom_15 : decode cX5_deleteFrom 15 = .ok (.iconst 0, 1) := by decide +kernel
theorem dX5_deleteFrom_16 : decode cX5_deleteFrom 16 = .ok (.istore_n 2, 1) := by decide +kernel
theorem dX5_deleteFrom_17 : decode cX5_deleteFrom 17 = .ok (.iload_n 2, 1) := by decide +kernel
theorem dX5_deleteFrom_18 : decode cX5_deleteFrom 18 = .ok (.bipush 60, 2) := by decide +kernel
theorem dX5_deleteFrom_20 : decode cX5_deleteFrom 20 = .ok (.if_icmp .ge 48, 3) := by decide +kernel
theorem dX5_deleteFrom_23 : decode cX5_deleteFrom 23 = .ok (.aload_n 0, 1) := by decide +kernel
theorem dX5_deleteFrom_24 : decode cX5_deleteFrom 24 = .ok (.getfield 21, 3) := by decide +kernel
theorem dX5_deleteFrom_27 : decode cX5_deleteFrom 27 = .ok (.iload_n 2, 1) := by decide +kernel
theorem dX5_deleteFrom_28 : decode cX5_deleteFrom 28 = .ok (.iload_n 1, 1) := by decide +kernel
theorem dX5_deleteFrom_29 : decode cX5_deleteFrom 29 = .ok (.invokevirtual 192, 3) := by decide +kernel
theorem dX5_deleteFrom_32 : decode cX5_deleteFrom 32 = .ok (.ifCond .eq 30, 3) := by decide +kernel
theorem dX5_deleteFrom_35 : decode cX5_deleteFrom 35 = .ok (.aload_n 0, 1) := by decide +kernel
theorem dX5_deleteFrom_36 : decode cX5_deleteFrom 36 = .ok (.getfield 10, 3) := by decide +kernel
theorem dX5_deleteFrom_39 : decode cX5_deleteFrom 39 = .ok (.aload_n 0, 1) := by decide +kernel
theorem dX5_deleteFrom_40 : decode cX5_deleteFrom 40 = .ok (.getfield 21, 3) := by decide +kernel
theorem dX5_deleteFrom_43 : decode cX5_deleteFrom 43 = .ok (.iload_n 2, 1) := by decide +kernel
theorem dX5_deleteFrom_44 : decode cX5_deleteFrom 44 = .ok (.invokevirtual 186, 3) := by decide +kernel
theorem dX5_deleteFrom_47 : decode cX5_deleteFrom 47 = .ok (.invokevirtual 397, 3) := by decide +kernel
theorem dX5_deleteFrom_50 : decode cX5_deleteFrom 50 = .ok (.iconst 2, 1) := by decide +kernel
theorem dX5_deleteFrom_51 : decode cX5_deleteFrom 51 = .ok (.if_icmp .ne 11, 3) := by decide +kernel
theorem dX5_deleteFrom_54 : decode cX5_deleteFrom 54 = .ok (.aload_n 0, 1) := by decide +kernel
theorem dX5_deleteFrom_55 : decode cX5_deleteFrom 55 = .ok (.getfield 21, 3) := by decide +kernel
theorem dX5_deleteFrom_58 : decode cX5_deleteFrom 58 = .ok (.iload_n 2, 1) := by decide +kernel
theorem dX5_deleteFrom_59 : decode cX5_deleteFrom 59 = .ok (.invokevirtual 394, 3) := by decide +kernel
theorem dX5_deleteFrom_62 : decode cX5_deleteFrom 62 = .ok (.iinc 2 1, 3) := by decide +kernel
theorem dX5_deleteFrom_65 : decode cX5_deleteFrom 65 = .ok (.goto (-48), 3) := by decide +kernel
theorem dX5_deleteFrom_68 : decode cX5_deleteFrom 68 = .ok (.aload_n 0, 1) := by decide +kernel
theorem dX5_deleteFrom_69 : decode cX5_deleteFrom 69 = .ok (.iload_n 1, 1) := by decide +kernel
theorem dX5_deleteFrom_70 : decode cX5_deleteFrom 70 = .ok (.invokevirtual 400, 3) := by decide +kernel
theorem dX5_deleteFrom_73 : decode cX5_deleteFrom 73 = .ok (.ifCond .eq 6, 3) := by decide +kernel
theorem dX5_deleteFrom_76 : decode cX5_deleteFrom 76 = .ok (.bipush 12, 2) := by decide +kernel
theorem dX5_deleteFrom_78 : decode cX5_deleteFrom 78 = .ok (.ireturn, 1) := by decide +kernel
theorem dX5_deleteFrom_79 : decode cX5_deleteFrom 79 = .ok (.iconst 0, 1) := by decide +kernel
theorem dX5_deleteFrom_80 : decode cX5_deleteFrom 80 = .ok (.istore_n 2, 1) := by decide +kernel
theorem dX5_deleteFrom_81 : decode cX5_deleteFrom 81 = .ok (.iload_n 2, 1) := by decide +kernel
theorem dX5_deleteFrom_82 : decode cX5_deleteFrom 82 = .ok (.aload_n 0, 1) := by decide +kernel
theorem dX5_deleteFrom_83 : decode cX5_deleteFrom 83 = .ok (.getfield 41, 3) := by decide +kernel
theorem dX5_deleteFrom_86 : decode cX5_deleteFrom 86 = .ok (.arraylength, 1) := by decide +kernel
theorem dX5_deleteFrom_87 : decode cX5_deleteFrom 87 = .ok (.if_icmp .ge 19, 3) := by decide +kernel
theorem dX5_deleteFrom_90 : decode cX5_deleteFrom 90 = .ok (.aload_n 0, 1) := by decide +kernel
theorem dX5_deleteFrom_91 : decode cX5_deleteFrom 91 = .ok (.aload_n 0, 1) := by decide +kernel
theorem dX5_deleteFrom_92 : decode cX5_deleteFrom 92 = .ok (.getfield 41, 3) := by decide +kernel
theorem dX5_deleteFrom_95 : decode cX5_deleteFrom 95 = .ok (.iload_n 2, 1) := by decide +kernel
theorem dX5_deleteFrom_96 : decode cX5_deleteFrom 96 = .ok (.aaload, 1) := by decide +kernel
theorem dX5_deleteFrom_97 : decode cX5_deleteFrom 97 = .ok (.invokevirtual 403, 3) := by decide +kernel
theorem dX5_deleteFrom_100 : decode cX5_deleteFrom 100 = .ok (.iinc 2 1, 3) := by decide +kernel
theorem dX5_deleteFrom_103 : decode cX5_deleteFrom 103 = .ok (.goto (-22), 3) := by decide +kernel
theorem dX5_deleteFrom_106 : decode cX5_deleteFrom 106 = .ok (.aload_n 0, 1) := by decide +kernel
theorem dX5_deleteFrom_107 : decode cX5_deleteFrom 107 = .ok (.getfield 21, 3) := by decide +kernel
theorem dX5_deleteFrom_110 : decode cX5_deleteFrom 110 = .ok (.invokevirtual 406, 3) := by decide +kernel
theorem dX5_deleteFrom_113 : decode cX5_deleteFrom 113 = .ok (.iconst 0, 1) := by decide +kernel
theorem dX5_deleteFrom_114 : decode cX5_deleteFrom 114 = .ok (.ireturn, 1) := by decide +kernel
theorem dX5_isBound_0 : decode cX5_isBound 0 = .ok (.iconst 0, 1) := by decide +kernel
theorem dX5_isBound_1 : decode cX5_isBound 1 = .ok (.istore_n 2, 1) := by decide +kernel
theorem dX5_isBound_2 : decode cX5_isBound 2 = .ok (.iload_n 2, 1) := by decide +kernel
theorem dX5_isBound_3 : decode cX5_isBound 3 = .ok (.bipush 60, 2) := by decide +kernel
theorem dX5_isBound_5 : decode cX5_isBound 5 = .ok (.if_icmp .ge 62, 3) := by decide +kernel
theorem dX5_isBound_8 : decode cX5_isBound 8 = .ok (.aload_n 0, 1) := by decide +kernel
theorem dX5_isBound_9 : decode cX5_isBound 9 = .ok (.getfield 21, 3) := by decide +kernel
theorem dX5_isBound_12 : decode cX5_isBound 12 = .ok (.iload_n 2, 1) := by decide +kernel
theorem dX5_isBound_13 : decode cX5_isBound 13 = .ok (.iload_n 1, 1) := by decide +kernel
theorem dX5_isBound_14 : decode cX5_isBound 14 = .ok (.invokevirtual 192, 3) := by decide +kernel
theorem dX5_isBound_17 : decode cX5_isBound 17 = .ok (.ifCond .eq 25, 3) := by decide +kernel
theorem dX5_isBound_20 : decode cX5_isBound 20 = .ok (.aload_n 0, 1) := by decide +kernel
theorem dX5_isBound_21 : decode cX5_isBound 21 = .ok (.getfield 10, 3) := by decide +kernel
theorem dX5_isBound_24 : decode cX5_isBound 24 = .ok (.aload_n 0, 1) := by decide +kernel
theorem dX5_isBound_25 : decode cX5_isBound 25 = .ok (.getfield 21, 3) := by decide +kernel
theorem dX5_isBound_28 : decode cX5_isBound 28 = .ok (.iload_n 2, 1) := by decide +kernel
theorem dX5_isBound_29 : decode cX5_isBound 29 = .ok (.invokevirtual 186, 3) := by decide +kernel
theorem dX5_isBound_32 : decode cX5_isBound 32 = .ok (.invokevirtual 397, 3) := by decide +kernel
theorem dX5_isBound_35 : decode cX5_isBound 35 = .ok (.ifCond .ne 7, 3) := by decide +kernel
theorem dX5_isBound_38 : decode cX5_isBound 38 = .ok (.iconst 1, 1) := by decide +kernel
theorem dX5_isBound_39 : decode cX5_isBound 39 = .ok (.goto 4, 3) := by decide +kernel
theorem dX5_isBound_42 : decode cX5_isBound 42 = .ok (.iconst 0, 1) := by decide +kernel
theorem dX5_isBound_43 : decode cX5_isBound 43 = .ok (.istore_n 3, 1) := by decide +kernel
theorem dX5_isBound_44 : decode cX5_isBound 44 = .ok (.iload_n 3, 1) := by decide +kernel
theorem dX5_isBound_45 : decode cX5_isBound 45 = .ok (.ifCond .eq 16, 3) := by decide +kernel
theorem dX5_isBound_48 : decode cX5_isBound 48 = .ok (.aload_n 0, 1) := by decide +kernel
theorem dX5_isBound_49 : decode cX5_isBound 49 = .ok (.getfield 21, 3) := by decide +kernel
theorem dX5_isBound_52 : decode cX5_isBound 52 = .ok (.iload_n 2, 1) := by decide +kernel
theorem dX5_isBound_53 : decode cX5_isBound 53 = .ok (.invokevirtual 409, 3) := by decide +kernel
theorem dX5_isBound_56 : decode cX5_isBound 56 = .ok (.ifCond .ne 5, 3) := by decide +kernel
theorem dX5_isBound_59 : decode cX5_isBound 59 = .ok (.iconst 1, 1) := by decide +kernel
theorem dX5_isBound_60 : decode cX5_isBound 60 = .ok (.ireturn, 1) := by decide +kernel
theorem dX5_isBound_61 : decode cX5_isBound 61 = .ok (.iinc 2 1, 3) := by decide +kernel
theorem dX5_isBound_64 : decode cX5_isBound 64 = .ok (.goto (-62), 3) := by decide +kernel
theorem dX5_isBound_67 : decode cX5_isBound 67 = .ok (.iconst 0, 1) := by decide +kernel
theorem dX5_isBound_68 : decode cX5_isBound 68 = .ok (.ireturn, 1) := by decide +kernel
theorem dX5_leaveDoomed_0 : decode cX5_leaveDoomed 0 = .ok (.aload_n 1, 1) := by decide +kernel
theorem dX5_leaveDoomed_1 : decode cX5_leaveDoomed 1 = .ok (.ifnonnull 4, 3) := by decide +kernel
theorem dX5_leaveDoomed_4 : decode cX5_leaveDoomed 4 = .ok (.return_, 1) := by decide +kernel
theorem dX5_leaveDoomed_5 : decode cX5_leaveDoomed 5 = .ok (.aload_n 0, 1) := by decide +kernel
theorem dX5_leaveDoomed_6 : decode cX5_leaveDoomed 6 = .ok (.getfield 21, 3) := by decide +kernel
theorem dX5_leaveDoomed_9 : decode cX5_leaveDoomed 9 = .ok (.aload_n 1, 1) := by decide +kernel
theorem dX5_leaveDoomed_10 : decode cX5_leaveDoomed 10 = .ok (.invokevirtual 287, 3) := by decide +kernel
theorem dX5_leaveDoomed_13 : decode cX5_leaveDoomed 13 = .ok (.invokevirtual 409, 3) := by decide +kernel
theorem dX5_leaveDoomed_16 : decode cX5_leaveDoomed 16 = .ok (.ifCond .eq 18, 3) := by decide +kernel
theorem dX5_leaveDoomed_19 : decode cX5_leaveDoomed 19 = .ok (.aload_n 1, 1) := by decide +kernel
theorem dX5_leaveDoomed_20 : decode cX5_leaveDoomed 20 = .ok (.aload_n 0, 1) := by decide +kernel
theorem dX5_leaveDoomed_21 : decode cX5_leaveDoomed 21 = .ok (.getfield 21, 3) := by decide +kernel
theorem dX5_leaveDoomed_24 : decode cX5_leaveDoomed 24 = .ok (.aload_n 1, 1) := by decide +kernel
theorem dX5_leaveDoomed_25 : decode cX5_leaveDoomed 25 = .ok (.invokevirtual 287, 3) := by decide +kernel
theorem dX5_leaveDoomed_28 : decode cX5_leaveDoomed 28 = .ok (.invokevirtual 412, 3) := by decide +kernel
theorem dX5_leaveDoomed_31 : decode cX5_leaveDoomed 31 = .ok (.invokevirtual 415, 3) := by decide +kernel
theorem dX5_leaveDoomed_34 : decode cX5_leaveDoomed 34 = .ok (.aload_n 0, 1) := by decide +kernel
theorem dX5_leaveDoomed_35 : decode cX5_leaveDoomed 35 = .ok (.getfield 21, 3) := by decide +kernel
theorem dX5_leaveDoomed_38 : decode cX5_leaveDoomed 38 = .ok (.aload_n 1, 1) := by decide +kernel
theorem dX5_leaveDoomed_39 : decode cX5_leaveDoomed 39 = .ok (.invokevirtual 173, 3) := by decide +kernel
theorem dX5_leaveDoomed_42 : decode cX5_leaveDoomed 42 = .ok (.invokevirtual 409, 3) := by decide +kernel
theorem dX5_leaveDoomed_45 : decode cX5_leaveDoomed 45 = .ok (.ifCond .eq 8, 3) := by decide +kernel
theorem dX5_leaveDoomed_48 : decode cX5_leaveDoomed 48 = .ok (.aload_n 1, 1) := by decide +kernel
theorem dX5_leaveDoomed_49 : decode cX5_leaveDoomed 49 = .ok (.iconst (-1), 1) := by decide +kernel
theorem dX5_leaveDoomed_50 : decode cX5_leaveDoomed 50 = .ok (.invokevirtual 242, 3) := by decide +kernel
theorem dX5_leaveDoomed_53 : decode cX5_leaveDoomed 53 = .ok (.iconst 0, 1) := by decide +kernel
theorem dX5_leaveDoomed_54 : decode cX5_leaveDoomed 54 = .ok (.istore_n 2, 1) := by decide +kernel
theorem dX5_leaveDoomed_55 : decode cX5_leaveDoomed 55 = .ok (.iload_n 2, 1) := by decide +kernel
theorem dX5_leaveDoomed_56 : decode cX5_leaveDoomed 56 = .ok (.aload_n 1, 1) := by decide +kernel
theorem dX5_leaveDoomed_57 : decode cX5_leaveDoomed 57 = .ok (.invokevirtual 176, 3) := by decide +kernel
theorem dX5_leaveDoomed_60 : decode cX5_leaveDoomed 60 = .ok (.if_icmp .ge 28, 3) := by decide +kernel
theorem dX5_leaveDoomed_63 : decode cX5_leaveDoomed 63 = .ok (.aload_n 0, 1) := by decide +kernel
theorem dX5_leaveDoomed_64 : decode cX5_leaveDoomed 64 = .ok (.getfield 21, 3) := by decide +kernel
theorem dX5_leaveDoomed_67 : decode cX5_leaveDoomed 67 = .ok (.aload_n 1, 1) := by decide +kernel
theorem dX5_leaveDoomed_68 : decode cX5_leaveDoomed 68 = .ok (.iload_n 2, 1) := by decide +kernel
theorem dX5_leaveDoomed_69 : decode cX5_leaveDoomed 69 = .ok (.invokevirtual 385, 3) := by decide +kernel
theorem dX5_leaveDoomed_72 : decode cX5_leaveDoomed 72 = .ok (.invokevirtual 409, 3) := by decide +kernel
theorem dX5_leaveDoomed_75 : decode cX5_leaveDoomed 75 = .ok (.ifCond .eq 7, 3) := by decide +kernel
theorem dX5_leaveDoomed_78 : decode cX5_leaveDoomed 78 = .ok (.aload_n 1, 1) := by decide +kernel
theorem dX5_leaveDoomed_79 : decode cX5_leaveDoomed 79 = .ok (.invokevirtual 129, 3) := by decide +kernel
theorem dX5_leaveDoomed_82 : decode cX5_leaveDoomed 82 = .ok (.iinc 2 1, 3) := by decide +kernel
theorem dX5_leaveDoomed_85 : decode cX5_leaveDoomed 85 = .ok (.goto (-30), 3) := by decide +kernel
theorem dX5_leaveDoomed_88 : decode cX5_leaveDoomed 88 = .ok (.return_, 1) := by decide +kernel
theorem dX5_comparedAhead_0 : decode cX5_comparedAhead 0 = .ok (.iconst 0, 1) := by decide +kernel
theorem dX5_comparedAhead_1 : decode cX5_comparedAhead 1 = .ok (.istore_n 3, 1) := by decide +kernel
theorem dX5_comparedAhead_2 : decode cX5_comparedAhead 2 = .ok (.iconst 0, 1) := by decide +kernel
theorem dX5_comparedAhead_3 : decode cX5_comparedAhead 3 = .ok (.istore 4, 2) := by decide +kernel
theorem dX5_comparedAhead_5 : decode cX5_comparedAhead 5 = .ok (.iload 4, 2) := by decide +kernel
theorem dX5_comparedAhead_7 : decode cX5_comparedAhead 7 = .ok (.bipush 60, 2) := by decide +kernel
theorem dX5_comparedAhead_9 : decode cX5_comparedAhead 9 = .ok (.if_icmp .ge 38, 3) := by decide +kernel
theorem dX5_comparedAhead_12 : decode cX5_comparedAhead 12 = .ok (.aload_n 0, 1) := by decide +kernel
theorem dX5_comparedAhead_13 : decode cX5_comparedAhead 13 = .ok (.getfield 21, 3) := by decide +kernel
theorem dX5_comparedAhead_16 : decode cX5_comparedAhead 16 = .ok (.iload 4, 2) := by decide +kernel
theorem dX5_comparedAhead_18 : decode cX5_comparedAhead 18 = .ok (.invokevirtual 158, 3) := by decide +kernel
theorem dX5_comparedAhead_21 : decode cX5_comparedAhead 21 = .ok (.iload_n 1, 1) := by decide +kernel
theorem dX5_comparedAhead_22 : decode cX5_comparedAhead 22 = .ok (.if_icmp .ne 19, 3) := by decide +kernel
theorem dX5_comparedAhead_25 : decode cX5_comparedAhead 25 = .ok (.aload_n 0, 1) := by decide +kernel
theorem dX5_comparedAhead_26 : decode cX5_comparedAhead 26 = .ok (.getfield 21, 3) := by decide +kernel
theorem dX5_comparedAhead_29 : decode cX5_comparedAhead 29 = .ok (.iload 4, 2) := by decide +kernel
theorem dX5_comparedAhead_31 : decode cX5_comparedAhead 31 = .ok (.iload_n 2, 1) := by decide +kernel
theorem dX5_comparedAhead_32 : decode cX5_comparedAhead 32 = .ok (.invokevirtual 418, 3) := by decide +kernel
theorem dX5_comparedAhead_35 : decode cX5_comparedAhead 35 = .ok (.ifCond .eq 6, 3) := by decide +kernel
theorem dX5_comparedAhead_38 : decode cX5_comparedAhead 38 = .ok (.iinc 3 1, 3) := by decide +kernel
theorem dX5_comparedAhead_41 : decode cX5_comparedAhead 41 = .ok (.iinc 4 1, 3) := by decide +kernel
theorem dX5_comparedAhead_44 : decode cX5_comparedAhead 44 = .ok (.goto (-39), 3) := by decide +kernel
theorem dX5_comparedAhead_47 : decode cX5_comparedAhead 47 = .ok (.iload_n 3, 1) := by decide +kernel
theorem dX5_comparedAhead_48 : decode cX5_comparedAhead 48 = .ok (.ireturn, 1) := by decide +kernel
theorem dJ9_max_7cf53_0 : decode cJ9_max_7cf53 0 = .ok (.iload_n 0, 1) := by decide +kernel
theorem dJ9_max_7cf53_1 : decode cJ9_max_7cf53 1 = .ok (.iload_n 1, 1) := by decide +kernel
theorem dJ9_max_7cf53_2 : decode cJ9_max_7cf53 2 = .ok (.if_icmp .lt 7, 3) := by decide +kernel
theorem dJ9_max_7cf53_5 : decode cJ9_max_7cf53 5 = .ok (.iload_n 0, 1) := by decide +kernel
theorem dJ9_max_7cf53_6 : decode cJ9_max_7cf53 6 = .ok (.goto 4, 3) := by decide +kernel
theorem dJ9_max_7cf53_9 : decode cJ9_max_7cf53 9 = .ok (.iload_n 1, 1) := by decide +kernel
theorem dJ9_max_7cf53_10 : decode cJ9_max_7cf53 10 = .ok (.ireturn, 1) := by decide +kernel
theorem dL_at_0 : decode cL_at 0 = .ok (.iload_n 1, 1) := by decide +kernel
theorem dL_at_1 : decode cL_at 1 = .ok (.aload_n 0, 1) := by decide +kernel
theorem dL_at_2 : decode cL_at 2 = .ok (.arraylength, 1) := by decide +kernel
theorem dL_at_3 : decode cL_at 3 = .ok (.if_icmp .ge 9, 3) := by decide +kernel
theorem dL_at_6 : decode cL_at 6 = .ok (.aload_n 0, 1) := by decide +kernel
theorem dL_at_7 : decode cL_at 7 = .ok (.iload_n 1, 1) := by decide +kernel
theorem dL_at_8 : decode cL_at 8 = .ok (.iaload, 1) := by decide +kernel
theorem dL_at_9 : decode cL_at 9 = .ok (.goto 12, 3) := by decide +kernel
theorem dL_at_12 : decode cL_at 12 = .ok (.ldc 7, 2) := by decide +kernel
theorem dL_at_14 : decode cL_at 14 = .ok (.iload_n 1, 1) := by decide +kernel
theorem dL_at_15 : decode cL_at 15 = .ok (.iconst 1, 1) := by decide +kernel
theorem dL_at_16 : decode cL_at 16 = .ok (.iadd, 1) := by decide +kernel
theorem dL_at_17 : decode cL_at 17 = .ok (.imul, 1) := by decide +kernel
theorem dL_at_18 : decode cL_at 18 = .ok (.ldc 8, 2) := by decide +kernel
theorem dL_at_20 : decode cL_at 20 = .ok (.iadd, 1) := by decide +kernel
theorem dL_at_21 : decode cL_at 21 = .ok (.ireturn, 1) := by decide +kernel
theorem dL_low_0 : decode cL_low 0 = .ok (.iload_n 0, 1) := by decide +kernel
theorem dL_low_1 : decode cL_low 1 = .ok (.ldc 9, 2) := by decide +kernel
theorem dL_low_3 : decode cL_low 3 = .ok (.iand, 1) := by decide +kernel
theorem dL_low_4 : decode cL_low 4 = .ok (.iload_n 1, 1) := by decide +kernel
theorem dL_low_5 : decode cL_low 5 = .ok (.irem, 1) := by decide +kernel
theorem dL_low_6 : decode cL_low 6 = .ok (.ireturn, 1) := by decide +kernel
theorem dL_type_0 : decode cL_type 0 = .ok (.aload_n 0, 1) := by decide +kernel
theorem dL_type_1 : decode cL_type 1 = .ok (.iload_n 1, 1) := by decide +kernel
theorem dL_type_2 : decode cL_type 2 = .ok (.iload_n 2, 1) := by decide +kernel
theorem dL_type_3 : decode cL_type 3 = .ok (.iload_n 3, 1) := by decide +kernel
theorem dL_type_4 : decode cL_type 4 = .ok (.iload 4, 2) := by decide +kernel
theorem dL_type_6 : decode cL_type 6 = .ok (.invokevirtual 10, 3) := by decide +kernel
theorem dL_type_9 : decode cL_type 9 = .ok (.ireturn, 1) := by decide +kernel
theorem dL_type_10 : decode cL_type 10 = .ok (.astore 5, 2) := by decide +kernel
theorem dL_type_12 : decode cL_type 12 = .ok (.ldc 18, 2) := by decide +kernel
theorem dL_type_14 : decode cL_type 14 = .ok (.ireturn, 1) := by decide +kernel
theorem dL_type_15 : decode cL_type 15 = .ok (.astore 5, 2) := by decide +kernel
theorem dL_type_17 : decode cL_type 17 = .ok (.ldc 21, 2) := by decide +kernel
theorem dL_type_19 : decode cL_type 19 = .ok (.ireturn, 1) := by decide +kernel
theorem dL_type_20 : decode cL_type 20 = .ok (.astore 5, 2) := by decide +kernel
theorem dL_type_22 : decode cL_type 22 = .ok (.ldc 24, 2) := by decide +kernel
theorem dL_type_24 : decode cL_type 24 = .ok (.ireturn, 1) := by decide +kernel
theorem dL_tie_0 : decode cL_tie 0 = .ok (.aload_n 0, 1) := by decide +kernel
theorem dL_tie_1 : decode cL_tie 1 = .ok (.iload_n 1, 1) := by decide +kernel
theorem dL_tie_2 : decode cL_tie 2 = .ok (.iload_n 2, 1) := by decide +kernel
theorem dL_tie_3 : decode cL_tie 3 = .ok (.iload_n 3, 1) := by decide +kernel
theorem dL_tie_4 : decode cL_tie 4 = .ok (.iload 4, 2) := by decide +kernel
theorem dL_tie_6 : decode cL_tie 6 = .ok (.invokevirtual 25, 3) := by decide +kernel
theorem dL_tie_9 : decode cL_tie 9 = .ok (.iconst 0, 1) := by decide +kernel
theorem dL_tie_10 : decode cL_tie 10 = .ok (.ireturn, 1) := by decide +kernel
theorem dL_tie_11 : decode cL_tie 11 = .ok (.astore 5, 2) := by decide +kernel
theorem dL_tie_13 : decode cL_tie 13 = .ok (.ldc 18, 2) := by decide +kernel
theorem dL_tie_15 : decode cL_tie 15 = .ok (.ireturn, 1) := by decide +kernel
theorem dL_tie_16 : decode cL_tie 16 = .ok (.astore 5, 2) := by decide +kernel
theorem dL_tie_18 : decode cL_tie 18 = .ok (.ldc 21, 2) := by decide +kernel
theorem dL_tie_20 : decode cL_tie 20 = .ok (.ireturn, 1) := by decide +kernel
theorem dL_tie_21 : decode cL_tie 21 = .ok (.astore 5, 2) := by decide +kernel
theorem dL_tie_23 : decode cL_tie 23 = .ok (.ldc 24, 2) := by decide +kernel
theorem dL_tie_25 : decode cL_tie 25 = .ok (.ireturn, 1) := by decide +kernel
theorem dL_open_0 : decode cL_open 0 = .ok (.aload_n 0, 1) := by decide +kernel
theorem dL_open_1 : decode cL_open 1 = .ok (.iload_n 1, 1) := by decide +kernel
theorem dL_open_2 : decode cL_open 2 = .ok (.iload_n 2, 1) := by decide +kernel
theorem dL_open_3 : decode cL_open 3 = .ok (.iload_n 3, 1) := by decide +kernel
theorem dL_open_4 : decode cL_open 4 = .ok (.invokevirtual 29, 3) := by decide +kernel
theorem dL_open_7 : decode cL_open 7 = .ok (.iconst 0, 1) := by decide +kernel
theorem dL_open_8 : decode cL_open 8 = .ok (.ireturn, 1) := by decide +kernel
theorem dL_open_9 : decode cL_open 9 = .ok (.astore 4, 2) := by decide +kernel
theorem dL_open_11 : decode cL_open 11 = .ok (.ldc 18, 2) := by decide +kernel
theorem dL_open_13 : decode cL_open 13 = .ok (.ireturn, 1) := by decide +kernel
theorem dL_open_14 : decode cL_open 14 = .ok (.astore 4, 2) := by decide +kernel
theorem dL_open_16 : decode cL_open 16 = .ok (.ldc 21, 2) := by decide +kernel
theorem dL_open_18 : decode cL_open 18 = .ok (.ireturn, 1) := by decide +kernel
theorem dL_argument_0 : decode cL_argument 0 = .ok (.aload_n 0, 1) := by decide +kernel
theorem dL_argument_1 : decode cL_argument 1 = .ok (.iload_n 1, 1) := by decide +kernel
theorem dL_argument_2 : decode cL_argument 2 = .ok (.iload_n 2, 1) := by decide +kernel
theorem dL_argument_3 : decode cL_argument 3 = .ok (.invokevirtual 33, 3) := by decide +kernel
theorem dL_argument_6 : decode cL_argument 6 = .ok (.ireturn, 1) := by decide +kernel
theorem dL_argument_7 : decode cL_argument 7 = .ok (.astore_n 3, 1) := by decide +kernel
theorem dL_argument_8 : decode cL_argument 8 = .ok (.ldc 18, 2) := by decide +kernel
theorem dL_argument_10 : decode cL_argument 10 = .ok (.ireturn, 1) := by decide +kernel
theorem dL_argument_11 : decode cL_argument 11 = .ok (.astore_n 3, 1) := by decide +kernel
theorem dL_argument_12 : decode cL_argument 12 = .ok (.ldc 21, 2) := by decide +kernel
theorem dL_argument_14 : decode cL_argument 14 = .ok (.ireturn, 1) := by decide +kernel
theorem dL_argument_15 : decode cL_argument 15 = .ok (.astore_n 3, 1) := by decide +kernel
theorem dL_argument_16 : decode cL_argument 16 = .ok (.ldc 24, 2) := by decide +kernel
theorem dL_argument_18 : decode cL_argument 18 = .ok (.ireturn, 1) := by decide +kernel
theorem dL_condition_0 : decode cL_condition 0 = .ok (.aload_n 0, 1) := by decide +kernel
theorem dL_condition_1 : decode cL_condition 1 = .ok (.iload_n 1, 1) := by decide +kernel
theorem dL_condition_2 : decode cL_condition 2 = .ok (.iload_n 2, 1) := by decide +kernel
theorem dL_condition_3 : decode cL_condition 3 = .ok (.iload_n 3, 1) := by decide +kernel
theorem dL_condition_4 : decode cL_condition 4 = .ok (.iload 4, 2) := by decide +kernel
theorem dL_condition_6 : decode cL_condition 6 = .ok (.invokevirtual 37, 3) := by decide +kernel
theorem dL_condition_9 : decode cL_condition 9 = .ok (.ireturn, 1) := by decide +kernel
theorem dL_condition_10 : decode cL_condition 10 = .ok (.astore 5, 2) := by decide +kernel
theorem dL_condition_12 : decode cL_condition 12 = .ok (.ldc 18, 2) := by decide +kernel
theorem dL_condition_14 : decode cL_condition 14 = .ok (.ireturn, 1) := by decide +kernel
theorem dL_condition_15 : decode cL_condition 15 = .ok (.astore 5, 2) := by decide +kernel
theorem dL_condition_17 : decode cL_condition 17 = .ok (.ldc 21, 2) := by decide +kernel
theorem dL_condition_19 : decode cL_condition 19 = .ok (.ireturn, 1) := by decide +kernel
theorem dL_condition_20 : decode cL_condition 20 = .ok (.astore 5, 2) := by decide +kernel
theorem dL_condition_22 : decode cL_condition 22 = .ok (.ldc 24, 2) := by decide +kernel
theorem dL_condition_24 : decode cL_condition 24 = .ok (.ireturn, 1) := by decide +kernel
theorem dL_put_0 : decode cL_put 0 = .ok (.aload_n 0, 1) := by decide +kernel
theorem dL_put_1 : decode cL_put 1 = .ok (.iload_n 1, 1) := by decide +kernel
theorem dL_put_2 : decode cL_put 2 = .ok (.iload_n 2, 1) := by decide +kernel
theorem dL_put_3 : decode cL_put 3 = .ok (.iload_n 3, 1) := by decide +kernel
theorem dL_put_4 : decode cL_put 4 = .ok (.invokevirtual 41, 3) := by decide +kernel
theorem dL_put_7 : decode cL_put 7 = .ok (.ireturn, 1) := by decide +kernel
theorem dL_put_8 : decode cL_put 8 = .ok (.astore 4, 2) := by decide +kernel
theorem dL_put_10 : decode cL_put 10 = .ok (.ldc 18, 2) := by decide +kernel
theorem dL_put_12 : decode cL_put 12 = .ok (.ireturn, 1) := by decide +kernel
theorem dL_put_13 : decode cL_put 13 = .ok (.astore 4, 2) := by decide +kernel
theorem dL_put_15 : decode cL_put 15 = .ok (.ldc 21, 2) := by decide +kernel
theorem dL_put_17 : decode cL_put 17 = .ok (.ireturn, 1) := by decide +kernel
theorem dL_area_0 : decode cL_area 0 = .ok (.aload_n 0, 1) := by decide +kernel
theorem dL_area_1 : decode cL_area 1 = .ok (.iload_n 1, 1) := by decide +kernel
theorem dL_area_2 : decode cL_area 2 = .ok (.iload_n 2, 1) := by decide +kernel
theorem dL_area_3 : decode cL_area 3 = .ok (.invokevirtual 45, 3) := by decide +kernel
theorem dL_area_6 : decode cL_area 6 = .ok (.ireturn, 1) := by decide +kernel
theorem dL_area_7 : decode cL_area 7 = .ok (.astore_n 3, 1) := by decide +kernel
theorem dL_area_8 : decode cL_area 8 = .ok (.ldc 18, 2) := by decide +kernel
theorem dL_area_10 : decode cL_area 10 = .ok (.ireturn, 1) := by decide +kernel
theorem dL_get_0 : decode cL_get 0 = .ok (.aload_n 0, 1) := by decide +kernel
theorem dL_get_1 : decode cL_get 1 = .ok (.iload_n 1, 1) := by decide +kernel
theorem dL_get_2 : decode cL_get 2 = .ok (.iload_n 2, 1) := by decide +kernel
theorem dL_get_3 : decode cL_get 3 = .ok (.iload_n 3, 1) := by decide +kernel
theorem dL_get_4 : decode cL_get 4 = .ok (.invokevirtual 48, 3) := by decide +kernel
theorem dL_get_7 : decode cL_get 7 = .ok (.ireturn, 1) := by decide +kernel
theorem dL_get_8 : decode cL_get 8 = .ok (.astore 4, 2) := by decide +kernel
theorem dL_get_10 : decode cL_get 10 = .ok (.ldc 18, 2) := by decide +kernel
theorem dL_get_12 : decode cL_get 12 = .ok (.ireturn, 1) := by decide +kernel
theorem dL_get_13 : decode cL_get 13 = .ok (.astore 4, 2) := by decide +kernel
theorem dL_get_15 : decode cL_get 15 = .ok (.ldc 21, 2) := by decide +kernel
theorem dL_get_17 : decode cL_get 17 = .ok (.ireturn, 1) := by decide +kernel
theorem dL_insert_0 : decode cL_insert 0 = .ok (.aload_n 0, 1) := by decide +kernel
theorem dL_insert_1 : decode cL_insert 1 = .ok (.iload_n 1, 1) := by decide +kernel
theorem dL_insert_2 : decode cL_insert 2 = .ok (.invokevirtual 52, 3) := by decide +kernel
theorem dL_insert_5 : decode cL_insert 5 = .ok (.ireturn, 1) := by decide +kernel
theorem dL_insert_6 : decode cL_insert 6 = .ok (.astore_n 2, 1) := by decide +kernel
theorem dL_insert_7 : decode cL_insert 7 = .ok (.ldc 18, 2) := by decide +kernel
