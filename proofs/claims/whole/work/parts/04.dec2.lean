theorem dX6_tie_137 : decode cX6_tie 137 = .ok (.iload_n 1, 1) := by decide +kernel
theorem dX6_tie_138 : decode cX6_tie 138 = .ok (.iload 4, 2) := by decide +kernel
theorem dX6_tie_140 : decode cX6_tie 140 = .ok (.iastore, 1) := by decide +kernel
theorem dX6_tie_141 : decode cX6_tie 141 = .ok (.return_, 1) := by decide +kernel
theorem dX6_opens_0 : decode cX6_opens 0 = .ok (.aload_n 0, 1) := by decide +kernel
theorem dX6_opens_1 : decode cX6_opens 1 = .ok (.getfield 53, 3) := by decide +kernel
theorem dX6_opens_4 : decode cX6_opens 4 = .ok (.iload_n 1, 1) := by decide +kernel
theorem dX6_opens_5 : decode cX6_opens 5 = .ok (.iload_n 2, 1) := by decide +kernel
theorem dX6_opens_6 : decode cX6_opens 6 = .ok (.iastore, 1) := by decide +kernel
theorem dX6_opens_7 : decode cX6_opens 7 = .ok (.aload_n 0, 1) := by decide +kernel
theorem dX6_opens_8 : decode cX6_opens 8 = .ok (.getfield 56, 3) := by decide +kernel
theorem dX6_opens_11 : decode cX6_opens 11 = .ok (.iload_n 1, 1) := by decide +kernel
theorem dX6_opens_12 : decode cX6_opens 12 = .ok (.iload_n 3, 1) := by decide +kernel
theorem dX6_opens_13 : decode cX6_opens 13 = .ok (.iastore, 1) := by decide +kernel
theorem dX6_opens_14 : decode cX6_opens 14 = .ok (.aload_n 0, 1) := by decide +kernel
theorem dX6_opens_15 : decode cX6_opens 15 = .ok (.getfield 59, 3) := by decide +kernel
theorem dX6_opens_18 : decode cX6_opens 18 = .ok (.iload_n 1, 1) := by decide +kernel
theorem dX6_opens_19 : decode cX6_opens 19 = .ok (.iconst 2, 1) := by decide +kernel
theorem dX6_opens_20 : decode cX6_opens 20 = .ok (.iastore, 1) := by decide +kernel
theorem dX6_opens_21 : decode cX6_opens 21 = .ok (.aload_n 0, 1) := by decide +kernel
theorem dX6_opens_22 : decode cX6_opens 22 = .ok (.getfield 62, 3) := by decide +kernel
theorem dX6_opens_25 : decode cX6_opens 25 = .ok (.iload_n 1, 1) := by decide +kernel
theorem dX6_opens_26 : decode cX6_opens 26 = .ok (.iconst (-1), 1) := by decide +kernel
theorem dX6_opens_27 : decode cX6_opens 27 = .ok (.iastore, 1) := by decide +kernel
theorem dX6_opens_28 : decode cX6_opens 28 = .ok (.aload_n 0, 1) := by decide +kernel
theorem dX6_opens_29 : decode cX6_opens 29 = .ok (.getfield 65, 3) := by decide +kernel
theorem dX6_opens_32 : decode cX6_opens 32 = .ok (.iload_n 1, 1) := by decide +kernel
theorem dX6_opens_33 : decode cX6_opens 33 = .ok (.iconst (-1), 1) := by decide +kernel
theorem dX6_opens_34 : decode cX6_opens 34 = .ok (.iastore, 1) := by decide +kernel
theorem dX6_opens_35 : decode cX6_opens 35 = .ok (.aload_n 0, 1) := by decide +kernel
theorem dX6_opens_36 : decode cX6_opens 36 = .ok (.getfield 68, 3) := by decide +kernel
theorem dX6_opens_39 : decode cX6_opens 39 = .ok (.iload_n 1, 1) := by decide +kernel
theorem dX6_opens_40 : decode cX6_opens 40 = .ok (.iconst 0, 1) := by decide +kernel
theorem dX6_opens_41 : decode cX6_opens 41 = .ok (.iastore, 1) := by decide +kernel
theorem dX6_opens_42 : decode cX6_opens 42 = .ok (.return_, 1) := by decide +kernel
theorem dX6_open_0 : decode cX6_open 0 = .ok (.aload_n 0, 1) := by decide +kernel
theorem dX6_open_1 : decode cX6_open 1 = .ok (.iload_n 1, 1) := by decide +kernel
theorem dX6_open_2 : decode cX6_open 2 = .ok (.invokestatic 136, 3) := by decide +kernel
theorem dX6_open_5 : decode cX6_open 5 = .ok (.ifCond .eq 14, 3) := by decide +kernel
theorem dX6_open_8 : decode cX6_open 8 = .ok (.iload_n 2, 1) := by decide +kernel
theorem dX6_open_9 : decode cX6_open 9 = .ok (.invokestatic 122, 3) := by decide +kernel
theorem dX6_open_12 : decode cX6_open 12 = .ok (.ifCond .eq 7, 3) := by decide +kernel
theorem dX6_open_15 : decode cX6_open 15 = .ok (.iconst 1, 1) := by decide +kernel
theorem dX6_open_16 : decode cX6_open 16 = .ok (.goto 4, 3) := by decide +kernel
theorem dX6_open_19 : decode cX6_open 19 = .ok (.iconst 0, 1) := by decide +kernel
theorem dX6_open_20 : decode cX6_open 20 = .ok (.iload_n 3, 1) := by decide +kernel
theorem dX6_open_21 : decode cX6_open 21 = .ok (.iconst 0, 1) := by decide +kernel
theorem dX6_open_22 : decode cX6_open 22 = .ok (.sipush 4095, 3) := by decide +kernel
theorem dX6_open_25 : decode cX6_open 25 = .ok (.invokestatic 115, 3) := by decide +kernel
theorem dX6_open_28 : decode cX6_open 28 = .ok (.iconst 1, 1) := by decide +kernel
theorem dX6_open_29 : decode cX6_open 29 = .ok (.invokevirtual 132, 3) := by decide +kernel
theorem dX6_open_32 : decode cX6_open 32 = .ok (.ifCond .eq 10, 3) := by decide +kernel
theorem dX6_open_35 : decode cX6_open 35 = .ok (.aload_n 0, 1) := by decide +kernel
theorem dX6_open_36 : decode cX6_open 36 = .ok (.iload_n 1, 1) := by decide +kernel
theorem dX6_open_37 : decode cX6_open 37 = .ok (.iload_n 2, 1) := by decide +kernel
theorem dX6_open_38 : decode cX6_open 38 = .ok (.iload_n 3, 1) := by decide +kernel
theorem dX6_open_39 : decode cX6_open 39 = .ok (.invokevirtual 107, 3) := by decide +kernel
theorem dX6_open_42 : decode cX6_open 42 = .ok (.return_, 1) := by decide +kernel
theorem dX6_sees_0 : decode cX6_sees 0 = .ok (.aload_n 0, 1) := by decide +kernel
theorem dX6_sees_1 : decode cX6_sees 1 = .ok (.getfield 7, 3) := by decide +kernel
theorem dX6_sees_4 : decode cX6_sees 4 = .ok (.iload_n 2, 1) := by decide +kernel
theorem dX6_sees_5 : decode cX6_sees 5 = .ok (.iaload, 1) := by decide +kernel
theorem dX6_sees_6 : decode cX6_sees 6 = .ok (.aload_n 0, 1) := by decide +kernel
theorem dX6_sees_7 : decode cX6_sees 7 = .ok (.getfield 53, 3) := by decide +kernel
theorem dX6_sees_10 : decode cX6_sees 10 = .ok (.iload_n 1, 1) := by decide +kernel
theorem dX6_sees_11 : decode cX6_sees 11 = .ok (.iaload, 1) := by decide +kernel
theorem dX6_sees_12 : decode cX6_sees 12 = .ok (.if_icmp .ne 7, 3) := by decide +kernel
theorem dX6_sees_15 : decode cX6_sees 15 = .ok (.iconst 1, 1) := by decide +kernel
theorem dX6_sees_16 : decode cX6_sees 16 = .ok (.goto 4, 3) := by decide +kernel
theorem dX6_sees_19 : decode cX6_sees 19 = .ok (.iconst 0, 1) := by decide +kernel
theorem dX6_sees_20 : decode cX6_sees 20 = .ok (.istore_n 3, 1) := by decide +kernel
theorem dX6_sees_21 : decode cX6_sees 21 = .ok (.iload_n 2, 1) := by decide +kernel
theorem dX6_sees_22 : decode cX6_sees 22 = .ok (.istore 4, 2) := by decide +kernel
theorem dX6_sees_24 : decode cX6_sees 24 = .ok (.iload 4, 2) := by decide +kernel
theorem dX6_sees_26 : decode cX6_sees 26 = .ok (.iconst (-1), 1) := by decide +kernel
theorem dX6_sees_27 : decode cX6_sees 27 = .ok (.if_icmp .eq 40, 3) := by decide +kernel
theorem dX6_sees_30 : decode cX6_sees 30 = .ok (.iload_n 3, 1) := by decide +kernel
theorem dX6_sees_31 : decode cX6_sees 31 = .ok (.ifCond .eq 22, 3) := by decide +kernel
theorem dX6_sees_34 : decode cX6_sees 34 = .ok (.aload_n 0, 1) := by decide +kernel
theorem dX6_sees_35 : decode cX6_sees 35 = .ok (.getfield 56, 3) := by decide +kernel
theorem dX6_sees_38 : decode cX6_sees 38 = .ok (.iload_n 1, 1) := by decide +kernel
theorem dX6_sees_39 : decode cX6_sees 39 = .ok (.iaload, 1) := by decide +kernel
theorem dX6_sees_40 : decode cX6_sees 40 = .ok (.iload 4, 2) := by decide +kernel
theorem dX6_sees_42 : decode cX6_sees 42 = .ok (.ishr, 1) := by decide +kernel
theorem dX6_sees_43 : decode cX6_sees 43 = .ok (.iconst 1, 1) := by decide +kernel
theorem dX6_sees_44 : decode cX6_sees 44 = .ok (.iand, 1) := by decide +kernel
theorem dX6_sees_45 : decode cX6_sees 45 = .ok (.iconst 1, 1) := by decide +kernel
theorem dX6_sees_46 : decode cX6_sees 46 = .ok (.if_icmp .ne 7, 3) := by decide +kernel
theorem dX6_sees_49 : decode cX6_sees 49 = .ok (.iconst 1, 1) := by decide +kernel
theorem dX6_sees_50 : decode cX6_sees 50 = .ok (.goto 4, 3) := by decide +kernel
theorem dX6_sees_53 : decode cX6_sees 53 = .ok (.iconst 0, 1) := by decide +kernel
theorem dX6_sees_54 : decode cX6_sees 54 = .ok (.istore_n 3, 1) := by decide +kernel
theorem dX6_sees_55 : decode cX6_sees 55 = .ok (.aload_n 0, 1) := by decide +kernel
theorem dX6_sees_56 : decode cX6_sees 56 = .ok (.getfield 13, 3) := by decide +kernel
theorem dX6_sees_59 : decode cX6_sees 59 = .ok (.iload 4, 2) := by decide +kernel
theorem dX6_sees_61 : decode cX6_sees 61 = .ok (.iaload, 1) := by decide +kernel
theorem dX6_sees_62 : decode cX6_sees 62 = .ok (.istore 4, 2) := by decide +kernel
theorem dX6_sees_64 : decode cX6_sees 64 = .ok (.goto (-40), 3) := by decide +kernel
theorem dX6_sees_67 : decode cX6_sees 67 = .ok (.iload_n 3, 1) := by decide +kernel
theorem dX6_sees_68 : decode cX6_sees 68 = .ok (.ireturn, 1) := by decide +kernel
theorem dX6_argument_0 : decode cX6_argument 0 = .ok (.aload_n 0, 1) := by decide +kernel
theorem dX6_argument_1 : decode cX6_argument 1 = .ok (.aload_n 0, 1) := by decide +kernel
theorem dX6_argument_2 : decode cX6_argument 2 = .ok (.iload_n 1, 1) := by decide +kernel
theorem dX6_argument_3 : decode cX6_argument 3 = .ok (.invokevirtual 126, 3) := by decide +kernel
theorem dX6_argument_6 : decode cX6_argument 6 = .ok (.iload_n 2, 1) := by decide +kernel
theorem dX6_argument_7 : decode cX6_argument 7 = .ok (.iconst 0, 1) := by decide +kernel
theorem dX6_argument_8 : decode cX6_argument 8 = .ok (.bipush 63, 2) := by decide +kernel
theorem dX6_argument_10 : decode cX6_argument 10 = .ok (.invokestatic 115, 3) := by decide +kernel
theorem dX6_argument_13 : decode cX6_argument 13 = .ok (.aload_n 0, 1) := by decide +kernel
theorem dX6_argument_14 : decode cX6_argument 14 = .ok (.getfield 139, 3) := by decide +kernel
theorem dX6_argument_17 : decode cX6_argument 17 = .ok (.iconst 4, 1) := by decide +kernel
theorem dX6_argument_18 : decode cX6_argument 18 = .ok (.if_icmp .ge 7, 3) := by decide +kernel
theorem dX6_argument_21 : decode cX6_argument 21 = .ok (.iconst 1, 1) := by decide +kernel
theorem dX6_argument_22 : decode cX6_argument 22 = .ok (.goto 4, 3) := by decide +kernel
theorem dX6_argument_25 : decode cX6_argument 25 = .ok (.iconst 0, 1) := by decide +kernel
theorem dX6_argument_26 : decode cX6_argument 26 = .ok (.invokevirtual 132, 3) := by decide +kernel
theorem dX6_argument_29 : decode cX6_argument 29 = .ok (.ifCond .ne 5, 3) := by decide +kernel
theorem dX6_argument_32 : decode cX6_argument 32 = .ok (.iconst 0, 1) := by decide +kernel
theorem dX6_argument_33 : decode cX6_argument 33 = .ok (.ireturn, 1) := by decide +kernel
theorem dX6_argument_34 : decode cX6_argument 34 = .ok (.aload_n 0, 1) := by decide +kernel
theorem dX6_argument_35 : decode cX6_argument 35 = .ok (.getfield 77, 3) := by decide +kernel
theorem dX6_argument_38 : decode cX6_argument 38 = .ok (.aload_n 0, 1) := by decide +kernel
theorem dX6_argument_39 : decode cX6_argument 39 = .ok (.getfield 139, 3) := by decide +kernel
theorem dX6_argument_42 : decode cX6_argument 42 = .ok (.iload_n 1, 1) := by decide +kernel
theorem dX6_argument_43 : decode cX6_argument 43 = .ok (.iastore, 1) := by decide +kernel
theorem dX6_argument_44 : decode cX6_argument 44 = .ok (.aload_n 0, 1) := by decide +kernel
theorem dX6_argument_45 : decode cX6_argument 45 = .ok (.getfield 80, 3) := by decide +kernel
theorem dX6_argument_48 : decode cX6_argument 48 = .ok (.aload_n 0, 1) := by decide +kernel
theorem dX6_argument_49 : decode cX6_argument 49 = .ok (.getfield 139, 3) := by decide +kernel
theorem dX6_argument_52 : decode cX6_argument 52 = .ok (.iload_n 2, 1) := by decide +kernel
theorem dX6_argument_53 : decode cX6_argument 53 = .ok (.iastore, 1) := by decide +kernel
theorem dX6_argument_54 : decode cX6_argument 54 = .ok (.aload_n 0, 1) := by decide +kernel
theorem dX6_argument_55 : decode cX6_argument 55 = .ok (.getfield 83, 3) := by decide +kernel
theorem dX6_argument_58 : decode cX6_argument 58 = .ok (.aload_n 0, 1) := by decide +kernel
theorem dX6_argument_59 : decode cX6_argument 59 = .ok (.getfield 139, 3) := by decide +kernel
theorem dX6_argument_62 : decode cX6_argument 62 = .ok (.iconst 0, 1) := by decide +kernel
theorem dX6_argument_63 : decode cX6_argument 63 = .ok (.iastore, 1) := by decide +kernel
theorem dX6_argument_64 : decode cX6_argument 64 = .ok (.aload_n 0, 1) := by decide +kernel
theorem dX6_argument_65 : decode cX6_argument 65 = .ok (.dup, 1) := by decide +kernel
theorem dX6_argument_66 : decode cX6_argument 66 = .ok (.getfield 139, 3) := by decide +kernel
theorem dX6_argument_69 : decode cX6_argument 69 = .ok (.iconst 1, 1) := by decide +kernel
theorem dX6_argument_70 : decode cX6_argument 70 = .ok (.iadd, 1) := by decide +kernel
theorem dX6_argument_71 : decode cX6_argument 71 = .ok (.putfield 139, 3) := by decide +kernel
theorem dX6_argument_74 : decode cX6_argument 74 = .ok (.aload_n 0, 1) := by decide +kernel
theorem dX6_argument_75 : decode cX6_argument 75 = .ok (.getfield 139, 3) := by decide +kernel
theorem dX6_argument_78 : decode cX6_argument 78 = .ok (.ireturn, 1) := by decide +kernel
theorem dX6_condition_0 : decode cX6_condition 0 = .ok (.iload_n 3, 1) := by decide +kernel
theorem dX6_condition_1 : decode cX6_condition 1 = .ok (.iconst 0, 1) := by decide +kernel
theorem dX6_condition_2 : decode cX6_condition 2 = .ok (.iconst 5, 1) := by decide +kernel
theorem dX6_condition_3 : decode cX6_condition 3 = .ok (.invokestatic 115, 3) := by decide +kernel
theorem dX6_condition_6 : decode cX6_condition 6 = .ok (.ifCond .eq 15, 3) := by decide +kernel
theorem dX6_condition_9 : decode cX6_condition 9 = .ok (.iload 4, 2) := by decide +kernel
theorem dX6_condition_11 : decode cX6_condition 11 = .ok (.invokestatic 142, 3) := by decide +kernel
theorem dX6_condition_14 : decode cX6_condition 14 = .ok (.ifCond .eq 7, 3) := by decide +kernel
theorem dX6_condition_17 : decode cX6_condition 17 = .ok (.iconst 1, 1) := by decide +kernel
theorem dX6_condition_18 : decode cX6_condition 18 = .ok (.goto 4, 3) := by decide +kernel
theorem dX6_condition_21 : decode cX6_condition 21 = .ok (.iconst 0, 1) := by decide +kernel
theorem dX6_condition_22 : decode cX6_condition 22 = .ok (.istore 5, 2) := by decide +kernel
theorem dX6_condition_24 : decode cX6_condition 24 = .ok (.aload_n 0, 1) := by decide +kernel
theorem dX6_condition_25 : decode cX6_condition 25 = .ok (.iload_n 2, 1) := by decide +kernel
theorem dX6_condition_26 : decode cX6_condition 26 = .ok (.iconst 0, 1) := by decide +kernel
theorem dX6_condition_27 : decode cX6_condition 27 = .ok (.iconst 2, 1) := by decide +kernel
theorem dX6_condition_28 : decode cX6_condition 28 = .ok (.invokestatic 115, 3) := by decide +kernel
theorem dX6_condition_31 : decode cX6_condition 31 = .ok (.iload 5, 2) := by decide +kernel
theorem dX6_condition_33 : decode cX6_condition 33 = .ok (.aload_n 0, 1) := by decide +kernel
theorem dX6_condition_34 : decode cX6_condition 34 = .ok (.getfield 139, 3) := by decide +kernel
theorem dX6_condition_37 : decode cX6_condition 37 = .ok (.ifCond .le 33, 3) := by decide +kernel
theorem dX6_condition_40 : decode cX6_condition 40 = .ok (.aload_n 0, 1) := by decide +kernel
theorem dX6_condition_41 : decode cX6_condition 41 = .ok (.getfield 83, 3) := by decide +kernel
theorem dX6_condition_44 : decode cX6_condition 44 = .ok (.aload_n 0, 1) := by decide +kernel
theorem dX6_condition_45 : decode cX6_condition 45 = .ok (.getfield 139, 3) := by decide +kernel
theorem dX6_condition_48 : decode cX6_condition 48 = .ok (.ifCond .le 12, 3) := by decide +kernel
theorem dX6_condition_51 : decode cX6_condition 51 = .ok (.aload_n 0, 1) := by decide +kernel
theorem dX6_condition_52 : decode cX6_condition 52 = .ok (.getfield 139, 3) := by decide +kernel
theorem dX6_condition_55 : decode cX6_condition 55 = .ok (.iconst 1, 1) := by decide +kernel
theorem dX6_condition_56 : decode cX6_condition 56 = .ok (.isub, 1) := by decide +kernel
theorem dX6_condition_57 : decode cX6_condition 57 = .ok (.goto 4, 3) := by decide +kernel
theorem dX6_condition_60 : decode cX6_condition 60 = .ok (.iconst 0, 1) := by decide +kernel
theorem dX6_condition_61 : decode cX6_condition 61 = .ok (.iaload, 1) := by decide +kernel
theorem dX6_condition_62 : decode cX6_condition 62 = .ok (.iconst 3, 1) := by decide +kernel
theorem dX6_condition_63 : decode cX6_condition 63 = .ok (.if_icmp .ge 7, 3) := by decide +kernel
theorem dX6_condition_66 : decode cX6_condition 66 = .ok (.iconst 1, 1) := by decide +kernel
theorem dX6_condition_67 : decode cX6_condition 67 = .ok (.goto 4, 3) := by decide +kernel
theorem dX6_condition_70 : decode cX6_condition 70 = .ok (.iconst 0, 1) := by decide +kernel
theorem dX6_condition_71 : decode cX6_condition 71 = .ok (.invokevirtual 132, 3) := by decide +kernel
theorem dX6_condition_74 : decode cX6_condition 74 = .ok (.ifCond .ne 5, 3) := by decide +kernel
theorem dX6_condition_77 : decode cX6_condition 77 = .ok (.iconst 0, 1) := by decide +kernel
theorem dX6_condition_78 : decode cX6_condition 78 = .ok (.ireturn, 1) := by decide +kernel
theorem dX6_condition_79 : decode cX6_condition 79 = .ok (.iconst 3, 1) := by decide +kernel
theorem dX6_condition_80 : decode cX6_condition 80 = .ok (.aload_n 0, 1) := by decide +kernel
theorem dX6_condition_81 : decode cX6_condition 81 = .ok (.getfield 139, 3) := by decide +kernel
theorem dX6_condition_84 : decode cX6_condition 84 = .ok (.iconst 1, 1) := by decide +kernel
theorem dX6_condition_85 : decode cX6_condition 85 = .ok (.isub, 1) := by decide +kernel
theorem dX6_condition_86 : decode cX6_condition 86 = .ok (.imul, 1) := by decide +kernel
theorem dX6_condition_87 : decode cX6_condition 87 = .ok (.aload_n 0, 1) := by decide +kernel
theorem dX6_condition_88 : decode cX6_condition 88 = .ok (.getfield 83, 3) := by decide +kernel
theorem dX6_condition_91 : decode cX6_condition 91 = .ok (.aload_n 0, 1) := by decide +kernel
theorem dX6_condition_92 : decode cX6_condition 92 = .ok (.getfield 139, 3) := by decide +kernel
theorem dX6_condition_95 : decode cX6_condition 95 = .ok (.iconst 1, 1) := by decide +kernel
theorem dX6_condition_96 : decode cX6_condition 96 = .ok (.isub, 1) := by decide +kernel
theorem dX6_condition_97 : decode cX6_condition 97 = .ok (.iaload, 1) := by decide +kernel
theorem dX6_condition_98 : decode cX6_condition 98 = .ok (.iadd, 1) := by decide +kernel
theorem dX6_condition_99 : decode cX6_condition 99 = .ok (.istore 6, 2) := by decide +kernel
theorem dX6_condition_101 : decode cX6_condition 101 = .ok (.aload_n 0, 1) := by decide +kernel
theorem dX6_condition_102 : decode cX6_condition 102 = .ok (.getfield 86, 3) := by decide +kernel
theorem dX6_condition_105 : decode cX6_condition 105 = .ok (.iload 6, 2) := by decide +kernel
theorem dX6_condition_107 : decode cX6_condition 107 = .ok (.iload_n 1, 1) := by decide +kernel
theorem dX6_condition_108 : decode cX6_condition 108 = .ok (.bastore, 1) := by decide +kernel
theorem dX6_condition_109 : decode cX6_condition 109 = .ok (.aload_n 0, 1) := by decide +kernel
theorem dX6_condition_110 : decode cX6_condition 110 = .ok (.getfield 89, 3) := by decide +kernel
theorem dX6_condition_113 : decode cX6_condition 113 = .ok (.iload 6, 2) := by decide +kernel
theorem dX6_condition_115 : decode cX6_condition 115 = .ok (.iload_n 2, 1) := by decide +kernel
theorem dX6_condition_116 : decode cX6_condition 116 = .ok (.iastore, 1) := by decide +kernel
theorem dX6_condition_117 : decode cX6_condition 117 = .ok (.aload_n 0, 1) := by decide +kernel
theorem dX6_condition_118 : decode cX6_condition 118 = .ok (.getfield 92, 3) := by decide +kernel
theorem dX6_condition_121 : decode cX6_condition 121 = .ok (.iload 6, 2) := by decide +kernel
theorem dX6_condition_123 : decode cX6_condition 123 = .ok (.iload_n 3, 1) := by decide +kernel
theorem dX6_condition_124 : decode cX6_condition 124 = .ok (.iastore, 1) := by decide +kernel
theorem dX6_condition_125 : decode cX6_condition 125 = .ok (.aload_n 0, 1) := by decide +kernel
theorem dX6_condition_126 : decode cX6_condition 126 = .ok (.getfield 95, 3) := by decide +kernel
theorem dX6_condition_129 : decode cX6_condition 129 = .ok (.iload 6, 2) := by decide +kernel
theorem dX6_condition_131 : decode cX6_condition 131 = .ok (.iload 4, 2) := by decide +kernel
theorem dX6_condition_133 : decode cX6_condition 133 = .ok (.iastore, 1) := by decide +kernel
theorem dX6_condition_134 : decode cX6_condition 134 = .ok (.aload_n 0, 1) := by decide +kernel
theorem dX6_condition_135 : decode cX6_condition 135 = .ok (.getfield 83, 3) := by decide +kernel
theorem dX6_condition_138 : decode cX6_condition 138 = .ok (.aload_n 0, 1) := by decide +kernel
theorem dX6_condition_139 : decode cX6_condition 139 = .ok (.getfield 139, 3) := by decide +kernel
theorem dX6_condition_142 : decode cX6_condition 142 = .ok (.iconst 1, 1) := by decide +kernel
theorem dX6_condition_143 : decode cX6_condition 143 = .ok (.isub, 1) := by decide +kernel
theorem dX6_condition_144 : decode cX6_condition 144 = .ok (.dup2, 1) := by decide +kernel
theorem dX6_condition_145 : decode cX6_condition 145 = .ok (.iaload, 1) := by decide +kernel
theorem dX6_condition_146 : decode cX6_condition 146 = .ok (.iconst 1, 1) := by decide +kernel
theorem dX6_condition_147 : decode cX6_condition 147 = .ok (.iadd, 1) := by decide +kernel
theorem dX6_condition_148 : decode cX6_condition 148 = .ok (.iastore, 1) := by decide +kernel
theorem dX6_condition_149 : decode cX6_condition 149 = .ok (.aload_n 0, 1) := by decide +kernel
theorem dX6_condition_150 : decode cX6_condition 150 = .ok (.getfield 83, 3) := by decide +kernel
theorem dX6_condition_153 : decode cX6_condition 153 = .ok (.aload_n 0, 1) := by decide +kernel
theorem dX6_condition_154 : decode cX6_condition 154 = .ok (.getfield 139, 3) := by decide +kernel
theorem dX6_condition_157 : decode cX6_condition 157 = .ok (.iconst 1, 1) := by decide +kernel
theorem dX6_condition_158 : decode cX6_condition 158 = .ok (.isub, 1) := by decide +kernel
theorem dX6_condition_159 : decode cX6_condition 159 = .ok (.iaload, 1) := by decide +kernel
theorem dX6_condition_160 : decode cX6_condition 160 = .ok (.ireturn, 1) := by decide +kernel
theorem dX6_clears_0 : decode cX6_clears 0 = .ok (.aload_n 0, 1) := by decide +kernel
theorem dX6_clears_1 : decode cX6_clears 1 = .ok (.getfield 139, 3) := by decide +kernel
theorem dX6_clears_4 : decode cX6_clears 4 = .ok (.istore_n 1, 1) := by decide +kernel
theorem dX6_clears_5 : decode cX6_clears 5 = .ok (.aload_n 0, 1) := by decide +kernel
theorem dX6_clears_6 : decode cX6_clears 6 = .ok (.iconst 0, 1) := by decide +kernel
theorem dX6_clears_7 : decode cX6_clears 7 = .ok (.putfield 139, 3) := by decide +kernel
theorem dX6_clears_10 : decode cX6_clears 10 = .ok (.iload_n 1, 1) := by decide +kernel
theorem dX6_clears_11 : decode cX6_clears 11 = .ok (.ireturn, 1) := by decide +kernel
theorem dX6_clear_0 : decode cX6_clear 0 = .ok (.aload_n 0, 1) := by decide +kernel
theorem dX6_clear_1 : decode cX6_clear 1 = .ok (.aload_n 0, 1) := by decide +kernel
theorem dX6_clear_2 : decode cX6_clear 2 = .ok (.invokevirtual 145, 3) := by decide +kernel
theorem dX6_clear_5 : decode cX6_clear 5 = .ok (.invokevirtual 149, 3) := by decide +kernel
theorem dX6_clear_8 : decode cX6_clear 8 = .ok (.ireturn, 1) := by decide +kernel
theorem dX6_isSlot_0 : decode cX6_isSlot 0 = .ok (.iload_n 0, 1) := by decide +kernel
theorem dX6_isSlot_1 : decode cX6_isSlot 1 = .ok (.iconst 0, 1) := by decide +kernel
theorem dX6_isSlot_2 : decode cX6_isSlot 2 = .ok (.iconst 3, 1) := by decide +kernel
theorem dX6_isSlot_3 : decode cX6_isSlot 3 = .ok (.invokestatic 115, 3) := by decide +kernel
theorem dX6_isSlot_6 : decode cX6_isSlot 6 = .ok (.ifCond .eq 16, 3) := by decide +kernel
theorem dX6_isSlot_9 : decode cX6_isSlot 9 = .ok (.iload_n 1, 1) := by decide +kernel
theorem dX6_isSlot_10 : decode cX6_isSlot 10 = .ok (.iconst 0, 1) := by decide +kernel
theorem dX6_isSlot_11 : decode cX6_isSlot 11 = .ok (.iconst 2, 1) := by decide +kernel
theorem dX6_isSlot_12 : decode cX6_isSlot 12 = .ok (.invokestatic 115, 3) := by decide +kernel
theorem dX6_isSlot_15 : decode cX6_isSlot 15 = .ok (.ifCond .eq 7, 3) := by decide +kernel
theorem dX6_isSlot_18 : decode cX6_isSlot 18 = .ok (.iconst 1, 1) := by decide +kernel
theorem dX6_isSlot_19 : decode cX6_isSlot 19 = .ok (.goto 4, 3) := by decide +kernel
theorem dX6_isSlot_22 : decode cX6_isSlot 22 = .ok (.iconst 0, 1) := by decide +kernel
theorem dX6_isSlot_23 : decode cX6_isSlot 23 = .ok (.ireturn, 1) := by decide +kernel
theorem dX6_put_0 : decode cX6_put 0 = .ok (.aload_n 0, 1) := by decide +kernel
theorem dX6_put_1 : decode cX6_put 1 = .ok (.iload_n 1, 1) := by decide +kernel
theorem dX6_put_2 : decode cX6_put 2 = .ok (.iload_n 2, 1) := by decide +kernel
theorem dX6_put_3 : decode cX6_put 3 = .ok (.invokestatic 153, 3) := by decide +kernel
theorem dX6_put_6 : decode cX6_put 6 = .ok (.iload_n 3, 1) := by decide +kernel
theorem dX6_put_7 : decode cX6_put 7 = .ok (.invokestatic 142, 3) := by decide +kernel
theorem dX6_put_10 : decode cX6_put 10 = .ok (.iconst 1, 1) := by decide +kernel
theorem dX6_put_11 : decode cX6_put 11 = .ok (.invokevirtual 132, 3) := by decide +kernel
theorem dX6_put_14 : decode cX6_put 14 = .ok (.ifCond .ne 5, 3) := by decide +kernel
theorem dX6_put_17 : decode cX6_put 17 = .ok (.iconst 0, 1) := by decide +kernel
theorem dX6_put_18 : decode cX6_put 18 = .ok (.ireturn, 1) := by decide +kernel
theorem dX6_put_19 : decode cX6_put 19 = .ok (.aload_n 0, 1) := by decide +kernel
theorem dX6_put_20 : decode cX6_put 20 = .ok (.getfield 98, 3) := by decide +kernel
theorem dX6_put_23 : decode cX6_put 23 = .ok (.iconst 3, 1) := by decide +kernel
theorem dX6_put_24 : decode cX6_put 24 = .ok (.iload_n 1, 1) := by decide +kernel
theorem dX6_put_25 : decode cX6_put 25 = .ok (.imul, 1) := by decide +kernel
theorem dX6_put_26 : decode cX6_put 26 = .ok (.iload_n 2, 1) := by decide +kernel
theorem dX6_put_27 : decode cX6_put 27 = .ok (.iadd, 1) := by decide +kernel
theorem dX6_put_28 : decode cX6_put 28 = .ok (.iaload, 1) := by decide +kernel
theorem dX6_put_29 : decode cX6_put 29 = .ok (.istore 4, 2) := by decide +kernel
theorem dX6_put_31 : decode cX6_put 31 = .ok (.aload_n 0, 1) := by decide +kernel
theorem dX6_put_32 : decode cX6_put 32 = .ok (.getfield 98, 3) := by decide +kernel
theorem dX6_put_35 : decode cX6_put 35 = .ok (.iconst 3, 1) := by decide +kernel
theorem dX6_put_36 : decode cX6_put 36 = .ok (.iload_n 1, 1) := by decide +kernel
theorem dX6_put_37 : decode cX6_put 37 = .ok (.imul, 1) := by decide +kernel
theorem dX6_put_38 : decode cX6_put 38 = .ok (.iload_n 2, 1) := by decide +kernel
theorem dX6_put_39 : decode cX6_put 39 = .ok (.iadd, 1) := by decide +kernel
theorem dX6_put_40 : decode cX6_put 40 = .ok (.iload_n 3, 1) := by decide +kernel
theorem dX6_put_41 : decode cX6_put 41 = .ok (.iastore, 1) := by decide +kernel
theorem dX6_put_42 : decode cX6_put 42 = .ok (.iload 4, 2) := by decide +kernel
theorem dX6_put_44 : decode cX6_put 44 = .ok (.ireturn, 1) := by decide +kernel
theorem dX6_area_0 : decode cX6_area 0 = .ok (.aload_n 0, 1) := by decide +kernel
theorem dX6_area_1 : decode cX6_area 1 = .ok (.iload_n 1, 1) := by decide +kernel
theorem dX6_area_2 : decode cX6_area 2 = .ok (.iload_n 2, 1) := by decide +kernel
theorem dX6_area_3 : decode cX6_area 3 = .ok (.invokestatic 153, 3) := by decide +kernel
theorem dX6_area_6 : decode cX6_area 6 = .ok (.iconst 1, 1) := by decide +kernel
theorem dX6_area_7 : decode cX6_area 7 = .ok (.iconst 1, 1) := by decide +kernel
theorem dX6_area_8 : decode cX6_area 8 = .ok (.invokevirtual 132, 3) := by decide +kernel
theorem dX6_area_11 : decode cX6_area 11 = .ok (.ifCond .eq 16, 3) := by decide +kernel
theorem dX6_area_14 : decode cX6_area 14 = .ok (.aload_n 0, 1) := by decide +kernel
theorem dX6_area_15 : decode cX6_area 15 = .ok (.getfield 98, 3) := by decide +kernel
theorem dX6_area_18 : decode cX6_area 18 = .ok (.iconst 3, 1) := by decide +kernel
theorem dX6_area_19 : decode cX6_area 19 = .ok (.iload_n 1, 1) := by decide +kernel
theorem dX6_area_20 : decode cX6_area 20 = .ok (.imul, 1) := by decide +kernel
theorem dX6_area_21 : decode cX6_area 21 = .ok (.iload_n 2, 1) := by decide +kernel
theorem dX6_area_22 : decode cX6_area 22 = .ok (.iadd, 1) := by decide +kernel
theorem dX6_area_23 : decode cX6_area 23 = .ok (.iaload, 1) := by decide +kernel
theorem dX6_area_24 : decode cX6_area 24 = .ok (.goto 4, 3) := by decide +kernel
theorem dX6_area_27 : decode cX6_area 27 = .ok (.iconst 0, 1) := by decide +kernel
theorem dX6_area_28 : decode cX6_area 28 = .ok (.ireturn, 1) := by decide +kernel
theorem dX6_segmentAt_0 : decode cX6_segmentAt 0 = .ok (.aload_n 0, 1) := by decide +kernel
theorem dX6_segmentAt_1 : decode cX6_segmentAt 1 = .ok (.getfield 50, 3) := by decide +kernel
theorem dX6_segmentAt_4 : decode cX6_segmentAt 4 = .ok (.bipush 60, 2) := by decide +kernel
theorem dX6_segmentAt_6 : decode cX6_segmentAt 6 = .ok (.iload_n 1, 1) := by decide +kernel
theorem dX6_segmentAt_7 : decode cX6_segmentAt 7 = .ok (.imul, 1) := by decide +kernel
theorem dX6_segmentAt_8 : decode cX6_segmentAt 8 = .ok (.iload_n 2, 1) := by decide +kernel
theorem dX6_segmentAt_9 : decode cX6_segmentAt 9 = .ok (.iadd, 1) := by decide +kernel
theorem dX6_segmentAt_10 : decode cX6_segmentAt 10 = .ok (.iaload, 1) := by decide +kernel
theorem dX6_segmentAt_11 : decode cX6_segmentAt 11 = .ok (.ireturn, 1) := by decide +kernel
theorem dX6_placeOf_0 : decode cX6_placeOf 0 = .ok (.aload_n 0, 1) := by decide +kernel
theorem dX6_placeOf_1 : decode cX6_placeOf 1 = .ok (.getfield 7, 3) := by decide +kernel
theorem dX6_placeOf_4 : decode cX6_placeOf 4 = .ok (.aload_n 0, 1) := by decide +kernel
theorem dX6_placeOf_5 : decode cX6_placeOf 5 = .ok (.getfield 34, 3) := by decide +kernel
theorem dX6_placeOf_8 : decode cX6_placeOf 8 = .ok (.iload_n 1, 1) := by decide +kernel
theorem dX6_placeOf_9 : decode cX6_placeOf 9 = .ok (.iaload, 1) := by decide +kernel
theorem dX6_placeOf_10 : decode cX6_placeOf 10 = .ok (.iaload, 1) := by decide +kernel
theorem dX6_placeOf_11 : decode cX6_placeOf 11 = .ok (.istore_n 2, 1) := by decide +kernel
theorem dX6_placeOf_12 : decode cX6_placeOf 12 = .ok (.iconst 0, 1) := by decide +kernel
theorem dX6_placeOf_13 : decode cX6_placeOf 13 = .ok (.istore_n 3, 1) := by decide +kernel
theorem dX6_placeOf_14 : decode cX6_placeOf 14 = .ok (.aload_n 0, 1) := by decide +kernel
theorem dX6_placeOf_15 : decode cX6_placeOf 15 = .ok (.iload_n 2, 1) := by decide +kernel
theorem dX6_placeOf_16 : decode cX6_placeOf 16 = .ok (.iload_n 3, 1) := by decide +kernel
theorem dX6_placeOf_17 : decode cX6_placeOf 17 = .ok (.invokevirtual 157, 3) := by decide +kernel
theorem dX6_placeOf_20 : decode cX6_placeOf 20 = .ok (.iload_n 1, 1) := by decide +kernel
theorem dX6_placeOf_21 : decode cX6_placeOf 21 = .ok (.if_icmp .eq 9, 3) := by decide +kernel
theorem dX6_placeOf_24 : decode cX6_placeOf 24 = .ok (.iinc 3 1, 3) := by decide +kernel
theorem dX6_placeOf_27 : decode cX6_placeOf 27 = .ok (.goto (-13), 3) := by decide +kernel
theorem dX6_placeOf_30 : decode cX6_placeOf 30 = .ok (.iload_n 3, 1) := by decide +kernel
theorem dX6_placeOf_31 : decode cX6_placeOf 31 = .ok (.ireturn, 1) := by decide +kernel
theorem dX6_key_0 : decode cX6_key 0 = .ok (.aload_n 0, 1) := by decide +kernel
theorem dX6_key_1 : decode cX6_key 1 = .ok (.getfield 40, 3) := by decide +kernel
theorem dX6_key_4 : decode cX6_key 4 = .ok (.iconst 3, 1) := by decide +kernel
theorem dX6_key_5 : decode cX6_key 5 = .ok (.iload_n 1, 1) := by decide +kernel
theorem dX6_key_6 : decode cX6_key 6 = .ok (.imul, 1) := by decide +kernel
theorem dX6_key_7 : decode cX6_key 7 = .ok (.iaload, 1) := by decide +kernel
theorem dX6_key_8 : decode cX6_key 8 = .ok (.ireturn, 1) := by decide +kernel
theorem dX6_among_0 : decode cX6_among 0 = .ok (.iload_n 1, 1) := by decide +kernel
theorem dX6_among_1 : decode cX6_among 1 = .ok (.istore_n 3, 1) := by decide +kernel
theorem dX6_among_2 : decode cX6_among 2 = .ok (.iload_n 3, 1) := by decide +kernel
theorem dX6_among_3 : decode cX6_among 3 = .ok (.iconst (-1), 1) := by decide +kernel
theorem dX6_among_4 : decode cX6_among 4 = .ok (.if_icmp .eq 23, 3) := by decide +kernel
theorem dX6_among_7 : decode cX6_among 7 = .ok (.aload_n 0, 1) := by decide +kernel
theorem dX6_among_8 : decode cX6_among 8 = .ok (.getfield 34, 3) := by decide +kernel
theorem dX6_among_11 : decode cX6_among 11 = .ok (.iload_n 3, 1) := by decide +kernel
theorem dX6_among_12 : decode cX6_among 12 = .ok (.iaload, 1) := by decide +kernel
theorem dX6_among_13 : decode cX6_among 13 = .ok (.iload_n 2, 1) := by decide +kernel
theorem dX6_among_14 : decode cX6_among 14 = .ok (.if_icmp .eq 13, 3) := by decide +kernel
theorem dX6_among_17 : decode cX6_among 17 = .ok (.aload_n 0, 1) := by decide +kernel
theorem dX6_among_18 : decode cX6_among 18 = .ok (.getfield 37, 3) := by decide +kernel
theorem dX6_among_21 : decode cX6_among 21 = .ok (.iload_n 3, 1) := by decide +kernel
theorem dX6_among_22 : decode cX6_among 22 = .ok (.iaload, 1) := by decide +kernel
theorem dX6_among_23 : decode cX6_among 23 = .ok (.istore_n 3, 1) := by decide +kernel
theorem dX6_among_24 : decode cX6_among 24 = .ok (.goto (-22), 3) := by decide +kernel
theorem dX6_among_27 : decode cX6_among 27 = .ok (.iload_n 3, 1) := by decide +kernel
theorem dX6_among_28 : decode cX6_among 28 = .ok (.ireturn, 1) := by decide +kernel
theorem dX6_isUnder_0 : decode cX6_isUnder 0 = .ok (.iload_n 1, 1) := by decide +kernel
theorem dX6_isUnder_1 : decode cX6_isUnder 1 = .ok (.istore_n 3, 1) := by decide +kernel
theorem dX6_isUnder_2 : decode cX6_isUnder 2 = .ok (.iload_n 3, 1) := by decide +kernel
theorem dX6_isUnder_3 : decode cX6_isUnder 3 = .ok (.iconst (-1), 1) := by decide +kernel
theorem dX6_isUnder_4 : decode cX6_isUnder 4 = .ok (.if_icmp .eq 18, 3) := by decide +kernel
theorem dX6_isUnder_7 : decode cX6_isUnder 7 = .ok (.iload_n 3, 1) := by decide +kernel
theorem dX6_isUnder_8 : decode cX6_isUnder 8 = .ok (.iload_n 2, 1) := by decide +kernel
theorem dX6_isUnder_9 : decode cX6_isUnder 9 = .ok (.if_icmp .eq 13, 3) := by decide +kernel
theorem dX6_isUnder_12 : decode cX6_isUnder 12 = .ok (.aload_n 0, 1) := by decide +kernel
theorem dX6_isUnder_13 : decode cX6_isUnder 13 = .ok (.getfield 37, 3) := by decide +kernel
theorem dX6_isUnder_16 : decode cX6_isUnder 16 = .ok (.iload_n 3, 1) := by decide +kernel
theorem dX6_isUnder_17 : decode cX6_isUnder 17 = .ok (.iaload, 1) := by decide +kernel
theorem dX6_isUnder_18 : decode cX6_isUnder 18 = .ok (.istore_n 3, 1) := by decide +kernel
theorem dX6_isUnder_19 : decode cX6_isUnder 19 = .ok (.goto (-17), 3) := by decide +kernel
theorem dX6_isUnder_22 : decode cX6_isUnder 22 = .ok (.iload_n 3, 1) := by decide +kernel
theorem dX6_isUnder_23 : decode cX6_isUnder 23 = .ok (.iload_n 2, 1) := by decide +kernel
theorem dX6_isUnder_24 : decode cX6_isUnder 24 = .ok (.if_icmp .ne 7, 3) := by decide +kernel
theorem dX6_isUnder_27 : decode cX6_isUnder 27 = .ok (.iconst 1, 1) := by decide +kernel
theorem dX6_isUnder_28 : decode cX6_isUnder 28 = .ok (.goto 4, 3) := by decide +kernel
theorem dX6_isUnder_31 : decode cX6_isUnder 31 = .ok (.iconst 0, 1) := by decide +kernel
theorem dX6_isUnder_32 : decode cX6_isUnder 32 = .ok (.ireturn, 1) := by decide +kernel
theorem dX6_areTwins_0 : decode cX6_areTwins 0 = .ok (.aload_n 0, 1) := by decide +kernel
theorem dX6_areTwins_1 : decode cX6_areTwins 1 = .ok (.getfield 34, 3) := by decide +kernel
theorem dX6_areTwins_4 : decode cX6_areTwins 4 = .ok (.iload_n 1, 1) := by decide +kernel
theorem dX6_areTwins_5 : decode cX6_areTwins 5 = .ok (.iaload, 1) := by decide +kernel
theorem dX6_areTwins_6 : decode cX6_areTwins 6 = .ok (.aload_n 0, 1) := by decide +kernel
theorem dX6_areTwins_7 : decode cX6_areTwins 7 = .ok (.getfield 34, 3) := by decide +kernel
theorem dX6_areTwins_10 : decode cX6_areTwins 10 = .ok (.iload_n 2, 1) := by decide +kernel
theorem dX6_areTwins_11 : decode cX6_areTwins 11 = .ok (.iaload, 1) := by decide +kernel
theorem dX6_areTwins_12 : decode cX6_areTwins 12 = .ok (.if_icmp .ne 22, 3) := by decide +kernel
theorem dX6_areTwins_15 : decode cX6_areTwins 15 = .ok (.aload_n 0, 1) := by decide +kernel
theorem dX6_areTwins_16 : decode cX6_areTwins 16 = .ok (.getfield 37, 3) := by decide +kernel
theorem dX6_areTwins_19 : decode cX6_areTwins 19 = .ok (.iload_n 1, 1) := by decide +kernel
theorem dX6_areTwins_20 : decode cX6_areTwins 20 = .ok (.iaload, 1) := by decide +kernel
theorem dX6_areTwins_21 : decode cX6_areTwins 21 = .ok (.aload_n 0, 1) := by decide +kernel
theorem dX6_areTwins_22 : decode cX6_areTwins 22 = .ok (.getfield 37, 3) := by decide +kernel
theorem dX6_areTwins_25 : decode cX6_areTwins 25 = .ok (.iload_n 2, 1) := by decide +kernel
theorem dX6_areTwins_26 : decode cX6_areTwins 26 = .ok (.iaload, 1) := by decide +kernel
theorem dX6_areTwins_27 : decode cX6_areTwins 27 = .ok (.if_icmp .ne 7, 3) := by decide +kernel
theorem dX6_areTwins_30 : decode cX6_areTwins 30 = .ok (.iconst 1, 1) := by decide +kernel
theorem dX6_areTwins_31 : decode cX6_areTwins 31 = .ok (.goto 4, 3) := by decide +kernel
theorem dX6_areTwins_34 : decode cX6_areTwins 34 = .ok (.iconst 0, 1) := by decide +kernel
theorem dX6_areTwins_35 : decode cX6_areTwins 35 = .ok (.ireturn, 1) := by decide +kernel
theorem dX6_liesAhead_0 : decode cX6_liesAhead 0 = .ok (.aload_n 0, 1) := by decide +kernel
theorem dX6_liesAhead_1 : decode cX6_liesAhead 1 = .ok (.getfield 16, 3) := by decide +kernel
theorem dX6_liesAhead_4 : decode cX6_liesAhead 4 = .ok (.iload_n 2, 1) := by decide +kernel
theorem dX6_liesAhead_5 : decode cX6_liesAhead 5 = .ok (.iaload, 1) := by decide +kernel
theorem dX6_liesAhead_6 : decode cX6_liesAhead 6 = .ok (.iconst 2, 1) := by decide +kernel
theorem dX6_liesAhead_7 : decode cX6_liesAhead 7 = .ok (.if_icmp .eq 27, 3) := by decide +kernel
theorem dX6_liesAhead_10 : decode cX6_liesAhead 10 = .ok (.aload_n 0, 1) := by decide +kernel
theorem dX6_liesAhead_11 : decode cX6_liesAhead 11 = .ok (.iload_n 1, 1) := by decide +kernel
theorem dX6_liesAhead_12 : decode cX6_liesAhead 12 = .ok (.invokevirtual 161, 3) := by decide +kernel
theorem dX6_liesAhead_15 : decode cX6_liesAhead 15 = .ok (.iload_n 3, 1) := by decide +kernel
theorem dX6_liesAhead_16 : decode cX6_liesAhead 16 = .ok (.if_icmp .eq 18, 3) := by decide +kernel
theorem dX6_liesAhead_19 : decode cX6_liesAhead 19 = .ok (.aload_n 0, 1) := by decide +kernel
theorem dX6_liesAhead_20 : decode cX6_liesAhead 20 = .ok (.iload_n 1, 1) := by decide +kernel
theorem dX6_liesAhead_21 : decode cX6_liesAhead 21 = .ok (.invokevirtual 161, 3) := by decide +kernel
theorem dX6_liesAhead_24 : decode cX6_liesAhead 24 = .ok (.iload_n 3, 1) := by decide +kernel
theorem dX6_liesAhead_25 : decode cX6_liesAhead 25 = .ok (.if_icmp .ge 7, 3) := by decide +kernel
theorem dX6_liesAhead_28 : decode cX6_liesAhead 28 = .ok (.iconst 1, 1) := by decide +kernel
theorem dX6_liesAhead_29 : decode cX6_liesAhead 29 = .ok (.goto 4, 3) := by decide +kernel
theorem dX6_liesAhead_32 : decode cX6_liesAhead 32 = .ok (.iconst 0, 1) := by decide +kernel
theorem dX6_liesAhead_33 : decode cX6_liesAhead 33 = .ok (.ireturn, 1) := by decide +kernel
theorem dX6_liesAhead_34 : decode cX6_liesAhead 34 = .ok (.aload_n 0, 1) := by decide +kernel
theorem dX6_liesAhead_35 : decode cX6_liesAhead 35 = .ok (.getfield 19, 3) := by decide +kernel
theorem dX6_liesAhead_38 : decode cX6_liesAhead 38 = .ok (.iload_n 2, 1) := by decide +kernel
theorem dX6_liesAhead_39 : decode cX6_liesAhead 39 = .ok (.iaload, 1) := by decide +kernel
theorem dX6_liesAhead_40 : decode cX6_liesAhead 40 = .ok (.iconst 2, 1) := by decide +kernel
theorem dX6_liesAhead_41 : decode cX6_liesAhead 41 = .ok (.if_icmp .eq 19, 3) := by decide +kernel
theorem dX6_liesAhead_44 : decode cX6_liesAhead 44 = .ok (.aload_n 0, 1) := by decide +kernel
theorem dX6_liesAhead_45 : decode cX6_liesAhead 45 = .ok (.getfield 19, 3) := by decide +kernel
theorem dX6_liesAhead_48 : decode cX6_liesAhead 48 = .ok (.iload_n 2, 1) := by decide +kernel
theorem dX6_liesAhead_49 : decode cX6_liesAhead 49 = .ok (.iaload, 1) := by decide +kernel
theorem dX6_liesAhead_50 : decode cX6_liesAhead 50 = .ok (.iconst 1, 1) := by decide +kernel
theorem dX6_liesAhead_51 : decode cX6_liesAhead 51 = .ok (.if_icmp .ne 7, 3) := by decide +kernel
theorem dX6_liesAhead_54 : decode cX6_liesAhead 54 = .ok (.iconst 1, 1) := by decide +kernel
theorem dX6_liesAhead_55 : decode cX6_liesAhead 55 = .ok (.goto 4, 3) := by decide +kernel
theorem dX6_liesAhead_58 : decode cX6_liesAhead 58 = .ok (.iconst 0, 1) := by decide +kernel
theorem dX6_liesAhead_59 : decode cX6_liesAhead 59 = .ok (.ireturn, 1) := by decide +kernel
theorem dX6_liesAhead_60 : decode cX6_liesAhead 60 = .ok (.iload 4, 2) := by decide +kernel
theorem dX6_liesAhead_62 : decode cX6_liesAhead 62 = .ok (.iconst (-1), 1) := by decide +kernel
theorem dX6_liesAhead_63 : decode cX6_liesAhead 63 = .ok (.if_icmp .eq 23, 3) := by decide +kernel
theorem dX6_liesAhead_66 : decode cX6_liesAhead 66 = .ok (.aload_n 0, 1) := by decide +kernel
theorem dX6_liesAhead_67 : decode cX6_liesAhead 67 = .ok (.getfield 59, 3) := by decide +kernel
theorem dX6_liesAhead_70 : decode cX6_liesAhead 70 = .ok (.iload 4, 2) := by decide +kernel
theorem dX6_liesAhead_72 : decode cX6_liesAhead 72 = .ok (.iaload, 1) := by decide +kernel
theorem dX6_liesAhead_73 : decode cX6_liesAhead 73 = .ok (.ifCond .ne 13, 3) := by decide +kernel
theorem dX6_liesAhead_76 : decode cX6_liesAhead 76 = .ok (.aload_n 0, 1) := by decide +kernel
theorem dX6_liesAhead_77 : decode cX6_liesAhead 77 = .ok (.getfield 62, 3) := by decide +kernel
theorem dX6_liesAhead_80 : decode cX6_liesAhead 80 = .ok (.iload 4, 2) := by decide +kernel
theorem dX6_liesAhead_82 : decode cX6_liesAhead 82 = .ok (.iaload, 1) := by decide +kernel
theorem dX6_liesAhead_83 : decode cX6_liesAhead 83 = .ok (.goto 4, 3) := by decide +kernel
theorem dX6_liesAhead_86 : decode cX6_liesAhead 86 = .ok (.iconst (-1), 1) := by decide +kernel
theorem dX6_liesAhead_87 : decode cX6_liesAhead 87 = .ok (.istore 5, 2) := by decide +kernel
theorem dX6_liesAhead_89 : decode cX6_liesAhead 89 = .ok (.iload 5, 2) := by decide +kernel
theorem dX6_liesAhead_91 : decode cX6_liesAhead 91 = .ok (.iconst (-1), 1) := by decide +kernel
theorem dX6_liesAhead_92 : decode cX6_liesAhead 92 = .ok (.if_icmp .eq 37, 3) := by decide +kernel
theorem dX6_liesAhead_95 : decode cX6_liesAhead 95 = .ok (.aload_n 0, 1) := by decide +kernel
theorem dX6_liesAhead_96 : decode cX6_liesAhead 96 = .ok (.iload 5, 2) := by decide +kernel
theorem dX6_liesAhead_98 : decode cX6_liesAhead 98 = .ok (.iload_n 1, 1) := by decide +kernel
theorem dX6_liesAhead_99 : decode cX6_liesAhead 99 = .ok (.invokevirtual 164, 3) := by decide +kernel
theorem dX6_liesAhead_102 : decode cX6_liesAhead 102 = .ok (.ifCond .eq 27, 3) := by decide +kernel
theorem dX6_liesAhead_105 : decode cX6_liesAhead 105 = .ok (.aload_n 0, 1) := by decide +kernel
theorem dX6_liesAhead_106 : decode cX6_liesAhead 106 = .ok (.getfield 16, 3) := by decide +kernel
theorem dX6_liesAhead_109 : decode cX6_liesAhead 109 = .ok (.iload_n 2, 1) := by decide +kernel
theorem dX6_liesAhead_110 : decode cX6_liesAhead 110 = .ok (.iaload, 1) := by decide +kernel
theorem dX6_liesAhead_111 : decode cX6_liesAhead 111 = .ok (.iconst 2, 1) := by decide +kernel
theorem dX6_liesAhead_112 : decode cX6_liesAhead 112 = .ok (.if_icmp .eq 13, 3) := by decide +kernel
theorem dX6_liesAhead_115 : decode cX6_liesAhead 115 = .ok (.aload_n 0, 1) := by decide +kernel
theorem dX6_liesAhead_116 : decode cX6_liesAhead 116 = .ok (.iload 5, 2) := by decide +kernel
theorem dX6_liesAhead_118 : decode cX6_liesAhead 118 = .ok (.invokevirtual 161, 3) := by decide +kernel
theorem dX6_liesAhead_121 : decode cX6_liesAhead 121 = .ok (.iload_n 3, 1) := by decide +kernel
theorem dX6_liesAhead_122 : decode cX6_liesAhead 122 = .ok (.if_icmp .ne 7, 3) := by decide +kernel
theorem dX6_liesAhead_125 : decode cX6_liesAhead 125 = .ok (.iconst 1, 1) := by decide +kernel
theorem dX6_liesAhead_126 : decode cX6_liesAhead 126 = .ok (.goto 4, 3) := by decide +kernel
theorem dX6_liesAhead_129 : decode cX6_liesAhead 129 = .ok (.iconst 0, 1) := by decide +kernel
theorem dX6_liesAhead_130 : decode cX6_liesAhead 130 = .ok (.istore 6, 2) := by decide +kernel
theorem dX6_liesAhead_132 : decode cX6_liesAhead 132 = .ok (.iload 6, 2) := by decide +kernel
theorem dX6_liesAhead_134 : decode cX6_liesAhead 134 = .ok (.ifCond .eq 21, 3) := by decide +kernel
theorem dX6_liesAhead_137 : decode cX6_liesAhead 137 = .ok (.aload_n 0, 1) := by decide +kernel
theorem dX6_liesAhead_138 : decode cX6_liesAhead 138 = .ok (.iload_n 1, 1) := by decide +kernel
theorem dX6_liesAhead_139 : decode cX6_liesAhead 139 = .ok (.invokevirtual 167, 3) := by decide +kernel
theorem dX6_liesAhead_142 : decode cX6_liesAhead 142 = .ok (.aload_n 0, 1) := by decide +kernel
theorem dX6_liesAhead_143 : decode cX6_liesAhead 143 = .ok (.iload 5, 2) := by decide +kernel
theorem dX6_liesAhead_145 : decode cX6_liesAhead 145 = .ok (.invokevirtual 167, 3) := by decide +kernel
theorem dX6_liesAhead_148 : decode cX6_liesAhead 148 = .ok (.if_icmp .ge 7, 3) := by decide +kernel
theorem dX6_liesAhead_151 : decode cX6_liesAhead 151 = .ok (.iconst 1, 1) := by decide +kernel
theorem dX6_liesAhead_152 : decode cX6_liesAhead 152 = .ok (.goto 4, 3) := by decide +kernel
theorem dX6_liesAhead_155 : decode cX6_liesAhead 155 = .ok (.iconst 0, 1) := by decide +kernel
theorem dX6_liesAhead_156 : decode cX6_liesAhead 156 = .ok (.ireturn, 1) := by decide +kernel
theorem dX6_isBehind_0 : decode cX6_isBehind 0 = .ok (.iload_n 3, 1) := by decide +kernel
theorem dX6_isBehind_1 : decode cX6_isBehind 1 = .ok (.iconst (-1), 1) := by decide +kernel
theorem dX6_isBehind_2 : decode cX6_isBehind 2 = .ok (.if_icmp .eq 31, 3) := by decide +kernel
theorem dX6_isBehind_5 : decode cX6_isBehind 5 = .ok (.aload_n 0, 1) := by decide +kernel
theorem dX6_isBehind_6 : decode cX6_isBehind 6 = .ok (.iload_n 1, 1) := by decide +kernel
theorem dX6_isBehind_7 : decode cX6_isBehind 7 = .ok (.iload_n 3, 1) := by decide +kernel
theorem dX6_isBehind_8 : decode cX6_isBehind 8 = .ok (.invokevirtual 170, 3) := by decide +kernel
theorem dX6_isBehind_11 : decode cX6_isBehind 11 = .ok (.ifCond .ne 22, 3) := by decide +kernel
theorem dX6_isBehind_14 : decode cX6_isBehind 14 = .ok (.aload_n 0, 1) := by decide +kernel
theorem dX6_isBehind_15 : decode cX6_isBehind 15 = .ok (.iload_n 1, 1) := by decide +kernel
theorem dX6_isBehind_16 : decode cX6_isBehind 16 = .ok (.invokevirtual 167, 3) := by decide +kernel
theorem dX6_isBehind_19 : decode cX6_isBehind 19 = .ok (.aload_n 0, 1) := by decide +kernel
theorem dX6_isBehind_20 : decode cX6_isBehind 20 = .ok (.iload_n 3, 1) := by decide +kernel
theorem dX6_isBehind_21 : decode cX6_isBehind 21 = .ok (.invokevirtual 167, 3) := by decide +kernel
theorem dX6_isBehind_24 : decode cX6_isBehind 24 = .ok (.if_icmp .ge 7, 3) := by decide +kernel
theorem dX6_isBehind_27 : decode cX6_isBehind 27 = .ok (.iconst 1, 1) := by decide +kernel
theorem dX6_isBehind_28 : decode cX6_isBehind 28 = .ok (.goto 4, 3) := by decide +kernel
theorem dX6_isBehind_31 : decode cX6_isBehind 31 = .ok (.iconst 0, 1) := by decide +kernel
theorem dX6_isBehind_32 : decode cX6_isBehind 32 = .ok (.ireturn, 1) := by decide +kernel
theorem dX6_isBehind_33 : decode cX6_isBehind 33 = .ok (.iload_n 1, 1) := by decide +kernel
theorem dX6_isBehind_34 : decode cX6_isBehind 34 = .ok (.iload_n 3, 1) := by decide +kernel
theorem dX6_isBehind_35 : decode cX6_isBehind 35 = .ok (.if_icmp .ne 5, 3) := by decide +kernel
theorem dX6_isBehind_38 : decode cX6_isBehind 38 = .ok (.iconst 1, 1) := by decide +kernel
theorem dX6_isBehind_39 : decode cX6_isBehind 39 = .ok (.ireturn, 1) := by decide +kernel
theorem dX6_isBehind_40 : decode cX6_isBehind 40 = .ok (.iload_n 1, 1) := by decide +kernel
theorem dX6_isBehind_41 : decode cX6_isBehind 41 = .ok (.istore 6, 2) := by decide +kernel
theorem dX6_isBehind_43 : decode cX6_isBehind 43 = .ok (.aload_n 0, 1) := by decide +kernel
theorem dX6_isBehind_44 : decode cX6_isBehind 44 = .ok (.getfield 37, 3) := by decide +kernel
theorem dX6_isBehind_47 : decode cX6_isBehind 47 = .ok (.iload 6, 2) := by decide +kernel
theorem dX6_isBehind_49 : decode cX6_isBehind 49 = .ok (.iaload, 1) := by decide +kernel
theorem dX6_isBehind_50 : decode cX6_isBehind 50 = .ok (.iload_n 3, 1) := by decide +kernel
theorem dX6_isBehind_51 : decode cX6_isBehind 51 = .ok (.if_icmp .eq 15, 3) := by decide +kernel
theorem dX6_isBehind_54 : decode cX6_isBehind 54 = .ok (.aload_n 0, 1) := by decide +kernel
theorem dX6_isBehind_55 : decode cX6_isBehind 55 = .ok (.getfield 37, 3) := by decide +kernel
theorem dX6_isBehind_58 : decode cX6_isBehind 58 = .ok (.iload 6, 2) := by decide +kernel
theorem dX6_isBehind_60 : decode cX6_isBehind 60 = .ok (.iaload, 1) := by decide +kernel
theorem dX6_isBehind_61 : decode cX6_isBehind 61 = .ok (.istore 6, 2) := by decide +kernel
theorem dX6_isBehind_63 : decode cX6_isBehind 63 = .ok (.goto (-20), 3) := by decide +kernel
theorem dX6_isBehind_66 : decode cX6_isBehind 66 = .ok (.aload_n 0, 1) := by decide +kernel
theorem dX6_isBehind_67 : decode cX6_isBehind 67 = .ok (.getfield 34, 3) := by decide +kernel
theorem dX6_isBehind_70 : decode cX6_isBehind 70 = .ok (.iload 6, 2) := by decide +kernel
theorem dX6_isBehind_72 : decode cX6_isBehind 72 = .ok (.iaload, 1) := by decide +kernel
theorem dX6_isBehind_73 : decode cX6_isBehind 73 = .ok (.iload_n 2, 1) := by decide +kernel
theorem dX6_isBehind_74 : decode cX6_isBehind 74 = .ok (.if_icmp .ne 17, 3) := by decide +kernel
theorem dX6_isBehind_77 : decode cX6_isBehind 77 = .ok (.aload_n 0, 1) := by decide +kernel
theorem dX6_isBehind_78 : decode cX6_isBehind 78 = .ok (.iload 6, 2) := by decide +kernel
theorem dX6_isBehind_80 : decode cX6_isBehind 80 = .ok (.iload_n 2, 1) := by decide +kernel
theorem dX6_isBehind_81 : decode cX6_isBehind 81 = .ok (.iload 4, 2) := by decide +kernel
theorem dX6_isBehind_83 : decode cX6_isBehind 83 = .ok (.iload 5, 2) := by decide +kernel
theorem dX6_isBehind_85 : decode cX6_isBehind 85 = .ok (.invokevirtual 173, 3) := by decide +kernel
theorem dX6_isBehind_88 : decode cX6_isBehind 88 = .ok (.goto 19, 3) := by decide +kernel
theorem dX6_isBehind_91 : decode cX6_isBehind 91 = .ok (.aload_n 0, 1) := by decide +kernel
theorem dX6_isBehind_92 : decode cX6_isBehind 92 = .ok (.getfield 34, 3) := by decide +kernel
theorem dX6_isBehind_95 : decode cX6_isBehind 95 = .ok (.iload 6, 2) := by decide +kernel
theorem dX6_isBehind_97 : decode cX6_isBehind 97 = .ok (.iaload, 1) := by decide +kernel
theorem dX6_isBehind_98 : decode cX6_isBehind 98 = .ok (.iload_n 2, 1) := by decide +kernel
theorem dX6_isBehind_99 : decode cX6_isBehind 99 = .ok (.if_icmp .ge 7, 3) := by decide +kernel
theorem dX6_isBehind_102 : decode cX6_isBehind 102 = .ok (.iconst 1, 1) := by decide +kernel
theorem dX6_isBehind_103 : decode cX6_isBehind 103 = .ok (.goto 4, 3) := by decide +kernel
theorem dX6_isBehind_106 : decode cX6_isBehind 106 = .ok (.iconst 0, 1) := by decide +kernel
theorem dX6_isBehind_107 : decode cX6_isBehind 107 = .ok (.ireturn, 1) := by decide +kernel
theorem dX6_inserts_0 : decode cX6_inserts 0 = .ok (.aload_n 0, 1) := by decide +kernel
theorem dX6_inserts_1 : decode cX6_inserts 1 = .ok (.getfield 7, 3) := by decide +kernel
theorem dX6_inserts_4 : decode cX6_inserts 4 = .ok (.iload_n 1, 1) := by decide +kernel
theorem dX6_inserts_5 : decode cX6_inserts 5 = .ok (.iaload, 1) := by decide +kernel
theorem dX6_inserts_6 : decode cX6_inserts 6 = .ok (.istore 5, 2) := by decide +kernel
theorem dX6_inserts_8 : decode cX6_inserts 8 = .ok (.iconst 0, 1) := by decide +kernel
theorem dX6_inserts_9 : decode cX6_inserts 9 = .ok (.istore 6, 2) := by decide +kernel
theorem dX6_inserts_11 : decode cX6_inserts 11 = .ok (.iconst 0, 1) := by decide +kernel
theorem dX6_inserts_12 : decode cX6_inserts 12 = .ok (.istore 7, 2) := by decide +kernel
theorem dX6_inserts_14 : decode cX6_inserts 14 = .ok (.iload 7, 2) := by decide +kernel
theorem dX6_inserts_16 : decode cX6_inserts 16 = .ok (.aload_n 0, 1) := by decide +kernel
theorem dX6_inserts_17 : decode cX6_inserts 17 = .ok (.getfield 47, 3) := by decide +kernel
theorem dX6_inserts_20 : decode cX6_inserts 20 = .ok (.iload 5, 2) := by decide +kernel
theorem dX6_inserts_22 : decode cX6_inserts 22 = .ok (.iaload, 1) := by decide +kernel
theorem dX6_inserts_23 : decode cX6_inserts 23 = .ok (.if_icmp .ge 39, 3) := by decide +kernel
theorem dX6_inserts_26 : decode cX6_inserts 26 = .ok (.iload 6, 2) := by decide +kernel
theorem dX6_inserts_28 : decode cX6_inserts 28 = .ok (.aload_n 0, 1) := by decide +kernel
theorem dX6_inserts_29 : decode cX6_inserts 29 = .ok (.aload_n 0, 1) := by decide +kernel
theorem dX6_inserts_30 : decode cX6_inserts 30 = .ok (.iload 5, 2) := by decide +kernel
theorem dX6_inserts_32 : decode cX6_inserts 32 = .ok (.iload 7, 2) := by decide +kernel
theorem dX6_inserts_34 : decode cX6_inserts 34 = .ok (.invokevirtual 157, 3) := by decide +kernel
theorem dX6_inserts_37 : decode cX6_inserts 37 = .ok (.iload_n 1, 1) := by decide +kernel
theorem dX6_inserts_38 : decode cX6_inserts 38 = .ok (.iload_n 2, 1) := by decide +kernel
theorem dX6_inserts_39 : decode cX6_inserts 39 = .ok (.iload_n 3, 1) := by decide +kernel
theorem dX6_inserts_40 : decode cX6_inserts 40 = .ok (.iload 4, 2) := by decide +kernel
theorem dX6_inserts_42 : decode cX6_inserts 42 = .ok (.invokevirtual 177, 3) := by decide +kernel
theorem dX6_inserts_45 : decode cX6_inserts 45 = .ok (.ifCond .eq 7, 3) := by decide +kernel
theorem dX6_inserts_48 : decode cX6_inserts 48 = .ok (.iconst 1, 1) := by decide +kernel
theorem dX6_inserts_49 : decode cX6_inserts 49 = .ok (.goto 4, 3) := by decide +kernel
theorem dX6_inserts_52 : decode cX6_inserts 52 = .ok (.iconst 0, 1) := by decide +kernel
theorem dX6_inserts_53 : decode cX6_inserts 53 = .ok (.iadd, 1) := by decide +kernel
theorem dX6_inserts_54 : decode cX6_inserts 54 = .ok (.istore 6, 2) := by decide +kernel
theorem dX6_inserts_56 : decode cX6_inserts 56 = .ok (.iinc 7 1, 3) := by decide +kernel
theorem dX6_inserts_59 : decode cX6_inserts 59 = .ok (.goto (-45), 3) := by decide +kernel
theorem dX6_inserts_62 : decode cX6_inserts 62 = .ok (.iconst 0, 1) := by decide +kernel
theorem dX6_inserts_63 : decode cX6_inserts 63 = .ok (.istore 7, 2) := by decide +kernel
theorem dX6_inserts_65 : decode cX6_inserts 65 = .ok (.aload_n 0, 1) := by decide +kernel
theorem dX6_inserts_66 : decode cX6_inserts 66 = .ok (.getfield 34, 3) := by decide +kernel
theorem dX6_inserts_69 : decode cX6_inserts 69 = .ok (.iload 7, 2) := by decide +kernel
theorem dX6_inserts_71 : decode cX6_inserts 71 = .ok (.iaload, 1) := by decide +kernel
theorem dX6_inserts_72 : decode cX6_inserts 72 = .ok (.iconst (-1), 1) := by decide +kernel
theorem dX6_inserts_73 : decode cX6_inserts 73 = .ok (.if_icmp .eq 9, 3) := by decide +kernel
theorem dX6_inserts_76 : decode cX6_inserts 76 = .ok (.iinc 7 1, 3) := by decide +kernel
theorem dX6_inserts_79 : decode cX6_inserts 79 = .ok (.goto (-14), 3) := by decide +kernel
theorem dX6_inserts_82 : decode cX6_inserts 82 = .ok (.aload_n 0, 1) := by decide +kernel
theorem dX6_inserts_83 : decode cX6_inserts 83 = .ok (.getfield 47, 3) := by decide +kernel
theorem dX6_inserts_86 : decode cX6_inserts 86 = .ok (.iload 5, 2) := by decide +kernel
theorem dX6_inserts_88 : decode cX6_inserts 88 = .ok (.iaload, 1) := by decide +kernel
theorem dX6_inserts_89 : decode cX6_inserts 89 = .ok (.istore 8, 2) := by decide +kernel
theorem dX6_inserts_91 : decode cX6_inserts 91 = .ok (.iload 8, 2) := by decide +kernel
theorem dX6_inserts_93 : decode cX6_inserts 93 = .ok (.iload 6, 2) := by decide +kernel
theorem dX6_inserts_95 : decode cX6_inserts 95 = .ok (.if_icmp .le 37, 3) := by decide +kernel
theorem dX6_inserts_98 : decode cX6_inserts 98 = .ok (.aload_n 0, 1) := by decide +kernel
theorem dX6_inserts_99 : decode cX6_inserts 99 = .ok (.getfield 50, 3) := by decide +kernel
theorem dX6_inserts_102 : decode cX6_inserts 102 = .ok (.bipush 60, 2) := by decide +kernel
theorem dX6_inserts_104 : decode cX6_inserts 104 = .ok (.iload 5, 2) := by decide +kernel
theorem dX6_inserts_106 : decode cX6_inserts 106 = .ok (.imul, 1) := by decide +kernel
theorem dX6_inserts_107 : decode cX6_inserts 107 = .ok (.iload 8, 2) := by decide +kernel
theorem dX6_inserts_109 : decode cX6_inserts 109 = .ok (.iadd, 1) := by decide +kernel
theorem dX6_inserts_110 : decode cX6_inserts 110 = .ok (.aload_n 0, 1) := by decide +kernel
theorem dX6_inserts_111 : decode cX6_inserts 111 = .ok (.getfield 50, 3) := by decide +kernel
theorem dX6_inserts_114 : decode cX6_inserts 114 = .ok (.bipush 60, 2) := by decide +kernel
theorem dX6_inserts_116 : decode cX6_inserts 116 = .ok (.iload 5, 2) := by decide +kernel
theorem dX6_inserts_118 : decode cX6_inserts 118 = .ok (.imul, 1) := by decide +kernel
theorem dX6_inserts_119 : decode cX6_inserts 119 = .ok (.iload 8, 2) := by decide +kernel
theorem dX6_inserts_121 : decode cX6_inserts 121 = .ok (.iadd, 1) := by decide +kernel
theorem dX6_inserts_122 : decode cX6_inserts 122 = .ok (.iconst 1, 1) := by decide +kernel
theorem dX6_inserts_123 : decode cX6_inserts 123 = .ok (.isub, 1) := by decide +kernel
theorem dX6_inserts_124 : decode cX6_inserts 124 = .ok (.iaload, 1) := by decide +kernel
theorem dX6_inserts_125 : decode cX6_inserts 125 = .ok (.iastore, 1) := by decide +kernel
theorem dX6_inserts_126 : decode cX6_inserts 126 = .ok (.iinc 8 (-1), 3) := by decide +kernel
theorem dX6_inserts_129 : decode cX6_inserts 129 = .ok (.goto (-38), 3) := by decide +kernel
theorem dX6_inserts_132 : decode cX6_inserts 132 = .ok (.aload_n 0, 1) := by decide +kernel
theorem dX6_inserts_133 : decode cX6_inserts 133 = .ok (.getfield 50, 3) := by decide +kernel
theorem dX6_inserts_136 : decode cX6_inserts 136 = .ok (.bipush 60, 2) := by decide +kernel
theorem dX6_inserts_138 : decode cX6_inserts 138 = .ok (.iload 5, 2) := by decide +kernel
theorem dX6_inserts_140 : decode cX6_inserts 140 = .ok (.imul, 1) := by decide +kernel
theorem dX6_inserts_141 : decode cX6_inserts 141 = .ok (.iload 6, 2) := by decide +kernel
theorem dX6_inserts_143 : decode cX6_inserts 143 = .ok (.iadd, 1) := by decide +kernel
theorem dX6_inserts_144 : decode cX6_inserts 144 = .ok (.iload 7, 2) := by decide +kernel
theorem dX6_inserts_146 : decode cX6_inserts 146 = .ok (.iastore, 1) := by decide +kernel
theorem dX6_inserts_147 : decode cX6_inserts 147 = .ok (.aload_n 0, 1) := by decide +kernel
theorem dX6_inserts_148 : decode cX6_inserts 148 = .ok (.getfield 47, 3) := by decide +kernel
theorem dX6_inserts_151 : decode cX6_inserts 151 = .ok (.iload 5, 2) := by decide +kernel
theorem dX6_inserts_153 : decode cX6_inserts 153 = .ok (.dup2, 1) := by decide +kernel
theorem dX6_inserts_154 : decode cX6_inserts 154 = .ok (.iaload, 1) := by decide +kernel
theorem dX6_inserts_155 : decode cX6_inserts 155 = .ok (.iconst 1, 1) := by decide +kernel
theorem dX6_inserts_156 : decode cX6_inserts 156 = .ok (.iadd, 1) := by decide +kernel
theorem dX6_inserts_157 : decode cX6_inserts 157 = .ok (.iastore, 1) := by decide +kernel
theorem dX6_inserts_158 : decode cX6_inserts 158 = .ok (.aload_n 0, 1) := by decide +kernel
theorem dX6_inserts_159 : decode cX6_inserts 159 = .ok (.getfield 34, 3) := by decide +kernel
theorem dX6_inserts_162 : decode cX6_inserts 162 = .ok (.iload 7, 2) := by decide +kernel
theorem dX6_inserts_164 : decode cX6_inserts 164 = .ok (.iload_n 1, 1) := by decide +kernel
theorem dX6_inserts_165 : decode cX6_inserts 165 = .ok (.iastore, 1) := by decide +kernel
theorem dX6_inserts_166 : decode cX6_inserts 166 = .ok (.aload_n 0, 1) := by decide +kernel
theorem dX6_inserts_167 : decode cX6_inserts 167 = .ok (.getfield 37, 3) := by decide +kernel
theorem dX6_inserts_170 : decode cX6_inserts 170 = .ok (.iload 7, 2) := by decide +kernel
theorem dX6_inserts_172 : decode cX6_inserts 172 = .ok (.iload_n 2, 1) := by decide +kernel
theorem dX6_inserts_173 : decode cX6_inserts 173 = .ok (.iastore, 1) := by decide +kernel
theorem dX6_inserts_174 : decode cX6_inserts 174 = .ok (.aload_n 0, 1) := by decide +kernel
theorem dX6_inserts_175 : decode cX6_inserts 175 = .ok (.getfield 40, 3) := by decide +kernel
theorem dX6_inserts_178 : decode cX6_inserts 178 = .ok (.iconst 3, 1) := by decide +kernel
theorem dX6_inserts_179 : decode cX6_inserts 179 = .ok (.iload 7, 2) := by decide +kernel
theorem dX6_inserts_181 : decode cX6_inserts 181 = .ok (.imul, 1) := by decide +kernel
theorem dX6_inserts_182 : decode cX6_inserts 182 = .ok (.iload_n 3, 1) := by decide +kernel
theorem dX6_inserts_183 : decode cX6_inserts 183 = .ok (.iastore, 1) := by decide +kernel
theorem dX6_inserts_184 : decode cX6_inserts 184 = .ok (.aload_n 0, 1) := by decide +kernel
theorem dX6_inserts_185 : decode cX6_inserts 185 = .ok (.getfield 40, 3) := by decide +kernel
theorem dX6_inserts_188 : decode cX6_inserts 188 = .ok (.iconst 3, 1) := by decide +kernel
theorem dX6_inserts_189 : decode cX6_inserts 189 = .ok (.iload 7, 2) := by decide +kernel
theorem dX6_inserts_191 : decode cX6_inserts 191 = .ok (.imul, 1) := by decide +kernel
theorem dX6_inserts_192 : decode cX6_inserts 192 = .ok (.iconst 1, 1) := by decide +kernel
theorem dX6_inserts_193 : decode cX6_inserts 193 = .ok (.iadd, 1) := by decide +kernel
theorem dX6_inserts_194 : decode cX6_inserts 194 = .ok (.iconst 0, 1) := by decide +kernel
theorem dX6_inserts_195 : decode cX6_inserts 195 = .ok (.iastore, 1) := by decide +kernel
theorem dX6_inserts_196 : decode cX6_inserts 196 = .ok (.aload_n 0, 1) := by decide +kernel
theorem dX6_inserts_197 : decode cX6_inserts 197 = .ok (.getfield 40, 3) := by decide +kernel
theorem dX6_inserts_200 : decode cX6_inserts 200 = .ok (.iconst 3, 1) := by decide +kernel
theorem dX6_inserts_201 : decode cX6_inserts 201 = .ok (.iload 7, 2) := by decide +kernel
theorem dX6_inserts_203 : decode cX6_inserts 203 = .ok (.imul, 1) := by decide +kernel
theorem dX6_inserts_204 : decode cX6_inserts 204 = .ok (.iconst 2, 1) := by decide +kernel
theorem dX6_inserts_205 : decode cX6_inserts 205 = .ok (.iadd, 1) := by decide +kernel
theorem dX6_inserts_206 : decode cX6_inserts 206 = .ok (.iconst 0, 1) := by decide +kernel
theorem dX6_inserts_207 : decode cX6_inserts 207 = .ok (.iastore, 1) := by decide +kernel
theorem dX6_inserts_208 : decode cX6_inserts 208 = .ok (.iload 7, 2) := by decide +kernel
theorem dX6_inserts_210 : decode cX6_inserts 210 = .ok (.ireturn, 1) := by decide +kernel
theorem dX6_rootOf_0 : decode cX6_rootOf 0 = .ok (.iconst (-1), 1) := by decide +kernel
theorem dX6_rootOf_1 : decode cX6_rootOf 1 = .ok (.istore_n 3, 1) := by decide +kernel
theorem dX6_rootOf_2 : decode cX6_rootOf 2 = .ok (.iconst 0, 1) := by decide +kernel
theorem dX6_rootOf_3 : decode cX6_rootOf 3 = .ok (.istore 4, 2) := by decide +kernel
theorem dX6_rootOf_5 : decode cX6_rootOf 5 = .ok (.iload 4, 2) := by decide +kernel
theorem dX6_rootOf_7 : decode cX6_rootOf 7 = .ok (.bipush 60, 2) := by decide +kernel
theorem dX6_rootOf_9 : decode cX6_rootOf 9 = .ok (.if_icmp .ge 37, 3) := by decide +kernel
theorem dX6_rootOf_12 : decode cX6_rootOf 12 = .ok (.aload_n 0, 1) := by decide +kernel
theorem dX6_rootOf_13 : decode cX6_rootOf 13 = .ok (.getfield 34, 3) := by decide +kernel
theorem dX6_rootOf_16 : decode cX6_rootOf 16 = .ok (.iload 4, 2) := by decide +kernel
theorem dX6_rootOf_18 : decode cX6_rootOf 18 = .ok (.iaload, 1) := by decide +kernel
theorem dX6_rootOf_19 : decode cX6_rootOf 19 = .ok (.iload_n 1, 1) := by decide +kernel
theorem dX6_rootOf_20 : decode cX6_rootOf 20 = .ok (.if_icmp .ne 18, 3) := by decide +kernel
theorem dX6_rootOf_23 : decode cX6_rootOf 23 = .ok (.aload_n 0, 1) := by decide +kernel
theorem dX6_rootOf_24 : decode cX6_rootOf 24 = .ok (.iload 4, 2) := by decide +kernel
theorem dX6_rootOf_26 : decode cX6_rootOf 26 = .ok (.invokevirtual 161, 3) := by decide +kernel
theorem dX6_rootOf_29 : decode cX6_rootOf 29 = .ok (.iload_n 2, 1) := by decide +kernel
theorem dX6_rootOf_30 : decode cX6_rootOf 30 = .ok (.if_icmp .ne 8, 3) := by decide +kernel
theorem dX6_rootOf_33 : decode cX6_rootOf 33 = .ok (.iload 4, 2) := by decide +kernel
theorem dX6_rootOf_35 : decode cX6_rootOf 35 = .ok (.goto 4, 3) := by decide +kernel
theorem dX6_rootOf_38 : decode cX6_rootOf 38 = .ok (.iload_n 3, 1) := by decide +kernel
theorem dX6_rootOf_39 : decode cX6_rootOf 39 = .ok (.istore_n 3, 1) := by decide +kernel
theorem dX6_rootOf_40 : decode cX6_rootOf 40 = .ok (.iinc 4 1, 3) := by decide +kernel
theorem dX6_rootOf_43 : decode cX6_rootOf 43 = .ok (.goto (-38), 3) := by decide +kernel
theorem dX6_rootOf_46 : decode cX6_rootOf 46 = .ok (.iload_n 3, 1) := by decide +kernel
theorem dX6_rootOf_47 : decode cX6_rootOf 47 = .ok (.ireturn, 1) := by decide +kernel
theorem dX6_secondOf_0 : decode cX6_secondOf 0 = .ok (.aload_n 0, 1) := by decide +kernel
theorem dX6_secondOf_1 : decode cX6_secondOf 1 = .ok (.getfield 25, 3) := by decide +kernel
theorem dX6_secondOf_4 : decode cX6_secondOf 4 = .ok (.aload_n 0, 1) := by decide +kernel
theorem dX6_secondOf_5 : decode cX6_secondOf 5 = .ok (.getfield 34, 3) := by decide +kernel
theorem dX6_secondOf_8 : decode cX6_secondOf 8 = .ok (.iload_n 1, 1) := by decide +kernel
theorem dX6_secondOf_9 : decode cX6_secondOf 9 = .ok (.iaload, 1) := by decide +kernel
theorem dX6_secondOf_10 : decode cX6_secondOf 10 = .ok (.iaload, 1) := by decide +kernel
theorem dX6_secondOf_11 : decode cX6_secondOf 11 = .ok (.istore_n 2, 1) := by decide +kernel
theorem dX6_secondOf_12 : decode cX6_secondOf 12 = .ok (.iload_n 2, 1) := by decide +kernel
theorem dX6_secondOf_13 : decode cX6_secondOf 13 = .ok (.iconst (-1), 1) := by decide +kernel
theorem dX6_secondOf_14 : decode cX6_secondOf 14 = .ok (.if_icmp .ne 7, 3) := by decide +kernel
theorem dX6_secondOf_17 : decode cX6_secondOf 17 = .ok (.iconst (-1), 1) := by decide +kernel
theorem dX6_secondOf_18 : decode cX6_secondOf 18 = .ok (.goto 18, 3) := by decide +kernel
theorem dX6_secondOf_21 : decode cX6_secondOf 21 = .ok (.aload_n 0, 1) := by decide +kernel
theorem dX6_secondOf_22 : decode cX6_secondOf 22 = .ok (.iload_n 2, 1) := by decide +kernel
theorem dX6_secondOf_23 : decode cX6_secondOf 23 = .ok (.aload_n 0, 1) := by decide +kernel
theorem dX6_secondOf_24 : decode cX6_secondOf 24 = .ok (.getfield 40, 3) := by decide +kernel
theorem dX6_secondOf_27 : decode cX6_secondOf 27 = .ok (.iconst 3, 1) := by decide +kernel
theorem dX6_secondOf_28 : decode cX6_secondOf 28 = .ok (.iload_n 1, 1) := by decide +kernel
theorem dX6_secondOf_29 : decode cX6_secondOf 29 = .ok (.imul, 1) := by decide +kernel
theorem dX6_secondOf_30 : decode cX6_secondOf 30 = .ok (.iconst 2, 1) := by decide +kernel
theorem dX6_secondOf_31 : decode cX6_secondOf 31 = .ok (.iadd, 1) := by decide +kernel
theorem dX6_secondOf_32 : decode cX6_secondOf 32 = .ok (.iaload, 1) := by decide +kernel
theorem dX6_secondOf_33 : decode cX6_secondOf 33 = .ok (.invokevirtual 181, 3) := by decide +kernel
theorem dX6_secondOf_36 : decode cX6_secondOf 36 = .ok (.ireturn, 1) := by decide +kernel
theorem dX6_compares_0 : decode cX6_compares 0 = .ok (.iload_n 1, 1) := by decide +kernel
theorem dX6_compares_1 : decode cX6_compares 1 = .ok (.tableswitch 90 0 4 #[35, 46, 57, 68, 79], 35) := by decide +kernel
theorem dX6_compares_36 : decode cX6_compares 36 = .ok (.iload_n 0, 1) := by decide +kernel
theorem dX6_compares_37 : decode cX6_compares 37 = .ok (.iload_n 2, 1) := by decide +kernel
theorem dX6_compares_38 : decode cX6_compares 38 = .ok (.if_icmp .ne 7, 3) := by decide +kernel
theorem dX6_compares_41 : decode cX6_compares 41 = .ok (.iconst 1, 1) := by decide +kernel
theorem dX6_compares_42 : decode cX6_compares 42 = .ok (.goto 4, 3) := by decide +kernel
theorem dX6_compares_45 : decode cX6_compares 45 = .ok (.iconst 0, 1) := by decide +kernel
theorem dX6_compares_46 : decode cX6_compares 46 = .ok (.ireturn, 1) := by decide +kernel
theorem dX6_compares_47 : decode cX6_compares 47 = .ok (.iload_n 0, 1) := by decide +kernel
theorem dX6_compares_48 : decode cX6_compares 48 = .ok (.iload_n 2, 1) := by decide +kernel
theorem dX6_compares_49 : decode cX6_compares 49 = .ok (.if_icmp .eq 7, 3) := by decide +kernel
theorem dX6_compares_52 : decode cX6_compares 52 = .ok (.iconst 1, 1) := by decide +kernel
theorem dX6_compares_53 : decode cX6_compares 53 = .ok (.goto 4, 3) := by decide +kernel
theorem dX6_compares_56 : decode cX6_compares 56 = .ok (.iconst 0, 1) := by decide +kernel
theorem dX6_compares_57 : decode cX6_compares 57 = .ok (.ireturn, 1) := by decide +kernel
theorem dX6_compares_58 : decode cX6_compares 58 = .ok (.iload_n 0, 1) := by decide +kernel
theorem dX6_compares_59 : decode cX6_compares 59 = .ok (.iload_n 2, 1) := by decide +kernel
theorem dX6_compares_60 : decode cX6_compares 60 = .ok (.if_icmp .ge 7, 3) := by decide +kernel
theorem dX6_compares_63 : decode cX6_compares 63 = .ok (.iconst 1, 1) := by decide +kernel
theorem dX6_compares_64 : decode cX6_compares 64 = .ok (.goto 4, 3) := by decide +kernel
theorem dX6_compares_67 : decode cX6_compares 67 = .ok (.iconst 0, 1) := by decide +kernel
theorem dX6_compares_68 : decode cX6_compares 68 = .ok (.ireturn, 1) := by decide +kernel
theorem dX6_compares_69 : decode cX6_compares 69 = .ok (.iload_n 0, 1) := by decide +kernel
theorem dX6_compares_70 : decode cX6_compares 70 = .ok (.iload_n 2, 1) := by decide +kernel
theorem dX6_compares_71 : decode cX6_compares 71 = .ok (.if_icmp .gt 7, 3) := by decide +kernel
theorem dX6_compares_74 : decode cX6_compares 74 = .ok (.iconst 1, 1) := by decide +kernel
theorem dX6_compares_75 : decode cX6_compares 75 = .ok (.goto 4, 3) := by decide +kernel
theorem dX6_compares_78 : decode cX6_compares 78 = .ok (.iconst 0, 1) := by decide +kernel
theorem dX6_compares_79 : decode cX6_compares 79 = .ok (.ireturn, 1) := by decide +kernel
theorem dX6_compares_80 : decode cX6_compares 80 = .ok (.iload_n 0, 1) := by decide +kernel
theorem dX6_compares_81 : decode cX6_compares 81 = .ok (.iload_n 2, 1) := by decide +kernel
theorem dX6_compares_82 : decode cX6_compares 82 = .ok (.if_icmp .le 7, 3) := by decide +kernel
theorem dX6_compares_85 : decode cX6_compares 85 = .ok (.iconst 1, 1) := by decide +kernel
theorem dX6_compares_86 : decode cX6_compares 86 = .ok (.goto 4, 3) := by decide +kernel
theorem dX6_compares_89 : decode cX6_compares 89 = .ok (.iconst 0, 1) := by decide +kernel
theorem dX6_compares_90 : decode cX6_compares 90 = .ok (.ireturn, 1) := by decide +kernel
theorem dX6_compares_91 : decode cX6_compares 91 = .ok (.iload_n 0, 1) := by decide +kernel
theorem dX6_compares_92 : decode cX6_compares 92 = .ok (.iload_n 2, 1) := by decide +kernel
theorem dX6_compares_93 : decode cX6_compares 93 = .ok (.if_icmp .lt 7, 3) := by decide +kernel
theorem dX6_compares_96 : decode cX6_compares 96 = .ok (.iconst 1, 1) := by decide +kernel
theorem dX6_compares_97 : decode cX6_compares 97 = .ok (.goto 4, 3) := by decide +kernel
theorem dX6_compares_100 : decode cX6_compares 100 = .ok (.iconst 0, 1) := by decide +kernel
theorem dX6_compares_101 : decode cX6_compares 101 = .ok (.ireturn, 1) := by decide +kernel
theorem dX6_fulfils_0 : decode cX6_fulfils 0 = .ok (.iconst 0, 1) := by decide +kernel
theorem dX6_fulfils_1 : decode cX6_fulfils 1 = .ok (.istore_n 3, 1) := by decide +kernel
theorem dX6_fulfils_2 : decode cX6_fulfils 2 = .ok (.iconst 1, 1) := by decide +kernel
theorem dX6_fulfils_3 : decode cX6_fulfils 3 = .ok (.istore 4, 2) := by decide +kernel
theorem dX6_fulfils_5 : decode cX6_fulfils 5 = .ok (.iconst 0, 1) := by decide +kernel
theorem dX6_fulfils_6 : decode cX6_fulfils 6 = .ok (.istore 5, 2) := by decide +kernel
theorem dX6_fulfils_8 : decode cX6_fulfils 8 = .ok (.iload 5, 2) := by decide +kernel
theorem dX6_fulfils_10 : decode cX6_fulfils 10 = .ok (.aload_n 0, 1) := by decide +kernel
theorem dX6_fulfils_11 : decode cX6_fulfils 11 = .ok (.getfield 83, 3) := by decide +kernel
theorem dX6_fulfils_14 : decode cX6_fulfils 14 = .ok (.iload_n 2, 1) := by decide +kernel
theorem dX6_fulfils_15 : decode cX6_fulfils 15 = .ok (.iaload, 1) := by decide +kernel
theorem dX6_fulfils_16 : decode cX6_fulfils 16 = .ok (.if_icmp .ge 98, 3) := by decide +kernel
theorem dX6_fulfils_19 : decode cX6_fulfils 19 = .ok (.iconst 3, 1) := by decide +kernel
theorem dX6_fulfils_20 : decode cX6_fulfils 20 = .ok (.iload_n 2, 1) := by decide +kernel
theorem dX6_fulfils_21 : decode cX6_fulfils 21 = .ok (.imul, 1) := by decide +kernel
theorem dX6_fulfils_22 : decode cX6_fulfils 22 = .ok (.iload 5, 2) := by decide +kernel
theorem dX6_fulfils_24 : decode cX6_fulfils 24 = .ok (.iadd, 1) := by decide +kernel
theorem dX6_fulfils_25 : decode cX6_fulfils 25 = .ok (.istore 6, 2) := by decide +kernel
theorem dX6_fulfils_27 : decode cX6_fulfils 27 = .ok (.iload 5, 2) := by decide +kernel
theorem dX6_fulfils_29 : decode cX6_fulfils 29 = .ok (.ifCond .le 31, 3) := by decide +kernel
theorem dX6_fulfils_32 : decode cX6_fulfils 32 = .ok (.aload_n 0, 1) := by decide +kernel
theorem dX6_fulfils_33 : decode cX6_fulfils 33 = .ok (.getfield 86, 3) := by decide +kernel
theorem dX6_fulfils_36 : decode cX6_fulfils 36 = .ok (.iload 6, 2) := by decide +kernel
theorem dX6_fulfils_38 : decode cX6_fulfils 38 = .ok (.baload, 1) := by decide +kernel
theorem dX6_fulfils_39 : decode cX6_fulfils 39 = .ok (.ifCond .eq 21, 3) := by decide +kernel
theorem dX6_fulfils_42 : decode cX6_fulfils 42 = .ok (.iload_n 3, 1) := by decide +kernel
theorem dX6_fulfils_43 : decode cX6_fulfils 43 = .ok (.ifCond .ne 8, 3) := by decide +kernel
theorem dX6_fulfils_46 : decode cX6_fulfils 46 = .ok (.iload 4, 2) := by decide +kernel
theorem dX6_fulfils_48 : decode cX6_fulfils 48 = .ok (.ifCond .eq 7, 3) := by decide +kernel
theorem dX6_fulfils_51 : decode cX6_fulfils 51 = .ok (.iconst 1, 1) := by decide +kernel
theorem dX6_fulfils_52 : decode cX6_fulfils 52 = .ok (.goto 4, 3) := by decide +kernel
theorem dX6_fulfils_55 : decode cX6_fulfils 55 = .ok (.iconst 0, 1) := by decide +kernel
theorem dX6_fulfils_56 : decode cX6_fulfils 56 = .ok (.istore_n 3, 1) := by decide +kernel
theorem dX6_fulfils_57 : decode cX6_fulfils 57 = .ok (.iconst 1, 1) := by decide +kernel
theorem dX6_fulfils_58 : decode cX6_fulfils 58 = .ok (.istore 4, 2) := by decide +kernel
theorem dX6_fulfils_60 : decode cX6_fulfils 60 = .ok (.iload 4, 2) := by decide +kernel
theorem dX6_fulfils_62 : decode cX6_fulfils 62 = .ok (.ifCond .eq 43, 3) := by decide +kernel
theorem dX6_fulfils_65 : decode cX6_fulfils 65 = .ok (.aload_n 0, 1) := by decide +kernel
theorem dX6_fulfils_66 : decode cX6_fulfils 66 = .ok (.getfield 40, 3) := by decide +kernel
theorem dX6_fulfils_69 : decode cX6_fulfils 69 = .ok (.iconst 3, 1) := by decide +kernel
theorem dX6_fulfils_70 : decode cX6_fulfils 70 = .ok (.iload_n 1, 1) := by decide +kernel
theorem dX6_fulfils_71 : decode cX6_fulfils 71 = .ok (.imul, 1) := by decide +kernel
theorem dX6_fulfils_72 : decode cX6_fulfils 72 = .ok (.aload_n 0, 1) := by decide +kernel
theorem dX6_fulfils_73 : decode cX6_fulfils 73 = .ok (.getfield 89, 3) := by decide +kernel
theorem dX6_fulfils_76 : decode cX6_fulfils 76 = .ok (.iload 6, 2) := by decide +kernel
theorem dX6_fulfils_78 : decode cX6_fulfils 78 = .ok (.iaload, 1) := by decide +kernel
theorem dX6_fulfils_79 : decode cX6_fulfils 79 = .ok (.iadd, 1) := by decide +kernel
theorem dX6_fulfils_80 : decode cX6_fulfils 80 = .ok (.iaload, 1) := by decide +kernel
theorem dX6_fulfils_81 : decode cX6_fulfils 81 = .ok (.aload_n 0, 1) := by decide +kernel
theorem dX6_fulfils_82 : decode cX6_fulfils 82 = .ok (.getfield 92, 3) := by decide +kernel
theorem dX6_fulfils_85 : decode cX6_fulfils 85 = .ok (.iload 6, 2) := by decide +kernel
theorem dX6_fulfils_87 : decode cX6_fulfils 87 = .ok (.iaload, 1) := by decide +kernel
theorem dX6_fulfils_88 : decode cX6_fulfils 88 = .ok (.aload_n 0, 1) := by decide +kernel
theorem dX6_fulfils_89 : decode cX6_fulfils 89 = .ok (.getfield 95, 3) := by decide +kernel
theorem dX6_fulfils_92 : decode cX6_fulfils 92 = .ok (.iload 6, 2) := by decide +kernel
theorem dX6_fulfils_94 : decode cX6_fulfils 94 = .ok (.iaload, 1) := by decide +kernel
theorem dX6_fulfils_95 : decode cX6_fulfils 95 = .ok (.invokestatic 184, 3) := by decide +kernel
theorem dX6_fulfils_98 : decode cX6_fulfils 98 = .ok (.ifCond .eq 7, 3) := by decide +kernel
theorem dX6_fulfils_101 : decode cX6_fulfils 101 = .ok (.iconst 1, 1) := by decide +kernel
theorem dX6_fulfils_102 : decode cX6_fulfils 102 = .ok (.goto 4, 3) := by decide +kernel
theorem dX6_fulfils_105 : decode cX6_fulfils 105 = .ok (.iconst 0, 1) := by decide +kernel
theorem dX6_fulfils_106 : decode cX6_fulfils 106 = .ok (.istore 4, 2) := by decide +kernel
theorem dX6_fulfils_108 : decode cX6_fulfils 108 = .ok (.iinc 5 1, 3) := by decide +kernel
theorem dX6_fulfils_111 : decode cX6_fulfils 111 = .ok (.goto (-103), 3) := by decide +kernel
theorem dX6_fulfils_114 : decode cX6_fulfils 114 = .ok (.iload_n 3, 1) := by decide +kernel
theorem dX6_fulfils_115 : decode cX6_fulfils 115 = .ok (.ifCond .ne 8, 3) := by decide +kernel
theorem dX6_fulfils_118 : decode cX6_fulfils 118 = .ok (.iload 4, 2) := by decide +kernel
theorem dX6_fulfils_120 : decode cX6_fulfils 120 = .ok (.ifCond .eq 7, 3) := by decide +kernel
theorem dX6_fulfils_123 : decode cX6_fulfils 123 = .ok (.iconst 1, 1) := by decide +kernel
theorem dX6_fulfils_124 : decode cX6_fulfils 124 = .ok (.goto 4, 3) := by decide +kernel
theorem dX6_fulfils_127 : decode cX6_fulfils 127 = .ok (.iconst 0, 1) := by decide +kernel
theorem dX6_fulfils_128 : decode cX6_fulfils 128 = .ok (.ireturn, 1) := by decide +kernel
theorem dX6_hasCode_0 : decode cX6_hasCode 0 = .ok (.aload_n 0, 1) := by decide +kernel
theorem dX6_hasCode_1 : decode cX6_hasCode 1 = .ok (.getfield 80, 3) := by decide +kernel
theorem dX6_hasCode_4 : decode cX6_hasCode 4 = .ok (.iload_n 1, 1) := by decide +kernel
theorem dX6_hasCode_5 : decode cX6_hasCode 5 = .ok (.iaload, 1) := by decide +kernel
theorem dX6_hasCode_6 : decode cX6_hasCode 6 = .ok (.iload_n 2, 1) := by decide +kernel
theorem dX6_hasCode_7 : decode cX6_hasCode 7 = .ok (.iand, 1) := by decide +kernel
theorem dX6_hasCode_8 : decode cX6_hasCode 8 = .ok (.ifCond .eq 7, 3) := by decide +kernel
theorem dX6_hasCode_11 : decode cX6_hasCode 11 = .ok (.iconst 1, 1) := by decide +kernel
theorem dX6_hasCode_12 : decode cX6_hasCode 12 = .ok (.goto 4, 3) := by decide +kernel
theorem dX6_hasCode_15 : decode cX6_hasCode 15 = .ok (.iconst 0, 1) := by decide +kernel
theorem dX6_hasCode_16 : decode cX6_hasCode 16 = .ok (.ireturn, 1) := by decide +kernel
theorem dX6_hasTwin_0 : decode cX6_hasTwin 0 = .ok (.iconst 0, 1) := by decide +kernel
theorem dX6_hasTwin_1 : decode cX6_hasTwin 1 = .ok (.istore 4, 2) := by decide +kernel
theorem dX6_hasTwin_3 : decode cX6_hasTwin 3 = .ok (.iconst 0, 1) := by decide +kernel
theorem dX6_hasTwin_4 : decode cX6_hasTwin 4 = .ok (.istore 5, 2) := by decide +kernel
theorem dX6_hasTwin_6 : decode cX6_hasTwin 6 = .ok (.iload 5, 2) := by decide +kernel
theorem dX6_hasTwin_8 : decode cX6_hasTwin 8 = .ok (.bipush 60, 2) := by decide +kernel
theorem dX6_hasTwin_10 : decode cX6_hasTwin 10 = .ok (.if_icmp .ge 93, 3) := by decide +kernel
theorem dX6_hasTwin_13 : decode cX6_hasTwin 13 = .ok (.aload_n 0, 1) := by decide +kernel
theorem dX6_hasTwin_14 : decode cX6_hasTwin 14 = .ok (.getfield 34, 3) := by decide +kernel
theorem dX6_hasTwin_17 : decode cX6_hasTwin 17 = .ok (.iload 5, 2) := by decide +kernel
theorem dX6_hasTwin_19 : decode cX6_hasTwin 19 = .ok (.iaload, 1) := by decide +kernel
theorem dX6_hasTwin_20 : decode cX6_hasTwin 20 = .ok (.iconst (-1), 1) := by decide +kernel
theorem dX6_hasTwin_21 : decode cX6_hasTwin 21 = .ok (.if_icmp .eq 23, 3) := by decide +kernel
theorem dX6_hasTwin_24 : decode cX6_hasTwin 24 = .ok (.iload 5, 2) := by decide +kernel
theorem dX6_hasTwin_26 : decode cX6_hasTwin 26 = .ok (.iload_n 1, 1) := by decide +kernel
theorem dX6_hasTwin_27 : decode cX6_hasTwin 27 = .ok (.if_icmp .eq 17, 3) := by decide +kernel
theorem dX6_hasTwin_30 : decode cX6_hasTwin 30 = .ok (.aload_n 0, 1) := by decide +kernel
theorem dX6_hasTwin_31 : decode cX6_hasTwin 31 = .ok (.iload 5, 2) := by decide +kernel
theorem dX6_hasTwin_33 : decode cX6_hasTwin 33 = .ok (.iload_n 1, 1) := by decide +kernel
theorem dX6_hasTwin_34 : decode cX6_hasTwin 34 = .ok (.invokevirtual 164, 3) := by decide +kernel
theorem dX6_hasTwin_37 : decode cX6_hasTwin 37 = .ok (.ifCond .eq 7, 3) := by decide +kernel
theorem dX6_hasTwin_40 : decode cX6_hasTwin 40 = .ok (.iconst 1, 1) := by decide +kernel
theorem dX6_hasTwin_41 : decode cX6_hasTwin 41 = .ok (.goto 4, 3) := by decide +kernel
theorem dX6_hasTwin_44 : decode cX6_hasTwin 44 = .ok (.iconst 0, 1) := by decide +kernel
theorem dX6_hasTwin_45 : decode cX6_hasTwin 45 = .ok (.istore 6, 2) := by decide +kernel
theorem dX6_hasTwin_47 : decode cX6_hasTwin 47 = .ok (.iload 4, 2) := by decide +kernel
theorem dX6_hasTwin_49 : decode cX6_hasTwin 49 = .ok (.ifCond .ne 41, 3) := by decide +kernel
theorem dX6_hasTwin_52 : decode cX6_hasTwin 52 = .ok (.iload 6, 2) := by decide +kernel
theorem dX6_hasTwin_54 : decode cX6_hasTwin 54 = .ok (.ifCond .eq 40, 3) := by decide +kernel
theorem dX6_hasTwin_57 : decode cX6_hasTwin 57 = .ok (.aload_n 0, 1) := by decide +kernel
theorem dX6_hasTwin_58 : decode cX6_hasTwin 58 = .ok (.iload 5, 2) := by decide +kernel
theorem dX6_hasTwin_60 : decode cX6_hasTwin 60 = .ok (.iload_n 2, 1) := by decide +kernel
theorem dX6_hasTwin_61 : decode cX6_hasTwin 61 = .ok (.invokevirtual 187, 3) := by decide +kernel
theorem dX6_hasTwin_64 : decode cX6_hasTwin 64 = .ok (.ifCond .eq 30, 3) := by decide +kernel
theorem dX6_hasTwin_67 : decode cX6_hasTwin 67 = .ok (.aload_n 0, 1) := by decide +kernel
theorem dX6_hasTwin_68 : decode cX6_hasTwin 68 = .ok (.iload 5, 2) := by decide +kernel
theorem dX6_hasTwin_70 : decode cX6_hasTwin 70 = .ok (.invokevirtual 167, 3) := by decide +kernel
theorem dX6_hasTwin_73 : decode cX6_hasTwin 73 = .ok (.aload_n 0, 1) := by decide +kernel
theorem dX6_hasTwin_74 : decode cX6_hasTwin 74 = .ok (.iload_n 1, 1) := by decide +kernel
theorem dX6_hasTwin_75 : decode cX6_hasTwin 75 = .ok (.invokevirtual 167, 3) := by decide +kernel
theorem dX6_hasTwin_78 : decode cX6_hasTwin 78 = .ok (.if_icmp .ge 7, 3) := by decide +kernel
theorem dX6_hasTwin_81 : decode cX6_hasTwin 81 = .ok (.iconst 1, 1) := by decide +kernel
theorem dX6_hasTwin_82 : decode cX6_hasTwin 82 = .ok (.goto 4, 3) := by decide +kernel
theorem dX6_hasTwin_85 : decode cX6_hasTwin 85 = .ok (.iconst 0, 1) := by decide +kernel
theorem dX6_hasTwin_86 : decode cX6_hasTwin 86 = .ok (.iload_n 3, 1) := by decide +kernel
theorem dX6_hasTwin_87 : decode cX6_hasTwin 87 = .ok (.if_icmp .ne 7, 3) := by decide +kernel
theorem dX6_hasTwin_90 : decode cX6_hasTwin 90 = .ok (.iconst 1, 1) := by decide +kernel
theorem dX6_hasTwin_91 : decode cX6_hasTwin 91 = .ok (.goto 4, 3) := by decide +kernel
theorem dX6_hasTwin_94 : decode cX6_hasTwin 94 = .ok (.iconst 0, 1) := by decide +kernel
theorem dX6_hasTwin_95 : decode cX6_hasTwin 95 = .ok (.istore 4, 2) := by decide +kernel
theorem dX6_hasTwin_97 : decode cX6_hasTwin 97 = .ok (.iinc 5 1, 3) := by decide +kernel
theorem dX6_hasTwin_100 : decode cX6_hasTwin 100 = .ok (.goto (-94), 3) := by decide +kernel
theorem dX6_hasTwin_103 : decode cX6_hasTwin 103 = .ok (.iload 4, 2) := by decide +kernel
theorem dX6_hasTwin_105 : decode cX6_hasTwin 105 = .ok (.ireturn, 1) := by decide +kernel
theorem dX6_isRightFor_0 : decode cX6_isRightFor 0 = .ok (.iload_n 2, 1) := by decide +kernel
theorem dX6_isRightFor_1 : decode cX6_isRightFor 1 = .ok (.iconst (-1), 1) := by decide +kernel
theorem dX6_isRightFor_2 : decode cX6_isRightFor 2 = .ok (.if_icmp .eq 16, 3) := by decide +kernel
theorem dX6_isRightFor_5 : decode cX6_isRightFor 5 = .ok (.aload_n 0, 1) := by decide +kernel
theorem dX6_isRightFor_6 : decode cX6_isRightFor 6 = .ok (.iload_n 2, 1) := by decide +kernel
theorem dX6_isRightFor_7 : decode cX6_isRightFor 7 = .ok (.iload_n 3, 1) := by decide +kernel
theorem dX6_isRightFor_8 : decode cX6_isRightFor 8 = .ok (.invokevirtual 187, 3) := by decide +kernel
theorem dX6_isRightFor_11 : decode cX6_isRightFor 11 = .ok (.ifCond .eq 7, 3) := by decide +kernel
theorem dX6_isRightFor_14 : decode cX6_isRightFor 14 = .ok (.iconst 1, 1) := by decide +kernel
theorem dX6_isRightFor_15 : decode cX6_isRightFor 15 = .ok (.goto 4, 3) := by decide +kernel
theorem dX6_isRightFor_18 : decode cX6_isRightFor 18 = .ok (.iconst 0, 1) := by decide +kernel
theorem dX6_isRightFor_19 : decode cX6_isRightFor 19 = .ok (.istore 4, 2) := by decide +kernel
theorem dX6_isRightFor_21 : decode cX6_isRightFor 21 = .ok (.iload 4, 2) := by decide +kernel
theorem dX6_isRightFor_23 : decode cX6_isRightFor 23 = .ok (.ifCond .eq 26, 3) := by decide +kernel
theorem dX6_isRightFor_26 : decode cX6_isRightFor 26 = .ok (.aload_n 0, 1) := by decide +kernel
theorem dX6_isRightFor_27 : decode cX6_isRightFor 27 = .ok (.iload_n 3, 1) := by decide +kernel
theorem dX6_isRightFor_28 : decode cX6_isRightFor 28 = .ok (.iconst 2, 1) := by decide +kernel
theorem dX6_isRightFor_29 : decode cX6_isRightFor 29 = .ok (.invokevirtual 190, 3) := by decide +kernel
theorem dX6_isRightFor_32 : decode cX6_isRightFor 32 = .ok (.ifCond .eq 13, 3) := by decide +kernel
theorem dX6_isRightFor_35 : decode cX6_isRightFor 35 = .ok (.aload_n 0, 1) := by decide +kernel
theorem dX6_isRightFor_36 : decode cX6_isRightFor 36 = .ok (.iload_n 2, 1) := by decide +kernel
theorem dX6_isRightFor_37 : decode cX6_isRightFor 37 = .ok (.iload_n 3, 1) := by decide +kernel
theorem dX6_isRightFor_38 : decode cX6_isRightFor 38 = .ok (.iconst 1, 1) := by decide +kernel
theorem dX6_isRightFor_39 : decode cX6_isRightFor 39 = .ok (.invokevirtual 193, 3) := by decide +kernel
theorem dX6_isRightFor_42 : decode cX6_isRightFor 42 = .ok (.ifCond .ne 7, 3) := by decide +kernel
theorem dX6_isRightFor_45 : decode cX6_isRightFor 45 = .ok (.iconst 1, 1) := by decide +kernel
theorem dX6_isRightFor_46 : decode cX6_isRightFor 46 = .ok (.goto 4, 3) := by decide +kernel
theorem dX6_isRightFor_49 : decode cX6_isRightFor 49 = .ok (.iconst 0, 1) := by decide +kernel
theorem dX6_isRightFor_50 : decode cX6_isRightFor 50 = .ok (.istore 4, 2) := by decide +kernel
theorem dX6_isRightFor_52 : decode cX6_isRightFor 52 = .ok (.iload 4, 2) := by decide +kernel
theorem dX6_isRightFor_54 : decode cX6_isRightFor 54 = .ok (.ifCond .eq 26, 3) := by decide +kernel
theorem dX6_isRightFor_57 : decode cX6_isRightFor 57 = .ok (.aload_n 0, 1) := by decide +kernel
theorem dX6_isRightFor_58 : decode cX6_isRightFor 58 = .ok (.iload_n 3, 1) := by decide +kernel
theorem dX6_isRightFor_59 : decode cX6_isRightFor 59 = .ok (.iconst 4, 1) := by decide +kernel
theorem dX6_isRightFor_60 : decode cX6_isRightFor 60 = .ok (.invokevirtual 190, 3) := by decide +kernel
theorem dX6_isRightFor_63 : decode cX6_isRightFor 63 = .ok (.ifCond .eq 13, 3) := by decide +kernel
theorem dX6_isRightFor_66 : decode cX6_isRightFor 66 = .ok (.aload_n 0, 1) := by decide +kernel
theorem dX6_isRightFor_67 : decode cX6_isRightFor 67 = .ok (.iload_n 2, 1) := by decide +kernel
theorem dX6_isRightFor_68 : decode cX6_isRightFor 68 = .ok (.iload_n 3, 1) := by decide +kernel
theorem dX6_isRightFor_69 : decode cX6_isRightFor 69 = .ok (.iconst 0, 1) := by decide +kernel
theorem dX6_isRightFor_70 : decode cX6_isRightFor 70 = .ok (.invokevirtual 193, 3) := by decide +kernel
theorem dX6_isRightFor_73 : decode cX6_isRightFor 73 = .ok (.ifCond .ne 7, 3) := by decide +kernel
theorem dX6_isRightFor_76 : decode cX6_isRightFor 76 = .ok (.iconst 1, 1) := by decide +kernel
theorem dX6_isRightFor_77 : decode cX6_isRightFor 77 = .ok (.goto 4, 3) := by decide +kernel
theorem dX6_isRightFor_80 : decode cX6_isRightFor 80 = .ok (.iconst 0, 1) := by decide +kernel
theorem dX6_isRightFor_81 : decode cX6_isRightFor 81 = .ok (.istore 4, 2) := by decide +kernel
theorem dX6_isRightFor_83 : decode cX6_isRightFor 83 = .ok (.iload 4, 2) := by decide +kernel
theorem dX6_isRightFor_85 : decode cX6_isRightFor 85 = .ok (.ifCond .eq 40, 3) := by decide +kernel
theorem dX6_isRightFor_88 : decode cX6_isRightFor 88 = .ok (.aload_n 0, 1) := by decide +kernel
theorem dX6_isRightFor_89 : decode cX6_isRightFor 89 = .ok (.iload_n 3, 1) := by decide +kernel
theorem dX6_isRightFor_90 : decode cX6_isRightFor 90 = .ok (.bipush 8, 2) := by decide +kernel
theorem dX6_isRightFor_92 : decode cX6_isRightFor 92 = .ok (.invokevirtual 190, 3) := by decide +kernel
theorem dX6_isRightFor_95 : decode cX6_isRightFor 95 = .ok (.ifCond .eq 26, 3) := by decide +kernel
theorem dX6_isRightFor_98 : decode cX6_isRightFor 98 = .ok (.aload_n 0, 1) := by decide +kernel
theorem dX6_isRightFor_99 : decode cX6_isRightFor 99 = .ok (.getfield 59, 3) := by decide +kernel
theorem dX6_isRightFor_102 : decode cX6_isRightFor 102 = .ok (.iload_n 1, 1) := by decide +kernel
theorem dX6_isRightFor_103 : decode cX6_isRightFor 103 = .ok (.iaload, 1) := by decide +kernel
theorem dX6_isRightFor_104 : decode cX6_isRightFor 104 = .ok (.ifCond .ne 21, 3) := by decide +kernel
theorem dX6_isRightFor_107 : decode cX6_isRightFor 107 = .ok (.aload_n 0, 1) := by decide +kernel
theorem dX6_isRightFor_108 : decode cX6_isRightFor 108 = .ok (.aload_n 0, 1) := by decide +kernel
theorem dX6_isRightFor_109 : decode cX6_isRightFor 109 = .ok (.getfield 62, 3) := by decide +kernel
theorem dX6_isRightFor_112 : decode cX6_isRightFor 112 = .ok (.iload_n 1, 1) := by decide +kernel
theorem dX6_isRightFor_113 : decode cX6_isRightFor 113 = .ok (.iaload, 1) := by decide +kernel
theorem dX6_isRightFor_114 : decode cX6_isRightFor 114 = .ok (.iload_n 2, 1) := by decide +kernel
theorem dX6_isRightFor_115 : decode cX6_isRightFor 115 = .ok (.invokevirtual 170, 3) := by decide +kernel
theorem dX6_isRightFor_118 : decode cX6_isRightFor 118 = .ok (.ifCond .eq 7, 3) := by decide +kernel
theorem dX6_isRightFor_121 : decode cX6_isRightFor 121 = .ok (.iconst 1, 1) := by decide +kernel
theorem dX6_isRightFor_122 : decode cX6_isRightFor 122 = .ok (.goto 4, 3) := by decide +kernel
theorem dX6_isRightFor_125 : decode cX6_isRightFor 125 = .ok (.iconst 0, 1) := by decide +kernel
theorem dX6_isRightFor_126 : decode cX6_isRightFor 126 = .ok (.ireturn, 1) := by decide +kernel
theorem dX6_isRight_0 : decode cX6_isRight 0 = .ok (.aload_n 0, 1) := by decide +kernel
theorem dX6_isRight_1 : decode cX6_isRight 1 = .ok (.iload_n 1, 1) := by decide +kernel
theorem dX6_isRight_2 : decode cX6_isRight 2 = .ok (.aload_n 0, 1) := by decide +kernel
theorem dX6_isRight_3 : decode cX6_isRight 3 = .ok (.getfield 34, 3) := by decide +kernel
theorem dX6_isRight_6 : decode cX6_isRight 6 = .ok (.iload_n 2, 1) := by decide +kernel
theorem dX6_isRight_7 : decode cX6_isRight 7 = .ok (.iaload, 1) := by decide +kernel
theorem dX6_isRight_8 : decode cX6_isRight 8 = .ok (.invokevirtual 197, 3) := by decide +kernel
theorem dX6_isRight_11 : decode cX6_isRight 11 = .ok (.ifCond .eq 28, 3) := by decide +kernel
theorem dX6_isRight_14 : decode cX6_isRight 14 = .ok (.iload_n 3, 1) := by decide +kernel
theorem dX6_isRight_15 : decode cX6_isRight 15 = .ok (.ifCond .eq 20, 3) := by decide +kernel
theorem dX6_isRight_18 : decode cX6_isRight 18 = .ok (.aload_n 0, 1) := by decide +kernel
theorem dX6_isRight_19 : decode cX6_isRight 19 = .ok (.getfield 34, 3) := by decide +kernel
theorem dX6_isRight_22 : decode cX6_isRight 22 = .ok (.iload_n 2, 1) := by decide +kernel
theorem dX6_isRight_23 : decode cX6_isRight 23 = .ok (.iaload, 1) := by decide +kernel
theorem dX6_isRight_24 : decode cX6_isRight 24 = .ok (.aload_n 0, 1) := by decide +kernel
theorem dX6_isRight_25 : decode cX6_isRight 25 = .ok (.getfield 77, 3) := by decide +kernel
theorem dX6_isRight_28 : decode cX6_isRight 28 = .ok (.iload_n 3, 1) := by decide +kernel
theorem dX6_isRight_29 : decode cX6_isRight 29 = .ok (.iconst 1, 1) := by decide +kernel
theorem dX6_isRight_30 : decode cX6_isRight 30 = .ok (.isub, 1) := by decide +kernel
theorem dX6_isRight_31 : decode cX6_isRight 31 = .ok (.iaload, 1) := by decide +kernel
theorem dX6_isRight_32 : decode cX6_isRight 32 = .ok (.if_icmp .ne 7, 3) := by decide +kernel
theorem dX6_isRight_35 : decode cX6_isRight 35 = .ok (.iconst 1, 1) := by decide +kernel
theorem dX6_isRight_36 : decode cX6_isRight 36 = .ok (.goto 4, 3) := by decide +kernel
theorem dX6_isRight_39 : decode cX6_isRight 39 = .ok (.iconst 0, 1) := by decide +kernel
theorem dX6_isRight_40 : decode cX6_isRight 40 = .ok (.istore 4, 2) := by decide +kernel
theorem dX6_isRight_42 : decode cX6_isRight 42 = .ok (.iconst 0, 1) := by decide +kernel
theorem dX6_isRight_43 : decode cX6_isRight 43 = .ok (.istore 5, 2) := by decide +kernel
theorem dX6_isRight_45 : decode cX6_isRight 45 = .ok (.iload 5, 2) := by decide +kernel
theorem dX6_isRight_47 : decode cX6_isRight 47 = .ok (.iload_n 3, 1) := by decide +kernel
theorem dX6_isRight_48 : decode cX6_isRight 48 = .ok (.if_icmp .ge 35, 3) := by decide +kernel
theorem dX6_isRight_51 : decode cX6_isRight 51 = .ok (.iload 4, 2) := by decide +kernel
theorem dX6_isRight_53 : decode cX6_isRight 53 = .ok (.ifCond .eq 30, 3) := by decide +kernel
theorem dX6_isRight_56 : decode cX6_isRight 56 = .ok (.aload_n 0, 1) := by decide +kernel
theorem dX6_isRight_57 : decode cX6_isRight 57 = .ok (.iload_n 1, 1) := by decide +kernel
theorem dX6_isRight_58 : decode cX6_isRight 58 = .ok (.aload_n 0, 1) := by decide +kernel
theorem dX6_isRight_59 : decode cX6_isRight 59 = .ok (.iload_n 2, 1) := by decide +kernel
theorem dX6_isRight_60 : decode cX6_isRight 60 = .ok (.aload_n 0, 1) := by decide +kernel
theorem dX6_isRight_61 : decode cX6_isRight 61 = .ok (.getfield 77, 3) := by decide +kernel
theorem dX6_isRight_64 : decode cX6_isRight 64 = .ok (.iload 5, 2) := by decide +kernel
theorem dX6_isRight_66 : decode cX6_isRight 66 = .ok (.iaload, 1) := by decide +kernel
theorem dX6_isRight_67 : decode cX6_isRight 67 = .ok (.invokevirtual 200, 3) := by decide +kernel
theorem dX6_isRight_70 : decode cX6_isRight 70 = .ok (.iload 5, 2) := by decide +kernel
theorem dX6_isRight_72 : decode cX6_isRight 72 = .ok (.invokevirtual 203, 3) := by decide +kernel
theorem dX6_isRight_75 : decode cX6_isRight 75 = .ok (.istore 4, 2) := by decide +kernel
theorem dX6_isRight_77 : decode cX6_isRight 77 = .ok (.iinc 5 1, 3) := by decide +kernel
theorem dX6_isRight_80 : decode cX6_isRight 80 = .ok (.goto (-35), 3) := by decide +kernel
theorem dX6_isRight_83 : decode cX6_isRight 83 = .ok (.iload 4, 2) := by decide +kernel
theorem dX6_isRight_85 : decode cX6_isRight 85 = .ok (.ireturn, 1) := by decide +kernel
theorem dX6_isList_0 : decode cX6_isList 0 = .ok (.iconst 1, 1) := by decide +kernel
theorem dX6_isList_1 : decode cX6_isList 1 = .ok (.istore_n 2, 1) := by decide +kernel
theorem dX6_isList_2 : decode cX6_isList 2 = .ok (.iconst 0, 1) := by decide +kernel
theorem dX6_isList_3 : decode cX6_isList 3 = .ok (.istore_n 3, 1) := by decide +kernel
theorem dX6_isList_4 : decode cX6_isList 4 = .ok (.iload_n 3, 1) := by decide +kernel
theorem dX6_isList_5 : decode cX6_isList 5 = .ok (.aload_n 0, 1) := by decide +kernel
theorem dX6_isList_6 : decode cX6_isList 6 = .ok (.getfield 139, 3) := by decide +kernel
theorem dX6_isList_9 : decode cX6_isList 9 = .ok (.if_icmp .ge 58, 3) := by decide +kernel
theorem dX6_isList_12 : decode cX6_isList 12 = .ok (.iload_n 2, 1) := by decide +kernel
theorem dX6_isList_13 : decode cX6_isList 13 = .ok (.ifCond .eq 46, 3) := by decide +kernel
theorem dX6_isList_16 : decode cX6_isList 16 = .ok (.aload_n 0, 1) := by decide +kernel
theorem dX6_isList_17 : decode cX6_isList 17 = .ok (.iload_n 1, 1) := by decide +kernel
theorem dX6_isList_18 : decode cX6_isList 18 = .ok (.aload_n 0, 1) := by decide +kernel
theorem dX6_isList_19 : decode cX6_isList 19 = .ok (.getfield 77, 3) := by decide +kernel
theorem dX6_isList_22 : decode cX6_isList 22 = .ok (.iload_n 3, 1) := by decide +kernel
theorem dX6_isList_23 : decode cX6_isList 23 = .ok (.iaload, 1) := by decide +kernel
theorem dX6_isList_24 : decode cX6_isList 24 = .ok (.invokevirtual 197, 3) := by decide +kernel
theorem dX6_isList_27 : decode cX6_isList 27 = .ok (.ifCond .eq 32, 3) := by decide +kernel
theorem dX6_isList_30 : decode cX6_isList 30 = .ok (.iload_n 3, 1) := by decide +kernel
theorem dX6_isList_31 : decode cX6_isList 31 = .ok (.ifCond .eq 24, 3) := by decide +kernel
theorem dX6_isList_34 : decode cX6_isList 34 = .ok (.aload_n 0, 1) := by decide +kernel
theorem dX6_isList_35 : decode cX6_isList 35 = .ok (.aload_n 0, 1) := by decide +kernel
theorem dX6_isList_36 : decode cX6_isList 36 = .ok (.getfield 77, 3) := by decide +kernel
theorem dX6_isList_39 : decode cX6_isList 39 = .ok (.iload_n 3, 1) := by decide +kernel
theorem dX6_isList_40 : decode cX6_isList 40 = .ok (.iaload, 1) := by decide +kernel
theorem dX6_isList_41 : decode cX6_isList 41 = .ok (.aload_n 0, 1) := by decide +kernel
theorem dX6_isList_42 : decode cX6_isList 42 = .ok (.getfield 77, 3) := by decide +kernel
theorem dX6_isList_45 : decode cX6_isList 45 = .ok (.iload_n 3, 1) := by decide +kernel
theorem dX6_isList_46 : decode cX6_isList 46 = .ok (.iconst 1, 1) := by decide +kernel
theorem dX6_isList_47 : decode cX6_isList 47 = .ok (.isub, 1) := by decide +kernel
theorem dX6_isList_48 : decode cX6_isList 48 = .ok (.iaload, 1) := by decide +kernel
theorem dX6_isList_49 : decode cX6_isList 49 = .ok (.invokevirtual 206, 3) := by decide +kernel
theorem dX6_isList_52 : decode cX6_isList 52 = .ok (.ifCond .eq 7, 3) := by decide +kernel
theorem dX6_isList_55 : decode cX6_isList 55 = .ok (.iconst 1, 1) := by decide +kernel
theorem dX6_isList_56 : decode cX6_isList 56 = .ok (.goto 4, 3) := by decide +kernel
theorem dX6_isList_59 : decode cX6_isList 59 = .ok (.iconst 0, 1) := by decide +kernel
theorem dX6_isList_60 : decode cX6_isList 60 = .ok (.istore_n 2, 1) := by decide +kernel
theorem dX6_isList_61 : decode cX6_isList 61 = .ok (.iinc 3 1, 3) := by decide +kernel
theorem dX6_isList_64 : decode cX6_isList 64 = .ok (.goto (-60), 3) := by decide +kernel
theorem dX6_isList_67 : decode cX6_isList 67 = .ok (.iload_n 2, 1) := by decide +kernel
theorem dX6_isList_68 : decode cX6_isList 68 = .ok (.ireturn, 1) := by decide +kernel
theorem dX6_isBelow_0 : decode cX6_isBelow 0 = .ok (.aload_n 0, 1) := by decide +kernel
theorem dX6_isBelow_1 : decode cX6_isBelow 1 = .ok (.getfield 13, 3) := by decide +kernel
theorem dX6_isBelow_4 : decode cX6_isBelow 4 = .ok (.iload_n 1, 1) := by decide +kernel
theorem dX6_isBelow_5 : decode cX6_isBelow 5 = .ok (.iaload, 1) := by decide +kernel
theorem dX6_isBelow_6 : decode cX6_isBelow 6 = .ok (.istore_n 3, 1) := by decide +kernel
theorem dX6_isBelow_7 : decode cX6_isBelow 7 = .ok (.iload_n 3, 1) := by decide +kernel
theorem dX6_isBelow_8 : decode cX6_isBelow 8 = .ok (.iconst (-1), 1) := by decide +kernel
theorem dX6_isBelow_9 : decode cX6_isBelow 9 = .ok (.if_icmp .eq 18, 3) := by decide +kernel
theorem dX6_isBelow_12 : decode cX6_isBelow 12 = .ok (.iload_n 3, 1) := by decide +kernel
theorem dX6_isBelow_13 : decode cX6_isBelow 13 = .ok (.iload_n 2, 1) := by decide +kernel
theorem dX6_isBelow_14 : decode cX6_isBelow 14 = .ok (.if_icmp .eq 13, 3) := by decide +kernel
theorem dX6_isBelow_17 : decode cX6_isBelow 17 = .ok (.aload_n 0, 1) := by decide +kernel
theorem dX6_isBelow_18 : decode cX6_isBelow 18 = .ok (.getfield 13, 3) := by decide +kernel
theorem dX6_isBelow_21 : decode cX6_isBelow 21 = .ok (.iload_n 3, 1) := by decide +kernel
theorem dX6_isBelow_22 : decode cX6_isBelow 22 = .ok (.iaload, 1) := by decide +kernel
theorem dX6_isBelow_23 : decode cX6_isBelow 23 = .ok (.istore_n 3, 1) := by decide +kernel
theorem dX6_isBelow_24 : decode cX6_isBelow 24 = .ok (.goto (-17), 3) := by decide +kernel
theorem dX6_isBelow_27 : decode cX6_isBelow 27 = .ok (.iload_n 3, 1) := by decide +kernel
theorem dX6_isBelow_28 : decode cX6_isBelow 28 = .ok (.iload_n 2, 1) := by decide +kernel
theorem dX6_isBelow_29 : decode cX6_isBelow 29 = .ok (.if_icmp .ne 12, 3) := by decide +kernel
theorem dX6_isBelow_32 : decode cX6_isBelow 32 = .ok (.iload_n 3, 1) := by decide +kernel
theorem dX6_isBelow_33 : decode cX6_isBelow 33 = .ok (.iconst (-1), 1) := by decide +kernel
theorem dX6_isBelow_34 : decode cX6_isBelow 34 = .ok (.if_icmp .eq 7, 3) := by decide +kernel
theorem dX6_isBelow_37 : decode cX6_isBelow 37 = .ok (.iconst 1, 1) := by decide +kernel
theorem dX6_isBelow_38 : decode cX6_isBelow 38 = .ok (.goto 4, 3) := by decide +kernel
theorem dX6_isBelow_41 : decode cX6_isBelow 41 = .ok (.iconst 0, 1) := by decide +kernel
theorem dX6_isBelow_42 : decode cX6_isBelow 42 = .ok (.ireturn, 1) := by decide +kernel
theorem dX6_loses_0 : decode cX6_loses 0 = .ok (.aload_n 0, 1) := by decide +kernel
theorem dX6_loses_1 : decode cX6_loses 1 = .ok (.aload_n 0, 1) := by decide +kernel
theorem dX6_loses_2 : decode cX6_loses 2 = .ok (.getfield 68, 3) := by decide +kernel
theorem dX6_loses_5 : decode cX6_loses 5 = .ok (.iload_n 1, 1) := by decide +kernel
theorem dX6_loses_6 : decode cX6_loses 6 = .ok (.iaload, 1) := by decide +kernel
theorem dX6_loses_7 : decode cX6_loses 7 = .ok (.putfield 209, 3) := by decide +kernel
theorem dX6_loses_10 : decode cX6_loses 10 = .ok (.aload_n 0, 1) := by decide +kernel
theorem dX6_loses_11 : decode cX6_loses 11 = .ok (.getfield 68, 3) := by decide +kernel
theorem dX6_loses_14 : decode cX6_loses 14 = .ok (.iload_n 1, 1) := by decide +kernel
theorem dX6_loses_15 : decode cX6_loses 15 = .ok (.iconst 0, 1) := by decide +kernel
theorem dX6_loses_16 : decode cX6_loses 16 = .ok (.iastore, 1) := by decide +kernel
theorem dX6_loses_17 : decode cX6_loses 17 = .ok (.return_, 1) := by decide +kernel
theorem dX6_from_0 : decode cX6_from 0 = .ok (.aload_n 0, 1) := by decide +kernel
theorem dX6_from_1 : decode cX6_from 1 = .ok (.getfield 59, 3) := by decide +kernel
theorem dX6_from_4 : decode cX6_from 4 = .ok (.iload_n 1, 1) := by decide +kernel
theorem dX6_from_5 : decode cX6_from 5 = .ok (.iaload, 1) := by decide +kernel
theorem dX6_from_6 : decode cX6_from 6 = .ok (.ifCond .ne 18, 3) := by decide +kernel
theorem dX6_from_9 : decode cX6_from 9 = .ok (.aload_n 0, 1) := by decide +kernel
theorem dX6_from_10 : decode cX6_from 10 = .ok (.aload_n 0, 1) := by decide +kernel
theorem dX6_from_11 : decode cX6_from 11 = .ok (.getfield 62, 3) := by decide +kernel
theorem dX6_from_14 : decode cX6_from 14 = .ok (.iload_n 1, 1) := by decide +kernel
theorem dX6_from_15 : decode cX6_from 15 = .ok (.iaload, 1) := by decide +kernel
theorem dX6_from_16 : decode cX6_from 16 = .ok (.invokevirtual 167, 3) := by decide +kernel
theorem dX6_from_19 : decode cX6_from 19 = .ok (.iconst 1, 1) := by decide +kernel
theorem dX6_from_20 : decode cX6_from 20 = .ok (.iadd, 1) := by decide +kernel
theorem dX6_from_21 : decode cX6_from 21 = .ok (.goto 51, 3) := by decide +kernel
theorem dX6_from_24 : decode cX6_from 24 = .ok (.aload_n 0, 1) := by decide +kernel
theorem dX6_from_25 : decode cX6_from 25 = .ok (.getfield 59, 3) := by decide +kernel
theorem dX6_from_28 : decode cX6_from 28 = .ok (.iload_n 1, 1) := by decide +kernel
theorem dX6_from_29 : decode cX6_from 29 = .ok (.iaload, 1) := by decide +kernel
theorem dX6_from_30 : decode cX6_from 30 = .ok (.iconst 1, 1) := by decide +kernel
theorem dX6_from_31 : decode cX6_from 31 = .ok (.if_icmp .ne 16, 3) := by decide +kernel
theorem dX6_from_34 : decode cX6_from 34 = .ok (.aload_n 0, 1) := by decide +kernel
theorem dX6_from_35 : decode cX6_from 35 = .ok (.aload_n 0, 1) := by decide +kernel
theorem dX6_from_36 : decode cX6_from 36 = .ok (.getfield 62, 3) := by decide +kernel
theorem dX6_from_39 : decode cX6_from 39 = .ok (.iload_n 1, 1) := by decide +kernel
theorem dX6_from_40 : decode cX6_from 40 = .ok (.iaload, 1) := by decide +kernel
theorem dX6_from_41 : decode cX6_from 41 = .ok (.invokevirtual 167, 3) := by decide +kernel
theorem dX6_from_44 : decode cX6_from 44 = .ok (.goto 28, 3) := by decide +kernel
theorem dX6_from_47 : decode cX6_from 47 = .ok (.aload_n 0, 1) := by decide +kernel
theorem dX6_from_48 : decode cX6_from 48 = .ok (.getfield 59, 3) := by decide +kernel
theorem dX6_from_51 : decode cX6_from 51 = .ok (.iload_n 1, 1) := by decide +kernel
theorem dX6_from_52 : decode cX6_from 52 = .ok (.iaload, 1) := by decide +kernel
theorem dX6_from_53 : decode cX6_from 53 = .ok (.iconst 2, 1) := by decide +kernel
theorem dX6_from_54 : decode cX6_from 54 = .ok (.if_icmp .ne 7, 3) := by decide +kernel
theorem dX6_from_57 : decode cX6_from 57 = .ok (.iconst 0, 1) := by decide +kernel
theorem dX6_from_58 : decode cX6_from 58 = .ok (.goto 14, 3) := by decide +kernel
theorem dX6_from_61 : decode cX6_from 61 = .ok (.aload_n 0, 1) := by decide +kernel
theorem dX6_from_62 : decode cX6_from 62 = .ok (.getfield 47, 3) := by decide +kernel
theorem dX6_from_65 : decode cX6_from 65 = .ok (.aload_n 0, 1) := by decide +kernel
theorem dX6_from_66 : decode cX6_from 66 = .ok (.getfield 53, 3) := by decide +kernel
theorem dX6_from_69 : decode cX6_from 69 = .ok (.iload_n 1, 1) := by decide +kernel
theorem dX6_from_70 : decode cX6_from 70 = .ok (.iaload, 1) := by decide +kernel
theorem dX6_from_71 : decode cX6_from 71 = .ok (.iaload, 1) := by decide +kernel
theorem dX6_from_72 : decode cX6_from 72 = .ok (.ireturn, 1) := by decide +kernel
theorem dX6_finds_0 : decode cX6_finds 0 = .ok (.aload_n 0, 1) := by decide +kernel
theorem dX6_finds_1 : decode cX6_finds 1 = .ok (.getfield 53, 3) := by decide +kernel
theorem dX6_finds_4 : decode cX6_finds 4 = .ok (.iload_n 1, 1) := by decide +kernel
theorem dX6_finds_5 : decode cX6_finds 5 = .ok (.iaload, 1) := by decide +kernel
theorem dX6_finds_6 : decode cX6_finds 6 = .ok (.istore_n 3, 1) := by decide +kernel
theorem dX6_finds_7 : decode cX6_finds 7 = .ok (.iload_n 2, 1) := by decide +kernel
theorem dX6_finds_8 : decode cX6_finds 8 = .ok (.ifCond .ne 7, 3) := by decide +kernel
theorem dX6_finds_11 : decode cX6_finds 11 = .ok (.iconst 0, 1) := by decide +kernel
theorem dX6_finds_12 : decode cX6_finds 12 = .ok (.goto 8, 3) := by decide +kernel
theorem dX6_finds_15 : decode cX6_finds 15 = .ok (.aload_n 0, 1) := by decide +kernel
theorem dX6_finds_16 : decode cX6_finds 16 = .ok (.iload_n 1, 1) := by decide +kernel
theorem dX6_finds_17 : decode cX6_finds 17 = .ok (.invokevirtual 212, 3) := by decide +kernel
theorem dX6_finds_20 : decode cX6_finds 20 = .ok (.istore 4, 2) := by decide +kernel
theorem dX6_finds_22 : decode cX6_finds 22 = .ok (.iload 4, 2) := by decide +kernel
theorem dX6_finds_24 : decode cX6_finds 24 = .ok (.aload_n 0, 1) := by decide +kernel
theorem dX6_finds_25 : decode cX6_finds 25 = .ok (.getfield 47, 3) := by decide +kernel
theorem dX6_finds_28 : decode cX6_finds 28 = .ok (.iload_n 3, 1) := by decide +kernel
theorem dX6_finds_29 : decode cX6_finds 29 = .ok (.iaload, 1) := by decide +kernel
theorem dX6_finds_30 : decode cX6_finds 30 = .ok (.if_icmp .ge 89, 3) := by decide +kernel
theorem dX6_finds_33 : decode cX6_finds 33 = .ok (.iload_n 2, 1) := by decide +kernel
theorem dX6_finds_34 : decode cX6_finds 34 = .ok (.iconst 2, 1) := by decide +kernel
theorem dX6_finds_35 : decode cX6_finds 35 = .ok (.if_icmp .ne 39, 3) := by decide +kernel
theorem dX6_finds_38 : decode cX6_finds 38 = .ok (.aload_n 0, 1) := by decide +kernel
theorem dX6_finds_39 : decode cX6_finds 39 = .ok (.iload_n 3, 1) := by decide +kernel
theorem dX6_finds_40 : decode cX6_finds 40 = .ok (.iload 4, 2) := by decide +kernel
theorem dX6_finds_42 : decode cX6_finds 42 = .ok (.invokevirtual 157, 3) := by decide +kernel
theorem dX6_finds_45 : decode cX6_finds 45 = .ok (.aload_n 0, 1) := by decide +kernel
theorem dX6_finds_46 : decode cX6_finds 46 = .ok (.getfield 65, 3) := by decide +kernel
theorem dX6_finds_49 : decode cX6_finds 49 = .ok (.iload_n 1, 1) := by decide +kernel
theorem dX6_finds_50 : decode cX6_finds 50 = .ok (.iaload, 1) := by decide +kernel
theorem dX6_finds_51 : decode cX6_finds 51 = .ok (.if_icmp .eq 27, 3) := by decide +kernel
theorem dX6_finds_54 : decode cX6_finds 54 = .ok (.aload_n 0, 1) := by decide +kernel
theorem dX6_finds_55 : decode cX6_finds 55 = .ok (.aload_n 0, 1) := by decide +kernel
theorem dX6_finds_56 : decode cX6_finds 56 = .ok (.iload_n 3, 1) := by decide +kernel
theorem dX6_finds_57 : decode cX6_finds 57 = .ok (.iload 4, 2) := by decide +kernel
theorem dX6_finds_59 : decode cX6_finds 59 = .ok (.invokevirtual 157, 3) := by decide +kernel
theorem dX6_finds_62 : decode cX6_finds 62 = .ok (.aload_n 0, 1) := by decide +kernel
theorem dX6_finds_63 : decode cX6_finds 63 = .ok (.getfield 65, 3) := by decide +kernel
theorem dX6_finds_66 : decode cX6_finds 66 = .ok (.iload_n 1, 1) := by decide +kernel
theorem dX6_finds_67 : decode cX6_finds 67 = .ok (.iaload, 1) := by decide +kernel
theorem dX6_finds_68 : decode cX6_finds 68 = .ok (.invokevirtual 170, 3) := by decide +kernel
theorem dX6_finds_71 : decode cX6_finds 71 = .ok (.ifCond .eq 7, 3) := by decide +kernel
theorem dX6_finds_74 : decode cX6_finds 74 = .ok (.iconst 1, 1) := by decide +kernel
theorem dX6_finds_75 : decode cX6_finds 75 = .ok (.goto 4, 3) := by decide +kernel
theorem dX6_finds_78 : decode cX6_finds 78 = .ok (.iconst 0, 1) := by decide +kernel
theorem dX6_finds_79 : decode cX6_finds 79 = .ok (.istore 5, 2) := by decide +kernel
theorem dX6_finds_81 : decode cX6_finds 81 = .ok (.iload 5, 2) := by decide +kernel
theorem dX6_finds_83 : decode cX6_finds 83 = .ok (.ifCond .eq 30, 3) := by decide +kernel
theorem dX6_finds_86 : decode cX6_finds 86 = .ok (.aload_n 0, 1) := by decide +kernel
theorem dX6_finds_87 : decode cX6_finds 87 = .ok (.iload_n 1, 1) := by decide +kernel
theorem dX6_finds_88 : decode cX6_finds 88 = .ok (.aload_n 0, 1) := by decide +kernel
theorem dX6_finds_89 : decode cX6_finds 89 = .ok (.iload_n 3, 1) := by decide +kernel
theorem dX6_finds_90 : decode cX6_finds 90 = .ok (.iload 4, 2) := by decide +kernel
theorem dX6_finds_92 : decode cX6_finds 92 = .ok (.invokevirtual 157, 3) := by decide +kernel
theorem dX6_finds_95 : decode cX6_finds 95 = .ok (.aload_n 0, 1) := by decide +kernel
theorem dX6_finds_96 : decode cX6_finds 96 = .ok (.getfield 139, 3) := by decide +kernel
theorem dX6_finds_99 : decode cX6_finds 99 = .ok (.invokevirtual 215, 3) := by decide +kernel
theorem dX6_finds_102 : decode cX6_finds 102 = .ok (.ifCond .eq 11, 3) := by decide +kernel
theorem dX6_finds_105 : decode cX6_finds 105 = .ok (.aload_n 0, 1) := by decide +kernel
theorem dX6_finds_106 : decode cX6_finds 106 = .ok (.iload_n 3, 1) := by decide +kernel
theorem dX6_finds_107 : decode cX6_finds 107 = .ok (.iload 4, 2) := by decide +kernel
theorem dX6_finds_109 : decode cX6_finds 109 = .ok (.invokevirtual 157, 3) := by decide +kernel
theorem dX6_finds_112 : decode cX6_finds 112 = .ok (.ireturn, 1) := by decide +kernel
theorem dX6_finds_113 : decode cX6_finds 113 = .ok (.iinc 4 1, 3) := by decide +kernel
theorem dX6_finds_116 : decode cX6_finds 116 = .ok (.goto (-94), 3) := by decide +kernel
theorem dX6_finds_119 : decode cX6_finds 119 = .ok (.iconst (-1), 1) := by decide +kernel
theorem dX6_finds_120 : decode cX6_finds 120 = .ok (.ireturn, 1) := by decide +kernel
theorem dX6_fills_0 : decode cX6_fills 0 = .ok (.iconst 0, 1) := by decide +kernel
theorem dX6_fills_1 : decode cX6_fills 1 = .ok (.istore 6, 2) := by decide +kernel
theorem dX6_fills_3 : decode cX6_fills 3 = .ok (.iload 6, 2) := by decide +kernel
theorem dX6_fills_5 : decode cX6_fills 5 = .ok (.iconst 3, 1) := by decide +kernel
theorem dX6_fills_6 : decode cX6_fills 6 = .ok (.if_icmp .ge 31, 3) := by decide +kernel
theorem dX6_fills_9 : decode cX6_fills 9 = .ok (.aload_n 0, 1) := by decide +kernel
theorem dX6_fills_10 : decode cX6_fills 10 = .ok (.getfield 98, 3) := by decide +kernel
theorem dX6_fills_13 : decode cX6_fills 13 = .ok (.iconst 3, 1) := by decide +kernel
theorem dX6_fills_14 : decode cX6_fills 14 = .ok (.iload_n 2, 1) := by decide +kernel
theorem dX6_fills_15 : decode cX6_fills 15 = .ok (.imul, 1) := by decide +kernel
theorem dX6_fills_16 : decode cX6_fills 16 = .ok (.iload 6, 2) := by decide +kernel
theorem dX6_fills_18 : decode cX6_fills 18 = .ok (.iadd, 1) := by decide +kernel
theorem dX6_fills_19 : decode cX6_fills 19 = .ok (.aload_n 0, 1) := by decide +kernel
theorem dX6_fills_20 : decode cX6_fills 20 = .ok (.getfield 40, 3) := by decide +kernel
theorem dX6_fills_23 : decode cX6_fills 23 = .ok (.iconst 3, 1) := by decide +kernel
theorem dX6_fills_24 : decode cX6_fills 24 = .ok (.iload_n 3, 1) := by decide +kernel
theorem dX6_fills_25 : decode cX6_fills 25 = .ok (.imul, 1) := by decide +kernel
theorem dX6_fills_26 : decode cX6_fills 26 = .ok (.iload 6, 2) := by decide +kernel
theorem dX6_fills_28 : decode cX6_fills 28 = .ok (.iadd, 1) := by decide +kernel
theorem dX6_fills_29 : decode cX6_fills 29 = .ok (.iaload, 1) := by decide +kernel
theorem dX6_fills_30 : decode cX6_fills 30 = .ok (.iastore, 1) := by decide +kernel
theorem dX6_fills_31 : decode cX6_fills 31 = .ok (.iinc 6 1, 3) := by decide +kernel
theorem dX6_fills_34 : decode cX6_fills 34 = .ok (.goto (-31), 3) := by decide +kernel
theorem dX6_fills_37 : decode cX6_fills 37 = .ok (.iload 4, 2) := by decide +kernel
theorem dX6_fills_39 : decode cX6_fills 39 = .ok (.ifCond .eq 35, 3) := by decide +kernel
theorem dX6_fills_42 : decode cX6_fills 42 = .ok (.aload_n 0, 1) := by decide +kernel
theorem dX6_fills_43 : decode cX6_fills 43 = .ok (.getfield 71, 3) := by decide +kernel
theorem dX6_fills_46 : decode cX6_fills 46 = .ok (.iconst 4, 1) := by decide +kernel
theorem dX6_fills_47 : decode cX6_fills 47 = .ok (.iload_n 1, 1) := by decide +kernel
theorem dX6_fills_48 : decode cX6_fills 48 = .ok (.imul, 1) := by decide +kernel
theorem dX6_fills_49 : decode cX6_fills 49 = .ok (.iload_n 2, 1) := by decide +kernel
theorem dX6_fills_50 : decode cX6_fills 50 = .ok (.iadd, 1) := by decide +kernel
theorem dX6_fills_51 : decode cX6_fills 51 = .ok (.iload_n 3, 1) := by decide +kernel
theorem dX6_fills_52 : decode cX6_fills 52 = .ok (.iastore, 1) := by decide +kernel
theorem dX6_fills_53 : decode cX6_fills 53 = .ok (.aload_n 0, 1) := by decide +kernel
theorem dX6_fills_54 : decode cX6_fills 54 = .ok (.getfield 74, 3) := by decide +kernel
theorem dX6_fills_57 : decode cX6_fills 57 = .ok (.iconst 4, 1) := by decide +kernel
theorem dX6_fills_58 : decode cX6_fills 58 = .ok (.iload_n 1, 1) := by decide +kernel
theorem dX6_fills_59 : decode cX6_fills 59 = .ok (.imul, 1) := by decide +kernel
theorem dX6_fills_60 : decode cX6_fills 60 = .ok (.iload_n 2, 1) := by decide +kernel
theorem dX6_fills_61 : decode cX6_fills 61 = .ok (.iadd, 1) := by decide +kernel
theorem dX6_fills_62 : decode cX6_fills 62 = .ok (.iload 5, 2) := by decide +kernel
theorem dX6_fills_64 : decode cX6_fills 64 = .ok (.iastore, 1) := by decide +kernel
theorem dX6_fills_65 : decode cX6_fills 65 = .ok (.aload_n 0, 1) := by decide +kernel
theorem dX6_fills_66 : decode cX6_fills 66 = .ok (.getfield 68, 3) := by decide +kernel
theorem dX6_fills_69 : decode cX6_fills 69 = .ok (.iload_n 1, 1) := by decide +kernel
theorem dX6_fills_70 : decode cX6_fills 70 = .ok (.iload_n 2, 1) := by decide +kernel
theorem dX6_fills_71 : decode cX6_fills 71 = .ok (.iconst 1, 1) := by decide +kernel
theorem dX6_fills_72 : decode cX6_fills 72 = .ok (.iadd, 1) := by decide +kernel
theorem dX6_fills_73 : decode cX6_fills 73 = .ok (.iastore, 1) := by decide +kernel
theorem dX6_fills_74 : decode cX6_fills 74 = .ok (.return_, 1) := by decide +kernel
theorem dX6_comesTo_0 : decode cX6_comesTo 0 = .ok (.iconst 0, 1) := by decide +kernel
theorem dX6_comesTo_1 : decode cX6_comesTo 1 = .ok (.istore 5, 2) := by decide +kernel
theorem dX6_comesTo_3 : decode cX6_comesTo 3 = .ok (.aload_n 0, 1) := by decide +kernel
theorem dX6_comesTo_4 : decode cX6_comesTo 4 = .ok (.getfield 139, 3) := by decide +kernel
theorem dX6_comesTo_7 : decode cX6_comesTo 7 = .ok (.ifCond .ne 93, 3) := by decide +kernel
theorem dX6_comesTo_10 : decode cX6_comesTo 10 = .ok (.iload_n 3, 1) := by decide +kernel
theorem dX6_comesTo_11 : decode cX6_comesTo 11 = .ok (.ifCond .eq 89, 3) := by decide +kernel
theorem dX6_comesTo_14 : decode cX6_comesTo 14 = .ok (.aload_n 0, 1) := by decide +kernel
theorem dX6_comesTo_15 : decode cX6_comesTo 15 = .ok (.getfield 59, 3) := by decide +kernel
theorem dX6_comesTo_18 : decode cX6_comesTo 18 = .ok (.iload_n 1, 1) := by decide +kernel
theorem dX6_comesTo_19 : decode cX6_comesTo 19 = .ok (.iaload, 1) := by decide +kernel
theorem dX6_comesTo_20 : decode cX6_comesTo 20 = .ok (.ifCond .ne 80, 3) := by decide +kernel
theorem dX6_comesTo_23 : decode cX6_comesTo 23 = .ok (.aload_n 0, 1) := by decide +kernel
theorem dX6_comesTo_24 : decode cX6_comesTo 24 = .ok (.getfield 34, 3) := by decide +kernel
theorem dX6_comesTo_27 : decode cX6_comesTo 27 = .ok (.aload_n 0, 1) := by decide +kernel
theorem dX6_comesTo_28 : decode cX6_comesTo 28 = .ok (.getfield 62, 3) := by decide +kernel
theorem dX6_comesTo_31 : decode cX6_comesTo 31 = .ok (.iload_n 1, 1) := by decide +kernel
theorem dX6_comesTo_32 : decode cX6_comesTo 32 = .ok (.iaload, 1) := by decide +kernel
theorem dX6_comesTo_33 : decode cX6_comesTo 33 = .ok (.iaload, 1) := by decide +kernel
theorem dX6_comesTo_34 : decode cX6_comesTo 34 = .ok (.istore 6, 2) := by decide +kernel
theorem dX6_comesTo_36 : decode cX6_comesTo 36 = .ok (.aload_n 0, 1) := by decide +kernel
theorem dX6_comesTo_37 : decode cX6_comesTo 37 = .ok (.getfield 22, 3) := by decide +kernel
theorem dX6_comesTo_40 : decode cX6_comesTo 40 = .ok (.aload_n 0, 1) := by decide +kernel
theorem dX6_comesTo_41 : decode cX6_comesTo 41 = .ok (.getfield 34, 3) := by decide +kernel
theorem dX6_comesTo_44 : decode cX6_comesTo 44 = .ok (.iload_n 2, 1) := by decide +kernel
theorem dX6_comesTo_45 : decode cX6_comesTo 45 = .ok (.iaload, 1) := by decide +kernel
theorem dX6_comesTo_46 : decode cX6_comesTo 46 = .ok (.iaload, 1) := by decide +kernel
theorem dX6_comesTo_47 : decode cX6_comesTo 47 = .ok (.aload_n 0, 1) := by decide +kernel
theorem dX6_comesTo_48 : decode cX6_comesTo 48 = .ok (.getfield 22, 3) := by decide +kernel
theorem dX6_comesTo_51 : decode cX6_comesTo 51 = .ok (.iload 6, 2) := by decide +kernel
theorem dX6_comesTo_53 : decode cX6_comesTo 53 = .ok (.iaload, 1) := by decide +kernel
theorem dX6_comesTo_54 : decode cX6_comesTo 54 = .ok (.if_icmp .ge 7, 3) := by decide +kernel
theorem dX6_comesTo_57 : decode cX6_comesTo 57 = .ok (.iconst 1, 1) := by decide +kernel
theorem dX6_comesTo_58 : decode cX6_comesTo 58 = .ok (.goto 40, 3) := by decide +kernel
theorem dX6_comesTo_61 : decode cX6_comesTo 61 = .ok (.aload_n 0, 1) := by decide +kernel
theorem dX6_comesTo_62 : decode cX6_comesTo 62 = .ok (.getfield 22, 3) := by decide +kernel
theorem dX6_comesTo_65 : decode cX6_comesTo 65 = .ok (.aload_n 0, 1) := by decide +kernel
theorem dX6_comesTo_66 : decode cX6_comesTo 66 = .ok (.getfield 34, 3) := by decide +kernel
theorem dX6_comesTo_69 : decode cX6_comesTo 69 = .ok (.iload_n 2, 1) := by decide +kernel
theorem dX6_comesTo_70 : decode cX6_comesTo 70 = .ok (.iaload, 1) := by decide +kernel
theorem dX6_comesTo_71 : decode cX6_comesTo 71 = .ok (.iaload, 1) := by decide +kernel
theorem dX6_comesTo_72 : decode cX6_comesTo 72 = .ok (.aload_n 0, 1) := by decide +kernel
theorem dX6_comesTo_73 : decode cX6_comesTo 73 = .ok (.getfield 22, 3) := by decide +kernel
theorem dX6_comesTo_76 : decode cX6_comesTo 76 = .ok (.iload 6, 2) := by decide +kernel
theorem dX6_comesTo_78 : decode cX6_comesTo 78 = .ok (.iaload, 1) := by decide +kernel
theorem dX6_comesTo_79 : decode cX6_comesTo 79 = .ok (.if_icmp .ne 18, 3) := by decide +kernel
theorem dX6_comesTo_82 : decode cX6_comesTo 82 = .ok (.aload_n 0, 1) := by decide +kernel
theorem dX6_comesTo_83 : decode cX6_comesTo 83 = .ok (.getfield 34, 3) := by decide +kernel
theorem dX6_comesTo_86 : decode cX6_comesTo 86 = .ok (.iload_n 2, 1) := by decide +kernel
theorem dX6_comesTo_87 : decode cX6_comesTo 87 = .ok (.iaload, 1) := by decide +kernel
theorem dX6_comesTo_88 : decode cX6_comesTo 88 = .ok (.iload 6, 2) := by decide +kernel
theorem dX6_comesTo_90 : decode cX6_comesTo 90 = .ok (.if_icmp .eq 7, 3) := by decide +kernel
theorem dX6_comesTo_93 : decode cX6_comesTo 93 = .ok (.iconst 2, 1) := by decide +kernel
theorem dX6_comesTo_94 : decode cX6_comesTo 94 = .ok (.goto 4, 3) := by decide +kernel
theorem dX6_comesTo_97 : decode cX6_comesTo 97 = .ok (.iconst 0, 1) := by decide +kernel
theorem dX6_comesTo_98 : decode cX6_comesTo 98 = .ok (.istore 5, 2) := by decide +kernel
theorem dX6_comesTo_100 : decode cX6_comesTo 100 = .ok (.iconst 0, 1) := by decide +kernel
theorem dX6_comesTo_101 : decode cX6_comesTo 101 = .ok (.istore 6, 2) := by decide +kernel
theorem dX6_comesTo_103 : decode cX6_comesTo 103 = .ok (.iload_n 2, 1) := by decide +kernel
theorem dX6_comesTo_104 : decode cX6_comesTo 104 = .ok (.istore 7, 2) := by decide +kernel
theorem dX6_comesTo_106 : decode cX6_comesTo 106 = .ok (.iconst 0, 1) := by decide +kernel
theorem dX6_comesTo_107 : decode cX6_comesTo 107 = .ok (.istore 8, 2) := by decide +kernel
theorem dX6_comesTo_109 : decode cX6_comesTo 109 = .ok (.iload 8, 2) := by decide +kernel
theorem dX6_comesTo_111 : decode cX6_comesTo 111 = .ok (.aload_n 0, 1) := by decide +kernel
theorem dX6_comesTo_112 : decode cX6_comesTo 112 = .ok (.getfield 139, 3) := by decide +kernel
theorem dX6_comesTo_115 : decode cX6_comesTo 115 = .ok (.if_icmp .ge 94, 3) := by decide +kernel
theorem dX6_comesTo_118 : decode cX6_comesTo 118 = .ok (.aload_n 0, 1) := by decide +kernel
theorem dX6_comesTo_119 : decode cX6_comesTo 119 = .ok (.iload_n 2, 1) := by decide +kernel
theorem dX6_comesTo_120 : decode cX6_comesTo 120 = .ok (.aload_n 0, 1) := by decide +kernel
theorem dX6_comesTo_121 : decode cX6_comesTo 121 = .ok (.getfield 77, 3) := by decide +kernel
theorem dX6_comesTo_124 : decode cX6_comesTo 124 = .ok (.iload 8, 2) := by decide +kernel
theorem dX6_comesTo_126 : decode cX6_comesTo 126 = .ok (.iaload, 1) := by decide +kernel
theorem dX6_comesTo_127 : decode cX6_comesTo 127 = .ok (.invokevirtual 200, 3) := by decide +kernel
theorem dX6_comesTo_130 : decode cX6_comesTo 130 = .ok (.istore 9, 2) := by decide +kernel
theorem dX6_comesTo_132 : decode cX6_comesTo 132 = .ok (.aload_n 0, 1) := by decide +kernel
theorem dX6_comesTo_133 : decode cX6_comesTo 133 = .ok (.iload 8, 2) := by decide +kernel
theorem dX6_comesTo_135 : decode cX6_comesTo 135 = .ok (.iconst 1, 1) := by decide +kernel
theorem dX6_comesTo_136 : decode cX6_comesTo 136 = .ok (.invokevirtual 190, 3) := by decide +kernel
theorem dX6_comesTo_139 : decode cX6_comesTo 139 = .ok (.ifCond .ne 14, 3) := by decide +kernel
theorem dX6_comesTo_142 : decode cX6_comesTo 142 = .ok (.iload 8, 2) := by decide +kernel
theorem dX6_comesTo_144 : decode cX6_comesTo 144 = .ok (.aload_n 0, 1) := by decide +kernel
theorem dX6_comesTo_145 : decode cX6_comesTo 145 = .ok (.getfield 139, 3) := by decide +kernel
theorem dX6_comesTo_148 : decode cX6_comesTo 148 = .ok (.iconst 1, 1) := by decide +kernel
theorem dX6_comesTo_149 : decode cX6_comesTo 149 = .ok (.isub, 1) := by decide +kernel
theorem dX6_comesTo_150 : decode cX6_comesTo 150 = .ok (.if_icmp .ne 33, 3) := by decide +kernel
theorem dX6_comesTo_153 : decode cX6_comesTo 153 = .ok (.aload_n 0, 1) := by decide +kernel
theorem dX6_comesTo_154 : decode cX6_comesTo 154 = .ok (.iload_n 1, 1) := by decide +kernel
theorem dX6_comesTo_155 : decode cX6_comesTo 155 = .ok (.iload 6, 2) := by decide +kernel
theorem dX6_comesTo_157 : decode cX6_comesTo 157 = .ok (.iload 9, 2) := by decide +kernel
theorem dX6_comesTo_159 : decode cX6_comesTo 159 = .ok (.iload 4, 2) := by decide +kernel
theorem dX6_comesTo_161 : decode cX6_comesTo 161 = .ok (.aload_n 0, 1) := by decide +kernel
theorem dX6_comesTo_162 : decode cX6_comesTo 162 = .ok (.iload 8, 2) := by decide +kernel
theorem dX6_comesTo_164 : decode cX6_comesTo 164 = .ok (.bipush 32, 2) := by decide +kernel
theorem dX6_comesTo_166 : decode cX6_comesTo 166 = .ok (.invokevirtual 190, 3) := by decide +kernel
theorem dX6_comesTo_169 : decode cX6_comesTo 169 = .ok (.ifCond .eq 7, 3) := by decide +kernel
theorem dX6_comesTo_172 : decode cX6_comesTo 172 = .ok (.iconst 1, 1) := by decide +kernel
theorem dX6_comesTo_173 : decode cX6_comesTo 173 = .ok (.goto 4, 3) := by decide +kernel
theorem dX6_comesTo_176 : decode cX6_comesTo 176 = .ok (.iconst 0, 1) := by decide +kernel
theorem dX6_comesTo_177 : decode cX6_comesTo 177 = .ok (.invokevirtual 218, 3) := by decide +kernel
theorem dX6_comesTo_180 : decode cX6_comesTo 180 = .ok (.iinc 6 1, 3) := by decide +kernel
theorem dX6_comesTo_183 : decode cX6_comesTo 183 = .ok (.aload_n 0, 1) := by decide +kernel
theorem dX6_comesTo_184 : decode cX6_comesTo 184 = .ok (.iload 8, 2) := by decide +kernel
theorem dX6_comesTo_186 : decode cX6_comesTo 186 = .ok (.bipush 16, 2) := by decide +kernel
theorem dX6_comesTo_188 : decode cX6_comesTo 188 = .ok (.invokevirtual 190, 3) := by decide +kernel
theorem dX6_comesTo_191 : decode cX6_comesTo 191 = .ok (.ifCond .eq 8, 3) := by decide +kernel
theorem dX6_comesTo_194 : decode cX6_comesTo 194 = .ok (.iload 9, 2) := by decide +kernel
theorem dX6_comesTo_196 : decode cX6_comesTo 196 = .ok (.goto 5, 3) := by decide +kernel
theorem dX6_comesTo_199 : decode cX6_comesTo 199 = .ok (.iload 7, 2) := by decide +kernel
theorem dX6_comesTo_201 : decode cX6_comesTo 201 = .ok (.istore 7, 2) := by decide +kernel
theorem dX6_comesTo_203 : decode cX6_comesTo 203 = .ok (.iinc 8 1, 3) := by decide +kernel
theorem dX6_comesTo_206 : decode cX6_comesTo 206 = .ok (.goto (-97), 3) := by decide +kernel
theorem dX6_comesTo_209 : decode cX6_comesTo 209 = .ok (.aload_n 0, 1) := by decide +kernel
theorem dX6_comesTo_210 : decode cX6_comesTo 210 = .ok (.getfield 139, 3) := by decide +kernel
theorem dX6_comesTo_213 : decode cX6_comesTo 213 = .ok (.ifCond .ne 13, 3) := by decide +kernel
theorem dX6_comesTo_216 : decode cX6_comesTo 216 = .ok (.aload_n 0, 1) := by decide +kernel
theorem dX6_comesTo_217 : decode cX6_comesTo 217 = .ok (.iload_n 1, 1) := by decide +kernel
theorem dX6_comesTo_218 : decode cX6_comesTo 218 = .ok (.iconst 0, 1) := by decide +kernel
theorem dX6_comesTo_219 : decode cX6_comesTo 219 = .ok (.iload_n 2, 1) := by decide +kernel
theorem dX6_comesTo_220 : decode cX6_comesTo 220 = .ok (.iload 4, 2) := by decide +kernel
theorem dX6_comesTo_222 : decode cX6_comesTo 222 = .ok (.iconst 0, 1) := by decide +kernel
theorem dX6_comesTo_223 : decode cX6_comesTo 223 = .ok (.invokevirtual 218, 3) := by decide +kernel
theorem dX6_comesTo_226 : decode cX6_comesTo 226 = .ok (.aload_n 0, 1) := by decide +kernel
theorem dX6_comesTo_227 : decode cX6_comesTo 227 = .ok (.getfield 65, 3) := by decide +kernel
theorem dX6_comesTo_230 : decode cX6_comesTo 230 = .ok (.iload_n 1, 1) := by decide +kernel
theorem dX6_comesTo_231 : decode cX6_comesTo 231 = .ok (.iload_n 3, 1) := by decide +kernel
theorem dX6_comesTo_232 : decode cX6_comesTo 232 = .ok (.iconst 2, 1) := by decide +kernel
theorem dX6_comesTo_233 : decode cX6_comesTo 233 = .ok (.if_icmp .ne 12, 3) := by decide +kernel
theorem dX6_comesTo_236 : decode cX6_comesTo 236 = .ok (.aload_n 0, 1) := by decide +kernel
theorem dX6_comesTo_237 : decode cX6_comesTo 237 = .ok (.getfield 65, 3) := by decide +kernel
theorem dX6_comesTo_240 : decode cX6_comesTo 240 = .ok (.iload_n 1, 1) := by decide +kernel
theorem dX6_comesTo_241 : decode cX6_comesTo 241 = .ok (.iaload, 1) := by decide +kernel
theorem dX6_comesTo_242 : decode cX6_comesTo 242 = .ok (.goto 5, 3) := by decide +kernel
theorem dX6_comesTo_245 : decode cX6_comesTo 245 = .ok (.iload 7, 2) := by decide +kernel
theorem dX6_comesTo_247 : decode cX6_comesTo 247 = .ok (.iastore, 1) := by decide +kernel
theorem dX6_comesTo_248 : decode cX6_comesTo 248 = .ok (.aload_n 0, 1) := by decide +kernel
theorem dX6_comesTo_249 : decode cX6_comesTo 249 = .ok (.getfield 59, 3) := by decide +kernel
theorem dX6_comesTo_252 : decode cX6_comesTo 252 = .ok (.iload_n 1, 1) := by decide +kernel
theorem dX6_comesTo_253 : decode cX6_comesTo 253 = .ok (.iconst 0, 1) := by decide +kernel
theorem dX6_comesTo_254 : decode cX6_comesTo 254 = .ok (.iastore, 1) := by decide +kernel
theorem dX6_comesTo_255 : decode cX6_comesTo 255 = .ok (.aload_n 0, 1) := by decide +kernel
theorem dX6_comesTo_256 : decode cX6_comesTo 256 = .ok (.getfield 62, 3) := by decide +kernel
theorem dX6_comesTo_259 : decode cX6_comesTo 259 = .ok (.iload_n 1, 1) := by decide +kernel
theorem dX6_comesTo_260 : decode cX6_comesTo 260 = .ok (.iload_n 2, 1) := by decide +kernel
theorem dX6_comesTo_261 : decode cX6_comesTo 261 = .ok (.iastore, 1) := by decide +kernel
theorem dX6_comesTo_262 : decode cX6_comesTo 262 = .ok (.iload 5, 2) := by decide +kernel
theorem dX6_comesTo_264 : decode cX6_comesTo 264 = .ok (.ireturn, 1) := by decide +kernel
theorem dX6_gets_0 : decode cX6_gets 0 = .ok (.aload_n 0, 1) := by decide +kernel
theorem dX6_gets_1 : decode cX6_gets 1 = .ok (.iload_n 1, 1) := by decide +kernel
theorem dX6_gets_2 : decode cX6_gets 2 = .ok (.invokevirtual 222, 3) := by decide +kernel
theorem dX6_gets_5 : decode cX6_gets 5 = .ok (.ifCond .ne 5, 3) := by decide +kernel
theorem dX6_gets_8 : decode cX6_gets 8 = .ok (.iconst 4, 1) := by decide +kernel
theorem dX6_gets_9 : decode cX6_gets 9 = .ok (.ireturn, 1) := by decide +kernel
theorem dX6_gets_10 : decode cX6_gets 10 = .ok (.iload_n 2, 1) := by decide +kernel
theorem dX6_gets_11 : decode cX6_gets 11 = .ok (.iconst 2, 1) := by decide +kernel
theorem dX6_gets_12 : decode cX6_gets 12 = .ok (.if_icmp .ne 15, 3) := by decide +kernel
theorem dX6_gets_15 : decode cX6_gets 15 = .ok (.aload_n 0, 1) := by decide +kernel
theorem dX6_gets_16 : decode cX6_gets 16 = .ok (.getfield 65, 3) := by decide +kernel
theorem dX6_gets_19 : decode cX6_gets 19 = .ok (.iload_n 1, 1) := by decide +kernel
theorem dX6_gets_20 : decode cX6_gets 20 = .ok (.iaload, 1) := by decide +kernel
theorem dX6_gets_21 : decode cX6_gets 21 = .ok (.iconst (-1), 1) := by decide +kernel
theorem dX6_gets_22 : decode cX6_gets 22 = .ok (.if_icmp .ne 5, 3) := by decide +kernel
theorem dX6_gets_25 : decode cX6_gets 25 = .ok (.iconst 5, 1) := by decide +kernel
theorem dX6_gets_26 : decode cX6_gets 26 = .ok (.ireturn, 1) := by decide +kernel
theorem dX6_gets_27 : decode cX6_gets 27 = .ok (.aload_n 0, 1) := by decide +kernel
theorem dX6_gets_28 : decode cX6_gets 28 = .ok (.iload_n 1, 1) := by decide +kernel
theorem dX6_gets_29 : decode cX6_gets 29 = .ok (.iload_n 2, 1) := by decide +kernel
theorem dX6_gets_30 : decode cX6_gets 30 = .ok (.invokevirtual 225, 3) := by decide +kernel
theorem dX6_gets_33 : decode cX6_gets 33 = .ok (.istore 4, 2) := by decide +kernel
theorem dX6_gets_35 : decode cX6_gets 35 = .ok (.iload 4, 2) := by decide +kernel
theorem dX6_gets_37 : decode cX6_gets 37 = .ok (.iconst (-1), 1) := by decide +kernel
theorem dX6_gets_38 : decode cX6_gets 38 = .ok (.if_icmp .eq 13, 3) := by decide +kernel
theorem dX6_gets_41 : decode cX6_gets 41 = .ok (.aload_n 0, 1) := by decide +kernel
theorem dX6_gets_42 : decode cX6_gets 42 = .ok (.iload_n 1, 1) := by decide +kernel
theorem dX6_gets_43 : decode cX6_gets 43 = .ok (.iload 4, 2) := by decide +kernel
theorem dX6_gets_45 : decode cX6_gets 45 = .ok (.iload_n 2, 1) := by decide +kernel
theorem dX6_gets_46 : decode cX6_gets 46 = .ok (.iload_n 3, 1) := by decide +kernel
theorem dX6_gets_47 : decode cX6_gets 47 = .ok (.invokevirtual 228, 3) := by decide +kernel
theorem dX6_gets_50 : decode cX6_gets 50 = .ok (.ireturn, 1) := by decide +kernel
theorem dX6_gets_51 : decode cX6_gets 51 = .ok (.iload_n 2, 1) := by decide +kernel
theorem dX6_gets_52 : decode cX6_gets 52 = .ok (.iconst 1, 1) := by decide +kernel
theorem dX6_gets_53 : decode cX6_gets 53 = .ok (.if_icmp .ne 10, 3) := by decide +kernel
theorem dX6_gets_56 : decode cX6_gets 56 = .ok (.aload_n 0, 1) := by decide +kernel
theorem dX6_gets_57 : decode cX6_gets 57 = .ok (.getfield 139, 3) := by decide +kernel
theorem dX6_gets_60 : decode cX6_gets 60 = .ok (.ifCond .le 6, 3) := by decide +kernel
theorem dX6_gets_63 : decode cX6_gets 63 = .ok (.bipush 7, 2) := by decide +kernel
theorem dX6_gets_65 : decode cX6_gets 65 = .ok (.ireturn, 1) := by decide +kernel
theorem dX6_gets_66 : decode cX6_gets 66 = .ok (.aload_n 0, 1) := by decide +kernel
theorem dX6_gets_67 : decode cX6_gets 67 = .ok (.getfield 59, 3) := by decide +kernel
theorem dX6_gets_70 : decode cX6_gets 70 = .ok (.iload_n 1, 1) := by decide +kernel
theorem dX6_gets_71 : decode cX6_gets 71 = .ok (.iconst 2, 1) := by decide +kernel
theorem dX6_gets_72 : decode cX6_gets 72 = .ok (.iastore, 1) := by decide +kernel
theorem dX6_gets_73 : decode cX6_gets 73 = .ok (.aload_n 0, 1) := by decide +kernel
theorem dX6_gets_74 : decode cX6_gets 74 = .ok (.getfield 62, 3) := by decide +kernel
theorem dX6_gets_77 : decode cX6_gets 77 = .ok (.iload_n 1, 1) := by decide +kernel
theorem dX6_gets_78 : decode cX6_gets 78 = .ok (.iconst (-1), 1) := by decide +kernel
theorem dX6_gets_79 : decode cX6_gets 79 = .ok (.iastore, 1) := by decide +kernel
theorem dX6_gets_80 : decode cX6_gets 80 = .ok (.iconst 3, 1) := by decide +kernel
theorem dX6_gets_81 : decode cX6_gets 81 = .ok (.ireturn, 1) := by decide +kernel
theorem dX6_get_0 : decode cX6_get 0 = .ok (.aload_n 0, 1) := by decide +kernel
theorem dX6_get_1 : decode cX6_get 1 = .ok (.iload_n 1, 1) := by decide +kernel
theorem dX6_get_2 : decode cX6_get 2 = .ok (.invokestatic 136, 3) := by decide +kernel
theorem dX6_get_5 : decode cX6_get 5 = .ok (.iload_n 2, 1) := by decide +kernel
theorem dX6_get_6 : decode cX6_get 6 = .ok (.iconst 0, 1) := by decide +kernel
theorem dX6_get_7 : decode cX6_get 7 = .ok (.iconst 2, 1) := by decide +kernel
theorem dX6_get_8 : decode cX6_get 8 = .ok (.invokestatic 115, 3) := by decide +kernel
theorem dX6_get_11 : decode cX6_get 11 = .ok (.iconst 1, 1) := by decide +kernel
theorem dX6_get_12 : decode cX6_get 12 = .ok (.invokevirtual 132, 3) := by decide +kernel
theorem dX6_get_15 : decode cX6_get 15 = .ok (.ifCond .ne 5, 3) := by decide +kernel
theorem dX6_get_18 : decode cX6_get 18 = .ok (.iconst 0, 1) := by decide +kernel
theorem dX6_get_19 : decode cX6_get 19 = .ok (.ireturn, 1) := by decide +kernel
theorem dX6_get_20 : decode cX6_get 20 = .ok (.aload_n 0, 1) := by decide +kernel
theorem dX6_get_21 : decode cX6_get 21 = .ok (.iload_n 1, 1) := by decide +kernel
theorem dX6_get_22 : decode cX6_get 22 = .ok (.invokevirtual 232, 3) := by decide +kernel
theorem dX6_get_25 : decode cX6_get 25 = .ok (.aload_n 0, 1) := by decide +kernel
theorem dX6_get_26 : decode cX6_get 26 = .ok (.iload_n 1, 1) := by decide +kernel
theorem dX6_get_27 : decode cX6_get 27 = .ok (.iload_n 2, 1) := by decide +kernel
theorem dX6_get_28 : decode cX6_get 28 = .ok (.iload_n 3, 1) := by decide +kernel
theorem dX6_get_29 : decode cX6_get 29 = .ok (.invokevirtual 236, 3) := by decide +kernel
theorem dX6_get_32 : decode cX6_get 32 = .ok (.istore 4, 2) := by decide +kernel
theorem dX6_get_34 : decode cX6_get 34 = .ok (.aload_n 0, 1) := by decide +kernel
theorem dX6_get_35 : decode cX6_get 35 = .ok (.invokevirtual 145, 3) := by decide +kernel
theorem dX6_get_38 : decode cX6_get 38 = .ok (.istore 5, 2) := by decide +kernel
theorem dX6_get_40 : decode cX6_get 40 = .ok (.iload 4, 2) := by decide +kernel
theorem dX6_get_42 : decode cX6_get 42 = .ok (.ireturn, 1) := by decide +kernel
theorem dX6_firstNew_0 : decode cX6_firstNew 0 = .ok (.aload_n 0, 1) := by decide +kernel
theorem dX6_firstNew_1 : decode cX6_firstNew 1 = .ok (.getfield 139, 3) := by decide +kernel
theorem dX6_firstNew_4 : decode cX6_firstNew 4 = .ok (.iconst 1, 1) := by decide +kernel
theorem dX6_firstNew_5 : decode cX6_firstNew 5 = .ok (.isub, 1) := by decide +kernel
theorem dX6_firstNew_6 : decode cX6_firstNew 6 = .ok (.istore_n 1, 1) := by decide +kernel
theorem dX6_firstNew_7 : decode cX6_firstNew 7 = .ok (.aload_n 0, 1) := by decide +kernel
theorem dX6_firstNew_8 : decode cX6_firstNew 8 = .ok (.getfield 139, 3) := by decide +kernel
theorem dX6_firstNew_11 : decode cX6_firstNew 11 = .ok (.iconst 1, 1) := by decide +kernel
theorem dX6_firstNew_12 : decode cX6_firstNew 12 = .ok (.isub, 1) := by decide +kernel
theorem dX6_firstNew_13 : decode cX6_firstNew 13 = .ok (.istore_n 2, 1) := by decide +kernel
theorem dX6_firstNew_14 : decode cX6_firstNew 14 = .ok (.iload_n 2, 1) := by decide +kernel
theorem dX6_firstNew_15 : decode cX6_firstNew 15 = .ok (.ifCond .lt 24, 3) := by decide +kernel
theorem dX6_firstNew_18 : decode cX6_firstNew 18 = .ok (.aload_n 0, 1) := by decide +kernel
theorem dX6_firstNew_19 : decode cX6_firstNew 19 = .ok (.iload_n 2, 1) := by decide +kernel
theorem dX6_firstNew_20 : decode cX6_firstNew 20 = .ok (.iconst 1, 1) := by decide +kernel
theorem dX6_firstNew_21 : decode cX6_firstNew 21 = .ok (.invokevirtual 190, 3) := by decide +kernel
theorem dX6_firstNew_24 : decode cX6_firstNew 24 = .ok (.ifCond .eq 7, 3) := by decide +kernel
theorem dX6_firstNew_27 : decode cX6_firstNew 27 = .ok (.iload_n 2, 1) := by decide +kernel
theorem dX6_firstNew_28 : decode cX6_firstNew 28 = .ok (.goto 4, 3) := by decide +kernel
theorem dX6_firstNew_31 : decode cX6_firstNew 31 = .ok (.iload_n 1, 1) := by decide +kernel
theorem dX6_firstNew_32 : decode cX6_firstNew 32 = .ok (.istore_n 1, 1) := by decide +kernel
theorem dX6_firstNew_33 : decode cX6_firstNew 33 = .ok (.iinc 2 (-1), 3) := by decide +kernel
theorem dX6_firstNew_36 : decode cX6_firstNew 36 = .ok (.goto (-22), 3) := by decide +kernel
theorem dX6_firstNew_39 : decode cX6_firstNew 39 = .ok (.iload_n 1, 1) := by decide +kernel
theorem dX6_firstNew_40 : decode cX6_firstNew 40 = .ok (.ireturn, 1) := by decide +kernel
theorem dX6_areNew_0 : decode cX6_areNew 0 = .ok (.iload_n 1, 1) := by decide +kernel
theorem dX6_areNew_1 : decode cX6_areNew 1 = .ok (.ifCond .eq 25, 3) := by decide +kernel
theorem dX6_areNew_4 : decode cX6_areNew 4 = .ok (.aload_n 0, 1) := by decide +kernel
theorem dX6_areNew_5 : decode cX6_areNew 5 = .ok (.getfield 13, 3) := by decide +kernel
theorem dX6_areNew_8 : decode cX6_areNew 8 = .ok (.aload_n 0, 1) := by decide +kernel
theorem dX6_areNew_9 : decode cX6_areNew 9 = .ok (.getfield 77, 3) := by decide +kernel
theorem dX6_areNew_12 : decode cX6_areNew 12 = .ok (.iload_n 1, 1) := by decide +kernel
theorem dX6_areNew_13 : decode cX6_areNew 13 = .ok (.iaload, 1) := by decide +kernel
theorem dX6_areNew_14 : decode cX6_areNew 14 = .ok (.iaload, 1) := by decide +kernel
theorem dX6_areNew_15 : decode cX6_areNew 15 = .ok (.aload_n 0, 1) := by decide +kernel
theorem dX6_areNew_16 : decode cX6_areNew 16 = .ok (.getfield 77, 3) := by decide +kernel
theorem dX6_areNew_19 : decode cX6_areNew 19 = .ok (.iload_n 1, 1) := by decide +kernel
theorem dX6_areNew_20 : decode cX6_areNew 20 = .ok (.iconst 1, 1) := by decide +kernel
theorem dX6_areNew_21 : decode cX6_areNew 21 = .ok (.isub, 1) := by decide +kernel
theorem dX6_areNew_22 : decode cX6_areNew 22 = .ok (.iaload, 1) := by decide +kernel
theorem dX6_areNew_23 : decode cX6_areNew 23 = .ok (.if_icmp .ne 7, 3) := by decide +kernel
theorem dX6_areNew_26 : decode cX6_areNew 26 = .ok (.iconst 1, 1) := by decide +kernel
theorem dX6_areNew_27 : decode cX6_areNew 27 = .ok (.goto 4, 3) := by decide +kernel
theorem dX6_areNew_30 : decode cX6_areNew 30 = .ok (.iconst 0, 1) := by decide +kernel
theorem dX6_areNew_31 : decode cX6_areNew 31 = .ok (.istore_n 2, 1) := by decide +kernel
theorem dX6_areNew_32 : decode cX6_areNew 32 = .ok (.iload_n 1, 1) := by decide +kernel
theorem dX6_areNew_33 : decode cX6_areNew 33 = .ok (.istore_n 3, 1) := by decide +kernel
theorem dX6_areNew_34 : decode cX6_areNew 34 = .ok (.iload_n 3, 1) := by decide +kernel
theorem dX6_areNew_35 : decode cX6_areNew 35 = .ok (.aload_n 0, 1) := by decide +kernel
theorem dX6_areNew_36 : decode cX6_areNew 36 = .ok (.getfield 139, 3) := by decide +kernel
theorem dX6_areNew_39 : decode cX6_areNew 39 = .ok (.if_icmp .ge 55, 3) := by decide +kernel
theorem dX6_areNew_42 : decode cX6_areNew 42 = .ok (.iload_n 2, 1) := by decide +kernel
theorem dX6_areNew_43 : decode cX6_areNew 43 = .ok (.ifCond .eq 43, 3) := by decide +kernel
theorem dX6_areNew_46 : decode cX6_areNew 46 = .ok (.aload_n 0, 1) := by decide +kernel
theorem dX6_areNew_47 : decode cX6_areNew 47 = .ok (.getfield 83, 3) := by decide +kernel
theorem dX6_areNew_50 : decode cX6_areNew 50 = .ok (.iload_n 3, 1) := by decide +kernel
theorem dX6_areNew_51 : decode cX6_areNew 51 = .ok (.iaload, 1) := by decide +kernel
theorem dX6_areNew_52 : decode cX6_areNew 52 = .ok (.ifCond .ne 34, 3) := by decide +kernel
theorem dX6_areNew_55 : decode cX6_areNew 55 = .ok (.iload_n 3, 1) := by decide +kernel
theorem dX6_areNew_56 : decode cX6_areNew 56 = .ok (.iload_n 1, 1) := by decide +kernel
theorem dX6_areNew_57 : decode cX6_areNew 57 = .ok (.if_icmp .eq 25, 3) := by decide +kernel
theorem dX6_areNew_60 : decode cX6_areNew 60 = .ok (.aload_n 0, 1) := by decide +kernel
theorem dX6_areNew_61 : decode cX6_areNew 61 = .ok (.getfield 13, 3) := by decide +kernel
theorem dX6_areNew_64 : decode cX6_areNew 64 = .ok (.aload_n 0, 1) := by decide +kernel
theorem dX6_areNew_65 : decode cX6_areNew 65 = .ok (.getfield 77, 3) := by decide +kernel
theorem dX6_areNew_68 : decode cX6_areNew 68 = .ok (.iload_n 3, 1) := by decide +kernel
theorem dX6_areNew_69 : decode cX6_areNew 69 = .ok (.iaload, 1) := by decide +kernel
theorem dX6_areNew_70 : decode cX6_areNew 70 = .ok (.iaload, 1) := by decide +kernel
theorem dX6_areNew_71 : decode cX6_areNew 71 = .ok (.aload_n 0, 1) := by decide +kernel
theorem dX6_areNew_72 : decode cX6_areNew 72 = .ok (.getfield 77, 3) := by decide +kernel
theorem dX6_areNew_75 : decode cX6_areNew 75 = .ok (.iload_n 3, 1) := by decide +kernel
theorem dX6_areNew_76 : decode cX6_areNew 76 = .ok (.iconst 1, 1) := by decide +kernel
theorem dX6_areNew_77 : decode cX6_areNew 77 = .ok (.isub, 1) := by decide +kernel
theorem dX6_areNew_78 : decode cX6_areNew 78 = .ok (.iaload, 1) := by decide +kernel
theorem dX6_areNew_79 : decode cX6_areNew 79 = .ok (.if_icmp .ne 7, 3) := by decide +kernel
theorem dX6_areNew_82 : decode cX6_areNew 82 = .ok (.iconst 1, 1) := by decide +kernel
theorem dX6_areNew_83 : decode cX6_areNew 83 = .ok (.goto 4, 3) := by decide +kernel
theorem dX6_areNew_86 : decode cX6_areNew 86 = .ok (.iconst 0, 1) := by decide +kernel
theorem dX6_areNew_87 : decode cX6_areNew 87 = .ok (.istore_n 2, 1) := by decide +kernel
theorem dX6_areNew_88 : decode cX6_areNew 88 = .ok (.iinc 3 1, 3) := by decide +kernel
theorem dX6_areNew_91 : decode cX6_areNew 91 = .ok (.goto (-57), 3) := by decide +kernel
theorem dX6_areNew_94 : decode cX6_areNew 94 = .ok (.iload_n 2, 1) := by decide +kernel
theorem dX6_areNew_95 : decode cX6_areNew 95 = .ok (.ireturn, 1) := by decide +kernel
theorem dX6_parentFor_0 : decode cX6_parentFor 0 = .ok (.aload_n 0, 1) := by decide +kernel
theorem dX6_parentFor_1 : decode cX6_parentFor 1 = .ok (.getfield 53, 3) := by decide +kernel
theorem dX6_parentFor_4 : decode cX6_parentFor 4 = .ok (.iload_n 1, 1) := by decide +kernel
theorem dX6_parentFor_5 : decode cX6_parentFor 5 = .ok (.iaload, 1) := by decide +kernel
theorem dX6_parentFor_6 : decode cX6_parentFor 6 = .ok (.istore_n 3, 1) := by decide +kernel
theorem dX6_parentFor_7 : decode cX6_parentFor 7 = .ok (.iconst 0, 1) := by decide +kernel
theorem dX6_parentFor_8 : decode cX6_parentFor 8 = .ok (.istore 4, 2) := by decide +kernel
theorem dX6_parentFor_10 : decode cX6_parentFor 10 = .ok (.iload 4, 2) := by decide +kernel
theorem dX6_parentFor_12 : decode cX6_parentFor 12 = .ok (.aload_n 0, 1) := by decide +kernel
theorem dX6_parentFor_13 : decode cX6_parentFor 13 = .ok (.getfield 47, 3) := by decide +kernel
theorem dX6_parentFor_16 : decode cX6_parentFor 16 = .ok (.iload_n 3, 1) := by decide +kernel
theorem dX6_parentFor_17 : decode cX6_parentFor 17 = .ok (.iaload, 1) := by decide +kernel
theorem dX6_parentFor_18 : decode cX6_parentFor 18 = .ok (.if_icmp .ge 37, 3) := by decide +kernel
theorem dX6_parentFor_21 : decode cX6_parentFor 21 = .ok (.iload_n 2, 1) := by decide +kernel
theorem dX6_parentFor_22 : decode cX6_parentFor 22 = .ok (.ifCond .le 33, 3) := by decide +kernel
theorem dX6_parentFor_25 : decode cX6_parentFor 25 = .ok (.aload_n 0, 1) := by decide +kernel
theorem dX6_parentFor_26 : decode cX6_parentFor 26 = .ok (.iload_n 1, 1) := by decide +kernel
theorem dX6_parentFor_27 : decode cX6_parentFor 27 = .ok (.aload_n 0, 1) := by decide +kernel
theorem dX6_parentFor_28 : decode cX6_parentFor 28 = .ok (.iload_n 3, 1) := by decide +kernel
theorem dX6_parentFor_29 : decode cX6_parentFor 29 = .ok (.iload 4, 2) := by decide +kernel
theorem dX6_parentFor_31 : decode cX6_parentFor 31 = .ok (.invokevirtual 157, 3) := by decide +kernel
theorem dX6_parentFor_34 : decode cX6_parentFor 34 = .ok (.iload_n 2, 1) := by decide +kernel
theorem dX6_parentFor_35 : decode cX6_parentFor 35 = .ok (.invokevirtual 215, 3) := by decide +kernel
theorem dX6_parentFor_38 : decode cX6_parentFor 38 = .ok (.ifCond .eq 11, 3) := by decide +kernel
theorem dX6_parentFor_41 : decode cX6_parentFor 41 = .ok (.aload_n 0, 1) := by decide +kernel
theorem dX6_parentFor_42 : decode cX6_parentFor 42 = .ok (.iload_n 3, 1) := by decide +kernel
theorem dX6_parentFor_43 : decode cX6_parentFor 43 = .ok (.iload 4, 2) := by decide +kernel
theorem dX6_parentFor_45 : decode cX6_parentFor 45 = .ok (.invokevirtual 157, 3) := by decide +kernel
theorem dX6_parentFor_48 : decode cX6_parentFor 48 = .ok (.ireturn, 1) := by decide +kernel
theorem dX6_parentFor_49 : decode cX6_parentFor 49 = .ok (.iinc 4 1, 3) := by decide +kernel
theorem dX6_parentFor_52 : decode cX6_parentFor 52 = .ok (.goto (-42), 3) := by decide +kernel
theorem dX6_parentFor_55 : decode cX6_parentFor 55 = .ok (.iload_n 2, 1) := by decide +kernel
theorem dX6_parentFor_56 : decode cX6_parentFor 56 = .ok (.ifCond .gt 12, 3) := by decide +kernel
theorem dX6_parentFor_59 : decode cX6_parentFor 59 = .ok (.aload_n 0, 1) := by decide +kernel
theorem dX6_parentFor_60 : decode cX6_parentFor 60 = .ok (.getfield 59, 3) := by decide +kernel
theorem dX6_parentFor_63 : decode cX6_parentFor 63 = .ok (.iload_n 1, 1) := by decide +kernel
theorem dX6_parentFor_64 : decode cX6_parentFor 64 = .ok (.iaload, 1) := by decide +kernel
theorem dX6_parentFor_65 : decode cX6_parentFor 65 = .ok (.ifCond .eq 7, 3) := by decide +kernel
theorem dX6_parentFor_68 : decode cX6_parentFor 68 = .ok (.iconst (-1), 1) := by decide +kernel
theorem dX6_parentFor_69 : decode cX6_parentFor 69 = .ok (.goto 24, 3) := by decide +kernel
theorem dX6_parentFor_72 : decode cX6_parentFor 72 = .ok (.aload_n 0, 1) := by decide +kernel
theorem dX6_parentFor_73 : decode cX6_parentFor 73 = .ok (.aload_n 0, 1) := by decide +kernel
theorem dX6_parentFor_74 : decode cX6_parentFor 74 = .ok (.getfield 62, 3) := by decide +kernel
theorem dX6_parentFor_77 : decode cX6_parentFor 77 = .ok (.iload_n 1, 1) := by decide +kernel
theorem dX6_parentFor_78 : decode cX6_parentFor 78 = .ok (.iaload, 1) := by decide +kernel
theorem dX6_parentFor_79 : decode cX6_parentFor 79 = .ok (.aload_n 0, 1) := by decide +kernel
theorem dX6_parentFor_80 : decode cX6_parentFor 80 = .ok (.getfield 13, 3) := by decide +kernel
theorem dX6_parentFor_83 : decode cX6_parentFor 83 = .ok (.aload_n 0, 1) := by decide +kernel
theorem dX6_parentFor_84 : decode cX6_parentFor 84 = .ok (.getfield 77, 3) := by decide +kernel
theorem dX6_parentFor_87 : decode cX6_parentFor 87 = .ok (.iload_n 2, 1) := by decide +kernel
theorem dX6_parentFor_88 : decode cX6_parentFor 88 = .ok (.iaload, 1) := by decide +kernel
theorem dX6_parentFor_89 : decode cX6_parentFor 89 = .ok (.iaload, 1) := by decide +kernel
theorem dX6_parentFor_90 : decode cX6_parentFor 90 = .ok (.invokevirtual 200, 3) := by decide +kernel
theorem dX6_parentFor_93 : decode cX6_parentFor 93 = .ok (.ireturn, 1) := by decide +kernel
theorem dX6_isDouble_0 : decode cX6_isDouble 0 = .ok (.iconst 0, 1) := by decide +kernel
theorem dX6_isDouble_1 : decode cX6_isDouble 1 = .ok (.istore 4, 2) := by decide +kernel
theorem dX6_isDouble_3 : decode cX6_isDouble 3 = .ok (.iconst 0, 1) := by decide +kernel
theorem dX6_isDouble_4 : decode cX6_isDouble 4 = .ok (.istore 5, 2) := by decide +kernel
theorem dX6_isDouble_6 : decode cX6_isDouble 6 = .ok (.iload 5, 2) := by decide +kernel
theorem dX6_isDouble_8 : decode cX6_isDouble 8 = .ok (.bipush 60, 2) := by decide +kernel
theorem dX6_isDouble_10 : decode cX6_isDouble 10 = .ok (.if_icmp .ge 53, 3) := by decide +kernel
theorem dX6_isDouble_13 : decode cX6_isDouble 13 = .ok (.iload 4, 2) := by decide +kernel
theorem dX6_isDouble_15 : decode cX6_isDouble 15 = .ok (.ifCond .ne 35, 3) := by decide +kernel
theorem dX6_isDouble_18 : decode cX6_isDouble 18 = .ok (.aload_n 0, 1) := by decide +kernel
theorem dX6_isDouble_19 : decode cX6_isDouble 19 = .ok (.getfield 34, 3) := by decide +kernel
theorem dX6_isDouble_22 : decode cX6_isDouble 22 = .ok (.iload 5, 2) := by decide +kernel
theorem dX6_isDouble_24 : decode cX6_isDouble 24 = .ok (.iaload, 1) := by decide +kernel
theorem dX6_isDouble_25 : decode cX6_isDouble 25 = .ok (.iload_n 1, 1) := by decide +kernel
theorem dX6_isDouble_26 : decode cX6_isDouble 26 = .ok (.if_icmp .ne 28, 3) := by decide +kernel
theorem dX6_isDouble_29 : decode cX6_isDouble 29 = .ok (.aload_n 0, 1) := by decide +kernel
theorem dX6_isDouble_30 : decode cX6_isDouble 30 = .ok (.getfield 37, 3) := by decide +kernel
theorem dX6_isDouble_33 : decode cX6_isDouble 33 = .ok (.iload 5, 2) := by decide +kernel
theorem dX6_isDouble_35 : decode cX6_isDouble 35 = .ok (.iaload, 1) := by decide +kernel
theorem dX6_isDouble_36 : decode cX6_isDouble 36 = .ok (.iload_n 2, 1) := by decide +kernel
theorem dX6_isDouble_37 : decode cX6_isDouble 37 = .ok (.if_icmp .ne 17, 3) := by decide +kernel
theorem dX6_isDouble_40 : decode cX6_isDouble 40 = .ok (.aload_n 0, 1) := by decide +kernel
theorem dX6_isDouble_41 : decode cX6_isDouble 41 = .ok (.iload 5, 2) := by decide +kernel
theorem dX6_isDouble_43 : decode cX6_isDouble 43 = .ok (.invokevirtual 161, 3) := by decide +kernel
theorem dX6_isDouble_46 : decode cX6_isDouble 46 = .ok (.iload_n 3, 1) := by decide +kernel
theorem dX6_isDouble_47 : decode cX6_isDouble 47 = .ok (.if_icmp .ne 7, 3) := by decide +kernel
theorem dX6_isDouble_50 : decode cX6_isDouble 50 = .ok (.iconst 1, 1) := by decide +kernel
theorem dX6_isDouble_51 : decode cX6_isDouble 51 = .ok (.goto 4, 3) := by decide +kernel
theorem dX6_isDouble_54 : decode cX6_isDouble 54 = .ok (.iconst 0, 1) := by decide +kernel
theorem dX6_isDouble_55 : decode cX6_isDouble 55 = .ok (.istore 4, 2) := by decide +kernel
theorem dX6_isDouble_57 : decode cX6_isDouble 57 = .ok (.iinc 5 1, 3) := by decide +kernel
theorem dX6_isDouble_60 : decode cX6_isDouble 60 = .ok (.goto (-54), 3) := by decide +kernel
theorem dX6_isDouble_63 : decode cX6_isDouble 63 = .ok (.iload 4, 2) := by decide +kernel
theorem dX6_isDouble_65 : decode cX6_isDouble 65 = .ok (.ifCond .eq 16, 3) := by decide +kernel
theorem dX6_isDouble_68 : decode cX6_isDouble 68 = .ok (.aload_n 0, 1) := by decide +kernel
theorem dX6_isDouble_69 : decode cX6_isDouble 69 = .ok (.getfield 16, 3) := by decide +kernel
theorem dX6_isDouble_72 : decode cX6_isDouble 72 = .ok (.iload_n 1, 1) := by decide +kernel
theorem dX6_isDouble_73 : decode cX6_isDouble 73 = .ok (.iaload, 1) := by decide +kernel
theorem dX6_isDouble_74 : decode cX6_isDouble 74 = .ok (.ifCond .ne 7, 3) := by decide +kernel
theorem dX6_isDouble_77 : decode cX6_isDouble 77 = .ok (.iconst 1, 1) := by decide +kernel
theorem dX6_isDouble_78 : decode cX6_isDouble 78 = .ok (.goto 4, 3) := by decide +kernel
theorem dX6_isDouble_81 : decode cX6_isDouble 81 = .ok (.iconst 0, 1) := by decide +kernel
theorem dX6_isDouble_82 : decode cX6_isDouble 82 = .ok (.ireturn, 1) := by decide +kernel
theorem dX6_needs_0 : decode cX6_needs 0 = .ok (.aload_n 0, 1) := by decide +kernel
theorem dX6_needs_1 : decode cX6_needs 1 = .ok (.getfield 25, 3) := by decide +kernel
theorem dX6_needs_4 : decode cX6_needs 4 = .ok (.iload_n 1, 1) := by decide +kernel
theorem dX6_needs_5 : decode cX6_needs 5 = .ok (.iaload, 1) := by decide +kernel
theorem dX6_needs_6 : decode cX6_needs 6 = .ok (.istore_n 3, 1) := by decide +kernel
theorem dX6_needs_7 : decode cX6_needs 7 = .ok (.iload_n 3, 1) := by decide +kernel
theorem dX6_needs_8 : decode cX6_needs 8 = .ok (.iconst (-1), 1) := by decide +kernel
theorem dX6_needs_9 : decode cX6_needs 9 = .ok (.if_icmp .eq 13, 3) := by decide +kernel
theorem dX6_needs_12 : decode cX6_needs 12 = .ok (.aload_n 0, 1) := by decide +kernel
theorem dX6_needs_13 : decode cX6_needs 13 = .ok (.iload_n 3, 1) := by decide +kernel
theorem dX6_needs_14 : decode cX6_needs 14 = .ok (.iload_n 2, 1) := by decide +kernel
theorem dX6_needs_15 : decode cX6_needs 15 = .ok (.invokevirtual 181, 3) := by decide +kernel
theorem dX6_needs_18 : decode cX6_needs 18 = .ok (.iconst (-1), 1) := by decide +kernel
theorem dX6_needs_19 : decode cX6_needs 19 = .ok (.if_icmp .eq 5, 3) := by decide +kernel
theorem dX6_needs_22 : decode cX6_needs 22 = .ok (.iconst 1, 1) := by decide +kernel
theorem dX6_needs_23 : decode cX6_needs 23 = .ok (.ireturn, 1) := by decide +kernel
theorem dX6_needs_24 : decode cX6_needs 24 = .ok (.aload_n 0, 1) := by decide +kernel
theorem dX6_needs_25 : decode cX6_needs 25 = .ok (.getfield 28, 3) := by decide +kernel
theorem dX6_needs_28 : decode cX6_needs 28 = .ok (.iload_n 1, 1) := by decide +kernel
theorem dX6_needs_29 : decode cX6_needs 29 = .ok (.iaload, 1) := by decide +kernel
theorem dX6_needs_30 : decode cX6_needs 30 = .ok (.ifCond .ne 5, 3) := by decide +kernel
theorem dX6_needs_33 : decode cX6_needs 33 = .ok (.iconst 0, 1) := by decide +kernel
theorem dX6_needs_34 : decode cX6_needs 34 = .ok (.ireturn, 1) := by decide +kernel
theorem dX6_needs_35 : decode cX6_needs 35 = .ok (.iconst 0, 1) := by decide +kernel
theorem dX6_needs_36 : decode cX6_needs 36 = .ok (.istore 4, 2) := by decide +kernel
theorem dX6_needs_38 : decode cX6_needs 38 = .ok (.iload 4, 2) := by decide +kernel
theorem dX6_needs_40 : decode cX6_needs 40 = .ok (.aload_n 0, 1) := by decide +kernel
theorem dX6_needs_41 : decode cX6_needs 41 = .ok (.getfield 240, 3) := by decide +kernel
theorem dX6_needs_44 : decode cX6_needs 44 = .ok (.if_icmp .ge 33, 3) := by decide +kernel
theorem dX6_needs_47 : decode cX6_needs 47 = .ok (.aload_n 0, 1) := by decide +kernel
theorem dX6_needs_48 : decode cX6_needs 48 = .ok (.getfield 101, 3) := by decide +kernel
theorem dX6_needs_51 : decode cX6_needs 51 = .ok (.iload 4, 2) := by decide +kernel
theorem dX6_needs_53 : decode cX6_needs 53 = .ok (.iaload, 1) := by decide +kernel
theorem dX6_needs_54 : decode cX6_needs 54 = .ok (.iload_n 3, 1) := by decide +kernel
theorem dX6_needs_55 : decode cX6_needs 55 = .ok (.if_icmp .ne 16, 3) := by decide +kernel
theorem dX6_needs_58 : decode cX6_needs 58 = .ok (.aload_n 0, 1) := by decide +kernel
theorem dX6_needs_59 : decode cX6_needs 59 = .ok (.getfield 104, 3) := by decide +kernel
theorem dX6_needs_62 : decode cX6_needs 62 = .ok (.iload 4, 2) := by decide +kernel
theorem dX6_needs_64 : decode cX6_needs 64 = .ok (.iaload, 1) := by decide +kernel
theorem dX6_needs_65 : decode cX6_needs 65 = .ok (.iload_n 2, 1) := by decide +kernel
theorem dX6_needs_66 : decode cX6_needs 66 = .ok (.if_icmp .ne 5, 3) := by decide +kernel
theorem dX6_needs_69 : decode cX6_needs 69 = .ok (.iconst 1, 1) := by decide +kernel
theorem dX6_needs_70 : decode cX6_needs 70 = .ok (.ireturn, 1) := by decide +kernel
theorem dX6_needs_71 : decode cX6_needs 71 = .ok (.iinc 4 1, 3) := by decide +kernel
theorem dX6_needs_74 : decode cX6_needs 74 = .ok (.goto (-36), 3) := by decide +kernel
theorem dX6_needs_77 : decode cX6_needs 77 = .ok (.aload_n 0, 1) := by decide +kernel
theorem dX6_needs_78 : decode cX6_needs 78 = .ok (.getfield 101, 3) := by decide +kernel
theorem dX6_needs_81 : decode cX6_needs 81 = .ok (.aload_n 0, 1) := by decide +kernel
theorem dX6_needs_82 : decode cX6_needs 82 = .ok (.getfield 240, 3) := by decide +kernel
theorem dX6_needs_85 : decode cX6_needs 85 = .ok (.iload_n 3, 1) := by decide +kernel
theorem dX6_needs_86 : decode cX6_needs 86 = .ok (.iastore, 1) := by decide +kernel
theorem dX6_needs_87 : decode cX6_needs 87 = .ok (.aload_n 0, 1) := by decide +kernel
theorem dX6_needs_88 : decode cX6_needs 88 = .ok (.getfield 104, 3) := by decide +kernel
theorem dX6_needs_91 : decode cX6_needs 91 = .ok (.aload_n 0, 1) := by decide +kernel
theorem dX6_needs_92 : decode cX6_needs 92 = .ok (.getfield 240, 3) := by decide +kernel
theorem dX6_needs_95 : decode cX6_needs 95 = .ok (.iload_n 2, 1) := by decide +kernel
theorem dX6_needs_96 : decode cX6_needs 96 = .ok (.iastore, 1) := by decide +kernel
theorem dX6_needs_97 : decode cX6_needs 97 = .ok (.aload_n 0, 1) := by decide +kernel
theorem dX6_needs_98 : decode cX6_needs 98 = .ok (.dup, 1) := by decide +kernel
theorem dX6_needs_99 : decode cX6_needs 99 = .ok (.getfield 240, 3) := by decide +kernel
theorem dX6_needs_102 : decode cX6_needs 102 = .ok (.iconst 1, 1) := by decide +kernel
theorem dX6_needs_103 : decode cX6_needs 103 = .ok (.iadd, 1) := by decide +kernel
theorem dX6_needs_104 : decode cX6_needs 104 = .ok (.putfield 240, 3) := by decide +kernel
theorem dX6_needs_107 : decode cX6_needs 107 = .ok (.iconst 1, 1) := by decide +kernel
theorem dX6_needs_108 : decode cX6_needs 108 = .ok (.ireturn, 1) := by decide +kernel
theorem dX6_makes_0 : decode cX6_makes 0 = .ok (.iconst 0, 1) := by decide +kernel
theorem dX6_makes_1 : decode cX6_makes 1 = .ok (.istore_n 1, 1) := by decide +kernel
theorem dX6_makes_2 : decode cX6_makes 2 = .ok (.iload_n 1, 1) := by decide +kernel
theorem dX6_makes_3 : decode cX6_makes 3 = .ok (.aload_n 0, 1) := by decide +kernel
theorem dX6_makes_4 : decode cX6_makes 4 = .ok (.getfield 240, 3) := by decide +kernel
theorem dX6_makes_7 : decode cX6_makes 7 = .ok (.if_icmp .ge 28, 3) := by decide +kernel
theorem dX6_makes_10 : decode cX6_makes 10 = .ok (.aload_n 0, 1) := by decide +kernel
theorem dX6_makes_11 : decode cX6_makes 11 = .ok (.aload_n 0, 1) := by decide +kernel
theorem dX6_makes_12 : decode cX6_makes 12 = .ok (.getfield 101, 3) := by decide +kernel
theorem dX6_makes_15 : decode cX6_makes 15 = .ok (.iload_n 1, 1) := by decide +kernel
theorem dX6_makes_16 : decode cX6_makes 16 = .ok (.iaload, 1) := by decide +kernel
theorem dX6_makes_17 : decode cX6_makes 17 = .ok (.iconst (-1), 1) := by decide +kernel
theorem dX6_makes_18 : decode cX6_makes 18 = .ok (.aload_n 0, 1) := by decide +kernel
theorem dX6_makes_19 : decode cX6_makes 19 = .ok (.getfield 104, 3) := by decide +kernel
theorem dX6_makes_22 : decode cX6_makes 22 = .ok (.iload_n 1, 1) := by decide +kernel
theorem dX6_makes_23 : decode cX6_makes 23 = .ok (.iaload, 1) := by decide +kernel
theorem dX6_makes_24 : decode cX6_makes 24 = .ok (.iconst (-1), 1) := by decide +kernel
theorem dX6_makes_25 : decode cX6_makes 25 = .ok (.invokevirtual 243, 3) := by decide +kernel
theorem dX6_makes_28 : decode cX6_makes 28 = .ok (.istore_n 2, 1) := by decide +kernel
theorem dX6_makes_29 : decode cX6_makes 29 = .ok (.iinc 1 1, 3) := by decide +kernel
theorem dX6_makes_32 : decode cX6_makes 32 = .ok (.goto (-30), 3) := by decide +kernel
theorem dX6_makes_35 : decode cX6_makes 35 = .ok (.return_, 1) := by decide +kernel
theorem dX6_needsAll_0 : decode cX6_needsAll 0 = .ok (.aload_n 0, 1) := by decide +kernel
theorem dX6_needsAll_1 : decode cX6_needsAll 1 = .ok (.iconst 0, 1) := by decide +kernel
theorem dX6_needsAll_2 : decode cX6_needsAll 2 = .ok (.putfield 240, 3) := by decide +kernel
theorem dX6_needsAll_5 : decode cX6_needsAll 5 = .ok (.iconst 1, 1) := by decide +kernel
theorem dX6_needsAll_6 : decode cX6_needsAll 6 = .ok (.istore_n 2, 1) := by decide +kernel
theorem dX6_needsAll_7 : decode cX6_needsAll 7 = .ok (.iload_n 1, 1) := by decide +kernel
theorem dX6_needsAll_8 : decode cX6_needsAll 8 = .ok (.istore_n 3, 1) := by decide +kernel
theorem dX6_needsAll_9 : decode cX6_needsAll 9 = .ok (.iload_n 3, 1) := by decide +kernel
theorem dX6_needsAll_10 : decode cX6_needsAll 10 = .ok (.aload_n 0, 1) := by decide +kernel
theorem dX6_needsAll_11 : decode cX6_needsAll 11 = .ok (.getfield 139, 3) := by decide +kernel
theorem dX6_needsAll_14 : decode cX6_needsAll 14 = .ok (.if_icmp .ge 107, 3) := by decide +kernel
theorem dX6_needsAll_17 : decode cX6_needsAll 17 = .ok (.aload_n 0, 1) := by decide +kernel
theorem dX6_needsAll_18 : decode cX6_needsAll 18 = .ok (.getfield 25, 3) := by decide +kernel
theorem dX6_needsAll_21 : decode cX6_needsAll 21 = .ok (.aload_n 0, 1) := by decide +kernel
theorem dX6_needsAll_22 : decode cX6_needsAll 22 = .ok (.getfield 77, 3) := by decide +kernel
theorem dX6_needsAll_25 : decode cX6_needsAll 25 = .ok (.iload_n 3, 1) := by decide +kernel
theorem dX6_needsAll_26 : decode cX6_needsAll 26 = .ok (.iaload, 1) := by decide +kernel
theorem dX6_needsAll_27 : decode cX6_needsAll 27 = .ok (.iaload, 1) := by decide +kernel
theorem dX6_needsAll_28 : decode cX6_needsAll 28 = .ok (.istore 4, 2) := by decide +kernel
theorem dX6_needsAll_30 : decode cX6_needsAll 30 = .ok (.iload 4, 2) := by decide +kernel
theorem dX6_needsAll_32 : decode cX6_needsAll 32 = .ok (.iconst (-1), 1) := by decide +kernel
theorem dX6_needsAll_33 : decode cX6_needsAll 33 = .ok (.if_icmp .eq 39, 3) := by decide +kernel
theorem dX6_needsAll_36 : decode cX6_needsAll 36 = .ok (.iload 4, 2) := by decide +kernel
theorem dX6_needsAll_38 : decode cX6_needsAll 38 = .ok (.aload_n 0, 1) := by decide +kernel
theorem dX6_needsAll_39 : decode cX6_needsAll 39 = .ok (.getfield 77, 3) := by decide +kernel
theorem dX6_needsAll_42 : decode cX6_needsAll 42 = .ok (.iload_n 1, 1) := by decide +kernel
theorem dX6_needsAll_43 : decode cX6_needsAll 43 = .ok (.iaload, 1) := by decide +kernel
theorem dX6_needsAll_44 : decode cX6_needsAll 44 = .ok (.if_icmp .ne 28, 3) := by decide +kernel
theorem dX6_needsAll_47 : decode cX6_needsAll 47 = .ok (.aload_n 0, 1) := by decide +kernel
theorem dX6_needsAll_48 : decode cX6_needsAll 48 = .ok (.getfield 98, 3) := by decide +kernel
theorem dX6_needsAll_51 : decode cX6_needsAll 51 = .ok (.iconst 0, 1) := by decide +kernel
theorem dX6_needsAll_52 : decode cX6_needsAll 52 = .ok (.iaload, 1) := by decide +kernel
theorem dX6_needsAll_53 : decode cX6_needsAll 53 = .ok (.aload_n 0, 1) := by decide +kernel
theorem dX6_needsAll_54 : decode cX6_needsAll 54 = .ok (.getfield 98, 3) := by decide +kernel
theorem dX6_needsAll_57 : decode cX6_needsAll 57 = .ok (.iconst 3, 1) := by decide +kernel
theorem dX6_needsAll_58 : decode cX6_needsAll 58 = .ok (.iload_n 3, 1) := by decide +kernel
theorem dX6_needsAll_59 : decode cX6_needsAll 59 = .ok (.iload_n 1, 1) := by decide +kernel
theorem dX6_needsAll_60 : decode cX6_needsAll 60 = .ok (.isub, 1) := by decide +kernel
theorem dX6_needsAll_61 : decode cX6_needsAll 61 = .ok (.imul, 1) := by decide +kernel
theorem dX6_needsAll_62 : decode cX6_needsAll 62 = .ok (.iconst 2, 1) := by decide +kernel
theorem dX6_needsAll_63 : decode cX6_needsAll 63 = .ok (.iadd, 1) := by decide +kernel
theorem dX6_needsAll_64 : decode cX6_needsAll 64 = .ok (.iaload, 1) := by decide +kernel
theorem dX6_needsAll_65 : decode cX6_needsAll 65 = .ok (.if_icmp .ne 7, 3) := by decide +kernel
theorem dX6_needsAll_68 : decode cX6_needsAll 68 = .ok (.iconst 1, 1) := by decide +kernel
theorem dX6_needsAll_69 : decode cX6_needsAll 69 = .ok (.goto 4, 3) := by decide +kernel
theorem dX6_needsAll_72 : decode cX6_needsAll 72 = .ok (.iconst 0, 1) := by decide +kernel
theorem dX6_needsAll_73 : decode cX6_needsAll 73 = .ok (.istore 5, 2) := by decide +kernel
theorem dX6_needsAll_75 : decode cX6_needsAll 75 = .ok (.iload 5, 2) := by decide +kernel
theorem dX6_needsAll_77 : decode cX6_needsAll 77 = .ok (.ifCond .ne 28, 3) := by decide +kernel
theorem dX6_needsAll_80 : decode cX6_needsAll 80 = .ok (.aload_n 0, 1) := by decide +kernel
theorem dX6_needsAll_81 : decode cX6_needsAll 81 = .ok (.aload_n 0, 1) := by decide +kernel
theorem dX6_needsAll_82 : decode cX6_needsAll 82 = .ok (.getfield 77, 3) := by decide +kernel
theorem dX6_needsAll_85 : decode cX6_needsAll 85 = .ok (.iload_n 3, 1) := by decide +kernel
theorem dX6_needsAll_86 : decode cX6_needsAll 86 = .ok (.iaload, 1) := by decide +kernel
theorem dX6_needsAll_87 : decode cX6_needsAll 87 = .ok (.aload_n 0, 1) := by decide +kernel
theorem dX6_needsAll_88 : decode cX6_needsAll 88 = .ok (.getfield 98, 3) := by decide +kernel
theorem dX6_needsAll_91 : decode cX6_needsAll 91 = .ok (.iconst 3, 1) := by decide +kernel
theorem dX6_needsAll_92 : decode cX6_needsAll 92 = .ok (.iload_n 3, 1) := by decide +kernel
theorem dX6_needsAll_93 : decode cX6_needsAll 93 = .ok (.iload_n 1, 1) := by decide +kernel
theorem dX6_needsAll_94 : decode cX6_needsAll 94 = .ok (.isub, 1) := by decide +kernel
theorem dX6_needsAll_95 : decode cX6_needsAll 95 = .ok (.imul, 1) := by decide +kernel
theorem dX6_needsAll_96 : decode cX6_needsAll 96 = .ok (.iconst 2, 1) := by decide +kernel
theorem dX6_needsAll_97 : decode cX6_needsAll 97 = .ok (.iadd, 1) := by decide +kernel
theorem dX6_needsAll_98 : decode cX6_needsAll 98 = .ok (.iaload, 1) := by decide +kernel
theorem dX6_needsAll_99 : decode cX6_needsAll 99 = .ok (.invokevirtual 247, 3) := by decide +kernel
theorem dX6_needsAll_102 : decode cX6_needsAll 102 = .ok (.ifCond .eq 11, 3) := by decide +kernel
theorem dX6_needsAll_105 : decode cX6_needsAll 105 = .ok (.iload_n 2, 1) := by decide +kernel
theorem dX6_needsAll_106 : decode cX6_needsAll 106 = .ok (.ifCond .eq 7, 3) := by decide +kernel
theorem dX6_needsAll_109 : decode cX6_needsAll 109 = .ok (.iconst 1, 1) := by decide +kernel
theorem dX6_needsAll_110 : decode cX6_needsAll 110 = .ok (.goto 4, 3) := by decide +kernel
theorem dX6_needsAll_113 : decode cX6_needsAll 113 = .ok (.iconst 0, 1) := by decide +kernel
theorem dX6_needsAll_114 : decode cX6_needsAll 114 = .ok (.istore_n 2, 1) := by decide +kernel
theorem dX6_needsAll_115 : decode cX6_needsAll 115 = .ok (.iinc 3 1, 3) := by decide +kernel
theorem dX6_needsAll_118 : decode cX6_needsAll 118 = .ok (.goto (-109), 3) := by decide +kernel
theorem dX6_needsAll_121 : decode cX6_needsAll 121 = .ok (.iload_n 2, 1) := by decide +kernel
theorem dX6_needsAll_122 : decode cX6_needsAll 122 = .ok (.ireturn, 1) := by decide +kernel
theorem dX6_insertsAll_0 : decode cX6_insertsAll 0 = .ok (.aload_n 0, 1) := by decide +kernel
theorem dX6_insertsAll_1 : decode cX6_insertsAll 1 = .ok (.iload_n 1, 1) := by decide +kernel
theorem dX6_insertsAll_2 : decode cX6_insertsAll 2 = .ok (.invokevirtual 222, 3) := by decide +kernel
theorem dX6_insertsAll_5 : decode cX6_insertsAll 5 = .ok (.ifCond .eq 10, 3) := by decide +kernel
theorem dX6_insertsAll_8 : decode cX6_insertsAll 8 = .ok (.aload_n 0, 1) := by decide +kernel
theorem dX6_insertsAll_9 : decode cX6_insertsAll 9 = .ok (.getfield 139, 3) := by decide +kernel
theorem dX6_insertsAll_12 : decode cX6_insertsAll 12 = .ok (.ifCond .ne 5, 3) := by decide +kernel
theorem dX6_insertsAll_15 : decode cX6_insertsAll 15 = .ok (.iconst 4, 1) := by decide +kernel
theorem dX6_insertsAll_16 : decode cX6_insertsAll 16 = .ok (.ireturn, 1) := by decide +kernel
theorem dX6_insertsAll_17 : decode cX6_insertsAll 17 = .ok (.aload_n 0, 1) := by decide +kernel
theorem dX6_insertsAll_18 : decode cX6_insertsAll 18 = .ok (.invokevirtual 250, 3) := by decide +kernel
theorem dX6_insertsAll_21 : decode cX6_insertsAll 21 = .ok (.istore_n 2, 1) := by decide +kernel
theorem dX6_insertsAll_22 : decode cX6_insertsAll 22 = .ok (.aload_n 0, 1) := by decide +kernel
theorem dX6_insertsAll_23 : decode cX6_insertsAll 23 = .ok (.iload_n 2, 1) := by decide +kernel
theorem dX6_insertsAll_24 : decode cX6_insertsAll 24 = .ok (.invokevirtual 253, 3) := by decide +kernel
theorem dX6_insertsAll_27 : decode cX6_insertsAll 27 = .ok (.ifCond .ne 5, 3) := by decide +kernel
theorem dX6_insertsAll_30 : decode cX6_insertsAll 30 = .ok (.iconst 4, 1) := by decide +kernel
theorem dX6_insertsAll_31 : decode cX6_insertsAll 31 = .ok (.ireturn, 1) := by decide +kernel
theorem dX6_insertsAll_32 : decode cX6_insertsAll 32 = .ok (.aload_n 0, 1) := by decide +kernel
theorem dX6_insertsAll_33 : decode cX6_insertsAll 33 = .ok (.getfield 13, 3) := by decide +kernel
theorem dX6_insertsAll_36 : decode cX6_insertsAll 36 = .ok (.aload_n 0, 1) := by decide +kernel
theorem dX6_insertsAll_37 : decode cX6_insertsAll 37 = .ok (.getfield 77, 3) := by decide +kernel
theorem dX6_insertsAll_40 : decode cX6_insertsAll 40 = .ok (.iload_n 2, 1) := by decide +kernel
theorem dX6_insertsAll_41 : decode cX6_insertsAll 41 = .ok (.iaload, 1) := by decide +kernel
theorem dX6_insertsAll_42 : decode cX6_insertsAll 42 = .ok (.iaload, 1) := by decide +kernel
theorem dX6_insertsAll_43 : decode cX6_insertsAll 43 = .ok (.iconst (-1), 1) := by decide +kernel
theorem dX6_insertsAll_44 : decode cX6_insertsAll 44 = .ok (.if_icmp .ne 7, 3) := by decide +kernel
theorem dX6_insertsAll_47 : decode cX6_insertsAll 47 = .ok (.iconst 1, 1) := by decide +kernel
theorem dX6_insertsAll_48 : decode cX6_insertsAll 48 = .ok (.goto 4, 3) := by decide +kernel
theorem dX6_insertsAll_51 : decode cX6_insertsAll 51 = .ok (.iconst 0, 1) := by decide +kernel
theorem dX6_insertsAll_52 : decode cX6_insertsAll 52 = .ok (.istore_n 3, 1) := by decide +kernel
theorem dX6_insertsAll_53 : decode cX6_insertsAll 53 = .ok (.iload_n 3, 1) := by decide +kernel
theorem dX6_insertsAll_54 : decode cX6_insertsAll 54 = .ok (.ifCond .eq 7, 3) := by decide +kernel
theorem dX6_insertsAll_57 : decode cX6_insertsAll 57 = .ok (.iconst (-1), 1) := by decide +kernel
theorem dX6_insertsAll_58 : decode cX6_insertsAll 58 = .ok (.goto 9, 3) := by decide +kernel
theorem dX6_insertsAll_61 : decode cX6_insertsAll 61 = .ok (.aload_n 0, 1) := by decide +kernel
theorem dX6_insertsAll_62 : decode cX6_insertsAll 62 = .ok (.iload_n 1, 1) := by decide +kernel
theorem dX6_insertsAll_63 : decode cX6_insertsAll 63 = .ok (.iload_n 2, 1) := by decide +kernel
theorem dX6_insertsAll_64 : decode cX6_insertsAll 64 = .ok (.invokevirtual 256, 3) := by decide +kernel
theorem dX6_insertsAll_67 : decode cX6_insertsAll 67 = .ok (.istore 4, 2) := by decide +kernel
theorem dX6_insertsAll_69 : decode cX6_insertsAll 69 = .ok (.iload_n 3, 1) := by decide +kernel
theorem dX6_insertsAll_70 : decode cX6_insertsAll 70 = .ok (.ifCond .ne 12, 3) := by decide +kernel
theorem dX6_insertsAll_73 : decode cX6_insertsAll 73 = .ok (.iload 4, 2) := by decide +kernel
theorem dX6_insertsAll_75 : decode cX6_insertsAll 75 = .ok (.iconst (-1), 1) := by decide +kernel
theorem dX6_insertsAll_76 : decode cX6_insertsAll 76 = .ok (.if_icmp .ne 6, 3) := by decide +kernel
theorem dX6_insertsAll_79 : decode cX6_insertsAll 79 = .ok (.bipush 7, 2) := by decide +kernel
theorem dX6_insertsAll_81 : decode cX6_insertsAll 81 = .ok (.ireturn, 1) := by decide +kernel
theorem dX6_insertsAll_82 : decode cX6_insertsAll 82 = .ok (.aload_n 0, 1) := by decide +kernel
theorem dX6_insertsAll_83 : decode cX6_insertsAll 83 = .ok (.aload_n 0, 1) := by decide +kernel
theorem dX6_insertsAll_84 : decode cX6_insertsAll 84 = .ok (.getfield 77, 3) := by decide +kernel
theorem dX6_insertsAll_87 : decode cX6_insertsAll 87 = .ok (.iload_n 2, 1) := by decide +kernel
theorem dX6_insertsAll_88 : decode cX6_insertsAll 88 = .ok (.iaload, 1) := by decide +kernel
theorem dX6_insertsAll_89 : decode cX6_insertsAll 89 = .ok (.iload 4, 2) := by decide +kernel
theorem dX6_insertsAll_91 : decode cX6_insertsAll 91 = .ok (.aload_n 0, 1) := by decide +kernel
theorem dX6_insertsAll_92 : decode cX6_insertsAll 92 = .ok (.getfield 98, 3) := by decide +kernel
theorem dX6_insertsAll_95 : decode cX6_insertsAll 95 = .ok (.iconst 0, 1) := by decide +kernel
theorem dX6_insertsAll_96 : decode cX6_insertsAll 96 = .ok (.iaload, 1) := by decide +kernel
theorem dX6_insertsAll_97 : decode cX6_insertsAll 97 = .ok (.invokevirtual 259, 3) := by decide +kernel
theorem dX6_insertsAll_100 : decode cX6_insertsAll 100 = .ok (.ifCond .eq 6, 3) := by decide +kernel
theorem dX6_insertsAll_103 : decode cX6_insertsAll 103 = .ok (.bipush 9, 2) := by decide +kernel
theorem dX6_insertsAll_105 : decode cX6_insertsAll 105 = .ok (.ireturn, 1) := by decide +kernel
theorem dX6_insertsAll_106 : decode cX6_insertsAll 106 = .ok (.aload_n 0, 1) := by decide +kernel
theorem dX6_insertsAll_107 : decode cX6_insertsAll 107 = .ok (.iload_n 2, 1) := by decide +kernel
theorem dX6_insertsAll_108 : decode cX6_insertsAll 108 = .ok (.invokevirtual 262, 3) := by decide +kernel
theorem dX6_insertsAll_111 : decode cX6_insertsAll 111 = .ok (.ifCond .ne 6, 3) := by decide +kernel
theorem dX6_insertsAll_114 : decode cX6_insertsAll 114 = .ok (.bipush 10, 2) := by decide +kernel
theorem dX6_insertsAll_116 : decode cX6_insertsAll 116 = .ok (.ireturn, 1) := by decide +kernel
theorem dX6_insertsAll_117 : decode cX6_insertsAll 117 = .ok (.aload_n 0, 1) := by decide +kernel
theorem dX6_insertsAll_118 : decode cX6_insertsAll 118 = .ok (.invokevirtual 265, 3) := by decide +kernel
theorem dX6_insertsAll_121 : decode cX6_insertsAll 121 = .ok (.aload_n 0, 1) := by decide +kernel
theorem dX6_insertsAll_122 : decode cX6_insertsAll 122 = .ok (.getfield 240, 3) := by decide +kernel
theorem dX6_insertsAll_125 : decode cX6_insertsAll 125 = .ok (.iadd, 1) := by decide +kernel
theorem dX6_insertsAll_126 : decode cX6_insertsAll 126 = .ok (.aload_n 0, 1) := by decide +kernel
theorem dX6_insertsAll_127 : decode cX6_insertsAll 127 = .ok (.getfield 139, 3) := by decide +kernel
theorem dX6_insertsAll_130 : decode cX6_insertsAll 130 = .ok (.iadd, 1) := by decide +kernel
theorem dX6_insertsAll_131 : decode cX6_insertsAll 131 = .ok (.iload_n 2, 1) := by decide +kernel
theorem dX6_insertsAll_132 : decode cX6_insertsAll 132 = .ok (.isub, 1) := by decide +kernel
theorem dX6_insertsAll_133 : decode cX6_insertsAll 133 = .ok (.bipush 60, 2) := by decide +kernel
theorem dX6_insertsAll_135 : decode cX6_insertsAll 135 = .ok (.if_icmp .le 6, 3) := by decide +kernel
theorem dX6_insertsAll_138 : decode cX6_insertsAll 138 = .ok (.bipush 11, 2) := by decide +kernel
theorem dX6_insertsAll_140 : decode cX6_insertsAll 140 = .ok (.ireturn, 1) := by decide +kernel
theorem dX6_insertsAll_141 : decode cX6_insertsAll 141 = .ok (.aload_n 0, 1) := by decide +kernel
theorem dX6_insertsAll_142 : decode cX6_insertsAll 142 = .ok (.invokevirtual 268, 3) := by decide +kernel
theorem dX6_insertsAll_145 : decode cX6_insertsAll 145 = .ok (.iload_n 2, 1) := by decide +kernel
theorem dX6_insertsAll_146 : decode cX6_insertsAll 146 = .ok (.istore 5, 2) := by decide +kernel
theorem dX6_insertsAll_148 : decode cX6_insertsAll 148 = .ok (.iload 5, 2) := by decide +kernel
theorem dX6_insertsAll_150 : decode cX6_insertsAll 150 = .ok (.aload_n 0, 1) := by decide +kernel
theorem dX6_insertsAll_151 : decode cX6_insertsAll 151 = .ok (.getfield 139, 3) := by decide +kernel
theorem dX6_insertsAll_154 : decode cX6_insertsAll 154 = .ok (.if_icmp .ge 84, 3) := by decide +kernel
theorem dX6_insertsAll_157 : decode cX6_insertsAll 157 = .ok (.iload 5, 2) := by decide +kernel
theorem dX6_insertsAll_159 : decode cX6_insertsAll 159 = .ok (.iload_n 2, 1) := by decide +kernel
theorem dX6_insertsAll_160 : decode cX6_insertsAll 160 = .ok (.isub, 1) := by decide +kernel
theorem dX6_insertsAll_161 : decode cX6_insertsAll 161 = .ok (.istore 6, 2) := by decide +kernel
theorem dX6_insertsAll_163 : decode cX6_insertsAll 163 = .ok (.aload_n 0, 1) := by decide +kernel
theorem dX6_insertsAll_164 : decode cX6_insertsAll 164 = .ok (.aload_n 0, 1) := by decide +kernel
theorem dX6_insertsAll_165 : decode cX6_insertsAll 165 = .ok (.getfield 77, 3) := by decide +kernel
theorem dX6_insertsAll_168 : decode cX6_insertsAll 168 = .ok (.iload 5, 2) := by decide +kernel
theorem dX6_insertsAll_170 : decode cX6_insertsAll 170 = .ok (.iaload, 1) := by decide +kernel
theorem dX6_insertsAll_171 : decode cX6_insertsAll 171 = .ok (.iload 4, 2) := by decide +kernel
theorem dX6_insertsAll_173 : decode cX6_insertsAll 173 = .ok (.aload_n 0, 1) := by decide +kernel
theorem dX6_insertsAll_174 : decode cX6_insertsAll 174 = .ok (.getfield 98, 3) := by decide +kernel
theorem dX6_insertsAll_177 : decode cX6_insertsAll 177 = .ok (.iconst 3, 1) := by decide +kernel
theorem dX6_insertsAll_178 : decode cX6_insertsAll 178 = .ok (.iload 6, 2) := by decide +kernel
theorem dX6_insertsAll_180 : decode cX6_insertsAll 180 = .ok (.imul, 1) := by decide +kernel
theorem dX6_insertsAll_181 : decode cX6_insertsAll 181 = .ok (.iaload, 1) := by decide +kernel
theorem dX6_insertsAll_182 : decode cX6_insertsAll 182 = .ok (.iload_n 1, 1) := by decide +kernel
theorem dX6_insertsAll_183 : decode cX6_insertsAll 183 = .ok (.invokevirtual 243, 3) := by decide +kernel
theorem dX6_insertsAll_186 : decode cX6_insertsAll 186 = .ok (.istore 4, 2) := by decide +kernel
theorem dX6_insertsAll_188 : decode cX6_insertsAll 188 = .ok (.aload_n 0, 1) := by decide +kernel
theorem dX6_insertsAll_189 : decode cX6_insertsAll 189 = .ok (.getfield 40, 3) := by decide +kernel
theorem dX6_insertsAll_192 : decode cX6_insertsAll 192 = .ok (.iconst 3, 1) := by decide +kernel
theorem dX6_insertsAll_193 : decode cX6_insertsAll 193 = .ok (.iload 4, 2) := by decide +kernel
theorem dX6_insertsAll_195 : decode cX6_insertsAll 195 = .ok (.imul, 1) := by decide +kernel
theorem dX6_insertsAll_196 : decode cX6_insertsAll 196 = .ok (.iconst 1, 1) := by decide +kernel
theorem dX6_insertsAll_197 : decode cX6_insertsAll 197 = .ok (.iadd, 1) := by decide +kernel
theorem dX6_insertsAll_198 : decode cX6_insertsAll 198 = .ok (.aload_n 0, 1) := by decide +kernel
theorem dX6_insertsAll_199 : decode cX6_insertsAll 199 = .ok (.getfield 98, 3) := by decide +kernel
theorem dX6_insertsAll_202 : decode cX6_insertsAll 202 = .ok (.iconst 3, 1) := by decide +kernel
theorem dX6_insertsAll_203 : decode cX6_insertsAll 203 = .ok (.iload 6, 2) := by decide +kernel
theorem dX6_insertsAll_205 : decode cX6_insertsAll 205 = .ok (.imul, 1) := by decide +kernel
theorem dX6_insertsAll_206 : decode cX6_insertsAll 206 = .ok (.iconst 1, 1) := by decide +kernel
theorem dX6_insertsAll_207 : decode cX6_insertsAll 207 = .ok (.iadd, 1) := by decide +kernel
theorem dX6_insertsAll_208 : decode cX6_insertsAll 208 = .ok (.iaload, 1) := by decide +kernel
theorem dX6_insertsAll_209 : decode cX6_insertsAll 209 = .ok (.iastore, 1) := by decide +kernel
theorem dX6_insertsAll_210 : decode cX6_insertsAll 210 = .ok (.aload_n 0, 1) := by decide +kernel
theorem dX6_insertsAll_211 : decode cX6_insertsAll 211 = .ok (.getfield 40, 3) := by decide +kernel
theorem dX6_insertsAll_214 : decode cX6_insertsAll 214 = .ok (.iconst 3, 1) := by decide +kernel
theorem dX6_insertsAll_215 : decode cX6_insertsAll 215 = .ok (.iload 4, 2) := by decide +kernel
theorem dX6_insertsAll_217 : decode cX6_insertsAll 217 = .ok (.imul, 1) := by decide +kernel
theorem dX6_insertsAll_218 : decode cX6_insertsAll 218 = .ok (.iconst 2, 1) := by decide +kernel
theorem dX6_insertsAll_219 : decode cX6_insertsAll 219 = .ok (.iadd, 1) := by decide +kernel
theorem dX6_insertsAll_220 : decode cX6_insertsAll 220 = .ok (.aload_n 0, 1) := by decide +kernel
theorem dX6_insertsAll_221 : decode cX6_insertsAll 221 = .ok (.getfield 98, 3) := by decide +kernel
theorem dX6_insertsAll_224 : decode cX6_insertsAll 224 = .ok (.iconst 3, 1) := by decide +kernel
theorem dX6_insertsAll_225 : decode cX6_insertsAll 225 = .ok (.iload 6, 2) := by decide +kernel
theorem dX6_insertsAll_227 : decode cX6_insertsAll 227 = .ok (.imul, 1) := by decide +kernel
theorem dX6_insertsAll_228 : decode cX6_insertsAll 228 = .ok (.iconst 2, 1) := by decide +kernel
theorem dX6_insertsAll_229 : decode cX6_insertsAll 229 = .ok (.iadd, 1) := by decide +kernel
theorem dX6_insertsAll_230 : decode cX6_insertsAll 230 = .ok (.iaload, 1) := by decide +kernel
theorem dX6_insertsAll_231 : decode cX6_insertsAll 231 = .ok (.iastore, 1) := by decide +kernel
theorem dX6_insertsAll_232 : decode cX6_insertsAll 232 = .ok (.iinc 5 1, 3) := by decide +kernel
theorem dX6_insertsAll_235 : decode cX6_insertsAll 235 = .ok (.goto (-87), 3) := by decide +kernel
theorem dX6_insertsAll_238 : decode cX6_insertsAll 238 = .ok (.aload_n 0, 1) := by decide +kernel
theorem dX6_insertsAll_239 : decode cX6_insertsAll 239 = .ok (.getfield 59, 3) := by decide +kernel
theorem dX6_insertsAll_242 : decode cX6_insertsAll 242 = .ok (.iload_n 1, 1) := by decide +kernel
theorem dX6_insertsAll_243 : decode cX6_insertsAll 243 = .ok (.iconst 0, 1) := by decide +kernel
theorem dX6_insertsAll_244 : decode cX6_insertsAll 244 = .ok (.iastore, 1) := by decide +kernel
theorem dX6_insertsAll_245 : decode cX6_insertsAll 245 = .ok (.aload_n 0, 1) := by decide +kernel
theorem dX6_insertsAll_246 : decode cX6_insertsAll 246 = .ok (.getfield 62, 3) := by decide +kernel
theorem dX6_insertsAll_249 : decode cX6_insertsAll 249 = .ok (.iload_n 1, 1) := by decide +kernel
theorem dX6_insertsAll_250 : decode cX6_insertsAll 250 = .ok (.iload 4, 2) := by decide +kernel
theorem dX6_insertsAll_252 : decode cX6_insertsAll 252 = .ok (.iastore, 1) := by decide +kernel
theorem dX6_insertsAll_253 : decode cX6_insertsAll 253 = .ok (.aload_n 0, 1) := by decide +kernel
theorem dX6_insertsAll_254 : decode cX6_insertsAll 254 = .ok (.getfield 65, 3) := by decide +kernel
theorem dX6_insertsAll_257 : decode cX6_insertsAll 257 = .ok (.iload_n 1, 1) := by decide +kernel
theorem dX6_insertsAll_258 : decode cX6_insertsAll 258 = .ok (.iload 4, 2) := by decide +kernel
theorem dX6_insertsAll_260 : decode cX6_insertsAll 260 = .ok (.iastore, 1) := by decide +kernel
theorem dX6_insertsAll_261 : decode cX6_insertsAll 261 = .ok (.iconst 0, 1) := by decide +kernel
theorem dX6_insertsAll_262 : decode cX6_insertsAll 262 = .ok (.ireturn, 1) := by decide +kernel
theorem dX6_insert_0 : decode cX6_insert 0 = .ok (.aload_n 0, 1) := by decide +kernel
theorem dX6_insert_1 : decode cX6_insert 1 = .ok (.iload_n 1, 1) := by decide +kernel
theorem dX6_insert_2 : decode cX6_insert 2 = .ok (.invokestatic 136, 3) := by decide +kernel
theorem dX6_insert_5 : decode cX6_insert 5 = .ok (.iconst 1, 1) := by decide +kernel
theorem dX6_insert_6 : decode cX6_insert 6 = .ok (.iconst 1, 1) := by decide +kernel
theorem dX6_insert_7 : decode cX6_insert 7 = .ok (.invokevirtual 132, 3) := by decide +kernel
theorem dX6_insert_10 : decode cX6_insert 10 = .ok (.ifCond .ne 5, 3) := by decide +kernel
theorem dX6_insert_13 : decode cX6_insert 13 = .ok (.iconst 0, 1) := by decide +kernel
theorem dX6_insert_14 : decode cX6_insert 14 = .ok (.ireturn, 1) := by decide +kernel
theorem dX6_insert_15 : decode cX6_insert 15 = .ok (.aload_n 0, 1) := by decide +kernel
theorem dX6_insert_16 : decode cX6_insert 16 = .ok (.iload_n 1, 1) := by decide +kernel
theorem dX6_insert_17 : decode cX6_insert 17 = .ok (.invokevirtual 232, 3) := by decide +kernel
theorem dX6_insert_20 : decode cX6_insert 20 = .ok (.aload_n 0, 1) := by decide +kernel
theorem dX6_insert_21 : decode cX6_insert 21 = .ok (.iload_n 1, 1) := by decide +kernel
theorem dX6_insert_22 : decode cX6_insert 22 = .ok (.invokevirtual 271, 3) := by decide +kernel
theorem dX6_insert_25 : decode cX6_insert 25 = .ok (.istore_n 2, 1) := by decide +kernel
theorem dX6_insert_26 : decode cX6_insert 26 = .ok (.aload_n 0, 1) := by decide +kernel
theorem dX6_insert_27 : decode cX6_insert 27 = .ok (.invokevirtual 145, 3) := by decide +kernel
theorem dX6_insert_30 : decode cX6_insert 30 = .ok (.istore_n 3, 1) := by decide +kernel
theorem dX6_insert_31 : decode cX6_insert 31 = .ok (.iload_n 2, 1) := by decide +kernel
theorem dX6_insert_32 : decode cX6_insert 32 = .ok (.ireturn, 1) := by decide +kernel
theorem dX6_replaces_0 : decode cX6_replaces 0 = .ok (.aload_n 0, 1) := by decide +kernel
theorem dX6_replaces_1 : decode cX6_replaces 1 = .ok (.getfield 209, 3) := by decide +kernel
theorem dX6_replaces_4 : decode cX6_replaces 4 = .ok (.ifCond .ne 6, 3) := by decide +kernel
theorem dX6_replaces_7 : decode cX6_replaces 7 = .ok (.bipush 6, 2) := by decide +kernel
theorem dX6_replaces_9 : decode cX6_replaces 9 = .ok (.ireturn, 1) := by decide +kernel
theorem dX6_replaces_10 : decode cX6_replaces 10 = .ok (.aload_n 0, 1) := by decide +kernel
theorem dX6_replaces_11 : decode cX6_replaces 11 = .ok (.iconst 0, 1) := by decide +kernel
theorem dX6_replaces_12 : decode cX6_replaces 12 = .ok (.putfield 240, 3) := by decide +kernel
theorem dX6_replaces_15 : decode cX6_replaces 15 = .ok (.iconst 1, 1) := by decide +kernel
theorem dX6_replaces_16 : decode cX6_replaces 16 = .ok (.istore_n 2, 1) := by decide +kernel
theorem dX6_replaces_17 : decode cX6_replaces 17 = .ok (.iconst 1, 1) := by decide +kernel
theorem dX6_replaces_18 : decode cX6_replaces 18 = .ok (.istore_n 3, 1) := by decide +kernel
theorem dX6_replaces_19 : decode cX6_replaces 19 = .ok (.iconst 0, 1) := by decide +kernel
theorem dX6_replaces_20 : decode cX6_replaces 20 = .ok (.istore 4, 2) := by decide +kernel
theorem dX6_replaces_22 : decode cX6_replaces 22 = .ok (.iload 4, 2) := by decide +kernel
theorem dX6_replaces_24 : decode cX6_replaces 24 = .ok (.aload_n 0, 1) := by decide +kernel
theorem dX6_replaces_25 : decode cX6_replaces 25 = .ok (.getfield 209, 3) := by decide +kernel
theorem dX6_replaces_28 : decode cX6_replaces 28 = .ok (.if_icmp .ge 135, 3) := by decide +kernel
theorem dX6_replaces_31 : decode cX6_replaces 31 = .ok (.aload_n 0, 1) := by decide +kernel
theorem dX6_replaces_32 : decode cX6_replaces 32 = .ok (.getfield 71, 3) := by decide +kernel
theorem dX6_replaces_35 : decode cX6_replaces 35 = .ok (.iconst 4, 1) := by decide +kernel
theorem dX6_replaces_36 : decode cX6_replaces 36 = .ok (.iload_n 1, 1) := by decide +kernel
theorem dX6_replaces_37 : decode cX6_replaces 37 = .ok (.imul, 1) := by decide +kernel
theorem dX6_replaces_38 : decode cX6_replaces 38 = .ok (.iload 4, 2) := by decide +kernel
theorem dX6_replaces_40 : decode cX6_replaces 40 = .ok (.iadd, 1) := by decide +kernel
theorem dX6_replaces_41 : decode cX6_replaces 41 = .ok (.iaload, 1) := by decide +kernel
theorem dX6_replaces_42 : decode cX6_replaces 42 = .ok (.istore 5, 2) := by decide +kernel
theorem dX6_replaces_44 : decode cX6_replaces 44 = .ok (.aload_n 0, 1) := by decide +kernel
theorem dX6_replaces_45 : decode cX6_replaces 45 = .ok (.getfield 74, 3) := by decide +kernel
theorem dX6_replaces_48 : decode cX6_replaces 48 = .ok (.iconst 4, 1) := by decide +kernel
theorem dX6_replaces_49 : decode cX6_replaces 49 = .ok (.iload_n 1, 1) := by decide +kernel
theorem dX6_replaces_50 : decode cX6_replaces 50 = .ok (.imul, 1) := by decide +kernel
theorem dX6_replaces_51 : decode cX6_replaces 51 = .ok (.iload 4, 2) := by decide +kernel
theorem dX6_replaces_53 : decode cX6_replaces 53 = .ok (.iadd, 1) := by decide +kernel
theorem dX6_replaces_54 : decode cX6_replaces 54 = .ok (.iaload, 1) := by decide +kernel
theorem dX6_replaces_55 : decode cX6_replaces 55 = .ok (.ifCond .ne 102, 3) := by decide +kernel
theorem dX6_replaces_58 : decode cX6_replaces 58 = .ok (.aload_n 0, 1) := by decide +kernel
theorem dX6_replaces_59 : decode cX6_replaces 59 = .ok (.getfield 98, 3) := by decide +kernel
theorem dX6_replaces_62 : decode cX6_replaces 62 = .ok (.iconst 3, 1) := by decide +kernel
theorem dX6_replaces_63 : decode cX6_replaces 63 = .ok (.iload 4, 2) := by decide +kernel
theorem dX6_replaces_65 : decode cX6_replaces 65 = .ok (.imul, 1) := by decide +kernel
theorem dX6_replaces_66 : decode cX6_replaces 66 = .ok (.iconst 2, 1) := by decide +kernel
theorem dX6_replaces_67 : decode cX6_replaces 67 = .ok (.iadd, 1) := by decide +kernel
theorem dX6_replaces_68 : decode cX6_replaces 68 = .ok (.iaload, 1) := by decide +kernel
theorem dX6_replaces_69 : decode cX6_replaces 69 = .ok (.istore 6, 2) := by decide +kernel
theorem dX6_replaces_71 : decode cX6_replaces 71 = .ok (.iload_n 2, 1) := by decide +kernel
theorem dX6_replaces_72 : decode cX6_replaces 72 = .ok (.ifCond .eq 41, 3) := by decide +kernel
theorem dX6_replaces_75 : decode cX6_replaces 75 = .ok (.aload_n 0, 1) := by decide +kernel
theorem dX6_replaces_76 : decode cX6_replaces 76 = .ok (.getfield 16, 3) := by decide +kernel
theorem dX6_replaces_79 : decode cX6_replaces 79 = .ok (.aload_n 0, 1) := by decide +kernel
theorem dX6_replaces_80 : decode cX6_replaces 80 = .ok (.getfield 34, 3) := by decide +kernel
theorem dX6_replaces_83 : decode cX6_replaces 83 = .ok (.iload 5, 2) := by decide +kernel
theorem dX6_replaces_85 : decode cX6_replaces 85 = .ok (.iaload, 1) := by decide +kernel
theorem dX6_replaces_86 : decode cX6_replaces 86 = .ok (.iaload, 1) := by decide +kernel
theorem dX6_replaces_87 : decode cX6_replaces 87 = .ok (.iconst 2, 1) := by decide +kernel
theorem dX6_replaces_88 : decode cX6_replaces 88 = .ok (.if_icmp .eq 21, 3) := by decide +kernel
theorem dX6_replaces_91 : decode cX6_replaces 91 = .ok (.aload_n 0, 1) := by decide +kernel
theorem dX6_replaces_92 : decode cX6_replaces 92 = .ok (.iload 5, 2) := by decide +kernel
theorem dX6_replaces_94 : decode cX6_replaces 94 = .ok (.invokevirtual 161, 3) := by decide +kernel
theorem dX6_replaces_97 : decode cX6_replaces 97 = .ok (.aload_n 0, 1) := by decide +kernel
theorem dX6_replaces_98 : decode cX6_replaces 98 = .ok (.getfield 98, 3) := by decide +kernel
theorem dX6_replaces_101 : decode cX6_replaces 101 = .ok (.iconst 3, 1) := by decide +kernel
theorem dX6_replaces_102 : decode cX6_replaces 102 = .ok (.iload 4, 2) := by decide +kernel
theorem dX6_replaces_104 : decode cX6_replaces 104 = .ok (.imul, 1) := by decide +kernel
theorem dX6_replaces_105 : decode cX6_replaces 105 = .ok (.iaload, 1) := by decide +kernel
theorem dX6_replaces_106 : decode cX6_replaces 106 = .ok (.if_icmp .ne 7, 3) := by decide +kernel
theorem dX6_replaces_109 : decode cX6_replaces 109 = .ok (.iconst 1, 1) := by decide +kernel
theorem dX6_replaces_110 : decode cX6_replaces 110 = .ok (.goto 4, 3) := by decide +kernel
theorem dX6_replaces_113 : decode cX6_replaces 113 = .ok (.iconst 0, 1) := by decide +kernel
theorem dX6_replaces_114 : decode cX6_replaces 114 = .ok (.istore_n 2, 1) := by decide +kernel
theorem dX6_replaces_115 : decode cX6_replaces 115 = .ok (.iload 6, 2) := by decide +kernel
theorem dX6_replaces_117 : decode cX6_replaces 117 = .ok (.aload_n 0, 1) := by decide +kernel
theorem dX6_replaces_118 : decode cX6_replaces 118 = .ok (.getfield 40, 3) := by decide +kernel
theorem dX6_replaces_121 : decode cX6_replaces 121 = .ok (.iconst 3, 1) := by decide +kernel
theorem dX6_replaces_122 : decode cX6_replaces 122 = .ok (.iload 5, 2) := by decide +kernel
theorem dX6_replaces_124 : decode cX6_replaces 124 = .ok (.imul, 1) := by decide +kernel
theorem dX6_replaces_125 : decode cX6_replaces 125 = .ok (.iconst 2, 1) := by decide +kernel
theorem dX6_replaces_126 : decode cX6_replaces 126 = .ok (.iadd, 1) := by decide +kernel
theorem dX6_replaces_127 : decode cX6_replaces 127 = .ok (.iaload, 1) := by decide +kernel
theorem dX6_replaces_128 : decode cX6_replaces 128 = .ok (.if_icmp .eq 19, 3) := by decide +kernel
theorem dX6_replaces_131 : decode cX6_replaces 131 = .ok (.aload_n 0, 1) := by decide +kernel
theorem dX6_replaces_132 : decode cX6_replaces 132 = .ok (.aload_n 0, 1) := by decide +kernel
theorem dX6_replaces_133 : decode cX6_replaces 133 = .ok (.getfield 34, 3) := by decide +kernel
theorem dX6_replaces_136 : decode cX6_replaces 136 = .ok (.iload 5, 2) := by decide +kernel
theorem dX6_replaces_138 : decode cX6_replaces 138 = .ok (.iaload, 1) := by decide +kernel
theorem dX6_replaces_139 : decode cX6_replaces 139 = .ok (.iload 6, 2) := by decide +kernel
theorem dX6_replaces_141 : decode cX6_replaces 141 = .ok (.invokevirtual 247, 3) := by decide +kernel
theorem dX6_replaces_144 : decode cX6_replaces 144 = .ok (.ifCond .eq 11, 3) := by decide +kernel
theorem dX6_replaces_147 : decode cX6_replaces 147 = .ok (.iload_n 3, 1) := by decide +kernel
theorem dX6_replaces_148 : decode cX6_replaces 148 = .ok (.ifCond .eq 7, 3) := by decide +kernel
theorem dX6_replaces_151 : decode cX6_replaces 151 = .ok (.iconst 1, 1) := by decide +kernel
theorem dX6_replaces_152 : decode cX6_replaces 152 = .ok (.goto 4, 3) := by decide +kernel
theorem dX6_replaces_155 : decode cX6_replaces 155 = .ok (.iconst 0, 1) := by decide +kernel
theorem dX6_replaces_156 : decode cX6_replaces 156 = .ok (.istore_n 3, 1) := by decide +kernel
theorem dX6_replaces_157 : decode cX6_replaces 157 = .ok (.iinc 4 1, 3) := by decide +kernel
theorem dX6_replaces_160 : decode cX6_replaces 160 = .ok (.goto (-138), 3) := by decide +kernel
theorem dX6_replaces_163 : decode cX6_replaces 163 = .ok (.iload_n 2, 1) := by decide +kernel
theorem dX6_replaces_164 : decode cX6_replaces 164 = .ok (.ifCond .eq 7, 3) := by decide +kernel
theorem dX6_replaces_167 : decode cX6_replaces 167 = .ok (.iload_n 3, 1) := by decide +kernel
theorem dX6_replaces_168 : decode cX6_replaces 168 = .ok (.ifCond .ne 15, 3) := by decide +kernel
theorem dX6_replaces_171 : decode cX6_replaces 171 = .ok (.iload_n 2, 1) := by decide +kernel
theorem dX6_replaces_172 : decode cX6_replaces 172 = .ok (.ifCond .eq 8, 3) := by decide +kernel
theorem dX6_replaces_175 : decode cX6_replaces 175 = .ok (.bipush 10, 2) := by decide +kernel
theorem dX6_replaces_177 : decode cX6_replaces 177 = .ok (.goto 5, 3) := by decide +kernel
theorem dX6_replaces_180 : decode cX6_replaces 180 = .ok (.bipush 8, 2) := by decide +kernel
theorem dX6_replaces_182 : decode cX6_replaces 182 = .ok (.ireturn, 1) := by decide +kernel
theorem dX6_replaces_183 : decode cX6_replaces 183 = .ok (.aload_n 0, 1) := by decide +kernel
theorem dX6_replaces_184 : decode cX6_replaces 184 = .ok (.invokevirtual 265, 3) := by decide +kernel
theorem dX6_replaces_187 : decode cX6_replaces 187 = .ok (.aload_n 0, 1) := by decide +kernel
theorem dX6_replaces_188 : decode cX6_replaces 188 = .ok (.getfield 240, 3) := by decide +kernel
theorem dX6_replaces_191 : decode cX6_replaces 191 = .ok (.iadd, 1) := by decide +kernel
theorem dX6_replaces_192 : decode cX6_replaces 192 = .ok (.bipush 60, 2) := by decide +kernel
theorem dX6_replaces_194 : decode cX6_replaces 194 = .ok (.if_icmp .le 6, 3) := by decide +kernel
theorem dX6_replaces_197 : decode cX6_replaces 197 = .ok (.bipush 11, 2) := by decide +kernel
theorem dX6_replaces_199 : decode cX6_replaces 199 = .ok (.ireturn, 1) := by decide +kernel
theorem dX6_replaces_200 : decode cX6_replaces 200 = .ok (.aload_n 0, 1) := by decide +kernel
theorem dX6_replaces_201 : decode cX6_replaces 201 = .ok (.invokevirtual 268, 3) := by decide +kernel
theorem dX6_replaces_204 : decode cX6_replaces 204 = .ok (.iconst 0, 1) := by decide +kernel
theorem dX6_replaces_205 : decode cX6_replaces 205 = .ok (.istore 4, 2) := by decide +kernel
theorem dX6_replaces_207 : decode cX6_replaces 207 = .ok (.iload 4, 2) := by decide +kernel
theorem dX6_replaces_209 : decode cX6_replaces 209 = .ok (.iconst 3, 1) := by decide +kernel
theorem dX6_replaces_210 : decode cX6_replaces 210 = .ok (.aload_n 0, 1) := by decide +kernel
theorem dX6_replaces_211 : decode cX6_replaces 211 = .ok (.getfield 209, 3) := by decide +kernel
theorem dX6_replaces_214 : decode cX6_replaces 214 = .ok (.imul, 1) := by decide +kernel
theorem dX6_replaces_215 : decode cX6_replaces 215 = .ok (.if_icmp .ge 57, 3) := by decide +kernel
theorem dX6_replaces_218 : decode cX6_replaces 218 = .ok (.aload_n 0, 1) := by decide +kernel
theorem dX6_replaces_219 : decode cX6_replaces 219 = .ok (.getfield 74, 3) := by decide +kernel
theorem dX6_replaces_222 : decode cX6_replaces 222 = .ok (.iconst 4, 1) := by decide +kernel
theorem dX6_replaces_223 : decode cX6_replaces 223 = .ok (.iload_n 1, 1) := by decide +kernel
theorem dX6_replaces_224 : decode cX6_replaces 224 = .ok (.imul, 1) := by decide +kernel
theorem dX6_replaces_225 : decode cX6_replaces 225 = .ok (.iload 4, 2) := by decide +kernel
theorem dX6_replaces_227 : decode cX6_replaces 227 = .ok (.iconst 3, 1) := by decide +kernel
