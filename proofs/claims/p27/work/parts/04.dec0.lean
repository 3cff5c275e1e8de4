theorem dX0_init_0 : decode cX0_init 0 = .ok (.aload_n 0, 1) := by decide +kernel
theorem dX0_init_1 : decode cX0_init 1 = .ok (.invokespecial 3, 3) := by decide +kernel
theorem dX0_init_4 : decode cX0_init 4 = .ok (.aload_n 0, 1) := by decide +kernel
theorem dX0_init_5 : decode cX0_init 5 = .ok (.iconst 0, 1) := by decide +kernel
theorem dX0_init_6 : decode cX0_init 6 = .ok (.putfield 9, 3) := by decide +kernel
theorem dX0_init_9 : decode cX0_init 9 = .ok (.aload_n 0, 1) := by decide +kernel
theorem dX0_init_10 : decode cX0_init 10 = .ok (.iconst 4, 1) := by decide +kernel
theorem dX0_init_11 : decode cX0_init 11 = .ok (.newarray .int, 2) := by decide +kernel
theorem dX0_init_13 : decode cX0_init 13 = .ok (.putfield 15, 3) := by decide +kernel
theorem dX0_init_16 : decode cX0_init 16 = .ok (.aload_n 0, 1) := by decide +kernel
theorem dX0_init_17 : decode cX0_init 17 = .ok (.iconst 4, 1) := by decide +kernel
theorem dX0_init_18 : decode cX0_init 18 = .ok (.newarray .int, 2) := by decide +kernel
theorem dX0_init_20 : decode cX0_init 20 = .ok (.putfield 19, 3) := by decide +kernel
theorem dX0_init_23 : decode cX0_init 23 = .ok (.aload_n 0, 1) := by decide +kernel
theorem dX0_init_24 : decode cX0_init 24 = .ok (.iconst 4, 1) := by decide +kernel
theorem dX0_init_25 : decode cX0_init 25 = .ok (.newarray .int, 2) := by decide +kernel
theorem dX0_init_27 : decode cX0_init 27 = .ok (.putfield 22, 3) := by decide +kernel
theorem dX0_init_30 : decode cX0_init 30 = .ok (.aload_n 0, 1) := by decide +kernel
theorem dX0_init_31 : decode cX0_init 31 = .ok (.bipush 12, 2) := by decide +kernel
theorem dX0_init_33 : decode cX0_init 33 = .ok (.newarray .boolean, 2) := by decide +kernel
theorem dX0_init_35 : decode cX0_init 35 = .ok (.putfield 25, 3) := by decide +kernel
theorem dX0_init_38 : decode cX0_init 38 = .ok (.aload_n 0, 1) := by decide +kernel
theorem dX0_init_39 : decode cX0_init 39 = .ok (.bipush 12, 2) := by decide +kernel
theorem dX0_init_41 : decode cX0_init 41 = .ok (.newarray .int, 2) := by decide +kernel
theorem dX0_init_43 : decode cX0_init 43 = .ok (.putfield 29, 3) := by decide +kernel
theorem dX0_init_46 : decode cX0_init 46 = .ok (.aload_n 0, 1) := by decide +kernel
theorem dX0_init_47 : decode cX0_init 47 = .ok (.bipush 12, 2) := by decide +kernel
theorem dX0_init_49 : decode cX0_init 49 = .ok (.newarray .int, 2) := by decide +kernel
theorem dX0_init_51 : decode cX0_init 51 = .ok (.putfield 32, 3) := by decide +kernel
theorem dX0_init_54 : decode cX0_init 54 = .ok (.aload_n 0, 1) := by decide +kernel
theorem dX0_init_55 : decode cX0_init 55 = .ok (.bipush 12, 2) := by decide +kernel
theorem dX0_init_57 : decode cX0_init 57 = .ok (.newarray .int, 2) := by decide +kernel
theorem dX0_init_59 : decode cX0_init 59 = .ok (.putfield 35, 3) := by decide +kernel
theorem dX0_init_62 : decode cX0_init 62 = .ok (.return_, 1) := by decide +kernel
theorem dX0_isListed_0 : decode cX0_isListed 0 = .ok (.iload_n 1, 1) := by decide +kernel
theorem dX0_isListed_1 : decode cX0_isListed 1 = .ok (.ifCond .lt 20, 3) := by decide +kernel
theorem dX0_isListed_4 : decode cX0_isListed 4 = .ok (.iload_n 1, 1) := by decide +kernel
theorem dX0_isListed_5 : decode cX0_isListed 5 = .ok (.aload_n 0, 1) := by decide +kernel
theorem dX0_isListed_6 : decode cX0_isListed 6 = .ok (.getfield 9, 3) := by decide +kernel
theorem dX0_isListed_9 : decode cX0_isListed 9 = .ok (.if_icmp .ge 12, 3) := by decide +kernel
theorem dX0_isListed_12 : decode cX0_isListed 12 = .ok (.iload_n 1, 1) := by decide +kernel
theorem dX0_isListed_13 : decode cX0_isListed 13 = .ok (.iconst 4, 1) := by decide +kernel
theorem dX0_isListed_14 : decode cX0_isListed 14 = .ok (.if_icmp .ge 7, 3) := by decide +kernel
theorem dX0_isListed_17 : decode cX0_isListed 17 = .ok (.iconst 1, 1) := by decide +kernel
theorem dX0_isListed_18 : decode cX0_isListed 18 = .ok (.goto 4, 3) := by decide +kernel
theorem dX0_isListed_21 : decode cX0_isListed 21 = .ok (.iconst 0, 1) := by decide +kernel
theorem dX0_isListed_22 : decode cX0_isListed 22 = .ok (.ireturn, 1) := by decide +kernel
theorem dX0_size_0 : decode cX0_size 0 = .ok (.aload_n 0, 1) := by decide +kernel
theorem dX0_size_1 : decode cX0_size 1 = .ok (.getfield 9, 3) := by decide +kernel
theorem dX0_size_4 : decode cX0_size 4 = .ok (.ireturn, 1) := by decide +kernel
theorem dX0_list_0 : decode cX0_list 0 = .ok (.aload_n 0, 1) := by decide +kernel
theorem dX0_list_1 : decode cX0_list 1 = .ok (.getfield 9, 3) := by decide +kernel
theorem dX0_list_4 : decode cX0_list 4 = .ok (.iconst 4, 1) := by decide +kernel
theorem dX0_list_5 : decode cX0_list 5 = .ok (.if_icmp .ge 43, 3) := by decide +kernel
theorem dX0_list_8 : decode cX0_list 8 = .ok (.aload_n 0, 1) := by decide +kernel
theorem dX0_list_9 : decode cX0_list 9 = .ok (.getfield 15, 3) := by decide +kernel
theorem dX0_list_12 : decode cX0_list 12 = .ok (.aload_n 0, 1) := by decide +kernel
theorem dX0_list_13 : decode cX0_list 13 = .ok (.getfield 9, 3) := by decide +kernel
theorem dX0_list_16 : decode cX0_list 16 = .ok (.iload_n 1, 1) := by decide +kernel
theorem dX0_list_17 : decode cX0_list 17 = .ok (.iastore, 1) := by decide +kernel
theorem dX0_list_18 : decode cX0_list 18 = .ok (.aload_n 0, 1) := by decide +kernel
theorem dX0_list_19 : decode cX0_list 19 = .ok (.getfield 19, 3) := by decide +kernel
theorem dX0_list_22 : decode cX0_list 22 = .ok (.aload_n 0, 1) := by decide +kernel
theorem dX0_list_23 : decode cX0_list 23 = .ok (.getfield 9, 3) := by decide +kernel
theorem dX0_list_26 : decode cX0_list 26 = .ok (.iload_n 2, 1) := by decide +kernel
theorem dX0_list_27 : decode cX0_list 27 = .ok (.iastore, 1) := by decide +kernel
theorem dX0_list_28 : decode cX0_list 28 = .ok (.aload_n 0, 1) := by decide +kernel
theorem dX0_list_29 : decode cX0_list 29 = .ok (.getfield 22, 3) := by decide +kernel
theorem dX0_list_32 : decode cX0_list 32 = .ok (.aload_n 0, 1) := by decide +kernel
theorem dX0_list_33 : decode cX0_list 33 = .ok (.getfield 9, 3) := by decide +kernel
theorem dX0_list_36 : decode cX0_list 36 = .ok (.iconst 0, 1) := by decide +kernel
theorem dX0_list_37 : decode cX0_list 37 = .ok (.iastore, 1) := by decide +kernel
theorem dX0_list_38 : decode cX0_list 38 = .ok (.aload_n 0, 1) := by decide +kernel
theorem dX0_list_39 : decode cX0_list 39 = .ok (.dup, 1) := by decide +kernel
theorem dX0_list_40 : decode cX0_list 40 = .ok (.getfield 9, 3) := by decide +kernel
theorem dX0_list_43 : decode cX0_list 43 = .ok (.iconst 1, 1) := by decide +kernel
theorem dX0_list_44 : decode cX0_list 44 = .ok (.iadd, 1) := by decide +kernel
theorem dX0_list_45 : decode cX0_list 45 = .ok (.putfield 9, 3) := by decide +kernel
theorem dX0_list_48 : decode cX0_list 48 = .ok (.aload_n 0, 1) := by decide +kernel
theorem dX0_list_49 : decode cX0_list 49 = .ok (.getfield 9, 3) := by decide +kernel
theorem dX0_list_52 : decode cX0_list 52 = .ok (.ireturn, 1) := by decide +kernel
theorem dX0_addCondition_0 : decode cX0_addCondition 0 = .ok (.aload_n 0, 1) := by decide +kernel
theorem dX0_addCondition_1 : decode cX0_addCondition 1 = .ok (.getfield 9, 3) := by decide +kernel
theorem dX0_addCondition_4 : decode cX0_addCondition 4 = .ok (.iconst 1, 1) := by decide +kernel
theorem dX0_addCondition_5 : decode cX0_addCondition 5 = .ok (.isub, 1) := by decide +kernel
theorem dX0_addCondition_6 : decode cX0_addCondition 6 = .ok (.istore 5, 2) := by decide +kernel
theorem dX0_addCondition_8 : decode cX0_addCondition 8 = .ok (.aload_n 0, 1) := by decide +kernel
theorem dX0_addCondition_9 : decode cX0_addCondition 9 = .ok (.iload 5, 2) := by decide +kernel
theorem dX0_addCondition_11 : decode cX0_addCondition 11 = .ok (.invokevirtual 38, 3) := by decide +kernel
theorem dX0_addCondition_14 : decode cX0_addCondition 14 = .ok (.ifCond .eq 14, 3) := by decide +kernel
theorem dX0_addCondition_17 : decode cX0_addCondition 17 = .ok (.aload_n 0, 1) := by decide +kernel
theorem dX0_addCondition_18 : decode cX0_addCondition 18 = .ok (.getfield 22, 3) := by decide +kernel
theorem dX0_addCondition_21 : decode cX0_addCondition 21 = .ok (.iload 5, 2) := by decide +kernel
theorem dX0_addCondition_23 : decode cX0_addCondition 23 = .ok (.iaload, 1) := by decide +kernel
theorem dX0_addCondition_24 : decode cX0_addCondition 24 = .ok (.iconst 3, 1) := by decide +kernel
theorem dX0_addCondition_25 : decode cX0_addCondition 25 = .ok (.if_icmp .lt 5, 3) := by decide +kernel
theorem dX0_addCondition_28 : decode cX0_addCondition 28 = .ok (.iconst 0, 1) := by decide +kernel
theorem dX0_addCondition_29 : decode cX0_addCondition 29 = .ok (.ireturn, 1) := by decide +kernel
theorem dX0_addCondition_30 : decode cX0_addCondition 30 = .ok (.iload 5, 2) := by decide +kernel
theorem dX0_addCondition_32 : decode cX0_addCondition 32 = .ok (.iconst 3, 1) := by decide +kernel
theorem dX0_addCondition_33 : decode cX0_addCondition 33 = .ok (.imul, 1) := by decide +kernel
theorem dX0_addCondition_34 : decode cX0_addCondition 34 = .ok (.aload_n 0, 1) := by decide +kernel
theorem dX0_addCondition_35 : decode cX0_addCondition 35 = .ok (.getfield 22, 3) := by decide +kernel
theorem dX0_addCondition_38 : decode cX0_addCondition 38 = .ok (.iload 5, 2) := by decide +kernel
theorem dX0_addCondition_40 : decode cX0_addCondition 40 = .ok (.iaload, 1) := by decide +kernel
theorem dX0_addCondition_41 : decode cX0_addCondition 41 = .ok (.iadd, 1) := by decide +kernel
theorem dX0_addCondition_42 : decode cX0_addCondition 42 = .ok (.istore 6, 2) := by decide +kernel
theorem dX0_addCondition_44 : decode cX0_addCondition 44 = .ok (.aload_n 0, 1) := by decide +kernel
theorem dX0_addCondition_45 : decode cX0_addCondition 45 = .ok (.getfield 25, 3) := by decide +kernel
theorem dX0_addCondition_48 : decode cX0_addCondition 48 = .ok (.iload 6, 2) := by decide +kernel
theorem dX0_addCondition_50 : decode cX0_addCondition 50 = .ok (.iload_n 1, 1) := by decide +kernel
theorem dX0_addCondition_51 : decode cX0_addCondition 51 = .ok (.bastore, 1) := by decide +kernel
theorem dX0_addCondition_52 : decode cX0_addCondition 52 = .ok (.aload_n 0, 1) := by decide +kernel
theorem dX0_addCondition_53 : decode cX0_addCondition 53 = .ok (.getfield 29, 3) := by decide +kernel
theorem dX0_addCondition_56 : decode cX0_addCondition 56 = .ok (.iload 6, 2) := by decide +kernel
theorem dX0_addCondition_58 : decode cX0_addCondition 58 = .ok (.iload_n 2, 1) := by decide +kernel
theorem dX0_addCondition_59 : decode cX0_addCondition 59 = .ok (.iastore, 1) := by decide +kernel
theorem dX0_addCondition_60 : decode cX0_addCondition 60 = .ok (.aload_n 0, 1) := by decide +kernel
theorem dX0_addCondition_61 : decode cX0_addCondition 61 = .ok (.getfield 32, 3) := by decide +kernel
theorem dX0_addCondition_64 : decode cX0_addCondition 64 = .ok (.iload 6, 2) := by decide +kernel
theorem dX0_addCondition_66 : decode cX0_addCondition 66 = .ok (.iload_n 3, 1) := by decide +kernel
theorem dX0_addCondition_67 : decode cX0_addCondition 67 = .ok (.iastore, 1) := by decide +kernel
theorem dX0_addCondition_68 : decode cX0_addCondition 68 = .ok (.aload_n 0, 1) := by decide +kernel
theorem dX0_addCondition_69 : decode cX0_addCondition 69 = .ok (.getfield 35, 3) := by decide +kernel
theorem dX0_addCondition_72 : decode cX0_addCondition 72 = .ok (.iload 6, 2) := by decide +kernel
theorem dX0_addCondition_74 : decode cX0_addCondition 74 = .ok (.iload 4, 2) := by decide +kernel
theorem dX0_addCondition_76 : decode cX0_addCondition 76 = .ok (.iastore, 1) := by decide +kernel
theorem dX0_addCondition_77 : decode cX0_addCondition 77 = .ok (.aload_n 0, 1) := by decide +kernel
theorem dX0_addCondition_78 : decode cX0_addCondition 78 = .ok (.getfield 22, 3) := by decide +kernel
theorem dX0_addCondition_81 : decode cX0_addCondition 81 = .ok (.iload 5, 2) := by decide +kernel
theorem dX0_addCondition_83 : decode cX0_addCondition 83 = .ok (.dup2, 1) := by decide +kernel
theorem dX0_addCondition_84 : decode cX0_addCondition 84 = .ok (.iaload, 1) := by decide +kernel
theorem dX0_addCondition_85 : decode cX0_addCondition 85 = .ok (.iconst 1, 1) := by decide +kernel
theorem dX0_addCondition_86 : decode cX0_addCondition 86 = .ok (.iadd, 1) := by decide +kernel
theorem dX0_addCondition_87 : decode cX0_addCondition 87 = .ok (.iastore, 1) := by decide +kernel
theorem dX0_addCondition_88 : decode cX0_addCondition 88 = .ok (.aload_n 0, 1) := by decide +kernel
theorem dX0_addCondition_89 : decode cX0_addCondition 89 = .ok (.getfield 22, 3) := by decide +kernel
theorem dX0_addCondition_92 : decode cX0_addCondition 92 = .ok (.iload 5, 2) := by decide +kernel
theorem dX0_addCondition_94 : decode cX0_addCondition 94 = .ok (.iaload, 1) := by decide +kernel
theorem dX0_addCondition_95 : decode cX0_addCondition 95 = .ok (.ireturn, 1) := by decide +kernel
theorem dX0_drop_0 : decode cX0_drop 0 = .ok (.aload_n 0, 1) := by decide +kernel
theorem dX0_drop_1 : decode cX0_drop 1 = .ok (.getfield 9, 3) := by decide +kernel
theorem dX0_drop_4 : decode cX0_drop 4 = .ok (.istore_n 1, 1) := by decide +kernel
theorem dX0_drop_5 : decode cX0_drop 5 = .ok (.aload_n 0, 1) := by decide +kernel
theorem dX0_drop_6 : decode cX0_drop 6 = .ok (.iconst 0, 1) := by decide +kernel
theorem dX0_drop_7 : decode cX0_drop 7 = .ok (.putfield 9, 3) := by decide +kernel
theorem dX0_drop_10 : decode cX0_drop 10 = .ok (.iload_n 1, 1) := by decide +kernel
theorem dX0_drop_11 : decode cX0_drop 11 = .ok (.ireturn, 1) := by decide +kernel
theorem dX0_typeOf_0 : decode cX0_typeOf 0 = .ok (.aload_n 0, 1) := by decide +kernel
theorem dX0_typeOf_1 : decode cX0_typeOf 1 = .ok (.iload_n 1, 1) := by decide +kernel
theorem dX0_typeOf_2 : decode cX0_typeOf 2 = .ok (.invokevirtual 38, 3) := by decide +kernel
theorem dX0_typeOf_5 : decode cX0_typeOf 5 = .ok (.ifCond .eq 12, 3) := by decide +kernel
theorem dX0_typeOf_8 : decode cX0_typeOf 8 = .ok (.aload_n 0, 1) := by decide +kernel
theorem dX0_typeOf_9 : decode cX0_typeOf 9 = .ok (.getfield 15, 3) := by decide +kernel
theorem dX0_typeOf_12 : decode cX0_typeOf 12 = .ok (.iload_n 1, 1) := by decide +kernel
theorem dX0_typeOf_13 : decode cX0_typeOf 13 = .ok (.iaload, 1) := by decide +kernel
theorem dX0_typeOf_14 : decode cX0_typeOf 14 = .ok (.goto 4, 3) := by decide +kernel
theorem dX0_typeOf_17 : decode cX0_typeOf 17 = .ok (.iconst (-1), 1) := by decide +kernel
theorem dX0_typeOf_18 : decode cX0_typeOf 18 = .ok (.ireturn, 1) := by decide +kernel
theorem dX0_hasCode_0 : decode cX0_hasCode 0 = .ok (.aload_n 0, 1) := by decide +kernel
theorem dX0_hasCode_1 : decode cX0_hasCode 1 = .ok (.iload_n 1, 1) := by decide +kernel
theorem dX0_hasCode_2 : decode cX0_hasCode 2 = .ok (.invokevirtual 38, 3) := by decide +kernel
theorem dX0_hasCode_5 : decode cX0_hasCode 5 = .ok (.ifCond .eq 18, 3) := by decide +kernel
theorem dX0_hasCode_8 : decode cX0_hasCode 8 = .ok (.aload_n 0, 1) := by decide +kernel
theorem dX0_hasCode_9 : decode cX0_hasCode 9 = .ok (.getfield 19, 3) := by decide +kernel
theorem dX0_hasCode_12 : decode cX0_hasCode 12 = .ok (.iload_n 1, 1) := by decide +kernel
theorem dX0_hasCode_13 : decode cX0_hasCode 13 = .ok (.iaload, 1) := by decide +kernel
theorem dX0_hasCode_14 : decode cX0_hasCode 14 = .ok (.iload_n 2, 1) := by decide +kernel
theorem dX0_hasCode_15 : decode cX0_hasCode 15 = .ok (.iand, 1) := by decide +kernel
theorem dX0_hasCode_16 : decode cX0_hasCode 16 = .ok (.ifCond .eq 7, 3) := by decide +kernel
theorem dX0_hasCode_19 : decode cX0_hasCode 19 = .ok (.iconst 1, 1) := by decide +kernel
theorem dX0_hasCode_20 : decode cX0_hasCode 20 = .ok (.goto 4, 3) := by decide +kernel
theorem dX0_hasCode_23 : decode cX0_hasCode 23 = .ok (.iconst 0, 1) := by decide +kernel
theorem dX0_hasCode_24 : decode cX0_hasCode 24 = .ok (.ireturn, 1) := by decide +kernel
theorem dX0_conditionsOf_0 : decode cX0_conditionsOf 0 = .ok (.iload_n 1, 1) := by decide +kernel
theorem dX0_conditionsOf_1 : decode cX0_conditionsOf 1 = .ok (.ifCond .lt 25, 3) := by decide +kernel
theorem dX0_conditionsOf_4 : decode cX0_conditionsOf 4 = .ok (.iload_n 1, 1) := by decide +kernel
theorem dX0_conditionsOf_5 : decode cX0_conditionsOf 5 = .ok (.aload_n 0, 1) := by decide +kernel
theorem dX0_conditionsOf_6 : decode cX0_conditionsOf 6 = .ok (.getfield 9, 3) := by decide +kernel
theorem dX0_conditionsOf_9 : decode cX0_conditionsOf 9 = .ok (.if_icmp .ge 17, 3) := by decide +kernel
theorem dX0_conditionsOf_12 : decode cX0_conditionsOf 12 = .ok (.iload_n 1, 1) := by decide +kernel
theorem dX0_conditionsOf_13 : decode cX0_conditionsOf 13 = .ok (.iconst 4, 1) := by decide +kernel
theorem dX0_conditionsOf_14 : decode cX0_conditionsOf 14 = .ok (.if_icmp .ge 12, 3) := by decide +kernel
theorem dX0_conditionsOf_17 : decode cX0_conditionsOf 17 = .ok (.aload_n 0, 1) := by decide +kernel
theorem dX0_conditionsOf_18 : decode cX0_conditionsOf 18 = .ok (.getfield 22, 3) := by decide +kernel
theorem dX0_conditionsOf_21 : decode cX0_conditionsOf 21 = .ok (.iload_n 1, 1) := by decide +kernel
theorem dX0_conditionsOf_22 : decode cX0_conditionsOf 22 = .ok (.iaload, 1) := by decide +kernel
theorem dX0_conditionsOf_23 : decode cX0_conditionsOf 23 = .ok (.goto 4, 3) := by decide +kernel
theorem dX0_conditionsOf_26 : decode cX0_conditionsOf 26 = .ok (.iconst 0, 1) := by decide +kernel
theorem dX0_conditionsOf_27 : decode cX0_conditionsOf 27 = .ok (.ireturn, 1) := by decide +kernel
theorem dX0_firstNew_0 : decode cX0_firstNew 0 = .ok (.iconst 0, 1) := by decide +kernel
theorem dX0_firstNew_1 : decode cX0_firstNew 1 = .ok (.istore_n 1, 1) := by decide +kernel
theorem dX0_firstNew_2 : decode cX0_firstNew 2 = .ok (.iload_n 1, 1) := by decide +kernel
theorem dX0_firstNew_3 : decode cX0_firstNew 3 = .ok (.aload_n 0, 1) := by decide +kernel
theorem dX0_firstNew_4 : decode cX0_firstNew 4 = .ok (.getfield 9, 3) := by decide +kernel
theorem dX0_firstNew_7 : decode cX0_firstNew 7 = .ok (.if_icmp .ge 20, 3) := by decide +kernel
theorem dX0_firstNew_10 : decode cX0_firstNew 10 = .ok (.aload_n 0, 1) := by decide +kernel
theorem dX0_firstNew_11 : decode cX0_firstNew 11 = .ok (.iload_n 1, 1) := by decide +kernel
theorem dX0_firstNew_12 : decode cX0_firstNew 12 = .ok (.iconst 1, 1) := by decide +kernel
theorem dX0_firstNew_13 : decode cX0_firstNew 13 = .ok (.invokevirtual 42, 3) := by decide +kernel
theorem dX0_firstNew_16 : decode cX0_firstNew 16 = .ok (.ifCond .eq 5, 3) := by decide +kernel
theorem dX0_firstNew_19 : decode cX0_firstNew 19 = .ok (.iload_n 1, 1) := by decide +kernel
theorem dX0_firstNew_20 : decode cX0_firstNew 20 = .ok (.ireturn, 1) := by decide +kernel
theorem dX0_firstNew_21 : decode cX0_firstNew 21 = .ok (.iinc 1 1, 3) := by decide +kernel
theorem dX0_firstNew_24 : decode cX0_firstNew 24 = .ok (.goto (-22), 3) := by decide +kernel
theorem dX0_firstNew_27 : decode cX0_firstNew 27 = .ok (.aload_n 0, 1) := by decide +kernel
theorem dX0_firstNew_28 : decode cX0_firstNew 28 = .ok (.getfield 9, 3) := by decide +kernel
theorem dX0_firstNew_31 : decode cX0_firstNew 31 = .ok (.iconst 1, 1) := by decide +kernel
theorem dX0_firstNew_32 : decode cX0_firstNew 32 = .ok (.isub, 1) := by decide +kernel
theorem dX0_firstNew_33 : decode cX0_firstNew 33 = .ok (.ireturn, 1) := by decide +kernel
theorem dX0_isFulfilled_0 : decode cX0_isFulfilled 0 = .ok (.iconst 1, 1) := by decide +kernel
theorem dX0_isFulfilled_1 : decode cX0_isFulfilled 1 = .ok (.istore 4, 2) := by decide +kernel
theorem dX0_isFulfilled_3 : decode cX0_isFulfilled 3 = .ok (.iload_n 1, 1) := by decide +kernel
theorem dX0_isFulfilled_4 : decode cX0_isFulfilled 4 = .ok (.iconst 3, 1) := by decide +kernel
theorem dX0_isFulfilled_5 : decode cX0_isFulfilled 5 = .ok (.imul, 1) := by decide +kernel
theorem dX0_isFulfilled_6 : decode cX0_isFulfilled 6 = .ok (.istore 5, 2) := by decide +kernel
theorem dX0_isFulfilled_8 : decode cX0_isFulfilled 8 = .ok (.iconst 0, 1) := by decide +kernel
theorem dX0_isFulfilled_9 : decode cX0_isFulfilled 9 = .ok (.istore 6, 2) := by decide +kernel
theorem dX0_isFulfilled_11 : decode cX0_isFulfilled 11 = .ok (.iload 6, 2) := by decide +kernel
theorem dX0_isFulfilled_13 : decode cX0_isFulfilled 13 = .ok (.aload_n 0, 1) := by decide +kernel
theorem dX0_isFulfilled_14 : decode cX0_isFulfilled 14 = .ok (.iload_n 1, 1) := by decide +kernel
theorem dX0_isFulfilled_15 : decode cX0_isFulfilled 15 = .ok (.invokevirtual 46, 3) := by decide +kernel
theorem dX0_isFulfilled_18 : decode cX0_isFulfilled 18 = .ok (.if_icmp .ge 100, 3) := by decide +kernel
theorem dX0_isFulfilled_21 : decode cX0_isFulfilled 21 = .ok (.iload 6, 2) := by decide +kernel
theorem dX0_isFulfilled_23 : decode cX0_isFulfilled 23 = .ok (.iconst 3, 1) := by decide +kernel
theorem dX0_isFulfilled_24 : decode cX0_isFulfilled 24 = .ok (.if_icmp .ge 94, 3) := by decide +kernel
theorem dX0_isFulfilled_27 : decode cX0_isFulfilled 27 = .ok (.iload 6, 2) := by decide +kernel
theorem dX0_isFulfilled_29 : decode cX0_isFulfilled 29 = .ok (.ifCond .le 26, 3) := by decide +kernel
theorem dX0_isFulfilled_32 : decode cX0_isFulfilled 32 = .ok (.aload_n 0, 1) := by decide +kernel
theorem dX0_isFulfilled_33 : decode cX0_isFulfilled 33 = .ok (.getfield 25, 3) := by decide +kernel
theorem dX0_isFulfilled_36 : decode cX0_isFulfilled 36 = .ok (.iload 5, 2) := by decide +kernel
theorem dX0_isFulfilled_38 : decode cX0_isFulfilled 38 = .ok (.iload 6, 2) := by decide +kernel
theorem dX0_isFulfilled_40 : decode cX0_isFulfilled 40 = .ok (.iadd, 1) := by decide +kernel
theorem dX0_isFulfilled_41 : decode cX0_isFulfilled 41 = .ok (.baload, 1) := by decide +kernel
theorem dX0_isFulfilled_42 : decode cX0_isFulfilled 42 = .ok (.ifCond .eq 13, 3) := by decide +kernel
theorem dX0_isFulfilled_45 : decode cX0_isFulfilled 45 = .ok (.iload 4, 2) := by decide +kernel
theorem dX0_isFulfilled_47 : decode cX0_isFulfilled 47 = .ok (.ifCond .eq 5, 3) := by decide +kernel
theorem dX0_isFulfilled_50 : decode cX0_isFulfilled 50 = .ok (.iconst 1, 1) := by decide +kernel
theorem dX0_isFulfilled_51 : decode cX0_isFulfilled 51 = .ok (.ireturn, 1) := by decide +kernel
theorem dX0_isFulfilled_52 : decode cX0_isFulfilled 52 = .ok (.iconst 1, 1) := by decide +kernel
theorem dX0_isFulfilled_53 : decode cX0_isFulfilled 53 = .ok (.istore 4, 2) := by decide +kernel
theorem dX0_isFulfilled_55 : decode cX0_isFulfilled 55 = .ok (.aload_n 2, 1) := by decide +kernel
theorem dX0_isFulfilled_56 : decode cX0_isFulfilled 56 = .ok (.iload_n 3, 1) := by decide +kernel
theorem dX0_isFulfilled_57 : decode cX0_isFulfilled 57 = .ok (.aload_n 0, 1) := by decide +kernel
theorem dX0_isFulfilled_58 : decode cX0_isFulfilled 58 = .ok (.getfield 29, 3) := by decide +kernel
theorem dX0_isFulfilled_61 : decode cX0_isFulfilled 61 = .ok (.iload 5, 2) := by decide +kernel
theorem dX0_isFulfilled_63 : decode cX0_isFulfilled 63 = .ok (.iload 6, 2) := by decide +kernel
theorem dX0_isFulfilled_65 : decode cX0_isFulfilled 65 = .ok (.iadd, 1) := by decide +kernel
theorem dX0_isFulfilled_66 : decode cX0_isFulfilled 66 = .ok (.iaload, 1) := by decide +kernel
theorem dX0_isFulfilled_67 : decode cX0_isFulfilled 67 = .ok (.invokevirtual 50, 3) := by decide +kernel
theorem dX0_isFulfilled_70 : decode cX0_isFulfilled 70 = .ok (.istore 7, 2) := by decide +kernel
theorem dX0_isFulfilled_72 : decode cX0_isFulfilled 72 = .ok (.iload 4, 2) := by decide +kernel
theorem dX0_isFulfilled_74 : decode cX0_isFulfilled 74 = .ok (.ifCond .eq 35, 3) := by decide +kernel
theorem dX0_isFulfilled_77 : decode cX0_isFulfilled 77 = .ok (.aload_n 0, 1) := by decide +kernel
theorem dX0_isFulfilled_78 : decode cX0_isFulfilled 78 = .ok (.getfield 32, 3) := by decide +kernel
theorem dX0_isFulfilled_81 : decode cX0_isFulfilled 81 = .ok (.iload 5, 2) := by decide +kernel
theorem dX0_isFulfilled_83 : decode cX0_isFulfilled 83 = .ok (.iload 6, 2) := by decide +kernel
theorem dX0_isFulfilled_85 : decode cX0_isFulfilled 85 = .ok (.iadd, 1) := by decide +kernel
theorem dX0_isFulfilled_86 : decode cX0_isFulfilled 86 = .ok (.iaload, 1) := by decide +kernel
theorem dX0_isFulfilled_87 : decode cX0_isFulfilled 87 = .ok (.iload 7, 2) := by decide +kernel
theorem dX0_isFulfilled_89 : decode cX0_isFulfilled 89 = .ok (.aload_n 0, 1) := by decide +kernel
theorem dX0_isFulfilled_90 : decode cX0_isFulfilled 90 = .ok (.getfield 35, 3) := by decide +kernel
theorem dX0_isFulfilled_93 : decode cX0_isFulfilled 93 = .ok (.iload 5, 2) := by decide +kernel
theorem dX0_isFulfilled_95 : decode cX0_isFulfilled 95 = .ok (.iload 6, 2) := by decide +kernel
theorem dX0_isFulfilled_97 : decode cX0_isFulfilled 97 = .ok (.iadd, 1) := by decide +kernel
theorem dX0_isFulfilled_98 : decode cX0_isFulfilled 98 = .ok (.iaload, 1) := by decide +kernel
theorem dX0_isFulfilled_99 : decode cX0_isFulfilled 99 = .ok (.invokestatic 56, 3) := by decide +kernel
theorem dX0_isFulfilled_102 : decode cX0_isFulfilled 102 = .ok (.ifCond .eq 7, 3) := by decide +kernel
theorem dX0_isFulfilled_105 : decode cX0_isFulfilled 105 = .ok (.iconst 1, 1) := by decide +kernel
theorem dX0_isFulfilled_106 : decode cX0_isFulfilled 106 = .ok (.goto 4, 3) := by decide +kernel
theorem dX0_isFulfilled_109 : decode cX0_isFulfilled 109 = .ok (.iconst 0, 1) := by decide +kernel
theorem dX0_isFulfilled_110 : decode cX0_isFulfilled 110 = .ok (.istore 4, 2) := by decide +kernel
theorem dX0_isFulfilled_112 : decode cX0_isFulfilled 112 = .ok (.iinc 6 1, 3) := by decide +kernel
theorem dX0_isFulfilled_115 : decode cX0_isFulfilled 115 = .ok (.goto (-104), 3) := by decide +kernel
theorem dX0_isFulfilled_118 : decode cX0_isFulfilled 118 = .ok (.iload 4, 2) := by decide +kernel
theorem dX0_isFulfilled_120 : decode cX0_isFulfilled 120 = .ok (.ireturn, 1) := by decide +kernel
theorem dX0_isMet_0 : decode cX0_isMet 0 = .ok (.iload_n 0, 1) := by decide +kernel
theorem dX0_isMet_1 : decode cX0_isMet 1 = .ok (.tableswitch 90 0 4 #[35, 46, 57, 68, 79], 35) := by decide +kernel
theorem dX0_isMet_36 : decode cX0_isMet 36 = .ok (.iload_n 1, 1) := by decide +kernel
theorem dX0_isMet_37 : decode cX0_isMet 37 = .ok (.iload_n 2, 1) := by decide +kernel
theorem dX0_isMet_38 : decode cX0_isMet 38 = .ok (.if_icmp .ne 7, 3) := by decide +kernel
theorem dX0_isMet_41 : decode cX0_isMet 41 = .ok (.iconst 1, 1) := by decide +kernel
theorem dX0_isMet_42 : decode cX0_isMet 42 = .ok (.goto 4, 3) := by decide +kernel
theorem dX0_isMet_45 : decode cX0_isMet 45 = .ok (.iconst 0, 1) := by decide +kernel
theorem dX0_isMet_46 : decode cX0_isMet 46 = .ok (.ireturn, 1) := by decide +kernel
theorem dX0_isMet_47 : decode cX0_isMet 47 = .ok (.iload_n 1, 1) := by decide +kernel
theorem dX0_isMet_48 : decode cX0_isMet 48 = .ok (.iload_n 2, 1) := by decide +kernel
theorem dX0_isMet_49 : decode cX0_isMet 49 = .ok (.if_icmp .eq 7, 3) := by decide +kernel
theorem dX0_isMet_52 : decode cX0_isMet 52 = .ok (.iconst 1, 1) := by decide +kernel
theorem dX0_isMet_53 : decode cX0_isMet 53 = .ok (.goto 4, 3) := by decide +kernel
theorem dX0_isMet_56 : decode cX0_isMet 56 = .ok (.iconst 0, 1) := by decide +kernel
theorem dX0_isMet_57 : decode cX0_isMet 57 = .ok (.ireturn, 1) := by decide +kernel
theorem dX0_isMet_58 : decode cX0_isMet 58 = .ok (.iload_n 1, 1) := by decide +kernel
theorem dX0_isMet_59 : decode cX0_isMet 59 = .ok (.iload_n 2, 1) := by decide +kernel
theorem dX0_isMet_60 : decode cX0_isMet 60 = .ok (.if_icmp .ge 7, 3) := by decide +kernel
theorem dX0_isMet_63 : decode cX0_isMet 63 = .ok (.iconst 1, 1) := by decide +kernel
theorem dX0_isMet_64 : decode cX0_isMet 64 = .ok (.goto 4, 3) := by decide +kernel
theorem dX0_isMet_67 : decode cX0_isMet 67 = .ok (.iconst 0, 1) := by decide +kernel
theorem dX0_isMet_68 : decode cX0_isMet 68 = .ok (.ireturn, 1) := by decide +kernel
theorem dX0_isMet_69 : decode cX0_isMet 69 = .ok (.iload_n 1, 1) := by decide +kernel
theorem dX0_isMet_70 : decode cX0_isMet 70 = .ok (.iload_n 2, 1) := by decide +kernel
theorem dX0_isMet_71 : decode cX0_isMet 71 = .ok (.if_icmp .gt 7, 3) := by decide +kernel
theorem dX0_isMet_74 : decode cX0_isMet 74 = .ok (.iconst 1, 1) := by decide +kernel
theorem dX0_isMet_75 : decode cX0_isMet 75 = .ok (.goto 4, 3) := by decide +kernel
theorem dX0_isMet_78 : decode cX0_isMet 78 = .ok (.iconst 0, 1) := by decide +kernel
theorem dX0_isMet_79 : decode cX0_isMet 79 = .ok (.ireturn, 1) := by decide +kernel
theorem dX0_isMet_80 : decode cX0_isMet 80 = .ok (.iload_n 1, 1) := by decide +kernel
theorem dX0_isMet_81 : decode cX0_isMet 81 = .ok (.iload_n 2, 1) := by decide +kernel
theorem dX0_isMet_82 : decode cX0_isMet 82 = .ok (.if_icmp .le 7, 3) := by decide +kernel
theorem dX0_isMet_85 : decode cX0_isMet 85 = .ok (.iconst 1, 1) := by decide +kernel
theorem dX0_isMet_86 : decode cX0_isMet 86 = .ok (.goto 4, 3) := by decide +kernel
theorem dX0_isMet_89 : decode cX0_isMet 89 = .ok (.iconst 0, 1) := by decide +kernel
theorem dX0_isMet_90 : decode cX0_isMet 90 = .ok (.ireturn, 1) := by decide +kernel
theorem dX0_isMet_91 : decode cX0_isMet 91 = .ok (.iload_n 1, 1) := by decide +kernel
theorem dX0_isMet_92 : decode cX0_isMet 92 = .ok (.iload_n 2, 1) := by decide +kernel
theorem dX0_isMet_93 : decode cX0_isMet 93 = .ok (.if_icmp .lt 7, 3) := by decide +kernel
theorem dX0_isMet_96 : decode cX0_isMet 96 = .ok (.iconst 1, 1) := by decide +kernel
theorem dX0_isMet_97 : decode cX0_isMet 97 = .ok (.goto 4, 3) := by decide +kernel
theorem dX0_isMet_100 : decode cX0_isMet 100 = .ok (.iconst 0, 1) := by decide +kernel
theorem dX0_isMet_101 : decode cX0_isMet 101 = .ok (.ireturn, 1) := by decide +kernel
theorem dX1_init_0 : decode cX1_init 0 = .ok (.aload_n 0, 1) := by decide +kernel
theorem dX1_init_1 : decode cX1_init 1 = .ok (.invokespecial 3, 3) := by decide +kernel
theorem dX1_init_4 : decode cX1_init 4 = .ok (.aload_n 0, 1) := by decide +kernel
theorem dX1_init_5 : decode cX1_init 5 = .ok (.iconst 0, 1) := by decide +kernel
theorem dX1_init_6 : decode cX1_init 6 = .ok (.putfield 9, 3) := by decide +kernel
theorem dX1_init_9 : decode cX1_init 9 = .ok (.aload_n 0, 1) := by decide +kernel
theorem dX1_init_10 : decode cX1_init 10 = .ok (.iconst 0, 1) := by decide +kernel
theorem dX1_init_11 : decode cX1_init 11 = .ok (.putfield 15, 3) := by decide +kernel
theorem dX1_init_14 : decode cX1_init 14 = .ok (.aload_n 0, 1) := by decide +kernel
theorem dX1_init_15 : decode cX1_init 15 = .ok (.iconst 4, 1) := by decide +kernel
theorem dX1_init_16 : decode cX1_init 16 = .ok (.newarray .int, 2) := by decide +kernel
theorem dX1_init_18 : decode cX1_init 18 = .ok (.putfield 19, 3) := by decide +kernel
theorem dX1_init_21 : decode cX1_init 21 = .ok (.aload_n 0, 1) := by decide +kernel
theorem dX1_init_22 : decode cX1_init 22 = .ok (.iconst 4, 1) := by decide +kernel
theorem dX1_init_23 : decode cX1_init 23 = .ok (.newarray .int, 2) := by decide +kernel
theorem dX1_init_25 : decode cX1_init 25 = .ok (.putfield 23, 3) := by decide +kernel
theorem dX1_init_28 : decode cX1_init 28 = .ok (.return_, 1) := by decide +kernel
theorem dX1_start_0 : decode cX1_start 0 = .ok (.aload_n 0, 1) := by decide +kernel
theorem dX1_start_1 : decode cX1_start 1 = .ok (.iconst 0, 1) := by decide +kernel
theorem dX1_start_2 : decode cX1_start 2 = .ok (.putfield 9, 3) := by decide +kernel
theorem dX1_start_5 : decode cX1_start 5 = .ok (.aload_n 0, 1) := by decide +kernel
theorem dX1_start_6 : decode cX1_start 6 = .ok (.iconst 0, 1) := by decide +kernel
theorem dX1_start_7 : decode cX1_start 7 = .ok (.putfield 15, 3) := by decide +kernel
theorem dX1_start_10 : decode cX1_start 10 = .ok (.return_, 1) := by decide +kernel
theorem dX1_refuse_0 : decode cX1_refuse 0 = .ok (.aload_n 0, 1) := by decide +kernel
theorem dX1_refuse_1 : decode cX1_refuse 1 = .ok (.iconst 1, 1) := by decide +kernel
theorem dX1_refuse_2 : decode cX1_refuse 2 = .ok (.putfield 15, 3) := by decide +kernel
theorem dX1_refuse_5 : decode cX1_refuse 5 = .ok (.return_, 1) := by decide +kernel
theorem dX1_isRefused_0 : decode cX1_isRefused 0 = .ok (.aload_n 0, 1) := by decide +kernel
theorem dX1_isRefused_1 : decode cX1_isRefused 1 = .ok (.getfield 15, 3) := by decide +kernel
theorem dX1_isRefused_4 : decode cX1_isRefused 4 = .ok (.ireturn, 1) := by decide +kernel
theorem dX1_size_0 : decode cX1_size 0 = .ok (.aload_n 0, 1) := by decide +kernel
theorem dX1_size_1 : decode cX1_size 1 = .ok (.getfield 9, 3) := by decide +kernel
theorem dX1_size_4 : decode cX1_size 4 = .ok (.ireturn, 1) := by decide +kernel
theorem dX1_add_0 : decode cX1_add 0 = .ok (.iconst 0, 1) := by decide +kernel
theorem dX1_add_1 : decode cX1_add 1 = .ok (.istore_n 3, 1) := by decide +kernel
theorem dX1_add_2 : decode cX1_add 2 = .ok (.iload_n 3, 1) := by decide +kernel
theorem dX1_add_3 : decode cX1_add 3 = .ok (.aload_n 0, 1) := by decide +kernel
theorem dX1_add_4 : decode cX1_add 4 = .ok (.getfield 9, 3) := by decide +kernel
theorem dX1_add_7 : decode cX1_add 7 = .ok (.if_icmp .ge 35, 3) := by decide +kernel
theorem dX1_add_10 : decode cX1_add 10 = .ok (.iload_n 3, 1) := by decide +kernel
theorem dX1_add_11 : decode cX1_add 11 = .ok (.iconst 4, 1) := by decide +kernel
theorem dX1_add_12 : decode cX1_add 12 = .ok (.if_icmp .ge 30, 3) := by decide +kernel
theorem dX1_add_15 : decode cX1_add 15 = .ok (.aload_n 0, 1) := by decide +kernel
theorem dX1_add_16 : decode cX1_add 16 = .ok (.getfield 19, 3) := by decide +kernel
theorem dX1_add_19 : decode cX1_add 19 = .ok (.iload_n 3, 1) := by decide +kernel
theorem dX1_add_20 : decode cX1_add 20 = .ok (.iaload, 1) := by decide +kernel
theorem dX1_add_21 : decode cX1_add 21 = .ok (.iload_n 1, 1) := by decide +kernel
theorem dX1_add_22 : decode cX1_add 22 = .ok (.if_icmp .ne 14, 3) := by decide +kernel
theorem dX1_add_25 : decode cX1_add 25 = .ok (.aload_n 0, 1) := by decide +kernel
theorem dX1_add_26 : decode cX1_add 26 = .ok (.getfield 23, 3) := by decide +kernel
theorem dX1_add_29 : decode cX1_add 29 = .ok (.iload_n 3, 1) := by decide +kernel
theorem dX1_add_30 : decode cX1_add 30 = .ok (.iaload, 1) := by decide +kernel
theorem dX1_add_31 : decode cX1_add 31 = .ok (.iload_n 2, 1) := by decide +kernel
theorem dX1_add_32 : decode cX1_add 32 = .ok (.if_icmp .ne 4, 3) := by decide +kernel
theorem dX1_add_35 : decode cX1_add 35 = .ok (.return_, 1) := by decide +kernel
theorem dX1_add_36 : decode cX1_add 36 = .ok (.iinc 3 1, 3) := by decide +kernel
theorem dX1_add_39 : decode cX1_add 39 = .ok (.goto (-37), 3) := by decide +kernel
theorem dX1_add_42 : decode cX1_add 42 = .ok (.aload_n 0, 1) := by decide +kernel
theorem dX1_add_43 : decode cX1_add 43 = .ok (.getfield 9, 3) := by decide +kernel
theorem dX1_add_46 : decode cX1_add 46 = .ok (.iconst 4, 1) := by decide +kernel
theorem dX1_add_47 : decode cX1_add 47 = .ok (.if_icmp .ge 33, 3) := by decide +kernel
theorem dX1_add_50 : decode cX1_add 50 = .ok (.aload_n 0, 1) := by decide +kernel
theorem dX1_add_51 : decode cX1_add 51 = .ok (.getfield 19, 3) := by decide +kernel
theorem dX1_add_54 : decode cX1_add 54 = .ok (.aload_n 0, 1) := by decide +kernel
theorem dX1_add_55 : decode cX1_add 55 = .ok (.getfield 9, 3) := by decide +kernel
theorem dX1_add_58 : decode cX1_add 58 = .ok (.iload_n 1, 1) := by decide +kernel
theorem dX1_add_59 : decode cX1_add 59 = .ok (.iastore, 1) := by decide +kernel
theorem dX1_add_60 : decode cX1_add 60 = .ok (.aload_n 0, 1) := by decide +kernel
theorem dX1_add_61 : decode cX1_add 61 = .ok (.getfield 23, 3) := by decide +kernel
theorem dX1_add_64 : decode cX1_add 64 = .ok (.aload_n 0, 1) := by decide +kernel
theorem dX1_add_65 : decode cX1_add 65 = .ok (.getfield 9, 3) := by decide +kernel
theorem dX1_add_68 : decode cX1_add 68 = .ok (.iload_n 2, 1) := by decide +kernel
theorem dX1_add_69 : decode cX1_add 69 = .ok (.iastore, 1) := by decide +kernel
theorem dX1_add_70 : decode cX1_add 70 = .ok (.aload_n 0, 1) := by decide +kernel
theorem dX1_add_71 : decode cX1_add 71 = .ok (.dup, 1) := by decide +kernel
theorem dX1_add_72 : decode cX1_add 72 = .ok (.getfield 9, 3) := by decide +kernel
theorem dX1_add_75 : decode cX1_add 75 = .ok (.iconst 1, 1) := by decide +kernel
theorem dX1_add_76 : decode cX1_add 76 = .ok (.iadd, 1) := by decide +kernel
theorem dX1_add_77 : decode cX1_add 77 = .ok (.putfield 9, 3) := by decide +kernel
theorem dX1_add_80 : decode cX1_add 80 = .ok (.return_, 1) := by decide +kernel
theorem dX1_typeOf_0 : decode cX1_typeOf 0 = .ok (.iload_n 1, 1) := by decide +kernel
theorem dX1_typeOf_1 : decode cX1_typeOf 1 = .ok (.ifCond .lt 20, 3) := by decide +kernel
theorem dX1_typeOf_4 : decode cX1_typeOf 4 = .ok (.iload_n 1, 1) := by decide +kernel
theorem dX1_typeOf_5 : decode cX1_typeOf 5 = .ok (.aload_n 0, 1) := by decide +kernel
theorem dX1_typeOf_6 : decode cX1_typeOf 6 = .ok (.getfield 9, 3) := by decide +kernel
theorem dX1_typeOf_9 : decode cX1_typeOf 9 = .ok (.if_icmp .ge 12, 3) := by decide +kernel
theorem dX1_typeOf_12 : decode cX1_typeOf 12 = .ok (.aload_n 0, 1) := by decide +kernel
theorem dX1_typeOf_13 : decode cX1_typeOf 13 = .ok (.getfield 19, 3) := by decide +kernel
theorem dX1_typeOf_16 : decode cX1_typeOf 16 = .ok (.iload_n 1, 1) := by decide +kernel
theorem dX1_typeOf_17 : decode cX1_typeOf 17 = .ok (.iaload, 1) := by decide +kernel
theorem dX1_typeOf_18 : decode cX1_typeOf 18 = .ok (.goto 4, 3) := by decide +kernel
theorem dX1_typeOf_21 : decode cX1_typeOf 21 = .ok (.iconst (-1), 1) := by decide +kernel
theorem dX1_typeOf_22 : decode cX1_typeOf 22 = .ok (.ireturn, 1) := by decide +kernel
theorem dX1_keyOf_0 : decode cX1_keyOf 0 = .ok (.iload_n 1, 1) := by decide +kernel
theorem dX1_keyOf_1 : decode cX1_keyOf 1 = .ok (.ifCond .lt 20, 3) := by decide +kernel
theorem dX1_keyOf_4 : decode cX1_keyOf 4 = .ok (.iload_n 1, 1) := by decide +kernel
theorem dX1_keyOf_5 : decode cX1_keyOf 5 = .ok (.aload_n 0, 1) := by decide +kernel
theorem dX1_keyOf_6 : decode cX1_keyOf 6 = .ok (.getfield 9, 3) := by decide +kernel
theorem dX1_keyOf_9 : decode cX1_keyOf 9 = .ok (.if_icmp .ge 12, 3) := by decide +kernel
theorem dX1_keyOf_12 : decode cX1_keyOf 12 = .ok (.aload_n 0, 1) := by decide +kernel
theorem dX1_keyOf_13 : decode cX1_keyOf 13 = .ok (.getfield 23, 3) := by decide +kernel
theorem dX1_keyOf_16 : decode cX1_keyOf 16 = .ok (.iload_n 1, 1) := by decide +kernel
theorem dX1_keyOf_17 : decode cX1_keyOf 17 = .ok (.iaload, 1) := by decide +kernel
theorem dX1_keyOf_18 : decode cX1_keyOf 18 = .ok (.goto 4, 3) := by decide +kernel
theorem dX1_keyOf_21 : decode cX1_keyOf 21 = .ok (.iconst (-1), 1) := by decide +kernel
theorem dX1_keyOf_22 : decode cX1_keyOf 22 = .ok (.ireturn, 1) := by decide +kernel
theorem dX2_init_0 : decode cX2_init 0 = .ok (.aload_n 0, 1) := by decide +kernel
theorem dX2_init_1 : decode cX2_init 1 = .ok (.invokespecial 3, 3) := by decide +kernel
theorem dX2_init_4 : decode cX2_init 4 = .ok (.aload_n 0, 1) := by decide +kernel
theorem dX2_init_5 : decode cX2_init 5 = .ok (.iconst 0, 1) := by decide +kernel
theorem dX2_init_6 : decode cX2_init 6 = .ok (.putfield 9, 3) := by decide +kernel
theorem dX2_init_9 : decode cX2_init 9 = .ok (.aload_n 0, 1) := by decide +kernel
theorem dX2_init_10 : decode cX2_init 10 = .ok (.bipush 12, 2) := by decide +kernel
theorem dX2_init_12 : decode cX2_init 12 = .ok (.newarray .int, 2) := by decide +kernel
theorem dX2_init_14 : decode cX2_init 14 = .ok (.putfield 15, 3) := by decide +kernel
theorem dX2_init_17 : decode cX2_init 17 = .ok (.aload_n 0, 1) := by decide +kernel
theorem dX2_init_18 : decode cX2_init 18 = .ok (.bipush 12, 2) := by decide +kernel
theorem dX2_init_20 : decode cX2_init 20 = .ok (.newarray .int, 2) := by decide +kernel
theorem dX2_init_22 : decode cX2_init 22 = .ok (.putfield 19, 3) := by decide +kernel
theorem dX2_init_25 : decode cX2_init 25 = .ok (.aload_n 0, 1) := by decide +kernel
theorem dX2_init_26 : decode cX2_init 26 = .ok (.bipush 12, 2) := by decide +kernel
theorem dX2_init_28 : decode cX2_init 28 = .ok (.newarray .int, 2) := by decide +kernel
theorem dX2_init_30 : decode cX2_init 30 = .ok (.putfield 22, 3) := by decide +kernel
theorem dX2_init_33 : decode cX2_init 33 = .ok (.aload_n 0, 1) := by decide +kernel
theorem dX2_init_34 : decode cX2_init 34 = .ok (.bipush 12, 2) := by decide +kernel
theorem dX2_init_36 : decode cX2_init 36 = .ok (.newarray .int, 2) := by decide +kernel
theorem dX2_init_38 : decode cX2_init 38 = .ok (.putfield 25, 3) := by decide +kernel
theorem dX2_init_41 : decode cX2_init 41 = .ok (.aload_n 0, 1) := by decide +kernel
theorem dX2_init_42 : decode cX2_init 42 = .ok (.bipush 12, 2) := by decide +kernel
theorem dX2_init_44 : decode cX2_init 44 = .ok (.newarray .int, 2) := by decide +kernel
theorem dX2_init_46 : decode cX2_init 46 = .ok (.putfield 28, 3) := by decide +kernel
theorem dX2_init_49 : decode cX2_init 49 = .ok (.aload_n 0, 1) := by decide +kernel
theorem dX2_init_50 : decode cX2_init 50 = .ok (.bipush 12, 2) := by decide +kernel
theorem dX2_init_52 : decode cX2_init 52 = .ok (.newarray .int, 2) := by decide +kernel
theorem dX2_init_54 : decode cX2_init 54 = .ok (.putfield 31, 3) := by decide +kernel
theorem dX2_init_57 : decode cX2_init 57 = .ok (.aload_n 0, 1) := by decide +kernel
theorem dX2_init_58 : decode cX2_init 58 = .ok (.bipush 12, 2) := by decide +kernel
theorem dX2_init_60 : decode cX2_init 60 = .ok (.newarray .int, 2) := by decide +kernel
theorem dX2_init_62 : decode cX2_init 62 = .ok (.putfield 34, 3) := by decide +kernel
theorem dX2_init_65 : decode cX2_init 65 = .ok (.aload_n 0, 1) := by decide +kernel
theorem dX2_init_66 : decode cX2_init 66 = .ok (.bipush 12, 2) := by decide +kernel
theorem dX2_init_68 : decode cX2_init 68 = .ok (.newarray .int, 2) := by decide +kernel
theorem dX2_init_70 : decode cX2_init 70 = .ok (.putfield 37, 3) := by decide +kernel
theorem dX2_init_73 : decode cX2_init 73 = .ok (.return_, 1) := by decide +kernel
theorem dX2_size_0 : decode cX2_size 0 = .ok (.aload_n 0, 1) := by decide +kernel
theorem dX2_size_1 : decode cX2_size 1 = .ok (.getfield 9, 3) := by decide +kernel
theorem dX2_size_4 : decode cX2_size 4 = .ok (.ireturn, 1) := by decide +kernel
theorem dX2_isType_0 : decode cX2_isType 0 = .ok (.iload_n 1, 1) := by decide +kernel
theorem dX2_isType_1 : decode cX2_isType 1 = .ok (.ifCond .lt 15, 3) := by decide +kernel
theorem dX2_isType_4 : decode cX2_isType 4 = .ok (.iload_n 1, 1) := by decide +kernel
theorem dX2_isType_5 : decode cX2_isType 5 = .ok (.aload_n 0, 1) := by decide +kernel
theorem dX2_isType_6 : decode cX2_isType 6 = .ok (.getfield 9, 3) := by decide +kernel
theorem dX2_isType_9 : decode cX2_isType 9 = .ok (.if_icmp .ge 7, 3) := by decide +kernel
theorem dX2_isType_12 : decode cX2_isType 12 = .ok (.iconst 1, 1) := by decide +kernel
theorem dX2_isType_13 : decode cX2_isType 13 = .ok (.goto 4, 3) := by decide +kernel
theorem dX2_isType_16 : decode cX2_isType 16 = .ok (.iconst 0, 1) := by decide +kernel
theorem dX2_isType_17 : decode cX2_isType 17 = .ok (.ireturn, 1) := by decide +kernel
theorem dX2_define_0 : decode cX2_define 0 = .ok (.aload_n 0, 1) := by decide +kernel
theorem dX2_define_1 : decode cX2_define 1 = .ok (.getfield 9, 3) := by decide +kernel
theorem dX2_define_4 : decode cX2_define 4 = .ok (.istore 5, 2) := by decide +kernel
theorem dX2_define_6 : decode cX2_define 6 = .ok (.iload 5, 2) := by decide +kernel
theorem dX2_define_8 : decode cX2_define 8 = .ok (.bipush 12, 2) := by decide +kernel
theorem dX2_define_10 : decode cX2_define 10 = .ok (.if_icmp .lt 5, 3) := by decide +kernel
theorem dX2_define_13 : decode cX2_define 13 = .ok (.iconst (-1), 1) := by decide +kernel
theorem dX2_define_14 : decode cX2_define 14 = .ok (.ireturn, 1) := by decide +kernel
theorem dX2_define_15 : decode cX2_define 15 = .ok (.aload_n 0, 1) := by decide +kernel
theorem dX2_define_16 : decode cX2_define 16 = .ok (.getfield 22, 3) := by decide +kernel
theorem dX2_define_19 : decode cX2_define 19 = .ok (.iload 5, 2) := by decide +kernel
theorem dX2_define_21 : decode cX2_define 21 = .ok (.aload_n 0, 1) := by decide +kernel
theorem dX2_define_22 : decode cX2_define 22 = .ok (.iload_n 2, 1) := by decide +kernel
theorem dX2_define_23 : decode cX2_define 23 = .ok (.invokevirtual 40, 3) := by decide +kernel
theorem dX2_define_26 : decode cX2_define 26 = .ok (.iastore, 1) := by decide +kernel
theorem dX2_define_27 : decode cX2_define 27 = .ok (.aload_n 0, 1) := by decide +kernel
theorem dX2_define_28 : decode cX2_define 28 = .ok (.getfield 15, 3) := by decide +kernel
theorem dX2_define_31 : decode cX2_define 31 = .ok (.iload 5, 2) := by decide +kernel
theorem dX2_define_33 : decode cX2_define 33 = .ok (.iload_n 1, 1) := by decide +kernel
theorem dX2_define_34 : decode cX2_define 34 = .ok (.iastore, 1) := by decide +kernel
theorem dX2_define_35 : decode cX2_define 35 = .ok (.aload_n 0, 1) := by decide +kernel
theorem dX2_define_36 : decode cX2_define 36 = .ok (.getfield 19, 3) := by decide +kernel
theorem dX2_define_39 : decode cX2_define 39 = .ok (.iload 5, 2) := by decide +kernel
theorem dX2_define_41 : decode cX2_define 41 = .ok (.iload_n 2, 1) := by decide +kernel
theorem dX2_define_42 : decode cX2_define 42 = .ok (.iastore, 1) := by decide +kernel
theorem dX2_define_43 : decode cX2_define 43 = .ok (.aload_n 0, 1) := by decide +kernel
theorem dX2_define_44 : decode cX2_define 44 = .ok (.getfield 25, 3) := by decide +kernel
theorem dX2_define_47 : decode cX2_define 47 = .ok (.iload 5, 2) := by decide +kernel
theorem dX2_define_49 : decode cX2_define 49 = .ok (.iload_n 3, 1) := by decide +kernel
theorem dX2_define_50 : decode cX2_define 50 = .ok (.iastore, 1) := by decide +kernel
theorem dX2_define_51 : decode cX2_define 51 = .ok (.aload_n 0, 1) := by decide +kernel
theorem dX2_define_52 : decode cX2_define 52 = .ok (.getfield 28, 3) := by decide +kernel
theorem dX2_define_55 : decode cX2_define 55 = .ok (.iload 5, 2) := by decide +kernel
theorem dX2_define_57 : decode cX2_define 57 = .ok (.iload 4, 2) := by decide +kernel
theorem dX2_define_59 : decode cX2_define 59 = .ok (.iastore, 1) := by decide +kernel
theorem dX2_define_60 : decode cX2_define 60 = .ok (.aload_n 0, 1) := by decide +kernel
theorem dX2_define_61 : decode cX2_define 61 = .ok (.getfield 31, 3) := by decide +kernel
theorem dX2_define_64 : decode cX2_define 64 = .ok (.iload 5, 2) := by decide +kernel
theorem dX2_define_66 : decode cX2_define 66 = .ok (.iconst (-1), 1) := by decide +kernel
theorem dX2_define_67 : decode cX2_define 67 = .ok (.iastore, 1) := by decide +kernel
theorem dX2_define_68 : decode cX2_define 68 = .ok (.aload_n 0, 1) := by decide +kernel
theorem dX2_define_69 : decode cX2_define 69 = .ok (.dup, 1) := by decide +kernel
theorem dX2_define_70 : decode cX2_define 70 = .ok (.getfield 9, 3) := by decide +kernel
theorem dX2_define_73 : decode cX2_define 73 = .ok (.iconst 1, 1) := by decide +kernel
theorem dX2_define_74 : decode cX2_define 74 = .ok (.iadd, 1) := by decide +kernel
theorem dX2_define_75 : decode cX2_define 75 = .ok (.putfield 9, 3) := by decide +kernel
theorem dX2_define_78 : decode cX2_define 78 = .ok (.iload 5, 2) := by decide +kernel
theorem dX2_define_80 : decode cX2_define 80 = .ok (.ireturn, 1) := by decide +kernel
theorem dX2_bind_0 : decode cX2_bind 0 = .ok (.aload_n 0, 1) := by decide +kernel
theorem dX2_bind_1 : decode cX2_bind 1 = .ok (.iload_n 1, 1) := by decide +kernel
theorem dX2_bind_2 : decode cX2_bind 2 = .ok (.invokevirtual 44, 3) := by decide +kernel
theorem dX2_bind_5 : decode cX2_bind 5 = .ok (.ifCond .eq 25, 3) := by decide +kernel
theorem dX2_bind_8 : decode cX2_bind 8 = .ok (.aload_n 0, 1) := by decide +kernel
theorem dX2_bind_9 : decode cX2_bind 9 = .ok (.getfield 31, 3) := by decide +kernel
theorem dX2_bind_12 : decode cX2_bind 12 = .ok (.iload_n 1, 1) := by decide +kernel
theorem dX2_bind_13 : decode cX2_bind 13 = .ok (.iload_n 2, 1) := by decide +kernel
theorem dX2_bind_14 : decode cX2_bind 14 = .ok (.iastore, 1) := by decide +kernel
theorem dX2_bind_15 : decode cX2_bind 15 = .ok (.aload_n 0, 1) := by decide +kernel
theorem dX2_bind_16 : decode cX2_bind 16 = .ok (.getfield 34, 3) := by decide +kernel
theorem dX2_bind_19 : decode cX2_bind 19 = .ok (.iload_n 1, 1) := by decide +kernel
theorem dX2_bind_20 : decode cX2_bind 20 = .ok (.iload_n 3, 1) := by decide +kernel
theorem dX2_bind_21 : decode cX2_bind 21 = .ok (.iastore, 1) := by decide +kernel
theorem dX2_bind_22 : decode cX2_bind 22 = .ok (.aload_n 0, 1) := by decide +kernel
theorem dX2_bind_23 : decode cX2_bind 23 = .ok (.getfield 37, 3) := by decide +kernel
theorem dX2_bind_26 : decode cX2_bind 26 = .ok (.iload_n 1, 1) := by decide +kernel
theorem dX2_bind_27 : decode cX2_bind 27 = .ok (.iload 4, 2) := by decide +kernel
theorem dX2_bind_29 : decode cX2_bind 29 = .ok (.iastore, 1) := by decide +kernel
theorem dX2_bind_30 : decode cX2_bind 30 = .ok (.return_, 1) := by decide +kernel
theorem dX2_databaseOf_0 : decode cX2_databaseOf 0 = .ok (.aload_n 0, 1) := by decide +kernel
theorem dX2_databaseOf_1 : decode cX2_databaseOf 1 = .ok (.iload_n 1, 1) := by decide +kernel
theorem dX2_databaseOf_2 : decode cX2_databaseOf 2 = .ok (.invokevirtual 44, 3) := by decide +kernel
theorem dX2_databaseOf_5 : decode cX2_databaseOf 5 = .ok (.ifCond .eq 12, 3) := by decide +kernel
theorem dX2_databaseOf_8 : decode cX2_databaseOf 8 = .ok (.aload_n 0, 1) := by decide +kernel
theorem dX2_databaseOf_9 : decode cX2_databaseOf 9 = .ok (.getfield 15, 3) := by decide +kernel
theorem dX2_databaseOf_12 : decode cX2_databaseOf 12 = .ok (.iload_n 1, 1) := by decide +kernel
theorem dX2_databaseOf_13 : decode cX2_databaseOf 13 = .ok (.iaload, 1) := by decide +kernel
theorem dX2_databaseOf_14 : decode cX2_databaseOf 14 = .ok (.goto 4, 3) := by decide +kernel
theorem dX2_databaseOf_17 : decode cX2_databaseOf 17 = .ok (.iconst (-1), 1) := by decide +kernel
theorem dX2_databaseOf_18 : decode cX2_databaseOf 18 = .ok (.ireturn, 1) := by decide +kernel
theorem dX2_parentOf_0 : decode cX2_parentOf 0 = .ok (.aload_n 0, 1) := by decide +kernel
theorem dX2_parentOf_1 : decode cX2_parentOf 1 = .ok (.iload_n 1, 1) := by decide +kernel
theorem dX2_parentOf_2 : decode cX2_parentOf 2 = .ok (.invokevirtual 44, 3) := by decide +kernel
theorem dX2_parentOf_5 : decode cX2_parentOf 5 = .ok (.ifCond .eq 12, 3) := by decide +kernel
theorem dX2_parentOf_8 : decode cX2_parentOf 8 = .ok (.aload_n 0, 1) := by decide +kernel
theorem dX2_parentOf_9 : decode cX2_parentOf 9 = .ok (.getfield 19, 3) := by decide +kernel
theorem dX2_parentOf_12 : decode cX2_parentOf 12 = .ok (.iload_n 1, 1) := by decide +kernel
theorem dX2_parentOf_13 : decode cX2_parentOf 13 = .ok (.iaload, 1) := by decide +kernel
theorem dX2_parentOf_14 : decode cX2_parentOf 14 = .ok (.goto 4, 3) := by decide +kernel
theorem dX2_parentOf_17 : decode cX2_parentOf 17 = .ok (.iconst (-1), 1) := by decide +kernel
theorem dX2_parentOf_18 : decode cX2_parentOf 18 = .ok (.ireturn, 1) := by decide +kernel
theorem dX2_levelOf_0 : decode cX2_levelOf 0 = .ok (.aload_n 0, 1) := by decide +kernel
theorem dX2_levelOf_1 : decode cX2_levelOf 1 = .ok (.iload_n 1, 1) := by decide +kernel
theorem dX2_levelOf_2 : decode cX2_levelOf 2 = .ok (.invokevirtual 44, 3) := by decide +kernel
theorem dX2_levelOf_5 : decode cX2_levelOf 5 = .ok (.ifCond .eq 12, 3) := by decide +kernel
theorem dX2_levelOf_8 : decode cX2_levelOf 8 = .ok (.aload_n 0, 1) := by decide +kernel
theorem dX2_levelOf_9 : decode cX2_levelOf 9 = .ok (.getfield 22, 3) := by decide +kernel
theorem dX2_levelOf_12 : decode cX2_levelOf 12 = .ok (.iload_n 1, 1) := by decide +kernel
theorem dX2_levelOf_13 : decode cX2_levelOf 13 = .ok (.iaload, 1) := by decide +kernel
theorem dX2_levelOf_14 : decode cX2_levelOf 14 = .ok (.goto 4, 3) := by decide +kernel
theorem dX2_levelOf_17 : decode cX2_levelOf 17 = .ok (.iconst 0, 1) := by decide +kernel
theorem dX2_levelOf_18 : decode cX2_levelOf 18 = .ok (.ireturn, 1) := by decide +kernel
theorem dX2_keysOf_0 : decode cX2_keysOf 0 = .ok (.aload_n 0, 1) := by decide +kernel
theorem dX2_keysOf_1 : decode cX2_keysOf 1 = .ok (.iload_n 1, 1) := by decide +kernel
theorem dX2_keysOf_2 : decode cX2_keysOf 2 = .ok (.invokevirtual 44, 3) := by decide +kernel
theorem dX2_keysOf_5 : decode cX2_keysOf 5 = .ok (.ifCond .eq 12, 3) := by decide +kernel
theorem dX2_keysOf_8 : decode cX2_keysOf 8 = .ok (.aload_n 0, 1) := by decide +kernel
theorem dX2_keysOf_9 : decode cX2_keysOf 9 = .ok (.getfield 25, 3) := by decide +kernel
theorem dX2_keysOf_12 : decode cX2_keysOf 12 = .ok (.iload_n 1, 1) := by decide +kernel
theorem dX2_keysOf_13 : decode cX2_keysOf 13 = .ok (.iaload, 1) := by decide +kernel
theorem dX2_keysOf_14 : decode cX2_keysOf 14 = .ok (.goto 4, 3) := by decide +kernel
theorem dX2_keysOf_17 : decode cX2_keysOf 17 = .ok (.iconst (-1), 1) := by decide +kernel
theorem dX2_keysOf_18 : decode cX2_keysOf 18 = .ok (.ireturn, 1) := by decide +kernel
theorem dX2_ruleOf_0 : decode cX2_ruleOf 0 = .ok (.aload_n 0, 1) := by decide +kernel
theorem dX2_ruleOf_1 : decode cX2_ruleOf 1 = .ok (.iload_n 1, 1) := by decide +kernel
theorem dX2_ruleOf_2 : decode cX2_ruleOf 2 = .ok (.invokevirtual 44, 3) := by decide +kernel
theorem dX2_ruleOf_5 : decode cX2_ruleOf 5 = .ok (.ifCond .eq 12, 3) := by decide +kernel
theorem dX2_ruleOf_8 : decode cX2_ruleOf 8 = .ok (.aload_n 0, 1) := by decide +kernel
theorem dX2_ruleOf_9 : decode cX2_ruleOf 9 = .ok (.getfield 28, 3) := by decide +kernel
theorem dX2_ruleOf_12 : decode cX2_ruleOf 12 = .ok (.iload_n 1, 1) := by decide +kernel
theorem dX2_ruleOf_13 : decode cX2_ruleOf 13 = .ok (.iaload, 1) := by decide +kernel
theorem dX2_ruleOf_14 : decode cX2_ruleOf 14 = .ok (.goto 4, 3) := by decide +kernel
theorem dX2_ruleOf_17 : decode cX2_ruleOf 17 = .ok (.iconst (-1), 1) := by decide +kernel
theorem dX2_ruleOf_18 : decode cX2_ruleOf 18 = .ok (.ireturn, 1) := by decide +kernel
theorem dX2_targetOf_0 : decode cX2_targetOf 0 = .ok (.aload_n 0, 1) := by decide +kernel
theorem dX2_targetOf_1 : decode cX2_targetOf 1 = .ok (.iload_n 1, 1) := by decide +kernel
theorem dX2_targetOf_2 : decode cX2_targetOf 2 = .ok (.invokevirtual 44, 3) := by decide +kernel
theorem dX2_targetOf_5 : decode cX2_targetOf 5 = .ok (.ifCond .eq 12, 3) := by decide +kernel
theorem dX2_targetOf_8 : decode cX2_targetOf 8 = .ok (.aload_n 0, 1) := by decide +kernel
theorem dX2_targetOf_9 : decode cX2_targetOf 9 = .ok (.getfield 31, 3) := by decide +kernel
theorem dX2_targetOf_12 : decode cX2_targetOf 12 = .ok (.iload_n 1, 1) := by decide +kernel
theorem dX2_targetOf_13 : decode cX2_targetOf 13 = .ok (.iaload, 1) := by decide +kernel
theorem dX2_targetOf_14 : decode cX2_targetOf 14 = .ok (.goto 4, 3) := by decide +kernel
theorem dX2_targetOf_17 : decode cX2_targetOf 17 = .ok (.iconst (-1), 1) := by decide +kernel
theorem dX2_targetOf_18 : decode cX2_targetOf 18 = .ok (.ireturn, 1) := by decide +kernel
theorem dX2_comingOf_0 : decode cX2_comingOf 0 = .ok (.aload_n 0, 1) := by decide +kernel
theorem dX2_comingOf_1 : decode cX2_comingOf 1 = .ok (.iload_n 1, 1) := by decide +kernel
theorem dX2_comingOf_2 : decode cX2_comingOf 2 = .ok (.invokevirtual 44, 3) := by decide +kernel
theorem dX2_comingOf_5 : decode cX2_comingOf 5 = .ok (.ifCond .eq 12, 3) := by decide +kernel
theorem dX2_comingOf_8 : decode cX2_comingOf 8 = .ok (.aload_n 0, 1) := by decide +kernel
theorem dX2_comingOf_9 : decode cX2_comingOf 9 = .ok (.getfield 34, 3) := by decide +kernel
theorem dX2_comingOf_12 : decode cX2_comingOf 12 = .ok (.iload_n 1, 1) := by decide +kernel
theorem dX2_comingOf_13 : decode cX2_comingOf 13 = .ok (.iaload, 1) := by decide +kernel
theorem dX2_comingOf_14 : decode cX2_comingOf 14 = .ok (.goto 4, 3) := by decide +kernel
theorem dX2_comingOf_17 : decode cX2_comingOf 17 = .ok (.iconst (-1), 1) := by decide +kernel
theorem dX2_comingOf_18 : decode cX2_comingOf 18 = .ok (.ireturn, 1) := by decide +kernel
theorem dX2_goingOf_0 : decode cX2_goingOf 0 = .ok (.aload_n 0, 1) := by decide +kernel
theorem dX2_goingOf_1 : decode cX2_goingOf 1 = .ok (.iload_n 1, 1) := by decide +kernel
theorem dX2_goingOf_2 : decode cX2_goingOf 2 = .ok (.invokevirtual 44, 3) := by decide +kernel
theorem dX2_goingOf_5 : decode cX2_goingOf 5 = .ok (.ifCond .eq 12, 3) := by decide +kernel
theorem dX2_goingOf_8 : decode cX2_goingOf 8 = .ok (.aload_n 0, 1) := by decide +kernel
theorem dX2_goingOf_9 : decode cX2_goingOf 9 = .ok (.getfield 37, 3) := by decide +kernel
theorem dX2_goingOf_12 : decode cX2_goingOf 12 = .ok (.iload_n 1, 1) := by decide +kernel
theorem dX2_goingOf_13 : decode cX2_goingOf 13 = .ok (.iaload, 1) := by decide +kernel
theorem dX2_goingOf_14 : decode cX2_goingOf 14 = .ok (.goto 4, 3) := by decide +kernel
theorem dX2_goingOf_17 : decode cX2_goingOf 17 = .ok (.iconst (-1), 1) := by decide +kernel
theorem dX2_goingOf_18 : decode cX2_goingOf 18 = .ok (.ireturn, 1) := by decide +kernel
theorem dX2_levelBelow_0 : decode cX2_levelBelow 0 = .ok (.aload_n 0, 1) := by decide +kernel
theorem dX2_levelBelow_1 : decode cX2_levelBelow 1 = .ok (.iload_n 1, 1) := by decide +kernel
theorem dX2_levelBelow_2 : decode cX2_levelBelow 2 = .ok (.invokevirtual 48, 3) := by decide +kernel
theorem dX2_levelBelow_5 : decode cX2_levelBelow 5 = .ok (.iconst 1, 1) := by decide +kernel
theorem dX2_levelBelow_6 : decode cX2_levelBelow 6 = .ok (.iadd, 1) := by decide +kernel
theorem dX2_levelBelow_7 : decode cX2_levelBelow 7 = .ok (.ireturn, 1) := by decide +kernel
theorem dX2_isRootType_0 : decode cX2_isRootType 0 = .ok (.aload_n 0, 1) := by decide +kernel
theorem dX2_isRootType_1 : decode cX2_isRootType 1 = .ok (.iload_n 1, 1) := by decide +kernel
theorem dX2_isRootType_2 : decode cX2_isRootType 2 = .ok (.invokevirtual 44, 3) := by decide +kernel
theorem dX2_isRootType_5 : decode cX2_isRootType 5 = .ok (.ifCond .eq 17, 3) := by decide +kernel
theorem dX2_isRootType_8 : decode cX2_isRootType 8 = .ok (.aload_n 0, 1) := by decide +kernel
theorem dX2_isRootType_9 : decode cX2_isRootType 9 = .ok (.getfield 19, 3) := by decide +kernel
theorem dX2_isRootType_12 : decode cX2_isRootType 12 = .ok (.iload_n 1, 1) := by decide +kernel
theorem dX2_isRootType_13 : decode cX2_isRootType 13 = .ok (.iaload, 1) := by decide +kernel
theorem dX2_isRootType_14 : decode cX2_isRootType 14 = .ok (.iconst (-1), 1) := by decide +kernel
theorem dX2_isRootType_15 : decode cX2_isRootType 15 = .ok (.if_icmp .ne 7, 3) := by decide +kernel
theorem dX2_isRootType_18 : decode cX2_isRootType 18 = .ok (.iconst 1, 1) := by decide +kernel
theorem dX2_isRootType_19 : decode cX2_isRootType 19 = .ok (.goto 4, 3) := by decide +kernel
theorem dX2_isRootType_22 : decode cX2_isRootType 22 = .ok (.iconst 0, 1) := by decide +kernel
theorem dX2_isRootType_23 : decode cX2_isRootType 23 = .ok (.ireturn, 1) := by decide +kernel
theorem dX2_hasRootType_0 : decode cX2_hasRootType 0 = .ok (.iconst 0, 1) := by decide +kernel
theorem dX2_hasRootType_1 : decode cX2_hasRootType 1 = .ok (.istore_n 2, 1) := by decide +kernel
theorem dX2_hasRootType_2 : decode cX2_hasRootType 2 = .ok (.iload_n 2, 1) := by decide +kernel
theorem dX2_hasRootType_3 : decode cX2_hasRootType 3 = .ok (.aload_n 0, 1) := by decide +kernel
theorem dX2_hasRootType_4 : decode cX2_hasRootType 4 = .ok (.getfield 9, 3) := by decide +kernel
theorem dX2_hasRootType_7 : decode cX2_hasRootType 7 = .ok (.if_icmp .ge 28, 3) := by decide +kernel
theorem dX2_hasRootType_10 : decode cX2_hasRootType 10 = .ok (.aload_n 0, 1) := by decide +kernel
theorem dX2_hasRootType_11 : decode cX2_hasRootType 11 = .ok (.iload_n 2, 1) := by decide +kernel
theorem dX2_hasRootType_12 : decode cX2_hasRootType 12 = .ok (.invokevirtual 51, 3) := by decide +kernel
theorem dX2_hasRootType_15 : decode cX2_hasRootType 15 = .ok (.ifCond .eq 14, 3) := by decide +kernel
theorem dX2_hasRootType_18 : decode cX2_hasRootType 18 = .ok (.aload_n 0, 1) := by decide +kernel
theorem dX2_hasRootType_19 : decode cX2_hasRootType 19 = .ok (.iload_n 2, 1) := by decide +kernel
theorem dX2_hasRootType_20 : decode cX2_hasRootType 20 = .ok (.invokevirtual 54, 3) := by decide +kernel
theorem dX2_hasRootType_23 : decode cX2_hasRootType 23 = .ok (.iload_n 1, 1) := by decide +kernel
theorem dX2_hasRootType_24 : decode cX2_hasRootType 24 = .ok (.if_icmp .ne 5, 3) := by decide +kernel
theorem dX2_hasRootType_27 : decode cX2_hasRootType 27 = .ok (.iconst 1, 1) := by decide +kernel
theorem dX2_hasRootType_28 : decode cX2_hasRootType 28 = .ok (.ireturn, 1) := by decide +kernel
theorem dX2_hasRootType_29 : decode cX2_hasRootType 29 = .ok (.iinc 2 1, 3) := by decide +kernel
theorem dX2_hasRootType_32 : decode cX2_hasRootType 32 = .ok (.goto (-30), 3) := by decide +kernel
theorem dX2_hasRootType_35 : decode cX2_hasRootType 35 = .ok (.iconst 0, 1) := by decide +kernel
theorem dX2_hasRootType_36 : decode cX2_hasRootType 36 = .ok (.ireturn, 1) := by decide +kernel
theorem dX2_isBelow_0 : decode cX2_isBelow 0 = .ok (.aload_n 0, 1) := by decide +kernel
theorem dX2_isBelow_1 : decode cX2_isBelow 1 = .ok (.iload_n 1, 1) := by decide +kernel
theorem dX2_isBelow_2 : decode cX2_isBelow 2 = .ok (.invokevirtual 57, 3) := by decide +kernel
theorem dX2_isBelow_5 : decode cX2_isBelow 5 = .ok (.istore_n 3, 1) := by decide +kernel
theorem dX2_isBelow_6 : decode cX2_isBelow 6 = .ok (.iconst 0, 1) := by decide +kernel
theorem dX2_isBelow_7 : decode cX2_isBelow 7 = .ok (.istore 4, 2) := by decide +kernel
theorem dX2_isBelow_9 : decode cX2_isBelow 9 = .ok (.iload 4, 2) := by decide +kernel
theorem dX2_isBelow_11 : decode cX2_isBelow 11 = .ok (.iconst 4, 1) := by decide +kernel
theorem dX2_isBelow_12 : decode cX2_isBelow 12 = .ok (.if_icmp .ge 27, 3) := by decide +kernel
theorem dX2_isBelow_15 : decode cX2_isBelow 15 = .ok (.iload_n 3, 1) := by decide +kernel
theorem dX2_isBelow_16 : decode cX2_isBelow 16 = .ok (.iconst (-1), 1) := by decide +kernel
theorem dX2_isBelow_17 : decode cX2_isBelow 17 = .ok (.if_icmp .eq 22, 3) := by decide +kernel
theorem dX2_isBelow_20 : decode cX2_isBelow 20 = .ok (.iload_n 3, 1) := by decide +kernel
theorem dX2_isBelow_21 : decode cX2_isBelow 21 = .ok (.iload_n 2, 1) := by decide +kernel
theorem dX2_isBelow_22 : decode cX2_isBelow 22 = .ok (.if_icmp .ne 5, 3) := by decide +kernel
theorem dX2_isBelow_25 : decode cX2_isBelow 25 = .ok (.iconst 1, 1) := by decide +kernel
theorem dX2_isBelow_26 : decode cX2_isBelow 26 = .ok (.ireturn, 1) := by decide +kernel
theorem dX2_isBelow_27 : decode cX2_isBelow 27 = .ok (.aload_n 0, 1) := by decide +kernel
theorem dX2_isBelow_28 : decode cX2_isBelow 28 = .ok (.iload_n 3, 1) := by decide +kernel
theorem dX2_isBelow_29 : decode cX2_isBelow 29 = .ok (.invokevirtual 57, 3) := by decide +kernel
theorem dX2_isBelow_32 : decode cX2_isBelow 32 = .ok (.istore_n 3, 1) := by decide +kernel
theorem dX2_isBelow_33 : decode cX2_isBelow 33 = .ok (.iinc 4 1, 3) := by decide +kernel
theorem dX2_isBelow_36 : decode cX2_isBelow 36 = .ok (.goto (-27), 3) := by decide +kernel
theorem dX2_isBelow_39 : decode cX2_isBelow 39 = .ok (.iconst 0, 1) := by decide +kernel
theorem dX2_isBelow_40 : decode cX2_isBelow 40 = .ok (.ireturn, 1) := by decide +kernel
theorem dX3_init_0 : decode cX3_init 0 = .ok (.aload_n 0, 1) := by decide +kernel
theorem dX3_init_1 : decode cX3_init 1 = .ok (.invokespecial 3, 3) := by decide +kernel
theorem dX3_init_4 : decode cX3_init 4 = .ok (.aload_n 0, 1) := by decide +kernel
theorem dX3_init_5 : decode cX3_init 5 = .ok (.bipush 60, 2) := by decide +kernel
theorem dX3_init_7 : decode cX3_init 7 = .ok (.newarray .int, 2) := by decide +kernel
theorem dX3_init_9 : decode cX3_init 9 = .ok (.putfield 9, 3) := by decide +kernel
theorem dX3_init_12 : decode cX3_init 12 = .ok (.aload_n 0, 1) := by decide +kernel
theorem dX3_init_13 : decode cX3_init 13 = .ok (.bipush 60, 2) := by decide +kernel
theorem dX3_init_15 : decode cX3_init 15 = .ok (.newarray .int, 2) := by decide +kernel
theorem dX3_init_17 : decode cX3_init 17 = .ok (.putfield 15, 3) := by decide +kernel
theorem dX3_init_20 : decode cX3_init 20 = .ok (.aload_n 0, 1) := by decide +kernel
theorem dX3_init_21 : decode cX3_init 21 = .ok (.bipush 60, 2) := by decide +kernel
theorem dX3_init_23 : decode cX3_init 23 = .ok (.newarray .int, 2) := by decide +kernel
theorem dX3_init_25 : decode cX3_init 25 = .ok (.putfield 18, 3) := by decide +kernel
theorem dX3_init_28 : decode cX3_init 28 = .ok (.aload_n 0, 1) := by decide +kernel
theorem dX3_init_29 : decode cX3_init 29 = .ok (.sipush 180, 3) := by decide +kernel
theorem dX3_init_32 : decode cX3_init 32 = .ok (.newarray .int, 2) := by decide +kernel
theorem dX3_init_34 : decode cX3_init 34 = .ok (.putfield 21, 3) := by decide +kernel
theorem dX3_init_37 : decode cX3_init 37 = .ok (.aload_n 0, 1) := by decide +kernel
theorem dX3_init_38 : decode cX3_init 38 = .ok (.sipush 180, 3) := by decide +kernel
theorem dX3_init_41 : decode cX3_init 41 = .ok (.newarray .int, 2) := by decide +kernel
theorem dX3_init_43 : decode cX3_init 43 = .ok (.putfield 24, 3) := by decide +kernel
theorem dX3_init_46 : decode cX3_init 46 = .ok (.aload_n 0, 1) := by decide +kernel
theorem dX3_init_47 : decode cX3_init 47 = .ok (.iconst 3, 1) := by decide +kernel
theorem dX3_init_48 : decode cX3_init 48 = .ok (.newarray .int, 2) := by decide +kernel
theorem dX3_init_50 : decode cX3_init 50 = .ok (.putfield 27, 3) := by decide +kernel
theorem dX3_init_53 : decode cX3_init 53 = .ok (.aload_n 0, 1) := by decide +kernel
theorem dX3_init_54 : decode cX3_init 54 = .ok (.bipush 60, 2) := by decide +kernel
theorem dX3_init_56 : decode cX3_init 56 = .ok (.newarray .int, 2) := by decide +kernel
theorem dX3_init_58 : decode cX3_init 58 = .ok (.putfield 30, 3) := by decide +kernel
theorem dX3_init_61 : decode cX3_init 61 = .ok (.aload_n 0, 1) := by decide +kernel
theorem dX3_init_62 : decode cX3_init 62 = .ok (.bipush 60, 2) := by decide +kernel
theorem dX3_init_64 : decode cX3_init 64 = .ok (.newarray .boolean, 2) := by decide +kernel
theorem dX3_init_66 : decode cX3_init 66 = .ok (.putfield 33, 3) := by decide +kernel
theorem dX3_init_69 : decode cX3_init 69 = .ok (.aload_n 0, 1) := by decide +kernel
theorem dX3_init_70 : decode cX3_init 70 = .ok (.iconst 0, 1) := by decide +kernel
theorem dX3_init_71 : decode cX3_init 71 = .ok (.putfield 37, 3) := by decide +kernel
theorem dX3_init_74 : decode cX3_init 74 = .ok (.aload_n 0, 1) := by decide +kernel
theorem dX3_init_75 : decode cX3_init 75 = .ok (.aload_n 1, 1) := by decide +kernel
theorem dX3_init_76 : decode cX3_init 76 = .ok (.putfield 41, 3) := by decide +kernel
theorem dX3_init_79 : decode cX3_init 79 = .ok (.iconst 0, 1) := by decide +kernel
theorem dX3_init_80 : decode cX3_init 80 = .ok (.istore_n 2, 1) := by decide +kernel
theorem dX3_init_81 : decode cX3_init 81 = .ok (.iload_n 2, 1) := by decide +kernel
theorem dX3_init_82 : decode cX3_init 82 = .ok (.bipush 60, 2) := by decide +kernel
theorem dX3_init_84 : decode cX3_init 84 = .ok (.if_icmp .ge 30, 3) := by decide +kernel
theorem dX3_init_87 : decode cX3_init 87 = .ok (.aload_n 0, 1) := by decide +kernel
theorem dX3_init_88 : decode cX3_init 88 = .ok (.getfield 9, 3) := by decide +kernel
theorem dX3_init_91 : decode cX3_init 91 = .ok (.iload_n 2, 1) := by decide +kernel
theorem dX3_init_92 : decode cX3_init 92 = .ok (.iconst (-1), 1) := by decide +kernel
theorem dX3_init_93 : decode cX3_init 93 = .ok (.iastore, 1) := by decide +kernel
theorem dX3_init_94 : decode cX3_init 94 = .ok (.aload_n 0, 1) := by decide +kernel
theorem dX3_init_95 : decode cX3_init 95 = .ok (.getfield 15, 3) := by decide +kernel
theorem dX3_init_98 : decode cX3_init 98 = .ok (.iload_n 2, 1) := by decide +kernel
theorem dX3_init_99 : decode cX3_init 99 = .ok (.iconst (-1), 1) := by decide +kernel
theorem dX3_init_100 : decode cX3_init 100 = .ok (.iastore, 1) := by decide +kernel
theorem dX3_init_101 : decode cX3_init 101 = .ok (.aload_n 0, 1) := by decide +kernel
theorem dX3_init_102 : decode cX3_init 102 = .ok (.getfield 30, 3) := by decide +kernel
theorem dX3_init_105 : decode cX3_init 105 = .ok (.iload_n 2, 1) := by decide +kernel
theorem dX3_init_106 : decode cX3_init 106 = .ok (.iconst (-1), 1) := by decide +kernel
theorem dX3_init_107 : decode cX3_init 107 = .ok (.iastore, 1) := by decide +kernel
theorem dX3_init_108 : decode cX3_init 108 = .ok (.iinc 2 1, 3) := by decide +kernel
theorem dX3_init_111 : decode cX3_init 111 = .ok (.goto (-30), 3) := by decide +kernel
theorem dX3_init_114 : decode cX3_init 114 = .ok (.return_, 1) := by decide +kernel
theorem dX3_isNumber_0 : decode cX3_isNumber 0 = .ok (.iload_n 0, 1) := by decide +kernel
theorem dX3_isNumber_1 : decode cX3_isNumber 1 = .ok (.ifCond .lt 13, 3) := by decide +kernel
theorem dX3_isNumber_4 : decode cX3_isNumber 4 = .ok (.iload_n 0, 1) := by decide +kernel
theorem dX3_isNumber_5 : decode cX3_isNumber 5 = .ok (.bipush 60, 2) := by decide +kernel
theorem dX3_isNumber_7 : decode cX3_isNumber 7 = .ok (.if_icmp .ge 7, 3) := by decide +kernel
theorem dX3_isNumber_10 : decode cX3_isNumber 10 = .ok (.iconst 1, 1) := by decide +kernel
theorem dX3_isNumber_11 : decode cX3_isNumber 11 = .ok (.goto 4, 3) := by decide +kernel
theorem dX3_isNumber_14 : decode cX3_isNumber 14 = .ok (.iconst 0, 1) := by decide +kernel
theorem dX3_isNumber_15 : decode cX3_isNumber 15 = .ok (.ireturn, 1) := by decide +kernel
theorem dX3_size_0 : decode cX3_size 0 = .ok (.aload_n 0, 1) := by decide +kernel
theorem dX3_size_1 : decode cX3_size 1 = .ok (.getfield 37, 3) := by decide +kernel
theorem dX3_size_4 : decode cX3_size 4 = .ok (.ireturn, 1) := by decide +kernel
theorem dX3_countOf_0 : decode cX3_countOf 0 = .ok (.iload_n 1, 1) := by decide +kernel
theorem dX3_countOf_1 : decode cX3_countOf 1 = .ok (.ifCond .lt 17, 3) := by decide +kernel
theorem dX3_countOf_4 : decode cX3_countOf 4 = .ok (.iload_n 1, 1) := by decide +kernel
theorem dX3_countOf_5 : decode cX3_countOf 5 = .ok (.iconst 3, 1) := by decide +kernel
theorem dX3_countOf_6 : decode cX3_countOf 6 = .ok (.if_icmp .ge 12, 3) := by decide +kernel
theorem dX3_countOf_9 : decode cX3_countOf 9 = .ok (.aload_n 0, 1) := by decide +kernel
theorem dX3_countOf_10 : decode cX3_countOf 10 = .ok (.getfield 27, 3) := by decide +kernel
theorem dX3_countOf_13 : decode cX3_countOf 13 = .ok (.iload_n 1, 1) := by decide +kernel
theorem dX3_countOf_14 : decode cX3_countOf 14 = .ok (.iaload, 1) := by decide +kernel
theorem dX3_countOf_15 : decode cX3_countOf 15 = .ok (.goto 4, 3) := by decide +kernel
theorem dX3_countOf_18 : decode cX3_countOf 18 = .ok (.iconst 0, 1) := by decide +kernel
theorem dX3_countOf_19 : decode cX3_countOf 19 = .ok (.ireturn, 1) := by decide +kernel
theorem dX3_segmentAt_0 : decode cX3_segmentAt 0 = .ok (.iload_n 1, 1) := by decide +kernel
theorem dX3_segmentAt_1 : decode cX3_segmentAt 1 = .ok (.ifCond .lt 22, 3) := by decide +kernel
theorem dX3_segmentAt_4 : decode cX3_segmentAt 4 = .ok (.iload_n 1, 1) := by decide +kernel
theorem dX3_segmentAt_5 : decode cX3_segmentAt 5 = .ok (.iconst 3, 1) := by decide +kernel
theorem dX3_segmentAt_6 : decode cX3_segmentAt 6 = .ok (.if_icmp .ge 17, 3) := by decide +kernel
theorem dX3_segmentAt_9 : decode cX3_segmentAt 9 = .ok (.iload_n 2, 1) := by decide +kernel
theorem dX3_segmentAt_10 : decode cX3_segmentAt 10 = .ok (.ifCond .lt 13, 3) := by decide +kernel
theorem dX3_segmentAt_13 : decode cX3_segmentAt 13 = .ok (.iload_n 2, 1) := by decide +kernel
theorem dX3_segmentAt_14 : decode cX3_segmentAt 14 = .ok (.bipush 60, 2) := by decide +kernel
theorem dX3_segmentAt_16 : decode cX3_segmentAt 16 = .ok (.if_icmp .ge 7, 3) := by decide +kernel
theorem dX3_segmentAt_19 : decode cX3_segmentAt 19 = .ok (.iconst 1, 1) := by decide +kernel
theorem dX3_segmentAt_20 : decode cX3_segmentAt 20 = .ok (.goto 4, 3) := by decide +kernel
theorem dX3_segmentAt_23 : decode cX3_segmentAt 23 = .ok (.iconst 0, 1) := by decide +kernel
theorem dX3_segmentAt_24 : decode cX3_segmentAt 24 = .ok (.istore_n 3, 1) := by decide +kernel
theorem dX3_segmentAt_25 : decode cX3_segmentAt 25 = .ok (.iload_n 3, 1) := by decide +kernel
theorem dX3_segmentAt_26 : decode cX3_segmentAt 26 = .ok (.ifCond .eq 27, 3) := by decide +kernel
theorem dX3_segmentAt_29 : decode cX3_segmentAt 29 = .ok (.iload_n 2, 1) := by decide +kernel
theorem dX3_segmentAt_30 : decode cX3_segmentAt 30 = .ok (.aload_n 0, 1) := by decide +kernel
theorem dX3_segmentAt_31 : decode cX3_segmentAt 31 = .ok (.getfield 27, 3) := by decide +kernel
theorem dX3_segmentAt_34 : decode cX3_segmentAt 34 = .ok (.iload_n 1, 1) := by decide +kernel
theorem dX3_segmentAt_35 : decode cX3_segmentAt 35 = .ok (.iaload, 1) := by decide +kernel
theorem dX3_segmentAt_36 : decode cX3_segmentAt 36 = .ok (.if_icmp .ge 17, 3) := by decide +kernel
theorem dX3_segmentAt_39 : decode cX3_segmentAt 39 = .ok (.aload_n 0, 1) := by decide +kernel
theorem dX3_segmentAt_40 : decode cX3_segmentAt 40 = .ok (.getfield 24, 3) := by decide +kernel
theorem dX3_segmentAt_43 : decode cX3_segmentAt 43 = .ok (.iload_n 1, 1) := by decide +kernel
theorem dX3_segmentAt_44 : decode cX3_segmentAt 44 = .ok (.bipush 60, 2) := by decide +kernel
theorem dX3_segmentAt_46 : decode cX3_segmentAt 46 = .ok (.imul, 1) := by decide +kernel
theorem dX3_segmentAt_47 : decode cX3_segmentAt 47 = .ok (.iload_n 2, 1) := by decide +kernel
theorem dX3_segmentAt_48 : decode cX3_segmentAt 48 = .ok (.iadd, 1) := by decide +kernel
theorem dX3_segmentAt_49 : decode cX3_segmentAt 49 = .ok (.iaload, 1) := by decide +kernel
theorem dX3_segmentAt_50 : decode cX3_segmentAt 50 = .ok (.goto 4, 3) := by decide +kernel
theorem dX3_segmentAt_53 : decode cX3_segmentAt 53 = .ok (.iconst (-1), 1) := by decide +kernel
theorem dX3_segmentAt_54 : decode cX3_segmentAt 54 = .ok (.ireturn, 1) := by decide +kernel
theorem dX3_typeOf_0 : decode cX3_typeOf 0 = .ok (.iload_n 1, 1) := by decide +kernel
theorem dX3_typeOf_1 : decode cX3_typeOf 1 = .ok (.ifCond .lt 18, 3) := by decide +kernel
theorem dX3_typeOf_4 : decode cX3_typeOf 4 = .ok (.iload_n 1, 1) := by decide +kernel
theorem dX3_typeOf_5 : decode cX3_typeOf 5 = .ok (.bipush 60, 2) := by decide +kernel
theorem dX3_typeOf_7 : decode cX3_typeOf 7 = .ok (.if_icmp .ge 12, 3) := by decide +kernel
theorem dX3_typeOf_10 : decode cX3_typeOf 10 = .ok (.aload_n 0, 1) := by decide +kernel
theorem dX3_typeOf_11 : decode cX3_typeOf 11 = .ok (.getfield 9, 3) := by decide +kernel
theorem dX3_typeOf_14 : decode cX3_typeOf 14 = .ok (.iload_n 1, 1) := by decide +kernel
theorem dX3_typeOf_15 : decode cX3_typeOf 15 = .ok (.iaload, 1) := by decide +kernel
theorem dX3_typeOf_16 : decode cX3_typeOf 16 = .ok (.goto 4, 3) := by decide +kernel
theorem dX3_typeOf_19 : decode cX3_typeOf 19 = .ok (.iconst (-1), 1) := by decide +kernel
theorem dX3_typeOf_20 : decode cX3_typeOf 20 = .ok (.ireturn, 1) := by decide +kernel
theorem dX3_databaseOf_0 : decode cX3_databaseOf 0 = .ok (.aload_n 0, 1) := by decide +kernel
theorem dX3_databaseOf_1 : decode cX3_databaseOf 1 = .ok (.getfield 41, 3) := by decide +kernel
theorem dX3_databaseOf_4 : decode cX3_databaseOf 4 = .ok (.aload_n 0, 1) := by decide +kernel
theorem dX3_databaseOf_5 : decode cX3_databaseOf 5 = .ok (.iload_n 1, 1) := by decide +kernel
theorem dX3_databaseOf_6 : decode cX3_databaseOf 6 = .ok (.invokevirtual 45, 3) := by decide +kernel
theorem dX3_databaseOf_9 : decode cX3_databaseOf 9 = .ok (.invokevirtual 49, 3) := by decide +kernel
theorem dX3_databaseOf_12 : decode cX3_databaseOf 12 = .ok (.ireturn, 1) := by decide +kernel
theorem dX3_parentOf_0 : decode cX3_parentOf 0 = .ok (.iload_n 1, 1) := by decide +kernel
theorem dX3_parentOf_1 : decode cX3_parentOf 1 = .ok (.ifCond .lt 18, 3) := by decide +kernel
theorem dX3_parentOf_4 : decode cX3_parentOf 4 = .ok (.iload_n 1, 1) := by decide +kernel
theorem dX3_parentOf_5 : decode cX3_parentOf 5 = .ok (.bipush 60, 2) := by decide +kernel
theorem dX3_parentOf_7 : decode cX3_parentOf 7 = .ok (.if_icmp .ge 12, 3) := by decide +kernel
theorem dX3_parentOf_10 : decode cX3_parentOf 10 = .ok (.aload_n 0, 1) := by decide +kernel
theorem dX3_parentOf_11 : decode cX3_parentOf 11 = .ok (.getfield 15, 3) := by decide +kernel
theorem dX3_parentOf_14 : decode cX3_parentOf 14 = .ok (.iload_n 1, 1) := by decide +kernel
theorem dX3_parentOf_15 : decode cX3_parentOf 15 = .ok (.iaload, 1) := by decide +kernel
theorem dX3_parentOf_16 : decode cX3_parentOf 16 = .ok (.goto 4, 3) := by decide +kernel
theorem dX3_parentOf_19 : decode cX3_parentOf 19 = .ok (.iconst (-1), 1) := by decide +kernel
theorem dX3_parentOf_20 : decode cX3_parentOf 20 = .ok (.ireturn, 1) := by decide +kernel
theorem dX3_numberOf_0 : decode cX3_numberOf 0 = .ok (.iload_n 1, 1) := by decide +kernel
theorem dX3_numberOf_1 : decode cX3_numberOf 1 = .ok (.ifCond .lt 22, 3) := by decide +kernel
theorem dX3_numberOf_4 : decode cX3_numberOf 4 = .ok (.iload_n 1, 1) := by decide +kernel
theorem dX3_numberOf_5 : decode cX3_numberOf 5 = .ok (.bipush 60, 2) := by decide +kernel
theorem dX3_numberOf_7 : decode cX3_numberOf 7 = .ok (.if_icmp .ge 16, 3) := by decide +kernel
theorem dX3_numberOf_10 : decode cX3_numberOf 10 = .ok (.iload_n 2, 1) := by decide +kernel
theorem dX3_numberOf_11 : decode cX3_numberOf 11 = .ok (.ifCond .lt 12, 3) := by decide +kernel
theorem dX3_numberOf_14 : decode cX3_numberOf 14 = .ok (.iload_n 2, 1) := by decide +kernel
theorem dX3_numberOf_15 : decode cX3_numberOf 15 = .ok (.iconst 3, 1) := by decide +kernel
theorem dX3_numberOf_16 : decode cX3_numberOf 16 = .ok (.if_icmp .ge 7, 3) := by decide +kernel
theorem dX3_numberOf_19 : decode cX3_numberOf 19 = .ok (.iconst 1, 1) := by decide +kernel
theorem dX3_numberOf_20 : decode cX3_numberOf 20 = .ok (.goto 4, 3) := by decide +kernel
theorem dX3_numberOf_23 : decode cX3_numberOf 23 = .ok (.iconst 0, 1) := by decide +kernel
theorem dX3_numberOf_24 : decode cX3_numberOf 24 = .ok (.istore_n 3, 1) := by decide +kernel
theorem dX3_numberOf_25 : decode cX3_numberOf 25 = .ok (.iload_n 3, 1) := by decide +kernel
theorem dX3_numberOf_26 : decode cX3_numberOf 26 = .ok (.ifCond .eq 16, 3) := by decide +kernel
theorem dX3_numberOf_29 : decode cX3_numberOf 29 = .ok (.aload_n 0, 1) := by decide +kernel
theorem dX3_numberOf_30 : decode cX3_numberOf 30 = .ok (.getfield 21, 3) := by decide +kernel
theorem dX3_numberOf_33 : decode cX3_numberOf 33 = .ok (.iload_n 1, 1) := by decide +kernel
theorem dX3_numberOf_34 : decode cX3_numberOf 34 = .ok (.iconst 3, 1) := by decide +kernel
theorem dX3_numberOf_35 : decode cX3_numberOf 35 = .ok (.imul, 1) := by decide +kernel
theorem dX3_numberOf_36 : decode cX3_numberOf 36 = .ok (.iload_n 2, 1) := by decide +kernel
theorem dX3_numberOf_37 : decode cX3_numberOf 37 = .ok (.iadd, 1) := by decide +kernel
theorem dX3_numberOf_38 : decode cX3_numberOf 38 = .ok (.iaload, 1) := by decide +kernel
theorem dX3_numberOf_39 : decode cX3_numberOf 39 = .ok (.goto 4, 3) := by decide +kernel
theorem dX3_numberOf_42 : decode cX3_numberOf 42 = .ok (.iconst (-1), 1) := by decide +kernel
theorem dX3_numberOf_43 : decode cX3_numberOf 43 = .ok (.ireturn, 1) := by decide +kernel
theorem dX3_setNumber_0 : decode cX3_setNumber 0 = .ok (.iload_n 1, 1) := by decide +kernel
theorem dX3_setNumber_1 : decode cX3_setNumber 1 = .ok (.invokestatic 54, 3) := by decide +kernel
theorem dX3_setNumber_4 : decode cX3_setNumber 4 = .ok (.ifCond .eq 23, 3) := by decide +kernel
theorem dX3_setNumber_7 : decode cX3_setNumber 7 = .ok (.iload_n 2, 1) := by decide +kernel
theorem dX3_setNumber_8 : decode cX3_setNumber 8 = .ok (.ifCond .lt 19, 3) := by decide +kernel
theorem dX3_setNumber_11 : decode cX3_setNumber 11 = .ok (.iload_n 2, 1) := by decide +kernel
theorem dX3_setNumber_12 : decode cX3_setNumber 12 = .ok (.iconst 3, 1) := by decide +kernel
theorem dX3_setNumber_13 : decode cX3_setNumber 13 = .ok (.if_icmp .ge 14, 3) := by decide +kernel
theorem dX3_setNumber_16 : decode cX3_setNumber 16 = .ok (.aload_n 0, 1) := by decide +kernel
theorem dX3_setNumber_17 : decode cX3_setNumber 17 = .ok (.getfield 21, 3) := by decide +kernel
theorem dX3_setNumber_20 : decode cX3_setNumber 20 = .ok (.iload_n 1, 1) := by decide +kernel
theorem dX3_setNumber_21 : decode cX3_setNumber 21 = .ok (.iconst 3, 1) := by decide +kernel
theorem dX3_setNumber_22 : decode cX3_setNumber 22 = .ok (.imul, 1) := by decide +kernel
theorem dX3_setNumber_23 : decode cX3_setNumber 23 = .ok (.iload_n 2, 1) := by decide +kernel
theorem dX3_setNumber_24 : decode cX3_setNumber 24 = .ok (.iadd, 1) := by decide +kernel
theorem dX3_setNumber_25 : decode cX3_setNumber 25 = .ok (.iload_n 3, 1) := by decide +kernel
theorem dX3_setNumber_26 : decode cX3_setNumber 26 = .ok (.iastore, 1) := by decide +kernel
theorem dX3_setNumber_27 : decode cX3_setNumber 27 = .ok (.return_, 1) := by decide +kernel
theorem dX3_signOf_0 : decode cX3_signOf 0 = .ok (.sipush 1000, 3) := by decide +kernel
theorem dX3_signOf_3 : decode cX3_signOf 3 = .ok (.aload_n 0, 1) := by decide +kernel
theorem dX3_signOf_4 : decode cX3_signOf 4 = .ok (.iload_n 1, 1) := by decide +kernel
theorem dX3_signOf_5 : decode cX3_signOf 5 = .ok (.invokevirtual 45, 3) := by decide +kernel
theorem dX3_signOf_8 : decode cX3_signOf 8 = .ok (.imul, 1) := by decide +kernel
theorem dX3_signOf_9 : decode cX3_signOf 9 = .ok (.aload_n 0, 1) := by decide +kernel
theorem dX3_signOf_10 : decode cX3_signOf 10 = .ok (.iload_n 1, 1) := by decide +kernel
theorem dX3_signOf_11 : decode cX3_signOf 11 = .ok (.iconst 0, 1) := by decide +kernel
theorem dX3_signOf_12 : decode cX3_signOf 12 = .ok (.invokevirtual 58, 3) := by decide +kernel
theorem dX3_signOf_15 : decode cX3_signOf 15 = .ok (.iadd, 1) := by decide +kernel
theorem dX3_signOf_16 : decode cX3_signOf 16 = .ok (.ireturn, 1) := by decide +kernel
theorem dX3_placeOf_0 : decode cX3_placeOf 0 = .ok (.iload_n 1, 1) := by decide +kernel
theorem dX3_placeOf_1 : decode cX3_placeOf 1 = .ok (.ifCond .lt 18, 3) := by decide +kernel
theorem dX3_placeOf_4 : decode cX3_placeOf 4 = .ok (.iload_n 1, 1) := by decide +kernel
theorem dX3_placeOf_5 : decode cX3_placeOf 5 = .ok (.bipush 60, 2) := by decide +kernel
theorem dX3_placeOf_7 : decode cX3_placeOf 7 = .ok (.if_icmp .ge 12, 3) := by decide +kernel
theorem dX3_placeOf_10 : decode cX3_placeOf 10 = .ok (.aload_n 0, 1) := by decide +kernel
theorem dX3_placeOf_11 : decode cX3_placeOf 11 = .ok (.getfield 30, 3) := by decide +kernel
theorem dX3_placeOf_14 : decode cX3_placeOf 14 = .ok (.iload_n 1, 1) := by decide +kernel
theorem dX3_placeOf_15 : decode cX3_placeOf 15 = .ok (.iaload, 1) := by decide +kernel
theorem dX3_placeOf_16 : decode cX3_placeOf 16 = .ok (.goto 4, 3) := by decide +kernel
theorem dX3_placeOf_19 : decode cX3_placeOf 19 = .ok (.iconst (-1), 1) := by decide +kernel
theorem dX3_placeOf_20 : decode cX3_placeOf 20 = .ok (.ireturn, 1) := by decide +kernel
theorem dX3_isBelow_0 : decode cX3_isBelow 0 = .ok (.aload_n 0, 1) := by decide +kernel
theorem dX3_isBelow_1 : decode cX3_isBelow 1 = .ok (.iload_n 1, 1) := by decide +kernel
theorem dX3_isBelow_2 : decode cX3_isBelow 2 = .ok (.invokevirtual 62, 3) := by decide +kernel
theorem dX3_isBelow_5 : decode cX3_isBelow 5 = .ok (.istore_n 3, 1) := by decide +kernel
theorem dX3_isBelow_6 : decode cX3_isBelow 6 = .ok (.iconst 0, 1) := by decide +kernel
theorem dX3_isBelow_7 : decode cX3_isBelow 7 = .ok (.istore 4, 2) := by decide +kernel
theorem dX3_isBelow_9 : decode cX3_isBelow 9 = .ok (.iload 4, 2) := by decide +kernel
theorem dX3_isBelow_11 : decode cX3_isBelow 11 = .ok (.iconst 4, 1) := by decide +kernel
theorem dX3_isBelow_12 : decode cX3_isBelow 12 = .ok (.if_icmp .ge 27, 3) := by decide +kernel
theorem dX3_isBelow_15 : decode cX3_isBelow 15 = .ok (.iload_n 3, 1) := by decide +kernel
theorem dX3_isBelow_16 : decode cX3_isBelow 16 = .ok (.iconst (-1), 1) := by decide +kernel
theorem dX3_isBelow_17 : decode cX3_isBelow 17 = .ok (.if_icmp .eq 22, 3) := by decide +kernel
theorem dX3_isBelow_20 : decode cX3_isBelow 20 = .ok (.iload_n 3, 1) := by decide +kernel
theorem dX3_isBelow_21 : decode cX3_isBelow 21 = .ok (.iload_n 2, 1) := by decide +kernel
theorem dX3_isBelow_22 : decode cX3_isBelow 22 = .ok (.if_icmp .ne 5, 3) := by decide +kernel
theorem dX3_isBelow_25 : decode cX3_isBelow 25 = .ok (.iconst 1, 1) := by decide +kernel
theorem dX3_isBelow_26 : decode cX3_isBelow 26 = .ok (.ireturn, 1) := by decide +kernel
theorem dX3_isBelow_27 : decode cX3_isBelow 27 = .ok (.aload_n 0, 1) := by decide +kernel
theorem dX3_isBelow_28 : decode cX3_isBelow 28 = .ok (.iload_n 3, 1) := by decide +kernel
theorem dX3_isBelow_29 : decode cX3_isBelow 29 = .ok (.invokevirtual 62, 3) := by decide +kernel
theorem dX3_isBelow_32 : decode cX3_isBelow 32 = .ok (.istore_n 3, 1) := by decide +kernel
theorem dX3_isBelow_33 : decode cX3_isBelow 33 = .ok (.iinc 4 1, 3) := by decide +kernel
theorem dX3_isBelow_36 : decode cX3_isBelow 36 = .ok (.goto (-27), 3) := by decide +kernel
theorem dX3_isBelow_39 : decode cX3_isBelow 39 = .ok (.iconst 0, 1) := by decide +kernel
theorem dX3_isBelow_40 : decode cX3_isBelow 40 = .ok (.ireturn, 1) := by decide +kernel
theorem dX3_upward_0 : decode cX3_upward 0 = .ok (.iload_n 1, 1) := by decide +kernel
theorem dX3_upward_1 : decode cX3_upward 1 = .ok (.istore_n 3, 1) := by decide +kernel
theorem dX3_upward_2 : decode cX3_upward 2 = .ok (.iconst 0, 1) := by decide +kernel
theorem dX3_upward_3 : decode cX3_upward 3 = .ok (.istore 4, 2) := by decide +kernel
theorem dX3_upward_5 : decode cX3_upward 5 = .ok (.iload 4, 2) := by decide +kernel
theorem dX3_upward_7 : decode cX3_upward 7 = .ok (.iconst 4, 1) := by decide +kernel
theorem dX3_upward_8 : decode cX3_upward 8 = .ok (.if_icmp .ge 31, 3) := by decide +kernel
theorem dX3_upward_11 : decode cX3_upward 11 = .ok (.iload_n 3, 1) := by decide +kernel
theorem dX3_upward_12 : decode cX3_upward 12 = .ok (.iconst (-1), 1) := by decide +kernel
theorem dX3_upward_13 : decode cX3_upward 13 = .ok (.if_icmp .eq 26, 3) := by decide +kernel
theorem dX3_upward_16 : decode cX3_upward 16 = .ok (.aload_n 0, 1) := by decide +kernel
theorem dX3_upward_17 : decode cX3_upward 17 = .ok (.iload_n 3, 1) := by decide +kernel
theorem dX3_upward_18 : decode cX3_upward 18 = .ok (.invokevirtual 45, 3) := by decide +kernel
theorem dX3_upward_21 : decode cX3_upward 21 = .ok (.iload_n 2, 1) := by decide +kernel
theorem dX3_upward_22 : decode cX3_upward 22 = .ok (.if_icmp .ne 5, 3) := by decide +kernel
theorem dX3_upward_25 : decode cX3_upward 25 = .ok (.iload_n 3, 1) := by decide +kernel
theorem dX3_upward_26 : decode cX3_upward 26 = .ok (.ireturn, 1) := by decide +kernel
theorem dX3_upward_27 : decode cX3_upward 27 = .ok (.aload_n 0, 1) := by decide +kernel
theorem dX3_upward_28 : decode cX3_upward 28 = .ok (.iload_n 3, 1) := by decide +kernel
theorem dX3_upward_29 : decode cX3_upward 29 = .ok (.invokevirtual 62, 3) := by decide +kernel
theorem dX3_upward_32 : decode cX3_upward 32 = .ok (.istore_n 3, 1) := by decide +kernel
theorem dX3_upward_33 : decode cX3_upward 33 = .ok (.iinc 4 1, 3) := by decide +kernel
theorem dX3_upward_36 : decode cX3_upward 36 = .ok (.goto (-31), 3) := by decide +kernel
theorem dX3_upward_39 : decode cX3_upward 39 = .ok (.iconst (-1), 1) := by decide +kernel
theorem dX3_upward_40 : decode cX3_upward 40 = .ok (.ireturn, 1) := by decide +kernel
theorem dX3_isTwin_0 : decode cX3_isTwin 0 = .ok (.iload_n 1, 1) := by decide +kernel
theorem dX3_isTwin_1 : decode cX3_isTwin 1 = .ok (.ifCond .lt 13, 3) := by decide +kernel
theorem dX3_isTwin_4 : decode cX3_isTwin 4 = .ok (.iload_n 1, 1) := by decide +kernel
theorem dX3_isTwin_5 : decode cX3_isTwin 5 = .ok (.bipush 60, 2) := by decide +kernel
theorem dX3_isTwin_7 : decode cX3_isTwin 7 = .ok (.if_icmp .ge 7, 3) := by decide +kernel
theorem dX3_isTwin_10 : decode cX3_isTwin 10 = .ok (.iconst 1, 1) := by decide +kernel
theorem dX3_isTwin_11 : decode cX3_isTwin 11 = .ok (.goto 4, 3) := by decide +kernel
theorem dX3_isTwin_14 : decode cX3_isTwin 14 = .ok (.iconst 0, 1) := by decide +kernel
theorem dX3_isTwin_15 : decode cX3_isTwin 15 = .ok (.istore 4, 2) := by decide +kernel
theorem dX3_isTwin_17 : decode cX3_isTwin 17 = .ok (.iload 4, 2) := by decide +kernel
theorem dX3_isTwin_19 : decode cX3_isTwin 19 = .ok (.ifCond .eq 27, 3) := by decide +kernel
theorem dX3_isTwin_22 : decode cX3_isTwin 22 = .ok (.aload_n 0, 1) := by decide +kernel
theorem dX3_isTwin_23 : decode cX3_isTwin 23 = .ok (.getfield 9, 3) := by decide +kernel
theorem dX3_isTwin_26 : decode cX3_isTwin 26 = .ok (.iload_n 1, 1) := by decide +kernel
theorem dX3_isTwin_27 : decode cX3_isTwin 27 = .ok (.iaload, 1) := by decide +kernel
theorem dX3_isTwin_28 : decode cX3_isTwin 28 = .ok (.iload_n 2, 1) := by decide +kernel
theorem dX3_isTwin_29 : decode cX3_isTwin 29 = .ok (.if_icmp .ne 17, 3) := by decide +kernel
theorem dX3_isTwin_32 : decode cX3_isTwin 32 = .ok (.aload_n 0, 1) := by decide +kernel
theorem dX3_isTwin_33 : decode cX3_isTwin 33 = .ok (.getfield 15, 3) := by decide +kernel
theorem dX3_isTwin_36 : decode cX3_isTwin 36 = .ok (.iload_n 1, 1) := by decide +kernel
theorem dX3_isTwin_37 : decode cX3_isTwin 37 = .ok (.iaload, 1) := by decide +kernel
theorem dX3_isTwin_38 : decode cX3_isTwin 38 = .ok (.iload_n 3, 1) := by decide +kernel
theorem dX3_isTwin_39 : decode cX3_isTwin 39 = .ok (.if_icmp .ne 7, 3) := by decide +kernel
theorem dX3_isTwin_42 : decode cX3_isTwin 42 = .ok (.iconst 1, 1) := by decide +kernel
theorem dX3_isTwin_43 : decode cX3_isTwin 43 = .ok (.goto 4, 3) := by decide +kernel
theorem dX3_isTwin_46 : decode cX3_isTwin 46 = .ok (.iconst 0, 1) := by decide +kernel
theorem dX3_isTwin_47 : decode cX3_isTwin 47 = .ok (.ireturn, 1) := by decide +kernel
theorem dX3_hasTwin_0 : decode cX3_hasTwin 0 = .ok (.iconst 0, 1) := by decide +kernel
theorem dX3_hasTwin_1 : decode cX3_hasTwin 1 = .ok (.istore 4, 2) := by decide +kernel
theorem dX3_hasTwin_3 : decode cX3_hasTwin 3 = .ok (.iload 4, 2) := by decide +kernel
theorem dX3_hasTwin_5 : decode cX3_hasTwin 5 = .ok (.bipush 60, 2) := by decide +kernel
theorem dX3_hasTwin_7 : decode cX3_hasTwin 7 = .ok (.if_icmp .ge 33, 3) := by decide +kernel
theorem dX3_hasTwin_10 : decode cX3_hasTwin 10 = .ok (.aload_n 0, 1) := by decide +kernel
theorem dX3_hasTwin_11 : decode cX3_hasTwin 11 = .ok (.iload 4, 2) := by decide +kernel
theorem dX3_hasTwin_13 : decode cX3_hasTwin 13 = .ok (.iload_n 1, 1) := by decide +kernel
theorem dX3_hasTwin_14 : decode cX3_hasTwin 14 = .ok (.iload_n 2, 1) := by decide +kernel
theorem dX3_hasTwin_15 : decode cX3_hasTwin 15 = .ok (.invokevirtual 65, 3) := by decide +kernel
theorem dX3_hasTwin_18 : decode cX3_hasTwin 18 = .ok (.ifCond .eq 16, 3) := by decide +kernel
theorem dX3_hasTwin_21 : decode cX3_hasTwin 21 = .ok (.aload_n 0, 1) := by decide +kernel
theorem dX3_hasTwin_22 : decode cX3_hasTwin 22 = .ok (.iload 4, 2) := by decide +kernel
theorem dX3_hasTwin_24 : decode cX3_hasTwin 24 = .ok (.iconst 0, 1) := by decide +kernel
theorem dX3_hasTwin_25 : decode cX3_hasTwin 25 = .ok (.invokevirtual 58, 3) := by decide +kernel
theorem dX3_hasTwin_28 : decode cX3_hasTwin 28 = .ok (.iload_n 3, 1) := by decide +kernel
theorem dX3_hasTwin_29 : decode cX3_hasTwin 29 = .ok (.if_icmp .ne 5, 3) := by decide +kernel
theorem dX3_hasTwin_32 : decode cX3_hasTwin 32 = .ok (.iconst 1, 1) := by decide +kernel
theorem dX3_hasTwin_33 : decode cX3_hasTwin 33 = .ok (.ireturn, 1) := by decide +kernel
theorem dX3_hasTwin_34 : decode cX3_hasTwin 34 = .ok (.iinc 4 1, 3) := by decide +kernel
theorem dX3_hasTwin_37 : decode cX3_hasTwin 37 = .ok (.goto (-34), 3) := by decide +kernel
theorem dX3_hasTwin_40 : decode cX3_hasTwin 40 = .ok (.iconst 0, 1) := by decide +kernel
theorem dX3_hasTwin_41 : decode cX3_hasTwin 41 = .ok (.ireturn, 1) := by decide +kernel
theorem dX3_rootOf_0 : decode cX3_rootOf 0 = .ok (.iconst 0, 1) := by decide +kernel
theorem dX3_rootOf_1 : decode cX3_rootOf 1 = .ok (.istore_n 3, 1) := by decide +kernel
theorem dX3_rootOf_2 : decode cX3_rootOf 2 = .ok (.iload_n 3, 1) := by decide +kernel
theorem dX3_rootOf_3 : decode cX3_rootOf 3 = .ok (.bipush 60, 2) := by decide +kernel
theorem dX3_rootOf_5 : decode cX3_rootOf 5 = .ok (.if_icmp .ge 36, 3) := by decide +kernel
theorem dX3_rootOf_8 : decode cX3_rootOf 8 = .ok (.iload_n 1, 1) := by decide +kernel
theorem dX3_rootOf_9 : decode cX3_rootOf 9 = .ok (.iconst (-1), 1) := by decide +kernel
theorem dX3_rootOf_10 : decode cX3_rootOf 10 = .ok (.if_icmp .eq 31, 3) := by decide +kernel
theorem dX3_rootOf_13 : decode cX3_rootOf 13 = .ok (.aload_n 0, 1) := by decide +kernel
theorem dX3_rootOf_14 : decode cX3_rootOf 14 = .ok (.getfield 9, 3) := by decide +kernel
theorem dX3_rootOf_17 : decode cX3_rootOf 17 = .ok (.iload_n 3, 1) := by decide +kernel
theorem dX3_rootOf_18 : decode cX3_rootOf 18 = .ok (.iaload, 1) := by decide +kernel
theorem dX3_rootOf_19 : decode cX3_rootOf 19 = .ok (.iload_n 1, 1) := by decide +kernel
theorem dX3_rootOf_20 : decode cX3_rootOf 20 = .ok (.if_icmp .ne 15, 3) := by decide +kernel
theorem dX3_rootOf_23 : decode cX3_rootOf 23 = .ok (.aload_n 0, 1) := by decide +kernel
theorem dX3_rootOf_24 : decode cX3_rootOf 24 = .ok (.iload_n 3, 1) := by decide +kernel
theorem dX3_rootOf_25 : decode cX3_rootOf 25 = .ok (.iconst 0, 1) := by decide +kernel
theorem dX3_rootOf_26 : decode cX3_rootOf 26 = .ok (.invokevirtual 58, 3) := by decide +kernel
theorem dX3_rootOf_29 : decode cX3_rootOf 29 = .ok (.iload_n 2, 1) := by decide +kernel
theorem dX3_rootOf_30 : decode cX3_rootOf 30 = .ok (.if_icmp .ne 5, 3) := by decide +kernel
theorem dX3_rootOf_33 : decode cX3_rootOf 33 = .ok (.iload_n 3, 1) := by decide +kernel
theorem dX3_rootOf_34 : decode cX3_rootOf 34 = .ok (.ireturn, 1) := by decide +kernel
theorem dX3_rootOf_35 : decode cX3_rootOf 35 = .ok (.iinc 3 1, 3) := by decide +kernel
theorem dX3_rootOf_38 : decode cX3_rootOf 38 = .ok (.goto (-36), 3) := by decide +kernel
theorem dX3_rootOf_41 : decode cX3_rootOf 41 = .ok (.iconst (-1), 1) := by decide +kernel
theorem dX3_rootOf_42 : decode cX3_rootOf 42 = .ok (.ireturn, 1) := by decide +kernel
theorem dX3_isTied_0 : decode cX3_isTied 0 = .ok (.aload_n 0, 1) := by decide +kernel
theorem dX3_isTied_1 : decode cX3_isTied 1 = .ok (.getfield 41, 3) := by decide +kernel
theorem dX3_isTied_4 : decode cX3_isTied 4 = .ok (.aload_n 0, 1) := by decide +kernel
theorem dX3_isTied_5 : decode cX3_isTied 5 = .ok (.iload_n 1, 1) := by decide +kernel
theorem dX3_isTied_6 : decode cX3_isTied 6 = .ok (.invokevirtual 45, 3) := by decide +kernel
theorem dX3_isTied_9 : decode cX3_isTied 9 = .ok (.invokevirtual 69, 3) := by decide +kernel
theorem dX3_isTied_12 : decode cX3_isTied 12 = .ok (.istore_n 3, 1) := by decide +kernel
theorem dX3_isTied_13 : decode cX3_isTied 13 = .ok (.iload_n 3, 1) := by decide +kernel
theorem dX3_isTied_14 : decode cX3_isTied 14 = .ok (.iconst (-1), 1) := by decide +kernel
theorem dX3_isTied_15 : decode cX3_isTied 15 = .ok (.if_icmp .eq 31, 3) := by decide +kernel
theorem dX3_isTied_18 : decode cX3_isTied 18 = .ok (.iload_n 3, 1) := by decide +kernel
theorem dX3_isTied_19 : decode cX3_isTied 19 = .ok (.aload_n 0, 1) := by decide +kernel
theorem dX3_isTied_20 : decode cX3_isTied 20 = .ok (.iload_n 2, 1) := by decide +kernel
theorem dX3_isTied_21 : decode cX3_isTied 21 = .ok (.invokevirtual 45, 3) := by decide +kernel
theorem dX3_isTied_24 : decode cX3_isTied 24 = .ok (.if_icmp .ne 22, 3) := by decide +kernel
theorem dX3_isTied_27 : decode cX3_isTied 27 = .ok (.aload_n 0, 1) := by decide +kernel
theorem dX3_isTied_28 : decode cX3_isTied 28 = .ok (.iload_n 1, 1) := by decide +kernel
theorem dX3_isTied_29 : decode cX3_isTied 29 = .ok (.iconst 2, 1) := by decide +kernel
theorem dX3_isTied_30 : decode cX3_isTied 30 = .ok (.invokevirtual 58, 3) := by decide +kernel
theorem dX3_isTied_33 : decode cX3_isTied 33 = .ok (.aload_n 0, 1) := by decide +kernel
theorem dX3_isTied_34 : decode cX3_isTied 34 = .ok (.iload_n 2, 1) := by decide +kernel
theorem dX3_isTied_35 : decode cX3_isTied 35 = .ok (.iconst 0, 1) := by decide +kernel
theorem dX3_isTied_36 : decode cX3_isTied 36 = .ok (.invokevirtual 58, 3) := by decide +kernel
theorem dX3_isTied_39 : decode cX3_isTied 39 = .ok (.if_icmp .ne 7, 3) := by decide +kernel
theorem dX3_isTied_42 : decode cX3_isTied 42 = .ok (.iconst 1, 1) := by decide +kernel
theorem dX3_isTied_43 : decode cX3_isTied 43 = .ok (.goto 4, 3) := by decide +kernel
theorem dX3_isTied_46 : decode cX3_isTied 46 = .ok (.iconst 0, 1) := by decide +kernel
theorem dX3_isTied_47 : decode cX3_isTied 47 = .ok (.ireturn, 1) := by decide +kernel
theorem dX3_add_0 : decode cX3_add 0 = .ok (.iload_n 3, 1) := by decide +kernel
theorem dX3_add_1 : decode cX3_add 1 = .ok (.iconst (-1), 1) := by decide +kernel
theorem dX3_add_2 : decode cX3_add 2 = .ok (.if_icmp .ne 12, 3) := by decide +kernel
theorem dX3_add_5 : decode cX3_add 5 = .ok (.aload_n 0, 1) := by decide +kernel
theorem dX3_add_6 : decode cX3_add 6 = .ok (.iload_n 1, 1) := by decide +kernel
theorem dX3_add_7 : decode cX3_add 7 = .ok (.iload_n 2, 1) := by decide +kernel
theorem dX3_add_8 : decode cX3_add 8 = .ok (.invokevirtual 72, 3) := by decide +kernel
theorem dX3_add_11 : decode cX3_add 11 = .ok (.goto 8, 3) := by decide +kernel
theorem dX3_add_14 : decode cX3_add 14 = .ok (.aload_n 0, 1) := by decide +kernel
theorem dX3_add_15 : decode cX3_add 15 = .ok (.iload_n 3, 1) := by decide +kernel
theorem dX3_add_16 : decode cX3_add 16 = .ok (.invokevirtual 75, 3) := by decide +kernel
theorem dX3_add_19 : decode cX3_add 19 = .ok (.istore 4, 2) := by decide +kernel
theorem dX3_add_21 : decode cX3_add 21 = .ok (.aload_n 0, 1) := by decide +kernel
theorem dX3_add_22 : decode cX3_add 22 = .ok (.invokevirtual 78, 3) := by decide +kernel
theorem dX3_add_25 : decode cX3_add 25 = .ok (.istore 5, 2) := by decide +kernel
theorem dX3_add_27 : decode cX3_add 27 = .ok (.iload 5, 2) := by decide +kernel
theorem dX3_add_29 : decode cX3_add 29 = .ok (.iconst (-1), 1) := by decide +kernel
theorem dX3_add_30 : decode cX3_add 30 = .ok (.if_icmp .eq 9, 3) := by decide +kernel
theorem dX3_add_33 : decode cX3_add 33 = .ok (.iload 4, 2) := by decide +kernel
theorem dX3_add_35 : decode cX3_add 35 = .ok (.iconst (-1), 1) := by decide +kernel
theorem dX3_add_36 : decode cX3_add 36 = .ok (.if_icmp .ne 5, 3) := by decide +kernel
theorem dX3_add_39 : decode cX3_add 39 = .ok (.iconst (-1), 1) := by decide +kernel
theorem dX3_add_40 : decode cX3_add 40 = .ok (.ireturn, 1) := by decide +kernel
theorem dX3_add_41 : decode cX3_add 41 = .ok (.aload_n 0, 1) := by decide +kernel
theorem dX3_add_42 : decode cX3_add 42 = .ok (.getfield 18, 3) := by decide +kernel
theorem dX3_add_45 : decode cX3_add 45 = .ok (.iload 5, 2) := by decide +kernel
theorem dX3_add_47 : decode cX3_add 47 = .ok (.aload_n 0, 1) := by decide +kernel
theorem dX3_add_48 : decode cX3_add 48 = .ok (.iload_n 1, 1) := by decide +kernel
theorem dX3_add_49 : decode cX3_add 49 = .ok (.iload_n 2, 1) := by decide +kernel
theorem dX3_add_50 : decode cX3_add 50 = .ok (.iload_n 3, 1) := by decide +kernel
theorem dX3_add_51 : decode cX3_add 51 = .ok (.invokevirtual 82, 3) := by decide +kernel
theorem dX3_add_54 : decode cX3_add 54 = .ok (.iastore, 1) := by decide +kernel
theorem dX3_add_55 : decode cX3_add 55 = .ok (.aload_n 0, 1) := by decide +kernel
theorem dX3_add_56 : decode cX3_add 56 = .ok (.getfield 9, 3) := by decide +kernel
theorem dX3_add_59 : decode cX3_add 59 = .ok (.iload 5, 2) := by decide +kernel
theorem dX3_add_61 : decode cX3_add 61 = .ok (.iload_n 1, 1) := by decide +kernel
theorem dX3_add_62 : decode cX3_add 62 = .ok (.iastore, 1) := by decide +kernel
theorem dX3_add_63 : decode cX3_add 63 = .ok (.aload_n 0, 1) := by decide +kernel
theorem dX3_add_64 : decode cX3_add 64 = .ok (.getfield 15, 3) := by decide +kernel
theorem dX3_add_67 : decode cX3_add 67 = .ok (.iload 5, 2) := by decide +kernel
theorem dX3_add_69 : decode cX3_add 69 = .ok (.iload_n 2, 1) := by decide +kernel
theorem dX3_add_70 : decode cX3_add 70 = .ok (.iastore, 1) := by decide +kernel
theorem dX3_add_71 : decode cX3_add 71 = .ok (.iconst 0, 1) := by decide +kernel
theorem dX3_add_72 : decode cX3_add 72 = .ok (.istore 6, 2) := by decide +kernel
theorem dX3_add_74 : decode cX3_add 74 = .ok (.iload 6, 2) := by decide +kernel
theorem dX3_add_76 : decode cX3_add 76 = .ok (.iconst 3, 1) := by decide +kernel
theorem dX3_add_77 : decode cX3_add 77 = .ok (.if_icmp .ge 18, 3) := by decide +kernel
theorem dX3_add_80 : decode cX3_add 80 = .ok (.aload_n 0, 1) := by decide +kernel
theorem dX3_add_81 : decode cX3_add 81 = .ok (.iload 5, 2) := by decide +kernel
theorem dX3_add_83 : decode cX3_add 83 = .ok (.iload 6, 2) := by decide +kernel
theorem dX3_add_85 : decode cX3_add 85 = .ok (.iconst 0, 1) := by decide +kernel
theorem dX3_add_86 : decode cX3_add 86 = .ok (.invokevirtual 86, 3) := by decide +kernel
theorem dX3_add_89 : decode cX3_add 89 = .ok (.iinc 6 1, 3) := by decide +kernel
theorem dX3_add_92 : decode cX3_add 92 = .ok (.goto (-18), 3) := by decide +kernel
theorem dX3_add_95 : decode cX3_add 95 = .ok (.aload_n 0, 1) := by decide +kernel
theorem dX3_add_96 : decode cX3_add 96 = .ok (.aload_n 0, 1) := by decide +kernel
theorem dX3_add_97 : decode cX3_add 97 = .ok (.getfield 41, 3) := by decide +kernel
theorem dX3_add_100 : decode cX3_add 100 = .ok (.iload_n 1, 1) := by decide +kernel
theorem dX3_add_101 : decode cX3_add 101 = .ok (.invokevirtual 49, 3) := by decide +kernel
theorem dX3_add_104 : decode cX3_add 104 = .ok (.iload 4, 2) := by decide +kernel
theorem dX3_add_106 : decode cX3_add 106 = .ok (.iload 5, 2) := by decide +kernel
theorem dX3_add_108 : decode cX3_add 108 = .ok (.invokevirtual 90, 3) := by decide +kernel
theorem dX3_add_111 : decode cX3_add 111 = .ok (.iload 5, 2) := by decide +kernel
theorem dX3_add_113 : decode cX3_add 113 = .ok (.ireturn, 1) := by decide +kernel
theorem dX3_unused_0 : decode cX3_unused 0 = .ok (.iconst 0, 1) := by decide +kernel
theorem dX3_unused_1 : decode cX3_unused 1 = .ok (.istore_n 1, 1) := by decide +kernel
theorem dX3_unused_2 : decode cX3_unused 2 = .ok (.iload_n 1, 1) := by decide +kernel
theorem dX3_unused_3 : decode cX3_unused 3 = .ok (.bipush 60, 2) := by decide +kernel
theorem dX3_unused_5 : decode cX3_unused 5 = .ok (.if_icmp .ge 21, 3) := by decide +kernel
theorem dX3_unused_8 : decode cX3_unused 8 = .ok (.aload_n 0, 1) := by decide +kernel
theorem dX3_unused_9 : decode cX3_unused 9 = .ok (.getfield 9, 3) := by decide +kernel
theorem dX3_unused_12 : decode cX3_unused 12 = .ok (.iload_n 1, 1) := by decide +kernel
theorem dX3_unused_13 : decode cX3_unused 13 = .ok (.iaload, 1) := by decide +kernel
theorem dX3_unused_14 : decode cX3_unused 14 = .ok (.iconst (-1), 1) := by decide +kernel
theorem dX3_unused_15 : decode cX3_unused 15 = .ok (.if_icmp .ne 5, 3) := by decide +kernel
theorem dX3_unused_18 : decode cX3_unused 18 = .ok (.iload_n 1, 1) := by decide +kernel
theorem dX3_unused_19 : decode cX3_unused 19 = .ok (.ireturn, 1) := by decide +kernel
theorem dX3_unused_20 : decode cX3_unused 20 = .ok (.iinc 1 1, 3) := by decide +kernel
theorem dX3_unused_23 : decode cX3_unused 23 = .ok (.goto (-21), 3) := by decide +kernel
theorem dX3_unused_26 : decode cX3_unused 26 = .ok (.iconst (-1), 1) := by decide +kernel
theorem dX3_unused_27 : decode cX3_unused 27 = .ok (.ireturn, 1) := by decide +kernel
theorem dX3_endOfTwins_0 : decode cX3_endOfTwins 0 = .ok (.aload_n 0, 1) := by decide +kernel
theorem dX3_endOfTwins_1 : decode cX3_endOfTwins 1 = .ok (.getfield 41, 3) := by decide +kernel
theorem dX3_endOfTwins_4 : decode cX3_endOfTwins 4 = .ok (.iload_n 1, 1) := by decide +kernel
theorem dX3_endOfTwins_5 : decode cX3_endOfTwins 5 = .ok (.invokevirtual 49, 3) := by decide +kernel
theorem dX3_endOfTwins_8 : decode cX3_endOfTwins 8 = .ok (.istore_n 3, 1) := by decide +kernel
theorem dX3_endOfTwins_9 : decode cX3_endOfTwins 9 = .ok (.iload_n 2, 1) := by decide +kernel
theorem dX3_endOfTwins_10 : decode cX3_endOfTwins 10 = .ok (.iconst (-1), 1) := by decide +kernel
theorem dX3_endOfTwins_11 : decode cX3_endOfTwins 11 = .ok (.if_icmp .ne 9, 3) := by decide +kernel
theorem dX3_endOfTwins_14 : decode cX3_endOfTwins 14 = .ok (.aload_n 0, 1) := by decide +kernel
theorem dX3_endOfTwins_15 : decode cX3_endOfTwins 15 = .ok (.iload_n 3, 1) := by decide +kernel
theorem dX3_endOfTwins_16 : decode cX3_endOfTwins 16 = .ok (.invokevirtual 93, 3) := by decide +kernel
theorem dX3_endOfTwins_19 : decode cX3_endOfTwins 19 = .ok (.ireturn, 1) := by decide +kernel
theorem dX3_endOfTwins_20 : decode cX3_endOfTwins 20 = .ok (.aload_n 0, 1) := by decide +kernel
theorem dX3_endOfTwins_21 : decode cX3_endOfTwins 21 = .ok (.iload_n 2, 1) := by decide +kernel
theorem dX3_endOfTwins_22 : decode cX3_endOfTwins 22 = .ok (.invokevirtual 75, 3) := by decide +kernel
theorem dX3_endOfTwins_25 : decode cX3_endOfTwins 25 = .ok (.iconst 1, 1) := by decide +kernel
theorem dX3_endOfTwins_26 : decode cX3_endOfTwins 26 = .ok (.iadd, 1) := by decide +kernel
theorem dX3_endOfTwins_27 : decode cX3_endOfTwins 27 = .ok (.istore 4, 2) := by decide +kernel
theorem dX3_endOfTwins_29 : decode cX3_endOfTwins 29 = .ok (.iconst 0, 1) := by decide +kernel
theorem dX3_endOfTwins_30 : decode cX3_endOfTwins 30 = .ok (.istore 5, 2) := by decide +kernel
theorem dX3_endOfTwins_32 : decode cX3_endOfTwins 32 = .ok (.iload 5, 2) := by decide +kernel
theorem dX3_endOfTwins_34 : decode cX3_endOfTwins 34 = .ok (.bipush 60, 2) := by decide +kernel
theorem dX3_endOfTwins_36 : decode cX3_endOfTwins 36 = .ok (.if_icmp .ge 28, 3) := by decide +kernel
theorem dX3_endOfTwins_39 : decode cX3_endOfTwins 39 = .ok (.aload_n 0, 1) := by decide +kernel
theorem dX3_endOfTwins_40 : decode cX3_endOfTwins 40 = .ok (.aload_n 0, 1) := by decide +kernel
theorem dX3_endOfTwins_41 : decode cX3_endOfTwins 41 = .ok (.iload_n 3, 1) := by decide +kernel
theorem dX3_endOfTwins_42 : decode cX3_endOfTwins 42 = .ok (.iload 4, 2) := by decide +kernel
theorem dX3_endOfTwins_44 : decode cX3_endOfTwins 44 = .ok (.invokevirtual 96, 3) := by decide +kernel
theorem dX3_endOfTwins_47 : decode cX3_endOfTwins 47 = .ok (.iload_n 2, 1) := by decide +kernel
theorem dX3_endOfTwins_48 : decode cX3_endOfTwins 48 = .ok (.iload_n 1, 1) := by decide +kernel
theorem dX3_endOfTwins_49 : decode cX3_endOfTwins 49 = .ok (.invokevirtual 99, 3) := by decide +kernel
theorem dX3_endOfTwins_52 : decode cX3_endOfTwins 52 = .ok (.ifCond .eq 12, 3) := by decide +kernel
theorem dX3_endOfTwins_55 : decode cX3_endOfTwins 55 = .ok (.iinc 4 1, 3) := by decide +kernel
theorem dX3_endOfTwins_58 : decode cX3_endOfTwins 58 = .ok (.iinc 5 1, 3) := by decide +kernel
theorem dX3_endOfTwins_61 : decode cX3_endOfTwins 61 = .ok (.goto (-29), 3) := by decide +kernel
theorem dX3_endOfTwins_64 : decode cX3_endOfTwins 64 = .ok (.iload 4, 2) := by decide +kernel
theorem dX3_endOfTwins_66 : decode cX3_endOfTwins 66 = .ok (.ireturn, 1) := by decide +kernel
theorem dX3_liesUpTo_0 : decode cX3_liesUpTo 0 = .ok (.iload_n 1, 1) := by decide +kernel
theorem dX3_liesUpTo_1 : decode cX3_liesUpTo 1 = .ok (.istore 4, 2) := by decide +kernel
theorem dX3_liesUpTo_3 : decode cX3_liesUpTo 3 = .ok (.iconst 0, 1) := by decide +kernel
theorem dX3_liesUpTo_4 : decode cX3_liesUpTo 4 = .ok (.istore 5, 2) := by decide +kernel
theorem dX3_liesUpTo_6 : decode cX3_liesUpTo 6 = .ok (.iload 5, 2) := by decide +kernel
theorem dX3_liesUpTo_8 : decode cX3_liesUpTo 8 = .ok (.iconst 4, 1) := by decide +kernel
theorem dX3_liesUpTo_9 : decode cX3_liesUpTo 9 = .ok (.if_icmp .ge 49, 3) := by decide +kernel
theorem dX3_liesUpTo_12 : decode cX3_liesUpTo 12 = .ok (.iload 4, 2) := by decide +kernel
theorem dX3_liesUpTo_14 : decode cX3_liesUpTo 14 = .ok (.iconst (-1), 1) := by decide +kernel
theorem dX3_liesUpTo_15 : decode cX3_liesUpTo 15 = .ok (.if_icmp .eq 43, 3) := by decide +kernel
theorem dX3_liesUpTo_18 : decode cX3_liesUpTo 18 = .ok (.aload_n 0, 1) := by decide +kernel
theorem dX3_liesUpTo_19 : decode cX3_liesUpTo 19 = .ok (.iload 4, 2) := by decide +kernel
theorem dX3_liesUpTo_21 : decode cX3_liesUpTo 21 = .ok (.invokevirtual 62, 3) := by decide +kernel
theorem dX3_liesUpTo_24 : decode cX3_liesUpTo 24 = .ok (.iload_n 2, 1) := by decide +kernel
theorem dX3_liesUpTo_25 : decode cX3_liesUpTo 25 = .ok (.if_icmp .ne 19, 3) := by decide +kernel
theorem dX3_liesUpTo_28 : decode cX3_liesUpTo 28 = .ok (.aload_n 0, 1) := by decide +kernel
theorem dX3_liesUpTo_29 : decode cX3_liesUpTo 29 = .ok (.iload 4, 2) := by decide +kernel
theorem dX3_liesUpTo_31 : decode cX3_liesUpTo 31 = .ok (.invokevirtual 45, 3) := by decide +kernel
theorem dX3_liesUpTo_34 : decode cX3_liesUpTo 34 = .ok (.iload_n 3, 1) := by decide +kernel
theorem dX3_liesUpTo_35 : decode cX3_liesUpTo 35 = .ok (.if_icmp .gt 7, 3) := by decide +kernel
theorem dX3_liesUpTo_38 : decode cX3_liesUpTo 38 = .ok (.iconst 1, 1) := by decide +kernel
theorem dX3_liesUpTo_39 : decode cX3_liesUpTo 39 = .ok (.goto 4, 3) := by decide +kernel
theorem dX3_liesUpTo_42 : decode cX3_liesUpTo 42 = .ok (.iconst 0, 1) := by decide +kernel
theorem dX3_liesUpTo_43 : decode cX3_liesUpTo 43 = .ok (.ireturn, 1) := by decide +kernel
theorem dX3_liesUpTo_44 : decode cX3_liesUpTo 44 = .ok (.aload_n 0, 1) := by decide +kernel
theorem dX3_liesUpTo_45 : decode cX3_liesUpTo 45 = .ok (.iload 4, 2) := by decide +kernel
theorem dX3_liesUpTo_47 : decode cX3_liesUpTo 47 = .ok (.invokevirtual 62, 3) := by decide +kernel
theorem dX3_liesUpTo_50 : decode cX3_liesUpTo 50 = .ok (.istore 4, 2) := by decide +kernel
theorem dX3_liesUpTo_52 : decode cX3_liesUpTo 52 = .ok (.iinc 5 1, 3) := by decide +kernel
theorem dX3_liesUpTo_55 : decode cX3_liesUpTo 55 = .ok (.goto (-49), 3) := by decide +kernel
theorem dX3_liesUpTo_58 : decode cX3_liesUpTo 58 = .ok (.iconst 0, 1) := by decide +kernel
theorem dX3_liesUpTo_59 : decode cX3_liesUpTo 59 = .ok (.ireturn, 1) := by decide +kernel
theorem dX3_makeRank_0 : decode cX3_makeRank 0 = .ok (.iconst 0, 1) := by decide +kernel
theorem dX3_makeRank_1 : decode cX3_makeRank 1 = .ok (.istore 4, 2) := by decide +kernel
theorem dX3_makeRank_3 : decode cX3_makeRank 3 = .ok (.iconst 0, 1) := by decide +kernel
theorem dX3_makeRank_4 : decode cX3_makeRank 4 = .ok (.istore 5, 2) := by decide +kernel
theorem dX3_makeRank_6 : decode cX3_makeRank 6 = .ok (.iload 5, 2) := by decide +kernel
theorem dX3_makeRank_8 : decode cX3_makeRank 8 = .ok (.bipush 60, 2) := by decide +kernel
theorem dX3_makeRank_10 : decode cX3_makeRank 10 = .ok (.if_icmp .ge 36, 3) := by decide +kernel
theorem dX3_makeRank_13 : decode cX3_makeRank 13 = .ok (.aload_n 0, 1) := by decide +kernel
theorem dX3_makeRank_14 : decode cX3_makeRank 14 = .ok (.iload 5, 2) := by decide +kernel
theorem dX3_makeRank_16 : decode cX3_makeRank 16 = .ok (.iload_n 1, 1) := by decide +kernel
theorem dX3_makeRank_17 : decode cX3_makeRank 17 = .ok (.iload_n 2, 1) := by decide +kernel
theorem dX3_makeRank_18 : decode cX3_makeRank 18 = .ok (.invokevirtual 65, 3) := by decide +kernel
theorem dX3_makeRank_21 : decode cX3_makeRank 21 = .ok (.ifCond .eq 19, 3) := by decide +kernel
theorem dX3_makeRank_24 : decode cX3_makeRank 24 = .ok (.iload 4, 2) := by decide +kernel
theorem dX3_makeRank_26 : decode cX3_makeRank 26 = .ok (.aload_n 0, 1) := by decide +kernel
theorem dX3_makeRank_27 : decode cX3_makeRank 27 = .ok (.getfield 18, 3) := by decide +kernel
theorem dX3_makeRank_30 : decode cX3_makeRank 30 = .ok (.iload 5, 2) := by decide +kernel
theorem dX3_makeRank_32 : decode cX3_makeRank 32 = .ok (.iaload, 1) := by decide +kernel
theorem dX3_makeRank_33 : decode cX3_makeRank 33 = .ok (.iconst 1, 1) := by decide +kernel
theorem dX3_makeRank_34 : decode cX3_makeRank 34 = .ok (.iadd, 1) := by decide +kernel
theorem dX3_makeRank_35 : decode cX3_makeRank 35 = .ok (.invokestatic 102, 3) := by decide +kernel
theorem dX3_makeRank_38 : decode cX3_makeRank 38 = .ok (.istore 4, 2) := by decide +kernel
theorem dX3_makeRank_40 : decode cX3_makeRank 40 = .ok (.iinc 5 1, 3) := by decide +kernel
theorem dX3_makeRank_43 : decode cX3_makeRank 43 = .ok (.goto (-37), 3) := by decide +kernel
theorem dX3_makeRank_46 : decode cX3_makeRank 46 = .ok (.iload_n 3, 1) := by decide +kernel
theorem dX3_makeRank_47 : decode cX3_makeRank 47 = .ok (.invokestatic 54, 3) := by decide +kernel
theorem dX3_makeRank_50 : decode cX3_makeRank 50 = .ok (.ifCond .ne 6, 3) := by decide +kernel
theorem dX3_makeRank_53 : decode cX3_makeRank 53 = .ok (.iload 4, 2) := by decide +kernel
theorem dX3_makeRank_55 : decode cX3_makeRank 55 = .ok (.ireturn, 1) := by decide +kernel
theorem dX3_makeRank_56 : decode cX3_makeRank 56 = .ok (.aload_n 0, 1) := by decide +kernel
theorem dX3_makeRank_57 : decode cX3_makeRank 57 = .ok (.getfield 18, 3) := by decide +kernel
theorem dX3_makeRank_60 : decode cX3_makeRank 60 = .ok (.iload_n 3, 1) := by decide +kernel
theorem dX3_makeRank_61 : decode cX3_makeRank 61 = .ok (.iaload, 1) := by decide +kernel
theorem dX3_makeRank_62 : decode cX3_makeRank 62 = .ok (.istore 4, 2) := by decide +kernel
theorem dX3_makeRank_64 : decode cX3_makeRank 64 = .ok (.iconst 0, 1) := by decide +kernel
theorem dX3_makeRank_65 : decode cX3_makeRank 65 = .ok (.istore 5, 2) := by decide +kernel
theorem dX3_makeRank_67 : decode cX3_makeRank 67 = .ok (.iload 5, 2) := by decide +kernel
theorem dX3_makeRank_69 : decode cX3_makeRank 69 = .ok (.bipush 60, 2) := by decide +kernel
theorem dX3_makeRank_71 : decode cX3_makeRank 71 = .ok (.if_icmp .ge 43, 3) := by decide +kernel
theorem dX3_makeRank_74 : decode cX3_makeRank 74 = .ok (.aload_n 0, 1) := by decide +kernel
theorem dX3_makeRank_75 : decode cX3_makeRank 75 = .ok (.iload 5, 2) := by decide +kernel
theorem dX3_makeRank_77 : decode cX3_makeRank 77 = .ok (.iload_n 1, 1) := by decide +kernel
theorem dX3_makeRank_78 : decode cX3_makeRank 78 = .ok (.iload_n 2, 1) := by decide +kernel
theorem dX3_makeRank_79 : decode cX3_makeRank 79 = .ok (.invokevirtual 65, 3) := by decide +kernel
theorem dX3_makeRank_82 : decode cX3_makeRank 82 = .ok (.ifCond .eq 26, 3) := by decide +kernel
theorem dX3_makeRank_85 : decode cX3_makeRank 85 = .ok (.aload_n 0, 1) := by decide +kernel
theorem dX3_makeRank_86 : decode cX3_makeRank 86 = .ok (.getfield 18, 3) := by decide +kernel
theorem dX3_makeRank_89 : decode cX3_makeRank 89 = .ok (.iload 5, 2) := by decide +kernel
theorem dX3_makeRank_91 : decode cX3_makeRank 91 = .ok (.iaload, 1) := by decide +kernel
theorem dX3_makeRank_92 : decode cX3_makeRank 92 = .ok (.iload 4, 2) := by decide +kernel
theorem dX3_makeRank_94 : decode cX3_makeRank 94 = .ok (.if_icmp .lt 14, 3) := by decide +kernel
theorem dX3_makeRank_97 : decode cX3_makeRank 97 = .ok (.aload_n 0, 1) := by decide +kernel
theorem dX3_makeRank_98 : decode cX3_makeRank 98 = .ok (.getfield 18, 3) := by decide +kernel
theorem dX3_makeRank_101 : decode cX3_makeRank 101 = .ok (.iload 5, 2) := by decide +kernel
theorem dX3_makeRank_103 : decode cX3_makeRank 103 = .ok (.dup2, 1) := by decide +kernel
theorem dX3_makeRank_104 : decode cX3_makeRank 104 = .ok (.iaload, 1) := by decide +kernel
theorem dX3_makeRank_105 : decode cX3_makeRank 105 = .ok (.iconst 1, 1) := by decide +kernel
theorem dX3_makeRank_106 : decode cX3_makeRank 106 = .ok (.iadd, 1) := by decide +kernel
theorem dX3_makeRank_107 : decode cX3_makeRank 107 = .ok (.iastore, 1) := by decide +kernel
theorem dX3_makeRank_108 : decode cX3_makeRank 108 = .ok (.iinc 5 1, 3) := by decide +kernel
theorem dX3_makeRank_111 : decode cX3_makeRank 111 = .ok (.goto (-44), 3) := by decide +kernel
theorem dX3_makeRank_114 : decode cX3_makeRank 114 = .ok (.iload 4, 2) := by decide +kernel
theorem dX3_makeRank_116 : decode cX3_makeRank 116 = .ok (.ireturn, 1) := by decide +kernel
theorem dX3_putInRow_0 : decode cX3_putInRow 0 = .ok (.aload_n 0, 1) := by decide +kernel
theorem dX3_putInRow_1 : decode cX3_putInRow 1 = .ok (.iload_n 1, 1) := by decide +kernel
theorem dX3_putInRow_2 : decode cX3_putInRow 2 = .ok (.invokevirtual 93, 3) := by decide +kernel
theorem dX3_putInRow_5 : decode cX3_putInRow 5 = .ok (.istore 4, 2) := by decide +kernel
theorem dX3_putInRow_7 : decode cX3_putInRow 7 = .ok (.iload_n 1, 1) := by decide +kernel
theorem dX3_putInRow_8 : decode cX3_putInRow 8 = .ok (.iconst 3, 1) := by decide +kernel
theorem dX3_putInRow_9 : decode cX3_putInRow 9 = .ok (.invokestatic 107, 3) := by decide +kernel
theorem dX3_putInRow_12 : decode cX3_putInRow 12 = .ok (.ifCond .eq 20, 3) := by decide +kernel
theorem dX3_putInRow_15 : decode cX3_putInRow 15 = .ok (.iload 4, 2) := by decide +kernel
theorem dX3_putInRow_17 : decode cX3_putInRow 17 = .ok (.bipush 60, 2) := by decide +kernel
theorem dX3_putInRow_19 : decode cX3_putInRow 19 = .ok (.if_icmp .ge 13, 3) := by decide +kernel
theorem dX3_putInRow_22 : decode cX3_putInRow 22 = .ok (.iload_n 2, 1) := by decide +kernel
theorem dX3_putInRow_23 : decode cX3_putInRow 23 = .ok (.ifCond .lt 9, 3) := by decide +kernel
theorem dX3_putInRow_26 : decode cX3_putInRow 26 = .ok (.iload_n 2, 1) := by decide +kernel
theorem dX3_putInRow_27 : decode cX3_putInRow 27 = .ok (.iload 4, 2) := by decide +kernel
theorem dX3_putInRow_29 : decode cX3_putInRow 29 = .ok (.if_icmp .le 4, 3) := by decide +kernel
theorem dX3_putInRow_32 : decode cX3_putInRow 32 = .ok (.return_, 1) := by decide +kernel
theorem dX3_putInRow_33 : decode cX3_putInRow 33 = .ok (.iload_n 1, 1) := by decide +kernel
theorem dX3_putInRow_34 : decode cX3_putInRow 34 = .ok (.bipush 60, 2) := by decide +kernel
theorem dX3_putInRow_36 : decode cX3_putInRow 36 = .ok (.imul, 1) := by decide +kernel
theorem dX3_putInRow_37 : decode cX3_putInRow 37 = .ok (.istore 5, 2) := by decide +kernel
theorem dX3_putInRow_39 : decode cX3_putInRow 39 = .ok (.iload 4, 2) := by decide +kernel
theorem dX3_putInRow_41 : decode cX3_putInRow 41 = .ok (.istore 6, 2) := by decide +kernel
theorem dX3_putInRow_43 : decode cX3_putInRow 43 = .ok (.iload 6, 2) := by decide +kernel
theorem dX3_putInRow_45 : decode cX3_putInRow 45 = .ok (.iload_n 2, 1) := by decide +kernel
theorem dX3_putInRow_46 : decode cX3_putInRow 46 = .ok (.if_icmp .le 31, 3) := by decide +kernel
theorem dX3_putInRow_49 : decode cX3_putInRow 49 = .ok (.aload_n 0, 1) := by decide +kernel
theorem dX3_putInRow_50 : decode cX3_putInRow 50 = .ok (.getfield 24, 3) := by decide +kernel
theorem dX3_putInRow_53 : decode cX3_putInRow 53 = .ok (.iload 5, 2) := by decide +kernel
theorem dX3_putInRow_55 : decode cX3_putInRow 55 = .ok (.iload 6, 2) := by decide +kernel
theorem dX3_putInRow_57 : decode cX3_putInRow 57 = .ok (.iadd, 1) := by decide +kernel
theorem dX3_putInRow_58 : decode cX3_putInRow 58 = .ok (.aload_n 0, 1) := by decide +kernel
theorem dX3_putInRow_59 : decode cX3_putInRow 59 = .ok (.getfield 24, 3) := by decide +kernel
theorem dX3_putInRow_62 : decode cX3_putInRow 62 = .ok (.iload 5, 2) := by decide +kernel
theorem dX3_putInRow_64 : decode cX3_putInRow 64 = .ok (.iload 6, 2) := by decide +kernel
theorem dX3_putInRow_66 : decode cX3_putInRow 66 = .ok (.iadd, 1) := by decide +kernel
theorem dX3_putInRow_67 : decode cX3_putInRow 67 = .ok (.iconst 1, 1) := by decide +kernel
theorem dX3_putInRow_68 : decode cX3_putInRow 68 = .ok (.isub, 1) := by decide +kernel
theorem dX3_putInRow_69 : decode cX3_putInRow 69 = .ok (.iaload, 1) := by decide +kernel
theorem dX3_putInRow_70 : decode cX3_putInRow 70 = .ok (.iastore, 1) := by decide +kernel
theorem dX3_putInRow_71 : decode cX3_putInRow 71 = .ok (.iinc 6 (-1), 3) := by decide +kernel
theorem dX3_putInRow_74 : decode cX3_putInRow 74 = .ok (.goto (-31), 3) := by decide +kernel
theorem dX3_putInRow_77 : decode cX3_putInRow 77 = .ok (.aload_n 0, 1) := by decide +kernel
theorem dX3_putInRow_78 : decode cX3_putInRow 78 = .ok (.getfield 24, 3) := by decide +kernel
theorem dX3_putInRow_81 : decode cX3_putInRow 81 = .ok (.iload 5, 2) := by decide +kernel
theorem dX3_putInRow_83 : decode cX3_putInRow 83 = .ok (.iload_n 2, 1) := by decide +kernel
theorem dX3_putInRow_84 : decode cX3_putInRow 84 = .ok (.iadd, 1) := by decide +kernel
theorem dX3_putInRow_85 : decode cX3_putInRow 85 = .ok (.iload_n 3, 1) := by decide +kernel
theorem dX3_putInRow_86 : decode cX3_putInRow 86 = .ok (.iastore, 1) := by decide +kernel
theorem dX3_putInRow_87 : decode cX3_putInRow 87 = .ok (.aload_n 0, 1) := by decide +kernel
theorem dX3_putInRow_88 : decode cX3_putInRow 88 = .ok (.getfield 27, 3) := by decide +kernel
theorem dX3_putInRow_91 : decode cX3_putInRow 91 = .ok (.iload_n 1, 1) := by decide +kernel
theorem dX3_putInRow_92 : decode cX3_putInRow 92 = .ok (.dup2, 1) := by decide +kernel
theorem dX3_putInRow_93 : decode cX3_putInRow 93 = .ok (.iaload, 1) := by decide +kernel
theorem dX3_putInRow_94 : decode cX3_putInRow 94 = .ok (.iconst 1, 1) := by decide +kernel
theorem dX3_putInRow_95 : decode cX3_putInRow 95 = .ok (.iadd, 1) := by decide +kernel
theorem dX3_putInRow_96 : decode cX3_putInRow 96 = .ok (.iastore, 1) := by decide +kernel
theorem dX3_putInRow_97 : decode cX3_putInRow 97 = .ok (.aload_n 0, 1) := by decide +kernel
theorem dX3_putInRow_98 : decode cX3_putInRow 98 = .ok (.dup, 1) := by decide +kernel
theorem dX3_putInRow_99 : decode cX3_putInRow 99 = .ok (.getfield 37, 3) := by decide +kernel
theorem dX3_putInRow_102 : decode cX3_putInRow 102 = .ok (.iconst 1, 1) := by decide +kernel
theorem dX3_putInRow_103 : decode cX3_putInRow 103 = .ok (.iadd, 1) := by decide +kernel
theorem dX3_putInRow_104 : decode cX3_putInRow 104 = .ok (.putfield 37, 3) := by decide +kernel
theorem dX3_putInRow_107 : decode cX3_putInRow 107 = .ok (.aload_n 0, 1) := by decide +kernel
theorem dX3_putInRow_108 : decode cX3_putInRow 108 = .ok (.iload_n 1, 1) := by decide +kernel
theorem dX3_putInRow_109 : decode cX3_putInRow 109 = .ok (.invokevirtual 111, 3) := by decide +kernel
theorem dX3_putInRow_112 : decode cX3_putInRow 112 = .ok (.return_, 1) := by decide +kernel
theorem dX3_numberPlaces_0 : decode cX3_numberPlaces 0 = .ok (.iconst 0, 1) := by decide +kernel
theorem dX3_numberPlaces_1 : decode cX3_numberPlaces 1 = .ok (.istore_n 2, 1) := by decide +kernel
theorem dX3_numberPlaces_2 : decode cX3_numberPlaces 2 = .ok (.iload_n 2, 1) := by decide +kernel
theorem dX3_numberPlaces_3 : decode cX3_numberPlaces 3 = .ok (.aload_n 0, 1) := by decide +kernel
theorem dX3_numberPlaces_4 : decode cX3_numberPlaces 4 = .ok (.iload_n 1, 1) := by decide +kernel
theorem dX3_numberPlaces_5 : decode cX3_numberPlaces 5 = .ok (.invokevirtual 93, 3) := by decide +kernel
theorem dX3_numberPlaces_8 : decode cX3_numberPlaces 8 = .ok (.if_icmp .ge 30, 3) := by decide +kernel
theorem dX3_numberPlaces_11 : decode cX3_numberPlaces 11 = .ok (.aload_n 0, 1) := by decide +kernel
theorem dX3_numberPlaces_12 : decode cX3_numberPlaces 12 = .ok (.iload_n 1, 1) := by decide +kernel
theorem dX3_numberPlaces_13 : decode cX3_numberPlaces 13 = .ok (.iload_n 2, 1) := by decide +kernel
theorem dX3_numberPlaces_14 : decode cX3_numberPlaces 14 = .ok (.invokevirtual 96, 3) := by decide +kernel
theorem dX3_numberPlaces_17 : decode cX3_numberPlaces 17 = .ok (.istore_n 3, 1) := by decide +kernel
theorem dX3_numberPlaces_18 : decode cX3_numberPlaces 18 = .ok (.iload_n 3, 1) := by decide +kernel
theorem dX3_numberPlaces_19 : decode cX3_numberPlaces 19 = .ok (.invokestatic 54, 3) := by decide +kernel
theorem dX3_numberPlaces_22 : decode cX3_numberPlaces 22 = .ok (.ifCond .eq 10, 3) := by decide +kernel
theorem dX3_numberPlaces_25 : decode cX3_numberPlaces 25 = .ok (.aload_n 0, 1) := by decide +kernel
theorem dX3_numberPlaces_26 : decode cX3_numberPlaces 26 = .ok (.getfield 30, 3) := by decide +kernel
theorem dX3_numberPlaces_29 : decode cX3_numberPlaces 29 = .ok (.iload_n 3, 1) := by decide +kernel
theorem dX3_numberPlaces_30 : decode cX3_numberPlaces 30 = .ok (.iload_n 2, 1) := by decide +kernel
theorem dX3_numberPlaces_31 : decode cX3_numberPlaces 31 = .ok (.iastore, 1) := by decide +kernel
theorem dX3_numberPlaces_32 : decode cX3_numberPlaces 32 = .ok (.iinc 2 1, 3) := by decide +kernel
theorem dX3_numberPlaces_35 : decode cX3_numberPlaces 35 = .ok (.goto (-33), 3) := by decide +kernel
theorem dX3_numberPlaces_38 : decode cX3_numberPlaces 38 = .ok (.return_, 1) := by decide +kernel
theorem dX3_isAhead_0 : decode cX3_isAhead 0 = .ok (.aload_n 0, 1) := by decide +kernel
theorem dX3_isAhead_1 : decode cX3_isAhead 1 = .ok (.getfield 41, 3) := by decide +kernel
theorem dX3_isAhead_4 : decode cX3_isAhead 4 = .ok (.aload_n 0, 1) := by decide +kernel
theorem dX3_isAhead_5 : decode cX3_isAhead 5 = .ok (.iload_n 1, 1) := by decide +kernel
theorem dX3_isAhead_6 : decode cX3_isAhead 6 = .ok (.invokevirtual 45, 3) := by decide +kernel
theorem dX3_isAhead_9 : decode cX3_isAhead 9 = .ok (.invokevirtual 115, 3) := by decide +kernel
theorem dX3_isAhead_12 : decode cX3_isAhead 12 = .ok (.istore_n 3, 1) := by decide +kernel
theorem dX3_isAhead_13 : decode cX3_isAhead 13 = .ok (.aload_n 0, 1) := by decide +kernel
theorem dX3_isAhead_14 : decode cX3_isAhead 14 = .ok (.getfield 41, 3) := by decide +kernel
theorem dX3_isAhead_17 : decode cX3_isAhead 17 = .ok (.aload_n 0, 1) := by decide +kernel
theorem dX3_isAhead_18 : decode cX3_isAhead 18 = .ok (.iload_n 2, 1) := by decide +kernel
theorem dX3_isAhead_19 : decode cX3_isAhead 19 = .ok (.invokevirtual 45, 3) := by decide +kernel
theorem dX3_isAhead_22 : decode cX3_isAhead 22 = .ok (.invokevirtual 115, 3) := by decide +kernel
theorem dX3_isAhead_25 : decode cX3_isAhead 25 = .ok (.istore 4, 2) := by decide +kernel
theorem dX3_isAhead_27 : decode cX3_isAhead 27 = .ok (.aload_n 0, 1) := by decide +kernel
theorem dX3_isAhead_28 : decode cX3_isAhead 28 = .ok (.iload_n 1, 1) := by decide +kernel
theorem dX3_isAhead_29 : decode cX3_isAhead 29 = .ok (.iload_n 3, 1) := by decide +kernel
theorem dX3_isAhead_30 : decode cX3_isAhead 30 = .ok (.iload 4, 2) := by decide +kernel
theorem dX3_isAhead_32 : decode cX3_isAhead 32 = .ok (.isub, 1) := by decide +kernel
theorem dX3_isAhead_33 : decode cX3_isAhead 33 = .ok (.invokevirtual 118, 3) := by decide +kernel
theorem dX3_isAhead_36 : decode cX3_isAhead 36 = .ok (.istore 5, 2) := by decide +kernel
theorem dX3_isAhead_38 : decode cX3_isAhead 38 = .ok (.aload_n 0, 1) := by decide +kernel
theorem dX3_isAhead_39 : decode cX3_isAhead 39 = .ok (.iload_n 2, 1) := by decide +kernel
theorem dX3_isAhead_40 : decode cX3_isAhead 40 = .ok (.iload 4, 2) := by decide +kernel
theorem dX3_isAhead_42 : decode cX3_isAhead 42 = .ok (.iload_n 3, 1) := by decide +kernel
theorem dX3_isAhead_43 : decode cX3_isAhead 43 = .ok (.isub, 1) := by decide +kernel
theorem dX3_isAhead_44 : decode cX3_isAhead 44 = .ok (.invokevirtual 118, 3) := by decide +kernel
theorem dX3_isAhead_47 : decode cX3_isAhead 47 = .ok (.istore 6, 2) := by decide +kernel
theorem dX3_isAhead_49 : decode cX3_isAhead 49 = .ok (.iload 5, 2) := by decide +kernel
theorem dX3_isAhead_51 : decode cX3_isAhead 51 = .ok (.iload 6, 2) := by decide +kernel
theorem dX3_isAhead_53 : decode cX3_isAhead 53 = .ok (.if_icmp .ne 15, 3) := by decide +kernel
theorem dX3_isAhead_56 : decode cX3_isAhead 56 = .ok (.iload_n 3, 1) := by decide +kernel
theorem dX3_isAhead_57 : decode cX3_isAhead 57 = .ok (.iload 4, 2) := by decide +kernel
theorem dX3_isAhead_59 : decode cX3_isAhead 59 = .ok (.if_icmp .ge 7, 3) := by decide +kernel
theorem dX3_isAhead_62 : decode cX3_isAhead 62 = .ok (.iconst 1, 1) := by decide +kernel
theorem dX3_isAhead_63 : decode cX3_isAhead 63 = .ok (.goto 4, 3) := by decide +kernel
theorem dX3_isAhead_66 : decode cX3_isAhead 66 = .ok (.iconst 0, 1) := by decide +kernel
theorem dX3_isAhead_67 : decode cX3_isAhead 67 = .ok (.ireturn, 1) := by decide +kernel
theorem dX3_isAhead_68 : decode cX3_isAhead 68 = .ok (.iconst 0, 1) := by decide +kernel
theorem dX3_isAhead_69 : decode cX3_isAhead 69 = .ok (.istore 7, 2) := by decide +kernel
theorem dX3_isAhead_71 : decode cX3_isAhead 71 = .ok (.iload 7, 2) := by decide +kernel
theorem dX3_isAhead_73 : decode cX3_isAhead 73 = .ok (.iconst 4, 1) := by decide +kernel
theorem dX3_isAhead_74 : decode cX3_isAhead 74 = .ok (.if_icmp .ge 40, 3) := by decide +kernel
theorem dX3_isAhead_77 : decode cX3_isAhead 77 = .ok (.aload_n 0, 1) := by decide +kernel
theorem dX3_isAhead_78 : decode cX3_isAhead 78 = .ok (.iload 5, 2) := by decide +kernel
theorem dX3_isAhead_80 : decode cX3_isAhead 80 = .ok (.invokevirtual 62, 3) := by decide +kernel
theorem dX3_isAhead_83 : decode cX3_isAhead 83 = .ok (.aload_n 0, 1) := by decide +kernel
theorem dX3_isAhead_84 : decode cX3_isAhead 84 = .ok (.iload 6, 2) := by decide +kernel
theorem dX3_isAhead_86 : decode cX3_isAhead 86 = .ok (.invokevirtual 62, 3) := by decide +kernel
theorem dX3_isAhead_89 : decode cX3_isAhead 89 = .ok (.if_icmp .eq 25, 3) := by decide +kernel
theorem dX3_isAhead_92 : decode cX3_isAhead 92 = .ok (.aload_n 0, 1) := by decide +kernel
theorem dX3_isAhead_93 : decode cX3_isAhead 93 = .ok (.iload 5, 2) := by decide +kernel
theorem dX3_isAhead_95 : decode cX3_isAhead 95 = .ok (.invokevirtual 62, 3) := by decide +kernel
theorem dX3_isAhead_98 : decode cX3_isAhead 98 = .ok (.istore 5, 2) := by decide +kernel
theorem dX3_isAhead_100 : decode cX3_isAhead 100 = .ok (.aload_n 0, 1) := by decide +kernel
theorem dX3_isAhead_101 : decode cX3_isAhead 101 = .ok (.iload 6, 2) := by decide +kernel
theorem dX3_isAhead_103 : decode cX3_isAhead 103 = .ok (.invokevirtual 62, 3) := by decide +kernel
theorem dX3_isAhead_106 : decode cX3_isAhead 106 = .ok (.istore 6, 2) := by decide +kernel
theorem dX3_isAhead_108 : decode cX3_isAhead 108 = .ok (.iinc 7 1, 3) := by decide +kernel
theorem dX3_isAhead_111 : decode cX3_isAhead 111 = .ok (.goto (-40), 3) := by decide +kernel
theorem dX3_isAhead_114 : decode cX3_isAhead 114 = .ok (.aload_n 0, 1) := by decide +kernel
theorem dX3_isAhead_115 : decode cX3_isAhead 115 = .ok (.iload 5, 2) := by decide +kernel
theorem dX3_isAhead_117 : decode cX3_isAhead 117 = .ok (.invokevirtual 45, 3) := by decide +kernel
theorem dX3_isAhead_120 : decode cX3_isAhead 120 = .ok (.aload_n 0, 1) := by decide +kernel
theorem dX3_isAhead_121 : decode cX3_isAhead 121 = .ok (.iload 6, 2) := by decide +kernel
theorem dX3_isAhead_123 : decode cX3_isAhead 123 = .ok (.invokevirtual 45, 3) := by decide +kernel
theorem dX3_isAhead_126 : decode cX3_isAhead 126 = .ok (.if_icmp .eq 24, 3) := by decide +kernel
theorem dX3_isAhead_129 : decode cX3_isAhead 129 = .ok (.aload_n 0, 1) := by decide +kernel
theorem dX3_isAhead_130 : decode cX3_isAhead 130 = .ok (.iload 5, 2) := by decide +kernel
theorem dX3_isAhead_132 : decode cX3_isAhead 132 = .ok (.invokevirtual 45, 3) := by decide +kernel
theorem dX3_isAhead_135 : decode cX3_isAhead 135 = .ok (.aload_n 0, 1) := by decide +kernel
theorem dX3_isAhead_136 : decode cX3_isAhead 136 = .ok (.iload 6, 2) := by decide +kernel
theorem dX3_isAhead_138 : decode cX3_isAhead 138 = .ok (.invokevirtual 45, 3) := by decide +kernel
theorem dX3_isAhead_141 : decode cX3_isAhead 141 = .ok (.if_icmp .ge 7, 3) := by decide +kernel
theorem dX3_isAhead_144 : decode cX3_isAhead 144 = .ok (.iconst 1, 1) := by decide +kernel
theorem dX3_isAhead_145 : decode cX3_isAhead 145 = .ok (.goto 4, 3) := by decide +kernel
theorem dX3_isAhead_148 : decode cX3_isAhead 148 = .ok (.iconst 0, 1) := by decide +kernel
theorem dX3_isAhead_149 : decode cX3_isAhead 149 = .ok (.ireturn, 1) := by decide +kernel
theorem dX3_isAhead_150 : decode cX3_isAhead 150 = .ok (.iload 5, 2) := by decide +kernel
theorem dX3_isAhead_152 : decode cX3_isAhead 152 = .ok (.invokestatic 54, 3) := by decide +kernel
theorem dX3_isAhead_155 : decode cX3_isAhead 155 = .ok (.ifCond .eq 32, 3) := by decide +kernel
theorem dX3_isAhead_158 : decode cX3_isAhead 158 = .ok (.iload 6, 2) := by decide +kernel
theorem dX3_isAhead_160 : decode cX3_isAhead 160 = .ok (.invokestatic 54, 3) := by decide +kernel
theorem dX3_isAhead_163 : decode cX3_isAhead 163 = .ok (.ifCond .eq 24, 3) := by decide +kernel
theorem dX3_isAhead_166 : decode cX3_isAhead 166 = .ok (.aload_n 0, 1) := by decide +kernel
theorem dX3_isAhead_167 : decode cX3_isAhead 167 = .ok (.getfield 18, 3) := by decide +kernel
theorem dX3_isAhead_170 : decode cX3_isAhead 170 = .ok (.iload 5, 2) := by decide +kernel
theorem dX3_isAhead_172 : decode cX3_isAhead 172 = .ok (.iaload, 1) := by decide +kernel
theorem dX3_isAhead_173 : decode cX3_isAhead 173 = .ok (.aload_n 0, 1) := by decide +kernel
theorem dX3_isAhead_174 : decode cX3_isAhead 174 = .ok (.getfield 18, 3) := by decide +kernel
theorem dX3_isAhead_177 : decode cX3_isAhead 177 = .ok (.iload 6, 2) := by decide +kernel
theorem dX3_isAhead_179 : decode cX3_isAhead 179 = .ok (.iaload, 1) := by decide +kernel
theorem dX3_isAhead_180 : decode cX3_isAhead 180 = .ok (.if_icmp .ge 7, 3) := by decide +kernel
theorem dX3_isAhead_183 : decode cX3_isAhead 183 = .ok (.iconst 1, 1) := by decide +kernel
theorem dX3_isAhead_184 : decode cX3_isAhead 184 = .ok (.goto 4, 3) := by decide +kernel
theorem dX3_isAhead_187 : decode cX3_isAhead 187 = .ok (.iconst 0, 1) := by decide +kernel
theorem dX3_isAhead_188 : decode cX3_isAhead 188 = .ok (.ireturn, 1) := by decide +kernel
theorem dX3_climb_0 : decode cX3_climb 0 = .ok (.iload_n 1, 1) := by decide +kernel
theorem dX3_climb_1 : decode cX3_climb 1 = .ok (.istore_n 3, 1) := by decide +kernel
theorem dX3_climb_2 : decode cX3_climb 2 = .ok (.iconst 0, 1) := by decide +kernel
theorem dX3_climb_3 : decode cX3_climb 3 = .ok (.istore 4, 2) := by decide +kernel
theorem dX3_climb_5 : decode cX3_climb 5 = .ok (.iload 4, 2) := by decide +kernel
theorem dX3_climb_7 : decode cX3_climb 7 = .ok (.iload_n 2, 1) := by decide +kernel
theorem dX3_climb_8 : decode cX3_climb 8 = .ok (.if_icmp .ge 15, 3) := by decide +kernel
theorem dX3_climb_11 : decode cX3_climb 11 = .ok (.aload_n 0, 1) := by decide +kernel
theorem dX3_climb_12 : decode cX3_climb 12 = .ok (.iload_n 3, 1) := by decide +kernel
theorem dX3_climb_13 : decode cX3_climb 13 = .ok (.invokevirtual 62, 3) := by decide +kernel
theorem dX3_climb_16 : decode cX3_climb 16 = .ok (.istore_n 3, 1) := by decide +kernel
theorem dX3_climb_17 : decode cX3_climb 17 = .ok (.iinc 4 1, 3) := by decide +kernel
theorem dX3_climb_20 : decode cX3_climb 20 = .ok (.goto (-15), 3) := by decide +kernel
theorem dX3_climb_23 : decode cX3_climb 23 = .ok (.iload_n 3, 1) := by decide +kernel
theorem dX3_climb_24 : decode cX3_climb 24 = .ok (.ireturn, 1) := by decide +kernel
theorem dX3_spareAll_0 : decode cX3_spareAll 0 = .ok (.iconst 0, 1) := by decide +kernel
theorem dX3_spareAll_1 : decode cX3_spareAll 1 = .ok (.istore_n 1, 1) := by decide +kernel
theorem dX3_spareAll_2 : decode cX3_spareAll 2 = .ok (.iload_n 1, 1) := by decide +kernel
theorem dX3_spareAll_3 : decode cX3_spareAll 3 = .ok (.bipush 60, 2) := by decide +kernel
theorem dX3_spareAll_5 : decode cX3_spareAll 5 = .ok (.if_icmp .ge 16, 3) := by decide +kernel
theorem dX3_spareAll_8 : decode cX3_spareAll 8 = .ok (.aload_n 0, 1) := by decide +kernel
theorem dX3_spareAll_9 : decode cX3_spareAll 9 = .ok (.getfield 33, 3) := by decide +kernel
theorem dX3_spareAll_12 : decode cX3_spareAll 12 = .ok (.iload_n 1, 1) := by decide +kernel
theorem dX3_spareAll_13 : decode cX3_spareAll 13 = .ok (.iconst 0, 1) := by decide +kernel
theorem dX3_spareAll_14 : decode cX3_spareAll 14 = .ok (.bastore, 1) := by decide +kernel
theorem dX3_spareAll_15 : decode cX3_spareAll 15 = .ok (.iinc 1 1, 3) := by decide +kernel
theorem dX3_spareAll_18 : decode cX3_spareAll 18 = .ok (.goto (-16), 3) := by decide +kernel
theorem dX3_spareAll_21 : decode cX3_spareAll 21 = .ok (.return_, 1) := by decide +kernel
theorem dX3_doom_0 : decode cX3_doom 0 = .ok (.iconst 0, 1) := by decide +kernel
theorem dX3_doom_1 : decode cX3_doom 1 = .ok (.istore_n 2, 1) := by decide +kernel
theorem dX3_doom_2 : decode cX3_doom 2 = .ok (.iload_n 2, 1) := by decide +kernel
theorem dX3_doom_3 : decode cX3_doom 3 = .ok (.bipush 60, 2) := by decide +kernel
theorem dX3_doom_5 : decode cX3_doom 5 = .ok (.if_icmp .ge 40, 3) := by decide +kernel
theorem dX3_doom_8 : decode cX3_doom 8 = .ok (.aload_n 0, 1) := by decide +kernel
theorem dX3_doom_9 : decode cX3_doom 9 = .ok (.getfield 9, 3) := by decide +kernel
theorem dX3_doom_12 : decode cX3_doom 12 = .ok (.iload_n 2, 1) := by decide +kernel
theorem dX3_doom_13 : decode cX3_doom 13 = .ok (.iaload, 1) := by decide +kernel
theorem dX3_doom_14 : decode cX3_doom 14 = .ok (.iconst (-1), 1) := by decide +kernel
theorem dX3_doom_15 : decode cX3_doom 15 = .ok (.if_icmp .eq 24, 3) := by decide +kernel
theorem dX3_doom_18 : decode cX3_doom 18 = .ok (.iload_n 2, 1) := by decide +kernel
theorem dX3_doom_19 : decode cX3_doom 19 = .ok (.iload_n 1, 1) := by decide +kernel
theorem dX3_doom_20 : decode cX3_doom 20 = .ok (.if_icmp .eq 12, 3) := by decide +kernel
theorem dX3_doom_23 : decode cX3_doom 23 = .ok (.aload_n 0, 1) := by decide +kernel
theorem dX3_doom_24 : decode cX3_doom 24 = .ok (.iload_n 2, 1) := by decide +kernel
theorem dX3_doom_25 : decode cX3_doom 25 = .ok (.iload_n 1, 1) := by decide +kernel
theorem dX3_doom_26 : decode cX3_doom 26 = .ok (.invokevirtual 121, 3) := by decide +kernel
theorem dX3_doom_29 : decode cX3_doom 29 = .ok (.ifCond .eq 10, 3) := by decide +kernel
theorem dX3_doom_32 : decode cX3_doom 32 = .ok (.aload_n 0, 1) := by decide +kernel
theorem dX3_doom_33 : decode cX3_doom 33 = .ok (.getfield 33, 3) := by decide +kernel
theorem dX3_doom_36 : decode cX3_doom 36 = .ok (.iload_n 2, 1) := by decide +kernel
theorem dX3_doom_37 : decode cX3_doom 37 = .ok (.iconst 1, 1) := by decide +kernel
theorem dX3_doom_38 : decode cX3_doom 38 = .ok (.bastore, 1) := by decide +kernel
theorem dX3_doom_39 : decode cX3_doom 39 = .ok (.iinc 2 1, 3) := by decide +kernel
theorem dX3_doom_42 : decode cX3_doom 42 = .ok (.goto (-40), 3) := by decide +kernel
theorem dX3_doom_45 : decode cX3_doom 45 = .ok (.return_, 1) := by decide +kernel
theorem dX3_isDoomed_0 : decode cX3_isDoomed 0 = .ok (.iload_n 1, 1) := by decide +kernel
theorem dX3_isDoomed_1 : decode cX3_isDoomed 1 = .ok (.invokestatic 54, 3) := by decide +kernel
theorem dX3_isDoomed_4 : decode cX3_isDoomed 4 = .ok (.ifCond .eq 16, 3) := by decide +kernel
theorem dX3_isDoomed_7 : decode cX3_isDoomed 7 = .ok (.aload_n 0, 1) := by decide +kernel
theorem dX3_isDoomed_8 : decode cX3_isDoomed 8 = .ok (.getfield 33, 3) := by decide +kernel
theorem dX3_isDoomed_11 : decode cX3_isDoomed 11 = .ok (.iload_n 1, 1) := by decide +kernel
theorem dX3_isDoomed_12 : decode cX3_isDoomed 12 = .ok (.baload, 1) := by decide +kernel
theorem dX3_isDoomed_13 : decode cX3_isDoomed 13 = .ok (.ifCond .eq 7, 3) := by decide +kernel
theorem dX3_isDoomed_16 : decode cX3_isDoomed 16 = .ok (.iconst 1, 1) := by decide +kernel
theorem dX3_isDoomed_17 : decode cX3_isDoomed 17 = .ok (.goto 4, 3) := by decide +kernel
theorem dX3_isDoomed_20 : decode cX3_isDoomed 20 = .ok (.iconst 0, 1) := by decide +kernel
theorem dX3_isDoomed_21 : decode cX3_isDoomed 21 = .ok (.ireturn, 1) := by decide +kernel
theorem dX3_sparedBehind_0 : decode cX3_sparedBehind 0 = .ok (.aload_n 0, 1) := by decide +kernel
theorem dX3_sparedBehind_1 : decode cX3_sparedBehind 1 = .ok (.iload_n 1, 1) := by decide +kernel
theorem dX3_sparedBehind_2 : decode cX3_sparedBehind 2 = .ok (.invokevirtual 124, 3) := by decide +kernel
theorem dX3_sparedBehind_5 : decode cX3_sparedBehind 5 = .ok (.istore_n 2, 1) := by decide +kernel
theorem dX3_sparedBehind_6 : decode cX3_sparedBehind 6 = .ok (.aload_n 0, 1) := by decide +kernel
theorem dX3_sparedBehind_7 : decode cX3_sparedBehind 7 = .ok (.iload_n 1, 1) := by decide +kernel
theorem dX3_sparedBehind_8 : decode cX3_sparedBehind 8 = .ok (.invokevirtual 75, 3) := by decide +kernel
theorem dX3_sparedBehind_11 : decode cX3_sparedBehind 11 = .ok (.iconst 1, 1) := by decide +kernel
theorem dX3_sparedBehind_12 : decode cX3_sparedBehind 12 = .ok (.iadd, 1) := by decide +kernel
theorem dX3_sparedBehind_13 : decode cX3_sparedBehind 13 = .ok (.istore_n 3, 1) := by decide +kernel
theorem dX3_sparedBehind_14 : decode cX3_sparedBehind 14 = .ok (.iload_n 3, 1) := by decide +kernel
theorem dX3_sparedBehind_15 : decode cX3_sparedBehind 15 = .ok (.aload_n 0, 1) := by decide +kernel
theorem dX3_sparedBehind_16 : decode cX3_sparedBehind 16 = .ok (.iload_n 2, 1) := by decide +kernel
theorem dX3_sparedBehind_17 : decode cX3_sparedBehind 17 = .ok (.invokevirtual 93, 3) := by decide +kernel
theorem dX3_sparedBehind_20 : decode cX3_sparedBehind 20 = .ok (.if_icmp .ge 29, 3) := by decide +kernel
theorem dX3_sparedBehind_23 : decode cX3_sparedBehind 23 = .ok (.aload_n 0, 1) := by decide +kernel
theorem dX3_sparedBehind_24 : decode cX3_sparedBehind 24 = .ok (.aload_n 0, 1) := by decide +kernel
theorem dX3_sparedBehind_25 : decode cX3_sparedBehind 25 = .ok (.iload_n 2, 1) := by decide +kernel
theorem dX3_sparedBehind_26 : decode cX3_sparedBehind 26 = .ok (.iload_n 3, 1) := by decide +kernel
theorem dX3_sparedBehind_27 : decode cX3_sparedBehind 27 = .ok (.invokevirtual 96, 3) := by decide +kernel
theorem dX3_sparedBehind_30 : decode cX3_sparedBehind 30 = .ok (.invokevirtual 125, 3) := by decide +kernel
theorem dX3_sparedBehind_33 : decode cX3_sparedBehind 33 = .ok (.ifCond .ne 10, 3) := by decide +kernel
theorem dX3_sparedBehind_36 : decode cX3_sparedBehind 36 = .ok (.aload_n 0, 1) := by decide +kernel
theorem dX3_sparedBehind_37 : decode cX3_sparedBehind 37 = .ok (.iload_n 2, 1) := by decide +kernel
theorem dX3_sparedBehind_38 : decode cX3_sparedBehind 38 = .ok (.iload_n 3, 1) := by decide +kernel
theorem dX3_sparedBehind_39 : decode cX3_sparedBehind 39 = .ok (.invokevirtual 96, 3) := by decide +kernel
theorem dX3_sparedBehind_42 : decode cX3_sparedBehind 42 = .ok (.ireturn, 1) := by decide +kernel
theorem dX3_sparedBehind_43 : decode cX3_sparedBehind 43 = .ok (.iinc 3 1, 3) := by decide +kernel
theorem dX3_sparedBehind_46 : decode cX3_sparedBehind 46 = .ok (.goto (-32), 3) := by decide +kernel
theorem dX3_sparedBehind_49 : decode cX3_sparedBehind 49 = .ok (.iconst (-1), 1) := by decide +kernel
theorem dX3_sparedBehind_50 : decode cX3_sparedBehind 50 = .ok (.ireturn, 1) := by decide +kernel
theorem dX3_removeDoomed_0 : decode cX3_removeDoomed 0 = .ok (.iconst 0, 1) := by decide +kernel
theorem dX3_removeDoomed_1 : decode cX3_removeDoomed 1 = .ok (.istore_n 1, 1) := by decide +kernel
theorem dX3_removeDoomed_2 : decode cX3_removeDoomed 2 = .ok (.iload_n 1, 1) := by decide +kernel
theorem dX3_removeDoomed_3 : decode cX3_removeDoomed 3 = .ok (.iconst 3, 1) := by decide +kernel
theorem dX3_removeDoomed_4 : decode cX3_removeDoomed 4 = .ok (.if_icmp .ge 90, 3) := by decide +kernel
theorem dX3_removeDoomed_7 : decode cX3_removeDoomed 7 = .ok (.iconst 0, 1) := by decide +kernel
theorem dX3_removeDoomed_8 : decode cX3_removeDoomed 8 = .ok (.istore_n 2, 1) := by decide +kernel
theorem dX3_removeDoomed_9 : decode cX3_removeDoomed 9 = .ok (.iconst 0, 1) := by decide +kernel
theorem dX3_removeDoomed_10 : decode cX3_removeDoomed 10 = .ok (.istore_n 3, 1) := by decide +kernel
theorem dX3_removeDoomed_11 : decode cX3_removeDoomed 11 = .ok (.iload_n 3, 1) := by decide +kernel
theorem dX3_removeDoomed_12 : decode cX3_removeDoomed 12 = .ok (.aload_n 0, 1) := by decide +kernel
theorem dX3_removeDoomed_13 : decode cX3_removeDoomed 13 = .ok (.iload_n 1, 1) := by decide +kernel
theorem dX3_removeDoomed_14 : decode cX3_removeDoomed 14 = .ok (.invokevirtual 93, 3) := by decide +kernel
theorem dX3_removeDoomed_17 : decode cX3_removeDoomed 17 = .ok (.if_icmp .ge 42, 3) := by decide +kernel
theorem dX3_removeDoomed_20 : decode cX3_removeDoomed 20 = .ok (.aload_n 0, 1) := by decide +kernel
theorem dX3_removeDoomed_21 : decode cX3_removeDoomed 21 = .ok (.iload_n 1, 1) := by decide +kernel
theorem dX3_removeDoomed_22 : decode cX3_removeDoomed 22 = .ok (.iload_n 3, 1) := by decide +kernel
theorem dX3_removeDoomed_23 : decode cX3_removeDoomed 23 = .ok (.invokevirtual 96, 3) := by decide +kernel
theorem dX3_removeDoomed_26 : decode cX3_removeDoomed 26 = .ok (.istore 4, 2) := by decide +kernel
theorem dX3_removeDoomed_28 : decode cX3_removeDoomed 28 = .ok (.aload_n 0, 1) := by decide +kernel
theorem dX3_removeDoomed_29 : decode cX3_removeDoomed 29 = .ok (.iload 4, 2) := by decide +kernel
theorem dX3_removeDoomed_31 : decode cX3_removeDoomed 31 = .ok (.invokevirtual 125, 3) := by decide +kernel
theorem dX3_removeDoomed_34 : decode cX3_removeDoomed 34 = .ok (.ifCond .ne 19, 3) := by decide +kernel
theorem dX3_removeDoomed_37 : decode cX3_removeDoomed 37 = .ok (.aload_n 0, 1) := by decide +kernel
theorem dX3_removeDoomed_38 : decode cX3_removeDoomed 38 = .ok (.getfield 24, 3) := by decide +kernel
theorem dX3_removeDoomed_41 : decode cX3_removeDoomed 41 = .ok (.iload_n 1, 1) := by decide +kernel
theorem dX3_removeDoomed_42 : decode cX3_removeDoomed 42 = .ok (.bipush 60, 2) := by decide +kernel
theorem dX3_removeDoomed_44 : decode cX3_removeDoomed 44 = .ok (.imul, 1) := by decide +kernel
theorem dX3_removeDoomed_45 : decode cX3_removeDoomed 45 = .ok (.iload_n 2, 1) := by decide +kernel
theorem dX3_removeDoomed_46 : decode cX3_removeDoomed 46 = .ok (.iadd, 1) := by decide +kernel
theorem dX3_removeDoomed_47 : decode cX3_removeDoomed 47 = .ok (.iload 4, 2) := by decide +kernel
theorem dX3_removeDoomed_49 : decode cX3_removeDoomed 49 = .ok (.iastore, 1) := by decide +kernel
theorem dX3_removeDoomed_50 : decode cX3_removeDoomed 50 = .ok (.iinc 2 1, 3) := by decide +kernel
theorem dX3_removeDoomed_53 : decode cX3_removeDoomed 53 = .ok (.iinc 3 1, 3) := by decide +kernel
theorem dX3_removeDoomed_56 : decode cX3_removeDoomed 56 = .ok (.goto (-45), 3) := by decide +kernel
theorem dX3_removeDoomed_59 : decode cX3_removeDoomed 59 = .ok (.aload_n 0, 1) := by decide +kernel
theorem dX3_removeDoomed_60 : decode cX3_removeDoomed 60 = .ok (.dup, 1) := by decide +kernel
theorem dX3_removeDoomed_61 : decode cX3_removeDoomed 61 = .ok (.getfield 37, 3) := by decide +kernel
theorem dX3_removeDoomed_64 : decode cX3_removeDoomed 64 = .ok (.aload_n 0, 1) := by decide +kernel
theorem dX3_removeDoomed_65 : decode cX3_removeDoomed 65 = .ok (.getfield 27, 3) := by decide +kernel
theorem dX3_removeDoomed_68 : decode cX3_removeDoomed 68 = .ok (.iload_n 1, 1) := by decide +kernel
theorem dX3_removeDoomed_69 : decode cX3_removeDoomed 69 = .ok (.iaload, 1) := by decide +kernel
theorem dX3_removeDoomed_70 : decode cX3_removeDoomed 70 = .ok (.iload_n 2, 1) := by decide +kernel
theorem dX3_removeDoomed_71 : decode cX3_removeDoomed 71 = .ok (.isub, 1) := by decide +kernel
theorem dX3_removeDoomed_72 : decode cX3_removeDoomed 72 = .ok (.isub, 1) := by decide +kernel
theorem dX3_removeDoomed_73 : decode cX3_removeDoomed 73 = .ok (.putfield 37, 3) := by decide +kernel
theorem dX3_removeDoomed_76 : decode cX3_removeDoomed 76 = .ok (.aload_n 0, 1) := by decide +kernel
theorem dX3_removeDoomed_77 : decode cX3_removeDoomed 77 = .ok (.getfield 27, 3) := by decide +kernel
theorem dX3_removeDoomed_80 : decode cX3_removeDoomed 80 = .ok (.iload_n 1, 1) := by decide +kernel
theorem dX3_removeDoomed_81 : decode cX3_removeDoomed 81 = .ok (.iload_n 2, 1) := by decide +kernel
theorem dX3_removeDoomed_82 : decode cX3_removeDoomed 82 = .ok (.iastore, 1) := by decide +kernel
theorem dX3_removeDoomed_83 : decode cX3_removeDoomed 83 = .ok (.aload_n 0, 1) := by decide +kernel
theorem dX3_removeDoomed_84 : decode cX3_removeDoomed 84 = .ok (.iload_n 1, 1) := by decide +kernel
theorem dX3_removeDoomed_85 : decode cX3_removeDoomed 85 = .ok (.invokevirtual 111, 3) := by decide +kernel
theorem dX3_removeDoomed_88 : decode cX3_removeDoomed 88 = .ok (.iinc 1 1, 3) := by decide +kernel
theorem dX3_removeDoomed_91 : decode cX3_removeDoomed 91 = .ok (.goto (-89), 3) := by decide +kernel
theorem dX3_removeDoomed_94 : decode cX3_removeDoomed 94 = .ok (.iconst 0, 1) := by decide +kernel
theorem dX3_removeDoomed_95 : decode cX3_removeDoomed 95 = .ok (.istore_n 1, 1) := by decide +kernel
theorem dX3_removeDoomed_96 : decode cX3_removeDoomed 96 = .ok (.iload_n 1, 1) := by decide +kernel
theorem dX3_removeDoomed_97 : decode cX3_removeDoomed 97 = .ok (.bipush 60, 2) := by decide +kernel
theorem dX3_removeDoomed_99 : decode cX3_removeDoomed 99 = .ok (.if_icmp .ge 39, 3) := by decide +kernel
theorem dX3_removeDoomed_102 : decode cX3_removeDoomed 102 = .ok (.aload_n 0, 1) := by decide +kernel
theorem dX3_removeDoomed_103 : decode cX3_removeDoomed 103 = .ok (.getfield 33, 3) := by decide +kernel
theorem dX3_removeDoomed_106 : decode cX3_removeDoomed 106 = .ok (.iload_n 1, 1) := by decide +kernel
theorem dX3_removeDoomed_107 : decode cX3_removeDoomed 107 = .ok (.baload, 1) := by decide +kernel
theorem dX3_removeDoomed_108 : decode cX3_removeDoomed 108 = .ok (.ifCond .eq 24, 3) := by decide +kernel
theorem dX3_removeDoomed_111 : decode cX3_removeDoomed 111 = .ok (.aload_n 0, 1) := by decide +kernel
theorem dX3_removeDoomed_112 : decode cX3_removeDoomed 112 = .ok (.getfield 9, 3) := by decide +kernel
theorem dX3_removeDoomed_115 : decode cX3_removeDoomed 115 = .ok (.iload_n 1, 1) := by decide +kernel
theorem dX3_removeDoomed_116 : decode cX3_removeDoomed 116 = .ok (.iconst (-1), 1) := by decide +kernel
theorem dX3_removeDoomed_117 : decode cX3_removeDoomed 117 = .ok (.iastore, 1) := by decide +kernel
theorem dX3_removeDoomed_118 : decode cX3_removeDoomed 118 = .ok (.aload_n 0, 1) := by decide +kernel
theorem dX3_removeDoomed_119 : decode cX3_removeDoomed 119 = .ok (.getfield 15, 3) := by decide +kernel
theorem dX3_removeDoomed_122 : decode cX3_removeDoomed 122 = .ok (.iload_n 1, 1) := by decide +kernel
theorem dX3_removeDoomed_123 : decode cX3_removeDoomed 123 = .ok (.iconst (-1), 1) := by decide +kernel
theorem dX3_removeDoomed_124 : decode cX3_removeDoomed 124 = .ok (.iastore, 1) := by decide +kernel
theorem dX3_removeDoomed_125 : decode cX3_removeDoomed 125 = .ok (.aload_n 0, 1) := by decide +kernel
theorem dX3_removeDoomed_126 : decode cX3_removeDoomed 126 = .ok (.getfield 30, 3) := by decide +kernel
theorem dX3_removeDoomed_129 : decode cX3_removeDoomed 129 = .ok (.iload_n 1, 1) := by decide +kernel
theorem dX3_removeDoomed_130 : decode cX3_removeDoomed 130 = .ok (.iconst (-1), 1) := by decide +kernel
theorem dX3_removeDoomed_131 : decode cX3_removeDoomed 131 = .ok (.iastore, 1) := by decide +kernel
theorem dX3_removeDoomed_132 : decode cX3_removeDoomed 132 = .ok (.iinc 1 1, 3) := by decide +kernel
theorem dX3_removeDoomed_135 : decode cX3_removeDoomed 135 = .ok (.goto (-39), 3) := by decide +kernel
theorem dX3_removeDoomed_138 : decode cX3_removeDoomed 138 = .ok (.aload_n 0, 1) := by decide +kernel
theorem dX3_removeDoomed_139 : decode cX3_removeDoomed 139 = .ok (.invokevirtual 128, 3) := by decide +kernel
theorem dX3_removeDoomed_142 : decode cX3_removeDoomed 142 = .ok (.return_, 1) := by decide +kernel
theorem dX4_init_0 : decode cX4_init 0 = .ok (.aload_n 0, 1) := by decide +kernel
theorem dX4_init_1 : decode cX4_init 1 = .ok (.invokespecial 3, 3) := by decide +kernel
theorem dX4_init_4 : decode cX4_init 4 = .ok (.aload_n 0, 1) := by decide +kernel
theorem dX4_init_5 : decode cX4_init 5 = .ok (.iconst 0, 1) := by decide +kernel
theorem dX4_init_6 : decode cX4_init 6 = .ok (.putfield 9, 3) := by decide +kernel
theorem dX4_init_9 : decode cX4_init 9 = .ok (.aload_n 0, 1) := by decide +kernel
theorem dX4_init_10 : decode cX4_init 10 = .ok (.iconst 0, 1) := by decide +kernel
theorem dX4_init_11 : decode cX4_init 11 = .ok (.putfield 15, 3) := by decide +kernel
theorem dX4_init_14 : decode cX4_init 14 = .ok (.aload_n 0, 1) := by decide +kernel
theorem dX4_init_15 : decode cX4_init 15 = .ok (.iconst (-1), 1) := by decide +kernel
theorem dX4_init_16 : decode cX4_init 16 = .ok (.putfield 18, 3) := by decide +kernel
theorem dX4_init_19 : decode cX4_init 19 = .ok (.aload_n 0, 1) := by decide +kernel
theorem dX4_init_20 : decode cX4_init 20 = .ok (.iconst 0, 1) := by decide +kernel
theorem dX4_init_21 : decode cX4_init 21 = .ok (.putfield 21, 3) := by decide +kernel
theorem dX4_init_24 : decode cX4_init 24 = .ok (.aload_n 0, 1) := by decide +kernel
theorem dX4_init_25 : decode cX4_init 25 = .ok (.iconst 0, 1) := by decide +kernel
theorem dX4_init_26 : decode cX4_init 26 = .ok (.putfield 25, 3) := by decide +kernel
theorem dX4_init_29 : decode cX4_init 29 = .ok (.aload_n 0, 1) := by decide +kernel
theorem dX4_init_30 : decode cX4_init 30 = .ok (.iconst (-1), 1) := by decide +kernel
theorem dX4_init_31 : decode cX4_init 31 = .ok (.putfield 28, 3) := by decide +kernel
theorem dX4_init_34 : decode cX4_init 34 = .ok (.aload_n 0, 1) := by decide +kernel
theorem dX4_init_35 : decode cX4_init 35 = .ok (.iconst 0, 1) := by decide +kernel
theorem dX4_init_36 : decode cX4_init 36 = .ok (.putfield 31, 3) := by decide +kernel
theorem dX4_init_39 : decode cX4_init 39 = .ok (.aload_n 0, 1) := by decide +kernel
theorem dX4_init_40 : decode cX4_init 40 = .ok (.iconst 4, 1) := by decide +kernel
theorem dX4_init_41 : decode cX4_init 41 = .ok (.newarray .int, 2) := by decide +kernel
theorem dX4_init_43 : decode cX4_init 43 = .ok (.putfield 34, 3) := by decide +kernel
theorem dX4_init_46 : decode cX4_init 46 = .ok (.aload_n 0, 1) := by decide +kernel
theorem dX4_init_47 : decode cX4_init 47 = .ok (.iconst 4, 1) := by decide +kernel
theorem dX4_init_48 : decode cX4_init 48 = .ok (.newarray .boolean, 2) := by decide +kernel
theorem dX4_init_50 : decode cX4_init 50 = .ok (.putfield 38, 3) := by decide +kernel
theorem dX4_init_53 : decode cX4_init 53 = .ok (.return_, 1) := by decide +kernel
theorem dX4_reopen_0 : decode cX4_reopen 0 = .ok (.aload_n 0, 1) := by decide +kernel
theorem dX4_reopen_1 : decode cX4_reopen 1 = .ok (.iload_n 1, 1) := by decide +kernel
theorem dX4_reopen_2 : decode cX4_reopen 2 = .ok (.putfield 9, 3) := by decide +kernel
theorem dX4_reopen_5 : decode cX4_reopen 5 = .ok (.aload_n 0, 1) := by decide +kernel
theorem dX4_reopen_6 : decode cX4_reopen 6 = .ok (.iload_n 2, 1) := by decide +kernel
theorem dX4_reopen_7 : decode cX4_reopen 7 = .ok (.putfield 15, 3) := by decide +kernel
theorem dX4_reopen_10 : decode cX4_reopen 10 = .ok (.aload_n 0, 1) := by decide +kernel
theorem dX4_reopen_11 : decode cX4_reopen 11 = .ok (.iconst (-1), 1) := by decide +kernel
theorem dX4_reopen_12 : decode cX4_reopen 12 = .ok (.putfield 28, 3) := by decide +kernel
theorem dX4_reopen_15 : decode cX4_reopen 15 = .ok (.aload_n 0, 1) := by decide +kernel
theorem dX4_reopen_16 : decode cX4_reopen 16 = .ok (.iconst 0, 1) := by decide +kernel
theorem dX4_reopen_17 : decode cX4_reopen 17 = .ok (.putfield 31, 3) := by decide +kernel
theorem dX4_reopen_20 : decode cX4_reopen 20 = .ok (.aload_n 0, 1) := by decide +kernel
theorem dX4_reopen_21 : decode cX4_reopen 21 = .ok (.invokevirtual 42, 3) := by decide +kernel
theorem dX4_reopen_24 : decode cX4_reopen 24 = .ok (.return_, 1) := by decide +kernel
theorem dX4_database_0 : decode cX4_database 0 = .ok (.aload_n 0, 1) := by decide +kernel
theorem dX4_database_1 : decode cX4_database 1 = .ok (.getfield 9, 3) := by decide +kernel
theorem dX4_database_4 : decode cX4_database 4 = .ok (.ireturn, 1) := by decide +kernel
theorem dX4_sees_0 : decode cX4_sees 0 = .ok (.aload_n 1, 1) := by decide +kernel
theorem dX4_sees_1 : decode cX4_sees 1 = .ok (.iload_n 2, 1) := by decide +kernel
theorem dX4_sees_2 : decode cX4_sees 2 = .ok (.invokevirtual 45, 3) := by decide +kernel
theorem dX4_sees_5 : decode cX4_sees 5 = .ok (.aload_n 0, 1) := by decide +kernel
theorem dX4_sees_6 : decode cX4_sees 6 = .ok (.getfield 9, 3) := by decide +kernel
theorem dX4_sees_9 : decode cX4_sees 9 = .ok (.if_icmp .eq 5, 3) := by decide +kernel
theorem dX4_sees_12 : decode cX4_sees 12 = .ok (.iconst 0, 1) := by decide +kernel
theorem dX4_sees_13 : decode cX4_sees 13 = .ok (.ireturn, 1) := by decide +kernel
theorem dX4_sees_14 : decode cX4_sees 14 = .ok (.iload_n 2, 1) := by decide +kernel
theorem dX4_sees_15 : decode cX4_sees 15 = .ok (.istore_n 3, 1) := by decide +kernel
theorem dX4_sees_16 : decode cX4_sees 16 = .ok (.iconst 0, 1) := by decide +kernel
theorem dX4_sees_17 : decode cX4_sees 17 = .ok (.istore 4, 2) := by decide +kernel
theorem dX4_sees_19 : decode cX4_sees 19 = .ok (.iload 4, 2) := by decide +kernel
theorem dX4_sees_21 : decode cX4_sees 21 = .ok (.iconst 4, 1) := by decide +kernel
theorem dX4_sees_22 : decode cX4_sees 22 = .ok (.if_icmp .ge 33, 3) := by decide +kernel
theorem dX4_sees_25 : decode cX4_sees 25 = .ok (.iload_n 3, 1) := by decide +kernel
theorem dX4_sees_26 : decode cX4_sees 26 = .ok (.iconst (-1), 1) := by decide +kernel
theorem dX4_sees_27 : decode cX4_sees 27 = .ok (.if_icmp .eq 28, 3) := by decide +kernel
theorem dX4_sees_30 : decode cX4_sees 30 = .ok (.aload_n 0, 1) := by decide +kernel
theorem dX4_sees_31 : decode cX4_sees 31 = .ok (.getfield 15, 3) := by decide +kernel
theorem dX4_sees_34 : decode cX4_sees 34 = .ok (.iload_n 3, 1) := by decide +kernel
theorem dX4_sees_35 : decode cX4_sees 35 = .ok (.ishr, 1) := by decide +kernel
theorem dX4_sees_36 : decode cX4_sees 36 = .ok (.iconst 1, 1) := by decide +kernel
theorem dX4_sees_37 : decode cX4_sees 37 = .ok (.iand, 1) := by decide +kernel
theorem dX4_sees_38 : decode cX4_sees 38 = .ok (.ifCond .ne 5, 3) := by decide +kernel
theorem dX4_sees_41 : decode cX4_sees 41 = .ok (.iconst 0, 1) := by decide +kernel
theorem dX4_sees_42 : decode cX4_sees 42 = .ok (.ireturn, 1) := by decide +kernel
theorem dX4_sees_43 : decode cX4_sees 43 = .ok (.aload_n 1, 1) := by decide +kernel
theorem dX4_sees_44 : decode cX4_sees 44 = .ok (.iload_n 3, 1) := by decide +kernel
theorem dX4_sees_45 : decode cX4_sees 45 = .ok (.invokevirtual 51, 3) := by decide +kernel
theorem dX4_sees_48 : decode cX4_sees 48 = .ok (.istore_n 3, 1) := by decide +kernel
theorem dX4_sees_49 : decode cX4_sees 49 = .ok (.iinc 4 1, 3) := by decide +kernel
theorem dX4_sees_52 : decode cX4_sees 52 = .ok (.goto (-33), 3) := by decide +kernel
theorem dX4_sees_55 : decode cX4_sees 55 = .ok (.iconst 1, 1) := by decide +kernel
theorem dX4_sees_56 : decode cX4_sees 56 = .ok (.ireturn, 1) := by decide +kernel
theorem dX4_mark_0 : decode cX4_mark 0 = .ok (.aload_n 0, 1) := by decide +kernel
theorem dX4_mark_1 : decode cX4_mark 1 = .ok (.getfield 18, 3) := by decide +kernel
theorem dX4_mark_4 : decode cX4_mark 4 = .ok (.ireturn, 1) := by decide +kernel
theorem dX4_segmentAt_0 : decode cX4_segmentAt 0 = .ok (.aload_n 0, 1) := by decide +kernel
theorem dX4_segmentAt_1 : decode cX4_segmentAt 1 = .ok (.getfield 21, 3) := by decide +kernel
theorem dX4_segmentAt_4 : decode cX4_segmentAt 4 = .ok (.ifCond .eq 10, 3) := by decide +kernel
theorem dX4_segmentAt_7 : decode cX4_segmentAt 7 = .ok (.aload_n 0, 1) := by decide +kernel
theorem dX4_segmentAt_8 : decode cX4_segmentAt 8 = .ok (.getfield 18, 3) := by decide +kernel
theorem dX4_segmentAt_11 : decode cX4_segmentAt 11 = .ok (.goto 4, 3) := by decide +kernel
theorem dX4_segmentAt_14 : decode cX4_segmentAt 14 = .ok (.iconst (-1), 1) := by decide +kernel
theorem dX4_segmentAt_15 : decode cX4_segmentAt 15 = .ok (.ireturn, 1) := by decide +kernel
theorem dX4_isBehindAll_0 : decode cX4_isBehindAll 0 = .ok (.aload_n 0, 1) := by decide +kernel
theorem dX4_isBehindAll_1 : decode cX4_isBehindAll 1 = .ok (.getfield 25, 3) := by decide +kernel
theorem dX4_isBehindAll_4 : decode cX4_isBehindAll 4 = .ok (.ireturn, 1) := by decide +kernel
theorem dX4_standAt_0 : decode cX4_standAt 0 = .ok (.aload_n 0, 1) := by decide +kernel
theorem dX4_standAt_1 : decode cX4_standAt 1 = .ok (.iload_n 1, 1) := by decide +kernel
theorem dX4_standAt_2 : decode cX4_standAt 2 = .ok (.putfield 18, 3) := by decide +kernel
theorem dX4_standAt_5 : decode cX4_standAt 5 = .ok (.aload_n 0, 1) := by decide +kernel
theorem dX4_standAt_6 : decode cX4_standAt 6 = .ok (.iconst 1, 1) := by decide +kernel
theorem dX4_standAt_7 : decode cX4_standAt 7 = .ok (.putfield 21, 3) := by decide +kernel
theorem dX4_standAt_10 : decode cX4_standAt 10 = .ok (.aload_n 0, 1) := by decide +kernel
theorem dX4_standAt_11 : decode cX4_standAt 11 = .ok (.iconst 0, 1) := by decide +kernel
theorem dX4_standAt_12 : decode cX4_standAt 12 = .ok (.putfield 25, 3) := by decide +kernel
theorem dX4_standAt_15 : decode cX4_standAt 15 = .ok (.return_, 1) := by decide +kernel
theorem dX4_standAheadOf_0 : decode cX4_standAheadOf 0 = .ok (.aload_n 0, 1) := by decide +kernel
theorem dX4_standAheadOf_1 : decode cX4_standAheadOf 1 = .ok (.iload_n 1, 1) := by decide +kernel
theorem dX4_standAheadOf_2 : decode cX4_standAheadOf 2 = .ok (.putfield 18, 3) := by decide +kernel
theorem dX4_standAheadOf_5 : decode cX4_standAheadOf 5 = .ok (.aload_n 0, 1) := by decide +kernel
theorem dX4_standAheadOf_6 : decode cX4_standAheadOf 6 = .ok (.iconst 0, 1) := by decide +kernel
theorem dX4_standAheadOf_7 : decode cX4_standAheadOf 7 = .ok (.putfield 21, 3) := by decide +kernel
theorem dX4_standAheadOf_10 : decode cX4_standAheadOf 10 = .ok (.aload_n 0, 1) := by decide +kernel
theorem dX4_standAheadOf_11 : decode cX4_standAheadOf 11 = .ok (.iload_n 1, 1) := by decide +kernel
theorem dX4_standAheadOf_12 : decode cX4_standAheadOf 12 = .ok (.iconst (-1), 1) := by decide +kernel
theorem dX4_standAheadOf_13 : decode cX4_standAheadOf 13 = .ok (.if_icmp .ne 7, 3) := by decide +kernel
theorem dX4_standAheadOf_16 : decode cX4_standAheadOf 16 = .ok (.iconst 1, 1) := by decide +kernel
theorem dX4_standAheadOf_17 : decode cX4_standAheadOf 17 = .ok (.goto 4, 3) := by decide +kernel
theorem dX4_standAheadOf_20 : decode cX4_standAheadOf 20 = .ok (.iconst 0, 1) := by decide +kernel
theorem dX4_standAheadOf_21 : decode cX4_standAheadOf 21 = .ok (.putfield 25, 3) := by decide +kernel
theorem dX4_standAheadOf_24 : decode cX4_standAheadOf 24 = .ok (.return_, 1) := by decide +kernel
theorem dX4_standAheadOfAll_0 : decode cX4_standAheadOfAll 0 = .ok (.aload_n 0, 1) := by decide +kernel
theorem dX4_standAheadOfAll_1 : decode cX4_standAheadOfAll 1 = .ok (.iconst (-1), 1) := by decide +kernel
theorem dX4_standAheadOfAll_2 : decode cX4_standAheadOfAll 2 = .ok (.putfield 18, 3) := by decide +kernel
theorem dX4_standAheadOfAll_5 : decode cX4_standAheadOfAll 5 = .ok (.aload_n 0, 1) := by decide +kernel
theorem dX4_standAheadOfAll_6 : decode cX4_standAheadOfAll 6 = .ok (.iconst 0, 1) := by decide +kernel
theorem dX4_standAheadOfAll_7 : decode cX4_standAheadOfAll 7 = .ok (.putfield 21, 3) := by decide +kernel
theorem dX4_standAheadOfAll_10 : decode cX4_standAheadOfAll 10 = .ok (.aload_n 0, 1) := by decide +kernel
theorem dX4_standAheadOfAll_11 : decode cX4_standAheadOfAll 11 = .ok (.iconst 0, 1) := by decide +kernel
theorem dX4_standAheadOfAll_12 : decode cX4_standAheadOfAll 12 = .ok (.putfield 25, 3) := by decide +kernel
theorem dX4_standAheadOfAll_15 : decode cX4_standAheadOfAll 15 = .ok (.return_, 1) := by decide +kernel
theorem dX4_parentSegment_0 : decode cX4_parentSegment 0 = .ok (.aload_n 0, 1) := by decide +kernel
theorem dX4_parentSegment_1 : decode cX4_parentSegment 1 = .ok (.getfield 28, 3) := by decide +kernel
theorem dX4_parentSegment_4 : decode cX4_parentSegment 4 = .ok (.ireturn, 1) := by decide +kernel
theorem dX4_setParent_0 : decode cX4_setParent 0 = .ok (.aload_n 0, 1) := by decide +kernel
theorem dX4_setParent_1 : decode cX4_setParent 1 = .ok (.iload_n 1, 1) := by decide +kernel
theorem dX4_setParent_2 : decode cX4_setParent 2 = .ok (.putfield 28, 3) := by decide +kernel
theorem dX4_setParent_5 : decode cX4_setParent 5 = .ok (.return_, 1) := by decide +kernel
theorem dX4_heldCount_0 : decode cX4_heldCount 0 = .ok (.aload_n 0, 1) := by decide +kernel
theorem dX4_heldCount_1 : decode cX4_heldCount 1 = .ok (.getfield 31, 3) := by decide +kernel
theorem dX4_heldCount_4 : decode cX4_heldCount 4 = .ok (.ireturn, 1) := by decide +kernel
theorem dX4_heldAt_0 : decode cX4_heldAt 0 = .ok (.iload_n 1, 1) := by decide +kernel
theorem dX4_heldAt_1 : decode cX4_heldAt 1 = .ok (.ifCond .lt 25, 3) := by decide +kernel
theorem dX4_heldAt_4 : decode cX4_heldAt 4 = .ok (.iload_n 1, 1) := by decide +kernel
theorem dX4_heldAt_5 : decode cX4_heldAt 5 = .ok (.aload_n 0, 1) := by decide +kernel
theorem dX4_heldAt_6 : decode cX4_heldAt 6 = .ok (.getfield 31, 3) := by decide +kernel
theorem dX4_heldAt_9 : decode cX4_heldAt 9 = .ok (.if_icmp .ge 17, 3) := by decide +kernel
theorem dX4_heldAt_12 : decode cX4_heldAt 12 = .ok (.iload_n 1, 1) := by decide +kernel
theorem dX4_heldAt_13 : decode cX4_heldAt 13 = .ok (.iconst 4, 1) := by decide +kernel
theorem dX4_heldAt_14 : decode cX4_heldAt 14 = .ok (.if_icmp .ge 12, 3) := by decide +kernel
theorem dX4_heldAt_17 : decode cX4_heldAt 17 = .ok (.aload_n 0, 1) := by decide +kernel
theorem dX4_heldAt_18 : decode cX4_heldAt 18 = .ok (.getfield 34, 3) := by decide +kernel
theorem dX4_heldAt_21 : decode cX4_heldAt 21 = .ok (.iload_n 1, 1) := by decide +kernel
theorem dX4_heldAt_22 : decode cX4_heldAt 22 = .ok (.iaload, 1) := by decide +kernel
theorem dX4_heldAt_23 : decode cX4_heldAt 23 = .ok (.goto 4, 3) := by decide +kernel
theorem dX4_heldAt_26 : decode cX4_heldAt 26 = .ok (.iconst (-1), 1) := by decide +kernel
theorem dX4_heldAt_27 : decode cX4_heldAt 27 = .ok (.ireturn, 1) := by decide +kernel
theorem dX4_isKept_0 : decode cX4_isKept 0 = .ok (.iload_n 1, 1) := by decide +kernel
theorem dX4_isKept_1 : decode cX4_isKept 1 = .ok (.ifCond .lt 29, 3) := by decide +kernel
theorem dX4_isKept_4 : decode cX4_isKept 4 = .ok (.iload_n 1, 1) := by decide +kernel
theorem dX4_isKept_5 : decode cX4_isKept 5 = .ok (.aload_n 0, 1) := by decide +kernel
theorem dX4_isKept_6 : decode cX4_isKept 6 = .ok (.getfield 31, 3) := by decide +kernel
theorem dX4_isKept_9 : decode cX4_isKept 9 = .ok (.if_icmp .ge 21, 3) := by decide +kernel
theorem dX4_isKept_12 : decode cX4_isKept 12 = .ok (.iload_n 1, 1) := by decide +kernel
theorem dX4_isKept_13 : decode cX4_isKept 13 = .ok (.iconst 4, 1) := by decide +kernel
theorem dX4_isKept_14 : decode cX4_isKept 14 = .ok (.if_icmp .ge 16, 3) := by decide +kernel
theorem dX4_isKept_17 : decode cX4_isKept 17 = .ok (.aload_n 0, 1) := by decide +kernel
theorem dX4_isKept_18 : decode cX4_isKept 18 = .ok (.getfield 38, 3) := by decide +kernel
theorem dX4_isKept_21 : decode cX4_isKept 21 = .ok (.iload_n 1, 1) := by decide +kernel
theorem dX4_isKept_22 : decode cX4_isKept 22 = .ok (.baload, 1) := by decide +kernel
theorem dX4_isKept_23 : decode cX4_isKept 23 = .ok (.ifCond .eq 7, 3) := by decide +kernel
theorem dX4_isKept_26 : decode cX4_isKept 26 = .ok (.iconst 1, 1) := by decide +kernel
theorem dX4_isKept_27 : decode cX4_isKept 27 = .ok (.goto 4, 3) := by decide +kernel
theorem dX4_isKept_30 : decode cX4_isKept 30 = .ok (.iconst 0, 1) := by decide +kernel
theorem dX4_isKept_31 : decode cX4_isKept 31 = .ok (.ireturn, 1) := by decide +kernel
theorem dX4_lastHeld_0 : decode cX4_lastHeld 0 = .ok (.aload_n 0, 1) := by decide +kernel
theorem dX4_lastHeld_1 : decode cX4_lastHeld 1 = .ok (.aload_n 0, 1) := by decide +kernel
theorem dX4_lastHeld_2 : decode cX4_lastHeld 2 = .ok (.getfield 31, 3) := by decide +kernel
theorem dX4_lastHeld_5 : decode cX4_lastHeld 5 = .ok (.iconst 1, 1) := by decide +kernel
theorem dX4_lastHeld_6 : decode cX4_lastHeld 6 = .ok (.isub, 1) := by decide +kernel
theorem dX4_lastHeld_7 : decode cX4_lastHeld 7 = .ok (.invokevirtual 54, 3) := by decide +kernel
theorem dX4_lastHeld_10 : decode cX4_lastHeld 10 = .ok (.ireturn, 1) := by decide +kernel
theorem dX4_hold_0 : decode cX4_hold 0 = .ok (.aload_n 0, 1) := by decide +kernel
theorem dX4_hold_1 : decode cX4_hold 1 = .ok (.getfield 31, 3) := by decide +kernel
theorem dX4_hold_4 : decode cX4_hold 4 = .ok (.iconst 4, 1) := by decide +kernel
theorem dX4_hold_5 : decode cX4_hold 5 = .ok (.if_icmp .ge 33, 3) := by decide +kernel
theorem dX4_hold_8 : decode cX4_hold 8 = .ok (.aload_n 0, 1) := by decide +kernel
theorem dX4_hold_9 : decode cX4_hold 9 = .ok (.getfield 34, 3) := by decide +kernel
theorem dX4_hold_12 : decode cX4_hold 12 = .ok (.aload_n 0, 1) := by decide +kernel
theorem dX4_hold_13 : decode cX4_hold 13 = .ok (.getfield 31, 3) := by decide +kernel
theorem dX4_hold_16 : decode cX4_hold 16 = .ok (.iload_n 1, 1) := by decide +kernel
theorem dX4_hold_17 : decode cX4_hold 17 = .ok (.iastore, 1) := by decide +kernel
theorem dX4_hold_18 : decode cX4_hold 18 = .ok (.aload_n 0, 1) := by decide +kernel
theorem dX4_hold_19 : decode cX4_hold 19 = .ok (.getfield 38, 3) := by decide +kernel
theorem dX4_hold_22 : decode cX4_hold 22 = .ok (.aload_n 0, 1) := by decide +kernel
theorem dX4_hold_23 : decode cX4_hold 23 = .ok (.getfield 31, 3) := by decide +kernel
theorem dX4_hold_26 : decode cX4_hold 26 = .ok (.iload_n 2, 1) := by decide +kernel
theorem dX4_hold_27 : decode cX4_hold 27 = .ok (.bastore, 1) := by decide +kernel
theorem dX4_hold_28 : decode cX4_hold 28 = .ok (.aload_n 0, 1) := by decide +kernel
theorem dX4_hold_29 : decode cX4_hold 29 = .ok (.dup, 1) := by decide +kernel
theorem dX4_hold_30 : decode cX4_hold 30 = .ok (.getfield 31, 3) := by decide +kernel
theorem dX4_hold_33 : decode cX4_hold 33 = .ok (.iconst 1, 1) := by decide +kernel
theorem dX4_hold_34 : decode cX4_hold 34 = .ok (.iadd, 1) := by decide +kernel
theorem dX4_hold_35 : decode cX4_hold 35 = .ok (.putfield 31, 3) := by decide +kernel
theorem dX4_hold_38 : decode cX4_hold 38 = .ok (.return_, 1) := by decide +kernel
theorem dX4_release_0 : decode cX4_release 0 = .ok (.aload_n 0, 1) := by decide +kernel
theorem dX4_release_1 : decode cX4_release 1 = .ok (.iconst 0, 1) := by decide +kernel
theorem dX4_release_2 : decode cX4_release 2 = .ok (.putfield 31, 3) := by decide +kernel
theorem dX4_release_5 : decode cX4_release 5 = .ok (.return_, 1) := by decide +kernel
theorem dX5_init_0 : decode cX5_init 0 = .ok (.aload_n 0, 1) := by decide +kernel
theorem dX5_init_1 : decode cX5_init 1 = .ok (.invokespecial 1, 3) := by decide +kernel
theorem dX5_init_4 : decode cX5_init 4 = .ok (.aload_n 0, 1) := by decide +kernel
theorem dX5_init_5 : decode cX5_init 5 = .ok (.new 7, 3) := by decide +kernel
theorem dX5_init_8 : decode cX5_init 8 = .ok (.dup, 1) := by decide +kernel
theorem dX5_init_9 : decode cX5_init 9 = .ok (.invokespecial 9, 3) := by decide +kernel
theorem dX5_init_12 : decode cX5_init 12 = .ok (.putfield 10, 3) := by decide +kernel
theorem dX5_init_15 : decode cX5_init 15 = .ok (.aload_n 0, 1) := by decide +kernel
theorem dX5_init_16 : decode cX5_init 16 = .ok (.new 16, 3) := by decide +kernel
theorem dX5_init_19 : decode cX5_init 19 = .ok (.dup, 1) := by decide +kernel
theorem dX5_init_20 : decode cX5_init 20 = .ok (.aload_n 0, 1) := by decide +kernel
theorem dX5_init_21 : decode cX5_init 21 = .ok (.getfield 10, 3) := by decide +kernel
theorem dX5_init_24 : decode cX5_init 24 = .ok (.invokespecial 18, 3) := by decide +kernel
theorem dX5_init_27 : decode cX5_init 27 = .ok (.putfield 21, 3) := by decide +kernel
theorem dX5_init_30 : decode cX5_init 30 = .ok (.aload_n 0, 1) := by decide +kernel
theorem dX5_init_31 : decode cX5_init 31 = .ok (.new 25, 3) := by decide +kernel
theorem dX5_init_34 : decode cX5_init 34 = .ok (.dup, 1) := by decide +kernel
theorem dX5_init_35 : decode cX5_init 35 = .ok (.invokespecial 27, 3) := by decide +kernel
theorem dX5_init_38 : decode cX5_init 38 = .ok (.putfield 28, 3) := by decide +kernel
theorem dX5_init_41 : decode cX5_init 41 = .ok (.aload_n 0, 1) := by decide +kernel
theorem dX5_init_42 : decode cX5_init 42 = .ok (.new 32, 3) := by decide +kernel
theorem dX5_init_45 : decode cX5_init 45 = .ok (.dup, 1) := by decide +kernel
theorem dX5_init_46 : decode cX5_init 46 = .ok (.invokespecial 34, 3) := by decide +kernel
theorem dX5_init_49 : decode cX5_init 49 = .ok (.putfield 35, 3) := by decide +kernel
theorem dX5_init_52 : decode cX5_init 52 = .ok (.aload_n 0, 1) := by decide +kernel
theorem dX5_init_53 : decode cX5_init 53 = .ok (.iconst 4, 1) := by decide +kernel
theorem dX5_init_54 : decode cX5_init 54 = .ok (.anewarray 39, 3) := by decide +kernel
theorem dX5_init_57 : decode cX5_init 57 = .ok (.putfield 41, 3) := by decide +kernel
theorem dX5_init_60 : decode cX5_init 60 = .ok (.aload_n 0, 1) := by decide +kernel
theorem dX5_init_61 : decode cX5_init 61 = .ok (.bipush 12, 2) := by decide +kernel
theorem dX5_init_63 : decode cX5_init 63 = .ok (.newarray .int, 2) := by decide +kernel
theorem dX5_init_65 : decode cX5_init 65 = .ok (.putfield 45, 3) := by decide +kernel
theorem dX5_init_68 : decode cX5_init 68 = .ok (.iconst 0, 1) := by decide +kernel
theorem dX5_init_69 : decode cX5_init 69 = .ok (.istore_n 1, 1) := by decide +kernel
theorem dX5_init_70 : decode cX5_init 70 = .ok (.iload_n 1, 1) := by decide +kernel
theorem dX5_init_71 : decode cX5_init 71 = .ok (.aload_n 0, 1) := by decide +kernel
theorem dX5_init_72 : decode cX5_init 72 = .ok (.getfield 41, 3) := by decide +kernel
theorem dX5_init_75 : decode cX5_init 75 = .ok (.arraylength, 1) := by decide +kernel
theorem dX5_init_76 : decode cX5_init 76 = .ok (.if_icmp .ge 22, 3) := by decide +kernel
theorem dX5_init_79 : decode cX5_init 79 = .ok (.aload_n 0, 1) := by decide +kernel
theorem dX5_init_80 : decode cX5_init 80 = .ok (.getfield 41, 3) := by decide +kernel
theorem dX5_init_83 : decode cX5_init 83 = .ok (.iload_n 1, 1) := by decide +kernel
theorem dX5_init_84 : decode cX5_init 84 = .ok (.new 39, 3) := by decide +kernel
theorem dX5_init_87 : decode cX5_init 87 = .ok (.dup, 1) := by decide +kernel
theorem dX5_init_88 : decode cX5_init 88 = .ok (.invokespecial 49, 3) := by decide +kernel
theorem dX5_init_91 : decode cX5_init 91 = .ok (.aastore, 1) := by decide +kernel
theorem dX5_init_92 : decode cX5_init 92 = .ok (.iinc 1 1, 3) := by decide +kernel
theorem dX5_init_95 : decode cX5_init 95 = .ok (.goto (-25), 3) := by decide +kernel
theorem dX5_init_98 : decode cX5_init 98 = .ok (.return_, 1) := by decide +kernel
theorem dX5_type_0 : decode cX5_type 0 = .ok (.iload_n 1, 1) := by decide +kernel
theorem dX5_type_1 : decode cX5_type 1 = .ok (.iconst 3, 1) := by decide +kernel
theorem dX5_type_2 : decode cX5_type 2 = .ok (.invokestatic 50, 3) := by decide +kernel
theorem dX5_type_5 : decode cX5_type 5 = .ok (.ifCond .eq 23, 3) := by decide +kernel
theorem dX5_type_8 : decode cX5_type 8 = .ok (.iload_n 2, 1) := by decide +kernel
theorem dX5_type_9 : decode cX5_type 9 = .ok (.iconst (-1), 1) := by decide +kernel
theorem dX5_type_10 : decode cX5_type 10 = .ok (.if_icmp .eq 14, 3) := by decide +kernel
theorem dX5_type_13 : decode cX5_type 13 = .ok (.aload_n 0, 1) := by decide +kernel
theorem dX5_type_14 : decode cX5_type 14 = .ok (.getfield 10, 3) := by decide +kernel
theorem dX5_type_17 : decode cX5_type 17 = .ok (.iload_n 2, 1) := by decide +kernel
theorem dX5_type_18 : decode cX5_type 18 = .ok (.invokevirtual 54, 3) := by decide +kernel
theorem dX5_type_21 : decode cX5_type 21 = .ok (.ifCond .eq 7, 3) := by decide +kernel
theorem dX5_type_24 : decode cX5_type 24 = .ok (.iconst 1, 1) := by decide +kernel
theorem dX5_type_25 : decode cX5_type 25 = .ok (.goto 4, 3) := by decide +kernel
theorem dX5_type_28 : decode cX5_type 28 = .ok (.iconst 0, 1) := by decide +kernel
theorem dX5_type_29 : decode cX5_type 29 = .ok (.invokestatic 58, 3) := by decide +kernel
theorem dX5_type_32 : decode cX5_type 32 = .ok (.iload_n 2, 1) := by decide +kernel
theorem dX5_type_33 : decode cX5_type 33 = .ok (.iconst (-1), 1) := by decide +kernel
theorem dX5_type_34 : decode cX5_type 34 = .ok (.if_icmp .eq 15, 3) := by decide +kernel
theorem dX5_type_37 : decode cX5_type 37 = .ok (.aload_n 0, 1) := by decide +kernel
theorem dX5_type_38 : decode cX5_type 38 = .ok (.getfield 10, 3) := by decide +kernel
theorem dX5_type_41 : decode cX5_type 41 = .ok (.iload_n 2, 1) := by decide +kernel
theorem dX5_type_42 : decode cX5_type 42 = .ok (.invokevirtual 62, 3) := by decide +kernel
theorem dX5_type_45 : decode cX5_type 45 = .ok (.iload_n 1, 1) := by decide +kernel
theorem dX5_type_46 : decode cX5_type 46 = .ok (.if_icmp .ne 7, 3) := by decide +kernel
theorem dX5_type_49 : decode cX5_type 49 = .ok (.iconst 1, 1) := by decide +kernel
theorem dX5_type_50 : decode cX5_type 50 = .ok (.goto 4, 3) := by decide +kernel
theorem dX5_type_53 : decode cX5_type 53 = .ok (.iconst 0, 1) := by decide +kernel
theorem dX5_type_54 : decode cX5_type 54 = .ok (.invokestatic 66, 3) := by decide +kernel
theorem dX5_type_57 : decode cX5_type 57 = .ok (.iload_n 3, 1) := by decide +kernel
theorem dX5_type_58 : decode cX5_type 58 = .ok (.iconst 3, 1) := by decide +kernel
theorem dX5_type_59 : decode cX5_type 59 = .ok (.invokestatic 50, 3) := by decide +kernel
theorem dX5_type_62 : decode cX5_type 62 = .ok (.ifCond .eq 16, 3) := by decide +kernel
theorem dX5_type_65 : decode cX5_type 65 = .ok (.iload 4, 2) := by decide +kernel
theorem dX5_type_67 : decode cX5_type 67 = .ok (.iconst 3, 1) := by decide +kernel
theorem dX5_type_68 : decode cX5_type 68 = .ok (.invokestatic 50, 3) := by decide +kernel
theorem dX5_type_71 : decode cX5_type 71 = .ok (.ifCond .eq 7, 3) := by decide +kernel
theorem dX5_type_74 : decode cX5_type 74 = .ok (.iconst 1, 1) := by decide +kernel
theorem dX5_type_75 : decode cX5_type 75 = .ok (.goto 4, 3) := by decide +kernel
theorem dX5_type_78 : decode cX5_type 78 = .ok (.iconst 0, 1) := by decide +kernel
theorem dX5_type_79 : decode cX5_type 79 = .ok (.invokestatic 66, 3) := by decide +kernel
theorem dX5_type_82 : decode cX5_type 82 = .ok (.iload_n 2, 1) := by decide +kernel
theorem dX5_type_83 : decode cX5_type 83 = .ok (.iconst (-1), 1) := by decide +kernel
theorem dX5_type_84 : decode cX5_type 84 = .ok (.if_icmp .ne 7, 3) := by decide +kernel
theorem dX5_type_87 : decode cX5_type 87 = .ok (.iload_n 3, 1) := by decide +kernel
theorem dX5_type_88 : decode cX5_type 88 = .ok (.ifCond .ne 7, 3) := by decide +kernel
theorem dX5_type_91 : decode cX5_type 91 = .ok (.iconst 1, 1) := by decide +kernel
theorem dX5_type_92 : decode cX5_type 92 = .ok (.goto 4, 3) := by decide +kernel
theorem dX5_type_95 : decode cX5_type 95 = .ok (.iconst 0, 1) := by decide +kernel
theorem dX5_type_96 : decode cX5_type 96 = .ok (.invokestatic 66, 3) := by decide +kernel
theorem dX5_type_99 : decode cX5_type 99 = .ok (.aload_n 0, 1) := by decide +kernel
theorem dX5_type_100 : decode cX5_type 100 = .ok (.getfield 21, 3) := by decide +kernel
theorem dX5_type_103 : decode cX5_type 103 = .ok (.iload_n 1, 1) := by decide +kernel
theorem dX5_type_104 : decode cX5_type 104 = .ok (.invokevirtual 69, 3) := by decide +kernel
theorem dX5_type_107 : decode cX5_type 107 = .ok (.ifCond .ne 7, 3) := by decide +kernel
theorem dX5_type_110 : decode cX5_type 110 = .ok (.iconst 1, 1) := by decide +kernel
theorem dX5_type_111 : decode cX5_type 111 = .ok (.goto 4, 3) := by decide +kernel
theorem dX5_type_114 : decode cX5_type 114 = .ok (.iconst 0, 1) := by decide +kernel
theorem dX5_type_115 : decode cX5_type 115 = .ok (.invokestatic 72, 3) := by decide +kernel
theorem dX5_type_118 : decode cX5_type 118 = .ok (.iload_n 2, 1) := by decide +kernel
theorem dX5_type_119 : decode cX5_type 119 = .ok (.iconst (-1), 1) := by decide +kernel
theorem dX5_type_120 : decode cX5_type 120 = .ok (.if_icmp .ne 14, 3) := by decide +kernel
theorem dX5_type_123 : decode cX5_type 123 = .ok (.aload_n 0, 1) := by decide +kernel
theorem dX5_type_124 : decode cX5_type 124 = .ok (.getfield 10, 3) := by decide +kernel
theorem dX5_type_127 : decode cX5_type 127 = .ok (.iload_n 1, 1) := by decide +kernel
theorem dX5_type_128 : decode cX5_type 128 = .ok (.invokevirtual 75, 3) := by decide +kernel
theorem dX5_type_131 : decode cX5_type 131 = .ok (.ifCond .ne 7, 3) := by decide +kernel
theorem dX5_type_134 : decode cX5_type 134 = .ok (.iconst 1, 1) := by decide +kernel
theorem dX5_type_135 : decode cX5_type 135 = .ok (.goto 4, 3) := by decide +kernel
theorem dX5_type_138 : decode cX5_type 138 = .ok (.iconst 0, 1) := by decide +kernel
theorem dX5_type_139 : decode cX5_type 139 = .ok (.invokestatic 72, 3) := by decide +kernel
theorem dX5_type_142 : decode cX5_type 142 = .ok (.aload_n 0, 1) := by decide +kernel
theorem dX5_type_143 : decode cX5_type 143 = .ok (.getfield 10, 3) := by decide +kernel
theorem dX5_type_146 : decode cX5_type 146 = .ok (.iload_n 2, 1) := by decide +kernel
theorem dX5_type_147 : decode cX5_type 147 = .ok (.invokevirtual 78, 3) := by decide +kernel
theorem dX5_type_150 : decode cX5_type 150 = .ok (.iconst 4, 1) := by decide +kernel
theorem dX5_type_151 : decode cX5_type 151 = .ok (.if_icmp .gt 19, 3) := by decide +kernel
