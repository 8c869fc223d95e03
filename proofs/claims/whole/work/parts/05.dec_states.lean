theorem d_States_init_0 : decode b_States_init 0 = .ok (.aload_n 0, 1) := by decide +kernel
theorem d_States_init_1 : decode b_States_init 1 = .ok (.invokespecial 5, 3) := by decide +kernel
theorem d_States_init_4 : decode b_States_init 4 = .ok (.aload_n 0, 1) := by decide +kernel
theorem d_States_init_5 : decode b_States_init 5 = .ok (.sipush 2255, 3) := by decide +kernel
theorem d_States_init_8 : decode b_States_init 8 = .ok (.newarray .int, 2) := by decide +kernel
theorem d_States_init_10 : decode b_States_init 10 = .ok (.putfield 11, 3) := by decide +kernel
theorem d_States_init_13 : decode b_States_init 13 = .ok (.aload_n 0, 1) := by decide +kernel
theorem d_States_init_14 : decode b_States_init 14 = .ok (.sipush 480, 3) := by decide +kernel
theorem d_States_init_17 : decode b_States_init 17 = .ok (.newarray .int, 2) := by decide +kernel
theorem d_States_init_19 : decode b_States_init 19 = .ok (.putfield 15, 3) := by decide +kernel
theorem d_States_init_22 : decode b_States_init 22 = .ok (.aload_n 0, 1) := by decide +kernel
theorem d_States_init_23 : decode b_States_init 23 = .ok (.sipush 280, 3) := by decide +kernel
theorem d_States_init_26 : decode b_States_init 26 = .ok (.newarray .int, 2) := by decide +kernel
theorem d_States_init_28 : decode b_States_init 28 = .ok (.putfield 18, 3) := by decide +kernel
theorem d_States_init_31 : decode b_States_init 31 = .ok (.return_, 1) := by decide +kernel
theorem d_States_forget_0 : decode b_States_forget 0 = .ok (.aload_n 0, 1) := by decide +kernel
theorem d_States_forget_1 : decode b_States_forget 1 = .ok (.iconst 0, 1) := by decide +kernel
theorem d_States_forget_2 : decode b_States_forget 2 = .ok (.putfield 21, 3) := by decide +kernel
theorem d_States_forget_5 : decode b_States_forget 5 = .ok (.aload_n 0, 1) := by decide +kernel
theorem d_States_forget_6 : decode b_States_forget 6 = .ok (.iconst 0, 1) := by decide +kernel
theorem d_States_forget_7 : decode b_States_forget 7 = .ok (.putfield 25, 3) := by decide +kernel
theorem d_States_forget_10 : decode b_States_forget 10 = .ok (.return_, 1) := by decide +kernel
theorem d_States_stateCount_0 : decode b_States_stateCount 0 = .ok (.aload_n 0, 1) := by decide +kernel
theorem d_States_stateCount_1 : decode b_States_stateCount 1 = .ok (.getfield 21, 3) := by decide +kernel
theorem d_States_stateCount_4 : decode b_States_stateCount 4 = .ok (.ireturn, 1) := by decide +kernel
theorem d_States_itemCount_0 : decode b_States_itemCount 0 = .ok (.aload_n 0, 1) := by decide +kernel
theorem d_States_itemCount_1 : decode b_States_itemCount 1 = .ok (.getfield 25, 3) := by decide +kernel
theorem d_States_itemCount_4 : decode b_States_itemCount 4 = .ok (.ireturn, 1) := by decide +kernel
theorem d_States_targetOf_0 : decode b_States_targetOf 0 = .ok (.iload_n 1, 1) := by decide +kernel
theorem d_States_targetOf_1 : decode b_States_targetOf 1 = .ok (.ifCond .lt 21, 3) := by decide +kernel
theorem d_States_targetOf_4 : decode b_States_targetOf 4 = .ok (.iload_n 1, 1) := by decide +kernel
theorem d_States_targetOf_5 : decode b_States_targetOf 5 = .ok (.aload_n 0, 1) := by decide +kernel
theorem d_States_targetOf_6 : decode b_States_targetOf 6 = .ok (.getfield 21, 3) := by decide +kernel
theorem d_States_targetOf_9 : decode b_States_targetOf 9 = .ok (.if_icmp .ge 13, 3) := by decide +kernel
theorem d_States_targetOf_12 : decode b_States_targetOf 12 = .ok (.iload_n 2, 1) := by decide +kernel
theorem d_States_targetOf_13 : decode b_States_targetOf 13 = .ok (.ifCond .lt 9, 3) := by decide +kernel
theorem d_States_targetOf_16 : decode b_States_targetOf 16 = .ok (.iload_n 2, 1) := by decide +kernel
theorem d_States_targetOf_17 : decode b_States_targetOf 17 = .ok (.bipush 12, 2) := by decide +kernel
theorem d_States_targetOf_19 : decode b_States_targetOf 19 = .ok (.if_icmp .lt 5, 3) := by decide +kernel
theorem d_States_targetOf_22 : decode b_States_targetOf 22 = .ok (.iconst (-1), 1) := by decide +kernel
theorem d_States_targetOf_23 : decode b_States_targetOf 23 = .ok (.ireturn, 1) := by decide +kernel
theorem d_States_targetOf_24 : decode b_States_targetOf 24 = .ok (.aload_n 0, 1) := by decide +kernel
theorem d_States_targetOf_25 : decode b_States_targetOf 25 = .ok (.getfield 15, 3) := by decide +kernel
theorem d_States_targetOf_28 : decode b_States_targetOf 28 = .ok (.iload_n 1, 1) := by decide +kernel
theorem d_States_targetOf_29 : decode b_States_targetOf 29 = .ok (.bipush 12, 2) := by decide +kernel
theorem d_States_targetOf_31 : decode b_States_targetOf 31 = .ok (.imul, 1) := by decide +kernel
theorem d_States_targetOf_32 : decode b_States_targetOf 32 = .ok (.iload_n 2, 1) := by decide +kernel
theorem d_States_targetOf_33 : decode b_States_targetOf 33 = .ok (.iadd, 1) := by decide +kernel
theorem d_States_targetOf_34 : decode b_States_targetOf 34 = .ok (.iaload, 1) := by decide +kernel
theorem d_States_targetOf_35 : decode b_States_targetOf 35 = .ok (.ireturn, 1) := by decide +kernel
theorem d_States_reducedBy_0 : decode b_States_reducedBy 0 = .ok (.iload_n 1, 1) := by decide +kernel
theorem d_States_reducedBy_1 : decode b_States_reducedBy 1 = .ok (.ifCond .lt 21, 3) := by decide +kernel
theorem d_States_reducedBy_4 : decode b_States_reducedBy 4 = .ok (.iload_n 1, 1) := by decide +kernel
theorem d_States_reducedBy_5 : decode b_States_reducedBy 5 = .ok (.aload_n 0, 1) := by decide +kernel
theorem d_States_reducedBy_6 : decode b_States_reducedBy 6 = .ok (.getfield 21, 3) := by decide +kernel
theorem d_States_reducedBy_9 : decode b_States_reducedBy 9 = .ok (.if_icmp .ge 13, 3) := by decide +kernel
theorem d_States_reducedBy_12 : decode b_States_reducedBy 12 = .ok (.iload_n 2, 1) := by decide +kernel
theorem d_States_reducedBy_13 : decode b_States_reducedBy 13 = .ok (.ifCond .lt 9, 3) := by decide +kernel
theorem d_States_reducedBy_16 : decode b_States_reducedBy 16 = .ok (.iload_n 2, 1) := by decide +kernel
theorem d_States_reducedBy_17 : decode b_States_reducedBy 17 = .ok (.bipush 7, 2) := by decide +kernel
theorem d_States_reducedBy_19 : decode b_States_reducedBy 19 = .ok (.if_icmp .lt 5, 3) := by decide +kernel
theorem d_States_reducedBy_22 : decode b_States_reducedBy 22 = .ok (.iconst (-1), 1) := by decide +kernel
theorem d_States_reducedBy_23 : decode b_States_reducedBy 23 = .ok (.ireturn, 1) := by decide +kernel
theorem d_States_reducedBy_24 : decode b_States_reducedBy 24 = .ok (.aload_n 0, 1) := by decide +kernel
theorem d_States_reducedBy_25 : decode b_States_reducedBy 25 = .ok (.getfield 18, 3) := by decide +kernel
theorem d_States_reducedBy_28 : decode b_States_reducedBy 28 = .ok (.iload_n 1, 1) := by decide +kernel
theorem d_States_reducedBy_29 : decode b_States_reducedBy 29 = .ok (.bipush 7, 2) := by decide +kernel
theorem d_States_reducedBy_31 : decode b_States_reducedBy 31 = .ok (.imul, 1) := by decide +kernel
theorem d_States_reducedBy_32 : decode b_States_reducedBy 32 = .ok (.iload_n 2, 1) := by decide +kernel
theorem d_States_reducedBy_33 : decode b_States_reducedBy 33 = .ok (.iadd, 1) := by decide +kernel
theorem d_States_reducedBy_34 : decode b_States_reducedBy 34 = .ok (.iaload, 1) := by decide +kernel
theorem d_States_reducedBy_35 : decode b_States_reducedBy 35 = .ok (.ireturn, 1) := by decide +kernel
theorem d_States_build_0 : decode b_States_build 0 = .ok (.aload_n 0, 1) := by decide +kernel
theorem d_States_build_1 : decode b_States_build 1 = .ok (.invokevirtual 28, 3) := by decide +kernel
theorem d_States_build_4 : decode b_States_build 4 = .ok (.aload_n 0, 1) := by decide +kernel
theorem d_States_build_5 : decode b_States_build 5 = .ok (.iconst 0, 1) := by decide +kernel
theorem d_States_build_6 : decode b_States_build 6 = .ok (.invokevirtual 31, 3) := by decide +kernel
theorem d_States_build_9 : decode b_States_build 9 = .ok (.aload_n 0, 1) := by decide +kernel
theorem d_States_build_10 : decode b_States_build 10 = .ok (.getfield 11, 3) := by decide +kernel
theorem d_States_build_13 : decode b_States_build 13 = .ok (.bipush 50, 2) := by decide +kernel
theorem d_States_build_15 : decode b_States_build 15 = .ok (.bipush 64, 2) := by decide +kernel
theorem d_States_build_17 : decode b_States_build 17 = .ok (.iastore, 1) := by decide +kernel
theorem d_States_build_18 : decode b_States_build 18 = .ok (.aload_n 0, 1) := by decide +kernel
theorem d_States_build_19 : decode b_States_build 19 = .ok (.aload_n 1, 1) := by decide +kernel
theorem d_States_build_20 : decode b_States_build 20 = .ok (.iconst 0, 1) := by decide +kernel
theorem d_States_build_21 : decode b_States_build 21 = .ok (.invokevirtual 35, 3) := by decide +kernel
theorem d_States_build_24 : decode b_States_build 24 = .ok (.aload_n 0, 1) := by decide +kernel
theorem d_States_build_25 : decode b_States_build 25 = .ok (.iconst 1, 1) := by decide +kernel
theorem d_States_build_26 : decode b_States_build 26 = .ok (.putfield 21, 3) := by decide +kernel
theorem d_States_build_29 : decode b_States_build 29 = .ok (.aload_n 0, 1) := by decide +kernel
theorem d_States_build_30 : decode b_States_build 30 = .ok (.aload_n 1, 1) := by decide +kernel
theorem d_States_build_31 : decode b_States_build 31 = .ok (.invokevirtual 39, 3) := by decide +kernel
theorem d_States_build_34 : decode b_States_build 34 = .ok (.ifCond .eq 11, 3) := by decide +kernel
theorem d_States_build_37 : decode b_States_build 37 = .ok (.aload_n 0, 1) := by decide +kernel
theorem d_States_build_38 : decode b_States_build 38 = .ok (.aload_n 1, 1) := by decide +kernel
theorem d_States_build_39 : decode b_States_build 39 = .ok (.invokevirtual 43, 3) := by decide +kernel
theorem d_States_build_42 : decode b_States_build 42 = .ok (.ifCond .ne 9, 3) := by decide +kernel
theorem d_States_build_45 : decode b_States_build 45 = .ok (.aload_n 0, 1) := by decide +kernel
theorem d_States_build_46 : decode b_States_build 46 = .ok (.invokevirtual 28, 3) := by decide +kernel
theorem d_States_build_49 : decode b_States_build 49 = .ok (.iconst 0, 1) := by decide +kernel
theorem d_States_build_50 : decode b_States_build 50 = .ok (.ireturn, 1) := by decide +kernel
theorem d_States_build_51 : decode b_States_build 51 = .ok (.iconst 0, 1) := by decide +kernel
theorem d_States_build_52 : decode b_States_build 52 = .ok (.istore_n 2, 1) := by decide +kernel
theorem d_States_build_53 : decode b_States_build 53 = .ok (.iload_n 2, 1) := by decide +kernel
theorem d_States_build_54 : decode b_States_build 54 = .ok (.aload_n 0, 1) := by decide +kernel
theorem d_States_build_55 : decode b_States_build 55 = .ok (.getfield 21, 3) := by decide +kernel
theorem d_States_build_58 : decode b_States_build 58 = .ok (.bipush 55, 2) := by decide +kernel
theorem d_States_build_60 : decode b_States_build 60 = .ok (.imul, 1) := by decide +kernel
theorem d_States_build_61 : decode b_States_build 61 = .ok (.if_icmp .ge 27, 3) := by decide +kernel
theorem d_States_build_64 : decode b_States_build 64 = .ok (.aload_n 0, 1) := by decide +kernel
theorem d_States_build_65 : decode b_States_build 65 = .ok (.dup, 1) := by decide +kernel
theorem d_States_build_66 : decode b_States_build 66 = .ok (.getfield 25, 3) := by decide +kernel
theorem d_States_build_69 : decode b_States_build 69 = .ok (.aload_n 0, 1) := by decide +kernel
theorem d_States_build_70 : decode b_States_build 70 = .ok (.getfield 11, 3) := by decide +kernel
theorem d_States_build_73 : decode b_States_build 73 = .ok (.iload_n 2, 1) := by decide +kernel
theorem d_States_build_74 : decode b_States_build 74 = .ok (.iaload, 1) := by decide +kernel
theorem d_States_build_75 : decode b_States_build 75 = .ok (.invokestatic 46, 3) := by decide +kernel
theorem d_States_build_78 : decode b_States_build 78 = .ok (.iadd, 1) := by decide +kernel
theorem d_States_build_79 : decode b_States_build 79 = .ok (.putfield 25, 3) := by decide +kernel
theorem d_States_build_82 : decode b_States_build 82 = .ok (.iinc 2 1, 3) := by decide +kernel
theorem d_States_build_85 : decode b_States_build 85 = .ok (.goto (-32), 3) := by decide +kernel
theorem d_States_build_88 : decode b_States_build 88 = .ok (.iconst 1, 1) := by decide +kernel
theorem d_States_build_89 : decode b_States_build 89 = .ok (.ireturn, 1) := by decide +kernel
theorem d_States_makeTargets_0 : decode b_States_makeTargets 0 = .ok (.iconst 0, 1) := by decide +kernel
theorem d_States_makeTargets_1 : decode b_States_makeTargets 1 = .ok (.istore_n 2, 1) := by decide +kernel
theorem d_States_makeTargets_2 : decode b_States_makeTargets 2 = .ok (.iload_n 2, 1) := by decide +kernel
theorem d_States_makeTargets_3 : decode b_States_makeTargets 3 = .ok (.aload_n 0, 1) := by decide +kernel
theorem d_States_makeTargets_4 : decode b_States_makeTargets 4 = .ok (.getfield 21, 3) := by decide +kernel
theorem d_States_makeTargets_7 : decode b_States_makeTargets 7 = .ok (.if_icmp .ge 60, 3) := by decide +kernel
theorem d_States_makeTargets_10 : decode b_States_makeTargets 10 = .ok (.iload_n 2, 1) := by decide +kernel
theorem d_States_makeTargets_11 : decode b_States_makeTargets 11 = .ok (.bipush 40, 2) := by decide +kernel
theorem d_States_makeTargets_13 : decode b_States_makeTargets 13 = .ok (.if_icmp .ge 54, 3) := by decide +kernel
theorem d_States_makeTargets_16 : decode b_States_makeTargets 16 = .ok (.iconst 0, 1) := by decide +kernel
theorem d_States_makeTargets_17 : decode b_States_makeTargets 17 = .ok (.istore_n 3, 1) := by decide +kernel
theorem d_States_makeTargets_18 : decode b_States_makeTargets 18 = .ok (.iload_n 3, 1) := by decide +kernel
theorem d_States_makeTargets_19 : decode b_States_makeTargets 19 = .ok (.bipush 12, 2) := by decide +kernel
theorem d_States_makeTargets_21 : decode b_States_makeTargets 21 = .ok (.if_icmp .ge 40, 3) := by decide +kernel
theorem d_States_makeTargets_24 : decode b_States_makeTargets 24 = .ok (.aload_n 0, 1) := by decide +kernel
theorem d_States_makeTargets_25 : decode b_States_makeTargets 25 = .ok (.aload_n 1, 1) := by decide +kernel
theorem d_States_makeTargets_26 : decode b_States_makeTargets 26 = .ok (.iload_n 2, 1) := by decide +kernel
theorem d_States_makeTargets_27 : decode b_States_makeTargets 27 = .ok (.iload_n 3, 1) := by decide +kernel
theorem d_States_makeTargets_28 : decode b_States_makeTargets 28 = .ok (.invokevirtual 52, 3) := by decide +kernel
theorem d_States_makeTargets_31 : decode b_States_makeTargets 31 = .ok (.istore 4, 2) := by decide +kernel
theorem d_States_makeTargets_33 : decode b_States_makeTargets 33 = .ok (.iload 4, 2) := by decide +kernel
theorem d_States_makeTargets_35 : decode b_States_makeTargets 35 = .ok (.bipush 40, 2) := by decide +kernel
theorem d_States_makeTargets_37 : decode b_States_makeTargets 37 = .ok (.if_icmp .ne 5, 3) := by decide +kernel
theorem d_States_makeTargets_40 : decode b_States_makeTargets 40 = .ok (.iconst 0, 1) := by decide +kernel
theorem d_States_makeTargets_41 : decode b_States_makeTargets 41 = .ok (.ireturn, 1) := by decide +kernel
theorem d_States_makeTargets_42 : decode b_States_makeTargets 42 = .ok (.aload_n 0, 1) := by decide +kernel
theorem d_States_makeTargets_43 : decode b_States_makeTargets 43 = .ok (.getfield 15, 3) := by decide +kernel
theorem d_States_makeTargets_46 : decode b_States_makeTargets 46 = .ok (.iload_n 2, 1) := by decide +kernel
theorem d_States_makeTargets_47 : decode b_States_makeTargets 47 = .ok (.bipush 12, 2) := by decide +kernel
theorem d_States_makeTargets_49 : decode b_States_makeTargets 49 = .ok (.imul, 1) := by decide +kernel
theorem d_States_makeTargets_50 : decode b_States_makeTargets 50 = .ok (.iload_n 3, 1) := by decide +kernel
theorem d_States_makeTargets_51 : decode b_States_makeTargets 51 = .ok (.iadd, 1) := by decide +kernel
theorem d_States_makeTargets_52 : decode b_States_makeTargets 52 = .ok (.iload 4, 2) := by decide +kernel
theorem d_States_makeTargets_54 : decode b_States_makeTargets 54 = .ok (.iastore, 1) := by decide +kernel
theorem d_States_makeTargets_55 : decode b_States_makeTargets 55 = .ok (.iinc 3 1, 3) := by decide +kernel
theorem d_States_makeTargets_58 : decode b_States_makeTargets 58 = .ok (.goto (-40), 3) := by decide +kernel
theorem d_States_makeTargets_61 : decode b_States_makeTargets 61 = .ok (.iinc 2 1, 3) := by decide +kernel
theorem d_States_makeTargets_64 : decode b_States_makeTargets 64 = .ok (.goto (-62), 3) := by decide +kernel
theorem d_States_makeTargets_67 : decode b_States_makeTargets 67 = .ok (.iconst 1, 1) := by decide +kernel
theorem d_States_makeTargets_68 : decode b_States_makeTargets 68 = .ok (.ireturn, 1) := by decide +kernel
theorem d_States_enter_0 : decode b_States_enter 0 = .ok (.aload_n 0, 1) := by decide +kernel
theorem d_States_enter_1 : decode b_States_enter 1 = .ok (.aload_n 1, 1) := by decide +kernel
theorem d_States_enter_2 : decode b_States_enter 2 = .ok (.iload_n 2, 1) := by decide +kernel
theorem d_States_enter_3 : decode b_States_enter 3 = .ok (.iload_n 3, 1) := by decide +kernel
theorem d_States_enter_4 : decode b_States_enter 4 = .ok (.invokevirtual 56, 3) := by decide +kernel
theorem d_States_enter_7 : decode b_States_enter 7 = .ok (.ifCond .ne 5, 3) := by decide +kernel
theorem d_States_enter_10 : decode b_States_enter 10 = .ok (.iconst (-1), 1) := by decide +kernel
theorem d_States_enter_11 : decode b_States_enter 11 = .ok (.ireturn, 1) := by decide +kernel
theorem d_States_enter_12 : decode b_States_enter 12 = .ok (.aload_n 0, 1) := by decide +kernel
theorem d_States_enter_13 : decode b_States_enter 13 = .ok (.aload_n 1, 1) := by decide +kernel
theorem d_States_enter_14 : decode b_States_enter 14 = .ok (.aload_n 0, 1) := by decide +kernel
theorem d_States_enter_15 : decode b_States_enter 15 = .ok (.getfield 21, 3) := by decide +kernel
theorem d_States_enter_18 : decode b_States_enter 18 = .ok (.invokevirtual 35, 3) := by decide +kernel
theorem d_States_enter_21 : decode b_States_enter 21 = .ok (.iconst 0, 1) := by decide +kernel
theorem d_States_enter_22 : decode b_States_enter 22 = .ok (.istore 4, 2) := by decide +kernel
theorem d_States_enter_24 : decode b_States_enter 24 = .ok (.iload 4, 2) := by decide +kernel
theorem d_States_enter_26 : decode b_States_enter 26 = .ok (.aload_n 0, 1) := by decide +kernel
theorem d_States_enter_27 : decode b_States_enter 27 = .ok (.getfield 21, 3) := by decide +kernel
theorem d_States_enter_30 : decode b_States_enter 30 = .ok (.if_icmp .ge 21, 3) := by decide +kernel
theorem d_States_enter_33 : decode b_States_enter 33 = .ok (.aload_n 0, 1) := by decide +kernel
theorem d_States_enter_34 : decode b_States_enter 34 = .ok (.iload 4, 2) := by decide +kernel
theorem d_States_enter_36 : decode b_States_enter 36 = .ok (.invokevirtual 60, 3) := by decide +kernel
theorem d_States_enter_39 : decode b_States_enter 39 = .ok (.ifCond .eq 6, 3) := by decide +kernel
theorem d_States_enter_42 : decode b_States_enter 42 = .ok (.iload 4, 2) := by decide +kernel
theorem d_States_enter_44 : decode b_States_enter 44 = .ok (.ireturn, 1) := by decide +kernel
theorem d_States_enter_45 : decode b_States_enter 45 = .ok (.iinc 4 1, 3) := by decide +kernel
theorem d_States_enter_48 : decode b_States_enter 48 = .ok (.goto (-24), 3) := by decide +kernel
theorem d_States_enter_51 : decode b_States_enter 51 = .ok (.aload_n 0, 1) := by decide +kernel
theorem d_States_enter_52 : decode b_States_enter 52 = .ok (.getfield 21, 3) := by decide +kernel
theorem d_States_enter_55 : decode b_States_enter 55 = .ok (.bipush 40, 2) := by decide +kernel
theorem d_States_enter_57 : decode b_States_enter 57 = .ok (.if_icmp .lt 6, 3) := by decide +kernel
theorem d_States_enter_60 : decode b_States_enter 60 = .ok (.bipush 40, 2) := by decide +kernel
theorem d_States_enter_62 : decode b_States_enter 62 = .ok (.ireturn, 1) := by decide +kernel
theorem d_States_enter_63 : decode b_States_enter 63 = .ok (.aload_n 0, 1) := by decide +kernel
theorem d_States_enter_64 : decode b_States_enter 64 = .ok (.dup, 1) := by decide +kernel
theorem d_States_enter_65 : decode b_States_enter 65 = .ok (.getfield 21, 3) := by decide +kernel
theorem d_States_enter_68 : decode b_States_enter 68 = .ok (.iconst 1, 1) := by decide +kernel
theorem d_States_enter_69 : decode b_States_enter 69 = .ok (.iadd, 1) := by decide +kernel
theorem d_States_enter_70 : decode b_States_enter 70 = .ok (.putfield 21, 3) := by decide +kernel
theorem d_States_enter_73 : decode b_States_enter 73 = .ok (.aload_n 0, 1) := by decide +kernel
theorem d_States_enter_74 : decode b_States_enter 74 = .ok (.getfield 21, 3) := by decide +kernel
theorem d_States_enter_77 : decode b_States_enter 77 = .ok (.iconst 1, 1) := by decide +kernel
theorem d_States_enter_78 : decode b_States_enter 78 = .ok (.isub, 1) := by decide +kernel
theorem d_States_enter_79 : decode b_States_enter 79 = .ok (.ireturn, 1) := by decide +kernel
theorem d_States_clearSet_0 : decode b_States_clearSet 0 = .ok (.iload_n 1, 1) := by decide +kernel
theorem d_States_clearSet_1 : decode b_States_clearSet 1 = .ok (.bipush 55, 2) := by decide +kernel
theorem d_States_clearSet_3 : decode b_States_clearSet 3 = .ok (.imul, 1) := by decide +kernel
theorem d_States_clearSet_4 : decode b_States_clearSet 4 = .ok (.istore_n 2, 1) := by decide +kernel
theorem d_States_clearSet_5 : decode b_States_clearSet 5 = .ok (.iload_n 2, 1) := by decide +kernel
theorem d_States_clearSet_6 : decode b_States_clearSet 6 = .ok (.iload_n 1, 1) := by decide +kernel
theorem d_States_clearSet_7 : decode b_States_clearSet 7 = .ok (.iconst 1, 1) := by decide +kernel
theorem d_States_clearSet_8 : decode b_States_clearSet 8 = .ok (.iadd, 1) := by decide +kernel
theorem d_States_clearSet_9 : decode b_States_clearSet 9 = .ok (.bipush 55, 2) := by decide +kernel
theorem d_States_clearSet_11 : decode b_States_clearSet 11 = .ok (.imul, 1) := by decide +kernel
theorem d_States_clearSet_12 : decode b_States_clearSet 12 = .ok (.if_icmp .ge 25, 3) := by decide +kernel
theorem d_States_clearSet_15 : decode b_States_clearSet 15 = .ok (.iload_n 2, 1) := by decide +kernel
theorem d_States_clearSet_16 : decode b_States_clearSet 16 = .ok (.aload_n 0, 1) := by decide +kernel
theorem d_States_clearSet_17 : decode b_States_clearSet 17 = .ok (.getfield 11, 3) := by decide +kernel
theorem d_States_clearSet_20 : decode b_States_clearSet 20 = .ok (.arraylength, 1) := by decide +kernel
theorem d_States_clearSet_21 : decode b_States_clearSet 21 = .ok (.if_icmp .ge 16, 3) := by decide +kernel
theorem d_States_clearSet_24 : decode b_States_clearSet 24 = .ok (.aload_n 0, 1) := by decide +kernel
theorem d_States_clearSet_25 : decode b_States_clearSet 25 = .ok (.getfield 11, 3) := by decide +kernel
theorem d_States_clearSet_28 : decode b_States_clearSet 28 = .ok (.iload_n 2, 1) := by decide +kernel
theorem d_States_clearSet_29 : decode b_States_clearSet 29 = .ok (.iconst 0, 1) := by decide +kernel
theorem d_States_clearSet_30 : decode b_States_clearSet 30 = .ok (.iastore, 1) := by decide +kernel
theorem d_States_clearSet_31 : decode b_States_clearSet 31 = .ok (.iinc 2 1, 3) := by decide +kernel
theorem d_States_clearSet_34 : decode b_States_clearSet 34 = .ok (.goto (-29), 3) := by decide +kernel
theorem d_States_clearSet_37 : decode b_States_clearSet 37 = .ok (.return_, 1) := by decide +kernel
theorem d_States_moveBehind_0 : decode b_States_moveBehind 0 = .ok (.iconst 0, 1) := by decide +kernel
theorem d_States_moveBehind_1 : decode b_States_moveBehind 1 = .ok (.istore 4, 2) := by decide +kernel
theorem d_States_moveBehind_3 : decode b_States_moveBehind 3 = .ok (.aload_n 0, 1) := by decide +kernel
theorem d_States_moveBehind_4 : decode b_States_moveBehind 4 = .ok (.aload_n 0, 1) := by decide +kernel
theorem d_States_moveBehind_5 : decode b_States_moveBehind 5 = .ok (.getfield 21, 3) := by decide +kernel
theorem d_States_moveBehind_8 : decode b_States_moveBehind 8 = .ok (.invokevirtual 31, 3) := by decide +kernel
theorem d_States_moveBehind_11 : decode b_States_moveBehind 11 = .ok (.iconst 0, 1) := by decide +kernel
theorem d_States_moveBehind_12 : decode b_States_moveBehind 12 = .ok (.istore 5, 2) := by decide +kernel
theorem d_States_moveBehind_14 : decode b_States_moveBehind 14 = .ok (.iload 5, 2) := by decide +kernel
theorem d_States_moveBehind_16 : decode b_States_moveBehind 16 = .ok (.bipush 10, 2) := by decide +kernel
theorem d_States_moveBehind_18 : decode b_States_moveBehind 18 = .ok (.if_icmp .gt 91, 3) := by decide +kernel
theorem d_States_moveBehind_21 : decode b_States_moveBehind 21 = .ok (.iconst 0, 1) := by decide +kernel
theorem d_States_moveBehind_22 : decode b_States_moveBehind 22 = .ok (.istore 6, 2) := by decide +kernel
theorem d_States_moveBehind_24 : decode b_States_moveBehind 24 = .ok (.iload 6, 2) := by decide +kernel
theorem d_States_moveBehind_26 : decode b_States_moveBehind 26 = .ok (.aload_n 1, 1) := by decide +kernel
theorem d_States_moveBehind_27 : decode b_States_moveBehind 27 = .ok (.iload 5, 2) := by decide +kernel
theorem d_States_moveBehind_29 : decode b_States_moveBehind 29 = .ok (.invokevirtual 64, 3) := by decide +kernel
theorem d_States_moveBehind_32 : decode b_States_moveBehind 32 = .ok (.if_icmp .ge 71, 3) := by decide +kernel
theorem d_States_moveBehind_35 : decode b_States_moveBehind 35 = .ok (.iload 5, 2) := by decide +kernel
theorem d_States_moveBehind_37 : decode b_States_moveBehind 37 = .ok (.iconst 5, 1) := by decide +kernel
theorem d_States_moveBehind_38 : decode b_States_moveBehind 38 = .ok (.imul, 1) := by decide +kernel
theorem d_States_moveBehind_39 : decode b_States_moveBehind 39 = .ok (.iload 6, 2) := by decide +kernel
theorem d_States_moveBehind_41 : decode b_States_moveBehind 41 = .ok (.iadd, 1) := by decide +kernel
theorem d_States_moveBehind_42 : decode b_States_moveBehind 42 = .ok (.istore 7, 2) := by decide +kernel
theorem d_States_moveBehind_44 : decode b_States_moveBehind 44 = .ok (.aload_n 0, 1) := by decide +kernel
theorem d_States_moveBehind_45 : decode b_States_moveBehind 45 = .ok (.getfield 11, 3) := by decide +kernel
theorem d_States_moveBehind_48 : decode b_States_moveBehind 48 = .ok (.iload_n 2, 1) := by decide +kernel
theorem d_States_moveBehind_49 : decode b_States_moveBehind 49 = .ok (.bipush 55, 2) := by decide +kernel
theorem d_States_moveBehind_51 : decode b_States_moveBehind 51 = .ok (.imul, 1) := by decide +kernel
theorem d_States_moveBehind_52 : decode b_States_moveBehind 52 = .ok (.iload 7, 2) := by decide +kernel
theorem d_States_moveBehind_54 : decode b_States_moveBehind 54 = .ok (.iadd, 1) := by decide +kernel
theorem d_States_moveBehind_55 : decode b_States_moveBehind 55 = .ok (.iaload, 1) := by decide +kernel
theorem d_States_moveBehind_56 : decode b_States_moveBehind 56 = .ok (.istore 8, 2) := by decide +kernel
theorem d_States_moveBehind_58 : decode b_States_moveBehind 58 = .ok (.iload 8, 2) := by decide +kernel
theorem d_States_moveBehind_60 : decode b_States_moveBehind 60 = .ok (.ifCond .eq 37, 3) := by decide +kernel
theorem d_States_moveBehind_63 : decode b_States_moveBehind 63 = .ok (.aload_n 1, 1) := by decide +kernel
theorem d_States_moveBehind_64 : decode b_States_moveBehind 64 = .ok (.iload 5, 2) := by decide +kernel
theorem d_States_moveBehind_66 : decode b_States_moveBehind 66 = .ok (.iload 6, 2) := by decide +kernel
theorem d_States_moveBehind_68 : decode b_States_moveBehind 68 = .ok (.invokevirtual 69, 3) := by decide +kernel
theorem d_States_moveBehind_71 : decode b_States_moveBehind 71 = .ok (.iload_n 3, 1) := by decide +kernel
theorem d_States_moveBehind_72 : decode b_States_moveBehind 72 = .ok (.if_icmp .ne 25, 3) := by decide +kernel
theorem d_States_moveBehind_75 : decode b_States_moveBehind 75 = .ok (.aload_n 0, 1) := by decide +kernel
theorem d_States_moveBehind_76 : decode b_States_moveBehind 76 = .ok (.getfield 11, 3) := by decide +kernel
theorem d_States_moveBehind_79 : decode b_States_moveBehind 79 = .ok (.aload_n 0, 1) := by decide +kernel
theorem d_States_moveBehind_80 : decode b_States_moveBehind 80 = .ok (.getfield 21, 3) := by decide +kernel
theorem d_States_moveBehind_83 : decode b_States_moveBehind 83 = .ok (.bipush 55, 2) := by decide +kernel
theorem d_States_moveBehind_85 : decode b_States_moveBehind 85 = .ok (.imul, 1) := by decide +kernel
theorem d_States_moveBehind_86 : decode b_States_moveBehind 86 = .ok (.iload 7, 2) := by decide +kernel
theorem d_States_moveBehind_88 : decode b_States_moveBehind 88 = .ok (.iadd, 1) := by decide +kernel
theorem d_States_moveBehind_89 : decode b_States_moveBehind 89 = .ok (.iconst 1, 1) := by decide +kernel
theorem d_States_moveBehind_90 : decode b_States_moveBehind 90 = .ok (.iadd, 1) := by decide +kernel
theorem d_States_moveBehind_91 : decode b_States_moveBehind 91 = .ok (.iload 8, 2) := by decide +kernel
theorem d_States_moveBehind_93 : decode b_States_moveBehind 93 = .ok (.iastore, 1) := by decide +kernel
theorem d_States_moveBehind_94 : decode b_States_moveBehind 94 = .ok (.iconst 1, 1) := by decide +kernel
theorem d_States_moveBehind_95 : decode b_States_moveBehind 95 = .ok (.istore 4, 2) := by decide +kernel
theorem d_States_moveBehind_97 : decode b_States_moveBehind 97 = .ok (.iinc 6 1, 3) := by decide +kernel
theorem d_States_moveBehind_100 : decode b_States_moveBehind 100 = .ok (.goto (-76), 3) := by decide +kernel
theorem d_States_moveBehind_103 : decode b_States_moveBehind 103 = .ok (.iinc 5 1, 3) := by decide +kernel
theorem d_States_moveBehind_106 : decode b_States_moveBehind 106 = .ok (.goto (-92), 3) := by decide +kernel
theorem d_States_moveBehind_109 : decode b_States_moveBehind 109 = .ok (.iload 4, 2) := by decide +kernel
theorem d_States_moveBehind_111 : decode b_States_moveBehind 111 = .ok (.ireturn, 1) := by decide +kernel
theorem d_States_close_0 : decode b_States_close 0 = .ok (.iconst 1, 1) := by decide +kernel
theorem d_States_close_1 : decode b_States_close 1 = .ok (.istore_n 3, 1) := by decide +kernel
theorem d_States_close_2 : decode b_States_close 2 = .ok (.iconst 0, 1) := by decide +kernel
theorem d_States_close_3 : decode b_States_close 3 = .ok (.istore 4, 2) := by decide +kernel
theorem d_States_close_5 : decode b_States_close 5 = .ok (.iload_n 3, 1) := by decide +kernel
theorem d_States_close_6 : decode b_States_close 6 = .ok (.ifCond .eq 143, 3) := by decide +kernel
theorem d_States_close_9 : decode b_States_close 9 = .ok (.iload 4, 2) := by decide +kernel
theorem d_States_close_11 : decode b_States_close 11 = .ok (.bipush 70, 2) := by decide +kernel
theorem d_States_close_13 : decode b_States_close 13 = .ok (.if_icmp .gt 136, 3) := by decide +kernel
theorem d_States_close_16 : decode b_States_close 16 = .ok (.iconst 0, 1) := by decide +kernel
theorem d_States_close_17 : decode b_States_close 17 = .ok (.istore_n 3, 1) := by decide +kernel
theorem d_States_close_18 : decode b_States_close 18 = .ok (.iconst 0, 1) := by decide +kernel
theorem d_States_close_19 : decode b_States_close 19 = .ok (.istore 5, 2) := by decide +kernel
theorem d_States_close_21 : decode b_States_close 21 = .ok (.iload 5, 2) := by decide +kernel
theorem d_States_close_23 : decode b_States_close 23 = .ok (.bipush 10, 2) := by decide +kernel
theorem d_States_close_25 : decode b_States_close 25 = .ok (.if_icmp .gt 118, 3) := by decide +kernel
theorem d_States_close_28 : decode b_States_close 28 = .ok (.iconst 0, 1) := by decide +kernel
theorem d_States_close_29 : decode b_States_close 29 = .ok (.istore 6, 2) := by decide +kernel
theorem d_States_close_31 : decode b_States_close 31 = .ok (.iload 6, 2) := by decide +kernel
theorem d_States_close_33 : decode b_States_close 33 = .ok (.aload_n 1, 1) := by decide +kernel
theorem d_States_close_34 : decode b_States_close 34 = .ok (.iload 5, 2) := by decide +kernel
theorem d_States_close_36 : decode b_States_close 36 = .ok (.invokevirtual 64, 3) := by decide +kernel
theorem d_States_close_39 : decode b_States_close 39 = .ok (.if_icmp .ge 98, 3) := by decide +kernel
theorem d_States_close_42 : decode b_States_close 42 = .ok (.aload_n 0, 1) := by decide +kernel
theorem d_States_close_43 : decode b_States_close 43 = .ok (.getfield 11, 3) := by decide +kernel
theorem d_States_close_46 : decode b_States_close 46 = .ok (.iload_n 2, 1) := by decide +kernel
theorem d_States_close_47 : decode b_States_close 47 = .ok (.bipush 55, 2) := by decide +kernel
theorem d_States_close_49 : decode b_States_close 49 = .ok (.imul, 1) := by decide +kernel
theorem d_States_close_50 : decode b_States_close 50 = .ok (.iload 5, 2) := by decide +kernel
theorem d_States_close_52 : decode b_States_close 52 = .ok (.iconst 5, 1) := by decide +kernel
theorem d_States_close_53 : decode b_States_close 53 = .ok (.imul, 1) := by decide +kernel
theorem d_States_close_54 : decode b_States_close 54 = .ok (.iadd, 1) := by decide +kernel
theorem d_States_close_55 : decode b_States_close 55 = .ok (.iload 6, 2) := by decide +kernel
theorem d_States_close_57 : decode b_States_close 57 = .ok (.iadd, 1) := by decide +kernel
theorem d_States_close_58 : decode b_States_close 58 = .ok (.iaload, 1) := by decide +kernel
theorem d_States_close_59 : decode b_States_close 59 = .ok (.istore 7, 2) := by decide +kernel
theorem d_States_close_61 : decode b_States_close 61 = .ok (.aload_n 1, 1) := by decide +kernel
theorem d_States_close_62 : decode b_States_close 62 = .ok (.iload 5, 2) := by decide +kernel
theorem d_States_close_64 : decode b_States_close 64 = .ok (.iload 6, 2) := by decide +kernel
theorem d_States_close_66 : decode b_States_close 66 = .ok (.invokevirtual 69, 3) := by decide +kernel
theorem d_States_close_69 : decode b_States_close 69 = .ok (.istore 8, 2) := by decide +kernel
theorem d_States_close_71 : decode b_States_close 71 = .ok (.iload 7, 2) := by decide +kernel
theorem d_States_close_73 : decode b_States_close 73 = .ok (.ifCond .eq 58, 3) := by decide +kernel
theorem d_States_close_76 : decode b_States_close 76 = .ok (.iload 8, 2) := by decide +kernel
theorem d_States_close_78 : decode b_States_close 78 = .ok (.bipush 6, 2) := by decide +kernel
theorem d_States_close_80 : decode b_States_close 80 = .ok (.if_icmp .lt 51, 3) := by decide +kernel
theorem d_States_close_83 : decode b_States_close 83 = .ok (.aload_n 1, 1) := by decide +kernel
theorem d_States_close_84 : decode b_States_close 84 = .ok (.iload 5, 2) := by decide +kernel
theorem d_States_close_86 : decode b_States_close 86 = .ok (.iload 6, 2) := by decide +kernel
theorem d_States_close_88 : decode b_States_close 88 = .ok (.iconst 1, 1) := by decide +kernel
theorem d_States_close_89 : decode b_States_close 89 = .ok (.iadd, 1) := by decide +kernel
theorem d_States_close_90 : decode b_States_close 90 = .ok (.invokevirtual 73, 3) := by decide +kernel
theorem d_States_close_93 : decode b_States_close 93 = .ok (.istore 9, 2) := by decide +kernel
theorem d_States_close_95 : decode b_States_close 95 = .ok (.iload 9, 2) := by decide +kernel
theorem d_States_close_97 : decode b_States_close 97 = .ok (.bipush 64, 2) := by decide +kernel
theorem d_States_close_99 : decode b_States_close 99 = .ok (.iand, 1) := by decide +kernel
theorem d_States_close_100 : decode b_States_close 100 = .ok (.ifCond .eq 14, 3) := by decide +kernel
theorem d_States_close_103 : decode b_States_close 103 = .ok (.iload 9, 2) := by decide +kernel
theorem d_States_close_105 : decode b_States_close 105 = .ok (.bipush 63, 2) := by decide +kernel
theorem d_States_close_107 : decode b_States_close 107 = .ok (.iand, 1) := by decide +kernel
theorem d_States_close_108 : decode b_States_close 108 = .ok (.iload 7, 2) := by decide +kernel
theorem d_States_close_110 : decode b_States_close 110 = .ok (.ior, 1) := by decide +kernel
theorem d_States_close_111 : decode b_States_close 111 = .ok (.goto 5, 3) := by decide +kernel
theorem d_States_close_114 : decode b_States_close 114 = .ok (.iload 9, 2) := by decide +kernel
theorem d_States_close_116 : decode b_States_close 116 = .ok (.istore 10, 2) := by decide +kernel
theorem d_States_close_118 : decode b_States_close 118 = .ok (.iload_n 3, 1) := by decide +kernel
theorem d_States_close_119 : decode b_States_close 119 = .ok (.aload_n 0, 1) := by decide +kernel
theorem d_States_close_120 : decode b_States_close 120 = .ok (.aload_n 1, 1) := by decide +kernel
theorem d_States_close_121 : decode b_States_close 121 = .ok (.iload_n 2, 1) := by decide +kernel
theorem d_States_close_122 : decode b_States_close 122 = .ok (.iload 8, 2) := by decide +kernel
theorem d_States_close_124 : decode b_States_close 124 = .ok (.iload 10, 2) := by decide +kernel
theorem d_States_close_126 : decode b_States_close 126 = .ok (.invokevirtual 76, 3) := by decide +kernel
theorem d_States_close_129 : decode b_States_close 129 = .ok (.ior, 1) := by decide +kernel
theorem d_States_close_130 : decode b_States_close 130 = .ok (.istore_n 3, 1) := by decide +kernel
theorem d_States_close_131 : decode b_States_close 131 = .ok (.iinc 6 1, 3) := by decide +kernel
theorem d_States_close_134 : decode b_States_close 134 = .ok (.goto (-103), 3) := by decide +kernel
theorem d_States_close_137 : decode b_States_close 137 = .ok (.iinc 5 1, 3) := by decide +kernel
theorem d_States_close_140 : decode b_States_close 140 = .ok (.goto (-119), 3) := by decide +kernel
theorem d_States_close_143 : decode b_States_close 143 = .ok (.iinc 4 1, 3) := by decide +kernel
theorem d_States_close_146 : decode b_States_close 146 = .ok (.goto (-141), 3) := by decide +kernel
theorem d_States_close_149 : decode b_States_close 149 = .ok (.return_, 1) := by decide +kernel
theorem d_States_addRulesOf_0 : decode b_States_addRulesOf 0 = .ok (.iconst 0, 1) := by decide +kernel
theorem d_States_addRulesOf_1 : decode b_States_addRulesOf 1 = .ok (.istore 5, 2) := by decide +kernel
theorem d_States_addRulesOf_3 : decode b_States_addRulesOf 3 = .ok (.iconst 0, 1) := by decide +kernel
theorem d_States_addRulesOf_4 : decode b_States_addRulesOf 4 = .ok (.istore 6, 2) := by decide +kernel
theorem d_States_addRulesOf_6 : decode b_States_addRulesOf 6 = .ok (.iload 6, 2) := by decide +kernel
theorem d_States_addRulesOf_8 : decode b_States_addRulesOf 8 = .ok (.bipush 10, 2) := by decide +kernel
theorem d_States_addRulesOf_10 : decode b_States_addRulesOf 10 = .ok (.if_icmp .ge 74, 3) := by decide +kernel
theorem d_States_addRulesOf_13 : decode b_States_addRulesOf 13 = .ok (.iload_n 2, 1) := by decide +kernel
theorem d_States_addRulesOf_14 : decode b_States_addRulesOf 14 = .ok (.bipush 55, 2) := by decide +kernel
theorem d_States_addRulesOf_16 : decode b_States_addRulesOf 16 = .ok (.imul, 1) := by decide +kernel
theorem d_States_addRulesOf_17 : decode b_States_addRulesOf 17 = .ok (.iload 6, 2) := by decide +kernel
theorem d_States_addRulesOf_19 : decode b_States_addRulesOf 19 = .ok (.iconst 5, 1) := by decide +kernel
theorem d_States_addRulesOf_20 : decode b_States_addRulesOf 20 = .ok (.imul, 1) := by decide +kernel
theorem d_States_addRulesOf_21 : decode b_States_addRulesOf 21 = .ok (.iadd, 1) := by decide +kernel
theorem d_States_addRulesOf_22 : decode b_States_addRulesOf 22 = .ok (.istore 7, 2) := by decide +kernel
theorem d_States_addRulesOf_24 : decode b_States_addRulesOf 24 = .ok (.aload_n 1, 1) := by decide +kernel
theorem d_States_addRulesOf_25 : decode b_States_addRulesOf 25 = .ok (.iload 6, 2) := by decide +kernel
theorem d_States_addRulesOf_27 : decode b_States_addRulesOf 27 = .ok (.invokevirtual 80, 3) := by decide +kernel
theorem d_States_addRulesOf_30 : decode b_States_addRulesOf 30 = .ok (.ifCond .eq 48, 3) := by decide +kernel
theorem d_States_addRulesOf_33 : decode b_States_addRulesOf 33 = .ok (.aload_n 1, 1) := by decide +kernel
theorem d_States_addRulesOf_34 : decode b_States_addRulesOf 34 = .ok (.iload 6, 2) := by decide +kernel
theorem d_States_addRulesOf_36 : decode b_States_addRulesOf 36 = .ok (.invokevirtual 83, 3) := by decide +kernel
theorem d_States_addRulesOf_39 : decode b_States_addRulesOf 39 = .ok (.iload_n 3, 1) := by decide +kernel
theorem d_States_addRulesOf_40 : decode b_States_addRulesOf 40 = .ok (.if_icmp .ne 38, 3) := by decide +kernel
theorem d_States_addRulesOf_43 : decode b_States_addRulesOf 43 = .ok (.aload_n 0, 1) := by decide +kernel
theorem d_States_addRulesOf_44 : decode b_States_addRulesOf 44 = .ok (.getfield 11, 3) := by decide +kernel
theorem d_States_addRulesOf_47 : decode b_States_addRulesOf 47 = .ok (.iload 7, 2) := by decide +kernel
theorem d_States_addRulesOf_49 : decode b_States_addRulesOf 49 = .ok (.iaload, 1) := by decide +kernel
theorem d_States_addRulesOf_50 : decode b_States_addRulesOf 50 = .ok (.iload 4, 2) := by decide +kernel
theorem d_States_addRulesOf_52 : decode b_States_addRulesOf 52 = .ok (.ior, 1) := by decide +kernel
theorem d_States_addRulesOf_53 : decode b_States_addRulesOf 53 = .ok (.aload_n 0, 1) := by decide +kernel
theorem d_States_addRulesOf_54 : decode b_States_addRulesOf 54 = .ok (.getfield 11, 3) := by decide +kernel
theorem d_States_addRulesOf_57 : decode b_States_addRulesOf 57 = .ok (.iload 7, 2) := by decide +kernel
theorem d_States_addRulesOf_59 : decode b_States_addRulesOf 59 = .ok (.iaload, 1) := by decide +kernel
theorem d_States_addRulesOf_60 : decode b_States_addRulesOf 60 = .ok (.if_icmp .eq 18, 3) := by decide +kernel
theorem d_States_addRulesOf_63 : decode b_States_addRulesOf 63 = .ok (.aload_n 0, 1) := by decide +kernel
theorem d_States_addRulesOf_64 : decode b_States_addRulesOf 64 = .ok (.getfield 11, 3) := by decide +kernel
theorem d_States_addRulesOf_67 : decode b_States_addRulesOf 67 = .ok (.iload 7, 2) := by decide +kernel
theorem d_States_addRulesOf_69 : decode b_States_addRulesOf 69 = .ok (.dup2, 1) := by decide +kernel
theorem d_States_addRulesOf_70 : decode b_States_addRulesOf 70 = .ok (.iaload, 1) := by decide +kernel
theorem d_States_addRulesOf_71 : decode b_States_addRulesOf 71 = .ok (.iload 4, 2) := by decide +kernel
theorem d_States_addRulesOf_73 : decode b_States_addRulesOf 73 = .ok (.ior, 1) := by decide +kernel
theorem d_States_addRulesOf_74 : decode b_States_addRulesOf 74 = .ok (.iastore, 1) := by decide +kernel
theorem d_States_addRulesOf_75 : decode b_States_addRulesOf 75 = .ok (.iconst 1, 1) := by decide +kernel
theorem d_States_addRulesOf_76 : decode b_States_addRulesOf 76 = .ok (.istore 5, 2) := by decide +kernel
theorem d_States_addRulesOf_78 : decode b_States_addRulesOf 78 = .ok (.iinc 6 1, 3) := by decide +kernel
theorem d_States_addRulesOf_81 : decode b_States_addRulesOf 81 = .ok (.goto (-75), 3) := by decide +kernel
theorem d_States_addRulesOf_84 : decode b_States_addRulesOf 84 = .ok (.iload 5, 2) := by decide +kernel
theorem d_States_addRulesOf_86 : decode b_States_addRulesOf 86 = .ok (.ireturn, 1) := by decide +kernel
theorem d_States_isSameAsNew_0 : decode b_States_isSameAsNew 0 = .ok (.iconst 0, 1) := by decide +kernel
theorem d_States_isSameAsNew_1 : decode b_States_isSameAsNew 1 = .ok (.istore_n 2, 1) := by decide +kernel
theorem d_States_isSameAsNew_2 : decode b_States_isSameAsNew 2 = .ok (.iload_n 2, 1) := by decide +kernel
theorem d_States_isSameAsNew_3 : decode b_States_isSameAsNew 3 = .ok (.bipush 55, 2) := by decide +kernel
theorem d_States_isSameAsNew_5 : decode b_States_isSameAsNew 5 = .ok (.if_icmp .ge 39, 3) := by decide +kernel
theorem d_States_isSameAsNew_8 : decode b_States_isSameAsNew 8 = .ok (.aload_n 0, 1) := by decide +kernel
theorem d_States_isSameAsNew_9 : decode b_States_isSameAsNew 9 = .ok (.getfield 11, 3) := by decide +kernel
theorem d_States_isSameAsNew_12 : decode b_States_isSameAsNew 12 = .ok (.iload_n 1, 1) := by decide +kernel
theorem d_States_isSameAsNew_13 : decode b_States_isSameAsNew 13 = .ok (.bipush 55, 2) := by decide +kernel
theorem d_States_isSameAsNew_15 : decode b_States_isSameAsNew 15 = .ok (.imul, 1) := by decide +kernel
theorem d_States_isSameAsNew_16 : decode b_States_isSameAsNew 16 = .ok (.iload_n 2, 1) := by decide +kernel
theorem d_States_isSameAsNew_17 : decode b_States_isSameAsNew 17 = .ok (.iadd, 1) := by decide +kernel
theorem d_States_isSameAsNew_18 : decode b_States_isSameAsNew 18 = .ok (.iaload, 1) := by decide +kernel
theorem d_States_isSameAsNew_19 : decode b_States_isSameAsNew 19 = .ok (.aload_n 0, 1) := by decide +kernel
theorem d_States_isSameAsNew_20 : decode b_States_isSameAsNew 20 = .ok (.getfield 11, 3) := by decide +kernel
theorem d_States_isSameAsNew_23 : decode b_States_isSameAsNew 23 = .ok (.aload_n 0, 1) := by decide +kernel
theorem d_States_isSameAsNew_24 : decode b_States_isSameAsNew 24 = .ok (.getfield 21, 3) := by decide +kernel
theorem d_States_isSameAsNew_27 : decode b_States_isSameAsNew 27 = .ok (.bipush 55, 2) := by decide +kernel
theorem d_States_isSameAsNew_29 : decode b_States_isSameAsNew 29 = .ok (.imul, 1) := by decide +kernel
theorem d_States_isSameAsNew_30 : decode b_States_isSameAsNew 30 = .ok (.iload_n 2, 1) := by decide +kernel
theorem d_States_isSameAsNew_31 : decode b_States_isSameAsNew 31 = .ok (.iadd, 1) := by decide +kernel
theorem d_States_isSameAsNew_32 : decode b_States_isSameAsNew 32 = .ok (.iaload, 1) := by decide +kernel
theorem d_States_isSameAsNew_33 : decode b_States_isSameAsNew 33 = .ok (.if_icmp .eq 5, 3) := by decide +kernel
theorem d_States_isSameAsNew_36 : decode b_States_isSameAsNew 36 = .ok (.iconst 0, 1) := by decide +kernel
theorem d_States_isSameAsNew_37 : decode b_States_isSameAsNew 37 = .ok (.ireturn, 1) := by decide +kernel
theorem d_States_isSameAsNew_38 : decode b_States_isSameAsNew 38 = .ok (.iinc 2 1, 3) := by decide +kernel
theorem d_States_isSameAsNew_41 : decode b_States_isSameAsNew 41 = .ok (.goto (-39), 3) := by decide +kernel
theorem d_States_isSameAsNew_44 : decode b_States_isSameAsNew 44 = .ok (.iconst 1, 1) := by decide +kernel
theorem d_States_isSameAsNew_45 : decode b_States_isSameAsNew 45 = .ok (.ireturn, 1) := by decide +kernel
theorem d_States_makeReduced_0 : decode b_States_makeReduced 0 = .ok (.iconst 0, 1) := by decide +kernel
theorem d_States_makeReduced_1 : decode b_States_makeReduced 1 = .ok (.istore_n 2, 1) := by decide +kernel
theorem d_States_makeReduced_2 : decode b_States_makeReduced 2 = .ok (.iload_n 2, 1) := by decide +kernel
theorem d_States_makeReduced_3 : decode b_States_makeReduced 3 = .ok (.aload_n 0, 1) := by decide +kernel
theorem d_States_makeReduced_4 : decode b_States_makeReduced 4 = .ok (.getfield 21, 3) := by decide +kernel
theorem d_States_makeReduced_7 : decode b_States_makeReduced 7 = .ok (.if_icmp .ge 73, 3) := by decide +kernel
theorem d_States_makeReduced_10 : decode b_States_makeReduced 10 = .ok (.iconst 0, 1) := by decide +kernel
theorem d_States_makeReduced_11 : decode b_States_makeReduced 11 = .ok (.istore_n 3, 1) := by decide +kernel
theorem d_States_makeReduced_12 : decode b_States_makeReduced 12 = .ok (.iload_n 3, 1) := by decide +kernel
theorem d_States_makeReduced_13 : decode b_States_makeReduced 13 = .ok (.bipush 7, 2) := by decide +kernel
theorem d_States_makeReduced_15 : decode b_States_makeReduced 15 = .ok (.if_icmp .ge 21, 3) := by decide +kernel
theorem d_States_makeReduced_18 : decode b_States_makeReduced 18 = .ok (.aload_n 0, 1) := by decide +kernel
theorem d_States_makeReduced_19 : decode b_States_makeReduced 19 = .ok (.getfield 18, 3) := by decide +kernel
theorem d_States_makeReduced_22 : decode b_States_makeReduced 22 = .ok (.iload_n 2, 1) := by decide +kernel
theorem d_States_makeReduced_23 : decode b_States_makeReduced 23 = .ok (.bipush 7, 2) := by decide +kernel
theorem d_States_makeReduced_25 : decode b_States_makeReduced 25 = .ok (.imul, 1) := by decide +kernel
theorem d_States_makeReduced_26 : decode b_States_makeReduced 26 = .ok (.iload_n 3, 1) := by decide +kernel
theorem d_States_makeReduced_27 : decode b_States_makeReduced 27 = .ok (.iadd, 1) := by decide +kernel
theorem d_States_makeReduced_28 : decode b_States_makeReduced 28 = .ok (.iconst (-1), 1) := by decide +kernel
theorem d_States_makeReduced_29 : decode b_States_makeReduced 29 = .ok (.iastore, 1) := by decide +kernel
theorem d_States_makeReduced_30 : decode b_States_makeReduced 30 = .ok (.iinc 3 1, 3) := by decide +kernel
theorem d_States_makeReduced_33 : decode b_States_makeReduced 33 = .ok (.goto (-21), 3) := by decide +kernel
theorem d_States_makeReduced_36 : decode b_States_makeReduced 36 = .ok (.iconst 0, 1) := by decide +kernel
theorem d_States_makeReduced_37 : decode b_States_makeReduced 37 = .ok (.istore_n 3, 1) := by decide +kernel
theorem d_States_makeReduced_38 : decode b_States_makeReduced 38 = .ok (.iload_n 3, 1) := by decide +kernel
theorem d_States_makeReduced_39 : decode b_States_makeReduced 39 = .ok (.bipush 10, 2) := by decide +kernel
theorem d_States_makeReduced_41 : decode b_States_makeReduced 41 = .ok (.if_icmp .gt 33, 3) := by decide +kernel
theorem d_States_makeReduced_44 : decode b_States_makeReduced 44 = .ok (.aload_n 1, 1) := by decide +kernel
theorem d_States_makeReduced_45 : decode b_States_makeReduced 45 = .ok (.iload_n 3, 1) := by decide +kernel
theorem d_States_makeReduced_46 : decode b_States_makeReduced 46 = .ok (.invokevirtual 80, 3) := by decide +kernel
theorem d_States_makeReduced_49 : decode b_States_makeReduced 49 = .ok (.ifCond .eq 19, 3) := by decide +kernel
theorem d_States_makeReduced_52 : decode b_States_makeReduced 52 = .ok (.aload_n 0, 1) := by decide +kernel
theorem d_States_makeReduced_53 : decode b_States_makeReduced 53 = .ok (.iload_n 2, 1) := by decide +kernel
theorem d_States_makeReduced_54 : decode b_States_makeReduced 54 = .ok (.iload_n 3, 1) := by decide +kernel
theorem d_States_makeReduced_55 : decode b_States_makeReduced 55 = .ok (.aload_n 1, 1) := by decide +kernel
theorem d_States_makeReduced_56 : decode b_States_makeReduced 56 = .ok (.iload_n 3, 1) := by decide +kernel
theorem d_States_makeReduced_57 : decode b_States_makeReduced 57 = .ok (.invokevirtual 64, 3) := by decide +kernel
theorem d_States_makeReduced_60 : decode b_States_makeReduced 60 = .ok (.invokevirtual 86, 3) := by decide +kernel
theorem d_States_makeReduced_63 : decode b_States_makeReduced 63 = .ok (.ifCond .ne 5, 3) := by decide +kernel
theorem d_States_makeReduced_66 : decode b_States_makeReduced 66 = .ok (.iconst 0, 1) := by decide +kernel
theorem d_States_makeReduced_67 : decode b_States_makeReduced 67 = .ok (.ireturn, 1) := by decide +kernel
theorem d_States_makeReduced_68 : decode b_States_makeReduced 68 = .ok (.iinc 3 1, 3) := by decide +kernel
theorem d_States_makeReduced_71 : decode b_States_makeReduced 71 = .ok (.goto (-33), 3) := by decide +kernel
theorem d_States_makeReduced_74 : decode b_States_makeReduced 74 = .ok (.iinc 2 1, 3) := by decide +kernel
theorem d_States_makeReduced_77 : decode b_States_makeReduced 77 = .ok (.goto (-75), 3) := by decide +kernel
theorem d_States_makeReduced_80 : decode b_States_makeReduced 80 = .ok (.iconst 1, 1) := by decide +kernel
theorem d_States_makeReduced_81 : decode b_States_makeReduced 81 = .ok (.ireturn, 1) := by decide +kernel
theorem d_States_reduceAtEnd_0 : decode b_States_reduceAtEnd 0 = .ok (.aload_n 0, 1) := by decide +kernel
theorem d_States_reduceAtEnd_1 : decode b_States_reduceAtEnd 1 = .ok (.getfield 11, 3) := by decide +kernel
theorem d_States_reduceAtEnd_4 : decode b_States_reduceAtEnd 4 = .ok (.iload_n 1, 1) := by decide +kernel
theorem d_States_reduceAtEnd_5 : decode b_States_reduceAtEnd 5 = .ok (.bipush 55, 2) := by decide +kernel
theorem d_States_reduceAtEnd_7 : decode b_States_reduceAtEnd 7 = .ok (.imul, 1) := by decide +kernel
theorem d_States_reduceAtEnd_8 : decode b_States_reduceAtEnd 8 = .ok (.iload_n 2, 1) := by decide +kernel
theorem d_States_reduceAtEnd_9 : decode b_States_reduceAtEnd 9 = .ok (.iconst 5, 1) := by decide +kernel
theorem d_States_reduceAtEnd_10 : decode b_States_reduceAtEnd 10 = .ok (.imul, 1) := by decide +kernel
theorem d_States_reduceAtEnd_11 : decode b_States_reduceAtEnd 11 = .ok (.iadd, 1) := by decide +kernel
theorem d_States_reduceAtEnd_12 : decode b_States_reduceAtEnd 12 = .ok (.iload_n 3, 1) := by decide +kernel
theorem d_States_reduceAtEnd_13 : decode b_States_reduceAtEnd 13 = .ok (.iadd, 1) := by decide +kernel
theorem d_States_reduceAtEnd_14 : decode b_States_reduceAtEnd 14 = .ok (.iaload, 1) := by decide +kernel
theorem d_States_reduceAtEnd_15 : decode b_States_reduceAtEnd 15 = .ok (.istore 4, 2) := by decide +kernel
theorem d_States_reduceAtEnd_17 : decode b_States_reduceAtEnd 17 = .ok (.iconst 0, 1) := by decide +kernel
theorem d_States_reduceAtEnd_18 : decode b_States_reduceAtEnd 18 = .ok (.istore 5, 2) := by decide +kernel
theorem d_States_reduceAtEnd_20 : decode b_States_reduceAtEnd 20 = .ok (.iload 5, 2) := by decide +kernel
theorem d_States_reduceAtEnd_22 : decode b_States_reduceAtEnd 22 = .ok (.bipush 7, 2) := by decide +kernel
theorem d_States_reduceAtEnd_24 : decode b_States_reduceAtEnd 24 = .ok (.if_icmp .ge 73, 3) := by decide +kernel
theorem d_States_reduceAtEnd_27 : decode b_States_reduceAtEnd 27 = .ok (.iload 4, 2) := by decide +kernel
theorem d_States_reduceAtEnd_29 : decode b_States_reduceAtEnd 29 = .ok (.iconst 1, 1) := by decide +kernel
theorem d_States_reduceAtEnd_30 : decode b_States_reduceAtEnd 30 = .ok (.iload 5, 2) := by decide +kernel
theorem d_States_reduceAtEnd_32 : decode b_States_reduceAtEnd 32 = .ok (.ishl, 1) := by decide +kernel
theorem d_States_reduceAtEnd_33 : decode b_States_reduceAtEnd 33 = .ok (.iand, 1) := by decide +kernel
theorem d_States_reduceAtEnd_34 : decode b_States_reduceAtEnd 34 = .ok (.ifCond .eq 57, 3) := by decide +kernel
theorem d_States_reduceAtEnd_37 : decode b_States_reduceAtEnd 37 = .ok (.iload 5, 2) := by decide +kernel
theorem d_States_reduceAtEnd_39 : decode b_States_reduceAtEnd 39 = .ok (.bipush 6, 2) := by decide +kernel
theorem d_States_reduceAtEnd_41 : decode b_States_reduceAtEnd 41 = .ok (.if_icmp .eq 17, 3) := by decide +kernel
theorem d_States_reduceAtEnd_44 : decode b_States_reduceAtEnd 44 = .ok (.aload_n 0, 1) := by decide +kernel
theorem d_States_reduceAtEnd_45 : decode b_States_reduceAtEnd 45 = .ok (.iload_n 1, 1) := by decide +kernel
theorem d_States_reduceAtEnd_46 : decode b_States_reduceAtEnd 46 = .ok (.iload 5, 2) := by decide +kernel
theorem d_States_reduceAtEnd_48 : decode b_States_reduceAtEnd 48 = .ok (.invokevirtual 90, 3) := by decide +kernel
theorem d_States_reduceAtEnd_51 : decode b_States_reduceAtEnd 51 = .ok (.ifCond .lt 7, 3) := by decide +kernel
theorem d_States_reduceAtEnd_54 : decode b_States_reduceAtEnd 54 = .ok (.iconst 1, 1) := by decide +kernel
theorem d_States_reduceAtEnd_55 : decode b_States_reduceAtEnd 55 = .ok (.goto 4, 3) := by decide +kernel
theorem d_States_reduceAtEnd_58 : decode b_States_reduceAtEnd 58 = .ok (.iconst 0, 1) := by decide +kernel
theorem d_States_reduceAtEnd_59 : decode b_States_reduceAtEnd 59 = .ok (.istore 6, 2) := by decide +kernel
theorem d_States_reduceAtEnd_61 : decode b_States_reduceAtEnd 61 = .ok (.iload 6, 2) := by decide +kernel
theorem d_States_reduceAtEnd_63 : decode b_States_reduceAtEnd 63 = .ok (.ifCond .ne 13, 3) := by decide +kernel
theorem d_States_reduceAtEnd_66 : decode b_States_reduceAtEnd 66 = .ok (.aload_n 0, 1) := by decide +kernel
theorem d_States_reduceAtEnd_67 : decode b_States_reduceAtEnd 67 = .ok (.iload_n 1, 1) := by decide +kernel
theorem d_States_reduceAtEnd_68 : decode b_States_reduceAtEnd 68 = .ok (.iload 5, 2) := by decide +kernel
theorem d_States_reduceAtEnd_70 : decode b_States_reduceAtEnd 70 = .ok (.invokevirtual 93, 3) := by decide +kernel
theorem d_States_reduceAtEnd_73 : decode b_States_reduceAtEnd 73 = .ok (.ifCond .lt 5, 3) := by decide +kernel
theorem d_States_reduceAtEnd_76 : decode b_States_reduceAtEnd 76 = .ok (.iconst 0, 1) := by decide +kernel
theorem d_States_reduceAtEnd_77 : decode b_States_reduceAtEnd 77 = .ok (.ireturn, 1) := by decide +kernel
theorem d_States_reduceAtEnd_78 : decode b_States_reduceAtEnd 78 = .ok (.aload_n 0, 1) := by decide +kernel
theorem d_States_reduceAtEnd_79 : decode b_States_reduceAtEnd 79 = .ok (.getfield 18, 3) := by decide +kernel
theorem d_States_reduceAtEnd_82 : decode b_States_reduceAtEnd 82 = .ok (.iload_n 1, 1) := by decide +kernel
theorem d_States_reduceAtEnd_83 : decode b_States_reduceAtEnd 83 = .ok (.bipush 7, 2) := by decide +kernel
theorem d_States_reduceAtEnd_85 : decode b_States_reduceAtEnd 85 = .ok (.imul, 1) := by decide +kernel
theorem d_States_reduceAtEnd_86 : decode b_States_reduceAtEnd 86 = .ok (.iload 5, 2) := by decide +kernel
theorem d_States_reduceAtEnd_88 : decode b_States_reduceAtEnd 88 = .ok (.iadd, 1) := by decide +kernel
theorem d_States_reduceAtEnd_89 : decode b_States_reduceAtEnd 89 = .ok (.iload_n 2, 1) := by decide +kernel
theorem d_States_reduceAtEnd_90 : decode b_States_reduceAtEnd 90 = .ok (.iastore, 1) := by decide +kernel
theorem d_States_reduceAtEnd_91 : decode b_States_reduceAtEnd 91 = .ok (.iinc 5 1, 3) := by decide +kernel
theorem d_States_reduceAtEnd_94 : decode b_States_reduceAtEnd 94 = .ok (.goto (-74), 3) := by decide +kernel
theorem d_States_reduceAtEnd_97 : decode b_States_reduceAtEnd 97 = .ok (.iconst 1, 1) := by decide +kernel
theorem d_States_reduceAtEnd_98 : decode b_States_reduceAtEnd 98 = .ok (.ireturn, 1) := by decide +kernel
