theorem d_Grammar_init_0 : decode b_Grammar_init 0 = .ok (.aload_n 0, 1) := by decide +kernel
theorem d_Grammar_init_1 : decode b_Grammar_init 1 = .ok (.invokespecial 3, 3) := by decide +kernel
theorem d_Grammar_init_4 : decode b_Grammar_init 4 = .ok (.aload_n 0, 1) := by decide +kernel
theorem d_Grammar_init_5 : decode b_Grammar_init 5 = .ok (.bipush 12, 2) := by decide +kernel
theorem d_Grammar_init_7 : decode b_Grammar_init 7 = .ok (.newarray .int, 2) := by decide +kernel
theorem d_Grammar_init_9 : decode b_Grammar_init 9 = .ok (.putfield 9, 3) := by decide +kernel
theorem d_Grammar_init_12 : decode b_Grammar_init 12 = .ok (.aload_n 0, 1) := by decide +kernel
theorem d_Grammar_init_13 : decode b_Grammar_init 13 = .ok (.bipush 12, 2) := by decide +kernel
theorem d_Grammar_init_15 : decode b_Grammar_init 15 = .ok (.newarray .int, 2) := by decide +kernel
theorem d_Grammar_init_17 : decode b_Grammar_init 17 = .ok (.putfield 15, 3) := by decide +kernel
theorem d_Grammar_init_20 : decode b_Grammar_init 20 = .ok (.aload_n 0, 1) := by decide +kernel
theorem d_Grammar_init_21 : decode b_Grammar_init 21 = .ok (.bipush 48, 2) := by decide +kernel
theorem d_Grammar_init_23 : decode b_Grammar_init 23 = .ok (.newarray .int, 2) := by decide +kernel
theorem d_Grammar_init_25 : decode b_Grammar_init 25 = .ok (.putfield 18, 3) := by decide +kernel
theorem d_Grammar_init_28 : decode b_Grammar_init 28 = .ok (.aload_n 0, 1) := by decide +kernel
theorem d_Grammar_init_29 : decode b_Grammar_init 29 = .ok (.bipush 12, 2) := by decide +kernel
theorem d_Grammar_init_31 : decode b_Grammar_init 31 = .ok (.newarray .boolean, 2) := by decide +kernel
theorem d_Grammar_init_33 : decode b_Grammar_init 33 = .ok (.putfield 21, 3) := by decide +kernel
theorem d_Grammar_init_36 : decode b_Grammar_init 36 = .ok (.aload_n 0, 1) := by decide +kernel
theorem d_Grammar_init_37 : decode b_Grammar_init 37 = .ok (.bipush 6, 2) := by decide +kernel
theorem d_Grammar_init_39 : decode b_Grammar_init 39 = .ok (.newarray .boolean, 2) := by decide +kernel
theorem d_Grammar_init_41 : decode b_Grammar_init 41 = .ok (.putfield 25, 3) := by decide +kernel
theorem d_Grammar_init_44 : decode b_Grammar_init 44 = .ok (.aload_n 0, 1) := by decide +kernel
theorem d_Grammar_init_45 : decode b_Grammar_init 45 = .ok (.bipush 6, 2) := by decide +kernel
theorem d_Grammar_init_47 : decode b_Grammar_init 47 = .ok (.newarray .int, 2) := by decide +kernel
theorem d_Grammar_init_49 : decode b_Grammar_init 49 = .ok (.putfield 28, 3) := by decide +kernel
theorem d_Grammar_init_52 : decode b_Grammar_init 52 = .ok (.return_, 1) := by decide +kernel
theorem d_Grammar_ruleCount_0 : decode b_Grammar_ruleCount 0 = .ok (.aload_n 0, 1) := by decide +kernel
theorem d_Grammar_ruleCount_1 : decode b_Grammar_ruleCount 1 = .ok (.getfield 31, 3) := by decide +kernel
theorem d_Grammar_ruleCount_4 : decode b_Grammar_ruleCount 4 = .ok (.ireturn, 1) := by decide +kernel
theorem d_Grammar_readDraft_0 : decode b_Grammar_readDraft 0 = .ok (.aload_n 1, 1) := by decide +kernel
theorem d_Grammar_readDraft_1 : decode b_Grammar_readDraft 1 = .ok (.invokevirtual 35, 3) := by decide +kernel
theorem d_Grammar_readDraft_4 : decode b_Grammar_readDraft 4 = .ok (.iconst 2, 1) := by decide +kernel
theorem d_Grammar_readDraft_5 : decode b_Grammar_readDraft 5 = .ok (.isub, 1) := by decide +kernel
theorem d_Grammar_readDraft_6 : decode b_Grammar_readDraft 6 = .ok (.istore_n 2, 1) := by decide +kernel
theorem d_Grammar_readDraft_7 : decode b_Grammar_readDraft 7 = .ok (.aload_n 1, 1) := by decide +kernel
theorem d_Grammar_readDraft_8 : decode b_Grammar_readDraft 8 = .ok (.iconst 0, 1) := by decide +kernel
theorem d_Grammar_readDraft_9 : decode b_Grammar_readDraft 9 = .ok (.invokevirtual 41, 3) := by decide +kernel
theorem d_Grammar_readDraft_12 : decode b_Grammar_readDraft 12 = .ok (.istore_n 3, 1) := by decide +kernel
theorem d_Grammar_readDraft_13 : decode b_Grammar_readDraft 13 = .ok (.iload_n 2, 1) := by decide +kernel
theorem d_Grammar_readDraft_14 : decode b_Grammar_readDraft 14 = .ok (.ifCond .lt 22, 3) := by decide +kernel
theorem d_Grammar_readDraft_17 : decode b_Grammar_readDraft 17 = .ok (.iload_n 2, 1) := by decide +kernel
theorem d_Grammar_readDraft_18 : decode b_Grammar_readDraft 18 = .ok (.iconst 4, 1) := by decide +kernel
theorem d_Grammar_readDraft_19 : decode b_Grammar_readDraft 19 = .ok (.if_icmp .gt 17, 3) := by decide +kernel
theorem d_Grammar_readDraft_22 : decode b_Grammar_readDraft 22 = .ok (.iload_n 3, 1) := by decide +kernel
theorem d_Grammar_readDraft_23 : decode b_Grammar_readDraft 23 = .ok (.bipush 6, 2) := by decide +kernel
theorem d_Grammar_readDraft_25 : decode b_Grammar_readDraft 25 = .ok (.if_icmp .lt 11, 3) := by decide +kernel
theorem d_Grammar_readDraft_28 : decode b_Grammar_readDraft 28 = .ok (.aload_n 1, 1) := by decide +kernel
theorem d_Grammar_readDraft_29 : decode b_Grammar_readDraft 29 = .ok (.iconst 1, 1) := by decide +kernel
theorem d_Grammar_readDraft_30 : decode b_Grammar_readDraft 30 = .ok (.invokevirtual 45, 3) := by decide +kernel
theorem d_Grammar_readDraft_33 : decode b_Grammar_readDraft 33 = .ok (.ifCond .ne 5, 3) := by decide +kernel
theorem d_Grammar_readDraft_36 : decode b_Grammar_readDraft 36 = .ok (.iconst 0, 1) := by decide +kernel
theorem d_Grammar_readDraft_37 : decode b_Grammar_readDraft 37 = .ok (.ireturn, 1) := by decide +kernel
theorem d_Grammar_readDraft_38 : decode b_Grammar_readDraft 38 = .ok (.iconst 0, 1) := by decide +kernel
theorem d_Grammar_readDraft_39 : decode b_Grammar_readDraft 39 = .ok (.istore 4, 2) := by decide +kernel
theorem d_Grammar_readDraft_41 : decode b_Grammar_readDraft 41 = .ok (.iload 4, 2) := by decide +kernel
theorem d_Grammar_readDraft_43 : decode b_Grammar_readDraft 43 = .ok (.iload_n 2, 1) := by decide +kernel
theorem d_Grammar_readDraft_44 : decode b_Grammar_readDraft 44 = .ok (.if_icmp .ge 38, 3) := by decide +kernel
theorem d_Grammar_readDraft_47 : decode b_Grammar_readDraft 47 = .ok (.aload_n 1, 1) := by decide +kernel
theorem d_Grammar_readDraft_48 : decode b_Grammar_readDraft 48 = .ok (.iload 4, 2) := by decide +kernel
theorem d_Grammar_readDraft_50 : decode b_Grammar_readDraft 50 = .ok (.iconst 2, 1) := by decide +kernel
theorem d_Grammar_readDraft_51 : decode b_Grammar_readDraft 51 = .ok (.iadd, 1) := by decide +kernel
theorem d_Grammar_readDraft_52 : decode b_Grammar_readDraft 52 = .ok (.invokevirtual 41, 3) := by decide +kernel
theorem d_Grammar_readDraft_55 : decode b_Grammar_readDraft 55 = .ok (.istore 5, 2) := by decide +kernel
theorem d_Grammar_readDraft_57 : decode b_Grammar_readDraft 57 = .ok (.iload 5, 2) := by decide +kernel
theorem d_Grammar_readDraft_59 : decode b_Grammar_readDraft 59 = .ok (.ifCond .ge 5, 3) := by decide +kernel
theorem d_Grammar_readDraft_62 : decode b_Grammar_readDraft 62 = .ok (.iconst 0, 1) := by decide +kernel
theorem d_Grammar_readDraft_63 : decode b_Grammar_readDraft 63 = .ok (.ireturn, 1) := by decide +kernel
theorem d_Grammar_readDraft_64 : decode b_Grammar_readDraft 64 = .ok (.aload_n 0, 1) := by decide +kernel
theorem d_Grammar_readDraft_65 : decode b_Grammar_readDraft 65 = .ok (.getfield 18, 3) := by decide +kernel
theorem d_Grammar_readDraft_68 : decode b_Grammar_readDraft 68 = .ok (.bipush 44, 2) := by decide +kernel
theorem d_Grammar_readDraft_70 : decode b_Grammar_readDraft 70 = .ok (.iload 4, 2) := by decide +kernel
theorem d_Grammar_readDraft_72 : decode b_Grammar_readDraft 72 = .ok (.iadd, 1) := by decide +kernel
theorem d_Grammar_readDraft_73 : decode b_Grammar_readDraft 73 = .ok (.iload 5, 2) := by decide +kernel
theorem d_Grammar_readDraft_75 : decode b_Grammar_readDraft 75 = .ok (.iastore, 1) := by decide +kernel
theorem d_Grammar_readDraft_76 : decode b_Grammar_readDraft 76 = .ok (.iinc 4 1, 3) := by decide +kernel
theorem d_Grammar_readDraft_79 : decode b_Grammar_readDraft 79 = .ok (.goto (-38), 3) := by decide +kernel
theorem d_Grammar_readDraft_82 : decode b_Grammar_readDraft 82 = .ok (.aload_n 0, 1) := by decide +kernel
theorem d_Grammar_readDraft_83 : decode b_Grammar_readDraft 83 = .ok (.getfield 9, 3) := by decide +kernel
theorem d_Grammar_readDraft_86 : decode b_Grammar_readDraft 86 = .ok (.bipush 11, 2) := by decide +kernel
theorem d_Grammar_readDraft_88 : decode b_Grammar_readDraft 88 = .ok (.iload_n 3, 1) := by decide +kernel
theorem d_Grammar_readDraft_89 : decode b_Grammar_readDraft 89 = .ok (.iastore, 1) := by decide +kernel
theorem d_Grammar_readDraft_90 : decode b_Grammar_readDraft 90 = .ok (.aload_n 0, 1) := by decide +kernel
theorem d_Grammar_readDraft_91 : decode b_Grammar_readDraft 91 = .ok (.getfield 15, 3) := by decide +kernel
theorem d_Grammar_readDraft_94 : decode b_Grammar_readDraft 94 = .ok (.bipush 11, 2) := by decide +kernel
theorem d_Grammar_readDraft_96 : decode b_Grammar_readDraft 96 = .ok (.iload_n 2, 1) := by decide +kernel
theorem d_Grammar_readDraft_97 : decode b_Grammar_readDraft 97 = .ok (.iastore, 1) := by decide +kernel
theorem d_Grammar_readDraft_98 : decode b_Grammar_readDraft 98 = .ok (.iconst 1, 1) := by decide +kernel
theorem d_Grammar_readDraft_99 : decode b_Grammar_readDraft 99 = .ok (.ireturn, 1) := by decide +kernel
theorem d_Grammar_knowsDraft_0 : decode b_Grammar_knowsDraft 0 = .ok (.iconst 0, 1) := by decide +kernel
theorem d_Grammar_knowsDraft_1 : decode b_Grammar_knowsDraft 1 = .ok (.istore_n 1, 1) := by decide +kernel
theorem d_Grammar_knowsDraft_2 : decode b_Grammar_knowsDraft 2 = .ok (.iload_n 1, 1) := by decide +kernel
theorem d_Grammar_knowsDraft_3 : decode b_Grammar_knowsDraft 3 = .ok (.aload_n 0, 1) := by decide +kernel
theorem d_Grammar_knowsDraft_4 : decode b_Grammar_knowsDraft 4 = .ok (.getfield 31, 3) := by decide +kernel
theorem d_Grammar_knowsDraft_7 : decode b_Grammar_knowsDraft 7 = .ok (.if_icmp .ge 19, 3) := by decide +kernel
theorem d_Grammar_knowsDraft_10 : decode b_Grammar_knowsDraft 10 = .ok (.aload_n 0, 1) := by decide +kernel
theorem d_Grammar_knowsDraft_11 : decode b_Grammar_knowsDraft 11 = .ok (.iload_n 1, 1) := by decide +kernel
theorem d_Grammar_knowsDraft_12 : decode b_Grammar_knowsDraft 12 = .ok (.invokevirtual 49, 3) := by decide +kernel
theorem d_Grammar_knowsDraft_15 : decode b_Grammar_knowsDraft 15 = .ok (.ifCond .eq 5, 3) := by decide +kernel
theorem d_Grammar_knowsDraft_18 : decode b_Grammar_knowsDraft 18 = .ok (.iconst 1, 1) := by decide +kernel
theorem d_Grammar_knowsDraft_19 : decode b_Grammar_knowsDraft 19 = .ok (.ireturn, 1) := by decide +kernel
theorem d_Grammar_knowsDraft_20 : decode b_Grammar_knowsDraft 20 = .ok (.iinc 1 1, 3) := by decide +kernel
theorem d_Grammar_knowsDraft_23 : decode b_Grammar_knowsDraft 23 = .ok (.goto (-21), 3) := by decide +kernel
theorem d_Grammar_knowsDraft_26 : decode b_Grammar_knowsDraft 26 = .ok (.iconst 0, 1) := by decide +kernel
theorem d_Grammar_knowsDraft_27 : decode b_Grammar_knowsDraft 27 = .ok (.ireturn, 1) := by decide +kernel
theorem d_Grammar_isLikeDraft_0 : decode b_Grammar_isLikeDraft 0 = .ok (.aload_n 0, 1) := by decide +kernel
theorem d_Grammar_isLikeDraft_1 : decode b_Grammar_isLikeDraft 1 = .ok (.getfield 9, 3) := by decide +kernel
theorem d_Grammar_isLikeDraft_4 : decode b_Grammar_isLikeDraft 4 = .ok (.iload_n 1, 1) := by decide +kernel
theorem d_Grammar_isLikeDraft_5 : decode b_Grammar_isLikeDraft 5 = .ok (.iaload, 1) := by decide +kernel
theorem d_Grammar_isLikeDraft_6 : decode b_Grammar_isLikeDraft 6 = .ok (.aload_n 0, 1) := by decide +kernel
theorem d_Grammar_isLikeDraft_7 : decode b_Grammar_isLikeDraft 7 = .ok (.getfield 9, 3) := by decide +kernel
theorem d_Grammar_isLikeDraft_10 : decode b_Grammar_isLikeDraft 10 = .ok (.bipush 11, 2) := by decide +kernel
theorem d_Grammar_isLikeDraft_12 : decode b_Grammar_isLikeDraft 12 = .ok (.iaload, 1) := by decide +kernel
theorem d_Grammar_isLikeDraft_13 : decode b_Grammar_isLikeDraft 13 = .ok (.if_icmp .ne 19, 3) := by decide +kernel
theorem d_Grammar_isLikeDraft_16 : decode b_Grammar_isLikeDraft 16 = .ok (.aload_n 0, 1) := by decide +kernel
theorem d_Grammar_isLikeDraft_17 : decode b_Grammar_isLikeDraft 17 = .ok (.getfield 15, 3) := by decide +kernel
theorem d_Grammar_isLikeDraft_20 : decode b_Grammar_isLikeDraft 20 = .ok (.iload_n 1, 1) := by decide +kernel
theorem d_Grammar_isLikeDraft_21 : decode b_Grammar_isLikeDraft 21 = .ok (.iaload, 1) := by decide +kernel
theorem d_Grammar_isLikeDraft_22 : decode b_Grammar_isLikeDraft 22 = .ok (.aload_n 0, 1) := by decide +kernel
theorem d_Grammar_isLikeDraft_23 : decode b_Grammar_isLikeDraft 23 = .ok (.getfield 15, 3) := by decide +kernel
theorem d_Grammar_isLikeDraft_26 : decode b_Grammar_isLikeDraft 26 = .ok (.bipush 11, 2) := by decide +kernel
theorem d_Grammar_isLikeDraft_28 : decode b_Grammar_isLikeDraft 28 = .ok (.iaload, 1) := by decide +kernel
theorem d_Grammar_isLikeDraft_29 : decode b_Grammar_isLikeDraft 29 = .ok (.if_icmp .eq 5, 3) := by decide +kernel
theorem d_Grammar_isLikeDraft_32 : decode b_Grammar_isLikeDraft 32 = .ok (.iconst 0, 1) := by decide +kernel
theorem d_Grammar_isLikeDraft_33 : decode b_Grammar_isLikeDraft 33 = .ok (.ireturn, 1) := by decide +kernel
theorem d_Grammar_isLikeDraft_34 : decode b_Grammar_isLikeDraft 34 = .ok (.iconst 0, 1) := by decide +kernel
theorem d_Grammar_isLikeDraft_35 : decode b_Grammar_isLikeDraft 35 = .ok (.istore_n 2, 1) := by decide +kernel
theorem d_Grammar_isLikeDraft_36 : decode b_Grammar_isLikeDraft 36 = .ok (.iload_n 2, 1) := by decide +kernel
theorem d_Grammar_isLikeDraft_37 : decode b_Grammar_isLikeDraft 37 = .ok (.aload_n 0, 1) := by decide +kernel
theorem d_Grammar_isLikeDraft_38 : decode b_Grammar_isLikeDraft 38 = .ok (.getfield 15, 3) := by decide +kernel
theorem d_Grammar_isLikeDraft_41 : decode b_Grammar_isLikeDraft 41 = .ok (.iload_n 1, 1) := by decide +kernel
theorem d_Grammar_isLikeDraft_42 : decode b_Grammar_isLikeDraft 42 = .ok (.iaload, 1) := by decide +kernel
theorem d_Grammar_isLikeDraft_43 : decode b_Grammar_isLikeDraft 43 = .ok (.if_icmp .ge 33, 3) := by decide +kernel
theorem d_Grammar_isLikeDraft_46 : decode b_Grammar_isLikeDraft 46 = .ok (.aload_n 0, 1) := by decide +kernel
theorem d_Grammar_isLikeDraft_47 : decode b_Grammar_isLikeDraft 47 = .ok (.getfield 18, 3) := by decide +kernel
theorem d_Grammar_isLikeDraft_50 : decode b_Grammar_isLikeDraft 50 = .ok (.iload_n 1, 1) := by decide +kernel
theorem d_Grammar_isLikeDraft_51 : decode b_Grammar_isLikeDraft 51 = .ok (.iconst 4, 1) := by decide +kernel
theorem d_Grammar_isLikeDraft_52 : decode b_Grammar_isLikeDraft 52 = .ok (.imul, 1) := by decide +kernel
theorem d_Grammar_isLikeDraft_53 : decode b_Grammar_isLikeDraft 53 = .ok (.iload_n 2, 1) := by decide +kernel
theorem d_Grammar_isLikeDraft_54 : decode b_Grammar_isLikeDraft 54 = .ok (.iadd, 1) := by decide +kernel
theorem d_Grammar_isLikeDraft_55 : decode b_Grammar_isLikeDraft 55 = .ok (.iaload, 1) := by decide +kernel
theorem d_Grammar_isLikeDraft_56 : decode b_Grammar_isLikeDraft 56 = .ok (.aload_n 0, 1) := by decide +kernel
theorem d_Grammar_isLikeDraft_57 : decode b_Grammar_isLikeDraft 57 = .ok (.getfield 18, 3) := by decide +kernel
theorem d_Grammar_isLikeDraft_60 : decode b_Grammar_isLikeDraft 60 = .ok (.bipush 44, 2) := by decide +kernel
theorem d_Grammar_isLikeDraft_62 : decode b_Grammar_isLikeDraft 62 = .ok (.iload_n 2, 1) := by decide +kernel
theorem d_Grammar_isLikeDraft_63 : decode b_Grammar_isLikeDraft 63 = .ok (.iadd, 1) := by decide +kernel
theorem d_Grammar_isLikeDraft_64 : decode b_Grammar_isLikeDraft 64 = .ok (.iaload, 1) := by decide +kernel
theorem d_Grammar_isLikeDraft_65 : decode b_Grammar_isLikeDraft 65 = .ok (.if_icmp .eq 5, 3) := by decide +kernel
theorem d_Grammar_isLikeDraft_68 : decode b_Grammar_isLikeDraft 68 = .ok (.iconst 0, 1) := by decide +kernel
theorem d_Grammar_isLikeDraft_69 : decode b_Grammar_isLikeDraft 69 = .ok (.ireturn, 1) := by decide +kernel
theorem d_Grammar_isLikeDraft_70 : decode b_Grammar_isLikeDraft 70 = .ok (.iinc 2 1, 3) := by decide +kernel
theorem d_Grammar_isLikeDraft_73 : decode b_Grammar_isLikeDraft 73 = .ok (.goto (-37), 3) := by decide +kernel
theorem d_Grammar_isLikeDraft_76 : decode b_Grammar_isLikeDraft 76 = .ok (.iconst 1, 1) := by decide +kernel
theorem d_Grammar_isLikeDraft_77 : decode b_Grammar_isLikeDraft 77 = .ok (.ireturn, 1) := by decide +kernel
theorem d_Grammar_addDraft_0 : decode b_Grammar_addDraft 0 = .ok (.aload_n 0, 1) := by decide +kernel
theorem d_Grammar_addDraft_1 : decode b_Grammar_addDraft 1 = .ok (.getfield 31, 3) := by decide +kernel
theorem d_Grammar_addDraft_4 : decode b_Grammar_addDraft 4 = .ok (.bipush 10, 2) := by decide +kernel
theorem d_Grammar_addDraft_6 : decode b_Grammar_addDraft 6 = .ok (.if_icmp .lt 5, 3) := by decide +kernel
theorem d_Grammar_addDraft_9 : decode b_Grammar_addDraft 9 = .ok (.iconst (-1), 1) := by decide +kernel
theorem d_Grammar_addDraft_10 : decode b_Grammar_addDraft 10 = .ok (.ireturn, 1) := by decide +kernel
theorem d_Grammar_addDraft_11 : decode b_Grammar_addDraft 11 = .ok (.aload_n 0, 1) := by decide +kernel
theorem d_Grammar_addDraft_12 : decode b_Grammar_addDraft 12 = .ok (.getfield 9, 3) := by decide +kernel
theorem d_Grammar_addDraft_15 : decode b_Grammar_addDraft 15 = .ok (.aload_n 0, 1) := by decide +kernel
theorem d_Grammar_addDraft_16 : decode b_Grammar_addDraft 16 = .ok (.getfield 31, 3) := by decide +kernel
theorem d_Grammar_addDraft_19 : decode b_Grammar_addDraft 19 = .ok (.aload_n 0, 1) := by decide +kernel
theorem d_Grammar_addDraft_20 : decode b_Grammar_addDraft 20 = .ok (.getfield 9, 3) := by decide +kernel
theorem d_Grammar_addDraft_23 : decode b_Grammar_addDraft 23 = .ok (.bipush 11, 2) := by decide +kernel
theorem d_Grammar_addDraft_25 : decode b_Grammar_addDraft 25 = .ok (.iaload, 1) := by decide +kernel
theorem d_Grammar_addDraft_26 : decode b_Grammar_addDraft 26 = .ok (.iastore, 1) := by decide +kernel
theorem d_Grammar_addDraft_27 : decode b_Grammar_addDraft 27 = .ok (.aload_n 0, 1) := by decide +kernel
theorem d_Grammar_addDraft_28 : decode b_Grammar_addDraft 28 = .ok (.getfield 15, 3) := by decide +kernel
theorem d_Grammar_addDraft_31 : decode b_Grammar_addDraft 31 = .ok (.aload_n 0, 1) := by decide +kernel
theorem d_Grammar_addDraft_32 : decode b_Grammar_addDraft 32 = .ok (.getfield 31, 3) := by decide +kernel
theorem d_Grammar_addDraft_35 : decode b_Grammar_addDraft 35 = .ok (.aload_n 0, 1) := by decide +kernel
theorem d_Grammar_addDraft_36 : decode b_Grammar_addDraft 36 = .ok (.getfield 15, 3) := by decide +kernel
theorem d_Grammar_addDraft_39 : decode b_Grammar_addDraft 39 = .ok (.bipush 11, 2) := by decide +kernel
theorem d_Grammar_addDraft_41 : decode b_Grammar_addDraft 41 = .ok (.iaload, 1) := by decide +kernel
theorem d_Grammar_addDraft_42 : decode b_Grammar_addDraft 42 = .ok (.iastore, 1) := by decide +kernel
theorem d_Grammar_addDraft_43 : decode b_Grammar_addDraft 43 = .ok (.iconst 0, 1) := by decide +kernel
theorem d_Grammar_addDraft_44 : decode b_Grammar_addDraft 44 = .ok (.istore_n 1, 1) := by decide +kernel
theorem d_Grammar_addDraft_45 : decode b_Grammar_addDraft 45 = .ok (.iload_n 1, 1) := by decide +kernel
theorem d_Grammar_addDraft_46 : decode b_Grammar_addDraft 46 = .ok (.iconst 4, 1) := by decide +kernel
theorem d_Grammar_addDraft_47 : decode b_Grammar_addDraft 47 = .ok (.if_icmp .ge 31, 3) := by decide +kernel
theorem d_Grammar_addDraft_50 : decode b_Grammar_addDraft 50 = .ok (.aload_n 0, 1) := by decide +kernel
theorem d_Grammar_addDraft_51 : decode b_Grammar_addDraft 51 = .ok (.getfield 18, 3) := by decide +kernel
theorem d_Grammar_addDraft_54 : decode b_Grammar_addDraft 54 = .ok (.aload_n 0, 1) := by decide +kernel
theorem d_Grammar_addDraft_55 : decode b_Grammar_addDraft 55 = .ok (.getfield 31, 3) := by decide +kernel
theorem d_Grammar_addDraft_58 : decode b_Grammar_addDraft 58 = .ok (.iconst 4, 1) := by decide +kernel
theorem d_Grammar_addDraft_59 : decode b_Grammar_addDraft 59 = .ok (.imul, 1) := by decide +kernel
theorem d_Grammar_addDraft_60 : decode b_Grammar_addDraft 60 = .ok (.iload_n 1, 1) := by decide +kernel
theorem d_Grammar_addDraft_61 : decode b_Grammar_addDraft 61 = .ok (.iadd, 1) := by decide +kernel
theorem d_Grammar_addDraft_62 : decode b_Grammar_addDraft 62 = .ok (.aload_n 0, 1) := by decide +kernel
theorem d_Grammar_addDraft_63 : decode b_Grammar_addDraft 63 = .ok (.getfield 18, 3) := by decide +kernel
theorem d_Grammar_addDraft_66 : decode b_Grammar_addDraft 66 = .ok (.bipush 44, 2) := by decide +kernel
theorem d_Grammar_addDraft_68 : decode b_Grammar_addDraft 68 = .ok (.iload_n 1, 1) := by decide +kernel
theorem d_Grammar_addDraft_69 : decode b_Grammar_addDraft 69 = .ok (.iadd, 1) := by decide +kernel
theorem d_Grammar_addDraft_70 : decode b_Grammar_addDraft 70 = .ok (.iaload, 1) := by decide +kernel
theorem d_Grammar_addDraft_71 : decode b_Grammar_addDraft 71 = .ok (.iastore, 1) := by decide +kernel
theorem d_Grammar_addDraft_72 : decode b_Grammar_addDraft 72 = .ok (.iinc 1 1, 3) := by decide +kernel
theorem d_Grammar_addDraft_75 : decode b_Grammar_addDraft 75 = .ok (.goto (-30), 3) := by decide +kernel
theorem d_Grammar_addDraft_78 : decode b_Grammar_addDraft 78 = .ok (.aload_n 0, 1) := by decide +kernel
theorem d_Grammar_addDraft_79 : decode b_Grammar_addDraft 79 = .ok (.dup, 1) := by decide +kernel
theorem d_Grammar_addDraft_80 : decode b_Grammar_addDraft 80 = .ok (.getfield 31, 3) := by decide +kernel
theorem d_Grammar_addDraft_83 : decode b_Grammar_addDraft 83 = .ok (.iconst 1, 1) := by decide +kernel
theorem d_Grammar_addDraft_84 : decode b_Grammar_addDraft 84 = .ok (.iadd, 1) := by decide +kernel
theorem d_Grammar_addDraft_85 : decode b_Grammar_addDraft 85 = .ok (.putfield 31, 3) := by decide +kernel
theorem d_Grammar_addDraft_88 : decode b_Grammar_addDraft 88 = .ok (.aload_n 0, 1) := by decide +kernel
theorem d_Grammar_addDraft_89 : decode b_Grammar_addDraft 89 = .ok (.getfield 31, 3) := by decide +kernel
theorem d_Grammar_addDraft_92 : decode b_Grammar_addDraft 92 = .ok (.iconst 1, 1) := by decide +kernel
theorem d_Grammar_addDraft_93 : decode b_Grammar_addDraft 93 = .ok (.isub, 1) := by decide +kernel
theorem d_Grammar_addDraft_94 : decode b_Grammar_addDraft 94 = .ok (.ireturn, 1) := by decide +kernel
theorem d_Grammar_prepare_0 : decode b_Grammar_prepare 0 = .ok (.aload_n 0, 1) := by decide +kernel
theorem d_Grammar_prepare_1 : decode b_Grammar_prepare 1 = .ok (.getfield 31, 3) := by decide +kernel
theorem d_Grammar_prepare_4 : decode b_Grammar_prepare 4 = .ok (.ifCond .ne 5, 3) := by decide +kernel
theorem d_Grammar_prepare_7 : decode b_Grammar_prepare 7 = .ok (.iconst 0, 1) := by decide +kernel
theorem d_Grammar_prepare_8 : decode b_Grammar_prepare 8 = .ok (.ireturn, 1) := by decide +kernel
theorem d_Grammar_prepare_9 : decode b_Grammar_prepare 9 = .ok (.aload_n 0, 1) := by decide +kernel
theorem d_Grammar_prepare_10 : decode b_Grammar_prepare 10 = .ok (.invokevirtual 52, 3) := by decide +kernel
theorem d_Grammar_prepare_13 : decode b_Grammar_prepare 13 = .ok (.aload_n 0, 1) := by decide +kernel
theorem d_Grammar_prepare_14 : decode b_Grammar_prepare 14 = .ok (.invokevirtual 55, 3) := by decide +kernel
theorem d_Grammar_prepare_17 : decode b_Grammar_prepare 17 = .ok (.aload_n 0, 1) := by decide +kernel
theorem d_Grammar_prepare_18 : decode b_Grammar_prepare 18 = .ok (.getfield 9, 3) := by decide +kernel
theorem d_Grammar_prepare_21 : decode b_Grammar_prepare 21 = .ok (.bipush 10, 2) := by decide +kernel
theorem d_Grammar_prepare_23 : decode b_Grammar_prepare 23 = .ok (.iconst (-1), 1) := by decide +kernel
theorem d_Grammar_prepare_24 : decode b_Grammar_prepare 24 = .ok (.iastore, 1) := by decide +kernel
theorem d_Grammar_prepare_25 : decode b_Grammar_prepare 25 = .ok (.aload_n 0, 1) := by decide +kernel
theorem d_Grammar_prepare_26 : decode b_Grammar_prepare 26 = .ok (.getfield 15, 3) := by decide +kernel
theorem d_Grammar_prepare_29 : decode b_Grammar_prepare 29 = .ok (.bipush 10, 2) := by decide +kernel
theorem d_Grammar_prepare_31 : decode b_Grammar_prepare 31 = .ok (.iconst 1, 1) := by decide +kernel
theorem d_Grammar_prepare_32 : decode b_Grammar_prepare 32 = .ok (.iastore, 1) := by decide +kernel
theorem d_Grammar_prepare_33 : decode b_Grammar_prepare 33 = .ok (.aload_n 0, 1) := by decide +kernel
theorem d_Grammar_prepare_34 : decode b_Grammar_prepare 34 = .ok (.getfield 18, 3) := by decide +kernel
theorem d_Grammar_prepare_37 : decode b_Grammar_prepare 37 = .ok (.bipush 40, 2) := by decide +kernel
theorem d_Grammar_prepare_39 : decode b_Grammar_prepare 39 = .ok (.aload_n 0, 1) := by decide +kernel
theorem d_Grammar_prepare_40 : decode b_Grammar_prepare 40 = .ok (.getfield 9, 3) := by decide +kernel
theorem d_Grammar_prepare_43 : decode b_Grammar_prepare 43 = .ok (.iconst 0, 1) := by decide +kernel
theorem d_Grammar_prepare_44 : decode b_Grammar_prepare 44 = .ok (.iaload, 1) := by decide +kernel
theorem d_Grammar_prepare_45 : decode b_Grammar_prepare 45 = .ok (.iastore, 1) := by decide +kernel
theorem d_Grammar_prepare_46 : decode b_Grammar_prepare 46 = .ok (.aload_n 0, 1) := by decide +kernel
theorem d_Grammar_prepare_47 : decode b_Grammar_prepare 47 = .ok (.getfield 21, 3) := by decide +kernel
theorem d_Grammar_prepare_50 : decode b_Grammar_prepare 50 = .ok (.bipush 10, 2) := by decide +kernel
theorem d_Grammar_prepare_52 : decode b_Grammar_prepare 52 = .ok (.iconst 1, 1) := by decide +kernel
theorem d_Grammar_prepare_53 : decode b_Grammar_prepare 53 = .ok (.bastore, 1) := by decide +kernel
theorem d_Grammar_prepare_54 : decode b_Grammar_prepare 54 = .ok (.aload_n 0, 1) := by decide +kernel
theorem d_Grammar_prepare_55 : decode b_Grammar_prepare 55 = .ok (.aload_n 0, 1) := by decide +kernel
theorem d_Grammar_prepare_56 : decode b_Grammar_prepare 56 = .ok (.getfield 9, 3) := by decide +kernel
theorem d_Grammar_prepare_59 : decode b_Grammar_prepare 59 = .ok (.iconst 0, 1) := by decide +kernel
theorem d_Grammar_prepare_60 : decode b_Grammar_prepare 60 = .ok (.iaload, 1) := by decide +kernel
theorem d_Grammar_prepare_61 : decode b_Grammar_prepare 61 = .ok (.invokevirtual 58, 3) := by decide +kernel
theorem d_Grammar_prepare_64 : decode b_Grammar_prepare 64 = .ok (.ireturn, 1) := by decide +kernel
theorem d_Grammar_findUsed_0 : decode b_Grammar_findUsed 0 = .ok (.iconst 0, 1) := by decide +kernel
theorem d_Grammar_findUsed_1 : decode b_Grammar_findUsed 1 = .ok (.istore_n 1, 1) := by decide +kernel
theorem d_Grammar_findUsed_2 : decode b_Grammar_findUsed 2 = .ok (.iload_n 1, 1) := by decide +kernel
theorem d_Grammar_findUsed_3 : decode b_Grammar_findUsed 3 = .ok (.bipush 6, 2) := by decide +kernel
theorem d_Grammar_findUsed_5 : decode b_Grammar_findUsed 5 = .ok (.if_icmp .ge 16, 3) := by decide +kernel
theorem d_Grammar_findUsed_8 : decode b_Grammar_findUsed 8 = .ok (.aload_n 0, 1) := by decide +kernel
theorem d_Grammar_findUsed_9 : decode b_Grammar_findUsed 9 = .ok (.getfield 25, 3) := by decide +kernel
theorem d_Grammar_findUsed_12 : decode b_Grammar_findUsed 12 = .ok (.iload_n 1, 1) := by decide +kernel
theorem d_Grammar_findUsed_13 : decode b_Grammar_findUsed 13 = .ok (.iconst 0, 1) := by decide +kernel
theorem d_Grammar_findUsed_14 : decode b_Grammar_findUsed 14 = .ok (.bastore, 1) := by decide +kernel
theorem d_Grammar_findUsed_15 : decode b_Grammar_findUsed 15 = .ok (.iinc 1 1, 3) := by decide +kernel
theorem d_Grammar_findUsed_18 : decode b_Grammar_findUsed 18 = .ok (.goto (-16), 3) := by decide +kernel
theorem d_Grammar_findUsed_21 : decode b_Grammar_findUsed 21 = .ok (.iconst 0, 1) := by decide +kernel
theorem d_Grammar_findUsed_22 : decode b_Grammar_findUsed 22 = .ok (.istore_n 1, 1) := by decide +kernel
theorem d_Grammar_findUsed_23 : decode b_Grammar_findUsed 23 = .ok (.iload_n 1, 1) := by decide +kernel
theorem d_Grammar_findUsed_24 : decode b_Grammar_findUsed 24 = .ok (.bipush 12, 2) := by decide +kernel
theorem d_Grammar_findUsed_26 : decode b_Grammar_findUsed 26 = .ok (.if_icmp .ge 16, 3) := by decide +kernel
theorem d_Grammar_findUsed_29 : decode b_Grammar_findUsed 29 = .ok (.aload_n 0, 1) := by decide +kernel
theorem d_Grammar_findUsed_30 : decode b_Grammar_findUsed 30 = .ok (.getfield 21, 3) := by decide +kernel
theorem d_Grammar_findUsed_33 : decode b_Grammar_findUsed 33 = .ok (.iload_n 1, 1) := by decide +kernel
theorem d_Grammar_findUsed_34 : decode b_Grammar_findUsed 34 = .ok (.iconst 0, 1) := by decide +kernel
theorem d_Grammar_findUsed_35 : decode b_Grammar_findUsed 35 = .ok (.bastore, 1) := by decide +kernel
theorem d_Grammar_findUsed_36 : decode b_Grammar_findUsed 36 = .ok (.iinc 1 1, 3) := by decide +kernel
theorem d_Grammar_findUsed_39 : decode b_Grammar_findUsed 39 = .ok (.goto (-16), 3) := by decide +kernel
theorem d_Grammar_findUsed_42 : decode b_Grammar_findUsed 42 = .ok (.iconst 1, 1) := by decide +kernel
theorem d_Grammar_findUsed_43 : decode b_Grammar_findUsed 43 = .ok (.istore_n 1, 1) := by decide +kernel
theorem d_Grammar_findUsed_44 : decode b_Grammar_findUsed 44 = .ok (.iconst 0, 1) := by decide +kernel
theorem d_Grammar_findUsed_45 : decode b_Grammar_findUsed 45 = .ok (.istore_n 2, 1) := by decide +kernel
theorem d_Grammar_findUsed_46 : decode b_Grammar_findUsed 46 = .ok (.iload_n 1, 1) := by decide +kernel
theorem d_Grammar_findUsed_47 : decode b_Grammar_findUsed 47 = .ok (.ifCond .eq 74, 3) := by decide +kernel
theorem d_Grammar_findUsed_50 : decode b_Grammar_findUsed 50 = .ok (.iload_n 2, 1) := by decide +kernel
theorem d_Grammar_findUsed_51 : decode b_Grammar_findUsed 51 = .ok (.bipush 10, 2) := by decide +kernel
theorem d_Grammar_findUsed_53 : decode b_Grammar_findUsed 53 = .ok (.if_icmp .gt 68, 3) := by decide +kernel
theorem d_Grammar_findUsed_56 : decode b_Grammar_findUsed 56 = .ok (.iconst 0, 1) := by decide +kernel
theorem d_Grammar_findUsed_57 : decode b_Grammar_findUsed 57 = .ok (.istore_n 1, 1) := by decide +kernel
theorem d_Grammar_findUsed_58 : decode b_Grammar_findUsed 58 = .ok (.iconst 0, 1) := by decide +kernel
theorem d_Grammar_findUsed_59 : decode b_Grammar_findUsed 59 = .ok (.istore_n 3, 1) := by decide +kernel
theorem d_Grammar_findUsed_60 : decode b_Grammar_findUsed 60 = .ok (.iload_n 3, 1) := by decide +kernel
theorem d_Grammar_findUsed_61 : decode b_Grammar_findUsed 61 = .ok (.aload_n 0, 1) := by decide +kernel
theorem d_Grammar_findUsed_62 : decode b_Grammar_findUsed 62 = .ok (.getfield 31, 3) := by decide +kernel
theorem d_Grammar_findUsed_65 : decode b_Grammar_findUsed 65 = .ok (.if_icmp .ge 50, 3) := by decide +kernel
theorem d_Grammar_findUsed_68 : decode b_Grammar_findUsed 68 = .ok (.aload_n 0, 1) := by decide +kernel
theorem d_Grammar_findUsed_69 : decode b_Grammar_findUsed 69 = .ok (.getfield 21, 3) := by decide +kernel
theorem d_Grammar_findUsed_72 : decode b_Grammar_findUsed 72 = .ok (.iload_n 3, 1) := by decide +kernel
theorem d_Grammar_findUsed_73 : decode b_Grammar_findUsed 73 = .ok (.baload, 1) := by decide +kernel
theorem d_Grammar_findUsed_74 : decode b_Grammar_findUsed 74 = .ok (.ifCond .ne 35, 3) := by decide +kernel
theorem d_Grammar_findUsed_77 : decode b_Grammar_findUsed 77 = .ok (.aload_n 0, 1) := by decide +kernel
theorem d_Grammar_findUsed_78 : decode b_Grammar_findUsed 78 = .ok (.iload_n 3, 1) := by decide +kernel
theorem d_Grammar_findUsed_79 : decode b_Grammar_findUsed 79 = .ok (.invokevirtual 61, 3) := by decide +kernel
theorem d_Grammar_findUsed_82 : decode b_Grammar_findUsed 82 = .ok (.ifCond .eq 27, 3) := by decide +kernel
theorem d_Grammar_findUsed_85 : decode b_Grammar_findUsed 85 = .ok (.aload_n 0, 1) := by decide +kernel
theorem d_Grammar_findUsed_86 : decode b_Grammar_findUsed 86 = .ok (.getfield 21, 3) := by decide +kernel
theorem d_Grammar_findUsed_89 : decode b_Grammar_findUsed 89 = .ok (.iload_n 3, 1) := by decide +kernel
theorem d_Grammar_findUsed_90 : decode b_Grammar_findUsed 90 = .ok (.iconst 1, 1) := by decide +kernel
theorem d_Grammar_findUsed_91 : decode b_Grammar_findUsed 91 = .ok (.bastore, 1) := by decide +kernel
theorem d_Grammar_findUsed_92 : decode b_Grammar_findUsed 92 = .ok (.aload_n 0, 1) := by decide +kernel
theorem d_Grammar_findUsed_93 : decode b_Grammar_findUsed 93 = .ok (.getfield 25, 3) := by decide +kernel
theorem d_Grammar_findUsed_96 : decode b_Grammar_findUsed 96 = .ok (.aload_n 0, 1) := by decide +kernel
theorem d_Grammar_findUsed_97 : decode b_Grammar_findUsed 97 = .ok (.getfield 9, 3) := by decide +kernel
theorem d_Grammar_findUsed_100 : decode b_Grammar_findUsed 100 = .ok (.iload_n 3, 1) := by decide +kernel
theorem d_Grammar_findUsed_101 : decode b_Grammar_findUsed 101 = .ok (.iaload, 1) := by decide +kernel
theorem d_Grammar_findUsed_102 : decode b_Grammar_findUsed 102 = .ok (.bipush 6, 2) := by decide +kernel
theorem d_Grammar_findUsed_104 : decode b_Grammar_findUsed 104 = .ok (.isub, 1) := by decide +kernel
theorem d_Grammar_findUsed_105 : decode b_Grammar_findUsed 105 = .ok (.iconst 1, 1) := by decide +kernel
theorem d_Grammar_findUsed_106 : decode b_Grammar_findUsed 106 = .ok (.bastore, 1) := by decide +kernel
theorem d_Grammar_findUsed_107 : decode b_Grammar_findUsed 107 = .ok (.iconst 1, 1) := by decide +kernel
theorem d_Grammar_findUsed_108 : decode b_Grammar_findUsed 108 = .ok (.istore_n 1, 1) := by decide +kernel
theorem d_Grammar_findUsed_109 : decode b_Grammar_findUsed 109 = .ok (.iinc 3 1, 3) := by decide +kernel
theorem d_Grammar_findUsed_112 : decode b_Grammar_findUsed 112 = .ok (.goto (-52), 3) := by decide +kernel
theorem d_Grammar_findUsed_115 : decode b_Grammar_findUsed 115 = .ok (.iinc 2 1, 3) := by decide +kernel
theorem d_Grammar_findUsed_118 : decode b_Grammar_findUsed 118 = .ok (.goto (-72), 3) := by decide +kernel
theorem d_Grammar_findUsed_121 : decode b_Grammar_findUsed 121 = .ok (.return_, 1) := by decide +kernel
theorem d_Grammar_hasFruitfulSide_0 : decode b_Grammar_hasFruitfulSide 0 = .ok (.iconst 0, 1) := by decide +kernel
theorem d_Grammar_hasFruitfulSide_1 : decode b_Grammar_hasFruitfulSide 1 = .ok (.istore_n 2, 1) := by decide +kernel
theorem d_Grammar_hasFruitfulSide_2 : decode b_Grammar_hasFruitfulSide 2 = .ok (.iload_n 2, 1) := by decide +kernel
theorem d_Grammar_hasFruitfulSide_3 : decode b_Grammar_hasFruitfulSide 3 = .ok (.aload_n 0, 1) := by decide +kernel
theorem d_Grammar_hasFruitfulSide_4 : decode b_Grammar_hasFruitfulSide 4 = .ok (.getfield 15, 3) := by decide +kernel
theorem d_Grammar_hasFruitfulSide_7 : decode b_Grammar_hasFruitfulSide 7 = .ok (.iload_n 1, 1) := by decide +kernel
theorem d_Grammar_hasFruitfulSide_8 : decode b_Grammar_hasFruitfulSide 8 = .ok (.iaload, 1) := by decide +kernel
theorem d_Grammar_hasFruitfulSide_9 : decode b_Grammar_hasFruitfulSide 9 = .ok (.if_icmp .ge 28, 3) := by decide +kernel
theorem d_Grammar_hasFruitfulSide_12 : decode b_Grammar_hasFruitfulSide 12 = .ok (.aload_n 0, 1) := by decide +kernel
theorem d_Grammar_hasFruitfulSide_13 : decode b_Grammar_hasFruitfulSide 13 = .ok (.aload_n 0, 1) := by decide +kernel
theorem d_Grammar_hasFruitfulSide_14 : decode b_Grammar_hasFruitfulSide 14 = .ok (.getfield 18, 3) := by decide +kernel
theorem d_Grammar_hasFruitfulSide_17 : decode b_Grammar_hasFruitfulSide 17 = .ok (.iload_n 1, 1) := by decide +kernel
theorem d_Grammar_hasFruitfulSide_18 : decode b_Grammar_hasFruitfulSide 18 = .ok (.iconst 4, 1) := by decide +kernel
theorem d_Grammar_hasFruitfulSide_19 : decode b_Grammar_hasFruitfulSide 19 = .ok (.imul, 1) := by decide +kernel
theorem d_Grammar_hasFruitfulSide_20 : decode b_Grammar_hasFruitfulSide 20 = .ok (.iload_n 2, 1) := by decide +kernel
theorem d_Grammar_hasFruitfulSide_21 : decode b_Grammar_hasFruitfulSide 21 = .ok (.iadd, 1) := by decide +kernel
theorem d_Grammar_hasFruitfulSide_22 : decode b_Grammar_hasFruitfulSide 22 = .ok (.iaload, 1) := by decide +kernel
theorem d_Grammar_hasFruitfulSide_23 : decode b_Grammar_hasFruitfulSide 23 = .ok (.invokevirtual 58, 3) := by decide +kernel
theorem d_Grammar_hasFruitfulSide_26 : decode b_Grammar_hasFruitfulSide 26 = .ok (.ifCond .ne 5, 3) := by decide +kernel
theorem d_Grammar_hasFruitfulSide_29 : decode b_Grammar_hasFruitfulSide 29 = .ok (.iconst 0, 1) := by decide +kernel
theorem d_Grammar_hasFruitfulSide_30 : decode b_Grammar_hasFruitfulSide 30 = .ok (.ireturn, 1) := by decide +kernel
theorem d_Grammar_hasFruitfulSide_31 : decode b_Grammar_hasFruitfulSide 31 = .ok (.iinc 2 1, 3) := by decide +kernel
theorem d_Grammar_hasFruitfulSide_34 : decode b_Grammar_hasFruitfulSide 34 = .ok (.goto (-32), 3) := by decide +kernel
theorem d_Grammar_hasFruitfulSide_37 : decode b_Grammar_hasFruitfulSide 37 = .ok (.iconst 1, 1) := by decide +kernel
theorem d_Grammar_hasFruitfulSide_38 : decode b_Grammar_hasFruitfulSide 38 = .ok (.ireturn, 1) := by decide +kernel
theorem d_Grammar_isFruitful_0 : decode b_Grammar_isFruitful 0 = .ok (.iload_n 1, 1) := by decide +kernel
theorem d_Grammar_isFruitful_1 : decode b_Grammar_isFruitful 1 = .ok (.bipush 6, 2) := by decide +kernel
theorem d_Grammar_isFruitful_3 : decode b_Grammar_isFruitful 3 = .ok (.if_icmp .lt 21, 3) := by decide +kernel
theorem d_Grammar_isFruitful_6 : decode b_Grammar_isFruitful 6 = .ok (.iload_n 1, 1) := by decide +kernel
theorem d_Grammar_isFruitful_7 : decode b_Grammar_isFruitful 7 = .ok (.bipush 12, 2) := by decide +kernel
theorem d_Grammar_isFruitful_9 : decode b_Grammar_isFruitful 9 = .ok (.if_icmp .ge 19, 3) := by decide +kernel
theorem d_Grammar_isFruitful_12 : decode b_Grammar_isFruitful 12 = .ok (.aload_n 0, 1) := by decide +kernel
theorem d_Grammar_isFruitful_13 : decode b_Grammar_isFruitful 13 = .ok (.getfield 25, 3) := by decide +kernel
theorem d_Grammar_isFruitful_16 : decode b_Grammar_isFruitful 16 = .ok (.iload_n 1, 1) := by decide +kernel
theorem d_Grammar_isFruitful_17 : decode b_Grammar_isFruitful 17 = .ok (.bipush 6, 2) := by decide +kernel
theorem d_Grammar_isFruitful_19 : decode b_Grammar_isFruitful 19 = .ok (.isub, 1) := by decide +kernel
theorem d_Grammar_isFruitful_20 : decode b_Grammar_isFruitful 20 = .ok (.baload, 1) := by decide +kernel
theorem d_Grammar_isFruitful_21 : decode b_Grammar_isFruitful 21 = .ok (.ifCond .eq 7, 3) := by decide +kernel
theorem d_Grammar_isFruitful_24 : decode b_Grammar_isFruitful 24 = .ok (.iconst 1, 1) := by decide +kernel
theorem d_Grammar_isFruitful_25 : decode b_Grammar_isFruitful 25 = .ok (.goto 4, 3) := by decide +kernel
theorem d_Grammar_isFruitful_28 : decode b_Grammar_isFruitful 28 = .ok (.iconst 0, 1) := by decide +kernel
theorem d_Grammar_isFruitful_29 : decode b_Grammar_isFruitful 29 = .ok (.ireturn, 1) := by decide +kernel
theorem d_Grammar_findFirsts_0 : decode b_Grammar_findFirsts 0 = .ok (.iconst 0, 1) := by decide +kernel
theorem d_Grammar_findFirsts_1 : decode b_Grammar_findFirsts 1 = .ok (.istore_n 1, 1) := by decide +kernel
theorem d_Grammar_findFirsts_2 : decode b_Grammar_findFirsts 2 = .ok (.iload_n 1, 1) := by decide +kernel
theorem d_Grammar_findFirsts_3 : decode b_Grammar_findFirsts 3 = .ok (.bipush 6, 2) := by decide +kernel
theorem d_Grammar_findFirsts_5 : decode b_Grammar_findFirsts 5 = .ok (.if_icmp .ge 16, 3) := by decide +kernel
theorem d_Grammar_findFirsts_8 : decode b_Grammar_findFirsts 8 = .ok (.aload_n 0, 1) := by decide +kernel
theorem d_Grammar_findFirsts_9 : decode b_Grammar_findFirsts 9 = .ok (.getfield 28, 3) := by decide +kernel
theorem d_Grammar_findFirsts_12 : decode b_Grammar_findFirsts 12 = .ok (.iload_n 1, 1) := by decide +kernel
theorem d_Grammar_findFirsts_13 : decode b_Grammar_findFirsts 13 = .ok (.iconst 0, 1) := by decide +kernel
theorem d_Grammar_findFirsts_14 : decode b_Grammar_findFirsts 14 = .ok (.iastore, 1) := by decide +kernel
theorem d_Grammar_findFirsts_15 : decode b_Grammar_findFirsts 15 = .ok (.iinc 1 1, 3) := by decide +kernel
theorem d_Grammar_findFirsts_18 : decode b_Grammar_findFirsts 18 = .ok (.goto (-16), 3) := by decide +kernel
theorem d_Grammar_findFirsts_21 : decode b_Grammar_findFirsts 21 = .ok (.iconst 1, 1) := by decide +kernel
theorem d_Grammar_findFirsts_22 : decode b_Grammar_findFirsts 22 = .ok (.istore_n 1, 1) := by decide +kernel
theorem d_Grammar_findFirsts_23 : decode b_Grammar_findFirsts 23 = .ok (.iconst 0, 1) := by decide +kernel
theorem d_Grammar_findFirsts_24 : decode b_Grammar_findFirsts 24 = .ok (.istore_n 2, 1) := by decide +kernel
theorem d_Grammar_findFirsts_25 : decode b_Grammar_findFirsts 25 = .ok (.iload_n 1, 1) := by decide +kernel
theorem d_Grammar_findFirsts_26 : decode b_Grammar_findFirsts 26 = .ok (.ifCond .eq 102, 3) := by decide +kernel
theorem d_Grammar_findFirsts_29 : decode b_Grammar_findFirsts 29 = .ok (.iload_n 2, 1) := by decide +kernel
theorem d_Grammar_findFirsts_30 : decode b_Grammar_findFirsts 30 = .ok (.bipush 42, 2) := by decide +kernel
theorem d_Grammar_findFirsts_32 : decode b_Grammar_findFirsts 32 = .ok (.if_icmp .gt 96, 3) := by decide +kernel
theorem d_Grammar_findFirsts_35 : decode b_Grammar_findFirsts 35 = .ok (.iconst 0, 1) := by decide +kernel
theorem d_Grammar_findFirsts_36 : decode b_Grammar_findFirsts 36 = .ok (.istore_n 1, 1) := by decide +kernel
theorem d_Grammar_findFirsts_37 : decode b_Grammar_findFirsts 37 = .ok (.iconst 0, 1) := by decide +kernel
theorem d_Grammar_findFirsts_38 : decode b_Grammar_findFirsts 38 = .ok (.istore_n 3, 1) := by decide +kernel
theorem d_Grammar_findFirsts_39 : decode b_Grammar_findFirsts 39 = .ok (.iload_n 3, 1) := by decide +kernel
theorem d_Grammar_findFirsts_40 : decode b_Grammar_findFirsts 40 = .ok (.aload_n 0, 1) := by decide +kernel
theorem d_Grammar_findFirsts_41 : decode b_Grammar_findFirsts 41 = .ok (.getfield 31, 3) := by decide +kernel
theorem d_Grammar_findFirsts_44 : decode b_Grammar_findFirsts 44 = .ok (.if_icmp .ge 78, 3) := by decide +kernel
theorem d_Grammar_findFirsts_47 : decode b_Grammar_findFirsts 47 = .ok (.aload_n 0, 1) := by decide +kernel
theorem d_Grammar_findFirsts_48 : decode b_Grammar_findFirsts 48 = .ok (.getfield 9, 3) := by decide +kernel
theorem d_Grammar_findFirsts_51 : decode b_Grammar_findFirsts 51 = .ok (.iload_n 3, 1) := by decide +kernel
theorem d_Grammar_findFirsts_52 : decode b_Grammar_findFirsts 52 = .ok (.iaload, 1) := by decide +kernel
theorem d_Grammar_findFirsts_53 : decode b_Grammar_findFirsts 53 = .ok (.bipush 6, 2) := by decide +kernel
theorem d_Grammar_findFirsts_55 : decode b_Grammar_findFirsts 55 = .ok (.isub, 1) := by decide +kernel
theorem d_Grammar_findFirsts_56 : decode b_Grammar_findFirsts 56 = .ok (.istore 4, 2) := by decide +kernel
theorem d_Grammar_findFirsts_58 : decode b_Grammar_findFirsts 58 = .ok (.aload_n 0, 1) := by decide +kernel
theorem d_Grammar_findFirsts_59 : decode b_Grammar_findFirsts 59 = .ok (.getfield 21, 3) := by decide +kernel
theorem d_Grammar_findFirsts_62 : decode b_Grammar_findFirsts 62 = .ok (.iload_n 3, 1) := by decide +kernel
theorem d_Grammar_findFirsts_63 : decode b_Grammar_findFirsts 63 = .ok (.baload, 1) := by decide +kernel
theorem d_Grammar_findFirsts_64 : decode b_Grammar_findFirsts 64 = .ok (.ifCond .eq 20, 3) := by decide +kernel
theorem d_Grammar_findFirsts_67 : decode b_Grammar_findFirsts 67 = .ok (.aload_n 0, 1) := by decide +kernel
theorem d_Grammar_findFirsts_68 : decode b_Grammar_findFirsts 68 = .ok (.getfield 28, 3) := by decide +kernel
theorem d_Grammar_findFirsts_71 : decode b_Grammar_findFirsts 71 = .ok (.iload 4, 2) := by decide +kernel
theorem d_Grammar_findFirsts_73 : decode b_Grammar_findFirsts 73 = .ok (.iaload, 1) := by decide +kernel
theorem d_Grammar_findFirsts_74 : decode b_Grammar_findFirsts 74 = .ok (.aload_n 0, 1) := by decide +kernel
theorem d_Grammar_findFirsts_75 : decode b_Grammar_findFirsts 75 = .ok (.iload_n 3, 1) := by decide +kernel
theorem d_Grammar_findFirsts_76 : decode b_Grammar_findFirsts 76 = .ok (.iconst 0, 1) := by decide +kernel
theorem d_Grammar_findFirsts_77 : decode b_Grammar_findFirsts 77 = .ok (.invokevirtual 64, 3) := by decide +kernel
theorem d_Grammar_findFirsts_80 : decode b_Grammar_findFirsts 80 = .ok (.ior, 1) := by decide +kernel
theorem d_Grammar_findFirsts_81 : decode b_Grammar_findFirsts 81 = .ok (.goto 10, 3) := by decide +kernel
theorem d_Grammar_findFirsts_84 : decode b_Grammar_findFirsts 84 = .ok (.aload_n 0, 1) := by decide +kernel
theorem d_Grammar_findFirsts_85 : decode b_Grammar_findFirsts 85 = .ok (.getfield 28, 3) := by decide +kernel
theorem d_Grammar_findFirsts_88 : decode b_Grammar_findFirsts 88 = .ok (.iload 4, 2) := by decide +kernel
theorem d_Grammar_findFirsts_90 : decode b_Grammar_findFirsts 90 = .ok (.iaload, 1) := by decide +kernel
theorem d_Grammar_findFirsts_91 : decode b_Grammar_findFirsts 91 = .ok (.istore 5, 2) := by decide +kernel
theorem d_Grammar_findFirsts_93 : decode b_Grammar_findFirsts 93 = .ok (.iload 5, 2) := by decide +kernel
theorem d_Grammar_findFirsts_95 : decode b_Grammar_findFirsts 95 = .ok (.aload_n 0, 1) := by decide +kernel
theorem d_Grammar_findFirsts_96 : decode b_Grammar_findFirsts 96 = .ok (.getfield 28, 3) := by decide +kernel
theorem d_Grammar_findFirsts_99 : decode b_Grammar_findFirsts 99 = .ok (.iload 4, 2) := by decide +kernel
theorem d_Grammar_findFirsts_101 : decode b_Grammar_findFirsts 101 = .ok (.iaload, 1) := by decide +kernel
theorem d_Grammar_findFirsts_102 : decode b_Grammar_findFirsts 102 = .ok (.if_icmp .eq 14, 3) := by decide +kernel
theorem d_Grammar_findFirsts_105 : decode b_Grammar_findFirsts 105 = .ok (.aload_n 0, 1) := by decide +kernel
theorem d_Grammar_findFirsts_106 : decode b_Grammar_findFirsts 106 = .ok (.getfield 28, 3) := by decide +kernel
theorem d_Grammar_findFirsts_109 : decode b_Grammar_findFirsts 109 = .ok (.iload 4, 2) := by decide +kernel
theorem d_Grammar_findFirsts_111 : decode b_Grammar_findFirsts 111 = .ok (.iload 5, 2) := by decide +kernel
theorem d_Grammar_findFirsts_113 : decode b_Grammar_findFirsts 113 = .ok (.iastore, 1) := by decide +kernel
theorem d_Grammar_findFirsts_114 : decode b_Grammar_findFirsts 114 = .ok (.iconst 1, 1) := by decide +kernel
theorem d_Grammar_findFirsts_115 : decode b_Grammar_findFirsts 115 = .ok (.istore_n 1, 1) := by decide +kernel
theorem d_Grammar_findFirsts_116 : decode b_Grammar_findFirsts 116 = .ok (.iinc 3 1, 3) := by decide +kernel
theorem d_Grammar_findFirsts_119 : decode b_Grammar_findFirsts 119 = .ok (.goto (-80), 3) := by decide +kernel
theorem d_Grammar_findFirsts_122 : decode b_Grammar_findFirsts 122 = .ok (.iinc 2 1, 3) := by decide +kernel
theorem d_Grammar_findFirsts_125 : decode b_Grammar_findFirsts 125 = .ok (.goto (-100), 3) := by decide +kernel
theorem d_Grammar_findFirsts_128 : decode b_Grammar_findFirsts 128 = .ok (.return_, 1) := by decide +kernel
theorem d_Grammar_beginnings_0 : decode b_Grammar_beginnings 0 = .ok (.bipush 64, 2) := by decide +kernel
theorem d_Grammar_beginnings_2 : decode b_Grammar_beginnings 2 = .ok (.istore_n 3, 1) := by decide +kernel
theorem d_Grammar_beginnings_3 : decode b_Grammar_beginnings 3 = .ok (.iload_n 2, 1) := by decide +kernel
theorem d_Grammar_beginnings_4 : decode b_Grammar_beginnings 4 = .ok (.istore 4, 2) := by decide +kernel
theorem d_Grammar_beginnings_6 : decode b_Grammar_beginnings 6 = .ok (.iload 4, 2) := by decide +kernel
theorem d_Grammar_beginnings_8 : decode b_Grammar_beginnings 8 = .ok (.aload_n 0, 1) := by decide +kernel
theorem d_Grammar_beginnings_9 : decode b_Grammar_beginnings 9 = .ok (.iload_n 1, 1) := by decide +kernel
theorem d_Grammar_beginnings_10 : decode b_Grammar_beginnings 10 = .ok (.invokevirtual 68, 3) := by decide +kernel
theorem d_Grammar_beginnings_13 : decode b_Grammar_beginnings 13 = .ok (.if_icmp .ge 65, 3) := by decide +kernel
theorem d_Grammar_beginnings_16 : decode b_Grammar_beginnings 16 = .ok (.iload_n 3, 1) := by decide +kernel
theorem d_Grammar_beginnings_17 : decode b_Grammar_beginnings 17 = .ok (.bipush 64, 2) := by decide +kernel
theorem d_Grammar_beginnings_19 : decode b_Grammar_beginnings 19 = .ok (.iand, 1) := by decide +kernel
theorem d_Grammar_beginnings_20 : decode b_Grammar_beginnings 20 = .ok (.ifCond .eq 58, 3) := by decide +kernel
theorem d_Grammar_beginnings_23 : decode b_Grammar_beginnings 23 = .ok (.aload_n 0, 1) := by decide +kernel
theorem d_Grammar_beginnings_24 : decode b_Grammar_beginnings 24 = .ok (.iload_n 1, 1) := by decide +kernel
theorem d_Grammar_beginnings_25 : decode b_Grammar_beginnings 25 = .ok (.iload 4, 2) := by decide +kernel
theorem d_Grammar_beginnings_27 : decode b_Grammar_beginnings 27 = .ok (.invokevirtual 71, 3) := by decide +kernel
theorem d_Grammar_beginnings_30 : decode b_Grammar_beginnings 30 = .ok (.istore 5, 2) := by decide +kernel
theorem d_Grammar_beginnings_32 : decode b_Grammar_beginnings 32 = .ok (.iload_n 3, 1) := by decide +kernel
theorem d_Grammar_beginnings_33 : decode b_Grammar_beginnings 33 = .ok (.bipush (-65), 2) := by decide +kernel
theorem d_Grammar_beginnings_35 : decode b_Grammar_beginnings 35 = .ok (.iand, 1) := by decide +kernel
theorem d_Grammar_beginnings_36 : decode b_Grammar_beginnings 36 = .ok (.istore_n 3, 1) := by decide +kernel
theorem d_Grammar_beginnings_37 : decode b_Grammar_beginnings 37 = .ok (.iload 5, 2) := by decide +kernel
theorem d_Grammar_beginnings_39 : decode b_Grammar_beginnings 39 = .ok (.bipush 6, 2) := by decide +kernel
theorem d_Grammar_beginnings_41 : decode b_Grammar_beginnings 41 = .ok (.if_icmp .lt 19, 3) := by decide +kernel
theorem d_Grammar_beginnings_44 : decode b_Grammar_beginnings 44 = .ok (.iload_n 3, 1) := by decide +kernel
theorem d_Grammar_beginnings_45 : decode b_Grammar_beginnings 45 = .ok (.aload_n 0, 1) := by decide +kernel
theorem d_Grammar_beginnings_46 : decode b_Grammar_beginnings 46 = .ok (.getfield 28, 3) := by decide +kernel
theorem d_Grammar_beginnings_49 : decode b_Grammar_beginnings 49 = .ok (.iload 5, 2) := by decide +kernel
theorem d_Grammar_beginnings_51 : decode b_Grammar_beginnings 51 = .ok (.bipush 6, 2) := by decide +kernel
theorem d_Grammar_beginnings_53 : decode b_Grammar_beginnings 53 = .ok (.isub, 1) := by decide +kernel
theorem d_Grammar_beginnings_54 : decode b_Grammar_beginnings 54 = .ok (.iaload, 1) := by decide +kernel
theorem d_Grammar_beginnings_55 : decode b_Grammar_beginnings 55 = .ok (.ior, 1) := by decide +kernel
theorem d_Grammar_beginnings_56 : decode b_Grammar_beginnings 56 = .ok (.istore_n 3, 1) := by decide +kernel
theorem d_Grammar_beginnings_57 : decode b_Grammar_beginnings 57 = .ok (.goto 15, 3) := by decide +kernel
theorem d_Grammar_beginnings_60 : decode b_Grammar_beginnings 60 = .ok (.iload 5, 2) := by decide +kernel
theorem d_Grammar_beginnings_62 : decode b_Grammar_beginnings 62 = .ok (.ifCond .lt 10, 3) := by decide +kernel
theorem d_Grammar_beginnings_65 : decode b_Grammar_beginnings 65 = .ok (.iload_n 3, 1) := by decide +kernel
theorem d_Grammar_beginnings_66 : decode b_Grammar_beginnings 66 = .ok (.iconst 1, 1) := by decide +kernel
theorem d_Grammar_beginnings_67 : decode b_Grammar_beginnings 67 = .ok (.iload 5, 2) := by decide +kernel
theorem d_Grammar_beginnings_69 : decode b_Grammar_beginnings 69 = .ok (.ishl, 1) := by decide +kernel
theorem d_Grammar_beginnings_70 : decode b_Grammar_beginnings 70 = .ok (.ior, 1) := by decide +kernel
theorem d_Grammar_beginnings_71 : decode b_Grammar_beginnings 71 = .ok (.istore_n 3, 1) := by decide +kernel
theorem d_Grammar_beginnings_72 : decode b_Grammar_beginnings 72 = .ok (.iinc 4 1, 3) := by decide +kernel
theorem d_Grammar_beginnings_75 : decode b_Grammar_beginnings 75 = .ok (.goto (-69), 3) := by decide +kernel
theorem d_Grammar_beginnings_78 : decode b_Grammar_beginnings 78 = .ok (.iload_n 3, 1) := by decide +kernel
theorem d_Grammar_beginnings_79 : decode b_Grammar_beginnings 79 = .ok (.ireturn, 1) := by decide +kernel
theorem d_Grammar_isUsed_0 : decode b_Grammar_isUsed 0 = .ok (.iload_n 1, 1) := by decide +kernel
theorem d_Grammar_isUsed_1 : decode b_Grammar_isUsed 1 = .ok (.ifCond .lt 22, 3) := by decide +kernel
theorem d_Grammar_isUsed_4 : decode b_Grammar_isUsed 4 = .ok (.iload_n 1, 1) := by decide +kernel
theorem d_Grammar_isUsed_5 : decode b_Grammar_isUsed 5 = .ok (.bipush 12, 2) := by decide +kernel
theorem d_Grammar_isUsed_7 : decode b_Grammar_isUsed 7 = .ok (.if_icmp .ge 16, 3) := by decide +kernel
theorem d_Grammar_isUsed_10 : decode b_Grammar_isUsed 10 = .ok (.aload_n 0, 1) := by decide +kernel
theorem d_Grammar_isUsed_11 : decode b_Grammar_isUsed 11 = .ok (.getfield 21, 3) := by decide +kernel
theorem d_Grammar_isUsed_14 : decode b_Grammar_isUsed 14 = .ok (.iload_n 1, 1) := by decide +kernel
theorem d_Grammar_isUsed_15 : decode b_Grammar_isUsed 15 = .ok (.baload, 1) := by decide +kernel
theorem d_Grammar_isUsed_16 : decode b_Grammar_isUsed 16 = .ok (.ifCond .eq 7, 3) := by decide +kernel
theorem d_Grammar_isUsed_19 : decode b_Grammar_isUsed 19 = .ok (.iconst 1, 1) := by decide +kernel
theorem d_Grammar_isUsed_20 : decode b_Grammar_isUsed 20 = .ok (.goto 4, 3) := by decide +kernel
theorem d_Grammar_isUsed_23 : decode b_Grammar_isUsed 23 = .ok (.iconst 0, 1) := by decide +kernel
theorem d_Grammar_isUsed_24 : decode b_Grammar_isUsed 24 = .ok (.ireturn, 1) := by decide +kernel
theorem d_Grammar_nameOf_0 : decode b_Grammar_nameOf 0 = .ok (.iload_n 1, 1) := by decide +kernel
theorem d_Grammar_nameOf_1 : decode b_Grammar_nameOf 1 = .ok (.ifCond .lt 18, 3) := by decide +kernel
theorem d_Grammar_nameOf_4 : decode b_Grammar_nameOf 4 = .ok (.iload_n 1, 1) := by decide +kernel
theorem d_Grammar_nameOf_5 : decode b_Grammar_nameOf 5 = .ok (.bipush 12, 2) := by decide +kernel
theorem d_Grammar_nameOf_7 : decode b_Grammar_nameOf 7 = .ok (.if_icmp .ge 12, 3) := by decide +kernel
theorem d_Grammar_nameOf_10 : decode b_Grammar_nameOf 10 = .ok (.aload_n 0, 1) := by decide +kernel
theorem d_Grammar_nameOf_11 : decode b_Grammar_nameOf 11 = .ok (.getfield 9, 3) := by decide +kernel
theorem d_Grammar_nameOf_14 : decode b_Grammar_nameOf 14 = .ok (.iload_n 1, 1) := by decide +kernel
theorem d_Grammar_nameOf_15 : decode b_Grammar_nameOf 15 = .ok (.iaload, 1) := by decide +kernel
theorem d_Grammar_nameOf_16 : decode b_Grammar_nameOf 16 = .ok (.goto 4, 3) := by decide +kernel
theorem d_Grammar_nameOf_19 : decode b_Grammar_nameOf 19 = .ok (.iconst (-1), 1) := by decide +kernel
theorem d_Grammar_nameOf_20 : decode b_Grammar_nameOf 20 = .ok (.ireturn, 1) := by decide +kernel
theorem d_Grammar_sizeOf_0 : decode b_Grammar_sizeOf 0 = .ok (.iload_n 1, 1) := by decide +kernel
theorem d_Grammar_sizeOf_1 : decode b_Grammar_sizeOf 1 = .ok (.ifCond .lt 18, 3) := by decide +kernel
theorem d_Grammar_sizeOf_4 : decode b_Grammar_sizeOf 4 = .ok (.iload_n 1, 1) := by decide +kernel
theorem d_Grammar_sizeOf_5 : decode b_Grammar_sizeOf 5 = .ok (.bipush 12, 2) := by decide +kernel
theorem d_Grammar_sizeOf_7 : decode b_Grammar_sizeOf 7 = .ok (.if_icmp .ge 12, 3) := by decide +kernel
theorem d_Grammar_sizeOf_10 : decode b_Grammar_sizeOf 10 = .ok (.aload_n 0, 1) := by decide +kernel
theorem d_Grammar_sizeOf_11 : decode b_Grammar_sizeOf 11 = .ok (.getfield 15, 3) := by decide +kernel
theorem d_Grammar_sizeOf_14 : decode b_Grammar_sizeOf 14 = .ok (.iload_n 1, 1) := by decide +kernel
theorem d_Grammar_sizeOf_15 : decode b_Grammar_sizeOf 15 = .ok (.iaload, 1) := by decide +kernel
theorem d_Grammar_sizeOf_16 : decode b_Grammar_sizeOf 16 = .ok (.goto 4, 3) := by decide +kernel
theorem d_Grammar_sizeOf_19 : decode b_Grammar_sizeOf 19 = .ok (.iconst 0, 1) := by decide +kernel
theorem d_Grammar_sizeOf_20 : decode b_Grammar_sizeOf 20 = .ok (.ireturn, 1) := by decide +kernel
theorem d_Grammar_symbolAt_0 : decode b_Grammar_symbolAt 0 = .ok (.iload_n 2, 1) := by decide +kernel
theorem d_Grammar_symbolAt_1 : decode b_Grammar_symbolAt 1 = .ok (.ifCond .lt 12, 3) := by decide +kernel
theorem d_Grammar_symbolAt_4 : decode b_Grammar_symbolAt 4 = .ok (.iload_n 2, 1) := by decide +kernel
theorem d_Grammar_symbolAt_5 : decode b_Grammar_symbolAt 5 = .ok (.aload_n 0, 1) := by decide +kernel
theorem d_Grammar_symbolAt_6 : decode b_Grammar_symbolAt 6 = .ok (.iload_n 1, 1) := by decide +kernel
theorem d_Grammar_symbolAt_7 : decode b_Grammar_symbolAt 7 = .ok (.invokevirtual 68, 3) := by decide +kernel
theorem d_Grammar_symbolAt_10 : decode b_Grammar_symbolAt 10 = .ok (.if_icmp .lt 5, 3) := by decide +kernel
theorem d_Grammar_symbolAt_13 : decode b_Grammar_symbolAt 13 = .ok (.iconst (-1), 1) := by decide +kernel
theorem d_Grammar_symbolAt_14 : decode b_Grammar_symbolAt 14 = .ok (.ireturn, 1) := by decide +kernel
theorem d_Grammar_symbolAt_15 : decode b_Grammar_symbolAt 15 = .ok (.aload_n 0, 1) := by decide +kernel
theorem d_Grammar_symbolAt_16 : decode b_Grammar_symbolAt 16 = .ok (.getfield 18, 3) := by decide +kernel
theorem d_Grammar_symbolAt_19 : decode b_Grammar_symbolAt 19 = .ok (.iload_n 1, 1) := by decide +kernel
theorem d_Grammar_symbolAt_20 : decode b_Grammar_symbolAt 20 = .ok (.iconst 4, 1) := by decide +kernel
theorem d_Grammar_symbolAt_21 : decode b_Grammar_symbolAt 21 = .ok (.imul, 1) := by decide +kernel
theorem d_Grammar_symbolAt_22 : decode b_Grammar_symbolAt 22 = .ok (.iload_n 2, 1) := by decide +kernel
theorem d_Grammar_symbolAt_23 : decode b_Grammar_symbolAt 23 = .ok (.iadd, 1) := by decide +kernel
theorem d_Grammar_symbolAt_24 : decode b_Grammar_symbolAt 24 = .ok (.iaload, 1) := by decide +kernel
theorem d_Grammar_symbolAt_25 : decode b_Grammar_symbolAt 25 = .ok (.ireturn, 1) := by decide +kernel
