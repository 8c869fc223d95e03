theorem d_Stacks_init_0 : decode b_Stacks_init 0 = .ok (.aload_n 0, 1) := by decide +kernel
theorem d_Stacks_init_1 : decode b_Stacks_init 1 = .ok (.invokespecial 5, 3) := by decide +kernel
theorem d_Stacks_init_4 : decode b_Stacks_init 4 = .ok (.aload_n 0, 1) := by decide +kernel
theorem d_Stacks_init_5 : decode b_Stacks_init 5 = .ok (.sipush 4096, 3) := by decide +kernel
theorem d_Stacks_init_8 : decode b_Stacks_init 8 = .ok (.newarray .int, 2) := by decide +kernel
theorem d_Stacks_init_10 : decode b_Stacks_init 10 = .ok (.putfield 11, 3) := by decide +kernel
theorem d_Stacks_init_13 : decode b_Stacks_init 13 = .ok (.aload_n 0, 1) := by decide +kernel
theorem d_Stacks_init_14 : decode b_Stacks_init 14 = .ok (.bipush 8, 2) := by decide +kernel
theorem d_Stacks_init_16 : decode b_Stacks_init 16 = .ok (.newarray .int, 2) := by decide +kernel
theorem d_Stacks_init_18 : decode b_Stacks_init 18 = .ok (.putfield 15, 3) := by decide +kernel
theorem d_Stacks_init_21 : decode b_Stacks_init 21 = .ok (.aload_n 0, 1) := by decide +kernel
theorem d_Stacks_init_22 : decode b_Stacks_init 22 = .ok (.aload_n 1, 1) := by decide +kernel
theorem d_Stacks_init_23 : decode b_Stacks_init 23 = .ok (.putfield 18, 3) := by decide +kernel
theorem d_Stacks_init_26 : decode b_Stacks_init 26 = .ok (.aload_n 0, 1) := by decide +kernel
theorem d_Stacks_init_27 : decode b_Stacks_init 27 = .ok (.aload_n 2, 1) := by decide +kernel
theorem d_Stacks_init_28 : decode b_Stacks_init 28 = .ok (.putfield 22, 3) := by decide +kernel
theorem d_Stacks_init_31 : decode b_Stacks_init 31 = .ok (.return_, 1) := by decide +kernel
theorem d_Stacks_wrongPlace_0 : decode b_Stacks_wrongPlace 0 = .ok (.aload_n 0, 1) := by decide +kernel
theorem d_Stacks_wrongPlace_1 : decode b_Stacks_wrongPlace 1 = .ok (.getfield 11, 3) := by decide +kernel
theorem d_Stacks_wrongPlace_4 : decode b_Stacks_wrongPlace 4 = .ok (.iconst 0, 1) := by decide +kernel
theorem d_Stacks_wrongPlace_5 : decode b_Stacks_wrongPlace 5 = .ok (.iconst 0, 1) := by decide +kernel
theorem d_Stacks_wrongPlace_6 : decode b_Stacks_wrongPlace 6 = .ok (.iastore, 1) := by decide +kernel
theorem d_Stacks_wrongPlace_7 : decode b_Stacks_wrongPlace 7 = .ok (.aload_n 0, 1) := by decide +kernel
theorem d_Stacks_wrongPlace_8 : decode b_Stacks_wrongPlace 8 = .ok (.getfield 15, 3) := by decide +kernel
theorem d_Stacks_wrongPlace_11 : decode b_Stacks_wrongPlace 11 = .ok (.iconst 0, 1) := by decide +kernel
theorem d_Stacks_wrongPlace_12 : decode b_Stacks_wrongPlace 12 = .ok (.iconst 1, 1) := by decide +kernel
theorem d_Stacks_wrongPlace_13 : decode b_Stacks_wrongPlace 13 = .ok (.iastore, 1) := by decide +kernel
theorem d_Stacks_wrongPlace_14 : decode b_Stacks_wrongPlace 14 = .ok (.iconst 0, 1) := by decide +kernel
theorem d_Stacks_wrongPlace_15 : decode b_Stacks_wrongPlace 15 = .ok (.istore_n 2, 1) := by decide +kernel
theorem d_Stacks_wrongPlace_16 : decode b_Stacks_wrongPlace 16 = .ok (.iload_n 2, 1) := by decide +kernel
theorem d_Stacks_wrongPlace_17 : decode b_Stacks_wrongPlace 17 = .ok (.aload_n 1, 1) := by decide +kernel
theorem d_Stacks_wrongPlace_18 : decode b_Stacks_wrongPlace 18 = .ok (.invokevirtual 26, 3) := by decide +kernel
theorem d_Stacks_wrongPlace_21 : decode b_Stacks_wrongPlace 21 = .ok (.if_icmp .ge 23, 3) := by decide +kernel
theorem d_Stacks_wrongPlace_24 : decode b_Stacks_wrongPlace 24 = .ok (.aload_n 0, 1) := by decide +kernel
theorem d_Stacks_wrongPlace_25 : decode b_Stacks_wrongPlace 25 = .ok (.iconst 0, 1) := by decide +kernel
theorem d_Stacks_wrongPlace_26 : decode b_Stacks_wrongPlace 26 = .ok (.iconst 0, 1) := by decide +kernel
theorem d_Stacks_wrongPlace_27 : decode b_Stacks_wrongPlace 27 = .ok (.aload_n 1, 1) := by decide +kernel
theorem d_Stacks_wrongPlace_28 : decode b_Stacks_wrongPlace 28 = .ok (.iload_n 2, 1) := by decide +kernel
theorem d_Stacks_wrongPlace_29 : decode b_Stacks_wrongPlace 29 = .ok (.invokevirtual 32, 3) := by decide +kernel
theorem d_Stacks_wrongPlace_32 : decode b_Stacks_wrongPlace 32 = .ok (.invokevirtual 36, 3) := by decide +kernel
theorem d_Stacks_wrongPlace_35 : decode b_Stacks_wrongPlace 35 = .ok (.ifCond .eq 9, 3) := by decide +kernel
theorem d_Stacks_wrongPlace_38 : decode b_Stacks_wrongPlace 38 = .ok (.iinc 2 1, 3) := by decide +kernel
theorem d_Stacks_wrongPlace_41 : decode b_Stacks_wrongPlace 41 = .ok (.goto (-25), 3) := by decide +kernel
theorem d_Stacks_wrongPlace_44 : decode b_Stacks_wrongPlace 44 = .ok (.iload_n 2, 1) := by decide +kernel
theorem d_Stacks_wrongPlace_45 : decode b_Stacks_wrongPlace 45 = .ok (.aload_n 1, 1) := by decide +kernel
theorem d_Stacks_wrongPlace_46 : decode b_Stacks_wrongPlace 46 = .ok (.invokevirtual 26, 3) := by decide +kernel
theorem d_Stacks_wrongPlace_49 : decode b_Stacks_wrongPlace 49 = .ok (.if_icmp .ne 15, 3) := by decide +kernel
theorem d_Stacks_wrongPlace_52 : decode b_Stacks_wrongPlace 52 = .ok (.aload_n 0, 1) := by decide +kernel
theorem d_Stacks_wrongPlace_53 : decode b_Stacks_wrongPlace 53 = .ok (.iconst 0, 1) := by decide +kernel
theorem d_Stacks_wrongPlace_54 : decode b_Stacks_wrongPlace 54 = .ok (.invokevirtual 40, 3) := by decide +kernel
theorem d_Stacks_wrongPlace_57 : decode b_Stacks_wrongPlace 57 = .ok (.ifCond .eq 7, 3) := by decide +kernel
theorem d_Stacks_wrongPlace_60 : decode b_Stacks_wrongPlace 60 = .ok (.iconst (-1), 1) := by decide +kernel
theorem d_Stacks_wrongPlace_61 : decode b_Stacks_wrongPlace 61 = .ok (.goto 4, 3) := by decide +kernel
theorem d_Stacks_wrongPlace_64 : decode b_Stacks_wrongPlace 64 = .ok (.iload_n 2, 1) := by decide +kernel
theorem d_Stacks_wrongPlace_65 : decode b_Stacks_wrongPlace 65 = .ok (.ireturn, 1) := by decide +kernel
theorem d_Stacks_isSentence_0 : decode b_Stacks_isSentence 0 = .ok (.aload_n 0, 1) := by decide +kernel
theorem d_Stacks_isSentence_1 : decode b_Stacks_isSentence 1 = .ok (.iload_n 1, 1) := by decide +kernel
theorem d_Stacks_isSentence_2 : decode b_Stacks_isSentence 2 = .ok (.bipush 6, 2) := by decide +kernel
theorem d_Stacks_isSentence_4 : decode b_Stacks_isSentence 4 = .ok (.invokevirtual 44, 3) := by decide +kernel
theorem d_Stacks_isSentence_7 : decode b_Stacks_isSentence 7 = .ok (.ireturn, 1) := by decide +kernel
theorem d_Stacks_feed_0 : decode b_Stacks_feed 0 = .ok (.iload_n 3, 1) := by decide +kernel
theorem d_Stacks_feed_1 : decode b_Stacks_feed 1 = .ok (.ifCond .lt 23, 3) := by decide +kernel
theorem d_Stacks_feed_4 : decode b_Stacks_feed 4 = .ok (.iload_n 3, 1) := by decide +kernel
theorem d_Stacks_feed_5 : decode b_Stacks_feed 5 = .ok (.bipush 6, 2) := by decide +kernel
theorem d_Stacks_feed_7 : decode b_Stacks_feed 7 = .ok (.if_icmp .ge 17, 3) := by decide +kernel
theorem d_Stacks_feed_10 : decode b_Stacks_feed 10 = .ok (.iload_n 2, 1) := by decide +kernel
theorem d_Stacks_feed_11 : decode b_Stacks_feed 11 = .ok (.ifCond .lt 13, 3) := by decide +kernel
theorem d_Stacks_feed_14 : decode b_Stacks_feed 14 = .ok (.iload_n 2, 1) := by decide +kernel
theorem d_Stacks_feed_15 : decode b_Stacks_feed 15 = .ok (.bipush 8, 2) := by decide +kernel
theorem d_Stacks_feed_17 : decode b_Stacks_feed 17 = .ok (.if_icmp .ge 7, 3) := by decide +kernel
theorem d_Stacks_feed_20 : decode b_Stacks_feed 20 = .ok (.iconst 1, 1) := by decide +kernel
theorem d_Stacks_feed_21 : decode b_Stacks_feed 21 = .ok (.goto 4, 3) := by decide +kernel
theorem d_Stacks_feed_24 : decode b_Stacks_feed 24 = .ok (.iconst 0, 1) := by decide +kernel
theorem d_Stacks_feed_25 : decode b_Stacks_feed 25 = .ok (.istore 4, 2) := by decide +kernel
theorem d_Stacks_feed_27 : decode b_Stacks_feed 27 = .ok (.iload 4, 2) := by decide +kernel
theorem d_Stacks_feed_29 : decode b_Stacks_feed 29 = .ok (.ifCond .eq 12, 3) := by decide +kernel
theorem d_Stacks_feed_32 : decode b_Stacks_feed 32 = .ok (.aload_n 0, 1) := by decide +kernel
theorem d_Stacks_feed_33 : decode b_Stacks_feed 33 = .ok (.iload_n 1, 1) := by decide +kernel
theorem d_Stacks_feed_34 : decode b_Stacks_feed 34 = .ok (.iload_n 3, 1) := by decide +kernel
theorem d_Stacks_feed_35 : decode b_Stacks_feed 35 = .ok (.invokevirtual 44, 3) := by decide +kernel
theorem d_Stacks_feed_38 : decode b_Stacks_feed 38 = .ok (.ifCond .ne 5, 3) := by decide +kernel
theorem d_Stacks_feed_41 : decode b_Stacks_feed 41 = .ok (.iconst 0, 1) := by decide +kernel
theorem d_Stacks_feed_42 : decode b_Stacks_feed 42 = .ok (.ireturn, 1) := by decide +kernel
theorem d_Stacks_feed_43 : decode b_Stacks_feed 43 = .ok (.aload_n 0, 1) := by decide +kernel
theorem d_Stacks_feed_44 : decode b_Stacks_feed 44 = .ok (.iload_n 1, 1) := by decide +kernel
theorem d_Stacks_feed_45 : decode b_Stacks_feed 45 = .ok (.iload_n 2, 1) := by decide +kernel
theorem d_Stacks_feed_46 : decode b_Stacks_feed 46 = .ok (.invokevirtual 48, 3) := by decide +kernel
theorem d_Stacks_feed_49 : decode b_Stacks_feed 49 = .ok (.iconst 0, 1) := by decide +kernel
theorem d_Stacks_feed_50 : decode b_Stacks_feed 50 = .ok (.istore 5, 2) := by decide +kernel
theorem d_Stacks_feed_52 : decode b_Stacks_feed 52 = .ok (.iload 5, 2) := by decide +kernel
theorem d_Stacks_feed_54 : decode b_Stacks_feed 54 = .ok (.ldc 52, 2) := by decide +kernel
theorem d_Stacks_feed_56 : decode b_Stacks_feed 56 = .ok (.if_icmp .ge 65, 3) := by decide +kernel
theorem d_Stacks_feed_59 : decode b_Stacks_feed 59 = .ok (.aload_n 0, 1) := by decide +kernel
theorem d_Stacks_feed_60 : decode b_Stacks_feed 60 = .ok (.getfield 22, 3) := by decide +kernel
theorem d_Stacks_feed_63 : decode b_Stacks_feed 63 = .ok (.aload_n 0, 1) := by decide +kernel
theorem d_Stacks_feed_64 : decode b_Stacks_feed 64 = .ok (.iload_n 2, 1) := by decide +kernel
theorem d_Stacks_feed_65 : decode b_Stacks_feed 65 = .ok (.invokevirtual 53, 3) := by decide +kernel
theorem d_Stacks_feed_68 : decode b_Stacks_feed 68 = .ok (.iload_n 3, 1) := by decide +kernel
theorem d_Stacks_feed_69 : decode b_Stacks_feed 69 = .ok (.invokevirtual 56, 3) := by decide +kernel
theorem d_Stacks_feed_72 : decode b_Stacks_feed 72 = .ok (.istore 6, 2) := by decide +kernel
theorem d_Stacks_feed_74 : decode b_Stacks_feed 74 = .ok (.iload 6, 2) := by decide +kernel
theorem d_Stacks_feed_76 : decode b_Stacks_feed 76 = .ok (.ifCond .ge 11, 3) := by decide +kernel
theorem d_Stacks_feed_79 : decode b_Stacks_feed 79 = .ok (.aload_n 0, 1) := by decide +kernel
theorem d_Stacks_feed_80 : decode b_Stacks_feed 80 = .ok (.iload_n 2, 1) := by decide +kernel
theorem d_Stacks_feed_81 : decode b_Stacks_feed 81 = .ok (.iconst 0, 1) := by decide +kernel
theorem d_Stacks_feed_82 : decode b_Stacks_feed 82 = .ok (.iload_n 3, 1) := by decide +kernel
theorem d_Stacks_feed_83 : decode b_Stacks_feed 83 = .ok (.invokevirtual 62, 3) := by decide +kernel
theorem d_Stacks_feed_86 : decode b_Stacks_feed 86 = .ok (.ireturn, 1) := by decide +kernel
theorem d_Stacks_feed_87 : decode b_Stacks_feed 87 = .ok (.aload_n 0, 1) := by decide +kernel
theorem d_Stacks_feed_88 : decode b_Stacks_feed 88 = .ok (.iload_n 2, 1) := by decide +kernel
theorem d_Stacks_feed_89 : decode b_Stacks_feed 89 = .ok (.aload_n 0, 1) := by decide +kernel
theorem d_Stacks_feed_90 : decode b_Stacks_feed 90 = .ok (.getfield 18, 3) := by decide +kernel
theorem d_Stacks_feed_93 : decode b_Stacks_feed 93 = .ok (.iload 6, 2) := by decide +kernel
theorem d_Stacks_feed_95 : decode b_Stacks_feed 95 = .ok (.invokevirtual 65, 3) := by decide +kernel
theorem d_Stacks_feed_98 : decode b_Stacks_feed 98 = .ok (.aload_n 0, 1) := by decide +kernel
theorem d_Stacks_feed_99 : decode b_Stacks_feed 99 = .ok (.getfield 18, 3) := by decide +kernel
theorem d_Stacks_feed_102 : decode b_Stacks_feed 102 = .ok (.iload 6, 2) := by decide +kernel
theorem d_Stacks_feed_104 : decode b_Stacks_feed 104 = .ok (.invokevirtual 70, 3) := by decide +kernel
theorem d_Stacks_feed_107 : decode b_Stacks_feed 107 = .ok (.invokevirtual 62, 3) := by decide +kernel
theorem d_Stacks_feed_110 : decode b_Stacks_feed 110 = .ok (.ifCond .ne 5, 3) := by decide +kernel
theorem d_Stacks_feed_113 : decode b_Stacks_feed 113 = .ok (.iconst 0, 1) := by decide +kernel
theorem d_Stacks_feed_114 : decode b_Stacks_feed 114 = .ok (.ireturn, 1) := by decide +kernel
theorem d_Stacks_feed_115 : decode b_Stacks_feed 115 = .ok (.iinc 5 1, 3) := by decide +kernel
theorem d_Stacks_feed_118 : decode b_Stacks_feed 118 = .ok (.goto (-66), 3) := by decide +kernel
theorem d_Stacks_feed_121 : decode b_Stacks_feed 121 = .ok (.iconst 0, 1) := by decide +kernel
theorem d_Stacks_feed_122 : decode b_Stacks_feed 122 = .ok (.ireturn, 1) := by decide +kernel
theorem d_Stacks_canMove_0 : decode b_Stacks_canMove 0 = .ok (.aload_n 0, 1) := by decide +kernel
theorem d_Stacks_canMove_1 : decode b_Stacks_canMove 1 = .ok (.iload_n 1, 1) := by decide +kernel
theorem d_Stacks_canMove_2 : decode b_Stacks_canMove 2 = .ok (.invokevirtual 53, 3) := by decide +kernel
theorem d_Stacks_canMove_5 : decode b_Stacks_canMove 5 = .ok (.istore_n 3, 1) := by decide +kernel
theorem d_Stacks_canMove_6 : decode b_Stacks_canMove 6 = .ok (.aload_n 0, 1) := by decide +kernel
theorem d_Stacks_canMove_7 : decode b_Stacks_canMove 7 = .ok (.getfield 22, 3) := by decide +kernel
theorem d_Stacks_canMove_10 : decode b_Stacks_canMove 10 = .ok (.iload_n 3, 1) := by decide +kernel
theorem d_Stacks_canMove_11 : decode b_Stacks_canMove 11 = .ok (.iload_n 2, 1) := by decide +kernel
theorem d_Stacks_canMove_12 : decode b_Stacks_canMove 12 = .ok (.invokevirtual 56, 3) := by decide +kernel
theorem d_Stacks_canMove_15 : decode b_Stacks_canMove 15 = .ok (.ifCond .ge 21, 3) := by decide +kernel
theorem d_Stacks_canMove_18 : decode b_Stacks_canMove 18 = .ok (.iload_n 2, 1) := by decide +kernel
theorem d_Stacks_canMove_19 : decode b_Stacks_canMove 19 = .ok (.bipush 6, 2) := by decide +kernel
theorem d_Stacks_canMove_21 : decode b_Stacks_canMove 21 = .ok (.if_icmp .eq 19, 3) := by decide +kernel
theorem d_Stacks_canMove_24 : decode b_Stacks_canMove 24 = .ok (.aload_n 0, 1) := by decide +kernel
theorem d_Stacks_canMove_25 : decode b_Stacks_canMove 25 = .ok (.getfield 22, 3) := by decide +kernel
theorem d_Stacks_canMove_28 : decode b_Stacks_canMove 28 = .ok (.iload_n 3, 1) := by decide +kernel
theorem d_Stacks_canMove_29 : decode b_Stacks_canMove 29 = .ok (.iload_n 2, 1) := by decide +kernel
theorem d_Stacks_canMove_30 : decode b_Stacks_canMove 30 = .ok (.invokevirtual 73, 3) := by decide +kernel
theorem d_Stacks_canMove_33 : decode b_Stacks_canMove 33 = .ok (.ifCond .lt 7, 3) := by decide +kernel
theorem d_Stacks_canMove_36 : decode b_Stacks_canMove 36 = .ok (.iconst 1, 1) := by decide +kernel
theorem d_Stacks_canMove_37 : decode b_Stacks_canMove 37 = .ok (.goto 4, 3) := by decide +kernel
theorem d_Stacks_canMove_40 : decode b_Stacks_canMove 40 = .ok (.iconst 0, 1) := by decide +kernel
theorem d_Stacks_canMove_41 : decode b_Stacks_canMove 41 = .ok (.ireturn, 1) := by decide +kernel
theorem d_Stacks_topOf_0 : decode b_Stacks_topOf 0 = .ok (.iload_n 1, 1) := by decide +kernel
theorem d_Stacks_topOf_1 : decode b_Stacks_topOf 1 = .ok (.ifCond .lt 19, 3) := by decide +kernel
theorem d_Stacks_topOf_4 : decode b_Stacks_topOf 4 = .ok (.iload_n 1, 1) := by decide +kernel
theorem d_Stacks_topOf_5 : decode b_Stacks_topOf 5 = .ok (.bipush 8, 2) := by decide +kernel
theorem d_Stacks_topOf_7 : decode b_Stacks_topOf 7 = .ok (.if_icmp .ge 13, 3) := by decide +kernel
theorem d_Stacks_topOf_10 : decode b_Stacks_topOf 10 = .ok (.aload_n 0, 1) := by decide +kernel
theorem d_Stacks_topOf_11 : decode b_Stacks_topOf 11 = .ok (.getfield 15, 3) := by decide +kernel
theorem d_Stacks_topOf_14 : decode b_Stacks_topOf 14 = .ok (.iload_n 1, 1) := by decide +kernel
theorem d_Stacks_topOf_15 : decode b_Stacks_topOf 15 = .ok (.iaload, 1) := by decide +kernel
theorem d_Stacks_topOf_16 : decode b_Stacks_topOf 16 = .ok (.iconst 1, 1) := by decide +kernel
theorem d_Stacks_topOf_17 : decode b_Stacks_topOf 17 = .ok (.if_icmp .ge 5, 3) := by decide +kernel
theorem d_Stacks_topOf_20 : decode b_Stacks_topOf 20 = .ok (.iconst (-1), 1) := by decide +kernel
theorem d_Stacks_topOf_21 : decode b_Stacks_topOf 21 = .ok (.ireturn, 1) := by decide +kernel
theorem d_Stacks_topOf_22 : decode b_Stacks_topOf 22 = .ok (.aload_n 0, 1) := by decide +kernel
theorem d_Stacks_topOf_23 : decode b_Stacks_topOf 23 = .ok (.getfield 11, 3) := by decide +kernel
theorem d_Stacks_topOf_26 : decode b_Stacks_topOf 26 = .ok (.iload_n 1, 1) := by decide +kernel
theorem d_Stacks_topOf_27 : decode b_Stacks_topOf 27 = .ok (.sipush 512, 3) := by decide +kernel
theorem d_Stacks_topOf_30 : decode b_Stacks_topOf 30 = .ok (.imul, 1) := by decide +kernel
theorem d_Stacks_topOf_31 : decode b_Stacks_topOf 31 = .ok (.aload_n 0, 1) := by decide +kernel
theorem d_Stacks_topOf_32 : decode b_Stacks_topOf 32 = .ok (.getfield 15, 3) := by decide +kernel
theorem d_Stacks_topOf_35 : decode b_Stacks_topOf 35 = .ok (.iload_n 1, 1) := by decide +kernel
theorem d_Stacks_topOf_36 : decode b_Stacks_topOf 36 = .ok (.iaload, 1) := by decide +kernel
theorem d_Stacks_topOf_37 : decode b_Stacks_topOf 37 = .ok (.iadd, 1) := by decide +kernel
theorem d_Stacks_topOf_38 : decode b_Stacks_topOf 38 = .ok (.iconst 1, 1) := by decide +kernel
theorem d_Stacks_topOf_39 : decode b_Stacks_topOf 39 = .ok (.isub, 1) := by decide +kernel
theorem d_Stacks_topOf_40 : decode b_Stacks_topOf 40 = .ok (.iaload, 1) := by decide +kernel
theorem d_Stacks_topOf_41 : decode b_Stacks_topOf 41 = .ok (.ireturn, 1) := by decide +kernel
theorem d_Stacks_copy_0 : decode b_Stacks_copy 0 = .ok (.iload_n 1, 1) := by decide +kernel
theorem d_Stacks_copy_1 : decode b_Stacks_copy 1 = .ok (.ifCond .lt 24, 3) := by decide +kernel
theorem d_Stacks_copy_4 : decode b_Stacks_copy 4 = .ok (.iload_n 1, 1) := by decide +kernel
theorem d_Stacks_copy_5 : decode b_Stacks_copy 5 = .ok (.bipush 8, 2) := by decide +kernel
theorem d_Stacks_copy_7 : decode b_Stacks_copy 7 = .ok (.if_icmp .ge 18, 3) := by decide +kernel
theorem d_Stacks_copy_10 : decode b_Stacks_copy 10 = .ok (.iload_n 2, 1) := by decide +kernel
theorem d_Stacks_copy_11 : decode b_Stacks_copy 11 = .ok (.ifCond .lt 14, 3) := by decide +kernel
theorem d_Stacks_copy_14 : decode b_Stacks_copy 14 = .ok (.iload_n 2, 1) := by decide +kernel
theorem d_Stacks_copy_15 : decode b_Stacks_copy 15 = .ok (.bipush 8, 2) := by decide +kernel
theorem d_Stacks_copy_17 : decode b_Stacks_copy 17 = .ok (.if_icmp .ge 8, 3) := by decide +kernel
theorem d_Stacks_copy_20 : decode b_Stacks_copy 20 = .ok (.iload_n 1, 1) := by decide +kernel
theorem d_Stacks_copy_21 : decode b_Stacks_copy 21 = .ok (.iload_n 2, 1) := by decide +kernel
theorem d_Stacks_copy_22 : decode b_Stacks_copy 22 = .ok (.if_icmp .ne 4, 3) := by decide +kernel
theorem d_Stacks_copy_25 : decode b_Stacks_copy 25 = .ok (.return_, 1) := by decide +kernel
theorem d_Stacks_copy_26 : decode b_Stacks_copy 26 = .ok (.aload_n 0, 1) := by decide +kernel
theorem d_Stacks_copy_27 : decode b_Stacks_copy 27 = .ok (.getfield 11, 3) := by decide +kernel
theorem d_Stacks_copy_30 : decode b_Stacks_copy 30 = .ok (.iload_n 1, 1) := by decide +kernel
theorem d_Stacks_copy_31 : decode b_Stacks_copy 31 = .ok (.sipush 512, 3) := by decide +kernel
theorem d_Stacks_copy_34 : decode b_Stacks_copy 34 = .ok (.imul, 1) := by decide +kernel
theorem d_Stacks_copy_35 : decode b_Stacks_copy 35 = .ok (.aload_n 0, 1) := by decide +kernel
theorem d_Stacks_copy_36 : decode b_Stacks_copy 36 = .ok (.getfield 11, 3) := by decide +kernel
theorem d_Stacks_copy_39 : decode b_Stacks_copy 39 = .ok (.iload_n 2, 1) := by decide +kernel
theorem d_Stacks_copy_40 : decode b_Stacks_copy 40 = .ok (.sipush 512, 3) := by decide +kernel
theorem d_Stacks_copy_43 : decode b_Stacks_copy 43 = .ok (.imul, 1) := by decide +kernel
theorem d_Stacks_copy_44 : decode b_Stacks_copy 44 = .ok (.aload_n 0, 1) := by decide +kernel
theorem d_Stacks_copy_45 : decode b_Stacks_copy 45 = .ok (.getfield 15, 3) := by decide +kernel
theorem d_Stacks_copy_48 : decode b_Stacks_copy 48 = .ok (.iload_n 1, 1) := by decide +kernel
theorem d_Stacks_copy_49 : decode b_Stacks_copy 49 = .ok (.iaload, 1) := by decide +kernel
theorem d_Stacks_copy_50 : decode b_Stacks_copy 50 = .ok (.invokestatic 76, 3) := by decide +kernel
theorem d_Stacks_copy_53 : decode b_Stacks_copy 53 = .ok (.aload_n 0, 1) := by decide +kernel
theorem d_Stacks_copy_54 : decode b_Stacks_copy 54 = .ok (.getfield 15, 3) := by decide +kernel
theorem d_Stacks_copy_57 : decode b_Stacks_copy 57 = .ok (.iload_n 2, 1) := by decide +kernel
theorem d_Stacks_copy_58 : decode b_Stacks_copy 58 = .ok (.aload_n 0, 1) := by decide +kernel
theorem d_Stacks_copy_59 : decode b_Stacks_copy 59 = .ok (.getfield 15, 3) := by decide +kernel
theorem d_Stacks_copy_62 : decode b_Stacks_copy 62 = .ok (.iload_n 1, 1) := by decide +kernel
theorem d_Stacks_copy_63 : decode b_Stacks_copy 63 = .ok (.iaload, 1) := by decide +kernel
theorem d_Stacks_copy_64 : decode b_Stacks_copy 64 = .ok (.iastore, 1) := by decide +kernel
theorem d_Stacks_copy_65 : decode b_Stacks_copy 65 = .ok (.return_, 1) := by decide +kernel
theorem d_Stacks_replace_0 : decode b_Stacks_replace 0 = .ok (.aload_n 0, 1) := by decide +kernel
theorem d_Stacks_replace_1 : decode b_Stacks_replace 1 = .ok (.getfield 15, 3) := by decide +kernel
theorem d_Stacks_replace_4 : decode b_Stacks_replace 4 = .ok (.iload_n 1, 1) := by decide +kernel
theorem d_Stacks_replace_5 : decode b_Stacks_replace 5 = .ok (.iaload, 1) := by decide +kernel
theorem d_Stacks_replace_6 : decode b_Stacks_replace 6 = .ok (.iload_n 2, 1) := by decide +kernel
theorem d_Stacks_replace_7 : decode b_Stacks_replace 7 = .ok (.isub, 1) := by decide +kernel
theorem d_Stacks_replace_8 : decode b_Stacks_replace 8 = .ok (.istore 4, 2) := by decide +kernel
theorem d_Stacks_replace_10 : decode b_Stacks_replace 10 = .ok (.iload 4, 2) := by decide +kernel
theorem d_Stacks_replace_12 : decode b_Stacks_replace 12 = .ok (.iconst 1, 1) := by decide +kernel
theorem d_Stacks_replace_13 : decode b_Stacks_replace 13 = .ok (.if_icmp .lt 11, 3) := by decide +kernel
theorem d_Stacks_replace_16 : decode b_Stacks_replace 16 = .ok (.iload 4, 2) := by decide +kernel
theorem d_Stacks_replace_18 : decode b_Stacks_replace 18 = .ok (.sipush 512, 3) := by decide +kernel
theorem d_Stacks_replace_21 : decode b_Stacks_replace 21 = .ok (.if_icmp .lt 5, 3) := by decide +kernel
theorem d_Stacks_replace_24 : decode b_Stacks_replace 24 = .ok (.iconst 0, 1) := by decide +kernel
theorem d_Stacks_replace_25 : decode b_Stacks_replace 25 = .ok (.ireturn, 1) := by decide +kernel
theorem d_Stacks_replace_26 : decode b_Stacks_replace 26 = .ok (.aload_n 0, 1) := by decide +kernel
theorem d_Stacks_replace_27 : decode b_Stacks_replace 27 = .ok (.getfield 22, 3) := by decide +kernel
theorem d_Stacks_replace_30 : decode b_Stacks_replace 30 = .ok (.aload_n 0, 1) := by decide +kernel
theorem d_Stacks_replace_31 : decode b_Stacks_replace 31 = .ok (.getfield 11, 3) := by decide +kernel
theorem d_Stacks_replace_34 : decode b_Stacks_replace 34 = .ok (.iload_n 1, 1) := by decide +kernel
theorem d_Stacks_replace_35 : decode b_Stacks_replace 35 = .ok (.sipush 512, 3) := by decide +kernel
theorem d_Stacks_replace_38 : decode b_Stacks_replace 38 = .ok (.imul, 1) := by decide +kernel
theorem d_Stacks_replace_39 : decode b_Stacks_replace 39 = .ok (.iload 4, 2) := by decide +kernel
theorem d_Stacks_replace_41 : decode b_Stacks_replace 41 = .ok (.iadd, 1) := by decide +kernel
theorem d_Stacks_replace_42 : decode b_Stacks_replace 42 = .ok (.iconst 1, 1) := by decide +kernel
theorem d_Stacks_replace_43 : decode b_Stacks_replace 43 = .ok (.isub, 1) := by decide +kernel
theorem d_Stacks_replace_44 : decode b_Stacks_replace 44 = .ok (.iaload, 1) := by decide +kernel
theorem d_Stacks_replace_45 : decode b_Stacks_replace 45 = .ok (.iload_n 3, 1) := by decide +kernel
theorem d_Stacks_replace_46 : decode b_Stacks_replace 46 = .ok (.invokevirtual 73, 3) := by decide +kernel
theorem d_Stacks_replace_49 : decode b_Stacks_replace 49 = .ok (.istore 5, 2) := by decide +kernel
theorem d_Stacks_replace_51 : decode b_Stacks_replace 51 = .ok (.iload 5, 2) := by decide +kernel
theorem d_Stacks_replace_53 : decode b_Stacks_replace 53 = .ok (.ifCond .ge 5, 3) := by decide +kernel
theorem d_Stacks_replace_56 : decode b_Stacks_replace 56 = .ok (.iconst 0, 1) := by decide +kernel
theorem d_Stacks_replace_57 : decode b_Stacks_replace 57 = .ok (.ireturn, 1) := by decide +kernel
theorem d_Stacks_replace_58 : decode b_Stacks_replace 58 = .ok (.aload_n 0, 1) := by decide +kernel
theorem d_Stacks_replace_59 : decode b_Stacks_replace 59 = .ok (.getfield 11, 3) := by decide +kernel
theorem d_Stacks_replace_62 : decode b_Stacks_replace 62 = .ok (.iload_n 1, 1) := by decide +kernel
theorem d_Stacks_replace_63 : decode b_Stacks_replace 63 = .ok (.sipush 512, 3) := by decide +kernel
theorem d_Stacks_replace_66 : decode b_Stacks_replace 66 = .ok (.imul, 1) := by decide +kernel
theorem d_Stacks_replace_67 : decode b_Stacks_replace 67 = .ok (.iload 4, 2) := by decide +kernel
theorem d_Stacks_replace_69 : decode b_Stacks_replace 69 = .ok (.iadd, 1) := by decide +kernel
theorem d_Stacks_replace_70 : decode b_Stacks_replace 70 = .ok (.iload 5, 2) := by decide +kernel
theorem d_Stacks_replace_72 : decode b_Stacks_replace 72 = .ok (.iastore, 1) := by decide +kernel
theorem d_Stacks_replace_73 : decode b_Stacks_replace 73 = .ok (.aload_n 0, 1) := by decide +kernel
theorem d_Stacks_replace_74 : decode b_Stacks_replace 74 = .ok (.getfield 15, 3) := by decide +kernel
theorem d_Stacks_replace_77 : decode b_Stacks_replace 77 = .ok (.iload_n 1, 1) := by decide +kernel
theorem d_Stacks_replace_78 : decode b_Stacks_replace 78 = .ok (.iload 4, 2) := by decide +kernel
theorem d_Stacks_replace_80 : decode b_Stacks_replace 80 = .ok (.iconst 1, 1) := by decide +kernel
theorem d_Stacks_replace_81 : decode b_Stacks_replace 81 = .ok (.iadd, 1) := by decide +kernel
theorem d_Stacks_replace_82 : decode b_Stacks_replace 82 = .ok (.iastore, 1) := by decide +kernel
theorem d_Stacks_replace_83 : decode b_Stacks_replace 83 = .ok (.iconst 1, 1) := by decide +kernel
theorem d_Stacks_replace_84 : decode b_Stacks_replace 84 = .ok (.ireturn, 1) := by decide +kernel
theorem d_Search_init_0 : decode b_Search_init 0 = .ok (.aload_n 0, 1) := by decide +kernel
theorem d_Search_init_1 : decode b_Search_init 1 = .ok (.invokespecial 3, 3) := by decide +kernel
theorem d_Search_init_4 : decode b_Search_init 4 = .ok (.aload_n 0, 1) := by decide +kernel
theorem d_Search_init_5 : decode b_Search_init 5 = .ok (.bipush 6, 2) := by decide +kernel
theorem d_Search_init_7 : decode b_Search_init 7 = .ok (.newarray .int, 2) := by decide +kernel
theorem d_Search_init_9 : decode b_Search_init 9 = .ok (.putfield 9, 3) := by decide +kernel
theorem d_Search_init_12 : decode b_Search_init 12 = .ok (.aload_n 0, 1) := by decide +kernel
theorem d_Search_init_13 : decode b_Search_init 13 = .ok (.aload_n 1, 1) := by decide +kernel
theorem d_Search_init_14 : decode b_Search_init 14 = .ok (.putfield 15, 3) := by decide +kernel
theorem d_Search_init_17 : decode b_Search_init 17 = .ok (.aload_n 0, 1) := by decide +kernel
theorem d_Search_init_18 : decode b_Search_init 18 = .ok (.aload_n 2, 1) := by decide +kernel
theorem d_Search_init_19 : decode b_Search_init 19 = .ok (.putfield 19, 3) := by decide +kernel
theorem d_Search_init_22 : decode b_Search_init 22 = .ok (.aload_n 0, 1) := by decide +kernel
theorem d_Search_init_23 : decode b_Search_init 23 = .ok (.aload_n 3, 1) := by decide +kernel
theorem d_Search_init_24 : decode b_Search_init 24 = .ok (.putfield 23, 3) := by decide +kernel
theorem d_Search_init_27 : decode b_Search_init 27 = .ok (.aload_n 0, 1) := by decide +kernel
theorem d_Search_init_28 : decode b_Search_init 28 = .ok (.aload 4, 2) := by decide +kernel
theorem d_Search_init_30 : decode b_Search_init 30 = .ok (.putfield 27, 3) := by decide +kernel
theorem d_Search_init_33 : decode b_Search_init 33 = .ok (.return_, 1) := by decide +kernel
theorem d_Search_findBest_0 : decode b_Search_findBest 0 = .ok (.aload_n 0, 1) := by decide +kernel
theorem d_Search_findBest_1 : decode b_Search_findBest 1 = .ok (.getfield 15, 3) := by decide +kernel
theorem d_Search_findBest_4 : decode b_Search_findBest 4 = .ok (.aload_n 0, 1) := by decide +kernel
theorem d_Search_findBest_5 : decode b_Search_findBest 5 = .ok (.getfield 19, 3) := by decide +kernel
theorem d_Search_findBest_8 : decode b_Search_findBest 8 = .ok (.invokevirtual 31, 3) := by decide +kernel
theorem d_Search_findBest_11 : decode b_Search_findBest 11 = .ok (.istore_n 2, 1) := by decide +kernel
theorem d_Search_findBest_12 : decode b_Search_findBest 12 = .ok (.aload_n 0, 1) := by decide +kernel
theorem d_Search_findBest_13 : decode b_Search_findBest 13 = .ok (.iload_n 1, 1) := by decide +kernel
theorem d_Search_findBest_14 : decode b_Search_findBest 14 = .ok (.putfield 37, 3) := by decide +kernel
theorem d_Search_findBest_17 : decode b_Search_findBest 17 = .ok (.aload_n 0, 1) := by decide +kernel
theorem d_Search_findBest_18 : decode b_Search_findBest 18 = .ok (.iconst 0, 1) := by decide +kernel
theorem d_Search_findBest_19 : decode b_Search_findBest 19 = .ok (.putfield 41, 3) := by decide +kernel
theorem d_Search_findBest_22 : decode b_Search_findBest 22 = .ok (.iload_n 2, 1) := by decide +kernel
theorem d_Search_findBest_23 : decode b_Search_findBest 23 = .ok (.ifCond .ge 5, 3) := by decide +kernel
theorem d_Search_findBest_26 : decode b_Search_findBest 26 = .ok (.iconst 1, 1) := by decide +kernel
theorem d_Search_findBest_27 : decode b_Search_findBest 27 = .ok (.ireturn, 1) := by decide +kernel
theorem d_Search_findBest_28 : decode b_Search_findBest 28 = .ok (.aload_n 0, 1) := by decide +kernel
theorem d_Search_findBest_29 : decode b_Search_findBest 29 = .ok (.getfield 27, 3) := by decide +kernel
theorem d_Search_findBest_32 : decode b_Search_findBest 32 = .ok (.iload_n 2, 1) := by decide +kernel
theorem d_Search_findBest_33 : decode b_Search_findBest 33 = .ok (.invokevirtual 45, 3) := by decide +kernel
theorem d_Search_findBest_36 : decode b_Search_findBest 36 = .ok (.iconst 1, 1) := by decide +kernel
theorem d_Search_findBest_37 : decode b_Search_findBest 37 = .ok (.istore_n 3, 1) := by decide +kernel
theorem d_Search_findBest_38 : decode b_Search_findBest 38 = .ok (.iload_n 3, 1) := by decide +kernel
theorem d_Search_findBest_39 : decode b_Search_findBest 39 = .ok (.iconst 3, 1) := by decide +kernel
theorem d_Search_findBest_40 : decode b_Search_findBest 40 = .ok (.if_icmp .gt 33, 3) := by decide +kernel
theorem d_Search_findBest_43 : decode b_Search_findBest 43 = .ok (.aload_n 0, 1) := by decide +kernel
theorem d_Search_findBest_44 : decode b_Search_findBest 44 = .ok (.getfield 27, 3) := by decide +kernel
theorem d_Search_findBest_47 : decode b_Search_findBest 47 = .ok (.invokevirtual 51, 3) := by decide +kernel
theorem d_Search_findBest_50 : decode b_Search_findBest 50 = .ok (.ifCond .ne 23, 3) := by decide +kernel
theorem d_Search_findBest_53 : decode b_Search_findBest 53 = .ok (.aload_n 0, 1) := by decide +kernel
theorem d_Search_findBest_54 : decode b_Search_findBest 54 = .ok (.iload_n 3, 1) := by decide +kernel
theorem d_Search_findBest_55 : decode b_Search_findBest 55 = .ok (.putfield 55, 3) := by decide +kernel
theorem d_Search_findBest_58 : decode b_Search_findBest 58 = .ok (.aload_n 0, 1) := by decide +kernel
theorem d_Search_findBest_59 : decode b_Search_findBest 59 = .ok (.iconst 0, 1) := by decide +kernel
theorem d_Search_findBest_60 : decode b_Search_findBest 60 = .ok (.iconst 0, 1) := by decide +kernel
theorem d_Search_findBest_61 : decode b_Search_findBest 61 = .ok (.iload_n 2, 1) := by decide +kernel
theorem d_Search_findBest_62 : decode b_Search_findBest 62 = .ok (.iload_n 3, 1) := by decide +kernel
theorem d_Search_findBest_63 : decode b_Search_findBest 63 = .ok (.iconst 0, 1) := by decide +kernel
theorem d_Search_findBest_64 : decode b_Search_findBest 64 = .ok (.invokevirtual 58, 3) := by decide +kernel
theorem d_Search_findBest_67 : decode b_Search_findBest 67 = .ok (.iinc 3 1, 3) := by decide +kernel
theorem d_Search_findBest_70 : decode b_Search_findBest 70 = .ok (.goto (-32), 3) := by decide +kernel
theorem d_Search_findBest_73 : decode b_Search_findBest 73 = .ok (.aload_n 0, 1) := by decide +kernel
theorem d_Search_findBest_74 : decode b_Search_findBest 74 = .ok (.getfield 41, 3) := by decide +kernel
theorem d_Search_findBest_77 : decode b_Search_findBest 77 = .ok (.ifCond .ne 7, 3) := by decide +kernel
theorem d_Search_findBest_80 : decode b_Search_findBest 80 = .ok (.iconst 1, 1) := by decide +kernel
theorem d_Search_findBest_81 : decode b_Search_findBest 81 = .ok (.goto 4, 3) := by decide +kernel
theorem d_Search_findBest_84 : decode b_Search_findBest 84 = .ok (.iconst 0, 1) := by decide +kernel
theorem d_Search_findBest_85 : decode b_Search_findBest 85 = .ok (.ireturn, 1) := by decide +kernel
theorem d_Search_explore_0 : decode b_Search_explore 0 = .ok (.iload_n 1, 1) := by decide +kernel
theorem d_Search_explore_1 : decode b_Search_explore 1 = .ok (.bipush 6, 2) := by decide +kernel
theorem d_Search_explore_3 : decode b_Search_explore 3 = .ok (.if_icmp .ge 15, 3) := by decide +kernel
theorem d_Search_explore_6 : decode b_Search_explore 6 = .ok (.iload 4, 2) := by decide +kernel
theorem d_Search_explore_8 : decode b_Search_explore 8 = .ok (.ifCond .le 10, 3) := by decide +kernel
theorem d_Search_explore_11 : decode b_Search_explore 11 = .ok (.aload_n 0, 1) := by decide +kernel
theorem d_Search_explore_12 : decode b_Search_explore 12 = .ok (.getfield 41, 3) := by decide +kernel
theorem d_Search_explore_15 : decode b_Search_explore 15 = .ok (.ifCond .eq 4, 3) := by decide +kernel
theorem d_Search_explore_18 : decode b_Search_explore 18 = .ok (.return_, 1) := by decide +kernel
theorem d_Search_explore_19 : decode b_Search_explore 19 = .ok (.iload_n 1, 1) := by decide +kernel
theorem d_Search_explore_20 : decode b_Search_explore 20 = .ok (.ifCond .le 20, 3) := by decide +kernel
theorem d_Search_explore_23 : decode b_Search_explore 23 = .ok (.aload_n 0, 1) := by decide +kernel
theorem d_Search_explore_24 : decode b_Search_explore 24 = .ok (.getfield 9, 3) := by decide +kernel
theorem d_Search_explore_27 : decode b_Search_explore 27 = .ok (.iload_n 1, 1) := by decide +kernel
theorem d_Search_explore_28 : decode b_Search_explore 28 = .ok (.iconst 1, 1) := by decide +kernel
theorem d_Search_explore_29 : decode b_Search_explore 29 = .ok (.isub, 1) := by decide +kernel
theorem d_Search_explore_30 : decode b_Search_explore 30 = .ok (.iaload, 1) := by decide +kernel
theorem d_Search_explore_31 : decode b_Search_explore 31 = .ok (.bipush 6, 2) := by decide +kernel
theorem d_Search_explore_33 : decode b_Search_explore 33 = .ok (.if_icmp .ne 7, 3) := by decide +kernel
theorem d_Search_explore_36 : decode b_Search_explore 36 = .ok (.iconst 1, 1) := by decide +kernel
theorem d_Search_explore_37 : decode b_Search_explore 37 = .ok (.goto 4, 3) := by decide +kernel
theorem d_Search_explore_40 : decode b_Search_explore 40 = .ok (.iconst 0, 1) := by decide +kernel
theorem d_Search_explore_41 : decode b_Search_explore 41 = .ok (.istore 6, 2) := by decide +kernel
theorem d_Search_explore_43 : decode b_Search_explore 43 = .ok (.iconst 0, 1) := by decide +kernel
theorem d_Search_explore_44 : decode b_Search_explore 44 = .ok (.istore 7, 2) := by decide +kernel
theorem d_Search_explore_46 : decode b_Search_explore 46 = .ok (.iload 7, 2) := by decide +kernel
theorem d_Search_explore_48 : decode b_Search_explore 48 = .ok (.bipush 6, 2) := by decide +kernel
theorem d_Search_explore_50 : decode b_Search_explore 50 = .ok (.if_icmp .ge 72, 3) := by decide +kernel
theorem d_Search_explore_53 : decode b_Search_explore 53 = .ok (.iload 6, 2) := by decide +kernel
theorem d_Search_explore_55 : decode b_Search_explore 55 = .ok (.ifCond .ne 67, 3) := by decide +kernel
theorem d_Search_explore_58 : decode b_Search_explore 58 = .ok (.iload 4, 2) := by decide +kernel
theorem d_Search_explore_60 : decode b_Search_explore 60 = .ok (.aload_n 0, 1) := by decide +kernel
theorem d_Search_explore_61 : decode b_Search_explore 61 = .ok (.getfield 23, 3) := by decide +kernel
theorem d_Search_explore_64 : decode b_Search_explore 64 = .ok (.iload 7, 2) := by decide +kernel
theorem d_Search_explore_66 : decode b_Search_explore 66 = .ok (.invokevirtual 62, 3) := by decide +kernel
theorem d_Search_explore_69 : decode b_Search_explore 69 = .ok (.isub, 1) := by decide +kernel
theorem d_Search_explore_70 : decode b_Search_explore 70 = .ok (.istore 8, 2) := by decide +kernel
theorem d_Search_explore_72 : decode b_Search_explore 72 = .ok (.iload 8, 2) := by decide +kernel
theorem d_Search_explore_74 : decode b_Search_explore 74 = .ok (.ifCond .lt 42, 3) := by decide +kernel
theorem d_Search_explore_77 : decode b_Search_explore 77 = .ok (.aload_n 0, 1) := by decide +kernel
theorem d_Search_explore_78 : decode b_Search_explore 78 = .ok (.getfield 15, 3) := by decide +kernel
theorem d_Search_explore_81 : decode b_Search_explore 81 = .ok (.iload_n 2, 1) := by decide +kernel
theorem d_Search_explore_82 : decode b_Search_explore 82 = .ok (.iload_n 2, 1) := by decide +kernel
theorem d_Search_explore_83 : decode b_Search_explore 83 = .ok (.iconst 1, 1) := by decide +kernel
theorem d_Search_explore_84 : decode b_Search_explore 84 = .ok (.iadd, 1) := by decide +kernel
theorem d_Search_explore_85 : decode b_Search_explore 85 = .ok (.iload 7, 2) := by decide +kernel
theorem d_Search_explore_87 : decode b_Search_explore 87 = .ok (.invokevirtual 68, 3) := by decide +kernel
theorem d_Search_explore_90 : decode b_Search_explore 90 = .ok (.ifCond .eq 26, 3) := by decide +kernel
theorem d_Search_explore_93 : decode b_Search_explore 93 = .ok (.aload_n 0, 1) := by decide +kernel
theorem d_Search_explore_94 : decode b_Search_explore 94 = .ok (.getfield 9, 3) := by decide +kernel
theorem d_Search_explore_97 : decode b_Search_explore 97 = .ok (.iload_n 1, 1) := by decide +kernel
theorem d_Search_explore_98 : decode b_Search_explore 98 = .ok (.iload 7, 2) := by decide +kernel
theorem d_Search_explore_100 : decode b_Search_explore 100 = .ok (.iastore, 1) := by decide +kernel
theorem d_Search_explore_101 : decode b_Search_explore 101 = .ok (.aload_n 0, 1) := by decide +kernel
theorem d_Search_explore_102 : decode b_Search_explore 102 = .ok (.iload_n 1, 1) := by decide +kernel
theorem d_Search_explore_103 : decode b_Search_explore 103 = .ok (.iconst 1, 1) := by decide +kernel
theorem d_Search_explore_104 : decode b_Search_explore 104 = .ok (.iadd, 1) := by decide +kernel
theorem d_Search_explore_105 : decode b_Search_explore 105 = .ok (.iload_n 2, 1) := by decide +kernel
theorem d_Search_explore_106 : decode b_Search_explore 106 = .ok (.iconst 1, 1) := by decide +kernel
theorem d_Search_explore_107 : decode b_Search_explore 107 = .ok (.iadd, 1) := by decide +kernel
theorem d_Search_explore_108 : decode b_Search_explore 108 = .ok (.iload_n 3, 1) := by decide +kernel
theorem d_Search_explore_109 : decode b_Search_explore 109 = .ok (.iload 8, 2) := by decide +kernel
theorem d_Search_explore_111 : decode b_Search_explore 111 = .ok (.iload 5, 2) := by decide +kernel
theorem d_Search_explore_113 : decode b_Search_explore 113 = .ok (.invokevirtual 72, 3) := by decide +kernel
theorem d_Search_explore_116 : decode b_Search_explore 116 = .ok (.iinc 7 1, 3) := by decide +kernel
theorem d_Search_explore_119 : decode b_Search_explore 119 = .ok (.goto (-73), 3) := by decide +kernel
theorem d_Search_explore_122 : decode b_Search_explore 122 = .ok (.aload_n 0, 1) := by decide +kernel
theorem d_Search_explore_123 : decode b_Search_explore 123 = .ok (.getfield 19, 3) := by decide +kernel
theorem d_Search_explore_126 : decode b_Search_explore 126 = .ok (.iload_n 3, 1) := by decide +kernel
theorem d_Search_explore_127 : decode b_Search_explore 127 = .ok (.invokevirtual 75, 3) := by decide +kernel
theorem d_Search_explore_130 : decode b_Search_explore 130 = .ok (.istore 7, 2) := by decide +kernel
theorem d_Search_explore_132 : decode b_Search_explore 132 = .ok (.iload 4, 2) := by decide +kernel
theorem d_Search_explore_134 : decode b_Search_explore 134 = .ok (.aload_n 0, 1) := by decide +kernel
theorem d_Search_explore_135 : decode b_Search_explore 135 = .ok (.getfield 23, 3) := by decide +kernel
theorem d_Search_explore_138 : decode b_Search_explore 138 = .ok (.iload 7, 2) := by decide +kernel
theorem d_Search_explore_140 : decode b_Search_explore 140 = .ok (.invokevirtual 80, 3) := by decide +kernel
theorem d_Search_explore_143 : decode b_Search_explore 143 = .ok (.isub, 1) := by decide +kernel
theorem d_Search_explore_144 : decode b_Search_explore 144 = .ok (.istore 8, 2) := by decide +kernel
theorem d_Search_explore_146 : decode b_Search_explore 146 = .ok (.iload 8, 2) := by decide +kernel
theorem d_Search_explore_148 : decode b_Search_explore 148 = .ok (.ifCond .lt 26, 3) := by decide +kernel
theorem d_Search_explore_151 : decode b_Search_explore 151 = .ok (.aload_n 0, 1) := by decide +kernel
theorem d_Search_explore_152 : decode b_Search_explore 152 = .ok (.getfield 9, 3) := by decide +kernel
theorem d_Search_explore_155 : decode b_Search_explore 155 = .ok (.iload_n 1, 1) := by decide +kernel
theorem d_Search_explore_156 : decode b_Search_explore 156 = .ok (.bipush 6, 2) := by decide +kernel
theorem d_Search_explore_158 : decode b_Search_explore 158 = .ok (.iastore, 1) := by decide +kernel
theorem d_Search_explore_159 : decode b_Search_explore 159 = .ok (.aload_n 0, 1) := by decide +kernel
theorem d_Search_explore_160 : decode b_Search_explore 160 = .ok (.iload_n 1, 1) := by decide +kernel
theorem d_Search_explore_161 : decode b_Search_explore 161 = .ok (.iconst 1, 1) := by decide +kernel
theorem d_Search_explore_162 : decode b_Search_explore 162 = .ok (.iadd, 1) := by decide +kernel
theorem d_Search_explore_163 : decode b_Search_explore 163 = .ok (.iload_n 2, 1) := by decide +kernel
theorem d_Search_explore_164 : decode b_Search_explore 164 = .ok (.iload_n 3, 1) := by decide +kernel
theorem d_Search_explore_165 : decode b_Search_explore 165 = .ok (.iconst 1, 1) := by decide +kernel
theorem d_Search_explore_166 : decode b_Search_explore 166 = .ok (.iadd, 1) := by decide +kernel
theorem d_Search_explore_167 : decode b_Search_explore 167 = .ok (.iload 8, 2) := by decide +kernel
theorem d_Search_explore_169 : decode b_Search_explore 169 = .ok (.iload 5, 2) := by decide +kernel
theorem d_Search_explore_171 : decode b_Search_explore 171 = .ok (.invokevirtual 72, 3) := by decide +kernel
theorem d_Search_explore_174 : decode b_Search_explore 174 = .ok (.iload 5, 2) := by decide +kernel
theorem d_Search_explore_176 : decode b_Search_explore 176 = .ok (.iconst 3, 1) := by decide +kernel
theorem d_Search_explore_177 : decode b_Search_explore 177 = .ok (.if_icmp .ge 46, 3) := by decide +kernel
theorem d_Search_explore_180 : decode b_Search_explore 180 = .ok (.aload_n 0, 1) := by decide +kernel
theorem d_Search_explore_181 : decode b_Search_explore 181 = .ok (.getfield 15, 3) := by decide +kernel
theorem d_Search_explore_184 : decode b_Search_explore 184 = .ok (.iload_n 2, 1) := by decide +kernel
theorem d_Search_explore_185 : decode b_Search_explore 185 = .ok (.iload_n 2, 1) := by decide +kernel
theorem d_Search_explore_186 : decode b_Search_explore 186 = .ok (.iconst 1, 1) := by decide +kernel
theorem d_Search_explore_187 : decode b_Search_explore 187 = .ok (.iadd, 1) := by decide +kernel
theorem d_Search_explore_188 : decode b_Search_explore 188 = .ok (.iload 7, 2) := by decide +kernel
theorem d_Search_explore_190 : decode b_Search_explore 190 = .ok (.invokevirtual 68, 3) := by decide +kernel
theorem d_Search_explore_193 : decode b_Search_explore 193 = .ok (.ifCond .eq 30, 3) := by decide +kernel
theorem d_Search_explore_196 : decode b_Search_explore 196 = .ok (.aload_n 0, 1) := by decide +kernel
theorem d_Search_explore_197 : decode b_Search_explore 197 = .ok (.getfield 9, 3) := by decide +kernel
theorem d_Search_explore_200 : decode b_Search_explore 200 = .ok (.iload_n 1, 1) := by decide +kernel
theorem d_Search_explore_201 : decode b_Search_explore 201 = .ok (.bipush 7, 2) := by decide +kernel
theorem d_Search_explore_203 : decode b_Search_explore 203 = .ok (.iastore, 1) := by decide +kernel
theorem d_Search_explore_204 : decode b_Search_explore 204 = .ok (.aload_n 0, 1) := by decide +kernel
theorem d_Search_explore_205 : decode b_Search_explore 205 = .ok (.iload_n 1, 1) := by decide +kernel
theorem d_Search_explore_206 : decode b_Search_explore 206 = .ok (.iconst 1, 1) := by decide +kernel
theorem d_Search_explore_207 : decode b_Search_explore 207 = .ok (.iadd, 1) := by decide +kernel
theorem d_Search_explore_208 : decode b_Search_explore 208 = .ok (.iload_n 2, 1) := by decide +kernel
theorem d_Search_explore_209 : decode b_Search_explore 209 = .ok (.iconst 1, 1) := by decide +kernel
theorem d_Search_explore_210 : decode b_Search_explore 210 = .ok (.iadd, 1) := by decide +kernel
theorem d_Search_explore_211 : decode b_Search_explore 211 = .ok (.iload_n 3, 1) := by decide +kernel
theorem d_Search_explore_212 : decode b_Search_explore 212 = .ok (.iconst 1, 1) := by decide +kernel
theorem d_Search_explore_213 : decode b_Search_explore 213 = .ok (.iadd, 1) := by decide +kernel
theorem d_Search_explore_214 : decode b_Search_explore 214 = .ok (.iload 4, 2) := by decide +kernel
theorem d_Search_explore_216 : decode b_Search_explore 216 = .ok (.iload 5, 2) := by decide +kernel
theorem d_Search_explore_218 : decode b_Search_explore 218 = .ok (.iconst 1, 1) := by decide +kernel
theorem d_Search_explore_219 : decode b_Search_explore 219 = .ok (.iadd, 1) := by decide +kernel
theorem d_Search_explore_220 : decode b_Search_explore 220 = .ok (.invokevirtual 72, 3) := by decide +kernel
theorem d_Search_explore_223 : decode b_Search_explore 223 = .ok (.return_, 1) := by decide +kernel
theorem d_Search_follow_0 : decode b_Search_follow 0 = .ok (.iload 4, 2) := by decide +kernel
theorem d_Search_follow_2 : decode b_Search_follow 2 = .ok (.ifCond .le 17, 3) := by decide +kernel
theorem d_Search_follow_5 : decode b_Search_follow 5 = .ok (.aload_n 0, 1) := by decide +kernel
theorem d_Search_follow_6 : decode b_Search_follow 6 = .ok (.iload_n 1, 1) := by decide +kernel
theorem d_Search_follow_7 : decode b_Search_follow 7 = .ok (.iload_n 2, 1) := by decide +kernel
theorem d_Search_follow_8 : decode b_Search_follow 8 = .ok (.iload_n 3, 1) := by decide +kernel
theorem d_Search_follow_9 : decode b_Search_follow 9 = .ok (.iload 4, 2) := by decide +kernel
theorem d_Search_follow_11 : decode b_Search_follow 11 = .ok (.iload 5, 2) := by decide +kernel
theorem d_Search_follow_13 : decode b_Search_follow 13 = .ok (.invokevirtual 58, 3) := by decide +kernel
theorem d_Search_follow_16 : decode b_Search_follow 16 = .ok (.goto 10, 3) := by decide +kernel
theorem d_Search_follow_19 : decode b_Search_follow 19 = .ok (.aload_n 0, 1) := by decide +kernel
theorem d_Search_follow_20 : decode b_Search_follow 20 = .ok (.iload_n 1, 1) := by decide +kernel
theorem d_Search_follow_21 : decode b_Search_follow 21 = .ok (.iload_n 2, 1) := by decide +kernel
theorem d_Search_follow_22 : decode b_Search_follow 22 = .ok (.iload_n 3, 1) := by decide +kernel
theorem d_Search_follow_23 : decode b_Search_follow 23 = .ok (.invokevirtual 83, 3) := by decide +kernel
theorem d_Search_follow_26 : decode b_Search_follow 26 = .ok (.return_, 1) := by decide +kernel
theorem d_Search_keepIfHelping_0 : decode b_Search_keepIfHelping 0 = .ok (.iconst 0, 1) := by decide +kernel
theorem d_Search_keepIfHelping_1 : decode b_Search_keepIfHelping 1 = .ok (.istore 4, 2) := by decide +kernel
theorem d_Search_keepIfHelping_3 : decode b_Search_keepIfHelping 3 = .ok (.iload_n 2, 1) := by decide +kernel
theorem d_Search_keepIfHelping_4 : decode b_Search_keepIfHelping 4 = .ok (.istore 5, 2) := by decide +kernel
theorem d_Search_keepIfHelping_6 : decode b_Search_keepIfHelping 6 = .ok (.iload_n 3, 1) := by decide +kernel
theorem d_Search_keepIfHelping_7 : decode b_Search_keepIfHelping 7 = .ok (.iload 4, 2) := by decide +kernel
theorem d_Search_keepIfHelping_9 : decode b_Search_keepIfHelping 9 = .ok (.iadd, 1) := by decide +kernel
theorem d_Search_keepIfHelping_10 : decode b_Search_keepIfHelping 10 = .ok (.aload_n 0, 1) := by decide +kernel
theorem d_Search_keepIfHelping_11 : decode b_Search_keepIfHelping 11 = .ok (.getfield 19, 3) := by decide +kernel
theorem d_Search_keepIfHelping_14 : decode b_Search_keepIfHelping 14 = .ok (.invokevirtual 87, 3) := by decide +kernel
theorem d_Search_keepIfHelping_17 : decode b_Search_keepIfHelping 17 = .ok (.if_icmp .ge 38, 3) := by decide +kernel
theorem d_Search_keepIfHelping_20 : decode b_Search_keepIfHelping 20 = .ok (.aload_n 0, 1) := by decide +kernel
theorem d_Search_keepIfHelping_21 : decode b_Search_keepIfHelping 21 = .ok (.getfield 15, 3) := by decide +kernel
theorem d_Search_keepIfHelping_24 : decode b_Search_keepIfHelping 24 = .ok (.iload 5, 2) := by decide +kernel
theorem d_Search_keepIfHelping_26 : decode b_Search_keepIfHelping 26 = .ok (.bipush 7, 2) := by decide +kernel
theorem d_Search_keepIfHelping_28 : decode b_Search_keepIfHelping 28 = .ok (.aload_n 0, 1) := by decide +kernel
theorem d_Search_keepIfHelping_29 : decode b_Search_keepIfHelping 29 = .ok (.getfield 19, 3) := by decide +kernel
theorem d_Search_keepIfHelping_32 : decode b_Search_keepIfHelping 32 = .ok (.iload_n 3, 1) := by decide +kernel
theorem d_Search_keepIfHelping_33 : decode b_Search_keepIfHelping 33 = .ok (.iload 4, 2) := by decide +kernel
theorem d_Search_keepIfHelping_35 : decode b_Search_keepIfHelping 35 = .ok (.iadd, 1) := by decide +kernel
theorem d_Search_keepIfHelping_36 : decode b_Search_keepIfHelping 36 = .ok (.invokevirtual 75, 3) := by decide +kernel
theorem d_Search_keepIfHelping_39 : decode b_Search_keepIfHelping 39 = .ok (.invokevirtual 68, 3) := by decide +kernel
theorem d_Search_keepIfHelping_42 : decode b_Search_keepIfHelping 42 = .ok (.ifCond .eq 13, 3) := by decide +kernel
theorem d_Search_keepIfHelping_45 : decode b_Search_keepIfHelping 45 = .ok (.bipush 7, 2) := by decide +kernel
theorem d_Search_keepIfHelping_47 : decode b_Search_keepIfHelping 47 = .ok (.istore 5, 2) := by decide +kernel
theorem d_Search_keepIfHelping_49 : decode b_Search_keepIfHelping 49 = .ok (.iinc 4 1, 3) := by decide +kernel
theorem d_Search_keepIfHelping_52 : decode b_Search_keepIfHelping 52 = .ok (.goto (-46), 3) := by decide +kernel
theorem d_Search_keepIfHelping_55 : decode b_Search_keepIfHelping 55 = .ok (.iload_n 3, 1) := by decide +kernel
theorem d_Search_keepIfHelping_56 : decode b_Search_keepIfHelping 56 = .ok (.iload 4, 2) := by decide +kernel
theorem d_Search_keepIfHelping_58 : decode b_Search_keepIfHelping 58 = .ok (.iadd, 1) := by decide +kernel
theorem d_Search_keepIfHelping_59 : decode b_Search_keepIfHelping 59 = .ok (.aload_n 0, 1) := by decide +kernel
theorem d_Search_keepIfHelping_60 : decode b_Search_keepIfHelping 60 = .ok (.getfield 19, 3) := by decide +kernel
theorem d_Search_keepIfHelping_63 : decode b_Search_keepIfHelping 63 = .ok (.invokevirtual 87, 3) := by decide +kernel
theorem d_Search_keepIfHelping_66 : decode b_Search_keepIfHelping 66 = .ok (.if_icmp .ne 7, 3) := by decide +kernel
theorem d_Search_keepIfHelping_69 : decode b_Search_keepIfHelping 69 = .ok (.iconst 1, 1) := by decide +kernel
theorem d_Search_keepIfHelping_70 : decode b_Search_keepIfHelping 70 = .ok (.goto 4, 3) := by decide +kernel
theorem d_Search_keepIfHelping_73 : decode b_Search_keepIfHelping 73 = .ok (.iconst 0, 1) := by decide +kernel
theorem d_Search_keepIfHelping_74 : decode b_Search_keepIfHelping 74 = .ok (.istore 6, 2) := by decide +kernel
theorem d_Search_keepIfHelping_76 : decode b_Search_keepIfHelping 76 = .ok (.iload 4, 2) := by decide +kernel
theorem d_Search_keepIfHelping_78 : decode b_Search_keepIfHelping 78 = .ok (.aload_n 0, 1) := by decide +kernel
theorem d_Search_keepIfHelping_79 : decode b_Search_keepIfHelping 79 = .ok (.getfield 37, 3) := by decide +kernel
theorem d_Search_keepIfHelping_82 : decode b_Search_keepIfHelping 82 = .ok (.if_icmp .ge 20, 3) := by decide +kernel
theorem d_Search_keepIfHelping_85 : decode b_Search_keepIfHelping 85 = .ok (.iload 6, 2) := by decide +kernel
theorem d_Search_keepIfHelping_87 : decode b_Search_keepIfHelping 87 = .ok (.ifCond .eq 50, 3) := by decide +kernel
theorem d_Search_keepIfHelping_90 : decode b_Search_keepIfHelping 90 = .ok (.aload_n 0, 1) := by decide +kernel
theorem d_Search_keepIfHelping_91 : decode b_Search_keepIfHelping 91 = .ok (.getfield 15, 3) := by decide +kernel
theorem d_Search_keepIfHelping_94 : decode b_Search_keepIfHelping 94 = .ok (.iload 5, 2) := by decide +kernel
theorem d_Search_keepIfHelping_96 : decode b_Search_keepIfHelping 96 = .ok (.invokevirtual 88, 3) := by decide +kernel
theorem d_Search_keepIfHelping_99 : decode b_Search_keepIfHelping 99 = .ok (.ifCond .eq 38, 3) := by decide +kernel
theorem d_Search_keepIfHelping_102 : decode b_Search_keepIfHelping 102 = .ok (.aload_n 0, 1) := by decide +kernel
theorem d_Search_keepIfHelping_103 : decode b_Search_keepIfHelping 103 = .ok (.dup, 1) := by decide +kernel
theorem d_Search_keepIfHelping_104 : decode b_Search_keepIfHelping 104 = .ok (.getfield 41, 3) := by decide +kernel
theorem d_Search_keepIfHelping_107 : decode b_Search_keepIfHelping 107 = .ok (.aload_n 0, 1) := by decide +kernel
theorem d_Search_keepIfHelping_108 : decode b_Search_keepIfHelping 108 = .ok (.getfield 27, 3) := by decide +kernel
theorem d_Search_keepIfHelping_111 : decode b_Search_keepIfHelping 111 = .ok (.aload_n 0, 1) := by decide +kernel
theorem d_Search_keepIfHelping_112 : decode b_Search_keepIfHelping 112 = .ok (.getfield 9, 3) := by decide +kernel
theorem d_Search_keepIfHelping_115 : decode b_Search_keepIfHelping 115 = .ok (.iload_n 1, 1) := by decide +kernel
theorem d_Search_keepIfHelping_116 : decode b_Search_keepIfHelping 116 = .ok (.iload 4, 2) := by decide +kernel
theorem d_Search_keepIfHelping_118 : decode b_Search_keepIfHelping 118 = .ok (.aload_n 0, 1) := by decide +kernel
theorem d_Search_keepIfHelping_119 : decode b_Search_keepIfHelping 119 = .ok (.getfield 55, 3) := by decide +kernel
theorem d_Search_keepIfHelping_122 : decode b_Search_keepIfHelping 122 = .ok (.invokevirtual 92, 3) := by decide +kernel
theorem d_Search_keepIfHelping_125 : decode b_Search_keepIfHelping 125 = .ok (.ifCond .ne 7, 3) := by decide +kernel
theorem d_Search_keepIfHelping_128 : decode b_Search_keepIfHelping 128 = .ok (.iconst 1, 1) := by decide +kernel
theorem d_Search_keepIfHelping_129 : decode b_Search_keepIfHelping 129 = .ok (.goto 4, 3) := by decide +kernel
theorem d_Search_keepIfHelping_132 : decode b_Search_keepIfHelping 132 = .ok (.iconst 0, 1) := by decide +kernel
theorem d_Search_keepIfHelping_133 : decode b_Search_keepIfHelping 133 = .ok (.ior, 1) := by decide +kernel
theorem d_Search_keepIfHelping_134 : decode b_Search_keepIfHelping 134 = .ok (.putfield 41, 3) := by decide +kernel
theorem d_Search_keepIfHelping_137 : decode b_Search_keepIfHelping 137 = .ok (.return_, 1) := by decide +kernel
