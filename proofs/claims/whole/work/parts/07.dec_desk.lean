theorem d_Desk_init_0 : decode b_Desk_init 0 = .ok (.aload_n 0, 1) := by decide +kernel
theorem d_Desk_init_1 : decode b_Desk_init 1 = .ok (.invokespecial 3, 3) := by decide +kernel
theorem d_Desk_init_4 : decode b_Desk_init 4 = .ok (.aload_n 0, 1) := by decide +kernel
theorem d_Desk_init_5 : decode b_Desk_init 5 = .ok (.new 9, 3) := by decide +kernel
theorem d_Desk_init_8 : decode b_Desk_init 8 = .ok (.dup, 1) := by decide +kernel
theorem d_Desk_init_9 : decode b_Desk_init 9 = .ok (.invokespecial 11, 3) := by decide +kernel
theorem d_Desk_init_12 : decode b_Desk_init 12 = .ok (.putfield 12, 3) := by decide +kernel
theorem d_Desk_init_15 : decode b_Desk_init 15 = .ok (.aload_n 0, 1) := by decide +kernel
theorem d_Desk_init_16 : decode b_Desk_init 16 = .ok (.new 16, 3) := by decide +kernel
theorem d_Desk_init_19 : decode b_Desk_init 19 = .ok (.dup, 1) := by decide +kernel
theorem d_Desk_init_20 : decode b_Desk_init 20 = .ok (.invokespecial 18, 3) := by decide +kernel
theorem d_Desk_init_23 : decode b_Desk_init 23 = .ok (.putfield 19, 3) := by decide +kernel
theorem d_Desk_init_26 : decode b_Desk_init 26 = .ok (.aload_n 0, 1) := by decide +kernel
theorem d_Desk_init_27 : decode b_Desk_init 27 = .ok (.new 23, 3) := by decide +kernel
theorem d_Desk_init_30 : decode b_Desk_init 30 = .ok (.dup, 1) := by decide +kernel
theorem d_Desk_init_31 : decode b_Desk_init 31 = .ok (.invokespecial 25, 3) := by decide +kernel
theorem d_Desk_init_34 : decode b_Desk_init 34 = .ok (.putfield 26, 3) := by decide +kernel
theorem d_Desk_init_37 : decode b_Desk_init 37 = .ok (.aload_n 0, 1) := by decide +kernel
theorem d_Desk_init_38 : decode b_Desk_init 38 = .ok (.new 30, 3) := by decide +kernel
theorem d_Desk_init_41 : decode b_Desk_init 41 = .ok (.dup, 1) := by decide +kernel
theorem d_Desk_init_42 : decode b_Desk_init 42 = .ok (.invokespecial 32, 3) := by decide +kernel
theorem d_Desk_init_45 : decode b_Desk_init 45 = .ok (.putfield 33, 3) := by decide +kernel
theorem d_Desk_init_48 : decode b_Desk_init 48 = .ok (.aload_n 0, 1) := by decide +kernel
theorem d_Desk_init_49 : decode b_Desk_init 49 = .ok (.new 37, 3) := by decide +kernel
theorem d_Desk_init_52 : decode b_Desk_init 52 = .ok (.dup, 1) := by decide +kernel
theorem d_Desk_init_53 : decode b_Desk_init 53 = .ok (.invokespecial 39, 3) := by decide +kernel
theorem d_Desk_init_56 : decode b_Desk_init 56 = .ok (.putfield 40, 3) := by decide +kernel
theorem d_Desk_init_59 : decode b_Desk_init 59 = .ok (.aload_n 0, 1) := by decide +kernel
theorem d_Desk_init_60 : decode b_Desk_init 60 = .ok (.new 44, 3) := by decide +kernel
theorem d_Desk_init_63 : decode b_Desk_init 63 = .ok (.dup, 1) := by decide +kernel
theorem d_Desk_init_64 : decode b_Desk_init 64 = .ok (.aload_n 0, 1) := by decide +kernel
theorem d_Desk_init_65 : decode b_Desk_init 65 = .ok (.getfield 19, 3) := by decide +kernel
theorem d_Desk_init_68 : decode b_Desk_init 68 = .ok (.aload_n 0, 1) := by decide +kernel
theorem d_Desk_init_69 : decode b_Desk_init 69 = .ok (.getfield 26, 3) := by decide +kernel
theorem d_Desk_init_72 : decode b_Desk_init 72 = .ok (.invokespecial 46, 3) := by decide +kernel
theorem d_Desk_init_75 : decode b_Desk_init 75 = .ok (.putfield 49, 3) := by decide +kernel
theorem d_Desk_init_78 : decode b_Desk_init 78 = .ok (.aload_n 0, 1) := by decide +kernel
theorem d_Desk_init_79 : decode b_Desk_init 79 = .ok (.new 53, 3) := by decide +kernel
theorem d_Desk_init_82 : decode b_Desk_init 82 = .ok (.dup, 1) := by decide +kernel
theorem d_Desk_init_83 : decode b_Desk_init 83 = .ok (.invokespecial 55, 3) := by decide +kernel
theorem d_Desk_init_86 : decode b_Desk_init 86 = .ok (.putfield 56, 3) := by decide +kernel
theorem d_Desk_init_89 : decode b_Desk_init 89 = .ok (.aload_n 0, 1) := by decide +kernel
theorem d_Desk_init_90 : decode b_Desk_init 90 = .ok (.new 60, 3) := by decide +kernel
theorem d_Desk_init_93 : decode b_Desk_init 93 = .ok (.dup, 1) := by decide +kernel
theorem d_Desk_init_94 : decode b_Desk_init 94 = .ok (.aload_n 0, 1) := by decide +kernel
theorem d_Desk_init_95 : decode b_Desk_init 95 = .ok (.getfield 49, 3) := by decide +kernel
theorem d_Desk_init_98 : decode b_Desk_init 98 = .ok (.aload_n 0, 1) := by decide +kernel
theorem d_Desk_init_99 : decode b_Desk_init 99 = .ok (.getfield 33, 3) := by decide +kernel
theorem d_Desk_init_102 : decode b_Desk_init 102 = .ok (.aload_n 0, 1) := by decide +kernel
theorem d_Desk_init_103 : decode b_Desk_init 103 = .ok (.getfield 40, 3) := by decide +kernel
theorem d_Desk_init_106 : decode b_Desk_init 106 = .ok (.aload_n 0, 1) := by decide +kernel
theorem d_Desk_init_107 : decode b_Desk_init 107 = .ok (.getfield 56, 3) := by decide +kernel
theorem d_Desk_init_110 : decode b_Desk_init 110 = .ok (.invokespecial 62, 3) := by decide +kernel
theorem d_Desk_init_113 : decode b_Desk_init 113 = .ok (.putfield 65, 3) := by decide +kernel
theorem d_Desk_init_116 : decode b_Desk_init 116 = .ok (.return_, 1) := by decide +kernel
theorem d_Desk_write_0 : decode b_Desk_write 0 = .ok (.aload_n 0, 1) := by decide +kernel
theorem d_Desk_write_1 : decode b_Desk_write 1 = .ok (.getfield 12, 3) := by decide +kernel
theorem d_Desk_write_4 : decode b_Desk_write 4 = .ok (.iload_n 1, 1) := by decide +kernel
theorem d_Desk_write_5 : decode b_Desk_write 5 = .ok (.invokevirtual 69, 3) := by decide +kernel
theorem d_Desk_write_8 : decode b_Desk_write 8 = .ok (.ireturn, 1) := by decide +kernel
theorem d_Desk_rule_0 : decode b_Desk_rule 0 = .ok (.aload_n 0, 1) := by decide +kernel
theorem d_Desk_rule_1 : decode b_Desk_rule 1 = .ok (.getfield 19, 3) := by decide +kernel
theorem d_Desk_rule_4 : decode b_Desk_rule 4 = .ok (.aload_n 0, 1) := by decide +kernel
theorem d_Desk_rule_5 : decode b_Desk_rule 5 = .ok (.getfield 12, 3) := by decide +kernel
theorem d_Desk_rule_8 : decode b_Desk_rule 8 = .ok (.invokevirtual 73, 3) := by decide +kernel
theorem d_Desk_rule_11 : decode b_Desk_rule 11 = .ok (.istore_n 1, 1) := by decide +kernel
theorem d_Desk_rule_12 : decode b_Desk_rule 12 = .ok (.aload_n 0, 1) := by decide +kernel
theorem d_Desk_rule_13 : decode b_Desk_rule 13 = .ok (.getfield 12, 3) := by decide +kernel
theorem d_Desk_rule_16 : decode b_Desk_rule 16 = .ok (.invokevirtual 77, 3) := by decide +kernel
theorem d_Desk_rule_19 : decode b_Desk_rule 19 = .ok (.iload_n 1, 1) := by decide +kernel
theorem d_Desk_rule_20 : decode b_Desk_rule 20 = .ok (.ifCond .eq 13, 3) := by decide +kernel
theorem d_Desk_rule_23 : decode b_Desk_rule 23 = .ok (.aload_n 0, 1) := by decide +kernel
theorem d_Desk_rule_24 : decode b_Desk_rule 24 = .ok (.getfield 19, 3) := by decide +kernel
theorem d_Desk_rule_27 : decode b_Desk_rule 27 = .ok (.invokevirtual 80, 3) := by decide +kernel
theorem d_Desk_rule_30 : decode b_Desk_rule 30 = .ok (.ifCond .eq 13, 3) := by decide +kernel
theorem d_Desk_rule_33 : decode b_Desk_rule 33 = .ok (.new 84, 3) := by decide +kernel
theorem d_Desk_rule_36 : decode b_Desk_rule 36 = .ok (.dup, 1) := by decide +kernel
theorem d_Desk_rule_37 : decode b_Desk_rule 37 = .ok (.ldc 86, 2) := by decide +kernel
theorem d_Desk_rule_39 : decode b_Desk_rule 39 = .ok (.invokespecial 88, 3) := by decide +kernel
theorem d_Desk_rule_42 : decode b_Desk_rule 42 = .ok (.athrow, 1) := by decide +kernel
theorem d_Desk_rule_43 : decode b_Desk_rule 43 = .ok (.aload_n 0, 1) := by decide +kernel
theorem d_Desk_rule_44 : decode b_Desk_rule 44 = .ok (.getfield 19, 3) := by decide +kernel
theorem d_Desk_rule_47 : decode b_Desk_rule 47 = .ok (.invokevirtual 91, 3) := by decide +kernel
theorem d_Desk_rule_50 : decode b_Desk_rule 50 = .ok (.istore_n 2, 1) := by decide +kernel
theorem d_Desk_rule_51 : decode b_Desk_rule 51 = .ok (.iload_n 2, 1) := by decide +kernel
theorem d_Desk_rule_52 : decode b_Desk_rule 52 = .ok (.ifCond .ge 13, 3) := by decide +kernel
theorem d_Desk_rule_55 : decode b_Desk_rule 55 = .ok (.new 95, 3) := by decide +kernel
theorem d_Desk_rule_58 : decode b_Desk_rule 58 = .ok (.dup, 1) := by decide +kernel
theorem d_Desk_rule_59 : decode b_Desk_rule 59 = .ok (.ldc 97, 2) := by decide +kernel
theorem d_Desk_rule_61 : decode b_Desk_rule 61 = .ok (.invokespecial 99, 3) := by decide +kernel
theorem d_Desk_rule_64 : decode b_Desk_rule 64 = .ok (.athrow, 1) := by decide +kernel
theorem d_Desk_rule_65 : decode b_Desk_rule 65 = .ok (.aload_n 0, 1) := by decide +kernel
theorem d_Desk_rule_66 : decode b_Desk_rule 66 = .ok (.getfield 26, 3) := by decide +kernel
theorem d_Desk_rule_69 : decode b_Desk_rule 69 = .ok (.invokevirtual 100, 3) := by decide +kernel
theorem d_Desk_rule_72 : decode b_Desk_rule 72 = .ok (.aload_n 0, 1) := by decide +kernel
theorem d_Desk_rule_73 : decode b_Desk_rule 73 = .ok (.getfield 56, 3) := by decide +kernel
theorem d_Desk_rule_76 : decode b_Desk_rule 76 = .ok (.invokevirtual 103, 3) := by decide +kernel
theorem d_Desk_rule_79 : decode b_Desk_rule 79 = .ok (.iload_n 2, 1) := by decide +kernel
theorem d_Desk_rule_80 : decode b_Desk_rule 80 = .ok (.ireturn, 1) := by decide +kernel
theorem d_Desk_compile_0 : decode b_Desk_compile 0 = .ok (.aload_n 0, 1) := by decide +kernel
theorem d_Desk_compile_1 : decode b_Desk_compile 1 = .ok (.getfield 56, 3) := by decide +kernel
theorem d_Desk_compile_4 : decode b_Desk_compile 4 = .ok (.invokevirtual 103, 3) := by decide +kernel
theorem d_Desk_compile_7 : decode b_Desk_compile 7 = .ok (.aload_n 0, 1) := by decide +kernel
theorem d_Desk_compile_8 : decode b_Desk_compile 8 = .ok (.getfield 26, 3) := by decide +kernel
theorem d_Desk_compile_11 : decode b_Desk_compile 11 = .ok (.invokevirtual 100, 3) := by decide +kernel
theorem d_Desk_compile_14 : decode b_Desk_compile 14 = .ok (.aload_n 0, 1) := by decide +kernel
theorem d_Desk_compile_15 : decode b_Desk_compile 15 = .ok (.getfield 19, 3) := by decide +kernel
theorem d_Desk_compile_18 : decode b_Desk_compile 18 = .ok (.invokevirtual 104, 3) := by decide +kernel
theorem d_Desk_compile_21 : decode b_Desk_compile 21 = .ok (.ifCond .ne 13, 3) := by decide +kernel
theorem d_Desk_compile_24 : decode b_Desk_compile 24 = .ok (.new 95, 3) := by decide +kernel
theorem d_Desk_compile_27 : decode b_Desk_compile 27 = .ok (.dup, 1) := by decide +kernel
theorem d_Desk_compile_28 : decode b_Desk_compile 28 = .ok (.ldc 107, 2) := by decide +kernel
theorem d_Desk_compile_30 : decode b_Desk_compile 30 = .ok (.invokespecial 99, 3) := by decide +kernel
theorem d_Desk_compile_33 : decode b_Desk_compile 33 = .ok (.athrow, 1) := by decide +kernel
theorem d_Desk_compile_34 : decode b_Desk_compile 34 = .ok (.aload_n 0, 1) := by decide +kernel
theorem d_Desk_compile_35 : decode b_Desk_compile 35 = .ok (.getfield 19, 3) := by decide +kernel
theorem d_Desk_compile_38 : decode b_Desk_compile 38 = .ok (.invokevirtual 109, 3) := by decide +kernel
theorem d_Desk_compile_41 : decode b_Desk_compile 41 = .ok (.ifCond .ne 13, 3) := by decide +kernel
theorem d_Desk_compile_44 : decode b_Desk_compile 44 = .ok (.new 112, 3) := by decide +kernel
theorem d_Desk_compile_47 : decode b_Desk_compile 47 = .ok (.dup, 1) := by decide +kernel
theorem d_Desk_compile_48 : decode b_Desk_compile 48 = .ok (.ldc 114, 2) := by decide +kernel
theorem d_Desk_compile_50 : decode b_Desk_compile 50 = .ok (.invokespecial 116, 3) := by decide +kernel
theorem d_Desk_compile_53 : decode b_Desk_compile 53 = .ok (.athrow, 1) := by decide +kernel
theorem d_Desk_compile_54 : decode b_Desk_compile 54 = .ok (.aload_n 0, 1) := by decide +kernel
theorem d_Desk_compile_55 : decode b_Desk_compile 55 = .ok (.getfield 26, 3) := by decide +kernel
theorem d_Desk_compile_58 : decode b_Desk_compile 58 = .ok (.aload_n 0, 1) := by decide +kernel
theorem d_Desk_compile_59 : decode b_Desk_compile 59 = .ok (.getfield 19, 3) := by decide +kernel
theorem d_Desk_compile_62 : decode b_Desk_compile 62 = .ok (.invokevirtual 117, 3) := by decide +kernel
theorem d_Desk_compile_65 : decode b_Desk_compile 65 = .ok (.ifCond .ne 13, 3) := by decide +kernel
theorem d_Desk_compile_68 : decode b_Desk_compile 68 = .ok (.new 112, 3) := by decide +kernel
theorem d_Desk_compile_71 : decode b_Desk_compile 71 = .ok (.dup, 1) := by decide +kernel
theorem d_Desk_compile_72 : decode b_Desk_compile 72 = .ok (.ldc 121, 2) := by decide +kernel
theorem d_Desk_compile_74 : decode b_Desk_compile 74 = .ok (.invokespecial 116, 3) := by decide +kernel
theorem d_Desk_compile_77 : decode b_Desk_compile 77 = .ok (.athrow, 1) := by decide +kernel
theorem d_Desk_compile_78 : decode b_Desk_compile 78 = .ok (.aload_n 0, 1) := by decide +kernel
theorem d_Desk_compile_79 : decode b_Desk_compile 79 = .ok (.getfield 26, 3) := by decide +kernel
theorem d_Desk_compile_82 : decode b_Desk_compile 82 = .ok (.invokevirtual 123, 3) := by decide +kernel
theorem d_Desk_compile_85 : decode b_Desk_compile 85 = .ok (.ireturn, 1) := by decide +kernel
theorem d_Desk_text_0 : decode b_Desk_text 0 = .ok (.aload_n 0, 1) := by decide +kernel
theorem d_Desk_text_1 : decode b_Desk_text 1 = .ok (.getfield 33, 3) := by decide +kernel
theorem d_Desk_text_4 : decode b_Desk_text 4 = .ok (.aload_n 0, 1) := by decide +kernel
theorem d_Desk_text_5 : decode b_Desk_text 5 = .ok (.getfield 12, 3) := by decide +kernel
theorem d_Desk_text_8 : decode b_Desk_text 8 = .ok (.invokevirtual 126, 3) := by decide +kernel
theorem d_Desk_text_11 : decode b_Desk_text 11 = .ok (.istore_n 1, 1) := by decide +kernel
theorem d_Desk_text_12 : decode b_Desk_text 12 = .ok (.aload_n 0, 1) := by decide +kernel
theorem d_Desk_text_13 : decode b_Desk_text 13 = .ok (.getfield 12, 3) := by decide +kernel
theorem d_Desk_text_16 : decode b_Desk_text 16 = .ok (.invokevirtual 77, 3) := by decide +kernel
theorem d_Desk_text_19 : decode b_Desk_text 19 = .ok (.iload_n 1, 1) := by decide +kernel
theorem d_Desk_text_20 : decode b_Desk_text 20 = .ok (.ifCond .ne 13, 3) := by decide +kernel
theorem d_Desk_text_23 : decode b_Desk_text 23 = .ok (.new 84, 3) := by decide +kernel
theorem d_Desk_text_26 : decode b_Desk_text 26 = .ok (.dup, 1) := by decide +kernel
theorem d_Desk_text_27 : decode b_Desk_text 27 = .ok (.ldc 129, 2) := by decide +kernel
theorem d_Desk_text_29 : decode b_Desk_text 29 = .ok (.invokespecial 88, 3) := by decide +kernel
theorem d_Desk_text_32 : decode b_Desk_text 32 = .ok (.athrow, 1) := by decide +kernel
theorem d_Desk_text_33 : decode b_Desk_text 33 = .ok (.aload_n 0, 1) := by decide +kernel
theorem d_Desk_text_34 : decode b_Desk_text 34 = .ok (.getfield 56, 3) := by decide +kernel
theorem d_Desk_text_37 : decode b_Desk_text 37 = .ok (.invokevirtual 103, 3) := by decide +kernel
theorem d_Desk_text_40 : decode b_Desk_text 40 = .ok (.aload_n 0, 1) := by decide +kernel
theorem d_Desk_text_41 : decode b_Desk_text 41 = .ok (.getfield 33, 3) := by decide +kernel
theorem d_Desk_text_44 : decode b_Desk_text 44 = .ok (.invokevirtual 131, 3) := by decide +kernel
theorem d_Desk_text_47 : decode b_Desk_text 47 = .ok (.ireturn, 1) := by decide +kernel
theorem d_Desk_cost_0 : decode b_Desk_cost 0 = .ok (.aload_n 0, 1) := by decide +kernel
theorem d_Desk_cost_1 : decode b_Desk_cost 1 = .ok (.getfield 40, 3) := by decide +kernel
theorem d_Desk_cost_4 : decode b_Desk_cost 4 = .ok (.iload_n 1, 1) := by decide +kernel
theorem d_Desk_cost_5 : decode b_Desk_cost 5 = .ok (.iload_n 2, 1) := by decide +kernel
theorem d_Desk_cost_6 : decode b_Desk_cost 6 = .ok (.iload_n 3, 1) := by decide +kernel
theorem d_Desk_cost_7 : decode b_Desk_cost 7 = .ok (.invokevirtual 134, 3) := by decide +kernel
theorem d_Desk_cost_10 : decode b_Desk_cost 10 = .ok (.ireturn, 1) := by decide +kernel
theorem d_Desk_parse_0 : decode b_Desk_parse 0 = .ok (.aload_n 0, 1) := by decide +kernel
theorem d_Desk_parse_1 : decode b_Desk_parse 1 = .ok (.getfield 26, 3) := by decide +kernel
theorem d_Desk_parse_4 : decode b_Desk_parse 4 = .ok (.invokevirtual 123, 3) := by decide +kernel
theorem d_Desk_parse_7 : decode b_Desk_parse 7 = .ok (.ifCond .ne 13, 3) := by decide +kernel
theorem d_Desk_parse_10 : decode b_Desk_parse 10 = .ok (.new 95, 3) := by decide +kernel
theorem d_Desk_parse_13 : decode b_Desk_parse 13 = .ok (.dup, 1) := by decide +kernel
theorem d_Desk_parse_14 : decode b_Desk_parse 14 = .ok (.ldc 138, 2) := by decide +kernel
theorem d_Desk_parse_16 : decode b_Desk_parse 16 = .ok (.invokespecial 99, 3) := by decide +kernel
theorem d_Desk_parse_19 : decode b_Desk_parse 19 = .ok (.athrow, 1) := by decide +kernel
theorem d_Desk_parse_20 : decode b_Desk_parse 20 = .ok (.aload_n 0, 1) := by decide +kernel
theorem d_Desk_parse_21 : decode b_Desk_parse 21 = .ok (.getfield 49, 3) := by decide +kernel
theorem d_Desk_parse_24 : decode b_Desk_parse 24 = .ok (.aload_n 0, 1) := by decide +kernel
theorem d_Desk_parse_25 : decode b_Desk_parse 25 = .ok (.getfield 33, 3) := by decide +kernel
theorem d_Desk_parse_28 : decode b_Desk_parse 28 = .ok (.invokevirtual 140, 3) := by decide +kernel
theorem d_Desk_parse_31 : decode b_Desk_parse 31 = .ok (.ireturn, 1) := by decide +kernel
theorem d_Desk_repair_0 : decode b_Desk_repair 0 = .ok (.aload_n 0, 1) := by decide +kernel
theorem d_Desk_repair_1 : decode b_Desk_repair 1 = .ok (.getfield 56, 3) := by decide +kernel
theorem d_Desk_repair_4 : decode b_Desk_repair 4 = .ok (.invokevirtual 103, 3) := by decide +kernel
theorem d_Desk_repair_7 : decode b_Desk_repair 7 = .ok (.aload_n 0, 1) := by decide +kernel
theorem d_Desk_repair_8 : decode b_Desk_repair 8 = .ok (.getfield 26, 3) := by decide +kernel
theorem d_Desk_repair_11 : decode b_Desk_repair 11 = .ok (.invokevirtual 123, 3) := by decide +kernel
theorem d_Desk_repair_14 : decode b_Desk_repair 14 = .ok (.ifCond .ne 13, 3) := by decide +kernel
theorem d_Desk_repair_17 : decode b_Desk_repair 17 = .ok (.new 95, 3) := by decide +kernel
theorem d_Desk_repair_20 : decode b_Desk_repair 20 = .ok (.dup, 1) := by decide +kernel
theorem d_Desk_repair_21 : decode b_Desk_repair 21 = .ok (.ldc 138, 2) := by decide +kernel
theorem d_Desk_repair_23 : decode b_Desk_repair 23 = .ok (.invokespecial 99, 3) := by decide +kernel
theorem d_Desk_repair_26 : decode b_Desk_repair 26 = .ok (.athrow, 1) := by decide +kernel
theorem d_Desk_repair_27 : decode b_Desk_repair 27 = .ok (.iload_n 1, 1) := by decide +kernel
theorem d_Desk_repair_28 : decode b_Desk_repair 28 = .ok (.ifCond .lt 8, 3) := by decide +kernel
theorem d_Desk_repair_31 : decode b_Desk_repair 31 = .ok (.iload_n 1, 1) := by decide +kernel
theorem d_Desk_repair_32 : decode b_Desk_repair 32 = .ok (.iconst 3, 1) := by decide +kernel
theorem d_Desk_repair_33 : decode b_Desk_repair 33 = .ok (.if_icmp .le 13, 3) := by decide +kernel
theorem d_Desk_repair_36 : decode b_Desk_repair 36 = .ok (.new 84, 3) := by decide +kernel
theorem d_Desk_repair_39 : decode b_Desk_repair 39 = .ok (.dup, 1) := by decide +kernel
theorem d_Desk_repair_40 : decode b_Desk_repair 40 = .ok (.ldc 144, 2) := by decide +kernel
theorem d_Desk_repair_42 : decode b_Desk_repair 42 = .ok (.invokespecial 88, 3) := by decide +kernel
theorem d_Desk_repair_45 : decode b_Desk_repair 45 = .ok (.athrow, 1) := by decide +kernel
theorem d_Desk_repair_46 : decode b_Desk_repair 46 = .ok (.aload_n 0, 1) := by decide +kernel
theorem d_Desk_repair_47 : decode b_Desk_repair 47 = .ok (.getfield 65, 3) := by decide +kernel
theorem d_Desk_repair_50 : decode b_Desk_repair 50 = .ok (.iload_n 1, 1) := by decide +kernel
theorem d_Desk_repair_51 : decode b_Desk_repair 51 = .ok (.invokevirtual 146, 3) := by decide +kernel
theorem d_Desk_repair_54 : decode b_Desk_repair 54 = .ok (.ifCond .ne 20, 3) := by decide +kernel
theorem d_Desk_repair_57 : decode b_Desk_repair 57 = .ok (.aload_n 0, 1) := by decide +kernel
theorem d_Desk_repair_58 : decode b_Desk_repair 58 = .ok (.getfield 56, 3) := by decide +kernel
theorem d_Desk_repair_61 : decode b_Desk_repair 61 = .ok (.invokevirtual 103, 3) := by decide +kernel
theorem d_Desk_repair_64 : decode b_Desk_repair 64 = .ok (.new 112, 3) := by decide +kernel
theorem d_Desk_repair_67 : decode b_Desk_repair 67 = .ok (.dup, 1) := by decide +kernel
theorem d_Desk_repair_68 : decode b_Desk_repair 68 = .ok (.ldc 150, 2) := by decide +kernel
theorem d_Desk_repair_70 : decode b_Desk_repair 70 = .ok (.invokespecial 116, 3) := by decide +kernel
theorem d_Desk_repair_73 : decode b_Desk_repair 73 = .ok (.athrow, 1) := by decide +kernel
theorem d_Desk_repair_74 : decode b_Desk_repair 74 = .ok (.aload_n 0, 1) := by decide +kernel
theorem d_Desk_repair_75 : decode b_Desk_repair 75 = .ok (.getfield 56, 3) := by decide +kernel
theorem d_Desk_repair_78 : decode b_Desk_repair 78 = .ok (.invokevirtual 152, 3) := by decide +kernel
theorem d_Desk_repair_81 : decode b_Desk_repair 81 = .ok (.ireturn, 1) := by decide +kernel
theorem d_Desk_step_0 : decode b_Desk_step 0 = .ok (.aload_n 0, 1) := by decide +kernel
theorem d_Desk_step_1 : decode b_Desk_step 1 = .ok (.getfield 56, 3) := by decide +kernel
theorem d_Desk_step_4 : decode b_Desk_step 4 = .ok (.iload_n 1, 1) := by decide +kernel
theorem d_Desk_step_5 : decode b_Desk_step 5 = .ok (.iload_n 2, 1) := by decide +kernel
theorem d_Desk_step_6 : decode b_Desk_step 6 = .ok (.invokevirtual 153, 3) := by decide +kernel
theorem d_Desk_step_9 : decode b_Desk_step 9 = .ok (.ireturn, 1) := by decide +kernel
theorem d_Desk_price_0 : decode b_Desk_price 0 = .ok (.aload_n 0, 1) := by decide +kernel
theorem d_Desk_price_1 : decode b_Desk_price 1 = .ok (.getfield 56, 3) := by decide +kernel
theorem d_Desk_price_4 : decode b_Desk_price 4 = .ok (.invokevirtual 157, 3) := by decide +kernel
theorem d_Desk_price_7 : decode b_Desk_price 7 = .ok (.ireturn, 1) := by decide +kernel
theorem d_Desk_reach_0 : decode b_Desk_reach 0 = .ok (.aload_n 0, 1) := by decide +kernel
theorem d_Desk_reach_1 : decode b_Desk_reach 1 = .ok (.getfield 56, 3) := by decide +kernel
theorem d_Desk_reach_4 : decode b_Desk_reach 4 = .ok (.iload_n 1, 1) := by decide +kernel
theorem d_Desk_reach_5 : decode b_Desk_reach 5 = .ok (.invokevirtual 160, 3) := by decide +kernel
theorem d_Desk_reach_8 : decode b_Desk_reach 8 = .ok (.ifCond .ne 13, 3) := by decide +kernel
theorem d_Desk_reach_11 : decode b_Desk_reach 11 = .ok (.new 163, 3) := by decide +kernel
theorem d_Desk_reach_14 : decode b_Desk_reach 14 = .ok (.dup, 1) := by decide +kernel
theorem d_Desk_reach_15 : decode b_Desk_reach 15 = .ok (.ldc 165, 2) := by decide +kernel
theorem d_Desk_reach_17 : decode b_Desk_reach 17 = .ok (.invokespecial 167, 3) := by decide +kernel
theorem d_Desk_reach_20 : decode b_Desk_reach 20 = .ok (.athrow, 1) := by decide +kernel
theorem d_Desk_reach_21 : decode b_Desk_reach 21 = .ok (.aload_n 0, 1) := by decide +kernel
theorem d_Desk_reach_22 : decode b_Desk_reach 22 = .ok (.getfield 56, 3) := by decide +kernel
theorem d_Desk_reach_25 : decode b_Desk_reach 25 = .ok (.iload_n 1, 1) := by decide +kernel
theorem d_Desk_reach_26 : decode b_Desk_reach 26 = .ok (.invokevirtual 168, 3) := by decide +kernel
theorem d_Desk_reach_29 : decode b_Desk_reach 29 = .ok (.ireturn, 1) := by decide +kernel
theorem d_Desk_apply_0 : decode b_Desk_apply 0 = .ok (.aload_n 0, 1) := by decide +kernel
theorem d_Desk_apply_1 : decode b_Desk_apply 1 = .ok (.getfield 56, 3) := by decide +kernel
theorem d_Desk_apply_4 : decode b_Desk_apply 4 = .ok (.iload_n 1, 1) := by decide +kernel
theorem d_Desk_apply_5 : decode b_Desk_apply 5 = .ok (.invokevirtual 160, 3) := by decide +kernel
theorem d_Desk_apply_8 : decode b_Desk_apply 8 = .ok (.ifCond .ne 13, 3) := by decide +kernel
theorem d_Desk_apply_11 : decode b_Desk_apply 11 = .ok (.new 163, 3) := by decide +kernel
theorem d_Desk_apply_14 : decode b_Desk_apply 14 = .ok (.dup, 1) := by decide +kernel
theorem d_Desk_apply_15 : decode b_Desk_apply 15 = .ok (.ldc 165, 2) := by decide +kernel
theorem d_Desk_apply_17 : decode b_Desk_apply 17 = .ok (.invokespecial 167, 3) := by decide +kernel
theorem d_Desk_apply_20 : decode b_Desk_apply 20 = .ok (.athrow, 1) := by decide +kernel
theorem d_Desk_apply_21 : decode b_Desk_apply 21 = .ok (.aload_n 0, 1) := by decide +kernel
theorem d_Desk_apply_22 : decode b_Desk_apply 22 = .ok (.getfield 33, 3) := by decide +kernel
theorem d_Desk_apply_25 : decode b_Desk_apply 25 = .ok (.invokevirtual 131, 3) := by decide +kernel
theorem d_Desk_apply_28 : decode b_Desk_apply 28 = .ok (.aload_n 0, 1) := by decide +kernel
theorem d_Desk_apply_29 : decode b_Desk_apply 29 = .ok (.getfield 56, 3) := by decide +kernel
theorem d_Desk_apply_32 : decode b_Desk_apply 32 = .ok (.iload_n 1, 1) := by decide +kernel
theorem d_Desk_apply_33 : decode b_Desk_apply 33 = .ok (.invokevirtual 172, 3) := by decide +kernel
theorem d_Desk_apply_36 : decode b_Desk_apply 36 = .ok (.iadd, 1) := by decide +kernel
theorem d_Desk_apply_37 : decode b_Desk_apply 37 = .ok (.bipush 16, 2) := by decide +kernel
theorem d_Desk_apply_39 : decode b_Desk_apply 39 = .ok (.if_icmp .le 13, 3) := by decide +kernel
theorem d_Desk_apply_42 : decode b_Desk_apply 42 = .ok (.new 95, 3) := by decide +kernel
theorem d_Desk_apply_45 : decode b_Desk_apply 45 = .ok (.dup, 1) := by decide +kernel
theorem d_Desk_apply_46 : decode b_Desk_apply 46 = .ok (.ldc 175, 2) := by decide +kernel
theorem d_Desk_apply_48 : decode b_Desk_apply 48 = .ok (.invokespecial 99, 3) := by decide +kernel
theorem d_Desk_apply_51 : decode b_Desk_apply 51 = .ok (.athrow, 1) := by decide +kernel
theorem d_Desk_apply_52 : decode b_Desk_apply 52 = .ok (.aload_n 0, 1) := by decide +kernel
theorem d_Desk_apply_53 : decode b_Desk_apply 53 = .ok (.getfield 33, 3) := by decide +kernel
theorem d_Desk_apply_56 : decode b_Desk_apply 56 = .ok (.aload_n 0, 1) := by decide +kernel
theorem d_Desk_apply_57 : decode b_Desk_apply 57 = .ok (.getfield 56, 3) := by decide +kernel
theorem d_Desk_apply_60 : decode b_Desk_apply 60 = .ok (.iload_n 1, 1) := by decide +kernel
theorem d_Desk_apply_61 : decode b_Desk_apply 61 = .ok (.invokevirtual 177, 3) := by decide +kernel
theorem d_Desk_apply_64 : decode b_Desk_apply 64 = .ok (.aload_n 0, 1) := by decide +kernel
theorem d_Desk_apply_65 : decode b_Desk_apply 65 = .ok (.getfield 56, 3) := by decide +kernel
theorem d_Desk_apply_68 : decode b_Desk_apply 68 = .ok (.invokevirtual 103, 3) := by decide +kernel
theorem d_Desk_apply_71 : decode b_Desk_apply 71 = .ok (.aload_n 0, 1) := by decide +kernel
theorem d_Desk_apply_72 : decode b_Desk_apply 72 = .ok (.getfield 33, 3) := by decide +kernel
theorem d_Desk_apply_75 : decode b_Desk_apply 75 = .ok (.invokevirtual 131, 3) := by decide +kernel
theorem d_Desk_apply_78 : decode b_Desk_apply 78 = .ok (.ireturn, 1) := by decide +kernel
theorem d_Desk_letter_0 : decode b_Desk_letter 0 = .ok (.aload_n 0, 1) := by decide +kernel
theorem d_Desk_letter_1 : decode b_Desk_letter 1 = .ok (.getfield 33, 3) := by decide +kernel
theorem d_Desk_letter_4 : decode b_Desk_letter 4 = .ok (.iload_n 1, 1) := by decide +kernel
theorem d_Desk_letter_5 : decode b_Desk_letter 5 = .ok (.invokevirtual 181, 3) := by decide +kernel
theorem d_Desk_letter_8 : decode b_Desk_letter 8 = .ok (.ireturn, 1) := by decide +kernel
theorem d_Desk_count_0 : decode b_Desk_count 0 = .ok (.iload_n 1, 1) := by decide +kernel
theorem d_Desk_count_1 : decode b_Desk_count 1 = .ok (.tableswitch 51 0 2 #[27, 35, 43], 27) := by decide +kernel
theorem d_Desk_count_28 : decode b_Desk_count 28 = .ok (.aload_n 0, 1) := by decide +kernel
theorem d_Desk_count_29 : decode b_Desk_count 29 = .ok (.getfield 19, 3) := by decide +kernel
theorem d_Desk_count_32 : decode b_Desk_count 32 = .ok (.invokevirtual 104, 3) := by decide +kernel
theorem d_Desk_count_35 : decode b_Desk_count 35 = .ok (.ireturn, 1) := by decide +kernel
theorem d_Desk_count_36 : decode b_Desk_count 36 = .ok (.aload_n 0, 1) := by decide +kernel
theorem d_Desk_count_37 : decode b_Desk_count 37 = .ok (.getfield 26, 3) := by decide +kernel
theorem d_Desk_count_40 : decode b_Desk_count 40 = .ok (.invokevirtual 123, 3) := by decide +kernel
theorem d_Desk_count_43 : decode b_Desk_count 43 = .ok (.ireturn, 1) := by decide +kernel
theorem d_Desk_count_44 : decode b_Desk_count 44 = .ok (.aload_n 0, 1) := by decide +kernel
theorem d_Desk_count_45 : decode b_Desk_count 45 = .ok (.getfield 26, 3) := by decide +kernel
theorem d_Desk_count_48 : decode b_Desk_count 48 = .ok (.invokevirtual 184, 3) := by decide +kernel
theorem d_Desk_count_51 : decode b_Desk_count 51 = .ok (.ireturn, 1) := by decide +kernel
theorem d_Desk_count_52 : decode b_Desk_count 52 = .ok (.iconst (-1), 1) := by decide +kernel
theorem d_Desk_count_53 : decode b_Desk_count 53 = .ok (.ireturn, 1) := by decide +kernel
theorem d_Law_rule_0 : decode b_Law_rule 0 = .ok (.aload_n 1, 1) := by decide +kernel
theorem d_Law_rule_1 : decode b_Law_rule 1 = .ok (.iconst 0, 1) := by decide +kernel
theorem d_Law_rule_2 : decode b_Law_rule 2 = .ok (.aload_n 0, 1) := by decide +kernel
theorem d_Law_rule_3 : decode b_Law_rule 3 = .ok (.invokevirtual 7, 3) := by decide +kernel
theorem d_Law_rule_6 : decode b_Law_rule 6 = .ok (.i2l, 1) := by decide +kernel
theorem d_Law_rule_7 : decode b_Law_rule 7 = .ok (.lastore, 1) := by decide +kernel
theorem d_Law_rule_8 : decode b_Law_rule 8 = .ok (.goto 9, 3) := by decide +kernel
theorem d_Law_rule_11 : decode b_Law_rule 11 = .ok (.astore_n 2, 1) := by decide +kernel
theorem d_Law_rule_12 : decode b_Law_rule 12 = .ok (.iconst 1, 1) := by decide +kernel
theorem d_Law_rule_13 : decode b_Law_rule 13 = .ok (.ireturn, 1) := by decide +kernel
theorem d_Law_rule_14 : decode b_Law_rule 14 = .ok (.astore_n 2, 1) := by decide +kernel
theorem d_Law_rule_15 : decode b_Law_rule 15 = .ok (.iconst 2, 1) := by decide +kernel
theorem d_Law_rule_16 : decode b_Law_rule 16 = .ok (.ireturn, 1) := by decide +kernel
theorem d_Law_rule_17 : decode b_Law_rule 17 = .ok (.iconst 0, 1) := by decide +kernel
theorem d_Law_rule_18 : decode b_Law_rule 18 = .ok (.ireturn, 1) := by decide +kernel
theorem d_Law_compile_0 : decode b_Law_compile 0 = .ok (.aload_n 1, 1) := by decide +kernel
theorem d_Law_compile_1 : decode b_Law_compile 1 = .ok (.iconst 0, 1) := by decide +kernel
theorem d_Law_compile_2 : decode b_Law_compile 2 = .ok (.aload_n 0, 1) := by decide +kernel
theorem d_Law_compile_3 : decode b_Law_compile 3 = .ok (.invokevirtual 17, 3) := by decide +kernel
theorem d_Law_compile_6 : decode b_Law_compile 6 = .ok (.i2l, 1) := by decide +kernel
theorem d_Law_compile_7 : decode b_Law_compile 7 = .ok (.lastore, 1) := by decide +kernel
theorem d_Law_compile_8 : decode b_Law_compile 8 = .ok (.goto 9, 3) := by decide +kernel
theorem d_Law_compile_11 : decode b_Law_compile 11 = .ok (.astore_n 2, 1) := by decide +kernel
theorem d_Law_compile_12 : decode b_Law_compile 12 = .ok (.iconst 1, 1) := by decide +kernel
theorem d_Law_compile_13 : decode b_Law_compile 13 = .ok (.ireturn, 1) := by decide +kernel
theorem d_Law_compile_14 : decode b_Law_compile 14 = .ok (.astore_n 2, 1) := by decide +kernel
theorem d_Law_compile_15 : decode b_Law_compile 15 = .ok (.iconst 2, 1) := by decide +kernel
theorem d_Law_compile_16 : decode b_Law_compile 16 = .ok (.ireturn, 1) := by decide +kernel
theorem d_Law_compile_17 : decode b_Law_compile 17 = .ok (.iconst 0, 1) := by decide +kernel
theorem d_Law_compile_18 : decode b_Law_compile 18 = .ok (.ireturn, 1) := by decide +kernel
theorem d_Law_text_0 : decode b_Law_text 0 = .ok (.aload_n 1, 1) := by decide +kernel
theorem d_Law_text_1 : decode b_Law_text 1 = .ok (.iconst 0, 1) := by decide +kernel
theorem d_Law_text_2 : decode b_Law_text 2 = .ok (.aload_n 0, 1) := by decide +kernel
theorem d_Law_text_3 : decode b_Law_text 3 = .ok (.invokevirtual 22, 3) := by decide +kernel
theorem d_Law_text_6 : decode b_Law_text 6 = .ok (.i2l, 1) := by decide +kernel
theorem d_Law_text_7 : decode b_Law_text 7 = .ok (.lastore, 1) := by decide +kernel
theorem d_Law_text_8 : decode b_Law_text 8 = .ok (.goto 6, 3) := by decide +kernel
theorem d_Law_text_11 : decode b_Law_text 11 = .ok (.astore_n 2, 1) := by decide +kernel
theorem d_Law_text_12 : decode b_Law_text 12 = .ok (.iconst 1, 1) := by decide +kernel
theorem d_Law_text_13 : decode b_Law_text 13 = .ok (.ireturn, 1) := by decide +kernel
theorem d_Law_text_14 : decode b_Law_text 14 = .ok (.iconst 0, 1) := by decide +kernel
theorem d_Law_text_15 : decode b_Law_text 15 = .ok (.ireturn, 1) := by decide +kernel
theorem d_Law_parse_0 : decode b_Law_parse 0 = .ok (.aload_n 1, 1) := by decide +kernel
theorem d_Law_parse_1 : decode b_Law_parse 1 = .ok (.iconst 0, 1) := by decide +kernel
theorem d_Law_parse_2 : decode b_Law_parse 2 = .ok (.aload_n 0, 1) := by decide +kernel
theorem d_Law_parse_3 : decode b_Law_parse 3 = .ok (.invokevirtual 25, 3) := by decide +kernel
theorem d_Law_parse_6 : decode b_Law_parse 6 = .ok (.i2l, 1) := by decide +kernel
theorem d_Law_parse_7 : decode b_Law_parse 7 = .ok (.lastore, 1) := by decide +kernel
theorem d_Law_parse_8 : decode b_Law_parse 8 = .ok (.goto 6, 3) := by decide +kernel
theorem d_Law_parse_11 : decode b_Law_parse 11 = .ok (.astore_n 2, 1) := by decide +kernel
theorem d_Law_parse_12 : decode b_Law_parse 12 = .ok (.iconst 1, 1) := by decide +kernel
theorem d_Law_parse_13 : decode b_Law_parse 13 = .ok (.ireturn, 1) := by decide +kernel
theorem d_Law_parse_14 : decode b_Law_parse 14 = .ok (.iconst 0, 1) := by decide +kernel
theorem d_Law_parse_15 : decode b_Law_parse 15 = .ok (.ireturn, 1) := by decide +kernel
theorem d_Law_repair_0 : decode b_Law_repair 0 = .ok (.aload_n 2, 1) := by decide +kernel
theorem d_Law_repair_1 : decode b_Law_repair 1 = .ok (.iconst 0, 1) := by decide +kernel
theorem d_Law_repair_2 : decode b_Law_repair 2 = .ok (.aload_n 0, 1) := by decide +kernel
theorem d_Law_repair_3 : decode b_Law_repair 3 = .ok (.iload_n 1, 1) := by decide +kernel
theorem d_Law_repair_4 : decode b_Law_repair 4 = .ok (.invokevirtual 28, 3) := by decide +kernel
theorem d_Law_repair_7 : decode b_Law_repair 7 = .ok (.i2l, 1) := by decide +kernel
theorem d_Law_repair_8 : decode b_Law_repair 8 = .ok (.lastore, 1) := by decide +kernel
theorem d_Law_repair_9 : decode b_Law_repair 9 = .ok (.goto 12, 3) := by decide +kernel
theorem d_Law_repair_12 : decode b_Law_repair 12 = .ok (.astore_n 3, 1) := by decide +kernel
theorem d_Law_repair_13 : decode b_Law_repair 13 = .ok (.iconst 1, 1) := by decide +kernel
theorem d_Law_repair_14 : decode b_Law_repair 14 = .ok (.ireturn, 1) := by decide +kernel
theorem d_Law_repair_15 : decode b_Law_repair 15 = .ok (.astore_n 3, 1) := by decide +kernel
theorem d_Law_repair_16 : decode b_Law_repair 16 = .ok (.iconst 2, 1) := by decide +kernel
theorem d_Law_repair_17 : decode b_Law_repair 17 = .ok (.ireturn, 1) := by decide +kernel
theorem d_Law_repair_18 : decode b_Law_repair 18 = .ok (.astore_n 3, 1) := by decide +kernel
theorem d_Law_repair_19 : decode b_Law_repair 19 = .ok (.iconst 3, 1) := by decide +kernel
theorem d_Law_repair_20 : decode b_Law_repair 20 = .ok (.ireturn, 1) := by decide +kernel
theorem d_Law_repair_21 : decode b_Law_repair 21 = .ok (.iconst 0, 1) := by decide +kernel
theorem d_Law_repair_22 : decode b_Law_repair 22 = .ok (.ireturn, 1) := by decide +kernel
theorem d_Law_reach_0 : decode b_Law_reach 0 = .ok (.aload_n 2, 1) := by decide +kernel
theorem d_Law_reach_1 : decode b_Law_reach 1 = .ok (.iconst 0, 1) := by decide +kernel
theorem d_Law_reach_2 : decode b_Law_reach 2 = .ok (.aload_n 0, 1) := by decide +kernel
theorem d_Law_reach_3 : decode b_Law_reach 3 = .ok (.iload_n 1, 1) := by decide +kernel
theorem d_Law_reach_4 : decode b_Law_reach 4 = .ok (.invokevirtual 32, 3) := by decide +kernel
theorem d_Law_reach_7 : decode b_Law_reach 7 = .ok (.i2l, 1) := by decide +kernel
theorem d_Law_reach_8 : decode b_Law_reach 8 = .ok (.lastore, 1) := by decide +kernel
theorem d_Law_reach_9 : decode b_Law_reach 9 = .ok (.goto 6, 3) := by decide +kernel
theorem d_Law_reach_12 : decode b_Law_reach 12 = .ok (.astore_n 3, 1) := by decide +kernel
theorem d_Law_reach_13 : decode b_Law_reach 13 = .ok (.iconst 1, 1) := by decide +kernel
theorem d_Law_reach_14 : decode b_Law_reach 14 = .ok (.ireturn, 1) := by decide +kernel
theorem d_Law_reach_15 : decode b_Law_reach 15 = .ok (.iconst 0, 1) := by decide +kernel
theorem d_Law_reach_16 : decode b_Law_reach 16 = .ok (.ireturn, 1) := by decide +kernel
theorem d_Law_apply_0 : decode b_Law_apply 0 = .ok (.aload_n 2, 1) := by decide +kernel
theorem d_Law_apply_1 : decode b_Law_apply 1 = .ok (.iconst 0, 1) := by decide +kernel
theorem d_Law_apply_2 : decode b_Law_apply 2 = .ok (.aload_n 0, 1) := by decide +kernel
theorem d_Law_apply_3 : decode b_Law_apply 3 = .ok (.iload_n 1, 1) := by decide +kernel
theorem d_Law_apply_4 : decode b_Law_apply 4 = .ok (.invokevirtual 37, 3) := by decide +kernel
theorem d_Law_apply_7 : decode b_Law_apply 7 = .ok (.i2l, 1) := by decide +kernel
theorem d_Law_apply_8 : decode b_Law_apply 8 = .ok (.lastore, 1) := by decide +kernel
theorem d_Law_apply_9 : decode b_Law_apply 9 = .ok (.goto 9, 3) := by decide +kernel
theorem d_Law_apply_12 : decode b_Law_apply 12 = .ok (.astore_n 3, 1) := by decide +kernel
theorem d_Law_apply_13 : decode b_Law_apply 13 = .ok (.iconst 1, 1) := by decide +kernel
theorem d_Law_apply_14 : decode b_Law_apply 14 = .ok (.ireturn, 1) := by decide +kernel
theorem d_Law_apply_15 : decode b_Law_apply 15 = .ok (.astore_n 3, 1) := by decide +kernel
theorem d_Law_apply_16 : decode b_Law_apply 16 = .ok (.iconst 2, 1) := by decide +kernel
theorem d_Law_apply_17 : decode b_Law_apply 17 = .ok (.ireturn, 1) := by decide +kernel
theorem d_Law_apply_18 : decode b_Law_apply 18 = .ok (.iconst 0, 1) := by decide +kernel
theorem d_Law_apply_19 : decode b_Law_apply 19 = .ok (.ireturn, 1) := by decide +kernel
