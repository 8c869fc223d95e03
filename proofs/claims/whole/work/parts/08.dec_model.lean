theorem d_Model_init_0 : decode b_Model_init 0 = .ok (.aload_n 0, 1) := by decide +kernel
theorem d_Model_init_1 : decode b_Model_init 1 = .ok (.invokespecial 1, 3) := by decide +kernel
theorem d_Model_init_4 : decode b_Model_init 4 = .ok (.aload_n 0, 1) := by decide +kernel
theorem d_Model_init_5 : decode b_Model_init 5 = .ok (.bipush 10, 2) := by decide +kernel
theorem d_Model_init_7 : decode b_Model_init 7 = .ok (.newarray .char, 2) := by decide +kernel
theorem d_Model_init_9 : decode b_Model_init 9 = .ok (.putfield 7, 3) := by decide +kernel
theorem d_Model_init_12 : decode b_Model_init 12 = .ok (.aload_n 0, 1) := by decide +kernel
theorem d_Model_init_13 : decode b_Model_init 13 = .ok (.bipush 11, 2) := by decide +kernel
theorem d_Model_init_15 : decode b_Model_init 15 = .ok (.newarray .int, 2) := by decide +kernel
theorem d_Model_init_17 : decode b_Model_init 17 = .ok (.putfield 13, 3) := by decide +kernel
theorem d_Model_init_20 : decode b_Model_init 20 = .ok (.aload_n 0, 1) := by decide +kernel
theorem d_Model_init_21 : decode b_Model_init 21 = .ok (.bipush 11, 2) := by decide +kernel
theorem d_Model_init_23 : decode b_Model_init 23 = .ok (.newarray .int, 2) := by decide +kernel
theorem d_Model_init_25 : decode b_Model_init 25 = .ok (.putfield 17, 3) := by decide +kernel
theorem d_Model_init_28 : decode b_Model_init 28 = .ok (.aload_n 0, 1) := by decide +kernel
theorem d_Model_init_29 : decode b_Model_init 29 = .ok (.bipush 44, 2) := by decide +kernel
theorem d_Model_init_31 : decode b_Model_init 31 = .ok (.newarray .int, 2) := by decide +kernel
theorem d_Model_init_33 : decode b_Model_init 33 = .ok (.putfield 20, 3) := by decide +kernel
theorem d_Model_init_36 : decode b_Model_init 36 = .ok (.aload_n 0, 1) := by decide +kernel
theorem d_Model_init_37 : decode b_Model_init 37 = .ok (.bipush 11, 2) := by decide +kernel
theorem d_Model_init_39 : decode b_Model_init 39 = .ok (.newarray .boolean, 2) := by decide +kernel
theorem d_Model_init_41 : decode b_Model_init 41 = .ok (.putfield 23, 3) := by decide +kernel
theorem d_Model_init_44 : decode b_Model_init 44 = .ok (.aload_n 0, 1) := by decide +kernel
theorem d_Model_init_45 : decode b_Model_init 45 = .ok (.bipush 6, 2) := by decide +kernel
theorem d_Model_init_47 : decode b_Model_init 47 = .ok (.newarray .boolean, 2) := by decide +kernel
theorem d_Model_init_49 : decode b_Model_init 49 = .ok (.putfield 27, 3) := by decide +kernel
theorem d_Model_init_52 : decode b_Model_init 52 = .ok (.aload_n 0, 1) := by decide +kernel
theorem d_Model_init_53 : decode b_Model_init 53 = .ok (.bipush 6, 2) := by decide +kernel
theorem d_Model_init_55 : decode b_Model_init 55 = .ok (.newarray .boolean, 2) := by decide +kernel
theorem d_Model_init_57 : decode b_Model_init 57 = .ok (.putfield 30, 3) := by decide +kernel
theorem d_Model_init_60 : decode b_Model_init 60 = .ok (.aload_n 0, 1) := by decide +kernel
theorem d_Model_init_61 : decode b_Model_init 61 = .ok (.bipush 6, 2) := by decide +kernel
theorem d_Model_init_63 : decode b_Model_init 63 = .ok (.newarray .int, 2) := by decide +kernel
theorem d_Model_init_65 : decode b_Model_init 65 = .ok (.putfield 33, 3) := by decide +kernel
theorem d_Model_init_68 : decode b_Model_init 68 = .ok (.aload_n 0, 1) := by decide +kernel
theorem d_Model_init_69 : decode b_Model_init 69 = .ok (.sipush 2310, 3) := by decide +kernel
theorem d_Model_init_72 : decode b_Model_init 72 = .ok (.newarray .int, 2) := by decide +kernel
theorem d_Model_init_74 : decode b_Model_init 74 = .ok (.putfield 36, 3) := by decide +kernel
theorem d_Model_init_77 : decode b_Model_init 77 = .ok (.aload_n 0, 1) := by decide +kernel
theorem d_Model_init_78 : decode b_Model_init 78 = .ok (.sipush 492, 3) := by decide +kernel
theorem d_Model_init_81 : decode b_Model_init 81 = .ok (.newarray .int, 2) := by decide +kernel
theorem d_Model_init_83 : decode b_Model_init 83 = .ok (.putfield 39, 3) := by decide +kernel
theorem d_Model_init_86 : decode b_Model_init 86 = .ok (.aload_n 0, 1) := by decide +kernel
theorem d_Model_init_87 : decode b_Model_init 87 = .ok (.bipush 16, 2) := by decide +kernel
theorem d_Model_init_89 : decode b_Model_init 89 = .ok (.newarray .int, 2) := by decide +kernel
theorem d_Model_init_91 : decode b_Model_init 91 = .ok (.putfield 42, 3) := by decide +kernel
theorem d_Model_init_94 : decode b_Model_init 94 = .ok (.aload_n 0, 1) := by decide +kernel
theorem d_Model_init_95 : decode b_Model_init 95 = .ok (.bipush 24, 2) := by decide +kernel
theorem d_Model_init_97 : decode b_Model_init 97 = .ok (.newarray .int, 2) := by decide +kernel
theorem d_Model_init_99 : decode b_Model_init 99 = .ok (.putfield 45, 3) := by decide +kernel
theorem d_Model_init_102 : decode b_Model_init 102 = .ok (.aload_n 0, 1) := by decide +kernel
theorem d_Model_init_103 : decode b_Model_init 103 = .ok (.sipush 400, 3) := by decide +kernel
theorem d_Model_init_106 : decode b_Model_init 106 = .ok (.newarray .int, 2) := by decide +kernel
theorem d_Model_init_108 : decode b_Model_init 108 = .ok (.putfield 48, 3) := by decide +kernel
theorem d_Model_init_111 : decode b_Model_init 111 = .ok (.aload_n 0, 1) := by decide +kernel
theorem d_Model_init_112 : decode b_Model_init 112 = .ok (.bipush 6, 2) := by decide +kernel
theorem d_Model_init_114 : decode b_Model_init 114 = .ok (.newarray .int, 2) := by decide +kernel
theorem d_Model_init_116 : decode b_Model_init 116 = .ok (.putfield 51, 3) := by decide +kernel
theorem d_Model_init_119 : decode b_Model_init 119 = .ok (.aload_n 0, 1) := by decide +kernel
theorem d_Model_init_120 : decode b_Model_init 120 = .ok (.bipush 6, 2) := by decide +kernel
theorem d_Model_init_122 : decode b_Model_init 122 = .ok (.newarray .int, 2) := by decide +kernel
theorem d_Model_init_124 : decode b_Model_init 124 = .ok (.putfield 54, 3) := by decide +kernel
theorem d_Model_init_127 : decode b_Model_init 127 = .ok (.aload_n 0, 1) := by decide +kernel
theorem d_Model_init_128 : decode b_Model_init 128 = .ok (.sipush 280, 3) := by decide +kernel
theorem d_Model_init_131 : decode b_Model_init 131 = .ok (.newarray .int, 2) := by decide +kernel
theorem d_Model_init_133 : decode b_Model_init 133 = .ok (.putfield 57, 3) := by decide +kernel
theorem d_Model_init_136 : decode b_Model_init 136 = .ok (.aload_n 0, 1) := by decide +kernel
theorem d_Model_init_137 : decode b_Model_init 137 = .ok (.bipush 40, 2) := by decide +kernel
theorem d_Model_init_139 : decode b_Model_init 139 = .ok (.newarray .int, 2) := by decide +kernel
theorem d_Model_init_141 : decode b_Model_init 141 = .ok (.putfield 60, 3) := by decide +kernel
theorem d_Model_init_144 : decode b_Model_init 144 = .ok (.aload_n 0, 1) := by decide +kernel
theorem d_Model_init_145 : decode b_Model_init 145 = .ok (.bipush 8, 2) := by decide +kernel
theorem d_Model_init_147 : decode b_Model_init 147 = .ok (.newarray .int, 2) := by decide +kernel
theorem d_Model_init_149 : decode b_Model_init 149 = .ok (.putfield 63, 3) := by decide +kernel
theorem d_Model_init_152 : decode b_Model_init 152 = .ok (.iconst 0, 1) := by decide +kernel
theorem d_Model_init_153 : decode b_Model_init 153 = .ok (.istore_n 1, 1) := by decide +kernel
theorem d_Model_init_154 : decode b_Model_init 154 = .ok (.iload_n 1, 1) := by decide +kernel
theorem d_Model_init_155 : decode b_Model_init 155 = .ok (.bipush 6, 2) := by decide +kernel
theorem d_Model_init_157 : decode b_Model_init 157 = .ok (.if_icmp .ge 23, 3) := by decide +kernel
theorem d_Model_init_160 : decode b_Model_init 160 = .ok (.aload_n 0, 1) := by decide +kernel
theorem d_Model_init_161 : decode b_Model_init 161 = .ok (.getfield 51, 3) := by decide +kernel
theorem d_Model_init_164 : decode b_Model_init 164 = .ok (.iload_n 1, 1) := by decide +kernel
theorem d_Model_init_165 : decode b_Model_init 165 = .ok (.iconst 1, 1) := by decide +kernel
theorem d_Model_init_166 : decode b_Model_init 166 = .ok (.iastore, 1) := by decide +kernel
theorem d_Model_init_167 : decode b_Model_init 167 = .ok (.aload_n 0, 1) := by decide +kernel
theorem d_Model_init_168 : decode b_Model_init 168 = .ok (.getfield 54, 3) := by decide +kernel
theorem d_Model_init_171 : decode b_Model_init 171 = .ok (.iload_n 1, 1) := by decide +kernel
theorem d_Model_init_172 : decode b_Model_init 172 = .ok (.iconst 1, 1) := by decide +kernel
theorem d_Model_init_173 : decode b_Model_init 173 = .ok (.iastore, 1) := by decide +kernel
theorem d_Model_init_174 : decode b_Model_init 174 = .ok (.iinc 1 1, 3) := by decide +kernel
theorem d_Model_init_177 : decode b_Model_init 177 = .ok (.goto (-23), 3) := by decide +kernel
theorem d_Model_init_180 : decode b_Model_init 180 = .ok (.return_, 1) := by decide +kernel
theorem d_Model_thrown_0 : decode b_Model_thrown 0 = .ok (.aload_n 0, 1) := by decide +kernel
theorem d_Model_thrown_1 : decode b_Model_thrown 1 = .ok (.getfield 66, 3) := by decide +kernel
theorem d_Model_thrown_4 : decode b_Model_thrown 4 = .ok (.ireturn, 1) := by decide +kernel
theorem d_Model_fails_0 : decode b_Model_fails 0 = .ok (.aload_n 0, 1) := by decide +kernel
theorem d_Model_fails_1 : decode b_Model_fails 1 = .ok (.iload_n 1, 1) := by decide +kernel
theorem d_Model_fails_2 : decode b_Model_fails 2 = .ok (.putfield 66, 3) := by decide +kernel
theorem d_Model_fails_5 : decode b_Model_fails 5 = .ok (.iconst 0, 1) := by decide +kernel
theorem d_Model_fails_6 : decode b_Model_fails 6 = .ok (.ireturn, 1) := by decide +kernel
theorem d_Model_write_0 : decode b_Model_write 0 = .ok (.aload_n 0, 1) := by decide +kernel
theorem d_Model_write_1 : decode b_Model_write 1 = .ok (.iconst 0, 1) := by decide +kernel
theorem d_Model_write_2 : decode b_Model_write 2 = .ok (.putfield 66, 3) := by decide +kernel
theorem d_Model_write_5 : decode b_Model_write 5 = .ok (.iload_n 1, 1) := by decide +kernel
theorem d_Model_write_6 : decode b_Model_write 6 = .ok (.bipush 32, 2) := by decide +kernel
theorem d_Model_write_8 : decode b_Model_write 8 = .ok (.if_icmp .lt 18, 3) := by decide +kernel
theorem d_Model_write_11 : decode b_Model_write 11 = .ok (.iload_n 1, 1) := by decide +kernel
theorem d_Model_write_12 : decode b_Model_write 12 = .ok (.bipush 126, 2) := by decide +kernel
theorem d_Model_write_14 : decode b_Model_write 14 = .ok (.if_icmp .gt 12, 3) := by decide +kernel
theorem d_Model_write_17 : decode b_Model_write 17 = .ok (.aload_n 0, 1) := by decide +kernel
theorem d_Model_write_18 : decode b_Model_write 18 = .ok (.getfield 70, 3) := by decide +kernel
theorem d_Model_write_21 : decode b_Model_write 21 = .ok (.bipush 10, 2) := by decide +kernel
theorem d_Model_write_23 : decode b_Model_write 23 = .ok (.if_icmp .lt 5, 3) := by decide +kernel
theorem d_Model_write_26 : decode b_Model_write 26 = .ok (.iconst 0, 1) := by decide +kernel
theorem d_Model_write_27 : decode b_Model_write 27 = .ok (.ireturn, 1) := by decide +kernel
theorem d_Model_write_28 : decode b_Model_write 28 = .ok (.aload_n 0, 1) := by decide +kernel
theorem d_Model_write_29 : decode b_Model_write 29 = .ok (.getfield 7, 3) := by decide +kernel
theorem d_Model_write_32 : decode b_Model_write 32 = .ok (.aload_n 0, 1) := by decide +kernel
theorem d_Model_write_33 : decode b_Model_write 33 = .ok (.getfield 70, 3) := by decide +kernel
theorem d_Model_write_36 : decode b_Model_write 36 = .ok (.iload_n 1, 1) := by decide +kernel
theorem d_Model_write_37 : decode b_Model_write 37 = .ok (.castore, 1) := by decide +kernel
theorem d_Model_write_38 : decode b_Model_write 38 = .ok (.aload_n 0, 1) := by decide +kernel
theorem d_Model_write_39 : decode b_Model_write 39 = .ok (.dup, 1) := by decide +kernel
theorem d_Model_write_40 : decode b_Model_write 40 = .ok (.getfield 70, 3) := by decide +kernel
theorem d_Model_write_43 : decode b_Model_write 43 = .ok (.iconst 1, 1) := by decide +kernel
theorem d_Model_write_44 : decode b_Model_write 44 = .ok (.iadd, 1) := by decide +kernel
theorem d_Model_write_45 : decode b_Model_write 45 = .ok (.putfield 70, 3) := by decide +kernel
theorem d_Model_write_48 : decode b_Model_write 48 = .ok (.iconst 1, 1) := by decide +kernel
theorem d_Model_write_49 : decode b_Model_write 49 = .ok (.ireturn, 1) := by decide +kernel
theorem d_Model_isLetter_0 : decode b_Model_isLetter 0 = .ok (.iload_n 0, 1) := by decide +kernel
theorem d_Model_isLetter_1 : decode b_Model_isLetter 1 = .ok (.bipush 97, 2) := by decide +kernel
theorem d_Model_isLetter_3 : decode b_Model_isLetter 3 = .ok (.if_icmp .lt 13, 3) := by decide +kernel
theorem d_Model_isLetter_6 : decode b_Model_isLetter 6 = .ok (.iload_n 0, 1) := by decide +kernel
theorem d_Model_isLetter_7 : decode b_Model_isLetter 7 = .ok (.bipush 102, 2) := by decide +kernel
theorem d_Model_isLetter_9 : decode b_Model_isLetter 9 = .ok (.if_icmp .gt 7, 3) := by decide +kernel
theorem d_Model_isLetter_12 : decode b_Model_isLetter 12 = .ok (.iconst 1, 1) := by decide +kernel
theorem d_Model_isLetter_13 : decode b_Model_isLetter 13 = .ok (.goto 4, 3) := by decide +kernel
theorem d_Model_isLetter_16 : decode b_Model_isLetter 16 = .ok (.iconst 0, 1) := by decide +kernel
theorem d_Model_isLetter_17 : decode b_Model_isLetter 17 = .ok (.ireturn, 1) := by decide +kernel
theorem d_Model_isName_0 : decode b_Model_isName 0 = .ok (.iload_n 0, 1) := by decide +kernel
theorem d_Model_isName_1 : decode b_Model_isName 1 = .ok (.bipush 65, 2) := by decide +kernel
theorem d_Model_isName_3 : decode b_Model_isName 3 = .ok (.if_icmp .lt 13, 3) := by decide +kernel
theorem d_Model_isName_6 : decode b_Model_isName 6 = .ok (.iload_n 0, 1) := by decide +kernel
theorem d_Model_isName_7 : decode b_Model_isName 7 = .ok (.bipush 70, 2) := by decide +kernel
theorem d_Model_isName_9 : decode b_Model_isName 9 = .ok (.if_icmp .gt 7, 3) := by decide +kernel
theorem d_Model_isName_12 : decode b_Model_isName 12 = .ok (.iconst 1, 1) := by decide +kernel
theorem d_Model_isName_13 : decode b_Model_isName 13 = .ok (.goto 4, 3) := by decide +kernel
theorem d_Model_isName_16 : decode b_Model_isName 16 = .ok (.iconst 0, 1) := by decide +kernel
theorem d_Model_isName_17 : decode b_Model_isName 17 = .ok (.ireturn, 1) := by decide +kernel
theorem d_Model_forget_0 : decode b_Model_forget 0 = .ok (.aload_n 0, 1) := by decide +kernel
theorem d_Model_forget_1 : decode b_Model_forget 1 = .ok (.iconst 0, 1) := by decide +kernel
theorem d_Model_forget_2 : decode b_Model_forget 2 = .ok (.putfield 73, 3) := by decide +kernel
theorem d_Model_forget_5 : decode b_Model_forget 5 = .ok (.aload_n 0, 1) := by decide +kernel
theorem d_Model_forget_6 : decode b_Model_forget 6 = .ok (.iconst 0, 1) := by decide +kernel
theorem d_Model_forget_7 : decode b_Model_forget 7 = .ok (.putfield 76, 3) := by decide +kernel
theorem d_Model_forget_10 : decode b_Model_forget 10 = .ok (.return_, 1) := by decide +kernel
theorem d_Model_rule_0 : decode b_Model_rule 0 = .ok (.aload_n 0, 1) := by decide +kernel
theorem d_Model_rule_1 : decode b_Model_rule 1 = .ok (.iconst 0, 1) := by decide +kernel
theorem d_Model_rule_2 : decode b_Model_rule 2 = .ok (.putfield 66, 3) := by decide +kernel
theorem d_Model_rule_5 : decode b_Model_rule 5 = .ok (.aload_n 0, 1) := by decide +kernel
theorem d_Model_rule_6 : decode b_Model_rule 6 = .ok (.getfield 70, 3) := by decide +kernel
theorem d_Model_rule_9 : decode b_Model_rule 9 = .ok (.istore_n 1, 1) := by decide +kernel
theorem d_Model_rule_10 : decode b_Model_rule 10 = .ok (.aload_n 0, 1) := by decide +kernel
theorem d_Model_rule_11 : decode b_Model_rule 11 = .ok (.iconst 0, 1) := by decide +kernel
theorem d_Model_rule_12 : decode b_Model_rule 12 = .ok (.putfield 70, 3) := by decide +kernel
theorem d_Model_rule_15 : decode b_Model_rule 15 = .ok (.iload_n 1, 1) := by decide +kernel
theorem d_Model_rule_16 : decode b_Model_rule 16 = .ok (.iconst 2, 1) := by decide +kernel
theorem d_Model_rule_17 : decode b_Model_rule 17 = .ok (.if_icmp .lt 36, 3) := by decide +kernel
theorem d_Model_rule_20 : decode b_Model_rule 20 = .ok (.iload_n 1, 1) := by decide +kernel
theorem d_Model_rule_21 : decode b_Model_rule 21 = .ok (.bipush 6, 2) := by decide +kernel
theorem d_Model_rule_23 : decode b_Model_rule 23 = .ok (.if_icmp .gt 30, 3) := by decide +kernel
theorem d_Model_rule_26 : decode b_Model_rule 26 = .ok (.aload_n 0, 1) := by decide +kernel
theorem d_Model_rule_27 : decode b_Model_rule 27 = .ok (.getfield 7, 3) := by decide +kernel
theorem d_Model_rule_30 : decode b_Model_rule 30 = .ok (.iconst 0, 1) := by decide +kernel
theorem d_Model_rule_31 : decode b_Model_rule 31 = .ok (.caload, 1) := by decide +kernel
theorem d_Model_rule_32 : decode b_Model_rule 32 = .ok (.invokestatic 79, 3) := by decide +kernel
theorem d_Model_rule_35 : decode b_Model_rule 35 = .ok (.ifCond .eq 18, 3) := by decide +kernel
theorem d_Model_rule_38 : decode b_Model_rule 38 = .ok (.aload_n 0, 1) := by decide +kernel
theorem d_Model_rule_39 : decode b_Model_rule 39 = .ok (.getfield 7, 3) := by decide +kernel
theorem d_Model_rule_42 : decode b_Model_rule 42 = .ok (.iconst 1, 1) := by decide +kernel
theorem d_Model_rule_43 : decode b_Model_rule 43 = .ok (.caload, 1) := by decide +kernel
theorem d_Model_rule_44 : decode b_Model_rule 44 = .ok (.bipush 61, 2) := by decide +kernel
theorem d_Model_rule_46 : decode b_Model_rule 46 = .ok (.if_icmp .ne 7, 3) := by decide +kernel
theorem d_Model_rule_49 : decode b_Model_rule 49 = .ok (.iconst 1, 1) := by decide +kernel
theorem d_Model_rule_50 : decode b_Model_rule 50 = .ok (.goto 4, 3) := by decide +kernel
theorem d_Model_rule_53 : decode b_Model_rule 53 = .ok (.iconst 0, 1) := by decide +kernel
theorem d_Model_rule_54 : decode b_Model_rule 54 = .ok (.istore_n 2, 1) := by decide +kernel
theorem d_Model_rule_55 : decode b_Model_rule 55 = .ok (.iconst 2, 1) := by decide +kernel
theorem d_Model_rule_56 : decode b_Model_rule 56 = .ok (.istore_n 3, 1) := by decide +kernel
theorem d_Model_rule_57 : decode b_Model_rule 57 = .ok (.iload_n 3, 1) := by decide +kernel
theorem d_Model_rule_58 : decode b_Model_rule 58 = .ok (.iload_n 1, 1) := by decide +kernel
theorem d_Model_rule_59 : decode b_Model_rule 59 = .ok (.if_icmp .ge 43, 3) := by decide +kernel
theorem d_Model_rule_62 : decode b_Model_rule 62 = .ok (.iload_n 2, 1) := by decide +kernel
theorem d_Model_rule_63 : decode b_Model_rule 63 = .ok (.ifCond .eq 39, 3) := by decide +kernel
theorem d_Model_rule_66 : decode b_Model_rule 66 = .ok (.aload_n 0, 1) := by decide +kernel
theorem d_Model_rule_67 : decode b_Model_rule 67 = .ok (.getfield 7, 3) := by decide +kernel
theorem d_Model_rule_70 : decode b_Model_rule 70 = .ok (.iload_n 3, 1) := by decide +kernel
theorem d_Model_rule_71 : decode b_Model_rule 71 = .ok (.caload, 1) := by decide +kernel
theorem d_Model_rule_72 : decode b_Model_rule 72 = .ok (.invokestatic 83, 3) := by decide +kernel
theorem d_Model_rule_75 : decode b_Model_rule 75 = .ok (.ifCond .ne 15, 3) := by decide +kernel
theorem d_Model_rule_78 : decode b_Model_rule 78 = .ok (.aload_n 0, 1) := by decide +kernel
theorem d_Model_rule_79 : decode b_Model_rule 79 = .ok (.getfield 7, 3) := by decide +kernel
theorem d_Model_rule_82 : decode b_Model_rule 82 = .ok (.iload_n 3, 1) := by decide +kernel
theorem d_Model_rule_83 : decode b_Model_rule 83 = .ok (.caload, 1) := by decide +kernel
theorem d_Model_rule_84 : decode b_Model_rule 84 = .ok (.invokestatic 79, 3) := by decide +kernel
theorem d_Model_rule_87 : decode b_Model_rule 87 = .ok (.ifCond .eq 7, 3) := by decide +kernel
theorem d_Model_rule_90 : decode b_Model_rule 90 = .ok (.iconst 1, 1) := by decide +kernel
theorem d_Model_rule_91 : decode b_Model_rule 91 = .ok (.goto 4, 3) := by decide +kernel
theorem d_Model_rule_94 : decode b_Model_rule 94 = .ok (.iconst 0, 1) := by decide +kernel
theorem d_Model_rule_95 : decode b_Model_rule 95 = .ok (.istore_n 2, 1) := by decide +kernel
theorem d_Model_rule_96 : decode b_Model_rule 96 = .ok (.iinc 3 1, 3) := by decide +kernel
theorem d_Model_rule_99 : decode b_Model_rule 99 = .ok (.goto (-42), 3) := by decide +kernel
theorem d_Model_rule_102 : decode b_Model_rule 102 = .ok (.iload_n 2, 1) := by decide +kernel
theorem d_Model_rule_103 : decode b_Model_rule 103 = .ok (.ifCond .ne 9, 3) := by decide +kernel
theorem d_Model_rule_106 : decode b_Model_rule 106 = .ok (.aload_n 0, 1) := by decide +kernel
theorem d_Model_rule_107 : decode b_Model_rule 107 = .ok (.iconst 1, 1) := by decide +kernel
theorem d_Model_rule_108 : decode b_Model_rule 108 = .ok (.invokevirtual 86, 3) := by decide +kernel
theorem d_Model_rule_111 : decode b_Model_rule 111 = .ok (.ireturn, 1) := by decide +kernel
theorem d_Model_rule_112 : decode b_Model_rule 112 = .ok (.iconst 2, 1) := by decide +kernel
theorem d_Model_rule_113 : decode b_Model_rule 113 = .ok (.istore_n 3, 1) := by decide +kernel
theorem d_Model_rule_114 : decode b_Model_rule 114 = .ok (.iload_n 3, 1) := by decide +kernel
theorem d_Model_rule_115 : decode b_Model_rule 115 = .ok (.iload_n 1, 1) := by decide +kernel
theorem d_Model_rule_116 : decode b_Model_rule 116 = .ok (.if_icmp .ge 53, 3) := by decide +kernel
theorem d_Model_rule_119 : decode b_Model_rule 119 = .ok (.aload_n 0, 1) := by decide +kernel
theorem d_Model_rule_120 : decode b_Model_rule 120 = .ok (.getfield 45, 3) := by decide +kernel
theorem d_Model_rule_123 : decode b_Model_rule 123 = .ok (.iload_n 3, 1) := by decide +kernel
theorem d_Model_rule_124 : decode b_Model_rule 124 = .ok (.iconst 2, 1) := by decide +kernel
theorem d_Model_rule_125 : decode b_Model_rule 125 = .ok (.isub, 1) := by decide +kernel
theorem d_Model_rule_126 : decode b_Model_rule 126 = .ok (.aload_n 0, 1) := by decide +kernel
theorem d_Model_rule_127 : decode b_Model_rule 127 = .ok (.getfield 7, 3) := by decide +kernel
theorem d_Model_rule_130 : decode b_Model_rule 130 = .ok (.iload_n 3, 1) := by decide +kernel
theorem d_Model_rule_131 : decode b_Model_rule 131 = .ok (.caload, 1) := by decide +kernel
theorem d_Model_rule_132 : decode b_Model_rule 132 = .ok (.invokestatic 83, 3) := by decide +kernel
theorem d_Model_rule_135 : decode b_Model_rule 135 = .ok (.ifCond .eq 15, 3) := by decide +kernel
theorem d_Model_rule_138 : decode b_Model_rule 138 = .ok (.aload_n 0, 1) := by decide +kernel
theorem d_Model_rule_139 : decode b_Model_rule 139 = .ok (.getfield 7, 3) := by decide +kernel
theorem d_Model_rule_142 : decode b_Model_rule 142 = .ok (.iload_n 3, 1) := by decide +kernel
theorem d_Model_rule_143 : decode b_Model_rule 143 = .ok (.caload, 1) := by decide +kernel
theorem d_Model_rule_144 : decode b_Model_rule 144 = .ok (.bipush 97, 2) := by decide +kernel
theorem d_Model_rule_146 : decode b_Model_rule 146 = .ok (.isub, 1) := by decide +kernel
theorem d_Model_rule_147 : decode b_Model_rule 147 = .ok (.goto 15, 3) := by decide +kernel
theorem d_Model_rule_150 : decode b_Model_rule 150 = .ok (.bipush 6, 2) := by decide +kernel
theorem d_Model_rule_152 : decode b_Model_rule 152 = .ok (.aload_n 0, 1) := by decide +kernel
theorem d_Model_rule_153 : decode b_Model_rule 153 = .ok (.getfield 7, 3) := by decide +kernel
theorem d_Model_rule_156 : decode b_Model_rule 156 = .ok (.iload_n 3, 1) := by decide +kernel
theorem d_Model_rule_157 : decode b_Model_rule 157 = .ok (.caload, 1) := by decide +kernel
theorem d_Model_rule_158 : decode b_Model_rule 158 = .ok (.iadd, 1) := by decide +kernel
theorem d_Model_rule_159 : decode b_Model_rule 159 = .ok (.bipush 65, 2) := by decide +kernel
theorem d_Model_rule_161 : decode b_Model_rule 161 = .ok (.isub, 1) := by decide +kernel
theorem d_Model_rule_162 : decode b_Model_rule 162 = .ok (.iastore, 1) := by decide +kernel
theorem d_Model_rule_163 : decode b_Model_rule 163 = .ok (.iinc 3 1, 3) := by decide +kernel
theorem d_Model_rule_166 : decode b_Model_rule 166 = .ok (.goto (-52), 3) := by decide +kernel
theorem d_Model_rule_169 : decode b_Model_rule 169 = .ok (.iconst 0, 1) := by decide +kernel
theorem d_Model_rule_170 : decode b_Model_rule 170 = .ok (.istore_n 3, 1) := by decide +kernel
theorem d_Model_rule_171 : decode b_Model_rule 171 = .ok (.iload_n 3, 1) := by decide +kernel
theorem d_Model_rule_172 : decode b_Model_rule 172 = .ok (.aload_n 0, 1) := by decide +kernel
theorem d_Model_rule_173 : decode b_Model_rule 173 = .ok (.getfield 90, 3) := by decide +kernel
theorem d_Model_rule_176 : decode b_Model_rule 176 = .ok (.if_icmp .ge 107, 3) := by decide +kernel
theorem d_Model_rule_179 : decode b_Model_rule 179 = .ok (.aload_n 0, 1) := by decide +kernel
theorem d_Model_rule_180 : decode b_Model_rule 180 = .ok (.getfield 13, 3) := by decide +kernel
theorem d_Model_rule_183 : decode b_Model_rule 183 = .ok (.iload_n 3, 1) := by decide +kernel
theorem d_Model_rule_184 : decode b_Model_rule 184 = .ok (.iaload, 1) := by decide +kernel
theorem d_Model_rule_185 : decode b_Model_rule 185 = .ok (.aload_n 0, 1) := by decide +kernel
theorem d_Model_rule_186 : decode b_Model_rule 186 = .ok (.getfield 7, 3) := by decide +kernel
theorem d_Model_rule_189 : decode b_Model_rule 189 = .ok (.iconst 0, 1) := by decide +kernel
theorem d_Model_rule_190 : decode b_Model_rule 190 = .ok (.caload, 1) := by decide +kernel
theorem d_Model_rule_191 : decode b_Model_rule 191 = .ok (.bipush 65, 2) := by decide +kernel
theorem d_Model_rule_193 : decode b_Model_rule 193 = .ok (.isub, 1) := by decide +kernel
theorem d_Model_rule_194 : decode b_Model_rule 194 = .ok (.if_icmp .ne 19, 3) := by decide +kernel
theorem d_Model_rule_197 : decode b_Model_rule 197 = .ok (.aload_n 0, 1) := by decide +kernel
theorem d_Model_rule_198 : decode b_Model_rule 198 = .ok (.getfield 17, 3) := by decide +kernel
theorem d_Model_rule_201 : decode b_Model_rule 201 = .ok (.iload_n 3, 1) := by decide +kernel
theorem d_Model_rule_202 : decode b_Model_rule 202 = .ok (.iaload, 1) := by decide +kernel
theorem d_Model_rule_203 : decode b_Model_rule 203 = .ok (.iload_n 1, 1) := by decide +kernel
theorem d_Model_rule_204 : decode b_Model_rule 204 = .ok (.iconst 2, 1) := by decide +kernel
theorem d_Model_rule_205 : decode b_Model_rule 205 = .ok (.isub, 1) := by decide +kernel
theorem d_Model_rule_206 : decode b_Model_rule 206 = .ok (.if_icmp .ne 7, 3) := by decide +kernel
theorem d_Model_rule_209 : decode b_Model_rule 209 = .ok (.iconst 1, 1) := by decide +kernel
theorem d_Model_rule_210 : decode b_Model_rule 210 = .ok (.goto 4, 3) := by decide +kernel
theorem d_Model_rule_213 : decode b_Model_rule 213 = .ok (.iconst 0, 1) := by decide +kernel
theorem d_Model_rule_214 : decode b_Model_rule 214 = .ok (.istore 4, 2) := by decide +kernel
theorem d_Model_rule_216 : decode b_Model_rule 216 = .ok (.iconst 0, 1) := by decide +kernel
theorem d_Model_rule_217 : decode b_Model_rule 217 = .ok (.istore 5, 2) := by decide +kernel
theorem d_Model_rule_219 : decode b_Model_rule 219 = .ok (.iload 5, 2) := by decide +kernel
theorem d_Model_rule_221 : decode b_Model_rule 221 = .ok (.iload_n 1, 1) := by decide +kernel
theorem d_Model_rule_222 : decode b_Model_rule 222 = .ok (.iconst 2, 1) := by decide +kernel
theorem d_Model_rule_223 : decode b_Model_rule 223 = .ok (.isub, 1) := by decide +kernel
theorem d_Model_rule_224 : decode b_Model_rule 224 = .ok (.if_icmp .ge 42, 3) := by decide +kernel
theorem d_Model_rule_227 : decode b_Model_rule 227 = .ok (.iload 4, 2) := by decide +kernel
theorem d_Model_rule_229 : decode b_Model_rule 229 = .ok (.ifCond .eq 37, 3) := by decide +kernel
theorem d_Model_rule_232 : decode b_Model_rule 232 = .ok (.aload_n 0, 1) := by decide +kernel
theorem d_Model_rule_233 : decode b_Model_rule 233 = .ok (.getfield 20, 3) := by decide +kernel
theorem d_Model_rule_236 : decode b_Model_rule 236 = .ok (.iconst 4, 1) := by decide +kernel
theorem d_Model_rule_237 : decode b_Model_rule 237 = .ok (.iload_n 3, 1) := by decide +kernel
theorem d_Model_rule_238 : decode b_Model_rule 238 = .ok (.imul, 1) := by decide +kernel
theorem d_Model_rule_239 : decode b_Model_rule 239 = .ok (.iload 5, 2) := by decide +kernel
theorem d_Model_rule_241 : decode b_Model_rule 241 = .ok (.iadd, 1) := by decide +kernel
theorem d_Model_rule_242 : decode b_Model_rule 242 = .ok (.iaload, 1) := by decide +kernel
theorem d_Model_rule_243 : decode b_Model_rule 243 = .ok (.aload_n 0, 1) := by decide +kernel
theorem d_Model_rule_244 : decode b_Model_rule 244 = .ok (.getfield 45, 3) := by decide +kernel
theorem d_Model_rule_247 : decode b_Model_rule 247 = .ok (.iload 5, 2) := by decide +kernel
theorem d_Model_rule_249 : decode b_Model_rule 249 = .ok (.iaload, 1) := by decide +kernel
theorem d_Model_rule_250 : decode b_Model_rule 250 = .ok (.if_icmp .ne 7, 3) := by decide +kernel
theorem d_Model_rule_253 : decode b_Model_rule 253 = .ok (.iconst 1, 1) := by decide +kernel
theorem d_Model_rule_254 : decode b_Model_rule 254 = .ok (.goto 4, 3) := by decide +kernel
theorem d_Model_rule_257 : decode b_Model_rule 257 = .ok (.iconst 0, 1) := by decide +kernel
theorem d_Model_rule_258 : decode b_Model_rule 258 = .ok (.istore 4, 2) := by decide +kernel
theorem d_Model_rule_260 : decode b_Model_rule 260 = .ok (.iinc 5 1, 3) := by decide +kernel
theorem d_Model_rule_263 : decode b_Model_rule 263 = .ok (.goto (-44), 3) := by decide +kernel
theorem d_Model_rule_266 : decode b_Model_rule 266 = .ok (.iload 4, 2) := by decide +kernel
theorem d_Model_rule_268 : decode b_Model_rule 268 = .ok (.ifCond .eq 9, 3) := by decide +kernel
theorem d_Model_rule_271 : decode b_Model_rule 271 = .ok (.aload_n 0, 1) := by decide +kernel
theorem d_Model_rule_272 : decode b_Model_rule 272 = .ok (.iconst 1, 1) := by decide +kernel
theorem d_Model_rule_273 : decode b_Model_rule 273 = .ok (.invokevirtual 86, 3) := by decide +kernel
theorem d_Model_rule_276 : decode b_Model_rule 276 = .ok (.ireturn, 1) := by decide +kernel
theorem d_Model_rule_277 : decode b_Model_rule 277 = .ok (.iinc 3 1, 3) := by decide +kernel
theorem d_Model_rule_280 : decode b_Model_rule 280 = .ok (.goto (-109), 3) := by decide +kernel
theorem d_Model_rule_283 : decode b_Model_rule 283 = .ok (.aload_n 0, 1) := by decide +kernel
theorem d_Model_rule_284 : decode b_Model_rule 284 = .ok (.getfield 90, 3) := by decide +kernel
theorem d_Model_rule_287 : decode b_Model_rule 287 = .ok (.bipush 10, 2) := by decide +kernel
theorem d_Model_rule_289 : decode b_Model_rule 289 = .ok (.if_icmp .ne 9, 3) := by decide +kernel
theorem d_Model_rule_292 : decode b_Model_rule 292 = .ok (.aload_n 0, 1) := by decide +kernel
theorem d_Model_rule_293 : decode b_Model_rule 293 = .ok (.iconst 2, 1) := by decide +kernel
theorem d_Model_rule_294 : decode b_Model_rule 294 = .ok (.invokevirtual 86, 3) := by decide +kernel
theorem d_Model_rule_297 : decode b_Model_rule 297 = .ok (.ireturn, 1) := by decide +kernel
theorem d_Model_rule_298 : decode b_Model_rule 298 = .ok (.aload_n 0, 1) := by decide +kernel
theorem d_Model_rule_299 : decode b_Model_rule 299 = .ok (.getfield 13, 3) := by decide +kernel
theorem d_Model_rule_302 : decode b_Model_rule 302 = .ok (.aload_n 0, 1) := by decide +kernel
theorem d_Model_rule_303 : decode b_Model_rule 303 = .ok (.getfield 90, 3) := by decide +kernel
theorem d_Model_rule_306 : decode b_Model_rule 306 = .ok (.aload_n 0, 1) := by decide +kernel
theorem d_Model_rule_307 : decode b_Model_rule 307 = .ok (.getfield 7, 3) := by decide +kernel
theorem d_Model_rule_310 : decode b_Model_rule 310 = .ok (.iconst 0, 1) := by decide +kernel
theorem d_Model_rule_311 : decode b_Model_rule 311 = .ok (.caload, 1) := by decide +kernel
theorem d_Model_rule_312 : decode b_Model_rule 312 = .ok (.bipush 65, 2) := by decide +kernel
theorem d_Model_rule_314 : decode b_Model_rule 314 = .ok (.isub, 1) := by decide +kernel
theorem d_Model_rule_315 : decode b_Model_rule 315 = .ok (.iastore, 1) := by decide +kernel
theorem d_Model_rule_316 : decode b_Model_rule 316 = .ok (.aload_n 0, 1) := by decide +kernel
theorem d_Model_rule_317 : decode b_Model_rule 317 = .ok (.getfield 17, 3) := by decide +kernel
theorem d_Model_rule_320 : decode b_Model_rule 320 = .ok (.aload_n 0, 1) := by decide +kernel
theorem d_Model_rule_321 : decode b_Model_rule 321 = .ok (.getfield 90, 3) := by decide +kernel
theorem d_Model_rule_324 : decode b_Model_rule 324 = .ok (.iload_n 1, 1) := by decide +kernel
theorem d_Model_rule_325 : decode b_Model_rule 325 = .ok (.iconst 2, 1) := by decide +kernel
theorem d_Model_rule_326 : decode b_Model_rule 326 = .ok (.isub, 1) := by decide +kernel
theorem d_Model_rule_327 : decode b_Model_rule 327 = .ok (.iastore, 1) := by decide +kernel
theorem d_Model_rule_328 : decode b_Model_rule 328 = .ok (.iconst 0, 1) := by decide +kernel
theorem d_Model_rule_329 : decode b_Model_rule 329 = .ok (.istore_n 3, 1) := by decide +kernel
theorem d_Model_rule_330 : decode b_Model_rule 330 = .ok (.iload_n 3, 1) := by decide +kernel
theorem d_Model_rule_331 : decode b_Model_rule 331 = .ok (.iload_n 1, 1) := by decide +kernel
theorem d_Model_rule_332 : decode b_Model_rule 332 = .ok (.iconst 2, 1) := by decide +kernel
theorem d_Model_rule_333 : decode b_Model_rule 333 = .ok (.isub, 1) := by decide +kernel
theorem d_Model_rule_334 : decode b_Model_rule 334 = .ok (.if_icmp .ge 28, 3) := by decide +kernel
theorem d_Model_rule_337 : decode b_Model_rule 337 = .ok (.aload_n 0, 1) := by decide +kernel
theorem d_Model_rule_338 : decode b_Model_rule 338 = .ok (.getfield 20, 3) := by decide +kernel
theorem d_Model_rule_341 : decode b_Model_rule 341 = .ok (.iconst 4, 1) := by decide +kernel
theorem d_Model_rule_342 : decode b_Model_rule 342 = .ok (.aload_n 0, 1) := by decide +kernel
theorem d_Model_rule_343 : decode b_Model_rule 343 = .ok (.getfield 90, 3) := by decide +kernel
theorem d_Model_rule_346 : decode b_Model_rule 346 = .ok (.imul, 1) := by decide +kernel
theorem d_Model_rule_347 : decode b_Model_rule 347 = .ok (.iload_n 3, 1) := by decide +kernel
theorem d_Model_rule_348 : decode b_Model_rule 348 = .ok (.iadd, 1) := by decide +kernel
theorem d_Model_rule_349 : decode b_Model_rule 349 = .ok (.aload_n 0, 1) := by decide +kernel
theorem d_Model_rule_350 : decode b_Model_rule 350 = .ok (.getfield 45, 3) := by decide +kernel
theorem d_Model_rule_353 : decode b_Model_rule 353 = .ok (.iload_n 3, 1) := by decide +kernel
theorem d_Model_rule_354 : decode b_Model_rule 354 = .ok (.iaload, 1) := by decide +kernel
theorem d_Model_rule_355 : decode b_Model_rule 355 = .ok (.iastore, 1) := by decide +kernel
theorem d_Model_rule_356 : decode b_Model_rule 356 = .ok (.iinc 3 1, 3) := by decide +kernel
theorem d_Model_rule_359 : decode b_Model_rule 359 = .ok (.goto (-29), 3) := by decide +kernel
theorem d_Model_rule_362 : decode b_Model_rule 362 = .ok (.aload_n 0, 1) := by decide +kernel
theorem d_Model_rule_363 : decode b_Model_rule 363 = .ok (.dup, 1) := by decide +kernel
theorem d_Model_rule_364 : decode b_Model_rule 364 = .ok (.getfield 90, 3) := by decide +kernel
theorem d_Model_rule_367 : decode b_Model_rule 367 = .ok (.iconst 1, 1) := by decide +kernel
theorem d_Model_rule_368 : decode b_Model_rule 368 = .ok (.iadd, 1) := by decide +kernel
theorem d_Model_rule_369 : decode b_Model_rule 369 = .ok (.putfield 90, 3) := by decide +kernel
theorem d_Model_rule_372 : decode b_Model_rule 372 = .ok (.aload_n 0, 1) := by decide +kernel
theorem d_Model_rule_373 : decode b_Model_rule 373 = .ok (.iconst 0, 1) := by decide +kernel
theorem d_Model_rule_374 : decode b_Model_rule 374 = .ok (.putfield 93, 3) := by decide +kernel
theorem d_Model_rule_377 : decode b_Model_rule 377 = .ok (.aload_n 0, 1) := by decide +kernel
theorem d_Model_rule_378 : decode b_Model_rule 378 = .ok (.invokevirtual 96, 3) := by decide +kernel
theorem d_Model_rule_381 : decode b_Model_rule 381 = .ok (.aload_n 0, 1) := by decide +kernel
theorem d_Model_rule_382 : decode b_Model_rule 382 = .ok (.getfield 90, 3) := by decide +kernel
theorem d_Model_rule_385 : decode b_Model_rule 385 = .ok (.iconst 1, 1) := by decide +kernel
theorem d_Model_rule_386 : decode b_Model_rule 386 = .ok (.isub, 1) := by decide +kernel
theorem d_Model_rule_387 : decode b_Model_rule 387 = .ok (.ireturn, 1) := by decide +kernel
theorem d_Model_prepare_0 : decode b_Model_prepare 0 = .ok (.iconst 0, 1) := by decide +kernel
theorem d_Model_prepare_1 : decode b_Model_prepare 1 = .ok (.istore_n 1, 1) := by decide +kernel
theorem d_Model_prepare_2 : decode b_Model_prepare 2 = .ok (.iload_n 1, 1) := by decide +kernel
theorem d_Model_prepare_3 : decode b_Model_prepare 3 = .ok (.bipush 6, 2) := by decide +kernel
theorem d_Model_prepare_5 : decode b_Model_prepare 5 = .ok (.if_icmp .ge 30, 3) := by decide +kernel
theorem d_Model_prepare_8 : decode b_Model_prepare 8 = .ok (.aload_n 0, 1) := by decide +kernel
theorem d_Model_prepare_9 : decode b_Model_prepare 9 = .ok (.getfield 27, 3) := by decide +kernel
theorem d_Model_prepare_12 : decode b_Model_prepare 12 = .ok (.iload_n 1, 1) := by decide +kernel
theorem d_Model_prepare_13 : decode b_Model_prepare 13 = .ok (.iconst 0, 1) := by decide +kernel
theorem d_Model_prepare_14 : decode b_Model_prepare 14 = .ok (.bastore, 1) := by decide +kernel
theorem d_Model_prepare_15 : decode b_Model_prepare 15 = .ok (.aload_n 0, 1) := by decide +kernel
theorem d_Model_prepare_16 : decode b_Model_prepare 16 = .ok (.getfield 30, 3) := by decide +kernel
theorem d_Model_prepare_19 : decode b_Model_prepare 19 = .ok (.iload_n 1, 1) := by decide +kernel
theorem d_Model_prepare_20 : decode b_Model_prepare 20 = .ok (.iconst 0, 1) := by decide +kernel
theorem d_Model_prepare_21 : decode b_Model_prepare 21 = .ok (.bastore, 1) := by decide +kernel
theorem d_Model_prepare_22 : decode b_Model_prepare 22 = .ok (.aload_n 0, 1) := by decide +kernel
theorem d_Model_prepare_23 : decode b_Model_prepare 23 = .ok (.getfield 33, 3) := by decide +kernel
theorem d_Model_prepare_26 : decode b_Model_prepare 26 = .ok (.iload_n 1, 1) := by decide +kernel
theorem d_Model_prepare_27 : decode b_Model_prepare 27 = .ok (.iconst 0, 1) := by decide +kernel
theorem d_Model_prepare_28 : decode b_Model_prepare 28 = .ok (.iastore, 1) := by decide +kernel
theorem d_Model_prepare_29 : decode b_Model_prepare 29 = .ok (.iinc 1 1, 3) := by decide +kernel
theorem d_Model_prepare_32 : decode b_Model_prepare 32 = .ok (.goto (-30), 3) := by decide +kernel
theorem d_Model_prepare_35 : decode b_Model_prepare 35 = .ok (.iconst 1, 1) := by decide +kernel
theorem d_Model_prepare_36 : decode b_Model_prepare 36 = .ok (.istore_n 1, 1) := by decide +kernel
theorem d_Model_prepare_37 : decode b_Model_prepare 37 = .ok (.iload_n 1, 1) := by decide +kernel
theorem d_Model_prepare_38 : decode b_Model_prepare 38 = .ok (.ifCond .eq 175, 3) := by decide +kernel
theorem d_Model_prepare_41 : decode b_Model_prepare 41 = .ok (.iconst 0, 1) := by decide +kernel
theorem d_Model_prepare_42 : decode b_Model_prepare 42 = .ok (.istore_n 1, 1) := by decide +kernel
theorem d_Model_prepare_43 : decode b_Model_prepare 43 = .ok (.iconst 0, 1) := by decide +kernel
theorem d_Model_prepare_44 : decode b_Model_prepare 44 = .ok (.istore_n 2, 1) := by decide +kernel
theorem d_Model_prepare_45 : decode b_Model_prepare 45 = .ok (.iload_n 2, 1) := by decide +kernel
theorem d_Model_prepare_46 : decode b_Model_prepare 46 = .ok (.aload_n 0, 1) := by decide +kernel
theorem d_Model_prepare_47 : decode b_Model_prepare 47 = .ok (.getfield 90, 3) := by decide +kernel
theorem d_Model_prepare_50 : decode b_Model_prepare 50 = .ok (.if_icmp .ge 160, 3) := by decide +kernel
theorem d_Model_prepare_53 : decode b_Model_prepare 53 = .ok (.aload_n 0, 1) := by decide +kernel
theorem d_Model_prepare_54 : decode b_Model_prepare 54 = .ok (.getfield 23, 3) := by decide +kernel
theorem d_Model_prepare_57 : decode b_Model_prepare 57 = .ok (.iload_n 2, 1) := by decide +kernel
theorem d_Model_prepare_58 : decode b_Model_prepare 58 = .ok (.iconst 1, 1) := by decide +kernel
theorem d_Model_prepare_59 : decode b_Model_prepare 59 = .ok (.bastore, 1) := by decide +kernel
theorem d_Model_prepare_60 : decode b_Model_prepare 60 = .ok (.iconst 4, 1) := by decide +kernel
theorem d_Model_prepare_61 : decode b_Model_prepare 61 = .ok (.iload_n 2, 1) := by decide +kernel
theorem d_Model_prepare_62 : decode b_Model_prepare 62 = .ok (.imul, 1) := by decide +kernel
theorem d_Model_prepare_63 : decode b_Model_prepare 63 = .ok (.istore_n 3, 1) := by decide +kernel
theorem d_Model_prepare_64 : decode b_Model_prepare 64 = .ok (.iload_n 3, 1) := by decide +kernel
theorem d_Model_prepare_65 : decode b_Model_prepare 65 = .ok (.iconst 4, 1) := by decide +kernel
theorem d_Model_prepare_66 : decode b_Model_prepare 66 = .ok (.iload_n 2, 1) := by decide +kernel
theorem d_Model_prepare_67 : decode b_Model_prepare 67 = .ok (.imul, 1) := by decide +kernel
theorem d_Model_prepare_68 : decode b_Model_prepare 68 = .ok (.aload_n 0, 1) := by decide +kernel
theorem d_Model_prepare_69 : decode b_Model_prepare 69 = .ok (.getfield 17, 3) := by decide +kernel
theorem d_Model_prepare_72 : decode b_Model_prepare 72 = .ok (.iload_n 2, 1) := by decide +kernel
theorem d_Model_prepare_73 : decode b_Model_prepare 73 = .ok (.iaload, 1) := by decide +kernel
theorem d_Model_prepare_74 : decode b_Model_prepare 74 = .ok (.iadd, 1) := by decide +kernel
theorem d_Model_prepare_75 : decode b_Model_prepare 75 = .ok (.if_icmp .ge 57, 3) := by decide +kernel
theorem d_Model_prepare_78 : decode b_Model_prepare 78 = .ok (.aload_n 0, 1) := by decide +kernel
theorem d_Model_prepare_79 : decode b_Model_prepare 79 = .ok (.getfield 23, 3) := by decide +kernel
theorem d_Model_prepare_82 : decode b_Model_prepare 82 = .ok (.iload_n 2, 1) := by decide +kernel
theorem d_Model_prepare_83 : decode b_Model_prepare 83 = .ok (.aload_n 0, 1) := by decide +kernel
theorem d_Model_prepare_84 : decode b_Model_prepare 84 = .ok (.getfield 23, 3) := by decide +kernel
theorem d_Model_prepare_87 : decode b_Model_prepare 87 = .ok (.iload_n 2, 1) := by decide +kernel
theorem d_Model_prepare_88 : decode b_Model_prepare 88 = .ok (.baload, 1) := by decide +kernel
theorem d_Model_prepare_89 : decode b_Model_prepare 89 = .ok (.ifCond .eq 35, 3) := by decide +kernel
theorem d_Model_prepare_92 : decode b_Model_prepare 92 = .ok (.aload_n 0, 1) := by decide +kernel
theorem d_Model_prepare_93 : decode b_Model_prepare 93 = .ok (.getfield 20, 3) := by decide +kernel
theorem d_Model_prepare_96 : decode b_Model_prepare 96 = .ok (.iload_n 3, 1) := by decide +kernel
theorem d_Model_prepare_97 : decode b_Model_prepare 97 = .ok (.iaload, 1) := by decide +kernel
theorem d_Model_prepare_98 : decode b_Model_prepare 98 = .ok (.bipush 6, 2) := by decide +kernel
theorem d_Model_prepare_100 : decode b_Model_prepare 100 = .ok (.if_icmp .lt 20, 3) := by decide +kernel
theorem d_Model_prepare_103 : decode b_Model_prepare 103 = .ok (.aload_n 0, 1) := by decide +kernel
theorem d_Model_prepare_104 : decode b_Model_prepare 104 = .ok (.getfield 27, 3) := by decide +kernel
theorem d_Model_prepare_107 : decode b_Model_prepare 107 = .ok (.aload_n 0, 1) := by decide +kernel
theorem d_Model_prepare_108 : decode b_Model_prepare 108 = .ok (.getfield 20, 3) := by decide +kernel
theorem d_Model_prepare_111 : decode b_Model_prepare 111 = .ok (.iload_n 3, 1) := by decide +kernel
theorem d_Model_prepare_112 : decode b_Model_prepare 112 = .ok (.iaload, 1) := by decide +kernel
theorem d_Model_prepare_113 : decode b_Model_prepare 113 = .ok (.bipush 6, 2) := by decide +kernel
theorem d_Model_prepare_115 : decode b_Model_prepare 115 = .ok (.isub, 1) := by decide +kernel
theorem d_Model_prepare_116 : decode b_Model_prepare 116 = .ok (.baload, 1) := by decide +kernel
theorem d_Model_prepare_117 : decode b_Model_prepare 117 = .ok (.ifCond .eq 7, 3) := by decide +kernel
theorem d_Model_prepare_120 : decode b_Model_prepare 120 = .ok (.iconst 1, 1) := by decide +kernel
theorem d_Model_prepare_121 : decode b_Model_prepare 121 = .ok (.goto 4, 3) := by decide +kernel
theorem d_Model_prepare_124 : decode b_Model_prepare 124 = .ok (.iconst 0, 1) := by decide +kernel
theorem d_Model_prepare_125 : decode b_Model_prepare 125 = .ok (.bastore, 1) := by decide +kernel
theorem d_Model_prepare_126 : decode b_Model_prepare 126 = .ok (.iinc 3 1, 3) := by decide +kernel
theorem d_Model_prepare_129 : decode b_Model_prepare 129 = .ok (.goto (-65), 3) := by decide +kernel
theorem d_Model_prepare_132 : decode b_Model_prepare 132 = .ok (.iload_n 1, 1) := by decide +kernel
theorem d_Model_prepare_133 : decode b_Model_prepare 133 = .ok (.ifCond .ne 26, 3) := by decide +kernel
theorem d_Model_prepare_136 : decode b_Model_prepare 136 = .ok (.aload_n 0, 1) := by decide +kernel
theorem d_Model_prepare_137 : decode b_Model_prepare 137 = .ok (.getfield 23, 3) := by decide +kernel
theorem d_Model_prepare_140 : decode b_Model_prepare 140 = .ok (.iload_n 2, 1) := by decide +kernel
theorem d_Model_prepare_141 : decode b_Model_prepare 141 = .ok (.baload, 1) := by decide +kernel
theorem d_Model_prepare_142 : decode b_Model_prepare 142 = .ok (.ifCond .eq 21, 3) := by decide +kernel
theorem d_Model_prepare_145 : decode b_Model_prepare 145 = .ok (.aload_n 0, 1) := by decide +kernel
theorem d_Model_prepare_146 : decode b_Model_prepare 146 = .ok (.getfield 27, 3) := by decide +kernel
theorem d_Model_prepare_149 : decode b_Model_prepare 149 = .ok (.aload_n 0, 1) := by decide +kernel
theorem d_Model_prepare_150 : decode b_Model_prepare 150 = .ok (.getfield 13, 3) := by decide +kernel
theorem d_Model_prepare_153 : decode b_Model_prepare 153 = .ok (.iload_n 2, 1) := by decide +kernel
theorem d_Model_prepare_154 : decode b_Model_prepare 154 = .ok (.iaload, 1) := by decide +kernel
theorem d_Model_prepare_155 : decode b_Model_prepare 155 = .ok (.baload, 1) := by decide +kernel
theorem d_Model_prepare_156 : decode b_Model_prepare 156 = .ok (.ifCond .ne 7, 3) := by decide +kernel
theorem d_Model_prepare_159 : decode b_Model_prepare 159 = .ok (.iconst 1, 1) := by decide +kernel
theorem d_Model_prepare_160 : decode b_Model_prepare 160 = .ok (.goto 4, 3) := by decide +kernel
theorem d_Model_prepare_163 : decode b_Model_prepare 163 = .ok (.iconst 0, 1) := by decide +kernel
theorem d_Model_prepare_164 : decode b_Model_prepare 164 = .ok (.istore_n 1, 1) := by decide +kernel
theorem d_Model_prepare_165 : decode b_Model_prepare 165 = .ok (.aload_n 0, 1) := by decide +kernel
theorem d_Model_prepare_166 : decode b_Model_prepare 166 = .ok (.getfield 27, 3) := by decide +kernel
theorem d_Model_prepare_169 : decode b_Model_prepare 169 = .ok (.aload_n 0, 1) := by decide +kernel
theorem d_Model_prepare_170 : decode b_Model_prepare 170 = .ok (.getfield 13, 3) := by decide +kernel
theorem d_Model_prepare_173 : decode b_Model_prepare 173 = .ok (.iload_n 2, 1) := by decide +kernel
theorem d_Model_prepare_174 : decode b_Model_prepare 174 = .ok (.iaload, 1) := by decide +kernel
theorem d_Model_prepare_175 : decode b_Model_prepare 175 = .ok (.aload_n 0, 1) := by decide +kernel
theorem d_Model_prepare_176 : decode b_Model_prepare 176 = .ok (.getfield 27, 3) := by decide +kernel
theorem d_Model_prepare_179 : decode b_Model_prepare 179 = .ok (.aload_n 0, 1) := by decide +kernel
theorem d_Model_prepare_180 : decode b_Model_prepare 180 = .ok (.getfield 13, 3) := by decide +kernel
theorem d_Model_prepare_183 : decode b_Model_prepare 183 = .ok (.iload_n 2, 1) := by decide +kernel
theorem d_Model_prepare_184 : decode b_Model_prepare 184 = .ok (.iaload, 1) := by decide +kernel
theorem d_Model_prepare_185 : decode b_Model_prepare 185 = .ok (.baload, 1) := by decide +kernel
theorem d_Model_prepare_186 : decode b_Model_prepare 186 = .ok (.ifCond .ne 12, 3) := by decide +kernel
theorem d_Model_prepare_189 : decode b_Model_prepare 189 = .ok (.aload_n 0, 1) := by decide +kernel
theorem d_Model_prepare_190 : decode b_Model_prepare 190 = .ok (.getfield 23, 3) := by decide +kernel
theorem d_Model_prepare_193 : decode b_Model_prepare 193 = .ok (.iload_n 2, 1) := by decide +kernel
theorem d_Model_prepare_194 : decode b_Model_prepare 194 = .ok (.baload, 1) := by decide +kernel
theorem d_Model_prepare_195 : decode b_Model_prepare 195 = .ok (.ifCond .eq 7, 3) := by decide +kernel
theorem d_Model_prepare_198 : decode b_Model_prepare 198 = .ok (.iconst 1, 1) := by decide +kernel
theorem d_Model_prepare_199 : decode b_Model_prepare 199 = .ok (.goto 4, 3) := by decide +kernel
theorem d_Model_prepare_202 : decode b_Model_prepare 202 = .ok (.iconst 0, 1) := by decide +kernel
theorem d_Model_prepare_203 : decode b_Model_prepare 203 = .ok (.bastore, 1) := by decide +kernel
theorem d_Model_prepare_204 : decode b_Model_prepare 204 = .ok (.iinc 2 1, 3) := by decide +kernel
theorem d_Model_prepare_207 : decode b_Model_prepare 207 = .ok (.goto (-162), 3) := by decide +kernel
theorem d_Model_prepare_210 : decode b_Model_prepare 210 = .ok (.goto (-173), 3) := by decide +kernel
theorem d_Model_prepare_213 : decode b_Model_prepare 213 = .ok (.iconst 1, 1) := by decide +kernel
theorem d_Model_prepare_214 : decode b_Model_prepare 214 = .ok (.istore_n 1, 1) := by decide +kernel
theorem d_Model_prepare_215 : decode b_Model_prepare 215 = .ok (.iload_n 1, 1) := by decide +kernel
theorem d_Model_prepare_216 : decode b_Model_prepare 216 = .ok (.ifCond .eq 165, 3) := by decide +kernel
theorem d_Model_prepare_219 : decode b_Model_prepare 219 = .ok (.iconst 0, 1) := by decide +kernel
theorem d_Model_prepare_220 : decode b_Model_prepare 220 = .ok (.istore_n 1, 1) := by decide +kernel
theorem d_Model_prepare_221 : decode b_Model_prepare 221 = .ok (.iconst 0, 1) := by decide +kernel
theorem d_Model_prepare_222 : decode b_Model_prepare 222 = .ok (.istore_n 2, 1) := by decide +kernel
theorem d_Model_prepare_223 : decode b_Model_prepare 223 = .ok (.iload_n 2, 1) := by decide +kernel
theorem d_Model_prepare_224 : decode b_Model_prepare 224 = .ok (.aload_n 0, 1) := by decide +kernel
theorem d_Model_prepare_225 : decode b_Model_prepare 225 = .ok (.getfield 90, 3) := by decide +kernel
theorem d_Model_prepare_228 : decode b_Model_prepare 228 = .ok (.if_icmp .ge 150, 3) := by decide +kernel
theorem d_Model_prepare_231 : decode b_Model_prepare 231 = .ok (.aload_n 0, 1) := by decide +kernel
theorem d_Model_prepare_232 : decode b_Model_prepare 232 = .ok (.getfield 23, 3) := by decide +kernel
theorem d_Model_prepare_235 : decode b_Model_prepare 235 = .ok (.iload_n 2, 1) := by decide +kernel
theorem d_Model_prepare_236 : decode b_Model_prepare 236 = .ok (.baload, 1) := by decide +kernel
theorem d_Model_prepare_237 : decode b_Model_prepare 237 = .ok (.ifCond .eq 13, 3) := by decide +kernel
theorem d_Model_prepare_240 : decode b_Model_prepare 240 = .ok (.aload_n 0, 1) := by decide +kernel
theorem d_Model_prepare_241 : decode b_Model_prepare 241 = .ok (.iload_n 2, 1) := by decide +kernel
theorem d_Model_prepare_242 : decode b_Model_prepare 242 = .ok (.iconst 0, 1) := by decide +kernel
theorem d_Model_prepare_243 : decode b_Model_prepare 243 = .ok (.iconst 0, 1) := by decide +kernel
theorem d_Model_prepare_244 : decode b_Model_prepare 244 = .ok (.invokevirtual 99, 3) := by decide +kernel
theorem d_Model_prepare_247 : decode b_Model_prepare 247 = .ok (.goto 4, 3) := by decide +kernel
theorem d_Model_prepare_250 : decode b_Model_prepare 250 = .ok (.iconst 0, 1) := by decide +kernel
theorem d_Model_prepare_251 : decode b_Model_prepare 251 = .ok (.istore_n 3, 1) := by decide +kernel
theorem d_Model_prepare_252 : decode b_Model_prepare 252 = .ok (.aload_n 0, 1) := by decide +kernel
theorem d_Model_prepare_253 : decode b_Model_prepare 253 = .ok (.getfield 23, 3) := by decide +kernel
theorem d_Model_prepare_256 : decode b_Model_prepare 256 = .ok (.iload_n 2, 1) := by decide +kernel
theorem d_Model_prepare_257 : decode b_Model_prepare 257 = .ok (.baload, 1) := by decide +kernel
theorem d_Model_prepare_258 : decode b_Model_prepare 258 = .ok (.ifCond .eq 16, 3) := by decide +kernel
theorem d_Model_prepare_261 : decode b_Model_prepare 261 = .ok (.aload_n 0, 1) := by decide +kernel
theorem d_Model_prepare_262 : decode b_Model_prepare 262 = .ok (.iload_n 2, 1) := by decide +kernel
theorem d_Model_prepare_263 : decode b_Model_prepare 263 = .ok (.iconst 0, 1) := by decide +kernel
theorem d_Model_prepare_264 : decode b_Model_prepare 264 = .ok (.invokevirtual 103, 3) := by decide +kernel
theorem d_Model_prepare_267 : decode b_Model_prepare 267 = .ok (.ifCond .eq 7, 3) := by decide +kernel
theorem d_Model_prepare_270 : decode b_Model_prepare 270 = .ok (.iconst 1, 1) := by decide +kernel
theorem d_Model_prepare_271 : decode b_Model_prepare 271 = .ok (.goto 4, 3) := by decide +kernel
theorem d_Model_prepare_274 : decode b_Model_prepare 274 = .ok (.iconst 0, 1) := by decide +kernel
theorem d_Model_prepare_275 : decode b_Model_prepare 275 = .ok (.istore 4, 2) := by decide +kernel
theorem d_Model_prepare_277 : decode b_Model_prepare 277 = .ok (.aload_n 0, 1) := by decide +kernel
theorem d_Model_prepare_278 : decode b_Model_prepare 278 = .ok (.getfield 13, 3) := by decide +kernel
theorem d_Model_prepare_281 : decode b_Model_prepare 281 = .ok (.iload_n 2, 1) := by decide +kernel
theorem d_Model_prepare_282 : decode b_Model_prepare 282 = .ok (.iaload, 1) := by decide +kernel
theorem d_Model_prepare_283 : decode b_Model_prepare 283 = .ok (.istore 5, 2) := by decide +kernel
theorem d_Model_prepare_285 : decode b_Model_prepare 285 = .ok (.iload_n 1, 1) := by decide +kernel
theorem d_Model_prepare_286 : decode b_Model_prepare 286 = .ok (.ifCond .ne 37, 3) := by decide +kernel
theorem d_Model_prepare_289 : decode b_Model_prepare 289 = .ok (.iload_n 3, 1) := by decide +kernel
theorem d_Model_prepare_290 : decode b_Model_prepare 290 = .ok (.aload_n 0, 1) := by decide +kernel
theorem d_Model_prepare_291 : decode b_Model_prepare 291 = .ok (.getfield 33, 3) := by decide +kernel
theorem d_Model_prepare_294 : decode b_Model_prepare 294 = .ok (.iload 5, 2) := by decide +kernel
theorem d_Model_prepare_296 : decode b_Model_prepare 296 = .ok (.iaload, 1) := by decide +kernel
theorem d_Model_prepare_297 : decode b_Model_prepare 297 = .ok (.ior, 1) := by decide +kernel
theorem d_Model_prepare_298 : decode b_Model_prepare 298 = .ok (.aload_n 0, 1) := by decide +kernel
theorem d_Model_prepare_299 : decode b_Model_prepare 299 = .ok (.getfield 33, 3) := by decide +kernel
theorem d_Model_prepare_302 : decode b_Model_prepare 302 = .ok (.iload 5, 2) := by decide +kernel
theorem d_Model_prepare_304 : decode b_Model_prepare 304 = .ok (.iaload, 1) := by decide +kernel
theorem d_Model_prepare_305 : decode b_Model_prepare 305 = .ok (.if_icmp .ne 18, 3) := by decide +kernel
theorem d_Model_prepare_308 : decode b_Model_prepare 308 = .ok (.iload 4, 2) := by decide +kernel
theorem d_Model_prepare_310 : decode b_Model_prepare 310 = .ok (.ifCond .eq 17, 3) := by decide +kernel
theorem d_Model_prepare_313 : decode b_Model_prepare 313 = .ok (.aload_n 0, 1) := by decide +kernel
theorem d_Model_prepare_314 : decode b_Model_prepare 314 = .ok (.getfield 30, 3) := by decide +kernel
theorem d_Model_prepare_317 : decode b_Model_prepare 317 = .ok (.iload 5, 2) := by decide +kernel
theorem d_Model_prepare_319 : decode b_Model_prepare 319 = .ok (.baload, 1) := by decide +kernel
theorem d_Model_prepare_320 : decode b_Model_prepare 320 = .ok (.ifCond .ne 7, 3) := by decide +kernel
theorem d_Model_prepare_323 : decode b_Model_prepare 323 = .ok (.iconst 1, 1) := by decide +kernel
theorem d_Model_prepare_324 : decode b_Model_prepare 324 = .ok (.goto 4, 3) := by decide +kernel
theorem d_Model_prepare_327 : decode b_Model_prepare 327 = .ok (.iconst 0, 1) := by decide +kernel
theorem d_Model_prepare_328 : decode b_Model_prepare 328 = .ok (.istore_n 1, 1) := by decide +kernel
theorem d_Model_prepare_329 : decode b_Model_prepare 329 = .ok (.aload_n 0, 1) := by decide +kernel
theorem d_Model_prepare_330 : decode b_Model_prepare 330 = .ok (.getfield 33, 3) := by decide +kernel
theorem d_Model_prepare_333 : decode b_Model_prepare 333 = .ok (.iload 5, 2) := by decide +kernel
theorem d_Model_prepare_335 : decode b_Model_prepare 335 = .ok (.aload_n 0, 1) := by decide +kernel
theorem d_Model_prepare_336 : decode b_Model_prepare 336 = .ok (.getfield 33, 3) := by decide +kernel
theorem d_Model_prepare_339 : decode b_Model_prepare 339 = .ok (.iload 5, 2) := by decide +kernel
theorem d_Model_prepare_341 : decode b_Model_prepare 341 = .ok (.iaload, 1) := by decide +kernel
theorem d_Model_prepare_342 : decode b_Model_prepare 342 = .ok (.iload_n 3, 1) := by decide +kernel
theorem d_Model_prepare_343 : decode b_Model_prepare 343 = .ok (.ior, 1) := by decide +kernel
theorem d_Model_prepare_344 : decode b_Model_prepare 344 = .ok (.iastore, 1) := by decide +kernel
theorem d_Model_prepare_345 : decode b_Model_prepare 345 = .ok (.aload_n 0, 1) := by decide +kernel
theorem d_Model_prepare_346 : decode b_Model_prepare 346 = .ok (.getfield 30, 3) := by decide +kernel
theorem d_Model_prepare_349 : decode b_Model_prepare 349 = .ok (.iload 5, 2) := by decide +kernel
theorem d_Model_prepare_351 : decode b_Model_prepare 351 = .ok (.aload_n 0, 1) := by decide +kernel
theorem d_Model_prepare_352 : decode b_Model_prepare 352 = .ok (.getfield 30, 3) := by decide +kernel
theorem d_Model_prepare_355 : decode b_Model_prepare 355 = .ok (.iload 5, 2) := by decide +kernel
theorem d_Model_prepare_357 : decode b_Model_prepare 357 = .ok (.baload, 1) := by decide +kernel
theorem d_Model_prepare_358 : decode b_Model_prepare 358 = .ok (.ifCond .ne 8, 3) := by decide +kernel
theorem d_Model_prepare_361 : decode b_Model_prepare 361 = .ok (.iload 4, 2) := by decide +kernel
theorem d_Model_prepare_363 : decode b_Model_prepare 363 = .ok (.ifCond .eq 7, 3) := by decide +kernel
theorem d_Model_prepare_366 : decode b_Model_prepare 366 = .ok (.iconst 1, 1) := by decide +kernel
theorem d_Model_prepare_367 : decode b_Model_prepare 367 = .ok (.goto 4, 3) := by decide +kernel
theorem d_Model_prepare_370 : decode b_Model_prepare 370 = .ok (.iconst 0, 1) := by decide +kernel
theorem d_Model_prepare_371 : decode b_Model_prepare 371 = .ok (.bastore, 1) := by decide +kernel
theorem d_Model_prepare_372 : decode b_Model_prepare 372 = .ok (.iinc 2 1, 3) := by decide +kernel
theorem d_Model_prepare_375 : decode b_Model_prepare 375 = .ok (.goto (-152), 3) := by decide +kernel
theorem d_Model_prepare_378 : decode b_Model_prepare 378 = .ok (.goto (-163), 3) := by decide +kernel
theorem d_Model_prepare_381 : decode b_Model_prepare 381 = .ok (.return_, 1) := by decide +kernel
theorem d_Model_isEmpty_0 : decode b_Model_isEmpty 0 = .ok (.iconst 1, 1) := by decide +kernel
theorem d_Model_isEmpty_1 : decode b_Model_isEmpty 1 = .ok (.istore_n 3, 1) := by decide +kernel
theorem d_Model_isEmpty_2 : decode b_Model_isEmpty 2 = .ok (.iconst 4, 1) := by decide +kernel
theorem d_Model_isEmpty_3 : decode b_Model_isEmpty 3 = .ok (.iload_n 1, 1) := by decide +kernel
theorem d_Model_isEmpty_4 : decode b_Model_isEmpty 4 = .ok (.imul, 1) := by decide +kernel
theorem d_Model_isEmpty_5 : decode b_Model_isEmpty 5 = .ok (.iload_n 2, 1) := by decide +kernel
theorem d_Model_isEmpty_6 : decode b_Model_isEmpty 6 = .ok (.iadd, 1) := by decide +kernel
theorem d_Model_isEmpty_7 : decode b_Model_isEmpty 7 = .ok (.istore 4, 2) := by decide +kernel
theorem d_Model_isEmpty_9 : decode b_Model_isEmpty 9 = .ok (.iload 4, 2) := by decide +kernel
theorem d_Model_isEmpty_11 : decode b_Model_isEmpty 11 = .ok (.iconst 4, 1) := by decide +kernel
theorem d_Model_isEmpty_12 : decode b_Model_isEmpty 12 = .ok (.iload_n 1, 1) := by decide +kernel
theorem d_Model_isEmpty_13 : decode b_Model_isEmpty 13 = .ok (.imul, 1) := by decide +kernel
theorem d_Model_isEmpty_14 : decode b_Model_isEmpty 14 = .ok (.aload_n 0, 1) := by decide +kernel
theorem d_Model_isEmpty_15 : decode b_Model_isEmpty 15 = .ok (.getfield 17, 3) := by decide +kernel
theorem d_Model_isEmpty_18 : decode b_Model_isEmpty 18 = .ok (.iload_n 1, 1) := by decide +kernel
theorem d_Model_isEmpty_19 : decode b_Model_isEmpty 19 = .ok (.iaload, 1) := by decide +kernel
theorem d_Model_isEmpty_20 : decode b_Model_isEmpty 20 = .ok (.iadd, 1) := by decide +kernel
theorem d_Model_isEmpty_21 : decode b_Model_isEmpty 21 = .ok (.if_icmp .ge 49, 3) := by decide +kernel
theorem d_Model_isEmpty_24 : decode b_Model_isEmpty 24 = .ok (.iload_n 3, 1) := by decide +kernel
theorem d_Model_isEmpty_25 : decode b_Model_isEmpty 25 = .ok (.ifCond .eq 37, 3) := by decide +kernel
theorem d_Model_isEmpty_28 : decode b_Model_isEmpty 28 = .ok (.aload_n 0, 1) := by decide +kernel
theorem d_Model_isEmpty_29 : decode b_Model_isEmpty 29 = .ok (.getfield 20, 3) := by decide +kernel
theorem d_Model_isEmpty_32 : decode b_Model_isEmpty 32 = .ok (.iload 4, 2) := by decide +kernel
theorem d_Model_isEmpty_34 : decode b_Model_isEmpty 34 = .ok (.iaload, 1) := by decide +kernel
theorem d_Model_isEmpty_35 : decode b_Model_isEmpty 35 = .ok (.bipush 6, 2) := by decide +kernel
theorem d_Model_isEmpty_37 : decode b_Model_isEmpty 37 = .ok (.if_icmp .lt 25, 3) := by decide +kernel
theorem d_Model_isEmpty_40 : decode b_Model_isEmpty 40 = .ok (.aload_n 0, 1) := by decide +kernel
theorem d_Model_isEmpty_41 : decode b_Model_isEmpty 41 = .ok (.getfield 30, 3) := by decide +kernel
theorem d_Model_isEmpty_44 : decode b_Model_isEmpty 44 = .ok (.aload_n 0, 1) := by decide +kernel
theorem d_Model_isEmpty_45 : decode b_Model_isEmpty 45 = .ok (.getfield 20, 3) := by decide +kernel
theorem d_Model_isEmpty_48 : decode b_Model_isEmpty 48 = .ok (.iload 4, 2) := by decide +kernel
theorem d_Model_isEmpty_50 : decode b_Model_isEmpty 50 = .ok (.iaload, 1) := by decide +kernel
theorem d_Model_isEmpty_51 : decode b_Model_isEmpty 51 = .ok (.bipush 6, 2) := by decide +kernel
theorem d_Model_isEmpty_53 : decode b_Model_isEmpty 53 = .ok (.isub, 1) := by decide +kernel
theorem d_Model_isEmpty_54 : decode b_Model_isEmpty 54 = .ok (.baload, 1) := by decide +kernel
theorem d_Model_isEmpty_55 : decode b_Model_isEmpty 55 = .ok (.ifCond .eq 7, 3) := by decide +kernel
theorem d_Model_isEmpty_58 : decode b_Model_isEmpty 58 = .ok (.iconst 1, 1) := by decide +kernel
theorem d_Model_isEmpty_59 : decode b_Model_isEmpty 59 = .ok (.goto 4, 3) := by decide +kernel
theorem d_Model_isEmpty_62 : decode b_Model_isEmpty 62 = .ok (.iconst 0, 1) := by decide +kernel
theorem d_Model_isEmpty_63 : decode b_Model_isEmpty 63 = .ok (.istore_n 3, 1) := by decide +kernel
theorem d_Model_isEmpty_64 : decode b_Model_isEmpty 64 = .ok (.iinc 4 1, 3) := by decide +kernel
theorem d_Model_isEmpty_67 : decode b_Model_isEmpty 67 = .ok (.goto (-58), 3) := by decide +kernel
theorem d_Model_isEmpty_70 : decode b_Model_isEmpty 70 = .ok (.iload_n 3, 1) := by decide +kernel
theorem d_Model_isEmpty_71 : decode b_Model_isEmpty 71 = .ok (.ireturn, 1) := by decide +kernel
theorem d_Model_begins_0 : decode b_Model_begins 0 = .ok (.iconst 0, 1) := by decide +kernel
theorem d_Model_begins_1 : decode b_Model_begins 1 = .ok (.istore 4, 2) := by decide +kernel
theorem d_Model_begins_3 : decode b_Model_begins 3 = .ok (.iconst 4, 1) := by decide +kernel
theorem d_Model_begins_4 : decode b_Model_begins 4 = .ok (.iload_n 1, 1) := by decide +kernel
theorem d_Model_begins_5 : decode b_Model_begins 5 = .ok (.imul, 1) := by decide +kernel
theorem d_Model_begins_6 : decode b_Model_begins 6 = .ok (.iload_n 2, 1) := by decide +kernel
theorem d_Model_begins_7 : decode b_Model_begins 7 = .ok (.iadd, 1) := by decide +kernel
theorem d_Model_begins_8 : decode b_Model_begins 8 = .ok (.istore 5, 2) := by decide +kernel
theorem d_Model_begins_10 : decode b_Model_begins 10 = .ok (.iload 5, 2) := by decide +kernel
theorem d_Model_begins_12 : decode b_Model_begins 12 = .ok (.iconst 4, 1) := by decide +kernel
theorem d_Model_begins_13 : decode b_Model_begins 13 = .ok (.iload_n 1, 1) := by decide +kernel
theorem d_Model_begins_14 : decode b_Model_begins 14 = .ok (.imul, 1) := by decide +kernel
theorem d_Model_begins_15 : decode b_Model_begins 15 = .ok (.aload_n 0, 1) := by decide +kernel
theorem d_Model_begins_16 : decode b_Model_begins 16 = .ok (.getfield 17, 3) := by decide +kernel
theorem d_Model_begins_19 : decode b_Model_begins 19 = .ok (.iload_n 1, 1) := by decide +kernel
theorem d_Model_begins_20 : decode b_Model_begins 20 = .ok (.iaload, 1) := by decide +kernel
theorem d_Model_begins_21 : decode b_Model_begins 21 = .ok (.iadd, 1) := by decide +kernel
theorem d_Model_begins_22 : decode b_Model_begins 22 = .ok (.if_icmp .ge 70, 3) := by decide +kernel
theorem d_Model_begins_25 : decode b_Model_begins 25 = .ok (.aload_n 0, 1) := by decide +kernel
theorem d_Model_begins_26 : decode b_Model_begins 26 = .ok (.getfield 20, 3) := by decide +kernel
theorem d_Model_begins_29 : decode b_Model_begins 29 = .ok (.iload 5, 2) := by decide +kernel
theorem d_Model_begins_31 : decode b_Model_begins 31 = .ok (.iaload, 1) := by decide +kernel
theorem d_Model_begins_32 : decode b_Model_begins 32 = .ok (.istore 6, 2) := by decide +kernel
theorem d_Model_begins_34 : decode b_Model_begins 34 = .ok (.iload 4, 2) := by decide +kernel
theorem d_Model_begins_36 : decode b_Model_begins 36 = .ok (.iload 6, 2) := by decide +kernel
theorem d_Model_begins_38 : decode b_Model_begins 38 = .ok (.bipush 6, 2) := by decide +kernel
theorem d_Model_begins_40 : decode b_Model_begins 40 = .ok (.if_icmp .ge 10, 3) := by decide +kernel
theorem d_Model_begins_43 : decode b_Model_begins 43 = .ok (.iconst 1, 1) := by decide +kernel
theorem d_Model_begins_44 : decode b_Model_begins 44 = .ok (.iload 6, 2) := by decide +kernel
theorem d_Model_begins_46 : decode b_Model_begins 46 = .ok (.ishl, 1) := by decide +kernel
theorem d_Model_begins_47 : decode b_Model_begins 47 = .ok (.goto 13, 3) := by decide +kernel
theorem d_Model_begins_50 : decode b_Model_begins 50 = .ok (.aload_n 0, 1) := by decide +kernel
theorem d_Model_begins_51 : decode b_Model_begins 51 = .ok (.getfield 33, 3) := by decide +kernel
theorem d_Model_begins_54 : decode b_Model_begins 54 = .ok (.iload 6, 2) := by decide +kernel
theorem d_Model_begins_56 : decode b_Model_begins 56 = .ok (.bipush 6, 2) := by decide +kernel
theorem d_Model_begins_58 : decode b_Model_begins 58 = .ok (.isub, 1) := by decide +kernel
theorem d_Model_begins_59 : decode b_Model_begins 59 = .ok (.iaload, 1) := by decide +kernel
theorem d_Model_begins_60 : decode b_Model_begins 60 = .ok (.ior, 1) := by decide +kernel
theorem d_Model_begins_61 : decode b_Model_begins 61 = .ok (.istore 4, 2) := by decide +kernel
theorem d_Model_begins_63 : decode b_Model_begins 63 = .ok (.iload 6, 2) := by decide +kernel
theorem d_Model_begins_65 : decode b_Model_begins 65 = .ok (.bipush 6, 2) := by decide +kernel
theorem d_Model_begins_67 : decode b_Model_begins 67 = .ok (.if_icmp .lt 16, 3) := by decide +kernel
theorem d_Model_begins_70 : decode b_Model_begins 70 = .ok (.aload_n 0, 1) := by decide +kernel
theorem d_Model_begins_71 : decode b_Model_begins 71 = .ok (.getfield 30, 3) := by decide +kernel
theorem d_Model_begins_74 : decode b_Model_begins 74 = .ok (.iload 6, 2) := by decide +kernel
theorem d_Model_begins_76 : decode b_Model_begins 76 = .ok (.bipush 6, 2) := by decide +kernel
theorem d_Model_begins_78 : decode b_Model_begins 78 = .ok (.isub, 1) := by decide +kernel
theorem d_Model_begins_79 : decode b_Model_begins 79 = .ok (.baload, 1) := by decide +kernel
theorem d_Model_begins_80 : decode b_Model_begins 80 = .ok (.ifCond .ne 6, 3) := by decide +kernel
theorem d_Model_begins_83 : decode b_Model_begins 83 = .ok (.iload 4, 2) := by decide +kernel
theorem d_Model_begins_85 : decode b_Model_begins 85 = .ok (.ireturn, 1) := by decide +kernel
theorem d_Model_begins_86 : decode b_Model_begins 86 = .ok (.iinc 5 1, 3) := by decide +kernel
theorem d_Model_begins_89 : decode b_Model_begins 89 = .ok (.goto (-79), 3) := by decide +kernel
theorem d_Model_begins_92 : decode b_Model_begins 92 = .ok (.iload 4, 2) := by decide +kernel
theorem d_Model_begins_94 : decode b_Model_begins 94 = .ok (.iload_n 3, 1) := by decide +kernel
theorem d_Model_begins_95 : decode b_Model_begins 95 = .ok (.ior, 1) := by decide +kernel
theorem d_Model_begins_96 : decode b_Model_begins 96 = .ok (.ireturn, 1) := by decide +kernel
theorem d_Model_symbol_0 : decode b_Model_symbol 0 = .ok (.iload_n 2, 1) := by decide +kernel
theorem d_Model_symbol_1 : decode b_Model_symbol 1 = .ok (.aload_n 0, 1) := by decide +kernel
theorem d_Model_symbol_2 : decode b_Model_symbol 2 = .ok (.getfield 17, 3) := by decide +kernel
theorem d_Model_symbol_5 : decode b_Model_symbol 5 = .ok (.iload_n 1, 1) := by decide +kernel
theorem d_Model_symbol_6 : decode b_Model_symbol 6 = .ok (.iaload, 1) := by decide +kernel
theorem d_Model_symbol_7 : decode b_Model_symbol 7 = .ok (.if_icmp .ge 16, 3) := by decide +kernel
theorem d_Model_symbol_10 : decode b_Model_symbol 10 = .ok (.aload_n 0, 1) := by decide +kernel
theorem d_Model_symbol_11 : decode b_Model_symbol 11 = .ok (.getfield 20, 3) := by decide +kernel
theorem d_Model_symbol_14 : decode b_Model_symbol 14 = .ok (.iconst 4, 1) := by decide +kernel
theorem d_Model_symbol_15 : decode b_Model_symbol 15 = .ok (.iload_n 1, 1) := by decide +kernel
theorem d_Model_symbol_16 : decode b_Model_symbol 16 = .ok (.imul, 1) := by decide +kernel
theorem d_Model_symbol_17 : decode b_Model_symbol 17 = .ok (.iload_n 2, 1) := by decide +kernel
theorem d_Model_symbol_18 : decode b_Model_symbol 18 = .ok (.iadd, 1) := by decide +kernel
theorem d_Model_symbol_19 : decode b_Model_symbol 19 = .ok (.iaload, 1) := by decide +kernel
theorem d_Model_symbol_20 : decode b_Model_symbol 20 = .ok (.goto 4, 3) := by decide +kernel
theorem d_Model_symbol_23 : decode b_Model_symbol 23 = .ok (.iconst (-1), 1) := by decide +kernel
theorem d_Model_symbol_24 : decode b_Model_symbol 24 = .ok (.ireturn, 1) := by decide +kernel
theorem d_Model_close_0 : decode b_Model_close 0 = .ok (.iconst 1, 1) := by decide +kernel
theorem d_Model_close_1 : decode b_Model_close 1 = .ok (.istore_n 2, 1) := by decide +kernel
theorem d_Model_close_2 : decode b_Model_close 2 = .ok (.iload_n 2, 1) := by decide +kernel
theorem d_Model_close_3 : decode b_Model_close 3 = .ok (.ifCond .eq 114, 3) := by decide +kernel
theorem d_Model_close_6 : decode b_Model_close 6 = .ok (.iconst 0, 1) := by decide +kernel
theorem d_Model_close_7 : decode b_Model_close 7 = .ok (.istore_n 2, 1) := by decide +kernel
theorem d_Model_close_8 : decode b_Model_close 8 = .ok (.iconst 0, 1) := by decide +kernel
theorem d_Model_close_9 : decode b_Model_close 9 = .ok (.istore_n 3, 1) := by decide +kernel
theorem d_Model_close_10 : decode b_Model_close 10 = .ok (.iload_n 3, 1) := by decide +kernel
theorem d_Model_close_11 : decode b_Model_close 11 = .ok (.bipush 11, 2) := by decide +kernel
theorem d_Model_close_13 : decode b_Model_close 13 = .ok (.if_icmp .ge 101, 3) := by decide +kernel
theorem d_Model_close_16 : decode b_Model_close 16 = .ok (.iconst 0, 1) := by decide +kernel
theorem d_Model_close_17 : decode b_Model_close 17 = .ok (.istore 4, 2) := by decide +kernel
theorem d_Model_close_19 : decode b_Model_close 19 = .ok (.iload 4, 2) := by decide +kernel
theorem d_Model_close_21 : decode b_Model_close 21 = .ok (.iconst 5, 1) := by decide +kernel
theorem d_Model_close_22 : decode b_Model_close 22 = .ok (.if_icmp .ge 86, 3) := by decide +kernel
theorem d_Model_close_25 : decode b_Model_close 25 = .ok (.aload_n 0, 1) := by decide +kernel
theorem d_Model_close_26 : decode b_Model_close 26 = .ok (.getfield 36, 3) := by decide +kernel
theorem d_Model_close_29 : decode b_Model_close 29 = .ok (.bipush 55, 2) := by decide +kernel
theorem d_Model_close_31 : decode b_Model_close 31 = .ok (.iload_n 1, 1) := by decide +kernel
theorem d_Model_close_32 : decode b_Model_close 32 = .ok (.imul, 1) := by decide +kernel
theorem d_Model_close_33 : decode b_Model_close 33 = .ok (.iconst 5, 1) := by decide +kernel
theorem d_Model_close_34 : decode b_Model_close 34 = .ok (.iload_n 3, 1) := by decide +kernel
theorem d_Model_close_35 : decode b_Model_close 35 = .ok (.imul, 1) := by decide +kernel
theorem d_Model_close_36 : decode b_Model_close 36 = .ok (.iadd, 1) := by decide +kernel
theorem d_Model_close_37 : decode b_Model_close 37 = .ok (.iload 4, 2) := by decide +kernel
theorem d_Model_close_39 : decode b_Model_close 39 = .ok (.iadd, 1) := by decide +kernel
theorem d_Model_close_40 : decode b_Model_close 40 = .ok (.iaload, 1) := by decide +kernel
theorem d_Model_close_41 : decode b_Model_close 41 = .ok (.istore 5, 2) := by decide +kernel
theorem d_Model_close_43 : decode b_Model_close 43 = .ok (.iload 5, 2) := by decide +kernel
theorem d_Model_close_45 : decode b_Model_close 45 = .ok (.ifCond .eq 13, 3) := by decide +kernel
theorem d_Model_close_48 : decode b_Model_close 48 = .ok (.aload_n 0, 1) := by decide +kernel
theorem d_Model_close_49 : decode b_Model_close 49 = .ok (.iload_n 3, 1) := by decide +kernel
theorem d_Model_close_50 : decode b_Model_close 50 = .ok (.iload 4, 2) := by decide +kernel
theorem d_Model_close_52 : decode b_Model_close 52 = .ok (.invokevirtual 107, 3) := by decide +kernel
theorem d_Model_close_55 : decode b_Model_close 55 = .ok (.goto 4, 3) := by decide +kernel
theorem d_Model_close_58 : decode b_Model_close 58 = .ok (.iconst (-1), 1) := by decide +kernel
theorem d_Model_close_59 : decode b_Model_close 59 = .ok (.istore 6, 2) := by decide +kernel
theorem d_Model_close_61 : decode b_Model_close 61 = .ok (.iload 6, 2) := by decide +kernel
theorem d_Model_close_63 : decode b_Model_close 63 = .ok (.bipush 6, 2) := by decide +kernel
theorem d_Model_close_65 : decode b_Model_close 65 = .ok (.if_icmp .lt 37, 3) := by decide +kernel
theorem d_Model_close_68 : decode b_Model_close 68 = .ok (.aload_n 0, 1) := by decide +kernel
theorem d_Model_close_69 : decode b_Model_close 69 = .ok (.iload_n 1, 1) := by decide +kernel
theorem d_Model_close_70 : decode b_Model_close 70 = .ok (.iload 6, 2) := by decide +kernel
theorem d_Model_close_72 : decode b_Model_close 72 = .ok (.bipush 6, 2) := by decide +kernel
theorem d_Model_close_74 : decode b_Model_close 74 = .ok (.isub, 1) := by decide +kernel
theorem d_Model_close_75 : decode b_Model_close 75 = .ok (.aload_n 0, 1) := by decide +kernel
theorem d_Model_close_76 : decode b_Model_close 76 = .ok (.iload_n 3, 1) := by decide +kernel
theorem d_Model_close_77 : decode b_Model_close 77 = .ok (.iload 4, 2) := by decide +kernel
theorem d_Model_close_79 : decode b_Model_close 79 = .ok (.iconst 1, 1) := by decide +kernel
theorem d_Model_close_80 : decode b_Model_close 80 = .ok (.iadd, 1) := by decide +kernel
theorem d_Model_close_81 : decode b_Model_close 81 = .ok (.iload 5, 2) := by decide +kernel
theorem d_Model_close_83 : decode b_Model_close 83 = .ok (.invokevirtual 99, 3) := by decide +kernel
theorem d_Model_close_86 : decode b_Model_close 86 = .ok (.invokevirtual 111, 3) := by decide +kernel
theorem d_Model_close_89 : decode b_Model_close 89 = .ok (.ifCond .ne 7, 3) := by decide +kernel
theorem d_Model_close_92 : decode b_Model_close 92 = .ok (.iload_n 2, 1) := by decide +kernel
theorem d_Model_close_93 : decode b_Model_close 93 = .ok (.ifCond .eq 7, 3) := by decide +kernel
theorem d_Model_close_96 : decode b_Model_close 96 = .ok (.iconst 1, 1) := by decide +kernel
theorem d_Model_close_97 : decode b_Model_close 97 = .ok (.goto 4, 3) := by decide +kernel
theorem d_Model_close_100 : decode b_Model_close 100 = .ok (.iconst 0, 1) := by decide +kernel
theorem d_Model_close_101 : decode b_Model_close 101 = .ok (.istore_n 2, 1) := by decide +kernel
theorem d_Model_close_102 : decode b_Model_close 102 = .ok (.iinc 4 1, 3) := by decide +kernel
theorem d_Model_close_105 : decode b_Model_close 105 = .ok (.goto (-86), 3) := by decide +kernel
theorem d_Model_close_108 : decode b_Model_close 108 = .ok (.iinc 3 1, 3) := by decide +kernel
theorem d_Model_close_111 : decode b_Model_close 111 = .ok (.goto (-101), 3) := by decide +kernel
theorem d_Model_close_114 : decode b_Model_close 114 = .ok (.goto (-112), 3) := by decide +kernel
theorem d_Model_close_117 : decode b_Model_close 117 = .ok (.return_, 1) := by decide +kernel
theorem d_Model_spread_0 : decode b_Model_spread 0 = .ok (.iconst 0, 1) := by decide +kernel
theorem d_Model_spread_1 : decode b_Model_spread 1 = .ok (.istore 4, 2) := by decide +kernel
theorem d_Model_spread_3 : decode b_Model_spread 3 = .ok (.iconst 0, 1) := by decide +kernel
theorem d_Model_spread_4 : decode b_Model_spread 4 = .ok (.istore 5, 2) := by decide +kernel
theorem d_Model_spread_6 : decode b_Model_spread 6 = .ok (.iload 5, 2) := by decide +kernel
theorem d_Model_spread_8 : decode b_Model_spread 8 = .ok (.aload_n 0, 1) := by decide +kernel
theorem d_Model_spread_9 : decode b_Model_spread 9 = .ok (.getfield 90, 3) := by decide +kernel
theorem d_Model_spread_12 : decode b_Model_spread 12 = .ok (.if_icmp .ge 88, 3) := by decide +kernel
theorem d_Model_spread_15 : decode b_Model_spread 15 = .ok (.bipush 55, 2) := by decide +kernel
theorem d_Model_spread_17 : decode b_Model_spread 17 = .ok (.iload_n 1, 1) := by decide +kernel
theorem d_Model_spread_18 : decode b_Model_spread 18 = .ok (.imul, 1) := by decide +kernel
theorem d_Model_spread_19 : decode b_Model_spread 19 = .ok (.iconst 5, 1) := by decide +kernel
theorem d_Model_spread_20 : decode b_Model_spread 20 = .ok (.iload 5, 2) := by decide +kernel
theorem d_Model_spread_22 : decode b_Model_spread 22 = .ok (.imul, 1) := by decide +kernel
theorem d_Model_spread_23 : decode b_Model_spread 23 = .ok (.iadd, 1) := by decide +kernel
theorem d_Model_spread_24 : decode b_Model_spread 24 = .ok (.istore 6, 2) := by decide +kernel
theorem d_Model_spread_26 : decode b_Model_spread 26 = .ok (.aload_n 0, 1) := by decide +kernel
theorem d_Model_spread_27 : decode b_Model_spread 27 = .ok (.getfield 23, 3) := by decide +kernel
theorem d_Model_spread_30 : decode b_Model_spread 30 = .ok (.iload 5, 2) := by decide +kernel
theorem d_Model_spread_32 : decode b_Model_spread 32 = .ok (.baload, 1) := by decide +kernel
theorem d_Model_spread_33 : decode b_Model_spread 33 = .ok (.ifCond .eq 61, 3) := by decide +kernel
theorem d_Model_spread_36 : decode b_Model_spread 36 = .ok (.aload_n 0, 1) := by decide +kernel
theorem d_Model_spread_37 : decode b_Model_spread 37 = .ok (.getfield 13, 3) := by decide +kernel
theorem d_Model_spread_40 : decode b_Model_spread 40 = .ok (.iload 5, 2) := by decide +kernel
theorem d_Model_spread_42 : decode b_Model_spread 42 = .ok (.iaload, 1) := by decide +kernel
theorem d_Model_spread_43 : decode b_Model_spread 43 = .ok (.iload_n 2, 1) := by decide +kernel
theorem d_Model_spread_44 : decode b_Model_spread 44 = .ok (.if_icmp .ne 50, 3) := by decide +kernel
theorem d_Model_spread_47 : decode b_Model_spread 47 = .ok (.iload 4, 2) := by decide +kernel
theorem d_Model_spread_49 : decode b_Model_spread 49 = .ok (.ifCond .ne 22, 3) := by decide +kernel
theorem d_Model_spread_52 : decode b_Model_spread 52 = .ok (.aload_n 0, 1) := by decide +kernel
theorem d_Model_spread_53 : decode b_Model_spread 53 = .ok (.getfield 36, 3) := by decide +kernel
theorem d_Model_spread_56 : decode b_Model_spread 56 = .ok (.iload 6, 2) := by decide +kernel
theorem d_Model_spread_58 : decode b_Model_spread 58 = .ok (.iaload, 1) := by decide +kernel
theorem d_Model_spread_59 : decode b_Model_spread 59 = .ok (.iload_n 3, 1) := by decide +kernel
theorem d_Model_spread_60 : decode b_Model_spread 60 = .ok (.ior, 1) := by decide +kernel
theorem d_Model_spread_61 : decode b_Model_spread 61 = .ok (.aload_n 0, 1) := by decide +kernel
theorem d_Model_spread_62 : decode b_Model_spread 62 = .ok (.getfield 36, 3) := by decide +kernel
theorem d_Model_spread_65 : decode b_Model_spread 65 = .ok (.iload 6, 2) := by decide +kernel
theorem d_Model_spread_67 : decode b_Model_spread 67 = .ok (.iaload, 1) := by decide +kernel
theorem d_Model_spread_68 : decode b_Model_spread 68 = .ok (.if_icmp .eq 7, 3) := by decide +kernel
theorem d_Model_spread_71 : decode b_Model_spread 71 = .ok (.iconst 1, 1) := by decide +kernel
theorem d_Model_spread_72 : decode b_Model_spread 72 = .ok (.goto 4, 3) := by decide +kernel
theorem d_Model_spread_75 : decode b_Model_spread 75 = .ok (.iconst 0, 1) := by decide +kernel
theorem d_Model_spread_76 : decode b_Model_spread 76 = .ok (.istore 4, 2) := by decide +kernel
theorem d_Model_spread_78 : decode b_Model_spread 78 = .ok (.aload_n 0, 1) := by decide +kernel
theorem d_Model_spread_79 : decode b_Model_spread 79 = .ok (.getfield 36, 3) := by decide +kernel
theorem d_Model_spread_82 : decode b_Model_spread 82 = .ok (.iload 6, 2) := by decide +kernel
theorem d_Model_spread_84 : decode b_Model_spread 84 = .ok (.aload_n 0, 1) := by decide +kernel
theorem d_Model_spread_85 : decode b_Model_spread 85 = .ok (.getfield 36, 3) := by decide +kernel
theorem d_Model_spread_88 : decode b_Model_spread 88 = .ok (.iload 6, 2) := by decide +kernel
theorem d_Model_spread_90 : decode b_Model_spread 90 = .ok (.iaload, 1) := by decide +kernel
theorem d_Model_spread_91 : decode b_Model_spread 91 = .ok (.iload_n 3, 1) := by decide +kernel
theorem d_Model_spread_92 : decode b_Model_spread 92 = .ok (.ior, 1) := by decide +kernel
theorem d_Model_spread_93 : decode b_Model_spread 93 = .ok (.iastore, 1) := by decide +kernel
theorem d_Model_spread_94 : decode b_Model_spread 94 = .ok (.iinc 5 1, 3) := by decide +kernel
theorem d_Model_spread_97 : decode b_Model_spread 97 = .ok (.goto (-91), 3) := by decide +kernel
theorem d_Model_spread_100 : decode b_Model_spread 100 = .ok (.iload 4, 2) := by decide +kernel
theorem d_Model_spread_102 : decode b_Model_spread 102 = .ok (.ireturn, 1) := by decide +kernel
theorem d_Model_led_0 : decode b_Model_led 0 = .ok (.iconst 0, 1) := by decide +kernel
theorem d_Model_led_1 : decode b_Model_led 1 = .ok (.istore_n 3, 1) := by decide +kernel
theorem d_Model_led_2 : decode b_Model_led 2 = .ok (.iconst 0, 1) := by decide +kernel
theorem d_Model_led_3 : decode b_Model_led 3 = .ok (.istore 4, 2) := by decide +kernel
theorem d_Model_led_5 : decode b_Model_led 5 = .ok (.iload 4, 2) := by decide +kernel
theorem d_Model_led_7 : decode b_Model_led 7 = .ok (.bipush 55, 2) := by decide +kernel
theorem d_Model_led_9 : decode b_Model_led 9 = .ok (.if_icmp .ge 25, 3) := by decide +kernel
theorem d_Model_led_12 : decode b_Model_led 12 = .ok (.aload_n 0, 1) := by decide +kernel
theorem d_Model_led_13 : decode b_Model_led 13 = .ok (.getfield 36, 3) := by decide +kernel
theorem d_Model_led_16 : decode b_Model_led 16 = .ok (.bipush 55, 2) := by decide +kernel
theorem d_Model_led_18 : decode b_Model_led 18 = .ok (.aload_n 0, 1) := by decide +kernel
theorem d_Model_led_19 : decode b_Model_led 19 = .ok (.getfield 115, 3) := by decide +kernel
theorem d_Model_led_22 : decode b_Model_led 22 = .ok (.imul, 1) := by decide +kernel
theorem d_Model_led_23 : decode b_Model_led 23 = .ok (.iload 4, 2) := by decide +kernel
theorem d_Model_led_25 : decode b_Model_led 25 = .ok (.iadd, 1) := by decide +kernel
theorem d_Model_led_26 : decode b_Model_led 26 = .ok (.iconst 0, 1) := by decide +kernel
theorem d_Model_led_27 : decode b_Model_led 27 = .ok (.iastore, 1) := by decide +kernel
theorem d_Model_led_28 : decode b_Model_led 28 = .ok (.iinc 4 1, 3) := by decide +kernel
theorem d_Model_led_31 : decode b_Model_led 31 = .ok (.goto (-26), 3) := by decide +kernel
theorem d_Model_led_34 : decode b_Model_led 34 = .ok (.iconst 0, 1) := by decide +kernel
theorem d_Model_led_35 : decode b_Model_led 35 = .ok (.istore 4, 2) := by decide +kernel
theorem d_Model_led_37 : decode b_Model_led 37 = .ok (.iload 4, 2) := by decide +kernel
theorem d_Model_led_39 : decode b_Model_led 39 = .ok (.bipush 11, 2) := by decide +kernel
theorem d_Model_led_41 : decode b_Model_led 41 = .ok (.if_icmp .ge 86, 3) := by decide +kernel
theorem d_Model_led_44 : decode b_Model_led 44 = .ok (.iconst 0, 1) := by decide +kernel
theorem d_Model_led_45 : decode b_Model_led 45 = .ok (.istore 5, 2) := by decide +kernel
theorem d_Model_led_47 : decode b_Model_led 47 = .ok (.iload 5, 2) := by decide +kernel
theorem d_Model_led_49 : decode b_Model_led 49 = .ok (.iconst 4, 1) := by decide +kernel
theorem d_Model_led_50 : decode b_Model_led 50 = .ok (.if_icmp .ge 71, 3) := by decide +kernel
theorem d_Model_led_53 : decode b_Model_led 53 = .ok (.aload_n 0, 1) := by decide +kernel
theorem d_Model_led_54 : decode b_Model_led 54 = .ok (.getfield 36, 3) := by decide +kernel
theorem d_Model_led_57 : decode b_Model_led 57 = .ok (.bipush 55, 2) := by decide +kernel
theorem d_Model_led_59 : decode b_Model_led 59 = .ok (.iload_n 1, 1) := by decide +kernel
theorem d_Model_led_60 : decode b_Model_led 60 = .ok (.imul, 1) := by decide +kernel
theorem d_Model_led_61 : decode b_Model_led 61 = .ok (.iconst 5, 1) := by decide +kernel
theorem d_Model_led_62 : decode b_Model_led 62 = .ok (.iload 4, 2) := by decide +kernel
theorem d_Model_led_64 : decode b_Model_led 64 = .ok (.imul, 1) := by decide +kernel
theorem d_Model_led_65 : decode b_Model_led 65 = .ok (.iadd, 1) := by decide +kernel
theorem d_Model_led_66 : decode b_Model_led 66 = .ok (.iload 5, 2) := by decide +kernel
theorem d_Model_led_68 : decode b_Model_led 68 = .ok (.iadd, 1) := by decide +kernel
theorem d_Model_led_69 : decode b_Model_led 69 = .ok (.iaload, 1) := by decide +kernel
theorem d_Model_led_70 : decode b_Model_led 70 = .ok (.istore 6, 2) := by decide +kernel
theorem d_Model_led_72 : decode b_Model_led 72 = .ok (.iload 6, 2) := by decide +kernel
theorem d_Model_led_74 : decode b_Model_led 74 = .ok (.ifCond .eq 41, 3) := by decide +kernel
theorem d_Model_led_77 : decode b_Model_led 77 = .ok (.aload_n 0, 1) := by decide +kernel
theorem d_Model_led_78 : decode b_Model_led 78 = .ok (.iload 4, 2) := by decide +kernel
theorem d_Model_led_80 : decode b_Model_led 80 = .ok (.iload 5, 2) := by decide +kernel
theorem d_Model_led_82 : decode b_Model_led 82 = .ok (.invokevirtual 107, 3) := by decide +kernel
theorem d_Model_led_85 : decode b_Model_led 85 = .ok (.iload_n 2, 1) := by decide +kernel
theorem d_Model_led_86 : decode b_Model_led 86 = .ok (.if_icmp .ne 29, 3) := by decide +kernel
theorem d_Model_led_89 : decode b_Model_led 89 = .ok (.aload_n 0, 1) := by decide +kernel
theorem d_Model_led_90 : decode b_Model_led 90 = .ok (.getfield 36, 3) := by decide +kernel
theorem d_Model_led_93 : decode b_Model_led 93 = .ok (.bipush 55, 2) := by decide +kernel
theorem d_Model_led_95 : decode b_Model_led 95 = .ok (.aload_n 0, 1) := by decide +kernel
theorem d_Model_led_96 : decode b_Model_led 96 = .ok (.getfield 115, 3) := by decide +kernel
theorem d_Model_led_99 : decode b_Model_led 99 = .ok (.imul, 1) := by decide +kernel
theorem d_Model_led_100 : decode b_Model_led 100 = .ok (.iconst 5, 1) := by decide +kernel
theorem d_Model_led_101 : decode b_Model_led 101 = .ok (.iload 4, 2) := by decide +kernel
theorem d_Model_led_103 : decode b_Model_led 103 = .ok (.imul, 1) := by decide +kernel
theorem d_Model_led_104 : decode b_Model_led 104 = .ok (.iadd, 1) := by decide +kernel
theorem d_Model_led_105 : decode b_Model_led 105 = .ok (.iload 5, 2) := by decide +kernel
theorem d_Model_led_107 : decode b_Model_led 107 = .ok (.iadd, 1) := by decide +kernel
theorem d_Model_led_108 : decode b_Model_led 108 = .ok (.iconst 1, 1) := by decide +kernel
theorem d_Model_led_109 : decode b_Model_led 109 = .ok (.iadd, 1) := by decide +kernel
theorem d_Model_led_110 : decode b_Model_led 110 = .ok (.iload 6, 2) := by decide +kernel
theorem d_Model_led_112 : decode b_Model_led 112 = .ok (.iastore, 1) := by decide +kernel
theorem d_Model_led_113 : decode b_Model_led 113 = .ok (.iconst 1, 1) := by decide +kernel
theorem d_Model_led_114 : decode b_Model_led 114 = .ok (.istore_n 3, 1) := by decide +kernel
theorem d_Model_led_115 : decode b_Model_led 115 = .ok (.iinc 5 1, 3) := by decide +kernel
theorem d_Model_led_118 : decode b_Model_led 118 = .ok (.goto (-71), 3) := by decide +kernel
theorem d_Model_led_121 : decode b_Model_led 121 = .ok (.iinc 4 1, 3) := by decide +kernel
theorem d_Model_led_124 : decode b_Model_led 124 = .ok (.goto (-87), 3) := by decide +kernel
theorem d_Model_led_127 : decode b_Model_led 127 = .ok (.iload_n 3, 1) := by decide +kernel
theorem d_Model_led_128 : decode b_Model_led 128 = .ok (.ifCond .ne 5, 3) := by decide +kernel
theorem d_Model_led_131 : decode b_Model_led 131 = .ok (.iconst (-1), 1) := by decide +kernel
theorem d_Model_led_132 : decode b_Model_led 132 = .ok (.ireturn, 1) := by decide +kernel
theorem d_Model_led_133 : decode b_Model_led 133 = .ok (.aload_n 0, 1) := by decide +kernel
theorem d_Model_led_134 : decode b_Model_led 134 = .ok (.aload_n 0, 1) := by decide +kernel
theorem d_Model_led_135 : decode b_Model_led 135 = .ok (.getfield 115, 3) := by decide +kernel
theorem d_Model_led_138 : decode b_Model_led 138 = .ok (.invokevirtual 118, 3) := by decide +kernel
theorem d_Model_led_141 : decode b_Model_led 141 = .ok (.iconst 0, 1) := by decide +kernel
theorem d_Model_led_142 : decode b_Model_led 142 = .ok (.istore 4, 2) := by decide +kernel
theorem d_Model_led_144 : decode b_Model_led 144 = .ok (.iload 4, 2) := by decide +kernel
theorem d_Model_led_146 : decode b_Model_led 146 = .ok (.aload_n 0, 1) := by decide +kernel
theorem d_Model_led_147 : decode b_Model_led 147 = .ok (.getfield 115, 3) := by decide +kernel
theorem d_Model_led_150 : decode b_Model_led 150 = .ok (.if_icmp .ge 79, 3) := by decide +kernel
theorem d_Model_led_153 : decode b_Model_led 153 = .ok (.iconst 1, 1) := by decide +kernel
theorem d_Model_led_154 : decode b_Model_led 154 = .ok (.istore 5, 2) := by decide +kernel
theorem d_Model_led_156 : decode b_Model_led 156 = .ok (.iconst 0, 1) := by decide +kernel
theorem d_Model_led_157 : decode b_Model_led 157 = .ok (.istore 6, 2) := by decide +kernel
theorem d_Model_led_159 : decode b_Model_led 159 = .ok (.iload 6, 2) := by decide +kernel
theorem d_Model_led_161 : decode b_Model_led 161 = .ok (.bipush 55, 2) := by decide +kernel
theorem d_Model_led_163 : decode b_Model_led 163 = .ok (.if_icmp .ge 52, 3) := by decide +kernel
theorem d_Model_led_166 : decode b_Model_led 166 = .ok (.iload 5, 2) := by decide +kernel
theorem d_Model_led_168 : decode b_Model_led 168 = .ok (.ifCond .eq 47, 3) := by decide +kernel
theorem d_Model_led_171 : decode b_Model_led 171 = .ok (.aload_n 0, 1) := by decide +kernel
theorem d_Model_led_172 : decode b_Model_led 172 = .ok (.getfield 36, 3) := by decide +kernel
theorem d_Model_led_175 : decode b_Model_led 175 = .ok (.bipush 55, 2) := by decide +kernel
theorem d_Model_led_177 : decode b_Model_led 177 = .ok (.iload 4, 2) := by decide +kernel
theorem d_Model_led_179 : decode b_Model_led 179 = .ok (.imul, 1) := by decide +kernel
theorem d_Model_led_180 : decode b_Model_led 180 = .ok (.iload 6, 2) := by decide +kernel
theorem d_Model_led_182 : decode b_Model_led 182 = .ok (.iadd, 1) := by decide +kernel
theorem d_Model_led_183 : decode b_Model_led 183 = .ok (.iaload, 1) := by decide +kernel
theorem d_Model_led_184 : decode b_Model_led 184 = .ok (.aload_n 0, 1) := by decide +kernel
theorem d_Model_led_185 : decode b_Model_led 185 = .ok (.getfield 36, 3) := by decide +kernel
theorem d_Model_led_188 : decode b_Model_led 188 = .ok (.bipush 55, 2) := by decide +kernel
theorem d_Model_led_190 : decode b_Model_led 190 = .ok (.aload_n 0, 1) := by decide +kernel
theorem d_Model_led_191 : decode b_Model_led 191 = .ok (.getfield 115, 3) := by decide +kernel
theorem d_Model_led_194 : decode b_Model_led 194 = .ok (.imul, 1) := by decide +kernel
theorem d_Model_led_195 : decode b_Model_led 195 = .ok (.iload 6, 2) := by decide +kernel
theorem d_Model_led_197 : decode b_Model_led 197 = .ok (.iadd, 1) := by decide +kernel
theorem d_Model_led_198 : decode b_Model_led 198 = .ok (.iaload, 1) := by decide +kernel
theorem d_Model_led_199 : decode b_Model_led 199 = .ok (.if_icmp .ne 7, 3) := by decide +kernel
theorem d_Model_led_202 : decode b_Model_led 202 = .ok (.iconst 1, 1) := by decide +kernel
theorem d_Model_led_203 : decode b_Model_led 203 = .ok (.goto 4, 3) := by decide +kernel
theorem d_Model_led_206 : decode b_Model_led 206 = .ok (.iconst 0, 1) := by decide +kernel
theorem d_Model_led_207 : decode b_Model_led 207 = .ok (.istore 5, 2) := by decide +kernel
theorem d_Model_led_209 : decode b_Model_led 209 = .ok (.iinc 6 1, 3) := by decide +kernel
theorem d_Model_led_212 : decode b_Model_led 212 = .ok (.goto (-53), 3) := by decide +kernel
theorem d_Model_led_215 : decode b_Model_led 215 = .ok (.iload 5, 2) := by decide +kernel
theorem d_Model_led_217 : decode b_Model_led 217 = .ok (.ifCond .eq 6, 3) := by decide +kernel
theorem d_Model_led_220 : decode b_Model_led 220 = .ok (.iload 4, 2) := by decide +kernel
theorem d_Model_led_222 : decode b_Model_led 222 = .ok (.ireturn, 1) := by decide +kernel
theorem d_Model_led_223 : decode b_Model_led 223 = .ok (.iinc 4 1, 3) := by decide +kernel
theorem d_Model_led_226 : decode b_Model_led 226 = .ok (.goto (-82), 3) := by decide +kernel
theorem d_Model_led_229 : decode b_Model_led 229 = .ok (.aload_n 0, 1) := by decide +kernel
theorem d_Model_led_230 : decode b_Model_led 230 = .ok (.dup, 1) := by decide +kernel
theorem d_Model_led_231 : decode b_Model_led 231 = .ok (.getfield 115, 3) := by decide +kernel
theorem d_Model_led_234 : decode b_Model_led 234 = .ok (.iconst 1, 1) := by decide +kernel
theorem d_Model_led_235 : decode b_Model_led 235 = .ok (.iadd, 1) := by decide +kernel
theorem d_Model_led_236 : decode b_Model_led 236 = .ok (.putfield 115, 3) := by decide +kernel
theorem d_Model_led_239 : decode b_Model_led 239 = .ok (.aload_n 0, 1) := by decide +kernel
theorem d_Model_led_240 : decode b_Model_led 240 = .ok (.getfield 115, 3) := by decide +kernel
theorem d_Model_led_243 : decode b_Model_led 243 = .ok (.iconst 1, 1) := by decide +kernel
theorem d_Model_led_244 : decode b_Model_led 244 = .ok (.isub, 1) := by decide +kernel
theorem d_Model_led_245 : decode b_Model_led 245 = .ok (.ireturn, 1) := by decide +kernel
theorem d_Model_isConflict_0 : decode b_Model_isConflict 0 = .ok (.iconst 0, 1) := by decide +kernel
theorem d_Model_isConflict_1 : decode b_Model_isConflict 1 = .ok (.istore_n 2, 1) := by decide +kernel
theorem d_Model_isConflict_2 : decode b_Model_isConflict 2 = .ok (.iload_n 2, 1) := by decide +kernel
theorem d_Model_isConflict_3 : decode b_Model_isConflict 3 = .ok (.bipush 11, 2) := by decide +kernel
theorem d_Model_isConflict_5 : decode b_Model_isConflict 5 = .ok (.if_icmp .ge 173, 3) := by decide +kernel
theorem d_Model_isConflict_8 : decode b_Model_isConflict 8 = .ok (.aload_n 0, 1) := by decide +kernel
theorem d_Model_isConflict_9 : decode b_Model_isConflict 9 = .ok (.getfield 36, 3) := by decide +kernel
theorem d_Model_isConflict_12 : decode b_Model_isConflict 12 = .ok (.bipush 55, 2) := by decide +kernel
theorem d_Model_isConflict_14 : decode b_Model_isConflict 14 = .ok (.iload_n 1, 1) := by decide +kernel
theorem d_Model_isConflict_15 : decode b_Model_isConflict 15 = .ok (.imul, 1) := by decide +kernel
theorem d_Model_isConflict_16 : decode b_Model_isConflict 16 = .ok (.iconst 5, 1) := by decide +kernel
theorem d_Model_isConflict_17 : decode b_Model_isConflict 17 = .ok (.iload_n 2, 1) := by decide +kernel
theorem d_Model_isConflict_18 : decode b_Model_isConflict 18 = .ok (.imul, 1) := by decide +kernel
theorem d_Model_isConflict_19 : decode b_Model_isConflict 19 = .ok (.iadd, 1) := by decide +kernel
theorem d_Model_isConflict_20 : decode b_Model_isConflict 20 = .ok (.aload_n 0, 1) := by decide +kernel
theorem d_Model_isConflict_21 : decode b_Model_isConflict 21 = .ok (.getfield 17, 3) := by decide +kernel
theorem d_Model_isConflict_24 : decode b_Model_isConflict 24 = .ok (.iload_n 2, 1) := by decide +kernel
theorem d_Model_isConflict_25 : decode b_Model_isConflict 25 = .ok (.iaload, 1) := by decide +kernel
theorem d_Model_isConflict_26 : decode b_Model_isConflict 26 = .ok (.iadd, 1) := by decide +kernel
theorem d_Model_isConflict_27 : decode b_Model_isConflict 27 = .ok (.iaload, 1) := by decide +kernel
theorem d_Model_isConflict_28 : decode b_Model_isConflict 28 = .ok (.istore_n 3, 1) := by decide +kernel
theorem d_Model_isConflict_29 : decode b_Model_isConflict 29 = .ok (.iconst 0, 1) := by decide +kernel
theorem d_Model_isConflict_30 : decode b_Model_isConflict 30 = .ok (.istore 4, 2) := by decide +kernel
theorem d_Model_isConflict_32 : decode b_Model_isConflict 32 = .ok (.iload 4, 2) := by decide +kernel
theorem d_Model_isConflict_34 : decode b_Model_isConflict 34 = .ok (.bipush 11, 2) := by decide +kernel
theorem d_Model_isConflict_36 : decode b_Model_isConflict 36 = .ok (.if_icmp .ge 136, 3) := by decide +kernel
theorem d_Model_isConflict_39 : decode b_Model_isConflict 39 = .ok (.iload_n 3, 1) := by decide +kernel
theorem d_Model_isConflict_40 : decode b_Model_isConflict 40 = .ok (.ifCond .eq 132, 3) := by decide +kernel
theorem d_Model_isConflict_43 : decode b_Model_isConflict 43 = .ok (.iconst 0, 1) := by decide +kernel
theorem d_Model_isConflict_44 : decode b_Model_isConflict 44 = .ok (.istore 5, 2) := by decide +kernel
theorem d_Model_isConflict_46 : decode b_Model_isConflict 46 = .ok (.iload 5, 2) := by decide +kernel
theorem d_Model_isConflict_48 : decode b_Model_isConflict 48 = .ok (.iconst 5, 1) := by decide +kernel
theorem d_Model_isConflict_49 : decode b_Model_isConflict 49 = .ok (.if_icmp .ge 117, 3) := by decide +kernel
theorem d_Model_isConflict_52 : decode b_Model_isConflict 52 = .ok (.iload 4, 2) := by decide +kernel
theorem d_Model_isConflict_54 : decode b_Model_isConflict 54 = .ok (.iload_n 2, 1) := by decide +kernel
theorem d_Model_isConflict_55 : decode b_Model_isConflict 55 = .ok (.if_icmp .ne 14, 3) := by decide +kernel
theorem d_Model_isConflict_58 : decode b_Model_isConflict 58 = .ok (.iload 5, 2) := by decide +kernel
theorem d_Model_isConflict_60 : decode b_Model_isConflict 60 = .ok (.aload_n 0, 1) := by decide +kernel
theorem d_Model_isConflict_61 : decode b_Model_isConflict 61 = .ok (.getfield 17, 3) := by decide +kernel
theorem d_Model_isConflict_64 : decode b_Model_isConflict 64 = .ok (.iload_n 2, 1) := by decide +kernel
theorem d_Model_isConflict_65 : decode b_Model_isConflict 65 = .ok (.iaload, 1) := by decide +kernel
theorem d_Model_isConflict_66 : decode b_Model_isConflict 66 = .ok (.if_icmp .eq 15, 3) := by decide +kernel
theorem d_Model_isConflict_69 : decode b_Model_isConflict 69 = .ok (.iload 5, 2) := by decide +kernel
theorem d_Model_isConflict_71 : decode b_Model_isConflict 71 = .ok (.aload_n 0, 1) := by decide +kernel
theorem d_Model_isConflict_72 : decode b_Model_isConflict 72 = .ok (.getfield 17, 3) := by decide +kernel
theorem d_Model_isConflict_75 : decode b_Model_isConflict 75 = .ok (.iload 4, 2) := by decide +kernel
theorem d_Model_isConflict_77 : decode b_Model_isConflict 77 = .ok (.iaload, 1) := by decide +kernel
theorem d_Model_isConflict_78 : decode b_Model_isConflict 78 = .ok (.if_icmp .le 7, 3) := by decide +kernel
theorem d_Model_isConflict_81 : decode b_Model_isConflict 81 = .ok (.iconst 0, 1) := by decide +kernel
theorem d_Model_isConflict_82 : decode b_Model_isConflict 82 = .ok (.goto 20, 3) := by decide +kernel
theorem d_Model_isConflict_85 : decode b_Model_isConflict 85 = .ok (.aload_n 0, 1) := by decide +kernel
theorem d_Model_isConflict_86 : decode b_Model_isConflict 86 = .ok (.getfield 36, 3) := by decide +kernel
theorem d_Model_isConflict_89 : decode b_Model_isConflict 89 = .ok (.bipush 55, 2) := by decide +kernel
theorem d_Model_isConflict_91 : decode b_Model_isConflict 91 = .ok (.iload_n 1, 1) := by decide +kernel
theorem d_Model_isConflict_92 : decode b_Model_isConflict 92 = .ok (.imul, 1) := by decide +kernel
theorem d_Model_isConflict_93 : decode b_Model_isConflict 93 = .ok (.iconst 5, 1) := by decide +kernel
theorem d_Model_isConflict_94 : decode b_Model_isConflict 94 = .ok (.iload 4, 2) := by decide +kernel
theorem d_Model_isConflict_96 : decode b_Model_isConflict 96 = .ok (.imul, 1) := by decide +kernel
theorem d_Model_isConflict_97 : decode b_Model_isConflict 97 = .ok (.iadd, 1) := by decide +kernel
theorem d_Model_isConflict_98 : decode b_Model_isConflict 98 = .ok (.iload 5, 2) := by decide +kernel
theorem d_Model_isConflict_100 : decode b_Model_isConflict 100 = .ok (.iadd, 1) := by decide +kernel
theorem d_Model_isConflict_101 : decode b_Model_isConflict 101 = .ok (.iaload, 1) := by decide +kernel
theorem d_Model_isConflict_102 : decode b_Model_isConflict 102 = .ok (.istore 6, 2) := by decide +kernel
theorem d_Model_isConflict_104 : decode b_Model_isConflict 104 = .ok (.aload_n 0, 1) := by decide +kernel
theorem d_Model_isConflict_105 : decode b_Model_isConflict 105 = .ok (.iload 4, 2) := by decide +kernel
theorem d_Model_isConflict_107 : decode b_Model_isConflict 107 = .ok (.iload 5, 2) := by decide +kernel
theorem d_Model_isConflict_109 : decode b_Model_isConflict 109 = .ok (.invokevirtual 107, 3) := by decide +kernel
theorem d_Model_isConflict_112 : decode b_Model_isConflict 112 = .ok (.istore 7, 2) := by decide +kernel
theorem d_Model_isConflict_114 : decode b_Model_isConflict 114 = .ok (.iload 6, 2) := by decide +kernel
theorem d_Model_isConflict_116 : decode b_Model_isConflict 116 = .ok (.ifCond .eq 44, 3) := by decide +kernel
theorem d_Model_isConflict_119 : decode b_Model_isConflict 119 = .ok (.iload 5, 2) := by decide +kernel
theorem d_Model_isConflict_121 : decode b_Model_isConflict 121 = .ok (.aload_n 0, 1) := by decide +kernel
theorem d_Model_isConflict_122 : decode b_Model_isConflict 122 = .ok (.getfield 17, 3) := by decide +kernel
theorem d_Model_isConflict_125 : decode b_Model_isConflict 125 = .ok (.iload 4, 2) := by decide +kernel
theorem d_Model_isConflict_127 : decode b_Model_isConflict 127 = .ok (.iaload, 1) := by decide +kernel
theorem d_Model_isConflict_128 : decode b_Model_isConflict 128 = .ok (.if_icmp .ne 13, 3) := by decide +kernel
theorem d_Model_isConflict_131 : decode b_Model_isConflict 131 = .ok (.iload 6, 2) := by decide +kernel
theorem d_Model_isConflict_133 : decode b_Model_isConflict 133 = .ok (.iload_n 3, 1) := by decide +kernel
theorem d_Model_isConflict_134 : decode b_Model_isConflict 134 = .ok (.iand, 1) := by decide +kernel
theorem d_Model_isConflict_135 : decode b_Model_isConflict 135 = .ok (.ifCond .eq 25, 3) := by decide +kernel
theorem d_Model_isConflict_138 : decode b_Model_isConflict 138 = .ok (.goto 20, 3) := by decide +kernel
theorem d_Model_isConflict_141 : decode b_Model_isConflict 141 = .ok (.iload 7, 2) := by decide +kernel
theorem d_Model_isConflict_143 : decode b_Model_isConflict 143 = .ok (.bipush 6, 2) := by decide +kernel
theorem d_Model_isConflict_145 : decode b_Model_isConflict 145 = .ok (.if_icmp .ge 15, 3) := by decide +kernel
theorem d_Model_isConflict_148 : decode b_Model_isConflict 148 = .ok (.iload_n 3, 1) := by decide +kernel
theorem d_Model_isConflict_149 : decode b_Model_isConflict 149 = .ok (.iload 7, 2) := by decide +kernel
theorem d_Model_isConflict_151 : decode b_Model_isConflict 151 = .ok (.ishr, 1) := by decide +kernel
theorem d_Model_isConflict_152 : decode b_Model_isConflict 152 = .ok (.iconst 1, 1) := by decide +kernel
theorem d_Model_isConflict_153 : decode b_Model_isConflict 153 = .ok (.iand, 1) := by decide +kernel
theorem d_Model_isConflict_154 : decode b_Model_isConflict 154 = .ok (.iconst 1, 1) := by decide +kernel
theorem d_Model_isConflict_155 : decode b_Model_isConflict 155 = .ok (.if_icmp .ne 5, 3) := by decide +kernel
theorem d_Model_isConflict_158 : decode b_Model_isConflict 158 = .ok (.iconst 1, 1) := by decide +kernel
theorem d_Model_isConflict_159 : decode b_Model_isConflict 159 = .ok (.ireturn, 1) := by decide +kernel
theorem d_Model_isConflict_160 : decode b_Model_isConflict 160 = .ok (.iinc 5 1, 3) := by decide +kernel
theorem d_Model_isConflict_163 : decode b_Model_isConflict 163 = .ok (.goto (-117), 3) := by decide +kernel
theorem d_Model_isConflict_166 : decode b_Model_isConflict 166 = .ok (.iinc 4 1, 3) := by decide +kernel
theorem d_Model_isConflict_169 : decode b_Model_isConflict 169 = .ok (.goto (-137), 3) := by decide +kernel
theorem d_Model_isConflict_172 : decode b_Model_isConflict 172 = .ok (.iinc 2 1, 3) := by decide +kernel
theorem d_Model_isConflict_175 : decode b_Model_isConflict 175 = .ok (.goto (-173), 3) := by decide +kernel
theorem d_Model_isConflict_178 : decode b_Model_isConflict 178 = .ok (.iconst 0, 1) := by decide +kernel
theorem d_Model_isConflict_179 : decode b_Model_isConflict 179 = .ok (.ireturn, 1) := by decide +kernel
theorem d_Model_compile_0 : decode b_Model_compile 0 = .ok (.aload_n 0, 1) := by decide +kernel
theorem d_Model_compile_1 : decode b_Model_compile 1 = .ok (.iconst 0, 1) := by decide +kernel
theorem d_Model_compile_2 : decode b_Model_compile 2 = .ok (.putfield 66, 3) := by decide +kernel
theorem d_Model_compile_5 : decode b_Model_compile 5 = .ok (.aload_n 0, 1) := by decide +kernel
theorem d_Model_compile_6 : decode b_Model_compile 6 = .ok (.iconst 0, 1) := by decide +kernel
theorem d_Model_compile_7 : decode b_Model_compile 7 = .ok (.putfield 93, 3) := by decide +kernel
theorem d_Model_compile_10 : decode b_Model_compile 10 = .ok (.aload_n 0, 1) := by decide +kernel
theorem d_Model_compile_11 : decode b_Model_compile 11 = .ok (.invokevirtual 96, 3) := by decide +kernel
theorem d_Model_compile_14 : decode b_Model_compile 14 = .ok (.aload_n 0, 1) := by decide +kernel
theorem d_Model_compile_15 : decode b_Model_compile 15 = .ok (.getfield 90, 3) := by decide +kernel
theorem d_Model_compile_18 : decode b_Model_compile 18 = .ok (.ifCond .ne 9, 3) := by decide +kernel
theorem d_Model_compile_21 : decode b_Model_compile 21 = .ok (.aload_n 0, 1) := by decide +kernel
theorem d_Model_compile_22 : decode b_Model_compile 22 = .ok (.iconst 1, 1) := by decide +kernel
theorem d_Model_compile_23 : decode b_Model_compile 23 = .ok (.invokevirtual 86, 3) := by decide +kernel
theorem d_Model_compile_26 : decode b_Model_compile 26 = .ok (.ireturn, 1) := by decide +kernel
theorem d_Model_compile_27 : decode b_Model_compile 27 = .ok (.aload_n 0, 1) := by decide +kernel
theorem d_Model_compile_28 : decode b_Model_compile 28 = .ok (.invokevirtual 122, 3) := by decide +kernel
theorem d_Model_compile_31 : decode b_Model_compile 31 = .ok (.aload_n 0, 1) := by decide +kernel
theorem d_Model_compile_32 : decode b_Model_compile 32 = .ok (.getfield 27, 3) := by decide +kernel
theorem d_Model_compile_35 : decode b_Model_compile 35 = .ok (.aload_n 0, 1) := by decide +kernel
theorem d_Model_compile_36 : decode b_Model_compile 36 = .ok (.getfield 13, 3) := by decide +kernel
theorem d_Model_compile_39 : decode b_Model_compile 39 = .ok (.iconst 0, 1) := by decide +kernel
theorem d_Model_compile_40 : decode b_Model_compile 40 = .ok (.iaload, 1) := by decide +kernel
theorem d_Model_compile_41 : decode b_Model_compile 41 = .ok (.baload, 1) := by decide +kernel
theorem d_Model_compile_42 : decode b_Model_compile 42 = .ok (.ifCond .ne 9, 3) := by decide +kernel
theorem d_Model_compile_45 : decode b_Model_compile 45 = .ok (.aload_n 0, 1) := by decide +kernel
theorem d_Model_compile_46 : decode b_Model_compile 46 = .ok (.iconst 2, 1) := by decide +kernel
theorem d_Model_compile_47 : decode b_Model_compile 47 = .ok (.invokevirtual 86, 3) := by decide +kernel
theorem d_Model_compile_50 : decode b_Model_compile 50 = .ok (.ireturn, 1) := by decide +kernel
theorem d_Model_compile_51 : decode b_Model_compile 51 = .ok (.aload_n 0, 1) := by decide +kernel
theorem d_Model_compile_52 : decode b_Model_compile 52 = .ok (.getfield 13, 3) := by decide +kernel
theorem d_Model_compile_55 : decode b_Model_compile 55 = .ok (.bipush 10, 2) := by decide +kernel
theorem d_Model_compile_57 : decode b_Model_compile 57 = .ok (.bipush 6, 2) := by decide +kernel
theorem d_Model_compile_59 : decode b_Model_compile 59 = .ok (.iastore, 1) := by decide +kernel
theorem d_Model_compile_60 : decode b_Model_compile 60 = .ok (.aload_n 0, 1) := by decide +kernel
theorem d_Model_compile_61 : decode b_Model_compile 61 = .ok (.getfield 17, 3) := by decide +kernel
theorem d_Model_compile_64 : decode b_Model_compile 64 = .ok (.bipush 10, 2) := by decide +kernel
theorem d_Model_compile_66 : decode b_Model_compile 66 = .ok (.iconst 1, 1) := by decide +kernel
theorem d_Model_compile_67 : decode b_Model_compile 67 = .ok (.iastore, 1) := by decide +kernel
theorem d_Model_compile_68 : decode b_Model_compile 68 = .ok (.aload_n 0, 1) := by decide +kernel
theorem d_Model_compile_69 : decode b_Model_compile 69 = .ok (.getfield 20, 3) := by decide +kernel
theorem d_Model_compile_72 : decode b_Model_compile 72 = .ok (.bipush 40, 2) := by decide +kernel
theorem d_Model_compile_74 : decode b_Model_compile 74 = .ok (.bipush 6, 2) := by decide +kernel
theorem d_Model_compile_76 : decode b_Model_compile 76 = .ok (.aload_n 0, 1) := by decide +kernel
theorem d_Model_compile_77 : decode b_Model_compile 77 = .ok (.getfield 13, 3) := by decide +kernel
theorem d_Model_compile_80 : decode b_Model_compile 80 = .ok (.iconst 0, 1) := by decide +kernel
theorem d_Model_compile_81 : decode b_Model_compile 81 = .ok (.iaload, 1) := by decide +kernel
theorem d_Model_compile_82 : decode b_Model_compile 82 = .ok (.iadd, 1) := by decide +kernel
theorem d_Model_compile_83 : decode b_Model_compile 83 = .ok (.iastore, 1) := by decide +kernel
theorem d_Model_compile_84 : decode b_Model_compile 84 = .ok (.aload_n 0, 1) := by decide +kernel
theorem d_Model_compile_85 : decode b_Model_compile 85 = .ok (.getfield 23, 3) := by decide +kernel
theorem d_Model_compile_88 : decode b_Model_compile 88 = .ok (.bipush 10, 2) := by decide +kernel
theorem d_Model_compile_90 : decode b_Model_compile 90 = .ok (.iconst 1, 1) := by decide +kernel
theorem d_Model_compile_91 : decode b_Model_compile 91 = .ok (.bastore, 1) := by decide +kernel
theorem d_Model_compile_92 : decode b_Model_compile 92 = .ok (.aload_n 0, 1) := by decide +kernel
theorem d_Model_compile_93 : decode b_Model_compile 93 = .ok (.getfield 90, 3) := by decide +kernel
theorem d_Model_compile_96 : decode b_Model_compile 96 = .ok (.istore_n 1, 1) := by decide +kernel
theorem d_Model_compile_97 : decode b_Model_compile 97 = .ok (.iload_n 1, 1) := by decide +kernel
theorem d_Model_compile_98 : decode b_Model_compile 98 = .ok (.bipush 10, 2) := by decide +kernel
theorem d_Model_compile_100 : decode b_Model_compile 100 = .ok (.if_icmp .ge 16, 3) := by decide +kernel
theorem d_Model_compile_103 : decode b_Model_compile 103 = .ok (.aload_n 0, 1) := by decide +kernel
theorem d_Model_compile_104 : decode b_Model_compile 104 = .ok (.getfield 17, 3) := by decide +kernel
theorem d_Model_compile_107 : decode b_Model_compile 107 = .ok (.iload_n 1, 1) := by decide +kernel
theorem d_Model_compile_108 : decode b_Model_compile 108 = .ok (.iconst 0, 1) := by decide +kernel
theorem d_Model_compile_109 : decode b_Model_compile 109 = .ok (.iastore, 1) := by decide +kernel
theorem d_Model_compile_110 : decode b_Model_compile 110 = .ok (.iinc 1 1, 3) := by decide +kernel
theorem d_Model_compile_113 : decode b_Model_compile 113 = .ok (.goto (-16), 3) := by decide +kernel
theorem d_Model_compile_116 : decode b_Model_compile 116 = .ok (.iconst 0, 1) := by decide +kernel
theorem d_Model_compile_117 : decode b_Model_compile 117 = .ok (.istore_n 1, 1) := by decide +kernel
theorem d_Model_compile_118 : decode b_Model_compile 118 = .ok (.iload_n 1, 1) := by decide +kernel
theorem d_Model_compile_119 : decode b_Model_compile 119 = .ok (.bipush 55, 2) := by decide +kernel
theorem d_Model_compile_121 : decode b_Model_compile 121 = .ok (.if_icmp .ge 16, 3) := by decide +kernel
theorem d_Model_compile_124 : decode b_Model_compile 124 = .ok (.aload_n 0, 1) := by decide +kernel
theorem d_Model_compile_125 : decode b_Model_compile 125 = .ok (.getfield 36, 3) := by decide +kernel
theorem d_Model_compile_128 : decode b_Model_compile 128 = .ok (.iload_n 1, 1) := by decide +kernel
theorem d_Model_compile_129 : decode b_Model_compile 129 = .ok (.iconst 0, 1) := by decide +kernel
theorem d_Model_compile_130 : decode b_Model_compile 130 = .ok (.iastore, 1) := by decide +kernel
theorem d_Model_compile_131 : decode b_Model_compile 131 = .ok (.iinc 1 1, 3) := by decide +kernel
theorem d_Model_compile_134 : decode b_Model_compile 134 = .ok (.goto (-16), 3) := by decide +kernel
theorem d_Model_compile_137 : decode b_Model_compile 137 = .ok (.aload_n 0, 1) := by decide +kernel
theorem d_Model_compile_138 : decode b_Model_compile 138 = .ok (.getfield 36, 3) := by decide +kernel
theorem d_Model_compile_141 : decode b_Model_compile 141 = .ok (.bipush 50, 2) := by decide +kernel
theorem d_Model_compile_143 : decode b_Model_compile 143 = .ok (.bipush 64, 2) := by decide +kernel
theorem d_Model_compile_145 : decode b_Model_compile 145 = .ok (.iastore, 1) := by decide +kernel
theorem d_Model_compile_146 : decode b_Model_compile 146 = .ok (.aload_n 0, 1) := by decide +kernel
theorem d_Model_compile_147 : decode b_Model_compile 147 = .ok (.iconst 0, 1) := by decide +kernel
theorem d_Model_compile_148 : decode b_Model_compile 148 = .ok (.invokevirtual 118, 3) := by decide +kernel
theorem d_Model_compile_151 : decode b_Model_compile 151 = .ok (.aload_n 0, 1) := by decide +kernel
theorem d_Model_compile_152 : decode b_Model_compile 152 = .ok (.iconst 1, 1) := by decide +kernel
theorem d_Model_compile_153 : decode b_Model_compile 153 = .ok (.putfield 115, 3) := by decide +kernel
theorem d_Model_compile_156 : decode b_Model_compile 156 = .ok (.iconst 0, 1) := by decide +kernel
theorem d_Model_compile_157 : decode b_Model_compile 157 = .ok (.istore_n 1, 1) := by decide +kernel
theorem d_Model_compile_158 : decode b_Model_compile 158 = .ok (.iload_n 1, 1) := by decide +kernel
theorem d_Model_compile_159 : decode b_Model_compile 159 = .ok (.aload_n 0, 1) := by decide +kernel
theorem d_Model_compile_160 : decode b_Model_compile 160 = .ok (.getfield 115, 3) := by decide +kernel
theorem d_Model_compile_163 : decode b_Model_compile 163 = .ok (.if_icmp .ge 60, 3) := by decide +kernel
theorem d_Model_compile_166 : decode b_Model_compile 166 = .ok (.aload_n 0, 1) := by decide +kernel
theorem d_Model_compile_167 : decode b_Model_compile 167 = .ok (.getfield 115, 3) := by decide +kernel
theorem d_Model_compile_170 : decode b_Model_compile 170 = .ok (.bipush 40, 2) := by decide +kernel
theorem d_Model_compile_172 : decode b_Model_compile 172 = .ok (.if_icmp .gt 51, 3) := by decide +kernel
theorem d_Model_compile_175 : decode b_Model_compile 175 = .ok (.iconst 0, 1) := by decide +kernel
theorem d_Model_compile_176 : decode b_Model_compile 176 = .ok (.istore_n 2, 1) := by decide +kernel
theorem d_Model_compile_177 : decode b_Model_compile 177 = .ok (.iload_n 2, 1) := by decide +kernel
theorem d_Model_compile_178 : decode b_Model_compile 178 = .ok (.bipush 12, 2) := by decide +kernel
theorem d_Model_compile_180 : decode b_Model_compile 180 = .ok (.if_icmp .ge 37, 3) := by decide +kernel
theorem d_Model_compile_183 : decode b_Model_compile 183 = .ok (.aload_n 0, 1) := by decide +kernel
theorem d_Model_compile_184 : decode b_Model_compile 184 = .ok (.getfield 115, 3) := by decide +kernel
theorem d_Model_compile_187 : decode b_Model_compile 187 = .ok (.bipush 40, 2) := by decide +kernel
theorem d_Model_compile_189 : decode b_Model_compile 189 = .ok (.if_icmp .gt 28, 3) := by decide +kernel
theorem d_Model_compile_192 : decode b_Model_compile 192 = .ok (.aload_n 0, 1) := by decide +kernel
theorem d_Model_compile_193 : decode b_Model_compile 193 = .ok (.iload_n 1, 1) := by decide +kernel
theorem d_Model_compile_194 : decode b_Model_compile 194 = .ok (.iload_n 2, 1) := by decide +kernel
theorem d_Model_compile_195 : decode b_Model_compile 195 = .ok (.invokevirtual 125, 3) := by decide +kernel
theorem d_Model_compile_198 : decode b_Model_compile 198 = .ok (.istore_n 3, 1) := by decide +kernel
theorem d_Model_compile_199 : decode b_Model_compile 199 = .ok (.aload_n 0, 1) := by decide +kernel
theorem d_Model_compile_200 : decode b_Model_compile 200 = .ok (.getfield 39, 3) := by decide +kernel
theorem d_Model_compile_203 : decode b_Model_compile 203 = .ok (.bipush 12, 2) := by decide +kernel
theorem d_Model_compile_205 : decode b_Model_compile 205 = .ok (.iload_n 1, 1) := by decide +kernel
theorem d_Model_compile_206 : decode b_Model_compile 206 = .ok (.imul, 1) := by decide +kernel
theorem d_Model_compile_207 : decode b_Model_compile 207 = .ok (.iload_n 2, 1) := by decide +kernel
theorem d_Model_compile_208 : decode b_Model_compile 208 = .ok (.iadd, 1) := by decide +kernel
theorem d_Model_compile_209 : decode b_Model_compile 209 = .ok (.iload_n 3, 1) := by decide +kernel
theorem d_Model_compile_210 : decode b_Model_compile 210 = .ok (.iastore, 1) := by decide +kernel
theorem d_Model_compile_211 : decode b_Model_compile 211 = .ok (.iinc 2 1, 3) := by decide +kernel
theorem d_Model_compile_214 : decode b_Model_compile 214 = .ok (.goto (-37), 3) := by decide +kernel
theorem d_Model_compile_217 : decode b_Model_compile 217 = .ok (.iinc 1 1, 3) := by decide +kernel
theorem d_Model_compile_220 : decode b_Model_compile 220 = .ok (.goto (-62), 3) := by decide +kernel
theorem d_Model_compile_223 : decode b_Model_compile 223 = .ok (.aload_n 0, 1) := by decide +kernel
theorem d_Model_compile_224 : decode b_Model_compile 224 = .ok (.getfield 115, 3) := by decide +kernel
theorem d_Model_compile_227 : decode b_Model_compile 227 = .ok (.bipush 40, 2) := by decide +kernel
theorem d_Model_compile_229 : decode b_Model_compile 229 = .ok (.if_icmp .le 7, 3) := by decide +kernel
theorem d_Model_compile_232 : decode b_Model_compile 232 = .ok (.iconst 1, 1) := by decide +kernel
theorem d_Model_compile_233 : decode b_Model_compile 233 = .ok (.goto 4, 3) := by decide +kernel
theorem d_Model_compile_236 : decode b_Model_compile 236 = .ok (.iconst 0, 1) := by decide +kernel
theorem d_Model_compile_237 : decode b_Model_compile 237 = .ok (.istore_n 1, 1) := by decide +kernel
theorem d_Model_compile_238 : decode b_Model_compile 238 = .ok (.iconst 0, 1) := by decide +kernel
theorem d_Model_compile_239 : decode b_Model_compile 239 = .ok (.istore_n 2, 1) := by decide +kernel
theorem d_Model_compile_240 : decode b_Model_compile 240 = .ok (.iload_n 2, 1) := by decide +kernel
theorem d_Model_compile_241 : decode b_Model_compile 241 = .ok (.aload_n 0, 1) := by decide +kernel
theorem d_Model_compile_242 : decode b_Model_compile 242 = .ok (.getfield 115, 3) := by decide +kernel
theorem d_Model_compile_245 : decode b_Model_compile 245 = .ok (.if_icmp .ge 19, 3) := by decide +kernel
theorem d_Model_compile_248 : decode b_Model_compile 248 = .ok (.iload_n 1, 1) := by decide +kernel
theorem d_Model_compile_249 : decode b_Model_compile 249 = .ok (.ifCond .ne 15, 3) := by decide +kernel
theorem d_Model_compile_252 : decode b_Model_compile 252 = .ok (.aload_n 0, 1) := by decide +kernel
theorem d_Model_compile_253 : decode b_Model_compile 253 = .ok (.iload_n 2, 1) := by decide +kernel
theorem d_Model_compile_254 : decode b_Model_compile 254 = .ok (.invokevirtual 128, 3) := by decide +kernel
theorem d_Model_compile_257 : decode b_Model_compile 257 = .ok (.istore_n 1, 1) := by decide +kernel
theorem d_Model_compile_258 : decode b_Model_compile 258 = .ok (.iinc 2 1, 3) := by decide +kernel
theorem d_Model_compile_261 : decode b_Model_compile 261 = .ok (.goto (-21), 3) := by decide +kernel
theorem d_Model_compile_264 : decode b_Model_compile 264 = .ok (.iload_n 1, 1) := by decide +kernel
theorem d_Model_compile_265 : decode b_Model_compile 265 = .ok (.ifCond .eq 9, 3) := by decide +kernel
theorem d_Model_compile_268 : decode b_Model_compile 268 = .ok (.aload_n 0, 1) := by decide +kernel
theorem d_Model_compile_269 : decode b_Model_compile 269 = .ok (.iconst 2, 1) := by decide +kernel
theorem d_Model_compile_270 : decode b_Model_compile 270 = .ok (.invokevirtual 86, 3) := by decide +kernel
theorem d_Model_compile_273 : decode b_Model_compile 273 = .ok (.ireturn, 1) := by decide +kernel
theorem d_Model_compile_274 : decode b_Model_compile 274 = .ok (.aload_n 0, 1) := by decide +kernel
theorem d_Model_compile_275 : decode b_Model_compile 275 = .ok (.aload_n 0, 1) := by decide +kernel
theorem d_Model_compile_276 : decode b_Model_compile 276 = .ok (.getfield 115, 3) := by decide +kernel
theorem d_Model_compile_279 : decode b_Model_compile 279 = .ok (.putfield 93, 3) := by decide +kernel
theorem d_Model_compile_282 : decode b_Model_compile 282 = .ok (.aload_n 0, 1) := by decide +kernel
theorem d_Model_compile_283 : decode b_Model_compile 283 = .ok (.getfield 93, 3) := by decide +kernel
theorem d_Model_compile_286 : decode b_Model_compile 286 = .ok (.ireturn, 1) := by decide +kernel
theorem d_Model_ended_0 : decode b_Model_ended 0 = .ok (.iconst 0, 1) := by decide +kernel
theorem d_Model_ended_1 : decode b_Model_ended 1 = .ok (.istore_n 3, 1) := by decide +kernel
theorem d_Model_ended_2 : decode b_Model_ended 2 = .ok (.iload_n 3, 1) := by decide +kernel
theorem d_Model_ended_3 : decode b_Model_ended 3 = .ok (.bipush 11, 2) := by decide +kernel
theorem d_Model_ended_5 : decode b_Model_ended 5 = .ok (.if_icmp .ge 39, 3) := by decide +kernel
theorem d_Model_ended_8 : decode b_Model_ended 8 = .ok (.aload_n 0, 1) := by decide +kernel
theorem d_Model_ended_9 : decode b_Model_ended 9 = .ok (.getfield 36, 3) := by decide +kernel
theorem d_Model_ended_12 : decode b_Model_ended 12 = .ok (.bipush 55, 2) := by decide +kernel
theorem d_Model_ended_14 : decode b_Model_ended 14 = .ok (.iload_n 1, 1) := by decide +kernel
theorem d_Model_ended_15 : decode b_Model_ended 15 = .ok (.imul, 1) := by decide +kernel
theorem d_Model_ended_16 : decode b_Model_ended 16 = .ok (.iconst 5, 1) := by decide +kernel
theorem d_Model_ended_17 : decode b_Model_ended 17 = .ok (.iload_n 3, 1) := by decide +kernel
theorem d_Model_ended_18 : decode b_Model_ended 18 = .ok (.imul, 1) := by decide +kernel
theorem d_Model_ended_19 : decode b_Model_ended 19 = .ok (.iadd, 1) := by decide +kernel
theorem d_Model_ended_20 : decode b_Model_ended 20 = .ok (.aload_n 0, 1) := by decide +kernel
theorem d_Model_ended_21 : decode b_Model_ended 21 = .ok (.getfield 17, 3) := by decide +kernel
theorem d_Model_ended_24 : decode b_Model_ended 24 = .ok (.iload_n 3, 1) := by decide +kernel
theorem d_Model_ended_25 : decode b_Model_ended 25 = .ok (.iaload, 1) := by decide +kernel
theorem d_Model_ended_26 : decode b_Model_ended 26 = .ok (.iadd, 1) := by decide +kernel
theorem d_Model_ended_27 : decode b_Model_ended 27 = .ok (.iaload, 1) := by decide +kernel
theorem d_Model_ended_28 : decode b_Model_ended 28 = .ok (.iload_n 2, 1) := by decide +kernel
theorem d_Model_ended_29 : decode b_Model_ended 29 = .ok (.ishr, 1) := by decide +kernel
theorem d_Model_ended_30 : decode b_Model_ended 30 = .ok (.iconst 1, 1) := by decide +kernel
theorem d_Model_ended_31 : decode b_Model_ended 31 = .ok (.iand, 1) := by decide +kernel
theorem d_Model_ended_32 : decode b_Model_ended 32 = .ok (.iconst 1, 1) := by decide +kernel
theorem d_Model_ended_33 : decode b_Model_ended 33 = .ok (.if_icmp .ne 5, 3) := by decide +kernel
theorem d_Model_ended_36 : decode b_Model_ended 36 = .ok (.iload_n 3, 1) := by decide +kernel
theorem d_Model_ended_37 : decode b_Model_ended 37 = .ok (.ireturn, 1) := by decide +kernel
theorem d_Model_ended_38 : decode b_Model_ended 38 = .ok (.iinc 3 1, 3) := by decide +kernel
theorem d_Model_ended_41 : decode b_Model_ended 41 = .ok (.goto (-39), 3) := by decide +kernel
theorem d_Model_ended_44 : decode b_Model_ended 44 = .ok (.iconst (-1), 1) := by decide +kernel
theorem d_Model_ended_45 : decode b_Model_ended 45 = .ok (.ireturn, 1) := by decide +kernel
theorem d_Model_wrongAt_0 : decode b_Model_wrongAt 0 = .ok (.iconst 0, 1) := by decide +kernel
theorem d_Model_wrongAt_1 : decode b_Model_wrongAt 1 = .ok (.istore_n 3, 1) := by decide +kernel
theorem d_Model_wrongAt_2 : decode b_Model_wrongAt 2 = .ok (.iconst 0, 1) := by decide +kernel
theorem d_Model_wrongAt_3 : decode b_Model_wrongAt 3 = .ok (.istore 4, 2) := by decide +kernel
theorem d_Model_wrongAt_5 : decode b_Model_wrongAt 5 = .ok (.aload_n 0, 1) := by decide +kernel
theorem d_Model_wrongAt_6 : decode b_Model_wrongAt 6 = .ok (.getfield 48, 3) := by decide +kernel
theorem d_Model_wrongAt_9 : decode b_Model_wrongAt 9 = .ok (.iconst 0, 1) := by decide +kernel
theorem d_Model_wrongAt_10 : decode b_Model_wrongAt 10 = .ok (.iconst 0, 1) := by decide +kernel
theorem d_Model_wrongAt_11 : decode b_Model_wrongAt 11 = .ok (.iastore, 1) := by decide +kernel
theorem d_Model_wrongAt_12 : decode b_Model_wrongAt 12 = .ok (.iload 4, 2) := by decide +kernel
theorem d_Model_wrongAt_14 : decode b_Model_wrongAt 14 = .ok (.iload_n 1, 1) := by decide +kernel
theorem d_Model_wrongAt_15 : decode b_Model_wrongAt 15 = .ok (.if_icmp .lt 7, 3) := by decide +kernel
theorem d_Model_wrongAt_18 : decode b_Model_wrongAt 18 = .ok (.iload_n 2, 1) := by decide +kernel
theorem d_Model_wrongAt_19 : decode b_Model_wrongAt 19 = .ok (.ifCond .eq 163, 3) := by decide +kernel
theorem d_Model_wrongAt_22 : decode b_Model_wrongAt 22 = .ok (.iload 4, 2) := by decide +kernel
theorem d_Model_wrongAt_24 : decode b_Model_wrongAt 24 = .ok (.iload_n 1, 1) := by decide +kernel
theorem d_Model_wrongAt_25 : decode b_Model_wrongAt 25 = .ok (.if_icmp .ge 13, 3) := by decide +kernel
theorem d_Model_wrongAt_28 : decode b_Model_wrongAt 28 = .ok (.aload_n 0, 1) := by decide +kernel
theorem d_Model_wrongAt_29 : decode b_Model_wrongAt 29 = .ok (.getfield 45, 3) := by decide +kernel
theorem d_Model_wrongAt_32 : decode b_Model_wrongAt 32 = .ok (.iload 4, 2) := by decide +kernel
theorem d_Model_wrongAt_34 : decode b_Model_wrongAt 34 = .ok (.iaload, 1) := by decide +kernel
theorem d_Model_wrongAt_35 : decode b_Model_wrongAt 35 = .ok (.goto 5, 3) := by decide +kernel
theorem d_Model_wrongAt_38 : decode b_Model_wrongAt 38 = .ok (.bipush 6, 2) := by decide +kernel
theorem d_Model_wrongAt_40 : decode b_Model_wrongAt 40 = .ok (.istore 5, 2) := by decide +kernel
theorem d_Model_wrongAt_42 : decode b_Model_wrongAt 42 = .ok (.aload_n 0, 1) := by decide +kernel
theorem d_Model_wrongAt_43 : decode b_Model_wrongAt 43 = .ok (.getfield 48, 3) := by decide +kernel
theorem d_Model_wrongAt_46 : decode b_Model_wrongAt 46 = .ok (.iload_n 3, 1) := by decide +kernel
theorem d_Model_wrongAt_47 : decode b_Model_wrongAt 47 = .ok (.iaload, 1) := by decide +kernel
theorem d_Model_wrongAt_48 : decode b_Model_wrongAt 48 = .ok (.istore 6, 2) := by decide +kernel
theorem d_Model_wrongAt_50 : decode b_Model_wrongAt 50 = .ok (.iload 5, 2) := by decide +kernel
theorem d_Model_wrongAt_52 : decode b_Model_wrongAt 52 = .ok (.bipush 6, 2) := by decide +kernel
theorem d_Model_wrongAt_54 : decode b_Model_wrongAt 54 = .ok (.if_icmp .ge 19, 3) := by decide +kernel
theorem d_Model_wrongAt_57 : decode b_Model_wrongAt 57 = .ok (.aload_n 0, 1) := by decide +kernel
theorem d_Model_wrongAt_58 : decode b_Model_wrongAt 58 = .ok (.getfield 39, 3) := by decide +kernel
theorem d_Model_wrongAt_61 : decode b_Model_wrongAt 61 = .ok (.bipush 12, 2) := by decide +kernel
theorem d_Model_wrongAt_63 : decode b_Model_wrongAt 63 = .ok (.iload 6, 2) := by decide +kernel
theorem d_Model_wrongAt_65 : decode b_Model_wrongAt 65 = .ok (.imul, 1) := by decide +kernel
theorem d_Model_wrongAt_66 : decode b_Model_wrongAt 66 = .ok (.iload 5, 2) := by decide +kernel
theorem d_Model_wrongAt_68 : decode b_Model_wrongAt 68 = .ok (.iadd, 1) := by decide +kernel
theorem d_Model_wrongAt_69 : decode b_Model_wrongAt 69 = .ok (.iaload, 1) := by decide +kernel
theorem d_Model_wrongAt_70 : decode b_Model_wrongAt 70 = .ok (.goto 4, 3) := by decide +kernel
theorem d_Model_wrongAt_73 : decode b_Model_wrongAt 73 = .ok (.iconst (-1), 1) := by decide +kernel
theorem d_Model_wrongAt_74 : decode b_Model_wrongAt 74 = .ok (.istore 7, 2) := by decide +kernel
theorem d_Model_wrongAt_76 : decode b_Model_wrongAt 76 = .ok (.iload 7, 2) := by decide +kernel
theorem d_Model_wrongAt_78 : decode b_Model_wrongAt 78 = .ok (.ifCond .lt 7, 3) := by decide +kernel
theorem d_Model_wrongAt_81 : decode b_Model_wrongAt 81 = .ok (.iconst (-1), 1) := by decide +kernel
theorem d_Model_wrongAt_82 : decode b_Model_wrongAt 82 = .ok (.goto 11, 3) := by decide +kernel
theorem d_Model_wrongAt_85 : decode b_Model_wrongAt 85 = .ok (.aload_n 0, 1) := by decide +kernel
theorem d_Model_wrongAt_86 : decode b_Model_wrongAt 86 = .ok (.iload 6, 2) := by decide +kernel
theorem d_Model_wrongAt_88 : decode b_Model_wrongAt 88 = .ok (.iload 5, 2) := by decide +kernel
theorem d_Model_wrongAt_90 : decode b_Model_wrongAt 90 = .ok (.invokevirtual 132, 3) := by decide +kernel
theorem d_Model_wrongAt_93 : decode b_Model_wrongAt 93 = .ok (.istore 8, 2) := by decide +kernel
theorem d_Model_wrongAt_95 : decode b_Model_wrongAt 95 = .ok (.iload 7, 2) := by decide +kernel
theorem d_Model_wrongAt_97 : decode b_Model_wrongAt 97 = .ok (.ifCond .lt 20, 3) := by decide +kernel
theorem d_Model_wrongAt_100 : decode b_Model_wrongAt 100 = .ok (.iinc 3 1, 3) := by decide +kernel
theorem d_Model_wrongAt_103 : decode b_Model_wrongAt 103 = .ok (.aload_n 0, 1) := by decide +kernel
theorem d_Model_wrongAt_104 : decode b_Model_wrongAt 104 = .ok (.getfield 48, 3) := by decide +kernel
theorem d_Model_wrongAt_107 : decode b_Model_wrongAt 107 = .ok (.iload_n 3, 1) := by decide +kernel
theorem d_Model_wrongAt_108 : decode b_Model_wrongAt 108 = .ok (.iload 7, 2) := by decide +kernel
theorem d_Model_wrongAt_110 : decode b_Model_wrongAt 110 = .ok (.iastore, 1) := by decide +kernel
theorem d_Model_wrongAt_111 : decode b_Model_wrongAt 111 = .ok (.iinc 4 1, 3) := by decide +kernel
theorem d_Model_wrongAt_114 : decode b_Model_wrongAt 114 = .ok (.goto 65, 3) := by decide +kernel
theorem d_Model_wrongAt_117 : decode b_Model_wrongAt 117 = .ok (.iload 8, 2) := by decide +kernel
theorem d_Model_wrongAt_119 : decode b_Model_wrongAt 119 = .ok (.ifCond .ge 6, 3) := by decide +kernel
theorem d_Model_wrongAt_122 : decode b_Model_wrongAt 122 = .ok (.iload 4, 2) := by decide +kernel
theorem d_Model_wrongAt_124 : decode b_Model_wrongAt 124 = .ok (.ireturn, 1) := by decide +kernel
theorem d_Model_wrongAt_125 : decode b_Model_wrongAt 125 = .ok (.iload 8, 2) := by decide +kernel
theorem d_Model_wrongAt_127 : decode b_Model_wrongAt 127 = .ok (.bipush 10, 2) := by decide +kernel
theorem d_Model_wrongAt_129 : decode b_Model_wrongAt 129 = .ok (.if_icmp .ne 5, 3) := by decide +kernel
theorem d_Model_wrongAt_132 : decode b_Model_wrongAt 132 = .ok (.iconst (-1), 1) := by decide +kernel
theorem d_Model_wrongAt_133 : decode b_Model_wrongAt 133 = .ok (.ireturn, 1) := by decide +kernel
theorem d_Model_wrongAt_134 : decode b_Model_wrongAt 134 = .ok (.iload_n 3, 1) := by decide +kernel
theorem d_Model_wrongAt_135 : decode b_Model_wrongAt 135 = .ok (.aload_n 0, 1) := by decide +kernel
theorem d_Model_wrongAt_136 : decode b_Model_wrongAt 136 = .ok (.getfield 17, 3) := by decide +kernel
theorem d_Model_wrongAt_139 : decode b_Model_wrongAt 139 = .ok (.iload 8, 2) := by decide +kernel
theorem d_Model_wrongAt_141 : decode b_Model_wrongAt 141 = .ok (.iaload, 1) := by decide +kernel
theorem d_Model_wrongAt_142 : decode b_Model_wrongAt 142 = .ok (.isub, 1) := by decide +kernel
theorem d_Model_wrongAt_143 : decode b_Model_wrongAt 143 = .ok (.iconst 1, 1) := by decide +kernel
theorem d_Model_wrongAt_144 : decode b_Model_wrongAt 144 = .ok (.iadd, 1) := by decide +kernel
theorem d_Model_wrongAt_145 : decode b_Model_wrongAt 145 = .ok (.istore_n 3, 1) := by decide +kernel
theorem d_Model_wrongAt_146 : decode b_Model_wrongAt 146 = .ok (.aload_n 0, 1) := by decide +kernel
theorem d_Model_wrongAt_147 : decode b_Model_wrongAt 147 = .ok (.getfield 48, 3) := by decide +kernel
theorem d_Model_wrongAt_150 : decode b_Model_wrongAt 150 = .ok (.iload_n 3, 1) := by decide +kernel
theorem d_Model_wrongAt_151 : decode b_Model_wrongAt 151 = .ok (.aload_n 0, 1) := by decide +kernel
theorem d_Model_wrongAt_152 : decode b_Model_wrongAt 152 = .ok (.getfield 39, 3) := by decide +kernel
theorem d_Model_wrongAt_155 : decode b_Model_wrongAt 155 = .ok (.bipush 12, 2) := by decide +kernel
theorem d_Model_wrongAt_157 : decode b_Model_wrongAt 157 = .ok (.aload_n 0, 1) := by decide +kernel
theorem d_Model_wrongAt_158 : decode b_Model_wrongAt 158 = .ok (.getfield 48, 3) := by decide +kernel
theorem d_Model_wrongAt_161 : decode b_Model_wrongAt 161 = .ok (.iload_n 3, 1) := by decide +kernel
theorem d_Model_wrongAt_162 : decode b_Model_wrongAt 162 = .ok (.iconst 1, 1) := by decide +kernel
theorem d_Model_wrongAt_163 : decode b_Model_wrongAt 163 = .ok (.isub, 1) := by decide +kernel
theorem d_Model_wrongAt_164 : decode b_Model_wrongAt 164 = .ok (.iaload, 1) := by decide +kernel
theorem d_Model_wrongAt_165 : decode b_Model_wrongAt 165 = .ok (.imul, 1) := by decide +kernel
theorem d_Model_wrongAt_166 : decode b_Model_wrongAt 166 = .ok (.bipush 6, 2) := by decide +kernel
theorem d_Model_wrongAt_168 : decode b_Model_wrongAt 168 = .ok (.iadd, 1) := by decide +kernel
theorem d_Model_wrongAt_169 : decode b_Model_wrongAt 169 = .ok (.aload_n 0, 1) := by decide +kernel
theorem d_Model_wrongAt_170 : decode b_Model_wrongAt 170 = .ok (.getfield 13, 3) := by decide +kernel
theorem d_Model_wrongAt_173 : decode b_Model_wrongAt 173 = .ok (.iload 8, 2) := by decide +kernel
theorem d_Model_wrongAt_175 : decode b_Model_wrongAt 175 = .ok (.iaload, 1) := by decide +kernel
theorem d_Model_wrongAt_176 : decode b_Model_wrongAt 176 = .ok (.iadd, 1) := by decide +kernel
theorem d_Model_wrongAt_177 : decode b_Model_wrongAt 177 = .ok (.iaload, 1) := by decide +kernel
theorem d_Model_wrongAt_178 : decode b_Model_wrongAt 178 = .ok (.iastore, 1) := by decide +kernel
theorem d_Model_wrongAt_179 : decode b_Model_wrongAt 179 = .ok (.goto (-167), 3) := by decide +kernel
theorem d_Model_wrongAt_182 : decode b_Model_wrongAt 182 = .ok (.iload_n 1, 1) := by decide +kernel
theorem d_Model_wrongAt_183 : decode b_Model_wrongAt 183 = .ok (.ireturn, 1) := by decide +kernel
theorem d_Model_text_0 : decode b_Model_text 0 = .ok (.aload_n 0, 1) := by decide +kernel
theorem d_Model_text_1 : decode b_Model_text 1 = .ok (.iconst 0, 1) := by decide +kernel
theorem d_Model_text_2 : decode b_Model_text 2 = .ok (.putfield 66, 3) := by decide +kernel
theorem d_Model_text_5 : decode b_Model_text 5 = .ok (.aload_n 0, 1) := by decide +kernel
theorem d_Model_text_6 : decode b_Model_text 6 = .ok (.getfield 70, 3) := by decide +kernel
theorem d_Model_text_9 : decode b_Model_text 9 = .ok (.istore_n 1, 1) := by decide +kernel
theorem d_Model_text_10 : decode b_Model_text 10 = .ok (.aload_n 0, 1) := by decide +kernel
theorem d_Model_text_11 : decode b_Model_text 11 = .ok (.iconst 0, 1) := by decide +kernel
theorem d_Model_text_12 : decode b_Model_text 12 = .ok (.putfield 70, 3) := by decide +kernel
theorem d_Model_text_15 : decode b_Model_text 15 = .ok (.iload_n 1, 1) := by decide +kernel
theorem d_Model_text_16 : decode b_Model_text 16 = .ok (.bipush 8, 2) := by decide +kernel
theorem d_Model_text_18 : decode b_Model_text 18 = .ok (.if_icmp .gt 7, 3) := by decide +kernel
theorem d_Model_text_21 : decode b_Model_text 21 = .ok (.iconst 1, 1) := by decide +kernel
theorem d_Model_text_22 : decode b_Model_text 22 = .ok (.goto 4, 3) := by decide +kernel
theorem d_Model_text_25 : decode b_Model_text 25 = .ok (.iconst 0, 1) := by decide +kernel
theorem d_Model_text_26 : decode b_Model_text 26 = .ok (.istore_n 2, 1) := by decide +kernel
theorem d_Model_text_27 : decode b_Model_text 27 = .ok (.iconst 0, 1) := by decide +kernel
theorem d_Model_text_28 : decode b_Model_text 28 = .ok (.istore_n 3, 1) := by decide +kernel
theorem d_Model_text_29 : decode b_Model_text 29 = .ok (.iload_n 3, 1) := by decide +kernel
theorem d_Model_text_30 : decode b_Model_text 30 = .ok (.iload_n 1, 1) := by decide +kernel
theorem d_Model_text_31 : decode b_Model_text 31 = .ok (.if_icmp .ge 23, 3) := by decide +kernel
theorem d_Model_text_34 : decode b_Model_text 34 = .ok (.iload_n 2, 1) := by decide +kernel
theorem d_Model_text_35 : decode b_Model_text 35 = .ok (.ifCond .eq 19, 3) := by decide +kernel
theorem d_Model_text_38 : decode b_Model_text 38 = .ok (.aload_n 0, 1) := by decide +kernel
theorem d_Model_text_39 : decode b_Model_text 39 = .ok (.getfield 7, 3) := by decide +kernel
theorem d_Model_text_42 : decode b_Model_text 42 = .ok (.iload_n 3, 1) := by decide +kernel
theorem d_Model_text_43 : decode b_Model_text 43 = .ok (.caload, 1) := by decide +kernel
theorem d_Model_text_44 : decode b_Model_text 44 = .ok (.invokestatic 83, 3) := by decide +kernel
theorem d_Model_text_47 : decode b_Model_text 47 = .ok (.istore_n 2, 1) := by decide +kernel
theorem d_Model_text_48 : decode b_Model_text 48 = .ok (.iinc 3 1, 3) := by decide +kernel
theorem d_Model_text_51 : decode b_Model_text 51 = .ok (.goto (-22), 3) := by decide +kernel
theorem d_Model_text_54 : decode b_Model_text 54 = .ok (.iload_n 2, 1) := by decide +kernel
theorem d_Model_text_55 : decode b_Model_text 55 = .ok (.ifCond .ne 9, 3) := by decide +kernel
theorem d_Model_text_58 : decode b_Model_text 58 = .ok (.aload_n 0, 1) := by decide +kernel
theorem d_Model_text_59 : decode b_Model_text 59 = .ok (.iconst 1, 1) := by decide +kernel
theorem d_Model_text_60 : decode b_Model_text 60 = .ok (.invokevirtual 86, 3) := by decide +kernel
theorem d_Model_text_63 : decode b_Model_text 63 = .ok (.ireturn, 1) := by decide +kernel
theorem d_Model_text_64 : decode b_Model_text 64 = .ok (.aload_n 0, 1) := by decide +kernel
theorem d_Model_text_65 : decode b_Model_text 65 = .ok (.iload_n 1, 1) := by decide +kernel
theorem d_Model_text_66 : decode b_Model_text 66 = .ok (.putfield 135, 3) := by decide +kernel
theorem d_Model_text_69 : decode b_Model_text 69 = .ok (.iconst 0, 1) := by decide +kernel
theorem d_Model_text_70 : decode b_Model_text 70 = .ok (.istore_n 3, 1) := by decide +kernel
theorem d_Model_text_71 : decode b_Model_text 71 = .ok (.iload_n 3, 1) := by decide +kernel
theorem d_Model_text_72 : decode b_Model_text 72 = .ok (.iload_n 1, 1) := by decide +kernel
theorem d_Model_text_73 : decode b_Model_text 73 = .ok (.if_icmp .ge 24, 3) := by decide +kernel
theorem d_Model_text_76 : decode b_Model_text 76 = .ok (.aload_n 0, 1) := by decide +kernel
theorem d_Model_text_77 : decode b_Model_text 77 = .ok (.getfield 42, 3) := by decide +kernel
theorem d_Model_text_80 : decode b_Model_text 80 = .ok (.iload_n 3, 1) := by decide +kernel
theorem d_Model_text_81 : decode b_Model_text 81 = .ok (.aload_n 0, 1) := by decide +kernel
theorem d_Model_text_82 : decode b_Model_text 82 = .ok (.getfield 7, 3) := by decide +kernel
theorem d_Model_text_85 : decode b_Model_text 85 = .ok (.iload_n 3, 1) := by decide +kernel
theorem d_Model_text_86 : decode b_Model_text 86 = .ok (.caload, 1) := by decide +kernel
theorem d_Model_text_87 : decode b_Model_text 87 = .ok (.bipush 97, 2) := by decide +kernel
theorem d_Model_text_89 : decode b_Model_text 89 = .ok (.isub, 1) := by decide +kernel
theorem d_Model_text_90 : decode b_Model_text 90 = .ok (.iastore, 1) := by decide +kernel
theorem d_Model_text_91 : decode b_Model_text 91 = .ok (.iinc 3 1, 3) := by decide +kernel
theorem d_Model_text_94 : decode b_Model_text 94 = .ok (.goto (-23), 3) := by decide +kernel
theorem d_Model_text_97 : decode b_Model_text 97 = .ok (.aload_n 0, 1) := by decide +kernel
theorem d_Model_text_98 : decode b_Model_text 98 = .ok (.invokevirtual 96, 3) := by decide +kernel
theorem d_Model_text_101 : decode b_Model_text 101 = .ok (.iload_n 1, 1) := by decide +kernel
theorem d_Model_text_102 : decode b_Model_text 102 = .ok (.ireturn, 1) := by decide +kernel
theorem d_Model_cost_0 : decode b_Model_cost 0 = .ok (.aload_n 0, 1) := by decide +kernel
theorem d_Model_cost_1 : decode b_Model_cost 1 = .ok (.iconst 0, 1) := by decide +kernel
theorem d_Model_cost_2 : decode b_Model_cost 2 = .ok (.putfield 66, 3) := by decide +kernel
theorem d_Model_cost_5 : decode b_Model_cost 5 = .ok (.iload_n 1, 1) := by decide +kernel
theorem d_Model_cost_6 : decode b_Model_cost 6 = .ok (.ifCond .lt 18, 3) := by decide +kernel
theorem d_Model_cost_9 : decode b_Model_cost 9 = .ok (.iload_n 1, 1) := by decide +kernel
theorem d_Model_cost_10 : decode b_Model_cost 10 = .ok (.iconst 5, 1) := by decide +kernel
theorem d_Model_cost_11 : decode b_Model_cost 11 = .ok (.if_icmp .gt 13, 3) := by decide +kernel
theorem d_Model_cost_14 : decode b_Model_cost 14 = .ok (.iload_n 3, 1) := by decide +kernel
theorem d_Model_cost_15 : decode b_Model_cost 15 = .ok (.iconst 1, 1) := by decide +kernel
theorem d_Model_cost_16 : decode b_Model_cost 16 = .ok (.if_icmp .lt 8, 3) := by decide +kernel
theorem d_Model_cost_19 : decode b_Model_cost 19 = .ok (.iload_n 3, 1) := by decide +kernel
theorem d_Model_cost_20 : decode b_Model_cost 20 = .ok (.iconst 3, 1) := by decide +kernel
theorem d_Model_cost_21 : decode b_Model_cost 21 = .ok (.if_icmp .le 5, 3) := by decide +kernel
theorem d_Model_cost_24 : decode b_Model_cost 24 = .ok (.iconst 0, 1) := by decide +kernel
theorem d_Model_cost_25 : decode b_Model_cost 25 = .ok (.ireturn, 1) := by decide +kernel
theorem d_Model_cost_26 : decode b_Model_cost 26 = .ok (.iload_n 2, 1) := by decide +kernel
theorem d_Model_cost_27 : decode b_Model_cost 27 = .ok (.ifCond .eq 13, 3) := by decide +kernel
theorem d_Model_cost_30 : decode b_Model_cost 30 = .ok (.aload_n 0, 1) := by decide +kernel
theorem d_Model_cost_31 : decode b_Model_cost 31 = .ok (.getfield 54, 3) := by decide +kernel
theorem d_Model_cost_34 : decode b_Model_cost 34 = .ok (.iload_n 1, 1) := by decide +kernel
theorem d_Model_cost_35 : decode b_Model_cost 35 = .ok (.iload_n 3, 1) := by decide +kernel
theorem d_Model_cost_36 : decode b_Model_cost 36 = .ok (.iastore, 1) := by decide +kernel
theorem d_Model_cost_37 : decode b_Model_cost 37 = .ok (.goto 10, 3) := by decide +kernel
theorem d_Model_cost_40 : decode b_Model_cost 40 = .ok (.aload_n 0, 1) := by decide +kernel
theorem d_Model_cost_41 : decode b_Model_cost 41 = .ok (.getfield 51, 3) := by decide +kernel
theorem d_Model_cost_44 : decode b_Model_cost 44 = .ok (.iload_n 1, 1) := by decide +kernel
theorem d_Model_cost_45 : decode b_Model_cost 45 = .ok (.iload_n 3, 1) := by decide +kernel
theorem d_Model_cost_46 : decode b_Model_cost 46 = .ok (.iastore, 1) := by decide +kernel
theorem d_Model_cost_47 : decode b_Model_cost 47 = .ok (.iconst 1, 1) := by decide +kernel
theorem d_Model_cost_48 : decode b_Model_cost 48 = .ok (.ireturn, 1) := by decide +kernel
theorem d_Model_parsed_0 : decode b_Model_parsed 0 = .ok (.iconst 0, 1) := by decide +kernel
theorem d_Model_parsed_1 : decode b_Model_parsed 1 = .ok (.istore_n 1, 1) := by decide +kernel
theorem d_Model_parsed_2 : decode b_Model_parsed 2 = .ok (.iload_n 1, 1) := by decide +kernel
theorem d_Model_parsed_3 : decode b_Model_parsed 3 = .ok (.aload_n 0, 1) := by decide +kernel
theorem d_Model_parsed_4 : decode b_Model_parsed 4 = .ok (.getfield 135, 3) := by decide +kernel
theorem d_Model_parsed_7 : decode b_Model_parsed 7 = .ok (.if_icmp .ge 21, 3) := by decide +kernel
theorem d_Model_parsed_10 : decode b_Model_parsed 10 = .ok (.aload_n 0, 1) := by decide +kernel
theorem d_Model_parsed_11 : decode b_Model_parsed 11 = .ok (.getfield 45, 3) := by decide +kernel
theorem d_Model_parsed_14 : decode b_Model_parsed 14 = .ok (.iload_n 1, 1) := by decide +kernel
theorem d_Model_parsed_15 : decode b_Model_parsed 15 = .ok (.aload_n 0, 1) := by decide +kernel
theorem d_Model_parsed_16 : decode b_Model_parsed 16 = .ok (.getfield 42, 3) := by decide +kernel
theorem d_Model_parsed_19 : decode b_Model_parsed 19 = .ok (.iload_n 1, 1) := by decide +kernel
theorem d_Model_parsed_20 : decode b_Model_parsed 20 = .ok (.iaload, 1) := by decide +kernel
theorem d_Model_parsed_21 : decode b_Model_parsed 21 = .ok (.iastore, 1) := by decide +kernel
theorem d_Model_parsed_22 : decode b_Model_parsed 22 = .ok (.iinc 1 1, 3) := by decide +kernel
theorem d_Model_parsed_25 : decode b_Model_parsed 25 = .ok (.goto (-23), 3) := by decide +kernel
theorem d_Model_parsed_28 : decode b_Model_parsed 28 = .ok (.aload_n 0, 1) := by decide +kernel
theorem d_Model_parsed_29 : decode b_Model_parsed 29 = .ok (.aload_n 0, 1) := by decide +kernel
theorem d_Model_parsed_30 : decode b_Model_parsed 30 = .ok (.getfield 135, 3) := by decide +kernel
theorem d_Model_parsed_33 : decode b_Model_parsed 33 = .ok (.iconst 1, 1) := by decide +kernel
theorem d_Model_parsed_34 : decode b_Model_parsed 34 = .ok (.invokevirtual 138, 3) := by decide +kernel
theorem d_Model_parsed_37 : decode b_Model_parsed 37 = .ok (.ireturn, 1) := by decide +kernel
theorem d_Model_parse_0 : decode b_Model_parse 0 = .ok (.aload_n 0, 1) := by decide +kernel
theorem d_Model_parse_1 : decode b_Model_parse 1 = .ok (.iconst 0, 1) := by decide +kernel
theorem d_Model_parse_2 : decode b_Model_parse 2 = .ok (.putfield 66, 3) := by decide +kernel
theorem d_Model_parse_5 : decode b_Model_parse 5 = .ok (.aload_n 0, 1) := by decide +kernel
theorem d_Model_parse_6 : decode b_Model_parse 6 = .ok (.getfield 93, 3) := by decide +kernel
theorem d_Model_parse_9 : decode b_Model_parse 9 = .ok (.ifCond .ne 11, 3) := by decide +kernel
theorem d_Model_parse_12 : decode b_Model_parse 12 = .ok (.aload_n 0, 1) := by decide +kernel
theorem d_Model_parse_13 : decode b_Model_parse 13 = .ok (.iconst 1, 1) := by decide +kernel
theorem d_Model_parse_14 : decode b_Model_parse 14 = .ok (.invokevirtual 86, 3) := by decide +kernel
theorem d_Model_parse_17 : decode b_Model_parse 17 = .ok (.goto 7, 3) := by decide +kernel
theorem d_Model_parse_20 : decode b_Model_parse 20 = .ok (.aload_n 0, 1) := by decide +kernel
theorem d_Model_parse_21 : decode b_Model_parse 21 = .ok (.invokevirtual 142, 3) := by decide +kernel
theorem d_Model_parse_24 : decode b_Model_parse 24 = .ok (.ireturn, 1) := by decide +kernel
theorem d_Model_follows_0 : decode b_Model_follows 0 = .ok (.aload_n 0, 1) := by decide +kernel
theorem d_Model_follows_1 : decode b_Model_follows 1 = .ok (.aload_n 0, 1) := by decide +kernel
theorem d_Model_follows_2 : decode b_Model_follows 2 = .ok (.getfield 146, 3) := by decide +kernel
theorem d_Model_follows_5 : decode b_Model_follows 5 = .ok (.putfield 149, 3) := by decide +kernel
theorem d_Model_follows_8 : decode b_Model_follows 8 = .ok (.aload_n 0, 1) := by decide +kernel
theorem d_Model_follows_9 : decode b_Model_follows 9 = .ok (.aload_n 0, 1) := by decide +kernel
theorem d_Model_follows_10 : decode b_Model_follows 10 = .ok (.getfield 146, 3) := by decide +kernel
theorem d_Model_follows_13 : decode b_Model_follows 13 = .ok (.putfield 152, 3) := by decide +kernel
theorem d_Model_follows_16 : decode b_Model_follows 16 = .ok (.iconst 0, 1) := by decide +kernel
theorem d_Model_follows_17 : decode b_Model_follows 17 = .ok (.istore_n 2, 1) := by decide +kernel
theorem d_Model_follows_18 : decode b_Model_follows 18 = .ok (.iconst 0, 1) := by decide +kernel
theorem d_Model_follows_19 : decode b_Model_follows 19 = .ok (.istore_n 3, 1) := by decide +kernel
theorem d_Model_follows_20 : decode b_Model_follows 20 = .ok (.iconst 0, 1) := by decide +kernel
theorem d_Model_follows_21 : decode b_Model_follows 21 = .ok (.istore 4, 2) := by decide +kernel
theorem d_Model_follows_23 : decode b_Model_follows 23 = .ok (.iload 4, 2) := by decide +kernel
theorem d_Model_follows_25 : decode b_Model_follows 25 = .ok (.aload_n 0, 1) := by decide +kernel
theorem d_Model_follows_26 : decode b_Model_follows 26 = .ok (.getfield 146, 3) := by decide +kernel
theorem d_Model_follows_29 : decode b_Model_follows 29 = .ok (.if_icmp .ge 23, 3) := by decide +kernel
theorem d_Model_follows_32 : decode b_Model_follows 32 = .ok (.aload_n 0, 1) := by decide +kernel
theorem d_Model_follows_33 : decode b_Model_follows 33 = .ok (.getfield 45, 3) := by decide +kernel
theorem d_Model_follows_36 : decode b_Model_follows 36 = .ok (.iload 4, 2) := by decide +kernel
theorem d_Model_follows_38 : decode b_Model_follows 38 = .ok (.aload_n 0, 1) := by decide +kernel
theorem d_Model_follows_39 : decode b_Model_follows 39 = .ok (.getfield 42, 3) := by decide +kernel
theorem d_Model_follows_42 : decode b_Model_follows 42 = .ok (.iload 4, 2) := by decide +kernel
theorem d_Model_follows_44 : decode b_Model_follows 44 = .ok (.iaload, 1) := by decide +kernel
theorem d_Model_follows_45 : decode b_Model_follows 45 = .ok (.iastore, 1) := by decide +kernel
theorem d_Model_follows_46 : decode b_Model_follows 46 = .ok (.iinc 4 1, 3) := by decide +kernel
theorem d_Model_follows_49 : decode b_Model_follows 49 = .ok (.goto (-26), 3) := by decide +kernel
theorem d_Model_follows_52 : decode b_Model_follows 52 = .ok (.iconst 0, 1) := by decide +kernel
theorem d_Model_follows_53 : decode b_Model_follows 53 = .ok (.istore 4, 2) := by decide +kernel
theorem d_Model_follows_55 : decode b_Model_follows 55 = .ok (.iload 4, 2) := by decide +kernel
theorem d_Model_follows_57 : decode b_Model_follows 57 = .ok (.iload_n 1, 1) := by decide +kernel
theorem d_Model_follows_58 : decode b_Model_follows 58 = .ok (.if_icmp .ge 195, 3) := by decide +kernel
theorem d_Model_follows_61 : decode b_Model_follows 61 = .ok (.aload_n 0, 1) := by decide +kernel
theorem d_Model_follows_62 : decode b_Model_follows 62 = .ok (.getfield 63, 3) := by decide +kernel
theorem d_Model_follows_65 : decode b_Model_follows 65 = .ok (.iload 4, 2) := by decide +kernel
theorem d_Model_follows_67 : decode b_Model_follows 67 = .ok (.iaload, 1) := by decide +kernel
theorem d_Model_follows_68 : decode b_Model_follows 68 = .ok (.istore 5, 2) := by decide +kernel
theorem d_Model_follows_70 : decode b_Model_follows 70 = .ok (.iload 5, 2) := by decide +kernel
theorem d_Model_follows_72 : decode b_Model_follows 72 = .ok (.bipush 6, 2) := by decide +kernel
theorem d_Model_follows_74 : decode b_Model_follows 74 = .ok (.if_icmp .lt 14, 3) := by decide +kernel
theorem d_Model_follows_77 : decode b_Model_follows 77 = .ok (.aload_n 0, 1) := by decide +kernel
theorem d_Model_follows_78 : decode b_Model_follows 78 = .ok (.getfield 152, 3) := by decide +kernel
theorem d_Model_follows_81 : decode b_Model_follows 81 = .ok (.aload_n 0, 1) := by decide +kernel
theorem d_Model_follows_82 : decode b_Model_follows 82 = .ok (.getfield 135, 3) := by decide +kernel
theorem d_Model_follows_85 : decode b_Model_follows 85 = .ok (.if_icmp .ge 29, 3) := by decide +kernel
theorem d_Model_follows_88 : decode b_Model_follows 88 = .ok (.iload 5, 2) := by decide +kernel
theorem d_Model_follows_90 : decode b_Model_follows 90 = .ok (.bipush 6, 2) := by decide +kernel
theorem d_Model_follows_92 : decode b_Model_follows 92 = .ok (.if_icmp .ge 24, 3) := by decide +kernel
theorem d_Model_follows_95 : decode b_Model_follows 95 = .ok (.iload 4, 2) := by decide +kernel
theorem d_Model_follows_97 : decode b_Model_follows 97 = .ok (.ifCond .le 19, 3) := by decide +kernel
theorem d_Model_follows_100 : decode b_Model_follows 100 = .ok (.aload_n 0, 1) := by decide +kernel
theorem d_Model_follows_101 : decode b_Model_follows 101 = .ok (.getfield 63, 3) := by decide +kernel
theorem d_Model_follows_104 : decode b_Model_follows 104 = .ok (.iload 4, 2) := by decide +kernel
theorem d_Model_follows_106 : decode b_Model_follows 106 = .ok (.iconst 1, 1) := by decide +kernel
theorem d_Model_follows_107 : decode b_Model_follows 107 = .ok (.isub, 1) := by decide +kernel
theorem d_Model_follows_108 : decode b_Model_follows 108 = .ok (.iaload, 1) := by decide +kernel
theorem d_Model_follows_109 : decode b_Model_follows 109 = .ok (.bipush 6, 2) := by decide +kernel
theorem d_Model_follows_111 : decode b_Model_follows 111 = .ok (.if_icmp .ne 5, 3) := by decide +kernel
theorem d_Model_follows_114 : decode b_Model_follows 114 = .ok (.iconst (-1), 1) := by decide +kernel
theorem d_Model_follows_115 : decode b_Model_follows 115 = .ok (.ireturn, 1) := by decide +kernel
theorem d_Model_follows_116 : decode b_Model_follows 116 = .ok (.iload_n 2, 1) := by decide +kernel
theorem d_Model_follows_117 : decode b_Model_follows 117 = .ok (.iload 5, 2) := by decide +kernel
theorem d_Model_follows_119 : decode b_Model_follows 119 = .ok (.bipush 6, 2) := by decide +kernel
theorem d_Model_follows_121 : decode b_Model_follows 121 = .ok (.if_icmp .ge 13, 3) := by decide +kernel
theorem d_Model_follows_124 : decode b_Model_follows 124 = .ok (.aload_n 0, 1) := by decide +kernel
theorem d_Model_follows_125 : decode b_Model_follows 125 = .ok (.getfield 51, 3) := by decide +kernel
theorem d_Model_follows_128 : decode b_Model_follows 128 = .ok (.iload 5, 2) := by decide +kernel
theorem d_Model_follows_130 : decode b_Model_follows 130 = .ok (.iaload, 1) := by decide +kernel
theorem d_Model_follows_131 : decode b_Model_follows 131 = .ok (.goto 28, 3) := by decide +kernel
theorem d_Model_follows_134 : decode b_Model_follows 134 = .ok (.iload 5, 2) := by decide +kernel
theorem d_Model_follows_136 : decode b_Model_follows 136 = .ok (.bipush 6, 2) := by decide +kernel
theorem d_Model_follows_138 : decode b_Model_follows 138 = .ok (.if_icmp .ne 20, 3) := by decide +kernel
theorem d_Model_follows_141 : decode b_Model_follows 141 = .ok (.aload_n 0, 1) := by decide +kernel
theorem d_Model_follows_142 : decode b_Model_follows 142 = .ok (.getfield 54, 3) := by decide +kernel
theorem d_Model_follows_145 : decode b_Model_follows 145 = .ok (.aload_n 0, 1) := by decide +kernel
theorem d_Model_follows_146 : decode b_Model_follows 146 = .ok (.getfield 42, 3) := by decide +kernel
theorem d_Model_follows_149 : decode b_Model_follows 149 = .ok (.aload_n 0, 1) := by decide +kernel
theorem d_Model_follows_150 : decode b_Model_follows 150 = .ok (.getfield 152, 3) := by decide +kernel
theorem d_Model_follows_153 : decode b_Model_follows 153 = .ok (.iaload, 1) := by decide +kernel
theorem d_Model_follows_154 : decode b_Model_follows 154 = .ok (.iaload, 1) := by decide +kernel
theorem d_Model_follows_155 : decode b_Model_follows 155 = .ok (.goto 4, 3) := by decide +kernel
theorem d_Model_follows_158 : decode b_Model_follows 158 = .ok (.iconst 0, 1) := by decide +kernel
theorem d_Model_follows_159 : decode b_Model_follows 159 = .ok (.iadd, 1) := by decide +kernel
theorem d_Model_follows_160 : decode b_Model_follows 160 = .ok (.istore_n 2, 1) := by decide +kernel
theorem d_Model_follows_161 : decode b_Model_follows 161 = .ok (.iload 5, 2) := by decide +kernel
theorem d_Model_follows_163 : decode b_Model_follows 163 = .ok (.bipush 7, 2) := by decide +kernel
theorem d_Model_follows_165 : decode b_Model_follows 165 = .ok (.if_icmp .ne 9, 3) := by decide +kernel
theorem d_Model_follows_168 : decode b_Model_follows 168 = .ok (.iload_n 3, 1) := by decide +kernel
theorem d_Model_follows_169 : decode b_Model_follows 169 = .ok (.iconst 1, 1) := by decide +kernel
theorem d_Model_follows_170 : decode b_Model_follows 170 = .ok (.iadd, 1) := by decide +kernel
theorem d_Model_follows_171 : decode b_Model_follows 171 = .ok (.goto 4, 3) := by decide +kernel
theorem d_Model_follows_174 : decode b_Model_follows 174 = .ok (.iload_n 3, 1) := by decide +kernel
theorem d_Model_follows_175 : decode b_Model_follows 175 = .ok (.istore_n 3, 1) := by decide +kernel
theorem d_Model_follows_176 : decode b_Model_follows 176 = .ok (.iload 5, 2) := by decide +kernel
theorem d_Model_follows_178 : decode b_Model_follows 178 = .ok (.bipush 6, 2) := by decide +kernel
theorem d_Model_follows_180 : decode b_Model_follows 180 = .ok (.if_icmp .eq 43, 3) := by decide +kernel
theorem d_Model_follows_183 : decode b_Model_follows 183 = .ok (.aload_n 0, 1) := by decide +kernel
theorem d_Model_follows_184 : decode b_Model_follows 184 = .ok (.getfield 45, 3) := by decide +kernel
theorem d_Model_follows_187 : decode b_Model_follows 187 = .ok (.aload_n 0, 1) := by decide +kernel
theorem d_Model_follows_188 : decode b_Model_follows 188 = .ok (.getfield 149, 3) := by decide +kernel
theorem d_Model_follows_191 : decode b_Model_follows 191 = .ok (.iload 5, 2) := by decide +kernel
theorem d_Model_follows_193 : decode b_Model_follows 193 = .ok (.bipush 6, 2) := by decide +kernel
theorem d_Model_follows_195 : decode b_Model_follows 195 = .ok (.if_icmp .ge 8, 3) := by decide +kernel
theorem d_Model_follows_198 : decode b_Model_follows 198 = .ok (.iload 5, 2) := by decide +kernel
theorem d_Model_follows_200 : decode b_Model_follows 200 = .ok (.goto 12, 3) := by decide +kernel
theorem d_Model_follows_203 : decode b_Model_follows 203 = .ok (.aload_n 0, 1) := by decide +kernel
theorem d_Model_follows_204 : decode b_Model_follows 204 = .ok (.getfield 42, 3) := by decide +kernel
theorem d_Model_follows_207 : decode b_Model_follows 207 = .ok (.aload_n 0, 1) := by decide +kernel
theorem d_Model_follows_208 : decode b_Model_follows 208 = .ok (.getfield 152, 3) := by decide +kernel
theorem d_Model_follows_211 : decode b_Model_follows 211 = .ok (.iaload, 1) := by decide +kernel
theorem d_Model_follows_212 : decode b_Model_follows 212 = .ok (.iastore, 1) := by decide +kernel
theorem d_Model_follows_213 : decode b_Model_follows 213 = .ok (.aload_n 0, 1) := by decide +kernel
theorem d_Model_follows_214 : decode b_Model_follows 214 = .ok (.dup, 1) := by decide +kernel
theorem d_Model_follows_215 : decode b_Model_follows 215 = .ok (.getfield 149, 3) := by decide +kernel
theorem d_Model_follows_218 : decode b_Model_follows 218 = .ok (.iconst 1, 1) := by decide +kernel
theorem d_Model_follows_219 : decode b_Model_follows 219 = .ok (.iadd, 1) := by decide +kernel
theorem d_Model_follows_220 : decode b_Model_follows 220 = .ok (.putfield 149, 3) := by decide +kernel
theorem d_Model_follows_223 : decode b_Model_follows 223 = .ok (.aload_n 0, 1) := by decide +kernel
theorem d_Model_follows_224 : decode b_Model_follows 224 = .ok (.iload 5, 2) := by decide +kernel
theorem d_Model_follows_226 : decode b_Model_follows 226 = .ok (.bipush 6, 2) := by decide +kernel
theorem d_Model_follows_228 : decode b_Model_follows 228 = .ok (.if_icmp .lt 12, 3) := by decide +kernel
theorem d_Model_follows_231 : decode b_Model_follows 231 = .ok (.aload_n 0, 1) := by decide +kernel
theorem d_Model_follows_232 : decode b_Model_follows 232 = .ok (.getfield 152, 3) := by decide +kernel
theorem d_Model_follows_235 : decode b_Model_follows 235 = .ok (.iconst 1, 1) := by decide +kernel
theorem d_Model_follows_236 : decode b_Model_follows 236 = .ok (.iadd, 1) := by decide +kernel
theorem d_Model_follows_237 : decode b_Model_follows 237 = .ok (.goto 7, 3) := by decide +kernel
theorem d_Model_follows_240 : decode b_Model_follows 240 = .ok (.aload_n 0, 1) := by decide +kernel
theorem d_Model_follows_241 : decode b_Model_follows 241 = .ok (.getfield 152, 3) := by decide +kernel
theorem d_Model_follows_244 : decode b_Model_follows 244 = .ok (.putfield 152, 3) := by decide +kernel
theorem d_Model_follows_247 : decode b_Model_follows 247 = .ok (.iinc 4 1, 3) := by decide +kernel
theorem d_Model_follows_250 : decode b_Model_follows 250 = .ok (.goto (-195), 3) := by decide +kernel
theorem d_Model_follows_253 : decode b_Model_follows 253 = .ok (.iload_n 3, 1) := by decide +kernel
theorem d_Model_follows_254 : decode b_Model_follows 254 = .ok (.iconst 3, 1) := by decide +kernel
theorem d_Model_follows_255 : decode b_Model_follows 255 = .ok (.if_icmp .le 7, 3) := by decide +kernel
theorem d_Model_follows_258 : decode b_Model_follows 258 = .ok (.iconst (-1), 1) := by decide +kernel
theorem d_Model_follows_259 : decode b_Model_follows 259 = .ok (.goto 4, 3) := by decide +kernel
theorem d_Model_follows_262 : decode b_Model_follows 262 = .ok (.iload_n 2, 1) := by decide +kernel
theorem d_Model_follows_263 : decode b_Model_follows 263 = .ok (.ireturn, 1) := by decide +kernel
theorem d_Model_note_0 : decode b_Model_note 0 = .ok (.aload_n 0, 1) := by decide +kernel
theorem d_Model_note_1 : decode b_Model_note 1 = .ok (.getfield 149, 3) := by decide +kernel
theorem d_Model_note_4 : decode b_Model_note 4 = .ok (.istore_n 3, 1) := by decide +kernel
theorem d_Model_note_5 : decode b_Model_note 5 = .ok (.aload_n 0, 1) := by decide +kernel
theorem d_Model_note_6 : decode b_Model_note 6 = .ok (.getfield 152, 3) := by decide +kernel
theorem d_Model_note_9 : decode b_Model_note 9 = .ok (.istore 4, 2) := by decide +kernel
theorem d_Model_note_11 : decode b_Model_note 11 = .ok (.iload 4, 2) := by decide +kernel
theorem d_Model_note_13 : decode b_Model_note 13 = .ok (.aload_n 0, 1) := by decide +kernel
theorem d_Model_note_14 : decode b_Model_note 14 = .ok (.getfield 135, 3) := by decide +kernel
theorem d_Model_note_17 : decode b_Model_note 17 = .ok (.if_icmp .ge 25, 3) := by decide +kernel
theorem d_Model_note_20 : decode b_Model_note 20 = .ok (.aload_n 0, 1) := by decide +kernel
theorem d_Model_note_21 : decode b_Model_note 21 = .ok (.getfield 45, 3) := by decide +kernel
theorem d_Model_note_24 : decode b_Model_note 24 = .ok (.iload_n 3, 1) := by decide +kernel
theorem d_Model_note_25 : decode b_Model_note 25 = .ok (.aload_n 0, 1) := by decide +kernel
theorem d_Model_note_26 : decode b_Model_note 26 = .ok (.getfield 42, 3) := by decide +kernel
theorem d_Model_note_29 : decode b_Model_note 29 = .ok (.iload 4, 2) := by decide +kernel
theorem d_Model_note_31 : decode b_Model_note 31 = .ok (.iaload, 1) := by decide +kernel
theorem d_Model_note_32 : decode b_Model_note 32 = .ok (.iastore, 1) := by decide +kernel
theorem d_Model_note_33 : decode b_Model_note 33 = .ok (.iinc 3 1, 3) := by decide +kernel
theorem d_Model_note_36 : decode b_Model_note 36 = .ok (.iinc 4 1, 3) := by decide +kernel
theorem d_Model_note_39 : decode b_Model_note 39 = .ok (.goto (-28), 3) := by decide +kernel
theorem d_Model_note_42 : decode b_Model_note 42 = .ok (.aload_n 0, 1) := by decide +kernel
theorem d_Model_note_43 : decode b_Model_note 43 = .ok (.iload_n 3, 1) := by decide +kernel
theorem d_Model_note_44 : decode b_Model_note 44 = .ok (.iconst 1, 1) := by decide +kernel
theorem d_Model_note_45 : decode b_Model_note 45 = .ok (.invokevirtual 138, 3) := by decide +kernel
theorem d_Model_note_48 : decode b_Model_note 48 = .ok (.istore 4, 2) := by decide +kernel
theorem d_Model_note_50 : decode b_Model_note 50 = .ok (.iload 4, 2) := by decide +kernel
theorem d_Model_note_52 : decode b_Model_note 52 = .ok (.ifCond .lt 15, 3) := by decide +kernel
theorem d_Model_note_55 : decode b_Model_note 55 = .ok (.iload 4, 2) := by decide +kernel
theorem d_Model_note_57 : decode b_Model_note 57 = .ok (.aload_n 0, 1) := by decide +kernel
theorem d_Model_note_58 : decode b_Model_note 58 = .ok (.getfield 149, 3) := by decide +kernel
theorem d_Model_note_61 : decode b_Model_note 61 = .ok (.iload_n 2, 1) := by decide +kernel
theorem d_Model_note_62 : decode b_Model_note 62 = .ok (.iadd, 1) := by decide +kernel
theorem d_Model_note_63 : decode b_Model_note 63 = .ok (.if_icmp .ge 4, 3) := by decide +kernel
theorem d_Model_note_66 : decode b_Model_note 66 = .ok (.return_, 1) := by decide +kernel
theorem d_Model_note_67 : decode b_Model_note 67 = .ok (.aload_n 0, 1) := by decide +kernel
theorem d_Model_note_68 : decode b_Model_note 68 = .ok (.getfield 73, 3) := by decide +kernel
theorem d_Model_note_71 : decode b_Model_note 71 = .ok (.bipush 40, 2) := by decide +kernel
theorem d_Model_note_73 : decode b_Model_note 73 = .ok (.if_icmp .ge 81, 3) := by decide +kernel
theorem d_Model_note_76 : decode b_Model_note 76 = .ok (.iconst 0, 1) := by decide +kernel
theorem d_Model_note_77 : decode b_Model_note 77 = .ok (.istore 5, 2) := by decide +kernel
theorem d_Model_note_79 : decode b_Model_note 79 = .ok (.iload 5, 2) := by decide +kernel
theorem d_Model_note_81 : decode b_Model_note 81 = .ok (.bipush 7, 2) := by decide +kernel
theorem d_Model_note_83 : decode b_Model_note 83 = .ok (.if_icmp .ge 41, 3) := by decide +kernel
theorem d_Model_note_86 : decode b_Model_note 86 = .ok (.aload_n 0, 1) := by decide +kernel
theorem d_Model_note_87 : decode b_Model_note 87 = .ok (.getfield 57, 3) := by decide +kernel
theorem d_Model_note_90 : decode b_Model_note 90 = .ok (.bipush 7, 2) := by decide +kernel
theorem d_Model_note_92 : decode b_Model_note 92 = .ok (.aload_n 0, 1) := by decide +kernel
theorem d_Model_note_93 : decode b_Model_note 93 = .ok (.getfield 73, 3) := by decide +kernel
theorem d_Model_note_96 : decode b_Model_note 96 = .ok (.imul, 1) := by decide +kernel
theorem d_Model_note_97 : decode b_Model_note 97 = .ok (.iload 5, 2) := by decide +kernel
theorem d_Model_note_99 : decode b_Model_note 99 = .ok (.iadd, 1) := by decide +kernel
theorem d_Model_note_100 : decode b_Model_note 100 = .ok (.iload 5, 2) := by decide +kernel
theorem d_Model_note_102 : decode b_Model_note 102 = .ok (.iload_n 1, 1) := by decide +kernel
theorem d_Model_note_103 : decode b_Model_note 103 = .ok (.if_icmp .ge 13, 3) := by decide +kernel
theorem d_Model_note_106 : decode b_Model_note 106 = .ok (.aload_n 0, 1) := by decide +kernel
theorem d_Model_note_107 : decode b_Model_note 107 = .ok (.getfield 63, 3) := by decide +kernel
theorem d_Model_note_110 : decode b_Model_note 110 = .ok (.iload 5, 2) := by decide +kernel
theorem d_Model_note_112 : decode b_Model_note 112 = .ok (.iaload, 1) := by decide +kernel
theorem d_Model_note_113 : decode b_Model_note 113 = .ok (.goto 4, 3) := by decide +kernel
theorem d_Model_note_116 : decode b_Model_note 116 = .ok (.iconst (-1), 1) := by decide +kernel
theorem d_Model_note_117 : decode b_Model_note 117 = .ok (.iastore, 1) := by decide +kernel
theorem d_Model_note_118 : decode b_Model_note 118 = .ok (.iinc 5 1, 3) := by decide +kernel
theorem d_Model_note_121 : decode b_Model_note 121 = .ok (.goto (-42), 3) := by decide +kernel
theorem d_Model_note_124 : decode b_Model_note 124 = .ok (.aload_n 0, 1) := by decide +kernel
theorem d_Model_note_125 : decode b_Model_note 125 = .ok (.getfield 60, 3) := by decide +kernel
theorem d_Model_note_128 : decode b_Model_note 128 = .ok (.aload_n 0, 1) := by decide +kernel
theorem d_Model_note_129 : decode b_Model_note 129 = .ok (.getfield 73, 3) := by decide +kernel
theorem d_Model_note_132 : decode b_Model_note 132 = .ok (.iload 4, 2) := by decide +kernel
theorem d_Model_note_134 : decode b_Model_note 134 = .ok (.ifCond .ge 12, 3) := by decide +kernel
theorem d_Model_note_137 : decode b_Model_note 137 = .ok (.iload_n 3, 1) := by decide +kernel
theorem d_Model_note_138 : decode b_Model_note 138 = .ok (.aload_n 0, 1) := by decide +kernel
theorem d_Model_note_139 : decode b_Model_note 139 = .ok (.getfield 149, 3) := by decide +kernel
theorem d_Model_note_142 : decode b_Model_note 142 = .ok (.isub, 1) := by decide +kernel
theorem d_Model_note_143 : decode b_Model_note 143 = .ok (.goto 10, 3) := by decide +kernel
theorem d_Model_note_146 : decode b_Model_note 146 = .ok (.iload 4, 2) := by decide +kernel
theorem d_Model_note_148 : decode b_Model_note 148 = .ok (.aload_n 0, 1) := by decide +kernel
theorem d_Model_note_149 : decode b_Model_note 149 = .ok (.getfield 149, 3) := by decide +kernel
theorem d_Model_note_152 : decode b_Model_note 152 = .ok (.isub, 1) := by decide +kernel
theorem d_Model_note_153 : decode b_Model_note 153 = .ok (.iastore, 1) := by decide +kernel
theorem d_Model_note_154 : decode b_Model_note 154 = .ok (.aload_n 0, 1) := by decide +kernel
theorem d_Model_note_155 : decode b_Model_note 155 = .ok (.dup, 1) := by decide +kernel
theorem d_Model_note_156 : decode b_Model_note 156 = .ok (.getfield 73, 3) := by decide +kernel
theorem d_Model_note_159 : decode b_Model_note 159 = .ok (.iconst 1, 1) := by decide +kernel
theorem d_Model_note_160 : decode b_Model_note 160 = .ok (.iadd, 1) := by decide +kernel
theorem d_Model_note_161 : decode b_Model_note 161 = .ok (.putfield 73, 3) := by decide +kernel
theorem d_Model_note_164 : decode b_Model_note 164 = .ok (.return_, 1) := by decide +kernel
theorem d_Model_search_0 : decode b_Model_search 0 = .ok (.iconst 1, 1) := by decide +kernel
theorem d_Model_search_1 : decode b_Model_search 1 = .ok (.istore_n 3, 1) := by decide +kernel
theorem d_Model_search_2 : decode b_Model_search 2 = .ok (.aload_n 0, 1) := by decide +kernel
theorem d_Model_search_3 : decode b_Model_search 3 = .ok (.getfield 63, 3) := by decide +kernel
theorem d_Model_search_6 : decode b_Model_search 6 = .ok (.iconst 0, 1) := by decide +kernel
theorem d_Model_search_7 : decode b_Model_search 7 = .ok (.iconst (-1), 1) := by decide +kernel
theorem d_Model_search_8 : decode b_Model_search 8 = .ok (.iastore, 1) := by decide +kernel
theorem d_Model_search_9 : decode b_Model_search 9 = .ok (.iload_n 3, 1) := by decide +kernel
theorem d_Model_search_10 : decode b_Model_search 10 = .ok (.ifCond .le 145, 3) := by decide +kernel
theorem d_Model_search_13 : decode b_Model_search 13 = .ok (.aload_n 0, 1) := by decide +kernel
theorem d_Model_search_14 : decode b_Model_search 14 = .ok (.getfield 63, 3) := by decide +kernel
theorem d_Model_search_17 : decode b_Model_search 17 = .ok (.iload_n 3, 1) := by decide +kernel
theorem d_Model_search_18 : decode b_Model_search 18 = .ok (.iconst 1, 1) := by decide +kernel
theorem d_Model_search_19 : decode b_Model_search 19 = .ok (.isub, 1) := by decide +kernel
theorem d_Model_search_20 : decode b_Model_search 20 = .ok (.dup2, 1) := by decide +kernel
theorem d_Model_search_21 : decode b_Model_search 21 = .ok (.iaload, 1) := by decide +kernel
theorem d_Model_search_22 : decode b_Model_search 22 = .ok (.iconst 1, 1) := by decide +kernel
theorem d_Model_search_23 : decode b_Model_search 23 = .ok (.iadd, 1) := by decide +kernel
theorem d_Model_search_24 : decode b_Model_search 24 = .ok (.iastore, 1) := by decide +kernel
theorem d_Model_search_25 : decode b_Model_search 25 = .ok (.aload_n 0, 1) := by decide +kernel
theorem d_Model_search_26 : decode b_Model_search 26 = .ok (.getfield 63, 3) := by decide +kernel
theorem d_Model_search_29 : decode b_Model_search 29 = .ok (.iload_n 3, 1) := by decide +kernel
theorem d_Model_search_30 : decode b_Model_search 30 = .ok (.iconst 1, 1) := by decide +kernel
theorem d_Model_search_31 : decode b_Model_search 31 = .ok (.isub, 1) := by decide +kernel
theorem d_Model_search_32 : decode b_Model_search 32 = .ok (.iaload, 1) := by decide +kernel
theorem d_Model_search_33 : decode b_Model_search 33 = .ok (.bipush 7, 2) := by decide +kernel
theorem d_Model_search_35 : decode b_Model_search 35 = .ok (.if_icmp .le 9, 3) := by decide +kernel
theorem d_Model_search_38 : decode b_Model_search 38 = .ok (.iinc 3 (-1), 3) := by decide +kernel
theorem d_Model_search_41 : decode b_Model_search 41 = .ok (.goto (-32), 3) := by decide +kernel
theorem d_Model_search_44 : decode b_Model_search 44 = .ok (.aload_n 0, 1) := by decide +kernel
theorem d_Model_search_45 : decode b_Model_search 45 = .ok (.iload_n 3, 1) := by decide +kernel
theorem d_Model_search_46 : decode b_Model_search 46 = .ok (.invokevirtual 155, 3) := by decide +kernel
theorem d_Model_search_49 : decode b_Model_search 49 = .ok (.istore 4, 2) := by decide +kernel
theorem d_Model_search_51 : decode b_Model_search 51 = .ok (.iload 4, 2) := by decide +kernel
theorem d_Model_search_53 : decode b_Model_search 53 = .ok (.ifCond .lt 42, 3) := by decide +kernel
theorem d_Model_search_56 : decode b_Model_search 56 = .ok (.iload 4, 2) := by decide +kernel
theorem d_Model_search_58 : decode b_Model_search 58 = .ok (.iload_n 1, 1) := by decide +kernel
theorem d_Model_search_59 : decode b_Model_search 59 = .ok (.if_icmp .gt 36, 3) := by decide +kernel
theorem d_Model_search_62 : decode b_Model_search 62 = .ok (.aload_n 0, 1) := by decide +kernel
theorem d_Model_search_63 : decode b_Model_search 63 = .ok (.getfield 63, 3) := by decide +kernel
theorem d_Model_search_66 : decode b_Model_search 66 = .ok (.iload_n 3, 1) := by decide +kernel
theorem d_Model_search_67 : decode b_Model_search 67 = .ok (.iconst 1, 1) := by decide +kernel
theorem d_Model_search_68 : decode b_Model_search 68 = .ok (.isub, 1) := by decide +kernel
theorem d_Model_search_69 : decode b_Model_search 69 = .ok (.iaload, 1) := by decide +kernel
theorem d_Model_search_70 : decode b_Model_search 70 = .ok (.bipush 6, 2) := by decide +kernel
theorem d_Model_search_72 : decode b_Model_search 72 = .ok (.if_icmp .eq 19, 3) := by decide +kernel
theorem d_Model_search_75 : decode b_Model_search 75 = .ok (.aload_n 0, 1) := by decide +kernel
theorem d_Model_search_76 : decode b_Model_search 76 = .ok (.aload_n 0, 1) := by decide +kernel
theorem d_Model_search_77 : decode b_Model_search 77 = .ok (.getfield 149, 3) := by decide +kernel
theorem d_Model_search_80 : decode b_Model_search 80 = .ok (.iconst 0, 1) := by decide +kernel
theorem d_Model_search_81 : decode b_Model_search 81 = .ok (.invokevirtual 138, 3) := by decide +kernel
theorem d_Model_search_84 : decode b_Model_search 84 = .ok (.aload_n 0, 1) := by decide +kernel
theorem d_Model_search_85 : decode b_Model_search 85 = .ok (.getfield 149, 3) := by decide +kernel
theorem d_Model_search_88 : decode b_Model_search 88 = .ok (.if_icmp .ne 7, 3) := by decide +kernel
theorem d_Model_search_91 : decode b_Model_search 91 = .ok (.iconst 1, 1) := by decide +kernel
theorem d_Model_search_92 : decode b_Model_search 92 = .ok (.goto 4, 3) := by decide +kernel
theorem d_Model_search_95 : decode b_Model_search 95 = .ok (.iconst 0, 1) := by decide +kernel
theorem d_Model_search_96 : decode b_Model_search 96 = .ok (.istore 5, 2) := by decide +kernel
theorem d_Model_search_98 : decode b_Model_search 98 = .ok (.iload 5, 2) := by decide +kernel
theorem d_Model_search_100 : decode b_Model_search 100 = .ok (.ifCond .eq 31, 3) := by decide +kernel
theorem d_Model_search_103 : decode b_Model_search 103 = .ok (.iload 4, 2) := by decide +kernel
theorem d_Model_search_105 : decode b_Model_search 105 = .ok (.iload_n 1, 1) := by decide +kernel
theorem d_Model_search_106 : decode b_Model_search 106 = .ok (.if_icmp .ne 25, 3) := by decide +kernel
theorem d_Model_search_109 : decode b_Model_search 109 = .ok (.aload_n 0, 1) := by decide +kernel
theorem d_Model_search_110 : decode b_Model_search 110 = .ok (.getfield 63, 3) := by decide +kernel
theorem d_Model_search_113 : decode b_Model_search 113 = .ok (.iload_n 3, 1) := by decide +kernel
theorem d_Model_search_114 : decode b_Model_search 114 = .ok (.iconst 1, 1) := by decide +kernel
theorem d_Model_search_115 : decode b_Model_search 115 = .ok (.isub, 1) := by decide +kernel
theorem d_Model_search_116 : decode b_Model_search 116 = .ok (.iaload, 1) := by decide +kernel
theorem d_Model_search_117 : decode b_Model_search 117 = .ok (.bipush 7, 2) := by decide +kernel
theorem d_Model_search_119 : decode b_Model_search 119 = .ok (.if_icmp .eq 33, 3) := by decide +kernel
theorem d_Model_search_122 : decode b_Model_search 122 = .ok (.aload_n 0, 1) := by decide +kernel
theorem d_Model_search_123 : decode b_Model_search 123 = .ok (.iload_n 3, 1) := by decide +kernel
theorem d_Model_search_124 : decode b_Model_search 124 = .ok (.iload_n 2, 1) := by decide +kernel
theorem d_Model_search_125 : decode b_Model_search 125 = .ok (.invokevirtual 158, 3) := by decide +kernel
theorem d_Model_search_128 : decode b_Model_search 128 = .ok (.goto 24, 3) := by decide +kernel
theorem d_Model_search_131 : decode b_Model_search 131 = .ok (.iload 5, 2) := by decide +kernel
theorem d_Model_search_133 : decode b_Model_search 133 = .ok (.ifCond .eq 19, 3) := by decide +kernel
theorem d_Model_search_136 : decode b_Model_search 136 = .ok (.iload_n 3, 1) := by decide +kernel
theorem d_Model_search_137 : decode b_Model_search 137 = .ok (.bipush 7, 2) := by decide +kernel
theorem d_Model_search_139 : decode b_Model_search 139 = .ok (.if_icmp .ge 13, 3) := by decide +kernel
theorem d_Model_search_142 : decode b_Model_search 142 = .ok (.aload_n 0, 1) := by decide +kernel
theorem d_Model_search_143 : decode b_Model_search 143 = .ok (.getfield 63, 3) := by decide +kernel
theorem d_Model_search_146 : decode b_Model_search 146 = .ok (.iload_n 3, 1) := by decide +kernel
theorem d_Model_search_147 : decode b_Model_search 147 = .ok (.iconst (-1), 1) := by decide +kernel
theorem d_Model_search_148 : decode b_Model_search 148 = .ok (.iastore, 1) := by decide +kernel
theorem d_Model_search_149 : decode b_Model_search 149 = .ok (.iinc 3 1, 3) := by decide +kernel
theorem d_Model_search_152 : decode b_Model_search 152 = .ok (.goto (-143), 3) := by decide +kernel
theorem d_Model_search_155 : decode b_Model_search 155 = .ok (.return_, 1) := by decide +kernel
theorem d_Model_repair_0 : decode b_Model_repair 0 = .ok (.aload_n 0, 1) := by decide +kernel
theorem d_Model_repair_1 : decode b_Model_repair 1 = .ok (.aload_n 0, 1) := by decide +kernel
theorem d_Model_repair_2 : decode b_Model_repair 2 = .ok (.getfield 93, 3) := by decide +kernel
theorem d_Model_repair_5 : decode b_Model_repair 5 = .ok (.ifCond .ne 7, 3) := by decide +kernel
theorem d_Model_repair_8 : decode b_Model_repair 8 = .ok (.iconst 1, 1) := by decide +kernel
theorem d_Model_repair_9 : decode b_Model_repair 9 = .ok (.goto 17, 3) := by decide +kernel
theorem d_Model_repair_12 : decode b_Model_repair 12 = .ok (.iload_n 1, 1) := by decide +kernel
theorem d_Model_repair_13 : decode b_Model_repair 13 = .ok (.ifCond .lt 8, 3) := by decide +kernel
theorem d_Model_repair_16 : decode b_Model_repair 16 = .ok (.iload_n 1, 1) := by decide +kernel
theorem d_Model_repair_17 : decode b_Model_repair 17 = .ok (.iconst 3, 1) := by decide +kernel
theorem d_Model_repair_18 : decode b_Model_repair 18 = .ok (.if_icmp .le 7, 3) := by decide +kernel
theorem d_Model_repair_21 : decode b_Model_repair 21 = .ok (.iconst 2, 1) := by decide +kernel
theorem d_Model_repair_22 : decode b_Model_repair 22 = .ok (.goto 4, 3) := by decide +kernel
theorem d_Model_repair_25 : decode b_Model_repair 25 = .ok (.iconst 0, 1) := by decide +kernel
theorem d_Model_repair_26 : decode b_Model_repair 26 = .ok (.putfield 66, 3) := by decide +kernel
theorem d_Model_repair_29 : decode b_Model_repair 29 = .ok (.aload_n 0, 1) := by decide +kernel
theorem d_Model_repair_30 : decode b_Model_repair 30 = .ok (.invokevirtual 96, 3) := by decide +kernel
theorem d_Model_repair_33 : decode b_Model_repair 33 = .ok (.aload_n 0, 1) := by decide +kernel
theorem d_Model_repair_34 : decode b_Model_repair 34 = .ok (.getfield 66, 3) := by decide +kernel
theorem d_Model_repair_37 : decode b_Model_repair 37 = .ok (.ifCond .le 5, 3) := by decide +kernel
theorem d_Model_repair_40 : decode b_Model_repair 40 = .ok (.iconst 0, 1) := by decide +kernel
theorem d_Model_repair_41 : decode b_Model_repair 41 = .ok (.ireturn, 1) := by decide +kernel
theorem d_Model_repair_42 : decode b_Model_repair 42 = .ok (.aload_n 0, 1) := by decide +kernel
theorem d_Model_repair_43 : decode b_Model_repair 43 = .ok (.aload_n 0, 1) := by decide +kernel
theorem d_Model_repair_44 : decode b_Model_repair 44 = .ok (.invokevirtual 142, 3) := by decide +kernel
theorem d_Model_repair_47 : decode b_Model_repair 47 = .ok (.putfield 146, 3) := by decide +kernel
theorem d_Model_repair_50 : decode b_Model_repair 50 = .ok (.aload_n 0, 1) := by decide +kernel
theorem d_Model_repair_51 : decode b_Model_repair 51 = .ok (.getfield 146, 3) := by decide +kernel
theorem d_Model_repair_54 : decode b_Model_repair 54 = .ok (.ifCond .ge 5, 3) := by decide +kernel
theorem d_Model_repair_57 : decode b_Model_repair 57 = .ok (.iconst 0, 1) := by decide +kernel
theorem d_Model_repair_58 : decode b_Model_repair 58 = .ok (.ireturn, 1) := by decide +kernel
theorem d_Model_repair_59 : decode b_Model_repair 59 = .ok (.iconst 1, 1) := by decide +kernel
theorem d_Model_repair_60 : decode b_Model_repair 60 = .ok (.istore_n 2, 1) := by decide +kernel
theorem d_Model_repair_61 : decode b_Model_repair 61 = .ok (.iload_n 2, 1) := by decide +kernel
theorem d_Model_repair_62 : decode b_Model_repair 62 = .ok (.iconst 4, 1) := by decide +kernel
theorem d_Model_repair_63 : decode b_Model_repair 63 = .ok (.if_icmp .ge 38, 3) := by decide +kernel
theorem d_Model_repair_66 : decode b_Model_repair 66 = .ok (.aload_n 0, 1) := by decide +kernel
theorem d_Model_repair_67 : decode b_Model_repair 67 = .ok (.getfield 73, 3) := by decide +kernel
theorem d_Model_repair_70 : decode b_Model_repair 70 = .ok (.ifCond .ne 31, 3) := by decide +kernel
theorem d_Model_repair_73 : decode b_Model_repair 73 = .ok (.aload_n 0, 1) := by decide +kernel
theorem d_Model_repair_74 : decode b_Model_repair 74 = .ok (.iload_n 2, 1) := by decide +kernel
theorem d_Model_repair_75 : decode b_Model_repair 75 = .ok (.iload_n 1, 1) := by decide +kernel
theorem d_Model_repair_76 : decode b_Model_repair 76 = .ok (.invokevirtual 162, 3) := by decide +kernel
theorem d_Model_repair_79 : decode b_Model_repair 79 = .ok (.aload_n 0, 1) := by decide +kernel
theorem d_Model_repair_80 : decode b_Model_repair 80 = .ok (.aload_n 0, 1) := by decide +kernel
theorem d_Model_repair_81 : decode b_Model_repair 81 = .ok (.getfield 73, 3) := by decide +kernel
theorem d_Model_repair_84 : decode b_Model_repair 84 = .ok (.ifCond .le 7, 3) := by decide +kernel
theorem d_Model_repair_87 : decode b_Model_repair 87 = .ok (.iload_n 2, 1) := by decide +kernel
theorem d_Model_repair_88 : decode b_Model_repair 88 = .ok (.goto 4, 3) := by decide +kernel
theorem d_Model_repair_91 : decode b_Model_repair 91 = .ok (.iconst 0, 1) := by decide +kernel
theorem d_Model_repair_92 : decode b_Model_repair 92 = .ok (.putfield 76, 3) := by decide +kernel
theorem d_Model_repair_95 : decode b_Model_repair 95 = .ok (.iinc 2 1, 3) := by decide +kernel
theorem d_Model_repair_98 : decode b_Model_repair 98 = .ok (.goto (-37), 3) := by decide +kernel
theorem d_Model_repair_101 : decode b_Model_repair 101 = .ok (.aload_n 0, 1) := by decide +kernel
theorem d_Model_repair_102 : decode b_Model_repair 102 = .ok (.getfield 73, 3) := by decide +kernel
theorem d_Model_repair_105 : decode b_Model_repair 105 = .ok (.bipush 40, 2) := by decide +kernel
theorem d_Model_repair_107 : decode b_Model_repair 107 = .ok (.if_icmp .le 13, 3) := by decide +kernel
theorem d_Model_repair_110 : decode b_Model_repair 110 = .ok (.aload_n 0, 1) := by decide +kernel
theorem d_Model_repair_111 : decode b_Model_repair 111 = .ok (.invokevirtual 96, 3) := by decide +kernel
theorem d_Model_repair_114 : decode b_Model_repair 114 = .ok (.aload_n 0, 1) := by decide +kernel
theorem d_Model_repair_115 : decode b_Model_repair 115 = .ok (.iconst 3, 1) := by decide +kernel
theorem d_Model_repair_116 : decode b_Model_repair 116 = .ok (.invokevirtual 86, 3) := by decide +kernel
theorem d_Model_repair_119 : decode b_Model_repair 119 = .ok (.ireturn, 1) := by decide +kernel
theorem d_Model_repair_120 : decode b_Model_repair 120 = .ok (.aload_n 0, 1) := by decide +kernel
theorem d_Model_repair_121 : decode b_Model_repair 121 = .ok (.getfield 73, 3) := by decide +kernel
theorem d_Model_repair_124 : decode b_Model_repair 124 = .ok (.ireturn, 1) := by decide +kernel
theorem d_Model_step_0 : decode b_Model_step 0 = .ok (.aload_n 0, 1) := by decide +kernel
theorem d_Model_step_1 : decode b_Model_step 1 = .ok (.iconst 0, 1) := by decide +kernel
theorem d_Model_step_2 : decode b_Model_step 2 = .ok (.putfield 66, 3) := by decide +kernel
theorem d_Model_step_5 : decode b_Model_step 5 = .ok (.iload_n 1, 1) := by decide +kernel
theorem d_Model_step_6 : decode b_Model_step 6 = .ok (.ifCond .lt 21, 3) := by decide +kernel
theorem d_Model_step_9 : decode b_Model_step 9 = .ok (.iload_n 1, 1) := by decide +kernel
theorem d_Model_step_10 : decode b_Model_step 10 = .ok (.aload_n 0, 1) := by decide +kernel
theorem d_Model_step_11 : decode b_Model_step 11 = .ok (.getfield 73, 3) := by decide +kernel
theorem d_Model_step_14 : decode b_Model_step 14 = .ok (.if_icmp .ge 13, 3) := by decide +kernel
theorem d_Model_step_17 : decode b_Model_step 17 = .ok (.iload_n 2, 1) := by decide +kernel
theorem d_Model_step_18 : decode b_Model_step 18 = .ok (.ifCond .lt 9, 3) := by decide +kernel
theorem d_Model_step_21 : decode b_Model_step 21 = .ok (.iload_n 2, 1) := by decide +kernel
theorem d_Model_step_22 : decode b_Model_step 22 = .ok (.bipush 6, 2) := by decide +kernel
theorem d_Model_step_24 : decode b_Model_step 24 = .ok (.if_icmp .le 7, 3) := by decide +kernel
theorem d_Model_step_27 : decode b_Model_step 27 = .ok (.iconst (-1), 1) := by decide +kernel
theorem d_Model_step_28 : decode b_Model_step 28 = .ok (.goto 14, 3) := by decide +kernel
theorem d_Model_step_31 : decode b_Model_step 31 = .ok (.aload_n 0, 1) := by decide +kernel
theorem d_Model_step_32 : decode b_Model_step 32 = .ok (.getfield 57, 3) := by decide +kernel
theorem d_Model_step_35 : decode b_Model_step 35 = .ok (.bipush 7, 2) := by decide +kernel
theorem d_Model_step_37 : decode b_Model_step 37 = .ok (.iload_n 1, 1) := by decide +kernel
theorem d_Model_step_38 : decode b_Model_step 38 = .ok (.imul, 1) := by decide +kernel
theorem d_Model_step_39 : decode b_Model_step 39 = .ok (.iload_n 2, 1) := by decide +kernel
theorem d_Model_step_40 : decode b_Model_step 40 = .ok (.iadd, 1) := by decide +kernel
theorem d_Model_step_41 : decode b_Model_step 41 = .ok (.iaload, 1) := by decide +kernel
theorem d_Model_step_42 : decode b_Model_step 42 = .ok (.ireturn, 1) := by decide +kernel
theorem d_Model_price_0 : decode b_Model_price 0 = .ok (.aload_n 0, 1) := by decide +kernel
theorem d_Model_price_1 : decode b_Model_price 1 = .ok (.iconst 0, 1) := by decide +kernel
theorem d_Model_price_2 : decode b_Model_price 2 = .ok (.putfield 66, 3) := by decide +kernel
theorem d_Model_price_5 : decode b_Model_price 5 = .ok (.aload_n 0, 1) := by decide +kernel
theorem d_Model_price_6 : decode b_Model_price 6 = .ok (.getfield 76, 3) := by decide +kernel
theorem d_Model_price_9 : decode b_Model_price 9 = .ok (.ireturn, 1) := by decide +kernel
theorem d_Model_reach_0 : decode b_Model_reach 0 = .ok (.aload_n 0, 1) := by decide +kernel
theorem d_Model_reach_1 : decode b_Model_reach 1 = .ok (.iconst 0, 1) := by decide +kernel
theorem d_Model_reach_2 : decode b_Model_reach 2 = .ok (.putfield 66, 3) := by decide +kernel
theorem d_Model_reach_5 : decode b_Model_reach 5 = .ok (.iload_n 1, 1) := by decide +kernel
theorem d_Model_reach_6 : decode b_Model_reach 6 = .ok (.ifCond .lt 11, 3) := by decide +kernel
theorem d_Model_reach_9 : decode b_Model_reach 9 = .ok (.iload_n 1, 1) := by decide +kernel
theorem d_Model_reach_10 : decode b_Model_reach 10 = .ok (.aload_n 0, 1) := by decide +kernel
theorem d_Model_reach_11 : decode b_Model_reach 11 = .ok (.getfield 73, 3) := by decide +kernel
theorem d_Model_reach_14 : decode b_Model_reach 14 = .ok (.if_icmp .lt 11, 3) := by decide +kernel
theorem d_Model_reach_17 : decode b_Model_reach 17 = .ok (.aload_n 0, 1) := by decide +kernel
theorem d_Model_reach_18 : decode b_Model_reach 18 = .ok (.iconst 1, 1) := by decide +kernel
theorem d_Model_reach_19 : decode b_Model_reach 19 = .ok (.invokevirtual 86, 3) := by decide +kernel
theorem d_Model_reach_22 : decode b_Model_reach 22 = .ok (.goto 9, 3) := by decide +kernel
theorem d_Model_reach_25 : decode b_Model_reach 25 = .ok (.aload_n 0, 1) := by decide +kernel
theorem d_Model_reach_26 : decode b_Model_reach 26 = .ok (.getfield 60, 3) := by decide +kernel
theorem d_Model_reach_29 : decode b_Model_reach 29 = .ok (.iload_n 1, 1) := by decide +kernel
theorem d_Model_reach_30 : decode b_Model_reach 30 = .ok (.iaload, 1) := by decide +kernel
theorem d_Model_reach_31 : decode b_Model_reach 31 = .ok (.ireturn, 1) := by decide +kernel
theorem d_Model_apply_0 : decode b_Model_apply 0 = .ok (.aload_n 0, 1) := by decide +kernel
theorem d_Model_apply_1 : decode b_Model_apply 1 = .ok (.iconst 0, 1) := by decide +kernel
theorem d_Model_apply_2 : decode b_Model_apply 2 = .ok (.putfield 66, 3) := by decide +kernel
theorem d_Model_apply_5 : decode b_Model_apply 5 = .ok (.iload_n 1, 1) := by decide +kernel
theorem d_Model_apply_6 : decode b_Model_apply 6 = .ok (.ifCond .lt 11, 3) := by decide +kernel
theorem d_Model_apply_9 : decode b_Model_apply 9 = .ok (.iload_n 1, 1) := by decide +kernel
theorem d_Model_apply_10 : decode b_Model_apply 10 = .ok (.aload_n 0, 1) := by decide +kernel
theorem d_Model_apply_11 : decode b_Model_apply 11 = .ok (.getfield 73, 3) := by decide +kernel
theorem d_Model_apply_14 : decode b_Model_apply 14 = .ok (.if_icmp .lt 9, 3) := by decide +kernel
theorem d_Model_apply_17 : decode b_Model_apply 17 = .ok (.aload_n 0, 1) := by decide +kernel
theorem d_Model_apply_18 : decode b_Model_apply 18 = .ok (.iconst 1, 1) := by decide +kernel
theorem d_Model_apply_19 : decode b_Model_apply 19 = .ok (.invokevirtual 86, 3) := by decide +kernel
theorem d_Model_apply_22 : decode b_Model_apply 22 = .ok (.ireturn, 1) := by decide +kernel
theorem d_Model_apply_23 : decode b_Model_apply 23 = .ok (.iconst 0, 1) := by decide +kernel
theorem d_Model_apply_24 : decode b_Model_apply 24 = .ok (.istore_n 2, 1) := by decide +kernel
theorem d_Model_apply_25 : decode b_Model_apply 25 = .ok (.iload_n 2, 1) := by decide +kernel
theorem d_Model_apply_26 : decode b_Model_apply 26 = .ok (.bipush 7, 2) := by decide +kernel
theorem d_Model_apply_28 : decode b_Model_apply 28 = .ok (.if_icmp .ge 40, 3) := by decide +kernel
theorem d_Model_apply_31 : decode b_Model_apply 31 = .ok (.aload_n 0, 1) := by decide +kernel
theorem d_Model_apply_32 : decode b_Model_apply 32 = .ok (.getfield 57, 3) := by decide +kernel
theorem d_Model_apply_35 : decode b_Model_apply 35 = .ok (.bipush 7, 2) := by decide +kernel
theorem d_Model_apply_37 : decode b_Model_apply 37 = .ok (.iload_n 1, 1) := by decide +kernel
theorem d_Model_apply_38 : decode b_Model_apply 38 = .ok (.imul, 1) := by decide +kernel
theorem d_Model_apply_39 : decode b_Model_apply 39 = .ok (.iload_n 2, 1) := by decide +kernel
theorem d_Model_apply_40 : decode b_Model_apply 40 = .ok (.iadd, 1) := by decide +kernel
theorem d_Model_apply_41 : decode b_Model_apply 41 = .ok (.iaload, 1) := by decide +kernel
theorem d_Model_apply_42 : decode b_Model_apply 42 = .ok (.ifCond .lt 26, 3) := by decide +kernel
theorem d_Model_apply_45 : decode b_Model_apply 45 = .ok (.aload_n 0, 1) := by decide +kernel
theorem d_Model_apply_46 : decode b_Model_apply 46 = .ok (.getfield 63, 3) := by decide +kernel
theorem d_Model_apply_49 : decode b_Model_apply 49 = .ok (.iload_n 2, 1) := by decide +kernel
theorem d_Model_apply_50 : decode b_Model_apply 50 = .ok (.aload_n 0, 1) := by decide +kernel
theorem d_Model_apply_51 : decode b_Model_apply 51 = .ok (.getfield 57, 3) := by decide +kernel
theorem d_Model_apply_54 : decode b_Model_apply 54 = .ok (.bipush 7, 2) := by decide +kernel
theorem d_Model_apply_56 : decode b_Model_apply 56 = .ok (.iload_n 1, 1) := by decide +kernel
theorem d_Model_apply_57 : decode b_Model_apply 57 = .ok (.imul, 1) := by decide +kernel
theorem d_Model_apply_58 : decode b_Model_apply 58 = .ok (.iload_n 2, 1) := by decide +kernel
theorem d_Model_apply_59 : decode b_Model_apply 59 = .ok (.iadd, 1) := by decide +kernel
theorem d_Model_apply_60 : decode b_Model_apply 60 = .ok (.iaload, 1) := by decide +kernel
theorem d_Model_apply_61 : decode b_Model_apply 61 = .ok (.iastore, 1) := by decide +kernel
theorem d_Model_apply_62 : decode b_Model_apply 62 = .ok (.iinc 2 1, 3) := by decide +kernel
theorem d_Model_apply_65 : decode b_Model_apply 65 = .ok (.goto (-40), 3) := by decide +kernel
theorem d_Model_apply_68 : decode b_Model_apply 68 = .ok (.aload_n 0, 1) := by decide +kernel
theorem d_Model_apply_69 : decode b_Model_apply 69 = .ok (.iload_n 2, 1) := by decide +kernel
theorem d_Model_apply_70 : decode b_Model_apply 70 = .ok (.invokevirtual 155, 3) := by decide +kernel
theorem d_Model_apply_73 : decode b_Model_apply 73 = .ok (.istore_n 3, 1) := by decide +kernel
theorem d_Model_apply_74 : decode b_Model_apply 74 = .ok (.iload_n 3, 1) := by decide +kernel
theorem d_Model_apply_75 : decode b_Model_apply 75 = .ok (.ifCond .lt 22, 3) := by decide +kernel
theorem d_Model_apply_78 : decode b_Model_apply 78 = .ok (.aload_n 0, 1) := by decide +kernel
theorem d_Model_apply_79 : decode b_Model_apply 79 = .ok (.getfield 149, 3) := by decide +kernel
theorem d_Model_apply_82 : decode b_Model_apply 82 = .ok (.aload_n 0, 1) := by decide +kernel
theorem d_Model_apply_83 : decode b_Model_apply 83 = .ok (.getfield 135, 3) := by decide +kernel
theorem d_Model_apply_86 : decode b_Model_apply 86 = .ok (.iadd, 1) := by decide +kernel
theorem d_Model_apply_87 : decode b_Model_apply 87 = .ok (.aload_n 0, 1) := by decide +kernel
theorem d_Model_apply_88 : decode b_Model_apply 88 = .ok (.getfield 152, 3) := by decide +kernel
theorem d_Model_apply_91 : decode b_Model_apply 91 = .ok (.isub, 1) := by decide +kernel
theorem d_Model_apply_92 : decode b_Model_apply 92 = .ok (.bipush 16, 2) := by decide +kernel
theorem d_Model_apply_94 : decode b_Model_apply 94 = .ok (.if_icmp .le 9, 3) := by decide +kernel
theorem d_Model_apply_97 : decode b_Model_apply 97 = .ok (.aload_n 0, 1) := by decide +kernel
theorem d_Model_apply_98 : decode b_Model_apply 98 = .ok (.iconst 2, 1) := by decide +kernel
theorem d_Model_apply_99 : decode b_Model_apply 99 = .ok (.invokevirtual 86, 3) := by decide +kernel
theorem d_Model_apply_102 : decode b_Model_apply 102 = .ok (.ireturn, 1) := by decide +kernel
theorem d_Model_apply_103 : decode b_Model_apply 103 = .ok (.aload_n 0, 1) := by decide +kernel
theorem d_Model_apply_104 : decode b_Model_apply 104 = .ok (.getfield 152, 3) := by decide +kernel
theorem d_Model_apply_107 : decode b_Model_apply 107 = .ok (.istore 4, 2) := by decide +kernel
theorem d_Model_apply_109 : decode b_Model_apply 109 = .ok (.iload 4, 2) := by decide +kernel
theorem d_Model_apply_111 : decode b_Model_apply 111 = .ok (.aload_n 0, 1) := by decide +kernel
theorem d_Model_apply_112 : decode b_Model_apply 112 = .ok (.getfield 135, 3) := by decide +kernel
theorem d_Model_apply_115 : decode b_Model_apply 115 = .ok (.if_icmp .ge 35, 3) := by decide +kernel
theorem d_Model_apply_118 : decode b_Model_apply 118 = .ok (.aload_n 0, 1) := by decide +kernel
theorem d_Model_apply_119 : decode b_Model_apply 119 = .ok (.getfield 45, 3) := by decide +kernel
theorem d_Model_apply_122 : decode b_Model_apply 122 = .ok (.aload_n 0, 1) := by decide +kernel
theorem d_Model_apply_123 : decode b_Model_apply 123 = .ok (.getfield 149, 3) := by decide +kernel
theorem d_Model_apply_126 : decode b_Model_apply 126 = .ok (.aload_n 0, 1) := by decide +kernel
theorem d_Model_apply_127 : decode b_Model_apply 127 = .ok (.getfield 42, 3) := by decide +kernel
theorem d_Model_apply_130 : decode b_Model_apply 130 = .ok (.iload 4, 2) := by decide +kernel
theorem d_Model_apply_132 : decode b_Model_apply 132 = .ok (.iaload, 1) := by decide +kernel
theorem d_Model_apply_133 : decode b_Model_apply 133 = .ok (.iastore, 1) := by decide +kernel
theorem d_Model_apply_134 : decode b_Model_apply 134 = .ok (.aload_n 0, 1) := by decide +kernel
theorem d_Model_apply_135 : decode b_Model_apply 135 = .ok (.dup, 1) := by decide +kernel
theorem d_Model_apply_136 : decode b_Model_apply 136 = .ok (.getfield 149, 3) := by decide +kernel
theorem d_Model_apply_139 : decode b_Model_apply 139 = .ok (.iconst 1, 1) := by decide +kernel
theorem d_Model_apply_140 : decode b_Model_apply 140 = .ok (.iadd, 1) := by decide +kernel
theorem d_Model_apply_141 : decode b_Model_apply 141 = .ok (.putfield 149, 3) := by decide +kernel
theorem d_Model_apply_144 : decode b_Model_apply 144 = .ok (.iinc 4 1, 3) := by decide +kernel
theorem d_Model_apply_147 : decode b_Model_apply 147 = .ok (.goto (-38), 3) := by decide +kernel
theorem d_Model_apply_150 : decode b_Model_apply 150 = .ok (.aload_n 0, 1) := by decide +kernel
theorem d_Model_apply_151 : decode b_Model_apply 151 = .ok (.aload_n 0, 1) := by decide +kernel
theorem d_Model_apply_152 : decode b_Model_apply 152 = .ok (.getfield 149, 3) := by decide +kernel
theorem d_Model_apply_155 : decode b_Model_apply 155 = .ok (.putfield 135, 3) := by decide +kernel
theorem d_Model_apply_158 : decode b_Model_apply 158 = .ok (.iconst 0, 1) := by decide +kernel
theorem d_Model_apply_159 : decode b_Model_apply 159 = .ok (.istore 4, 2) := by decide +kernel
theorem d_Model_apply_161 : decode b_Model_apply 161 = .ok (.iload 4, 2) := by decide +kernel
theorem d_Model_apply_163 : decode b_Model_apply 163 = .ok (.aload_n 0, 1) := by decide +kernel
theorem d_Model_apply_164 : decode b_Model_apply 164 = .ok (.getfield 149, 3) := by decide +kernel
theorem d_Model_apply_167 : decode b_Model_apply 167 = .ok (.if_icmp .ge 23, 3) := by decide +kernel
theorem d_Model_apply_170 : decode b_Model_apply 170 = .ok (.aload_n 0, 1) := by decide +kernel
theorem d_Model_apply_171 : decode b_Model_apply 171 = .ok (.getfield 42, 3) := by decide +kernel
theorem d_Model_apply_174 : decode b_Model_apply 174 = .ok (.iload 4, 2) := by decide +kernel
theorem d_Model_apply_176 : decode b_Model_apply 176 = .ok (.aload_n 0, 1) := by decide +kernel
theorem d_Model_apply_177 : decode b_Model_apply 177 = .ok (.getfield 45, 3) := by decide +kernel
theorem d_Model_apply_180 : decode b_Model_apply 180 = .ok (.iload 4, 2) := by decide +kernel
theorem d_Model_apply_182 : decode b_Model_apply 182 = .ok (.iaload, 1) := by decide +kernel
theorem d_Model_apply_183 : decode b_Model_apply 183 = .ok (.iastore, 1) := by decide +kernel
theorem d_Model_apply_184 : decode b_Model_apply 184 = .ok (.iinc 4 1, 3) := by decide +kernel
theorem d_Model_apply_187 : decode b_Model_apply 187 = .ok (.goto (-26), 3) := by decide +kernel
theorem d_Model_apply_190 : decode b_Model_apply 190 = .ok (.aload_n 0, 1) := by decide +kernel
theorem d_Model_apply_191 : decode b_Model_apply 191 = .ok (.invokevirtual 96, 3) := by decide +kernel
theorem d_Model_apply_194 : decode b_Model_apply 194 = .ok (.aload_n 0, 1) := by decide +kernel
theorem d_Model_apply_195 : decode b_Model_apply 195 = .ok (.getfield 135, 3) := by decide +kernel
theorem d_Model_apply_198 : decode b_Model_apply 198 = .ok (.ireturn, 1) := by decide +kernel
theorem d_Model_letter_0 : decode b_Model_letter 0 = .ok (.aload_n 0, 1) := by decide +kernel
theorem d_Model_letter_1 : decode b_Model_letter 1 = .ok (.iconst 0, 1) := by decide +kernel
theorem d_Model_letter_2 : decode b_Model_letter 2 = .ok (.putfield 66, 3) := by decide +kernel
theorem d_Model_letter_5 : decode b_Model_letter 5 = .ok (.iload_n 1, 1) := by decide +kernel
theorem d_Model_letter_6 : decode b_Model_letter 6 = .ok (.ifCond .lt 20, 3) := by decide +kernel
theorem d_Model_letter_9 : decode b_Model_letter 9 = .ok (.iload_n 1, 1) := by decide +kernel
theorem d_Model_letter_10 : decode b_Model_letter 10 = .ok (.aload_n 0, 1) := by decide +kernel
theorem d_Model_letter_11 : decode b_Model_letter 11 = .ok (.getfield 135, 3) := by decide +kernel
theorem d_Model_letter_14 : decode b_Model_letter 14 = .ok (.if_icmp .ge 12, 3) := by decide +kernel
theorem d_Model_letter_17 : decode b_Model_letter 17 = .ok (.aload_n 0, 1) := by decide +kernel
theorem d_Model_letter_18 : decode b_Model_letter 18 = .ok (.getfield 42, 3) := by decide +kernel
theorem d_Model_letter_21 : decode b_Model_letter 21 = .ok (.iload_n 1, 1) := by decide +kernel
theorem d_Model_letter_22 : decode b_Model_letter 22 = .ok (.iaload, 1) := by decide +kernel
theorem d_Model_letter_23 : decode b_Model_letter 23 = .ok (.goto 4, 3) := by decide +kernel
theorem d_Model_letter_26 : decode b_Model_letter 26 = .ok (.iconst (-1), 1) := by decide +kernel
theorem d_Model_letter_27 : decode b_Model_letter 27 = .ok (.ireturn, 1) := by decide +kernel
theorem d_Model_count_0 : decode b_Model_count 0 = .ok (.aload_n 0, 1) := by decide +kernel
theorem d_Model_count_1 : decode b_Model_count 1 = .ok (.iconst 0, 1) := by decide +kernel
theorem d_Model_count_2 : decode b_Model_count 2 = .ok (.putfield 66, 3) := by decide +kernel
theorem d_Model_count_5 : decode b_Model_count 5 = .ok (.iload_n 1, 1) := by decide +kernel
theorem d_Model_count_6 : decode b_Model_count 6 = .ok (.ifCond .ne 8, 3) := by decide +kernel
theorem d_Model_count_9 : decode b_Model_count 9 = .ok (.aload_n 0, 1) := by decide +kernel
theorem d_Model_count_10 : decode b_Model_count 10 = .ok (.getfield 90, 3) := by decide +kernel
theorem d_Model_count_13 : decode b_Model_count 13 = .ok (.ireturn, 1) := by decide +kernel
theorem d_Model_count_14 : decode b_Model_count 14 = .ok (.iload_n 1, 1) := by decide +kernel
theorem d_Model_count_15 : decode b_Model_count 15 = .ok (.iconst 1, 1) := by decide +kernel
theorem d_Model_count_16 : decode b_Model_count 16 = .ok (.if_icmp .ne 8, 3) := by decide +kernel
theorem d_Model_count_19 : decode b_Model_count 19 = .ok (.aload_n 0, 1) := by decide +kernel
theorem d_Model_count_20 : decode b_Model_count 20 = .ok (.getfield 93, 3) := by decide +kernel
theorem d_Model_count_23 : decode b_Model_count 23 = .ok (.ireturn, 1) := by decide +kernel
theorem d_Model_count_24 : decode b_Model_count 24 = .ok (.iload_n 1, 1) := by decide +kernel
theorem d_Model_count_25 : decode b_Model_count 25 = .ok (.iconst 2, 1) := by decide +kernel
theorem d_Model_count_26 : decode b_Model_count 26 = .ok (.if_icmp .eq 5, 3) := by decide +kernel
theorem d_Model_count_29 : decode b_Model_count 29 = .ok (.iconst (-1), 1) := by decide +kernel
theorem d_Model_count_30 : decode b_Model_count 30 = .ok (.ireturn, 1) := by decide +kernel
theorem d_Model_count_31 : decode b_Model_count 31 = .ok (.iconst 0, 1) := by decide +kernel
theorem d_Model_count_32 : decode b_Model_count 32 = .ok (.istore_n 2, 1) := by decide +kernel
theorem d_Model_count_33 : decode b_Model_count 33 = .ok (.iconst 0, 1) := by decide +kernel
theorem d_Model_count_34 : decode b_Model_count 34 = .ok (.istore_n 3, 1) := by decide +kernel
theorem d_Model_count_35 : decode b_Model_count 35 = .ok (.iload_n 3, 1) := by decide +kernel
theorem d_Model_count_36 : decode b_Model_count 36 = .ok (.bipush 55, 2) := by decide +kernel
theorem d_Model_count_38 : decode b_Model_count 38 = .ok (.aload_n 0, 1) := by decide +kernel
theorem d_Model_count_39 : decode b_Model_count 39 = .ok (.getfield 93, 3) := by decide +kernel
theorem d_Model_count_42 : decode b_Model_count 42 = .ok (.imul, 1) := by decide +kernel
theorem d_Model_count_43 : decode b_Model_count 43 = .ok (.if_icmp .ge 39, 3) := by decide +kernel
theorem d_Model_count_46 : decode b_Model_count 46 = .ok (.iconst 0, 1) := by decide +kernel
theorem d_Model_count_47 : decode b_Model_count 47 = .ok (.istore 4, 2) := by decide +kernel
theorem d_Model_count_49 : decode b_Model_count 49 = .ok (.iload 4, 2) := by decide +kernel
theorem d_Model_count_51 : decode b_Model_count 51 = .ok (.bipush 7, 2) := by decide +kernel
theorem d_Model_count_53 : decode b_Model_count 53 = .ok (.if_icmp .ge 23, 3) := by decide +kernel
theorem d_Model_count_56 : decode b_Model_count 56 = .ok (.iload_n 2, 1) := by decide +kernel
theorem d_Model_count_57 : decode b_Model_count 57 = .ok (.aload_n 0, 1) := by decide +kernel
theorem d_Model_count_58 : decode b_Model_count 58 = .ok (.getfield 36, 3) := by decide +kernel
theorem d_Model_count_61 : decode b_Model_count 61 = .ok (.iload_n 3, 1) := by decide +kernel
theorem d_Model_count_62 : decode b_Model_count 62 = .ok (.iaload, 1) := by decide +kernel
theorem d_Model_count_63 : decode b_Model_count 63 = .ok (.iload 4, 2) := by decide +kernel
theorem d_Model_count_65 : decode b_Model_count 65 = .ok (.ishr, 1) := by decide +kernel
theorem d_Model_count_66 : decode b_Model_count 66 = .ok (.iconst 1, 1) := by decide +kernel
theorem d_Model_count_67 : decode b_Model_count 67 = .ok (.iand, 1) := by decide +kernel
theorem d_Model_count_68 : decode b_Model_count 68 = .ok (.iadd, 1) := by decide +kernel
theorem d_Model_count_69 : decode b_Model_count 69 = .ok (.istore_n 2, 1) := by decide +kernel
theorem d_Model_count_70 : decode b_Model_count 70 = .ok (.iinc 4 1, 3) := by decide +kernel
theorem d_Model_count_73 : decode b_Model_count 73 = .ok (.goto (-24), 3) := by decide +kernel
theorem d_Model_count_76 : decode b_Model_count 76 = .ok (.iinc 3 1, 3) := by decide +kernel
theorem d_Model_count_79 : decode b_Model_count 79 = .ok (.goto (-44), 3) := by decide +kernel
theorem d_Model_count_82 : decode b_Model_count 82 = .ok (.iload_n 2, 1) := by decide +kernel
theorem d_Model_count_83 : decode b_Model_count 83 = .ok (.ireturn, 1) := by decide +kernel
