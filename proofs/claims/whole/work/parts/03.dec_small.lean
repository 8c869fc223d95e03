theorem d_Line_init_0 : decode b_Line_init 0 = .ok (.aload_n 0, 1) := by decide +kernel
theorem d_Line_init_1 : decode b_Line_init 1 = .ok (.invokespecial 3, 3) := by decide +kernel
theorem d_Line_init_4 : decode b_Line_init 4 = .ok (.aload_n 0, 1) := by decide +kernel
theorem d_Line_init_5 : decode b_Line_init 5 = .ok (.bipush 10, 2) := by decide +kernel
theorem d_Line_init_7 : decode b_Line_init 7 = .ok (.newarray .char, 2) := by decide +kernel
theorem d_Line_init_9 : decode b_Line_init 9 = .ok (.putfield 9, 3) := by decide +kernel
theorem d_Line_init_12 : decode b_Line_init 12 = .ok (.return_, 1) := by decide +kernel
theorem d_Line_add_0 : decode b_Line_add 0 = .ok (.iload_n 1, 1) := by decide +kernel
theorem d_Line_add_1 : decode b_Line_add 1 = .ok (.bipush 32, 2) := by decide +kernel
theorem d_Line_add_3 : decode b_Line_add 3 = .ok (.if_icmp .lt 18, 3) := by decide +kernel
theorem d_Line_add_6 : decode b_Line_add 6 = .ok (.iload_n 1, 1) := by decide +kernel
theorem d_Line_add_7 : decode b_Line_add 7 = .ok (.bipush 126, 2) := by decide +kernel
theorem d_Line_add_9 : decode b_Line_add 9 = .ok (.if_icmp .gt 12, 3) := by decide +kernel
theorem d_Line_add_12 : decode b_Line_add 12 = .ok (.aload_n 0, 1) := by decide +kernel
theorem d_Line_add_13 : decode b_Line_add 13 = .ok (.getfield 15, 3) := by decide +kernel
theorem d_Line_add_16 : decode b_Line_add 16 = .ok (.bipush 10, 2) := by decide +kernel
theorem d_Line_add_18 : decode b_Line_add 18 = .ok (.if_icmp .lt 5, 3) := by decide +kernel
theorem d_Line_add_21 : decode b_Line_add 21 = .ok (.iconst 0, 1) := by decide +kernel
theorem d_Line_add_22 : decode b_Line_add 22 = .ok (.ireturn, 1) := by decide +kernel
theorem d_Line_add_23 : decode b_Line_add 23 = .ok (.aload_n 0, 1) := by decide +kernel
theorem d_Line_add_24 : decode b_Line_add 24 = .ok (.getfield 9, 3) := by decide +kernel
theorem d_Line_add_27 : decode b_Line_add 27 = .ok (.aload_n 0, 1) := by decide +kernel
theorem d_Line_add_28 : decode b_Line_add 28 = .ok (.getfield 15, 3) := by decide +kernel
theorem d_Line_add_31 : decode b_Line_add 31 = .ok (.iload_n 1, 1) := by decide +kernel
theorem d_Line_add_32 : decode b_Line_add 32 = .ok (.castore, 1) := by decide +kernel
theorem d_Line_add_33 : decode b_Line_add 33 = .ok (.aload_n 0, 1) := by decide +kernel
theorem d_Line_add_34 : decode b_Line_add 34 = .ok (.dup, 1) := by decide +kernel
theorem d_Line_add_35 : decode b_Line_add 35 = .ok (.getfield 15, 3) := by decide +kernel
theorem d_Line_add_38 : decode b_Line_add 38 = .ok (.iconst 1, 1) := by decide +kernel
theorem d_Line_add_39 : decode b_Line_add 39 = .ok (.iadd, 1) := by decide +kernel
theorem d_Line_add_40 : decode b_Line_add 40 = .ok (.putfield 15, 3) := by decide +kernel
theorem d_Line_add_43 : decode b_Line_add 43 = .ok (.iconst 1, 1) := by decide +kernel
theorem d_Line_add_44 : decode b_Line_add 44 = .ok (.ireturn, 1) := by decide +kernel
theorem d_Line_clear_0 : decode b_Line_clear 0 = .ok (.aload_n 0, 1) := by decide +kernel
theorem d_Line_clear_1 : decode b_Line_clear 1 = .ok (.iconst 0, 1) := by decide +kernel
theorem d_Line_clear_2 : decode b_Line_clear 2 = .ok (.putfield 15, 3) := by decide +kernel
theorem d_Line_clear_5 : decode b_Line_clear 5 = .ok (.return_, 1) := by decide +kernel
theorem d_Line_size_0 : decode b_Line_size 0 = .ok (.aload_n 0, 1) := by decide +kernel
theorem d_Line_size_1 : decode b_Line_size 1 = .ok (.getfield 15, 3) := by decide +kernel
theorem d_Line_size_4 : decode b_Line_size 4 = .ok (.ireturn, 1) := by decide +kernel
theorem d_Line_isEqualsSign_0 : decode b_Line_isEqualsSign 0 = .ok (.iload_n 1, 1) := by decide +kernel
theorem d_Line_isEqualsSign_1 : decode b_Line_isEqualsSign 1 = .ok (.ifCond .lt 26, 3) := by decide +kernel
theorem d_Line_isEqualsSign_4 : decode b_Line_isEqualsSign 4 = .ok (.iload_n 1, 1) := by decide +kernel
theorem d_Line_isEqualsSign_5 : decode b_Line_isEqualsSign 5 = .ok (.aload_n 0, 1) := by decide +kernel
theorem d_Line_isEqualsSign_6 : decode b_Line_isEqualsSign 6 = .ok (.getfield 15, 3) := by decide +kernel
theorem d_Line_isEqualsSign_9 : decode b_Line_isEqualsSign 9 = .ok (.if_icmp .ge 18, 3) := by decide +kernel
theorem d_Line_isEqualsSign_12 : decode b_Line_isEqualsSign 12 = .ok (.aload_n 0, 1) := by decide +kernel
theorem d_Line_isEqualsSign_13 : decode b_Line_isEqualsSign 13 = .ok (.getfield 9, 3) := by decide +kernel
theorem d_Line_isEqualsSign_16 : decode b_Line_isEqualsSign 16 = .ok (.iload_n 1, 1) := by decide +kernel
theorem d_Line_isEqualsSign_17 : decode b_Line_isEqualsSign 17 = .ok (.caload, 1) := by decide +kernel
theorem d_Line_isEqualsSign_18 : decode b_Line_isEqualsSign 18 = .ok (.bipush 61, 2) := by decide +kernel
theorem d_Line_isEqualsSign_20 : decode b_Line_isEqualsSign 20 = .ok (.if_icmp .ne 7, 3) := by decide +kernel
theorem d_Line_isEqualsSign_23 : decode b_Line_isEqualsSign 23 = .ok (.iconst 1, 1) := by decide +kernel
theorem d_Line_isEqualsSign_24 : decode b_Line_isEqualsSign 24 = .ok (.goto 4, 3) := by decide +kernel
theorem d_Line_isEqualsSign_27 : decode b_Line_isEqualsSign 27 = .ok (.iconst 0, 1) := by decide +kernel
theorem d_Line_isEqualsSign_28 : decode b_Line_isEqualsSign 28 = .ok (.ireturn, 1) := by decide +kernel
theorem d_Line_symbolAt_0 : decode b_Line_symbolAt 0 = .ok (.iload_n 1, 1) := by decide +kernel
theorem d_Line_symbolAt_1 : decode b_Line_symbolAt 1 = .ok (.ifCond .lt 11, 3) := by decide +kernel
theorem d_Line_symbolAt_4 : decode b_Line_symbolAt 4 = .ok (.iload_n 1, 1) := by decide +kernel
theorem d_Line_symbolAt_5 : decode b_Line_symbolAt 5 = .ok (.aload_n 0, 1) := by decide +kernel
theorem d_Line_symbolAt_6 : decode b_Line_symbolAt 6 = .ok (.getfield 15, 3) := by decide +kernel
theorem d_Line_symbolAt_9 : decode b_Line_symbolAt 9 = .ok (.if_icmp .lt 5, 3) := by decide +kernel
theorem d_Line_symbolAt_12 : decode b_Line_symbolAt 12 = .ok (.iconst (-1), 1) := by decide +kernel
theorem d_Line_symbolAt_13 : decode b_Line_symbolAt 13 = .ok (.ireturn, 1) := by decide +kernel
theorem d_Line_symbolAt_14 : decode b_Line_symbolAt 14 = .ok (.aload_n 0, 1) := by decide +kernel
theorem d_Line_symbolAt_15 : decode b_Line_symbolAt 15 = .ok (.getfield 9, 3) := by decide +kernel
theorem d_Line_symbolAt_18 : decode b_Line_symbolAt 18 = .ok (.iload_n 1, 1) := by decide +kernel
theorem d_Line_symbolAt_19 : decode b_Line_symbolAt 19 = .ok (.caload, 1) := by decide +kernel
theorem d_Line_symbolAt_20 : decode b_Line_symbolAt 20 = .ok (.istore_n 2, 1) := by decide +kernel
theorem d_Line_symbolAt_21 : decode b_Line_symbolAt 21 = .ok (.iload_n 2, 1) := by decide +kernel
theorem d_Line_symbolAt_22 : decode b_Line_symbolAt 22 = .ok (.bipush 97, 2) := by decide +kernel
theorem d_Line_symbolAt_24 : decode b_Line_symbolAt 24 = .ok (.if_icmp .lt 14, 3) := by decide +kernel
theorem d_Line_symbolAt_27 : decode b_Line_symbolAt 27 = .ok (.iload_n 2, 1) := by decide +kernel
theorem d_Line_symbolAt_28 : decode b_Line_symbolAt 28 = .ok (.bipush 102, 2) := by decide +kernel
theorem d_Line_symbolAt_30 : decode b_Line_symbolAt 30 = .ok (.if_icmp .gt 8, 3) := by decide +kernel
theorem d_Line_symbolAt_33 : decode b_Line_symbolAt 33 = .ok (.iload_n 2, 1) := by decide +kernel
theorem d_Line_symbolAt_34 : decode b_Line_symbolAt 34 = .ok (.bipush 97, 2) := by decide +kernel
theorem d_Line_symbolAt_36 : decode b_Line_symbolAt 36 = .ok (.isub, 1) := by decide +kernel
theorem d_Line_symbolAt_37 : decode b_Line_symbolAt 37 = .ok (.ireturn, 1) := by decide +kernel
theorem d_Line_symbolAt_38 : decode b_Line_symbolAt 38 = .ok (.iload_n 2, 1) := by decide +kernel
theorem d_Line_symbolAt_39 : decode b_Line_symbolAt 39 = .ok (.bipush 65, 2) := by decide +kernel
theorem d_Line_symbolAt_41 : decode b_Line_symbolAt 41 = .ok (.if_icmp .lt 17, 3) := by decide +kernel
theorem d_Line_symbolAt_44 : decode b_Line_symbolAt 44 = .ok (.iload_n 2, 1) := by decide +kernel
theorem d_Line_symbolAt_45 : decode b_Line_symbolAt 45 = .ok (.bipush 70, 2) := by decide +kernel
theorem d_Line_symbolAt_47 : decode b_Line_symbolAt 47 = .ok (.if_icmp .gt 11, 3) := by decide +kernel
theorem d_Line_symbolAt_50 : decode b_Line_symbolAt 50 = .ok (.bipush 6, 2) := by decide +kernel
theorem d_Line_symbolAt_52 : decode b_Line_symbolAt 52 = .ok (.iload_n 2, 1) := by decide +kernel
theorem d_Line_symbolAt_53 : decode b_Line_symbolAt 53 = .ok (.bipush 65, 2) := by decide +kernel
theorem d_Line_symbolAt_55 : decode b_Line_symbolAt 55 = .ok (.isub, 1) := by decide +kernel
theorem d_Line_symbolAt_56 : decode b_Line_symbolAt 56 = .ok (.iadd, 1) := by decide +kernel
theorem d_Line_symbolAt_57 : decode b_Line_symbolAt 57 = .ok (.ireturn, 1) := by decide +kernel
theorem d_Line_symbolAt_58 : decode b_Line_symbolAt 58 = .ok (.iconst (-1), 1) := by decide +kernel
theorem d_Line_symbolAt_59 : decode b_Line_symbolAt 59 = .ok (.ireturn, 1) := by decide +kernel
theorem d_Costs_init_0 : decode b_Costs_init 0 = .ok (.aload_n 0, 1) := by decide +kernel
theorem d_Costs_init_1 : decode b_Costs_init 1 = .ok (.invokespecial 3, 3) := by decide +kernel
theorem d_Costs_init_4 : decode b_Costs_init 4 = .ok (.aload_n 0, 1) := by decide +kernel
theorem d_Costs_init_5 : decode b_Costs_init 5 = .ok (.bipush 6, 2) := by decide +kernel
theorem d_Costs_init_7 : decode b_Costs_init 7 = .ok (.newarray .int, 2) := by decide +kernel
theorem d_Costs_init_9 : decode b_Costs_init 9 = .ok (.putfield 9, 3) := by decide +kernel
theorem d_Costs_init_12 : decode b_Costs_init 12 = .ok (.aload_n 0, 1) := by decide +kernel
theorem d_Costs_init_13 : decode b_Costs_init 13 = .ok (.bipush 6, 2) := by decide +kernel
theorem d_Costs_init_15 : decode b_Costs_init 15 = .ok (.newarray .int, 2) := by decide +kernel
theorem d_Costs_init_17 : decode b_Costs_init 17 = .ok (.putfield 15, 3) := by decide +kernel
theorem d_Costs_init_20 : decode b_Costs_init 20 = .ok (.iconst 0, 1) := by decide +kernel
theorem d_Costs_init_21 : decode b_Costs_init 21 = .ok (.istore_n 1, 1) := by decide +kernel
theorem d_Costs_init_22 : decode b_Costs_init 22 = .ok (.iload_n 1, 1) := by decide +kernel
theorem d_Costs_init_23 : decode b_Costs_init 23 = .ok (.bipush 6, 2) := by decide +kernel
theorem d_Costs_init_25 : decode b_Costs_init 25 = .ok (.if_icmp .ge 23, 3) := by decide +kernel
theorem d_Costs_init_28 : decode b_Costs_init 28 = .ok (.aload_n 0, 1) := by decide +kernel
theorem d_Costs_init_29 : decode b_Costs_init 29 = .ok (.getfield 9, 3) := by decide +kernel
theorem d_Costs_init_32 : decode b_Costs_init 32 = .ok (.iload_n 1, 1) := by decide +kernel
theorem d_Costs_init_33 : decode b_Costs_init 33 = .ok (.iconst 1, 1) := by decide +kernel
theorem d_Costs_init_34 : decode b_Costs_init 34 = .ok (.iastore, 1) := by decide +kernel
theorem d_Costs_init_35 : decode b_Costs_init 35 = .ok (.aload_n 0, 1) := by decide +kernel
theorem d_Costs_init_36 : decode b_Costs_init 36 = .ok (.getfield 15, 3) := by decide +kernel
theorem d_Costs_init_39 : decode b_Costs_init 39 = .ok (.iload_n 1, 1) := by decide +kernel
theorem d_Costs_init_40 : decode b_Costs_init 40 = .ok (.iconst 1, 1) := by decide +kernel
theorem d_Costs_init_41 : decode b_Costs_init 41 = .ok (.iastore, 1) := by decide +kernel
theorem d_Costs_init_42 : decode b_Costs_init 42 = .ok (.iinc 1 1, 3) := by decide +kernel
theorem d_Costs_init_45 : decode b_Costs_init 45 = .ok (.goto (-23), 3) := by decide +kernel
theorem d_Costs_init_48 : decode b_Costs_init 48 = .ok (.return_, 1) := by decide +kernel
theorem d_Costs_change_0 : decode b_Costs_change 0 = .ok (.iload_n 1, 1) := by decide +kernel
theorem d_Costs_change_1 : decode b_Costs_change 1 = .ok (.ifCond .lt 19, 3) := by decide +kernel
theorem d_Costs_change_4 : decode b_Costs_change 4 = .ok (.iload_n 1, 1) := by decide +kernel
theorem d_Costs_change_5 : decode b_Costs_change 5 = .ok (.bipush 6, 2) := by decide +kernel
theorem d_Costs_change_7 : decode b_Costs_change 7 = .ok (.if_icmp .ge 13, 3) := by decide +kernel
theorem d_Costs_change_10 : decode b_Costs_change 10 = .ok (.iload_n 3, 1) := by decide +kernel
theorem d_Costs_change_11 : decode b_Costs_change 11 = .ok (.iconst 1, 1) := by decide +kernel
theorem d_Costs_change_12 : decode b_Costs_change 12 = .ok (.if_icmp .lt 8, 3) := by decide +kernel
theorem d_Costs_change_15 : decode b_Costs_change 15 = .ok (.iload_n 3, 1) := by decide +kernel
theorem d_Costs_change_16 : decode b_Costs_change 16 = .ok (.iconst 3, 1) := by decide +kernel
theorem d_Costs_change_17 : decode b_Costs_change 17 = .ok (.if_icmp .le 5, 3) := by decide +kernel
theorem d_Costs_change_20 : decode b_Costs_change 20 = .ok (.iconst 0, 1) := by decide +kernel
theorem d_Costs_change_21 : decode b_Costs_change 21 = .ok (.ireturn, 1) := by decide +kernel
theorem d_Costs_change_22 : decode b_Costs_change 22 = .ok (.iload_n 2, 1) := by decide +kernel
theorem d_Costs_change_23 : decode b_Costs_change 23 = .ok (.ifCond .eq 13, 3) := by decide +kernel
theorem d_Costs_change_26 : decode b_Costs_change 26 = .ok (.aload_n 0, 1) := by decide +kernel
theorem d_Costs_change_27 : decode b_Costs_change 27 = .ok (.getfield 15, 3) := by decide +kernel
theorem d_Costs_change_30 : decode b_Costs_change 30 = .ok (.iload_n 1, 1) := by decide +kernel
theorem d_Costs_change_31 : decode b_Costs_change 31 = .ok (.iload_n 3, 1) := by decide +kernel
theorem d_Costs_change_32 : decode b_Costs_change 32 = .ok (.iastore, 1) := by decide +kernel
theorem d_Costs_change_33 : decode b_Costs_change 33 = .ok (.goto 10, 3) := by decide +kernel
theorem d_Costs_change_36 : decode b_Costs_change 36 = .ok (.aload_n 0, 1) := by decide +kernel
theorem d_Costs_change_37 : decode b_Costs_change 37 = .ok (.getfield 9, 3) := by decide +kernel
theorem d_Costs_change_40 : decode b_Costs_change 40 = .ok (.iload_n 1, 1) := by decide +kernel
theorem d_Costs_change_41 : decode b_Costs_change 41 = .ok (.iload_n 3, 1) := by decide +kernel
theorem d_Costs_change_42 : decode b_Costs_change 42 = .ok (.iastore, 1) := by decide +kernel
theorem d_Costs_change_43 : decode b_Costs_change 43 = .ok (.iconst 1, 1) := by decide +kernel
theorem d_Costs_change_44 : decode b_Costs_change 44 = .ok (.ireturn, 1) := by decide +kernel
theorem d_Costs_ofPutting_0 : decode b_Costs_ofPutting 0 = .ok (.iload_n 1, 1) := by decide +kernel
theorem d_Costs_ofPutting_1 : decode b_Costs_ofPutting 1 = .ok (.ifCond .lt 18, 3) := by decide +kernel
theorem d_Costs_ofPutting_4 : decode b_Costs_ofPutting 4 = .ok (.iload_n 1, 1) := by decide +kernel
theorem d_Costs_ofPutting_5 : decode b_Costs_ofPutting 5 = .ok (.bipush 6, 2) := by decide +kernel
theorem d_Costs_ofPutting_7 : decode b_Costs_ofPutting 7 = .ok (.if_icmp .ge 12, 3) := by decide +kernel
theorem d_Costs_ofPutting_10 : decode b_Costs_ofPutting 10 = .ok (.aload_n 0, 1) := by decide +kernel
theorem d_Costs_ofPutting_11 : decode b_Costs_ofPutting 11 = .ok (.getfield 9, 3) := by decide +kernel
theorem d_Costs_ofPutting_14 : decode b_Costs_ofPutting 14 = .ok (.iload_n 1, 1) := by decide +kernel
theorem d_Costs_ofPutting_15 : decode b_Costs_ofPutting 15 = .ok (.iaload, 1) := by decide +kernel
theorem d_Costs_ofPutting_16 : decode b_Costs_ofPutting 16 = .ok (.goto 4, 3) := by decide +kernel
theorem d_Costs_ofPutting_19 : decode b_Costs_ofPutting 19 = .ok (.iconst 4, 1) := by decide +kernel
theorem d_Costs_ofPutting_20 : decode b_Costs_ofPutting 20 = .ok (.ireturn, 1) := by decide +kernel
theorem d_Costs_ofTaking_0 : decode b_Costs_ofTaking 0 = .ok (.iload_n 1, 1) := by decide +kernel
theorem d_Costs_ofTaking_1 : decode b_Costs_ofTaking 1 = .ok (.ifCond .lt 18, 3) := by decide +kernel
theorem d_Costs_ofTaking_4 : decode b_Costs_ofTaking 4 = .ok (.iload_n 1, 1) := by decide +kernel
theorem d_Costs_ofTaking_5 : decode b_Costs_ofTaking 5 = .ok (.bipush 6, 2) := by decide +kernel
theorem d_Costs_ofTaking_7 : decode b_Costs_ofTaking 7 = .ok (.if_icmp .ge 12, 3) := by decide +kernel
theorem d_Costs_ofTaking_10 : decode b_Costs_ofTaking 10 = .ok (.aload_n 0, 1) := by decide +kernel
theorem d_Costs_ofTaking_11 : decode b_Costs_ofTaking 11 = .ok (.getfield 15, 3) := by decide +kernel
theorem d_Costs_ofTaking_14 : decode b_Costs_ofTaking 14 = .ok (.iload_n 1, 1) := by decide +kernel
theorem d_Costs_ofTaking_15 : decode b_Costs_ofTaking 15 = .ok (.iaload, 1) := by decide +kernel
theorem d_Costs_ofTaking_16 : decode b_Costs_ofTaking 16 = .ok (.goto 4, 3) := by decide +kernel
theorem d_Costs_ofTaking_19 : decode b_Costs_ofTaking 19 = .ok (.iconst 4, 1) := by decide +kernel
theorem d_Costs_ofTaking_20 : decode b_Costs_ofTaking 20 = .ok (.ireturn, 1) := by decide +kernel
theorem d_Text_init_0 : decode b_Text_init 0 = .ok (.aload_n 0, 1) := by decide +kernel
theorem d_Text_init_1 : decode b_Text_init 1 = .ok (.invokespecial 3, 3) := by decide +kernel
theorem d_Text_init_4 : decode b_Text_init 4 = .ok (.aload_n 0, 1) := by decide +kernel
theorem d_Text_init_5 : decode b_Text_init 5 = .ok (.bipush 16, 2) := by decide +kernel
theorem d_Text_init_7 : decode b_Text_init 7 = .ok (.newarray .int, 2) := by decide +kernel
theorem d_Text_init_9 : decode b_Text_init 9 = .ok (.putfield 9, 3) := by decide +kernel
theorem d_Text_init_12 : decode b_Text_init 12 = .ok (.aload_n 0, 1) := by decide +kernel
theorem d_Text_init_13 : decode b_Text_init 13 = .ok (.bipush 16, 2) := by decide +kernel
theorem d_Text_init_15 : decode b_Text_init 15 = .ok (.newarray .int, 2) := by decide +kernel
theorem d_Text_init_17 : decode b_Text_init 17 = .ok (.putfield 15, 3) := by decide +kernel
theorem d_Text_init_20 : decode b_Text_init 20 = .ok (.return_, 1) := by decide +kernel
theorem d_Text_size_0 : decode b_Text_size 0 = .ok (.aload_n 0, 1) := by decide +kernel
theorem d_Text_size_1 : decode b_Text_size 1 = .ok (.getfield 18, 3) := by decide +kernel
theorem d_Text_size_4 : decode b_Text_size 4 = .ok (.ireturn, 1) := by decide +kernel
theorem d_Text_letterAt_0 : decode b_Text_letterAt 0 = .ok (.iload_n 1, 1) := by decide +kernel
theorem d_Text_letterAt_1 : decode b_Text_letterAt 1 = .ok (.ifCond .lt 20, 3) := by decide +kernel
theorem d_Text_letterAt_4 : decode b_Text_letterAt 4 = .ok (.iload_n 1, 1) := by decide +kernel
theorem d_Text_letterAt_5 : decode b_Text_letterAt 5 = .ok (.aload_n 0, 1) := by decide +kernel
theorem d_Text_letterAt_6 : decode b_Text_letterAt 6 = .ok (.getfield 18, 3) := by decide +kernel
theorem d_Text_letterAt_9 : decode b_Text_letterAt 9 = .ok (.if_icmp .ge 12, 3) := by decide +kernel
theorem d_Text_letterAt_12 : decode b_Text_letterAt 12 = .ok (.aload_n 0, 1) := by decide +kernel
theorem d_Text_letterAt_13 : decode b_Text_letterAt 13 = .ok (.getfield 9, 3) := by decide +kernel
theorem d_Text_letterAt_16 : decode b_Text_letterAt 16 = .ok (.iload_n 1, 1) := by decide +kernel
theorem d_Text_letterAt_17 : decode b_Text_letterAt 17 = .ok (.iaload, 1) := by decide +kernel
theorem d_Text_letterAt_18 : decode b_Text_letterAt 18 = .ok (.goto 4, 3) := by decide +kernel
theorem d_Text_letterAt_21 : decode b_Text_letterAt 21 = .ok (.iconst (-1), 1) := by decide +kernel
theorem d_Text_letterAt_22 : decode b_Text_letterAt 22 = .ok (.ireturn, 1) := by decide +kernel
theorem d_Text_readFrom_0 : decode b_Text_readFrom 0 = .ok (.aload_n 1, 1) := by decide +kernel
theorem d_Text_readFrom_1 : decode b_Text_readFrom 1 = .ok (.invokevirtual 22, 3) := by decide +kernel
theorem d_Text_readFrom_4 : decode b_Text_readFrom 4 = .ok (.istore_n 2, 1) := by decide +kernel
theorem d_Text_readFrom_5 : decode b_Text_readFrom 5 = .ok (.iload_n 2, 1) := by decide +kernel
theorem d_Text_readFrom_6 : decode b_Text_readFrom 6 = .ok (.bipush 8, 2) := by decide +kernel
theorem d_Text_readFrom_8 : decode b_Text_readFrom 8 = .ok (.if_icmp .le 5, 3) := by decide +kernel
theorem d_Text_readFrom_11 : decode b_Text_readFrom 11 = .ok (.iconst 0, 1) := by decide +kernel
theorem d_Text_readFrom_12 : decode b_Text_readFrom 12 = .ok (.ireturn, 1) := by decide +kernel
theorem d_Text_readFrom_13 : decode b_Text_readFrom 13 = .ok (.iconst 0, 1) := by decide +kernel
theorem d_Text_readFrom_14 : decode b_Text_readFrom 14 = .ok (.istore_n 3, 1) := by decide +kernel
theorem d_Text_readFrom_15 : decode b_Text_readFrom 15 = .ok (.iload_n 3, 1) := by decide +kernel
theorem d_Text_readFrom_16 : decode b_Text_readFrom 16 = .ok (.iload_n 2, 1) := by decide +kernel
theorem d_Text_readFrom_17 : decode b_Text_readFrom 17 = .ok (.if_icmp .ge 30, 3) := by decide +kernel
theorem d_Text_readFrom_20 : decode b_Text_readFrom 20 = .ok (.aload_n 1, 1) := by decide +kernel
theorem d_Text_readFrom_21 : decode b_Text_readFrom 21 = .ok (.iload_n 3, 1) := by decide +kernel
theorem d_Text_readFrom_22 : decode b_Text_readFrom 22 = .ok (.invokevirtual 28, 3) := by decide +kernel
theorem d_Text_readFrom_25 : decode b_Text_readFrom 25 = .ok (.istore 4, 2) := by decide +kernel
theorem d_Text_readFrom_27 : decode b_Text_readFrom 27 = .ok (.iload 4, 2) := by decide +kernel
theorem d_Text_readFrom_29 : decode b_Text_readFrom 29 = .ok (.ifCond .lt 10, 3) := by decide +kernel
theorem d_Text_readFrom_32 : decode b_Text_readFrom 32 = .ok (.iload 4, 2) := by decide +kernel
theorem d_Text_readFrom_34 : decode b_Text_readFrom 34 = .ok (.bipush 6, 2) := by decide +kernel
theorem d_Text_readFrom_36 : decode b_Text_readFrom 36 = .ok (.if_icmp .lt 5, 3) := by decide +kernel
theorem d_Text_readFrom_39 : decode b_Text_readFrom 39 = .ok (.iconst 0, 1) := by decide +kernel
theorem d_Text_readFrom_40 : decode b_Text_readFrom 40 = .ok (.ireturn, 1) := by decide +kernel
theorem d_Text_readFrom_41 : decode b_Text_readFrom 41 = .ok (.iinc 3 1, 3) := by decide +kernel
theorem d_Text_readFrom_44 : decode b_Text_readFrom 44 = .ok (.goto (-29), 3) := by decide +kernel
theorem d_Text_readFrom_47 : decode b_Text_readFrom 47 = .ok (.iconst 0, 1) := by decide +kernel
theorem d_Text_readFrom_48 : decode b_Text_readFrom 48 = .ok (.istore_n 3, 1) := by decide +kernel
theorem d_Text_readFrom_49 : decode b_Text_readFrom 49 = .ok (.iload_n 3, 1) := by decide +kernel
theorem d_Text_readFrom_50 : decode b_Text_readFrom 50 = .ok (.iload_n 2, 1) := by decide +kernel
theorem d_Text_readFrom_51 : decode b_Text_readFrom 51 = .ok (.if_icmp .ge 20, 3) := by decide +kernel
theorem d_Text_readFrom_54 : decode b_Text_readFrom 54 = .ok (.aload_n 0, 1) := by decide +kernel
theorem d_Text_readFrom_55 : decode b_Text_readFrom 55 = .ok (.getfield 9, 3) := by decide +kernel
theorem d_Text_readFrom_58 : decode b_Text_readFrom 58 = .ok (.iload_n 3, 1) := by decide +kernel
theorem d_Text_readFrom_59 : decode b_Text_readFrom 59 = .ok (.aload_n 1, 1) := by decide +kernel
theorem d_Text_readFrom_60 : decode b_Text_readFrom 60 = .ok (.iload_n 3, 1) := by decide +kernel
theorem d_Text_readFrom_61 : decode b_Text_readFrom 61 = .ok (.invokevirtual 28, 3) := by decide +kernel
theorem d_Text_readFrom_64 : decode b_Text_readFrom 64 = .ok (.iastore, 1) := by decide +kernel
theorem d_Text_readFrom_65 : decode b_Text_readFrom 65 = .ok (.iinc 3 1, 3) := by decide +kernel
theorem d_Text_readFrom_68 : decode b_Text_readFrom 68 = .ok (.goto (-19), 3) := by decide +kernel
theorem d_Text_readFrom_71 : decode b_Text_readFrom 71 = .ok (.aload_n 0, 1) := by decide +kernel
theorem d_Text_readFrom_72 : decode b_Text_readFrom 72 = .ok (.iload_n 2, 1) := by decide +kernel
theorem d_Text_readFrom_73 : decode b_Text_readFrom 73 = .ok (.putfield 18, 3) := by decide +kernel
theorem d_Text_readFrom_76 : decode b_Text_readFrom 76 = .ok (.iconst 1, 1) := by decide +kernel
theorem d_Text_readFrom_77 : decode b_Text_readFrom 77 = .ok (.ireturn, 1) := by decide +kernel
theorem d_Text_mend_0 : decode b_Text_mend 0 = .ok (.aload_n 1, 1) := by decide +kernel
theorem d_Text_mend_1 : decode b_Text_mend 1 = .ok (.invokevirtual 32, 3) := by decide +kernel
theorem d_Text_mend_4 : decode b_Text_mend 4 = .ok (.istore_n 3, 1) := by decide +kernel
theorem d_Text_mend_5 : decode b_Text_mend 5 = .ok (.aload_n 0, 1) := by decide +kernel
theorem d_Text_mend_6 : decode b_Text_mend 6 = .ok (.iconst 0, 1) := by decide +kernel
theorem d_Text_mend_7 : decode b_Text_mend 7 = .ok (.iconst 0, 1) := by decide +kernel
theorem d_Text_mend_8 : decode b_Text_mend 8 = .ok (.iload_n 3, 1) := by decide +kernel
theorem d_Text_mend_9 : decode b_Text_mend 9 = .ok (.invokevirtual 37, 3) := by decide +kernel
theorem d_Text_mend_12 : decode b_Text_mend 12 = .ok (.istore 4, 2) := by decide +kernel
theorem d_Text_mend_14 : decode b_Text_mend 14 = .ok (.iconst 0, 1) := by decide +kernel
theorem d_Text_mend_15 : decode b_Text_mend 15 = .ok (.istore 5, 2) := by decide +kernel
theorem d_Text_mend_17 : decode b_Text_mend 17 = .ok (.iload 5, 2) := by decide +kernel
theorem d_Text_mend_19 : decode b_Text_mend 19 = .ok (.aload_n 1, 1) := by decide +kernel
theorem d_Text_mend_20 : decode b_Text_mend 20 = .ok (.iload_n 2, 1) := by decide +kernel
theorem d_Text_mend_21 : decode b_Text_mend 21 = .ok (.invokevirtual 41, 3) := by decide +kernel
theorem d_Text_mend_24 : decode b_Text_mend 24 = .ok (.if_icmp .ge 90, 3) := by decide +kernel
theorem d_Text_mend_27 : decode b_Text_mend 27 = .ok (.iload 5, 2) := by decide +kernel
theorem d_Text_mend_29 : decode b_Text_mend 29 = .ok (.bipush 6, 2) := by decide +kernel
theorem d_Text_mend_31 : decode b_Text_mend 31 = .ok (.if_icmp .ge 83, 3) := by decide +kernel
theorem d_Text_mend_34 : decode b_Text_mend 34 = .ok (.aload_n 1, 1) := by decide +kernel
theorem d_Text_mend_35 : decode b_Text_mend 35 = .ok (.iload_n 2, 1) := by decide +kernel
theorem d_Text_mend_36 : decode b_Text_mend 36 = .ok (.iload 5, 2) := by decide +kernel
theorem d_Text_mend_38 : decode b_Text_mend 38 = .ok (.invokevirtual 44, 3) := by decide +kernel
theorem d_Text_mend_41 : decode b_Text_mend 41 = .ok (.istore 6, 2) := by decide +kernel
theorem d_Text_mend_43 : decode b_Text_mend 43 = .ok (.iload 6, 2) := by decide +kernel
theorem d_Text_mend_45 : decode b_Text_mend 45 = .ok (.bipush 7, 2) := by decide +kernel
theorem d_Text_mend_47 : decode b_Text_mend 47 = .ok (.if_icmp .ne 18, 3) := by decide +kernel
theorem d_Text_mend_50 : decode b_Text_mend 50 = .ok (.aload_n 0, 1) := by decide +kernel
theorem d_Text_mend_51 : decode b_Text_mend 51 = .ok (.iload 4, 2) := by decide +kernel
theorem d_Text_mend_53 : decode b_Text_mend 53 = .ok (.iload_n 3, 1) := by decide +kernel
theorem d_Text_mend_54 : decode b_Text_mend 54 = .ok (.iload_n 3, 1) := by decide +kernel
theorem d_Text_mend_55 : decode b_Text_mend 55 = .ok (.iconst 1, 1) := by decide +kernel
theorem d_Text_mend_56 : decode b_Text_mend 56 = .ok (.iadd, 1) := by decide +kernel
theorem d_Text_mend_57 : decode b_Text_mend 57 = .ok (.invokevirtual 37, 3) := by decide +kernel
theorem d_Text_mend_60 : decode b_Text_mend 60 = .ok (.istore 4, 2) := by decide +kernel
theorem d_Text_mend_62 : decode b_Text_mend 62 = .ok (.goto 29, 3) := by decide +kernel
theorem d_Text_mend_65 : decode b_Text_mend 65 = .ok (.iload 6, 2) := by decide +kernel
theorem d_Text_mend_67 : decode b_Text_mend 67 = .ok (.bipush 6, 2) := by decide +kernel
theorem d_Text_mend_69 : decode b_Text_mend 69 = .ok (.if_icmp .eq 22, 3) := by decide +kernel
theorem d_Text_mend_72 : decode b_Text_mend 72 = .ok (.iload 4, 2) := by decide +kernel
theorem d_Text_mend_74 : decode b_Text_mend 74 = .ok (.bipush 16, 2) := by decide +kernel
theorem d_Text_mend_76 : decode b_Text_mend 76 = .ok (.if_icmp .ge 15, 3) := by decide +kernel
theorem d_Text_mend_79 : decode b_Text_mend 79 = .ok (.aload_n 0, 1) := by decide +kernel
theorem d_Text_mend_80 : decode b_Text_mend 80 = .ok (.getfield 15, 3) := by decide +kernel
theorem d_Text_mend_83 : decode b_Text_mend 83 = .ok (.iload 4, 2) := by decide +kernel
theorem d_Text_mend_85 : decode b_Text_mend 85 = .ok (.iload 6, 2) := by decide +kernel
theorem d_Text_mend_87 : decode b_Text_mend 87 = .ok (.iastore, 1) := by decide +kernel
theorem d_Text_mend_88 : decode b_Text_mend 88 = .ok (.iinc 4 1, 3) := by decide +kernel
theorem d_Text_mend_91 : decode b_Text_mend 91 = .ok (.iload 6, 2) := by decide +kernel
theorem d_Text_mend_93 : decode b_Text_mend 93 = .ok (.bipush 7, 2) := by decide +kernel
theorem d_Text_mend_95 : decode b_Text_mend 95 = .ok (.if_icmp .eq 10, 3) := by decide +kernel
theorem d_Text_mend_98 : decode b_Text_mend 98 = .ok (.iload 6, 2) := by decide +kernel
theorem d_Text_mend_100 : decode b_Text_mend 100 = .ok (.bipush 6, 2) := by decide +kernel
theorem d_Text_mend_102 : decode b_Text_mend 102 = .ok (.if_icmp .ne 6, 3) := by decide +kernel
theorem d_Text_mend_105 : decode b_Text_mend 105 = .ok (.iinc 3 1, 3) := by decide +kernel
theorem d_Text_mend_108 : decode b_Text_mend 108 = .ok (.iinc 5 1, 3) := by decide +kernel
theorem d_Text_mend_111 : decode b_Text_mend 111 = .ok (.goto (-94), 3) := by decide +kernel
theorem d_Text_mend_114 : decode b_Text_mend 114 = .ok (.aload_n 0, 1) := by decide +kernel
theorem d_Text_mend_115 : decode b_Text_mend 115 = .ok (.aload_n 0, 1) := by decide +kernel
theorem d_Text_mend_116 : decode b_Text_mend 116 = .ok (.iload 4, 2) := by decide +kernel
theorem d_Text_mend_118 : decode b_Text_mend 118 = .ok (.iload_n 3, 1) := by decide +kernel
theorem d_Text_mend_119 : decode b_Text_mend 119 = .ok (.aload_n 0, 1) := by decide +kernel
theorem d_Text_mend_120 : decode b_Text_mend 120 = .ok (.getfield 18, 3) := by decide +kernel
theorem d_Text_mend_123 : decode b_Text_mend 123 = .ok (.invokevirtual 37, 3) := by decide +kernel
theorem d_Text_mend_126 : decode b_Text_mend 126 = .ok (.putfield 18, 3) := by decide +kernel
theorem d_Text_mend_129 : decode b_Text_mend 129 = .ok (.iconst 0, 1) := by decide +kernel
theorem d_Text_mend_130 : decode b_Text_mend 130 = .ok (.istore 5, 2) := by decide +kernel
theorem d_Text_mend_132 : decode b_Text_mend 132 = .ok (.iload 5, 2) := by decide +kernel
theorem d_Text_mend_134 : decode b_Text_mend 134 = .ok (.aload_n 0, 1) := by decide +kernel
theorem d_Text_mend_135 : decode b_Text_mend 135 = .ok (.getfield 18, 3) := by decide +kernel
theorem d_Text_mend_138 : decode b_Text_mend 138 = .ok (.if_icmp .ge 23, 3) := by decide +kernel
theorem d_Text_mend_141 : decode b_Text_mend 141 = .ok (.aload_n 0, 1) := by decide +kernel
theorem d_Text_mend_142 : decode b_Text_mend 142 = .ok (.getfield 9, 3) := by decide +kernel
theorem d_Text_mend_145 : decode b_Text_mend 145 = .ok (.iload 5, 2) := by decide +kernel
theorem d_Text_mend_147 : decode b_Text_mend 147 = .ok (.aload_n 0, 1) := by decide +kernel
theorem d_Text_mend_148 : decode b_Text_mend 148 = .ok (.getfield 15, 3) := by decide +kernel
theorem d_Text_mend_151 : decode b_Text_mend 151 = .ok (.iload 5, 2) := by decide +kernel
theorem d_Text_mend_153 : decode b_Text_mend 153 = .ok (.iaload, 1) := by decide +kernel
theorem d_Text_mend_154 : decode b_Text_mend 154 = .ok (.iastore, 1) := by decide +kernel
theorem d_Text_mend_155 : decode b_Text_mend 155 = .ok (.iinc 5 1, 3) := by decide +kernel
theorem d_Text_mend_158 : decode b_Text_mend 158 = .ok (.goto (-26), 3) := by decide +kernel
theorem d_Text_mend_161 : decode b_Text_mend 161 = .ok (.return_, 1) := by decide +kernel
theorem d_Text_copyInto_0 : decode b_Text_copyInto 0 = .ok (.iload_n 1, 1) := by decide +kernel
theorem d_Text_copyInto_1 : decode b_Text_copyInto 1 = .ok (.istore 4, 2) := by decide +kernel
theorem d_Text_copyInto_3 : decode b_Text_copyInto 3 = .ok (.iload_n 2, 1) := by decide +kernel
theorem d_Text_copyInto_4 : decode b_Text_copyInto 4 = .ok (.istore 5, 2) := by decide +kernel
theorem d_Text_copyInto_6 : decode b_Text_copyInto 6 = .ok (.iload 5, 2) := by decide +kernel
theorem d_Text_copyInto_8 : decode b_Text_copyInto 8 = .ok (.iload_n 3, 1) := by decide +kernel
theorem d_Text_copyInto_9 : decode b_Text_copyInto 9 = .ok (.if_icmp .ge 42, 3) := by decide +kernel
theorem d_Text_copyInto_12 : decode b_Text_copyInto 12 = .ok (.iload 5, 2) := by decide +kernel
theorem d_Text_copyInto_14 : decode b_Text_copyInto 14 = .ok (.aload_n 0, 1) := by decide +kernel
theorem d_Text_copyInto_15 : decode b_Text_copyInto 15 = .ok (.getfield 18, 3) := by decide +kernel
theorem d_Text_copyInto_18 : decode b_Text_copyInto 18 = .ok (.if_icmp .ge 33, 3) := by decide +kernel
theorem d_Text_copyInto_21 : decode b_Text_copyInto 21 = .ok (.iload 4, 2) := by decide +kernel
theorem d_Text_copyInto_23 : decode b_Text_copyInto 23 = .ok (.bipush 16, 2) := by decide +kernel
theorem d_Text_copyInto_25 : decode b_Text_copyInto 25 = .ok (.if_icmp .ge 26, 3) := by decide +kernel
theorem d_Text_copyInto_28 : decode b_Text_copyInto 28 = .ok (.aload_n 0, 1) := by decide +kernel
theorem d_Text_copyInto_29 : decode b_Text_copyInto 29 = .ok (.getfield 15, 3) := by decide +kernel
theorem d_Text_copyInto_32 : decode b_Text_copyInto 32 = .ok (.iload 4, 2) := by decide +kernel
theorem d_Text_copyInto_34 : decode b_Text_copyInto 34 = .ok (.aload_n 0, 1) := by decide +kernel
theorem d_Text_copyInto_35 : decode b_Text_copyInto 35 = .ok (.getfield 9, 3) := by decide +kernel
theorem d_Text_copyInto_38 : decode b_Text_copyInto 38 = .ok (.iload 5, 2) := by decide +kernel
theorem d_Text_copyInto_40 : decode b_Text_copyInto 40 = .ok (.iaload, 1) := by decide +kernel
theorem d_Text_copyInto_41 : decode b_Text_copyInto 41 = .ok (.iastore, 1) := by decide +kernel
theorem d_Text_copyInto_42 : decode b_Text_copyInto 42 = .ok (.iinc 4 1, 3) := by decide +kernel
theorem d_Text_copyInto_45 : decode b_Text_copyInto 45 = .ok (.iinc 5 1, 3) := by decide +kernel
theorem d_Text_copyInto_48 : decode b_Text_copyInto 48 = .ok (.goto (-42), 3) := by decide +kernel
theorem d_Text_copyInto_51 : decode b_Text_copyInto 51 = .ok (.iload 4, 2) := by decide +kernel
theorem d_Text_copyInto_53 : decode b_Text_copyInto 53 = .ok (.ireturn, 1) := by decide +kernel
theorem d_Finds_init_0 : decode b_Finds_init 0 = .ok (.aload_n 0, 1) := by decide +kernel
theorem d_Finds_init_1 : decode b_Finds_init 1 = .ok (.invokespecial 3, 3) := by decide +kernel
theorem d_Finds_init_4 : decode b_Finds_init 4 = .ok (.aload_n 0, 1) := by decide +kernel
theorem d_Finds_init_5 : decode b_Finds_init 5 = .ok (.sipush 240, 3) := by decide +kernel
theorem d_Finds_init_8 : decode b_Finds_init 8 = .ok (.newarray .int, 2) := by decide +kernel
theorem d_Finds_init_10 : decode b_Finds_init 10 = .ok (.putfield 9, 3) := by decide +kernel
theorem d_Finds_init_13 : decode b_Finds_init 13 = .ok (.aload_n 0, 1) := by decide +kernel
theorem d_Finds_init_14 : decode b_Finds_init 14 = .ok (.bipush 40, 2) := by decide +kernel
theorem d_Finds_init_16 : decode b_Finds_init 16 = .ok (.newarray .int, 2) := by decide +kernel
theorem d_Finds_init_18 : decode b_Finds_init 18 = .ok (.putfield 15, 3) := by decide +kernel
theorem d_Finds_init_21 : decode b_Finds_init 21 = .ok (.aload_n 0, 1) := by decide +kernel
theorem d_Finds_init_22 : decode b_Finds_init 22 = .ok (.bipush 40, 2) := by decide +kernel
theorem d_Finds_init_24 : decode b_Finds_init 24 = .ok (.newarray .int, 2) := by decide +kernel
theorem d_Finds_init_26 : decode b_Finds_init 26 = .ok (.putfield 18, 3) := by decide +kernel
theorem d_Finds_init_29 : decode b_Finds_init 29 = .ok (.return_, 1) := by decide +kernel
theorem d_Finds_forget_0 : decode b_Finds_forget 0 = .ok (.aload_n 0, 1) := by decide +kernel
theorem d_Finds_forget_1 : decode b_Finds_forget 1 = .ok (.iconst 0, 1) := by decide +kernel
theorem d_Finds_forget_2 : decode b_Finds_forget 2 = .ok (.putfield 21, 3) := by decide +kernel
theorem d_Finds_forget_5 : decode b_Finds_forget 5 = .ok (.aload_n 0, 1) := by decide +kernel
theorem d_Finds_forget_6 : decode b_Finds_forget 6 = .ok (.iconst 0, 1) := by decide +kernel
theorem d_Finds_forget_7 : decode b_Finds_forget 7 = .ok (.putfield 25, 3) := by decide +kernel
theorem d_Finds_forget_10 : decode b_Finds_forget 10 = .ok (.aload_n 0, 1) := by decide +kernel
theorem d_Finds_forget_11 : decode b_Finds_forget 11 = .ok (.iconst 0, 1) := by decide +kernel
theorem d_Finds_forget_12 : decode b_Finds_forget 12 = .ok (.putfield 28, 3) := by decide +kernel
theorem d_Finds_forget_15 : decode b_Finds_forget 15 = .ok (.return_, 1) := by decide +kernel
theorem d_Finds_setPlace_0 : decode b_Finds_setPlace 0 = .ok (.aload_n 0, 1) := by decide +kernel
theorem d_Finds_setPlace_1 : decode b_Finds_setPlace 1 = .ok (.iload_n 1, 1) := by decide +kernel
theorem d_Finds_setPlace_2 : decode b_Finds_setPlace 2 = .ok (.putfield 28, 3) := by decide +kernel
theorem d_Finds_setPlace_5 : decode b_Finds_setPlace 5 = .ok (.return_, 1) := by decide +kernel
theorem d_Finds_wrongPlace_0 : decode b_Finds_wrongPlace 0 = .ok (.aload_n 0, 1) := by decide +kernel
theorem d_Finds_wrongPlace_1 : decode b_Finds_wrongPlace 1 = .ok (.getfield 28, 3) := by decide +kernel
theorem d_Finds_wrongPlace_4 : decode b_Finds_wrongPlace 4 = .ok (.ireturn, 1) := by decide +kernel
theorem d_Finds_size_0 : decode b_Finds_size 0 = .ok (.aload_n 0, 1) := by decide +kernel
theorem d_Finds_size_1 : decode b_Finds_size 1 = .ok (.getfield 21, 3) := by decide +kernel
theorem d_Finds_size_4 : decode b_Finds_size 4 = .ok (.ireturn, 1) := by decide +kernel
theorem d_Finds_has_0 : decode b_Finds_has 0 = .ok (.iload_n 1, 1) := by decide +kernel
theorem d_Finds_has_1 : decode b_Finds_has 1 = .ok (.ifCond .lt 15, 3) := by decide +kernel
theorem d_Finds_has_4 : decode b_Finds_has 4 = .ok (.iload_n 1, 1) := by decide +kernel
theorem d_Finds_has_5 : decode b_Finds_has 5 = .ok (.aload_n 0, 1) := by decide +kernel
theorem d_Finds_has_6 : decode b_Finds_has 6 = .ok (.getfield 21, 3) := by decide +kernel
theorem d_Finds_has_9 : decode b_Finds_has 9 = .ok (.if_icmp .ge 7, 3) := by decide +kernel
theorem d_Finds_has_12 : decode b_Finds_has 12 = .ok (.iconst 1, 1) := by decide +kernel
theorem d_Finds_has_13 : decode b_Finds_has 13 = .ok (.goto 4, 3) := by decide +kernel
theorem d_Finds_has_16 : decode b_Finds_has 16 = .ok (.iconst 0, 1) := by decide +kernel
theorem d_Finds_has_17 : decode b_Finds_has 17 = .ok (.ireturn, 1) := by decide +kernel
theorem d_Finds_priceOfAll_0 : decode b_Finds_priceOfAll 0 = .ok (.aload_n 0, 1) := by decide +kernel
theorem d_Finds_priceOfAll_1 : decode b_Finds_priceOfAll 1 = .ok (.getfield 25, 3) := by decide +kernel
theorem d_Finds_priceOfAll_4 : decode b_Finds_priceOfAll 4 = .ok (.ireturn, 1) := by decide +kernel
theorem d_Finds_lengthOf_0 : decode b_Finds_lengthOf 0 = .ok (.aload_n 0, 1) := by decide +kernel
theorem d_Finds_lengthOf_1 : decode b_Finds_lengthOf 1 = .ok (.iload_n 1, 1) := by decide +kernel
theorem d_Finds_lengthOf_2 : decode b_Finds_lengthOf 2 = .ok (.invokevirtual 31, 3) := by decide +kernel
theorem d_Finds_lengthOf_5 : decode b_Finds_lengthOf 5 = .ok (.ifCond .eq 12, 3) := by decide +kernel
theorem d_Finds_lengthOf_8 : decode b_Finds_lengthOf 8 = .ok (.aload_n 0, 1) := by decide +kernel
theorem d_Finds_lengthOf_9 : decode b_Finds_lengthOf 9 = .ok (.getfield 15, 3) := by decide +kernel
theorem d_Finds_lengthOf_12 : decode b_Finds_lengthOf 12 = .ok (.iload_n 1, 1) := by decide +kernel
theorem d_Finds_lengthOf_13 : decode b_Finds_lengthOf 13 = .ok (.iaload, 1) := by decide +kernel
theorem d_Finds_lengthOf_14 : decode b_Finds_lengthOf 14 = .ok (.goto 4, 3) := by decide +kernel
theorem d_Finds_lengthOf_17 : decode b_Finds_lengthOf 17 = .ok (.iconst 0, 1) := by decide +kernel
theorem d_Finds_lengthOf_18 : decode b_Finds_lengthOf 18 = .ok (.ireturn, 1) := by decide +kernel
theorem d_Finds_stepAt_0 : decode b_Finds_stepAt 0 = .ok (.iload_n 2, 1) := by decide +kernel
theorem d_Finds_stepAt_1 : decode b_Finds_stepAt 1 = .ok (.ifCond .lt 26, 3) := by decide +kernel
theorem d_Finds_stepAt_4 : decode b_Finds_stepAt 4 = .ok (.iload_n 2, 1) := by decide +kernel
theorem d_Finds_stepAt_5 : decode b_Finds_stepAt 5 = .ok (.aload_n 0, 1) := by decide +kernel
theorem d_Finds_stepAt_6 : decode b_Finds_stepAt 6 = .ok (.iload_n 1, 1) := by decide +kernel
theorem d_Finds_stepAt_7 : decode b_Finds_stepAt 7 = .ok (.invokevirtual 35, 3) := by decide +kernel
theorem d_Finds_stepAt_10 : decode b_Finds_stepAt 10 = .ok (.if_icmp .ge 17, 3) := by decide +kernel
theorem d_Finds_stepAt_13 : decode b_Finds_stepAt 13 = .ok (.aload_n 0, 1) := by decide +kernel
theorem d_Finds_stepAt_14 : decode b_Finds_stepAt 14 = .ok (.getfield 9, 3) := by decide +kernel
theorem d_Finds_stepAt_17 : decode b_Finds_stepAt 17 = .ok (.iload_n 1, 1) := by decide +kernel
theorem d_Finds_stepAt_18 : decode b_Finds_stepAt 18 = .ok (.bipush 6, 2) := by decide +kernel
theorem d_Finds_stepAt_20 : decode b_Finds_stepAt 20 = .ok (.imul, 1) := by decide +kernel
theorem d_Finds_stepAt_21 : decode b_Finds_stepAt 21 = .ok (.iload_n 2, 1) := by decide +kernel
theorem d_Finds_stepAt_22 : decode b_Finds_stepAt 22 = .ok (.iadd, 1) := by decide +kernel
theorem d_Finds_stepAt_23 : decode b_Finds_stepAt 23 = .ok (.iaload, 1) := by decide +kernel
theorem d_Finds_stepAt_24 : decode b_Finds_stepAt 24 = .ok (.goto 4, 3) := by decide +kernel
theorem d_Finds_stepAt_27 : decode b_Finds_stepAt 27 = .ok (.iconst (-1), 1) := by decide +kernel
theorem d_Finds_stepAt_28 : decode b_Finds_stepAt 28 = .ok (.ireturn, 1) := by decide +kernel
theorem d_Finds_reachOf_0 : decode b_Finds_reachOf 0 = .ok (.aload_n 0, 1) := by decide +kernel
theorem d_Finds_reachOf_1 : decode b_Finds_reachOf 1 = .ok (.iload_n 1, 1) := by decide +kernel
theorem d_Finds_reachOf_2 : decode b_Finds_reachOf 2 = .ok (.invokevirtual 31, 3) := by decide +kernel
theorem d_Finds_reachOf_5 : decode b_Finds_reachOf 5 = .ok (.ifCond .eq 12, 3) := by decide +kernel
theorem d_Finds_reachOf_8 : decode b_Finds_reachOf 8 = .ok (.aload_n 0, 1) := by decide +kernel
theorem d_Finds_reachOf_9 : decode b_Finds_reachOf 9 = .ok (.getfield 18, 3) := by decide +kernel
theorem d_Finds_reachOf_12 : decode b_Finds_reachOf 12 = .ok (.iload_n 1, 1) := by decide +kernel
theorem d_Finds_reachOf_13 : decode b_Finds_reachOf 13 = .ok (.iaload, 1) := by decide +kernel
theorem d_Finds_reachOf_14 : decode b_Finds_reachOf 14 = .ok (.goto 4, 3) := by decide +kernel
theorem d_Finds_reachOf_17 : decode b_Finds_reachOf 17 = .ok (.iconst 0, 1) := by decide +kernel
theorem d_Finds_reachOf_18 : decode b_Finds_reachOf 18 = .ok (.ireturn, 1) := by decide +kernel
theorem d_Finds_growthBy_0 : decode b_Finds_growthBy 0 = .ok (.iconst 0, 1) := by decide +kernel
theorem d_Finds_growthBy_1 : decode b_Finds_growthBy 1 = .ok (.istore_n 2, 1) := by decide +kernel
theorem d_Finds_growthBy_2 : decode b_Finds_growthBy 2 = .ok (.iconst 0, 1) := by decide +kernel
theorem d_Finds_growthBy_3 : decode b_Finds_growthBy 3 = .ok (.istore_n 3, 1) := by decide +kernel
theorem d_Finds_growthBy_4 : decode b_Finds_growthBy 4 = .ok (.iload_n 3, 1) := by decide +kernel
theorem d_Finds_growthBy_5 : decode b_Finds_growthBy 5 = .ok (.aload_n 0, 1) := by decide +kernel
theorem d_Finds_growthBy_6 : decode b_Finds_growthBy 6 = .ok (.iload_n 1, 1) := by decide +kernel
theorem d_Finds_growthBy_7 : decode b_Finds_growthBy 7 = .ok (.invokevirtual 35, 3) := by decide +kernel
theorem d_Finds_growthBy_10 : decode b_Finds_growthBy 10 = .ok (.if_icmp .ge 45, 3) := by decide +kernel
theorem d_Finds_growthBy_13 : decode b_Finds_growthBy 13 = .ok (.aload_n 0, 1) := by decide +kernel
theorem d_Finds_growthBy_14 : decode b_Finds_growthBy 14 = .ok (.getfield 9, 3) := by decide +kernel
theorem d_Finds_growthBy_17 : decode b_Finds_growthBy 17 = .ok (.iload_n 1, 1) := by decide +kernel
theorem d_Finds_growthBy_18 : decode b_Finds_growthBy 18 = .ok (.bipush 6, 2) := by decide +kernel
theorem d_Finds_growthBy_20 : decode b_Finds_growthBy 20 = .ok (.imul, 1) := by decide +kernel
theorem d_Finds_growthBy_21 : decode b_Finds_growthBy 21 = .ok (.iload_n 3, 1) := by decide +kernel
theorem d_Finds_growthBy_22 : decode b_Finds_growthBy 22 = .ok (.iadd, 1) := by decide +kernel
theorem d_Finds_growthBy_23 : decode b_Finds_growthBy 23 = .ok (.iaload, 1) := by decide +kernel
theorem d_Finds_growthBy_24 : decode b_Finds_growthBy 24 = .ok (.istore 4, 2) := by decide +kernel
theorem d_Finds_growthBy_26 : decode b_Finds_growthBy 26 = .ok (.iload 4, 2) := by decide +kernel
theorem d_Finds_growthBy_28 : decode b_Finds_growthBy 28 = .ok (.bipush 6, 2) := by decide +kernel
theorem d_Finds_growthBy_30 : decode b_Finds_growthBy 30 = .ok (.if_icmp .ne 9, 3) := by decide +kernel
theorem d_Finds_growthBy_33 : decode b_Finds_growthBy 33 = .ok (.iinc 2 (-1), 3) := by decide +kernel
theorem d_Finds_growthBy_36 : decode b_Finds_growthBy 36 = .ok (.goto 13, 3) := by decide +kernel
theorem d_Finds_growthBy_39 : decode b_Finds_growthBy 39 = .ok (.iload 4, 2) := by decide +kernel
theorem d_Finds_growthBy_41 : decode b_Finds_growthBy 41 = .ok (.bipush 7, 2) := by decide +kernel
theorem d_Finds_growthBy_43 : decode b_Finds_growthBy 43 = .ok (.if_icmp .eq 6, 3) := by decide +kernel
theorem d_Finds_growthBy_46 : decode b_Finds_growthBy 46 = .ok (.iinc 2 1, 3) := by decide +kernel
theorem d_Finds_growthBy_49 : decode b_Finds_growthBy 49 = .ok (.iinc 3 1, 3) := by decide +kernel
theorem d_Finds_growthBy_52 : decode b_Finds_growthBy 52 = .ok (.goto (-48), 3) := by decide +kernel
theorem d_Finds_growthBy_55 : decode b_Finds_growthBy 55 = .ok (.iload_n 2, 1) := by decide +kernel
theorem d_Finds_growthBy_56 : decode b_Finds_growthBy 56 = .ok (.ireturn, 1) := by decide +kernel
theorem d_Finds_add_0 : decode b_Finds_add 0 = .ok (.aload_n 0, 1) := by decide +kernel
theorem d_Finds_add_1 : decode b_Finds_add 1 = .ok (.getfield 21, 3) := by decide +kernel
theorem d_Finds_add_4 : decode b_Finds_add 4 = .ok (.bipush 40, 2) := by decide +kernel
theorem d_Finds_add_6 : decode b_Finds_add 6 = .ok (.if_icmp .ge 15, 3) := by decide +kernel
theorem d_Finds_add_9 : decode b_Finds_add 9 = .ok (.iload_n 2, 1) := by decide +kernel
theorem d_Finds_add_10 : decode b_Finds_add 10 = .ok (.bipush 6, 2) := by decide +kernel
theorem d_Finds_add_12 : decode b_Finds_add 12 = .ok (.if_icmp .gt 9, 3) := by decide +kernel
theorem d_Finds_add_15 : decode b_Finds_add 15 = .ok (.iload_n 2, 1) := by decide +kernel
theorem d_Finds_add_16 : decode b_Finds_add 16 = .ok (.aload_n 1, 1) := by decide +kernel
theorem d_Finds_add_17 : decode b_Finds_add 17 = .ok (.arraylength, 1) := by decide +kernel
theorem d_Finds_add_18 : decode b_Finds_add 18 = .ok (.if_icmp .le 5, 3) := by decide +kernel
theorem d_Finds_add_21 : decode b_Finds_add 21 = .ok (.iconst 0, 1) := by decide +kernel
theorem d_Finds_add_22 : decode b_Finds_add 22 = .ok (.ireturn, 1) := by decide +kernel
theorem d_Finds_add_23 : decode b_Finds_add 23 = .ok (.iconst 0, 1) := by decide +kernel
theorem d_Finds_add_24 : decode b_Finds_add 24 = .ok (.istore 5, 2) := by decide +kernel
theorem d_Finds_add_26 : decode b_Finds_add 26 = .ok (.iload 5, 2) := by decide +kernel
theorem d_Finds_add_28 : decode b_Finds_add 28 = .ok (.iload_n 2, 1) := by decide +kernel
theorem d_Finds_add_29 : decode b_Finds_add 29 = .ok (.if_icmp .ge 28, 3) := by decide +kernel
theorem d_Finds_add_32 : decode b_Finds_add 32 = .ok (.aload_n 0, 1) := by decide +kernel
theorem d_Finds_add_33 : decode b_Finds_add 33 = .ok (.getfield 9, 3) := by decide +kernel
theorem d_Finds_add_36 : decode b_Finds_add 36 = .ok (.aload_n 0, 1) := by decide +kernel
theorem d_Finds_add_37 : decode b_Finds_add 37 = .ok (.getfield 21, 3) := by decide +kernel
theorem d_Finds_add_40 : decode b_Finds_add 40 = .ok (.bipush 6, 2) := by decide +kernel
theorem d_Finds_add_42 : decode b_Finds_add 42 = .ok (.imul, 1) := by decide +kernel
theorem d_Finds_add_43 : decode b_Finds_add 43 = .ok (.iload 5, 2) := by decide +kernel
theorem d_Finds_add_45 : decode b_Finds_add 45 = .ok (.iadd, 1) := by decide +kernel
theorem d_Finds_add_46 : decode b_Finds_add 46 = .ok (.aload_n 1, 1) := by decide +kernel
theorem d_Finds_add_47 : decode b_Finds_add 47 = .ok (.iload 5, 2) := by decide +kernel
theorem d_Finds_add_49 : decode b_Finds_add 49 = .ok (.iaload, 1) := by decide +kernel
theorem d_Finds_add_50 : decode b_Finds_add 50 = .ok (.iastore, 1) := by decide +kernel
theorem d_Finds_add_51 : decode b_Finds_add 51 = .ok (.iinc 5 1, 3) := by decide +kernel
theorem d_Finds_add_54 : decode b_Finds_add 54 = .ok (.goto (-28), 3) := by decide +kernel
theorem d_Finds_add_57 : decode b_Finds_add 57 = .ok (.aload_n 0, 1) := by decide +kernel
theorem d_Finds_add_58 : decode b_Finds_add 58 = .ok (.getfield 15, 3) := by decide +kernel
theorem d_Finds_add_61 : decode b_Finds_add 61 = .ok (.aload_n 0, 1) := by decide +kernel
theorem d_Finds_add_62 : decode b_Finds_add 62 = .ok (.getfield 21, 3) := by decide +kernel
theorem d_Finds_add_65 : decode b_Finds_add 65 = .ok (.iload_n 2, 1) := by decide +kernel
theorem d_Finds_add_66 : decode b_Finds_add 66 = .ok (.iastore, 1) := by decide +kernel
theorem d_Finds_add_67 : decode b_Finds_add 67 = .ok (.aload_n 0, 1) := by decide +kernel
theorem d_Finds_add_68 : decode b_Finds_add 68 = .ok (.getfield 18, 3) := by decide +kernel
theorem d_Finds_add_71 : decode b_Finds_add 71 = .ok (.aload_n 0, 1) := by decide +kernel
theorem d_Finds_add_72 : decode b_Finds_add 72 = .ok (.getfield 21, 3) := by decide +kernel
theorem d_Finds_add_75 : decode b_Finds_add 75 = .ok (.iload_n 3, 1) := by decide +kernel
theorem d_Finds_add_76 : decode b_Finds_add 76 = .ok (.iastore, 1) := by decide +kernel
theorem d_Finds_add_77 : decode b_Finds_add 77 = .ok (.aload_n 0, 1) := by decide +kernel
theorem d_Finds_add_78 : decode b_Finds_add 78 = .ok (.iload 4, 2) := by decide +kernel
theorem d_Finds_add_80 : decode b_Finds_add 80 = .ok (.putfield 25, 3) := by decide +kernel
theorem d_Finds_add_83 : decode b_Finds_add 83 = .ok (.aload_n 0, 1) := by decide +kernel
theorem d_Finds_add_84 : decode b_Finds_add 84 = .ok (.dup, 1) := by decide +kernel
theorem d_Finds_add_85 : decode b_Finds_add 85 = .ok (.getfield 21, 3) := by decide +kernel
theorem d_Finds_add_88 : decode b_Finds_add 88 = .ok (.iconst 1, 1) := by decide +kernel
theorem d_Finds_add_89 : decode b_Finds_add 89 = .ok (.iadd, 1) := by decide +kernel
theorem d_Finds_add_90 : decode b_Finds_add 90 = .ok (.putfield 21, 3) := by decide +kernel
theorem d_Finds_add_93 : decode b_Finds_add 93 = .ok (.iconst 1, 1) := by decide +kernel
theorem d_Finds_add_94 : decode b_Finds_add 94 = .ok (.ireturn, 1) := by decide +kernel
theorem d_Integer_bitCount_0 : decode b_Integer_bitCount 0 = .ok (.iload_n 0, 1) := by decide +kernel
theorem d_Integer_bitCount_1 : decode b_Integer_bitCount 1 = .ok (.iload_n 0, 1) := by decide +kernel
theorem d_Integer_bitCount_2 : decode b_Integer_bitCount 2 = .ok (.iconst 1, 1) := by decide +kernel
theorem d_Integer_bitCount_3 : decode b_Integer_bitCount 3 = .ok (.iushr, 1) := by decide +kernel
theorem d_Integer_bitCount_4 : decode b_Integer_bitCount 4 = .ok (.ldc_w 265, 3) := by decide +kernel
theorem d_Integer_bitCount_7 : decode b_Integer_bitCount 7 = .ok (.iand, 1) := by decide +kernel
theorem d_Integer_bitCount_8 : decode b_Integer_bitCount 8 = .ok (.isub, 1) := by decide +kernel
theorem d_Integer_bitCount_9 : decode b_Integer_bitCount 9 = .ok (.istore_n 0, 1) := by decide +kernel
theorem d_Integer_bitCount_10 : decode b_Integer_bitCount 10 = .ok (.iload_n 0, 1) := by decide +kernel
theorem d_Integer_bitCount_11 : decode b_Integer_bitCount 11 = .ok (.ldc_w 266, 3) := by decide +kernel
theorem d_Integer_bitCount_14 : decode b_Integer_bitCount 14 = .ok (.iand, 1) := by decide +kernel
theorem d_Integer_bitCount_15 : decode b_Integer_bitCount 15 = .ok (.iload_n 0, 1) := by decide +kernel
theorem d_Integer_bitCount_16 : decode b_Integer_bitCount 16 = .ok (.iconst 2, 1) := by decide +kernel
theorem d_Integer_bitCount_17 : decode b_Integer_bitCount 17 = .ok (.iushr, 1) := by decide +kernel
theorem d_Integer_bitCount_18 : decode b_Integer_bitCount 18 = .ok (.ldc_w 266, 3) := by decide +kernel
theorem d_Integer_bitCount_21 : decode b_Integer_bitCount 21 = .ok (.iand, 1) := by decide +kernel
theorem d_Integer_bitCount_22 : decode b_Integer_bitCount 22 = .ok (.iadd, 1) := by decide +kernel
theorem d_Integer_bitCount_23 : decode b_Integer_bitCount 23 = .ok (.istore_n 0, 1) := by decide +kernel
theorem d_Integer_bitCount_24 : decode b_Integer_bitCount 24 = .ok (.iload_n 0, 1) := by decide +kernel
theorem d_Integer_bitCount_25 : decode b_Integer_bitCount 25 = .ok (.iload_n 0, 1) := by decide +kernel
theorem d_Integer_bitCount_26 : decode b_Integer_bitCount 26 = .ok (.iconst 4, 1) := by decide +kernel
theorem d_Integer_bitCount_27 : decode b_Integer_bitCount 27 = .ok (.iushr, 1) := by decide +kernel
theorem d_Integer_bitCount_28 : decode b_Integer_bitCount 28 = .ok (.iadd, 1) := by decide +kernel
theorem d_Integer_bitCount_29 : decode b_Integer_bitCount 29 = .ok (.ldc_w 267, 3) := by decide +kernel
theorem d_Integer_bitCount_32 : decode b_Integer_bitCount 32 = .ok (.iand, 1) := by decide +kernel
theorem d_Integer_bitCount_33 : decode b_Integer_bitCount 33 = .ok (.istore_n 0, 1) := by decide +kernel
theorem d_Integer_bitCount_34 : decode b_Integer_bitCount 34 = .ok (.iload_n 0, 1) := by decide +kernel
theorem d_Integer_bitCount_35 : decode b_Integer_bitCount 35 = .ok (.iload_n 0, 1) := by decide +kernel
theorem d_Integer_bitCount_36 : decode b_Integer_bitCount 36 = .ok (.bipush 8, 2) := by decide +kernel
theorem d_Integer_bitCount_38 : decode b_Integer_bitCount 38 = .ok (.iushr, 1) := by decide +kernel
theorem d_Integer_bitCount_39 : decode b_Integer_bitCount 39 = .ok (.iadd, 1) := by decide +kernel
theorem d_Integer_bitCount_40 : decode b_Integer_bitCount 40 = .ok (.istore_n 0, 1) := by decide +kernel
theorem d_Integer_bitCount_41 : decode b_Integer_bitCount 41 = .ok (.iload_n 0, 1) := by decide +kernel
theorem d_Integer_bitCount_42 : decode b_Integer_bitCount 42 = .ok (.iload_n 0, 1) := by decide +kernel
theorem d_Integer_bitCount_43 : decode b_Integer_bitCount 43 = .ok (.bipush 16, 2) := by decide +kernel
theorem d_Integer_bitCount_45 : decode b_Integer_bitCount 45 = .ok (.iushr, 1) := by decide +kernel
theorem d_Integer_bitCount_46 : decode b_Integer_bitCount 46 = .ok (.iadd, 1) := by decide +kernel
theorem d_Integer_bitCount_47 : decode b_Integer_bitCount 47 = .ok (.istore_n 0, 1) := by decide +kernel
theorem d_Integer_bitCount_48 : decode b_Integer_bitCount 48 = .ok (.iload_n 0, 1) := by decide +kernel
theorem d_Integer_bitCount_49 : decode b_Integer_bitCount 49 = .ok (.bipush 63, 2) := by decide +kernel
theorem d_Integer_bitCount_51 : decode b_Integer_bitCount 51 = .ok (.iand, 1) := by decide +kernel
theorem d_Integer_bitCount_52 : decode b_Integer_bitCount 52 = .ok (.ireturn, 1) := by decide +kernel
