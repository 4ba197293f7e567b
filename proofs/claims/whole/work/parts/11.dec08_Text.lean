/-! decode rows of RingPacker$Text -/
theorem d_Text_init_0 : decode prog_10_method_1_code 0 = .ok (.aload_n 0, 1) := by decide +kernel
theorem d_Text_init_1 : decode prog_10_method_1_code 1 = .ok (.invokespecial 3, 3) := by decide +kernel
theorem d_Text_init_4 : decode prog_10_method_1_code 4 = .ok (.aload_n 0, 1) := by decide +kernel
theorem d_Text_init_5 : decode prog_10_method_1_code 5 = .ok (.bipush 96, 2) := by decide +kernel
theorem d_Text_init_7 : decode prog_10_method_1_code 7 = .ok (.newarray .int, 2) := by decide +kernel
theorem d_Text_init_9 : decode prog_10_method_1_code 9 = .ok (.putfield 9, 3) := by decide +kernel
theorem d_Text_init_12 : decode prog_10_method_1_code 12 = .ok (.return_, 1) := by decide +kernel
theorem d_Text_add_0 : decode prog_10_method_2_code 0 = .ok (.iload_n 1, 1) := by decide +kernel
theorem d_Text_add_1 : decode prog_10_method_2_code 1 = .ok (.invokestatic 15, 3) := by decide +kernel
theorem d_Text_add_4 : decode prog_10_method_2_code 4 = .ok (.ifCond .eq 12, 3) := by decide +kernel
theorem d_Text_add_7 : decode prog_10_method_2_code 7 = .ok (.aload_n 0, 1) := by decide +kernel
theorem d_Text_add_8 : decode prog_10_method_2_code 8 = .ok (.getfield 19, 3) := by decide +kernel
theorem d_Text_add_11 : decode prog_10_method_2_code 11 = .ok (.bipush 96, 2) := by decide +kernel
theorem d_Text_add_13 : decode prog_10_method_2_code 13 = .ok (.if_icmp .lt 5, 3) := by decide +kernel
theorem d_Text_add_16 : decode prog_10_method_2_code 16 = .ok (.iconst 0, 1) := by decide +kernel
theorem d_Text_add_17 : decode prog_10_method_2_code 17 = .ok (.ireturn, 1) := by decide +kernel
theorem d_Text_add_18 : decode prog_10_method_2_code 18 = .ok (.aload_n 0, 1) := by decide +kernel
theorem d_Text_add_19 : decode prog_10_method_2_code 19 = .ok (.getfield 9, 3) := by decide +kernel
theorem d_Text_add_22 : decode prog_10_method_2_code 22 = .ok (.aload_n 0, 1) := by decide +kernel
theorem d_Text_add_23 : decode prog_10_method_2_code 23 = .ok (.getfield 19, 3) := by decide +kernel
theorem d_Text_add_26 : decode prog_10_method_2_code 26 = .ok (.iload_n 1, 1) := by decide +kernel
theorem d_Text_add_27 : decode prog_10_method_2_code 27 = .ok (.iastore, 1) := by decide +kernel
theorem d_Text_add_28 : decode prog_10_method_2_code 28 = .ok (.aload_n 0, 1) := by decide +kernel
theorem d_Text_add_29 : decode prog_10_method_2_code 29 = .ok (.dup, 1) := by decide +kernel
theorem d_Text_add_30 : decode prog_10_method_2_code 30 = .ok (.getfield 19, 3) := by decide +kernel
theorem d_Text_add_33 : decode prog_10_method_2_code 33 = .ok (.iconst 1, 1) := by decide +kernel
theorem d_Text_add_34 : decode prog_10_method_2_code 34 = .ok (.iadd, 1) := by decide +kernel
theorem d_Text_add_35 : decode prog_10_method_2_code 35 = .ok (.putfield 19, 3) := by decide +kernel
theorem d_Text_add_38 : decode prog_10_method_2_code 38 = .ok (.iconst 1, 1) := by decide +kernel
theorem d_Text_add_39 : decode prog_10_method_2_code 39 = .ok (.ireturn, 1) := by decide +kernel
theorem d_Text_get_0 : decode prog_10_method_3_code 0 = .ok (.iload_n 1, 1) := by decide +kernel
theorem d_Text_get_1 : decode prog_10_method_3_code 1 = .ok (.ifCond .lt 20, 3) := by decide +kernel
theorem d_Text_get_4 : decode prog_10_method_3_code 4 = .ok (.iload_n 1, 1) := by decide +kernel
theorem d_Text_get_5 : decode prog_10_method_3_code 5 = .ok (.aload_n 0, 1) := by decide +kernel
theorem d_Text_get_6 : decode prog_10_method_3_code 6 = .ok (.getfield 19, 3) := by decide +kernel
theorem d_Text_get_9 : decode prog_10_method_3_code 9 = .ok (.if_icmp .ge 12, 3) := by decide +kernel
theorem d_Text_get_12 : decode prog_10_method_3_code 12 = .ok (.aload_n 0, 1) := by decide +kernel
theorem d_Text_get_13 : decode prog_10_method_3_code 13 = .ok (.getfield 9, 3) := by decide +kernel
theorem d_Text_get_16 : decode prog_10_method_3_code 16 = .ok (.iload_n 1, 1) := by decide +kernel
theorem d_Text_get_17 : decode prog_10_method_3_code 17 = .ok (.iaload, 1) := by decide +kernel
theorem d_Text_get_18 : decode prog_10_method_3_code 18 = .ok (.goto 4, 3) := by decide +kernel
theorem d_Text_get_21 : decode prog_10_method_3_code 21 = .ok (.iconst (-1), 1) := by decide +kernel
theorem d_Text_get_22 : decode prog_10_method_3_code 22 = .ok (.ireturn, 1) := by decide +kernel
theorem d_Text_makeEmpty_0 : decode prog_10_method_4_code 0 = .ok (.aload_n 0, 1) := by decide +kernel
theorem d_Text_makeEmpty_1 : decode prog_10_method_4_code 1 = .ok (.iconst 0, 1) := by decide +kernel
theorem d_Text_makeEmpty_2 : decode prog_10_method_4_code 2 = .ok (.putfield 19, 3) := by decide +kernel
theorem d_Text_makeEmpty_5 : decode prog_10_method_4_code 5 = .ok (.return_, 1) := by decide +kernel
theorem d_Text_become_0 : decode prog_10_method_5_code 0 = .ok (.aload_n 1, 1) := by decide +kernel
theorem d_Text_become_1 : decode prog_10_method_5_code 1 = .ok (.getfield 9, 3) := by decide +kernel
theorem d_Text_become_4 : decode prog_10_method_5_code 4 = .ok (.iconst 0, 1) := by decide +kernel
theorem d_Text_become_5 : decode prog_10_method_5_code 5 = .ok (.aload_n 0, 1) := by decide +kernel
theorem d_Text_become_6 : decode prog_10_method_5_code 6 = .ok (.getfield 9, 3) := by decide +kernel
theorem d_Text_become_9 : decode prog_10_method_5_code 9 = .ok (.iconst 0, 1) := by decide +kernel
theorem d_Text_become_10 : decode prog_10_method_5_code 10 = .ok (.bipush 96, 2) := by decide +kernel
theorem d_Text_become_12 : decode prog_10_method_5_code 12 = .ok (.invokestatic 23, 3) := by decide +kernel
theorem d_Text_become_15 : decode prog_10_method_5_code 15 = .ok (.aload_n 0, 1) := by decide +kernel
theorem d_Text_become_16 : decode prog_10_method_5_code 16 = .ok (.aload_n 1, 1) := by decide +kernel
theorem d_Text_become_17 : decode prog_10_method_5_code 17 = .ok (.getfield 19, 3) := by decide +kernel
theorem d_Text_become_20 : decode prog_10_method_5_code 20 = .ok (.putfield 19, 3) := by decide +kernel
theorem d_Text_become_23 : decode prog_10_method_5_code 23 = .ok (.return_, 1) := by decide +kernel
theorem d_Text_followsSmallLetter_0 : decode prog_10_method_6_code 0 = .ok (.aload_n 0, 1) := by decide +kernel
theorem d_Text_followsSmallLetter_1 : decode prog_10_method_6_code 1 = .ok (.iload_n 1, 1) := by decide +kernel
theorem d_Text_followsSmallLetter_2 : decode prog_10_method_6_code 2 = .ok (.iconst 1, 1) := by decide +kernel
theorem d_Text_followsSmallLetter_3 : decode prog_10_method_6_code 3 = .ok (.isub, 1) := by decide +kernel
theorem d_Text_followsSmallLetter_4 : decode prog_10_method_6_code 4 = .ok (.invokevirtual 29, 3) := by decide +kernel
theorem d_Text_followsSmallLetter_7 : decode prog_10_method_6_code 7 = .ok (.istore_n 2, 1) := by decide +kernel
theorem d_Text_followsSmallLetter_8 : decode prog_10_method_6_code 8 = .ok (.iload_n 2, 1) := by decide +kernel
theorem d_Text_followsSmallLetter_9 : decode prog_10_method_6_code 9 = .ok (.bipush 97, 2) := by decide +kernel
theorem d_Text_followsSmallLetter_11 : decode prog_10_method_6_code 11 = .ok (.if_icmp .lt 13, 3) := by decide +kernel
theorem d_Text_followsSmallLetter_14 : decode prog_10_method_6_code 14 = .ok (.iload_n 2, 1) := by decide +kernel
theorem d_Text_followsSmallLetter_15 : decode prog_10_method_6_code 15 = .ok (.bipush 122, 2) := by decide +kernel
theorem d_Text_followsSmallLetter_17 : decode prog_10_method_6_code 17 = .ok (.if_icmp .gt 7, 3) := by decide +kernel
theorem d_Text_followsSmallLetter_20 : decode prog_10_method_6_code 20 = .ok (.iconst 1, 1) := by decide +kernel
theorem d_Text_followsSmallLetter_21 : decode prog_10_method_6_code 21 = .ok (.goto 4, 3) := by decide +kernel
theorem d_Text_followsSmallLetter_24 : decode prog_10_method_6_code 24 = .ok (.iconst 0, 1) := by decide +kernel
theorem d_Text_followsSmallLetter_25 : decode prog_10_method_6_code 25 = .ok (.ireturn, 1) := by decide +kernel
theorem d_Text_equalBytes_0 : decode prog_10_method_7_code 0 = .ok (.iload_n 3, 1) := by decide +kernel
theorem d_Text_equalBytes_1 : decode prog_10_method_7_code 1 = .ok (.aload_n 0, 1) := by decide +kernel
theorem d_Text_equalBytes_2 : decode prog_10_method_7_code 2 = .ok (.getfield 19, 3) := by decide +kernel
theorem d_Text_equalBytes_5 : decode prog_10_method_7_code 5 = .ok (.iload_n 2, 1) := by decide +kernel
theorem d_Text_equalBytes_6 : decode prog_10_method_7_code 6 = .ok (.isub, 1) := by decide +kernel
theorem d_Text_equalBytes_7 : decode prog_10_method_7_code 7 = .ok (.invokestatic 33, 3) := by decide +kernel
theorem d_Text_equalBytes_10 : decode prog_10_method_7_code 10 = .ok (.istore 4, 2) := by decide +kernel
theorem d_Text_equalBytes_12 : decode prog_10_method_7_code 12 = .ok (.iconst 0, 1) := by decide +kernel
theorem d_Text_equalBytes_13 : decode prog_10_method_7_code 13 = .ok (.istore 5, 2) := by decide +kernel
theorem d_Text_equalBytes_15 : decode prog_10_method_7_code 15 = .ok (.iload 5, 2) := by decide +kernel
theorem d_Text_equalBytes_17 : decode prog_10_method_7_code 17 = .ok (.iload 4, 2) := by decide +kernel
theorem d_Text_equalBytes_19 : decode prog_10_method_7_code 19 = .ok (.if_icmp .ge 30, 3) := by decide +kernel
theorem d_Text_equalBytes_22 : decode prog_10_method_7_code 22 = .ok (.aload_n 0, 1) := by decide +kernel
theorem d_Text_equalBytes_23 : decode prog_10_method_7_code 23 = .ok (.getfield 9, 3) := by decide +kernel
theorem d_Text_equalBytes_26 : decode prog_10_method_7_code 26 = .ok (.iload_n 1, 1) := by decide +kernel
theorem d_Text_equalBytes_27 : decode prog_10_method_7_code 27 = .ok (.iload 5, 2) := by decide +kernel
theorem d_Text_equalBytes_29 : decode prog_10_method_7_code 29 = .ok (.iadd, 1) := by decide +kernel
theorem d_Text_equalBytes_30 : decode prog_10_method_7_code 30 = .ok (.iaload, 1) := by decide +kernel
theorem d_Text_equalBytes_31 : decode prog_10_method_7_code 31 = .ok (.aload_n 0, 1) := by decide +kernel
theorem d_Text_equalBytes_32 : decode prog_10_method_7_code 32 = .ok (.getfield 9, 3) := by decide +kernel
theorem d_Text_equalBytes_35 : decode prog_10_method_7_code 35 = .ok (.iload_n 2, 1) := by decide +kernel
theorem d_Text_equalBytes_36 : decode prog_10_method_7_code 36 = .ok (.iload 5, 2) := by decide +kernel
theorem d_Text_equalBytes_38 : decode prog_10_method_7_code 38 = .ok (.iadd, 1) := by decide +kernel
theorem d_Text_equalBytes_39 : decode prog_10_method_7_code 39 = .ok (.iaload, 1) := by decide +kernel
theorem d_Text_equalBytes_40 : decode prog_10_method_7_code 40 = .ok (.if_icmp .ne 9, 3) := by decide +kernel
theorem d_Text_equalBytes_43 : decode prog_10_method_7_code 43 = .ok (.iinc 5 1, 3) := by decide +kernel
theorem d_Text_equalBytes_46 : decode prog_10_method_7_code 46 = .ok (.goto (-31), 3) := by decide +kernel
theorem d_Text_equalBytes_49 : decode prog_10_method_7_code 49 = .ok (.iload 5, 2) := by decide +kernel
theorem d_Text_equalBytes_51 : decode prog_10_method_7_code 51 = .ok (.ireturn, 1) := by decide +kernel
