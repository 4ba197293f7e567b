/-! decode rows of RingPacker$Ring -/
theorem d_Ring_init_0 : decode prog_9_method_1_code 0 = .ok (.aload_n 0, 1) := by decide +kernel
theorem d_Ring_init_1 : decode prog_9_method_1_code 1 = .ok (.invokespecial 3, 3) := by decide +kernel
theorem d_Ring_init_4 : decode prog_9_method_1_code 4 = .ok (.aload_n 0, 1) := by decide +kernel
theorem d_Ring_init_5 : decode prog_9_method_1_code 5 = .ok (.iconst 4, 1) := by decide +kernel
theorem d_Ring_init_6 : decode prog_9_method_1_code 6 = .ok (.newarray .int, 2) := by decide +kernel
theorem d_Ring_init_8 : decode prog_9_method_1_code 8 = .ok (.putfield 9, 3) := by decide +kernel
theorem d_Ring_init_11 : decode prog_9_method_1_code 11 = .ok (.return_, 1) := by decide +kernel
theorem d_Ring_reset_0 : decode prog_9_method_2_code 0 = .ok (.iconst 0, 1) := by decide +kernel
theorem d_Ring_reset_1 : decode prog_9_method_2_code 1 = .ok (.istore_n 1, 1) := by decide +kernel
theorem d_Ring_reset_2 : decode prog_9_method_2_code 2 = .ok (.iload_n 1, 1) := by decide +kernel
theorem d_Ring_reset_3 : decode prog_9_method_2_code 3 = .ok (.iconst 4, 1) := by decide +kernel
theorem d_Ring_reset_4 : decode prog_9_method_2_code 4 = .ok (.if_icmp .ge 18, 3) := by decide +kernel
theorem d_Ring_reset_7 : decode prog_9_method_2_code 7 = .ok (.aload_n 0, 1) := by decide +kernel
theorem d_Ring_reset_8 : decode prog_9_method_2_code 8 = .ok (.getfield 9, 3) := by decide +kernel
theorem d_Ring_reset_11 : decode prog_9_method_2_code 11 = .ok (.iload_n 1, 1) := by decide +kernel
theorem d_Ring_reset_12 : decode prog_9_method_2_code 12 = .ok (.iconst 1, 1) := by decide +kernel
theorem d_Ring_reset_13 : decode prog_9_method_2_code 13 = .ok (.iload_n 1, 1) := by decide +kernel
theorem d_Ring_reset_14 : decode prog_9_method_2_code 14 = .ok (.ishl, 1) := by decide +kernel
theorem d_Ring_reset_15 : decode prog_9_method_2_code 15 = .ok (.iastore, 1) := by decide +kernel
theorem d_Ring_reset_16 : decode prog_9_method_2_code 16 = .ok (.iinc 1 1, 3) := by decide +kernel
theorem d_Ring_reset_19 : decode prog_9_method_2_code 19 = .ok (.goto (-17), 3) := by decide +kernel
theorem d_Ring_reset_22 : decode prog_9_method_2_code 22 = .ok (.return_, 1) := by decide +kernel
theorem d_Ring_become_0 : decode prog_9_method_3_code 0 = .ok (.aload_n 1, 1) := by decide +kernel
theorem d_Ring_become_1 : decode prog_9_method_3_code 1 = .ok (.getfield 9, 3) := by decide +kernel
theorem d_Ring_become_4 : decode prog_9_method_3_code 4 = .ok (.iconst 0, 1) := by decide +kernel
theorem d_Ring_become_5 : decode prog_9_method_3_code 5 = .ok (.aload_n 0, 1) := by decide +kernel
theorem d_Ring_become_6 : decode prog_9_method_3_code 6 = .ok (.getfield 9, 3) := by decide +kernel
theorem d_Ring_become_9 : decode prog_9_method_3_code 9 = .ok (.iconst 0, 1) := by decide +kernel
theorem d_Ring_become_10 : decode prog_9_method_3_code 10 = .ok (.iconst 4, 1) := by decide +kernel
theorem d_Ring_become_11 : decode prog_9_method_3_code 11 = .ok (.invokestatic 15, 3) := by decide +kernel
theorem d_Ring_become_14 : decode prog_9_method_3_code 14 = .ok (.return_, 1) := by decide +kernel
theorem d_Ring_remember_0 : decode prog_9_method_4_code 0 = .ok (.iconst 3, 1) := by decide +kernel
theorem d_Ring_remember_1 : decode prog_9_method_4_code 1 = .ok (.istore_n 2, 1) := by decide +kernel
theorem d_Ring_remember_2 : decode prog_9_method_4_code 2 = .ok (.iload_n 2, 1) := by decide +kernel
theorem d_Ring_remember_3 : decode prog_9_method_4_code 3 = .ok (.ifCond .le 23, 3) := by decide +kernel
theorem d_Ring_remember_6 : decode prog_9_method_4_code 6 = .ok (.aload_n 0, 1) := by decide +kernel
theorem d_Ring_remember_7 : decode prog_9_method_4_code 7 = .ok (.getfield 9, 3) := by decide +kernel
theorem d_Ring_remember_10 : decode prog_9_method_4_code 10 = .ok (.iload_n 2, 1) := by decide +kernel
theorem d_Ring_remember_11 : decode prog_9_method_4_code 11 = .ok (.aload_n 0, 1) := by decide +kernel
theorem d_Ring_remember_12 : decode prog_9_method_4_code 12 = .ok (.getfield 9, 3) := by decide +kernel
theorem d_Ring_remember_15 : decode prog_9_method_4_code 15 = .ok (.iload_n 2, 1) := by decide +kernel
theorem d_Ring_remember_16 : decode prog_9_method_4_code 16 = .ok (.iconst 1, 1) := by decide +kernel
theorem d_Ring_remember_17 : decode prog_9_method_4_code 17 = .ok (.isub, 1) := by decide +kernel
theorem d_Ring_remember_18 : decode prog_9_method_4_code 18 = .ok (.iaload, 1) := by decide +kernel
theorem d_Ring_remember_19 : decode prog_9_method_4_code 19 = .ok (.iastore, 1) := by decide +kernel
theorem d_Ring_remember_20 : decode prog_9_method_4_code 20 = .ok (.iinc 2 (-1), 3) := by decide +kernel
theorem d_Ring_remember_23 : decode prog_9_method_4_code 23 = .ok (.goto (-21), 3) := by decide +kernel
theorem d_Ring_remember_26 : decode prog_9_method_4_code 26 = .ok (.aload_n 0, 1) := by decide +kernel
theorem d_Ring_remember_27 : decode prog_9_method_4_code 27 = .ok (.getfield 9, 3) := by decide +kernel
theorem d_Ring_remember_30 : decode prog_9_method_4_code 30 = .ok (.iconst 0, 1) := by decide +kernel
theorem d_Ring_remember_31 : decode prog_9_method_4_code 31 = .ok (.iload_n 1, 1) := by decide +kernel
theorem d_Ring_remember_32 : decode prog_9_method_4_code 32 = .ok (.iastore, 1) := by decide +kernel
theorem d_Ring_remember_33 : decode prog_9_method_4_code 33 = .ok (.return_, 1) := by decide +kernel
theorem d_Ring_isLatest_0 : decode prog_9_method_5_code 0 = .ok (.aload_n 0, 1) := by decide +kernel
theorem d_Ring_isLatest_1 : decode prog_9_method_5_code 1 = .ok (.getfield 9, 3) := by decide +kernel
theorem d_Ring_isLatest_4 : decode prog_9_method_5_code 4 = .ok (.iconst 0, 1) := by decide +kernel
theorem d_Ring_isLatest_5 : decode prog_9_method_5_code 5 = .ok (.iaload, 1) := by decide +kernel
theorem d_Ring_isLatest_6 : decode prog_9_method_5_code 6 = .ok (.iload_n 1, 1) := by decide +kernel
theorem d_Ring_isLatest_7 : decode prog_9_method_5_code 7 = .ok (.if_icmp .ne 7, 3) := by decide +kernel
theorem d_Ring_isLatest_10 : decode prog_9_method_5_code 10 = .ok (.iconst 1, 1) := by decide +kernel
theorem d_Ring_isLatest_11 : decode prog_9_method_5_code 11 = .ok (.goto 4, 3) := by decide +kernel
theorem d_Ring_isLatest_14 : decode prog_9_method_5_code 14 = .ok (.iconst 0, 1) := by decide +kernel
theorem d_Ring_isLatest_15 : decode prog_9_method_5_code 15 = .ok (.ireturn, 1) := by decide +kernel
theorem d_Ring_distanceOf_0 : decode prog_9_method_6_code 0 = .ok (.iload_n 1, 1) := by decide +kernel
theorem d_Ring_distanceOf_1 : decode prog_9_method_6_code 1 = .ok (.iconst 4, 1) := by decide +kernel
theorem d_Ring_distanceOf_2 : decode prog_9_method_6_code 2 = .ok (.if_icmp .ne 12, 3) := by decide +kernel
theorem d_Ring_distanceOf_5 : decode prog_9_method_6_code 5 = .ok (.aload_n 0, 1) := by decide +kernel
theorem d_Ring_distanceOf_6 : decode prog_9_method_6_code 6 = .ok (.getfield 9, 3) := by decide +kernel
theorem d_Ring_distanceOf_9 : decode prog_9_method_6_code 9 = .ok (.iconst 0, 1) := by decide +kernel
theorem d_Ring_distanceOf_10 : decode prog_9_method_6_code 10 = .ok (.iaload, 1) := by decide +kernel
theorem d_Ring_distanceOf_11 : decode prog_9_method_6_code 11 = .ok (.iconst 1, 1) := by decide +kernel
theorem d_Ring_distanceOf_12 : decode prog_9_method_6_code 12 = .ok (.isub, 1) := by decide +kernel
theorem d_Ring_distanceOf_13 : decode prog_9_method_6_code 13 = .ok (.ireturn, 1) := by decide +kernel
theorem d_Ring_distanceOf_14 : decode prog_9_method_6_code 14 = .ok (.iload_n 1, 1) := by decide +kernel
theorem d_Ring_distanceOf_15 : decode prog_9_method_6_code 15 = .ok (.iconst 5, 1) := by decide +kernel
theorem d_Ring_distanceOf_16 : decode prog_9_method_6_code 16 = .ok (.if_icmp .ne 12, 3) := by decide +kernel
theorem d_Ring_distanceOf_19 : decode prog_9_method_6_code 19 = .ok (.aload_n 0, 1) := by decide +kernel
theorem d_Ring_distanceOf_20 : decode prog_9_method_6_code 20 = .ok (.getfield 9, 3) := by decide +kernel
theorem d_Ring_distanceOf_23 : decode prog_9_method_6_code 23 = .ok (.iconst 0, 1) := by decide +kernel
theorem d_Ring_distanceOf_24 : decode prog_9_method_6_code 24 = .ok (.iaload, 1) := by decide +kernel
theorem d_Ring_distanceOf_25 : decode prog_9_method_6_code 25 = .ok (.iconst 1, 1) := by decide +kernel
theorem d_Ring_distanceOf_26 : decode prog_9_method_6_code 26 = .ok (.iadd, 1) := by decide +kernel
theorem d_Ring_distanceOf_27 : decode prog_9_method_6_code 27 = .ok (.ireturn, 1) := by decide +kernel
theorem d_Ring_distanceOf_28 : decode prog_9_method_6_code 28 = .ok (.iload_n 1, 1) := by decide +kernel
theorem d_Ring_distanceOf_29 : decode prog_9_method_6_code 29 = .ok (.ifCond .lt 17, 3) := by decide +kernel
theorem d_Ring_distanceOf_32 : decode prog_9_method_6_code 32 = .ok (.iload_n 1, 1) := by decide +kernel
theorem d_Ring_distanceOf_33 : decode prog_9_method_6_code 33 = .ok (.iconst 4, 1) := by decide +kernel
theorem d_Ring_distanceOf_34 : decode prog_9_method_6_code 34 = .ok (.if_icmp .ge 12, 3) := by decide +kernel
theorem d_Ring_distanceOf_37 : decode prog_9_method_6_code 37 = .ok (.aload_n 0, 1) := by decide +kernel
theorem d_Ring_distanceOf_38 : decode prog_9_method_6_code 38 = .ok (.getfield 9, 3) := by decide +kernel
theorem d_Ring_distanceOf_41 : decode prog_9_method_6_code 41 = .ok (.iload_n 1, 1) := by decide +kernel
theorem d_Ring_distanceOf_42 : decode prog_9_method_6_code 42 = .ok (.iaload, 1) := by decide +kernel
theorem d_Ring_distanceOf_43 : decode prog_9_method_6_code 43 = .ok (.goto 4, 3) := by decide +kernel
theorem d_Ring_distanceOf_46 : decode prog_9_method_6_code 46 = .ok (.iconst 0, 1) := by decide +kernel
theorem d_Ring_distanceOf_47 : decode prog_9_method_6_code 47 = .ok (.ireturn, 1) := by decide +kernel
theorem d_Ring_symbolOf_0 : decode prog_9_method_7_code 0 = .ok (.iconst 0, 1) := by decide +kernel
theorem d_Ring_symbolOf_1 : decode prog_9_method_7_code 1 = .ok (.istore_n 2, 1) := by decide +kernel
theorem d_Ring_symbolOf_2 : decode prog_9_method_7_code 2 = .ok (.iload_n 2, 1) := by decide +kernel
theorem d_Ring_symbolOf_3 : decode prog_9_method_7_code 3 = .ok (.bipush 6, 2) := by decide +kernel
theorem d_Ring_symbolOf_5 : decode prog_9_method_7_code 5 = .ok (.if_icmp .ge 20, 3) := by decide +kernel
theorem d_Ring_symbolOf_8 : decode prog_9_method_7_code 8 = .ok (.aload_n 0, 1) := by decide +kernel
theorem d_Ring_symbolOf_9 : decode prog_9_method_7_code 9 = .ok (.iload_n 2, 1) := by decide +kernel
theorem d_Ring_symbolOf_10 : decode prog_9_method_7_code 10 = .ok (.invokevirtual 21, 3) := by decide +kernel
theorem d_Ring_symbolOf_13 : decode prog_9_method_7_code 13 = .ok (.iload_n 1, 1) := by decide +kernel
theorem d_Ring_symbolOf_14 : decode prog_9_method_7_code 14 = .ok (.if_icmp .ne 5, 3) := by decide +kernel
theorem d_Ring_symbolOf_17 : decode prog_9_method_7_code 17 = .ok (.iload_n 2, 1) := by decide +kernel
theorem d_Ring_symbolOf_18 : decode prog_9_method_7_code 18 = .ok (.ireturn, 1) := by decide +kernel
theorem d_Ring_symbolOf_19 : decode prog_9_method_7_code 19 = .ok (.iinc 2 1, 3) := by decide +kernel
theorem d_Ring_symbolOf_22 : decode prog_9_method_7_code 22 = .ok (.goto (-20), 3) := by decide +kernel
theorem d_Ring_symbolOf_25 : decode prog_9_method_7_code 25 = .ok (.iload_n 1, 1) := by decide +kernel
theorem d_Ring_symbolOf_26 : decode prog_9_method_7_code 26 = .ok (.invokestatic 25, 3) := by decide +kernel
theorem d_Ring_symbolOf_29 : decode prog_9_method_7_code 29 = .ok (.ireturn, 1) := by decide +kernel
theorem d_Ring_plainSymbolOf_0 : decode prog_9_method_8_code 0 = .ok (.bipush 6, 2) := by decide +kernel
theorem d_Ring_plainSymbolOf_2 : decode prog_9_method_8_code 2 = .ok (.istore_n 1, 1) := by decide +kernel
theorem d_Ring_plainSymbolOf_3 : decode prog_9_method_8_code 3 = .ok (.iload_n 1, 1) := by decide +kernel
theorem d_Ring_plainSymbolOf_4 : decode prog_9_method_8_code 4 = .ok (.iconst 1, 1) := by decide +kernel
theorem d_Ring_plainSymbolOf_5 : decode prog_9_method_8_code 5 = .ok (.iadd, 1) := by decide +kernel
theorem d_Ring_plainSymbolOf_6 : decode prog_9_method_8_code 6 = .ok (.bipush 14, 2) := by decide +kernel
theorem d_Ring_plainSymbolOf_8 : decode prog_9_method_8_code 8 = .ok (.if_icmp .ge 20, 3) := by decide +kernel
theorem d_Ring_plainSymbolOf_11 : decode prog_9_method_8_code 11 = .ok (.getstatic 28, 3) := by decide +kernel
theorem d_Ring_plainSymbolOf_14 : decode prog_9_method_8_code 14 = .ok (.iload_n 1, 1) := by decide +kernel
theorem d_Ring_plainSymbolOf_15 : decode prog_9_method_8_code 15 = .ok (.iconst 1, 1) := by decide +kernel
theorem d_Ring_plainSymbolOf_16 : decode prog_9_method_8_code 16 = .ok (.iadd, 1) := by decide +kernel
theorem d_Ring_plainSymbolOf_17 : decode prog_9_method_8_code 17 = .ok (.iaload, 1) := by decide +kernel
theorem d_Ring_plainSymbolOf_18 : decode prog_9_method_8_code 18 = .ok (.iload_n 0, 1) := by decide +kernel
theorem d_Ring_plainSymbolOf_19 : decode prog_9_method_8_code 19 = .ok (.if_icmp .gt 9, 3) := by decide +kernel
theorem d_Ring_plainSymbolOf_22 : decode prog_9_method_8_code 22 = .ok (.iinc 1 1, 3) := by decide +kernel
theorem d_Ring_plainSymbolOf_25 : decode prog_9_method_8_code 25 = .ok (.goto (-22), 3) := by decide +kernel
theorem d_Ring_plainSymbolOf_28 : decode prog_9_method_8_code 28 = .ok (.iload_n 1, 1) := by decide +kernel
theorem d_Ring_plainSymbolOf_29 : decode prog_9_method_8_code 29 = .ok (.ireturn, 1) := by decide +kernel
