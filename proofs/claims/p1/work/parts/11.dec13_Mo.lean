/-! decode rows of RingPackerModel -/
theorem d_Mo_init_0 : decode prog_14_method_1_code 0 = .ok (.aload_n 0, 1) := by decide +kernel
theorem d_Mo_init_1 : decode prog_14_method_1_code 1 = .ok (.invokespecial 1, 3) := by decide +kernel
theorem d_Mo_init_4 : decode prog_14_method_1_code 4 = .ok (.aload_n 0, 1) := by decide +kernel
theorem d_Mo_init_5 : decode prog_14_method_1_code 5 = .ok (.bipush 96, 2) := by decide +kernel
theorem d_Mo_init_7 : decode prog_14_method_1_code 7 = .ok (.newarray .int, 2) := by decide +kernel
theorem d_Mo_init_9 : decode prog_14_method_1_code 9 = .ok (.putfield 7, 3) := by decide +kernel
theorem d_Mo_init_12 : decode prog_14_method_1_code 12 = .ok (.aload_n 0, 1) := by decide +kernel
theorem d_Mo_init_13 : decode prog_14_method_1_code 13 = .ok (.sipush 200, 3) := by decide +kernel
theorem d_Mo_init_16 : decode prog_14_method_1_code 16 = .ok (.newarray .int, 2) := by decide +kernel
theorem d_Mo_init_18 : decode prog_14_method_1_code 18 = .ok (.putfield 13, 3) := by decide +kernel
theorem d_Mo_init_21 : decode prog_14_method_1_code 21 = .ok (.aload_n 0, 1) := by decide +kernel
theorem d_Mo_init_22 : decode prog_14_method_1_code 22 = .ok (.sipush 4000, 3) := by decide +kernel
theorem d_Mo_init_25 : decode prog_14_method_1_code 25 = .ok (.newarray .int, 2) := by decide +kernel
theorem d_Mo_init_27 : decode prog_14_method_1_code 27 = .ok (.putfield 16, 3) := by decide +kernel
theorem d_Mo_init_30 : decode prog_14_method_1_code 30 = .ok (.aload_n 0, 1) := by decide +kernel
theorem d_Mo_init_31 : decode prog_14_method_1_code 31 = .ok (.sipush 1024, 3) := by decide +kernel
theorem d_Mo_init_34 : decode prog_14_method_1_code 34 = .ok (.newarray .int, 2) := by decide +kernel
theorem d_Mo_init_36 : decode prog_14_method_1_code 36 = .ok (.putfield 19, 3) := by decide +kernel
theorem d_Mo_init_39 : decode prog_14_method_1_code 39 = .ok (.aload_n 0, 1) := by decide +kernel
theorem d_Mo_init_40 : decode prog_14_method_1_code 40 = .ok (.sipush 1024, 3) := by decide +kernel
theorem d_Mo_init_43 : decode prog_14_method_1_code 43 = .ok (.newarray .int, 2) := by decide +kernel
theorem d_Mo_init_45 : decode prog_14_method_1_code 45 = .ok (.putfield 22, 3) := by decide +kernel
theorem d_Mo_init_48 : decode prog_14_method_1_code 48 = .ok (.aload_n 0, 1) := by decide +kernel
theorem d_Mo_init_49 : decode prog_14_method_1_code 49 = .ok (.sipush 1024, 3) := by decide +kernel
theorem d_Mo_init_52 : decode prog_14_method_1_code 52 = .ok (.newarray .int, 2) := by decide +kernel
theorem d_Mo_init_54 : decode prog_14_method_1_code 54 = .ok (.putfield 25, 3) := by decide +kernel
theorem d_Mo_init_57 : decode prog_14_method_1_code 57 = .ok (.aload_n 0, 1) := by decide +kernel
theorem d_Mo_init_58 : decode prog_14_method_1_code 58 = .ok (.iconst 4, 1) := by decide +kernel
theorem d_Mo_init_59 : decode prog_14_method_1_code 59 = .ok (.newarray .int, 2) := by decide +kernel
theorem d_Mo_init_61 : decode prog_14_method_1_code 61 = .ok (.putfield 28, 3) := by decide +kernel
theorem d_Mo_init_64 : decode prog_14_method_1_code 64 = .ok (.aload_n 0, 1) := by decide +kernel
theorem d_Mo_init_65 : decode prog_14_method_1_code 65 = .ok (.iconst 4, 1) := by decide +kernel
theorem d_Mo_init_66 : decode prog_14_method_1_code 66 = .ok (.newarray .int, 2) := by decide +kernel
theorem d_Mo_init_68 : decode prog_14_method_1_code 68 = .ok (.putfield 31, 3) := by decide +kernel
theorem d_Mo_init_71 : decode prog_14_method_1_code 71 = .ok (.aload_n 0, 1) := by decide +kernel
theorem d_Mo_init_72 : decode prog_14_method_1_code 72 = .ok (.bipush 50, 2) := by decide +kernel
theorem d_Mo_init_74 : decode prog_14_method_1_code 74 = .ok (.newarray .int, 2) := by decide +kernel
theorem d_Mo_init_76 : decode prog_14_method_1_code 76 = .ok (.putfield 34, 3) := by decide +kernel
theorem d_Mo_init_79 : decode prog_14_method_1_code 79 = .ok (.aload_n 0, 1) := by decide +kernel
theorem d_Mo_init_80 : decode prog_14_method_1_code 80 = .ok (.bipush 50, 2) := by decide +kernel
theorem d_Mo_init_82 : decode prog_14_method_1_code 82 = .ok (.newarray .int, 2) := by decide +kernel
theorem d_Mo_init_84 : decode prog_14_method_1_code 84 = .ok (.putfield 37, 3) := by decide +kernel
theorem d_Mo_init_87 : decode prog_14_method_1_code 87 = .ok (.aload_n 0, 1) := by decide +kernel
theorem d_Mo_init_88 : decode prog_14_method_1_code 88 = .ok (.bipush 50, 2) := by decide +kernel
theorem d_Mo_init_90 : decode prog_14_method_1_code 90 = .ok (.newarray .int, 2) := by decide +kernel
theorem d_Mo_init_92 : decode prog_14_method_1_code 92 = .ok (.putfield 40, 3) := by decide +kernel
theorem d_Mo_init_95 : decode prog_14_method_1_code 95 = .ok (.aload_n 0, 1) := by decide +kernel
theorem d_Mo_init_96 : decode prog_14_method_1_code 96 = .ok (.bipush 50, 2) := by decide +kernel
theorem d_Mo_init_98 : decode prog_14_method_1_code 98 = .ok (.newarray .int, 2) := by decide +kernel
theorem d_Mo_init_100 : decode prog_14_method_1_code 100 = .ok (.putfield 43, 3) := by decide +kernel
theorem d_Mo_init_103 : decode prog_14_method_1_code 103 = .ok (.aload_n 0, 1) := by decide +kernel
theorem d_Mo_init_104 : decode prog_14_method_1_code 104 = .ok (.bipush 50, 2) := by decide +kernel
theorem d_Mo_init_106 : decode prog_14_method_1_code 106 = .ok (.newarray .int, 2) := by decide +kernel
theorem d_Mo_init_108 : decode prog_14_method_1_code 108 = .ok (.putfield 46, 3) := by decide +kernel
theorem d_Mo_init_111 : decode prog_14_method_1_code 111 = .ok (.aload_n 0, 1) := by decide +kernel
theorem d_Mo_init_112 : decode prog_14_method_1_code 112 = .ok (.bipush 50, 2) := by decide +kernel
theorem d_Mo_init_114 : decode prog_14_method_1_code 114 = .ok (.newarray .int, 2) := by decide +kernel
theorem d_Mo_init_116 : decode prog_14_method_1_code 116 = .ok (.putfield 49, 3) := by decide +kernel
theorem d_Mo_init_119 : decode prog_14_method_1_code 119 = .ok (.aload_n 0, 1) := by decide +kernel
theorem d_Mo_init_120 : decode prog_14_method_1_code 120 = .ok (.bipush 50, 2) := by decide +kernel
theorem d_Mo_init_122 : decode prog_14_method_1_code 122 = .ok (.newarray .int, 2) := by decide +kernel
theorem d_Mo_init_124 : decode prog_14_method_1_code 124 = .ok (.putfield 52, 3) := by decide +kernel
theorem d_Mo_init_127 : decode prog_14_method_1_code 127 = .ok (.aload_n 0, 1) := by decide +kernel
theorem d_Mo_init_128 : decode prog_14_method_1_code 128 = .ok (.bipush 96, 2) := by decide +kernel
theorem d_Mo_init_130 : decode prog_14_method_1_code 130 = .ok (.newarray .int, 2) := by decide +kernel
theorem d_Mo_init_132 : decode prog_14_method_1_code 132 = .ok (.putfield 55, 3) := by decide +kernel
theorem d_Mo_init_135 : decode prog_14_method_1_code 135 = .ok (.return_, 1) := by decide +kernel
theorem d_Mo_isByte_0 : decode prog_14_method_2_code 0 = .ok (.iload_n 0, 1) := by decide +kernel
theorem d_Mo_isByte_1 : decode prog_14_method_2_code 1 = .ok (.ifCond .lt 14, 3) := by decide +kernel
theorem d_Mo_isByte_4 : decode prog_14_method_2_code 4 = .ok (.iload_n 0, 1) := by decide +kernel
theorem d_Mo_isByte_5 : decode prog_14_method_2_code 5 = .ok (.sipush 255, 3) := by decide +kernel
theorem d_Mo_isByte_8 : decode prog_14_method_2_code 8 = .ok (.if_icmp .gt 7, 3) := by decide +kernel
theorem d_Mo_isByte_11 : decode prog_14_method_2_code 11 = .ok (.iconst 1, 1) := by decide +kernel
theorem d_Mo_isByte_12 : decode prog_14_method_2_code 12 = .ok (.goto 4, 3) := by decide +kernel
theorem d_Mo_isByte_15 : decode prog_14_method_2_code 15 = .ok (.iconst 0, 1) := by decide +kernel
theorem d_Mo_isByte_16 : decode prog_14_method_2_code 16 = .ok (.ireturn, 1) := by decide +kernel
theorem d_Mo_put_0 : decode prog_14_method_3_code 0 = .ok (.iload_n 1, 1) := by decide +kernel
theorem d_Mo_put_1 : decode prog_14_method_3_code 1 = .ok (.invokestatic 58, 3) := by decide +kernel
theorem d_Mo_put_4 : decode prog_14_method_3_code 4 = .ok (.ifCond .eq 12, 3) := by decide +kernel
theorem d_Mo_put_7 : decode prog_14_method_3_code 7 = .ok (.aload_n 0, 1) := by decide +kernel
theorem d_Mo_put_8 : decode prog_14_method_3_code 8 = .ok (.getfield 62, 3) := by decide +kernel
theorem d_Mo_put_11 : decode prog_14_method_3_code 11 = .ok (.bipush 96, 2) := by decide +kernel
theorem d_Mo_put_13 : decode prog_14_method_3_code 13 = .ok (.if_icmp .ne 5, 3) := by decide +kernel
theorem d_Mo_put_16 : decode prog_14_method_3_code 16 = .ok (.iconst 0, 1) := by decide +kernel
theorem d_Mo_put_17 : decode prog_14_method_3_code 17 = .ok (.ireturn, 1) := by decide +kernel
theorem d_Mo_put_18 : decode prog_14_method_3_code 18 = .ok (.aload_n 0, 1) := by decide +kernel
theorem d_Mo_put_19 : decode prog_14_method_3_code 19 = .ok (.getfield 7, 3) := by decide +kernel
theorem d_Mo_put_22 : decode prog_14_method_3_code 22 = .ok (.aload_n 0, 1) := by decide +kernel
theorem d_Mo_put_23 : decode prog_14_method_3_code 23 = .ok (.getfield 62, 3) := by decide +kernel
theorem d_Mo_put_26 : decode prog_14_method_3_code 26 = .ok (.iload_n 1, 1) := by decide +kernel
theorem d_Mo_put_27 : decode prog_14_method_3_code 27 = .ok (.iastore, 1) := by decide +kernel
theorem d_Mo_put_28 : decode prog_14_method_3_code 28 = .ok (.aload_n 0, 1) := by decide +kernel
theorem d_Mo_put_29 : decode prog_14_method_3_code 29 = .ok (.dup, 1) := by decide +kernel
theorem d_Mo_put_30 : decode prog_14_method_3_code 30 = .ok (.getfield 62, 3) := by decide +kernel
theorem d_Mo_put_33 : decode prog_14_method_3_code 33 = .ok (.iconst 1, 1) := by decide +kernel
theorem d_Mo_put_34 : decode prog_14_method_3_code 34 = .ok (.iadd, 1) := by decide +kernel
theorem d_Mo_put_35 : decode prog_14_method_3_code 35 = .ok (.putfield 62, 3) := by decide +kernel
theorem d_Mo_put_38 : decode prog_14_method_3_code 38 = .ok (.iconst 1, 1) := by decide +kernel
theorem d_Mo_put_39 : decode prog_14_method_3_code 39 = .ok (.ireturn, 1) := by decide +kernel
theorem d_Mo_clear_0 : decode prog_14_method_4_code 0 = .ok (.aload_n 0, 1) := by decide +kernel
theorem d_Mo_clear_1 : decode prog_14_method_4_code 1 = .ok (.iconst 0, 1) := by decide +kernel
theorem d_Mo_clear_2 : decode prog_14_method_4_code 2 = .ok (.putfield 62, 3) := by decide +kernel
theorem d_Mo_clear_5 : decode prog_14_method_4_code 5 = .ok (.return_, 1) := by decide +kernel
theorem d_Mo_length_0 : decode prog_14_method_5_code 0 = .ok (.aload_n 0, 1) := by decide +kernel
theorem d_Mo_length_1 : decode prog_14_method_5_code 1 = .ok (.getfield 62, 3) := by decide +kernel
theorem d_Mo_length_4 : decode prog_14_method_5_code 4 = .ok (.ireturn, 1) := by decide +kernel
theorem d_Mo_at_0 : decode prog_14_method_6_code 0 = .ok (.iload_n 1, 1) := by decide +kernel
theorem d_Mo_at_1 : decode prog_14_method_6_code 1 = .ok (.ifCond .lt 20, 3) := by decide +kernel
theorem d_Mo_at_4 : decode prog_14_method_6_code 4 = .ok (.iload_n 1, 1) := by decide +kernel
theorem d_Mo_at_5 : decode prog_14_method_6_code 5 = .ok (.aload_n 0, 1) := by decide +kernel
theorem d_Mo_at_6 : decode prog_14_method_6_code 6 = .ok (.getfield 62, 3) := by decide +kernel
theorem d_Mo_at_9 : decode prog_14_method_6_code 9 = .ok (.if_icmp .ge 12, 3) := by decide +kernel
theorem d_Mo_at_12 : decode prog_14_method_6_code 12 = .ok (.aload_n 0, 1) := by decide +kernel
theorem d_Mo_at_13 : decode prog_14_method_6_code 13 = .ok (.getfield 7, 3) := by decide +kernel
theorem d_Mo_at_16 : decode prog_14_method_6_code 16 = .ok (.iload_n 1, 1) := by decide +kernel
theorem d_Mo_at_17 : decode prog_14_method_6_code 17 = .ok (.iaload, 1) := by decide +kernel
theorem d_Mo_at_18 : decode prog_14_method_6_code 18 = .ok (.goto 4, 3) := by decide +kernel
theorem d_Mo_at_21 : decode prog_14_method_6_code 21 = .ok (.iconst (-1), 1) := by decide +kernel
theorem d_Mo_at_22 : decode prog_14_method_6_code 22 = .ok (.ireturn, 1) := by decide +kernel
theorem d_Mo_size_0 : decode prog_14_method_7_code 0 = .ok (.aload_n 0, 1) := by decide +kernel
theorem d_Mo_size_1 : decode prog_14_method_7_code 1 = .ok (.getfield 66, 3) := by decide +kernel
theorem d_Mo_size_4 : decode prog_14_method_7_code 4 = .ok (.ireturn, 1) := by decide +kernel
theorem d_Mo_byteAt_0 : decode prog_14_method_8_code 0 = .ok (.iload_n 1, 1) := by decide +kernel
theorem d_Mo_byteAt_1 : decode prog_14_method_8_code 1 = .ok (.ifCond .lt 20, 3) := by decide +kernel
theorem d_Mo_byteAt_4 : decode prog_14_method_8_code 4 = .ok (.iload_n 1, 1) := by decide +kernel
theorem d_Mo_byteAt_5 : decode prog_14_method_8_code 5 = .ok (.aload_n 0, 1) := by decide +kernel
theorem d_Mo_byteAt_6 : decode prog_14_method_8_code 6 = .ok (.getfield 66, 3) := by decide +kernel
theorem d_Mo_byteAt_9 : decode prog_14_method_8_code 9 = .ok (.if_icmp .ge 12, 3) := by decide +kernel
theorem d_Mo_byteAt_12 : decode prog_14_method_8_code 12 = .ok (.aload_n 0, 1) := by decide +kernel
theorem d_Mo_byteAt_13 : decode prog_14_method_8_code 13 = .ok (.getfield 13, 3) := by decide +kernel
theorem d_Mo_byteAt_16 : decode prog_14_method_8_code 16 = .ok (.iload_n 1, 1) := by decide +kernel
theorem d_Mo_byteAt_17 : decode prog_14_method_8_code 17 = .ok (.iaload, 1) := by decide +kernel
theorem d_Mo_byteAt_18 : decode prog_14_method_8_code 18 = .ok (.goto 4, 3) := by decide +kernel
theorem d_Mo_byteAt_21 : decode prog_14_method_8_code 21 = .ok (.iconst (-1), 1) := by decide +kernel
theorem d_Mo_byteAt_22 : decode prog_14_method_8_code 22 = .ok (.ireturn, 1) := by decide +kernel
theorem d_Mo_poke_0 : decode prog_14_method_9_code 0 = .ok (.iload_n 1, 1) := by decide +kernel
theorem d_Mo_poke_1 : decode prog_14_method_9_code 1 = .ok (.ifCond .lt 18, 3) := by decide +kernel
theorem d_Mo_poke_4 : decode prog_14_method_9_code 4 = .ok (.iload_n 1, 1) := by decide +kernel
theorem d_Mo_poke_5 : decode prog_14_method_9_code 5 = .ok (.aload_n 0, 1) := by decide +kernel
theorem d_Mo_poke_6 : decode prog_14_method_9_code 6 = .ok (.getfield 66, 3) := by decide +kernel
theorem d_Mo_poke_9 : decode prog_14_method_9_code 9 = .ok (.if_icmp .ge 10, 3) := by decide +kernel
theorem d_Mo_poke_12 : decode prog_14_method_9_code 12 = .ok (.iload_n 2, 1) := by decide +kernel
theorem d_Mo_poke_13 : decode prog_14_method_9_code 13 = .ok (.invokestatic 58, 3) := by decide +kernel
theorem d_Mo_poke_16 : decode prog_14_method_9_code 16 = .ok (.ifCond .ne 5, 3) := by decide +kernel
theorem d_Mo_poke_19 : decode prog_14_method_9_code 19 = .ok (.iconst 0, 1) := by decide +kernel
theorem d_Mo_poke_20 : decode prog_14_method_9_code 20 = .ok (.ireturn, 1) := by decide +kernel
theorem d_Mo_poke_21 : decode prog_14_method_9_code 21 = .ok (.aload_n 0, 1) := by decide +kernel
theorem d_Mo_poke_22 : decode prog_14_method_9_code 22 = .ok (.getfield 13, 3) := by decide +kernel
theorem d_Mo_poke_25 : decode prog_14_method_9_code 25 = .ok (.iload_n 1, 1) := by decide +kernel
theorem d_Mo_poke_26 : decode prog_14_method_9_code 26 = .ok (.iload_n 2, 1) := by decide +kernel
theorem d_Mo_poke_27 : decode prog_14_method_9_code 27 = .ok (.iastore, 1) := by decide +kernel
theorem d_Mo_poke_28 : decode prog_14_method_9_code 28 = .ok (.iconst 1, 1) := by decide +kernel
theorem d_Mo_poke_29 : decode prog_14_method_9_code 29 = .ok (.ireturn, 1) := by decide +kernel
theorem d_Mo_append_0 : decode prog_14_method_10_code 0 = .ok (.iload_n 1, 1) := by decide +kernel
theorem d_Mo_append_1 : decode prog_14_method_10_code 1 = .ok (.invokestatic 58, 3) := by decide +kernel
theorem d_Mo_append_4 : decode prog_14_method_10_code 4 = .ok (.ifCond .eq 13, 3) := by decide +kernel
theorem d_Mo_append_7 : decode prog_14_method_10_code 7 = .ok (.aload_n 0, 1) := by decide +kernel
theorem d_Mo_append_8 : decode prog_14_method_10_code 8 = .ok (.getfield 66, 3) := by decide +kernel
theorem d_Mo_append_11 : decode prog_14_method_10_code 11 = .ok (.sipush 200, 3) := by decide +kernel
theorem d_Mo_append_14 : decode prog_14_method_10_code 14 = .ok (.if_icmp .ne 5, 3) := by decide +kernel
theorem d_Mo_append_17 : decode prog_14_method_10_code 17 = .ok (.iconst 0, 1) := by decide +kernel
theorem d_Mo_append_18 : decode prog_14_method_10_code 18 = .ok (.ireturn, 1) := by decide +kernel
theorem d_Mo_append_19 : decode prog_14_method_10_code 19 = .ok (.aload_n 0, 1) := by decide +kernel
theorem d_Mo_append_20 : decode prog_14_method_10_code 20 = .ok (.getfield 13, 3) := by decide +kernel
theorem d_Mo_append_23 : decode prog_14_method_10_code 23 = .ok (.aload_n 0, 1) := by decide +kernel
theorem d_Mo_append_24 : decode prog_14_method_10_code 24 = .ok (.getfield 66, 3) := by decide +kernel
theorem d_Mo_append_27 : decode prog_14_method_10_code 27 = .ok (.iload_n 1, 1) := by decide +kernel
theorem d_Mo_append_28 : decode prog_14_method_10_code 28 = .ok (.iastore, 1) := by decide +kernel
theorem d_Mo_append_29 : decode prog_14_method_10_code 29 = .ok (.aload_n 0, 1) := by decide +kernel
theorem d_Mo_append_30 : decode prog_14_method_10_code 30 = .ok (.dup, 1) := by decide +kernel
theorem d_Mo_append_31 : decode prog_14_method_10_code 31 = .ok (.getfield 66, 3) := by decide +kernel
theorem d_Mo_append_34 : decode prog_14_method_10_code 34 = .ok (.iconst 1, 1) := by decide +kernel
theorem d_Mo_append_35 : decode prog_14_method_10_code 35 = .ok (.iadd, 1) := by decide +kernel
theorem d_Mo_append_36 : decode prog_14_method_10_code 36 = .ok (.putfield 66, 3) := by decide +kernel
theorem d_Mo_append_39 : decode prog_14_method_10_code 39 = .ok (.iconst 1, 1) := by decide +kernel
theorem d_Mo_append_40 : decode prog_14_method_10_code 40 = .ok (.ireturn, 1) := by decide +kernel
theorem d_Mo_trim_0 : decode prog_14_method_11_code 0 = .ok (.iload_n 1, 1) := by decide +kernel
theorem d_Mo_trim_1 : decode prog_14_method_11_code 1 = .ok (.ifCond .lt 11, 3) := by decide +kernel
theorem d_Mo_trim_4 : decode prog_14_method_11_code 4 = .ok (.iload_n 1, 1) := by decide +kernel
theorem d_Mo_trim_5 : decode prog_14_method_11_code 5 = .ok (.aload_n 0, 1) := by decide +kernel
theorem d_Mo_trim_6 : decode prog_14_method_11_code 6 = .ok (.getfield 66, 3) := by decide +kernel
theorem d_Mo_trim_9 : decode prog_14_method_11_code 9 = .ok (.if_icmp .le 5, 3) := by decide +kernel
theorem d_Mo_trim_12 : decode prog_14_method_11_code 12 = .ok (.iconst 0, 1) := by decide +kernel
theorem d_Mo_trim_13 : decode prog_14_method_11_code 13 = .ok (.ireturn, 1) := by decide +kernel
theorem d_Mo_trim_14 : decode prog_14_method_11_code 14 = .ok (.aload_n 0, 1) := by decide +kernel
theorem d_Mo_trim_15 : decode prog_14_method_11_code 15 = .ok (.iload_n 1, 1) := by decide +kernel
theorem d_Mo_trim_16 : decode prog_14_method_11_code 16 = .ok (.putfield 66, 3) := by decide +kernel
theorem d_Mo_trim_19 : decode prog_14_method_11_code 19 = .ok (.iconst 1, 1) := by decide +kernel
theorem d_Mo_trim_20 : decode prog_14_method_11_code 20 = .ok (.ireturn, 1) := by decide +kernel
theorem d_Mo_coded_0 : decode prog_14_method_12_code 0 = .ok (.aload_n 0, 1) := by decide +kernel
theorem d_Mo_coded_1 : decode prog_14_method_12_code 1 = .ok (.getfield 69, 3) := by decide +kernel
theorem d_Mo_coded_4 : decode prog_14_method_12_code 4 = .ok (.ireturn, 1) := by decide +kernel
theorem d_Mo_copies_0 : decode prog_14_method_13_code 0 = .ok (.aload_n 0, 1) := by decide +kernel
theorem d_Mo_copies_1 : decode prog_14_method_13_code 1 = .ok (.getfield 72, 3) := by decide +kernel
theorem d_Mo_copies_4 : decode prog_14_method_13_code 4 = .ok (.ireturn, 1) := by decide +kernel
theorem d_Mo_words_0 : decode prog_14_method_14_code 0 = .ok (.aload_n 0, 1) := by decide +kernel
theorem d_Mo_words_1 : decode prog_14_method_14_code 1 = .ok (.getfield 75, 3) := by decide +kernel
theorem d_Mo_words_4 : decode prog_14_method_14_code 4 = .ok (.ireturn, 1) := by decide +kernel
theorem d_Mo_symbols_0 : decode prog_14_method_15_code 0 = .ok (.aload_n 0, 1) := by decide +kernel
theorem d_Mo_symbols_1 : decode prog_14_method_15_code 1 = .ok (.getfield 78, 3) := by decide +kernel
theorem d_Mo_symbols_4 : decode prog_14_method_15_code 4 = .ok (.ireturn, 1) := by decide +kernel
theorem d_Mo_spell_0 : decode prog_14_method_16_code 0 = .ok (.iload_n 0, 1) := by decide +kernel
theorem d_Mo_spell_1 : decode prog_14_method_16_code 1 = .ok (.sipush 256, 3) := by decide +kernel
theorem d_Mo_spell_4 : decode prog_14_method_16_code 4 = .ok (.iload_n 1, 1) := by decide +kernel
theorem d_Mo_spell_5 : decode prog_14_method_16_code 5 = .ok (.imul, 1) := by decide +kernel
theorem d_Mo_spell_6 : decode prog_14_method_16_code 6 = .ok (.iadd, 1) := by decide +kernel
theorem d_Mo_spell_7 : decode prog_14_method_16_code 7 = .ok (.ldc 81, 2) := by decide +kernel
theorem d_Mo_spell_9 : decode prog_14_method_16_code 9 = .ok (.iload_n 2, 1) := by decide +kernel
theorem d_Mo_spell_10 : decode prog_14_method_16_code 10 = .ok (.imul, 1) := by decide +kernel
theorem d_Mo_spell_11 : decode prog_14_method_16_code 11 = .ok (.iadd, 1) := by decide +kernel
theorem d_Mo_spell_12 : decode prog_14_method_16_code 12 = .ok (.i2l, 1) := by decide +kernel
theorem d_Mo_spell_13 : decode prog_14_method_16_code 13 = .ok (.lstore 5, 2) := by decide +kernel
theorem d_Mo_spell_15 : decode prog_14_method_16_code 15 = .ok (.lload 5, 2) := by decide +kernel
theorem d_Mo_spell_17 : decode prog_14_method_16_code 17 = .ok (.ldc2_w 82, 3) := by decide +kernel
theorem d_Mo_spell_20 : decode prog_14_method_16_code 20 = .ok (.iload_n 3, 1) := by decide +kernel
theorem d_Mo_spell_21 : decode prog_14_method_16_code 21 = .ok (.i2l, 1) := by decide +kernel
theorem d_Mo_spell_22 : decode prog_14_method_16_code 22 = .ok (.lmul, 1) := by decide +kernel
theorem d_Mo_spell_23 : decode prog_14_method_16_code 23 = .ok (.ladd, 1) := by decide +kernel
theorem d_Mo_spell_24 : decode prog_14_method_16_code 24 = .ok (.ldc2_w 84, 3) := by decide +kernel
theorem d_Mo_spell_27 : decode prog_14_method_16_code 27 = .ok (.iload 4, 2) := by decide +kernel
theorem d_Mo_spell_29 : decode prog_14_method_16_code 29 = .ok (.i2l, 1) := by decide +kernel
theorem d_Mo_spell_30 : decode prog_14_method_16_code 30 = .ok (.lmul, 1) := by decide +kernel
theorem d_Mo_spell_31 : decode prog_14_method_16_code 31 = .ok (.ladd, 1) := by decide +kernel
theorem d_Mo_spell_32 : decode prog_14_method_16_code 32 = .ok (.lreturn, 1) := by decide +kernel
theorem d_Mo_letters_0 : decode prog_14_method_17_code 0 = .ok (.iload_n 0, 1) := by decide +kernel
theorem d_Mo_letters_1 : decode prog_14_method_17_code 1 = .ok (.iconst 4, 1) := by decide +kernel
theorem d_Mo_letters_2 : decode prog_14_method_17_code 2 = .ok (.if_icmp .ne 75, 3) := by decide +kernel
theorem d_Mo_letters_5 : decode prog_14_method_17_code 5 = .ok (.iload_n 1, 1) := by decide +kernel
theorem d_Mo_letters_6 : decode prog_14_method_17_code 6 = .ok (.ifCond .ne 18, 3) := by decide +kernel
theorem d_Mo_letters_9 : decode prog_14_method_17_code 9 = .ok (.bipush 116, 2) := by decide +kernel
theorem d_Mo_letters_11 : decode prog_14_method_17_code 11 = .ok (.bipush 104, 2) := by decide +kernel
theorem d_Mo_letters_13 : decode prog_14_method_17_code 13 = .ok (.bipush 97, 2) := by decide +kernel
theorem d_Mo_letters_15 : decode prog_14_method_17_code 15 = .ok (.bipush 116, 2) := by decide +kernel
theorem d_Mo_letters_17 : decode prog_14_method_17_code 17 = .ok (.iconst 0, 1) := by decide +kernel
theorem d_Mo_letters_18 : decode prog_14_method_17_code 18 = .ok (.invokestatic 86, 3) := by decide +kernel
theorem d_Mo_letters_21 : decode prog_14_method_17_code 21 = .ok (.goto 55, 3) := by decide +kernel
theorem d_Mo_letters_24 : decode prog_14_method_17_code 24 = .ok (.iload_n 1, 1) := by decide +kernel
theorem d_Mo_letters_25 : decode prog_14_method_17_code 25 = .ok (.iconst 1, 1) := by decide +kernel
theorem d_Mo_letters_26 : decode prog_14_method_17_code 26 = .ok (.if_icmp .ne 18, 3) := by decide +kernel
theorem d_Mo_letters_29 : decode prog_14_method_17_code 29 = .ok (.bipush 119, 2) := by decide +kernel
theorem d_Mo_letters_31 : decode prog_14_method_17_code 31 = .ok (.bipush 105, 2) := by decide +kernel
theorem d_Mo_letters_33 : decode prog_14_method_17_code 33 = .ok (.bipush 116, 2) := by decide +kernel
theorem d_Mo_letters_35 : decode prog_14_method_17_code 35 = .ok (.bipush 104, 2) := by decide +kernel
theorem d_Mo_letters_37 : decode prog_14_method_17_code 37 = .ok (.iconst 0, 1) := by decide +kernel
theorem d_Mo_letters_38 : decode prog_14_method_17_code 38 = .ok (.invokestatic 86, 3) := by decide +kernel
theorem d_Mo_letters_41 : decode prog_14_method_17_code 41 = .ok (.goto 35, 3) := by decide +kernel
theorem d_Mo_letters_44 : decode prog_14_method_17_code 44 = .ok (.iload_n 1, 1) := by decide +kernel
theorem d_Mo_letters_45 : decode prog_14_method_17_code 45 = .ok (.iconst 2, 1) := by decide +kernel
theorem d_Mo_letters_46 : decode prog_14_method_17_code 46 = .ok (.if_icmp .ne 18, 3) := by decide +kernel
theorem d_Mo_letters_49 : decode prog_14_method_17_code 49 = .ok (.bipush 102, 2) := by decide +kernel
theorem d_Mo_letters_51 : decode prog_14_method_17_code 51 = .ok (.bipush 114, 2) := by decide +kernel
theorem d_Mo_letters_53 : decode prog_14_method_17_code 53 = .ok (.bipush 111, 2) := by decide +kernel
theorem d_Mo_letters_55 : decode prog_14_method_17_code 55 = .ok (.bipush 109, 2) := by decide +kernel
theorem d_Mo_letters_57 : decode prog_14_method_17_code 57 = .ok (.iconst 0, 1) := by decide +kernel
theorem d_Mo_letters_58 : decode prog_14_method_17_code 58 = .ok (.invokestatic 86, 3) := by decide +kernel
theorem d_Mo_letters_61 : decode prog_14_method_17_code 61 = .ok (.goto 15, 3) := by decide +kernel
theorem d_Mo_letters_64 : decode prog_14_method_17_code 64 = .ok (.bipush 104, 2) := by decide +kernel
theorem d_Mo_letters_66 : decode prog_14_method_17_code 66 = .ok (.bipush 97, 2) := by decide +kernel
theorem d_Mo_letters_68 : decode prog_14_method_17_code 68 = .ok (.bipush 118, 2) := by decide +kernel
theorem d_Mo_letters_70 : decode prog_14_method_17_code 70 = .ok (.bipush 101, 2) := by decide +kernel
theorem d_Mo_letters_72 : decode prog_14_method_17_code 72 = .ok (.iconst 0, 1) := by decide +kernel
theorem d_Mo_letters_73 : decode prog_14_method_17_code 73 = .ok (.invokestatic 86, 3) := by decide +kernel
theorem d_Mo_letters_76 : decode prog_14_method_17_code 76 = .ok (.lreturn, 1) := by decide +kernel
theorem d_Mo_letters_77 : decode prog_14_method_17_code 77 = .ok (.iload_n 1, 1) := by decide +kernel
theorem d_Mo_letters_78 : decode prog_14_method_17_code 78 = .ok (.ifCond .ne 19, 3) := by decide +kernel
theorem d_Mo_letters_81 : decode prog_14_method_17_code 81 = .ok (.bipush 119, 2) := by decide +kernel
theorem d_Mo_letters_83 : decode prog_14_method_17_code 83 = .ok (.bipush 104, 2) := by decide +kernel
theorem d_Mo_letters_85 : decode prog_14_method_17_code 85 = .ok (.bipush 105, 2) := by decide +kernel
theorem d_Mo_letters_87 : decode prog_14_method_17_code 87 = .ok (.bipush 99, 2) := by decide +kernel
theorem d_Mo_letters_89 : decode prog_14_method_17_code 89 = .ok (.bipush 104, 2) := by decide +kernel
theorem d_Mo_letters_91 : decode prog_14_method_17_code 91 = .ok (.invokestatic 86, 3) := by decide +kernel
theorem d_Mo_letters_94 : decode prog_14_method_17_code 94 = .ok (.goto 58, 3) := by decide +kernel
theorem d_Mo_letters_97 : decode prog_14_method_17_code 97 = .ok (.iload_n 1, 1) := by decide +kernel
theorem d_Mo_letters_98 : decode prog_14_method_17_code 98 = .ok (.iconst 1, 1) := by decide +kernel
theorem d_Mo_letters_99 : decode prog_14_method_17_code 99 = .ok (.if_icmp .ne 19, 3) := by decide +kernel
theorem d_Mo_letters_102 : decode prog_14_method_17_code 102 = .ok (.bipush 116, 2) := by decide +kernel
theorem d_Mo_letters_104 : decode prog_14_method_17_code 104 = .ok (.bipush 104, 2) := by decide +kernel
theorem d_Mo_letters_106 : decode prog_14_method_17_code 106 = .ok (.bipush 101, 2) := by decide +kernel
theorem d_Mo_letters_108 : decode prog_14_method_17_code 108 = .ok (.bipush 114, 2) := by decide +kernel
theorem d_Mo_letters_110 : decode prog_14_method_17_code 110 = .ok (.bipush 101, 2) := by decide +kernel
theorem d_Mo_letters_112 : decode prog_14_method_17_code 112 = .ok (.invokestatic 86, 3) := by decide +kernel
theorem d_Mo_letters_115 : decode prog_14_method_17_code 115 = .ok (.goto 37, 3) := by decide +kernel
theorem d_Mo_letters_118 : decode prog_14_method_17_code 118 = .ok (.iload_n 1, 1) := by decide +kernel
theorem d_Mo_letters_119 : decode prog_14_method_17_code 119 = .ok (.iconst 2, 1) := by decide +kernel
theorem d_Mo_letters_120 : decode prog_14_method_17_code 120 = .ok (.if_icmp .ne 19, 3) := by decide +kernel
theorem d_Mo_letters_123 : decode prog_14_method_17_code 123 = .ok (.bipush 116, 2) := by decide +kernel
theorem d_Mo_letters_125 : decode prog_14_method_17_code 125 = .ok (.bipush 104, 2) := by decide +kernel
theorem d_Mo_letters_127 : decode prog_14_method_17_code 127 = .ok (.bipush 101, 2) := by decide +kernel
theorem d_Mo_letters_129 : decode prog_14_method_17_code 129 = .ok (.bipush 105, 2) := by decide +kernel
theorem d_Mo_letters_131 : decode prog_14_method_17_code 131 = .ok (.bipush 114, 2) := by decide +kernel
theorem d_Mo_letters_133 : decode prog_14_method_17_code 133 = .ok (.invokestatic 86, 3) := by decide +kernel
theorem d_Mo_letters_136 : decode prog_14_method_17_code 136 = .ok (.goto 16, 3) := by decide +kernel
theorem d_Mo_letters_139 : decode prog_14_method_17_code 139 = .ok (.bipush 97, 2) := by decide +kernel
theorem d_Mo_letters_141 : decode prog_14_method_17_code 141 = .ok (.bipush 98, 2) := by decide +kernel
theorem d_Mo_letters_143 : decode prog_14_method_17_code 143 = .ok (.bipush 111, 2) := by decide +kernel
theorem d_Mo_letters_145 : decode prog_14_method_17_code 145 = .ok (.bipush 117, 2) := by decide +kernel
theorem d_Mo_letters_147 : decode prog_14_method_17_code 147 = .ok (.bipush 116, 2) := by decide +kernel
theorem d_Mo_letters_149 : decode prog_14_method_17_code 149 = .ok (.invokestatic 86, 3) := by decide +kernel
theorem d_Mo_letters_152 : decode prog_14_method_17_code 152 = .ok (.lreturn, 1) := by decide +kernel
theorem d_Mo_letter_0 : decode prog_14_method_18_code 0 = .ok (.iload_n 0, 1) := by decide +kernel
theorem d_Mo_letter_1 : decode prog_14_method_18_code 1 = .ok (.iload_n 1, 1) := by decide +kernel
theorem d_Mo_letter_2 : decode prog_14_method_18_code 2 = .ok (.invokestatic 90, 3) := by decide +kernel
theorem d_Mo_letter_5 : decode prog_14_method_18_code 5 = .ok (.lstore_n 3, 1) := by decide +kernel
theorem d_Mo_letter_6 : decode prog_14_method_18_code 6 = .ok (.lload_n 3, 1) := by decide +kernel
theorem d_Mo_letter_7 : decode prog_14_method_18_code 7 = .ok (.bipush 8, 2) := by decide +kernel
theorem d_Mo_letter_9 : decode prog_14_method_18_code 9 = .ok (.iload_n 2, 1) := by decide +kernel
theorem d_Mo_letter_10 : decode prog_14_method_18_code 10 = .ok (.imul, 1) := by decide +kernel
theorem d_Mo_letter_11 : decode prog_14_method_18_code 11 = .ok (.lshr, 1) := by decide +kernel
theorem d_Mo_letter_12 : decode prog_14_method_18_code 12 = .ok (.l2i, 1) := by decide +kernel
theorem d_Mo_letter_13 : decode prog_14_method_18_code 13 = .ok (.sipush 255, 3) := by decide +kernel
theorem d_Mo_letter_16 : decode prog_14_method_18_code 16 = .ok (.iand, 1) := by decide +kernel
theorem d_Mo_letter_17 : decode prog_14_method_18_code 17 = .ok (.ireturn, 1) := by decide +kernel
theorem d_Mo_bytesOf_0 : decode prog_14_method_19_code 0 = .ok (.iload_n 1, 1) := by decide +kernel
theorem d_Mo_bytesOf_1 : decode prog_14_method_19_code 1 = .ok (.iconst 4, 1) := by decide +kernel
theorem d_Mo_bytesOf_2 : decode prog_14_method_19_code 2 = .ok (.idiv, 1) := by decide +kernel
theorem d_Mo_bytesOf_3 : decode prog_14_method_19_code 3 = .ok (.iconst 2, 1) := by decide +kernel
theorem d_Mo_bytesOf_4 : decode prog_14_method_19_code 4 = .ok (.if_icmp .ne 9, 3) := by decide +kernel
theorem d_Mo_bytesOf_7 : decode prog_14_method_19_code 7 = .ok (.iload_n 0, 1) := by decide +kernel
theorem d_Mo_bytesOf_8 : decode prog_14_method_19_code 8 = .ok (.iconst 1, 1) := by decide +kernel
theorem d_Mo_bytesOf_9 : decode prog_14_method_19_code 9 = .ok (.iadd, 1) := by decide +kernel
theorem d_Mo_bytesOf_10 : decode prog_14_method_19_code 10 = .ok (.goto 17, 3) := by decide +kernel
theorem d_Mo_bytesOf_13 : decode prog_14_method_19_code 13 = .ok (.iload_n 1, 1) := by decide +kernel
theorem d_Mo_bytesOf_14 : decode prog_14_method_19_code 14 = .ok (.iconst 4, 1) := by decide +kernel
theorem d_Mo_bytesOf_15 : decode prog_14_method_19_code 15 = .ok (.idiv, 1) := by decide +kernel
theorem d_Mo_bytesOf_16 : decode prog_14_method_19_code 16 = .ok (.iconst 3, 1) := by decide +kernel
theorem d_Mo_bytesOf_17 : decode prog_14_method_19_code 17 = .ok (.if_icmp .ne 9, 3) := by decide +kernel
theorem d_Mo_bytesOf_20 : decode prog_14_method_19_code 20 = .ok (.iload_n 0, 1) := by decide +kernel
theorem d_Mo_bytesOf_21 : decode prog_14_method_19_code 21 = .ok (.iconst 1, 1) := by decide +kernel
theorem d_Mo_bytesOf_22 : decode prog_14_method_19_code 22 = .ok (.isub, 1) := by decide +kernel
theorem d_Mo_bytesOf_23 : decode prog_14_method_19_code 23 = .ok (.goto 4, 3) := by decide +kernel
theorem d_Mo_bytesOf_26 : decode prog_14_method_19_code 26 = .ok (.iload_n 0, 1) := by decide +kernel
theorem d_Mo_bytesOf_27 : decode prog_14_method_19_code 27 = .ok (.ireturn, 1) := by decide +kernel
theorem d_Mo_byteOf_0 : decode prog_14_method_20_code 0 = .ok (.iload_n 1, 1) := by decide +kernel
theorem d_Mo_byteOf_1 : decode prog_14_method_20_code 1 = .ok (.iconst 4, 1) := by decide +kernel
theorem d_Mo_byteOf_2 : decode prog_14_method_20_code 2 = .ok (.idiv, 1) := by decide +kernel
theorem d_Mo_byteOf_3 : decode prog_14_method_20_code 3 = .ok (.istore_n 3, 1) := by decide +kernel
theorem d_Mo_byteOf_4 : decode prog_14_method_20_code 4 = .ok (.iload_n 1, 1) := by decide +kernel
theorem d_Mo_byteOf_5 : decode prog_14_method_20_code 5 = .ok (.iconst 4, 1) := by decide +kernel
theorem d_Mo_byteOf_6 : decode prog_14_method_20_code 6 = .ok (.irem, 1) := by decide +kernel
theorem d_Mo_byteOf_7 : decode prog_14_method_20_code 7 = .ok (.istore 4, 2) := by decide +kernel
theorem d_Mo_byteOf_9 : decode prog_14_method_20_code 9 = .ok (.iload_n 3, 1) := by decide +kernel
theorem d_Mo_byteOf_10 : decode prog_14_method_20_code 10 = .ok (.iconst 2, 1) := by decide +kernel
theorem d_Mo_byteOf_11 : decode prog_14_method_20_code 11 = .ok (.if_icmp .ne 11, 3) := by decide +kernel
theorem d_Mo_byteOf_14 : decode prog_14_method_20_code 14 = .ok (.iload_n 2, 1) := by decide +kernel
theorem d_Mo_byteOf_15 : decode prog_14_method_20_code 15 = .ok (.iload_n 0, 1) := by decide +kernel
theorem d_Mo_byteOf_16 : decode prog_14_method_20_code 16 = .ok (.if_icmp .ne 6, 3) := by decide +kernel
theorem d_Mo_byteOf_19 : decode prog_14_method_20_code 19 = .ok (.bipush 32, 2) := by decide +kernel
theorem d_Mo_byteOf_21 : decode prog_14_method_20_code 21 = .ok (.ireturn, 1) := by decide +kernel
theorem d_Mo_byteOf_22 : decode prog_14_method_20_code 22 = .ok (.iload_n 0, 1) := by decide +kernel
theorem d_Mo_byteOf_23 : decode prog_14_method_20_code 23 = .ok (.iload 4, 2) := by decide +kernel
theorem d_Mo_byteOf_25 : decode prog_14_method_20_code 25 = .ok (.iload_n 3, 1) := by decide +kernel
theorem d_Mo_byteOf_26 : decode prog_14_method_20_code 26 = .ok (.iconst 3, 1) := by decide +kernel
theorem d_Mo_byteOf_27 : decode prog_14_method_20_code 27 = .ok (.if_icmp .ne 9, 3) := by decide +kernel
theorem d_Mo_byteOf_30 : decode prog_14_method_20_code 30 = .ok (.iload_n 2, 1) := by decide +kernel
theorem d_Mo_byteOf_31 : decode prog_14_method_20_code 31 = .ok (.iconst 1, 1) := by decide +kernel
theorem d_Mo_byteOf_32 : decode prog_14_method_20_code 32 = .ok (.iadd, 1) := by decide +kernel
theorem d_Mo_byteOf_33 : decode prog_14_method_20_code 33 = .ok (.goto 4, 3) := by decide +kernel
theorem d_Mo_byteOf_36 : decode prog_14_method_20_code 36 = .ok (.iload_n 2, 1) := by decide +kernel
theorem d_Mo_byteOf_37 : decode prog_14_method_20_code 37 = .ok (.invokestatic 94, 3) := by decide +kernel
theorem d_Mo_byteOf_40 : decode prog_14_method_20_code 40 = .ok (.istore 5, 2) := by decide +kernel
theorem d_Mo_byteOf_42 : decode prog_14_method_20_code 42 = .ok (.iload_n 3, 1) := by decide +kernel
theorem d_Mo_byteOf_43 : decode prog_14_method_20_code 43 = .ok (.iconst 1, 1) := by decide +kernel
theorem d_Mo_byteOf_44 : decode prog_14_method_20_code 44 = .ok (.if_icmp .ne 15, 3) := by decide +kernel
theorem d_Mo_byteOf_47 : decode prog_14_method_20_code 47 = .ok (.iload_n 2, 1) := by decide +kernel
theorem d_Mo_byteOf_48 : decode prog_14_method_20_code 48 = .ok (.ifCond .ne 11, 3) := by decide +kernel
theorem d_Mo_byteOf_51 : decode prog_14_method_20_code 51 = .ok (.iload 5, 2) := by decide +kernel
theorem d_Mo_byteOf_53 : decode prog_14_method_20_code 53 = .ok (.bipush 32, 2) := by decide +kernel
theorem d_Mo_byteOf_55 : decode prog_14_method_20_code 55 = .ok (.isub, 1) := by decide +kernel
theorem d_Mo_byteOf_56 : decode prog_14_method_20_code 56 = .ok (.goto 5, 3) := by decide +kernel
theorem d_Mo_byteOf_59 : decode prog_14_method_20_code 59 = .ok (.iload 5, 2) := by decide +kernel
theorem d_Mo_byteOf_61 : decode prog_14_method_20_code 61 = .ok (.ireturn, 1) := by decide +kernel
theorem d_Mo_match_0 : decode prog_14_method_21_code 0 = .ok (.aload_n 0, 1) := by decide +kernel
theorem d_Mo_match_1 : decode prog_14_method_21_code 1 = .ok (.iconst 0, 1) := by decide +kernel
theorem d_Mo_match_2 : decode prog_14_method_21_code 2 = .ok (.putfield 98, 3) := by decide +kernel
theorem d_Mo_match_5 : decode prog_14_method_21_code 5 = .ok (.aload_n 0, 1) := by decide +kernel
theorem d_Mo_match_6 : decode prog_14_method_21_code 6 = .ok (.iconst 0, 1) := by decide +kernel
theorem d_Mo_match_7 : decode prog_14_method_21_code 7 = .ok (.putfield 101, 3) := by decide +kernel
theorem d_Mo_match_10 : decode prog_14_method_21_code 10 = .ok (.iconst 1, 1) := by decide +kernel
theorem d_Mo_match_11 : decode prog_14_method_21_code 11 = .ok (.istore_n 3, 1) := by decide +kernel
theorem d_Mo_match_12 : decode prog_14_method_21_code 12 = .ok (.iload_n 3, 1) := by decide +kernel
theorem d_Mo_match_13 : decode prog_14_method_21_code 13 = .ok (.iload_n 1, 1) := by decide +kernel
theorem d_Mo_match_14 : decode prog_14_method_21_code 14 = .ok (.if_icmp .gt 99, 3) := by decide +kernel
theorem d_Mo_match_17 : decode prog_14_method_21_code 17 = .ok (.iconst 0, 1) := by decide +kernel
theorem d_Mo_match_18 : decode prog_14_method_21_code 18 = .ok (.istore 4, 2) := by decide +kernel
theorem d_Mo_match_20 : decode prog_14_method_21_code 20 = .ok (.iload 4, 2) := by decide +kernel
theorem d_Mo_match_22 : decode prog_14_method_21_code 22 = .ok (.bipush 57, 2) := by decide +kernel
theorem d_Mo_match_24 : decode prog_14_method_21_code 24 = .ok (.if_icmp .ge 40, 3) := by decide +kernel
theorem d_Mo_match_27 : decode prog_14_method_21_code 27 = .ok (.iload_n 1, 1) := by decide +kernel
theorem d_Mo_match_28 : decode prog_14_method_21_code 28 = .ok (.iload 4, 2) := by decide +kernel
theorem d_Mo_match_30 : decode prog_14_method_21_code 30 = .ok (.iadd, 1) := by decide +kernel
theorem d_Mo_match_31 : decode prog_14_method_21_code 31 = .ok (.iload_n 2, 1) := by decide +kernel
theorem d_Mo_match_32 : decode prog_14_method_21_code 32 = .ok (.if_icmp .ge 32, 3) := by decide +kernel
theorem d_Mo_match_35 : decode prog_14_method_21_code 35 = .ok (.aload_n 0, 1) := by decide +kernel
theorem d_Mo_match_36 : decode prog_14_method_21_code 36 = .ok (.getfield 7, 3) := by decide +kernel
theorem d_Mo_match_39 : decode prog_14_method_21_code 39 = .ok (.iload_n 1, 1) := by decide +kernel
theorem d_Mo_match_40 : decode prog_14_method_21_code 40 = .ok (.iload 4, 2) := by decide +kernel
theorem d_Mo_match_42 : decode prog_14_method_21_code 42 = .ok (.iadd, 1) := by decide +kernel
theorem d_Mo_match_43 : decode prog_14_method_21_code 43 = .ok (.iaload, 1) := by decide +kernel
theorem d_Mo_match_44 : decode prog_14_method_21_code 44 = .ok (.aload_n 0, 1) := by decide +kernel
theorem d_Mo_match_45 : decode prog_14_method_21_code 45 = .ok (.getfield 7, 3) := by decide +kernel
theorem d_Mo_match_48 : decode prog_14_method_21_code 48 = .ok (.iload_n 1, 1) := by decide +kernel
theorem d_Mo_match_49 : decode prog_14_method_21_code 49 = .ok (.iload 4, 2) := by decide +kernel
theorem d_Mo_match_51 : decode prog_14_method_21_code 51 = .ok (.iadd, 1) := by decide +kernel
theorem d_Mo_match_52 : decode prog_14_method_21_code 52 = .ok (.iload_n 3, 1) := by decide +kernel
theorem d_Mo_match_53 : decode prog_14_method_21_code 53 = .ok (.isub, 1) := by decide +kernel
theorem d_Mo_match_54 : decode prog_14_method_21_code 54 = .ok (.iaload, 1) := by decide +kernel
theorem d_Mo_match_55 : decode prog_14_method_21_code 55 = .ok (.if_icmp .ne 9, 3) := by decide +kernel
theorem d_Mo_match_58 : decode prog_14_method_21_code 58 = .ok (.iinc 4 1, 3) := by decide +kernel
theorem d_Mo_match_61 : decode prog_14_method_21_code 61 = .ok (.goto (-41), 3) := by decide +kernel
theorem d_Mo_match_64 : decode prog_14_method_21_code 64 = .ok (.aload_n 0, 1) := by decide +kernel
theorem d_Mo_match_65 : decode prog_14_method_21_code 65 = .ok (.iload 4, 2) := by decide +kernel
theorem d_Mo_match_67 : decode prog_14_method_21_code 67 = .ok (.aload_n 0, 1) := by decide +kernel
theorem d_Mo_match_68 : decode prog_14_method_21_code 68 = .ok (.getfield 98, 3) := by decide +kernel
theorem d_Mo_match_71 : decode prog_14_method_21_code 71 = .ok (.if_icmp .le 7, 3) := by decide +kernel
theorem d_Mo_match_74 : decode prog_14_method_21_code 74 = .ok (.iload_n 3, 1) := by decide +kernel
theorem d_Mo_match_75 : decode prog_14_method_21_code 75 = .ok (.goto 7, 3) := by decide +kernel
theorem d_Mo_match_78 : decode prog_14_method_21_code 78 = .ok (.aload_n 0, 1) := by decide +kernel
theorem d_Mo_match_79 : decode prog_14_method_21_code 79 = .ok (.getfield 101, 3) := by decide +kernel
theorem d_Mo_match_82 : decode prog_14_method_21_code 82 = .ok (.putfield 101, 3) := by decide +kernel
theorem d_Mo_match_85 : decode prog_14_method_21_code 85 = .ok (.aload_n 0, 1) := by decide +kernel
theorem d_Mo_match_86 : decode prog_14_method_21_code 86 = .ok (.iload 4, 2) := by decide +kernel
theorem d_Mo_match_88 : decode prog_14_method_21_code 88 = .ok (.aload_n 0, 1) := by decide +kernel
theorem d_Mo_match_89 : decode prog_14_method_21_code 89 = .ok (.getfield 98, 3) := by decide +kernel
theorem d_Mo_match_92 : decode prog_14_method_21_code 92 = .ok (.if_icmp .le 8, 3) := by decide +kernel
theorem d_Mo_match_95 : decode prog_14_method_21_code 95 = .ok (.iload 4, 2) := by decide +kernel
theorem d_Mo_match_97 : decode prog_14_method_21_code 97 = .ok (.goto 7, 3) := by decide +kernel
theorem d_Mo_match_100 : decode prog_14_method_21_code 100 = .ok (.aload_n 0, 1) := by decide +kernel
theorem d_Mo_match_101 : decode prog_14_method_21_code 101 = .ok (.getfield 98, 3) := by decide +kernel
theorem d_Mo_match_104 : decode prog_14_method_21_code 104 = .ok (.putfield 98, 3) := by decide +kernel
theorem d_Mo_match_107 : decode prog_14_method_21_code 107 = .ok (.iinc 3 1, 3) := by decide +kernel
theorem d_Mo_match_110 : decode prog_14_method_21_code 110 = .ok (.goto (-98), 3) := by decide +kernel
theorem d_Mo_match_113 : decode prog_14_method_21_code 113 = .ok (.return_, 1) := by decide +kernel
theorem d_Mo_stands_0 : decode prog_14_method_22_code 0 = .ok (.iload_n 3, 1) := by decide +kernel
theorem d_Mo_stands_1 : decode prog_14_method_22_code 1 = .ok (.iload 4, 2) := by decide +kernel
theorem d_Mo_stands_3 : decode prog_14_method_22_code 3 = .ok (.invokestatic 104, 3) := by decide +kernel
theorem d_Mo_stands_6 : decode prog_14_method_22_code 6 = .ok (.istore 5, 2) := by decide +kernel
theorem d_Mo_stands_8 : decode prog_14_method_22_code 8 = .ok (.iload_n 1, 1) := by decide +kernel
theorem d_Mo_stands_9 : decode prog_14_method_22_code 9 = .ok (.iload 5, 2) := by decide +kernel
theorem d_Mo_stands_11 : decode prog_14_method_22_code 11 = .ok (.iadd, 1) := by decide +kernel
theorem d_Mo_stands_12 : decode prog_14_method_22_code 12 = .ok (.iload_n 2, 1) := by decide +kernel
theorem d_Mo_stands_13 : decode prog_14_method_22_code 13 = .ok (.if_icmp .le 5, 3) := by decide +kernel
theorem d_Mo_stands_16 : decode prog_14_method_22_code 16 = .ok (.iconst 0, 1) := by decide +kernel
theorem d_Mo_stands_17 : decode prog_14_method_22_code 17 = .ok (.ireturn, 1) := by decide +kernel
theorem d_Mo_stands_18 : decode prog_14_method_22_code 18 = .ok (.iconst 0, 1) := by decide +kernel
theorem d_Mo_stands_19 : decode prog_14_method_22_code 19 = .ok (.istore 6, 2) := by decide +kernel
theorem d_Mo_stands_21 : decode prog_14_method_22_code 21 = .ok (.iload 6, 2) := by decide +kernel
theorem d_Mo_stands_23 : decode prog_14_method_22_code 23 = .ok (.iload 5, 2) := by decide +kernel
theorem d_Mo_stands_25 : decode prog_14_method_22_code 25 = .ok (.if_icmp .ge 31, 3) := by decide +kernel
theorem d_Mo_stands_28 : decode prog_14_method_22_code 28 = .ok (.aload_n 0, 1) := by decide +kernel
theorem d_Mo_stands_29 : decode prog_14_method_22_code 29 = .ok (.getfield 7, 3) := by decide +kernel
theorem d_Mo_stands_32 : decode prog_14_method_22_code 32 = .ok (.iload_n 1, 1) := by decide +kernel
theorem d_Mo_stands_33 : decode prog_14_method_22_code 33 = .ok (.iload 6, 2) := by decide +kernel
theorem d_Mo_stands_35 : decode prog_14_method_22_code 35 = .ok (.iadd, 1) := by decide +kernel
theorem d_Mo_stands_36 : decode prog_14_method_22_code 36 = .ok (.iaload, 1) := by decide +kernel
theorem d_Mo_stands_37 : decode prog_14_method_22_code 37 = .ok (.iload_n 3, 1) := by decide +kernel
theorem d_Mo_stands_38 : decode prog_14_method_22_code 38 = .ok (.iload 4, 2) := by decide +kernel
theorem d_Mo_stands_40 : decode prog_14_method_22_code 40 = .ok (.iload 6, 2) := by decide +kernel
theorem d_Mo_stands_42 : decode prog_14_method_22_code 42 = .ok (.invokestatic 108, 3) := by decide +kernel
theorem d_Mo_stands_45 : decode prog_14_method_22_code 45 = .ok (.if_icmp .eq 5, 3) := by decide +kernel
theorem d_Mo_stands_48 : decode prog_14_method_22_code 48 = .ok (.iconst 0, 1) := by decide +kernel
theorem d_Mo_stands_49 : decode prog_14_method_22_code 49 = .ok (.ireturn, 1) := by decide +kernel
theorem d_Mo_stands_50 : decode prog_14_method_22_code 50 = .ok (.iinc 6 1, 3) := by decide +kernel
theorem d_Mo_stands_53 : decode prog_14_method_22_code 53 = .ok (.goto (-32), 3) := by decide +kernel
theorem d_Mo_stands_56 : decode prog_14_method_22_code 56 = .ok (.iconst 1, 1) := by decide +kernel
theorem d_Mo_stands_57 : decode prog_14_method_22_code 57 = .ok (.ireturn, 1) := by decide +kernel
theorem d_Mo_seek_0 : decode prog_14_method_23_code 0 = .ok (.aload_n 0, 1) := by decide +kernel
theorem d_Mo_seek_1 : decode prog_14_method_23_code 1 = .ok (.iconst 0, 1) := by decide +kernel
theorem d_Mo_seek_2 : decode prog_14_method_23_code 2 = .ok (.putfield 111, 3) := by decide +kernel
theorem d_Mo_seek_5 : decode prog_14_method_23_code 5 = .ok (.iconst 4, 1) := by decide +kernel
theorem d_Mo_seek_6 : decode prog_14_method_23_code 6 = .ok (.istore_n 3, 1) := by decide +kernel
theorem d_Mo_seek_7 : decode prog_14_method_23_code 7 = .ok (.iload_n 3, 1) := by decide +kernel
theorem d_Mo_seek_8 : decode prog_14_method_23_code 8 = .ok (.iconst 5, 1) := by decide +kernel
theorem d_Mo_seek_9 : decode prog_14_method_23_code 9 = .ok (.if_icmp .gt 71, 3) := by decide +kernel
theorem d_Mo_seek_12 : decode prog_14_method_23_code 12 = .ok (.iconst 0, 1) := by decide +kernel
theorem d_Mo_seek_13 : decode prog_14_method_23_code 13 = .ok (.istore 4, 2) := by decide +kernel
theorem d_Mo_seek_15 : decode prog_14_method_23_code 15 = .ok (.iload 4, 2) := by decide +kernel
theorem d_Mo_seek_17 : decode prog_14_method_23_code 17 = .ok (.bipush 16, 2) := by decide +kernel
theorem d_Mo_seek_19 : decode prog_14_method_23_code 19 = .ok (.if_icmp .ge 55, 3) := by decide +kernel
theorem d_Mo_seek_22 : decode prog_14_method_23_code 22 = .ok (.iload_n 3, 1) := by decide +kernel
theorem d_Mo_seek_23 : decode prog_14_method_23_code 23 = .ok (.iload 4, 2) := by decide +kernel
theorem d_Mo_seek_25 : decode prog_14_method_23_code 25 = .ok (.invokestatic 104, 3) := by decide +kernel
theorem d_Mo_seek_28 : decode prog_14_method_23_code 28 = .ok (.aload_n 0, 1) := by decide +kernel
theorem d_Mo_seek_29 : decode prog_14_method_23_code 29 = .ok (.getfield 111, 3) := by decide +kernel
theorem d_Mo_seek_32 : decode prog_14_method_23_code 32 = .ok (.if_icmp .le 36, 3) := by decide +kernel
theorem d_Mo_seek_35 : decode prog_14_method_23_code 35 = .ok (.aload_n 0, 1) := by decide +kernel
theorem d_Mo_seek_36 : decode prog_14_method_23_code 36 = .ok (.iload_n 1, 1) := by decide +kernel
theorem d_Mo_seek_37 : decode prog_14_method_23_code 37 = .ok (.iload_n 2, 1) := by decide +kernel
theorem d_Mo_seek_38 : decode prog_14_method_23_code 38 = .ok (.iload_n 3, 1) := by decide +kernel
theorem d_Mo_seek_39 : decode prog_14_method_23_code 39 = .ok (.iload 4, 2) := by decide +kernel
theorem d_Mo_seek_41 : decode prog_14_method_23_code 41 = .ok (.invokevirtual 114, 3) := by decide +kernel
theorem d_Mo_seek_44 : decode prog_14_method_23_code 44 = .ok (.ifCond .eq 24, 3) := by decide +kernel
theorem d_Mo_seek_47 : decode prog_14_method_23_code 47 = .ok (.aload_n 0, 1) := by decide +kernel
theorem d_Mo_seek_48 : decode prog_14_method_23_code 48 = .ok (.iload_n 3, 1) := by decide +kernel
theorem d_Mo_seek_49 : decode prog_14_method_23_code 49 = .ok (.iload 4, 2) := by decide +kernel
theorem d_Mo_seek_51 : decode prog_14_method_23_code 51 = .ok (.invokestatic 104, 3) := by decide +kernel
theorem d_Mo_seek_54 : decode prog_14_method_23_code 54 = .ok (.putfield 111, 3) := by decide +kernel
theorem d_Mo_seek_57 : decode prog_14_method_23_code 57 = .ok (.aload_n 0, 1) := by decide +kernel
theorem d_Mo_seek_58 : decode prog_14_method_23_code 58 = .ok (.iload_n 3, 1) := by decide +kernel
theorem d_Mo_seek_59 : decode prog_14_method_23_code 59 = .ok (.putfield 118, 3) := by decide +kernel
theorem d_Mo_seek_62 : decode prog_14_method_23_code 62 = .ok (.aload_n 0, 1) := by decide +kernel
theorem d_Mo_seek_63 : decode prog_14_method_23_code 63 = .ok (.iload 4, 2) := by decide +kernel
theorem d_Mo_seek_65 : decode prog_14_method_23_code 65 = .ok (.putfield 121, 3) := by decide +kernel
theorem d_Mo_seek_68 : decode prog_14_method_23_code 68 = .ok (.iinc 4 1, 3) := by decide +kernel
theorem d_Mo_seek_71 : decode prog_14_method_23_code 71 = .ok (.goto (-56), 3) := by decide +kernel
theorem d_Mo_seek_74 : decode prog_14_method_23_code 74 = .ok (.iinc 3 1, 3) := by decide +kernel
theorem d_Mo_seek_77 : decode prog_14_method_23_code 77 = .ok (.goto (-70), 3) := by decide +kernel
theorem d_Mo_seek_80 : decode prog_14_method_23_code 80 = .ok (.return_, 1) := by decide +kernel
theorem d_Mo_lowest_0 : decode prog_14_method_24_code 0 = .ok (.iload_n 0, 1) := by decide +kernel
theorem d_Mo_lowest_1 : decode prog_14_method_24_code 1 = .ok (.bipush 7, 2) := by decide +kernel
theorem d_Mo_lowest_3 : decode prog_14_method_24_code 3 = .ok (.if_icmp .gt 9, 3) := by decide +kernel
theorem d_Mo_lowest_6 : decode prog_14_method_24_code 6 = .ok (.iload_n 0, 1) := by decide +kernel
theorem d_Mo_lowest_7 : decode prog_14_method_24_code 7 = .ok (.iconst 5, 1) := by decide +kernel
theorem d_Mo_lowest_8 : decode prog_14_method_24_code 8 = .ok (.isub, 1) := by decide +kernel
theorem d_Mo_lowest_9 : decode prog_14_method_24_code 9 = .ok (.goto 21, 3) := by decide +kernel
theorem d_Mo_lowest_12 : decode prog_14_method_24_code 12 = .ok (.iload_n 0, 1) := by decide +kernel
theorem d_Mo_lowest_13 : decode prog_14_method_24_code 13 = .ok (.bipush 8, 2) := by decide +kernel
theorem d_Mo_lowest_15 : decode prog_14_method_24_code 15 = .ok (.if_icmp .ne 7, 3) := by decide +kernel
theorem d_Mo_lowest_18 : decode prog_14_method_24_code 18 = .ok (.iconst 3, 1) := by decide +kernel
theorem d_Mo_lowest_19 : decode prog_14_method_24_code 19 = .ok (.goto 11, 3) := by decide +kernel
theorem d_Mo_lowest_22 : decode prog_14_method_24_code 22 = .ok (.iconst 1, 1) := by decide +kernel
theorem d_Mo_lowest_23 : decode prog_14_method_24_code 23 = .ok (.iload_n 0, 1) := by decide +kernel
theorem d_Mo_lowest_24 : decode prog_14_method_24_code 24 = .ok (.bipush 7, 2) := by decide +kernel
theorem d_Mo_lowest_26 : decode prog_14_method_24_code 26 = .ok (.isub, 1) := by decide +kernel
theorem d_Mo_lowest_27 : decode prog_14_method_24_code 27 = .ok (.ishl, 1) := by decide +kernel
theorem d_Mo_lowest_28 : decode prog_14_method_24_code 28 = .ok (.iconst 1, 1) := by decide +kernel
theorem d_Mo_lowest_29 : decode prog_14_method_24_code 29 = .ok (.iadd, 1) := by decide +kernel
theorem d_Mo_lowest_30 : decode prog_14_method_24_code 30 = .ok (.ireturn, 1) := by decide +kernel
theorem d_Mo_extra_0 : decode prog_14_method_25_code 0 = .ok (.iload_n 0, 1) := by decide +kernel
theorem d_Mo_extra_1 : decode prog_14_method_25_code 1 = .ok (.bipush 7, 2) := by decide +kernel
theorem d_Mo_extra_3 : decode prog_14_method_25_code 3 = .ok (.if_icmp .gt 7, 3) := by decide +kernel
theorem d_Mo_extra_6 : decode prog_14_method_25_code 6 = .ok (.iconst 0, 1) := by decide +kernel
theorem d_Mo_extra_7 : decode prog_14_method_25_code 7 = .ok (.goto 7, 3) := by decide +kernel
theorem d_Mo_extra_10 : decode prog_14_method_25_code 10 = .ok (.iload_n 0, 1) := by decide +kernel
theorem d_Mo_extra_11 : decode prog_14_method_25_code 11 = .ok (.bipush 7, 2) := by decide +kernel
theorem d_Mo_extra_13 : decode prog_14_method_25_code 13 = .ok (.isub, 1) := by decide +kernel
theorem d_Mo_extra_14 : decode prog_14_method_25_code 14 = .ok (.ireturn, 1) := by decide +kernel
theorem d_Mo_distance_0 : decode prog_14_method_26_code 0 = .ok (.iconst (-1), 1) := by decide +kernel
theorem d_Mo_distance_1 : decode prog_14_method_26_code 1 = .ok (.istore_n 3, 1) := by decide +kernel
theorem d_Mo_distance_2 : decode prog_14_method_26_code 2 = .ok (.iconst 3, 1) := by decide +kernel
theorem d_Mo_distance_3 : decode prog_14_method_26_code 3 = .ok (.istore 4, 2) := by decide +kernel
theorem d_Mo_distance_5 : decode prog_14_method_26_code 5 = .ok (.iload 4, 2) := by decide +kernel
theorem d_Mo_distance_7 : decode prog_14_method_26_code 7 = .ok (.ifCond .lt 31, 3) := by decide +kernel
theorem d_Mo_distance_10 : decode prog_14_method_26_code 10 = .ok (.iload_n 2, 1) := by decide +kernel
theorem d_Mo_distance_11 : decode prog_14_method_26_code 11 = .ok (.ifCond .eq 27, 3) := by decide +kernel
theorem d_Mo_distance_14 : decode prog_14_method_26_code 14 = .ok (.aload_n 0, 1) := by decide +kernel
theorem d_Mo_distance_15 : decode prog_14_method_26_code 15 = .ok (.getfield 28, 3) := by decide +kernel
theorem d_Mo_distance_18 : decode prog_14_method_26_code 18 = .ok (.iload 4, 2) := by decide +kernel
theorem d_Mo_distance_20 : decode prog_14_method_26_code 20 = .ok (.iaload, 1) := by decide +kernel
theorem d_Mo_distance_21 : decode prog_14_method_26_code 21 = .ok (.iload_n 1, 1) := by decide +kernel
theorem d_Mo_distance_22 : decode prog_14_method_26_code 22 = .ok (.if_icmp .ne 8, 3) := by decide +kernel
theorem d_Mo_distance_25 : decode prog_14_method_26_code 25 = .ok (.iload 4, 2) := by decide +kernel
theorem d_Mo_distance_27 : decode prog_14_method_26_code 27 = .ok (.goto 4, 3) := by decide +kernel
theorem d_Mo_distance_30 : decode prog_14_method_26_code 30 = .ok (.iload_n 3, 1) := by decide +kernel
theorem d_Mo_distance_31 : decode prog_14_method_26_code 31 = .ok (.istore_n 3, 1) := by decide +kernel
theorem d_Mo_distance_32 : decode prog_14_method_26_code 32 = .ok (.iinc 4 (-1), 3) := by decide +kernel
theorem d_Mo_distance_35 : decode prog_14_method_26_code 35 = .ok (.goto (-30), 3) := by decide +kernel
theorem d_Mo_distance_38 : decode prog_14_method_26_code 38 = .ok (.iload_n 3, 1) := by decide +kernel
theorem d_Mo_distance_39 : decode prog_14_method_26_code 39 = .ok (.ifCond .ge 41, 3) := by decide +kernel
theorem d_Mo_distance_42 : decode prog_14_method_26_code 42 = .ok (.iload_n 2, 1) := by decide +kernel
theorem d_Mo_distance_43 : decode prog_14_method_26_code 43 = .ok (.ifCond .eq 37, 3) := by decide +kernel
theorem d_Mo_distance_46 : decode prog_14_method_26_code 46 = .ok (.iload_n 1, 1) := by decide +kernel
theorem d_Mo_distance_47 : decode prog_14_method_26_code 47 = .ok (.aload_n 0, 1) := by decide +kernel
theorem d_Mo_distance_48 : decode prog_14_method_26_code 48 = .ok (.getfield 28, 3) := by decide +kernel
theorem d_Mo_distance_51 : decode prog_14_method_26_code 51 = .ok (.iconst 0, 1) := by decide +kernel
theorem d_Mo_distance_52 : decode prog_14_method_26_code 52 = .ok (.iaload, 1) := by decide +kernel
theorem d_Mo_distance_53 : decode prog_14_method_26_code 53 = .ok (.iconst 1, 1) := by decide +kernel
theorem d_Mo_distance_54 : decode prog_14_method_26_code 54 = .ok (.isub, 1) := by decide +kernel
theorem d_Mo_distance_55 : decode prog_14_method_26_code 55 = .ok (.if_icmp .ne 7, 3) := by decide +kernel
theorem d_Mo_distance_58 : decode prog_14_method_26_code 58 = .ok (.iconst 4, 1) := by decide +kernel
theorem d_Mo_distance_59 : decode prog_14_method_26_code 59 = .ok (.goto 20, 3) := by decide +kernel
theorem d_Mo_distance_62 : decode prog_14_method_26_code 62 = .ok (.iload_n 1, 1) := by decide +kernel
theorem d_Mo_distance_63 : decode prog_14_method_26_code 63 = .ok (.aload_n 0, 1) := by decide +kernel
theorem d_Mo_distance_64 : decode prog_14_method_26_code 64 = .ok (.getfield 28, 3) := by decide +kernel
theorem d_Mo_distance_67 : decode prog_14_method_26_code 67 = .ok (.iconst 0, 1) := by decide +kernel
theorem d_Mo_distance_68 : decode prog_14_method_26_code 68 = .ok (.iaload, 1) := by decide +kernel
theorem d_Mo_distance_69 : decode prog_14_method_26_code 69 = .ok (.iconst 1, 1) := by decide +kernel
theorem d_Mo_distance_70 : decode prog_14_method_26_code 70 = .ok (.iadd, 1) := by decide +kernel
theorem d_Mo_distance_71 : decode prog_14_method_26_code 71 = .ok (.if_icmp .ne 7, 3) := by decide +kernel
theorem d_Mo_distance_74 : decode prog_14_method_26_code 74 = .ok (.iconst 5, 1) := by decide +kernel
theorem d_Mo_distance_75 : decode prog_14_method_26_code 75 = .ok (.goto 4, 3) := by decide +kernel
theorem d_Mo_distance_78 : decode prog_14_method_26_code 78 = .ok (.iconst (-1), 1) := by decide +kernel
theorem d_Mo_distance_79 : decode prog_14_method_26_code 79 = .ok (.istore_n 3, 1) := by decide +kernel
theorem d_Mo_distance_80 : decode prog_14_method_26_code 80 = .ok (.aload_n 0, 1) := by decide +kernel
theorem d_Mo_distance_81 : decode prog_14_method_26_code 81 = .ok (.getfield 46, 3) := by decide +kernel
theorem d_Mo_distance_84 : decode prog_14_method_26_code 84 = .ok (.aload_n 0, 1) := by decide +kernel
theorem d_Mo_distance_85 : decode prog_14_method_26_code 85 = .ok (.getfield 124, 3) := by decide +kernel
theorem d_Mo_distance_88 : decode prog_14_method_26_code 88 = .ok (.iconst 0, 1) := by decide +kernel
theorem d_Mo_distance_89 : decode prog_14_method_26_code 89 = .ok (.iastore, 1) := by decide +kernel
theorem d_Mo_distance_90 : decode prog_14_method_26_code 90 = .ok (.iload_n 3, 1) := by decide +kernel
theorem d_Mo_distance_91 : decode prog_14_method_26_code 91 = .ok (.ifCond .ge 35, 3) := by decide +kernel
theorem d_Mo_distance_94 : decode prog_14_method_26_code 94 = .ok (.bipush 13, 2) := by decide +kernel
theorem d_Mo_distance_96 : decode prog_14_method_26_code 96 = .ok (.istore_n 3, 1) := by decide +kernel
theorem d_Mo_distance_97 : decode prog_14_method_26_code 97 = .ok (.iload_n 3, 1) := by decide +kernel
theorem d_Mo_distance_98 : decode prog_14_method_26_code 98 = .ok (.invokestatic 127, 3) := by decide +kernel
theorem d_Mo_distance_101 : decode prog_14_method_26_code 101 = .ok (.iload_n 1, 1) := by decide +kernel
theorem d_Mo_distance_102 : decode prog_14_method_26_code 102 = .ok (.if_icmp .le 9, 3) := by decide +kernel
theorem d_Mo_distance_105 : decode prog_14_method_26_code 105 = .ok (.iinc 3 (-1), 3) := by decide +kernel
theorem d_Mo_distance_108 : decode prog_14_method_26_code 108 = .ok (.goto (-11), 3) := by decide +kernel
theorem d_Mo_distance_111 : decode prog_14_method_26_code 111 = .ok (.aload_n 0, 1) := by decide +kernel
theorem d_Mo_distance_112 : decode prog_14_method_26_code 112 = .ok (.getfield 46, 3) := by decide +kernel
theorem d_Mo_distance_115 : decode prog_14_method_26_code 115 = .ok (.aload_n 0, 1) := by decide +kernel
theorem d_Mo_distance_116 : decode prog_14_method_26_code 116 = .ok (.getfield 124, 3) := by decide +kernel
theorem d_Mo_distance_119 : decode prog_14_method_26_code 119 = .ok (.iload_n 1, 1) := by decide +kernel
theorem d_Mo_distance_120 : decode prog_14_method_26_code 120 = .ok (.iload_n 3, 1) := by decide +kernel
theorem d_Mo_distance_121 : decode prog_14_method_26_code 121 = .ok (.invokestatic 127, 3) := by decide +kernel
theorem d_Mo_distance_124 : decode prog_14_method_26_code 124 = .ok (.isub, 1) := by decide +kernel
theorem d_Mo_distance_125 : decode prog_14_method_26_code 125 = .ok (.iastore, 1) := by decide +kernel
theorem d_Mo_distance_126 : decode prog_14_method_26_code 126 = .ok (.aload_n 0, 1) := by decide +kernel
theorem d_Mo_distance_127 : decode prog_14_method_26_code 127 = .ok (.getfield 43, 3) := by decide +kernel
theorem d_Mo_distance_130 : decode prog_14_method_26_code 130 = .ok (.aload_n 0, 1) := by decide +kernel
theorem d_Mo_distance_131 : decode prog_14_method_26_code 131 = .ok (.getfield 124, 3) := by decide +kernel
theorem d_Mo_distance_134 : decode prog_14_method_26_code 134 = .ok (.iload_n 3, 1) := by decide +kernel
theorem d_Mo_distance_135 : decode prog_14_method_26_code 135 = .ok (.iastore, 1) := by decide +kernel
theorem d_Mo_distance_136 : decode prog_14_method_26_code 136 = .ok (.return_, 1) := by decide +kernel
theorem d_Mo_remember_0 : decode prog_14_method_27_code 0 = .ok (.aload_n 0, 1) := by decide +kernel
theorem d_Mo_remember_1 : decode prog_14_method_27_code 1 = .ok (.getfield 28, 3) := by decide +kernel
theorem d_Mo_remember_4 : decode prog_14_method_27_code 4 = .ok (.iconst 3, 1) := by decide +kernel
theorem d_Mo_remember_5 : decode prog_14_method_27_code 5 = .ok (.aload_n 0, 1) := by decide +kernel
theorem d_Mo_remember_6 : decode prog_14_method_27_code 6 = .ok (.getfield 28, 3) := by decide +kernel
theorem d_Mo_remember_9 : decode prog_14_method_27_code 9 = .ok (.iconst 2, 1) := by decide +kernel
theorem d_Mo_remember_10 : decode prog_14_method_27_code 10 = .ok (.iaload, 1) := by decide +kernel
theorem d_Mo_remember_11 : decode prog_14_method_27_code 11 = .ok (.iastore, 1) := by decide +kernel
theorem d_Mo_remember_12 : decode prog_14_method_27_code 12 = .ok (.aload_n 0, 1) := by decide +kernel
theorem d_Mo_remember_13 : decode prog_14_method_27_code 13 = .ok (.getfield 28, 3) := by decide +kernel
theorem d_Mo_remember_16 : decode prog_14_method_27_code 16 = .ok (.iconst 2, 1) := by decide +kernel
theorem d_Mo_remember_17 : decode prog_14_method_27_code 17 = .ok (.aload_n 0, 1) := by decide +kernel
theorem d_Mo_remember_18 : decode prog_14_method_27_code 18 = .ok (.getfield 28, 3) := by decide +kernel
theorem d_Mo_remember_21 : decode prog_14_method_27_code 21 = .ok (.iconst 1, 1) := by decide +kernel
theorem d_Mo_remember_22 : decode prog_14_method_27_code 22 = .ok (.iaload, 1) := by decide +kernel
theorem d_Mo_remember_23 : decode prog_14_method_27_code 23 = .ok (.iastore, 1) := by decide +kernel
theorem d_Mo_remember_24 : decode prog_14_method_27_code 24 = .ok (.aload_n 0, 1) := by decide +kernel
theorem d_Mo_remember_25 : decode prog_14_method_27_code 25 = .ok (.getfield 28, 3) := by decide +kernel
theorem d_Mo_remember_28 : decode prog_14_method_27_code 28 = .ok (.iconst 1, 1) := by decide +kernel
theorem d_Mo_remember_29 : decode prog_14_method_27_code 29 = .ok (.aload_n 0, 1) := by decide +kernel
theorem d_Mo_remember_30 : decode prog_14_method_27_code 30 = .ok (.getfield 28, 3) := by decide +kernel
theorem d_Mo_remember_33 : decode prog_14_method_27_code 33 = .ok (.iconst 0, 1) := by decide +kernel
theorem d_Mo_remember_34 : decode prog_14_method_27_code 34 = .ok (.iaload, 1) := by decide +kernel
theorem d_Mo_remember_35 : decode prog_14_method_27_code 35 = .ok (.iastore, 1) := by decide +kernel
theorem d_Mo_remember_36 : decode prog_14_method_27_code 36 = .ok (.aload_n 0, 1) := by decide +kernel
theorem d_Mo_remember_37 : decode prog_14_method_27_code 37 = .ok (.getfield 28, 3) := by decide +kernel
theorem d_Mo_remember_40 : decode prog_14_method_27_code 40 = .ok (.iconst 0, 1) := by decide +kernel
theorem d_Mo_remember_41 : decode prog_14_method_27_code 41 = .ok (.iload_n 1, 1) := by decide +kernel
theorem d_Mo_remember_42 : decode prog_14_method_27_code 42 = .ok (.iastore, 1) := by decide +kernel
theorem d_Mo_remember_43 : decode prog_14_method_27_code 43 = .ok (.return_, 1) := by decide +kernel
theorem d_Mo_command_0 : decode prog_14_method_28_code 0 = .ok (.aload_n 0, 1) := by decide +kernel
theorem d_Mo_command_1 : decode prog_14_method_28_code 1 = .ok (.getfield 34, 3) := by decide +kernel
theorem d_Mo_command_4 : decode prog_14_method_28_code 4 = .ok (.aload_n 0, 1) := by decide +kernel
theorem d_Mo_command_5 : decode prog_14_method_28_code 5 = .ok (.getfield 124, 3) := by decide +kernel
theorem d_Mo_command_8 : decode prog_14_method_28_code 8 = .ok (.iload_n 1, 1) := by decide +kernel
theorem d_Mo_command_9 : decode prog_14_method_28_code 9 = .ok (.iastore, 1) := by decide +kernel
theorem d_Mo_command_10 : decode prog_14_method_28_code 10 = .ok (.aload_n 0, 1) := by decide +kernel
theorem d_Mo_command_11 : decode prog_14_method_28_code 11 = .ok (.getfield 40, 3) := by decide +kernel
theorem d_Mo_command_14 : decode prog_14_method_28_code 14 = .ok (.aload_n 0, 1) := by decide +kernel
theorem d_Mo_command_15 : decode prog_14_method_28_code 15 = .ok (.getfield 124, 3) := by decide +kernel
theorem d_Mo_command_18 : decode prog_14_method_28_code 18 = .ok (.iload_n 2, 1) := by decide +kernel
theorem d_Mo_command_19 : decode prog_14_method_28_code 19 = .ok (.iastore, 1) := by decide +kernel
theorem d_Mo_command_20 : decode prog_14_method_28_code 20 = .ok (.aload_n 0, 1) := by decide +kernel
theorem d_Mo_command_21 : decode prog_14_method_28_code 21 = .ok (.getfield 49, 3) := by decide +kernel
theorem d_Mo_command_24 : decode prog_14_method_28_code 24 = .ok (.aload_n 0, 1) := by decide +kernel
theorem d_Mo_command_25 : decode prog_14_method_28_code 25 = .ok (.getfield 124, 3) := by decide +kernel
theorem d_Mo_command_28 : decode prog_14_method_28_code 28 = .ok (.iload 4, 2) := by decide +kernel
theorem d_Mo_command_30 : decode prog_14_method_28_code 30 = .ok (.iastore, 1) := by decide +kernel
theorem d_Mo_command_31 : decode prog_14_method_28_code 31 = .ok (.aload_n 0, 1) := by decide +kernel
theorem d_Mo_command_32 : decode prog_14_method_28_code 32 = .ok (.getfield 52, 3) := by decide +kernel
theorem d_Mo_command_35 : decode prog_14_method_28_code 35 = .ok (.aload_n 0, 1) := by decide +kernel
theorem d_Mo_command_36 : decode prog_14_method_28_code 36 = .ok (.getfield 124, 3) := by decide +kernel
theorem d_Mo_command_39 : decode prog_14_method_28_code 39 = .ok (.iload 5, 2) := by decide +kernel
theorem d_Mo_command_41 : decode prog_14_method_28_code 41 = .ok (.ifCond .eq 7, 3) := by decide +kernel
theorem d_Mo_command_44 : decode prog_14_method_28_code 44 = .ok (.iconst 1, 1) := by decide +kernel
theorem d_Mo_command_45 : decode prog_14_method_28_code 45 = .ok (.goto 4, 3) := by decide +kernel
theorem d_Mo_command_48 : decode prog_14_method_28_code 48 = .ok (.iconst 0, 1) := by decide +kernel
theorem d_Mo_command_49 : decode prog_14_method_28_code 49 = .ok (.iastore, 1) := by decide +kernel
theorem d_Mo_command_50 : decode prog_14_method_28_code 50 = .ok (.aload_n 0, 1) := by decide +kernel
theorem d_Mo_command_51 : decode prog_14_method_28_code 51 = .ok (.getfield 43, 3) := by decide +kernel
theorem d_Mo_command_54 : decode prog_14_method_28_code 54 = .ok (.aload_n 0, 1) := by decide +kernel
theorem d_Mo_command_55 : decode prog_14_method_28_code 55 = .ok (.getfield 124, 3) := by decide +kernel
theorem d_Mo_command_58 : decode prog_14_method_28_code 58 = .ok (.iconst (-1), 1) := by decide +kernel
theorem d_Mo_command_59 : decode prog_14_method_28_code 59 = .ok (.iastore, 1) := by decide +kernel
theorem d_Mo_command_60 : decode prog_14_method_28_code 60 = .ok (.aload_n 0, 1) := by decide +kernel
theorem d_Mo_command_61 : decode prog_14_method_28_code 61 = .ok (.getfield 37, 3) := by decide +kernel
theorem d_Mo_command_64 : decode prog_14_method_28_code 64 = .ok (.aload_n 0, 1) := by decide +kernel
theorem d_Mo_command_65 : decode prog_14_method_28_code 65 = .ok (.getfield 124, 3) := by decide +kernel
theorem d_Mo_command_68 : decode prog_14_method_28_code 68 = .ok (.iload_n 2, 1) := by decide +kernel
theorem d_Mo_command_69 : decode prog_14_method_28_code 69 = .ok (.iconst 2, 1) := by decide +kernel
theorem d_Mo_command_70 : decode prog_14_method_28_code 70 = .ok (.if_icmp .ge 7, 3) := by decide +kernel
theorem d_Mo_command_73 : decode prog_14_method_28_code 73 = .ok (.iconst 0, 1) := by decide +kernel
theorem d_Mo_command_74 : decode prog_14_method_28_code 74 = .ok (.goto 36, 3) := by decide +kernel
theorem d_Mo_command_77 : decode prog_14_method_28_code 77 = .ok (.iload_n 2, 1) := by decide +kernel
theorem d_Mo_command_78 : decode prog_14_method_28_code 78 = .ok (.iconst 5, 1) := by decide +kernel
theorem d_Mo_command_79 : decode prog_14_method_28_code 79 = .ok (.if_icmp .gt 9, 3) := by decide +kernel
theorem d_Mo_command_82 : decode prog_14_method_28_code 82 = .ok (.iload_n 2, 1) := by decide +kernel
theorem d_Mo_command_83 : decode prog_14_method_28_code 83 = .ok (.iconst 2, 1) := by decide +kernel
theorem d_Mo_command_84 : decode prog_14_method_28_code 84 = .ok (.isub, 1) := by decide +kernel
theorem d_Mo_command_85 : decode prog_14_method_28_code 85 = .ok (.goto 25, 3) := by decide +kernel
theorem d_Mo_command_88 : decode prog_14_method_28_code 88 = .ok (.iload_n 2, 1) := by decide +kernel
theorem d_Mo_command_89 : decode prog_14_method_28_code 89 = .ok (.bipush 10, 2) := by decide +kernel
theorem d_Mo_command_91 : decode prog_14_method_28_code 91 = .ok (.if_icmp .ge 7, 3) := by decide +kernel
theorem d_Mo_command_94 : decode prog_14_method_28_code 94 = .ok (.iconst 4, 1) := by decide +kernel
theorem d_Mo_command_95 : decode prog_14_method_28_code 95 = .ok (.goto 15, 3) := by decide +kernel
theorem d_Mo_command_98 : decode prog_14_method_28_code 98 = .ok (.iload_n 2, 1) := by decide +kernel
theorem d_Mo_command_99 : decode prog_14_method_28_code 99 = .ok (.bipush 26, 2) := by decide +kernel
theorem d_Mo_command_101 : decode prog_14_method_28_code 101 = .ok (.if_icmp .ge 7, 3) := by decide +kernel
theorem d_Mo_command_104 : decode prog_14_method_28_code 104 = .ok (.iconst 5, 1) := by decide +kernel
theorem d_Mo_command_105 : decode prog_14_method_28_code 105 = .ok (.goto 5, 3) := by decide +kernel
theorem d_Mo_command_108 : decode prog_14_method_28_code 108 = .ok (.bipush 6, 2) := by decide +kernel
theorem d_Mo_command_110 : decode prog_14_method_28_code 110 = .ok (.iastore, 1) := by decide +kernel
theorem d_Mo_command_111 : decode prog_14_method_28_code 111 = .ok (.iload_n 2, 1) := by decide +kernel
theorem d_Mo_command_112 : decode prog_14_method_28_code 112 = .ok (.iconst 3, 1) := by decide +kernel
theorem d_Mo_command_113 : decode prog_14_method_28_code 113 = .ok (.if_icmp .ne 32, 3) := by decide +kernel
theorem d_Mo_command_116 : decode prog_14_method_28_code 116 = .ok (.iload 5, 2) := by decide +kernel
theorem d_Mo_command_118 : decode prog_14_method_28_code 118 = .ok (.ifCond .ne 27, 3) := by decide +kernel
theorem d_Mo_command_121 : decode prog_14_method_28_code 121 = .ok (.iload_n 3, 1) := by decide +kernel
theorem d_Mo_command_122 : decode prog_14_method_28_code 122 = .ok (.aload_n 0, 1) := by decide +kernel
theorem d_Mo_command_123 : decode prog_14_method_28_code 123 = .ok (.getfield 28, 3) := by decide +kernel
theorem d_Mo_command_126 : decode prog_14_method_28_code 126 = .ok (.iconst 0, 1) := by decide +kernel
theorem d_Mo_command_127 : decode prog_14_method_28_code 127 = .ok (.iaload, 1) := by decide +kernel
theorem d_Mo_command_128 : decode prog_14_method_28_code 128 = .ok (.if_icmp .ne 17, 3) := by decide +kernel
theorem d_Mo_command_131 : decode prog_14_method_28_code 131 = .ok (.aload_n 0, 1) := by decide +kernel
theorem d_Mo_command_132 : decode prog_14_method_28_code 132 = .ok (.getfield 37, 3) := by decide +kernel
theorem d_Mo_command_135 : decode prog_14_method_28_code 135 = .ok (.aload_n 0, 1) := by decide +kernel
theorem d_Mo_command_136 : decode prog_14_method_28_code 136 = .ok (.getfield 124, 3) := by decide +kernel
theorem d_Mo_command_139 : decode prog_14_method_28_code 139 = .ok (.bipush 7, 2) := by decide +kernel
theorem d_Mo_command_141 : decode prog_14_method_28_code 141 = .ok (.iastore, 1) := by decide +kernel
theorem d_Mo_command_142 : decode prog_14_method_28_code 142 = .ok (.goto 44, 3) := by decide +kernel
theorem d_Mo_command_145 : decode prog_14_method_28_code 145 = .ok (.iload_n 2, 1) := by decide +kernel
theorem d_Mo_command_146 : decode prog_14_method_28_code 146 = .ok (.ifCond .le 40, 3) := by decide +kernel
theorem d_Mo_command_149 : decode prog_14_method_28_code 149 = .ok (.aload_n 0, 1) := by decide +kernel
theorem d_Mo_command_150 : decode prog_14_method_28_code 150 = .ok (.iload_n 3, 1) := by decide +kernel
theorem d_Mo_command_151 : decode prog_14_method_28_code 151 = .ok (.iload 5, 2) := by decide +kernel
theorem d_Mo_command_153 : decode prog_14_method_28_code 153 = .ok (.ifCond .ne 7, 3) := by decide +kernel
theorem d_Mo_command_156 : decode prog_14_method_28_code 156 = .ok (.iconst 1, 1) := by decide +kernel
theorem d_Mo_command_157 : decode prog_14_method_28_code 157 = .ok (.goto 4, 3) := by decide +kernel
theorem d_Mo_command_160 : decode prog_14_method_28_code 160 = .ok (.iconst 0, 1) := by decide +kernel
theorem d_Mo_command_161 : decode prog_14_method_28_code 161 = .ok (.invokevirtual 131, 3) := by decide +kernel
theorem d_Mo_command_164 : decode prog_14_method_28_code 164 = .ok (.iload 5, 2) := by decide +kernel
theorem d_Mo_command_166 : decode prog_14_method_28_code 166 = .ok (.ifCond .ne 20, 3) := by decide +kernel
theorem d_Mo_command_169 : decode prog_14_method_28_code 169 = .ok (.aload_n 0, 1) := by decide +kernel
theorem d_Mo_command_170 : decode prog_14_method_28_code 170 = .ok (.getfield 43, 3) := by decide +kernel
theorem d_Mo_command_173 : decode prog_14_method_28_code 173 = .ok (.aload_n 0, 1) := by decide +kernel
theorem d_Mo_command_174 : decode prog_14_method_28_code 174 = .ok (.getfield 124, 3) := by decide +kernel
theorem d_Mo_command_177 : decode prog_14_method_28_code 177 = .ok (.iaload, 1) := by decide +kernel
theorem d_Mo_command_178 : decode prog_14_method_28_code 178 = .ok (.ifCond .eq 8, 3) := by decide +kernel
theorem d_Mo_command_181 : decode prog_14_method_28_code 181 = .ok (.aload_n 0, 1) := by decide +kernel
theorem d_Mo_command_182 : decode prog_14_method_28_code 182 = .ok (.iload_n 3, 1) := by decide +kernel
theorem d_Mo_command_183 : decode prog_14_method_28_code 183 = .ok (.invokevirtual 135, 3) := by decide +kernel
theorem d_Mo_command_186 : decode prog_14_method_28_code 186 = .ok (.aload_n 0, 1) := by decide +kernel
theorem d_Mo_command_187 : decode prog_14_method_28_code 187 = .ok (.dup, 1) := by decide +kernel
theorem d_Mo_command_188 : decode prog_14_method_28_code 188 = .ok (.getfield 124, 3) := by decide +kernel
theorem d_Mo_command_191 : decode prog_14_method_28_code 191 = .ok (.iconst 1, 1) := by decide +kernel
theorem d_Mo_command_192 : decode prog_14_method_28_code 192 = .ok (.iadd, 1) := by decide +kernel
theorem d_Mo_command_193 : decode prog_14_method_28_code 193 = .ok (.putfield 124, 3) := by decide +kernel
theorem d_Mo_command_196 : decode prog_14_method_28_code 196 = .ok (.return_, 1) := by decide +kernel
theorem d_Mo_parse_0 : decode prog_14_method_29_code 0 = .ok (.aload_n 0, 1) := by decide +kernel
theorem d_Mo_parse_1 : decode prog_14_method_29_code 1 = .ok (.iconst 0, 1) := by decide +kernel
theorem d_Mo_parse_2 : decode prog_14_method_29_code 2 = .ok (.putfield 124, 3) := by decide +kernel
theorem d_Mo_parse_5 : decode prog_14_method_29_code 5 = .ok (.iconst 0, 1) := by decide +kernel
theorem d_Mo_parse_6 : decode prog_14_method_29_code 6 = .ok (.istore_n 3, 1) := by decide +kernel
theorem d_Mo_parse_7 : decode prog_14_method_29_code 7 = .ok (.iload_n 1, 1) := by decide +kernel
theorem d_Mo_parse_8 : decode prog_14_method_29_code 8 = .ok (.istore 4, 2) := by decide +kernel
theorem d_Mo_parse_10 : decode prog_14_method_29_code 10 = .ok (.iload 4, 2) := by decide +kernel
theorem d_Mo_parse_12 : decode prog_14_method_29_code 12 = .ok (.iload_n 2, 1) := by decide +kernel
theorem d_Mo_parse_13 : decode prog_14_method_29_code 13 = .ok (.if_icmp .ge 122, 3) := by decide +kernel
theorem d_Mo_parse_16 : decode prog_14_method_29_code 16 = .ok (.aload_n 0, 1) := by decide +kernel
theorem d_Mo_parse_17 : decode prog_14_method_29_code 17 = .ok (.iload 4, 2) := by decide +kernel
theorem d_Mo_parse_19 : decode prog_14_method_29_code 19 = .ok (.iload_n 2, 1) := by decide +kernel
theorem d_Mo_parse_20 : decode prog_14_method_29_code 20 = .ok (.invokevirtual 139, 3) := by decide +kernel
theorem d_Mo_parse_23 : decode prog_14_method_29_code 23 = .ok (.aload_n 0, 1) := by decide +kernel
theorem d_Mo_parse_24 : decode prog_14_method_29_code 24 = .ok (.iload 4, 2) := by decide +kernel
theorem d_Mo_parse_26 : decode prog_14_method_29_code 26 = .ok (.iload_n 2, 1) := by decide +kernel
theorem d_Mo_parse_27 : decode prog_14_method_29_code 27 = .ok (.invokevirtual 143, 3) := by decide +kernel
theorem d_Mo_parse_30 : decode prog_14_method_29_code 30 = .ok (.aload_n 0, 1) := by decide +kernel
theorem d_Mo_parse_31 : decode prog_14_method_29_code 31 = .ok (.getfield 111, 3) := by decide +kernel
theorem d_Mo_parse_34 : decode prog_14_method_29_code 34 = .ok (.iconst 4, 1) := by decide +kernel
theorem d_Mo_parse_35 : decode prog_14_method_29_code 35 = .ok (.if_icmp .lt 51, 3) := by decide +kernel
theorem d_Mo_parse_38 : decode prog_14_method_29_code 38 = .ok (.aload_n 0, 1) := by decide +kernel
theorem d_Mo_parse_39 : decode prog_14_method_29_code 39 = .ok (.getfield 111, 3) := by decide +kernel
theorem d_Mo_parse_42 : decode prog_14_method_29_code 42 = .ok (.aload_n 0, 1) := by decide +kernel
theorem d_Mo_parse_43 : decode prog_14_method_29_code 43 = .ok (.getfield 98, 3) := by decide +kernel
theorem d_Mo_parse_46 : decode prog_14_method_29_code 46 = .ok (.if_icmp .le 40, 3) := by decide +kernel
theorem d_Mo_parse_49 : decode prog_14_method_29_code 49 = .ok (.aload_n 0, 1) := by decide +kernel
theorem d_Mo_parse_50 : decode prog_14_method_29_code 50 = .ok (.iload_n 3, 1) := by decide +kernel
theorem d_Mo_parse_51 : decode prog_14_method_29_code 51 = .ok (.aload_n 0, 1) := by decide +kernel
theorem d_Mo_parse_52 : decode prog_14_method_29_code 52 = .ok (.getfield 118, 3) := by decide +kernel
theorem d_Mo_parse_55 : decode prog_14_method_29_code 55 = .ok (.iload 4, 2) := by decide +kernel
theorem d_Mo_parse_57 : decode prog_14_method_29_code 57 = .ok (.iconst 1, 1) := by decide +kernel
theorem d_Mo_parse_58 : decode prog_14_method_29_code 58 = .ok (.iadd, 1) := by decide +kernel
theorem d_Mo_parse_59 : decode prog_14_method_29_code 59 = .ok (.aload_n 0, 1) := by decide +kernel
theorem d_Mo_parse_60 : decode prog_14_method_29_code 60 = .ok (.getfield 121, 3) := by decide +kernel
theorem d_Mo_parse_63 : decode prog_14_method_29_code 63 = .ok (.iadd, 1) := by decide +kernel
theorem d_Mo_parse_64 : decode prog_14_method_29_code 64 = .ok (.aload_n 0, 1) := by decide +kernel
theorem d_Mo_parse_65 : decode prog_14_method_29_code 65 = .ok (.getfield 111, 3) := by decide +kernel
theorem d_Mo_parse_68 : decode prog_14_method_29_code 68 = .ok (.iconst 1, 1) := by decide +kernel
theorem d_Mo_parse_69 : decode prog_14_method_29_code 69 = .ok (.invokevirtual 146, 3) := by decide +kernel
theorem d_Mo_parse_72 : decode prog_14_method_29_code 72 = .ok (.iconst 0, 1) := by decide +kernel
theorem d_Mo_parse_73 : decode prog_14_method_29_code 73 = .ok (.istore_n 3, 1) := by decide +kernel
theorem d_Mo_parse_74 : decode prog_14_method_29_code 74 = .ok (.iload 4, 2) := by decide +kernel
theorem d_Mo_parse_76 : decode prog_14_method_29_code 76 = .ok (.aload_n 0, 1) := by decide +kernel
theorem d_Mo_parse_77 : decode prog_14_method_29_code 77 = .ok (.getfield 111, 3) := by decide +kernel
theorem d_Mo_parse_80 : decode prog_14_method_29_code 80 = .ok (.iadd, 1) := by decide +kernel
theorem d_Mo_parse_81 : decode prog_14_method_29_code 81 = .ok (.istore 4, 2) := by decide +kernel
theorem d_Mo_parse_83 : decode prog_14_method_29_code 83 = .ok (.goto (-73), 3) := by decide +kernel
theorem d_Mo_parse_86 : decode prog_14_method_29_code 86 = .ok (.aload_n 0, 1) := by decide +kernel
theorem d_Mo_parse_87 : decode prog_14_method_29_code 87 = .ok (.getfield 98, 3) := by decide +kernel
theorem d_Mo_parse_90 : decode prog_14_method_29_code 90 = .ok (.iconst 3, 1) := by decide +kernel
theorem d_Mo_parse_91 : decode prog_14_method_29_code 91 = .ok (.if_icmp .lt 35, 3) := by decide +kernel
theorem d_Mo_parse_94 : decode prog_14_method_29_code 94 = .ok (.aload_n 0, 1) := by decide +kernel
theorem d_Mo_parse_95 : decode prog_14_method_29_code 95 = .ok (.iload_n 3, 1) := by decide +kernel
theorem d_Mo_parse_96 : decode prog_14_method_29_code 96 = .ok (.aload_n 0, 1) := by decide +kernel
theorem d_Mo_parse_97 : decode prog_14_method_29_code 97 = .ok (.getfield 98, 3) := by decide +kernel
theorem d_Mo_parse_100 : decode prog_14_method_29_code 100 = .ok (.aload_n 0, 1) := by decide +kernel
theorem d_Mo_parse_101 : decode prog_14_method_29_code 101 = .ok (.getfield 101, 3) := by decide +kernel
theorem d_Mo_parse_104 : decode prog_14_method_29_code 104 = .ok (.aload_n 0, 1) := by decide +kernel
theorem d_Mo_parse_105 : decode prog_14_method_29_code 105 = .ok (.getfield 98, 3) := by decide +kernel
theorem d_Mo_parse_108 : decode prog_14_method_29_code 108 = .ok (.iconst 0, 1) := by decide +kernel
theorem d_Mo_parse_109 : decode prog_14_method_29_code 109 = .ok (.invokevirtual 146, 3) := by decide +kernel
theorem d_Mo_parse_112 : decode prog_14_method_29_code 112 = .ok (.iconst 0, 1) := by decide +kernel
theorem d_Mo_parse_113 : decode prog_14_method_29_code 113 = .ok (.istore_n 3, 1) := by decide +kernel
theorem d_Mo_parse_114 : decode prog_14_method_29_code 114 = .ok (.iload 4, 2) := by decide +kernel
theorem d_Mo_parse_116 : decode prog_14_method_29_code 116 = .ok (.aload_n 0, 1) := by decide +kernel
theorem d_Mo_parse_117 : decode prog_14_method_29_code 117 = .ok (.getfield 98, 3) := by decide +kernel
theorem d_Mo_parse_120 : decode prog_14_method_29_code 120 = .ok (.iadd, 1) := by decide +kernel
theorem d_Mo_parse_121 : decode prog_14_method_29_code 121 = .ok (.istore 4, 2) := by decide +kernel
theorem d_Mo_parse_123 : decode prog_14_method_29_code 123 = .ok (.goto (-113), 3) := by decide +kernel
theorem d_Mo_parse_126 : decode prog_14_method_29_code 126 = .ok (.iinc 3 1, 3) := by decide +kernel
theorem d_Mo_parse_129 : decode prog_14_method_29_code 129 = .ok (.iinc 4 1, 3) := by decide +kernel
theorem d_Mo_parse_132 : decode prog_14_method_29_code 132 = .ok (.goto (-122), 3) := by decide +kernel
theorem d_Mo_parse_135 : decode prog_14_method_29_code 135 = .ok (.iload_n 3, 1) := by decide +kernel
theorem d_Mo_parse_136 : decode prog_14_method_29_code 136 = .ok (.ifCond .le 12, 3) := by decide +kernel
theorem d_Mo_parse_139 : decode prog_14_method_29_code 139 = .ok (.aload_n 0, 1) := by decide +kernel
theorem d_Mo_parse_140 : decode prog_14_method_29_code 140 = .ok (.iload_n 3, 1) := by decide +kernel
theorem d_Mo_parse_141 : decode prog_14_method_29_code 141 = .ok (.iconst 0, 1) := by decide +kernel
theorem d_Mo_parse_142 : decode prog_14_method_29_code 142 = .ok (.iconst 0, 1) := by decide +kernel
theorem d_Mo_parse_143 : decode prog_14_method_29_code 143 = .ok (.iconst 0, 1) := by decide +kernel
theorem d_Mo_parse_144 : decode prog_14_method_29_code 144 = .ok (.iconst 0, 1) := by decide +kernel
theorem d_Mo_parse_145 : decode prog_14_method_29_code 145 = .ok (.invokevirtual 146, 3) := by decide +kernel
theorem d_Mo_parse_148 : decode prog_14_method_29_code 148 = .ok (.return_, 1) := by decide +kernel
theorem d_Mo_forget_0 : decode prog_14_method_30_code 0 = .ok (.iconst 0, 1) := by decide +kernel
theorem d_Mo_forget_1 : decode prog_14_method_30_code 1 = .ok (.istore_n 1, 1) := by decide +kernel
theorem d_Mo_forget_2 : decode prog_14_method_30_code 2 = .ok (.iload_n 1, 1) := by decide +kernel
theorem d_Mo_forget_3 : decode prog_14_method_30_code 3 = .ok (.sipush 1024, 3) := by decide +kernel
theorem d_Mo_forget_6 : decode prog_14_method_30_code 6 = .ok (.if_icmp .ge 16, 3) := by decide +kernel
theorem d_Mo_forget_9 : decode prog_14_method_30_code 9 = .ok (.aload_n 0, 1) := by decide +kernel
theorem d_Mo_forget_10 : decode prog_14_method_30_code 10 = .ok (.getfield 19, 3) := by decide +kernel
theorem d_Mo_forget_13 : decode prog_14_method_30_code 13 = .ok (.iload_n 1, 1) := by decide +kernel
theorem d_Mo_forget_14 : decode prog_14_method_30_code 14 = .ok (.iconst 0, 1) := by decide +kernel
theorem d_Mo_forget_15 : decode prog_14_method_30_code 15 = .ok (.iastore, 1) := by decide +kernel
theorem d_Mo_forget_16 : decode prog_14_method_30_code 16 = .ok (.iinc 1 1, 3) := by decide +kernel
theorem d_Mo_forget_19 : decode prog_14_method_30_code 19 = .ok (.goto (-17), 3) := by decide +kernel
theorem d_Mo_forget_22 : decode prog_14_method_30_code 22 = .ok (.return_, 1) := by decide +kernel
theorem d_Mo_weigh_0 : decode prog_14_method_31_code 0 = .ok (.iconst 0, 1) := by decide +kernel
theorem d_Mo_weigh_1 : decode prog_14_method_31_code 1 = .ok (.istore_n 3, 1) := by decide +kernel
theorem d_Mo_weigh_2 : decode prog_14_method_31_code 2 = .ok (.iconst 0, 1) := by decide +kernel
theorem d_Mo_weigh_3 : decode prog_14_method_31_code 3 = .ok (.istore 4, 2) := by decide +kernel
theorem d_Mo_weigh_5 : decode prog_14_method_31_code 5 = .ok (.iconst (-1), 1) := by decide +kernel
theorem d_Mo_weigh_6 : decode prog_14_method_31_code 6 = .ok (.istore 5, 2) := by decide +kernel
theorem d_Mo_weigh_8 : decode prog_14_method_31_code 8 = .ok (.iload_n 1, 1) := by decide +kernel
theorem d_Mo_weigh_9 : decode prog_14_method_31_code 9 = .ok (.istore 6, 2) := by decide +kernel
theorem d_Mo_weigh_11 : decode prog_14_method_31_code 11 = .ok (.iload 6, 2) := by decide +kernel
theorem d_Mo_weigh_13 : decode prog_14_method_31_code 13 = .ok (.iload_n 1, 1) := by decide +kernel
theorem d_Mo_weigh_14 : decode prog_14_method_31_code 14 = .ok (.iload_n 2, 1) := by decide +kernel
theorem d_Mo_weigh_15 : decode prog_14_method_31_code 15 = .ok (.iadd, 1) := by decide +kernel
theorem d_Mo_weigh_16 : decode prog_14_method_31_code 16 = .ok (.if_icmp .ge 88, 3) := by decide +kernel
theorem d_Mo_weigh_19 : decode prog_14_method_31_code 19 = .ok (.aload_n 0, 1) := by decide +kernel
theorem d_Mo_weigh_20 : decode prog_14_method_31_code 20 = .ok (.getfield 22, 3) := by decide +kernel
theorem d_Mo_weigh_23 : decode prog_14_method_31_code 23 = .ok (.iload 6, 2) := by decide +kernel
theorem d_Mo_weigh_25 : decode prog_14_method_31_code 25 = .ok (.iconst (-1), 1) := by decide +kernel
theorem d_Mo_weigh_26 : decode prog_14_method_31_code 26 = .ok (.iastore, 1) := by decide +kernel
theorem d_Mo_weigh_27 : decode prog_14_method_31_code 27 = .ok (.aload_n 0, 1) := by decide +kernel
theorem d_Mo_weigh_28 : decode prog_14_method_31_code 28 = .ok (.getfield 19, 3) := by decide +kernel
theorem d_Mo_weigh_31 : decode prog_14_method_31_code 31 = .ok (.iload 6, 2) := by decide +kernel
theorem d_Mo_weigh_33 : decode prog_14_method_31_code 33 = .ok (.iaload, 1) := by decide +kernel
theorem d_Mo_weigh_34 : decode prog_14_method_31_code 34 = .ok (.ifCond .le 9, 3) := by decide +kernel
theorem d_Mo_weigh_37 : decode prog_14_method_31_code 37 = .ok (.iload_n 3, 1) := by decide +kernel
theorem d_Mo_weigh_38 : decode prog_14_method_31_code 38 = .ok (.iconst 1, 1) := by decide +kernel
theorem d_Mo_weigh_39 : decode prog_14_method_31_code 39 = .ok (.iadd, 1) := by decide +kernel
theorem d_Mo_weigh_40 : decode prog_14_method_31_code 40 = .ok (.goto 4, 3) := by decide +kernel
theorem d_Mo_weigh_43 : decode prog_14_method_31_code 43 = .ok (.iload_n 3, 1) := by decide +kernel
theorem d_Mo_weigh_44 : decode prog_14_method_31_code 44 = .ok (.istore_n 3, 1) := by decide +kernel
theorem d_Mo_weigh_45 : decode prog_14_method_31_code 45 = .ok (.iload 4, 2) := by decide +kernel
theorem d_Mo_weigh_47 : decode prog_14_method_31_code 47 = .ok (.aload_n 0, 1) := by decide +kernel
theorem d_Mo_weigh_48 : decode prog_14_method_31_code 48 = .ok (.getfield 19, 3) := by decide +kernel
theorem d_Mo_weigh_51 : decode prog_14_method_31_code 51 = .ok (.iload 6, 2) := by decide +kernel
theorem d_Mo_weigh_53 : decode prog_14_method_31_code 53 = .ok (.iaload, 1) := by decide +kernel
theorem d_Mo_weigh_54 : decode prog_14_method_31_code 54 = .ok (.iadd, 1) := by decide +kernel
theorem d_Mo_weigh_55 : decode prog_14_method_31_code 55 = .ok (.istore 4, 2) := by decide +kernel
theorem d_Mo_weigh_57 : decode prog_14_method_31_code 57 = .ok (.aload_n 0, 1) := by decide +kernel
theorem d_Mo_weigh_58 : decode prog_14_method_31_code 58 = .ok (.getfield 19, 3) := by decide +kernel
theorem d_Mo_weigh_61 : decode prog_14_method_31_code 61 = .ok (.iload 6, 2) := by decide +kernel
theorem d_Mo_weigh_63 : decode prog_14_method_31_code 63 = .ok (.iaload, 1) := by decide +kernel
theorem d_Mo_weigh_64 : decode prog_14_method_31_code 64 = .ok (.ifCond .le 30, 3) := by decide +kernel
theorem d_Mo_weigh_67 : decode prog_14_method_31_code 67 = .ok (.iload 5, 2) := by decide +kernel
theorem d_Mo_weigh_69 : decode prog_14_method_31_code 69 = .ok (.ifCond .lt 20, 3) := by decide +kernel
theorem d_Mo_weigh_72 : decode prog_14_method_31_code 72 = .ok (.aload_n 0, 1) := by decide +kernel
theorem d_Mo_weigh_73 : decode prog_14_method_31_code 73 = .ok (.getfield 19, 3) := by decide +kernel
theorem d_Mo_weigh_76 : decode prog_14_method_31_code 76 = .ok (.iload 6, 2) := by decide +kernel
theorem d_Mo_weigh_78 : decode prog_14_method_31_code 78 = .ok (.iaload, 1) := by decide +kernel
theorem d_Mo_weigh_79 : decode prog_14_method_31_code 79 = .ok (.aload_n 0, 1) := by decide +kernel
theorem d_Mo_weigh_80 : decode prog_14_method_31_code 80 = .ok (.getfield 19, 3) := by decide +kernel
theorem d_Mo_weigh_83 : decode prog_14_method_31_code 83 = .ok (.iload 5, 2) := by decide +kernel
theorem d_Mo_weigh_85 : decode prog_14_method_31_code 85 = .ok (.iaload, 1) := by decide +kernel
theorem d_Mo_weigh_86 : decode prog_14_method_31_code 86 = .ok (.if_icmp .le 8, 3) := by decide +kernel
theorem d_Mo_weigh_89 : decode prog_14_method_31_code 89 = .ok (.iload 6, 2) := by decide +kernel
theorem d_Mo_weigh_91 : decode prog_14_method_31_code 91 = .ok (.goto 5, 3) := by decide +kernel
theorem d_Mo_weigh_94 : decode prog_14_method_31_code 94 = .ok (.iload 5, 2) := by decide +kernel
theorem d_Mo_weigh_96 : decode prog_14_method_31_code 96 = .ok (.istore 5, 2) := by decide +kernel
theorem d_Mo_weigh_98 : decode prog_14_method_31_code 98 = .ok (.iinc 6 1, 3) := by decide +kernel
theorem d_Mo_weigh_101 : decode prog_14_method_31_code 101 = .ok (.goto (-90), 3) := by decide +kernel
theorem d_Mo_weigh_104 : decode prog_14_method_31_code 104 = .ok (.iload_n 1, 1) := by decide +kernel
theorem d_Mo_weigh_105 : decode prog_14_method_31_code 105 = .ok (.istore 6, 2) := by decide +kernel
theorem d_Mo_weigh_107 : decode prog_14_method_31_code 107 = .ok (.iload 6, 2) := by decide +kernel
theorem d_Mo_weigh_109 : decode prog_14_method_31_code 109 = .ok (.iload_n 1, 1) := by decide +kernel
theorem d_Mo_weigh_110 : decode prog_14_method_31_code 110 = .ok (.iload_n 2, 1) := by decide +kernel
theorem d_Mo_weigh_111 : decode prog_14_method_31_code 111 = .ok (.iadd, 1) := by decide +kernel
theorem d_Mo_weigh_112 : decode prog_14_method_31_code 112 = .ok (.if_icmp .ge 57, 3) := by decide +kernel
theorem d_Mo_weigh_115 : decode prog_14_method_31_code 115 = .ok (.aload_n 0, 1) := by decide +kernel
theorem d_Mo_weigh_116 : decode prog_14_method_31_code 116 = .ok (.getfield 19, 3) := by decide +kernel
theorem d_Mo_weigh_119 : decode prog_14_method_31_code 119 = .ok (.iload 6, 2) := by decide +kernel
theorem d_Mo_weigh_121 : decode prog_14_method_31_code 121 = .ok (.iaload, 1) := by decide +kernel
theorem d_Mo_weigh_122 : decode prog_14_method_31_code 122 = .ok (.ifCond .le 41, 3) := by decide +kernel
theorem d_Mo_weigh_125 : decode prog_14_method_31_code 125 = .ok (.aload_n 0, 1) := by decide +kernel
theorem d_Mo_weigh_126 : decode prog_14_method_31_code 126 = .ok (.getfield 22, 3) := by decide +kernel
theorem d_Mo_weigh_129 : decode prog_14_method_31_code 129 = .ok (.iload 6, 2) := by decide +kernel
theorem d_Mo_weigh_131 : decode prog_14_method_31_code 131 = .ok (.iload_n 3, 1) := by decide +kernel
theorem d_Mo_weigh_132 : decode prog_14_method_31_code 132 = .ok (.iconst 1, 1) := by decide +kernel
theorem d_Mo_weigh_133 : decode prog_14_method_31_code 133 = .ok (.if_icmp .ne 7, 3) := by decide +kernel
theorem d_Mo_weigh_136 : decode prog_14_method_31_code 136 = .ok (.iconst 0, 1) := by decide +kernel
theorem d_Mo_weigh_137 : decode prog_14_method_31_code 137 = .ok (.goto 25, 3) := by decide +kernel
theorem d_Mo_weigh_140 : decode prog_14_method_31_code 140 = .ok (.iload_n 3, 1) := by decide +kernel
theorem d_Mo_weigh_141 : decode prog_14_method_31_code 141 = .ok (.iconst 2, 1) := by decide +kernel
theorem d_Mo_weigh_142 : decode prog_14_method_31_code 142 = .ok (.if_icmp .eq 15, 3) := by decide +kernel
theorem d_Mo_weigh_145 : decode prog_14_method_31_code 145 = .ok (.iload_n 3, 1) := by decide +kernel
theorem d_Mo_weigh_146 : decode prog_14_method_31_code 146 = .ok (.iconst 3, 1) := by decide +kernel
theorem d_Mo_weigh_147 : decode prog_14_method_31_code 147 = .ok (.if_icmp .ne 14, 3) := by decide +kernel
theorem d_Mo_weigh_150 : decode prog_14_method_31_code 150 = .ok (.iload 6, 2) := by decide +kernel
theorem d_Mo_weigh_152 : decode prog_14_method_31_code 152 = .ok (.iload 5, 2) := by decide +kernel
theorem d_Mo_weigh_154 : decode prog_14_method_31_code 154 = .ok (.if_icmp .ne 7, 3) := by decide +kernel
theorem d_Mo_weigh_157 : decode prog_14_method_31_code 157 = .ok (.iconst 1, 1) := by decide +kernel
theorem d_Mo_weigh_158 : decode prog_14_method_31_code 158 = .ok (.goto 4, 3) := by decide +kernel
theorem d_Mo_weigh_161 : decode prog_14_method_31_code 161 = .ok (.iconst 2, 1) := by decide +kernel
theorem d_Mo_weigh_162 : decode prog_14_method_31_code 162 = .ok (.iastore, 1) := by decide +kernel
theorem d_Mo_weigh_163 : decode prog_14_method_31_code 163 = .ok (.iinc 6 1, 3) := by decide +kernel
theorem d_Mo_weigh_166 : decode prog_14_method_31_code 166 = .ok (.goto (-59), 3) := by decide +kernel
theorem d_Mo_weigh_169 : decode prog_14_method_31_code 169 = .ok (.aload_n 0, 1) := by decide +kernel
theorem d_Mo_weigh_170 : decode prog_14_method_31_code 170 = .ok (.getfield 22, 3) := by decide +kernel
theorem d_Mo_weigh_173 : decode prog_14_method_31_code 173 = .ok (.iload_n 1, 1) := by decide +kernel
theorem d_Mo_weigh_174 : decode prog_14_method_31_code 174 = .ok (.iload_n 3, 1) := by decide +kernel
theorem d_Mo_weigh_175 : decode prog_14_method_31_code 175 = .ok (.ifCond .ne 7, 3) := by decide +kernel
theorem d_Mo_weigh_178 : decode prog_14_method_31_code 178 = .ok (.iconst 0, 1) := by decide +kernel
theorem d_Mo_weigh_179 : decode prog_14_method_31_code 179 = .ok (.goto 9, 3) := by decide +kernel
theorem d_Mo_weigh_182 : decode prog_14_method_31_code 182 = .ok (.aload_n 0, 1) := by decide +kernel
theorem d_Mo_weigh_183 : decode prog_14_method_31_code 183 = .ok (.getfield 22, 3) := by decide +kernel
theorem d_Mo_weigh_186 : decode prog_14_method_31_code 186 = .ok (.iload_n 1, 1) := by decide +kernel
theorem d_Mo_weigh_187 : decode prog_14_method_31_code 187 = .ok (.iaload, 1) := by decide +kernel
theorem d_Mo_weigh_188 : decode prog_14_method_31_code 188 = .ok (.iastore, 1) := by decide +kernel
theorem d_Mo_weigh_189 : decode prog_14_method_31_code 189 = .ok (.iload_n 3, 1) := by decide +kernel
theorem d_Mo_weigh_190 : decode prog_14_method_31_code 190 = .ok (.iconst 5, 1) := by decide +kernel
theorem d_Mo_weigh_191 : decode prog_14_method_31_code 191 = .ok (.if_icmp .lt 11, 3) := by decide +kernel
theorem d_Mo_weigh_194 : decode prog_14_method_31_code 194 = .ok (.aload_n 0, 1) := by decide +kernel
theorem d_Mo_weigh_195 : decode prog_14_method_31_code 195 = .ok (.iload_n 1, 1) := by decide +kernel
theorem d_Mo_weigh_196 : decode prog_14_method_31_code 196 = .ok (.iload_n 2, 1) := by decide +kernel
theorem d_Mo_weigh_197 : decode prog_14_method_31_code 197 = .ok (.iload 4, 2) := by decide +kernel
theorem d_Mo_weigh_199 : decode prog_14_method_31_code 199 = .ok (.invokevirtual 150, 3) := by decide +kernel
theorem d_Mo_weigh_202 : decode prog_14_method_31_code 202 = .ok (.iload_n 3, 1) := by decide +kernel
theorem d_Mo_weigh_203 : decode prog_14_method_31_code 203 = .ok (.ireturn, 1) := by decide +kernel
theorem d_Mo_share_0 : decode prog_14_method_32_code 0 = .ok (.bipush 64, 2) := by decide +kernel
theorem d_Mo_share_2 : decode prog_14_method_32_code 2 = .ok (.istore 4, 2) := by decide +kernel
theorem d_Mo_share_4 : decode prog_14_method_32_code 4 = .ok (.iload_n 1, 1) := by decide +kernel
theorem d_Mo_share_5 : decode prog_14_method_32_code 5 = .ok (.istore 5, 2) := by decide +kernel
theorem d_Mo_share_7 : decode prog_14_method_32_code 7 = .ok (.iload 5, 2) := by decide +kernel
theorem d_Mo_share_9 : decode prog_14_method_32_code 9 = .ok (.iload_n 1, 1) := by decide +kernel
theorem d_Mo_share_10 : decode prog_14_method_32_code 10 = .ok (.iload_n 2, 1) := by decide +kernel
theorem d_Mo_share_11 : decode prog_14_method_32_code 11 = .ok (.iadd, 1) := by decide +kernel
theorem d_Mo_share_12 : decode prog_14_method_32_code 12 = .ok (.if_icmp .ge 61, 3) := by decide +kernel
theorem d_Mo_share_15 : decode prog_14_method_32_code 15 = .ok (.aload_n 0, 1) := by decide +kernel
theorem d_Mo_share_16 : decode prog_14_method_32_code 16 = .ok (.getfield 19, 3) := by decide +kernel
theorem d_Mo_share_19 : decode prog_14_method_32_code 19 = .ok (.iload 5, 2) := by decide +kernel
theorem d_Mo_share_21 : decode prog_14_method_32_code 21 = .ok (.iaload, 1) := by decide +kernel
theorem d_Mo_share_22 : decode prog_14_method_32_code 22 = .ok (.ifCond .le 45, 3) := by decide +kernel
theorem d_Mo_share_25 : decode prog_14_method_32_code 25 = .ok (.iconst 1, 1) := by decide +kernel
theorem d_Mo_share_26 : decode prog_14_method_32_code 26 = .ok (.istore 6, 2) := by decide +kernel
theorem d_Mo_share_28 : decode prog_14_method_32_code 28 = .ok (.aload_n 0, 1) := by decide +kernel
theorem d_Mo_share_29 : decode prog_14_method_32_code 29 = .ok (.getfield 19, 3) := by decide +kernel
theorem d_Mo_share_32 : decode prog_14_method_32_code 32 = .ok (.iload 5, 2) := by decide +kernel
theorem d_Mo_share_34 : decode prog_14_method_32_code 34 = .ok (.iaload, 1) := by decide +kernel
theorem d_Mo_share_35 : decode prog_14_method_32_code 35 = .ok (.iload 6, 2) := by decide +kernel
theorem d_Mo_share_37 : decode prog_14_method_32_code 37 = .ok (.ishl, 1) := by decide +kernel
theorem d_Mo_share_38 : decode prog_14_method_32_code 38 = .ok (.iload_n 3, 1) := by decide +kernel
theorem d_Mo_share_39 : decode prog_14_method_32_code 39 = .ok (.if_icmp .ge 9, 3) := by decide +kernel
theorem d_Mo_share_42 : decode prog_14_method_32_code 42 = .ok (.iinc 6 1, 3) := by decide +kernel
theorem d_Mo_share_45 : decode prog_14_method_32_code 45 = .ok (.goto (-17), 3) := by decide +kernel
theorem d_Mo_share_48 : decode prog_14_method_32_code 48 = .ok (.aload_n 0, 1) := by decide +kernel
theorem d_Mo_share_49 : decode prog_14_method_32_code 49 = .ok (.getfield 22, 3) := by decide +kernel
theorem d_Mo_share_52 : decode prog_14_method_32_code 52 = .ok (.iload 5, 2) := by decide +kernel
theorem d_Mo_share_54 : decode prog_14_method_32_code 54 = .ok (.iload 6, 2) := by decide +kernel
theorem d_Mo_share_56 : decode prog_14_method_32_code 56 = .ok (.iastore, 1) := by decide +kernel
theorem d_Mo_share_57 : decode prog_14_method_32_code 57 = .ok (.iload 4, 2) := by decide +kernel
theorem d_Mo_share_59 : decode prog_14_method_32_code 59 = .ok (.bipush 64, 2) := by decide +kernel
theorem d_Mo_share_61 : decode prog_14_method_32_code 61 = .ok (.iload 6, 2) := by decide +kernel
theorem d_Mo_share_63 : decode prog_14_method_32_code 63 = .ok (.ishr, 1) := by decide +kernel
theorem d_Mo_share_64 : decode prog_14_method_32_code 64 = .ok (.isub, 1) := by decide +kernel
theorem d_Mo_share_65 : decode prog_14_method_32_code 65 = .ok (.istore 4, 2) := by decide +kernel
theorem d_Mo_share_67 : decode prog_14_method_32_code 67 = .ok (.iinc 5 1, 3) := by decide +kernel
theorem d_Mo_share_70 : decode prog_14_method_32_code 70 = .ok (.goto (-63), 3) := by decide +kernel
theorem d_Mo_share_73 : decode prog_14_method_32_code 73 = .ok (.iconst 0, 1) := by decide +kernel
theorem d_Mo_share_74 : decode prog_14_method_32_code 74 = .ok (.istore 5, 2) := by decide +kernel
theorem d_Mo_share_76 : decode prog_14_method_32_code 76 = .ok (.iload 5, 2) := by decide +kernel
theorem d_Mo_share_78 : decode prog_14_method_32_code 78 = .ok (.sipush 400, 3) := by decide +kernel
theorem d_Mo_share_81 : decode prog_14_method_32_code 81 = .ok (.if_icmp .ge 88, 3) := by decide +kernel
theorem d_Mo_share_84 : decode prog_14_method_32_code 84 = .ok (.iload 4, 2) := by decide +kernel
theorem d_Mo_share_86 : decode prog_14_method_32_code 86 = .ok (.ifCond .le 83, 3) := by decide +kernel
theorem d_Mo_share_89 : decode prog_14_method_32_code 89 = .ok (.iload_n 1, 1) := by decide +kernel
theorem d_Mo_share_90 : decode prog_14_method_32_code 90 = .ok (.istore 6, 2) := by decide +kernel
theorem d_Mo_share_92 : decode prog_14_method_32_code 92 = .ok (.iload 6, 2) := by decide +kernel
theorem d_Mo_share_94 : decode prog_14_method_32_code 94 = .ok (.iload_n 1, 1) := by decide +kernel
theorem d_Mo_share_95 : decode prog_14_method_32_code 95 = .ok (.iload_n 2, 1) := by decide +kernel
theorem d_Mo_share_96 : decode prog_14_method_32_code 96 = .ok (.iadd, 1) := by decide +kernel
theorem d_Mo_share_97 : decode prog_14_method_32_code 97 = .ok (.if_icmp .ge 66, 3) := by decide +kernel
theorem d_Mo_share_100 : decode prog_14_method_32_code 100 = .ok (.aload_n 0, 1) := by decide +kernel
theorem d_Mo_share_101 : decode prog_14_method_32_code 101 = .ok (.getfield 22, 3) := by decide +kernel
theorem d_Mo_share_104 : decode prog_14_method_32_code 104 = .ok (.iload 6, 2) := by decide +kernel
theorem d_Mo_share_106 : decode prog_14_method_32_code 106 = .ok (.iaload, 1) := by decide +kernel
theorem d_Mo_share_107 : decode prog_14_method_32_code 107 = .ok (.istore 7, 2) := by decide +kernel
theorem d_Mo_share_109 : decode prog_14_method_32_code 109 = .ok (.iload 7, 2) := by decide +kernel
theorem d_Mo_share_111 : decode prog_14_method_32_code 111 = .ok (.iconst 1, 1) := by decide +kernel
theorem d_Mo_share_112 : decode prog_14_method_32_code 112 = .ok (.if_icmp .le 11, 3) := by decide +kernel
theorem d_Mo_share_115 : decode prog_14_method_32_code 115 = .ok (.bipush 64, 2) := by decide +kernel
theorem d_Mo_share_117 : decode prog_14_method_32_code 117 = .ok (.iload 7, 2) := by decide +kernel
theorem d_Mo_share_119 : decode prog_14_method_32_code 119 = .ok (.ishr, 1) := by decide +kernel
theorem d_Mo_share_120 : decode prog_14_method_32_code 120 = .ok (.goto 5, 3) := by decide +kernel
theorem d_Mo_share_123 : decode prog_14_method_32_code 123 = .ok (.bipush 100, 2) := by decide +kernel
theorem d_Mo_share_125 : decode prog_14_method_32_code 125 = .ok (.istore 8, 2) := by decide +kernel
theorem d_Mo_share_127 : decode prog_14_method_32_code 127 = .ok (.iload 4, 2) := by decide +kernel
theorem d_Mo_share_129 : decode prog_14_method_32_code 129 = .ok (.ifCond .le 28, 3) := by decide +kernel
theorem d_Mo_share_132 : decode prog_14_method_32_code 132 = .ok (.iload 8, 2) := by decide +kernel
theorem d_Mo_share_134 : decode prog_14_method_32_code 134 = .ok (.iload 4, 2) := by decide +kernel
theorem d_Mo_share_136 : decode prog_14_method_32_code 136 = .ok (.if_icmp .gt 21, 3) := by decide +kernel
theorem d_Mo_share_139 : decode prog_14_method_32_code 139 = .ok (.aload_n 0, 1) := by decide +kernel
theorem d_Mo_share_140 : decode prog_14_method_32_code 140 = .ok (.getfield 22, 3) := by decide +kernel
theorem d_Mo_share_143 : decode prog_14_method_32_code 143 = .ok (.iload 6, 2) := by decide +kernel
theorem d_Mo_share_145 : decode prog_14_method_32_code 145 = .ok (.iload 7, 2) := by decide +kernel
theorem d_Mo_share_147 : decode prog_14_method_32_code 147 = .ok (.iconst 1, 1) := by decide +kernel
theorem d_Mo_share_148 : decode prog_14_method_32_code 148 = .ok (.isub, 1) := by decide +kernel
theorem d_Mo_share_149 : decode prog_14_method_32_code 149 = .ok (.iastore, 1) := by decide +kernel
theorem d_Mo_share_150 : decode prog_14_method_32_code 150 = .ok (.iload 4, 2) := by decide +kernel
theorem d_Mo_share_152 : decode prog_14_method_32_code 152 = .ok (.iload 8, 2) := by decide +kernel
theorem d_Mo_share_154 : decode prog_14_method_32_code 154 = .ok (.isub, 1) := by decide +kernel
theorem d_Mo_share_155 : decode prog_14_method_32_code 155 = .ok (.istore 4, 2) := by decide +kernel
theorem d_Mo_share_157 : decode prog_14_method_32_code 157 = .ok (.iinc 6 1, 3) := by decide +kernel
theorem d_Mo_share_160 : decode prog_14_method_32_code 160 = .ok (.goto (-68), 3) := by decide +kernel
theorem d_Mo_share_163 : decode prog_14_method_32_code 163 = .ok (.iinc 5 1, 3) := by decide +kernel
theorem d_Mo_share_166 : decode prog_14_method_32_code 166 = .ok (.goto (-90), 3) := by decide +kernel
theorem d_Mo_share_169 : decode prog_14_method_32_code 169 = .ok (.return_, 1) := by decide +kernel
theorem d_Mo_assign_0 : decode prog_14_method_33_code 0 = .ok (.iconst 0, 1) := by decide +kernel
theorem d_Mo_assign_1 : decode prog_14_method_33_code 1 = .ok (.istore_n 3, 1) := by decide +kernel
theorem d_Mo_assign_2 : decode prog_14_method_33_code 2 = .ok (.iconst 0, 1) := by decide +kernel
theorem d_Mo_assign_3 : decode prog_14_method_33_code 3 = .ok (.istore 4, 2) := by decide +kernel
theorem d_Mo_assign_5 : decode prog_14_method_33_code 5 = .ok (.iconst 1, 1) := by decide +kernel
theorem d_Mo_assign_6 : decode prog_14_method_33_code 6 = .ok (.istore 5, 2) := by decide +kernel
theorem d_Mo_assign_8 : decode prog_14_method_33_code 8 = .ok (.iconst 0, 1) := by decide +kernel
theorem d_Mo_assign_9 : decode prog_14_method_33_code 9 = .ok (.istore 6, 2) := by decide +kernel
theorem d_Mo_assign_11 : decode prog_14_method_33_code 11 = .ok (.iload 6, 2) := by decide +kernel
theorem d_Mo_assign_13 : decode prog_14_method_33_code 13 = .ok (.bipush 6, 2) := by decide +kernel
theorem d_Mo_assign_15 : decode prog_14_method_33_code 15 = .ok (.if_icmp .gt 72, 3) := by decide +kernel
theorem d_Mo_assign_18 : decode prog_14_method_33_code 18 = .ok (.iload_n 1, 1) := by decide +kernel
theorem d_Mo_assign_19 : decode prog_14_method_33_code 19 = .ok (.istore 7, 2) := by decide +kernel
theorem d_Mo_assign_21 : decode prog_14_method_33_code 21 = .ok (.iload 7, 2) := by decide +kernel
theorem d_Mo_assign_23 : decode prog_14_method_33_code 23 = .ok (.iload_n 1, 1) := by decide +kernel
theorem d_Mo_assign_24 : decode prog_14_method_33_code 24 = .ok (.iload_n 2, 1) := by decide +kernel
theorem d_Mo_assign_25 : decode prog_14_method_33_code 25 = .ok (.iadd, 1) := by decide +kernel
theorem d_Mo_assign_26 : decode prog_14_method_33_code 26 = .ok (.if_icmp .ge 55, 3) := by decide +kernel
theorem d_Mo_assign_29 : decode prog_14_method_33_code 29 = .ok (.aload_n 0, 1) := by decide +kernel
theorem d_Mo_assign_30 : decode prog_14_method_33_code 30 = .ok (.getfield 22, 3) := by decide +kernel
theorem d_Mo_assign_33 : decode prog_14_method_33_code 33 = .ok (.iload 7, 2) := by decide +kernel
theorem d_Mo_assign_35 : decode prog_14_method_33_code 35 = .ok (.iaload, 1) := by decide +kernel
theorem d_Mo_assign_36 : decode prog_14_method_33_code 36 = .ok (.iload 6, 2) := by decide +kernel
theorem d_Mo_assign_38 : decode prog_14_method_33_code 38 = .ok (.if_icmp .ne 37, 3) := by decide +kernel
theorem d_Mo_assign_41 : decode prog_14_method_33_code 41 = .ok (.iload 5, 2) := by decide +kernel
theorem d_Mo_assign_43 : decode prog_14_method_33_code 43 = .ok (.ifCond .eq 7, 3) := by decide +kernel
theorem d_Mo_assign_46 : decode prog_14_method_33_code 46 = .ok (.iconst 0, 1) := by decide +kernel
theorem d_Mo_assign_47 : decode prog_14_method_33_code 47 = .ok (.goto 12, 3) := by decide +kernel
theorem d_Mo_assign_50 : decode prog_14_method_33_code 50 = .ok (.iload_n 3, 1) := by decide +kernel
theorem d_Mo_assign_51 : decode prog_14_method_33_code 51 = .ok (.iconst 1, 1) := by decide +kernel
theorem d_Mo_assign_52 : decode prog_14_method_33_code 52 = .ok (.iadd, 1) := by decide +kernel
theorem d_Mo_assign_53 : decode prog_14_method_33_code 53 = .ok (.iload 6, 2) := by decide +kernel
theorem d_Mo_assign_55 : decode prog_14_method_33_code 55 = .ok (.iload 4, 2) := by decide +kernel
theorem d_Mo_assign_57 : decode prog_14_method_33_code 57 = .ok (.isub, 1) := by decide +kernel
theorem d_Mo_assign_58 : decode prog_14_method_33_code 58 = .ok (.ishl, 1) := by decide +kernel
theorem d_Mo_assign_59 : decode prog_14_method_33_code 59 = .ok (.istore_n 3, 1) := by decide +kernel
theorem d_Mo_assign_60 : decode prog_14_method_33_code 60 = .ok (.aload_n 0, 1) := by decide +kernel
theorem d_Mo_assign_61 : decode prog_14_method_33_code 61 = .ok (.getfield 25, 3) := by decide +kernel
theorem d_Mo_assign_64 : decode prog_14_method_33_code 64 = .ok (.iload 7, 2) := by decide +kernel
theorem d_Mo_assign_66 : decode prog_14_method_33_code 66 = .ok (.iload_n 3, 1) := by decide +kernel
theorem d_Mo_assign_67 : decode prog_14_method_33_code 67 = .ok (.iastore, 1) := by decide +kernel
theorem d_Mo_assign_68 : decode prog_14_method_33_code 68 = .ok (.iload 6, 2) := by decide +kernel
theorem d_Mo_assign_70 : decode prog_14_method_33_code 70 = .ok (.istore 4, 2) := by decide +kernel
theorem d_Mo_assign_72 : decode prog_14_method_33_code 72 = .ok (.iconst 0, 1) := by decide +kernel
theorem d_Mo_assign_73 : decode prog_14_method_33_code 73 = .ok (.istore 5, 2) := by decide +kernel
theorem d_Mo_assign_75 : decode prog_14_method_33_code 75 = .ok (.iinc 7 1, 3) := by decide +kernel
theorem d_Mo_assign_78 : decode prog_14_method_33_code 78 = .ok (.goto (-57), 3) := by decide +kernel
theorem d_Mo_assign_81 : decode prog_14_method_33_code 81 = .ok (.iinc 6 1, 3) := by decide +kernel
theorem d_Mo_assign_84 : decode prog_14_method_33_code 84 = .ok (.goto (-73), 3) := by decide +kernel
theorem d_Mo_assign_87 : decode prog_14_method_33_code 87 = .ok (.return_, 1) := by decide +kernel
theorem d_Mo_number_0 : decode prog_14_method_34_code 0 = .ok (.iconst 0, 1) := by decide +kernel
theorem d_Mo_number_1 : decode prog_14_method_34_code 1 = .ok (.istore_n 3, 1) := by decide +kernel
theorem d_Mo_number_2 : decode prog_14_method_34_code 2 = .ok (.iload_n 3, 1) := by decide +kernel
theorem d_Mo_number_3 : decode prog_14_method_34_code 3 = .ok (.iload_n 2, 1) := by decide +kernel
theorem d_Mo_number_4 : decode prog_14_method_34_code 4 = .ok (.if_icmp .ge 33, 3) := by decide +kernel
theorem d_Mo_number_7 : decode prog_14_method_34_code 7 = .ok (.aload_n 0, 1) := by decide +kernel
theorem d_Mo_number_8 : decode prog_14_method_34_code 8 = .ok (.getfield 16, 3) := by decide +kernel
theorem d_Mo_number_11 : decode prog_14_method_34_code 11 = .ok (.aload_n 0, 1) := by decide +kernel
theorem d_Mo_number_12 : decode prog_14_method_34_code 12 = .ok (.getfield 154, 3) := by decide +kernel
theorem d_Mo_number_15 : decode prog_14_method_34_code 15 = .ok (.iload_n 1, 1) := by decide +kernel
theorem d_Mo_number_16 : decode prog_14_method_34_code 16 = .ok (.iload_n 3, 1) := by decide +kernel
theorem d_Mo_number_17 : decode prog_14_method_34_code 17 = .ok (.ishr, 1) := by decide +kernel
theorem d_Mo_number_18 : decode prog_14_method_34_code 18 = .ok (.iconst 1, 1) := by decide +kernel
theorem d_Mo_number_19 : decode prog_14_method_34_code 19 = .ok (.iand, 1) := by decide +kernel
theorem d_Mo_number_20 : decode prog_14_method_34_code 20 = .ok (.iastore, 1) := by decide +kernel
theorem d_Mo_number_21 : decode prog_14_method_34_code 21 = .ok (.aload_n 0, 1) := by decide +kernel
theorem d_Mo_number_22 : decode prog_14_method_34_code 22 = .ok (.dup, 1) := by decide +kernel
theorem d_Mo_number_23 : decode prog_14_method_34_code 23 = .ok (.getfield 154, 3) := by decide +kernel
theorem d_Mo_number_26 : decode prog_14_method_34_code 26 = .ok (.iconst 1, 1) := by decide +kernel
theorem d_Mo_number_27 : decode prog_14_method_34_code 27 = .ok (.iadd, 1) := by decide +kernel
theorem d_Mo_number_28 : decode prog_14_method_34_code 28 = .ok (.putfield 154, 3) := by decide +kernel
theorem d_Mo_number_31 : decode prog_14_method_34_code 31 = .ok (.iinc 3 1, 3) := by decide +kernel
theorem d_Mo_number_34 : decode prog_14_method_34_code 34 = .ok (.goto (-32), 3) := by decide +kernel
theorem d_Mo_number_37 : decode prog_14_method_34_code 37 = .ok (.return_, 1) := by decide +kernel
theorem d_Mo_wide_0 : decode prog_14_method_35_code 0 = .ok (.iload_n 0, 1) := by decide +kernel
theorem d_Mo_wide_1 : decode prog_14_method_35_code 1 = .ok (.sipush 512, 3) := by decide +kernel
theorem d_Mo_wide_4 : decode prog_14_method_35_code 4 = .ok (.if_icmp .ge 8, 3) := by decide +kernel
theorem d_Mo_wide_7 : decode prog_14_method_35_code 7 = .ok (.bipush 8, 2) := by decide +kernel
theorem d_Mo_wide_9 : decode prog_14_method_35_code 9 = .ok (.goto 15, 3) := by decide +kernel
theorem d_Mo_wide_12 : decode prog_14_method_35_code 12 = .ok (.iload_n 0, 1) := by decide +kernel
theorem d_Mo_wide_13 : decode prog_14_method_35_code 13 = .ok (.sipush 512, 3) := by decide +kernel
theorem d_Mo_wide_16 : decode prog_14_method_35_code 16 = .ok (.if_icmp .ne 7, 3) := by decide +kernel
theorem d_Mo_wide_19 : decode prog_14_method_35_code 19 = .ok (.iconst 5, 1) := by decide +kernel
theorem d_Mo_wide_20 : decode prog_14_method_35_code 20 = .ok (.goto 4, 3) := by decide +kernel
theorem d_Mo_wide_23 : decode prog_14_method_35_code 23 = .ok (.iconst 4, 1) := by decide +kernel
theorem d_Mo_wide_24 : decode prog_14_method_35_code 24 = .ok (.ireturn, 1) := by decide +kernel
theorem d_Mo_symbolsOf_0 : decode prog_14_method_36_code 0 = .ok (.iload_n 0, 1) := by decide +kernel
theorem d_Mo_symbolsOf_1 : decode prog_14_method_36_code 1 = .ok (.sipush 512, 3) := by decide +kernel
theorem d_Mo_symbolsOf_4 : decode prog_14_method_36_code 4 = .ok (.if_icmp .ge 9, 3) := by decide +kernel
theorem d_Mo_symbolsOf_7 : decode prog_14_method_36_code 7 = .ok (.sipush 256, 3) := by decide +kernel
theorem d_Mo_symbolsOf_10 : decode prog_14_method_36_code 10 = .ok (.goto 17, 3) := by decide +kernel
theorem d_Mo_symbolsOf_13 : decode prog_14_method_36_code 13 = .ok (.iload_n 0, 1) := by decide +kernel
theorem d_Mo_symbolsOf_14 : decode prog_14_method_36_code 14 = .ok (.sipush 512, 3) := by decide +kernel
theorem d_Mo_symbolsOf_17 : decode prog_14_method_36_code 17 = .ok (.if_icmp .ne 8, 3) := by decide +kernel
theorem d_Mo_symbolsOf_20 : decode prog_14_method_36_code 20 = .ok (.bipush 32, 2) := by decide +kernel
theorem d_Mo_symbolsOf_22 : decode prog_14_method_36_code 22 = .ok (.goto 5, 3) := by decide +kernel
theorem d_Mo_symbolsOf_25 : decode prog_14_method_36_code 25 = .ok (.bipush 14, 2) := by decide +kernel
theorem d_Mo_symbolsOf_27 : decode prog_14_method_36_code 27 = .ok (.ireturn, 1) := by decide +kernel
theorem d_Mo_describe_0 : decode prog_14_method_37_code 0 = .ok (.iload_n 1, 1) := by decide +kernel
theorem d_Mo_describe_1 : decode prog_14_method_37_code 1 = .ok (.invokestatic 157, 3) := by decide +kernel
theorem d_Mo_describe_4 : decode prog_14_method_37_code 4 = .ok (.istore_n 2, 1) := by decide +kernel
theorem d_Mo_describe_5 : decode prog_14_method_37_code 5 = .ok (.aload_n 0, 1) := by decide +kernel
theorem d_Mo_describe_6 : decode prog_14_method_37_code 6 = .ok (.iload_n 1, 1) := by decide +kernel
theorem d_Mo_describe_7 : decode prog_14_method_37_code 7 = .ok (.iload_n 2, 1) := by decide +kernel
theorem d_Mo_describe_8 : decode prog_14_method_37_code 8 = .ok (.invokevirtual 160, 3) := by decide +kernel
theorem d_Mo_describe_11 : decode prog_14_method_37_code 11 = .ok (.istore_n 3, 1) := by decide +kernel
theorem d_Mo_describe_12 : decode prog_14_method_37_code 12 = .ok (.aload_n 0, 1) := by decide +kernel
theorem d_Mo_describe_13 : decode prog_14_method_37_code 13 = .ok (.iload_n 1, 1) := by decide +kernel
theorem d_Mo_describe_14 : decode prog_14_method_37_code 14 = .ok (.iload_n 2, 1) := by decide +kernel
theorem d_Mo_describe_15 : decode prog_14_method_37_code 15 = .ok (.invokevirtual 163, 3) := by decide +kernel
theorem d_Mo_describe_18 : decode prog_14_method_37_code 18 = .ok (.iload_n 3, 1) := by decide +kernel
theorem d_Mo_describe_19 : decode prog_14_method_37_code 19 = .ok (.iconst 5, 1) := by decide +kernel
theorem d_Mo_describe_20 : decode prog_14_method_37_code 20 = .ok (.if_icmp .lt 16, 3) := by decide +kernel
theorem d_Mo_describe_23 : decode prog_14_method_37_code 23 = .ok (.aload_n 0, 1) := by decide +kernel
theorem d_Mo_describe_24 : decode prog_14_method_37_code 24 = .ok (.iconst 0, 1) := by decide +kernel
theorem d_Mo_describe_25 : decode prog_14_method_37_code 25 = .ok (.iconst 1, 1) := by decide +kernel
theorem d_Mo_describe_26 : decode prog_14_method_37_code 26 = .ok (.invokevirtual 166, 3) := by decide +kernel
theorem d_Mo_describe_29 : decode prog_14_method_37_code 29 = .ok (.aload_n 0, 1) := by decide +kernel
theorem d_Mo_describe_30 : decode prog_14_method_37_code 30 = .ok (.iload_n 1, 1) := by decide +kernel
theorem d_Mo_describe_31 : decode prog_14_method_37_code 31 = .ok (.iload_n 2, 1) := by decide +kernel
theorem d_Mo_describe_32 : decode prog_14_method_37_code 32 = .ok (.invokevirtual 169, 3) := by decide +kernel
theorem d_Mo_describe_35 : decode prog_14_method_37_code 35 = .ok (.return_, 1) := by decide +kernel
theorem d_Mo_describe_36 : decode prog_14_method_37_code 36 = .ok (.aload_n 0, 1) := by decide +kernel
theorem d_Mo_describe_37 : decode prog_14_method_37_code 37 = .ok (.iconst 1, 1) := by decide +kernel
theorem d_Mo_describe_38 : decode prog_14_method_37_code 38 = .ok (.iconst 1, 1) := by decide +kernel
theorem d_Mo_describe_39 : decode prog_14_method_37_code 39 = .ok (.invokevirtual 166, 3) := by decide +kernel
theorem d_Mo_describe_42 : decode prog_14_method_37_code 42 = .ok (.aload_n 0, 1) := by decide +kernel
theorem d_Mo_describe_43 : decode prog_14_method_37_code 43 = .ok (.iload_n 3, 1) := by decide +kernel
theorem d_Mo_describe_44 : decode prog_14_method_37_code 44 = .ok (.ifCond .ne 7, 3) := by decide +kernel
theorem d_Mo_describe_47 : decode prog_14_method_37_code 47 = .ok (.iconst 0, 1) := by decide +kernel
theorem d_Mo_describe_48 : decode prog_14_method_37_code 48 = .ok (.goto 6, 3) := by decide +kernel
theorem d_Mo_describe_51 : decode prog_14_method_37_code 51 = .ok (.iload_n 3, 1) := by decide +kernel
theorem d_Mo_describe_52 : decode prog_14_method_37_code 52 = .ok (.iconst 1, 1) := by decide +kernel
theorem d_Mo_describe_53 : decode prog_14_method_37_code 53 = .ok (.isub, 1) := by decide +kernel
theorem d_Mo_describe_54 : decode prog_14_method_37_code 54 = .ok (.iconst 2, 1) := by decide +kernel
theorem d_Mo_describe_55 : decode prog_14_method_37_code 55 = .ok (.invokevirtual 166, 3) := by decide +kernel
theorem d_Mo_describe_58 : decode prog_14_method_37_code 58 = .ok (.iload_n 3, 1) := by decide +kernel
theorem d_Mo_describe_59 : decode prog_14_method_37_code 59 = .ok (.ifCond .ne 12, 3) := by decide +kernel
theorem d_Mo_describe_62 : decode prog_14_method_37_code 62 = .ok (.aload_n 0, 1) := by decide +kernel
theorem d_Mo_describe_63 : decode prog_14_method_37_code 63 = .ok (.iconst 0, 1) := by decide +kernel
theorem d_Mo_describe_64 : decode prog_14_method_37_code 64 = .ok (.iload_n 1, 1) := by decide +kernel
theorem d_Mo_describe_65 : decode prog_14_method_37_code 65 = .ok (.invokestatic 172, 3) := by decide +kernel
theorem d_Mo_describe_68 : decode prog_14_method_37_code 68 = .ok (.invokevirtual 166, 3) := by decide +kernel
theorem d_Mo_describe_71 : decode prog_14_method_37_code 71 = .ok (.iconst 0, 1) := by decide +kernel
theorem d_Mo_describe_72 : decode prog_14_method_37_code 72 = .ok (.istore 4, 2) := by decide +kernel
theorem d_Mo_describe_74 : decode prog_14_method_37_code 74 = .ok (.iload 4, 2) := by decide +kernel
theorem d_Mo_describe_76 : decode prog_14_method_37_code 76 = .ok (.iconst 2, 1) := by decide +kernel
theorem d_Mo_describe_77 : decode prog_14_method_37_code 77 = .ok (.if_icmp .ge 86, 3) := by decide +kernel
theorem d_Mo_describe_80 : decode prog_14_method_37_code 80 = .ok (.iload_n 1, 1) := by decide +kernel
theorem d_Mo_describe_81 : decode prog_14_method_37_code 81 = .ok (.istore 5, 2) := by decide +kernel
theorem d_Mo_describe_83 : decode prog_14_method_37_code 83 = .ok (.iload 5, 2) := by decide +kernel
theorem d_Mo_describe_85 : decode prog_14_method_37_code 85 = .ok (.iload_n 1, 1) := by decide +kernel
theorem d_Mo_describe_86 : decode prog_14_method_37_code 86 = .ok (.iload_n 2, 1) := by decide +kernel
theorem d_Mo_describe_87 : decode prog_14_method_37_code 87 = .ok (.iadd, 1) := by decide +kernel
theorem d_Mo_describe_88 : decode prog_14_method_37_code 88 = .ok (.if_icmp .ge 69, 3) := by decide +kernel
theorem d_Mo_describe_91 : decode prog_14_method_37_code 91 = .ok (.iload_n 3, 1) := by decide +kernel
theorem d_Mo_describe_92 : decode prog_14_method_37_code 92 = .ok (.iconst 3, 1) := by decide +kernel
theorem d_Mo_describe_93 : decode prog_14_method_37_code 93 = .ok (.if_icmp .ne 18, 3) := by decide +kernel
theorem d_Mo_describe_96 : decode prog_14_method_37_code 96 = .ok (.aload_n 0, 1) := by decide +kernel
theorem d_Mo_describe_97 : decode prog_14_method_37_code 97 = .ok (.getfield 22, 3) := by decide +kernel
theorem d_Mo_describe_100 : decode prog_14_method_37_code 100 = .ok (.iload 5, 2) := by decide +kernel
theorem d_Mo_describe_102 : decode prog_14_method_37_code 102 = .ok (.iaload, 1) := by decide +kernel
theorem d_Mo_describe_103 : decode prog_14_method_37_code 103 = .ok (.iconst 1, 1) := by decide +kernel
theorem d_Mo_describe_104 : decode prog_14_method_37_code 104 = .ok (.if_icmp .ne 7, 3) := by decide +kernel
theorem d_Mo_describe_107 : decode prog_14_method_37_code 107 = .ok (.iconst 1, 1) := by decide +kernel
theorem d_Mo_describe_108 : decode prog_14_method_37_code 108 = .ok (.goto 4, 3) := by decide +kernel
theorem d_Mo_describe_111 : decode prog_14_method_37_code 111 = .ok (.iconst 0, 1) := by decide +kernel
theorem d_Mo_describe_112 : decode prog_14_method_37_code 112 = .ok (.istore 6, 2) := by decide +kernel
theorem d_Mo_describe_114 : decode prog_14_method_37_code 114 = .ok (.aload_n 0, 1) := by decide +kernel
theorem d_Mo_describe_115 : decode prog_14_method_37_code 115 = .ok (.getfield 19, 3) := by decide +kernel
theorem d_Mo_describe_118 : decode prog_14_method_37_code 118 = .ok (.iload 5, 2) := by decide +kernel
theorem d_Mo_describe_120 : decode prog_14_method_37_code 120 = .ok (.iaload, 1) := by decide +kernel
theorem d_Mo_describe_121 : decode prog_14_method_37_code 121 = .ok (.ifCond .le 30, 3) := by decide +kernel
theorem d_Mo_describe_124 : decode prog_14_method_37_code 124 = .ok (.iload 6, 2) := by decide +kernel
theorem d_Mo_describe_126 : decode prog_14_method_37_code 126 = .ok (.iload 4, 2) := by decide +kernel
theorem d_Mo_describe_128 : decode prog_14_method_37_code 128 = .ok (.ifCond .ne 7, 3) := by decide +kernel
theorem d_Mo_describe_131 : decode prog_14_method_37_code 131 = .ok (.iconst 1, 1) := by decide +kernel
theorem d_Mo_describe_132 : decode prog_14_method_37_code 132 = .ok (.goto 4, 3) := by decide +kernel
theorem d_Mo_describe_135 : decode prog_14_method_37_code 135 = .ok (.iconst 0, 1) := by decide +kernel
theorem d_Mo_describe_136 : decode prog_14_method_37_code 136 = .ok (.if_icmp .ne 15, 3) := by decide +kernel
theorem d_Mo_describe_139 : decode prog_14_method_37_code 139 = .ok (.aload_n 0, 1) := by decide +kernel
theorem d_Mo_describe_140 : decode prog_14_method_37_code 140 = .ok (.iload 5, 2) := by decide +kernel
theorem d_Mo_describe_142 : decode prog_14_method_37_code 142 = .ok (.iload_n 1, 1) := by decide +kernel
theorem d_Mo_describe_143 : decode prog_14_method_37_code 143 = .ok (.isub, 1) := by decide +kernel
theorem d_Mo_describe_144 : decode prog_14_method_37_code 144 = .ok (.iload_n 1, 1) := by decide +kernel
theorem d_Mo_describe_145 : decode prog_14_method_37_code 145 = .ok (.invokestatic 172, 3) := by decide +kernel
theorem d_Mo_describe_148 : decode prog_14_method_37_code 148 = .ok (.invokevirtual 166, 3) := by decide +kernel
theorem d_Mo_describe_151 : decode prog_14_method_37_code 151 = .ok (.iinc 5 1, 3) := by decide +kernel
theorem d_Mo_describe_154 : decode prog_14_method_37_code 154 = .ok (.goto (-71), 3) := by decide +kernel
theorem d_Mo_describe_157 : decode prog_14_method_37_code 157 = .ok (.iinc 4 1, 3) := by decide +kernel
theorem d_Mo_describe_160 : decode prog_14_method_37_code 160 = .ok (.goto (-86), 3) := by decide +kernel
theorem d_Mo_describe_163 : decode prog_14_method_37_code 163 = .ok (.return_, 1) := by decide +kernel
theorem d_Mo_full_0 : decode prog_14_method_38_code 0 = .ok (.iconst 0, 1) := by decide +kernel
theorem d_Mo_full_1 : decode prog_14_method_38_code 1 = .ok (.istore_n 3, 1) := by decide +kernel
theorem d_Mo_full_2 : decode prog_14_method_38_code 2 = .ok (.iload_n 1, 1) := by decide +kernel
theorem d_Mo_full_3 : decode prog_14_method_38_code 3 = .ok (.istore 4, 2) := by decide +kernel
theorem d_Mo_full_5 : decode prog_14_method_38_code 5 = .ok (.iload 4, 2) := by decide +kernel
theorem d_Mo_full_7 : decode prog_14_method_38_code 7 = .ok (.iload_n 1, 1) := by decide +kernel
theorem d_Mo_full_8 : decode prog_14_method_38_code 8 = .ok (.iload_n 2, 1) := by decide +kernel
theorem d_Mo_full_9 : decode prog_14_method_38_code 9 = .ok (.iadd, 1) := by decide +kernel
theorem d_Mo_full_10 : decode prog_14_method_38_code 10 = .ok (.if_icmp .ge 96, 3) := by decide +kernel
theorem d_Mo_full_13 : decode prog_14_method_38_code 13 = .ok (.aload_n 0, 1) := by decide +kernel
theorem d_Mo_full_14 : decode prog_14_method_38_code 14 = .ok (.getfield 22, 3) := by decide +kernel
theorem d_Mo_full_17 : decode prog_14_method_38_code 17 = .ok (.iload 4, 2) := by decide +kernel
theorem d_Mo_full_19 : decode prog_14_method_38_code 19 = .ok (.iaload, 1) := by decide +kernel
theorem d_Mo_full_20 : decode prog_14_method_38_code 20 = .ok (.ifCond .ge 9, 3) := by decide +kernel
theorem d_Mo_full_23 : decode prog_14_method_38_code 23 = .ok (.iinc 3 1, 3) := by decide +kernel
theorem d_Mo_full_26 : decode prog_14_method_38_code 26 = .ok (.goto 74, 3) := by decide +kernel
theorem d_Mo_full_29 : decode prog_14_method_38_code 29 = .ok (.iload_n 3, 1) := by decide +kernel
theorem d_Mo_full_30 : decode prog_14_method_38_code 30 = .ok (.iconst 3, 1) := by decide +kernel
theorem d_Mo_full_31 : decode prog_14_method_38_code 31 = .ok (.if_icmp .lt 41, 3) := by decide +kernel
theorem d_Mo_full_34 : decode prog_14_method_38_code 34 = .ok (.iload_n 3, 1) := by decide +kernel
theorem d_Mo_full_35 : decode prog_14_method_38_code 35 = .ok (.bipush 18, 2) := by decide +kernel
theorem d_Mo_full_37 : decode prog_14_method_38_code 37 = .ok (.if_icmp .ge 7, 3) := by decide +kernel
theorem d_Mo_full_40 : decode prog_14_method_38_code 40 = .ok (.iload_n 3, 1) := by decide +kernel
theorem d_Mo_full_41 : decode prog_14_method_38_code 41 = .ok (.goto 5, 3) := by decide +kernel
theorem d_Mo_full_44 : decode prog_14_method_38_code 44 = .ok (.bipush 18, 2) := by decide +kernel
theorem d_Mo_full_46 : decode prog_14_method_38_code 46 = .ok (.istore 5, 2) := by decide +kernel
theorem d_Mo_full_48 : decode prog_14_method_38_code 48 = .ok (.aload_n 0, 1) := by decide +kernel
theorem d_Mo_full_49 : decode prog_14_method_38_code 49 = .ok (.bipush 7, 2) := by decide +kernel
theorem d_Mo_full_51 : decode prog_14_method_38_code 51 = .ok (.iconst 3, 1) := by decide +kernel
theorem d_Mo_full_52 : decode prog_14_method_38_code 52 = .ok (.invokevirtual 166, 3) := by decide +kernel
theorem d_Mo_full_55 : decode prog_14_method_38_code 55 = .ok (.aload_n 0, 1) := by decide +kernel
theorem d_Mo_full_56 : decode prog_14_method_38_code 56 = .ok (.iload 5, 2) := by decide +kernel
theorem d_Mo_full_58 : decode prog_14_method_38_code 58 = .ok (.iconst 3, 1) := by decide +kernel
theorem d_Mo_full_59 : decode prog_14_method_38_code 59 = .ok (.isub, 1) := by decide +kernel
theorem d_Mo_full_60 : decode prog_14_method_38_code 60 = .ok (.iconst 4, 1) := by decide +kernel
theorem d_Mo_full_61 : decode prog_14_method_38_code 61 = .ok (.invokevirtual 166, 3) := by decide +kernel
theorem d_Mo_full_64 : decode prog_14_method_38_code 64 = .ok (.iload_n 3, 1) := by decide +kernel
theorem d_Mo_full_65 : decode prog_14_method_38_code 65 = .ok (.iload 5, 2) := by decide +kernel
theorem d_Mo_full_67 : decode prog_14_method_38_code 67 = .ok (.isub, 1) := by decide +kernel
theorem d_Mo_full_68 : decode prog_14_method_38_code 68 = .ok (.istore_n 3, 1) := by decide +kernel
theorem d_Mo_full_69 : decode prog_14_method_38_code 69 = .ok (.goto (-40), 3) := by decide +kernel
theorem d_Mo_full_72 : decode prog_14_method_38_code 72 = .ok (.iload_n 3, 1) := by decide +kernel
theorem d_Mo_full_73 : decode prog_14_method_38_code 73 = .ok (.ifCond .le 15, 3) := by decide +kernel
theorem d_Mo_full_76 : decode prog_14_method_38_code 76 = .ok (.aload_n 0, 1) := by decide +kernel
theorem d_Mo_full_77 : decode prog_14_method_38_code 77 = .ok (.iconst 0, 1) := by decide +kernel
theorem d_Mo_full_78 : decode prog_14_method_38_code 78 = .ok (.iconst 3, 1) := by decide +kernel
theorem d_Mo_full_79 : decode prog_14_method_38_code 79 = .ok (.invokevirtual 166, 3) := by decide +kernel
theorem d_Mo_full_82 : decode prog_14_method_38_code 82 = .ok (.iinc 3 (-1), 3) := by decide +kernel
theorem d_Mo_full_85 : decode prog_14_method_38_code 85 = .ok (.goto (-13), 3) := by decide +kernel
theorem d_Mo_full_88 : decode prog_14_method_38_code 88 = .ok (.aload_n 0, 1) := by decide +kernel
theorem d_Mo_full_89 : decode prog_14_method_38_code 89 = .ok (.aload_n 0, 1) := by decide +kernel
theorem d_Mo_full_90 : decode prog_14_method_38_code 90 = .ok (.getfield 22, 3) := by decide +kernel
theorem d_Mo_full_93 : decode prog_14_method_38_code 93 = .ok (.iload 4, 2) := by decide +kernel
theorem d_Mo_full_95 : decode prog_14_method_38_code 95 = .ok (.iaload, 1) := by decide +kernel
theorem d_Mo_full_96 : decode prog_14_method_38_code 96 = .ok (.iconst 3, 1) := by decide +kernel
theorem d_Mo_full_97 : decode prog_14_method_38_code 97 = .ok (.invokevirtual 166, 3) := by decide +kernel
theorem d_Mo_full_100 : decode prog_14_method_38_code 100 = .ok (.iinc 4 1, 3) := by decide +kernel
theorem d_Mo_full_103 : decode prog_14_method_38_code 103 = .ok (.goto (-98), 3) := by decide +kernel
theorem d_Mo_full_106 : decode prog_14_method_38_code 106 = .ok (.return_, 1) := by decide +kernel
theorem d_Mo_symbol_0 : decode prog_14_method_39_code 0 = .ok (.iload_n 2, 1) := by decide +kernel
theorem d_Mo_symbol_1 : decode prog_14_method_39_code 1 = .ok (.ifCond .ne 14, 3) := by decide +kernel
theorem d_Mo_symbol_4 : decode prog_14_method_39_code 4 = .ok (.aload_n 0, 1) := by decide +kernel
theorem d_Mo_symbol_5 : decode prog_14_method_39_code 5 = .ok (.getfield 19, 3) := by decide +kernel
theorem d_Mo_symbol_8 : decode prog_14_method_39_code 8 = .ok (.iload_n 1, 1) := by decide +kernel
theorem d_Mo_symbol_9 : decode prog_14_method_39_code 9 = .ok (.dup2, 1) := by decide +kernel
theorem d_Mo_symbol_10 : decode prog_14_method_39_code 10 = .ok (.iaload, 1) := by decide +kernel
theorem d_Mo_symbol_11 : decode prog_14_method_39_code 11 = .ok (.iconst 1, 1) := by decide +kernel
theorem d_Mo_symbol_12 : decode prog_14_method_39_code 12 = .ok (.iadd, 1) := by decide +kernel
theorem d_Mo_symbol_13 : decode prog_14_method_39_code 13 = .ok (.iastore, 1) := by decide +kernel
theorem d_Mo_symbol_14 : decode prog_14_method_39_code 14 = .ok (.return_, 1) := by decide +kernel
theorem d_Mo_symbol_15 : decode prog_14_method_39_code 15 = .ok (.aload_n 0, 1) := by decide +kernel
theorem d_Mo_symbol_16 : decode prog_14_method_39_code 16 = .ok (.getfield 22, 3) := by decide +kernel
theorem d_Mo_symbol_19 : decode prog_14_method_39_code 19 = .ok (.iload_n 1, 1) := by decide +kernel
theorem d_Mo_symbol_20 : decode prog_14_method_39_code 20 = .ok (.iaload, 1) := by decide +kernel
theorem d_Mo_symbol_21 : decode prog_14_method_39_code 21 = .ok (.iconst 1, 1) := by decide +kernel
theorem d_Mo_symbol_22 : decode prog_14_method_39_code 22 = .ok (.isub, 1) := by decide +kernel
theorem d_Mo_symbol_23 : decode prog_14_method_39_code 23 = .ok (.istore_n 3, 1) := by decide +kernel
theorem d_Mo_symbol_24 : decode prog_14_method_39_code 24 = .ok (.iload_n 3, 1) := by decide +kernel
theorem d_Mo_symbol_25 : decode prog_14_method_39_code 25 = .ok (.ifCond .lt 24, 3) := by decide +kernel
theorem d_Mo_symbol_28 : decode prog_14_method_39_code 28 = .ok (.aload_n 0, 1) := by decide +kernel
theorem d_Mo_symbol_29 : decode prog_14_method_39_code 29 = .ok (.aload_n 0, 1) := by decide +kernel
theorem d_Mo_symbol_30 : decode prog_14_method_39_code 30 = .ok (.getfield 25, 3) := by decide +kernel
theorem d_Mo_symbol_33 : decode prog_14_method_39_code 33 = .ok (.iload_n 1, 1) := by decide +kernel
theorem d_Mo_symbol_34 : decode prog_14_method_39_code 34 = .ok (.iaload, 1) := by decide +kernel
theorem d_Mo_symbol_35 : decode prog_14_method_39_code 35 = .ok (.iload_n 3, 1) := by decide +kernel
theorem d_Mo_symbol_36 : decode prog_14_method_39_code 36 = .ok (.ishr, 1) := by decide +kernel
theorem d_Mo_symbol_37 : decode prog_14_method_39_code 37 = .ok (.iconst 1, 1) := by decide +kernel
theorem d_Mo_symbol_38 : decode prog_14_method_39_code 38 = .ok (.iand, 1) := by decide +kernel
theorem d_Mo_symbol_39 : decode prog_14_method_39_code 39 = .ok (.iconst 1, 1) := by decide +kernel
theorem d_Mo_symbol_40 : decode prog_14_method_39_code 40 = .ok (.invokevirtual 166, 3) := by decide +kernel
theorem d_Mo_symbol_43 : decode prog_14_method_39_code 43 = .ok (.iinc 3 (-1), 3) := by decide +kernel
theorem d_Mo_symbol_46 : decode prog_14_method_39_code 46 = .ok (.goto (-22), 3) := by decide +kernel
theorem d_Mo_symbol_49 : decode prog_14_method_39_code 49 = .ok (.return_, 1) := by decide +kernel
theorem d_Mo_insertKind_0 : decode prog_14_method_40_code 0 = .ok (.iload_n 0, 1) := by decide +kernel
theorem d_Mo_insertKind_1 : decode prog_14_method_40_code 1 = .ok (.iconst 2, 1) := by decide +kernel
theorem d_Mo_insertKind_2 : decode prog_14_method_40_code 2 = .ok (.if_icmp .ge 7, 3) := by decide +kernel
theorem d_Mo_insertKind_5 : decode prog_14_method_40_code 5 = .ok (.iload_n 0, 1) := by decide +kernel
theorem d_Mo_insertKind_6 : decode prog_14_method_40_code 6 = .ok (.goto 14, 3) := by decide +kernel
theorem d_Mo_insertKind_9 : decode prog_14_method_40_code 9 = .ok (.iload_n 0, 1) := by decide +kernel
theorem d_Mo_insertKind_10 : decode prog_14_method_40_code 10 = .ok (.bipush 6, 2) := by decide +kernel
theorem d_Mo_insertKind_12 : decode prog_14_method_40_code 12 = .ok (.if_icmp .ge 7, 3) := by decide +kernel
theorem d_Mo_insertKind_15 : decode prog_14_method_40_code 15 = .ok (.iconst 2, 1) := by decide +kernel
theorem d_Mo_insertKind_16 : decode prog_14_method_40_code 16 = .ok (.goto 4, 3) := by decide +kernel
theorem d_Mo_insertKind_19 : decode prog_14_method_40_code 19 = .ok (.iconst 3, 1) := by decide +kernel
theorem d_Mo_insertKind_20 : decode prog_14_method_40_code 20 = .ok (.ireturn, 1) := by decide +kernel
theorem d_Mo_copyBits_0 : decode prog_14_method_41_code 0 = .ok (.iload_n 0, 1) := by decide +kernel
theorem d_Mo_copyBits_1 : decode prog_14_method_41_code 1 = .ok (.iconst 4, 1) := by decide +kernel
theorem d_Mo_copyBits_2 : decode prog_14_method_41_code 2 = .ok (.if_icmp .ne 7, 3) := by decide +kernel
theorem d_Mo_copyBits_5 : decode prog_14_method_41_code 5 = .ok (.iconst 2, 1) := by decide +kernel
theorem d_Mo_copyBits_6 : decode prog_14_method_41_code 6 = .ok (.goto 23, 3) := by decide +kernel
theorem d_Mo_copyBits_9 : decode prog_14_method_41_code 9 = .ok (.iload_n 0, 1) := by decide +kernel
theorem d_Mo_copyBits_10 : decode prog_14_method_41_code 10 = .ok (.iconst 5, 1) := by decide +kernel
theorem d_Mo_copyBits_11 : decode prog_14_method_41_code 11 = .ok (.if_icmp .ne 7, 3) := by decide +kernel
theorem d_Mo_copyBits_14 : decode prog_14_method_41_code 14 = .ok (.iconst 4, 1) := by decide +kernel
theorem d_Mo_copyBits_15 : decode prog_14_method_41_code 15 = .ok (.goto 14, 3) := by decide +kernel
theorem d_Mo_copyBits_18 : decode prog_14_method_41_code 18 = .ok (.iload_n 0, 1) := by decide +kernel
theorem d_Mo_copyBits_19 : decode prog_14_method_41_code 19 = .ok (.bipush 6, 2) := by decide +kernel
theorem d_Mo_copyBits_21 : decode prog_14_method_41_code 21 = .ok (.if_icmp .ne 7, 3) := by decide +kernel
theorem d_Mo_copyBits_24 : decode prog_14_method_41_code 24 = .ok (.iconst 5, 1) := by decide +kernel
theorem d_Mo_copyBits_25 : decode prog_14_method_41_code 25 = .ok (.goto 4, 3) := by decide +kernel
theorem d_Mo_copyBits_28 : decode prog_14_method_41_code 28 = .ok (.iconst 0, 1) := by decide +kernel
theorem d_Mo_copyBits_29 : decode prog_14_method_41_code 29 = .ok (.ireturn, 1) := by decide +kernel
theorem d_Mo_copyFrom_0 : decode prog_14_method_42_code 0 = .ok (.iload_n 0, 1) := by decide +kernel
theorem d_Mo_copyFrom_1 : decode prog_14_method_42_code 1 = .ok (.iconst 4, 1) := by decide +kernel
theorem d_Mo_copyFrom_2 : decode prog_14_method_42_code 2 = .ok (.if_icmp .ge 9, 3) := by decide +kernel
theorem d_Mo_copyFrom_5 : decode prog_14_method_42_code 5 = .ok (.iload_n 0, 1) := by decide +kernel
theorem d_Mo_copyFrom_6 : decode prog_14_method_42_code 6 = .ok (.iconst 2, 1) := by decide +kernel
theorem d_Mo_copyFrom_7 : decode prog_14_method_42_code 7 = .ok (.iadd, 1) := by decide +kernel
theorem d_Mo_copyFrom_8 : decode prog_14_method_42_code 8 = .ok (.goto 35, 3) := by decide +kernel
theorem d_Mo_copyFrom_11 : decode prog_14_method_42_code 11 = .ok (.iload_n 0, 1) := by decide +kernel
theorem d_Mo_copyFrom_12 : decode prog_14_method_42_code 12 = .ok (.iconst 4, 1) := by decide +kernel
theorem d_Mo_copyFrom_13 : decode prog_14_method_42_code 13 = .ok (.if_icmp .ne 8, 3) := by decide +kernel
theorem d_Mo_copyFrom_16 : decode prog_14_method_42_code 16 = .ok (.bipush 6, 2) := by decide +kernel
theorem d_Mo_copyFrom_18 : decode prog_14_method_42_code 18 = .ok (.goto 25, 3) := by decide +kernel
theorem d_Mo_copyFrom_21 : decode prog_14_method_42_code 21 = .ok (.iload_n 0, 1) := by decide +kernel
theorem d_Mo_copyFrom_22 : decode prog_14_method_42_code 22 = .ok (.iconst 5, 1) := by decide +kernel
theorem d_Mo_copyFrom_23 : decode prog_14_method_42_code 23 = .ok (.if_icmp .ne 8, 3) := by decide +kernel
theorem d_Mo_copyFrom_26 : decode prog_14_method_42_code 26 = .ok (.bipush 10, 2) := by decide +kernel
theorem d_Mo_copyFrom_28 : decode prog_14_method_42_code 28 = .ok (.goto 15, 3) := by decide +kernel
theorem d_Mo_copyFrom_31 : decode prog_14_method_42_code 31 = .ok (.iload_n 0, 1) := by decide +kernel
theorem d_Mo_copyFrom_32 : decode prog_14_method_42_code 32 = .ok (.bipush 6, 2) := by decide +kernel
theorem d_Mo_copyFrom_34 : decode prog_14_method_42_code 34 = .ok (.if_icmp .ne 8, 3) := by decide +kernel
theorem d_Mo_copyFrom_37 : decode prog_14_method_42_code 37 = .ok (.bipush 26, 2) := by decide +kernel
theorem d_Mo_copyFrom_39 : decode prog_14_method_42_code 39 = .ok (.goto 4, 3) := by decide +kernel
theorem d_Mo_copyFrom_42 : decode prog_14_method_42_code 42 = .ok (.iconst 3, 1) := by decide +kernel
theorem d_Mo_copyFrom_43 : decode prog_14_method_42_code 43 = .ok (.ireturn, 1) := by decide +kernel
theorem d_Mo_through_0 : decode prog_14_method_43_code 0 = .ok (.iload_n 1, 1) := by decide +kernel
theorem d_Mo_through_1 : decode prog_14_method_43_code 1 = .ok (.istore 4, 2) := by decide +kernel
theorem d_Mo_through_3 : decode prog_14_method_43_code 3 = .ok (.iconst 0, 1) := by decide +kernel
theorem d_Mo_through_4 : decode prog_14_method_43_code 4 = .ok (.istore 5, 2) := by decide +kernel
theorem d_Mo_through_6 : decode prog_14_method_43_code 6 = .ok (.iload 5, 2) := by decide +kernel
theorem d_Mo_through_8 : decode prog_14_method_43_code 8 = .ok (.aload_n 0, 1) := by decide +kernel
theorem d_Mo_through_9 : decode prog_14_method_43_code 9 = .ok (.getfield 124, 3) := by decide +kernel
theorem d_Mo_through_12 : decode prog_14_method_43_code 12 = .ok (.if_icmp .ge 292, 3) := by decide +kernel
theorem d_Mo_through_15 : decode prog_14_method_43_code 15 = .ok (.aload_n 0, 1) := by decide +kernel
theorem d_Mo_through_16 : decode prog_14_method_43_code 16 = .ok (.getfield 34, 3) := by decide +kernel
theorem d_Mo_through_19 : decode prog_14_method_43_code 19 = .ok (.iload 5, 2) := by decide +kernel
theorem d_Mo_through_21 : decode prog_14_method_43_code 21 = .ok (.iaload, 1) := by decide +kernel
theorem d_Mo_through_22 : decode prog_14_method_43_code 22 = .ok (.invokestatic 175, 3) := by decide +kernel
theorem d_Mo_through_25 : decode prog_14_method_43_code 25 = .ok (.istore 6, 2) := by decide +kernel
theorem d_Mo_through_27 : decode prog_14_method_43_code 27 = .ok (.aload_n 0, 1) := by decide +kernel
theorem d_Mo_through_28 : decode prog_14_method_43_code 28 = .ok (.sipush 512, 3) := by decide +kernel
theorem d_Mo_through_31 : decode prog_14_method_43_code 31 = .ok (.bipush 8, 2) := by decide +kernel
theorem d_Mo_through_33 : decode prog_14_method_43_code 33 = .ok (.iload 6, 2) := by decide +kernel
theorem d_Mo_through_35 : decode prog_14_method_43_code 35 = .ok (.imul, 1) := by decide +kernel
theorem d_Mo_through_36 : decode prog_14_method_43_code 36 = .ok (.iadd, 1) := by decide +kernel
theorem d_Mo_through_37 : decode prog_14_method_43_code 37 = .ok (.aload_n 0, 1) := by decide +kernel
theorem d_Mo_through_38 : decode prog_14_method_43_code 38 = .ok (.getfield 37, 3) := by decide +kernel
theorem d_Mo_through_41 : decode prog_14_method_43_code 41 = .ok (.iload 5, 2) := by decide +kernel
theorem d_Mo_through_43 : decode prog_14_method_43_code 43 = .ok (.iaload, 1) := by decide +kernel
theorem d_Mo_through_44 : decode prog_14_method_43_code 44 = .ok (.iadd, 1) := by decide +kernel
theorem d_Mo_through_45 : decode prog_14_method_43_code 45 = .ok (.iload_n 3, 1) := by decide +kernel
theorem d_Mo_through_46 : decode prog_14_method_43_code 46 = .ok (.invokevirtual 178, 3) := by decide +kernel
theorem d_Mo_through_49 : decode prog_14_method_43_code 49 = .ok (.iload_n 3, 1) := by decide +kernel
theorem d_Mo_through_50 : decode prog_14_method_43_code 50 = .ok (.ifCond .eq 81, 3) := by decide +kernel
theorem d_Mo_through_53 : decode prog_14_method_43_code 53 = .ok (.aload_n 0, 1) := by decide +kernel
theorem d_Mo_through_54 : decode prog_14_method_43_code 54 = .ok (.aload_n 0, 1) := by decide +kernel
theorem d_Mo_through_55 : decode prog_14_method_43_code 55 = .ok (.getfield 34, 3) := by decide +kernel
theorem d_Mo_through_58 : decode prog_14_method_43_code 58 = .ok (.iload 5, 2) := by decide +kernel
theorem d_Mo_through_60 : decode prog_14_method_43_code 60 = .ok (.iaload, 1) := by decide +kernel
theorem d_Mo_through_61 : decode prog_14_method_43_code 61 = .ok (.iload 6, 2) := by decide +kernel
theorem d_Mo_through_63 : decode prog_14_method_43_code 63 = .ok (.iconst 2, 1) := by decide +kernel
theorem d_Mo_through_64 : decode prog_14_method_43_code 64 = .ok (.if_icmp .ne 7, 3) := by decide +kernel
theorem d_Mo_through_67 : decode prog_14_method_43_code 67 = .ok (.iconst 2, 1) := by decide +kernel
theorem d_Mo_through_68 : decode prog_14_method_43_code 68 = .ok (.goto 5, 3) := by decide +kernel
theorem d_Mo_through_71 : decode prog_14_method_43_code 71 = .ok (.bipush 6, 2) := by decide +kernel
theorem d_Mo_through_73 : decode prog_14_method_43_code 73 = .ok (.isub, 1) := by decide +kernel
theorem d_Mo_through_74 : decode prog_14_method_43_code 74 = .ok (.iload 6, 2) := by decide +kernel
theorem d_Mo_through_76 : decode prog_14_method_43_code 76 = .ok (.iconst 2, 1) := by decide +kernel
theorem d_Mo_through_77 : decode prog_14_method_43_code 77 = .ok (.if_icmp .ne 7, 3) := by decide +kernel
theorem d_Mo_through_80 : decode prog_14_method_43_code 80 = .ok (.iconst 2, 1) := by decide +kernel
theorem d_Mo_through_81 : decode prog_14_method_43_code 81 = .ok (.goto 15, 3) := by decide +kernel
theorem d_Mo_through_84 : decode prog_14_method_43_code 84 = .ok (.iload 6, 2) := by decide +kernel
theorem d_Mo_through_86 : decode prog_14_method_43_code 86 = .ok (.iconst 3, 1) := by decide +kernel
theorem d_Mo_through_87 : decode prog_14_method_43_code 87 = .ok (.if_icmp .ne 8, 3) := by decide +kernel
theorem d_Mo_through_90 : decode prog_14_method_43_code 90 = .ok (.bipush 6, 2) := by decide +kernel
theorem d_Mo_through_92 : decode prog_14_method_43_code 92 = .ok (.goto 4, 3) := by decide +kernel
theorem d_Mo_through_95 : decode prog_14_method_43_code 95 = .ok (.iconst 0, 1) := by decide +kernel
theorem d_Mo_through_96 : decode prog_14_method_43_code 96 = .ok (.invokevirtual 166, 3) := by decide +kernel
theorem d_Mo_through_99 : decode prog_14_method_43_code 99 = .ok (.aload_n 0, 1) := by decide +kernel
theorem d_Mo_through_100 : decode prog_14_method_43_code 100 = .ok (.aload_n 0, 1) := by decide +kernel
theorem d_Mo_through_101 : decode prog_14_method_43_code 101 = .ok (.getfield 40, 3) := by decide +kernel
theorem d_Mo_through_104 : decode prog_14_method_43_code 104 = .ok (.iload 5, 2) := by decide +kernel
theorem d_Mo_through_106 : decode prog_14_method_43_code 106 = .ok (.iaload, 1) := by decide +kernel
theorem d_Mo_through_107 : decode prog_14_method_43_code 107 = .ok (.aload_n 0, 1) := by decide +kernel
theorem d_Mo_through_108 : decode prog_14_method_43_code 108 = .ok (.getfield 37, 3) := by decide +kernel
theorem d_Mo_through_111 : decode prog_14_method_43_code 111 = .ok (.iload 5, 2) := by decide +kernel
theorem d_Mo_through_113 : decode prog_14_method_43_code 113 = .ok (.iaload, 1) := by decide +kernel
theorem d_Mo_through_114 : decode prog_14_method_43_code 114 = .ok (.invokestatic 180, 3) := by decide +kernel
theorem d_Mo_through_117 : decode prog_14_method_43_code 117 = .ok (.isub, 1) := by decide +kernel
theorem d_Mo_through_118 : decode prog_14_method_43_code 118 = .ok (.aload_n 0, 1) := by decide +kernel
theorem d_Mo_through_119 : decode prog_14_method_43_code 119 = .ok (.getfield 37, 3) := by decide +kernel
theorem d_Mo_through_122 : decode prog_14_method_43_code 122 = .ok (.iload 5, 2) := by decide +kernel
theorem d_Mo_through_124 : decode prog_14_method_43_code 124 = .ok (.iaload, 1) := by decide +kernel
theorem d_Mo_through_125 : decode prog_14_method_43_code 125 = .ok (.invokestatic 183, 3) := by decide +kernel
theorem d_Mo_through_128 : decode prog_14_method_43_code 128 = .ok (.invokevirtual 166, 3) := by decide +kernel
theorem d_Mo_through_131 : decode prog_14_method_43_code 131 = .ok (.iconst 0, 1) := by decide +kernel
theorem d_Mo_through_132 : decode prog_14_method_43_code 132 = .ok (.istore 7, 2) := by decide +kernel
theorem d_Mo_through_134 : decode prog_14_method_43_code 134 = .ok (.iload 7, 2) := by decide +kernel
theorem d_Mo_through_136 : decode prog_14_method_43_code 136 = .ok (.aload_n 0, 1) := by decide +kernel
theorem d_Mo_through_137 : decode prog_14_method_43_code 137 = .ok (.getfield 34, 3) := by decide +kernel
theorem d_Mo_through_140 : decode prog_14_method_43_code 140 = .ok (.iload 5, 2) := by decide +kernel
theorem d_Mo_through_142 : decode prog_14_method_43_code 142 = .ok (.iaload, 1) := by decide +kernel
theorem d_Mo_through_143 : decode prog_14_method_43_code 143 = .ok (.if_icmp .ge 81, 3) := by decide +kernel
theorem d_Mo_through_146 : decode prog_14_method_43_code 146 = .ok (.iload_n 2, 1) := by decide +kernel
theorem d_Mo_through_147 : decode prog_14_method_43_code 147 = .ok (.ifCond .eq 40, 3) := by decide +kernel
theorem d_Mo_through_150 : decode prog_14_method_43_code 150 = .ok (.iload 4, 2) := by decide +kernel
theorem d_Mo_through_152 : decode prog_14_method_43_code 152 = .ok (.ifCond .le 35, 3) := by decide +kernel
theorem d_Mo_through_155 : decode prog_14_method_43_code 155 = .ok (.aload_n 0, 1) := by decide +kernel
theorem d_Mo_through_156 : decode prog_14_method_43_code 156 = .ok (.getfield 7, 3) := by decide +kernel
theorem d_Mo_through_159 : decode prog_14_method_43_code 159 = .ok (.iload 4, 2) := by decide +kernel
theorem d_Mo_through_161 : decode prog_14_method_43_code 161 = .ok (.iconst 1, 1) := by decide +kernel
theorem d_Mo_through_162 : decode prog_14_method_43_code 162 = .ok (.isub, 1) := by decide +kernel
theorem d_Mo_through_163 : decode prog_14_method_43_code 163 = .ok (.iaload, 1) := by decide +kernel
theorem d_Mo_through_164 : decode prog_14_method_43_code 164 = .ok (.bipush 97, 2) := by decide +kernel
theorem d_Mo_through_166 : decode prog_14_method_43_code 166 = .ok (.if_icmp .lt 21, 3) := by decide +kernel
theorem d_Mo_through_169 : decode prog_14_method_43_code 169 = .ok (.aload_n 0, 1) := by decide +kernel
theorem d_Mo_through_170 : decode prog_14_method_43_code 170 = .ok (.getfield 7, 3) := by decide +kernel
theorem d_Mo_through_173 : decode prog_14_method_43_code 173 = .ok (.iload 4, 2) := by decide +kernel
theorem d_Mo_through_175 : decode prog_14_method_43_code 175 = .ok (.iconst 1, 1) := by decide +kernel
theorem d_Mo_through_176 : decode prog_14_method_43_code 176 = .ok (.isub, 1) := by decide +kernel
theorem d_Mo_through_177 : decode prog_14_method_43_code 177 = .ok (.iaload, 1) := by decide +kernel
theorem d_Mo_through_178 : decode prog_14_method_43_code 178 = .ok (.bipush 122, 2) := by decide +kernel
theorem d_Mo_through_180 : decode prog_14_method_43_code 180 = .ok (.if_icmp .gt 7, 3) := by decide +kernel
theorem d_Mo_through_183 : decode prog_14_method_43_code 183 = .ok (.iconst 1, 1) := by decide +kernel
theorem d_Mo_through_184 : decode prog_14_method_43_code 184 = .ok (.goto 4, 3) := by decide +kernel
theorem d_Mo_through_187 : decode prog_14_method_43_code 187 = .ok (.iconst 0, 1) := by decide +kernel
theorem d_Mo_through_188 : decode prog_14_method_43_code 188 = .ok (.istore 8, 2) := by decide +kernel
theorem d_Mo_through_190 : decode prog_14_method_43_code 190 = .ok (.aload_n 0, 1) := by decide +kernel
theorem d_Mo_through_191 : decode prog_14_method_43_code 191 = .ok (.iload 8, 2) := by decide +kernel
theorem d_Mo_through_193 : decode prog_14_method_43_code 193 = .ok (.ifCond .eq 9, 3) := by decide +kernel
theorem d_Mo_through_196 : decode prog_14_method_43_code 196 = .ok (.sipush 256, 3) := by decide +kernel
theorem d_Mo_through_199 : decode prog_14_method_43_code 199 = .ok (.goto 4, 3) := by decide +kernel
theorem d_Mo_through_202 : decode prog_14_method_43_code 202 = .ok (.iconst 0, 1) := by decide +kernel
theorem d_Mo_through_203 : decode prog_14_method_43_code 203 = .ok (.aload_n 0, 1) := by decide +kernel
theorem d_Mo_through_204 : decode prog_14_method_43_code 204 = .ok (.getfield 7, 3) := by decide +kernel
theorem d_Mo_through_207 : decode prog_14_method_43_code 207 = .ok (.iload 4, 2) := by decide +kernel
theorem d_Mo_through_209 : decode prog_14_method_43_code 209 = .ok (.iaload, 1) := by decide +kernel
theorem d_Mo_through_210 : decode prog_14_method_43_code 210 = .ok (.iadd, 1) := by decide +kernel
theorem d_Mo_through_211 : decode prog_14_method_43_code 211 = .ok (.iload_n 3, 1) := by decide +kernel
theorem d_Mo_through_212 : decode prog_14_method_43_code 212 = .ok (.invokevirtual 178, 3) := by decide +kernel
theorem d_Mo_through_215 : decode prog_14_method_43_code 215 = .ok (.iinc 4 1, 3) := by decide +kernel
theorem d_Mo_through_218 : decode prog_14_method_43_code 218 = .ok (.iinc 7 1, 3) := by decide +kernel
theorem d_Mo_through_221 : decode prog_14_method_43_code 221 = .ok (.goto (-87), 3) := by decide +kernel
theorem d_Mo_through_224 : decode prog_14_method_43_code 224 = .ok (.aload_n 0, 1) := by decide +kernel
theorem d_Mo_through_225 : decode prog_14_method_43_code 225 = .ok (.getfield 43, 3) := by decide +kernel
theorem d_Mo_through_228 : decode prog_14_method_43_code 228 = .ok (.iload 5, 2) := by decide +kernel
theorem d_Mo_through_230 : decode prog_14_method_43_code 230 = .ok (.iaload, 1) := by decide +kernel
theorem d_Mo_through_231 : decode prog_14_method_43_code 231 = .ok (.ifCond .lt 55, 3) := by decide +kernel
theorem d_Mo_through_234 : decode prog_14_method_43_code 234 = .ok (.aload_n 0, 1) := by decide +kernel
theorem d_Mo_through_235 : decode prog_14_method_43_code 235 = .ok (.sipush 768, 3) := by decide +kernel
theorem d_Mo_through_238 : decode prog_14_method_43_code 238 = .ok (.aload_n 0, 1) := by decide +kernel
theorem d_Mo_through_239 : decode prog_14_method_43_code 239 = .ok (.getfield 43, 3) := by decide +kernel
theorem d_Mo_through_242 : decode prog_14_method_43_code 242 = .ok (.iload 5, 2) := by decide +kernel
theorem d_Mo_through_244 : decode prog_14_method_43_code 244 = .ok (.iaload, 1) := by decide +kernel
theorem d_Mo_through_245 : decode prog_14_method_43_code 245 = .ok (.iadd, 1) := by decide +kernel
theorem d_Mo_through_246 : decode prog_14_method_43_code 246 = .ok (.iload_n 3, 1) := by decide +kernel
theorem d_Mo_through_247 : decode prog_14_method_43_code 247 = .ok (.invokevirtual 178, 3) := by decide +kernel
theorem d_Mo_through_250 : decode prog_14_method_43_code 250 = .ok (.iload_n 3, 1) := by decide +kernel
theorem d_Mo_through_251 : decode prog_14_method_43_code 251 = .ok (.ifCond .eq 35, 3) := by decide +kernel
theorem d_Mo_through_254 : decode prog_14_method_43_code 254 = .ok (.aload_n 0, 1) := by decide +kernel
theorem d_Mo_through_255 : decode prog_14_method_43_code 255 = .ok (.getfield 43, 3) := by decide +kernel
theorem d_Mo_through_258 : decode prog_14_method_43_code 258 = .ok (.iload 5, 2) := by decide +kernel
theorem d_Mo_through_260 : decode prog_14_method_43_code 260 = .ok (.iaload, 1) := by decide +kernel
theorem d_Mo_through_261 : decode prog_14_method_43_code 261 = .ok (.iconst 5, 1) := by decide +kernel
theorem d_Mo_through_262 : decode prog_14_method_43_code 262 = .ok (.if_icmp .le 24, 3) := by decide +kernel
theorem d_Mo_through_265 : decode prog_14_method_43_code 265 = .ok (.aload_n 0, 1) := by decide +kernel
theorem d_Mo_through_266 : decode prog_14_method_43_code 266 = .ok (.aload_n 0, 1) := by decide +kernel
theorem d_Mo_through_267 : decode prog_14_method_43_code 267 = .ok (.getfield 46, 3) := by decide +kernel
theorem d_Mo_through_270 : decode prog_14_method_43_code 270 = .ok (.iload 5, 2) := by decide +kernel
theorem d_Mo_through_272 : decode prog_14_method_43_code 272 = .ok (.iaload, 1) := by decide +kernel
theorem d_Mo_through_273 : decode prog_14_method_43_code 273 = .ok (.aload_n 0, 1) := by decide +kernel
theorem d_Mo_through_274 : decode prog_14_method_43_code 274 = .ok (.getfield 43, 3) := by decide +kernel
theorem d_Mo_through_277 : decode prog_14_method_43_code 277 = .ok (.iload 5, 2) := by decide +kernel
theorem d_Mo_through_279 : decode prog_14_method_43_code 279 = .ok (.iaload, 1) := by decide +kernel
theorem d_Mo_through_280 : decode prog_14_method_43_code 280 = .ok (.invokestatic 186, 3) := by decide +kernel
theorem d_Mo_through_283 : decode prog_14_method_43_code 283 = .ok (.invokevirtual 166, 3) := by decide +kernel
theorem d_Mo_through_286 : decode prog_14_method_43_code 286 = .ok (.iload 4, 2) := by decide +kernel
theorem d_Mo_through_288 : decode prog_14_method_43_code 288 = .ok (.aload_n 0, 1) := by decide +kernel
theorem d_Mo_through_289 : decode prog_14_method_43_code 289 = .ok (.getfield 49, 3) := by decide +kernel
theorem d_Mo_through_292 : decode prog_14_method_43_code 292 = .ok (.iload 5, 2) := by decide +kernel
theorem d_Mo_through_294 : decode prog_14_method_43_code 294 = .ok (.iaload, 1) := by decide +kernel
theorem d_Mo_through_295 : decode prog_14_method_43_code 295 = .ok (.iadd, 1) := by decide +kernel
theorem d_Mo_through_296 : decode prog_14_method_43_code 296 = .ok (.istore 4, 2) := by decide +kernel
theorem d_Mo_through_298 : decode prog_14_method_43_code 298 = .ok (.iinc 5 1, 3) := by decide +kernel
theorem d_Mo_through_301 : decode prog_14_method_43_code 301 = .ok (.goto (-295), 3) := by decide +kernel
theorem d_Mo_through_304 : decode prog_14_method_43_code 304 = .ok (.return_, 1) := by decide +kernel
theorem d_Mo_block_0 : decode prog_14_method_44_code 0 = .ok (.iload_n 2, 1) := by decide +kernel
theorem d_Mo_block_1 : decode prog_14_method_44_code 1 = .ok (.aload_n 0, 1) := by decide +kernel
theorem d_Mo_block_2 : decode prog_14_method_44_code 2 = .ok (.getfield 62, 3) := by decide +kernel
theorem d_Mo_block_5 : decode prog_14_method_44_code 5 = .ok (.if_icmp .ne 7, 3) := by decide +kernel
theorem d_Mo_block_8 : decode prog_14_method_44_code 8 = .ok (.iconst 1, 1) := by decide +kernel
theorem d_Mo_block_9 : decode prog_14_method_44_code 9 = .ok (.goto 4, 3) := by decide +kernel
theorem d_Mo_block_12 : decode prog_14_method_44_code 12 = .ok (.iconst 0, 1) := by decide +kernel
theorem d_Mo_block_13 : decode prog_14_method_44_code 13 = .ok (.istore 4, 2) := by decide +kernel
theorem d_Mo_block_15 : decode prog_14_method_44_code 15 = .ok (.aload_n 0, 1) := by decide +kernel
theorem d_Mo_block_16 : decode prog_14_method_44_code 16 = .ok (.iload 4, 2) := by decide +kernel
theorem d_Mo_block_18 : decode prog_14_method_44_code 18 = .ok (.ifCond .eq 7, 3) := by decide +kernel
theorem d_Mo_block_21 : decode prog_14_method_44_code 21 = .ok (.iconst 1, 1) := by decide +kernel
theorem d_Mo_block_22 : decode prog_14_method_44_code 22 = .ok (.goto 4, 3) := by decide +kernel
theorem d_Mo_block_25 : decode prog_14_method_44_code 25 = .ok (.iconst 0, 1) := by decide +kernel
theorem d_Mo_block_26 : decode prog_14_method_44_code 26 = .ok (.iconst 1, 1) := by decide +kernel
theorem d_Mo_block_27 : decode prog_14_method_44_code 27 = .ok (.invokevirtual 166, 3) := by decide +kernel
theorem d_Mo_block_30 : decode prog_14_method_44_code 30 = .ok (.iload 4, 2) := by decide +kernel
theorem d_Mo_block_32 : decode prog_14_method_44_code 32 = .ok (.ifCond .eq 9, 3) := by decide +kernel
theorem d_Mo_block_35 : decode prog_14_method_44_code 35 = .ok (.aload_n 0, 1) := by decide +kernel
theorem d_Mo_block_36 : decode prog_14_method_44_code 36 = .ok (.iconst 0, 1) := by decide +kernel
theorem d_Mo_block_37 : decode prog_14_method_44_code 37 = .ok (.iconst 1, 1) := by decide +kernel
theorem d_Mo_block_38 : decode prog_14_method_44_code 38 = .ok (.invokevirtual 166, 3) := by decide +kernel
theorem d_Mo_block_41 : decode prog_14_method_44_code 41 = .ok (.aload_n 0, 1) := by decide +kernel
theorem d_Mo_block_42 : decode prog_14_method_44_code 42 = .ok (.iload_n 3, 1) := by decide +kernel
theorem d_Mo_block_43 : decode prog_14_method_44_code 43 = .ok (.ifCond .le 7, 3) := by decide +kernel
theorem d_Mo_block_46 : decode prog_14_method_44_code 46 = .ok (.iconst 1, 1) := by decide +kernel
theorem d_Mo_block_47 : decode prog_14_method_44_code 47 = .ok (.goto 4, 3) := by decide +kernel
theorem d_Mo_block_50 : decode prog_14_method_44_code 50 = .ok (.iconst 0, 1) := by decide +kernel
theorem d_Mo_block_51 : decode prog_14_method_44_code 51 = .ok (.iconst 1, 1) := by decide +kernel
theorem d_Mo_block_52 : decode prog_14_method_44_code 52 = .ok (.invokevirtual 166, 3) := by decide +kernel
theorem d_Mo_block_55 : decode prog_14_method_44_code 55 = .ok (.aload_n 0, 1) := by decide +kernel
theorem d_Mo_block_56 : decode prog_14_method_44_code 56 = .ok (.iload_n 2, 1) := by decide +kernel
theorem d_Mo_block_57 : decode prog_14_method_44_code 57 = .ok (.iload_n 1, 1) := by decide +kernel
theorem d_Mo_block_58 : decode prog_14_method_44_code 58 = .ok (.isub, 1) := by decide +kernel
theorem d_Mo_block_59 : decode prog_14_method_44_code 59 = .ok (.iconst 1, 1) := by decide +kernel
theorem d_Mo_block_60 : decode prog_14_method_44_code 60 = .ok (.isub, 1) := by decide +kernel
theorem d_Mo_block_61 : decode prog_14_method_44_code 61 = .ok (.bipush 6, 2) := by decide +kernel
theorem d_Mo_block_63 : decode prog_14_method_44_code 63 = .ok (.invokevirtual 166, 3) := by decide +kernel
theorem d_Mo_block_66 : decode prog_14_method_44_code 66 = .ok (.iload_n 3, 1) := by decide +kernel
theorem d_Mo_block_67 : decode prog_14_method_44_code 67 = .ok (.ifCond .ne 51, 3) := by decide +kernel
theorem d_Mo_block_70 : decode prog_14_method_44_code 70 = .ok (.aload_n 0, 1) := by decide +kernel
theorem d_Mo_block_71 : decode prog_14_method_44_code 71 = .ok (.getfield 154, 3) := by decide +kernel
theorem d_Mo_block_74 : decode prog_14_method_44_code 74 = .ok (.bipush 8, 2) := by decide +kernel
theorem d_Mo_block_76 : decode prog_14_method_44_code 76 = .ok (.irem, 1) := by decide +kernel
theorem d_Mo_block_77 : decode prog_14_method_44_code 77 = .ok (.ifCond .le 12, 3) := by decide +kernel
theorem d_Mo_block_80 : decode prog_14_method_44_code 80 = .ok (.aload_n 0, 1) := by decide +kernel
theorem d_Mo_block_81 : decode prog_14_method_44_code 81 = .ok (.iconst 0, 1) := by decide +kernel
theorem d_Mo_block_82 : decode prog_14_method_44_code 82 = .ok (.iconst 1, 1) := by decide +kernel
theorem d_Mo_block_83 : decode prog_14_method_44_code 83 = .ok (.invokevirtual 166, 3) := by decide +kernel
theorem d_Mo_block_86 : decode prog_14_method_44_code 86 = .ok (.goto (-16), 3) := by decide +kernel
theorem d_Mo_block_89 : decode prog_14_method_44_code 89 = .ok (.iload_n 1, 1) := by decide +kernel
theorem d_Mo_block_90 : decode prog_14_method_44_code 90 = .ok (.istore 5, 2) := by decide +kernel
theorem d_Mo_block_92 : decode prog_14_method_44_code 92 = .ok (.iload 5, 2) := by decide +kernel
theorem d_Mo_block_94 : decode prog_14_method_44_code 94 = .ok (.iload_n 2, 1) := by decide +kernel
theorem d_Mo_block_95 : decode prog_14_method_44_code 95 = .ok (.if_icmp .ge 22, 3) := by decide +kernel
theorem d_Mo_block_98 : decode prog_14_method_44_code 98 = .ok (.aload_n 0, 1) := by decide +kernel
theorem d_Mo_block_99 : decode prog_14_method_44_code 99 = .ok (.aload_n 0, 1) := by decide +kernel
theorem d_Mo_block_100 : decode prog_14_method_44_code 100 = .ok (.getfield 7, 3) := by decide +kernel
theorem d_Mo_block_103 : decode prog_14_method_44_code 103 = .ok (.iload 5, 2) := by decide +kernel
theorem d_Mo_block_105 : decode prog_14_method_44_code 105 = .ok (.iaload, 1) := by decide +kernel
theorem d_Mo_block_106 : decode prog_14_method_44_code 106 = .ok (.bipush 8, 2) := by decide +kernel
theorem d_Mo_block_108 : decode prog_14_method_44_code 108 = .ok (.invokevirtual 166, 3) := by decide +kernel
theorem d_Mo_block_111 : decode prog_14_method_44_code 111 = .ok (.iinc 5 1, 3) := by decide +kernel
theorem d_Mo_block_114 : decode prog_14_method_44_code 114 = .ok (.goto (-22), 3) := by decide +kernel
theorem d_Mo_block_117 : decode prog_14_method_44_code 117 = .ok (.return_, 1) := by decide +kernel
theorem d_Mo_block_118 : decode prog_14_method_44_code 118 = .ok (.aload_n 0, 1) := by decide +kernel
theorem d_Mo_block_119 : decode prog_14_method_44_code 119 = .ok (.iload_n 3, 1) := by decide +kernel
theorem d_Mo_block_120 : decode prog_14_method_44_code 120 = .ok (.iconst 1, 1) := by decide +kernel
theorem d_Mo_block_121 : decode prog_14_method_44_code 121 = .ok (.isub, 1) := by decide +kernel
theorem d_Mo_block_122 : decode prog_14_method_44_code 122 = .ok (.iconst 1, 1) := by decide +kernel
theorem d_Mo_block_123 : decode prog_14_method_44_code 123 = .ok (.invokevirtual 166, 3) := by decide +kernel
theorem d_Mo_block_126 : decode prog_14_method_44_code 126 = .ok (.aload_n 0, 1) := by decide +kernel
theorem d_Mo_block_127 : decode prog_14_method_44_code 127 = .ok (.invokevirtual 189, 3) := by decide +kernel
theorem d_Mo_block_130 : decode prog_14_method_44_code 130 = .ok (.aload_n 0, 1) := by decide +kernel
theorem d_Mo_block_131 : decode prog_14_method_44_code 131 = .ok (.iload_n 1, 1) := by decide +kernel
theorem d_Mo_block_132 : decode prog_14_method_44_code 132 = .ok (.iload_n 3, 1) := by decide +kernel
theorem d_Mo_block_133 : decode prog_14_method_44_code 133 = .ok (.iconst 2, 1) := by decide +kernel
theorem d_Mo_block_134 : decode prog_14_method_44_code 134 = .ok (.if_icmp .ne 7, 3) := by decide +kernel
theorem d_Mo_block_137 : decode prog_14_method_44_code 137 = .ok (.iconst 1, 1) := by decide +kernel
theorem d_Mo_block_138 : decode prog_14_method_44_code 138 = .ok (.goto 4, 3) := by decide +kernel
theorem d_Mo_block_141 : decode prog_14_method_44_code 141 = .ok (.iconst 0, 1) := by decide +kernel
theorem d_Mo_block_142 : decode prog_14_method_44_code 142 = .ok (.iconst 0, 1) := by decide +kernel
theorem d_Mo_block_143 : decode prog_14_method_44_code 143 = .ok (.invokevirtual 192, 3) := by decide +kernel
theorem d_Mo_block_146 : decode prog_14_method_44_code 146 = .ok (.aload_n 0, 1) := by decide +kernel
theorem d_Mo_block_147 : decode prog_14_method_44_code 147 = .ok (.iconst 0, 1) := by decide +kernel
theorem d_Mo_block_148 : decode prog_14_method_44_code 148 = .ok (.invokevirtual 196, 3) := by decide +kernel
theorem d_Mo_block_151 : decode prog_14_method_44_code 151 = .ok (.iload_n 3, 1) := by decide +kernel
theorem d_Mo_block_152 : decode prog_14_method_44_code 152 = .ok (.iconst 2, 1) := by decide +kernel
theorem d_Mo_block_153 : decode prog_14_method_44_code 153 = .ok (.if_icmp .ne 10, 3) := by decide +kernel
theorem d_Mo_block_156 : decode prog_14_method_44_code 156 = .ok (.aload_n 0, 1) := by decide +kernel
theorem d_Mo_block_157 : decode prog_14_method_44_code 157 = .ok (.sipush 256, 3) := by decide +kernel
theorem d_Mo_block_160 : decode prog_14_method_44_code 160 = .ok (.invokevirtual 196, 3) := by decide +kernel
theorem d_Mo_block_163 : decode prog_14_method_44_code 163 = .ok (.aload_n 0, 1) := by decide +kernel
theorem d_Mo_block_164 : decode prog_14_method_44_code 164 = .ok (.sipush 512, 3) := by decide +kernel
theorem d_Mo_block_167 : decode prog_14_method_44_code 167 = .ok (.invokevirtual 196, 3) := by decide +kernel
theorem d_Mo_block_170 : decode prog_14_method_44_code 170 = .ok (.aload_n 0, 1) := by decide +kernel
theorem d_Mo_block_171 : decode prog_14_method_44_code 171 = .ok (.sipush 768, 3) := by decide +kernel
theorem d_Mo_block_174 : decode prog_14_method_44_code 174 = .ok (.invokevirtual 196, 3) := by decide +kernel
theorem d_Mo_block_177 : decode prog_14_method_44_code 177 = .ok (.aload_n 0, 1) := by decide +kernel
theorem d_Mo_block_178 : decode prog_14_method_44_code 178 = .ok (.iload_n 1, 1) := by decide +kernel
theorem d_Mo_block_179 : decode prog_14_method_44_code 179 = .ok (.iload_n 3, 1) := by decide +kernel
theorem d_Mo_block_180 : decode prog_14_method_44_code 180 = .ok (.iconst 2, 1) := by decide +kernel
theorem d_Mo_block_181 : decode prog_14_method_44_code 181 = .ok (.if_icmp .ne 7, 3) := by decide +kernel
theorem d_Mo_block_184 : decode prog_14_method_44_code 184 = .ok (.iconst 1, 1) := by decide +kernel
theorem d_Mo_block_185 : decode prog_14_method_44_code 185 = .ok (.goto 4, 3) := by decide +kernel
theorem d_Mo_block_188 : decode prog_14_method_44_code 188 = .ok (.iconst 0, 1) := by decide +kernel
theorem d_Mo_block_189 : decode prog_14_method_44_code 189 = .ok (.iconst 1, 1) := by decide +kernel
theorem d_Mo_block_190 : decode prog_14_method_44_code 190 = .ok (.invokevirtual 192, 3) := by decide +kernel
theorem d_Mo_block_193 : decode prog_14_method_44_code 193 = .ok (.return_, 1) := by decide +kernel
theorem d_Mo_counts_0 : decode prog_14_method_45_code 0 = .ok (.aload_n 0, 1) := by decide +kernel
theorem d_Mo_counts_1 : decode prog_14_method_45_code 1 = .ok (.iconst 0, 1) := by decide +kernel
theorem d_Mo_counts_2 : decode prog_14_method_45_code 2 = .ok (.putfield 69, 3) := by decide +kernel
theorem d_Mo_counts_5 : decode prog_14_method_45_code 5 = .ok (.aload_n 0, 1) := by decide +kernel
theorem d_Mo_counts_6 : decode prog_14_method_45_code 6 = .ok (.iconst 0, 1) := by decide +kernel
theorem d_Mo_counts_7 : decode prog_14_method_45_code 7 = .ok (.putfield 72, 3) := by decide +kernel
theorem d_Mo_counts_10 : decode prog_14_method_45_code 10 = .ok (.aload_n 0, 1) := by decide +kernel
theorem d_Mo_counts_11 : decode prog_14_method_45_code 11 = .ok (.iconst 0, 1) := by decide +kernel
theorem d_Mo_counts_12 : decode prog_14_method_45_code 12 = .ok (.putfield 75, 3) := by decide +kernel
theorem d_Mo_counts_15 : decode prog_14_method_45_code 15 = .ok (.aload_n 0, 1) := by decide +kernel
theorem d_Mo_counts_16 : decode prog_14_method_45_code 16 = .ok (.iconst 0, 1) := by decide +kernel
theorem d_Mo_counts_17 : decode prog_14_method_45_code 17 = .ok (.putfield 78, 3) := by decide +kernel
theorem d_Mo_counts_20 : decode prog_14_method_45_code 20 = .ok (.iconst 0, 1) := by decide +kernel
theorem d_Mo_counts_21 : decode prog_14_method_45_code 21 = .ok (.istore_n 1, 1) := by decide +kernel
theorem d_Mo_counts_22 : decode prog_14_method_45_code 22 = .ok (.iload_n 1, 1) := by decide +kernel
theorem d_Mo_counts_23 : decode prog_14_method_45_code 23 = .ok (.iconst 4, 1) := by decide +kernel
theorem d_Mo_counts_24 : decode prog_14_method_45_code 24 = .ok (.if_icmp .ge 18, 3) := by decide +kernel
theorem d_Mo_counts_27 : decode prog_14_method_45_code 27 = .ok (.aload_n 0, 1) := by decide +kernel
theorem d_Mo_counts_28 : decode prog_14_method_45_code 28 = .ok (.getfield 28, 3) := by decide +kernel
theorem d_Mo_counts_31 : decode prog_14_method_45_code 31 = .ok (.iload_n 1, 1) := by decide +kernel
theorem d_Mo_counts_32 : decode prog_14_method_45_code 32 = .ok (.iconst 1, 1) := by decide +kernel
theorem d_Mo_counts_33 : decode prog_14_method_45_code 33 = .ok (.iload_n 1, 1) := by decide +kernel
theorem d_Mo_counts_34 : decode prog_14_method_45_code 34 = .ok (.ishl, 1) := by decide +kernel
theorem d_Mo_counts_35 : decode prog_14_method_45_code 35 = .ok (.iastore, 1) := by decide +kernel
theorem d_Mo_counts_36 : decode prog_14_method_45_code 36 = .ok (.iinc 1 1, 3) := by decide +kernel
theorem d_Mo_counts_39 : decode prog_14_method_45_code 39 = .ok (.goto (-17), 3) := by decide +kernel
theorem d_Mo_counts_42 : decode prog_14_method_45_code 42 = .ok (.return_, 1) := by decide +kernel
theorem d_Mo_tally_0 : decode prog_14_method_46_code 0 = .ok (.aload_n 0, 1) := by decide +kernel
theorem d_Mo_tally_1 : decode prog_14_method_46_code 1 = .ok (.dup, 1) := by decide +kernel
theorem d_Mo_tally_2 : decode prog_14_method_46_code 2 = .ok (.getfield 69, 3) := by decide +kernel
theorem d_Mo_tally_5 : decode prog_14_method_46_code 5 = .ok (.iconst 1, 1) := by decide +kernel
theorem d_Mo_tally_6 : decode prog_14_method_46_code 6 = .ok (.iadd, 1) := by decide +kernel
theorem d_Mo_tally_7 : decode prog_14_method_46_code 7 = .ok (.putfield 69, 3) := by decide +kernel
theorem d_Mo_tally_10 : decode prog_14_method_46_code 10 = .ok (.iconst 0, 1) := by decide +kernel
theorem d_Mo_tally_11 : decode prog_14_method_46_code 11 = .ok (.istore_n 1, 1) := by decide +kernel
theorem d_Mo_tally_12 : decode prog_14_method_46_code 12 = .ok (.iload_n 1, 1) := by decide +kernel
theorem d_Mo_tally_13 : decode prog_14_method_46_code 13 = .ok (.aload_n 0, 1) := by decide +kernel
theorem d_Mo_tally_14 : decode prog_14_method_46_code 14 = .ok (.getfield 124, 3) := by decide +kernel
theorem d_Mo_tally_17 : decode prog_14_method_46_code 17 = .ok (.if_icmp .ge 91, 3) := by decide +kernel
theorem d_Mo_tally_20 : decode prog_14_method_46_code 20 = .ok (.aload_n 0, 1) := by decide +kernel
theorem d_Mo_tally_21 : decode prog_14_method_46_code 21 = .ok (.aload_n 0, 1) := by decide +kernel
theorem d_Mo_tally_22 : decode prog_14_method_46_code 22 = .ok (.getfield 78, 3) := by decide +kernel
theorem d_Mo_tally_25 : decode prog_14_method_46_code 25 = .ok (.iconst 1, 1) := by decide +kernel
theorem d_Mo_tally_26 : decode prog_14_method_46_code 26 = .ok (.iadd, 1) := by decide +kernel
theorem d_Mo_tally_27 : decode prog_14_method_46_code 27 = .ok (.aload_n 0, 1) := by decide +kernel
theorem d_Mo_tally_28 : decode prog_14_method_46_code 28 = .ok (.getfield 34, 3) := by decide +kernel
theorem d_Mo_tally_31 : decode prog_14_method_46_code 31 = .ok (.iload_n 1, 1) := by decide +kernel
theorem d_Mo_tally_32 : decode prog_14_method_46_code 32 = .ok (.iaload, 1) := by decide +kernel
theorem d_Mo_tally_33 : decode prog_14_method_46_code 33 = .ok (.iadd, 1) := by decide +kernel
theorem d_Mo_tally_34 : decode prog_14_method_46_code 34 = .ok (.aload_n 0, 1) := by decide +kernel
theorem d_Mo_tally_35 : decode prog_14_method_46_code 35 = .ok (.getfield 43, 3) := by decide +kernel
theorem d_Mo_tally_38 : decode prog_14_method_46_code 38 = .ok (.iload_n 1, 1) := by decide +kernel
theorem d_Mo_tally_39 : decode prog_14_method_46_code 39 = .ok (.iaload, 1) := by decide +kernel
theorem d_Mo_tally_40 : decode prog_14_method_46_code 40 = .ok (.ifCond .lt 7, 3) := by decide +kernel
theorem d_Mo_tally_43 : decode prog_14_method_46_code 43 = .ok (.iconst 1, 1) := by decide +kernel
theorem d_Mo_tally_44 : decode prog_14_method_46_code 44 = .ok (.goto 4, 3) := by decide +kernel
theorem d_Mo_tally_47 : decode prog_14_method_46_code 47 = .ok (.iconst 0, 1) := by decide +kernel
theorem d_Mo_tally_48 : decode prog_14_method_46_code 48 = .ok (.iadd, 1) := by decide +kernel
theorem d_Mo_tally_49 : decode prog_14_method_46_code 49 = .ok (.putfield 78, 3) := by decide +kernel
theorem d_Mo_tally_52 : decode prog_14_method_46_code 52 = .ok (.aload_n 0, 1) := by decide +kernel
theorem d_Mo_tally_53 : decode prog_14_method_46_code 53 = .ok (.aload_n 0, 1) := by decide +kernel
theorem d_Mo_tally_54 : decode prog_14_method_46_code 54 = .ok (.getfield 75, 3) := by decide +kernel
theorem d_Mo_tally_57 : decode prog_14_method_46_code 57 = .ok (.aload_n 0, 1) := by decide +kernel
theorem d_Mo_tally_58 : decode prog_14_method_46_code 58 = .ok (.getfield 52, 3) := by decide +kernel
theorem d_Mo_tally_61 : decode prog_14_method_46_code 61 = .ok (.iload_n 1, 1) := by decide +kernel
theorem d_Mo_tally_62 : decode prog_14_method_46_code 62 = .ok (.iaload, 1) := by decide +kernel
theorem d_Mo_tally_63 : decode prog_14_method_46_code 63 = .ok (.iadd, 1) := by decide +kernel
theorem d_Mo_tally_64 : decode prog_14_method_46_code 64 = .ok (.putfield 75, 3) := by decide +kernel
theorem d_Mo_tally_67 : decode prog_14_method_46_code 67 = .ok (.aload_n 0, 1) := by decide +kernel
theorem d_Mo_tally_68 : decode prog_14_method_46_code 68 = .ok (.aload_n 0, 1) := by decide +kernel
theorem d_Mo_tally_69 : decode prog_14_method_46_code 69 = .ok (.getfield 40, 3) := by decide +kernel
theorem d_Mo_tally_72 : decode prog_14_method_46_code 72 = .ok (.iload_n 1, 1) := by decide +kernel
theorem d_Mo_tally_73 : decode prog_14_method_46_code 73 = .ok (.iaload, 1) := by decide +kernel
theorem d_Mo_tally_74 : decode prog_14_method_46_code 74 = .ok (.ifCond .le 21, 3) := by decide +kernel
theorem d_Mo_tally_77 : decode prog_14_method_46_code 77 = .ok (.aload_n 0, 1) := by decide +kernel
theorem d_Mo_tally_78 : decode prog_14_method_46_code 78 = .ok (.getfield 52, 3) := by decide +kernel
theorem d_Mo_tally_81 : decode prog_14_method_46_code 81 = .ok (.iload_n 1, 1) := by decide +kernel
theorem d_Mo_tally_82 : decode prog_14_method_46_code 82 = .ok (.iaload, 1) := by decide +kernel
theorem d_Mo_tally_83 : decode prog_14_method_46_code 83 = .ok (.ifCond .ne 12, 3) := by decide +kernel
theorem d_Mo_tally_86 : decode prog_14_method_46_code 86 = .ok (.aload_n 0, 1) := by decide +kernel
theorem d_Mo_tally_87 : decode prog_14_method_46_code 87 = .ok (.getfield 72, 3) := by decide +kernel
theorem d_Mo_tally_90 : decode prog_14_method_46_code 90 = .ok (.iconst 1, 1) := by decide +kernel
theorem d_Mo_tally_91 : decode prog_14_method_46_code 91 = .ok (.iadd, 1) := by decide +kernel
theorem d_Mo_tally_92 : decode prog_14_method_46_code 92 = .ok (.goto 7, 3) := by decide +kernel
theorem d_Mo_tally_95 : decode prog_14_method_46_code 95 = .ok (.aload_n 0, 1) := by decide +kernel
theorem d_Mo_tally_96 : decode prog_14_method_46_code 96 = .ok (.getfield 72, 3) := by decide +kernel
theorem d_Mo_tally_99 : decode prog_14_method_46_code 99 = .ok (.putfield 72, 3) := by decide +kernel
theorem d_Mo_tally_102 : decode prog_14_method_46_code 102 = .ok (.iinc 1 1, 3) := by decide +kernel
theorem d_Mo_tally_105 : decode prog_14_method_46_code 105 = .ok (.goto (-93), 3) := by decide +kernel
theorem d_Mo_tally_108 : decode prog_14_method_46_code 108 = .ok (.return_, 1) := by decide +kernel
theorem d_Mo_choose_0 : decode prog_14_method_47_code 0 = .ok (.iconst 0, 1) := by decide +kernel
theorem d_Mo_choose_1 : decode prog_14_method_47_code 1 = .ok (.istore_n 3, 1) := by decide +kernel
theorem d_Mo_choose_2 : decode prog_14_method_47_code 2 = .ok (.iload_n 3, 1) := by decide +kernel
theorem d_Mo_choose_3 : decode prog_14_method_47_code 3 = .ok (.iconst 4, 1) := by decide +kernel
theorem d_Mo_choose_4 : decode prog_14_method_47_code 4 = .ok (.if_icmp .ge 21, 3) := by decide +kernel
theorem d_Mo_choose_7 : decode prog_14_method_47_code 7 = .ok (.aload_n 0, 1) := by decide +kernel
theorem d_Mo_choose_8 : decode prog_14_method_47_code 8 = .ok (.getfield 31, 3) := by decide +kernel
theorem d_Mo_choose_11 : decode prog_14_method_47_code 11 = .ok (.iload_n 3, 1) := by decide +kernel
theorem d_Mo_choose_12 : decode prog_14_method_47_code 12 = .ok (.aload_n 0, 1) := by decide +kernel
theorem d_Mo_choose_13 : decode prog_14_method_47_code 13 = .ok (.getfield 28, 3) := by decide +kernel
theorem d_Mo_choose_16 : decode prog_14_method_47_code 16 = .ok (.iload_n 3, 1) := by decide +kernel
theorem d_Mo_choose_17 : decode prog_14_method_47_code 17 = .ok (.iaload, 1) := by decide +kernel
theorem d_Mo_choose_18 : decode prog_14_method_47_code 18 = .ok (.iastore, 1) := by decide +kernel
theorem d_Mo_choose_19 : decode prog_14_method_47_code 19 = .ok (.iinc 3 1, 3) := by decide +kernel
theorem d_Mo_choose_22 : decode prog_14_method_47_code 22 = .ok (.goto (-20), 3) := by decide +kernel
theorem d_Mo_choose_25 : decode prog_14_method_47_code 25 = .ok (.aload_n 0, 1) := by decide +kernel
theorem d_Mo_choose_26 : decode prog_14_method_47_code 26 = .ok (.iload_n 1, 1) := by decide +kernel
theorem d_Mo_choose_27 : decode prog_14_method_47_code 27 = .ok (.iload_n 2, 1) := by decide +kernel
theorem d_Mo_choose_28 : decode prog_14_method_47_code 28 = .ok (.invokevirtual 199, 3) := by decide +kernel
theorem d_Mo_choose_31 : decode prog_14_method_47_code 31 = .ok (.aload_n 0, 1) := by decide +kernel
theorem d_Mo_choose_32 : decode prog_14_method_47_code 32 = .ok (.getfield 154, 3) := by decide +kernel
theorem d_Mo_choose_35 : decode prog_14_method_47_code 35 = .ok (.istore_n 3, 1) := by decide +kernel
theorem d_Mo_choose_36 : decode prog_14_method_47_code 36 = .ok (.iconst 0, 1) := by decide +kernel
theorem d_Mo_choose_37 : decode prog_14_method_47_code 37 = .ok (.istore 4, 2) := by decide +kernel
theorem d_Mo_choose_39 : decode prog_14_method_47_code 39 = .ok (.sipush 4000, 3) := by decide +kernel
theorem d_Mo_choose_42 : decode prog_14_method_47_code 42 = .ok (.istore 5, 2) := by decide +kernel
theorem d_Mo_choose_44 : decode prog_14_method_47_code 44 = .ok (.iconst 0, 1) := by decide +kernel
theorem d_Mo_choose_45 : decode prog_14_method_47_code 45 = .ok (.istore 6, 2) := by decide +kernel
theorem d_Mo_choose_47 : decode prog_14_method_47_code 47 = .ok (.iload 6, 2) := by decide +kernel
theorem d_Mo_choose_49 : decode prog_14_method_47_code 49 = .ok (.iconst 3, 1) := by decide +kernel
theorem d_Mo_choose_50 : decode prog_14_method_47_code 50 = .ok (.if_icmp .ge 60, 3) := by decide +kernel
theorem d_Mo_choose_53 : decode prog_14_method_47_code 53 = .ok (.aload_n 0, 1) := by decide +kernel
theorem d_Mo_choose_54 : decode prog_14_method_47_code 54 = .ok (.iload_n 3, 1) := by decide +kernel
theorem d_Mo_choose_55 : decode prog_14_method_47_code 55 = .ok (.putfield 154, 3) := by decide +kernel
theorem d_Mo_choose_58 : decode prog_14_method_47_code 58 = .ok (.aload_n 0, 1) := by decide +kernel
theorem d_Mo_choose_59 : decode prog_14_method_47_code 59 = .ok (.iload_n 1, 1) := by decide +kernel
theorem d_Mo_choose_60 : decode prog_14_method_47_code 60 = .ok (.iload_n 2, 1) := by decide +kernel
theorem d_Mo_choose_61 : decode prog_14_method_47_code 61 = .ok (.iload 6, 2) := by decide +kernel
theorem d_Mo_choose_63 : decode prog_14_method_47_code 63 = .ok (.invokevirtual 202, 3) := by decide +kernel
theorem d_Mo_choose_66 : decode prog_14_method_47_code 66 = .ok (.aload_n 0, 1) := by decide +kernel
theorem d_Mo_choose_67 : decode prog_14_method_47_code 67 = .ok (.getfield 154, 3) := by decide +kernel
theorem d_Mo_choose_70 : decode prog_14_method_47_code 70 = .ok (.iload 5, 2) := by decide +kernel
theorem d_Mo_choose_72 : decode prog_14_method_47_code 72 = .ok (.if_icmp .ge 8, 3) := by decide +kernel
theorem d_Mo_choose_75 : decode prog_14_method_47_code 75 = .ok (.iload 6, 2) := by decide +kernel
theorem d_Mo_choose_77 : decode prog_14_method_47_code 77 = .ok (.goto 5, 3) := by decide +kernel
theorem d_Mo_choose_80 : decode prog_14_method_47_code 80 = .ok (.iload 4, 2) := by decide +kernel
theorem d_Mo_choose_82 : decode prog_14_method_47_code 82 = .ok (.istore 4, 2) := by decide +kernel
theorem d_Mo_choose_84 : decode prog_14_method_47_code 84 = .ok (.aload_n 0, 1) := by decide +kernel
theorem d_Mo_choose_85 : decode prog_14_method_47_code 85 = .ok (.getfield 154, 3) := by decide +kernel
theorem d_Mo_choose_88 : decode prog_14_method_47_code 88 = .ok (.iload 5, 2) := by decide +kernel
theorem d_Mo_choose_90 : decode prog_14_method_47_code 90 = .ok (.if_icmp .ge 10, 3) := by decide +kernel
theorem d_Mo_choose_93 : decode prog_14_method_47_code 93 = .ok (.aload_n 0, 1) := by decide +kernel
theorem d_Mo_choose_94 : decode prog_14_method_47_code 94 = .ok (.getfield 154, 3) := by decide +kernel
theorem d_Mo_choose_97 : decode prog_14_method_47_code 97 = .ok (.goto 5, 3) := by decide +kernel
theorem d_Mo_choose_100 : decode prog_14_method_47_code 100 = .ok (.iload 5, 2) := by decide +kernel
theorem d_Mo_choose_102 : decode prog_14_method_47_code 102 = .ok (.istore 5, 2) := by decide +kernel
theorem d_Mo_choose_104 : decode prog_14_method_47_code 104 = .ok (.iinc 6 1, 3) := by decide +kernel
theorem d_Mo_choose_107 : decode prog_14_method_47_code 107 = .ok (.goto (-60), 3) := by decide +kernel
theorem d_Mo_choose_110 : decode prog_14_method_47_code 110 = .ok (.aload_n 0, 1) := by decide +kernel
theorem d_Mo_choose_111 : decode prog_14_method_47_code 111 = .ok (.iload_n 3, 1) := by decide +kernel
theorem d_Mo_choose_112 : decode prog_14_method_47_code 112 = .ok (.putfield 154, 3) := by decide +kernel
theorem d_Mo_choose_115 : decode prog_14_method_47_code 115 = .ok (.aload_n 0, 1) := by decide +kernel
theorem d_Mo_choose_116 : decode prog_14_method_47_code 116 = .ok (.iload_n 1, 1) := by decide +kernel
theorem d_Mo_choose_117 : decode prog_14_method_47_code 117 = .ok (.iload_n 2, 1) := by decide +kernel
theorem d_Mo_choose_118 : decode prog_14_method_47_code 118 = .ok (.iload 4, 2) := by decide +kernel
theorem d_Mo_choose_120 : decode prog_14_method_47_code 120 = .ok (.invokevirtual 202, 3) := by decide +kernel
theorem d_Mo_choose_123 : decode prog_14_method_47_code 123 = .ok (.iconst 0, 1) := by decide +kernel
theorem d_Mo_choose_124 : decode prog_14_method_47_code 124 = .ok (.istore 6, 2) := by decide +kernel
theorem d_Mo_choose_126 : decode prog_14_method_47_code 126 = .ok (.iload 6, 2) := by decide +kernel
theorem d_Mo_choose_128 : decode prog_14_method_47_code 128 = .ok (.iconst 4, 1) := by decide +kernel
theorem d_Mo_choose_129 : decode prog_14_method_47_code 129 = .ok (.if_icmp .ge 38, 3) := by decide +kernel
theorem d_Mo_choose_132 : decode prog_14_method_47_code 132 = .ok (.aload_n 0, 1) := by decide +kernel
theorem d_Mo_choose_133 : decode prog_14_method_47_code 133 = .ok (.getfield 28, 3) := by decide +kernel
theorem d_Mo_choose_136 : decode prog_14_method_47_code 136 = .ok (.iload 6, 2) := by decide +kernel
theorem d_Mo_choose_138 : decode prog_14_method_47_code 138 = .ok (.iload 4, 2) := by decide +kernel
theorem d_Mo_choose_140 : decode prog_14_method_47_code 140 = .ok (.ifCond .ne 13, 3) := by decide +kernel
theorem d_Mo_choose_143 : decode prog_14_method_47_code 143 = .ok (.aload_n 0, 1) := by decide +kernel
theorem d_Mo_choose_144 : decode prog_14_method_47_code 144 = .ok (.getfield 31, 3) := by decide +kernel
theorem d_Mo_choose_147 : decode prog_14_method_47_code 147 = .ok (.iload 6, 2) := by decide +kernel
theorem d_Mo_choose_149 : decode prog_14_method_47_code 149 = .ok (.iaload, 1) := by decide +kernel
theorem d_Mo_choose_150 : decode prog_14_method_47_code 150 = .ok (.goto 10, 3) := by decide +kernel
theorem d_Mo_choose_153 : decode prog_14_method_47_code 153 = .ok (.aload_n 0, 1) := by decide +kernel
theorem d_Mo_choose_154 : decode prog_14_method_47_code 154 = .ok (.getfield 28, 3) := by decide +kernel
theorem d_Mo_choose_157 : decode prog_14_method_47_code 157 = .ok (.iload 6, 2) := by decide +kernel
theorem d_Mo_choose_159 : decode prog_14_method_47_code 159 = .ok (.iaload, 1) := by decide +kernel
theorem d_Mo_choose_160 : decode prog_14_method_47_code 160 = .ok (.iastore, 1) := by decide +kernel
theorem d_Mo_choose_161 : decode prog_14_method_47_code 161 = .ok (.iinc 6 1, 3) := by decide +kernel
theorem d_Mo_choose_164 : decode prog_14_method_47_code 164 = .ok (.goto (-38), 3) := by decide +kernel
theorem d_Mo_choose_167 : decode prog_14_method_47_code 167 = .ok (.iload 4, 2) := by decide +kernel
theorem d_Mo_choose_169 : decode prog_14_method_47_code 169 = .ok (.ifCond .le 7, 3) := by decide +kernel
theorem d_Mo_choose_172 : decode prog_14_method_47_code 172 = .ok (.aload_n 0, 1) := by decide +kernel
theorem d_Mo_choose_173 : decode prog_14_method_47_code 173 = .ok (.invokevirtual 205, 3) := by decide +kernel
theorem d_Mo_choose_176 : decode prog_14_method_47_code 176 = .ok (.return_, 1) := by decide +kernel
theorem d_Mo_pack_0 : decode prog_14_method_48_code 0 = .ok (.aload_n 0, 1) := by decide +kernel
theorem d_Mo_pack_1 : decode prog_14_method_48_code 1 = .ok (.invokevirtual 208, 3) := by decide +kernel
theorem d_Mo_pack_4 : decode prog_14_method_48_code 4 = .ok (.aload_n 0, 1) := by decide +kernel
theorem d_Mo_pack_5 : decode prog_14_method_48_code 5 = .ok (.iconst 0, 1) := by decide +kernel
theorem d_Mo_pack_6 : decode prog_14_method_48_code 6 = .ok (.putfield 154, 3) := by decide +kernel
theorem d_Mo_pack_9 : decode prog_14_method_48_code 9 = .ok (.aload_n 0, 1) := by decide +kernel
theorem d_Mo_pack_10 : decode prog_14_method_48_code 10 = .ok (.getfield 62, 3) := by decide +kernel
theorem d_Mo_pack_13 : decode prog_14_method_48_code 13 = .ok (.ifCond .ne 9, 3) := by decide +kernel
theorem d_Mo_pack_16 : decode prog_14_method_48_code 16 = .ok (.aload_n 0, 1) := by decide +kernel
theorem d_Mo_pack_17 : decode prog_14_method_48_code 17 = .ok (.iconst 3, 1) := by decide +kernel
theorem d_Mo_pack_18 : decode prog_14_method_48_code 18 = .ok (.iconst 2, 1) := by decide +kernel
theorem d_Mo_pack_19 : decode prog_14_method_48_code 19 = .ok (.invokevirtual 166, 3) := by decide +kernel
theorem d_Mo_pack_22 : decode prog_14_method_48_code 22 = .ok (.iconst 0, 1) := by decide +kernel
theorem d_Mo_pack_23 : decode prog_14_method_48_code 23 = .ok (.istore_n 1, 1) := by decide +kernel
theorem d_Mo_pack_24 : decode prog_14_method_48_code 24 = .ok (.iload_n 1, 1) := by decide +kernel
theorem d_Mo_pack_25 : decode prog_14_method_48_code 25 = .ok (.aload_n 0, 1) := by decide +kernel
theorem d_Mo_pack_26 : decode prog_14_method_48_code 26 = .ok (.getfield 62, 3) := by decide +kernel
theorem d_Mo_pack_29 : decode prog_14_method_48_code 29 = .ok (.if_icmp .ge 36, 3) := by decide +kernel
theorem d_Mo_pack_32 : decode prog_14_method_48_code 32 = .ok (.aload_n 0, 1) := by decide +kernel
theorem d_Mo_pack_33 : decode prog_14_method_48_code 33 = .ok (.iload_n 1, 1) := by decide +kernel
theorem d_Mo_pack_34 : decode prog_14_method_48_code 34 = .ok (.aload_n 0, 1) := by decide +kernel
theorem d_Mo_pack_35 : decode prog_14_method_48_code 35 = .ok (.getfield 62, 3) := by decide +kernel
theorem d_Mo_pack_38 : decode prog_14_method_48_code 38 = .ok (.iload_n 1, 1) := by decide +kernel
theorem d_Mo_pack_39 : decode prog_14_method_48_code 39 = .ok (.bipush 48, 2) := by decide +kernel
theorem d_Mo_pack_41 : decode prog_14_method_48_code 41 = .ok (.iadd, 1) := by decide +kernel
theorem d_Mo_pack_42 : decode prog_14_method_48_code 42 = .ok (.if_icmp .ge 10, 3) := by decide +kernel
theorem d_Mo_pack_45 : decode prog_14_method_48_code 45 = .ok (.aload_n 0, 1) := by decide +kernel
theorem d_Mo_pack_46 : decode prog_14_method_48_code 46 = .ok (.getfield 62, 3) := by decide +kernel
theorem d_Mo_pack_49 : decode prog_14_method_48_code 49 = .ok (.goto 7, 3) := by decide +kernel
theorem d_Mo_pack_52 : decode prog_14_method_48_code 52 = .ok (.iload_n 1, 1) := by decide +kernel
theorem d_Mo_pack_53 : decode prog_14_method_48_code 53 = .ok (.bipush 48, 2) := by decide +kernel
theorem d_Mo_pack_55 : decode prog_14_method_48_code 55 = .ok (.iadd, 1) := by decide +kernel
theorem d_Mo_pack_56 : decode prog_14_method_48_code 56 = .ok (.invokevirtual 211, 3) := by decide +kernel
theorem d_Mo_pack_59 : decode prog_14_method_48_code 59 = .ok (.iinc 1 48, 3) := by decide +kernel
theorem d_Mo_pack_62 : decode prog_14_method_48_code 62 = .ok (.goto (-38), 3) := by decide +kernel
theorem d_Mo_pack_65 : decode prog_14_method_48_code 65 = .ok (.aload_n 0, 1) := by decide +kernel
theorem d_Mo_pack_66 : decode prog_14_method_48_code 66 = .ok (.getfield 154, 3) := by decide +kernel
theorem d_Mo_pack_69 : decode prog_14_method_48_code 69 = .ok (.bipush 8, 2) := by decide +kernel
theorem d_Mo_pack_71 : decode prog_14_method_48_code 71 = .ok (.irem, 1) := by decide +kernel
theorem d_Mo_pack_72 : decode prog_14_method_48_code 72 = .ok (.ifCond .le 12, 3) := by decide +kernel
theorem d_Mo_pack_75 : decode prog_14_method_48_code 75 = .ok (.aload_n 0, 1) := by decide +kernel
theorem d_Mo_pack_76 : decode prog_14_method_48_code 76 = .ok (.iconst 0, 1) := by decide +kernel
theorem d_Mo_pack_77 : decode prog_14_method_48_code 77 = .ok (.iconst 1, 1) := by decide +kernel
theorem d_Mo_pack_78 : decode prog_14_method_48_code 78 = .ok (.invokevirtual 166, 3) := by decide +kernel
theorem d_Mo_pack_81 : decode prog_14_method_48_code 81 = .ok (.goto (-16), 3) := by decide +kernel
theorem d_Mo_pack_84 : decode prog_14_method_48_code 84 = .ok (.aload_n 0, 1) := by decide +kernel
theorem d_Mo_pack_85 : decode prog_14_method_48_code 85 = .ok (.aload_n 0, 1) := by decide +kernel
theorem d_Mo_pack_86 : decode prog_14_method_48_code 86 = .ok (.getfield 154, 3) := by decide +kernel
theorem d_Mo_pack_89 : decode prog_14_method_48_code 89 = .ok (.bipush 8, 2) := by decide +kernel
theorem d_Mo_pack_91 : decode prog_14_method_48_code 91 = .ok (.idiv, 1) := by decide +kernel
theorem d_Mo_pack_92 : decode prog_14_method_48_code 92 = .ok (.putfield 66, 3) := by decide +kernel
theorem d_Mo_pack_95 : decode prog_14_method_48_code 95 = .ok (.iconst 0, 1) := by decide +kernel
theorem d_Mo_pack_96 : decode prog_14_method_48_code 96 = .ok (.istore_n 1, 1) := by decide +kernel
theorem d_Mo_pack_97 : decode prog_14_method_48_code 97 = .ok (.iload_n 1, 1) := by decide +kernel
theorem d_Mo_pack_98 : decode prog_14_method_48_code 98 = .ok (.aload_n 0, 1) := by decide +kernel
theorem d_Mo_pack_99 : decode prog_14_method_48_code 99 = .ok (.getfield 66, 3) := by decide +kernel
theorem d_Mo_pack_102 : decode prog_14_method_48_code 102 = .ok (.if_icmp .ge 56, 3) := by decide +kernel
theorem d_Mo_pack_105 : decode prog_14_method_48_code 105 = .ok (.aload_n 0, 1) := by decide +kernel
theorem d_Mo_pack_106 : decode prog_14_method_48_code 106 = .ok (.getfield 13, 3) := by decide +kernel
theorem d_Mo_pack_109 : decode prog_14_method_48_code 109 = .ok (.iload_n 1, 1) := by decide +kernel
theorem d_Mo_pack_110 : decode prog_14_method_48_code 110 = .ok (.iconst 0, 1) := by decide +kernel
theorem d_Mo_pack_111 : decode prog_14_method_48_code 111 = .ok (.iastore, 1) := by decide +kernel
theorem d_Mo_pack_112 : decode prog_14_method_48_code 112 = .ok (.iconst 0, 1) := by decide +kernel
theorem d_Mo_pack_113 : decode prog_14_method_48_code 113 = .ok (.istore_n 2, 1) := by decide +kernel
theorem d_Mo_pack_114 : decode prog_14_method_48_code 114 = .ok (.iload_n 2, 1) := by decide +kernel
theorem d_Mo_pack_115 : decode prog_14_method_48_code 115 = .ok (.bipush 8, 2) := by decide +kernel
theorem d_Mo_pack_117 : decode prog_14_method_48_code 117 = .ok (.if_icmp .ge 35, 3) := by decide +kernel
theorem d_Mo_pack_120 : decode prog_14_method_48_code 120 = .ok (.aload_n 0, 1) := by decide +kernel
theorem d_Mo_pack_121 : decode prog_14_method_48_code 121 = .ok (.getfield 13, 3) := by decide +kernel
theorem d_Mo_pack_124 : decode prog_14_method_48_code 124 = .ok (.iload_n 1, 1) := by decide +kernel
theorem d_Mo_pack_125 : decode prog_14_method_48_code 125 = .ok (.aload_n 0, 1) := by decide +kernel
theorem d_Mo_pack_126 : decode prog_14_method_48_code 126 = .ok (.getfield 13, 3) := by decide +kernel
theorem d_Mo_pack_129 : decode prog_14_method_48_code 129 = .ok (.iload_n 1, 1) := by decide +kernel
theorem d_Mo_pack_130 : decode prog_14_method_48_code 130 = .ok (.iaload, 1) := by decide +kernel
theorem d_Mo_pack_131 : decode prog_14_method_48_code 131 = .ok (.aload_n 0, 1) := by decide +kernel
theorem d_Mo_pack_132 : decode prog_14_method_48_code 132 = .ok (.getfield 16, 3) := by decide +kernel
theorem d_Mo_pack_135 : decode prog_14_method_48_code 135 = .ok (.bipush 8, 2) := by decide +kernel
theorem d_Mo_pack_137 : decode prog_14_method_48_code 137 = .ok (.iload_n 1, 1) := by decide +kernel
theorem d_Mo_pack_138 : decode prog_14_method_48_code 138 = .ok (.imul, 1) := by decide +kernel
theorem d_Mo_pack_139 : decode prog_14_method_48_code 139 = .ok (.iload_n 2, 1) := by decide +kernel
theorem d_Mo_pack_140 : decode prog_14_method_48_code 140 = .ok (.iadd, 1) := by decide +kernel
theorem d_Mo_pack_141 : decode prog_14_method_48_code 141 = .ok (.iaload, 1) := by decide +kernel
theorem d_Mo_pack_142 : decode prog_14_method_48_code 142 = .ok (.iload_n 2, 1) := by decide +kernel
theorem d_Mo_pack_143 : decode prog_14_method_48_code 143 = .ok (.ishl, 1) := by decide +kernel
theorem d_Mo_pack_144 : decode prog_14_method_48_code 144 = .ok (.iadd, 1) := by decide +kernel
theorem d_Mo_pack_145 : decode prog_14_method_48_code 145 = .ok (.iastore, 1) := by decide +kernel
theorem d_Mo_pack_146 : decode prog_14_method_48_code 146 = .ok (.iinc 2 1, 3) := by decide +kernel
theorem d_Mo_pack_149 : decode prog_14_method_48_code 149 = .ok (.goto (-35), 3) := by decide +kernel
theorem d_Mo_pack_152 : decode prog_14_method_48_code 152 = .ok (.iinc 1 1, 3) := by decide +kernel
theorem d_Mo_pack_155 : decode prog_14_method_48_code 155 = .ok (.goto (-58), 3) := by decide +kernel
theorem d_Mo_pack_158 : decode prog_14_method_48_code 158 = .ok (.aload_n 0, 1) := by decide +kernel
theorem d_Mo_pack_159 : decode prog_14_method_48_code 159 = .ok (.getfield 66, 3) := by decide +kernel
theorem d_Mo_pack_162 : decode prog_14_method_48_code 162 = .ok (.ireturn, 1) := by decide +kernel
theorem d_Mo_take_0 : decode prog_14_method_49_code 0 = .ok (.iconst 0, 1) := by decide +kernel
theorem d_Mo_take_1 : decode prog_14_method_49_code 1 = .ok (.istore_n 2, 1) := by decide +kernel
theorem d_Mo_take_2 : decode prog_14_method_49_code 2 = .ok (.iconst 0, 1) := by decide +kernel
theorem d_Mo_take_3 : decode prog_14_method_49_code 3 = .ok (.istore_n 3, 1) := by decide +kernel
theorem d_Mo_take_4 : decode prog_14_method_49_code 4 = .ok (.iload_n 3, 1) := by decide +kernel
theorem d_Mo_take_5 : decode prog_14_method_49_code 5 = .ok (.iload_n 1, 1) := by decide +kernel
theorem d_Mo_take_6 : decode prog_14_method_49_code 6 = .ok (.if_icmp .ge 67, 3) := by decide +kernel
theorem d_Mo_take_9 : decode prog_14_method_49_code 9 = .ok (.aload_n 0, 1) := by decide +kernel
theorem d_Mo_take_10 : decode prog_14_method_49_code 10 = .ok (.getfield 154, 3) := by decide +kernel
theorem d_Mo_take_13 : decode prog_14_method_49_code 13 = .ok (.bipush 8, 2) := by decide +kernel
theorem d_Mo_take_15 : decode prog_14_method_49_code 15 = .ok (.aload_n 0, 1) := by decide +kernel
theorem d_Mo_take_16 : decode prog_14_method_49_code 16 = .ok (.getfield 66, 3) := by decide +kernel
theorem d_Mo_take_19 : decode prog_14_method_49_code 19 = .ok (.imul, 1) := by decide +kernel
theorem d_Mo_take_20 : decode prog_14_method_49_code 20 = .ok (.if_icmp .lt 10, 3) := by decide +kernel
theorem d_Mo_take_23 : decode prog_14_method_49_code 23 = .ok (.aload_n 0, 1) := by decide +kernel
theorem d_Mo_take_24 : decode prog_14_method_49_code 24 = .ok (.iconst 1, 1) := by decide +kernel
theorem d_Mo_take_25 : decode prog_14_method_49_code 25 = .ok (.putfield 214, 3) := by decide +kernel
theorem d_Mo_take_28 : decode prog_14_method_49_code 28 = .ok (.iconst 0, 1) := by decide +kernel
theorem d_Mo_take_29 : decode prog_14_method_49_code 29 = .ok (.ireturn, 1) := by decide +kernel
theorem d_Mo_take_30 : decode prog_14_method_49_code 30 = .ok (.iload_n 2, 1) := by decide +kernel
theorem d_Mo_take_31 : decode prog_14_method_49_code 31 = .ok (.aload_n 0, 1) := by decide +kernel
theorem d_Mo_take_32 : decode prog_14_method_49_code 32 = .ok (.getfield 13, 3) := by decide +kernel
theorem d_Mo_take_35 : decode prog_14_method_49_code 35 = .ok (.aload_n 0, 1) := by decide +kernel
theorem d_Mo_take_36 : decode prog_14_method_49_code 36 = .ok (.getfield 154, 3) := by decide +kernel
theorem d_Mo_take_39 : decode prog_14_method_49_code 39 = .ok (.bipush 8, 2) := by decide +kernel
theorem d_Mo_take_41 : decode prog_14_method_49_code 41 = .ok (.idiv, 1) := by decide +kernel
theorem d_Mo_take_42 : decode prog_14_method_49_code 42 = .ok (.iaload, 1) := by decide +kernel
theorem d_Mo_take_43 : decode prog_14_method_49_code 43 = .ok (.aload_n 0, 1) := by decide +kernel
theorem d_Mo_take_44 : decode prog_14_method_49_code 44 = .ok (.getfield 154, 3) := by decide +kernel
theorem d_Mo_take_47 : decode prog_14_method_49_code 47 = .ok (.bipush 8, 2) := by decide +kernel
theorem d_Mo_take_49 : decode prog_14_method_49_code 49 = .ok (.irem, 1) := by decide +kernel
theorem d_Mo_take_50 : decode prog_14_method_49_code 50 = .ok (.ishr, 1) := by decide +kernel
theorem d_Mo_take_51 : decode prog_14_method_49_code 51 = .ok (.iconst 1, 1) := by decide +kernel
theorem d_Mo_take_52 : decode prog_14_method_49_code 52 = .ok (.iand, 1) := by decide +kernel
theorem d_Mo_take_53 : decode prog_14_method_49_code 53 = .ok (.iload_n 3, 1) := by decide +kernel
theorem d_Mo_take_54 : decode prog_14_method_49_code 54 = .ok (.ishl, 1) := by decide +kernel
theorem d_Mo_take_55 : decode prog_14_method_49_code 55 = .ok (.iadd, 1) := by decide +kernel
theorem d_Mo_take_56 : decode prog_14_method_49_code 56 = .ok (.istore_n 2, 1) := by decide +kernel
theorem d_Mo_take_57 : decode prog_14_method_49_code 57 = .ok (.aload_n 0, 1) := by decide +kernel
theorem d_Mo_take_58 : decode prog_14_method_49_code 58 = .ok (.dup, 1) := by decide +kernel
theorem d_Mo_take_59 : decode prog_14_method_49_code 59 = .ok (.getfield 154, 3) := by decide +kernel
theorem d_Mo_take_62 : decode prog_14_method_49_code 62 = .ok (.iconst 1, 1) := by decide +kernel
theorem d_Mo_take_63 : decode prog_14_method_49_code 63 = .ok (.iadd, 1) := by decide +kernel
theorem d_Mo_take_64 : decode prog_14_method_49_code 64 = .ok (.putfield 154, 3) := by decide +kernel
theorem d_Mo_take_67 : decode prog_14_method_49_code 67 = .ok (.iinc 3 1, 3) := by decide +kernel
theorem d_Mo_take_70 : decode prog_14_method_49_code 70 = .ok (.goto (-66), 3) := by decide +kernel
theorem d_Mo_take_73 : decode prog_14_method_49_code 73 = .ok (.iload_n 2, 1) := by decide +kernel
theorem d_Mo_take_74 : decode prog_14_method_49_code 74 = .ok (.ireturn, 1) := by decide +kernel
theorem d_Mo_pad_0 : decode prog_14_method_50_code 0 = .ok (.aload_n 0, 1) := by decide +kernel
theorem d_Mo_pad_1 : decode prog_14_method_50_code 1 = .ok (.getfield 154, 3) := by decide +kernel
theorem d_Mo_pad_4 : decode prog_14_method_50_code 4 = .ok (.bipush 8, 2) := by decide +kernel
theorem d_Mo_pad_6 : decode prog_14_method_50_code 6 = .ok (.irem, 1) := by decide +kernel
theorem d_Mo_pad_7 : decode prog_14_method_50_code 7 = .ok (.ifCond .le 31, 3) := by decide +kernel
theorem d_Mo_pad_10 : decode prog_14_method_50_code 10 = .ok (.aload_n 0, 1) := by decide +kernel
theorem d_Mo_pad_11 : decode prog_14_method_50_code 11 = .ok (.aload_n 0, 1) := by decide +kernel
theorem d_Mo_pad_12 : decode prog_14_method_50_code 12 = .ok (.iconst 1, 1) := by decide +kernel
theorem d_Mo_pad_13 : decode prog_14_method_50_code 13 = .ok (.invokevirtual 218, 3) := by decide +kernel
theorem d_Mo_pad_16 : decode prog_14_method_50_code 16 = .ok (.iconst 1, 1) := by decide +kernel
theorem d_Mo_pad_17 : decode prog_14_method_50_code 17 = .ok (.if_icmp .eq 10, 3) := by decide +kernel
theorem d_Mo_pad_20 : decode prog_14_method_50_code 20 = .ok (.aload_n 0, 1) := by decide +kernel
theorem d_Mo_pad_21 : decode prog_14_method_50_code 21 = .ok (.getfield 214, 3) := by decide +kernel
theorem d_Mo_pad_24 : decode prog_14_method_50_code 24 = .ok (.ifCond .eq 7, 3) := by decide +kernel
theorem d_Mo_pad_27 : decode prog_14_method_50_code 27 = .ok (.iconst 1, 1) := by decide +kernel
theorem d_Mo_pad_28 : decode prog_14_method_50_code 28 = .ok (.goto 4, 3) := by decide +kernel
theorem d_Mo_pad_31 : decode prog_14_method_50_code 31 = .ok (.iconst 0, 1) := by decide +kernel
theorem d_Mo_pad_32 : decode prog_14_method_50_code 32 = .ok (.putfield 214, 3) := by decide +kernel
theorem d_Mo_pad_35 : decode prog_14_method_50_code 35 = .ok (.goto (-35), 3) := by decide +kernel
theorem d_Mo_pad_38 : decode prog_14_method_50_code 38 = .ok (.return_, 1) := by decide +kernel
theorem d_Mo_readSimple_0 : decode prog_14_method_51_code 0 = .ok (.aload_n 0, 1) := by decide +kernel
theorem d_Mo_readSimple_1 : decode prog_14_method_51_code 1 = .ok (.iconst 2, 1) := by decide +kernel
theorem d_Mo_readSimple_2 : decode prog_14_method_51_code 2 = .ok (.invokevirtual 218, 3) := by decide +kernel
theorem d_Mo_readSimple_5 : decode prog_14_method_51_code 5 = .ok (.iconst 1, 1) := by decide +kernel
theorem d_Mo_readSimple_6 : decode prog_14_method_51_code 6 = .ok (.iadd, 1) := by decide +kernel
theorem d_Mo_readSimple_7 : decode prog_14_method_51_code 7 = .ok (.istore_n 3, 1) := by decide +kernel
theorem d_Mo_readSimple_8 : decode prog_14_method_51_code 8 = .ok (.iconst 0, 1) := by decide +kernel
theorem d_Mo_readSimple_9 : decode prog_14_method_51_code 9 = .ok (.istore 4, 2) := by decide +kernel
theorem d_Mo_readSimple_11 : decode prog_14_method_51_code 11 = .ok (.iload 4, 2) := by decide +kernel
theorem d_Mo_readSimple_13 : decode prog_14_method_51_code 13 = .ok (.iload_n 3, 1) := by decide +kernel
theorem d_Mo_readSimple_14 : decode prog_14_method_51_code 14 = .ok (.if_icmp .ge 81, 3) := by decide +kernel
theorem d_Mo_readSimple_17 : decode prog_14_method_51_code 17 = .ok (.aload_n 0, 1) := by decide +kernel
theorem d_Mo_readSimple_18 : decode prog_14_method_51_code 18 = .ok (.iload_n 1, 1) := by decide +kernel
theorem d_Mo_readSimple_19 : decode prog_14_method_51_code 19 = .ok (.invokestatic 172, 3) := by decide +kernel
theorem d_Mo_readSimple_22 : decode prog_14_method_51_code 22 = .ok (.invokevirtual 218, 3) := by decide +kernel
theorem d_Mo_readSimple_25 : decode prog_14_method_51_code 25 = .ok (.istore 5, 2) := by decide +kernel
theorem d_Mo_readSimple_27 : decode prog_14_method_51_code 27 = .ok (.iload 5, 2) := by decide +kernel
theorem d_Mo_readSimple_29 : decode prog_14_method_51_code 29 = .ok (.iload_n 2, 1) := by decide +kernel
theorem d_Mo_readSimple_30 : decode prog_14_method_51_code 30 = .ok (.if_icmp .ge 15, 3) := by decide +kernel
theorem d_Mo_readSimple_33 : decode prog_14_method_51_code 33 = .ok (.aload_n 0, 1) := by decide +kernel
theorem d_Mo_readSimple_34 : decode prog_14_method_51_code 34 = .ok (.getfield 22, 3) := by decide +kernel
theorem d_Mo_readSimple_37 : decode prog_14_method_51_code 37 = .ok (.iload_n 1, 1) := by decide +kernel
theorem d_Mo_readSimple_38 : decode prog_14_method_51_code 38 = .ok (.iload 5, 2) := by decide +kernel
theorem d_Mo_readSimple_40 : decode prog_14_method_51_code 40 = .ok (.iadd, 1) := by decide +kernel
theorem d_Mo_readSimple_41 : decode prog_14_method_51_code 41 = .ok (.iaload, 1) := by decide +kernel
theorem d_Mo_readSimple_42 : decode prog_14_method_51_code 42 = .ok (.ifCond .lt 9, 3) := by decide +kernel
theorem d_Mo_readSimple_45 : decode prog_14_method_51_code 45 = .ok (.aload_n 0, 1) := by decide +kernel
theorem d_Mo_readSimple_46 : decode prog_14_method_51_code 46 = .ok (.iconst 1, 1) := by decide +kernel
theorem d_Mo_readSimple_47 : decode prog_14_method_51_code 47 = .ok (.putfield 214, 3) := by decide +kernel
theorem d_Mo_readSimple_50 : decode prog_14_method_51_code 50 = .ok (.return_, 1) := by decide +kernel
theorem d_Mo_readSimple_51 : decode prog_14_method_51_code 51 = .ok (.aload_n 0, 1) := by decide +kernel
theorem d_Mo_readSimple_52 : decode prog_14_method_51_code 52 = .ok (.getfield 22, 3) := by decide +kernel
theorem d_Mo_readSimple_55 : decode prog_14_method_51_code 55 = .ok (.iload_n 1, 1) := by decide +kernel
theorem d_Mo_readSimple_56 : decode prog_14_method_51_code 56 = .ok (.iload 5, 2) := by decide +kernel
theorem d_Mo_readSimple_58 : decode prog_14_method_51_code 58 = .ok (.iadd, 1) := by decide +kernel
theorem d_Mo_readSimple_59 : decode prog_14_method_51_code 59 = .ok (.iload_n 3, 1) := by decide +kernel
theorem d_Mo_readSimple_60 : decode prog_14_method_51_code 60 = .ok (.iconst 1, 1) := by decide +kernel
theorem d_Mo_readSimple_61 : decode prog_14_method_51_code 61 = .ok (.if_icmp .ne 7, 3) := by decide +kernel
theorem d_Mo_readSimple_64 : decode prog_14_method_51_code 64 = .ok (.iconst 0, 1) := by decide +kernel
theorem d_Mo_readSimple_65 : decode prog_14_method_51_code 65 = .ok (.goto 23, 3) := by decide +kernel
theorem d_Mo_readSimple_68 : decode prog_14_method_51_code 68 = .ok (.iload_n 3, 1) := by decide +kernel
theorem d_Mo_readSimple_69 : decode prog_14_method_51_code 69 = .ok (.iconst 2, 1) := by decide +kernel
theorem d_Mo_readSimple_70 : decode prog_14_method_51_code 70 = .ok (.if_icmp .eq 13, 3) := by decide +kernel
theorem d_Mo_readSimple_73 : decode prog_14_method_51_code 73 = .ok (.iload_n 3, 1) := by decide +kernel
theorem d_Mo_readSimple_74 : decode prog_14_method_51_code 74 = .ok (.iconst 3, 1) := by decide +kernel
theorem d_Mo_readSimple_75 : decode prog_14_method_51_code 75 = .ok (.if_icmp .ne 12, 3) := by decide +kernel
theorem d_Mo_readSimple_78 : decode prog_14_method_51_code 78 = .ok (.iload 4, 2) := by decide +kernel
theorem d_Mo_readSimple_80 : decode prog_14_method_51_code 80 = .ok (.ifCond .ne 7, 3) := by decide +kernel
theorem d_Mo_readSimple_83 : decode prog_14_method_51_code 83 = .ok (.iconst 1, 1) := by decide +kernel
theorem d_Mo_readSimple_84 : decode prog_14_method_51_code 84 = .ok (.goto 4, 3) := by decide +kernel
theorem d_Mo_readSimple_87 : decode prog_14_method_51_code 87 = .ok (.iconst 2, 1) := by decide +kernel
theorem d_Mo_readSimple_88 : decode prog_14_method_51_code 88 = .ok (.iastore, 1) := by decide +kernel
theorem d_Mo_readSimple_89 : decode prog_14_method_51_code 89 = .ok (.iinc 4 1, 3) := by decide +kernel
theorem d_Mo_readSimple_92 : decode prog_14_method_51_code 92 = .ok (.goto (-81), 3) := by decide +kernel
theorem d_Mo_readSimple_95 : decode prog_14_method_51_code 95 = .ok (.return_, 1) := by decide +kernel
theorem d_Mo_readCode_0 : decode prog_14_method_52_code 0 = .ok (.iload_n 1, 1) := by decide +kernel
theorem d_Mo_readCode_1 : decode prog_14_method_52_code 1 = .ok (.invokestatic 157, 3) := by decide +kernel
theorem d_Mo_readCode_4 : decode prog_14_method_52_code 4 = .ok (.istore_n 2, 1) := by decide +kernel
theorem d_Mo_readCode_5 : decode prog_14_method_52_code 5 = .ok (.iload_n 1, 1) := by decide +kernel
theorem d_Mo_readCode_6 : decode prog_14_method_52_code 6 = .ok (.istore_n 3, 1) := by decide +kernel
theorem d_Mo_readCode_7 : decode prog_14_method_52_code 7 = .ok (.iload_n 3, 1) := by decide +kernel
theorem d_Mo_readCode_8 : decode prog_14_method_52_code 8 = .ok (.iload_n 1, 1) := by decide +kernel
theorem d_Mo_readCode_9 : decode prog_14_method_52_code 9 = .ok (.iload_n 2, 1) := by decide +kernel
theorem d_Mo_readCode_10 : decode prog_14_method_52_code 10 = .ok (.iadd, 1) := by decide +kernel
theorem d_Mo_readCode_11 : decode prog_14_method_52_code 11 = .ok (.if_icmp .ge 16, 3) := by decide +kernel
theorem d_Mo_readCode_14 : decode prog_14_method_52_code 14 = .ok (.aload_n 0, 1) := by decide +kernel
theorem d_Mo_readCode_15 : decode prog_14_method_52_code 15 = .ok (.getfield 22, 3) := by decide +kernel
theorem d_Mo_readCode_18 : decode prog_14_method_52_code 18 = .ok (.iload_n 3, 1) := by decide +kernel
theorem d_Mo_readCode_19 : decode prog_14_method_52_code 19 = .ok (.iconst (-1), 1) := by decide +kernel
theorem d_Mo_readCode_20 : decode prog_14_method_52_code 20 = .ok (.iastore, 1) := by decide +kernel
theorem d_Mo_readCode_21 : decode prog_14_method_52_code 21 = .ok (.iinc 3 1, 3) := by decide +kernel
theorem d_Mo_readCode_24 : decode prog_14_method_52_code 24 = .ok (.goto (-17), 3) := by decide +kernel
theorem d_Mo_readCode_27 : decode prog_14_method_52_code 27 = .ok (.aload_n 0, 1) := by decide +kernel
theorem d_Mo_readCode_28 : decode prog_14_method_52_code 28 = .ok (.iconst 1, 1) := by decide +kernel
theorem d_Mo_readCode_29 : decode prog_14_method_52_code 29 = .ok (.invokevirtual 218, 3) := by decide +kernel
theorem d_Mo_readCode_32 : decode prog_14_method_52_code 32 = .ok (.iconst 1, 1) := by decide +kernel
theorem d_Mo_readCode_33 : decode prog_14_method_52_code 33 = .ok (.if_icmp .ne 12, 3) := by decide +kernel
theorem d_Mo_readCode_36 : decode prog_14_method_52_code 36 = .ok (.aload_n 0, 1) := by decide +kernel
theorem d_Mo_readCode_37 : decode prog_14_method_52_code 37 = .ok (.iload_n 1, 1) := by decide +kernel
theorem d_Mo_readCode_38 : decode prog_14_method_52_code 38 = .ok (.iload_n 2, 1) := by decide +kernel
theorem d_Mo_readCode_39 : decode prog_14_method_52_code 39 = .ok (.invokevirtual 221, 3) := by decide +kernel
theorem d_Mo_readCode_42 : decode prog_14_method_52_code 42 = .ok (.goto 124, 3) := by decide +kernel
theorem d_Mo_readCode_45 : decode prog_14_method_52_code 45 = .ok (.bipush 64, 2) := by decide +kernel
theorem d_Mo_readCode_47 : decode prog_14_method_52_code 47 = .ok (.istore_n 3, 1) := by decide +kernel
theorem d_Mo_readCode_48 : decode prog_14_method_52_code 48 = .ok (.iconst 0, 1) := by decide +kernel
theorem d_Mo_readCode_49 : decode prog_14_method_52_code 49 = .ok (.istore 4, 2) := by decide +kernel
theorem d_Mo_readCode_51 : decode prog_14_method_52_code 51 = .ok (.iload_n 3, 1) := by decide +kernel
theorem d_Mo_readCode_52 : decode prog_14_method_52_code 52 = .ok (.ifCond .le 88, 3) := by decide +kernel
theorem d_Mo_readCode_55 : decode prog_14_method_52_code 55 = .ok (.iload 4, 2) := by decide +kernel
theorem d_Mo_readCode_57 : decode prog_14_method_52_code 57 = .ok (.iload_n 2, 1) := by decide +kernel
theorem d_Mo_readCode_58 : decode prog_14_method_52_code 58 = .ok (.if_icmp .ge 82, 3) := by decide +kernel
theorem d_Mo_readCode_61 : decode prog_14_method_52_code 61 = .ok (.aload_n 0, 1) := by decide +kernel
theorem d_Mo_readCode_62 : decode prog_14_method_52_code 62 = .ok (.getfield 214, 3) := by decide +kernel
theorem d_Mo_readCode_65 : decode prog_14_method_52_code 65 = .ok (.ifCond .ne 75, 3) := by decide +kernel
theorem d_Mo_readCode_68 : decode prog_14_method_52_code 68 = .ok (.aload_n 0, 1) := by decide +kernel
theorem d_Mo_readCode_69 : decode prog_14_method_52_code 69 = .ok (.iconst 3, 1) := by decide +kernel
theorem d_Mo_readCode_70 : decode prog_14_method_52_code 70 = .ok (.invokevirtual 218, 3) := by decide +kernel
theorem d_Mo_readCode_73 : decode prog_14_method_52_code 73 = .ok (.istore 5, 2) := by decide +kernel
theorem d_Mo_readCode_75 : decode prog_14_method_52_code 75 = .ok (.iload 5, 2) := by decide +kernel
theorem d_Mo_readCode_77 : decode prog_14_method_52_code 77 = .ok (.bipush 7, 2) := by decide +kernel
theorem d_Mo_readCode_79 : decode prog_14_method_52_code 79 = .ok (.if_icmp .ne 18, 3) := by decide +kernel
theorem d_Mo_readCode_82 : decode prog_14_method_52_code 82 = .ok (.iload 4, 2) := by decide +kernel
theorem d_Mo_readCode_84 : decode prog_14_method_52_code 84 = .ok (.iconst 3, 1) := by decide +kernel
theorem d_Mo_readCode_85 : decode prog_14_method_52_code 85 = .ok (.iadd, 1) := by decide +kernel
theorem d_Mo_readCode_86 : decode prog_14_method_52_code 86 = .ok (.aload_n 0, 1) := by decide +kernel
theorem d_Mo_readCode_87 : decode prog_14_method_52_code 87 = .ok (.iconst 4, 1) := by decide +kernel
theorem d_Mo_readCode_88 : decode prog_14_method_52_code 88 = .ok (.invokevirtual 218, 3) := by decide +kernel
theorem d_Mo_readCode_91 : decode prog_14_method_52_code 91 = .ok (.iadd, 1) := by decide +kernel
theorem d_Mo_readCode_92 : decode prog_14_method_52_code 92 = .ok (.istore 4, 2) := by decide +kernel
theorem d_Mo_readCode_94 : decode prog_14_method_52_code 94 = .ok (.goto 43, 3) := by decide +kernel
theorem d_Mo_readCode_97 : decode prog_14_method_52_code 97 = .ok (.aload_n 0, 1) := by decide +kernel
theorem d_Mo_readCode_98 : decode prog_14_method_52_code 98 = .ok (.getfield 22, 3) := by decide +kernel
theorem d_Mo_readCode_101 : decode prog_14_method_52_code 101 = .ok (.iload_n 1, 1) := by decide +kernel
theorem d_Mo_readCode_102 : decode prog_14_method_52_code 102 = .ok (.iload 4, 2) := by decide +kernel
theorem d_Mo_readCode_104 : decode prog_14_method_52_code 104 = .ok (.iadd, 1) := by decide +kernel
theorem d_Mo_readCode_105 : decode prog_14_method_52_code 105 = .ok (.iload 5, 2) := by decide +kernel
theorem d_Mo_readCode_107 : decode prog_14_method_52_code 107 = .ok (.ifCond .le 8, 3) := by decide +kernel
theorem d_Mo_readCode_110 : decode prog_14_method_52_code 110 = .ok (.iload 5, 2) := by decide +kernel
theorem d_Mo_readCode_112 : decode prog_14_method_52_code 112 = .ok (.goto 4, 3) := by decide +kernel
theorem d_Mo_readCode_115 : decode prog_14_method_52_code 115 = .ok (.iconst (-1), 1) := by decide +kernel
theorem d_Mo_readCode_116 : decode prog_14_method_52_code 116 = .ok (.iastore, 1) := by decide +kernel
theorem d_Mo_readCode_117 : decode prog_14_method_52_code 117 = .ok (.iload 5, 2) := by decide +kernel
theorem d_Mo_readCode_119 : decode prog_14_method_52_code 119 = .ok (.ifCond .le 13, 3) := by decide +kernel
theorem d_Mo_readCode_122 : decode prog_14_method_52_code 122 = .ok (.iload_n 3, 1) := by decide +kernel
theorem d_Mo_readCode_123 : decode prog_14_method_52_code 123 = .ok (.bipush 64, 2) := by decide +kernel
theorem d_Mo_readCode_125 : decode prog_14_method_52_code 125 = .ok (.iload 5, 2) := by decide +kernel
theorem d_Mo_readCode_127 : decode prog_14_method_52_code 127 = .ok (.ishr, 1) := by decide +kernel
theorem d_Mo_readCode_128 : decode prog_14_method_52_code 128 = .ok (.isub, 1) := by decide +kernel
theorem d_Mo_readCode_129 : decode prog_14_method_52_code 129 = .ok (.goto 4, 3) := by decide +kernel
theorem d_Mo_readCode_132 : decode prog_14_method_52_code 132 = .ok (.iload_n 3, 1) := by decide +kernel
theorem d_Mo_readCode_133 : decode prog_14_method_52_code 133 = .ok (.istore_n 3, 1) := by decide +kernel
theorem d_Mo_readCode_134 : decode prog_14_method_52_code 134 = .ok (.iinc 4 1, 3) := by decide +kernel
theorem d_Mo_readCode_137 : decode prog_14_method_52_code 137 = .ok (.goto (-86), 3) := by decide +kernel
theorem d_Mo_readCode_140 : decode prog_14_method_52_code 140 = .ok (.aload_n 0, 1) := by decide +kernel
theorem d_Mo_readCode_141 : decode prog_14_method_52_code 141 = .ok (.aload_n 0, 1) := by decide +kernel
theorem d_Mo_readCode_142 : decode prog_14_method_52_code 142 = .ok (.getfield 214, 3) := by decide +kernel
theorem d_Mo_readCode_145 : decode prog_14_method_52_code 145 = .ok (.ifCond .ne 13, 3) := by decide +kernel
theorem d_Mo_readCode_148 : decode prog_14_method_52_code 148 = .ok (.iload_n 3, 1) := by decide +kernel
theorem d_Mo_readCode_149 : decode prog_14_method_52_code 149 = .ok (.ifCond .ne 9, 3) := by decide +kernel
theorem d_Mo_readCode_152 : decode prog_14_method_52_code 152 = .ok (.iload 4, 2) := by decide +kernel
theorem d_Mo_readCode_154 : decode prog_14_method_52_code 154 = .ok (.iload_n 2, 1) := by decide +kernel
theorem d_Mo_readCode_155 : decode prog_14_method_52_code 155 = .ok (.if_icmp .le 7, 3) := by decide +kernel
theorem d_Mo_readCode_158 : decode prog_14_method_52_code 158 = .ok (.iconst 1, 1) := by decide +kernel
theorem d_Mo_readCode_159 : decode prog_14_method_52_code 159 = .ok (.goto 4, 3) := by decide +kernel
theorem d_Mo_readCode_162 : decode prog_14_method_52_code 162 = .ok (.iconst 0, 1) := by decide +kernel
theorem d_Mo_readCode_163 : decode prog_14_method_52_code 163 = .ok (.putfield 214, 3) := by decide +kernel
theorem d_Mo_readCode_166 : decode prog_14_method_52_code 166 = .ok (.aload_n 0, 1) := by decide +kernel
theorem d_Mo_readCode_167 : decode prog_14_method_52_code 167 = .ok (.iload_n 1, 1) := by decide +kernel
theorem d_Mo_readCode_168 : decode prog_14_method_52_code 168 = .ok (.iload_n 2, 1) := by decide +kernel
theorem d_Mo_readCode_169 : decode prog_14_method_52_code 169 = .ok (.invokevirtual 163, 3) := by decide +kernel
theorem d_Mo_readCode_172 : decode prog_14_method_52_code 172 = .ok (.return_, 1) := by decide +kernel
theorem d_Mo_readSymbol_0 : decode prog_14_method_53_code 0 = .ok (.iload_n 1, 1) := by decide +kernel
theorem d_Mo_readSymbol_1 : decode prog_14_method_53_code 1 = .ok (.invokestatic 157, 3) := by decide +kernel
theorem d_Mo_readSymbol_4 : decode prog_14_method_53_code 4 = .ok (.istore_n 2, 1) := by decide +kernel
theorem d_Mo_readSymbol_5 : decode prog_14_method_53_code 5 = .ok (.iconst 0, 1) := by decide +kernel
theorem d_Mo_readSymbol_6 : decode prog_14_method_53_code 6 = .ok (.istore_n 3, 1) := by decide +kernel
theorem d_Mo_readSymbol_7 : decode prog_14_method_53_code 7 = .ok (.iconst 0, 1) := by decide +kernel
theorem d_Mo_readSymbol_8 : decode prog_14_method_53_code 8 = .ok (.istore 4, 2) := by decide +kernel
theorem d_Mo_readSymbol_10 : decode prog_14_method_53_code 10 = .ok (.iload 4, 2) := by decide +kernel
theorem d_Mo_readSymbol_12 : decode prog_14_method_53_code 12 = .ok (.bipush 6, 2) := by decide +kernel
theorem d_Mo_readSymbol_14 : decode prog_14_method_53_code 14 = .ok (.if_icmp .gt 90, 3) := by decide +kernel
theorem d_Mo_readSymbol_17 : decode prog_14_method_53_code 17 = .ok (.aload_n 0, 1) := by decide +kernel
theorem d_Mo_readSymbol_18 : decode prog_14_method_53_code 18 = .ok (.getfield 214, 3) := by decide +kernel
theorem d_Mo_readSymbol_21 : decode prog_14_method_53_code 21 = .ok (.ifCond .ne 83, 3) := by decide +kernel
theorem d_Mo_readSymbol_24 : decode prog_14_method_53_code 24 = .ok (.iload 4, 2) := by decide +kernel
theorem d_Mo_readSymbol_26 : decode prog_14_method_53_code 26 = .ok (.ifCond .ne 7, 3) := by decide +kernel
theorem d_Mo_readSymbol_29 : decode prog_14_method_53_code 29 = .ok (.iconst 0, 1) := by decide +kernel
theorem d_Mo_readSymbol_30 : decode prog_14_method_53_code 30 = .ok (.goto 12, 3) := by decide +kernel
theorem d_Mo_readSymbol_33 : decode prog_14_method_53_code 33 = .ok (.iconst 2, 1) := by decide +kernel
theorem d_Mo_readSymbol_34 : decode prog_14_method_53_code 34 = .ok (.iload_n 3, 1) := by decide +kernel
theorem d_Mo_readSymbol_35 : decode prog_14_method_53_code 35 = .ok (.imul, 1) := by decide +kernel
theorem d_Mo_readSymbol_36 : decode prog_14_method_53_code 36 = .ok (.aload_n 0, 1) := by decide +kernel
theorem d_Mo_readSymbol_37 : decode prog_14_method_53_code 37 = .ok (.iconst 1, 1) := by decide +kernel
theorem d_Mo_readSymbol_38 : decode prog_14_method_53_code 38 = .ok (.invokevirtual 218, 3) := by decide +kernel
theorem d_Mo_readSymbol_41 : decode prog_14_method_53_code 41 = .ok (.iadd, 1) := by decide +kernel
theorem d_Mo_readSymbol_42 : decode prog_14_method_53_code 42 = .ok (.istore_n 3, 1) := by decide +kernel
theorem d_Mo_readSymbol_43 : decode prog_14_method_53_code 43 = .ok (.iconst 0, 1) := by decide +kernel
theorem d_Mo_readSymbol_44 : decode prog_14_method_53_code 44 = .ok (.istore 5, 2) := by decide +kernel
theorem d_Mo_readSymbol_46 : decode prog_14_method_53_code 46 = .ok (.iload 5, 2) := by decide +kernel
theorem d_Mo_readSymbol_48 : decode prog_14_method_53_code 48 = .ok (.iload_n 2, 1) := by decide +kernel
theorem d_Mo_readSymbol_49 : decode prog_14_method_53_code 49 = .ok (.if_icmp .ge 49, 3) := by decide +kernel
theorem d_Mo_readSymbol_52 : decode prog_14_method_53_code 52 = .ok (.aload_n 0, 1) := by decide +kernel
theorem d_Mo_readSymbol_53 : decode prog_14_method_53_code 53 = .ok (.getfield 22, 3) := by decide +kernel
theorem d_Mo_readSymbol_56 : decode prog_14_method_53_code 56 = .ok (.iload_n 1, 1) := by decide +kernel
theorem d_Mo_readSymbol_57 : decode prog_14_method_53_code 57 = .ok (.iload 5, 2) := by decide +kernel
theorem d_Mo_readSymbol_59 : decode prog_14_method_53_code 59 = .ok (.iadd, 1) := by decide +kernel
theorem d_Mo_readSymbol_60 : decode prog_14_method_53_code 60 = .ok (.iaload, 1) := by decide +kernel
theorem d_Mo_readSymbol_61 : decode prog_14_method_53_code 61 = .ok (.iload 4, 2) := by decide +kernel
theorem d_Mo_readSymbol_63 : decode prog_14_method_53_code 63 = .ok (.if_icmp .ne 29, 3) := by decide +kernel
theorem d_Mo_readSymbol_66 : decode prog_14_method_53_code 66 = .ok (.aload_n 0, 1) := by decide +kernel
theorem d_Mo_readSymbol_67 : decode prog_14_method_53_code 67 = .ok (.getfield 25, 3) := by decide +kernel
theorem d_Mo_readSymbol_70 : decode prog_14_method_53_code 70 = .ok (.iload_n 1, 1) := by decide +kernel
theorem d_Mo_readSymbol_71 : decode prog_14_method_53_code 71 = .ok (.iload 5, 2) := by decide +kernel
theorem d_Mo_readSymbol_73 : decode prog_14_method_53_code 73 = .ok (.iadd, 1) := by decide +kernel
theorem d_Mo_readSymbol_74 : decode prog_14_method_53_code 74 = .ok (.iaload, 1) := by decide +kernel
theorem d_Mo_readSymbol_75 : decode prog_14_method_53_code 75 = .ok (.iload_n 3, 1) := by decide +kernel
theorem d_Mo_readSymbol_76 : decode prog_14_method_53_code 76 = .ok (.if_icmp .ne 16, 3) := by decide +kernel
theorem d_Mo_readSymbol_79 : decode prog_14_method_53_code 79 = .ok (.aload_n 0, 1) := by decide +kernel
theorem d_Mo_readSymbol_80 : decode prog_14_method_53_code 80 = .ok (.dup, 1) := by decide +kernel
theorem d_Mo_readSymbol_81 : decode prog_14_method_53_code 81 = .ok (.getfield 78, 3) := by decide +kernel
theorem d_Mo_readSymbol_84 : decode prog_14_method_53_code 84 = .ok (.iconst 1, 1) := by decide +kernel
theorem d_Mo_readSymbol_85 : decode prog_14_method_53_code 85 = .ok (.iadd, 1) := by decide +kernel
theorem d_Mo_readSymbol_86 : decode prog_14_method_53_code 86 = .ok (.putfield 78, 3) := by decide +kernel
theorem d_Mo_readSymbol_89 : decode prog_14_method_53_code 89 = .ok (.iload 5, 2) := by decide +kernel
theorem d_Mo_readSymbol_91 : decode prog_14_method_53_code 91 = .ok (.ireturn, 1) := by decide +kernel
theorem d_Mo_readSymbol_92 : decode prog_14_method_53_code 92 = .ok (.iinc 5 1, 3) := by decide +kernel
theorem d_Mo_readSymbol_95 : decode prog_14_method_53_code 95 = .ok (.goto (-49), 3) := by decide +kernel
theorem d_Mo_readSymbol_98 : decode prog_14_method_53_code 98 = .ok (.iinc 4 1, 3) := by decide +kernel
theorem d_Mo_readSymbol_101 : decode prog_14_method_53_code 101 = .ok (.goto (-91), 3) := by decide +kernel
theorem d_Mo_readSymbol_104 : decode prog_14_method_53_code 104 = .ok (.aload_n 0, 1) := by decide +kernel
theorem d_Mo_readSymbol_105 : decode prog_14_method_53_code 105 = .ok (.iconst 1, 1) := by decide +kernel
theorem d_Mo_readSymbol_106 : decode prog_14_method_53_code 106 = .ok (.putfield 214, 3) := by decide +kernel
theorem d_Mo_readSymbol_109 : decode prog_14_method_53_code 109 = .ok (.iconst 0, 1) := by decide +kernel
theorem d_Mo_readSymbol_110 : decode prog_14_method_53_code 110 = .ok (.ireturn, 1) := by decide +kernel
theorem d_Mo_make_0 : decode prog_14_method_54_code 0 = .ok (.aload_n 0, 1) := by decide +kernel
theorem d_Mo_make_1 : decode prog_14_method_54_code 1 = .ok (.getfield 224, 3) := by decide +kernel
theorem d_Mo_make_4 : decode prog_14_method_54_code 4 = .ok (.bipush 96, 2) := by decide +kernel
theorem d_Mo_make_6 : decode prog_14_method_54_code 6 = .ok (.if_icmp .ge 11, 3) := by decide +kernel
theorem d_Mo_make_9 : decode prog_14_method_54_code 9 = .ok (.aload_n 0, 1) := by decide +kernel
theorem d_Mo_make_10 : decode prog_14_method_54_code 10 = .ok (.getfield 224, 3) := by decide +kernel
theorem d_Mo_make_13 : decode prog_14_method_54_code 13 = .ok (.iload_n 2, 1) := by decide +kernel
theorem d_Mo_make_14 : decode prog_14_method_54_code 14 = .ok (.if_icmp .lt 9, 3) := by decide +kernel
theorem d_Mo_make_17 : decode prog_14_method_54_code 17 = .ok (.aload_n 0, 1) := by decide +kernel
theorem d_Mo_make_18 : decode prog_14_method_54_code 18 = .ok (.iconst 1, 1) := by decide +kernel
theorem d_Mo_make_19 : decode prog_14_method_54_code 19 = .ok (.putfield 214, 3) := by decide +kernel
theorem d_Mo_make_22 : decode prog_14_method_54_code 22 = .ok (.return_, 1) := by decide +kernel
theorem d_Mo_make_23 : decode prog_14_method_54_code 23 = .ok (.aload_n 0, 1) := by decide +kernel
theorem d_Mo_make_24 : decode prog_14_method_54_code 24 = .ok (.getfield 55, 3) := by decide +kernel
theorem d_Mo_make_27 : decode prog_14_method_54_code 27 = .ok (.aload_n 0, 1) := by decide +kernel
theorem d_Mo_make_28 : decode prog_14_method_54_code 28 = .ok (.getfield 224, 3) := by decide +kernel
theorem d_Mo_make_31 : decode prog_14_method_54_code 31 = .ok (.iload_n 1, 1) := by decide +kernel
theorem d_Mo_make_32 : decode prog_14_method_54_code 32 = .ok (.iastore, 1) := by decide +kernel
theorem d_Mo_make_33 : decode prog_14_method_54_code 33 = .ok (.aload_n 0, 1) := by decide +kernel
theorem d_Mo_make_34 : decode prog_14_method_54_code 34 = .ok (.dup, 1) := by decide +kernel
theorem d_Mo_make_35 : decode prog_14_method_54_code 35 = .ok (.getfield 224, 3) := by decide +kernel
theorem d_Mo_make_38 : decode prog_14_method_54_code 38 = .ok (.iconst 1, 1) := by decide +kernel
theorem d_Mo_make_39 : decode prog_14_method_54_code 39 = .ok (.iadd, 1) := by decide +kernel
theorem d_Mo_make_40 : decode prog_14_method_54_code 40 = .ok (.putfield 224, 3) := by decide +kernel
theorem d_Mo_make_43 : decode prog_14_method_54_code 43 = .ok (.return_, 1) := by decide +kernel
theorem d_Mo_readDistance_0 : decode prog_14_method_55_code 0 = .ok (.iload_n 1, 1) := by decide +kernel
theorem d_Mo_readDistance_1 : decode prog_14_method_55_code 1 = .ok (.iconst 4, 1) := by decide +kernel
theorem d_Mo_readDistance_2 : decode prog_14_method_55_code 2 = .ok (.if_icmp .ge 10, 3) := by decide +kernel
theorem d_Mo_readDistance_5 : decode prog_14_method_55_code 5 = .ok (.aload_n 0, 1) := by decide +kernel
theorem d_Mo_readDistance_6 : decode prog_14_method_55_code 6 = .ok (.getfield 28, 3) := by decide +kernel
theorem d_Mo_readDistance_9 : decode prog_14_method_55_code 9 = .ok (.iload_n 1, 1) := by decide +kernel
theorem d_Mo_readDistance_10 : decode prog_14_method_55_code 10 = .ok (.iaload, 1) := by decide +kernel
theorem d_Mo_readDistance_11 : decode prog_14_method_55_code 11 = .ok (.ireturn, 1) := by decide +kernel
theorem d_Mo_readDistance_12 : decode prog_14_method_55_code 12 = .ok (.iload_n 1, 1) := by decide +kernel
theorem d_Mo_readDistance_13 : decode prog_14_method_55_code 13 = .ok (.iconst 4, 1) := by decide +kernel
theorem d_Mo_readDistance_14 : decode prog_14_method_55_code 14 = .ok (.if_icmp .ne 14, 3) := by decide +kernel
theorem d_Mo_readDistance_17 : decode prog_14_method_55_code 17 = .ok (.aload_n 0, 1) := by decide +kernel
theorem d_Mo_readDistance_18 : decode prog_14_method_55_code 18 = .ok (.getfield 28, 3) := by decide +kernel
theorem d_Mo_readDistance_21 : decode prog_14_method_55_code 21 = .ok (.iconst 0, 1) := by decide +kernel
theorem d_Mo_readDistance_22 : decode prog_14_method_55_code 22 = .ok (.iaload, 1) := by decide +kernel
theorem d_Mo_readDistance_23 : decode prog_14_method_55_code 23 = .ok (.iconst 1, 1) := by decide +kernel
theorem d_Mo_readDistance_24 : decode prog_14_method_55_code 24 = .ok (.isub, 1) := by decide +kernel
theorem d_Mo_readDistance_25 : decode prog_14_method_55_code 25 = .ok (.goto 32, 3) := by decide +kernel
theorem d_Mo_readDistance_28 : decode prog_14_method_55_code 28 = .ok (.iload_n 1, 1) := by decide +kernel
theorem d_Mo_readDistance_29 : decode prog_14_method_55_code 29 = .ok (.iconst 5, 1) := by decide +kernel
theorem d_Mo_readDistance_30 : decode prog_14_method_55_code 30 = .ok (.if_icmp .ne 14, 3) := by decide +kernel
theorem d_Mo_readDistance_33 : decode prog_14_method_55_code 33 = .ok (.aload_n 0, 1) := by decide +kernel
theorem d_Mo_readDistance_34 : decode prog_14_method_55_code 34 = .ok (.getfield 28, 3) := by decide +kernel
theorem d_Mo_readDistance_37 : decode prog_14_method_55_code 37 = .ok (.iconst 0, 1) := by decide +kernel
theorem d_Mo_readDistance_38 : decode prog_14_method_55_code 38 = .ok (.iaload, 1) := by decide +kernel
theorem d_Mo_readDistance_39 : decode prog_14_method_55_code 39 = .ok (.iconst 1, 1) := by decide +kernel
theorem d_Mo_readDistance_40 : decode prog_14_method_55_code 40 = .ok (.iadd, 1) := by decide +kernel
theorem d_Mo_readDistance_41 : decode prog_14_method_55_code 41 = .ok (.goto 16, 3) := by decide +kernel
theorem d_Mo_readDistance_44 : decode prog_14_method_55_code 44 = .ok (.iload_n 1, 1) := by decide +kernel
theorem d_Mo_readDistance_45 : decode prog_14_method_55_code 45 = .ok (.invokestatic 127, 3) := by decide +kernel
theorem d_Mo_readDistance_48 : decode prog_14_method_55_code 48 = .ok (.aload_n 0, 1) := by decide +kernel
theorem d_Mo_readDistance_49 : decode prog_14_method_55_code 49 = .ok (.iload_n 1, 1) := by decide +kernel
theorem d_Mo_readDistance_50 : decode prog_14_method_55_code 50 = .ok (.invokestatic 186, 3) := by decide +kernel
theorem d_Mo_readDistance_53 : decode prog_14_method_55_code 53 = .ok (.invokevirtual 218, 3) := by decide +kernel
theorem d_Mo_readDistance_56 : decode prog_14_method_55_code 56 = .ok (.iadd, 1) := by decide +kernel
theorem d_Mo_readDistance_57 : decode prog_14_method_55_code 57 = .ok (.ireturn, 1) := by decide +kernel
theorem d_Mo_copy_0 : decode prog_14_method_56_code 0 = .ok (.iload_n 1, 1) := by decide +kernel
theorem d_Mo_copy_1 : decode prog_14_method_56_code 1 = .ok (.bipush 7, 2) := by decide +kernel
theorem d_Mo_copy_3 : decode prog_14_method_56_code 3 = .ok (.if_icmp .ne 7, 3) := by decide +kernel
theorem d_Mo_copy_6 : decode prog_14_method_56_code 6 = .ok (.iconst 0, 1) := by decide +kernel
theorem d_Mo_copy_7 : decode prog_14_method_56_code 7 = .ok (.goto 10, 3) := by decide +kernel
theorem d_Mo_copy_10 : decode prog_14_method_56_code 10 = .ok (.aload_n 0, 1) := by decide +kernel
theorem d_Mo_copy_11 : decode prog_14_method_56_code 11 = .ok (.sipush 768, 3) := by decide +kernel
theorem d_Mo_copy_14 : decode prog_14_method_56_code 14 = .ok (.invokevirtual 227, 3) := by decide +kernel
theorem d_Mo_copy_17 : decode prog_14_method_56_code 17 = .ok (.istore 4, 2) := by decide +kernel
theorem d_Mo_copy_19 : decode prog_14_method_56_code 19 = .ok (.aload_n 0, 1) := by decide +kernel
theorem d_Mo_copy_20 : decode prog_14_method_56_code 20 = .ok (.iload 4, 2) := by decide +kernel
theorem d_Mo_copy_22 : decode prog_14_method_56_code 22 = .ok (.invokevirtual 230, 3) := by decide +kernel
theorem d_Mo_copy_25 : decode prog_14_method_56_code 25 = .ok (.istore 5, 2) := by decide +kernel
theorem d_Mo_copy_27 : decode prog_14_method_56_code 27 = .ok (.aload_n 0, 1) := by decide +kernel
theorem d_Mo_copy_28 : decode prog_14_method_56_code 28 = .ok (.getfield 214, 3) := by decide +kernel
theorem d_Mo_copy_31 : decode prog_14_method_56_code 31 = .ok (.ifCond .ne 9, 3) := by decide +kernel
theorem d_Mo_copy_34 : decode prog_14_method_56_code 34 = .ok (.iload 5, 2) := by decide +kernel
theorem d_Mo_copy_36 : decode prog_14_method_56_code 36 = .ok (.iconst 1, 1) := by decide +kernel
theorem d_Mo_copy_37 : decode prog_14_method_56_code 37 = .ok (.if_icmp .ge 9, 3) := by decide +kernel
theorem d_Mo_copy_40 : decode prog_14_method_56_code 40 = .ok (.aload_n 0, 1) := by decide +kernel
theorem d_Mo_copy_41 : decode prog_14_method_56_code 41 = .ok (.iconst 1, 1) := by decide +kernel
theorem d_Mo_copy_42 : decode prog_14_method_56_code 42 = .ok (.putfield 214, 3) := by decide +kernel
theorem d_Mo_copy_45 : decode prog_14_method_56_code 45 = .ok (.return_, 1) := by decide +kernel
theorem d_Mo_copy_46 : decode prog_14_method_56_code 46 = .ok (.iload 5, 2) := by decide +kernel
theorem d_Mo_copy_48 : decode prog_14_method_56_code 48 = .ok (.aload_n 0, 1) := by decide +kernel
theorem d_Mo_copy_49 : decode prog_14_method_56_code 49 = .ok (.getfield 224, 3) := by decide +kernel
theorem d_Mo_copy_52 : decode prog_14_method_56_code 52 = .ok (.if_icmp .gt 64, 3) := by decide +kernel
theorem d_Mo_copy_55 : decode prog_14_method_56_code 55 = .ok (.iconst 0, 1) := by decide +kernel
theorem d_Mo_copy_56 : decode prog_14_method_56_code 56 = .ok (.istore 6, 2) := by decide +kernel
theorem d_Mo_copy_58 : decode prog_14_method_56_code 58 = .ok (.iload 6, 2) := by decide +kernel
theorem d_Mo_copy_60 : decode prog_14_method_56_code 60 = .ok (.iload_n 2, 1) := by decide +kernel
theorem d_Mo_copy_61 : decode prog_14_method_56_code 61 = .ok (.if_icmp .ge 33, 3) := by decide +kernel
theorem d_Mo_copy_64 : decode prog_14_method_56_code 64 = .ok (.aload_n 0, 1) := by decide +kernel
theorem d_Mo_copy_65 : decode prog_14_method_56_code 65 = .ok (.getfield 214, 3) := by decide +kernel
theorem d_Mo_copy_68 : decode prog_14_method_56_code 68 = .ok (.ifCond .ne 26, 3) := by decide +kernel
theorem d_Mo_copy_71 : decode prog_14_method_56_code 71 = .ok (.aload_n 0, 1) := by decide +kernel
theorem d_Mo_copy_72 : decode prog_14_method_56_code 72 = .ok (.aload_n 0, 1) := by decide +kernel
theorem d_Mo_copy_73 : decode prog_14_method_56_code 73 = .ok (.getfield 55, 3) := by decide +kernel
theorem d_Mo_copy_76 : decode prog_14_method_56_code 76 = .ok (.aload_n 0, 1) := by decide +kernel
theorem d_Mo_copy_77 : decode prog_14_method_56_code 77 = .ok (.getfield 224, 3) := by decide +kernel
theorem d_Mo_copy_80 : decode prog_14_method_56_code 80 = .ok (.iload 5, 2) := by decide +kernel
theorem d_Mo_copy_82 : decode prog_14_method_56_code 82 = .ok (.isub, 1) := by decide +kernel
theorem d_Mo_copy_83 : decode prog_14_method_56_code 83 = .ok (.iaload, 1) := by decide +kernel
theorem d_Mo_copy_84 : decode prog_14_method_56_code 84 = .ok (.iload_n 3, 1) := by decide +kernel
theorem d_Mo_copy_85 : decode prog_14_method_56_code 85 = .ok (.invokevirtual 233, 3) := by decide +kernel
theorem d_Mo_copy_88 : decode prog_14_method_56_code 88 = .ok (.iinc 6 1, 3) := by decide +kernel
theorem d_Mo_copy_91 : decode prog_14_method_56_code 91 = .ok (.goto (-33), 3) := by decide +kernel
theorem d_Mo_copy_94 : decode prog_14_method_56_code 94 = .ok (.aload_n 0, 1) := by decide +kernel
theorem d_Mo_copy_95 : decode prog_14_method_56_code 95 = .ok (.dup, 1) := by decide +kernel
theorem d_Mo_copy_96 : decode prog_14_method_56_code 96 = .ok (.getfield 72, 3) := by decide +kernel
theorem d_Mo_copy_99 : decode prog_14_method_56_code 99 = .ok (.iconst 1, 1) := by decide +kernel
theorem d_Mo_copy_100 : decode prog_14_method_56_code 100 = .ok (.iadd, 1) := by decide +kernel
theorem d_Mo_copy_101 : decode prog_14_method_56_code 101 = .ok (.putfield 72, 3) := by decide +kernel
theorem d_Mo_copy_104 : decode prog_14_method_56_code 104 = .ok (.iload 4, 2) := by decide +kernel
theorem d_Mo_copy_106 : decode prog_14_method_56_code 106 = .ok (.ifCond .eq 9, 3) := by decide +kernel
theorem d_Mo_copy_109 : decode prog_14_method_56_code 109 = .ok (.aload_n 0, 1) := by decide +kernel
theorem d_Mo_copy_110 : decode prog_14_method_56_code 110 = .ok (.iload 5, 2) := by decide +kernel
theorem d_Mo_copy_112 : decode prog_14_method_56_code 112 = .ok (.invokevirtual 135, 3) := by decide +kernel
theorem d_Mo_copy_115 : decode prog_14_method_56_code 115 = .ok (.return_, 1) := by decide +kernel
theorem d_Mo_copy_116 : decode prog_14_method_56_code 116 = .ok (.iload 5, 2) := by decide +kernel
theorem d_Mo_copy_118 : decode prog_14_method_56_code 118 = .ok (.aload_n 0, 1) := by decide +kernel
theorem d_Mo_copy_119 : decode prog_14_method_56_code 119 = .ok (.getfield 224, 3) := by decide +kernel
theorem d_Mo_copy_122 : decode prog_14_method_56_code 122 = .ok (.isub, 1) := by decide +kernel
theorem d_Mo_copy_123 : decode prog_14_method_56_code 123 = .ok (.iconst 1, 1) := by decide +kernel
theorem d_Mo_copy_124 : decode prog_14_method_56_code 124 = .ok (.isub, 1) := by decide +kernel
theorem d_Mo_copy_125 : decode prog_14_method_56_code 125 = .ok (.istore 6, 2) := by decide +kernel
theorem d_Mo_copy_127 : decode prog_14_method_56_code 127 = .ok (.iload_n 2, 1) := by decide +kernel
theorem d_Mo_copy_128 : decode prog_14_method_56_code 128 = .ok (.iconst 4, 1) := by decide +kernel
theorem d_Mo_copy_129 : decode prog_14_method_56_code 129 = .ok (.if_icmp .eq 8, 3) := by decide +kernel
theorem d_Mo_copy_132 : decode prog_14_method_56_code 132 = .ok (.iload_n 2, 1) := by decide +kernel
theorem d_Mo_copy_133 : decode prog_14_method_56_code 133 = .ok (.iconst 5, 1) := by decide +kernel
theorem d_Mo_copy_134 : decode prog_14_method_56_code 134 = .ok (.if_icmp .ne 10, 3) := by decide +kernel
theorem d_Mo_copy_137 : decode prog_14_method_56_code 137 = .ok (.iload 6, 2) := by decide +kernel
theorem d_Mo_copy_139 : decode prog_14_method_56_code 139 = .ok (.bipush 15, 2) := by decide +kernel
theorem d_Mo_copy_141 : decode prog_14_method_56_code 141 = .ok (.if_icmp .le 9, 3) := by decide +kernel
theorem d_Mo_copy_144 : decode prog_14_method_56_code 144 = .ok (.aload_n 0, 1) := by decide +kernel
theorem d_Mo_copy_145 : decode prog_14_method_56_code 145 = .ok (.iconst 1, 1) := by decide +kernel
theorem d_Mo_copy_146 : decode prog_14_method_56_code 146 = .ok (.putfield 214, 3) := by decide +kernel
theorem d_Mo_copy_149 : decode prog_14_method_56_code 149 = .ok (.return_, 1) := by decide +kernel
theorem d_Mo_copy_150 : decode prog_14_method_56_code 150 = .ok (.iconst 0, 1) := by decide +kernel
theorem d_Mo_copy_151 : decode prog_14_method_56_code 151 = .ok (.istore 7, 2) := by decide +kernel
theorem d_Mo_copy_153 : decode prog_14_method_56_code 153 = .ok (.iload 7, 2) := by decide +kernel
theorem d_Mo_copy_155 : decode prog_14_method_56_code 155 = .ok (.iload_n 2, 1) := by decide +kernel
theorem d_Mo_copy_156 : decode prog_14_method_56_code 156 = .ok (.iload 6, 2) := by decide +kernel
theorem d_Mo_copy_158 : decode prog_14_method_56_code 158 = .ok (.invokestatic 104, 3) := by decide +kernel
theorem d_Mo_copy_161 : decode prog_14_method_56_code 161 = .ok (.if_icmp .ge 33, 3) := by decide +kernel
theorem d_Mo_copy_164 : decode prog_14_method_56_code 164 = .ok (.aload_n 0, 1) := by decide +kernel
theorem d_Mo_copy_165 : decode prog_14_method_56_code 165 = .ok (.getfield 214, 3) := by decide +kernel
theorem d_Mo_copy_168 : decode prog_14_method_56_code 168 = .ok (.ifCond .ne 26, 3) := by decide +kernel
theorem d_Mo_copy_171 : decode prog_14_method_56_code 171 = .ok (.iload_n 2, 1) := by decide +kernel
theorem d_Mo_copy_172 : decode prog_14_method_56_code 172 = .ok (.iload 6, 2) := by decide +kernel
theorem d_Mo_copy_174 : decode prog_14_method_56_code 174 = .ok (.iload 7, 2) := by decide +kernel
theorem d_Mo_copy_176 : decode prog_14_method_56_code 176 = .ok (.invokestatic 108, 3) := by decide +kernel
theorem d_Mo_copy_179 : decode prog_14_method_56_code 179 = .ok (.istore 8, 2) := by decide +kernel
theorem d_Mo_copy_181 : decode prog_14_method_56_code 181 = .ok (.aload_n 0, 1) := by decide +kernel
theorem d_Mo_copy_182 : decode prog_14_method_56_code 182 = .ok (.iload 8, 2) := by decide +kernel
theorem d_Mo_copy_184 : decode prog_14_method_56_code 184 = .ok (.iload_n 3, 1) := by decide +kernel
theorem d_Mo_copy_185 : decode prog_14_method_56_code 185 = .ok (.invokevirtual 233, 3) := by decide +kernel
theorem d_Mo_copy_188 : decode prog_14_method_56_code 188 = .ok (.iinc 7 1, 3) := by decide +kernel
theorem d_Mo_copy_191 : decode prog_14_method_56_code 191 = .ok (.goto (-38), 3) := by decide +kernel
theorem d_Mo_copy_194 : decode prog_14_method_56_code 194 = .ok (.aload_n 0, 1) := by decide +kernel
theorem d_Mo_copy_195 : decode prog_14_method_56_code 195 = .ok (.dup, 1) := by decide +kernel
theorem d_Mo_copy_196 : decode prog_14_method_56_code 196 = .ok (.getfield 75, 3) := by decide +kernel
theorem d_Mo_copy_199 : decode prog_14_method_56_code 199 = .ok (.iconst 1, 1) := by decide +kernel
theorem d_Mo_copy_200 : decode prog_14_method_56_code 200 = .ok (.iadd, 1) := by decide +kernel
theorem d_Mo_copy_201 : decode prog_14_method_56_code 201 = .ok (.putfield 75, 3) := by decide +kernel
theorem d_Mo_copy_204 : decode prog_14_method_56_code 204 = .ok (.return_, 1) := by decide +kernel
theorem d_Mo_readCoded_0 : decode prog_14_method_57_code 0 = .ok (.aload_n 0, 1) := by decide +kernel
theorem d_Mo_readCoded_1 : decode prog_14_method_57_code 1 = .ok (.iconst 1, 1) := by decide +kernel
theorem d_Mo_readCoded_2 : decode prog_14_method_57_code 2 = .ok (.invokevirtual 218, 3) := by decide +kernel
theorem d_Mo_readCoded_5 : decode prog_14_method_57_code 5 = .ok (.iconst 1, 1) := by decide +kernel
theorem d_Mo_readCoded_6 : decode prog_14_method_57_code 6 = .ok (.if_icmp .ne 7, 3) := by decide +kernel
theorem d_Mo_readCoded_9 : decode prog_14_method_57_code 9 = .ok (.iconst 1, 1) := by decide +kernel
theorem d_Mo_readCoded_10 : decode prog_14_method_57_code 10 = .ok (.goto 4, 3) := by decide +kernel
theorem d_Mo_readCoded_13 : decode prog_14_method_57_code 13 = .ok (.iconst 0, 1) := by decide +kernel
theorem d_Mo_readCoded_14 : decode prog_14_method_57_code 14 = .ok (.istore_n 2, 1) := by decide +kernel
theorem d_Mo_readCoded_15 : decode prog_14_method_57_code 15 = .ok (.aload_n 0, 1) := by decide +kernel
theorem d_Mo_readCoded_16 : decode prog_14_method_57_code 16 = .ok (.iconst 0, 1) := by decide +kernel
theorem d_Mo_readCoded_17 : decode prog_14_method_57_code 17 = .ok (.invokevirtual 236, 3) := by decide +kernel
theorem d_Mo_readCoded_20 : decode prog_14_method_57_code 20 = .ok (.iload_n 2, 1) := by decide +kernel
theorem d_Mo_readCoded_21 : decode prog_14_method_57_code 21 = .ok (.ifCond .eq 10, 3) := by decide +kernel
theorem d_Mo_readCoded_24 : decode prog_14_method_57_code 24 = .ok (.aload_n 0, 1) := by decide +kernel
theorem d_Mo_readCoded_25 : decode prog_14_method_57_code 25 = .ok (.sipush 256, 3) := by decide +kernel
theorem d_Mo_readCoded_28 : decode prog_14_method_57_code 28 = .ok (.invokevirtual 236, 3) := by decide +kernel
theorem d_Mo_readCoded_31 : decode prog_14_method_57_code 31 = .ok (.aload_n 0, 1) := by decide +kernel
theorem d_Mo_readCoded_32 : decode prog_14_method_57_code 32 = .ok (.sipush 512, 3) := by decide +kernel
theorem d_Mo_readCoded_35 : decode prog_14_method_57_code 35 = .ok (.invokevirtual 236, 3) := by decide +kernel
theorem d_Mo_readCoded_38 : decode prog_14_method_57_code 38 = .ok (.aload_n 0, 1) := by decide +kernel
theorem d_Mo_readCoded_39 : decode prog_14_method_57_code 39 = .ok (.sipush 768, 3) := by decide +kernel
theorem d_Mo_readCoded_42 : decode prog_14_method_57_code 42 = .ok (.invokevirtual 236, 3) := by decide +kernel
theorem d_Mo_readCoded_45 : decode prog_14_method_57_code 45 = .ok (.aload_n 0, 1) := by decide +kernel
theorem d_Mo_readCoded_46 : decode prog_14_method_57_code 46 = .ok (.dup, 1) := by decide +kernel
theorem d_Mo_readCoded_47 : decode prog_14_method_57_code 47 = .ok (.getfield 69, 3) := by decide +kernel
theorem d_Mo_readCoded_50 : decode prog_14_method_57_code 50 = .ok (.iconst 1, 1) := by decide +kernel
theorem d_Mo_readCoded_51 : decode prog_14_method_57_code 51 = .ok (.iadd, 1) := by decide +kernel
theorem d_Mo_readCoded_52 : decode prog_14_method_57_code 52 = .ok (.putfield 69, 3) := by decide +kernel
theorem d_Mo_readCoded_55 : decode prog_14_method_57_code 55 = .ok (.aload_n 0, 1) := by decide +kernel
theorem d_Mo_readCoded_56 : decode prog_14_method_57_code 56 = .ok (.getfield 214, 3) := by decide +kernel
theorem d_Mo_readCoded_59 : decode prog_14_method_57_code 59 = .ok (.ifCond .ne 211, 3) := by decide +kernel
theorem d_Mo_readCoded_62 : decode prog_14_method_57_code 62 = .ok (.aload_n 0, 1) := by decide +kernel
theorem d_Mo_readCoded_63 : decode prog_14_method_57_code 63 = .ok (.getfield 224, 3) := by decide +kernel
theorem d_Mo_readCoded_66 : decode prog_14_method_57_code 66 = .ok (.iload_n 1, 1) := by decide +kernel
theorem d_Mo_readCoded_67 : decode prog_14_method_57_code 67 = .ok (.if_icmp .ge 203, 3) := by decide +kernel
theorem d_Mo_readCoded_70 : decode prog_14_method_57_code 70 = .ok (.aload_n 0, 1) := by decide +kernel
theorem d_Mo_readCoded_71 : decode prog_14_method_57_code 71 = .ok (.sipush 512, 3) := by decide +kernel
theorem d_Mo_readCoded_74 : decode prog_14_method_57_code 74 = .ok (.invokevirtual 227, 3) := by decide +kernel
theorem d_Mo_readCoded_77 : decode prog_14_method_57_code 77 = .ok (.istore_n 3, 1) := by decide +kernel
theorem d_Mo_readCoded_78 : decode prog_14_method_57_code 78 = .ok (.iload_n 3, 1) := by decide +kernel
theorem d_Mo_readCoded_79 : decode prog_14_method_57_code 79 = .ok (.bipush 8, 2) := by decide +kernel
theorem d_Mo_readCoded_81 : decode prog_14_method_57_code 81 = .ok (.idiv, 1) := by decide +kernel
theorem d_Mo_readCoded_82 : decode prog_14_method_57_code 82 = .ok (.istore 4, 2) := by decide +kernel
theorem d_Mo_readCoded_84 : decode prog_14_method_57_code 84 = .ok (.iload_n 3, 1) := by decide +kernel
theorem d_Mo_readCoded_85 : decode prog_14_method_57_code 85 = .ok (.bipush 8, 2) := by decide +kernel
theorem d_Mo_readCoded_87 : decode prog_14_method_57_code 87 = .ok (.irem, 1) := by decide +kernel
theorem d_Mo_readCoded_88 : decode prog_14_method_57_code 88 = .ok (.istore 5, 2) := by decide +kernel
theorem d_Mo_readCoded_90 : decode prog_14_method_57_code 90 = .ok (.iload 4, 2) := by decide +kernel
theorem d_Mo_readCoded_92 : decode prog_14_method_57_code 92 = .ok (.iconst 2, 1) := by decide +kernel
theorem d_Mo_readCoded_93 : decode prog_14_method_57_code 93 = .ok (.if_icmp .ge 8, 3) := by decide +kernel
theorem d_Mo_readCoded_96 : decode prog_14_method_57_code 96 = .ok (.iload 4, 2) := by decide +kernel
theorem d_Mo_readCoded_98 : decode prog_14_method_57_code 98 = .ok (.goto 28, 3) := by decide +kernel
theorem d_Mo_readCoded_101 : decode prog_14_method_57_code 101 = .ok (.iload 4, 2) := by decide +kernel
theorem d_Mo_readCoded_103 : decode prog_14_method_57_code 103 = .ok (.iconst 2, 1) := by decide +kernel
theorem d_Mo_readCoded_104 : decode prog_14_method_57_code 104 = .ok (.if_icmp .ne 13, 3) := by decide +kernel
theorem d_Mo_readCoded_107 : decode prog_14_method_57_code 107 = .ok (.iconst 2, 1) := by decide +kernel
theorem d_Mo_readCoded_108 : decode prog_14_method_57_code 108 = .ok (.aload_n 0, 1) := by decide +kernel
theorem d_Mo_readCoded_109 : decode prog_14_method_57_code 109 = .ok (.iconst 2, 1) := by decide +kernel
theorem d_Mo_readCoded_110 : decode prog_14_method_57_code 110 = .ok (.invokevirtual 218, 3) := by decide +kernel
theorem d_Mo_readCoded_113 : decode prog_14_method_57_code 113 = .ok (.iadd, 1) := by decide +kernel
theorem d_Mo_readCoded_114 : decode prog_14_method_57_code 114 = .ok (.goto 12, 3) := by decide +kernel
theorem d_Mo_readCoded_117 : decode prog_14_method_57_code 117 = .ok (.bipush 6, 2) := by decide +kernel
theorem d_Mo_readCoded_119 : decode prog_14_method_57_code 119 = .ok (.aload_n 0, 1) := by decide +kernel
theorem d_Mo_readCoded_120 : decode prog_14_method_57_code 120 = .ok (.bipush 6, 2) := by decide +kernel
theorem d_Mo_readCoded_122 : decode prog_14_method_57_code 122 = .ok (.invokevirtual 218, 3) := by decide +kernel
theorem d_Mo_readCoded_125 : decode prog_14_method_57_code 125 = .ok (.iadd, 1) := by decide +kernel
theorem d_Mo_readCoded_126 : decode prog_14_method_57_code 126 = .ok (.istore 6, 2) := by decide +kernel
theorem d_Mo_readCoded_128 : decode prog_14_method_57_code 128 = .ok (.iload 5, 2) := by decide +kernel
theorem d_Mo_readCoded_130 : decode prog_14_method_57_code 130 = .ok (.invokestatic 180, 3) := by decide +kernel
theorem d_Mo_readCoded_133 : decode prog_14_method_57_code 133 = .ok (.aload_n 0, 1) := by decide +kernel
theorem d_Mo_readCoded_134 : decode prog_14_method_57_code 134 = .ok (.iload 5, 2) := by decide +kernel
theorem d_Mo_readCoded_136 : decode prog_14_method_57_code 136 = .ok (.invokestatic 183, 3) := by decide +kernel
theorem d_Mo_readCoded_139 : decode prog_14_method_57_code 139 = .ok (.invokevirtual 218, 3) := by decide +kernel
theorem d_Mo_readCoded_142 : decode prog_14_method_57_code 142 = .ok (.iadd, 1) := by decide +kernel
theorem d_Mo_readCoded_143 : decode prog_14_method_57_code 143 = .ok (.istore 7, 2) := by decide +kernel
theorem d_Mo_readCoded_145 : decode prog_14_method_57_code 145 = .ok (.iconst 0, 1) := by decide +kernel
theorem d_Mo_readCoded_146 : decode prog_14_method_57_code 146 = .ok (.istore 8, 2) := by decide +kernel
theorem d_Mo_readCoded_148 : decode prog_14_method_57_code 148 = .ok (.iload 8, 2) := by decide +kernel
theorem d_Mo_readCoded_150 : decode prog_14_method_57_code 150 = .ok (.iload 6, 2) := by decide +kernel
theorem d_Mo_readCoded_152 : decode prog_14_method_57_code 152 = .ok (.if_icmp .ge 91, 3) := by decide +kernel
theorem d_Mo_readCoded_155 : decode prog_14_method_57_code 155 = .ok (.aload_n 0, 1) := by decide +kernel
theorem d_Mo_readCoded_156 : decode prog_14_method_57_code 156 = .ok (.getfield 214, 3) := by decide +kernel
theorem d_Mo_readCoded_159 : decode prog_14_method_57_code 159 = .ok (.ifCond .ne 84, 3) := by decide +kernel
theorem d_Mo_readCoded_162 : decode prog_14_method_57_code 162 = .ok (.iload_n 2, 1) := by decide +kernel
theorem d_Mo_readCoded_163 : decode prog_14_method_57_code 163 = .ok (.ifCond .eq 46, 3) := by decide +kernel
theorem d_Mo_readCoded_166 : decode prog_14_method_57_code 166 = .ok (.aload_n 0, 1) := by decide +kernel
theorem d_Mo_readCoded_167 : decode prog_14_method_57_code 167 = .ok (.getfield 224, 3) := by decide +kernel
theorem d_Mo_readCoded_170 : decode prog_14_method_57_code 170 = .ok (.ifCond .le 39, 3) := by decide +kernel
theorem d_Mo_readCoded_173 : decode prog_14_method_57_code 173 = .ok (.aload_n 0, 1) := by decide +kernel
theorem d_Mo_readCoded_174 : decode prog_14_method_57_code 174 = .ok (.getfield 55, 3) := by decide +kernel
theorem d_Mo_readCoded_177 : decode prog_14_method_57_code 177 = .ok (.aload_n 0, 1) := by decide +kernel
theorem d_Mo_readCoded_178 : decode prog_14_method_57_code 178 = .ok (.getfield 224, 3) := by decide +kernel
theorem d_Mo_readCoded_181 : decode prog_14_method_57_code 181 = .ok (.iconst 1, 1) := by decide +kernel
theorem d_Mo_readCoded_182 : decode prog_14_method_57_code 182 = .ok (.isub, 1) := by decide +kernel
theorem d_Mo_readCoded_183 : decode prog_14_method_57_code 183 = .ok (.iaload, 1) := by decide +kernel
theorem d_Mo_readCoded_184 : decode prog_14_method_57_code 184 = .ok (.bipush 97, 2) := by decide +kernel
theorem d_Mo_readCoded_186 : decode prog_14_method_57_code 186 = .ok (.if_icmp .lt 23, 3) := by decide +kernel
theorem d_Mo_readCoded_189 : decode prog_14_method_57_code 189 = .ok (.aload_n 0, 1) := by decide +kernel
theorem d_Mo_readCoded_190 : decode prog_14_method_57_code 190 = .ok (.getfield 55, 3) := by decide +kernel
theorem d_Mo_readCoded_193 : decode prog_14_method_57_code 193 = .ok (.aload_n 0, 1) := by decide +kernel
theorem d_Mo_readCoded_194 : decode prog_14_method_57_code 194 = .ok (.getfield 224, 3) := by decide +kernel
theorem d_Mo_readCoded_197 : decode prog_14_method_57_code 197 = .ok (.iconst 1, 1) := by decide +kernel
theorem d_Mo_readCoded_198 : decode prog_14_method_57_code 198 = .ok (.isub, 1) := by decide +kernel
theorem d_Mo_readCoded_199 : decode prog_14_method_57_code 199 = .ok (.iaload, 1) := by decide +kernel
theorem d_Mo_readCoded_200 : decode prog_14_method_57_code 200 = .ok (.bipush 122, 2) := by decide +kernel
theorem d_Mo_readCoded_202 : decode prog_14_method_57_code 202 = .ok (.if_icmp .gt 7, 3) := by decide +kernel
theorem d_Mo_readCoded_205 : decode prog_14_method_57_code 205 = .ok (.iconst 1, 1) := by decide +kernel
theorem d_Mo_readCoded_206 : decode prog_14_method_57_code 206 = .ok (.goto 4, 3) := by decide +kernel
theorem d_Mo_readCoded_209 : decode prog_14_method_57_code 209 = .ok (.iconst 0, 1) := by decide +kernel
theorem d_Mo_readCoded_210 : decode prog_14_method_57_code 210 = .ok (.istore 9, 2) := by decide +kernel
theorem d_Mo_readCoded_212 : decode prog_14_method_57_code 212 = .ok (.aload_n 0, 1) := by decide +kernel
theorem d_Mo_readCoded_213 : decode prog_14_method_57_code 213 = .ok (.iload 9, 2) := by decide +kernel
theorem d_Mo_readCoded_215 : decode prog_14_method_57_code 215 = .ok (.ifCond .eq 9, 3) := by decide +kernel
theorem d_Mo_readCoded_218 : decode prog_14_method_57_code 218 = .ok (.sipush 256, 3) := by decide +kernel
theorem d_Mo_readCoded_221 : decode prog_14_method_57_code 221 = .ok (.goto 4, 3) := by decide +kernel
theorem d_Mo_readCoded_224 : decode prog_14_method_57_code 224 = .ok (.iconst 0, 1) := by decide +kernel
theorem d_Mo_readCoded_225 : decode prog_14_method_57_code 225 = .ok (.invokevirtual 227, 3) := by decide +kernel
theorem d_Mo_readCoded_228 : decode prog_14_method_57_code 228 = .ok (.istore 10, 2) := by decide +kernel
theorem d_Mo_readCoded_230 : decode prog_14_method_57_code 230 = .ok (.aload_n 0, 1) := by decide +kernel
theorem d_Mo_readCoded_231 : decode prog_14_method_57_code 231 = .ok (.iload 10, 2) := by decide +kernel
theorem d_Mo_readCoded_233 : decode prog_14_method_57_code 233 = .ok (.iload_n 1, 1) := by decide +kernel
theorem d_Mo_readCoded_234 : decode prog_14_method_57_code 234 = .ok (.invokevirtual 233, 3) := by decide +kernel
theorem d_Mo_readCoded_237 : decode prog_14_method_57_code 237 = .ok (.iinc 8 1, 3) := by decide +kernel
theorem d_Mo_readCoded_240 : decode prog_14_method_57_code 240 = .ok (.goto (-92), 3) := by decide +kernel
theorem d_Mo_readCoded_243 : decode prog_14_method_57_code 243 = .ok (.aload_n 0, 1) := by decide +kernel
theorem d_Mo_readCoded_244 : decode prog_14_method_57_code 244 = .ok (.getfield 214, 3) := by decide +kernel
theorem d_Mo_readCoded_247 : decode prog_14_method_57_code 247 = .ok (.ifCond .ne 20, 3) := by decide +kernel
theorem d_Mo_readCoded_250 : decode prog_14_method_57_code 250 = .ok (.aload_n 0, 1) := by decide +kernel
theorem d_Mo_readCoded_251 : decode prog_14_method_57_code 251 = .ok (.getfield 224, 3) := by decide +kernel
theorem d_Mo_readCoded_254 : decode prog_14_method_57_code 254 = .ok (.iload_n 1, 1) := by decide +kernel
theorem d_Mo_readCoded_255 : decode prog_14_method_57_code 255 = .ok (.if_icmp .ge 12, 3) := by decide +kernel
theorem d_Mo_readCoded_258 : decode prog_14_method_57_code 258 = .ok (.aload_n 0, 1) := by decide +kernel
theorem d_Mo_readCoded_259 : decode prog_14_method_57_code 259 = .ok (.iload 5, 2) := by decide +kernel
theorem d_Mo_readCoded_261 : decode prog_14_method_57_code 261 = .ok (.iload 7, 2) := by decide +kernel
theorem d_Mo_readCoded_263 : decode prog_14_method_57_code 263 = .ok (.iload_n 1, 1) := by decide +kernel
theorem d_Mo_readCoded_264 : decode prog_14_method_57_code 264 = .ok (.invokevirtual 239, 3) := by decide +kernel
theorem d_Mo_readCoded_267 : decode prog_14_method_57_code 267 = .ok (.goto (-212), 3) := by decide +kernel
theorem d_Mo_readCoded_270 : decode prog_14_method_57_code 270 = .ok (.return_, 1) := by decide +kernel
theorem d_Mo_readBlock_0 : decode prog_14_method_58_code 0 = .ok (.aload_n 0, 1) := by decide +kernel
theorem d_Mo_readBlock_1 : decode prog_14_method_58_code 1 = .ok (.iconst 1, 1) := by decide +kernel
theorem d_Mo_readBlock_2 : decode prog_14_method_58_code 2 = .ok (.invokevirtual 218, 3) := by decide +kernel
theorem d_Mo_readBlock_5 : decode prog_14_method_58_code 5 = .ok (.iconst 1, 1) := by decide +kernel
theorem d_Mo_readBlock_6 : decode prog_14_method_58_code 6 = .ok (.if_icmp .ne 7, 3) := by decide +kernel
theorem d_Mo_readBlock_9 : decode prog_14_method_58_code 9 = .ok (.iconst 1, 1) := by decide +kernel
theorem d_Mo_readBlock_10 : decode prog_14_method_58_code 10 = .ok (.goto 4, 3) := by decide +kernel
theorem d_Mo_readBlock_13 : decode prog_14_method_58_code 13 = .ok (.iconst 0, 1) := by decide +kernel
theorem d_Mo_readBlock_14 : decode prog_14_method_58_code 14 = .ok (.istore_n 1, 1) := by decide +kernel
theorem d_Mo_readBlock_15 : decode prog_14_method_58_code 15 = .ok (.iload_n 1, 1) := by decide +kernel
theorem d_Mo_readBlock_16 : decode prog_14_method_58_code 16 = .ok (.ifCond .eq 14, 3) := by decide +kernel
theorem d_Mo_readBlock_19 : decode prog_14_method_58_code 19 = .ok (.aload_n 0, 1) := by decide +kernel
theorem d_Mo_readBlock_20 : decode prog_14_method_58_code 20 = .ok (.iconst 1, 1) := by decide +kernel
theorem d_Mo_readBlock_21 : decode prog_14_method_58_code 21 = .ok (.invokevirtual 218, 3) := by decide +kernel
theorem d_Mo_readBlock_24 : decode prog_14_method_58_code 24 = .ok (.iconst 1, 1) := by decide +kernel
theorem d_Mo_readBlock_25 : decode prog_14_method_58_code 25 = .ok (.if_icmp .ne 5, 3) := by decide +kernel
theorem d_Mo_readBlock_28 : decode prog_14_method_58_code 28 = .ok (.iconst 1, 1) := by decide +kernel
theorem d_Mo_readBlock_29 : decode prog_14_method_58_code 29 = .ok (.ireturn, 1) := by decide +kernel
theorem d_Mo_readBlock_30 : decode prog_14_method_58_code 30 = .ok (.aload_n 0, 1) := by decide +kernel
theorem d_Mo_readBlock_31 : decode prog_14_method_58_code 31 = .ok (.iconst 1, 1) := by decide +kernel
theorem d_Mo_readBlock_32 : decode prog_14_method_58_code 32 = .ok (.invokevirtual 218, 3) := by decide +kernel
theorem d_Mo_readBlock_35 : decode prog_14_method_58_code 35 = .ok (.iconst 1, 1) := by decide +kernel
theorem d_Mo_readBlock_36 : decode prog_14_method_58_code 36 = .ok (.if_icmp .ne 7, 3) := by decide +kernel
theorem d_Mo_readBlock_39 : decode prog_14_method_58_code 39 = .ok (.iconst 1, 1) := by decide +kernel
theorem d_Mo_readBlock_40 : decode prog_14_method_58_code 40 = .ok (.goto 4, 3) := by decide +kernel
theorem d_Mo_readBlock_43 : decode prog_14_method_58_code 43 = .ok (.iconst 0, 1) := by decide +kernel
theorem d_Mo_readBlock_44 : decode prog_14_method_58_code 44 = .ok (.istore_n 2, 1) := by decide +kernel
theorem d_Mo_readBlock_45 : decode prog_14_method_58_code 45 = .ok (.aload_n 0, 1) := by decide +kernel
theorem d_Mo_readBlock_46 : decode prog_14_method_58_code 46 = .ok (.getfield 224, 3) := by decide +kernel
theorem d_Mo_readBlock_49 : decode prog_14_method_58_code 49 = .ok (.aload_n 0, 1) := by decide +kernel
theorem d_Mo_readBlock_50 : decode prog_14_method_58_code 50 = .ok (.bipush 6, 2) := by decide +kernel
theorem d_Mo_readBlock_52 : decode prog_14_method_58_code 52 = .ok (.invokevirtual 218, 3) := by decide +kernel
theorem d_Mo_readBlock_55 : decode prog_14_method_58_code 55 = .ok (.iadd, 1) := by decide +kernel
theorem d_Mo_readBlock_56 : decode prog_14_method_58_code 56 = .ok (.iconst 1, 1) := by decide +kernel
theorem d_Mo_readBlock_57 : decode prog_14_method_58_code 57 = .ok (.iadd, 1) := by decide +kernel
theorem d_Mo_readBlock_58 : decode prog_14_method_58_code 58 = .ok (.istore_n 3, 1) := by decide +kernel
theorem d_Mo_readBlock_59 : decode prog_14_method_58_code 59 = .ok (.iload_n 2, 1) := by decide +kernel
theorem d_Mo_readBlock_60 : decode prog_14_method_58_code 60 = .ok (.ifCond .eq 10, 3) := by decide +kernel
theorem d_Mo_readBlock_63 : decode prog_14_method_58_code 63 = .ok (.aload_n 0, 1) := by decide +kernel
theorem d_Mo_readBlock_64 : decode prog_14_method_58_code 64 = .ok (.iload_n 3, 1) := by decide +kernel
theorem d_Mo_readBlock_65 : decode prog_14_method_58_code 65 = .ok (.invokevirtual 242, 3) := by decide +kernel
theorem d_Mo_readBlock_68 : decode prog_14_method_58_code 68 = .ok (.iload_n 1, 1) := by decide +kernel
theorem d_Mo_readBlock_69 : decode prog_14_method_58_code 69 = .ok (.ireturn, 1) := by decide +kernel
theorem d_Mo_readBlock_70 : decode prog_14_method_58_code 70 = .ok (.aload_n 0, 1) := by decide +kernel
theorem d_Mo_readBlock_71 : decode prog_14_method_58_code 71 = .ok (.invokevirtual 245, 3) := by decide +kernel
theorem d_Mo_readBlock_74 : decode prog_14_method_58_code 74 = .ok (.aload_n 0, 1) := by decide +kernel
theorem d_Mo_readBlock_75 : decode prog_14_method_58_code 75 = .ok (.getfield 214, 3) := by decide +kernel
theorem d_Mo_readBlock_78 : decode prog_14_method_58_code 78 = .ok (.ifCond .ne 29, 3) := by decide +kernel
theorem d_Mo_readBlock_81 : decode prog_14_method_58_code 81 = .ok (.aload_n 0, 1) := by decide +kernel
theorem d_Mo_readBlock_82 : decode prog_14_method_58_code 82 = .ok (.getfield 224, 3) := by decide +kernel
theorem d_Mo_readBlock_85 : decode prog_14_method_58_code 85 = .ok (.iload_n 3, 1) := by decide +kernel
theorem d_Mo_readBlock_86 : decode prog_14_method_58_code 86 = .ok (.if_icmp .ge 21, 3) := by decide +kernel
theorem d_Mo_readBlock_89 : decode prog_14_method_58_code 89 = .ok (.aload_n 0, 1) := by decide +kernel
theorem d_Mo_readBlock_90 : decode prog_14_method_58_code 90 = .ok (.bipush 8, 2) := by decide +kernel
theorem d_Mo_readBlock_92 : decode prog_14_method_58_code 92 = .ok (.invokevirtual 218, 3) := by decide +kernel
theorem d_Mo_readBlock_95 : decode prog_14_method_58_code 95 = .ok (.istore 4, 2) := by decide +kernel
theorem d_Mo_readBlock_97 : decode prog_14_method_58_code 97 = .ok (.aload_n 0, 1) := by decide +kernel
theorem d_Mo_readBlock_98 : decode prog_14_method_58_code 98 = .ok (.iload 4, 2) := by decide +kernel
theorem d_Mo_readBlock_100 : decode prog_14_method_58_code 100 = .ok (.iload_n 3, 1) := by decide +kernel
theorem d_Mo_readBlock_101 : decode prog_14_method_58_code 101 = .ok (.invokevirtual 233, 3) := by decide +kernel
theorem d_Mo_readBlock_104 : decode prog_14_method_58_code 104 = .ok (.goto (-30), 3) := by decide +kernel
theorem d_Mo_readBlock_107 : decode prog_14_method_58_code 107 = .ok (.iload_n 1, 1) := by decide +kernel
theorem d_Mo_readBlock_108 : decode prog_14_method_58_code 108 = .ok (.ireturn, 1) := by decide +kernel
theorem d_Mo_unpack_0 : decode prog_14_method_59_code 0 = .ok (.aload_n 0, 1) := by decide +kernel
theorem d_Mo_unpack_1 : decode prog_14_method_59_code 1 = .ok (.getfield 69, 3) := by decide +kernel
theorem d_Mo_unpack_4 : decode prog_14_method_59_code 4 = .ok (.istore_n 1, 1) := by decide +kernel
theorem d_Mo_unpack_5 : decode prog_14_method_59_code 5 = .ok (.aload_n 0, 1) := by decide +kernel
theorem d_Mo_unpack_6 : decode prog_14_method_59_code 6 = .ok (.getfield 72, 3) := by decide +kernel
theorem d_Mo_unpack_9 : decode prog_14_method_59_code 9 = .ok (.istore_n 2, 1) := by decide +kernel
theorem d_Mo_unpack_10 : decode prog_14_method_59_code 10 = .ok (.aload_n 0, 1) := by decide +kernel
theorem d_Mo_unpack_11 : decode prog_14_method_59_code 11 = .ok (.getfield 75, 3) := by decide +kernel
theorem d_Mo_unpack_14 : decode prog_14_method_59_code 14 = .ok (.istore_n 3, 1) := by decide +kernel
theorem d_Mo_unpack_15 : decode prog_14_method_59_code 15 = .ok (.aload_n 0, 1) := by decide +kernel
theorem d_Mo_unpack_16 : decode prog_14_method_59_code 16 = .ok (.getfield 78, 3) := by decide +kernel
theorem d_Mo_unpack_19 : decode prog_14_method_59_code 19 = .ok (.istore 4, 2) := by decide +kernel
theorem d_Mo_unpack_21 : decode prog_14_method_59_code 21 = .ok (.aload_n 0, 1) := by decide +kernel
theorem d_Mo_unpack_22 : decode prog_14_method_59_code 22 = .ok (.invokevirtual 208, 3) := by decide +kernel
theorem d_Mo_unpack_25 : decode prog_14_method_59_code 25 = .ok (.aload_n 0, 1) := by decide +kernel
theorem d_Mo_unpack_26 : decode prog_14_method_59_code 26 = .ok (.iconst 0, 1) := by decide +kernel
theorem d_Mo_unpack_27 : decode prog_14_method_59_code 27 = .ok (.putfield 154, 3) := by decide +kernel
theorem d_Mo_unpack_30 : decode prog_14_method_59_code 30 = .ok (.aload_n 0, 1) := by decide +kernel
theorem d_Mo_unpack_31 : decode prog_14_method_59_code 31 = .ok (.iconst 0, 1) := by decide +kernel
theorem d_Mo_unpack_32 : decode prog_14_method_59_code 32 = .ok (.putfield 224, 3) := by decide +kernel
theorem d_Mo_unpack_35 : decode prog_14_method_59_code 35 = .ok (.aload_n 0, 1) := by decide +kernel
theorem d_Mo_unpack_36 : decode prog_14_method_59_code 36 = .ok (.iconst 0, 1) := by decide +kernel
theorem d_Mo_unpack_37 : decode prog_14_method_59_code 37 = .ok (.putfield 214, 3) := by decide +kernel
theorem d_Mo_unpack_40 : decode prog_14_method_59_code 40 = .ok (.iconst 0, 1) := by decide +kernel
theorem d_Mo_unpack_41 : decode prog_14_method_59_code 41 = .ok (.istore 5, 2) := by decide +kernel
theorem d_Mo_unpack_43 : decode prog_14_method_59_code 43 = .ok (.iload 5, 2) := by decide +kernel
theorem d_Mo_unpack_45 : decode prog_14_method_59_code 45 = .ok (.ifCond .ne 19, 3) := by decide +kernel
theorem d_Mo_unpack_48 : decode prog_14_method_59_code 48 = .ok (.aload_n 0, 1) := by decide +kernel
theorem d_Mo_unpack_49 : decode prog_14_method_59_code 49 = .ok (.getfield 214, 3) := by decide +kernel
theorem d_Mo_unpack_52 : decode prog_14_method_59_code 52 = .ok (.ifCond .ne 12, 3) := by decide +kernel
theorem d_Mo_unpack_55 : decode prog_14_method_59_code 55 = .ok (.aload_n 0, 1) := by decide +kernel
theorem d_Mo_unpack_56 : decode prog_14_method_59_code 56 = .ok (.invokevirtual 248, 3) := by decide +kernel
theorem d_Mo_unpack_59 : decode prog_14_method_59_code 59 = .ok (.istore 5, 2) := by decide +kernel
theorem d_Mo_unpack_61 : decode prog_14_method_59_code 61 = .ok (.goto (-18), 3) := by decide +kernel
theorem d_Mo_unpack_64 : decode prog_14_method_59_code 64 = .ok (.aload_n 0, 1) := by decide +kernel
theorem d_Mo_unpack_65 : decode prog_14_method_59_code 65 = .ok (.invokevirtual 245, 3) := by decide +kernel
theorem d_Mo_unpack_68 : decode prog_14_method_59_code 68 = .ok (.aload_n 0, 1) := by decide +kernel
theorem d_Mo_unpack_69 : decode prog_14_method_59_code 69 = .ok (.getfield 214, 3) := by decide +kernel
theorem d_Mo_unpack_72 : decode prog_14_method_59_code 72 = .ok (.ifCond .ne 17, 3) := by decide +kernel
theorem d_Mo_unpack_75 : decode prog_14_method_59_code 75 = .ok (.aload_n 0, 1) := by decide +kernel
theorem d_Mo_unpack_76 : decode prog_14_method_59_code 76 = .ok (.getfield 154, 3) := by decide +kernel
theorem d_Mo_unpack_79 : decode prog_14_method_59_code 79 = .ok (.bipush 8, 2) := by decide +kernel
theorem d_Mo_unpack_81 : decode prog_14_method_59_code 81 = .ok (.aload_n 0, 1) := by decide +kernel
theorem d_Mo_unpack_82 : decode prog_14_method_59_code 82 = .ok (.getfield 66, 3) := by decide +kernel
theorem d_Mo_unpack_85 : decode prog_14_method_59_code 85 = .ok (.imul, 1) := by decide +kernel
theorem d_Mo_unpack_86 : decode prog_14_method_59_code 86 = .ok (.if_icmp .eq 26, 3) := by decide +kernel
theorem d_Mo_unpack_89 : decode prog_14_method_59_code 89 = .ok (.aload_n 0, 1) := by decide +kernel
theorem d_Mo_unpack_90 : decode prog_14_method_59_code 90 = .ok (.iload_n 1, 1) := by decide +kernel
theorem d_Mo_unpack_91 : decode prog_14_method_59_code 91 = .ok (.putfield 69, 3) := by decide +kernel
theorem d_Mo_unpack_94 : decode prog_14_method_59_code 94 = .ok (.aload_n 0, 1) := by decide +kernel
theorem d_Mo_unpack_95 : decode prog_14_method_59_code 95 = .ok (.iload_n 2, 1) := by decide +kernel
theorem d_Mo_unpack_96 : decode prog_14_method_59_code 96 = .ok (.putfield 72, 3) := by decide +kernel
theorem d_Mo_unpack_99 : decode prog_14_method_59_code 99 = .ok (.aload_n 0, 1) := by decide +kernel
theorem d_Mo_unpack_100 : decode prog_14_method_59_code 100 = .ok (.iload_n 3, 1) := by decide +kernel
theorem d_Mo_unpack_101 : decode prog_14_method_59_code 101 = .ok (.putfield 75, 3) := by decide +kernel
theorem d_Mo_unpack_104 : decode prog_14_method_59_code 104 = .ok (.aload_n 0, 1) := by decide +kernel
theorem d_Mo_unpack_105 : decode prog_14_method_59_code 105 = .ok (.iload 4, 2) := by decide +kernel
theorem d_Mo_unpack_107 : decode prog_14_method_59_code 107 = .ok (.putfield 78, 3) := by decide +kernel
theorem d_Mo_unpack_110 : decode prog_14_method_59_code 110 = .ok (.iconst (-1), 1) := by decide +kernel
theorem d_Mo_unpack_111 : decode prog_14_method_59_code 111 = .ok (.ireturn, 1) := by decide +kernel
theorem d_Mo_unpack_112 : decode prog_14_method_59_code 112 = .ok (.aload_n 0, 1) := by decide +kernel
theorem d_Mo_unpack_113 : decode prog_14_method_59_code 113 = .ok (.aload_n 0, 1) := by decide +kernel
theorem d_Mo_unpack_114 : decode prog_14_method_59_code 114 = .ok (.getfield 224, 3) := by decide +kernel
theorem d_Mo_unpack_117 : decode prog_14_method_59_code 117 = .ok (.putfield 62, 3) := by decide +kernel
theorem d_Mo_unpack_120 : decode prog_14_method_59_code 120 = .ok (.iconst 0, 1) := by decide +kernel
theorem d_Mo_unpack_121 : decode prog_14_method_59_code 121 = .ok (.istore 6, 2) := by decide +kernel
theorem d_Mo_unpack_123 : decode prog_14_method_59_code 123 = .ok (.iload 6, 2) := by decide +kernel
theorem d_Mo_unpack_125 : decode prog_14_method_59_code 125 = .ok (.aload_n 0, 1) := by decide +kernel
theorem d_Mo_unpack_126 : decode prog_14_method_59_code 126 = .ok (.getfield 224, 3) := by decide +kernel
theorem d_Mo_unpack_129 : decode prog_14_method_59_code 129 = .ok (.if_icmp .ge 23, 3) := by decide +kernel
theorem d_Mo_unpack_132 : decode prog_14_method_59_code 132 = .ok (.aload_n 0, 1) := by decide +kernel
theorem d_Mo_unpack_133 : decode prog_14_method_59_code 133 = .ok (.getfield 7, 3) := by decide +kernel
theorem d_Mo_unpack_136 : decode prog_14_method_59_code 136 = .ok (.iload 6, 2) := by decide +kernel
theorem d_Mo_unpack_138 : decode prog_14_method_59_code 138 = .ok (.aload_n 0, 1) := by decide +kernel
theorem d_Mo_unpack_139 : decode prog_14_method_59_code 139 = .ok (.getfield 55, 3) := by decide +kernel
theorem d_Mo_unpack_142 : decode prog_14_method_59_code 142 = .ok (.iload 6, 2) := by decide +kernel
theorem d_Mo_unpack_144 : decode prog_14_method_59_code 144 = .ok (.iaload, 1) := by decide +kernel
theorem d_Mo_unpack_145 : decode prog_14_method_59_code 145 = .ok (.iastore, 1) := by decide +kernel
theorem d_Mo_unpack_146 : decode prog_14_method_59_code 146 = .ok (.iinc 6 1, 3) := by decide +kernel
theorem d_Mo_unpack_149 : decode prog_14_method_59_code 149 = .ok (.goto (-26), 3) := by decide +kernel
theorem d_Mo_unpack_152 : decode prog_14_method_59_code 152 = .ok (.aload_n 0, 1) := by decide +kernel
theorem d_Mo_unpack_153 : decode prog_14_method_59_code 153 = .ok (.getfield 62, 3) := by decide +kernel
theorem d_Mo_unpack_156 : decode prog_14_method_59_code 156 = .ok (.ireturn, 1) := by decide +kernel
