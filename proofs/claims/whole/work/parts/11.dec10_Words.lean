/-! decode rows of RingPacker$Words -/
theorem d_Words_yieldOf_0 : decode prog_12_method_2_code 0 = .ok (.iload_n 1, 1) := by decide +kernel
theorem d_Words_yieldOf_1 : decode prog_12_method_2_code 1 = .ok (.iconst 2, 1) := by decide +kernel
theorem d_Words_yieldOf_2 : decode prog_12_method_2_code 2 = .ok (.ishr, 1) := by decide +kernel
theorem d_Words_yieldOf_3 : decode prog_12_method_2_code 3 = .ok (.istore_n 2, 1) := by decide +kernel
theorem d_Words_yieldOf_4 : decode prog_12_method_2_code 4 = .ok (.iload_n 2, 1) := by decide +kernel
theorem d_Words_yieldOf_5 : decode prog_12_method_2_code 5 = .ok (.iconst 2, 1) := by decide +kernel
theorem d_Words_yieldOf_6 : decode prog_12_method_2_code 6 = .ok (.if_icmp .ne 7, 3) := by decide +kernel
theorem d_Words_yieldOf_9 : decode prog_12_method_2_code 9 = .ok (.iload_n 0, 1) := by decide +kernel
theorem d_Words_yieldOf_10 : decode prog_12_method_2_code 10 = .ok (.iconst 1, 1) := by decide +kernel
theorem d_Words_yieldOf_11 : decode prog_12_method_2_code 11 = .ok (.iadd, 1) := by decide +kernel
theorem d_Words_yieldOf_12 : decode prog_12_method_2_code 12 = .ok (.ireturn, 1) := by decide +kernel
theorem d_Words_yieldOf_13 : decode prog_12_method_2_code 13 = .ok (.iload_n 2, 1) := by decide +kernel
theorem d_Words_yieldOf_14 : decode prog_12_method_2_code 14 = .ok (.iconst 3, 1) := by decide +kernel
theorem d_Words_yieldOf_15 : decode prog_12_method_2_code 15 = .ok (.if_icmp .ne 9, 3) := by decide +kernel
theorem d_Words_yieldOf_18 : decode prog_12_method_2_code 18 = .ok (.iload_n 0, 1) := by decide +kernel
theorem d_Words_yieldOf_19 : decode prog_12_method_2_code 19 = .ok (.iconst 1, 1) := by decide +kernel
theorem d_Words_yieldOf_20 : decode prog_12_method_2_code 20 = .ok (.isub, 1) := by decide +kernel
theorem d_Words_yieldOf_21 : decode prog_12_method_2_code 21 = .ok (.goto 4, 3) := by decide +kernel
theorem d_Words_yieldOf_24 : decode prog_12_method_2_code 24 = .ok (.iload_n 0, 1) := by decide +kernel
theorem d_Words_yieldOf_25 : decode prog_12_method_2_code 25 = .ok (.ireturn, 1) := by decide +kernel
theorem d_Words_byteOf_0 : decode prog_12_method_3_code 0 = .ok (.iload_n 1, 1) := by decide +kernel
theorem d_Words_byteOf_1 : decode prog_12_method_3_code 1 = .ok (.iconst 2, 1) := by decide +kernel
theorem d_Words_byteOf_2 : decode prog_12_method_3_code 2 = .ok (.ishr, 1) := by decide +kernel
theorem d_Words_byteOf_3 : decode prog_12_method_3_code 3 = .ok (.istore_n 3, 1) := by decide +kernel
theorem d_Words_byteOf_4 : decode prog_12_method_3_code 4 = .ok (.iload_n 3, 1) := by decide +kernel
theorem d_Words_byteOf_5 : decode prog_12_method_3_code 5 = .ok (.iconst 3, 1) := by decide +kernel
theorem d_Words_byteOf_6 : decode prog_12_method_3_code 6 = .ok (.if_icmp .ne 9, 3) := by decide +kernel
theorem d_Words_byteOf_9 : decode prog_12_method_3_code 9 = .ok (.iload_n 2, 1) := by decide +kernel
theorem d_Words_byteOf_10 : decode prog_12_method_3_code 10 = .ok (.iconst 1, 1) := by decide +kernel
theorem d_Words_byteOf_11 : decode prog_12_method_3_code 11 = .ok (.iadd, 1) := by decide +kernel
theorem d_Words_byteOf_12 : decode prog_12_method_3_code 12 = .ok (.goto 4, 3) := by decide +kernel
theorem d_Words_byteOf_15 : decode prog_12_method_3_code 15 = .ok (.iload_n 2, 1) := by decide +kernel
theorem d_Words_byteOf_16 : decode prog_12_method_3_code 16 = .ok (.istore 4, 2) := by decide +kernel
theorem d_Words_byteOf_18 : decode prog_12_method_3_code 18 = .ok (.iload 4, 2) := by decide +kernel
theorem d_Words_byteOf_20 : decode prog_12_method_3_code 20 = .ok (.iload_n 0, 1) := by decide +kernel
theorem d_Words_byteOf_21 : decode prog_12_method_3_code 21 = .ok (.if_icmp .lt 6, 3) := by decide +kernel
theorem d_Words_byteOf_24 : decode prog_12_method_3_code 24 = .ok (.bipush 32, 2) := by decide +kernel
theorem d_Words_byteOf_26 : decode prog_12_method_3_code 26 = .ok (.ireturn, 1) := by decide +kernel
theorem d_Words_byteOf_27 : decode prog_12_method_3_code 27 = .ok (.iload_n 0, 1) := by decide +kernel
theorem d_Words_byteOf_28 : decode prog_12_method_3_code 28 = .ok (.iconst 4, 1) := by decide +kernel
theorem d_Words_byteOf_29 : decode prog_12_method_3_code 29 = .ok (.if_icmp .ne 8, 3) := by decide +kernel
theorem d_Words_byteOf_32 : decode prog_12_method_3_code 32 = .ok (.ldc 9, 2) := by decide +kernel
theorem d_Words_byteOf_34 : decode prog_12_method_3_code 34 = .ok (.goto 5, 3) := by decide +kernel
theorem d_Words_byteOf_37 : decode prog_12_method_3_code 37 = .ok (.ldc 11, 2) := by decide +kernel
theorem d_Words_byteOf_39 : decode prog_12_method_3_code 39 = .ok (.astore 5, 2) := by decide +kernel
theorem d_Words_byteOf_41 : decode prog_12_method_3_code 41 = .ok (.aload 5, 2) := by decide +kernel
theorem d_Words_byteOf_43 : decode prog_12_method_3_code 43 = .ok (.iload_n 1, 1) := by decide +kernel
theorem d_Words_byteOf_44 : decode prog_12_method_3_code 44 = .ok (.iconst 3, 1) := by decide +kernel
theorem d_Words_byteOf_45 : decode prog_12_method_3_code 45 = .ok (.iand, 1) := by decide +kernel
theorem d_Words_byteOf_46 : decode prog_12_method_3_code 46 = .ok (.iload_n 0, 1) := by decide +kernel
theorem d_Words_byteOf_47 : decode prog_12_method_3_code 47 = .ok (.imul, 1) := by decide +kernel
theorem d_Words_byteOf_48 : decode prog_12_method_3_code 48 = .ok (.iload 4, 2) := by decide +kernel
theorem d_Words_byteOf_50 : decode prog_12_method_3_code 50 = .ok (.iadd, 1) := by decide +kernel
theorem d_Words_byteOf_51 : decode prog_12_method_3_code 51 = .ok (.invokevirtual 13, 3) := by decide +kernel
theorem d_Words_byteOf_54 : decode prog_12_method_3_code 54 = .ok (.istore 6, 2) := by decide +kernel
theorem d_Words_byteOf_56 : decode prog_12_method_3_code 56 = .ok (.iload_n 3, 1) := by decide +kernel
theorem d_Words_byteOf_57 : decode prog_12_method_3_code 57 = .ok (.iconst 1, 1) := by decide +kernel
theorem d_Words_byteOf_58 : decode prog_12_method_3_code 58 = .ok (.if_icmp .ne 16, 3) := by decide +kernel
theorem d_Words_byteOf_61 : decode prog_12_method_3_code 61 = .ok (.iload 4, 2) := by decide +kernel
theorem d_Words_byteOf_63 : decode prog_12_method_3_code 63 = .ok (.ifCond .ne 11, 3) := by decide +kernel
theorem d_Words_byteOf_66 : decode prog_12_method_3_code 66 = .ok (.iload 6, 2) := by decide +kernel
theorem d_Words_byteOf_68 : decode prog_12_method_3_code 68 = .ok (.bipush 32, 2) := by decide +kernel
theorem d_Words_byteOf_70 : decode prog_12_method_3_code 70 = .ok (.isub, 1) := by decide +kernel
theorem d_Words_byteOf_71 : decode prog_12_method_3_code 71 = .ok (.goto 5, 3) := by decide +kernel
theorem d_Words_byteOf_74 : decode prog_12_method_3_code 74 = .ok (.iload 6, 2) := by decide +kernel
theorem d_Words_byteOf_76 : decode prog_12_method_3_code 76 = .ok (.ireturn, 1) := by decide +kernel
theorem d_Words_standsIn_0 : decode prog_12_method_4_code 0 = .ok (.iload_n 2, 1) := by decide +kernel
theorem d_Words_standsIn_1 : decode prog_12_method_4_code 1 = .ok (.iload_n 3, 1) := by decide +kernel
theorem d_Words_standsIn_2 : decode prog_12_method_4_code 2 = .ok (.invokestatic 19, 3) := by decide +kernel
theorem d_Words_standsIn_5 : decode prog_12_method_4_code 5 = .ok (.istore 4, 2) := by decide +kernel
theorem d_Words_standsIn_7 : decode prog_12_method_4_code 7 = .ok (.iconst 0, 1) := by decide +kernel
theorem d_Words_standsIn_8 : decode prog_12_method_4_code 8 = .ok (.istore 5, 2) := by decide +kernel
theorem d_Words_standsIn_10 : decode prog_12_method_4_code 10 = .ok (.iload 5, 2) := by decide +kernel
theorem d_Words_standsIn_12 : decode prog_12_method_4_code 12 = .ok (.iload 4, 2) := by decide +kernel
theorem d_Words_standsIn_14 : decode prog_12_method_4_code 14 = .ok (.if_icmp .ge 29, 3) := by decide +kernel
theorem d_Words_standsIn_17 : decode prog_12_method_4_code 17 = .ok (.aload_n 0, 1) := by decide +kernel
theorem d_Words_standsIn_18 : decode prog_12_method_4_code 18 = .ok (.iload_n 1, 1) := by decide +kernel
theorem d_Words_standsIn_19 : decode prog_12_method_4_code 19 = .ok (.iload 5, 2) := by decide +kernel
theorem d_Words_standsIn_21 : decode prog_12_method_4_code 21 = .ok (.iadd, 1) := by decide +kernel
theorem d_Words_standsIn_22 : decode prog_12_method_4_code 22 = .ok (.invokevirtual 25, 3) := by decide +kernel
theorem d_Words_standsIn_25 : decode prog_12_method_4_code 25 = .ok (.iload_n 2, 1) := by decide +kernel
theorem d_Words_standsIn_26 : decode prog_12_method_4_code 26 = .ok (.iload_n 3, 1) := by decide +kernel
theorem d_Words_standsIn_27 : decode prog_12_method_4_code 27 = .ok (.iload 5, 2) := by decide +kernel
theorem d_Words_standsIn_29 : decode prog_12_method_4_code 29 = .ok (.invokestatic 31, 3) := by decide +kernel
theorem d_Words_standsIn_32 : decode prog_12_method_4_code 32 = .ok (.if_icmp .eq 5, 3) := by decide +kernel
theorem d_Words_standsIn_35 : decode prog_12_method_4_code 35 = .ok (.iconst 0, 1) := by decide +kernel
theorem d_Words_standsIn_36 : decode prog_12_method_4_code 36 = .ok (.ireturn, 1) := by decide +kernel
theorem d_Words_standsIn_37 : decode prog_12_method_4_code 37 = .ok (.iinc 5 1, 3) := by decide +kernel
theorem d_Words_standsIn_40 : decode prog_12_method_4_code 40 = .ok (.goto (-30), 3) := by decide +kernel
theorem d_Words_standsIn_43 : decode prog_12_method_4_code 43 = .ok (.iconst 1, 1) := by decide +kernel
theorem d_Words_standsIn_44 : decode prog_12_method_4_code 44 = .ok (.ireturn, 1) := by decide +kernel
