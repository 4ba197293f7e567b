/-! decode rows of RingPacker -/
theorem d_Rp_init_0 : decode prog_1_method_1_code 0 = .ok (.aload_n 0, 1) := by decide +kernel
theorem d_Rp_init_1 : decode prog_1_method_1_code 1 = .ok (.invokespecial 1, 3) := by decide +kernel
theorem d_Rp_init_4 : decode prog_1_method_1_code 4 = .ok (.aload_n 0, 1) := by decide +kernel
theorem d_Rp_init_5 : decode prog_1_method_1_code 5 = .ok (.new 7, 3) := by decide +kernel
theorem d_Rp_init_8 : decode prog_1_method_1_code 8 = .ok (.dup, 1) := by decide +kernel
theorem d_Rp_init_9 : decode prog_1_method_1_code 9 = .ok (.invokespecial 9, 3) := by decide +kernel
theorem d_Rp_init_12 : decode prog_1_method_1_code 12 = .ok (.putfield 10, 3) := by decide +kernel
theorem d_Rp_init_15 : decode prog_1_method_1_code 15 = .ok (.aload_n 0, 1) := by decide +kernel
theorem d_Rp_init_16 : decode prog_1_method_1_code 16 = .ok (.new 16, 3) := by decide +kernel
theorem d_Rp_init_19 : decode prog_1_method_1_code 19 = .ok (.dup, 1) := by decide +kernel
theorem d_Rp_init_20 : decode prog_1_method_1_code 20 = .ok (.invokespecial 18, 3) := by decide +kernel
theorem d_Rp_init_23 : decode prog_1_method_1_code 23 = .ok (.putfield 19, 3) := by decide +kernel
theorem d_Rp_init_26 : decode prog_1_method_1_code 26 = .ok (.aload_n 0, 1) := by decide +kernel
theorem d_Rp_init_27 : decode prog_1_method_1_code 27 = .ok (.new 23, 3) := by decide +kernel
theorem d_Rp_init_30 : decode prog_1_method_1_code 30 = .ok (.dup, 1) := by decide +kernel
theorem d_Rp_init_31 : decode prog_1_method_1_code 31 = .ok (.invokespecial 25, 3) := by decide +kernel
theorem d_Rp_init_34 : decode prog_1_method_1_code 34 = .ok (.putfield 26, 3) := by decide +kernel
theorem d_Rp_init_37 : decode prog_1_method_1_code 37 = .ok (.aload_n 0, 1) := by decide +kernel
theorem d_Rp_init_38 : decode prog_1_method_1_code 38 = .ok (.new 30, 3) := by decide +kernel
theorem d_Rp_init_41 : decode prog_1_method_1_code 41 = .ok (.dup, 1) := by decide +kernel
theorem d_Rp_init_42 : decode prog_1_method_1_code 42 = .ok (.invokespecial 32, 3) := by decide +kernel
theorem d_Rp_init_45 : decode prog_1_method_1_code 45 = .ok (.putfield 33, 3) := by decide +kernel
theorem d_Rp_init_48 : decode prog_1_method_1_code 48 = .ok (.aload_n 0, 1) := by decide +kernel
theorem d_Rp_init_49 : decode prog_1_method_1_code 49 = .ok (.new 37, 3) := by decide +kernel
theorem d_Rp_init_52 : decode prog_1_method_1_code 52 = .ok (.dup, 1) := by decide +kernel
theorem d_Rp_init_53 : decode prog_1_method_1_code 53 = .ok (.invokespecial 39, 3) := by decide +kernel
theorem d_Rp_init_56 : decode prog_1_method_1_code 56 = .ok (.putfield 40, 3) := by decide +kernel
theorem d_Rp_init_59 : decode prog_1_method_1_code 59 = .ok (.return_, 1) := by decide +kernel
theorem d_Rp_put_0 : decode prog_1_method_2_code 0 = .ok (.aload_n 0, 1) := by decide +kernel
theorem d_Rp_put_1 : decode prog_1_method_2_code 1 = .ok (.getfield 10, 3) := by decide +kernel
theorem d_Rp_put_4 : decode prog_1_method_2_code 4 = .ok (.iload_n 1, 1) := by decide +kernel
theorem d_Rp_put_5 : decode prog_1_method_2_code 5 = .ok (.invokevirtual 44, 3) := by decide +kernel
theorem d_Rp_put_8 : decode prog_1_method_2_code 8 = .ok (.ireturn, 1) := by decide +kernel
theorem d_Rp_clear_0 : decode prog_1_method_3_code 0 = .ok (.aload_n 0, 1) := by decide +kernel
theorem d_Rp_clear_1 : decode prog_1_method_3_code 1 = .ok (.getfield 10, 3) := by decide +kernel
theorem d_Rp_clear_4 : decode prog_1_method_3_code 4 = .ok (.invokevirtual 48, 3) := by decide +kernel
theorem d_Rp_clear_7 : decode prog_1_method_3_code 7 = .ok (.return_, 1) := by decide +kernel
theorem d_Rp_length_0 : decode prog_1_method_4_code 0 = .ok (.aload_n 0, 1) := by decide +kernel
theorem d_Rp_length_1 : decode prog_1_method_4_code 1 = .ok (.getfield 10, 3) := by decide +kernel
theorem d_Rp_length_4 : decode prog_1_method_4_code 4 = .ok (.getfield 51, 3) := by decide +kernel
theorem d_Rp_length_7 : decode prog_1_method_4_code 7 = .ok (.ireturn, 1) := by decide +kernel
theorem d_Rp_at_0 : decode prog_1_method_5_code 0 = .ok (.aload_n 0, 1) := by decide +kernel
theorem d_Rp_at_1 : decode prog_1_method_5_code 1 = .ok (.getfield 10, 3) := by decide +kernel
theorem d_Rp_at_4 : decode prog_1_method_5_code 4 = .ok (.iload_n 1, 1) := by decide +kernel
theorem d_Rp_at_5 : decode prog_1_method_5_code 5 = .ok (.invokevirtual 55, 3) := by decide +kernel
theorem d_Rp_at_8 : decode prog_1_method_5_code 8 = .ok (.ireturn, 1) := by decide +kernel
theorem d_Rp_pack_0 : decode prog_1_method_6_code 0 = .ok (.aload_n 0, 1) := by decide +kernel
theorem d_Rp_pack_1 : decode prog_1_method_6_code 1 = .ok (.getfield 19, 3) := by decide +kernel
theorem d_Rp_pack_4 : decode prog_1_method_6_code 4 = .ok (.invokevirtual 59, 3) := by decide +kernel
theorem d_Rp_pack_7 : decode prog_1_method_6_code 7 = .ok (.aload_n 0, 1) := by decide +kernel
theorem d_Rp_pack_8 : decode prog_1_method_6_code 8 = .ok (.getfield 33, 3) := by decide +kernel
theorem d_Rp_pack_11 : decode prog_1_method_6_code 11 = .ok (.invokevirtual 62, 3) := by decide +kernel
theorem d_Rp_pack_14 : decode prog_1_method_6_code 14 = .ok (.aload_n 0, 1) := by decide +kernel
theorem d_Rp_pack_15 : decode prog_1_method_6_code 15 = .ok (.getfield 10, 3) := by decide +kernel
theorem d_Rp_pack_18 : decode prog_1_method_6_code 18 = .ok (.getfield 51, 3) := by decide +kernel
theorem d_Rp_pack_21 : decode prog_1_method_6_code 21 = .ok (.ifCond .ne 21, 3) := by decide +kernel
theorem d_Rp_pack_24 : decode prog_1_method_6_code 24 = .ok (.aload_n 0, 1) := by decide +kernel
theorem d_Rp_pack_25 : decode prog_1_method_6_code 25 = .ok (.getfield 19, 3) := by decide +kernel
theorem d_Rp_pack_28 : decode prog_1_method_6_code 28 = .ok (.iconst 1, 1) := by decide +kernel
theorem d_Rp_pack_29 : decode prog_1_method_6_code 29 = .ok (.iconst 1, 1) := by decide +kernel
theorem d_Rp_pack_30 : decode prog_1_method_6_code 30 = .ok (.invokevirtual 65, 3) := by decide +kernel
theorem d_Rp_pack_33 : decode prog_1_method_6_code 33 = .ok (.aload_n 0, 1) := by decide +kernel
theorem d_Rp_pack_34 : decode prog_1_method_6_code 34 = .ok (.getfield 19, 3) := by decide +kernel
theorem d_Rp_pack_37 : decode prog_1_method_6_code 37 = .ok (.iconst 1, 1) := by decide +kernel
theorem d_Rp_pack_38 : decode prog_1_method_6_code 38 = .ok (.iconst 1, 1) := by decide +kernel
theorem d_Rp_pack_39 : decode prog_1_method_6_code 39 = .ok (.invokevirtual 65, 3) := by decide +kernel
theorem d_Rp_pack_42 : decode prog_1_method_6_code 42 = .ok (.iconst 0, 1) := by decide +kernel
theorem d_Rp_pack_43 : decode prog_1_method_6_code 43 = .ok (.istore_n 1, 1) := by decide +kernel
theorem d_Rp_pack_44 : decode prog_1_method_6_code 44 = .ok (.iload_n 1, 1) := by decide +kernel
theorem d_Rp_pack_45 : decode prog_1_method_6_code 45 = .ok (.aload_n 0, 1) := by decide +kernel
theorem d_Rp_pack_46 : decode prog_1_method_6_code 46 = .ok (.getfield 10, 3) := by decide +kernel
theorem d_Rp_pack_49 : decode prog_1_method_6_code 49 = .ok (.getfield 51, 3) := by decide +kernel
theorem d_Rp_pack_52 : decode prog_1_method_6_code 52 = .ok (.if_icmp .ge 25, 3) := by decide +kernel
theorem d_Rp_pack_55 : decode prog_1_method_6_code 55 = .ok (.aload_n 0, 1) := by decide +kernel
theorem d_Rp_pack_56 : decode prog_1_method_6_code 56 = .ok (.getfield 33, 3) := by decide +kernel
theorem d_Rp_pack_59 : decode prog_1_method_6_code 59 = .ok (.aload_n 0, 1) := by decide +kernel
theorem d_Rp_pack_60 : decode prog_1_method_6_code 60 = .ok (.getfield 10, 3) := by decide +kernel
theorem d_Rp_pack_63 : decode prog_1_method_6_code 63 = .ok (.aload_n 0, 1) := by decide +kernel
theorem d_Rp_pack_64 : decode prog_1_method_6_code 64 = .ok (.getfield 19, 3) := by decide +kernel
theorem d_Rp_pack_67 : decode prog_1_method_6_code 67 = .ok (.iload_n 1, 1) := by decide +kernel
theorem d_Rp_pack_68 : decode prog_1_method_6_code 68 = .ok (.invokevirtual 69, 3) := by decide +kernel
theorem d_Rp_pack_71 : decode prog_1_method_6_code 71 = .ok (.iinc 1 48, 3) := by decide +kernel
theorem d_Rp_pack_74 : decode prog_1_method_6_code 74 = .ok (.goto (-30), 3) := by decide +kernel
theorem d_Rp_pack_77 : decode prog_1_method_6_code 77 = .ok (.aload_n 0, 1) := by decide +kernel
theorem d_Rp_pack_78 : decode prog_1_method_6_code 78 = .ok (.getfield 19, 3) := by decide +kernel
theorem d_Rp_pack_81 : decode prog_1_method_6_code 81 = .ok (.invokevirtual 73, 3) := by decide +kernel
theorem d_Rp_pack_84 : decode prog_1_method_6_code 84 = .ok (.aload_n 0, 1) := by decide +kernel
theorem d_Rp_pack_85 : decode prog_1_method_6_code 85 = .ok (.getfield 26, 3) := by decide +kernel
theorem d_Rp_pack_88 : decode prog_1_method_6_code 88 = .ok (.aload_n 0, 1) := by decide +kernel
theorem d_Rp_pack_89 : decode prog_1_method_6_code 89 = .ok (.getfield 33, 3) := by decide +kernel
theorem d_Rp_pack_92 : decode prog_1_method_6_code 92 = .ok (.getfield 76, 3) := by decide +kernel
theorem d_Rp_pack_95 : decode prog_1_method_6_code 95 = .ok (.invokevirtual 77, 3) := by decide +kernel
theorem d_Rp_pack_98 : decode prog_1_method_6_code 98 = .ok (.aload_n 0, 1) := by decide +kernel
theorem d_Rp_pack_99 : decode prog_1_method_6_code 99 = .ok (.getfield 19, 3) := by decide +kernel
theorem d_Rp_pack_102 : decode prog_1_method_6_code 102 = .ok (.getfield 81, 3) := by decide +kernel
theorem d_Rp_pack_105 : decode prog_1_method_6_code 105 = .ok (.ireturn, 1) := by decide +kernel
theorem d_Rp_unpack_0 : decode prog_1_method_7_code 0 = .ok (.aload_n 0, 1) := by decide +kernel
theorem d_Rp_unpack_1 : decode prog_1_method_7_code 1 = .ok (.getfield 40, 3) := by decide +kernel
theorem d_Rp_unpack_4 : decode prog_1_method_7_code 4 = .ok (.aload_n 0, 1) := by decide +kernel
theorem d_Rp_unpack_5 : decode prog_1_method_7_code 5 = .ok (.getfield 19, 3) := by decide +kernel
theorem d_Rp_unpack_8 : decode prog_1_method_7_code 8 = .ok (.invokevirtual 82, 3) := by decide +kernel
theorem d_Rp_unpack_11 : decode prog_1_method_7_code 11 = .ok (.ifCond .ne 5, 3) := by decide +kernel
theorem d_Rp_unpack_14 : decode prog_1_method_7_code 14 = .ok (.iconst (-1), 1) := by decide +kernel
theorem d_Rp_unpack_15 : decode prog_1_method_7_code 15 = .ok (.ireturn, 1) := by decide +kernel
theorem d_Rp_unpack_16 : decode prog_1_method_7_code 16 = .ok (.aload_n 0, 1) := by decide +kernel
theorem d_Rp_unpack_17 : decode prog_1_method_7_code 17 = .ok (.getfield 10, 3) := by decide +kernel
theorem d_Rp_unpack_20 : decode prog_1_method_7_code 20 = .ok (.aload_n 0, 1) := by decide +kernel
theorem d_Rp_unpack_21 : decode prog_1_method_7_code 21 = .ok (.getfield 40, 3) := by decide +kernel
theorem d_Rp_unpack_24 : decode prog_1_method_7_code 24 = .ok (.getfield 86, 3) := by decide +kernel
theorem d_Rp_unpack_27 : decode prog_1_method_7_code 27 = .ok (.invokevirtual 89, 3) := by decide +kernel
theorem d_Rp_unpack_30 : decode prog_1_method_7_code 30 = .ok (.aload_n 0, 1) := by decide +kernel
theorem d_Rp_unpack_31 : decode prog_1_method_7_code 31 = .ok (.getfield 26, 3) := by decide +kernel
theorem d_Rp_unpack_34 : decode prog_1_method_7_code 34 = .ok (.aload_n 0, 1) := by decide +kernel
theorem d_Rp_unpack_35 : decode prog_1_method_7_code 35 = .ok (.getfield 40, 3) := by decide +kernel
theorem d_Rp_unpack_38 : decode prog_1_method_7_code 38 = .ok (.getfield 92, 3) := by decide +kernel
theorem d_Rp_unpack_41 : decode prog_1_method_7_code 41 = .ok (.invokevirtual 77, 3) := by decide +kernel
theorem d_Rp_unpack_44 : decode prog_1_method_7_code 44 = .ok (.aload_n 0, 1) := by decide +kernel
theorem d_Rp_unpack_45 : decode prog_1_method_7_code 45 = .ok (.getfield 10, 3) := by decide +kernel
theorem d_Rp_unpack_48 : decode prog_1_method_7_code 48 = .ok (.getfield 51, 3) := by decide +kernel
theorem d_Rp_unpack_51 : decode prog_1_method_7_code 51 = .ok (.ireturn, 1) := by decide +kernel
theorem d_Rp_size_0 : decode prog_1_method_8_code 0 = .ok (.aload_n 0, 1) := by decide +kernel
theorem d_Rp_size_1 : decode prog_1_method_8_code 1 = .ok (.getfield 19, 3) := by decide +kernel
theorem d_Rp_size_4 : decode prog_1_method_8_code 4 = .ok (.getfield 81, 3) := by decide +kernel
theorem d_Rp_size_7 : decode prog_1_method_8_code 7 = .ok (.ireturn, 1) := by decide +kernel
theorem d_Rp_byteAt_0 : decode prog_1_method_9_code 0 = .ok (.aload_n 0, 1) := by decide +kernel
theorem d_Rp_byteAt_1 : decode prog_1_method_9_code 1 = .ok (.getfield 19, 3) := by decide +kernel
theorem d_Rp_byteAt_4 : decode prog_1_method_9_code 4 = .ok (.iload_n 1, 1) := by decide +kernel
theorem d_Rp_byteAt_5 : decode prog_1_method_9_code 5 = .ok (.invokevirtual 93, 3) := by decide +kernel
theorem d_Rp_byteAt_8 : decode prog_1_method_9_code 8 = .ok (.ireturn, 1) := by decide +kernel
theorem d_Rp_poke_0 : decode prog_1_method_10_code 0 = .ok (.aload_n 0, 1) := by decide +kernel
theorem d_Rp_poke_1 : decode prog_1_method_10_code 1 = .ok (.getfield 19, 3) := by decide +kernel
theorem d_Rp_poke_4 : decode prog_1_method_10_code 4 = .ok (.iload_n 1, 1) := by decide +kernel
theorem d_Rp_poke_5 : decode prog_1_method_10_code 5 = .ok (.iload_n 2, 1) := by decide +kernel
theorem d_Rp_poke_6 : decode prog_1_method_10_code 6 = .ok (.invokevirtual 94, 3) := by decide +kernel
theorem d_Rp_poke_9 : decode prog_1_method_10_code 9 = .ok (.ireturn, 1) := by decide +kernel
theorem d_Rp_append_0 : decode prog_1_method_11_code 0 = .ok (.aload_n 0, 1) := by decide +kernel
theorem d_Rp_append_1 : decode prog_1_method_11_code 1 = .ok (.getfield 19, 3) := by decide +kernel
theorem d_Rp_append_4 : decode prog_1_method_11_code 4 = .ok (.iload_n 1, 1) := by decide +kernel
theorem d_Rp_append_5 : decode prog_1_method_11_code 5 = .ok (.invokevirtual 98, 3) := by decide +kernel
theorem d_Rp_append_8 : decode prog_1_method_11_code 8 = .ok (.ireturn, 1) := by decide +kernel
theorem d_Rp_trim_0 : decode prog_1_method_12_code 0 = .ok (.aload_n 0, 1) := by decide +kernel
theorem d_Rp_trim_1 : decode prog_1_method_12_code 1 = .ok (.getfield 19, 3) := by decide +kernel
theorem d_Rp_trim_4 : decode prog_1_method_12_code 4 = .ok (.iload_n 1, 1) := by decide +kernel
theorem d_Rp_trim_5 : decode prog_1_method_12_code 5 = .ok (.invokevirtual 99, 3) := by decide +kernel
theorem d_Rp_trim_8 : decode prog_1_method_12_code 8 = .ok (.ireturn, 1) := by decide +kernel
theorem d_Rp_coded_0 : decode prog_1_method_13_code 0 = .ok (.aload_n 0, 1) := by decide +kernel
theorem d_Rp_coded_1 : decode prog_1_method_13_code 1 = .ok (.getfield 26, 3) := by decide +kernel
theorem d_Rp_coded_4 : decode prog_1_method_13_code 4 = .ok (.getfield 102, 3) := by decide +kernel
theorem d_Rp_coded_7 : decode prog_1_method_13_code 7 = .ok (.ireturn, 1) := by decide +kernel
theorem d_Rp_copies_0 : decode prog_1_method_14_code 0 = .ok (.aload_n 0, 1) := by decide +kernel
theorem d_Rp_copies_1 : decode prog_1_method_14_code 1 = .ok (.getfield 26, 3) := by decide +kernel
theorem d_Rp_copies_4 : decode prog_1_method_14_code 4 = .ok (.getfield 105, 3) := by decide +kernel
theorem d_Rp_copies_7 : decode prog_1_method_14_code 7 = .ok (.ireturn, 1) := by decide +kernel
theorem d_Rp_words_0 : decode prog_1_method_15_code 0 = .ok (.aload_n 0, 1) := by decide +kernel
theorem d_Rp_words_1 : decode prog_1_method_15_code 1 = .ok (.getfield 26, 3) := by decide +kernel
theorem d_Rp_words_4 : decode prog_1_method_15_code 4 = .ok (.getfield 108, 3) := by decide +kernel
theorem d_Rp_words_7 : decode prog_1_method_15_code 7 = .ok (.ireturn, 1) := by decide +kernel
theorem d_Rp_symbols_0 : decode prog_1_method_16_code 0 = .ok (.aload_n 0, 1) := by decide +kernel
theorem d_Rp_symbols_1 : decode prog_1_method_16_code 1 = .ok (.getfield 26, 3) := by decide +kernel
theorem d_Rp_symbols_4 : decode prog_1_method_16_code 4 = .ok (.getfield 111, 3) := by decide +kernel
theorem d_Rp_symbols_7 : decode prog_1_method_16_code 7 = .ok (.ireturn, 1) := by decide +kernel
theorem d_Rp_isByte_0 : decode prog_1_method_17_code 0 = .ok (.iload_n 0, 1) := by decide +kernel
theorem d_Rp_isByte_1 : decode prog_1_method_17_code 1 = .ok (.ifCond .lt 14, 3) := by decide +kernel
theorem d_Rp_isByte_4 : decode prog_1_method_17_code 4 = .ok (.iload_n 0, 1) := by decide +kernel
theorem d_Rp_isByte_5 : decode prog_1_method_17_code 5 = .ok (.sipush 255, 3) := by decide +kernel
theorem d_Rp_isByte_8 : decode prog_1_method_17_code 8 = .ok (.if_icmp .gt 7, 3) := by decide +kernel
theorem d_Rp_isByte_11 : decode prog_1_method_17_code 11 = .ok (.iconst 1, 1) := by decide +kernel
theorem d_Rp_isByte_12 : decode prog_1_method_17_code 12 = .ok (.goto 4, 3) := by decide +kernel
theorem d_Rp_isByte_15 : decode prog_1_method_17_code 15 = .ok (.iconst 0, 1) := by decide +kernel
theorem d_Rp_isByte_16 : decode prog_1_method_17_code 16 = .ok (.ireturn, 1) := by decide +kernel
