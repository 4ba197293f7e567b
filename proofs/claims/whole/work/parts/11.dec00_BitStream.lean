/-! decode rows of RingPacker$BitStream -/
theorem d_BitStream_init_0 : decode prog_2_method_1_code 0 = .ok (.aload_n 0, 1) := by decide +kernel
theorem d_BitStream_init_1 : decode prog_2_method_1_code 1 = .ok (.invokespecial 3, 3) := by decide +kernel
theorem d_BitStream_init_4 : decode prog_2_method_1_code 4 = .ok (.aload_n 0, 1) := by decide +kernel
theorem d_BitStream_init_5 : decode prog_2_method_1_code 5 = .ok (.sipush 200, 3) := by decide +kernel
theorem d_BitStream_init_8 : decode prog_2_method_1_code 8 = .ok (.newarray .int, 2) := by decide +kernel
theorem d_BitStream_init_10 : decode prog_2_method_1_code 10 = .ok (.putfield 9, 3) := by decide +kernel
theorem d_BitStream_init_13 : decode prog_2_method_1_code 13 = .ok (.return_, 1) := by decide +kernel
theorem d_BitStream_add_0 : decode prog_2_method_2_code 0 = .ok (.iload_n 1, 1) := by decide +kernel
theorem d_BitStream_add_1 : decode prog_2_method_2_code 1 = .ok (.invokestatic 15, 3) := by decide +kernel
theorem d_BitStream_add_4 : decode prog_2_method_2_code 4 = .ok (.ifCond .eq 13, 3) := by decide +kernel
theorem d_BitStream_add_7 : decode prog_2_method_2_code 7 = .ok (.aload_n 0, 1) := by decide +kernel
theorem d_BitStream_add_8 : decode prog_2_method_2_code 8 = .ok (.getfield 19, 3) := by decide +kernel
theorem d_BitStream_add_11 : decode prog_2_method_2_code 11 = .ok (.sipush 200, 3) := by decide +kernel
theorem d_BitStream_add_14 : decode prog_2_method_2_code 14 = .ok (.if_icmp .lt 5, 3) := by decide +kernel
theorem d_BitStream_add_17 : decode prog_2_method_2_code 17 = .ok (.iconst 0, 1) := by decide +kernel
theorem d_BitStream_add_18 : decode prog_2_method_2_code 18 = .ok (.ireturn, 1) := by decide +kernel
theorem d_BitStream_add_19 : decode prog_2_method_2_code 19 = .ok (.aload_n 0, 1) := by decide +kernel
theorem d_BitStream_add_20 : decode prog_2_method_2_code 20 = .ok (.getfield 9, 3) := by decide +kernel
theorem d_BitStream_add_23 : decode prog_2_method_2_code 23 = .ok (.aload_n 0, 1) := by decide +kernel
theorem d_BitStream_add_24 : decode prog_2_method_2_code 24 = .ok (.getfield 19, 3) := by decide +kernel
theorem d_BitStream_add_27 : decode prog_2_method_2_code 27 = .ok (.iload_n 1, 1) := by decide +kernel
theorem d_BitStream_add_28 : decode prog_2_method_2_code 28 = .ok (.iastore, 1) := by decide +kernel
theorem d_BitStream_add_29 : decode prog_2_method_2_code 29 = .ok (.aload_n 0, 1) := by decide +kernel
theorem d_BitStream_add_30 : decode prog_2_method_2_code 30 = .ok (.dup, 1) := by decide +kernel
theorem d_BitStream_add_31 : decode prog_2_method_2_code 31 = .ok (.getfield 19, 3) := by decide +kernel
theorem d_BitStream_add_34 : decode prog_2_method_2_code 34 = .ok (.iconst 1, 1) := by decide +kernel
theorem d_BitStream_add_35 : decode prog_2_method_2_code 35 = .ok (.iadd, 1) := by decide +kernel
theorem d_BitStream_add_36 : decode prog_2_method_2_code 36 = .ok (.putfield 19, 3) := by decide +kernel
theorem d_BitStream_add_39 : decode prog_2_method_2_code 39 = .ok (.iconst 1, 1) := by decide +kernel
theorem d_BitStream_add_40 : decode prog_2_method_2_code 40 = .ok (.ireturn, 1) := by decide +kernel
theorem d_BitStream_get_0 : decode prog_2_method_3_code 0 = .ok (.iload_n 1, 1) := by decide +kernel
theorem d_BitStream_get_1 : decode prog_2_method_3_code 1 = .ok (.ifCond .lt 20, 3) := by decide +kernel
theorem d_BitStream_get_4 : decode prog_2_method_3_code 4 = .ok (.iload_n 1, 1) := by decide +kernel
theorem d_BitStream_get_5 : decode prog_2_method_3_code 5 = .ok (.aload_n 0, 1) := by decide +kernel
theorem d_BitStream_get_6 : decode prog_2_method_3_code 6 = .ok (.getfield 19, 3) := by decide +kernel
theorem d_BitStream_get_9 : decode prog_2_method_3_code 9 = .ok (.if_icmp .ge 12, 3) := by decide +kernel
theorem d_BitStream_get_12 : decode prog_2_method_3_code 12 = .ok (.aload_n 0, 1) := by decide +kernel
theorem d_BitStream_get_13 : decode prog_2_method_3_code 13 = .ok (.getfield 9, 3) := by decide +kernel
theorem d_BitStream_get_16 : decode prog_2_method_3_code 16 = .ok (.iload_n 1, 1) := by decide +kernel
theorem d_BitStream_get_17 : decode prog_2_method_3_code 17 = .ok (.iaload, 1) := by decide +kernel
theorem d_BitStream_get_18 : decode prog_2_method_3_code 18 = .ok (.goto 4, 3) := by decide +kernel
theorem d_BitStream_get_21 : decode prog_2_method_3_code 21 = .ok (.iconst (-1), 1) := by decide +kernel
theorem d_BitStream_get_22 : decode prog_2_method_3_code 22 = .ok (.ireturn, 1) := by decide +kernel
theorem d_BitStream_change_0 : decode prog_2_method_4_code 0 = .ok (.iload_n 1, 1) := by decide +kernel
theorem d_BitStream_change_1 : decode prog_2_method_4_code 1 = .ok (.ifCond .lt 18, 3) := by decide +kernel
theorem d_BitStream_change_4 : decode prog_2_method_4_code 4 = .ok (.iload_n 1, 1) := by decide +kernel
theorem d_BitStream_change_5 : decode prog_2_method_4_code 5 = .ok (.aload_n 0, 1) := by decide +kernel
theorem d_BitStream_change_6 : decode prog_2_method_4_code 6 = .ok (.getfield 19, 3) := by decide +kernel
theorem d_BitStream_change_9 : decode prog_2_method_4_code 9 = .ok (.if_icmp .ge 10, 3) := by decide +kernel
theorem d_BitStream_change_12 : decode prog_2_method_4_code 12 = .ok (.iload_n 2, 1) := by decide +kernel
theorem d_BitStream_change_13 : decode prog_2_method_4_code 13 = .ok (.invokestatic 15, 3) := by decide +kernel
theorem d_BitStream_change_16 : decode prog_2_method_4_code 16 = .ok (.ifCond .ne 5, 3) := by decide +kernel
theorem d_BitStream_change_19 : decode prog_2_method_4_code 19 = .ok (.iconst 0, 1) := by decide +kernel
theorem d_BitStream_change_20 : decode prog_2_method_4_code 20 = .ok (.ireturn, 1) := by decide +kernel
theorem d_BitStream_change_21 : decode prog_2_method_4_code 21 = .ok (.aload_n 0, 1) := by decide +kernel
theorem d_BitStream_change_22 : decode prog_2_method_4_code 22 = .ok (.getfield 9, 3) := by decide +kernel
theorem d_BitStream_change_25 : decode prog_2_method_4_code 25 = .ok (.iload_n 1, 1) := by decide +kernel
theorem d_BitStream_change_26 : decode prog_2_method_4_code 26 = .ok (.iload_n 2, 1) := by decide +kernel
theorem d_BitStream_change_27 : decode prog_2_method_4_code 27 = .ok (.iastore, 1) := by decide +kernel
theorem d_BitStream_change_28 : decode prog_2_method_4_code 28 = .ok (.iconst 1, 1) := by decide +kernel
theorem d_BitStream_change_29 : decode prog_2_method_4_code 29 = .ok (.ireturn, 1) := by decide +kernel
theorem d_BitStream_keep_0 : decode prog_2_method_5_code 0 = .ok (.iload_n 1, 1) := by decide +kernel
theorem d_BitStream_keep_1 : decode prog_2_method_5_code 1 = .ok (.ifCond .lt 11, 3) := by decide +kernel
theorem d_BitStream_keep_4 : decode prog_2_method_5_code 4 = .ok (.iload_n 1, 1) := by decide +kernel
theorem d_BitStream_keep_5 : decode prog_2_method_5_code 5 = .ok (.aload_n 0, 1) := by decide +kernel
theorem d_BitStream_keep_6 : decode prog_2_method_5_code 6 = .ok (.getfield 19, 3) := by decide +kernel
theorem d_BitStream_keep_9 : decode prog_2_method_5_code 9 = .ok (.if_icmp .le 5, 3) := by decide +kernel
theorem d_BitStream_keep_12 : decode prog_2_method_5_code 12 = .ok (.iconst 0, 1) := by decide +kernel
theorem d_BitStream_keep_13 : decode prog_2_method_5_code 13 = .ok (.ireturn, 1) := by decide +kernel
theorem d_BitStream_keep_14 : decode prog_2_method_5_code 14 = .ok (.aload_n 0, 1) := by decide +kernel
theorem d_BitStream_keep_15 : decode prog_2_method_5_code 15 = .ok (.iload_n 1, 1) := by decide +kernel
theorem d_BitStream_keep_16 : decode prog_2_method_5_code 16 = .ok (.putfield 19, 3) := by decide +kernel
theorem d_BitStream_keep_19 : decode prog_2_method_5_code 19 = .ok (.iconst 1, 1) := by decide +kernel
theorem d_BitStream_keep_20 : decode prog_2_method_5_code 20 = .ok (.ireturn, 1) := by decide +kernel
theorem d_BitStream_startReading_0 : decode prog_2_method_6_code 0 = .ok (.aload_n 0, 1) := by decide +kernel
theorem d_BitStream_startReading_1 : decode prog_2_method_6_code 1 = .ok (.iconst 0, 1) := by decide +kernel
theorem d_BitStream_startReading_2 : decode prog_2_method_6_code 2 = .ok (.putfield 23, 3) := by decide +kernel
theorem d_BitStream_startReading_5 : decode prog_2_method_6_code 5 = .ok (.aload_n 0, 1) := by decide +kernel
theorem d_BitStream_startReading_6 : decode prog_2_method_6_code 6 = .ok (.iconst 0, 1) := by decide +kernel
theorem d_BitStream_startReading_7 : decode prog_2_method_6_code 7 = .ok (.putfield 26, 3) := by decide +kernel
theorem d_BitStream_startReading_10 : decode prog_2_method_6_code 10 = .ok (.return_, 1) := by decide +kernel
theorem d_BitStream_take_0 : decode prog_2_method_7_code 0 = .ok (.iconst 0, 1) := by decide +kernel
theorem d_BitStream_take_1 : decode prog_2_method_7_code 1 = .ok (.istore_n 2, 1) := by decide +kernel
theorem d_BitStream_take_2 : decode prog_2_method_7_code 2 = .ok (.iconst 0, 1) := by decide +kernel
theorem d_BitStream_take_3 : decode prog_2_method_7_code 3 = .ok (.istore_n 3, 1) := by decide +kernel
theorem d_BitStream_take_4 : decode prog_2_method_7_code 4 = .ok (.iload_n 3, 1) := by decide +kernel
theorem d_BitStream_take_5 : decode prog_2_method_7_code 5 = .ok (.iload_n 1, 1) := by decide +kernel
theorem d_BitStream_take_6 : decode prog_2_method_7_code 6 = .ok (.if_icmp .ge 67, 3) := by decide +kernel
theorem d_BitStream_take_9 : decode prog_2_method_7_code 9 = .ok (.aload_n 0, 1) := by decide +kernel
theorem d_BitStream_take_10 : decode prog_2_method_7_code 10 = .ok (.getfield 23, 3) := by decide +kernel
theorem d_BitStream_take_13 : decode prog_2_method_7_code 13 = .ok (.bipush 8, 2) := by decide +kernel
theorem d_BitStream_take_15 : decode prog_2_method_7_code 15 = .ok (.aload_n 0, 1) := by decide +kernel
theorem d_BitStream_take_16 : decode prog_2_method_7_code 16 = .ok (.getfield 19, 3) := by decide +kernel
theorem d_BitStream_take_19 : decode prog_2_method_7_code 19 = .ok (.imul, 1) := by decide +kernel
theorem d_BitStream_take_20 : decode prog_2_method_7_code 20 = .ok (.if_icmp .lt 11, 3) := by decide +kernel
theorem d_BitStream_take_23 : decode prog_2_method_7_code 23 = .ok (.aload_n 0, 1) := by decide +kernel
theorem d_BitStream_take_24 : decode prog_2_method_7_code 24 = .ok (.iconst 1, 1) := by decide +kernel
theorem d_BitStream_take_25 : decode prog_2_method_7_code 25 = .ok (.putfield 26, 3) := by decide +kernel
theorem d_BitStream_take_28 : decode prog_2_method_7_code 28 = .ok (.goto 39, 3) := by decide +kernel
theorem d_BitStream_take_31 : decode prog_2_method_7_code 31 = .ok (.iload_n 2, 1) := by decide +kernel
theorem d_BitStream_take_32 : decode prog_2_method_7_code 32 = .ok (.aload_n 0, 1) := by decide +kernel
theorem d_BitStream_take_33 : decode prog_2_method_7_code 33 = .ok (.getfield 9, 3) := by decide +kernel
theorem d_BitStream_take_36 : decode prog_2_method_7_code 36 = .ok (.aload_n 0, 1) := by decide +kernel
theorem d_BitStream_take_37 : decode prog_2_method_7_code 37 = .ok (.getfield 23, 3) := by decide +kernel
theorem d_BitStream_take_40 : decode prog_2_method_7_code 40 = .ok (.iconst 3, 1) := by decide +kernel
theorem d_BitStream_take_41 : decode prog_2_method_7_code 41 = .ok (.ishr, 1) := by decide +kernel
theorem d_BitStream_take_42 : decode prog_2_method_7_code 42 = .ok (.iaload, 1) := by decide +kernel
theorem d_BitStream_take_43 : decode prog_2_method_7_code 43 = .ok (.aload_n 0, 1) := by decide +kernel
theorem d_BitStream_take_44 : decode prog_2_method_7_code 44 = .ok (.getfield 23, 3) := by decide +kernel
theorem d_BitStream_take_47 : decode prog_2_method_7_code 47 = .ok (.bipush 7, 2) := by decide +kernel
theorem d_BitStream_take_49 : decode prog_2_method_7_code 49 = .ok (.iand, 1) := by decide +kernel
theorem d_BitStream_take_50 : decode prog_2_method_7_code 50 = .ok (.ishr, 1) := by decide +kernel
theorem d_BitStream_take_51 : decode prog_2_method_7_code 51 = .ok (.iconst 1, 1) := by decide +kernel
theorem d_BitStream_take_52 : decode prog_2_method_7_code 52 = .ok (.iand, 1) := by decide +kernel
theorem d_BitStream_take_53 : decode prog_2_method_7_code 53 = .ok (.iload_n 3, 1) := by decide +kernel
theorem d_BitStream_take_54 : decode prog_2_method_7_code 54 = .ok (.ishl, 1) := by decide +kernel
theorem d_BitStream_take_55 : decode prog_2_method_7_code 55 = .ok (.ior, 1) := by decide +kernel
theorem d_BitStream_take_56 : decode prog_2_method_7_code 56 = .ok (.istore_n 2, 1) := by decide +kernel
theorem d_BitStream_take_57 : decode prog_2_method_7_code 57 = .ok (.aload_n 0, 1) := by decide +kernel
theorem d_BitStream_take_58 : decode prog_2_method_7_code 58 = .ok (.dup, 1) := by decide +kernel
theorem d_BitStream_take_59 : decode prog_2_method_7_code 59 = .ok (.getfield 23, 3) := by decide +kernel
theorem d_BitStream_take_62 : decode prog_2_method_7_code 62 = .ok (.iconst 1, 1) := by decide +kernel
theorem d_BitStream_take_63 : decode prog_2_method_7_code 63 = .ok (.iadd, 1) := by decide +kernel
theorem d_BitStream_take_64 : decode prog_2_method_7_code 64 = .ok (.putfield 23, 3) := by decide +kernel
theorem d_BitStream_take_67 : decode prog_2_method_7_code 67 = .ok (.iinc 3 1, 3) := by decide +kernel
theorem d_BitStream_take_70 : decode prog_2_method_7_code 70 = .ok (.goto (-66), 3) := by decide +kernel
theorem d_BitStream_take_73 : decode prog_2_method_7_code 73 = .ok (.iload_n 2, 1) := by decide +kernel
theorem d_BitStream_take_74 : decode prog_2_method_7_code 74 = .ok (.ireturn, 1) := by decide +kernel
theorem d_BitStream_takeZerosToByteEnd_0 : decode prog_2_method_8_code 0 = .ok (.aload_n 0, 1) := by decide +kernel
theorem d_BitStream_takeZerosToByteEnd_1 : decode prog_2_method_8_code 1 = .ok (.getfield 23, 3) := by decide +kernel
theorem d_BitStream_takeZerosToByteEnd_4 : decode prog_2_method_8_code 4 = .ok (.ineg, 1) := by decide +kernel
theorem d_BitStream_takeZerosToByteEnd_5 : decode prog_2_method_8_code 5 = .ok (.bipush 7, 2) := by decide +kernel
theorem d_BitStream_takeZerosToByteEnd_7 : decode prog_2_method_8_code 7 = .ok (.iand, 1) := by decide +kernel
theorem d_BitStream_takeZerosToByteEnd_8 : decode prog_2_method_8_code 8 = .ok (.istore_n 1, 1) := by decide +kernel
theorem d_BitStream_takeZerosToByteEnd_9 : decode prog_2_method_8_code 9 = .ok (.aload_n 0, 1) := by decide +kernel
theorem d_BitStream_takeZerosToByteEnd_10 : decode prog_2_method_8_code 10 = .ok (.iload_n 1, 1) := by decide +kernel
theorem d_BitStream_takeZerosToByteEnd_11 : decode prog_2_method_8_code 11 = .ok (.invokevirtual 30, 3) := by decide +kernel
theorem d_BitStream_takeZerosToByteEnd_14 : decode prog_2_method_8_code 14 = .ok (.ifCond .ne 7, 3) := by decide +kernel
theorem d_BitStream_takeZerosToByteEnd_17 : decode prog_2_method_8_code 17 = .ok (.iconst 1, 1) := by decide +kernel
theorem d_BitStream_takeZerosToByteEnd_18 : decode prog_2_method_8_code 18 = .ok (.goto 4, 3) := by decide +kernel
theorem d_BitStream_takeZerosToByteEnd_21 : decode prog_2_method_8_code 21 = .ok (.iconst 0, 1) := by decide +kernel
theorem d_BitStream_takeZerosToByteEnd_22 : decode prog_2_method_8_code 22 = .ok (.ireturn, 1) := by decide +kernel
theorem d_BitStream_isReadWhole_0 : decode prog_2_method_9_code 0 = .ok (.aload_n 0, 1) := by decide +kernel
theorem d_BitStream_isReadWhole_1 : decode prog_2_method_9_code 1 = .ok (.getfield 26, 3) := by decide +kernel
theorem d_BitStream_isReadWhole_4 : decode prog_2_method_9_code 4 = .ok (.ifCond .ne 28, 3) := by decide +kernel
theorem d_BitStream_isReadWhole_7 : decode prog_2_method_9_code 7 = .ok (.aload_n 0, 1) := by decide +kernel
theorem d_BitStream_isReadWhole_8 : decode prog_2_method_9_code 8 = .ok (.invokevirtual 34, 3) := by decide +kernel
theorem d_BitStream_isReadWhole_11 : decode prog_2_method_9_code 11 = .ok (.ifCond .eq 21, 3) := by decide +kernel
theorem d_BitStream_isReadWhole_14 : decode prog_2_method_9_code 14 = .ok (.aload_n 0, 1) := by decide +kernel
theorem d_BitStream_isReadWhole_15 : decode prog_2_method_9_code 15 = .ok (.getfield 23, 3) := by decide +kernel
theorem d_BitStream_isReadWhole_18 : decode prog_2_method_9_code 18 = .ok (.bipush 8, 2) := by decide +kernel
theorem d_BitStream_isReadWhole_20 : decode prog_2_method_9_code 20 = .ok (.aload_n 0, 1) := by decide +kernel
theorem d_BitStream_isReadWhole_21 : decode prog_2_method_9_code 21 = .ok (.getfield 19, 3) := by decide +kernel
theorem d_BitStream_isReadWhole_24 : decode prog_2_method_9_code 24 = .ok (.imul, 1) := by decide +kernel
theorem d_BitStream_isReadWhole_25 : decode prog_2_method_9_code 25 = .ok (.if_icmp .ne 7, 3) := by decide +kernel
theorem d_BitStream_isReadWhole_28 : decode prog_2_method_9_code 28 = .ok (.iconst 1, 1) := by decide +kernel
theorem d_BitStream_isReadWhole_29 : decode prog_2_method_9_code 29 = .ok (.goto 4, 3) := by decide +kernel
theorem d_BitStream_isReadWhole_32 : decode prog_2_method_9_code 32 = .ok (.iconst 0, 1) := by decide +kernel
theorem d_BitStream_isReadWhole_33 : decode prog_2_method_9_code 33 = .ok (.ireturn, 1) := by decide +kernel
theorem d_BitStream_startWriting_0 : decode prog_2_method_10_code 0 = .ok (.aload_n 0, 1) := by decide +kernel
theorem d_BitStream_startWriting_1 : decode prog_2_method_10_code 1 = .ok (.iconst 0, 1) := by decide +kernel
theorem d_BitStream_startWriting_2 : decode prog_2_method_10_code 2 = .ok (.putfield 23, 3) := by decide +kernel
theorem d_BitStream_startWriting_5 : decode prog_2_method_10_code 5 = .ok (.return_, 1) := by decide +kernel
theorem d_BitStream_goBackTo_0 : decode prog_2_method_11_code 0 = .ok (.aload_n 0, 1) := by decide +kernel
theorem d_BitStream_goBackTo_1 : decode prog_2_method_11_code 1 = .ok (.iload_n 1, 1) := by decide +kernel
theorem d_BitStream_goBackTo_2 : decode prog_2_method_11_code 2 = .ok (.putfield 23, 3) := by decide +kernel
theorem d_BitStream_goBackTo_5 : decode prog_2_method_11_code 5 = .ok (.return_, 1) := by decide +kernel
theorem d_BitStream_give_0 : decode prog_2_method_12_code 0 = .ok (.iconst 0, 1) := by decide +kernel
theorem d_BitStream_give_1 : decode prog_2_method_12_code 1 = .ok (.istore_n 3, 1) := by decide +kernel
theorem d_BitStream_give_2 : decode prog_2_method_12_code 2 = .ok (.iload_n 3, 1) := by decide +kernel
theorem d_BitStream_give_3 : decode prog_2_method_12_code 3 = .ok (.iload_n 2, 1) := by decide +kernel
theorem d_BitStream_give_4 : decode prog_2_method_12_code 4 = .ok (.if_icmp .ge 87, 3) := by decide +kernel
theorem d_BitStream_give_7 : decode prog_2_method_12_code 7 = .ok (.aload_n 0, 1) := by decide +kernel
theorem d_BitStream_give_8 : decode prog_2_method_12_code 8 = .ok (.getfield 23, 3) := by decide +kernel
theorem d_BitStream_give_11 : decode prog_2_method_12_code 11 = .ok (.iconst 3, 1) := by decide +kernel
theorem d_BitStream_give_12 : decode prog_2_method_12_code 12 = .ok (.ishr, 1) := by decide +kernel
theorem d_BitStream_give_13 : decode prog_2_method_12_code 13 = .ok (.istore 4, 2) := by decide +kernel
theorem d_BitStream_give_15 : decode prog_2_method_12_code 15 = .ok (.iconst 1, 1) := by decide +kernel
theorem d_BitStream_give_16 : decode prog_2_method_12_code 16 = .ok (.aload_n 0, 1) := by decide +kernel
theorem d_BitStream_give_17 : decode prog_2_method_12_code 17 = .ok (.getfield 23, 3) := by decide +kernel
theorem d_BitStream_give_20 : decode prog_2_method_12_code 20 = .ok (.bipush 7, 2) := by decide +kernel
theorem d_BitStream_give_22 : decode prog_2_method_12_code 22 = .ok (.iand, 1) := by decide +kernel
theorem d_BitStream_give_23 : decode prog_2_method_12_code 23 = .ok (.ishl, 1) := by decide +kernel
theorem d_BitStream_give_24 : decode prog_2_method_12_code 24 = .ok (.istore 5, 2) := by decide +kernel
theorem d_BitStream_give_26 : decode prog_2_method_12_code 26 = .ok (.iload 4, 2) := by decide +kernel
theorem d_BitStream_give_28 : decode prog_2_method_12_code 28 = .ok (.sipush 200, 3) := by decide +kernel
theorem d_BitStream_give_31 : decode prog_2_method_12_code 31 = .ok (.if_icmp .ge 44, 3) := by decide +kernel
theorem d_BitStream_give_34 : decode prog_2_method_12_code 34 = .ok (.aload_n 0, 1) := by decide +kernel
theorem d_BitStream_give_35 : decode prog_2_method_12_code 35 = .ok (.getfield 9, 3) := by decide +kernel
theorem d_BitStream_give_38 : decode prog_2_method_12_code 38 = .ok (.iload 4, 2) := by decide +kernel
theorem d_BitStream_give_40 : decode prog_2_method_12_code 40 = .ok (.iload_n 1, 1) := by decide +kernel
theorem d_BitStream_give_41 : decode prog_2_method_12_code 41 = .ok (.iload_n 3, 1) := by decide +kernel
theorem d_BitStream_give_42 : decode prog_2_method_12_code 42 = .ok (.ishr, 1) := by decide +kernel
theorem d_BitStream_give_43 : decode prog_2_method_12_code 43 = .ok (.iconst 1, 1) := by decide +kernel
theorem d_BitStream_give_44 : decode prog_2_method_12_code 44 = .ok (.iand, 1) := by decide +kernel
theorem d_BitStream_give_45 : decode prog_2_method_12_code 45 = .ok (.iconst 1, 1) := by decide +kernel
theorem d_BitStream_give_46 : decode prog_2_method_12_code 46 = .ok (.if_icmp .ne 16, 3) := by decide +kernel
theorem d_BitStream_give_49 : decode prog_2_method_12_code 49 = .ok (.aload_n 0, 1) := by decide +kernel
theorem d_BitStream_give_50 : decode prog_2_method_12_code 50 = .ok (.getfield 9, 3) := by decide +kernel
theorem d_BitStream_give_53 : decode prog_2_method_12_code 53 = .ok (.iload 4, 2) := by decide +kernel
theorem d_BitStream_give_55 : decode prog_2_method_12_code 55 = .ok (.iaload, 1) := by decide +kernel
theorem d_BitStream_give_56 : decode prog_2_method_12_code 56 = .ok (.iload 5, 2) := by decide +kernel
theorem d_BitStream_give_58 : decode prog_2_method_12_code 58 = .ok (.ior, 1) := by decide +kernel
theorem d_BitStream_give_59 : decode prog_2_method_12_code 59 = .ok (.goto 15, 3) := by decide +kernel
theorem d_BitStream_give_62 : decode prog_2_method_12_code 62 = .ok (.aload_n 0, 1) := by decide +kernel
theorem d_BitStream_give_63 : decode prog_2_method_12_code 63 = .ok (.getfield 9, 3) := by decide +kernel
theorem d_BitStream_give_66 : decode prog_2_method_12_code 66 = .ok (.iload 4, 2) := by decide +kernel
theorem d_BitStream_give_68 : decode prog_2_method_12_code 68 = .ok (.iaload, 1) := by decide +kernel
theorem d_BitStream_give_69 : decode prog_2_method_12_code 69 = .ok (.iload 5, 2) := by decide +kernel
theorem d_BitStream_give_71 : decode prog_2_method_12_code 71 = .ok (.iconst (-1), 1) := by decide +kernel
theorem d_BitStream_give_72 : decode prog_2_method_12_code 72 = .ok (.ixor, 1) := by decide +kernel
theorem d_BitStream_give_73 : decode prog_2_method_12_code 73 = .ok (.iand, 1) := by decide +kernel
theorem d_BitStream_give_74 : decode prog_2_method_12_code 74 = .ok (.iastore, 1) := by decide +kernel
theorem d_BitStream_give_75 : decode prog_2_method_12_code 75 = .ok (.aload_n 0, 1) := by decide +kernel
theorem d_BitStream_give_76 : decode prog_2_method_12_code 76 = .ok (.dup, 1) := by decide +kernel
theorem d_BitStream_give_77 : decode prog_2_method_12_code 77 = .ok (.getfield 23, 3) := by decide +kernel
theorem d_BitStream_give_80 : decode prog_2_method_12_code 80 = .ok (.iconst 1, 1) := by decide +kernel
theorem d_BitStream_give_81 : decode prog_2_method_12_code 81 = .ok (.iadd, 1) := by decide +kernel
theorem d_BitStream_give_82 : decode prog_2_method_12_code 82 = .ok (.putfield 23, 3) := by decide +kernel
theorem d_BitStream_give_85 : decode prog_2_method_12_code 85 = .ok (.iinc 3 1, 3) := by decide +kernel
theorem d_BitStream_give_88 : decode prog_2_method_12_code 88 = .ok (.goto (-86), 3) := by decide +kernel
theorem d_BitStream_give_91 : decode prog_2_method_12_code 91 = .ok (.return_, 1) := by decide +kernel
theorem d_BitStream_giveZerosToByteEnd_0 : decode prog_2_method_13_code 0 = .ok (.aload_n 0, 1) := by decide +kernel
theorem d_BitStream_giveZerosToByteEnd_1 : decode prog_2_method_13_code 1 = .ok (.iconst 0, 1) := by decide +kernel
theorem d_BitStream_giveZerosToByteEnd_2 : decode prog_2_method_13_code 2 = .ok (.aload_n 0, 1) := by decide +kernel
theorem d_BitStream_giveZerosToByteEnd_3 : decode prog_2_method_13_code 3 = .ok (.getfield 23, 3) := by decide +kernel
theorem d_BitStream_giveZerosToByteEnd_6 : decode prog_2_method_13_code 6 = .ok (.ineg, 1) := by decide +kernel
theorem d_BitStream_giveZerosToByteEnd_7 : decode prog_2_method_13_code 7 = .ok (.bipush 7, 2) := by decide +kernel
theorem d_BitStream_giveZerosToByteEnd_9 : decode prog_2_method_13_code 9 = .ok (.iand, 1) := by decide +kernel
theorem d_BitStream_giveZerosToByteEnd_10 : decode prog_2_method_13_code 10 = .ok (.invokevirtual 38, 3) := by decide +kernel
theorem d_BitStream_giveZerosToByteEnd_13 : decode prog_2_method_13_code 13 = .ok (.return_, 1) := by decide +kernel
theorem d_BitStream_finishWriting_0 : decode prog_2_method_14_code 0 = .ok (.aload_n 0, 1) := by decide +kernel
theorem d_BitStream_finishWriting_1 : decode prog_2_method_14_code 1 = .ok (.invokevirtual 42, 3) := by decide +kernel
theorem d_BitStream_finishWriting_4 : decode prog_2_method_14_code 4 = .ok (.aload_n 0, 1) := by decide +kernel
theorem d_BitStream_finishWriting_5 : decode prog_2_method_14_code 5 = .ok (.aload_n 0, 1) := by decide +kernel
theorem d_BitStream_finishWriting_6 : decode prog_2_method_14_code 6 = .ok (.getfield 23, 3) := by decide +kernel
theorem d_BitStream_finishWriting_9 : decode prog_2_method_14_code 9 = .ok (.iconst 3, 1) := by decide +kernel
theorem d_BitStream_finishWriting_10 : decode prog_2_method_14_code 10 = .ok (.ishr, 1) := by decide +kernel
theorem d_BitStream_finishWriting_11 : decode prog_2_method_14_code 11 = .ok (.sipush 200, 3) := by decide +kernel
theorem d_BitStream_finishWriting_14 : decode prog_2_method_14_code 14 = .ok (.invokestatic 45, 3) := by decide +kernel
theorem d_BitStream_finishWriting_17 : decode prog_2_method_14_code 17 = .ok (.putfield 19, 3) := by decide +kernel
theorem d_BitStream_finishWriting_20 : decode prog_2_method_14_code 20 = .ok (.return_, 1) := by decide +kernel
