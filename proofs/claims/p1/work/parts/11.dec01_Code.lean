/-! decode rows of RingPacker$Code -/
theorem d_Code_init_0 : decode prog_3_method_1_code 0 = .ok (.aload_n 0, 1) := by decide +kernel
theorem d_Code_init_1 : decode prog_3_method_1_code 1 = .ok (.invokespecial 3, 3) := by decide +kernel
theorem d_Code_init_4 : decode prog_3_method_1_code 4 = .ok (.aload_n 0, 1) := by decide +kernel
theorem d_Code_init_5 : decode prog_3_method_1_code 5 = .ok (.bipush 64, 2) := by decide +kernel
theorem d_Code_init_7 : decode prog_3_method_1_code 7 = .ok (.newarray .int, 2) := by decide +kernel
theorem d_Code_init_9 : decode prog_3_method_1_code 9 = .ok (.putfield 9, 3) := by decide +kernel
theorem d_Code_init_12 : decode prog_3_method_1_code 12 = .ok (.aload_n 0, 1) := by decide +kernel
theorem d_Code_init_13 : decode prog_3_method_1_code 13 = .ok (.iload_n 1, 1) := by decide +kernel
theorem d_Code_init_14 : decode prog_3_method_1_code 14 = .ok (.putfield 15, 3) := by decide +kernel
theorem d_Code_init_17 : decode prog_3_method_1_code 17 = .ok (.aload_n 0, 1) := by decide +kernel
theorem d_Code_init_18 : decode prog_3_method_1_code 18 = .ok (.iload_n 2, 1) := by decide +kernel
theorem d_Code_init_19 : decode prog_3_method_1_code 19 = .ok (.putfield 19, 3) := by decide +kernel
theorem d_Code_init_22 : decode prog_3_method_1_code 22 = .ok (.aload_n 0, 1) := by decide +kernel
theorem d_Code_init_23 : decode prog_3_method_1_code 23 = .ok (.iload_n 1, 1) := by decide +kernel
theorem d_Code_init_24 : decode prog_3_method_1_code 24 = .ok (.newarray .int, 2) := by decide +kernel
theorem d_Code_init_26 : decode prog_3_method_1_code 26 = .ok (.putfield 22, 3) := by decide +kernel
theorem d_Code_init_29 : decode prog_3_method_1_code 29 = .ok (.aload_n 0, 1) := by decide +kernel
theorem d_Code_init_30 : decode prog_3_method_1_code 30 = .ok (.iload_n 1, 1) := by decide +kernel
theorem d_Code_init_31 : decode prog_3_method_1_code 31 = .ok (.newarray .int, 2) := by decide +kernel
theorem d_Code_init_33 : decode prog_3_method_1_code 33 = .ok (.putfield 25, 3) := by decide +kernel
theorem d_Code_init_36 : decode prog_3_method_1_code 36 = .ok (.aload_n 0, 1) := by decide +kernel
theorem d_Code_init_37 : decode prog_3_method_1_code 37 = .ok (.iload_n 1, 1) := by decide +kernel
theorem d_Code_init_38 : decode prog_3_method_1_code 38 = .ok (.newarray .int, 2) := by decide +kernel
theorem d_Code_init_40 : decode prog_3_method_1_code 40 = .ok (.putfield 28, 3) := by decide +kernel
theorem d_Code_init_43 : decode prog_3_method_1_code 43 = .ok (.return_, 1) := by decide +kernel
theorem d_Code_readDescription_0 : decode prog_3_method_2_code 0 = .ok (.aload_n 0, 1) := by decide +kernel
theorem d_Code_readDescription_1 : decode prog_3_method_2_code 1 = .ok (.invokevirtual 31, 3) := by decide +kernel
theorem d_Code_readDescription_4 : decode prog_3_method_2_code 4 = .ok (.aload_n 1, 1) := by decide +kernel
theorem d_Code_readDescription_5 : decode prog_3_method_2_code 5 = .ok (.iconst 1, 1) := by decide +kernel
theorem d_Code_readDescription_6 : decode prog_3_method_2_code 6 = .ok (.invokevirtual 34, 3) := by decide +kernel
theorem d_Code_readDescription_9 : decode prog_3_method_2_code 9 = .ok (.iconst 1, 1) := by decide +kernel
theorem d_Code_readDescription_10 : decode prog_3_method_2_code 10 = .ok (.if_icmp .ne 7, 3) := by decide +kernel
theorem d_Code_readDescription_13 : decode prog_3_method_2_code 13 = .ok (.iconst 1, 1) := by decide +kernel
theorem d_Code_readDescription_14 : decode prog_3_method_2_code 14 = .ok (.goto 4, 3) := by decide +kernel
theorem d_Code_readDescription_17 : decode prog_3_method_2_code 17 = .ok (.iconst 0, 1) := by decide +kernel
theorem d_Code_readDescription_18 : decode prog_3_method_2_code 18 = .ok (.istore_n 2, 1) := by decide +kernel
theorem d_Code_readDescription_19 : decode prog_3_method_2_code 19 = .ok (.iload_n 2, 1) := by decide +kernel
theorem d_Code_readDescription_20 : decode prog_3_method_2_code 20 = .ok (.ifCond .eq 11, 3) := by decide +kernel
theorem d_Code_readDescription_23 : decode prog_3_method_2_code 23 = .ok (.aload_n 0, 1) := by decide +kernel
theorem d_Code_readDescription_24 : decode prog_3_method_2_code 24 = .ok (.aload_n 1, 1) := by decide +kernel
theorem d_Code_readDescription_25 : decode prog_3_method_2_code 25 = .ok (.invokevirtual 40, 3) := by decide +kernel
theorem d_Code_readDescription_28 : decode prog_3_method_2_code 28 = .ok (.goto 8, 3) := by decide +kernel
theorem d_Code_readDescription_31 : decode prog_3_method_2_code 31 = .ok (.aload_n 0, 1) := by decide +kernel
theorem d_Code_readDescription_32 : decode prog_3_method_2_code 32 = .ok (.aload_n 1, 1) := by decide +kernel
theorem d_Code_readDescription_33 : decode prog_3_method_2_code 33 = .ok (.invokevirtual 44, 3) := by decide +kernel
theorem d_Code_readDescription_36 : decode prog_3_method_2_code 36 = .ok (.istore_n 3, 1) := by decide +kernel
theorem d_Code_readDescription_37 : decode prog_3_method_2_code 37 = .ok (.iload_n 3, 1) := by decide +kernel
theorem d_Code_readDescription_38 : decode prog_3_method_2_code 38 = .ok (.ifCond .eq 10, 3) := by decide +kernel
theorem d_Code_readDescription_41 : decode prog_3_method_2_code 41 = .ok (.aload_n 1, 1) := by decide +kernel
theorem d_Code_readDescription_42 : decode prog_3_method_2_code 42 = .ok (.getfield 47, 3) := by decide +kernel
theorem d_Code_readDescription_45 : decode prog_3_method_2_code 45 = .ok (.ifCond .eq 5, 3) := by decide +kernel
theorem d_Code_readDescription_48 : decode prog_3_method_2_code 48 = .ok (.iconst 0, 1) := by decide +kernel
theorem d_Code_readDescription_49 : decode prog_3_method_2_code 49 = .ok (.ireturn, 1) := by decide +kernel
theorem d_Code_readDescription_50 : decode prog_3_method_2_code 50 = .ok (.aload_n 0, 1) := by decide +kernel
theorem d_Code_readDescription_51 : decode prog_3_method_2_code 51 = .ok (.invokevirtual 51, 3) := by decide +kernel
theorem d_Code_readDescription_54 : decode prog_3_method_2_code 54 = .ok (.aload_n 0, 1) := by decide +kernel
theorem d_Code_readDescription_55 : decode prog_3_method_2_code 55 = .ok (.invokevirtual 54, 3) := by decide +kernel
theorem d_Code_readDescription_58 : decode prog_3_method_2_code 58 = .ok (.iconst 1, 1) := by decide +kernel
theorem d_Code_readDescription_59 : decode prog_3_method_2_code 59 = .ok (.ireturn, 1) := by decide +kernel
theorem d_Code_readSimple_0 : decode prog_3_method_3_code 0 = .ok (.aload_n 1, 1) := by decide +kernel
theorem d_Code_readSimple_1 : decode prog_3_method_3_code 1 = .ok (.iconst 2, 1) := by decide +kernel
theorem d_Code_readSimple_2 : decode prog_3_method_3_code 2 = .ok (.invokevirtual 34, 3) := by decide +kernel
theorem d_Code_readSimple_5 : decode prog_3_method_3_code 5 = .ok (.iconst 1, 1) := by decide +kernel
theorem d_Code_readSimple_6 : decode prog_3_method_3_code 6 = .ok (.iadd, 1) := by decide +kernel
theorem d_Code_readSimple_7 : decode prog_3_method_3_code 7 = .ok (.istore_n 2, 1) := by decide +kernel
theorem d_Code_readSimple_8 : decode prog_3_method_3_code 8 = .ok (.iconst 0, 1) := by decide +kernel
theorem d_Code_readSimple_9 : decode prog_3_method_3_code 9 = .ok (.istore_n 3, 1) := by decide +kernel
theorem d_Code_readSimple_10 : decode prog_3_method_3_code 10 = .ok (.iload_n 3, 1) := by decide +kernel
theorem d_Code_readSimple_11 : decode prog_3_method_3_code 11 = .ok (.iload_n 2, 1) := by decide +kernel
theorem d_Code_readSimple_12 : decode prog_3_method_3_code 12 = .ok (.if_icmp .ge 58, 3) := by decide +kernel
theorem d_Code_readSimple_15 : decode prog_3_method_3_code 15 = .ok (.aload_n 1, 1) := by decide +kernel
theorem d_Code_readSimple_16 : decode prog_3_method_3_code 16 = .ok (.aload_n 0, 1) := by decide +kernel
theorem d_Code_readSimple_17 : decode prog_3_method_3_code 17 = .ok (.getfield 19, 3) := by decide +kernel
theorem d_Code_readSimple_20 : decode prog_3_method_3_code 20 = .ok (.invokevirtual 34, 3) := by decide +kernel
theorem d_Code_readSimple_23 : decode prog_3_method_3_code 23 = .ok (.istore 4, 2) := by decide +kernel
theorem d_Code_readSimple_25 : decode prog_3_method_3_code 25 = .ok (.iload 4, 2) := by decide +kernel
theorem d_Code_readSimple_27 : decode prog_3_method_3_code 27 = .ok (.aload_n 0, 1) := by decide +kernel
theorem d_Code_readSimple_28 : decode prog_3_method_3_code 28 = .ok (.getfield 15, 3) := by decide +kernel
theorem d_Code_readSimple_31 : decode prog_3_method_3_code 31 = .ok (.if_icmp .ge 12, 3) := by decide +kernel
theorem d_Code_readSimple_34 : decode prog_3_method_3_code 34 = .ok (.aload_n 0, 1) := by decide +kernel
theorem d_Code_readSimple_35 : decode prog_3_method_3_code 35 = .ok (.iload 4, 2) := by decide +kernel
theorem d_Code_readSimple_37 : decode prog_3_method_3_code 37 = .ok (.invokevirtual 57, 3) := by decide +kernel
theorem d_Code_readSimple_40 : decode prog_3_method_3_code 40 = .ok (.ifCond .eq 5, 3) := by decide +kernel
theorem d_Code_readSimple_43 : decode prog_3_method_3_code 43 = .ok (.iconst 0, 1) := by decide +kernel
theorem d_Code_readSimple_44 : decode prog_3_method_3_code 44 = .ok (.ireturn, 1) := by decide +kernel
theorem d_Code_readSimple_45 : decode prog_3_method_3_code 45 = .ok (.aload_n 0, 1) := by decide +kernel
theorem d_Code_readSimple_46 : decode prog_3_method_3_code 46 = .ok (.iload 4, 2) := by decide +kernel
theorem d_Code_readSimple_48 : decode prog_3_method_3_code 48 = .ok (.iload_n 2, 1) := by decide +kernel
theorem d_Code_readSimple_49 : decode prog_3_method_3_code 49 = .ok (.iload_n 3, 1) := by decide +kernel
theorem d_Code_readSimple_50 : decode prog_3_method_3_code 50 = .ok (.ifCond .ne 7, 3) := by decide +kernel
theorem d_Code_readSimple_53 : decode prog_3_method_3_code 53 = .ok (.iconst 1, 1) := by decide +kernel
theorem d_Code_readSimple_54 : decode prog_3_method_3_code 54 = .ok (.goto 4, 3) := by decide +kernel
theorem d_Code_readSimple_57 : decode prog_3_method_3_code 57 = .ok (.iconst 0, 1) := by decide +kernel
theorem d_Code_readSimple_58 : decode prog_3_method_3_code 58 = .ok (.invokestatic 61, 3) := by decide +kernel
theorem d_Code_readSimple_61 : decode prog_3_method_3_code 61 = .ok (.invokevirtual 65, 3) := by decide +kernel
theorem d_Code_readSimple_64 : decode prog_3_method_3_code 64 = .ok (.iinc 3 1, 3) := by decide +kernel
theorem d_Code_readSimple_67 : decode prog_3_method_3_code 67 = .ok (.goto (-57), 3) := by decide +kernel
theorem d_Code_readSimple_70 : decode prog_3_method_3_code 70 = .ok (.iconst 1, 1) := by decide +kernel
theorem d_Code_readSimple_71 : decode prog_3_method_3_code 71 = .ok (.ireturn, 1) := by decide +kernel
theorem d_Code_readBitNumbers_0 : decode prog_3_method_4_code 0 = .ok (.bipush 64, 2) := by decide +kernel
theorem d_Code_readBitNumbers_2 : decode prog_3_method_4_code 2 = .ok (.istore_n 2, 1) := by decide +kernel
theorem d_Code_readBitNumbers_3 : decode prog_3_method_4_code 3 = .ok (.iconst 0, 1) := by decide +kernel
theorem d_Code_readBitNumbers_4 : decode prog_3_method_4_code 4 = .ok (.istore_n 3, 1) := by decide +kernel
theorem d_Code_readBitNumbers_5 : decode prog_3_method_4_code 5 = .ok (.iload_n 3, 1) := by decide +kernel
theorem d_Code_readBitNumbers_6 : decode prog_3_method_4_code 6 = .ok (.aload_n 0, 1) := by decide +kernel
theorem d_Code_readBitNumbers_7 : decode prog_3_method_4_code 7 = .ok (.getfield 15, 3) := by decide +kernel
theorem d_Code_readBitNumbers_10 : decode prog_3_method_4_code 10 = .ok (.if_icmp .ge 66, 3) := by decide +kernel
theorem d_Code_readBitNumbers_13 : decode prog_3_method_4_code 13 = .ok (.iload_n 2, 1) := by decide +kernel
theorem d_Code_readBitNumbers_14 : decode prog_3_method_4_code 14 = .ok (.ifCond .le 62, 3) := by decide +kernel
theorem d_Code_readBitNumbers_17 : decode prog_3_method_4_code 17 = .ok (.aload_n 1, 1) := by decide +kernel
theorem d_Code_readBitNumbers_18 : decode prog_3_method_4_code 18 = .ok (.iconst 3, 1) := by decide +kernel
theorem d_Code_readBitNumbers_19 : decode prog_3_method_4_code 19 = .ok (.invokevirtual 34, 3) := by decide +kernel
theorem d_Code_readBitNumbers_22 : decode prog_3_method_4_code 22 = .ok (.istore 4, 2) := by decide +kernel
theorem d_Code_readBitNumbers_24 : decode prog_3_method_4_code 24 = .ok (.iload 4, 2) := by decide +kernel
theorem d_Code_readBitNumbers_26 : decode prog_3_method_4_code 26 = .ok (.bipush 7, 2) := by decide +kernel
theorem d_Code_readBitNumbers_28 : decode prog_3_method_4_code 28 = .ok (.if_icmp .ne 16, 3) := by decide +kernel
theorem d_Code_readBitNumbers_31 : decode prog_3_method_4_code 31 = .ok (.iload_n 3, 1) := by decide +kernel
theorem d_Code_readBitNumbers_32 : decode prog_3_method_4_code 32 = .ok (.aload_n 1, 1) := by decide +kernel
theorem d_Code_readBitNumbers_33 : decode prog_3_method_4_code 33 = .ok (.iconst 4, 1) := by decide +kernel
theorem d_Code_readBitNumbers_34 : decode prog_3_method_4_code 34 = .ok (.invokevirtual 34, 3) := by decide +kernel
theorem d_Code_readBitNumbers_37 : decode prog_3_method_4_code 37 = .ok (.iconst 3, 1) := by decide +kernel
theorem d_Code_readBitNumbers_38 : decode prog_3_method_4_code 38 = .ok (.iadd, 1) := by decide +kernel
theorem d_Code_readBitNumbers_39 : decode prog_3_method_4_code 39 = .ok (.iadd, 1) := by decide +kernel
theorem d_Code_readBitNumbers_40 : decode prog_3_method_4_code 40 = .ok (.istore_n 3, 1) := by decide +kernel
theorem d_Code_readBitNumbers_41 : decode prog_3_method_4_code 41 = .ok (.goto (-36), 3) := by decide +kernel
theorem d_Code_readBitNumbers_44 : decode prog_3_method_4_code 44 = .ok (.iload 4, 2) := by decide +kernel
theorem d_Code_readBitNumbers_46 : decode prog_3_method_4_code 46 = .ok (.ifCond .le 24, 3) := by decide +kernel
theorem d_Code_readBitNumbers_49 : decode prog_3_method_4_code 49 = .ok (.iload_n 2, 1) := by decide +kernel
theorem d_Code_readBitNumbers_50 : decode prog_3_method_4_code 50 = .ok (.bipush 64, 2) := by decide +kernel
theorem d_Code_readBitNumbers_52 : decode prog_3_method_4_code 52 = .ok (.iload 4, 2) := by decide +kernel
theorem d_Code_readBitNumbers_54 : decode prog_3_method_4_code 54 = .ok (.ishr, 1) := by decide +kernel
theorem d_Code_readBitNumbers_55 : decode prog_3_method_4_code 55 = .ok (.isub, 1) := by decide +kernel
theorem d_Code_readBitNumbers_56 : decode prog_3_method_4_code 56 = .ok (.istore_n 2, 1) := by decide +kernel
theorem d_Code_readBitNumbers_57 : decode prog_3_method_4_code 57 = .ok (.iload_n 2, 1) := by decide +kernel
theorem d_Code_readBitNumbers_58 : decode prog_3_method_4_code 58 = .ok (.ifCond .ge 5, 3) := by decide +kernel
theorem d_Code_readBitNumbers_61 : decode prog_3_method_4_code 61 = .ok (.iconst 0, 1) := by decide +kernel
theorem d_Code_readBitNumbers_62 : decode prog_3_method_4_code 62 = .ok (.ireturn, 1) := by decide +kernel
theorem d_Code_readBitNumbers_63 : decode prog_3_method_4_code 63 = .ok (.aload_n 0, 1) := by decide +kernel
theorem d_Code_readBitNumbers_64 : decode prog_3_method_4_code 64 = .ok (.iload_n 3, 1) := by decide +kernel
theorem d_Code_readBitNumbers_65 : decode prog_3_method_4_code 65 = .ok (.iload 4, 2) := by decide +kernel
theorem d_Code_readBitNumbers_67 : decode prog_3_method_4_code 67 = .ok (.invokevirtual 65, 3) := by decide +kernel
theorem d_Code_readBitNumbers_70 : decode prog_3_method_4_code 70 = .ok (.iinc 3 1, 3) := by decide +kernel
theorem d_Code_readBitNumbers_73 : decode prog_3_method_4_code 73 = .ok (.goto (-68), 3) := by decide +kernel
theorem d_Code_readBitNumbers_76 : decode prog_3_method_4_code 76 = .ok (.iload_n 2, 1) := by decide +kernel
theorem d_Code_readBitNumbers_77 : decode prog_3_method_4_code 77 = .ok (.ifCond .ne 7, 3) := by decide +kernel
theorem d_Code_readBitNumbers_80 : decode prog_3_method_4_code 80 = .ok (.iconst 1, 1) := by decide +kernel
theorem d_Code_readBitNumbers_81 : decode prog_3_method_4_code 81 = .ok (.goto 4, 3) := by decide +kernel
theorem d_Code_readBitNumbers_84 : decode prog_3_method_4_code 84 = .ok (.iconst 0, 1) := by decide +kernel
theorem d_Code_readBitNumbers_85 : decode prog_3_method_4_code 85 = .ok (.ireturn, 1) := by decide +kernel
theorem d_Code_readWord_0 : decode prog_3_method_5_code 0 = .ok (.aload_n 0, 1) := by decide +kernel
theorem d_Code_readWord_1 : decode prog_3_method_5_code 1 = .ok (.getfield 69, 3) := by decide +kernel
theorem d_Code_readWord_4 : decode prog_3_method_5_code 4 = .ok (.iconst 1, 1) := by decide +kernel
theorem d_Code_readWord_5 : decode prog_3_method_5_code 5 = .ok (.if_icmp .ne 10, 3) := by decide +kernel
theorem d_Code_readWord_8 : decode prog_3_method_5_code 8 = .ok (.aload_n 0, 1) := by decide +kernel
theorem d_Code_readWord_9 : decode prog_3_method_5_code 9 = .ok (.getfield 9, 3) := by decide +kernel
theorem d_Code_readWord_12 : decode prog_3_method_5_code 12 = .ok (.iconst 0, 1) := by decide +kernel
theorem d_Code_readWord_13 : decode prog_3_method_5_code 13 = .ok (.iaload, 1) := by decide +kernel
theorem d_Code_readWord_14 : decode prog_3_method_5_code 14 = .ok (.ireturn, 1) := by decide +kernel
theorem d_Code_readWord_15 : decode prog_3_method_5_code 15 = .ok (.iconst 0, 1) := by decide +kernel
theorem d_Code_readWord_16 : decode prog_3_method_5_code 16 = .ok (.istore_n 2, 1) := by decide +kernel
theorem d_Code_readWord_17 : decode prog_3_method_5_code 17 = .ok (.iconst 0, 1) := by decide +kernel
theorem d_Code_readWord_18 : decode prog_3_method_5_code 18 = .ok (.istore_n 3, 1) := by decide +kernel
theorem d_Code_readWord_19 : decode prog_3_method_5_code 19 = .ok (.iconst 1, 1) := by decide +kernel
theorem d_Code_readWord_20 : decode prog_3_method_5_code 20 = .ok (.istore 4, 2) := by decide +kernel
theorem d_Code_readWord_22 : decode prog_3_method_5_code 22 = .ok (.iload 4, 2) := by decide +kernel
theorem d_Code_readWord_24 : decode prog_3_method_5_code 24 = .ok (.bipush 6, 2) := by decide +kernel
theorem d_Code_readWord_26 : decode prog_3_method_5_code 26 = .ok (.if_icmp .gt 71, 3) := by decide +kernel
theorem d_Code_readWord_29 : decode prog_3_method_5_code 29 = .ok (.iconst 2, 1) := by decide +kernel
theorem d_Code_readWord_30 : decode prog_3_method_5_code 30 = .ok (.iload_n 2, 1) := by decide +kernel
theorem d_Code_readWord_31 : decode prog_3_method_5_code 31 = .ok (.imul, 1) := by decide +kernel
theorem d_Code_readWord_32 : decode prog_3_method_5_code 32 = .ok (.aload_n 1, 1) := by decide +kernel
theorem d_Code_readWord_33 : decode prog_3_method_5_code 33 = .ok (.iconst 1, 1) := by decide +kernel
theorem d_Code_readWord_34 : decode prog_3_method_5_code 34 = .ok (.invokevirtual 34, 3) := by decide +kernel
theorem d_Code_readWord_37 : decode prog_3_method_5_code 37 = .ok (.iadd, 1) := by decide +kernel
theorem d_Code_readWord_38 : decode prog_3_method_5_code 38 = .ok (.istore_n 2, 1) := by decide +kernel
theorem d_Code_readWord_39 : decode prog_3_method_5_code 39 = .ok (.iload_n 3, 1) := by decide +kernel
theorem d_Code_readWord_40 : decode prog_3_method_5_code 40 = .ok (.aload_n 0, 1) := by decide +kernel
theorem d_Code_readWord_41 : decode prog_3_method_5_code 41 = .ok (.getfield 69, 3) := by decide +kernel
theorem d_Code_readWord_44 : decode prog_3_method_5_code 44 = .ok (.if_icmp .ge 47, 3) := by decide +kernel
theorem d_Code_readWord_47 : decode prog_3_method_5_code 47 = .ok (.aload_n 0, 1) := by decide +kernel
theorem d_Code_readWord_48 : decode prog_3_method_5_code 48 = .ok (.getfield 25, 3) := by decide +kernel
theorem d_Code_readWord_51 : decode prog_3_method_5_code 51 = .ok (.aload_n 0, 1) := by decide +kernel
theorem d_Code_readWord_52 : decode prog_3_method_5_code 52 = .ok (.getfield 9, 3) := by decide +kernel
theorem d_Code_readWord_55 : decode prog_3_method_5_code 55 = .ok (.iload_n 3, 1) := by decide +kernel
theorem d_Code_readWord_56 : decode prog_3_method_5_code 56 = .ok (.iaload, 1) := by decide +kernel
theorem d_Code_readWord_57 : decode prog_3_method_5_code 57 = .ok (.iaload, 1) := by decide +kernel
theorem d_Code_readWord_58 : decode prog_3_method_5_code 58 = .ok (.iload 4, 2) := by decide +kernel
theorem d_Code_readWord_60 : decode prog_3_method_5_code 60 = .ok (.if_icmp .ne 31, 3) := by decide +kernel
theorem d_Code_readWord_63 : decode prog_3_method_5_code 63 = .ok (.aload_n 0, 1) := by decide +kernel
theorem d_Code_readWord_64 : decode prog_3_method_5_code 64 = .ok (.getfield 28, 3) := by decide +kernel
theorem d_Code_readWord_67 : decode prog_3_method_5_code 67 = .ok (.aload_n 0, 1) := by decide +kernel
theorem d_Code_readWord_68 : decode prog_3_method_5_code 68 = .ok (.getfield 9, 3) := by decide +kernel
theorem d_Code_readWord_71 : decode prog_3_method_5_code 71 = .ok (.iload_n 3, 1) := by decide +kernel
theorem d_Code_readWord_72 : decode prog_3_method_5_code 72 = .ok (.iaload, 1) := by decide +kernel
theorem d_Code_readWord_73 : decode prog_3_method_5_code 73 = .ok (.iaload, 1) := by decide +kernel
theorem d_Code_readWord_74 : decode prog_3_method_5_code 74 = .ok (.iload_n 2, 1) := by decide +kernel
theorem d_Code_readWord_75 : decode prog_3_method_5_code 75 = .ok (.if_icmp .ne 10, 3) := by decide +kernel
theorem d_Code_readWord_78 : decode prog_3_method_5_code 78 = .ok (.aload_n 0, 1) := by decide +kernel
theorem d_Code_readWord_79 : decode prog_3_method_5_code 79 = .ok (.getfield 9, 3) := by decide +kernel
theorem d_Code_readWord_82 : decode prog_3_method_5_code 82 = .ok (.iload_n 3, 1) := by decide +kernel
theorem d_Code_readWord_83 : decode prog_3_method_5_code 83 = .ok (.iaload, 1) := by decide +kernel
theorem d_Code_readWord_84 : decode prog_3_method_5_code 84 = .ok (.ireturn, 1) := by decide +kernel
theorem d_Code_readWord_85 : decode prog_3_method_5_code 85 = .ok (.iinc 3 1, 3) := by decide +kernel
theorem d_Code_readWord_88 : decode prog_3_method_5_code 88 = .ok (.goto (-49), 3) := by decide +kernel
theorem d_Code_readWord_91 : decode prog_3_method_5_code 91 = .ok (.iinc 4 1, 3) := by decide +kernel
theorem d_Code_readWord_94 : decode prog_3_method_5_code 94 = .ok (.goto (-72), 3) := by decide +kernel
theorem d_Code_readWord_97 : decode prog_3_method_5_code 97 = .ok (.iconst (-1), 1) := by decide +kernel
theorem d_Code_readWord_98 : decode prog_3_method_5_code 98 = .ok (.ireturn, 1) := by decide +kernel
theorem d_Code_forgetTimes_0 : decode prog_3_method_6_code 0 = .ok (.iconst 0, 1) := by decide +kernel
theorem d_Code_forgetTimes_1 : decode prog_3_method_6_code 1 = .ok (.istore_n 1, 1) := by decide +kernel
theorem d_Code_forgetTimes_2 : decode prog_3_method_6_code 2 = .ok (.iload_n 1, 1) := by decide +kernel
theorem d_Code_forgetTimes_3 : decode prog_3_method_6_code 3 = .ok (.aload_n 0, 1) := by decide +kernel
theorem d_Code_forgetTimes_4 : decode prog_3_method_6_code 4 = .ok (.getfield 15, 3) := by decide +kernel
theorem d_Code_forgetTimes_7 : decode prog_3_method_6_code 7 = .ok (.if_icmp .ge 16, 3) := by decide +kernel
theorem d_Code_forgetTimes_10 : decode prog_3_method_6_code 10 = .ok (.aload_n 0, 1) := by decide +kernel
theorem d_Code_forgetTimes_11 : decode prog_3_method_6_code 11 = .ok (.getfield 22, 3) := by decide +kernel
theorem d_Code_forgetTimes_14 : decode prog_3_method_6_code 14 = .ok (.iload_n 1, 1) := by decide +kernel
theorem d_Code_forgetTimes_15 : decode prog_3_method_6_code 15 = .ok (.iconst 0, 1) := by decide +kernel
theorem d_Code_forgetTimes_16 : decode prog_3_method_6_code 16 = .ok (.iastore, 1) := by decide +kernel
theorem d_Code_forgetTimes_17 : decode prog_3_method_6_code 17 = .ok (.iinc 1 1, 3) := by decide +kernel
theorem d_Code_forgetTimes_20 : decode prog_3_method_6_code 20 = .ok (.goto (-18), 3) := by decide +kernel
theorem d_Code_forgetTimes_23 : decode prog_3_method_6_code 23 = .ok (.return_, 1) := by decide +kernel
theorem d_Code_countOnce_0 : decode prog_3_method_7_code 0 = .ok (.iload_n 1, 1) := by decide +kernel
theorem d_Code_countOnce_1 : decode prog_3_method_7_code 1 = .ok (.ifCond .lt 21, 3) := by decide +kernel
theorem d_Code_countOnce_4 : decode prog_3_method_7_code 4 = .ok (.iload_n 1, 1) := by decide +kernel
theorem d_Code_countOnce_5 : decode prog_3_method_7_code 5 = .ok (.aload_n 0, 1) := by decide +kernel
theorem d_Code_countOnce_6 : decode prog_3_method_7_code 6 = .ok (.getfield 15, 3) := by decide +kernel
theorem d_Code_countOnce_9 : decode prog_3_method_7_code 9 = .ok (.if_icmp .ge 13, 3) := by decide +kernel
theorem d_Code_countOnce_12 : decode prog_3_method_7_code 12 = .ok (.aload_n 0, 1) := by decide +kernel
theorem d_Code_countOnce_13 : decode prog_3_method_7_code 13 = .ok (.getfield 22, 3) := by decide +kernel
theorem d_Code_countOnce_16 : decode prog_3_method_7_code 16 = .ok (.iload_n 1, 1) := by decide +kernel
theorem d_Code_countOnce_17 : decode prog_3_method_7_code 17 = .ok (.dup2, 1) := by decide +kernel
theorem d_Code_countOnce_18 : decode prog_3_method_7_code 18 = .ok (.iaload, 1) := by decide +kernel
theorem d_Code_countOnce_19 : decode prog_3_method_7_code 19 = .ok (.iconst 1, 1) := by decide +kernel
theorem d_Code_countOnce_20 : decode prog_3_method_7_code 20 = .ok (.iadd, 1) := by decide +kernel
theorem d_Code_countOnce_21 : decode prog_3_method_7_code 21 = .ok (.iastore, 1) := by decide +kernel
theorem d_Code_countOnce_22 : decode prog_3_method_7_code 22 = .ok (.return_, 1) := by decide +kernel
theorem d_Code_makeFromTimes_0 : decode prog_3_method_8_code 0 = .ok (.aload_n 0, 1) := by decide +kernel
theorem d_Code_makeFromTimes_1 : decode prog_3_method_8_code 1 = .ok (.invokevirtual 31, 3) := by decide +kernel
theorem d_Code_makeFromTimes_4 : decode prog_3_method_8_code 4 = .ok (.iconst 0, 1) := by decide +kernel
theorem d_Code_makeFromTimes_5 : decode prog_3_method_8_code 5 = .ok (.istore_n 1, 1) := by decide +kernel
theorem d_Code_makeFromTimes_6 : decode prog_3_method_8_code 6 = .ok (.iload_n 1, 1) := by decide +kernel
theorem d_Code_makeFromTimes_7 : decode prog_3_method_8_code 7 = .ok (.aload_n 0, 1) := by decide +kernel
theorem d_Code_makeFromTimes_8 : decode prog_3_method_8_code 8 = .ok (.getfield 15, 3) := by decide +kernel
theorem d_Code_makeFromTimes_11 : decode prog_3_method_8_code 11 = .ok (.if_icmp .ge 24, 3) := by decide +kernel
theorem d_Code_makeFromTimes_14 : decode prog_3_method_8_code 14 = .ok (.aload_n 0, 1) := by decide +kernel
theorem d_Code_makeFromTimes_15 : decode prog_3_method_8_code 15 = .ok (.getfield 22, 3) := by decide +kernel
theorem d_Code_makeFromTimes_18 : decode prog_3_method_8_code 18 = .ok (.iload_n 1, 1) := by decide +kernel
theorem d_Code_makeFromTimes_19 : decode prog_3_method_8_code 19 = .ok (.iaload, 1) := by decide +kernel
theorem d_Code_makeFromTimes_20 : decode prog_3_method_8_code 20 = .ok (.ifCond .le 9, 3) := by decide +kernel
theorem d_Code_makeFromTimes_23 : decode prog_3_method_8_code 23 = .ok (.aload_n 0, 1) := by decide +kernel
theorem d_Code_makeFromTimes_24 : decode prog_3_method_8_code 24 = .ok (.iload_n 1, 1) := by decide +kernel
theorem d_Code_makeFromTimes_25 : decode prog_3_method_8_code 25 = .ok (.iconst 0, 1) := by decide +kernel
theorem d_Code_makeFromTimes_26 : decode prog_3_method_8_code 26 = .ok (.invokevirtual 65, 3) := by decide +kernel
theorem d_Code_makeFromTimes_29 : decode prog_3_method_8_code 29 = .ok (.iinc 1 1, 3) := by decide +kernel
theorem d_Code_makeFromTimes_32 : decode prog_3_method_8_code 32 = .ok (.goto (-26), 3) := by decide +kernel
theorem d_Code_makeFromTimes_35 : decode prog_3_method_8_code 35 = .ok (.aload_n 0, 1) := by decide +kernel
theorem d_Code_makeFromTimes_36 : decode prog_3_method_8_code 36 = .ok (.getfield 69, 3) := by decide +kernel
theorem d_Code_makeFromTimes_39 : decode prog_3_method_8_code 39 = .ok (.ifCond .ne 9, 3) := by decide +kernel
theorem d_Code_makeFromTimes_42 : decode prog_3_method_8_code 42 = .ok (.aload_n 0, 1) := by decide +kernel
theorem d_Code_makeFromTimes_43 : decode prog_3_method_8_code 43 = .ok (.iconst 0, 1) := by decide +kernel
theorem d_Code_makeFromTimes_44 : decode prog_3_method_8_code 44 = .ok (.iconst 0, 1) := by decide +kernel
theorem d_Code_makeFromTimes_45 : decode prog_3_method_8_code 45 = .ok (.invokevirtual 65, 3) := by decide +kernel
theorem d_Code_makeFromTimes_48 : decode prog_3_method_8_code 48 = .ok (.aload_n 0, 1) := by decide +kernel
theorem d_Code_makeFromTimes_49 : decode prog_3_method_8_code 49 = .ok (.getfield 69, 3) := by decide +kernel
theorem d_Code_makeFromTimes_52 : decode prog_3_method_8_code 52 = .ok (.iconst 4, 1) := by decide +kernel
theorem d_Code_makeFromTimes_53 : decode prog_3_method_8_code 53 = .ok (.if_icmp .gt 10, 3) := by decide +kernel
theorem d_Code_makeFromTimes_56 : decode prog_3_method_8_code 56 = .ok (.aload_n 0, 1) := by decide +kernel
theorem d_Code_makeFromTimes_57 : decode prog_3_method_8_code 57 = .ok (.invokevirtual 72, 3) := by decide +kernel
theorem d_Code_makeFromTimes_60 : decode prog_3_method_8_code 60 = .ok (.goto 11, 3) := by decide +kernel
theorem d_Code_makeFromTimes_63 : decode prog_3_method_8_code 63 = .ok (.aload_n 0, 1) := by decide +kernel
theorem d_Code_makeFromTimes_64 : decode prog_3_method_8_code 64 = .ok (.aload_n 0, 1) := by decide +kernel
theorem d_Code_makeFromTimes_65 : decode prog_3_method_8_code 65 = .ok (.invokevirtual 75, 3) := by decide +kernel
theorem d_Code_makeFromTimes_68 : decode prog_3_method_8_code 68 = .ok (.invokevirtual 79, 3) := by decide +kernel
theorem d_Code_makeFromTimes_71 : decode prog_3_method_8_code 71 = .ok (.aload_n 0, 1) := by decide +kernel
theorem d_Code_makeFromTimes_72 : decode prog_3_method_8_code 72 = .ok (.invokevirtual 51, 3) := by decide +kernel
theorem d_Code_makeFromTimes_75 : decode prog_3_method_8_code 75 = .ok (.aload_n 0, 1) := by decide +kernel
theorem d_Code_makeFromTimes_76 : decode prog_3_method_8_code 76 = .ok (.invokevirtual 54, 3) := by decide +kernel
theorem d_Code_makeFromTimes_79 : decode prog_3_method_8_code 79 = .ok (.return_, 1) := by decide +kernel
theorem d_Code_chooseSimpleBits_0 : decode prog_3_method_9_code 0 = .ok (.iconst 0, 1) := by decide +kernel
theorem d_Code_chooseSimpleBits_1 : decode prog_3_method_9_code 1 = .ok (.istore_n 1, 1) := by decide +kernel
theorem d_Code_chooseSimpleBits_2 : decode prog_3_method_9_code 2 = .ok (.iconst 1, 1) := by decide +kernel
theorem d_Code_chooseSimpleBits_3 : decode prog_3_method_9_code 3 = .ok (.istore_n 2, 1) := by decide +kernel
theorem d_Code_chooseSimpleBits_4 : decode prog_3_method_9_code 4 = .ok (.iload_n 2, 1) := by decide +kernel
theorem d_Code_chooseSimpleBits_5 : decode prog_3_method_9_code 5 = .ok (.aload_n 0, 1) := by decide +kernel
theorem d_Code_chooseSimpleBits_6 : decode prog_3_method_9_code 6 = .ok (.getfield 69, 3) := by decide +kernel
theorem d_Code_chooseSimpleBits_9 : decode prog_3_method_9_code 9 = .ok (.if_icmp .ge 36, 3) := by decide +kernel
theorem d_Code_chooseSimpleBits_12 : decode prog_3_method_9_code 12 = .ok (.aload_n 0, 1) := by decide +kernel
theorem d_Code_chooseSimpleBits_13 : decode prog_3_method_9_code 13 = .ok (.getfield 22, 3) := by decide +kernel
theorem d_Code_chooseSimpleBits_16 : decode prog_3_method_9_code 16 = .ok (.aload_n 0, 1) := by decide +kernel
theorem d_Code_chooseSimpleBits_17 : decode prog_3_method_9_code 17 = .ok (.getfield 9, 3) := by decide +kernel
theorem d_Code_chooseSimpleBits_20 : decode prog_3_method_9_code 20 = .ok (.iload_n 2, 1) := by decide +kernel
theorem d_Code_chooseSimpleBits_21 : decode prog_3_method_9_code 21 = .ok (.iaload, 1) := by decide +kernel
theorem d_Code_chooseSimpleBits_22 : decode prog_3_method_9_code 22 = .ok (.iaload, 1) := by decide +kernel
theorem d_Code_chooseSimpleBits_23 : decode prog_3_method_9_code 23 = .ok (.aload_n 0, 1) := by decide +kernel
theorem d_Code_chooseSimpleBits_24 : decode prog_3_method_9_code 24 = .ok (.getfield 22, 3) := by decide +kernel
theorem d_Code_chooseSimpleBits_27 : decode prog_3_method_9_code 27 = .ok (.aload_n 0, 1) := by decide +kernel
theorem d_Code_chooseSimpleBits_28 : decode prog_3_method_9_code 28 = .ok (.getfield 9, 3) := by decide +kernel
theorem d_Code_chooseSimpleBits_31 : decode prog_3_method_9_code 31 = .ok (.iload_n 1, 1) := by decide +kernel
theorem d_Code_chooseSimpleBits_32 : decode prog_3_method_9_code 32 = .ok (.iaload, 1) := by decide +kernel
theorem d_Code_chooseSimpleBits_33 : decode prog_3_method_9_code 33 = .ok (.iaload, 1) := by decide +kernel
theorem d_Code_chooseSimpleBits_34 : decode prog_3_method_9_code 34 = .ok (.if_icmp .le 5, 3) := by decide +kernel
theorem d_Code_chooseSimpleBits_37 : decode prog_3_method_9_code 37 = .ok (.iload_n 2, 1) := by decide +kernel
theorem d_Code_chooseSimpleBits_38 : decode prog_3_method_9_code 38 = .ok (.istore_n 1, 1) := by decide +kernel
theorem d_Code_chooseSimpleBits_39 : decode prog_3_method_9_code 39 = .ok (.iinc 2 1, 3) := by decide +kernel
theorem d_Code_chooseSimpleBits_42 : decode prog_3_method_9_code 42 = .ok (.goto (-38), 3) := by decide +kernel
theorem d_Code_chooseSimpleBits_45 : decode prog_3_method_9_code 45 = .ok (.iconst 0, 1) := by decide +kernel
theorem d_Code_chooseSimpleBits_46 : decode prog_3_method_9_code 46 = .ok (.istore_n 2, 1) := by decide +kernel
theorem d_Code_chooseSimpleBits_47 : decode prog_3_method_9_code 47 = .ok (.iload_n 2, 1) := by decide +kernel
theorem d_Code_chooseSimpleBits_48 : decode prog_3_method_9_code 48 = .ok (.aload_n 0, 1) := by decide +kernel
theorem d_Code_chooseSimpleBits_49 : decode prog_3_method_9_code 49 = .ok (.getfield 69, 3) := by decide +kernel
theorem d_Code_chooseSimpleBits_52 : decode prog_3_method_9_code 52 = .ok (.if_icmp .ge 37, 3) := by decide +kernel
theorem d_Code_chooseSimpleBits_55 : decode prog_3_method_9_code 55 = .ok (.aload_n 0, 1) := by decide +kernel
theorem d_Code_chooseSimpleBits_56 : decode prog_3_method_9_code 56 = .ok (.getfield 25, 3) := by decide +kernel
theorem d_Code_chooseSimpleBits_59 : decode prog_3_method_9_code 59 = .ok (.aload_n 0, 1) := by decide +kernel
theorem d_Code_chooseSimpleBits_60 : decode prog_3_method_9_code 60 = .ok (.getfield 9, 3) := by decide +kernel
theorem d_Code_chooseSimpleBits_63 : decode prog_3_method_9_code 63 = .ok (.iload_n 2, 1) := by decide +kernel
theorem d_Code_chooseSimpleBits_64 : decode prog_3_method_9_code 64 = .ok (.iaload, 1) := by decide +kernel
theorem d_Code_chooseSimpleBits_65 : decode prog_3_method_9_code 65 = .ok (.aload_n 0, 1) := by decide +kernel
theorem d_Code_chooseSimpleBits_66 : decode prog_3_method_9_code 66 = .ok (.getfield 69, 3) := by decide +kernel
theorem d_Code_chooseSimpleBits_69 : decode prog_3_method_9_code 69 = .ok (.iload_n 2, 1) := by decide +kernel
theorem d_Code_chooseSimpleBits_70 : decode prog_3_method_9_code 70 = .ok (.iload_n 1, 1) := by decide +kernel
theorem d_Code_chooseSimpleBits_71 : decode prog_3_method_9_code 71 = .ok (.if_icmp .ne 7, 3) := by decide +kernel
theorem d_Code_chooseSimpleBits_74 : decode prog_3_method_9_code 74 = .ok (.iconst 1, 1) := by decide +kernel
theorem d_Code_chooseSimpleBits_75 : decode prog_3_method_9_code 75 = .ok (.goto 4, 3) := by decide +kernel
theorem d_Code_chooseSimpleBits_78 : decode prog_3_method_9_code 78 = .ok (.iconst 0, 1) := by decide +kernel
theorem d_Code_chooseSimpleBits_79 : decode prog_3_method_9_code 79 = .ok (.invokestatic 61, 3) := by decide +kernel
theorem d_Code_chooseSimpleBits_82 : decode prog_3_method_9_code 82 = .ok (.iastore, 1) := by decide +kernel
theorem d_Code_chooseSimpleBits_83 : decode prog_3_method_9_code 83 = .ok (.iinc 2 1, 3) := by decide +kernel
theorem d_Code_chooseSimpleBits_86 : decode prog_3_method_9_code 86 = .ok (.goto (-39), 3) := by decide +kernel
theorem d_Code_chooseSimpleBits_89 : decode prog_3_method_9_code 89 = .ok (.return_, 1) := by decide +kernel
theorem d_Code_chooseFirstBits_0 : decode prog_3_method_10_code 0 = .ok (.iconst 0, 1) := by decide +kernel
theorem d_Code_chooseFirstBits_1 : decode prog_3_method_10_code 1 = .ok (.istore_n 1, 1) := by decide +kernel
theorem d_Code_chooseFirstBits_2 : decode prog_3_method_10_code 2 = .ok (.iconst 0, 1) := by decide +kernel
theorem d_Code_chooseFirstBits_3 : decode prog_3_method_10_code 3 = .ok (.istore_n 2, 1) := by decide +kernel
theorem d_Code_chooseFirstBits_4 : decode prog_3_method_10_code 4 = .ok (.iload_n 2, 1) := by decide +kernel
theorem d_Code_chooseFirstBits_5 : decode prog_3_method_10_code 5 = .ok (.aload_n 0, 1) := by decide +kernel
theorem d_Code_chooseFirstBits_6 : decode prog_3_method_10_code 6 = .ok (.getfield 69, 3) := by decide +kernel
theorem d_Code_chooseFirstBits_9 : decode prog_3_method_10_code 9 = .ok (.if_icmp .ge 23, 3) := by decide +kernel
theorem d_Code_chooseFirstBits_12 : decode prog_3_method_10_code 12 = .ok (.iload_n 1, 1) := by decide +kernel
theorem d_Code_chooseFirstBits_13 : decode prog_3_method_10_code 13 = .ok (.aload_n 0, 1) := by decide +kernel
theorem d_Code_chooseFirstBits_14 : decode prog_3_method_10_code 14 = .ok (.getfield 22, 3) := by decide +kernel
theorem d_Code_chooseFirstBits_17 : decode prog_3_method_10_code 17 = .ok (.aload_n 0, 1) := by decide +kernel
theorem d_Code_chooseFirstBits_18 : decode prog_3_method_10_code 18 = .ok (.getfield 9, 3) := by decide +kernel
theorem d_Code_chooseFirstBits_21 : decode prog_3_method_10_code 21 = .ok (.iload_n 2, 1) := by decide +kernel
theorem d_Code_chooseFirstBits_22 : decode prog_3_method_10_code 22 = .ok (.iaload, 1) := by decide +kernel
theorem d_Code_chooseFirstBits_23 : decode prog_3_method_10_code 23 = .ok (.iaload, 1) := by decide +kernel
theorem d_Code_chooseFirstBits_24 : decode prog_3_method_10_code 24 = .ok (.iadd, 1) := by decide +kernel
theorem d_Code_chooseFirstBits_25 : decode prog_3_method_10_code 25 = .ok (.istore_n 1, 1) := by decide +kernel
theorem d_Code_chooseFirstBits_26 : decode prog_3_method_10_code 26 = .ok (.iinc 2 1, 3) := by decide +kernel
theorem d_Code_chooseFirstBits_29 : decode prog_3_method_10_code 29 = .ok (.goto (-25), 3) := by decide +kernel
theorem d_Code_chooseFirstBits_32 : decode prog_3_method_10_code 32 = .ok (.bipush 64, 2) := by decide +kernel
theorem d_Code_chooseFirstBits_34 : decode prog_3_method_10_code 34 = .ok (.istore_n 2, 1) := by decide +kernel
theorem d_Code_chooseFirstBits_35 : decode prog_3_method_10_code 35 = .ok (.iconst 0, 1) := by decide +kernel
theorem d_Code_chooseFirstBits_36 : decode prog_3_method_10_code 36 = .ok (.istore_n 3, 1) := by decide +kernel
theorem d_Code_chooseFirstBits_37 : decode prog_3_method_10_code 37 = .ok (.iload_n 3, 1) := by decide +kernel
theorem d_Code_chooseFirstBits_38 : decode prog_3_method_10_code 38 = .ok (.aload_n 0, 1) := by decide +kernel
theorem d_Code_chooseFirstBits_39 : decode prog_3_method_10_code 39 = .ok (.getfield 69, 3) := by decide +kernel
theorem d_Code_chooseFirstBits_42 : decode prog_3_method_10_code 42 = .ok (.if_icmp .ge 64, 3) := by decide +kernel
theorem d_Code_chooseFirstBits_45 : decode prog_3_method_10_code 45 = .ok (.iconst 1, 1) := by decide +kernel
theorem d_Code_chooseFirstBits_46 : decode prog_3_method_10_code 46 = .ok (.istore 4, 2) := by decide +kernel
theorem d_Code_chooseFirstBits_48 : decode prog_3_method_10_code 48 = .ok (.iload 4, 2) := by decide +kernel
theorem d_Code_chooseFirstBits_50 : decode prog_3_method_10_code 50 = .ok (.bipush 6, 2) := by decide +kernel
theorem d_Code_chooseFirstBits_52 : decode prog_3_method_10_code 52 = .ok (.if_icmp .ge 27, 3) := by decide +kernel
theorem d_Code_chooseFirstBits_55 : decode prog_3_method_10_code 55 = .ok (.aload_n 0, 1) := by decide +kernel
theorem d_Code_chooseFirstBits_56 : decode prog_3_method_10_code 56 = .ok (.getfield 22, 3) := by decide +kernel
theorem d_Code_chooseFirstBits_59 : decode prog_3_method_10_code 59 = .ok (.aload_n 0, 1) := by decide +kernel
theorem d_Code_chooseFirstBits_60 : decode prog_3_method_10_code 60 = .ok (.getfield 9, 3) := by decide +kernel
theorem d_Code_chooseFirstBits_63 : decode prog_3_method_10_code 63 = .ok (.iload_n 3, 1) := by decide +kernel
theorem d_Code_chooseFirstBits_64 : decode prog_3_method_10_code 64 = .ok (.iaload, 1) := by decide +kernel
theorem d_Code_chooseFirstBits_65 : decode prog_3_method_10_code 65 = .ok (.iaload, 1) := by decide +kernel
theorem d_Code_chooseFirstBits_66 : decode prog_3_method_10_code 66 = .ok (.iload 4, 2) := by decide +kernel
theorem d_Code_chooseFirstBits_68 : decode prog_3_method_10_code 68 = .ok (.ishl, 1) := by decide +kernel
theorem d_Code_chooseFirstBits_69 : decode prog_3_method_10_code 69 = .ok (.iload_n 1, 1) := by decide +kernel
theorem d_Code_chooseFirstBits_70 : decode prog_3_method_10_code 70 = .ok (.if_icmp .ge 9, 3) := by decide +kernel
theorem d_Code_chooseFirstBits_73 : decode prog_3_method_10_code 73 = .ok (.iinc 4 1, 3) := by decide +kernel
theorem d_Code_chooseFirstBits_76 : decode prog_3_method_10_code 76 = .ok (.goto (-28), 3) := by decide +kernel
theorem d_Code_chooseFirstBits_79 : decode prog_3_method_10_code 79 = .ok (.aload_n 0, 1) := by decide +kernel
theorem d_Code_chooseFirstBits_80 : decode prog_3_method_10_code 80 = .ok (.getfield 25, 3) := by decide +kernel
theorem d_Code_chooseFirstBits_83 : decode prog_3_method_10_code 83 = .ok (.aload_n 0, 1) := by decide +kernel
theorem d_Code_chooseFirstBits_84 : decode prog_3_method_10_code 84 = .ok (.getfield 9, 3) := by decide +kernel
theorem d_Code_chooseFirstBits_87 : decode prog_3_method_10_code 87 = .ok (.iload_n 3, 1) := by decide +kernel
theorem d_Code_chooseFirstBits_88 : decode prog_3_method_10_code 88 = .ok (.iaload, 1) := by decide +kernel
theorem d_Code_chooseFirstBits_89 : decode prog_3_method_10_code 89 = .ok (.iload 4, 2) := by decide +kernel
theorem d_Code_chooseFirstBits_91 : decode prog_3_method_10_code 91 = .ok (.iastore, 1) := by decide +kernel
theorem d_Code_chooseFirstBits_92 : decode prog_3_method_10_code 92 = .ok (.iload_n 2, 1) := by decide +kernel
theorem d_Code_chooseFirstBits_93 : decode prog_3_method_10_code 93 = .ok (.bipush 64, 2) := by decide +kernel
theorem d_Code_chooseFirstBits_95 : decode prog_3_method_10_code 95 = .ok (.iload 4, 2) := by decide +kernel
theorem d_Code_chooseFirstBits_97 : decode prog_3_method_10_code 97 = .ok (.ishr, 1) := by decide +kernel
theorem d_Code_chooseFirstBits_98 : decode prog_3_method_10_code 98 = .ok (.isub, 1) := by decide +kernel
theorem d_Code_chooseFirstBits_99 : decode prog_3_method_10_code 99 = .ok (.istore_n 2, 1) := by decide +kernel
theorem d_Code_chooseFirstBits_100 : decode prog_3_method_10_code 100 = .ok (.iinc 3 1, 3) := by decide +kernel
theorem d_Code_chooseFirstBits_103 : decode prog_3_method_10_code 103 = .ok (.goto (-66), 3) := by decide +kernel
theorem d_Code_chooseFirstBits_106 : decode prog_3_method_10_code 106 = .ok (.iload_n 2, 1) := by decide +kernel
theorem d_Code_chooseFirstBits_107 : decode prog_3_method_10_code 107 = .ok (.ireturn, 1) := by decide +kernel
theorem d_Code_spreadSpace_0 : decode prog_3_method_11_code 0 = .ok (.iload_n 1, 1) := by decide +kernel
theorem d_Code_spreadSpace_1 : decode prog_3_method_11_code 1 = .ok (.istore_n 2, 1) := by decide +kernel
theorem d_Code_spreadSpace_2 : decode prog_3_method_11_code 2 = .ok (.iconst 0, 1) := by decide +kernel
theorem d_Code_spreadSpace_3 : decode prog_3_method_11_code 3 = .ok (.istore_n 3, 1) := by decide +kernel
theorem d_Code_spreadSpace_4 : decode prog_3_method_11_code 4 = .ok (.iload_n 3, 1) := by decide +kernel
theorem d_Code_spreadSpace_5 : decode prog_3_method_11_code 5 = .ok (.sipush 384, 3) := by decide +kernel
theorem d_Code_spreadSpace_8 : decode prog_3_method_11_code 8 = .ok (.if_icmp .ge 85, 3) := by decide +kernel
theorem d_Code_spreadSpace_11 : decode prog_3_method_11_code 11 = .ok (.iload_n 2, 1) := by decide +kernel
theorem d_Code_spreadSpace_12 : decode prog_3_method_11_code 12 = .ok (.ifCond .le 81, 3) := by decide +kernel
theorem d_Code_spreadSpace_15 : decode prog_3_method_11_code 15 = .ok (.iconst 0, 1) := by decide +kernel
theorem d_Code_spreadSpace_16 : decode prog_3_method_11_code 16 = .ok (.istore 4, 2) := by decide +kernel
theorem d_Code_spreadSpace_18 : decode prog_3_method_11_code 18 = .ok (.iload 4, 2) := by decide +kernel
theorem d_Code_spreadSpace_20 : decode prog_3_method_11_code 20 = .ok (.aload_n 0, 1) := by decide +kernel
theorem d_Code_spreadSpace_21 : decode prog_3_method_11_code 21 = .ok (.getfield 69, 3) := by decide +kernel
theorem d_Code_spreadSpace_24 : decode prog_3_method_11_code 24 = .ok (.if_icmp .ge 63, 3) := by decide +kernel
theorem d_Code_spreadSpace_27 : decode prog_3_method_11_code 27 = .ok (.aload_n 0, 1) := by decide +kernel
theorem d_Code_spreadSpace_28 : decode prog_3_method_11_code 28 = .ok (.getfield 25, 3) := by decide +kernel
theorem d_Code_spreadSpace_31 : decode prog_3_method_11_code 31 = .ok (.aload_n 0, 1) := by decide +kernel
theorem d_Code_spreadSpace_32 : decode prog_3_method_11_code 32 = .ok (.getfield 9, 3) := by decide +kernel
theorem d_Code_spreadSpace_35 : decode prog_3_method_11_code 35 = .ok (.iload 4, 2) := by decide +kernel
theorem d_Code_spreadSpace_37 : decode prog_3_method_11_code 37 = .ok (.iaload, 1) := by decide +kernel
theorem d_Code_spreadSpace_38 : decode prog_3_method_11_code 38 = .ok (.iaload, 1) := by decide +kernel
theorem d_Code_spreadSpace_39 : decode prog_3_method_11_code 39 = .ok (.istore 5, 2) := by decide +kernel
theorem d_Code_spreadSpace_41 : decode prog_3_method_11_code 41 = .ok (.bipush 64, 2) := by decide +kernel
theorem d_Code_spreadSpace_43 : decode prog_3_method_11_code 43 = .ok (.iload 5, 2) := by decide +kernel
theorem d_Code_spreadSpace_45 : decode prog_3_method_11_code 45 = .ok (.ishr, 1) := by decide +kernel
theorem d_Code_spreadSpace_46 : decode prog_3_method_11_code 46 = .ok (.istore 6, 2) := by decide +kernel
theorem d_Code_spreadSpace_48 : decode prog_3_method_11_code 48 = .ok (.iload 5, 2) := by decide +kernel
theorem d_Code_spreadSpace_50 : decode prog_3_method_11_code 50 = .ok (.iconst 1, 1) := by decide +kernel
theorem d_Code_spreadSpace_51 : decode prog_3_method_11_code 51 = .ok (.if_icmp .le 30, 3) := by decide +kernel
theorem d_Code_spreadSpace_54 : decode prog_3_method_11_code 54 = .ok (.iload 6, 2) := by decide +kernel
theorem d_Code_spreadSpace_56 : decode prog_3_method_11_code 56 = .ok (.iload_n 2, 1) := by decide +kernel
theorem d_Code_spreadSpace_57 : decode prog_3_method_11_code 57 = .ok (.if_icmp .gt 24, 3) := by decide +kernel
theorem d_Code_spreadSpace_60 : decode prog_3_method_11_code 60 = .ok (.aload_n 0, 1) := by decide +kernel
theorem d_Code_spreadSpace_61 : decode prog_3_method_11_code 61 = .ok (.getfield 25, 3) := by decide +kernel
theorem d_Code_spreadSpace_64 : decode prog_3_method_11_code 64 = .ok (.aload_n 0, 1) := by decide +kernel
theorem d_Code_spreadSpace_65 : decode prog_3_method_11_code 65 = .ok (.getfield 9, 3) := by decide +kernel
theorem d_Code_spreadSpace_68 : decode prog_3_method_11_code 68 = .ok (.iload 4, 2) := by decide +kernel
theorem d_Code_spreadSpace_70 : decode prog_3_method_11_code 70 = .ok (.iaload, 1) := by decide +kernel
theorem d_Code_spreadSpace_71 : decode prog_3_method_11_code 71 = .ok (.iload 5, 2) := by decide +kernel
theorem d_Code_spreadSpace_73 : decode prog_3_method_11_code 73 = .ok (.iconst 1, 1) := by decide +kernel
theorem d_Code_spreadSpace_74 : decode prog_3_method_11_code 74 = .ok (.isub, 1) := by decide +kernel
theorem d_Code_spreadSpace_75 : decode prog_3_method_11_code 75 = .ok (.iastore, 1) := by decide +kernel
theorem d_Code_spreadSpace_76 : decode prog_3_method_11_code 76 = .ok (.iload_n 2, 1) := by decide +kernel
theorem d_Code_spreadSpace_77 : decode prog_3_method_11_code 77 = .ok (.iload 6, 2) := by decide +kernel
theorem d_Code_spreadSpace_79 : decode prog_3_method_11_code 79 = .ok (.isub, 1) := by decide +kernel
theorem d_Code_spreadSpace_80 : decode prog_3_method_11_code 80 = .ok (.istore_n 2, 1) := by decide +kernel
theorem d_Code_spreadSpace_81 : decode prog_3_method_11_code 81 = .ok (.iinc 4 1, 3) := by decide +kernel
theorem d_Code_spreadSpace_84 : decode prog_3_method_11_code 84 = .ok (.goto (-66), 3) := by decide +kernel
theorem d_Code_spreadSpace_87 : decode prog_3_method_11_code 87 = .ok (.iinc 3 1, 3) := by decide +kernel
theorem d_Code_spreadSpace_90 : decode prog_3_method_11_code 90 = .ok (.goto (-86), 3) := by decide +kernel
theorem d_Code_spreadSpace_93 : decode prog_3_method_11_code 93 = .ok (.return_, 1) := by decide +kernel
theorem d_Code_writeDescription_0 : decode prog_3_method_12_code 0 = .ok (.aload_n 0, 1) := by decide +kernel
theorem d_Code_writeDescription_1 : decode prog_3_method_12_code 1 = .ok (.getfield 69, 3) := by decide +kernel
theorem d_Code_writeDescription_4 : decode prog_3_method_12_code 4 = .ok (.iconst 4, 1) := by decide +kernel
theorem d_Code_writeDescription_5 : decode prog_3_method_12_code 5 = .ok (.if_icmp .le 15, 3) := by decide +kernel
theorem d_Code_writeDescription_8 : decode prog_3_method_12_code 8 = .ok (.aload_n 1, 1) := by decide +kernel
theorem d_Code_writeDescription_9 : decode prog_3_method_12_code 9 = .ok (.iconst 0, 1) := by decide +kernel
theorem d_Code_writeDescription_10 : decode prog_3_method_12_code 10 = .ok (.iconst 1, 1) := by decide +kernel
theorem d_Code_writeDescription_11 : decode prog_3_method_12_code 11 = .ok (.invokevirtual 83, 3) := by decide +kernel
theorem d_Code_writeDescription_14 : decode prog_3_method_12_code 14 = .ok (.aload_n 0, 1) := by decide +kernel
theorem d_Code_writeDescription_15 : decode prog_3_method_12_code 15 = .ok (.aload_n 1, 1) := by decide +kernel
theorem d_Code_writeDescription_16 : decode prog_3_method_12_code 16 = .ok (.invokevirtual 86, 3) := by decide +kernel
theorem d_Code_writeDescription_19 : decode prog_3_method_12_code 19 = .ok (.return_, 1) := by decide +kernel
theorem d_Code_writeDescription_20 : decode prog_3_method_12_code 20 = .ok (.aload_n 1, 1) := by decide +kernel
theorem d_Code_writeDescription_21 : decode prog_3_method_12_code 21 = .ok (.iconst 1, 1) := by decide +kernel
theorem d_Code_writeDescription_22 : decode prog_3_method_12_code 22 = .ok (.iconst 1, 1) := by decide +kernel
theorem d_Code_writeDescription_23 : decode prog_3_method_12_code 23 = .ok (.invokevirtual 83, 3) := by decide +kernel
theorem d_Code_writeDescription_26 : decode prog_3_method_12_code 26 = .ok (.aload_n 1, 1) := by decide +kernel
theorem d_Code_writeDescription_27 : decode prog_3_method_12_code 27 = .ok (.aload_n 0, 1) := by decide +kernel
theorem d_Code_writeDescription_28 : decode prog_3_method_12_code 28 = .ok (.getfield 69, 3) := by decide +kernel
theorem d_Code_writeDescription_31 : decode prog_3_method_12_code 31 = .ok (.iconst 1, 1) := by decide +kernel
theorem d_Code_writeDescription_32 : decode prog_3_method_12_code 32 = .ok (.isub, 1) := by decide +kernel
theorem d_Code_writeDescription_33 : decode prog_3_method_12_code 33 = .ok (.iconst 2, 1) := by decide +kernel
theorem d_Code_writeDescription_34 : decode prog_3_method_12_code 34 = .ok (.invokevirtual 83, 3) := by decide +kernel
theorem d_Code_writeDescription_37 : decode prog_3_method_12_code 37 = .ok (.iconst 0, 1) := by decide +kernel
theorem d_Code_writeDescription_38 : decode prog_3_method_12_code 38 = .ok (.istore_n 2, 1) := by decide +kernel
theorem d_Code_writeDescription_39 : decode prog_3_method_12_code 39 = .ok (.iload_n 2, 1) := by decide +kernel
theorem d_Code_writeDescription_40 : decode prog_3_method_12_code 40 = .ok (.aload_n 0, 1) := by decide +kernel
theorem d_Code_writeDescription_41 : decode prog_3_method_12_code 41 = .ok (.getfield 69, 3) := by decide +kernel
theorem d_Code_writeDescription_44 : decode prog_3_method_12_code 44 = .ok (.if_icmp .ge 23, 3) := by decide +kernel
theorem d_Code_writeDescription_47 : decode prog_3_method_12_code 47 = .ok (.aload_n 1, 1) := by decide +kernel
theorem d_Code_writeDescription_48 : decode prog_3_method_12_code 48 = .ok (.aload_n 0, 1) := by decide +kernel
theorem d_Code_writeDescription_49 : decode prog_3_method_12_code 49 = .ok (.getfield 9, 3) := by decide +kernel
theorem d_Code_writeDescription_52 : decode prog_3_method_12_code 52 = .ok (.iload_n 2, 1) := by decide +kernel
theorem d_Code_writeDescription_53 : decode prog_3_method_12_code 53 = .ok (.iaload, 1) := by decide +kernel
theorem d_Code_writeDescription_54 : decode prog_3_method_12_code 54 = .ok (.aload_n 0, 1) := by decide +kernel
theorem d_Code_writeDescription_55 : decode prog_3_method_12_code 55 = .ok (.getfield 19, 3) := by decide +kernel
theorem d_Code_writeDescription_58 : decode prog_3_method_12_code 58 = .ok (.invokevirtual 83, 3) := by decide +kernel
theorem d_Code_writeDescription_61 : decode prog_3_method_12_code 61 = .ok (.iinc 2 1, 3) := by decide +kernel
theorem d_Code_writeDescription_64 : decode prog_3_method_12_code 64 = .ok (.goto (-25), 3) := by decide +kernel
theorem d_Code_writeDescription_67 : decode prog_3_method_12_code 67 = .ok (.return_, 1) := by decide +kernel
theorem d_Code_writeBitNumbers_0 : decode prog_3_method_13_code 0 = .ok (.iconst 0, 1) := by decide +kernel
theorem d_Code_writeBitNumbers_1 : decode prog_3_method_13_code 1 = .ok (.istore_n 2, 1) := by decide +kernel
theorem d_Code_writeBitNumbers_2 : decode prog_3_method_13_code 2 = .ok (.iconst 0, 1) := by decide +kernel
theorem d_Code_writeBitNumbers_3 : decode prog_3_method_13_code 3 = .ok (.istore_n 3, 1) := by decide +kernel
theorem d_Code_writeBitNumbers_4 : decode prog_3_method_13_code 4 = .ok (.iconst 0, 1) := by decide +kernel
theorem d_Code_writeBitNumbers_5 : decode prog_3_method_13_code 5 = .ok (.istore 4, 2) := by decide +kernel
theorem d_Code_writeBitNumbers_7 : decode prog_3_method_13_code 7 = .ok (.iload 4, 2) := by decide +kernel
theorem d_Code_writeBitNumbers_9 : decode prog_3_method_13_code 9 = .ok (.aload_n 0, 1) := by decide +kernel
theorem d_Code_writeBitNumbers_10 : decode prog_3_method_13_code 10 = .ok (.getfield 15, 3) := by decide +kernel
theorem d_Code_writeBitNumbers_13 : decode prog_3_method_13_code 13 = .ok (.if_icmp .ge 55, 3) := by decide +kernel
theorem d_Code_writeBitNumbers_16 : decode prog_3_method_13_code 16 = .ok (.iload_n 2, 1) := by decide +kernel
theorem d_Code_writeBitNumbers_17 : decode prog_3_method_13_code 17 = .ok (.aload_n 0, 1) := by decide +kernel
theorem d_Code_writeBitNumbers_18 : decode prog_3_method_13_code 18 = .ok (.getfield 69, 3) := by decide +kernel
theorem d_Code_writeBitNumbers_21 : decode prog_3_method_13_code 21 = .ok (.if_icmp .ge 47, 3) := by decide +kernel
theorem d_Code_writeBitNumbers_24 : decode prog_3_method_13_code 24 = .ok (.aload_n 0, 1) := by decide +kernel
theorem d_Code_writeBitNumbers_25 : decode prog_3_method_13_code 25 = .ok (.getfield 25, 3) := by decide +kernel
theorem d_Code_writeBitNumbers_28 : decode prog_3_method_13_code 28 = .ok (.iload 4, 2) := by decide +kernel
theorem d_Code_writeBitNumbers_30 : decode prog_3_method_13_code 30 = .ok (.iaload, 1) := by decide +kernel
theorem d_Code_writeBitNumbers_31 : decode prog_3_method_13_code 31 = .ok (.ifCond .ne 9, 3) := by decide +kernel
theorem d_Code_writeBitNumbers_34 : decode prog_3_method_13_code 34 = .ok (.iinc 3 1, 3) := by decide +kernel
theorem d_Code_writeBitNumbers_37 : decode prog_3_method_13_code 37 = .ok (.goto 25, 3) := by decide +kernel
theorem d_Code_writeBitNumbers_40 : decode prog_3_method_13_code 40 = .ok (.aload_n 1, 1) := by decide +kernel
theorem d_Code_writeBitNumbers_41 : decode prog_3_method_13_code 41 = .ok (.iload_n 3, 1) := by decide +kernel
theorem d_Code_writeBitNumbers_42 : decode prog_3_method_13_code 42 = .ok (.invokestatic 90, 3) := by decide +kernel
theorem d_Code_writeBitNumbers_45 : decode prog_3_method_13_code 45 = .ok (.iconst 0, 1) := by decide +kernel
theorem d_Code_writeBitNumbers_46 : decode prog_3_method_13_code 46 = .ok (.istore_n 3, 1) := by decide +kernel
theorem d_Code_writeBitNumbers_47 : decode prog_3_method_13_code 47 = .ok (.aload_n 1, 1) := by decide +kernel
theorem d_Code_writeBitNumbers_48 : decode prog_3_method_13_code 48 = .ok (.aload_n 0, 1) := by decide +kernel
theorem d_Code_writeBitNumbers_49 : decode prog_3_method_13_code 49 = .ok (.getfield 25, 3) := by decide +kernel
theorem d_Code_writeBitNumbers_52 : decode prog_3_method_13_code 52 = .ok (.iload 4, 2) := by decide +kernel
theorem d_Code_writeBitNumbers_54 : decode prog_3_method_13_code 54 = .ok (.iaload, 1) := by decide +kernel
theorem d_Code_writeBitNumbers_55 : decode prog_3_method_13_code 55 = .ok (.iconst 3, 1) := by decide +kernel
theorem d_Code_writeBitNumbers_56 : decode prog_3_method_13_code 56 = .ok (.invokevirtual 83, 3) := by decide +kernel
theorem d_Code_writeBitNumbers_59 : decode prog_3_method_13_code 59 = .ok (.iinc 2 1, 3) := by decide +kernel
theorem d_Code_writeBitNumbers_62 : decode prog_3_method_13_code 62 = .ok (.iinc 4 1, 3) := by decide +kernel
theorem d_Code_writeBitNumbers_65 : decode prog_3_method_13_code 65 = .ok (.goto (-58), 3) := by decide +kernel
theorem d_Code_writeBitNumbers_68 : decode prog_3_method_13_code 68 = .ok (.return_, 1) := by decide +kernel
theorem d_Code_writeMissing_0 : decode prog_3_method_14_code 0 = .ok (.iload_n 1, 1) := by decide +kernel
theorem d_Code_writeMissing_1 : decode prog_3_method_14_code 1 = .ok (.istore_n 2, 1) := by decide +kernel
theorem d_Code_writeMissing_2 : decode prog_3_method_14_code 2 = .ok (.iload_n 2, 1) := by decide +kernel
theorem d_Code_writeMissing_3 : decode prog_3_method_14_code 3 = .ok (.iconst 3, 1) := by decide +kernel
theorem d_Code_writeMissing_4 : decode prog_3_method_14_code 4 = .ok (.if_icmp .lt 32, 3) := by decide +kernel
theorem d_Code_writeMissing_7 : decode prog_3_method_14_code 7 = .ok (.iload_n 2, 1) := by decide +kernel
theorem d_Code_writeMissing_8 : decode prog_3_method_14_code 8 = .ok (.bipush 18, 2) := by decide +kernel
theorem d_Code_writeMissing_10 : decode prog_3_method_14_code 10 = .ok (.invokestatic 94, 3) := by decide +kernel
theorem d_Code_writeMissing_13 : decode prog_3_method_14_code 13 = .ok (.istore_n 3, 1) := by decide +kernel
theorem d_Code_writeMissing_14 : decode prog_3_method_14_code 14 = .ok (.aload_n 0, 1) := by decide +kernel
theorem d_Code_writeMissing_15 : decode prog_3_method_14_code 15 = .ok (.bipush 7, 2) := by decide +kernel
theorem d_Code_writeMissing_17 : decode prog_3_method_14_code 17 = .ok (.iconst 3, 1) := by decide +kernel
theorem d_Code_writeMissing_18 : decode prog_3_method_14_code 18 = .ok (.invokevirtual 83, 3) := by decide +kernel
theorem d_Code_writeMissing_21 : decode prog_3_method_14_code 21 = .ok (.aload_n 0, 1) := by decide +kernel
theorem d_Code_writeMissing_22 : decode prog_3_method_14_code 22 = .ok (.iload_n 3, 1) := by decide +kernel
theorem d_Code_writeMissing_23 : decode prog_3_method_14_code 23 = .ok (.iconst 3, 1) := by decide +kernel
theorem d_Code_writeMissing_24 : decode prog_3_method_14_code 24 = .ok (.isub, 1) := by decide +kernel
theorem d_Code_writeMissing_25 : decode prog_3_method_14_code 25 = .ok (.iconst 4, 1) := by decide +kernel
theorem d_Code_writeMissing_26 : decode prog_3_method_14_code 26 = .ok (.invokevirtual 83, 3) := by decide +kernel
theorem d_Code_writeMissing_29 : decode prog_3_method_14_code 29 = .ok (.iload_n 2, 1) := by decide +kernel
theorem d_Code_writeMissing_30 : decode prog_3_method_14_code 30 = .ok (.iload_n 3, 1) := by decide +kernel
theorem d_Code_writeMissing_31 : decode prog_3_method_14_code 31 = .ok (.isub, 1) := by decide +kernel
theorem d_Code_writeMissing_32 : decode prog_3_method_14_code 32 = .ok (.istore_n 2, 1) := by decide +kernel
theorem d_Code_writeMissing_33 : decode prog_3_method_14_code 33 = .ok (.goto (-31), 3) := by decide +kernel
theorem d_Code_writeMissing_36 : decode prog_3_method_14_code 36 = .ok (.aload_n 0, 1) := by decide +kernel
theorem d_Code_writeMissing_37 : decode prog_3_method_14_code 37 = .ok (.iconst 0, 1) := by decide +kernel
theorem d_Code_writeMissing_38 : decode prog_3_method_14_code 38 = .ok (.iconst 3, 1) := by decide +kernel
theorem d_Code_writeMissing_39 : decode prog_3_method_14_code 39 = .ok (.iload_n 2, 1) := by decide +kernel
theorem d_Code_writeMissing_40 : decode prog_3_method_14_code 40 = .ok (.imul, 1) := by decide +kernel
theorem d_Code_writeMissing_41 : decode prog_3_method_14_code 41 = .ok (.invokevirtual 83, 3) := by decide +kernel
theorem d_Code_writeMissing_44 : decode prog_3_method_14_code 44 = .ok (.return_, 1) := by decide +kernel
theorem d_Code_writeWord_0 : decode prog_3_method_15_code 0 = .ok (.iload_n 2, 1) := by decide +kernel
theorem d_Code_writeWord_1 : decode prog_3_method_15_code 1 = .ok (.ifCond .lt 11, 3) := by decide +kernel
theorem d_Code_writeWord_4 : decode prog_3_method_15_code 4 = .ok (.iload_n 2, 1) := by decide +kernel
theorem d_Code_writeWord_5 : decode prog_3_method_15_code 5 = .ok (.aload_n 0, 1) := by decide +kernel
theorem d_Code_writeWord_6 : decode prog_3_method_15_code 6 = .ok (.getfield 15, 3) := by decide +kernel
theorem d_Code_writeWord_9 : decode prog_3_method_15_code 9 = .ok (.if_icmp .lt 4, 3) := by decide +kernel
theorem d_Code_writeWord_12 : decode prog_3_method_15_code 12 = .ok (.return_, 1) := by decide +kernel
theorem d_Code_writeWord_13 : decode prog_3_method_15_code 13 = .ok (.aload_n 0, 1) := by decide +kernel
theorem d_Code_writeWord_14 : decode prog_3_method_15_code 14 = .ok (.getfield 25, 3) := by decide +kernel
theorem d_Code_writeWord_17 : decode prog_3_method_15_code 17 = .ok (.iload_n 2, 1) := by decide +kernel
theorem d_Code_writeWord_18 : decode prog_3_method_15_code 18 = .ok (.iaload, 1) := by decide +kernel
theorem d_Code_writeWord_19 : decode prog_3_method_15_code 19 = .ok (.iconst 1, 1) := by decide +kernel
theorem d_Code_writeWord_20 : decode prog_3_method_15_code 20 = .ok (.isub, 1) := by decide +kernel
theorem d_Code_writeWord_21 : decode prog_3_method_15_code 21 = .ok (.istore_n 3, 1) := by decide +kernel
theorem d_Code_writeWord_22 : decode prog_3_method_15_code 22 = .ok (.iload_n 3, 1) := by decide +kernel
theorem d_Code_writeWord_23 : decode prog_3_method_15_code 23 = .ok (.ifCond .lt 22, 3) := by decide +kernel
theorem d_Code_writeWord_26 : decode prog_3_method_15_code 26 = .ok (.aload_n 1, 1) := by decide +kernel
theorem d_Code_writeWord_27 : decode prog_3_method_15_code 27 = .ok (.aload_n 0, 1) := by decide +kernel
theorem d_Code_writeWord_28 : decode prog_3_method_15_code 28 = .ok (.getfield 28, 3) := by decide +kernel
theorem d_Code_writeWord_31 : decode prog_3_method_15_code 31 = .ok (.iload_n 2, 1) := by decide +kernel
theorem d_Code_writeWord_32 : decode prog_3_method_15_code 32 = .ok (.iaload, 1) := by decide +kernel
theorem d_Code_writeWord_33 : decode prog_3_method_15_code 33 = .ok (.iload_n 3, 1) := by decide +kernel
theorem d_Code_writeWord_34 : decode prog_3_method_15_code 34 = .ok (.ishr, 1) := by decide +kernel
theorem d_Code_writeWord_35 : decode prog_3_method_15_code 35 = .ok (.iconst 1, 1) := by decide +kernel
theorem d_Code_writeWord_36 : decode prog_3_method_15_code 36 = .ok (.invokevirtual 83, 3) := by decide +kernel
theorem d_Code_writeWord_39 : decode prog_3_method_15_code 39 = .ok (.iinc 3 (-1), 3) := by decide +kernel
theorem d_Code_writeWord_42 : decode prog_3_method_15_code 42 = .ok (.goto (-20), 3) := by decide +kernel
theorem d_Code_writeWord_45 : decode prog_3_method_15_code 45 = .ok (.return_, 1) := by decide +kernel
theorem d_Code_simpleBits_0 : decode prog_3_method_16_code 0 = .ok (.iload_n 0, 1) := by decide +kernel
theorem d_Code_simpleBits_1 : decode prog_3_method_16_code 1 = .ok (.iconst 3, 1) := by decide +kernel
theorem d_Code_simpleBits_2 : decode prog_3_method_16_code 2 = .ok (.if_icmp .ne 13, 3) := by decide +kernel
theorem d_Code_simpleBits_5 : decode prog_3_method_16_code 5 = .ok (.iload_n 1, 1) := by decide +kernel
theorem d_Code_simpleBits_6 : decode prog_3_method_16_code 6 = .ok (.ifCond .eq 7, 3) := by decide +kernel
theorem d_Code_simpleBits_9 : decode prog_3_method_16_code 9 = .ok (.iconst 1, 1) := by decide +kernel
theorem d_Code_simpleBits_10 : decode prog_3_method_16_code 10 = .ok (.goto 4, 3) := by decide +kernel
theorem d_Code_simpleBits_13 : decode prog_3_method_16_code 13 = .ok (.iconst 2, 1) := by decide +kernel
theorem d_Code_simpleBits_14 : decode prog_3_method_16_code 14 = .ok (.ireturn, 1) := by decide +kernel
theorem d_Code_simpleBits_15 : decode prog_3_method_16_code 15 = .ok (.iload_n 0, 1) := by decide +kernel
theorem d_Code_simpleBits_16 : decode prog_3_method_16_code 16 = .ok (.iconst 1, 1) := by decide +kernel
theorem d_Code_simpleBits_17 : decode prog_3_method_16_code 17 = .ok (.ishr, 1) := by decide +kernel
theorem d_Code_simpleBits_18 : decode prog_3_method_16_code 18 = .ok (.ireturn, 1) := by decide +kernel
theorem d_Code_forgetListed_0 : decode prog_3_method_17_code 0 = .ok (.iconst 0, 1) := by decide +kernel
theorem d_Code_forgetListed_1 : decode prog_3_method_17_code 1 = .ok (.istore_n 1, 1) := by decide +kernel
theorem d_Code_forgetListed_2 : decode prog_3_method_17_code 2 = .ok (.iload_n 1, 1) := by decide +kernel
theorem d_Code_forgetListed_3 : decode prog_3_method_17_code 3 = .ok (.aload_n 0, 1) := by decide +kernel
theorem d_Code_forgetListed_4 : decode prog_3_method_17_code 4 = .ok (.getfield 69, 3) := by decide +kernel
theorem d_Code_forgetListed_7 : decode prog_3_method_17_code 7 = .ok (.if_icmp .ge 21, 3) := by decide +kernel
theorem d_Code_forgetListed_10 : decode prog_3_method_17_code 10 = .ok (.aload_n 0, 1) := by decide +kernel
theorem d_Code_forgetListed_11 : decode prog_3_method_17_code 11 = .ok (.getfield 25, 3) := by decide +kernel
theorem d_Code_forgetListed_14 : decode prog_3_method_17_code 14 = .ok (.aload_n 0, 1) := by decide +kernel
theorem d_Code_forgetListed_15 : decode prog_3_method_17_code 15 = .ok (.getfield 9, 3) := by decide +kernel
theorem d_Code_forgetListed_18 : decode prog_3_method_17_code 18 = .ok (.iload_n 1, 1) := by decide +kernel
theorem d_Code_forgetListed_19 : decode prog_3_method_17_code 19 = .ok (.iaload, 1) := by decide +kernel
theorem d_Code_forgetListed_20 : decode prog_3_method_17_code 20 = .ok (.iconst 0, 1) := by decide +kernel
theorem d_Code_forgetListed_21 : decode prog_3_method_17_code 21 = .ok (.iastore, 1) := by decide +kernel
theorem d_Code_forgetListed_22 : decode prog_3_method_17_code 22 = .ok (.iinc 1 1, 3) := by decide +kernel
theorem d_Code_forgetListed_25 : decode prog_3_method_17_code 25 = .ok (.goto (-23), 3) := by decide +kernel
theorem d_Code_forgetListed_28 : decode prog_3_method_17_code 28 = .ok (.aload_n 0, 1) := by decide +kernel
theorem d_Code_forgetListed_29 : decode prog_3_method_17_code 29 = .ok (.iconst 0, 1) := by decide +kernel
theorem d_Code_forgetListed_30 : decode prog_3_method_17_code 30 = .ok (.putfield 69, 3) := by decide +kernel
theorem d_Code_forgetListed_33 : decode prog_3_method_17_code 33 = .ok (.return_, 1) := by decide +kernel
theorem d_Code_list_0 : decode prog_3_method_18_code 0 = .ok (.aload_n 0, 1) := by decide +kernel
theorem d_Code_list_1 : decode prog_3_method_18_code 1 = .ok (.getfield 69, 3) := by decide +kernel
theorem d_Code_list_4 : decode prog_3_method_18_code 4 = .ok (.bipush 64, 2) := by decide +kernel
theorem d_Code_list_6 : decode prog_3_method_18_code 6 = .ok (.if_icmp .ge 30, 3) := by decide +kernel
theorem d_Code_list_9 : decode prog_3_method_18_code 9 = .ok (.aload_n 0, 1) := by decide +kernel
theorem d_Code_list_10 : decode prog_3_method_18_code 10 = .ok (.getfield 9, 3) := by decide +kernel
theorem d_Code_list_13 : decode prog_3_method_18_code 13 = .ok (.aload_n 0, 1) := by decide +kernel
theorem d_Code_list_14 : decode prog_3_method_18_code 14 = .ok (.getfield 69, 3) := by decide +kernel
theorem d_Code_list_17 : decode prog_3_method_18_code 17 = .ok (.iload_n 1, 1) := by decide +kernel
theorem d_Code_list_18 : decode prog_3_method_18_code 18 = .ok (.iastore, 1) := by decide +kernel
theorem d_Code_list_19 : decode prog_3_method_18_code 19 = .ok (.aload_n 0, 1) := by decide +kernel
theorem d_Code_list_20 : decode prog_3_method_18_code 20 = .ok (.dup, 1) := by decide +kernel
theorem d_Code_list_21 : decode prog_3_method_18_code 21 = .ok (.getfield 69, 3) := by decide +kernel
theorem d_Code_list_24 : decode prog_3_method_18_code 24 = .ok (.iconst 1, 1) := by decide +kernel
theorem d_Code_list_25 : decode prog_3_method_18_code 25 = .ok (.iadd, 1) := by decide +kernel
theorem d_Code_list_26 : decode prog_3_method_18_code 26 = .ok (.putfield 69, 3) := by decide +kernel
theorem d_Code_list_29 : decode prog_3_method_18_code 29 = .ok (.aload_n 0, 1) := by decide +kernel
theorem d_Code_list_30 : decode prog_3_method_18_code 30 = .ok (.getfield 25, 3) := by decide +kernel
theorem d_Code_list_33 : decode prog_3_method_18_code 33 = .ok (.iload_n 1, 1) := by decide +kernel
theorem d_Code_list_34 : decode prog_3_method_18_code 34 = .ok (.iload_n 2, 1) := by decide +kernel
theorem d_Code_list_35 : decode prog_3_method_18_code 35 = .ok (.iastore, 1) := by decide +kernel
theorem d_Code_list_36 : decode prog_3_method_18_code 36 = .ok (.return_, 1) := by decide +kernel
theorem d_Code_isListed_0 : decode prog_3_method_19_code 0 = .ok (.iconst 0, 1) := by decide +kernel
theorem d_Code_isListed_1 : decode prog_3_method_19_code 1 = .ok (.istore_n 2, 1) := by decide +kernel
theorem d_Code_isListed_2 : decode prog_3_method_19_code 2 = .ok (.iload_n 2, 1) := by decide +kernel
theorem d_Code_isListed_3 : decode prog_3_method_19_code 3 = .ok (.aload_n 0, 1) := by decide +kernel
theorem d_Code_isListed_4 : decode prog_3_method_19_code 4 = .ok (.getfield 69, 3) := by decide +kernel
theorem d_Code_isListed_7 : decode prog_3_method_19_code 7 = .ok (.if_icmp .ge 21, 3) := by decide +kernel
theorem d_Code_isListed_10 : decode prog_3_method_19_code 10 = .ok (.aload_n 0, 1) := by decide +kernel
theorem d_Code_isListed_11 : decode prog_3_method_19_code 11 = .ok (.getfield 9, 3) := by decide +kernel
theorem d_Code_isListed_14 : decode prog_3_method_19_code 14 = .ok (.iload_n 2, 1) := by decide +kernel
theorem d_Code_isListed_15 : decode prog_3_method_19_code 15 = .ok (.iaload, 1) := by decide +kernel
theorem d_Code_isListed_16 : decode prog_3_method_19_code 16 = .ok (.iload_n 1, 1) := by decide +kernel
theorem d_Code_isListed_17 : decode prog_3_method_19_code 17 = .ok (.if_icmp .ne 5, 3) := by decide +kernel
theorem d_Code_isListed_20 : decode prog_3_method_19_code 20 = .ok (.iconst 1, 1) := by decide +kernel
theorem d_Code_isListed_21 : decode prog_3_method_19_code 21 = .ok (.ireturn, 1) := by decide +kernel
theorem d_Code_isListed_22 : decode prog_3_method_19_code 22 = .ok (.iinc 2 1, 3) := by decide +kernel
theorem d_Code_isListed_25 : decode prog_3_method_19_code 25 = .ok (.goto (-23), 3) := by decide +kernel
theorem d_Code_isListed_28 : decode prog_3_method_19_code 28 = .ok (.iconst 0, 1) := by decide +kernel
theorem d_Code_isListed_29 : decode prog_3_method_19_code 29 = .ok (.ireturn, 1) := by decide +kernel
theorem d_Code_sortListed_0 : decode prog_3_method_20_code 0 = .ok (.iconst 1, 1) := by decide +kernel
theorem d_Code_sortListed_1 : decode prog_3_method_20_code 1 = .ok (.istore_n 1, 1) := by decide +kernel
theorem d_Code_sortListed_2 : decode prog_3_method_20_code 2 = .ok (.iload_n 1, 1) := by decide +kernel
theorem d_Code_sortListed_3 : decode prog_3_method_20_code 3 = .ok (.aload_n 0, 1) := by decide +kernel
theorem d_Code_sortListed_4 : decode prog_3_method_20_code 4 = .ok (.getfield 69, 3) := by decide +kernel
theorem d_Code_sortListed_7 : decode prog_3_method_20_code 7 = .ok (.if_icmp .ge 99, 3) := by decide +kernel
theorem d_Code_sortListed_10 : decode prog_3_method_20_code 10 = .ok (.aload_n 0, 1) := by decide +kernel
theorem d_Code_sortListed_11 : decode prog_3_method_20_code 11 = .ok (.getfield 9, 3) := by decide +kernel
theorem d_Code_sortListed_14 : decode prog_3_method_20_code 14 = .ok (.iload_n 1, 1) := by decide +kernel
theorem d_Code_sortListed_15 : decode prog_3_method_20_code 15 = .ok (.iaload, 1) := by decide +kernel
theorem d_Code_sortListed_16 : decode prog_3_method_20_code 16 = .ok (.istore_n 2, 1) := by decide +kernel
theorem d_Code_sortListed_17 : decode prog_3_method_20_code 17 = .ok (.aload_n 0, 1) := by decide +kernel
theorem d_Code_sortListed_18 : decode prog_3_method_20_code 18 = .ok (.getfield 25, 3) := by decide +kernel
theorem d_Code_sortListed_21 : decode prog_3_method_20_code 21 = .ok (.iload_n 2, 1) := by decide +kernel
theorem d_Code_sortListed_22 : decode prog_3_method_20_code 22 = .ok (.iaload, 1) := by decide +kernel
theorem d_Code_sortListed_23 : decode prog_3_method_20_code 23 = .ok (.sipush 256, 3) := by decide +kernel
theorem d_Code_sortListed_26 : decode prog_3_method_20_code 26 = .ok (.imul, 1) := by decide +kernel
theorem d_Code_sortListed_27 : decode prog_3_method_20_code 27 = .ok (.iload_n 2, 1) := by decide +kernel
theorem d_Code_sortListed_28 : decode prog_3_method_20_code 28 = .ok (.iadd, 1) := by decide +kernel
theorem d_Code_sortListed_29 : decode prog_3_method_20_code 29 = .ok (.istore_n 3, 1) := by decide +kernel
theorem d_Code_sortListed_30 : decode prog_3_method_20_code 30 = .ok (.iload_n 1, 1) := by decide +kernel
theorem d_Code_sortListed_31 : decode prog_3_method_20_code 31 = .ok (.istore 4, 2) := by decide +kernel
theorem d_Code_sortListed_33 : decode prog_3_method_20_code 33 = .ok (.iload 4, 2) := by decide +kernel
theorem d_Code_sortListed_35 : decode prog_3_method_20_code 35 = .ok (.ifCond .le 57, 3) := by decide +kernel
theorem d_Code_sortListed_38 : decode prog_3_method_20_code 38 = .ok (.aload_n 0, 1) := by decide +kernel
theorem d_Code_sortListed_39 : decode prog_3_method_20_code 39 = .ok (.getfield 25, 3) := by decide +kernel
theorem d_Code_sortListed_42 : decode prog_3_method_20_code 42 = .ok (.aload_n 0, 1) := by decide +kernel
theorem d_Code_sortListed_43 : decode prog_3_method_20_code 43 = .ok (.getfield 9, 3) := by decide +kernel
theorem d_Code_sortListed_46 : decode prog_3_method_20_code 46 = .ok (.iload 4, 2) := by decide +kernel
theorem d_Code_sortListed_48 : decode prog_3_method_20_code 48 = .ok (.iconst 1, 1) := by decide +kernel
theorem d_Code_sortListed_49 : decode prog_3_method_20_code 49 = .ok (.isub, 1) := by decide +kernel
theorem d_Code_sortListed_50 : decode prog_3_method_20_code 50 = .ok (.iaload, 1) := by decide +kernel
theorem d_Code_sortListed_51 : decode prog_3_method_20_code 51 = .ok (.iaload, 1) := by decide +kernel
theorem d_Code_sortListed_52 : decode prog_3_method_20_code 52 = .ok (.sipush 256, 3) := by decide +kernel
theorem d_Code_sortListed_55 : decode prog_3_method_20_code 55 = .ok (.imul, 1) := by decide +kernel
theorem d_Code_sortListed_56 : decode prog_3_method_20_code 56 = .ok (.aload_n 0, 1) := by decide +kernel
theorem d_Code_sortListed_57 : decode prog_3_method_20_code 57 = .ok (.getfield 9, 3) := by decide +kernel
theorem d_Code_sortListed_60 : decode prog_3_method_20_code 60 = .ok (.iload 4, 2) := by decide +kernel
theorem d_Code_sortListed_62 : decode prog_3_method_20_code 62 = .ok (.iconst 1, 1) := by decide +kernel
theorem d_Code_sortListed_63 : decode prog_3_method_20_code 63 = .ok (.isub, 1) := by decide +kernel
theorem d_Code_sortListed_64 : decode prog_3_method_20_code 64 = .ok (.iaload, 1) := by decide +kernel
theorem d_Code_sortListed_65 : decode prog_3_method_20_code 65 = .ok (.iadd, 1) := by decide +kernel
theorem d_Code_sortListed_66 : decode prog_3_method_20_code 66 = .ok (.iload_n 3, 1) := by decide +kernel
theorem d_Code_sortListed_67 : decode prog_3_method_20_code 67 = .ok (.if_icmp .le 25, 3) := by decide +kernel
theorem d_Code_sortListed_70 : decode prog_3_method_20_code 70 = .ok (.aload_n 0, 1) := by decide +kernel
theorem d_Code_sortListed_71 : decode prog_3_method_20_code 71 = .ok (.getfield 9, 3) := by decide +kernel
theorem d_Code_sortListed_74 : decode prog_3_method_20_code 74 = .ok (.iload 4, 2) := by decide +kernel
theorem d_Code_sortListed_76 : decode prog_3_method_20_code 76 = .ok (.aload_n 0, 1) := by decide +kernel
theorem d_Code_sortListed_77 : decode prog_3_method_20_code 77 = .ok (.getfield 9, 3) := by decide +kernel
theorem d_Code_sortListed_80 : decode prog_3_method_20_code 80 = .ok (.iload 4, 2) := by decide +kernel
theorem d_Code_sortListed_82 : decode prog_3_method_20_code 82 = .ok (.iconst 1, 1) := by decide +kernel
theorem d_Code_sortListed_83 : decode prog_3_method_20_code 83 = .ok (.isub, 1) := by decide +kernel
theorem d_Code_sortListed_84 : decode prog_3_method_20_code 84 = .ok (.iaload, 1) := by decide +kernel
theorem d_Code_sortListed_85 : decode prog_3_method_20_code 85 = .ok (.iastore, 1) := by decide +kernel
theorem d_Code_sortListed_86 : decode prog_3_method_20_code 86 = .ok (.iinc 4 (-1), 3) := by decide +kernel
theorem d_Code_sortListed_89 : decode prog_3_method_20_code 89 = .ok (.goto (-56), 3) := by decide +kernel
theorem d_Code_sortListed_92 : decode prog_3_method_20_code 92 = .ok (.aload_n 0, 1) := by decide +kernel
theorem d_Code_sortListed_93 : decode prog_3_method_20_code 93 = .ok (.getfield 9, 3) := by decide +kernel
theorem d_Code_sortListed_96 : decode prog_3_method_20_code 96 = .ok (.iload 4, 2) := by decide +kernel
theorem d_Code_sortListed_98 : decode prog_3_method_20_code 98 = .ok (.iload_n 2, 1) := by decide +kernel
theorem d_Code_sortListed_99 : decode prog_3_method_20_code 99 = .ok (.iastore, 1) := by decide +kernel
theorem d_Code_sortListed_100 : decode prog_3_method_20_code 100 = .ok (.iinc 1 1, 3) := by decide +kernel
theorem d_Code_sortListed_103 : decode prog_3_method_20_code 103 = .ok (.goto (-101), 3) := by decide +kernel
theorem d_Code_sortListed_106 : decode prog_3_method_20_code 106 = .ok (.return_, 1) := by decide +kernel
theorem d_Code_giveCodeWords_0 : decode prog_3_method_21_code 0 = .ok (.iconst 0, 1) := by decide +kernel
theorem d_Code_giveCodeWords_1 : decode prog_3_method_21_code 1 = .ok (.istore_n 1, 1) := by decide +kernel
theorem d_Code_giveCodeWords_2 : decode prog_3_method_21_code 2 = .ok (.iconst 0, 1) := by decide +kernel
theorem d_Code_giveCodeWords_3 : decode prog_3_method_21_code 3 = .ok (.istore_n 2, 1) := by decide +kernel
theorem d_Code_giveCodeWords_4 : decode prog_3_method_21_code 4 = .ok (.iload_n 2, 1) := by decide +kernel
theorem d_Code_giveCodeWords_5 : decode prog_3_method_21_code 5 = .ok (.aload_n 0, 1) := by decide +kernel
theorem d_Code_giveCodeWords_6 : decode prog_3_method_21_code 6 = .ok (.getfield 69, 3) := by decide +kernel
theorem d_Code_giveCodeWords_9 : decode prog_3_method_21_code 9 = .ok (.if_icmp .ge 55, 3) := by decide +kernel
theorem d_Code_giveCodeWords_12 : decode prog_3_method_21_code 12 = .ok (.iload_n 2, 1) := by decide +kernel
theorem d_Code_giveCodeWords_13 : decode prog_3_method_21_code 13 = .ok (.ifCond .le 33, 3) := by decide +kernel
theorem d_Code_giveCodeWords_16 : decode prog_3_method_21_code 16 = .ok (.iload_n 1, 1) := by decide +kernel
theorem d_Code_giveCodeWords_17 : decode prog_3_method_21_code 17 = .ok (.iconst 1, 1) := by decide +kernel
theorem d_Code_giveCodeWords_18 : decode prog_3_method_21_code 18 = .ok (.iadd, 1) := by decide +kernel
theorem d_Code_giveCodeWords_19 : decode prog_3_method_21_code 19 = .ok (.aload_n 0, 1) := by decide +kernel
theorem d_Code_giveCodeWords_20 : decode prog_3_method_21_code 20 = .ok (.getfield 25, 3) := by decide +kernel
theorem d_Code_giveCodeWords_23 : decode prog_3_method_21_code 23 = .ok (.aload_n 0, 1) := by decide +kernel
theorem d_Code_giveCodeWords_24 : decode prog_3_method_21_code 24 = .ok (.getfield 9, 3) := by decide +kernel
theorem d_Code_giveCodeWords_27 : decode prog_3_method_21_code 27 = .ok (.iload_n 2, 1) := by decide +kernel
theorem d_Code_giveCodeWords_28 : decode prog_3_method_21_code 28 = .ok (.iaload, 1) := by decide +kernel
theorem d_Code_giveCodeWords_29 : decode prog_3_method_21_code 29 = .ok (.iaload, 1) := by decide +kernel
theorem d_Code_giveCodeWords_30 : decode prog_3_method_21_code 30 = .ok (.aload_n 0, 1) := by decide +kernel
theorem d_Code_giveCodeWords_31 : decode prog_3_method_21_code 31 = .ok (.getfield 25, 3) := by decide +kernel
theorem d_Code_giveCodeWords_34 : decode prog_3_method_21_code 34 = .ok (.aload_n 0, 1) := by decide +kernel
theorem d_Code_giveCodeWords_35 : decode prog_3_method_21_code 35 = .ok (.getfield 9, 3) := by decide +kernel
theorem d_Code_giveCodeWords_38 : decode prog_3_method_21_code 38 = .ok (.iload_n 2, 1) := by decide +kernel
theorem d_Code_giveCodeWords_39 : decode prog_3_method_21_code 39 = .ok (.iconst 1, 1) := by decide +kernel
theorem d_Code_giveCodeWords_40 : decode prog_3_method_21_code 40 = .ok (.isub, 1) := by decide +kernel
theorem d_Code_giveCodeWords_41 : decode prog_3_method_21_code 41 = .ok (.iaload, 1) := by decide +kernel
theorem d_Code_giveCodeWords_42 : decode prog_3_method_21_code 42 = .ok (.iaload, 1) := by decide +kernel
theorem d_Code_giveCodeWords_43 : decode prog_3_method_21_code 43 = .ok (.isub, 1) := by decide +kernel
theorem d_Code_giveCodeWords_44 : decode prog_3_method_21_code 44 = .ok (.ishl, 1) := by decide +kernel
theorem d_Code_giveCodeWords_45 : decode prog_3_method_21_code 45 = .ok (.istore_n 1, 1) := by decide +kernel
theorem d_Code_giveCodeWords_46 : decode prog_3_method_21_code 46 = .ok (.aload_n 0, 1) := by decide +kernel
theorem d_Code_giveCodeWords_47 : decode prog_3_method_21_code 47 = .ok (.getfield 28, 3) := by decide +kernel
theorem d_Code_giveCodeWords_50 : decode prog_3_method_21_code 50 = .ok (.aload_n 0, 1) := by decide +kernel
theorem d_Code_giveCodeWords_51 : decode prog_3_method_21_code 51 = .ok (.getfield 9, 3) := by decide +kernel
theorem d_Code_giveCodeWords_54 : decode prog_3_method_21_code 54 = .ok (.iload_n 2, 1) := by decide +kernel
theorem d_Code_giveCodeWords_55 : decode prog_3_method_21_code 55 = .ok (.iaload, 1) := by decide +kernel
theorem d_Code_giveCodeWords_56 : decode prog_3_method_21_code 56 = .ok (.iload_n 1, 1) := by decide +kernel
theorem d_Code_giveCodeWords_57 : decode prog_3_method_21_code 57 = .ok (.iastore, 1) := by decide +kernel
theorem d_Code_giveCodeWords_58 : decode prog_3_method_21_code 58 = .ok (.iinc 2 1, 3) := by decide +kernel
theorem d_Code_giveCodeWords_61 : decode prog_3_method_21_code 61 = .ok (.goto (-57), 3) := by decide +kernel
theorem d_Code_giveCodeWords_64 : decode prog_3_method_21_code 64 = .ok (.return_, 1) := by decide +kernel
