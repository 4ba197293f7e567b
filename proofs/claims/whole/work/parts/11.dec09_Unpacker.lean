/-! decode rows of RingPacker$Unpacker -/
theorem d_Unpacker_init_0 : decode prog_11_method_1_code 0 = .ok (.aload_n 0, 1) := by decide +kernel
theorem d_Unpacker_init_1 : decode prog_11_method_1_code 1 = .ok (.invokespecial 3, 3) := by decide +kernel
theorem d_Unpacker_init_4 : decode prog_11_method_1_code 4 = .ok (.aload_n 0, 1) := by decide +kernel
theorem d_Unpacker_init_5 : decode prog_11_method_1_code 5 = .ok (.new 9, 3) := by decide +kernel
theorem d_Unpacker_init_8 : decode prog_11_method_1_code 8 = .ok (.dup, 1) := by decide +kernel
theorem d_Unpacker_init_9 : decode prog_11_method_1_code 9 = .ok (.invokespecial 11, 3) := by decide +kernel
theorem d_Unpacker_init_12 : decode prog_11_method_1_code 12 = .ok (.putfield 12, 3) := by decide +kernel
theorem d_Unpacker_init_15 : decode prog_11_method_1_code 15 = .ok (.aload_n 0, 1) := by decide +kernel
theorem d_Unpacker_init_16 : decode prog_11_method_1_code 16 = .ok (.new 18, 3) := by decide +kernel
theorem d_Unpacker_init_19 : decode prog_11_method_1_code 19 = .ok (.dup, 1) := by decide +kernel
theorem d_Unpacker_init_20 : decode prog_11_method_1_code 20 = .ok (.invokespecial 20, 3) := by decide +kernel
theorem d_Unpacker_init_23 : decode prog_11_method_1_code 23 = .ok (.putfield 21, 3) := by decide +kernel
theorem d_Unpacker_init_26 : decode prog_11_method_1_code 26 = .ok (.aload_n 0, 1) := by decide +kernel
theorem d_Unpacker_init_27 : decode prog_11_method_1_code 27 = .ok (.new 25, 3) := by decide +kernel
theorem d_Unpacker_init_30 : decode prog_11_method_1_code 30 = .ok (.dup, 1) := by decide +kernel
theorem d_Unpacker_init_31 : decode prog_11_method_1_code 31 = .ok (.invokespecial 27, 3) := by decide +kernel
theorem d_Unpacker_init_34 : decode prog_11_method_1_code 34 = .ok (.putfield 28, 3) := by decide +kernel
theorem d_Unpacker_init_37 : decode prog_11_method_1_code 37 = .ok (.aload_n 0, 1) := by decide +kernel
theorem d_Unpacker_init_38 : decode prog_11_method_1_code 38 = .ok (.new 32, 3) := by decide +kernel
theorem d_Unpacker_init_41 : decode prog_11_method_1_code 41 = .ok (.dup, 1) := by decide +kernel
theorem d_Unpacker_init_42 : decode prog_11_method_1_code 42 = .ok (.invokespecial 34, 3) := by decide +kernel
theorem d_Unpacker_init_45 : decode prog_11_method_1_code 45 = .ok (.putfield 35, 3) := by decide +kernel
theorem d_Unpacker_init_48 : decode prog_11_method_1_code 48 = .ok (.return_, 1) := by decide +kernel
theorem d_Unpacker_readAll_0 : decode prog_11_method_2_code 0 = .ok (.aload_n 0, 1) := by decide +kernel
theorem d_Unpacker_readAll_1 : decode prog_11_method_2_code 1 = .ok (.getfield 12, 3) := by decide +kernel
theorem d_Unpacker_readAll_4 : decode prog_11_method_2_code 4 = .ok (.invokevirtual 39, 3) := by decide +kernel
theorem d_Unpacker_readAll_7 : decode prog_11_method_2_code 7 = .ok (.aload_n 0, 1) := by decide +kernel
theorem d_Unpacker_readAll_8 : decode prog_11_method_2_code 8 = .ok (.getfield 21, 3) := by decide +kernel
theorem d_Unpacker_readAll_11 : decode prog_11_method_2_code 11 = .ok (.invokevirtual 42, 3) := by decide +kernel
theorem d_Unpacker_readAll_14 : decode prog_11_method_2_code 14 = .ok (.aload_n 0, 1) := by decide +kernel
theorem d_Unpacker_readAll_15 : decode prog_11_method_2_code 15 = .ok (.getfield 28, 3) := by decide +kernel
theorem d_Unpacker_readAll_18 : decode prog_11_method_2_code 18 = .ok (.invokevirtual 45, 3) := by decide +kernel
theorem d_Unpacker_readAll_21 : decode prog_11_method_2_code 21 = .ok (.aload_n 1, 1) := by decide +kernel
theorem d_Unpacker_readAll_22 : decode prog_11_method_2_code 22 = .ok (.invokevirtual 46, 3) := by decide +kernel
theorem d_Unpacker_readAll_25 : decode prog_11_method_2_code 25 = .ok (.iconst 0, 1) := by decide +kernel
theorem d_Unpacker_readAll_26 : decode prog_11_method_2_code 26 = .ok (.istore_n 2, 1) := by decide +kernel
theorem d_Unpacker_readAll_27 : decode prog_11_method_2_code 27 = .ok (.iconst 0, 1) := by decide +kernel
theorem d_Unpacker_readAll_28 : decode prog_11_method_2_code 28 = .ok (.istore_n 3, 1) := by decide +kernel
theorem d_Unpacker_readAll_29 : decode prog_11_method_2_code 29 = .ok (.iload_n 3, 1) := by decide +kernel
theorem d_Unpacker_readAll_30 : decode prog_11_method_2_code 30 = .ok (.bipush 96, 2) := by decide +kernel
theorem d_Unpacker_readAll_32 : decode prog_11_method_2_code 32 = .ok (.if_icmp .gt 125, 3) := by decide +kernel
theorem d_Unpacker_readAll_35 : decode prog_11_method_2_code 35 = .ok (.iload_n 2, 1) := by decide +kernel
theorem d_Unpacker_readAll_36 : decode prog_11_method_2_code 36 = .ok (.ifCond .ne 121, 3) := by decide +kernel
theorem d_Unpacker_readAll_39 : decode prog_11_method_2_code 39 = .ok (.aload_n 1, 1) := by decide +kernel
theorem d_Unpacker_readAll_40 : decode prog_11_method_2_code 40 = .ok (.iconst 1, 1) := by decide +kernel
theorem d_Unpacker_readAll_41 : decode prog_11_method_2_code 41 = .ok (.invokevirtual 51, 3) := by decide +kernel
theorem d_Unpacker_readAll_44 : decode prog_11_method_2_code 44 = .ok (.iconst 1, 1) := by decide +kernel
theorem d_Unpacker_readAll_45 : decode prog_11_method_2_code 45 = .ok (.if_icmp .ne 7, 3) := by decide +kernel
theorem d_Unpacker_readAll_48 : decode prog_11_method_2_code 48 = .ok (.iconst 1, 1) := by decide +kernel
theorem d_Unpacker_readAll_49 : decode prog_11_method_2_code 49 = .ok (.goto 4, 3) := by decide +kernel
theorem d_Unpacker_readAll_52 : decode prog_11_method_2_code 52 = .ok (.iconst 0, 1) := by decide +kernel
theorem d_Unpacker_readAll_53 : decode prog_11_method_2_code 53 = .ok (.istore_n 2, 1) := by decide +kernel
theorem d_Unpacker_readAll_54 : decode prog_11_method_2_code 54 = .ok (.iload_n 2, 1) := by decide +kernel
theorem d_Unpacker_readAll_55 : decode prog_11_method_2_code 55 = .ok (.ifCond .eq 15, 3) := by decide +kernel
theorem d_Unpacker_readAll_58 : decode prog_11_method_2_code 58 = .ok (.aload_n 1, 1) := by decide +kernel
theorem d_Unpacker_readAll_59 : decode prog_11_method_2_code 59 = .ok (.iconst 1, 1) := by decide +kernel
theorem d_Unpacker_readAll_60 : decode prog_11_method_2_code 60 = .ok (.invokevirtual 51, 3) := by decide +kernel
theorem d_Unpacker_readAll_63 : decode prog_11_method_2_code 63 = .ok (.iconst 1, 1) := by decide +kernel
theorem d_Unpacker_readAll_64 : decode prog_11_method_2_code 64 = .ok (.if_icmp .ne 6, 3) := by decide +kernel
theorem d_Unpacker_readAll_67 : decode prog_11_method_2_code 67 = .ok (.goto 90, 3) := by decide +kernel
theorem d_Unpacker_readAll_70 : decode prog_11_method_2_code 70 = .ok (.aload_n 1, 1) := by decide +kernel
theorem d_Unpacker_readAll_71 : decode prog_11_method_2_code 71 = .ok (.iconst 1, 1) := by decide +kernel
theorem d_Unpacker_readAll_72 : decode prog_11_method_2_code 72 = .ok (.invokevirtual 51, 3) := by decide +kernel
theorem d_Unpacker_readAll_75 : decode prog_11_method_2_code 75 = .ok (.iconst 1, 1) := by decide +kernel
theorem d_Unpacker_readAll_76 : decode prog_11_method_2_code 76 = .ok (.if_icmp .ne 7, 3) := by decide +kernel
theorem d_Unpacker_readAll_79 : decode prog_11_method_2_code 79 = .ok (.iconst 1, 1) := by decide +kernel
theorem d_Unpacker_readAll_80 : decode prog_11_method_2_code 80 = .ok (.goto 4, 3) := by decide +kernel
theorem d_Unpacker_readAll_83 : decode prog_11_method_2_code 83 = .ok (.iconst 0, 1) := by decide +kernel
theorem d_Unpacker_readAll_84 : decode prog_11_method_2_code 84 = .ok (.istore 4, 2) := by decide +kernel
theorem d_Unpacker_readAll_86 : decode prog_11_method_2_code 86 = .ok (.aload_n 0, 1) := by decide +kernel
theorem d_Unpacker_readAll_87 : decode prog_11_method_2_code 87 = .ok (.getfield 12, 3) := by decide +kernel
theorem d_Unpacker_readAll_90 : decode prog_11_method_2_code 90 = .ok (.getfield 55, 3) := by decide +kernel
theorem d_Unpacker_readAll_93 : decode prog_11_method_2_code 93 = .ok (.aload_n 1, 1) := by decide +kernel
theorem d_Unpacker_readAll_94 : decode prog_11_method_2_code 94 = .ok (.bipush 6, 2) := by decide +kernel
theorem d_Unpacker_readAll_96 : decode prog_11_method_2_code 96 = .ok (.invokevirtual 51, 3) := by decide +kernel
theorem d_Unpacker_readAll_99 : decode prog_11_method_2_code 99 = .ok (.iadd, 1) := by decide +kernel
theorem d_Unpacker_readAll_100 : decode prog_11_method_2_code 100 = .ok (.iconst 1, 1) := by decide +kernel
theorem d_Unpacker_readAll_101 : decode prog_11_method_2_code 101 = .ok (.iadd, 1) := by decide +kernel
theorem d_Unpacker_readAll_102 : decode prog_11_method_2_code 102 = .ok (.istore 5, 2) := by decide +kernel
theorem d_Unpacker_readAll_104 : decode prog_11_method_2_code 104 = .ok (.aload_n 1, 1) := by decide +kernel
theorem d_Unpacker_readAll_105 : decode prog_11_method_2_code 105 = .ok (.getfield 59, 3) := by decide +kernel
theorem d_Unpacker_readAll_108 : decode prog_11_method_2_code 108 = .ok (.ifCond .ne 10, 3) := by decide +kernel
theorem d_Unpacker_readAll_111 : decode prog_11_method_2_code 111 = .ok (.iload 5, 2) := by decide +kernel
theorem d_Unpacker_readAll_113 : decode prog_11_method_2_code 113 = .ok (.bipush 96, 2) := by decide +kernel
theorem d_Unpacker_readAll_115 : decode prog_11_method_2_code 115 = .ok (.if_icmp .le 5, 3) := by decide +kernel
theorem d_Unpacker_readAll_118 : decode prog_11_method_2_code 118 = .ok (.iconst 0, 1) := by decide +kernel
theorem d_Unpacker_readAll_119 : decode prog_11_method_2_code 119 = .ok (.ireturn, 1) := by decide +kernel
theorem d_Unpacker_readAll_120 : decode prog_11_method_2_code 120 = .ok (.iload 4, 2) := by decide +kernel
theorem d_Unpacker_readAll_122 : decode prog_11_method_2_code 122 = .ok (.ifCond .eq 13, 3) := by decide +kernel
theorem d_Unpacker_readAll_125 : decode prog_11_method_2_code 125 = .ok (.aload_n 0, 1) := by decide +kernel
theorem d_Unpacker_readAll_126 : decode prog_11_method_2_code 126 = .ok (.aload_n 1, 1) := by decide +kernel
theorem d_Unpacker_readAll_127 : decode prog_11_method_2_code 127 = .ok (.iload 5, 2) := by decide +kernel
theorem d_Unpacker_readAll_129 : decode prog_11_method_2_code 129 = .ok (.invokevirtual 63, 3) := by decide +kernel
theorem d_Unpacker_readAll_132 : decode prog_11_method_2_code 132 = .ok (.goto 10, 3) := by decide +kernel
theorem d_Unpacker_readAll_135 : decode prog_11_method_2_code 135 = .ok (.aload_n 0, 1) := by decide +kernel
theorem d_Unpacker_readAll_136 : decode prog_11_method_2_code 136 = .ok (.aload_n 1, 1) := by decide +kernel
theorem d_Unpacker_readAll_137 : decode prog_11_method_2_code 137 = .ok (.iload 5, 2) := by decide +kernel
theorem d_Unpacker_readAll_139 : decode prog_11_method_2_code 139 = .ok (.invokevirtual 67, 3) := by decide +kernel
theorem d_Unpacker_readAll_142 : decode prog_11_method_2_code 142 = .ok (.istore 6, 2) := by decide +kernel
theorem d_Unpacker_readAll_144 : decode prog_11_method_2_code 144 = .ok (.iload 6, 2) := by decide +kernel
theorem d_Unpacker_readAll_146 : decode prog_11_method_2_code 146 = .ok (.ifCond .ne 5, 3) := by decide +kernel
theorem d_Unpacker_readAll_149 : decode prog_11_method_2_code 149 = .ok (.iconst 0, 1) := by decide +kernel
theorem d_Unpacker_readAll_150 : decode prog_11_method_2_code 150 = .ok (.ireturn, 1) := by decide +kernel
theorem d_Unpacker_readAll_151 : decode prog_11_method_2_code 151 = .ok (.iinc 3 1, 3) := by decide +kernel
theorem d_Unpacker_readAll_154 : decode prog_11_method_2_code 154 = .ok (.goto (-125), 3) := by decide +kernel
theorem d_Unpacker_readAll_157 : decode prog_11_method_2_code 157 = .ok (.iload_n 2, 1) := by decide +kernel
theorem d_Unpacker_readAll_158 : decode prog_11_method_2_code 158 = .ok (.ifCond .eq 14, 3) := by decide +kernel
theorem d_Unpacker_readAll_161 : decode prog_11_method_2_code 161 = .ok (.aload_n 1, 1) := by decide +kernel
theorem d_Unpacker_readAll_162 : decode prog_11_method_2_code 162 = .ok (.invokevirtual 70, 3) := by decide +kernel
theorem d_Unpacker_readAll_165 : decode prog_11_method_2_code 165 = .ok (.ifCond .eq 7, 3) := by decide +kernel
theorem d_Unpacker_readAll_168 : decode prog_11_method_2_code 168 = .ok (.iconst 1, 1) := by decide +kernel
theorem d_Unpacker_readAll_169 : decode prog_11_method_2_code 169 = .ok (.goto 4, 3) := by decide +kernel
theorem d_Unpacker_readAll_172 : decode prog_11_method_2_code 172 = .ok (.iconst 0, 1) := by decide +kernel
theorem d_Unpacker_readAll_173 : decode prog_11_method_2_code 173 = .ok (.ireturn, 1) := by decide +kernel
theorem d_Unpacker_readRaw_0 : decode prog_11_method_3_code 0 = .ok (.aload_n 1, 1) := by decide +kernel
theorem d_Unpacker_readRaw_1 : decode prog_11_method_3_code 1 = .ok (.invokevirtual 74, 3) := by decide +kernel
theorem d_Unpacker_readRaw_4 : decode prog_11_method_3_code 4 = .ok (.ifCond .ne 5, 3) := by decide +kernel
theorem d_Unpacker_readRaw_7 : decode prog_11_method_3_code 7 = .ok (.iconst 0, 1) := by decide +kernel
theorem d_Unpacker_readRaw_8 : decode prog_11_method_3_code 8 = .ok (.ireturn, 1) := by decide +kernel
theorem d_Unpacker_readRaw_9 : decode prog_11_method_3_code 9 = .ok (.aload_n 0, 1) := by decide +kernel
theorem d_Unpacker_readRaw_10 : decode prog_11_method_3_code 10 = .ok (.getfield 12, 3) := by decide +kernel
theorem d_Unpacker_readRaw_13 : decode prog_11_method_3_code 13 = .ok (.getfield 55, 3) := by decide +kernel
theorem d_Unpacker_readRaw_16 : decode prog_11_method_3_code 16 = .ok (.istore_n 3, 1) := by decide +kernel
theorem d_Unpacker_readRaw_17 : decode prog_11_method_3_code 17 = .ok (.iload_n 3, 1) := by decide +kernel
theorem d_Unpacker_readRaw_18 : decode prog_11_method_3_code 18 = .ok (.iload_n 2, 1) := by decide +kernel
theorem d_Unpacker_readRaw_19 : decode prog_11_method_3_code 19 = .ok (.if_icmp .ge 23, 3) := by decide +kernel
theorem d_Unpacker_readRaw_22 : decode prog_11_method_3_code 22 = .ok (.aload_n 0, 1) := by decide +kernel
theorem d_Unpacker_readRaw_23 : decode prog_11_method_3_code 23 = .ok (.getfield 12, 3) := by decide +kernel
theorem d_Unpacker_readRaw_26 : decode prog_11_method_3_code 26 = .ok (.aload_n 1, 1) := by decide +kernel
theorem d_Unpacker_readRaw_27 : decode prog_11_method_3_code 27 = .ok (.bipush 8, 2) := by decide +kernel
theorem d_Unpacker_readRaw_29 : decode prog_11_method_3_code 29 = .ok (.invokevirtual 51, 3) := by decide +kernel
theorem d_Unpacker_readRaw_32 : decode prog_11_method_3_code 32 = .ok (.invokevirtual 77, 3) := by decide +kernel
theorem d_Unpacker_readRaw_35 : decode prog_11_method_3_code 35 = .ok (.pop, 1) := by decide +kernel
theorem d_Unpacker_readRaw_36 : decode prog_11_method_3_code 36 = .ok (.iinc 3 1, 3) := by decide +kernel
theorem d_Unpacker_readRaw_39 : decode prog_11_method_3_code 39 = .ok (.goto (-22), 3) := by decide +kernel
theorem d_Unpacker_readRaw_42 : decode prog_11_method_3_code 42 = .ok (.aload_n 1, 1) := by decide +kernel
theorem d_Unpacker_readRaw_43 : decode prog_11_method_3_code 43 = .ok (.getfield 59, 3) := by decide +kernel
theorem d_Unpacker_readRaw_46 : decode prog_11_method_3_code 46 = .ok (.ifCond .ne 7, 3) := by decide +kernel
theorem d_Unpacker_readRaw_49 : decode prog_11_method_3_code 49 = .ok (.iconst 1, 1) := by decide +kernel
theorem d_Unpacker_readRaw_50 : decode prog_11_method_3_code 50 = .ok (.goto 4, 3) := by decide +kernel
theorem d_Unpacker_readRaw_53 : decode prog_11_method_3_code 53 = .ok (.iconst 0, 1) := by decide +kernel
theorem d_Unpacker_readRaw_54 : decode prog_11_method_3_code 54 = .ok (.ireturn, 1) := by decide +kernel
theorem d_Unpacker_readCoded_0 : decode prog_11_method_4_code 0 = .ok (.aload_n 1, 1) := by decide +kernel
theorem d_Unpacker_readCoded_1 : decode prog_11_method_4_code 1 = .ok (.iconst 1, 1) := by decide +kernel
theorem d_Unpacker_readCoded_2 : decode prog_11_method_4_code 2 = .ok (.invokevirtual 51, 3) := by decide +kernel
theorem d_Unpacker_readCoded_5 : decode prog_11_method_4_code 5 = .ok (.iconst 1, 1) := by decide +kernel
theorem d_Unpacker_readCoded_6 : decode prog_11_method_4_code 6 = .ok (.if_icmp .ne 7, 3) := by decide +kernel
theorem d_Unpacker_readCoded_9 : decode prog_11_method_4_code 9 = .ok (.iconst 1, 1) := by decide +kernel
theorem d_Unpacker_readCoded_10 : decode prog_11_method_4_code 10 = .ok (.goto 4, 3) := by decide +kernel
theorem d_Unpacker_readCoded_13 : decode prog_11_method_4_code 13 = .ok (.iconst 0, 1) := by decide +kernel
theorem d_Unpacker_readCoded_14 : decode prog_11_method_4_code 14 = .ok (.istore_n 3, 1) := by decide +kernel
theorem d_Unpacker_readCoded_15 : decode prog_11_method_4_code 15 = .ok (.aload_n 0, 1) := by decide +kernel
theorem d_Unpacker_readCoded_16 : decode prog_11_method_4_code 16 = .ok (.getfield 35, 3) := by decide +kernel
theorem d_Unpacker_readCoded_19 : decode prog_11_method_4_code 19 = .ok (.aload_n 1, 1) := by decide +kernel
theorem d_Unpacker_readCoded_20 : decode prog_11_method_4_code 20 = .ok (.iload_n 3, 1) := by decide +kernel
theorem d_Unpacker_readCoded_21 : decode prog_11_method_4_code 21 = .ok (.invokevirtual 81, 3) := by decide +kernel
theorem d_Unpacker_readCoded_24 : decode prog_11_method_4_code 24 = .ok (.ifCond .ne 5, 3) := by decide +kernel
theorem d_Unpacker_readCoded_27 : decode prog_11_method_4_code 27 = .ok (.iconst 0, 1) := by decide +kernel
theorem d_Unpacker_readCoded_28 : decode prog_11_method_4_code 28 = .ok (.ireturn, 1) := by decide +kernel
theorem d_Unpacker_readCoded_29 : decode prog_11_method_4_code 29 = .ok (.aload_n 0, 1) := by decide +kernel
theorem d_Unpacker_readCoded_30 : decode prog_11_method_4_code 30 = .ok (.getfield 21, 3) := by decide +kernel
theorem d_Unpacker_readCoded_33 : decode prog_11_method_4_code 33 = .ok (.dup, 1) := by decide +kernel
theorem d_Unpacker_readCoded_34 : decode prog_11_method_4_code 34 = .ok (.getfield 85, 3) := by decide +kernel
theorem d_Unpacker_readCoded_37 : decode prog_11_method_4_code 37 = .ok (.iconst 1, 1) := by decide +kernel
theorem d_Unpacker_readCoded_38 : decode prog_11_method_4_code 38 = .ok (.iadd, 1) := by decide +kernel
theorem d_Unpacker_readCoded_39 : decode prog_11_method_4_code 39 = .ok (.putfield 85, 3) := by decide +kernel
theorem d_Unpacker_readCoded_42 : decode prog_11_method_4_code 42 = .ok (.iconst 0, 1) := by decide +kernel
theorem d_Unpacker_readCoded_43 : decode prog_11_method_4_code 43 = .ok (.istore 4, 2) := by decide +kernel
theorem d_Unpacker_readCoded_45 : decode prog_11_method_4_code 45 = .ok (.iload 4, 2) := by decide +kernel
theorem d_Unpacker_readCoded_47 : decode prog_11_method_4_code 47 = .ok (.bipush 64, 2) := by decide +kernel
theorem d_Unpacker_readCoded_49 : decode prog_11_method_4_code 49 = .ok (.if_icmp .ge 32, 3) := by decide +kernel
theorem d_Unpacker_readCoded_52 : decode prog_11_method_4_code 52 = .ok (.aload_n 0, 1) := by decide +kernel
theorem d_Unpacker_readCoded_53 : decode prog_11_method_4_code 53 = .ok (.getfield 12, 3) := by decide +kernel
theorem d_Unpacker_readCoded_56 : decode prog_11_method_4_code 56 = .ok (.getfield 55, 3) := by decide +kernel
theorem d_Unpacker_readCoded_59 : decode prog_11_method_4_code 59 = .ok (.iload_n 2, 1) := by decide +kernel
theorem d_Unpacker_readCoded_60 : decode prog_11_method_4_code 60 = .ok (.if_icmp .ge 21, 3) := by decide +kernel
theorem d_Unpacker_readCoded_63 : decode prog_11_method_4_code 63 = .ok (.aload_n 0, 1) := by decide +kernel
theorem d_Unpacker_readCoded_64 : decode prog_11_method_4_code 64 = .ok (.aload_n 1, 1) := by decide +kernel
theorem d_Unpacker_readCoded_65 : decode prog_11_method_4_code 65 = .ok (.iload_n 3, 1) := by decide +kernel
theorem d_Unpacker_readCoded_66 : decode prog_11_method_4_code 66 = .ok (.iload_n 2, 1) := by decide +kernel
theorem d_Unpacker_readCoded_67 : decode prog_11_method_4_code 67 = .ok (.invokevirtual 88, 3) := by decide +kernel
theorem d_Unpacker_readCoded_70 : decode prog_11_method_4_code 70 = .ok (.ifCond .ne 5, 3) := by decide +kernel
theorem d_Unpacker_readCoded_73 : decode prog_11_method_4_code 73 = .ok (.iconst 0, 1) := by decide +kernel
theorem d_Unpacker_readCoded_74 : decode prog_11_method_4_code 74 = .ok (.ireturn, 1) := by decide +kernel
theorem d_Unpacker_readCoded_75 : decode prog_11_method_4_code 75 = .ok (.iinc 4 1, 3) := by decide +kernel
theorem d_Unpacker_readCoded_78 : decode prog_11_method_4_code 78 = .ok (.goto (-33), 3) := by decide +kernel
theorem d_Unpacker_readCoded_81 : decode prog_11_method_4_code 81 = .ok (.aload_n 0, 1) := by decide +kernel
theorem d_Unpacker_readCoded_82 : decode prog_11_method_4_code 82 = .ok (.getfield 12, 3) := by decide +kernel
theorem d_Unpacker_readCoded_85 : decode prog_11_method_4_code 85 = .ok (.getfield 55, 3) := by decide +kernel
theorem d_Unpacker_readCoded_88 : decode prog_11_method_4_code 88 = .ok (.iload_n 2, 1) := by decide +kernel
theorem d_Unpacker_readCoded_89 : decode prog_11_method_4_code 89 = .ok (.if_icmp .ne 7, 3) := by decide +kernel
theorem d_Unpacker_readCoded_92 : decode prog_11_method_4_code 92 = .ok (.iconst 1, 1) := by decide +kernel
theorem d_Unpacker_readCoded_93 : decode prog_11_method_4_code 93 = .ok (.goto 4, 3) := by decide +kernel
theorem d_Unpacker_readCoded_96 : decode prog_11_method_4_code 96 = .ok (.iconst 0, 1) := by decide +kernel
theorem d_Unpacker_readCoded_97 : decode prog_11_method_4_code 97 = .ok (.ireturn, 1) := by decide +kernel
theorem d_Unpacker_readCommand_0 : decode prog_11_method_5_code 0 = .ok (.aload_n 0, 1) := by decide +kernel
theorem d_Unpacker_readCommand_1 : decode prog_11_method_5_code 1 = .ok (.getfield 35, 3) := by decide +kernel
theorem d_Unpacker_readCommand_4 : decode prog_11_method_5_code 4 = .ok (.getfield 92, 3) := by decide +kernel
theorem d_Unpacker_readCommand_7 : decode prog_11_method_5_code 7 = .ok (.aload_n 1, 1) := by decide +kernel
theorem d_Unpacker_readCommand_8 : decode prog_11_method_5_code 8 = .ok (.invokevirtual 96, 3) := by decide +kernel
theorem d_Unpacker_readCommand_11 : decode prog_11_method_5_code 11 = .ok (.istore 4, 2) := by decide +kernel
theorem d_Unpacker_readCommand_13 : decode prog_11_method_5_code 13 = .ok (.iload 4, 2) := by decide +kernel
theorem d_Unpacker_readCommand_15 : decode prog_11_method_5_code 15 = .ok (.iconst (-1), 1) := by decide +kernel
theorem d_Unpacker_readCommand_16 : decode prog_11_method_5_code 16 = .ok (.if_icmp .ne 5, 3) := by decide +kernel
theorem d_Unpacker_readCommand_19 : decode prog_11_method_5_code 19 = .ok (.iconst 0, 1) := by decide +kernel
theorem d_Unpacker_readCommand_20 : decode prog_11_method_5_code 20 = .ok (.ireturn, 1) := by decide +kernel
theorem d_Unpacker_readCommand_21 : decode prog_11_method_5_code 21 = .ok (.aload_n 0, 1) := by decide +kernel
theorem d_Unpacker_readCommand_22 : decode prog_11_method_5_code 22 = .ok (.getfield 21, 3) := by decide +kernel
theorem d_Unpacker_readCommand_25 : decode prog_11_method_5_code 25 = .ok (.dup, 1) := by decide +kernel
theorem d_Unpacker_readCommand_26 : decode prog_11_method_5_code 26 = .ok (.getfield 102, 3) := by decide +kernel
theorem d_Unpacker_readCommand_29 : decode prog_11_method_5_code 29 = .ok (.iconst 1, 1) := by decide +kernel
theorem d_Unpacker_readCommand_30 : decode prog_11_method_5_code 30 = .ok (.iadd, 1) := by decide +kernel
theorem d_Unpacker_readCommand_31 : decode prog_11_method_5_code 31 = .ok (.putfield 102, 3) := by decide +kernel
theorem d_Unpacker_readCommand_34 : decode prog_11_method_5_code 34 = .ok (.iload 4, 2) := by decide +kernel
theorem d_Unpacker_readCommand_36 : decode prog_11_method_5_code 36 = .ok (.iconst 3, 1) := by decide +kernel
theorem d_Unpacker_readCommand_37 : decode prog_11_method_5_code 37 = .ok (.ishr, 1) := by decide +kernel
theorem d_Unpacker_readCommand_38 : decode prog_11_method_5_code 38 = .ok (.istore 5, 2) := by decide +kernel
theorem d_Unpacker_readCommand_40 : decode prog_11_method_5_code 40 = .ok (.iload 4, 2) := by decide +kernel
theorem d_Unpacker_readCommand_42 : decode prog_11_method_5_code 42 = .ok (.bipush 7, 2) := by decide +kernel
theorem d_Unpacker_readCommand_44 : decode prog_11_method_5_code 44 = .ok (.iand, 1) := by decide +kernel
theorem d_Unpacker_readCommand_45 : decode prog_11_method_5_code 45 = .ok (.istore 6, 2) := by decide +kernel
theorem d_Unpacker_readCommand_47 : decode prog_11_method_5_code 47 = .ok (.getstatic 105, 3) := by decide +kernel
theorem d_Unpacker_readCommand_50 : decode prog_11_method_5_code 50 = .ok (.iload 5, 2) := by decide +kernel
theorem d_Unpacker_readCommand_52 : decode prog_11_method_5_code 52 = .ok (.iaload, 1) := by decide +kernel
theorem d_Unpacker_readCommand_53 : decode prog_11_method_5_code 53 = .ok (.aload_n 1, 1) := by decide +kernel
theorem d_Unpacker_readCommand_54 : decode prog_11_method_5_code 54 = .ok (.getstatic 109, 3) := by decide +kernel
theorem d_Unpacker_readCommand_57 : decode prog_11_method_5_code 57 = .ok (.iload 5, 2) := by decide +kernel
theorem d_Unpacker_readCommand_59 : decode prog_11_method_5_code 59 = .ok (.iaload, 1) := by decide +kernel
theorem d_Unpacker_readCommand_60 : decode prog_11_method_5_code 60 = .ok (.invokevirtual 51, 3) := by decide +kernel
theorem d_Unpacker_readCommand_63 : decode prog_11_method_5_code 63 = .ok (.iadd, 1) := by decide +kernel
theorem d_Unpacker_readCommand_64 : decode prog_11_method_5_code 64 = .ok (.istore 7, 2) := by decide +kernel
theorem d_Unpacker_readCommand_66 : decode prog_11_method_5_code 66 = .ok (.getstatic 112, 3) := by decide +kernel
theorem d_Unpacker_readCommand_69 : decode prog_11_method_5_code 69 = .ok (.iload 6, 2) := by decide +kernel
theorem d_Unpacker_readCommand_71 : decode prog_11_method_5_code 71 = .ok (.iaload, 1) := by decide +kernel
theorem d_Unpacker_readCommand_72 : decode prog_11_method_5_code 72 = .ok (.aload_n 1, 1) := by decide +kernel
theorem d_Unpacker_readCommand_73 : decode prog_11_method_5_code 73 = .ok (.getstatic 115, 3) := by decide +kernel
theorem d_Unpacker_readCommand_76 : decode prog_11_method_5_code 76 = .ok (.iload 6, 2) := by decide +kernel
theorem d_Unpacker_readCommand_78 : decode prog_11_method_5_code 78 = .ok (.iaload, 1) := by decide +kernel
theorem d_Unpacker_readCommand_79 : decode prog_11_method_5_code 79 = .ok (.invokevirtual 51, 3) := by decide +kernel
theorem d_Unpacker_readCommand_82 : decode prog_11_method_5_code 82 = .ok (.iadd, 1) := by decide +kernel
theorem d_Unpacker_readCommand_83 : decode prog_11_method_5_code 83 = .ok (.istore 8, 2) := by decide +kernel
theorem d_Unpacker_readCommand_85 : decode prog_11_method_5_code 85 = .ok (.iload 7, 2) := by decide +kernel
theorem d_Unpacker_readCommand_87 : decode prog_11_method_5_code 87 = .ok (.iload_n 3, 1) := by decide +kernel
theorem d_Unpacker_readCommand_88 : decode prog_11_method_5_code 88 = .ok (.aload_n 0, 1) := by decide +kernel
theorem d_Unpacker_readCommand_89 : decode prog_11_method_5_code 89 = .ok (.getfield 12, 3) := by decide +kernel
theorem d_Unpacker_readCommand_92 : decode prog_11_method_5_code 92 = .ok (.getfield 55, 3) := by decide +kernel
theorem d_Unpacker_readCommand_95 : decode prog_11_method_5_code 95 = .ok (.isub, 1) := by decide +kernel
theorem d_Unpacker_readCommand_96 : decode prog_11_method_5_code 96 = .ok (.if_icmp .le 5, 3) := by decide +kernel
theorem d_Unpacker_readCommand_99 : decode prog_11_method_5_code 99 = .ok (.iconst 0, 1) := by decide +kernel
theorem d_Unpacker_readCommand_100 : decode prog_11_method_5_code 100 = .ok (.ireturn, 1) := by decide +kernel
theorem d_Unpacker_readCommand_101 : decode prog_11_method_5_code 101 = .ok (.iconst 0, 1) := by decide +kernel
theorem d_Unpacker_readCommand_102 : decode prog_11_method_5_code 102 = .ok (.istore 9, 2) := by decide +kernel
theorem d_Unpacker_readCommand_104 : decode prog_11_method_5_code 104 = .ok (.iload 9, 2) := by decide +kernel
theorem d_Unpacker_readCommand_106 : decode prog_11_method_5_code 106 = .ok (.iload 7, 2) := by decide +kernel
theorem d_Unpacker_readCommand_108 : decode prog_11_method_5_code 108 = .ok (.if_icmp .ge 53, 3) := by decide +kernel
theorem d_Unpacker_readCommand_111 : decode prog_11_method_5_code 111 = .ok (.aload_n 0, 1) := by decide +kernel
theorem d_Unpacker_readCommand_112 : decode prog_11_method_5_code 112 = .ok (.getfield 12, 3) := by decide +kernel
theorem d_Unpacker_readCommand_115 : decode prog_11_method_5_code 115 = .ok (.aload_n 0, 1) := by decide +kernel
theorem d_Unpacker_readCommand_116 : decode prog_11_method_5_code 116 = .ok (.getfield 35, 3) := by decide +kernel
theorem d_Unpacker_readCommand_119 : decode prog_11_method_5_code 119 = .ok (.aload_n 0, 1) := by decide +kernel
theorem d_Unpacker_readCommand_120 : decode prog_11_method_5_code 120 = .ok (.getfield 12, 3) := by decide +kernel
theorem d_Unpacker_readCommand_123 : decode prog_11_method_5_code 123 = .ok (.aload_n 0, 1) := by decide +kernel
theorem d_Unpacker_readCommand_124 : decode prog_11_method_5_code 124 = .ok (.getfield 12, 3) := by decide +kernel
theorem d_Unpacker_readCommand_127 : decode prog_11_method_5_code 127 = .ok (.getfield 55, 3) := by decide +kernel
theorem d_Unpacker_readCommand_130 : decode prog_11_method_5_code 130 = .ok (.iload_n 2, 1) := by decide +kernel
theorem d_Unpacker_readCommand_131 : decode prog_11_method_5_code 131 = .ok (.invokevirtual 118, 3) := by decide +kernel
theorem d_Unpacker_readCommand_134 : decode prog_11_method_5_code 134 = .ok (.aload_n 1, 1) := by decide +kernel
theorem d_Unpacker_readCommand_135 : decode prog_11_method_5_code 135 = .ok (.invokevirtual 96, 3) := by decide +kernel
theorem d_Unpacker_readCommand_138 : decode prog_11_method_5_code 138 = .ok (.invokevirtual 77, 3) := by decide +kernel
theorem d_Unpacker_readCommand_141 : decode prog_11_method_5_code 141 = .ok (.pop, 1) := by decide +kernel
theorem d_Unpacker_readCommand_142 : decode prog_11_method_5_code 142 = .ok (.aload_n 0, 1) := by decide +kernel
theorem d_Unpacker_readCommand_143 : decode prog_11_method_5_code 143 = .ok (.getfield 21, 3) := by decide +kernel
theorem d_Unpacker_readCommand_146 : decode prog_11_method_5_code 146 = .ok (.dup, 1) := by decide +kernel
theorem d_Unpacker_readCommand_147 : decode prog_11_method_5_code 147 = .ok (.getfield 102, 3) := by decide +kernel
theorem d_Unpacker_readCommand_150 : decode prog_11_method_5_code 150 = .ok (.iconst 1, 1) := by decide +kernel
theorem d_Unpacker_readCommand_151 : decode prog_11_method_5_code 151 = .ok (.iadd, 1) := by decide +kernel
theorem d_Unpacker_readCommand_152 : decode prog_11_method_5_code 152 = .ok (.putfield 102, 3) := by decide +kernel
theorem d_Unpacker_readCommand_155 : decode prog_11_method_5_code 155 = .ok (.iinc 9 1, 3) := by decide +kernel
theorem d_Unpacker_readCommand_158 : decode prog_11_method_5_code 158 = .ok (.goto (-54), 3) := by decide +kernel
theorem d_Unpacker_readCommand_161 : decode prog_11_method_5_code 161 = .ok (.aload_n 1, 1) := by decide +kernel
theorem d_Unpacker_readCommand_162 : decode prog_11_method_5_code 162 = .ok (.getfield 59, 3) := by decide +kernel
theorem d_Unpacker_readCommand_165 : decode prog_11_method_5_code 165 = .ok (.ifCond .ne 14, 3) := by decide +kernel
theorem d_Unpacker_readCommand_168 : decode prog_11_method_5_code 168 = .ok (.aload_n 0, 1) := by decide +kernel
theorem d_Unpacker_readCommand_169 : decode prog_11_method_5_code 169 = .ok (.getfield 12, 3) := by decide +kernel
theorem d_Unpacker_readCommand_172 : decode prog_11_method_5_code 172 = .ok (.getfield 55, 3) := by decide +kernel
theorem d_Unpacker_readCommand_175 : decode prog_11_method_5_code 175 = .ok (.iload_n 3, 1) := by decide +kernel
theorem d_Unpacker_readCommand_176 : decode prog_11_method_5_code 176 = .ok (.if_icmp .ne 16, 3) := by decide +kernel
theorem d_Unpacker_readCommand_179 : decode prog_11_method_5_code 179 = .ok (.aload_n 1, 1) := by decide +kernel
theorem d_Unpacker_readCommand_180 : decode prog_11_method_5_code 180 = .ok (.getfield 59, 3) := by decide +kernel
theorem d_Unpacker_readCommand_183 : decode prog_11_method_5_code 183 = .ok (.ifCond .ne 7, 3) := by decide +kernel
theorem d_Unpacker_readCommand_186 : decode prog_11_method_5_code 186 = .ok (.iconst 1, 1) := by decide +kernel
theorem d_Unpacker_readCommand_187 : decode prog_11_method_5_code 187 = .ok (.goto 4, 3) := by decide +kernel
theorem d_Unpacker_readCommand_190 : decode prog_11_method_5_code 190 = .ok (.iconst 0, 1) := by decide +kernel
theorem d_Unpacker_readCommand_191 : decode prog_11_method_5_code 191 = .ok (.ireturn, 1) := by decide +kernel
theorem d_Unpacker_readCommand_192 : decode prog_11_method_5_code 192 = .ok (.aload_n 0, 1) := by decide +kernel
theorem d_Unpacker_readCommand_193 : decode prog_11_method_5_code 193 = .ok (.aload_n 1, 1) := by decide +kernel
theorem d_Unpacker_readCommand_194 : decode prog_11_method_5_code 194 = .ok (.iload 6, 2) := by decide +kernel
theorem d_Unpacker_readCommand_196 : decode prog_11_method_5_code 196 = .ok (.invokevirtual 122, 3) := by decide +kernel
theorem d_Unpacker_readCommand_199 : decode prog_11_method_5_code 199 = .ok (.istore 9, 2) := by decide +kernel
theorem d_Unpacker_readCommand_201 : decode prog_11_method_5_code 201 = .ok (.aload_n 1, 1) := by decide +kernel
theorem d_Unpacker_readCommand_202 : decode prog_11_method_5_code 202 = .ok (.getfield 59, 3) := by decide +kernel
theorem d_Unpacker_readCommand_205 : decode prog_11_method_5_code 205 = .ok (.ifCond .ne 9, 3) := by decide +kernel
theorem d_Unpacker_readCommand_208 : decode prog_11_method_5_code 208 = .ok (.iload 9, 2) := by decide +kernel
theorem d_Unpacker_readCommand_210 : decode prog_11_method_5_code 210 = .ok (.iconst 1, 1) := by decide +kernel
theorem d_Unpacker_readCommand_211 : decode prog_11_method_5_code 211 = .ok (.if_icmp .ge 5, 3) := by decide +kernel
theorem d_Unpacker_readCommand_214 : decode prog_11_method_5_code 214 = .ok (.iconst 0, 1) := by decide +kernel
theorem d_Unpacker_readCommand_215 : decode prog_11_method_5_code 215 = .ok (.ireturn, 1) := by decide +kernel
theorem d_Unpacker_readCommand_216 : decode prog_11_method_5_code 216 = .ok (.iload 9, 2) := by decide +kernel
theorem d_Unpacker_readCommand_218 : decode prog_11_method_5_code 218 = .ok (.aload_n 0, 1) := by decide +kernel
theorem d_Unpacker_readCommand_219 : decode prog_11_method_5_code 219 = .ok (.getfield 12, 3) := by decide +kernel
theorem d_Unpacker_readCommand_222 : decode prog_11_method_5_code 222 = .ok (.getfield 55, 3) := by decide +kernel
theorem d_Unpacker_readCommand_225 : decode prog_11_method_5_code 225 = .ok (.if_icmp .le 25, 3) := by decide +kernel
theorem d_Unpacker_readCommand_228 : decode prog_11_method_5_code 228 = .ok (.aload_n 0, 1) := by decide +kernel
theorem d_Unpacker_readCommand_229 : decode prog_11_method_5_code 229 = .ok (.iload 8, 2) := by decide +kernel
theorem d_Unpacker_readCommand_231 : decode prog_11_method_5_code 231 = .ok (.iload 9, 2) := by decide +kernel
theorem d_Unpacker_readCommand_233 : decode prog_11_method_5_code 233 = .ok (.aload_n 0, 1) := by decide +kernel
theorem d_Unpacker_readCommand_234 : decode prog_11_method_5_code 234 = .ok (.getfield 12, 3) := by decide +kernel
theorem d_Unpacker_readCommand_237 : decode prog_11_method_5_code 237 = .ok (.getfield 55, 3) := by decide +kernel
theorem d_Unpacker_readCommand_240 : decode prog_11_method_5_code 240 = .ok (.isub, 1) := by decide +kernel
theorem d_Unpacker_readCommand_241 : decode prog_11_method_5_code 241 = .ok (.iconst 1, 1) := by decide +kernel
theorem d_Unpacker_readCommand_242 : decode prog_11_method_5_code 242 = .ok (.isub, 1) := by decide +kernel
theorem d_Unpacker_readCommand_243 : decode prog_11_method_5_code 243 = .ok (.iload_n 3, 1) := by decide +kernel
theorem d_Unpacker_readCommand_244 : decode prog_11_method_5_code 244 = .ok (.invokevirtual 126, 3) := by decide +kernel
theorem d_Unpacker_readCommand_247 : decode prog_11_method_5_code 247 = .ok (.goto 12, 3) := by decide +kernel
theorem d_Unpacker_readCommand_250 : decode prog_11_method_5_code 250 = .ok (.aload_n 0, 1) := by decide +kernel
theorem d_Unpacker_readCommand_251 : decode prog_11_method_5_code 251 = .ok (.iload 8, 2) := by decide +kernel
theorem d_Unpacker_readCommand_253 : decode prog_11_method_5_code 253 = .ok (.iload 9, 2) := by decide +kernel
theorem d_Unpacker_readCommand_255 : decode prog_11_method_5_code 255 = .ok (.iload_n 3, 1) := by decide +kernel
theorem d_Unpacker_readCommand_256 : decode prog_11_method_5_code 256 = .ok (.invokevirtual 130, 3) := by decide +kernel
theorem d_Unpacker_readCommand_259 : decode prog_11_method_5_code 259 = .ok (.ireturn, 1) := by decide +kernel
theorem d_Unpacker_readDistance_0 : decode prog_11_method_6_code 0 = .ok (.iload_n 2, 1) := by decide +kernel
theorem d_Unpacker_readDistance_1 : decode prog_11_method_6_code 1 = .ok (.bipush 7, 2) := by decide +kernel
theorem d_Unpacker_readDistance_3 : decode prog_11_method_6_code 3 = .ok (.if_icmp .ne 12, 3) := by decide +kernel
theorem d_Unpacker_readDistance_6 : decode prog_11_method_6_code 6 = .ok (.aload_n 0, 1) := by decide +kernel
theorem d_Unpacker_readDistance_7 : decode prog_11_method_6_code 7 = .ok (.getfield 28, 3) := by decide +kernel
theorem d_Unpacker_readDistance_10 : decode prog_11_method_6_code 10 = .ok (.iconst 0, 1) := by decide +kernel
theorem d_Unpacker_readDistance_11 : decode prog_11_method_6_code 11 = .ok (.invokevirtual 133, 3) := by decide +kernel
theorem d_Unpacker_readDistance_14 : decode prog_11_method_6_code 14 = .ok (.ireturn, 1) := by decide +kernel
theorem d_Unpacker_readDistance_15 : decode prog_11_method_6_code 15 = .ok (.aload_n 0, 1) := by decide +kernel
theorem d_Unpacker_readDistance_16 : decode prog_11_method_6_code 16 = .ok (.getfield 35, 3) := by decide +kernel
theorem d_Unpacker_readDistance_19 : decode prog_11_method_6_code 19 = .ok (.getfield 136, 3) := by decide +kernel
theorem d_Unpacker_readDistance_22 : decode prog_11_method_6_code 22 = .ok (.aload_n 1, 1) := by decide +kernel
theorem d_Unpacker_readDistance_23 : decode prog_11_method_6_code 23 = .ok (.invokevirtual 96, 3) := by decide +kernel
theorem d_Unpacker_readDistance_26 : decode prog_11_method_6_code 26 = .ok (.istore_n 3, 1) := by decide +kernel
theorem d_Unpacker_readDistance_27 : decode prog_11_method_6_code 27 = .ok (.aload_n 0, 1) := by decide +kernel
theorem d_Unpacker_readDistance_28 : decode prog_11_method_6_code 28 = .ok (.getfield 21, 3) := by decide +kernel
theorem d_Unpacker_readDistance_31 : decode prog_11_method_6_code 31 = .ok (.dup, 1) := by decide +kernel
theorem d_Unpacker_readDistance_32 : decode prog_11_method_6_code 32 = .ok (.getfield 102, 3) := by decide +kernel
theorem d_Unpacker_readDistance_35 : decode prog_11_method_6_code 35 = .ok (.iconst 1, 1) := by decide +kernel
theorem d_Unpacker_readDistance_36 : decode prog_11_method_6_code 36 = .ok (.iadd, 1) := by decide +kernel
theorem d_Unpacker_readDistance_37 : decode prog_11_method_6_code 37 = .ok (.putfield 102, 3) := by decide +kernel
theorem d_Unpacker_readDistance_40 : decode prog_11_method_6_code 40 = .ok (.iload_n 3, 1) := by decide +kernel
theorem d_Unpacker_readDistance_41 : decode prog_11_method_6_code 41 = .ok (.bipush 6, 2) := by decide +kernel
theorem d_Unpacker_readDistance_43 : decode prog_11_method_6_code 43 = .ok (.if_icmp .ge 14, 3) := by decide +kernel
theorem d_Unpacker_readDistance_46 : decode prog_11_method_6_code 46 = .ok (.aload_n 0, 1) := by decide +kernel
theorem d_Unpacker_readDistance_47 : decode prog_11_method_6_code 47 = .ok (.getfield 28, 3) := by decide +kernel
theorem d_Unpacker_readDistance_50 : decode prog_11_method_6_code 50 = .ok (.iload_n 3, 1) := by decide +kernel
theorem d_Unpacker_readDistance_51 : decode prog_11_method_6_code 51 = .ok (.invokevirtual 133, 3) := by decide +kernel
theorem d_Unpacker_readDistance_54 : decode prog_11_method_6_code 54 = .ok (.goto 18, 3) := by decide +kernel
theorem d_Unpacker_readDistance_57 : decode prog_11_method_6_code 57 = .ok (.getstatic 139, 3) := by decide +kernel
theorem d_Unpacker_readDistance_60 : decode prog_11_method_6_code 60 = .ok (.iload_n 3, 1) := by decide +kernel
theorem d_Unpacker_readDistance_61 : decode prog_11_method_6_code 61 = .ok (.iaload, 1) := by decide +kernel
theorem d_Unpacker_readDistance_62 : decode prog_11_method_6_code 62 = .ok (.aload_n 1, 1) := by decide +kernel
theorem d_Unpacker_readDistance_63 : decode prog_11_method_6_code 63 = .ok (.getstatic 142, 3) := by decide +kernel
theorem d_Unpacker_readDistance_66 : decode prog_11_method_6_code 66 = .ok (.iload_n 3, 1) := by decide +kernel
theorem d_Unpacker_readDistance_67 : decode prog_11_method_6_code 67 = .ok (.iaload, 1) := by decide +kernel
theorem d_Unpacker_readDistance_68 : decode prog_11_method_6_code 68 = .ok (.invokevirtual 51, 3) := by decide +kernel
theorem d_Unpacker_readDistance_71 : decode prog_11_method_6_code 71 = .ok (.iadd, 1) := by decide +kernel
theorem d_Unpacker_readDistance_72 : decode prog_11_method_6_code 72 = .ok (.istore 4, 2) := by decide +kernel
theorem d_Unpacker_readDistance_74 : decode prog_11_method_6_code 74 = .ok (.iload_n 3, 1) := by decide +kernel
theorem d_Unpacker_readDistance_75 : decode prog_11_method_6_code 75 = .ok (.ifCond .eq 24, 3) := by decide +kernel
theorem d_Unpacker_readDistance_78 : decode prog_11_method_6_code 78 = .ok (.iload 4, 2) := by decide +kernel
theorem d_Unpacker_readDistance_80 : decode prog_11_method_6_code 80 = .ok (.aload_n 0, 1) := by decide +kernel
theorem d_Unpacker_readDistance_81 : decode prog_11_method_6_code 81 = .ok (.getfield 12, 3) := by decide +kernel
theorem d_Unpacker_readDistance_84 : decode prog_11_method_6_code 84 = .ok (.getfield 55, 3) := by decide +kernel
theorem d_Unpacker_readDistance_87 : decode prog_11_method_6_code 87 = .ok (.if_icmp .gt 12, 3) := by decide +kernel
theorem d_Unpacker_readDistance_90 : decode prog_11_method_6_code 90 = .ok (.aload_n 0, 1) := by decide +kernel
theorem d_Unpacker_readDistance_91 : decode prog_11_method_6_code 91 = .ok (.getfield 28, 3) := by decide +kernel
theorem d_Unpacker_readDistance_94 : decode prog_11_method_6_code 94 = .ok (.iload 4, 2) := by decide +kernel
theorem d_Unpacker_readDistance_96 : decode prog_11_method_6_code 96 = .ok (.invokevirtual 145, 3) := by decide +kernel
theorem d_Unpacker_readDistance_99 : decode prog_11_method_6_code 99 = .ok (.iload 4, 2) := by decide +kernel
theorem d_Unpacker_readDistance_101 : decode prog_11_method_6_code 101 = .ok (.ireturn, 1) := by decide +kernel
theorem d_Unpacker_yieldCopy_0 : decode prog_11_method_7_code 0 = .ok (.iload_n 1, 1) := by decide +kernel
theorem d_Unpacker_yieldCopy_1 : decode prog_11_method_7_code 1 = .ok (.iload_n 3, 1) := by decide +kernel
theorem d_Unpacker_yieldCopy_2 : decode prog_11_method_7_code 2 = .ok (.aload_n 0, 1) := by decide +kernel
theorem d_Unpacker_yieldCopy_3 : decode prog_11_method_7_code 3 = .ok (.getfield 12, 3) := by decide +kernel
theorem d_Unpacker_yieldCopy_6 : decode prog_11_method_7_code 6 = .ok (.getfield 55, 3) := by decide +kernel
theorem d_Unpacker_yieldCopy_9 : decode prog_11_method_7_code 9 = .ok (.isub, 1) := by decide +kernel
theorem d_Unpacker_yieldCopy_10 : decode prog_11_method_7_code 10 = .ok (.if_icmp .le 5, 3) := by decide +kernel
theorem d_Unpacker_yieldCopy_13 : decode prog_11_method_7_code 13 = .ok (.iconst 0, 1) := by decide +kernel
theorem d_Unpacker_yieldCopy_14 : decode prog_11_method_7_code 14 = .ok (.ireturn, 1) := by decide +kernel
theorem d_Unpacker_yieldCopy_15 : decode prog_11_method_7_code 15 = .ok (.iconst 0, 1) := by decide +kernel
theorem d_Unpacker_yieldCopy_16 : decode prog_11_method_7_code 16 = .ok (.istore 4, 2) := by decide +kernel
theorem d_Unpacker_yieldCopy_18 : decode prog_11_method_7_code 18 = .ok (.iload 4, 2) := by decide +kernel
theorem d_Unpacker_yieldCopy_20 : decode prog_11_method_7_code 20 = .ok (.iload_n 1, 1) := by decide +kernel
theorem d_Unpacker_yieldCopy_21 : decode prog_11_method_7_code 21 = .ok (.if_icmp .ge 33, 3) := by decide +kernel
theorem d_Unpacker_yieldCopy_24 : decode prog_11_method_7_code 24 = .ok (.aload_n 0, 1) := by decide +kernel
theorem d_Unpacker_yieldCopy_25 : decode prog_11_method_7_code 25 = .ok (.getfield 12, 3) := by decide +kernel
theorem d_Unpacker_yieldCopy_28 : decode prog_11_method_7_code 28 = .ok (.aload_n 0, 1) := by decide +kernel
theorem d_Unpacker_yieldCopy_29 : decode prog_11_method_7_code 29 = .ok (.getfield 12, 3) := by decide +kernel
theorem d_Unpacker_yieldCopy_32 : decode prog_11_method_7_code 32 = .ok (.aload_n 0, 1) := by decide +kernel
theorem d_Unpacker_yieldCopy_33 : decode prog_11_method_7_code 33 = .ok (.getfield 12, 3) := by decide +kernel
theorem d_Unpacker_yieldCopy_36 : decode prog_11_method_7_code 36 = .ok (.getfield 55, 3) := by decide +kernel
theorem d_Unpacker_yieldCopy_39 : decode prog_11_method_7_code 39 = .ok (.iload_n 2, 1) := by decide +kernel
theorem d_Unpacker_yieldCopy_40 : decode prog_11_method_7_code 40 = .ok (.isub, 1) := by decide +kernel
theorem d_Unpacker_yieldCopy_41 : decode prog_11_method_7_code 41 = .ok (.invokevirtual 149, 3) := by decide +kernel
theorem d_Unpacker_yieldCopy_44 : decode prog_11_method_7_code 44 = .ok (.invokevirtual 77, 3) := by decide +kernel
theorem d_Unpacker_yieldCopy_47 : decode prog_11_method_7_code 47 = .ok (.pop, 1) := by decide +kernel
theorem d_Unpacker_yieldCopy_48 : decode prog_11_method_7_code 48 = .ok (.iinc 4 1, 3) := by decide +kernel
theorem d_Unpacker_yieldCopy_51 : decode prog_11_method_7_code 51 = .ok (.goto (-33), 3) := by decide +kernel
theorem d_Unpacker_yieldCopy_54 : decode prog_11_method_7_code 54 = .ok (.aload_n 0, 1) := by decide +kernel
theorem d_Unpacker_yieldCopy_55 : decode prog_11_method_7_code 55 = .ok (.getfield 21, 3) := by decide +kernel
theorem d_Unpacker_yieldCopy_58 : decode prog_11_method_7_code 58 = .ok (.dup, 1) := by decide +kernel
theorem d_Unpacker_yieldCopy_59 : decode prog_11_method_7_code 59 = .ok (.getfield 152, 3) := by decide +kernel
theorem d_Unpacker_yieldCopy_62 : decode prog_11_method_7_code 62 = .ok (.iconst 1, 1) := by decide +kernel
theorem d_Unpacker_yieldCopy_63 : decode prog_11_method_7_code 63 = .ok (.iadd, 1) := by decide +kernel
theorem d_Unpacker_yieldCopy_64 : decode prog_11_method_7_code 64 = .ok (.putfield 152, 3) := by decide +kernel
theorem d_Unpacker_yieldCopy_67 : decode prog_11_method_7_code 67 = .ok (.iconst 1, 1) := by decide +kernel
theorem d_Unpacker_yieldCopy_68 : decode prog_11_method_7_code 68 = .ok (.ireturn, 1) := by decide +kernel
theorem d_Unpacker_yieldWord_0 : decode prog_11_method_8_code 0 = .ok (.iload_n 1, 1) := by decide +kernel
theorem d_Unpacker_yieldWord_1 : decode prog_11_method_8_code 1 = .ok (.iconst 4, 1) := by decide +kernel
theorem d_Unpacker_yieldWord_2 : decode prog_11_method_8_code 2 = .ok (.if_icmp .eq 8, 3) := by decide +kernel
theorem d_Unpacker_yieldWord_5 : decode prog_11_method_8_code 5 = .ok (.iload_n 1, 1) := by decide +kernel
theorem d_Unpacker_yieldWord_6 : decode prog_11_method_8_code 6 = .ok (.iconst 5, 1) := by decide +kernel
theorem d_Unpacker_yieldWord_7 : decode prog_11_method_8_code 7 = .ok (.if_icmp .ne 9, 3) := by decide +kernel
theorem d_Unpacker_yieldWord_10 : decode prog_11_method_8_code 10 = .ok (.iload_n 2, 1) := by decide +kernel
theorem d_Unpacker_yieldWord_11 : decode prog_11_method_8_code 11 = .ok (.bipush 16, 2) := by decide +kernel
theorem d_Unpacker_yieldWord_13 : decode prog_11_method_8_code 13 = .ok (.if_icmp .lt 5, 3) := by decide +kernel
theorem d_Unpacker_yieldWord_16 : decode prog_11_method_8_code 16 = .ok (.iconst 0, 1) := by decide +kernel
theorem d_Unpacker_yieldWord_17 : decode prog_11_method_8_code 17 = .ok (.ireturn, 1) := by decide +kernel
theorem d_Unpacker_yieldWord_18 : decode prog_11_method_8_code 18 = .ok (.iload_n 1, 1) := by decide +kernel
theorem d_Unpacker_yieldWord_19 : decode prog_11_method_8_code 19 = .ok (.iload_n 2, 1) := by decide +kernel
theorem d_Unpacker_yieldWord_20 : decode prog_11_method_8_code 20 = .ok (.invokestatic 155, 3) := by decide +kernel
theorem d_Unpacker_yieldWord_23 : decode prog_11_method_8_code 23 = .ok (.istore 4, 2) := by decide +kernel
theorem d_Unpacker_yieldWord_25 : decode prog_11_method_8_code 25 = .ok (.iload 4, 2) := by decide +kernel
theorem d_Unpacker_yieldWord_27 : decode prog_11_method_8_code 27 = .ok (.iload_n 3, 1) := by decide +kernel
theorem d_Unpacker_yieldWord_28 : decode prog_11_method_8_code 28 = .ok (.aload_n 0, 1) := by decide +kernel
theorem d_Unpacker_yieldWord_29 : decode prog_11_method_8_code 29 = .ok (.getfield 12, 3) := by decide +kernel
theorem d_Unpacker_yieldWord_32 : decode prog_11_method_8_code 32 = .ok (.getfield 55, 3) := by decide +kernel
theorem d_Unpacker_yieldWord_35 : decode prog_11_method_8_code 35 = .ok (.isub, 1) := by decide +kernel
theorem d_Unpacker_yieldWord_36 : decode prog_11_method_8_code 36 = .ok (.if_icmp .le 5, 3) := by decide +kernel
theorem d_Unpacker_yieldWord_39 : decode prog_11_method_8_code 39 = .ok (.iconst 0, 1) := by decide +kernel
theorem d_Unpacker_yieldWord_40 : decode prog_11_method_8_code 40 = .ok (.ireturn, 1) := by decide +kernel
theorem d_Unpacker_yieldWord_41 : decode prog_11_method_8_code 41 = .ok (.iconst 0, 1) := by decide +kernel
theorem d_Unpacker_yieldWord_42 : decode prog_11_method_8_code 42 = .ok (.istore 5, 2) := by decide +kernel
theorem d_Unpacker_yieldWord_44 : decode prog_11_method_8_code 44 = .ok (.iload 5, 2) := by decide +kernel
theorem d_Unpacker_yieldWord_46 : decode prog_11_method_8_code 46 = .ok (.iload 4, 2) := by decide +kernel
theorem d_Unpacker_yieldWord_48 : decode prog_11_method_8_code 48 = .ok (.if_icmp .ge 24, 3) := by decide +kernel
theorem d_Unpacker_yieldWord_51 : decode prog_11_method_8_code 51 = .ok (.aload_n 0, 1) := by decide +kernel
theorem d_Unpacker_yieldWord_52 : decode prog_11_method_8_code 52 = .ok (.getfield 12, 3) := by decide +kernel
theorem d_Unpacker_yieldWord_55 : decode prog_11_method_8_code 55 = .ok (.iload_n 1, 1) := by decide +kernel
theorem d_Unpacker_yieldWord_56 : decode prog_11_method_8_code 56 = .ok (.iload_n 2, 1) := by decide +kernel
theorem d_Unpacker_yieldWord_57 : decode prog_11_method_8_code 57 = .ok (.iload 5, 2) := by decide +kernel
theorem d_Unpacker_yieldWord_59 : decode prog_11_method_8_code 59 = .ok (.invokestatic 161, 3) := by decide +kernel
theorem d_Unpacker_yieldWord_62 : decode prog_11_method_8_code 62 = .ok (.invokevirtual 77, 3) := by decide +kernel
theorem d_Unpacker_yieldWord_65 : decode prog_11_method_8_code 65 = .ok (.pop, 1) := by decide +kernel
theorem d_Unpacker_yieldWord_66 : decode prog_11_method_8_code 66 = .ok (.iinc 5 1, 3) := by decide +kernel
theorem d_Unpacker_yieldWord_69 : decode prog_11_method_8_code 69 = .ok (.goto (-25), 3) := by decide +kernel
theorem d_Unpacker_yieldWord_72 : decode prog_11_method_8_code 72 = .ok (.aload_n 0, 1) := by decide +kernel
theorem d_Unpacker_yieldWord_73 : decode prog_11_method_8_code 73 = .ok (.getfield 21, 3) := by decide +kernel
theorem d_Unpacker_yieldWord_76 : decode prog_11_method_8_code 76 = .ok (.dup, 1) := by decide +kernel
theorem d_Unpacker_yieldWord_77 : decode prog_11_method_8_code 77 = .ok (.getfield 165, 3) := by decide +kernel
theorem d_Unpacker_yieldWord_80 : decode prog_11_method_8_code 80 = .ok (.iconst 1, 1) := by decide +kernel
theorem d_Unpacker_yieldWord_81 : decode prog_11_method_8_code 81 = .ok (.iadd, 1) := by decide +kernel
theorem d_Unpacker_yieldWord_82 : decode prog_11_method_8_code 82 = .ok (.putfield 165, 3) := by decide +kernel
theorem d_Unpacker_yieldWord_85 : decode prog_11_method_8_code 85 = .ok (.iconst 1, 1) := by decide +kernel
theorem d_Unpacker_yieldWord_86 : decode prog_11_method_8_code 86 = .ok (.ireturn, 1) := by decide +kernel
