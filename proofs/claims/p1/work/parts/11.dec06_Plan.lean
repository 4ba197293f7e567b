/-! decode rows of RingPacker$Plan -/
theorem d_Plan_init_0 : decode prog_8_method_1_code 0 = .ok (.aload_n 0, 1) := by decide +kernel
theorem d_Plan_init_1 : decode prog_8_method_1_code 1 = .ok (.invokespecial 3, 3) := by decide +kernel
theorem d_Plan_init_4 : decode prog_8_method_1_code 4 = .ok (.aload_n 0, 1) := by decide +kernel
theorem d_Plan_init_5 : decode prog_8_method_1_code 5 = .ok (.new 9, 3) := by decide +kernel
theorem d_Plan_init_8 : decode prog_8_method_1_code 8 = .ok (.dup, 1) := by decide +kernel
theorem d_Plan_init_9 : decode prog_8_method_1_code 9 = .ok (.invokespecial 11, 3) := by decide +kernel
theorem d_Plan_init_12 : decode prog_8_method_1_code 12 = .ok (.putfield 12, 3) := by decide +kernel
theorem d_Plan_init_15 : decode prog_8_method_1_code 15 = .ok (.aload_n 0, 1) := by decide +kernel
theorem d_Plan_init_16 : decode prog_8_method_1_code 16 = .ok (.new 18, 3) := by decide +kernel
theorem d_Plan_init_19 : decode prog_8_method_1_code 19 = .ok (.dup, 1) := by decide +kernel
theorem d_Plan_init_20 : decode prog_8_method_1_code 20 = .ok (.invokespecial 20, 3) := by decide +kernel
theorem d_Plan_init_23 : decode prog_8_method_1_code 23 = .ok (.putfield 21, 3) := by decide +kernel
theorem d_Plan_init_26 : decode prog_8_method_1_code 26 = .ok (.aload_n 0, 1) := by decide +kernel
theorem d_Plan_init_27 : decode prog_8_method_1_code 27 = .ok (.bipush 48, 2) := by decide +kernel
theorem d_Plan_init_29 : decode prog_8_method_1_code 29 = .ok (.newarray .int, 2) := by decide +kernel
theorem d_Plan_init_31 : decode prog_8_method_1_code 31 = .ok (.putfield 25, 3) := by decide +kernel
theorem d_Plan_init_34 : decode prog_8_method_1_code 34 = .ok (.aload_n 0, 1) := by decide +kernel
theorem d_Plan_init_35 : decode prog_8_method_1_code 35 = .ok (.bipush 48, 2) := by decide +kernel
theorem d_Plan_init_37 : decode prog_8_method_1_code 37 = .ok (.newarray .int, 2) := by decide +kernel
theorem d_Plan_init_39 : decode prog_8_method_1_code 39 = .ok (.putfield 29, 3) := by decide +kernel
theorem d_Plan_init_42 : decode prog_8_method_1_code 42 = .ok (.aload_n 0, 1) := by decide +kernel
theorem d_Plan_init_43 : decode prog_8_method_1_code 43 = .ok (.bipush 48, 2) := by decide +kernel
theorem d_Plan_init_45 : decode prog_8_method_1_code 45 = .ok (.newarray .int, 2) := by decide +kernel
theorem d_Plan_init_47 : decode prog_8_method_1_code 47 = .ok (.putfield 32, 3) := by decide +kernel
theorem d_Plan_init_50 : decode prog_8_method_1_code 50 = .ok (.aload_n 0, 1) := by decide +kernel
theorem d_Plan_init_51 : decode prog_8_method_1_code 51 = .ok (.bipush 48, 2) := by decide +kernel
theorem d_Plan_init_53 : decode prog_8_method_1_code 53 = .ok (.newarray .int, 2) := by decide +kernel
theorem d_Plan_init_55 : decode prog_8_method_1_code 55 = .ok (.putfield 35, 3) := by decide +kernel
theorem d_Plan_init_58 : decode prog_8_method_1_code 58 = .ok (.aload_n 0, 1) := by decide +kernel
theorem d_Plan_init_59 : decode prog_8_method_1_code 59 = .ok (.bipush 48, 2) := by decide +kernel
theorem d_Plan_init_61 : decode prog_8_method_1_code 61 = .ok (.newarray .int, 2) := by decide +kernel
theorem d_Plan_init_63 : decode prog_8_method_1_code 63 = .ok (.putfield 38, 3) := by decide +kernel
theorem d_Plan_init_66 : decode prog_8_method_1_code 66 = .ok (.aload_n 0, 1) := by decide +kernel
theorem d_Plan_init_67 : decode prog_8_method_1_code 67 = .ok (.bipush 48, 2) := by decide +kernel
theorem d_Plan_init_69 : decode prog_8_method_1_code 69 = .ok (.newarray .int, 2) := by decide +kernel
theorem d_Plan_init_71 : decode prog_8_method_1_code 71 = .ok (.putfield 41, 3) := by decide +kernel
theorem d_Plan_init_74 : decode prog_8_method_1_code 74 = .ok (.return_, 1) := by decide +kernel
theorem d_Plan_parse_0 : decode prog_8_method_2_code 0 = .ok (.aload_n 0, 1) := by decide +kernel
theorem d_Plan_parse_1 : decode prog_8_method_2_code 1 = .ok (.getfield 21, 3) := by decide +kernel
theorem d_Plan_parse_4 : decode prog_8_method_2_code 4 = .ok (.aload 4, 2) := by decide +kernel
theorem d_Plan_parse_6 : decode prog_8_method_2_code 6 = .ok (.invokevirtual 44, 3) := by decide +kernel
theorem d_Plan_parse_9 : decode prog_8_method_2_code 9 = .ok (.aload_n 0, 1) := by decide +kernel
theorem d_Plan_parse_10 : decode prog_8_method_2_code 10 = .ok (.iconst 0, 1) := by decide +kernel
theorem d_Plan_parse_11 : decode prog_8_method_2_code 11 = .ok (.putfield 48, 3) := by decide +kernel
theorem d_Plan_parse_14 : decode prog_8_method_2_code 14 = .ok (.aload_n 0, 1) := by decide +kernel
theorem d_Plan_parse_15 : decode prog_8_method_2_code 15 = .ok (.iconst 0, 1) := by decide +kernel
theorem d_Plan_parse_16 : decode prog_8_method_2_code 16 = .ok (.putfield 52, 3) := by decide +kernel
theorem d_Plan_parse_19 : decode prog_8_method_2_code 19 = .ok (.aload_n 0, 1) := by decide +kernel
theorem d_Plan_parse_20 : decode prog_8_method_2_code 20 = .ok (.iconst 0, 1) := by decide +kernel
theorem d_Plan_parse_21 : decode prog_8_method_2_code 21 = .ok (.putfield 55, 3) := by decide +kernel
theorem d_Plan_parse_24 : decode prog_8_method_2_code 24 = .ok (.aload_n 0, 1) := by decide +kernel
theorem d_Plan_parse_25 : decode prog_8_method_2_code 25 = .ok (.iconst 0, 1) := by decide +kernel
theorem d_Plan_parse_26 : decode prog_8_method_2_code 26 = .ok (.putfield 58, 3) := by decide +kernel
theorem d_Plan_parse_29 : decode prog_8_method_2_code 29 = .ok (.iload_n 2, 1) := by decide +kernel
theorem d_Plan_parse_30 : decode prog_8_method_2_code 30 = .ok (.istore 5, 2) := by decide +kernel
theorem d_Plan_parse_32 : decode prog_8_method_2_code 32 = .ok (.iload_n 2, 1) := by decide +kernel
theorem d_Plan_parse_33 : decode prog_8_method_2_code 33 = .ok (.istore 6, 2) := by decide +kernel
theorem d_Plan_parse_35 : decode prog_8_method_2_code 35 = .ok (.iconst 0, 1) := by decide +kernel
theorem d_Plan_parse_36 : decode prog_8_method_2_code 36 = .ok (.istore 7, 2) := by decide +kernel
theorem d_Plan_parse_38 : decode prog_8_method_2_code 38 = .ok (.iload 7, 2) := by decide +kernel
theorem d_Plan_parse_40 : decode prog_8_method_2_code 40 = .ok (.bipush 48, 2) := by decide +kernel
theorem d_Plan_parse_42 : decode prog_8_method_2_code 42 = .ok (.if_icmp .ge 114, 3) := by decide +kernel
theorem d_Plan_parse_45 : decode prog_8_method_2_code 45 = .ok (.iload 6, 2) := by decide +kernel
theorem d_Plan_parse_47 : decode prog_8_method_2_code 47 = .ok (.iload_n 3, 1) := by decide +kernel
theorem d_Plan_parse_48 : decode prog_8_method_2_code 48 = .ok (.if_icmp .ge 108, 3) := by decide +kernel
theorem d_Plan_parse_51 : decode prog_8_method_2_code 51 = .ok (.aload_n 0, 1) := by decide +kernel
theorem d_Plan_parse_52 : decode prog_8_method_2_code 52 = .ok (.getfield 12, 3) := by decide +kernel
theorem d_Plan_parse_55 : decode prog_8_method_2_code 55 = .ok (.aload_n 1, 1) := by decide +kernel
theorem d_Plan_parse_56 : decode prog_8_method_2_code 56 = .ok (.iload 6, 2) := by decide +kernel
theorem d_Plan_parse_58 : decode prog_8_method_2_code 58 = .ok (.iload_n 3, 1) := by decide +kernel
theorem d_Plan_parse_59 : decode prog_8_method_2_code 59 = .ok (.invokevirtual 61, 3) := by decide +kernel
theorem d_Plan_parse_62 : decode prog_8_method_2_code 62 = .ok (.aload_n 0, 1) := by decide +kernel
theorem d_Plan_parse_63 : decode prog_8_method_2_code 63 = .ok (.getfield 12, 3) := by decide +kernel
theorem d_Plan_parse_66 : decode prog_8_method_2_code 66 = .ok (.aload_n 1, 1) := by decide +kernel
theorem d_Plan_parse_67 : decode prog_8_method_2_code 67 = .ok (.iload 6, 2) := by decide +kernel
theorem d_Plan_parse_69 : decode prog_8_method_2_code 69 = .ok (.iload_n 3, 1) := by decide +kernel
theorem d_Plan_parse_70 : decode prog_8_method_2_code 70 = .ok (.invokevirtual 65, 3) := by decide +kernel
theorem d_Plan_parse_73 : decode prog_8_method_2_code 73 = .ok (.aload_n 0, 1) := by decide +kernel
theorem d_Plan_parse_74 : decode prog_8_method_2_code 74 = .ok (.getfield 12, 3) := by decide +kernel
theorem d_Plan_parse_77 : decode prog_8_method_2_code 77 = .ok (.invokevirtual 68, 3) := by decide +kernel
theorem d_Plan_parse_80 : decode prog_8_method_2_code 80 = .ok (.ifCond .eq 30, 3) := by decide +kernel
theorem d_Plan_parse_83 : decode prog_8_method_2_code 83 = .ok (.aload_n 0, 1) := by decide +kernel
theorem d_Plan_parse_84 : decode prog_8_method_2_code 84 = .ok (.iload 5, 2) := by decide +kernel
theorem d_Plan_parse_86 : decode prog_8_method_2_code 86 = .ok (.iload 6, 2) := by decide +kernel
theorem d_Plan_parse_88 : decode prog_8_method_2_code 88 = .ok (.invokevirtual 72, 3) := by decide +kernel
theorem d_Plan_parse_91 : decode prog_8_method_2_code 91 = .ok (.iload 6, 2) := by decide +kernel
theorem d_Plan_parse_93 : decode prog_8_method_2_code 93 = .ok (.aload_n 0, 1) := by decide +kernel
theorem d_Plan_parse_94 : decode prog_8_method_2_code 94 = .ok (.getfield 12, 3) := by decide +kernel
theorem d_Plan_parse_97 : decode prog_8_method_2_code 97 = .ok (.getfield 76, 3) := by decide +kernel
theorem d_Plan_parse_100 : decode prog_8_method_2_code 100 = .ok (.iadd, 1) := by decide +kernel
theorem d_Plan_parse_101 : decode prog_8_method_2_code 101 = .ok (.istore 6, 2) := by decide +kernel
theorem d_Plan_parse_103 : decode prog_8_method_2_code 103 = .ok (.iload 6, 2) := by decide +kernel
theorem d_Plan_parse_105 : decode prog_8_method_2_code 105 = .ok (.istore 5, 2) := by decide +kernel
theorem d_Plan_parse_107 : decode prog_8_method_2_code 107 = .ok (.goto 43, 3) := by decide +kernel
theorem d_Plan_parse_110 : decode prog_8_method_2_code 110 = .ok (.aload_n 0, 1) := by decide +kernel
theorem d_Plan_parse_111 : decode prog_8_method_2_code 111 = .ok (.getfield 12, 3) := by decide +kernel
theorem d_Plan_parse_114 : decode prog_8_method_2_code 114 = .ok (.invokevirtual 79, 3) := by decide +kernel
theorem d_Plan_parse_117 : decode prog_8_method_2_code 117 = .ok (.ifCond .eq 30, 3) := by decide +kernel
theorem d_Plan_parse_120 : decode prog_8_method_2_code 120 = .ok (.aload_n 0, 1) := by decide +kernel
theorem d_Plan_parse_121 : decode prog_8_method_2_code 121 = .ok (.iload 5, 2) := by decide +kernel
theorem d_Plan_parse_123 : decode prog_8_method_2_code 123 = .ok (.iload 6, 2) := by decide +kernel
theorem d_Plan_parse_125 : decode prog_8_method_2_code 125 = .ok (.invokevirtual 82, 3) := by decide +kernel
theorem d_Plan_parse_128 : decode prog_8_method_2_code 128 = .ok (.iload 6, 2) := by decide +kernel
theorem d_Plan_parse_130 : decode prog_8_method_2_code 130 = .ok (.aload_n 0, 1) := by decide +kernel
theorem d_Plan_parse_131 : decode prog_8_method_2_code 131 = .ok (.getfield 12, 3) := by decide +kernel
theorem d_Plan_parse_134 : decode prog_8_method_2_code 134 = .ok (.getfield 85, 3) := by decide +kernel
theorem d_Plan_parse_137 : decode prog_8_method_2_code 137 = .ok (.iadd, 1) := by decide +kernel
theorem d_Plan_parse_138 : decode prog_8_method_2_code 138 = .ok (.istore 6, 2) := by decide +kernel
theorem d_Plan_parse_140 : decode prog_8_method_2_code 140 = .ok (.iload 6, 2) := by decide +kernel
theorem d_Plan_parse_142 : decode prog_8_method_2_code 142 = .ok (.istore 5, 2) := by decide +kernel
theorem d_Plan_parse_144 : decode prog_8_method_2_code 144 = .ok (.goto 6, 3) := by decide +kernel
theorem d_Plan_parse_147 : decode prog_8_method_2_code 147 = .ok (.iinc 6 1, 3) := by decide +kernel
theorem d_Plan_parse_150 : decode prog_8_method_2_code 150 = .ok (.iinc 7 1, 3) := by decide +kernel
theorem d_Plan_parse_153 : decode prog_8_method_2_code 153 = .ok (.goto (-115), 3) := by decide +kernel
theorem d_Plan_parse_156 : decode prog_8_method_2_code 156 = .ok (.iload 5, 2) := by decide +kernel
theorem d_Plan_parse_158 : decode prog_8_method_2_code 158 = .ok (.iload_n 3, 1) := by decide +kernel
theorem d_Plan_parse_159 : decode prog_8_method_2_code 159 = .ok (.if_icmp .ge 18, 3) := by decide +kernel
theorem d_Plan_parse_162 : decode prog_8_method_2_code 162 = .ok (.aload_n 0, 1) := by decide +kernel
theorem d_Plan_parse_163 : decode prog_8_method_2_code 163 = .ok (.iload 5, 2) := by decide +kernel
theorem d_Plan_parse_165 : decode prog_8_method_2_code 165 = .ok (.iload_n 3, 1) := by decide +kernel
theorem d_Plan_parse_166 : decode prog_8_method_2_code 166 = .ok (.iconst 0, 1) := by decide +kernel
theorem d_Plan_parse_167 : decode prog_8_method_2_code 167 = .ok (.getstatic 88, 3) := by decide +kernel
theorem d_Plan_parse_170 : decode prog_8_method_2_code 170 = .ok (.iconst 0, 1) := by decide +kernel
theorem d_Plan_parse_171 : decode prog_8_method_2_code 171 = .ok (.iaload, 1) := by decide +kernel
theorem d_Plan_parse_172 : decode prog_8_method_2_code 172 = .ok (.iconst (-1), 1) := by decide +kernel
theorem d_Plan_parse_173 : decode prog_8_method_2_code 173 = .ok (.iconst 0, 1) := by decide +kernel
theorem d_Plan_parse_174 : decode prog_8_method_2_code 174 = .ok (.invokevirtual 91, 3) := by decide +kernel
theorem d_Plan_parse_177 : decode prog_8_method_2_code 177 = .ok (.return_, 1) := by decide +kernel
theorem d_Plan_addWord_0 : decode prog_8_method_3_code 0 = .ok (.aload_n 0, 1) := by decide +kernel
theorem d_Plan_addWord_1 : decode prog_8_method_3_code 1 = .ok (.getfield 12, 3) := by decide +kernel
theorem d_Plan_addWord_4 : decode prog_8_method_3_code 4 = .ok (.getfield 95, 3) := by decide +kernel
theorem d_Plan_addWord_7 : decode prog_8_method_3_code 7 = .ok (.istore_n 3, 1) := by decide +kernel
theorem d_Plan_addWord_8 : decode prog_8_method_3_code 8 = .ok (.iload_n 2, 1) := by decide +kernel
theorem d_Plan_addWord_9 : decode prog_8_method_3_code 9 = .ok (.iconst 1, 1) := by decide +kernel
theorem d_Plan_addWord_10 : decode prog_8_method_3_code 10 = .ok (.iadd, 1) := by decide +kernel
theorem d_Plan_addWord_11 : decode prog_8_method_3_code 11 = .ok (.aload_n 0, 1) := by decide +kernel
theorem d_Plan_addWord_12 : decode prog_8_method_3_code 12 = .ok (.getfield 12, 3) := by decide +kernel
theorem d_Plan_addWord_15 : decode prog_8_method_3_code 15 = .ok (.getfield 98, 3) := by decide +kernel
theorem d_Plan_addWord_18 : decode prog_8_method_3_code 18 = .ok (.iadd, 1) := by decide +kernel
theorem d_Plan_addWord_19 : decode prog_8_method_3_code 19 = .ok (.istore 4, 2) := by decide +kernel
theorem d_Plan_addWord_21 : decode prog_8_method_3_code 21 = .ok (.aload_n 0, 1) := by decide +kernel
theorem d_Plan_addWord_22 : decode prog_8_method_3_code 22 = .ok (.iload_n 1, 1) := by decide +kernel
theorem d_Plan_addWord_23 : decode prog_8_method_3_code 23 = .ok (.iload_n 2, 1) := by decide +kernel
theorem d_Plan_addWord_24 : decode prog_8_method_3_code 24 = .ok (.iload_n 3, 1) := by decide +kernel
theorem d_Plan_addWord_25 : decode prog_8_method_3_code 25 = .ok (.invokestatic 101, 3) := by decide +kernel
theorem d_Plan_addWord_28 : decode prog_8_method_3_code 28 = .ok (.iload_n 3, 1) := by decide +kernel
theorem d_Plan_addWord_29 : decode prog_8_method_3_code 29 = .ok (.iload 4, 2) := by decide +kernel
theorem d_Plan_addWord_31 : decode prog_8_method_3_code 31 = .ok (.invokestatic 105, 3) := by decide +kernel
theorem d_Plan_addWord_34 : decode prog_8_method_3_code 34 = .ok (.iload 4, 2) := by decide +kernel
theorem d_Plan_addWord_36 : decode prog_8_method_3_code 36 = .ok (.invokevirtual 91, 3) := by decide +kernel
theorem d_Plan_addWord_39 : decode prog_8_method_3_code 39 = .ok (.aload_n 0, 1) := by decide +kernel
theorem d_Plan_addWord_40 : decode prog_8_method_3_code 40 = .ok (.dup, 1) := by decide +kernel
theorem d_Plan_addWord_41 : decode prog_8_method_3_code 41 = .ok (.getfield 55, 3) := by decide +kernel
theorem d_Plan_addWord_44 : decode prog_8_method_3_code 44 = .ok (.iconst 1, 1) := by decide +kernel
theorem d_Plan_addWord_45 : decode prog_8_method_3_code 45 = .ok (.iadd, 1) := by decide +kernel
theorem d_Plan_addWord_46 : decode prog_8_method_3_code 46 = .ok (.putfield 55, 3) := by decide +kernel
theorem d_Plan_addWord_49 : decode prog_8_method_3_code 49 = .ok (.return_, 1) := by decide +kernel
theorem d_Plan_addCopy_0 : decode prog_8_method_4_code 0 = .ok (.aload_n 0, 1) := by decide +kernel
theorem d_Plan_addCopy_1 : decode prog_8_method_4_code 1 = .ok (.getfield 12, 3) := by decide +kernel
theorem d_Plan_addCopy_4 : decode prog_8_method_4_code 4 = .ok (.getfield 85, 3) := by decide +kernel
theorem d_Plan_addCopy_7 : decode prog_8_method_4_code 7 = .ok (.istore_n 3, 1) := by decide +kernel
theorem d_Plan_addCopy_8 : decode prog_8_method_4_code 8 = .ok (.aload_n 0, 1) := by decide +kernel
theorem d_Plan_addCopy_9 : decode prog_8_method_4_code 9 = .ok (.getfield 12, 3) := by decide +kernel
theorem d_Plan_addCopy_12 : decode prog_8_method_4_code 12 = .ok (.getfield 108, 3) := by decide +kernel
theorem d_Plan_addCopy_15 : decode prog_8_method_4_code 15 = .ok (.istore 4, 2) := by decide +kernel
theorem d_Plan_addCopy_17 : decode prog_8_method_4_code 17 = .ok (.aload_n 0, 1) := by decide +kernel
theorem d_Plan_addCopy_18 : decode prog_8_method_4_code 18 = .ok (.dup, 1) := by decide +kernel
theorem d_Plan_addCopy_19 : decode prog_8_method_4_code 19 = .ok (.getfield 52, 3) := by decide +kernel
theorem d_Plan_addCopy_22 : decode prog_8_method_4_code 22 = .ok (.iconst 1, 1) := by decide +kernel
theorem d_Plan_addCopy_23 : decode prog_8_method_4_code 23 = .ok (.iadd, 1) := by decide +kernel
theorem d_Plan_addCopy_24 : decode prog_8_method_4_code 24 = .ok (.putfield 52, 3) := by decide +kernel
theorem d_Plan_addCopy_27 : decode prog_8_method_4_code 27 = .ok (.iload_n 3, 1) := by decide +kernel
theorem d_Plan_addCopy_28 : decode prog_8_method_4_code 28 = .ok (.iconst 3, 1) := by decide +kernel
theorem d_Plan_addCopy_29 : decode prog_8_method_4_code 29 = .ok (.if_icmp .ne 28, 3) := by decide +kernel
theorem d_Plan_addCopy_32 : decode prog_8_method_4_code 32 = .ok (.aload_n 0, 1) := by decide +kernel
theorem d_Plan_addCopy_33 : decode prog_8_method_4_code 33 = .ok (.getfield 21, 3) := by decide +kernel
theorem d_Plan_addCopy_36 : decode prog_8_method_4_code 36 = .ok (.iload 4, 2) := by decide +kernel
theorem d_Plan_addCopy_38 : decode prog_8_method_4_code 38 = .ok (.invokevirtual 111, 3) := by decide +kernel
theorem d_Plan_addCopy_41 : decode prog_8_method_4_code 41 = .ok (.ifCond .eq 16, 3) := by decide +kernel
theorem d_Plan_addCopy_44 : decode prog_8_method_4_code 44 = .ok (.aload_n 0, 1) := by decide +kernel
theorem d_Plan_addCopy_45 : decode prog_8_method_4_code 45 = .ok (.iload_n 1, 1) := by decide +kernel
theorem d_Plan_addCopy_46 : decode prog_8_method_4_code 46 = .ok (.iload_n 2, 1) := by decide +kernel
theorem d_Plan_addCopy_47 : decode prog_8_method_4_code 47 = .ok (.bipush 7, 2) := by decide +kernel
theorem d_Plan_addCopy_49 : decode prog_8_method_4_code 49 = .ok (.iload_n 3, 1) := by decide +kernel
theorem d_Plan_addCopy_50 : decode prog_8_method_4_code 50 = .ok (.iconst (-1), 1) := by decide +kernel
theorem d_Plan_addCopy_51 : decode prog_8_method_4_code 51 = .ok (.iload 4, 2) := by decide +kernel
theorem d_Plan_addCopy_53 : decode prog_8_method_4_code 53 = .ok (.invokevirtual 91, 3) := by decide +kernel
theorem d_Plan_addCopy_56 : decode prog_8_method_4_code 56 = .ok (.return_, 1) := by decide +kernel
theorem d_Plan_addCopy_57 : decode prog_8_method_4_code 57 = .ok (.aload_n 0, 1) := by decide +kernel
theorem d_Plan_addCopy_58 : decode prog_8_method_4_code 58 = .ok (.getfield 21, 3) := by decide +kernel
theorem d_Plan_addCopy_61 : decode prog_8_method_4_code 61 = .ok (.iload 4, 2) := by decide +kernel
theorem d_Plan_addCopy_63 : decode prog_8_method_4_code 63 = .ok (.invokevirtual 115, 3) := by decide +kernel
theorem d_Plan_addCopy_66 : decode prog_8_method_4_code 66 = .ok (.istore 5, 2) := by decide +kernel
theorem d_Plan_addCopy_68 : decode prog_8_method_4_code 68 = .ok (.aload_n 0, 1) := by decide +kernel
theorem d_Plan_addCopy_69 : decode prog_8_method_4_code 69 = .ok (.iload_n 1, 1) := by decide +kernel
theorem d_Plan_addCopy_70 : decode prog_8_method_4_code 70 = .ok (.iload_n 2, 1) := by decide +kernel
theorem d_Plan_addCopy_71 : decode prog_8_method_4_code 71 = .ok (.iload_n 3, 1) := by decide +kernel
theorem d_Plan_addCopy_72 : decode prog_8_method_4_code 72 = .ok (.invokestatic 101, 3) := by decide +kernel
theorem d_Plan_addCopy_75 : decode prog_8_method_4_code 75 = .ok (.iload_n 3, 1) := by decide +kernel
theorem d_Plan_addCopy_76 : decode prog_8_method_4_code 76 = .ok (.iload 5, 2) := by decide +kernel
theorem d_Plan_addCopy_78 : decode prog_8_method_4_code 78 = .ok (.iload 4, 2) := by decide +kernel
theorem d_Plan_addCopy_80 : decode prog_8_method_4_code 80 = .ok (.invokevirtual 91, 3) := by decide +kernel
theorem d_Plan_addCopy_83 : decode prog_8_method_4_code 83 = .ok (.iload 5, 2) := by decide +kernel
theorem d_Plan_addCopy_85 : decode prog_8_method_4_code 85 = .ok (.ifCond .eq 12, 3) := by decide +kernel
theorem d_Plan_addCopy_88 : decode prog_8_method_4_code 88 = .ok (.aload_n 0, 1) := by decide +kernel
theorem d_Plan_addCopy_89 : decode prog_8_method_4_code 89 = .ok (.getfield 21, 3) := by decide +kernel
theorem d_Plan_addCopy_92 : decode prog_8_method_4_code 92 = .ok (.iload 4, 2) := by decide +kernel
theorem d_Plan_addCopy_94 : decode prog_8_method_4_code 94 = .ok (.invokevirtual 118, 3) := by decide +kernel
theorem d_Plan_addCopy_97 : decode prog_8_method_4_code 97 = .ok (.return_, 1) := by decide +kernel
theorem d_Plan_copySymbolOf_0 : decode prog_8_method_5_code 0 = .ok (.iconst 0, 1) := by decide +kernel
theorem d_Plan_copySymbolOf_1 : decode prog_8_method_5_code 1 = .ok (.istore_n 1, 1) := by decide +kernel
theorem d_Plan_copySymbolOf_2 : decode prog_8_method_5_code 2 = .ok (.iload_n 1, 1) := by decide +kernel
theorem d_Plan_copySymbolOf_3 : decode prog_8_method_5_code 3 = .ok (.bipush 6, 2) := by decide +kernel
theorem d_Plan_copySymbolOf_5 : decode prog_8_method_5_code 5 = .ok (.if_icmp .ge 20, 3) := by decide +kernel
theorem d_Plan_copySymbolOf_8 : decode prog_8_method_5_code 8 = .ok (.getstatic 88, 3) := by decide +kernel
theorem d_Plan_copySymbolOf_11 : decode prog_8_method_5_code 11 = .ok (.iload_n 1, 1) := by decide +kernel
theorem d_Plan_copySymbolOf_12 : decode prog_8_method_5_code 12 = .ok (.iconst 1, 1) := by decide +kernel
theorem d_Plan_copySymbolOf_13 : decode prog_8_method_5_code 13 = .ok (.iadd, 1) := by decide +kernel
theorem d_Plan_copySymbolOf_14 : decode prog_8_method_5_code 14 = .ok (.iaload, 1) := by decide +kernel
theorem d_Plan_copySymbolOf_15 : decode prog_8_method_5_code 15 = .ok (.iload_n 0, 1) := by decide +kernel
theorem d_Plan_copySymbolOf_16 : decode prog_8_method_5_code 16 = .ok (.if_icmp .gt 9, 3) := by decide +kernel
theorem d_Plan_copySymbolOf_19 : decode prog_8_method_5_code 19 = .ok (.iinc 1 1, 3) := by decide +kernel
theorem d_Plan_copySymbolOf_22 : decode prog_8_method_5_code 22 = .ok (.goto (-20), 3) := by decide +kernel
theorem d_Plan_copySymbolOf_25 : decode prog_8_method_5_code 25 = .ok (.iload_n 1, 1) := by decide +kernel
theorem d_Plan_copySymbolOf_26 : decode prog_8_method_5_code 26 = .ok (.ireturn, 1) := by decide +kernel
theorem d_Plan_addCommand_0 : decode prog_8_method_6_code 0 = .ok (.aload_n 0, 1) := by decide +kernel
theorem d_Plan_addCommand_1 : decode prog_8_method_6_code 1 = .ok (.getfield 48, 3) := by decide +kernel
theorem d_Plan_addCommand_4 : decode prog_8_method_6_code 4 = .ok (.bipush 48, 2) := by decide +kernel
theorem d_Plan_addCommand_6 : decode prog_8_method_6_code 6 = .ok (.if_icmp .lt 4, 3) := by decide +kernel
theorem d_Plan_addCommand_9 : decode prog_8_method_6_code 9 = .ok (.return_, 1) := by decide +kernel
theorem d_Plan_addCommand_10 : decode prog_8_method_6_code 10 = .ok (.aload_n 0, 1) := by decide +kernel
theorem d_Plan_addCommand_11 : decode prog_8_method_6_code 11 = .ok (.getfield 25, 3) := by decide +kernel
theorem d_Plan_addCommand_14 : decode prog_8_method_6_code 14 = .ok (.aload_n 0, 1) := by decide +kernel
theorem d_Plan_addCommand_15 : decode prog_8_method_6_code 15 = .ok (.getfield 48, 3) := by decide +kernel
theorem d_Plan_addCommand_18 : decode prog_8_method_6_code 18 = .ok (.iload_n 1, 1) := by decide +kernel
theorem d_Plan_addCommand_19 : decode prog_8_method_6_code 19 = .ok (.iastore, 1) := by decide +kernel
theorem d_Plan_addCommand_20 : decode prog_8_method_6_code 20 = .ok (.aload_n 0, 1) := by decide +kernel
theorem d_Plan_addCommand_21 : decode prog_8_method_6_code 21 = .ok (.getfield 29, 3) := by decide +kernel
theorem d_Plan_addCommand_24 : decode prog_8_method_6_code 24 = .ok (.aload_n 0, 1) := by decide +kernel
theorem d_Plan_addCommand_25 : decode prog_8_method_6_code 25 = .ok (.getfield 48, 3) := by decide +kernel
theorem d_Plan_addCommand_28 : decode prog_8_method_6_code 28 = .ok (.iload_n 2, 1) := by decide +kernel
theorem d_Plan_addCommand_29 : decode prog_8_method_6_code 29 = .ok (.iload_n 1, 1) := by decide +kernel
theorem d_Plan_addCommand_30 : decode prog_8_method_6_code 30 = .ok (.isub, 1) := by decide +kernel
theorem d_Plan_addCommand_31 : decode prog_8_method_6_code 31 = .ok (.iastore, 1) := by decide +kernel
theorem d_Plan_addCommand_32 : decode prog_8_method_6_code 32 = .ok (.aload_n 0, 1) := by decide +kernel
theorem d_Plan_addCommand_33 : decode prog_8_method_6_code 33 = .ok (.getfield 32, 3) := by decide +kernel
theorem d_Plan_addCommand_36 : decode prog_8_method_6_code 36 = .ok (.aload_n 0, 1) := by decide +kernel
theorem d_Plan_addCommand_37 : decode prog_8_method_6_code 37 = .ok (.getfield 48, 3) := by decide +kernel
theorem d_Plan_addCommand_40 : decode prog_8_method_6_code 40 = .ok (.iload_n 3, 1) := by decide +kernel
theorem d_Plan_addCommand_41 : decode prog_8_method_6_code 41 = .ok (.iastore, 1) := by decide +kernel
theorem d_Plan_addCommand_42 : decode prog_8_method_6_code 42 = .ok (.aload_n 0, 1) := by decide +kernel
theorem d_Plan_addCommand_43 : decode prog_8_method_6_code 43 = .ok (.getfield 35, 3) := by decide +kernel
theorem d_Plan_addCommand_46 : decode prog_8_method_6_code 46 = .ok (.aload_n 0, 1) := by decide +kernel
theorem d_Plan_addCommand_47 : decode prog_8_method_6_code 47 = .ok (.getfield 48, 3) := by decide +kernel
theorem d_Plan_addCommand_50 : decode prog_8_method_6_code 50 = .ok (.iload 4, 2) := by decide +kernel
theorem d_Plan_addCommand_52 : decode prog_8_method_6_code 52 = .ok (.iastore, 1) := by decide +kernel
theorem d_Plan_addCommand_53 : decode prog_8_method_6_code 53 = .ok (.aload_n 0, 1) := by decide +kernel
theorem d_Plan_addCommand_54 : decode prog_8_method_6_code 54 = .ok (.getfield 38, 3) := by decide +kernel
theorem d_Plan_addCommand_57 : decode prog_8_method_6_code 57 = .ok (.aload_n 0, 1) := by decide +kernel
theorem d_Plan_addCommand_58 : decode prog_8_method_6_code 58 = .ok (.getfield 48, 3) := by decide +kernel
theorem d_Plan_addCommand_61 : decode prog_8_method_6_code 61 = .ok (.iload 5, 2) := by decide +kernel
theorem d_Plan_addCommand_63 : decode prog_8_method_6_code 63 = .ok (.iastore, 1) := by decide +kernel
theorem d_Plan_addCommand_64 : decode prog_8_method_6_code 64 = .ok (.aload_n 0, 1) := by decide +kernel
theorem d_Plan_addCommand_65 : decode prog_8_method_6_code 65 = .ok (.getfield 41, 3) := by decide +kernel
theorem d_Plan_addCommand_68 : decode prog_8_method_6_code 68 = .ok (.aload_n 0, 1) := by decide +kernel
theorem d_Plan_addCommand_69 : decode prog_8_method_6_code 69 = .ok (.getfield 48, 3) := by decide +kernel
theorem d_Plan_addCommand_72 : decode prog_8_method_6_code 72 = .ok (.iload 6, 2) := by decide +kernel
theorem d_Plan_addCommand_74 : decode prog_8_method_6_code 74 = .ok (.iastore, 1) := by decide +kernel
theorem d_Plan_addCommand_75 : decode prog_8_method_6_code 75 = .ok (.aload_n 0, 1) := by decide +kernel
theorem d_Plan_addCommand_76 : decode prog_8_method_6_code 76 = .ok (.dup, 1) := by decide +kernel
theorem d_Plan_addCommand_77 : decode prog_8_method_6_code 77 = .ok (.getfield 48, 3) := by decide +kernel
theorem d_Plan_addCommand_80 : decode prog_8_method_6_code 80 = .ok (.iconst 1, 1) := by decide +kernel
theorem d_Plan_addCommand_81 : decode prog_8_method_6_code 81 = .ok (.iadd, 1) := by decide +kernel
theorem d_Plan_addCommand_82 : decode prog_8_method_6_code 82 = .ok (.putfield 48, 3) := by decide +kernel
theorem d_Plan_addCommand_85 : decode prog_8_method_6_code 85 = .ok (.aload_n 0, 1) := by decide +kernel
theorem d_Plan_addCommand_86 : decode prog_8_method_6_code 86 = .ok (.dup, 1) := by decide +kernel
theorem d_Plan_addCommand_87 : decode prog_8_method_6_code 87 = .ok (.getfield 58, 3) := by decide +kernel
theorem d_Plan_addCommand_90 : decode prog_8_method_6_code 90 = .ok (.iconst 1, 1) := by decide +kernel
theorem d_Plan_addCommand_91 : decode prog_8_method_6_code 91 = .ok (.iload_n 2, 1) := by decide +kernel
theorem d_Plan_addCommand_92 : decode prog_8_method_6_code 92 = .ok (.iadd, 1) := by decide +kernel
theorem d_Plan_addCommand_93 : decode prog_8_method_6_code 93 = .ok (.iload_n 1, 1) := by decide +kernel
theorem d_Plan_addCommand_94 : decode prog_8_method_6_code 94 = .ok (.isub, 1) := by decide +kernel
theorem d_Plan_addCommand_95 : decode prog_8_method_6_code 95 = .ok (.iload 5, 2) := by decide +kernel
theorem d_Plan_addCommand_97 : decode prog_8_method_6_code 97 = .ok (.iconst (-1), 1) := by decide +kernel
theorem d_Plan_addCommand_98 : decode prog_8_method_6_code 98 = .ok (.if_icmp .ne 7, 3) := by decide +kernel
theorem d_Plan_addCommand_101 : decode prog_8_method_6_code 101 = .ok (.iconst 0, 1) := by decide +kernel
theorem d_Plan_addCommand_102 : decode prog_8_method_6_code 102 = .ok (.goto 4, 3) := by decide +kernel
theorem d_Plan_addCommand_105 : decode prog_8_method_6_code 105 = .ok (.iconst 1, 1) := by decide +kernel
theorem d_Plan_addCommand_106 : decode prog_8_method_6_code 106 = .ok (.iadd, 1) := by decide +kernel
theorem d_Plan_addCommand_107 : decode prog_8_method_6_code 107 = .ok (.iadd, 1) := by decide +kernel
theorem d_Plan_addCommand_108 : decode prog_8_method_6_code 108 = .ok (.putfield 58, 3) := by decide +kernel
theorem d_Plan_addCommand_111 : decode prog_8_method_6_code 111 = .ok (.return_, 1) := by decide +kernel
theorem d_Plan_insertSymbolOf_0 : decode prog_8_method_7_code 0 = .ok (.iconst 0, 1) := by decide +kernel
theorem d_Plan_insertSymbolOf_1 : decode prog_8_method_7_code 1 = .ok (.istore_n 2, 1) := by decide +kernel
theorem d_Plan_insertSymbolOf_2 : decode prog_8_method_7_code 2 = .ok (.iload_n 2, 1) := by decide +kernel
theorem d_Plan_insertSymbolOf_3 : decode prog_8_method_7_code 3 = .ok (.iconst 1, 1) := by decide +kernel
theorem d_Plan_insertSymbolOf_4 : decode prog_8_method_7_code 4 = .ok (.iadd, 1) := by decide +kernel
theorem d_Plan_insertSymbolOf_5 : decode prog_8_method_7_code 5 = .ok (.getstatic 122, 3) := by decide +kernel
theorem d_Plan_insertSymbolOf_8 : decode prog_8_method_7_code 8 = .ok (.arraylength, 1) := by decide +kernel
theorem d_Plan_insertSymbolOf_9 : decode prog_8_method_7_code 9 = .ok (.if_icmp .ge 25, 3) := by decide +kernel
theorem d_Plan_insertSymbolOf_12 : decode prog_8_method_7_code 12 = .ok (.getstatic 122, 3) := by decide +kernel
theorem d_Plan_insertSymbolOf_15 : decode prog_8_method_7_code 15 = .ok (.iload_n 2, 1) := by decide +kernel
theorem d_Plan_insertSymbolOf_16 : decode prog_8_method_7_code 16 = .ok (.iconst 1, 1) := by decide +kernel
theorem d_Plan_insertSymbolOf_17 : decode prog_8_method_7_code 17 = .ok (.iadd, 1) := by decide +kernel
theorem d_Plan_insertSymbolOf_18 : decode prog_8_method_7_code 18 = .ok (.iaload, 1) := by decide +kernel
theorem d_Plan_insertSymbolOf_19 : decode prog_8_method_7_code 19 = .ok (.aload_n 0, 1) := by decide +kernel
theorem d_Plan_insertSymbolOf_20 : decode prog_8_method_7_code 20 = .ok (.getfield 29, 3) := by decide +kernel
theorem d_Plan_insertSymbolOf_23 : decode prog_8_method_7_code 23 = .ok (.iload_n 1, 1) := by decide +kernel
theorem d_Plan_insertSymbolOf_24 : decode prog_8_method_7_code 24 = .ok (.iaload, 1) := by decide +kernel
theorem d_Plan_insertSymbolOf_25 : decode prog_8_method_7_code 25 = .ok (.if_icmp .gt 9, 3) := by decide +kernel
theorem d_Plan_insertSymbolOf_28 : decode prog_8_method_7_code 28 = .ok (.iinc 2 1, 3) := by decide +kernel
theorem d_Plan_insertSymbolOf_31 : decode prog_8_method_7_code 31 = .ok (.goto (-29), 3) := by decide +kernel
theorem d_Plan_insertSymbolOf_34 : decode prog_8_method_7_code 34 = .ok (.iload_n 2, 1) := by decide +kernel
theorem d_Plan_insertSymbolOf_35 : decode prog_8_method_7_code 35 = .ok (.ireturn, 1) := by decide +kernel
theorem d_Plan_commandSymbolOf_0 : decode prog_8_method_8_code 0 = .ok (.bipush 8, 2) := by decide +kernel
theorem d_Plan_commandSymbolOf_2 : decode prog_8_method_8_code 2 = .ok (.aload_n 0, 1) := by decide +kernel
theorem d_Plan_commandSymbolOf_3 : decode prog_8_method_8_code 3 = .ok (.iload_n 1, 1) := by decide +kernel
theorem d_Plan_commandSymbolOf_4 : decode prog_8_method_8_code 4 = .ok (.invokevirtual 125, 3) := by decide +kernel
theorem d_Plan_commandSymbolOf_7 : decode prog_8_method_8_code 7 = .ok (.imul, 1) := by decide +kernel
theorem d_Plan_commandSymbolOf_8 : decode prog_8_method_8_code 8 = .ok (.aload_n 0, 1) := by decide +kernel
theorem d_Plan_commandSymbolOf_9 : decode prog_8_method_8_code 9 = .ok (.getfield 32, 3) := by decide +kernel
theorem d_Plan_commandSymbolOf_12 : decode prog_8_method_8_code 12 = .ok (.iload_n 1, 1) := by decide +kernel
theorem d_Plan_commandSymbolOf_13 : decode prog_8_method_8_code 13 = .ok (.iaload, 1) := by decide +kernel
theorem d_Plan_commandSymbolOf_14 : decode prog_8_method_8_code 14 = .ok (.iadd, 1) := by decide +kernel
theorem d_Plan_commandSymbolOf_15 : decode prog_8_method_8_code 15 = .ok (.ireturn, 1) := by decide +kernel
