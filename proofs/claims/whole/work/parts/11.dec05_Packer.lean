/-! decode rows of RingPacker$Packer -/
theorem d_Packer_init_0 : decode prog_7_method_1_code 0 = .ok (.aload_n 0, 1) := by decide +kernel
theorem d_Packer_init_1 : decode prog_7_method_1_code 1 = .ok (.invokespecial 3, 3) := by decide +kernel
theorem d_Packer_init_4 : decode prog_7_method_1_code 4 = .ok (.aload_n 0, 1) := by decide +kernel
theorem d_Packer_init_5 : decode prog_7_method_1_code 5 = .ok (.new 9, 3) := by decide +kernel
theorem d_Packer_init_8 : decode prog_7_method_1_code 8 = .ok (.dup, 1) := by decide +kernel
theorem d_Packer_init_9 : decode prog_7_method_1_code 9 = .ok (.invokespecial 11, 3) := by decide +kernel
theorem d_Packer_init_12 : decode prog_7_method_1_code 12 = .ok (.putfield 12, 3) := by decide +kernel
theorem d_Packer_init_15 : decode prog_7_method_1_code 15 = .ok (.aload_n 0, 1) := by decide +kernel
theorem d_Packer_init_16 : decode prog_7_method_1_code 16 = .ok (.new 18, 3) := by decide +kernel
theorem d_Packer_init_19 : decode prog_7_method_1_code 19 = .ok (.dup, 1) := by decide +kernel
theorem d_Packer_init_20 : decode prog_7_method_1_code 20 = .ok (.invokespecial 20, 3) := by decide +kernel
theorem d_Packer_init_23 : decode prog_7_method_1_code 23 = .ok (.putfield 21, 3) := by decide +kernel
theorem d_Packer_init_26 : decode prog_7_method_1_code 26 = .ok (.aload_n 0, 1) := by decide +kernel
theorem d_Packer_init_27 : decode prog_7_method_1_code 27 = .ok (.new 25, 3) := by decide +kernel
theorem d_Packer_init_30 : decode prog_7_method_1_code 30 = .ok (.dup, 1) := by decide +kernel
theorem d_Packer_init_31 : decode prog_7_method_1_code 31 = .ok (.invokespecial 27, 3) := by decide +kernel
theorem d_Packer_init_34 : decode prog_7_method_1_code 34 = .ok (.putfield 28, 3) := by decide +kernel
theorem d_Packer_init_37 : decode prog_7_method_1_code 37 = .ok (.aload_n 0, 1) := by decide +kernel
theorem d_Packer_init_38 : decode prog_7_method_1_code 38 = .ok (.new 32, 3) := by decide +kernel
theorem d_Packer_init_41 : decode prog_7_method_1_code 41 = .ok (.dup, 1) := by decide +kernel
theorem d_Packer_init_42 : decode prog_7_method_1_code 42 = .ok (.invokespecial 34, 3) := by decide +kernel
theorem d_Packer_init_45 : decode prog_7_method_1_code 45 = .ok (.putfield 35, 3) := by decide +kernel
theorem d_Packer_init_48 : decode prog_7_method_1_code 48 = .ok (.return_, 1) := by decide +kernel
theorem d_Packer_start_0 : decode prog_7_method_2_code 0 = .ok (.aload_n 0, 1) := by decide +kernel
theorem d_Packer_start_1 : decode prog_7_method_2_code 1 = .ok (.getfield 12, 3) := by decide +kernel
theorem d_Packer_start_4 : decode prog_7_method_2_code 4 = .ok (.invokevirtual 39, 3) := by decide +kernel
theorem d_Packer_start_7 : decode prog_7_method_2_code 7 = .ok (.aload_n 0, 1) := by decide +kernel
theorem d_Packer_start_8 : decode prog_7_method_2_code 8 = .ok (.getfield 21, 3) := by decide +kernel
theorem d_Packer_start_11 : decode prog_7_method_2_code 11 = .ok (.invokevirtual 42, 3) := by decide +kernel
theorem d_Packer_start_14 : decode prog_7_method_2_code 14 = .ok (.return_, 1) := by decide +kernel
theorem d_Packer_writeBlock_0 : decode prog_7_method_3_code 0 = .ok (.iload_n 3, 1) := by decide +kernel
theorem d_Packer_writeBlock_1 : decode prog_7_method_3_code 1 = .ok (.bipush 48, 2) := by decide +kernel
theorem d_Packer_writeBlock_3 : decode prog_7_method_3_code 3 = .ok (.iadd, 1) := by decide +kernel
theorem d_Packer_writeBlock_4 : decode prog_7_method_3_code 4 = .ok (.aload_n 1, 1) := by decide +kernel
theorem d_Packer_writeBlock_5 : decode prog_7_method_3_code 5 = .ok (.getfield 43, 3) := by decide +kernel
theorem d_Packer_writeBlock_8 : decode prog_7_method_3_code 8 = .ok (.invokestatic 49, 3) := by decide +kernel
theorem d_Packer_writeBlock_11 : decode prog_7_method_3_code 11 = .ok (.istore 4, 2) := by decide +kernel
theorem d_Packer_writeBlock_13 : decode prog_7_method_3_code 13 = .ok (.aload_n 0, 1) := by decide +kernel
theorem d_Packer_writeBlock_14 : decode prog_7_method_3_code 14 = .ok (.getfield 35, 3) := by decide +kernel
theorem d_Packer_writeBlock_17 : decode prog_7_method_3_code 17 = .ok (.aload_n 1, 1) := by decide +kernel
theorem d_Packer_writeBlock_18 : decode prog_7_method_3_code 18 = .ok (.iload_n 3, 1) := by decide +kernel
theorem d_Packer_writeBlock_19 : decode prog_7_method_3_code 19 = .ok (.iload 4, 2) := by decide +kernel
theorem d_Packer_writeBlock_21 : decode prog_7_method_3_code 21 = .ok (.aload_n 0, 1) := by decide +kernel
theorem d_Packer_writeBlock_22 : decode prog_7_method_3_code 22 = .ok (.getfield 21, 3) := by decide +kernel
theorem d_Packer_writeBlock_25 : decode prog_7_method_3_code 25 = .ok (.invokevirtual 55, 3) := by decide +kernel
theorem d_Packer_writeBlock_28 : decode prog_7_method_3_code 28 = .ok (.aload_n 2, 1) := by decide +kernel
theorem d_Packer_writeBlock_29 : decode prog_7_method_3_code 29 = .ok (.getfield 59, 3) := by decide +kernel
theorem d_Packer_writeBlock_32 : decode prog_7_method_3_code 32 = .ok (.istore 5, 2) := by decide +kernel
theorem d_Packer_writeBlock_34 : decode prog_7_method_3_code 34 = .ok (.iconst 0, 1) := by decide +kernel
theorem d_Packer_writeBlock_35 : decode prog_7_method_3_code 35 = .ok (.istore 6, 2) := by decide +kernel
theorem d_Packer_writeBlock_37 : decode prog_7_method_3_code 37 = .ok (.iconst 0, 1) := by decide +kernel
theorem d_Packer_writeBlock_38 : decode prog_7_method_3_code 38 = .ok (.istore 7, 2) := by decide +kernel
theorem d_Packer_writeBlock_40 : decode prog_7_method_3_code 40 = .ok (.iconst 0, 1) := by decide +kernel
theorem d_Packer_writeBlock_41 : decode prog_7_method_3_code 41 = .ok (.istore 8, 2) := by decide +kernel
theorem d_Packer_writeBlock_43 : decode prog_7_method_3_code 43 = .ok (.iload 8, 2) := by decide +kernel
theorem d_Packer_writeBlock_45 : decode prog_7_method_3_code 45 = .ok (.iconst 2, 1) := by decide +kernel
theorem d_Packer_writeBlock_46 : decode prog_7_method_3_code 46 = .ok (.if_icmp .gt 50, 3) := by decide +kernel
theorem d_Packer_writeBlock_49 : decode prog_7_method_3_code 49 = .ok (.aload_n 2, 1) := by decide +kernel
theorem d_Packer_writeBlock_50 : decode prog_7_method_3_code 50 = .ok (.iload 5, 2) := by decide +kernel
theorem d_Packer_writeBlock_52 : decode prog_7_method_3_code 52 = .ok (.invokevirtual 64, 3) := by decide +kernel
theorem d_Packer_writeBlock_55 : decode prog_7_method_3_code 55 = .ok (.aload_n 0, 1) := by decide +kernel
theorem d_Packer_writeBlock_56 : decode prog_7_method_3_code 56 = .ok (.iload 8, 2) := by decide +kernel
theorem d_Packer_writeBlock_58 : decode prog_7_method_3_code 58 = .ok (.aload_n 1, 1) := by decide +kernel
theorem d_Packer_writeBlock_59 : decode prog_7_method_3_code 59 = .ok (.aload_n 2, 1) := by decide +kernel
theorem d_Packer_writeBlock_60 : decode prog_7_method_3_code 60 = .ok (.iload_n 3, 1) := by decide +kernel
theorem d_Packer_writeBlock_61 : decode prog_7_method_3_code 61 = .ok (.iload 4, 2) := by decide +kernel
theorem d_Packer_writeBlock_63 : decode prog_7_method_3_code 63 = .ok (.invokevirtual 68, 3) := by decide +kernel
theorem d_Packer_writeBlock_66 : decode prog_7_method_3_code 66 = .ok (.iload 8, 2) := by decide +kernel
theorem d_Packer_writeBlock_68 : decode prog_7_method_3_code 68 = .ok (.ifCond .eq 12, 3) := by decide +kernel
theorem d_Packer_writeBlock_71 : decode prog_7_method_3_code 71 = .ok (.aload_n 2, 1) := by decide +kernel
theorem d_Packer_writeBlock_72 : decode prog_7_method_3_code 72 = .ok (.getfield 59, 3) := by decide +kernel
theorem d_Packer_writeBlock_75 : decode prog_7_method_3_code 75 = .ok (.iload 7, 2) := by decide +kernel
theorem d_Packer_writeBlock_77 : decode prog_7_method_3_code 77 = .ok (.if_icmp .ge 13, 3) := by decide +kernel
theorem d_Packer_writeBlock_80 : decode prog_7_method_3_code 80 = .ok (.iload 8, 2) := by decide +kernel
theorem d_Packer_writeBlock_82 : decode prog_7_method_3_code 82 = .ok (.istore 6, 2) := by decide +kernel
theorem d_Packer_writeBlock_84 : decode prog_7_method_3_code 84 = .ok (.aload_n 2, 1) := by decide +kernel
theorem d_Packer_writeBlock_85 : decode prog_7_method_3_code 85 = .ok (.getfield 59, 3) := by decide +kernel
theorem d_Packer_writeBlock_88 : decode prog_7_method_3_code 88 = .ok (.istore 7, 2) := by decide +kernel
theorem d_Packer_writeBlock_90 : decode prog_7_method_3_code 90 = .ok (.iinc 8 1, 3) := by decide +kernel
theorem d_Packer_writeBlock_93 : decode prog_7_method_3_code 93 = .ok (.goto (-50), 3) := by decide +kernel
theorem d_Packer_writeBlock_96 : decode prog_7_method_3_code 96 = .ok (.aload_n 2, 1) := by decide +kernel
theorem d_Packer_writeBlock_97 : decode prog_7_method_3_code 97 = .ok (.iload 5, 2) := by decide +kernel
theorem d_Packer_writeBlock_99 : decode prog_7_method_3_code 99 = .ok (.invokevirtual 64, 3) := by decide +kernel
theorem d_Packer_writeBlock_102 : decode prog_7_method_3_code 102 = .ok (.aload_n 0, 1) := by decide +kernel
theorem d_Packer_writeBlock_103 : decode prog_7_method_3_code 103 = .ok (.iload 6, 2) := by decide +kernel
theorem d_Packer_writeBlock_105 : decode prog_7_method_3_code 105 = .ok (.aload_n 1, 1) := by decide +kernel
theorem d_Packer_writeBlock_106 : decode prog_7_method_3_code 106 = .ok (.aload_n 2, 1) := by decide +kernel
theorem d_Packer_writeBlock_107 : decode prog_7_method_3_code 107 = .ok (.iload_n 3, 1) := by decide +kernel
theorem d_Packer_writeBlock_108 : decode prog_7_method_3_code 108 = .ok (.iload 4, 2) := by decide +kernel
theorem d_Packer_writeBlock_110 : decode prog_7_method_3_code 110 = .ok (.invokevirtual 68, 3) := by decide +kernel
theorem d_Packer_writeBlock_113 : decode prog_7_method_3_code 113 = .ok (.iload 6, 2) := by decide +kernel
theorem d_Packer_writeBlock_115 : decode prog_7_method_3_code 115 = .ok (.ifCond .eq 28, 3) := by decide +kernel
theorem d_Packer_writeBlock_118 : decode prog_7_method_3_code 118 = .ok (.aload_n 0, 1) := by decide +kernel
theorem d_Packer_writeBlock_119 : decode prog_7_method_3_code 119 = .ok (.getfield 21, 3) := by decide +kernel
theorem d_Packer_writeBlock_122 : decode prog_7_method_3_code 122 = .ok (.aload_n 0, 1) := by decide +kernel
theorem d_Packer_writeBlock_123 : decode prog_7_method_3_code 123 = .ok (.getfield 35, 3) := by decide +kernel
theorem d_Packer_writeBlock_126 : decode prog_7_method_3_code 126 = .ok (.getfield 72, 3) := by decide +kernel
theorem d_Packer_writeBlock_129 : decode prog_7_method_3_code 129 = .ok (.invokevirtual 73, 3) := by decide +kernel
theorem d_Packer_writeBlock_132 : decode prog_7_method_3_code 132 = .ok (.aload_n 0, 1) := by decide +kernel
theorem d_Packer_writeBlock_133 : decode prog_7_method_3_code 133 = .ok (.getfield 12, 3) := by decide +kernel
theorem d_Packer_writeBlock_136 : decode prog_7_method_3_code 136 = .ok (.aload_n 0, 1) := by decide +kernel
theorem d_Packer_writeBlock_137 : decode prog_7_method_3_code 137 = .ok (.getfield 35, 3) := by decide +kernel
theorem d_Packer_writeBlock_140 : decode prog_7_method_3_code 140 = .ok (.invokevirtual 77, 3) := by decide +kernel
theorem d_Packer_writeBlock_143 : decode prog_7_method_3_code 143 = .ok (.return_, 1) := by decide +kernel
theorem d_Packer_writeInWay_0 : decode prog_7_method_4_code 0 = .ok (.iload 5, 2) := by decide +kernel
theorem d_Packer_writeInWay_2 : decode prog_7_method_4_code 2 = .ok (.aload_n 2, 1) := by decide +kernel
theorem d_Packer_writeInWay_3 : decode prog_7_method_4_code 3 = .ok (.getfield 43, 3) := by decide +kernel
theorem d_Packer_writeInWay_6 : decode prog_7_method_4_code 6 = .ok (.if_icmp .ne 7, 3) := by decide +kernel
theorem d_Packer_writeInWay_9 : decode prog_7_method_4_code 9 = .ok (.iconst 1, 1) := by decide +kernel
theorem d_Packer_writeInWay_10 : decode prog_7_method_4_code 10 = .ok (.goto 4, 3) := by decide +kernel
theorem d_Packer_writeInWay_13 : decode prog_7_method_4_code 13 = .ok (.iconst 0, 1) := by decide +kernel
theorem d_Packer_writeInWay_14 : decode prog_7_method_4_code 14 = .ok (.istore 6, 2) := by decide +kernel
theorem d_Packer_writeInWay_16 : decode prog_7_method_4_code 16 = .ok (.aload_n 3, 1) := by decide +kernel
theorem d_Packer_writeInWay_17 : decode prog_7_method_4_code 17 = .ok (.iload 6, 2) := by decide +kernel
theorem d_Packer_writeInWay_19 : decode prog_7_method_4_code 19 = .ok (.ifCond .eq 7, 3) := by decide +kernel
theorem d_Packer_writeInWay_22 : decode prog_7_method_4_code 22 = .ok (.iconst 1, 1) := by decide +kernel
theorem d_Packer_writeInWay_23 : decode prog_7_method_4_code 23 = .ok (.goto 4, 3) := by decide +kernel
theorem d_Packer_writeInWay_26 : decode prog_7_method_4_code 26 = .ok (.iconst 0, 1) := by decide +kernel
theorem d_Packer_writeInWay_27 : decode prog_7_method_4_code 27 = .ok (.iload 6, 2) := by decide +kernel
theorem d_Packer_writeInWay_29 : decode prog_7_method_4_code 29 = .ok (.ifCond .eq 7, 3) := by decide +kernel
theorem d_Packer_writeInWay_32 : decode prog_7_method_4_code 32 = .ok (.iconst 2, 1) := by decide +kernel
theorem d_Packer_writeInWay_33 : decode prog_7_method_4_code 33 = .ok (.goto 4, 3) := by decide +kernel
theorem d_Packer_writeInWay_36 : decode prog_7_method_4_code 36 = .ok (.iconst 1, 1) := by decide +kernel
theorem d_Packer_writeInWay_37 : decode prog_7_method_4_code 37 = .ok (.invokevirtual 81, 3) := by decide +kernel
theorem d_Packer_writeInWay_40 : decode prog_7_method_4_code 40 = .ok (.aload_n 3, 1) := by decide +kernel
theorem d_Packer_writeInWay_41 : decode prog_7_method_4_code 41 = .ok (.iload_n 1, 1) := by decide +kernel
theorem d_Packer_writeInWay_42 : decode prog_7_method_4_code 42 = .ok (.ifCond .ne 7, 3) := by decide +kernel
theorem d_Packer_writeInWay_45 : decode prog_7_method_4_code 45 = .ok (.iconst 0, 1) := by decide +kernel
theorem d_Packer_writeInWay_46 : decode prog_7_method_4_code 46 = .ok (.goto 4, 3) := by decide +kernel
theorem d_Packer_writeInWay_49 : decode prog_7_method_4_code 49 = .ok (.iconst 1, 1) := by decide +kernel
theorem d_Packer_writeInWay_50 : decode prog_7_method_4_code 50 = .ok (.iconst 1, 1) := by decide +kernel
theorem d_Packer_writeInWay_51 : decode prog_7_method_4_code 51 = .ok (.invokevirtual 81, 3) := by decide +kernel
theorem d_Packer_writeInWay_54 : decode prog_7_method_4_code 54 = .ok (.aload_n 3, 1) := by decide +kernel
theorem d_Packer_writeInWay_55 : decode prog_7_method_4_code 55 = .ok (.iload 5, 2) := by decide +kernel
theorem d_Packer_writeInWay_57 : decode prog_7_method_4_code 57 = .ok (.iload 4, 2) := by decide +kernel
theorem d_Packer_writeInWay_59 : decode prog_7_method_4_code 59 = .ok (.isub, 1) := by decide +kernel
theorem d_Packer_writeInWay_60 : decode prog_7_method_4_code 60 = .ok (.iconst 1, 1) := by decide +kernel
theorem d_Packer_writeInWay_61 : decode prog_7_method_4_code 61 = .ok (.isub, 1) := by decide +kernel
theorem d_Packer_writeInWay_62 : decode prog_7_method_4_code 62 = .ok (.bipush 6, 2) := by decide +kernel
theorem d_Packer_writeInWay_64 : decode prog_7_method_4_code 64 = .ok (.invokevirtual 81, 3) := by decide +kernel
theorem d_Packer_writeInWay_67 : decode prog_7_method_4_code 67 = .ok (.iload_n 1, 1) := by decide +kernel
theorem d_Packer_writeInWay_68 : decode prog_7_method_4_code 68 = .ok (.ifCond .ne 14, 3) := by decide +kernel
theorem d_Packer_writeInWay_71 : decode prog_7_method_4_code 71 = .ok (.aload_n 0, 1) := by decide +kernel
theorem d_Packer_writeInWay_72 : decode prog_7_method_4_code 72 = .ok (.aload_n 2, 1) := by decide +kernel
theorem d_Packer_writeInWay_73 : decode prog_7_method_4_code 73 = .ok (.aload_n 3, 1) := by decide +kernel
theorem d_Packer_writeInWay_74 : decode prog_7_method_4_code 74 = .ok (.iload 4, 2) := by decide +kernel
theorem d_Packer_writeInWay_76 : decode prog_7_method_4_code 76 = .ok (.iload 5, 2) := by decide +kernel
theorem d_Packer_writeInWay_78 : decode prog_7_method_4_code 78 = .ok (.invokevirtual 85, 3) := by decide +kernel
theorem d_Packer_writeInWay_81 : decode prog_7_method_4_code 81 = .ok (.return_, 1) := by decide +kernel
theorem d_Packer_writeInWay_82 : decode prog_7_method_4_code 82 = .ok (.iload_n 1, 1) := by decide +kernel
theorem d_Packer_writeInWay_83 : decode prog_7_method_4_code 83 = .ok (.iconst 2, 1) := by decide +kernel
theorem d_Packer_writeInWay_84 : decode prog_7_method_4_code 84 = .ok (.if_icmp .ne 7, 3) := by decide +kernel
theorem d_Packer_writeInWay_87 : decode prog_7_method_4_code 87 = .ok (.iconst 1, 1) := by decide +kernel
theorem d_Packer_writeInWay_88 : decode prog_7_method_4_code 88 = .ok (.goto 4, 3) := by decide +kernel
theorem d_Packer_writeInWay_91 : decode prog_7_method_4_code 91 = .ok (.iconst 0, 1) := by decide +kernel
theorem d_Packer_writeInWay_92 : decode prog_7_method_4_code 92 = .ok (.istore 7, 2) := by decide +kernel
theorem d_Packer_writeInWay_94 : decode prog_7_method_4_code 94 = .ok (.aload_n 0, 1) := by decide +kernel
theorem d_Packer_writeInWay_95 : decode prog_7_method_4_code 95 = .ok (.aload_n 2, 1) := by decide +kernel
theorem d_Packer_writeInWay_96 : decode prog_7_method_4_code 96 = .ok (.iload 7, 2) := by decide +kernel
theorem d_Packer_writeInWay_98 : decode prog_7_method_4_code 98 = .ok (.invokevirtual 89, 3) := by decide +kernel
theorem d_Packer_writeInWay_101 : decode prog_7_method_4_code 101 = .ok (.aload_n 0, 1) := by decide +kernel
theorem d_Packer_writeInWay_102 : decode prog_7_method_4_code 102 = .ok (.getfield 28, 3) := by decide +kernel
theorem d_Packer_writeInWay_105 : decode prog_7_method_4_code 105 = .ok (.invokevirtual 93, 3) := by decide +kernel
theorem d_Packer_writeInWay_108 : decode prog_7_method_4_code 108 = .ok (.aload_n 3, 1) := by decide +kernel
theorem d_Packer_writeInWay_109 : decode prog_7_method_4_code 109 = .ok (.iload 7, 2) := by decide +kernel
theorem d_Packer_writeInWay_111 : decode prog_7_method_4_code 111 = .ok (.ifCond .eq 7, 3) := by decide +kernel
theorem d_Packer_writeInWay_114 : decode prog_7_method_4_code 114 = .ok (.iconst 1, 1) := by decide +kernel
theorem d_Packer_writeInWay_115 : decode prog_7_method_4_code 115 = .ok (.goto 4, 3) := by decide +kernel
theorem d_Packer_writeInWay_118 : decode prog_7_method_4_code 118 = .ok (.iconst 0, 1) := by decide +kernel
theorem d_Packer_writeInWay_119 : decode prog_7_method_4_code 119 = .ok (.iconst 1, 1) := by decide +kernel
theorem d_Packer_writeInWay_120 : decode prog_7_method_4_code 120 = .ok (.invokevirtual 81, 3) := by decide +kernel
theorem d_Packer_writeInWay_123 : decode prog_7_method_4_code 123 = .ok (.aload_n 0, 1) := by decide +kernel
theorem d_Packer_writeInWay_124 : decode prog_7_method_4_code 124 = .ok (.getfield 28, 3) := by decide +kernel
theorem d_Packer_writeInWay_127 : decode prog_7_method_4_code 127 = .ok (.getfield 96, 3) := by decide +kernel
theorem d_Packer_writeInWay_130 : decode prog_7_method_4_code 130 = .ok (.aload_n 3, 1) := by decide +kernel
theorem d_Packer_writeInWay_131 : decode prog_7_method_4_code 131 = .ok (.invokevirtual 100, 3) := by decide +kernel
theorem d_Packer_writeInWay_134 : decode prog_7_method_4_code 134 = .ok (.iload 7, 2) := by decide +kernel
theorem d_Packer_writeInWay_136 : decode prog_7_method_4_code 136 = .ok (.ifCond .eq 14, 3) := by decide +kernel
theorem d_Packer_writeInWay_139 : decode prog_7_method_4_code 139 = .ok (.aload_n 0, 1) := by decide +kernel
theorem d_Packer_writeInWay_140 : decode prog_7_method_4_code 140 = .ok (.getfield 28, 3) := by decide +kernel
theorem d_Packer_writeInWay_143 : decode prog_7_method_4_code 143 = .ok (.getfield 106, 3) := by decide +kernel
theorem d_Packer_writeInWay_146 : decode prog_7_method_4_code 146 = .ok (.aload_n 3, 1) := by decide +kernel
theorem d_Packer_writeInWay_147 : decode prog_7_method_4_code 147 = .ok (.invokevirtual 100, 3) := by decide +kernel
theorem d_Packer_writeInWay_150 : decode prog_7_method_4_code 150 = .ok (.aload_n 0, 1) := by decide +kernel
theorem d_Packer_writeInWay_151 : decode prog_7_method_4_code 151 = .ok (.getfield 28, 3) := by decide +kernel
theorem d_Packer_writeInWay_154 : decode prog_7_method_4_code 154 = .ok (.getfield 109, 3) := by decide +kernel
theorem d_Packer_writeInWay_157 : decode prog_7_method_4_code 157 = .ok (.aload_n 3, 1) := by decide +kernel
theorem d_Packer_writeInWay_158 : decode prog_7_method_4_code 158 = .ok (.invokevirtual 100, 3) := by decide +kernel
theorem d_Packer_writeInWay_161 : decode prog_7_method_4_code 161 = .ok (.aload_n 0, 1) := by decide +kernel
theorem d_Packer_writeInWay_162 : decode prog_7_method_4_code 162 = .ok (.getfield 28, 3) := by decide +kernel
theorem d_Packer_writeInWay_165 : decode prog_7_method_4_code 165 = .ok (.getfield 112, 3) := by decide +kernel
theorem d_Packer_writeInWay_168 : decode prog_7_method_4_code 168 = .ok (.aload_n 3, 1) := by decide +kernel
theorem d_Packer_writeInWay_169 : decode prog_7_method_4_code 169 = .ok (.invokevirtual 100, 3) := by decide +kernel
theorem d_Packer_writeInWay_172 : decode prog_7_method_4_code 172 = .ok (.iconst 0, 1) := by decide +kernel
theorem d_Packer_writeInWay_173 : decode prog_7_method_4_code 173 = .ok (.istore 8, 2) := by decide +kernel
theorem d_Packer_writeInWay_175 : decode prog_7_method_4_code 175 = .ok (.iload 8, 2) := by decide +kernel
theorem d_Packer_writeInWay_177 : decode prog_7_method_4_code 177 = .ok (.aload_n 0, 1) := by decide +kernel
theorem d_Packer_writeInWay_178 : decode prog_7_method_4_code 178 = .ok (.getfield 35, 3) := by decide +kernel
theorem d_Packer_writeInWay_181 : decode prog_7_method_4_code 181 = .ok (.getfield 115, 3) := by decide +kernel
theorem d_Packer_writeInWay_184 : decode prog_7_method_4_code 184 = .ok (.if_icmp .ge 19, 3) := by decide +kernel
theorem d_Packer_writeInWay_187 : decode prog_7_method_4_code 187 = .ok (.aload_n 0, 1) := by decide +kernel
theorem d_Packer_writeInWay_188 : decode prog_7_method_4_code 188 = .ok (.aload_n 2, 1) := by decide +kernel
theorem d_Packer_writeInWay_189 : decode prog_7_method_4_code 189 = .ok (.aload_n 3, 1) := by decide +kernel
theorem d_Packer_writeInWay_190 : decode prog_7_method_4_code 190 = .ok (.iload 7, 2) := by decide +kernel
theorem d_Packer_writeInWay_192 : decode prog_7_method_4_code 192 = .ok (.iload 8, 2) := by decide +kernel
theorem d_Packer_writeInWay_194 : decode prog_7_method_4_code 194 = .ok (.invokevirtual 118, 3) := by decide +kernel
theorem d_Packer_writeInWay_197 : decode prog_7_method_4_code 197 = .ok (.iinc 8 1, 3) := by decide +kernel
theorem d_Packer_writeInWay_200 : decode prog_7_method_4_code 200 = .ok (.goto (-25), 3) := by decide +kernel
theorem d_Packer_writeInWay_203 : decode prog_7_method_4_code 203 = .ok (.return_, 1) := by decide +kernel
theorem d_Packer_writeRaw_0 : decode prog_7_method_5_code 0 = .ok (.aload_n 2, 1) := by decide +kernel
theorem d_Packer_writeRaw_1 : decode prog_7_method_5_code 1 = .ok (.invokevirtual 122, 3) := by decide +kernel
theorem d_Packer_writeRaw_4 : decode prog_7_method_5_code 4 = .ok (.iload_n 3, 1) := by decide +kernel
theorem d_Packer_writeRaw_5 : decode prog_7_method_5_code 5 = .ok (.istore 5, 2) := by decide +kernel
theorem d_Packer_writeRaw_7 : decode prog_7_method_5_code 7 = .ok (.iload 5, 2) := by decide +kernel
theorem d_Packer_writeRaw_9 : decode prog_7_method_5_code 9 = .ok (.iload 4, 2) := by decide +kernel
theorem d_Packer_writeRaw_11 : decode prog_7_method_5_code 11 = .ok (.if_icmp .ge 21, 3) := by decide +kernel
theorem d_Packer_writeRaw_14 : decode prog_7_method_5_code 14 = .ok (.aload_n 2, 1) := by decide +kernel
theorem d_Packer_writeRaw_15 : decode prog_7_method_5_code 15 = .ok (.aload_n 1, 1) := by decide +kernel
theorem d_Packer_writeRaw_16 : decode prog_7_method_5_code 16 = .ok (.iload 5, 2) := by decide +kernel
theorem d_Packer_writeRaw_18 : decode prog_7_method_5_code 18 = .ok (.invokevirtual 125, 3) := by decide +kernel
theorem d_Packer_writeRaw_21 : decode prog_7_method_5_code 21 = .ok (.bipush 8, 2) := by decide +kernel
theorem d_Packer_writeRaw_23 : decode prog_7_method_5_code 23 = .ok (.invokevirtual 81, 3) := by decide +kernel
theorem d_Packer_writeRaw_26 : decode prog_7_method_5_code 26 = .ok (.iinc 5 1, 3) := by decide +kernel
theorem d_Packer_writeRaw_29 : decode prog_7_method_5_code 29 = .ok (.goto (-22), 3) := by decide +kernel
theorem d_Packer_writeRaw_32 : decode prog_7_method_5_code 32 = .ok (.return_, 1) := by decide +kernel
theorem d_Packer_countSymbols_0 : decode prog_7_method_6_code 0 = .ok (.aload_n 0, 1) := by decide +kernel
theorem d_Packer_countSymbols_1 : decode prog_7_method_6_code 1 = .ok (.getfield 28, 3) := by decide +kernel
theorem d_Packer_countSymbols_4 : decode prog_7_method_6_code 4 = .ok (.invokevirtual 129, 3) := by decide +kernel
theorem d_Packer_countSymbols_7 : decode prog_7_method_6_code 7 = .ok (.iconst 0, 1) := by decide +kernel
theorem d_Packer_countSymbols_8 : decode prog_7_method_6_code 8 = .ok (.istore_n 3, 1) := by decide +kernel
theorem d_Packer_countSymbols_9 : decode prog_7_method_6_code 9 = .ok (.iload_n 3, 1) := by decide +kernel
theorem d_Packer_countSymbols_10 : decode prog_7_method_6_code 10 = .ok (.aload_n 0, 1) := by decide +kernel
theorem d_Packer_countSymbols_11 : decode prog_7_method_6_code 11 = .ok (.getfield 35, 3) := by decide +kernel
theorem d_Packer_countSymbols_14 : decode prog_7_method_6_code 14 = .ok (.getfield 115, 3) := by decide +kernel
theorem d_Packer_countSymbols_17 : decode prog_7_method_6_code 17 = .ok (.if_icmp .ge 103, 3) := by decide +kernel
theorem d_Packer_countSymbols_20 : decode prog_7_method_6_code 20 = .ok (.aload_n 0, 1) := by decide +kernel
theorem d_Packer_countSymbols_21 : decode prog_7_method_6_code 21 = .ok (.getfield 28, 3) := by decide +kernel
theorem d_Packer_countSymbols_24 : decode prog_7_method_6_code 24 = .ok (.getfield 109, 3) := by decide +kernel
theorem d_Packer_countSymbols_27 : decode prog_7_method_6_code 27 = .ok (.aload_n 0, 1) := by decide +kernel
theorem d_Packer_countSymbols_28 : decode prog_7_method_6_code 28 = .ok (.getfield 35, 3) := by decide +kernel
theorem d_Packer_countSymbols_31 : decode prog_7_method_6_code 31 = .ok (.iload_n 3, 1) := by decide +kernel
theorem d_Packer_countSymbols_32 : decode prog_7_method_6_code 32 = .ok (.invokevirtual 132, 3) := by decide +kernel
theorem d_Packer_countSymbols_35 : decode prog_7_method_6_code 35 = .ok (.invokevirtual 135, 3) := by decide +kernel
theorem d_Packer_countSymbols_38 : decode prog_7_method_6_code 38 = .ok (.aload_n 0, 1) := by decide +kernel
theorem d_Packer_countSymbols_39 : decode prog_7_method_6_code 39 = .ok (.getfield 28, 3) := by decide +kernel
theorem d_Packer_countSymbols_42 : decode prog_7_method_6_code 42 = .ok (.getfield 112, 3) := by decide +kernel
theorem d_Packer_countSymbols_45 : decode prog_7_method_6_code 45 = .ok (.aload_n 0, 1) := by decide +kernel
theorem d_Packer_countSymbols_46 : decode prog_7_method_6_code 46 = .ok (.getfield 35, 3) := by decide +kernel
theorem d_Packer_countSymbols_49 : decode prog_7_method_6_code 49 = .ok (.getfield 138, 3) := by decide +kernel
theorem d_Packer_countSymbols_52 : decode prog_7_method_6_code 52 = .ok (.iload_n 3, 1) := by decide +kernel
theorem d_Packer_countSymbols_53 : decode prog_7_method_6_code 53 = .ok (.iaload, 1) := by decide +kernel
theorem d_Packer_countSymbols_54 : decode prog_7_method_6_code 54 = .ok (.invokevirtual 135, 3) := by decide +kernel
theorem d_Packer_countSymbols_57 : decode prog_7_method_6_code 57 = .ok (.iconst 0, 1) := by decide +kernel
theorem d_Packer_countSymbols_58 : decode prog_7_method_6_code 58 = .ok (.istore 4, 2) := by decide +kernel
theorem d_Packer_countSymbols_60 : decode prog_7_method_6_code 60 = .ok (.iload 4, 2) := by decide +kernel
theorem d_Packer_countSymbols_62 : decode prog_7_method_6_code 62 = .ok (.aload_n 0, 1) := by decide +kernel
theorem d_Packer_countSymbols_63 : decode prog_7_method_6_code 63 = .ok (.getfield 35, 3) := by decide +kernel
theorem d_Packer_countSymbols_66 : decode prog_7_method_6_code 66 = .ok (.getfield 142, 3) := by decide +kernel
theorem d_Packer_countSymbols_69 : decode prog_7_method_6_code 69 = .ok (.iload_n 3, 1) := by decide +kernel
theorem d_Packer_countSymbols_70 : decode prog_7_method_6_code 70 = .ok (.iaload, 1) := by decide +kernel
theorem d_Packer_countSymbols_71 : decode prog_7_method_6_code 71 = .ok (.if_icmp .ge 43, 3) := by decide +kernel
theorem d_Packer_countSymbols_74 : decode prog_7_method_6_code 74 = .ok (.aload_n 0, 1) := by decide +kernel
theorem d_Packer_countSymbols_75 : decode prog_7_method_6_code 75 = .ok (.getfield 35, 3) := by decide +kernel
theorem d_Packer_countSymbols_78 : decode prog_7_method_6_code 78 = .ok (.getfield 145, 3) := by decide +kernel
theorem d_Packer_countSymbols_81 : decode prog_7_method_6_code 81 = .ok (.iload_n 3, 1) := by decide +kernel
theorem d_Packer_countSymbols_82 : decode prog_7_method_6_code 82 = .ok (.iaload, 1) := by decide +kernel
theorem d_Packer_countSymbols_83 : decode prog_7_method_6_code 83 = .ok (.iload 4, 2) := by decide +kernel
theorem d_Packer_countSymbols_85 : decode prog_7_method_6_code 85 = .ok (.iadd, 1) := by decide +kernel
theorem d_Packer_countSymbols_86 : decode prog_7_method_6_code 86 = .ok (.istore 5, 2) := by decide +kernel
theorem d_Packer_countSymbols_88 : decode prog_7_method_6_code 88 = .ok (.aload_n 0, 1) := by decide +kernel
theorem d_Packer_countSymbols_89 : decode prog_7_method_6_code 89 = .ok (.getfield 28, 3) := by decide +kernel
theorem d_Packer_countSymbols_92 : decode prog_7_method_6_code 92 = .ok (.aload_n 1, 1) := by decide +kernel
theorem d_Packer_countSymbols_93 : decode prog_7_method_6_code 93 = .ok (.iload 5, 2) := by decide +kernel
theorem d_Packer_countSymbols_95 : decode prog_7_method_6_code 95 = .ok (.iload_n 2, 1) := by decide +kernel
theorem d_Packer_countSymbols_96 : decode prog_7_method_6_code 96 = .ok (.invokevirtual 148, 3) := by decide +kernel
theorem d_Packer_countSymbols_99 : decode prog_7_method_6_code 99 = .ok (.aload_n 1, 1) := by decide +kernel
theorem d_Packer_countSymbols_100 : decode prog_7_method_6_code 100 = .ok (.iload 5, 2) := by decide +kernel
theorem d_Packer_countSymbols_102 : decode prog_7_method_6_code 102 = .ok (.invokevirtual 125, 3) := by decide +kernel
theorem d_Packer_countSymbols_105 : decode prog_7_method_6_code 105 = .ok (.invokevirtual 135, 3) := by decide +kernel
theorem d_Packer_countSymbols_108 : decode prog_7_method_6_code 108 = .ok (.iinc 4 1, 3) := by decide +kernel
theorem d_Packer_countSymbols_111 : decode prog_7_method_6_code 111 = .ok (.goto (-51), 3) := by decide +kernel
theorem d_Packer_countSymbols_114 : decode prog_7_method_6_code 114 = .ok (.iinc 3 1, 3) := by decide +kernel
theorem d_Packer_countSymbols_117 : decode prog_7_method_6_code 117 = .ok (.goto (-108), 3) := by decide +kernel
theorem d_Packer_countSymbols_120 : decode prog_7_method_6_code 120 = .ok (.return_, 1) := by decide +kernel
theorem d_Packer_writeCommand_0 : decode prog_7_method_7_code 0 = .ok (.aload_n 0, 1) := by decide +kernel
theorem d_Packer_writeCommand_1 : decode prog_7_method_7_code 1 = .ok (.getfield 35, 3) := by decide +kernel
theorem d_Packer_writeCommand_4 : decode prog_7_method_7_code 4 = .ok (.iload 4, 2) := by decide +kernel
theorem d_Packer_writeCommand_6 : decode prog_7_method_7_code 6 = .ok (.invokevirtual 152, 3) := by decide +kernel
theorem d_Packer_writeCommand_9 : decode prog_7_method_7_code 9 = .ok (.istore 5, 2) := by decide +kernel
theorem d_Packer_writeCommand_11 : decode prog_7_method_7_code 11 = .ok (.aload_n 0, 1) := by decide +kernel
theorem d_Packer_writeCommand_12 : decode prog_7_method_7_code 12 = .ok (.getfield 35, 3) := by decide +kernel
theorem d_Packer_writeCommand_15 : decode prog_7_method_7_code 15 = .ok (.getfield 155, 3) := by decide +kernel
theorem d_Packer_writeCommand_18 : decode prog_7_method_7_code 18 = .ok (.iload 4, 2) := by decide +kernel
theorem d_Packer_writeCommand_20 : decode prog_7_method_7_code 20 = .ok (.iaload, 1) := by decide +kernel
theorem d_Packer_writeCommand_21 : decode prog_7_method_7_code 21 = .ok (.istore 6, 2) := by decide +kernel
theorem d_Packer_writeCommand_23 : decode prog_7_method_7_code 23 = .ok (.aload_n 0, 1) := by decide +kernel
theorem d_Packer_writeCommand_24 : decode prog_7_method_7_code 24 = .ok (.getfield 28, 3) := by decide +kernel
theorem d_Packer_writeCommand_27 : decode prog_7_method_7_code 27 = .ok (.getfield 109, 3) := by decide +kernel
theorem d_Packer_writeCommand_30 : decode prog_7_method_7_code 30 = .ok (.aload_n 2, 1) := by decide +kernel
theorem d_Packer_writeCommand_31 : decode prog_7_method_7_code 31 = .ok (.aload_n 0, 1) := by decide +kernel
theorem d_Packer_writeCommand_32 : decode prog_7_method_7_code 32 = .ok (.getfield 35, 3) := by decide +kernel
theorem d_Packer_writeCommand_35 : decode prog_7_method_7_code 35 = .ok (.iload 4, 2) := by decide +kernel
theorem d_Packer_writeCommand_37 : decode prog_7_method_7_code 37 = .ok (.invokevirtual 132, 3) := by decide +kernel
theorem d_Packer_writeCommand_40 : decode prog_7_method_7_code 40 = .ok (.invokevirtual 158, 3) := by decide +kernel
theorem d_Packer_writeCommand_43 : decode prog_7_method_7_code 43 = .ok (.aload_n 2, 1) := by decide +kernel
theorem d_Packer_writeCommand_44 : decode prog_7_method_7_code 44 = .ok (.aload_n 0, 1) := by decide +kernel
theorem d_Packer_writeCommand_45 : decode prog_7_method_7_code 45 = .ok (.getfield 35, 3) := by decide +kernel
theorem d_Packer_writeCommand_48 : decode prog_7_method_7_code 48 = .ok (.getfield 142, 3) := by decide +kernel
theorem d_Packer_writeCommand_51 : decode prog_7_method_7_code 51 = .ok (.iload 4, 2) := by decide +kernel
theorem d_Packer_writeCommand_53 : decode prog_7_method_7_code 53 = .ok (.iaload, 1) := by decide +kernel
theorem d_Packer_writeCommand_54 : decode prog_7_method_7_code 54 = .ok (.getstatic 162, 3) := by decide +kernel
theorem d_Packer_writeCommand_57 : decode prog_7_method_7_code 57 = .ok (.iload 5, 2) := by decide +kernel
theorem d_Packer_writeCommand_59 : decode prog_7_method_7_code 59 = .ok (.iaload, 1) := by decide +kernel
theorem d_Packer_writeCommand_60 : decode prog_7_method_7_code 60 = .ok (.isub, 1) := by decide +kernel
theorem d_Packer_writeCommand_61 : decode prog_7_method_7_code 61 = .ok (.getstatic 165, 3) := by decide +kernel
theorem d_Packer_writeCommand_64 : decode prog_7_method_7_code 64 = .ok (.iload 5, 2) := by decide +kernel
theorem d_Packer_writeCommand_66 : decode prog_7_method_7_code 66 = .ok (.iaload, 1) := by decide +kernel
theorem d_Packer_writeCommand_67 : decode prog_7_method_7_code 67 = .ok (.invokevirtual 81, 3) := by decide +kernel
theorem d_Packer_writeCommand_70 : decode prog_7_method_7_code 70 = .ok (.aload_n 2, 1) := by decide +kernel
theorem d_Packer_writeCommand_71 : decode prog_7_method_7_code 71 = .ok (.aload_n 0, 1) := by decide +kernel
theorem d_Packer_writeCommand_72 : decode prog_7_method_7_code 72 = .ok (.getfield 35, 3) := by decide +kernel
theorem d_Packer_writeCommand_75 : decode prog_7_method_7_code 75 = .ok (.getfield 168, 3) := by decide +kernel
theorem d_Packer_writeCommand_78 : decode prog_7_method_7_code 78 = .ok (.iload 4, 2) := by decide +kernel
theorem d_Packer_writeCommand_80 : decode prog_7_method_7_code 80 = .ok (.iaload, 1) := by decide +kernel
theorem d_Packer_writeCommand_81 : decode prog_7_method_7_code 81 = .ok (.getstatic 171, 3) := by decide +kernel
theorem d_Packer_writeCommand_84 : decode prog_7_method_7_code 84 = .ok (.iload 6, 2) := by decide +kernel
theorem d_Packer_writeCommand_86 : decode prog_7_method_7_code 86 = .ok (.iaload, 1) := by decide +kernel
theorem d_Packer_writeCommand_87 : decode prog_7_method_7_code 87 = .ok (.isub, 1) := by decide +kernel
theorem d_Packer_writeCommand_88 : decode prog_7_method_7_code 88 = .ok (.getstatic 174, 3) := by decide +kernel
theorem d_Packer_writeCommand_91 : decode prog_7_method_7_code 91 = .ok (.iload 6, 2) := by decide +kernel
theorem d_Packer_writeCommand_93 : decode prog_7_method_7_code 93 = .ok (.iaload, 1) := by decide +kernel
theorem d_Packer_writeCommand_94 : decode prog_7_method_7_code 94 = .ok (.invokevirtual 81, 3) := by decide +kernel
theorem d_Packer_writeCommand_97 : decode prog_7_method_7_code 97 = .ok (.iconst 0, 1) := by decide +kernel
theorem d_Packer_writeCommand_98 : decode prog_7_method_7_code 98 = .ok (.istore 7, 2) := by decide +kernel
theorem d_Packer_writeCommand_100 : decode prog_7_method_7_code 100 = .ok (.iload 7, 2) := by decide +kernel
theorem d_Packer_writeCommand_102 : decode prog_7_method_7_code 102 = .ok (.aload_n 0, 1) := by decide +kernel
theorem d_Packer_writeCommand_103 : decode prog_7_method_7_code 103 = .ok (.getfield 35, 3) := by decide +kernel
theorem d_Packer_writeCommand_106 : decode prog_7_method_7_code 106 = .ok (.getfield 142, 3) := by decide +kernel
theorem d_Packer_writeCommand_109 : decode prog_7_method_7_code 109 = .ok (.iload 4, 2) := by decide +kernel
theorem d_Packer_writeCommand_111 : decode prog_7_method_7_code 111 = .ok (.iaload, 1) := by decide +kernel
theorem d_Packer_writeCommand_112 : decode prog_7_method_7_code 112 = .ok (.if_icmp .ge 45, 3) := by decide +kernel
theorem d_Packer_writeCommand_115 : decode prog_7_method_7_code 115 = .ok (.aload_n 0, 1) := by decide +kernel
theorem d_Packer_writeCommand_116 : decode prog_7_method_7_code 116 = .ok (.getfield 35, 3) := by decide +kernel
theorem d_Packer_writeCommand_119 : decode prog_7_method_7_code 119 = .ok (.getfield 145, 3) := by decide +kernel
theorem d_Packer_writeCommand_122 : decode prog_7_method_7_code 122 = .ok (.iload 4, 2) := by decide +kernel
theorem d_Packer_writeCommand_124 : decode prog_7_method_7_code 124 = .ok (.iaload, 1) := by decide +kernel
theorem d_Packer_writeCommand_125 : decode prog_7_method_7_code 125 = .ok (.iload 7, 2) := by decide +kernel
theorem d_Packer_writeCommand_127 : decode prog_7_method_7_code 127 = .ok (.iadd, 1) := by decide +kernel
theorem d_Packer_writeCommand_128 : decode prog_7_method_7_code 128 = .ok (.istore 8, 2) := by decide +kernel
theorem d_Packer_writeCommand_130 : decode prog_7_method_7_code 130 = .ok (.aload_n 0, 1) := by decide +kernel
theorem d_Packer_writeCommand_131 : decode prog_7_method_7_code 131 = .ok (.getfield 28, 3) := by decide +kernel
theorem d_Packer_writeCommand_134 : decode prog_7_method_7_code 134 = .ok (.aload_n 1, 1) := by decide +kernel
theorem d_Packer_writeCommand_135 : decode prog_7_method_7_code 135 = .ok (.iload 8, 2) := by decide +kernel
theorem d_Packer_writeCommand_137 : decode prog_7_method_7_code 137 = .ok (.iload_n 3, 1) := by decide +kernel
theorem d_Packer_writeCommand_138 : decode prog_7_method_7_code 138 = .ok (.invokevirtual 148, 3) := by decide +kernel
theorem d_Packer_writeCommand_141 : decode prog_7_method_7_code 141 = .ok (.aload_n 2, 1) := by decide +kernel
theorem d_Packer_writeCommand_142 : decode prog_7_method_7_code 142 = .ok (.aload_n 1, 1) := by decide +kernel
theorem d_Packer_writeCommand_143 : decode prog_7_method_7_code 143 = .ok (.iload 8, 2) := by decide +kernel
theorem d_Packer_writeCommand_145 : decode prog_7_method_7_code 145 = .ok (.invokevirtual 125, 3) := by decide +kernel
theorem d_Packer_writeCommand_148 : decode prog_7_method_7_code 148 = .ok (.invokevirtual 158, 3) := by decide +kernel
theorem d_Packer_writeCommand_151 : decode prog_7_method_7_code 151 = .ok (.iinc 7 1, 3) := by decide +kernel
theorem d_Packer_writeCommand_154 : decode prog_7_method_7_code 154 = .ok (.goto (-54), 3) := by decide +kernel
theorem d_Packer_writeCommand_157 : decode prog_7_method_7_code 157 = .ok (.aload_n 0, 1) := by decide +kernel
theorem d_Packer_writeCommand_158 : decode prog_7_method_7_code 158 = .ok (.getfield 35, 3) := by decide +kernel
theorem d_Packer_writeCommand_161 : decode prog_7_method_7_code 161 = .ok (.getfield 138, 3) := by decide +kernel
theorem d_Packer_writeCommand_164 : decode prog_7_method_7_code 164 = .ok (.iload 4, 2) := by decide +kernel
theorem d_Packer_writeCommand_166 : decode prog_7_method_7_code 166 = .ok (.iaload, 1) := by decide +kernel
theorem d_Packer_writeCommand_167 : decode prog_7_method_7_code 167 = .ok (.istore 7, 2) := by decide +kernel
theorem d_Packer_writeCommand_169 : decode prog_7_method_7_code 169 = .ok (.iload 7, 2) := by decide +kernel
theorem d_Packer_writeCommand_171 : decode prog_7_method_7_code 171 = .ok (.iconst (-1), 1) := by decide +kernel
theorem d_Packer_writeCommand_172 : decode prog_7_method_7_code 172 = .ok (.if_icmp .eq 43, 3) := by decide +kernel
theorem d_Packer_writeCommand_175 : decode prog_7_method_7_code 175 = .ok (.aload_n 0, 1) := by decide +kernel
theorem d_Packer_writeCommand_176 : decode prog_7_method_7_code 176 = .ok (.getfield 28, 3) := by decide +kernel
theorem d_Packer_writeCommand_179 : decode prog_7_method_7_code 179 = .ok (.getfield 112, 3) := by decide +kernel
theorem d_Packer_writeCommand_182 : decode prog_7_method_7_code 182 = .ok (.aload_n 2, 1) := by decide +kernel
theorem d_Packer_writeCommand_183 : decode prog_7_method_7_code 183 = .ok (.iload 7, 2) := by decide +kernel
theorem d_Packer_writeCommand_185 : decode prog_7_method_7_code 185 = .ok (.invokevirtual 158, 3) := by decide +kernel
theorem d_Packer_writeCommand_188 : decode prog_7_method_7_code 188 = .ok (.aload_n 2, 1) := by decide +kernel
theorem d_Packer_writeCommand_189 : decode prog_7_method_7_code 189 = .ok (.aload_n 0, 1) := by decide +kernel
theorem d_Packer_writeCommand_190 : decode prog_7_method_7_code 190 = .ok (.getfield 35, 3) := by decide +kernel
theorem d_Packer_writeCommand_193 : decode prog_7_method_7_code 193 = .ok (.getfield 177, 3) := by decide +kernel
theorem d_Packer_writeCommand_196 : decode prog_7_method_7_code 196 = .ok (.iload 4, 2) := by decide +kernel
theorem d_Packer_writeCommand_198 : decode prog_7_method_7_code 198 = .ok (.iaload, 1) := by decide +kernel
theorem d_Packer_writeCommand_199 : decode prog_7_method_7_code 199 = .ok (.getstatic 179, 3) := by decide +kernel
theorem d_Packer_writeCommand_202 : decode prog_7_method_7_code 202 = .ok (.iload 7, 2) := by decide +kernel
theorem d_Packer_writeCommand_204 : decode prog_7_method_7_code 204 = .ok (.iaload, 1) := by decide +kernel
theorem d_Packer_writeCommand_205 : decode prog_7_method_7_code 205 = .ok (.isub, 1) := by decide +kernel
theorem d_Packer_writeCommand_206 : decode prog_7_method_7_code 206 = .ok (.getstatic 182, 3) := by decide +kernel
theorem d_Packer_writeCommand_209 : decode prog_7_method_7_code 209 = .ok (.iload 7, 2) := by decide +kernel
theorem d_Packer_writeCommand_211 : decode prog_7_method_7_code 211 = .ok (.iaload, 1) := by decide +kernel
theorem d_Packer_writeCommand_212 : decode prog_7_method_7_code 212 = .ok (.invokevirtual 81, 3) := by decide +kernel
theorem d_Packer_writeCommand_215 : decode prog_7_method_7_code 215 = .ok (.return_, 1) := by decide +kernel
