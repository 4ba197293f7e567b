/-! decode rows of RingPacker$Finder -/
theorem d_Finder_init_0 : decode prog_6_method_1_code 0 = .ok (.aload_n 0, 1) := by decide +kernel
theorem d_Finder_init_1 : decode prog_6_method_1_code 1 = .ok (.invokespecial 3, 3) := by decide +kernel
theorem d_Finder_init_4 : decode prog_6_method_1_code 4 = .ok (.return_, 1) := by decide +kernel
theorem d_Finder_findCopy_0 : decode prog_6_method_2_code 0 = .ok (.bipush 57, 2) := by decide +kernel
theorem d_Finder_findCopy_2 : decode prog_6_method_2_code 2 = .ok (.iload_n 3, 1) := by decide +kernel
theorem d_Finder_findCopy_3 : decode prog_6_method_2_code 3 = .ok (.iload_n 2, 1) := by decide +kernel
theorem d_Finder_findCopy_4 : decode prog_6_method_2_code 4 = .ok (.isub, 1) := by decide +kernel
theorem d_Finder_findCopy_5 : decode prog_6_method_2_code 5 = .ok (.invokestatic 9, 3) := by decide +kernel
theorem d_Finder_findCopy_8 : decode prog_6_method_2_code 8 = .ok (.istore 4, 2) := by decide +kernel
theorem d_Finder_findCopy_10 : decode prog_6_method_2_code 10 = .ok (.aload_n 0, 1) := by decide +kernel
theorem d_Finder_findCopy_11 : decode prog_6_method_2_code 11 = .ok (.iconst 0, 1) := by decide +kernel
theorem d_Finder_findCopy_12 : decode prog_6_method_2_code 12 = .ok (.putfield 15, 3) := by decide +kernel
theorem d_Finder_findCopy_15 : decode prog_6_method_2_code 15 = .ok (.aload_n 0, 1) := by decide +kernel
theorem d_Finder_findCopy_16 : decode prog_6_method_2_code 16 = .ok (.iconst 0, 1) := by decide +kernel
theorem d_Finder_findCopy_17 : decode prog_6_method_2_code 17 = .ok (.putfield 21, 3) := by decide +kernel
theorem d_Finder_findCopy_20 : decode prog_6_method_2_code 20 = .ok (.iconst 1, 1) := by decide +kernel
theorem d_Finder_findCopy_21 : decode prog_6_method_2_code 21 = .ok (.istore 5, 2) := by decide +kernel
theorem d_Finder_findCopy_23 : decode prog_6_method_2_code 23 = .ok (.iload 5, 2) := by decide +kernel
theorem d_Finder_findCopy_25 : decode prog_6_method_2_code 25 = .ok (.iload_n 2, 1) := by decide +kernel
theorem d_Finder_findCopy_26 : decode prog_6_method_2_code 26 = .ok (.if_icmp .gt 52, 3) := by decide +kernel
theorem d_Finder_findCopy_29 : decode prog_6_method_2_code 29 = .ok (.aload_n 0, 1) := by decide +kernel
theorem d_Finder_findCopy_30 : decode prog_6_method_2_code 30 = .ok (.getfield 15, 3) := by decide +kernel
theorem d_Finder_findCopy_33 : decode prog_6_method_2_code 33 = .ok (.iload 4, 2) := by decide +kernel
theorem d_Finder_findCopy_35 : decode prog_6_method_2_code 35 = .ok (.if_icmp .ge 43, 3) := by decide +kernel
theorem d_Finder_findCopy_38 : decode prog_6_method_2_code 38 = .ok (.aload_n 1, 1) := by decide +kernel
theorem d_Finder_findCopy_39 : decode prog_6_method_2_code 39 = .ok (.iload_n 2, 1) := by decide +kernel
theorem d_Finder_findCopy_40 : decode prog_6_method_2_code 40 = .ok (.iload 5, 2) := by decide +kernel
theorem d_Finder_findCopy_42 : decode prog_6_method_2_code 42 = .ok (.isub, 1) := by decide +kernel
theorem d_Finder_findCopy_43 : decode prog_6_method_2_code 43 = .ok (.iload_n 2, 1) := by decide +kernel
theorem d_Finder_findCopy_44 : decode prog_6_method_2_code 44 = .ok (.iload 4, 2) := by decide +kernel
theorem d_Finder_findCopy_46 : decode prog_6_method_2_code 46 = .ok (.invokevirtual 24, 3) := by decide +kernel
theorem d_Finder_findCopy_49 : decode prog_6_method_2_code 49 = .ok (.istore 6, 2) := by decide +kernel
theorem d_Finder_findCopy_51 : decode prog_6_method_2_code 51 = .ok (.iload 6, 2) := by decide +kernel
theorem d_Finder_findCopy_53 : decode prog_6_method_2_code 53 = .ok (.aload_n 0, 1) := by decide +kernel
theorem d_Finder_findCopy_54 : decode prog_6_method_2_code 54 = .ok (.getfield 15, 3) := by decide +kernel
theorem d_Finder_findCopy_57 : decode prog_6_method_2_code 57 = .ok (.if_icmp .le 15, 3) := by decide +kernel
theorem d_Finder_findCopy_60 : decode prog_6_method_2_code 60 = .ok (.aload_n 0, 1) := by decide +kernel
theorem d_Finder_findCopy_61 : decode prog_6_method_2_code 61 = .ok (.iload 6, 2) := by decide +kernel
theorem d_Finder_findCopy_63 : decode prog_6_method_2_code 63 = .ok (.putfield 15, 3) := by decide +kernel
theorem d_Finder_findCopy_66 : decode prog_6_method_2_code 66 = .ok (.aload_n 0, 1) := by decide +kernel
theorem d_Finder_findCopy_67 : decode prog_6_method_2_code 67 = .ok (.iload 5, 2) := by decide +kernel
theorem d_Finder_findCopy_69 : decode prog_6_method_2_code 69 = .ok (.putfield 21, 3) := by decide +kernel
theorem d_Finder_findCopy_72 : decode prog_6_method_2_code 72 = .ok (.iinc 5 1, 3) := by decide +kernel
theorem d_Finder_findCopy_75 : decode prog_6_method_2_code 75 = .ok (.goto (-52), 3) := by decide +kernel
theorem d_Finder_findCopy_78 : decode prog_6_method_2_code 78 = .ok (.return_, 1) := by decide +kernel
theorem d_Finder_findWord_0 : decode prog_6_method_3_code 0 = .ok (.aload_n 0, 1) := by decide +kernel
theorem d_Finder_findWord_1 : decode prog_6_method_3_code 1 = .ok (.iconst 0, 1) := by decide +kernel
theorem d_Finder_findWord_2 : decode prog_6_method_3_code 2 = .ok (.putfield 30, 3) := by decide +kernel
theorem d_Finder_findWord_5 : decode prog_6_method_3_code 5 = .ok (.aload_n 0, 1) := by decide +kernel
theorem d_Finder_findWord_6 : decode prog_6_method_3_code 6 = .ok (.iconst 0, 1) := by decide +kernel
theorem d_Finder_findWord_7 : decode prog_6_method_3_code 7 = .ok (.putfield 33, 3) := by decide +kernel
theorem d_Finder_findWord_10 : decode prog_6_method_3_code 10 = .ok (.aload_n 0, 1) := by decide +kernel
theorem d_Finder_findWord_11 : decode prog_6_method_3_code 11 = .ok (.iconst 0, 1) := by decide +kernel
theorem d_Finder_findWord_12 : decode prog_6_method_3_code 12 = .ok (.putfield 36, 3) := by decide +kernel
theorem d_Finder_findWord_15 : decode prog_6_method_3_code 15 = .ok (.iconst 4, 1) := by decide +kernel
theorem d_Finder_findWord_16 : decode prog_6_method_3_code 16 = .ok (.istore 4, 2) := by decide +kernel
theorem d_Finder_findWord_18 : decode prog_6_method_3_code 18 = .ok (.iload 4, 2) := by decide +kernel
theorem d_Finder_findWord_20 : decode prog_6_method_3_code 20 = .ok (.iconst 5, 1) := by decide +kernel
theorem d_Finder_findWord_21 : decode prog_6_method_3_code 21 = .ok (.if_icmp .gt 81, 3) := by decide +kernel
theorem d_Finder_findWord_24 : decode prog_6_method_3_code 24 = .ok (.iconst 0, 1) := by decide +kernel
theorem d_Finder_findWord_25 : decode prog_6_method_3_code 25 = .ok (.istore 5, 2) := by decide +kernel
theorem d_Finder_findWord_27 : decode prog_6_method_3_code 27 = .ok (.iload 5, 2) := by decide +kernel
theorem d_Finder_findWord_29 : decode prog_6_method_3_code 29 = .ok (.bipush 16, 2) := by decide +kernel
theorem d_Finder_findWord_31 : decode prog_6_method_3_code 31 = .ok (.if_icmp .ge 65, 3) := by decide +kernel
theorem d_Finder_findWord_34 : decode prog_6_method_3_code 34 = .ok (.iload 4, 2) := by decide +kernel
theorem d_Finder_findWord_36 : decode prog_6_method_3_code 36 = .ok (.iload 5, 2) := by decide +kernel
theorem d_Finder_findWord_38 : decode prog_6_method_3_code 38 = .ok (.invokestatic 39, 3) := by decide +kernel
theorem d_Finder_findWord_41 : decode prog_6_method_3_code 41 = .ok (.istore 6, 2) := by decide +kernel
theorem d_Finder_findWord_43 : decode prog_6_method_3_code 43 = .ok (.iload 6, 2) := by decide +kernel
theorem d_Finder_findWord_45 : decode prog_6_method_3_code 45 = .ok (.aload_n 0, 1) := by decide +kernel
theorem d_Finder_findWord_46 : decode prog_6_method_3_code 46 = .ok (.getfield 30, 3) := by decide +kernel
theorem d_Finder_findWord_49 : decode prog_6_method_3_code 49 = .ok (.if_icmp .le 41, 3) := by decide +kernel
theorem d_Finder_findWord_52 : decode prog_6_method_3_code 52 = .ok (.iload 6, 2) := by decide +kernel
theorem d_Finder_findWord_54 : decode prog_6_method_3_code 54 = .ok (.iload_n 3, 1) := by decide +kernel
theorem d_Finder_findWord_55 : decode prog_6_method_3_code 55 = .ok (.iload_n 2, 1) := by decide +kernel
theorem d_Finder_findWord_56 : decode prog_6_method_3_code 56 = .ok (.isub, 1) := by decide +kernel
theorem d_Finder_findWord_57 : decode prog_6_method_3_code 57 = .ok (.if_icmp .gt 33, 3) := by decide +kernel
theorem d_Finder_findWord_60 : decode prog_6_method_3_code 60 = .ok (.aload_n 1, 1) := by decide +kernel
theorem d_Finder_findWord_61 : decode prog_6_method_3_code 61 = .ok (.iload_n 2, 1) := by decide +kernel
theorem d_Finder_findWord_62 : decode prog_6_method_3_code 62 = .ok (.iload 4, 2) := by decide +kernel
theorem d_Finder_findWord_64 : decode prog_6_method_3_code 64 = .ok (.iload 5, 2) := by decide +kernel
theorem d_Finder_findWord_66 : decode prog_6_method_3_code 66 = .ok (.invokestatic 44, 3) := by decide +kernel
theorem d_Finder_findWord_69 : decode prog_6_method_3_code 69 = .ok (.ifCond .eq 21, 3) := by decide +kernel
theorem d_Finder_findWord_72 : decode prog_6_method_3_code 72 = .ok (.aload_n 0, 1) := by decide +kernel
theorem d_Finder_findWord_73 : decode prog_6_method_3_code 73 = .ok (.iload 6, 2) := by decide +kernel
theorem d_Finder_findWord_75 : decode prog_6_method_3_code 75 = .ok (.putfield 30, 3) := by decide +kernel
theorem d_Finder_findWord_78 : decode prog_6_method_3_code 78 = .ok (.aload_n 0, 1) := by decide +kernel
theorem d_Finder_findWord_79 : decode prog_6_method_3_code 79 = .ok (.iload 4, 2) := by decide +kernel
theorem d_Finder_findWord_81 : decode prog_6_method_3_code 81 = .ok (.putfield 33, 3) := by decide +kernel
theorem d_Finder_findWord_84 : decode prog_6_method_3_code 84 = .ok (.aload_n 0, 1) := by decide +kernel
theorem d_Finder_findWord_85 : decode prog_6_method_3_code 85 = .ok (.iload 5, 2) := by decide +kernel
theorem d_Finder_findWord_87 : decode prog_6_method_3_code 87 = .ok (.putfield 36, 3) := by decide +kernel
theorem d_Finder_findWord_90 : decode prog_6_method_3_code 90 = .ok (.iinc 5 1, 3) := by decide +kernel
theorem d_Finder_findWord_93 : decode prog_6_method_3_code 93 = .ok (.goto (-66), 3) := by decide +kernel
theorem d_Finder_findWord_96 : decode prog_6_method_3_code 96 = .ok (.iinc 4 1, 3) := by decide +kernel
theorem d_Finder_findWord_99 : decode prog_6_method_3_code 99 = .ok (.goto (-81), 3) := by decide +kernel
theorem d_Finder_findWord_102 : decode prog_6_method_3_code 102 = .ok (.return_, 1) := by decide +kernel
theorem d_Finder_isWord_0 : decode prog_6_method_4_code 0 = .ok (.aload_n 0, 1) := by decide +kernel
theorem d_Finder_isWord_1 : decode prog_6_method_4_code 1 = .ok (.getfield 30, 3) := by decide +kernel
theorem d_Finder_isWord_4 : decode prog_6_method_4_code 4 = .ok (.iconst 4, 1) := by decide +kernel
theorem d_Finder_isWord_5 : decode prog_6_method_4_code 5 = .ok (.if_icmp .lt 18, 3) := by decide +kernel
theorem d_Finder_isWord_8 : decode prog_6_method_4_code 8 = .ok (.aload_n 0, 1) := by decide +kernel
theorem d_Finder_isWord_9 : decode prog_6_method_4_code 9 = .ok (.getfield 30, 3) := by decide +kernel
theorem d_Finder_isWord_12 : decode prog_6_method_4_code 12 = .ok (.aload_n 0, 1) := by decide +kernel
theorem d_Finder_isWord_13 : decode prog_6_method_4_code 13 = .ok (.getfield 15, 3) := by decide +kernel
theorem d_Finder_isWord_16 : decode prog_6_method_4_code 16 = .ok (.if_icmp .le 7, 3) := by decide +kernel
theorem d_Finder_isWord_19 : decode prog_6_method_4_code 19 = .ok (.iconst 1, 1) := by decide +kernel
theorem d_Finder_isWord_20 : decode prog_6_method_4_code 20 = .ok (.goto 4, 3) := by decide +kernel
theorem d_Finder_isWord_23 : decode prog_6_method_4_code 23 = .ok (.iconst 0, 1) := by decide +kernel
theorem d_Finder_isWord_24 : decode prog_6_method_4_code 24 = .ok (.ireturn, 1) := by decide +kernel
theorem d_Finder_isCopy_0 : decode prog_6_method_5_code 0 = .ok (.aload_n 0, 1) := by decide +kernel
theorem d_Finder_isCopy_1 : decode prog_6_method_5_code 1 = .ok (.getfield 15, 3) := by decide +kernel
theorem d_Finder_isCopy_4 : decode prog_6_method_5_code 4 = .ok (.iconst 3, 1) := by decide +kernel
theorem d_Finder_isCopy_5 : decode prog_6_method_5_code 5 = .ok (.if_icmp .lt 7, 3) := by decide +kernel
theorem d_Finder_isCopy_8 : decode prog_6_method_5_code 8 = .ok (.iconst 1, 1) := by decide +kernel
theorem d_Finder_isCopy_9 : decode prog_6_method_5_code 9 = .ok (.goto 4, 3) := by decide +kernel
theorem d_Finder_isCopy_12 : decode prog_6_method_5_code 12 = .ok (.iconst 0, 1) := by decide +kernel
theorem d_Finder_isCopy_13 : decode prog_6_method_5_code 13 = .ok (.ireturn, 1) := by decide +kernel
