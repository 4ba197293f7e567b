/-! decode rows of RingPacker$Counts -/
theorem d_Counts_init_0 : decode prog_5_method_1_code 0 = .ok (.aload_n 0, 1) := by decide +kernel
theorem d_Counts_init_1 : decode prog_5_method_1_code 1 = .ok (.invokespecial 1, 3) := by decide +kernel
theorem d_Counts_init_4 : decode prog_5_method_1_code 4 = .ok (.return_, 1) := by decide +kernel
theorem d_Counts_reset_0 : decode prog_5_method_2_code 0 = .ok (.aload_n 0, 1) := by decide +kernel
theorem d_Counts_reset_1 : decode prog_5_method_2_code 1 = .ok (.iconst 0, 1) := by decide +kernel
theorem d_Counts_reset_2 : decode prog_5_method_2_code 2 = .ok (.putfield 7, 3) := by decide +kernel
theorem d_Counts_reset_5 : decode prog_5_method_2_code 5 = .ok (.aload_n 0, 1) := by decide +kernel
theorem d_Counts_reset_6 : decode prog_5_method_2_code 6 = .ok (.iconst 0, 1) := by decide +kernel
theorem d_Counts_reset_7 : decode prog_5_method_2_code 7 = .ok (.putfield 13, 3) := by decide +kernel
theorem d_Counts_reset_10 : decode prog_5_method_2_code 10 = .ok (.aload_n 0, 1) := by decide +kernel
theorem d_Counts_reset_11 : decode prog_5_method_2_code 11 = .ok (.iconst 0, 1) := by decide +kernel
theorem d_Counts_reset_12 : decode prog_5_method_2_code 12 = .ok (.putfield 16, 3) := by decide +kernel
theorem d_Counts_reset_15 : decode prog_5_method_2_code 15 = .ok (.aload_n 0, 1) := by decide +kernel
theorem d_Counts_reset_16 : decode prog_5_method_2_code 16 = .ok (.iconst 0, 1) := by decide +kernel
theorem d_Counts_reset_17 : decode prog_5_method_2_code 17 = .ok (.putfield 19, 3) := by decide +kernel
theorem d_Counts_reset_20 : decode prog_5_method_2_code 20 = .ok (.return_, 1) := by decide +kernel
theorem d_Counts_become_0 : decode prog_5_method_3_code 0 = .ok (.aload_n 0, 1) := by decide +kernel
theorem d_Counts_become_1 : decode prog_5_method_3_code 1 = .ok (.aload_n 1, 1) := by decide +kernel
theorem d_Counts_become_2 : decode prog_5_method_3_code 2 = .ok (.getfield 7, 3) := by decide +kernel
theorem d_Counts_become_5 : decode prog_5_method_3_code 5 = .ok (.putfield 7, 3) := by decide +kernel
theorem d_Counts_become_8 : decode prog_5_method_3_code 8 = .ok (.aload_n 0, 1) := by decide +kernel
theorem d_Counts_become_9 : decode prog_5_method_3_code 9 = .ok (.aload_n 1, 1) := by decide +kernel
theorem d_Counts_become_10 : decode prog_5_method_3_code 10 = .ok (.getfield 13, 3) := by decide +kernel
theorem d_Counts_become_13 : decode prog_5_method_3_code 13 = .ok (.putfield 13, 3) := by decide +kernel
theorem d_Counts_become_16 : decode prog_5_method_3_code 16 = .ok (.aload_n 0, 1) := by decide +kernel
theorem d_Counts_become_17 : decode prog_5_method_3_code 17 = .ok (.aload_n 1, 1) := by decide +kernel
theorem d_Counts_become_18 : decode prog_5_method_3_code 18 = .ok (.getfield 16, 3) := by decide +kernel
theorem d_Counts_become_21 : decode prog_5_method_3_code 21 = .ok (.putfield 16, 3) := by decide +kernel
theorem d_Counts_become_24 : decode prog_5_method_3_code 24 = .ok (.aload_n 0, 1) := by decide +kernel
theorem d_Counts_become_25 : decode prog_5_method_3_code 25 = .ok (.aload_n 1, 1) := by decide +kernel
theorem d_Counts_become_26 : decode prog_5_method_3_code 26 = .ok (.getfield 19, 3) := by decide +kernel
theorem d_Counts_become_29 : decode prog_5_method_3_code 29 = .ok (.putfield 19, 3) := by decide +kernel
theorem d_Counts_become_32 : decode prog_5_method_3_code 32 = .ok (.return_, 1) := by decide +kernel
theorem d_Counts_addBlock_0 : decode prog_5_method_4_code 0 = .ok (.aload_n 0, 1) := by decide +kernel
theorem d_Counts_addBlock_1 : decode prog_5_method_4_code 1 = .ok (.dup, 1) := by decide +kernel
theorem d_Counts_addBlock_2 : decode prog_5_method_4_code 2 = .ok (.getfield 7, 3) := by decide +kernel
theorem d_Counts_addBlock_5 : decode prog_5_method_4_code 5 = .ok (.iconst 1, 1) := by decide +kernel
theorem d_Counts_addBlock_6 : decode prog_5_method_4_code 6 = .ok (.iadd, 1) := by decide +kernel
theorem d_Counts_addBlock_7 : decode prog_5_method_4_code 7 = .ok (.putfield 7, 3) := by decide +kernel
theorem d_Counts_addBlock_10 : decode prog_5_method_4_code 10 = .ok (.aload_n 0, 1) := by decide +kernel
theorem d_Counts_addBlock_11 : decode prog_5_method_4_code 11 = .ok (.dup, 1) := by decide +kernel
theorem d_Counts_addBlock_12 : decode prog_5_method_4_code 12 = .ok (.getfield 13, 3) := by decide +kernel
theorem d_Counts_addBlock_15 : decode prog_5_method_4_code 15 = .ok (.aload_n 1, 1) := by decide +kernel
theorem d_Counts_addBlock_16 : decode prog_5_method_4_code 16 = .ok (.getfield 22, 3) := by decide +kernel
theorem d_Counts_addBlock_19 : decode prog_5_method_4_code 19 = .ok (.iadd, 1) := by decide +kernel
theorem d_Counts_addBlock_20 : decode prog_5_method_4_code 20 = .ok (.putfield 13, 3) := by decide +kernel
theorem d_Counts_addBlock_23 : decode prog_5_method_4_code 23 = .ok (.aload_n 0, 1) := by decide +kernel
theorem d_Counts_addBlock_24 : decode prog_5_method_4_code 24 = .ok (.dup, 1) := by decide +kernel
theorem d_Counts_addBlock_25 : decode prog_5_method_4_code 25 = .ok (.getfield 16, 3) := by decide +kernel
theorem d_Counts_addBlock_28 : decode prog_5_method_4_code 28 = .ok (.aload_n 1, 1) := by decide +kernel
theorem d_Counts_addBlock_29 : decode prog_5_method_4_code 29 = .ok (.getfield 27, 3) := by decide +kernel
theorem d_Counts_addBlock_32 : decode prog_5_method_4_code 32 = .ok (.iadd, 1) := by decide +kernel
theorem d_Counts_addBlock_33 : decode prog_5_method_4_code 33 = .ok (.putfield 16, 3) := by decide +kernel
theorem d_Counts_addBlock_36 : decode prog_5_method_4_code 36 = .ok (.aload_n 0, 1) := by decide +kernel
theorem d_Counts_addBlock_37 : decode prog_5_method_4_code 37 = .ok (.dup, 1) := by decide +kernel
theorem d_Counts_addBlock_38 : decode prog_5_method_4_code 38 = .ok (.getfield 19, 3) := by decide +kernel
theorem d_Counts_addBlock_41 : decode prog_5_method_4_code 41 = .ok (.aload_n 1, 1) := by decide +kernel
theorem d_Counts_addBlock_42 : decode prog_5_method_4_code 42 = .ok (.getfield 30, 3) := by decide +kernel
theorem d_Counts_addBlock_45 : decode prog_5_method_4_code 45 = .ok (.iadd, 1) := by decide +kernel
theorem d_Counts_addBlock_46 : decode prog_5_method_4_code 46 = .ok (.putfield 19, 3) := by decide +kernel
theorem d_Counts_addBlock_49 : decode prog_5_method_4_code 49 = .ok (.return_, 1) := by decide +kernel
