/-! decode rows of RingPacker$Codes -/
theorem d_Codes_init_0 : decode prog_4_method_1_code 0 = .ok (.aload_n 0, 1) := by decide +kernel
theorem d_Codes_init_1 : decode prog_4_method_1_code 1 = .ok (.invokespecial 3, 3) := by decide +kernel
theorem d_Codes_init_4 : decode prog_4_method_1_code 4 = .ok (.aload_n 0, 1) := by decide +kernel
theorem d_Codes_init_5 : decode prog_4_method_1_code 5 = .ok (.new 9, 3) := by decide +kernel
theorem d_Codes_init_8 : decode prog_4_method_1_code 8 = .ok (.dup, 1) := by decide +kernel
theorem d_Codes_init_9 : decode prog_4_method_1_code 9 = .ok (.sipush 256, 3) := by decide +kernel
theorem d_Codes_init_12 : decode prog_4_method_1_code 12 = .ok (.bipush 8, 2) := by decide +kernel
theorem d_Codes_init_14 : decode prog_4_method_1_code 14 = .ok (.invokespecial 11, 3) := by decide +kernel
theorem d_Codes_init_17 : decode prog_4_method_1_code 17 = .ok (.putfield 14, 3) := by decide +kernel
theorem d_Codes_init_20 : decode prog_4_method_1_code 20 = .ok (.aload_n 0, 1) := by decide +kernel
theorem d_Codes_init_21 : decode prog_4_method_1_code 21 = .ok (.new 9, 3) := by decide +kernel
theorem d_Codes_init_24 : decode prog_4_method_1_code 24 = .ok (.dup, 1) := by decide +kernel
theorem d_Codes_init_25 : decode prog_4_method_1_code 25 = .ok (.sipush 256, 3) := by decide +kernel
theorem d_Codes_init_28 : decode prog_4_method_1_code 28 = .ok (.bipush 8, 2) := by decide +kernel
theorem d_Codes_init_30 : decode prog_4_method_1_code 30 = .ok (.invokespecial 11, 3) := by decide +kernel
theorem d_Codes_init_33 : decode prog_4_method_1_code 33 = .ok (.putfield 20, 3) := by decide +kernel
theorem d_Codes_init_36 : decode prog_4_method_1_code 36 = .ok (.aload_n 0, 1) := by decide +kernel
theorem d_Codes_init_37 : decode prog_4_method_1_code 37 = .ok (.new 9, 3) := by decide +kernel
theorem d_Codes_init_40 : decode prog_4_method_1_code 40 = .ok (.dup, 1) := by decide +kernel
theorem d_Codes_init_41 : decode prog_4_method_1_code 41 = .ok (.bipush 32, 2) := by decide +kernel
theorem d_Codes_init_43 : decode prog_4_method_1_code 43 = .ok (.iconst 5, 1) := by decide +kernel
theorem d_Codes_init_44 : decode prog_4_method_1_code 44 = .ok (.invokespecial 11, 3) := by decide +kernel
theorem d_Codes_init_47 : decode prog_4_method_1_code 47 = .ok (.putfield 23, 3) := by decide +kernel
theorem d_Codes_init_50 : decode prog_4_method_1_code 50 = .ok (.aload_n 0, 1) := by decide +kernel
theorem d_Codes_init_51 : decode prog_4_method_1_code 51 = .ok (.new 9, 3) := by decide +kernel
theorem d_Codes_init_54 : decode prog_4_method_1_code 54 = .ok (.dup, 1) := by decide +kernel
theorem d_Codes_init_55 : decode prog_4_method_1_code 55 = .ok (.bipush 14, 2) := by decide +kernel
theorem d_Codes_init_57 : decode prog_4_method_1_code 57 = .ok (.iconst 4, 1) := by decide +kernel
theorem d_Codes_init_58 : decode prog_4_method_1_code 58 = .ok (.invokespecial 11, 3) := by decide +kernel
theorem d_Codes_init_61 : decode prog_4_method_1_code 61 = .ok (.putfield 26, 3) := by decide +kernel
theorem d_Codes_init_64 : decode prog_4_method_1_code 64 = .ok (.return_, 1) := by decide +kernel
theorem d_Codes_literalAt_0 : decode prog_4_method_2_code 0 = .ok (.iload_n 3, 1) := by decide +kernel
theorem d_Codes_literalAt_1 : decode prog_4_method_2_code 1 = .ok (.ifCond .eq 18, 3) := by decide +kernel
theorem d_Codes_literalAt_4 : decode prog_4_method_2_code 4 = .ok (.aload_n 1, 1) := by decide +kernel
theorem d_Codes_literalAt_5 : decode prog_4_method_2_code 5 = .ok (.iload_n 2, 1) := by decide +kernel
theorem d_Codes_literalAt_6 : decode prog_4_method_2_code 6 = .ok (.invokevirtual 29, 3) := by decide +kernel
theorem d_Codes_literalAt_9 : decode prog_4_method_2_code 9 = .ok (.ifCond .eq 10, 3) := by decide +kernel
theorem d_Codes_literalAt_12 : decode prog_4_method_2_code 12 = .ok (.aload_n 0, 1) := by decide +kernel
theorem d_Codes_literalAt_13 : decode prog_4_method_2_code 13 = .ok (.getfield 20, 3) := by decide +kernel
theorem d_Codes_literalAt_16 : decode prog_4_method_2_code 16 = .ok (.goto 7, 3) := by decide +kernel
theorem d_Codes_literalAt_19 : decode prog_4_method_2_code 19 = .ok (.aload_n 0, 1) := by decide +kernel
theorem d_Codes_literalAt_20 : decode prog_4_method_2_code 20 = .ok (.getfield 14, 3) := by decide +kernel
theorem d_Codes_literalAt_23 : decode prog_4_method_2_code 23 = .ok (.areturn, 1) := by decide +kernel
theorem d_Codes_readDescriptions_0 : decode prog_4_method_3_code 0 = .ok (.aload_n 0, 1) := by decide +kernel
theorem d_Codes_readDescriptions_1 : decode prog_4_method_3_code 1 = .ok (.getfield 14, 3) := by decide +kernel
theorem d_Codes_readDescriptions_4 : decode prog_4_method_3_code 4 = .ok (.aload_n 1, 1) := by decide +kernel
theorem d_Codes_readDescriptions_5 : decode prog_4_method_3_code 5 = .ok (.invokevirtual 35, 3) := by decide +kernel
theorem d_Codes_readDescriptions_8 : decode prog_4_method_3_code 8 = .ok (.ifCond .eq 44, 3) := by decide +kernel
theorem d_Codes_readDescriptions_11 : decode prog_4_method_3_code 11 = .ok (.iload_n 2, 1) := by decide +kernel
theorem d_Codes_readDescriptions_12 : decode prog_4_method_3_code 12 = .ok (.ifCond .eq 14, 3) := by decide +kernel
theorem d_Codes_readDescriptions_15 : decode prog_4_method_3_code 15 = .ok (.aload_n 0, 1) := by decide +kernel
theorem d_Codes_readDescriptions_16 : decode prog_4_method_3_code 16 = .ok (.getfield 20, 3) := by decide +kernel
theorem d_Codes_readDescriptions_19 : decode prog_4_method_3_code 19 = .ok (.aload_n 1, 1) := by decide +kernel
theorem d_Codes_readDescriptions_20 : decode prog_4_method_3_code 20 = .ok (.invokevirtual 35, 3) := by decide +kernel
theorem d_Codes_readDescriptions_23 : decode prog_4_method_3_code 23 = .ok (.ifCond .eq 29, 3) := by decide +kernel
theorem d_Codes_readDescriptions_26 : decode prog_4_method_3_code 26 = .ok (.aload_n 0, 1) := by decide +kernel
theorem d_Codes_readDescriptions_27 : decode prog_4_method_3_code 27 = .ok (.getfield 23, 3) := by decide +kernel
theorem d_Codes_readDescriptions_30 : decode prog_4_method_3_code 30 = .ok (.aload_n 1, 1) := by decide +kernel
theorem d_Codes_readDescriptions_31 : decode prog_4_method_3_code 31 = .ok (.invokevirtual 35, 3) := by decide +kernel
theorem d_Codes_readDescriptions_34 : decode prog_4_method_3_code 34 = .ok (.ifCond .eq 18, 3) := by decide +kernel
theorem d_Codes_readDescriptions_37 : decode prog_4_method_3_code 37 = .ok (.aload_n 0, 1) := by decide +kernel
theorem d_Codes_readDescriptions_38 : decode prog_4_method_3_code 38 = .ok (.getfield 26, 3) := by decide +kernel
theorem d_Codes_readDescriptions_41 : decode prog_4_method_3_code 41 = .ok (.aload_n 1, 1) := by decide +kernel
theorem d_Codes_readDescriptions_42 : decode prog_4_method_3_code 42 = .ok (.invokevirtual 35, 3) := by decide +kernel
theorem d_Codes_readDescriptions_45 : decode prog_4_method_3_code 45 = .ok (.ifCond .eq 7, 3) := by decide +kernel
theorem d_Codes_readDescriptions_48 : decode prog_4_method_3_code 48 = .ok (.iconst 1, 1) := by decide +kernel
theorem d_Codes_readDescriptions_49 : decode prog_4_method_3_code 49 = .ok (.goto 4, 3) := by decide +kernel
theorem d_Codes_readDescriptions_52 : decode prog_4_method_3_code 52 = .ok (.iconst 0, 1) := by decide +kernel
theorem d_Codes_readDescriptions_53 : decode prog_4_method_3_code 53 = .ok (.ireturn, 1) := by decide +kernel
theorem d_Codes_forgetTimes_0 : decode prog_4_method_4_code 0 = .ok (.aload_n 0, 1) := by decide +kernel
theorem d_Codes_forgetTimes_1 : decode prog_4_method_4_code 1 = .ok (.getfield 14, 3) := by decide +kernel
theorem d_Codes_forgetTimes_4 : decode prog_4_method_4_code 4 = .ok (.invokevirtual 39, 3) := by decide +kernel
theorem d_Codes_forgetTimes_7 : decode prog_4_method_4_code 7 = .ok (.aload_n 0, 1) := by decide +kernel
theorem d_Codes_forgetTimes_8 : decode prog_4_method_4_code 8 = .ok (.getfield 20, 3) := by decide +kernel
theorem d_Codes_forgetTimes_11 : decode prog_4_method_4_code 11 = .ok (.invokevirtual 39, 3) := by decide +kernel
theorem d_Codes_forgetTimes_14 : decode prog_4_method_4_code 14 = .ok (.aload_n 0, 1) := by decide +kernel
theorem d_Codes_forgetTimes_15 : decode prog_4_method_4_code 15 = .ok (.getfield 23, 3) := by decide +kernel
theorem d_Codes_forgetTimes_18 : decode prog_4_method_4_code 18 = .ok (.invokevirtual 39, 3) := by decide +kernel
theorem d_Codes_forgetTimes_21 : decode prog_4_method_4_code 21 = .ok (.aload_n 0, 1) := by decide +kernel
theorem d_Codes_forgetTimes_22 : decode prog_4_method_4_code 22 = .ok (.getfield 26, 3) := by decide +kernel
theorem d_Codes_forgetTimes_25 : decode prog_4_method_4_code 25 = .ok (.invokevirtual 39, 3) := by decide +kernel
theorem d_Codes_forgetTimes_28 : decode prog_4_method_4_code 28 = .ok (.return_, 1) := by decide +kernel
theorem d_Codes_makeFromTimes_0 : decode prog_4_method_5_code 0 = .ok (.aload_n 0, 1) := by decide +kernel
theorem d_Codes_makeFromTimes_1 : decode prog_4_method_5_code 1 = .ok (.getfield 14, 3) := by decide +kernel
theorem d_Codes_makeFromTimes_4 : decode prog_4_method_5_code 4 = .ok (.invokevirtual 42, 3) := by decide +kernel
theorem d_Codes_makeFromTimes_7 : decode prog_4_method_5_code 7 = .ok (.aload_n 0, 1) := by decide +kernel
theorem d_Codes_makeFromTimes_8 : decode prog_4_method_5_code 8 = .ok (.getfield 20, 3) := by decide +kernel
theorem d_Codes_makeFromTimes_11 : decode prog_4_method_5_code 11 = .ok (.invokevirtual 42, 3) := by decide +kernel
theorem d_Codes_makeFromTimes_14 : decode prog_4_method_5_code 14 = .ok (.aload_n 0, 1) := by decide +kernel
theorem d_Codes_makeFromTimes_15 : decode prog_4_method_5_code 15 = .ok (.getfield 23, 3) := by decide +kernel
theorem d_Codes_makeFromTimes_18 : decode prog_4_method_5_code 18 = .ok (.invokevirtual 42, 3) := by decide +kernel
theorem d_Codes_makeFromTimes_21 : decode prog_4_method_5_code 21 = .ok (.aload_n 0, 1) := by decide +kernel
theorem d_Codes_makeFromTimes_22 : decode prog_4_method_5_code 22 = .ok (.getfield 26, 3) := by decide +kernel
theorem d_Codes_makeFromTimes_25 : decode prog_4_method_5_code 25 = .ok (.invokevirtual 42, 3) := by decide +kernel
theorem d_Codes_makeFromTimes_28 : decode prog_4_method_5_code 28 = .ok (.return_, 1) := by decide +kernel
