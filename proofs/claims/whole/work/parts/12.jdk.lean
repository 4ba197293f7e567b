/-! the JDK's own methods behind String.charAt: names, words, decode rows -/
def Y_Str_charAt : MethodName × ByteArray × Nat × Option FieldType := (⟨"java/lang/String", "charAt", "(I)C"⟩, prog_16_method_56_code, 2, some .char)
theorem v_Str_charAt : Cond.code Y_Str_charAt.1 Y_Str_charAt.2.1 Y_Str_charAt.2.2.1 Y_Str_charAt.2.2.2 ∈ zGW ∧ Cond.instanceMethod Y_Str_charAt.1 ∈ zGW ∧ Cond.selects Y_Str_charAt.1.cls Y_Str_charAt.1 Y_Str_charAt.1 ∈ zGW ∧ Cond.initialized Y_Str_charAt.1.cls ∈ zGW ∧ (Y_Str_charAt.1.cls ≠ "java/lang/invoke/MethodHandle" ∧ Y_Str_charAt.1.cls ≠ "java/lang/invoke/VarHandle" ∧ (parseMethodDescriptor Y_Str_charAt.1.desc).map (fun d => d.parameters.length) = some 1) ∧ plainName Y_Str_charAt.1.cls = true ∧ Y_Str_charAt.2.2.1 ≤ 21 ∧ 1 + 1 ≤ Y_Str_charAt.2.2.1 := ⟨zin 465 (by decide +kernel) (by decide +kernel), zin 463 (by decide +kernel) (by decide +kernel), zin 464 (by decide +kernel) (by decide +kernel), zin 70 (by decide +kernel) (by decide +kernel), ⟨by decide +kernel, by decide +kernel, by decide +kernel⟩, by decide +kernel, by decide, by decide⟩
theorem d_Str_charAt_0 : decode prog_16_method_56_code 0 = .ok (.aload_n 0, 1) := by decide +kernel
theorem d_Str_charAt_1 : decode prog_16_method_56_code 1 = .ok (.invokevirtual 492, 3) := by decide +kernel
theorem d_Str_charAt_4 : decode prog_16_method_56_code 4 = .ok (.ifCond .eq 12, 3) := by decide +kernel
theorem d_Str_charAt_7 : decode prog_16_method_56_code 7 = .ok (.aload_n 0, 1) := by decide +kernel
theorem d_Str_charAt_8 : decode prog_16_method_56_code 8 = .ok (.getfield 9, 3) := by decide +kernel
theorem d_Str_charAt_11 : decode prog_16_method_56_code 11 = .ok (.iload_n 1, 1) := by decide +kernel
theorem d_Str_charAt_12 : decode prog_16_method_56_code 12 = .ok (.invokestatic 495, 3) := by decide +kernel
theorem d_Str_charAt_15 : decode prog_16_method_56_code 15 = .ok (.ireturn, 1) := by decide +kernel
def Y_Str_isLatin1 : MethodName × ByteArray × Nat × Option FieldType := (⟨"java/lang/String", "isLatin1", "()Z"⟩, prog_16_method_154_code, 1, some .boolean)
theorem v_Str_isLatin1 : Cond.code Y_Str_isLatin1.1 Y_Str_isLatin1.2.1 Y_Str_isLatin1.2.2.1 Y_Str_isLatin1.2.2.2 ∈ zGW ∧ Cond.instanceMethod Y_Str_isLatin1.1 ∈ zGW ∧ Cond.selects Y_Str_isLatin1.1.cls Y_Str_isLatin1.1 Y_Str_isLatin1.1 ∈ zGW ∧ Cond.initialized Y_Str_isLatin1.1.cls ∈ zGW ∧ (Y_Str_isLatin1.1.cls ≠ "java/lang/invoke/MethodHandle" ∧ Y_Str_isLatin1.1.cls ≠ "java/lang/invoke/VarHandle" ∧ (parseMethodDescriptor Y_Str_isLatin1.1.desc).map (fun d => d.parameters.length) = some 0) ∧ plainName Y_Str_isLatin1.1.cls = true ∧ Y_Str_isLatin1.2.2.1 ≤ 21 ∧ 0 + 1 ≤ Y_Str_isLatin1.2.2.1 := ⟨zin 469 (by decide +kernel) (by decide +kernel), zin 467 (by decide +kernel) (by decide +kernel), zin 468 (by decide +kernel) (by decide +kernel), zin 70 (by decide +kernel) (by decide +kernel), ⟨by decide +kernel, by decide +kernel, by decide +kernel⟩, by decide +kernel, by decide, by decide⟩
theorem d_Str_isLatin1_0 : decode prog_16_method_154_code 0 = .ok (.getstatic 38, 3) := by decide +kernel
theorem d_Str_isLatin1_3 : decode prog_16_method_154_code 3 = .ok (.ifCond .eq 14, 3) := by decide +kernel
theorem d_Str_isLatin1_6 : decode prog_16_method_154_code 6 = .ok (.aload_n 0, 1) := by decide +kernel
theorem d_Str_isLatin1_7 : decode prog_16_method_154_code 7 = .ok (.getfield 15, 3) := by decide +kernel
theorem d_Str_isLatin1_10 : decode prog_16_method_154_code 10 = .ok (.ifCond .ne 7, 3) := by decide +kernel
theorem d_Str_isLatin1_13 : decode prog_16_method_154_code 13 = .ok (.iconst 1, 1) := by decide +kernel
theorem d_Str_isLatin1_14 : decode prog_16_method_154_code 14 = .ok (.goto 4, 3) := by decide +kernel
theorem d_Str_isLatin1_18 : decode prog_16_method_154_code 18 = .ok (.ireturn, 1) := by decide +kernel
def Y_Lat_charAt : MethodName × ByteArray × Nat × Option FieldType := (⟨"java/lang/StringLatin1", "charAt", "([BI)C"⟩, prog_17_method_2_code, 2, some .char)
theorem v_Lat_charAt : Cond.code Y_Lat_charAt.1 Y_Lat_charAt.2.1 Y_Lat_charAt.2.2.1 Y_Lat_charAt.2.2.2 ∈ zGW ∧ Cond.static Y_Lat_charAt.1 ∈ zGW ∧ Cond.initialized Y_Lat_charAt.1.cls ∈ zGW ∧ (Y_Lat_charAt.1.cls ≠ "java/lang/invoke/MethodHandle" ∧ Y_Lat_charAt.1.cls ≠ "java/lang/invoke/VarHandle" ∧ (parseMethodDescriptor Y_Lat_charAt.1.desc).map (fun d => d.parameters.length) = some 2) ∧ plainName Y_Lat_charAt.1.cls = true ∧ Y_Lat_charAt.2.2.1 ≤ 21 ∧ 2 ≤ Y_Lat_charAt.2.2.1 := ⟨zin 474 (by decide +kernel) (by decide +kernel), zin 473 (by decide +kernel) (by decide +kernel), zin 71 (by decide +kernel) (by decide +kernel), ⟨by decide +kernel, by decide +kernel, by decide +kernel⟩, by decide +kernel, by decide, by decide⟩
theorem d_Lat_charAt_0 : decode prog_17_method_2_code 0 = .ok (.iload_n 1, 1) := by decide +kernel
theorem d_Lat_charAt_1 : decode prog_17_method_2_code 1 = .ok (.aload_n 0, 1) := by decide +kernel
theorem d_Lat_charAt_2 : decode prog_17_method_2_code 2 = .ok (.arraylength, 1) := by decide +kernel
theorem d_Lat_charAt_3 : decode prog_17_method_2_code 3 = .ok (.invokestatic 9, 3) := by decide +kernel
theorem d_Lat_charAt_6 : decode prog_17_method_2_code 6 = .ok (.aload_n 0, 1) := by decide +kernel
theorem d_Lat_charAt_7 : decode prog_17_method_2_code 7 = .ok (.iload_n 1, 1) := by decide +kernel
theorem d_Lat_charAt_8 : decode prog_17_method_2_code 8 = .ok (.baload, 1) := by decide +kernel
theorem d_Lat_charAt_9 : decode prog_17_method_2_code 9 = .ok (.sipush 255, 3) := by decide +kernel
theorem d_Lat_charAt_12 : decode prog_17_method_2_code 12 = .ok (.iand, 1) := by decide +kernel
theorem d_Lat_charAt_13 : decode prog_17_method_2_code 13 = .ok (.i2c, 1) := by decide +kernel
theorem d_Lat_charAt_14 : decode prog_17_method_2_code 14 = .ok (.ireturn, 1) := by decide +kernel
def Y_Str_checkIndex : MethodName × ByteArray × Nat × Option FieldType := (⟨"java/lang/String", "checkIndex", "(II)V"⟩, prog_16_method_155_code, 2, none)
theorem v_Str_checkIndex : Cond.code Y_Str_checkIndex.1 Y_Str_checkIndex.2.1 Y_Str_checkIndex.2.2.1 Y_Str_checkIndex.2.2.2 ∈ zGW ∧ Cond.static Y_Str_checkIndex.1 ∈ zGW ∧ Cond.initialized Y_Str_checkIndex.1.cls ∈ zGW ∧ (Y_Str_checkIndex.1.cls ≠ "java/lang/invoke/MethodHandle" ∧ Y_Str_checkIndex.1.cls ≠ "java/lang/invoke/VarHandle" ∧ (parseMethodDescriptor Y_Str_checkIndex.1.desc).map (fun d => d.parameters.length) = some 2) ∧ plainName Y_Str_checkIndex.1.cls = true ∧ Y_Str_checkIndex.2.2.1 ≤ 21 ∧ 2 ≤ Y_Str_checkIndex.2.2.1 := ⟨zin 477 (by decide +kernel) (by decide +kernel), zin 476 (by decide +kernel) (by decide +kernel), zin 70 (by decide +kernel) (by decide +kernel), ⟨by decide +kernel, by decide +kernel, by decide +kernel⟩, by decide +kernel, by decide, by decide⟩
theorem d_Str_checkIndex_0 : decode prog_16_method_155_code 0 = .ok (.iload_n 0, 1) := by decide +kernel
theorem d_Str_checkIndex_1 : decode prog_16_method_155_code 1 = .ok (.iload_n 1, 1) := by decide +kernel
theorem d_Str_checkIndex_2 : decode prog_16_method_155_code 2 = .ok (.getstatic 1053, 3) := by decide +kernel
theorem d_Str_checkIndex_5 : decode prog_16_method_155_code 5 = .ok (.invokestatic 1059, 3) := by decide +kernel
theorem d_Str_checkIndex_8 : decode prog_16_method_155_code 8 = .ok (.pop, 1) := by decide +kernel
theorem d_Str_checkIndex_9 : decode prog_16_method_155_code 9 = .ok (.return_, 1) := by decide +kernel
def Y_Pre_checkIndex : MethodName × ByteArray × Nat × Option FieldType := (⟨"jdk/internal/util/Preconditions", "checkIndex", "(IILjava/util/function/BiFunction;)I"⟩, prog_20_method_11_code, 3, some .int)
theorem v_Pre_checkIndex : Cond.code Y_Pre_checkIndex.1 Y_Pre_checkIndex.2.1 Y_Pre_checkIndex.2.2.1 Y_Pre_checkIndex.2.2.2 ∈ zGW ∧ Cond.static Y_Pre_checkIndex.1 ∈ zGW ∧ Cond.initialized Y_Pre_checkIndex.1.cls ∈ zGW ∧ (Y_Pre_checkIndex.1.cls ≠ "java/lang/invoke/MethodHandle" ∧ Y_Pre_checkIndex.1.cls ≠ "java/lang/invoke/VarHandle" ∧ (parseMethodDescriptor Y_Pre_checkIndex.1.desc).map (fun d => d.parameters.length) = some 3) ∧ plainName Y_Pre_checkIndex.1.cls = true ∧ Y_Pre_checkIndex.2.2.1 ≤ 21 ∧ 3 ≤ Y_Pre_checkIndex.2.2.1 := ⟨zin 482 (by decide +kernel) (by decide +kernel), zin 481 (by decide +kernel) (by decide +kernel), zin 72 (by decide +kernel) (by decide +kernel), ⟨by decide +kernel, by decide +kernel, by decide +kernel⟩, by decide +kernel, by decide, by decide⟩
theorem d_Pre_checkIndex_0 : decode prog_20_method_11_code 0 = .ok (.iload_n 0, 1) := by decide +kernel
theorem d_Pre_checkIndex_1 : decode prog_20_method_11_code 1 = .ok (.ifCond .lt 8, 3) := by decide +kernel
theorem d_Pre_checkIndex_4 : decode prog_20_method_11_code 4 = .ok (.iload_n 0, 1) := by decide +kernel
theorem d_Pre_checkIndex_5 : decode prog_20_method_11_code 5 = .ok (.iload_n 1, 1) := by decide +kernel
theorem d_Pre_checkIndex_6 : decode prog_20_method_11_code 6 = .ok (.if_icmp .lt 10, 3) := by decide +kernel
theorem d_Pre_checkIndex_16 : decode prog_20_method_11_code 16 = .ok (.iload_n 0, 1) := by decide +kernel
theorem d_Pre_checkIndex_17 : decode prog_20_method_11_code 17 = .ok (.ireturn, 1) := by decide +kernel
theorem gs_charAt : Cond.methodLink "RingPacker$Words" 13 Y_Str_charAt.1 ∈ zGW := zin 462 (by decide +kernel) (by decide +kernel)
theorem gs_lat : Cond.methodLink "java/lang/String" 492 Y_Str_isLatin1.1 ∈ zGW := zin 466 (by decide +kernel) (by decide +kernel)
theorem gs_lch : Cond.methodLink "java/lang/String" 495 Y_Lat_charAt.1 ∈ zGW := zin 472 (by decide +kernel) (by decide +kernel)
theorem gs_chk : Cond.methodLink "java/lang/StringLatin1" 9 Y_Str_checkIndex.1 ∈ zGW := zin 475 (by decide +kernel) (by decide +kernel)
theorem gs_pre : Cond.methodLink "java/lang/String" 1059 Y_Pre_checkIndex.1 ∈ zGW := zin 480 (by decide +kernel) (by decide +kernel)
theorem gs_comp : Cond.fieldLink "java/lang/String" 38 "java/lang/String" "COMPACT_STRINGS" "Z" ∈ zGW := zin 470 (by decide +kernel) (by decide +kernel)
theorem gs_form : Cond.fieldLink "java/lang/String" 1053 "jdk/internal/util/Preconditions" "SIOOBE_FORMATTER" "Ljava/util/function/BiFunction;" ∈ zGW := zin 478 (by decide +kernel) (by decide +kernel)
theorem gs_coder : Cond.fieldLink "java/lang/String" 15 "java/lang/String" "coder" "B" ∈ zGW := zin 1160 (by decide +kernel) (by decide +kernel)
theorem gs_value : Cond.fieldLink "java/lang/String" 9 "java/lang/String" "value" "[B" ∈ zGW := zin 1161 (by decide +kernel) (by decide +kernel)
theorem d_Words_byteOf_S32 : decode prog_12_method_3_code 32 = .ok (.ldc 9, 2) := by decide +kernel
theorem d_Words_byteOf_S37 : decode prog_12_method_3_code 37 = .ok (.ldc 11, 2) := by decide +kernel
