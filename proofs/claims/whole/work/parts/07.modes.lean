theorem wm_346 : Cond.constant "java/lang/Integer" 265 1431655765 ∈ w_all := w_mem 346 (by decide +kernel) (by decide +kernel)
theorem wm_347 : Cond.constant "java/lang/Integer" 266 858993459 ∈ w_all := w_mem 347 (by decide +kernel) (by decide +kernel)
theorem wm_348 : Cond.constant "java/lang/Integer" 267 252645135 ∈ w_all := w_mem 348 (by decide +kernel) (by decide +kernel)
theorem wm_341 : Cond.fieldLink "LockTable$Modes" 9 "LockTable$Modes" "TOGETHER" "[I" ∈ w_all := w_mem 341 (by decide +kernel) (by decide +kernel)
theorem wm_345 : Cond.code ⟨"java/lang/Integer", "bitCount", "(I)I"⟩ prog_10_method_49_code 1 (some .int) ∈ w_all := w_mem 345 (by decide +kernel) (by decide +kernel)
theorem wm_343 : Cond.methodLink "LockTable$Modes" 15 ⟨"java/lang/Integer", "bitCount", "(I)I"⟩ ∈ w_all := w_mem 343 (by decide +kernel) (by decide +kernel)
theorem wm_344 : Cond.static ⟨"java/lang/Integer", "bitCount", "(I)I"⟩ ∈ w_all := w_mem 344 (by decide +kernel) (by decide +kernel)
theorem wm_57 : Cond.initialized "java/lang/Integer" ∈ w_all := w_mem 57 (by decide +kernel) (by decide +kernel)
theorem wm_340 : Cond.code ⟨"LockTable$Modes", "joined", "(II)I"⟩ prog_3_method_3_code 6 (some .int) ∈ w_all := w_mem 340 (by decide +kernel) (by decide +kernel)
theorem wm_338 : Cond.methodLink "LockTable$Modes" 21 ⟨"LockTable$Modes", "joined", "(II)I"⟩ ∈ w_all := w_mem 338 (by decide +kernel) (by decide +kernel)
theorem wm_339 : Cond.static ⟨"LockTable$Modes", "joined", "(II)I"⟩ ∈ w_all := w_mem 339 (by decide +kernel) (by decide +kernel)
theorem wm_56 : Cond.initialized "LockTable$Modes" ∈ w_all := w_mem 56 (by decide +kernel) (by decide +kernel)
theorem wm_480 : Cond.fieldLink "LockTable$Modes" 25 "LockTable$Modes" "BY_TABLE" "[I" ∈ w_all := w_mem 480 (by decide +kernel) (by decide +kernel)
theorem wm_489 : Cond.fieldLink "LockTable$Modes" 28 "LockTable$Modes" "BY_RANGE" "[I" ∈ w_all := w_mem 489 (by decide +kernel) (by decide +kernel)
abbrev y_JI_bitCount : MethodName := ⟨"java/lang/Integer", "bitCount", "(I)I"⟩
theorem hd_JI_bitCount : y_JI_bitCount.cls ≠ "java/lang/invoke/MethodHandle" ∧ y_JI_bitCount.cls ≠ "java/lang/invoke/VarHandle" ∧ (parseMethodDescriptor y_JI_bitCount.desc).map (fun d => d.parameters.length) = some 1 := ⟨by decide, by decide, by decide +kernel⟩
abbrev y_K_goTogether : MethodName := ⟨"LockTable$Modes", "goTogether", "(II)Z"⟩
theorem hd_K_goTogether : y_K_goTogether.cls ≠ "java/lang/invoke/MethodHandle" ∧ y_K_goTogether.cls ≠ "java/lang/invoke/VarHandle" ∧ (parseMethodDescriptor y_K_goTogether.desc).map (fun d => d.parameters.length) = some 2 := ⟨by decide, by decide, by decide +kernel⟩
abbrev y_K_joined : MethodName := ⟨"LockTable$Modes", "joined", "(II)I"⟩
theorem hd_K_joined : y_K_joined.cls ≠ "java/lang/invoke/MethodHandle" ∧ y_K_joined.cls ≠ "java/lang/invoke/VarHandle" ∧ (parseMethodDescriptor y_K_joined.desc).map (fun d => d.parameters.length) = some 2 := ⟨by decide, by decide, by decide +kernel⟩
abbrev y_K_strengthened : MethodName := ⟨"LockTable$Modes", "strengthened", "(II)I"⟩
theorem hd_K_strengthened : y_K_strengthened.cls ≠ "java/lang/invoke/MethodHandle" ∧ y_K_strengthened.cls ≠ "java/lang/invoke/VarHandle" ∧ (parseMethodDescriptor y_K_strengthened.desc).map (fun d => d.parameters.length) = some 2 := ⟨by decide, by decide, by decide +kernel⟩
abbrev y_K_tableCovers : MethodName := ⟨"LockTable$Modes", "tableCovers", "(II)Z"⟩
theorem hd_K_tableCovers : y_K_tableCovers.cls ≠ "java/lang/invoke/MethodHandle" ∧ y_K_tableCovers.cls ≠ "java/lang/invoke/VarHandle" ∧ (parseMethodDescriptor y_K_tableCovers.desc).map (fun d => d.parameters.length) = some 2 := ⟨by decide, by decide, by decide +kernel⟩
abbrev y_K_rangeCovers : MethodName := ⟨"LockTable$Modes", "rangeCovers", "(II)Z"⟩
theorem hd_K_rangeCovers : y_K_rangeCovers.cls ≠ "java/lang/invoke/MethodHandle" ∧ y_K_rangeCovers.cls ≠ "java/lang/invoke/VarHandle" ∧ (parseMethodDescriptor y_K_rangeCovers.desc).map (fun d => d.parameters.length) = some 2 := ⟨by decide, by decide, by decide +kernel⟩
abbrev y_K_allowsRange : MethodName := ⟨"LockTable$Modes", "allowsRange", "(II)Z"⟩
theorem hd_K_allowsRange : y_K_allowsRange.cls ≠ "java/lang/invoke/MethodHandle" ∧ y_K_allowsRange.cls ≠ "java/lang/invoke/VarHandle" ∧ (parseMethodDescriptor y_K_allowsRange.desc).map (fun d => d.parameters.length) = some 2 := ⟨by decide, by decide, by decide +kernel⟩
abbrev y_K_isReading : MethodName := ⟨"LockTable$Modes", "isReading", "(I)Z"⟩
theorem hd_K_isReading : y_K_isReading.cls ≠ "java/lang/invoke/MethodHandle" ∧ y_K_isReading.cls ≠ "java/lang/invoke/VarHandle" ∧ (parseMethodDescriptor y_K_isReading.desc).map (fun d => d.parameters.length) = some 1 := ⟨by decide, by decide, by decide +kernel⟩
theorem d_JI_bitCount_0 : decode prog_10_method_49_code 0 = .ok (.iload_n 0, 1) := by decide +kernel
theorem d_JI_bitCount_1 : decode prog_10_method_49_code 1 = .ok (.iload_n 0, 1) := by decide +kernel
theorem d_JI_bitCount_2 : decode prog_10_method_49_code 2 = .ok (.iconst 1, 1) := by decide +kernel
theorem d_JI_bitCount_3 : decode prog_10_method_49_code 3 = .ok (.iushr, 1) := by decide +kernel
theorem d_JI_bitCount_4 : decode prog_10_method_49_code 4 = .ok (.ldc_w 265, 3) := by decide +kernel
theorem d_JI_bitCount_7 : decode prog_10_method_49_code 7 = .ok (.iand, 1) := by decide +kernel
theorem d_JI_bitCount_8 : decode prog_10_method_49_code 8 = .ok (.isub, 1) := by decide +kernel
theorem d_JI_bitCount_9 : decode prog_10_method_49_code 9 = .ok (.istore_n 0, 1) := by decide +kernel
theorem d_JI_bitCount_10 : decode prog_10_method_49_code 10 = .ok (.iload_n 0, 1) := by decide +kernel
theorem d_JI_bitCount_11 : decode prog_10_method_49_code 11 = .ok (.ldc_w 266, 3) := by decide +kernel
theorem d_JI_bitCount_14 : decode prog_10_method_49_code 14 = .ok (.iand, 1) := by decide +kernel
theorem d_JI_bitCount_15 : decode prog_10_method_49_code 15 = .ok (.iload_n 0, 1) := by decide +kernel
theorem d_JI_bitCount_16 : decode prog_10_method_49_code 16 = .ok (.iconst 2, 1) := by decide +kernel
theorem d_JI_bitCount_17 : decode prog_10_method_49_code 17 = .ok (.iushr, 1) := by decide +kernel
theorem d_JI_bitCount_18 : decode prog_10_method_49_code 18 = .ok (.ldc_w 266, 3) := by decide +kernel
theorem d_JI_bitCount_21 : decode prog_10_method_49_code 21 = .ok (.iand, 1) := by decide +kernel
theorem d_JI_bitCount_22 : decode prog_10_method_49_code 22 = .ok (.iadd, 1) := by decide +kernel
theorem d_JI_bitCount_23 : decode prog_10_method_49_code 23 = .ok (.istore_n 0, 1) := by decide +kernel
theorem d_JI_bitCount_24 : decode prog_10_method_49_code 24 = .ok (.iload_n 0, 1) := by decide +kernel
theorem d_JI_bitCount_25 : decode prog_10_method_49_code 25 = .ok (.iload_n 0, 1) := by decide +kernel
theorem d_JI_bitCount_26 : decode prog_10_method_49_code 26 = .ok (.iconst 4, 1) := by decide +kernel
theorem d_JI_bitCount_27 : decode prog_10_method_49_code 27 = .ok (.iushr, 1) := by decide +kernel
theorem d_JI_bitCount_28 : decode prog_10_method_49_code 28 = .ok (.iadd, 1) := by decide +kernel
theorem d_JI_bitCount_29 : decode prog_10_method_49_code 29 = .ok (.ldc_w 267, 3) := by decide +kernel
theorem d_JI_bitCount_32 : decode prog_10_method_49_code 32 = .ok (.iand, 1) := by decide +kernel
theorem d_JI_bitCount_33 : decode prog_10_method_49_code 33 = .ok (.istore_n 0, 1) := by decide +kernel
theorem d_JI_bitCount_34 : decode prog_10_method_49_code 34 = .ok (.iload_n 0, 1) := by decide +kernel
theorem d_JI_bitCount_35 : decode prog_10_method_49_code 35 = .ok (.iload_n 0, 1) := by decide +kernel
theorem d_JI_bitCount_36 : decode prog_10_method_49_code 36 = .ok (.bipush 8, 2) := by decide +kernel
theorem d_JI_bitCount_38 : decode prog_10_method_49_code 38 = .ok (.iushr, 1) := by decide +kernel
theorem d_JI_bitCount_39 : decode prog_10_method_49_code 39 = .ok (.iadd, 1) := by decide +kernel
theorem d_JI_bitCount_40 : decode prog_10_method_49_code 40 = .ok (.istore_n 0, 1) := by decide +kernel
theorem d_JI_bitCount_41 : decode prog_10_method_49_code 41 = .ok (.iload_n 0, 1) := by decide +kernel
theorem d_JI_bitCount_42 : decode prog_10_method_49_code 42 = .ok (.iload_n 0, 1) := by decide +kernel
theorem d_JI_bitCount_43 : decode prog_10_method_49_code 43 = .ok (.bipush 16, 2) := by decide +kernel
theorem d_JI_bitCount_45 : decode prog_10_method_49_code 45 = .ok (.iushr, 1) := by decide +kernel
theorem d_JI_bitCount_46 : decode prog_10_method_49_code 46 = .ok (.iadd, 1) := by decide +kernel
theorem d_JI_bitCount_47 : decode prog_10_method_49_code 47 = .ok (.istore_n 0, 1) := by decide +kernel
theorem d_JI_bitCount_48 : decode prog_10_method_49_code 48 = .ok (.iload_n 0, 1) := by decide +kernel
theorem d_JI_bitCount_49 : decode prog_10_method_49_code 49 = .ok (.bipush 63, 2) := by decide +kernel
theorem d_JI_bitCount_51 : decode prog_10_method_49_code 51 = .ok (.iand, 1) := by decide +kernel
theorem d_JI_bitCount_52 : decode prog_10_method_49_code 52 = .ok (.ireturn, 1) := by decide +kernel
theorem d_K_goTogether_0 : decode prog_3_method_2_code 0 = .ok (.getstatic 9, 3) := by decide +kernel
theorem d_K_goTogether_3 : decode prog_3_method_2_code 3 = .ok (.iload_n 0, 1) := by decide +kernel
theorem d_K_goTogether_4 : decode prog_3_method_2_code 4 = .ok (.iaload, 1) := by decide +kernel
theorem d_K_goTogether_5 : decode prog_3_method_2_code 5 = .ok (.iload_n 1, 1) := by decide +kernel
theorem d_K_goTogether_6 : decode prog_3_method_2_code 6 = .ok (.ishr, 1) := by decide +kernel
theorem d_K_goTogether_7 : decode prog_3_method_2_code 7 = .ok (.iconst 1, 1) := by decide +kernel
theorem d_K_goTogether_8 : decode prog_3_method_2_code 8 = .ok (.iand, 1) := by decide +kernel
theorem d_K_goTogether_9 : decode prog_3_method_2_code 9 = .ok (.ifCond .eq 7, 3) := by decide +kernel
theorem d_K_goTogether_12 : decode prog_3_method_2_code 12 = .ok (.iconst 1, 1) := by decide +kernel
theorem d_K_goTogether_13 : decode prog_3_method_2_code 13 = .ok (.goto 4, 3) := by decide +kernel
theorem d_K_goTogether_16 : decode prog_3_method_2_code 16 = .ok (.iconst 0, 1) := by decide +kernel
theorem d_K_goTogether_17 : decode prog_3_method_2_code 17 = .ok (.ireturn, 1) := by decide +kernel
theorem d_K_joined_0 : decode prog_3_method_3_code 0 = .ok (.getstatic 9, 3) := by decide +kernel
theorem d_K_joined_3 : decode prog_3_method_3_code 3 = .ok (.iload_n 0, 1) := by decide +kernel
theorem d_K_joined_4 : decode prog_3_method_3_code 4 = .ok (.iaload, 1) := by decide +kernel
theorem d_K_joined_5 : decode prog_3_method_3_code 5 = .ok (.getstatic 9, 3) := by decide +kernel
theorem d_K_joined_8 : decode prog_3_method_3_code 8 = .ok (.iload_n 1, 1) := by decide +kernel
theorem d_K_joined_9 : decode prog_3_method_3_code 9 = .ok (.iaload, 1) := by decide +kernel
theorem d_K_joined_10 : decode prog_3_method_3_code 10 = .ok (.iand, 1) := by decide +kernel
theorem d_K_joined_11 : decode prog_3_method_3_code 11 = .ok (.istore_n 2, 1) := by decide +kernel
theorem d_K_joined_12 : decode prog_3_method_3_code 12 = .ok (.iconst 5, 1) := by decide +kernel
theorem d_K_joined_13 : decode prog_3_method_3_code 13 = .ok (.istore_n 3, 1) := by decide +kernel
theorem d_K_joined_14 : decode prog_3_method_3_code 14 = .ok (.iconst 0, 1) := by decide +kernel
theorem d_K_joined_15 : decode prog_3_method_3_code 15 = .ok (.istore 4, 2) := by decide +kernel
theorem d_K_joined_17 : decode prog_3_method_3_code 17 = .ok (.iload 4, 2) := by decide +kernel
theorem d_K_joined_19 : decode prog_3_method_3_code 19 = .ok (.bipush 6, 2) := by decide +kernel
theorem d_K_joined_21 : decode prog_3_method_3_code 21 = .ok (.if_icmp .ge 57, 3) := by decide +kernel
theorem d_K_joined_24 : decode prog_3_method_3_code 24 = .ok (.getstatic 9, 3) := by decide +kernel
theorem d_K_joined_27 : decode prog_3_method_3_code 27 = .ok (.iload 4, 2) := by decide +kernel
theorem d_K_joined_29 : decode prog_3_method_3_code 29 = .ok (.iaload, 1) := by decide +kernel
theorem d_K_joined_30 : decode prog_3_method_3_code 30 = .ok (.iload_n 2, 1) := by decide +kernel
theorem d_K_joined_31 : decode prog_3_method_3_code 31 = .ok (.iconst (-1), 1) := by decide +kernel
theorem d_K_joined_32 : decode prog_3_method_3_code 32 = .ok (.ixor, 1) := by decide +kernel
theorem d_K_joined_33 : decode prog_3_method_3_code 33 = .ok (.iand, 1) := by decide +kernel
theorem d_K_joined_34 : decode prog_3_method_3_code 34 = .ok (.ifCond .ne 7, 3) := by decide +kernel
theorem d_K_joined_37 : decode prog_3_method_3_code 37 = .ok (.iconst 1, 1) := by decide +kernel
theorem d_K_joined_38 : decode prog_3_method_3_code 38 = .ok (.goto 4, 3) := by decide +kernel
theorem d_K_joined_41 : decode prog_3_method_3_code 41 = .ok (.iconst 0, 1) := by decide +kernel
theorem d_K_joined_42 : decode prog_3_method_3_code 42 = .ok (.istore 5, 2) := by decide +kernel
theorem d_K_joined_44 : decode prog_3_method_3_code 44 = .ok (.iload 5, 2) := by decide +kernel
theorem d_K_joined_46 : decode prog_3_method_3_code 46 = .ok (.ifCond .eq 26, 3) := by decide +kernel
theorem d_K_joined_49 : decode prog_3_method_3_code 49 = .ok (.getstatic 9, 3) := by decide +kernel
theorem d_K_joined_52 : decode prog_3_method_3_code 52 = .ok (.iload 4, 2) := by decide +kernel
theorem d_K_joined_54 : decode prog_3_method_3_code 54 = .ok (.iaload, 1) := by decide +kernel
theorem d_K_joined_55 : decode prog_3_method_3_code 55 = .ok (.invokestatic 15, 3) := by decide +kernel
theorem d_K_joined_58 : decode prog_3_method_3_code 58 = .ok (.getstatic 9, 3) := by decide +kernel
theorem d_K_joined_61 : decode prog_3_method_3_code 61 = .ok (.iload_n 3, 1) := by decide +kernel
theorem d_K_joined_62 : decode prog_3_method_3_code 62 = .ok (.iaload, 1) := by decide +kernel
theorem d_K_joined_63 : decode prog_3_method_3_code 63 = .ok (.invokestatic 15, 3) := by decide +kernel
theorem d_K_joined_66 : decode prog_3_method_3_code 66 = .ok (.if_icmp .le 6, 3) := by decide +kernel
theorem d_K_joined_69 : decode prog_3_method_3_code 69 = .ok (.iload 4, 2) := by decide +kernel
theorem d_K_joined_71 : decode prog_3_method_3_code 71 = .ok (.istore_n 3, 1) := by decide +kernel
theorem d_K_joined_72 : decode prog_3_method_3_code 72 = .ok (.iinc 4 1, 3) := by decide +kernel
theorem d_K_joined_75 : decode prog_3_method_3_code 75 = .ok (.goto (-58), 3) := by decide +kernel
theorem d_K_joined_78 : decode prog_3_method_3_code 78 = .ok (.iload_n 3, 1) := by decide +kernel
theorem d_K_joined_79 : decode prog_3_method_3_code 79 = .ok (.ireturn, 1) := by decide +kernel
theorem d_K_strengthened_0 : decode prog_3_method_4_code 0 = .ok (.iload_n 0, 1) := by decide +kernel
theorem d_K_strengthened_1 : decode prog_3_method_4_code 1 = .ok (.iconst (-1), 1) := by decide +kernel
theorem d_K_strengthened_2 : decode prog_3_method_4_code 2 = .ok (.if_icmp .ne 7, 3) := by decide +kernel
theorem d_K_strengthened_5 : decode prog_3_method_4_code 5 = .ok (.iload_n 1, 1) := by decide +kernel
theorem d_K_strengthened_6 : decode prog_3_method_4_code 6 = .ok (.goto 8, 3) := by decide +kernel
theorem d_K_strengthened_9 : decode prog_3_method_4_code 9 = .ok (.iload_n 0, 1) := by decide +kernel
theorem d_K_strengthened_10 : decode prog_3_method_4_code 10 = .ok (.iload_n 1, 1) := by decide +kernel
theorem d_K_strengthened_11 : decode prog_3_method_4_code 11 = .ok (.invokestatic 21, 3) := by decide +kernel
theorem d_K_strengthened_14 : decode prog_3_method_4_code 14 = .ok (.ireturn, 1) := by decide +kernel
theorem d_K_tableCovers_0 : decode prog_3_method_5_code 0 = .ok (.iload_n 0, 1) := by decide +kernel
theorem d_K_tableCovers_1 : decode prog_3_method_5_code 1 = .ok (.iconst (-1), 1) := by decide +kernel
theorem d_K_tableCovers_2 : decode prog_3_method_5_code 2 = .ok (.if_icmp .eq 19, 3) := by decide +kernel
theorem d_K_tableCovers_5 : decode prog_3_method_5_code 5 = .ok (.getstatic 25, 3) := by decide +kernel
theorem d_K_tableCovers_8 : decode prog_3_method_5_code 8 = .ok (.iload_n 0, 1) := by decide +kernel
theorem d_K_tableCovers_9 : decode prog_3_method_5_code 9 = .ok (.iaload, 1) := by decide +kernel
theorem d_K_tableCovers_10 : decode prog_3_method_5_code 10 = .ok (.iload_n 1, 1) := by decide +kernel
theorem d_K_tableCovers_11 : decode prog_3_method_5_code 11 = .ok (.ishr, 1) := by decide +kernel
theorem d_K_tableCovers_12 : decode prog_3_method_5_code 12 = .ok (.iconst 1, 1) := by decide +kernel
theorem d_K_tableCovers_13 : decode prog_3_method_5_code 13 = .ok (.iand, 1) := by decide +kernel
theorem d_K_tableCovers_14 : decode prog_3_method_5_code 14 = .ok (.ifCond .eq 7, 3) := by decide +kernel
theorem d_K_tableCovers_17 : decode prog_3_method_5_code 17 = .ok (.iconst 1, 1) := by decide +kernel
theorem d_K_tableCovers_18 : decode prog_3_method_5_code 18 = .ok (.goto 4, 3) := by decide +kernel
theorem d_K_tableCovers_21 : decode prog_3_method_5_code 21 = .ok (.iconst 0, 1) := by decide +kernel
theorem d_K_tableCovers_22 : decode prog_3_method_5_code 22 = .ok (.ireturn, 1) := by decide +kernel
theorem d_K_rangeCovers_0 : decode prog_3_method_6_code 0 = .ok (.getstatic 28, 3) := by decide +kernel
theorem d_K_rangeCovers_3 : decode prog_3_method_6_code 3 = .ok (.iload_n 0, 1) := by decide +kernel
theorem d_K_rangeCovers_4 : decode prog_3_method_6_code 4 = .ok (.iaload, 1) := by decide +kernel
theorem d_K_rangeCovers_5 : decode prog_3_method_6_code 5 = .ok (.iload_n 1, 1) := by decide +kernel
theorem d_K_rangeCovers_6 : decode prog_3_method_6_code 6 = .ok (.ishr, 1) := by decide +kernel
theorem d_K_rangeCovers_7 : decode prog_3_method_6_code 7 = .ok (.iconst 1, 1) := by decide +kernel
theorem d_K_rangeCovers_8 : decode prog_3_method_6_code 8 = .ok (.iand, 1) := by decide +kernel
theorem d_K_rangeCovers_9 : decode prog_3_method_6_code 9 = .ok (.ifCond .eq 7, 3) := by decide +kernel
theorem d_K_rangeCovers_12 : decode prog_3_method_6_code 12 = .ok (.iconst 1, 1) := by decide +kernel
theorem d_K_rangeCovers_13 : decode prog_3_method_6_code 13 = .ok (.goto 4, 3) := by decide +kernel
theorem d_K_rangeCovers_16 : decode prog_3_method_6_code 16 = .ok (.iconst 0, 1) := by decide +kernel
theorem d_K_rangeCovers_17 : decode prog_3_method_6_code 17 = .ok (.ireturn, 1) := by decide +kernel
theorem d_K_allowsRange_0 : decode prog_3_method_7_code 0 = .ok (.iload_n 1, 1) := by decide +kernel
theorem d_K_allowsRange_1 : decode prog_3_method_7_code 1 = .ok (.iconst 2, 1) := by decide +kernel
theorem d_K_allowsRange_2 : decode prog_3_method_7_code 2 = .ok (.if_icmp .ne 16, 3) := by decide +kernel
theorem d_K_allowsRange_5 : decode prog_3_method_7_code 5 = .ok (.iload_n 0, 1) := by decide +kernel
theorem d_K_allowsRange_6 : decode prog_3_method_7_code 6 = .ok (.iconst (-1), 1) := by decide +kernel
theorem d_K_allowsRange_7 : decode prog_3_method_7_code 7 = .ok (.if_icmp .eq 7, 3) := by decide +kernel
theorem d_K_allowsRange_10 : decode prog_3_method_7_code 10 = .ok (.iconst 1, 1) := by decide +kernel
theorem d_K_allowsRange_11 : decode prog_3_method_7_code 11 = .ok (.goto 27, 3) := by decide +kernel
theorem d_K_allowsRange_14 : decode prog_3_method_7_code 14 = .ok (.iconst 0, 1) := by decide +kernel
theorem d_K_allowsRange_15 : decode prog_3_method_7_code 15 = .ok (.goto 23, 3) := by decide +kernel
theorem d_K_allowsRange_18 : decode prog_3_method_7_code 18 = .ok (.iload_n 0, 1) := by decide +kernel
theorem d_K_allowsRange_19 : decode prog_3_method_7_code 19 = .ok (.iconst 1, 1) := by decide +kernel
theorem d_K_allowsRange_20 : decode prog_3_method_7_code 20 = .ok (.if_icmp .eq 13, 3) := by decide +kernel
theorem d_K_allowsRange_23 : decode prog_3_method_7_code 23 = .ok (.iload_n 0, 1) := by decide +kernel
theorem d_K_allowsRange_24 : decode prog_3_method_7_code 24 = .ok (.iconst 3, 1) := by decide +kernel
theorem d_K_allowsRange_25 : decode prog_3_method_7_code 25 = .ok (.if_icmp .eq 8, 3) := by decide +kernel
theorem d_K_allowsRange_28 : decode prog_3_method_7_code 28 = .ok (.iload_n 0, 1) := by decide +kernel
theorem d_K_allowsRange_29 : decode prog_3_method_7_code 29 = .ok (.iconst 5, 1) := by decide +kernel
theorem d_K_allowsRange_30 : decode prog_3_method_7_code 30 = .ok (.if_icmp .ne 7, 3) := by decide +kernel
theorem d_K_allowsRange_33 : decode prog_3_method_7_code 33 = .ok (.iconst 1, 1) := by decide +kernel
theorem d_K_allowsRange_34 : decode prog_3_method_7_code 34 = .ok (.goto 4, 3) := by decide +kernel
theorem d_K_allowsRange_37 : decode prog_3_method_7_code 37 = .ok (.iconst 0, 1) := by decide +kernel
theorem d_K_allowsRange_38 : decode prog_3_method_7_code 38 = .ok (.ireturn, 1) := by decide +kernel
theorem d_K_isReading_0 : decode prog_3_method_8_code 0 = .ok (.iload_n 0, 1) := by decide +kernel
theorem d_K_isReading_1 : decode prog_3_method_8_code 1 = .ok (.ifCond .eq 13, 3) := by decide +kernel
theorem d_K_isReading_4 : decode prog_3_method_8_code 4 = .ok (.iload_n 0, 1) := by decide +kernel
theorem d_K_isReading_5 : decode prog_3_method_8_code 5 = .ok (.iconst 2, 1) := by decide +kernel
theorem d_K_isReading_6 : decode prog_3_method_8_code 6 = .ok (.if_icmp .eq 8, 3) := by decide +kernel
theorem d_K_isReading_9 : decode prog_3_method_8_code 9 = .ok (.iload_n 0, 1) := by decide +kernel
theorem d_K_isReading_10 : decode prog_3_method_8_code 10 = .ok (.iconst 4, 1) := by decide +kernel
theorem d_K_isReading_11 : decode prog_3_method_8_code 11 = .ok (.if_icmp .ne 7, 3) := by decide +kernel
theorem d_K_isReading_14 : decode prog_3_method_8_code 14 = .ok (.iconst 1, 1) := by decide +kernel
theorem d_K_isReading_15 : decode prog_3_method_8_code 15 = .ok (.goto 4, 3) := by decide +kernel
theorem d_K_isReading_18 : decode prog_3_method_8_code 18 = .ok (.iconst 0, 1) := by decide +kernel
theorem d_K_isReading_19 : decode prog_3_method_8_code 19 = .ok (.ireturn, 1) := by decide +kernel
def F_JI_bitCount (a1 : Int32) : Option (Int32) :=
  some ((((((((a1 - (((a1.toUInt32 >>> ((1 : Int32).toUInt32 &&& Int32.toUInt32 31)).toInt32) &&& 1431655765)) &&& 858993459) + ((((a1 - (((a1.toUInt32 >>> ((1 : Int32).toUInt32 &&& Int32.toUInt32 31)).toInt32) &&& 1431655765)).toUInt32 >>> ((2 : Int32).toUInt32 &&& Int32.toUInt32 31)).toInt32) &&& 858993459)) + (((((a1 - (((a1.toUInt32 >>> ((1 : Int32).toUInt32 &&& Int32.toUInt32 31)).toInt32) &&& 1431655765)) &&& 858993459) + ((((a1 - (((a1.toUInt32 >>> ((1 : Int32).toUInt32 &&& Int32.toUInt32 31)).toInt32) &&& 1431655765)).toUInt32 >>> ((2 : Int32).toUInt32 &&& Int32.toUInt32 31)).toInt32) &&& 858993459)).toUInt32 >>> ((4 : Int32).toUInt32 &&& Int32.toUInt32 31)).toInt32)) &&& 252645135) + (((((((a1 - (((a1.toUInt32 >>> ((1 : Int32).toUInt32 &&& Int32.toUInt32 31)).toInt32) &&& 1431655765)) &&& 858993459) + ((((a1 - (((a1.toUInt32 >>> ((1 : Int32).toUInt32 &&& Int32.toUInt32 31)).toInt32) &&& 1431655765)).toUInt32 >>> ((2 : Int32).toUInt32 &&& Int32.toUInt32 31)).toInt32) &&& 858993459)) + (((((a1 - (((a1.toUInt32 >>> ((1 : Int32).toUInt32 &&& Int32.toUInt32 31)).toInt32) &&& 1431655765)) &&& 858993459) + ((((a1 - (((a1.toUInt32 >>> ((1 : Int32).toUInt32 &&& Int32.toUInt32 31)).toInt32) &&& 1431655765)).toUInt32 >>> ((2 : Int32).toUInt32 &&& Int32.toUInt32 31)).toInt32) &&& 858993459)).toUInt32 >>> ((4 : Int32).toUInt32 &&& Int32.toUInt32 31)).toInt32)) &&& 252645135).toUInt32 >>> ((8 : Int32).toUInt32 &&& Int32.toUInt32 31)).toInt32)) + ((((((((a1 - (((a1.toUInt32 >>> ((1 : Int32).toUInt32 &&& Int32.toUInt32 31)).toInt32) &&& 1431655765)) &&& 858993459) + ((((a1 - (((a1.toUInt32 >>> ((1 : Int32).toUInt32 &&& Int32.toUInt32 31)).toInt32) &&& 1431655765)).toUInt32 >>> ((2 : Int32).toUInt32 &&& Int32.toUInt32 31)).toInt32) &&& 858993459)) + (((((a1 - (((a1.toUInt32 >>> ((1 : Int32).toUInt32 &&& Int32.toUInt32 31)).toInt32) &&& 1431655765)) &&& 858993459) + ((((a1 - (((a1.toUInt32 >>> ((1 : Int32).toUInt32 &&& Int32.toUInt32 31)).toInt32) &&& 1431655765)).toUInt32 >>> ((2 : Int32).toUInt32 &&& Int32.toUInt32 31)).toInt32) &&& 858993459)).toUInt32 >>> ((4 : Int32).toUInt32 &&& Int32.toUInt32 31)).toInt32)) &&& 252645135) + (((((((a1 - (((a1.toUInt32 >>> ((1 : Int32).toUInt32 &&& Int32.toUInt32 31)).toInt32) &&& 1431655765)) &&& 858993459) + ((((a1 - (((a1.toUInt32 >>> ((1 : Int32).toUInt32 &&& Int32.toUInt32 31)).toInt32) &&& 1431655765)).toUInt32 >>> ((2 : Int32).toUInt32 &&& Int32.toUInt32 31)).toInt32) &&& 858993459)) + (((((a1 - (((a1.toUInt32 >>> ((1 : Int32).toUInt32 &&& Int32.toUInt32 31)).toInt32) &&& 1431655765)) &&& 858993459) + ((((a1 - (((a1.toUInt32 >>> ((1 : Int32).toUInt32 &&& Int32.toUInt32 31)).toInt32) &&& 1431655765)).toUInt32 >>> ((2 : Int32).toUInt32 &&& Int32.toUInt32 31)).toInt32) &&& 858993459)).toUInt32 >>> ((4 : Int32).toUInt32 &&& Int32.toUInt32 31)).toInt32)) &&& 252645135).toUInt32 >>> ((8 : Int32).toUInt32 &&& Int32.toUInt32 31)).toInt32)).toUInt32 >>> ((16 : Int32).toUInt32 &&& Int32.toUInt32 31)).toInt32)) &&& 63)
set_option maxHeartbeats 4000000 in
set_option maxRecDepth 100000 in
theorem t_JI_bitCount {p : Program} {l : Launch} {e : Env} {s : State} {m : MethodId} {args : Array Value} {below : List Frame} {meth : Method} {c : Code} {A : Nat → Prop} {g : va_G} {tys : List (ClassId × FieldType)} {w : va_W} (K : kX p s m args meth c "java/lang/Integer" prog_10_method_49_code 1 (some .int) A g tys)  (a1 : Int32) (r : Int32) (hF : F_JI_bitCount a1 = some r) {H : Heap} {locs : List Loc} {ls : Array Slot} (hP : va_P g kcl w H) (hD : va_D A w) (hS : va_S A s.heap H locs) (hl : lv_has ls 1 [(0, .int a1)]) : W p l e ({ frames := 0, cells := 0, slots := 0, locals := 0 }) s m args below meth c H locs 0 0 (MQ below (kQi g tys w A r) args s 0 0 A) (F0 m 0 ls []) := by
  obtain ⟨hx, hb, hr, hml, hown, hts, hlocks, hK, hA, hE⟩ := id K
  unfold F_JI_bitCount at hF
  refine lv_iload_n hx hb d_JI_bitCount_0 rfl (lv_at hl 0 rfl) ?_
  refine lv_iload_n hx hb d_JI_bitCount_1 rfl (lv_at hl 0 rfl) ?_
  refine lv_iconst (v := 1) hx hb d_JI_bitCount_2 (by decide) ?_
  refine lv_iushr (v := (a1.toUInt32 >>> ((1 : Int32).toUInt32 &&& Int32.toUInt32 31)).toInt32) hx hb d_JI_bitCount_3 rfl ?_
  refine lv_ldcw (v := 1431655765) hx hb hown (hts _ wm_346) d_JI_bitCount_4 ?_
  refine lv_iand hx hb d_JI_bitCount_7 ?_
  refine lv_isub hx hb d_JI_bitCount_8 ?_
  refine lv_istore_n (lv' := [(0, .int (a1 - (((a1.toUInt32 >>> ((1 : Int32).toUInt32 &&& Int32.toUInt32 31)).toInt32) &&& 1431655765)))]) hx hb d_JI_bitCount_9 rfl hl (by decide) rfl (fun ls hl => ?_)
  refine lv_iload_n hx hb d_JI_bitCount_10 rfl (lv_at hl 0 rfl) ?_
  refine lv_ldcw (v := 858993459) hx hb hown (hts _ wm_347) d_JI_bitCount_11 ?_
  refine lv_iand hx hb d_JI_bitCount_14 ?_
  refine lv_iload_n hx hb d_JI_bitCount_15 rfl (lv_at hl 0 rfl) ?_
  refine lv_iconst (v := 2) hx hb d_JI_bitCount_16 (by decide) ?_
  refine lv_iushr (v := ((a1 - (((a1.toUInt32 >>> ((1 : Int32).toUInt32 &&& Int32.toUInt32 31)).toInt32) &&& 1431655765)).toUInt32 >>> ((2 : Int32).toUInt32 &&& Int32.toUInt32 31)).toInt32) hx hb d_JI_bitCount_17 rfl ?_
  refine lv_ldcw (v := 858993459) hx hb hown (hts _ wm_347) d_JI_bitCount_18 ?_
  refine lv_iand hx hb d_JI_bitCount_21 ?_
  refine lv_iadd hx hb d_JI_bitCount_22 ?_
  refine lv_istore_n (lv' := [(0, .int (((a1 - (((a1.toUInt32 >>> ((1 : Int32).toUInt32 &&& Int32.toUInt32 31)).toInt32) &&& 1431655765)) &&& 858993459) + ((((a1 - (((a1.toUInt32 >>> ((1 : Int32).toUInt32 &&& Int32.toUInt32 31)).toInt32) &&& 1431655765)).toUInt32 >>> ((2 : Int32).toUInt32 &&& Int32.toUInt32 31)).toInt32) &&& 858993459)))]) hx hb d_JI_bitCount_23 rfl hl (by decide) rfl (fun ls hl => ?_)
  refine lv_iload_n hx hb d_JI_bitCount_24 rfl (lv_at hl 0 rfl) ?_
  refine lv_iload_n hx hb d_JI_bitCount_25 rfl (lv_at hl 0 rfl) ?_
  refine lv_iconst (v := 4) hx hb d_JI_bitCount_26 (by decide) ?_
  refine lv_iushr (v := ((((a1 - (((a1.toUInt32 >>> ((1 : Int32).toUInt32 &&& Int32.toUInt32 31)).toInt32) &&& 1431655765)) &&& 858993459) + ((((a1 - (((a1.toUInt32 >>> ((1 : Int32).toUInt32 &&& Int32.toUInt32 31)).toInt32) &&& 1431655765)).toUInt32 >>> ((2 : Int32).toUInt32 &&& Int32.toUInt32 31)).toInt32) &&& 858993459)).toUInt32 >>> ((4 : Int32).toUInt32 &&& Int32.toUInt32 31)).toInt32) hx hb d_JI_bitCount_27 rfl ?_
  refine lv_iadd hx hb d_JI_bitCount_28 ?_
  refine lv_ldcw (v := 252645135) hx hb hown (hts _ wm_348) d_JI_bitCount_29 ?_
  refine lv_iand hx hb d_JI_bitCount_32 ?_
  refine lv_istore_n (lv' := [(0, .int (((((a1 - (((a1.toUInt32 >>> ((1 : Int32).toUInt32 &&& Int32.toUInt32 31)).toInt32) &&& 1431655765)) &&& 858993459) + ((((a1 - (((a1.toUInt32 >>> ((1 : Int32).toUInt32 &&& Int32.toUInt32 31)).toInt32) &&& 1431655765)).toUInt32 >>> ((2 : Int32).toUInt32 &&& Int32.toUInt32 31)).toInt32) &&& 858993459)) + (((((a1 - (((a1.toUInt32 >>> ((1 : Int32).toUInt32 &&& Int32.toUInt32 31)).toInt32) &&& 1431655765)) &&& 858993459) + ((((a1 - (((a1.toUInt32 >>> ((1 : Int32).toUInt32 &&& Int32.toUInt32 31)).toInt32) &&& 1431655765)).toUInt32 >>> ((2 : Int32).toUInt32 &&& Int32.toUInt32 31)).toInt32) &&& 858993459)).toUInt32 >>> ((4 : Int32).toUInt32 &&& Int32.toUInt32 31)).toInt32)) &&& 252645135))]) hx hb d_JI_bitCount_33 rfl hl (by decide) rfl (fun ls hl => ?_)
  refine lv_iload_n hx hb d_JI_bitCount_34 rfl (lv_at hl 0 rfl) ?_
  refine lv_iload_n hx hb d_JI_bitCount_35 rfl (lv_at hl 0 rfl) ?_
  refine lv_bipush (v := 8) hx hb d_JI_bitCount_36 (by decide) ?_
  refine lv_iushr (v := ((((((a1 - (((a1.toUInt32 >>> ((1 : Int32).toUInt32 &&& Int32.toUInt32 31)).toInt32) &&& 1431655765)) &&& 858993459) + ((((a1 - (((a1.toUInt32 >>> ((1 : Int32).toUInt32 &&& Int32.toUInt32 31)).toInt32) &&& 1431655765)).toUInt32 >>> ((2 : Int32).toUInt32 &&& Int32.toUInt32 31)).toInt32) &&& 858993459)) + (((((a1 - (((a1.toUInt32 >>> ((1 : Int32).toUInt32 &&& Int32.toUInt32 31)).toInt32) &&& 1431655765)) &&& 858993459) + ((((a1 - (((a1.toUInt32 >>> ((1 : Int32).toUInt32 &&& Int32.toUInt32 31)).toInt32) &&& 1431655765)).toUInt32 >>> ((2 : Int32).toUInt32 &&& Int32.toUInt32 31)).toInt32) &&& 858993459)).toUInt32 >>> ((4 : Int32).toUInt32 &&& Int32.toUInt32 31)).toInt32)) &&& 252645135).toUInt32 >>> ((8 : Int32).toUInt32 &&& Int32.toUInt32 31)).toInt32) hx hb d_JI_bitCount_38 rfl ?_
  refine lv_iadd hx hb d_JI_bitCount_39 ?_
  refine lv_istore_n (lv' := [(0, .int ((((((a1 - (((a1.toUInt32 >>> ((1 : Int32).toUInt32 &&& Int32.toUInt32 31)).toInt32) &&& 1431655765)) &&& 858993459) + ((((a1 - (((a1.toUInt32 >>> ((1 : Int32).toUInt32 &&& Int32.toUInt32 31)).toInt32) &&& 1431655765)).toUInt32 >>> ((2 : Int32).toUInt32 &&& Int32.toUInt32 31)).toInt32) &&& 858993459)) + (((((a1 - (((a1.toUInt32 >>> ((1 : Int32).toUInt32 &&& Int32.toUInt32 31)).toInt32) &&& 1431655765)) &&& 858993459) + ((((a1 - (((a1.toUInt32 >>> ((1 : Int32).toUInt32 &&& Int32.toUInt32 31)).toInt32) &&& 1431655765)).toUInt32 >>> ((2 : Int32).toUInt32 &&& Int32.toUInt32 31)).toInt32) &&& 858993459)).toUInt32 >>> ((4 : Int32).toUInt32 &&& Int32.toUInt32 31)).toInt32)) &&& 252645135) + (((((((a1 - (((a1.toUInt32 >>> ((1 : Int32).toUInt32 &&& Int32.toUInt32 31)).toInt32) &&& 1431655765)) &&& 858993459) + ((((a1 - (((a1.toUInt32 >>> ((1 : Int32).toUInt32 &&& Int32.toUInt32 31)).toInt32) &&& 1431655765)).toUInt32 >>> ((2 : Int32).toUInt32 &&& Int32.toUInt32 31)).toInt32) &&& 858993459)) + (((((a1 - (((a1.toUInt32 >>> ((1 : Int32).toUInt32 &&& Int32.toUInt32 31)).toInt32) &&& 1431655765)) &&& 858993459) + ((((a1 - (((a1.toUInt32 >>> ((1 : Int32).toUInt32 &&& Int32.toUInt32 31)).toInt32) &&& 1431655765)).toUInt32 >>> ((2 : Int32).toUInt32 &&& Int32.toUInt32 31)).toInt32) &&& 858993459)).toUInt32 >>> ((4 : Int32).toUInt32 &&& Int32.toUInt32 31)).toInt32)) &&& 252645135).toUInt32 >>> ((8 : Int32).toUInt32 &&& Int32.toUInt32 31)).toInt32)))]) hx hb d_JI_bitCount_40 rfl hl (by decide) rfl (fun ls hl => ?_)
  refine lv_iload_n hx hb d_JI_bitCount_41 rfl (lv_at hl 0 rfl) ?_
  refine lv_iload_n hx hb d_JI_bitCount_42 rfl (lv_at hl 0 rfl) ?_
  refine lv_bipush (v := 16) hx hb d_JI_bitCount_43 (by decide) ?_
  refine lv_iushr (v := (((((((a1 - (((a1.toUInt32 >>> ((1 : Int32).toUInt32 &&& Int32.toUInt32 31)).toInt32) &&& 1431655765)) &&& 858993459) + ((((a1 - (((a1.toUInt32 >>> ((1 : Int32).toUInt32 &&& Int32.toUInt32 31)).toInt32) &&& 1431655765)).toUInt32 >>> ((2 : Int32).toUInt32 &&& Int32.toUInt32 31)).toInt32) &&& 858993459)) + (((((a1 - (((a1.toUInt32 >>> ((1 : Int32).toUInt32 &&& Int32.toUInt32 31)).toInt32) &&& 1431655765)) &&& 858993459) + ((((a1 - (((a1.toUInt32 >>> ((1 : Int32).toUInt32 &&& Int32.toUInt32 31)).toInt32) &&& 1431655765)).toUInt32 >>> ((2 : Int32).toUInt32 &&& Int32.toUInt32 31)).toInt32) &&& 858993459)).toUInt32 >>> ((4 : Int32).toUInt32 &&& Int32.toUInt32 31)).toInt32)) &&& 252645135) + (((((((a1 - (((a1.toUInt32 >>> ((1 : Int32).toUInt32 &&& Int32.toUInt32 31)).toInt32) &&& 1431655765)) &&& 858993459) + ((((a1 - (((a1.toUInt32 >>> ((1 : Int32).toUInt32 &&& Int32.toUInt32 31)).toInt32) &&& 1431655765)).toUInt32 >>> ((2 : Int32).toUInt32 &&& Int32.toUInt32 31)).toInt32) &&& 858993459)) + (((((a1 - (((a1.toUInt32 >>> ((1 : Int32).toUInt32 &&& Int32.toUInt32 31)).toInt32) &&& 1431655765)) &&& 858993459) + ((((a1 - (((a1.toUInt32 >>> ((1 : Int32).toUInt32 &&& Int32.toUInt32 31)).toInt32) &&& 1431655765)).toUInt32 >>> ((2 : Int32).toUInt32 &&& Int32.toUInt32 31)).toInt32) &&& 858993459)).toUInt32 >>> ((4 : Int32).toUInt32 &&& Int32.toUInt32 31)).toInt32)) &&& 252645135).toUInt32 >>> ((8 : Int32).toUInt32 &&& Int32.toUInt32 31)).toInt32)).toUInt32 >>> ((16 : Int32).toUInt32 &&& Int32.toUInt32 31)).toInt32) hx hb d_JI_bitCount_45 rfl ?_
  refine lv_iadd hx hb d_JI_bitCount_46 ?_
  refine lv_istore_n (lv' := [(0, .int (((((((a1 - (((a1.toUInt32 >>> ((1 : Int32).toUInt32 &&& Int32.toUInt32 31)).toInt32) &&& 1431655765)) &&& 858993459) + ((((a1 - (((a1.toUInt32 >>> ((1 : Int32).toUInt32 &&& Int32.toUInt32 31)).toInt32) &&& 1431655765)).toUInt32 >>> ((2 : Int32).toUInt32 &&& Int32.toUInt32 31)).toInt32) &&& 858993459)) + (((((a1 - (((a1.toUInt32 >>> ((1 : Int32).toUInt32 &&& Int32.toUInt32 31)).toInt32) &&& 1431655765)) &&& 858993459) + ((((a1 - (((a1.toUInt32 >>> ((1 : Int32).toUInt32 &&& Int32.toUInt32 31)).toInt32) &&& 1431655765)).toUInt32 >>> ((2 : Int32).toUInt32 &&& Int32.toUInt32 31)).toInt32) &&& 858993459)).toUInt32 >>> ((4 : Int32).toUInt32 &&& Int32.toUInt32 31)).toInt32)) &&& 252645135) + (((((((a1 - (((a1.toUInt32 >>> ((1 : Int32).toUInt32 &&& Int32.toUInt32 31)).toInt32) &&& 1431655765)) &&& 858993459) + ((((a1 - (((a1.toUInt32 >>> ((1 : Int32).toUInt32 &&& Int32.toUInt32 31)).toInt32) &&& 1431655765)).toUInt32 >>> ((2 : Int32).toUInt32 &&& Int32.toUInt32 31)).toInt32) &&& 858993459)) + (((((a1 - (((a1.toUInt32 >>> ((1 : Int32).toUInt32 &&& Int32.toUInt32 31)).toInt32) &&& 1431655765)) &&& 858993459) + ((((a1 - (((a1.toUInt32 >>> ((1 : Int32).toUInt32 &&& Int32.toUInt32 31)).toInt32) &&& 1431655765)).toUInt32 >>> ((2 : Int32).toUInt32 &&& Int32.toUInt32 31)).toInt32) &&& 858993459)).toUInt32 >>> ((4 : Int32).toUInt32 &&& Int32.toUInt32 31)).toInt32)) &&& 252645135).toUInt32 >>> ((8 : Int32).toUInt32 &&& Int32.toUInt32 31)).toInt32)) + ((((((((a1 - (((a1.toUInt32 >>> ((1 : Int32).toUInt32 &&& Int32.toUInt32 31)).toInt32) &&& 1431655765)) &&& 858993459) + ((((a1 - (((a1.toUInt32 >>> ((1 : Int32).toUInt32 &&& Int32.toUInt32 31)).toInt32) &&& 1431655765)).toUInt32 >>> ((2 : Int32).toUInt32 &&& Int32.toUInt32 31)).toInt32) &&& 858993459)) + (((((a1 - (((a1.toUInt32 >>> ((1 : Int32).toUInt32 &&& Int32.toUInt32 31)).toInt32) &&& 1431655765)) &&& 858993459) + ((((a1 - (((a1.toUInt32 >>> ((1 : Int32).toUInt32 &&& Int32.toUInt32 31)).toInt32) &&& 1431655765)).toUInt32 >>> ((2 : Int32).toUInt32 &&& Int32.toUInt32 31)).toInt32) &&& 858993459)).toUInt32 >>> ((4 : Int32).toUInt32 &&& Int32.toUInt32 31)).toInt32)) &&& 252645135) + (((((((a1 - (((a1.toUInt32 >>> ((1 : Int32).toUInt32 &&& Int32.toUInt32 31)).toInt32) &&& 1431655765)) &&& 858993459) + ((((a1 - (((a1.toUInt32 >>> ((1 : Int32).toUInt32 &&& Int32.toUInt32 31)).toInt32) &&& 1431655765)).toUInt32 >>> ((2 : Int32).toUInt32 &&& Int32.toUInt32 31)).toInt32) &&& 858993459)) + (((((a1 - (((a1.toUInt32 >>> ((1 : Int32).toUInt32 &&& Int32.toUInt32 31)).toInt32) &&& 1431655765)) &&& 858993459) + ((((a1 - (((a1.toUInt32 >>> ((1 : Int32).toUInt32 &&& Int32.toUInt32 31)).toInt32) &&& 1431655765)).toUInt32 >>> ((2 : Int32).toUInt32 &&& Int32.toUInt32 31)).toInt32) &&& 858993459)).toUInt32 >>> ((4 : Int32).toUInt32 &&& Int32.toUInt32 31)).toInt32)) &&& 252645135).toUInt32 >>> ((8 : Int32).toUInt32 &&& Int32.toUInt32 31)).toInt32)).toUInt32 >>> ((16 : Int32).toUInt32 &&& Int32.toUInt32 31)).toInt32)))]) hx hb d_JI_bitCount_47 rfl hl (by decide) rfl (fun ls hl => ?_)
  refine lv_iload_n hx hb d_JI_bitCount_48 rfl (lv_at hl 0 rfl) ?_
  refine lv_bipush (v := 63) hx hb d_JI_bitCount_49 (by decide) ?_
  refine lv_iand hx hb d_JI_bitCount_51 ?_
  cases hF
  exact kri K hP hD hS d_JI_bitCount_52 rfl
theorem c_JI_bitCount (l : Launch) (g : va_G) (tys : List (ClassId × FieldType)) (w : va_W) (a1 : Int32) (r : Int32) (hF : F_JI_bitCount a1 = some r) : Ci l y_JI_bitCount prog_10_method_49_code 1 (some .int) ({ frames := 0, cells := 0, slots := 0, locals := 0 }) [.int a1] g tys w w r :=
  Ci.of (by decide) (Nat.le_of_ble_eq_true rfl) (fun p e s m below meth c A ls K hP hD hS hl => t_JI_bitCount K  a1 r hF hP hD hS hl)
def F_K_goTogether (a1 : Int32) (a2 : Int32) : Option (Int32) :=
  gd (a1 < 0 ∨ 6 ≤ a1.toNatClampNeg) (if (((tgF a1.toNatClampNeg) >>> (a2 &&& 31)) &&& 1) = 0 then some 0 else some 1)
set_option maxHeartbeats 4000000 in
set_option maxRecDepth 100000 in
theorem t_K_goTogether {p : Program} {l : Launch} {e : Env} {s : State} {m : MethodId} {args : Array Value} {below : List Frame} {meth : Method} {c : Code} {A : Nat → Prop} {g : va_G} {tys : List (ClassId × FieldType)} {w : va_W} (K : kX p s m args meth c "LockTable$Modes" prog_3_method_2_code 2 (some .boolean) A g tys)  (a1 : Int32) (a2 : Int32) (r : Int32) (hF : F_K_goTogether a1 a2 = some r) {H : Heap} {locs : List Loc} {ls : Array Slot} (hP : va_P g kcl w H) (hD : va_D A w) (hS : va_S A s.heap H locs) (hl : lv_has ls 2 [(0, .int a1), (1, .int a2)]) : W p l e ({ frames := 0, cells := 0, slots := 0, locals := 0 }) s m args below meth c H locs 0 0 (MQ below (kQi g tys w A r) args s 0 0 A) (F0 m 0 ls []) := by
  obtain ⟨hx, hb, hr, hml, hown, hts, hlocks, hK, hA, hE⟩ := id K
  unfold F_K_goTogether at hF
  obtain ⟨t_1, hz_2, ht_3⟩ := hE.1.1
  refine va_gets hx hb hz_2 hS hown (hts _ wm_341) (fun _ h9 => h9) d_K_goTogether_0 ?_
  refine lv_iload_n hx hb d_K_goTogether_3 rfl (lv_at hl 0 rfl) ?_
  obtain ⟨hg_4, hF⟩ := gd_inv hF
  refine va_ti (v := .int (tgF a1.toNatClampNeg)) hx hb ht_3 hS hg_4 rfl d_K_goTogether_4 ?_
  refine lv_iload_n hx hb d_K_goTogether_5 rfl (lv_at hl 1 rfl) ?_
  refine lv_ishr hx hb d_K_goTogether_6 ?_
  refine lv_iconst (v := 1) hx hb d_K_goTogether_7 (by decide) ?_
  refine lv_iand hx hb d_K_goTogether_8 ?_
  refine lv_if_eq (tgt := 16) hx hb d_K_goTogether_9 (by decide) (fun hc_5 => ?_) (fun hc_5 => ?_)
  · have hF := it_t hF hc_5
    refine lv_iconst (v := 0) hx hb d_K_goTogether_16 (by decide) ?_
    cases hF
    exact krz K hP hD hS d_K_goTogether_17 rfl rfl
  · have hF := it_f hF hc_5
    refine lv_iconst (v := 1) hx hb d_K_goTogether_12 (by decide) ?_
    refine lv_goto (tgt := 17) hx hb d_K_goTogether_13 (by decide) ?_
    cases hF
    exact krz K hP hD hS d_K_goTogether_17 rfl rfl
theorem c_K_goTogether (l : Launch) (g : va_G) (tys : List (ClassId × FieldType)) (w : va_W) (a1 : Int32) (a2 : Int32) (r : Int32) (hF : F_K_goTogether a1 a2 = some r) : Ci l y_K_goTogether prog_3_method_2_code 2 (some .boolean) ({ frames := 0, cells := 0, slots := 0, locals := 0 }) [.int a1, .int a2] g tys w w r :=
  Ci.of (by decide) (Nat.le_of_ble_eq_true rfl) (fun p e s m below meth c A ls K hP hD hS hl => t_K_goTogether K  a1 a2 r hF hP hD hS hl)
def F_K_joined_L17 (v2 : Int32) : Nat → Int32 → Int32 → Option (Int32)
  | 0, _, _ => none
  | n + 1, v3, v4 => if 6 ≤ v4 then some v3 else gd (v4 < 0 ∨ 6 ≤ v4.toNatClampNeg) (jn1 (fun (s_14 : Int32) => if s_14 = 0 then F_K_joined_L17 v2 n v3 (v4 + 1) else gd (v4 < 0 ∨ 6 ≤ v4.toNatClampNeg) (ob1 (F_JI_bitCount (tgF v4.toNatClampNeg)) (fun r_20 => gd (v3 < 0 ∨ 6 ≤ v3.toNatClampNeg) (ob1 (F_JI_bitCount (tgF v3.toNatClampNeg)) (fun r_25 => if r_20 ≤ r_25 then F_K_joined_L17 v2 n v3 (v4 + 1) else F_K_joined_L17 v2 n v4 (v4 + 1)))))) (fun J42 => if ((tgF v4.toNatClampNeg) &&& (v2 ^^^ (-1))) = 0 then J42 1 else J42 0))
def F_K_joined (a1 : Int32) (a2 : Int32) : Option (Int32) :=
  gd (a1 < 0 ∨ 6 ≤ a1.toNatClampNeg) (gd (a2 < 0 ∨ 6 ≤ a2.toNatClampNeg) (ob1 (F_K_joined_L17 ((tgF a1.toNatClampNeg) &&& (tgF a2.toNatClampNeg)) fu 5 0) (fun v3_28 => some v3_28)))
set_option maxHeartbeats 4000000 in
set_option maxRecDepth 100000 in
theorem t_K_joined_L17 {p : Program} {l : Launch} {e : Env} {s : State} {m : MethodId} {args : Array Value} {below : List Frame} {meth : Method} {c : Code} {A : Nat → Prop} {g : va_G} {tys : List (ClassId × FieldType)} {w : va_W} (K : kX p s m args meth c "LockTable$Modes" prog_3_method_3_code 6 (some .int) A g tys) {Q : State → Prop} (v2 : Int32) : ∀ (n : Nat) (v3 : Int32) (v4 : Int32) (o_v3 : Int32) (H : Heap) (locs : List Loc) (ls : Array Slot), F_K_joined_L17 v2 n v3 v4 = some o_v3 → va_P g kcl w H → va_D A w → va_S A s.heap H locs → lv_has ls 6 [(2, .int v2), (3, .int v3), (4, .int v4)] → (∀ (H : Heap) (locs : List Loc) (ls : Array Slot), va_P g kcl w H → va_D A w → va_S A s.heap H locs → lv_has ls 6 [(3, .int o_v3)] → W p l e ({ frames := 1, cells := 0, slots := 0, locals := 20 }) s m args below meth c H locs 0 0 Q (F0 m 78 ls [])) → W p l e ({ frames := 1, cells := 0, slots := 0, locals := 20 }) s m args below meth c H locs 0 0 Q (F0 m 17 ls []) := by
  obtain ⟨hx, hb, hr, hml, hown, hts, hlocks, hK, hA, hE⟩ := id K
  intro n
  induction n with
  | zero =>
    intro v3 v4 o_v3 H locs ls hF
    rw [F_K_joined_L17] at hF
    cases hF
  | succ n ih =>
    intro v3 v4 o_v3 H locs ls hF hP hD hS hl hQ
    rw [F_K_joined_L17] at hF
    refine lv_iload hx hb d_K_joined_17 (lv_at hl 2 rfl) ?_
    refine lv_bipush (v := 6) hx hb d_K_joined_19 (by decide) ?_
    refine lv_icmp_ge (tgt := 78) hx hb d_K_joined_21 (by decide) (fun hc_9 => ?_) (fun hc_9 => ?_)
    · have hF := it_t hF hc_9
      cases hF
      exact hQ H locs ls hP hD hS (lv_sub hl [1] rfl)
    · have hF := it_f hF hc_9
      obtain ⟨t_10, hz_11, ht_12⟩ := hE.1.1
      refine va_gets hx hb hz_11 hS hown (hts _ wm_341) (fun _ h9 => h9) d_K_joined_24 ?_
      refine lv_iload hx hb d_K_joined_27 (lv_at hl 2 rfl) ?_
      obtain ⟨hg_13, hF⟩ := gd_inv hF
      refine va_ti (v := .int (tgF v4.toNatClampNeg)) hx hb ht_12 hS hg_13 rfl d_K_joined_29 ?_
      refine lv_iload_n hx hb d_K_joined_30 rfl (lv_at hl 0 rfl) ?_
      refine lv_iconst (v := (-1)) hx hb d_K_joined_31 (by decide) ?_
      refine lv_ixor hx hb d_K_joined_32 ?_
      refine lv_iand hx hb d_K_joined_33 ?_
      obtain ⟨J42, eJ42, hF⟩ := jn1_inv hF
      have hJ42 : ∀ (s_14 : Int32) (H : Heap) (locs : List Loc) (ls : Array Slot), J42 s_14 = some o_v3 → va_P g kcl w H → va_D A w → va_S A s.heap H locs → lv_has ls 6 [(2, .int v2), (3, .int v3), (4, .int v4)] → W p l e ({ frames := 1, cells := 0, slots := 0, locals := 20 }) s m args below meth c H locs 0 0 Q (F0 m 42 ls [.int s_14]) := by
        intro s_14 H locs ls hF hP hD hS hl
        rw [eJ42] at hF
        refine lv_istore (lv' := [(5, .int s_14), (2, .int v2), (3, .int v3), (4, .int v4)]) hx hb d_K_joined_42 hl (by decide) rfl (fun ls hl => ?_)
        refine lv_iload hx hb d_K_joined_44 (lv_at hl 0 rfl) ?_
        refine lv_if_eq (tgt := 72) hx hb d_K_joined_46 (by decide) (fun hc_15 => ?_) (fun hc_15 => ?_)
        · have hF := it_t hF hc_15
          refine lv_iinc (v := v4 + 1) (lv' := [(4, .int (v4 + 1)), (5, .int s_14), (2, .int v2), (3, .int v3)]) hx hb d_K_joined_72 hl (k := 3) rfl rfl (by decide) rfl (fun ls hl => ?_)
          refine lv_goto (tgt := 17) hx hb d_K_joined_75 (by decide) ?_
          exact ih _ _ _ H locs ls hF hP hD hS (lv_sub hl [2, 3, 0] rfl) hQ
        · have hF := it_f hF hc_15
          obtain ⟨t_16, hz_17, ht_18⟩ := hE.1.1
          refine va_gets hx hb hz_17 hS hown (hts _ wm_341) (fun _ h9 => h9) d_K_joined_49 ?_
          refine lv_iload hx hb d_K_joined_52 (lv_at hl 3 rfl) ?_
          obtain ⟨hg_19, hF⟩ := gd_inv hF
          refine va_ti (v := .int (tgF v4.toNatClampNeg)) hx hb ht_18 hS hg_19 rfl d_K_joined_54 ?_
          obtain ⟨r_20, hG, hF⟩ := ob1_inv hF
          refine ksi K hP hD hS (c_JI_bitCount l g tys w (tgF v4.toNatClampNeg) r_20 hG) wm_345 wm_343 wm_344 wm_57 hd_JI_bitCount rfl rfl ⟨Nat.le_of_ble_eq_true rfl, Nat.le_of_ble_eq_true rfl⟩ ⟨Nat.zero_le _, Nat.zero_le _⟩ hl.1 (rest := []) rfl (Nat.le_of_ble_eq_true rfl) d_K_joined_55 (fun H locs hP hD hS => ?_)
          obtain ⟨t_21, hz_22, ht_23⟩ := hE.1.1
          refine va_gets hx hb hz_22 hS hown (hts _ wm_341) (fun _ h9 => h9) d_K_joined_58 ?_
          refine lv_iload_n hx hb d_K_joined_61 rfl (lv_at hl 2 rfl) ?_
          obtain ⟨hg_24, hF⟩ := gd_inv hF
          refine va_ti (v := .int (tgF v3.toNatClampNeg)) hx hb ht_23 hS hg_24 rfl d_K_joined_62 ?_
          obtain ⟨r_25, hG, hF⟩ := ob1_inv hF
          refine ksi K hP hD hS (c_JI_bitCount l g tys w (tgF v3.toNatClampNeg) r_25 hG) wm_345 wm_343 wm_344 wm_57 hd_JI_bitCount rfl rfl ⟨Nat.le_of_ble_eq_true rfl, Nat.le_of_ble_eq_true rfl⟩ ⟨Nat.zero_le _, Nat.zero_le _⟩ hl.1 (rest := [.int r_20]) rfl (Nat.le_of_ble_eq_true rfl) d_K_joined_63 (fun H locs hP hD hS => ?_)
          refine lv_icmp_le (tgt := 72) hx hb d_K_joined_66 (by decide) (fun hc_26 => ?_) (fun hc_26 => ?_)
          · have hF := it_t hF hc_26
            refine lv_iinc (v := v4 + 1) (lv' := [(4, .int (v4 + 1)), (5, .int s_14), (2, .int v2), (3, .int v3)]) hx hb d_K_joined_72 hl (k := 3) rfl rfl (by decide) rfl (fun ls hl => ?_)
            refine lv_goto (tgt := 17) hx hb d_K_joined_75 (by decide) ?_
            exact ih _ _ _ H locs ls hF hP hD hS (lv_sub hl [2, 3, 0] rfl) hQ
          · have hF := it_f hF hc_26
            refine lv_iload hx hb d_K_joined_69 (lv_at hl 3 rfl) ?_
            refine lv_istore_n (lv' := [(3, .int v4), (5, .int s_14), (2, .int v2), (4, .int v4)]) hx hb d_K_joined_71 rfl hl (by decide) rfl (fun ls hl => ?_)
            refine lv_iinc (v := v4 + 1) (lv' := [(4, .int (v4 + 1)), (3, .int v4), (5, .int s_14), (2, .int v2)]) hx hb d_K_joined_72 hl (k := 3) rfl rfl (by decide) rfl (fun ls hl => ?_)
            refine lv_goto (tgt := 17) hx hb d_K_joined_75 (by decide) ?_
            exact ih _ _ _ H locs ls hF hP hD hS (lv_sub hl [3, 1, 0] rfl) hQ
      refine lv_if_ne (tgt := 41) hx hb d_K_joined_34 (by decide) (fun hc_27 => ?_) (fun hc_27 => ?_)
      · have hF := it_f hF hc_27
        refine lv_iconst (v := 0) hx hb d_K_joined_41 (by decide) ?_
        exact hJ42 _ H locs ls hF hP hD hS (lv_sub hl [0, 1, 2] rfl)
      · have hF := it_t hF hc_27
        refine lv_iconst (v := 1) hx hb d_K_joined_37 (by decide) ?_
        refine lv_goto (tgt := 42) hx hb d_K_joined_38 (by decide) ?_
        exact hJ42 _ H locs ls hF hP hD hS (lv_sub hl [0, 1, 2] rfl)
set_option maxHeartbeats 4000000 in
set_option maxRecDepth 100000 in
theorem t_K_joined {p : Program} {l : Launch} {e : Env} {s : State} {m : MethodId} {args : Array Value} {below : List Frame} {meth : Method} {c : Code} {A : Nat → Prop} {g : va_G} {tys : List (ClassId × FieldType)} {w : va_W} (K : kX p s m args meth c "LockTable$Modes" prog_3_method_3_code 6 (some .int) A g tys)  (a1 : Int32) (a2 : Int32) (r : Int32) (hF : F_K_joined a1 a2 = some r) {H : Heap} {locs : List Loc} {ls : Array Slot} (hP : va_P g kcl w H) (hD : va_D A w) (hS : va_S A s.heap H locs) (hl : lv_has ls 6 [(0, .int a1), (1, .int a2)]) : W p l e ({ frames := 1, cells := 0, slots := 0, locals := 20 }) s m args below meth c H locs 0 0 (MQ below (kQi g tys w A r) args s 0 0 A) (F0 m 0 ls []) := by
  obtain ⟨hx, hb, hr, hml, hown, hts, hlocks, hK, hA, hE⟩ := id K
  unfold F_K_joined at hF
  obtain ⟨t_1, hz_2, ht_3⟩ := hE.1.1
  refine va_gets hx hb hz_2 hS hown (hts _ wm_341) (fun _ h9 => h9) d_K_joined_0 ?_
  refine lv_iload_n hx hb d_K_joined_3 rfl (lv_at hl 0 rfl) ?_
  obtain ⟨hg_4, hF⟩ := gd_inv hF
  refine va_ti (v := .int (tgF a1.toNatClampNeg)) hx hb ht_3 hS hg_4 rfl d_K_joined_4 ?_
  obtain ⟨t_5, hz_6, ht_7⟩ := hE.1.1
  refine va_gets hx hb hz_6 hS hown (hts _ wm_341) (fun _ h9 => h9) d_K_joined_5 ?_
  refine lv_iload_n hx hb d_K_joined_8 rfl (lv_at hl 1 rfl) ?_
  obtain ⟨hg_8, hF⟩ := gd_inv hF
  refine va_ti (v := .int (tgF a2.toNatClampNeg)) hx hb ht_7 hS hg_8 rfl d_K_joined_9 ?_
  refine lv_iand hx hb d_K_joined_10 ?_
  refine lv_istore_n (lv' := [(2, .int ((tgF a1.toNatClampNeg) &&& (tgF a2.toNatClampNeg))), (0, .int a1), (1, .int a2)]) hx hb d_K_joined_11 rfl hl (by decide) rfl (fun ls hl => ?_)
  refine lv_iconst (v := 5) hx hb d_K_joined_12 (by decide) ?_
  refine lv_istore_n (lv' := [(3, .int 5), (2, .int ((tgF a1.toNatClampNeg) &&& (tgF a2.toNatClampNeg))), (0, .int a1), (1, .int a2)]) hx hb d_K_joined_13 rfl hl (by decide) rfl (fun ls hl => ?_)
  refine lv_iconst (v := 0) hx hb d_K_joined_14 (by decide) ?_
  refine lv_istore (lv' := [(4, .int 0), (3, .int 5), (2, .int ((tgF a1.toNatClampNeg) &&& (tgF a2.toNatClampNeg))), (0, .int a1), (1, .int a2)]) hx hb d_K_joined_15 hl (by decide) rfl (fun ls hl => ?_)
  obtain ⟨v3_28, hG, hF⟩ := ob1_inv hF
  refine t_K_joined_L17 K ((tgF a1.toNatClampNeg) &&& (tgF a2.toNatClampNeg)) fu _ _ _ H locs ls hG hP hD hS (lv_sub hl [2, 1, 0] rfl) (fun H locs ls hP hD hS hl => ?_)
  refine lv_iload_n hx hb d_K_joined_78 rfl (lv_at hl 0 rfl) ?_
  cases hF
  exact kri K hP hD hS d_K_joined_79 rfl
theorem c_K_joined (l : Launch) (g : va_G) (tys : List (ClassId × FieldType)) (w : va_W) (a1 : Int32) (a2 : Int32) (r : Int32) (hF : F_K_joined a1 a2 = some r) : Ci l y_K_joined prog_3_method_3_code 6 (some .int) ({ frames := 1, cells := 0, slots := 0, locals := 20 }) [.int a1, .int a2] g tys w w r :=
  Ci.of (by decide) (Nat.le_of_ble_eq_true rfl) (fun p e s m below meth c A ls K hP hD hS hl => t_K_joined K  a1 a2 r hF hP hD hS hl)
def F_K_strengthened (a1 : Int32) (a2 : Int32) : Option (Int32) :=
  if a1 = (-1) then some a2 else ob1 (F_K_joined a1 a2) (fun r_2 => some r_2)
set_option maxHeartbeats 4000000 in
set_option maxRecDepth 100000 in
theorem t_K_strengthened {p : Program} {l : Launch} {e : Env} {s : State} {m : MethodId} {args : Array Value} {below : List Frame} {meth : Method} {c : Code} {A : Nat → Prop} {g : va_G} {tys : List (ClassId × FieldType)} {w : va_W} (K : kX p s m args meth c "LockTable$Modes" prog_3_method_4_code 2 (some .int) A g tys)  (a1 : Int32) (a2 : Int32) (r : Int32) (hF : F_K_strengthened a1 a2 = some r) {H : Heap} {locs : List Loc} {ls : Array Slot} (hP : va_P g kcl w H) (hD : va_D A w) (hS : va_S A s.heap H locs) (hl : lv_has ls 2 [(0, .int a1), (1, .int a2)]) : W p l e ({ frames := 2, cells := 0, slots := 0, locals := 45 }) s m args below meth c H locs 0 0 (MQ below (kQi g tys w A r) args s 0 0 A) (F0 m 0 ls []) := by
  obtain ⟨hx, hb, hr, hml, hown, hts, hlocks, hK, hA, hE⟩ := id K
  unfold F_K_strengthened at hF
  refine lv_iload_n hx hb d_K_strengthened_0 rfl (lv_at hl 0 rfl) ?_
  refine lv_iconst (v := (-1)) hx hb d_K_strengthened_1 (by decide) ?_
  refine lv_icmp_ne (tgt := 9) hx hb d_K_strengthened_2 (by decide) (fun hc_1 => ?_) (fun hc_1 => ?_)
  · have hF := it_f hF hc_1
    refine lv_iload_n hx hb d_K_strengthened_9 rfl (lv_at hl 0 rfl) ?_
    refine lv_iload_n hx hb d_K_strengthened_10 rfl (lv_at hl 1 rfl) ?_
    obtain ⟨r_2, hG, hF⟩ := ob1_inv hF
    refine ksi K hP hD hS (c_K_joined l g tys w a1 a2 r_2 hG) wm_340 wm_338 wm_339 wm_56 hd_K_joined rfl rfl ⟨Nat.le_of_ble_eq_true rfl, Nat.le_of_ble_eq_true rfl⟩ ⟨Nat.zero_le _, Nat.zero_le _⟩ hl.1 (rest := []) rfl (Nat.le_of_ble_eq_true rfl) d_K_strengthened_11 (fun H locs hP hD hS => ?_)
    cases hF
    exact kri K hP hD hS d_K_strengthened_14 rfl
  · have hF := it_t hF hc_1
    refine lv_iload_n hx hb d_K_strengthened_5 rfl (lv_at hl 1 rfl) ?_
    refine lv_goto (tgt := 14) hx hb d_K_strengthened_6 (by decide) ?_
    cases hF
    exact kri K hP hD hS d_K_strengthened_14 rfl
theorem c_K_strengthened (l : Launch) (g : va_G) (tys : List (ClassId × FieldType)) (w : va_W) (a1 : Int32) (a2 : Int32) (r : Int32) (hF : F_K_strengthened a1 a2 = some r) : Ci l y_K_strengthened prog_3_method_4_code 2 (some .int) ({ frames := 2, cells := 0, slots := 0, locals := 45 }) [.int a1, .int a2] g tys w w r :=
  Ci.of (by decide) (Nat.le_of_ble_eq_true rfl) (fun p e s m below meth c A ls K hP hD hS hl => t_K_strengthened K  a1 a2 r hF hP hD hS hl)
def F_K_tableCovers (a1 : Int32) (a2 : Int32) : Option (Int32) :=
  if a1 = (-1) then some 0 else gd (a1 < 0 ∨ 6 ≤ a1.toNatClampNeg) (if (((btF a1.toNatClampNeg) >>> (a2 &&& 31)) &&& 1) = 0 then some 0 else some 1)
set_option maxHeartbeats 4000000 in
set_option maxRecDepth 100000 in
theorem t_K_tableCovers {p : Program} {l : Launch} {e : Env} {s : State} {m : MethodId} {args : Array Value} {below : List Frame} {meth : Method} {c : Code} {A : Nat → Prop} {g : va_G} {tys : List (ClassId × FieldType)} {w : va_W} (K : kX p s m args meth c "LockTable$Modes" prog_3_method_5_code 2 (some .boolean) A g tys)  (a1 : Int32) (a2 : Int32) (r : Int32) (hF : F_K_tableCovers a1 a2 = some r) {H : Heap} {locs : List Loc} {ls : Array Slot} (hP : va_P g kcl w H) (hD : va_D A w) (hS : va_S A s.heap H locs) (hl : lv_has ls 2 [(0, .int a1), (1, .int a2)]) : W p l e ({ frames := 0, cells := 0, slots := 0, locals := 0 }) s m args below meth c H locs 0 0 (MQ below (kQi g tys w A r) args s 0 0 A) (F0 m 0 ls []) := by
  obtain ⟨hx, hb, hr, hml, hown, hts, hlocks, hK, hA, hE⟩ := id K
  unfold F_K_tableCovers at hF
  refine lv_iload_n hx hb d_K_tableCovers_0 rfl (lv_at hl 0 rfl) ?_
  refine lv_iconst (v := (-1)) hx hb d_K_tableCovers_1 (by decide) ?_
  refine lv_icmp_eq (tgt := 21) hx hb d_K_tableCovers_2 (by decide) (fun hc_1 => ?_) (fun hc_1 => ?_)
  · have hF := it_t hF hc_1
    refine lv_iconst (v := 0) hx hb d_K_tableCovers_21 (by decide) ?_
    cases hF
    exact krz K hP hD hS d_K_tableCovers_22 rfl rfl
  · have hF := it_f hF hc_1
    obtain ⟨t_2, hz_3, ht_4⟩ := hE.1.2.1
    refine va_gets hx hb hz_3 hS hown (hts _ wm_480) (fun _ h9 => h9) d_K_tableCovers_5 ?_
    refine lv_iload_n hx hb d_K_tableCovers_8 rfl (lv_at hl 0 rfl) ?_
    obtain ⟨hg_5, hF⟩ := gd_inv hF
    refine va_ti (v := .int (btF a1.toNatClampNeg)) hx hb ht_4 hS hg_5 rfl d_K_tableCovers_9 ?_
    refine lv_iload_n hx hb d_K_tableCovers_10 rfl (lv_at hl 1 rfl) ?_
    refine lv_ishr hx hb d_K_tableCovers_11 ?_
    refine lv_iconst (v := 1) hx hb d_K_tableCovers_12 (by decide) ?_
    refine lv_iand hx hb d_K_tableCovers_13 ?_
    refine lv_if_eq (tgt := 21) hx hb d_K_tableCovers_14 (by decide) (fun hc_6 => ?_) (fun hc_6 => ?_)
    · have hF := it_t hF hc_6
      refine lv_iconst (v := 0) hx hb d_K_tableCovers_21 (by decide) ?_
      cases hF
      exact krz K hP hD hS d_K_tableCovers_22 rfl rfl
    · have hF := it_f hF hc_6
      refine lv_iconst (v := 1) hx hb d_K_tableCovers_17 (by decide) ?_
      refine lv_goto (tgt := 22) hx hb d_K_tableCovers_18 (by decide) ?_
      cases hF
      exact krz K hP hD hS d_K_tableCovers_22 rfl rfl
theorem c_K_tableCovers (l : Launch) (g : va_G) (tys : List (ClassId × FieldType)) (w : va_W) (a1 : Int32) (a2 : Int32) (r : Int32) (hF : F_K_tableCovers a1 a2 = some r) : Ci l y_K_tableCovers prog_3_method_5_code 2 (some .boolean) ({ frames := 0, cells := 0, slots := 0, locals := 0 }) [.int a1, .int a2] g tys w w r :=
  Ci.of (by decide) (Nat.le_of_ble_eq_true rfl) (fun p e s m below meth c A ls K hP hD hS hl => t_K_tableCovers K  a1 a2 r hF hP hD hS hl)
def F_K_rangeCovers (a1 : Int32) (a2 : Int32) : Option (Int32) :=
  gd (a1 < 0 ∨ 6 ≤ a1.toNatClampNeg) (if (((brF a1.toNatClampNeg) >>> (a2 &&& 31)) &&& 1) = 0 then some 0 else some 1)
set_option maxHeartbeats 4000000 in
set_option maxRecDepth 100000 in
theorem t_K_rangeCovers {p : Program} {l : Launch} {e : Env} {s : State} {m : MethodId} {args : Array Value} {below : List Frame} {meth : Method} {c : Code} {A : Nat → Prop} {g : va_G} {tys : List (ClassId × FieldType)} {w : va_W} (K : kX p s m args meth c "LockTable$Modes" prog_3_method_6_code 2 (some .boolean) A g tys)  (a1 : Int32) (a2 : Int32) (r : Int32) (hF : F_K_rangeCovers a1 a2 = some r) {H : Heap} {locs : List Loc} {ls : Array Slot} (hP : va_P g kcl w H) (hD : va_D A w) (hS : va_S A s.heap H locs) (hl : lv_has ls 2 [(0, .int a1), (1, .int a2)]) : W p l e ({ frames := 0, cells := 0, slots := 0, locals := 0 }) s m args below meth c H locs 0 0 (MQ below (kQi g tys w A r) args s 0 0 A) (F0 m 0 ls []) := by
  obtain ⟨hx, hb, hr, hml, hown, hts, hlocks, hK, hA, hE⟩ := id K
  unfold F_K_rangeCovers at hF
  obtain ⟨t_1, hz_2, ht_3⟩ := hE.1.2.2
  refine va_gets hx hb hz_2 hS hown (hts _ wm_489) (fun _ h9 => h9) d_K_rangeCovers_0 ?_
  refine lv_iload_n hx hb d_K_rangeCovers_3 rfl (lv_at hl 0 rfl) ?_
  obtain ⟨hg_4, hF⟩ := gd_inv hF
  refine va_ti (v := .int (brF a1.toNatClampNeg)) hx hb ht_3 hS hg_4 rfl d_K_rangeCovers_4 ?_
  refine lv_iload_n hx hb d_K_rangeCovers_5 rfl (lv_at hl 1 rfl) ?_
  refine lv_ishr hx hb d_K_rangeCovers_6 ?_
  refine lv_iconst (v := 1) hx hb d_K_rangeCovers_7 (by decide) ?_
  refine lv_iand hx hb d_K_rangeCovers_8 ?_
  refine lv_if_eq (tgt := 16) hx hb d_K_rangeCovers_9 (by decide) (fun hc_5 => ?_) (fun hc_5 => ?_)
  · have hF := it_t hF hc_5
    refine lv_iconst (v := 0) hx hb d_K_rangeCovers_16 (by decide) ?_
    cases hF
    exact krz K hP hD hS d_K_rangeCovers_17 rfl rfl
  · have hF := it_f hF hc_5
    refine lv_iconst (v := 1) hx hb d_K_rangeCovers_12 (by decide) ?_
    refine lv_goto (tgt := 17) hx hb d_K_rangeCovers_13 (by decide) ?_
    cases hF
    exact krz K hP hD hS d_K_rangeCovers_17 rfl rfl
theorem c_K_rangeCovers (l : Launch) (g : va_G) (tys : List (ClassId × FieldType)) (w : va_W) (a1 : Int32) (a2 : Int32) (r : Int32) (hF : F_K_rangeCovers a1 a2 = some r) : Ci l y_K_rangeCovers prog_3_method_6_code 2 (some .boolean) ({ frames := 0, cells := 0, slots := 0, locals := 0 }) [.int a1, .int a2] g tys w w r :=
  Ci.of (by decide) (Nat.le_of_ble_eq_true rfl) (fun p e s m below meth c A ls K hP hD hS hl => t_K_rangeCovers K  a1 a2 r hF hP hD hS hl)
def F_K_allowsRange (a1 : Int32) (a2 : Int32) : Option (Int32) :=
  if a2 = 2 then if a1 = (-1) then some 0 else some 1 else if a1 = 1 then some 1 else if a1 = 3 then some 1 else if a1 = 5 then some 1 else some 0
set_option maxHeartbeats 4000000 in
set_option maxRecDepth 100000 in
theorem t_K_allowsRange {p : Program} {l : Launch} {e : Env} {s : State} {m : MethodId} {args : Array Value} {below : List Frame} {meth : Method} {c : Code} {A : Nat → Prop} {g : va_G} {tys : List (ClassId × FieldType)} {w : va_W} (K : kX p s m args meth c "LockTable$Modes" prog_3_method_7_code 2 (some .boolean) A g tys)  (a1 : Int32) (a2 : Int32) (r : Int32) (hF : F_K_allowsRange a1 a2 = some r) {H : Heap} {locs : List Loc} {ls : Array Slot} (hP : va_P g kcl w H) (hD : va_D A w) (hS : va_S A s.heap H locs) (hl : lv_has ls 2 [(0, .int a1), (1, .int a2)]) : W p l e ({ frames := 0, cells := 0, slots := 0, locals := 0 }) s m args below meth c H locs 0 0 (MQ below (kQi g tys w A r) args s 0 0 A) (F0 m 0 ls []) := by
  obtain ⟨hx, hb, hr, hml, hown, hts, hlocks, hK, hA, hE⟩ := id K
  unfold F_K_allowsRange at hF
  refine lv_iload_n hx hb d_K_allowsRange_0 rfl (lv_at hl 1 rfl) ?_
  refine lv_iconst (v := 2) hx hb d_K_allowsRange_1 (by decide) ?_
  refine lv_icmp_ne (tgt := 18) hx hb d_K_allowsRange_2 (by decide) (fun hc_1 => ?_) (fun hc_1 => ?_)
  · have hF := it_f hF hc_1
    refine lv_iload_n hx hb d_K_allowsRange_18 rfl (lv_at hl 0 rfl) ?_
    refine lv_iconst (v := 1) hx hb d_K_allowsRange_19 (by decide) ?_
    refine lv_icmp_eq (tgt := 33) hx hb d_K_allowsRange_20 (by decide) (fun hc_2 => ?_) (fun hc_2 => ?_)
    · have hF := it_t hF hc_2
      refine lv_iconst (v := 1) hx hb d_K_allowsRange_33 (by decide) ?_
      refine lv_goto (tgt := 38) hx hb d_K_allowsRange_34 (by decide) ?_
      cases hF
      exact krz K hP hD hS d_K_allowsRange_38 rfl rfl
    · have hF := it_f hF hc_2
      refine lv_iload_n hx hb d_K_allowsRange_23 rfl (lv_at hl 0 rfl) ?_
      refine lv_iconst (v := 3) hx hb d_K_allowsRange_24 (by decide) ?_
      refine lv_icmp_eq (tgt := 33) hx hb d_K_allowsRange_25 (by decide) (fun hc_3 => ?_) (fun hc_3 => ?_)
      · have hF := it_t hF hc_3
        refine lv_iconst (v := 1) hx hb d_K_allowsRange_33 (by decide) ?_
        refine lv_goto (tgt := 38) hx hb d_K_allowsRange_34 (by decide) ?_
        cases hF
        exact krz K hP hD hS d_K_allowsRange_38 rfl rfl
      · have hF := it_f hF hc_3
        refine lv_iload_n hx hb d_K_allowsRange_28 rfl (lv_at hl 0 rfl) ?_
        refine lv_iconst (v := 5) hx hb d_K_allowsRange_29 (by decide) ?_
        refine lv_icmp_ne (tgt := 37) hx hb d_K_allowsRange_30 (by decide) (fun hc_4 => ?_) (fun hc_4 => ?_)
        · have hF := it_f hF hc_4
          refine lv_iconst (v := 0) hx hb d_K_allowsRange_37 (by decide) ?_
          cases hF
          exact krz K hP hD hS d_K_allowsRange_38 rfl rfl
        · have hF := it_t hF hc_4
          refine lv_iconst (v := 1) hx hb d_K_allowsRange_33 (by decide) ?_
          refine lv_goto (tgt := 38) hx hb d_K_allowsRange_34 (by decide) ?_
          cases hF
          exact krz K hP hD hS d_K_allowsRange_38 rfl rfl
  · have hF := it_t hF hc_1
    refine lv_iload_n hx hb d_K_allowsRange_5 rfl (lv_at hl 0 rfl) ?_
    refine lv_iconst (v := (-1)) hx hb d_K_allowsRange_6 (by decide) ?_
    refine lv_icmp_eq (tgt := 14) hx hb d_K_allowsRange_7 (by decide) (fun hc_5 => ?_) (fun hc_5 => ?_)
    · have hF := it_t hF hc_5
      refine lv_iconst (v := 0) hx hb d_K_allowsRange_14 (by decide) ?_
      refine lv_goto (tgt := 38) hx hb d_K_allowsRange_15 (by decide) ?_
      cases hF
      exact krz K hP hD hS d_K_allowsRange_38 rfl rfl
    · have hF := it_f hF hc_5
      refine lv_iconst (v := 1) hx hb d_K_allowsRange_10 (by decide) ?_
      refine lv_goto (tgt := 38) hx hb d_K_allowsRange_11 (by decide) ?_
      cases hF
      exact krz K hP hD hS d_K_allowsRange_38 rfl rfl
theorem c_K_allowsRange (l : Launch) (g : va_G) (tys : List (ClassId × FieldType)) (w : va_W) (a1 : Int32) (a2 : Int32) (r : Int32) (hF : F_K_allowsRange a1 a2 = some r) : Ci l y_K_allowsRange prog_3_method_7_code 2 (some .boolean) ({ frames := 0, cells := 0, slots := 0, locals := 0 }) [.int a1, .int a2] g tys w w r :=
  Ci.of (by decide) (Nat.le_of_ble_eq_true rfl) (fun p e s m below meth c A ls K hP hD hS hl => t_K_allowsRange K  a1 a2 r hF hP hD hS hl)
def F_K_isReading (a1 : Int32) : Option (Int32) :=
  if a1 = 0 then some 1 else if a1 = 2 then some 1 else if a1 = 4 then some 1 else some 0
set_option maxHeartbeats 4000000 in
set_option maxRecDepth 100000 in
theorem t_K_isReading {p : Program} {l : Launch} {e : Env} {s : State} {m : MethodId} {args : Array Value} {below : List Frame} {meth : Method} {c : Code} {A : Nat → Prop} {g : va_G} {tys : List (ClassId × FieldType)} {w : va_W} (K : kX p s m args meth c "LockTable$Modes" prog_3_method_8_code 1 (some .boolean) A g tys)  (a1 : Int32) (r : Int32) (hF : F_K_isReading a1 = some r) {H : Heap} {locs : List Loc} {ls : Array Slot} (hP : va_P g kcl w H) (hD : va_D A w) (hS : va_S A s.heap H locs) (hl : lv_has ls 1 [(0, .int a1)]) : W p l e ({ frames := 0, cells := 0, slots := 0, locals := 0 }) s m args below meth c H locs 0 0 (MQ below (kQi g tys w A r) args s 0 0 A) (F0 m 0 ls []) := by
  obtain ⟨hx, hb, hr, hml, hown, hts, hlocks, hK, hA, hE⟩ := id K
  unfold F_K_isReading at hF
  refine lv_iload_n hx hb d_K_isReading_0 rfl (lv_at hl 0 rfl) ?_
  refine lv_if_eq (tgt := 14) hx hb d_K_isReading_1 (by decide) (fun hc_1 => ?_) (fun hc_1 => ?_)
  · have hF := it_t hF hc_1
    refine lv_iconst (v := 1) hx hb d_K_isReading_14 (by decide) ?_
    refine lv_goto (tgt := 19) hx hb d_K_isReading_15 (by decide) ?_
    cases hF
    exact krz K hP hD hS d_K_isReading_19 rfl rfl
  · have hF := it_f hF hc_1
    refine lv_iload_n hx hb d_K_isReading_4 rfl (lv_at hl 0 rfl) ?_
    refine lv_iconst (v := 2) hx hb d_K_isReading_5 (by decide) ?_
    refine lv_icmp_eq (tgt := 14) hx hb d_K_isReading_6 (by decide) (fun hc_2 => ?_) (fun hc_2 => ?_)
    · have hF := it_t hF hc_2
      refine lv_iconst (v := 1) hx hb d_K_isReading_14 (by decide) ?_
      refine lv_goto (tgt := 19) hx hb d_K_isReading_15 (by decide) ?_
      cases hF
      exact krz K hP hD hS d_K_isReading_19 rfl rfl
    · have hF := it_f hF hc_2
      refine lv_iload_n hx hb d_K_isReading_9 rfl (lv_at hl 0 rfl) ?_
      refine lv_iconst (v := 4) hx hb d_K_isReading_10 (by decide) ?_
      refine lv_icmp_ne (tgt := 18) hx hb d_K_isReading_11 (by decide) (fun hc_3 => ?_) (fun hc_3 => ?_)
      · have hF := it_f hF hc_3
        refine lv_iconst (v := 0) hx hb d_K_isReading_18 (by decide) ?_
        cases hF
        exact krz K hP hD hS d_K_isReading_19 rfl rfl
      · have hF := it_t hF hc_3
        refine lv_iconst (v := 1) hx hb d_K_isReading_14 (by decide) ?_
        refine lv_goto (tgt := 19) hx hb d_K_isReading_15 (by decide) ?_
        cases hF
        exact krz K hP hD hS d_K_isReading_19 rfl rfl
theorem c_K_isReading (l : Launch) (g : va_G) (tys : List (ClassId × FieldType)) (w : va_W) (a1 : Int32) (r : Int32) (hF : F_K_isReading a1 = some r) : Ci l y_K_isReading prog_3_method_8_code 1 (some .boolean) ({ frames := 0, cells := 0, slots := 0, locals := 0 }) [.int a1] g tys w w r :=
  Ci.of (by decide) (Nat.le_of_ble_eq_true rfl) (fun p e s m below meth c A ls K hP hD hS hl => t_K_isReading K  a1 r hF hP hD hS hl)
