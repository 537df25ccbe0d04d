theorem wm_78 : Cond.fieldLink "LockTable$Locks" 9 "LockTable$Locks" "tableModes" "[I" ∈ w_all := w_mem 78 (by decide +kernel) (by decide +kernel)
theorem wm_79 : Cond.fieldLink "LockTable$Locks" 21 "LockTable$Locks" "owners" "[I" ∈ w_all := w_mem 79 (by decide +kernel) (by decide +kernel)
theorem wm_80 : Cond.fieldLink "LockTable$Locks" 24 "LockTable$Locks" "tables" "[I" ∈ w_all := w_mem 80 (by decide +kernel) (by decide +kernel)
theorem wm_413 : Cond.code ⟨"LockTable$Locks", "isOn", "(III)Z"⟩ prog_2_method_17_code 4 (some .boolean) ∈ w_all := w_mem 413 (by decide +kernel) (by decide +kernel)
theorem wm_410 : Cond.methodLink "LockTable$Locks" 58 ⟨"LockTable$Locks", "isOn", "(III)Z"⟩ ∈ w_all := w_mem 410 (by decide +kernel) (by decide +kernel)
theorem wm_412 : Cond.instanceMethod ⟨"LockTable$Locks", "isOn", "(III)Z"⟩ ∈ w_all := w_mem 412 (by decide +kernel) (by decide +kernel)
theorem wm_9 : Cond.selects "LockTable$Locks" ⟨"LockTable$Locks", "isOn", "(III)Z"⟩ ⟨"LockTable$Locks", "isOn", "(III)Z"⟩ ∈ w_all := w_mem 9 (by decide +kernel) (by decide +kernel)
theorem wm_48 : Cond.initialized "LockTable$Locks" ∈ w_all := w_mem 48 (by decide +kernel) (by decide +kernel)
theorem wm_81 : Cond.fieldLink "LockTable$Locks" 27 "LockTable$Locks" "lows" "[J" ∈ w_all := w_mem 81 (by decide +kernel) (by decide +kernel)
theorem wm_82 : Cond.fieldLink "LockTable$Locks" 31 "LockTable$Locks" "highs" "[J" ∈ w_all := w_mem 82 (by decide +kernel) (by decide +kernel)
theorem wm_84 : Cond.fieldLink "LockTable$Locks" 37 "LockTable$Locks" "count" "I" ∈ w_all := w_mem 84 (by decide +kernel) (by decide +kernel)
theorem wm_83 : Cond.fieldLink "LockTable$Locks" 34 "LockTable$Locks" "modes" "[I" ∈ w_all := w_mem 83 (by decide +kernel) (by decide +kernel)
theorem wm_329 : Cond.code ⟨"LockTable$Locks", "heldMode", "(II)I"⟩ prog_2_method_2_code 3 (some .int) ∈ w_all := w_mem 329 (by decide +kernel) (by decide +kernel)
theorem wm_380 : Cond.methodLink "LockTable$Locks" 41 ⟨"LockTable$Locks", "heldMode", "(II)I"⟩ ∈ w_all := w_mem 380 (by decide +kernel) (by decide +kernel)
theorem wm_327 : Cond.instanceMethod ⟨"LockTable$Locks", "heldMode", "(II)I"⟩ ∈ w_all := w_mem 327 (by decide +kernel) (by decide +kernel)
theorem wm_328 : Cond.selects "LockTable$Locks" ⟨"LockTable$Locks", "heldMode", "(II)I"⟩ ⟨"LockTable$Locks", "heldMode", "(II)I"⟩ ∈ w_all := w_mem 328 (by decide +kernel) (by decide +kernel)
theorem wm_479 : Cond.code ⟨"LockTable$Modes", "tableCovers", "(II)Z"⟩ prog_3_method_5_code 2 (some .boolean) ∈ w_all := w_mem 479 (by decide +kernel) (by decide +kernel)
theorem wm_477 : Cond.methodLink "LockTable$Locks" 45 ⟨"LockTable$Modes", "tableCovers", "(II)Z"⟩ ∈ w_all := w_mem 477 (by decide +kernel) (by decide +kernel)
theorem wm_478 : Cond.static ⟨"LockTable$Modes", "tableCovers", "(II)Z"⟩ ∈ w_all := w_mem 478 (by decide +kernel) (by decide +kernel)
theorem wm_485 : Cond.code ⟨"LockTable$Locks", "isRound", "(IIIJJ)Z"⟩ prog_2_method_18_code 8 (some .boolean) ∈ w_all := w_mem 485 (by decide +kernel) (by decide +kernel)
theorem wm_482 : Cond.methodLink "LockTable$Locks" 51 ⟨"LockTable$Locks", "isRound", "(IIIJJ)Z"⟩ ∈ w_all := w_mem 482 (by decide +kernel) (by decide +kernel)
theorem wm_484 : Cond.instanceMethod ⟨"LockTable$Locks", "isRound", "(IIIJJ)Z"⟩ ∈ w_all := w_mem 484 (by decide +kernel) (by decide +kernel)
theorem wm_16 : Cond.selects "LockTable$Locks" ⟨"LockTable$Locks", "isRound", "(IIIJJ)Z"⟩ ⟨"LockTable$Locks", "isRound", "(IIIJJ)Z"⟩ ∈ w_all := w_mem 16 (by decide +kernel) (by decide +kernel)
theorem wm_488 : Cond.code ⟨"LockTable$Modes", "rangeCovers", "(II)Z"⟩ prog_3_method_6_code 2 (some .boolean) ∈ w_all := w_mem 488 (by decide +kernel) (by decide +kernel)
theorem wm_486 : Cond.methodLink "LockTable$Locks" 55 ⟨"LockTable$Modes", "rangeCovers", "(II)Z"⟩ ∈ w_all := w_mem 486 (by decide +kernel) (by decide +kernel)
theorem wm_487 : Cond.static ⟨"LockTable$Modes", "rangeCovers", "(II)Z"⟩ ∈ w_all := w_mem 487 (by decide +kernel) (by decide +kernel)
theorem wm_639 : Cond.methodLink "LockTable$Locks" 62 ⟨"java/lang/Math", "max", "(II)I"⟩ ∈ w_all := w_mem 639 (by decide +kernel) (by decide +kernel)
theorem wm_640 : Cond.static ⟨"java/lang/Math", "max", "(II)I"⟩ ∈ w_all := w_mem 640 (by decide +kernel) (by decide +kernel)
theorem wm_59 : Cond.initialized "java/lang/Math" ∈ w_all := w_mem 59 (by decide +kernel) (by decide +kernel)
theorem wm_641 : Cond.code ⟨"java/lang/Math", "max", "(II)I"⟩ prog_11_method_65_code 2 (some .int) ∈ w_all := w_mem 641 (by decide +kernel) (by decide +kernel)
theorem wm_375 : Cond.code ⟨"LockTable$Modes", "goTogether", "(II)Z"⟩ prog_3_method_2_code 2 (some .boolean) ∈ w_all := w_mem 375 (by decide +kernel) (by decide +kernel)
theorem wm_373 : Cond.methodLink "LockTable$Locks" 67 ⟨"LockTable$Modes", "goTogether", "(II)Z"⟩ ∈ w_all := w_mem 373 (by decide +kernel) (by decide +kernel)
theorem wm_374 : Cond.static ⟨"LockTable$Modes", "goTogether", "(II)Z"⟩ ∈ w_all := w_mem 374 (by decide +kernel) (by decide +kernel)
theorem wm_417 : Cond.code ⟨"LockTable$Locks", "dropRow", "(I)V"⟩ prog_2_method_19_code 2 none ∈ w_all := w_mem 417 (by decide +kernel) (by decide +kernel)
theorem wm_414 : Cond.methodLink "LockTable$Locks" 70 ⟨"LockTable$Locks", "dropRow", "(I)V"⟩ ∈ w_all := w_mem 414 (by decide +kernel) (by decide +kernel)
theorem wm_416 : Cond.instanceMethod ⟨"LockTable$Locks", "dropRow", "(I)V"⟩ ∈ w_all := w_mem 416 (by decide +kernel) (by decide +kernel)
theorem wm_10 : Cond.selects "LockTable$Locks" ⟨"LockTable$Locks", "dropRow", "(I)V"⟩ ⟨"LockTable$Locks", "dropRow", "(I)V"⟩ ∈ w_all := w_mem 10 (by decide +kernel) (by decide +kernel)
theorem wm_550 : Cond.code ⟨"LockTable$Modes", "isReading", "(I)Z"⟩ prog_3_method_8_code 1 (some .boolean) ∈ w_all := w_mem 550 (by decide +kernel) (by decide +kernel)
theorem wm_548 : Cond.methodLink "LockTable$Locks" 78 ⟨"LockTable$Modes", "isReading", "(I)Z"⟩ ∈ w_all := w_mem 548 (by decide +kernel) (by decide +kernel)
theorem wm_549 : Cond.static ⟨"LockTable$Modes", "isReading", "(I)Z"⟩ ∈ w_all := w_mem 549 (by decide +kernel) (by decide +kernel)
theorem wm_405 : Cond.code ⟨"LockTable$Locks", "setTable", "(III)V"⟩ prog_2_method_3_code 4 none ∈ w_all := w_mem 405 (by decide +kernel) (by decide +kernel)
theorem wm_547 : Cond.methodLink "LockTable$Locks" 74 ⟨"LockTable$Locks", "setTable", "(III)V"⟩ ∈ w_all := w_mem 547 (by decide +kernel) (by decide +kernel)
theorem wm_403 : Cond.instanceMethod ⟨"LockTable$Locks", "setTable", "(III)V"⟩ ∈ w_all := w_mem 403 (by decide +kernel) (by decide +kernel)
theorem wm_404 : Cond.selects "LockTable$Locks" ⟨"LockTable$Locks", "setTable", "(III)V"⟩ ⟨"LockTable$Locks", "setTable", "(III)V"⟩ ∈ w_all := w_mem 404 (by decide +kernel) (by decide +kernel)
abbrev y_L_heldMode : MethodName := ⟨"LockTable$Locks", "heldMode", "(II)I"⟩
theorem hd_L_heldMode : y_L_heldMode.cls ≠ "java/lang/invoke/MethodHandle" ∧ y_L_heldMode.cls ≠ "java/lang/invoke/VarHandle" ∧ (parseMethodDescriptor y_L_heldMode.desc).map (fun d => d.parameters.length) = some 2 := ⟨by decide, by decide, by decide +kernel⟩
abbrev y_L_setTable : MethodName := ⟨"LockTable$Locks", "setTable", "(III)V"⟩
theorem hd_L_setTable : y_L_setTable.cls ≠ "java/lang/invoke/MethodHandle" ∧ y_L_setTable.cls ≠ "java/lang/invoke/VarHandle" ∧ (parseMethodDescriptor y_L_setTable.desc).map (fun d => d.parameters.length) = some 3 := ⟨by decide, by decide, by decide +kernel⟩
abbrev y_L_isOn : MethodName := ⟨"LockTable$Locks", "isOn", "(III)Z"⟩
theorem hd_L_isOn : y_L_isOn.cls ≠ "java/lang/invoke/MethodHandle" ∧ y_L_isOn.cls ≠ "java/lang/invoke/VarHandle" ∧ (parseMethodDescriptor y_L_isOn.desc).map (fun d => d.parameters.length) = some 3 := ⟨by decide, by decide, by decide +kernel⟩
abbrev y_L_isRound : MethodName := ⟨"LockTable$Locks", "isRound", "(IIIJJ)Z"⟩
theorem hd_L_isRound : y_L_isRound.cls ≠ "java/lang/invoke/MethodHandle" ∧ y_L_isRound.cls ≠ "java/lang/invoke/VarHandle" ∧ (parseMethodDescriptor y_L_isRound.desc).map (fun d => d.parameters.length) = some 5 := ⟨by decide, by decide, by decide +kernel⟩
abbrev y_L_dropRow : MethodName := ⟨"LockTable$Locks", "dropRow", "(I)V"⟩
theorem hd_L_dropRow : y_L_dropRow.cls ≠ "java/lang/invoke/MethodHandle" ∧ y_L_dropRow.cls ≠ "java/lang/invoke/VarHandle" ∧ (parseMethodDescriptor y_L_dropRow.desc).map (fun d => d.parameters.length) = some 1 := ⟨by decide, by decide, by decide +kernel⟩
abbrev y_L_addRange : MethodName := ⟨"LockTable$Locks", "addRange", "(IIJJI)V"⟩
theorem hd_L_addRange : y_L_addRange.cls ≠ "java/lang/invoke/MethodHandle" ∧ y_L_addRange.cls ≠ "java/lang/invoke/VarHandle" ∧ (parseMethodDescriptor y_L_addRange.desc).map (fun d => d.parameters.length) = some 5 := ⟨by decide, by decide, by decide +kernel⟩
abbrev y_L_countRanges : MethodName := ⟨"LockTable$Locks", "countRanges", "(II)I"⟩
theorem hd_L_countRanges : y_L_countRanges.cls ≠ "java/lang/invoke/MethodHandle" ∧ y_L_countRanges.cls ≠ "java/lang/invoke/VarHandle" ∧ (parseMethodDescriptor y_L_countRanges.desc).map (fun d => d.parameters.length) = some 2 := ⟨by decide, by decide, by decide +kernel⟩
abbrev y_L_coverRange : MethodName := ⟨"LockTable$Locks", "coverRange", "(IIJJI)Z"⟩
theorem hd_L_coverRange : y_L_coverRange.cls ≠ "java/lang/invoke/MethodHandle" ∧ y_L_coverRange.cls ≠ "java/lang/invoke/VarHandle" ∧ (parseMethodDescriptor y_L_coverRange.desc).map (fun d => d.parameters.length) = some 5 := ⟨by decide, by decide, by decide +kernel⟩
abbrev y_L_haveRangeRound : MethodName := ⟨"LockTable$Locks", "haveRangeRound", "(IIJJ)Z"⟩
theorem hd_L_haveRangeRound : y_L_haveRangeRound.cls ≠ "java/lang/invoke/MethodHandle" ∧ y_L_haveRangeRound.cls ≠ "java/lang/invoke/VarHandle" ∧ (parseMethodDescriptor y_L_haveRangeRound.desc).map (fun d => d.parameters.length) = some 4 := ⟨by decide, by decide, by decide +kernel⟩
abbrev y_L_haveStrongRange : MethodName := ⟨"LockTable$Locks", "haveStrongRange", "(II)Z"⟩
theorem hd_L_haveStrongRange : y_L_haveStrongRange.cls ≠ "java/lang/invoke/MethodHandle" ∧ y_L_haveStrongRange.cls ≠ "java/lang/invoke/VarHandle" ∧ (parseMethodDescriptor y_L_haveStrongRange.desc).map (fun d => d.parameters.length) = some 2 := ⟨by decide, by decide, by decide +kernel⟩
abbrev y_L_countOf : MethodName := ⟨"LockTable$Locks", "countOf", "(I)I"⟩
theorem hd_L_countOf : y_L_countOf.cls ≠ "java/lang/invoke/MethodHandle" ∧ y_L_countOf.cls ≠ "java/lang/invoke/VarHandle" ∧ (parseMethodDescriptor y_L_countOf.desc).map (fun d => d.parameters.length) = some 1 := ⟨by decide, by decide, by decide +kernel⟩
abbrev y_L_countAll : MethodName := ⟨"LockTable$Locks", "countAll", "()I"⟩
theorem hd_L_countAll : y_L_countAll.cls ≠ "java/lang/invoke/MethodHandle" ∧ y_L_countAll.cls ≠ "java/lang/invoke/VarHandle" ∧ (parseMethodDescriptor y_L_countAll.desc).map (fun d => d.parameters.length) = some 0 := ⟨by decide, by decide, by decide +kernel⟩
abbrev y_L_strongestOn : MethodName := ⟨"LockTable$Locks", "strongestOn", "(IIJ)I"⟩
theorem hd_L_strongestOn : y_L_strongestOn.cls ≠ "java/lang/invoke/MethodHandle" ∧ y_L_strongestOn.cls ≠ "java/lang/invoke/VarHandle" ∧ (parseMethodDescriptor y_L_strongestOn.desc).map (fun d => d.parameters.length) = some 3 := ⟨by decide, by decide, by decide +kernel⟩
abbrev y_L_againstTable : MethodName := ⟨"LockTable$Locks", "againstTable", "(III)I"⟩
theorem hd_L_againstTable : y_L_againstTable.cls ≠ "java/lang/invoke/MethodHandle" ∧ y_L_againstTable.cls ≠ "java/lang/invoke/VarHandle" ∧ (parseMethodDescriptor y_L_againstTable.desc).map (fun d => d.parameters.length) = some 3 := ⟨by decide, by decide, by decide +kernel⟩
abbrev y_L_againstRange : MethodName := ⟨"LockTable$Locks", "againstRange", "(IIJJI)I"⟩
theorem hd_L_againstRange : y_L_againstRange.cls ≠ "java/lang/invoke/MethodHandle" ∧ y_L_againstRange.cls ≠ "java/lang/invoke/VarHandle" ∧ (parseMethodDescriptor y_L_againstRange.desc).map (fun d => d.parameters.length) = some 5 := ⟨by decide, by decide, by decide +kernel⟩
abbrev y_L_dropRanges : MethodName := ⟨"LockTable$Locks", "dropRanges", "(II)V"⟩
theorem hd_L_dropRanges : y_L_dropRanges.cls ≠ "java/lang/invoke/MethodHandle" ∧ y_L_dropRanges.cls ≠ "java/lang/invoke/VarHandle" ∧ (parseMethodDescriptor y_L_dropRanges.desc).map (fun d => d.parameters.length) = some 2 := ⟨by decide, by decide, by decide +kernel⟩
abbrev y_L_dropReading : MethodName := ⟨"LockTable$Locks", "dropReading", "(I)V"⟩
theorem hd_L_dropReading : y_L_dropReading.cls ≠ "java/lang/invoke/MethodHandle" ∧ y_L_dropReading.cls ≠ "java/lang/invoke/VarHandle" ∧ (parseMethodDescriptor y_L_dropReading.desc).map (fun d => d.parameters.length) = some 1 := ⟨by decide, by decide, by decide +kernel⟩
abbrev y_L_dropAll : MethodName := ⟨"LockTable$Locks", "dropAll", "(I)V"⟩
theorem hd_L_dropAll : y_L_dropAll.cls ≠ "java/lang/invoke/MethodHandle" ∧ y_L_dropAll.cls ≠ "java/lang/invoke/VarHandle" ∧ (parseMethodDescriptor y_L_dropAll.desc).map (fun d => d.parameters.length) = some 1 := ⟨by decide, by decide, by decide +kernel⟩
theorem d_L_heldMode_0 : decode prog_2_method_2_code 0 = .ok (.aload_n 0, 1) := by decide +kernel
theorem d_L_heldMode_1 : decode prog_2_method_2_code 1 = .ok (.getfield 9, 3) := by decide +kernel
theorem d_L_heldMode_4 : decode prog_2_method_2_code 4 = .ok (.iload_n 1, 1) := by decide +kernel
theorem d_L_heldMode_5 : decode prog_2_method_2_code 5 = .ok (.bipush 16, 2) := by decide +kernel
theorem d_L_heldMode_7 : decode prog_2_method_2_code 7 = .ok (.imul, 1) := by decide +kernel
theorem d_L_heldMode_8 : decode prog_2_method_2_code 8 = .ok (.iload_n 2, 1) := by decide +kernel
theorem d_L_heldMode_9 : decode prog_2_method_2_code 9 = .ok (.iadd, 1) := by decide +kernel
theorem d_L_heldMode_10 : decode prog_2_method_2_code 10 = .ok (.iaload, 1) := by decide +kernel
theorem d_L_heldMode_11 : decode prog_2_method_2_code 11 = .ok (.ireturn, 1) := by decide +kernel
theorem d_L_setTable_0 : decode prog_2_method_3_code 0 = .ok (.aload_n 0, 1) := by decide +kernel
theorem d_L_setTable_1 : decode prog_2_method_3_code 1 = .ok (.getfield 9, 3) := by decide +kernel
theorem d_L_setTable_4 : decode prog_2_method_3_code 4 = .ok (.iload_n 1, 1) := by decide +kernel
theorem d_L_setTable_5 : decode prog_2_method_3_code 5 = .ok (.bipush 16, 2) := by decide +kernel
theorem d_L_setTable_7 : decode prog_2_method_3_code 7 = .ok (.imul, 1) := by decide +kernel
theorem d_L_setTable_8 : decode prog_2_method_3_code 8 = .ok (.iload_n 2, 1) := by decide +kernel
theorem d_L_setTable_9 : decode prog_2_method_3_code 9 = .ok (.iadd, 1) := by decide +kernel
theorem d_L_setTable_10 : decode prog_2_method_3_code 10 = .ok (.iload_n 3, 1) := by decide +kernel
theorem d_L_setTable_11 : decode prog_2_method_3_code 11 = .ok (.iastore, 1) := by decide +kernel
theorem d_L_setTable_12 : decode prog_2_method_3_code 12 = .ok (.return_, 1) := by decide +kernel
theorem d_L_isOn_0 : decode prog_2_method_17_code 0 = .ok (.aload_n 0, 1) := by decide +kernel
theorem d_L_isOn_1 : decode prog_2_method_17_code 1 = .ok (.getfield 21, 3) := by decide +kernel
theorem d_L_isOn_4 : decode prog_2_method_17_code 4 = .ok (.iload_n 1, 1) := by decide +kernel
theorem d_L_isOn_5 : decode prog_2_method_17_code 5 = .ok (.iaload, 1) := by decide +kernel
theorem d_L_isOn_6 : decode prog_2_method_17_code 6 = .ok (.iload_n 2, 1) := by decide +kernel
theorem d_L_isOn_7 : decode prog_2_method_17_code 7 = .ok (.if_icmp .ne 17, 3) := by decide +kernel
theorem d_L_isOn_10 : decode prog_2_method_17_code 10 = .ok (.aload_n 0, 1) := by decide +kernel
theorem d_L_isOn_11 : decode prog_2_method_17_code 11 = .ok (.getfield 24, 3) := by decide +kernel
theorem d_L_isOn_14 : decode prog_2_method_17_code 14 = .ok (.iload_n 1, 1) := by decide +kernel
theorem d_L_isOn_15 : decode prog_2_method_17_code 15 = .ok (.iaload, 1) := by decide +kernel
theorem d_L_isOn_16 : decode prog_2_method_17_code 16 = .ok (.iload_n 3, 1) := by decide +kernel
theorem d_L_isOn_17 : decode prog_2_method_17_code 17 = .ok (.if_icmp .ne 7, 3) := by decide +kernel
theorem d_L_isOn_20 : decode prog_2_method_17_code 20 = .ok (.iconst 1, 1) := by decide +kernel
theorem d_L_isOn_21 : decode prog_2_method_17_code 21 = .ok (.goto 4, 3) := by decide +kernel
theorem d_L_isOn_24 : decode prog_2_method_17_code 24 = .ok (.iconst 0, 1) := by decide +kernel
theorem d_L_isOn_25 : decode prog_2_method_17_code 25 = .ok (.ireturn, 1) := by decide +kernel
theorem d_L_isRound_0 : decode prog_2_method_18_code 0 = .ok (.aload_n 0, 1) := by decide +kernel
theorem d_L_isRound_1 : decode prog_2_method_18_code 1 = .ok (.iload_n 1, 1) := by decide +kernel
theorem d_L_isRound_2 : decode prog_2_method_18_code 2 = .ok (.iload_n 2, 1) := by decide +kernel
theorem d_L_isRound_3 : decode prog_2_method_18_code 3 = .ok (.iload_n 3, 1) := by decide +kernel
theorem d_L_isRound_4 : decode prog_2_method_18_code 4 = .ok (.invokevirtual 58, 3) := by decide +kernel
theorem d_L_isRound_7 : decode prog_2_method_18_code 7 = .ok (.ifCond .eq 31, 3) := by decide +kernel
theorem d_L_isRound_10 : decode prog_2_method_18_code 10 = .ok (.aload_n 0, 1) := by decide +kernel
theorem d_L_isRound_11 : decode prog_2_method_18_code 11 = .ok (.getfield 27, 3) := by decide +kernel
theorem d_L_isRound_14 : decode prog_2_method_18_code 14 = .ok (.iload_n 1, 1) := by decide +kernel
theorem d_L_isRound_15 : decode prog_2_method_18_code 15 = .ok (.laload, 1) := by decide +kernel
theorem d_L_isRound_16 : decode prog_2_method_18_code 16 = .ok (.lload 4, 2) := by decide +kernel
theorem d_L_isRound_18 : decode prog_2_method_18_code 18 = .ok (.lcmp, 1) := by decide +kernel
theorem d_L_isRound_19 : decode prog_2_method_18_code 19 = .ok (.ifCond .gt 19, 3) := by decide +kernel
theorem d_L_isRound_22 : decode prog_2_method_18_code 22 = .ok (.lload 6, 2) := by decide +kernel
theorem d_L_isRound_24 : decode prog_2_method_18_code 24 = .ok (.aload_n 0, 1) := by decide +kernel
theorem d_L_isRound_25 : decode prog_2_method_18_code 25 = .ok (.getfield 31, 3) := by decide +kernel
theorem d_L_isRound_28 : decode prog_2_method_18_code 28 = .ok (.iload_n 1, 1) := by decide +kernel
theorem d_L_isRound_29 : decode prog_2_method_18_code 29 = .ok (.laload, 1) := by decide +kernel
theorem d_L_isRound_30 : decode prog_2_method_18_code 30 = .ok (.lcmp, 1) := by decide +kernel
theorem d_L_isRound_31 : decode prog_2_method_18_code 31 = .ok (.ifCond .gt 7, 3) := by decide +kernel
theorem d_L_isRound_34 : decode prog_2_method_18_code 34 = .ok (.iconst 1, 1) := by decide +kernel
theorem d_L_isRound_35 : decode prog_2_method_18_code 35 = .ok (.goto 4, 3) := by decide +kernel
theorem d_L_isRound_38 : decode prog_2_method_18_code 38 = .ok (.iconst 0, 1) := by decide +kernel
theorem d_L_isRound_39 : decode prog_2_method_18_code 39 = .ok (.ireturn, 1) := by decide +kernel
theorem d_L_dropRow_0 : decode prog_2_method_19_code 0 = .ok (.aload_n 0, 1) := by decide +kernel
theorem d_L_dropRow_1 : decode prog_2_method_19_code 1 = .ok (.dup, 1) := by decide +kernel
theorem d_L_dropRow_2 : decode prog_2_method_19_code 2 = .ok (.getfield 37, 3) := by decide +kernel
theorem d_L_dropRow_5 : decode prog_2_method_19_code 5 = .ok (.iconst 1, 1) := by decide +kernel
theorem d_L_dropRow_6 : decode prog_2_method_19_code 6 = .ok (.isub, 1) := by decide +kernel
theorem d_L_dropRow_7 : decode prog_2_method_19_code 7 = .ok (.putfield 37, 3) := by decide +kernel
theorem d_L_dropRow_10 : decode prog_2_method_19_code 10 = .ok (.aload_n 0, 1) := by decide +kernel
theorem d_L_dropRow_11 : decode prog_2_method_19_code 11 = .ok (.getfield 21, 3) := by decide +kernel
theorem d_L_dropRow_14 : decode prog_2_method_19_code 14 = .ok (.iload_n 1, 1) := by decide +kernel
theorem d_L_dropRow_15 : decode prog_2_method_19_code 15 = .ok (.aload_n 0, 1) := by decide +kernel
theorem d_L_dropRow_16 : decode prog_2_method_19_code 16 = .ok (.getfield 21, 3) := by decide +kernel
theorem d_L_dropRow_19 : decode prog_2_method_19_code 19 = .ok (.aload_n 0, 1) := by decide +kernel
theorem d_L_dropRow_20 : decode prog_2_method_19_code 20 = .ok (.getfield 37, 3) := by decide +kernel
theorem d_L_dropRow_23 : decode prog_2_method_19_code 23 = .ok (.iaload, 1) := by decide +kernel
theorem d_L_dropRow_24 : decode prog_2_method_19_code 24 = .ok (.iastore, 1) := by decide +kernel
theorem d_L_dropRow_25 : decode prog_2_method_19_code 25 = .ok (.aload_n 0, 1) := by decide +kernel
theorem d_L_dropRow_26 : decode prog_2_method_19_code 26 = .ok (.getfield 24, 3) := by decide +kernel
theorem d_L_dropRow_29 : decode prog_2_method_19_code 29 = .ok (.iload_n 1, 1) := by decide +kernel
theorem d_L_dropRow_30 : decode prog_2_method_19_code 30 = .ok (.aload_n 0, 1) := by decide +kernel
theorem d_L_dropRow_31 : decode prog_2_method_19_code 31 = .ok (.getfield 24, 3) := by decide +kernel
theorem d_L_dropRow_34 : decode prog_2_method_19_code 34 = .ok (.aload_n 0, 1) := by decide +kernel
theorem d_L_dropRow_35 : decode prog_2_method_19_code 35 = .ok (.getfield 37, 3) := by decide +kernel
theorem d_L_dropRow_38 : decode prog_2_method_19_code 38 = .ok (.iaload, 1) := by decide +kernel
theorem d_L_dropRow_39 : decode prog_2_method_19_code 39 = .ok (.iastore, 1) := by decide +kernel
theorem d_L_dropRow_40 : decode prog_2_method_19_code 40 = .ok (.aload_n 0, 1) := by decide +kernel
theorem d_L_dropRow_41 : decode prog_2_method_19_code 41 = .ok (.getfield 27, 3) := by decide +kernel
theorem d_L_dropRow_44 : decode prog_2_method_19_code 44 = .ok (.iload_n 1, 1) := by decide +kernel
theorem d_L_dropRow_45 : decode prog_2_method_19_code 45 = .ok (.aload_n 0, 1) := by decide +kernel
theorem d_L_dropRow_46 : decode prog_2_method_19_code 46 = .ok (.getfield 27, 3) := by decide +kernel
theorem d_L_dropRow_49 : decode prog_2_method_19_code 49 = .ok (.aload_n 0, 1) := by decide +kernel
theorem d_L_dropRow_50 : decode prog_2_method_19_code 50 = .ok (.getfield 37, 3) := by decide +kernel
theorem d_L_dropRow_53 : decode prog_2_method_19_code 53 = .ok (.laload, 1) := by decide +kernel
theorem d_L_dropRow_54 : decode prog_2_method_19_code 54 = .ok (.lastore, 1) := by decide +kernel
theorem d_L_dropRow_55 : decode prog_2_method_19_code 55 = .ok (.aload_n 0, 1) := by decide +kernel
theorem d_L_dropRow_56 : decode prog_2_method_19_code 56 = .ok (.getfield 31, 3) := by decide +kernel
theorem d_L_dropRow_59 : decode prog_2_method_19_code 59 = .ok (.iload_n 1, 1) := by decide +kernel
theorem d_L_dropRow_60 : decode prog_2_method_19_code 60 = .ok (.aload_n 0, 1) := by decide +kernel
theorem d_L_dropRow_61 : decode prog_2_method_19_code 61 = .ok (.getfield 31, 3) := by decide +kernel
theorem d_L_dropRow_64 : decode prog_2_method_19_code 64 = .ok (.aload_n 0, 1) := by decide +kernel
theorem d_L_dropRow_65 : decode prog_2_method_19_code 65 = .ok (.getfield 37, 3) := by decide +kernel
theorem d_L_dropRow_68 : decode prog_2_method_19_code 68 = .ok (.laload, 1) := by decide +kernel
theorem d_L_dropRow_69 : decode prog_2_method_19_code 69 = .ok (.lastore, 1) := by decide +kernel
theorem d_L_dropRow_70 : decode prog_2_method_19_code 70 = .ok (.aload_n 0, 1) := by decide +kernel
theorem d_L_dropRow_71 : decode prog_2_method_19_code 71 = .ok (.getfield 34, 3) := by decide +kernel
theorem d_L_dropRow_74 : decode prog_2_method_19_code 74 = .ok (.iload_n 1, 1) := by decide +kernel
theorem d_L_dropRow_75 : decode prog_2_method_19_code 75 = .ok (.aload_n 0, 1) := by decide +kernel
theorem d_L_dropRow_76 : decode prog_2_method_19_code 76 = .ok (.getfield 34, 3) := by decide +kernel
theorem d_L_dropRow_79 : decode prog_2_method_19_code 79 = .ok (.aload_n 0, 1) := by decide +kernel
theorem d_L_dropRow_80 : decode prog_2_method_19_code 80 = .ok (.getfield 37, 3) := by decide +kernel
theorem d_L_dropRow_83 : decode prog_2_method_19_code 83 = .ok (.iaload, 1) := by decide +kernel
theorem d_L_dropRow_84 : decode prog_2_method_19_code 84 = .ok (.iastore, 1) := by decide +kernel
theorem d_L_dropRow_85 : decode prog_2_method_19_code 85 = .ok (.return_, 1) := by decide +kernel
theorem d_L_addRange_0 : decode prog_2_method_4_code 0 = .ok (.aload_n 0, 1) := by decide +kernel
theorem d_L_addRange_1 : decode prog_2_method_4_code 1 = .ok (.getfield 37, 3) := by decide +kernel
theorem d_L_addRange_4 : decode prog_2_method_4_code 4 = .ok (.sipush 256, 3) := by decide +kernel
theorem d_L_addRange_7 : decode prog_2_method_4_code 7 = .ok (.if_icmp .ge 65, 3) := by decide +kernel
theorem d_L_addRange_10 : decode prog_2_method_4_code 10 = .ok (.aload_n 0, 1) := by decide +kernel
theorem d_L_addRange_11 : decode prog_2_method_4_code 11 = .ok (.getfield 21, 3) := by decide +kernel
theorem d_L_addRange_14 : decode prog_2_method_4_code 14 = .ok (.aload_n 0, 1) := by decide +kernel
theorem d_L_addRange_15 : decode prog_2_method_4_code 15 = .ok (.getfield 37, 3) := by decide +kernel
theorem d_L_addRange_18 : decode prog_2_method_4_code 18 = .ok (.iload_n 1, 1) := by decide +kernel
theorem d_L_addRange_19 : decode prog_2_method_4_code 19 = .ok (.iastore, 1) := by decide +kernel
theorem d_L_addRange_20 : decode prog_2_method_4_code 20 = .ok (.aload_n 0, 1) := by decide +kernel
theorem d_L_addRange_21 : decode prog_2_method_4_code 21 = .ok (.getfield 24, 3) := by decide +kernel
theorem d_L_addRange_24 : decode prog_2_method_4_code 24 = .ok (.aload_n 0, 1) := by decide +kernel
theorem d_L_addRange_25 : decode prog_2_method_4_code 25 = .ok (.getfield 37, 3) := by decide +kernel
theorem d_L_addRange_28 : decode prog_2_method_4_code 28 = .ok (.iload_n 2, 1) := by decide +kernel
theorem d_L_addRange_29 : decode prog_2_method_4_code 29 = .ok (.iastore, 1) := by decide +kernel
theorem d_L_addRange_30 : decode prog_2_method_4_code 30 = .ok (.aload_n 0, 1) := by decide +kernel
theorem d_L_addRange_31 : decode prog_2_method_4_code 31 = .ok (.getfield 27, 3) := by decide +kernel
theorem d_L_addRange_34 : decode prog_2_method_4_code 34 = .ok (.aload_n 0, 1) := by decide +kernel
theorem d_L_addRange_35 : decode prog_2_method_4_code 35 = .ok (.getfield 37, 3) := by decide +kernel
theorem d_L_addRange_38 : decode prog_2_method_4_code 38 = .ok (.lload_n 3, 1) := by decide +kernel
theorem d_L_addRange_39 : decode prog_2_method_4_code 39 = .ok (.lastore, 1) := by decide +kernel
theorem d_L_addRange_40 : decode prog_2_method_4_code 40 = .ok (.aload_n 0, 1) := by decide +kernel
theorem d_L_addRange_41 : decode prog_2_method_4_code 41 = .ok (.getfield 31, 3) := by decide +kernel
theorem d_L_addRange_44 : decode prog_2_method_4_code 44 = .ok (.aload_n 0, 1) := by decide +kernel
theorem d_L_addRange_45 : decode prog_2_method_4_code 45 = .ok (.getfield 37, 3) := by decide +kernel
theorem d_L_addRange_48 : decode prog_2_method_4_code 48 = .ok (.lload 5, 2) := by decide +kernel
theorem d_L_addRange_50 : decode prog_2_method_4_code 50 = .ok (.lastore, 1) := by decide +kernel
theorem d_L_addRange_51 : decode prog_2_method_4_code 51 = .ok (.aload_n 0, 1) := by decide +kernel
theorem d_L_addRange_52 : decode prog_2_method_4_code 52 = .ok (.getfield 34, 3) := by decide +kernel
theorem d_L_addRange_55 : decode prog_2_method_4_code 55 = .ok (.aload_n 0, 1) := by decide +kernel
theorem d_L_addRange_56 : decode prog_2_method_4_code 56 = .ok (.getfield 37, 3) := by decide +kernel
theorem d_L_addRange_59 : decode prog_2_method_4_code 59 = .ok (.iload 7, 2) := by decide +kernel
theorem d_L_addRange_61 : decode prog_2_method_4_code 61 = .ok (.iastore, 1) := by decide +kernel
theorem d_L_addRange_62 : decode prog_2_method_4_code 62 = .ok (.aload_n 0, 1) := by decide +kernel
theorem d_L_addRange_63 : decode prog_2_method_4_code 63 = .ok (.dup, 1) := by decide +kernel
theorem d_L_addRange_64 : decode prog_2_method_4_code 64 = .ok (.getfield 37, 3) := by decide +kernel
theorem d_L_addRange_67 : decode prog_2_method_4_code 67 = .ok (.iconst 1, 1) := by decide +kernel
theorem d_L_addRange_68 : decode prog_2_method_4_code 68 = .ok (.iadd, 1) := by decide +kernel
theorem d_L_addRange_69 : decode prog_2_method_4_code 69 = .ok (.putfield 37, 3) := by decide +kernel
theorem d_L_addRange_72 : decode prog_2_method_4_code 72 = .ok (.return_, 1) := by decide +kernel
theorem d_L_countRanges_0 : decode prog_2_method_8_code 0 = .ok (.iconst 0, 1) := by decide +kernel
theorem d_L_countRanges_1 : decode prog_2_method_8_code 1 = .ok (.istore_n 3, 1) := by decide +kernel
theorem d_L_countRanges_2 : decode prog_2_method_8_code 2 = .ok (.iconst 0, 1) := by decide +kernel
theorem d_L_countRanges_3 : decode prog_2_method_8_code 3 = .ok (.istore 4, 2) := by decide +kernel
theorem d_L_countRanges_5 : decode prog_2_method_8_code 5 = .ok (.iload 4, 2) := by decide +kernel
theorem d_L_countRanges_7 : decode prog_2_method_8_code 7 = .ok (.aload_n 0, 1) := by decide +kernel
theorem d_L_countRanges_8 : decode prog_2_method_8_code 8 = .ok (.getfield 37, 3) := by decide +kernel
theorem d_L_countRanges_11 : decode prog_2_method_8_code 11 = .ok (.if_icmp .ge 23, 3) := by decide +kernel
theorem d_L_countRanges_14 : decode prog_2_method_8_code 14 = .ok (.aload_n 0, 1) := by decide +kernel
theorem d_L_countRanges_15 : decode prog_2_method_8_code 15 = .ok (.iload 4, 2) := by decide +kernel
theorem d_L_countRanges_17 : decode prog_2_method_8_code 17 = .ok (.iload_n 1, 1) := by decide +kernel
theorem d_L_countRanges_18 : decode prog_2_method_8_code 18 = .ok (.iload_n 2, 1) := by decide +kernel
theorem d_L_countRanges_19 : decode prog_2_method_8_code 19 = .ok (.invokevirtual 58, 3) := by decide +kernel
theorem d_L_countRanges_22 : decode prog_2_method_8_code 22 = .ok (.ifCond .eq 6, 3) := by decide +kernel
theorem d_L_countRanges_25 : decode prog_2_method_8_code 25 = .ok (.iinc 3 1, 3) := by decide +kernel
theorem d_L_countRanges_28 : decode prog_2_method_8_code 28 = .ok (.iinc 4 1, 3) := by decide +kernel
theorem d_L_countRanges_31 : decode prog_2_method_8_code 31 = .ok (.goto (-26), 3) := by decide +kernel
theorem d_L_countRanges_34 : decode prog_2_method_8_code 34 = .ok (.iload_n 3, 1) := by decide +kernel
theorem d_L_countRanges_35 : decode prog_2_method_8_code 35 = .ok (.ireturn, 1) := by decide +kernel
theorem d_L_coverRange_0 : decode prog_2_method_5_code 0 = .ok (.aload_n 0, 1) := by decide +kernel
theorem d_L_coverRange_1 : decode prog_2_method_5_code 1 = .ok (.iload_n 1, 1) := by decide +kernel
theorem d_L_coverRange_2 : decode prog_2_method_5_code 2 = .ok (.iload_n 2, 1) := by decide +kernel
theorem d_L_coverRange_3 : decode prog_2_method_5_code 3 = .ok (.invokevirtual 41, 3) := by decide +kernel
theorem d_L_coverRange_6 : decode prog_2_method_5_code 6 = .ok (.iload 7, 2) := by decide +kernel
theorem d_L_coverRange_8 : decode prog_2_method_5_code 8 = .ok (.invokestatic 45, 3) := by decide +kernel
theorem d_L_coverRange_11 : decode prog_2_method_5_code 11 = .ok (.ifCond .eq 5, 3) := by decide +kernel
theorem d_L_coverRange_14 : decode prog_2_method_5_code 14 = .ok (.iconst 1, 1) := by decide +kernel
theorem d_L_coverRange_15 : decode prog_2_method_5_code 15 = .ok (.ireturn, 1) := by decide +kernel
theorem d_L_coverRange_16 : decode prog_2_method_5_code 16 = .ok (.iconst 0, 1) := by decide +kernel
theorem d_L_coverRange_17 : decode prog_2_method_5_code 17 = .ok (.istore 8, 2) := by decide +kernel
theorem d_L_coverRange_19 : decode prog_2_method_5_code 19 = .ok (.iload 8, 2) := by decide +kernel
theorem d_L_coverRange_21 : decode prog_2_method_5_code 21 = .ok (.aload_n 0, 1) := by decide +kernel
theorem d_L_coverRange_22 : decode prog_2_method_5_code 22 = .ok (.getfield 37, 3) := by decide +kernel
theorem d_L_coverRange_25 : decode prog_2_method_5_code 25 = .ok (.if_icmp .ge 40, 3) := by decide +kernel
theorem d_L_coverRange_28 : decode prog_2_method_5_code 28 = .ok (.aload_n 0, 1) := by decide +kernel
theorem d_L_coverRange_29 : decode prog_2_method_5_code 29 = .ok (.iload 8, 2) := by decide +kernel
theorem d_L_coverRange_31 : decode prog_2_method_5_code 31 = .ok (.iload_n 1, 1) := by decide +kernel
theorem d_L_coverRange_32 : decode prog_2_method_5_code 32 = .ok (.iload_n 2, 1) := by decide +kernel
theorem d_L_coverRange_33 : decode prog_2_method_5_code 33 = .ok (.lload_n 3, 1) := by decide +kernel
theorem d_L_coverRange_34 : decode prog_2_method_5_code 34 = .ok (.lload 5, 2) := by decide +kernel
theorem d_L_coverRange_36 : decode prog_2_method_5_code 36 = .ok (.invokevirtual 51, 3) := by decide +kernel
theorem d_L_coverRange_39 : decode prog_2_method_5_code 39 = .ok (.ifCond .eq 20, 3) := by decide +kernel
theorem d_L_coverRange_42 : decode prog_2_method_5_code 42 = .ok (.aload_n 0, 1) := by decide +kernel
theorem d_L_coverRange_43 : decode prog_2_method_5_code 43 = .ok (.getfield 34, 3) := by decide +kernel
theorem d_L_coverRange_46 : decode prog_2_method_5_code 46 = .ok (.iload 8, 2) := by decide +kernel
theorem d_L_coverRange_48 : decode prog_2_method_5_code 48 = .ok (.iaload, 1) := by decide +kernel
theorem d_L_coverRange_49 : decode prog_2_method_5_code 49 = .ok (.iload 7, 2) := by decide +kernel
theorem d_L_coverRange_51 : decode prog_2_method_5_code 51 = .ok (.invokestatic 55, 3) := by decide +kernel
theorem d_L_coverRange_54 : decode prog_2_method_5_code 54 = .ok (.ifCond .eq 5, 3) := by decide +kernel
theorem d_L_coverRange_57 : decode prog_2_method_5_code 57 = .ok (.iconst 1, 1) := by decide +kernel
theorem d_L_coverRange_58 : decode prog_2_method_5_code 58 = .ok (.ireturn, 1) := by decide +kernel
theorem d_L_coverRange_59 : decode prog_2_method_5_code 59 = .ok (.iinc 8 1, 3) := by decide +kernel
theorem d_L_coverRange_62 : decode prog_2_method_5_code 62 = .ok (.goto (-43), 3) := by decide +kernel
theorem d_L_coverRange_65 : decode prog_2_method_5_code 65 = .ok (.iconst 0, 1) := by decide +kernel
theorem d_L_coverRange_66 : decode prog_2_method_5_code 66 = .ok (.ireturn, 1) := by decide +kernel
theorem d_L_haveRangeRound_0 : decode prog_2_method_6_code 0 = .ok (.iconst 0, 1) := by decide +kernel
theorem d_L_haveRangeRound_1 : decode prog_2_method_6_code 1 = .ok (.istore 7, 2) := by decide +kernel
theorem d_L_haveRangeRound_3 : decode prog_2_method_6_code 3 = .ok (.iload 7, 2) := by decide +kernel
theorem d_L_haveRangeRound_5 : decode prog_2_method_6_code 5 = .ok (.aload_n 0, 1) := by decide +kernel
theorem d_L_haveRangeRound_6 : decode prog_2_method_6_code 6 = .ok (.getfield 37, 3) := by decide +kernel
theorem d_L_haveRangeRound_9 : decode prog_2_method_6_code 9 = .ok (.if_icmp .ge 25, 3) := by decide +kernel
theorem d_L_haveRangeRound_12 : decode prog_2_method_6_code 12 = .ok (.aload_n 0, 1) := by decide +kernel
theorem d_L_haveRangeRound_13 : decode prog_2_method_6_code 13 = .ok (.iload 7, 2) := by decide +kernel
theorem d_L_haveRangeRound_15 : decode prog_2_method_6_code 15 = .ok (.iload_n 1, 1) := by decide +kernel
theorem d_L_haveRangeRound_16 : decode prog_2_method_6_code 16 = .ok (.iload_n 2, 1) := by decide +kernel
theorem d_L_haveRangeRound_17 : decode prog_2_method_6_code 17 = .ok (.lload_n 3, 1) := by decide +kernel
theorem d_L_haveRangeRound_18 : decode prog_2_method_6_code 18 = .ok (.lload 5, 2) := by decide +kernel
theorem d_L_haveRangeRound_20 : decode prog_2_method_6_code 20 = .ok (.invokevirtual 51, 3) := by decide +kernel
theorem d_L_haveRangeRound_23 : decode prog_2_method_6_code 23 = .ok (.ifCond .eq 5, 3) := by decide +kernel
theorem d_L_haveRangeRound_26 : decode prog_2_method_6_code 26 = .ok (.iconst 1, 1) := by decide +kernel
theorem d_L_haveRangeRound_27 : decode prog_2_method_6_code 27 = .ok (.ireturn, 1) := by decide +kernel
theorem d_L_haveRangeRound_28 : decode prog_2_method_6_code 28 = .ok (.iinc 7 1, 3) := by decide +kernel
theorem d_L_haveRangeRound_31 : decode prog_2_method_6_code 31 = .ok (.goto (-28), 3) := by decide +kernel
theorem d_L_haveRangeRound_34 : decode prog_2_method_6_code 34 = .ok (.iconst 0, 1) := by decide +kernel
theorem d_L_haveRangeRound_35 : decode prog_2_method_6_code 35 = .ok (.ireturn, 1) := by decide +kernel
theorem d_L_haveStrongRange_0 : decode prog_2_method_7_code 0 = .ok (.iconst 0, 1) := by decide +kernel
theorem d_L_haveStrongRange_1 : decode prog_2_method_7_code 1 = .ok (.istore_n 3, 1) := by decide +kernel
theorem d_L_haveStrongRange_2 : decode prog_2_method_7_code 2 = .ok (.iload_n 3, 1) := by decide +kernel
theorem d_L_haveStrongRange_3 : decode prog_2_method_7_code 3 = .ok (.aload_n 0, 1) := by decide +kernel
theorem d_L_haveStrongRange_4 : decode prog_2_method_7_code 4 = .ok (.getfield 37, 3) := by decide +kernel
theorem d_L_haveStrongRange_7 : decode prog_2_method_7_code 7 = .ok (.if_icmp .ge 31, 3) := by decide +kernel
theorem d_L_haveStrongRange_10 : decode prog_2_method_7_code 10 = .ok (.aload_n 0, 1) := by decide +kernel
theorem d_L_haveStrongRange_11 : decode prog_2_method_7_code 11 = .ok (.iload_n 3, 1) := by decide +kernel
theorem d_L_haveStrongRange_12 : decode prog_2_method_7_code 12 = .ok (.iload_n 1, 1) := by decide +kernel
theorem d_L_haveStrongRange_13 : decode prog_2_method_7_code 13 = .ok (.iload_n 2, 1) := by decide +kernel
theorem d_L_haveStrongRange_14 : decode prog_2_method_7_code 14 = .ok (.invokevirtual 58, 3) := by decide +kernel
theorem d_L_haveStrongRange_17 : decode prog_2_method_7_code 17 = .ok (.ifCond .eq 15, 3) := by decide +kernel
theorem d_L_haveStrongRange_20 : decode prog_2_method_7_code 20 = .ok (.aload_n 0, 1) := by decide +kernel
theorem d_L_haveStrongRange_21 : decode prog_2_method_7_code 21 = .ok (.getfield 34, 3) := by decide +kernel
theorem d_L_haveStrongRange_24 : decode prog_2_method_7_code 24 = .ok (.iload_n 3, 1) := by decide +kernel
theorem d_L_haveStrongRange_25 : decode prog_2_method_7_code 25 = .ok (.iaload, 1) := by decide +kernel
theorem d_L_haveStrongRange_26 : decode prog_2_method_7_code 26 = .ok (.iconst 2, 1) := by decide +kernel
theorem d_L_haveStrongRange_27 : decode prog_2_method_7_code 27 = .ok (.if_icmp .eq 5, 3) := by decide +kernel
theorem d_L_haveStrongRange_30 : decode prog_2_method_7_code 30 = .ok (.iconst 1, 1) := by decide +kernel
theorem d_L_haveStrongRange_31 : decode prog_2_method_7_code 31 = .ok (.ireturn, 1) := by decide +kernel
theorem d_L_haveStrongRange_32 : decode prog_2_method_7_code 32 = .ok (.iinc 3 1, 3) := by decide +kernel
theorem d_L_haveStrongRange_35 : decode prog_2_method_7_code 35 = .ok (.goto (-33), 3) := by decide +kernel
theorem d_L_haveStrongRange_38 : decode prog_2_method_7_code 38 = .ok (.iconst 0, 1) := by decide +kernel
theorem d_L_haveStrongRange_39 : decode prog_2_method_7_code 39 = .ok (.ireturn, 1) := by decide +kernel
theorem d_L_countOf_0 : decode prog_2_method_9_code 0 = .ok (.iconst 0, 1) := by decide +kernel
theorem d_L_countOf_1 : decode prog_2_method_9_code 1 = .ok (.istore_n 2, 1) := by decide +kernel
theorem d_L_countOf_2 : decode prog_2_method_9_code 2 = .ok (.iconst 0, 1) := by decide +kernel
theorem d_L_countOf_3 : decode prog_2_method_9_code 3 = .ok (.istore_n 3, 1) := by decide +kernel
theorem d_L_countOf_4 : decode prog_2_method_9_code 4 = .ok (.iload_n 3, 1) := by decide +kernel
theorem d_L_countOf_5 : decode prog_2_method_9_code 5 = .ok (.bipush 16, 2) := by decide +kernel
theorem d_L_countOf_7 : decode prog_2_method_9_code 7 = .ok (.if_icmp .ge 22, 3) := by decide +kernel
theorem d_L_countOf_10 : decode prog_2_method_9_code 10 = .ok (.aload_n 0, 1) := by decide +kernel
theorem d_L_countOf_11 : decode prog_2_method_9_code 11 = .ok (.iload_n 1, 1) := by decide +kernel
theorem d_L_countOf_12 : decode prog_2_method_9_code 12 = .ok (.iload_n 3, 1) := by decide +kernel
theorem d_L_countOf_13 : decode prog_2_method_9_code 13 = .ok (.invokevirtual 41, 3) := by decide +kernel
theorem d_L_countOf_16 : decode prog_2_method_9_code 16 = .ok (.iconst (-1), 1) := by decide +kernel
theorem d_L_countOf_17 : decode prog_2_method_9_code 17 = .ok (.if_icmp .eq 6, 3) := by decide +kernel
theorem d_L_countOf_20 : decode prog_2_method_9_code 20 = .ok (.iinc 2 1, 3) := by decide +kernel
theorem d_L_countOf_23 : decode prog_2_method_9_code 23 = .ok (.iinc 3 1, 3) := by decide +kernel
theorem d_L_countOf_26 : decode prog_2_method_9_code 26 = .ok (.goto (-22), 3) := by decide +kernel
theorem d_L_countOf_29 : decode prog_2_method_9_code 29 = .ok (.iconst 0, 1) := by decide +kernel
theorem d_L_countOf_30 : decode prog_2_method_9_code 30 = .ok (.istore_n 3, 1) := by decide +kernel
theorem d_L_countOf_31 : decode prog_2_method_9_code 31 = .ok (.iload_n 3, 1) := by decide +kernel
theorem d_L_countOf_32 : decode prog_2_method_9_code 32 = .ok (.aload_n 0, 1) := by decide +kernel
theorem d_L_countOf_33 : decode prog_2_method_9_code 33 = .ok (.getfield 37, 3) := by decide +kernel
theorem d_L_countOf_36 : decode prog_2_method_9_code 36 = .ok (.if_icmp .ge 22, 3) := by decide +kernel
theorem d_L_countOf_39 : decode prog_2_method_9_code 39 = .ok (.aload_n 0, 1) := by decide +kernel
theorem d_L_countOf_40 : decode prog_2_method_9_code 40 = .ok (.getfield 21, 3) := by decide +kernel
theorem d_L_countOf_43 : decode prog_2_method_9_code 43 = .ok (.iload_n 3, 1) := by decide +kernel
theorem d_L_countOf_44 : decode prog_2_method_9_code 44 = .ok (.iaload, 1) := by decide +kernel
theorem d_L_countOf_45 : decode prog_2_method_9_code 45 = .ok (.iload_n 1, 1) := by decide +kernel
theorem d_L_countOf_46 : decode prog_2_method_9_code 46 = .ok (.if_icmp .ne 6, 3) := by decide +kernel
theorem d_L_countOf_49 : decode prog_2_method_9_code 49 = .ok (.iinc 2 1, 3) := by decide +kernel
theorem d_L_countOf_52 : decode prog_2_method_9_code 52 = .ok (.iinc 3 1, 3) := by decide +kernel
theorem d_L_countOf_55 : decode prog_2_method_9_code 55 = .ok (.goto (-24), 3) := by decide +kernel
theorem d_L_countOf_58 : decode prog_2_method_9_code 58 = .ok (.iload_n 2, 1) := by decide +kernel
theorem d_L_countOf_59 : decode prog_2_method_9_code 59 = .ok (.ireturn, 1) := by decide +kernel
theorem d_L_countAll_0 : decode prog_2_method_10_code 0 = .ok (.aload_n 0, 1) := by decide +kernel
theorem d_L_countAll_1 : decode prog_2_method_10_code 1 = .ok (.getfield 37, 3) := by decide +kernel
theorem d_L_countAll_4 : decode prog_2_method_10_code 4 = .ok (.istore_n 1, 1) := by decide +kernel
theorem d_L_countAll_5 : decode prog_2_method_10_code 5 = .ok (.iconst 0, 1) := by decide +kernel
theorem d_L_countAll_6 : decode prog_2_method_10_code 6 = .ok (.istore_n 2, 1) := by decide +kernel
theorem d_L_countAll_7 : decode prog_2_method_10_code 7 = .ok (.iload_n 2, 1) := by decide +kernel
theorem d_L_countAll_8 : decode prog_2_method_10_code 8 = .ok (.aload_n 0, 1) := by decide +kernel
theorem d_L_countAll_9 : decode prog_2_method_10_code 9 = .ok (.getfield 9, 3) := by decide +kernel
theorem d_L_countAll_12 : decode prog_2_method_10_code 12 = .ok (.arraylength, 1) := by decide +kernel
theorem d_L_countAll_13 : decode prog_2_method_10_code 13 = .ok (.if_icmp .ge 22, 3) := by decide +kernel
theorem d_L_countAll_16 : decode prog_2_method_10_code 16 = .ok (.aload_n 0, 1) := by decide +kernel
theorem d_L_countAll_17 : decode prog_2_method_10_code 17 = .ok (.getfield 9, 3) := by decide +kernel
theorem d_L_countAll_20 : decode prog_2_method_10_code 20 = .ok (.iload_n 2, 1) := by decide +kernel
theorem d_L_countAll_21 : decode prog_2_method_10_code 21 = .ok (.iaload, 1) := by decide +kernel
theorem d_L_countAll_22 : decode prog_2_method_10_code 22 = .ok (.iconst (-1), 1) := by decide +kernel
theorem d_L_countAll_23 : decode prog_2_method_10_code 23 = .ok (.if_icmp .eq 6, 3) := by decide +kernel
theorem d_L_countAll_26 : decode prog_2_method_10_code 26 = .ok (.iinc 1 1, 3) := by decide +kernel
theorem d_L_countAll_29 : decode prog_2_method_10_code 29 = .ok (.iinc 2 1, 3) := by decide +kernel
theorem d_L_countAll_32 : decode prog_2_method_10_code 32 = .ok (.goto (-25), 3) := by decide +kernel
theorem d_L_countAll_35 : decode prog_2_method_10_code 35 = .ok (.iload_n 1, 1) := by decide +kernel
theorem d_L_countAll_36 : decode prog_2_method_10_code 36 = .ok (.ireturn, 1) := by decide +kernel
theorem d_L_strongestOn_0 : decode prog_2_method_11_code 0 = .ok (.aload_n 0, 1) := by decide +kernel
theorem d_L_strongestOn_1 : decode prog_2_method_11_code 1 = .ok (.iload_n 1, 1) := by decide +kernel
theorem d_L_strongestOn_2 : decode prog_2_method_11_code 2 = .ok (.iload_n 2, 1) := by decide +kernel
theorem d_L_strongestOn_3 : decode prog_2_method_11_code 3 = .ok (.invokevirtual 41, 3) := by decide +kernel
theorem d_L_strongestOn_6 : decode prog_2_method_11_code 6 = .ok (.istore 5, 2) := by decide +kernel
theorem d_L_strongestOn_8 : decode prog_2_method_11_code 8 = .ok (.iconst (-1), 1) := by decide +kernel
theorem d_L_strongestOn_9 : decode prog_2_method_11_code 9 = .ok (.istore 6, 2) := by decide +kernel
theorem d_L_strongestOn_11 : decode prog_2_method_11_code 11 = .ok (.iload 5, 2) := by decide +kernel
theorem d_L_strongestOn_13 : decode prog_2_method_11_code 13 = .ok (.iconst 5, 1) := by decide +kernel
theorem d_L_strongestOn_14 : decode prog_2_method_11_code 14 = .ok (.invokestatic 45, 3) := by decide +kernel
theorem d_L_strongestOn_17 : decode prog_2_method_11_code 17 = .ok (.ifCond .eq 9, 3) := by decide +kernel
theorem d_L_strongestOn_20 : decode prog_2_method_11_code 20 = .ok (.iconst 5, 1) := by decide +kernel
theorem d_L_strongestOn_21 : decode prog_2_method_11_code 21 = .ok (.istore 6, 2) := by decide +kernel
theorem d_L_strongestOn_23 : decode prog_2_method_11_code 23 = .ok (.goto 15, 3) := by decide +kernel
theorem d_L_strongestOn_26 : decode prog_2_method_11_code 26 = .ok (.iload 5, 2) := by decide +kernel
theorem d_L_strongestOn_28 : decode prog_2_method_11_code 28 = .ok (.iconst 2, 1) := by decide +kernel
theorem d_L_strongestOn_29 : decode prog_2_method_11_code 29 = .ok (.invokestatic 45, 3) := by decide +kernel
theorem d_L_strongestOn_32 : decode prog_2_method_11_code 32 = .ok (.ifCond .eq 6, 3) := by decide +kernel
theorem d_L_strongestOn_35 : decode prog_2_method_11_code 35 = .ok (.iconst 2, 1) := by decide +kernel
theorem d_L_strongestOn_36 : decode prog_2_method_11_code 36 = .ok (.istore 6, 2) := by decide +kernel
theorem d_L_strongestOn_38 : decode prog_2_method_11_code 38 = .ok (.iconst 0, 1) := by decide +kernel
theorem d_L_strongestOn_39 : decode prog_2_method_11_code 39 = .ok (.istore 7, 2) := by decide +kernel
theorem d_L_strongestOn_41 : decode prog_2_method_11_code 41 = .ok (.iload 7, 2) := by decide +kernel
theorem d_L_strongestOn_43 : decode prog_2_method_11_code 43 = .ok (.aload_n 0, 1) := by decide +kernel
theorem d_L_strongestOn_44 : decode prog_2_method_11_code 44 = .ok (.getfield 37, 3) := by decide +kernel
theorem d_L_strongestOn_47 : decode prog_2_method_11_code 47 = .ok (.if_icmp .ge 36, 3) := by decide +kernel
theorem d_L_strongestOn_50 : decode prog_2_method_11_code 50 = .ok (.aload_n 0, 1) := by decide +kernel
theorem d_L_strongestOn_51 : decode prog_2_method_11_code 51 = .ok (.iload 7, 2) := by decide +kernel
theorem d_L_strongestOn_53 : decode prog_2_method_11_code 53 = .ok (.iload_n 1, 1) := by decide +kernel
theorem d_L_strongestOn_54 : decode prog_2_method_11_code 54 = .ok (.iload_n 2, 1) := by decide +kernel
theorem d_L_strongestOn_55 : decode prog_2_method_11_code 55 = .ok (.lload_n 3, 1) := by decide +kernel
theorem d_L_strongestOn_56 : decode prog_2_method_11_code 56 = .ok (.lload_n 3, 1) := by decide +kernel
theorem d_L_strongestOn_57 : decode prog_2_method_11_code 57 = .ok (.invokevirtual 51, 3) := by decide +kernel
theorem d_L_strongestOn_60 : decode prog_2_method_11_code 60 = .ok (.ifCond .eq 17, 3) := by decide +kernel
theorem d_L_strongestOn_63 : decode prog_2_method_11_code 63 = .ok (.iload 6, 2) := by decide +kernel
theorem d_L_strongestOn_65 : decode prog_2_method_11_code 65 = .ok (.aload_n 0, 1) := by decide +kernel
theorem d_L_strongestOn_66 : decode prog_2_method_11_code 66 = .ok (.getfield 34, 3) := by decide +kernel
theorem d_L_strongestOn_69 : decode prog_2_method_11_code 69 = .ok (.iload 7, 2) := by decide +kernel
theorem d_L_strongestOn_71 : decode prog_2_method_11_code 71 = .ok (.iaload, 1) := by decide +kernel
theorem d_L_strongestOn_72 : decode prog_2_method_11_code 72 = .ok (.invokestatic 62, 3) := by decide +kernel
theorem d_L_strongestOn_75 : decode prog_2_method_11_code 75 = .ok (.istore 6, 2) := by decide +kernel
theorem d_L_strongestOn_77 : decode prog_2_method_11_code 77 = .ok (.iinc 7 1, 3) := by decide +kernel
theorem d_L_strongestOn_80 : decode prog_2_method_11_code 80 = .ok (.goto (-39), 3) := by decide +kernel
theorem d_L_strongestOn_83 : decode prog_2_method_11_code 83 = .ok (.iload 6, 2) := by decide +kernel
theorem d_L_strongestOn_85 : decode prog_2_method_11_code 85 = .ok (.ireturn, 1) := by decide +kernel
theorem d_L_againstTable_0 : decode prog_2_method_12_code 0 = .ok (.iconst 0, 1) := by decide +kernel
theorem d_L_againstTable_1 : decode prog_2_method_12_code 1 = .ok (.istore 4, 2) := by decide +kernel
theorem d_L_againstTable_3 : decode prog_2_method_12_code 3 = .ok (.iconst 0, 1) := by decide +kernel
theorem d_L_againstTable_4 : decode prog_2_method_12_code 4 = .ok (.istore 5, 2) := by decide +kernel
theorem d_L_againstTable_6 : decode prog_2_method_12_code 6 = .ok (.iload 5, 2) := by decide +kernel
theorem d_L_againstTable_8 : decode prog_2_method_12_code 8 = .ok (.bipush 8, 2) := by decide +kernel
theorem d_L_againstTable_10 : decode prog_2_method_12_code 10 = .ok (.if_icmp .ge 48, 3) := by decide +kernel
theorem d_L_againstTable_13 : decode prog_2_method_12_code 13 = .ok (.aload_n 0, 1) := by decide +kernel
theorem d_L_againstTable_14 : decode prog_2_method_12_code 14 = .ok (.iload 5, 2) := by decide +kernel
theorem d_L_againstTable_16 : decode prog_2_method_12_code 16 = .ok (.iload_n 2, 1) := by decide +kernel
theorem d_L_againstTable_17 : decode prog_2_method_12_code 17 = .ok (.invokevirtual 41, 3) := by decide +kernel
theorem d_L_againstTable_20 : decode prog_2_method_12_code 20 = .ok (.istore 6, 2) := by decide +kernel
theorem d_L_againstTable_22 : decode prog_2_method_12_code 22 = .ok (.iload 5, 2) := by decide +kernel
theorem d_L_againstTable_24 : decode prog_2_method_12_code 24 = .ok (.iload_n 1, 1) := by decide +kernel
theorem d_L_againstTable_25 : decode prog_2_method_12_code 25 = .ok (.if_icmp .eq 27, 3) := by decide +kernel
theorem d_L_againstTable_28 : decode prog_2_method_12_code 28 = .ok (.iload 6, 2) := by decide +kernel
theorem d_L_againstTable_30 : decode prog_2_method_12_code 30 = .ok (.iconst (-1), 1) := by decide +kernel
theorem d_L_againstTable_31 : decode prog_2_method_12_code 31 = .ok (.if_icmp .eq 21, 3) := by decide +kernel
theorem d_L_againstTable_34 : decode prog_2_method_12_code 34 = .ok (.iload 6, 2) := by decide +kernel
theorem d_L_againstTable_36 : decode prog_2_method_12_code 36 = .ok (.iload_n 3, 1) := by decide +kernel
theorem d_L_againstTable_37 : decode prog_2_method_12_code 37 = .ok (.invokestatic 67, 3) := by decide +kernel
theorem d_L_againstTable_40 : decode prog_2_method_12_code 40 = .ok (.ifCond .ne 12, 3) := by decide +kernel
theorem d_L_againstTable_43 : decode prog_2_method_12_code 43 = .ok (.iload 4, 2) := by decide +kernel
theorem d_L_againstTable_45 : decode prog_2_method_12_code 45 = .ok (.iconst 1, 1) := by decide +kernel
theorem d_L_againstTable_46 : decode prog_2_method_12_code 46 = .ok (.iload 5, 2) := by decide +kernel
theorem d_L_againstTable_48 : decode prog_2_method_12_code 48 = .ok (.ishl, 1) := by decide +kernel
theorem d_L_againstTable_49 : decode prog_2_method_12_code 49 = .ok (.ior, 1) := by decide +kernel
theorem d_L_againstTable_50 : decode prog_2_method_12_code 50 = .ok (.istore 4, 2) := by decide +kernel
theorem d_L_againstTable_52 : decode prog_2_method_12_code 52 = .ok (.iinc 5 1, 3) := by decide +kernel
theorem d_L_againstTable_55 : decode prog_2_method_12_code 55 = .ok (.goto (-49), 3) := by decide +kernel
theorem d_L_againstTable_58 : decode prog_2_method_12_code 58 = .ok (.iload 4, 2) := by decide +kernel
theorem d_L_againstTable_60 : decode prog_2_method_12_code 60 = .ok (.ireturn, 1) := by decide +kernel
theorem d_L_againstRange_0 : decode prog_2_method_13_code 0 = .ok (.iconst 0, 1) := by decide +kernel
theorem d_L_againstRange_1 : decode prog_2_method_13_code 1 = .ok (.istore 8, 2) := by decide +kernel
theorem d_L_againstRange_3 : decode prog_2_method_13_code 3 = .ok (.iconst 0, 1) := by decide +kernel
theorem d_L_againstRange_4 : decode prog_2_method_13_code 4 = .ok (.istore 9, 2) := by decide +kernel
theorem d_L_againstRange_6 : decode prog_2_method_13_code 6 = .ok (.iload 9, 2) := by decide +kernel
theorem d_L_againstRange_8 : decode prog_2_method_13_code 8 = .ok (.aload_n 0, 1) := by decide +kernel
theorem d_L_againstRange_9 : decode prog_2_method_13_code 9 = .ok (.getfield 37, 3) := by decide +kernel
theorem d_L_againstRange_12 : decode prog_2_method_13_code 12 = .ok (.if_icmp .ge 97, 3) := by decide +kernel
theorem d_L_againstRange_15 : decode prog_2_method_13_code 15 = .ok (.aload_n 0, 1) := by decide +kernel
theorem d_L_againstRange_16 : decode prog_2_method_13_code 16 = .ok (.getfield 24, 3) := by decide +kernel
theorem d_L_againstRange_19 : decode prog_2_method_13_code 19 = .ok (.iload 9, 2) := by decide +kernel
theorem d_L_againstRange_21 : decode prog_2_method_13_code 21 = .ok (.iaload, 1) := by decide +kernel
theorem d_L_againstRange_22 : decode prog_2_method_13_code 22 = .ok (.iload_n 2, 1) := by decide +kernel
theorem d_L_againstRange_23 : decode prog_2_method_13_code 23 = .ok (.if_icmp .ne 32, 3) := by decide +kernel
theorem d_L_againstRange_26 : decode prog_2_method_13_code 26 = .ok (.aload_n 0, 1) := by decide +kernel
theorem d_L_againstRange_27 : decode prog_2_method_13_code 27 = .ok (.getfield 27, 3) := by decide +kernel
theorem d_L_againstRange_30 : decode prog_2_method_13_code 30 = .ok (.iload 9, 2) := by decide +kernel
theorem d_L_againstRange_32 : decode prog_2_method_13_code 32 = .ok (.laload, 1) := by decide +kernel
theorem d_L_againstRange_33 : decode prog_2_method_13_code 33 = .ok (.lload 5, 2) := by decide +kernel
theorem d_L_againstRange_35 : decode prog_2_method_13_code 35 = .ok (.lcmp, 1) := by decide +kernel
theorem d_L_againstRange_36 : decode prog_2_method_13_code 36 = .ok (.ifCond .gt 19, 3) := by decide +kernel
theorem d_L_againstRange_39 : decode prog_2_method_13_code 39 = .ok (.lload_n 3, 1) := by decide +kernel
theorem d_L_againstRange_40 : decode prog_2_method_13_code 40 = .ok (.aload_n 0, 1) := by decide +kernel
theorem d_L_againstRange_41 : decode prog_2_method_13_code 41 = .ok (.getfield 31, 3) := by decide +kernel
theorem d_L_againstRange_44 : decode prog_2_method_13_code 44 = .ok (.iload 9, 2) := by decide +kernel
theorem d_L_againstRange_46 : decode prog_2_method_13_code 46 = .ok (.laload, 1) := by decide +kernel
theorem d_L_againstRange_47 : decode prog_2_method_13_code 47 = .ok (.lcmp, 1) := by decide +kernel
theorem d_L_againstRange_48 : decode prog_2_method_13_code 48 = .ok (.ifCond .gt 7, 3) := by decide +kernel
theorem d_L_againstRange_51 : decode prog_2_method_13_code 51 = .ok (.iconst 1, 1) := by decide +kernel
theorem d_L_againstRange_52 : decode prog_2_method_13_code 52 = .ok (.goto 4, 3) := by decide +kernel
theorem d_L_againstRange_55 : decode prog_2_method_13_code 55 = .ok (.iconst 0, 1) := by decide +kernel
theorem d_L_againstRange_56 : decode prog_2_method_13_code 56 = .ok (.istore 10, 2) := by decide +kernel
theorem d_L_againstRange_58 : decode prog_2_method_13_code 58 = .ok (.iload 10, 2) := by decide +kernel
theorem d_L_againstRange_60 : decode prog_2_method_13_code 60 = .ok (.ifCond .eq 43, 3) := by decide +kernel
theorem d_L_againstRange_63 : decode prog_2_method_13_code 63 = .ok (.aload_n 0, 1) := by decide +kernel
theorem d_L_againstRange_64 : decode prog_2_method_13_code 64 = .ok (.getfield 21, 3) := by decide +kernel
theorem d_L_againstRange_67 : decode prog_2_method_13_code 67 = .ok (.iload 9, 2) := by decide +kernel
theorem d_L_againstRange_69 : decode prog_2_method_13_code 69 = .ok (.iaload, 1) := by decide +kernel
theorem d_L_againstRange_70 : decode prog_2_method_13_code 70 = .ok (.iload_n 1, 1) := by decide +kernel
theorem d_L_againstRange_71 : decode prog_2_method_13_code 71 = .ok (.if_icmp .eq 32, 3) := by decide +kernel
theorem d_L_againstRange_74 : decode prog_2_method_13_code 74 = .ok (.aload_n 0, 1) := by decide +kernel
theorem d_L_againstRange_75 : decode prog_2_method_13_code 75 = .ok (.getfield 34, 3) := by decide +kernel
theorem d_L_againstRange_78 : decode prog_2_method_13_code 78 = .ok (.iload 9, 2) := by decide +kernel
theorem d_L_againstRange_80 : decode prog_2_method_13_code 80 = .ok (.iaload, 1) := by decide +kernel
theorem d_L_againstRange_81 : decode prog_2_method_13_code 81 = .ok (.iload 7, 2) := by decide +kernel
theorem d_L_againstRange_83 : decode prog_2_method_13_code 83 = .ok (.invokestatic 67, 3) := by decide +kernel
theorem d_L_againstRange_86 : decode prog_2_method_13_code 86 = .ok (.ifCond .ne 17, 3) := by decide +kernel
theorem d_L_againstRange_89 : decode prog_2_method_13_code 89 = .ok (.iload 8, 2) := by decide +kernel
theorem d_L_againstRange_91 : decode prog_2_method_13_code 91 = .ok (.iconst 1, 1) := by decide +kernel
theorem d_L_againstRange_92 : decode prog_2_method_13_code 92 = .ok (.aload_n 0, 1) := by decide +kernel
theorem d_L_againstRange_93 : decode prog_2_method_13_code 93 = .ok (.getfield 21, 3) := by decide +kernel
theorem d_L_againstRange_96 : decode prog_2_method_13_code 96 = .ok (.iload 9, 2) := by decide +kernel
theorem d_L_againstRange_98 : decode prog_2_method_13_code 98 = .ok (.iaload, 1) := by decide +kernel
theorem d_L_againstRange_99 : decode prog_2_method_13_code 99 = .ok (.ishl, 1) := by decide +kernel
theorem d_L_againstRange_100 : decode prog_2_method_13_code 100 = .ok (.ior, 1) := by decide +kernel
theorem d_L_againstRange_101 : decode prog_2_method_13_code 101 = .ok (.istore 8, 2) := by decide +kernel
theorem d_L_againstRange_103 : decode prog_2_method_13_code 103 = .ok (.iinc 9 1, 3) := by decide +kernel
theorem d_L_againstRange_106 : decode prog_2_method_13_code 106 = .ok (.goto (-100), 3) := by decide +kernel
theorem d_L_againstRange_109 : decode prog_2_method_13_code 109 = .ok (.iload 8, 2) := by decide +kernel
theorem d_L_againstRange_111 : decode prog_2_method_13_code 111 = .ok (.ireturn, 1) := by decide +kernel
theorem d_L_dropRanges_0 : decode prog_2_method_14_code 0 = .ok (.aload_n 0, 1) := by decide +kernel
theorem d_L_dropRanges_1 : decode prog_2_method_14_code 1 = .ok (.getfield 37, 3) := by decide +kernel
theorem d_L_dropRanges_4 : decode prog_2_method_14_code 4 = .ok (.iconst 1, 1) := by decide +kernel
theorem d_L_dropRanges_5 : decode prog_2_method_14_code 5 = .ok (.isub, 1) := by decide +kernel
theorem d_L_dropRanges_6 : decode prog_2_method_14_code 6 = .ok (.istore_n 3, 1) := by decide +kernel
theorem d_L_dropRanges_7 : decode prog_2_method_14_code 7 = .ok (.iload_n 3, 1) := by decide +kernel
theorem d_L_dropRanges_8 : decode prog_2_method_14_code 8 = .ok (.ifCond .lt 24, 3) := by decide +kernel
theorem d_L_dropRanges_11 : decode prog_2_method_14_code 11 = .ok (.aload_n 0, 1) := by decide +kernel
theorem d_L_dropRanges_12 : decode prog_2_method_14_code 12 = .ok (.iload_n 3, 1) := by decide +kernel
theorem d_L_dropRanges_13 : decode prog_2_method_14_code 13 = .ok (.iload_n 1, 1) := by decide +kernel
theorem d_L_dropRanges_14 : decode prog_2_method_14_code 14 = .ok (.iload_n 2, 1) := by decide +kernel
theorem d_L_dropRanges_15 : decode prog_2_method_14_code 15 = .ok (.invokevirtual 58, 3) := by decide +kernel
theorem d_L_dropRanges_18 : decode prog_2_method_14_code 18 = .ok (.ifCond .eq 8, 3) := by decide +kernel
theorem d_L_dropRanges_21 : decode prog_2_method_14_code 21 = .ok (.aload_n 0, 1) := by decide +kernel
theorem d_L_dropRanges_22 : decode prog_2_method_14_code 22 = .ok (.iload_n 3, 1) := by decide +kernel
theorem d_L_dropRanges_23 : decode prog_2_method_14_code 23 = .ok (.invokevirtual 70, 3) := by decide +kernel
theorem d_L_dropRanges_26 : decode prog_2_method_14_code 26 = .ok (.iinc 3 (-1), 3) := by decide +kernel
theorem d_L_dropRanges_29 : decode prog_2_method_14_code 29 = .ok (.goto (-22), 3) := by decide +kernel
theorem d_L_dropRanges_32 : decode prog_2_method_14_code 32 = .ok (.return_, 1) := by decide +kernel
theorem d_L_dropReading_0 : decode prog_2_method_15_code 0 = .ok (.iconst 0, 1) := by decide +kernel
theorem d_L_dropReading_1 : decode prog_2_method_15_code 1 = .ok (.istore_n 2, 1) := by decide +kernel
theorem d_L_dropReading_2 : decode prog_2_method_15_code 2 = .ok (.iload_n 2, 1) := by decide +kernel
theorem d_L_dropReading_3 : decode prog_2_method_15_code 3 = .ok (.bipush 16, 2) := by decide +kernel
theorem d_L_dropReading_5 : decode prog_2_method_15_code 5 = .ok (.if_icmp .ge 45, 3) := by decide +kernel
theorem d_L_dropReading_8 : decode prog_2_method_15_code 8 = .ok (.aload_n 0, 1) := by decide +kernel
theorem d_L_dropReading_9 : decode prog_2_method_15_code 9 = .ok (.iload_n 1, 1) := by decide +kernel
theorem d_L_dropReading_10 : decode prog_2_method_15_code 10 = .ok (.iload_n 2, 1) := by decide +kernel
theorem d_L_dropReading_11 : decode prog_2_method_15_code 11 = .ok (.invokevirtual 41, 3) := by decide +kernel
theorem d_L_dropReading_14 : decode prog_2_method_15_code 14 = .ok (.istore_n 3, 1) := by decide +kernel
theorem d_L_dropReading_15 : decode prog_2_method_15_code 15 = .ok (.iload_n 3, 1) := by decide +kernel
theorem d_L_dropReading_16 : decode prog_2_method_15_code 16 = .ok (.iconst 3, 1) := by decide +kernel
theorem d_L_dropReading_17 : decode prog_2_method_15_code 17 = .ok (.if_icmp .ne 13, 3) := by decide +kernel
theorem d_L_dropReading_20 : decode prog_2_method_15_code 20 = .ok (.aload_n 0, 1) := by decide +kernel
theorem d_L_dropReading_21 : decode prog_2_method_15_code 21 = .ok (.iload_n 1, 1) := by decide +kernel
theorem d_L_dropReading_22 : decode prog_2_method_15_code 22 = .ok (.iload_n 2, 1) := by decide +kernel
theorem d_L_dropReading_23 : decode prog_2_method_15_code 23 = .ok (.iconst 1, 1) := by decide +kernel
theorem d_L_dropReading_24 : decode prog_2_method_15_code 24 = .ok (.invokevirtual 74, 3) := by decide +kernel
theorem d_L_dropReading_27 : decode prog_2_method_15_code 27 = .ok (.goto 17, 3) := by decide +kernel
theorem d_L_dropReading_30 : decode prog_2_method_15_code 30 = .ok (.iload_n 3, 1) := by decide +kernel
theorem d_L_dropReading_31 : decode prog_2_method_15_code 31 = .ok (.invokestatic 78, 3) := by decide +kernel
theorem d_L_dropReading_34 : decode prog_2_method_15_code 34 = .ok (.ifCond .eq 10, 3) := by decide +kernel
theorem d_L_dropReading_37 : decode prog_2_method_15_code 37 = .ok (.aload_n 0, 1) := by decide +kernel
theorem d_L_dropReading_38 : decode prog_2_method_15_code 38 = .ok (.iload_n 1, 1) := by decide +kernel
theorem d_L_dropReading_39 : decode prog_2_method_15_code 39 = .ok (.iload_n 2, 1) := by decide +kernel
theorem d_L_dropReading_40 : decode prog_2_method_15_code 40 = .ok (.iconst (-1), 1) := by decide +kernel
theorem d_L_dropReading_41 : decode prog_2_method_15_code 41 = .ok (.invokevirtual 74, 3) := by decide +kernel
theorem d_L_dropReading_44 : decode prog_2_method_15_code 44 = .ok (.iinc 2 1, 3) := by decide +kernel
theorem d_L_dropReading_47 : decode prog_2_method_15_code 47 = .ok (.goto (-45), 3) := by decide +kernel
theorem d_L_dropReading_50 : decode prog_2_method_15_code 50 = .ok (.aload_n 0, 1) := by decide +kernel
theorem d_L_dropReading_51 : decode prog_2_method_15_code 51 = .ok (.getfield 37, 3) := by decide +kernel
theorem d_L_dropReading_54 : decode prog_2_method_15_code 54 = .ok (.iconst 1, 1) := by decide +kernel
theorem d_L_dropReading_55 : decode prog_2_method_15_code 55 = .ok (.isub, 1) := by decide +kernel
theorem d_L_dropReading_56 : decode prog_2_method_15_code 56 = .ok (.istore_n 2, 1) := by decide +kernel
theorem d_L_dropReading_57 : decode prog_2_method_15_code 57 = .ok (.iload_n 2, 1) := by decide +kernel
theorem d_L_dropReading_58 : decode prog_2_method_15_code 58 = .ok (.ifCond .lt 36, 3) := by decide +kernel
theorem d_L_dropReading_61 : decode prog_2_method_15_code 61 = .ok (.aload_n 0, 1) := by decide +kernel
theorem d_L_dropReading_62 : decode prog_2_method_15_code 62 = .ok (.getfield 21, 3) := by decide +kernel
theorem d_L_dropReading_65 : decode prog_2_method_15_code 65 = .ok (.iload_n 2, 1) := by decide +kernel
theorem d_L_dropReading_66 : decode prog_2_method_15_code 66 = .ok (.iaload, 1) := by decide +kernel
theorem d_L_dropReading_67 : decode prog_2_method_15_code 67 = .ok (.iload_n 1, 1) := by decide +kernel
theorem d_L_dropReading_68 : decode prog_2_method_15_code 68 = .ok (.if_icmp .ne 20, 3) := by decide +kernel
theorem d_L_dropReading_71 : decode prog_2_method_15_code 71 = .ok (.aload_n 0, 1) := by decide +kernel
theorem d_L_dropReading_72 : decode prog_2_method_15_code 72 = .ok (.getfield 34, 3) := by decide +kernel
theorem d_L_dropReading_75 : decode prog_2_method_15_code 75 = .ok (.iload_n 2, 1) := by decide +kernel
theorem d_L_dropReading_76 : decode prog_2_method_15_code 76 = .ok (.iaload, 1) := by decide +kernel
theorem d_L_dropReading_77 : decode prog_2_method_15_code 77 = .ok (.invokestatic 78, 3) := by decide +kernel
theorem d_L_dropReading_80 : decode prog_2_method_15_code 80 = .ok (.ifCond .eq 8, 3) := by decide +kernel
theorem d_L_dropReading_83 : decode prog_2_method_15_code 83 = .ok (.aload_n 0, 1) := by decide +kernel
theorem d_L_dropReading_84 : decode prog_2_method_15_code 84 = .ok (.iload_n 2, 1) := by decide +kernel
theorem d_L_dropReading_85 : decode prog_2_method_15_code 85 = .ok (.invokevirtual 70, 3) := by decide +kernel
theorem d_L_dropReading_88 : decode prog_2_method_15_code 88 = .ok (.iinc 2 (-1), 3) := by decide +kernel
theorem d_L_dropReading_91 : decode prog_2_method_15_code 91 = .ok (.goto (-34), 3) := by decide +kernel
theorem d_L_dropReading_94 : decode prog_2_method_15_code 94 = .ok (.return_, 1) := by decide +kernel
theorem d_L_dropAll_0 : decode prog_2_method_16_code 0 = .ok (.iconst 0, 1) := by decide +kernel
theorem d_L_dropAll_1 : decode prog_2_method_16_code 1 = .ok (.istore_n 2, 1) := by decide +kernel
theorem d_L_dropAll_2 : decode prog_2_method_16_code 2 = .ok (.iload_n 2, 1) := by decide +kernel
theorem d_L_dropAll_3 : decode prog_2_method_16_code 3 = .ok (.bipush 16, 2) := by decide +kernel
theorem d_L_dropAll_5 : decode prog_2_method_16_code 5 = .ok (.if_icmp .ge 16, 3) := by decide +kernel
theorem d_L_dropAll_8 : decode prog_2_method_16_code 8 = .ok (.aload_n 0, 1) := by decide +kernel
theorem d_L_dropAll_9 : decode prog_2_method_16_code 9 = .ok (.iload_n 1, 1) := by decide +kernel
theorem d_L_dropAll_10 : decode prog_2_method_16_code 10 = .ok (.iload_n 2, 1) := by decide +kernel
theorem d_L_dropAll_11 : decode prog_2_method_16_code 11 = .ok (.iconst (-1), 1) := by decide +kernel
theorem d_L_dropAll_12 : decode prog_2_method_16_code 12 = .ok (.invokevirtual 74, 3) := by decide +kernel
theorem d_L_dropAll_15 : decode prog_2_method_16_code 15 = .ok (.iinc 2 1, 3) := by decide +kernel
theorem d_L_dropAll_18 : decode prog_2_method_16_code 18 = .ok (.goto (-16), 3) := by decide +kernel
theorem d_L_dropAll_21 : decode prog_2_method_16_code 21 = .ok (.aload_n 0, 1) := by decide +kernel
theorem d_L_dropAll_22 : decode prog_2_method_16_code 22 = .ok (.getfield 37, 3) := by decide +kernel
theorem d_L_dropAll_25 : decode prog_2_method_16_code 25 = .ok (.iconst 1, 1) := by decide +kernel
theorem d_L_dropAll_26 : decode prog_2_method_16_code 26 = .ok (.isub, 1) := by decide +kernel
theorem d_L_dropAll_27 : decode prog_2_method_16_code 27 = .ok (.istore_n 2, 1) := by decide +kernel
theorem d_L_dropAll_28 : decode prog_2_method_16_code 28 = .ok (.iload_n 2, 1) := by decide +kernel
theorem d_L_dropAll_29 : decode prog_2_method_16_code 29 = .ok (.ifCond .lt 24, 3) := by decide +kernel
theorem d_L_dropAll_32 : decode prog_2_method_16_code 32 = .ok (.aload_n 0, 1) := by decide +kernel
theorem d_L_dropAll_33 : decode prog_2_method_16_code 33 = .ok (.getfield 21, 3) := by decide +kernel
theorem d_L_dropAll_36 : decode prog_2_method_16_code 36 = .ok (.iload_n 2, 1) := by decide +kernel
theorem d_L_dropAll_37 : decode prog_2_method_16_code 37 = .ok (.iaload, 1) := by decide +kernel
theorem d_L_dropAll_38 : decode prog_2_method_16_code 38 = .ok (.iload_n 1, 1) := by decide +kernel
theorem d_L_dropAll_39 : decode prog_2_method_16_code 39 = .ok (.if_icmp .ne 8, 3) := by decide +kernel
theorem d_L_dropAll_42 : decode prog_2_method_16_code 42 = .ok (.aload_n 0, 1) := by decide +kernel
theorem d_L_dropAll_43 : decode prog_2_method_16_code 43 = .ok (.iload_n 2, 1) := by decide +kernel
theorem d_L_dropAll_44 : decode prog_2_method_16_code 44 = .ok (.invokevirtual 70, 3) := by decide +kernel
theorem d_L_dropAll_47 : decode prog_2_method_16_code 47 = .ok (.iinc 2 (-1), 3) := by decide +kernel
theorem d_L_dropAll_50 : decode prog_2_method_16_code 50 = .ok (.goto (-22), 3) := by decide +kernel
theorem d_L_dropAll_53 : decode prog_2_method_16_code 53 = .ok (.return_, 1) := by decide +kernel
def F_L_heldMode (ltm : Nat → Int32) (a1 : Int32) (a2 : Int32) : Option (Int32) :=
  gd (((a1 * 16) + a2) < 0 ∨ 128 ≤ ((a1 * 16) + a2).toNatClampNeg) (some (ltm ((a1 * 16) + a2).toNatClampNeg))
set_option maxHeartbeats 4000000 in
set_option maxRecDepth 100000 in
theorem t_L_heldMode {p : Program} {l : Launch} {e : Env} {s : State} {m : MethodId} {args : Array Value} {below : List Frame} {meth : Method} {c : Code} {A : Nat → Prop} {g : va_G} {cI cJ cZ : ClassId} {ad : Nat → Nat} {rest : va_W} (K : kX p s m args meth c "LockTable$Locks" prog_2_method_2_code 3 (some .int) A g (kty cI cJ cZ)) (xst : Nat → Int32) (xse : Nat → Int32) (xre : Nat → Int32) (xgr : Nat → Int32) (ltm : Nat → Int32) (low : Nat → Int32) (lta : Nat → Int32) (llo : Nat → Int64) (lhi : Nat → Int64) (lmo : Nat → Int32) (rta : Nat → Int32) (ron : Nat → Int32) (rlo : Nat → Int64) (rhi : Nat → Int64) (rmo : Nat → Int32) (rin : Nat → Int32) (res : Nat → Int32) (rsi : Nat → Int32) (rli : Nat → Int32) (rar : Nat → Int32) (xgc : Int32) (xca : Int32) (xls : Int32) (xtl : Int32) (xno : Int32) (lco : Int32) (rwa : Int32) (rad : Int32) (a1 : Int32) (a2 : Int32) (r : Int32) (hF : F_L_heldMode ltm a1 a2 = some r) {H : Heap} {locs : List Loc} {ls : Array Slot} (hP : va_P g kcl (wC cI cJ cZ ad xst xse xre xgr ltm low lta llo lhi lmo rta ron rlo rhi rmo rin res rsi rli rar xgc xca xls xtl xno lco rwa rad rest) H) (hD : va_D A (wC cI cJ cZ ad xst xse xre xgr ltm low lta llo lhi lmo rta ron rlo rhi rmo rin res rsi rli rar xgc xca xls xtl xno lco rwa rad rest)) (hS : va_S A s.heap H locs) (hl : lv_has ls 3 [(0, .ref (ad 1)), (1, .int a1), (2, .int a2)]) : W p l e ({ frames := 0, cells := 0, slots := 0, locals := 0 }) s m args below meth c H locs 0 0 (MQ below (kQi g (kty cI cJ cZ) (wC cI cJ cZ ad xst xse xre xgr ltm low lta llo lhi lmo rta ron rlo rhi rmo rin res rsi rli rar xgc xca xls xtl xno lco rwa rad rest) A r) args s 0 0 A) (F0 m 0 ls []) := by
  obtain ⟨hx, hb, hr, hml, hown, hts, hlocks, hK, hA, hE⟩ := id K
  unfold F_L_heldMode at hF
  refine lv_aload_n hx hb d_L_heldMode_0 rfl (lv_at hl 0 rfl) ?_
  refine va_get (D := g) (ci := 0) (v := .ref (ad 7)) (C := kR0) (T := kT0) (N := 7) hx hb hts kw0 hown hK hP 1 rfl rfl 0 (by decide) (hts _ wm_78) (fun _ h9 => h9) rfl d_L_heldMode_1 ?_
  refine lv_iload_n hx hb d_L_heldMode_4 rfl (lv_at hl 1 rfl) ?_
  refine lv_bipush (v := 16) hx hb d_L_heldMode_5 (by decide) ?_
  refine lv_imul hx hb d_L_heldMode_7 ?_
  refine lv_iload_n hx hb d_L_heldMode_8 rfl (lv_at hl 2 rfl) ?_
  refine lv_iadd hx hb d_L_heldMode_9 ?_
  obtain ⟨hg_1, hF⟩ := gd_inv hF
  refine va_iald hx hb hK hP 7 0 rfl rfl hg_1 d_L_heldMode_10 ?_
  cases hF
  exact kri K hP hD hS d_L_heldMode_11 rfl
theorem c_L_heldMode (l : Launch) (g : va_G) (cI cJ cZ : ClassId) (ad : Nat → Nat) (xst : Nat → Int32) (xse : Nat → Int32) (xre : Nat → Int32) (xgr : Nat → Int32) (ltm : Nat → Int32) (low : Nat → Int32) (lta : Nat → Int32) (llo : Nat → Int64) (lhi : Nat → Int64) (lmo : Nat → Int32) (rta : Nat → Int32) (ron : Nat → Int32) (rlo : Nat → Int64) (rhi : Nat → Int64) (rmo : Nat → Int32) (rin : Nat → Int32) (res : Nat → Int32) (rsi : Nat → Int32) (rli : Nat → Int32) (rar : Nat → Int32) (xgc : Int32) (xca : Int32) (xls : Int32) (xtl : Int32) (xno : Int32) (lco : Int32) (rwa : Int32) (rad : Int32) (rest : va_W) (a1 : Int32) (a2 : Int32) (r : Int32) (hF : F_L_heldMode ltm a1 a2 = some r) : Ci l y_L_heldMode prog_2_method_2_code 3 (some .int) ({ frames := 0, cells := 0, slots := 0, locals := 0 }) [.ref (ad 1), .int a1, .int a2] g (kty cI cJ cZ) (wC cI cJ cZ ad xst xse xre xgr ltm low lta llo lhi lmo rta ron rlo rhi rmo rin res rsi rli rar xgc xca xls xtl xno lco rwa rad rest) (wC cI cJ cZ ad xst xse xre xgr ltm low lta llo lhi lmo rta ron rlo rhi rmo rin res rsi rli rar xgc xca xls xtl xno lco rwa rad rest) r :=
  Ci.of (by decide) (Nat.le_of_ble_eq_true rfl) (fun p e s m below meth c A ls K hP hD hS hl => t_L_heldMode K xst xse xre xgr ltm low lta llo lhi lmo rta ron rlo rhi rmo rin res rsi rli rar xgc xca xls xtl xno lco rwa rad a1 a2 r hF hP hD hS hl)
def F_L_setTable (ltm : Nat → Int32) (a1 : Int32) (a2 : Int32) (a3 : Int32) : Option ((Nat → Int32)) :=
  gd (((a1 * 16) + a2) < 0 ∨ 128 ≤ ((a1 * 16) + a2).toNatClampNeg) (some (upd ltm ((a1 * 16) + a2).toNatClampNeg a3))
set_option maxHeartbeats 4000000 in
set_option maxRecDepth 100000 in
theorem t_L_setTable {p : Program} {l : Launch} {e : Env} {s : State} {m : MethodId} {args : Array Value} {below : List Frame} {meth : Method} {c : Code} {A : Nat → Prop} {g : va_G} {cI cJ cZ : ClassId} {ad : Nat → Nat} {rest : va_W} (K : kX p s m args meth c "LockTable$Locks" prog_2_method_3_code 4 none A g (kty cI cJ cZ)) (xst : Nat → Int32) (xse : Nat → Int32) (xre : Nat → Int32) (xgr : Nat → Int32) (ltm : Nat → Int32) (low : Nat → Int32) (lta : Nat → Int32) (llo : Nat → Int64) (lhi : Nat → Int64) (lmo : Nat → Int32) (rta : Nat → Int32) (ron : Nat → Int32) (rlo : Nat → Int64) (rhi : Nat → Int64) (rmo : Nat → Int32) (rin : Nat → Int32) (res : Nat → Int32) (rsi : Nat → Int32) (rli : Nat → Int32) (rar : Nat → Int32) (xgc : Int32) (xca : Int32) (xls : Int32) (xtl : Int32) (xno : Int32) (lco : Int32) (rwa : Int32) (rad : Int32) (a1 : Int32) (a2 : Int32) (a3 : Int32) (o_ltm : Nat → Int32) (hF : F_L_setTable ltm a1 a2 a3 = some o_ltm) {H : Heap} {locs : List Loc} {ls : Array Slot} (hP : va_P g kcl (wC cI cJ cZ ad xst xse xre xgr ltm low lta llo lhi lmo rta ron rlo rhi rmo rin res rsi rli rar xgc xca xls xtl xno lco rwa rad rest) H) (hD : va_D A (wC cI cJ cZ ad xst xse xre xgr ltm low lta llo lhi lmo rta ron rlo rhi rmo rin res rsi rli rar xgc xca xls xtl xno lco rwa rad rest)) (hS : va_S A s.heap H locs) (hl : lv_has ls 4 [(0, .ref (ad 1)), (1, .int a1), (2, .int a2), (3, .int a3)]) : W p l e ({ frames := 0, cells := 0, slots := 0, locals := 0 }) s m args below meth c H locs 0 0 (MQ below (kQv g (kty cI cJ cZ) (wC cI cJ cZ ad xst xse xre xgr o_ltm low lta llo lhi lmo rta ron rlo rhi rmo rin res rsi rli rar xgc xca xls xtl xno lco rwa rad rest) A) args s 0 0 A) (F0 m 0 ls []) := by
  obtain ⟨hx, hb, hr, hml, hown, hts, hlocks, hK, hA, hE⟩ := id K
  unfold F_L_setTable at hF
  refine lv_aload_n hx hb d_L_setTable_0 rfl (lv_at hl 0 rfl) ?_
  refine va_get (D := g) (ci := 0) (v := .ref (ad 7)) (C := kR0) (T := kT0) (N := 7) hx hb hts kw0 hown hK hP 1 rfl rfl 0 (by decide) (hts _ wm_78) (fun _ h9 => h9) rfl d_L_setTable_1 ?_
  refine lv_iload_n hx hb d_L_setTable_4 rfl (lv_at hl 1 rfl) ?_
  refine lv_bipush (v := 16) hx hb d_L_setTable_5 (by decide) ?_
  refine lv_imul hx hb d_L_setTable_7 ?_
  refine lv_iload_n hx hb d_L_setTable_8 rfl (lv_at hl 2 rfl) ?_
  refine lv_iadd hx hb d_L_setTable_9 ?_
  refine lv_iload_n hx hb d_L_setTable_10 rfl (lv_at hl 3 rfl) ?_
  obtain ⟨hg_1, hF⟩ := gd_inv hF
  refine va_iast hx hb hK hP hD hS 7 0 rfl rfl hg_1 d_L_setTable_11 (fun H locs hP hD hS => ?_)
  have hP : va_P g kcl (wC cI cJ cZ ad xst xse xre xgr (upd ltm ((a1 * 16) + a2).toNatClampNeg a3) low lta llo lhi lmo rta ron rlo rhi rmo rin res rsi rli rar xgc xca xls xtl xno lco rwa rad rest) H := hP
  have hD : va_D A (wC cI cJ cZ ad xst xse xre xgr (upd ltm ((a1 * 16) + a2).toNatClampNeg a3) low lta llo lhi lmo rta ron rlo rhi rmo rin res rsi rli rar xgc xca xls xtl xno lco rwa rad rest) := hD
  cases hF
  exact krv K hP hD hS d_L_setTable_12
theorem c_L_setTable (l : Launch) (g : va_G) (cI cJ cZ : ClassId) (ad : Nat → Nat) (xst : Nat → Int32) (xse : Nat → Int32) (xre : Nat → Int32) (xgr : Nat → Int32) (ltm : Nat → Int32) (low : Nat → Int32) (lta : Nat → Int32) (llo : Nat → Int64) (lhi : Nat → Int64) (lmo : Nat → Int32) (rta : Nat → Int32) (ron : Nat → Int32) (rlo : Nat → Int64) (rhi : Nat → Int64) (rmo : Nat → Int32) (rin : Nat → Int32) (res : Nat → Int32) (rsi : Nat → Int32) (rli : Nat → Int32) (rar : Nat → Int32) (xgc : Int32) (xca : Int32) (xls : Int32) (xtl : Int32) (xno : Int32) (lco : Int32) (rwa : Int32) (rad : Int32) (rest : va_W) (a1 : Int32) (a2 : Int32) (a3 : Int32) (o_ltm : Nat → Int32) (hF : F_L_setTable ltm a1 a2 a3 = some o_ltm) : Cv l y_L_setTable prog_2_method_3_code 4 ({ frames := 0, cells := 0, slots := 0, locals := 0 }) [.ref (ad 1), .int a1, .int a2, .int a3] g (kty cI cJ cZ) (wC cI cJ cZ ad xst xse xre xgr ltm low lta llo lhi lmo rta ron rlo rhi rmo rin res rsi rli rar xgc xca xls xtl xno lco rwa rad rest) (wC cI cJ cZ ad xst xse xre xgr o_ltm low lta llo lhi lmo rta ron rlo rhi rmo rin res rsi rli rar xgc xca xls xtl xno lco rwa rad rest) :=
  Cv.of (by decide) (Nat.le_of_ble_eq_true rfl) (fun p e s m below meth c A ls K hP hD hS hl => t_L_setTable K xst xse xre xgr ltm low lta llo lhi lmo rta ron rlo rhi rmo rin res rsi rli rar xgc xca xls xtl xno lco rwa rad a1 a2 a3 o_ltm hF hP hD hS hl)
def F_L_isOn (low : Nat → Int32) (lta : Nat → Int32) (a1 : Int32) (a2 : Int32) (a3 : Int32) : Option (Int32) :=
  gd (a1 < 0 ∨ 256 ≤ a1.toNatClampNeg) (if (low a1.toNatClampNeg) = a2 then gd (a1 < 0 ∨ 256 ≤ a1.toNatClampNeg) (if (lta a1.toNatClampNeg) = a3 then some 1 else some 0) else some 0)
set_option maxHeartbeats 4000000 in
set_option maxRecDepth 100000 in
theorem t_L_isOn {p : Program} {l : Launch} {e : Env} {s : State} {m : MethodId} {args : Array Value} {below : List Frame} {meth : Method} {c : Code} {A : Nat → Prop} {g : va_G} {cI cJ cZ : ClassId} {ad : Nat → Nat} {rest : va_W} (K : kX p s m args meth c "LockTable$Locks" prog_2_method_17_code 4 (some .boolean) A g (kty cI cJ cZ)) (xst : Nat → Int32) (xse : Nat → Int32) (xre : Nat → Int32) (xgr : Nat → Int32) (ltm : Nat → Int32) (low : Nat → Int32) (lta : Nat → Int32) (llo : Nat → Int64) (lhi : Nat → Int64) (lmo : Nat → Int32) (rta : Nat → Int32) (ron : Nat → Int32) (rlo : Nat → Int64) (rhi : Nat → Int64) (rmo : Nat → Int32) (rin : Nat → Int32) (res : Nat → Int32) (rsi : Nat → Int32) (rli : Nat → Int32) (rar : Nat → Int32) (xgc : Int32) (xca : Int32) (xls : Int32) (xtl : Int32) (xno : Int32) (lco : Int32) (rwa : Int32) (rad : Int32) (a1 : Int32) (a2 : Int32) (a3 : Int32) (r : Int32) (hF : F_L_isOn low lta a1 a2 a3 = some r) {H : Heap} {locs : List Loc} {ls : Array Slot} (hP : va_P g kcl (wC cI cJ cZ ad xst xse xre xgr ltm low lta llo lhi lmo rta ron rlo rhi rmo rin res rsi rli rar xgc xca xls xtl xno lco rwa rad rest) H) (hD : va_D A (wC cI cJ cZ ad xst xse xre xgr ltm low lta llo lhi lmo rta ron rlo rhi rmo rin res rsi rli rar xgc xca xls xtl xno lco rwa rad rest)) (hS : va_S A s.heap H locs) (hl : lv_has ls 4 [(0, .ref (ad 1)), (1, .int a1), (2, .int a2), (3, .int a3)]) : W p l e ({ frames := 0, cells := 0, slots := 0, locals := 0 }) s m args below meth c H locs 0 0 (MQ below (kQi g (kty cI cJ cZ) (wC cI cJ cZ ad xst xse xre xgr ltm low lta llo lhi lmo rta ron rlo rhi rmo rin res rsi rli rar xgc xca xls xtl xno lco rwa rad rest) A r) args s 0 0 A) (F0 m 0 ls []) := by
  obtain ⟨hx, hb, hr, hml, hown, hts, hlocks, hK, hA, hE⟩ := id K
  unfold F_L_isOn at hF
  refine lv_aload_n hx hb d_L_isOn_0 rfl (lv_at hl 0 rfl) ?_
  refine va_get (D := g) (ci := 0) (v := .ref (ad 8)) (C := kR0) (T := kT0) (N := 7) hx hb hts kw0 hown hK hP 1 rfl rfl 1 (by decide) (hts _ wm_79) (fun _ h9 => h9) rfl d_L_isOn_1 ?_
  refine lv_iload_n hx hb d_L_isOn_4 rfl (lv_at hl 1 rfl) ?_
  obtain ⟨hg_1, hF⟩ := gd_inv hF
  refine va_iald hx hb hK hP 8 0 rfl rfl hg_1 d_L_isOn_5 ?_
  refine lv_iload_n hx hb d_L_isOn_6 rfl (lv_at hl 2 rfl) ?_
  refine lv_icmp_ne (tgt := 24) hx hb d_L_isOn_7 (by decide) (fun hc_2 => ?_) (fun hc_2 => ?_)
  · have hF := it_f hF hc_2
    refine lv_iconst (v := 0) hx hb d_L_isOn_24 (by decide) ?_
    cases hF
    exact krz K hP hD hS d_L_isOn_25 rfl rfl
  · have hF := it_t hF hc_2
    refine lv_aload_n hx hb d_L_isOn_10 rfl (lv_at hl 0 rfl) ?_
    refine va_get (D := g) (ci := 0) (v := .ref (ad 9)) (C := kR0) (T := kT0) (N := 7) hx hb hts kw0 hown hK hP 1 rfl rfl 2 (by decide) (hts _ wm_80) (fun _ h9 => h9) rfl d_L_isOn_11 ?_
    refine lv_iload_n hx hb d_L_isOn_14 rfl (lv_at hl 1 rfl) ?_
    obtain ⟨hg_3, hF⟩ := gd_inv hF
    refine va_iald hx hb hK hP 9 0 rfl rfl hg_3 d_L_isOn_15 ?_
    refine lv_iload_n hx hb d_L_isOn_16 rfl (lv_at hl 3 rfl) ?_
    refine lv_icmp_ne (tgt := 24) hx hb d_L_isOn_17 (by decide) (fun hc_4 => ?_) (fun hc_4 => ?_)
    · have hF := it_f hF hc_4
      refine lv_iconst (v := 0) hx hb d_L_isOn_24 (by decide) ?_
      cases hF
      exact krz K hP hD hS d_L_isOn_25 rfl rfl
    · have hF := it_t hF hc_4
      refine lv_iconst (v := 1) hx hb d_L_isOn_20 (by decide) ?_
      refine lv_goto (tgt := 25) hx hb d_L_isOn_21 (by decide) ?_
      cases hF
      exact krz K hP hD hS d_L_isOn_25 rfl rfl
theorem c_L_isOn (l : Launch) (g : va_G) (cI cJ cZ : ClassId) (ad : Nat → Nat) (xst : Nat → Int32) (xse : Nat → Int32) (xre : Nat → Int32) (xgr : Nat → Int32) (ltm : Nat → Int32) (low : Nat → Int32) (lta : Nat → Int32) (llo : Nat → Int64) (lhi : Nat → Int64) (lmo : Nat → Int32) (rta : Nat → Int32) (ron : Nat → Int32) (rlo : Nat → Int64) (rhi : Nat → Int64) (rmo : Nat → Int32) (rin : Nat → Int32) (res : Nat → Int32) (rsi : Nat → Int32) (rli : Nat → Int32) (rar : Nat → Int32) (xgc : Int32) (xca : Int32) (xls : Int32) (xtl : Int32) (xno : Int32) (lco : Int32) (rwa : Int32) (rad : Int32) (rest : va_W) (a1 : Int32) (a2 : Int32) (a3 : Int32) (r : Int32) (hF : F_L_isOn low lta a1 a2 a3 = some r) : Ci l y_L_isOn prog_2_method_17_code 4 (some .boolean) ({ frames := 0, cells := 0, slots := 0, locals := 0 }) [.ref (ad 1), .int a1, .int a2, .int a3] g (kty cI cJ cZ) (wC cI cJ cZ ad xst xse xre xgr ltm low lta llo lhi lmo rta ron rlo rhi rmo rin res rsi rli rar xgc xca xls xtl xno lco rwa rad rest) (wC cI cJ cZ ad xst xse xre xgr ltm low lta llo lhi lmo rta ron rlo rhi rmo rin res rsi rli rar xgc xca xls xtl xno lco rwa rad rest) r :=
  Ci.of (by decide) (Nat.le_of_ble_eq_true rfl) (fun p e s m below meth c A ls K hP hD hS hl => t_L_isOn K xst xse xre xgr ltm low lta llo lhi lmo rta ron rlo rhi rmo rin res rsi rli rar xgc xca xls xtl xno lco rwa rad a1 a2 a3 r hF hP hD hS hl)
def F_L_isRound (low : Nat → Int32) (lta : Nat → Int32) (llo : Nat → Int64) (lhi : Nat → Int64) (a1 : Int32) (a2 : Int32) (a3 : Int32) (a4 : Int64) (a5 : Int64) : Option (Int32) :=
  ob1 (F_L_isOn low lta a1 a2 a3) (fun r_1 => if r_1 = 0 then some 0 else gd (a1 < 0 ∨ 256 ≤ a1.toNatClampNeg) (if 0 < (lg_cmp (llo a1.toNatClampNeg) a4) then some 0 else gd (a1 < 0 ∨ 256 ≤ a1.toNatClampNeg) (if 0 < (lg_cmp a5 (lhi a1.toNatClampNeg)) then some 0 else some 1)))
set_option maxHeartbeats 4000000 in
set_option maxRecDepth 100000 in
theorem t_L_isRound {p : Program} {l : Launch} {e : Env} {s : State} {m : MethodId} {args : Array Value} {below : List Frame} {meth : Method} {c : Code} {A : Nat → Prop} {g : va_G} {cI cJ cZ : ClassId} {ad : Nat → Nat} {rest : va_W} (K : kX p s m args meth c "LockTable$Locks" prog_2_method_18_code 8 (some .boolean) A g (kty cI cJ cZ)) (xst : Nat → Int32) (xse : Nat → Int32) (xre : Nat → Int32) (xgr : Nat → Int32) (ltm : Nat → Int32) (low : Nat → Int32) (lta : Nat → Int32) (llo : Nat → Int64) (lhi : Nat → Int64) (lmo : Nat → Int32) (rta : Nat → Int32) (ron : Nat → Int32) (rlo : Nat → Int64) (rhi : Nat → Int64) (rmo : Nat → Int32) (rin : Nat → Int32) (res : Nat → Int32) (rsi : Nat → Int32) (rli : Nat → Int32) (rar : Nat → Int32) (xgc : Int32) (xca : Int32) (xls : Int32) (xtl : Int32) (xno : Int32) (lco : Int32) (rwa : Int32) (rad : Int32) (a1 : Int32) (a2 : Int32) (a3 : Int32) (a4 : Int64) (a5 : Int64) (r : Int32) (hF : F_L_isRound low lta llo lhi a1 a2 a3 a4 a5 = some r) {H : Heap} {locs : List Loc} {ls : Array Slot} (hP : va_P g kcl (wC cI cJ cZ ad xst xse xre xgr ltm low lta llo lhi lmo rta ron rlo rhi rmo rin res rsi rli rar xgc xca xls xtl xno lco rwa rad rest) H) (hD : va_D A (wC cI cJ cZ ad xst xse xre xgr ltm low lta llo lhi lmo rta ron rlo rhi rmo rin res rsi rli rar xgc xca xls xtl xno lco rwa rad rest)) (hS : va_S A s.heap H locs) (hl : lv_has ls 8 [(0, .ref (ad 1)), (1, .int a1), (2, .int a2), (3, .int a3), (4, .long a4), (6, .long a5)]) : W p l e ({ frames := 1, cells := 0, slots := 0, locals := 23 }) s m args below meth c H locs 0 0 (MQ below (kQi g (kty cI cJ cZ) (wC cI cJ cZ ad xst xse xre xgr ltm low lta llo lhi lmo rta ron rlo rhi rmo rin res rsi rli rar xgc xca xls xtl xno lco rwa rad rest) A r) args s 0 0 A) (F0 m 0 ls []) := by
  obtain ⟨hx, hb, hr, hml, hown, hts, hlocks, hK, hA, hE⟩ := id K
  unfold F_L_isRound at hF
  refine lv_aload_n hx hb d_L_isRound_0 rfl (lv_at hl 0 rfl) ?_
  refine lv_iload_n hx hb d_L_isRound_1 rfl (lv_at hl 1 rfl) ?_
  refine lv_iload_n hx hb d_L_isRound_2 rfl (lv_at hl 2 rfl) ?_
  refine lv_iload_n hx hb d_L_isRound_3 rfl (lv_at hl 3 rfl) ?_
  obtain ⟨r_1, hG, hF⟩ := ob1_inv hF
  refine kci K hP hD hS (c_L_isOn l g cI cJ cZ ad xst xse xre xgr ltm low lta llo lhi lmo rta ron rlo rhi rmo rin res rsi rli rar xgc xca xls xtl xno lco rwa rad rest a1 a2 a3 r_1 hG) wm_413 wm_410 wm_412 wm_9 wm_48 hd_L_isOn rfl rfl ⟨Nat.le_of_ble_eq_true rfl, Nat.le_of_ble_eq_true rfl⟩ ⟨Nat.zero_le _, Nat.zero_le _⟩ 0 1 rfl rfl rfl hl.1 (rest := []) rfl (Nat.le_of_ble_eq_true rfl) d_L_isRound_4 (fun H locs hP hD hS => ?_)
  refine lv_if_eq (tgt := 38) hx hb d_L_isRound_7 (by decide) (fun hc_2 => ?_) (fun hc_2 => ?_)
  · have hF := it_t hF hc_2
    refine lv_iconst (v := 0) hx hb d_L_isRound_38 (by decide) ?_
    cases hF
    exact krz K hP hD hS d_L_isRound_39 rfl rfl
  · have hF := it_f hF hc_2
    refine lv_aload_n hx hb d_L_isRound_10 rfl (lv_at hl 0 rfl) ?_
    refine va_get (D := g) (ci := 0) (v := .ref (ad 10)) (C := kR0) (T := kT0) (N := 7) hx hb hts kw0 hown hK hP 1 rfl rfl 3 (by decide) (hts _ wm_81) (fun _ h9 => h9) rfl d_L_isRound_11 ?_
    refine lv_iload_n hx hb d_L_isRound_14 rfl (lv_at hl 1 rfl) ?_
    obtain ⟨hg_3, hF⟩ := gd_inv hF
    refine va_lald hx hb hK hP 10 1 rfl rfl hg_3 d_L_isRound_15 ?_
    refine lv_lload hx hb d_L_isRound_16 (lv_at hl 4 rfl) ?_
    refine W.lcmp hx hb d_L_isRound_18 ?_
    refine lv_if_gt (tgt := 38) hx hb d_L_isRound_19 (by decide) (fun hc_4 => ?_) (fun hc_4 => ?_)
    · have hF := it_t hF hc_4
      refine lv_iconst (v := 0) hx hb d_L_isRound_38 (by decide) ?_
      cases hF
      exact krz K hP hD hS d_L_isRound_39 rfl rfl
    · have hF := it_f hF hc_4
      refine lv_lload hx hb d_L_isRound_22 (lv_at hl 5 rfl) ?_
      refine lv_aload_n hx hb d_L_isRound_24 rfl (lv_at hl 0 rfl) ?_
      refine va_get (D := g) (ci := 0) (v := .ref (ad 11)) (C := kR0) (T := kT0) (N := 7) hx hb hts kw0 hown hK hP 1 rfl rfl 4 (by decide) (hts _ wm_82) (fun _ h9 => h9) rfl d_L_isRound_25 ?_
      refine lv_iload_n hx hb d_L_isRound_28 rfl (lv_at hl 1 rfl) ?_
      obtain ⟨hg_5, hF⟩ := gd_inv hF
      refine va_lald hx hb hK hP 11 1 rfl rfl hg_5 d_L_isRound_29 ?_
      refine W.lcmp hx hb d_L_isRound_30 ?_
      refine lv_if_gt (tgt := 38) hx hb d_L_isRound_31 (by decide) (fun hc_6 => ?_) (fun hc_6 => ?_)
      · have hF := it_t hF hc_6
        refine lv_iconst (v := 0) hx hb d_L_isRound_38 (by decide) ?_
        cases hF
        exact krz K hP hD hS d_L_isRound_39 rfl rfl
      · have hF := it_f hF hc_6
        refine lv_iconst (v := 1) hx hb d_L_isRound_34 (by decide) ?_
        refine lv_goto (tgt := 39) hx hb d_L_isRound_35 (by decide) ?_
        cases hF
        exact krz K hP hD hS d_L_isRound_39 rfl rfl
theorem c_L_isRound (l : Launch) (g : va_G) (cI cJ cZ : ClassId) (ad : Nat → Nat) (xst : Nat → Int32) (xse : Nat → Int32) (xre : Nat → Int32) (xgr : Nat → Int32) (ltm : Nat → Int32) (low : Nat → Int32) (lta : Nat → Int32) (llo : Nat → Int64) (lhi : Nat → Int64) (lmo : Nat → Int32) (rta : Nat → Int32) (ron : Nat → Int32) (rlo : Nat → Int64) (rhi : Nat → Int64) (rmo : Nat → Int32) (rin : Nat → Int32) (res : Nat → Int32) (rsi : Nat → Int32) (rli : Nat → Int32) (rar : Nat → Int32) (xgc : Int32) (xca : Int32) (xls : Int32) (xtl : Int32) (xno : Int32) (lco : Int32) (rwa : Int32) (rad : Int32) (rest : va_W) (a1 : Int32) (a2 : Int32) (a3 : Int32) (a4 : Int64) (a5 : Int64) (r : Int32) (hF : F_L_isRound low lta llo lhi a1 a2 a3 a4 a5 = some r) : Ci l y_L_isRound prog_2_method_18_code 8 (some .boolean) ({ frames := 1, cells := 0, slots := 0, locals := 23 }) [.ref (ad 1), .int a1, .int a2, .int a3, .long a4, .long a5] g (kty cI cJ cZ) (wC cI cJ cZ ad xst xse xre xgr ltm low lta llo lhi lmo rta ron rlo rhi rmo rin res rsi rli rar xgc xca xls xtl xno lco rwa rad rest) (wC cI cJ cZ ad xst xse xre xgr ltm low lta llo lhi lmo rta ron rlo rhi rmo rin res rsi rli rar xgc xca xls xtl xno lco rwa rad rest) r :=
  Ci.of (by decide) (Nat.le_of_ble_eq_true rfl) (fun p e s m below meth c A ls K hP hD hS hl => t_L_isRound K xst xse xre xgr ltm low lta llo lhi lmo rta ron rlo rhi rmo rin res rsi rli rar xgc xca xls xtl xno lco rwa rad a1 a2 a3 a4 a5 r hF hP hD hS hl)
def F_L_dropRow (low : Nat → Int32) (lta : Nat → Int32) (llo : Nat → Int64) (lhi : Nat → Int64) (lmo : Nat → Int32) (lco : Int32) (a1 : Int32) : Option ((Nat → Int32) × (Nat → Int32) × (Nat → Int64) × (Nat → Int64) × (Nat → Int32) × Int32) :=
  gd ((lco - 1) < 0 ∨ 256 ≤ (lco - 1).toNatClampNeg) (gd (a1 < 0 ∨ 256 ≤ a1.toNatClampNeg) (gd ((lco - 1) < 0 ∨ 256 ≤ (lco - 1).toNatClampNeg) (gd (a1 < 0 ∨ 256 ≤ a1.toNatClampNeg) (gd ((lco - 1) < 0 ∨ 256 ≤ (lco - 1).toNatClampNeg) (gd (a1 < 0 ∨ 256 ≤ a1.toNatClampNeg) (gd ((lco - 1) < 0 ∨ 256 ≤ (lco - 1).toNatClampNeg) (gd (a1 < 0 ∨ 256 ≤ a1.toNatClampNeg) (gd ((lco - 1) < 0 ∨ 256 ≤ (lco - 1).toNatClampNeg) (gd (a1 < 0 ∨ 256 ≤ a1.toNatClampNeg) (some (upd low a1.toNatClampNeg (low (lco - 1).toNatClampNeg), upd lta a1.toNatClampNeg (lta (lco - 1).toNatClampNeg), vp_updL llo a1.toNatClampNeg (llo (lco - 1).toNatClampNeg), vp_updL lhi a1.toNatClampNeg (lhi (lco - 1).toNatClampNeg), upd lmo a1.toNatClampNeg (lmo (lco - 1).toNatClampNeg), lco - 1)))))))))))
set_option maxHeartbeats 4000000 in
set_option maxRecDepth 100000 in
theorem t_L_dropRow {p : Program} {l : Launch} {e : Env} {s : State} {m : MethodId} {args : Array Value} {below : List Frame} {meth : Method} {c : Code} {A : Nat → Prop} {g : va_G} {cI cJ cZ : ClassId} {ad : Nat → Nat} {rest : va_W} (K : kX p s m args meth c "LockTable$Locks" prog_2_method_19_code 2 none A g (kty cI cJ cZ)) (xst : Nat → Int32) (xse : Nat → Int32) (xre : Nat → Int32) (xgr : Nat → Int32) (ltm : Nat → Int32) (low : Nat → Int32) (lta : Nat → Int32) (llo : Nat → Int64) (lhi : Nat → Int64) (lmo : Nat → Int32) (rta : Nat → Int32) (ron : Nat → Int32) (rlo : Nat → Int64) (rhi : Nat → Int64) (rmo : Nat → Int32) (rin : Nat → Int32) (res : Nat → Int32) (rsi : Nat → Int32) (rli : Nat → Int32) (rar : Nat → Int32) (xgc : Int32) (xca : Int32) (xls : Int32) (xtl : Int32) (xno : Int32) (lco : Int32) (rwa : Int32) (rad : Int32) (a1 : Int32) (o_low : Nat → Int32) (o_lta : Nat → Int32) (o_llo : Nat → Int64) (o_lhi : Nat → Int64) (o_lmo : Nat → Int32) (o_lco : Int32) (hF : F_L_dropRow low lta llo lhi lmo lco a1 = some (o_low, o_lta, o_llo, o_lhi, o_lmo, o_lco)) {H : Heap} {locs : List Loc} {ls : Array Slot} (hP : va_P g kcl (wC cI cJ cZ ad xst xse xre xgr ltm low lta llo lhi lmo rta ron rlo rhi rmo rin res rsi rli rar xgc xca xls xtl xno lco rwa rad rest) H) (hD : va_D A (wC cI cJ cZ ad xst xse xre xgr ltm low lta llo lhi lmo rta ron rlo rhi rmo rin res rsi rli rar xgc xca xls xtl xno lco rwa rad rest)) (hS : va_S A s.heap H locs) (hl : lv_has ls 2 [(0, .ref (ad 1)), (1, .int a1)]) : W p l e ({ frames := 0, cells := 0, slots := 0, locals := 0 }) s m args below meth c H locs 0 0 (MQ below (kQv g (kty cI cJ cZ) (wC cI cJ cZ ad xst xse xre xgr ltm o_low o_lta o_llo o_lhi o_lmo rta ron rlo rhi rmo rin res rsi rli rar xgc xca xls xtl xno o_lco rwa rad rest) A) args s 0 0 A) (F0 m 0 ls []) := by
  obtain ⟨hx, hb, hr, hml, hown, hts, hlocks, hK, hA, hE⟩ := id K
  unfold F_L_dropRow at hF
  refine lv_aload_n hx hb d_L_dropRow_0 rfl (lv_at hl 0 rfl) ?_
  refine lv_dup hx hb d_L_dropRow_1 rfl ?_
  refine va_get (D := g) (ci := 0) (v := .int lco) (C := kR0) (T := kT0) (N := 7) hx hb hts kw0 hown hK hP 1 rfl rfl 6 (by decide) (hts _ wm_84) (fun _ h9 => h9) rfl d_L_dropRow_2 ?_
  refine lv_iconst (v := 1) hx hb d_L_dropRow_5 (by decide) ?_
  refine lv_isub hx hb d_L_dropRow_6 ?_
  refine va_put (D := g) (ci := 0) (v := .int (lco - 1)) (ty := .int) (C := kR0) (T := kT0) (N := 7) hx hb hts kw0 kt0 ko0 kn0 hown hK hP hD hS 1 rfl rfl 6 (by decide) (hts _ wm_84) (fun _ h9 => h9) rfl (by decide +kernel) rfl rfl (Nat.le_of_ble_eq_true rfl) d_L_dropRow_7 (fun H locs hP hD hS => ?_)
  have hP : va_P g kcl (wC cI cJ cZ ad xst xse xre xgr ltm low lta llo lhi lmo rta ron rlo rhi rmo rin res rsi rli rar xgc xca xls xtl xno (lco - 1) rwa rad rest) H := hP
  have hD : va_D A (wC cI cJ cZ ad xst xse xre xgr ltm low lta llo lhi lmo rta ron rlo rhi rmo rin res rsi rli rar xgc xca xls xtl xno (lco - 1) rwa rad rest) := hD
  refine lv_aload_n hx hb d_L_dropRow_10 rfl (lv_at hl 0 rfl) ?_
  refine va_get (D := g) (ci := 0) (v := .ref (ad 8)) (C := kR0) (T := kT0) (N := 7) hx hb hts kw0 hown hK hP 1 rfl rfl 1 (by decide) (hts _ wm_79) (fun _ h9 => h9) rfl d_L_dropRow_11 ?_
  refine lv_iload_n hx hb d_L_dropRow_14 rfl (lv_at hl 1 rfl) ?_
  refine lv_aload_n hx hb d_L_dropRow_15 rfl (lv_at hl 0 rfl) ?_
  refine va_get (D := g) (ci := 0) (v := .ref (ad 8)) (C := kR0) (T := kT0) (N := 7) hx hb hts kw0 hown hK hP 1 rfl rfl 1 (by decide) (hts _ wm_79) (fun _ h9 => h9) rfl d_L_dropRow_16 ?_
  refine lv_aload_n hx hb d_L_dropRow_19 rfl (lv_at hl 0 rfl) ?_
  refine va_get (D := g) (ci := 0) (v := .int (lco - 1)) (C := kR0) (T := kT0) (N := 7) hx hb hts kw0 hown hK hP 1 rfl rfl 6 (by decide) (hts _ wm_84) (fun _ h9 => h9) rfl d_L_dropRow_20 ?_
  obtain ⟨hg_1, hF⟩ := gd_inv hF
  refine va_iald hx hb hK hP 8 0 rfl rfl hg_1 d_L_dropRow_23 ?_
  obtain ⟨hg_2, hF⟩ := gd_inv hF
  refine va_iast hx hb hK hP hD hS 8 0 rfl rfl hg_2 d_L_dropRow_24 (fun H locs hP hD hS => ?_)
  have hP : va_P g kcl (wC cI cJ cZ ad xst xse xre xgr ltm (upd low a1.toNatClampNeg (low (lco - 1).toNatClampNeg)) lta llo lhi lmo rta ron rlo rhi rmo rin res rsi rli rar xgc xca xls xtl xno (lco - 1) rwa rad rest) H := hP
  have hD : va_D A (wC cI cJ cZ ad xst xse xre xgr ltm (upd low a1.toNatClampNeg (low (lco - 1).toNatClampNeg)) lta llo lhi lmo rta ron rlo rhi rmo rin res rsi rli rar xgc xca xls xtl xno (lco - 1) rwa rad rest) := hD
  refine lv_aload_n hx hb d_L_dropRow_25 rfl (lv_at hl 0 rfl) ?_
  refine va_get (D := g) (ci := 0) (v := .ref (ad 9)) (C := kR0) (T := kT0) (N := 7) hx hb hts kw0 hown hK hP 1 rfl rfl 2 (by decide) (hts _ wm_80) (fun _ h9 => h9) rfl d_L_dropRow_26 ?_
  refine lv_iload_n hx hb d_L_dropRow_29 rfl (lv_at hl 1 rfl) ?_
  refine lv_aload_n hx hb d_L_dropRow_30 rfl (lv_at hl 0 rfl) ?_
  refine va_get (D := g) (ci := 0) (v := .ref (ad 9)) (C := kR0) (T := kT0) (N := 7) hx hb hts kw0 hown hK hP 1 rfl rfl 2 (by decide) (hts _ wm_80) (fun _ h9 => h9) rfl d_L_dropRow_31 ?_
  refine lv_aload_n hx hb d_L_dropRow_34 rfl (lv_at hl 0 rfl) ?_
  refine va_get (D := g) (ci := 0) (v := .int (lco - 1)) (C := kR0) (T := kT0) (N := 7) hx hb hts kw0 hown hK hP 1 rfl rfl 6 (by decide) (hts _ wm_84) (fun _ h9 => h9) rfl d_L_dropRow_35 ?_
  obtain ⟨hg_3, hF⟩ := gd_inv hF
  refine va_iald hx hb hK hP 9 0 rfl rfl hg_3 d_L_dropRow_38 ?_
  obtain ⟨hg_4, hF⟩ := gd_inv hF
  refine va_iast hx hb hK hP hD hS 9 0 rfl rfl hg_4 d_L_dropRow_39 (fun H locs hP hD hS => ?_)
  have hP : va_P g kcl (wC cI cJ cZ ad xst xse xre xgr ltm (upd low a1.toNatClampNeg (low (lco - 1).toNatClampNeg)) (upd lta a1.toNatClampNeg (lta (lco - 1).toNatClampNeg)) llo lhi lmo rta ron rlo rhi rmo rin res rsi rli rar xgc xca xls xtl xno (lco - 1) rwa rad rest) H := hP
  have hD : va_D A (wC cI cJ cZ ad xst xse xre xgr ltm (upd low a1.toNatClampNeg (low (lco - 1).toNatClampNeg)) (upd lta a1.toNatClampNeg (lta (lco - 1).toNatClampNeg)) llo lhi lmo rta ron rlo rhi rmo rin res rsi rli rar xgc xca xls xtl xno (lco - 1) rwa rad rest) := hD
  refine lv_aload_n hx hb d_L_dropRow_40 rfl (lv_at hl 0 rfl) ?_
  refine va_get (D := g) (ci := 0) (v := .ref (ad 10)) (C := kR0) (T := kT0) (N := 7) hx hb hts kw0 hown hK hP 1 rfl rfl 3 (by decide) (hts _ wm_81) (fun _ h9 => h9) rfl d_L_dropRow_41 ?_
  refine lv_iload_n hx hb d_L_dropRow_44 rfl (lv_at hl 1 rfl) ?_
  refine lv_aload_n hx hb d_L_dropRow_45 rfl (lv_at hl 0 rfl) ?_
  refine va_get (D := g) (ci := 0) (v := .ref (ad 10)) (C := kR0) (T := kT0) (N := 7) hx hb hts kw0 hown hK hP 1 rfl rfl 3 (by decide) (hts _ wm_81) (fun _ h9 => h9) rfl d_L_dropRow_46 ?_
  refine lv_aload_n hx hb d_L_dropRow_49 rfl (lv_at hl 0 rfl) ?_
  refine va_get (D := g) (ci := 0) (v := .int (lco - 1)) (C := kR0) (T := kT0) (N := 7) hx hb hts kw0 hown hK hP 1 rfl rfl 6 (by decide) (hts _ wm_84) (fun _ h9 => h9) rfl d_L_dropRow_50 ?_
  obtain ⟨hg_5, hF⟩ := gd_inv hF
  refine va_lald hx hb hK hP 10 1 rfl rfl hg_5 d_L_dropRow_53 ?_
  obtain ⟨hg_6, hF⟩ := gd_inv hF
  refine va_last hx hb hK hP hD hS 10 1 rfl rfl hg_6 d_L_dropRow_54 (fun H locs hP hD hS => ?_)
  have hP : va_P g kcl (wC cI cJ cZ ad xst xse xre xgr ltm (upd low a1.toNatClampNeg (low (lco - 1).toNatClampNeg)) (upd lta a1.toNatClampNeg (lta (lco - 1).toNatClampNeg)) (vp_updL llo a1.toNatClampNeg (llo (lco - 1).toNatClampNeg)) lhi lmo rta ron rlo rhi rmo rin res rsi rli rar xgc xca xls xtl xno (lco - 1) rwa rad rest) H := hP
  have hD : va_D A (wC cI cJ cZ ad xst xse xre xgr ltm (upd low a1.toNatClampNeg (low (lco - 1).toNatClampNeg)) (upd lta a1.toNatClampNeg (lta (lco - 1).toNatClampNeg)) (vp_updL llo a1.toNatClampNeg (llo (lco - 1).toNatClampNeg)) lhi lmo rta ron rlo rhi rmo rin res rsi rli rar xgc xca xls xtl xno (lco - 1) rwa rad rest) := hD
  refine lv_aload_n hx hb d_L_dropRow_55 rfl (lv_at hl 0 rfl) ?_
  refine va_get (D := g) (ci := 0) (v := .ref (ad 11)) (C := kR0) (T := kT0) (N := 7) hx hb hts kw0 hown hK hP 1 rfl rfl 4 (by decide) (hts _ wm_82) (fun _ h9 => h9) rfl d_L_dropRow_56 ?_
  refine lv_iload_n hx hb d_L_dropRow_59 rfl (lv_at hl 1 rfl) ?_
  refine lv_aload_n hx hb d_L_dropRow_60 rfl (lv_at hl 0 rfl) ?_
  refine va_get (D := g) (ci := 0) (v := .ref (ad 11)) (C := kR0) (T := kT0) (N := 7) hx hb hts kw0 hown hK hP 1 rfl rfl 4 (by decide) (hts _ wm_82) (fun _ h9 => h9) rfl d_L_dropRow_61 ?_
  refine lv_aload_n hx hb d_L_dropRow_64 rfl (lv_at hl 0 rfl) ?_
  refine va_get (D := g) (ci := 0) (v := .int (lco - 1)) (C := kR0) (T := kT0) (N := 7) hx hb hts kw0 hown hK hP 1 rfl rfl 6 (by decide) (hts _ wm_84) (fun _ h9 => h9) rfl d_L_dropRow_65 ?_
  obtain ⟨hg_7, hF⟩ := gd_inv hF
  refine va_lald hx hb hK hP 11 1 rfl rfl hg_7 d_L_dropRow_68 ?_
  obtain ⟨hg_8, hF⟩ := gd_inv hF
  refine va_last hx hb hK hP hD hS 11 1 rfl rfl hg_8 d_L_dropRow_69 (fun H locs hP hD hS => ?_)
  have hP : va_P g kcl (wC cI cJ cZ ad xst xse xre xgr ltm (upd low a1.toNatClampNeg (low (lco - 1).toNatClampNeg)) (upd lta a1.toNatClampNeg (lta (lco - 1).toNatClampNeg)) (vp_updL llo a1.toNatClampNeg (llo (lco - 1).toNatClampNeg)) (vp_updL lhi a1.toNatClampNeg (lhi (lco - 1).toNatClampNeg)) lmo rta ron rlo rhi rmo rin res rsi rli rar xgc xca xls xtl xno (lco - 1) rwa rad rest) H := hP
  have hD : va_D A (wC cI cJ cZ ad xst xse xre xgr ltm (upd low a1.toNatClampNeg (low (lco - 1).toNatClampNeg)) (upd lta a1.toNatClampNeg (lta (lco - 1).toNatClampNeg)) (vp_updL llo a1.toNatClampNeg (llo (lco - 1).toNatClampNeg)) (vp_updL lhi a1.toNatClampNeg (lhi (lco - 1).toNatClampNeg)) lmo rta ron rlo rhi rmo rin res rsi rli rar xgc xca xls xtl xno (lco - 1) rwa rad rest) := hD
  refine lv_aload_n hx hb d_L_dropRow_70 rfl (lv_at hl 0 rfl) ?_
  refine va_get (D := g) (ci := 0) (v := .ref (ad 12)) (C := kR0) (T := kT0) (N := 7) hx hb hts kw0 hown hK hP 1 rfl rfl 5 (by decide) (hts _ wm_83) (fun _ h9 => h9) rfl d_L_dropRow_71 ?_
  refine lv_iload_n hx hb d_L_dropRow_74 rfl (lv_at hl 1 rfl) ?_
  refine lv_aload_n hx hb d_L_dropRow_75 rfl (lv_at hl 0 rfl) ?_
  refine va_get (D := g) (ci := 0) (v := .ref (ad 12)) (C := kR0) (T := kT0) (N := 7) hx hb hts kw0 hown hK hP 1 rfl rfl 5 (by decide) (hts _ wm_83) (fun _ h9 => h9) rfl d_L_dropRow_76 ?_
  refine lv_aload_n hx hb d_L_dropRow_79 rfl (lv_at hl 0 rfl) ?_
  refine va_get (D := g) (ci := 0) (v := .int (lco - 1)) (C := kR0) (T := kT0) (N := 7) hx hb hts kw0 hown hK hP 1 rfl rfl 6 (by decide) (hts _ wm_84) (fun _ h9 => h9) rfl d_L_dropRow_80 ?_
  obtain ⟨hg_9, hF⟩ := gd_inv hF
  refine va_iald hx hb hK hP 12 0 rfl rfl hg_9 d_L_dropRow_83 ?_
  obtain ⟨hg_10, hF⟩ := gd_inv hF
  refine va_iast hx hb hK hP hD hS 12 0 rfl rfl hg_10 d_L_dropRow_84 (fun H locs hP hD hS => ?_)
  have hP : va_P g kcl (wC cI cJ cZ ad xst xse xre xgr ltm (upd low a1.toNatClampNeg (low (lco - 1).toNatClampNeg)) (upd lta a1.toNatClampNeg (lta (lco - 1).toNatClampNeg)) (vp_updL llo a1.toNatClampNeg (llo (lco - 1).toNatClampNeg)) (vp_updL lhi a1.toNatClampNeg (lhi (lco - 1).toNatClampNeg)) (upd lmo a1.toNatClampNeg (lmo (lco - 1).toNatClampNeg)) rta ron rlo rhi rmo rin res rsi rli rar xgc xca xls xtl xno (lco - 1) rwa rad rest) H := hP
  have hD : va_D A (wC cI cJ cZ ad xst xse xre xgr ltm (upd low a1.toNatClampNeg (low (lco - 1).toNatClampNeg)) (upd lta a1.toNatClampNeg (lta (lco - 1).toNatClampNeg)) (vp_updL llo a1.toNatClampNeg (llo (lco - 1).toNatClampNeg)) (vp_updL lhi a1.toNatClampNeg (lhi (lco - 1).toNatClampNeg)) (upd lmo a1.toNatClampNeg (lmo (lco - 1).toNatClampNeg)) rta ron rlo rhi rmo rin res rsi rli rar xgc xca xls xtl xno (lco - 1) rwa rad rest) := hD
  cases hF
  exact krv K hP hD hS d_L_dropRow_85
theorem c_L_dropRow (l : Launch) (g : va_G) (cI cJ cZ : ClassId) (ad : Nat → Nat) (xst : Nat → Int32) (xse : Nat → Int32) (xre : Nat → Int32) (xgr : Nat → Int32) (ltm : Nat → Int32) (low : Nat → Int32) (lta : Nat → Int32) (llo : Nat → Int64) (lhi : Nat → Int64) (lmo : Nat → Int32) (rta : Nat → Int32) (ron : Nat → Int32) (rlo : Nat → Int64) (rhi : Nat → Int64) (rmo : Nat → Int32) (rin : Nat → Int32) (res : Nat → Int32) (rsi : Nat → Int32) (rli : Nat → Int32) (rar : Nat → Int32) (xgc : Int32) (xca : Int32) (xls : Int32) (xtl : Int32) (xno : Int32) (lco : Int32) (rwa : Int32) (rad : Int32) (rest : va_W) (a1 : Int32) (o_low : Nat → Int32) (o_lta : Nat → Int32) (o_llo : Nat → Int64) (o_lhi : Nat → Int64) (o_lmo : Nat → Int32) (o_lco : Int32) (hF : F_L_dropRow low lta llo lhi lmo lco a1 = some (o_low, o_lta, o_llo, o_lhi, o_lmo, o_lco)) : Cv l y_L_dropRow prog_2_method_19_code 2 ({ frames := 0, cells := 0, slots := 0, locals := 0 }) [.ref (ad 1), .int a1] g (kty cI cJ cZ) (wC cI cJ cZ ad xst xse xre xgr ltm low lta llo lhi lmo rta ron rlo rhi rmo rin res rsi rli rar xgc xca xls xtl xno lco rwa rad rest) (wC cI cJ cZ ad xst xse xre xgr ltm o_low o_lta o_llo o_lhi o_lmo rta ron rlo rhi rmo rin res rsi rli rar xgc xca xls xtl xno o_lco rwa rad rest) :=
  Cv.of (by decide) (Nat.le_of_ble_eq_true rfl) (fun p e s m below meth c A ls K hP hD hS hl => t_L_dropRow K xst xse xre xgr ltm low lta llo lhi lmo rta ron rlo rhi rmo rin res rsi rli rar xgc xca xls xtl xno lco rwa rad a1 o_low o_lta o_llo o_lhi o_lmo o_lco hF hP hD hS hl)
def F_L_addRange (low : Nat → Int32) (lta : Nat → Int32) (llo : Nat → Int64) (lhi : Nat → Int64) (lmo : Nat → Int32) (lco : Int32) (a1 : Int32) (a2 : Int32) (a3 : Int64) (a4 : Int64) (a5 : Int32) : Option ((Nat → Int32) × (Nat → Int32) × (Nat → Int64) × (Nat → Int64) × (Nat → Int32) × Int32) :=
  if 256 ≤ lco then some (low, lta, llo, lhi, lmo, lco) else gd (lco < 0 ∨ 256 ≤ lco.toNatClampNeg) (gd (lco < 0 ∨ 256 ≤ lco.toNatClampNeg) (gd (lco < 0 ∨ 256 ≤ lco.toNatClampNeg) (gd (lco < 0 ∨ 256 ≤ lco.toNatClampNeg) (gd (lco < 0 ∨ 256 ≤ lco.toNatClampNeg) (some (upd low lco.toNatClampNeg a1, upd lta lco.toNatClampNeg a2, vp_updL llo lco.toNatClampNeg a3, vp_updL lhi lco.toNatClampNeg a4, upd lmo lco.toNatClampNeg a5, lco + 1))))))
set_option maxHeartbeats 4000000 in
set_option maxRecDepth 100000 in
theorem t_L_addRange {p : Program} {l : Launch} {e : Env} {s : State} {m : MethodId} {args : Array Value} {below : List Frame} {meth : Method} {c : Code} {A : Nat → Prop} {g : va_G} {cI cJ cZ : ClassId} {ad : Nat → Nat} {rest : va_W} (K : kX p s m args meth c "LockTable$Locks" prog_2_method_4_code 8 none A g (kty cI cJ cZ)) (xst : Nat → Int32) (xse : Nat → Int32) (xre : Nat → Int32) (xgr : Nat → Int32) (ltm : Nat → Int32) (low : Nat → Int32) (lta : Nat → Int32) (llo : Nat → Int64) (lhi : Nat → Int64) (lmo : Nat → Int32) (rta : Nat → Int32) (ron : Nat → Int32) (rlo : Nat → Int64) (rhi : Nat → Int64) (rmo : Nat → Int32) (rin : Nat → Int32) (res : Nat → Int32) (rsi : Nat → Int32) (rli : Nat → Int32) (rar : Nat → Int32) (xgc : Int32) (xca : Int32) (xls : Int32) (xtl : Int32) (xno : Int32) (lco : Int32) (rwa : Int32) (rad : Int32) (a1 : Int32) (a2 : Int32) (a3 : Int64) (a4 : Int64) (a5 : Int32) (o_low : Nat → Int32) (o_lta : Nat → Int32) (o_llo : Nat → Int64) (o_lhi : Nat → Int64) (o_lmo : Nat → Int32) (o_lco : Int32) (hF : F_L_addRange low lta llo lhi lmo lco a1 a2 a3 a4 a5 = some (o_low, o_lta, o_llo, o_lhi, o_lmo, o_lco)) {H : Heap} {locs : List Loc} {ls : Array Slot} (hP : va_P g kcl (wC cI cJ cZ ad xst xse xre xgr ltm low lta llo lhi lmo rta ron rlo rhi rmo rin res rsi rli rar xgc xca xls xtl xno lco rwa rad rest) H) (hD : va_D A (wC cI cJ cZ ad xst xse xre xgr ltm low lta llo lhi lmo rta ron rlo rhi rmo rin res rsi rli rar xgc xca xls xtl xno lco rwa rad rest)) (hS : va_S A s.heap H locs) (hl : lv_has ls 8 [(0, .ref (ad 1)), (1, .int a1), (2, .int a2), (3, .long a3), (5, .long a4), (7, .int a5)]) : W p l e ({ frames := 0, cells := 0, slots := 0, locals := 0 }) s m args below meth c H locs 0 0 (MQ below (kQv g (kty cI cJ cZ) (wC cI cJ cZ ad xst xse xre xgr ltm o_low o_lta o_llo o_lhi o_lmo rta ron rlo rhi rmo rin res rsi rli rar xgc xca xls xtl xno o_lco rwa rad rest) A) args s 0 0 A) (F0 m 0 ls []) := by
  obtain ⟨hx, hb, hr, hml, hown, hts, hlocks, hK, hA, hE⟩ := id K
  unfold F_L_addRange at hF
  refine lv_aload_n hx hb d_L_addRange_0 rfl (lv_at hl 0 rfl) ?_
  refine va_get (D := g) (ci := 0) (v := .int lco) (C := kR0) (T := kT0) (N := 7) hx hb hts kw0 hown hK hP 1 rfl rfl 6 (by decide) (hts _ wm_84) (fun _ h9 => h9) rfl d_L_addRange_1 ?_
  refine lv_sipush (v := 256) hx hb d_L_addRange_4 (by decide) ?_
  refine lv_icmp_ge (tgt := 72) hx hb d_L_addRange_7 (by decide) (fun hc_1 => ?_) (fun hc_1 => ?_)
  · have hF := it_t hF hc_1
    cases hF
    exact krv K hP hD hS d_L_addRange_72
  · have hF := it_f hF hc_1
    refine lv_aload_n hx hb d_L_addRange_10 rfl (lv_at hl 0 rfl) ?_
    refine va_get (D := g) (ci := 0) (v := .ref (ad 8)) (C := kR0) (T := kT0) (N := 7) hx hb hts kw0 hown hK hP 1 rfl rfl 1 (by decide) (hts _ wm_79) (fun _ h9 => h9) rfl d_L_addRange_11 ?_
    refine lv_aload_n hx hb d_L_addRange_14 rfl (lv_at hl 0 rfl) ?_
    refine va_get (D := g) (ci := 0) (v := .int lco) (C := kR0) (T := kT0) (N := 7) hx hb hts kw0 hown hK hP 1 rfl rfl 6 (by decide) (hts _ wm_84) (fun _ h9 => h9) rfl d_L_addRange_15 ?_
    refine lv_iload_n hx hb d_L_addRange_18 rfl (lv_at hl 1 rfl) ?_
    obtain ⟨hg_2, hF⟩ := gd_inv hF
    refine va_iast hx hb hK hP hD hS 8 0 rfl rfl hg_2 d_L_addRange_19 (fun H locs hP hD hS => ?_)
    have hP : va_P g kcl (wC cI cJ cZ ad xst xse xre xgr ltm (upd low lco.toNatClampNeg a1) lta llo lhi lmo rta ron rlo rhi rmo rin res rsi rli rar xgc xca xls xtl xno lco rwa rad rest) H := hP
    have hD : va_D A (wC cI cJ cZ ad xst xse xre xgr ltm (upd low lco.toNatClampNeg a1) lta llo lhi lmo rta ron rlo rhi rmo rin res rsi rli rar xgc xca xls xtl xno lco rwa rad rest) := hD
    refine lv_aload_n hx hb d_L_addRange_20 rfl (lv_at hl 0 rfl) ?_
    refine va_get (D := g) (ci := 0) (v := .ref (ad 9)) (C := kR0) (T := kT0) (N := 7) hx hb hts kw0 hown hK hP 1 rfl rfl 2 (by decide) (hts _ wm_80) (fun _ h9 => h9) rfl d_L_addRange_21 ?_
    refine lv_aload_n hx hb d_L_addRange_24 rfl (lv_at hl 0 rfl) ?_
    refine va_get (D := g) (ci := 0) (v := .int lco) (C := kR0) (T := kT0) (N := 7) hx hb hts kw0 hown hK hP 1 rfl rfl 6 (by decide) (hts _ wm_84) (fun _ h9 => h9) rfl d_L_addRange_25 ?_
    refine lv_iload_n hx hb d_L_addRange_28 rfl (lv_at hl 2 rfl) ?_
    obtain ⟨hg_3, hF⟩ := gd_inv hF
    refine va_iast hx hb hK hP hD hS 9 0 rfl rfl hg_3 d_L_addRange_29 (fun H locs hP hD hS => ?_)
    have hP : va_P g kcl (wC cI cJ cZ ad xst xse xre xgr ltm (upd low lco.toNatClampNeg a1) (upd lta lco.toNatClampNeg a2) llo lhi lmo rta ron rlo rhi rmo rin res rsi rli rar xgc xca xls xtl xno lco rwa rad rest) H := hP
    have hD : va_D A (wC cI cJ cZ ad xst xse xre xgr ltm (upd low lco.toNatClampNeg a1) (upd lta lco.toNatClampNeg a2) llo lhi lmo rta ron rlo rhi rmo rin res rsi rli rar xgc xca xls xtl xno lco rwa rad rest) := hD
    refine lv_aload_n hx hb d_L_addRange_30 rfl (lv_at hl 0 rfl) ?_
    refine va_get (D := g) (ci := 0) (v := .ref (ad 10)) (C := kR0) (T := kT0) (N := 7) hx hb hts kw0 hown hK hP 1 rfl rfl 3 (by decide) (hts _ wm_81) (fun _ h9 => h9) rfl d_L_addRange_31 ?_
    refine lv_aload_n hx hb d_L_addRange_34 rfl (lv_at hl 0 rfl) ?_
    refine va_get (D := g) (ci := 0) (v := .int lco) (C := kR0) (T := kT0) (N := 7) hx hb hts kw0 hown hK hP 1 rfl rfl 6 (by decide) (hts _ wm_84) (fun _ h9 => h9) rfl d_L_addRange_35 ?_
    refine lv_lload_n hx hb d_L_addRange_38 rfl (lv_at hl 3 rfl) ?_
    obtain ⟨hg_4, hF⟩ := gd_inv hF
    refine va_last hx hb hK hP hD hS 10 1 rfl rfl hg_4 d_L_addRange_39 (fun H locs hP hD hS => ?_)
    have hP : va_P g kcl (wC cI cJ cZ ad xst xse xre xgr ltm (upd low lco.toNatClampNeg a1) (upd lta lco.toNatClampNeg a2) (vp_updL llo lco.toNatClampNeg a3) lhi lmo rta ron rlo rhi rmo rin res rsi rli rar xgc xca xls xtl xno lco rwa rad rest) H := hP
    have hD : va_D A (wC cI cJ cZ ad xst xse xre xgr ltm (upd low lco.toNatClampNeg a1) (upd lta lco.toNatClampNeg a2) (vp_updL llo lco.toNatClampNeg a3) lhi lmo rta ron rlo rhi rmo rin res rsi rli rar xgc xca xls xtl xno lco rwa rad rest) := hD
    refine lv_aload_n hx hb d_L_addRange_40 rfl (lv_at hl 0 rfl) ?_
    refine va_get (D := g) (ci := 0) (v := .ref (ad 11)) (C := kR0) (T := kT0) (N := 7) hx hb hts kw0 hown hK hP 1 rfl rfl 4 (by decide) (hts _ wm_82) (fun _ h9 => h9) rfl d_L_addRange_41 ?_
    refine lv_aload_n hx hb d_L_addRange_44 rfl (lv_at hl 0 rfl) ?_
    refine va_get (D := g) (ci := 0) (v := .int lco) (C := kR0) (T := kT0) (N := 7) hx hb hts kw0 hown hK hP 1 rfl rfl 6 (by decide) (hts _ wm_84) (fun _ h9 => h9) rfl d_L_addRange_45 ?_
    refine lv_lload hx hb d_L_addRange_48 (lv_at hl 4 rfl) ?_
    obtain ⟨hg_5, hF⟩ := gd_inv hF
    refine va_last hx hb hK hP hD hS 11 1 rfl rfl hg_5 d_L_addRange_50 (fun H locs hP hD hS => ?_)
    have hP : va_P g kcl (wC cI cJ cZ ad xst xse xre xgr ltm (upd low lco.toNatClampNeg a1) (upd lta lco.toNatClampNeg a2) (vp_updL llo lco.toNatClampNeg a3) (vp_updL lhi lco.toNatClampNeg a4) lmo rta ron rlo rhi rmo rin res rsi rli rar xgc xca xls xtl xno lco rwa rad rest) H := hP
    have hD : va_D A (wC cI cJ cZ ad xst xse xre xgr ltm (upd low lco.toNatClampNeg a1) (upd lta lco.toNatClampNeg a2) (vp_updL llo lco.toNatClampNeg a3) (vp_updL lhi lco.toNatClampNeg a4) lmo rta ron rlo rhi rmo rin res rsi rli rar xgc xca xls xtl xno lco rwa rad rest) := hD
    refine lv_aload_n hx hb d_L_addRange_51 rfl (lv_at hl 0 rfl) ?_
    refine va_get (D := g) (ci := 0) (v := .ref (ad 12)) (C := kR0) (T := kT0) (N := 7) hx hb hts kw0 hown hK hP 1 rfl rfl 5 (by decide) (hts _ wm_83) (fun _ h9 => h9) rfl d_L_addRange_52 ?_
    refine lv_aload_n hx hb d_L_addRange_55 rfl (lv_at hl 0 rfl) ?_
    refine va_get (D := g) (ci := 0) (v := .int lco) (C := kR0) (T := kT0) (N := 7) hx hb hts kw0 hown hK hP 1 rfl rfl 6 (by decide) (hts _ wm_84) (fun _ h9 => h9) rfl d_L_addRange_56 ?_
    refine lv_iload hx hb d_L_addRange_59 (lv_at hl 5 rfl) ?_
    obtain ⟨hg_6, hF⟩ := gd_inv hF
    refine va_iast hx hb hK hP hD hS 12 0 rfl rfl hg_6 d_L_addRange_61 (fun H locs hP hD hS => ?_)
    have hP : va_P g kcl (wC cI cJ cZ ad xst xse xre xgr ltm (upd low lco.toNatClampNeg a1) (upd lta lco.toNatClampNeg a2) (vp_updL llo lco.toNatClampNeg a3) (vp_updL lhi lco.toNatClampNeg a4) (upd lmo lco.toNatClampNeg a5) rta ron rlo rhi rmo rin res rsi rli rar xgc xca xls xtl xno lco rwa rad rest) H := hP
    have hD : va_D A (wC cI cJ cZ ad xst xse xre xgr ltm (upd low lco.toNatClampNeg a1) (upd lta lco.toNatClampNeg a2) (vp_updL llo lco.toNatClampNeg a3) (vp_updL lhi lco.toNatClampNeg a4) (upd lmo lco.toNatClampNeg a5) rta ron rlo rhi rmo rin res rsi rli rar xgc xca xls xtl xno lco rwa rad rest) := hD
    refine lv_aload_n hx hb d_L_addRange_62 rfl (lv_at hl 0 rfl) ?_
    refine lv_dup hx hb d_L_addRange_63 rfl ?_
    refine va_get (D := g) (ci := 0) (v := .int lco) (C := kR0) (T := kT0) (N := 7) hx hb hts kw0 hown hK hP 1 rfl rfl 6 (by decide) (hts _ wm_84) (fun _ h9 => h9) rfl d_L_addRange_64 ?_
    refine lv_iconst (v := 1) hx hb d_L_addRange_67 (by decide) ?_
    refine lv_iadd hx hb d_L_addRange_68 ?_
    refine va_put (D := g) (ci := 0) (v := .int (lco + 1)) (ty := .int) (C := kR0) (T := kT0) (N := 7) hx hb hts kw0 kt0 ko0 kn0 hown hK hP hD hS 1 rfl rfl 6 (by decide) (hts _ wm_84) (fun _ h9 => h9) rfl (by decide +kernel) rfl rfl (Nat.le_of_ble_eq_true rfl) d_L_addRange_69 (fun H locs hP hD hS => ?_)
    have hP : va_P g kcl (wC cI cJ cZ ad xst xse xre xgr ltm (upd low lco.toNatClampNeg a1) (upd lta lco.toNatClampNeg a2) (vp_updL llo lco.toNatClampNeg a3) (vp_updL lhi lco.toNatClampNeg a4) (upd lmo lco.toNatClampNeg a5) rta ron rlo rhi rmo rin res rsi rli rar xgc xca xls xtl xno (lco + 1) rwa rad rest) H := hP
    have hD : va_D A (wC cI cJ cZ ad xst xse xre xgr ltm (upd low lco.toNatClampNeg a1) (upd lta lco.toNatClampNeg a2) (vp_updL llo lco.toNatClampNeg a3) (vp_updL lhi lco.toNatClampNeg a4) (upd lmo lco.toNatClampNeg a5) rta ron rlo rhi rmo rin res rsi rli rar xgc xca xls xtl xno (lco + 1) rwa rad rest) := hD
    cases hF
    exact krv K hP hD hS d_L_addRange_72
theorem c_L_addRange (l : Launch) (g : va_G) (cI cJ cZ : ClassId) (ad : Nat → Nat) (xst : Nat → Int32) (xse : Nat → Int32) (xre : Nat → Int32) (xgr : Nat → Int32) (ltm : Nat → Int32) (low : Nat → Int32) (lta : Nat → Int32) (llo : Nat → Int64) (lhi : Nat → Int64) (lmo : Nat → Int32) (rta : Nat → Int32) (ron : Nat → Int32) (rlo : Nat → Int64) (rhi : Nat → Int64) (rmo : Nat → Int32) (rin : Nat → Int32) (res : Nat → Int32) (rsi : Nat → Int32) (rli : Nat → Int32) (rar : Nat → Int32) (xgc : Int32) (xca : Int32) (xls : Int32) (xtl : Int32) (xno : Int32) (lco : Int32) (rwa : Int32) (rad : Int32) (rest : va_W) (a1 : Int32) (a2 : Int32) (a3 : Int64) (a4 : Int64) (a5 : Int32) (o_low : Nat → Int32) (o_lta : Nat → Int32) (o_llo : Nat → Int64) (o_lhi : Nat → Int64) (o_lmo : Nat → Int32) (o_lco : Int32) (hF : F_L_addRange low lta llo lhi lmo lco a1 a2 a3 a4 a5 = some (o_low, o_lta, o_llo, o_lhi, o_lmo, o_lco)) : Cv l y_L_addRange prog_2_method_4_code 8 ({ frames := 0, cells := 0, slots := 0, locals := 0 }) [.ref (ad 1), .int a1, .int a2, .long a3, .long a4, .int a5] g (kty cI cJ cZ) (wC cI cJ cZ ad xst xse xre xgr ltm low lta llo lhi lmo rta ron rlo rhi rmo rin res rsi rli rar xgc xca xls xtl xno lco rwa rad rest) (wC cI cJ cZ ad xst xse xre xgr ltm o_low o_lta o_llo o_lhi o_lmo rta ron rlo rhi rmo rin res rsi rli rar xgc xca xls xtl xno o_lco rwa rad rest) :=
  Cv.of (by decide) (Nat.le_of_ble_eq_true rfl) (fun p e s m below meth c A ls K hP hD hS hl => t_L_addRange K xst xse xre xgr ltm low lta llo lhi lmo rta ron rlo rhi rmo rin res rsi rli rar xgc xca xls xtl xno lco rwa rad a1 a2 a3 a4 a5 o_low o_lta o_llo o_lhi o_lmo o_lco hF hP hD hS hl)
def F_L_countRanges_L5 (low : Nat → Int32) (lta : Nat → Int32) (lco : Int32) (v1 : Int32) (v2 : Int32) : Nat → Int32 → Int32 → Option (Int32)
  | 0, _, _ => none
  | n + 1, v3, v4 => if lco ≤ v4 then some v3 else ob1 (F_L_isOn low lta v4 v1 v2) (fun r_2 => if r_2 = 0 then F_L_countRanges_L5 low lta lco v1 v2 n v3 (v4 + 1) else F_L_countRanges_L5 low lta lco v1 v2 n (v3 + 1) (v4 + 1))
def F_L_countRanges (low : Nat → Int32) (lta : Nat → Int32) (lco : Int32) (a1 : Int32) (a2 : Int32) : Option (Int32) :=
  ob1 (F_L_countRanges_L5 low lta lco a1 a2 fu 0 0) (fun v3_4 => some v3_4)
set_option maxHeartbeats 4000000 in
set_option maxRecDepth 100000 in
theorem t_L_countRanges_L5 {p : Program} {l : Launch} {e : Env} {s : State} {m : MethodId} {args : Array Value} {below : List Frame} {meth : Method} {c : Code} {A : Nat → Prop} {g : va_G} {cI cJ cZ : ClassId} {ad : Nat → Nat} {rest : va_W} (K : kX p s m args meth c "LockTable$Locks" prog_2_method_8_code 5 (some .int) A g (kty cI cJ cZ)) {Q : State → Prop} (xst : Nat → Int32) (xse : Nat → Int32) (xre : Nat → Int32) (xgr : Nat → Int32) (ltm : Nat → Int32) (low : Nat → Int32) (lta : Nat → Int32) (llo : Nat → Int64) (lhi : Nat → Int64) (lmo : Nat → Int32) (rta : Nat → Int32) (ron : Nat → Int32) (rlo : Nat → Int64) (rhi : Nat → Int64) (rmo : Nat → Int32) (rin : Nat → Int32) (res : Nat → Int32) (rsi : Nat → Int32) (rli : Nat → Int32) (rar : Nat → Int32) (xgc : Int32) (xca : Int32) (xls : Int32) (xtl : Int32) (xno : Int32) (lco : Int32) (rwa : Int32) (rad : Int32) (v1 : Int32) (v2 : Int32) : ∀ (n : Nat) (v3 : Int32) (v4 : Int32) (o_v3 : Int32) (H : Heap) (locs : List Loc) (ls : Array Slot), F_L_countRanges_L5 low lta lco v1 v2 n v3 v4 = some o_v3 → va_P g kcl (wC cI cJ cZ ad xst xse xre xgr ltm low lta llo lhi lmo rta ron rlo rhi rmo rin res rsi rli rar xgc xca xls xtl xno lco rwa rad rest) H → va_D A (wC cI cJ cZ ad xst xse xre xgr ltm low lta llo lhi lmo rta ron rlo rhi rmo rin res rsi rli rar xgc xca xls xtl xno lco rwa rad rest) → va_S A s.heap H locs → lv_has ls 5 [(0, .ref (ad 1)), (1, .int v1), (2, .int v2), (3, .int v3), (4, .int v4)] → (∀ (H : Heap) (locs : List Loc) (ls : Array Slot), va_P g kcl (wC cI cJ cZ ad xst xse xre xgr ltm low lta llo lhi lmo rta ron rlo rhi rmo rin res rsi rli rar xgc xca xls xtl xno lco rwa rad rest) H → va_D A (wC cI cJ cZ ad xst xse xre xgr ltm low lta llo lhi lmo rta ron rlo rhi rmo rin res rsi rli rar xgc xca xls xtl xno lco rwa rad rest) → va_S A s.heap H locs → lv_has ls 5 [(3, .int o_v3)] → W p l e ({ frames := 1, cells := 0, slots := 0, locals := 23 }) s m args below meth c H locs 0 0 Q (F0 m 34 ls [])) → W p l e ({ frames := 1, cells := 0, slots := 0, locals := 23 }) s m args below meth c H locs 0 0 Q (F0 m 5 ls []) := by
  obtain ⟨hx, hb, hr, hml, hown, hts, hlocks, hK, hA, hE⟩ := id K
  intro n
  induction n with
  | zero =>
    intro v3 v4 o_v3 H locs ls hF
    rw [F_L_countRanges_L5] at hF
    cases hF
  | succ n ih =>
    intro v3 v4 o_v3 H locs ls hF hP hD hS hl hQ
    rw [F_L_countRanges_L5] at hF
    refine lv_iload hx hb d_L_countRanges_5 (lv_at hl 4 rfl) ?_
    refine lv_aload_n hx hb d_L_countRanges_7 rfl (lv_at hl 0 rfl) ?_
    refine va_get (D := g) (ci := 0) (v := .int lco) (C := kR0) (T := kT0) (N := 7) hx hb hts kw0 hown hK hP 1 rfl rfl 6 (by decide) (hts _ wm_84) (fun _ h9 => h9) rfl d_L_countRanges_8 ?_
    refine lv_icmp_ge (tgt := 34) hx hb d_L_countRanges_11 (by decide) (fun hc_1 => ?_) (fun hc_1 => ?_)
    · have hF := it_t hF hc_1
      cases hF
      exact hQ H locs ls hP hD hS (lv_sub hl [3] rfl)
    · have hF := it_f hF hc_1
      refine lv_aload_n hx hb d_L_countRanges_14 rfl (lv_at hl 0 rfl) ?_
      refine lv_iload hx hb d_L_countRanges_15 (lv_at hl 4 rfl) ?_
      refine lv_iload_n hx hb d_L_countRanges_17 rfl (lv_at hl 1 rfl) ?_
      refine lv_iload_n hx hb d_L_countRanges_18 rfl (lv_at hl 2 rfl) ?_
      obtain ⟨r_2, hG, hF⟩ := ob1_inv hF
      refine kci K hP hD hS (c_L_isOn l g cI cJ cZ ad xst xse xre xgr ltm low lta llo lhi lmo rta ron rlo rhi rmo rin res rsi rli rar xgc xca xls xtl xno lco rwa rad rest v4 v1 v2 r_2 hG) wm_413 wm_410 wm_412 wm_9 wm_48 hd_L_isOn rfl rfl ⟨Nat.le_of_ble_eq_true rfl, Nat.le_of_ble_eq_true rfl⟩ ⟨Nat.zero_le _, Nat.zero_le _⟩ 0 1 rfl rfl rfl hl.1 (rest := []) rfl (Nat.le_of_ble_eq_true rfl) d_L_countRanges_19 (fun H locs hP hD hS => ?_)
      refine lv_if_eq (tgt := 28) hx hb d_L_countRanges_22 (by decide) (fun hc_3 => ?_) (fun hc_3 => ?_)
      · have hF := it_t hF hc_3
        refine lv_iinc (v := v4 + 1) (lv' := [(4, .int (v4 + 1)), (0, .ref (ad 1)), (1, .int v1), (2, .int v2), (3, .int v3)]) hx hb d_L_countRanges_28 hl (k := 4) rfl rfl (by decide) rfl (fun ls hl => ?_)
        refine lv_goto (tgt := 5) hx hb d_L_countRanges_31 (by decide) ?_
        exact ih _ _ _ H locs ls hF hP hD hS (lv_sub hl [1, 2, 3, 4, 0] rfl) hQ
      · have hF := it_f hF hc_3
        refine lv_iinc (v := v3 + 1) (lv' := [(3, .int (v3 + 1)), (0, .ref (ad 1)), (1, .int v1), (2, .int v2), (4, .int v4)]) hx hb d_L_countRanges_25 hl (k := 3) rfl rfl (by decide) rfl (fun ls hl => ?_)
        refine lv_iinc (v := v4 + 1) (lv' := [(4, .int (v4 + 1)), (3, .int (v3 + 1)), (0, .ref (ad 1)), (1, .int v1), (2, .int v2)]) hx hb d_L_countRanges_28 hl (k := 4) rfl rfl (by decide) rfl (fun ls hl => ?_)
        refine lv_goto (tgt := 5) hx hb d_L_countRanges_31 (by decide) ?_
        exact ih _ _ _ H locs ls hF hP hD hS (lv_sub hl [2, 3, 4, 1, 0] rfl) hQ
set_option maxHeartbeats 4000000 in
set_option maxRecDepth 100000 in
theorem t_L_countRanges {p : Program} {l : Launch} {e : Env} {s : State} {m : MethodId} {args : Array Value} {below : List Frame} {meth : Method} {c : Code} {A : Nat → Prop} {g : va_G} {cI cJ cZ : ClassId} {ad : Nat → Nat} {rest : va_W} (K : kX p s m args meth c "LockTable$Locks" prog_2_method_8_code 5 (some .int) A g (kty cI cJ cZ)) (xst : Nat → Int32) (xse : Nat → Int32) (xre : Nat → Int32) (xgr : Nat → Int32) (ltm : Nat → Int32) (low : Nat → Int32) (lta : Nat → Int32) (llo : Nat → Int64) (lhi : Nat → Int64) (lmo : Nat → Int32) (rta : Nat → Int32) (ron : Nat → Int32) (rlo : Nat → Int64) (rhi : Nat → Int64) (rmo : Nat → Int32) (rin : Nat → Int32) (res : Nat → Int32) (rsi : Nat → Int32) (rli : Nat → Int32) (rar : Nat → Int32) (xgc : Int32) (xca : Int32) (xls : Int32) (xtl : Int32) (xno : Int32) (lco : Int32) (rwa : Int32) (rad : Int32) (a1 : Int32) (a2 : Int32) (r : Int32) (hF : F_L_countRanges low lta lco a1 a2 = some r) {H : Heap} {locs : List Loc} {ls : Array Slot} (hP : va_P g kcl (wC cI cJ cZ ad xst xse xre xgr ltm low lta llo lhi lmo rta ron rlo rhi rmo rin res rsi rli rar xgc xca xls xtl xno lco rwa rad rest) H) (hD : va_D A (wC cI cJ cZ ad xst xse xre xgr ltm low lta llo lhi lmo rta ron rlo rhi rmo rin res rsi rli rar xgc xca xls xtl xno lco rwa rad rest)) (hS : va_S A s.heap H locs) (hl : lv_has ls 5 [(0, .ref (ad 1)), (1, .int a1), (2, .int a2)]) : W p l e ({ frames := 1, cells := 0, slots := 0, locals := 23 }) s m args below meth c H locs 0 0 (MQ below (kQi g (kty cI cJ cZ) (wC cI cJ cZ ad xst xse xre xgr ltm low lta llo lhi lmo rta ron rlo rhi rmo rin res rsi rli rar xgc xca xls xtl xno lco rwa rad rest) A r) args s 0 0 A) (F0 m 0 ls []) := by
  obtain ⟨hx, hb, hr, hml, hown, hts, hlocks, hK, hA, hE⟩ := id K
  unfold F_L_countRanges at hF
  refine lv_iconst (v := 0) hx hb d_L_countRanges_0 (by decide) ?_
  refine lv_istore_n (lv' := [(3, .int 0), (0, .ref (ad 1)), (1, .int a1), (2, .int a2)]) hx hb d_L_countRanges_1 rfl hl (by decide) rfl (fun ls hl => ?_)
  refine lv_iconst (v := 0) hx hb d_L_countRanges_2 (by decide) ?_
  refine lv_istore (lv' := [(4, .int 0), (3, .int 0), (0, .ref (ad 1)), (1, .int a1), (2, .int a2)]) hx hb d_L_countRanges_3 hl (by decide) rfl (fun ls hl => ?_)
  obtain ⟨v3_4, hG, hF⟩ := ob1_inv hF
  refine t_L_countRanges_L5 K xst xse xre xgr ltm low lta llo lhi lmo rta ron rlo rhi rmo rin res rsi rli rar xgc xca xls xtl xno lco rwa rad a1 a2 fu _ _ _ H locs ls hG hP hD hS (lv_sub hl [2, 3, 4, 1, 0] rfl) (fun H locs ls hP hD hS hl => ?_)
  refine lv_iload_n hx hb d_L_countRanges_34 rfl (lv_at hl 0 rfl) ?_
  cases hF
  exact kri K hP hD hS d_L_countRanges_35 rfl
theorem c_L_countRanges (l : Launch) (g : va_G) (cI cJ cZ : ClassId) (ad : Nat → Nat) (xst : Nat → Int32) (xse : Nat → Int32) (xre : Nat → Int32) (xgr : Nat → Int32) (ltm : Nat → Int32) (low : Nat → Int32) (lta : Nat → Int32) (llo : Nat → Int64) (lhi : Nat → Int64) (lmo : Nat → Int32) (rta : Nat → Int32) (ron : Nat → Int32) (rlo : Nat → Int64) (rhi : Nat → Int64) (rmo : Nat → Int32) (rin : Nat → Int32) (res : Nat → Int32) (rsi : Nat → Int32) (rli : Nat → Int32) (rar : Nat → Int32) (xgc : Int32) (xca : Int32) (xls : Int32) (xtl : Int32) (xno : Int32) (lco : Int32) (rwa : Int32) (rad : Int32) (rest : va_W) (a1 : Int32) (a2 : Int32) (r : Int32) (hF : F_L_countRanges low lta lco a1 a2 = some r) : Ci l y_L_countRanges prog_2_method_8_code 5 (some .int) ({ frames := 1, cells := 0, slots := 0, locals := 23 }) [.ref (ad 1), .int a1, .int a2] g (kty cI cJ cZ) (wC cI cJ cZ ad xst xse xre xgr ltm low lta llo lhi lmo rta ron rlo rhi rmo rin res rsi rli rar xgc xca xls xtl xno lco rwa rad rest) (wC cI cJ cZ ad xst xse xre xgr ltm low lta llo lhi lmo rta ron rlo rhi rmo rin res rsi rli rar xgc xca xls xtl xno lco rwa rad rest) r :=
  Ci.of (by decide) (Nat.le_of_ble_eq_true rfl) (fun p e s m below meth c A ls K hP hD hS hl => t_L_countRanges K xst xse xre xgr ltm low lta llo lhi lmo rta ron rlo rhi rmo rin res rsi rli rar xgc xca xls xtl xno lco rwa rad a1 a2 r hF hP hD hS hl)
def F_L_coverRange_L19 (low : Nat → Int32) (lta : Nat → Int32) (llo : Nat → Int64) (lhi : Nat → Int64) (lmo : Nat → Int32) (lco : Int32) (v1 : Int32) (v2 : Int32) (v3 : Int64) (v5 : Int64) (v7 : Int32) : Nat → Int32 → Option (Int32)
  | 0, _ => none
  | n + 1, v8 => if lco ≤ v8 then some 0 else ob1 (F_L_isRound low lta llo lhi v8 v1 v2 v3 v5) (fun r_5 => if r_5 = 0 then F_L_coverRange_L19 low lta llo lhi lmo lco v1 v2 v3 v5 v7 n (v8 + 1) else gd (v8 < 0 ∨ 256 ≤ v8.toNatClampNeg) (ob1 (F_K_rangeCovers (lmo v8.toNatClampNeg) v7) (fun r_8 => if r_8 = 0 then F_L_coverRange_L19 low lta llo lhi lmo lco v1 v2 v3 v5 v7 n (v8 + 1) else some 1)))
def F_L_coverRange (ltm : Nat → Int32) (low : Nat → Int32) (lta : Nat → Int32) (llo : Nat → Int64) (lhi : Nat → Int64) (lmo : Nat → Int32) (lco : Int32) (a1 : Int32) (a2 : Int32) (a3 : Int64) (a4 : Int64) (a5 : Int32) : Option (Int32) :=
  ob1 (F_L_heldMode ltm a1 a2) (fun r_1 => ob1 (F_K_tableCovers r_1 a5) (fun r_2 => if r_2 = 0 then F_L_coverRange_L19 low lta llo lhi lmo lco a1 a2 a3 a4 a5 fu 0 else some 1))
set_option maxHeartbeats 4000000 in
set_option maxRecDepth 100000 in
theorem t_L_coverRange_L19 {p : Program} {l : Launch} {e : Env} {s : State} {m : MethodId} {args : Array Value} {below : List Frame} {meth : Method} {c : Code} {A : Nat → Prop} {g : va_G} {cI cJ cZ : ClassId} {ad : Nat → Nat} {rest : va_W} (K : kX p s m args meth c "LockTable$Locks" prog_2_method_5_code 9 (some .boolean) A g (kty cI cJ cZ)) (xst : Nat → Int32) (xse : Nat → Int32) (xre : Nat → Int32) (xgr : Nat → Int32) (ltm : Nat → Int32) (low : Nat → Int32) (lta : Nat → Int32) (llo : Nat → Int64) (lhi : Nat → Int64) (lmo : Nat → Int32) (rta : Nat → Int32) (ron : Nat → Int32) (rlo : Nat → Int64) (rhi : Nat → Int64) (rmo : Nat → Int32) (rin : Nat → Int32) (res : Nat → Int32) (rsi : Nat → Int32) (rli : Nat → Int32) (rar : Nat → Int32) (xgc : Int32) (xca : Int32) (xls : Int32) (xtl : Int32) (xno : Int32) (lco : Int32) (rwa : Int32) (rad : Int32) (v1 : Int32) (v2 : Int32) (v3 : Int64) (v5 : Int64) (v7 : Int32) : ∀ (n : Nat) (v8 : Int32) (r : Int32) (H : Heap) (locs : List Loc) (ls : Array Slot), F_L_coverRange_L19 low lta llo lhi lmo lco v1 v2 v3 v5 v7 n v8 = some r → va_P g kcl (wC cI cJ cZ ad xst xse xre xgr ltm low lta llo lhi lmo rta ron rlo rhi rmo rin res rsi rli rar xgc xca xls xtl xno lco rwa rad rest) H → va_D A (wC cI cJ cZ ad xst xse xre xgr ltm low lta llo lhi lmo rta ron rlo rhi rmo rin res rsi rli rar xgc xca xls xtl xno lco rwa rad rest) → va_S A s.heap H locs → lv_has ls 9 [(0, .ref (ad 1)), (1, .int v1), (2, .int v2), (3, .long v3), (5, .long v5), (7, .int v7), (8, .int v8)] → W p l e ({ frames := 2, cells := 0, slots := 0, locals := 50 }) s m args below meth c H locs 0 0 (MQ below (kQi g (kty cI cJ cZ) (wC cI cJ cZ ad xst xse xre xgr ltm low lta llo lhi lmo rta ron rlo rhi rmo rin res rsi rli rar xgc xca xls xtl xno lco rwa rad rest) A r) args s 0 0 A) (F0 m 19 ls []) := by
  obtain ⟨hx, hb, hr, hml, hown, hts, hlocks, hK, hA, hE⟩ := id K
  intro n
  induction n with
  | zero =>
    intro v8 r H locs ls hF
    rw [F_L_coverRange_L19] at hF
    cases hF
  | succ n ih =>
    intro v8 r H locs ls hF hP hD hS hl
    rw [F_L_coverRange_L19] at hF
    refine lv_iload hx hb d_L_coverRange_19 (lv_at hl 6 rfl) ?_
    refine lv_aload_n hx hb d_L_coverRange_21 rfl (lv_at hl 0 rfl) ?_
    refine va_get (D := g) (ci := 0) (v := .int lco) (C := kR0) (T := kT0) (N := 7) hx hb hts kw0 hown hK hP 1 rfl rfl 6 (by decide) (hts _ wm_84) (fun _ h9 => h9) rfl d_L_coverRange_22 ?_
    refine lv_icmp_ge (tgt := 65) hx hb d_L_coverRange_25 (by decide) (fun hc_4 => ?_) (fun hc_4 => ?_)
    · have hF := it_t hF hc_4
      refine lv_iconst (v := 0) hx hb d_L_coverRange_65 (by decide) ?_
      cases hF
      exact krz K hP hD hS d_L_coverRange_66 rfl rfl
    · have hF := it_f hF hc_4
      refine lv_aload_n hx hb d_L_coverRange_28 rfl (lv_at hl 0 rfl) ?_
      refine lv_iload hx hb d_L_coverRange_29 (lv_at hl 6 rfl) ?_
      refine lv_iload_n hx hb d_L_coverRange_31 rfl (lv_at hl 1 rfl) ?_
      refine lv_iload_n hx hb d_L_coverRange_32 rfl (lv_at hl 2 rfl) ?_
      refine lv_lload_n hx hb d_L_coverRange_33 rfl (lv_at hl 3 rfl) ?_
      refine lv_lload hx hb d_L_coverRange_34 (lv_at hl 4 rfl) ?_
      obtain ⟨r_5, hG, hF⟩ := ob1_inv hF
      refine kci K hP hD hS (c_L_isRound l g cI cJ cZ ad xst xse xre xgr ltm low lta llo lhi lmo rta ron rlo rhi rmo rin res rsi rli rar xgc xca xls xtl xno lco rwa rad rest v8 v1 v2 v3 v5 r_5 hG) wm_485 wm_482 wm_484 wm_16 wm_48 hd_L_isRound rfl rfl ⟨Nat.le_of_ble_eq_true rfl, Nat.le_of_ble_eq_true rfl⟩ ⟨Nat.zero_le _, Nat.zero_le _⟩ 0 1 rfl rfl rfl hl.1 (rest := []) rfl (Nat.le_of_ble_eq_true rfl) d_L_coverRange_36 (fun H locs hP hD hS => ?_)
      refine lv_if_eq (tgt := 59) hx hb d_L_coverRange_39 (by decide) (fun hc_6 => ?_) (fun hc_6 => ?_)
      · have hF := it_t hF hc_6
        refine lv_iinc (v := v8 + 1) (lv' := [(8, .int (v8 + 1)), (0, .ref (ad 1)), (1, .int v1), (2, .int v2), (3, .long v3), (5, .long v5), (7, .int v7)]) hx hb d_L_coverRange_59 hl (k := 6) rfl rfl (by decide) rfl (fun ls hl => ?_)
        refine lv_goto (tgt := 19) hx hb d_L_coverRange_62 (by decide) ?_
        exact ih _ _ H locs ls hF hP hD hS (lv_sub hl [1, 2, 3, 4, 5, 6, 0] rfl)
      · have hF := it_f hF hc_6
        refine lv_aload_n hx hb d_L_coverRange_42 rfl (lv_at hl 0 rfl) ?_
        refine va_get (D := g) (ci := 0) (v := .ref (ad 12)) (C := kR0) (T := kT0) (N := 7) hx hb hts kw0 hown hK hP 1 rfl rfl 5 (by decide) (hts _ wm_83) (fun _ h9 => h9) rfl d_L_coverRange_43 ?_
        refine lv_iload hx hb d_L_coverRange_46 (lv_at hl 6 rfl) ?_
        obtain ⟨hg_7, hF⟩ := gd_inv hF
        refine va_iald hx hb hK hP 12 0 rfl rfl hg_7 d_L_coverRange_48 ?_
        refine lv_iload hx hb d_L_coverRange_49 (lv_at hl 5 rfl) ?_
        obtain ⟨r_8, hG, hF⟩ := ob1_inv hF
        refine ksi K hP hD hS (c_K_rangeCovers l g (kty cI cJ cZ) (wC cI cJ cZ ad xst xse xre xgr ltm low lta llo lhi lmo rta ron rlo rhi rmo rin res rsi rli rar xgc xca xls xtl xno lco rwa rad rest) (lmo v8.toNatClampNeg) v7 r_8 hG) wm_488 wm_486 wm_487 wm_56 hd_K_rangeCovers rfl rfl ⟨Nat.le_of_ble_eq_true rfl, Nat.le_of_ble_eq_true rfl⟩ ⟨Nat.zero_le _, Nat.zero_le _⟩ hl.1 (rest := []) rfl (Nat.le_of_ble_eq_true rfl) d_L_coverRange_51 (fun H locs hP hD hS => ?_)
        refine lv_if_eq (tgt := 59) hx hb d_L_coverRange_54 (by decide) (fun hc_9 => ?_) (fun hc_9 => ?_)
        · have hF := it_t hF hc_9
          refine lv_iinc (v := v8 + 1) (lv' := [(8, .int (v8 + 1)), (0, .ref (ad 1)), (1, .int v1), (2, .int v2), (3, .long v3), (5, .long v5), (7, .int v7)]) hx hb d_L_coverRange_59 hl (k := 6) rfl rfl (by decide) rfl (fun ls hl => ?_)
          refine lv_goto (tgt := 19) hx hb d_L_coverRange_62 (by decide) ?_
          exact ih _ _ H locs ls hF hP hD hS (lv_sub hl [1, 2, 3, 4, 5, 6, 0] rfl)
        · have hF := it_f hF hc_9
          refine lv_iconst (v := 1) hx hb d_L_coverRange_57 (by decide) ?_
          cases hF
          exact krz K hP hD hS d_L_coverRange_58 rfl rfl
set_option maxHeartbeats 4000000 in
set_option maxRecDepth 100000 in
theorem t_L_coverRange {p : Program} {l : Launch} {e : Env} {s : State} {m : MethodId} {args : Array Value} {below : List Frame} {meth : Method} {c : Code} {A : Nat → Prop} {g : va_G} {cI cJ cZ : ClassId} {ad : Nat → Nat} {rest : va_W} (K : kX p s m args meth c "LockTable$Locks" prog_2_method_5_code 9 (some .boolean) A g (kty cI cJ cZ)) (xst : Nat → Int32) (xse : Nat → Int32) (xre : Nat → Int32) (xgr : Nat → Int32) (ltm : Nat → Int32) (low : Nat → Int32) (lta : Nat → Int32) (llo : Nat → Int64) (lhi : Nat → Int64) (lmo : Nat → Int32) (rta : Nat → Int32) (ron : Nat → Int32) (rlo : Nat → Int64) (rhi : Nat → Int64) (rmo : Nat → Int32) (rin : Nat → Int32) (res : Nat → Int32) (rsi : Nat → Int32) (rli : Nat → Int32) (rar : Nat → Int32) (xgc : Int32) (xca : Int32) (xls : Int32) (xtl : Int32) (xno : Int32) (lco : Int32) (rwa : Int32) (rad : Int32) (a1 : Int32) (a2 : Int32) (a3 : Int64) (a4 : Int64) (a5 : Int32) (r : Int32) (hF : F_L_coverRange ltm low lta llo lhi lmo lco a1 a2 a3 a4 a5 = some r) {H : Heap} {locs : List Loc} {ls : Array Slot} (hP : va_P g kcl (wC cI cJ cZ ad xst xse xre xgr ltm low lta llo lhi lmo rta ron rlo rhi rmo rin res rsi rli rar xgc xca xls xtl xno lco rwa rad rest) H) (hD : va_D A (wC cI cJ cZ ad xst xse xre xgr ltm low lta llo lhi lmo rta ron rlo rhi rmo rin res rsi rli rar xgc xca xls xtl xno lco rwa rad rest)) (hS : va_S A s.heap H locs) (hl : lv_has ls 9 [(0, .ref (ad 1)), (1, .int a1), (2, .int a2), (3, .long a3), (5, .long a4), (7, .int a5)]) : W p l e ({ frames := 2, cells := 0, slots := 0, locals := 50 }) s m args below meth c H locs 0 0 (MQ below (kQi g (kty cI cJ cZ) (wC cI cJ cZ ad xst xse xre xgr ltm low lta llo lhi lmo rta ron rlo rhi rmo rin res rsi rli rar xgc xca xls xtl xno lco rwa rad rest) A r) args s 0 0 A) (F0 m 0 ls []) := by
  obtain ⟨hx, hb, hr, hml, hown, hts, hlocks, hK, hA, hE⟩ := id K
  unfold F_L_coverRange at hF
  refine lv_aload_n hx hb d_L_coverRange_0 rfl (lv_at hl 0 rfl) ?_
  refine lv_iload_n hx hb d_L_coverRange_1 rfl (lv_at hl 1 rfl) ?_
  refine lv_iload_n hx hb d_L_coverRange_2 rfl (lv_at hl 2 rfl) ?_
  obtain ⟨r_1, hG, hF⟩ := ob1_inv hF
  refine kci K hP hD hS (c_L_heldMode l g cI cJ cZ ad xst xse xre xgr ltm low lta llo lhi lmo rta ron rlo rhi rmo rin res rsi rli rar xgc xca xls xtl xno lco rwa rad rest a1 a2 r_1 hG) wm_329 wm_380 wm_327 wm_328 wm_48 hd_L_heldMode rfl rfl ⟨Nat.le_of_ble_eq_true rfl, Nat.le_of_ble_eq_true rfl⟩ ⟨Nat.zero_le _, Nat.zero_le _⟩ 0 1 rfl rfl rfl hl.1 (rest := []) rfl (Nat.le_of_ble_eq_true rfl) d_L_coverRange_3 (fun H locs hP hD hS => ?_)
  refine lv_iload hx hb d_L_coverRange_6 (lv_at hl 5 rfl) ?_
  obtain ⟨r_2, hG, hF⟩ := ob1_inv hF
  refine ksi K hP hD hS (c_K_tableCovers l g (kty cI cJ cZ) (wC cI cJ cZ ad xst xse xre xgr ltm low lta llo lhi lmo rta ron rlo rhi rmo rin res rsi rli rar xgc xca xls xtl xno lco rwa rad rest) r_1 a5 r_2 hG) wm_479 wm_477 wm_478 wm_56 hd_K_tableCovers rfl rfl ⟨Nat.le_of_ble_eq_true rfl, Nat.le_of_ble_eq_true rfl⟩ ⟨Nat.zero_le _, Nat.zero_le _⟩ hl.1 (rest := []) rfl (Nat.le_of_ble_eq_true rfl) d_L_coverRange_8 (fun H locs hP hD hS => ?_)
  refine lv_if_eq (tgt := 16) hx hb d_L_coverRange_11 (by decide) (fun hc_3 => ?_) (fun hc_3 => ?_)
  · have hF := it_t hF hc_3
    refine lv_iconst (v := 0) hx hb d_L_coverRange_16 (by decide) ?_
    refine lv_istore (lv' := [(8, .int 0), (0, .ref (ad 1)), (1, .int a1), (2, .int a2), (3, .long a3), (5, .long a4), (7, .int a5)]) hx hb d_L_coverRange_17 hl (by decide) rfl (fun ls hl => ?_)
    exact t_L_coverRange_L19 K xst xse xre xgr ltm low lta llo lhi lmo rta ron rlo rhi rmo rin res rsi rli rar xgc xca xls xtl xno lco rwa rad a1 a2 a3 a4 a5 fu _ _ H locs ls hF hP hD hS (lv_sub hl [1, 2, 3, 4, 5, 6, 0] rfl)
  · have hF := it_f hF hc_3
    refine lv_iconst (v := 1) hx hb d_L_coverRange_14 (by decide) ?_
    cases hF
    exact krz K hP hD hS d_L_coverRange_15 rfl rfl
theorem c_L_coverRange (l : Launch) (g : va_G) (cI cJ cZ : ClassId) (ad : Nat → Nat) (xst : Nat → Int32) (xse : Nat → Int32) (xre : Nat → Int32) (xgr : Nat → Int32) (ltm : Nat → Int32) (low : Nat → Int32) (lta : Nat → Int32) (llo : Nat → Int64) (lhi : Nat → Int64) (lmo : Nat → Int32) (rta : Nat → Int32) (ron : Nat → Int32) (rlo : Nat → Int64) (rhi : Nat → Int64) (rmo : Nat → Int32) (rin : Nat → Int32) (res : Nat → Int32) (rsi : Nat → Int32) (rli : Nat → Int32) (rar : Nat → Int32) (xgc : Int32) (xca : Int32) (xls : Int32) (xtl : Int32) (xno : Int32) (lco : Int32) (rwa : Int32) (rad : Int32) (rest : va_W) (a1 : Int32) (a2 : Int32) (a3 : Int64) (a4 : Int64) (a5 : Int32) (r : Int32) (hF : F_L_coverRange ltm low lta llo lhi lmo lco a1 a2 a3 a4 a5 = some r) : Ci l y_L_coverRange prog_2_method_5_code 9 (some .boolean) ({ frames := 2, cells := 0, slots := 0, locals := 50 }) [.ref (ad 1), .int a1, .int a2, .long a3, .long a4, .int a5] g (kty cI cJ cZ) (wC cI cJ cZ ad xst xse xre xgr ltm low lta llo lhi lmo rta ron rlo rhi rmo rin res rsi rli rar xgc xca xls xtl xno lco rwa rad rest) (wC cI cJ cZ ad xst xse xre xgr ltm low lta llo lhi lmo rta ron rlo rhi rmo rin res rsi rli rar xgc xca xls xtl xno lco rwa rad rest) r :=
  Ci.of (by decide) (Nat.le_of_ble_eq_true rfl) (fun p e s m below meth c A ls K hP hD hS hl => t_L_coverRange K xst xse xre xgr ltm low lta llo lhi lmo rta ron rlo rhi rmo rin res rsi rli rar xgc xca xls xtl xno lco rwa rad a1 a2 a3 a4 a5 r hF hP hD hS hl)
def F_L_haveRangeRound_L3 (low : Nat → Int32) (lta : Nat → Int32) (llo : Nat → Int64) (lhi : Nat → Int64) (lco : Int32) (v1 : Int32) (v2 : Int32) (v3 : Int64) (v5 : Int64) : Nat → Int32 → Option (Int32)
  | 0, _ => none
  | n + 1, v7 => if lco ≤ v7 then some 0 else ob1 (F_L_isRound low lta llo lhi v7 v1 v2 v3 v5) (fun r_2 => if r_2 = 0 then F_L_haveRangeRound_L3 low lta llo lhi lco v1 v2 v3 v5 n (v7 + 1) else some 1)
def F_L_haveRangeRound (low : Nat → Int32) (lta : Nat → Int32) (llo : Nat → Int64) (lhi : Nat → Int64) (lco : Int32) (a1 : Int32) (a2 : Int32) (a3 : Int64) (a4 : Int64) : Option (Int32) :=
  F_L_haveRangeRound_L3 low lta llo lhi lco a1 a2 a3 a4 fu 0
set_option maxHeartbeats 4000000 in
set_option maxRecDepth 100000 in
theorem t_L_haveRangeRound_L3 {p : Program} {l : Launch} {e : Env} {s : State} {m : MethodId} {args : Array Value} {below : List Frame} {meth : Method} {c : Code} {A : Nat → Prop} {g : va_G} {cI cJ cZ : ClassId} {ad : Nat → Nat} {rest : va_W} (K : kX p s m args meth c "LockTable$Locks" prog_2_method_6_code 8 (some .boolean) A g (kty cI cJ cZ)) (xst : Nat → Int32) (xse : Nat → Int32) (xre : Nat → Int32) (xgr : Nat → Int32) (ltm : Nat → Int32) (low : Nat → Int32) (lta : Nat → Int32) (llo : Nat → Int64) (lhi : Nat → Int64) (lmo : Nat → Int32) (rta : Nat → Int32) (ron : Nat → Int32) (rlo : Nat → Int64) (rhi : Nat → Int64) (rmo : Nat → Int32) (rin : Nat → Int32) (res : Nat → Int32) (rsi : Nat → Int32) (rli : Nat → Int32) (rar : Nat → Int32) (xgc : Int32) (xca : Int32) (xls : Int32) (xtl : Int32) (xno : Int32) (lco : Int32) (rwa : Int32) (rad : Int32) (v1 : Int32) (v2 : Int32) (v3 : Int64) (v5 : Int64) : ∀ (n : Nat) (v7 : Int32) (r : Int32) (H : Heap) (locs : List Loc) (ls : Array Slot), F_L_haveRangeRound_L3 low lta llo lhi lco v1 v2 v3 v5 n v7 = some r → va_P g kcl (wC cI cJ cZ ad xst xse xre xgr ltm low lta llo lhi lmo rta ron rlo rhi rmo rin res rsi rli rar xgc xca xls xtl xno lco rwa rad rest) H → va_D A (wC cI cJ cZ ad xst xse xre xgr ltm low lta llo lhi lmo rta ron rlo rhi rmo rin res rsi rli rar xgc xca xls xtl xno lco rwa rad rest) → va_S A s.heap H locs → lv_has ls 8 [(0, .ref (ad 1)), (1, .int v1), (2, .int v2), (3, .long v3), (5, .long v5), (7, .int v7)] → W p l e ({ frames := 2, cells := 0, slots := 0, locals := 50 }) s m args below meth c H locs 0 0 (MQ below (kQi g (kty cI cJ cZ) (wC cI cJ cZ ad xst xse xre xgr ltm low lta llo lhi lmo rta ron rlo rhi rmo rin res rsi rli rar xgc xca xls xtl xno lco rwa rad rest) A r) args s 0 0 A) (F0 m 3 ls []) := by
  obtain ⟨hx, hb, hr, hml, hown, hts, hlocks, hK, hA, hE⟩ := id K
  intro n
  induction n with
  | zero =>
    intro v7 r H locs ls hF
    rw [F_L_haveRangeRound_L3] at hF
    cases hF
  | succ n ih =>
    intro v7 r H locs ls hF hP hD hS hl
    rw [F_L_haveRangeRound_L3] at hF
    refine lv_iload hx hb d_L_haveRangeRound_3 (lv_at hl 5 rfl) ?_
    refine lv_aload_n hx hb d_L_haveRangeRound_5 rfl (lv_at hl 0 rfl) ?_
    refine va_get (D := g) (ci := 0) (v := .int lco) (C := kR0) (T := kT0) (N := 7) hx hb hts kw0 hown hK hP 1 rfl rfl 6 (by decide) (hts _ wm_84) (fun _ h9 => h9) rfl d_L_haveRangeRound_6 ?_
    refine lv_icmp_ge (tgt := 34) hx hb d_L_haveRangeRound_9 (by decide) (fun hc_1 => ?_) (fun hc_1 => ?_)
    · have hF := it_t hF hc_1
      refine lv_iconst (v := 0) hx hb d_L_haveRangeRound_34 (by decide) ?_
      cases hF
      exact krz K hP hD hS d_L_haveRangeRound_35 rfl rfl
    · have hF := it_f hF hc_1
      refine lv_aload_n hx hb d_L_haveRangeRound_12 rfl (lv_at hl 0 rfl) ?_
      refine lv_iload hx hb d_L_haveRangeRound_13 (lv_at hl 5 rfl) ?_
      refine lv_iload_n hx hb d_L_haveRangeRound_15 rfl (lv_at hl 1 rfl) ?_
      refine lv_iload_n hx hb d_L_haveRangeRound_16 rfl (lv_at hl 2 rfl) ?_
      refine lv_lload_n hx hb d_L_haveRangeRound_17 rfl (lv_at hl 3 rfl) ?_
      refine lv_lload hx hb d_L_haveRangeRound_18 (lv_at hl 4 rfl) ?_
      obtain ⟨r_2, hG, hF⟩ := ob1_inv hF
      refine kci K hP hD hS (c_L_isRound l g cI cJ cZ ad xst xse xre xgr ltm low lta llo lhi lmo rta ron rlo rhi rmo rin res rsi rli rar xgc xca xls xtl xno lco rwa rad rest v7 v1 v2 v3 v5 r_2 hG) wm_485 wm_482 wm_484 wm_16 wm_48 hd_L_isRound rfl rfl ⟨Nat.le_of_ble_eq_true rfl, Nat.le_of_ble_eq_true rfl⟩ ⟨Nat.zero_le _, Nat.zero_le _⟩ 0 1 rfl rfl rfl hl.1 (rest := []) rfl (Nat.le_of_ble_eq_true rfl) d_L_haveRangeRound_20 (fun H locs hP hD hS => ?_)
      refine lv_if_eq (tgt := 28) hx hb d_L_haveRangeRound_23 (by decide) (fun hc_3 => ?_) (fun hc_3 => ?_)
      · have hF := it_t hF hc_3
        refine lv_iinc (v := v7 + 1) (lv' := [(7, .int (v7 + 1)), (0, .ref (ad 1)), (1, .int v1), (2, .int v2), (3, .long v3), (5, .long v5)]) hx hb d_L_haveRangeRound_28 hl (k := 5) rfl rfl (by decide) rfl (fun ls hl => ?_)
        refine lv_goto (tgt := 3) hx hb d_L_haveRangeRound_31 (by decide) ?_
        exact ih _ _ H locs ls hF hP hD hS (lv_sub hl [1, 2, 3, 4, 5, 0] rfl)
      · have hF := it_f hF hc_3
        refine lv_iconst (v := 1) hx hb d_L_haveRangeRound_26 (by decide) ?_
        cases hF
        exact krz K hP hD hS d_L_haveRangeRound_27 rfl rfl
set_option maxHeartbeats 4000000 in
set_option maxRecDepth 100000 in
theorem t_L_haveRangeRound {p : Program} {l : Launch} {e : Env} {s : State} {m : MethodId} {args : Array Value} {below : List Frame} {meth : Method} {c : Code} {A : Nat → Prop} {g : va_G} {cI cJ cZ : ClassId} {ad : Nat → Nat} {rest : va_W} (K : kX p s m args meth c "LockTable$Locks" prog_2_method_6_code 8 (some .boolean) A g (kty cI cJ cZ)) (xst : Nat → Int32) (xse : Nat → Int32) (xre : Nat → Int32) (xgr : Nat → Int32) (ltm : Nat → Int32) (low : Nat → Int32) (lta : Nat → Int32) (llo : Nat → Int64) (lhi : Nat → Int64) (lmo : Nat → Int32) (rta : Nat → Int32) (ron : Nat → Int32) (rlo : Nat → Int64) (rhi : Nat → Int64) (rmo : Nat → Int32) (rin : Nat → Int32) (res : Nat → Int32) (rsi : Nat → Int32) (rli : Nat → Int32) (rar : Nat → Int32) (xgc : Int32) (xca : Int32) (xls : Int32) (xtl : Int32) (xno : Int32) (lco : Int32) (rwa : Int32) (rad : Int32) (a1 : Int32) (a2 : Int32) (a3 : Int64) (a4 : Int64) (r : Int32) (hF : F_L_haveRangeRound low lta llo lhi lco a1 a2 a3 a4 = some r) {H : Heap} {locs : List Loc} {ls : Array Slot} (hP : va_P g kcl (wC cI cJ cZ ad xst xse xre xgr ltm low lta llo lhi lmo rta ron rlo rhi rmo rin res rsi rli rar xgc xca xls xtl xno lco rwa rad rest) H) (hD : va_D A (wC cI cJ cZ ad xst xse xre xgr ltm low lta llo lhi lmo rta ron rlo rhi rmo rin res rsi rli rar xgc xca xls xtl xno lco rwa rad rest)) (hS : va_S A s.heap H locs) (hl : lv_has ls 8 [(0, .ref (ad 1)), (1, .int a1), (2, .int a2), (3, .long a3), (5, .long a4)]) : W p l e ({ frames := 2, cells := 0, slots := 0, locals := 50 }) s m args below meth c H locs 0 0 (MQ below (kQi g (kty cI cJ cZ) (wC cI cJ cZ ad xst xse xre xgr ltm low lta llo lhi lmo rta ron rlo rhi rmo rin res rsi rli rar xgc xca xls xtl xno lco rwa rad rest) A r) args s 0 0 A) (F0 m 0 ls []) := by
  obtain ⟨hx, hb, hr, hml, hown, hts, hlocks, hK, hA, hE⟩ := id K
  unfold F_L_haveRangeRound at hF
  refine lv_iconst (v := 0) hx hb d_L_haveRangeRound_0 (by decide) ?_
  refine lv_istore (lv' := [(7, .int 0), (0, .ref (ad 1)), (1, .int a1), (2, .int a2), (3, .long a3), (5, .long a4)]) hx hb d_L_haveRangeRound_1 hl (by decide) rfl (fun ls hl => ?_)
  exact t_L_haveRangeRound_L3 K xst xse xre xgr ltm low lta llo lhi lmo rta ron rlo rhi rmo rin res rsi rli rar xgc xca xls xtl xno lco rwa rad a1 a2 a3 a4 fu _ _ H locs ls hF hP hD hS (lv_sub hl [1, 2, 3, 4, 5, 0] rfl)
theorem c_L_haveRangeRound (l : Launch) (g : va_G) (cI cJ cZ : ClassId) (ad : Nat → Nat) (xst : Nat → Int32) (xse : Nat → Int32) (xre : Nat → Int32) (xgr : Nat → Int32) (ltm : Nat → Int32) (low : Nat → Int32) (lta : Nat → Int32) (llo : Nat → Int64) (lhi : Nat → Int64) (lmo : Nat → Int32) (rta : Nat → Int32) (ron : Nat → Int32) (rlo : Nat → Int64) (rhi : Nat → Int64) (rmo : Nat → Int32) (rin : Nat → Int32) (res : Nat → Int32) (rsi : Nat → Int32) (rli : Nat → Int32) (rar : Nat → Int32) (xgc : Int32) (xca : Int32) (xls : Int32) (xtl : Int32) (xno : Int32) (lco : Int32) (rwa : Int32) (rad : Int32) (rest : va_W) (a1 : Int32) (a2 : Int32) (a3 : Int64) (a4 : Int64) (r : Int32) (hF : F_L_haveRangeRound low lta llo lhi lco a1 a2 a3 a4 = some r) : Ci l y_L_haveRangeRound prog_2_method_6_code 8 (some .boolean) ({ frames := 2, cells := 0, slots := 0, locals := 50 }) [.ref (ad 1), .int a1, .int a2, .long a3, .long a4] g (kty cI cJ cZ) (wC cI cJ cZ ad xst xse xre xgr ltm low lta llo lhi lmo rta ron rlo rhi rmo rin res rsi rli rar xgc xca xls xtl xno lco rwa rad rest) (wC cI cJ cZ ad xst xse xre xgr ltm low lta llo lhi lmo rta ron rlo rhi rmo rin res rsi rli rar xgc xca xls xtl xno lco rwa rad rest) r :=
  Ci.of (by decide) (Nat.le_of_ble_eq_true rfl) (fun p e s m below meth c A ls K hP hD hS hl => t_L_haveRangeRound K xst xse xre xgr ltm low lta llo lhi lmo rta ron rlo rhi rmo rin res rsi rli rar xgc xca xls xtl xno lco rwa rad a1 a2 a3 a4 r hF hP hD hS hl)
def F_L_haveStrongRange_L2 (low : Nat → Int32) (lta : Nat → Int32) (lmo : Nat → Int32) (lco : Int32) (v1 : Int32) (v2 : Int32) : Nat → Int32 → Option (Int32)
  | 0, _ => none
  | n + 1, v3 => if lco ≤ v3 then some 0 else ob1 (F_L_isOn low lta v3 v1 v2) (fun r_2 => if r_2 = 0 then F_L_haveStrongRange_L2 low lta lmo lco v1 v2 n (v3 + 1) else gd (v3 < 0 ∨ 256 ≤ v3.toNatClampNeg) (if (lmo v3.toNatClampNeg) = 2 then F_L_haveStrongRange_L2 low lta lmo lco v1 v2 n (v3 + 1) else some 1))
def F_L_haveStrongRange (low : Nat → Int32) (lta : Nat → Int32) (lmo : Nat → Int32) (lco : Int32) (a1 : Int32) (a2 : Int32) : Option (Int32) :=
  F_L_haveStrongRange_L2 low lta lmo lco a1 a2 fu 0
set_option maxHeartbeats 4000000 in
set_option maxRecDepth 100000 in
theorem t_L_haveStrongRange_L2 {p : Program} {l : Launch} {e : Env} {s : State} {m : MethodId} {args : Array Value} {below : List Frame} {meth : Method} {c : Code} {A : Nat → Prop} {g : va_G} {cI cJ cZ : ClassId} {ad : Nat → Nat} {rest : va_W} (K : kX p s m args meth c "LockTable$Locks" prog_2_method_7_code 4 (some .boolean) A g (kty cI cJ cZ)) (xst : Nat → Int32) (xse : Nat → Int32) (xre : Nat → Int32) (xgr : Nat → Int32) (ltm : Nat → Int32) (low : Nat → Int32) (lta : Nat → Int32) (llo : Nat → Int64) (lhi : Nat → Int64) (lmo : Nat → Int32) (rta : Nat → Int32) (ron : Nat → Int32) (rlo : Nat → Int64) (rhi : Nat → Int64) (rmo : Nat → Int32) (rin : Nat → Int32) (res : Nat → Int32) (rsi : Nat → Int32) (rli : Nat → Int32) (rar : Nat → Int32) (xgc : Int32) (xca : Int32) (xls : Int32) (xtl : Int32) (xno : Int32) (lco : Int32) (rwa : Int32) (rad : Int32) (v1 : Int32) (v2 : Int32) : ∀ (n : Nat) (v3 : Int32) (r : Int32) (H : Heap) (locs : List Loc) (ls : Array Slot), F_L_haveStrongRange_L2 low lta lmo lco v1 v2 n v3 = some r → va_P g kcl (wC cI cJ cZ ad xst xse xre xgr ltm low lta llo lhi lmo rta ron rlo rhi rmo rin res rsi rli rar xgc xca xls xtl xno lco rwa rad rest) H → va_D A (wC cI cJ cZ ad xst xse xre xgr ltm low lta llo lhi lmo rta ron rlo rhi rmo rin res rsi rli rar xgc xca xls xtl xno lco rwa rad rest) → va_S A s.heap H locs → lv_has ls 4 [(0, .ref (ad 1)), (1, .int v1), (2, .int v2), (3, .int v3)] → W p l e ({ frames := 1, cells := 0, slots := 0, locals := 23 }) s m args below meth c H locs 0 0 (MQ below (kQi g (kty cI cJ cZ) (wC cI cJ cZ ad xst xse xre xgr ltm low lta llo lhi lmo rta ron rlo rhi rmo rin res rsi rli rar xgc xca xls xtl xno lco rwa rad rest) A r) args s 0 0 A) (F0 m 2 ls []) := by
  obtain ⟨hx, hb, hr, hml, hown, hts, hlocks, hK, hA, hE⟩ := id K
  intro n
  induction n with
  | zero =>
    intro v3 r H locs ls hF
    rw [F_L_haveStrongRange_L2] at hF
    cases hF
  | succ n ih =>
    intro v3 r H locs ls hF hP hD hS hl
    rw [F_L_haveStrongRange_L2] at hF
    refine lv_iload_n hx hb d_L_haveStrongRange_2 rfl (lv_at hl 3 rfl) ?_
    refine lv_aload_n hx hb d_L_haveStrongRange_3 rfl (lv_at hl 0 rfl) ?_
    refine va_get (D := g) (ci := 0) (v := .int lco) (C := kR0) (T := kT0) (N := 7) hx hb hts kw0 hown hK hP 1 rfl rfl 6 (by decide) (hts _ wm_84) (fun _ h9 => h9) rfl d_L_haveStrongRange_4 ?_
    refine lv_icmp_ge (tgt := 38) hx hb d_L_haveStrongRange_7 (by decide) (fun hc_1 => ?_) (fun hc_1 => ?_)
    · have hF := it_t hF hc_1
      refine lv_iconst (v := 0) hx hb d_L_haveStrongRange_38 (by decide) ?_
      cases hF
      exact krz K hP hD hS d_L_haveStrongRange_39 rfl rfl
    · have hF := it_f hF hc_1
      refine lv_aload_n hx hb d_L_haveStrongRange_10 rfl (lv_at hl 0 rfl) ?_
      refine lv_iload_n hx hb d_L_haveStrongRange_11 rfl (lv_at hl 3 rfl) ?_
      refine lv_iload_n hx hb d_L_haveStrongRange_12 rfl (lv_at hl 1 rfl) ?_
      refine lv_iload_n hx hb d_L_haveStrongRange_13 rfl (lv_at hl 2 rfl) ?_
      obtain ⟨r_2, hG, hF⟩ := ob1_inv hF
      refine kci K hP hD hS (c_L_isOn l g cI cJ cZ ad xst xse xre xgr ltm low lta llo lhi lmo rta ron rlo rhi rmo rin res rsi rli rar xgc xca xls xtl xno lco rwa rad rest v3 v1 v2 r_2 hG) wm_413 wm_410 wm_412 wm_9 wm_48 hd_L_isOn rfl rfl ⟨Nat.le_of_ble_eq_true rfl, Nat.le_of_ble_eq_true rfl⟩ ⟨Nat.zero_le _, Nat.zero_le _⟩ 0 1 rfl rfl rfl hl.1 (rest := []) rfl (Nat.le_of_ble_eq_true rfl) d_L_haveStrongRange_14 (fun H locs hP hD hS => ?_)
      refine lv_if_eq (tgt := 32) hx hb d_L_haveStrongRange_17 (by decide) (fun hc_3 => ?_) (fun hc_3 => ?_)
      · have hF := it_t hF hc_3
        refine lv_iinc (v := v3 + 1) (lv' := [(3, .int (v3 + 1)), (0, .ref (ad 1)), (1, .int v1), (2, .int v2)]) hx hb d_L_haveStrongRange_32 hl (k := 3) rfl rfl (by decide) rfl (fun ls hl => ?_)
        refine lv_goto (tgt := 2) hx hb d_L_haveStrongRange_35 (by decide) ?_
        exact ih _ _ H locs ls hF hP hD hS (lv_sub hl [1, 2, 3, 0] rfl)
      · have hF := it_f hF hc_3
        refine lv_aload_n hx hb d_L_haveStrongRange_20 rfl (lv_at hl 0 rfl) ?_
        refine va_get (D := g) (ci := 0) (v := .ref (ad 12)) (C := kR0) (T := kT0) (N := 7) hx hb hts kw0 hown hK hP 1 rfl rfl 5 (by decide) (hts _ wm_83) (fun _ h9 => h9) rfl d_L_haveStrongRange_21 ?_
        refine lv_iload_n hx hb d_L_haveStrongRange_24 rfl (lv_at hl 3 rfl) ?_
        obtain ⟨hg_4, hF⟩ := gd_inv hF
        refine va_iald hx hb hK hP 12 0 rfl rfl hg_4 d_L_haveStrongRange_25 ?_
        refine lv_iconst (v := 2) hx hb d_L_haveStrongRange_26 (by decide) ?_
        refine lv_icmp_eq (tgt := 32) hx hb d_L_haveStrongRange_27 (by decide) (fun hc_5 => ?_) (fun hc_5 => ?_)
        · have hF := it_t hF hc_5
          refine lv_iinc (v := v3 + 1) (lv' := [(3, .int (v3 + 1)), (0, .ref (ad 1)), (1, .int v1), (2, .int v2)]) hx hb d_L_haveStrongRange_32 hl (k := 3) rfl rfl (by decide) rfl (fun ls hl => ?_)
          refine lv_goto (tgt := 2) hx hb d_L_haveStrongRange_35 (by decide) ?_
          exact ih _ _ H locs ls hF hP hD hS (lv_sub hl [1, 2, 3, 0] rfl)
        · have hF := it_f hF hc_5
          refine lv_iconst (v := 1) hx hb d_L_haveStrongRange_30 (by decide) ?_
          cases hF
          exact krz K hP hD hS d_L_haveStrongRange_31 rfl rfl
set_option maxHeartbeats 4000000 in
set_option maxRecDepth 100000 in
theorem t_L_haveStrongRange {p : Program} {l : Launch} {e : Env} {s : State} {m : MethodId} {args : Array Value} {below : List Frame} {meth : Method} {c : Code} {A : Nat → Prop} {g : va_G} {cI cJ cZ : ClassId} {ad : Nat → Nat} {rest : va_W} (K : kX p s m args meth c "LockTable$Locks" prog_2_method_7_code 4 (some .boolean) A g (kty cI cJ cZ)) (xst : Nat → Int32) (xse : Nat → Int32) (xre : Nat → Int32) (xgr : Nat → Int32) (ltm : Nat → Int32) (low : Nat → Int32) (lta : Nat → Int32) (llo : Nat → Int64) (lhi : Nat → Int64) (lmo : Nat → Int32) (rta : Nat → Int32) (ron : Nat → Int32) (rlo : Nat → Int64) (rhi : Nat → Int64) (rmo : Nat → Int32) (rin : Nat → Int32) (res : Nat → Int32) (rsi : Nat → Int32) (rli : Nat → Int32) (rar : Nat → Int32) (xgc : Int32) (xca : Int32) (xls : Int32) (xtl : Int32) (xno : Int32) (lco : Int32) (rwa : Int32) (rad : Int32) (a1 : Int32) (a2 : Int32) (r : Int32) (hF : F_L_haveStrongRange low lta lmo lco a1 a2 = some r) {H : Heap} {locs : List Loc} {ls : Array Slot} (hP : va_P g kcl (wC cI cJ cZ ad xst xse xre xgr ltm low lta llo lhi lmo rta ron rlo rhi rmo rin res rsi rli rar xgc xca xls xtl xno lco rwa rad rest) H) (hD : va_D A (wC cI cJ cZ ad xst xse xre xgr ltm low lta llo lhi lmo rta ron rlo rhi rmo rin res rsi rli rar xgc xca xls xtl xno lco rwa rad rest)) (hS : va_S A s.heap H locs) (hl : lv_has ls 4 [(0, .ref (ad 1)), (1, .int a1), (2, .int a2)]) : W p l e ({ frames := 1, cells := 0, slots := 0, locals := 23 }) s m args below meth c H locs 0 0 (MQ below (kQi g (kty cI cJ cZ) (wC cI cJ cZ ad xst xse xre xgr ltm low lta llo lhi lmo rta ron rlo rhi rmo rin res rsi rli rar xgc xca xls xtl xno lco rwa rad rest) A r) args s 0 0 A) (F0 m 0 ls []) := by
  obtain ⟨hx, hb, hr, hml, hown, hts, hlocks, hK, hA, hE⟩ := id K
  unfold F_L_haveStrongRange at hF
  refine lv_iconst (v := 0) hx hb d_L_haveStrongRange_0 (by decide) ?_
  refine lv_istore_n (lv' := [(3, .int 0), (0, .ref (ad 1)), (1, .int a1), (2, .int a2)]) hx hb d_L_haveStrongRange_1 rfl hl (by decide) rfl (fun ls hl => ?_)
  exact t_L_haveStrongRange_L2 K xst xse xre xgr ltm low lta llo lhi lmo rta ron rlo rhi rmo rin res rsi rli rar xgc xca xls xtl xno lco rwa rad a1 a2 fu _ _ H locs ls hF hP hD hS (lv_sub hl [1, 2, 3, 0] rfl)
theorem c_L_haveStrongRange (l : Launch) (g : va_G) (cI cJ cZ : ClassId) (ad : Nat → Nat) (xst : Nat → Int32) (xse : Nat → Int32) (xre : Nat → Int32) (xgr : Nat → Int32) (ltm : Nat → Int32) (low : Nat → Int32) (lta : Nat → Int32) (llo : Nat → Int64) (lhi : Nat → Int64) (lmo : Nat → Int32) (rta : Nat → Int32) (ron : Nat → Int32) (rlo : Nat → Int64) (rhi : Nat → Int64) (rmo : Nat → Int32) (rin : Nat → Int32) (res : Nat → Int32) (rsi : Nat → Int32) (rli : Nat → Int32) (rar : Nat → Int32) (xgc : Int32) (xca : Int32) (xls : Int32) (xtl : Int32) (xno : Int32) (lco : Int32) (rwa : Int32) (rad : Int32) (rest : va_W) (a1 : Int32) (a2 : Int32) (r : Int32) (hF : F_L_haveStrongRange low lta lmo lco a1 a2 = some r) : Ci l y_L_haveStrongRange prog_2_method_7_code 4 (some .boolean) ({ frames := 1, cells := 0, slots := 0, locals := 23 }) [.ref (ad 1), .int a1, .int a2] g (kty cI cJ cZ) (wC cI cJ cZ ad xst xse xre xgr ltm low lta llo lhi lmo rta ron rlo rhi rmo rin res rsi rli rar xgc xca xls xtl xno lco rwa rad rest) (wC cI cJ cZ ad xst xse xre xgr ltm low lta llo lhi lmo rta ron rlo rhi rmo rin res rsi rli rar xgc xca xls xtl xno lco rwa rad rest) r :=
  Ci.of (by decide) (Nat.le_of_ble_eq_true rfl) (fun p e s m below meth c A ls K hP hD hS hl => t_L_haveStrongRange K xst xse xre xgr ltm low lta llo lhi lmo rta ron rlo rhi rmo rin res rsi rli rar xgc xca xls xtl xno lco rwa rad a1 a2 r hF hP hD hS hl)
def F_L_countOf_L4 (ltm : Nat → Int32) (v1 : Int32) : Nat → Int32 → Int32 → Option (Int32)
  | 0, _, _ => none
  | n + 1, v2, v3 => if 16 ≤ v3 then some v2 else ob1 (F_L_heldMode ltm v1 v3) (fun r_2 => if r_2 = (-1) then F_L_countOf_L4 ltm v1 n v2 (v3 + 1) else F_L_countOf_L4 ltm v1 n (v2 + 1) (v3 + 1))
def F_L_countOf_L31 (low : Nat → Int32) (lco : Int32) (v1 : Int32) : Nat → Int32 → Int32 → Option (Int32)
  | 0, _, _ => none
  | n + 1, v2, v3 => if lco ≤ v3 then some v2 else gd (v3 < 0 ∨ 256 ≤ v3.toNatClampNeg) (if (low v3.toNatClampNeg) = v1 then F_L_countOf_L31 low lco v1 n (v2 + 1) (v3 + 1) else F_L_countOf_L31 low lco v1 n v2 (v3 + 1))
def F_L_countOf (ltm : Nat → Int32) (low : Nat → Int32) (lco : Int32) (a1 : Int32) : Option (Int32) :=
  ob1 (F_L_countOf_L4 ltm a1 fu 0 0) (fun v2_4 => ob1 (F_L_countOf_L31 low lco a1 fu v2_4 0) (fun v2_8 => some v2_8))
set_option maxHeartbeats 4000000 in
set_option maxRecDepth 100000 in
theorem t_L_countOf_L4 {p : Program} {l : Launch} {e : Env} {s : State} {m : MethodId} {args : Array Value} {below : List Frame} {meth : Method} {c : Code} {A : Nat → Prop} {g : va_G} {cI cJ cZ : ClassId} {ad : Nat → Nat} {rest : va_W} (K : kX p s m args meth c "LockTable$Locks" prog_2_method_9_code 4 (some .int) A g (kty cI cJ cZ)) {Q : State → Prop} (xst : Nat → Int32) (xse : Nat → Int32) (xre : Nat → Int32) (xgr : Nat → Int32) (ltm : Nat → Int32) (low : Nat → Int32) (lta : Nat → Int32) (llo : Nat → Int64) (lhi : Nat → Int64) (lmo : Nat → Int32) (rta : Nat → Int32) (ron : Nat → Int32) (rlo : Nat → Int64) (rhi : Nat → Int64) (rmo : Nat → Int32) (rin : Nat → Int32) (res : Nat → Int32) (rsi : Nat → Int32) (rli : Nat → Int32) (rar : Nat → Int32) (xgc : Int32) (xca : Int32) (xls : Int32) (xtl : Int32) (xno : Int32) (lco : Int32) (rwa : Int32) (rad : Int32) (v1 : Int32) : ∀ (n : Nat) (v2 : Int32) (v3 : Int32) (o_v2 : Int32) (H : Heap) (locs : List Loc) (ls : Array Slot), F_L_countOf_L4 ltm v1 n v2 v3 = some o_v2 → va_P g kcl (wC cI cJ cZ ad xst xse xre xgr ltm low lta llo lhi lmo rta ron rlo rhi rmo rin res rsi rli rar xgc xca xls xtl xno lco rwa rad rest) H → va_D A (wC cI cJ cZ ad xst xse xre xgr ltm low lta llo lhi lmo rta ron rlo rhi rmo rin res rsi rli rar xgc xca xls xtl xno lco rwa rad rest) → va_S A s.heap H locs → lv_has ls 4 [(0, .ref (ad 1)), (1, .int v1), (2, .int v2), (3, .int v3)] → (∀ (H : Heap) (locs : List Loc) (ls : Array Slot), va_P g kcl (wC cI cJ cZ ad xst xse xre xgr ltm low lta llo lhi lmo rta ron rlo rhi rmo rin res rsi rli rar xgc xca xls xtl xno lco rwa rad rest) H → va_D A (wC cI cJ cZ ad xst xse xre xgr ltm low lta llo lhi lmo rta ron rlo rhi rmo rin res rsi rli rar xgc xca xls xtl xno lco rwa rad rest) → va_S A s.heap H locs → lv_has ls 4 [(0, .ref (ad 1)), (1, .int v1), (2, .int o_v2)] → W p l e ({ frames := 1, cells := 0, slots := 0, locals := 22 }) s m args below meth c H locs 0 0 Q (F0 m 29 ls [])) → W p l e ({ frames := 1, cells := 0, slots := 0, locals := 22 }) s m args below meth c H locs 0 0 Q (F0 m 4 ls []) := by
  obtain ⟨hx, hb, hr, hml, hown, hts, hlocks, hK, hA, hE⟩ := id K
  intro n
  induction n with
  | zero =>
    intro v2 v3 o_v2 H locs ls hF
    rw [F_L_countOf_L4] at hF
    cases hF
  | succ n ih =>
    intro v2 v3 o_v2 H locs ls hF hP hD hS hl hQ
    rw [F_L_countOf_L4] at hF
    refine lv_iload_n hx hb d_L_countOf_4 rfl (lv_at hl 3 rfl) ?_
    refine lv_bipush (v := 16) hx hb d_L_countOf_5 (by decide) ?_
    refine lv_icmp_ge (tgt := 29) hx hb d_L_countOf_7 (by decide) (fun hc_1 => ?_) (fun hc_1 => ?_)
    · have hF := it_t hF hc_1
      cases hF
      exact hQ H locs ls hP hD hS (lv_sub hl [0, 1, 2] rfl)
    · have hF := it_f hF hc_1
      refine lv_aload_n hx hb d_L_countOf_10 rfl (lv_at hl 0 rfl) ?_
      refine lv_iload_n hx hb d_L_countOf_11 rfl (lv_at hl 1 rfl) ?_
      refine lv_iload_n hx hb d_L_countOf_12 rfl (lv_at hl 3 rfl) ?_
      obtain ⟨r_2, hG, hF⟩ := ob1_inv hF
      refine kci K hP hD hS (c_L_heldMode l g cI cJ cZ ad xst xse xre xgr ltm low lta llo lhi lmo rta ron rlo rhi rmo rin res rsi rli rar xgc xca xls xtl xno lco rwa rad rest v1 v3 r_2 hG) wm_329 wm_380 wm_327 wm_328 wm_48 hd_L_heldMode rfl rfl ⟨Nat.le_of_ble_eq_true rfl, Nat.le_of_ble_eq_true rfl⟩ ⟨Nat.zero_le _, Nat.zero_le _⟩ 0 1 rfl rfl rfl hl.1 (rest := []) rfl (Nat.le_of_ble_eq_true rfl) d_L_countOf_13 (fun H locs hP hD hS => ?_)
      refine lv_iconst (v := (-1)) hx hb d_L_countOf_16 (by decide) ?_
      refine lv_icmp_eq (tgt := 23) hx hb d_L_countOf_17 (by decide) (fun hc_3 => ?_) (fun hc_3 => ?_)
      · have hF := it_t hF hc_3
        refine lv_iinc (v := v3 + 1) (lv' := [(3, .int (v3 + 1)), (0, .ref (ad 1)), (1, .int v1), (2, .int v2)]) hx hb d_L_countOf_23 hl (k := 3) rfl rfl (by decide) rfl (fun ls hl => ?_)
        refine lv_goto (tgt := 4) hx hb d_L_countOf_26 (by decide) ?_
        exact ih _ _ _ H locs ls hF hP hD hS (lv_sub hl [1, 2, 3, 0] rfl) hQ
      · have hF := it_f hF hc_3
        refine lv_iinc (v := v2 + 1) (lv' := [(2, .int (v2 + 1)), (0, .ref (ad 1)), (1, .int v1), (3, .int v3)]) hx hb d_L_countOf_20 hl (k := 2) rfl rfl (by decide) rfl (fun ls hl => ?_)
        refine lv_iinc (v := v3 + 1) (lv' := [(3, .int (v3 + 1)), (2, .int (v2 + 1)), (0, .ref (ad 1)), (1, .int v1)]) hx hb d_L_countOf_23 hl (k := 3) rfl rfl (by decide) rfl (fun ls hl => ?_)
        refine lv_goto (tgt := 4) hx hb d_L_countOf_26 (by decide) ?_
        exact ih _ _ _ H locs ls hF hP hD hS (lv_sub hl [2, 3, 1, 0] rfl) hQ
set_option maxHeartbeats 4000000 in
set_option maxRecDepth 100000 in
theorem t_L_countOf_L31 {p : Program} {l : Launch} {e : Env} {s : State} {m : MethodId} {args : Array Value} {below : List Frame} {meth : Method} {c : Code} {A : Nat → Prop} {g : va_G} {cI cJ cZ : ClassId} {ad : Nat → Nat} {rest : va_W} (K : kX p s m args meth c "LockTable$Locks" prog_2_method_9_code 4 (some .int) A g (kty cI cJ cZ)) {Q : State → Prop} (xst : Nat → Int32) (xse : Nat → Int32) (xre : Nat → Int32) (xgr : Nat → Int32) (ltm : Nat → Int32) (low : Nat → Int32) (lta : Nat → Int32) (llo : Nat → Int64) (lhi : Nat → Int64) (lmo : Nat → Int32) (rta : Nat → Int32) (ron : Nat → Int32) (rlo : Nat → Int64) (rhi : Nat → Int64) (rmo : Nat → Int32) (rin : Nat → Int32) (res : Nat → Int32) (rsi : Nat → Int32) (rli : Nat → Int32) (rar : Nat → Int32) (xgc : Int32) (xca : Int32) (xls : Int32) (xtl : Int32) (xno : Int32) (lco : Int32) (rwa : Int32) (rad : Int32) (v1 : Int32) : ∀ (n : Nat) (v2 : Int32) (v3 : Int32) (o_v2 : Int32) (H : Heap) (locs : List Loc) (ls : Array Slot), F_L_countOf_L31 low lco v1 n v2 v3 = some o_v2 → va_P g kcl (wC cI cJ cZ ad xst xse xre xgr ltm low lta llo lhi lmo rta ron rlo rhi rmo rin res rsi rli rar xgc xca xls xtl xno lco rwa rad rest) H → va_D A (wC cI cJ cZ ad xst xse xre xgr ltm low lta llo lhi lmo rta ron rlo rhi rmo rin res rsi rli rar xgc xca xls xtl xno lco rwa rad rest) → va_S A s.heap H locs → lv_has ls 4 [(0, .ref (ad 1)), (1, .int v1), (2, .int v2), (3, .int v3)] → (∀ (H : Heap) (locs : List Loc) (ls : Array Slot), va_P g kcl (wC cI cJ cZ ad xst xse xre xgr ltm low lta llo lhi lmo rta ron rlo rhi rmo rin res rsi rli rar xgc xca xls xtl xno lco rwa rad rest) H → va_D A (wC cI cJ cZ ad xst xse xre xgr ltm low lta llo lhi lmo rta ron rlo rhi rmo rin res rsi rli rar xgc xca xls xtl xno lco rwa rad rest) → va_S A s.heap H locs → lv_has ls 4 [(2, .int o_v2)] → W p l e ({ frames := 1, cells := 0, slots := 0, locals := 22 }) s m args below meth c H locs 0 0 Q (F0 m 58 ls [])) → W p l e ({ frames := 1, cells := 0, slots := 0, locals := 22 }) s m args below meth c H locs 0 0 Q (F0 m 31 ls []) := by
  obtain ⟨hx, hb, hr, hml, hown, hts, hlocks, hK, hA, hE⟩ := id K
  intro n
  induction n with
  | zero =>
    intro v2 v3 o_v2 H locs ls hF
    rw [F_L_countOf_L31] at hF
    cases hF
  | succ n ih =>
    intro v2 v3 o_v2 H locs ls hF hP hD hS hl hQ
    rw [F_L_countOf_L31] at hF
    refine lv_iload_n hx hb d_L_countOf_31 rfl (lv_at hl 3 rfl) ?_
    refine lv_aload_n hx hb d_L_countOf_32 rfl (lv_at hl 0 rfl) ?_
    refine va_get (D := g) (ci := 0) (v := .int lco) (C := kR0) (T := kT0) (N := 7) hx hb hts kw0 hown hK hP 1 rfl rfl 6 (by decide) (hts _ wm_84) (fun _ h9 => h9) rfl d_L_countOf_33 ?_
    refine lv_icmp_ge (tgt := 58) hx hb d_L_countOf_36 (by decide) (fun hc_5 => ?_) (fun hc_5 => ?_)
    · have hF := it_t hF hc_5
      cases hF
      exact hQ H locs ls hP hD hS (lv_sub hl [2] rfl)
    · have hF := it_f hF hc_5
      refine lv_aload_n hx hb d_L_countOf_39 rfl (lv_at hl 0 rfl) ?_
      refine va_get (D := g) (ci := 0) (v := .ref (ad 8)) (C := kR0) (T := kT0) (N := 7) hx hb hts kw0 hown hK hP 1 rfl rfl 1 (by decide) (hts _ wm_79) (fun _ h9 => h9) rfl d_L_countOf_40 ?_
      refine lv_iload_n hx hb d_L_countOf_43 rfl (lv_at hl 3 rfl) ?_
      obtain ⟨hg_6, hF⟩ := gd_inv hF
      refine va_iald hx hb hK hP 8 0 rfl rfl hg_6 d_L_countOf_44 ?_
      refine lv_iload_n hx hb d_L_countOf_45 rfl (lv_at hl 1 rfl) ?_
      refine lv_icmp_ne (tgt := 52) hx hb d_L_countOf_46 (by decide) (fun hc_7 => ?_) (fun hc_7 => ?_)
      · have hF := it_f hF hc_7
        refine lv_iinc (v := v3 + 1) (lv' := [(3, .int (v3 + 1)), (0, .ref (ad 1)), (1, .int v1), (2, .int v2)]) hx hb d_L_countOf_52 hl (k := 3) rfl rfl (by decide) rfl (fun ls hl => ?_)
        refine lv_goto (tgt := 31) hx hb d_L_countOf_55 (by decide) ?_
        exact ih _ _ _ H locs ls hF hP hD hS (lv_sub hl [1, 2, 3, 0] rfl) hQ
      · have hF := it_t hF hc_7
        refine lv_iinc (v := v2 + 1) (lv' := [(2, .int (v2 + 1)), (0, .ref (ad 1)), (1, .int v1), (3, .int v3)]) hx hb d_L_countOf_49 hl (k := 2) rfl rfl (by decide) rfl (fun ls hl => ?_)
        refine lv_iinc (v := v3 + 1) (lv' := [(3, .int (v3 + 1)), (2, .int (v2 + 1)), (0, .ref (ad 1)), (1, .int v1)]) hx hb d_L_countOf_52 hl (k := 3) rfl rfl (by decide) rfl (fun ls hl => ?_)
        refine lv_goto (tgt := 31) hx hb d_L_countOf_55 (by decide) ?_
        exact ih _ _ _ H locs ls hF hP hD hS (lv_sub hl [2, 3, 1, 0] rfl) hQ
set_option maxHeartbeats 4000000 in
set_option maxRecDepth 100000 in
theorem t_L_countOf {p : Program} {l : Launch} {e : Env} {s : State} {m : MethodId} {args : Array Value} {below : List Frame} {meth : Method} {c : Code} {A : Nat → Prop} {g : va_G} {cI cJ cZ : ClassId} {ad : Nat → Nat} {rest : va_W} (K : kX p s m args meth c "LockTable$Locks" prog_2_method_9_code 4 (some .int) A g (kty cI cJ cZ)) (xst : Nat → Int32) (xse : Nat → Int32) (xre : Nat → Int32) (xgr : Nat → Int32) (ltm : Nat → Int32) (low : Nat → Int32) (lta : Nat → Int32) (llo : Nat → Int64) (lhi : Nat → Int64) (lmo : Nat → Int32) (rta : Nat → Int32) (ron : Nat → Int32) (rlo : Nat → Int64) (rhi : Nat → Int64) (rmo : Nat → Int32) (rin : Nat → Int32) (res : Nat → Int32) (rsi : Nat → Int32) (rli : Nat → Int32) (rar : Nat → Int32) (xgc : Int32) (xca : Int32) (xls : Int32) (xtl : Int32) (xno : Int32) (lco : Int32) (rwa : Int32) (rad : Int32) (a1 : Int32) (r : Int32) (hF : F_L_countOf ltm low lco a1 = some r) {H : Heap} {locs : List Loc} {ls : Array Slot} (hP : va_P g kcl (wC cI cJ cZ ad xst xse xre xgr ltm low lta llo lhi lmo rta ron rlo rhi rmo rin res rsi rli rar xgc xca xls xtl xno lco rwa rad rest) H) (hD : va_D A (wC cI cJ cZ ad xst xse xre xgr ltm low lta llo lhi lmo rta ron rlo rhi rmo rin res rsi rli rar xgc xca xls xtl xno lco rwa rad rest)) (hS : va_S A s.heap H locs) (hl : lv_has ls 4 [(0, .ref (ad 1)), (1, .int a1)]) : W p l e ({ frames := 1, cells := 0, slots := 0, locals := 22 }) s m args below meth c H locs 0 0 (MQ below (kQi g (kty cI cJ cZ) (wC cI cJ cZ ad xst xse xre xgr ltm low lta llo lhi lmo rta ron rlo rhi rmo rin res rsi rli rar xgc xca xls xtl xno lco rwa rad rest) A r) args s 0 0 A) (F0 m 0 ls []) := by
  obtain ⟨hx, hb, hr, hml, hown, hts, hlocks, hK, hA, hE⟩ := id K
  unfold F_L_countOf at hF
  refine lv_iconst (v := 0) hx hb d_L_countOf_0 (by decide) ?_
  refine lv_istore_n (lv' := [(2, .int 0), (0, .ref (ad 1)), (1, .int a1)]) hx hb d_L_countOf_1 rfl hl (by decide) rfl (fun ls hl => ?_)
  refine lv_iconst (v := 0) hx hb d_L_countOf_2 (by decide) ?_
  refine lv_istore_n (lv' := [(3, .int 0), (2, .int 0), (0, .ref (ad 1)), (1, .int a1)]) hx hb d_L_countOf_3 rfl hl (by decide) rfl (fun ls hl => ?_)
  obtain ⟨v2_4, hG, hF⟩ := ob1_inv hF
  refine t_L_countOf_L4 K xst xse xre xgr ltm low lta llo lhi lmo rta ron rlo rhi rmo rin res rsi rli rar xgc xca xls xtl xno lco rwa rad a1 fu _ _ _ H locs ls hG hP hD hS (lv_sub hl [2, 3, 1, 0] rfl) (fun H locs ls hP hD hS hl => ?_)
  refine lv_iconst (v := 0) hx hb d_L_countOf_29 (by decide) ?_
  refine lv_istore_n (lv' := [(3, .int 0), (0, .ref (ad 1)), (1, .int a1), (2, .int v2_4)]) hx hb d_L_countOf_30 rfl hl (by decide) rfl (fun ls hl => ?_)
  obtain ⟨v2_8, hG, hF⟩ := ob1_inv hF
  refine t_L_countOf_L31 K xst xse xre xgr ltm low lta llo lhi lmo rta ron rlo rhi rmo rin res rsi rli rar xgc xca xls xtl xno lco rwa rad a1 fu _ _ _ H locs ls hG hP hD hS (lv_sub hl [1, 2, 3, 0] rfl) (fun H locs ls hP hD hS hl => ?_)
  refine lv_iload_n hx hb d_L_countOf_58 rfl (lv_at hl 0 rfl) ?_
  cases hF
  exact kri K hP hD hS d_L_countOf_59 rfl
theorem c_L_countOf (l : Launch) (g : va_G) (cI cJ cZ : ClassId) (ad : Nat → Nat) (xst : Nat → Int32) (xse : Nat → Int32) (xre : Nat → Int32) (xgr : Nat → Int32) (ltm : Nat → Int32) (low : Nat → Int32) (lta : Nat → Int32) (llo : Nat → Int64) (lhi : Nat → Int64) (lmo : Nat → Int32) (rta : Nat → Int32) (ron : Nat → Int32) (rlo : Nat → Int64) (rhi : Nat → Int64) (rmo : Nat → Int32) (rin : Nat → Int32) (res : Nat → Int32) (rsi : Nat → Int32) (rli : Nat → Int32) (rar : Nat → Int32) (xgc : Int32) (xca : Int32) (xls : Int32) (xtl : Int32) (xno : Int32) (lco : Int32) (rwa : Int32) (rad : Int32) (rest : va_W) (a1 : Int32) (r : Int32) (hF : F_L_countOf ltm low lco a1 = some r) : Ci l y_L_countOf prog_2_method_9_code 4 (some .int) ({ frames := 1, cells := 0, slots := 0, locals := 22 }) [.ref (ad 1), .int a1] g (kty cI cJ cZ) (wC cI cJ cZ ad xst xse xre xgr ltm low lta llo lhi lmo rta ron rlo rhi rmo rin res rsi rli rar xgc xca xls xtl xno lco rwa rad rest) (wC cI cJ cZ ad xst xse xre xgr ltm low lta llo lhi lmo rta ron rlo rhi rmo rin res rsi rli rar xgc xca xls xtl xno lco rwa rad rest) r :=
  Ci.of (by decide) (Nat.le_of_ble_eq_true rfl) (fun p e s m below meth c A ls K hP hD hS hl => t_L_countOf K xst xse xre xgr ltm low lta llo lhi lmo rta ron rlo rhi rmo rin res rsi rli rar xgc xca xls xtl xno lco rwa rad a1 r hF hP hD hS hl)
def F_L_countAll_L7 (ltm : Nat → Int32) : Nat → Int32 → Int32 → Option (Int32)
  | 0, _, _ => none
  | n + 1, v1, v2 => if 128 ≤ v2 then some v1 else gd (v2 < 0 ∨ 128 ≤ v2.toNatClampNeg) (if (ltm v2.toNatClampNeg) = (-1) then F_L_countAll_L7 ltm n v1 (v2 + 1) else F_L_countAll_L7 ltm n (v1 + 1) (v2 + 1))
def F_L_countAll (ltm : Nat → Int32) (lco : Int32) : Option (Int32) :=
  ob1 (F_L_countAll_L7 ltm fu lco 0) (fun v1_4 => some v1_4)
set_option maxHeartbeats 4000000 in
set_option maxRecDepth 100000 in
theorem t_L_countAll_L7 {p : Program} {l : Launch} {e : Env} {s : State} {m : MethodId} {args : Array Value} {below : List Frame} {meth : Method} {c : Code} {A : Nat → Prop} {g : va_G} {cI cJ cZ : ClassId} {ad : Nat → Nat} {rest : va_W} (K : kX p s m args meth c "LockTable$Locks" prog_2_method_10_code 3 (some .int) A g (kty cI cJ cZ)) {Q : State → Prop} (xst : Nat → Int32) (xse : Nat → Int32) (xre : Nat → Int32) (xgr : Nat → Int32) (ltm : Nat → Int32) (low : Nat → Int32) (lta : Nat → Int32) (llo : Nat → Int64) (lhi : Nat → Int64) (lmo : Nat → Int32) (rta : Nat → Int32) (ron : Nat → Int32) (rlo : Nat → Int64) (rhi : Nat → Int64) (rmo : Nat → Int32) (rin : Nat → Int32) (res : Nat → Int32) (rsi : Nat → Int32) (rli : Nat → Int32) (rar : Nat → Int32) (xgc : Int32) (xca : Int32) (xls : Int32) (xtl : Int32) (xno : Int32) (lco : Int32) (rwa : Int32) (rad : Int32) : ∀ (n : Nat) (v1 : Int32) (v2 : Int32) (o_v1 : Int32) (H : Heap) (locs : List Loc) (ls : Array Slot), F_L_countAll_L7 ltm n v1 v2 = some o_v1 → va_P g kcl (wC cI cJ cZ ad xst xse xre xgr ltm low lta llo lhi lmo rta ron rlo rhi rmo rin res rsi rli rar xgc xca xls xtl xno lco rwa rad rest) H → va_D A (wC cI cJ cZ ad xst xse xre xgr ltm low lta llo lhi lmo rta ron rlo rhi rmo rin res rsi rli rar xgc xca xls xtl xno lco rwa rad rest) → va_S A s.heap H locs → lv_has ls 3 [(0, .ref (ad 1)), (1, .int v1), (2, .int v2)] → (∀ (H : Heap) (locs : List Loc) (ls : Array Slot), va_P g kcl (wC cI cJ cZ ad xst xse xre xgr ltm low lta llo lhi lmo rta ron rlo rhi rmo rin res rsi rli rar xgc xca xls xtl xno lco rwa rad rest) H → va_D A (wC cI cJ cZ ad xst xse xre xgr ltm low lta llo lhi lmo rta ron rlo rhi rmo rin res rsi rli rar xgc xca xls xtl xno lco rwa rad rest) → va_S A s.heap H locs → lv_has ls 3 [(1, .int o_v1)] → W p l e ({ frames := 0, cells := 0, slots := 0, locals := 0 }) s m args below meth c H locs 0 0 Q (F0 m 35 ls [])) → W p l e ({ frames := 0, cells := 0, slots := 0, locals := 0 }) s m args below meth c H locs 0 0 Q (F0 m 7 ls []) := by
  obtain ⟨hx, hb, hr, hml, hown, hts, hlocks, hK, hA, hE⟩ := id K
  intro n
  induction n with
  | zero =>
    intro v1 v2 o_v1 H locs ls hF
    rw [F_L_countAll_L7] at hF
    cases hF
  | succ n ih =>
    intro v1 v2 o_v1 H locs ls hF hP hD hS hl hQ
    rw [F_L_countAll_L7] at hF
    refine lv_iload_n hx hb d_L_countAll_7 rfl (lv_at hl 2 rfl) ?_
    refine lv_aload_n hx hb d_L_countAll_8 rfl (lv_at hl 0 rfl) ?_
    refine va_get (D := g) (ci := 0) (v := .ref (ad 7)) (C := kR0) (T := kT0) (N := 7) hx hb hts kw0 hown hK hP 1 rfl rfl 0 (by decide) (hts _ wm_78) (fun _ h9 => h9) rfl d_L_countAll_9 ?_
    refine va_alen hx hb hK hP 7 0 rfl rfl (v := 128) rfl d_L_countAll_12 ?_
    refine lv_icmp_ge (tgt := 35) hx hb d_L_countAll_13 (by decide) (fun hc_1 => ?_) (fun hc_1 => ?_)
    · have hF := it_t hF hc_1
      cases hF
      exact hQ H locs ls hP hD hS (lv_sub hl [1] rfl)
    · have hF := it_f hF hc_1
      refine lv_aload_n hx hb d_L_countAll_16 rfl (lv_at hl 0 rfl) ?_
      refine va_get (D := g) (ci := 0) (v := .ref (ad 7)) (C := kR0) (T := kT0) (N := 7) hx hb hts kw0 hown hK hP 1 rfl rfl 0 (by decide) (hts _ wm_78) (fun _ h9 => h9) rfl d_L_countAll_17 ?_
      refine lv_iload_n hx hb d_L_countAll_20 rfl (lv_at hl 2 rfl) ?_
      obtain ⟨hg_2, hF⟩ := gd_inv hF
      refine va_iald hx hb hK hP 7 0 rfl rfl hg_2 d_L_countAll_21 ?_
      refine lv_iconst (v := (-1)) hx hb d_L_countAll_22 (by decide) ?_
      refine lv_icmp_eq (tgt := 29) hx hb d_L_countAll_23 (by decide) (fun hc_3 => ?_) (fun hc_3 => ?_)
      · have hF := it_t hF hc_3
        refine lv_iinc (v := v2 + 1) (lv' := [(2, .int (v2 + 1)), (0, .ref (ad 1)), (1, .int v1)]) hx hb d_L_countAll_29 hl (k := 2) rfl rfl (by decide) rfl (fun ls hl => ?_)
        refine lv_goto (tgt := 7) hx hb d_L_countAll_32 (by decide) ?_
        exact ih _ _ _ H locs ls hF hP hD hS (lv_sub hl [1, 2, 0] rfl) hQ
      · have hF := it_f hF hc_3
        refine lv_iinc (v := v1 + 1) (lv' := [(1, .int (v1 + 1)), (0, .ref (ad 1)), (2, .int v2)]) hx hb d_L_countAll_26 hl (k := 1) rfl rfl (by decide) rfl (fun ls hl => ?_)
        refine lv_iinc (v := v2 + 1) (lv' := [(2, .int (v2 + 1)), (1, .int (v1 + 1)), (0, .ref (ad 1))]) hx hb d_L_countAll_29 hl (k := 2) rfl rfl (by decide) rfl (fun ls hl => ?_)
        refine lv_goto (tgt := 7) hx hb d_L_countAll_32 (by decide) ?_
        exact ih _ _ _ H locs ls hF hP hD hS (lv_sub hl [2, 1, 0] rfl) hQ
set_option maxHeartbeats 4000000 in
set_option maxRecDepth 100000 in
theorem t_L_countAll {p : Program} {l : Launch} {e : Env} {s : State} {m : MethodId} {args : Array Value} {below : List Frame} {meth : Method} {c : Code} {A : Nat → Prop} {g : va_G} {cI cJ cZ : ClassId} {ad : Nat → Nat} {rest : va_W} (K : kX p s m args meth c "LockTable$Locks" prog_2_method_10_code 3 (some .int) A g (kty cI cJ cZ)) (xst : Nat → Int32) (xse : Nat → Int32) (xre : Nat → Int32) (xgr : Nat → Int32) (ltm : Nat → Int32) (low : Nat → Int32) (lta : Nat → Int32) (llo : Nat → Int64) (lhi : Nat → Int64) (lmo : Nat → Int32) (rta : Nat → Int32) (ron : Nat → Int32) (rlo : Nat → Int64) (rhi : Nat → Int64) (rmo : Nat → Int32) (rin : Nat → Int32) (res : Nat → Int32) (rsi : Nat → Int32) (rli : Nat → Int32) (rar : Nat → Int32) (xgc : Int32) (xca : Int32) (xls : Int32) (xtl : Int32) (xno : Int32) (lco : Int32) (rwa : Int32) (rad : Int32)  (r : Int32) (hF : F_L_countAll ltm lco = some r) {H : Heap} {locs : List Loc} {ls : Array Slot} (hP : va_P g kcl (wC cI cJ cZ ad xst xse xre xgr ltm low lta llo lhi lmo rta ron rlo rhi rmo rin res rsi rli rar xgc xca xls xtl xno lco rwa rad rest) H) (hD : va_D A (wC cI cJ cZ ad xst xse xre xgr ltm low lta llo lhi lmo rta ron rlo rhi rmo rin res rsi rli rar xgc xca xls xtl xno lco rwa rad rest)) (hS : va_S A s.heap H locs) (hl : lv_has ls 3 [(0, .ref (ad 1))]) : W p l e ({ frames := 0, cells := 0, slots := 0, locals := 0 }) s m args below meth c H locs 0 0 (MQ below (kQi g (kty cI cJ cZ) (wC cI cJ cZ ad xst xse xre xgr ltm low lta llo lhi lmo rta ron rlo rhi rmo rin res rsi rli rar xgc xca xls xtl xno lco rwa rad rest) A r) args s 0 0 A) (F0 m 0 ls []) := by
  obtain ⟨hx, hb, hr, hml, hown, hts, hlocks, hK, hA, hE⟩ := id K
  unfold F_L_countAll at hF
  refine lv_aload_n hx hb d_L_countAll_0 rfl (lv_at hl 0 rfl) ?_
  refine va_get (D := g) (ci := 0) (v := .int lco) (C := kR0) (T := kT0) (N := 7) hx hb hts kw0 hown hK hP 1 rfl rfl 6 (by decide) (hts _ wm_84) (fun _ h9 => h9) rfl d_L_countAll_1 ?_
  refine lv_istore_n (lv' := [(1, .int lco), (0, .ref (ad 1))]) hx hb d_L_countAll_4 rfl hl (by decide) rfl (fun ls hl => ?_)
  refine lv_iconst (v := 0) hx hb d_L_countAll_5 (by decide) ?_
  refine lv_istore_n (lv' := [(2, .int 0), (1, .int lco), (0, .ref (ad 1))]) hx hb d_L_countAll_6 rfl hl (by decide) rfl (fun ls hl => ?_)
  obtain ⟨v1_4, hG, hF⟩ := ob1_inv hF
  refine t_L_countAll_L7 K xst xse xre xgr ltm low lta llo lhi lmo rta ron rlo rhi rmo rin res rsi rli rar xgc xca xls xtl xno lco rwa rad fu _ _ _ H locs ls hG hP hD hS (lv_sub hl [2, 1, 0] rfl) (fun H locs ls hP hD hS hl => ?_)
  refine lv_iload_n hx hb d_L_countAll_35 rfl (lv_at hl 0 rfl) ?_
  cases hF
  exact kri K hP hD hS d_L_countAll_36 rfl
theorem c_L_countAll (l : Launch) (g : va_G) (cI cJ cZ : ClassId) (ad : Nat → Nat) (xst : Nat → Int32) (xse : Nat → Int32) (xre : Nat → Int32) (xgr : Nat → Int32) (ltm : Nat → Int32) (low : Nat → Int32) (lta : Nat → Int32) (llo : Nat → Int64) (lhi : Nat → Int64) (lmo : Nat → Int32) (rta : Nat → Int32) (ron : Nat → Int32) (rlo : Nat → Int64) (rhi : Nat → Int64) (rmo : Nat → Int32) (rin : Nat → Int32) (res : Nat → Int32) (rsi : Nat → Int32) (rli : Nat → Int32) (rar : Nat → Int32) (xgc : Int32) (xca : Int32) (xls : Int32) (xtl : Int32) (xno : Int32) (lco : Int32) (rwa : Int32) (rad : Int32) (rest : va_W)  (r : Int32) (hF : F_L_countAll ltm lco = some r) : Ci l y_L_countAll prog_2_method_10_code 3 (some .int) ({ frames := 0, cells := 0, slots := 0, locals := 0 }) [.ref (ad 1)] g (kty cI cJ cZ) (wC cI cJ cZ ad xst xse xre xgr ltm low lta llo lhi lmo rta ron rlo rhi rmo rin res rsi rli rar xgc xca xls xtl xno lco rwa rad rest) (wC cI cJ cZ ad xst xse xre xgr ltm low lta llo lhi lmo rta ron rlo rhi rmo rin res rsi rli rar xgc xca xls xtl xno lco rwa rad rest) r :=
  Ci.of (by decide) (Nat.le_of_ble_eq_true rfl) (fun p e s m below meth c A ls K hP hD hS hl => t_L_countAll K xst xse xre xgr ltm low lta llo lhi lmo rta ron rlo rhi rmo rin res rsi rli rar xgc xca xls xtl xno lco rwa rad  r hF hP hD hS hl)
def F_L_strongestOn_L41 (low : Nat → Int32) (lta : Nat → Int32) (llo : Nat → Int64) (lhi : Nat → Int64) (lmo : Nat → Int32) (lco : Int32) (v1 : Int32) (v2 : Int32) (v3 : Int64) : Nat → Int32 → Int32 → Option (Int32)
  | 0, _, _ => none
  | n + 1, v6, v7 => if lco ≤ v7 then some v6 else ob1 (F_L_isRound low lta llo lhi v7 v1 v2 v3 v3) (fun r_7 => if r_7 = 0 then F_L_strongestOn_L41 low lta llo lhi lmo lco v1 v2 v3 n v6 (v7 + 1) else gd (v7 < 0 ∨ 256 ≤ v7.toNatClampNeg) (F_L_strongestOn_L41 low lta llo lhi lmo lco v1 v2 v3 n (if v6 < (lmo v7.toNatClampNeg) then lmo v7.toNatClampNeg else v6) (v7 + 1)))
def F_L_strongestOn (ltm : Nat → Int32) (low : Nat → Int32) (lta : Nat → Int32) (llo : Nat → Int64) (lhi : Nat → Int64) (lmo : Nat → Int32) (lco : Int32) (a1 : Int32) (a2 : Int32) (a3 : Int64) : Option (Int32) :=
  ob1 (F_L_heldMode ltm a1 a2) (fun r_1 => ob1 (F_K_tableCovers r_1 5) (fun r_2 => if r_2 = 0 then ob1 (F_K_tableCovers r_1 2) (fun r_4 => if r_4 = 0 then ob1 (F_L_strongestOn_L41 low lta llo lhi lmo lco a1 a2 a3 fu (-1) 0) (fun v6_10 => some v6_10) else ob1 (F_L_strongestOn_L41 low lta llo lhi lmo lco a1 a2 a3 fu 2 0) (fun v6_11 => some v6_11)) else ob1 (F_L_strongestOn_L41 low lta llo lhi lmo lco a1 a2 a3 fu 5 0) (fun v6_12 => some v6_12)))
set_option maxHeartbeats 4000000 in
set_option maxRecDepth 100000 in
theorem t_L_strongestOn_L41 {p : Program} {l : Launch} {e : Env} {s : State} {m : MethodId} {args : Array Value} {below : List Frame} {meth : Method} {c : Code} {A : Nat → Prop} {g : va_G} {cI cJ cZ : ClassId} {ad : Nat → Nat} {rest : va_W} (K : kX p s m args meth c "LockTable$Locks" prog_2_method_11_code 8 (some .int) A g (kty cI cJ cZ)) {Q : State → Prop} (xst : Nat → Int32) (xse : Nat → Int32) (xre : Nat → Int32) (xgr : Nat → Int32) (ltm : Nat → Int32) (low : Nat → Int32) (lta : Nat → Int32) (llo : Nat → Int64) (lhi : Nat → Int64) (lmo : Nat → Int32) (rta : Nat → Int32) (ron : Nat → Int32) (rlo : Nat → Int64) (rhi : Nat → Int64) (rmo : Nat → Int32) (rin : Nat → Int32) (res : Nat → Int32) (rsi : Nat → Int32) (rli : Nat → Int32) (rar : Nat → Int32) (xgc : Int32) (xca : Int32) (xls : Int32) (xtl : Int32) (xno : Int32) (lco : Int32) (rwa : Int32) (rad : Int32) (v1 : Int32) (v2 : Int32) (v3 : Int64) : ∀ (n : Nat) (v6 : Int32) (v7 : Int32) (o_v6 : Int32) (H : Heap) (locs : List Loc) (ls : Array Slot), F_L_strongestOn_L41 low lta llo lhi lmo lco v1 v2 v3 n v6 v7 = some o_v6 → va_P g kcl (wC cI cJ cZ ad xst xse xre xgr ltm low lta llo lhi lmo rta ron rlo rhi rmo rin res rsi rli rar xgc xca xls xtl xno lco rwa rad rest) H → va_D A (wC cI cJ cZ ad xst xse xre xgr ltm low lta llo lhi lmo rta ron rlo rhi rmo rin res rsi rli rar xgc xca xls xtl xno lco rwa rad rest) → va_S A s.heap H locs → lv_has ls 8 [(0, .ref (ad 1)), (1, .int v1), (2, .int v2), (3, .long v3), (6, .int v6), (7, .int v7)] → (∀ (H : Heap) (locs : List Loc) (ls : Array Slot), va_P g kcl (wC cI cJ cZ ad xst xse xre xgr ltm low lta llo lhi lmo rta ron rlo rhi rmo rin res rsi rli rar xgc xca xls xtl xno lco rwa rad rest) H → va_D A (wC cI cJ cZ ad xst xse xre xgr ltm low lta llo lhi lmo rta ron rlo rhi rmo rin res rsi rli rar xgc xca xls xtl xno lco rwa rad rest) → va_S A s.heap H locs → lv_has ls 8 [(6, .int o_v6)] → W p l e ({ frames := 2, cells := 0, slots := 0, locals := 50 }) s m args below meth c H locs 0 0 Q (F0 m 83 ls [])) → W p l e ({ frames := 2, cells := 0, slots := 0, locals := 50 }) s m args below meth c H locs 0 0 Q (F0 m 41 ls []) := by
  obtain ⟨hx, hb, hr, hml, hown, hts, hlocks, hK, hA, hE⟩ := id K
  intro n
  induction n with
  | zero =>
    intro v6 v7 o_v6 H locs ls hF
    rw [F_L_strongestOn_L41] at hF
    cases hF
  | succ n ih =>
    intro v6 v7 o_v6 H locs ls hF hP hD hS hl hQ
    rw [F_L_strongestOn_L41] at hF
    refine lv_iload hx hb d_L_strongestOn_41 (lv_at hl 5 rfl) ?_
    refine lv_aload_n hx hb d_L_strongestOn_43 rfl (lv_at hl 0 rfl) ?_
    refine va_get (D := g) (ci := 0) (v := .int lco) (C := kR0) (T := kT0) (N := 7) hx hb hts kw0 hown hK hP 1 rfl rfl 6 (by decide) (hts _ wm_84) (fun _ h9 => h9) rfl d_L_strongestOn_44 ?_
    refine lv_icmp_ge (tgt := 83) hx hb d_L_strongestOn_47 (by decide) (fun hc_6 => ?_) (fun hc_6 => ?_)
    · have hF := it_t hF hc_6
      cases hF
      exact hQ H locs ls hP hD hS (lv_sub hl [4] rfl)
    · have hF := it_f hF hc_6
      refine lv_aload_n hx hb d_L_strongestOn_50 rfl (lv_at hl 0 rfl) ?_
      refine lv_iload hx hb d_L_strongestOn_51 (lv_at hl 5 rfl) ?_
      refine lv_iload_n hx hb d_L_strongestOn_53 rfl (lv_at hl 1 rfl) ?_
      refine lv_iload_n hx hb d_L_strongestOn_54 rfl (lv_at hl 2 rfl) ?_
      refine lv_lload_n hx hb d_L_strongestOn_55 rfl (lv_at hl 3 rfl) ?_
      refine lv_lload_n hx hb d_L_strongestOn_56 rfl (lv_at hl 3 rfl) ?_
      obtain ⟨r_7, hG, hF⟩ := ob1_inv hF
      refine kci K hP hD hS (c_L_isRound l g cI cJ cZ ad xst xse xre xgr ltm low lta llo lhi lmo rta ron rlo rhi rmo rin res rsi rli rar xgc xca xls xtl xno lco rwa rad rest v7 v1 v2 v3 v3 r_7 hG) wm_485 wm_482 wm_484 wm_16 wm_48 hd_L_isRound rfl rfl ⟨Nat.le_of_ble_eq_true rfl, Nat.le_of_ble_eq_true rfl⟩ ⟨Nat.zero_le _, Nat.zero_le _⟩ 0 1 rfl rfl rfl hl.1 (rest := []) rfl (Nat.le_of_ble_eq_true rfl) d_L_strongestOn_57 (fun H locs hP hD hS => ?_)
      refine lv_if_eq (tgt := 77) hx hb d_L_strongestOn_60 (by decide) (fun hc_8 => ?_) (fun hc_8 => ?_)
      · have hF := it_t hF hc_8
        refine lv_iinc (v := v7 + 1) (lv' := [(7, .int (v7 + 1)), (0, .ref (ad 1)), (1, .int v1), (2, .int v2), (3, .long v3), (6, .int v6)]) hx hb d_L_strongestOn_77 hl (k := 5) rfl rfl (by decide) rfl (fun ls hl => ?_)
        refine lv_goto (tgt := 41) hx hb d_L_strongestOn_80 (by decide) ?_
        exact ih _ _ _ H locs ls hF hP hD hS (lv_sub hl [1, 2, 3, 4, 5, 0] rfl) hQ
      · have hF := it_f hF hc_8
        refine lv_iload hx hb d_L_strongestOn_63 (lv_at hl 4 rfl) ?_
        refine lv_aload_n hx hb d_L_strongestOn_65 rfl (lv_at hl 0 rfl) ?_
        refine va_get (D := g) (ci := 0) (v := .ref (ad 12)) (C := kR0) (T := kT0) (N := 7) hx hb hts kw0 hown hK hP 1 rfl rfl 5 (by decide) (hts _ wm_83) (fun _ h9 => h9) rfl d_L_strongestOn_66 ?_
        refine lv_iload hx hb d_L_strongestOn_69 (lv_at hl 5 rfl) ?_
        obtain ⟨hg_9, hF⟩ := gd_inv hF
        refine va_iald hx hb hK hP 12 0 rfl rfl hg_9 d_L_strongestOn_71 ?_
        refine va_mmax hx hb (by rw [hml]; exact hl.1.symm) hown (hts _ wm_639) (hts _ wm_640) (hts _ wm_59) (hts _ wm_641) (Nat.le_of_ble_eq_true rfl) (Nat.le_of_ble_eq_true rfl) (Nat.zero_le _) (Nat.zero_le _) d_L_strongestOn_72 ?_
        refine lv_istore (lv' := [(6, .int (if v6 < (lmo v7.toNatClampNeg) then lmo v7.toNatClampNeg else v6)), (0, .ref (ad 1)), (1, .int v1), (2, .int v2), (3, .long v3), (7, .int v7)]) hx hb d_L_strongestOn_75 hl (by decide) rfl (fun ls hl => ?_)
        refine lv_iinc (v := v7 + 1) (lv' := [(7, .int (v7 + 1)), (6, .int (if v6 < (lmo v7.toNatClampNeg) then lmo v7.toNatClampNeg else v6)), (0, .ref (ad 1)), (1, .int v1), (2, .int v2), (3, .long v3)]) hx hb d_L_strongestOn_77 hl (k := 5) rfl rfl (by decide) rfl (fun ls hl => ?_)
        refine lv_goto (tgt := 41) hx hb d_L_strongestOn_80 (by decide) ?_
        exact ih _ _ _ H locs ls hF hP hD hS (lv_sub hl [2, 3, 4, 5, 1, 0] rfl) hQ
set_option maxHeartbeats 4000000 in
set_option maxRecDepth 100000 in
theorem t_L_strongestOn {p : Program} {l : Launch} {e : Env} {s : State} {m : MethodId} {args : Array Value} {below : List Frame} {meth : Method} {c : Code} {A : Nat → Prop} {g : va_G} {cI cJ cZ : ClassId} {ad : Nat → Nat} {rest : va_W} (K : kX p s m args meth c "LockTable$Locks" prog_2_method_11_code 8 (some .int) A g (kty cI cJ cZ)) (xst : Nat → Int32) (xse : Nat → Int32) (xre : Nat → Int32) (xgr : Nat → Int32) (ltm : Nat → Int32) (low : Nat → Int32) (lta : Nat → Int32) (llo : Nat → Int64) (lhi : Nat → Int64) (lmo : Nat → Int32) (rta : Nat → Int32) (ron : Nat → Int32) (rlo : Nat → Int64) (rhi : Nat → Int64) (rmo : Nat → Int32) (rin : Nat → Int32) (res : Nat → Int32) (rsi : Nat → Int32) (rli : Nat → Int32) (rar : Nat → Int32) (xgc : Int32) (xca : Int32) (xls : Int32) (xtl : Int32) (xno : Int32) (lco : Int32) (rwa : Int32) (rad : Int32) (a1 : Int32) (a2 : Int32) (a3 : Int64) (r : Int32) (hF : F_L_strongestOn ltm low lta llo lhi lmo lco a1 a2 a3 = some r) {H : Heap} {locs : List Loc} {ls : Array Slot} (hP : va_P g kcl (wC cI cJ cZ ad xst xse xre xgr ltm low lta llo lhi lmo rta ron rlo rhi rmo rin res rsi rli rar xgc xca xls xtl xno lco rwa rad rest) H) (hD : va_D A (wC cI cJ cZ ad xst xse xre xgr ltm low lta llo lhi lmo rta ron rlo rhi rmo rin res rsi rli rar xgc xca xls xtl xno lco rwa rad rest)) (hS : va_S A s.heap H locs) (hl : lv_has ls 8 [(0, .ref (ad 1)), (1, .int a1), (2, .int a2), (3, .long a3)]) : W p l e ({ frames := 2, cells := 0, slots := 0, locals := 50 }) s m args below meth c H locs 0 0 (MQ below (kQi g (kty cI cJ cZ) (wC cI cJ cZ ad xst xse xre xgr ltm low lta llo lhi lmo rta ron rlo rhi rmo rin res rsi rli rar xgc xca xls xtl xno lco rwa rad rest) A r) args s 0 0 A) (F0 m 0 ls []) := by
  obtain ⟨hx, hb, hr, hml, hown, hts, hlocks, hK, hA, hE⟩ := id K
  unfold F_L_strongestOn at hF
  refine lv_aload_n hx hb d_L_strongestOn_0 rfl (lv_at hl 0 rfl) ?_
  refine lv_iload_n hx hb d_L_strongestOn_1 rfl (lv_at hl 1 rfl) ?_
  refine lv_iload_n hx hb d_L_strongestOn_2 rfl (lv_at hl 2 rfl) ?_
  obtain ⟨r_1, hG, hF⟩ := ob1_inv hF
  refine kci K hP hD hS (c_L_heldMode l g cI cJ cZ ad xst xse xre xgr ltm low lta llo lhi lmo rta ron rlo rhi rmo rin res rsi rli rar xgc xca xls xtl xno lco rwa rad rest a1 a2 r_1 hG) wm_329 wm_380 wm_327 wm_328 wm_48 hd_L_heldMode rfl rfl ⟨Nat.le_of_ble_eq_true rfl, Nat.le_of_ble_eq_true rfl⟩ ⟨Nat.zero_le _, Nat.zero_le _⟩ 0 1 rfl rfl rfl hl.1 (rest := []) rfl (Nat.le_of_ble_eq_true rfl) d_L_strongestOn_3 (fun H locs hP hD hS => ?_)
  refine lv_istore (lv' := [(5, .int r_1), (0, .ref (ad 1)), (1, .int a1), (2, .int a2), (3, .long a3)]) hx hb d_L_strongestOn_6 hl (by decide) rfl (fun ls hl => ?_)
  refine lv_iconst (v := (-1)) hx hb d_L_strongestOn_8 (by decide) ?_
  refine lv_istore (lv' := [(6, .int (-1)), (5, .int r_1), (0, .ref (ad 1)), (1, .int a1), (2, .int a2), (3, .long a3)]) hx hb d_L_strongestOn_9 hl (by decide) rfl (fun ls hl => ?_)
  refine lv_iload hx hb d_L_strongestOn_11 (lv_at hl 1 rfl) ?_
  refine lv_iconst (v := 5) hx hb d_L_strongestOn_13 (by decide) ?_
  obtain ⟨r_2, hG, hF⟩ := ob1_inv hF
  refine ksi K hP hD hS (c_K_tableCovers l g (kty cI cJ cZ) (wC cI cJ cZ ad xst xse xre xgr ltm low lta llo lhi lmo rta ron rlo rhi rmo rin res rsi rli rar xgc xca xls xtl xno lco rwa rad rest) r_1 5 r_2 hG) wm_479 wm_477 wm_478 wm_56 hd_K_tableCovers rfl rfl ⟨Nat.le_of_ble_eq_true rfl, Nat.le_of_ble_eq_true rfl⟩ ⟨Nat.zero_le _, Nat.zero_le _⟩ hl.1 (rest := []) rfl (Nat.le_of_ble_eq_true rfl) d_L_strongestOn_14 (fun H locs hP hD hS => ?_)
  refine lv_if_eq (tgt := 26) hx hb d_L_strongestOn_17 (by decide) (fun hc_3 => ?_) (fun hc_3 => ?_)
  · have hF := it_t hF hc_3
    refine lv_iload hx hb d_L_strongestOn_26 (lv_at hl 1 rfl) ?_
    refine lv_iconst (v := 2) hx hb d_L_strongestOn_28 (by decide) ?_
    obtain ⟨r_4, hG, hF⟩ := ob1_inv hF
    refine ksi K hP hD hS (c_K_tableCovers l g (kty cI cJ cZ) (wC cI cJ cZ ad xst xse xre xgr ltm low lta llo lhi lmo rta ron rlo rhi rmo rin res rsi rli rar xgc xca xls xtl xno lco rwa rad rest) r_1 2 r_4 hG) wm_479 wm_477 wm_478 wm_56 hd_K_tableCovers rfl rfl ⟨Nat.le_of_ble_eq_true rfl, Nat.le_of_ble_eq_true rfl⟩ ⟨Nat.zero_le _, Nat.zero_le _⟩ hl.1 (rest := []) rfl (Nat.le_of_ble_eq_true rfl) d_L_strongestOn_29 (fun H locs hP hD hS => ?_)
    refine lv_if_eq (tgt := 38) hx hb d_L_strongestOn_32 (by decide) (fun hc_5 => ?_) (fun hc_5 => ?_)
    · have hF := it_t hF hc_5
      refine lv_iconst (v := 0) hx hb d_L_strongestOn_38 (by decide) ?_
      refine lv_istore (lv' := [(7, .int 0), (6, .int (-1)), (5, .int r_1), (0, .ref (ad 1)), (1, .int a1), (2, .int a2), (3, .long a3)]) hx hb d_L_strongestOn_39 hl (by decide) rfl (fun ls hl => ?_)
      obtain ⟨v6_10, hG, hF⟩ := ob1_inv hF
      refine t_L_strongestOn_L41 K xst xse xre xgr ltm low lta llo lhi lmo rta ron rlo rhi rmo rin res rsi rli rar xgc xca xls xtl xno lco rwa rad a1 a2 a3 fu _ _ _ H locs ls hG hP hD hS (lv_sub hl [3, 4, 5, 6, 1, 0] rfl) (fun H locs ls hP hD hS hl => ?_)
      refine lv_iload hx hb d_L_strongestOn_83 (lv_at hl 0 rfl) ?_
      cases hF
      exact kri K hP hD hS d_L_strongestOn_85 rfl
    · have hF := it_f hF hc_5
      refine lv_iconst (v := 2) hx hb d_L_strongestOn_35 (by decide) ?_
      refine lv_istore (lv' := [(6, .int 2), (5, .int r_1), (0, .ref (ad 1)), (1, .int a1), (2, .int a2), (3, .long a3)]) hx hb d_L_strongestOn_36 hl (by decide) rfl (fun ls hl => ?_)
      refine lv_iconst (v := 0) hx hb d_L_strongestOn_38 (by decide) ?_
      refine lv_istore (lv' := [(7, .int 0), (6, .int 2), (5, .int r_1), (0, .ref (ad 1)), (1, .int a1), (2, .int a2), (3, .long a3)]) hx hb d_L_strongestOn_39 hl (by decide) rfl (fun ls hl => ?_)
      obtain ⟨v6_11, hG, hF⟩ := ob1_inv hF
      refine t_L_strongestOn_L41 K xst xse xre xgr ltm low lta llo lhi lmo rta ron rlo rhi rmo rin res rsi rli rar xgc xca xls xtl xno lco rwa rad a1 a2 a3 fu _ _ _ H locs ls hG hP hD hS (lv_sub hl [3, 4, 5, 6, 1, 0] rfl) (fun H locs ls hP hD hS hl => ?_)
      refine lv_iload hx hb d_L_strongestOn_83 (lv_at hl 0 rfl) ?_
      cases hF
      exact kri K hP hD hS d_L_strongestOn_85 rfl
  · have hF := it_f hF hc_3
    refine lv_iconst (v := 5) hx hb d_L_strongestOn_20 (by decide) ?_
    refine lv_istore (lv' := [(6, .int 5), (5, .int r_1), (0, .ref (ad 1)), (1, .int a1), (2, .int a2), (3, .long a3)]) hx hb d_L_strongestOn_21 hl (by decide) rfl (fun ls hl => ?_)
    refine lv_goto (tgt := 38) hx hb d_L_strongestOn_23 (by decide) ?_
    refine lv_iconst (v := 0) hx hb d_L_strongestOn_38 (by decide) ?_
    refine lv_istore (lv' := [(7, .int 0), (6, .int 5), (5, .int r_1), (0, .ref (ad 1)), (1, .int a1), (2, .int a2), (3, .long a3)]) hx hb d_L_strongestOn_39 hl (by decide) rfl (fun ls hl => ?_)
    obtain ⟨v6_12, hG, hF⟩ := ob1_inv hF
    refine t_L_strongestOn_L41 K xst xse xre xgr ltm low lta llo lhi lmo rta ron rlo rhi rmo rin res rsi rli rar xgc xca xls xtl xno lco rwa rad a1 a2 a3 fu _ _ _ H locs ls hG hP hD hS (lv_sub hl [3, 4, 5, 6, 1, 0] rfl) (fun H locs ls hP hD hS hl => ?_)
    refine lv_iload hx hb d_L_strongestOn_83 (lv_at hl 0 rfl) ?_
    cases hF
    exact kri K hP hD hS d_L_strongestOn_85 rfl
theorem c_L_strongestOn (l : Launch) (g : va_G) (cI cJ cZ : ClassId) (ad : Nat → Nat) (xst : Nat → Int32) (xse : Nat → Int32) (xre : Nat → Int32) (xgr : Nat → Int32) (ltm : Nat → Int32) (low : Nat → Int32) (lta : Nat → Int32) (llo : Nat → Int64) (lhi : Nat → Int64) (lmo : Nat → Int32) (rta : Nat → Int32) (ron : Nat → Int32) (rlo : Nat → Int64) (rhi : Nat → Int64) (rmo : Nat → Int32) (rin : Nat → Int32) (res : Nat → Int32) (rsi : Nat → Int32) (rli : Nat → Int32) (rar : Nat → Int32) (xgc : Int32) (xca : Int32) (xls : Int32) (xtl : Int32) (xno : Int32) (lco : Int32) (rwa : Int32) (rad : Int32) (rest : va_W) (a1 : Int32) (a2 : Int32) (a3 : Int64) (r : Int32) (hF : F_L_strongestOn ltm low lta llo lhi lmo lco a1 a2 a3 = some r) : Ci l y_L_strongestOn prog_2_method_11_code 8 (some .int) ({ frames := 2, cells := 0, slots := 0, locals := 50 }) [.ref (ad 1), .int a1, .int a2, .long a3] g (kty cI cJ cZ) (wC cI cJ cZ ad xst xse xre xgr ltm low lta llo lhi lmo rta ron rlo rhi rmo rin res rsi rli rar xgc xca xls xtl xno lco rwa rad rest) (wC cI cJ cZ ad xst xse xre xgr ltm low lta llo lhi lmo rta ron rlo rhi rmo rin res rsi rli rar xgc xca xls xtl xno lco rwa rad rest) r :=
  Ci.of (by decide) (Nat.le_of_ble_eq_true rfl) (fun p e s m below meth c A ls K hP hD hS hl => t_L_strongestOn K xst xse xre xgr ltm low lta llo lhi lmo rta ron rlo rhi rmo rin res rsi rli rar xgc xca xls xtl xno lco rwa rad a1 a2 a3 r hF hP hD hS hl)
def F_L_againstTable_L6 (ltm : Nat → Int32) (v1 : Int32) (v2 : Int32) (v3 : Int32) : Nat → Int32 → Int32 → Option (Int32)
  | 0, _, _ => none
  | n + 1, v4, v5 => if 8 ≤ v5 then some v4 else ob1 (F_L_heldMode ltm v5 v2) (fun r_2 => if v5 = v1 then F_L_againstTable_L6 ltm v1 v2 v3 n v4 (v5 + 1) else if r_2 = (-1) then F_L_againstTable_L6 ltm v1 v2 v3 n v4 (v5 + 1) else ob1 (F_K_goTogether r_2 v3) (fun r_5 => if r_5 = 0 then F_L_againstTable_L6 ltm v1 v2 v3 n (v4 ||| (1 <<< (v5 &&& 31))) (v5 + 1) else F_L_againstTable_L6 ltm v1 v2 v3 n v4 (v5 + 1)))
def F_L_againstTable (ltm : Nat → Int32) (a1 : Int32) (a2 : Int32) (a3 : Int32) : Option (Int32) :=
  ob1 (F_L_againstTable_L6 ltm a1 a2 a3 fu 0 0) (fun v4_7 => some v4_7)
set_option maxHeartbeats 4000000 in
set_option maxRecDepth 100000 in
theorem t_L_againstTable_L6 {p : Program} {l : Launch} {e : Env} {s : State} {m : MethodId} {args : Array Value} {below : List Frame} {meth : Method} {c : Code} {A : Nat → Prop} {g : va_G} {cI cJ cZ : ClassId} {ad : Nat → Nat} {rest : va_W} (K : kX p s m args meth c "LockTable$Locks" prog_2_method_12_code 7 (some .int) A g (kty cI cJ cZ)) {Q : State → Prop} (xst : Nat → Int32) (xse : Nat → Int32) (xre : Nat → Int32) (xgr : Nat → Int32) (ltm : Nat → Int32) (low : Nat → Int32) (lta : Nat → Int32) (llo : Nat → Int64) (lhi : Nat → Int64) (lmo : Nat → Int32) (rta : Nat → Int32) (ron : Nat → Int32) (rlo : Nat → Int64) (rhi : Nat → Int64) (rmo : Nat → Int32) (rin : Nat → Int32) (res : Nat → Int32) (rsi : Nat → Int32) (rli : Nat → Int32) (rar : Nat → Int32) (xgc : Int32) (xca : Int32) (xls : Int32) (xtl : Int32) (xno : Int32) (lco : Int32) (rwa : Int32) (rad : Int32) (v1 : Int32) (v2 : Int32) (v3 : Int32) : ∀ (n : Nat) (v4 : Int32) (v5 : Int32) (o_v4 : Int32) (H : Heap) (locs : List Loc) (ls : Array Slot), F_L_againstTable_L6 ltm v1 v2 v3 n v4 v5 = some o_v4 → va_P g kcl (wC cI cJ cZ ad xst xse xre xgr ltm low lta llo lhi lmo rta ron rlo rhi rmo rin res rsi rli rar xgc xca xls xtl xno lco rwa rad rest) H → va_D A (wC cI cJ cZ ad xst xse xre xgr ltm low lta llo lhi lmo rta ron rlo rhi rmo rin res rsi rli rar xgc xca xls xtl xno lco rwa rad rest) → va_S A s.heap H locs → lv_has ls 7 [(0, .ref (ad 1)), (1, .int v1), (2, .int v2), (3, .int v3), (4, .int v4), (5, .int v5)] → (∀ (H : Heap) (locs : List Loc) (ls : Array Slot), va_P g kcl (wC cI cJ cZ ad xst xse xre xgr ltm low lta llo lhi lmo rta ron rlo rhi rmo rin res rsi rli rar xgc xca xls xtl xno lco rwa rad rest) H → va_D A (wC cI cJ cZ ad xst xse xre xgr ltm low lta llo lhi lmo rta ron rlo rhi rmo rin res rsi rli rar xgc xca xls xtl xno lco rwa rad rest) → va_S A s.heap H locs → lv_has ls 7 [(4, .int o_v4)] → W p l e ({ frames := 1, cells := 0, slots := 0, locals := 22 }) s m args below meth c H locs 0 0 Q (F0 m 58 ls [])) → W p l e ({ frames := 1, cells := 0, slots := 0, locals := 22 }) s m args below meth c H locs 0 0 Q (F0 m 6 ls []) := by
  obtain ⟨hx, hb, hr, hml, hown, hts, hlocks, hK, hA, hE⟩ := id K
  intro n
  induction n with
  | zero =>
    intro v4 v5 o_v4 H locs ls hF
    rw [F_L_againstTable_L6] at hF
    cases hF
  | succ n ih =>
    intro v4 v5 o_v4 H locs ls hF hP hD hS hl hQ
    rw [F_L_againstTable_L6] at hF
    refine lv_iload hx hb d_L_againstTable_6 (lv_at hl 5 rfl) ?_
    refine lv_bipush (v := 8) hx hb d_L_againstTable_8 (by decide) ?_
    refine lv_icmp_ge (tgt := 58) hx hb d_L_againstTable_10 (by decide) (fun hc_1 => ?_) (fun hc_1 => ?_)
    · have hF := it_t hF hc_1
      cases hF
      exact hQ H locs ls hP hD hS (lv_sub hl [4] rfl)
    · have hF := it_f hF hc_1
      refine lv_aload_n hx hb d_L_againstTable_13 rfl (lv_at hl 0 rfl) ?_
      refine lv_iload hx hb d_L_againstTable_14 (lv_at hl 5 rfl) ?_
      refine lv_iload_n hx hb d_L_againstTable_16 rfl (lv_at hl 2 rfl) ?_
      obtain ⟨r_2, hG, hF⟩ := ob1_inv hF
      refine kci K hP hD hS (c_L_heldMode l g cI cJ cZ ad xst xse xre xgr ltm low lta llo lhi lmo rta ron rlo rhi rmo rin res rsi rli rar xgc xca xls xtl xno lco rwa rad rest v5 v2 r_2 hG) wm_329 wm_380 wm_327 wm_328 wm_48 hd_L_heldMode rfl rfl ⟨Nat.le_of_ble_eq_true rfl, Nat.le_of_ble_eq_true rfl⟩ ⟨Nat.zero_le _, Nat.zero_le _⟩ 0 1 rfl rfl rfl hl.1 (rest := []) rfl (Nat.le_of_ble_eq_true rfl) d_L_againstTable_17 (fun H locs hP hD hS => ?_)
      refine lv_istore (lv' := [(6, .int r_2), (0, .ref (ad 1)), (1, .int v1), (2, .int v2), (3, .int v3), (4, .int v4), (5, .int v5)]) hx hb d_L_againstTable_20 hl (by decide) rfl (fun ls hl => ?_)
      refine lv_iload hx hb d_L_againstTable_22 (lv_at hl 6 rfl) ?_
      refine lv_iload_n hx hb d_L_againstTable_24 rfl (lv_at hl 2 rfl) ?_
      refine lv_icmp_eq (tgt := 52) hx hb d_L_againstTable_25 (by decide) (fun hc_3 => ?_) (fun hc_3 => ?_)
      · have hF := it_t hF hc_3
        refine lv_iinc (v := v5 + 1) (lv' := [(5, .int (v5 + 1)), (6, .int r_2), (0, .ref (ad 1)), (1, .int v1), (2, .int v2), (3, .int v3), (4, .int v4)]) hx hb d_L_againstTable_52 hl (k := 6) rfl rfl (by decide) rfl (fun ls hl => ?_)
        refine lv_goto (tgt := 6) hx hb d_L_againstTable_55 (by decide) ?_
        exact ih _ _ _ H locs ls hF hP hD hS (lv_sub hl [2, 3, 4, 5, 6, 0] rfl) hQ
      · have hF := it_f hF hc_3
        refine lv_iload hx hb d_L_againstTable_28 (lv_at hl 0 rfl) ?_
        refine lv_iconst (v := (-1)) hx hb d_L_againstTable_30 (by decide) ?_
        refine lv_icmp_eq (tgt := 52) hx hb d_L_againstTable_31 (by decide) (fun hc_4 => ?_) (fun hc_4 => ?_)
        · have hF := it_t hF hc_4
          refine lv_iinc (v := v5 + 1) (lv' := [(5, .int (v5 + 1)), (6, .int r_2), (0, .ref (ad 1)), (1, .int v1), (2, .int v2), (3, .int v3), (4, .int v4)]) hx hb d_L_againstTable_52 hl (k := 6) rfl rfl (by decide) rfl (fun ls hl => ?_)
          refine lv_goto (tgt := 6) hx hb d_L_againstTable_55 (by decide) ?_
          exact ih _ _ _ H locs ls hF hP hD hS (lv_sub hl [2, 3, 4, 5, 6, 0] rfl) hQ
        · have hF := it_f hF hc_4
          refine lv_iload hx hb d_L_againstTable_34 (lv_at hl 0 rfl) ?_
          refine lv_iload_n hx hb d_L_againstTable_36 rfl (lv_at hl 4 rfl) ?_
          obtain ⟨r_5, hG, hF⟩ := ob1_inv hF
          refine ksi K hP hD hS (c_K_goTogether l g (kty cI cJ cZ) (wC cI cJ cZ ad xst xse xre xgr ltm low lta llo lhi lmo rta ron rlo rhi rmo rin res rsi rli rar xgc xca xls xtl xno lco rwa rad rest) r_2 v3 r_5 hG) wm_375 wm_373 wm_374 wm_56 hd_K_goTogether rfl rfl ⟨Nat.le_of_ble_eq_true rfl, Nat.le_of_ble_eq_true rfl⟩ ⟨Nat.zero_le _, Nat.zero_le _⟩ hl.1 (rest := []) rfl (Nat.le_of_ble_eq_true rfl) d_L_againstTable_37 (fun H locs hP hD hS => ?_)
          refine lv_if_ne (tgt := 52) hx hb d_L_againstTable_40 (by decide) (fun hc_6 => ?_) (fun hc_6 => ?_)
          · have hF := it_f hF hc_6
            refine lv_iinc (v := v5 + 1) (lv' := [(5, .int (v5 + 1)), (6, .int r_2), (0, .ref (ad 1)), (1, .int v1), (2, .int v2), (3, .int v3), (4, .int v4)]) hx hb d_L_againstTable_52 hl (k := 6) rfl rfl (by decide) rfl (fun ls hl => ?_)
            refine lv_goto (tgt := 6) hx hb d_L_againstTable_55 (by decide) ?_
            exact ih _ _ _ H locs ls hF hP hD hS (lv_sub hl [2, 3, 4, 5, 6, 0] rfl) hQ
          · have hF := it_t hF hc_6
            refine lv_iload hx hb d_L_againstTable_43 (lv_at hl 5 rfl) ?_
            refine lv_iconst (v := 1) hx hb d_L_againstTable_45 (by decide) ?_
            refine lv_iload hx hb d_L_againstTable_46 (lv_at hl 6 rfl) ?_
            refine lv_ishl hx hb d_L_againstTable_48 ?_
            refine lv_ior hx hb d_L_againstTable_49 ?_
            refine lv_istore (lv' := [(4, .int (v4 ||| (1 <<< (v5 &&& 31)))), (6, .int r_2), (0, .ref (ad 1)), (1, .int v1), (2, .int v2), (3, .int v3), (5, .int v5)]) hx hb d_L_againstTable_50 hl (by decide) rfl (fun ls hl => ?_)
            refine lv_iinc (v := v5 + 1) (lv' := [(5, .int (v5 + 1)), (4, .int (v4 ||| (1 <<< (v5 &&& 31)))), (6, .int r_2), (0, .ref (ad 1)), (1, .int v1), (2, .int v2), (3, .int v3)]) hx hb d_L_againstTable_52 hl (k := 6) rfl rfl (by decide) rfl (fun ls hl => ?_)
            refine lv_goto (tgt := 6) hx hb d_L_againstTable_55 (by decide) ?_
            exact ih _ _ _ H locs ls hF hP hD hS (lv_sub hl [3, 4, 5, 6, 1, 0] rfl) hQ
set_option maxHeartbeats 4000000 in
set_option maxRecDepth 100000 in
theorem t_L_againstTable {p : Program} {l : Launch} {e : Env} {s : State} {m : MethodId} {args : Array Value} {below : List Frame} {meth : Method} {c : Code} {A : Nat → Prop} {g : va_G} {cI cJ cZ : ClassId} {ad : Nat → Nat} {rest : va_W} (K : kX p s m args meth c "LockTable$Locks" prog_2_method_12_code 7 (some .int) A g (kty cI cJ cZ)) (xst : Nat → Int32) (xse : Nat → Int32) (xre : Nat → Int32) (xgr : Nat → Int32) (ltm : Nat → Int32) (low : Nat → Int32) (lta : Nat → Int32) (llo : Nat → Int64) (lhi : Nat → Int64) (lmo : Nat → Int32) (rta : Nat → Int32) (ron : Nat → Int32) (rlo : Nat → Int64) (rhi : Nat → Int64) (rmo : Nat → Int32) (rin : Nat → Int32) (res : Nat → Int32) (rsi : Nat → Int32) (rli : Nat → Int32) (rar : Nat → Int32) (xgc : Int32) (xca : Int32) (xls : Int32) (xtl : Int32) (xno : Int32) (lco : Int32) (rwa : Int32) (rad : Int32) (a1 : Int32) (a2 : Int32) (a3 : Int32) (r : Int32) (hF : F_L_againstTable ltm a1 a2 a3 = some r) {H : Heap} {locs : List Loc} {ls : Array Slot} (hP : va_P g kcl (wC cI cJ cZ ad xst xse xre xgr ltm low lta llo lhi lmo rta ron rlo rhi rmo rin res rsi rli rar xgc xca xls xtl xno lco rwa rad rest) H) (hD : va_D A (wC cI cJ cZ ad xst xse xre xgr ltm low lta llo lhi lmo rta ron rlo rhi rmo rin res rsi rli rar xgc xca xls xtl xno lco rwa rad rest)) (hS : va_S A s.heap H locs) (hl : lv_has ls 7 [(0, .ref (ad 1)), (1, .int a1), (2, .int a2), (3, .int a3)]) : W p l e ({ frames := 1, cells := 0, slots := 0, locals := 22 }) s m args below meth c H locs 0 0 (MQ below (kQi g (kty cI cJ cZ) (wC cI cJ cZ ad xst xse xre xgr ltm low lta llo lhi lmo rta ron rlo rhi rmo rin res rsi rli rar xgc xca xls xtl xno lco rwa rad rest) A r) args s 0 0 A) (F0 m 0 ls []) := by
  obtain ⟨hx, hb, hr, hml, hown, hts, hlocks, hK, hA, hE⟩ := id K
  unfold F_L_againstTable at hF
  refine lv_iconst (v := 0) hx hb d_L_againstTable_0 (by decide) ?_
  refine lv_istore (lv' := [(4, .int 0), (0, .ref (ad 1)), (1, .int a1), (2, .int a2), (3, .int a3)]) hx hb d_L_againstTable_1 hl (by decide) rfl (fun ls hl => ?_)
  refine lv_iconst (v := 0) hx hb d_L_againstTable_3 (by decide) ?_
  refine lv_istore (lv' := [(5, .int 0), (4, .int 0), (0, .ref (ad 1)), (1, .int a1), (2, .int a2), (3, .int a3)]) hx hb d_L_againstTable_4 hl (by decide) rfl (fun ls hl => ?_)
  obtain ⟨v4_7, hG, hF⟩ := ob1_inv hF
  refine t_L_againstTable_L6 K xst xse xre xgr ltm low lta llo lhi lmo rta ron rlo rhi rmo rin res rsi rli rar xgc xca xls xtl xno lco rwa rad a1 a2 a3 fu _ _ _ H locs ls hG hP hD hS (lv_sub hl [2, 3, 4, 5, 1, 0] rfl) (fun H locs ls hP hD hS hl => ?_)
  refine lv_iload hx hb d_L_againstTable_58 (lv_at hl 0 rfl) ?_
  cases hF
  exact kri K hP hD hS d_L_againstTable_60 rfl
theorem c_L_againstTable (l : Launch) (g : va_G) (cI cJ cZ : ClassId) (ad : Nat → Nat) (xst : Nat → Int32) (xse : Nat → Int32) (xre : Nat → Int32) (xgr : Nat → Int32) (ltm : Nat → Int32) (low : Nat → Int32) (lta : Nat → Int32) (llo : Nat → Int64) (lhi : Nat → Int64) (lmo : Nat → Int32) (rta : Nat → Int32) (ron : Nat → Int32) (rlo : Nat → Int64) (rhi : Nat → Int64) (rmo : Nat → Int32) (rin : Nat → Int32) (res : Nat → Int32) (rsi : Nat → Int32) (rli : Nat → Int32) (rar : Nat → Int32) (xgc : Int32) (xca : Int32) (xls : Int32) (xtl : Int32) (xno : Int32) (lco : Int32) (rwa : Int32) (rad : Int32) (rest : va_W) (a1 : Int32) (a2 : Int32) (a3 : Int32) (r : Int32) (hF : F_L_againstTable ltm a1 a2 a3 = some r) : Ci l y_L_againstTable prog_2_method_12_code 7 (some .int) ({ frames := 1, cells := 0, slots := 0, locals := 22 }) [.ref (ad 1), .int a1, .int a2, .int a3] g (kty cI cJ cZ) (wC cI cJ cZ ad xst xse xre xgr ltm low lta llo lhi lmo rta ron rlo rhi rmo rin res rsi rli rar xgc xca xls xtl xno lco rwa rad rest) (wC cI cJ cZ ad xst xse xre xgr ltm low lta llo lhi lmo rta ron rlo rhi rmo rin res rsi rli rar xgc xca xls xtl xno lco rwa rad rest) r :=
  Ci.of (by decide) (Nat.le_of_ble_eq_true rfl) (fun p e s m below meth c A ls K hP hD hS hl => t_L_againstTable K xst xse xre xgr ltm low lta llo lhi lmo rta ron rlo rhi rmo rin res rsi rli rar xgc xca xls xtl xno lco rwa rad a1 a2 a3 r hF hP hD hS hl)
def F_L_againstRange_L6 (low : Nat → Int32) (lta : Nat → Int32) (llo : Nat → Int64) (lhi : Nat → Int64) (lmo : Nat → Int32) (lco : Int32) (v1 : Int32) (v2 : Int32) (v3 : Int64) (v5 : Int64) (v7 : Int32) : Nat → Int32 → Int32 → Option (Int32)
  | 0, _, _ => none
  | n + 1, v8, v9 => if lco ≤ v9 then some v8 else gd (v9 < 0 ∨ 256 ≤ v9.toNatClampNeg) (jn1 (fun (s_3 : Int32) => if s_3 = 0 then F_L_againstRange_L6 low lta llo lhi lmo lco v1 v2 v3 v5 v7 n v8 (v9 + 1) else gd (v9 < 0 ∨ 256 ≤ v9.toNatClampNeg) (if (low v9.toNatClampNeg) = v1 then F_L_againstRange_L6 low lta llo lhi lmo lco v1 v2 v3 v5 v7 n v8 (v9 + 1) else gd (v9 < 0 ∨ 256 ≤ v9.toNatClampNeg) (ob1 (F_K_goTogether (lmo v9.toNatClampNeg) v7) (fun r_8 => if r_8 = 0 then gd (v9 < 0 ∨ 256 ≤ v9.toNatClampNeg) (F_L_againstRange_L6 low lta llo lhi lmo lco v1 v2 v3 v5 v7 n (v8 ||| (1 <<< ((low v9.toNatClampNeg) &&& 31))) (v9 + 1)) else F_L_againstRange_L6 low lta llo lhi lmo lco v1 v2 v3 v5 v7 n v8 (v9 + 1))))) (fun J56 => jn0 (J56 0) (fun J55 => if (lta v9.toNatClampNeg) = v2 then gd (v9 < 0 ∨ 256 ≤ v9.toNatClampNeg) (if 0 < (lg_cmp (llo v9.toNatClampNeg) v5) then J55  else gd (v9 < 0 ∨ 256 ≤ v9.toNatClampNeg) (if 0 < (lg_cmp v3 (lhi v9.toNatClampNeg)) then J55  else J56 1)) else J55 )))
def F_L_againstRange (low : Nat → Int32) (lta : Nat → Int32) (llo : Nat → Int64) (lhi : Nat → Int64) (lmo : Nat → Int32) (lco : Int32) (a1 : Int32) (a2 : Int32) (a3 : Int64) (a4 : Int64) (a5 : Int32) : Option (Int32) :=
  ob1 (F_L_againstRange_L6 low lta llo lhi lmo lco a1 a2 a3 a4 a5 fu 0 0) (fun v8_16 => some v8_16)
set_option maxHeartbeats 4000000 in
set_option maxRecDepth 100000 in
theorem t_L_againstRange_L6 {p : Program} {l : Launch} {e : Env} {s : State} {m : MethodId} {args : Array Value} {below : List Frame} {meth : Method} {c : Code} {A : Nat → Prop} {g : va_G} {cI cJ cZ : ClassId} {ad : Nat → Nat} {rest : va_W} (K : kX p s m args meth c "LockTable$Locks" prog_2_method_13_code 11 (some .int) A g (kty cI cJ cZ)) {Q : State → Prop} (xst : Nat → Int32) (xse : Nat → Int32) (xre : Nat → Int32) (xgr : Nat → Int32) (ltm : Nat → Int32) (low : Nat → Int32) (lta : Nat → Int32) (llo : Nat → Int64) (lhi : Nat → Int64) (lmo : Nat → Int32) (rta : Nat → Int32) (ron : Nat → Int32) (rlo : Nat → Int64) (rhi : Nat → Int64) (rmo : Nat → Int32) (rin : Nat → Int32) (res : Nat → Int32) (rsi : Nat → Int32) (rli : Nat → Int32) (rar : Nat → Int32) (xgc : Int32) (xca : Int32) (xls : Int32) (xtl : Int32) (xno : Int32) (lco : Int32) (rwa : Int32) (rad : Int32) (v1 : Int32) (v2 : Int32) (v3 : Int64) (v5 : Int64) (v7 : Int32) : ∀ (n : Nat) (v8 : Int32) (v9 : Int32) (o_v8 : Int32) (H : Heap) (locs : List Loc) (ls : Array Slot), F_L_againstRange_L6 low lta llo lhi lmo lco v1 v2 v3 v5 v7 n v8 v9 = some o_v8 → va_P g kcl (wC cI cJ cZ ad xst xse xre xgr ltm low lta llo lhi lmo rta ron rlo rhi rmo rin res rsi rli rar xgc xca xls xtl xno lco rwa rad rest) H → va_D A (wC cI cJ cZ ad xst xse xre xgr ltm low lta llo lhi lmo rta ron rlo rhi rmo rin res rsi rli rar xgc xca xls xtl xno lco rwa rad rest) → va_S A s.heap H locs → lv_has ls 11 [(0, .ref (ad 1)), (1, .int v1), (2, .int v2), (3, .long v3), (5, .long v5), (7, .int v7), (8, .int v8), (9, .int v9)] → (∀ (H : Heap) (locs : List Loc) (ls : Array Slot), va_P g kcl (wC cI cJ cZ ad xst xse xre xgr ltm low lta llo lhi lmo rta ron rlo rhi rmo rin res rsi rli rar xgc xca xls xtl xno lco rwa rad rest) H → va_D A (wC cI cJ cZ ad xst xse xre xgr ltm low lta llo lhi lmo rta ron rlo rhi rmo rin res rsi rli rar xgc xca xls xtl xno lco rwa rad rest) → va_S A s.heap H locs → lv_has ls 11 [(8, .int o_v8)] → W p l e ({ frames := 1, cells := 0, slots := 0, locals := 21 }) s m args below meth c H locs 0 0 Q (F0 m 109 ls [])) → W p l e ({ frames := 1, cells := 0, slots := 0, locals := 21 }) s m args below meth c H locs 0 0 Q (F0 m 6 ls []) := by
  obtain ⟨hx, hb, hr, hml, hown, hts, hlocks, hK, hA, hE⟩ := id K
  intro n
  induction n with
  | zero =>
    intro v8 v9 o_v8 H locs ls hF
    rw [F_L_againstRange_L6] at hF
    cases hF
  | succ n ih =>
    intro v8 v9 o_v8 H locs ls hF hP hD hS hl hQ
    rw [F_L_againstRange_L6] at hF
    refine lv_iload hx hb d_L_againstRange_6 (lv_at hl 7 rfl) ?_
    refine lv_aload_n hx hb d_L_againstRange_8 rfl (lv_at hl 0 rfl) ?_
    refine va_get (D := g) (ci := 0) (v := .int lco) (C := kR0) (T := kT0) (N := 7) hx hb hts kw0 hown hK hP 1 rfl rfl 6 (by decide) (hts _ wm_84) (fun _ h9 => h9) rfl d_L_againstRange_9 ?_
    refine lv_icmp_ge (tgt := 109) hx hb d_L_againstRange_12 (by decide) (fun hc_1 => ?_) (fun hc_1 => ?_)
    · have hF := it_t hF hc_1
      cases hF
      exact hQ H locs ls hP hD hS (lv_sub hl [6] rfl)
    · have hF := it_f hF hc_1
      refine lv_aload_n hx hb d_L_againstRange_15 rfl (lv_at hl 0 rfl) ?_
      refine va_get (D := g) (ci := 0) (v := .ref (ad 9)) (C := kR0) (T := kT0) (N := 7) hx hb hts kw0 hown hK hP 1 rfl rfl 2 (by decide) (hts _ wm_80) (fun _ h9 => h9) rfl d_L_againstRange_16 ?_
      refine lv_iload hx hb d_L_againstRange_19 (lv_at hl 7 rfl) ?_
      obtain ⟨hg_2, hF⟩ := gd_inv hF
      refine va_iald hx hb hK hP 9 0 rfl rfl hg_2 d_L_againstRange_21 ?_
      refine lv_iload_n hx hb d_L_againstRange_22 rfl (lv_at hl 2 rfl) ?_
      obtain ⟨J56, eJ56, hF⟩ := jn1_inv hF
      have hJ56 : ∀ (s_3 : Int32) (H : Heap) (locs : List Loc) (ls : Array Slot), J56 s_3 = some o_v8 → va_P g kcl (wC cI cJ cZ ad xst xse xre xgr ltm low lta llo lhi lmo rta ron rlo rhi rmo rin res rsi rli rar xgc xca xls xtl xno lco rwa rad rest) H → va_D A (wC cI cJ cZ ad xst xse xre xgr ltm low lta llo lhi lmo rta ron rlo rhi rmo rin res rsi rli rar xgc xca xls xtl xno lco rwa rad rest) → va_S A s.heap H locs → lv_has ls 11 [(0, .ref (ad 1)), (1, .int v1), (2, .int v2), (3, .long v3), (5, .long v5), (7, .int v7), (8, .int v8), (9, .int v9)] → W p l e ({ frames := 1, cells := 0, slots := 0, locals := 21 }) s m args below meth c H locs 0 0 Q (F0 m 56 ls [.int s_3]) := by
        intro s_3 H locs ls hF hP hD hS hl
        rw [eJ56] at hF
        refine lv_istore (lv' := [(10, .int s_3), (0, .ref (ad 1)), (1, .int v1), (2, .int v2), (3, .long v3), (5, .long v5), (7, .int v7), (8, .int v8), (9, .int v9)]) hx hb d_L_againstRange_56 hl (by decide) rfl (fun ls hl => ?_)
        refine lv_iload hx hb d_L_againstRange_58 (lv_at hl 0 rfl) ?_
        refine lv_if_eq (tgt := 103) hx hb d_L_againstRange_60 (by decide) (fun hc_4 => ?_) (fun hc_4 => ?_)
        · have hF := it_t hF hc_4
          refine lv_iinc (v := v9 + 1) (lv' := [(9, .int (v9 + 1)), (10, .int s_3), (0, .ref (ad 1)), (1, .int v1), (2, .int v2), (3, .long v3), (5, .long v5), (7, .int v7), (8, .int v8)]) hx hb d_L_againstRange_103 hl (k := 8) rfl rfl (by decide) rfl (fun ls hl => ?_)
          refine lv_goto (tgt := 6) hx hb d_L_againstRange_106 (by decide) ?_
          exact ih _ _ _ H locs ls hF hP hD hS (lv_sub hl [2, 3, 4, 5, 6, 7, 8, 0] rfl) hQ
        · have hF := it_f hF hc_4
          refine lv_aload_n hx hb d_L_againstRange_63 rfl (lv_at hl 1 rfl) ?_
          refine va_get (D := g) (ci := 0) (v := .ref (ad 8)) (C := kR0) (T := kT0) (N := 7) hx hb hts kw0 hown hK hP 1 rfl rfl 1 (by decide) (hts _ wm_79) (fun _ h9 => h9) rfl d_L_againstRange_64 ?_
          refine lv_iload hx hb d_L_againstRange_67 (lv_at hl 8 rfl) ?_
          obtain ⟨hg_5, hF⟩ := gd_inv hF
          refine va_iald hx hb hK hP 8 0 rfl rfl hg_5 d_L_againstRange_69 ?_
          refine lv_iload_n hx hb d_L_againstRange_70 rfl (lv_at hl 2 rfl) ?_
          refine lv_icmp_eq (tgt := 103) hx hb d_L_againstRange_71 (by decide) (fun hc_6 => ?_) (fun hc_6 => ?_)
          · have hF := it_t hF hc_6
            refine lv_iinc (v := v9 + 1) (lv' := [(9, .int (v9 + 1)), (10, .int s_3), (0, .ref (ad 1)), (1, .int v1), (2, .int v2), (3, .long v3), (5, .long v5), (7, .int v7), (8, .int v8)]) hx hb d_L_againstRange_103 hl (k := 8) rfl rfl (by decide) rfl (fun ls hl => ?_)
            refine lv_goto (tgt := 6) hx hb d_L_againstRange_106 (by decide) ?_
            exact ih _ _ _ H locs ls hF hP hD hS (lv_sub hl [2, 3, 4, 5, 6, 7, 8, 0] rfl) hQ
          · have hF := it_f hF hc_6
            refine lv_aload_n hx hb d_L_againstRange_74 rfl (lv_at hl 1 rfl) ?_
            refine va_get (D := g) (ci := 0) (v := .ref (ad 12)) (C := kR0) (T := kT0) (N := 7) hx hb hts kw0 hown hK hP 1 rfl rfl 5 (by decide) (hts _ wm_83) (fun _ h9 => h9) rfl d_L_againstRange_75 ?_
            refine lv_iload hx hb d_L_againstRange_78 (lv_at hl 8 rfl) ?_
            obtain ⟨hg_7, hF⟩ := gd_inv hF
            refine va_iald hx hb hK hP 12 0 rfl rfl hg_7 d_L_againstRange_80 ?_
            refine lv_iload hx hb d_L_againstRange_81 (lv_at hl 6 rfl) ?_
            obtain ⟨r_8, hG, hF⟩ := ob1_inv hF
            refine ksi K hP hD hS (c_K_goTogether l g (kty cI cJ cZ) (wC cI cJ cZ ad xst xse xre xgr ltm low lta llo lhi lmo rta ron rlo rhi rmo rin res rsi rli rar xgc xca xls xtl xno lco rwa rad rest) (lmo v9.toNatClampNeg) v7 r_8 hG) wm_375 wm_373 wm_374 wm_56 hd_K_goTogether rfl rfl ⟨Nat.le_of_ble_eq_true rfl, Nat.le_of_ble_eq_true rfl⟩ ⟨Nat.zero_le _, Nat.zero_le _⟩ hl.1 (rest := []) rfl (Nat.le_of_ble_eq_true rfl) d_L_againstRange_83 (fun H locs hP hD hS => ?_)
            refine lv_if_ne (tgt := 103) hx hb d_L_againstRange_86 (by decide) (fun hc_9 => ?_) (fun hc_9 => ?_)
            · have hF := it_f hF hc_9
              refine lv_iinc (v := v9 + 1) (lv' := [(9, .int (v9 + 1)), (10, .int s_3), (0, .ref (ad 1)), (1, .int v1), (2, .int v2), (3, .long v3), (5, .long v5), (7, .int v7), (8, .int v8)]) hx hb d_L_againstRange_103 hl (k := 8) rfl rfl (by decide) rfl (fun ls hl => ?_)
              refine lv_goto (tgt := 6) hx hb d_L_againstRange_106 (by decide) ?_
              exact ih _ _ _ H locs ls hF hP hD hS (lv_sub hl [2, 3, 4, 5, 6, 7, 8, 0] rfl) hQ
            · have hF := it_t hF hc_9
              refine lv_iload hx hb d_L_againstRange_89 (lv_at hl 7 rfl) ?_
              refine lv_iconst (v := 1) hx hb d_L_againstRange_91 (by decide) ?_
              refine lv_aload_n hx hb d_L_againstRange_92 rfl (lv_at hl 1 rfl) ?_
              refine va_get (D := g) (ci := 0) (v := .ref (ad 8)) (C := kR0) (T := kT0) (N := 7) hx hb hts kw0 hown hK hP 1 rfl rfl 1 (by decide) (hts _ wm_79) (fun _ h9 => h9) rfl d_L_againstRange_93 ?_
              refine lv_iload hx hb d_L_againstRange_96 (lv_at hl 8 rfl) ?_
              obtain ⟨hg_10, hF⟩ := gd_inv hF
              refine va_iald hx hb hK hP 8 0 rfl rfl hg_10 d_L_againstRange_98 ?_
              refine lv_ishl hx hb d_L_againstRange_99 ?_
              refine lv_ior hx hb d_L_againstRange_100 ?_
              refine lv_istore (lv' := [(8, .int (v8 ||| (1 <<< ((low v9.toNatClampNeg) &&& 31)))), (10, .int s_3), (0, .ref (ad 1)), (1, .int v1), (2, .int v2), (3, .long v3), (5, .long v5), (7, .int v7), (9, .int v9)]) hx hb d_L_againstRange_101 hl (by decide) rfl (fun ls hl => ?_)
              refine lv_iinc (v := v9 + 1) (lv' := [(9, .int (v9 + 1)), (8, .int (v8 ||| (1 <<< ((low v9.toNatClampNeg) &&& 31)))), (10, .int s_3), (0, .ref (ad 1)), (1, .int v1), (2, .int v2), (3, .long v3), (5, .long v5), (7, .int v7)]) hx hb d_L_againstRange_103 hl (k := 8) rfl rfl (by decide) rfl (fun ls hl => ?_)
              refine lv_goto (tgt := 6) hx hb d_L_againstRange_106 (by decide) ?_
              exact ih _ _ _ H locs ls hF hP hD hS (lv_sub hl [3, 4, 5, 6, 7, 8, 1, 0] rfl) hQ
      obtain ⟨J55, eJ55, hF⟩ := jn0_inv hF
      have hJ55 : ∀  (H : Heap) (locs : List Loc) (ls : Array Slot), J55  = some o_v8 → va_P g kcl (wC cI cJ cZ ad xst xse xre xgr ltm low lta llo lhi lmo rta ron rlo rhi rmo rin res rsi rli rar xgc xca xls xtl xno lco rwa rad rest) H → va_D A (wC cI cJ cZ ad xst xse xre xgr ltm low lta llo lhi lmo rta ron rlo rhi rmo rin res rsi rli rar xgc xca xls xtl xno lco rwa rad rest) → va_S A s.heap H locs → lv_has ls 11 [(0, .ref (ad 1)), (1, .int v1), (2, .int v2), (3, .long v3), (5, .long v5), (7, .int v7), (8, .int v8), (9, .int v9)] → W p l e ({ frames := 1, cells := 0, slots := 0, locals := 21 }) s m args below meth c H locs 0 0 Q (F0 m 55 ls []) := by
        intro  H locs ls hF hP hD hS hl
        rw [eJ55] at hF
        refine lv_iconst (v := 0) hx hb d_L_againstRange_55 (by decide) ?_
        exact hJ56 _ H locs ls hF hP hD hS (lv_sub hl [0, 1, 2, 3, 4, 5, 6, 7] rfl)
      refine lv_icmp_ne (tgt := 55) hx hb d_L_againstRange_23 (by decide) (fun hc_11 => ?_) (fun hc_11 => ?_)
      · have hF := it_f hF hc_11
        exact hJ55  H locs ls hF hP hD hS (lv_sub hl [0, 1, 2, 3, 4, 5, 6, 7] rfl)
      · have hF := it_t hF hc_11
        refine lv_aload_n hx hb d_L_againstRange_26 rfl (lv_at hl 0 rfl) ?_
        refine va_get (D := g) (ci := 0) (v := .ref (ad 10)) (C := kR0) (T := kT0) (N := 7) hx hb hts kw0 hown hK hP 1 rfl rfl 3 (by decide) (hts _ wm_81) (fun _ h9 => h9) rfl d_L_againstRange_27 ?_
        refine lv_iload hx hb d_L_againstRange_30 (lv_at hl 7 rfl) ?_
        obtain ⟨hg_12, hF⟩ := gd_inv hF
        refine va_lald hx hb hK hP 10 1 rfl rfl hg_12 d_L_againstRange_32 ?_
        refine lv_lload hx hb d_L_againstRange_33 (lv_at hl 4 rfl) ?_
        refine W.lcmp hx hb d_L_againstRange_35 ?_
        refine lv_if_gt (tgt := 55) hx hb d_L_againstRange_36 (by decide) (fun hc_13 => ?_) (fun hc_13 => ?_)
        · have hF := it_t hF hc_13
          exact hJ55  H locs ls hF hP hD hS (lv_sub hl [0, 1, 2, 3, 4, 5, 6, 7] rfl)
        · have hF := it_f hF hc_13
          refine lv_lload_n hx hb d_L_againstRange_39 rfl (lv_at hl 3 rfl) ?_
          refine lv_aload_n hx hb d_L_againstRange_40 rfl (lv_at hl 0 rfl) ?_
          refine va_get (D := g) (ci := 0) (v := .ref (ad 11)) (C := kR0) (T := kT0) (N := 7) hx hb hts kw0 hown hK hP 1 rfl rfl 4 (by decide) (hts _ wm_82) (fun _ h9 => h9) rfl d_L_againstRange_41 ?_
          refine lv_iload hx hb d_L_againstRange_44 (lv_at hl 7 rfl) ?_
          obtain ⟨hg_14, hF⟩ := gd_inv hF
          refine va_lald hx hb hK hP 11 1 rfl rfl hg_14 d_L_againstRange_46 ?_
          refine W.lcmp hx hb d_L_againstRange_47 ?_
          refine lv_if_gt (tgt := 55) hx hb d_L_againstRange_48 (by decide) (fun hc_15 => ?_) (fun hc_15 => ?_)
          · have hF := it_t hF hc_15
            exact hJ55  H locs ls hF hP hD hS (lv_sub hl [0, 1, 2, 3, 4, 5, 6, 7] rfl)
          · have hF := it_f hF hc_15
            refine lv_iconst (v := 1) hx hb d_L_againstRange_51 (by decide) ?_
            refine lv_goto (tgt := 56) hx hb d_L_againstRange_52 (by decide) ?_
            exact hJ56 _ H locs ls hF hP hD hS (lv_sub hl [0, 1, 2, 3, 4, 5, 6, 7] rfl)
set_option maxHeartbeats 4000000 in
set_option maxRecDepth 100000 in
theorem t_L_againstRange {p : Program} {l : Launch} {e : Env} {s : State} {m : MethodId} {args : Array Value} {below : List Frame} {meth : Method} {c : Code} {A : Nat → Prop} {g : va_G} {cI cJ cZ : ClassId} {ad : Nat → Nat} {rest : va_W} (K : kX p s m args meth c "LockTable$Locks" prog_2_method_13_code 11 (some .int) A g (kty cI cJ cZ)) (xst : Nat → Int32) (xse : Nat → Int32) (xre : Nat → Int32) (xgr : Nat → Int32) (ltm : Nat → Int32) (low : Nat → Int32) (lta : Nat → Int32) (llo : Nat → Int64) (lhi : Nat → Int64) (lmo : Nat → Int32) (rta : Nat → Int32) (ron : Nat → Int32) (rlo : Nat → Int64) (rhi : Nat → Int64) (rmo : Nat → Int32) (rin : Nat → Int32) (res : Nat → Int32) (rsi : Nat → Int32) (rli : Nat → Int32) (rar : Nat → Int32) (xgc : Int32) (xca : Int32) (xls : Int32) (xtl : Int32) (xno : Int32) (lco : Int32) (rwa : Int32) (rad : Int32) (a1 : Int32) (a2 : Int32) (a3 : Int64) (a4 : Int64) (a5 : Int32) (r : Int32) (hF : F_L_againstRange low lta llo lhi lmo lco a1 a2 a3 a4 a5 = some r) {H : Heap} {locs : List Loc} {ls : Array Slot} (hP : va_P g kcl (wC cI cJ cZ ad xst xse xre xgr ltm low lta llo lhi lmo rta ron rlo rhi rmo rin res rsi rli rar xgc xca xls xtl xno lco rwa rad rest) H) (hD : va_D A (wC cI cJ cZ ad xst xse xre xgr ltm low lta llo lhi lmo rta ron rlo rhi rmo rin res rsi rli rar xgc xca xls xtl xno lco rwa rad rest)) (hS : va_S A s.heap H locs) (hl : lv_has ls 11 [(0, .ref (ad 1)), (1, .int a1), (2, .int a2), (3, .long a3), (5, .long a4), (7, .int a5)]) : W p l e ({ frames := 1, cells := 0, slots := 0, locals := 21 }) s m args below meth c H locs 0 0 (MQ below (kQi g (kty cI cJ cZ) (wC cI cJ cZ ad xst xse xre xgr ltm low lta llo lhi lmo rta ron rlo rhi rmo rin res rsi rli rar xgc xca xls xtl xno lco rwa rad rest) A r) args s 0 0 A) (F0 m 0 ls []) := by
  obtain ⟨hx, hb, hr, hml, hown, hts, hlocks, hK, hA, hE⟩ := id K
  unfold F_L_againstRange at hF
  refine lv_iconst (v := 0) hx hb d_L_againstRange_0 (by decide) ?_
  refine lv_istore (lv' := [(8, .int 0), (0, .ref (ad 1)), (1, .int a1), (2, .int a2), (3, .long a3), (5, .long a4), (7, .int a5)]) hx hb d_L_againstRange_1 hl (by decide) rfl (fun ls hl => ?_)
  refine lv_iconst (v := 0) hx hb d_L_againstRange_3 (by decide) ?_
  refine lv_istore (lv' := [(9, .int 0), (8, .int 0), (0, .ref (ad 1)), (1, .int a1), (2, .int a2), (3, .long a3), (5, .long a4), (7, .int a5)]) hx hb d_L_againstRange_4 hl (by decide) rfl (fun ls hl => ?_)
  obtain ⟨v8_16, hG, hF⟩ := ob1_inv hF
  refine t_L_againstRange_L6 K xst xse xre xgr ltm low lta llo lhi lmo rta ron rlo rhi rmo rin res rsi rli rar xgc xca xls xtl xno lco rwa rad a1 a2 a3 a4 a5 fu _ _ _ H locs ls hG hP hD hS (lv_sub hl [2, 3, 4, 5, 6, 7, 1, 0] rfl) (fun H locs ls hP hD hS hl => ?_)
  refine lv_iload hx hb d_L_againstRange_109 (lv_at hl 0 rfl) ?_
  cases hF
  exact kri K hP hD hS d_L_againstRange_111 rfl
theorem c_L_againstRange (l : Launch) (g : va_G) (cI cJ cZ : ClassId) (ad : Nat → Nat) (xst : Nat → Int32) (xse : Nat → Int32) (xre : Nat → Int32) (xgr : Nat → Int32) (ltm : Nat → Int32) (low : Nat → Int32) (lta : Nat → Int32) (llo : Nat → Int64) (lhi : Nat → Int64) (lmo : Nat → Int32) (rta : Nat → Int32) (ron : Nat → Int32) (rlo : Nat → Int64) (rhi : Nat → Int64) (rmo : Nat → Int32) (rin : Nat → Int32) (res : Nat → Int32) (rsi : Nat → Int32) (rli : Nat → Int32) (rar : Nat → Int32) (xgc : Int32) (xca : Int32) (xls : Int32) (xtl : Int32) (xno : Int32) (lco : Int32) (rwa : Int32) (rad : Int32) (rest : va_W) (a1 : Int32) (a2 : Int32) (a3 : Int64) (a4 : Int64) (a5 : Int32) (r : Int32) (hF : F_L_againstRange low lta llo lhi lmo lco a1 a2 a3 a4 a5 = some r) : Ci l y_L_againstRange prog_2_method_13_code 11 (some .int) ({ frames := 1, cells := 0, slots := 0, locals := 21 }) [.ref (ad 1), .int a1, .int a2, .long a3, .long a4, .int a5] g (kty cI cJ cZ) (wC cI cJ cZ ad xst xse xre xgr ltm low lta llo lhi lmo rta ron rlo rhi rmo rin res rsi rli rar xgc xca xls xtl xno lco rwa rad rest) (wC cI cJ cZ ad xst xse xre xgr ltm low lta llo lhi lmo rta ron rlo rhi rmo rin res rsi rli rar xgc xca xls xtl xno lco rwa rad rest) r :=
  Ci.of (by decide) (Nat.le_of_ble_eq_true rfl) (fun p e s m below meth c A ls K hP hD hS hl => t_L_againstRange K xst xse xre xgr ltm low lta llo lhi lmo rta ron rlo rhi rmo rin res rsi rli rar xgc xca xls xtl xno lco rwa rad a1 a2 a3 a4 a5 r hF hP hD hS hl)
def F_L_dropRanges_L7 (v1 : Int32) (v2 : Int32) : Nat → (Nat → Int32) → (Nat → Int32) → (Nat → Int64) → (Nat → Int64) → (Nat → Int32) → Int32 → Int32 → Option ((Nat → Int32) × (Nat → Int32) × (Nat → Int64) × (Nat → Int64) × (Nat → Int32) × Int32)
  | 0, _, _, _, _, _, _, _ => none
  | n + 1, low, lta, llo, lhi, lmo, lco, v3 => if v3 < 0 then some (low, lta, llo, lhi, lmo, lco) else ob1 (F_L_isOn low lta v3 v1 v2) (fun r_2 => if r_2 = 0 then F_L_dropRanges_L7 v1 v2 n low lta llo lhi lmo lco (v3 + (-1)) else ob6 (F_L_dropRow low lta llo lhi lmo lco v3) (fun low_4 lta_5 llo_6 lhi_7 lmo_8 lco_9 => F_L_dropRanges_L7 v1 v2 n low_4 lta_5 llo_6 lhi_7 lmo_8 lco_9 (v3 + (-1))))
def F_L_dropRanges (low : Nat → Int32) (lta : Nat → Int32) (llo : Nat → Int64) (lhi : Nat → Int64) (lmo : Nat → Int32) (lco : Int32) (a1 : Int32) (a2 : Int32) : Option ((Nat → Int32) × (Nat → Int32) × (Nat → Int64) × (Nat → Int64) × (Nat → Int32) × Int32) :=
  ob6 (F_L_dropRanges_L7 a1 a2 fu low lta llo lhi lmo lco (lco - 1)) (fun low_10 lta_11 llo_12 lhi_13 lmo_14 lco_15 => some (low_10, lta_11, llo_12, lhi_13, lmo_14, lco_15))
set_option maxHeartbeats 4000000 in
set_option maxRecDepth 100000 in
theorem t_L_dropRanges_L7 {p : Program} {l : Launch} {e : Env} {s : State} {m : MethodId} {args : Array Value} {below : List Frame} {meth : Method} {c : Code} {A : Nat → Prop} {g : va_G} {cI cJ cZ : ClassId} {ad : Nat → Nat} {rest : va_W} (K : kX p s m args meth c "LockTable$Locks" prog_2_method_14_code 4 none A g (kty cI cJ cZ)) {Q : State → Prop} (xst : Nat → Int32) (xse : Nat → Int32) (xre : Nat → Int32) (xgr : Nat → Int32) (ltm : Nat → Int32) (rta : Nat → Int32) (ron : Nat → Int32) (rlo : Nat → Int64) (rhi : Nat → Int64) (rmo : Nat → Int32) (rin : Nat → Int32) (res : Nat → Int32) (rsi : Nat → Int32) (rli : Nat → Int32) (rar : Nat → Int32) (xgc : Int32) (xca : Int32) (xls : Int32) (xtl : Int32) (xno : Int32) (rwa : Int32) (rad : Int32) (v1 : Int32) (v2 : Int32) : ∀ (n : Nat) (low : Nat → Int32) (lta : Nat → Int32) (llo : Nat → Int64) (lhi : Nat → Int64) (lmo : Nat → Int32) (lco : Int32) (v3 : Int32) (o_low : Nat → Int32) (o_lta : Nat → Int32) (o_llo : Nat → Int64) (o_lhi : Nat → Int64) (o_lmo : Nat → Int32) (o_lco : Int32) (H : Heap) (locs : List Loc) (ls : Array Slot), F_L_dropRanges_L7 v1 v2 n low lta llo lhi lmo lco v3 = some (o_low, o_lta, o_llo, o_lhi, o_lmo, o_lco) → va_P g kcl (wC cI cJ cZ ad xst xse xre xgr ltm low lta llo lhi lmo rta ron rlo rhi rmo rin res rsi rli rar xgc xca xls xtl xno lco rwa rad rest) H → va_D A (wC cI cJ cZ ad xst xse xre xgr ltm low lta llo lhi lmo rta ron rlo rhi rmo rin res rsi rli rar xgc xca xls xtl xno lco rwa rad rest) → va_S A s.heap H locs → lv_has ls 4 [(0, .ref (ad 1)), (1, .int v1), (2, .int v2), (3, .int v3)] → (∀ (H : Heap) (locs : List Loc) (ls : Array Slot), va_P g kcl (wC cI cJ cZ ad xst xse xre xgr ltm o_low o_lta o_llo o_lhi o_lmo rta ron rlo rhi rmo rin res rsi rli rar xgc xca xls xtl xno o_lco rwa rad rest) H → va_D A (wC cI cJ cZ ad xst xse xre xgr ltm o_low o_lta o_llo o_lhi o_lmo rta ron rlo rhi rmo rin res rsi rli rar xgc xca xls xtl xno o_lco rwa rad rest) → va_S A s.heap H locs → lv_has ls 4 [] → W p l e ({ frames := 1, cells := 0, slots := 0, locals := 23 }) s m args below meth c H locs 0 0 Q (F0 m 32 ls [])) → W p l e ({ frames := 1, cells := 0, slots := 0, locals := 23 }) s m args below meth c H locs 0 0 Q (F0 m 7 ls []) := by
  obtain ⟨hx, hb, hr, hml, hown, hts, hlocks, hK, hA, hE⟩ := id K
  intro n
  induction n with
  | zero =>
    intro low lta llo lhi lmo lco v3 o_low o_lta o_llo o_lhi o_lmo o_lco H locs ls hF
    rw [F_L_dropRanges_L7] at hF
    cases hF
  | succ n ih =>
    intro low lta llo lhi lmo lco v3 o_low o_lta o_llo o_lhi o_lmo o_lco H locs ls hF hP hD hS hl hQ
    rw [F_L_dropRanges_L7] at hF
    refine lv_iload_n hx hb d_L_dropRanges_7 rfl (lv_at hl 3 rfl) ?_
    refine lv_if_lt (tgt := 32) hx hb d_L_dropRanges_8 (by decide) (fun hc_1 => ?_) (fun hc_1 => ?_)
    · have hF := it_t hF hc_1
      cases hF
      exact hQ H locs ls hP hD hS (lv_sub hl [] rfl)
    · have hF := it_f hF hc_1
      refine lv_aload_n hx hb d_L_dropRanges_11 rfl (lv_at hl 0 rfl) ?_
      refine lv_iload_n hx hb d_L_dropRanges_12 rfl (lv_at hl 3 rfl) ?_
      refine lv_iload_n hx hb d_L_dropRanges_13 rfl (lv_at hl 1 rfl) ?_
      refine lv_iload_n hx hb d_L_dropRanges_14 rfl (lv_at hl 2 rfl) ?_
      obtain ⟨r_2, hG, hF⟩ := ob1_inv hF
      refine kci K hP hD hS (c_L_isOn l g cI cJ cZ ad xst xse xre xgr ltm low lta llo lhi lmo rta ron rlo rhi rmo rin res rsi rli rar xgc xca xls xtl xno lco rwa rad rest v3 v1 v2 r_2 hG) wm_413 wm_410 wm_412 wm_9 wm_48 hd_L_isOn rfl rfl ⟨Nat.le_of_ble_eq_true rfl, Nat.le_of_ble_eq_true rfl⟩ ⟨Nat.zero_le _, Nat.zero_le _⟩ 0 1 rfl rfl rfl hl.1 (rest := []) rfl (Nat.le_of_ble_eq_true rfl) d_L_dropRanges_15 (fun H locs hP hD hS => ?_)
      refine lv_if_eq (tgt := 26) hx hb d_L_dropRanges_18 (by decide) (fun hc_3 => ?_) (fun hc_3 => ?_)
      · have hF := it_t hF hc_3
        refine lv_iinc (v := v3 + (-1)) (lv' := [(3, .int (v3 + (-1))), (0, .ref (ad 1)), (1, .int v1), (2, .int v2)]) hx hb d_L_dropRanges_26 hl (k := 3) rfl rfl (by decide) rfl (fun ls hl => ?_)
        refine lv_goto (tgt := 7) hx hb d_L_dropRanges_29 (by decide) ?_
        exact ih _ _ _ _ _ _ _ _ _ _ _ _ _ H locs ls hF hP hD hS (lv_sub hl [1, 2, 3, 0] rfl) hQ
      · have hF := it_f hF hc_3
        refine lv_aload_n hx hb d_L_dropRanges_21 rfl (lv_at hl 0 rfl) ?_
        refine lv_iload_n hx hb d_L_dropRanges_22 rfl (lv_at hl 3 rfl) ?_
        obtain ⟨low_4, lta_5, llo_6, lhi_7, lmo_8, lco_9, hG, hF⟩ := ob6_inv hF
        refine kcv K hP hD hS (c_L_dropRow l g cI cJ cZ ad xst xse xre xgr ltm low lta llo lhi lmo rta ron rlo rhi rmo rin res rsi rli rar xgc xca xls xtl xno lco rwa rad rest v3 low_4 lta_5 llo_6 lhi_7 lmo_8 lco_9 hG) wm_417 wm_414 wm_416 wm_10 wm_48 hd_L_dropRow rfl rfl ⟨Nat.le_of_ble_eq_true rfl, Nat.le_of_ble_eq_true rfl⟩ ⟨Nat.zero_le _, Nat.zero_le _⟩ 0 1 rfl rfl rfl hl.1 (rest := []) rfl (Nat.le_of_ble_eq_true rfl) d_L_dropRanges_23 (fun H locs hP hD hS => ?_)
        refine lv_iinc (v := v3 + (-1)) (lv' := [(3, .int (v3 + (-1))), (0, .ref (ad 1)), (1, .int v1), (2, .int v2)]) hx hb d_L_dropRanges_26 hl (k := 3) rfl rfl (by decide) rfl (fun ls hl => ?_)
        refine lv_goto (tgt := 7) hx hb d_L_dropRanges_29 (by decide) ?_
        exact ih _ _ _ _ _ _ _ _ _ _ _ _ _ H locs ls hF hP hD hS (lv_sub hl [1, 2, 3, 0] rfl) hQ
set_option maxHeartbeats 4000000 in
set_option maxRecDepth 100000 in
theorem t_L_dropRanges {p : Program} {l : Launch} {e : Env} {s : State} {m : MethodId} {args : Array Value} {below : List Frame} {meth : Method} {c : Code} {A : Nat → Prop} {g : va_G} {cI cJ cZ : ClassId} {ad : Nat → Nat} {rest : va_W} (K : kX p s m args meth c "LockTable$Locks" prog_2_method_14_code 4 none A g (kty cI cJ cZ)) (xst : Nat → Int32) (xse : Nat → Int32) (xre : Nat → Int32) (xgr : Nat → Int32) (ltm : Nat → Int32) (low : Nat → Int32) (lta : Nat → Int32) (llo : Nat → Int64) (lhi : Nat → Int64) (lmo : Nat → Int32) (rta : Nat → Int32) (ron : Nat → Int32) (rlo : Nat → Int64) (rhi : Nat → Int64) (rmo : Nat → Int32) (rin : Nat → Int32) (res : Nat → Int32) (rsi : Nat → Int32) (rli : Nat → Int32) (rar : Nat → Int32) (xgc : Int32) (xca : Int32) (xls : Int32) (xtl : Int32) (xno : Int32) (lco : Int32) (rwa : Int32) (rad : Int32) (a1 : Int32) (a2 : Int32) (o_low : Nat → Int32) (o_lta : Nat → Int32) (o_llo : Nat → Int64) (o_lhi : Nat → Int64) (o_lmo : Nat → Int32) (o_lco : Int32) (hF : F_L_dropRanges low lta llo lhi lmo lco a1 a2 = some (o_low, o_lta, o_llo, o_lhi, o_lmo, o_lco)) {H : Heap} {locs : List Loc} {ls : Array Slot} (hP : va_P g kcl (wC cI cJ cZ ad xst xse xre xgr ltm low lta llo lhi lmo rta ron rlo rhi rmo rin res rsi rli rar xgc xca xls xtl xno lco rwa rad rest) H) (hD : va_D A (wC cI cJ cZ ad xst xse xre xgr ltm low lta llo lhi lmo rta ron rlo rhi rmo rin res rsi rli rar xgc xca xls xtl xno lco rwa rad rest)) (hS : va_S A s.heap H locs) (hl : lv_has ls 4 [(0, .ref (ad 1)), (1, .int a1), (2, .int a2)]) : W p l e ({ frames := 1, cells := 0, slots := 0, locals := 23 }) s m args below meth c H locs 0 0 (MQ below (kQv g (kty cI cJ cZ) (wC cI cJ cZ ad xst xse xre xgr ltm o_low o_lta o_llo o_lhi o_lmo rta ron rlo rhi rmo rin res rsi rli rar xgc xca xls xtl xno o_lco rwa rad rest) A) args s 0 0 A) (F0 m 0 ls []) := by
  obtain ⟨hx, hb, hr, hml, hown, hts, hlocks, hK, hA, hE⟩ := id K
  unfold F_L_dropRanges at hF
  refine lv_aload_n hx hb d_L_dropRanges_0 rfl (lv_at hl 0 rfl) ?_
  refine va_get (D := g) (ci := 0) (v := .int lco) (C := kR0) (T := kT0) (N := 7) hx hb hts kw0 hown hK hP 1 rfl rfl 6 (by decide) (hts _ wm_84) (fun _ h9 => h9) rfl d_L_dropRanges_1 ?_
  refine lv_iconst (v := 1) hx hb d_L_dropRanges_4 (by decide) ?_
  refine lv_isub hx hb d_L_dropRanges_5 ?_
  refine lv_istore_n (lv' := [(3, .int (lco - 1)), (0, .ref (ad 1)), (1, .int a1), (2, .int a2)]) hx hb d_L_dropRanges_6 rfl hl (by decide) rfl (fun ls hl => ?_)
  obtain ⟨low_10, lta_11, llo_12, lhi_13, lmo_14, lco_15, hG, hF⟩ := ob6_inv hF
  refine t_L_dropRanges_L7 K xst xse xre xgr ltm rta ron rlo rhi rmo rin res rsi rli rar xgc xca xls xtl xno rwa rad a1 a2 fu _ _ _ _ _ _ _ _ _ _ _ _ _ H locs ls hG hP hD hS (lv_sub hl [1, 2, 3, 0] rfl) (fun H locs ls hP hD hS hl => ?_)
  cases hF
  exact krv K hP hD hS d_L_dropRanges_32
theorem c_L_dropRanges (l : Launch) (g : va_G) (cI cJ cZ : ClassId) (ad : Nat → Nat) (xst : Nat → Int32) (xse : Nat → Int32) (xre : Nat → Int32) (xgr : Nat → Int32) (ltm : Nat → Int32) (low : Nat → Int32) (lta : Nat → Int32) (llo : Nat → Int64) (lhi : Nat → Int64) (lmo : Nat → Int32) (rta : Nat → Int32) (ron : Nat → Int32) (rlo : Nat → Int64) (rhi : Nat → Int64) (rmo : Nat → Int32) (rin : Nat → Int32) (res : Nat → Int32) (rsi : Nat → Int32) (rli : Nat → Int32) (rar : Nat → Int32) (xgc : Int32) (xca : Int32) (xls : Int32) (xtl : Int32) (xno : Int32) (lco : Int32) (rwa : Int32) (rad : Int32) (rest : va_W) (a1 : Int32) (a2 : Int32) (o_low : Nat → Int32) (o_lta : Nat → Int32) (o_llo : Nat → Int64) (o_lhi : Nat → Int64) (o_lmo : Nat → Int32) (o_lco : Int32) (hF : F_L_dropRanges low lta llo lhi lmo lco a1 a2 = some (o_low, o_lta, o_llo, o_lhi, o_lmo, o_lco)) : Cv l y_L_dropRanges prog_2_method_14_code 4 ({ frames := 1, cells := 0, slots := 0, locals := 23 }) [.ref (ad 1), .int a1, .int a2] g (kty cI cJ cZ) (wC cI cJ cZ ad xst xse xre xgr ltm low lta llo lhi lmo rta ron rlo rhi rmo rin res rsi rli rar xgc xca xls xtl xno lco rwa rad rest) (wC cI cJ cZ ad xst xse xre xgr ltm o_low o_lta o_llo o_lhi o_lmo rta ron rlo rhi rmo rin res rsi rli rar xgc xca xls xtl xno o_lco rwa rad rest) :=
  Cv.of (by decide) (Nat.le_of_ble_eq_true rfl) (fun p e s m below meth c A ls K hP hD hS hl => t_L_dropRanges K xst xse xre xgr ltm low lta llo lhi lmo rta ron rlo rhi rmo rin res rsi rli rar xgc xca xls xtl xno lco rwa rad a1 a2 o_low o_lta o_llo o_lhi o_lmo o_lco hF hP hD hS hl)
def F_L_dropReading_L2 (v1 : Int32) : Nat → (Nat → Int32) → Int32 → Option ((Nat → Int32))
  | 0, _, _ => none
  | n + 1, ltm, v2 => if 16 ≤ v2 then some ltm else ob1 (F_L_heldMode ltm v1 v2) (fun r_2 => if r_2 = 3 then ob1 (F_L_setTable ltm v1 v2 1) (fun ltm_7 => F_L_dropReading_L2 v1 n ltm_7 (v2 + 1)) else ob1 (F_K_isReading r_2) (fun r_4 => if r_4 = 0 then F_L_dropReading_L2 v1 n ltm (v2 + 1) else ob1 (F_L_setTable ltm v1 v2 (-1)) (fun ltm_6 => F_L_dropReading_L2 v1 n ltm_6 (v2 + 1))))
def F_L_dropReading_L57 (v1 : Int32) : Nat → (Nat → Int32) → (Nat → Int32) → (Nat → Int64) → (Nat → Int64) → (Nat → Int32) → Int32 → Int32 → Option ((Nat → Int32) × (Nat → Int32) × (Nat → Int64) × (Nat → Int64) × (Nat → Int32) × Int32)
  | 0, _, _, _, _, _, _, _ => none
  | n + 1, low, lta, llo, lhi, lmo, lco, v2 => if v2 < 0 then some (low, lta, llo, lhi, lmo, lco) else gd (v2 < 0 ∨ 256 ≤ v2.toNatClampNeg) (if (low v2.toNatClampNeg) = v1 then gd (v2 < 0 ∨ 256 ≤ v2.toNatClampNeg) (ob1 (F_K_isReading (lmo v2.toNatClampNeg)) (fun r_13 => if r_13 = 0 then F_L_dropReading_L57 v1 n low lta llo lhi lmo lco (v2 + (-1)) else ob6 (F_L_dropRow low lta llo lhi lmo lco v2) (fun low_15 lta_16 llo_17 lhi_18 lmo_19 lco_20 => F_L_dropReading_L57 v1 n low_15 lta_16 llo_17 lhi_18 lmo_19 lco_20 (v2 + (-1))))) else F_L_dropReading_L57 v1 n low lta llo lhi lmo lco (v2 + (-1)))
def F_L_dropReading (ltm : Nat → Int32) (low : Nat → Int32) (lta : Nat → Int32) (llo : Nat → Int64) (lhi : Nat → Int64) (lmo : Nat → Int32) (lco : Int32) (a1 : Int32) : Option ((Nat → Int32) × (Nat → Int32) × (Nat → Int32) × (Nat → Int64) × (Nat → Int64) × (Nat → Int32) × Int32) :=
  ob1 (F_L_dropReading_L2 a1 fu ltm 0) (fun ltm_8 => ob6 (F_L_dropReading_L57 a1 fu low lta llo lhi lmo lco (lco - 1)) (fun low_21 lta_22 llo_23 lhi_24 lmo_25 lco_26 => some (ltm_8, low_21, lta_22, llo_23, lhi_24, lmo_25, lco_26)))
set_option maxHeartbeats 4000000 in
set_option maxRecDepth 100000 in
theorem t_L_dropReading_L2 {p : Program} {l : Launch} {e : Env} {s : State} {m : MethodId} {args : Array Value} {below : List Frame} {meth : Method} {c : Code} {A : Nat → Prop} {g : va_G} {cI cJ cZ : ClassId} {ad : Nat → Nat} {rest : va_W} (K : kX p s m args meth c "LockTable$Locks" prog_2_method_15_code 4 none A g (kty cI cJ cZ)) {Q : State → Prop} (xst : Nat → Int32) (xse : Nat → Int32) (xre : Nat → Int32) (xgr : Nat → Int32) (low : Nat → Int32) (lta : Nat → Int32) (llo : Nat → Int64) (lhi : Nat → Int64) (lmo : Nat → Int32) (rta : Nat → Int32) (ron : Nat → Int32) (rlo : Nat → Int64) (rhi : Nat → Int64) (rmo : Nat → Int32) (rin : Nat → Int32) (res : Nat → Int32) (rsi : Nat → Int32) (rli : Nat → Int32) (rar : Nat → Int32) (xgc : Int32) (xca : Int32) (xls : Int32) (xtl : Int32) (xno : Int32) (lco : Int32) (rwa : Int32) (rad : Int32) (v1 : Int32) : ∀ (n : Nat) (ltm : Nat → Int32) (v2 : Int32) (o_ltm : Nat → Int32) (H : Heap) (locs : List Loc) (ls : Array Slot), F_L_dropReading_L2 v1 n ltm v2 = some o_ltm → va_P g kcl (wC cI cJ cZ ad xst xse xre xgr ltm low lta llo lhi lmo rta ron rlo rhi rmo rin res rsi rli rar xgc xca xls xtl xno lco rwa rad rest) H → va_D A (wC cI cJ cZ ad xst xse xre xgr ltm low lta llo lhi lmo rta ron rlo rhi rmo rin res rsi rli rar xgc xca xls xtl xno lco rwa rad rest) → va_S A s.heap H locs → lv_has ls 4 [(0, .ref (ad 1)), (1, .int v1), (2, .int v2)] → (∀ (H : Heap) (locs : List Loc) (ls : Array Slot), va_P g kcl (wC cI cJ cZ ad xst xse xre xgr o_ltm low lta llo lhi lmo rta ron rlo rhi rmo rin res rsi rli rar xgc xca xls xtl xno lco rwa rad rest) H → va_D A (wC cI cJ cZ ad xst xse xre xgr o_ltm low lta llo lhi lmo rta ron rlo rhi rmo rin res rsi rli rar xgc xca xls xtl xno lco rwa rad rest) → va_S A s.heap H locs → lv_has ls 4 [(0, .ref (ad 1)), (1, .int v1)] → W p l e ({ frames := 1, cells := 0, slots := 0, locals := 23 }) s m args below meth c H locs 0 0 Q (F0 m 50 ls [])) → W p l e ({ frames := 1, cells := 0, slots := 0, locals := 23 }) s m args below meth c H locs 0 0 Q (F0 m 2 ls []) := by
  obtain ⟨hx, hb, hr, hml, hown, hts, hlocks, hK, hA, hE⟩ := id K
  intro n
  induction n with
  | zero =>
    intro ltm v2 o_ltm H locs ls hF
    rw [F_L_dropReading_L2] at hF
    cases hF
  | succ n ih =>
    intro ltm v2 o_ltm H locs ls hF hP hD hS hl hQ
    rw [F_L_dropReading_L2] at hF
    refine lv_iload_n hx hb d_L_dropReading_2 rfl (lv_at hl 2 rfl) ?_
    refine lv_bipush (v := 16) hx hb d_L_dropReading_3 (by decide) ?_
    refine lv_icmp_ge (tgt := 50) hx hb d_L_dropReading_5 (by decide) (fun hc_1 => ?_) (fun hc_1 => ?_)
    · have hF := it_t hF hc_1
      cases hF
      exact hQ H locs ls hP hD hS (lv_sub hl [0, 1] rfl)
    · have hF := it_f hF hc_1
      refine lv_aload_n hx hb d_L_dropReading_8 rfl (lv_at hl 0 rfl) ?_
      refine lv_iload_n hx hb d_L_dropReading_9 rfl (lv_at hl 1 rfl) ?_
      refine lv_iload_n hx hb d_L_dropReading_10 rfl (lv_at hl 2 rfl) ?_
      obtain ⟨r_2, hG, hF⟩ := ob1_inv hF
      refine kci K hP hD hS (c_L_heldMode l g cI cJ cZ ad xst xse xre xgr ltm low lta llo lhi lmo rta ron rlo rhi rmo rin res rsi rli rar xgc xca xls xtl xno lco rwa rad rest v1 v2 r_2 hG) wm_329 wm_380 wm_327 wm_328 wm_48 hd_L_heldMode rfl rfl ⟨Nat.le_of_ble_eq_true rfl, Nat.le_of_ble_eq_true rfl⟩ ⟨Nat.zero_le _, Nat.zero_le _⟩ 0 1 rfl rfl rfl hl.1 (rest := []) rfl (Nat.le_of_ble_eq_true rfl) d_L_dropReading_11 (fun H locs hP hD hS => ?_)
      refine lv_istore_n (lv' := [(3, .int r_2), (0, .ref (ad 1)), (1, .int v1), (2, .int v2)]) hx hb d_L_dropReading_14 rfl hl (by decide) rfl (fun ls hl => ?_)
      refine lv_iload_n hx hb d_L_dropReading_15 rfl (lv_at hl 0 rfl) ?_
      refine lv_iconst (v := 3) hx hb d_L_dropReading_16 (by decide) ?_
      refine lv_icmp_ne (tgt := 30) hx hb d_L_dropReading_17 (by decide) (fun hc_3 => ?_) (fun hc_3 => ?_)
      · have hF := it_f hF hc_3
        refine lv_iload_n hx hb d_L_dropReading_30 rfl (lv_at hl 0 rfl) ?_
        obtain ⟨r_4, hG, hF⟩ := ob1_inv hF
        refine ksi K hP hD hS (c_K_isReading l g (kty cI cJ cZ) (wC cI cJ cZ ad xst xse xre xgr ltm low lta llo lhi lmo rta ron rlo rhi rmo rin res rsi rli rar xgc xca xls xtl xno lco rwa rad rest) r_2 r_4 hG) wm_550 wm_548 wm_549 wm_56 hd_K_isReading rfl rfl ⟨Nat.le_of_ble_eq_true rfl, Nat.le_of_ble_eq_true rfl⟩ ⟨Nat.zero_le _, Nat.zero_le _⟩ hl.1 (rest := []) rfl (Nat.le_of_ble_eq_true rfl) d_L_dropReading_31 (fun H locs hP hD hS => ?_)
        refine lv_if_eq (tgt := 44) hx hb d_L_dropReading_34 (by decide) (fun hc_5 => ?_) (fun hc_5 => ?_)
        · have hF := it_t hF hc_5
          refine lv_iinc (v := v2 + 1) (lv' := [(2, .int (v2 + 1)), (3, .int r_2), (0, .ref (ad 1)), (1, .int v1)]) hx hb d_L_dropReading_44 hl (k := 3) rfl rfl (by decide) rfl (fun ls hl => ?_)
          refine lv_goto (tgt := 2) hx hb d_L_dropReading_47 (by decide) ?_
          exact ih _ _ _ H locs ls hF hP hD hS (lv_sub hl [2, 3, 0] rfl) hQ
        · have hF := it_f hF hc_5
          refine lv_aload_n hx hb d_L_dropReading_37 rfl (lv_at hl 1 rfl) ?_
          refine lv_iload_n hx hb d_L_dropReading_38 rfl (lv_at hl 2 rfl) ?_
          refine lv_iload_n hx hb d_L_dropReading_39 rfl (lv_at hl 3 rfl) ?_
          refine lv_iconst (v := (-1)) hx hb d_L_dropReading_40 (by decide) ?_
          obtain ⟨ltm_6, hG, hF⟩ := ob1_inv hF
          refine kcv K hP hD hS (c_L_setTable l g cI cJ cZ ad xst xse xre xgr ltm low lta llo lhi lmo rta ron rlo rhi rmo rin res rsi rli rar xgc xca xls xtl xno lco rwa rad rest v1 v2 (-1) ltm_6 hG) wm_405 wm_547 wm_403 wm_404 wm_48 hd_L_setTable rfl rfl ⟨Nat.le_of_ble_eq_true rfl, Nat.le_of_ble_eq_true rfl⟩ ⟨Nat.zero_le _, Nat.zero_le _⟩ 0 1 rfl rfl rfl hl.1 (rest := []) rfl (Nat.le_of_ble_eq_true rfl) d_L_dropReading_41 (fun H locs hP hD hS => ?_)
          refine lv_iinc (v := v2 + 1) (lv' := [(2, .int (v2 + 1)), (3, .int r_2), (0, .ref (ad 1)), (1, .int v1)]) hx hb d_L_dropReading_44 hl (k := 3) rfl rfl (by decide) rfl (fun ls hl => ?_)
          refine lv_goto (tgt := 2) hx hb d_L_dropReading_47 (by decide) ?_
          exact ih _ _ _ H locs ls hF hP hD hS (lv_sub hl [2, 3, 0] rfl) hQ
      · have hF := it_t hF hc_3
        refine lv_aload_n hx hb d_L_dropReading_20 rfl (lv_at hl 1 rfl) ?_
        refine lv_iload_n hx hb d_L_dropReading_21 rfl (lv_at hl 2 rfl) ?_
        refine lv_iload_n hx hb d_L_dropReading_22 rfl (lv_at hl 3 rfl) ?_
        refine lv_iconst (v := 1) hx hb d_L_dropReading_23 (by decide) ?_
        obtain ⟨ltm_7, hG, hF⟩ := ob1_inv hF
        refine kcv K hP hD hS (c_L_setTable l g cI cJ cZ ad xst xse xre xgr ltm low lta llo lhi lmo rta ron rlo rhi rmo rin res rsi rli rar xgc xca xls xtl xno lco rwa rad rest v1 v2 1 ltm_7 hG) wm_405 wm_547 wm_403 wm_404 wm_48 hd_L_setTable rfl rfl ⟨Nat.le_of_ble_eq_true rfl, Nat.le_of_ble_eq_true rfl⟩ ⟨Nat.zero_le _, Nat.zero_le _⟩ 0 1 rfl rfl rfl hl.1 (rest := []) rfl (Nat.le_of_ble_eq_true rfl) d_L_dropReading_24 (fun H locs hP hD hS => ?_)
        refine lv_goto (tgt := 44) hx hb d_L_dropReading_27 (by decide) ?_
        refine lv_iinc (v := v2 + 1) (lv' := [(2, .int (v2 + 1)), (3, .int r_2), (0, .ref (ad 1)), (1, .int v1)]) hx hb d_L_dropReading_44 hl (k := 3) rfl rfl (by decide) rfl (fun ls hl => ?_)
        refine lv_goto (tgt := 2) hx hb d_L_dropReading_47 (by decide) ?_
        exact ih _ _ _ H locs ls hF hP hD hS (lv_sub hl [2, 3, 0] rfl) hQ
set_option maxHeartbeats 4000000 in
set_option maxRecDepth 100000 in
theorem t_L_dropReading_L57 {p : Program} {l : Launch} {e : Env} {s : State} {m : MethodId} {args : Array Value} {below : List Frame} {meth : Method} {c : Code} {A : Nat → Prop} {g : va_G} {cI cJ cZ : ClassId} {ad : Nat → Nat} {rest : va_W} (K : kX p s m args meth c "LockTable$Locks" prog_2_method_15_code 4 none A g (kty cI cJ cZ)) {Q : State → Prop} (xst : Nat → Int32) (xse : Nat → Int32) (xre : Nat → Int32) (xgr : Nat → Int32) (ltm : Nat → Int32) (rta : Nat → Int32) (ron : Nat → Int32) (rlo : Nat → Int64) (rhi : Nat → Int64) (rmo : Nat → Int32) (rin : Nat → Int32) (res : Nat → Int32) (rsi : Nat → Int32) (rli : Nat → Int32) (rar : Nat → Int32) (xgc : Int32) (xca : Int32) (xls : Int32) (xtl : Int32) (xno : Int32) (rwa : Int32) (rad : Int32) (v1 : Int32) : ∀ (n : Nat) (low : Nat → Int32) (lta : Nat → Int32) (llo : Nat → Int64) (lhi : Nat → Int64) (lmo : Nat → Int32) (lco : Int32) (v2 : Int32) (o_low : Nat → Int32) (o_lta : Nat → Int32) (o_llo : Nat → Int64) (o_lhi : Nat → Int64) (o_lmo : Nat → Int32) (o_lco : Int32) (H : Heap) (locs : List Loc) (ls : Array Slot), F_L_dropReading_L57 v1 n low lta llo lhi lmo lco v2 = some (o_low, o_lta, o_llo, o_lhi, o_lmo, o_lco) → va_P g kcl (wC cI cJ cZ ad xst xse xre xgr ltm low lta llo lhi lmo rta ron rlo rhi rmo rin res rsi rli rar xgc xca xls xtl xno lco rwa rad rest) H → va_D A (wC cI cJ cZ ad xst xse xre xgr ltm low lta llo lhi lmo rta ron rlo rhi rmo rin res rsi rli rar xgc xca xls xtl xno lco rwa rad rest) → va_S A s.heap H locs → lv_has ls 4 [(0, .ref (ad 1)), (1, .int v1), (2, .int v2)] → (∀ (H : Heap) (locs : List Loc) (ls : Array Slot), va_P g kcl (wC cI cJ cZ ad xst xse xre xgr ltm o_low o_lta o_llo o_lhi o_lmo rta ron rlo rhi rmo rin res rsi rli rar xgc xca xls xtl xno o_lco rwa rad rest) H → va_D A (wC cI cJ cZ ad xst xse xre xgr ltm o_low o_lta o_llo o_lhi o_lmo rta ron rlo rhi rmo rin res rsi rli rar xgc xca xls xtl xno o_lco rwa rad rest) → va_S A s.heap H locs → lv_has ls 4 [] → W p l e ({ frames := 1, cells := 0, slots := 0, locals := 23 }) s m args below meth c H locs 0 0 Q (F0 m 94 ls [])) → W p l e ({ frames := 1, cells := 0, slots := 0, locals := 23 }) s m args below meth c H locs 0 0 Q (F0 m 57 ls []) := by
  obtain ⟨hx, hb, hr, hml, hown, hts, hlocks, hK, hA, hE⟩ := id K
  intro n
  induction n with
  | zero =>
    intro low lta llo lhi lmo lco v2 o_low o_lta o_llo o_lhi o_lmo o_lco H locs ls hF
    rw [F_L_dropReading_L57] at hF
    cases hF
  | succ n ih =>
    intro low lta llo lhi lmo lco v2 o_low o_lta o_llo o_lhi o_lmo o_lco H locs ls hF hP hD hS hl hQ
    rw [F_L_dropReading_L57] at hF
    refine lv_iload_n hx hb d_L_dropReading_57 rfl (lv_at hl 2 rfl) ?_
    refine lv_if_lt (tgt := 94) hx hb d_L_dropReading_58 (by decide) (fun hc_9 => ?_) (fun hc_9 => ?_)
    · have hF := it_t hF hc_9
      cases hF
      exact hQ H locs ls hP hD hS (lv_sub hl [] rfl)
    · have hF := it_f hF hc_9
      refine lv_aload_n hx hb d_L_dropReading_61 rfl (lv_at hl 0 rfl) ?_
      refine va_get (D := g) (ci := 0) (v := .ref (ad 8)) (C := kR0) (T := kT0) (N := 7) hx hb hts kw0 hown hK hP 1 rfl rfl 1 (by decide) (hts _ wm_79) (fun _ h9 => h9) rfl d_L_dropReading_62 ?_
      refine lv_iload_n hx hb d_L_dropReading_65 rfl (lv_at hl 2 rfl) ?_
      obtain ⟨hg_10, hF⟩ := gd_inv hF
      refine va_iald hx hb hK hP 8 0 rfl rfl hg_10 d_L_dropReading_66 ?_
      refine lv_iload_n hx hb d_L_dropReading_67 rfl (lv_at hl 1 rfl) ?_
      refine lv_icmp_ne (tgt := 88) hx hb d_L_dropReading_68 (by decide) (fun hc_11 => ?_) (fun hc_11 => ?_)
      · have hF := it_f hF hc_11
        refine lv_iinc (v := v2 + (-1)) (lv' := [(2, .int (v2 + (-1))), (0, .ref (ad 1)), (1, .int v1)]) hx hb d_L_dropReading_88 hl (k := 2) rfl rfl (by decide) rfl (fun ls hl => ?_)
        refine lv_goto (tgt := 57) hx hb d_L_dropReading_91 (by decide) ?_
        exact ih _ _ _ _ _ _ _ _ _ _ _ _ _ H locs ls hF hP hD hS (lv_sub hl [1, 2, 0] rfl) hQ
      · have hF := it_t hF hc_11
        refine lv_aload_n hx hb d_L_dropReading_71 rfl (lv_at hl 0 rfl) ?_
        refine va_get (D := g) (ci := 0) (v := .ref (ad 12)) (C := kR0) (T := kT0) (N := 7) hx hb hts kw0 hown hK hP 1 rfl rfl 5 (by decide) (hts _ wm_83) (fun _ h9 => h9) rfl d_L_dropReading_72 ?_
        refine lv_iload_n hx hb d_L_dropReading_75 rfl (lv_at hl 2 rfl) ?_
        obtain ⟨hg_12, hF⟩ := gd_inv hF
        refine va_iald hx hb hK hP 12 0 rfl rfl hg_12 d_L_dropReading_76 ?_
        obtain ⟨r_13, hG, hF⟩ := ob1_inv hF
        refine ksi K hP hD hS (c_K_isReading l g (kty cI cJ cZ) (wC cI cJ cZ ad xst xse xre xgr ltm low lta llo lhi lmo rta ron rlo rhi rmo rin res rsi rli rar xgc xca xls xtl xno lco rwa rad rest) (lmo v2.toNatClampNeg) r_13 hG) wm_550 wm_548 wm_549 wm_56 hd_K_isReading rfl rfl ⟨Nat.le_of_ble_eq_true rfl, Nat.le_of_ble_eq_true rfl⟩ ⟨Nat.zero_le _, Nat.zero_le _⟩ hl.1 (rest := []) rfl (Nat.le_of_ble_eq_true rfl) d_L_dropReading_77 (fun H locs hP hD hS => ?_)
        refine lv_if_eq (tgt := 88) hx hb d_L_dropReading_80 (by decide) (fun hc_14 => ?_) (fun hc_14 => ?_)
        · have hF := it_t hF hc_14
          refine lv_iinc (v := v2 + (-1)) (lv' := [(2, .int (v2 + (-1))), (0, .ref (ad 1)), (1, .int v1)]) hx hb d_L_dropReading_88 hl (k := 2) rfl rfl (by decide) rfl (fun ls hl => ?_)
          refine lv_goto (tgt := 57) hx hb d_L_dropReading_91 (by decide) ?_
          exact ih _ _ _ _ _ _ _ _ _ _ _ _ _ H locs ls hF hP hD hS (lv_sub hl [1, 2, 0] rfl) hQ
        · have hF := it_f hF hc_14
          refine lv_aload_n hx hb d_L_dropReading_83 rfl (lv_at hl 0 rfl) ?_
          refine lv_iload_n hx hb d_L_dropReading_84 rfl (lv_at hl 2 rfl) ?_
          obtain ⟨low_15, lta_16, llo_17, lhi_18, lmo_19, lco_20, hG, hF⟩ := ob6_inv hF
          refine kcv K hP hD hS (c_L_dropRow l g cI cJ cZ ad xst xse xre xgr ltm low lta llo lhi lmo rta ron rlo rhi rmo rin res rsi rli rar xgc xca xls xtl xno lco rwa rad rest v2 low_15 lta_16 llo_17 lhi_18 lmo_19 lco_20 hG) wm_417 wm_414 wm_416 wm_10 wm_48 hd_L_dropRow rfl rfl ⟨Nat.le_of_ble_eq_true rfl, Nat.le_of_ble_eq_true rfl⟩ ⟨Nat.zero_le _, Nat.zero_le _⟩ 0 1 rfl rfl rfl hl.1 (rest := []) rfl (Nat.le_of_ble_eq_true rfl) d_L_dropReading_85 (fun H locs hP hD hS => ?_)
          refine lv_iinc (v := v2 + (-1)) (lv' := [(2, .int (v2 + (-1))), (0, .ref (ad 1)), (1, .int v1)]) hx hb d_L_dropReading_88 hl (k := 2) rfl rfl (by decide) rfl (fun ls hl => ?_)
          refine lv_goto (tgt := 57) hx hb d_L_dropReading_91 (by decide) ?_
          exact ih _ _ _ _ _ _ _ _ _ _ _ _ _ H locs ls hF hP hD hS (lv_sub hl [1, 2, 0] rfl) hQ
set_option maxHeartbeats 4000000 in
set_option maxRecDepth 100000 in
theorem t_L_dropReading {p : Program} {l : Launch} {e : Env} {s : State} {m : MethodId} {args : Array Value} {below : List Frame} {meth : Method} {c : Code} {A : Nat → Prop} {g : va_G} {cI cJ cZ : ClassId} {ad : Nat → Nat} {rest : va_W} (K : kX p s m args meth c "LockTable$Locks" prog_2_method_15_code 4 none A g (kty cI cJ cZ)) (xst : Nat → Int32) (xse : Nat → Int32) (xre : Nat → Int32) (xgr : Nat → Int32) (ltm : Nat → Int32) (low : Nat → Int32) (lta : Nat → Int32) (llo : Nat → Int64) (lhi : Nat → Int64) (lmo : Nat → Int32) (rta : Nat → Int32) (ron : Nat → Int32) (rlo : Nat → Int64) (rhi : Nat → Int64) (rmo : Nat → Int32) (rin : Nat → Int32) (res : Nat → Int32) (rsi : Nat → Int32) (rli : Nat → Int32) (rar : Nat → Int32) (xgc : Int32) (xca : Int32) (xls : Int32) (xtl : Int32) (xno : Int32) (lco : Int32) (rwa : Int32) (rad : Int32) (a1 : Int32) (o_ltm : Nat → Int32) (o_low : Nat → Int32) (o_lta : Nat → Int32) (o_llo : Nat → Int64) (o_lhi : Nat → Int64) (o_lmo : Nat → Int32) (o_lco : Int32) (hF : F_L_dropReading ltm low lta llo lhi lmo lco a1 = some (o_ltm, o_low, o_lta, o_llo, o_lhi, o_lmo, o_lco)) {H : Heap} {locs : List Loc} {ls : Array Slot} (hP : va_P g kcl (wC cI cJ cZ ad xst xse xre xgr ltm low lta llo lhi lmo rta ron rlo rhi rmo rin res rsi rli rar xgc xca xls xtl xno lco rwa rad rest) H) (hD : va_D A (wC cI cJ cZ ad xst xse xre xgr ltm low lta llo lhi lmo rta ron rlo rhi rmo rin res rsi rli rar xgc xca xls xtl xno lco rwa rad rest)) (hS : va_S A s.heap H locs) (hl : lv_has ls 4 [(0, .ref (ad 1)), (1, .int a1)]) : W p l e ({ frames := 1, cells := 0, slots := 0, locals := 23 }) s m args below meth c H locs 0 0 (MQ below (kQv g (kty cI cJ cZ) (wC cI cJ cZ ad xst xse xre xgr o_ltm o_low o_lta o_llo o_lhi o_lmo rta ron rlo rhi rmo rin res rsi rli rar xgc xca xls xtl xno o_lco rwa rad rest) A) args s 0 0 A) (F0 m 0 ls []) := by
  obtain ⟨hx, hb, hr, hml, hown, hts, hlocks, hK, hA, hE⟩ := id K
  unfold F_L_dropReading at hF
  refine lv_iconst (v := 0) hx hb d_L_dropReading_0 (by decide) ?_
  refine lv_istore_n (lv' := [(2, .int 0), (0, .ref (ad 1)), (1, .int a1)]) hx hb d_L_dropReading_1 rfl hl (by decide) rfl (fun ls hl => ?_)
  obtain ⟨ltm_8, hG, hF⟩ := ob1_inv hF
  refine t_L_dropReading_L2 K xst xse xre xgr low lta llo lhi lmo rta ron rlo rhi rmo rin res rsi rli rar xgc xca xls xtl xno lco rwa rad a1 fu _ _ _ H locs ls hG hP hD hS (lv_sub hl [1, 2, 0] rfl) (fun H locs ls hP hD hS hl => ?_)
  refine lv_aload_n hx hb d_L_dropReading_50 rfl (lv_at hl 0 rfl) ?_
  refine va_get (D := g) (ci := 0) (v := .int lco) (C := kR0) (T := kT0) (N := 7) hx hb hts kw0 hown hK hP 1 rfl rfl 6 (by decide) (hts _ wm_84) (fun _ h9 => h9) rfl d_L_dropReading_51 ?_
  refine lv_iconst (v := 1) hx hb d_L_dropReading_54 (by decide) ?_
  refine lv_isub hx hb d_L_dropReading_55 ?_
  refine lv_istore_n (lv' := [(2, .int (lco - 1)), (0, .ref (ad 1)), (1, .int a1)]) hx hb d_L_dropReading_56 rfl hl (by decide) rfl (fun ls hl => ?_)
  obtain ⟨low_21, lta_22, llo_23, lhi_24, lmo_25, lco_26, hG, hF⟩ := ob6_inv hF
  refine t_L_dropReading_L57 K xst xse xre xgr ltm_8 rta ron rlo rhi rmo rin res rsi rli rar xgc xca xls xtl xno rwa rad a1 fu _ _ _ _ _ _ _ _ _ _ _ _ _ H locs ls hG hP hD hS (lv_sub hl [1, 2, 0] rfl) (fun H locs ls hP hD hS hl => ?_)
  cases hF
  exact krv K hP hD hS d_L_dropReading_94
theorem c_L_dropReading (l : Launch) (g : va_G) (cI cJ cZ : ClassId) (ad : Nat → Nat) (xst : Nat → Int32) (xse : Nat → Int32) (xre : Nat → Int32) (xgr : Nat → Int32) (ltm : Nat → Int32) (low : Nat → Int32) (lta : Nat → Int32) (llo : Nat → Int64) (lhi : Nat → Int64) (lmo : Nat → Int32) (rta : Nat → Int32) (ron : Nat → Int32) (rlo : Nat → Int64) (rhi : Nat → Int64) (rmo : Nat → Int32) (rin : Nat → Int32) (res : Nat → Int32) (rsi : Nat → Int32) (rli : Nat → Int32) (rar : Nat → Int32) (xgc : Int32) (xca : Int32) (xls : Int32) (xtl : Int32) (xno : Int32) (lco : Int32) (rwa : Int32) (rad : Int32) (rest : va_W) (a1 : Int32) (o_ltm : Nat → Int32) (o_low : Nat → Int32) (o_lta : Nat → Int32) (o_llo : Nat → Int64) (o_lhi : Nat → Int64) (o_lmo : Nat → Int32) (o_lco : Int32) (hF : F_L_dropReading ltm low lta llo lhi lmo lco a1 = some (o_ltm, o_low, o_lta, o_llo, o_lhi, o_lmo, o_lco)) : Cv l y_L_dropReading prog_2_method_15_code 4 ({ frames := 1, cells := 0, slots := 0, locals := 23 }) [.ref (ad 1), .int a1] g (kty cI cJ cZ) (wC cI cJ cZ ad xst xse xre xgr ltm low lta llo lhi lmo rta ron rlo rhi rmo rin res rsi rli rar xgc xca xls xtl xno lco rwa rad rest) (wC cI cJ cZ ad xst xse xre xgr o_ltm o_low o_lta o_llo o_lhi o_lmo rta ron rlo rhi rmo rin res rsi rli rar xgc xca xls xtl xno o_lco rwa rad rest) :=
  Cv.of (by decide) (Nat.le_of_ble_eq_true rfl) (fun p e s m below meth c A ls K hP hD hS hl => t_L_dropReading K xst xse xre xgr ltm low lta llo lhi lmo rta ron rlo rhi rmo rin res rsi rli rar xgc xca xls xtl xno lco rwa rad a1 o_ltm o_low o_lta o_llo o_lhi o_lmo o_lco hF hP hD hS hl)
def F_L_dropAll_L2 (v1 : Int32) : Nat → (Nat → Int32) → Int32 → Option ((Nat → Int32))
  | 0, _, _ => none
  | n + 1, ltm, v2 => if 16 ≤ v2 then some ltm else ob1 (F_L_setTable ltm v1 v2 (-1)) (fun ltm_2 => F_L_dropAll_L2 v1 n ltm_2 (v2 + 1))
def F_L_dropAll_L28 (v1 : Int32) : Nat → (Nat → Int32) → (Nat → Int32) → (Nat → Int64) → (Nat → Int64) → (Nat → Int32) → Int32 → Int32 → Option ((Nat → Int32) × (Nat → Int32) × (Nat → Int64) × (Nat → Int64) × (Nat → Int32) × Int32)
  | 0, _, _, _, _, _, _, _ => none
  | n + 1, low, lta, llo, lhi, lmo, lco, v2 => if v2 < 0 then some (low, lta, llo, lhi, lmo, lco) else gd (v2 < 0 ∨ 256 ≤ v2.toNatClampNeg) (if (low v2.toNatClampNeg) = v1 then ob6 (F_L_dropRow low lta llo lhi lmo lco v2) (fun low_7 lta_8 llo_9 lhi_10 lmo_11 lco_12 => F_L_dropAll_L28 v1 n low_7 lta_8 llo_9 lhi_10 lmo_11 lco_12 (v2 + (-1))) else F_L_dropAll_L28 v1 n low lta llo lhi lmo lco (v2 + (-1)))
def F_L_dropAll (ltm : Nat → Int32) (low : Nat → Int32) (lta : Nat → Int32) (llo : Nat → Int64) (lhi : Nat → Int64) (lmo : Nat → Int32) (lco : Int32) (a1 : Int32) : Option ((Nat → Int32) × (Nat → Int32) × (Nat → Int32) × (Nat → Int64) × (Nat → Int64) × (Nat → Int32) × Int32) :=
  ob1 (F_L_dropAll_L2 a1 fu ltm 0) (fun ltm_3 => ob6 (F_L_dropAll_L28 a1 fu low lta llo lhi lmo lco (lco - 1)) (fun low_13 lta_14 llo_15 lhi_16 lmo_17 lco_18 => some (ltm_3, low_13, lta_14, llo_15, lhi_16, lmo_17, lco_18)))
set_option maxHeartbeats 4000000 in
set_option maxRecDepth 100000 in
theorem t_L_dropAll_L2 {p : Program} {l : Launch} {e : Env} {s : State} {m : MethodId} {args : Array Value} {below : List Frame} {meth : Method} {c : Code} {A : Nat → Prop} {g : va_G} {cI cJ cZ : ClassId} {ad : Nat → Nat} {rest : va_W} (K : kX p s m args meth c "LockTable$Locks" prog_2_method_16_code 3 none A g (kty cI cJ cZ)) {Q : State → Prop} (xst : Nat → Int32) (xse : Nat → Int32) (xre : Nat → Int32) (xgr : Nat → Int32) (low : Nat → Int32) (lta : Nat → Int32) (llo : Nat → Int64) (lhi : Nat → Int64) (lmo : Nat → Int32) (rta : Nat → Int32) (ron : Nat → Int32) (rlo : Nat → Int64) (rhi : Nat → Int64) (rmo : Nat → Int32) (rin : Nat → Int32) (res : Nat → Int32) (rsi : Nat → Int32) (rli : Nat → Int32) (rar : Nat → Int32) (xgc : Int32) (xca : Int32) (xls : Int32) (xtl : Int32) (xno : Int32) (lco : Int32) (rwa : Int32) (rad : Int32) (v1 : Int32) : ∀ (n : Nat) (ltm : Nat → Int32) (v2 : Int32) (o_ltm : Nat → Int32) (H : Heap) (locs : List Loc) (ls : Array Slot), F_L_dropAll_L2 v1 n ltm v2 = some o_ltm → va_P g kcl (wC cI cJ cZ ad xst xse xre xgr ltm low lta llo lhi lmo rta ron rlo rhi rmo rin res rsi rli rar xgc xca xls xtl xno lco rwa rad rest) H → va_D A (wC cI cJ cZ ad xst xse xre xgr ltm low lta llo lhi lmo rta ron rlo rhi rmo rin res rsi rli rar xgc xca xls xtl xno lco rwa rad rest) → va_S A s.heap H locs → lv_has ls 3 [(0, .ref (ad 1)), (1, .int v1), (2, .int v2)] → (∀ (H : Heap) (locs : List Loc) (ls : Array Slot), va_P g kcl (wC cI cJ cZ ad xst xse xre xgr o_ltm low lta llo lhi lmo rta ron rlo rhi rmo rin res rsi rli rar xgc xca xls xtl xno lco rwa rad rest) H → va_D A (wC cI cJ cZ ad xst xse xre xgr o_ltm low lta llo lhi lmo rta ron rlo rhi rmo rin res rsi rli rar xgc xca xls xtl xno lco rwa rad rest) → va_S A s.heap H locs → lv_has ls 3 [(0, .ref (ad 1)), (1, .int v1)] → W p l e ({ frames := 1, cells := 0, slots := 0, locals := 23 }) s m args below meth c H locs 0 0 Q (F0 m 21 ls [])) → W p l e ({ frames := 1, cells := 0, slots := 0, locals := 23 }) s m args below meth c H locs 0 0 Q (F0 m 2 ls []) := by
  obtain ⟨hx, hb, hr, hml, hown, hts, hlocks, hK, hA, hE⟩ := id K
  intro n
  induction n with
  | zero =>
    intro ltm v2 o_ltm H locs ls hF
    rw [F_L_dropAll_L2] at hF
    cases hF
  | succ n ih =>
    intro ltm v2 o_ltm H locs ls hF hP hD hS hl hQ
    rw [F_L_dropAll_L2] at hF
    refine lv_iload_n hx hb d_L_dropAll_2 rfl (lv_at hl 2 rfl) ?_
    refine lv_bipush (v := 16) hx hb d_L_dropAll_3 (by decide) ?_
    refine lv_icmp_ge (tgt := 21) hx hb d_L_dropAll_5 (by decide) (fun hc_1 => ?_) (fun hc_1 => ?_)
    · have hF := it_t hF hc_1
      cases hF
      exact hQ H locs ls hP hD hS (lv_sub hl [0, 1] rfl)
    · have hF := it_f hF hc_1
      refine lv_aload_n hx hb d_L_dropAll_8 rfl (lv_at hl 0 rfl) ?_
      refine lv_iload_n hx hb d_L_dropAll_9 rfl (lv_at hl 1 rfl) ?_
      refine lv_iload_n hx hb d_L_dropAll_10 rfl (lv_at hl 2 rfl) ?_
      refine lv_iconst (v := (-1)) hx hb d_L_dropAll_11 (by decide) ?_
      obtain ⟨ltm_2, hG, hF⟩ := ob1_inv hF
      refine kcv K hP hD hS (c_L_setTable l g cI cJ cZ ad xst xse xre xgr ltm low lta llo lhi lmo rta ron rlo rhi rmo rin res rsi rli rar xgc xca xls xtl xno lco rwa rad rest v1 v2 (-1) ltm_2 hG) wm_405 wm_547 wm_403 wm_404 wm_48 hd_L_setTable rfl rfl ⟨Nat.le_of_ble_eq_true rfl, Nat.le_of_ble_eq_true rfl⟩ ⟨Nat.zero_le _, Nat.zero_le _⟩ 0 1 rfl rfl rfl hl.1 (rest := []) rfl (Nat.le_of_ble_eq_true rfl) d_L_dropAll_12 (fun H locs hP hD hS => ?_)
      refine lv_iinc (v := v2 + 1) (lv' := [(2, .int (v2 + 1)), (0, .ref (ad 1)), (1, .int v1)]) hx hb d_L_dropAll_15 hl (k := 2) rfl rfl (by decide) rfl (fun ls hl => ?_)
      refine lv_goto (tgt := 2) hx hb d_L_dropAll_18 (by decide) ?_
      exact ih _ _ _ H locs ls hF hP hD hS (lv_sub hl [1, 2, 0] rfl) hQ
set_option maxHeartbeats 4000000 in
set_option maxRecDepth 100000 in
theorem t_L_dropAll_L28 {p : Program} {l : Launch} {e : Env} {s : State} {m : MethodId} {args : Array Value} {below : List Frame} {meth : Method} {c : Code} {A : Nat → Prop} {g : va_G} {cI cJ cZ : ClassId} {ad : Nat → Nat} {rest : va_W} (K : kX p s m args meth c "LockTable$Locks" prog_2_method_16_code 3 none A g (kty cI cJ cZ)) {Q : State → Prop} (xst : Nat → Int32) (xse : Nat → Int32) (xre : Nat → Int32) (xgr : Nat → Int32) (ltm : Nat → Int32) (rta : Nat → Int32) (ron : Nat → Int32) (rlo : Nat → Int64) (rhi : Nat → Int64) (rmo : Nat → Int32) (rin : Nat → Int32) (res : Nat → Int32) (rsi : Nat → Int32) (rli : Nat → Int32) (rar : Nat → Int32) (xgc : Int32) (xca : Int32) (xls : Int32) (xtl : Int32) (xno : Int32) (rwa : Int32) (rad : Int32) (v1 : Int32) : ∀ (n : Nat) (low : Nat → Int32) (lta : Nat → Int32) (llo : Nat → Int64) (lhi : Nat → Int64) (lmo : Nat → Int32) (lco : Int32) (v2 : Int32) (o_low : Nat → Int32) (o_lta : Nat → Int32) (o_llo : Nat → Int64) (o_lhi : Nat → Int64) (o_lmo : Nat → Int32) (o_lco : Int32) (H : Heap) (locs : List Loc) (ls : Array Slot), F_L_dropAll_L28 v1 n low lta llo lhi lmo lco v2 = some (o_low, o_lta, o_llo, o_lhi, o_lmo, o_lco) → va_P g kcl (wC cI cJ cZ ad xst xse xre xgr ltm low lta llo lhi lmo rta ron rlo rhi rmo rin res rsi rli rar xgc xca xls xtl xno lco rwa rad rest) H → va_D A (wC cI cJ cZ ad xst xse xre xgr ltm low lta llo lhi lmo rta ron rlo rhi rmo rin res rsi rli rar xgc xca xls xtl xno lco rwa rad rest) → va_S A s.heap H locs → lv_has ls 3 [(0, .ref (ad 1)), (1, .int v1), (2, .int v2)] → (∀ (H : Heap) (locs : List Loc) (ls : Array Slot), va_P g kcl (wC cI cJ cZ ad xst xse xre xgr ltm o_low o_lta o_llo o_lhi o_lmo rta ron rlo rhi rmo rin res rsi rli rar xgc xca xls xtl xno o_lco rwa rad rest) H → va_D A (wC cI cJ cZ ad xst xse xre xgr ltm o_low o_lta o_llo o_lhi o_lmo rta ron rlo rhi rmo rin res rsi rli rar xgc xca xls xtl xno o_lco rwa rad rest) → va_S A s.heap H locs → lv_has ls 3 [] → W p l e ({ frames := 1, cells := 0, slots := 0, locals := 23 }) s m args below meth c H locs 0 0 Q (F0 m 53 ls [])) → W p l e ({ frames := 1, cells := 0, slots := 0, locals := 23 }) s m args below meth c H locs 0 0 Q (F0 m 28 ls []) := by
  obtain ⟨hx, hb, hr, hml, hown, hts, hlocks, hK, hA, hE⟩ := id K
  intro n
  induction n with
  | zero =>
    intro low lta llo lhi lmo lco v2 o_low o_lta o_llo o_lhi o_lmo o_lco H locs ls hF
    rw [F_L_dropAll_L28] at hF
    cases hF
  | succ n ih =>
    intro low lta llo lhi lmo lco v2 o_low o_lta o_llo o_lhi o_lmo o_lco H locs ls hF hP hD hS hl hQ
    rw [F_L_dropAll_L28] at hF
    refine lv_iload_n hx hb d_L_dropAll_28 rfl (lv_at hl 2 rfl) ?_
    refine lv_if_lt (tgt := 53) hx hb d_L_dropAll_29 (by decide) (fun hc_4 => ?_) (fun hc_4 => ?_)
    · have hF := it_t hF hc_4
      cases hF
      exact hQ H locs ls hP hD hS (lv_sub hl [] rfl)
    · have hF := it_f hF hc_4
      refine lv_aload_n hx hb d_L_dropAll_32 rfl (lv_at hl 0 rfl) ?_
      refine va_get (D := g) (ci := 0) (v := .ref (ad 8)) (C := kR0) (T := kT0) (N := 7) hx hb hts kw0 hown hK hP 1 rfl rfl 1 (by decide) (hts _ wm_79) (fun _ h9 => h9) rfl d_L_dropAll_33 ?_
      refine lv_iload_n hx hb d_L_dropAll_36 rfl (lv_at hl 2 rfl) ?_
      obtain ⟨hg_5, hF⟩ := gd_inv hF
      refine va_iald hx hb hK hP 8 0 rfl rfl hg_5 d_L_dropAll_37 ?_
      refine lv_iload_n hx hb d_L_dropAll_38 rfl (lv_at hl 1 rfl) ?_
      refine lv_icmp_ne (tgt := 47) hx hb d_L_dropAll_39 (by decide) (fun hc_6 => ?_) (fun hc_6 => ?_)
      · have hF := it_f hF hc_6
        refine lv_iinc (v := v2 + (-1)) (lv' := [(2, .int (v2 + (-1))), (0, .ref (ad 1)), (1, .int v1)]) hx hb d_L_dropAll_47 hl (k := 2) rfl rfl (by decide) rfl (fun ls hl => ?_)
        refine lv_goto (tgt := 28) hx hb d_L_dropAll_50 (by decide) ?_
        exact ih _ _ _ _ _ _ _ _ _ _ _ _ _ H locs ls hF hP hD hS (lv_sub hl [1, 2, 0] rfl) hQ
      · have hF := it_t hF hc_6
        refine lv_aload_n hx hb d_L_dropAll_42 rfl (lv_at hl 0 rfl) ?_
        refine lv_iload_n hx hb d_L_dropAll_43 rfl (lv_at hl 2 rfl) ?_
        obtain ⟨low_7, lta_8, llo_9, lhi_10, lmo_11, lco_12, hG, hF⟩ := ob6_inv hF
        refine kcv K hP hD hS (c_L_dropRow l g cI cJ cZ ad xst xse xre xgr ltm low lta llo lhi lmo rta ron rlo rhi rmo rin res rsi rli rar xgc xca xls xtl xno lco rwa rad rest v2 low_7 lta_8 llo_9 lhi_10 lmo_11 lco_12 hG) wm_417 wm_414 wm_416 wm_10 wm_48 hd_L_dropRow rfl rfl ⟨Nat.le_of_ble_eq_true rfl, Nat.le_of_ble_eq_true rfl⟩ ⟨Nat.zero_le _, Nat.zero_le _⟩ 0 1 rfl rfl rfl hl.1 (rest := []) rfl (Nat.le_of_ble_eq_true rfl) d_L_dropAll_44 (fun H locs hP hD hS => ?_)
        refine lv_iinc (v := v2 + (-1)) (lv' := [(2, .int (v2 + (-1))), (0, .ref (ad 1)), (1, .int v1)]) hx hb d_L_dropAll_47 hl (k := 2) rfl rfl (by decide) rfl (fun ls hl => ?_)
        refine lv_goto (tgt := 28) hx hb d_L_dropAll_50 (by decide) ?_
        exact ih _ _ _ _ _ _ _ _ _ _ _ _ _ H locs ls hF hP hD hS (lv_sub hl [1, 2, 0] rfl) hQ
set_option maxHeartbeats 4000000 in
set_option maxRecDepth 100000 in
theorem t_L_dropAll {p : Program} {l : Launch} {e : Env} {s : State} {m : MethodId} {args : Array Value} {below : List Frame} {meth : Method} {c : Code} {A : Nat → Prop} {g : va_G} {cI cJ cZ : ClassId} {ad : Nat → Nat} {rest : va_W} (K : kX p s m args meth c "LockTable$Locks" prog_2_method_16_code 3 none A g (kty cI cJ cZ)) (xst : Nat → Int32) (xse : Nat → Int32) (xre : Nat → Int32) (xgr : Nat → Int32) (ltm : Nat → Int32) (low : Nat → Int32) (lta : Nat → Int32) (llo : Nat → Int64) (lhi : Nat → Int64) (lmo : Nat → Int32) (rta : Nat → Int32) (ron : Nat → Int32) (rlo : Nat → Int64) (rhi : Nat → Int64) (rmo : Nat → Int32) (rin : Nat → Int32) (res : Nat → Int32) (rsi : Nat → Int32) (rli : Nat → Int32) (rar : Nat → Int32) (xgc : Int32) (xca : Int32) (xls : Int32) (xtl : Int32) (xno : Int32) (lco : Int32) (rwa : Int32) (rad : Int32) (a1 : Int32) (o_ltm : Nat → Int32) (o_low : Nat → Int32) (o_lta : Nat → Int32) (o_llo : Nat → Int64) (o_lhi : Nat → Int64) (o_lmo : Nat → Int32) (o_lco : Int32) (hF : F_L_dropAll ltm low lta llo lhi lmo lco a1 = some (o_ltm, o_low, o_lta, o_llo, o_lhi, o_lmo, o_lco)) {H : Heap} {locs : List Loc} {ls : Array Slot} (hP : va_P g kcl (wC cI cJ cZ ad xst xse xre xgr ltm low lta llo lhi lmo rta ron rlo rhi rmo rin res rsi rli rar xgc xca xls xtl xno lco rwa rad rest) H) (hD : va_D A (wC cI cJ cZ ad xst xse xre xgr ltm low lta llo lhi lmo rta ron rlo rhi rmo rin res rsi rli rar xgc xca xls xtl xno lco rwa rad rest)) (hS : va_S A s.heap H locs) (hl : lv_has ls 3 [(0, .ref (ad 1)), (1, .int a1)]) : W p l e ({ frames := 1, cells := 0, slots := 0, locals := 23 }) s m args below meth c H locs 0 0 (MQ below (kQv g (kty cI cJ cZ) (wC cI cJ cZ ad xst xse xre xgr o_ltm o_low o_lta o_llo o_lhi o_lmo rta ron rlo rhi rmo rin res rsi rli rar xgc xca xls xtl xno o_lco rwa rad rest) A) args s 0 0 A) (F0 m 0 ls []) := by
  obtain ⟨hx, hb, hr, hml, hown, hts, hlocks, hK, hA, hE⟩ := id K
  unfold F_L_dropAll at hF
  refine lv_iconst (v := 0) hx hb d_L_dropAll_0 (by decide) ?_
  refine lv_istore_n (lv' := [(2, .int 0), (0, .ref (ad 1)), (1, .int a1)]) hx hb d_L_dropAll_1 rfl hl (by decide) rfl (fun ls hl => ?_)
  obtain ⟨ltm_3, hG, hF⟩ := ob1_inv hF
  refine t_L_dropAll_L2 K xst xse xre xgr low lta llo lhi lmo rta ron rlo rhi rmo rin res rsi rli rar xgc xca xls xtl xno lco rwa rad a1 fu _ _ _ H locs ls hG hP hD hS (lv_sub hl [1, 2, 0] rfl) (fun H locs ls hP hD hS hl => ?_)
  refine lv_aload_n hx hb d_L_dropAll_21 rfl (lv_at hl 0 rfl) ?_
  refine va_get (D := g) (ci := 0) (v := .int lco) (C := kR0) (T := kT0) (N := 7) hx hb hts kw0 hown hK hP 1 rfl rfl 6 (by decide) (hts _ wm_84) (fun _ h9 => h9) rfl d_L_dropAll_22 ?_
  refine lv_iconst (v := 1) hx hb d_L_dropAll_25 (by decide) ?_
  refine lv_isub hx hb d_L_dropAll_26 ?_
  refine lv_istore_n (lv' := [(2, .int (lco - 1)), (0, .ref (ad 1)), (1, .int a1)]) hx hb d_L_dropAll_27 rfl hl (by decide) rfl (fun ls hl => ?_)
  obtain ⟨low_13, lta_14, llo_15, lhi_16, lmo_17, lco_18, hG, hF⟩ := ob6_inv hF
  refine t_L_dropAll_L28 K xst xse xre xgr ltm_3 rta ron rlo rhi rmo rin res rsi rli rar xgc xca xls xtl xno rwa rad a1 fu _ _ _ _ _ _ _ _ _ _ _ _ _ H locs ls hG hP hD hS (lv_sub hl [1, 2, 0] rfl) (fun H locs ls hP hD hS hl => ?_)
  cases hF
  exact krv K hP hD hS d_L_dropAll_53
theorem c_L_dropAll (l : Launch) (g : va_G) (cI cJ cZ : ClassId) (ad : Nat → Nat) (xst : Nat → Int32) (xse : Nat → Int32) (xre : Nat → Int32) (xgr : Nat → Int32) (ltm : Nat → Int32) (low : Nat → Int32) (lta : Nat → Int32) (llo : Nat → Int64) (lhi : Nat → Int64) (lmo : Nat → Int32) (rta : Nat → Int32) (ron : Nat → Int32) (rlo : Nat → Int64) (rhi : Nat → Int64) (rmo : Nat → Int32) (rin : Nat → Int32) (res : Nat → Int32) (rsi : Nat → Int32) (rli : Nat → Int32) (rar : Nat → Int32) (xgc : Int32) (xca : Int32) (xls : Int32) (xtl : Int32) (xno : Int32) (lco : Int32) (rwa : Int32) (rad : Int32) (rest : va_W) (a1 : Int32) (o_ltm : Nat → Int32) (o_low : Nat → Int32) (o_lta : Nat → Int32) (o_llo : Nat → Int64) (o_lhi : Nat → Int64) (o_lmo : Nat → Int32) (o_lco : Int32) (hF : F_L_dropAll ltm low lta llo lhi lmo lco a1 = some (o_ltm, o_low, o_lta, o_llo, o_lhi, o_lmo, o_lco)) : Cv l y_L_dropAll prog_2_method_16_code 3 ({ frames := 1, cells := 0, slots := 0, locals := 23 }) [.ref (ad 1), .int a1] g (kty cI cJ cZ) (wC cI cJ cZ ad xst xse xre xgr ltm low lta llo lhi lmo rta ron rlo rhi rmo rin res rsi rli rar xgc xca xls xtl xno lco rwa rad rest) (wC cI cJ cZ ad xst xse xre xgr o_ltm o_low o_lta o_llo o_lhi o_lmo rta ron rlo rhi rmo rin res rsi rli rar xgc xca xls xtl xno o_lco rwa rad rest) :=
  Cv.of (by decide) (Nat.le_of_ble_eq_true rfl) (fun p e s m below meth c A ls K hP hD hS hl => t_L_dropAll K xst xse xre xgr ltm low lta llo lhi lmo rta ron rlo rhi rmo rin res rsi rli rar xgc xca xls xtl xno lco rwa rad a1 o_ltm o_low o_lta o_llo o_lhi o_lmo o_lco hF hP hD hS hl)
