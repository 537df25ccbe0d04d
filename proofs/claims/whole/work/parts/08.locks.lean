theorem wm_78 : Cond.fieldLink "LockTable$Locks" 9 "LockTable$Locks" "tableModes" "[I" ∈ w_all := w_mem 78 (by decide +kernel) (by decide +kernel)
theorem wm_79 : Cond.fieldLink "LockTable$Locks" 21 "LockTable$Locks" "owners" "[I" ∈ w_all := w_mem 79 (by decide +kernel) (by decide +kernel)
theorem wm_80 : Cond.fieldLink "LockTable$Locks" 24 "LockTable$Locks" "tables" "[I" ∈ w_all := w_mem 80 (by decide +kernel) (by decide +kernel)
theorem wm_410 : Cond.code ⟨"LockTable$Locks", "isOn", "(III)Z"⟩ prog_2_method_17_code 4 (some .boolean) ∈ w_all := w_mem 410 (by decide +kernel) (by decide +kernel)
theorem wm_407 : Cond.methodLink "LockTable$Locks" 58 ⟨"LockTable$Locks", "isOn", "(III)Z"⟩ ∈ w_all := w_mem 407 (by decide +kernel) (by decide +kernel)
theorem wm_409 : Cond.instanceMethod ⟨"LockTable$Locks", "isOn", "(III)Z"⟩ ∈ w_all := w_mem 409 (by decide +kernel) (by decide +kernel)
theorem wm_9 : Cond.selects "LockTable$Locks" ⟨"LockTable$Locks", "isOn", "(III)Z"⟩ ⟨"LockTable$Locks", "isOn", "(III)Z"⟩ ∈ w_all := w_mem 9 (by decide +kernel) (by decide +kernel)
theorem wm_48 : Cond.initialized "LockTable$Locks" ∈ w_all := w_mem 48 (by decide +kernel) (by decide +kernel)
theorem wm_81 : Cond.fieldLink "LockTable$Locks" 27 "LockTable$Locks" "lows" "[J" ∈ w_all := w_mem 81 (by decide +kernel) (by decide +kernel)
theorem wm_82 : Cond.fieldLink "LockTable$Locks" 31 "LockTable$Locks" "highs" "[J" ∈ w_all := w_mem 82 (by decide +kernel) (by decide +kernel)
theorem wm_84 : Cond.fieldLink "LockTable$Locks" 37 "LockTable$Locks" "count" "I" ∈ w_all := w_mem 84 (by decide +kernel) (by decide +kernel)
theorem wm_83 : Cond.fieldLink "LockTable$Locks" 34 "LockTable$Locks" "modes" "[I" ∈ w_all := w_mem 83 (by decide +kernel) (by decide +kernel)
theorem wm_329 : Cond.code ⟨"LockTable$Locks", "heldMode", "(II)I"⟩ prog_2_method_2_code 3 (some .int) ∈ w_all := w_mem 329 (by decide +kernel) (by decide +kernel)
theorem wm_377 : Cond.methodLink "LockTable$Locks" 41 ⟨"LockTable$Locks", "heldMode", "(II)I"⟩ ∈ w_all := w_mem 377 (by decide +kernel) (by decide +kernel)
theorem wm_327 : Cond.instanceMethod ⟨"LockTable$Locks", "heldMode", "(II)I"⟩ ∈ w_all := w_mem 327 (by decide +kernel) (by decide +kernel)
theorem wm_328 : Cond.selects "LockTable$Locks" ⟨"LockTable$Locks", "heldMode", "(II)I"⟩ ⟨"LockTable$Locks", "heldMode", "(II)I"⟩ ∈ w_all := w_mem 328 (by decide +kernel) (by decide +kernel)
theorem wm_476 : Cond.code ⟨"LockTable$Modes", "tableCovers", "(II)Z"⟩ prog_3_method_4_code 2 (some .boolean) ∈ w_all := w_mem 476 (by decide +kernel) (by decide +kernel)
theorem wm_474 : Cond.methodLink "LockTable$Locks" 45 ⟨"LockTable$Modes", "tableCovers", "(II)Z"⟩ ∈ w_all := w_mem 474 (by decide +kernel) (by decide +kernel)
theorem wm_475 : Cond.static ⟨"LockTable$Modes", "tableCovers", "(II)Z"⟩ ∈ w_all := w_mem 475 (by decide +kernel) (by decide +kernel)
theorem wm_56 : Cond.initialized "LockTable$Modes" ∈ w_all := w_mem 56 (by decide +kernel) (by decide +kernel)
theorem wm_482 : Cond.code ⟨"LockTable$Locks", "isRound", "(IIIJJ)Z"⟩ prog_2_method_18_code 8 (some .boolean) ∈ w_all := w_mem 482 (by decide +kernel) (by decide +kernel)
theorem wm_479 : Cond.methodLink "LockTable$Locks" 51 ⟨"LockTable$Locks", "isRound", "(IIIJJ)Z"⟩ ∈ w_all := w_mem 479 (by decide +kernel) (by decide +kernel)
theorem wm_481 : Cond.instanceMethod ⟨"LockTable$Locks", "isRound", "(IIIJJ)Z"⟩ ∈ w_all := w_mem 481 (by decide +kernel) (by decide +kernel)
theorem wm_16 : Cond.selects "LockTable$Locks" ⟨"LockTable$Locks", "isRound", "(IIIJJ)Z"⟩ ⟨"LockTable$Locks", "isRound", "(IIIJJ)Z"⟩ ∈ w_all := w_mem 16 (by decide +kernel) (by decide +kernel)
theorem wm_485 : Cond.code ⟨"LockTable$Modes", "rangeCovers", "(II)Z"⟩ prog_3_method_5_code 2 (some .boolean) ∈ w_all := w_mem 485 (by decide +kernel) (by decide +kernel)
theorem wm_483 : Cond.methodLink "LockTable$Locks" 55 ⟨"LockTable$Modes", "rangeCovers", "(II)Z"⟩ ∈ w_all := w_mem 483 (by decide +kernel) (by decide +kernel)
theorem wm_484 : Cond.static ⟨"LockTable$Modes", "rangeCovers", "(II)Z"⟩ ∈ w_all := w_mem 484 (by decide +kernel) (by decide +kernel)
abbrev y_L_heldMode : MethodName := ⟨"LockTable$Locks", "heldMode", "(II)I"⟩
theorem hd_L_heldMode : y_L_heldMode.cls ≠ "java/lang/invoke/MethodHandle" ∧ y_L_heldMode.cls ≠ "java/lang/invoke/VarHandle" ∧ (parseMethodDescriptor y_L_heldMode.desc).map (fun d => d.parameters.length) = some 2 := ⟨by decide, by decide, by decide +kernel⟩
abbrev y_L_setTable : MethodName := ⟨"LockTable$Locks", "setTable", "(III)V"⟩
theorem hd_L_setTable : y_L_setTable.cls ≠ "java/lang/invoke/MethodHandle" ∧ y_L_setTable.cls ≠ "java/lang/invoke/VarHandle" ∧ (parseMethodDescriptor y_L_setTable.desc).map (fun d => d.parameters.length) = some 3 := ⟨by decide, by decide, by decide +kernel⟩
abbrev y_L_isOn : MethodName := ⟨"LockTable$Locks", "isOn", "(III)Z"⟩
theorem hd_L_isOn : y_L_isOn.cls ≠ "java/lang/invoke/MethodHandle" ∧ y_L_isOn.cls ≠ "java/lang/invoke/VarHandle" ∧ (parseMethodDescriptor y_L_isOn.desc).map (fun d => d.parameters.length) = some 3 := ⟨by decide, by decide, by decide +kernel⟩
abbrev y_L_isRound : MethodName := ⟨"LockTable$Locks", "isRound", "(IIIJJ)Z"⟩
theorem hd_L_isRound : y_L_isRound.cls ≠ "java/lang/invoke/MethodHandle" ∧ y_L_isRound.cls ≠ "java/lang/invoke/VarHandle" ∧ (parseMethodDescriptor y_L_isRound.desc).map (fun d => d.parameters.length) = some 5 := ⟨by decide, by decide, by decide +kernel⟩
abbrev y_L_dropRow : MethodName := ⟨"LockTable$Locks", "dropRow", "(I)V"⟩
theorem hd_L_dropRow : y_L_dropRow.cls ≠ "java/lang/invoke/MethodHandle" ∧ y_L_dropRow.cls ≠ "java/lang/invoke/VarHandle" ∧ (parseMethodDescriptor y_L_dropRow.desc).map (fun d => d.parameters.length) = some 1 := ⟨by decide, by decide, by decide +kernel⟩
abbrev y_L_addRange : MethodName := ⟨"LockTable$Locks", "addRange", "(IIJJI)V"⟩
theorem hd_L_addRange : y_L_addRange.cls ≠ "java/lang/invoke/MethodHandle" ∧ y_L_addRange.cls ≠ "java/lang/invoke/VarHandle" ∧ (parseMethodDescriptor y_L_addRange.desc).map (fun d => d.parameters.length) = some 5 := ⟨by decide, by decide, by decide +kernel⟩
abbrev y_L_countRanges : MethodName := ⟨"LockTable$Locks", "countRanges", "(II)I"⟩
theorem hd_L_countRanges : y_L_countRanges.cls ≠ "java/lang/invoke/MethodHandle" ∧ y_L_countRanges.cls ≠ "java/lang/invoke/VarHandle" ∧ (parseMethodDescriptor y_L_countRanges.desc).map (fun d => d.parameters.length) = some 2 := ⟨by decide, by decide, by decide +kernel⟩
abbrev y_L_coverRange : MethodName := ⟨"LockTable$Locks", "coverRange", "(IIJJI)Z"⟩
theorem hd_L_coverRange : y_L_coverRange.cls ≠ "java/lang/invoke/MethodHandle" ∧ y_L_coverRange.cls ≠ "java/lang/invoke/VarHandle" ∧ (parseMethodDescriptor y_L_coverRange.desc).map (fun d => d.parameters.length) = some 5 := ⟨by decide, by decide, by decide +kernel⟩
theorem d_L_heldMode_0 : decode prog_2_method_2_code 0 = .ok (.aload_n 0, 1) := by decide +kernel
theorem d_L_heldMode_1 : decode prog_2_method_2_code 1 = .ok (.getfield 9, 3) := by decide +kernel
theorem d_L_heldMode_4 : decode prog_2_method_2_code 4 = .ok (.iload_n 1, 1) := by decide +kernel
theorem d_L_heldMode_5 : decode prog_2_method_2_code 5 = .ok (.bipush 16, 2) := by decide +kernel
theorem d_L_heldMode_7 : decode prog_2_method_2_code 7 = .ok (.imul, 1) := by decide +kernel
theorem d_L_heldMode_8 : decode prog_2_method_2_code 8 = .ok (.iload_n 2, 1) := by decide +kernel
theorem d_L_heldMode_9 : decode prog_2_method_2_code 9 = .ok (.iadd, 1) := by decide +kernel
theorem d_L_heldMode_10 : decode prog_2_method_2_code 10 = .ok (.iaload, 1) := by decide +kernel
theorem d_L_heldMode_11 : decode prog_2_method_2_code 11 = .ok (.ireturn, 1) := by decide +kernel
theorem d_L_setTable_0 : decode prog_2_method_3_code 0 = .ok (.aload_n 0, 1) := by decide +kernel
theorem d_L_setTable_1 : decode prog_2_method_3_code 1 = .ok (.getfield 9, 3) := by decide +kernel
theorem d_L_setTable_4 : decode prog_2_method_3_code 4 = .ok (.iload_n 1, 1) := by decide +kernel
theorem d_L_setTable_5 : decode prog_2_method_3_code 5 = .ok (.bipush 16, 2) := by decide +kernel
theorem d_L_setTable_7 : decode prog_2_method_3_code 7 = .ok (.imul, 1) := by decide +kernel
theorem d_L_setTable_8 : decode prog_2_method_3_code 8 = .ok (.iload_n 2, 1) := by decide +kernel
theorem d_L_setTable_9 : decode prog_2_method_3_code 9 = .ok (.iadd, 1) := by decide +kernel
theorem d_L_setTable_10 : decode prog_2_method_3_code 10 = .ok (.iload_n 3, 1) := by decide +kernel
theorem d_L_setTable_11 : decode prog_2_method_3_code 11 = .ok (.iastore, 1) := by decide +kernel
theorem d_L_setTable_12 : decode prog_2_method_3_code 12 = .ok (.return_, 1) := by decide +kernel
theorem d_L_isOn_0 : decode prog_2_method_17_code 0 = .ok (.aload_n 0, 1) := by decide +kernel
theorem d_L_isOn_1 : decode prog_2_method_17_code 1 = .ok (.getfield 21, 3) := by decide +kernel
theorem d_L_isOn_4 : decode prog_2_method_17_code 4 = .ok (.iload_n 1, 1) := by decide +kernel
theorem d_L_isOn_5 : decode prog_2_method_17_code 5 = .ok (.iaload, 1) := by decide +kernel
theorem d_L_isOn_6 : decode prog_2_method_17_code 6 = .ok (.iload_n 2, 1) := by decide +kernel
theorem d_L_isOn_7 : decode prog_2_method_17_code 7 = .ok (.if_icmp .ne 17, 3) := by decide +kernel
theorem d_L_isOn_10 : decode prog_2_method_17_code 10 = .ok (.aload_n 0, 1) := by decide +kernel
theorem d_L_isOn_11 : decode prog_2_method_17_code 11 = .ok (.getfield 24, 3) := by decide +kernel
theorem d_L_isOn_14 : decode prog_2_method_17_code 14 = .ok (.iload_n 1, 1) := by decide +kernel
theorem d_L_isOn_15 : decode prog_2_method_17_code 15 = .ok (.iaload, 1) := by decide +kernel
theorem d_L_isOn_16 : decode prog_2_method_17_code 16 = .ok (.iload_n 3, 1) := by decide +kernel
theorem d_L_isOn_17 : decode prog_2_method_17_code 17 = .ok (.if_icmp .ne 7, 3) := by decide +kernel
theorem d_L_isOn_20 : decode prog_2_method_17_code 20 = .ok (.iconst 1, 1) := by decide +kernel
theorem d_L_isOn_21 : decode prog_2_method_17_code 21 = .ok (.goto 4, 3) := by decide +kernel
theorem d_L_isOn_24 : decode prog_2_method_17_code 24 = .ok (.iconst 0, 1) := by decide +kernel
theorem d_L_isOn_25 : decode prog_2_method_17_code 25 = .ok (.ireturn, 1) := by decide +kernel
theorem d_L_isRound_0 : decode prog_2_method_18_code 0 = .ok (.aload_n 0, 1) := by decide +kernel
theorem d_L_isRound_1 : decode prog_2_method_18_code 1 = .ok (.iload_n 1, 1) := by decide +kernel
theorem d_L_isRound_2 : decode prog_2_method_18_code 2 = .ok (.iload_n 2, 1) := by decide +kernel
theorem d_L_isRound_3 : decode prog_2_method_18_code 3 = .ok (.iload_n 3, 1) := by decide +kernel
theorem d_L_isRound_4 : decode prog_2_method_18_code 4 = .ok (.invokevirtual 58, 3) := by decide +kernel
theorem d_L_isRound_7 : decode prog_2_method_18_code 7 = .ok (.ifCond .eq 31, 3) := by decide +kernel
theorem d_L_isRound_10 : decode prog_2_method_18_code 10 = .ok (.aload_n 0, 1) := by decide +kernel
theorem d_L_isRound_11 : decode prog_2_method_18_code 11 = .ok (.getfield 27, 3) := by decide +kernel
theorem d_L_isRound_14 : decode prog_2_method_18_code 14 = .ok (.iload_n 1, 1) := by decide +kernel
theorem d_L_isRound_15 : decode prog_2_method_18_code 15 = .ok (.laload, 1) := by decide +kernel
theorem d_L_isRound_16 : decode prog_2_method_18_code 16 = .ok (.lload 4, 2) := by decide +kernel
theorem d_L_isRound_18 : decode prog_2_method_18_code 18 = .ok (.lcmp, 1) := by decide +kernel
theorem d_L_isRound_19 : decode prog_2_method_18_code 19 = .ok (.ifCond .gt 19, 3) := by decide +kernel
theorem d_L_isRound_22 : decode prog_2_method_18_code 22 = .ok (.lload 6, 2) := by decide +kernel
theorem d_L_isRound_24 : decode prog_2_method_18_code 24 = .ok (.aload_n 0, 1) := by decide +kernel
theorem d_L_isRound_25 : decode prog_2_method_18_code 25 = .ok (.getfield 31, 3) := by decide +kernel
theorem d_L_isRound_28 : decode prog_2_method_18_code 28 = .ok (.iload_n 1, 1) := by decide +kernel
theorem d_L_isRound_29 : decode prog_2_method_18_code 29 = .ok (.laload, 1) := by decide +kernel
theorem d_L_isRound_30 : decode prog_2_method_18_code 30 = .ok (.lcmp, 1) := by decide +kernel
theorem d_L_isRound_31 : decode prog_2_method_18_code 31 = .ok (.ifCond .gt 7, 3) := by decide +kernel
theorem d_L_isRound_34 : decode prog_2_method_18_code 34 = .ok (.iconst 1, 1) := by decide +kernel
theorem d_L_isRound_35 : decode prog_2_method_18_code 35 = .ok (.goto 4, 3) := by decide +kernel
theorem d_L_isRound_38 : decode prog_2_method_18_code 38 = .ok (.iconst 0, 1) := by decide +kernel
theorem d_L_isRound_39 : decode prog_2_method_18_code 39 = .ok (.ireturn, 1) := by decide +kernel
theorem d_L_dropRow_0 : decode prog_2_method_19_code 0 = .ok (.aload_n 0, 1) := by decide +kernel
theorem d_L_dropRow_1 : decode prog_2_method_19_code 1 = .ok (.dup, 1) := by decide +kernel
theorem d_L_dropRow_2 : decode prog_2_method_19_code 2 = .ok (.getfield 37, 3) := by decide +kernel
theorem d_L_dropRow_5 : decode prog_2_method_19_code 5 = .ok (.iconst 1, 1) := by decide +kernel
theorem d_L_dropRow_6 : decode prog_2_method_19_code 6 = .ok (.isub, 1) := by decide +kernel
theorem d_L_dropRow_7 : decode prog_2_method_19_code 7 = .ok (.putfield 37, 3) := by decide +kernel
theorem d_L_dropRow_10 : decode prog_2_method_19_code 10 = .ok (.aload_n 0, 1) := by decide +kernel
theorem d_L_dropRow_11 : decode prog_2_method_19_code 11 = .ok (.getfield 21, 3) := by decide +kernel
theorem d_L_dropRow_14 : decode prog_2_method_19_code 14 = .ok (.iload_n 1, 1) := by decide +kernel
theorem d_L_dropRow_15 : decode prog_2_method_19_code 15 = .ok (.aload_n 0, 1) := by decide +kernel
theorem d_L_dropRow_16 : decode prog_2_method_19_code 16 = .ok (.getfield 21, 3) := by decide +kernel
theorem d_L_dropRow_19 : decode prog_2_method_19_code 19 = .ok (.aload_n 0, 1) := by decide +kernel
theorem d_L_dropRow_20 : decode prog_2_method_19_code 20 = .ok (.getfield 37, 3) := by decide +kernel
theorem d_L_dropRow_23 : decode prog_2_method_19_code 23 = .ok (.iaload, 1) := by decide +kernel
theorem d_L_dropRow_24 : decode prog_2_method_19_code 24 = .ok (.iastore, 1) := by decide +kernel
theorem d_L_dropRow_25 : decode prog_2_method_19_code 25 = .ok (.aload_n 0, 1) := by decide +kernel
theorem d_L_dropRow_26 : decode prog_2_method_19_code 26 = .ok (.getfield 24, 3) := by decide +kernel
theorem d_L_dropRow_29 : decode prog_2_method_19_code 29 = .ok (.iload_n 1, 1) := by decide +kernel
theorem d_L_dropRow_30 : decode prog_2_method_19_code 30 = .ok (.aload_n 0, 1) := by decide +kernel
theorem d_L_dropRow_31 : decode prog_2_method_19_code 31 = .ok (.getfield 24, 3) := by decide +kernel
theorem d_L_dropRow_34 : decode prog_2_method_19_code 34 = .ok (.aload_n 0, 1) := by decide +kernel
theorem d_L_dropRow_35 : decode prog_2_method_19_code 35 = .ok (.getfield 37, 3) := by decide +kernel
theorem d_L_dropRow_38 : decode prog_2_method_19_code 38 = .ok (.iaload, 1) := by decide +kernel
theorem d_L_dropRow_39 : decode prog_2_method_19_code 39 = .ok (.iastore, 1) := by decide +kernel
theorem d_L_dropRow_40 : decode prog_2_method_19_code 40 = .ok (.aload_n 0, 1) := by decide +kernel
theorem d_L_dropRow_41 : decode prog_2_method_19_code 41 = .ok (.getfield 27, 3) := by decide +kernel
theorem d_L_dropRow_44 : decode prog_2_method_19_code 44 = .ok (.iload_n 1, 1) := by decide +kernel
theorem d_L_dropRow_45 : decode prog_2_method_19_code 45 = .ok (.aload_n 0, 1) := by decide +kernel
theorem d_L_dropRow_46 : decode prog_2_method_19_code 46 = .ok (.getfield 27, 3) := by decide +kernel
theorem d_L_dropRow_49 : decode prog_2_method_19_code 49 = .ok (.aload_n 0, 1) := by decide +kernel
theorem d_L_dropRow_50 : decode prog_2_method_19_code 50 = .ok (.getfield 37, 3) := by decide +kernel
theorem d_L_dropRow_53 : decode prog_2_method_19_code 53 = .ok (.laload, 1) := by decide +kernel
theorem d_L_dropRow_54 : decode prog_2_method_19_code 54 = .ok (.lastore, 1) := by decide +kernel
theorem d_L_dropRow_55 : decode prog_2_method_19_code 55 = .ok (.aload_n 0, 1) := by decide +kernel
theorem d_L_dropRow_56 : decode prog_2_method_19_code 56 = .ok (.getfield 31, 3) := by decide +kernel
theorem d_L_dropRow_59 : decode prog_2_method_19_code 59 = .ok (.iload_n 1, 1) := by decide +kernel
theorem d_L_dropRow_60 : decode prog_2_method_19_code 60 = .ok (.aload_n 0, 1) := by decide +kernel
theorem d_L_dropRow_61 : decode prog_2_method_19_code 61 = .ok (.getfield 31, 3) := by decide +kernel
theorem d_L_dropRow_64 : decode prog_2_method_19_code 64 = .ok (.aload_n 0, 1) := by decide +kernel
theorem d_L_dropRow_65 : decode prog_2_method_19_code 65 = .ok (.getfield 37, 3) := by decide +kernel
theorem d_L_dropRow_68 : decode prog_2_method_19_code 68 = .ok (.laload, 1) := by decide +kernel
theorem d_L_dropRow_69 : decode prog_2_method_19_code 69 = .ok (.lastore, 1) := by decide +kernel
theorem d_L_dropRow_70 : decode prog_2_method_19_code 70 = .ok (.aload_n 0, 1) := by decide +kernel
theorem d_L_dropRow_71 : decode prog_2_method_19_code 71 = .ok (.getfield 34, 3) := by decide +kernel
theorem d_L_dropRow_74 : decode prog_2_method_19_code 74 = .ok (.iload_n 1, 1) := by decide +kernel
theorem d_L_dropRow_75 : decode prog_2_method_19_code 75 = .ok (.aload_n 0, 1) := by decide +kernel
theorem d_L_dropRow_76 : decode prog_2_method_19_code 76 = .ok (.getfield 34, 3) := by decide +kernel
theorem d_L_dropRow_79 : decode prog_2_method_19_code 79 = .ok (.aload_n 0, 1) := by decide +kernel
theorem d_L_dropRow_80 : decode prog_2_method_19_code 80 = .ok (.getfield 37, 3) := by decide +kernel
theorem d_L_dropRow_83 : decode prog_2_method_19_code 83 = .ok (.iaload, 1) := by decide +kernel
theorem d_L_dropRow_84 : decode prog_2_method_19_code 84 = .ok (.iastore, 1) := by decide +kernel
theorem d_L_dropRow_85 : decode prog_2_method_19_code 85 = .ok (.return_, 1) := by decide +kernel
theorem d_L_addRange_0 : decode prog_2_method_4_code 0 = .ok (.aload_n 0, 1) := by decide +kernel
theorem d_L_addRange_1 : decode prog_2_method_4_code 1 = .ok (.getfield 37, 3) := by decide +kernel
theorem d_L_addRange_4 : decode prog_2_method_4_code 4 = .ok (.sipush 256, 3) := by decide +kernel
theorem d_L_addRange_7 : decode prog_2_method_4_code 7 = .ok (.if_icmp .ge 65, 3) := by decide +kernel
theorem d_L_addRange_10 : decode prog_2_method_4_code 10 = .ok (.aload_n 0, 1) := by decide +kernel
theorem d_L_addRange_11 : decode prog_2_method_4_code 11 = .ok (.getfield 21, 3) := by decide +kernel
theorem d_L_addRange_14 : decode prog_2_method_4_code 14 = .ok (.aload_n 0, 1) := by decide +kernel
theorem d_L_addRange_15 : decode prog_2_method_4_code 15 = .ok (.getfield 37, 3) := by decide +kernel
theorem d_L_addRange_18 : decode prog_2_method_4_code 18 = .ok (.iload_n 1, 1) := by decide +kernel
theorem d_L_addRange_19 : decode prog_2_method_4_code 19 = .ok (.iastore, 1) := by decide +kernel
theorem d_L_addRange_20 : decode prog_2_method_4_code 20 = .ok (.aload_n 0, 1) := by decide +kernel
theorem d_L_addRange_21 : decode prog_2_method_4_code 21 = .ok (.getfield 24, 3) := by decide +kernel
theorem d_L_addRange_24 : decode prog_2_method_4_code 24 = .ok (.aload_n 0, 1) := by decide +kernel
theorem d_L_addRange_25 : decode prog_2_method_4_code 25 = .ok (.getfield 37, 3) := by decide +kernel
theorem d_L_addRange_28 : decode prog_2_method_4_code 28 = .ok (.iload_n 2, 1) := by decide +kernel
theorem d_L_addRange_29 : decode prog_2_method_4_code 29 = .ok (.iastore, 1) := by decide +kernel
theorem d_L_addRange_30 : decode prog_2_method_4_code 30 = .ok (.aload_n 0, 1) := by decide +kernel
theorem d_L_addRange_31 : decode prog_2_method_4_code 31 = .ok (.getfield 27, 3) := by decide +kernel
theorem d_L_addRange_34 : decode prog_2_method_4_code 34 = .ok (.aload_n 0, 1) := by decide +kernel
theorem d_L_addRange_35 : decode prog_2_method_4_code 35 = .ok (.getfield 37, 3) := by decide +kernel
theorem d_L_addRange_38 : decode prog_2_method_4_code 38 = .ok (.lload_n 3, 1) := by decide +kernel
theorem d_L_addRange_39 : decode prog_2_method_4_code 39 = .ok (.lastore, 1) := by decide +kernel
theorem d_L_addRange_40 : decode prog_2_method_4_code 40 = .ok (.aload_n 0, 1) := by decide +kernel
theorem d_L_addRange_41 : decode prog_2_method_4_code 41 = .ok (.getfield 31, 3) := by decide +kernel
theorem d_L_addRange_44 : decode prog_2_method_4_code 44 = .ok (.aload_n 0, 1) := by decide +kernel
theorem d_L_addRange_45 : decode prog_2_method_4_code 45 = .ok (.getfield 37, 3) := by decide +kernel
theorem d_L_addRange_48 : decode prog_2_method_4_code 48 = .ok (.lload 5, 2) := by decide +kernel
theorem d_L_addRange_50 : decode prog_2_method_4_code 50 = .ok (.lastore, 1) := by decide +kernel
theorem d_L_addRange_51 : decode prog_2_method_4_code 51 = .ok (.aload_n 0, 1) := by decide +kernel
theorem d_L_addRange_52 : decode prog_2_method_4_code 52 = .ok (.getfield 34, 3) := by decide +kernel
theorem d_L_addRange_55 : decode prog_2_method_4_code 55 = .ok (.aload_n 0, 1) := by decide +kernel
theorem d_L_addRange_56 : decode prog_2_method_4_code 56 = .ok (.getfield 37, 3) := by decide +kernel
theorem d_L_addRange_59 : decode prog_2_method_4_code 59 = .ok (.iload 7, 2) := by decide +kernel
theorem d_L_addRange_61 : decode prog_2_method_4_code 61 = .ok (.iastore, 1) := by decide +kernel
theorem d_L_addRange_62 : decode prog_2_method_4_code 62 = .ok (.aload_n 0, 1) := by decide +kernel
theorem d_L_addRange_63 : decode prog_2_method_4_code 63 = .ok (.dup, 1) := by decide +kernel
theorem d_L_addRange_64 : decode prog_2_method_4_code 64 = .ok (.getfield 37, 3) := by decide +kernel
theorem d_L_addRange_67 : decode prog_2_method_4_code 67 = .ok (.iconst 1, 1) := by decide +kernel
theorem d_L_addRange_68 : decode prog_2_method_4_code 68 = .ok (.iadd, 1) := by decide +kernel
theorem d_L_addRange_69 : decode prog_2_method_4_code 69 = .ok (.putfield 37, 3) := by decide +kernel
theorem d_L_addRange_72 : decode prog_2_method_4_code 72 = .ok (.return_, 1) := by decide +kernel
theorem d_L_countRanges_0 : decode prog_2_method_8_code 0 = .ok (.iconst 0, 1) := by decide +kernel
theorem d_L_countRanges_1 : decode prog_2_method_8_code 1 = .ok (.istore_n 3, 1) := by decide +kernel
theorem d_L_countRanges_2 : decode prog_2_method_8_code 2 = .ok (.iconst 0, 1) := by decide +kernel
theorem d_L_countRanges_3 : decode prog_2_method_8_code 3 = .ok (.istore 4, 2) := by decide +kernel
theorem d_L_countRanges_5 : decode prog_2_method_8_code 5 = .ok (.iload 4, 2) := by decide +kernel
theorem d_L_countRanges_7 : decode prog_2_method_8_code 7 = .ok (.aload_n 0, 1) := by decide +kernel
theorem d_L_countRanges_8 : decode prog_2_method_8_code 8 = .ok (.getfield 37, 3) := by decide +kernel
theorem d_L_countRanges_11 : decode prog_2_method_8_code 11 = .ok (.if_icmp .ge 23, 3) := by decide +kernel
theorem d_L_countRanges_14 : decode prog_2_method_8_code 14 = .ok (.aload_n 0, 1) := by decide +kernel
theorem d_L_countRanges_15 : decode prog_2_method_8_code 15 = .ok (.iload 4, 2) := by decide +kernel
theorem d_L_countRanges_17 : decode prog_2_method_8_code 17 = .ok (.iload_n 1, 1) := by decide +kernel
theorem d_L_countRanges_18 : decode prog_2_method_8_code 18 = .ok (.iload_n 2, 1) := by decide +kernel
theorem d_L_countRanges_19 : decode prog_2_method_8_code 19 = .ok (.invokevirtual 58, 3) := by decide +kernel
theorem d_L_countRanges_22 : decode prog_2_method_8_code 22 = .ok (.ifCond .eq 6, 3) := by decide +kernel
theorem d_L_countRanges_25 : decode prog_2_method_8_code 25 = .ok (.iinc 3 1, 3) := by decide +kernel
theorem d_L_countRanges_28 : decode prog_2_method_8_code 28 = .ok (.iinc 4 1, 3) := by decide +kernel
theorem d_L_countRanges_31 : decode prog_2_method_8_code 31 = .ok (.goto (-26), 3) := by decide +kernel
theorem d_L_countRanges_34 : decode prog_2_method_8_code 34 = .ok (.iload_n 3, 1) := by decide +kernel
theorem d_L_countRanges_35 : decode prog_2_method_8_code 35 = .ok (.ireturn, 1) := by decide +kernel
theorem d_L_coverRange_0 : decode prog_2_method_5_code 0 = .ok (.aload_n 0, 1) := by decide +kernel
theorem d_L_coverRange_1 : decode prog_2_method_5_code 1 = .ok (.iload_n 1, 1) := by decide +kernel
theorem d_L_coverRange_2 : decode prog_2_method_5_code 2 = .ok (.iload_n 2, 1) := by decide +kernel
theorem d_L_coverRange_3 : decode prog_2_method_5_code 3 = .ok (.invokevirtual 41, 3) := by decide +kernel
theorem d_L_coverRange_6 : decode prog_2_method_5_code 6 = .ok (.iload 7, 2) := by decide +kernel
theorem d_L_coverRange_8 : decode prog_2_method_5_code 8 = .ok (.invokestatic 45, 3) := by decide +kernel
theorem d_L_coverRange_11 : decode prog_2_method_5_code 11 = .ok (.ifCond .eq 5, 3) := by decide +kernel
theorem d_L_coverRange_14 : decode prog_2_method_5_code 14 = .ok (.iconst 1, 1) := by decide +kernel
theorem d_L_coverRange_15 : decode prog_2_method_5_code 15 = .ok (.ireturn, 1) := by decide +kernel
theorem d_L_coverRange_16 : decode prog_2_method_5_code 16 = .ok (.iconst 0, 1) := by decide +kernel
theorem d_L_coverRange_17 : decode prog_2_method_5_code 17 = .ok (.istore 8, 2) := by decide +kernel
theorem d_L_coverRange_19 : decode prog_2_method_5_code 19 = .ok (.iload 8, 2) := by decide +kernel
theorem d_L_coverRange_21 : decode prog_2_method_5_code 21 = .ok (.aload_n 0, 1) := by decide +kernel
theorem d_L_coverRange_22 : decode prog_2_method_5_code 22 = .ok (.getfield 37, 3) := by decide +kernel
theorem d_L_coverRange_25 : decode prog_2_method_5_code 25 = .ok (.if_icmp .ge 40, 3) := by decide +kernel
theorem d_L_coverRange_28 : decode prog_2_method_5_code 28 = .ok (.aload_n 0, 1) := by decide +kernel
theorem d_L_coverRange_29 : decode prog_2_method_5_code 29 = .ok (.iload 8, 2) := by decide +kernel
theorem d_L_coverRange_31 : decode prog_2_method_5_code 31 = .ok (.iload_n 1, 1) := by decide +kernel
theorem d_L_coverRange_32 : decode prog_2_method_5_code 32 = .ok (.iload_n 2, 1) := by decide +kernel
theorem d_L_coverRange_33 : decode prog_2_method_5_code 33 = .ok (.lload_n 3, 1) := by decide +kernel
theorem d_L_coverRange_34 : decode prog_2_method_5_code 34 = .ok (.lload 5, 2) := by decide +kernel
theorem d_L_coverRange_36 : decode prog_2_method_5_code 36 = .ok (.invokevirtual 51, 3) := by decide +kernel
theorem d_L_coverRange_39 : decode prog_2_method_5_code 39 = .ok (.ifCond .eq 20, 3) := by decide +kernel
theorem d_L_coverRange_42 : decode prog_2_method_5_code 42 = .ok (.aload_n 0, 1) := by decide +kernel
theorem d_L_coverRange_43 : decode prog_2_method_5_code 43 = .ok (.getfield 34, 3) := by decide +kernel
theorem d_L_coverRange_46 : decode prog_2_method_5_code 46 = .ok (.iload 8, 2) := by decide +kernel
theorem d_L_coverRange_48 : decode prog_2_method_5_code 48 = .ok (.iaload, 1) := by decide +kernel
theorem d_L_coverRange_49 : decode prog_2_method_5_code 49 = .ok (.iload 7, 2) := by decide +kernel
theorem d_L_coverRange_51 : decode prog_2_method_5_code 51 = .ok (.invokestatic 55, 3) := by decide +kernel
theorem d_L_coverRange_54 : decode prog_2_method_5_code 54 = .ok (.ifCond .eq 5, 3) := by decide +kernel
theorem d_L_coverRange_57 : decode prog_2_method_5_code 57 = .ok (.iconst 1, 1) := by decide +kernel
theorem d_L_coverRange_58 : decode prog_2_method_5_code 58 = .ok (.ireturn, 1) := by decide +kernel
theorem d_L_coverRange_59 : decode prog_2_method_5_code 59 = .ok (.iinc 8 1, 3) := by decide +kernel
theorem d_L_coverRange_62 : decode prog_2_method_5_code 62 = .ok (.goto (-43), 3) := by decide +kernel
theorem d_L_coverRange_65 : decode prog_2_method_5_code 65 = .ok (.iconst 0, 1) := by decide +kernel
theorem d_L_coverRange_66 : decode prog_2_method_5_code 66 = .ok (.ireturn, 1) := by decide +kernel
def F_L_heldMode (ltm : Nat → Int32) (a1 : Int32) (a2 : Int32) : Option (Int32) :=
  gd (((a1 * 16) + a2) < 0 ∨ 128 ≤ ((a1 * 16) + a2).toNatClampNeg) (some (ltm ((a1 * 16) + a2).toNatClampNeg))
set_option maxHeartbeats 4000000 in
set_option maxRecDepth 100000 in
theorem t_L_heldMode {p : Program} {l : Launch} {e : Env} {s : State} {m : MethodId} {args : Array Value} {below : List Frame} {meth : Method} {c : Code} {A : Nat → Prop} {g : va_G} {cI cJ cZ : ClassId} {ad : Nat → Nat} {rest : va_W} (K : kX p s m args meth c "LockTable$Locks" prog_2_method_2_code 3 (some .int) A g (kty cI cJ cZ)) (xst : Nat → Int32) (xse : Nat → Int32) (xre : Nat → Int32) (xgr : Nat → Int32) (ltm : Nat → Int32) (low : Nat → Int32) (lta : Nat → Int32) (llo : Nat → Int64) (lhi : Nat → Int64) (lmo : Nat → Int32) (rta : Nat → Int32) (ron : Nat → Int32) (rlo : Nat → Int64) (rhi : Nat → Int64) (rmo : Nat → Int32) (rin : Nat → Int32) (res : Nat → Int32) (rsi : Nat → Int32) (rli : Nat → Int32) (rar : Nat → Int32) (xgc : Int32) (xca : Int32) (xls : Int32) (xtl : Int32) (xno : Int32) (lco : Int32) (rwa : Int32) (rad : Int32) (a1 : Int32) (a2 : Int32) (r : Int32) (hF : F_L_heldMode ltm a1 a2 = some r) {H : Heap} {locs : List Loc} {ls : Array Slot} (hP : va_P g kcl (wC cI cJ cZ ad xst xse xre xgr ltm low lta llo lhi lmo rta ron rlo rhi rmo rin res rsi rli rar xgc xca xls xtl xno lco rwa rad rest) H) (hD : va_D A (wC cI cJ cZ ad xst xse xre xgr ltm low lta llo lhi lmo rta ron rlo rhi rmo rin res rsi rli rar xgc xca xls xtl xno lco rwa rad rest)) (hS : va_S A s.heap H locs) (hl : lv_has ls 3 [(0, .ref (ad 1)), (1, .int a1), (2, .int a2)]) : W p l e ({ frames := 0, cells := 0, slots := 0, locals := 0 }) s m args below meth c H locs 0 0 (MQ below (kQi g (kty cI cJ cZ) (wC cI cJ cZ ad xst xse xre xgr ltm low lta llo lhi lmo rta ron rlo rhi rmo rin res rsi rli rar xgc xca xls xtl xno lco rwa rad rest) A r) args s 0 0 A) (F0 m 0 ls []) := by
  obtain ⟨hx, hb, hr, hml, hown, hts, hlocks, hK, hA, hE⟩ := id K
  unfold F_L_heldMode at hF
  refine lv_aload_n hx hb d_L_heldMode_0 rfl (lv_at hl 0 rfl) ?_
  refine va_get (D := g) (ci := 0) (v := .ref (ad 7)) (C := kR0) (T := kT0) (N := 7) hx hb hts kw0 hown hK hP 1 rfl rfl 0 (by decide) (hts _ wm_78) (fun _ h9 => h9) rfl d_L_heldMode_1 ?_
  refine lv_iload_n hx hb d_L_heldMode_4 rfl (lv_at hl 1 rfl) ?_
  refine lv_bipush (v := 16) hx hb d_L_heldMode_5 (by decide) ?_
  refine lv_imul hx hb d_L_heldMode_7 ?_
  refine lv_iload_n hx hb d_L_heldMode_8 rfl (lv_at hl 2 rfl) ?_
  refine lv_iadd hx hb d_L_heldMode_9 ?_
  obtain ⟨hg_1, hF⟩ := gd_inv hF
  refine va_iald hx hb hK hP 7 0 rfl rfl hg_1 d_L_heldMode_10 ?_
  cases hF
  exact kri K hP hD hS d_L_heldMode_11 rfl
theorem c_L_heldMode (l : Launch) (g : va_G) (cI cJ cZ : ClassId) (ad : Nat → Nat) (xst : Nat → Int32) (xse : Nat → Int32) (xre : Nat → Int32) (xgr : Nat → Int32) (ltm : Nat → Int32) (low : Nat → Int32) (lta : Nat → Int32) (llo : Nat → Int64) (lhi : Nat → Int64) (lmo : Nat → Int32) (rta : Nat → Int32) (ron : Nat → Int32) (rlo : Nat → Int64) (rhi : Nat → Int64) (rmo : Nat → Int32) (rin : Nat → Int32) (res : Nat → Int32) (rsi : Nat → Int32) (rli : Nat → Int32) (rar : Nat → Int32) (xgc : Int32) (xca : Int32) (xls : Int32) (xtl : Int32) (xno : Int32) (lco : Int32) (rwa : Int32) (rad : Int32) (rest : va_W) (a1 : Int32) (a2 : Int32) (r : Int32) (hF : F_L_heldMode ltm a1 a2 = some r) : Ci l y_L_heldMode prog_2_method_2_code 3 (some .int) ({ frames := 0, cells := 0, slots := 0, locals := 0 }) [.ref (ad 1), .int a1, .int a2] g (kty cI cJ cZ) (wC cI cJ cZ ad xst xse xre xgr ltm low lta llo lhi lmo rta ron rlo rhi rmo rin res rsi rli rar xgc xca xls xtl xno lco rwa rad rest) (wC cI cJ cZ ad xst xse xre xgr ltm low lta llo lhi lmo rta ron rlo rhi rmo rin res rsi rli rar xgc xca xls xtl xno lco rwa rad rest) r :=
  Ci.of (by decide) (Nat.le_of_ble_eq_true rfl) (fun p e s m below meth c A ls K hP hD hS hl => t_L_heldMode K xst xse xre xgr ltm low lta llo lhi lmo rta ron rlo rhi rmo rin res rsi rli rar xgc xca xls xtl xno lco rwa rad a1 a2 r hF hP hD hS hl)
def F_L_setTable (ltm : Nat → Int32) (a1 : Int32) (a2 : Int32) (a3 : Int32) : Option ((Nat → Int32)) :=
  gd (((a1 * 16) + a2) < 0 ∨ 128 ≤ ((a1 * 16) + a2).toNatClampNeg) (some (upd ltm ((a1 * 16) + a2).toNatClampNeg a3))
set_option maxHeartbeats 4000000 in
set_option maxRecDepth 100000 in
theorem t_L_setTable {p : Program} {l : Launch} {e : Env} {s : State} {m : MethodId} {args : Array Value} {below : List Frame} {meth : Method} {c : Code} {A : Nat → Prop} {g : va_G} {cI cJ cZ : ClassId} {ad : Nat → Nat} {rest : va_W} (K : kX p s m args meth c "LockTable$Locks" prog_2_method_3_code 4 none A g (kty cI cJ cZ)) (xst : Nat → Int32) (xse : Nat → Int32) (xre : Nat → Int32) (xgr : Nat → Int32) (ltm : Nat → Int32) (low : Nat → Int32) (lta : Nat → Int32) (llo : Nat → Int64) (lhi : Nat → Int64) (lmo : Nat → Int32) (rta : Nat → Int32) (ron : Nat → Int32) (rlo : Nat → Int64) (rhi : Nat → Int64) (rmo : Nat → Int32) (rin : Nat → Int32) (res : Nat → Int32) (rsi : Nat → Int32) (rli : Nat → Int32) (rar : Nat → Int32) (xgc : Int32) (xca : Int32) (xls : Int32) (xtl : Int32) (xno : Int32) (lco : Int32) (rwa : Int32) (rad : Int32) (a1 : Int32) (a2 : Int32) (a3 : Int32) (o_ltm : Nat → Int32) (hF : F_L_setTable ltm a1 a2 a3 = some o_ltm) {H : Heap} {locs : List Loc} {ls : Array Slot} (hP : va_P g kcl (wC cI cJ cZ ad xst xse xre xgr ltm low lta llo lhi lmo rta ron rlo rhi rmo rin res rsi rli rar xgc xca xls xtl xno lco rwa rad rest) H) (hD : va_D A (wC cI cJ cZ ad xst xse xre xgr ltm low lta llo lhi lmo rta ron rlo rhi rmo rin res rsi rli rar xgc xca xls xtl xno lco rwa rad rest)) (hS : va_S A s.heap H locs) (hl : lv_has ls 4 [(0, .ref (ad 1)), (1, .int a1), (2, .int a2), (3, .int a3)]) : W p l e ({ frames := 0, cells := 0, slots := 0, locals := 0 }) s m args below meth c H locs 0 0 (MQ below (kQv g (kty cI cJ cZ) (wC cI cJ cZ ad xst xse xre xgr o_ltm low lta llo lhi lmo rta ron rlo rhi rmo rin res rsi rli rar xgc xca xls xtl xno lco rwa rad rest) A) args s 0 0 A) (F0 m 0 ls []) := by
  obtain ⟨hx, hb, hr, hml, hown, hts, hlocks, hK, hA, hE⟩ := id K
  unfold F_L_setTable at hF
  refine lv_aload_n hx hb d_L_setTable_0 rfl (lv_at hl 0 rfl) ?_
  refine va_get (D := g) (ci := 0) (v := .ref (ad 7)) (C := kR0) (T := kT0) (N := 7) hx hb hts kw0 hown hK hP 1 rfl rfl 0 (by decide) (hts _ wm_78) (fun _ h9 => h9) rfl d_L_setTable_1 ?_
  refine lv_iload_n hx hb d_L_setTable_4 rfl (lv_at hl 1 rfl) ?_
  refine lv_bipush (v := 16) hx hb d_L_setTable_5 (by decide) ?_
  refine lv_imul hx hb d_L_setTable_7 ?_
  refine lv_iload_n hx hb d_L_setTable_8 rfl (lv_at hl 2 rfl) ?_
  refine lv_iadd hx hb d_L_setTable_9 ?_
  refine lv_iload_n hx hb d_L_setTable_10 rfl (lv_at hl 3 rfl) ?_
  obtain ⟨hg_1, hF⟩ := gd_inv hF
  refine va_iast hx hb hK hP hD hS 7 0 rfl rfl hg_1 d_L_setTable_11 (fun H locs hP hD hS => ?_)
  have hP : va_P g kcl (wC cI cJ cZ ad xst xse xre xgr (upd ltm ((a1 * 16) + a2).toNatClampNeg a3) low lta llo lhi lmo rta ron rlo rhi rmo rin res rsi rli rar xgc xca xls xtl xno lco rwa rad rest) H := hP
  have hD : va_D A (wC cI cJ cZ ad xst xse xre xgr (upd ltm ((a1 * 16) + a2).toNatClampNeg a3) low lta llo lhi lmo rta ron rlo rhi rmo rin res rsi rli rar xgc xca xls xtl xno lco rwa rad rest) := hD
  cases hF
  exact krv K hP hD hS d_L_setTable_12
theorem c_L_setTable (l : Launch) (g : va_G) (cI cJ cZ : ClassId) (ad : Nat → Nat) (xst : Nat → Int32) (xse : Nat → Int32) (xre : Nat → Int32) (xgr : Nat → Int32) (ltm : Nat → Int32) (low : Nat → Int32) (lta : Nat → Int32) (llo : Nat → Int64) (lhi : Nat → Int64) (lmo : Nat → Int32) (rta : Nat → Int32) (ron : Nat → Int32) (rlo : Nat → Int64) (rhi : Nat → Int64) (rmo : Nat → Int32) (rin : Nat → Int32) (res : Nat → Int32) (rsi : Nat → Int32) (rli : Nat → Int32) (rar : Nat → Int32) (xgc : Int32) (xca : Int32) (xls : Int32) (xtl : Int32) (xno : Int32) (lco : Int32) (rwa : Int32) (rad : Int32) (rest : va_W) (a1 : Int32) (a2 : Int32) (a3 : Int32) (o_ltm : Nat → Int32) (hF : F_L_setTable ltm a1 a2 a3 = some o_ltm) : Cv l y_L_setTable prog_2_method_3_code 4 ({ frames := 0, cells := 0, slots := 0, locals := 0 }) [.ref (ad 1), .int a1, .int a2, .int a3] g (kty cI cJ cZ) (wC cI cJ cZ ad xst xse xre xgr ltm low lta llo lhi lmo rta ron rlo rhi rmo rin res rsi rli rar xgc xca xls xtl xno lco rwa rad rest) (wC cI cJ cZ ad xst xse xre xgr o_ltm low lta llo lhi lmo rta ron rlo rhi rmo rin res rsi rli rar xgc xca xls xtl xno lco rwa rad rest) :=
  Cv.of (by decide) (Nat.le_of_ble_eq_true rfl) (fun p e s m below meth c A ls K hP hD hS hl => t_L_setTable K xst xse xre xgr ltm low lta llo lhi lmo rta ron rlo rhi rmo rin res rsi rli rar xgc xca xls xtl xno lco rwa rad a1 a2 a3 o_ltm hF hP hD hS hl)
def F_L_isOn (low : Nat → Int32) (lta : Nat → Int32) (a1 : Int32) (a2 : Int32) (a3 : Int32) : Option (Int32) :=
  gd (a1 < 0 ∨ 256 ≤ a1.toNatClampNeg) (if (low a1.toNatClampNeg) = a2 then gd (a1 < 0 ∨ 256 ≤ a1.toNatClampNeg) (if (lta a1.toNatClampNeg) = a3 then some 1 else some 0) else some 0)
set_option maxHeartbeats 4000000 in
set_option maxRecDepth 100000 in
theorem t_L_isOn {p : Program} {l : Launch} {e : Env} {s : State} {m : MethodId} {args : Array Value} {below : List Frame} {meth : Method} {c : Code} {A : Nat → Prop} {g : va_G} {cI cJ cZ : ClassId} {ad : Nat → Nat} {rest : va_W} (K : kX p s m args meth c "LockTable$Locks" prog_2_method_17_code 4 (some .boolean) A g (kty cI cJ cZ)) (xst : Nat → Int32) (xse : Nat → Int32) (xre : Nat → Int32) (xgr : Nat → Int32) (ltm : Nat → Int32) (low : Nat → Int32) (lta : Nat → Int32) (llo : Nat → Int64) (lhi : Nat → Int64) (lmo : Nat → Int32) (rta : Nat → Int32) (ron : Nat → Int32) (rlo : Nat → Int64) (rhi : Nat → Int64) (rmo : Nat → Int32) (rin : Nat → Int32) (res : Nat → Int32) (rsi : Nat → Int32) (rli : Nat → Int32) (rar : Nat → Int32) (xgc : Int32) (xca : Int32) (xls : Int32) (xtl : Int32) (xno : Int32) (lco : Int32) (rwa : Int32) (rad : Int32) (a1 : Int32) (a2 : Int32) (a3 : Int32) (r : Int32) (hF : F_L_isOn low lta a1 a2 a3 = some r) {H : Heap} {locs : List Loc} {ls : Array Slot} (hP : va_P g kcl (wC cI cJ cZ ad xst xse xre xgr ltm low lta llo lhi lmo rta ron rlo rhi rmo rin res rsi rli rar xgc xca xls xtl xno lco rwa rad rest) H) (hD : va_D A (wC cI cJ cZ ad xst xse xre xgr ltm low lta llo lhi lmo rta ron rlo rhi rmo rin res rsi rli rar xgc xca xls xtl xno lco rwa rad rest)) (hS : va_S A s.heap H locs) (hl : lv_has ls 4 [(0, .ref (ad 1)), (1, .int a1), (2, .int a2), (3, .int a3)]) : W p l e ({ frames := 0, cells := 0, slots := 0, locals := 0 }) s m args below meth c H locs 0 0 (MQ below (kQi g (kty cI cJ cZ) (wC cI cJ cZ ad xst xse xre xgr ltm low lta llo lhi lmo rta ron rlo rhi rmo rin res rsi rli rar xgc xca xls xtl xno lco rwa rad rest) A r) args s 0 0 A) (F0 m 0 ls []) := by
  obtain ⟨hx, hb, hr, hml, hown, hts, hlocks, hK, hA, hE⟩ := id K
  unfold F_L_isOn at hF
  refine lv_aload_n hx hb d_L_isOn_0 rfl (lv_at hl 0 rfl) ?_
  refine va_get (D := g) (ci := 0) (v := .ref (ad 8)) (C := kR0) (T := kT0) (N := 7) hx hb hts kw0 hown hK hP 1 rfl rfl 1 (by decide) (hts _ wm_79) (fun _ h9 => h9) rfl d_L_isOn_1 ?_
  refine lv_iload_n hx hb d_L_isOn_4 rfl (lv_at hl 1 rfl) ?_
  obtain ⟨hg_1, hF⟩ := gd_inv hF
  refine va_iald hx hb hK hP 8 0 rfl rfl hg_1 d_L_isOn_5 ?_
  refine lv_iload_n hx hb d_L_isOn_6 rfl (lv_at hl 2 rfl) ?_
  refine lv_icmp_ne (tgt := 24) hx hb d_L_isOn_7 (by decide) (fun hc_2 => ?_) (fun hc_2 => ?_)
  · have hF := it_f hF hc_2
    refine lv_iconst (v := 0) hx hb d_L_isOn_24 (by decide) ?_
    cases hF
    exact krz K hP hD hS d_L_isOn_25 rfl rfl
  · have hF := it_t hF hc_2
    refine lv_aload_n hx hb d_L_isOn_10 rfl (lv_at hl 0 rfl) ?_
    refine va_get (D := g) (ci := 0) (v := .ref (ad 9)) (C := kR0) (T := kT0) (N := 7) hx hb hts kw0 hown hK hP 1 rfl rfl 2 (by decide) (hts _ wm_80) (fun _ h9 => h9) rfl d_L_isOn_11 ?_
    refine lv_iload_n hx hb d_L_isOn_14 rfl (lv_at hl 1 rfl) ?_
    obtain ⟨hg_3, hF⟩ := gd_inv hF
    refine va_iald hx hb hK hP 9 0 rfl rfl hg_3 d_L_isOn_15 ?_
    refine lv_iload_n hx hb d_L_isOn_16 rfl (lv_at hl 3 rfl) ?_
    refine lv_icmp_ne (tgt := 24) hx hb d_L_isOn_17 (by decide) (fun hc_4 => ?_) (fun hc_4 => ?_)
    · have hF := it_f hF hc_4
      refine lv_iconst (v := 0) hx hb d_L_isOn_24 (by decide) ?_
      cases hF
      exact krz K hP hD hS d_L_isOn_25 rfl rfl
    · have hF := it_t hF hc_4
      refine lv_iconst (v := 1) hx hb d_L_isOn_20 (by decide) ?_
      refine lv_goto (tgt := 25) hx hb d_L_isOn_21 (by decide) ?_
      cases hF
      exact krz K hP hD hS d_L_isOn_25 rfl rfl
theorem c_L_isOn (l : Launch) (g : va_G) (cI cJ cZ : ClassId) (ad : Nat → Nat) (xst : Nat → Int32) (xse : Nat → Int32) (xre : Nat → Int32) (xgr : Nat → Int32) (ltm : Nat → Int32) (low : Nat → Int32) (lta : Nat → Int32) (llo : Nat → Int64) (lhi : Nat → Int64) (lmo : Nat → Int32) (rta : Nat → Int32) (ron : Nat → Int32) (rlo : Nat → Int64) (rhi : Nat → Int64) (rmo : Nat → Int32) (rin : Nat → Int32) (res : Nat → Int32) (rsi : Nat → Int32) (rli : Nat → Int32) (rar : Nat → Int32) (xgc : Int32) (xca : Int32) (xls : Int32) (xtl : Int32) (xno : Int32) (lco : Int32) (rwa : Int32) (rad : Int32) (rest : va_W) (a1 : Int32) (a2 : Int32) (a3 : Int32) (r : Int32) (hF : F_L_isOn low lta a1 a2 a3 = some r) : Ci l y_L_isOn prog_2_method_17_code 4 (some .boolean) ({ frames := 0, cells := 0, slots := 0, locals := 0 }) [.ref (ad 1), .int a1, .int a2, .int a3] g (kty cI cJ cZ) (wC cI cJ cZ ad xst xse xre xgr ltm low lta llo lhi lmo rta ron rlo rhi rmo rin res rsi rli rar xgc xca xls xtl xno lco rwa rad rest) (wC cI cJ cZ ad xst xse xre xgr ltm low lta llo lhi lmo rta ron rlo rhi rmo rin res rsi rli rar xgc xca xls xtl xno lco rwa rad rest) r :=
  Ci.of (by decide) (Nat.le_of_ble_eq_true rfl) (fun p e s m below meth c A ls K hP hD hS hl => t_L_isOn K xst xse xre xgr ltm low lta llo lhi lmo rta ron rlo rhi rmo rin res rsi rli rar xgc xca xls xtl xno lco rwa rad a1 a2 a3 r hF hP hD hS hl)
def F_L_isRound (low : Nat → Int32) (lta : Nat → Int32) (llo : Nat → Int64) (lhi : Nat → Int64) (a1 : Int32) (a2 : Int32) (a3 : Int32) (a4 : Int64) (a5 : Int64) : Option (Int32) :=
  ob1 (F_L_isOn low lta a1 a2 a3) (fun r_1 => if r_1 = 0 then some 0 else gd (a1 < 0 ∨ 256 ≤ a1.toNatClampNeg) (if 0 < (lg_cmp (llo a1.toNatClampNeg) a4) then some 0 else gd (a1 < 0 ∨ 256 ≤ a1.toNatClampNeg) (if 0 < (lg_cmp a5 (lhi a1.toNatClampNeg)) then some 0 else some 1)))
set_option maxHeartbeats 4000000 in
set_option maxRecDepth 100000 in
theorem t_L_isRound {p : Program} {l : Launch} {e : Env} {s : State} {m : MethodId} {args : Array Value} {below : List Frame} {meth : Method} {c : Code} {A : Nat → Prop} {g : va_G} {cI cJ cZ : ClassId} {ad : Nat → Nat} {rest : va_W} (K : kX p s m args meth c "LockTable$Locks" prog_2_method_18_code 8 (some .boolean) A g (kty cI cJ cZ)) (xst : Nat → Int32) (xse : Nat → Int32) (xre : Nat → Int32) (xgr : Nat → Int32) (ltm : Nat → Int32) (low : Nat → Int32) (lta : Nat → Int32) (llo : Nat → Int64) (lhi : Nat → Int64) (lmo : Nat → Int32) (rta : Nat → Int32) (ron : Nat → Int32) (rlo : Nat → Int64) (rhi : Nat → Int64) (rmo : Nat → Int32) (rin : Nat → Int32) (res : Nat → Int32) (rsi : Nat → Int32) (rli : Nat → Int32) (rar : Nat → Int32) (xgc : Int32) (xca : Int32) (xls : Int32) (xtl : Int32) (xno : Int32) (lco : Int32) (rwa : Int32) (rad : Int32) (a1 : Int32) (a2 : Int32) (a3 : Int32) (a4 : Int64) (a5 : Int64) (r : Int32) (hF : F_L_isRound low lta llo lhi a1 a2 a3 a4 a5 = some r) {H : Heap} {locs : List Loc} {ls : Array Slot} (hP : va_P g kcl (wC cI cJ cZ ad xst xse xre xgr ltm low lta llo lhi lmo rta ron rlo rhi rmo rin res rsi rli rar xgc xca xls xtl xno lco rwa rad rest) H) (hD : va_D A (wC cI cJ cZ ad xst xse xre xgr ltm low lta llo lhi lmo rta ron rlo rhi rmo rin res rsi rli rar xgc xca xls xtl xno lco rwa rad rest)) (hS : va_S A s.heap H locs) (hl : lv_has ls 8 [(0, .ref (ad 1)), (1, .int a1), (2, .int a2), (3, .int a3), (4, .long a4), (6, .long a5)]) : W p l e ({ frames := 1, cells := 0, slots := 0, locals := 23 }) s m args below meth c H locs 0 0 (MQ below (kQi g (kty cI cJ cZ) (wC cI cJ cZ ad xst xse xre xgr ltm low lta llo lhi lmo rta ron rlo rhi rmo rin res rsi rli rar xgc xca xls xtl xno lco rwa rad rest) A r) args s 0 0 A) (F0 m 0 ls []) := by
  obtain ⟨hx, hb, hr, hml, hown, hts, hlocks, hK, hA, hE⟩ := id K
  unfold F_L_isRound at hF
  refine lv_aload_n hx hb d_L_isRound_0 rfl (lv_at hl 0 rfl) ?_
  refine lv_iload_n hx hb d_L_isRound_1 rfl (lv_at hl 1 rfl) ?_
  refine lv_iload_n hx hb d_L_isRound_2 rfl (lv_at hl 2 rfl) ?_
  refine lv_iload_n hx hb d_L_isRound_3 rfl (lv_at hl 3 rfl) ?_
  obtain ⟨r_1, hG, hF⟩ := ob1_inv hF
  refine kci K hP hD hS (c_L_isOn l g cI cJ cZ ad xst xse xre xgr ltm low lta llo lhi lmo rta ron rlo rhi rmo rin res rsi rli rar xgc xca xls xtl xno lco rwa rad rest a1 a2 a3 r_1 hG) wm_410 wm_407 wm_409 wm_9 wm_48 hd_L_isOn rfl rfl ⟨Nat.le_of_ble_eq_true rfl, Nat.le_of_ble_eq_true rfl⟩ ⟨Nat.zero_le _, Nat.zero_le _⟩ 0 1 rfl rfl rfl hl.1 (rest := []) rfl (Nat.le_of_ble_eq_true rfl) d_L_isRound_4 (fun H locs hP hD hS => ?_)
  refine lv_if_eq (tgt := 38) hx hb d_L_isRound_7 (by decide) (fun hc_2 => ?_) (fun hc_2 => ?_)
  · have hF := it_t hF hc_2
    refine lv_iconst (v := 0) hx hb d_L_isRound_38 (by decide) ?_
    cases hF
    exact krz K hP hD hS d_L_isRound_39 rfl rfl
  · have hF := it_f hF hc_2
    refine lv_aload_n hx hb d_L_isRound_10 rfl (lv_at hl 0 rfl) ?_
    refine va_get (D := g) (ci := 0) (v := .ref (ad 10)) (C := kR0) (T := kT0) (N := 7) hx hb hts kw0 hown hK hP 1 rfl rfl 3 (by decide) (hts _ wm_81) (fun _ h9 => h9) rfl d_L_isRound_11 ?_
    refine lv_iload_n hx hb d_L_isRound_14 rfl (lv_at hl 1 rfl) ?_
    obtain ⟨hg_3, hF⟩ := gd_inv hF
    refine va_lald hx hb hK hP 10 1 rfl rfl hg_3 d_L_isRound_15 ?_
    refine lv_lload hx hb d_L_isRound_16 (lv_at hl 4 rfl) ?_
    refine W.lcmp hx hb d_L_isRound_18 ?_
    refine lv_if_gt (tgt := 38) hx hb d_L_isRound_19 (by decide) (fun hc_4 => ?_) (fun hc_4 => ?_)
    · have hF := it_t hF hc_4
      refine lv_iconst (v := 0) hx hb d_L_isRound_38 (by decide) ?_
      cases hF
      exact krz K hP hD hS d_L_isRound_39 rfl rfl
    · have hF := it_f hF hc_4
      refine lv_lload hx hb d_L_isRound_22 (lv_at hl 5 rfl) ?_
      refine lv_aload_n hx hb d_L_isRound_24 rfl (lv_at hl 0 rfl) ?_
      refine va_get (D := g) (ci := 0) (v := .ref (ad 11)) (C := kR0) (T := kT0) (N := 7) hx hb hts kw0 hown hK hP 1 rfl rfl 4 (by decide) (hts _ wm_82) (fun _ h9 => h9) rfl d_L_isRound_25 ?_
      refine lv_iload_n hx hb d_L_isRound_28 rfl (lv_at hl 1 rfl) ?_
      obtain ⟨hg_5, hF⟩ := gd_inv hF
      refine va_lald hx hb hK hP 11 1 rfl rfl hg_5 d_L_isRound_29 ?_
      refine W.lcmp hx hb d_L_isRound_30 ?_
      refine lv_if_gt (tgt := 38) hx hb d_L_isRound_31 (by decide) (fun hc_6 => ?_) (fun hc_6 => ?_)
      · have hF := it_t hF hc_6
        refine lv_iconst (v := 0) hx hb d_L_isRound_38 (by decide) ?_
        cases hF
        exact krz K hP hD hS d_L_isRound_39 rfl rfl
      · have hF := it_f hF hc_6
        refine lv_iconst (v := 1) hx hb d_L_isRound_34 (by decide) ?_
        refine lv_goto (tgt := 39) hx hb d_L_isRound_35 (by decide) ?_
        cases hF
        exact krz K hP hD hS d_L_isRound_39 rfl rfl
theorem c_L_isRound (l : Launch) (g : va_G) (cI cJ cZ : ClassId) (ad : Nat → Nat) (xst : Nat → Int32) (xse : Nat → Int32) (xre : Nat → Int32) (xgr : Nat → Int32) (ltm : Nat → Int32) (low : Nat → Int32) (lta : Nat → Int32) (llo : Nat → Int64) (lhi : Nat → Int64) (lmo : Nat → Int32) (rta : Nat → Int32) (ron : Nat → Int32) (rlo : Nat → Int64) (rhi : Nat → Int64) (rmo : Nat → Int32) (rin : Nat → Int32) (res : Nat → Int32) (rsi : Nat → Int32) (rli : Nat → Int32) (rar : Nat → Int32) (xgc : Int32) (xca : Int32) (xls : Int32) (xtl : Int32) (xno : Int32) (lco : Int32) (rwa : Int32) (rad : Int32) (rest : va_W) (a1 : Int32) (a2 : Int32) (a3 : Int32) (a4 : Int64) (a5 : Int64) (r : Int32) (hF : F_L_isRound low lta llo lhi a1 a2 a3 a4 a5 = some r) : Ci l y_L_isRound prog_2_method_18_code 8 (some .boolean) ({ frames := 1, cells := 0, slots := 0, locals := 23 }) [.ref (ad 1), .int a1, .int a2, .int a3, .long a4, .long a5] g (kty cI cJ cZ) (wC cI cJ cZ ad xst xse xre xgr ltm low lta llo lhi lmo rta ron rlo rhi rmo rin res rsi rli rar xgc xca xls xtl xno lco rwa rad rest) (wC cI cJ cZ ad xst xse xre xgr ltm low lta llo lhi lmo rta ron rlo rhi rmo rin res rsi rli rar xgc xca xls xtl xno lco rwa rad rest) r :=
  Ci.of (by decide) (Nat.le_of_ble_eq_true rfl) (fun p e s m below meth c A ls K hP hD hS hl => t_L_isRound K xst xse xre xgr ltm low lta llo lhi lmo rta ron rlo rhi rmo rin res rsi rli rar xgc xca xls xtl xno lco rwa rad a1 a2 a3 a4 a5 r hF hP hD hS hl)
def F_L_dropRow (low : Nat → Int32) (lta : Nat → Int32) (llo : Nat → Int64) (lhi : Nat → Int64) (lmo : Nat → Int32) (lco : Int32) (a1 : Int32) : Option ((Nat → Int32) × (Nat → Int32) × (Nat → Int64) × (Nat → Int64) × (Nat → Int32) × Int32) :=
  gd ((lco - 1) < 0 ∨ 256 ≤ (lco - 1).toNatClampNeg) (gd (a1 < 0 ∨ 256 ≤ a1.toNatClampNeg) (gd ((lco - 1) < 0 ∨ 256 ≤ (lco - 1).toNatClampNeg) (gd (a1 < 0 ∨ 256 ≤ a1.toNatClampNeg) (gd ((lco - 1) < 0 ∨ 256 ≤ (lco - 1).toNatClampNeg) (gd (a1 < 0 ∨ 256 ≤ a1.toNatClampNeg) (gd ((lco - 1) < 0 ∨ 256 ≤ (lco - 1).toNatClampNeg) (gd (a1 < 0 ∨ 256 ≤ a1.toNatClampNeg) (gd ((lco - 1) < 0 ∨ 256 ≤ (lco - 1).toNatClampNeg) (gd (a1 < 0 ∨ 256 ≤ a1.toNatClampNeg) (some (upd low a1.toNatClampNeg (low (lco - 1).toNatClampNeg), upd lta a1.toNatClampNeg (lta (lco - 1).toNatClampNeg), vp_updL llo a1.toNatClampNeg (llo (lco - 1).toNatClampNeg), vp_updL lhi a1.toNatClampNeg (lhi (lco - 1).toNatClampNeg), upd lmo a1.toNatClampNeg (lmo (lco - 1).toNatClampNeg), lco - 1)))))))))))
set_option maxHeartbeats 4000000 in
set_option maxRecDepth 100000 in
theorem t_L_dropRow {p : Program} {l : Launch} {e : Env} {s : State} {m : MethodId} {args : Array Value} {below : List Frame} {meth : Method} {c : Code} {A : Nat → Prop} {g : va_G} {cI cJ cZ : ClassId} {ad : Nat → Nat} {rest : va_W} (K : kX p s m args meth c "LockTable$Locks" prog_2_method_19_code 2 none A g (kty cI cJ cZ)) (xst : Nat → Int32) (xse : Nat → Int32) (xre : Nat → Int32) (xgr : Nat → Int32) (ltm : Nat → Int32) (low : Nat → Int32) (lta : Nat → Int32) (llo : Nat → Int64) (lhi : Nat → Int64) (lmo : Nat → Int32) (rta : Nat → Int32) (ron : Nat → Int32) (rlo : Nat → Int64) (rhi : Nat → Int64) (rmo : Nat → Int32) (rin : Nat → Int32) (res : Nat → Int32) (rsi : Nat → Int32) (rli : Nat → Int32) (rar : Nat → Int32) (xgc : Int32) (xca : Int32) (xls : Int32) (xtl : Int32) (xno : Int32) (lco : Int32) (rwa : Int32) (rad : Int32) (a1 : Int32) (o_low : Nat → Int32) (o_lta : Nat → Int32) (o_llo : Nat → Int64) (o_lhi : Nat → Int64) (o_lmo : Nat → Int32) (o_lco : Int32) (hF : F_L_dropRow low lta llo lhi lmo lco a1 = some (o_low, o_lta, o_llo, o_lhi, o_lmo, o_lco)) {H : Heap} {locs : List Loc} {ls : Array Slot} (hP : va_P g kcl (wC cI cJ cZ ad xst xse xre xgr ltm low lta llo lhi lmo rta ron rlo rhi rmo rin res rsi rli rar xgc xca xls xtl xno lco rwa rad rest) H) (hD : va_D A (wC cI cJ cZ ad xst xse xre xgr ltm low lta llo lhi lmo rta ron rlo rhi rmo rin res rsi rli rar xgc xca xls xtl xno lco rwa rad rest)) (hS : va_S A s.heap H locs) (hl : lv_has ls 2 [(0, .ref (ad 1)), (1, .int a1)]) : W p l e ({ frames := 0, cells := 0, slots := 0, locals := 0 }) s m args below meth c H locs 0 0 (MQ below (kQv g (kty cI cJ cZ) (wC cI cJ cZ ad xst xse xre xgr ltm o_low o_lta o_llo o_lhi o_lmo rta ron rlo rhi rmo rin res rsi rli rar xgc xca xls xtl xno o_lco rwa rad rest) A) args s 0 0 A) (F0 m 0 ls []) := by
  obtain ⟨hx, hb, hr, hml, hown, hts, hlocks, hK, hA, hE⟩ := id K
  unfold F_L_dropRow at hF
  refine lv_aload_n hx hb d_L_dropRow_0 rfl (lv_at hl 0 rfl) ?_
  refine lv_dup hx hb d_L_dropRow_1 rfl ?_
  refine va_get (D := g) (ci := 0) (v := .int lco) (C := kR0) (T := kT0) (N := 7) hx hb hts kw0 hown hK hP 1 rfl rfl 6 (by decide) (hts _ wm_84) (fun _ h9 => h9) rfl d_L_dropRow_2 ?_
  refine lv_iconst (v := 1) hx hb d_L_dropRow_5 (by decide) ?_
  refine lv_isub hx hb d_L_dropRow_6 ?_
  refine va_put (D := g) (ci := 0) (v := .int (lco - 1)) (ty := .int) (C := kR0) (T := kT0) (N := 7) hx hb hts kw0 kt0 ko0 kn0 hown hK hP hD hS 1 rfl rfl 6 (by decide) (hts _ wm_84) (fun _ h9 => h9) rfl (by decide +kernel) rfl rfl (Nat.le_of_ble_eq_true rfl) d_L_dropRow_7 (fun H locs hP hD hS => ?_)
  have hP : va_P g kcl (wC cI cJ cZ ad xst xse xre xgr ltm low lta llo lhi lmo rta ron rlo rhi rmo rin res rsi rli rar xgc xca xls xtl xno (lco - 1) rwa rad rest) H := hP
  have hD : va_D A (wC cI cJ cZ ad xst xse xre xgr ltm low lta llo lhi lmo rta ron rlo rhi rmo rin res rsi rli rar xgc xca xls xtl xno (lco - 1) rwa rad rest) := hD
  refine lv_aload_n hx hb d_L_dropRow_10 rfl (lv_at hl 0 rfl) ?_
  refine va_get (D := g) (ci := 0) (v := .ref (ad 8)) (C := kR0) (T := kT0) (N := 7) hx hb hts kw0 hown hK hP 1 rfl rfl 1 (by decide) (hts _ wm_79) (fun _ h9 => h9) rfl d_L_dropRow_11 ?_
  refine lv_iload_n hx hb d_L_dropRow_14 rfl (lv_at hl 1 rfl) ?_
  refine lv_aload_n hx hb d_L_dropRow_15 rfl (lv_at hl 0 rfl) ?_
  refine va_get (D := g) (ci := 0) (v := .ref (ad 8)) (C := kR0) (T := kT0) (N := 7) hx hb hts kw0 hown hK hP 1 rfl rfl 1 (by decide) (hts _ wm_79) (fun _ h9 => h9) rfl d_L_dropRow_16 ?_
  refine lv_aload_n hx hb d_L_dropRow_19 rfl (lv_at hl 0 rfl) ?_
  refine va_get (D := g) (ci := 0) (v := .int (lco - 1)) (C := kR0) (T := kT0) (N := 7) hx hb hts kw0 hown hK hP 1 rfl rfl 6 (by decide) (hts _ wm_84) (fun _ h9 => h9) rfl d_L_dropRow_20 ?_
  obtain ⟨hg_1, hF⟩ := gd_inv hF
  refine va_iald hx hb hK hP 8 0 rfl rfl hg_1 d_L_dropRow_23 ?_
  obtain ⟨hg_2, hF⟩ := gd_inv hF
  refine va_iast hx hb hK hP hD hS 8 0 rfl rfl hg_2 d_L_dropRow_24 (fun H locs hP hD hS => ?_)
  have hP : va_P g kcl (wC cI cJ cZ ad xst xse xre xgr ltm (upd low a1.toNatClampNeg (low (lco - 1).toNatClampNeg)) lta llo lhi lmo rta ron rlo rhi rmo rin res rsi rli rar xgc xca xls xtl xno (lco - 1) rwa rad rest) H := hP
  have hD : va_D A (wC cI cJ cZ ad xst xse xre xgr ltm (upd low a1.toNatClampNeg (low (lco - 1).toNatClampNeg)) lta llo lhi lmo rta ron rlo rhi rmo rin res rsi rli rar xgc xca xls xtl xno (lco - 1) rwa rad rest) := hD
  refine lv_aload_n hx hb d_L_dropRow_25 rfl (lv_at hl 0 rfl) ?_
  refine va_get (D := g) (ci := 0) (v := .ref (ad 9)) (C := kR0) (T := kT0) (N := 7) hx hb hts kw0 hown hK hP 1 rfl rfl 2 (by decide) (hts _ wm_80) (fun _ h9 => h9) rfl d_L_dropRow_26 ?_
  refine lv_iload_n hx hb d_L_dropRow_29 rfl (lv_at hl 1 rfl) ?_
  refine lv_aload_n hx hb d_L_dropRow_30 rfl (lv_at hl 0 rfl) ?_
  refine va_get (D := g) (ci := 0) (v := .ref (ad 9)) (C := kR0) (T := kT0) (N := 7) hx hb hts kw0 hown hK hP 1 rfl rfl 2 (by decide) (hts _ wm_80) (fun _ h9 => h9) rfl d_L_dropRow_31 ?_
  refine lv_aload_n hx hb d_L_dropRow_34 rfl (lv_at hl 0 rfl) ?_
  refine va_get (D := g) (ci := 0) (v := .int (lco - 1)) (C := kR0) (T := kT0) (N := 7) hx hb hts kw0 hown hK hP 1 rfl rfl 6 (by decide) (hts _ wm_84) (fun _ h9 => h9) rfl d_L_dropRow_35 ?_
  obtain ⟨hg_3, hF⟩ := gd_inv hF
  refine va_iald hx hb hK hP 9 0 rfl rfl hg_3 d_L_dropRow_38 ?_
  obtain ⟨hg_4, hF⟩ := gd_inv hF
  refine va_iast hx hb hK hP hD hS 9 0 rfl rfl hg_4 d_L_dropRow_39 (fun H locs hP hD hS => ?_)
  have hP : va_P g kcl (wC cI cJ cZ ad xst xse xre xgr ltm (upd low a1.toNatClampNeg (low (lco - 1).toNatClampNeg)) (upd lta a1.toNatClampNeg (lta (lco - 1).toNatClampNeg)) llo lhi lmo rta ron rlo rhi rmo rin res rsi rli rar xgc xca xls xtl xno (lco - 1) rwa rad rest) H := hP
  have hD : va_D A (wC cI cJ cZ ad xst xse xre xgr ltm (upd low a1.toNatClampNeg (low (lco - 1).toNatClampNeg)) (upd lta a1.toNatClampNeg (lta (lco - 1).toNatClampNeg)) llo lhi lmo rta ron rlo rhi rmo rin res rsi rli rar xgc xca xls xtl xno (lco - 1) rwa rad rest) := hD
  refine lv_aload_n hx hb d_L_dropRow_40 rfl (lv_at hl 0 rfl) ?_
  refine va_get (D := g) (ci := 0) (v := .ref (ad 10)) (C := kR0) (T := kT0) (N := 7) hx hb hts kw0 hown hK hP 1 rfl rfl 3 (by decide) (hts _ wm_81) (fun _ h9 => h9) rfl d_L_dropRow_41 ?_
  refine lv_iload_n hx hb d_L_dropRow_44 rfl (lv_at hl 1 rfl) ?_
  refine lv_aload_n hx hb d_L_dropRow_45 rfl (lv_at hl 0 rfl) ?_
  refine va_get (D := g) (ci := 0) (v := .ref (ad 10)) (C := kR0) (T := kT0) (N := 7) hx hb hts kw0 hown hK hP 1 rfl rfl 3 (by decide) (hts _ wm_81) (fun _ h9 => h9) rfl d_L_dropRow_46 ?_
  refine lv_aload_n hx hb d_L_dropRow_49 rfl (lv_at hl 0 rfl) ?_
  refine va_get (D := g) (ci := 0) (v := .int (lco - 1)) (C := kR0) (T := kT0) (N := 7) hx hb hts kw0 hown hK hP 1 rfl rfl 6 (by decide) (hts _ wm_84) (fun _ h9 => h9) rfl d_L_dropRow_50 ?_
  obtain ⟨hg_5, hF⟩ := gd_inv hF
  refine va_lald hx hb hK hP 10 1 rfl rfl hg_5 d_L_dropRow_53 ?_
  obtain ⟨hg_6, hF⟩ := gd_inv hF
  refine va_last hx hb hK hP hD hS 10 1 rfl rfl hg_6 d_L_dropRow_54 (fun H locs hP hD hS => ?_)
  have hP : va_P g kcl (wC cI cJ cZ ad xst xse xre xgr ltm (upd low a1.toNatClampNeg (low (lco - 1).toNatClampNeg)) (upd lta a1.toNatClampNeg (lta (lco - 1).toNatClampNeg)) (vp_updL llo a1.toNatClampNeg (llo (lco - 1).toNatClampNeg)) lhi lmo rta ron rlo rhi rmo rin res rsi rli rar xgc xca xls xtl xno (lco - 1) rwa rad rest) H := hP
  have hD : va_D A (wC cI cJ cZ ad xst xse xre xgr ltm (upd low a1.toNatClampNeg (low (lco - 1).toNatClampNeg)) (upd lta a1.toNatClampNeg (lta (lco - 1).toNatClampNeg)) (vp_updL llo a1.toNatClampNeg (llo (lco - 1).toNatClampNeg)) lhi lmo rta ron rlo rhi rmo rin res rsi rli rar xgc xca xls xtl xno (lco - 1) rwa rad rest) := hD
  refine lv_aload_n hx hb d_L_dropRow_55 rfl (lv_at hl 0 rfl) ?_
  refine va_get (D := g) (ci := 0) (v := .ref (ad 11)) (C := kR0) (T := kT0) (N := 7) hx hb hts kw0 hown hK hP 1 rfl rfl 4 (by decide) (hts _ wm_82) (fun _ h9 => h9) rfl d_L_dropRow_56 ?_
  refine lv_iload_n hx hb d_L_dropRow_59 rfl (lv_at hl 1 rfl) ?_
  refine lv_aload_n hx hb d_L_dropRow_60 rfl (lv_at hl 0 rfl) ?_
  refine va_get (D := g) (ci := 0) (v := .ref (ad 11)) (C := kR0) (T := kT0) (N := 7) hx hb hts kw0 hown hK hP 1 rfl rfl 4 (by decide) (hts _ wm_82) (fun _ h9 => h9) rfl d_L_dropRow_61 ?_
  refine lv_aload_n hx hb d_L_dropRow_64 rfl (lv_at hl 0 rfl) ?_
  refine va_get (D := g) (ci := 0) (v := .int (lco - 1)) (C := kR0) (T := kT0) (N := 7) hx hb hts kw0 hown hK hP 1 rfl rfl 6 (by decide) (hts _ wm_84) (fun _ h9 => h9) rfl d_L_dropRow_65 ?_
  obtain ⟨hg_7, hF⟩ := gd_inv hF
  refine va_lald hx hb hK hP 11 1 rfl rfl hg_7 d_L_dropRow_68 ?_
  obtain ⟨hg_8, hF⟩ := gd_inv hF
  refine va_last hx hb hK hP hD hS 11 1 rfl rfl hg_8 d_L_dropRow_69 (fun H locs hP hD hS => ?_)
  have hP : va_P g kcl (wC cI cJ cZ ad xst xse xre xgr ltm (upd low a1.toNatClampNeg (low (lco - 1).toNatClampNeg)) (upd lta a1.toNatClampNeg (lta (lco - 1).toNatClampNeg)) (vp_updL llo a1.toNatClampNeg (llo (lco - 1).toNatClampNeg)) (vp_updL lhi a1.toNatClampNeg (lhi (lco - 1).toNatClampNeg)) lmo rta ron rlo rhi rmo rin res rsi rli rar xgc xca xls xtl xno (lco - 1) rwa rad rest) H := hP
  have hD : va_D A (wC cI cJ cZ ad xst xse xre xgr ltm (upd low a1.toNatClampNeg (low (lco - 1).toNatClampNeg)) (upd lta a1.toNatClampNeg (lta (lco - 1).toNatClampNeg)) (vp_updL llo a1.toNatClampNeg (llo (lco - 1).toNatClampNeg)) (vp_updL lhi a1.toNatClampNeg (lhi (lco - 1).toNatClampNeg)) lmo rta ron rlo rhi rmo rin res rsi rli rar xgc xca xls xtl xno (lco - 1) rwa rad rest) := hD
  refine lv_aload_n hx hb d_L_dropRow_70 rfl (lv_at hl 0 rfl) ?_
  refine va_get (D := g) (ci := 0) (v := .ref (ad 12)) (C := kR0) (T := kT0) (N := 7) hx hb hts kw0 hown hK hP 1 rfl rfl 5 (by decide) (hts _ wm_83) (fun _ h9 => h9) rfl d_L_dropRow_71 ?_
  refine lv_iload_n hx hb d_L_dropRow_74 rfl (lv_at hl 1 rfl) ?_
  refine lv_aload_n hx hb d_L_dropRow_75 rfl (lv_at hl 0 rfl) ?_
  refine va_get (D := g) (ci := 0) (v := .ref (ad 12)) (C := kR0) (T := kT0) (N := 7) hx hb hts kw0 hown hK hP 1 rfl rfl 5 (by decide) (hts _ wm_83) (fun _ h9 => h9) rfl d_L_dropRow_76 ?_
  refine lv_aload_n hx hb d_L_dropRow_79 rfl (lv_at hl 0 rfl) ?_
  refine va_get (D := g) (ci := 0) (v := .int (lco - 1)) (C := kR0) (T := kT0) (N := 7) hx hb hts kw0 hown hK hP 1 rfl rfl 6 (by decide) (hts _ wm_84) (fun _ h9 => h9) rfl d_L_dropRow_80 ?_
  obtain ⟨hg_9, hF⟩ := gd_inv hF
  refine va_iald hx hb hK hP 12 0 rfl rfl hg_9 d_L_dropRow_83 ?_
  obtain ⟨hg_10, hF⟩ := gd_inv hF
  refine va_iast hx hb hK hP hD hS 12 0 rfl rfl hg_10 d_L_dropRow_84 (fun H locs hP hD hS => ?_)
  have hP : va_P g kcl (wC cI cJ cZ ad xst xse xre xgr ltm (upd low a1.toNatClampNeg (low (lco - 1).toNatClampNeg)) (upd lta a1.toNatClampNeg (lta (lco - 1).toNatClampNeg)) (vp_updL llo a1.toNatClampNeg (llo (lco - 1).toNatClampNeg)) (vp_updL lhi a1.toNatClampNeg (lhi (lco - 1).toNatClampNeg)) (upd lmo a1.toNatClampNeg (lmo (lco - 1).toNatClampNeg)) rta ron rlo rhi rmo rin res rsi rli rar xgc xca xls xtl xno (lco - 1) rwa rad rest) H := hP
  have hD : va_D A (wC cI cJ cZ ad xst xse xre xgr ltm (upd low a1.toNatClampNeg (low (lco - 1).toNatClampNeg)) (upd lta a1.toNatClampNeg (lta (lco - 1).toNatClampNeg)) (vp_updL llo a1.toNatClampNeg (llo (lco - 1).toNatClampNeg)) (vp_updL lhi a1.toNatClampNeg (lhi (lco - 1).toNatClampNeg)) (upd lmo a1.toNatClampNeg (lmo (lco - 1).toNatClampNeg)) rta ron rlo rhi rmo rin res rsi rli rar xgc xca xls xtl xno (lco - 1) rwa rad rest) := hD
  cases hF
  exact krv K hP hD hS d_L_dropRow_85
theorem c_L_dropRow (l : Launch) (g : va_G) (cI cJ cZ : ClassId) (ad : Nat → Nat) (xst : Nat → Int32) (xse : Nat → Int32) (xre : Nat → Int32) (xgr : Nat → Int32) (ltm : Nat → Int32) (low : Nat → Int32) (lta : Nat → Int32) (llo : Nat → Int64) (lhi : Nat → Int64) (lmo : Nat → Int32) (rta : Nat → Int32) (ron : Nat → Int32) (rlo : Nat → Int64) (rhi : Nat → Int64) (rmo : Nat → Int32) (rin : Nat → Int32) (res : Nat → Int32) (rsi : Nat → Int32) (rli : Nat → Int32) (rar : Nat → Int32) (xgc : Int32) (xca : Int32) (xls : Int32) (xtl : Int32) (xno : Int32) (lco : Int32) (rwa : Int32) (rad : Int32) (rest : va_W) (a1 : Int32) (o_low : Nat → Int32) (o_lta : Nat → Int32) (o_llo : Nat → Int64) (o_lhi : Nat → Int64) (o_lmo : Nat → Int32) (o_lco : Int32) (hF : F_L_dropRow low lta llo lhi lmo lco a1 = some (o_low, o_lta, o_llo, o_lhi, o_lmo, o_lco)) : Cv l y_L_dropRow prog_2_method_19_code 2 ({ frames := 0, cells := 0, slots := 0, locals := 0 }) [.ref (ad 1), .int a1] g (kty cI cJ cZ) (wC cI cJ cZ ad xst xse xre xgr ltm low lta llo lhi lmo rta ron rlo rhi rmo rin res rsi rli rar xgc xca xls xtl xno lco rwa rad rest) (wC cI cJ cZ ad xst xse xre xgr ltm o_low o_lta o_llo o_lhi o_lmo rta ron rlo rhi rmo rin res rsi rli rar xgc xca xls xtl xno o_lco rwa rad rest) :=
  Cv.of (by decide) (Nat.le_of_ble_eq_true rfl) (fun p e s m below meth c A ls K hP hD hS hl => t_L_dropRow K xst xse xre xgr ltm low lta llo lhi lmo rta ron rlo rhi rmo rin res rsi rli rar xgc xca xls xtl xno lco rwa rad a1 o_low o_lta o_llo o_lhi o_lmo o_lco hF hP hD hS hl)
def F_L_addRange (low : Nat → Int32) (lta : Nat → Int32) (llo : Nat → Int64) (lhi : Nat → Int64) (lmo : Nat → Int32) (lco : Int32) (a1 : Int32) (a2 : Int32) (a3 : Int64) (a4 : Int64) (a5 : Int32) : Option ((Nat → Int32) × (Nat → Int32) × (Nat → Int64) × (Nat → Int64) × (Nat → Int32) × Int32) :=
  if 256 ≤ lco then some (low, lta, llo, lhi, lmo, lco) else gd (lco < 0 ∨ 256 ≤ lco.toNatClampNeg) (gd (lco < 0 ∨ 256 ≤ lco.toNatClampNeg) (gd (lco < 0 ∨ 256 ≤ lco.toNatClampNeg) (gd (lco < 0 ∨ 256 ≤ lco.toNatClampNeg) (gd (lco < 0 ∨ 256 ≤ lco.toNatClampNeg) (some (upd low lco.toNatClampNeg a1, upd lta lco.toNatClampNeg a2, vp_updL llo lco.toNatClampNeg a3, vp_updL lhi lco.toNatClampNeg a4, upd lmo lco.toNatClampNeg a5, lco + 1))))))
set_option maxHeartbeats 4000000 in
set_option maxRecDepth 100000 in
theorem t_L_addRange {p : Program} {l : Launch} {e : Env} {s : State} {m : MethodId} {args : Array Value} {below : List Frame} {meth : Method} {c : Code} {A : Nat → Prop} {g : va_G} {cI cJ cZ : ClassId} {ad : Nat → Nat} {rest : va_W} (K : kX p s m args meth c "LockTable$Locks" prog_2_method_4_code 8 none A g (kty cI cJ cZ)) (xst : Nat → Int32) (xse : Nat → Int32) (xre : Nat → Int32) (xgr : Nat → Int32) (ltm : Nat → Int32) (low : Nat → Int32) (lta : Nat → Int32) (llo : Nat → Int64) (lhi : Nat → Int64) (lmo : Nat → Int32) (rta : Nat → Int32) (ron : Nat → Int32) (rlo : Nat → Int64) (rhi : Nat → Int64) (rmo : Nat → Int32) (rin : Nat → Int32) (res : Nat → Int32) (rsi : Nat → Int32) (rli : Nat → Int32) (rar : Nat → Int32) (xgc : Int32) (xca : Int32) (xls : Int32) (xtl : Int32) (xno : Int32) (lco : Int32) (rwa : Int32) (rad : Int32) (a1 : Int32) (a2 : Int32) (a3 : Int64) (a4 : Int64) (a5 : Int32) (o_low : Nat → Int32) (o_lta : Nat → Int32) (o_llo : Nat → Int64) (o_lhi : Nat → Int64) (o_lmo : Nat → Int32) (o_lco : Int32) (hF : F_L_addRange low lta llo lhi lmo lco a1 a2 a3 a4 a5 = some (o_low, o_lta, o_llo, o_lhi, o_lmo, o_lco)) {H : Heap} {locs : List Loc} {ls : Array Slot} (hP : va_P g kcl (wC cI cJ cZ ad xst xse xre xgr ltm low lta llo lhi lmo rta ron rlo rhi rmo rin res rsi rli rar xgc xca xls xtl xno lco rwa rad rest) H) (hD : va_D A (wC cI cJ cZ ad xst xse xre xgr ltm low lta llo lhi lmo rta ron rlo rhi rmo rin res rsi rli rar xgc xca xls xtl xno lco rwa rad rest)) (hS : va_S A s.heap H locs) (hl : lv_has ls 8 [(0, .ref (ad 1)), (1, .int a1), (2, .int a2), (3, .long a3), (5, .long a4), (7, .int a5)]) : W p l e ({ frames := 0, cells := 0, slots := 0, locals := 0 }) s m args below meth c H locs 0 0 (MQ below (kQv g (kty cI cJ cZ) (wC cI cJ cZ ad xst xse xre xgr ltm o_low o_lta o_llo o_lhi o_lmo rta ron rlo rhi rmo rin res rsi rli rar xgc xca xls xtl xno o_lco rwa rad rest) A) args s 0 0 A) (F0 m 0 ls []) := by
  obtain ⟨hx, hb, hr, hml, hown, hts, hlocks, hK, hA, hE⟩ := id K
  unfold F_L_addRange at hF
  refine lv_aload_n hx hb d_L_addRange_0 rfl (lv_at hl 0 rfl) ?_
  refine va_get (D := g) (ci := 0) (v := .int lco) (C := kR0) (T := kT0) (N := 7) hx hb hts kw0 hown hK hP 1 rfl rfl 6 (by decide) (hts _ wm_84) (fun _ h9 => h9) rfl d_L_addRange_1 ?_
  refine lv_sipush (v := 256) hx hb d_L_addRange_4 (by decide) ?_
  refine lv_icmp_ge (tgt := 72) hx hb d_L_addRange_7 (by decide) (fun hc_1 => ?_) (fun hc_1 => ?_)
  · have hF := it_t hF hc_1
    cases hF
    exact krv K hP hD hS d_L_addRange_72
  · have hF := it_f hF hc_1
    refine lv_aload_n hx hb d_L_addRange_10 rfl (lv_at hl 0 rfl) ?_
    refine va_get (D := g) (ci := 0) (v := .ref (ad 8)) (C := kR0) (T := kT0) (N := 7) hx hb hts kw0 hown hK hP 1 rfl rfl 1 (by decide) (hts _ wm_79) (fun _ h9 => h9) rfl d_L_addRange_11 ?_
    refine lv_aload_n hx hb d_L_addRange_14 rfl (lv_at hl 0 rfl) ?_
    refine va_get (D := g) (ci := 0) (v := .int lco) (C := kR0) (T := kT0) (N := 7) hx hb hts kw0 hown hK hP 1 rfl rfl 6 (by decide) (hts _ wm_84) (fun _ h9 => h9) rfl d_L_addRange_15 ?_
    refine lv_iload_n hx hb d_L_addRange_18 rfl (lv_at hl 1 rfl) ?_
    obtain ⟨hg_2, hF⟩ := gd_inv hF
    refine va_iast hx hb hK hP hD hS 8 0 rfl rfl hg_2 d_L_addRange_19 (fun H locs hP hD hS => ?_)
    have hP : va_P g kcl (wC cI cJ cZ ad xst xse xre xgr ltm (upd low lco.toNatClampNeg a1) lta llo lhi lmo rta ron rlo rhi rmo rin res rsi rli rar xgc xca xls xtl xno lco rwa rad rest) H := hP
    have hD : va_D A (wC cI cJ cZ ad xst xse xre xgr ltm (upd low lco.toNatClampNeg a1) lta llo lhi lmo rta ron rlo rhi rmo rin res rsi rli rar xgc xca xls xtl xno lco rwa rad rest) := hD
    refine lv_aload_n hx hb d_L_addRange_20 rfl (lv_at hl 0 rfl) ?_
    refine va_get (D := g) (ci := 0) (v := .ref (ad 9)) (C := kR0) (T := kT0) (N := 7) hx hb hts kw0 hown hK hP 1 rfl rfl 2 (by decide) (hts _ wm_80) (fun _ h9 => h9) rfl d_L_addRange_21 ?_
    refine lv_aload_n hx hb d_L_addRange_24 rfl (lv_at hl 0 rfl) ?_
    refine va_get (D := g) (ci := 0) (v := .int lco) (C := kR0) (T := kT0) (N := 7) hx hb hts kw0 hown hK hP 1 rfl rfl 6 (by decide) (hts _ wm_84) (fun _ h9 => h9) rfl d_L_addRange_25 ?_
    refine lv_iload_n hx hb d_L_addRange_28 rfl (lv_at hl 2 rfl) ?_
    obtain ⟨hg_3, hF⟩ := gd_inv hF
    refine va_iast hx hb hK hP hD hS 9 0 rfl rfl hg_3 d_L_addRange_29 (fun H locs hP hD hS => ?_)
    have hP : va_P g kcl (wC cI cJ cZ ad xst xse xre xgr ltm (upd low lco.toNatClampNeg a1) (upd lta lco.toNatClampNeg a2) llo lhi lmo rta ron rlo rhi rmo rin res rsi rli rar xgc xca xls xtl xno lco rwa rad rest) H := hP
    have hD : va_D A (wC cI cJ cZ ad xst xse xre xgr ltm (upd low lco.toNatClampNeg a1) (upd lta lco.toNatClampNeg a2) llo lhi lmo rta ron rlo rhi rmo rin res rsi rli rar xgc xca xls xtl xno lco rwa rad rest) := hD
    refine lv_aload_n hx hb d_L_addRange_30 rfl (lv_at hl 0 rfl) ?_
    refine va_get (D := g) (ci := 0) (v := .ref (ad 10)) (C := kR0) (T := kT0) (N := 7) hx hb hts kw0 hown hK hP 1 rfl rfl 3 (by decide) (hts _ wm_81) (fun _ h9 => h9) rfl d_L_addRange_31 ?_
    refine lv_aload_n hx hb d_L_addRange_34 rfl (lv_at hl 0 rfl) ?_
    refine va_get (D := g) (ci := 0) (v := .int lco) (C := kR0) (T := kT0) (N := 7) hx hb hts kw0 hown hK hP 1 rfl rfl 6 (by decide) (hts _ wm_84) (fun _ h9 => h9) rfl d_L_addRange_35 ?_
    refine lv_lload_n hx hb d_L_addRange_38 rfl (lv_at hl 3 rfl) ?_
    obtain ⟨hg_4, hF⟩ := gd_inv hF
    refine va_last hx hb hK hP hD hS 10 1 rfl rfl hg_4 d_L_addRange_39 (fun H locs hP hD hS => ?_)
    have hP : va_P g kcl (wC cI cJ cZ ad xst xse xre xgr ltm (upd low lco.toNatClampNeg a1) (upd lta lco.toNatClampNeg a2) (vp_updL llo lco.toNatClampNeg a3) lhi lmo rta ron rlo rhi rmo rin res rsi rli rar xgc xca xls xtl xno lco rwa rad rest) H := hP
    have hD : va_D A (wC cI cJ cZ ad xst xse xre xgr ltm (upd low lco.toNatClampNeg a1) (upd lta lco.toNatClampNeg a2) (vp_updL llo lco.toNatClampNeg a3) lhi lmo rta ron rlo rhi rmo rin res rsi rli rar xgc xca xls xtl xno lco rwa rad rest) := hD
    refine lv_aload_n hx hb d_L_addRange_40 rfl (lv_at hl 0 rfl) ?_
    refine va_get (D := g) (ci := 0) (v := .ref (ad 11)) (C := kR0) (T := kT0) (N := 7) hx hb hts kw0 hown hK hP 1 rfl rfl 4 (by decide) (hts _ wm_82) (fun _ h9 => h9) rfl d_L_addRange_41 ?_
    refine lv_aload_n hx hb d_L_addRange_44 rfl (lv_at hl 0 rfl) ?_
    refine va_get (D := g) (ci := 0) (v := .int lco) (C := kR0) (T := kT0) (N := 7) hx hb hts kw0 hown hK hP 1 rfl rfl 6 (by decide) (hts _ wm_84) (fun _ h9 => h9) rfl d_L_addRange_45 ?_
    refine lv_lload hx hb d_L_addRange_48 (lv_at hl 4 rfl) ?_
    obtain ⟨hg_5, hF⟩ := gd_inv hF
    refine va_last hx hb hK hP hD hS 11 1 rfl rfl hg_5 d_L_addRange_50 (fun H locs hP hD hS => ?_)
    have hP : va_P g kcl (wC cI cJ cZ ad xst xse xre xgr ltm (upd low lco.toNatClampNeg a1) (upd lta lco.toNatClampNeg a2) (vp_updL llo lco.toNatClampNeg a3) (vp_updL lhi lco.toNatClampNeg a4) lmo rta ron rlo rhi rmo rin res rsi rli rar xgc xca xls xtl xno lco rwa rad rest) H := hP
    have hD : va_D A (wC cI cJ cZ ad xst xse xre xgr ltm (upd low lco.toNatClampNeg a1) (upd lta lco.toNatClampNeg a2) (vp_updL llo lco.toNatClampNeg a3) (vp_updL lhi lco.toNatClampNeg a4) lmo rta ron rlo rhi rmo rin res rsi rli rar xgc xca xls xtl xno lco rwa rad rest) := hD
    refine lv_aload_n hx hb d_L_addRange_51 rfl (lv_at hl 0 rfl) ?_
    refine va_get (D := g) (ci := 0) (v := .ref (ad 12)) (C := kR0) (T := kT0) (N := 7) hx hb hts kw0 hown hK hP 1 rfl rfl 5 (by decide) (hts _ wm_83) (fun _ h9 => h9) rfl d_L_addRange_52 ?_
    refine lv_aload_n hx hb d_L_addRange_55 rfl (lv_at hl 0 rfl) ?_
    refine va_get (D := g) (ci := 0) (v := .int lco) (C := kR0) (T := kT0) (N := 7) hx hb hts kw0 hown hK hP 1 rfl rfl 6 (by decide) (hts _ wm_84) (fun _ h9 => h9) rfl d_L_addRange_56 ?_
    refine lv_iload hx hb d_L_addRange_59 (lv_at hl 5 rfl) ?_
    obtain ⟨hg_6, hF⟩ := gd_inv hF
    refine va_iast hx hb hK hP hD hS 12 0 rfl rfl hg_6 d_L_addRange_61 (fun H locs hP hD hS => ?_)
    have hP : va_P g kcl (wC cI cJ cZ ad xst xse xre xgr ltm (upd low lco.toNatClampNeg a1) (upd lta lco.toNatClampNeg a2) (vp_updL llo lco.toNatClampNeg a3) (vp_updL lhi lco.toNatClampNeg a4) (upd lmo lco.toNatClampNeg a5) rta ron rlo rhi rmo rin res rsi rli rar xgc xca xls xtl xno lco rwa rad rest) H := hP
    have hD : va_D A (wC cI cJ cZ ad xst xse xre xgr ltm (upd low lco.toNatClampNeg a1) (upd lta lco.toNatClampNeg a2) (vp_updL llo lco.toNatClampNeg a3) (vp_updL lhi lco.toNatClampNeg a4) (upd lmo lco.toNatClampNeg a5) rta ron rlo rhi rmo rin res rsi rli rar xgc xca xls xtl xno lco rwa rad rest) := hD
    refine lv_aload_n hx hb d_L_addRange_62 rfl (lv_at hl 0 rfl) ?_
    refine lv_dup hx hb d_L_addRange_63 rfl ?_
    refine va_get (D := g) (ci := 0) (v := .int lco) (C := kR0) (T := kT0) (N := 7) hx hb hts kw0 hown hK hP 1 rfl rfl 6 (by decide) (hts _ wm_84) (fun _ h9 => h9) rfl d_L_addRange_64 ?_
    refine lv_iconst (v := 1) hx hb d_L_addRange_67 (by decide) ?_
    refine lv_iadd hx hb d_L_addRange_68 ?_
    refine va_put (D := g) (ci := 0) (v := .int (lco + 1)) (ty := .int) (C := kR0) (T := kT0) (N := 7) hx hb hts kw0 kt0 ko0 kn0 hown hK hP hD hS 1 rfl rfl 6 (by decide) (hts _ wm_84) (fun _ h9 => h9) rfl (by decide +kernel) rfl rfl (Nat.le_of_ble_eq_true rfl) d_L_addRange_69 (fun H locs hP hD hS => ?_)
    have hP : va_P g kcl (wC cI cJ cZ ad xst xse xre xgr ltm (upd low lco.toNatClampNeg a1) (upd lta lco.toNatClampNeg a2) (vp_updL llo lco.toNatClampNeg a3) (vp_updL lhi lco.toNatClampNeg a4) (upd lmo lco.toNatClampNeg a5) rta ron rlo rhi rmo rin res rsi rli rar xgc xca xls xtl xno (lco + 1) rwa rad rest) H := hP
    have hD : va_D A (wC cI cJ cZ ad xst xse xre xgr ltm (upd low lco.toNatClampNeg a1) (upd lta lco.toNatClampNeg a2) (vp_updL llo lco.toNatClampNeg a3) (vp_updL lhi lco.toNatClampNeg a4) (upd lmo lco.toNatClampNeg a5) rta ron rlo rhi rmo rin res rsi rli rar xgc xca xls xtl xno (lco + 1) rwa rad rest) := hD
    cases hF
    exact krv K hP hD hS d_L_addRange_72
theorem c_L_addRange (l : Launch) (g : va_G) (cI cJ cZ : ClassId) (ad : Nat → Nat) (xst : Nat → Int32) (xse : Nat → Int32) (xre : Nat → Int32) (xgr : Nat → Int32) (ltm : Nat → Int32) (low : Nat → Int32) (lta : Nat → Int32) (llo : Nat → Int64) (lhi : Nat → Int64) (lmo : Nat → Int32) (rta : Nat → Int32) (ron : Nat → Int32) (rlo : Nat → Int64) (rhi : Nat → Int64) (rmo : Nat → Int32) (rin : Nat → Int32) (res : Nat → Int32) (rsi : Nat → Int32) (rli : Nat → Int32) (rar : Nat → Int32) (xgc : Int32) (xca : Int32) (xls : Int32) (xtl : Int32) (xno : Int32) (lco : Int32) (rwa : Int32) (rad : Int32) (rest : va_W) (a1 : Int32) (a2 : Int32) (a3 : Int64) (a4 : Int64) (a5 : Int32) (o_low : Nat → Int32) (o_lta : Nat → Int32) (o_llo : Nat → Int64) (o_lhi : Nat → Int64) (o_lmo : Nat → Int32) (o_lco : Int32) (hF : F_L_addRange low lta llo lhi lmo lco a1 a2 a3 a4 a5 = some (o_low, o_lta, o_llo, o_lhi, o_lmo, o_lco)) : Cv l y_L_addRange prog_2_method_4_code 8 ({ frames := 0, cells := 0, slots := 0, locals := 0 }) [.ref (ad 1), .int a1, .int a2, .long a3, .long a4, .int a5] g (kty cI cJ cZ) (wC cI cJ cZ ad xst xse xre xgr ltm low lta llo lhi lmo rta ron rlo rhi rmo rin res rsi rli rar xgc xca xls xtl xno lco rwa rad rest) (wC cI cJ cZ ad xst xse xre xgr ltm o_low o_lta o_llo o_lhi o_lmo rta ron rlo rhi rmo rin res rsi rli rar xgc xca xls xtl xno o_lco rwa rad rest) :=
  Cv.of (by decide) (Nat.le_of_ble_eq_true rfl) (fun p e s m below meth c A ls K hP hD hS hl => t_L_addRange K xst xse xre xgr ltm low lta llo lhi lmo rta ron rlo rhi rmo rin res rsi rli rar xgc xca xls xtl xno lco rwa rad a1 a2 a3 a4 a5 o_low o_lta o_llo o_lhi o_lmo o_lco hF hP hD hS hl)
def F_L_countRanges_L5 (low : Nat → Int32) (lta : Nat → Int32) (lco : Int32) (v1 : Int32) (v2 : Int32) : Nat → Int32 → Int32 → Option (Int32)
  | 0, _, _ => none
  | n + 1, v3, v4 => if lco ≤ v4 then some v3 else ob1 (F_L_isOn low lta v4 v1 v2) (fun r_2 => if r_2 = 0 then F_L_countRanges_L5 low lta lco v1 v2 n v3 (v4 + 1) else F_L_countRanges_L5 low lta lco v1 v2 n (v3 + 1) (v4 + 1))
def F_L_countRanges (low : Nat → Int32) (lta : Nat → Int32) (lco : Int32) (a1 : Int32) (a2 : Int32) : Option (Int32) :=
  ob1 (F_L_countRanges_L5 low lta lco a1 a2 fu 0 0) (fun v3_4 => some v3_4)
set_option maxHeartbeats 4000000 in
set_option maxRecDepth 100000 in
theorem t_L_countRanges_L5 {p : Program} {l : Launch} {e : Env} {s : State} {m : MethodId} {args : Array Value} {below : List Frame} {meth : Method} {c : Code} {A : Nat → Prop} {g : va_G} {cI cJ cZ : ClassId} {ad : Nat → Nat} {rest : va_W} (K : kX p s m args meth c "LockTable$Locks" prog_2_method_8_code 5 (some .int) A g (kty cI cJ cZ)) {Q : State → Prop} (xst : Nat → Int32) (xse : Nat → Int32) (xre : Nat → Int32) (xgr : Nat → Int32) (ltm : Nat → Int32) (low : Nat → Int32) (lta : Nat → Int32) (llo : Nat → Int64) (lhi : Nat → Int64) (lmo : Nat → Int32) (rta : Nat → Int32) (ron : Nat → Int32) (rlo : Nat → Int64) (rhi : Nat → Int64) (rmo : Nat → Int32) (rin : Nat → Int32) (res : Nat → Int32) (rsi : Nat → Int32) (rli : Nat → Int32) (rar : Nat → Int32) (xgc : Int32) (xca : Int32) (xls : Int32) (xtl : Int32) (xno : Int32) (lco : Int32) (rwa : Int32) (rad : Int32) (v1 : Int32) (v2 : Int32) : ∀ (n : Nat) (v3 : Int32) (v4 : Int32) (o_v3 : Int32) (H : Heap) (locs : List Loc) (ls : Array Slot), F_L_countRanges_L5 low lta lco v1 v2 n v3 v4 = some o_v3 → va_P g kcl (wC cI cJ cZ ad xst xse xre xgr ltm low lta llo lhi lmo rta ron rlo rhi rmo rin res rsi rli rar xgc xca xls xtl xno lco rwa rad rest) H → va_D A (wC cI cJ cZ ad xst xse xre xgr ltm low lta llo lhi lmo rta ron rlo rhi rmo rin res rsi rli rar xgc xca xls xtl xno lco rwa rad rest) → va_S A s.heap H locs → lv_has ls 5 [(0, .ref (ad 1)), (1, .int v1), (2, .int v2), (3, .int v3), (4, .int v4)] → (∀ (H : Heap) (locs : List Loc) (ls : Array Slot), va_P g kcl (wC cI cJ cZ ad xst xse xre xgr ltm low lta llo lhi lmo rta ron rlo rhi rmo rin res rsi rli rar xgc xca xls xtl xno lco rwa rad rest) H → va_D A (wC cI cJ cZ ad xst xse xre xgr ltm low lta llo lhi lmo rta ron rlo rhi rmo rin res rsi rli rar xgc xca xls xtl xno lco rwa rad rest) → va_S A s.heap H locs → lv_has ls 5 [(3, .int o_v3)] → W p l e ({ frames := 1, cells := 0, slots := 0, locals := 23 }) s m args below meth c H locs 0 0 Q (F0 m 34 ls [])) → W p l e ({ frames := 1, cells := 0, slots := 0, locals := 23 }) s m args below meth c H locs 0 0 Q (F0 m 5 ls []) := by
  obtain ⟨hx, hb, hr, hml, hown, hts, hlocks, hK, hA, hE⟩ := id K
  intro n
  induction n with
  | zero =>
    intro v3 v4 o_v3 H locs ls hF
    rw [F_L_countRanges_L5] at hF
    cases hF
  | succ n ih =>
    intro v3 v4 o_v3 H locs ls hF hP hD hS hl hQ
    rw [F_L_countRanges_L5] at hF
    refine lv_iload hx hb d_L_countRanges_5 (lv_at hl 4 rfl) ?_
    refine lv_aload_n hx hb d_L_countRanges_7 rfl (lv_at hl 0 rfl) ?_
    refine va_get (D := g) (ci := 0) (v := .int lco) (C := kR0) (T := kT0) (N := 7) hx hb hts kw0 hown hK hP 1 rfl rfl 6 (by decide) (hts _ wm_84) (fun _ h9 => h9) rfl d_L_countRanges_8 ?_
    refine lv_icmp_ge (tgt := 34) hx hb d_L_countRanges_11 (by decide) (fun hc_1 => ?_) (fun hc_1 => ?_)
    · have hF := it_t hF hc_1
      cases hF
      exact hQ H locs ls hP hD hS (lv_sub hl [3] rfl)
    · have hF := it_f hF hc_1
      refine lv_aload_n hx hb d_L_countRanges_14 rfl (lv_at hl 0 rfl) ?_
      refine lv_iload hx hb d_L_countRanges_15 (lv_at hl 4 rfl) ?_
      refine lv_iload_n hx hb d_L_countRanges_17 rfl (lv_at hl 1 rfl) ?_
      refine lv_iload_n hx hb d_L_countRanges_18 rfl (lv_at hl 2 rfl) ?_
      obtain ⟨r_2, hG, hF⟩ := ob1_inv hF
      refine kci K hP hD hS (c_L_isOn l g cI cJ cZ ad xst xse xre xgr ltm low lta llo lhi lmo rta ron rlo rhi rmo rin res rsi rli rar xgc xca xls xtl xno lco rwa rad rest v4 v1 v2 r_2 hG) wm_410 wm_407 wm_409 wm_9 wm_48 hd_L_isOn rfl rfl ⟨Nat.le_of_ble_eq_true rfl, Nat.le_of_ble_eq_true rfl⟩ ⟨Nat.zero_le _, Nat.zero_le _⟩ 0 1 rfl rfl rfl hl.1 (rest := []) rfl (Nat.le_of_ble_eq_true rfl) d_L_countRanges_19 (fun H locs hP hD hS => ?_)
      refine lv_if_eq (tgt := 28) hx hb d_L_countRanges_22 (by decide) (fun hc_3 => ?_) (fun hc_3 => ?_)
      · have hF := it_t hF hc_3
        refine lv_iinc (v := v4 + 1) (lv' := [(4, .int (v4 + 1)), (0, .ref (ad 1)), (1, .int v1), (2, .int v2), (3, .int v3)]) hx hb d_L_countRanges_28 hl (k := 4) rfl rfl (by decide) rfl (fun ls hl => ?_)
        refine lv_goto (tgt := 5) hx hb d_L_countRanges_31 (by decide) ?_
        exact ih _ _ _ H locs ls hF hP hD hS (lv_sub hl [1, 2, 3, 4, 0] rfl) hQ
      · have hF := it_f hF hc_3
        refine lv_iinc (v := v3 + 1) (lv' := [(3, .int (v3 + 1)), (0, .ref (ad 1)), (1, .int v1), (2, .int v2), (4, .int v4)]) hx hb d_L_countRanges_25 hl (k := 3) rfl rfl (by decide) rfl (fun ls hl => ?_)
        refine lv_iinc (v := v4 + 1) (lv' := [(4, .int (v4 + 1)), (3, .int (v3 + 1)), (0, .ref (ad 1)), (1, .int v1), (2, .int v2)]) hx hb d_L_countRanges_28 hl (k := 4) rfl rfl (by decide) rfl (fun ls hl => ?_)
        refine lv_goto (tgt := 5) hx hb d_L_countRanges_31 (by decide) ?_
        exact ih _ _ _ H locs ls hF hP hD hS (lv_sub hl [2, 3, 4, 1, 0] rfl) hQ
set_option maxHeartbeats 4000000 in
set_option maxRecDepth 100000 in
theorem t_L_countRanges {p : Program} {l : Launch} {e : Env} {s : State} {m : MethodId} {args : Array Value} {below : List Frame} {meth : Method} {c : Code} {A : Nat → Prop} {g : va_G} {cI cJ cZ : ClassId} {ad : Nat → Nat} {rest : va_W} (K : kX p s m args meth c "LockTable$Locks" prog_2_method_8_code 5 (some .int) A g (kty cI cJ cZ)) (xst : Nat → Int32) (xse : Nat → Int32) (xre : Nat → Int32) (xgr : Nat → Int32) (ltm : Nat → Int32) (low : Nat → Int32) (lta : Nat → Int32) (llo : Nat → Int64) (lhi : Nat → Int64) (lmo : Nat → Int32) (rta : Nat → Int32) (ron : Nat → Int32) (rlo : Nat → Int64) (rhi : Nat → Int64) (rmo : Nat → Int32) (rin : Nat → Int32) (res : Nat → Int32) (rsi : Nat → Int32) (rli : Nat → Int32) (rar : Nat → Int32) (xgc : Int32) (xca : Int32) (xls : Int32) (xtl : Int32) (xno : Int32) (lco : Int32) (rwa : Int32) (rad : Int32) (a1 : Int32) (a2 : Int32) (r : Int32) (hF : F_L_countRanges low lta lco a1 a2 = some r) {H : Heap} {locs : List Loc} {ls : Array Slot} (hP : va_P g kcl (wC cI cJ cZ ad xst xse xre xgr ltm low lta llo lhi lmo rta ron rlo rhi rmo rin res rsi rli rar xgc xca xls xtl xno lco rwa rad rest) H) (hD : va_D A (wC cI cJ cZ ad xst xse xre xgr ltm low lta llo lhi lmo rta ron rlo rhi rmo rin res rsi rli rar xgc xca xls xtl xno lco rwa rad rest)) (hS : va_S A s.heap H locs) (hl : lv_has ls 5 [(0, .ref (ad 1)), (1, .int a1), (2, .int a2)]) : W p l e ({ frames := 1, cells := 0, slots := 0, locals := 23 }) s m args below meth c H locs 0 0 (MQ below (kQi g (kty cI cJ cZ) (wC cI cJ cZ ad xst xse xre xgr ltm low lta llo lhi lmo rta ron rlo rhi rmo rin res rsi rli rar xgc xca xls xtl xno lco rwa rad rest) A r) args s 0 0 A) (F0 m 0 ls []) := by
  obtain ⟨hx, hb, hr, hml, hown, hts, hlocks, hK, hA, hE⟩ := id K
  unfold F_L_countRanges at hF
  refine lv_iconst (v := 0) hx hb d_L_countRanges_0 (by decide) ?_
  refine lv_istore_n (lv' := [(3, .int 0), (0, .ref (ad 1)), (1, .int a1), (2, .int a2)]) hx hb d_L_countRanges_1 rfl hl (by decide) rfl (fun ls hl => ?_)
  refine lv_iconst (v := 0) hx hb d_L_countRanges_2 (by decide) ?_
  refine lv_istore (lv' := [(4, .int 0), (3, .int 0), (0, .ref (ad 1)), (1, .int a1), (2, .int a2)]) hx hb d_L_countRanges_3 hl (by decide) rfl (fun ls hl => ?_)
  obtain ⟨v3_4, hG, hF⟩ := ob1_inv hF
  refine t_L_countRanges_L5 K xst xse xre xgr ltm low lta llo lhi lmo rta ron rlo rhi rmo rin res rsi rli rar xgc xca xls xtl xno lco rwa rad a1 a2 fu _ _ _ H locs ls hG hP hD hS (lv_sub hl [2, 3, 4, 1, 0] rfl) (fun H locs ls hP hD hS hl => ?_)
  refine lv_iload_n hx hb d_L_countRanges_34 rfl (lv_at hl 0 rfl) ?_
  cases hF
  exact kri K hP hD hS d_L_countRanges_35 rfl
theorem c_L_countRanges (l : Launch) (g : va_G) (cI cJ cZ : ClassId) (ad : Nat → Nat) (xst : Nat → Int32) (xse : Nat → Int32) (xre : Nat → Int32) (xgr : Nat → Int32) (ltm : Nat → Int32) (low : Nat → Int32) (lta : Nat → Int32) (llo : Nat → Int64) (lhi : Nat → Int64) (lmo : Nat → Int32) (rta : Nat → Int32) (ron : Nat → Int32) (rlo : Nat → Int64) (rhi : Nat → Int64) (rmo : Nat → Int32) (rin : Nat → Int32) (res : Nat → Int32) (rsi : Nat → Int32) (rli : Nat → Int32) (rar : Nat → Int32) (xgc : Int32) (xca : Int32) (xls : Int32) (xtl : Int32) (xno : Int32) (lco : Int32) (rwa : Int32) (rad : Int32) (rest : va_W) (a1 : Int32) (a2 : Int32) (r : Int32) (hF : F_L_countRanges low lta lco a1 a2 = some r) : Ci l y_L_countRanges prog_2_method_8_code 5 (some .int) ({ frames := 1, cells := 0, slots := 0, locals := 23 }) [.ref (ad 1), .int a1, .int a2] g (kty cI cJ cZ) (wC cI cJ cZ ad xst xse xre xgr ltm low lta llo lhi lmo rta ron rlo rhi rmo rin res rsi rli rar xgc xca xls xtl xno lco rwa rad rest) (wC cI cJ cZ ad xst xse xre xgr ltm low lta llo lhi lmo rta ron rlo rhi rmo rin res rsi rli rar xgc xca xls xtl xno lco rwa rad rest) r :=
  Ci.of (by decide) (Nat.le_of_ble_eq_true rfl) (fun p e s m below meth c A ls K hP hD hS hl => t_L_countRanges K xst xse xre xgr ltm low lta llo lhi lmo rta ron rlo rhi rmo rin res rsi rli rar xgc xca xls xtl xno lco rwa rad a1 a2 r hF hP hD hS hl)
def F_L_coverRange_L19 (low : Nat → Int32) (lta : Nat → Int32) (llo : Nat → Int64) (lhi : Nat → Int64) (lmo : Nat → Int32) (lco : Int32) (v1 : Int32) (v2 : Int32) (v3 : Int64) (v5 : Int64) (v7 : Int32) : Nat → Int32 → Option (Int32)
  | 0, _ => none
  | n + 1, v8 => if lco ≤ v8 then some 0 else ob1 (F_L_isRound low lta llo lhi v8 v1 v2 v3 v5) (fun r_5 => if r_5 = 0 then F_L_coverRange_L19 low lta llo lhi lmo lco v1 v2 v3 v5 v7 n (v8 + 1) else gd (v8 < 0 ∨ 256 ≤ v8.toNatClampNeg) (ob1 (F_K_rangeCovers (lmo v8.toNatClampNeg) v7) (fun r_8 => if r_8 = 0 then F_L_coverRange_L19 low lta llo lhi lmo lco v1 v2 v3 v5 v7 n (v8 + 1) else some 1)))
def F_L_coverRange (ltm : Nat → Int32) (low : Nat → Int32) (lta : Nat → Int32) (llo : Nat → Int64) (lhi : Nat → Int64) (lmo : Nat → Int32) (lco : Int32) (a1 : Int32) (a2 : Int32) (a3 : Int64) (a4 : Int64) (a5 : Int32) : Option (Int32) :=
  ob1 (F_L_heldMode ltm a1 a2) (fun r_1 => ob1 (F_K_tableCovers r_1 a5) (fun r_2 => if r_2 = 0 then F_L_coverRange_L19 low lta llo lhi lmo lco a1 a2 a3 a4 a5 fu 0 else some 1))
set_option maxHeartbeats 4000000 in
set_option maxRecDepth 100000 in
theorem t_L_coverRange_L19 {p : Program} {l : Launch} {e : Env} {s : State} {m : MethodId} {args : Array Value} {below : List Frame} {meth : Method} {c : Code} {A : Nat → Prop} {g : va_G} {cI cJ cZ : ClassId} {ad : Nat → Nat} {rest : va_W} (K : kX p s m args meth c "LockTable$Locks" prog_2_method_5_code 9 (some .boolean) A g (kty cI cJ cZ)) (xst : Nat → Int32) (xse : Nat → Int32) (xre : Nat → Int32) (xgr : Nat → Int32) (ltm : Nat → Int32) (low : Nat → Int32) (lta : Nat → Int32) (llo : Nat → Int64) (lhi : Nat → Int64) (lmo : Nat → Int32) (rta : Nat → Int32) (ron : Nat → Int32) (rlo : Nat → Int64) (rhi : Nat → Int64) (rmo : Nat → Int32) (rin : Nat → Int32) (res : Nat → Int32) (rsi : Nat → Int32) (rli : Nat → Int32) (rar : Nat → Int32) (xgc : Int32) (xca : Int32) (xls : Int32) (xtl : Int32) (xno : Int32) (lco : Int32) (rwa : Int32) (rad : Int32) (v1 : Int32) (v2 : Int32) (v3 : Int64) (v5 : Int64) (v7 : Int32) : ∀ (n : Nat) (v8 : Int32) (r : Int32) (H : Heap) (locs : List Loc) (ls : Array Slot), F_L_coverRange_L19 low lta llo lhi lmo lco v1 v2 v3 v5 v7 n v8 = some r → va_P g kcl (wC cI cJ cZ ad xst xse xre xgr ltm low lta llo lhi lmo rta ron rlo rhi rmo rin res rsi rli rar xgc xca xls xtl xno lco rwa rad rest) H → va_D A (wC cI cJ cZ ad xst xse xre xgr ltm low lta llo lhi lmo rta ron rlo rhi rmo rin res rsi rli rar xgc xca xls xtl xno lco rwa rad rest) → va_S A s.heap H locs → lv_has ls 9 [(0, .ref (ad 1)), (1, .int v1), (2, .int v2), (3, .long v3), (5, .long v5), (7, .int v7), (8, .int v8)] → W p l e ({ frames := 2, cells := 0, slots := 0, locals := 50 }) s m args below meth c H locs 0 0 (MQ below (kQi g (kty cI cJ cZ) (wC cI cJ cZ ad xst xse xre xgr ltm low lta llo lhi lmo rta ron rlo rhi rmo rin res rsi rli rar xgc xca xls xtl xno lco rwa rad rest) A r) args s 0 0 A) (F0 m 19 ls []) := by
  obtain ⟨hx, hb, hr, hml, hown, hts, hlocks, hK, hA, hE⟩ := id K
  intro n
  induction n with
  | zero =>
    intro v8 r H locs ls hF
    rw [F_L_coverRange_L19] at hF
    cases hF
  | succ n ih =>
    intro v8 r H locs ls hF hP hD hS hl
    rw [F_L_coverRange_L19] at hF
    refine lv_iload hx hb d_L_coverRange_19 (lv_at hl 6 rfl) ?_
    refine lv_aload_n hx hb d_L_coverRange_21 rfl (lv_at hl 0 rfl) ?_
    refine va_get (D := g) (ci := 0) (v := .int lco) (C := kR0) (T := kT0) (N := 7) hx hb hts kw0 hown hK hP 1 rfl rfl 6 (by decide) (hts _ wm_84) (fun _ h9 => h9) rfl d_L_coverRange_22 ?_
    refine lv_icmp_ge (tgt := 65) hx hb d_L_coverRange_25 (by decide) (fun hc_4 => ?_) (fun hc_4 => ?_)
    · have hF := it_t hF hc_4
      refine lv_iconst (v := 0) hx hb d_L_coverRange_65 (by decide) ?_
      cases hF
      exact krz K hP hD hS d_L_coverRange_66 rfl rfl
    · have hF := it_f hF hc_4
      refine lv_aload_n hx hb d_L_coverRange_28 rfl (lv_at hl 0 rfl) ?_
      refine lv_iload hx hb d_L_coverRange_29 (lv_at hl 6 rfl) ?_
      refine lv_iload_n hx hb d_L_coverRange_31 rfl (lv_at hl 1 rfl) ?_
      refine lv_iload_n hx hb d_L_coverRange_32 rfl (lv_at hl 2 rfl) ?_
      refine lv_lload_n hx hb d_L_coverRange_33 rfl (lv_at hl 3 rfl) ?_
      refine lv_lload hx hb d_L_coverRange_34 (lv_at hl 4 rfl) ?_
      obtain ⟨r_5, hG, hF⟩ := ob1_inv hF
      refine kci K hP hD hS (c_L_isRound l g cI cJ cZ ad xst xse xre xgr ltm low lta llo lhi lmo rta ron rlo rhi rmo rin res rsi rli rar xgc xca xls xtl xno lco rwa rad rest v8 v1 v2 v3 v5 r_5 hG) wm_482 wm_479 wm_481 wm_16 wm_48 hd_L_isRound rfl rfl ⟨Nat.le_of_ble_eq_true rfl, Nat.le_of_ble_eq_true rfl⟩ ⟨Nat.zero_le _, Nat.zero_le _⟩ 0 1 rfl rfl rfl hl.1 (rest := []) rfl (Nat.le_of_ble_eq_true rfl) d_L_coverRange_36 (fun H locs hP hD hS => ?_)
      refine lv_if_eq (tgt := 59) hx hb d_L_coverRange_39 (by decide) (fun hc_6 => ?_) (fun hc_6 => ?_)
      · have hF := it_t hF hc_6
        refine lv_iinc (v := v8 + 1) (lv' := [(8, .int (v8 + 1)), (0, .ref (ad 1)), (1, .int v1), (2, .int v2), (3, .long v3), (5, .long v5), (7, .int v7)]) hx hb d_L_coverRange_59 hl (k := 6) rfl rfl (by decide) rfl (fun ls hl => ?_)
        refine lv_goto (tgt := 19) hx hb d_L_coverRange_62 (by decide) ?_
        exact ih _ _ H locs ls hF hP hD hS (lv_sub hl [1, 2, 3, 4, 5, 6, 0] rfl)
      · have hF := it_f hF hc_6
        refine lv_aload_n hx hb d_L_coverRange_42 rfl (lv_at hl 0 rfl) ?_
        refine va_get (D := g) (ci := 0) (v := .ref (ad 12)) (C := kR0) (T := kT0) (N := 7) hx hb hts kw0 hown hK hP 1 rfl rfl 5 (by decide) (hts _ wm_83) (fun _ h9 => h9) rfl d_L_coverRange_43 ?_
        refine lv_iload hx hb d_L_coverRange_46 (lv_at hl 6 rfl) ?_
        obtain ⟨hg_7, hF⟩ := gd_inv hF
        refine va_iald hx hb hK hP 12 0 rfl rfl hg_7 d_L_coverRange_48 ?_
        refine lv_iload hx hb d_L_coverRange_49 (lv_at hl 5 rfl) ?_
        obtain ⟨r_8, hG, hF⟩ := ob1_inv hF
        refine ksi K hP hD hS (c_K_rangeCovers l g (kty cI cJ cZ) (wC cI cJ cZ ad xst xse xre xgr ltm low lta llo lhi lmo rta ron rlo rhi rmo rin res rsi rli rar xgc xca xls xtl xno lco rwa rad rest) (lmo v8.toNatClampNeg) v7 r_8 hG) wm_485 wm_483 wm_484 wm_56 hd_K_rangeCovers rfl rfl ⟨Nat.le_of_ble_eq_true rfl, Nat.le_of_ble_eq_true rfl⟩ ⟨Nat.zero_le _, Nat.zero_le _⟩ hl.1 (rest := []) rfl (Nat.le_of_ble_eq_true rfl) d_L_coverRange_51 (fun H locs hP hD hS => ?_)
        refine lv_if_eq (tgt := 59) hx hb d_L_coverRange_54 (by decide) (fun hc_9 => ?_) (fun hc_9 => ?_)
        · have hF := it_t hF hc_9
          refine lv_iinc (v := v8 + 1) (lv' := [(8, .int (v8 + 1)), (0, .ref (ad 1)), (1, .int v1), (2, .int v2), (3, .long v3), (5, .long v5), (7, .int v7)]) hx hb d_L_coverRange_59 hl (k := 6) rfl rfl (by decide) rfl (fun ls hl => ?_)
          refine lv_goto (tgt := 19) hx hb d_L_coverRange_62 (by decide) ?_
          exact ih _ _ H locs ls hF hP hD hS (lv_sub hl [1, 2, 3, 4, 5, 6, 0] rfl)
        · have hF := it_f hF hc_9
          refine lv_iconst (v := 1) hx hb d_L_coverRange_57 (by decide) ?_
          cases hF
          exact krz K hP hD hS d_L_coverRange_58 rfl rfl
set_option maxHeartbeats 4000000 in
set_option maxRecDepth 100000 in
theorem t_L_coverRange {p : Program} {l : Launch} {e : Env} {s : State} {m : MethodId} {args : Array Value} {below : List Frame} {meth : Method} {c : Code} {A : Nat → Prop} {g : va_G} {cI cJ cZ : ClassId} {ad : Nat → Nat} {rest : va_W} (K : kX p s m args meth c "LockTable$Locks" prog_2_method_5_code 9 (some .boolean) A g (kty cI cJ cZ)) (xst : Nat → Int32) (xse : Nat → Int32) (xre : Nat → Int32) (xgr : Nat → Int32) (ltm : Nat → Int32) (low : Nat → Int32) (lta : Nat → Int32) (llo : Nat → Int64) (lhi : Nat → Int64) (lmo : Nat → Int32) (rta : Nat → Int32) (ron : Nat → Int32) (rlo : Nat → Int64) (rhi : Nat → Int64) (rmo : Nat → Int32) (rin : Nat → Int32) (res : Nat → Int32) (rsi : Nat → Int32) (rli : Nat → Int32) (rar : Nat → Int32) (xgc : Int32) (xca : Int32) (xls : Int32) (xtl : Int32) (xno : Int32) (lco : Int32) (rwa : Int32) (rad : Int32) (a1 : Int32) (a2 : Int32) (a3 : Int64) (a4 : Int64) (a5 : Int32) (r : Int32) (hF : F_L_coverRange ltm low lta llo lhi lmo lco a1 a2 a3 a4 a5 = some r) {H : Heap} {locs : List Loc} {ls : Array Slot} (hP : va_P g kcl (wC cI cJ cZ ad xst xse xre xgr ltm low lta llo lhi lmo rta ron rlo rhi rmo rin res rsi rli rar xgc xca xls xtl xno lco rwa rad rest) H) (hD : va_D A (wC cI cJ cZ ad xst xse xre xgr ltm low lta llo lhi lmo rta ron rlo rhi rmo rin res rsi rli rar xgc xca xls xtl xno lco rwa rad rest)) (hS : va_S A s.heap H locs) (hl : lv_has ls 9 [(0, .ref (ad 1)), (1, .int a1), (2, .int a2), (3, .long a3), (5, .long a4), (7, .int a5)]) : W p l e ({ frames := 2, cells := 0, slots := 0, locals := 50 }) s m args below meth c H locs 0 0 (MQ below (kQi g (kty cI cJ cZ) (wC cI cJ cZ ad xst xse xre xgr ltm low lta llo lhi lmo rta ron rlo rhi rmo rin res rsi rli rar xgc xca xls xtl xno lco rwa rad rest) A r) args s 0 0 A) (F0 m 0 ls []) := by
  obtain ⟨hx, hb, hr, hml, hown, hts, hlocks, hK, hA, hE⟩ := id K
  unfold F_L_coverRange at hF
  refine lv_aload_n hx hb d_L_coverRange_0 rfl (lv_at hl 0 rfl) ?_
  refine lv_iload_n hx hb d_L_coverRange_1 rfl (lv_at hl 1 rfl) ?_
  refine lv_iload_n hx hb d_L_coverRange_2 rfl (lv_at hl 2 rfl) ?_
  obtain ⟨r_1, hG, hF⟩ := ob1_inv hF
  refine kci K hP hD hS (c_L_heldMode l g cI cJ cZ ad xst xse xre xgr ltm low lta llo lhi lmo rta ron rlo rhi rmo rin res rsi rli rar xgc xca xls xtl xno lco rwa rad rest a1 a2 r_1 hG) wm_329 wm_377 wm_327 wm_328 wm_48 hd_L_heldMode rfl rfl ⟨Nat.le_of_ble_eq_true rfl, Nat.le_of_ble_eq_true rfl⟩ ⟨Nat.zero_le _, Nat.zero_le _⟩ 0 1 rfl rfl rfl hl.1 (rest := []) rfl (Nat.le_of_ble_eq_true rfl) d_L_coverRange_3 (fun H locs hP hD hS => ?_)
  refine lv_iload hx hb d_L_coverRange_6 (lv_at hl 5 rfl) ?_
  obtain ⟨r_2, hG, hF⟩ := ob1_inv hF
  refine ksi K hP hD hS (c_K_tableCovers l g (kty cI cJ cZ) (wC cI cJ cZ ad xst xse xre xgr ltm low lta llo lhi lmo rta ron rlo rhi rmo rin res rsi rli rar xgc xca xls xtl xno lco rwa rad rest) r_1 a5 r_2 hG) wm_476 wm_474 wm_475 wm_56 hd_K_tableCovers rfl rfl ⟨Nat.le_of_ble_eq_true rfl, Nat.le_of_ble_eq_true rfl⟩ ⟨Nat.zero_le _, Nat.zero_le _⟩ hl.1 (rest := []) rfl (Nat.le_of_ble_eq_true rfl) d_L_coverRange_8 (fun H locs hP hD hS => ?_)
  refine lv_if_eq (tgt := 16) hx hb d_L_coverRange_11 (by decide) (fun hc_3 => ?_) (fun hc_3 => ?_)
  · have hF := it_t hF hc_3
    refine lv_iconst (v := 0) hx hb d_L_coverRange_16 (by decide) ?_
    refine lv_istore (lv' := [(8, .int 0), (0, .ref (ad 1)), (1, .int a1), (2, .int a2), (3, .long a3), (5, .long a4), (7, .int a5)]) hx hb d_L_coverRange_17 hl (by decide) rfl (fun ls hl => ?_)
    exact t_L_coverRange_L19 K xst xse xre xgr ltm low lta llo lhi lmo rta ron rlo rhi rmo rin res rsi rli rar xgc xca xls xtl xno lco rwa rad a1 a2 a3 a4 a5 fu _ _ H locs ls hF hP hD hS (lv_sub hl [1, 2, 3, 4, 5, 6, 0] rfl)
  · have hF := it_f hF hc_3
    refine lv_iconst (v := 1) hx hb d_L_coverRange_14 (by decide) ?_
    cases hF
    exact krz K hP hD hS d_L_coverRange_15 rfl rfl
theorem c_L_coverRange (l : Launch) (g : va_G) (cI cJ cZ : ClassId) (ad : Nat → Nat) (xst : Nat → Int32) (xse : Nat → Int32) (xre : Nat → Int32) (xgr : Nat → Int32) (ltm : Nat → Int32) (low : Nat → Int32) (lta : Nat → Int32) (llo : Nat → Int64) (lhi : Nat → Int64) (lmo : Nat → Int32) (rta : Nat → Int32) (ron : Nat → Int32) (rlo : Nat → Int64) (rhi : Nat → Int64) (rmo : Nat → Int32) (rin : Nat → Int32) (res : Nat → Int32) (rsi : Nat → Int32) (rli : Nat → Int32) (rar : Nat → Int32) (xgc : Int32) (xca : Int32) (xls : Int32) (xtl : Int32) (xno : Int32) (lco : Int32) (rwa : Int32) (rad : Int32) (rest : va_W) (a1 : Int32) (a2 : Int32) (a3 : Int64) (a4 : Int64) (a5 : Int32) (r : Int32) (hF : F_L_coverRange ltm low lta llo lhi lmo lco a1 a2 a3 a4 a5 = some r) : Ci l y_L_coverRange prog_2_method_5_code 9 (some .boolean) ({ frames := 2, cells := 0, slots := 0, locals := 50 }) [.ref (ad 1), .int a1, .int a2, .long a3, .long a4, .int a5] g (kty cI cJ cZ) (wC cI cJ cZ ad xst xse xre xgr ltm low lta llo lhi lmo rta ron rlo rhi rmo rin res rsi rli rar xgc xca xls xtl xno lco rwa rad rest) (wC cI cJ cZ ad xst xse xre xgr ltm low lta llo lhi lmo rta ron rlo rhi rmo rin res rsi rli rar xgc xca xls xtl xno lco rwa rad rest) r :=
  Ci.of (by decide) (Nat.le_of_ble_eq_true rfl) (fun p e s m below meth c A ls K hP hD hS hl => t_L_coverRange K xst xse xre xgr ltm low lta llo lhi lmo rta ron rlo rhi rmo rin res rsi rli rar xgc xca xls xtl xno lco rwa rad a1 a2 a3 a4 a5 r hF hP hD hS hl)
