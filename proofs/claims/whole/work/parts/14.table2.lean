theorem wm_218 : Cond.classLink "LockTable" 177 "java/lang/IllegalArgumentException" ∈ w_all := w_mem 218 (by decide +kernel) (by decide +kernel)
theorem wm_54 : Cond.initialized "java/lang/IllegalArgumentException" ∈ w_all := w_mem 54 (by decide +kernel) (by decide +kernel)
theorem wm_286 : Cond.classLink "LockTable" 50 "java/lang/IllegalStateException" ∈ w_all := w_mem 286 (by decide +kernel) (by decide +kernel)
theorem wm_55 : Cond.initialized "java/lang/IllegalStateException" ∈ w_all := w_mem 55 (by decide +kernel) (by decide +kernel)
theorem wm_217 : Cond.code ⟨"LockTable", "checkOwner", "(I)V"⟩ prog_1_method_23_code 1 none ∈ w_all := w_mem 217 (by decide +kernel) (by decide +kernel)
theorem wm_215 : Cond.methodLink "LockTable" 46 ⟨"LockTable", "checkOwner", "(I)V"⟩ ∈ w_all := w_mem 215 (by decide +kernel) (by decide +kernel)
theorem wm_216 : Cond.static ⟨"LockTable", "checkOwner", "(I)V"⟩ ∈ w_all := w_mem 216 (by decide +kernel) (by decide +kernel)
theorem wm_305 : Cond.code ⟨"LockTable", "startCall", "(I)V"⟩ prog_1_method_30_code 2 none ∈ w_all := w_mem 305 (by decide +kernel) (by decide +kernel)
theorem wm_302 : Cond.methodLink "LockTable" 57 ⟨"LockTable", "startCall", "(I)V"⟩ ∈ w_all := w_mem 302 (by decide +kernel) (by decide +kernel)
theorem wm_304 : Cond.instanceMethod ⟨"LockTable", "startCall", "(I)V"⟩ ∈ w_all := w_mem 304 (by decide +kernel) (by decide +kernel)
theorem wm_1 : Cond.selects "LockTable" ⟨"LockTable", "startCall", "(I)V"⟩ ⟨"LockTable", "startCall", "(I)V"⟩ ∈ w_all := w_mem 1 (by decide +kernel) (by decide +kernel)
theorem wm_164 : Cond.fieldLink "LockTable" 60 "LockTable" "lastSerial" "I" ∈ w_all := w_mem 164 (by decide +kernel) (by decide +kernel)
theorem wm_315 : Cond.code ⟨"LockTable", "checkTable", "(I)V"⟩ prog_1_method_24_code 1 none ∈ w_all := w_mem 315 (by decide +kernel) (by decide +kernel)
theorem wm_313 : Cond.methodLink "LockTable" 63 ⟨"LockTable", "checkTable", "(I)V"⟩ ∈ w_all := w_mem 313 (by decide +kernel) (by decide +kernel)
theorem wm_314 : Cond.static ⟨"LockTable", "checkTable", "(I)V"⟩ ∈ w_all := w_mem 314 (by decide +kernel) (by decide +kernel)
theorem wm_319 : Cond.code ⟨"LockTable", "checkMode", "(I)V"⟩ prog_1_method_25_code 1 none ∈ w_all := w_mem 319 (by decide +kernel) (by decide +kernel)
theorem wm_317 : Cond.methodLink "LockTable" 66 ⟨"LockTable", "checkMode", "(I)V"⟩ ∈ w_all := w_mem 317 (by decide +kernel) (by decide +kernel)
theorem wm_318 : Cond.static ⟨"LockTable", "checkMode", "(I)V"⟩ ∈ w_all := w_mem 318 (by decide +kernel) (by decide +kernel)
theorem wm_324 : Cond.code ⟨"LockTable", "checkWorks", "(I)V"⟩ prog_1_method_28_code 2 none ∈ w_all := w_mem 324 (by decide +kernel) (by decide +kernel)
theorem wm_321 : Cond.methodLink "LockTable" 69 ⟨"LockTable", "checkWorks", "(I)V"⟩ ∈ w_all := w_mem 321 (by decide +kernel) (by decide +kernel)
theorem wm_323 : Cond.instanceMethod ⟨"LockTable", "checkWorks", "(I)V"⟩ ∈ w_all := w_mem 323 (by decide +kernel) (by decide +kernel)
theorem wm_2 : Cond.selects "LockTable" ⟨"LockTable", "checkWorks", "(I)V"⟩ ⟨"LockTable", "checkWorks", "(I)V"⟩ ∈ w_all := w_mem 2 (by decide +kernel) (by decide +kernel)
theorem wm_349 : Cond.methodLink "LockTable" 85 ⟨"LockTable$Requests", "setTable", "(IIIZ)V"⟩ ∈ w_all := w_mem 349 (by decide +kernel) (by decide +kernel)
theorem wm_356 : Cond.code ⟨"LockTable", "ask", "(I)I"⟩ prog_1_method_33_code 2 (some .int) ∈ w_all := w_mem 356 (by decide +kernel) (by decide +kernel)
theorem wm_353 : Cond.methodLink "LockTable" 89 ⟨"LockTable", "ask", "(I)I"⟩ ∈ w_all := w_mem 353 (by decide +kernel) (by decide +kernel)
theorem wm_355 : Cond.instanceMethod ⟨"LockTable", "ask", "(I)I"⟩ ∈ w_all := w_mem 355 (by decide +kernel) (by decide +kernel)
theorem wm_4 : Cond.selects "LockTable" ⟨"LockTable", "ask", "(I)I"⟩ ⟨"LockTable", "ask", "(I)I"⟩ ∈ w_all := w_mem 4 (by decide +kernel) (by decide +kernel)
theorem wm_333 : Cond.code ⟨"LockTable", "isFull", "()Z"⟩ prog_1_method_31_code 1 (some .boolean) ∈ w_all := w_mem 333 (by decide +kernel) (by decide +kernel)
theorem wm_330 : Cond.methodLink "LockTable" 76 ⟨"LockTable", "isFull", "()Z"⟩ ∈ w_all := w_mem 330 (by decide +kernel) (by decide +kernel)
theorem wm_332 : Cond.instanceMethod ⟨"LockTable", "isFull", "()Z"⟩ ∈ w_all := w_mem 332 (by decide +kernel) (by decide +kernel)
theorem wm_3 : Cond.selects "LockTable" ⟨"LockTable", "isFull", "()Z"⟩ ⟨"LockTable", "isFull", "()Z"⟩ ∈ w_all := w_mem 3 (by decide +kernel) (by decide +kernel)
theorem wm_451 : Cond.code ⟨"LockTable", "checkRange", "(JJI)V"⟩ prog_1_method_26_code 5 none ∈ w_all := w_mem 451 (by decide +kernel) (by decide +kernel)
theorem wm_449 : Cond.methodLink "LockTable" 93 ⟨"LockTable", "checkRange", "(JJI)V"⟩ ∈ w_all := w_mem 449 (by decide +kernel) (by decide +kernel)
theorem wm_450 : Cond.static ⟨"LockTable", "checkRange", "(JJI)V"⟩ ∈ w_all := w_mem 450 (by decide +kernel) (by decide +kernel)
theorem wm_456 : Cond.code ⟨"LockTable$Modes", "allowsRange", "(II)Z"⟩ prog_3_method_7_code 2 (some .boolean) ∈ w_all := w_mem 456 (by decide +kernel) (by decide +kernel)
theorem wm_454 : Cond.methodLink "LockTable" 97 ⟨"LockTable$Modes", "allowsRange", "(II)Z"⟩ ∈ w_all := w_mem 454 (by decide +kernel) (by decide +kernel)
theorem wm_455 : Cond.static ⟨"LockTable$Modes", "allowsRange", "(II)Z"⟩ ∈ w_all := w_mem 455 (by decide +kernel) (by decide +kernel)
theorem wm_476 : Cond.code ⟨"LockTable$Locks", "coverRange", "(IIJJI)Z"⟩ prog_2_method_5_code 9 (some .boolean) ∈ w_all := w_mem 476 (by decide +kernel) (by decide +kernel)
theorem wm_473 : Cond.methodLink "LockTable" 106 ⟨"LockTable$Locks", "coverRange", "(IIJJI)Z"⟩ ∈ w_all := w_mem 473 (by decide +kernel) (by decide +kernel)
theorem wm_474 : Cond.instanceMethod ⟨"LockTable$Locks", "coverRange", "(IIJJI)Z"⟩ ∈ w_all := w_mem 474 (by decide +kernel) (by decide +kernel)
theorem wm_475 : Cond.selects "LockTable$Locks" ⟨"LockTable$Locks", "coverRange", "(IIJJI)Z"⟩ ⟨"LockTable$Locks", "coverRange", "(IIJJI)Z"⟩ ∈ w_all := w_mem 475 (by decide +kernel) (by decide +kernel)
theorem wm_494 : Cond.code ⟨"LockTable$Locks", "countRanges", "(II)I"⟩ prog_2_method_8_code 5 (some .int) ∈ w_all := w_mem 494 (by decide +kernel) (by decide +kernel)
theorem wm_491 : Cond.methodLink "LockTable" 110 ⟨"LockTable$Locks", "countRanges", "(II)I"⟩ ∈ w_all := w_mem 491 (by decide +kernel) (by decide +kernel)
theorem wm_492 : Cond.instanceMethod ⟨"LockTable$Locks", "countRanges", "(II)I"⟩ ∈ w_all := w_mem 492 (by decide +kernel) (by decide +kernel)
theorem wm_493 : Cond.selects "LockTable$Locks" ⟨"LockTable$Locks", "countRanges", "(II)I"⟩ ⟨"LockTable$Locks", "countRanges", "(II)I"⟩ ∈ w_all := w_mem 493 (by decide +kernel) (by decide +kernel)
theorem wm_511 : Cond.code ⟨"LockTable$Locks", "haveRangeRound", "(IIJJ)Z"⟩ prog_2_method_6_code 8 (some .boolean) ∈ w_all := w_mem 511 (by decide +kernel) (by decide +kernel)
theorem wm_508 : Cond.methodLink "LockTable" 117 ⟨"LockTable$Locks", "haveRangeRound", "(IIJJ)Z"⟩ ∈ w_all := w_mem 508 (by decide +kernel) (by decide +kernel)
theorem wm_509 : Cond.instanceMethod ⟨"LockTable$Locks", "haveRangeRound", "(IIJJ)Z"⟩ ∈ w_all := w_mem 509 (by decide +kernel) (by decide +kernel)
theorem wm_510 : Cond.selects "LockTable$Locks" ⟨"LockTable$Locks", "haveRangeRound", "(IIJJ)Z"⟩ ⟨"LockTable$Locks", "haveRangeRound", "(IIJJ)Z"⟩ ∈ w_all := w_mem 510 (by decide +kernel) (by decide +kernel)
theorem wm_515 : Cond.code ⟨"LockTable$Requests", "setRange", "(IIJJIZ)V"⟩ prog_4_method_4_code 9 none ∈ w_all := w_mem 515 (by decide +kernel) (by decide +kernel)
theorem wm_512 : Cond.methodLink "LockTable" 121 ⟨"LockTable$Requests", "setRange", "(IIJJIZ)V"⟩ ∈ w_all := w_mem 512 (by decide +kernel) (by decide +kernel)
theorem wm_513 : Cond.instanceMethod ⟨"LockTable$Requests", "setRange", "(IIJJIZ)V"⟩ ∈ w_all := w_mem 513 (by decide +kernel) (by decide +kernel)
theorem wm_514 : Cond.selects "LockTable$Requests" ⟨"LockTable$Requests", "setRange", "(IIJJIZ)V"⟩ ⟨"LockTable$Requests", "setRange", "(IIJJIZ)V"⟩ ∈ w_all := w_mem 514 (by decide +kernel) (by decide +kernel)
theorem wm_498 : Cond.code ⟨"LockTable", "setEscalation", "(III)V"⟩ prog_1_method_32_code 6 none ∈ w_all := w_mem 498 (by decide +kernel) (by decide +kernel)
theorem wm_495 : Cond.methodLink "LockTable" 113 ⟨"LockTable", "setEscalation", "(III)V"⟩ ∈ w_all := w_mem 495 (by decide +kernel) (by decide +kernel)
theorem wm_497 : Cond.instanceMethod ⟨"LockTable", "setEscalation", "(III)V"⟩ ∈ w_all := w_mem 497 (by decide +kernel) (by decide +kernel)
theorem wm_17 : Cond.selects "LockTable" ⟨"LockTable", "setEscalation", "(III)V"⟩ ⟨"LockTable", "setEscalation", "(III)V"⟩ ∈ w_all := w_mem 17 (by decide +kernel) (by decide +kernel)
theorem wm_457 : Cond.classLink "LockTable" 101 "java/lang/UnsupportedOperationException" ∈ w_all := w_mem 457 (by decide +kernel) (by decide +kernel)
theorem wm_58 : Cond.initialized "java/lang/UnsupportedOperationException" ∈ w_all := w_mem 58 (by decide +kernel) (by decide +kernel)
theorem wm_534 : Cond.code ⟨"LockTable", "checkWaits", "(I)V"⟩ prog_1_method_29_code 2 none ∈ w_all := w_mem 534 (by decide +kernel) (by decide +kernel)
theorem wm_531 : Cond.methodLink "LockTable" 127 ⟨"LockTable", "checkWaits", "(I)V"⟩ ∈ w_all := w_mem 531 (by decide +kernel) (by decide +kernel)
theorem wm_533 : Cond.instanceMethod ⟨"LockTable", "checkWaits", "(I)V"⟩ ∈ w_all := w_mem 533 (by decide +kernel) (by decide +kernel)
theorem wm_18 : Cond.selects "LockTable" ⟨"LockTable", "checkWaits", "(I)V"⟩ ⟨"LockTable", "checkWaits", "(I)V"⟩ ∈ w_all := w_mem 18 (by decide +kernel) (by decide +kernel)
theorem wm_546 : Cond.code ⟨"LockTable$Locks", "dropReading", "(I)V"⟩ prog_2_method_15_code 4 none ∈ w_all := w_mem 546 (by decide +kernel) (by decide +kernel)
theorem wm_543 : Cond.methodLink "LockTable" 140 ⟨"LockTable$Locks", "dropReading", "(I)V"⟩ ∈ w_all := w_mem 543 (by decide +kernel) (by decide +kernel)
theorem wm_544 : Cond.instanceMethod ⟨"LockTable$Locks", "dropReading", "(I)V"⟩ ∈ w_all := w_mem 544 (by decide +kernel) (by decide +kernel)
theorem wm_545 : Cond.selects "LockTable$Locks" ⟨"LockTable$Locks", "dropReading", "(I)V"⟩ ⟨"LockTable$Locks", "dropReading", "(I)V"⟩ ∈ w_all := w_mem 545 (by decide +kernel) (by decide +kernel)
theorem wm_554 : Cond.code ⟨"LockTable$Locks", "countOf", "(I)I"⟩ prog_2_method_9_code 4 (some .int) ∈ w_all := w_mem 554 (by decide +kernel) (by decide +kernel)
theorem wm_551 : Cond.methodLink "LockTable" 143 ⟨"LockTable$Locks", "countOf", "(I)I"⟩ ∈ w_all := w_mem 551 (by decide +kernel) (by decide +kernel)
theorem wm_552 : Cond.instanceMethod ⟨"LockTable$Locks", "countOf", "(I)I"⟩ ∈ w_all := w_mem 552 (by decide +kernel) (by decide +kernel)
theorem wm_553 : Cond.selects "LockTable$Locks" ⟨"LockTable$Locks", "countOf", "(I)I"⟩ ⟨"LockTable$Locks", "countOf", "(I)I"⟩ ∈ w_all := w_mem 553 (by decide +kernel) (by decide +kernel)
theorem wm_573 : Cond.code ⟨"LockTable$Locks", "dropAll", "(I)V"⟩ prog_2_method_16_code 3 none ∈ w_all := w_mem 573 (by decide +kernel) (by decide +kernel)
theorem wm_570 : Cond.methodLink "LockTable" 148 ⟨"LockTable$Locks", "dropAll", "(I)V"⟩ ∈ w_all := w_mem 570 (by decide +kernel) (by decide +kernel)
theorem wm_571 : Cond.instanceMethod ⟨"LockTable$Locks", "dropAll", "(I)V"⟩ ∈ w_all := w_mem 571 (by decide +kernel) (by decide +kernel)
theorem wm_572 : Cond.selects "LockTable$Locks" ⟨"LockTable$Locks", "dropAll", "(I)V"⟩ ⟨"LockTable$Locks", "dropAll", "(I)V"⟩ ∈ w_all := w_mem 572 (by decide +kernel) (by decide +kernel)
theorem wm_583 : Cond.code ⟨"LockTable", "checkTicks", "(I)V"⟩ prog_1_method_27_code 1 none ∈ w_all := w_mem 583 (by decide +kernel) (by decide +kernel)
theorem wm_581 : Cond.methodLink "LockTable" 151 ⟨"LockTable", "checkTicks", "(I)V"⟩ ∈ w_all := w_mem 581 (by decide +kernel) (by decide +kernel)
theorem wm_582 : Cond.static ⟨"LockTable", "checkTicks", "(I)V"⟩ ∈ w_all := w_mem 582 (by decide +kernel) (by decide +kernel)
theorem wm_595 : Cond.code ⟨"LockTable", "takeBackOverdue", "()I"⟩ prog_1_method_43_code 3 (some .int) ∈ w_all := w_mem 595 (by decide +kernel) (by decide +kernel)
theorem wm_592 : Cond.methodLink "LockTable" 160 ⟨"LockTable", "takeBackOverdue", "()I"⟩ ∈ w_all := w_mem 592 (by decide +kernel) (by decide +kernel)
theorem wm_594 : Cond.instanceMethod ⟨"LockTable", "takeBackOverdue", "()I"⟩ ∈ w_all := w_mem 594 (by decide +kernel) (by decide +kernel)
theorem wm_19 : Cond.selects "LockTable" ⟨"LockTable", "takeBackOverdue", "()I"⟩ ⟨"LockTable", "takeBackOverdue", "()I"⟩ ∈ w_all := w_mem 19 (by decide +kernel) (by decide +kernel)
theorem wm_638 : Cond.code ⟨"LockTable$Locks", "strongestOn", "(IIJ)I"⟩ prog_2_method_11_code 8 (some .int) ∈ w_all := w_mem 638 (by decide +kernel) (by decide +kernel)
theorem wm_635 : Cond.methodLink "LockTable" 170 ⟨"LockTable$Locks", "strongestOn", "(IIJ)I"⟩ ∈ w_all := w_mem 635 (by decide +kernel) (by decide +kernel)
theorem wm_636 : Cond.instanceMethod ⟨"LockTable$Locks", "strongestOn", "(IIJ)I"⟩ ∈ w_all := w_mem 636 (by decide +kernel) (by decide +kernel)
theorem wm_637 : Cond.selects "LockTable$Locks" ⟨"LockTable$Locks", "strongestOn", "(IIJ)I"⟩ ⟨"LockTable$Locks", "strongestOn", "(IIJ)I"⟩ ∈ w_all := w_mem 637 (by decide +kernel) (by decide +kernel)
theorem wm_119 : Cond.fieldLink "LockTable" 192 "LockTable$Requests" "inner" "[Z" ∈ w_all := w_mem 119 (by decide +kernel) (by decide +kernel)
theorem wm_123 : Cond.fieldLink "LockTable" 198 "LockTable$Requests" "since" "[I" ∈ w_all := w_mem 123 (by decide +kernel) (by decide +kernel)
theorem wm_664 : Cond.methodLink "LockTable" 204 ⟨"LockTable$Modes", "joined", "(II)I"⟩ ∈ w_all := w_mem 664 (by decide +kernel) (by decide +kernel)
theorem at_181 : ∀ w ∈ vx_atS "LockTable" 181 "java/lang/IllegalArgumentException" ["java/lang/RuntimeException", "java/lang/Exception"], w ∈ w_all ∨ w ∈ kBad := by decide +kernel
theorem at_54 : ∀ w ∈ vx_atS "LockTable" 54 "java/lang/IllegalStateException" ["java/lang/RuntimeException", "java/lang/Exception"], w ∈ w_all ∨ w ∈ kBad := by decide +kernel
theorem at_105 : ∀ w ∈ vx_atS "LockTable" 105 "java/lang/UnsupportedOperationException" ["java/lang/RuntimeException", "java/lang/Exception"], w ∈ w_all ∨ w ∈ kBad := by decide +kernel
abbrev y_T_checkOwner : MethodName := ⟨"LockTable", "checkOwner", "(I)V"⟩
theorem hd_T_checkOwner : y_T_checkOwner.cls ≠ "java/lang/invoke/MethodHandle" ∧ y_T_checkOwner.cls ≠ "java/lang/invoke/VarHandle" ∧ (parseMethodDescriptor y_T_checkOwner.desc).map (fun d => d.parameters.length) = some 1 := ⟨by decide, by decide, by decide +kernel⟩
abbrev y_T_checkTable : MethodName := ⟨"LockTable", "checkTable", "(I)V"⟩
theorem hd_T_checkTable : y_T_checkTable.cls ≠ "java/lang/invoke/MethodHandle" ∧ y_T_checkTable.cls ≠ "java/lang/invoke/VarHandle" ∧ (parseMethodDescriptor y_T_checkTable.desc).map (fun d => d.parameters.length) = some 1 := ⟨by decide, by decide, by decide +kernel⟩
abbrev y_T_checkMode : MethodName := ⟨"LockTable", "checkMode", "(I)V"⟩
theorem hd_T_checkMode : y_T_checkMode.cls ≠ "java/lang/invoke/MethodHandle" ∧ y_T_checkMode.cls ≠ "java/lang/invoke/VarHandle" ∧ (parseMethodDescriptor y_T_checkMode.desc).map (fun d => d.parameters.length) = some 1 := ⟨by decide, by decide, by decide +kernel⟩
abbrev y_T_checkRange : MethodName := ⟨"LockTable", "checkRange", "(JJI)V"⟩
theorem hd_T_checkRange : y_T_checkRange.cls ≠ "java/lang/invoke/MethodHandle" ∧ y_T_checkRange.cls ≠ "java/lang/invoke/VarHandle" ∧ (parseMethodDescriptor y_T_checkRange.desc).map (fun d => d.parameters.length) = some 3 := ⟨by decide, by decide, by decide +kernel⟩
abbrev y_T_checkTicks : MethodName := ⟨"LockTable", "checkTicks", "(I)V"⟩
theorem hd_T_checkTicks : y_T_checkTicks.cls ≠ "java/lang/invoke/MethodHandle" ∧ y_T_checkTicks.cls ≠ "java/lang/invoke/VarHandle" ∧ (parseMethodDescriptor y_T_checkTicks.desc).map (fun d => d.parameters.length) = some 1 := ⟨by decide, by decide, by decide +kernel⟩
abbrev y_T_checkWorks : MethodName := ⟨"LockTable", "checkWorks", "(I)V"⟩
theorem hd_T_checkWorks : y_T_checkWorks.cls ≠ "java/lang/invoke/MethodHandle" ∧ y_T_checkWorks.cls ≠ "java/lang/invoke/VarHandle" ∧ (parseMethodDescriptor y_T_checkWorks.desc).map (fun d => d.parameters.length) = some 1 := ⟨by decide, by decide, by decide +kernel⟩
abbrev y_T_checkWaits : MethodName := ⟨"LockTable", "checkWaits", "(I)V"⟩
theorem hd_T_checkWaits : y_T_checkWaits.cls ≠ "java/lang/invoke/MethodHandle" ∧ y_T_checkWaits.cls ≠ "java/lang/invoke/VarHandle" ∧ (parseMethodDescriptor y_T_checkWaits.desc).map (fun d => d.parameters.length) = some 1 := ⟨by decide, by decide, by decide +kernel⟩
abbrev y_T_begin : MethodName := ⟨"LockTable", "begin", "(I)I"⟩
theorem hd_T_begin : y_T_begin.cls ≠ "java/lang/invoke/MethodHandle" ∧ y_T_begin.cls ≠ "java/lang/invoke/VarHandle" ∧ (parseMethodDescriptor y_T_begin.desc).map (fun d => d.parameters.length) = some 1 := ⟨by decide, by decide, by decide +kernel⟩
abbrev y_T_table : MethodName := ⟨"LockTable", "table", "(III)I"⟩
theorem hd_T_table : y_T_table.cls ≠ "java/lang/invoke/MethodHandle" ∧ y_T_table.cls ≠ "java/lang/invoke/VarHandle" ∧ (parseMethodDescriptor y_T_table.desc).map (fun d => d.parameters.length) = some 3 := ⟨by decide, by decide, by decide +kernel⟩
abbrev y_T_range : MethodName := ⟨"LockTable", "range", "(IIJJI)I"⟩
theorem hd_T_range : y_T_range.cls ≠ "java/lang/invoke/MethodHandle" ∧ y_T_range.cls ≠ "java/lang/invoke/VarHandle" ∧ (parseMethodDescriptor y_T_range.desc).map (fun d => d.parameters.length) = some 5 := ⟨by decide, by decide, by decide +kernel⟩
abbrev y_T_escalate : MethodName := ⟨"LockTable", "escalate", "(II)I"⟩
theorem hd_T_escalate : y_T_escalate.cls ≠ "java/lang/invoke/MethodHandle" ∧ y_T_escalate.cls ≠ "java/lang/invoke/VarHandle" ∧ (parseMethodDescriptor y_T_escalate.desc).map (fun d => d.parameters.length) = some 2 := ⟨by decide, by decide, by decide +kernel⟩
abbrev y_T_cancel : MethodName := ⟨"LockTable", "cancel", "(I)I"⟩
theorem hd_T_cancel : y_T_cancel.cls ≠ "java/lang/invoke/MethodHandle" ∧ y_T_cancel.cls ≠ "java/lang/invoke/VarHandle" ∧ (parseMethodDescriptor y_T_cancel.desc).map (fun d => d.parameters.length) = some 1 := ⟨by decide, by decide, by decide +kernel⟩
abbrev y_T_prepare : MethodName := ⟨"LockTable", "prepare", "(I)I"⟩
theorem hd_T_prepare : y_T_prepare.cls ≠ "java/lang/invoke/MethodHandle" ∧ y_T_prepare.cls ≠ "java/lang/invoke/VarHandle" ∧ (parseMethodDescriptor y_T_prepare.desc).map (fun d => d.parameters.length) = some 1 := ⟨by decide, by decide, by decide +kernel⟩
abbrev y_T_unread : MethodName := ⟨"LockTable", "unread", "(I)I"⟩
theorem hd_T_unread : y_T_unread.cls ≠ "java/lang/invoke/MethodHandle" ∧ y_T_unread.cls ≠ "java/lang/invoke/VarHandle" ∧ (parseMethodDescriptor y_T_unread.desc).map (fun d => d.parameters.length) = some 1 := ⟨by decide, by decide, by decide +kernel⟩
abbrev y_T_end : MethodName := ⟨"LockTable", "end", "(I)I"⟩
theorem hd_T_end : y_T_end.cls ≠ "java/lang/invoke/MethodHandle" ∧ y_T_end.cls ≠ "java/lang/invoke/VarHandle" ∧ (parseMethodDescriptor y_T_end.desc).map (fun d => d.parameters.length) = some 1 := ⟨by decide, by decide, by decide +kernel⟩
abbrev y_T_limit : MethodName := ⟨"LockTable", "limit", "(I)V"⟩
theorem hd_T_limit : y_T_limit.cls ≠ "java/lang/invoke/MethodHandle" ∧ y_T_limit.cls ≠ "java/lang/invoke/VarHandle" ∧ (parseMethodDescriptor y_T_limit.desc).map (fun d => d.parameters.length) = some 1 := ⟨by decide, by decide, by decide +kernel⟩
abbrev y_T_tick : MethodName := ⟨"LockTable", "tick", "(I)I"⟩
theorem hd_T_tick : y_T_tick.cls ≠ "java/lang/invoke/MethodHandle" ∧ y_T_tick.cls ≠ "java/lang/invoke/VarHandle" ∧ (parseMethodDescriptor y_T_tick.desc).map (fun d => d.parameters.length) = some 1 := ⟨by decide, by decide, by decide +kernel⟩
abbrev y_T_state : MethodName := ⟨"LockTable", "state", "(I)I"⟩
theorem hd_T_state : y_T_state.cls ≠ "java/lang/invoke/MethodHandle" ∧ y_T_state.cls ≠ "java/lang/invoke/VarHandle" ∧ (parseMethodDescriptor y_T_state.desc).map (fun d => d.parameters.length) = some 1 := ⟨by decide, by decide, by decide +kernel⟩
abbrev y_T_serial : MethodName := ⟨"LockTable", "serial", "(I)I"⟩
theorem hd_T_serial : y_T_serial.cls ≠ "java/lang/invoke/MethodHandle" ∧ y_T_serial.cls ≠ "java/lang/invoke/VarHandle" ∧ (parseMethodDescriptor y_T_serial.desc).map (fun d => d.parameters.length) = some 1 := ⟨by decide, by decide, by decide +kernel⟩
abbrev y_T_ranges : MethodName := ⟨"LockTable", "ranges", "(II)I"⟩
theorem hd_T_ranges : y_T_ranges.cls ≠ "java/lang/invoke/MethodHandle" ∧ y_T_ranges.cls ≠ "java/lang/invoke/VarHandle" ∧ (parseMethodDescriptor y_T_ranges.desc).map (fun d => d.parameters.length) = some 2 := ⟨by decide, by decide, by decide +kernel⟩
abbrev y_T_mode : MethodName := ⟨"LockTable", "mode", "(II)I"⟩
theorem hd_T_mode : y_T_mode.cls ≠ "java/lang/invoke/MethodHandle" ∧ y_T_mode.cls ≠ "java/lang/invoke/VarHandle" ∧ (parseMethodDescriptor y_T_mode.desc).map (fun d => d.parameters.length) = some 2 := ⟨by decide, by decide, by decide +kernel⟩
abbrev y_T_right : MethodName := ⟨"LockTable", "right", "(IIJ)I"⟩
theorem hd_T_right : y_T_right.cls ≠ "java/lang/invoke/MethodHandle" ∧ y_T_right.cls ≠ "java/lang/invoke/VarHandle" ∧ (parseMethodDescriptor y_T_right.desc).map (fun d => d.parameters.length) = some 3 := ⟨by decide, by decide, by decide +kernel⟩
abbrev y_T_wants : MethodName := ⟨"LockTable", "wants", "(II)I"⟩
theorem hd_T_wants : y_T_wants.cls ≠ "java/lang/invoke/MethodHandle" ∧ y_T_wants.cls ≠ "java/lang/invoke/VarHandle" ∧ (parseMethodDescriptor y_T_wants.desc).map (fun d => d.parameters.length) = some 2 := ⟨by decide, by decide, by decide +kernel⟩
abbrev y_T_behind : MethodName := ⟨"LockTable", "behind", "(I)I"⟩
theorem hd_T_behind : y_T_behind.cls ≠ "java/lang/invoke/MethodHandle" ∧ y_T_behind.cls ≠ "java/lang/invoke/VarHandle" ∧ (parseMethodDescriptor y_T_behind.desc).map (fun d => d.parameters.length) = some 1 := ⟨by decide, by decide, by decide +kernel⟩
abbrev y_T_join : MethodName := ⟨"LockTable", "join", "(II)I"⟩
theorem hd_T_join : y_T_join.cls ≠ "java/lang/invoke/MethodHandle" ∧ y_T_join.cls ≠ "java/lang/invoke/VarHandle" ∧ (parseMethodDescriptor y_T_join.desc).map (fun d => d.parameters.length) = some 2 := ⟨by decide, by decide, by decide +kernel⟩
theorem d_T_checkOwner_0 : decode prog_1_method_23_code 0 = .ok (.iload_n 0, 1) := by decide +kernel
theorem d_T_checkOwner_1 : decode prog_1_method_23_code 1 = .ok (.ifCond .lt 9, 3) := by decide +kernel
theorem d_T_checkOwner_4 : decode prog_1_method_23_code 4 = .ok (.iload_n 0, 1) := by decide +kernel
theorem d_T_checkOwner_5 : decode prog_1_method_23_code 5 = .ok (.bipush 8, 2) := by decide +kernel
theorem d_T_checkOwner_7 : decode prog_1_method_23_code 7 = .ok (.if_icmp .lt 13, 3) := by decide +kernel
theorem d_T_checkOwner_10 : decode prog_1_method_23_code 10 = .ok (.new 177, 3) := by decide +kernel
theorem d_T_checkOwner_13 : decode prog_1_method_23_code 13 = .ok (.dup, 1) := by decide +kernel
theorem d_T_checkOwner_14 : decode prog_1_method_23_code 14 = .ok (.ldc 207, 2) := by decide +kernel
theorem d_T_checkOwner_16 : decode prog_1_method_23_code 16 = .ok (.invokespecial 181, 3) := by decide +kernel
theorem d_T_checkOwner_19 : decode prog_1_method_23_code 19 = .ok (.athrow, 1) := by decide +kernel
theorem d_T_checkOwner_20 : decode prog_1_method_23_code 20 = .ok (.return_, 1) := by decide +kernel
theorem d_T_checkTable_0 : decode prog_1_method_24_code 0 = .ok (.iload_n 0, 1) := by decide +kernel
theorem d_T_checkTable_1 : decode prog_1_method_24_code 1 = .ok (.ifCond .lt 9, 3) := by decide +kernel
theorem d_T_checkTable_4 : decode prog_1_method_24_code 4 = .ok (.iload_n 0, 1) := by decide +kernel
theorem d_T_checkTable_5 : decode prog_1_method_24_code 5 = .ok (.bipush 16, 2) := by decide +kernel
theorem d_T_checkTable_7 : decode prog_1_method_24_code 7 = .ok (.if_icmp .lt 13, 3) := by decide +kernel
theorem d_T_checkTable_10 : decode prog_1_method_24_code 10 = .ok (.new 177, 3) := by decide +kernel
theorem d_T_checkTable_13 : decode prog_1_method_24_code 13 = .ok (.dup, 1) := by decide +kernel
theorem d_T_checkTable_14 : decode prog_1_method_24_code 14 = .ok (.ldc 209, 2) := by decide +kernel
theorem d_T_checkTable_16 : decode prog_1_method_24_code 16 = .ok (.invokespecial 181, 3) := by decide +kernel
theorem d_T_checkTable_19 : decode prog_1_method_24_code 19 = .ok (.athrow, 1) := by decide +kernel
theorem d_T_checkTable_20 : decode prog_1_method_24_code 20 = .ok (.return_, 1) := by decide +kernel
theorem d_T_checkMode_0 : decode prog_1_method_25_code 0 = .ok (.iload_n 0, 1) := by decide +kernel
theorem d_T_checkMode_1 : decode prog_1_method_25_code 1 = .ok (.ifCond .lt 8, 3) := by decide +kernel
theorem d_T_checkMode_4 : decode prog_1_method_25_code 4 = .ok (.iload_n 0, 1) := by decide +kernel
theorem d_T_checkMode_5 : decode prog_1_method_25_code 5 = .ok (.iconst 5, 1) := by decide +kernel
theorem d_T_checkMode_6 : decode prog_1_method_25_code 6 = .ok (.if_icmp .le 13, 3) := by decide +kernel
theorem d_T_checkMode_9 : decode prog_1_method_25_code 9 = .ok (.new 177, 3) := by decide +kernel
theorem d_T_checkMode_12 : decode prog_1_method_25_code 12 = .ok (.dup, 1) := by decide +kernel
theorem d_T_checkMode_13 : decode prog_1_method_25_code 13 = .ok (.ldc 211, 2) := by decide +kernel
theorem d_T_checkMode_15 : decode prog_1_method_25_code 15 = .ok (.invokespecial 181, 3) := by decide +kernel
theorem d_T_checkMode_18 : decode prog_1_method_25_code 18 = .ok (.athrow, 1) := by decide +kernel
theorem d_T_checkMode_19 : decode prog_1_method_25_code 19 = .ok (.return_, 1) := by decide +kernel
theorem d_T_checkRange_0 : decode prog_1_method_26_code 0 = .ok (.lload_n 0, 1) := by decide +kernel
theorem d_T_checkRange_1 : decode prog_1_method_26_code 1 = .ok (.lload_n 2, 1) := by decide +kernel
theorem d_T_checkRange_2 : decode prog_1_method_26_code 2 = .ok (.lcmp, 1) := by decide +kernel
theorem d_T_checkRange_3 : decode prog_1_method_26_code 3 = .ok (.ifCond .le 13, 3) := by decide +kernel
theorem d_T_checkRange_6 : decode prog_1_method_26_code 6 = .ok (.new 177, 3) := by decide +kernel
theorem d_T_checkRange_9 : decode prog_1_method_26_code 9 = .ok (.dup, 1) := by decide +kernel
theorem d_T_checkRange_10 : decode prog_1_method_26_code 10 = .ok (.ldc 213, 2) := by decide +kernel
theorem d_T_checkRange_12 : decode prog_1_method_26_code 12 = .ok (.invokespecial 181, 3) := by decide +kernel
theorem d_T_checkRange_15 : decode prog_1_method_26_code 15 = .ok (.athrow, 1) := by decide +kernel
theorem d_T_checkRange_16 : decode prog_1_method_26_code 16 = .ok (.iload 4, 2) := by decide +kernel
theorem d_T_checkRange_18 : decode prog_1_method_26_code 18 = .ok (.iconst 2, 1) := by decide +kernel
theorem d_T_checkRange_19 : decode prog_1_method_26_code 19 = .ok (.if_icmp .eq 25, 3) := by decide +kernel
theorem d_T_checkRange_22 : decode prog_1_method_26_code 22 = .ok (.iload 4, 2) := by decide +kernel
theorem d_T_checkRange_24 : decode prog_1_method_26_code 24 = .ok (.iconst 4, 1) := by decide +kernel
theorem d_T_checkRange_25 : decode prog_1_method_26_code 25 = .ok (.if_icmp .eq 19, 3) := by decide +kernel
theorem d_T_checkRange_28 : decode prog_1_method_26_code 28 = .ok (.iload 4, 2) := by decide +kernel
theorem d_T_checkRange_30 : decode prog_1_method_26_code 30 = .ok (.iconst 5, 1) := by decide +kernel
theorem d_T_checkRange_31 : decode prog_1_method_26_code 31 = .ok (.if_icmp .eq 13, 3) := by decide +kernel
theorem d_T_checkRange_34 : decode prog_1_method_26_code 34 = .ok (.new 177, 3) := by decide +kernel
theorem d_T_checkRange_37 : decode prog_1_method_26_code 37 = .ok (.dup, 1) := by decide +kernel
theorem d_T_checkRange_38 : decode prog_1_method_26_code 38 = .ok (.ldc 215, 2) := by decide +kernel
theorem d_T_checkRange_40 : decode prog_1_method_26_code 40 = .ok (.invokespecial 181, 3) := by decide +kernel
theorem d_T_checkRange_43 : decode prog_1_method_26_code 43 = .ok (.athrow, 1) := by decide +kernel
theorem d_T_checkRange_44 : decode prog_1_method_26_code 44 = .ok (.return_, 1) := by decide +kernel
theorem d_T_checkTicks_0 : decode prog_1_method_27_code 0 = .ok (.iload_n 0, 1) := by decide +kernel
theorem d_T_checkTicks_1 : decode prog_1_method_27_code 1 = .ok (.ifCond .lt 10, 3) := by decide +kernel
theorem d_T_checkTicks_4 : decode prog_1_method_27_code 4 = .ok (.iload_n 0, 1) := by decide +kernel
theorem d_T_checkTicks_5 : decode prog_1_method_27_code 5 = .ok (.sipush 1000, 3) := by decide +kernel
theorem d_T_checkTicks_8 : decode prog_1_method_27_code 8 = .ok (.if_icmp .le 13, 3) := by decide +kernel
theorem d_T_checkTicks_11 : decode prog_1_method_27_code 11 = .ok (.new 177, 3) := by decide +kernel
theorem d_T_checkTicks_14 : decode prog_1_method_27_code 14 = .ok (.dup, 1) := by decide +kernel
theorem d_T_checkTicks_15 : decode prog_1_method_27_code 15 = .ok (.ldc 217, 2) := by decide +kernel
theorem d_T_checkTicks_17 : decode prog_1_method_27_code 17 = .ok (.invokespecial 181, 3) := by decide +kernel
theorem d_T_checkTicks_20 : decode prog_1_method_27_code 20 = .ok (.athrow, 1) := by decide +kernel
theorem d_T_checkTicks_21 : decode prog_1_method_27_code 21 = .ok (.return_, 1) := by decide +kernel
theorem d_T_checkWorks_0 : decode prog_1_method_28_code 0 = .ok (.aload_n 0, 1) := by decide +kernel
theorem d_T_checkWorks_1 : decode prog_1_method_28_code 1 = .ok (.getfield 9, 3) := by decide +kernel
theorem d_T_checkWorks_4 : decode prog_1_method_28_code 4 = .ok (.iload_n 1, 1) := by decide +kernel
theorem d_T_checkWorks_5 : decode prog_1_method_28_code 5 = .ok (.iaload, 1) := by decide +kernel
theorem d_T_checkWorks_6 : decode prog_1_method_28_code 6 = .ok (.iconst 1, 1) := by decide +kernel
theorem d_T_checkWorks_7 : decode prog_1_method_28_code 7 = .ok (.if_icmp .eq 13, 3) := by decide +kernel
theorem d_T_checkWorks_10 : decode prog_1_method_28_code 10 = .ok (.new 50, 3) := by decide +kernel
theorem d_T_checkWorks_13 : decode prog_1_method_28_code 13 = .ok (.dup, 1) := by decide +kernel
theorem d_T_checkWorks_14 : decode prog_1_method_28_code 14 = .ok (.ldc 219, 2) := by decide +kernel
theorem d_T_checkWorks_16 : decode prog_1_method_28_code 16 = .ok (.invokespecial 54, 3) := by decide +kernel
theorem d_T_checkWorks_19 : decode prog_1_method_28_code 19 = .ok (.athrow, 1) := by decide +kernel
theorem d_T_checkWorks_20 : decode prog_1_method_28_code 20 = .ok (.return_, 1) := by decide +kernel
theorem d_T_checkWaits_0 : decode prog_1_method_29_code 0 = .ok (.aload_n 0, 1) := by decide +kernel
theorem d_T_checkWaits_1 : decode prog_1_method_29_code 1 = .ok (.getfield 9, 3) := by decide +kernel
theorem d_T_checkWaits_4 : decode prog_1_method_29_code 4 = .ok (.iload_n 1, 1) := by decide +kernel
theorem d_T_checkWaits_5 : decode prog_1_method_29_code 5 = .ok (.iaload, 1) := by decide +kernel
theorem d_T_checkWaits_6 : decode prog_1_method_29_code 6 = .ok (.iconst 2, 1) := by decide +kernel
theorem d_T_checkWaits_7 : decode prog_1_method_29_code 7 = .ok (.if_icmp .eq 13, 3) := by decide +kernel
theorem d_T_checkWaits_10 : decode prog_1_method_29_code 10 = .ok (.new 50, 3) := by decide +kernel
theorem d_T_checkWaits_13 : decode prog_1_method_29_code 13 = .ok (.dup, 1) := by decide +kernel
theorem d_T_checkWaits_14 : decode prog_1_method_29_code 14 = .ok (.ldc 221, 2) := by decide +kernel
theorem d_T_checkWaits_16 : decode prog_1_method_29_code 16 = .ok (.invokespecial 54, 3) := by decide +kernel
theorem d_T_checkWaits_19 : decode prog_1_method_29_code 19 = .ok (.athrow, 1) := by decide +kernel
theorem d_T_checkWaits_20 : decode prog_1_method_29_code 20 = .ok (.return_, 1) := by decide +kernel
theorem d_T_begin_0 : decode prog_1_method_2_code 0 = .ok (.iload_n 1, 1) := by decide +kernel
theorem d_T_begin_1 : decode prog_1_method_2_code 1 = .ok (.invokestatic 46, 3) := by decide +kernel
theorem d_T_begin_4 : decode prog_1_method_2_code 4 = .ok (.aload_n 0, 1) := by decide +kernel
theorem d_T_begin_5 : decode prog_1_method_2_code 5 = .ok (.getfield 9, 3) := by decide +kernel
theorem d_T_begin_8 : decode prog_1_method_2_code 8 = .ok (.iload_n 1, 1) := by decide +kernel
theorem d_T_begin_9 : decode prog_1_method_2_code 9 = .ok (.iaload, 1) := by decide +kernel
theorem d_T_begin_10 : decode prog_1_method_2_code 10 = .ok (.ifCond .eq 13, 3) := by decide +kernel
theorem d_T_begin_13 : decode prog_1_method_2_code 13 = .ok (.new 50, 3) := by decide +kernel
theorem d_T_begin_16 : decode prog_1_method_2_code 16 = .ok (.dup, 1) := by decide +kernel
theorem d_T_begin_17 : decode prog_1_method_2_code 17 = .ok (.ldc 52, 2) := by decide +kernel
theorem d_T_begin_19 : decode prog_1_method_2_code 19 = .ok (.invokespecial 54, 3) := by decide +kernel
theorem d_T_begin_22 : decode prog_1_method_2_code 22 = .ok (.athrow, 1) := by decide +kernel
theorem d_T_begin_23 : decode prog_1_method_2_code 23 = .ok (.aload_n 0, 1) := by decide +kernel
theorem d_T_begin_24 : decode prog_1_method_2_code 24 = .ok (.iload_n 1, 1) := by decide +kernel
theorem d_T_begin_25 : decode prog_1_method_2_code 25 = .ok (.invokevirtual 57, 3) := by decide +kernel
theorem d_T_begin_28 : decode prog_1_method_2_code 28 = .ok (.aload_n 0, 1) := by decide +kernel
theorem d_T_begin_29 : decode prog_1_method_2_code 29 = .ok (.dup, 1) := by decide +kernel
theorem d_T_begin_30 : decode prog_1_method_2_code 30 = .ok (.getfield 60, 3) := by decide +kernel
theorem d_T_begin_33 : decode prog_1_method_2_code 33 = .ok (.iconst 1, 1) := by decide +kernel
theorem d_T_begin_34 : decode prog_1_method_2_code 34 = .ok (.iadd, 1) := by decide +kernel
theorem d_T_begin_35 : decode prog_1_method_2_code 35 = .ok (.putfield 60, 3) := by decide +kernel
theorem d_T_begin_38 : decode prog_1_method_2_code 38 = .ok (.aload_n 0, 1) := by decide +kernel
theorem d_T_begin_39 : decode prog_1_method_2_code 39 = .ok (.getfield 13, 3) := by decide +kernel
theorem d_T_begin_42 : decode prog_1_method_2_code 42 = .ok (.iload_n 1, 1) := by decide +kernel
theorem d_T_begin_43 : decode prog_1_method_2_code 43 = .ok (.aload_n 0, 1) := by decide +kernel
theorem d_T_begin_44 : decode prog_1_method_2_code 44 = .ok (.getfield 60, 3) := by decide +kernel
theorem d_T_begin_47 : decode prog_1_method_2_code 47 = .ok (.iastore, 1) := by decide +kernel
theorem d_T_begin_48 : decode prog_1_method_2_code 48 = .ok (.aload_n 0, 1) := by decide +kernel
theorem d_T_begin_49 : decode prog_1_method_2_code 49 = .ok (.getfield 9, 3) := by decide +kernel
theorem d_T_begin_52 : decode prog_1_method_2_code 52 = .ok (.iload_n 1, 1) := by decide +kernel
theorem d_T_begin_53 : decode prog_1_method_2_code 53 = .ok (.iconst 1, 1) := by decide +kernel
theorem d_T_begin_54 : decode prog_1_method_2_code 54 = .ok (.iastore, 1) := by decide +kernel
theorem d_T_begin_55 : decode prog_1_method_2_code 55 = .ok (.aload_n 0, 1) := by decide +kernel
theorem d_T_begin_56 : decode prog_1_method_2_code 56 = .ok (.getfield 60, 3) := by decide +kernel
theorem d_T_begin_59 : decode prog_1_method_2_code 59 = .ok (.ireturn, 1) := by decide +kernel
theorem d_T_table_0 : decode prog_1_method_3_code 0 = .ok (.iload_n 1, 1) := by decide +kernel
theorem d_T_table_1 : decode prog_1_method_3_code 1 = .ok (.invokestatic 46, 3) := by decide +kernel
theorem d_T_table_4 : decode prog_1_method_3_code 4 = .ok (.iload_n 2, 1) := by decide +kernel
theorem d_T_table_5 : decode prog_1_method_3_code 5 = .ok (.invokestatic 63, 3) := by decide +kernel
theorem d_T_table_8 : decode prog_1_method_3_code 8 = .ok (.iload_n 3, 1) := by decide +kernel
theorem d_T_table_9 : decode prog_1_method_3_code 9 = .ok (.invokestatic 66, 3) := by decide +kernel
theorem d_T_table_12 : decode prog_1_method_3_code 12 = .ok (.aload_n 0, 1) := by decide +kernel
theorem d_T_table_13 : decode prog_1_method_3_code 13 = .ok (.iload_n 1, 1) := by decide +kernel
theorem d_T_table_14 : decode prog_1_method_3_code 14 = .ok (.invokevirtual 69, 3) := by decide +kernel
theorem d_T_table_17 : decode prog_1_method_3_code 17 = .ok (.aload_n 0, 1) := by decide +kernel
theorem d_T_table_18 : decode prog_1_method_3_code 18 = .ok (.iload_n 1, 1) := by decide +kernel
theorem d_T_table_19 : decode prog_1_method_3_code 19 = .ok (.invokevirtual 57, 3) := by decide +kernel
theorem d_T_table_22 : decode prog_1_method_3_code 22 = .ok (.aload_n 0, 1) := by decide +kernel
theorem d_T_table_23 : decode prog_1_method_3_code 23 = .ok (.getfield 25, 3) := by decide +kernel
theorem d_T_table_26 : decode prog_1_method_3_code 26 = .ok (.iload_n 1, 1) := by decide +kernel
theorem d_T_table_27 : decode prog_1_method_3_code 27 = .ok (.iload_n 2, 1) := by decide +kernel
theorem d_T_table_28 : decode prog_1_method_3_code 28 = .ok (.invokevirtual 72, 3) := by decide +kernel
theorem d_T_table_31 : decode prog_1_method_3_code 31 = .ok (.istore 4, 2) := by decide +kernel
theorem d_T_table_33 : decode prog_1_method_3_code 33 = .ok (.iload 4, 2) := by decide +kernel
theorem d_T_table_35 : decode prog_1_method_3_code 35 = .ok (.iconst (-1), 1) := by decide +kernel
theorem d_T_table_36 : decode prog_1_method_3_code 36 = .ok (.if_icmp .ne 12, 3) := by decide +kernel
theorem d_T_table_39 : decode prog_1_method_3_code 39 = .ok (.aload_n 0, 1) := by decide +kernel
theorem d_T_table_40 : decode prog_1_method_3_code 40 = .ok (.invokevirtual 76, 3) := by decide +kernel
theorem d_T_table_43 : decode prog_1_method_3_code 43 = .ok (.ifCond .eq 5, 3) := by decide +kernel
theorem d_T_table_46 : decode prog_1_method_3_code 46 = .ok (.iconst 3, 1) := by decide +kernel
theorem d_T_table_47 : decode prog_1_method_3_code 47 = .ok (.ireturn, 1) := by decide +kernel
theorem d_T_table_48 : decode prog_1_method_3_code 48 = .ok (.aload_n 0, 1) := by decide +kernel
theorem d_T_table_49 : decode prog_1_method_3_code 49 = .ok (.getfield 32, 3) := by decide +kernel
theorem d_T_table_52 : decode prog_1_method_3_code 52 = .ok (.iload_n 1, 1) := by decide +kernel
theorem d_T_table_53 : decode prog_1_method_3_code 53 = .ok (.iload_n 2, 1) := by decide +kernel
theorem d_T_table_54 : decode prog_1_method_3_code 54 = .ok (.iload 4, 2) := by decide +kernel
theorem d_T_table_56 : decode prog_1_method_3_code 56 = .ok (.iload_n 3, 1) := by decide +kernel
theorem d_T_table_57 : decode prog_1_method_3_code 57 = .ok (.invokestatic 80, 3) := by decide +kernel
theorem d_T_table_60 : decode prog_1_method_3_code 60 = .ok (.iload 4, 2) := by decide +kernel
theorem d_T_table_62 : decode prog_1_method_3_code 62 = .ok (.iconst (-1), 1) := by decide +kernel
theorem d_T_table_63 : decode prog_1_method_3_code 63 = .ok (.if_icmp .eq 7, 3) := by decide +kernel
theorem d_T_table_66 : decode prog_1_method_3_code 66 = .ok (.iconst 1, 1) := by decide +kernel
theorem d_T_table_67 : decode prog_1_method_3_code 67 = .ok (.goto 4, 3) := by decide +kernel
theorem d_T_table_70 : decode prog_1_method_3_code 70 = .ok (.iconst 0, 1) := by decide +kernel
theorem d_T_table_71 : decode prog_1_method_3_code 71 = .ok (.invokevirtual 85, 3) := by decide +kernel
theorem d_T_table_74 : decode prog_1_method_3_code 74 = .ok (.aload_n 0, 1) := by decide +kernel
theorem d_T_table_75 : decode prog_1_method_3_code 75 = .ok (.iload_n 1, 1) := by decide +kernel
theorem d_T_table_76 : decode prog_1_method_3_code 76 = .ok (.invokevirtual 89, 3) := by decide +kernel
theorem d_T_table_79 : decode prog_1_method_3_code 79 = .ok (.ireturn, 1) := by decide +kernel
theorem d_T_range_0 : decode prog_1_method_4_code 0 = .ok (.iload_n 1, 1) := by decide +kernel
theorem d_T_range_1 : decode prog_1_method_4_code 1 = .ok (.invokestatic 46, 3) := by decide +kernel
theorem d_T_range_4 : decode prog_1_method_4_code 4 = .ok (.iload_n 2, 1) := by decide +kernel
theorem d_T_range_5 : decode prog_1_method_4_code 5 = .ok (.invokestatic 63, 3) := by decide +kernel
theorem d_T_range_8 : decode prog_1_method_4_code 8 = .ok (.lload_n 3, 1) := by decide +kernel
theorem d_T_range_9 : decode prog_1_method_4_code 9 = .ok (.lload 5, 2) := by decide +kernel
theorem d_T_range_11 : decode prog_1_method_4_code 11 = .ok (.iload 7, 2) := by decide +kernel
theorem d_T_range_13 : decode prog_1_method_4_code 13 = .ok (.invokestatic 93, 3) := by decide +kernel
theorem d_T_range_16 : decode prog_1_method_4_code 16 = .ok (.aload_n 0, 1) := by decide +kernel
theorem d_T_range_17 : decode prog_1_method_4_code 17 = .ok (.iload_n 1, 1) := by decide +kernel
theorem d_T_range_18 : decode prog_1_method_4_code 18 = .ok (.invokevirtual 69, 3) := by decide +kernel
theorem d_T_range_21 : decode prog_1_method_4_code 21 = .ok (.aload_n 0, 1) := by decide +kernel
theorem d_T_range_22 : decode prog_1_method_4_code 22 = .ok (.getfield 25, 3) := by decide +kernel
theorem d_T_range_25 : decode prog_1_method_4_code 25 = .ok (.iload_n 1, 1) := by decide +kernel
theorem d_T_range_26 : decode prog_1_method_4_code 26 = .ok (.iload_n 2, 1) := by decide +kernel
theorem d_T_range_27 : decode prog_1_method_4_code 27 = .ok (.invokevirtual 72, 3) := by decide +kernel
theorem d_T_range_30 : decode prog_1_method_4_code 30 = .ok (.iload 7, 2) := by decide +kernel
theorem d_T_range_32 : decode prog_1_method_4_code 32 = .ok (.invokestatic 97, 3) := by decide +kernel
theorem d_T_range_35 : decode prog_1_method_4_code 35 = .ok (.ifCond .ne 13, 3) := by decide +kernel
theorem d_T_range_38 : decode prog_1_method_4_code 38 = .ok (.new 101, 3) := by decide +kernel
theorem d_T_range_41 : decode prog_1_method_4_code 41 = .ok (.dup, 1) := by decide +kernel
theorem d_T_range_42 : decode prog_1_method_4_code 42 = .ok (.ldc 103, 2) := by decide +kernel
theorem d_T_range_44 : decode prog_1_method_4_code 44 = .ok (.invokespecial 105, 3) := by decide +kernel
theorem d_T_range_47 : decode prog_1_method_4_code 47 = .ok (.athrow, 1) := by decide +kernel
theorem d_T_range_48 : decode prog_1_method_4_code 48 = .ok (.aload_n 0, 1) := by decide +kernel
theorem d_T_range_49 : decode prog_1_method_4_code 49 = .ok (.iload_n 1, 1) := by decide +kernel
theorem d_T_range_50 : decode prog_1_method_4_code 50 = .ok (.invokevirtual 57, 3) := by decide +kernel
theorem d_T_range_53 : decode prog_1_method_4_code 53 = .ok (.aload_n 0, 1) := by decide +kernel
theorem d_T_range_54 : decode prog_1_method_4_code 54 = .ok (.getfield 25, 3) := by decide +kernel
theorem d_T_range_57 : decode prog_1_method_4_code 57 = .ok (.iload_n 1, 1) := by decide +kernel
theorem d_T_range_58 : decode prog_1_method_4_code 58 = .ok (.iload_n 2, 1) := by decide +kernel
theorem d_T_range_59 : decode prog_1_method_4_code 59 = .ok (.lload_n 3, 1) := by decide +kernel
theorem d_T_range_60 : decode prog_1_method_4_code 60 = .ok (.lload 5, 2) := by decide +kernel
theorem d_T_range_62 : decode prog_1_method_4_code 62 = .ok (.iload 7, 2) := by decide +kernel
theorem d_T_range_64 : decode prog_1_method_4_code 64 = .ok (.invokevirtual 106, 3) := by decide +kernel
theorem d_T_range_67 : decode prog_1_method_4_code 67 = .ok (.ifCond .eq 5, 3) := by decide +kernel
theorem d_T_range_70 : decode prog_1_method_4_code 70 = .ok (.iconst 0, 1) := by decide +kernel
theorem d_T_range_71 : decode prog_1_method_4_code 71 = .ok (.ireturn, 1) := by decide +kernel
theorem d_T_range_72 : decode prog_1_method_4_code 72 = .ok (.aload_n 0, 1) := by decide +kernel
theorem d_T_range_73 : decode prog_1_method_4_code 73 = .ok (.getfield 25, 3) := by decide +kernel
theorem d_T_range_76 : decode prog_1_method_4_code 76 = .ok (.iload_n 1, 1) := by decide +kernel
theorem d_T_range_77 : decode prog_1_method_4_code 77 = .ok (.iload_n 2, 1) := by decide +kernel
theorem d_T_range_78 : decode prog_1_method_4_code 78 = .ok (.invokevirtual 110, 3) := by decide +kernel
theorem d_T_range_81 : decode prog_1_method_4_code 81 = .ok (.bipush 8, 2) := by decide +kernel
theorem d_T_range_83 : decode prog_1_method_4_code 83 = .ok (.if_icmp .lt 17, 3) := by decide +kernel
theorem d_T_range_86 : decode prog_1_method_4_code 86 = .ok (.aload_n 0, 1) := by decide +kernel
theorem d_T_range_87 : decode prog_1_method_4_code 87 = .ok (.iload_n 1, 1) := by decide +kernel
theorem d_T_range_88 : decode prog_1_method_4_code 88 = .ok (.iload_n 2, 1) := by decide +kernel
theorem d_T_range_89 : decode prog_1_method_4_code 89 = .ok (.iload 7, 2) := by decide +kernel
theorem d_T_range_91 : decode prog_1_method_4_code 91 = .ok (.invokevirtual 113, 3) := by decide +kernel
theorem d_T_range_94 : decode prog_1_method_4_code 94 = .ok (.aload_n 0, 1) := by decide +kernel
theorem d_T_range_95 : decode prog_1_method_4_code 95 = .ok (.iload_n 1, 1) := by decide +kernel
theorem d_T_range_96 : decode prog_1_method_4_code 96 = .ok (.invokevirtual 89, 3) := by decide +kernel
theorem d_T_range_99 : decode prog_1_method_4_code 99 = .ok (.ireturn, 1) := by decide +kernel
theorem d_T_range_100 : decode prog_1_method_4_code 100 = .ok (.aload_n 0, 1) := by decide +kernel
theorem d_T_range_101 : decode prog_1_method_4_code 101 = .ok (.invokevirtual 76, 3) := by decide +kernel
theorem d_T_range_104 : decode prog_1_method_4_code 104 = .ok (.ifCond .eq 5, 3) := by decide +kernel
theorem d_T_range_107 : decode prog_1_method_4_code 107 = .ok (.iconst 3, 1) := by decide +kernel
theorem d_T_range_108 : decode prog_1_method_4_code 108 = .ok (.ireturn, 1) := by decide +kernel
theorem d_T_range_109 : decode prog_1_method_4_code 109 = .ok (.aload_n 0, 1) := by decide +kernel
theorem d_T_range_110 : decode prog_1_method_4_code 110 = .ok (.getfield 32, 3) := by decide +kernel
theorem d_T_range_113 : decode prog_1_method_4_code 113 = .ok (.iload_n 1, 1) := by decide +kernel
theorem d_T_range_114 : decode prog_1_method_4_code 114 = .ok (.iload_n 2, 1) := by decide +kernel
theorem d_T_range_115 : decode prog_1_method_4_code 115 = .ok (.lload_n 3, 1) := by decide +kernel
theorem d_T_range_116 : decode prog_1_method_4_code 116 = .ok (.lload 5, 2) := by decide +kernel
theorem d_T_range_118 : decode prog_1_method_4_code 118 = .ok (.iload 7, 2) := by decide +kernel
theorem d_T_range_120 : decode prog_1_method_4_code 120 = .ok (.aload_n 0, 1) := by decide +kernel
theorem d_T_range_121 : decode prog_1_method_4_code 121 = .ok (.getfield 25, 3) := by decide +kernel
theorem d_T_range_124 : decode prog_1_method_4_code 124 = .ok (.iload_n 1, 1) := by decide +kernel
theorem d_T_range_125 : decode prog_1_method_4_code 125 = .ok (.iload_n 2, 1) := by decide +kernel
theorem d_T_range_126 : decode prog_1_method_4_code 126 = .ok (.lload_n 3, 1) := by decide +kernel
theorem d_T_range_127 : decode prog_1_method_4_code 127 = .ok (.lload 5, 2) := by decide +kernel
theorem d_T_range_129 : decode prog_1_method_4_code 129 = .ok (.invokevirtual 117, 3) := by decide +kernel
theorem d_T_range_132 : decode prog_1_method_4_code 132 = .ok (.invokevirtual 121, 3) := by decide +kernel
theorem d_T_range_135 : decode prog_1_method_4_code 135 = .ok (.aload_n 0, 1) := by decide +kernel
theorem d_T_range_136 : decode prog_1_method_4_code 136 = .ok (.iload_n 1, 1) := by decide +kernel
theorem d_T_range_137 : decode prog_1_method_4_code 137 = .ok (.invokevirtual 89, 3) := by decide +kernel
theorem d_T_range_140 : decode prog_1_method_4_code 140 = .ok (.ireturn, 1) := by decide +kernel
theorem d_T_escalate_0 : decode prog_1_method_5_code 0 = .ok (.iload_n 1, 1) := by decide +kernel
theorem d_T_escalate_1 : decode prog_1_method_5_code 1 = .ok (.invokestatic 46, 3) := by decide +kernel
theorem d_T_escalate_4 : decode prog_1_method_5_code 4 = .ok (.iload_n 2, 1) := by decide +kernel
theorem d_T_escalate_5 : decode prog_1_method_5_code 5 = .ok (.invokestatic 63, 3) := by decide +kernel
theorem d_T_escalate_8 : decode prog_1_method_5_code 8 = .ok (.aload_n 0, 1) := by decide +kernel
theorem d_T_escalate_9 : decode prog_1_method_5_code 9 = .ok (.iload_n 1, 1) := by decide +kernel
theorem d_T_escalate_10 : decode prog_1_method_5_code 10 = .ok (.invokevirtual 69, 3) := by decide +kernel
theorem d_T_escalate_13 : decode prog_1_method_5_code 13 = .ok (.aload_n 0, 1) := by decide +kernel
theorem d_T_escalate_14 : decode prog_1_method_5_code 14 = .ok (.getfield 25, 3) := by decide +kernel
theorem d_T_escalate_17 : decode prog_1_method_5_code 17 = .ok (.iload_n 1, 1) := by decide +kernel
theorem d_T_escalate_18 : decode prog_1_method_5_code 18 = .ok (.iload_n 2, 1) := by decide +kernel
theorem d_T_escalate_19 : decode prog_1_method_5_code 19 = .ok (.invokevirtual 110, 3) := by decide +kernel
theorem d_T_escalate_22 : decode prog_1_method_5_code 22 = .ok (.ifCond .ne 13, 3) := by decide +kernel
theorem d_T_escalate_25 : decode prog_1_method_5_code 25 = .ok (.new 101, 3) := by decide +kernel
theorem d_T_escalate_28 : decode prog_1_method_5_code 28 = .ok (.dup, 1) := by decide +kernel
theorem d_T_escalate_29 : decode prog_1_method_5_code 29 = .ok (.ldc 125, 2) := by decide +kernel
theorem d_T_escalate_31 : decode prog_1_method_5_code 31 = .ok (.invokespecial 105, 3) := by decide +kernel
theorem d_T_escalate_34 : decode prog_1_method_5_code 34 = .ok (.athrow, 1) := by decide +kernel
theorem d_T_escalate_35 : decode prog_1_method_5_code 35 = .ok (.aload_n 0, 1) := by decide +kernel
theorem d_T_escalate_36 : decode prog_1_method_5_code 36 = .ok (.iload_n 1, 1) := by decide +kernel
theorem d_T_escalate_37 : decode prog_1_method_5_code 37 = .ok (.invokevirtual 57, 3) := by decide +kernel
theorem d_T_escalate_40 : decode prog_1_method_5_code 40 = .ok (.aload_n 0, 1) := by decide +kernel
theorem d_T_escalate_41 : decode prog_1_method_5_code 41 = .ok (.iload_n 1, 1) := by decide +kernel
theorem d_T_escalate_42 : decode prog_1_method_5_code 42 = .ok (.iload_n 2, 1) := by decide +kernel
theorem d_T_escalate_43 : decode prog_1_method_5_code 43 = .ok (.iconst 2, 1) := by decide +kernel
theorem d_T_escalate_44 : decode prog_1_method_5_code 44 = .ok (.invokevirtual 113, 3) := by decide +kernel
theorem d_T_escalate_47 : decode prog_1_method_5_code 47 = .ok (.aload_n 0, 1) := by decide +kernel
theorem d_T_escalate_48 : decode prog_1_method_5_code 48 = .ok (.iload_n 1, 1) := by decide +kernel
theorem d_T_escalate_49 : decode prog_1_method_5_code 49 = .ok (.invokevirtual 89, 3) := by decide +kernel
theorem d_T_escalate_52 : decode prog_1_method_5_code 52 = .ok (.ireturn, 1) := by decide +kernel
theorem d_T_cancel_0 : decode prog_1_method_6_code 0 = .ok (.iload_n 1, 1) := by decide +kernel
theorem d_T_cancel_1 : decode prog_1_method_6_code 1 = .ok (.invokestatic 46, 3) := by decide +kernel
theorem d_T_cancel_4 : decode prog_1_method_6_code 4 = .ok (.aload_n 0, 1) := by decide +kernel
theorem d_T_cancel_5 : decode prog_1_method_6_code 5 = .ok (.iload_n 1, 1) := by decide +kernel
theorem d_T_cancel_6 : decode prog_1_method_6_code 6 = .ok (.invokevirtual 127, 3) := by decide +kernel
theorem d_T_cancel_9 : decode prog_1_method_6_code 9 = .ok (.aload_n 0, 1) := by decide +kernel
theorem d_T_cancel_10 : decode prog_1_method_6_code 10 = .ok (.iload_n 1, 1) := by decide +kernel
theorem d_T_cancel_11 : decode prog_1_method_6_code 11 = .ok (.invokevirtual 57, 3) := by decide +kernel
theorem d_T_cancel_14 : decode prog_1_method_6_code 14 = .ok (.aload_n 0, 1) := by decide +kernel
theorem d_T_cancel_15 : decode prog_1_method_6_code 15 = .ok (.iload_n 1, 1) := by decide +kernel
theorem d_T_cancel_16 : decode prog_1_method_6_code 16 = .ok (.iconst 1, 1) := by decide +kernel
theorem d_T_cancel_17 : decode prog_1_method_6_code 17 = .ok (.invokevirtual 130, 3) := by decide +kernel
theorem d_T_cancel_20 : decode prog_1_method_6_code 20 = .ok (.aload_n 0, 1) := by decide +kernel
theorem d_T_cancel_21 : decode prog_1_method_6_code 21 = .ok (.invokevirtual 134, 3) := by decide +kernel
theorem d_T_cancel_24 : decode prog_1_method_6_code 24 = .ok (.aload_n 0, 1) := by decide +kernel
theorem d_T_cancel_25 : decode prog_1_method_6_code 25 = .ok (.getfield 137, 3) := by decide +kernel
theorem d_T_cancel_28 : decode prog_1_method_6_code 28 = .ok (.ireturn, 1) := by decide +kernel
theorem d_T_prepare_0 : decode prog_1_method_7_code 0 = .ok (.iload_n 1, 1) := by decide +kernel
theorem d_T_prepare_1 : decode prog_1_method_7_code 1 = .ok (.invokestatic 46, 3) := by decide +kernel
theorem d_T_prepare_4 : decode prog_1_method_7_code 4 = .ok (.aload_n 0, 1) := by decide +kernel
theorem d_T_prepare_5 : decode prog_1_method_7_code 5 = .ok (.iload_n 1, 1) := by decide +kernel
theorem d_T_prepare_6 : decode prog_1_method_7_code 6 = .ok (.invokevirtual 69, 3) := by decide +kernel
theorem d_T_prepare_9 : decode prog_1_method_7_code 9 = .ok (.aload_n 0, 1) := by decide +kernel
theorem d_T_prepare_10 : decode prog_1_method_7_code 10 = .ok (.iload_n 1, 1) := by decide +kernel
theorem d_T_prepare_11 : decode prog_1_method_7_code 11 = .ok (.invokevirtual 57, 3) := by decide +kernel
theorem d_T_prepare_14 : decode prog_1_method_7_code 14 = .ok (.aload_n 0, 1) := by decide +kernel
theorem d_T_prepare_15 : decode prog_1_method_7_code 15 = .ok (.getfield 9, 3) := by decide +kernel
theorem d_T_prepare_18 : decode prog_1_method_7_code 18 = .ok (.iload_n 1, 1) := by decide +kernel
theorem d_T_prepare_19 : decode prog_1_method_7_code 19 = .ok (.iconst 4, 1) := by decide +kernel
theorem d_T_prepare_20 : decode prog_1_method_7_code 20 = .ok (.iastore, 1) := by decide +kernel
theorem d_T_prepare_21 : decode prog_1_method_7_code 21 = .ok (.aload_n 0, 1) := by decide +kernel
theorem d_T_prepare_22 : decode prog_1_method_7_code 22 = .ok (.getfield 25, 3) := by decide +kernel
theorem d_T_prepare_25 : decode prog_1_method_7_code 25 = .ok (.iload_n 1, 1) := by decide +kernel
theorem d_T_prepare_26 : decode prog_1_method_7_code 26 = .ok (.invokevirtual 140, 3) := by decide +kernel
theorem d_T_prepare_29 : decode prog_1_method_7_code 29 = .ok (.aload_n 0, 1) := by decide +kernel
theorem d_T_prepare_30 : decode prog_1_method_7_code 30 = .ok (.invokevirtual 134, 3) := by decide +kernel
theorem d_T_prepare_33 : decode prog_1_method_7_code 33 = .ok (.aload_n 0, 1) := by decide +kernel
theorem d_T_prepare_34 : decode prog_1_method_7_code 34 = .ok (.getfield 25, 3) := by decide +kernel
theorem d_T_prepare_37 : decode prog_1_method_7_code 37 = .ok (.iload_n 1, 1) := by decide +kernel
theorem d_T_prepare_38 : decode prog_1_method_7_code 38 = .ok (.invokevirtual 143, 3) := by decide +kernel
theorem d_T_prepare_41 : decode prog_1_method_7_code 41 = .ok (.ireturn, 1) := by decide +kernel
theorem d_T_unread_0 : decode prog_1_method_8_code 0 = .ok (.iload_n 1, 1) := by decide +kernel
theorem d_T_unread_1 : decode prog_1_method_8_code 1 = .ok (.invokestatic 46, 3) := by decide +kernel
theorem d_T_unread_4 : decode prog_1_method_8_code 4 = .ok (.aload_n 0, 1) := by decide +kernel
theorem d_T_unread_5 : decode prog_1_method_8_code 5 = .ok (.iload_n 1, 1) := by decide +kernel
theorem d_T_unread_6 : decode prog_1_method_8_code 6 = .ok (.invokevirtual 69, 3) := by decide +kernel
theorem d_T_unread_9 : decode prog_1_method_8_code 9 = .ok (.aload_n 0, 1) := by decide +kernel
theorem d_T_unread_10 : decode prog_1_method_8_code 10 = .ok (.iload_n 1, 1) := by decide +kernel
theorem d_T_unread_11 : decode prog_1_method_8_code 11 = .ok (.invokevirtual 57, 3) := by decide +kernel
theorem d_T_unread_14 : decode prog_1_method_8_code 14 = .ok (.aload_n 0, 1) := by decide +kernel
theorem d_T_unread_15 : decode prog_1_method_8_code 15 = .ok (.getfield 25, 3) := by decide +kernel
theorem d_T_unread_18 : decode prog_1_method_8_code 18 = .ok (.iload_n 1, 1) := by decide +kernel
theorem d_T_unread_19 : decode prog_1_method_8_code 19 = .ok (.invokevirtual 140, 3) := by decide +kernel
theorem d_T_unread_22 : decode prog_1_method_8_code 22 = .ok (.aload_n 0, 1) := by decide +kernel
theorem d_T_unread_23 : decode prog_1_method_8_code 23 = .ok (.invokevirtual 134, 3) := by decide +kernel
theorem d_T_unread_26 : decode prog_1_method_8_code 26 = .ok (.aload_n 0, 1) := by decide +kernel
theorem d_T_unread_27 : decode prog_1_method_8_code 27 = .ok (.getfield 137, 3) := by decide +kernel
theorem d_T_unread_30 : decode prog_1_method_8_code 30 = .ok (.ireturn, 1) := by decide +kernel
theorem d_T_end_0 : decode prog_1_method_9_code 0 = .ok (.iload_n 1, 1) := by decide +kernel
theorem d_T_end_1 : decode prog_1_method_9_code 1 = .ok (.invokestatic 46, 3) := by decide +kernel
theorem d_T_end_4 : decode prog_1_method_9_code 4 = .ok (.aload_n 0, 1) := by decide +kernel
theorem d_T_end_5 : decode prog_1_method_9_code 5 = .ok (.getfield 9, 3) := by decide +kernel
theorem d_T_end_8 : decode prog_1_method_9_code 8 = .ok (.iload_n 1, 1) := by decide +kernel
theorem d_T_end_9 : decode prog_1_method_9_code 9 = .ok (.iaload, 1) := by decide +kernel
theorem d_T_end_10 : decode prog_1_method_9_code 10 = .ok (.ifCond .ne 13, 3) := by decide +kernel
theorem d_T_end_13 : decode prog_1_method_9_code 13 = .ok (.new 50, 3) := by decide +kernel
theorem d_T_end_16 : decode prog_1_method_9_code 16 = .ok (.dup, 1) := by decide +kernel
theorem d_T_end_17 : decode prog_1_method_9_code 17 = .ok (.ldc 146, 2) := by decide +kernel
theorem d_T_end_19 : decode prog_1_method_9_code 19 = .ok (.invokespecial 54, 3) := by decide +kernel
theorem d_T_end_22 : decode prog_1_method_9_code 22 = .ok (.athrow, 1) := by decide +kernel
theorem d_T_end_23 : decode prog_1_method_9_code 23 = .ok (.aload_n 0, 1) := by decide +kernel
theorem d_T_end_24 : decode prog_1_method_9_code 24 = .ok (.iload_n 1, 1) := by decide +kernel
theorem d_T_end_25 : decode prog_1_method_9_code 25 = .ok (.invokevirtual 57, 3) := by decide +kernel
theorem d_T_end_28 : decode prog_1_method_9_code 28 = .ok (.aload_n 0, 1) := by decide +kernel
theorem d_T_end_29 : decode prog_1_method_9_code 29 = .ok (.getfield 25, 3) := by decide +kernel
theorem d_T_end_32 : decode prog_1_method_9_code 32 = .ok (.iload_n 1, 1) := by decide +kernel
theorem d_T_end_33 : decode prog_1_method_9_code 33 = .ok (.invokevirtual 148, 3) := by decide +kernel
theorem d_T_end_36 : decode prog_1_method_9_code 36 = .ok (.aload_n 0, 1) := by decide +kernel
theorem d_T_end_37 : decode prog_1_method_9_code 37 = .ok (.getfield 13, 3) := by decide +kernel
theorem d_T_end_40 : decode prog_1_method_9_code 40 = .ok (.iload_n 1, 1) := by decide +kernel
theorem d_T_end_41 : decode prog_1_method_9_code 41 = .ok (.iconst (-1), 1) := by decide +kernel
theorem d_T_end_42 : decode prog_1_method_9_code 42 = .ok (.iastore, 1) := by decide +kernel
theorem d_T_end_43 : decode prog_1_method_9_code 43 = .ok (.aload_n 0, 1) := by decide +kernel
theorem d_T_end_44 : decode prog_1_method_9_code 44 = .ok (.iload_n 1, 1) := by decide +kernel
theorem d_T_end_45 : decode prog_1_method_9_code 45 = .ok (.iconst 0, 1) := by decide +kernel
theorem d_T_end_46 : decode prog_1_method_9_code 46 = .ok (.invokevirtual 130, 3) := by decide +kernel
theorem d_T_end_49 : decode prog_1_method_9_code 49 = .ok (.aload_n 0, 1) := by decide +kernel
theorem d_T_end_50 : decode prog_1_method_9_code 50 = .ok (.invokevirtual 134, 3) := by decide +kernel
theorem d_T_end_53 : decode prog_1_method_9_code 53 = .ok (.aload_n 0, 1) := by decide +kernel
theorem d_T_end_54 : decode prog_1_method_9_code 54 = .ok (.getfield 137, 3) := by decide +kernel
theorem d_T_end_57 : decode prog_1_method_9_code 57 = .ok (.ireturn, 1) := by decide +kernel
theorem d_T_limit_0 : decode prog_1_method_10_code 0 = .ok (.iload_n 1, 1) := by decide +kernel
theorem d_T_limit_1 : decode prog_1_method_10_code 1 = .ok (.invokestatic 151, 3) := by decide +kernel
theorem d_T_limit_4 : decode prog_1_method_10_code 4 = .ok (.aload_n 0, 1) := by decide +kernel
theorem d_T_limit_5 : decode prog_1_method_10_code 5 = .ok (.iconst (-1), 1) := by decide +kernel
theorem d_T_limit_6 : decode prog_1_method_10_code 6 = .ok (.invokevirtual 57, 3) := by decide +kernel
theorem d_T_limit_9 : decode prog_1_method_10_code 9 = .ok (.aload_n 0, 1) := by decide +kernel
theorem d_T_limit_10 : decode prog_1_method_10_code 10 = .ok (.iload_n 1, 1) := by decide +kernel
theorem d_T_limit_11 : decode prog_1_method_10_code 11 = .ok (.putfield 154, 3) := by decide +kernel
theorem d_T_limit_14 : decode prog_1_method_10_code 14 = .ok (.return_, 1) := by decide +kernel
theorem d_T_tick_0 : decode prog_1_method_11_code 0 = .ok (.iload_n 1, 1) := by decide +kernel
theorem d_T_tick_1 : decode prog_1_method_11_code 1 = .ok (.invokestatic 151, 3) := by decide +kernel
theorem d_T_tick_4 : decode prog_1_method_11_code 4 = .ok (.aload_n 0, 1) := by decide +kernel
theorem d_T_tick_5 : decode prog_1_method_11_code 5 = .ok (.iconst (-1), 1) := by decide +kernel
theorem d_T_tick_6 : decode prog_1_method_11_code 6 = .ok (.invokevirtual 57, 3) := by decide +kernel
theorem d_T_tick_9 : decode prog_1_method_11_code 9 = .ok (.iconst 0, 1) := by decide +kernel
theorem d_T_tick_10 : decode prog_1_method_11_code 10 = .ok (.istore_n 2, 1) := by decide +kernel
theorem d_T_tick_11 : decode prog_1_method_11_code 11 = .ok (.iconst 0, 1) := by decide +kernel
theorem d_T_tick_12 : decode prog_1_method_11_code 12 = .ok (.istore_n 3, 1) := by decide +kernel
theorem d_T_tick_13 : decode prog_1_method_11_code 13 = .ok (.iload_n 3, 1) := by decide +kernel
theorem d_T_tick_14 : decode prog_1_method_11_code 14 = .ok (.iload_n 1, 1) := by decide +kernel
theorem d_T_tick_15 : decode prog_1_method_11_code 15 = .ok (.if_icmp .ge 26, 3) := by decide +kernel
theorem d_T_tick_18 : decode prog_1_method_11_code 18 = .ok (.aload_n 0, 1) := by decide +kernel
theorem d_T_tick_19 : decode prog_1_method_11_code 19 = .ok (.dup, 1) := by decide +kernel
theorem d_T_tick_20 : decode prog_1_method_11_code 20 = .ok (.getfield 157, 3) := by decide +kernel
theorem d_T_tick_23 : decode prog_1_method_11_code 23 = .ok (.iconst 1, 1) := by decide +kernel
theorem d_T_tick_24 : decode prog_1_method_11_code 24 = .ok (.iadd, 1) := by decide +kernel
theorem d_T_tick_25 : decode prog_1_method_11_code 25 = .ok (.putfield 157, 3) := by decide +kernel
theorem d_T_tick_28 : decode prog_1_method_11_code 28 = .ok (.iload_n 2, 1) := by decide +kernel
theorem d_T_tick_29 : decode prog_1_method_11_code 29 = .ok (.aload_n 0, 1) := by decide +kernel
theorem d_T_tick_30 : decode prog_1_method_11_code 30 = .ok (.invokevirtual 160, 3) := by decide +kernel
theorem d_T_tick_33 : decode prog_1_method_11_code 33 = .ok (.iadd, 1) := by decide +kernel
theorem d_T_tick_34 : decode prog_1_method_11_code 34 = .ok (.istore_n 2, 1) := by decide +kernel
theorem d_T_tick_35 : decode prog_1_method_11_code 35 = .ok (.iinc 3 1, 3) := by decide +kernel
theorem d_T_tick_38 : decode prog_1_method_11_code 38 = .ok (.goto (-25), 3) := by decide +kernel
theorem d_T_tick_41 : decode prog_1_method_11_code 41 = .ok (.iload_n 2, 1) := by decide +kernel
theorem d_T_tick_42 : decode prog_1_method_11_code 42 = .ok (.ireturn, 1) := by decide +kernel
theorem d_T_state_0 : decode prog_1_method_12_code 0 = .ok (.iload_n 1, 1) := by decide +kernel
theorem d_T_state_1 : decode prog_1_method_12_code 1 = .ok (.invokestatic 46, 3) := by decide +kernel
theorem d_T_state_4 : decode prog_1_method_12_code 4 = .ok (.aload_n 0, 1) := by decide +kernel
theorem d_T_state_5 : decode prog_1_method_12_code 5 = .ok (.getfield 9, 3) := by decide +kernel
theorem d_T_state_8 : decode prog_1_method_12_code 8 = .ok (.iload_n 1, 1) := by decide +kernel
theorem d_T_state_9 : decode prog_1_method_12_code 9 = .ok (.iaload, 1) := by decide +kernel
theorem d_T_state_10 : decode prog_1_method_12_code 10 = .ok (.ireturn, 1) := by decide +kernel
theorem d_T_serial_0 : decode prog_1_method_13_code 0 = .ok (.iload_n 1, 1) := by decide +kernel
theorem d_T_serial_1 : decode prog_1_method_13_code 1 = .ok (.invokestatic 46, 3) := by decide +kernel
theorem d_T_serial_4 : decode prog_1_method_13_code 4 = .ok (.aload_n 0, 1) := by decide +kernel
theorem d_T_serial_5 : decode prog_1_method_13_code 5 = .ok (.getfield 13, 3) := by decide +kernel
theorem d_T_serial_8 : decode prog_1_method_13_code 8 = .ok (.iload_n 1, 1) := by decide +kernel
theorem d_T_serial_9 : decode prog_1_method_13_code 9 = .ok (.iaload, 1) := by decide +kernel
theorem d_T_serial_10 : decode prog_1_method_13_code 10 = .ok (.ireturn, 1) := by decide +kernel
theorem d_T_ranges_0 : decode prog_1_method_14_code 0 = .ok (.iload_n 1, 1) := by decide +kernel
theorem d_T_ranges_1 : decode prog_1_method_14_code 1 = .ok (.invokestatic 46, 3) := by decide +kernel
theorem d_T_ranges_4 : decode prog_1_method_14_code 4 = .ok (.iload_n 2, 1) := by decide +kernel
theorem d_T_ranges_5 : decode prog_1_method_14_code 5 = .ok (.invokestatic 63, 3) := by decide +kernel
theorem d_T_ranges_8 : decode prog_1_method_14_code 8 = .ok (.aload_n 0, 1) := by decide +kernel
theorem d_T_ranges_9 : decode prog_1_method_14_code 9 = .ok (.getfield 25, 3) := by decide +kernel
theorem d_T_ranges_12 : decode prog_1_method_14_code 12 = .ok (.iload_n 1, 1) := by decide +kernel
theorem d_T_ranges_13 : decode prog_1_method_14_code 13 = .ok (.iload_n 2, 1) := by decide +kernel
theorem d_T_ranges_14 : decode prog_1_method_14_code 14 = .ok (.invokevirtual 110, 3) := by decide +kernel
theorem d_T_ranges_17 : decode prog_1_method_14_code 17 = .ok (.ireturn, 1) := by decide +kernel
theorem d_T_mode_0 : decode prog_1_method_16_code 0 = .ok (.iload_n 1, 1) := by decide +kernel
theorem d_T_mode_1 : decode prog_1_method_16_code 1 = .ok (.invokestatic 46, 3) := by decide +kernel
theorem d_T_mode_4 : decode prog_1_method_16_code 4 = .ok (.iload_n 2, 1) := by decide +kernel
theorem d_T_mode_5 : decode prog_1_method_16_code 5 = .ok (.invokestatic 63, 3) := by decide +kernel
theorem d_T_mode_8 : decode prog_1_method_16_code 8 = .ok (.aload_n 0, 1) := by decide +kernel
theorem d_T_mode_9 : decode prog_1_method_16_code 9 = .ok (.getfield 25, 3) := by decide +kernel
theorem d_T_mode_12 : decode prog_1_method_16_code 12 = .ok (.iload_n 1, 1) := by decide +kernel
theorem d_T_mode_13 : decode prog_1_method_16_code 13 = .ok (.iload_n 2, 1) := by decide +kernel
theorem d_T_mode_14 : decode prog_1_method_16_code 14 = .ok (.invokevirtual 72, 3) := by decide +kernel
theorem d_T_mode_17 : decode prog_1_method_16_code 17 = .ok (.ireturn, 1) := by decide +kernel
theorem d_T_right_0 : decode prog_1_method_17_code 0 = .ok (.iload_n 1, 1) := by decide +kernel
theorem d_T_right_1 : decode prog_1_method_17_code 1 = .ok (.invokestatic 46, 3) := by decide +kernel
theorem d_T_right_4 : decode prog_1_method_17_code 4 = .ok (.iload_n 2, 1) := by decide +kernel
theorem d_T_right_5 : decode prog_1_method_17_code 5 = .ok (.invokestatic 63, 3) := by decide +kernel
theorem d_T_right_8 : decode prog_1_method_17_code 8 = .ok (.aload_n 0, 1) := by decide +kernel
theorem d_T_right_9 : decode prog_1_method_17_code 9 = .ok (.getfield 25, 3) := by decide +kernel
theorem d_T_right_12 : decode prog_1_method_17_code 12 = .ok (.iload_n 1, 1) := by decide +kernel
theorem d_T_right_13 : decode prog_1_method_17_code 13 = .ok (.iload_n 2, 1) := by decide +kernel
theorem d_T_right_14 : decode prog_1_method_17_code 14 = .ok (.lload_n 3, 1) := by decide +kernel
theorem d_T_right_15 : decode prog_1_method_17_code 15 = .ok (.invokevirtual 170, 3) := by decide +kernel
theorem d_T_right_18 : decode prog_1_method_17_code 18 = .ok (.ireturn, 1) := by decide +kernel
theorem d_T_wants_0 : decode prog_1_method_19_code 0 = .ok (.iload_n 1, 1) := by decide +kernel
theorem d_T_wants_1 : decode prog_1_method_19_code 1 = .ok (.invokestatic 46, 3) := by decide +kernel
theorem d_T_wants_4 : decode prog_1_method_19_code 4 = .ok (.iload_n 2, 1) := by decide +kernel
theorem d_T_wants_5 : decode prog_1_method_19_code 5 = .ok (.ifCond .lt 8, 3) := by decide +kernel
theorem d_T_wants_8 : decode prog_1_method_19_code 8 = .ok (.iload_n 2, 1) := by decide +kernel
theorem d_T_wants_9 : decode prog_1_method_19_code 9 = .ok (.iconst 5, 1) := by decide +kernel
theorem d_T_wants_10 : decode prog_1_method_19_code 10 = .ok (.if_icmp .le 13, 3) := by decide +kernel
theorem d_T_wants_13 : decode prog_1_method_19_code 13 = .ok (.new 177, 3) := by decide +kernel
theorem d_T_wants_16 : decode prog_1_method_19_code 16 = .ok (.dup, 1) := by decide +kernel
theorem d_T_wants_17 : decode prog_1_method_19_code 17 = .ok (.ldc 179, 2) := by decide +kernel
theorem d_T_wants_19 : decode prog_1_method_19_code 19 = .ok (.invokespecial 181, 3) := by decide +kernel
theorem d_T_wants_22 : decode prog_1_method_19_code 22 = .ok (.athrow, 1) := by decide +kernel
theorem d_T_wants_23 : decode prog_1_method_19_code 23 = .ok (.aload_n 0, 1) := by decide +kernel
theorem d_T_wants_24 : decode prog_1_method_19_code 24 = .ok (.iload_n 1, 1) := by decide +kernel
theorem d_T_wants_25 : decode prog_1_method_19_code 25 = .ok (.invokevirtual 127, 3) := by decide +kernel
theorem d_T_wants_28 : decode prog_1_method_19_code 28 = .ok (.iload_n 2, 1) := by decide +kernel
theorem d_T_wants_29 : decode prog_1_method_19_code 29 = .ok (.tableswitch 109 0 4 #[35, 45, 63, 73, 91], 35) := by decide +kernel
theorem d_T_wants_64 : decode prog_1_method_19_code 64 = .ok (.aload_n 0, 1) := by decide +kernel
theorem d_T_wants_65 : decode prog_1_method_19_code 65 = .ok (.getfield 32, 3) := by decide +kernel
theorem d_T_wants_68 : decode prog_1_method_19_code 68 = .ok (.getfield 182, 3) := by decide +kernel
theorem d_T_wants_71 : decode prog_1_method_19_code 71 = .ok (.iload_n 1, 1) := by decide +kernel
theorem d_T_wants_72 : decode prog_1_method_19_code 72 = .ok (.iaload, 1) := by decide +kernel
theorem d_T_wants_73 : decode prog_1_method_19_code 73 = .ok (.ireturn, 1) := by decide +kernel
theorem d_T_wants_74 : decode prog_1_method_19_code 74 = .ok (.aload_n 0, 1) := by decide +kernel
theorem d_T_wants_75 : decode prog_1_method_19_code 75 = .ok (.getfield 32, 3) := by decide +kernel
theorem d_T_wants_78 : decode prog_1_method_19_code 78 = .ok (.getfield 185, 3) := by decide +kernel
theorem d_T_wants_81 : decode prog_1_method_19_code 81 = .ok (.iload_n 1, 1) := by decide +kernel
theorem d_T_wants_82 : decode prog_1_method_19_code 82 = .ok (.baload, 1) := by decide +kernel
theorem d_T_wants_83 : decode prog_1_method_19_code 83 = .ok (.ifCond .eq 7, 3) := by decide +kernel
theorem d_T_wants_86 : decode prog_1_method_19_code 86 = .ok (.iconst 1, 1) := by decide +kernel
theorem d_T_wants_87 : decode prog_1_method_19_code 87 = .ok (.goto 4, 3) := by decide +kernel
theorem d_T_wants_90 : decode prog_1_method_19_code 90 = .ok (.iconst 0, 1) := by decide +kernel
theorem d_T_wants_91 : decode prog_1_method_19_code 91 = .ok (.ireturn, 1) := by decide +kernel
theorem d_T_wants_92 : decode prog_1_method_19_code 92 = .ok (.aload_n 0, 1) := by decide +kernel
theorem d_T_wants_93 : decode prog_1_method_19_code 93 = .ok (.getfield 32, 3) := by decide +kernel
theorem d_T_wants_96 : decode prog_1_method_19_code 96 = .ok (.getfield 189, 3) := by decide +kernel
theorem d_T_wants_99 : decode prog_1_method_19_code 99 = .ok (.iload_n 1, 1) := by decide +kernel
theorem d_T_wants_100 : decode prog_1_method_19_code 100 = .ok (.iaload, 1) := by decide +kernel
theorem d_T_wants_101 : decode prog_1_method_19_code 101 = .ok (.ireturn, 1) := by decide +kernel
theorem d_T_wants_102 : decode prog_1_method_19_code 102 = .ok (.aload_n 0, 1) := by decide +kernel
theorem d_T_wants_103 : decode prog_1_method_19_code 103 = .ok (.getfield 32, 3) := by decide +kernel
theorem d_T_wants_106 : decode prog_1_method_19_code 106 = .ok (.getfield 192, 3) := by decide +kernel
theorem d_T_wants_109 : decode prog_1_method_19_code 109 = .ok (.iload_n 1, 1) := by decide +kernel
theorem d_T_wants_110 : decode prog_1_method_19_code 110 = .ok (.baload, 1) := by decide +kernel
theorem d_T_wants_111 : decode prog_1_method_19_code 111 = .ok (.ifCond .eq 7, 3) := by decide +kernel
theorem d_T_wants_114 : decode prog_1_method_19_code 114 = .ok (.iconst 1, 1) := by decide +kernel
theorem d_T_wants_115 : decode prog_1_method_19_code 115 = .ok (.goto 4, 3) := by decide +kernel
theorem d_T_wants_118 : decode prog_1_method_19_code 118 = .ok (.iconst 0, 1) := by decide +kernel
theorem d_T_wants_119 : decode prog_1_method_19_code 119 = .ok (.ireturn, 1) := by decide +kernel
theorem d_T_wants_120 : decode prog_1_method_19_code 120 = .ok (.aload_n 0, 1) := by decide +kernel
theorem d_T_wants_121 : decode prog_1_method_19_code 121 = .ok (.getfield 32, 3) := by decide +kernel
theorem d_T_wants_124 : decode prog_1_method_19_code 124 = .ok (.getfield 195, 3) := by decide +kernel
theorem d_T_wants_127 : decode prog_1_method_19_code 127 = .ok (.iload_n 1, 1) := by decide +kernel
theorem d_T_wants_128 : decode prog_1_method_19_code 128 = .ok (.baload, 1) := by decide +kernel
theorem d_T_wants_129 : decode prog_1_method_19_code 129 = .ok (.ifCond .eq 7, 3) := by decide +kernel
theorem d_T_wants_132 : decode prog_1_method_19_code 132 = .ok (.iconst 1, 1) := by decide +kernel
theorem d_T_wants_133 : decode prog_1_method_19_code 133 = .ok (.goto 4, 3) := by decide +kernel
theorem d_T_wants_136 : decode prog_1_method_19_code 136 = .ok (.iconst 0, 1) := by decide +kernel
theorem d_T_wants_137 : decode prog_1_method_19_code 137 = .ok (.ireturn, 1) := by decide +kernel
theorem d_T_wants_138 : decode prog_1_method_19_code 138 = .ok (.aload_n 0, 1) := by decide +kernel
theorem d_T_wants_139 : decode prog_1_method_19_code 139 = .ok (.getfield 157, 3) := by decide +kernel
theorem d_T_wants_142 : decode prog_1_method_19_code 142 = .ok (.aload_n 0, 1) := by decide +kernel
theorem d_T_wants_143 : decode prog_1_method_19_code 143 = .ok (.getfield 32, 3) := by decide +kernel
theorem d_T_wants_146 : decode prog_1_method_19_code 146 = .ok (.getfield 198, 3) := by decide +kernel
theorem d_T_wants_149 : decode prog_1_method_19_code 149 = .ok (.iload_n 1, 1) := by decide +kernel
theorem d_T_wants_150 : decode prog_1_method_19_code 150 = .ok (.iaload, 1) := by decide +kernel
theorem d_T_wants_151 : decode prog_1_method_19_code 151 = .ok (.isub, 1) := by decide +kernel
theorem d_T_wants_152 : decode prog_1_method_19_code 152 = .ok (.ireturn, 1) := by decide +kernel
theorem d_T_behind_0 : decode prog_1_method_20_code 0 = .ok (.iload_n 1, 1) := by decide +kernel
theorem d_T_behind_1 : decode prog_1_method_20_code 1 = .ok (.invokestatic 46, 3) := by decide +kernel
theorem d_T_behind_4 : decode prog_1_method_20_code 4 = .ok (.aload_n 0, 1) := by decide +kernel
theorem d_T_behind_5 : decode prog_1_method_20_code 5 = .ok (.getfield 9, 3) := by decide +kernel
theorem d_T_behind_8 : decode prog_1_method_20_code 8 = .ok (.iload_n 1, 1) := by decide +kernel
theorem d_T_behind_9 : decode prog_1_method_20_code 9 = .ok (.iaload, 1) := by decide +kernel
theorem d_T_behind_10 : decode prog_1_method_20_code 10 = .ok (.iconst 2, 1) := by decide +kernel
theorem d_T_behind_11 : decode prog_1_method_20_code 11 = .ok (.if_icmp .ne 11, 3) := by decide +kernel
theorem d_T_behind_14 : decode prog_1_method_20_code 14 = .ok (.aload_n 0, 1) := by decide +kernel
theorem d_T_behind_15 : decode prog_1_method_20_code 15 = .ok (.iload_n 1, 1) := by decide +kernel
theorem d_T_behind_16 : decode prog_1_method_20_code 16 = .ok (.invokevirtual 201, 3) := by decide +kernel
theorem d_T_behind_19 : decode prog_1_method_20_code 19 = .ok (.goto 4, 3) := by decide +kernel
theorem d_T_behind_22 : decode prog_1_method_20_code 22 = .ok (.iconst 0, 1) := by decide +kernel
theorem d_T_behind_23 : decode prog_1_method_20_code 23 = .ok (.ireturn, 1) := by decide +kernel
theorem d_T_join_0 : decode prog_1_method_22_code 0 = .ok (.iload_n 1, 1) := by decide +kernel
theorem d_T_join_1 : decode prog_1_method_22_code 1 = .ok (.invokestatic 66, 3) := by decide +kernel
theorem d_T_join_4 : decode prog_1_method_22_code 4 = .ok (.iload_n 2, 1) := by decide +kernel
theorem d_T_join_5 : decode prog_1_method_22_code 5 = .ok (.invokestatic 66, 3) := by decide +kernel
theorem d_T_join_8 : decode prog_1_method_22_code 8 = .ok (.iload_n 1, 1) := by decide +kernel
theorem d_T_join_9 : decode prog_1_method_22_code 9 = .ok (.iload_n 2, 1) := by decide +kernel
theorem d_T_join_10 : decode prog_1_method_22_code 10 = .ok (.invokestatic 204, 3) := by decide +kernel
theorem d_T_join_13 : decode prog_1_method_22_code 13 = .ok (.ireturn, 1) := by decide +kernel
def F_T_checkOwner (a1 : Int32) : Option (Nat) :=
  if a1 < 0 then some 1 else if a1 < 8 then some 0 else some 1
set_option maxHeartbeats 4000000 in
set_option maxRecDepth 100000 in
theorem t_T_checkOwner {p : Program} {l : Launch} {e : Env} {s : State} {m : MethodId} {args : Array Value} {below : List Frame} {meth : Method} {c : Code} {A : Nat → Prop} {g : va_G} {tys : List (ClassId × FieldType)} {w : va_W} (K : kX p s m args meth c "LockTable" prog_1_method_23_code 1 none A g tys) {R : Room} (hR : 6 ≤ R.frames ∧ 90 ≤ R.locals) (hlt : l.stackTraces = false)  (a1 : Int32) (kx : Nat) (hRc : kx ≠ 0 → 1 ≤ R.cells ∧ 6 ≤ R.slots) (hnt : kx ≠ 0 → ∀ x ∈ c.exceptionTable.toList, False) (hF : F_T_checkOwner a1 = some kx) {H : Heap} {locs : List Loc} {ls : Array Slot} (hP : va_P g kcl w H) (hD : va_D A w) (hS : va_S A s.heap H locs) (hl : lv_has ls 1 [(0, .int a1)]) : W p l e (R) s m args below meth c H locs 0 0 (kSel below args s A kx (kQv g tys w A) (kQx g tys w A kx)) (F0 m 0 ls []) := by
  obtain ⟨hx, hb, hr, hml, hown, hts, hlocks, hK, hA, hE⟩ := id K
  unfold F_T_checkOwner at hF
  refine lv_iload_n hx hb d_T_checkOwner_0 rfl (lv_at hl 0 rfl) ?_
  refine lv_if_lt (tgt := 10) hx hb d_T_checkOwner_1 (by decide) (fun hc_1 => ?_) (fun hc_1 => ?_)
  · have hF := it_t hF hc_1
    cases hF
    exact kth (kx := 1) K hlt (hnt (by decide)) hP hD hS (cls := "java/lang/IllegalArgumentException") (text := "there is no such owner") rfl (by decide) (by decide) wm_218 wm_54 (by decide) at_181 hl.1 d_T_checkOwner_10 d_T_checkOwner_13 d_T_checkOwner_14 d_T_checkOwner_16 d_T_checkOwner_19 (Nat.le_trans (Nat.le_of_ble_eq_true rfl) hR.1) (Nat.le_trans (Nat.le_of_ble_eq_true rfl) hR.2) (Nat.le_of_ble_eq_true rfl) (hRc (by decide)).1 (hRc (by decide)).2
  · have hF := it_f hF hc_1
    refine lv_iload_n hx hb d_T_checkOwner_4 rfl (lv_at hl 0 rfl) ?_
    refine lv_bipush (v := 8) hx hb d_T_checkOwner_5 (by decide) ?_
    refine lv_icmp_lt (tgt := 20) hx hb d_T_checkOwner_7 (by decide) (fun hc_2 => ?_) (fun hc_2 => ?_)
    · have hF := it_t hF hc_2
      cases hF
      exact W.mono (fun t h => Or.inl ⟨rfl, h⟩) (krv K hP hD hS d_T_checkOwner_20)
    · have hF := it_f hF hc_2
      cases hF
      exact kth (kx := 1) K hlt (hnt (by decide)) hP hD hS (cls := "java/lang/IllegalArgumentException") (text := "there is no such owner") rfl (by decide) (by decide) wm_218 wm_54 (by decide) at_181 hl.1 d_T_checkOwner_10 d_T_checkOwner_13 d_T_checkOwner_14 d_T_checkOwner_16 d_T_checkOwner_19 (Nat.le_trans (Nat.le_of_ble_eq_true rfl) hR.1) (Nat.le_trans (Nat.le_of_ble_eq_true rfl) hR.2) (Nat.le_of_ble_eq_true rfl) (hRc (by decide)).1 (hRc (by decide)).2
theorem c_T_checkOwner (l : Launch) (hlt : l.stackTraces = false) (g : va_G) (tys : List (ClassId × FieldType)) (w : va_W) (a1 : Int32)  (hF : F_T_checkOwner a1 = some 0) : Cv l y_T_checkOwner prog_1_method_23_code 1 ({ frames := 6, cells := 0, slots := 0, locals := 90 }) [.int a1] g tys w w :=
  fun sz => Ci.ofx (Q0 := fun A => kQv g tys w A) (XC := fun A => kQx g tys w A 0) (by decide) (Nat.le_of_ble_eq_true rfl) (fun p e s m below meth c A ls K hP hD hS hl => t_T_checkOwner (R := { frames := 6, cells := 0, slots := 0, locals := 90 }) K ⟨Nat.le_of_ble_eq_true rfl, Nat.le_of_ble_eq_true rfl⟩ hlt  a1 0  (fun h => absurd rfl h) (fun h => absurd rfl h) hF hP hD hS hl) sz
theorem cx_T_checkOwner (l : Launch) (hlt : l.stackTraces = false) (g : va_G) (tys : List (ClassId × FieldType)) (w : va_W) (a1 : Int32) (kx : Nat)  (hk : kx ≠ 0) (hF : F_T_checkOwner a1 = some kx) : Cx l y_T_checkOwner prog_1_method_23_code 1 none ({ frames := 6, cells := 1, slots := 6, locals := 90 }) [.int a1] g tys w w kx :=
  Cx.of (Q0 := fun A => kQv g tys w A) hk (by decide) (Nat.le_of_ble_eq_true rfl) (fun p e s m below meth c A ls hnt K hP hD hS hl => t_T_checkOwner (R := { frames := 6, cells := 1, slots := 6, locals := 90 }) K ⟨Nat.le_of_ble_eq_true rfl, Nat.le_of_ble_eq_true rfl⟩ hlt  a1 kx  (fun _ => ⟨Nat.le_of_ble_eq_true rfl, Nat.le_of_ble_eq_true rfl⟩) (fun _ => hnt) hF hP hD hS hl)
def F_T_checkTable (a1 : Int32) : Option (Nat) :=
  if a1 < 0 then some 1 else if a1 < 16 then some 0 else some 1
set_option maxHeartbeats 4000000 in
set_option maxRecDepth 100000 in
theorem t_T_checkTable {p : Program} {l : Launch} {e : Env} {s : State} {m : MethodId} {args : Array Value} {below : List Frame} {meth : Method} {c : Code} {A : Nat → Prop} {g : va_G} {tys : List (ClassId × FieldType)} {w : va_W} (K : kX p s m args meth c "LockTable" prog_1_method_24_code 1 none A g tys) {R : Room} (hR : 6 ≤ R.frames ∧ 90 ≤ R.locals) (hlt : l.stackTraces = false)  (a1 : Int32) (kx : Nat) (hRc : kx ≠ 0 → 1 ≤ R.cells ∧ 6 ≤ R.slots) (hnt : kx ≠ 0 → ∀ x ∈ c.exceptionTable.toList, False) (hF : F_T_checkTable a1 = some kx) {H : Heap} {locs : List Loc} {ls : Array Slot} (hP : va_P g kcl w H) (hD : va_D A w) (hS : va_S A s.heap H locs) (hl : lv_has ls 1 [(0, .int a1)]) : W p l e (R) s m args below meth c H locs 0 0 (kSel below args s A kx (kQv g tys w A) (kQx g tys w A kx)) (F0 m 0 ls []) := by
  obtain ⟨hx, hb, hr, hml, hown, hts, hlocks, hK, hA, hE⟩ := id K
  unfold F_T_checkTable at hF
  refine lv_iload_n hx hb d_T_checkTable_0 rfl (lv_at hl 0 rfl) ?_
  refine lv_if_lt (tgt := 10) hx hb d_T_checkTable_1 (by decide) (fun hc_1 => ?_) (fun hc_1 => ?_)
  · have hF := it_t hF hc_1
    cases hF
    exact kth (kx := 1) K hlt (hnt (by decide)) hP hD hS (cls := "java/lang/IllegalArgumentException") (text := "there is no such table") rfl (by decide) (by decide) wm_218 wm_54 (by decide) at_181 hl.1 d_T_checkTable_10 d_T_checkTable_13 d_T_checkTable_14 d_T_checkTable_16 d_T_checkTable_19 (Nat.le_trans (Nat.le_of_ble_eq_true rfl) hR.1) (Nat.le_trans (Nat.le_of_ble_eq_true rfl) hR.2) (Nat.le_of_ble_eq_true rfl) (hRc (by decide)).1 (hRc (by decide)).2
  · have hF := it_f hF hc_1
    refine lv_iload_n hx hb d_T_checkTable_4 rfl (lv_at hl 0 rfl) ?_
    refine lv_bipush (v := 16) hx hb d_T_checkTable_5 (by decide) ?_
    refine lv_icmp_lt (tgt := 20) hx hb d_T_checkTable_7 (by decide) (fun hc_2 => ?_) (fun hc_2 => ?_)
    · have hF := it_t hF hc_2
      cases hF
      exact W.mono (fun t h => Or.inl ⟨rfl, h⟩) (krv K hP hD hS d_T_checkTable_20)
    · have hF := it_f hF hc_2
      cases hF
      exact kth (kx := 1) K hlt (hnt (by decide)) hP hD hS (cls := "java/lang/IllegalArgumentException") (text := "there is no such table") rfl (by decide) (by decide) wm_218 wm_54 (by decide) at_181 hl.1 d_T_checkTable_10 d_T_checkTable_13 d_T_checkTable_14 d_T_checkTable_16 d_T_checkTable_19 (Nat.le_trans (Nat.le_of_ble_eq_true rfl) hR.1) (Nat.le_trans (Nat.le_of_ble_eq_true rfl) hR.2) (Nat.le_of_ble_eq_true rfl) (hRc (by decide)).1 (hRc (by decide)).2
theorem c_T_checkTable (l : Launch) (hlt : l.stackTraces = false) (g : va_G) (tys : List (ClassId × FieldType)) (w : va_W) (a1 : Int32)  (hF : F_T_checkTable a1 = some 0) : Cv l y_T_checkTable prog_1_method_24_code 1 ({ frames := 6, cells := 0, slots := 0, locals := 90 }) [.int a1] g tys w w :=
  fun sz => Ci.ofx (Q0 := fun A => kQv g tys w A) (XC := fun A => kQx g tys w A 0) (by decide) (Nat.le_of_ble_eq_true rfl) (fun p e s m below meth c A ls K hP hD hS hl => t_T_checkTable (R := { frames := 6, cells := 0, slots := 0, locals := 90 }) K ⟨Nat.le_of_ble_eq_true rfl, Nat.le_of_ble_eq_true rfl⟩ hlt  a1 0  (fun h => absurd rfl h) (fun h => absurd rfl h) hF hP hD hS hl) sz
theorem cx_T_checkTable (l : Launch) (hlt : l.stackTraces = false) (g : va_G) (tys : List (ClassId × FieldType)) (w : va_W) (a1 : Int32) (kx : Nat)  (hk : kx ≠ 0) (hF : F_T_checkTable a1 = some kx) : Cx l y_T_checkTable prog_1_method_24_code 1 none ({ frames := 6, cells := 1, slots := 6, locals := 90 }) [.int a1] g tys w w kx :=
  Cx.of (Q0 := fun A => kQv g tys w A) hk (by decide) (Nat.le_of_ble_eq_true rfl) (fun p e s m below meth c A ls hnt K hP hD hS hl => t_T_checkTable (R := { frames := 6, cells := 1, slots := 6, locals := 90 }) K ⟨Nat.le_of_ble_eq_true rfl, Nat.le_of_ble_eq_true rfl⟩ hlt  a1 kx  (fun _ => ⟨Nat.le_of_ble_eq_true rfl, Nat.le_of_ble_eq_true rfl⟩) (fun _ => hnt) hF hP hD hS hl)
def F_T_checkMode (a1 : Int32) : Option (Nat) :=
  if a1 < 0 then some 1 else if a1 ≤ 5 then some 0 else some 1
set_option maxHeartbeats 4000000 in
set_option maxRecDepth 100000 in
theorem t_T_checkMode {p : Program} {l : Launch} {e : Env} {s : State} {m : MethodId} {args : Array Value} {below : List Frame} {meth : Method} {c : Code} {A : Nat → Prop} {g : va_G} {tys : List (ClassId × FieldType)} {w : va_W} (K : kX p s m args meth c "LockTable" prog_1_method_25_code 1 none A g tys) {R : Room} (hR : 6 ≤ R.frames ∧ 90 ≤ R.locals) (hlt : l.stackTraces = false)  (a1 : Int32) (kx : Nat) (hRc : kx ≠ 0 → 1 ≤ R.cells ∧ 6 ≤ R.slots) (hnt : kx ≠ 0 → ∀ x ∈ c.exceptionTable.toList, False) (hF : F_T_checkMode a1 = some kx) {H : Heap} {locs : List Loc} {ls : Array Slot} (hP : va_P g kcl w H) (hD : va_D A w) (hS : va_S A s.heap H locs) (hl : lv_has ls 1 [(0, .int a1)]) : W p l e (R) s m args below meth c H locs 0 0 (kSel below args s A kx (kQv g tys w A) (kQx g tys w A kx)) (F0 m 0 ls []) := by
  obtain ⟨hx, hb, hr, hml, hown, hts, hlocks, hK, hA, hE⟩ := id K
  unfold F_T_checkMode at hF
  refine lv_iload_n hx hb d_T_checkMode_0 rfl (lv_at hl 0 rfl) ?_
  refine lv_if_lt (tgt := 9) hx hb d_T_checkMode_1 (by decide) (fun hc_1 => ?_) (fun hc_1 => ?_)
  · have hF := it_t hF hc_1
    cases hF
    exact kth (kx := 1) K hlt (hnt (by decide)) hP hD hS (cls := "java/lang/IllegalArgumentException") (text := "there is no such mode") rfl (by decide) (by decide) wm_218 wm_54 (by decide) at_181 hl.1 d_T_checkMode_9 d_T_checkMode_12 d_T_checkMode_13 d_T_checkMode_15 d_T_checkMode_18 (Nat.le_trans (Nat.le_of_ble_eq_true rfl) hR.1) (Nat.le_trans (Nat.le_of_ble_eq_true rfl) hR.2) (Nat.le_of_ble_eq_true rfl) (hRc (by decide)).1 (hRc (by decide)).2
  · have hF := it_f hF hc_1
    refine lv_iload_n hx hb d_T_checkMode_4 rfl (lv_at hl 0 rfl) ?_
    refine lv_iconst (v := 5) hx hb d_T_checkMode_5 (by decide) ?_
    refine lv_icmp_le (tgt := 19) hx hb d_T_checkMode_6 (by decide) (fun hc_2 => ?_) (fun hc_2 => ?_)
    · have hF := it_t hF hc_2
      cases hF
      exact W.mono (fun t h => Or.inl ⟨rfl, h⟩) (krv K hP hD hS d_T_checkMode_19)
    · have hF := it_f hF hc_2
      cases hF
      exact kth (kx := 1) K hlt (hnt (by decide)) hP hD hS (cls := "java/lang/IllegalArgumentException") (text := "there is no such mode") rfl (by decide) (by decide) wm_218 wm_54 (by decide) at_181 hl.1 d_T_checkMode_9 d_T_checkMode_12 d_T_checkMode_13 d_T_checkMode_15 d_T_checkMode_18 (Nat.le_trans (Nat.le_of_ble_eq_true rfl) hR.1) (Nat.le_trans (Nat.le_of_ble_eq_true rfl) hR.2) (Nat.le_of_ble_eq_true rfl) (hRc (by decide)).1 (hRc (by decide)).2
theorem c_T_checkMode (l : Launch) (hlt : l.stackTraces = false) (g : va_G) (tys : List (ClassId × FieldType)) (w : va_W) (a1 : Int32)  (hF : F_T_checkMode a1 = some 0) : Cv l y_T_checkMode prog_1_method_25_code 1 ({ frames := 6, cells := 0, slots := 0, locals := 90 }) [.int a1] g tys w w :=
  fun sz => Ci.ofx (Q0 := fun A => kQv g tys w A) (XC := fun A => kQx g tys w A 0) (by decide) (Nat.le_of_ble_eq_true rfl) (fun p e s m below meth c A ls K hP hD hS hl => t_T_checkMode (R := { frames := 6, cells := 0, slots := 0, locals := 90 }) K ⟨Nat.le_of_ble_eq_true rfl, Nat.le_of_ble_eq_true rfl⟩ hlt  a1 0  (fun h => absurd rfl h) (fun h => absurd rfl h) hF hP hD hS hl) sz
theorem cx_T_checkMode (l : Launch) (hlt : l.stackTraces = false) (g : va_G) (tys : List (ClassId × FieldType)) (w : va_W) (a1 : Int32) (kx : Nat)  (hk : kx ≠ 0) (hF : F_T_checkMode a1 = some kx) : Cx l y_T_checkMode prog_1_method_25_code 1 none ({ frames := 6, cells := 1, slots := 6, locals := 90 }) [.int a1] g tys w w kx :=
  Cx.of (Q0 := fun A => kQv g tys w A) hk (by decide) (Nat.le_of_ble_eq_true rfl) (fun p e s m below meth c A ls hnt K hP hD hS hl => t_T_checkMode (R := { frames := 6, cells := 1, slots := 6, locals := 90 }) K ⟨Nat.le_of_ble_eq_true rfl, Nat.le_of_ble_eq_true rfl⟩ hlt  a1 kx  (fun _ => ⟨Nat.le_of_ble_eq_true rfl, Nat.le_of_ble_eq_true rfl⟩) (fun _ => hnt) hF hP hD hS hl)
def F_T_checkRange (a1 : Int64) (a2 : Int64) (a3 : Int32) : Option (Nat) :=
  if (lg_cmp a1 a2) ≤ 0 then if a3 = 2 then some 0 else if a3 = 4 then some 0 else if a3 = 5 then some 0 else some 1 else some 1
set_option maxHeartbeats 4000000 in
set_option maxRecDepth 100000 in
theorem t_T_checkRange {p : Program} {l : Launch} {e : Env} {s : State} {m : MethodId} {args : Array Value} {below : List Frame} {meth : Method} {c : Code} {A : Nat → Prop} {g : va_G} {tys : List (ClassId × FieldType)} {w : va_W} (K : kX p s m args meth c "LockTable" prog_1_method_26_code 5 none A g tys) {R : Room} (hR : 6 ≤ R.frames ∧ 90 ≤ R.locals) (hlt : l.stackTraces = false)  (a1 : Int64) (a2 : Int64) (a3 : Int32) (kx : Nat) (hRc : kx ≠ 0 → 1 ≤ R.cells ∧ 6 ≤ R.slots) (hnt : kx ≠ 0 → ∀ x ∈ c.exceptionTable.toList, False) (hF : F_T_checkRange a1 a2 a3 = some kx) {H : Heap} {locs : List Loc} {ls : Array Slot} (hP : va_P g kcl w H) (hD : va_D A w) (hS : va_S A s.heap H locs) (hl : lv_has ls 5 [(0, .long a1), (2, .long a2), (4, .int a3)]) : W p l e (R) s m args below meth c H locs 0 0 (kSel below args s A kx (kQv g tys w A) (kQx g tys w A kx)) (F0 m 0 ls []) := by
  obtain ⟨hx, hb, hr, hml, hown, hts, hlocks, hK, hA, hE⟩ := id K
  unfold F_T_checkRange at hF
  refine lv_lload_n hx hb d_T_checkRange_0 rfl (lv_at hl 0 rfl) ?_
  refine lv_lload_n hx hb d_T_checkRange_1 rfl (lv_at hl 1 rfl) ?_
  refine W.lcmp hx hb d_T_checkRange_2 ?_
  refine lv_if_le (tgt := 16) hx hb d_T_checkRange_3 (by decide) (fun hc_1 => ?_) (fun hc_1 => ?_)
  · have hF := it_t hF hc_1
    refine lv_iload hx hb d_T_checkRange_16 (lv_at hl 2 rfl) ?_
    refine lv_iconst (v := 2) hx hb d_T_checkRange_18 (by decide) ?_
    refine lv_icmp_eq (tgt := 44) hx hb d_T_checkRange_19 (by decide) (fun hc_2 => ?_) (fun hc_2 => ?_)
    · have hF := it_t hF hc_2
      cases hF
      exact W.mono (fun t h => Or.inl ⟨rfl, h⟩) (krv K hP hD hS d_T_checkRange_44)
    · have hF := it_f hF hc_2
      refine lv_iload hx hb d_T_checkRange_22 (lv_at hl 2 rfl) ?_
      refine lv_iconst (v := 4) hx hb d_T_checkRange_24 (by decide) ?_
      refine lv_icmp_eq (tgt := 44) hx hb d_T_checkRange_25 (by decide) (fun hc_3 => ?_) (fun hc_3 => ?_)
      · have hF := it_t hF hc_3
        cases hF
        exact W.mono (fun t h => Or.inl ⟨rfl, h⟩) (krv K hP hD hS d_T_checkRange_44)
      · have hF := it_f hF hc_3
        refine lv_iload hx hb d_T_checkRange_28 (lv_at hl 2 rfl) ?_
        refine lv_iconst (v := 5) hx hb d_T_checkRange_30 (by decide) ?_
        refine lv_icmp_eq (tgt := 44) hx hb d_T_checkRange_31 (by decide) (fun hc_4 => ?_) (fun hc_4 => ?_)
        · have hF := it_t hF hc_4
          cases hF
          exact W.mono (fun t h => Or.inl ⟨rfl, h⟩) (krv K hP hD hS d_T_checkRange_44)
        · have hF := it_f hF hc_4
          cases hF
          exact kth (kx := 1) K hlt (hnt (by decide)) hP hD hS (cls := "java/lang/IllegalArgumentException") (text := "a range is locked in S, U or X") rfl (by decide) (by decide) wm_218 wm_54 (by decide) at_181 hl.1 d_T_checkRange_34 d_T_checkRange_37 d_T_checkRange_38 d_T_checkRange_40 d_T_checkRange_43 (Nat.le_trans (Nat.le_of_ble_eq_true rfl) hR.1) (Nat.le_trans (Nat.le_of_ble_eq_true rfl) hR.2) (Nat.le_of_ble_eq_true rfl) (hRc (by decide)).1 (hRc (by decide)).2
  · have hF := it_f hF hc_1
    cases hF
    exact kth (kx := 1) K hlt (hnt (by decide)) hP hD hS (cls := "java/lang/IllegalArgumentException") (text := "low is above high") rfl (by decide) (by decide) wm_218 wm_54 (by decide) at_181 hl.1 d_T_checkRange_6 d_T_checkRange_9 d_T_checkRange_10 d_T_checkRange_12 d_T_checkRange_15 (Nat.le_trans (Nat.le_of_ble_eq_true rfl) hR.1) (Nat.le_trans (Nat.le_of_ble_eq_true rfl) hR.2) (Nat.le_of_ble_eq_true rfl) (hRc (by decide)).1 (hRc (by decide)).2
theorem c_T_checkRange (l : Launch) (hlt : l.stackTraces = false) (g : va_G) (tys : List (ClassId × FieldType)) (w : va_W) (a1 : Int64) (a2 : Int64) (a3 : Int32)  (hF : F_T_checkRange a1 a2 a3 = some 0) : Cv l y_T_checkRange prog_1_method_26_code 5 ({ frames := 6, cells := 0, slots := 0, locals := 90 }) [.long a1, .long a2, .int a3] g tys w w :=
  fun sz => Ci.ofx (Q0 := fun A => kQv g tys w A) (XC := fun A => kQx g tys w A 0) (by decide) (Nat.le_of_ble_eq_true rfl) (fun p e s m below meth c A ls K hP hD hS hl => t_T_checkRange (R := { frames := 6, cells := 0, slots := 0, locals := 90 }) K ⟨Nat.le_of_ble_eq_true rfl, Nat.le_of_ble_eq_true rfl⟩ hlt  a1 a2 a3 0  (fun h => absurd rfl h) (fun h => absurd rfl h) hF hP hD hS hl) sz
theorem cx_T_checkRange (l : Launch) (hlt : l.stackTraces = false) (g : va_G) (tys : List (ClassId × FieldType)) (w : va_W) (a1 : Int64) (a2 : Int64) (a3 : Int32) (kx : Nat)  (hk : kx ≠ 0) (hF : F_T_checkRange a1 a2 a3 = some kx) : Cx l y_T_checkRange prog_1_method_26_code 5 none ({ frames := 6, cells := 1, slots := 6, locals := 90 }) [.long a1, .long a2, .int a3] g tys w w kx :=
  Cx.of (Q0 := fun A => kQv g tys w A) hk (by decide) (Nat.le_of_ble_eq_true rfl) (fun p e s m below meth c A ls hnt K hP hD hS hl => t_T_checkRange (R := { frames := 6, cells := 1, slots := 6, locals := 90 }) K ⟨Nat.le_of_ble_eq_true rfl, Nat.le_of_ble_eq_true rfl⟩ hlt  a1 a2 a3 kx  (fun _ => ⟨Nat.le_of_ble_eq_true rfl, Nat.le_of_ble_eq_true rfl⟩) (fun _ => hnt) hF hP hD hS hl)
def F_T_checkTicks (a1 : Int32) : Option (Nat) :=
  if a1 < 0 then some 1 else if a1 ≤ 1000 then some 0 else some 1
set_option maxHeartbeats 4000000 in
set_option maxRecDepth 100000 in
theorem t_T_checkTicks {p : Program} {l : Launch} {e : Env} {s : State} {m : MethodId} {args : Array Value} {below : List Frame} {meth : Method} {c : Code} {A : Nat → Prop} {g : va_G} {tys : List (ClassId × FieldType)} {w : va_W} (K : kX p s m args meth c "LockTable" prog_1_method_27_code 1 none A g tys) {R : Room} (hR : 6 ≤ R.frames ∧ 90 ≤ R.locals) (hlt : l.stackTraces = false)  (a1 : Int32) (kx : Nat) (hRc : kx ≠ 0 → 1 ≤ R.cells ∧ 6 ≤ R.slots) (hnt : kx ≠ 0 → ∀ x ∈ c.exceptionTable.toList, False) (hF : F_T_checkTicks a1 = some kx) {H : Heap} {locs : List Loc} {ls : Array Slot} (hP : va_P g kcl w H) (hD : va_D A w) (hS : va_S A s.heap H locs) (hl : lv_has ls 1 [(0, .int a1)]) : W p l e (R) s m args below meth c H locs 0 0 (kSel below args s A kx (kQv g tys w A) (kQx g tys w A kx)) (F0 m 0 ls []) := by
  obtain ⟨hx, hb, hr, hml, hown, hts, hlocks, hK, hA, hE⟩ := id K
  unfold F_T_checkTicks at hF
  refine lv_iload_n hx hb d_T_checkTicks_0 rfl (lv_at hl 0 rfl) ?_
  refine lv_if_lt (tgt := 11) hx hb d_T_checkTicks_1 (by decide) (fun hc_1 => ?_) (fun hc_1 => ?_)
  · have hF := it_t hF hc_1
    cases hF
    exact kth (kx := 1) K hlt (hnt (by decide)) hP hD hS (cls := "java/lang/IllegalArgumentException") (text := "ticks are 0 to 1000") rfl (by decide) (by decide) wm_218 wm_54 (by decide) at_181 hl.1 d_T_checkTicks_11 d_T_checkTicks_14 d_T_checkTicks_15 d_T_checkTicks_17 d_T_checkTicks_20 (Nat.le_trans (Nat.le_of_ble_eq_true rfl) hR.1) (Nat.le_trans (Nat.le_of_ble_eq_true rfl) hR.2) (Nat.le_of_ble_eq_true rfl) (hRc (by decide)).1 (hRc (by decide)).2
  · have hF := it_f hF hc_1
    refine lv_iload_n hx hb d_T_checkTicks_4 rfl (lv_at hl 0 rfl) ?_
    refine lv_sipush (v := 1000) hx hb d_T_checkTicks_5 (by decide) ?_
    refine lv_icmp_le (tgt := 21) hx hb d_T_checkTicks_8 (by decide) (fun hc_2 => ?_) (fun hc_2 => ?_)
    · have hF := it_t hF hc_2
      cases hF
      exact W.mono (fun t h => Or.inl ⟨rfl, h⟩) (krv K hP hD hS d_T_checkTicks_21)
    · have hF := it_f hF hc_2
      cases hF
      exact kth (kx := 1) K hlt (hnt (by decide)) hP hD hS (cls := "java/lang/IllegalArgumentException") (text := "ticks are 0 to 1000") rfl (by decide) (by decide) wm_218 wm_54 (by decide) at_181 hl.1 d_T_checkTicks_11 d_T_checkTicks_14 d_T_checkTicks_15 d_T_checkTicks_17 d_T_checkTicks_20 (Nat.le_trans (Nat.le_of_ble_eq_true rfl) hR.1) (Nat.le_trans (Nat.le_of_ble_eq_true rfl) hR.2) (Nat.le_of_ble_eq_true rfl) (hRc (by decide)).1 (hRc (by decide)).2
theorem c_T_checkTicks (l : Launch) (hlt : l.stackTraces = false) (g : va_G) (tys : List (ClassId × FieldType)) (w : va_W) (a1 : Int32)  (hF : F_T_checkTicks a1 = some 0) : Cv l y_T_checkTicks prog_1_method_27_code 1 ({ frames := 6, cells := 0, slots := 0, locals := 90 }) [.int a1] g tys w w :=
  fun sz => Ci.ofx (Q0 := fun A => kQv g tys w A) (XC := fun A => kQx g tys w A 0) (by decide) (Nat.le_of_ble_eq_true rfl) (fun p e s m below meth c A ls K hP hD hS hl => t_T_checkTicks (R := { frames := 6, cells := 0, slots := 0, locals := 90 }) K ⟨Nat.le_of_ble_eq_true rfl, Nat.le_of_ble_eq_true rfl⟩ hlt  a1 0  (fun h => absurd rfl h) (fun h => absurd rfl h) hF hP hD hS hl) sz
theorem cx_T_checkTicks (l : Launch) (hlt : l.stackTraces = false) (g : va_G) (tys : List (ClassId × FieldType)) (w : va_W) (a1 : Int32) (kx : Nat)  (hk : kx ≠ 0) (hF : F_T_checkTicks a1 = some kx) : Cx l y_T_checkTicks prog_1_method_27_code 1 none ({ frames := 6, cells := 1, slots := 6, locals := 90 }) [.int a1] g tys w w kx :=
  Cx.of (Q0 := fun A => kQv g tys w A) hk (by decide) (Nat.le_of_ble_eq_true rfl) (fun p e s m below meth c A ls hnt K hP hD hS hl => t_T_checkTicks (R := { frames := 6, cells := 1, slots := 6, locals := 90 }) K ⟨Nat.le_of_ble_eq_true rfl, Nat.le_of_ble_eq_true rfl⟩ hlt  a1 kx  (fun _ => ⟨Nat.le_of_ble_eq_true rfl, Nat.le_of_ble_eq_true rfl⟩) (fun _ => hnt) hF hP hD hS hl)
def F_T_checkWorks (xst : Nat → Int32) (a1 : Int32) : Option (Nat) :=
  gd (a1 < 0 ∨ 8 ≤ a1.toNatClampNeg) (if (xst a1.toNatClampNeg) = 1 then some 0 else some 2)
set_option maxHeartbeats 4000000 in
set_option maxRecDepth 100000 in
theorem t_T_checkWorks {p : Program} {l : Launch} {e : Env} {s : State} {m : MethodId} {args : Array Value} {below : List Frame} {meth : Method} {c : Code} {A : Nat → Prop} {g : va_G} {cI cJ cZ : ClassId} {ad : Nat → Nat} {rest : va_W} (K : kX p s m args meth c "LockTable" prog_1_method_28_code 2 none A g (kty cI cJ cZ)) {R : Room} (hR : 6 ≤ R.frames ∧ 90 ≤ R.locals) (hlt : l.stackTraces = false) (xst : Nat → Int32) (xse : Nat → Int32) (xre : Nat → Int32) (xgr : Nat → Int32) (ltm : Nat → Int32) (low : Nat → Int32) (lta : Nat → Int32) (llo : Nat → Int64) (lhi : Nat → Int64) (lmo : Nat → Int32) (rta : Nat → Int32) (ron : Nat → Int32) (rlo : Nat → Int64) (rhi : Nat → Int64) (rmo : Nat → Int32) (rin : Nat → Int32) (res : Nat → Int32) (rsi : Nat → Int32) (rli : Nat → Int32) (rar : Nat → Int32) (xgc : Int32) (xca : Int32) (xls : Int32) (xtl : Int32) (xno : Int32) (lco : Int32) (rwa : Int32) (rad : Int32) (a1 : Int32) (kx : Nat) (hRc : kx ≠ 0 → 1 ≤ R.cells ∧ 6 ≤ R.slots) (hnt : kx ≠ 0 → ∀ x ∈ c.exceptionTable.toList, False) (hF : F_T_checkWorks xst a1 = some kx) {H : Heap} {locs : List Loc} {ls : Array Slot} (hP : va_P g kcl (wC cI cJ cZ ad xst xse xre xgr ltm low lta llo lhi lmo rta ron rlo rhi rmo rin res rsi rli rar xgc xca xls xtl xno lco rwa rad rest) H) (hD : va_D A (wC cI cJ cZ ad xst xse xre xgr ltm low lta llo lhi lmo rta ron rlo rhi rmo rin res rsi rli rar xgc xca xls xtl xno lco rwa rad rest)) (hS : va_S A s.heap H locs) (hl : lv_has ls 2 [(0, .ref (ad 0)), (1, .int a1)]) : W p l e (R) s m args below meth c H locs 0 0 (kSel below args s A kx (kQv g (kty cI cJ cZ) (wC cI cJ cZ ad xst xse xre xgr ltm low lta llo lhi lmo rta ron rlo rhi rmo rin res rsi rli rar xgc xca xls xtl xno lco rwa rad rest) A) (kQx g (kty cI cJ cZ) (wC cI cJ cZ ad xst xse xre xgr ltm low lta llo lhi lmo rta ron rlo rhi rmo rin res rsi rli rar xgc xca xls xtl xno lco rwa rad rest) A kx)) (F0 m 0 ls []) := by
  obtain ⟨hx, hb, hr, hml, hown, hts, hlocks, hK, hA, hE⟩ := id K
  unfold F_T_checkWorks at hF
  refine lv_aload_n hx hb d_T_checkWorks_0 rfl (lv_at hl 0 rfl) ?_
  refine va_get (D := g) (ci := 2) (v := .ref (ad 3)) (C := kR2) (T := kT2) (N := 11) hx hb hts kw2 hown hK hP 0 rfl rfl 0 (by decide) (hts _ wm_156) (fun _ h9 => h9) rfl d_T_checkWorks_1 ?_
  refine lv_iload_n hx hb d_T_checkWorks_4 rfl (lv_at hl 1 rfl) ?_
  obtain ⟨hg_1, hF⟩ := gd_inv hF
  refine va_iald hx hb hK hP 3 0 rfl rfl hg_1 d_T_checkWorks_5 ?_
  refine lv_iconst (v := 1) hx hb d_T_checkWorks_6 (by decide) ?_
  refine lv_icmp_eq (tgt := 20) hx hb d_T_checkWorks_7 (by decide) (fun hc_2 => ?_) (fun hc_2 => ?_)
  · have hF := it_t hF hc_2
    cases hF
    exact W.mono (fun t h => Or.inl ⟨rfl, h⟩) (krv K hP hD hS d_T_checkWorks_20)
  · have hF := it_f hF hc_2
    cases hF
    exact kth (kx := 2) K hlt (hnt (by decide)) hP hD hS (cls := "java/lang/IllegalStateException") (text := "the owner does not work") rfl (by decide) (by decide) wm_286 wm_55 (by decide) at_54 hl.1 d_T_checkWorks_10 d_T_checkWorks_13 d_T_checkWorks_14 d_T_checkWorks_16 d_T_checkWorks_19 (Nat.le_trans (Nat.le_of_ble_eq_true rfl) hR.1) (Nat.le_trans (Nat.le_of_ble_eq_true rfl) hR.2) (Nat.le_of_ble_eq_true rfl) (hRc (by decide)).1 (hRc (by decide)).2
theorem c_T_checkWorks (l : Launch) (hlt : l.stackTraces = false) (g : va_G) (cI cJ cZ : ClassId) (ad : Nat → Nat) (xst : Nat → Int32) (xse : Nat → Int32) (xre : Nat → Int32) (xgr : Nat → Int32) (ltm : Nat → Int32) (low : Nat → Int32) (lta : Nat → Int32) (llo : Nat → Int64) (lhi : Nat → Int64) (lmo : Nat → Int32) (rta : Nat → Int32) (ron : Nat → Int32) (rlo : Nat → Int64) (rhi : Nat → Int64) (rmo : Nat → Int32) (rin : Nat → Int32) (res : Nat → Int32) (rsi : Nat → Int32) (rli : Nat → Int32) (rar : Nat → Int32) (xgc : Int32) (xca : Int32) (xls : Int32) (xtl : Int32) (xno : Int32) (lco : Int32) (rwa : Int32) (rad : Int32) (rest : va_W) (a1 : Int32)  (hF : F_T_checkWorks xst a1 = some 0) : Cv l y_T_checkWorks prog_1_method_28_code 2 ({ frames := 6, cells := 0, slots := 0, locals := 90 }) [.ref (ad 0), .int a1] g (kty cI cJ cZ) (wC cI cJ cZ ad xst xse xre xgr ltm low lta llo lhi lmo rta ron rlo rhi rmo rin res rsi rli rar xgc xca xls xtl xno lco rwa rad rest) (wC cI cJ cZ ad xst xse xre xgr ltm low lta llo lhi lmo rta ron rlo rhi rmo rin res rsi rli rar xgc xca xls xtl xno lco rwa rad rest) :=
  fun sz => Ci.ofx (Q0 := fun A => kQv g (kty cI cJ cZ) (wC cI cJ cZ ad xst xse xre xgr ltm low lta llo lhi lmo rta ron rlo rhi rmo rin res rsi rli rar xgc xca xls xtl xno lco rwa rad rest) A) (XC := fun A => kQx g (kty cI cJ cZ) (wC cI cJ cZ ad xst xse xre xgr ltm low lta llo lhi lmo rta ron rlo rhi rmo rin res rsi rli rar xgc xca xls xtl xno lco rwa rad rest) A 0) (by decide) (Nat.le_of_ble_eq_true rfl) (fun p e s m below meth c A ls K hP hD hS hl => t_T_checkWorks (R := { frames := 6, cells := 0, slots := 0, locals := 90 }) K ⟨Nat.le_of_ble_eq_true rfl, Nat.le_of_ble_eq_true rfl⟩ hlt xst xse xre xgr ltm low lta llo lhi lmo rta ron rlo rhi rmo rin res rsi rli rar xgc xca xls xtl xno lco rwa rad a1 0  (fun h => absurd rfl h) (fun h => absurd rfl h) hF hP hD hS hl) sz
theorem cx_T_checkWorks (l : Launch) (hlt : l.stackTraces = false) (g : va_G) (cI cJ cZ : ClassId) (ad : Nat → Nat) (xst : Nat → Int32) (xse : Nat → Int32) (xre : Nat → Int32) (xgr : Nat → Int32) (ltm : Nat → Int32) (low : Nat → Int32) (lta : Nat → Int32) (llo : Nat → Int64) (lhi : Nat → Int64) (lmo : Nat → Int32) (rta : Nat → Int32) (ron : Nat → Int32) (rlo : Nat → Int64) (rhi : Nat → Int64) (rmo : Nat → Int32) (rin : Nat → Int32) (res : Nat → Int32) (rsi : Nat → Int32) (rli : Nat → Int32) (rar : Nat → Int32) (xgc : Int32) (xca : Int32) (xls : Int32) (xtl : Int32) (xno : Int32) (lco : Int32) (rwa : Int32) (rad : Int32) (rest : va_W) (a1 : Int32) (kx : Nat)  (hk : kx ≠ 0) (hF : F_T_checkWorks xst a1 = some kx) : Cx l y_T_checkWorks prog_1_method_28_code 2 none ({ frames := 6, cells := 1, slots := 6, locals := 90 }) [.ref (ad 0), .int a1] g (kty cI cJ cZ) (wC cI cJ cZ ad xst xse xre xgr ltm low lta llo lhi lmo rta ron rlo rhi rmo rin res rsi rli rar xgc xca xls xtl xno lco rwa rad rest) (wC cI cJ cZ ad xst xse xre xgr ltm low lta llo lhi lmo rta ron rlo rhi rmo rin res rsi rli rar xgc xca xls xtl xno lco rwa rad rest) kx :=
  Cx.of (Q0 := fun A => kQv g (kty cI cJ cZ) (wC cI cJ cZ ad xst xse xre xgr ltm low lta llo lhi lmo rta ron rlo rhi rmo rin res rsi rli rar xgc xca xls xtl xno lco rwa rad rest) A) hk (by decide) (Nat.le_of_ble_eq_true rfl) (fun p e s m below meth c A ls hnt K hP hD hS hl => t_T_checkWorks (R := { frames := 6, cells := 1, slots := 6, locals := 90 }) K ⟨Nat.le_of_ble_eq_true rfl, Nat.le_of_ble_eq_true rfl⟩ hlt xst xse xre xgr ltm low lta llo lhi lmo rta ron rlo rhi rmo rin res rsi rli rar xgc xca xls xtl xno lco rwa rad a1 kx  (fun _ => ⟨Nat.le_of_ble_eq_true rfl, Nat.le_of_ble_eq_true rfl⟩) (fun _ => hnt) hF hP hD hS hl)
def F_T_checkWaits (xst : Nat → Int32) (a1 : Int32) : Option (Nat) :=
  gd (a1 < 0 ∨ 8 ≤ a1.toNatClampNeg) (if (xst a1.toNatClampNeg) = 2 then some 0 else some 2)
set_option maxHeartbeats 4000000 in
set_option maxRecDepth 100000 in
theorem t_T_checkWaits {p : Program} {l : Launch} {e : Env} {s : State} {m : MethodId} {args : Array Value} {below : List Frame} {meth : Method} {c : Code} {A : Nat → Prop} {g : va_G} {cI cJ cZ : ClassId} {ad : Nat → Nat} {rest : va_W} (K : kX p s m args meth c "LockTable" prog_1_method_29_code 2 none A g (kty cI cJ cZ)) {R : Room} (hR : 6 ≤ R.frames ∧ 90 ≤ R.locals) (hlt : l.stackTraces = false) (xst : Nat → Int32) (xse : Nat → Int32) (xre : Nat → Int32) (xgr : Nat → Int32) (ltm : Nat → Int32) (low : Nat → Int32) (lta : Nat → Int32) (llo : Nat → Int64) (lhi : Nat → Int64) (lmo : Nat → Int32) (rta : Nat → Int32) (ron : Nat → Int32) (rlo : Nat → Int64) (rhi : Nat → Int64) (rmo : Nat → Int32) (rin : Nat → Int32) (res : Nat → Int32) (rsi : Nat → Int32) (rli : Nat → Int32) (rar : Nat → Int32) (xgc : Int32) (xca : Int32) (xls : Int32) (xtl : Int32) (xno : Int32) (lco : Int32) (rwa : Int32) (rad : Int32) (a1 : Int32) (kx : Nat) (hRc : kx ≠ 0 → 1 ≤ R.cells ∧ 6 ≤ R.slots) (hnt : kx ≠ 0 → ∀ x ∈ c.exceptionTable.toList, False) (hF : F_T_checkWaits xst a1 = some kx) {H : Heap} {locs : List Loc} {ls : Array Slot} (hP : va_P g kcl (wC cI cJ cZ ad xst xse xre xgr ltm low lta llo lhi lmo rta ron rlo rhi rmo rin res rsi rli rar xgc xca xls xtl xno lco rwa rad rest) H) (hD : va_D A (wC cI cJ cZ ad xst xse xre xgr ltm low lta llo lhi lmo rta ron rlo rhi rmo rin res rsi rli rar xgc xca xls xtl xno lco rwa rad rest)) (hS : va_S A s.heap H locs) (hl : lv_has ls 2 [(0, .ref (ad 0)), (1, .int a1)]) : W p l e (R) s m args below meth c H locs 0 0 (kSel below args s A kx (kQv g (kty cI cJ cZ) (wC cI cJ cZ ad xst xse xre xgr ltm low lta llo lhi lmo rta ron rlo rhi rmo rin res rsi rli rar xgc xca xls xtl xno lco rwa rad rest) A) (kQx g (kty cI cJ cZ) (wC cI cJ cZ ad xst xse xre xgr ltm low lta llo lhi lmo rta ron rlo rhi rmo rin res rsi rli rar xgc xca xls xtl xno lco rwa rad rest) A kx)) (F0 m 0 ls []) := by
  obtain ⟨hx, hb, hr, hml, hown, hts, hlocks, hK, hA, hE⟩ := id K
  unfold F_T_checkWaits at hF
  refine lv_aload_n hx hb d_T_checkWaits_0 rfl (lv_at hl 0 rfl) ?_
  refine va_get (D := g) (ci := 2) (v := .ref (ad 3)) (C := kR2) (T := kT2) (N := 11) hx hb hts kw2 hown hK hP 0 rfl rfl 0 (by decide) (hts _ wm_156) (fun _ h9 => h9) rfl d_T_checkWaits_1 ?_
  refine lv_iload_n hx hb d_T_checkWaits_4 rfl (lv_at hl 1 rfl) ?_
  obtain ⟨hg_1, hF⟩ := gd_inv hF
  refine va_iald hx hb hK hP 3 0 rfl rfl hg_1 d_T_checkWaits_5 ?_
  refine lv_iconst (v := 2) hx hb d_T_checkWaits_6 (by decide) ?_
  refine lv_icmp_eq (tgt := 20) hx hb d_T_checkWaits_7 (by decide) (fun hc_2 => ?_) (fun hc_2 => ?_)
  · have hF := it_t hF hc_2
    cases hF
    exact W.mono (fun t h => Or.inl ⟨rfl, h⟩) (krv K hP hD hS d_T_checkWaits_20)
  · have hF := it_f hF hc_2
    cases hF
    exact kth (kx := 2) K hlt (hnt (by decide)) hP hD hS (cls := "java/lang/IllegalStateException") (text := "the owner does not wait") rfl (by decide) (by decide) wm_286 wm_55 (by decide) at_54 hl.1 d_T_checkWaits_10 d_T_checkWaits_13 d_T_checkWaits_14 d_T_checkWaits_16 d_T_checkWaits_19 (Nat.le_trans (Nat.le_of_ble_eq_true rfl) hR.1) (Nat.le_trans (Nat.le_of_ble_eq_true rfl) hR.2) (Nat.le_of_ble_eq_true rfl) (hRc (by decide)).1 (hRc (by decide)).2
theorem c_T_checkWaits (l : Launch) (hlt : l.stackTraces = false) (g : va_G) (cI cJ cZ : ClassId) (ad : Nat → Nat) (xst : Nat → Int32) (xse : Nat → Int32) (xre : Nat → Int32) (xgr : Nat → Int32) (ltm : Nat → Int32) (low : Nat → Int32) (lta : Nat → Int32) (llo : Nat → Int64) (lhi : Nat → Int64) (lmo : Nat → Int32) (rta : Nat → Int32) (ron : Nat → Int32) (rlo : Nat → Int64) (rhi : Nat → Int64) (rmo : Nat → Int32) (rin : Nat → Int32) (res : Nat → Int32) (rsi : Nat → Int32) (rli : Nat → Int32) (rar : Nat → Int32) (xgc : Int32) (xca : Int32) (xls : Int32) (xtl : Int32) (xno : Int32) (lco : Int32) (rwa : Int32) (rad : Int32) (rest : va_W) (a1 : Int32)  (hF : F_T_checkWaits xst a1 = some 0) : Cv l y_T_checkWaits prog_1_method_29_code 2 ({ frames := 6, cells := 0, slots := 0, locals := 90 }) [.ref (ad 0), .int a1] g (kty cI cJ cZ) (wC cI cJ cZ ad xst xse xre xgr ltm low lta llo lhi lmo rta ron rlo rhi rmo rin res rsi rli rar xgc xca xls xtl xno lco rwa rad rest) (wC cI cJ cZ ad xst xse xre xgr ltm low lta llo lhi lmo rta ron rlo rhi rmo rin res rsi rli rar xgc xca xls xtl xno lco rwa rad rest) :=
  fun sz => Ci.ofx (Q0 := fun A => kQv g (kty cI cJ cZ) (wC cI cJ cZ ad xst xse xre xgr ltm low lta llo lhi lmo rta ron rlo rhi rmo rin res rsi rli rar xgc xca xls xtl xno lco rwa rad rest) A) (XC := fun A => kQx g (kty cI cJ cZ) (wC cI cJ cZ ad xst xse xre xgr ltm low lta llo lhi lmo rta ron rlo rhi rmo rin res rsi rli rar xgc xca xls xtl xno lco rwa rad rest) A 0) (by decide) (Nat.le_of_ble_eq_true rfl) (fun p e s m below meth c A ls K hP hD hS hl => t_T_checkWaits (R := { frames := 6, cells := 0, slots := 0, locals := 90 }) K ⟨Nat.le_of_ble_eq_true rfl, Nat.le_of_ble_eq_true rfl⟩ hlt xst xse xre xgr ltm low lta llo lhi lmo rta ron rlo rhi rmo rin res rsi rli rar xgc xca xls xtl xno lco rwa rad a1 0  (fun h => absurd rfl h) (fun h => absurd rfl h) hF hP hD hS hl) sz
theorem cx_T_checkWaits (l : Launch) (hlt : l.stackTraces = false) (g : va_G) (cI cJ cZ : ClassId) (ad : Nat → Nat) (xst : Nat → Int32) (xse : Nat → Int32) (xre : Nat → Int32) (xgr : Nat → Int32) (ltm : Nat → Int32) (low : Nat → Int32) (lta : Nat → Int32) (llo : Nat → Int64) (lhi : Nat → Int64) (lmo : Nat → Int32) (rta : Nat → Int32) (ron : Nat → Int32) (rlo : Nat → Int64) (rhi : Nat → Int64) (rmo : Nat → Int32) (rin : Nat → Int32) (res : Nat → Int32) (rsi : Nat → Int32) (rli : Nat → Int32) (rar : Nat → Int32) (xgc : Int32) (xca : Int32) (xls : Int32) (xtl : Int32) (xno : Int32) (lco : Int32) (rwa : Int32) (rad : Int32) (rest : va_W) (a1 : Int32) (kx : Nat)  (hk : kx ≠ 0) (hF : F_T_checkWaits xst a1 = some kx) : Cx l y_T_checkWaits prog_1_method_29_code 2 none ({ frames := 6, cells := 1, slots := 6, locals := 90 }) [.ref (ad 0), .int a1] g (kty cI cJ cZ) (wC cI cJ cZ ad xst xse xre xgr ltm low lta llo lhi lmo rta ron rlo rhi rmo rin res rsi rli rar xgc xca xls xtl xno lco rwa rad rest) (wC cI cJ cZ ad xst xse xre xgr ltm low lta llo lhi lmo rta ron rlo rhi rmo rin res rsi rli rar xgc xca xls xtl xno lco rwa rad rest) kx :=
  Cx.of (Q0 := fun A => kQv g (kty cI cJ cZ) (wC cI cJ cZ ad xst xse xre xgr ltm low lta llo lhi lmo rta ron rlo rhi rmo rin res rsi rli rar xgc xca xls xtl xno lco rwa rad rest) A) hk (by decide) (Nat.le_of_ble_eq_true rfl) (fun p e s m below meth c A ls hnt K hP hD hS hl => t_T_checkWaits (R := { frames := 6, cells := 1, slots := 6, locals := 90 }) K ⟨Nat.le_of_ble_eq_true rfl, Nat.le_of_ble_eq_true rfl⟩ hlt xst xse xre xgr ltm low lta llo lhi lmo rta ron rlo rhi rmo rin res rsi rli rar xgc xca xls xtl xno lco rwa rad a1 kx  (fun _ => ⟨Nat.le_of_ble_eq_true rfl, Nat.le_of_ble_eq_true rfl⟩) (fun _ => hnt) hF hP hD hS hl)
def F_T_begin (xst : Nat → Int32) (xse : Nat → Int32) (xgc : Int32) (xca : Int32) (xls : Int32) (a1 : Int32) : Option (Nat × Int32 × (Nat → Int32) × (Nat → Int32) × Int32 × Int32 × Int32) :=
  ob1 (F_T_checkOwner a1) (fun k_1 => if k_1 = 0 then gd (a1 < 0 ∨ 8 ≤ a1.toNatClampNeg) (if (xst a1.toNatClampNeg) = 0 then ob2 (F_T_startCall xgc xca a1) (fun xgc_5 xca_6 => gd (a1 < 0 ∨ 8 ≤ a1.toNatClampNeg) (gd (a1 < 0 ∨ 8 ≤ a1.toNatClampNeg) (some (0, xls + 1, upd xst a1.toNatClampNeg 1, upd xse a1.toNatClampNeg (xls + 1), xgc_5, xca_6, xls + 1)))) else some (2, 0, xst, xse, xgc, xca, xls)) else some (k_1, 0, xst, xse, xgc, xca, xls))
set_option maxHeartbeats 4000000 in
set_option maxRecDepth 100000 in
theorem t_T_begin {p : Program} {l : Launch} {e : Env} {s : State} {m : MethodId} {args : Array Value} {below : List Frame} {meth : Method} {c : Code} {A : Nat → Prop} {g : va_G} {cI cJ cZ : ClassId} {ad : Nat → Nat} {rest : va_W} (K : kX p s m args meth c "LockTable" prog_1_method_2_code 2 (some .int) A g (kty cI cJ cZ)) {R : Room} (hR : 7 ≤ R.frames ∧ 110 ≤ R.locals) (hlt : l.stackTraces = false) (xst : Nat → Int32) (xse : Nat → Int32) (xre : Nat → Int32) (xgr : Nat → Int32) (ltm : Nat → Int32) (low : Nat → Int32) (lta : Nat → Int32) (llo : Nat → Int64) (lhi : Nat → Int64) (lmo : Nat → Int32) (rta : Nat → Int32) (ron : Nat → Int32) (rlo : Nat → Int64) (rhi : Nat → Int64) (rmo : Nat → Int32) (rin : Nat → Int32) (res : Nat → Int32) (rsi : Nat → Int32) (rli : Nat → Int32) (rar : Nat → Int32) (xgc : Int32) (xca : Int32) (xls : Int32) (xtl : Int32) (xno : Int32) (lco : Int32) (rwa : Int32) (rad : Int32) (a1 : Int32) (kx : Nat) (r : Int32) (o_xst : Nat → Int32) (o_xse : Nat → Int32) (o_xgc : Int32) (o_xca : Int32) (o_xls : Int32) (hRc : kx ≠ 0 → 1 ≤ R.cells ∧ 6 ≤ R.slots) (hnt : kx ≠ 0 → ∀ x ∈ c.exceptionTable.toList, False) (hF : F_T_begin xst xse xgc xca xls a1 = some (kx, r, o_xst, o_xse, o_xgc, o_xca, o_xls)) {H : Heap} {locs : List Loc} {ls : Array Slot} (hP : va_P g kcl (wC cI cJ cZ ad xst xse xre xgr ltm low lta llo lhi lmo rta ron rlo rhi rmo rin res rsi rli rar xgc xca xls xtl xno lco rwa rad rest) H) (hD : va_D A (wC cI cJ cZ ad xst xse xre xgr ltm low lta llo lhi lmo rta ron rlo rhi rmo rin res rsi rli rar xgc xca xls xtl xno lco rwa rad rest)) (hS : va_S A s.heap H locs) (hl : lv_has ls 2 [(0, .ref (ad 0)), (1, .int a1)]) : W p l e (R) s m args below meth c H locs 0 0 (kSel below args s A kx (kQi g (kty cI cJ cZ) (wC cI cJ cZ ad o_xst o_xse xre xgr ltm low lta llo lhi lmo rta ron rlo rhi rmo rin res rsi rli rar o_xgc o_xca o_xls xtl xno lco rwa rad rest) A r) (kQx g (kty cI cJ cZ) (wC cI cJ cZ ad o_xst o_xse xre xgr ltm low lta llo lhi lmo rta ron rlo rhi rmo rin res rsi rli rar o_xgc o_xca o_xls xtl xno lco rwa rad rest) A kx)) (F0 m 0 ls []) := by
  obtain ⟨hx, hb, hr, hml, hown, hts, hlocks, hK, hA, hE⟩ := id K
  unfold F_T_begin at hF
  refine lv_iload_n hx hb d_T_begin_0 rfl (lv_at hl 1 rfl) ?_
  obtain ⟨k_1, hG, hF⟩ := ob1_inv hF
  by_cases hk_2 : k_1 = 0
  · replace hF := it_t hF hk_2
    subst hk_2
    refine ksv K hP hD hS (c_T_checkOwner l hlt g (kty cI cJ cZ) (wC cI cJ cZ ad xst xse xre xgr ltm low lta llo lhi lmo rta ron rlo rhi rmo rin res rsi rli rar xgc xca xls xtl xno lco rwa rad rest) a1  hG) wm_217 wm_215 wm_216 wm_46 hd_T_checkOwner rfl rfl ⟨Nat.le_trans (Nat.le_of_ble_eq_true rfl) hR.1, Nat.le_trans (Nat.le_of_ble_eq_true rfl) hR.2⟩ ⟨Nat.zero_le _, Nat.zero_le _⟩ hl.1 (rest := []) rfl (Nat.le_of_ble_eq_true rfl) d_T_begin_1 (fun H locs hP hD hS => ?_)
    refine lv_aload_n hx hb d_T_begin_4 rfl (lv_at hl 0 rfl) ?_
    refine va_get (D := g) (ci := 2) (v := .ref (ad 3)) (C := kR2) (T := kT2) (N := 11) hx hb hts kw2 hown hK hP 0 rfl rfl 0 (by decide) (hts _ wm_156) (fun _ h9 => h9) rfl d_T_begin_5 ?_
    refine lv_iload_n hx hb d_T_begin_8 rfl (lv_at hl 1 rfl) ?_
    obtain ⟨hg_3, hF⟩ := gd_inv hF
    refine va_iald hx hb hK hP 3 0 rfl rfl hg_3 d_T_begin_9 ?_
    refine lv_if_eq (tgt := 23) hx hb d_T_begin_10 (by decide) (fun hc_4 => ?_) (fun hc_4 => ?_)
    · have hF := it_t hF hc_4
      refine lv_aload_n hx hb d_T_begin_23 rfl (lv_at hl 0 rfl) ?_
      refine lv_iload_n hx hb d_T_begin_24 rfl (lv_at hl 1 rfl) ?_
      obtain ⟨xgc_5, xca_6, hG, hF⟩ := ob2_inv hF
      refine kcv K hP hD hS (c_T_startCall l g cI cJ cZ ad xst xse xre xgr ltm low lta llo lhi lmo rta ron rlo rhi rmo rin res rsi rli rar xgc xca xls xtl xno lco rwa rad rest a1 xgc_5 xca_6 hG) wm_305 wm_302 wm_304 wm_1 wm_46 hd_T_startCall rfl rfl ⟨Nat.le_trans (Nat.le_of_ble_eq_true rfl) hR.1, Nat.le_trans (Nat.le_of_ble_eq_true rfl) hR.2⟩ ⟨Nat.zero_le _, Nat.zero_le _⟩ 2 0 rfl rfl rfl hl.1 (rest := []) rfl (Nat.le_of_ble_eq_true rfl) d_T_begin_25 (fun H locs hP hD hS => ?_)
      refine lv_aload_n hx hb d_T_begin_28 rfl (lv_at hl 0 rfl) ?_
      refine lv_dup hx hb d_T_begin_29 rfl ?_
      refine va_get (D := g) (ci := 2) (v := .int xls) (C := kR2) (T := kT2) (N := 11) hx hb hts kw2 hown hK hP 0 rfl rfl 8 (by decide) (hts _ wm_164) (fun _ h9 => h9) rfl d_T_begin_30 ?_
      refine lv_iconst (v := 1) hx hb d_T_begin_33 (by decide) ?_
      refine lv_iadd hx hb d_T_begin_34 ?_
      refine va_put (D := g) (ci := 2) (v := .int (xls + 1)) (ty := .int) (C := kR2) (T := kT2) (N := 11) hx hb hts kw2 kt2 ko2 kn2 hown hK hP hD hS 0 rfl rfl 8 (by decide) (hts _ wm_164) (fun _ h9 => h9) rfl (by decide +kernel) rfl rfl (Nat.le_of_ble_eq_true rfl) d_T_begin_35 (fun H locs hP hD hS => ?_)
      have hP : va_P g kcl (wC cI cJ cZ ad xst xse xre xgr ltm low lta llo lhi lmo rta ron rlo rhi rmo rin res rsi rli rar xgc_5 xca_6 (xls + 1) xtl xno lco rwa rad rest) H := hP
      have hD : va_D A (wC cI cJ cZ ad xst xse xre xgr ltm low lta llo lhi lmo rta ron rlo rhi rmo rin res rsi rli rar xgc_5 xca_6 (xls + 1) xtl xno lco rwa rad rest) := hD
      refine lv_aload_n hx hb d_T_begin_38 rfl (lv_at hl 0 rfl) ?_
      refine va_get (D := g) (ci := 2) (v := .ref (ad 4)) (C := kR2) (T := kT2) (N := 11) hx hb hts kw2 hown hK hP 0 rfl rfl 1 (by decide) (hts _ wm_157) (fun _ h9 => h9) rfl d_T_begin_39 ?_
      refine lv_iload_n hx hb d_T_begin_42 rfl (lv_at hl 1 rfl) ?_
      refine lv_aload_n hx hb d_T_begin_43 rfl (lv_at hl 0 rfl) ?_
      refine va_get (D := g) (ci := 2) (v := .int (xls + 1)) (C := kR2) (T := kT2) (N := 11) hx hb hts kw2 hown hK hP 0 rfl rfl 8 (by decide) (hts _ wm_164) (fun _ h9 => h9) rfl d_T_begin_44 ?_
      obtain ⟨hg_7, hF⟩ := gd_inv hF
      refine va_iast hx hb hK hP hD hS 4 0 rfl rfl hg_7 d_T_begin_47 (fun H locs hP hD hS => ?_)
      have hP : va_P g kcl (wC cI cJ cZ ad xst (upd xse a1.toNatClampNeg (xls + 1)) xre xgr ltm low lta llo lhi lmo rta ron rlo rhi rmo rin res rsi rli rar xgc_5 xca_6 (xls + 1) xtl xno lco rwa rad rest) H := hP
      have hD : va_D A (wC cI cJ cZ ad xst (upd xse a1.toNatClampNeg (xls + 1)) xre xgr ltm low lta llo lhi lmo rta ron rlo rhi rmo rin res rsi rli rar xgc_5 xca_6 (xls + 1) xtl xno lco rwa rad rest) := hD
      refine lv_aload_n hx hb d_T_begin_48 rfl (lv_at hl 0 rfl) ?_
      refine va_get (D := g) (ci := 2) (v := .ref (ad 3)) (C := kR2) (T := kT2) (N := 11) hx hb hts kw2 hown hK hP 0 rfl rfl 0 (by decide) (hts _ wm_156) (fun _ h9 => h9) rfl d_T_begin_49 ?_
      refine lv_iload_n hx hb d_T_begin_52 rfl (lv_at hl 1 rfl) ?_
      refine lv_iconst (v := 1) hx hb d_T_begin_53 (by decide) ?_
      obtain ⟨hg_8, hF⟩ := gd_inv hF
      refine va_iast hx hb hK hP hD hS 3 0 rfl rfl hg_8 d_T_begin_54 (fun H locs hP hD hS => ?_)
      have hP : va_P g kcl (wC cI cJ cZ ad (upd xst a1.toNatClampNeg 1) (upd xse a1.toNatClampNeg (xls + 1)) xre xgr ltm low lta llo lhi lmo rta ron rlo rhi rmo rin res rsi rli rar xgc_5 xca_6 (xls + 1) xtl xno lco rwa rad rest) H := hP
      have hD : va_D A (wC cI cJ cZ ad (upd xst a1.toNatClampNeg 1) (upd xse a1.toNatClampNeg (xls + 1)) xre xgr ltm low lta llo lhi lmo rta ron rlo rhi rmo rin res rsi rli rar xgc_5 xca_6 (xls + 1) xtl xno lco rwa rad rest) := hD
      refine lv_aload_n hx hb d_T_begin_55 rfl (lv_at hl 0 rfl) ?_
      refine va_get (D := g) (ci := 2) (v := .int (xls + 1)) (C := kR2) (T := kT2) (N := 11) hx hb hts kw2 hown hK hP 0 rfl rfl 8 (by decide) (hts _ wm_164) (fun _ h9 => h9) rfl d_T_begin_56 ?_
      cases hF
      exact W.mono (fun t h => Or.inl ⟨rfl, h⟩) (kri K hP hD hS d_T_begin_59 rfl)
    · have hF := it_f hF hc_4
      cases hF
      exact kth (kx := 2) K hlt (hnt (by decide)) hP hD hS (cls := "java/lang/IllegalStateException") (text := "the owner is not idle") rfl (by decide) (by decide) wm_286 wm_55 (by decide) at_54 hl.1 d_T_begin_13 d_T_begin_16 d_T_begin_17 d_T_begin_19 d_T_begin_22 (Nat.le_trans (Nat.le_of_ble_eq_true rfl) hR.1) (Nat.le_trans (Nat.le_of_ble_eq_true rfl) hR.2) (Nat.le_of_ble_eq_true rfl) (hRc (by decide)).1 (hRc (by decide)).2
  · replace hF := it_f hF hk_2
    cases hF
    refine kxs K hP hD hS (cx_T_checkOwner l hlt g (kty cI cJ cZ) (wC cI cJ cZ ad xst xse xre xgr ltm low lta llo lhi lmo rta ron rlo rhi rmo rin res rsi rli rar xgc xca xls xtl xno lco rwa rad rest) a1 _  hk_2 hG) wm_217 wm_215 wm_216 wm_46 hd_T_checkOwner rfl rfl ⟨Nat.le_trans (Nat.le_of_ble_eq_true rfl) hR.1, Nat.le_trans (Nat.le_of_ble_eq_true rfl) hR.2⟩ ⟨(hRc hk_2).1, (hRc hk_2).2⟩ hl.1 (rest := []) rfl (Nat.le_of_ble_eq_true rfl) d_T_begin_1 (fun ce q9 H locs hP hD hS hce hcv hcl => ?_)
    exact kxo K hk_2 (hnt hk_2) hP hD hS hce hcv hcl
theorem c_T_begin (l : Launch) (hlt : l.stackTraces = false) (g : va_G) (cI cJ cZ : ClassId) (ad : Nat → Nat) (xst : Nat → Int32) (xse : Nat → Int32) (xre : Nat → Int32) (xgr : Nat → Int32) (ltm : Nat → Int32) (low : Nat → Int32) (lta : Nat → Int32) (llo : Nat → Int64) (lhi : Nat → Int64) (lmo : Nat → Int32) (rta : Nat → Int32) (ron : Nat → Int32) (rlo : Nat → Int64) (rhi : Nat → Int64) (rmo : Nat → Int32) (rin : Nat → Int32) (res : Nat → Int32) (rsi : Nat → Int32) (rli : Nat → Int32) (rar : Nat → Int32) (xgc : Int32) (xca : Int32) (xls : Int32) (xtl : Int32) (xno : Int32) (lco : Int32) (rwa : Int32) (rad : Int32) (rest : va_W) (a1 : Int32) (r : Int32) (o_xst : Nat → Int32) (o_xse : Nat → Int32) (o_xgc : Int32) (o_xca : Int32) (o_xls : Int32) (hF : F_T_begin xst xse xgc xca xls a1 = some (0, r, o_xst, o_xse, o_xgc, o_xca, o_xls)) : Ci l y_T_begin prog_1_method_2_code 2 (some .int) ({ frames := 7, cells := 0, slots := 0, locals := 110 }) [.ref (ad 0), .int a1] g (kty cI cJ cZ) (wC cI cJ cZ ad xst xse xre xgr ltm low lta llo lhi lmo rta ron rlo rhi rmo rin res rsi rli rar xgc xca xls xtl xno lco rwa rad rest) (wC cI cJ cZ ad o_xst o_xse xre xgr ltm low lta llo lhi lmo rta ron rlo rhi rmo rin res rsi rli rar o_xgc o_xca o_xls xtl xno lco rwa rad rest) r :=
  fun sz => Ci.ofx (Q0 := fun A => kQi g (kty cI cJ cZ) (wC cI cJ cZ ad o_xst o_xse xre xgr ltm low lta llo lhi lmo rta ron rlo rhi rmo rin res rsi rli rar o_xgc o_xca o_xls xtl xno lco rwa rad rest) A r) (XC := fun A => kQx g (kty cI cJ cZ) (wC cI cJ cZ ad o_xst o_xse xre xgr ltm low lta llo lhi lmo rta ron rlo rhi rmo rin res rsi rli rar o_xgc o_xca o_xls xtl xno lco rwa rad rest) A 0) (by decide) (Nat.le_of_ble_eq_true rfl) (fun p e s m below meth c A ls K hP hD hS hl => t_T_begin (R := { frames := 7, cells := 0, slots := 0, locals := 110 }) K ⟨Nat.le_of_ble_eq_true rfl, Nat.le_of_ble_eq_true rfl⟩ hlt xst xse xre xgr ltm low lta llo lhi lmo rta ron rlo rhi rmo rin res rsi rli rar xgc xca xls xtl xno lco rwa rad a1 0 r o_xst o_xse o_xgc o_xca o_xls (fun h => absurd rfl h) (fun h => absurd rfl h) hF hP hD hS hl) sz
theorem cx_T_begin (l : Launch) (hlt : l.stackTraces = false) (g : va_G) (cI cJ cZ : ClassId) (ad : Nat → Nat) (xst : Nat → Int32) (xse : Nat → Int32) (xre : Nat → Int32) (xgr : Nat → Int32) (ltm : Nat → Int32) (low : Nat → Int32) (lta : Nat → Int32) (llo : Nat → Int64) (lhi : Nat → Int64) (lmo : Nat → Int32) (rta : Nat → Int32) (ron : Nat → Int32) (rlo : Nat → Int64) (rhi : Nat → Int64) (rmo : Nat → Int32) (rin : Nat → Int32) (res : Nat → Int32) (rsi : Nat → Int32) (rli : Nat → Int32) (rar : Nat → Int32) (xgc : Int32) (xca : Int32) (xls : Int32) (xtl : Int32) (xno : Int32) (lco : Int32) (rwa : Int32) (rad : Int32) (rest : va_W) (a1 : Int32) (kx : Nat) (r : Int32) (o_xst : Nat → Int32) (o_xse : Nat → Int32) (o_xgc : Int32) (o_xca : Int32) (o_xls : Int32) (hk : kx ≠ 0) (hF : F_T_begin xst xse xgc xca xls a1 = some (kx, r, o_xst, o_xse, o_xgc, o_xca, o_xls)) : Cx l y_T_begin prog_1_method_2_code 2 (some .int) ({ frames := 7, cells := 1, slots := 6, locals := 110 }) [.ref (ad 0), .int a1] g (kty cI cJ cZ) (wC cI cJ cZ ad xst xse xre xgr ltm low lta llo lhi lmo rta ron rlo rhi rmo rin res rsi rli rar xgc xca xls xtl xno lco rwa rad rest) (wC cI cJ cZ ad o_xst o_xse xre xgr ltm low lta llo lhi lmo rta ron rlo rhi rmo rin res rsi rli rar o_xgc o_xca o_xls xtl xno lco rwa rad rest) kx :=
  Cx.of (Q0 := fun A => kQi g (kty cI cJ cZ) (wC cI cJ cZ ad o_xst o_xse xre xgr ltm low lta llo lhi lmo rta ron rlo rhi rmo rin res rsi rli rar o_xgc o_xca o_xls xtl xno lco rwa rad rest) A r) hk (by decide) (Nat.le_of_ble_eq_true rfl) (fun p e s m below meth c A ls hnt K hP hD hS hl => t_T_begin (R := { frames := 7, cells := 1, slots := 6, locals := 110 }) K ⟨Nat.le_of_ble_eq_true rfl, Nat.le_of_ble_eq_true rfl⟩ hlt xst xse xre xgr ltm low lta llo lhi lmo rta ron rlo rhi rmo rin res rsi rli rar xgc xca xls xtl xno lco rwa rad a1 kx r o_xst o_xse o_xgc o_xca o_xls (fun _ => ⟨Nat.le_of_ble_eq_true rfl, Nat.le_of_ble_eq_true rfl⟩) (fun _ => hnt) hF hP hD hS hl)
def F_T_table (xst : Nat → Int32) (xse : Nat → Int32) (xre : Nat → Int32) (xgr : Nat → Int32) (ltm : Nat → Int32) (low : Nat → Int32) (lta : Nat → Int32) (llo : Nat → Int64) (lhi : Nat → Int64) (lmo : Nat → Int32) (rta : Nat → Int32) (ron : Nat → Int32) (rlo : Nat → Int64) (rhi : Nat → Int64) (rmo : Nat → Int32) (rin : Nat → Int32) (res : Nat → Int32) (rsi : Nat → Int32) (rli : Nat → Int32) (rar : Nat → Int32) (xgc : Int32) (xca : Int32) (xno : Int32) (lco : Int32) (rwa : Int32) (rad : Int32) (a1 : Int32) (a2 : Int32) (a3 : Int32) : Option (Nat × Int32 × (Nat → Int32) × (Nat → Int32) × (Nat → Int32) × (Nat → Int32) × (Nat → Int32) × (Nat → Int32) × (Nat → Int64) × (Nat → Int64) × (Nat → Int32) × (Nat → Int32) × (Nat → Int32) × (Nat → Int32) × (Nat → Int32) × (Nat → Int32) × (Nat → Int32) × (Nat → Int32) × (Nat → Int32) × Int32 × Int32 × Int32 × Int32 × Int32) :=
  ob1 (F_T_checkOwner a1) (fun k_1 => if k_1 = 0 then ob1 (F_T_checkTable a2) (fun k_3 => if k_3 = 0 then ob1 (F_T_checkMode a3) (fun k_5 => if k_5 = 0 then ob1 (F_T_checkWorks xst a1) (fun k_7 => if k_7 = 0 then ob2 (F_T_startCall xgc xca a1) (fun xgc_9 xca_10 => ob1 (F_L_heldMode ltm a1 a2) (fun r_11 => jn0 (ob1 (F_K_strengthened r_11 a3) (fun r_12 => jn4 (fun (s_13 : Int32) (s_14 : Int32) (s_15 : Int32) (s_16 : Int32) => ob5 (F_R_setTable rta ron rmo rin res s_13 s_14 s_15 s_16) (fun rta_17 ron_18 rmo_19 rin_20 res_21 => ob17 (F_T_ask xst xse xre xgr ltm low lta llo lhi lmo rta_17 ron_18 rlo rhi rmo_19 rin_20 res_21 rsi rli rar xgc_9 xca_10 xno lco rwa rad a1) (fun r_22 xst_23 xre_24 xgr_25 ltm_26 low_27 lta_28 llo_29 lhi_30 lmo_31 rsi_32 rli_33 rar_34 xgc_35 lco_36 rwa_37 rad_38 => some (0, r_22, xst_23, xre_24, xgr_25, ltm_26, low_27, lta_28, llo_29, lhi_30, lmo_31, rta_17, ron_18, rmo_19, rin_20, res_21, rsi_32, rli_33, rar_34, xgc_35, xca_10, lco_36, rwa_37, rad_38)))) (fun J71 => if r_11 = (-1) then J71 a1 a2 r_12 0 else J71 a1 a2 r_12 1))) (fun J48 => if r_11 = (-1) then ob1 (F_T_isFull ltm lco rwa) (fun r_41 => if r_41 = 0 then J48  else some (0, 3, xst, xre, xgr, ltm, low, lta, llo, lhi, lmo, rta, ron, rmo, rin, res, rsi, rli, rar, xgc_9, xca_10, lco, rwa, rad)) else J48 ))) else some (k_7, 0, xst, xre, xgr, ltm, low, lta, llo, lhi, lmo, rta, ron, rmo, rin, res, rsi, rli, rar, xgc, xca, lco, rwa, rad)) else some (k_5, 0, xst, xre, xgr, ltm, low, lta, llo, lhi, lmo, rta, ron, rmo, rin, res, rsi, rli, rar, xgc, xca, lco, rwa, rad)) else some (k_3, 0, xst, xre, xgr, ltm, low, lta, llo, lhi, lmo, rta, ron, rmo, rin, res, rsi, rli, rar, xgc, xca, lco, rwa, rad)) else some (k_1, 0, xst, xre, xgr, ltm, low, lta, llo, lhi, lmo, rta, ron, rmo, rin, res, rsi, rli, rar, xgc, xca, lco, rwa, rad))
set_option maxHeartbeats 4000000 in
set_option maxRecDepth 100000 in
theorem t_T_table {p : Program} {l : Launch} {e : Env} {s : State} {m : MethodId} {args : Array Value} {below : List Frame} {meth : Method} {c : Code} {A : Nat → Prop} {g : va_G} {cI cJ cZ : ClassId} {ad : Nat → Nat} {rest : va_W} (K : kX p s m args meth c "LockTable" prog_1_method_3_code 5 (some .int) A g (kty cI cJ cZ)) {R : Room} (hR : 7 ≤ R.frames ∧ 144 ≤ R.locals) (hlt : l.stackTraces = false) (xst : Nat → Int32) (xse : Nat → Int32) (xre : Nat → Int32) (xgr : Nat → Int32) (ltm : Nat → Int32) (low : Nat → Int32) (lta : Nat → Int32) (llo : Nat → Int64) (lhi : Nat → Int64) (lmo : Nat → Int32) (rta : Nat → Int32) (ron : Nat → Int32) (rlo : Nat → Int64) (rhi : Nat → Int64) (rmo : Nat → Int32) (rin : Nat → Int32) (res : Nat → Int32) (rsi : Nat → Int32) (rli : Nat → Int32) (rar : Nat → Int32) (xgc : Int32) (xca : Int32) (xls : Int32) (xtl : Int32) (xno : Int32) (lco : Int32) (rwa : Int32) (rad : Int32) (a1 : Int32) (a2 : Int32) (a3 : Int32) (kx : Nat) (r : Int32) (o_xst : Nat → Int32) (o_xre : Nat → Int32) (o_xgr : Nat → Int32) (o_ltm : Nat → Int32) (o_low : Nat → Int32) (o_lta : Nat → Int32) (o_llo : Nat → Int64) (o_lhi : Nat → Int64) (o_lmo : Nat → Int32) (o_rta : Nat → Int32) (o_ron : Nat → Int32) (o_rmo : Nat → Int32) (o_rin : Nat → Int32) (o_res : Nat → Int32) (o_rsi : Nat → Int32) (o_rli : Nat → Int32) (o_rar : Nat → Int32) (o_xgc : Int32) (o_xca : Int32) (o_lco : Int32) (o_rwa : Int32) (o_rad : Int32) (hRc : kx ≠ 0 → 1 ≤ R.cells ∧ 6 ≤ R.slots) (hnt : kx ≠ 0 → ∀ x ∈ c.exceptionTable.toList, False) (hF : F_T_table xst xse xre xgr ltm low lta llo lhi lmo rta ron rlo rhi rmo rin res rsi rli rar xgc xca xno lco rwa rad a1 a2 a3 = some (kx, r, o_xst, o_xre, o_xgr, o_ltm, o_low, o_lta, o_llo, o_lhi, o_lmo, o_rta, o_ron, o_rmo, o_rin, o_res, o_rsi, o_rli, o_rar, o_xgc, o_xca, o_lco, o_rwa, o_rad)) {H : Heap} {locs : List Loc} {ls : Array Slot} (hP : va_P g kcl (wC cI cJ cZ ad xst xse xre xgr ltm low lta llo lhi lmo rta ron rlo rhi rmo rin res rsi rli rar xgc xca xls xtl xno lco rwa rad rest) H) (hD : va_D A (wC cI cJ cZ ad xst xse xre xgr ltm low lta llo lhi lmo rta ron rlo rhi rmo rin res rsi rli rar xgc xca xls xtl xno lco rwa rad rest)) (hS : va_S A s.heap H locs) (hl : lv_has ls 5 [(0, .ref (ad 0)), (1, .int a1), (2, .int a2), (3, .int a3)]) : W p l e (R) s m args below meth c H locs 0 0 (kSel below args s A kx (kQi g (kty cI cJ cZ) (wC cI cJ cZ ad o_xst xse o_xre o_xgr o_ltm o_low o_lta o_llo o_lhi o_lmo o_rta o_ron rlo rhi o_rmo o_rin o_res o_rsi o_rli o_rar o_xgc o_xca xls xtl xno o_lco o_rwa o_rad rest) A r) (kQx g (kty cI cJ cZ) (wC cI cJ cZ ad o_xst xse o_xre o_xgr o_ltm o_low o_lta o_llo o_lhi o_lmo o_rta o_ron rlo rhi o_rmo o_rin o_res o_rsi o_rli o_rar o_xgc o_xca xls xtl xno o_lco o_rwa o_rad rest) A kx)) (F0 m 0 ls []) := by
  obtain ⟨hx, hb, hr, hml, hown, hts, hlocks, hK, hA, hE⟩ := id K
  unfold F_T_table at hF
  refine lv_iload_n hx hb d_T_table_0 rfl (lv_at hl 1 rfl) ?_
  obtain ⟨k_1, hG, hF⟩ := ob1_inv hF
  by_cases hk_2 : k_1 = 0
  · replace hF := it_t hF hk_2
    subst hk_2
    refine ksv K hP hD hS (c_T_checkOwner l hlt g (kty cI cJ cZ) (wC cI cJ cZ ad xst xse xre xgr ltm low lta llo lhi lmo rta ron rlo rhi rmo rin res rsi rli rar xgc xca xls xtl xno lco rwa rad rest) a1  hG) wm_217 wm_215 wm_216 wm_46 hd_T_checkOwner rfl rfl ⟨Nat.le_trans (Nat.le_of_ble_eq_true rfl) hR.1, Nat.le_trans (Nat.le_of_ble_eq_true rfl) hR.2⟩ ⟨Nat.zero_le _, Nat.zero_le _⟩ hl.1 (rest := []) rfl (Nat.le_of_ble_eq_true rfl) d_T_table_1 (fun H locs hP hD hS => ?_)
    refine lv_iload_n hx hb d_T_table_4 rfl (lv_at hl 2 rfl) ?_
    obtain ⟨k_3, hG, hF⟩ := ob1_inv hF
    by_cases hk_4 : k_3 = 0
    · replace hF := it_t hF hk_4
      subst hk_4
      refine ksv K hP hD hS (c_T_checkTable l hlt g (kty cI cJ cZ) (wC cI cJ cZ ad xst xse xre xgr ltm low lta llo lhi lmo rta ron rlo rhi rmo rin res rsi rli rar xgc xca xls xtl xno lco rwa rad rest) a2  hG) wm_315 wm_313 wm_314 wm_46 hd_T_checkTable rfl rfl ⟨Nat.le_trans (Nat.le_of_ble_eq_true rfl) hR.1, Nat.le_trans (Nat.le_of_ble_eq_true rfl) hR.2⟩ ⟨Nat.zero_le _, Nat.zero_le _⟩ hl.1 (rest := []) rfl (Nat.le_of_ble_eq_true rfl) d_T_table_5 (fun H locs hP hD hS => ?_)
      refine lv_iload_n hx hb d_T_table_8 rfl (lv_at hl 3 rfl) ?_
      obtain ⟨k_5, hG, hF⟩ := ob1_inv hF
      by_cases hk_6 : k_5 = 0
      · replace hF := it_t hF hk_6
        subst hk_6
        refine ksv K hP hD hS (c_T_checkMode l hlt g (kty cI cJ cZ) (wC cI cJ cZ ad xst xse xre xgr ltm low lta llo lhi lmo rta ron rlo rhi rmo rin res rsi rli rar xgc xca xls xtl xno lco rwa rad rest) a3  hG) wm_319 wm_317 wm_318 wm_46 hd_T_checkMode rfl rfl ⟨Nat.le_trans (Nat.le_of_ble_eq_true rfl) hR.1, Nat.le_trans (Nat.le_of_ble_eq_true rfl) hR.2⟩ ⟨Nat.zero_le _, Nat.zero_le _⟩ hl.1 (rest := []) rfl (Nat.le_of_ble_eq_true rfl) d_T_table_9 (fun H locs hP hD hS => ?_)
        refine lv_aload_n hx hb d_T_table_12 rfl (lv_at hl 0 rfl) ?_
        refine lv_iload_n hx hb d_T_table_13 rfl (lv_at hl 1 rfl) ?_
        obtain ⟨k_7, hG, hF⟩ := ob1_inv hF
        by_cases hk_8 : k_7 = 0
        · replace hF := it_t hF hk_8
          subst hk_8
          refine kcv K hP hD hS (c_T_checkWorks l hlt g cI cJ cZ ad xst xse xre xgr ltm low lta llo lhi lmo rta ron rlo rhi rmo rin res rsi rli rar xgc xca xls xtl xno lco rwa rad rest a1  hG) wm_324 wm_321 wm_323 wm_2 wm_46 hd_T_checkWorks rfl rfl ⟨Nat.le_trans (Nat.le_of_ble_eq_true rfl) hR.1, Nat.le_trans (Nat.le_of_ble_eq_true rfl) hR.2⟩ ⟨Nat.zero_le _, Nat.zero_le _⟩ 2 0 rfl rfl rfl hl.1 (rest := []) rfl (Nat.le_of_ble_eq_true rfl) d_T_table_14 (fun H locs hP hD hS => ?_)
          refine lv_aload_n hx hb d_T_table_17 rfl (lv_at hl 0 rfl) ?_
          refine lv_iload_n hx hb d_T_table_18 rfl (lv_at hl 1 rfl) ?_
          obtain ⟨xgc_9, xca_10, hG, hF⟩ := ob2_inv hF
          refine kcv K hP hD hS (c_T_startCall l g cI cJ cZ ad xst xse xre xgr ltm low lta llo lhi lmo rta ron rlo rhi rmo rin res rsi rli rar xgc xca xls xtl xno lco rwa rad rest a1 xgc_9 xca_10 hG) wm_305 wm_302 wm_304 wm_1 wm_46 hd_T_startCall rfl rfl ⟨Nat.le_trans (Nat.le_of_ble_eq_true rfl) hR.1, Nat.le_trans (Nat.le_of_ble_eq_true rfl) hR.2⟩ ⟨Nat.zero_le _, Nat.zero_le _⟩ 2 0 rfl rfl rfl hl.1 (rest := []) rfl (Nat.le_of_ble_eq_true rfl) d_T_table_19 (fun H locs hP hD hS => ?_)
          refine lv_aload_n hx hb d_T_table_22 rfl (lv_at hl 0 rfl) ?_
          refine va_get (D := g) (ci := 2) (v := .ref (ad 1)) (C := kR2) (T := kT2) (N := 11) hx hb hts kw2 hown hK hP 0 rfl rfl 2 (by decide) (hts _ wm_158) (fun _ h9 => h9) rfl d_T_table_23 ?_
          refine lv_iload_n hx hb d_T_table_26 rfl (lv_at hl 1 rfl) ?_
          refine lv_iload_n hx hb d_T_table_27 rfl (lv_at hl 2 rfl) ?_
          obtain ⟨r_11, hG, hF⟩ := ob1_inv hF
          refine kci K hP hD hS (c_L_heldMode l g cI cJ cZ ad xst xse xre xgr ltm low lta llo lhi lmo rta ron rlo rhi rmo rin res rsi rli rar xgc_9 xca_10 xls xtl xno lco rwa rad rest a1 a2 r_11 hG) wm_329 wm_326 wm_327 wm_328 wm_48 hd_L_heldMode rfl rfl ⟨Nat.le_trans (Nat.le_of_ble_eq_true rfl) hR.1, Nat.le_trans (Nat.le_of_ble_eq_true rfl) hR.2⟩ ⟨Nat.zero_le _, Nat.zero_le _⟩ 0 1 rfl rfl rfl hl.1 (rest := []) rfl (Nat.le_of_ble_eq_true rfl) d_T_table_28 (fun H locs hP hD hS => ?_)
          refine lv_istore (lv' := [(4, .int r_11), (0, .ref (ad 0)), (1, .int a1), (2, .int a2), (3, .int a3)]) hx hb d_T_table_31 hl (by decide) rfl (fun ls hl => ?_)
          refine lv_iload hx hb d_T_table_33 (lv_at hl 0 rfl) ?_
          refine lv_iconst (v := (-1)) hx hb d_T_table_35 (by decide) ?_
          obtain ⟨J48, eJ48, hF⟩ := jn0_inv hF
          have hJ48 : ∀  (H : Heap) (locs : List Loc) (ls : Array Slot), J48  = some (kx, r, o_xst, o_xre, o_xgr, o_ltm, o_low, o_lta, o_llo, o_lhi, o_lmo, o_rta, o_ron, o_rmo, o_rin, o_res, o_rsi, o_rli, o_rar, o_xgc, o_xca, o_lco, o_rwa, o_rad) → va_P g kcl (wC cI cJ cZ ad xst xse xre xgr ltm low lta llo lhi lmo rta ron rlo rhi rmo rin res rsi rli rar xgc_9 xca_10 xls xtl xno lco rwa rad rest) H → va_D A (wC cI cJ cZ ad xst xse xre xgr ltm low lta llo lhi lmo rta ron rlo rhi rmo rin res rsi rli rar xgc_9 xca_10 xls xtl xno lco rwa rad rest) → va_S A s.heap H locs → lv_has ls 5 [(0, .ref (ad 0)), (1, .int a1), (2, .int a2), (3, .int a3), (4, .int r_11)] → W p l e (R) s m args below meth c H locs 0 0 (kSel below args s A kx (kQi g (kty cI cJ cZ) (wC cI cJ cZ ad o_xst xse o_xre o_xgr o_ltm o_low o_lta o_llo o_lhi o_lmo o_rta o_ron rlo rhi o_rmo o_rin o_res o_rsi o_rli o_rar o_xgc o_xca xls xtl xno o_lco o_rwa o_rad rest) A r) (kQx g (kty cI cJ cZ) (wC cI cJ cZ ad o_xst xse o_xre o_xgr o_ltm o_low o_lta o_llo o_lhi o_lmo o_rta o_ron rlo rhi o_rmo o_rin o_res o_rsi o_rli o_rar o_xgc o_xca xls xtl xno o_lco o_rwa o_rad rest) A kx)) (F0 m 48 ls []) := by
            intro  H locs ls hF hP hD hS hl
            rw [eJ48] at hF
            refine lv_aload_n hx hb d_T_table_48 rfl (lv_at hl 0 rfl) ?_
            refine va_get (D := g) (ci := 2) (v := .ref (ad 2)) (C := kR2) (T := kT2) (N := 11) hx hb hts kw2 hown hK hP 0 rfl rfl 3 (by decide) (hts _ wm_159) (fun _ h9 => h9) rfl d_T_table_49 ?_
            refine lv_iload_n hx hb d_T_table_52 rfl (lv_at hl 1 rfl) ?_
            refine lv_iload_n hx hb d_T_table_53 rfl (lv_at hl 2 rfl) ?_
            refine lv_iload hx hb d_T_table_54 (lv_at hl 4 rfl) ?_
            refine lv_iload_n hx hb d_T_table_56 rfl (lv_at hl 3 rfl) ?_
            obtain ⟨r_12, hG, hF⟩ := ob1_inv hF
            refine ksi K hP hD hS (c_K_strengthened l g (kty cI cJ cZ) (wC cI cJ cZ ad xst xse xre xgr ltm low lta llo lhi lmo rta ron rlo rhi rmo rin res rsi rli rar xgc_9 xca_10 xls xtl xno lco rwa rad rest) r_11 a3 r_12 hG) wm_337 wm_335 wm_336 wm_56 hd_K_strengthened rfl rfl ⟨Nat.le_trans (Nat.le_of_ble_eq_true rfl) hR.1, Nat.le_trans (Nat.le_of_ble_eq_true rfl) hR.2⟩ ⟨Nat.zero_le _, Nat.zero_le _⟩ hl.1 (rest := [.int a2, .int a1, .ref (ad 2)]) rfl (Nat.le_of_ble_eq_true rfl) d_T_table_57 (fun H locs hP hD hS => ?_)
            refine lv_iload hx hb d_T_table_60 (lv_at hl 4 rfl) ?_
            refine lv_iconst (v := (-1)) hx hb d_T_table_62 (by decide) ?_
            obtain ⟨J71, eJ71, hF⟩ := jn4_inv hF
            have hJ71 : ∀ (s_13 : Int32) (s_14 : Int32) (s_15 : Int32) (s_16 : Int32) (H : Heap) (locs : List Loc) (ls : Array Slot), J71 s_13 s_14 s_15 s_16 = some (kx, r, o_xst, o_xre, o_xgr, o_ltm, o_low, o_lta, o_llo, o_lhi, o_lmo, o_rta, o_ron, o_rmo, o_rin, o_res, o_rsi, o_rli, o_rar, o_xgc, o_xca, o_lco, o_rwa, o_rad) → va_P g kcl (wC cI cJ cZ ad xst xse xre xgr ltm low lta llo lhi lmo rta ron rlo rhi rmo rin res rsi rli rar xgc_9 xca_10 xls xtl xno lco rwa rad rest) H → va_D A (wC cI cJ cZ ad xst xse xre xgr ltm low lta llo lhi lmo rta ron rlo rhi rmo rin res rsi rli rar xgc_9 xca_10 xls xtl xno lco rwa rad rest) → va_S A s.heap H locs → lv_has ls 5 [(0, .ref (ad 0)), (1, .int a1)] → W p l e (R) s m args below meth c H locs 0 0 (kSel below args s A kx (kQi g (kty cI cJ cZ) (wC cI cJ cZ ad o_xst xse o_xre o_xgr o_ltm o_low o_lta o_llo o_lhi o_lmo o_rta o_ron rlo rhi o_rmo o_rin o_res o_rsi o_rli o_rar o_xgc o_xca xls xtl xno o_lco o_rwa o_rad rest) A r) (kQx g (kty cI cJ cZ) (wC cI cJ cZ ad o_xst xse o_xre o_xgr o_ltm o_low o_lta o_llo o_lhi o_lmo o_rta o_ron rlo rhi o_rmo o_rin o_res o_rsi o_rli o_rar o_xgc o_xca xls xtl xno o_lco o_rwa o_rad rest) A kx)) (F0 m 71 ls [.int s_16, .int s_15, .int s_14, .int s_13, .ref (ad 2)]) := by
              intro s_13 s_14 s_15 s_16 H locs ls hF hP hD hS hl
              rw [eJ71] at hF
              obtain ⟨rta_17, ron_18, rmo_19, rin_20, res_21, hG, hF⟩ := ob5_inv hF
              refine kcv K hP hD hS (c_R_setTable l g cI cJ cZ ad xst xse xre xgr ltm low lta llo lhi lmo rta ron rlo rhi rmo rin res rsi rli rar xgc_9 xca_10 xls xtl xno lco rwa rad rest s_13 s_14 s_15 s_16 rta_17 ron_18 rmo_19 rin_20 res_21 hG) wm_352 wm_349 wm_350 wm_351 wm_49 hd_R_setTable rfl rfl ⟨Nat.le_trans (Nat.le_of_ble_eq_true rfl) hR.1, Nat.le_trans (Nat.le_of_ble_eq_true rfl) hR.2⟩ ⟨Nat.zero_le _, Nat.zero_le _⟩ 1 2 rfl rfl rfl hl.1 (rest := []) rfl (Nat.le_of_ble_eq_true rfl) d_T_table_71 (fun H locs hP hD hS => ?_)
              refine lv_aload_n hx hb d_T_table_74 rfl (lv_at hl 0 rfl) ?_
              refine lv_iload_n hx hb d_T_table_75 rfl (lv_at hl 1 rfl) ?_
              obtain ⟨r_22, xst_23, xre_24, xgr_25, ltm_26, low_27, lta_28, llo_29, lhi_30, lmo_31, rsi_32, rli_33, rar_34, xgc_35, lco_36, rwa_37, rad_38, hG, hF⟩ := ob17_inv hF
              refine kci K hP hD hS (c_T_ask l g cI cJ cZ ad xst xse xre xgr ltm low lta llo lhi lmo rta_17 ron_18 rlo rhi rmo_19 rin_20 res_21 rsi rli rar xgc_9 xca_10 xls xtl xno lco rwa rad rest a1 r_22 xst_23 xre_24 xgr_25 ltm_26 low_27 lta_28 llo_29 lhi_30 lmo_31 rsi_32 rli_33 rar_34 xgc_35 lco_36 rwa_37 rad_38 hG) wm_356 wm_353 wm_355 wm_4 wm_46 hd_T_ask rfl rfl ⟨Nat.le_trans (Nat.le_of_ble_eq_true rfl) hR.1, Nat.le_trans (Nat.le_of_ble_eq_true rfl) hR.2⟩ ⟨Nat.zero_le _, Nat.zero_le _⟩ 2 0 rfl rfl rfl hl.1 (rest := []) rfl (Nat.le_of_ble_eq_true rfl) d_T_table_76 (fun H locs hP hD hS => ?_)
              cases hF
              exact W.mono (fun t h => Or.inl ⟨rfl, h⟩) (kri K hP hD hS d_T_table_79 rfl)
            refine lv_icmp_eq (tgt := 70) hx hb d_T_table_63 (by decide) (fun hc_39 => ?_) (fun hc_39 => ?_)
            · have hF := it_t hF hc_39
              refine lv_iconst (v := 0) hx hb d_T_table_70 (by decide) ?_
              exact hJ71 _ _ _ _ H locs ls hF hP hD hS (lv_sub hl [0, 1] rfl)
            · have hF := it_f hF hc_39
              refine lv_iconst (v := 1) hx hb d_T_table_66 (by decide) ?_
              refine lv_goto (tgt := 71) hx hb d_T_table_67 (by decide) ?_
              exact hJ71 _ _ _ _ H locs ls hF hP hD hS (lv_sub hl [0, 1] rfl)
          refine lv_icmp_ne (tgt := 48) hx hb d_T_table_36 (by decide) (fun hc_40 => ?_) (fun hc_40 => ?_)
          · have hF := it_f hF hc_40
            exact hJ48  H locs ls hF hP hD hS (lv_sub hl [1, 2, 3, 4, 0] rfl)
          · have hF := it_t hF hc_40
            refine lv_aload_n hx hb d_T_table_39 rfl (lv_at hl 1 rfl) ?_
            obtain ⟨r_41, hG, hF⟩ := ob1_inv hF
            refine kci K hP hD hS (c_T_isFull l g cI cJ cZ ad xst xse xre xgr ltm low lta llo lhi lmo rta ron rlo rhi rmo rin res rsi rli rar xgc_9 xca_10 xls xtl xno lco rwa rad rest  r_41 hG) wm_333 wm_330 wm_332 wm_3 wm_46 hd_T_isFull rfl rfl ⟨Nat.le_trans (Nat.le_of_ble_eq_true rfl) hR.1, Nat.le_trans (Nat.le_of_ble_eq_true rfl) hR.2⟩ ⟨Nat.zero_le _, Nat.zero_le _⟩ 2 0 rfl rfl rfl hl.1 (rest := []) rfl (Nat.le_of_ble_eq_true rfl) d_T_table_40 (fun H locs hP hD hS => ?_)
            refine lv_if_eq (tgt := 48) hx hb d_T_table_43 (by decide) (fun hc_42 => ?_) (fun hc_42 => ?_)
            · have hF := it_t hF hc_42
              exact hJ48  H locs ls hF hP hD hS (lv_sub hl [1, 2, 3, 4, 0] rfl)
            · have hF := it_f hF hc_42
              refine lv_iconst (v := 3) hx hb d_T_table_46 (by decide) ?_
              cases hF
              exact W.mono (fun t h => Or.inl ⟨rfl, h⟩) (kri K hP hD hS d_T_table_47 rfl)
        · replace hF := it_f hF hk_8
          cases hF
          refine kxv K hP hD hS (cx_T_checkWorks l hlt g cI cJ cZ ad xst xse xre xgr ltm low lta llo lhi lmo rta ron rlo rhi rmo rin res rsi rli rar xgc xca xls xtl xno lco rwa rad rest a1 _  hk_8 hG) wm_324 wm_321 wm_323 wm_2 wm_46 hd_T_checkWorks rfl rfl ⟨Nat.le_trans (Nat.le_of_ble_eq_true rfl) hR.1, Nat.le_trans (Nat.le_of_ble_eq_true rfl) hR.2⟩ ⟨(hRc hk_8).1, (hRc hk_8).2⟩ 2 0 rfl rfl rfl hl.1 (rest := []) rfl (Nat.le_of_ble_eq_true rfl) d_T_table_14 (fun ce q9 H locs hP hD hS hce hcv hcl => ?_)
          exact kxo K hk_8 (hnt hk_8) hP hD hS hce hcv hcl
      · replace hF := it_f hF hk_6
        cases hF
        refine kxs K hP hD hS (cx_T_checkMode l hlt g (kty cI cJ cZ) (wC cI cJ cZ ad xst xse xre xgr ltm low lta llo lhi lmo rta ron rlo rhi rmo rin res rsi rli rar xgc xca xls xtl xno lco rwa rad rest) a3 _  hk_6 hG) wm_319 wm_317 wm_318 wm_46 hd_T_checkMode rfl rfl ⟨Nat.le_trans (Nat.le_of_ble_eq_true rfl) hR.1, Nat.le_trans (Nat.le_of_ble_eq_true rfl) hR.2⟩ ⟨(hRc hk_6).1, (hRc hk_6).2⟩ hl.1 (rest := []) rfl (Nat.le_of_ble_eq_true rfl) d_T_table_9 (fun ce q9 H locs hP hD hS hce hcv hcl => ?_)
        exact kxo K hk_6 (hnt hk_6) hP hD hS hce hcv hcl
    · replace hF := it_f hF hk_4
      cases hF
      refine kxs K hP hD hS (cx_T_checkTable l hlt g (kty cI cJ cZ) (wC cI cJ cZ ad xst xse xre xgr ltm low lta llo lhi lmo rta ron rlo rhi rmo rin res rsi rli rar xgc xca xls xtl xno lco rwa rad rest) a2 _  hk_4 hG) wm_315 wm_313 wm_314 wm_46 hd_T_checkTable rfl rfl ⟨Nat.le_trans (Nat.le_of_ble_eq_true rfl) hR.1, Nat.le_trans (Nat.le_of_ble_eq_true rfl) hR.2⟩ ⟨(hRc hk_4).1, (hRc hk_4).2⟩ hl.1 (rest := []) rfl (Nat.le_of_ble_eq_true rfl) d_T_table_5 (fun ce q9 H locs hP hD hS hce hcv hcl => ?_)
      exact kxo K hk_4 (hnt hk_4) hP hD hS hce hcv hcl
  · replace hF := it_f hF hk_2
    cases hF
    refine kxs K hP hD hS (cx_T_checkOwner l hlt g (kty cI cJ cZ) (wC cI cJ cZ ad xst xse xre xgr ltm low lta llo lhi lmo rta ron rlo rhi rmo rin res rsi rli rar xgc xca xls xtl xno lco rwa rad rest) a1 _  hk_2 hG) wm_217 wm_215 wm_216 wm_46 hd_T_checkOwner rfl rfl ⟨Nat.le_trans (Nat.le_of_ble_eq_true rfl) hR.1, Nat.le_trans (Nat.le_of_ble_eq_true rfl) hR.2⟩ ⟨(hRc hk_2).1, (hRc hk_2).2⟩ hl.1 (rest := []) rfl (Nat.le_of_ble_eq_true rfl) d_T_table_1 (fun ce q9 H locs hP hD hS hce hcv hcl => ?_)
    exact kxo K hk_2 (hnt hk_2) hP hD hS hce hcv hcl
theorem c_T_table (l : Launch) (hlt : l.stackTraces = false) (g : va_G) (cI cJ cZ : ClassId) (ad : Nat → Nat) (xst : Nat → Int32) (xse : Nat → Int32) (xre : Nat → Int32) (xgr : Nat → Int32) (ltm : Nat → Int32) (low : Nat → Int32) (lta : Nat → Int32) (llo : Nat → Int64) (lhi : Nat → Int64) (lmo : Nat → Int32) (rta : Nat → Int32) (ron : Nat → Int32) (rlo : Nat → Int64) (rhi : Nat → Int64) (rmo : Nat → Int32) (rin : Nat → Int32) (res : Nat → Int32) (rsi : Nat → Int32) (rli : Nat → Int32) (rar : Nat → Int32) (xgc : Int32) (xca : Int32) (xls : Int32) (xtl : Int32) (xno : Int32) (lco : Int32) (rwa : Int32) (rad : Int32) (rest : va_W) (a1 : Int32) (a2 : Int32) (a3 : Int32) (r : Int32) (o_xst : Nat → Int32) (o_xre : Nat → Int32) (o_xgr : Nat → Int32) (o_ltm : Nat → Int32) (o_low : Nat → Int32) (o_lta : Nat → Int32) (o_llo : Nat → Int64) (o_lhi : Nat → Int64) (o_lmo : Nat → Int32) (o_rta : Nat → Int32) (o_ron : Nat → Int32) (o_rmo : Nat → Int32) (o_rin : Nat → Int32) (o_res : Nat → Int32) (o_rsi : Nat → Int32) (o_rli : Nat → Int32) (o_rar : Nat → Int32) (o_xgc : Int32) (o_xca : Int32) (o_lco : Int32) (o_rwa : Int32) (o_rad : Int32) (hF : F_T_table xst xse xre xgr ltm low lta llo lhi lmo rta ron rlo rhi rmo rin res rsi rli rar xgc xca xno lco rwa rad a1 a2 a3 = some (0, r, o_xst, o_xre, o_xgr, o_ltm, o_low, o_lta, o_llo, o_lhi, o_lmo, o_rta, o_ron, o_rmo, o_rin, o_res, o_rsi, o_rli, o_rar, o_xgc, o_xca, o_lco, o_rwa, o_rad)) : Ci l y_T_table prog_1_method_3_code 5 (some .int) ({ frames := 7, cells := 0, slots := 0, locals := 144 }) [.ref (ad 0), .int a1, .int a2, .int a3] g (kty cI cJ cZ) (wC cI cJ cZ ad xst xse xre xgr ltm low lta llo lhi lmo rta ron rlo rhi rmo rin res rsi rli rar xgc xca xls xtl xno lco rwa rad rest) (wC cI cJ cZ ad o_xst xse o_xre o_xgr o_ltm o_low o_lta o_llo o_lhi o_lmo o_rta o_ron rlo rhi o_rmo o_rin o_res o_rsi o_rli o_rar o_xgc o_xca xls xtl xno o_lco o_rwa o_rad rest) r :=
  fun sz => Ci.ofx (Q0 := fun A => kQi g (kty cI cJ cZ) (wC cI cJ cZ ad o_xst xse o_xre o_xgr o_ltm o_low o_lta o_llo o_lhi o_lmo o_rta o_ron rlo rhi o_rmo o_rin o_res o_rsi o_rli o_rar o_xgc o_xca xls xtl xno o_lco o_rwa o_rad rest) A r) (XC := fun A => kQx g (kty cI cJ cZ) (wC cI cJ cZ ad o_xst xse o_xre o_xgr o_ltm o_low o_lta o_llo o_lhi o_lmo o_rta o_ron rlo rhi o_rmo o_rin o_res o_rsi o_rli o_rar o_xgc o_xca xls xtl xno o_lco o_rwa o_rad rest) A 0) (by decide) (Nat.le_of_ble_eq_true rfl) (fun p e s m below meth c A ls K hP hD hS hl => t_T_table (R := { frames := 7, cells := 0, slots := 0, locals := 144 }) K ⟨Nat.le_of_ble_eq_true rfl, Nat.le_of_ble_eq_true rfl⟩ hlt xst xse xre xgr ltm low lta llo lhi lmo rta ron rlo rhi rmo rin res rsi rli rar xgc xca xls xtl xno lco rwa rad a1 a2 a3 0 r o_xst o_xre o_xgr o_ltm o_low o_lta o_llo o_lhi o_lmo o_rta o_ron o_rmo o_rin o_res o_rsi o_rli o_rar o_xgc o_xca o_lco o_rwa o_rad (fun h => absurd rfl h) (fun h => absurd rfl h) hF hP hD hS hl) sz
theorem cx_T_table (l : Launch) (hlt : l.stackTraces = false) (g : va_G) (cI cJ cZ : ClassId) (ad : Nat → Nat) (xst : Nat → Int32) (xse : Nat → Int32) (xre : Nat → Int32) (xgr : Nat → Int32) (ltm : Nat → Int32) (low : Nat → Int32) (lta : Nat → Int32) (llo : Nat → Int64) (lhi : Nat → Int64) (lmo : Nat → Int32) (rta : Nat → Int32) (ron : Nat → Int32) (rlo : Nat → Int64) (rhi : Nat → Int64) (rmo : Nat → Int32) (rin : Nat → Int32) (res : Nat → Int32) (rsi : Nat → Int32) (rli : Nat → Int32) (rar : Nat → Int32) (xgc : Int32) (xca : Int32) (xls : Int32) (xtl : Int32) (xno : Int32) (lco : Int32) (rwa : Int32) (rad : Int32) (rest : va_W) (a1 : Int32) (a2 : Int32) (a3 : Int32) (kx : Nat) (r : Int32) (o_xst : Nat → Int32) (o_xre : Nat → Int32) (o_xgr : Nat → Int32) (o_ltm : Nat → Int32) (o_low : Nat → Int32) (o_lta : Nat → Int32) (o_llo : Nat → Int64) (o_lhi : Nat → Int64) (o_lmo : Nat → Int32) (o_rta : Nat → Int32) (o_ron : Nat → Int32) (o_rmo : Nat → Int32) (o_rin : Nat → Int32) (o_res : Nat → Int32) (o_rsi : Nat → Int32) (o_rli : Nat → Int32) (o_rar : Nat → Int32) (o_xgc : Int32) (o_xca : Int32) (o_lco : Int32) (o_rwa : Int32) (o_rad : Int32) (hk : kx ≠ 0) (hF : F_T_table xst xse xre xgr ltm low lta llo lhi lmo rta ron rlo rhi rmo rin res rsi rli rar xgc xca xno lco rwa rad a1 a2 a3 = some (kx, r, o_xst, o_xre, o_xgr, o_ltm, o_low, o_lta, o_llo, o_lhi, o_lmo, o_rta, o_ron, o_rmo, o_rin, o_res, o_rsi, o_rli, o_rar, o_xgc, o_xca, o_lco, o_rwa, o_rad)) : Cx l y_T_table prog_1_method_3_code 5 (some .int) ({ frames := 7, cells := 1, slots := 6, locals := 144 }) [.ref (ad 0), .int a1, .int a2, .int a3] g (kty cI cJ cZ) (wC cI cJ cZ ad xst xse xre xgr ltm low lta llo lhi lmo rta ron rlo rhi rmo rin res rsi rli rar xgc xca xls xtl xno lco rwa rad rest) (wC cI cJ cZ ad o_xst xse o_xre o_xgr o_ltm o_low o_lta o_llo o_lhi o_lmo o_rta o_ron rlo rhi o_rmo o_rin o_res o_rsi o_rli o_rar o_xgc o_xca xls xtl xno o_lco o_rwa o_rad rest) kx :=
  Cx.of (Q0 := fun A => kQi g (kty cI cJ cZ) (wC cI cJ cZ ad o_xst xse o_xre o_xgr o_ltm o_low o_lta o_llo o_lhi o_lmo o_rta o_ron rlo rhi o_rmo o_rin o_res o_rsi o_rli o_rar o_xgc o_xca xls xtl xno o_lco o_rwa o_rad rest) A r) hk (by decide) (Nat.le_of_ble_eq_true rfl) (fun p e s m below meth c A ls hnt K hP hD hS hl => t_T_table (R := { frames := 7, cells := 1, slots := 6, locals := 144 }) K ⟨Nat.le_of_ble_eq_true rfl, Nat.le_of_ble_eq_true rfl⟩ hlt xst xse xre xgr ltm low lta llo lhi lmo rta ron rlo rhi rmo rin res rsi rli rar xgc xca xls xtl xno lco rwa rad a1 a2 a3 kx r o_xst o_xre o_xgr o_ltm o_low o_lta o_llo o_lhi o_lmo o_rta o_ron o_rmo o_rin o_res o_rsi o_rli o_rar o_xgc o_xca o_lco o_rwa o_rad (fun _ => ⟨Nat.le_of_ble_eq_true rfl, Nat.le_of_ble_eq_true rfl⟩) (fun _ => hnt) hF hP hD hS hl)
def F_T_range (xst : Nat → Int32) (xse : Nat → Int32) (xre : Nat → Int32) (xgr : Nat → Int32) (ltm : Nat → Int32) (low : Nat → Int32) (lta : Nat → Int32) (llo : Nat → Int64) (lhi : Nat → Int64) (lmo : Nat → Int32) (rta : Nat → Int32) (ron : Nat → Int32) (rlo : Nat → Int64) (rhi : Nat → Int64) (rmo : Nat → Int32) (rin : Nat → Int32) (res : Nat → Int32) (rsi : Nat → Int32) (rli : Nat → Int32) (rar : Nat → Int32) (xgc : Int32) (xca : Int32) (xno : Int32) (lco : Int32) (rwa : Int32) (rad : Int32) (a1 : Int32) (a2 : Int32) (a3 : Int64) (a4 : Int64) (a5 : Int32) : Option (Nat × Int32 × (Nat → Int32) × (Nat → Int32) × (Nat → Int32) × (Nat → Int32) × (Nat → Int32) × (Nat → Int32) × (Nat → Int64) × (Nat → Int64) × (Nat → Int32) × (Nat → Int32) × (Nat → Int32) × (Nat → Int64) × (Nat → Int64) × (Nat → Int32) × (Nat → Int32) × (Nat → Int32) × (Nat → Int32) × (Nat → Int32) × (Nat → Int32) × Int32 × Int32 × Int32 × Int32 × Int32) :=
  ob1 (F_T_checkOwner a1) (fun k_1 => if k_1 = 0 then ob1 (F_T_checkTable a2) (fun k_3 => if k_3 = 0 then ob1 (F_T_checkRange a3 a4 a5) (fun k_5 => if k_5 = 0 then ob1 (F_T_checkWorks xst a1) (fun k_7 => if k_7 = 0 then ob1 (F_L_heldMode ltm a1 a2) (fun r_9 => ob1 (F_K_allowsRange r_9 a5) (fun r_10 => if r_10 = 0 then some (3, 0, xst, xre, xgr, ltm, low, lta, llo, lhi, lmo, rta, ron, rlo, rhi, rmo, rin, res, rsi, rli, rar, xgc, xca, lco, rwa, rad) else ob2 (F_T_startCall xgc xca a1) (fun xgc_12 xca_13 => ob1 (F_L_coverRange ltm low lta llo lhi lmo lco a1 a2 a3 a4 a5) (fun r_14 => if r_14 = 0 then ob1 (F_L_countRanges low lta lco a1 a2) (fun r_16 => if r_16 < 8 then ob1 (F_T_isFull ltm lco rwa) (fun r_18 => if r_18 = 0 then ob1 (F_L_haveRangeRound low lta llo lhi lco a1 a2 a3 a4) (fun r_20 => ob7 (F_R_setRange rta ron rlo rhi rmo rin res a1 a2 a3 a4 a5 r_20) (fun rta_21 ron_22 rlo_23 rhi_24 rmo_25 rin_26 res_27 => ob17 (F_T_ask xst xse xre xgr ltm low lta llo lhi lmo rta_21 ron_22 rlo_23 rhi_24 rmo_25 rin_26 res_27 rsi rli rar xgc_12 xca_13 xno lco rwa rad a1) (fun r_28 xst_29 xre_30 xgr_31 ltm_32 low_33 lta_34 llo_35 lhi_36 lmo_37 rsi_38 rli_39 rar_40 xgc_41 lco_42 rwa_43 rad_44 => some (0, r_28, xst_29, xre_30, xgr_31, ltm_32, low_33, lta_34, llo_35, lhi_36, lmo_37, rta_21, ron_22, rlo_23, rhi_24, rmo_25, rin_26, res_27, rsi_38, rli_39, rar_40, xgc_41, xca_13, lco_42, rwa_43, rad_44)))) else some (0, 3, xst, xre, xgr, ltm, low, lta, llo, lhi, lmo, rta, ron, rlo, rhi, rmo, rin, res, rsi, rli, rar, xgc_12, xca_13, lco, rwa, rad)) else ob5 (F_T_setEscalation ltm low lta lmo rta ron rmo rin res lco a1 a2 a5) (fun rta_45 ron_46 rmo_47 rin_48 res_49 => ob17 (F_T_ask xst xse xre xgr ltm low lta llo lhi lmo rta_45 ron_46 rlo rhi rmo_47 rin_48 res_49 rsi rli rar xgc_12 xca_13 xno lco rwa rad a1) (fun r_50 xst_51 xre_52 xgr_53 ltm_54 low_55 lta_56 llo_57 lhi_58 lmo_59 rsi_60 rli_61 rar_62 xgc_63 lco_64 rwa_65 rad_66 => some (0, r_50, xst_51, xre_52, xgr_53, ltm_54, low_55, lta_56, llo_57, lhi_58, lmo_59, rta_45, ron_46, rlo, rhi, rmo_47, rin_48, res_49, rsi_60, rli_61, rar_62, xgc_63, xca_13, lco_64, rwa_65, rad_66)))) else some (0, 0, xst, xre, xgr, ltm, low, lta, llo, lhi, lmo, rta, ron, rlo, rhi, rmo, rin, res, rsi, rli, rar, xgc_12, xca_13, lco, rwa, rad))))) else some (k_7, 0, xst, xre, xgr, ltm, low, lta, llo, lhi, lmo, rta, ron, rlo, rhi, rmo, rin, res, rsi, rli, rar, xgc, xca, lco, rwa, rad)) else some (k_5, 0, xst, xre, xgr, ltm, low, lta, llo, lhi, lmo, rta, ron, rlo, rhi, rmo, rin, res, rsi, rli, rar, xgc, xca, lco, rwa, rad)) else some (k_3, 0, xst, xre, xgr, ltm, low, lta, llo, lhi, lmo, rta, ron, rlo, rhi, rmo, rin, res, rsi, rli, rar, xgc, xca, lco, rwa, rad)) else some (k_1, 0, xst, xre, xgr, ltm, low, lta, llo, lhi, lmo, rta, ron, rlo, rhi, rmo, rin, res, rsi, rli, rar, xgc, xca, lco, rwa, rad))
set_option maxHeartbeats 4000000 in
set_option maxRecDepth 100000 in
theorem t_T_range {p : Program} {l : Launch} {e : Env} {s : State} {m : MethodId} {args : Array Value} {below : List Frame} {meth : Method} {c : Code} {A : Nat → Prop} {g : va_G} {cI cJ cZ : ClassId} {ad : Nat → Nat} {rest : va_W} (K : kX p s m args meth c "LockTable" prog_1_method_4_code 8 (some .int) A g (kty cI cJ cZ)) {R : Room} (hR : 7 ≤ R.frames ∧ 144 ≤ R.locals) (hlt : l.stackTraces = false) (xst : Nat → Int32) (xse : Nat → Int32) (xre : Nat → Int32) (xgr : Nat → Int32) (ltm : Nat → Int32) (low : Nat → Int32) (lta : Nat → Int32) (llo : Nat → Int64) (lhi : Nat → Int64) (lmo : Nat → Int32) (rta : Nat → Int32) (ron : Nat → Int32) (rlo : Nat → Int64) (rhi : Nat → Int64) (rmo : Nat → Int32) (rin : Nat → Int32) (res : Nat → Int32) (rsi : Nat → Int32) (rli : Nat → Int32) (rar : Nat → Int32) (xgc : Int32) (xca : Int32) (xls : Int32) (xtl : Int32) (xno : Int32) (lco : Int32) (rwa : Int32) (rad : Int32) (a1 : Int32) (a2 : Int32) (a3 : Int64) (a4 : Int64) (a5 : Int32) (kx : Nat) (r : Int32) (o_xst : Nat → Int32) (o_xre : Nat → Int32) (o_xgr : Nat → Int32) (o_ltm : Nat → Int32) (o_low : Nat → Int32) (o_lta : Nat → Int32) (o_llo : Nat → Int64) (o_lhi : Nat → Int64) (o_lmo : Nat → Int32) (o_rta : Nat → Int32) (o_ron : Nat → Int32) (o_rlo : Nat → Int64) (o_rhi : Nat → Int64) (o_rmo : Nat → Int32) (o_rin : Nat → Int32) (o_res : Nat → Int32) (o_rsi : Nat → Int32) (o_rli : Nat → Int32) (o_rar : Nat → Int32) (o_xgc : Int32) (o_xca : Int32) (o_lco : Int32) (o_rwa : Int32) (o_rad : Int32) (hRc : kx ≠ 0 → 1 ≤ R.cells ∧ 6 ≤ R.slots) (hnt : kx ≠ 0 → ∀ x ∈ c.exceptionTable.toList, False) (hF : F_T_range xst xse xre xgr ltm low lta llo lhi lmo rta ron rlo rhi rmo rin res rsi rli rar xgc xca xno lco rwa rad a1 a2 a3 a4 a5 = some (kx, r, o_xst, o_xre, o_xgr, o_ltm, o_low, o_lta, o_llo, o_lhi, o_lmo, o_rta, o_ron, o_rlo, o_rhi, o_rmo, o_rin, o_res, o_rsi, o_rli, o_rar, o_xgc, o_xca, o_lco, o_rwa, o_rad)) {H : Heap} {locs : List Loc} {ls : Array Slot} (hP : va_P g kcl (wC cI cJ cZ ad xst xse xre xgr ltm low lta llo lhi lmo rta ron rlo rhi rmo rin res rsi rli rar xgc xca xls xtl xno lco rwa rad rest) H) (hD : va_D A (wC cI cJ cZ ad xst xse xre xgr ltm low lta llo lhi lmo rta ron rlo rhi rmo rin res rsi rli rar xgc xca xls xtl xno lco rwa rad rest)) (hS : va_S A s.heap H locs) (hl : lv_has ls 8 [(0, .ref (ad 0)), (1, .int a1), (2, .int a2), (3, .long a3), (5, .long a4), (7, .int a5)]) : W p l e (R) s m args below meth c H locs 0 0 (kSel below args s A kx (kQi g (kty cI cJ cZ) (wC cI cJ cZ ad o_xst xse o_xre o_xgr o_ltm o_low o_lta o_llo o_lhi o_lmo o_rta o_ron o_rlo o_rhi o_rmo o_rin o_res o_rsi o_rli o_rar o_xgc o_xca xls xtl xno o_lco o_rwa o_rad rest) A r) (kQx g (kty cI cJ cZ) (wC cI cJ cZ ad o_xst xse o_xre o_xgr o_ltm o_low o_lta o_llo o_lhi o_lmo o_rta o_ron o_rlo o_rhi o_rmo o_rin o_res o_rsi o_rli o_rar o_xgc o_xca xls xtl xno o_lco o_rwa o_rad rest) A kx)) (F0 m 0 ls []) := by
  obtain ⟨hx, hb, hr, hml, hown, hts, hlocks, hK, hA, hE⟩ := id K
  unfold F_T_range at hF
  refine lv_iload_n hx hb d_T_range_0 rfl (lv_at hl 1 rfl) ?_
  obtain ⟨k_1, hG, hF⟩ := ob1_inv hF
  by_cases hk_2 : k_1 = 0
  · replace hF := it_t hF hk_2
    subst hk_2
    refine ksv K hP hD hS (c_T_checkOwner l hlt g (kty cI cJ cZ) (wC cI cJ cZ ad xst xse xre xgr ltm low lta llo lhi lmo rta ron rlo rhi rmo rin res rsi rli rar xgc xca xls xtl xno lco rwa rad rest) a1  hG) wm_217 wm_215 wm_216 wm_46 hd_T_checkOwner rfl rfl ⟨Nat.le_trans (Nat.le_of_ble_eq_true rfl) hR.1, Nat.le_trans (Nat.le_of_ble_eq_true rfl) hR.2⟩ ⟨Nat.zero_le _, Nat.zero_le _⟩ hl.1 (rest := []) rfl (Nat.le_of_ble_eq_true rfl) d_T_range_1 (fun H locs hP hD hS => ?_)
    refine lv_iload_n hx hb d_T_range_4 rfl (lv_at hl 2 rfl) ?_
    obtain ⟨k_3, hG, hF⟩ := ob1_inv hF
    by_cases hk_4 : k_3 = 0
    · replace hF := it_t hF hk_4
      subst hk_4
      refine ksv K hP hD hS (c_T_checkTable l hlt g (kty cI cJ cZ) (wC cI cJ cZ ad xst xse xre xgr ltm low lta llo lhi lmo rta ron rlo rhi rmo rin res rsi rli rar xgc xca xls xtl xno lco rwa rad rest) a2  hG) wm_315 wm_313 wm_314 wm_46 hd_T_checkTable rfl rfl ⟨Nat.le_trans (Nat.le_of_ble_eq_true rfl) hR.1, Nat.le_trans (Nat.le_of_ble_eq_true rfl) hR.2⟩ ⟨Nat.zero_le _, Nat.zero_le _⟩ hl.1 (rest := []) rfl (Nat.le_of_ble_eq_true rfl) d_T_range_5 (fun H locs hP hD hS => ?_)
      refine lv_lload_n hx hb d_T_range_8 rfl (lv_at hl 3 rfl) ?_
      refine lv_lload hx hb d_T_range_9 (lv_at hl 4 rfl) ?_
      refine lv_iload hx hb d_T_range_11 (lv_at hl 5 rfl) ?_
      obtain ⟨k_5, hG, hF⟩ := ob1_inv hF
      by_cases hk_6 : k_5 = 0
      · replace hF := it_t hF hk_6
        subst hk_6
        refine ksv K hP hD hS (c_T_checkRange l hlt g (kty cI cJ cZ) (wC cI cJ cZ ad xst xse xre xgr ltm low lta llo lhi lmo rta ron rlo rhi rmo rin res rsi rli rar xgc xca xls xtl xno lco rwa rad rest) a3 a4 a5  hG) wm_451 wm_449 wm_450 wm_46 hd_T_checkRange rfl rfl ⟨Nat.le_trans (Nat.le_of_ble_eq_true rfl) hR.1, Nat.le_trans (Nat.le_of_ble_eq_true rfl) hR.2⟩ ⟨Nat.zero_le _, Nat.zero_le _⟩ hl.1 (rest := []) rfl (Nat.le_of_ble_eq_true rfl) d_T_range_13 (fun H locs hP hD hS => ?_)
        refine lv_aload_n hx hb d_T_range_16 rfl (lv_at hl 0 rfl) ?_
        refine lv_iload_n hx hb d_T_range_17 rfl (lv_at hl 1 rfl) ?_
        obtain ⟨k_7, hG, hF⟩ := ob1_inv hF
        by_cases hk_8 : k_7 = 0
        · replace hF := it_t hF hk_8
          subst hk_8
          refine kcv K hP hD hS (c_T_checkWorks l hlt g cI cJ cZ ad xst xse xre xgr ltm low lta llo lhi lmo rta ron rlo rhi rmo rin res rsi rli rar xgc xca xls xtl xno lco rwa rad rest a1  hG) wm_324 wm_321 wm_323 wm_2 wm_46 hd_T_checkWorks rfl rfl ⟨Nat.le_trans (Nat.le_of_ble_eq_true rfl) hR.1, Nat.le_trans (Nat.le_of_ble_eq_true rfl) hR.2⟩ ⟨Nat.zero_le _, Nat.zero_le _⟩ 2 0 rfl rfl rfl hl.1 (rest := []) rfl (Nat.le_of_ble_eq_true rfl) d_T_range_18 (fun H locs hP hD hS => ?_)
          refine lv_aload_n hx hb d_T_range_21 rfl (lv_at hl 0 rfl) ?_
          refine va_get (D := g) (ci := 2) (v := .ref (ad 1)) (C := kR2) (T := kT2) (N := 11) hx hb hts kw2 hown hK hP 0 rfl rfl 2 (by decide) (hts _ wm_158) (fun _ h9 => h9) rfl d_T_range_22 ?_
          refine lv_iload_n hx hb d_T_range_25 rfl (lv_at hl 1 rfl) ?_
          refine lv_iload_n hx hb d_T_range_26 rfl (lv_at hl 2 rfl) ?_
          obtain ⟨r_9, hG, hF⟩ := ob1_inv hF
          refine kci K hP hD hS (c_L_heldMode l g cI cJ cZ ad xst xse xre xgr ltm low lta llo lhi lmo rta ron rlo rhi rmo rin res rsi rli rar xgc xca xls xtl xno lco rwa rad rest a1 a2 r_9 hG) wm_329 wm_326 wm_327 wm_328 wm_48 hd_L_heldMode rfl rfl ⟨Nat.le_trans (Nat.le_of_ble_eq_true rfl) hR.1, Nat.le_trans (Nat.le_of_ble_eq_true rfl) hR.2⟩ ⟨Nat.zero_le _, Nat.zero_le _⟩ 0 1 rfl rfl rfl hl.1 (rest := []) rfl (Nat.le_of_ble_eq_true rfl) d_T_range_27 (fun H locs hP hD hS => ?_)
          refine lv_iload hx hb d_T_range_30 (lv_at hl 5 rfl) ?_
          obtain ⟨r_10, hG, hF⟩ := ob1_inv hF
          refine ksi K hP hD hS (c_K_allowsRange l g (kty cI cJ cZ) (wC cI cJ cZ ad xst xse xre xgr ltm low lta llo lhi lmo rta ron rlo rhi rmo rin res rsi rli rar xgc xca xls xtl xno lco rwa rad rest) r_9 a5 r_10 hG) wm_456 wm_454 wm_455 wm_56 hd_K_allowsRange rfl rfl ⟨Nat.le_trans (Nat.le_of_ble_eq_true rfl) hR.1, Nat.le_trans (Nat.le_of_ble_eq_true rfl) hR.2⟩ ⟨Nat.zero_le _, Nat.zero_le _⟩ hl.1 (rest := []) rfl (Nat.le_of_ble_eq_true rfl) d_T_range_32 (fun H locs hP hD hS => ?_)
          refine lv_if_ne (tgt := 48) hx hb d_T_range_35 (by decide) (fun hc_11 => ?_) (fun hc_11 => ?_)
          · have hF := it_f hF hc_11
            refine lv_aload_n hx hb d_T_range_48 rfl (lv_at hl 0 rfl) ?_
            refine lv_iload_n hx hb d_T_range_49 rfl (lv_at hl 1 rfl) ?_
            obtain ⟨xgc_12, xca_13, hG, hF⟩ := ob2_inv hF
            refine kcv K hP hD hS (c_T_startCall l g cI cJ cZ ad xst xse xre xgr ltm low lta llo lhi lmo rta ron rlo rhi rmo rin res rsi rli rar xgc xca xls xtl xno lco rwa rad rest a1 xgc_12 xca_13 hG) wm_305 wm_302 wm_304 wm_1 wm_46 hd_T_startCall rfl rfl ⟨Nat.le_trans (Nat.le_of_ble_eq_true rfl) hR.1, Nat.le_trans (Nat.le_of_ble_eq_true rfl) hR.2⟩ ⟨Nat.zero_le _, Nat.zero_le _⟩ 2 0 rfl rfl rfl hl.1 (rest := []) rfl (Nat.le_of_ble_eq_true rfl) d_T_range_50 (fun H locs hP hD hS => ?_)
            refine lv_aload_n hx hb d_T_range_53 rfl (lv_at hl 0 rfl) ?_
            refine va_get (D := g) (ci := 2) (v := .ref (ad 1)) (C := kR2) (T := kT2) (N := 11) hx hb hts kw2 hown hK hP 0 rfl rfl 2 (by decide) (hts _ wm_158) (fun _ h9 => h9) rfl d_T_range_54 ?_
            refine lv_iload_n hx hb d_T_range_57 rfl (lv_at hl 1 rfl) ?_
            refine lv_iload_n hx hb d_T_range_58 rfl (lv_at hl 2 rfl) ?_
            refine lv_lload_n hx hb d_T_range_59 rfl (lv_at hl 3 rfl) ?_
            refine lv_lload hx hb d_T_range_60 (lv_at hl 4 rfl) ?_
            refine lv_iload hx hb d_T_range_62 (lv_at hl 5 rfl) ?_
            obtain ⟨r_14, hG, hF⟩ := ob1_inv hF
            refine kci K hP hD hS (c_L_coverRange l g cI cJ cZ ad xst xse xre xgr ltm low lta llo lhi lmo rta ron rlo rhi rmo rin res rsi rli rar xgc_12 xca_13 xls xtl xno lco rwa rad rest a1 a2 a3 a4 a5 r_14 hG) wm_476 wm_473 wm_474 wm_475 wm_48 hd_L_coverRange rfl rfl ⟨Nat.le_trans (Nat.le_of_ble_eq_true rfl) hR.1, Nat.le_trans (Nat.le_of_ble_eq_true rfl) hR.2⟩ ⟨Nat.zero_le _, Nat.zero_le _⟩ 0 1 rfl rfl rfl hl.1 (rest := []) rfl (Nat.le_of_ble_eq_true rfl) d_T_range_64 (fun H locs hP hD hS => ?_)
            refine lv_if_eq (tgt := 72) hx hb d_T_range_67 (by decide) (fun hc_15 => ?_) (fun hc_15 => ?_)
            · have hF := it_t hF hc_15
              refine lv_aload_n hx hb d_T_range_72 rfl (lv_at hl 0 rfl) ?_
              refine va_get (D := g) (ci := 2) (v := .ref (ad 1)) (C := kR2) (T := kT2) (N := 11) hx hb hts kw2 hown hK hP 0 rfl rfl 2 (by decide) (hts _ wm_158) (fun _ h9 => h9) rfl d_T_range_73 ?_
              refine lv_iload_n hx hb d_T_range_76 rfl (lv_at hl 1 rfl) ?_
              refine lv_iload_n hx hb d_T_range_77 rfl (lv_at hl 2 rfl) ?_
              obtain ⟨r_16, hG, hF⟩ := ob1_inv hF
              refine kci K hP hD hS (c_L_countRanges l g cI cJ cZ ad xst xse xre xgr ltm low lta llo lhi lmo rta ron rlo rhi rmo rin res rsi rli rar xgc_12 xca_13 xls xtl xno lco rwa rad rest a1 a2 r_16 hG) wm_494 wm_491 wm_492 wm_493 wm_48 hd_L_countRanges rfl rfl ⟨Nat.le_trans (Nat.le_of_ble_eq_true rfl) hR.1, Nat.le_trans (Nat.le_of_ble_eq_true rfl) hR.2⟩ ⟨Nat.zero_le _, Nat.zero_le _⟩ 0 1 rfl rfl rfl hl.1 (rest := []) rfl (Nat.le_of_ble_eq_true rfl) d_T_range_78 (fun H locs hP hD hS => ?_)
              refine lv_bipush (v := 8) hx hb d_T_range_81 (by decide) ?_
              refine lv_icmp_lt (tgt := 100) hx hb d_T_range_83 (by decide) (fun hc_17 => ?_) (fun hc_17 => ?_)
              · have hF := it_t hF hc_17
                refine lv_aload_n hx hb d_T_range_100 rfl (lv_at hl 0 rfl) ?_
                obtain ⟨r_18, hG, hF⟩ := ob1_inv hF
                refine kci K hP hD hS (c_T_isFull l g cI cJ cZ ad xst xse xre xgr ltm low lta llo lhi lmo rta ron rlo rhi rmo rin res rsi rli rar xgc_12 xca_13 xls xtl xno lco rwa rad rest  r_18 hG) wm_333 wm_330 wm_332 wm_3 wm_46 hd_T_isFull rfl rfl ⟨Nat.le_trans (Nat.le_of_ble_eq_true rfl) hR.1, Nat.le_trans (Nat.le_of_ble_eq_true rfl) hR.2⟩ ⟨Nat.zero_le _, Nat.zero_le _⟩ 2 0 rfl rfl rfl hl.1 (rest := []) rfl (Nat.le_of_ble_eq_true rfl) d_T_range_101 (fun H locs hP hD hS => ?_)
                refine lv_if_eq (tgt := 109) hx hb d_T_range_104 (by decide) (fun hc_19 => ?_) (fun hc_19 => ?_)
                · have hF := it_t hF hc_19
                  refine lv_aload_n hx hb d_T_range_109 rfl (lv_at hl 0 rfl) ?_
                  refine va_get (D := g) (ci := 2) (v := .ref (ad 2)) (C := kR2) (T := kT2) (N := 11) hx hb hts kw2 hown hK hP 0 rfl rfl 3 (by decide) (hts _ wm_159) (fun _ h9 => h9) rfl d_T_range_110 ?_
                  refine lv_iload_n hx hb d_T_range_113 rfl (lv_at hl 1 rfl) ?_
                  refine lv_iload_n hx hb d_T_range_114 rfl (lv_at hl 2 rfl) ?_
                  refine lv_lload_n hx hb d_T_range_115 rfl (lv_at hl 3 rfl) ?_
                  refine lv_lload hx hb d_T_range_116 (lv_at hl 4 rfl) ?_
                  refine lv_iload hx hb d_T_range_118 (lv_at hl 5 rfl) ?_
                  refine lv_aload_n hx hb d_T_range_120 rfl (lv_at hl 0 rfl) ?_
                  refine va_get (D := g) (ci := 2) (v := .ref (ad 1)) (C := kR2) (T := kT2) (N := 11) hx hb hts kw2 hown hK hP 0 rfl rfl 2 (by decide) (hts _ wm_158) (fun _ h9 => h9) rfl d_T_range_121 ?_
                  refine lv_iload_n hx hb d_T_range_124 rfl (lv_at hl 1 rfl) ?_
                  refine lv_iload_n hx hb d_T_range_125 rfl (lv_at hl 2 rfl) ?_
                  refine lv_lload_n hx hb d_T_range_126 rfl (lv_at hl 3 rfl) ?_
                  refine lv_lload hx hb d_T_range_127 (lv_at hl 4 rfl) ?_
                  obtain ⟨r_20, hG, hF⟩ := ob1_inv hF
                  refine kci K hP hD hS (c_L_haveRangeRound l g cI cJ cZ ad xst xse xre xgr ltm low lta llo lhi lmo rta ron rlo rhi rmo rin res rsi rli rar xgc_12 xca_13 xls xtl xno lco rwa rad rest a1 a2 a3 a4 r_20 hG) wm_511 wm_508 wm_509 wm_510 wm_48 hd_L_haveRangeRound rfl rfl ⟨Nat.le_trans (Nat.le_of_ble_eq_true rfl) hR.1, Nat.le_trans (Nat.le_of_ble_eq_true rfl) hR.2⟩ ⟨Nat.zero_le _, Nat.zero_le _⟩ 0 1 rfl rfl rfl hl.1 (rest := [.int a5, .long a4, .long a3, .int a2, .int a1, .ref (ad 2)]) rfl (Nat.le_of_ble_eq_true rfl) d_T_range_129 (fun H locs hP hD hS => ?_)
                  obtain ⟨rta_21, ron_22, rlo_23, rhi_24, rmo_25, rin_26, res_27, hG, hF⟩ := ob7_inv hF
                  refine kcv K hP hD hS (c_R_setRange l g cI cJ cZ ad xst xse xre xgr ltm low lta llo lhi lmo rta ron rlo rhi rmo rin res rsi rli rar xgc_12 xca_13 xls xtl xno lco rwa rad rest a1 a2 a3 a4 a5 r_20 rta_21 ron_22 rlo_23 rhi_24 rmo_25 rin_26 res_27 hG) wm_515 wm_512 wm_513 wm_514 wm_49 hd_R_setRange rfl rfl ⟨Nat.le_trans (Nat.le_of_ble_eq_true rfl) hR.1, Nat.le_trans (Nat.le_of_ble_eq_true rfl) hR.2⟩ ⟨Nat.zero_le _, Nat.zero_le _⟩ 1 2 rfl rfl rfl hl.1 (rest := []) rfl (Nat.le_of_ble_eq_true rfl) d_T_range_132 (fun H locs hP hD hS => ?_)
                  refine lv_aload_n hx hb d_T_range_135 rfl (lv_at hl 0 rfl) ?_
                  refine lv_iload_n hx hb d_T_range_136 rfl (lv_at hl 1 rfl) ?_
                  obtain ⟨r_28, xst_29, xre_30, xgr_31, ltm_32, low_33, lta_34, llo_35, lhi_36, lmo_37, rsi_38, rli_39, rar_40, xgc_41, lco_42, rwa_43, rad_44, hG, hF⟩ := ob17_inv hF
                  refine kci K hP hD hS (c_T_ask l g cI cJ cZ ad xst xse xre xgr ltm low lta llo lhi lmo rta_21 ron_22 rlo_23 rhi_24 rmo_25 rin_26 res_27 rsi rli rar xgc_12 xca_13 xls xtl xno lco rwa rad rest a1 r_28 xst_29 xre_30 xgr_31 ltm_32 low_33 lta_34 llo_35 lhi_36 lmo_37 rsi_38 rli_39 rar_40 xgc_41 lco_42 rwa_43 rad_44 hG) wm_356 wm_353 wm_355 wm_4 wm_46 hd_T_ask rfl rfl ⟨Nat.le_trans (Nat.le_of_ble_eq_true rfl) hR.1, Nat.le_trans (Nat.le_of_ble_eq_true rfl) hR.2⟩ ⟨Nat.zero_le _, Nat.zero_le _⟩ 2 0 rfl rfl rfl hl.1 (rest := []) rfl (Nat.le_of_ble_eq_true rfl) d_T_range_137 (fun H locs hP hD hS => ?_)
                  cases hF
                  exact W.mono (fun t h => Or.inl ⟨rfl, h⟩) (kri K hP hD hS d_T_range_140 rfl)
                · have hF := it_f hF hc_19
                  refine lv_iconst (v := 3) hx hb d_T_range_107 (by decide) ?_
                  cases hF
                  exact W.mono (fun t h => Or.inl ⟨rfl, h⟩) (kri K hP hD hS d_T_range_108 rfl)
              · have hF := it_f hF hc_17
                refine lv_aload_n hx hb d_T_range_86 rfl (lv_at hl 0 rfl) ?_
                refine lv_iload_n hx hb d_T_range_87 rfl (lv_at hl 1 rfl) ?_
                refine lv_iload_n hx hb d_T_range_88 rfl (lv_at hl 2 rfl) ?_
                refine lv_iload hx hb d_T_range_89 (lv_at hl 5 rfl) ?_
                obtain ⟨rta_45, ron_46, rmo_47, rin_48, res_49, hG, hF⟩ := ob5_inv hF
                refine kcv K hP hD hS (c_T_setEscalation l g cI cJ cZ ad xst xse xre xgr ltm low lta llo lhi lmo rta ron rlo rhi rmo rin res rsi rli rar xgc_12 xca_13 xls xtl xno lco rwa rad rest a1 a2 a5 rta_45 ron_46 rmo_47 rin_48 res_49 hG) wm_498 wm_495 wm_497 wm_17 wm_46 hd_T_setEscalation rfl rfl ⟨Nat.le_trans (Nat.le_of_ble_eq_true rfl) hR.1, Nat.le_trans (Nat.le_of_ble_eq_true rfl) hR.2⟩ ⟨Nat.zero_le _, Nat.zero_le _⟩ 2 0 rfl rfl rfl hl.1 (rest := []) rfl (Nat.le_of_ble_eq_true rfl) d_T_range_91 (fun H locs hP hD hS => ?_)
                refine lv_aload_n hx hb d_T_range_94 rfl (lv_at hl 0 rfl) ?_
                refine lv_iload_n hx hb d_T_range_95 rfl (lv_at hl 1 rfl) ?_
                obtain ⟨r_50, xst_51, xre_52, xgr_53, ltm_54, low_55, lta_56, llo_57, lhi_58, lmo_59, rsi_60, rli_61, rar_62, xgc_63, lco_64, rwa_65, rad_66, hG, hF⟩ := ob17_inv hF
                refine kci K hP hD hS (c_T_ask l g cI cJ cZ ad xst xse xre xgr ltm low lta llo lhi lmo rta_45 ron_46 rlo rhi rmo_47 rin_48 res_49 rsi rli rar xgc_12 xca_13 xls xtl xno lco rwa rad rest a1 r_50 xst_51 xre_52 xgr_53 ltm_54 low_55 lta_56 llo_57 lhi_58 lmo_59 rsi_60 rli_61 rar_62 xgc_63 lco_64 rwa_65 rad_66 hG) wm_356 wm_353 wm_355 wm_4 wm_46 hd_T_ask rfl rfl ⟨Nat.le_trans (Nat.le_of_ble_eq_true rfl) hR.1, Nat.le_trans (Nat.le_of_ble_eq_true rfl) hR.2⟩ ⟨Nat.zero_le _, Nat.zero_le _⟩ 2 0 rfl rfl rfl hl.1 (rest := []) rfl (Nat.le_of_ble_eq_true rfl) d_T_range_96 (fun H locs hP hD hS => ?_)
                cases hF
                exact W.mono (fun t h => Or.inl ⟨rfl, h⟩) (kri K hP hD hS d_T_range_99 rfl)
            · have hF := it_f hF hc_15
              refine lv_iconst (v := 0) hx hb d_T_range_70 (by decide) ?_
              cases hF
              exact W.mono (fun t h => Or.inl ⟨rfl, h⟩) (kri K hP hD hS d_T_range_71 rfl)
          · have hF := it_t hF hc_11
            cases hF
            exact kth (kx := 3) K hlt (hnt (by decide)) hP hD hS (cls := "java/lang/UnsupportedOperationException") (text := "the table is not held as the range needs it") rfl (by decide) (by decide) wm_457 wm_58 (by decide) at_105 hl.1 d_T_range_38 d_T_range_41 d_T_range_42 d_T_range_44 d_T_range_47 (Nat.le_trans (Nat.le_of_ble_eq_true rfl) hR.1) (Nat.le_trans (Nat.le_of_ble_eq_true rfl) hR.2) (Nat.le_of_ble_eq_true rfl) (hRc (by decide)).1 (hRc (by decide)).2
        · replace hF := it_f hF hk_8
          cases hF
          refine kxv K hP hD hS (cx_T_checkWorks l hlt g cI cJ cZ ad xst xse xre xgr ltm low lta llo lhi lmo rta ron rlo rhi rmo rin res rsi rli rar xgc xca xls xtl xno lco rwa rad rest a1 _  hk_8 hG) wm_324 wm_321 wm_323 wm_2 wm_46 hd_T_checkWorks rfl rfl ⟨Nat.le_trans (Nat.le_of_ble_eq_true rfl) hR.1, Nat.le_trans (Nat.le_of_ble_eq_true rfl) hR.2⟩ ⟨(hRc hk_8).1, (hRc hk_8).2⟩ 2 0 rfl rfl rfl hl.1 (rest := []) rfl (Nat.le_of_ble_eq_true rfl) d_T_range_18 (fun ce q9 H locs hP hD hS hce hcv hcl => ?_)
          exact kxo K hk_8 (hnt hk_8) hP hD hS hce hcv hcl
      · replace hF := it_f hF hk_6
        cases hF
        refine kxs K hP hD hS (cx_T_checkRange l hlt g (kty cI cJ cZ) (wC cI cJ cZ ad xst xse xre xgr ltm low lta llo lhi lmo rta ron rlo rhi rmo rin res rsi rli rar xgc xca xls xtl xno lco rwa rad rest) a3 a4 a5 _  hk_6 hG) wm_451 wm_449 wm_450 wm_46 hd_T_checkRange rfl rfl ⟨Nat.le_trans (Nat.le_of_ble_eq_true rfl) hR.1, Nat.le_trans (Nat.le_of_ble_eq_true rfl) hR.2⟩ ⟨(hRc hk_6).1, (hRc hk_6).2⟩ hl.1 (rest := []) rfl (Nat.le_of_ble_eq_true rfl) d_T_range_13 (fun ce q9 H locs hP hD hS hce hcv hcl => ?_)
        exact kxo K hk_6 (hnt hk_6) hP hD hS hce hcv hcl
    · replace hF := it_f hF hk_4
      cases hF
      refine kxs K hP hD hS (cx_T_checkTable l hlt g (kty cI cJ cZ) (wC cI cJ cZ ad xst xse xre xgr ltm low lta llo lhi lmo rta ron rlo rhi rmo rin res rsi rli rar xgc xca xls xtl xno lco rwa rad rest) a2 _  hk_4 hG) wm_315 wm_313 wm_314 wm_46 hd_T_checkTable rfl rfl ⟨Nat.le_trans (Nat.le_of_ble_eq_true rfl) hR.1, Nat.le_trans (Nat.le_of_ble_eq_true rfl) hR.2⟩ ⟨(hRc hk_4).1, (hRc hk_4).2⟩ hl.1 (rest := []) rfl (Nat.le_of_ble_eq_true rfl) d_T_range_5 (fun ce q9 H locs hP hD hS hce hcv hcl => ?_)
      exact kxo K hk_4 (hnt hk_4) hP hD hS hce hcv hcl
  · replace hF := it_f hF hk_2
    cases hF
    refine kxs K hP hD hS (cx_T_checkOwner l hlt g (kty cI cJ cZ) (wC cI cJ cZ ad xst xse xre xgr ltm low lta llo lhi lmo rta ron rlo rhi rmo rin res rsi rli rar xgc xca xls xtl xno lco rwa rad rest) a1 _  hk_2 hG) wm_217 wm_215 wm_216 wm_46 hd_T_checkOwner rfl rfl ⟨Nat.le_trans (Nat.le_of_ble_eq_true rfl) hR.1, Nat.le_trans (Nat.le_of_ble_eq_true rfl) hR.2⟩ ⟨(hRc hk_2).1, (hRc hk_2).2⟩ hl.1 (rest := []) rfl (Nat.le_of_ble_eq_true rfl) d_T_range_1 (fun ce q9 H locs hP hD hS hce hcv hcl => ?_)
    exact kxo K hk_2 (hnt hk_2) hP hD hS hce hcv hcl
theorem c_T_range (l : Launch) (hlt : l.stackTraces = false) (g : va_G) (cI cJ cZ : ClassId) (ad : Nat → Nat) (xst : Nat → Int32) (xse : Nat → Int32) (xre : Nat → Int32) (xgr : Nat → Int32) (ltm : Nat → Int32) (low : Nat → Int32) (lta : Nat → Int32) (llo : Nat → Int64) (lhi : Nat → Int64) (lmo : Nat → Int32) (rta : Nat → Int32) (ron : Nat → Int32) (rlo : Nat → Int64) (rhi : Nat → Int64) (rmo : Nat → Int32) (rin : Nat → Int32) (res : Nat → Int32) (rsi : Nat → Int32) (rli : Nat → Int32) (rar : Nat → Int32) (xgc : Int32) (xca : Int32) (xls : Int32) (xtl : Int32) (xno : Int32) (lco : Int32) (rwa : Int32) (rad : Int32) (rest : va_W) (a1 : Int32) (a2 : Int32) (a3 : Int64) (a4 : Int64) (a5 : Int32) (r : Int32) (o_xst : Nat → Int32) (o_xre : Nat → Int32) (o_xgr : Nat → Int32) (o_ltm : Nat → Int32) (o_low : Nat → Int32) (o_lta : Nat → Int32) (o_llo : Nat → Int64) (o_lhi : Nat → Int64) (o_lmo : Nat → Int32) (o_rta : Nat → Int32) (o_ron : Nat → Int32) (o_rlo : Nat → Int64) (o_rhi : Nat → Int64) (o_rmo : Nat → Int32) (o_rin : Nat → Int32) (o_res : Nat → Int32) (o_rsi : Nat → Int32) (o_rli : Nat → Int32) (o_rar : Nat → Int32) (o_xgc : Int32) (o_xca : Int32) (o_lco : Int32) (o_rwa : Int32) (o_rad : Int32) (hF : F_T_range xst xse xre xgr ltm low lta llo lhi lmo rta ron rlo rhi rmo rin res rsi rli rar xgc xca xno lco rwa rad a1 a2 a3 a4 a5 = some (0, r, o_xst, o_xre, o_xgr, o_ltm, o_low, o_lta, o_llo, o_lhi, o_lmo, o_rta, o_ron, o_rlo, o_rhi, o_rmo, o_rin, o_res, o_rsi, o_rli, o_rar, o_xgc, o_xca, o_lco, o_rwa, o_rad)) : Ci l y_T_range prog_1_method_4_code 8 (some .int) ({ frames := 7, cells := 0, slots := 0, locals := 144 }) [.ref (ad 0), .int a1, .int a2, .long a3, .long a4, .int a5] g (kty cI cJ cZ) (wC cI cJ cZ ad xst xse xre xgr ltm low lta llo lhi lmo rta ron rlo rhi rmo rin res rsi rli rar xgc xca xls xtl xno lco rwa rad rest) (wC cI cJ cZ ad o_xst xse o_xre o_xgr o_ltm o_low o_lta o_llo o_lhi o_lmo o_rta o_ron o_rlo o_rhi o_rmo o_rin o_res o_rsi o_rli o_rar o_xgc o_xca xls xtl xno o_lco o_rwa o_rad rest) r :=
  fun sz => Ci.ofx (Q0 := fun A => kQi g (kty cI cJ cZ) (wC cI cJ cZ ad o_xst xse o_xre o_xgr o_ltm o_low o_lta o_llo o_lhi o_lmo o_rta o_ron o_rlo o_rhi o_rmo o_rin o_res o_rsi o_rli o_rar o_xgc o_xca xls xtl xno o_lco o_rwa o_rad rest) A r) (XC := fun A => kQx g (kty cI cJ cZ) (wC cI cJ cZ ad o_xst xse o_xre o_xgr o_ltm o_low o_lta o_llo o_lhi o_lmo o_rta o_ron o_rlo o_rhi o_rmo o_rin o_res o_rsi o_rli o_rar o_xgc o_xca xls xtl xno o_lco o_rwa o_rad rest) A 0) (by decide) (Nat.le_of_ble_eq_true rfl) (fun p e s m below meth c A ls K hP hD hS hl => t_T_range (R := { frames := 7, cells := 0, slots := 0, locals := 144 }) K ⟨Nat.le_of_ble_eq_true rfl, Nat.le_of_ble_eq_true rfl⟩ hlt xst xse xre xgr ltm low lta llo lhi lmo rta ron rlo rhi rmo rin res rsi rli rar xgc xca xls xtl xno lco rwa rad a1 a2 a3 a4 a5 0 r o_xst o_xre o_xgr o_ltm o_low o_lta o_llo o_lhi o_lmo o_rta o_ron o_rlo o_rhi o_rmo o_rin o_res o_rsi o_rli o_rar o_xgc o_xca o_lco o_rwa o_rad (fun h => absurd rfl h) (fun h => absurd rfl h) hF hP hD hS hl) sz
theorem cx_T_range (l : Launch) (hlt : l.stackTraces = false) (g : va_G) (cI cJ cZ : ClassId) (ad : Nat → Nat) (xst : Nat → Int32) (xse : Nat → Int32) (xre : Nat → Int32) (xgr : Nat → Int32) (ltm : Nat → Int32) (low : Nat → Int32) (lta : Nat → Int32) (llo : Nat → Int64) (lhi : Nat → Int64) (lmo : Nat → Int32) (rta : Nat → Int32) (ron : Nat → Int32) (rlo : Nat → Int64) (rhi : Nat → Int64) (rmo : Nat → Int32) (rin : Nat → Int32) (res : Nat → Int32) (rsi : Nat → Int32) (rli : Nat → Int32) (rar : Nat → Int32) (xgc : Int32) (xca : Int32) (xls : Int32) (xtl : Int32) (xno : Int32) (lco : Int32) (rwa : Int32) (rad : Int32) (rest : va_W) (a1 : Int32) (a2 : Int32) (a3 : Int64) (a4 : Int64) (a5 : Int32) (kx : Nat) (r : Int32) (o_xst : Nat → Int32) (o_xre : Nat → Int32) (o_xgr : Nat → Int32) (o_ltm : Nat → Int32) (o_low : Nat → Int32) (o_lta : Nat → Int32) (o_llo : Nat → Int64) (o_lhi : Nat → Int64) (o_lmo : Nat → Int32) (o_rta : Nat → Int32) (o_ron : Nat → Int32) (o_rlo : Nat → Int64) (o_rhi : Nat → Int64) (o_rmo : Nat → Int32) (o_rin : Nat → Int32) (o_res : Nat → Int32) (o_rsi : Nat → Int32) (o_rli : Nat → Int32) (o_rar : Nat → Int32) (o_xgc : Int32) (o_xca : Int32) (o_lco : Int32) (o_rwa : Int32) (o_rad : Int32) (hk : kx ≠ 0) (hF : F_T_range xst xse xre xgr ltm low lta llo lhi lmo rta ron rlo rhi rmo rin res rsi rli rar xgc xca xno lco rwa rad a1 a2 a3 a4 a5 = some (kx, r, o_xst, o_xre, o_xgr, o_ltm, o_low, o_lta, o_llo, o_lhi, o_lmo, o_rta, o_ron, o_rlo, o_rhi, o_rmo, o_rin, o_res, o_rsi, o_rli, o_rar, o_xgc, o_xca, o_lco, o_rwa, o_rad)) : Cx l y_T_range prog_1_method_4_code 8 (some .int) ({ frames := 7, cells := 1, slots := 6, locals := 144 }) [.ref (ad 0), .int a1, .int a2, .long a3, .long a4, .int a5] g (kty cI cJ cZ) (wC cI cJ cZ ad xst xse xre xgr ltm low lta llo lhi lmo rta ron rlo rhi rmo rin res rsi rli rar xgc xca xls xtl xno lco rwa rad rest) (wC cI cJ cZ ad o_xst xse o_xre o_xgr o_ltm o_low o_lta o_llo o_lhi o_lmo o_rta o_ron o_rlo o_rhi o_rmo o_rin o_res o_rsi o_rli o_rar o_xgc o_xca xls xtl xno o_lco o_rwa o_rad rest) kx :=
  Cx.of (Q0 := fun A => kQi g (kty cI cJ cZ) (wC cI cJ cZ ad o_xst xse o_xre o_xgr o_ltm o_low o_lta o_llo o_lhi o_lmo o_rta o_ron o_rlo o_rhi o_rmo o_rin o_res o_rsi o_rli o_rar o_xgc o_xca xls xtl xno o_lco o_rwa o_rad rest) A r) hk (by decide) (Nat.le_of_ble_eq_true rfl) (fun p e s m below meth c A ls hnt K hP hD hS hl => t_T_range (R := { frames := 7, cells := 1, slots := 6, locals := 144 }) K ⟨Nat.le_of_ble_eq_true rfl, Nat.le_of_ble_eq_true rfl⟩ hlt xst xse xre xgr ltm low lta llo lhi lmo rta ron rlo rhi rmo rin res rsi rli rar xgc xca xls xtl xno lco rwa rad a1 a2 a3 a4 a5 kx r o_xst o_xre o_xgr o_ltm o_low o_lta o_llo o_lhi o_lmo o_rta o_ron o_rlo o_rhi o_rmo o_rin o_res o_rsi o_rli o_rar o_xgc o_xca o_lco o_rwa o_rad (fun _ => ⟨Nat.le_of_ble_eq_true rfl, Nat.le_of_ble_eq_true rfl⟩) (fun _ => hnt) hF hP hD hS hl)
def F_T_escalate (xst : Nat → Int32) (xse : Nat → Int32) (xre : Nat → Int32) (xgr : Nat → Int32) (ltm : Nat → Int32) (low : Nat → Int32) (lta : Nat → Int32) (llo : Nat → Int64) (lhi : Nat → Int64) (lmo : Nat → Int32) (rta : Nat → Int32) (ron : Nat → Int32) (rlo : Nat → Int64) (rhi : Nat → Int64) (rmo : Nat → Int32) (rin : Nat → Int32) (res : Nat → Int32) (rsi : Nat → Int32) (rli : Nat → Int32) (rar : Nat → Int32) (xgc : Int32) (xca : Int32) (xno : Int32) (lco : Int32) (rwa : Int32) (rad : Int32) (a1 : Int32) (a2 : Int32) : Option (Nat × Int32 × (Nat → Int32) × (Nat → Int32) × (Nat → Int32) × (Nat → Int32) × (Nat → Int32) × (Nat → Int32) × (Nat → Int64) × (Nat → Int64) × (Nat → Int32) × (Nat → Int32) × (Nat → Int32) × (Nat → Int32) × (Nat → Int32) × (Nat → Int32) × (Nat → Int32) × (Nat → Int32) × (Nat → Int32) × Int32 × Int32 × Int32 × Int32 × Int32) :=
  ob1 (F_T_checkOwner a1) (fun k_1 => if k_1 = 0 then ob1 (F_T_checkTable a2) (fun k_3 => if k_3 = 0 then ob1 (F_T_checkWorks xst a1) (fun k_5 => if k_5 = 0 then ob1 (F_L_countRanges low lta lco a1 a2) (fun r_7 => if r_7 = 0 then some (3, 0, xst, xre, xgr, ltm, low, lta, llo, lhi, lmo, rta, ron, rmo, rin, res, rsi, rli, rar, xgc, xca, lco, rwa, rad) else ob2 (F_T_startCall xgc xca a1) (fun xgc_9 xca_10 => ob5 (F_T_setEscalation ltm low lta lmo rta ron rmo rin res lco a1 a2 2) (fun rta_11 ron_12 rmo_13 rin_14 res_15 => ob17 (F_T_ask xst xse xre xgr ltm low lta llo lhi lmo rta_11 ron_12 rlo rhi rmo_13 rin_14 res_15 rsi rli rar xgc_9 xca_10 xno lco rwa rad a1) (fun r_16 xst_17 xre_18 xgr_19 ltm_20 low_21 lta_22 llo_23 lhi_24 lmo_25 rsi_26 rli_27 rar_28 xgc_29 lco_30 rwa_31 rad_32 => some (0, r_16, xst_17, xre_18, xgr_19, ltm_20, low_21, lta_22, llo_23, lhi_24, lmo_25, rta_11, ron_12, rmo_13, rin_14, res_15, rsi_26, rli_27, rar_28, xgc_29, xca_10, lco_30, rwa_31, rad_32))))) else some (k_5, 0, xst, xre, xgr, ltm, low, lta, llo, lhi, lmo, rta, ron, rmo, rin, res, rsi, rli, rar, xgc, xca, lco, rwa, rad)) else some (k_3, 0, xst, xre, xgr, ltm, low, lta, llo, lhi, lmo, rta, ron, rmo, rin, res, rsi, rli, rar, xgc, xca, lco, rwa, rad)) else some (k_1, 0, xst, xre, xgr, ltm, low, lta, llo, lhi, lmo, rta, ron, rmo, rin, res, rsi, rli, rar, xgc, xca, lco, rwa, rad))
set_option maxHeartbeats 4000000 in
set_option maxRecDepth 100000 in
theorem t_T_escalate {p : Program} {l : Launch} {e : Env} {s : State} {m : MethodId} {args : Array Value} {below : List Frame} {meth : Method} {c : Code} {A : Nat → Prop} {g : va_G} {cI cJ cZ : ClassId} {ad : Nat → Nat} {rest : va_W} (K : kX p s m args meth c "LockTable" prog_1_method_5_code 3 (some .int) A g (kty cI cJ cZ)) {R : Room} (hR : 7 ≤ R.frames ∧ 144 ≤ R.locals) (hlt : l.stackTraces = false) (xst : Nat → Int32) (xse : Nat → Int32) (xre : Nat → Int32) (xgr : Nat → Int32) (ltm : Nat → Int32) (low : Nat → Int32) (lta : Nat → Int32) (llo : Nat → Int64) (lhi : Nat → Int64) (lmo : Nat → Int32) (rta : Nat → Int32) (ron : Nat → Int32) (rlo : Nat → Int64) (rhi : Nat → Int64) (rmo : Nat → Int32) (rin : Nat → Int32) (res : Nat → Int32) (rsi : Nat → Int32) (rli : Nat → Int32) (rar : Nat → Int32) (xgc : Int32) (xca : Int32) (xls : Int32) (xtl : Int32) (xno : Int32) (lco : Int32) (rwa : Int32) (rad : Int32) (a1 : Int32) (a2 : Int32) (kx : Nat) (r : Int32) (o_xst : Nat → Int32) (o_xre : Nat → Int32) (o_xgr : Nat → Int32) (o_ltm : Nat → Int32) (o_low : Nat → Int32) (o_lta : Nat → Int32) (o_llo : Nat → Int64) (o_lhi : Nat → Int64) (o_lmo : Nat → Int32) (o_rta : Nat → Int32) (o_ron : Nat → Int32) (o_rmo : Nat → Int32) (o_rin : Nat → Int32) (o_res : Nat → Int32) (o_rsi : Nat → Int32) (o_rli : Nat → Int32) (o_rar : Nat → Int32) (o_xgc : Int32) (o_xca : Int32) (o_lco : Int32) (o_rwa : Int32) (o_rad : Int32) (hRc : kx ≠ 0 → 1 ≤ R.cells ∧ 6 ≤ R.slots) (hnt : kx ≠ 0 → ∀ x ∈ c.exceptionTable.toList, False) (hF : F_T_escalate xst xse xre xgr ltm low lta llo lhi lmo rta ron rlo rhi rmo rin res rsi rli rar xgc xca xno lco rwa rad a1 a2 = some (kx, r, o_xst, o_xre, o_xgr, o_ltm, o_low, o_lta, o_llo, o_lhi, o_lmo, o_rta, o_ron, o_rmo, o_rin, o_res, o_rsi, o_rli, o_rar, o_xgc, o_xca, o_lco, o_rwa, o_rad)) {H : Heap} {locs : List Loc} {ls : Array Slot} (hP : va_P g kcl (wC cI cJ cZ ad xst xse xre xgr ltm low lta llo lhi lmo rta ron rlo rhi rmo rin res rsi rli rar xgc xca xls xtl xno lco rwa rad rest) H) (hD : va_D A (wC cI cJ cZ ad xst xse xre xgr ltm low lta llo lhi lmo rta ron rlo rhi rmo rin res rsi rli rar xgc xca xls xtl xno lco rwa rad rest)) (hS : va_S A s.heap H locs) (hl : lv_has ls 3 [(0, .ref (ad 0)), (1, .int a1), (2, .int a2)]) : W p l e (R) s m args below meth c H locs 0 0 (kSel below args s A kx (kQi g (kty cI cJ cZ) (wC cI cJ cZ ad o_xst xse o_xre o_xgr o_ltm o_low o_lta o_llo o_lhi o_lmo o_rta o_ron rlo rhi o_rmo o_rin o_res o_rsi o_rli o_rar o_xgc o_xca xls xtl xno o_lco o_rwa o_rad rest) A r) (kQx g (kty cI cJ cZ) (wC cI cJ cZ ad o_xst xse o_xre o_xgr o_ltm o_low o_lta o_llo o_lhi o_lmo o_rta o_ron rlo rhi o_rmo o_rin o_res o_rsi o_rli o_rar o_xgc o_xca xls xtl xno o_lco o_rwa o_rad rest) A kx)) (F0 m 0 ls []) := by
  obtain ⟨hx, hb, hr, hml, hown, hts, hlocks, hK, hA, hE⟩ := id K
  unfold F_T_escalate at hF
  refine lv_iload_n hx hb d_T_escalate_0 rfl (lv_at hl 1 rfl) ?_
  obtain ⟨k_1, hG, hF⟩ := ob1_inv hF
  by_cases hk_2 : k_1 = 0
  · replace hF := it_t hF hk_2
    subst hk_2
    refine ksv K hP hD hS (c_T_checkOwner l hlt g (kty cI cJ cZ) (wC cI cJ cZ ad xst xse xre xgr ltm low lta llo lhi lmo rta ron rlo rhi rmo rin res rsi rli rar xgc xca xls xtl xno lco rwa rad rest) a1  hG) wm_217 wm_215 wm_216 wm_46 hd_T_checkOwner rfl rfl ⟨Nat.le_trans (Nat.le_of_ble_eq_true rfl) hR.1, Nat.le_trans (Nat.le_of_ble_eq_true rfl) hR.2⟩ ⟨Nat.zero_le _, Nat.zero_le _⟩ hl.1 (rest := []) rfl (Nat.le_of_ble_eq_true rfl) d_T_escalate_1 (fun H locs hP hD hS => ?_)
    refine lv_iload_n hx hb d_T_escalate_4 rfl (lv_at hl 2 rfl) ?_
    obtain ⟨k_3, hG, hF⟩ := ob1_inv hF
    by_cases hk_4 : k_3 = 0
    · replace hF := it_t hF hk_4
      subst hk_4
      refine ksv K hP hD hS (c_T_checkTable l hlt g (kty cI cJ cZ) (wC cI cJ cZ ad xst xse xre xgr ltm low lta llo lhi lmo rta ron rlo rhi rmo rin res rsi rli rar xgc xca xls xtl xno lco rwa rad rest) a2  hG) wm_315 wm_313 wm_314 wm_46 hd_T_checkTable rfl rfl ⟨Nat.le_trans (Nat.le_of_ble_eq_true rfl) hR.1, Nat.le_trans (Nat.le_of_ble_eq_true rfl) hR.2⟩ ⟨Nat.zero_le _, Nat.zero_le _⟩ hl.1 (rest := []) rfl (Nat.le_of_ble_eq_true rfl) d_T_escalate_5 (fun H locs hP hD hS => ?_)
      refine lv_aload_n hx hb d_T_escalate_8 rfl (lv_at hl 0 rfl) ?_
      refine lv_iload_n hx hb d_T_escalate_9 rfl (lv_at hl 1 rfl) ?_
      obtain ⟨k_5, hG, hF⟩ := ob1_inv hF
      by_cases hk_6 : k_5 = 0
      · replace hF := it_t hF hk_6
        subst hk_6
        refine kcv K hP hD hS (c_T_checkWorks l hlt g cI cJ cZ ad xst xse xre xgr ltm low lta llo lhi lmo rta ron rlo rhi rmo rin res rsi rli rar xgc xca xls xtl xno lco rwa rad rest a1  hG) wm_324 wm_321 wm_323 wm_2 wm_46 hd_T_checkWorks rfl rfl ⟨Nat.le_trans (Nat.le_of_ble_eq_true rfl) hR.1, Nat.le_trans (Nat.le_of_ble_eq_true rfl) hR.2⟩ ⟨Nat.zero_le _, Nat.zero_le _⟩ 2 0 rfl rfl rfl hl.1 (rest := []) rfl (Nat.le_of_ble_eq_true rfl) d_T_escalate_10 (fun H locs hP hD hS => ?_)
        refine lv_aload_n hx hb d_T_escalate_13 rfl (lv_at hl 0 rfl) ?_
        refine va_get (D := g) (ci := 2) (v := .ref (ad 1)) (C := kR2) (T := kT2) (N := 11) hx hb hts kw2 hown hK hP 0 rfl rfl 2 (by decide) (hts _ wm_158) (fun _ h9 => h9) rfl d_T_escalate_14 ?_
        refine lv_iload_n hx hb d_T_escalate_17 rfl (lv_at hl 1 rfl) ?_
        refine lv_iload_n hx hb d_T_escalate_18 rfl (lv_at hl 2 rfl) ?_
        obtain ⟨r_7, hG, hF⟩ := ob1_inv hF
        refine kci K hP hD hS (c_L_countRanges l g cI cJ cZ ad xst xse xre xgr ltm low lta llo lhi lmo rta ron rlo rhi rmo rin res rsi rli rar xgc xca xls xtl xno lco rwa rad rest a1 a2 r_7 hG) wm_494 wm_491 wm_492 wm_493 wm_48 hd_L_countRanges rfl rfl ⟨Nat.le_trans (Nat.le_of_ble_eq_true rfl) hR.1, Nat.le_trans (Nat.le_of_ble_eq_true rfl) hR.2⟩ ⟨Nat.zero_le _, Nat.zero_le _⟩ 0 1 rfl rfl rfl hl.1 (rest := []) rfl (Nat.le_of_ble_eq_true rfl) d_T_escalate_19 (fun H locs hP hD hS => ?_)
        refine lv_if_ne (tgt := 35) hx hb d_T_escalate_22 (by decide) (fun hc_8 => ?_) (fun hc_8 => ?_)
        · have hF := it_f hF hc_8
          refine lv_aload_n hx hb d_T_escalate_35 rfl (lv_at hl 0 rfl) ?_
          refine lv_iload_n hx hb d_T_escalate_36 rfl (lv_at hl 1 rfl) ?_
          obtain ⟨xgc_9, xca_10, hG, hF⟩ := ob2_inv hF
          refine kcv K hP hD hS (c_T_startCall l g cI cJ cZ ad xst xse xre xgr ltm low lta llo lhi lmo rta ron rlo rhi rmo rin res rsi rli rar xgc xca xls xtl xno lco rwa rad rest a1 xgc_9 xca_10 hG) wm_305 wm_302 wm_304 wm_1 wm_46 hd_T_startCall rfl rfl ⟨Nat.le_trans (Nat.le_of_ble_eq_true rfl) hR.1, Nat.le_trans (Nat.le_of_ble_eq_true rfl) hR.2⟩ ⟨Nat.zero_le _, Nat.zero_le _⟩ 2 0 rfl rfl rfl hl.1 (rest := []) rfl (Nat.le_of_ble_eq_true rfl) d_T_escalate_37 (fun H locs hP hD hS => ?_)
          refine lv_aload_n hx hb d_T_escalate_40 rfl (lv_at hl 0 rfl) ?_
          refine lv_iload_n hx hb d_T_escalate_41 rfl (lv_at hl 1 rfl) ?_
          refine lv_iload_n hx hb d_T_escalate_42 rfl (lv_at hl 2 rfl) ?_
          refine lv_iconst (v := 2) hx hb d_T_escalate_43 (by decide) ?_
          obtain ⟨rta_11, ron_12, rmo_13, rin_14, res_15, hG, hF⟩ := ob5_inv hF
          refine kcv K hP hD hS (c_T_setEscalation l g cI cJ cZ ad xst xse xre xgr ltm low lta llo lhi lmo rta ron rlo rhi rmo rin res rsi rli rar xgc_9 xca_10 xls xtl xno lco rwa rad rest a1 a2 2 rta_11 ron_12 rmo_13 rin_14 res_15 hG) wm_498 wm_495 wm_497 wm_17 wm_46 hd_T_setEscalation rfl rfl ⟨Nat.le_trans (Nat.le_of_ble_eq_true rfl) hR.1, Nat.le_trans (Nat.le_of_ble_eq_true rfl) hR.2⟩ ⟨Nat.zero_le _, Nat.zero_le _⟩ 2 0 rfl rfl rfl hl.1 (rest := []) rfl (Nat.le_of_ble_eq_true rfl) d_T_escalate_44 (fun H locs hP hD hS => ?_)
          refine lv_aload_n hx hb d_T_escalate_47 rfl (lv_at hl 0 rfl) ?_
          refine lv_iload_n hx hb d_T_escalate_48 rfl (lv_at hl 1 rfl) ?_
          obtain ⟨r_16, xst_17, xre_18, xgr_19, ltm_20, low_21, lta_22, llo_23, lhi_24, lmo_25, rsi_26, rli_27, rar_28, xgc_29, lco_30, rwa_31, rad_32, hG, hF⟩ := ob17_inv hF
          refine kci K hP hD hS (c_T_ask l g cI cJ cZ ad xst xse xre xgr ltm low lta llo lhi lmo rta_11 ron_12 rlo rhi rmo_13 rin_14 res_15 rsi rli rar xgc_9 xca_10 xls xtl xno lco rwa rad rest a1 r_16 xst_17 xre_18 xgr_19 ltm_20 low_21 lta_22 llo_23 lhi_24 lmo_25 rsi_26 rli_27 rar_28 xgc_29 lco_30 rwa_31 rad_32 hG) wm_356 wm_353 wm_355 wm_4 wm_46 hd_T_ask rfl rfl ⟨Nat.le_trans (Nat.le_of_ble_eq_true rfl) hR.1, Nat.le_trans (Nat.le_of_ble_eq_true rfl) hR.2⟩ ⟨Nat.zero_le _, Nat.zero_le _⟩ 2 0 rfl rfl rfl hl.1 (rest := []) rfl (Nat.le_of_ble_eq_true rfl) d_T_escalate_49 (fun H locs hP hD hS => ?_)
          cases hF
          exact W.mono (fun t h => Or.inl ⟨rfl, h⟩) (kri K hP hD hS d_T_escalate_52 rfl)
        · have hF := it_t hF hc_8
          cases hF
          exact kth (kx := 3) K hlt (hnt (by decide)) hP hD hS (cls := "java/lang/UnsupportedOperationException") (text := "the owner has no range lock on the table") rfl (by decide) (by decide) wm_457 wm_58 (by decide) at_105 hl.1 d_T_escalate_25 d_T_escalate_28 d_T_escalate_29 d_T_escalate_31 d_T_escalate_34 (Nat.le_trans (Nat.le_of_ble_eq_true rfl) hR.1) (Nat.le_trans (Nat.le_of_ble_eq_true rfl) hR.2) (Nat.le_of_ble_eq_true rfl) (hRc (by decide)).1 (hRc (by decide)).2
      · replace hF := it_f hF hk_6
        cases hF
        refine kxv K hP hD hS (cx_T_checkWorks l hlt g cI cJ cZ ad xst xse xre xgr ltm low lta llo lhi lmo rta ron rlo rhi rmo rin res rsi rli rar xgc xca xls xtl xno lco rwa rad rest a1 _  hk_6 hG) wm_324 wm_321 wm_323 wm_2 wm_46 hd_T_checkWorks rfl rfl ⟨Nat.le_trans (Nat.le_of_ble_eq_true rfl) hR.1, Nat.le_trans (Nat.le_of_ble_eq_true rfl) hR.2⟩ ⟨(hRc hk_6).1, (hRc hk_6).2⟩ 2 0 rfl rfl rfl hl.1 (rest := []) rfl (Nat.le_of_ble_eq_true rfl) d_T_escalate_10 (fun ce q9 H locs hP hD hS hce hcv hcl => ?_)
        exact kxo K hk_6 (hnt hk_6) hP hD hS hce hcv hcl
    · replace hF := it_f hF hk_4
      cases hF
      refine kxs K hP hD hS (cx_T_checkTable l hlt g (kty cI cJ cZ) (wC cI cJ cZ ad xst xse xre xgr ltm low lta llo lhi lmo rta ron rlo rhi rmo rin res rsi rli rar xgc xca xls xtl xno lco rwa rad rest) a2 _  hk_4 hG) wm_315 wm_313 wm_314 wm_46 hd_T_checkTable rfl rfl ⟨Nat.le_trans (Nat.le_of_ble_eq_true rfl) hR.1, Nat.le_trans (Nat.le_of_ble_eq_true rfl) hR.2⟩ ⟨(hRc hk_4).1, (hRc hk_4).2⟩ hl.1 (rest := []) rfl (Nat.le_of_ble_eq_true rfl) d_T_escalate_5 (fun ce q9 H locs hP hD hS hce hcv hcl => ?_)
      exact kxo K hk_4 (hnt hk_4) hP hD hS hce hcv hcl
  · replace hF := it_f hF hk_2
    cases hF
    refine kxs K hP hD hS (cx_T_checkOwner l hlt g (kty cI cJ cZ) (wC cI cJ cZ ad xst xse xre xgr ltm low lta llo lhi lmo rta ron rlo rhi rmo rin res rsi rli rar xgc xca xls xtl xno lco rwa rad rest) a1 _  hk_2 hG) wm_217 wm_215 wm_216 wm_46 hd_T_checkOwner rfl rfl ⟨Nat.le_trans (Nat.le_of_ble_eq_true rfl) hR.1, Nat.le_trans (Nat.le_of_ble_eq_true rfl) hR.2⟩ ⟨(hRc hk_2).1, (hRc hk_2).2⟩ hl.1 (rest := []) rfl (Nat.le_of_ble_eq_true rfl) d_T_escalate_1 (fun ce q9 H locs hP hD hS hce hcv hcl => ?_)
    exact kxo K hk_2 (hnt hk_2) hP hD hS hce hcv hcl
theorem c_T_escalate (l : Launch) (hlt : l.stackTraces = false) (g : va_G) (cI cJ cZ : ClassId) (ad : Nat → Nat) (xst : Nat → Int32) (xse : Nat → Int32) (xre : Nat → Int32) (xgr : Nat → Int32) (ltm : Nat → Int32) (low : Nat → Int32) (lta : Nat → Int32) (llo : Nat → Int64) (lhi : Nat → Int64) (lmo : Nat → Int32) (rta : Nat → Int32) (ron : Nat → Int32) (rlo : Nat → Int64) (rhi : Nat → Int64) (rmo : Nat → Int32) (rin : Nat → Int32) (res : Nat → Int32) (rsi : Nat → Int32) (rli : Nat → Int32) (rar : Nat → Int32) (xgc : Int32) (xca : Int32) (xls : Int32) (xtl : Int32) (xno : Int32) (lco : Int32) (rwa : Int32) (rad : Int32) (rest : va_W) (a1 : Int32) (a2 : Int32) (r : Int32) (o_xst : Nat → Int32) (o_xre : Nat → Int32) (o_xgr : Nat → Int32) (o_ltm : Nat → Int32) (o_low : Nat → Int32) (o_lta : Nat → Int32) (o_llo : Nat → Int64) (o_lhi : Nat → Int64) (o_lmo : Nat → Int32) (o_rta : Nat → Int32) (o_ron : Nat → Int32) (o_rmo : Nat → Int32) (o_rin : Nat → Int32) (o_res : Nat → Int32) (o_rsi : Nat → Int32) (o_rli : Nat → Int32) (o_rar : Nat → Int32) (o_xgc : Int32) (o_xca : Int32) (o_lco : Int32) (o_rwa : Int32) (o_rad : Int32) (hF : F_T_escalate xst xse xre xgr ltm low lta llo lhi lmo rta ron rlo rhi rmo rin res rsi rli rar xgc xca xno lco rwa rad a1 a2 = some (0, r, o_xst, o_xre, o_xgr, o_ltm, o_low, o_lta, o_llo, o_lhi, o_lmo, o_rta, o_ron, o_rmo, o_rin, o_res, o_rsi, o_rli, o_rar, o_xgc, o_xca, o_lco, o_rwa, o_rad)) : Ci l y_T_escalate prog_1_method_5_code 3 (some .int) ({ frames := 7, cells := 0, slots := 0, locals := 144 }) [.ref (ad 0), .int a1, .int a2] g (kty cI cJ cZ) (wC cI cJ cZ ad xst xse xre xgr ltm low lta llo lhi lmo rta ron rlo rhi rmo rin res rsi rli rar xgc xca xls xtl xno lco rwa rad rest) (wC cI cJ cZ ad o_xst xse o_xre o_xgr o_ltm o_low o_lta o_llo o_lhi o_lmo o_rta o_ron rlo rhi o_rmo o_rin o_res o_rsi o_rli o_rar o_xgc o_xca xls xtl xno o_lco o_rwa o_rad rest) r :=
  fun sz => Ci.ofx (Q0 := fun A => kQi g (kty cI cJ cZ) (wC cI cJ cZ ad o_xst xse o_xre o_xgr o_ltm o_low o_lta o_llo o_lhi o_lmo o_rta o_ron rlo rhi o_rmo o_rin o_res o_rsi o_rli o_rar o_xgc o_xca xls xtl xno o_lco o_rwa o_rad rest) A r) (XC := fun A => kQx g (kty cI cJ cZ) (wC cI cJ cZ ad o_xst xse o_xre o_xgr o_ltm o_low o_lta o_llo o_lhi o_lmo o_rta o_ron rlo rhi o_rmo o_rin o_res o_rsi o_rli o_rar o_xgc o_xca xls xtl xno o_lco o_rwa o_rad rest) A 0) (by decide) (Nat.le_of_ble_eq_true rfl) (fun p e s m below meth c A ls K hP hD hS hl => t_T_escalate (R := { frames := 7, cells := 0, slots := 0, locals := 144 }) K ⟨Nat.le_of_ble_eq_true rfl, Nat.le_of_ble_eq_true rfl⟩ hlt xst xse xre xgr ltm low lta llo lhi lmo rta ron rlo rhi rmo rin res rsi rli rar xgc xca xls xtl xno lco rwa rad a1 a2 0 r o_xst o_xre o_xgr o_ltm o_low o_lta o_llo o_lhi o_lmo o_rta o_ron o_rmo o_rin o_res o_rsi o_rli o_rar o_xgc o_xca o_lco o_rwa o_rad (fun h => absurd rfl h) (fun h => absurd rfl h) hF hP hD hS hl) sz
theorem cx_T_escalate (l : Launch) (hlt : l.stackTraces = false) (g : va_G) (cI cJ cZ : ClassId) (ad : Nat → Nat) (xst : Nat → Int32) (xse : Nat → Int32) (xre : Nat → Int32) (xgr : Nat → Int32) (ltm : Nat → Int32) (low : Nat → Int32) (lta : Nat → Int32) (llo : Nat → Int64) (lhi : Nat → Int64) (lmo : Nat → Int32) (rta : Nat → Int32) (ron : Nat → Int32) (rlo : Nat → Int64) (rhi : Nat → Int64) (rmo : Nat → Int32) (rin : Nat → Int32) (res : Nat → Int32) (rsi : Nat → Int32) (rli : Nat → Int32) (rar : Nat → Int32) (xgc : Int32) (xca : Int32) (xls : Int32) (xtl : Int32) (xno : Int32) (lco : Int32) (rwa : Int32) (rad : Int32) (rest : va_W) (a1 : Int32) (a2 : Int32) (kx : Nat) (r : Int32) (o_xst : Nat → Int32) (o_xre : Nat → Int32) (o_xgr : Nat → Int32) (o_ltm : Nat → Int32) (o_low : Nat → Int32) (o_lta : Nat → Int32) (o_llo : Nat → Int64) (o_lhi : Nat → Int64) (o_lmo : Nat → Int32) (o_rta : Nat → Int32) (o_ron : Nat → Int32) (o_rmo : Nat → Int32) (o_rin : Nat → Int32) (o_res : Nat → Int32) (o_rsi : Nat → Int32) (o_rli : Nat → Int32) (o_rar : Nat → Int32) (o_xgc : Int32) (o_xca : Int32) (o_lco : Int32) (o_rwa : Int32) (o_rad : Int32) (hk : kx ≠ 0) (hF : F_T_escalate xst xse xre xgr ltm low lta llo lhi lmo rta ron rlo rhi rmo rin res rsi rli rar xgc xca xno lco rwa rad a1 a2 = some (kx, r, o_xst, o_xre, o_xgr, o_ltm, o_low, o_lta, o_llo, o_lhi, o_lmo, o_rta, o_ron, o_rmo, o_rin, o_res, o_rsi, o_rli, o_rar, o_xgc, o_xca, o_lco, o_rwa, o_rad)) : Cx l y_T_escalate prog_1_method_5_code 3 (some .int) ({ frames := 7, cells := 1, slots := 6, locals := 144 }) [.ref (ad 0), .int a1, .int a2] g (kty cI cJ cZ) (wC cI cJ cZ ad xst xse xre xgr ltm low lta llo lhi lmo rta ron rlo rhi rmo rin res rsi rli rar xgc xca xls xtl xno lco rwa rad rest) (wC cI cJ cZ ad o_xst xse o_xre o_xgr o_ltm o_low o_lta o_llo o_lhi o_lmo o_rta o_ron rlo rhi o_rmo o_rin o_res o_rsi o_rli o_rar o_xgc o_xca xls xtl xno o_lco o_rwa o_rad rest) kx :=
  Cx.of (Q0 := fun A => kQi g (kty cI cJ cZ) (wC cI cJ cZ ad o_xst xse o_xre o_xgr o_ltm o_low o_lta o_llo o_lhi o_lmo o_rta o_ron rlo rhi o_rmo o_rin o_res o_rsi o_rli o_rar o_xgc o_xca xls xtl xno o_lco o_rwa o_rad rest) A r) hk (by decide) (Nat.le_of_ble_eq_true rfl) (fun p e s m below meth c A ls hnt K hP hD hS hl => t_T_escalate (R := { frames := 7, cells := 1, slots := 6, locals := 144 }) K ⟨Nat.le_of_ble_eq_true rfl, Nat.le_of_ble_eq_true rfl⟩ hlt xst xse xre xgr ltm low lta llo lhi lmo rta ron rlo rhi rmo rin res rsi rli rar xgc xca xls xtl xno lco rwa rad a1 a2 kx r o_xst o_xre o_xgr o_ltm o_low o_lta o_llo o_lhi o_lmo o_rta o_ron o_rmo o_rin o_res o_rsi o_rli o_rar o_xgc o_xca o_lco o_rwa o_rad (fun _ => ⟨Nat.le_of_ble_eq_true rfl, Nat.le_of_ble_eq_true rfl⟩) (fun _ => hnt) hF hP hD hS hl)
def F_T_cancel (xst : Nat → Int32) (xgr : Nat → Int32) (ltm : Nat → Int32) (low : Nat → Int32) (lta : Nat → Int32) (llo : Nat → Int64) (lhi : Nat → Int64) (lmo : Nat → Int32) (rta : Nat → Int32) (ron : Nat → Int32) (rlo : Nat → Int64) (rhi : Nat → Int64) (rmo : Nat → Int32) (res : Nat → Int32) (rli : Nat → Int32) (xgc : Int32) (xca : Int32) (lco : Int32) (rwa : Int32) (a1 : Int32) : Option (Nat × Int32 × (Nat → Int32) × (Nat → Int32) × (Nat → Int32) × (Nat → Int32) × (Nat → Int32) × (Nat → Int64) × (Nat → Int64) × (Nat → Int32) × (Nat → Int32) × Int32 × Int32 × Int32 × Int32) :=
  ob1 (F_T_checkOwner a1) (fun k_1 => if k_1 = 0 then ob1 (F_T_checkWaits xst a1) (fun k_3 => if k_3 = 0 then ob2 (F_T_startCall xgc xca a1) (fun xgc_5 xca_6 => ob3 (F_T_takeBack xst rli rwa a1 1) (fun xst_7 rli_8 rwa_9 => ob12 (F_T_lookAtAll xst_7 xgr ltm low lta llo lhi lmo rta ron rlo rhi rmo res rli_8 xgc_5 xca_6 lco rwa_9) (fun xst_10 xgr_11 ltm_12 low_13 lta_14 llo_15 lhi_16 lmo_17 rli_18 xgc_19 lco_20 rwa_21 => some (0, xgc_19, xst_10, xgr_11, ltm_12, low_13, lta_14, llo_15, lhi_16, lmo_17, rli_18, xgc_19, xca_6, lco_20, rwa_21)))) else some (k_3, 0, xst, xgr, ltm, low, lta, llo, lhi, lmo, rli, xgc, xca, lco, rwa)) else some (k_1, 0, xst, xgr, ltm, low, lta, llo, lhi, lmo, rli, xgc, xca, lco, rwa))
set_option maxHeartbeats 4000000 in
set_option maxRecDepth 100000 in
theorem t_T_cancel {p : Program} {l : Launch} {e : Env} {s : State} {m : MethodId} {args : Array Value} {below : List Frame} {meth : Method} {c : Code} {A : Nat → Prop} {g : va_G} {cI cJ cZ : ClassId} {ad : Nat → Nat} {rest : va_W} (K : kX p s m args meth c "LockTable" prog_1_method_6_code 2 (some .int) A g (kty cI cJ cZ)) {R : Room} (hR : 7 ≤ R.frames ∧ 111 ≤ R.locals) (hlt : l.stackTraces = false) (xst : Nat → Int32) (xse : Nat → Int32) (xre : Nat → Int32) (xgr : Nat → Int32) (ltm : Nat → Int32) (low : Nat → Int32) (lta : Nat → Int32) (llo : Nat → Int64) (lhi : Nat → Int64) (lmo : Nat → Int32) (rta : Nat → Int32) (ron : Nat → Int32) (rlo : Nat → Int64) (rhi : Nat → Int64) (rmo : Nat → Int32) (rin : Nat → Int32) (res : Nat → Int32) (rsi : Nat → Int32) (rli : Nat → Int32) (rar : Nat → Int32) (xgc : Int32) (xca : Int32) (xls : Int32) (xtl : Int32) (xno : Int32) (lco : Int32) (rwa : Int32) (rad : Int32) (a1 : Int32) (kx : Nat) (r : Int32) (o_xst : Nat → Int32) (o_xgr : Nat → Int32) (o_ltm : Nat → Int32) (o_low : Nat → Int32) (o_lta : Nat → Int32) (o_llo : Nat → Int64) (o_lhi : Nat → Int64) (o_lmo : Nat → Int32) (o_rli : Nat → Int32) (o_xgc : Int32) (o_xca : Int32) (o_lco : Int32) (o_rwa : Int32) (hRc : kx ≠ 0 → 1 ≤ R.cells ∧ 6 ≤ R.slots) (hnt : kx ≠ 0 → ∀ x ∈ c.exceptionTable.toList, False) (hF : F_T_cancel xst xgr ltm low lta llo lhi lmo rta ron rlo rhi rmo res rli xgc xca lco rwa a1 = some (kx, r, o_xst, o_xgr, o_ltm, o_low, o_lta, o_llo, o_lhi, o_lmo, o_rli, o_xgc, o_xca, o_lco, o_rwa)) {H : Heap} {locs : List Loc} {ls : Array Slot} (hP : va_P g kcl (wC cI cJ cZ ad xst xse xre xgr ltm low lta llo lhi lmo rta ron rlo rhi rmo rin res rsi rli rar xgc xca xls xtl xno lco rwa rad rest) H) (hD : va_D A (wC cI cJ cZ ad xst xse xre xgr ltm low lta llo lhi lmo rta ron rlo rhi rmo rin res rsi rli rar xgc xca xls xtl xno lco rwa rad rest)) (hS : va_S A s.heap H locs) (hl : lv_has ls 2 [(0, .ref (ad 0)), (1, .int a1)]) : W p l e (R) s m args below meth c H locs 0 0 (kSel below args s A kx (kQi g (kty cI cJ cZ) (wC cI cJ cZ ad o_xst xse xre o_xgr o_ltm o_low o_lta o_llo o_lhi o_lmo rta ron rlo rhi rmo rin res rsi o_rli rar o_xgc o_xca xls xtl xno o_lco o_rwa rad rest) A r) (kQx g (kty cI cJ cZ) (wC cI cJ cZ ad o_xst xse xre o_xgr o_ltm o_low o_lta o_llo o_lhi o_lmo rta ron rlo rhi rmo rin res rsi o_rli rar o_xgc o_xca xls xtl xno o_lco o_rwa rad rest) A kx)) (F0 m 0 ls []) := by
  obtain ⟨hx, hb, hr, hml, hown, hts, hlocks, hK, hA, hE⟩ := id K
  unfold F_T_cancel at hF
  refine lv_iload_n hx hb d_T_cancel_0 rfl (lv_at hl 1 rfl) ?_
  obtain ⟨k_1, hG, hF⟩ := ob1_inv hF
  by_cases hk_2 : k_1 = 0
  · replace hF := it_t hF hk_2
    subst hk_2
    refine ksv K hP hD hS (c_T_checkOwner l hlt g (kty cI cJ cZ) (wC cI cJ cZ ad xst xse xre xgr ltm low lta llo lhi lmo rta ron rlo rhi rmo rin res rsi rli rar xgc xca xls xtl xno lco rwa rad rest) a1  hG) wm_217 wm_215 wm_216 wm_46 hd_T_checkOwner rfl rfl ⟨Nat.le_trans (Nat.le_of_ble_eq_true rfl) hR.1, Nat.le_trans (Nat.le_of_ble_eq_true rfl) hR.2⟩ ⟨Nat.zero_le _, Nat.zero_le _⟩ hl.1 (rest := []) rfl (Nat.le_of_ble_eq_true rfl) d_T_cancel_1 (fun H locs hP hD hS => ?_)
    refine lv_aload_n hx hb d_T_cancel_4 rfl (lv_at hl 0 rfl) ?_
    refine lv_iload_n hx hb d_T_cancel_5 rfl (lv_at hl 1 rfl) ?_
    obtain ⟨k_3, hG, hF⟩ := ob1_inv hF
    by_cases hk_4 : k_3 = 0
    · replace hF := it_t hF hk_4
      subst hk_4
      refine kcv K hP hD hS (c_T_checkWaits l hlt g cI cJ cZ ad xst xse xre xgr ltm low lta llo lhi lmo rta ron rlo rhi rmo rin res rsi rli rar xgc xca xls xtl xno lco rwa rad rest a1  hG) wm_534 wm_531 wm_533 wm_18 wm_46 hd_T_checkWaits rfl rfl ⟨Nat.le_trans (Nat.le_of_ble_eq_true rfl) hR.1, Nat.le_trans (Nat.le_of_ble_eq_true rfl) hR.2⟩ ⟨Nat.zero_le _, Nat.zero_le _⟩ 2 0 rfl rfl rfl hl.1 (rest := []) rfl (Nat.le_of_ble_eq_true rfl) d_T_cancel_6 (fun H locs hP hD hS => ?_)
      refine lv_aload_n hx hb d_T_cancel_9 rfl (lv_at hl 0 rfl) ?_
      refine lv_iload_n hx hb d_T_cancel_10 rfl (lv_at hl 1 rfl) ?_
      obtain ⟨xgc_5, xca_6, hG, hF⟩ := ob2_inv hF
      refine kcv K hP hD hS (c_T_startCall l g cI cJ cZ ad xst xse xre xgr ltm low lta llo lhi lmo rta ron rlo rhi rmo rin res rsi rli rar xgc xca xls xtl xno lco rwa rad rest a1 xgc_5 xca_6 hG) wm_305 wm_302 wm_304 wm_1 wm_46 hd_T_startCall rfl rfl ⟨Nat.le_trans (Nat.le_of_ble_eq_true rfl) hR.1, Nat.le_trans (Nat.le_of_ble_eq_true rfl) hR.2⟩ ⟨Nat.zero_le _, Nat.zero_le _⟩ 2 0 rfl rfl rfl hl.1 (rest := []) rfl (Nat.le_of_ble_eq_true rfl) d_T_cancel_11 (fun H locs hP hD hS => ?_)
      refine lv_aload_n hx hb d_T_cancel_14 rfl (lv_at hl 0 rfl) ?_
      refine lv_iload_n hx hb d_T_cancel_15 rfl (lv_at hl 1 rfl) ?_
      refine lv_iconst (v := 1) hx hb d_T_cancel_16 (by decide) ?_
      obtain ⟨xst_7, rli_8, rwa_9, hG, hF⟩ := ob3_inv hF
      refine kcv K hP hD hS (c_T_takeBack l g cI cJ cZ ad xst xse xre xgr ltm low lta llo lhi lmo rta ron rlo rhi rmo rin res rsi rli rar xgc_5 xca_6 xls xtl xno lco rwa rad rest a1 1 xst_7 rli_8 rwa_9 hG) wm_440 wm_437 wm_439 wm_15 wm_46 hd_T_takeBack rfl rfl ⟨Nat.le_trans (Nat.le_of_ble_eq_true rfl) hR.1, Nat.le_trans (Nat.le_of_ble_eq_true rfl) hR.2⟩ ⟨Nat.zero_le _, Nat.zero_le _⟩ 2 0 rfl rfl rfl hl.1 (rest := []) rfl (Nat.le_of_ble_eq_true rfl) d_T_cancel_17 (fun H locs hP hD hS => ?_)
      refine lv_aload_n hx hb d_T_cancel_20 rfl (lv_at hl 0 rfl) ?_
      obtain ⟨xst_10, xgr_11, ltm_12, low_13, lta_14, llo_15, lhi_16, lmo_17, rli_18, xgc_19, lco_20, rwa_21, hG, hF⟩ := ob12_inv hF
      refine kcv K hP hD hS (c_T_lookAtAll l g cI cJ cZ ad xst_7 xse xre xgr ltm low lta llo lhi lmo rta ron rlo rhi rmo rin res rsi rli_8 rar xgc_5 xca_6 xls xtl xno lco rwa_9 rad rest  xst_10 xgr_11 ltm_12 low_13 lta_14 llo_15 lhi_16 lmo_17 rli_18 xgc_19 lco_20 rwa_21 hG) wm_421 wm_418 wm_420 wm_11 wm_46 hd_T_lookAtAll rfl rfl ⟨Nat.le_trans (Nat.le_of_ble_eq_true rfl) hR.1, Nat.le_trans (Nat.le_of_ble_eq_true rfl) hR.2⟩ ⟨Nat.zero_le _, Nat.zero_le _⟩ 2 0 rfl rfl rfl hl.1 (rest := []) rfl (Nat.le_of_ble_eq_true rfl) d_T_cancel_21 (fun H locs hP hD hS => ?_)
      refine lv_aload_n hx hb d_T_cancel_24 rfl (lv_at hl 0 rfl) ?_
      refine va_get (D := g) (ci := 2) (v := .int xgc_19) (C := kR2) (T := kT2) (N := 11) hx hb hts kw2 hown hK hP 0 rfl rfl 6 (by decide) (hts _ wm_162) (fun _ h9 => h9) rfl d_T_cancel_25 ?_
      cases hF
      exact W.mono (fun t h => Or.inl ⟨rfl, h⟩) (kri K hP hD hS d_T_cancel_28 rfl)
    · replace hF := it_f hF hk_4
      cases hF
      refine kxv K hP hD hS (cx_T_checkWaits l hlt g cI cJ cZ ad xst xse xre xgr ltm low lta llo lhi lmo rta ron rlo rhi rmo rin res rsi rli rar xgc xca xls xtl xno lco rwa rad rest a1 _  hk_4 hG) wm_534 wm_531 wm_533 wm_18 wm_46 hd_T_checkWaits rfl rfl ⟨Nat.le_trans (Nat.le_of_ble_eq_true rfl) hR.1, Nat.le_trans (Nat.le_of_ble_eq_true rfl) hR.2⟩ ⟨(hRc hk_4).1, (hRc hk_4).2⟩ 2 0 rfl rfl rfl hl.1 (rest := []) rfl (Nat.le_of_ble_eq_true rfl) d_T_cancel_6 (fun ce q9 H locs hP hD hS hce hcv hcl => ?_)
      exact kxo K hk_4 (hnt hk_4) hP hD hS hce hcv hcl
  · replace hF := it_f hF hk_2
    cases hF
    refine kxs K hP hD hS (cx_T_checkOwner l hlt g (kty cI cJ cZ) (wC cI cJ cZ ad xst xse xre xgr ltm low lta llo lhi lmo rta ron rlo rhi rmo rin res rsi rli rar xgc xca xls xtl xno lco rwa rad rest) a1 _  hk_2 hG) wm_217 wm_215 wm_216 wm_46 hd_T_checkOwner rfl rfl ⟨Nat.le_trans (Nat.le_of_ble_eq_true rfl) hR.1, Nat.le_trans (Nat.le_of_ble_eq_true rfl) hR.2⟩ ⟨(hRc hk_2).1, (hRc hk_2).2⟩ hl.1 (rest := []) rfl (Nat.le_of_ble_eq_true rfl) d_T_cancel_1 (fun ce q9 H locs hP hD hS hce hcv hcl => ?_)
    exact kxo K hk_2 (hnt hk_2) hP hD hS hce hcv hcl
theorem c_T_cancel (l : Launch) (hlt : l.stackTraces = false) (g : va_G) (cI cJ cZ : ClassId) (ad : Nat → Nat) (xst : Nat → Int32) (xse : Nat → Int32) (xre : Nat → Int32) (xgr : Nat → Int32) (ltm : Nat → Int32) (low : Nat → Int32) (lta : Nat → Int32) (llo : Nat → Int64) (lhi : Nat → Int64) (lmo : Nat → Int32) (rta : Nat → Int32) (ron : Nat → Int32) (rlo : Nat → Int64) (rhi : Nat → Int64) (rmo : Nat → Int32) (rin : Nat → Int32) (res : Nat → Int32) (rsi : Nat → Int32) (rli : Nat → Int32) (rar : Nat → Int32) (xgc : Int32) (xca : Int32) (xls : Int32) (xtl : Int32) (xno : Int32) (lco : Int32) (rwa : Int32) (rad : Int32) (rest : va_W) (a1 : Int32) (r : Int32) (o_xst : Nat → Int32) (o_xgr : Nat → Int32) (o_ltm : Nat → Int32) (o_low : Nat → Int32) (o_lta : Nat → Int32) (o_llo : Nat → Int64) (o_lhi : Nat → Int64) (o_lmo : Nat → Int32) (o_rli : Nat → Int32) (o_xgc : Int32) (o_xca : Int32) (o_lco : Int32) (o_rwa : Int32) (hF : F_T_cancel xst xgr ltm low lta llo lhi lmo rta ron rlo rhi rmo res rli xgc xca lco rwa a1 = some (0, r, o_xst, o_xgr, o_ltm, o_low, o_lta, o_llo, o_lhi, o_lmo, o_rli, o_xgc, o_xca, o_lco, o_rwa)) : Ci l y_T_cancel prog_1_method_6_code 2 (some .int) ({ frames := 7, cells := 0, slots := 0, locals := 111 }) [.ref (ad 0), .int a1] g (kty cI cJ cZ) (wC cI cJ cZ ad xst xse xre xgr ltm low lta llo lhi lmo rta ron rlo rhi rmo rin res rsi rli rar xgc xca xls xtl xno lco rwa rad rest) (wC cI cJ cZ ad o_xst xse xre o_xgr o_ltm o_low o_lta o_llo o_lhi o_lmo rta ron rlo rhi rmo rin res rsi o_rli rar o_xgc o_xca xls xtl xno o_lco o_rwa rad rest) r :=
  fun sz => Ci.ofx (Q0 := fun A => kQi g (kty cI cJ cZ) (wC cI cJ cZ ad o_xst xse xre o_xgr o_ltm o_low o_lta o_llo o_lhi o_lmo rta ron rlo rhi rmo rin res rsi o_rli rar o_xgc o_xca xls xtl xno o_lco o_rwa rad rest) A r) (XC := fun A => kQx g (kty cI cJ cZ) (wC cI cJ cZ ad o_xst xse xre o_xgr o_ltm o_low o_lta o_llo o_lhi o_lmo rta ron rlo rhi rmo rin res rsi o_rli rar o_xgc o_xca xls xtl xno o_lco o_rwa rad rest) A 0) (by decide) (Nat.le_of_ble_eq_true rfl) (fun p e s m below meth c A ls K hP hD hS hl => t_T_cancel (R := { frames := 7, cells := 0, slots := 0, locals := 111 }) K ⟨Nat.le_of_ble_eq_true rfl, Nat.le_of_ble_eq_true rfl⟩ hlt xst xse xre xgr ltm low lta llo lhi lmo rta ron rlo rhi rmo rin res rsi rli rar xgc xca xls xtl xno lco rwa rad a1 0 r o_xst o_xgr o_ltm o_low o_lta o_llo o_lhi o_lmo o_rli o_xgc o_xca o_lco o_rwa (fun h => absurd rfl h) (fun h => absurd rfl h) hF hP hD hS hl) sz
theorem cx_T_cancel (l : Launch) (hlt : l.stackTraces = false) (g : va_G) (cI cJ cZ : ClassId) (ad : Nat → Nat) (xst : Nat → Int32) (xse : Nat → Int32) (xre : Nat → Int32) (xgr : Nat → Int32) (ltm : Nat → Int32) (low : Nat → Int32) (lta : Nat → Int32) (llo : Nat → Int64) (lhi : Nat → Int64) (lmo : Nat → Int32) (rta : Nat → Int32) (ron : Nat → Int32) (rlo : Nat → Int64) (rhi : Nat → Int64) (rmo : Nat → Int32) (rin : Nat → Int32) (res : Nat → Int32) (rsi : Nat → Int32) (rli : Nat → Int32) (rar : Nat → Int32) (xgc : Int32) (xca : Int32) (xls : Int32) (xtl : Int32) (xno : Int32) (lco : Int32) (rwa : Int32) (rad : Int32) (rest : va_W) (a1 : Int32) (kx : Nat) (r : Int32) (o_xst : Nat → Int32) (o_xgr : Nat → Int32) (o_ltm : Nat → Int32) (o_low : Nat → Int32) (o_lta : Nat → Int32) (o_llo : Nat → Int64) (o_lhi : Nat → Int64) (o_lmo : Nat → Int32) (o_rli : Nat → Int32) (o_xgc : Int32) (o_xca : Int32) (o_lco : Int32) (o_rwa : Int32) (hk : kx ≠ 0) (hF : F_T_cancel xst xgr ltm low lta llo lhi lmo rta ron rlo rhi rmo res rli xgc xca lco rwa a1 = some (kx, r, o_xst, o_xgr, o_ltm, o_low, o_lta, o_llo, o_lhi, o_lmo, o_rli, o_xgc, o_xca, o_lco, o_rwa)) : Cx l y_T_cancel prog_1_method_6_code 2 (some .int) ({ frames := 7, cells := 1, slots := 6, locals := 111 }) [.ref (ad 0), .int a1] g (kty cI cJ cZ) (wC cI cJ cZ ad xst xse xre xgr ltm low lta llo lhi lmo rta ron rlo rhi rmo rin res rsi rli rar xgc xca xls xtl xno lco rwa rad rest) (wC cI cJ cZ ad o_xst xse xre o_xgr o_ltm o_low o_lta o_llo o_lhi o_lmo rta ron rlo rhi rmo rin res rsi o_rli rar o_xgc o_xca xls xtl xno o_lco o_rwa rad rest) kx :=
  Cx.of (Q0 := fun A => kQi g (kty cI cJ cZ) (wC cI cJ cZ ad o_xst xse xre o_xgr o_ltm o_low o_lta o_llo o_lhi o_lmo rta ron rlo rhi rmo rin res rsi o_rli rar o_xgc o_xca xls xtl xno o_lco o_rwa rad rest) A r) hk (by decide) (Nat.le_of_ble_eq_true rfl) (fun p e s m below meth c A ls hnt K hP hD hS hl => t_T_cancel (R := { frames := 7, cells := 1, slots := 6, locals := 111 }) K ⟨Nat.le_of_ble_eq_true rfl, Nat.le_of_ble_eq_true rfl⟩ hlt xst xse xre xgr ltm low lta llo lhi lmo rta ron rlo rhi rmo rin res rsi rli rar xgc xca xls xtl xno lco rwa rad a1 kx r o_xst o_xgr o_ltm o_low o_lta o_llo o_lhi o_lmo o_rli o_xgc o_xca o_lco o_rwa (fun _ => ⟨Nat.le_of_ble_eq_true rfl, Nat.le_of_ble_eq_true rfl⟩) (fun _ => hnt) hF hP hD hS hl)
def F_T_prepare (xst : Nat → Int32) (xgr : Nat → Int32) (ltm : Nat → Int32) (low : Nat → Int32) (lta : Nat → Int32) (llo : Nat → Int64) (lhi : Nat → Int64) (lmo : Nat → Int32) (rta : Nat → Int32) (ron : Nat → Int32) (rlo : Nat → Int64) (rhi : Nat → Int64) (rmo : Nat → Int32) (res : Nat → Int32) (rli : Nat → Int32) (xgc : Int32) (xca : Int32) (lco : Int32) (rwa : Int32) (a1 : Int32) : Option (Nat × Int32 × (Nat → Int32) × (Nat → Int32) × (Nat → Int32) × (Nat → Int32) × (Nat → Int32) × (Nat → Int64) × (Nat → Int64) × (Nat → Int32) × (Nat → Int32) × Int32 × Int32 × Int32 × Int32) :=
  ob1 (F_T_checkOwner a1) (fun k_1 => if k_1 = 0 then ob1 (F_T_checkWorks xst a1) (fun k_3 => if k_3 = 0 then ob2 (F_T_startCall xgc xca a1) (fun xgc_5 xca_6 => gd (a1 < 0 ∨ 8 ≤ a1.toNatClampNeg) (ob7 (F_L_dropReading ltm low lta llo lhi lmo lco a1) (fun ltm_8 low_9 lta_10 llo_11 lhi_12 lmo_13 lco_14 => ob12 (F_T_lookAtAll (upd xst a1.toNatClampNeg 4) xgr ltm_8 low_9 lta_10 llo_11 lhi_12 lmo_13 rta ron rlo rhi rmo res rli xgc_5 xca_6 lco_14 rwa) (fun xst_15 xgr_16 ltm_17 low_18 lta_19 llo_20 lhi_21 lmo_22 rli_23 xgc_24 lco_25 rwa_26 => ob1 (F_L_countOf ltm_17 low_18 lco_25 a1) (fun r_27 => some (0, r_27, xst_15, xgr_16, ltm_17, low_18, lta_19, llo_20, lhi_21, lmo_22, rli_23, xgc_24, xca_6, lco_25, rwa_26)))))) else some (k_3, 0, xst, xgr, ltm, low, lta, llo, lhi, lmo, rli, xgc, xca, lco, rwa)) else some (k_1, 0, xst, xgr, ltm, low, lta, llo, lhi, lmo, rli, xgc, xca, lco, rwa))
set_option maxHeartbeats 4000000 in
set_option maxRecDepth 100000 in
theorem t_T_prepare {p : Program} {l : Launch} {e : Env} {s : State} {m : MethodId} {args : Array Value} {below : List Frame} {meth : Method} {c : Code} {A : Nat → Prop} {g : va_G} {cI cJ cZ : ClassId} {ad : Nat → Nat} {rest : va_W} (K : kX p s m args meth c "LockTable" prog_1_method_7_code 2 (some .int) A g (kty cI cJ cZ)) {R : Room} (hR : 7 ≤ R.frames ∧ 111 ≤ R.locals) (hlt : l.stackTraces = false) (xst : Nat → Int32) (xse : Nat → Int32) (xre : Nat → Int32) (xgr : Nat → Int32) (ltm : Nat → Int32) (low : Nat → Int32) (lta : Nat → Int32) (llo : Nat → Int64) (lhi : Nat → Int64) (lmo : Nat → Int32) (rta : Nat → Int32) (ron : Nat → Int32) (rlo : Nat → Int64) (rhi : Nat → Int64) (rmo : Nat → Int32) (rin : Nat → Int32) (res : Nat → Int32) (rsi : Nat → Int32) (rli : Nat → Int32) (rar : Nat → Int32) (xgc : Int32) (xca : Int32) (xls : Int32) (xtl : Int32) (xno : Int32) (lco : Int32) (rwa : Int32) (rad : Int32) (a1 : Int32) (kx : Nat) (r : Int32) (o_xst : Nat → Int32) (o_xgr : Nat → Int32) (o_ltm : Nat → Int32) (o_low : Nat → Int32) (o_lta : Nat → Int32) (o_llo : Nat → Int64) (o_lhi : Nat → Int64) (o_lmo : Nat → Int32) (o_rli : Nat → Int32) (o_xgc : Int32) (o_xca : Int32) (o_lco : Int32) (o_rwa : Int32) (hRc : kx ≠ 0 → 1 ≤ R.cells ∧ 6 ≤ R.slots) (hnt : kx ≠ 0 → ∀ x ∈ c.exceptionTable.toList, False) (hF : F_T_prepare xst xgr ltm low lta llo lhi lmo rta ron rlo rhi rmo res rli xgc xca lco rwa a1 = some (kx, r, o_xst, o_xgr, o_ltm, o_low, o_lta, o_llo, o_lhi, o_lmo, o_rli, o_xgc, o_xca, o_lco, o_rwa)) {H : Heap} {locs : List Loc} {ls : Array Slot} (hP : va_P g kcl (wC cI cJ cZ ad xst xse xre xgr ltm low lta llo lhi lmo rta ron rlo rhi rmo rin res rsi rli rar xgc xca xls xtl xno lco rwa rad rest) H) (hD : va_D A (wC cI cJ cZ ad xst xse xre xgr ltm low lta llo lhi lmo rta ron rlo rhi rmo rin res rsi rli rar xgc xca xls xtl xno lco rwa rad rest)) (hS : va_S A s.heap H locs) (hl : lv_has ls 2 [(0, .ref (ad 0)), (1, .int a1)]) : W p l e (R) s m args below meth c H locs 0 0 (kSel below args s A kx (kQi g (kty cI cJ cZ) (wC cI cJ cZ ad o_xst xse xre o_xgr o_ltm o_low o_lta o_llo o_lhi o_lmo rta ron rlo rhi rmo rin res rsi o_rli rar o_xgc o_xca xls xtl xno o_lco o_rwa rad rest) A r) (kQx g (kty cI cJ cZ) (wC cI cJ cZ ad o_xst xse xre o_xgr o_ltm o_low o_lta o_llo o_lhi o_lmo rta ron rlo rhi rmo rin res rsi o_rli rar o_xgc o_xca xls xtl xno o_lco o_rwa rad rest) A kx)) (F0 m 0 ls []) := by
  obtain ⟨hx, hb, hr, hml, hown, hts, hlocks, hK, hA, hE⟩ := id K
  unfold F_T_prepare at hF
  refine lv_iload_n hx hb d_T_prepare_0 rfl (lv_at hl 1 rfl) ?_
  obtain ⟨k_1, hG, hF⟩ := ob1_inv hF
  by_cases hk_2 : k_1 = 0
  · replace hF := it_t hF hk_2
    subst hk_2
    refine ksv K hP hD hS (c_T_checkOwner l hlt g (kty cI cJ cZ) (wC cI cJ cZ ad xst xse xre xgr ltm low lta llo lhi lmo rta ron rlo rhi rmo rin res rsi rli rar xgc xca xls xtl xno lco rwa rad rest) a1  hG) wm_217 wm_215 wm_216 wm_46 hd_T_checkOwner rfl rfl ⟨Nat.le_trans (Nat.le_of_ble_eq_true rfl) hR.1, Nat.le_trans (Nat.le_of_ble_eq_true rfl) hR.2⟩ ⟨Nat.zero_le _, Nat.zero_le _⟩ hl.1 (rest := []) rfl (Nat.le_of_ble_eq_true rfl) d_T_prepare_1 (fun H locs hP hD hS => ?_)
    refine lv_aload_n hx hb d_T_prepare_4 rfl (lv_at hl 0 rfl) ?_
    refine lv_iload_n hx hb d_T_prepare_5 rfl (lv_at hl 1 rfl) ?_
    obtain ⟨k_3, hG, hF⟩ := ob1_inv hF
    by_cases hk_4 : k_3 = 0
    · replace hF := it_t hF hk_4
      subst hk_4
      refine kcv K hP hD hS (c_T_checkWorks l hlt g cI cJ cZ ad xst xse xre xgr ltm low lta llo lhi lmo rta ron rlo rhi rmo rin res rsi rli rar xgc xca xls xtl xno lco rwa rad rest a1  hG) wm_324 wm_321 wm_323 wm_2 wm_46 hd_T_checkWorks rfl rfl ⟨Nat.le_trans (Nat.le_of_ble_eq_true rfl) hR.1, Nat.le_trans (Nat.le_of_ble_eq_true rfl) hR.2⟩ ⟨Nat.zero_le _, Nat.zero_le _⟩ 2 0 rfl rfl rfl hl.1 (rest := []) rfl (Nat.le_of_ble_eq_true rfl) d_T_prepare_6 (fun H locs hP hD hS => ?_)
      refine lv_aload_n hx hb d_T_prepare_9 rfl (lv_at hl 0 rfl) ?_
      refine lv_iload_n hx hb d_T_prepare_10 rfl (lv_at hl 1 rfl) ?_
      obtain ⟨xgc_5, xca_6, hG, hF⟩ := ob2_inv hF
      refine kcv K hP hD hS (c_T_startCall l g cI cJ cZ ad xst xse xre xgr ltm low lta llo lhi lmo rta ron rlo rhi rmo rin res rsi rli rar xgc xca xls xtl xno lco rwa rad rest a1 xgc_5 xca_6 hG) wm_305 wm_302 wm_304 wm_1 wm_46 hd_T_startCall rfl rfl ⟨Nat.le_trans (Nat.le_of_ble_eq_true rfl) hR.1, Nat.le_trans (Nat.le_of_ble_eq_true rfl) hR.2⟩ ⟨Nat.zero_le _, Nat.zero_le _⟩ 2 0 rfl rfl rfl hl.1 (rest := []) rfl (Nat.le_of_ble_eq_true rfl) d_T_prepare_11 (fun H locs hP hD hS => ?_)
      refine lv_aload_n hx hb d_T_prepare_14 rfl (lv_at hl 0 rfl) ?_
      refine va_get (D := g) (ci := 2) (v := .ref (ad 3)) (C := kR2) (T := kT2) (N := 11) hx hb hts kw2 hown hK hP 0 rfl rfl 0 (by decide) (hts _ wm_156) (fun _ h9 => h9) rfl d_T_prepare_15 ?_
      refine lv_iload_n hx hb d_T_prepare_18 rfl (lv_at hl 1 rfl) ?_
      refine lv_iconst (v := 4) hx hb d_T_prepare_19 (by decide) ?_
      obtain ⟨hg_7, hF⟩ := gd_inv hF
      refine va_iast hx hb hK hP hD hS 3 0 rfl rfl hg_7 d_T_prepare_20 (fun H locs hP hD hS => ?_)
      have hP : va_P g kcl (wC cI cJ cZ ad (upd xst a1.toNatClampNeg 4) xse xre xgr ltm low lta llo lhi lmo rta ron rlo rhi rmo rin res rsi rli rar xgc_5 xca_6 xls xtl xno lco rwa rad rest) H := hP
      have hD : va_D A (wC cI cJ cZ ad (upd xst a1.toNatClampNeg 4) xse xre xgr ltm low lta llo lhi lmo rta ron rlo rhi rmo rin res rsi rli rar xgc_5 xca_6 xls xtl xno lco rwa rad rest) := hD
      refine lv_aload_n hx hb d_T_prepare_21 rfl (lv_at hl 0 rfl) ?_
      refine va_get (D := g) (ci := 2) (v := .ref (ad 1)) (C := kR2) (T := kT2) (N := 11) hx hb hts kw2 hown hK hP 0 rfl rfl 2 (by decide) (hts _ wm_158) (fun _ h9 => h9) rfl d_T_prepare_22 ?_
      refine lv_iload_n hx hb d_T_prepare_25 rfl (lv_at hl 1 rfl) ?_
      obtain ⟨ltm_8, low_9, lta_10, llo_11, lhi_12, lmo_13, lco_14, hG, hF⟩ := ob7_inv hF
      refine kcv K hP hD hS (c_L_dropReading l g cI cJ cZ ad (upd xst a1.toNatClampNeg 4) xse xre xgr ltm low lta llo lhi lmo rta ron rlo rhi rmo rin res rsi rli rar xgc_5 xca_6 xls xtl xno lco rwa rad rest a1 ltm_8 low_9 lta_10 llo_11 lhi_12 lmo_13 lco_14 hG) wm_546 wm_543 wm_544 wm_545 wm_48 hd_L_dropReading rfl rfl ⟨Nat.le_trans (Nat.le_of_ble_eq_true rfl) hR.1, Nat.le_trans (Nat.le_of_ble_eq_true rfl) hR.2⟩ ⟨Nat.zero_le _, Nat.zero_le _⟩ 0 1 rfl rfl rfl hl.1 (rest := []) rfl (Nat.le_of_ble_eq_true rfl) d_T_prepare_26 (fun H locs hP hD hS => ?_)
      refine lv_aload_n hx hb d_T_prepare_29 rfl (lv_at hl 0 rfl) ?_
      obtain ⟨xst_15, xgr_16, ltm_17, low_18, lta_19, llo_20, lhi_21, lmo_22, rli_23, xgc_24, lco_25, rwa_26, hG, hF⟩ := ob12_inv hF
      refine kcv K hP hD hS (c_T_lookAtAll l g cI cJ cZ ad (upd xst a1.toNatClampNeg 4) xse xre xgr ltm_8 low_9 lta_10 llo_11 lhi_12 lmo_13 rta ron rlo rhi rmo rin res rsi rli rar xgc_5 xca_6 xls xtl xno lco_14 rwa rad rest  xst_15 xgr_16 ltm_17 low_18 lta_19 llo_20 lhi_21 lmo_22 rli_23 xgc_24 lco_25 rwa_26 hG) wm_421 wm_418 wm_420 wm_11 wm_46 hd_T_lookAtAll rfl rfl ⟨Nat.le_trans (Nat.le_of_ble_eq_true rfl) hR.1, Nat.le_trans (Nat.le_of_ble_eq_true rfl) hR.2⟩ ⟨Nat.zero_le _, Nat.zero_le _⟩ 2 0 rfl rfl rfl hl.1 (rest := []) rfl (Nat.le_of_ble_eq_true rfl) d_T_prepare_30 (fun H locs hP hD hS => ?_)
      refine lv_aload_n hx hb d_T_prepare_33 rfl (lv_at hl 0 rfl) ?_
      refine va_get (D := g) (ci := 2) (v := .ref (ad 1)) (C := kR2) (T := kT2) (N := 11) hx hb hts kw2 hown hK hP 0 rfl rfl 2 (by decide) (hts _ wm_158) (fun _ h9 => h9) rfl d_T_prepare_34 ?_
      refine lv_iload_n hx hb d_T_prepare_37 rfl (lv_at hl 1 rfl) ?_
      obtain ⟨r_27, hG, hF⟩ := ob1_inv hF
      refine kci K hP hD hS (c_L_countOf l g cI cJ cZ ad xst_15 xse xre xgr_16 ltm_17 low_18 lta_19 llo_20 lhi_21 lmo_22 rta ron rlo rhi rmo rin res rsi rli_23 rar xgc_24 xca_6 xls xtl xno lco_25 rwa_26 rad rest a1 r_27 hG) wm_554 wm_551 wm_552 wm_553 wm_48 hd_L_countOf rfl rfl ⟨Nat.le_trans (Nat.le_of_ble_eq_true rfl) hR.1, Nat.le_trans (Nat.le_of_ble_eq_true rfl) hR.2⟩ ⟨Nat.zero_le _, Nat.zero_le _⟩ 0 1 rfl rfl rfl hl.1 (rest := []) rfl (Nat.le_of_ble_eq_true rfl) d_T_prepare_38 (fun H locs hP hD hS => ?_)
      cases hF
      exact W.mono (fun t h => Or.inl ⟨rfl, h⟩) (kri K hP hD hS d_T_prepare_41 rfl)
    · replace hF := it_f hF hk_4
      cases hF
      refine kxv K hP hD hS (cx_T_checkWorks l hlt g cI cJ cZ ad xst xse xre xgr ltm low lta llo lhi lmo rta ron rlo rhi rmo rin res rsi rli rar xgc xca xls xtl xno lco rwa rad rest a1 _  hk_4 hG) wm_324 wm_321 wm_323 wm_2 wm_46 hd_T_checkWorks rfl rfl ⟨Nat.le_trans (Nat.le_of_ble_eq_true rfl) hR.1, Nat.le_trans (Nat.le_of_ble_eq_true rfl) hR.2⟩ ⟨(hRc hk_4).1, (hRc hk_4).2⟩ 2 0 rfl rfl rfl hl.1 (rest := []) rfl (Nat.le_of_ble_eq_true rfl) d_T_prepare_6 (fun ce q9 H locs hP hD hS hce hcv hcl => ?_)
      exact kxo K hk_4 (hnt hk_4) hP hD hS hce hcv hcl
  · replace hF := it_f hF hk_2
    cases hF
    refine kxs K hP hD hS (cx_T_checkOwner l hlt g (kty cI cJ cZ) (wC cI cJ cZ ad xst xse xre xgr ltm low lta llo lhi lmo rta ron rlo rhi rmo rin res rsi rli rar xgc xca xls xtl xno lco rwa rad rest) a1 _  hk_2 hG) wm_217 wm_215 wm_216 wm_46 hd_T_checkOwner rfl rfl ⟨Nat.le_trans (Nat.le_of_ble_eq_true rfl) hR.1, Nat.le_trans (Nat.le_of_ble_eq_true rfl) hR.2⟩ ⟨(hRc hk_2).1, (hRc hk_2).2⟩ hl.1 (rest := []) rfl (Nat.le_of_ble_eq_true rfl) d_T_prepare_1 (fun ce q9 H locs hP hD hS hce hcv hcl => ?_)
    exact kxo K hk_2 (hnt hk_2) hP hD hS hce hcv hcl
theorem c_T_prepare (l : Launch) (hlt : l.stackTraces = false) (g : va_G) (cI cJ cZ : ClassId) (ad : Nat → Nat) (xst : Nat → Int32) (xse : Nat → Int32) (xre : Nat → Int32) (xgr : Nat → Int32) (ltm : Nat → Int32) (low : Nat → Int32) (lta : Nat → Int32) (llo : Nat → Int64) (lhi : Nat → Int64) (lmo : Nat → Int32) (rta : Nat → Int32) (ron : Nat → Int32) (rlo : Nat → Int64) (rhi : Nat → Int64) (rmo : Nat → Int32) (rin : Nat → Int32) (res : Nat → Int32) (rsi : Nat → Int32) (rli : Nat → Int32) (rar : Nat → Int32) (xgc : Int32) (xca : Int32) (xls : Int32) (xtl : Int32) (xno : Int32) (lco : Int32) (rwa : Int32) (rad : Int32) (rest : va_W) (a1 : Int32) (r : Int32) (o_xst : Nat → Int32) (o_xgr : Nat → Int32) (o_ltm : Nat → Int32) (o_low : Nat → Int32) (o_lta : Nat → Int32) (o_llo : Nat → Int64) (o_lhi : Nat → Int64) (o_lmo : Nat → Int32) (o_rli : Nat → Int32) (o_xgc : Int32) (o_xca : Int32) (o_lco : Int32) (o_rwa : Int32) (hF : F_T_prepare xst xgr ltm low lta llo lhi lmo rta ron rlo rhi rmo res rli xgc xca lco rwa a1 = some (0, r, o_xst, o_xgr, o_ltm, o_low, o_lta, o_llo, o_lhi, o_lmo, o_rli, o_xgc, o_xca, o_lco, o_rwa)) : Ci l y_T_prepare prog_1_method_7_code 2 (some .int) ({ frames := 7, cells := 0, slots := 0, locals := 111 }) [.ref (ad 0), .int a1] g (kty cI cJ cZ) (wC cI cJ cZ ad xst xse xre xgr ltm low lta llo lhi lmo rta ron rlo rhi rmo rin res rsi rli rar xgc xca xls xtl xno lco rwa rad rest) (wC cI cJ cZ ad o_xst xse xre o_xgr o_ltm o_low o_lta o_llo o_lhi o_lmo rta ron rlo rhi rmo rin res rsi o_rli rar o_xgc o_xca xls xtl xno o_lco o_rwa rad rest) r :=
  fun sz => Ci.ofx (Q0 := fun A => kQi g (kty cI cJ cZ) (wC cI cJ cZ ad o_xst xse xre o_xgr o_ltm o_low o_lta o_llo o_lhi o_lmo rta ron rlo rhi rmo rin res rsi o_rli rar o_xgc o_xca xls xtl xno o_lco o_rwa rad rest) A r) (XC := fun A => kQx g (kty cI cJ cZ) (wC cI cJ cZ ad o_xst xse xre o_xgr o_ltm o_low o_lta o_llo o_lhi o_lmo rta ron rlo rhi rmo rin res rsi o_rli rar o_xgc o_xca xls xtl xno o_lco o_rwa rad rest) A 0) (by decide) (Nat.le_of_ble_eq_true rfl) (fun p e s m below meth c A ls K hP hD hS hl => t_T_prepare (R := { frames := 7, cells := 0, slots := 0, locals := 111 }) K ⟨Nat.le_of_ble_eq_true rfl, Nat.le_of_ble_eq_true rfl⟩ hlt xst xse xre xgr ltm low lta llo lhi lmo rta ron rlo rhi rmo rin res rsi rli rar xgc xca xls xtl xno lco rwa rad a1 0 r o_xst o_xgr o_ltm o_low o_lta o_llo o_lhi o_lmo o_rli o_xgc o_xca o_lco o_rwa (fun h => absurd rfl h) (fun h => absurd rfl h) hF hP hD hS hl) sz
theorem cx_T_prepare (l : Launch) (hlt : l.stackTraces = false) (g : va_G) (cI cJ cZ : ClassId) (ad : Nat → Nat) (xst : Nat → Int32) (xse : Nat → Int32) (xre : Nat → Int32) (xgr : Nat → Int32) (ltm : Nat → Int32) (low : Nat → Int32) (lta : Nat → Int32) (llo : Nat → Int64) (lhi : Nat → Int64) (lmo : Nat → Int32) (rta : Nat → Int32) (ron : Nat → Int32) (rlo : Nat → Int64) (rhi : Nat → Int64) (rmo : Nat → Int32) (rin : Nat → Int32) (res : Nat → Int32) (rsi : Nat → Int32) (rli : Nat → Int32) (rar : Nat → Int32) (xgc : Int32) (xca : Int32) (xls : Int32) (xtl : Int32) (xno : Int32) (lco : Int32) (rwa : Int32) (rad : Int32) (rest : va_W) (a1 : Int32) (kx : Nat) (r : Int32) (o_xst : Nat → Int32) (o_xgr : Nat → Int32) (o_ltm : Nat → Int32) (o_low : Nat → Int32) (o_lta : Nat → Int32) (o_llo : Nat → Int64) (o_lhi : Nat → Int64) (o_lmo : Nat → Int32) (o_rli : Nat → Int32) (o_xgc : Int32) (o_xca : Int32) (o_lco : Int32) (o_rwa : Int32) (hk : kx ≠ 0) (hF : F_T_prepare xst xgr ltm low lta llo lhi lmo rta ron rlo rhi rmo res rli xgc xca lco rwa a1 = some (kx, r, o_xst, o_xgr, o_ltm, o_low, o_lta, o_llo, o_lhi, o_lmo, o_rli, o_xgc, o_xca, o_lco, o_rwa)) : Cx l y_T_prepare prog_1_method_7_code 2 (some .int) ({ frames := 7, cells := 1, slots := 6, locals := 111 }) [.ref (ad 0), .int a1] g (kty cI cJ cZ) (wC cI cJ cZ ad xst xse xre xgr ltm low lta llo lhi lmo rta ron rlo rhi rmo rin res rsi rli rar xgc xca xls xtl xno lco rwa rad rest) (wC cI cJ cZ ad o_xst xse xre o_xgr o_ltm o_low o_lta o_llo o_lhi o_lmo rta ron rlo rhi rmo rin res rsi o_rli rar o_xgc o_xca xls xtl xno o_lco o_rwa rad rest) kx :=
  Cx.of (Q0 := fun A => kQi g (kty cI cJ cZ) (wC cI cJ cZ ad o_xst xse xre o_xgr o_ltm o_low o_lta o_llo o_lhi o_lmo rta ron rlo rhi rmo rin res rsi o_rli rar o_xgc o_xca xls xtl xno o_lco o_rwa rad rest) A r) hk (by decide) (Nat.le_of_ble_eq_true rfl) (fun p e s m below meth c A ls hnt K hP hD hS hl => t_T_prepare (R := { frames := 7, cells := 1, slots := 6, locals := 111 }) K ⟨Nat.le_of_ble_eq_true rfl, Nat.le_of_ble_eq_true rfl⟩ hlt xst xse xre xgr ltm low lta llo lhi lmo rta ron rlo rhi rmo rin res rsi rli rar xgc xca xls xtl xno lco rwa rad a1 kx r o_xst o_xgr o_ltm o_low o_lta o_llo o_lhi o_lmo o_rli o_xgc o_xca o_lco o_rwa (fun _ => ⟨Nat.le_of_ble_eq_true rfl, Nat.le_of_ble_eq_true rfl⟩) (fun _ => hnt) hF hP hD hS hl)
def F_T_unread (xst : Nat → Int32) (xgr : Nat → Int32) (ltm : Nat → Int32) (low : Nat → Int32) (lta : Nat → Int32) (llo : Nat → Int64) (lhi : Nat → Int64) (lmo : Nat → Int32) (rta : Nat → Int32) (ron : Nat → Int32) (rlo : Nat → Int64) (rhi : Nat → Int64) (rmo : Nat → Int32) (res : Nat → Int32) (rli : Nat → Int32) (xgc : Int32) (xca : Int32) (lco : Int32) (rwa : Int32) (a1 : Int32) : Option (Nat × Int32 × (Nat → Int32) × (Nat → Int32) × (Nat → Int32) × (Nat → Int32) × (Nat → Int32) × (Nat → Int64) × (Nat → Int64) × (Nat → Int32) × (Nat → Int32) × Int32 × Int32 × Int32 × Int32) :=
  ob1 (F_T_checkOwner a1) (fun k_1 => if k_1 = 0 then ob1 (F_T_checkWorks xst a1) (fun k_3 => if k_3 = 0 then ob2 (F_T_startCall xgc xca a1) (fun xgc_5 xca_6 => ob7 (F_L_dropReading ltm low lta llo lhi lmo lco a1) (fun ltm_7 low_8 lta_9 llo_10 lhi_11 lmo_12 lco_13 => ob12 (F_T_lookAtAll xst xgr ltm_7 low_8 lta_9 llo_10 lhi_11 lmo_12 rta ron rlo rhi rmo res rli xgc_5 xca_6 lco_13 rwa) (fun xst_14 xgr_15 ltm_16 low_17 lta_18 llo_19 lhi_20 lmo_21 rli_22 xgc_23 lco_24 rwa_25 => some (0, xgc_23, xst_14, xgr_15, ltm_16, low_17, lta_18, llo_19, lhi_20, lmo_21, rli_22, xgc_23, xca_6, lco_24, rwa_25)))) else some (k_3, 0, xst, xgr, ltm, low, lta, llo, lhi, lmo, rli, xgc, xca, lco, rwa)) else some (k_1, 0, xst, xgr, ltm, low, lta, llo, lhi, lmo, rli, xgc, xca, lco, rwa))
set_option maxHeartbeats 4000000 in
set_option maxRecDepth 100000 in
theorem t_T_unread {p : Program} {l : Launch} {e : Env} {s : State} {m : MethodId} {args : Array Value} {below : List Frame} {meth : Method} {c : Code} {A : Nat → Prop} {g : va_G} {cI cJ cZ : ClassId} {ad : Nat → Nat} {rest : va_W} (K : kX p s m args meth c "LockTable" prog_1_method_8_code 2 (some .int) A g (kty cI cJ cZ)) {R : Room} (hR : 7 ≤ R.frames ∧ 111 ≤ R.locals) (hlt : l.stackTraces = false) (xst : Nat → Int32) (xse : Nat → Int32) (xre : Nat → Int32) (xgr : Nat → Int32) (ltm : Nat → Int32) (low : Nat → Int32) (lta : Nat → Int32) (llo : Nat → Int64) (lhi : Nat → Int64) (lmo : Nat → Int32) (rta : Nat → Int32) (ron : Nat → Int32) (rlo : Nat → Int64) (rhi : Nat → Int64) (rmo : Nat → Int32) (rin : Nat → Int32) (res : Nat → Int32) (rsi : Nat → Int32) (rli : Nat → Int32) (rar : Nat → Int32) (xgc : Int32) (xca : Int32) (xls : Int32) (xtl : Int32) (xno : Int32) (lco : Int32) (rwa : Int32) (rad : Int32) (a1 : Int32) (kx : Nat) (r : Int32) (o_xst : Nat → Int32) (o_xgr : Nat → Int32) (o_ltm : Nat → Int32) (o_low : Nat → Int32) (o_lta : Nat → Int32) (o_llo : Nat → Int64) (o_lhi : Nat → Int64) (o_lmo : Nat → Int32) (o_rli : Nat → Int32) (o_xgc : Int32) (o_xca : Int32) (o_lco : Int32) (o_rwa : Int32) (hRc : kx ≠ 0 → 1 ≤ R.cells ∧ 6 ≤ R.slots) (hnt : kx ≠ 0 → ∀ x ∈ c.exceptionTable.toList, False) (hF : F_T_unread xst xgr ltm low lta llo lhi lmo rta ron rlo rhi rmo res rli xgc xca lco rwa a1 = some (kx, r, o_xst, o_xgr, o_ltm, o_low, o_lta, o_llo, o_lhi, o_lmo, o_rli, o_xgc, o_xca, o_lco, o_rwa)) {H : Heap} {locs : List Loc} {ls : Array Slot} (hP : va_P g kcl (wC cI cJ cZ ad xst xse xre xgr ltm low lta llo lhi lmo rta ron rlo rhi rmo rin res rsi rli rar xgc xca xls xtl xno lco rwa rad rest) H) (hD : va_D A (wC cI cJ cZ ad xst xse xre xgr ltm low lta llo lhi lmo rta ron rlo rhi rmo rin res rsi rli rar xgc xca xls xtl xno lco rwa rad rest)) (hS : va_S A s.heap H locs) (hl : lv_has ls 2 [(0, .ref (ad 0)), (1, .int a1)]) : W p l e (R) s m args below meth c H locs 0 0 (kSel below args s A kx (kQi g (kty cI cJ cZ) (wC cI cJ cZ ad o_xst xse xre o_xgr o_ltm o_low o_lta o_llo o_lhi o_lmo rta ron rlo rhi rmo rin res rsi o_rli rar o_xgc o_xca xls xtl xno o_lco o_rwa rad rest) A r) (kQx g (kty cI cJ cZ) (wC cI cJ cZ ad o_xst xse xre o_xgr o_ltm o_low o_lta o_llo o_lhi o_lmo rta ron rlo rhi rmo rin res rsi o_rli rar o_xgc o_xca xls xtl xno o_lco o_rwa rad rest) A kx)) (F0 m 0 ls []) := by
  obtain ⟨hx, hb, hr, hml, hown, hts, hlocks, hK, hA, hE⟩ := id K
  unfold F_T_unread at hF
  refine lv_iload_n hx hb d_T_unread_0 rfl (lv_at hl 1 rfl) ?_
  obtain ⟨k_1, hG, hF⟩ := ob1_inv hF
  by_cases hk_2 : k_1 = 0
  · replace hF := it_t hF hk_2
    subst hk_2
    refine ksv K hP hD hS (c_T_checkOwner l hlt g (kty cI cJ cZ) (wC cI cJ cZ ad xst xse xre xgr ltm low lta llo lhi lmo rta ron rlo rhi rmo rin res rsi rli rar xgc xca xls xtl xno lco rwa rad rest) a1  hG) wm_217 wm_215 wm_216 wm_46 hd_T_checkOwner rfl rfl ⟨Nat.le_trans (Nat.le_of_ble_eq_true rfl) hR.1, Nat.le_trans (Nat.le_of_ble_eq_true rfl) hR.2⟩ ⟨Nat.zero_le _, Nat.zero_le _⟩ hl.1 (rest := []) rfl (Nat.le_of_ble_eq_true rfl) d_T_unread_1 (fun H locs hP hD hS => ?_)
    refine lv_aload_n hx hb d_T_unread_4 rfl (lv_at hl 0 rfl) ?_
    refine lv_iload_n hx hb d_T_unread_5 rfl (lv_at hl 1 rfl) ?_
    obtain ⟨k_3, hG, hF⟩ := ob1_inv hF
    by_cases hk_4 : k_3 = 0
    · replace hF := it_t hF hk_4
      subst hk_4
      refine kcv K hP hD hS (c_T_checkWorks l hlt g cI cJ cZ ad xst xse xre xgr ltm low lta llo lhi lmo rta ron rlo rhi rmo rin res rsi rli rar xgc xca xls xtl xno lco rwa rad rest a1  hG) wm_324 wm_321 wm_323 wm_2 wm_46 hd_T_checkWorks rfl rfl ⟨Nat.le_trans (Nat.le_of_ble_eq_true rfl) hR.1, Nat.le_trans (Nat.le_of_ble_eq_true rfl) hR.2⟩ ⟨Nat.zero_le _, Nat.zero_le _⟩ 2 0 rfl rfl rfl hl.1 (rest := []) rfl (Nat.le_of_ble_eq_true rfl) d_T_unread_6 (fun H locs hP hD hS => ?_)
      refine lv_aload_n hx hb d_T_unread_9 rfl (lv_at hl 0 rfl) ?_
      refine lv_iload_n hx hb d_T_unread_10 rfl (lv_at hl 1 rfl) ?_
      obtain ⟨xgc_5, xca_6, hG, hF⟩ := ob2_inv hF
      refine kcv K hP hD hS (c_T_startCall l g cI cJ cZ ad xst xse xre xgr ltm low lta llo lhi lmo rta ron rlo rhi rmo rin res rsi rli rar xgc xca xls xtl xno lco rwa rad rest a1 xgc_5 xca_6 hG) wm_305 wm_302 wm_304 wm_1 wm_46 hd_T_startCall rfl rfl ⟨Nat.le_trans (Nat.le_of_ble_eq_true rfl) hR.1, Nat.le_trans (Nat.le_of_ble_eq_true rfl) hR.2⟩ ⟨Nat.zero_le _, Nat.zero_le _⟩ 2 0 rfl rfl rfl hl.1 (rest := []) rfl (Nat.le_of_ble_eq_true rfl) d_T_unread_11 (fun H locs hP hD hS => ?_)
      refine lv_aload_n hx hb d_T_unread_14 rfl (lv_at hl 0 rfl) ?_
      refine va_get (D := g) (ci := 2) (v := .ref (ad 1)) (C := kR2) (T := kT2) (N := 11) hx hb hts kw2 hown hK hP 0 rfl rfl 2 (by decide) (hts _ wm_158) (fun _ h9 => h9) rfl d_T_unread_15 ?_
      refine lv_iload_n hx hb d_T_unread_18 rfl (lv_at hl 1 rfl) ?_
      obtain ⟨ltm_7, low_8, lta_9, llo_10, lhi_11, lmo_12, lco_13, hG, hF⟩ := ob7_inv hF
      refine kcv K hP hD hS (c_L_dropReading l g cI cJ cZ ad xst xse xre xgr ltm low lta llo lhi lmo rta ron rlo rhi rmo rin res rsi rli rar xgc_5 xca_6 xls xtl xno lco rwa rad rest a1 ltm_7 low_8 lta_9 llo_10 lhi_11 lmo_12 lco_13 hG) wm_546 wm_543 wm_544 wm_545 wm_48 hd_L_dropReading rfl rfl ⟨Nat.le_trans (Nat.le_of_ble_eq_true rfl) hR.1, Nat.le_trans (Nat.le_of_ble_eq_true rfl) hR.2⟩ ⟨Nat.zero_le _, Nat.zero_le _⟩ 0 1 rfl rfl rfl hl.1 (rest := []) rfl (Nat.le_of_ble_eq_true rfl) d_T_unread_19 (fun H locs hP hD hS => ?_)
      refine lv_aload_n hx hb d_T_unread_22 rfl (lv_at hl 0 rfl) ?_
      obtain ⟨xst_14, xgr_15, ltm_16, low_17, lta_18, llo_19, lhi_20, lmo_21, rli_22, xgc_23, lco_24, rwa_25, hG, hF⟩ := ob12_inv hF
      refine kcv K hP hD hS (c_T_lookAtAll l g cI cJ cZ ad xst xse xre xgr ltm_7 low_8 lta_9 llo_10 lhi_11 lmo_12 rta ron rlo rhi rmo rin res rsi rli rar xgc_5 xca_6 xls xtl xno lco_13 rwa rad rest  xst_14 xgr_15 ltm_16 low_17 lta_18 llo_19 lhi_20 lmo_21 rli_22 xgc_23 lco_24 rwa_25 hG) wm_421 wm_418 wm_420 wm_11 wm_46 hd_T_lookAtAll rfl rfl ⟨Nat.le_trans (Nat.le_of_ble_eq_true rfl) hR.1, Nat.le_trans (Nat.le_of_ble_eq_true rfl) hR.2⟩ ⟨Nat.zero_le _, Nat.zero_le _⟩ 2 0 rfl rfl rfl hl.1 (rest := []) rfl (Nat.le_of_ble_eq_true rfl) d_T_unread_23 (fun H locs hP hD hS => ?_)
      refine lv_aload_n hx hb d_T_unread_26 rfl (lv_at hl 0 rfl) ?_
      refine va_get (D := g) (ci := 2) (v := .int xgc_23) (C := kR2) (T := kT2) (N := 11) hx hb hts kw2 hown hK hP 0 rfl rfl 6 (by decide) (hts _ wm_162) (fun _ h9 => h9) rfl d_T_unread_27 ?_
      cases hF
      exact W.mono (fun t h => Or.inl ⟨rfl, h⟩) (kri K hP hD hS d_T_unread_30 rfl)
    · replace hF := it_f hF hk_4
      cases hF
      refine kxv K hP hD hS (cx_T_checkWorks l hlt g cI cJ cZ ad xst xse xre xgr ltm low lta llo lhi lmo rta ron rlo rhi rmo rin res rsi rli rar xgc xca xls xtl xno lco rwa rad rest a1 _  hk_4 hG) wm_324 wm_321 wm_323 wm_2 wm_46 hd_T_checkWorks rfl rfl ⟨Nat.le_trans (Nat.le_of_ble_eq_true rfl) hR.1, Nat.le_trans (Nat.le_of_ble_eq_true rfl) hR.2⟩ ⟨(hRc hk_4).1, (hRc hk_4).2⟩ 2 0 rfl rfl rfl hl.1 (rest := []) rfl (Nat.le_of_ble_eq_true rfl) d_T_unread_6 (fun ce q9 H locs hP hD hS hce hcv hcl => ?_)
      exact kxo K hk_4 (hnt hk_4) hP hD hS hce hcv hcl
  · replace hF := it_f hF hk_2
    cases hF
    refine kxs K hP hD hS (cx_T_checkOwner l hlt g (kty cI cJ cZ) (wC cI cJ cZ ad xst xse xre xgr ltm low lta llo lhi lmo rta ron rlo rhi rmo rin res rsi rli rar xgc xca xls xtl xno lco rwa rad rest) a1 _  hk_2 hG) wm_217 wm_215 wm_216 wm_46 hd_T_checkOwner rfl rfl ⟨Nat.le_trans (Nat.le_of_ble_eq_true rfl) hR.1, Nat.le_trans (Nat.le_of_ble_eq_true rfl) hR.2⟩ ⟨(hRc hk_2).1, (hRc hk_2).2⟩ hl.1 (rest := []) rfl (Nat.le_of_ble_eq_true rfl) d_T_unread_1 (fun ce q9 H locs hP hD hS hce hcv hcl => ?_)
    exact kxo K hk_2 (hnt hk_2) hP hD hS hce hcv hcl
theorem c_T_unread (l : Launch) (hlt : l.stackTraces = false) (g : va_G) (cI cJ cZ : ClassId) (ad : Nat → Nat) (xst : Nat → Int32) (xse : Nat → Int32) (xre : Nat → Int32) (xgr : Nat → Int32) (ltm : Nat → Int32) (low : Nat → Int32) (lta : Nat → Int32) (llo : Nat → Int64) (lhi : Nat → Int64) (lmo : Nat → Int32) (rta : Nat → Int32) (ron : Nat → Int32) (rlo : Nat → Int64) (rhi : Nat → Int64) (rmo : Nat → Int32) (rin : Nat → Int32) (res : Nat → Int32) (rsi : Nat → Int32) (rli : Nat → Int32) (rar : Nat → Int32) (xgc : Int32) (xca : Int32) (xls : Int32) (xtl : Int32) (xno : Int32) (lco : Int32) (rwa : Int32) (rad : Int32) (rest : va_W) (a1 : Int32) (r : Int32) (o_xst : Nat → Int32) (o_xgr : Nat → Int32) (o_ltm : Nat → Int32) (o_low : Nat → Int32) (o_lta : Nat → Int32) (o_llo : Nat → Int64) (o_lhi : Nat → Int64) (o_lmo : Nat → Int32) (o_rli : Nat → Int32) (o_xgc : Int32) (o_xca : Int32) (o_lco : Int32) (o_rwa : Int32) (hF : F_T_unread xst xgr ltm low lta llo lhi lmo rta ron rlo rhi rmo res rli xgc xca lco rwa a1 = some (0, r, o_xst, o_xgr, o_ltm, o_low, o_lta, o_llo, o_lhi, o_lmo, o_rli, o_xgc, o_xca, o_lco, o_rwa)) : Ci l y_T_unread prog_1_method_8_code 2 (some .int) ({ frames := 7, cells := 0, slots := 0, locals := 111 }) [.ref (ad 0), .int a1] g (kty cI cJ cZ) (wC cI cJ cZ ad xst xse xre xgr ltm low lta llo lhi lmo rta ron rlo rhi rmo rin res rsi rli rar xgc xca xls xtl xno lco rwa rad rest) (wC cI cJ cZ ad o_xst xse xre o_xgr o_ltm o_low o_lta o_llo o_lhi o_lmo rta ron rlo rhi rmo rin res rsi o_rli rar o_xgc o_xca xls xtl xno o_lco o_rwa rad rest) r :=
  fun sz => Ci.ofx (Q0 := fun A => kQi g (kty cI cJ cZ) (wC cI cJ cZ ad o_xst xse xre o_xgr o_ltm o_low o_lta o_llo o_lhi o_lmo rta ron rlo rhi rmo rin res rsi o_rli rar o_xgc o_xca xls xtl xno o_lco o_rwa rad rest) A r) (XC := fun A => kQx g (kty cI cJ cZ) (wC cI cJ cZ ad o_xst xse xre o_xgr o_ltm o_low o_lta o_llo o_lhi o_lmo rta ron rlo rhi rmo rin res rsi o_rli rar o_xgc o_xca xls xtl xno o_lco o_rwa rad rest) A 0) (by decide) (Nat.le_of_ble_eq_true rfl) (fun p e s m below meth c A ls K hP hD hS hl => t_T_unread (R := { frames := 7, cells := 0, slots := 0, locals := 111 }) K ⟨Nat.le_of_ble_eq_true rfl, Nat.le_of_ble_eq_true rfl⟩ hlt xst xse xre xgr ltm low lta llo lhi lmo rta ron rlo rhi rmo rin res rsi rli rar xgc xca xls xtl xno lco rwa rad a1 0 r o_xst o_xgr o_ltm o_low o_lta o_llo o_lhi o_lmo o_rli o_xgc o_xca o_lco o_rwa (fun h => absurd rfl h) (fun h => absurd rfl h) hF hP hD hS hl) sz
theorem cx_T_unread (l : Launch) (hlt : l.stackTraces = false) (g : va_G) (cI cJ cZ : ClassId) (ad : Nat → Nat) (xst : Nat → Int32) (xse : Nat → Int32) (xre : Nat → Int32) (xgr : Nat → Int32) (ltm : Nat → Int32) (low : Nat → Int32) (lta : Nat → Int32) (llo : Nat → Int64) (lhi : Nat → Int64) (lmo : Nat → Int32) (rta : Nat → Int32) (ron : Nat → Int32) (rlo : Nat → Int64) (rhi : Nat → Int64) (rmo : Nat → Int32) (rin : Nat → Int32) (res : Nat → Int32) (rsi : Nat → Int32) (rli : Nat → Int32) (rar : Nat → Int32) (xgc : Int32) (xca : Int32) (xls : Int32) (xtl : Int32) (xno : Int32) (lco : Int32) (rwa : Int32) (rad : Int32) (rest : va_W) (a1 : Int32) (kx : Nat) (r : Int32) (o_xst : Nat → Int32) (o_xgr : Nat → Int32) (o_ltm : Nat → Int32) (o_low : Nat → Int32) (o_lta : Nat → Int32) (o_llo : Nat → Int64) (o_lhi : Nat → Int64) (o_lmo : Nat → Int32) (o_rli : Nat → Int32) (o_xgc : Int32) (o_xca : Int32) (o_lco : Int32) (o_rwa : Int32) (hk : kx ≠ 0) (hF : F_T_unread xst xgr ltm low lta llo lhi lmo rta ron rlo rhi rmo res rli xgc xca lco rwa a1 = some (kx, r, o_xst, o_xgr, o_ltm, o_low, o_lta, o_llo, o_lhi, o_lmo, o_rli, o_xgc, o_xca, o_lco, o_rwa)) : Cx l y_T_unread prog_1_method_8_code 2 (some .int) ({ frames := 7, cells := 1, slots := 6, locals := 111 }) [.ref (ad 0), .int a1] g (kty cI cJ cZ) (wC cI cJ cZ ad xst xse xre xgr ltm low lta llo lhi lmo rta ron rlo rhi rmo rin res rsi rli rar xgc xca xls xtl xno lco rwa rad rest) (wC cI cJ cZ ad o_xst xse xre o_xgr o_ltm o_low o_lta o_llo o_lhi o_lmo rta ron rlo rhi rmo rin res rsi o_rli rar o_xgc o_xca xls xtl xno o_lco o_rwa rad rest) kx :=
  Cx.of (Q0 := fun A => kQi g (kty cI cJ cZ) (wC cI cJ cZ ad o_xst xse xre o_xgr o_ltm o_low o_lta o_llo o_lhi o_lmo rta ron rlo rhi rmo rin res rsi o_rli rar o_xgc o_xca xls xtl xno o_lco o_rwa rad rest) A r) hk (by decide) (Nat.le_of_ble_eq_true rfl) (fun p e s m below meth c A ls hnt K hP hD hS hl => t_T_unread (R := { frames := 7, cells := 1, slots := 6, locals := 111 }) K ⟨Nat.le_of_ble_eq_true rfl, Nat.le_of_ble_eq_true rfl⟩ hlt xst xse xre xgr ltm low lta llo lhi lmo rta ron rlo rhi rmo rin res rsi rli rar xgc xca xls xtl xno lco rwa rad a1 kx r o_xst o_xgr o_ltm o_low o_lta o_llo o_lhi o_lmo o_rli o_xgc o_xca o_lco o_rwa (fun _ => ⟨Nat.le_of_ble_eq_true rfl, Nat.le_of_ble_eq_true rfl⟩) (fun _ => hnt) hF hP hD hS hl)
def F_T_end (xst : Nat → Int32) (xse : Nat → Int32) (xgr : Nat → Int32) (ltm : Nat → Int32) (low : Nat → Int32) (lta : Nat → Int32) (llo : Nat → Int64) (lhi : Nat → Int64) (lmo : Nat → Int32) (rta : Nat → Int32) (ron : Nat → Int32) (rlo : Nat → Int64) (rhi : Nat → Int64) (rmo : Nat → Int32) (res : Nat → Int32) (rli : Nat → Int32) (xgc : Int32) (xca : Int32) (lco : Int32) (rwa : Int32) (a1 : Int32) : Option (Nat × Int32 × (Nat → Int32) × (Nat → Int32) × (Nat → Int32) × (Nat → Int32) × (Nat → Int32) × (Nat → Int32) × (Nat → Int64) × (Nat → Int64) × (Nat → Int32) × (Nat → Int32) × Int32 × Int32 × Int32 × Int32) :=
  ob1 (F_T_checkOwner a1) (fun k_1 => if k_1 = 0 then gd (a1 < 0 ∨ 8 ≤ a1.toNatClampNeg) (if (xst a1.toNatClampNeg) = 0 then some (2, 0, xst, xse, xgr, ltm, low, lta, llo, lhi, lmo, rli, xgc, xca, lco, rwa) else ob2 (F_T_startCall xgc xca a1) (fun xgc_5 xca_6 => ob7 (F_L_dropAll ltm low lta llo lhi lmo lco a1) (fun ltm_7 low_8 lta_9 llo_10 lhi_11 lmo_12 lco_13 => gd (a1 < 0 ∨ 8 ≤ a1.toNatClampNeg) (ob3 (F_T_takeBack xst rli rwa a1 0) (fun xst_15 rli_16 rwa_17 => ob12 (F_T_lookAtAll xst_15 xgr ltm_7 low_8 lta_9 llo_10 lhi_11 lmo_12 rta ron rlo rhi rmo res rli_16 xgc_5 xca_6 lco_13 rwa_17) (fun xst_18 xgr_19 ltm_20 low_21 lta_22 llo_23 lhi_24 lmo_25 rli_26 xgc_27 lco_28 rwa_29 => some (0, xgc_27, xst_18, upd xse a1.toNatClampNeg (-1), xgr_19, ltm_20, low_21, lta_22, llo_23, lhi_24, lmo_25, rli_26, xgc_27, xca_6, lco_28, rwa_29))))))) else some (k_1, 0, xst, xse, xgr, ltm, low, lta, llo, lhi, lmo, rli, xgc, xca, lco, rwa))
set_option maxHeartbeats 4000000 in
set_option maxRecDepth 100000 in
theorem t_T_end {p : Program} {l : Launch} {e : Env} {s : State} {m : MethodId} {args : Array Value} {below : List Frame} {meth : Method} {c : Code} {A : Nat → Prop} {g : va_G} {cI cJ cZ : ClassId} {ad : Nat → Nat} {rest : va_W} (K : kX p s m args meth c "LockTable" prog_1_method_9_code 2 (some .int) A g (kty cI cJ cZ)) {R : Room} (hR : 7 ≤ R.frames ∧ 110 ≤ R.locals) (hlt : l.stackTraces = false) (xst : Nat → Int32) (xse : Nat → Int32) (xre : Nat → Int32) (xgr : Nat → Int32) (ltm : Nat → Int32) (low : Nat → Int32) (lta : Nat → Int32) (llo : Nat → Int64) (lhi : Nat → Int64) (lmo : Nat → Int32) (rta : Nat → Int32) (ron : Nat → Int32) (rlo : Nat → Int64) (rhi : Nat → Int64) (rmo : Nat → Int32) (rin : Nat → Int32) (res : Nat → Int32) (rsi : Nat → Int32) (rli : Nat → Int32) (rar : Nat → Int32) (xgc : Int32) (xca : Int32) (xls : Int32) (xtl : Int32) (xno : Int32) (lco : Int32) (rwa : Int32) (rad : Int32) (a1 : Int32) (kx : Nat) (r : Int32) (o_xst : Nat → Int32) (o_xse : Nat → Int32) (o_xgr : Nat → Int32) (o_ltm : Nat → Int32) (o_low : Nat → Int32) (o_lta : Nat → Int32) (o_llo : Nat → Int64) (o_lhi : Nat → Int64) (o_lmo : Nat → Int32) (o_rli : Nat → Int32) (o_xgc : Int32) (o_xca : Int32) (o_lco : Int32) (o_rwa : Int32) (hRc : kx ≠ 0 → 1 ≤ R.cells ∧ 6 ≤ R.slots) (hnt : kx ≠ 0 → ∀ x ∈ c.exceptionTable.toList, False) (hF : F_T_end xst xse xgr ltm low lta llo lhi lmo rta ron rlo rhi rmo res rli xgc xca lco rwa a1 = some (kx, r, o_xst, o_xse, o_xgr, o_ltm, o_low, o_lta, o_llo, o_lhi, o_lmo, o_rli, o_xgc, o_xca, o_lco, o_rwa)) {H : Heap} {locs : List Loc} {ls : Array Slot} (hP : va_P g kcl (wC cI cJ cZ ad xst xse xre xgr ltm low lta llo lhi lmo rta ron rlo rhi rmo rin res rsi rli rar xgc xca xls xtl xno lco rwa rad rest) H) (hD : va_D A (wC cI cJ cZ ad xst xse xre xgr ltm low lta llo lhi lmo rta ron rlo rhi rmo rin res rsi rli rar xgc xca xls xtl xno lco rwa rad rest)) (hS : va_S A s.heap H locs) (hl : lv_has ls 2 [(0, .ref (ad 0)), (1, .int a1)]) : W p l e (R) s m args below meth c H locs 0 0 (kSel below args s A kx (kQi g (kty cI cJ cZ) (wC cI cJ cZ ad o_xst o_xse xre o_xgr o_ltm o_low o_lta o_llo o_lhi o_lmo rta ron rlo rhi rmo rin res rsi o_rli rar o_xgc o_xca xls xtl xno o_lco o_rwa rad rest) A r) (kQx g (kty cI cJ cZ) (wC cI cJ cZ ad o_xst o_xse xre o_xgr o_ltm o_low o_lta o_llo o_lhi o_lmo rta ron rlo rhi rmo rin res rsi o_rli rar o_xgc o_xca xls xtl xno o_lco o_rwa rad rest) A kx)) (F0 m 0 ls []) := by
  obtain ⟨hx, hb, hr, hml, hown, hts, hlocks, hK, hA, hE⟩ := id K
  unfold F_T_end at hF
  refine lv_iload_n hx hb d_T_end_0 rfl (lv_at hl 1 rfl) ?_
  obtain ⟨k_1, hG, hF⟩ := ob1_inv hF
  by_cases hk_2 : k_1 = 0
  · replace hF := it_t hF hk_2
    subst hk_2
    refine ksv K hP hD hS (c_T_checkOwner l hlt g (kty cI cJ cZ) (wC cI cJ cZ ad xst xse xre xgr ltm low lta llo lhi lmo rta ron rlo rhi rmo rin res rsi rli rar xgc xca xls xtl xno lco rwa rad rest) a1  hG) wm_217 wm_215 wm_216 wm_46 hd_T_checkOwner rfl rfl ⟨Nat.le_trans (Nat.le_of_ble_eq_true rfl) hR.1, Nat.le_trans (Nat.le_of_ble_eq_true rfl) hR.2⟩ ⟨Nat.zero_le _, Nat.zero_le _⟩ hl.1 (rest := []) rfl (Nat.le_of_ble_eq_true rfl) d_T_end_1 (fun H locs hP hD hS => ?_)
    refine lv_aload_n hx hb d_T_end_4 rfl (lv_at hl 0 rfl) ?_
    refine va_get (D := g) (ci := 2) (v := .ref (ad 3)) (C := kR2) (T := kT2) (N := 11) hx hb hts kw2 hown hK hP 0 rfl rfl 0 (by decide) (hts _ wm_156) (fun _ h9 => h9) rfl d_T_end_5 ?_
    refine lv_iload_n hx hb d_T_end_8 rfl (lv_at hl 1 rfl) ?_
    obtain ⟨hg_3, hF⟩ := gd_inv hF
    refine va_iald hx hb hK hP 3 0 rfl rfl hg_3 d_T_end_9 ?_
    refine lv_if_ne (tgt := 23) hx hb d_T_end_10 (by decide) (fun hc_4 => ?_) (fun hc_4 => ?_)
    · have hF := it_f hF hc_4
      refine lv_aload_n hx hb d_T_end_23 rfl (lv_at hl 0 rfl) ?_
      refine lv_iload_n hx hb d_T_end_24 rfl (lv_at hl 1 rfl) ?_
      obtain ⟨xgc_5, xca_6, hG, hF⟩ := ob2_inv hF
      refine kcv K hP hD hS (c_T_startCall l g cI cJ cZ ad xst xse xre xgr ltm low lta llo lhi lmo rta ron rlo rhi rmo rin res rsi rli rar xgc xca xls xtl xno lco rwa rad rest a1 xgc_5 xca_6 hG) wm_305 wm_302 wm_304 wm_1 wm_46 hd_T_startCall rfl rfl ⟨Nat.le_trans (Nat.le_of_ble_eq_true rfl) hR.1, Nat.le_trans (Nat.le_of_ble_eq_true rfl) hR.2⟩ ⟨Nat.zero_le _, Nat.zero_le _⟩ 2 0 rfl rfl rfl hl.1 (rest := []) rfl (Nat.le_of_ble_eq_true rfl) d_T_end_25 (fun H locs hP hD hS => ?_)
      refine lv_aload_n hx hb d_T_end_28 rfl (lv_at hl 0 rfl) ?_
      refine va_get (D := g) (ci := 2) (v := .ref (ad 1)) (C := kR2) (T := kT2) (N := 11) hx hb hts kw2 hown hK hP 0 rfl rfl 2 (by decide) (hts _ wm_158) (fun _ h9 => h9) rfl d_T_end_29 ?_
      refine lv_iload_n hx hb d_T_end_32 rfl (lv_at hl 1 rfl) ?_
      obtain ⟨ltm_7, low_8, lta_9, llo_10, lhi_11, lmo_12, lco_13, hG, hF⟩ := ob7_inv hF
      refine kcv K hP hD hS (c_L_dropAll l g cI cJ cZ ad xst xse xre xgr ltm low lta llo lhi lmo rta ron rlo rhi rmo rin res rsi rli rar xgc_5 xca_6 xls xtl xno lco rwa rad rest a1 ltm_7 low_8 lta_9 llo_10 lhi_11 lmo_12 lco_13 hG) wm_573 wm_570 wm_571 wm_572 wm_48 hd_L_dropAll rfl rfl ⟨Nat.le_trans (Nat.le_of_ble_eq_true rfl) hR.1, Nat.le_trans (Nat.le_of_ble_eq_true rfl) hR.2⟩ ⟨Nat.zero_le _, Nat.zero_le _⟩ 0 1 rfl rfl rfl hl.1 (rest := []) rfl (Nat.le_of_ble_eq_true rfl) d_T_end_33 (fun H locs hP hD hS => ?_)
      refine lv_aload_n hx hb d_T_end_36 rfl (lv_at hl 0 rfl) ?_
      refine va_get (D := g) (ci := 2) (v := .ref (ad 4)) (C := kR2) (T := kT2) (N := 11) hx hb hts kw2 hown hK hP 0 rfl rfl 1 (by decide) (hts _ wm_157) (fun _ h9 => h9) rfl d_T_end_37 ?_
      refine lv_iload_n hx hb d_T_end_40 rfl (lv_at hl 1 rfl) ?_
      refine lv_iconst (v := (-1)) hx hb d_T_end_41 (by decide) ?_
      obtain ⟨hg_14, hF⟩ := gd_inv hF
      refine va_iast hx hb hK hP hD hS 4 0 rfl rfl hg_14 d_T_end_42 (fun H locs hP hD hS => ?_)
      have hP : va_P g kcl (wC cI cJ cZ ad xst (upd xse a1.toNatClampNeg (-1)) xre xgr ltm_7 low_8 lta_9 llo_10 lhi_11 lmo_12 rta ron rlo rhi rmo rin res rsi rli rar xgc_5 xca_6 xls xtl xno lco_13 rwa rad rest) H := hP
      have hD : va_D A (wC cI cJ cZ ad xst (upd xse a1.toNatClampNeg (-1)) xre xgr ltm_7 low_8 lta_9 llo_10 lhi_11 lmo_12 rta ron rlo rhi rmo rin res rsi rli rar xgc_5 xca_6 xls xtl xno lco_13 rwa rad rest) := hD
      refine lv_aload_n hx hb d_T_end_43 rfl (lv_at hl 0 rfl) ?_
      refine lv_iload_n hx hb d_T_end_44 rfl (lv_at hl 1 rfl) ?_
      refine lv_iconst (v := 0) hx hb d_T_end_45 (by decide) ?_
      obtain ⟨xst_15, rli_16, rwa_17, hG, hF⟩ := ob3_inv hF
      refine kcv K hP hD hS (c_T_takeBack l g cI cJ cZ ad xst (upd xse a1.toNatClampNeg (-1)) xre xgr ltm_7 low_8 lta_9 llo_10 lhi_11 lmo_12 rta ron rlo rhi rmo rin res rsi rli rar xgc_5 xca_6 xls xtl xno lco_13 rwa rad rest a1 0 xst_15 rli_16 rwa_17 hG) wm_440 wm_437 wm_439 wm_15 wm_46 hd_T_takeBack rfl rfl ⟨Nat.le_trans (Nat.le_of_ble_eq_true rfl) hR.1, Nat.le_trans (Nat.le_of_ble_eq_true rfl) hR.2⟩ ⟨Nat.zero_le _, Nat.zero_le _⟩ 2 0 rfl rfl rfl hl.1 (rest := []) rfl (Nat.le_of_ble_eq_true rfl) d_T_end_46 (fun H locs hP hD hS => ?_)
      refine lv_aload_n hx hb d_T_end_49 rfl (lv_at hl 0 rfl) ?_
      obtain ⟨xst_18, xgr_19, ltm_20, low_21, lta_22, llo_23, lhi_24, lmo_25, rli_26, xgc_27, lco_28, rwa_29, hG, hF⟩ := ob12_inv hF
      refine kcv K hP hD hS (c_T_lookAtAll l g cI cJ cZ ad xst_15 (upd xse a1.toNatClampNeg (-1)) xre xgr ltm_7 low_8 lta_9 llo_10 lhi_11 lmo_12 rta ron rlo rhi rmo rin res rsi rli_16 rar xgc_5 xca_6 xls xtl xno lco_13 rwa_17 rad rest  xst_18 xgr_19 ltm_20 low_21 lta_22 llo_23 lhi_24 lmo_25 rli_26 xgc_27 lco_28 rwa_29 hG) wm_421 wm_418 wm_420 wm_11 wm_46 hd_T_lookAtAll rfl rfl ⟨Nat.le_trans (Nat.le_of_ble_eq_true rfl) hR.1, Nat.le_trans (Nat.le_of_ble_eq_true rfl) hR.2⟩ ⟨Nat.zero_le _, Nat.zero_le _⟩ 2 0 rfl rfl rfl hl.1 (rest := []) rfl (Nat.le_of_ble_eq_true rfl) d_T_end_50 (fun H locs hP hD hS => ?_)
      refine lv_aload_n hx hb d_T_end_53 rfl (lv_at hl 0 rfl) ?_
      refine va_get (D := g) (ci := 2) (v := .int xgc_27) (C := kR2) (T := kT2) (N := 11) hx hb hts kw2 hown hK hP 0 rfl rfl 6 (by decide) (hts _ wm_162) (fun _ h9 => h9) rfl d_T_end_54 ?_
      cases hF
      exact W.mono (fun t h => Or.inl ⟨rfl, h⟩) (kri K hP hD hS d_T_end_57 rfl)
    · have hF := it_t hF hc_4
      cases hF
      exact kth (kx := 2) K hlt (hnt (by decide)) hP hD hS (cls := "java/lang/IllegalStateException") (text := "the owner is idle") rfl (by decide) (by decide) wm_286 wm_55 (by decide) at_54 hl.1 d_T_end_13 d_T_end_16 d_T_end_17 d_T_end_19 d_T_end_22 (Nat.le_trans (Nat.le_of_ble_eq_true rfl) hR.1) (Nat.le_trans (Nat.le_of_ble_eq_true rfl) hR.2) (Nat.le_of_ble_eq_true rfl) (hRc (by decide)).1 (hRc (by decide)).2
  · replace hF := it_f hF hk_2
    cases hF
    refine kxs K hP hD hS (cx_T_checkOwner l hlt g (kty cI cJ cZ) (wC cI cJ cZ ad xst xse xre xgr ltm low lta llo lhi lmo rta ron rlo rhi rmo rin res rsi rli rar xgc xca xls xtl xno lco rwa rad rest) a1 _  hk_2 hG) wm_217 wm_215 wm_216 wm_46 hd_T_checkOwner rfl rfl ⟨Nat.le_trans (Nat.le_of_ble_eq_true rfl) hR.1, Nat.le_trans (Nat.le_of_ble_eq_true rfl) hR.2⟩ ⟨(hRc hk_2).1, (hRc hk_2).2⟩ hl.1 (rest := []) rfl (Nat.le_of_ble_eq_true rfl) d_T_end_1 (fun ce q9 H locs hP hD hS hce hcv hcl => ?_)
    exact kxo K hk_2 (hnt hk_2) hP hD hS hce hcv hcl
theorem c_T_end (l : Launch) (hlt : l.stackTraces = false) (g : va_G) (cI cJ cZ : ClassId) (ad : Nat → Nat) (xst : Nat → Int32) (xse : Nat → Int32) (xre : Nat → Int32) (xgr : Nat → Int32) (ltm : Nat → Int32) (low : Nat → Int32) (lta : Nat → Int32) (llo : Nat → Int64) (lhi : Nat → Int64) (lmo : Nat → Int32) (rta : Nat → Int32) (ron : Nat → Int32) (rlo : Nat → Int64) (rhi : Nat → Int64) (rmo : Nat → Int32) (rin : Nat → Int32) (res : Nat → Int32) (rsi : Nat → Int32) (rli : Nat → Int32) (rar : Nat → Int32) (xgc : Int32) (xca : Int32) (xls : Int32) (xtl : Int32) (xno : Int32) (lco : Int32) (rwa : Int32) (rad : Int32) (rest : va_W) (a1 : Int32) (r : Int32) (o_xst : Nat → Int32) (o_xse : Nat → Int32) (o_xgr : Nat → Int32) (o_ltm : Nat → Int32) (o_low : Nat → Int32) (o_lta : Nat → Int32) (o_llo : Nat → Int64) (o_lhi : Nat → Int64) (o_lmo : Nat → Int32) (o_rli : Nat → Int32) (o_xgc : Int32) (o_xca : Int32) (o_lco : Int32) (o_rwa : Int32) (hF : F_T_end xst xse xgr ltm low lta llo lhi lmo rta ron rlo rhi rmo res rli xgc xca lco rwa a1 = some (0, r, o_xst, o_xse, o_xgr, o_ltm, o_low, o_lta, o_llo, o_lhi, o_lmo, o_rli, o_xgc, o_xca, o_lco, o_rwa)) : Ci l y_T_end prog_1_method_9_code 2 (some .int) ({ frames := 7, cells := 0, slots := 0, locals := 110 }) [.ref (ad 0), .int a1] g (kty cI cJ cZ) (wC cI cJ cZ ad xst xse xre xgr ltm low lta llo lhi lmo rta ron rlo rhi rmo rin res rsi rli rar xgc xca xls xtl xno lco rwa rad rest) (wC cI cJ cZ ad o_xst o_xse xre o_xgr o_ltm o_low o_lta o_llo o_lhi o_lmo rta ron rlo rhi rmo rin res rsi o_rli rar o_xgc o_xca xls xtl xno o_lco o_rwa rad rest) r :=
  fun sz => Ci.ofx (Q0 := fun A => kQi g (kty cI cJ cZ) (wC cI cJ cZ ad o_xst o_xse xre o_xgr o_ltm o_low o_lta o_llo o_lhi o_lmo rta ron rlo rhi rmo rin res rsi o_rli rar o_xgc o_xca xls xtl xno o_lco o_rwa rad rest) A r) (XC := fun A => kQx g (kty cI cJ cZ) (wC cI cJ cZ ad o_xst o_xse xre o_xgr o_ltm o_low o_lta o_llo o_lhi o_lmo rta ron rlo rhi rmo rin res rsi o_rli rar o_xgc o_xca xls xtl xno o_lco o_rwa rad rest) A 0) (by decide) (Nat.le_of_ble_eq_true rfl) (fun p e s m below meth c A ls K hP hD hS hl => t_T_end (R := { frames := 7, cells := 0, slots := 0, locals := 110 }) K ⟨Nat.le_of_ble_eq_true rfl, Nat.le_of_ble_eq_true rfl⟩ hlt xst xse xre xgr ltm low lta llo lhi lmo rta ron rlo rhi rmo rin res rsi rli rar xgc xca xls xtl xno lco rwa rad a1 0 r o_xst o_xse o_xgr o_ltm o_low o_lta o_llo o_lhi o_lmo o_rli o_xgc o_xca o_lco o_rwa (fun h => absurd rfl h) (fun h => absurd rfl h) hF hP hD hS hl) sz
theorem cx_T_end (l : Launch) (hlt : l.stackTraces = false) (g : va_G) (cI cJ cZ : ClassId) (ad : Nat → Nat) (xst : Nat → Int32) (xse : Nat → Int32) (xre : Nat → Int32) (xgr : Nat → Int32) (ltm : Nat → Int32) (low : Nat → Int32) (lta : Nat → Int32) (llo : Nat → Int64) (lhi : Nat → Int64) (lmo : Nat → Int32) (rta : Nat → Int32) (ron : Nat → Int32) (rlo : Nat → Int64) (rhi : Nat → Int64) (rmo : Nat → Int32) (rin : Nat → Int32) (res : Nat → Int32) (rsi : Nat → Int32) (rli : Nat → Int32) (rar : Nat → Int32) (xgc : Int32) (xca : Int32) (xls : Int32) (xtl : Int32) (xno : Int32) (lco : Int32) (rwa : Int32) (rad : Int32) (rest : va_W) (a1 : Int32) (kx : Nat) (r : Int32) (o_xst : Nat → Int32) (o_xse : Nat → Int32) (o_xgr : Nat → Int32) (o_ltm : Nat → Int32) (o_low : Nat → Int32) (o_lta : Nat → Int32) (o_llo : Nat → Int64) (o_lhi : Nat → Int64) (o_lmo : Nat → Int32) (o_rli : Nat → Int32) (o_xgc : Int32) (o_xca : Int32) (o_lco : Int32) (o_rwa : Int32) (hk : kx ≠ 0) (hF : F_T_end xst xse xgr ltm low lta llo lhi lmo rta ron rlo rhi rmo res rli xgc xca lco rwa a1 = some (kx, r, o_xst, o_xse, o_xgr, o_ltm, o_low, o_lta, o_llo, o_lhi, o_lmo, o_rli, o_xgc, o_xca, o_lco, o_rwa)) : Cx l y_T_end prog_1_method_9_code 2 (some .int) ({ frames := 7, cells := 1, slots := 6, locals := 110 }) [.ref (ad 0), .int a1] g (kty cI cJ cZ) (wC cI cJ cZ ad xst xse xre xgr ltm low lta llo lhi lmo rta ron rlo rhi rmo rin res rsi rli rar xgc xca xls xtl xno lco rwa rad rest) (wC cI cJ cZ ad o_xst o_xse xre o_xgr o_ltm o_low o_lta o_llo o_lhi o_lmo rta ron rlo rhi rmo rin res rsi o_rli rar o_xgc o_xca xls xtl xno o_lco o_rwa rad rest) kx :=
  Cx.of (Q0 := fun A => kQi g (kty cI cJ cZ) (wC cI cJ cZ ad o_xst o_xse xre o_xgr o_ltm o_low o_lta o_llo o_lhi o_lmo rta ron rlo rhi rmo rin res rsi o_rli rar o_xgc o_xca xls xtl xno o_lco o_rwa rad rest) A r) hk (by decide) (Nat.le_of_ble_eq_true rfl) (fun p e s m below meth c A ls hnt K hP hD hS hl => t_T_end (R := { frames := 7, cells := 1, slots := 6, locals := 110 }) K ⟨Nat.le_of_ble_eq_true rfl, Nat.le_of_ble_eq_true rfl⟩ hlt xst xse xre xgr ltm low lta llo lhi lmo rta ron rlo rhi rmo rin res rsi rli rar xgc xca xls xtl xno lco rwa rad a1 kx r o_xst o_xse o_xgr o_ltm o_low o_lta o_llo o_lhi o_lmo o_rli o_xgc o_xca o_lco o_rwa (fun _ => ⟨Nat.le_of_ble_eq_true rfl, Nat.le_of_ble_eq_true rfl⟩) (fun _ => hnt) hF hP hD hS hl)
def F_T_limit (xgc : Int32) (xca : Int32) (xtl : Int32) (a1 : Int32) : Option (Nat × Int32 × Int32 × Int32) :=
  ob1 (F_T_checkTicks a1) (fun k_1 => if k_1 = 0 then ob2 (F_T_startCall xgc xca (-1)) (fun xgc_3 xca_4 => some (0, xgc_3, xca_4, a1)) else some (k_1, xgc, xca, xtl))
set_option maxHeartbeats 4000000 in
set_option maxRecDepth 100000 in
theorem t_T_limit {p : Program} {l : Launch} {e : Env} {s : State} {m : MethodId} {args : Array Value} {below : List Frame} {meth : Method} {c : Code} {A : Nat → Prop} {g : va_G} {cI cJ cZ : ClassId} {ad : Nat → Nat} {rest : va_W} (K : kX p s m args meth c "LockTable" prog_1_method_10_code 2 none A g (kty cI cJ cZ)) {R : Room} (hR : 7 ≤ R.frames ∧ 110 ≤ R.locals) (hlt : l.stackTraces = false) (xst : Nat → Int32) (xse : Nat → Int32) (xre : Nat → Int32) (xgr : Nat → Int32) (ltm : Nat → Int32) (low : Nat → Int32) (lta : Nat → Int32) (llo : Nat → Int64) (lhi : Nat → Int64) (lmo : Nat → Int32) (rta : Nat → Int32) (ron : Nat → Int32) (rlo : Nat → Int64) (rhi : Nat → Int64) (rmo : Nat → Int32) (rin : Nat → Int32) (res : Nat → Int32) (rsi : Nat → Int32) (rli : Nat → Int32) (rar : Nat → Int32) (xgc : Int32) (xca : Int32) (xls : Int32) (xtl : Int32) (xno : Int32) (lco : Int32) (rwa : Int32) (rad : Int32) (a1 : Int32) (kx : Nat) (o_xgc : Int32) (o_xca : Int32) (o_xtl : Int32) (hRc : kx ≠ 0 → 1 ≤ R.cells ∧ 6 ≤ R.slots) (hnt : kx ≠ 0 → ∀ x ∈ c.exceptionTable.toList, False) (hF : F_T_limit xgc xca xtl a1 = some (kx, o_xgc, o_xca, o_xtl)) {H : Heap} {locs : List Loc} {ls : Array Slot} (hP : va_P g kcl (wC cI cJ cZ ad xst xse xre xgr ltm low lta llo lhi lmo rta ron rlo rhi rmo rin res rsi rli rar xgc xca xls xtl xno lco rwa rad rest) H) (hD : va_D A (wC cI cJ cZ ad xst xse xre xgr ltm low lta llo lhi lmo rta ron rlo rhi rmo rin res rsi rli rar xgc xca xls xtl xno lco rwa rad rest)) (hS : va_S A s.heap H locs) (hl : lv_has ls 2 [(0, .ref (ad 0)), (1, .int a1)]) : W p l e (R) s m args below meth c H locs 0 0 (kSel below args s A kx (kQv g (kty cI cJ cZ) (wC cI cJ cZ ad xst xse xre xgr ltm low lta llo lhi lmo rta ron rlo rhi rmo rin res rsi rli rar o_xgc o_xca xls o_xtl xno lco rwa rad rest) A) (kQx g (kty cI cJ cZ) (wC cI cJ cZ ad xst xse xre xgr ltm low lta llo lhi lmo rta ron rlo rhi rmo rin res rsi rli rar o_xgc o_xca xls o_xtl xno lco rwa rad rest) A kx)) (F0 m 0 ls []) := by
  obtain ⟨hx, hb, hr, hml, hown, hts, hlocks, hK, hA, hE⟩ := id K
  unfold F_T_limit at hF
  refine lv_iload_n hx hb d_T_limit_0 rfl (lv_at hl 1 rfl) ?_
  obtain ⟨k_1, hG, hF⟩ := ob1_inv hF
  by_cases hk_2 : k_1 = 0
  · replace hF := it_t hF hk_2
    subst hk_2
    refine ksv K hP hD hS (c_T_checkTicks l hlt g (kty cI cJ cZ) (wC cI cJ cZ ad xst xse xre xgr ltm low lta llo lhi lmo rta ron rlo rhi rmo rin res rsi rli rar xgc xca xls xtl xno lco rwa rad rest) a1  hG) wm_583 wm_581 wm_582 wm_46 hd_T_checkTicks rfl rfl ⟨Nat.le_trans (Nat.le_of_ble_eq_true rfl) hR.1, Nat.le_trans (Nat.le_of_ble_eq_true rfl) hR.2⟩ ⟨Nat.zero_le _, Nat.zero_le _⟩ hl.1 (rest := []) rfl (Nat.le_of_ble_eq_true rfl) d_T_limit_1 (fun H locs hP hD hS => ?_)
    refine lv_aload_n hx hb d_T_limit_4 rfl (lv_at hl 0 rfl) ?_
    refine lv_iconst (v := (-1)) hx hb d_T_limit_5 (by decide) ?_
    obtain ⟨xgc_3, xca_4, hG, hF⟩ := ob2_inv hF
    refine kcv K hP hD hS (c_T_startCall l g cI cJ cZ ad xst xse xre xgr ltm low lta llo lhi lmo rta ron rlo rhi rmo rin res rsi rli rar xgc xca xls xtl xno lco rwa rad rest (-1) xgc_3 xca_4 hG) wm_305 wm_302 wm_304 wm_1 wm_46 hd_T_startCall rfl rfl ⟨Nat.le_trans (Nat.le_of_ble_eq_true rfl) hR.1, Nat.le_trans (Nat.le_of_ble_eq_true rfl) hR.2⟩ ⟨Nat.zero_le _, Nat.zero_le _⟩ 2 0 rfl rfl rfl hl.1 (rest := []) rfl (Nat.le_of_ble_eq_true rfl) d_T_limit_6 (fun H locs hP hD hS => ?_)
    refine lv_aload_n hx hb d_T_limit_9 rfl (lv_at hl 0 rfl) ?_
    refine lv_iload_n hx hb d_T_limit_10 rfl (lv_at hl 1 rfl) ?_
    refine va_put (D := g) (ci := 2) (v := .int a1) (ty := .int) (C := kR2) (T := kT2) (N := 11) hx hb hts kw2 kt2 ko2 kn2 hown hK hP hD hS 0 rfl rfl 9 (by decide) (hts _ wm_165) (fun _ h9 => h9) rfl (by decide +kernel) rfl rfl (Nat.le_of_ble_eq_true rfl) d_T_limit_11 (fun H locs hP hD hS => ?_)
    have hP : va_P g kcl (wC cI cJ cZ ad xst xse xre xgr ltm low lta llo lhi lmo rta ron rlo rhi rmo rin res rsi rli rar xgc_3 xca_4 xls a1 xno lco rwa rad rest) H := hP
    have hD : va_D A (wC cI cJ cZ ad xst xse xre xgr ltm low lta llo lhi lmo rta ron rlo rhi rmo rin res rsi rli rar xgc_3 xca_4 xls a1 xno lco rwa rad rest) := hD
    cases hF
    exact W.mono (fun t h => Or.inl ⟨rfl, h⟩) (krv K hP hD hS d_T_limit_14)
  · replace hF := it_f hF hk_2
    cases hF
    refine kxs K hP hD hS (cx_T_checkTicks l hlt g (kty cI cJ cZ) (wC cI cJ cZ ad xst xse xre xgr ltm low lta llo lhi lmo rta ron rlo rhi rmo rin res rsi rli rar xgc xca xls xtl xno lco rwa rad rest) a1 _  hk_2 hG) wm_583 wm_581 wm_582 wm_46 hd_T_checkTicks rfl rfl ⟨Nat.le_trans (Nat.le_of_ble_eq_true rfl) hR.1, Nat.le_trans (Nat.le_of_ble_eq_true rfl) hR.2⟩ ⟨(hRc hk_2).1, (hRc hk_2).2⟩ hl.1 (rest := []) rfl (Nat.le_of_ble_eq_true rfl) d_T_limit_1 (fun ce q9 H locs hP hD hS hce hcv hcl => ?_)
    exact kxo K hk_2 (hnt hk_2) hP hD hS hce hcv hcl
theorem c_T_limit (l : Launch) (hlt : l.stackTraces = false) (g : va_G) (cI cJ cZ : ClassId) (ad : Nat → Nat) (xst : Nat → Int32) (xse : Nat → Int32) (xre : Nat → Int32) (xgr : Nat → Int32) (ltm : Nat → Int32) (low : Nat → Int32) (lta : Nat → Int32) (llo : Nat → Int64) (lhi : Nat → Int64) (lmo : Nat → Int32) (rta : Nat → Int32) (ron : Nat → Int32) (rlo : Nat → Int64) (rhi : Nat → Int64) (rmo : Nat → Int32) (rin : Nat → Int32) (res : Nat → Int32) (rsi : Nat → Int32) (rli : Nat → Int32) (rar : Nat → Int32) (xgc : Int32) (xca : Int32) (xls : Int32) (xtl : Int32) (xno : Int32) (lco : Int32) (rwa : Int32) (rad : Int32) (rest : va_W) (a1 : Int32) (o_xgc : Int32) (o_xca : Int32) (o_xtl : Int32) (hF : F_T_limit xgc xca xtl a1 = some (0, o_xgc, o_xca, o_xtl)) : Cv l y_T_limit prog_1_method_10_code 2 ({ frames := 7, cells := 0, slots := 0, locals := 110 }) [.ref (ad 0), .int a1] g (kty cI cJ cZ) (wC cI cJ cZ ad xst xse xre xgr ltm low lta llo lhi lmo rta ron rlo rhi rmo rin res rsi rli rar xgc xca xls xtl xno lco rwa rad rest) (wC cI cJ cZ ad xst xse xre xgr ltm low lta llo lhi lmo rta ron rlo rhi rmo rin res rsi rli rar o_xgc o_xca xls o_xtl xno lco rwa rad rest) :=
  fun sz => Ci.ofx (Q0 := fun A => kQv g (kty cI cJ cZ) (wC cI cJ cZ ad xst xse xre xgr ltm low lta llo lhi lmo rta ron rlo rhi rmo rin res rsi rli rar o_xgc o_xca xls o_xtl xno lco rwa rad rest) A) (XC := fun A => kQx g (kty cI cJ cZ) (wC cI cJ cZ ad xst xse xre xgr ltm low lta llo lhi lmo rta ron rlo rhi rmo rin res rsi rli rar o_xgc o_xca xls o_xtl xno lco rwa rad rest) A 0) (by decide) (Nat.le_of_ble_eq_true rfl) (fun p e s m below meth c A ls K hP hD hS hl => t_T_limit (R := { frames := 7, cells := 0, slots := 0, locals := 110 }) K ⟨Nat.le_of_ble_eq_true rfl, Nat.le_of_ble_eq_true rfl⟩ hlt xst xse xre xgr ltm low lta llo lhi lmo rta ron rlo rhi rmo rin res rsi rli rar xgc xca xls xtl xno lco rwa rad a1 0 o_xgc o_xca o_xtl (fun h => absurd rfl h) (fun h => absurd rfl h) hF hP hD hS hl) sz
theorem cx_T_limit (l : Launch) (hlt : l.stackTraces = false) (g : va_G) (cI cJ cZ : ClassId) (ad : Nat → Nat) (xst : Nat → Int32) (xse : Nat → Int32) (xre : Nat → Int32) (xgr : Nat → Int32) (ltm : Nat → Int32) (low : Nat → Int32) (lta : Nat → Int32) (llo : Nat → Int64) (lhi : Nat → Int64) (lmo : Nat → Int32) (rta : Nat → Int32) (ron : Nat → Int32) (rlo : Nat → Int64) (rhi : Nat → Int64) (rmo : Nat → Int32) (rin : Nat → Int32) (res : Nat → Int32) (rsi : Nat → Int32) (rli : Nat → Int32) (rar : Nat → Int32) (xgc : Int32) (xca : Int32) (xls : Int32) (xtl : Int32) (xno : Int32) (lco : Int32) (rwa : Int32) (rad : Int32) (rest : va_W) (a1 : Int32) (kx : Nat) (o_xgc : Int32) (o_xca : Int32) (o_xtl : Int32) (hk : kx ≠ 0) (hF : F_T_limit xgc xca xtl a1 = some (kx, o_xgc, o_xca, o_xtl)) : Cx l y_T_limit prog_1_method_10_code 2 none ({ frames := 7, cells := 1, slots := 6, locals := 110 }) [.ref (ad 0), .int a1] g (kty cI cJ cZ) (wC cI cJ cZ ad xst xse xre xgr ltm low lta llo lhi lmo rta ron rlo rhi rmo rin res rsi rli rar xgc xca xls xtl xno lco rwa rad rest) (wC cI cJ cZ ad xst xse xre xgr ltm low lta llo lhi lmo rta ron rlo rhi rmo rin res rsi rli rar o_xgc o_xca xls o_xtl xno lco rwa rad rest) kx :=
  Cx.of (Q0 := fun A => kQv g (kty cI cJ cZ) (wC cI cJ cZ ad xst xse xre xgr ltm low lta llo lhi lmo rta ron rlo rhi rmo rin res rsi rli rar o_xgc o_xca xls o_xtl xno lco rwa rad rest) A) hk (by decide) (Nat.le_of_ble_eq_true rfl) (fun p e s m below meth c A ls hnt K hP hD hS hl => t_T_limit (R := { frames := 7, cells := 1, slots := 6, locals := 110 }) K ⟨Nat.le_of_ble_eq_true rfl, Nat.le_of_ble_eq_true rfl⟩ hlt xst xse xre xgr ltm low lta llo lhi lmo rta ron rlo rhi rmo rin res rsi rli rar xgc xca xls xtl xno lco rwa rad a1 kx o_xgc o_xca o_xtl (fun _ => ⟨Nat.le_of_ble_eq_true rfl, Nat.le_of_ble_eq_true rfl⟩) (fun _ => hnt) hF hP hD hS hl)
def F_T_tick_L13 (rta : Nat → Int32) (ron : Nat → Int32) (rlo : Nat → Int64) (rhi : Nat → Int64) (rmo : Nat → Int32) (res : Nat → Int32) (rsi : Nat → Int32) (rar : Nat → Int32) (xca : Int32) (xtl : Int32) (v1 : Int32) : Nat → (Nat → Int32) → (Nat → Int32) → (Nat → Int32) → (Nat → Int32) → (Nat → Int32) → (Nat → Int64) → (Nat → Int64) → (Nat → Int32) → (Nat → Int32) → Int32 → Int32 → Int32 → Int32 → Int32 → Int32 → Option ((Nat → Int32) × (Nat → Int32) × (Nat → Int32) × (Nat → Int32) × (Nat → Int32) × (Nat → Int64) × (Nat → Int64) × (Nat → Int32) × (Nat → Int32) × Int32 × Int32 × Int32 × Int32 × Int32)
  | 0, _, _, _, _, _, _, _, _, _, _, _, _, _, _, _ => none
  | n + 1, xst, xgr, ltm, low, lta, llo, lhi, lmo, rli, xgc, xno, lco, rwa, v2, v3 => if v1 ≤ v3 then some (xst, xgr, ltm, low, lta, llo, lhi, lmo, rli, xgc, xno, lco, rwa, v2) else ob13 (F_T_takeBackOverdue xst xgr ltm low lta llo lhi lmo rta ron rlo rhi rmo res rsi rli rar xgc xca xtl (xno + 1) lco rwa) (fun r_6 xst_7 xgr_8 ltm_9 low_10 lta_11 llo_12 lhi_13 lmo_14 rli_15 xgc_16 lco_17 rwa_18 => F_T_tick_L13 rta ron rlo rhi rmo res rsi rar xca xtl v1 n xst_7 xgr_8 ltm_9 low_10 lta_11 llo_12 lhi_13 lmo_14 rli_15 xgc_16 (xno + 1) lco_17 rwa_18 (v2 + r_6) (v3 + 1))
def F_T_tick (xst : Nat → Int32) (xgr : Nat → Int32) (ltm : Nat → Int32) (low : Nat → Int32) (lta : Nat → Int32) (llo : Nat → Int64) (lhi : Nat → Int64) (lmo : Nat → Int32) (rta : Nat → Int32) (ron : Nat → Int32) (rlo : Nat → Int64) (rhi : Nat → Int64) (rmo : Nat → Int32) (res : Nat → Int32) (rsi : Nat → Int32) (rli : Nat → Int32) (rar : Nat → Int32) (xgc : Int32) (xca : Int32) (xtl : Int32) (xno : Int32) (lco : Int32) (rwa : Int32) (a1 : Int32) : Option (Nat × Int32 × (Nat → Int32) × (Nat → Int32) × (Nat → Int32) × (Nat → Int32) × (Nat → Int32) × (Nat → Int64) × (Nat → Int64) × (Nat → Int32) × (Nat → Int32) × Int32 × Int32 × Int32 × Int32 × Int32) :=
  ob1 (F_T_checkTicks a1) (fun k_1 => if k_1 = 0 then ob2 (F_T_startCall xgc xca (-1)) (fun xgc_3 xca_4 => ob14 (F_T_tick_L13 rta ron rlo rhi rmo res rsi rar xca_4 xtl a1 fu xst xgr ltm low lta llo lhi lmo rli xgc_3 xno lco rwa 0 0) (fun xst_19 xgr_20 ltm_21 low_22 lta_23 llo_24 lhi_25 lmo_26 rli_27 xgc_28 xno_29 lco_30 rwa_31 v2_32 => some (0, v2_32, xst_19, xgr_20, ltm_21, low_22, lta_23, llo_24, lhi_25, lmo_26, rli_27, xgc_28, xca_4, xno_29, lco_30, rwa_31))) else some (k_1, 0, xst, xgr, ltm, low, lta, llo, lhi, lmo, rli, xgc, xca, xno, lco, rwa))
set_option maxHeartbeats 4000000 in
set_option maxRecDepth 100000 in
theorem t_T_tick_L13 {p : Program} {l : Launch} {e : Env} {s : State} {m : MethodId} {args : Array Value} {below : List Frame} {meth : Method} {c : Code} {A : Nat → Prop} {g : va_G} {cI cJ cZ : ClassId} {ad : Nat → Nat} {rest : va_W} (K : kX p s m args meth c "LockTable" prog_1_method_11_code 4 (some .int) A g (kty cI cJ cZ)) {R : Room} (hR : 7 ≤ R.frames ∧ 122 ≤ R.locals) (hlt : l.stackTraces = false) {Q : State → Prop} (xse : Nat → Int32) (xre : Nat → Int32) (rta : Nat → Int32) (ron : Nat → Int32) (rlo : Nat → Int64) (rhi : Nat → Int64) (rmo : Nat → Int32) (rin : Nat → Int32) (res : Nat → Int32) (rsi : Nat → Int32) (rar : Nat → Int32) (xca : Int32) (xls : Int32) (xtl : Int32) (rad : Int32) (v1 : Int32) : ∀ (n : Nat) (xst : Nat → Int32) (xgr : Nat → Int32) (ltm : Nat → Int32) (low : Nat → Int32) (lta : Nat → Int32) (llo : Nat → Int64) (lhi : Nat → Int64) (lmo : Nat → Int32) (rli : Nat → Int32) (xgc : Int32) (xno : Int32) (lco : Int32) (rwa : Int32) (v2 : Int32) (v3 : Int32) (o_xst : Nat → Int32) (o_xgr : Nat → Int32) (o_ltm : Nat → Int32) (o_low : Nat → Int32) (o_lta : Nat → Int32) (o_llo : Nat → Int64) (o_lhi : Nat → Int64) (o_lmo : Nat → Int32) (o_rli : Nat → Int32) (o_xgc : Int32) (o_xno : Int32) (o_lco : Int32) (o_rwa : Int32) (o_v2 : Int32) (H : Heap) (locs : List Loc) (ls : Array Slot), F_T_tick_L13 rta ron rlo rhi rmo res rsi rar xca xtl v1 n xst xgr ltm low lta llo lhi lmo rli xgc xno lco rwa v2 v3 = some (o_xst, o_xgr, o_ltm, o_low, o_lta, o_llo, o_lhi, o_lmo, o_rli, o_xgc, o_xno, o_lco, o_rwa, o_v2) → va_P g kcl (wC cI cJ cZ ad xst xse xre xgr ltm low lta llo lhi lmo rta ron rlo rhi rmo rin res rsi rli rar xgc xca xls xtl xno lco rwa rad rest) H → va_D A (wC cI cJ cZ ad xst xse xre xgr ltm low lta llo lhi lmo rta ron rlo rhi rmo rin res rsi rli rar xgc xca xls xtl xno lco rwa rad rest) → va_S A s.heap H locs → lv_has ls 4 [(0, .ref (ad 0)), (1, .int v1), (2, .int v2), (3, .int v3)] → (∀ (H : Heap) (locs : List Loc) (ls : Array Slot), va_P g kcl (wC cI cJ cZ ad o_xst xse xre o_xgr o_ltm o_low o_lta o_llo o_lhi o_lmo rta ron rlo rhi rmo rin res rsi o_rli rar o_xgc xca xls xtl o_xno o_lco o_rwa rad rest) H → va_D A (wC cI cJ cZ ad o_xst xse xre o_xgr o_ltm o_low o_lta o_llo o_lhi o_lmo rta ron rlo rhi rmo rin res rsi o_rli rar o_xgc xca xls xtl o_xno o_lco o_rwa rad rest) → va_S A s.heap H locs → lv_has ls 4 [(2, .int o_v2)] → W p l e (R) s m args below meth c H locs 0 0 Q (F0 m 41 ls [])) → W p l e (R) s m args below meth c H locs 0 0 Q (F0 m 13 ls []) := by
  obtain ⟨hx, hb, hr, hml, hown, hts, hlocks, hK, hA, hE⟩ := id K
  intro n
  induction n with
  | zero =>
    intro xst xgr ltm low lta llo lhi lmo rli xgc xno lco rwa v2 v3 o_xst o_xgr o_ltm o_low o_lta o_llo o_lhi o_lmo o_rli o_xgc o_xno o_lco o_rwa o_v2 H locs ls hF
    rw [F_T_tick_L13] at hF
    cases hF
  | succ n ih =>
    intro xst xgr ltm low lta llo lhi lmo rli xgc xno lco rwa v2 v3 o_xst o_xgr o_ltm o_low o_lta o_llo o_lhi o_lmo o_rli o_xgc o_xno o_lco o_rwa o_v2 H locs ls hF hP hD hS hl hQ
    rw [F_T_tick_L13] at hF
    refine lv_iload_n hx hb d_T_tick_13 rfl (lv_at hl 3 rfl) ?_
    refine lv_iload_n hx hb d_T_tick_14 rfl (lv_at hl 1 rfl) ?_
    refine lv_icmp_ge (tgt := 41) hx hb d_T_tick_15 (by decide) (fun hc_5 => ?_) (fun hc_5 => ?_)
    · have hF := it_t hF hc_5
      cases hF
      exact hQ H locs ls hP hD hS (lv_sub hl [2] rfl)
    · have hF := it_f hF hc_5
      refine lv_aload_n hx hb d_T_tick_18 rfl (lv_at hl 0 rfl) ?_
      refine lv_dup hx hb d_T_tick_19 rfl ?_
      refine va_get (D := g) (ci := 2) (v := .int xno) (C := kR2) (T := kT2) (N := 11) hx hb hts kw2 hown hK hP 0 rfl rfl 10 (by decide) (hts _ wm_166) (fun _ h9 => h9) rfl d_T_tick_20 ?_
      refine lv_iconst (v := 1) hx hb d_T_tick_23 (by decide) ?_
      refine lv_iadd hx hb d_T_tick_24 ?_
      refine va_put (D := g) (ci := 2) (v := .int (xno + 1)) (ty := .int) (C := kR2) (T := kT2) (N := 11) hx hb hts kw2 kt2 ko2 kn2 hown hK hP hD hS 0 rfl rfl 10 (by decide) (hts _ wm_166) (fun _ h9 => h9) rfl (by decide +kernel) rfl rfl (Nat.le_of_ble_eq_true rfl) d_T_tick_25 (fun H locs hP hD hS => ?_)
      have hP : va_P g kcl (wC cI cJ cZ ad xst xse xre xgr ltm low lta llo lhi lmo rta ron rlo rhi rmo rin res rsi rli rar xgc xca xls xtl (xno + 1) lco rwa rad rest) H := hP
      have hD : va_D A (wC cI cJ cZ ad xst xse xre xgr ltm low lta llo lhi lmo rta ron rlo rhi rmo rin res rsi rli rar xgc xca xls xtl (xno + 1) lco rwa rad rest) := hD
      refine lv_iload_n hx hb d_T_tick_28 rfl (lv_at hl 2 rfl) ?_
      refine lv_aload_n hx hb d_T_tick_29 rfl (lv_at hl 0 rfl) ?_
      obtain ⟨r_6, xst_7, xgr_8, ltm_9, low_10, lta_11, llo_12, lhi_13, lmo_14, rli_15, xgc_16, lco_17, rwa_18, hG, hF⟩ := ob13_inv hF
      refine kci K hP hD hS (c_T_takeBackOverdue l g cI cJ cZ ad xst xse xre xgr ltm low lta llo lhi lmo rta ron rlo rhi rmo rin res rsi rli rar xgc xca xls xtl (xno + 1) lco rwa rad rest  r_6 xst_7 xgr_8 ltm_9 low_10 lta_11 llo_12 lhi_13 lmo_14 rli_15 xgc_16 lco_17 rwa_18 hG) wm_595 wm_592 wm_594 wm_19 wm_46 hd_T_takeBackOverdue rfl rfl ⟨Nat.le_trans (Nat.le_of_ble_eq_true rfl) hR.1, Nat.le_trans (Nat.le_of_ble_eq_true rfl) hR.2⟩ ⟨Nat.zero_le _, Nat.zero_le _⟩ 2 0 rfl rfl rfl hl.1 (rest := [.int v2]) rfl (Nat.le_of_ble_eq_true rfl) d_T_tick_30 (fun H locs hP hD hS => ?_)
      refine lv_iadd hx hb d_T_tick_33 ?_
      refine lv_istore_n (lv' := [(2, .int (v2 + r_6)), (0, .ref (ad 0)), (1, .int v1), (3, .int v3)]) hx hb d_T_tick_34 rfl hl (by decide) rfl (fun ls hl => ?_)
      refine lv_iinc (v := v3 + 1) (lv' := [(3, .int (v3 + 1)), (2, .int (v2 + r_6)), (0, .ref (ad 0)), (1, .int v1)]) hx hb d_T_tick_35 hl (k := 3) rfl rfl (by decide) rfl (fun ls hl => ?_)
      refine lv_goto (tgt := 13) hx hb d_T_tick_38 (by decide) ?_
      exact ih _ _ _ _ _ _ _ _ _ _ _ _ _ _ _ _ _ _ _ _ _ _ _ _ _ _ _ _ _ H locs ls hF hP hD hS (lv_sub hl [2, 3, 1, 0] rfl) hQ
set_option maxHeartbeats 4000000 in
set_option maxRecDepth 100000 in
theorem t_T_tick {p : Program} {l : Launch} {e : Env} {s : State} {m : MethodId} {args : Array Value} {below : List Frame} {meth : Method} {c : Code} {A : Nat → Prop} {g : va_G} {cI cJ cZ : ClassId} {ad : Nat → Nat} {rest : va_W} (K : kX p s m args meth c "LockTable" prog_1_method_11_code 4 (some .int) A g (kty cI cJ cZ)) {R : Room} (hR : 7 ≤ R.frames ∧ 122 ≤ R.locals) (hlt : l.stackTraces = false) (xst : Nat → Int32) (xse : Nat → Int32) (xre : Nat → Int32) (xgr : Nat → Int32) (ltm : Nat → Int32) (low : Nat → Int32) (lta : Nat → Int32) (llo : Nat → Int64) (lhi : Nat → Int64) (lmo : Nat → Int32) (rta : Nat → Int32) (ron : Nat → Int32) (rlo : Nat → Int64) (rhi : Nat → Int64) (rmo : Nat → Int32) (rin : Nat → Int32) (res : Nat → Int32) (rsi : Nat → Int32) (rli : Nat → Int32) (rar : Nat → Int32) (xgc : Int32) (xca : Int32) (xls : Int32) (xtl : Int32) (xno : Int32) (lco : Int32) (rwa : Int32) (rad : Int32) (a1 : Int32) (kx : Nat) (r : Int32) (o_xst : Nat → Int32) (o_xgr : Nat → Int32) (o_ltm : Nat → Int32) (o_low : Nat → Int32) (o_lta : Nat → Int32) (o_llo : Nat → Int64) (o_lhi : Nat → Int64) (o_lmo : Nat → Int32) (o_rli : Nat → Int32) (o_xgc : Int32) (o_xca : Int32) (o_xno : Int32) (o_lco : Int32) (o_rwa : Int32) (hRc : kx ≠ 0 → 1 ≤ R.cells ∧ 6 ≤ R.slots) (hnt : kx ≠ 0 → ∀ x ∈ c.exceptionTable.toList, False) (hF : F_T_tick xst xgr ltm low lta llo lhi lmo rta ron rlo rhi rmo res rsi rli rar xgc xca xtl xno lco rwa a1 = some (kx, r, o_xst, o_xgr, o_ltm, o_low, o_lta, o_llo, o_lhi, o_lmo, o_rli, o_xgc, o_xca, o_xno, o_lco, o_rwa)) {H : Heap} {locs : List Loc} {ls : Array Slot} (hP : va_P g kcl (wC cI cJ cZ ad xst xse xre xgr ltm low lta llo lhi lmo rta ron rlo rhi rmo rin res rsi rli rar xgc xca xls xtl xno lco rwa rad rest) H) (hD : va_D A (wC cI cJ cZ ad xst xse xre xgr ltm low lta llo lhi lmo rta ron rlo rhi rmo rin res rsi rli rar xgc xca xls xtl xno lco rwa rad rest)) (hS : va_S A s.heap H locs) (hl : lv_has ls 4 [(0, .ref (ad 0)), (1, .int a1)]) : W p l e (R) s m args below meth c H locs 0 0 (kSel below args s A kx (kQi g (kty cI cJ cZ) (wC cI cJ cZ ad o_xst xse xre o_xgr o_ltm o_low o_lta o_llo o_lhi o_lmo rta ron rlo rhi rmo rin res rsi o_rli rar o_xgc o_xca xls xtl o_xno o_lco o_rwa rad rest) A r) (kQx g (kty cI cJ cZ) (wC cI cJ cZ ad o_xst xse xre o_xgr o_ltm o_low o_lta o_llo o_lhi o_lmo rta ron rlo rhi rmo rin res rsi o_rli rar o_xgc o_xca xls xtl o_xno o_lco o_rwa rad rest) A kx)) (F0 m 0 ls []) := by
  obtain ⟨hx, hb, hr, hml, hown, hts, hlocks, hK, hA, hE⟩ := id K
  unfold F_T_tick at hF
  refine lv_iload_n hx hb d_T_tick_0 rfl (lv_at hl 1 rfl) ?_
  obtain ⟨k_1, hG, hF⟩ := ob1_inv hF
  by_cases hk_2 : k_1 = 0
  · replace hF := it_t hF hk_2
    subst hk_2
    refine ksv K hP hD hS (c_T_checkTicks l hlt g (kty cI cJ cZ) (wC cI cJ cZ ad xst xse xre xgr ltm low lta llo lhi lmo rta ron rlo rhi rmo rin res rsi rli rar xgc xca xls xtl xno lco rwa rad rest) a1  hG) wm_583 wm_581 wm_582 wm_46 hd_T_checkTicks rfl rfl ⟨Nat.le_trans (Nat.le_of_ble_eq_true rfl) hR.1, Nat.le_trans (Nat.le_of_ble_eq_true rfl) hR.2⟩ ⟨Nat.zero_le _, Nat.zero_le _⟩ hl.1 (rest := []) rfl (Nat.le_of_ble_eq_true rfl) d_T_tick_1 (fun H locs hP hD hS => ?_)
    refine lv_aload_n hx hb d_T_tick_4 rfl (lv_at hl 0 rfl) ?_
    refine lv_iconst (v := (-1)) hx hb d_T_tick_5 (by decide) ?_
    obtain ⟨xgc_3, xca_4, hG, hF⟩ := ob2_inv hF
    refine kcv K hP hD hS (c_T_startCall l g cI cJ cZ ad xst xse xre xgr ltm low lta llo lhi lmo rta ron rlo rhi rmo rin res rsi rli rar xgc xca xls xtl xno lco rwa rad rest (-1) xgc_3 xca_4 hG) wm_305 wm_302 wm_304 wm_1 wm_46 hd_T_startCall rfl rfl ⟨Nat.le_trans (Nat.le_of_ble_eq_true rfl) hR.1, Nat.le_trans (Nat.le_of_ble_eq_true rfl) hR.2⟩ ⟨Nat.zero_le _, Nat.zero_le _⟩ 2 0 rfl rfl rfl hl.1 (rest := []) rfl (Nat.le_of_ble_eq_true rfl) d_T_tick_6 (fun H locs hP hD hS => ?_)
    refine lv_iconst (v := 0) hx hb d_T_tick_9 (by decide) ?_
    refine lv_istore_n (lv' := [(2, .int 0), (0, .ref (ad 0)), (1, .int a1)]) hx hb d_T_tick_10 rfl hl (by decide) rfl (fun ls hl => ?_)
    refine lv_iconst (v := 0) hx hb d_T_tick_11 (by decide) ?_
    refine lv_istore_n (lv' := [(3, .int 0), (2, .int 0), (0, .ref (ad 0)), (1, .int a1)]) hx hb d_T_tick_12 rfl hl (by decide) rfl (fun ls hl => ?_)
    obtain ⟨xst_19, xgr_20, ltm_21, low_22, lta_23, llo_24, lhi_25, lmo_26, rli_27, xgc_28, xno_29, lco_30, rwa_31, v2_32, hG, hF⟩ := ob14_inv hF
    refine t_T_tick_L13 K hR hlt xse xre rta ron rlo rhi rmo rin res rsi rar xca_4 xls xtl rad a1 fu _ _ _ _ _ _ _ _ _ _ _ _ _ _ _ _ _ _ _ _ _ _ _ _ _ _ _ _ _ H locs ls hG hP hD hS (lv_sub hl [2, 3, 1, 0] rfl) (fun H locs ls hP hD hS hl => ?_)
    refine lv_iload_n hx hb d_T_tick_41 rfl (lv_at hl 0 rfl) ?_
    cases hF
    exact W.mono (fun t h => Or.inl ⟨rfl, h⟩) (kri K hP hD hS d_T_tick_42 rfl)
  · replace hF := it_f hF hk_2
    cases hF
    refine kxs K hP hD hS (cx_T_checkTicks l hlt g (kty cI cJ cZ) (wC cI cJ cZ ad xst xse xre xgr ltm low lta llo lhi lmo rta ron rlo rhi rmo rin res rsi rli rar xgc xca xls xtl xno lco rwa rad rest) a1 _  hk_2 hG) wm_583 wm_581 wm_582 wm_46 hd_T_checkTicks rfl rfl ⟨Nat.le_trans (Nat.le_of_ble_eq_true rfl) hR.1, Nat.le_trans (Nat.le_of_ble_eq_true rfl) hR.2⟩ ⟨(hRc hk_2).1, (hRc hk_2).2⟩ hl.1 (rest := []) rfl (Nat.le_of_ble_eq_true rfl) d_T_tick_1 (fun ce q9 H locs hP hD hS hce hcv hcl => ?_)
    exact kxo K hk_2 (hnt hk_2) hP hD hS hce hcv hcl
theorem c_T_tick (l : Launch) (hlt : l.stackTraces = false) (g : va_G) (cI cJ cZ : ClassId) (ad : Nat → Nat) (xst : Nat → Int32) (xse : Nat → Int32) (xre : Nat → Int32) (xgr : Nat → Int32) (ltm : Nat → Int32) (low : Nat → Int32) (lta : Nat → Int32) (llo : Nat → Int64) (lhi : Nat → Int64) (lmo : Nat → Int32) (rta : Nat → Int32) (ron : Nat → Int32) (rlo : Nat → Int64) (rhi : Nat → Int64) (rmo : Nat → Int32) (rin : Nat → Int32) (res : Nat → Int32) (rsi : Nat → Int32) (rli : Nat → Int32) (rar : Nat → Int32) (xgc : Int32) (xca : Int32) (xls : Int32) (xtl : Int32) (xno : Int32) (lco : Int32) (rwa : Int32) (rad : Int32) (rest : va_W) (a1 : Int32) (r : Int32) (o_xst : Nat → Int32) (o_xgr : Nat → Int32) (o_ltm : Nat → Int32) (o_low : Nat → Int32) (o_lta : Nat → Int32) (o_llo : Nat → Int64) (o_lhi : Nat → Int64) (o_lmo : Nat → Int32) (o_rli : Nat → Int32) (o_xgc : Int32) (o_xca : Int32) (o_xno : Int32) (o_lco : Int32) (o_rwa : Int32) (hF : F_T_tick xst xgr ltm low lta llo lhi lmo rta ron rlo rhi rmo res rsi rli rar xgc xca xtl xno lco rwa a1 = some (0, r, o_xst, o_xgr, o_ltm, o_low, o_lta, o_llo, o_lhi, o_lmo, o_rli, o_xgc, o_xca, o_xno, o_lco, o_rwa)) : Ci l y_T_tick prog_1_method_11_code 4 (some .int) ({ frames := 7, cells := 0, slots := 0, locals := 122 }) [.ref (ad 0), .int a1] g (kty cI cJ cZ) (wC cI cJ cZ ad xst xse xre xgr ltm low lta llo lhi lmo rta ron rlo rhi rmo rin res rsi rli rar xgc xca xls xtl xno lco rwa rad rest) (wC cI cJ cZ ad o_xst xse xre o_xgr o_ltm o_low o_lta o_llo o_lhi o_lmo rta ron rlo rhi rmo rin res rsi o_rli rar o_xgc o_xca xls xtl o_xno o_lco o_rwa rad rest) r :=
  fun sz => Ci.ofx (Q0 := fun A => kQi g (kty cI cJ cZ) (wC cI cJ cZ ad o_xst xse xre o_xgr o_ltm o_low o_lta o_llo o_lhi o_lmo rta ron rlo rhi rmo rin res rsi o_rli rar o_xgc o_xca xls xtl o_xno o_lco o_rwa rad rest) A r) (XC := fun A => kQx g (kty cI cJ cZ) (wC cI cJ cZ ad o_xst xse xre o_xgr o_ltm o_low o_lta o_llo o_lhi o_lmo rta ron rlo rhi rmo rin res rsi o_rli rar o_xgc o_xca xls xtl o_xno o_lco o_rwa rad rest) A 0) (by decide) (Nat.le_of_ble_eq_true rfl) (fun p e s m below meth c A ls K hP hD hS hl => t_T_tick (R := { frames := 7, cells := 0, slots := 0, locals := 122 }) K ⟨Nat.le_of_ble_eq_true rfl, Nat.le_of_ble_eq_true rfl⟩ hlt xst xse xre xgr ltm low lta llo lhi lmo rta ron rlo rhi rmo rin res rsi rli rar xgc xca xls xtl xno lco rwa rad a1 0 r o_xst o_xgr o_ltm o_low o_lta o_llo o_lhi o_lmo o_rli o_xgc o_xca o_xno o_lco o_rwa (fun h => absurd rfl h) (fun h => absurd rfl h) hF hP hD hS hl) sz
theorem cx_T_tick (l : Launch) (hlt : l.stackTraces = false) (g : va_G) (cI cJ cZ : ClassId) (ad : Nat → Nat) (xst : Nat → Int32) (xse : Nat → Int32) (xre : Nat → Int32) (xgr : Nat → Int32) (ltm : Nat → Int32) (low : Nat → Int32) (lta : Nat → Int32) (llo : Nat → Int64) (lhi : Nat → Int64) (lmo : Nat → Int32) (rta : Nat → Int32) (ron : Nat → Int32) (rlo : Nat → Int64) (rhi : Nat → Int64) (rmo : Nat → Int32) (rin : Nat → Int32) (res : Nat → Int32) (rsi : Nat → Int32) (rli : Nat → Int32) (rar : Nat → Int32) (xgc : Int32) (xca : Int32) (xls : Int32) (xtl : Int32) (xno : Int32) (lco : Int32) (rwa : Int32) (rad : Int32) (rest : va_W) (a1 : Int32) (kx : Nat) (r : Int32) (o_xst : Nat → Int32) (o_xgr : Nat → Int32) (o_ltm : Nat → Int32) (o_low : Nat → Int32) (o_lta : Nat → Int32) (o_llo : Nat → Int64) (o_lhi : Nat → Int64) (o_lmo : Nat → Int32) (o_rli : Nat → Int32) (o_xgc : Int32) (o_xca : Int32) (o_xno : Int32) (o_lco : Int32) (o_rwa : Int32) (hk : kx ≠ 0) (hF : F_T_tick xst xgr ltm low lta llo lhi lmo rta ron rlo rhi rmo res rsi rli rar xgc xca xtl xno lco rwa a1 = some (kx, r, o_xst, o_xgr, o_ltm, o_low, o_lta, o_llo, o_lhi, o_lmo, o_rli, o_xgc, o_xca, o_xno, o_lco, o_rwa)) : Cx l y_T_tick prog_1_method_11_code 4 (some .int) ({ frames := 7, cells := 1, slots := 6, locals := 122 }) [.ref (ad 0), .int a1] g (kty cI cJ cZ) (wC cI cJ cZ ad xst xse xre xgr ltm low lta llo lhi lmo rta ron rlo rhi rmo rin res rsi rli rar xgc xca xls xtl xno lco rwa rad rest) (wC cI cJ cZ ad o_xst xse xre o_xgr o_ltm o_low o_lta o_llo o_lhi o_lmo rta ron rlo rhi rmo rin res rsi o_rli rar o_xgc o_xca xls xtl o_xno o_lco o_rwa rad rest) kx :=
  Cx.of (Q0 := fun A => kQi g (kty cI cJ cZ) (wC cI cJ cZ ad o_xst xse xre o_xgr o_ltm o_low o_lta o_llo o_lhi o_lmo rta ron rlo rhi rmo rin res rsi o_rli rar o_xgc o_xca xls xtl o_xno o_lco o_rwa rad rest) A r) hk (by decide) (Nat.le_of_ble_eq_true rfl) (fun p e s m below meth c A ls hnt K hP hD hS hl => t_T_tick (R := { frames := 7, cells := 1, slots := 6, locals := 122 }) K ⟨Nat.le_of_ble_eq_true rfl, Nat.le_of_ble_eq_true rfl⟩ hlt xst xse xre xgr ltm low lta llo lhi lmo rta ron rlo rhi rmo rin res rsi rli rar xgc xca xls xtl xno lco rwa rad a1 kx r o_xst o_xgr o_ltm o_low o_lta o_llo o_lhi o_lmo o_rli o_xgc o_xca o_xno o_lco o_rwa (fun _ => ⟨Nat.le_of_ble_eq_true rfl, Nat.le_of_ble_eq_true rfl⟩) (fun _ => hnt) hF hP hD hS hl)
def F_T_state (xst : Nat → Int32) (a1 : Int32) : Option (Nat × Int32) :=
  ob1 (F_T_checkOwner a1) (fun k_1 => if k_1 = 0 then gd (a1 < 0 ∨ 8 ≤ a1.toNatClampNeg) (some (0, xst a1.toNatClampNeg)) else some (k_1, 0))
set_option maxHeartbeats 4000000 in
set_option maxRecDepth 100000 in
theorem t_T_state {p : Program} {l : Launch} {e : Env} {s : State} {m : MethodId} {args : Array Value} {below : List Frame} {meth : Method} {c : Code} {A : Nat → Prop} {g : va_G} {cI cJ cZ : ClassId} {ad : Nat → Nat} {rest : va_W} (K : kX p s m args meth c "LockTable" prog_1_method_12_code 2 (some .int) A g (kty cI cJ cZ)) {R : Room} (hR : 7 ≤ R.frames ∧ 110 ≤ R.locals) (hlt : l.stackTraces = false) (xst : Nat → Int32) (xse : Nat → Int32) (xre : Nat → Int32) (xgr : Nat → Int32) (ltm : Nat → Int32) (low : Nat → Int32) (lta : Nat → Int32) (llo : Nat → Int64) (lhi : Nat → Int64) (lmo : Nat → Int32) (rta : Nat → Int32) (ron : Nat → Int32) (rlo : Nat → Int64) (rhi : Nat → Int64) (rmo : Nat → Int32) (rin : Nat → Int32) (res : Nat → Int32) (rsi : Nat → Int32) (rli : Nat → Int32) (rar : Nat → Int32) (xgc : Int32) (xca : Int32) (xls : Int32) (xtl : Int32) (xno : Int32) (lco : Int32) (rwa : Int32) (rad : Int32) (a1 : Int32) (kx : Nat) (r : Int32) (hRc : kx ≠ 0 → 1 ≤ R.cells ∧ 6 ≤ R.slots) (hnt : kx ≠ 0 → ∀ x ∈ c.exceptionTable.toList, False) (hF : F_T_state xst a1 = some (kx, r)) {H : Heap} {locs : List Loc} {ls : Array Slot} (hP : va_P g kcl (wC cI cJ cZ ad xst xse xre xgr ltm low lta llo lhi lmo rta ron rlo rhi rmo rin res rsi rli rar xgc xca xls xtl xno lco rwa rad rest) H) (hD : va_D A (wC cI cJ cZ ad xst xse xre xgr ltm low lta llo lhi lmo rta ron rlo rhi rmo rin res rsi rli rar xgc xca xls xtl xno lco rwa rad rest)) (hS : va_S A s.heap H locs) (hl : lv_has ls 2 [(0, .ref (ad 0)), (1, .int a1)]) : W p l e (R) s m args below meth c H locs 0 0 (kSel below args s A kx (kQi g (kty cI cJ cZ) (wC cI cJ cZ ad xst xse xre xgr ltm low lta llo lhi lmo rta ron rlo rhi rmo rin res rsi rli rar xgc xca xls xtl xno lco rwa rad rest) A r) (kQx g (kty cI cJ cZ) (wC cI cJ cZ ad xst xse xre xgr ltm low lta llo lhi lmo rta ron rlo rhi rmo rin res rsi rli rar xgc xca xls xtl xno lco rwa rad rest) A kx)) (F0 m 0 ls []) := by
  obtain ⟨hx, hb, hr, hml, hown, hts, hlocks, hK, hA, hE⟩ := id K
  unfold F_T_state at hF
  refine lv_iload_n hx hb d_T_state_0 rfl (lv_at hl 1 rfl) ?_
  obtain ⟨k_1, hG, hF⟩ := ob1_inv hF
  by_cases hk_2 : k_1 = 0
  · replace hF := it_t hF hk_2
    subst hk_2
    refine ksv K hP hD hS (c_T_checkOwner l hlt g (kty cI cJ cZ) (wC cI cJ cZ ad xst xse xre xgr ltm low lta llo lhi lmo rta ron rlo rhi rmo rin res rsi rli rar xgc xca xls xtl xno lco rwa rad rest) a1  hG) wm_217 wm_215 wm_216 wm_46 hd_T_checkOwner rfl rfl ⟨Nat.le_trans (Nat.le_of_ble_eq_true rfl) hR.1, Nat.le_trans (Nat.le_of_ble_eq_true rfl) hR.2⟩ ⟨Nat.zero_le _, Nat.zero_le _⟩ hl.1 (rest := []) rfl (Nat.le_of_ble_eq_true rfl) d_T_state_1 (fun H locs hP hD hS => ?_)
    refine lv_aload_n hx hb d_T_state_4 rfl (lv_at hl 0 rfl) ?_
    refine va_get (D := g) (ci := 2) (v := .ref (ad 3)) (C := kR2) (T := kT2) (N := 11) hx hb hts kw2 hown hK hP 0 rfl rfl 0 (by decide) (hts _ wm_156) (fun _ h9 => h9) rfl d_T_state_5 ?_
    refine lv_iload_n hx hb d_T_state_8 rfl (lv_at hl 1 rfl) ?_
    obtain ⟨hg_3, hF⟩ := gd_inv hF
    refine va_iald hx hb hK hP 3 0 rfl rfl hg_3 d_T_state_9 ?_
    cases hF
    exact W.mono (fun t h => Or.inl ⟨rfl, h⟩) (kri K hP hD hS d_T_state_10 rfl)
  · replace hF := it_f hF hk_2
    cases hF
    refine kxs K hP hD hS (cx_T_checkOwner l hlt g (kty cI cJ cZ) (wC cI cJ cZ ad xst xse xre xgr ltm low lta llo lhi lmo rta ron rlo rhi rmo rin res rsi rli rar xgc xca xls xtl xno lco rwa rad rest) a1 _  hk_2 hG) wm_217 wm_215 wm_216 wm_46 hd_T_checkOwner rfl rfl ⟨Nat.le_trans (Nat.le_of_ble_eq_true rfl) hR.1, Nat.le_trans (Nat.le_of_ble_eq_true rfl) hR.2⟩ ⟨(hRc hk_2).1, (hRc hk_2).2⟩ hl.1 (rest := []) rfl (Nat.le_of_ble_eq_true rfl) d_T_state_1 (fun ce q9 H locs hP hD hS hce hcv hcl => ?_)
    exact kxo K hk_2 (hnt hk_2) hP hD hS hce hcv hcl
theorem c_T_state (l : Launch) (hlt : l.stackTraces = false) (g : va_G) (cI cJ cZ : ClassId) (ad : Nat → Nat) (xst : Nat → Int32) (xse : Nat → Int32) (xre : Nat → Int32) (xgr : Nat → Int32) (ltm : Nat → Int32) (low : Nat → Int32) (lta : Nat → Int32) (llo : Nat → Int64) (lhi : Nat → Int64) (lmo : Nat → Int32) (rta : Nat → Int32) (ron : Nat → Int32) (rlo : Nat → Int64) (rhi : Nat → Int64) (rmo : Nat → Int32) (rin : Nat → Int32) (res : Nat → Int32) (rsi : Nat → Int32) (rli : Nat → Int32) (rar : Nat → Int32) (xgc : Int32) (xca : Int32) (xls : Int32) (xtl : Int32) (xno : Int32) (lco : Int32) (rwa : Int32) (rad : Int32) (rest : va_W) (a1 : Int32) (r : Int32) (hF : F_T_state xst a1 = some (0, r)) : Ci l y_T_state prog_1_method_12_code 2 (some .int) ({ frames := 7, cells := 0, slots := 0, locals := 110 }) [.ref (ad 0), .int a1] g (kty cI cJ cZ) (wC cI cJ cZ ad xst xse xre xgr ltm low lta llo lhi lmo rta ron rlo rhi rmo rin res rsi rli rar xgc xca xls xtl xno lco rwa rad rest) (wC cI cJ cZ ad xst xse xre xgr ltm low lta llo lhi lmo rta ron rlo rhi rmo rin res rsi rli rar xgc xca xls xtl xno lco rwa rad rest) r :=
  fun sz => Ci.ofx (Q0 := fun A => kQi g (kty cI cJ cZ) (wC cI cJ cZ ad xst xse xre xgr ltm low lta llo lhi lmo rta ron rlo rhi rmo rin res rsi rli rar xgc xca xls xtl xno lco rwa rad rest) A r) (XC := fun A => kQx g (kty cI cJ cZ) (wC cI cJ cZ ad xst xse xre xgr ltm low lta llo lhi lmo rta ron rlo rhi rmo rin res rsi rli rar xgc xca xls xtl xno lco rwa rad rest) A 0) (by decide) (Nat.le_of_ble_eq_true rfl) (fun p e s m below meth c A ls K hP hD hS hl => t_T_state (R := { frames := 7, cells := 0, slots := 0, locals := 110 }) K ⟨Nat.le_of_ble_eq_true rfl, Nat.le_of_ble_eq_true rfl⟩ hlt xst xse xre xgr ltm low lta llo lhi lmo rta ron rlo rhi rmo rin res rsi rli rar xgc xca xls xtl xno lco rwa rad a1 0 r (fun h => absurd rfl h) (fun h => absurd rfl h) hF hP hD hS hl) sz
theorem cx_T_state (l : Launch) (hlt : l.stackTraces = false) (g : va_G) (cI cJ cZ : ClassId) (ad : Nat → Nat) (xst : Nat → Int32) (xse : Nat → Int32) (xre : Nat → Int32) (xgr : Nat → Int32) (ltm : Nat → Int32) (low : Nat → Int32) (lta : Nat → Int32) (llo : Nat → Int64) (lhi : Nat → Int64) (lmo : Nat → Int32) (rta : Nat → Int32) (ron : Nat → Int32) (rlo : Nat → Int64) (rhi : Nat → Int64) (rmo : Nat → Int32) (rin : Nat → Int32) (res : Nat → Int32) (rsi : Nat → Int32) (rli : Nat → Int32) (rar : Nat → Int32) (xgc : Int32) (xca : Int32) (xls : Int32) (xtl : Int32) (xno : Int32) (lco : Int32) (rwa : Int32) (rad : Int32) (rest : va_W) (a1 : Int32) (kx : Nat) (r : Int32) (hk : kx ≠ 0) (hF : F_T_state xst a1 = some (kx, r)) : Cx l y_T_state prog_1_method_12_code 2 (some .int) ({ frames := 7, cells := 1, slots := 6, locals := 110 }) [.ref (ad 0), .int a1] g (kty cI cJ cZ) (wC cI cJ cZ ad xst xse xre xgr ltm low lta llo lhi lmo rta ron rlo rhi rmo rin res rsi rli rar xgc xca xls xtl xno lco rwa rad rest) (wC cI cJ cZ ad xst xse xre xgr ltm low lta llo lhi lmo rta ron rlo rhi rmo rin res rsi rli rar xgc xca xls xtl xno lco rwa rad rest) kx :=
  Cx.of (Q0 := fun A => kQi g (kty cI cJ cZ) (wC cI cJ cZ ad xst xse xre xgr ltm low lta llo lhi lmo rta ron rlo rhi rmo rin res rsi rli rar xgc xca xls xtl xno lco rwa rad rest) A r) hk (by decide) (Nat.le_of_ble_eq_true rfl) (fun p e s m below meth c A ls hnt K hP hD hS hl => t_T_state (R := { frames := 7, cells := 1, slots := 6, locals := 110 }) K ⟨Nat.le_of_ble_eq_true rfl, Nat.le_of_ble_eq_true rfl⟩ hlt xst xse xre xgr ltm low lta llo lhi lmo rta ron rlo rhi rmo rin res rsi rli rar xgc xca xls xtl xno lco rwa rad a1 kx r (fun _ => ⟨Nat.le_of_ble_eq_true rfl, Nat.le_of_ble_eq_true rfl⟩) (fun _ => hnt) hF hP hD hS hl)
def F_T_serial (xse : Nat → Int32) (a1 : Int32) : Option (Nat × Int32) :=
  ob1 (F_T_checkOwner a1) (fun k_1 => if k_1 = 0 then gd (a1 < 0 ∨ 8 ≤ a1.toNatClampNeg) (some (0, xse a1.toNatClampNeg)) else some (k_1, 0))
set_option maxHeartbeats 4000000 in
set_option maxRecDepth 100000 in
theorem t_T_serial {p : Program} {l : Launch} {e : Env} {s : State} {m : MethodId} {args : Array Value} {below : List Frame} {meth : Method} {c : Code} {A : Nat → Prop} {g : va_G} {cI cJ cZ : ClassId} {ad : Nat → Nat} {rest : va_W} (K : kX p s m args meth c "LockTable" prog_1_method_13_code 2 (some .int) A g (kty cI cJ cZ)) {R : Room} (hR : 7 ≤ R.frames ∧ 110 ≤ R.locals) (hlt : l.stackTraces = false) (xst : Nat → Int32) (xse : Nat → Int32) (xre : Nat → Int32) (xgr : Nat → Int32) (ltm : Nat → Int32) (low : Nat → Int32) (lta : Nat → Int32) (llo : Nat → Int64) (lhi : Nat → Int64) (lmo : Nat → Int32) (rta : Nat → Int32) (ron : Nat → Int32) (rlo : Nat → Int64) (rhi : Nat → Int64) (rmo : Nat → Int32) (rin : Nat → Int32) (res : Nat → Int32) (rsi : Nat → Int32) (rli : Nat → Int32) (rar : Nat → Int32) (xgc : Int32) (xca : Int32) (xls : Int32) (xtl : Int32) (xno : Int32) (lco : Int32) (rwa : Int32) (rad : Int32) (a1 : Int32) (kx : Nat) (r : Int32) (hRc : kx ≠ 0 → 1 ≤ R.cells ∧ 6 ≤ R.slots) (hnt : kx ≠ 0 → ∀ x ∈ c.exceptionTable.toList, False) (hF : F_T_serial xse a1 = some (kx, r)) {H : Heap} {locs : List Loc} {ls : Array Slot} (hP : va_P g kcl (wC cI cJ cZ ad xst xse xre xgr ltm low lta llo lhi lmo rta ron rlo rhi rmo rin res rsi rli rar xgc xca xls xtl xno lco rwa rad rest) H) (hD : va_D A (wC cI cJ cZ ad xst xse xre xgr ltm low lta llo lhi lmo rta ron rlo rhi rmo rin res rsi rli rar xgc xca xls xtl xno lco rwa rad rest)) (hS : va_S A s.heap H locs) (hl : lv_has ls 2 [(0, .ref (ad 0)), (1, .int a1)]) : W p l e (R) s m args below meth c H locs 0 0 (kSel below args s A kx (kQi g (kty cI cJ cZ) (wC cI cJ cZ ad xst xse xre xgr ltm low lta llo lhi lmo rta ron rlo rhi rmo rin res rsi rli rar xgc xca xls xtl xno lco rwa rad rest) A r) (kQx g (kty cI cJ cZ) (wC cI cJ cZ ad xst xse xre xgr ltm low lta llo lhi lmo rta ron rlo rhi rmo rin res rsi rli rar xgc xca xls xtl xno lco rwa rad rest) A kx)) (F0 m 0 ls []) := by
  obtain ⟨hx, hb, hr, hml, hown, hts, hlocks, hK, hA, hE⟩ := id K
  unfold F_T_serial at hF
  refine lv_iload_n hx hb d_T_serial_0 rfl (lv_at hl 1 rfl) ?_
  obtain ⟨k_1, hG, hF⟩ := ob1_inv hF
  by_cases hk_2 : k_1 = 0
  · replace hF := it_t hF hk_2
    subst hk_2
    refine ksv K hP hD hS (c_T_checkOwner l hlt g (kty cI cJ cZ) (wC cI cJ cZ ad xst xse xre xgr ltm low lta llo lhi lmo rta ron rlo rhi rmo rin res rsi rli rar xgc xca xls xtl xno lco rwa rad rest) a1  hG) wm_217 wm_215 wm_216 wm_46 hd_T_checkOwner rfl rfl ⟨Nat.le_trans (Nat.le_of_ble_eq_true rfl) hR.1, Nat.le_trans (Nat.le_of_ble_eq_true rfl) hR.2⟩ ⟨Nat.zero_le _, Nat.zero_le _⟩ hl.1 (rest := []) rfl (Nat.le_of_ble_eq_true rfl) d_T_serial_1 (fun H locs hP hD hS => ?_)
    refine lv_aload_n hx hb d_T_serial_4 rfl (lv_at hl 0 rfl) ?_
    refine va_get (D := g) (ci := 2) (v := .ref (ad 4)) (C := kR2) (T := kT2) (N := 11) hx hb hts kw2 hown hK hP 0 rfl rfl 1 (by decide) (hts _ wm_157) (fun _ h9 => h9) rfl d_T_serial_5 ?_
    refine lv_iload_n hx hb d_T_serial_8 rfl (lv_at hl 1 rfl) ?_
    obtain ⟨hg_3, hF⟩ := gd_inv hF
    refine va_iald hx hb hK hP 4 0 rfl rfl hg_3 d_T_serial_9 ?_
    cases hF
    exact W.mono (fun t h => Or.inl ⟨rfl, h⟩) (kri K hP hD hS d_T_serial_10 rfl)
  · replace hF := it_f hF hk_2
    cases hF
    refine kxs K hP hD hS (cx_T_checkOwner l hlt g (kty cI cJ cZ) (wC cI cJ cZ ad xst xse xre xgr ltm low lta llo lhi lmo rta ron rlo rhi rmo rin res rsi rli rar xgc xca xls xtl xno lco rwa rad rest) a1 _  hk_2 hG) wm_217 wm_215 wm_216 wm_46 hd_T_checkOwner rfl rfl ⟨Nat.le_trans (Nat.le_of_ble_eq_true rfl) hR.1, Nat.le_trans (Nat.le_of_ble_eq_true rfl) hR.2⟩ ⟨(hRc hk_2).1, (hRc hk_2).2⟩ hl.1 (rest := []) rfl (Nat.le_of_ble_eq_true rfl) d_T_serial_1 (fun ce q9 H locs hP hD hS hce hcv hcl => ?_)
    exact kxo K hk_2 (hnt hk_2) hP hD hS hce hcv hcl
theorem c_T_serial (l : Launch) (hlt : l.stackTraces = false) (g : va_G) (cI cJ cZ : ClassId) (ad : Nat → Nat) (xst : Nat → Int32) (xse : Nat → Int32) (xre : Nat → Int32) (xgr : Nat → Int32) (ltm : Nat → Int32) (low : Nat → Int32) (lta : Nat → Int32) (llo : Nat → Int64) (lhi : Nat → Int64) (lmo : Nat → Int32) (rta : Nat → Int32) (ron : Nat → Int32) (rlo : Nat → Int64) (rhi : Nat → Int64) (rmo : Nat → Int32) (rin : Nat → Int32) (res : Nat → Int32) (rsi : Nat → Int32) (rli : Nat → Int32) (rar : Nat → Int32) (xgc : Int32) (xca : Int32) (xls : Int32) (xtl : Int32) (xno : Int32) (lco : Int32) (rwa : Int32) (rad : Int32) (rest : va_W) (a1 : Int32) (r : Int32) (hF : F_T_serial xse a1 = some (0, r)) : Ci l y_T_serial prog_1_method_13_code 2 (some .int) ({ frames := 7, cells := 0, slots := 0, locals := 110 }) [.ref (ad 0), .int a1] g (kty cI cJ cZ) (wC cI cJ cZ ad xst xse xre xgr ltm low lta llo lhi lmo rta ron rlo rhi rmo rin res rsi rli rar xgc xca xls xtl xno lco rwa rad rest) (wC cI cJ cZ ad xst xse xre xgr ltm low lta llo lhi lmo rta ron rlo rhi rmo rin res rsi rli rar xgc xca xls xtl xno lco rwa rad rest) r :=
  fun sz => Ci.ofx (Q0 := fun A => kQi g (kty cI cJ cZ) (wC cI cJ cZ ad xst xse xre xgr ltm low lta llo lhi lmo rta ron rlo rhi rmo rin res rsi rli rar xgc xca xls xtl xno lco rwa rad rest) A r) (XC := fun A => kQx g (kty cI cJ cZ) (wC cI cJ cZ ad xst xse xre xgr ltm low lta llo lhi lmo rta ron rlo rhi rmo rin res rsi rli rar xgc xca xls xtl xno lco rwa rad rest) A 0) (by decide) (Nat.le_of_ble_eq_true rfl) (fun p e s m below meth c A ls K hP hD hS hl => t_T_serial (R := { frames := 7, cells := 0, slots := 0, locals := 110 }) K ⟨Nat.le_of_ble_eq_true rfl, Nat.le_of_ble_eq_true rfl⟩ hlt xst xse xre xgr ltm low lta llo lhi lmo rta ron rlo rhi rmo rin res rsi rli rar xgc xca xls xtl xno lco rwa rad a1 0 r (fun h => absurd rfl h) (fun h => absurd rfl h) hF hP hD hS hl) sz
theorem cx_T_serial (l : Launch) (hlt : l.stackTraces = false) (g : va_G) (cI cJ cZ : ClassId) (ad : Nat → Nat) (xst : Nat → Int32) (xse : Nat → Int32) (xre : Nat → Int32) (xgr : Nat → Int32) (ltm : Nat → Int32) (low : Nat → Int32) (lta : Nat → Int32) (llo : Nat → Int64) (lhi : Nat → Int64) (lmo : Nat → Int32) (rta : Nat → Int32) (ron : Nat → Int32) (rlo : Nat → Int64) (rhi : Nat → Int64) (rmo : Nat → Int32) (rin : Nat → Int32) (res : Nat → Int32) (rsi : Nat → Int32) (rli : Nat → Int32) (rar : Nat → Int32) (xgc : Int32) (xca : Int32) (xls : Int32) (xtl : Int32) (xno : Int32) (lco : Int32) (rwa : Int32) (rad : Int32) (rest : va_W) (a1 : Int32) (kx : Nat) (r : Int32) (hk : kx ≠ 0) (hF : F_T_serial xse a1 = some (kx, r)) : Cx l y_T_serial prog_1_method_13_code 2 (some .int) ({ frames := 7, cells := 1, slots := 6, locals := 110 }) [.ref (ad 0), .int a1] g (kty cI cJ cZ) (wC cI cJ cZ ad xst xse xre xgr ltm low lta llo lhi lmo rta ron rlo rhi rmo rin res rsi rli rar xgc xca xls xtl xno lco rwa rad rest) (wC cI cJ cZ ad xst xse xre xgr ltm low lta llo lhi lmo rta ron rlo rhi rmo rin res rsi rli rar xgc xca xls xtl xno lco rwa rad rest) kx :=
  Cx.of (Q0 := fun A => kQi g (kty cI cJ cZ) (wC cI cJ cZ ad xst xse xre xgr ltm low lta llo lhi lmo rta ron rlo rhi rmo rin res rsi rli rar xgc xca xls xtl xno lco rwa rad rest) A r) hk (by decide) (Nat.le_of_ble_eq_true rfl) (fun p e s m below meth c A ls hnt K hP hD hS hl => t_T_serial (R := { frames := 7, cells := 1, slots := 6, locals := 110 }) K ⟨Nat.le_of_ble_eq_true rfl, Nat.le_of_ble_eq_true rfl⟩ hlt xst xse xre xgr ltm low lta llo lhi lmo rta ron rlo rhi rmo rin res rsi rli rar xgc xca xls xtl xno lco rwa rad a1 kx r (fun _ => ⟨Nat.le_of_ble_eq_true rfl, Nat.le_of_ble_eq_true rfl⟩) (fun _ => hnt) hF hP hD hS hl)
def F_T_ranges (low : Nat → Int32) (lta : Nat → Int32) (lco : Int32) (a1 : Int32) (a2 : Int32) : Option (Nat × Int32) :=
  ob1 (F_T_checkOwner a1) (fun k_1 => if k_1 = 0 then ob1 (F_T_checkTable a2) (fun k_3 => if k_3 = 0 then ob1 (F_L_countRanges low lta lco a1 a2) (fun r_5 => some (0, r_5)) else some (k_3, 0)) else some (k_1, 0))
set_option maxHeartbeats 4000000 in
set_option maxRecDepth 100000 in
theorem t_T_ranges {p : Program} {l : Launch} {e : Env} {s : State} {m : MethodId} {args : Array Value} {below : List Frame} {meth : Method} {c : Code} {A : Nat → Prop} {g : va_G} {cI cJ cZ : ClassId} {ad : Nat → Nat} {rest : va_W} (K : kX p s m args meth c "LockTable" prog_1_method_14_code 3 (some .int) A g (kty cI cJ cZ)) {R : Room} (hR : 7 ≤ R.frames ∧ 110 ≤ R.locals) (hlt : l.stackTraces = false) (xst : Nat → Int32) (xse : Nat → Int32) (xre : Nat → Int32) (xgr : Nat → Int32) (ltm : Nat → Int32) (low : Nat → Int32) (lta : Nat → Int32) (llo : Nat → Int64) (lhi : Nat → Int64) (lmo : Nat → Int32) (rta : Nat → Int32) (ron : Nat → Int32) (rlo : Nat → Int64) (rhi : Nat → Int64) (rmo : Nat → Int32) (rin : Nat → Int32) (res : Nat → Int32) (rsi : Nat → Int32) (rli : Nat → Int32) (rar : Nat → Int32) (xgc : Int32) (xca : Int32) (xls : Int32) (xtl : Int32) (xno : Int32) (lco : Int32) (rwa : Int32) (rad : Int32) (a1 : Int32) (a2 : Int32) (kx : Nat) (r : Int32) (hRc : kx ≠ 0 → 1 ≤ R.cells ∧ 6 ≤ R.slots) (hnt : kx ≠ 0 → ∀ x ∈ c.exceptionTable.toList, False) (hF : F_T_ranges low lta lco a1 a2 = some (kx, r)) {H : Heap} {locs : List Loc} {ls : Array Slot} (hP : va_P g kcl (wC cI cJ cZ ad xst xse xre xgr ltm low lta llo lhi lmo rta ron rlo rhi rmo rin res rsi rli rar xgc xca xls xtl xno lco rwa rad rest) H) (hD : va_D A (wC cI cJ cZ ad xst xse xre xgr ltm low lta llo lhi lmo rta ron rlo rhi rmo rin res rsi rli rar xgc xca xls xtl xno lco rwa rad rest)) (hS : va_S A s.heap H locs) (hl : lv_has ls 3 [(0, .ref (ad 0)), (1, .int a1), (2, .int a2)]) : W p l e (R) s m args below meth c H locs 0 0 (kSel below args s A kx (kQi g (kty cI cJ cZ) (wC cI cJ cZ ad xst xse xre xgr ltm low lta llo lhi lmo rta ron rlo rhi rmo rin res rsi rli rar xgc xca xls xtl xno lco rwa rad rest) A r) (kQx g (kty cI cJ cZ) (wC cI cJ cZ ad xst xse xre xgr ltm low lta llo lhi lmo rta ron rlo rhi rmo rin res rsi rli rar xgc xca xls xtl xno lco rwa rad rest) A kx)) (F0 m 0 ls []) := by
  obtain ⟨hx, hb, hr, hml, hown, hts, hlocks, hK, hA, hE⟩ := id K
  unfold F_T_ranges at hF
  refine lv_iload_n hx hb d_T_ranges_0 rfl (lv_at hl 1 rfl) ?_
  obtain ⟨k_1, hG, hF⟩ := ob1_inv hF
  by_cases hk_2 : k_1 = 0
  · replace hF := it_t hF hk_2
    subst hk_2
    refine ksv K hP hD hS (c_T_checkOwner l hlt g (kty cI cJ cZ) (wC cI cJ cZ ad xst xse xre xgr ltm low lta llo lhi lmo rta ron rlo rhi rmo rin res rsi rli rar xgc xca xls xtl xno lco rwa rad rest) a1  hG) wm_217 wm_215 wm_216 wm_46 hd_T_checkOwner rfl rfl ⟨Nat.le_trans (Nat.le_of_ble_eq_true rfl) hR.1, Nat.le_trans (Nat.le_of_ble_eq_true rfl) hR.2⟩ ⟨Nat.zero_le _, Nat.zero_le _⟩ hl.1 (rest := []) rfl (Nat.le_of_ble_eq_true rfl) d_T_ranges_1 (fun H locs hP hD hS => ?_)
    refine lv_iload_n hx hb d_T_ranges_4 rfl (lv_at hl 2 rfl) ?_
    obtain ⟨k_3, hG, hF⟩ := ob1_inv hF
    by_cases hk_4 : k_3 = 0
    · replace hF := it_t hF hk_4
      subst hk_4
      refine ksv K hP hD hS (c_T_checkTable l hlt g (kty cI cJ cZ) (wC cI cJ cZ ad xst xse xre xgr ltm low lta llo lhi lmo rta ron rlo rhi rmo rin res rsi rli rar xgc xca xls xtl xno lco rwa rad rest) a2  hG) wm_315 wm_313 wm_314 wm_46 hd_T_checkTable rfl rfl ⟨Nat.le_trans (Nat.le_of_ble_eq_true rfl) hR.1, Nat.le_trans (Nat.le_of_ble_eq_true rfl) hR.2⟩ ⟨Nat.zero_le _, Nat.zero_le _⟩ hl.1 (rest := []) rfl (Nat.le_of_ble_eq_true rfl) d_T_ranges_5 (fun H locs hP hD hS => ?_)
      refine lv_aload_n hx hb d_T_ranges_8 rfl (lv_at hl 0 rfl) ?_
      refine va_get (D := g) (ci := 2) (v := .ref (ad 1)) (C := kR2) (T := kT2) (N := 11) hx hb hts kw2 hown hK hP 0 rfl rfl 2 (by decide) (hts _ wm_158) (fun _ h9 => h9) rfl d_T_ranges_9 ?_
      refine lv_iload_n hx hb d_T_ranges_12 rfl (lv_at hl 1 rfl) ?_
      refine lv_iload_n hx hb d_T_ranges_13 rfl (lv_at hl 2 rfl) ?_
      obtain ⟨r_5, hG, hF⟩ := ob1_inv hF
      refine kci K hP hD hS (c_L_countRanges l g cI cJ cZ ad xst xse xre xgr ltm low lta llo lhi lmo rta ron rlo rhi rmo rin res rsi rli rar xgc xca xls xtl xno lco rwa rad rest a1 a2 r_5 hG) wm_494 wm_491 wm_492 wm_493 wm_48 hd_L_countRanges rfl rfl ⟨Nat.le_trans (Nat.le_of_ble_eq_true rfl) hR.1, Nat.le_trans (Nat.le_of_ble_eq_true rfl) hR.2⟩ ⟨Nat.zero_le _, Nat.zero_le _⟩ 0 1 rfl rfl rfl hl.1 (rest := []) rfl (Nat.le_of_ble_eq_true rfl) d_T_ranges_14 (fun H locs hP hD hS => ?_)
      cases hF
      exact W.mono (fun t h => Or.inl ⟨rfl, h⟩) (kri K hP hD hS d_T_ranges_17 rfl)
    · replace hF := it_f hF hk_4
      cases hF
      refine kxs K hP hD hS (cx_T_checkTable l hlt g (kty cI cJ cZ) (wC cI cJ cZ ad xst xse xre xgr ltm low lta llo lhi lmo rta ron rlo rhi rmo rin res rsi rli rar xgc xca xls xtl xno lco rwa rad rest) a2 _  hk_4 hG) wm_315 wm_313 wm_314 wm_46 hd_T_checkTable rfl rfl ⟨Nat.le_trans (Nat.le_of_ble_eq_true rfl) hR.1, Nat.le_trans (Nat.le_of_ble_eq_true rfl) hR.2⟩ ⟨(hRc hk_4).1, (hRc hk_4).2⟩ hl.1 (rest := []) rfl (Nat.le_of_ble_eq_true rfl) d_T_ranges_5 (fun ce q9 H locs hP hD hS hce hcv hcl => ?_)
      exact kxo K hk_4 (hnt hk_4) hP hD hS hce hcv hcl
  · replace hF := it_f hF hk_2
    cases hF
    refine kxs K hP hD hS (cx_T_checkOwner l hlt g (kty cI cJ cZ) (wC cI cJ cZ ad xst xse xre xgr ltm low lta llo lhi lmo rta ron rlo rhi rmo rin res rsi rli rar xgc xca xls xtl xno lco rwa rad rest) a1 _  hk_2 hG) wm_217 wm_215 wm_216 wm_46 hd_T_checkOwner rfl rfl ⟨Nat.le_trans (Nat.le_of_ble_eq_true rfl) hR.1, Nat.le_trans (Nat.le_of_ble_eq_true rfl) hR.2⟩ ⟨(hRc hk_2).1, (hRc hk_2).2⟩ hl.1 (rest := []) rfl (Nat.le_of_ble_eq_true rfl) d_T_ranges_1 (fun ce q9 H locs hP hD hS hce hcv hcl => ?_)
    exact kxo K hk_2 (hnt hk_2) hP hD hS hce hcv hcl
theorem c_T_ranges (l : Launch) (hlt : l.stackTraces = false) (g : va_G) (cI cJ cZ : ClassId) (ad : Nat → Nat) (xst : Nat → Int32) (xse : Nat → Int32) (xre : Nat → Int32) (xgr : Nat → Int32) (ltm : Nat → Int32) (low : Nat → Int32) (lta : Nat → Int32) (llo : Nat → Int64) (lhi : Nat → Int64) (lmo : Nat → Int32) (rta : Nat → Int32) (ron : Nat → Int32) (rlo : Nat → Int64) (rhi : Nat → Int64) (rmo : Nat → Int32) (rin : Nat → Int32) (res : Nat → Int32) (rsi : Nat → Int32) (rli : Nat → Int32) (rar : Nat → Int32) (xgc : Int32) (xca : Int32) (xls : Int32) (xtl : Int32) (xno : Int32) (lco : Int32) (rwa : Int32) (rad : Int32) (rest : va_W) (a1 : Int32) (a2 : Int32) (r : Int32) (hF : F_T_ranges low lta lco a1 a2 = some (0, r)) : Ci l y_T_ranges prog_1_method_14_code 3 (some .int) ({ frames := 7, cells := 0, slots := 0, locals := 110 }) [.ref (ad 0), .int a1, .int a2] g (kty cI cJ cZ) (wC cI cJ cZ ad xst xse xre xgr ltm low lta llo lhi lmo rta ron rlo rhi rmo rin res rsi rli rar xgc xca xls xtl xno lco rwa rad rest) (wC cI cJ cZ ad xst xse xre xgr ltm low lta llo lhi lmo rta ron rlo rhi rmo rin res rsi rli rar xgc xca xls xtl xno lco rwa rad rest) r :=
  fun sz => Ci.ofx (Q0 := fun A => kQi g (kty cI cJ cZ) (wC cI cJ cZ ad xst xse xre xgr ltm low lta llo lhi lmo rta ron rlo rhi rmo rin res rsi rli rar xgc xca xls xtl xno lco rwa rad rest) A r) (XC := fun A => kQx g (kty cI cJ cZ) (wC cI cJ cZ ad xst xse xre xgr ltm low lta llo lhi lmo rta ron rlo rhi rmo rin res rsi rli rar xgc xca xls xtl xno lco rwa rad rest) A 0) (by decide) (Nat.le_of_ble_eq_true rfl) (fun p e s m below meth c A ls K hP hD hS hl => t_T_ranges (R := { frames := 7, cells := 0, slots := 0, locals := 110 }) K ⟨Nat.le_of_ble_eq_true rfl, Nat.le_of_ble_eq_true rfl⟩ hlt xst xse xre xgr ltm low lta llo lhi lmo rta ron rlo rhi rmo rin res rsi rli rar xgc xca xls xtl xno lco rwa rad a1 a2 0 r (fun h => absurd rfl h) (fun h => absurd rfl h) hF hP hD hS hl) sz
theorem cx_T_ranges (l : Launch) (hlt : l.stackTraces = false) (g : va_G) (cI cJ cZ : ClassId) (ad : Nat → Nat) (xst : Nat → Int32) (xse : Nat → Int32) (xre : Nat → Int32) (xgr : Nat → Int32) (ltm : Nat → Int32) (low : Nat → Int32) (lta : Nat → Int32) (llo : Nat → Int64) (lhi : Nat → Int64) (lmo : Nat → Int32) (rta : Nat → Int32) (ron : Nat → Int32) (rlo : Nat → Int64) (rhi : Nat → Int64) (rmo : Nat → Int32) (rin : Nat → Int32) (res : Nat → Int32) (rsi : Nat → Int32) (rli : Nat → Int32) (rar : Nat → Int32) (xgc : Int32) (xca : Int32) (xls : Int32) (xtl : Int32) (xno : Int32) (lco : Int32) (rwa : Int32) (rad : Int32) (rest : va_W) (a1 : Int32) (a2 : Int32) (kx : Nat) (r : Int32) (hk : kx ≠ 0) (hF : F_T_ranges low lta lco a1 a2 = some (kx, r)) : Cx l y_T_ranges prog_1_method_14_code 3 (some .int) ({ frames := 7, cells := 1, slots := 6, locals := 110 }) [.ref (ad 0), .int a1, .int a2] g (kty cI cJ cZ) (wC cI cJ cZ ad xst xse xre xgr ltm low lta llo lhi lmo rta ron rlo rhi rmo rin res rsi rli rar xgc xca xls xtl xno lco rwa rad rest) (wC cI cJ cZ ad xst xse xre xgr ltm low lta llo lhi lmo rta ron rlo rhi rmo rin res rsi rli rar xgc xca xls xtl xno lco rwa rad rest) kx :=
  Cx.of (Q0 := fun A => kQi g (kty cI cJ cZ) (wC cI cJ cZ ad xst xse xre xgr ltm low lta llo lhi lmo rta ron rlo rhi rmo rin res rsi rli rar xgc xca xls xtl xno lco rwa rad rest) A r) hk (by decide) (Nat.le_of_ble_eq_true rfl) (fun p e s m below meth c A ls hnt K hP hD hS hl => t_T_ranges (R := { frames := 7, cells := 1, slots := 6, locals := 110 }) K ⟨Nat.le_of_ble_eq_true rfl, Nat.le_of_ble_eq_true rfl⟩ hlt xst xse xre xgr ltm low lta llo lhi lmo rta ron rlo rhi rmo rin res rsi rli rar xgc xca xls xtl xno lco rwa rad a1 a2 kx r (fun _ => ⟨Nat.le_of_ble_eq_true rfl, Nat.le_of_ble_eq_true rfl⟩) (fun _ => hnt) hF hP hD hS hl)
def F_T_mode (ltm : Nat → Int32) (a1 : Int32) (a2 : Int32) : Option (Nat × Int32) :=
  ob1 (F_T_checkOwner a1) (fun k_1 => if k_1 = 0 then ob1 (F_T_checkTable a2) (fun k_3 => if k_3 = 0 then ob1 (F_L_heldMode ltm a1 a2) (fun r_5 => some (0, r_5)) else some (k_3, 0)) else some (k_1, 0))
set_option maxHeartbeats 4000000 in
set_option maxRecDepth 100000 in
theorem t_T_mode {p : Program} {l : Launch} {e : Env} {s : State} {m : MethodId} {args : Array Value} {below : List Frame} {meth : Method} {c : Code} {A : Nat → Prop} {g : va_G} {cI cJ cZ : ClassId} {ad : Nat → Nat} {rest : va_W} (K : kX p s m args meth c "LockTable" prog_1_method_16_code 3 (some .int) A g (kty cI cJ cZ)) {R : Room} (hR : 7 ≤ R.frames ∧ 110 ≤ R.locals) (hlt : l.stackTraces = false) (xst : Nat → Int32) (xse : Nat → Int32) (xre : Nat → Int32) (xgr : Nat → Int32) (ltm : Nat → Int32) (low : Nat → Int32) (lta : Nat → Int32) (llo : Nat → Int64) (lhi : Nat → Int64) (lmo : Nat → Int32) (rta : Nat → Int32) (ron : Nat → Int32) (rlo : Nat → Int64) (rhi : Nat → Int64) (rmo : Nat → Int32) (rin : Nat → Int32) (res : Nat → Int32) (rsi : Nat → Int32) (rli : Nat → Int32) (rar : Nat → Int32) (xgc : Int32) (xca : Int32) (xls : Int32) (xtl : Int32) (xno : Int32) (lco : Int32) (rwa : Int32) (rad : Int32) (a1 : Int32) (a2 : Int32) (kx : Nat) (r : Int32) (hRc : kx ≠ 0 → 1 ≤ R.cells ∧ 6 ≤ R.slots) (hnt : kx ≠ 0 → ∀ x ∈ c.exceptionTable.toList, False) (hF : F_T_mode ltm a1 a2 = some (kx, r)) {H : Heap} {locs : List Loc} {ls : Array Slot} (hP : va_P g kcl (wC cI cJ cZ ad xst xse xre xgr ltm low lta llo lhi lmo rta ron rlo rhi rmo rin res rsi rli rar xgc xca xls xtl xno lco rwa rad rest) H) (hD : va_D A (wC cI cJ cZ ad xst xse xre xgr ltm low lta llo lhi lmo rta ron rlo rhi rmo rin res rsi rli rar xgc xca xls xtl xno lco rwa rad rest)) (hS : va_S A s.heap H locs) (hl : lv_has ls 3 [(0, .ref (ad 0)), (1, .int a1), (2, .int a2)]) : W p l e (R) s m args below meth c H locs 0 0 (kSel below args s A kx (kQi g (kty cI cJ cZ) (wC cI cJ cZ ad xst xse xre xgr ltm low lta llo lhi lmo rta ron rlo rhi rmo rin res rsi rli rar xgc xca xls xtl xno lco rwa rad rest) A r) (kQx g (kty cI cJ cZ) (wC cI cJ cZ ad xst xse xre xgr ltm low lta llo lhi lmo rta ron rlo rhi rmo rin res rsi rli rar xgc xca xls xtl xno lco rwa rad rest) A kx)) (F0 m 0 ls []) := by
  obtain ⟨hx, hb, hr, hml, hown, hts, hlocks, hK, hA, hE⟩ := id K
  unfold F_T_mode at hF
  refine lv_iload_n hx hb d_T_mode_0 rfl (lv_at hl 1 rfl) ?_
  obtain ⟨k_1, hG, hF⟩ := ob1_inv hF
  by_cases hk_2 : k_1 = 0
  · replace hF := it_t hF hk_2
    subst hk_2
    refine ksv K hP hD hS (c_T_checkOwner l hlt g (kty cI cJ cZ) (wC cI cJ cZ ad xst xse xre xgr ltm low lta llo lhi lmo rta ron rlo rhi rmo rin res rsi rli rar xgc xca xls xtl xno lco rwa rad rest) a1  hG) wm_217 wm_215 wm_216 wm_46 hd_T_checkOwner rfl rfl ⟨Nat.le_trans (Nat.le_of_ble_eq_true rfl) hR.1, Nat.le_trans (Nat.le_of_ble_eq_true rfl) hR.2⟩ ⟨Nat.zero_le _, Nat.zero_le _⟩ hl.1 (rest := []) rfl (Nat.le_of_ble_eq_true rfl) d_T_mode_1 (fun H locs hP hD hS => ?_)
    refine lv_iload_n hx hb d_T_mode_4 rfl (lv_at hl 2 rfl) ?_
    obtain ⟨k_3, hG, hF⟩ := ob1_inv hF
    by_cases hk_4 : k_3 = 0
    · replace hF := it_t hF hk_4
      subst hk_4
      refine ksv K hP hD hS (c_T_checkTable l hlt g (kty cI cJ cZ) (wC cI cJ cZ ad xst xse xre xgr ltm low lta llo lhi lmo rta ron rlo rhi rmo rin res rsi rli rar xgc xca xls xtl xno lco rwa rad rest) a2  hG) wm_315 wm_313 wm_314 wm_46 hd_T_checkTable rfl rfl ⟨Nat.le_trans (Nat.le_of_ble_eq_true rfl) hR.1, Nat.le_trans (Nat.le_of_ble_eq_true rfl) hR.2⟩ ⟨Nat.zero_le _, Nat.zero_le _⟩ hl.1 (rest := []) rfl (Nat.le_of_ble_eq_true rfl) d_T_mode_5 (fun H locs hP hD hS => ?_)
      refine lv_aload_n hx hb d_T_mode_8 rfl (lv_at hl 0 rfl) ?_
      refine va_get (D := g) (ci := 2) (v := .ref (ad 1)) (C := kR2) (T := kT2) (N := 11) hx hb hts kw2 hown hK hP 0 rfl rfl 2 (by decide) (hts _ wm_158) (fun _ h9 => h9) rfl d_T_mode_9 ?_
      refine lv_iload_n hx hb d_T_mode_12 rfl (lv_at hl 1 rfl) ?_
      refine lv_iload_n hx hb d_T_mode_13 rfl (lv_at hl 2 rfl) ?_
      obtain ⟨r_5, hG, hF⟩ := ob1_inv hF
      refine kci K hP hD hS (c_L_heldMode l g cI cJ cZ ad xst xse xre xgr ltm low lta llo lhi lmo rta ron rlo rhi rmo rin res rsi rli rar xgc xca xls xtl xno lco rwa rad rest a1 a2 r_5 hG) wm_329 wm_326 wm_327 wm_328 wm_48 hd_L_heldMode rfl rfl ⟨Nat.le_trans (Nat.le_of_ble_eq_true rfl) hR.1, Nat.le_trans (Nat.le_of_ble_eq_true rfl) hR.2⟩ ⟨Nat.zero_le _, Nat.zero_le _⟩ 0 1 rfl rfl rfl hl.1 (rest := []) rfl (Nat.le_of_ble_eq_true rfl) d_T_mode_14 (fun H locs hP hD hS => ?_)
      cases hF
      exact W.mono (fun t h => Or.inl ⟨rfl, h⟩) (kri K hP hD hS d_T_mode_17 rfl)
    · replace hF := it_f hF hk_4
      cases hF
      refine kxs K hP hD hS (cx_T_checkTable l hlt g (kty cI cJ cZ) (wC cI cJ cZ ad xst xse xre xgr ltm low lta llo lhi lmo rta ron rlo rhi rmo rin res rsi rli rar xgc xca xls xtl xno lco rwa rad rest) a2 _  hk_4 hG) wm_315 wm_313 wm_314 wm_46 hd_T_checkTable rfl rfl ⟨Nat.le_trans (Nat.le_of_ble_eq_true rfl) hR.1, Nat.le_trans (Nat.le_of_ble_eq_true rfl) hR.2⟩ ⟨(hRc hk_4).1, (hRc hk_4).2⟩ hl.1 (rest := []) rfl (Nat.le_of_ble_eq_true rfl) d_T_mode_5 (fun ce q9 H locs hP hD hS hce hcv hcl => ?_)
      exact kxo K hk_4 (hnt hk_4) hP hD hS hce hcv hcl
  · replace hF := it_f hF hk_2
    cases hF
    refine kxs K hP hD hS (cx_T_checkOwner l hlt g (kty cI cJ cZ) (wC cI cJ cZ ad xst xse xre xgr ltm low lta llo lhi lmo rta ron rlo rhi rmo rin res rsi rli rar xgc xca xls xtl xno lco rwa rad rest) a1 _  hk_2 hG) wm_217 wm_215 wm_216 wm_46 hd_T_checkOwner rfl rfl ⟨Nat.le_trans (Nat.le_of_ble_eq_true rfl) hR.1, Nat.le_trans (Nat.le_of_ble_eq_true rfl) hR.2⟩ ⟨(hRc hk_2).1, (hRc hk_2).2⟩ hl.1 (rest := []) rfl (Nat.le_of_ble_eq_true rfl) d_T_mode_1 (fun ce q9 H locs hP hD hS hce hcv hcl => ?_)
    exact kxo K hk_2 (hnt hk_2) hP hD hS hce hcv hcl
theorem c_T_mode (l : Launch) (hlt : l.stackTraces = false) (g : va_G) (cI cJ cZ : ClassId) (ad : Nat → Nat) (xst : Nat → Int32) (xse : Nat → Int32) (xre : Nat → Int32) (xgr : Nat → Int32) (ltm : Nat → Int32) (low : Nat → Int32) (lta : Nat → Int32) (llo : Nat → Int64) (lhi : Nat → Int64) (lmo : Nat → Int32) (rta : Nat → Int32) (ron : Nat → Int32) (rlo : Nat → Int64) (rhi : Nat → Int64) (rmo : Nat → Int32) (rin : Nat → Int32) (res : Nat → Int32) (rsi : Nat → Int32) (rli : Nat → Int32) (rar : Nat → Int32) (xgc : Int32) (xca : Int32) (xls : Int32) (xtl : Int32) (xno : Int32) (lco : Int32) (rwa : Int32) (rad : Int32) (rest : va_W) (a1 : Int32) (a2 : Int32) (r : Int32) (hF : F_T_mode ltm a1 a2 = some (0, r)) : Ci l y_T_mode prog_1_method_16_code 3 (some .int) ({ frames := 7, cells := 0, slots := 0, locals := 110 }) [.ref (ad 0), .int a1, .int a2] g (kty cI cJ cZ) (wC cI cJ cZ ad xst xse xre xgr ltm low lta llo lhi lmo rta ron rlo rhi rmo rin res rsi rli rar xgc xca xls xtl xno lco rwa rad rest) (wC cI cJ cZ ad xst xse xre xgr ltm low lta llo lhi lmo rta ron rlo rhi rmo rin res rsi rli rar xgc xca xls xtl xno lco rwa rad rest) r :=
  fun sz => Ci.ofx (Q0 := fun A => kQi g (kty cI cJ cZ) (wC cI cJ cZ ad xst xse xre xgr ltm low lta llo lhi lmo rta ron rlo rhi rmo rin res rsi rli rar xgc xca xls xtl xno lco rwa rad rest) A r) (XC := fun A => kQx g (kty cI cJ cZ) (wC cI cJ cZ ad xst xse xre xgr ltm low lta llo lhi lmo rta ron rlo rhi rmo rin res rsi rli rar xgc xca xls xtl xno lco rwa rad rest) A 0) (by decide) (Nat.le_of_ble_eq_true rfl) (fun p e s m below meth c A ls K hP hD hS hl => t_T_mode (R := { frames := 7, cells := 0, slots := 0, locals := 110 }) K ⟨Nat.le_of_ble_eq_true rfl, Nat.le_of_ble_eq_true rfl⟩ hlt xst xse xre xgr ltm low lta llo lhi lmo rta ron rlo rhi rmo rin res rsi rli rar xgc xca xls xtl xno lco rwa rad a1 a2 0 r (fun h => absurd rfl h) (fun h => absurd rfl h) hF hP hD hS hl) sz
theorem cx_T_mode (l : Launch) (hlt : l.stackTraces = false) (g : va_G) (cI cJ cZ : ClassId) (ad : Nat → Nat) (xst : Nat → Int32) (xse : Nat → Int32) (xre : Nat → Int32) (xgr : Nat → Int32) (ltm : Nat → Int32) (low : Nat → Int32) (lta : Nat → Int32) (llo : Nat → Int64) (lhi : Nat → Int64) (lmo : Nat → Int32) (rta : Nat → Int32) (ron : Nat → Int32) (rlo : Nat → Int64) (rhi : Nat → Int64) (rmo : Nat → Int32) (rin : Nat → Int32) (res : Nat → Int32) (rsi : Nat → Int32) (rli : Nat → Int32) (rar : Nat → Int32) (xgc : Int32) (xca : Int32) (xls : Int32) (xtl : Int32) (xno : Int32) (lco : Int32) (rwa : Int32) (rad : Int32) (rest : va_W) (a1 : Int32) (a2 : Int32) (kx : Nat) (r : Int32) (hk : kx ≠ 0) (hF : F_T_mode ltm a1 a2 = some (kx, r)) : Cx l y_T_mode prog_1_method_16_code 3 (some .int) ({ frames := 7, cells := 1, slots := 6, locals := 110 }) [.ref (ad 0), .int a1, .int a2] g (kty cI cJ cZ) (wC cI cJ cZ ad xst xse xre xgr ltm low lta llo lhi lmo rta ron rlo rhi rmo rin res rsi rli rar xgc xca xls xtl xno lco rwa rad rest) (wC cI cJ cZ ad xst xse xre xgr ltm low lta llo lhi lmo rta ron rlo rhi rmo rin res rsi rli rar xgc xca xls xtl xno lco rwa rad rest) kx :=
  Cx.of (Q0 := fun A => kQi g (kty cI cJ cZ) (wC cI cJ cZ ad xst xse xre xgr ltm low lta llo lhi lmo rta ron rlo rhi rmo rin res rsi rli rar xgc xca xls xtl xno lco rwa rad rest) A r) hk (by decide) (Nat.le_of_ble_eq_true rfl) (fun p e s m below meth c A ls hnt K hP hD hS hl => t_T_mode (R := { frames := 7, cells := 1, slots := 6, locals := 110 }) K ⟨Nat.le_of_ble_eq_true rfl, Nat.le_of_ble_eq_true rfl⟩ hlt xst xse xre xgr ltm low lta llo lhi lmo rta ron rlo rhi rmo rin res rsi rli rar xgc xca xls xtl xno lco rwa rad a1 a2 kx r (fun _ => ⟨Nat.le_of_ble_eq_true rfl, Nat.le_of_ble_eq_true rfl⟩) (fun _ => hnt) hF hP hD hS hl)
def F_T_right (ltm : Nat → Int32) (low : Nat → Int32) (lta : Nat → Int32) (llo : Nat → Int64) (lhi : Nat → Int64) (lmo : Nat → Int32) (lco : Int32) (a1 : Int32) (a2 : Int32) (a3 : Int64) : Option (Nat × Int32) :=
  ob1 (F_T_checkOwner a1) (fun k_1 => if k_1 = 0 then ob1 (F_T_checkTable a2) (fun k_3 => if k_3 = 0 then ob1 (F_L_strongestOn ltm low lta llo lhi lmo lco a1 a2 a3) (fun r_5 => some (0, r_5)) else some (k_3, 0)) else some (k_1, 0))
set_option maxHeartbeats 4000000 in
set_option maxRecDepth 100000 in
theorem t_T_right {p : Program} {l : Launch} {e : Env} {s : State} {m : MethodId} {args : Array Value} {below : List Frame} {meth : Method} {c : Code} {A : Nat → Prop} {g : va_G} {cI cJ cZ : ClassId} {ad : Nat → Nat} {rest : va_W} (K : kX p s m args meth c "LockTable" prog_1_method_17_code 5 (some .int) A g (kty cI cJ cZ)) {R : Room} (hR : 7 ≤ R.frames ∧ 110 ≤ R.locals) (hlt : l.stackTraces = false) (xst : Nat → Int32) (xse : Nat → Int32) (xre : Nat → Int32) (xgr : Nat → Int32) (ltm : Nat → Int32) (low : Nat → Int32) (lta : Nat → Int32) (llo : Nat → Int64) (lhi : Nat → Int64) (lmo : Nat → Int32) (rta : Nat → Int32) (ron : Nat → Int32) (rlo : Nat → Int64) (rhi : Nat → Int64) (rmo : Nat → Int32) (rin : Nat → Int32) (res : Nat → Int32) (rsi : Nat → Int32) (rli : Nat → Int32) (rar : Nat → Int32) (xgc : Int32) (xca : Int32) (xls : Int32) (xtl : Int32) (xno : Int32) (lco : Int32) (rwa : Int32) (rad : Int32) (a1 : Int32) (a2 : Int32) (a3 : Int64) (kx : Nat) (r : Int32) (hRc : kx ≠ 0 → 1 ≤ R.cells ∧ 6 ≤ R.slots) (hnt : kx ≠ 0 → ∀ x ∈ c.exceptionTable.toList, False) (hF : F_T_right ltm low lta llo lhi lmo lco a1 a2 a3 = some (kx, r)) {H : Heap} {locs : List Loc} {ls : Array Slot} (hP : va_P g kcl (wC cI cJ cZ ad xst xse xre xgr ltm low lta llo lhi lmo rta ron rlo rhi rmo rin res rsi rli rar xgc xca xls xtl xno lco rwa rad rest) H) (hD : va_D A (wC cI cJ cZ ad xst xse xre xgr ltm low lta llo lhi lmo rta ron rlo rhi rmo rin res rsi rli rar xgc xca xls xtl xno lco rwa rad rest)) (hS : va_S A s.heap H locs) (hl : lv_has ls 5 [(0, .ref (ad 0)), (1, .int a1), (2, .int a2), (3, .long a3)]) : W p l e (R) s m args below meth c H locs 0 0 (kSel below args s A kx (kQi g (kty cI cJ cZ) (wC cI cJ cZ ad xst xse xre xgr ltm low lta llo lhi lmo rta ron rlo rhi rmo rin res rsi rli rar xgc xca xls xtl xno lco rwa rad rest) A r) (kQx g (kty cI cJ cZ) (wC cI cJ cZ ad xst xse xre xgr ltm low lta llo lhi lmo rta ron rlo rhi rmo rin res rsi rli rar xgc xca xls xtl xno lco rwa rad rest) A kx)) (F0 m 0 ls []) := by
  obtain ⟨hx, hb, hr, hml, hown, hts, hlocks, hK, hA, hE⟩ := id K
  unfold F_T_right at hF
  refine lv_iload_n hx hb d_T_right_0 rfl (lv_at hl 1 rfl) ?_
  obtain ⟨k_1, hG, hF⟩ := ob1_inv hF
  by_cases hk_2 : k_1 = 0
  · replace hF := it_t hF hk_2
    subst hk_2
    refine ksv K hP hD hS (c_T_checkOwner l hlt g (kty cI cJ cZ) (wC cI cJ cZ ad xst xse xre xgr ltm low lta llo lhi lmo rta ron rlo rhi rmo rin res rsi rli rar xgc xca xls xtl xno lco rwa rad rest) a1  hG) wm_217 wm_215 wm_216 wm_46 hd_T_checkOwner rfl rfl ⟨Nat.le_trans (Nat.le_of_ble_eq_true rfl) hR.1, Nat.le_trans (Nat.le_of_ble_eq_true rfl) hR.2⟩ ⟨Nat.zero_le _, Nat.zero_le _⟩ hl.1 (rest := []) rfl (Nat.le_of_ble_eq_true rfl) d_T_right_1 (fun H locs hP hD hS => ?_)
    refine lv_iload_n hx hb d_T_right_4 rfl (lv_at hl 2 rfl) ?_
    obtain ⟨k_3, hG, hF⟩ := ob1_inv hF
    by_cases hk_4 : k_3 = 0
    · replace hF := it_t hF hk_4
      subst hk_4
      refine ksv K hP hD hS (c_T_checkTable l hlt g (kty cI cJ cZ) (wC cI cJ cZ ad xst xse xre xgr ltm low lta llo lhi lmo rta ron rlo rhi rmo rin res rsi rli rar xgc xca xls xtl xno lco rwa rad rest) a2  hG) wm_315 wm_313 wm_314 wm_46 hd_T_checkTable rfl rfl ⟨Nat.le_trans (Nat.le_of_ble_eq_true rfl) hR.1, Nat.le_trans (Nat.le_of_ble_eq_true rfl) hR.2⟩ ⟨Nat.zero_le _, Nat.zero_le _⟩ hl.1 (rest := []) rfl (Nat.le_of_ble_eq_true rfl) d_T_right_5 (fun H locs hP hD hS => ?_)
      refine lv_aload_n hx hb d_T_right_8 rfl (lv_at hl 0 rfl) ?_
      refine va_get (D := g) (ci := 2) (v := .ref (ad 1)) (C := kR2) (T := kT2) (N := 11) hx hb hts kw2 hown hK hP 0 rfl rfl 2 (by decide) (hts _ wm_158) (fun _ h9 => h9) rfl d_T_right_9 ?_
      refine lv_iload_n hx hb d_T_right_12 rfl (lv_at hl 1 rfl) ?_
      refine lv_iload_n hx hb d_T_right_13 rfl (lv_at hl 2 rfl) ?_
      refine lv_lload_n hx hb d_T_right_14 rfl (lv_at hl 3 rfl) ?_
      obtain ⟨r_5, hG, hF⟩ := ob1_inv hF
      refine kci K hP hD hS (c_L_strongestOn l g cI cJ cZ ad xst xse xre xgr ltm low lta llo lhi lmo rta ron rlo rhi rmo rin res rsi rli rar xgc xca xls xtl xno lco rwa rad rest a1 a2 a3 r_5 hG) wm_638 wm_635 wm_636 wm_637 wm_48 hd_L_strongestOn rfl rfl ⟨Nat.le_trans (Nat.le_of_ble_eq_true rfl) hR.1, Nat.le_trans (Nat.le_of_ble_eq_true rfl) hR.2⟩ ⟨Nat.zero_le _, Nat.zero_le _⟩ 0 1 rfl rfl rfl hl.1 (rest := []) rfl (Nat.le_of_ble_eq_true rfl) d_T_right_15 (fun H locs hP hD hS => ?_)
      cases hF
      exact W.mono (fun t h => Or.inl ⟨rfl, h⟩) (kri K hP hD hS d_T_right_18 rfl)
    · replace hF := it_f hF hk_4
      cases hF
      refine kxs K hP hD hS (cx_T_checkTable l hlt g (kty cI cJ cZ) (wC cI cJ cZ ad xst xse xre xgr ltm low lta llo lhi lmo rta ron rlo rhi rmo rin res rsi rli rar xgc xca xls xtl xno lco rwa rad rest) a2 _  hk_4 hG) wm_315 wm_313 wm_314 wm_46 hd_T_checkTable rfl rfl ⟨Nat.le_trans (Nat.le_of_ble_eq_true rfl) hR.1, Nat.le_trans (Nat.le_of_ble_eq_true rfl) hR.2⟩ ⟨(hRc hk_4).1, (hRc hk_4).2⟩ hl.1 (rest := []) rfl (Nat.le_of_ble_eq_true rfl) d_T_right_5 (fun ce q9 H locs hP hD hS hce hcv hcl => ?_)
      exact kxo K hk_4 (hnt hk_4) hP hD hS hce hcv hcl
  · replace hF := it_f hF hk_2
    cases hF
    refine kxs K hP hD hS (cx_T_checkOwner l hlt g (kty cI cJ cZ) (wC cI cJ cZ ad xst xse xre xgr ltm low lta llo lhi lmo rta ron rlo rhi rmo rin res rsi rli rar xgc xca xls xtl xno lco rwa rad rest) a1 _  hk_2 hG) wm_217 wm_215 wm_216 wm_46 hd_T_checkOwner rfl rfl ⟨Nat.le_trans (Nat.le_of_ble_eq_true rfl) hR.1, Nat.le_trans (Nat.le_of_ble_eq_true rfl) hR.2⟩ ⟨(hRc hk_2).1, (hRc hk_2).2⟩ hl.1 (rest := []) rfl (Nat.le_of_ble_eq_true rfl) d_T_right_1 (fun ce q9 H locs hP hD hS hce hcv hcl => ?_)
    exact kxo K hk_2 (hnt hk_2) hP hD hS hce hcv hcl
theorem c_T_right (l : Launch) (hlt : l.stackTraces = false) (g : va_G) (cI cJ cZ : ClassId) (ad : Nat → Nat) (xst : Nat → Int32) (xse : Nat → Int32) (xre : Nat → Int32) (xgr : Nat → Int32) (ltm : Nat → Int32) (low : Nat → Int32) (lta : Nat → Int32) (llo : Nat → Int64) (lhi : Nat → Int64) (lmo : Nat → Int32) (rta : Nat → Int32) (ron : Nat → Int32) (rlo : Nat → Int64) (rhi : Nat → Int64) (rmo : Nat → Int32) (rin : Nat → Int32) (res : Nat → Int32) (rsi : Nat → Int32) (rli : Nat → Int32) (rar : Nat → Int32) (xgc : Int32) (xca : Int32) (xls : Int32) (xtl : Int32) (xno : Int32) (lco : Int32) (rwa : Int32) (rad : Int32) (rest : va_W) (a1 : Int32) (a2 : Int32) (a3 : Int64) (r : Int32) (hF : F_T_right ltm low lta llo lhi lmo lco a1 a2 a3 = some (0, r)) : Ci l y_T_right prog_1_method_17_code 5 (some .int) ({ frames := 7, cells := 0, slots := 0, locals := 110 }) [.ref (ad 0), .int a1, .int a2, .long a3] g (kty cI cJ cZ) (wC cI cJ cZ ad xst xse xre xgr ltm low lta llo lhi lmo rta ron rlo rhi rmo rin res rsi rli rar xgc xca xls xtl xno lco rwa rad rest) (wC cI cJ cZ ad xst xse xre xgr ltm low lta llo lhi lmo rta ron rlo rhi rmo rin res rsi rli rar xgc xca xls xtl xno lco rwa rad rest) r :=
  fun sz => Ci.ofx (Q0 := fun A => kQi g (kty cI cJ cZ) (wC cI cJ cZ ad xst xse xre xgr ltm low lta llo lhi lmo rta ron rlo rhi rmo rin res rsi rli rar xgc xca xls xtl xno lco rwa rad rest) A r) (XC := fun A => kQx g (kty cI cJ cZ) (wC cI cJ cZ ad xst xse xre xgr ltm low lta llo lhi lmo rta ron rlo rhi rmo rin res rsi rli rar xgc xca xls xtl xno lco rwa rad rest) A 0) (by decide) (Nat.le_of_ble_eq_true rfl) (fun p e s m below meth c A ls K hP hD hS hl => t_T_right (R := { frames := 7, cells := 0, slots := 0, locals := 110 }) K ⟨Nat.le_of_ble_eq_true rfl, Nat.le_of_ble_eq_true rfl⟩ hlt xst xse xre xgr ltm low lta llo lhi lmo rta ron rlo rhi rmo rin res rsi rli rar xgc xca xls xtl xno lco rwa rad a1 a2 a3 0 r (fun h => absurd rfl h) (fun h => absurd rfl h) hF hP hD hS hl) sz
theorem cx_T_right (l : Launch) (hlt : l.stackTraces = false) (g : va_G) (cI cJ cZ : ClassId) (ad : Nat → Nat) (xst : Nat → Int32) (xse : Nat → Int32) (xre : Nat → Int32) (xgr : Nat → Int32) (ltm : Nat → Int32) (low : Nat → Int32) (lta : Nat → Int32) (llo : Nat → Int64) (lhi : Nat → Int64) (lmo : Nat → Int32) (rta : Nat → Int32) (ron : Nat → Int32) (rlo : Nat → Int64) (rhi : Nat → Int64) (rmo : Nat → Int32) (rin : Nat → Int32) (res : Nat → Int32) (rsi : Nat → Int32) (rli : Nat → Int32) (rar : Nat → Int32) (xgc : Int32) (xca : Int32) (xls : Int32) (xtl : Int32) (xno : Int32) (lco : Int32) (rwa : Int32) (rad : Int32) (rest : va_W) (a1 : Int32) (a2 : Int32) (a3 : Int64) (kx : Nat) (r : Int32) (hk : kx ≠ 0) (hF : F_T_right ltm low lta llo lhi lmo lco a1 a2 a3 = some (kx, r)) : Cx l y_T_right prog_1_method_17_code 5 (some .int) ({ frames := 7, cells := 1, slots := 6, locals := 110 }) [.ref (ad 0), .int a1, .int a2, .long a3] g (kty cI cJ cZ) (wC cI cJ cZ ad xst xse xre xgr ltm low lta llo lhi lmo rta ron rlo rhi rmo rin res rsi rli rar xgc xca xls xtl xno lco rwa rad rest) (wC cI cJ cZ ad xst xse xre xgr ltm low lta llo lhi lmo rta ron rlo rhi rmo rin res rsi rli rar xgc xca xls xtl xno lco rwa rad rest) kx :=
  Cx.of (Q0 := fun A => kQi g (kty cI cJ cZ) (wC cI cJ cZ ad xst xse xre xgr ltm low lta llo lhi lmo rta ron rlo rhi rmo rin res rsi rli rar xgc xca xls xtl xno lco rwa rad rest) A r) hk (by decide) (Nat.le_of_ble_eq_true rfl) (fun p e s m below meth c A ls hnt K hP hD hS hl => t_T_right (R := { frames := 7, cells := 1, slots := 6, locals := 110 }) K ⟨Nat.le_of_ble_eq_true rfl, Nat.le_of_ble_eq_true rfl⟩ hlt xst xse xre xgr ltm low lta llo lhi lmo rta ron rlo rhi rmo rin res rsi rli rar xgc xca xls xtl xno lco rwa rad a1 a2 a3 kx r (fun _ => ⟨Nat.le_of_ble_eq_true rfl, Nat.le_of_ble_eq_true rfl⟩) (fun _ => hnt) hF hP hD hS hl)
def F_T_wants (xst : Nat → Int32) (rta : Nat → Int32) (ron : Nat → Int32) (rmo : Nat → Int32) (rin : Nat → Int32) (res : Nat → Int32) (rsi : Nat → Int32) (xno : Int32) (a1 : Int32) (a2 : Int32) : Option (Nat × Int32) :=
  ob1 (F_T_checkOwner a1) (fun k_1 => if k_1 = 0 then if a2 < 0 then some (1, 0) else if a2 ≤ 5 then ob1 (F_T_checkWaits xst a1) (fun k_5 => if k_5 = 0 then if a2 = 0 then gd (a1 < 0 ∨ 8 ≤ a1.toNatClampNeg) (some (0, rta a1.toNatClampNeg)) else if a2 = 1 then gd (a1 < 0 ∨ 8 ≤ a1.toNatClampNeg) (if (ron a1.toNatClampNeg) = 0 then some (0, 0) else some (0, 1)) else if a2 = 2 then gd (a1 < 0 ∨ 8 ≤ a1.toNatClampNeg) (some (0, rmo a1.toNatClampNeg)) else if a2 = 3 then gd (a1 < 0 ∨ 8 ≤ a1.toNatClampNeg) (if (rin a1.toNatClampNeg) = 0 then some (0, 0) else some (0, 1)) else if a2 = 4 then gd (a1 < 0 ∨ 8 ≤ a1.toNatClampNeg) (if (res a1.toNatClampNeg) = 0 then some (0, 0) else some (0, 1)) else gd (a1 < 0 ∨ 8 ≤ a1.toNatClampNeg) (some (0, xno - (rsi a1.toNatClampNeg))) else some (k_5, 0)) else some (1, 0) else some (k_1, 0))
set_option maxHeartbeats 4000000 in
set_option maxRecDepth 100000 in
theorem t_T_wants {p : Program} {l : Launch} {e : Env} {s : State} {m : MethodId} {args : Array Value} {below : List Frame} {meth : Method} {c : Code} {A : Nat → Prop} {g : va_G} {cI cJ cZ : ClassId} {ad : Nat → Nat} {rest : va_W} (K : kX p s m args meth c "LockTable" prog_1_method_19_code 3 (some .int) A g (kty cI cJ cZ)) {R : Room} (hR : 7 ≤ R.frames ∧ 111 ≤ R.locals) (hlt : l.stackTraces = false) (xst : Nat → Int32) (xse : Nat → Int32) (xre : Nat → Int32) (xgr : Nat → Int32) (ltm : Nat → Int32) (low : Nat → Int32) (lta : Nat → Int32) (llo : Nat → Int64) (lhi : Nat → Int64) (lmo : Nat → Int32) (rta : Nat → Int32) (ron : Nat → Int32) (rlo : Nat → Int64) (rhi : Nat → Int64) (rmo : Nat → Int32) (rin : Nat → Int32) (res : Nat → Int32) (rsi : Nat → Int32) (rli : Nat → Int32) (rar : Nat → Int32) (xgc : Int32) (xca : Int32) (xls : Int32) (xtl : Int32) (xno : Int32) (lco : Int32) (rwa : Int32) (rad : Int32) (a1 : Int32) (a2 : Int32) (kx : Nat) (r : Int32) (hRc : kx ≠ 0 → 1 ≤ R.cells ∧ 6 ≤ R.slots) (hnt : kx ≠ 0 → ∀ x ∈ c.exceptionTable.toList, False) (hF : F_T_wants xst rta ron rmo rin res rsi xno a1 a2 = some (kx, r)) {H : Heap} {locs : List Loc} {ls : Array Slot} (hP : va_P g kcl (wC cI cJ cZ ad xst xse xre xgr ltm low lta llo lhi lmo rta ron rlo rhi rmo rin res rsi rli rar xgc xca xls xtl xno lco rwa rad rest) H) (hD : va_D A (wC cI cJ cZ ad xst xse xre xgr ltm low lta llo lhi lmo rta ron rlo rhi rmo rin res rsi rli rar xgc xca xls xtl xno lco rwa rad rest)) (hS : va_S A s.heap H locs) (hl : lv_has ls 3 [(0, .ref (ad 0)), (1, .int a1), (2, .int a2)]) : W p l e (R) s m args below meth c H locs 0 0 (kSel below args s A kx (kQi g (kty cI cJ cZ) (wC cI cJ cZ ad xst xse xre xgr ltm low lta llo lhi lmo rta ron rlo rhi rmo rin res rsi rli rar xgc xca xls xtl xno lco rwa rad rest) A r) (kQx g (kty cI cJ cZ) (wC cI cJ cZ ad xst xse xre xgr ltm low lta llo lhi lmo rta ron rlo rhi rmo rin res rsi rli rar xgc xca xls xtl xno lco rwa rad rest) A kx)) (F0 m 0 ls []) := by
  obtain ⟨hx, hb, hr, hml, hown, hts, hlocks, hK, hA, hE⟩ := id K
  unfold F_T_wants at hF
  refine lv_iload_n hx hb d_T_wants_0 rfl (lv_at hl 1 rfl) ?_
  obtain ⟨k_1, hG, hF⟩ := ob1_inv hF
  by_cases hk_2 : k_1 = 0
  · replace hF := it_t hF hk_2
    subst hk_2
    refine ksv K hP hD hS (c_T_checkOwner l hlt g (kty cI cJ cZ) (wC cI cJ cZ ad xst xse xre xgr ltm low lta llo lhi lmo rta ron rlo rhi rmo rin res rsi rli rar xgc xca xls xtl xno lco rwa rad rest) a1  hG) wm_217 wm_215 wm_216 wm_46 hd_T_checkOwner rfl rfl ⟨Nat.le_trans (Nat.le_of_ble_eq_true rfl) hR.1, Nat.le_trans (Nat.le_of_ble_eq_true rfl) hR.2⟩ ⟨Nat.zero_le _, Nat.zero_le _⟩ hl.1 (rest := []) rfl (Nat.le_of_ble_eq_true rfl) d_T_wants_1 (fun H locs hP hD hS => ?_)
    refine lv_iload_n hx hb d_T_wants_4 rfl (lv_at hl 2 rfl) ?_
    refine lv_if_lt (tgt := 13) hx hb d_T_wants_5 (by decide) (fun hc_3 => ?_) (fun hc_3 => ?_)
    · have hF := it_t hF hc_3
      cases hF
      exact kth (kx := 1) K hlt (hnt (by decide)) hP hD hS (cls := "java/lang/IllegalArgumentException") (text := "there is no such thing to ask for") rfl (by decide) (by decide) wm_218 wm_54 (by decide) at_181 hl.1 d_T_wants_13 d_T_wants_16 d_T_wants_17 d_T_wants_19 d_T_wants_22 (Nat.le_trans (Nat.le_of_ble_eq_true rfl) hR.1) (Nat.le_trans (Nat.le_of_ble_eq_true rfl) hR.2) (Nat.le_of_ble_eq_true rfl) (hRc (by decide)).1 (hRc (by decide)).2
    · have hF := it_f hF hc_3
      refine lv_iload_n hx hb d_T_wants_8 rfl (lv_at hl 2 rfl) ?_
      refine lv_iconst (v := 5) hx hb d_T_wants_9 (by decide) ?_
      refine lv_icmp_le (tgt := 23) hx hb d_T_wants_10 (by decide) (fun hc_4 => ?_) (fun hc_4 => ?_)
      · have hF := it_t hF hc_4
        refine lv_aload_n hx hb d_T_wants_23 rfl (lv_at hl 0 rfl) ?_
        refine lv_iload_n hx hb d_T_wants_24 rfl (lv_at hl 1 rfl) ?_
        obtain ⟨k_5, hG, hF⟩ := ob1_inv hF
        by_cases hk_6 : k_5 = 0
        · replace hF := it_t hF hk_6
          subst hk_6
          refine kcv K hP hD hS (c_T_checkWaits l hlt g cI cJ cZ ad xst xse xre xgr ltm low lta llo lhi lmo rta ron rlo rhi rmo rin res rsi rli rar xgc xca xls xtl xno lco rwa rad rest a1  hG) wm_534 wm_531 wm_533 wm_18 wm_46 hd_T_checkWaits rfl rfl ⟨Nat.le_trans (Nat.le_of_ble_eq_true rfl) hR.1, Nat.le_trans (Nat.le_of_ble_eq_true rfl) hR.2⟩ ⟨Nat.zero_le _, Nat.zero_le _⟩ 2 0 rfl rfl rfl hl.1 (rest := []) rfl (Nat.le_of_ble_eq_true rfl) d_T_wants_25 (fun H locs hP hD hS => ?_)
          refine lv_iload_n hx hb d_T_wants_28 rfl (lv_at hl 2 rfl) ?_
          by_cases hw_7 : a2 = 0
          · have hF := it_t hF hw_7
            refine lv_tableIn (off := 35) (tgt := 64) hx hb d_T_wants_29 (by rw [hw_7]; decide) (by rw [hw_7]; decide) (by rw [hw_7]; decide) (by decide) ?_
            refine lv_aload_n hx hb d_T_wants_64 rfl (lv_at hl 0 rfl) ?_
            refine va_get (D := g) (ci := 2) (v := .ref (ad 2)) (C := kR2) (T := kT2) (N := 11) hx hb hts kw2 hown hK hP 0 rfl rfl 3 (by decide) (hts _ wm_159) (fun _ h9 => h9) rfl d_T_wants_65 ?_
            refine va_get (D := g) (ci := 1) (v := .ref (ad 13)) (C := kR1) (T := kT1) (N := 12) hx hb hts kw1 hown hK hP 2 rfl rfl 0 (by decide) (hts _ wm_109) (fun _ h9 => h9) rfl d_T_wants_68 ?_
            refine lv_iload_n hx hb d_T_wants_71 rfl (lv_at hl 1 rfl) ?_
            obtain ⟨hg_8, hF⟩ := gd_inv hF
            refine va_iald hx hb hK hP 13 0 rfl rfl hg_8 d_T_wants_72 ?_
            cases hF
            exact W.mono (fun t h => Or.inl ⟨rfl, h⟩) (kri K hP hD hS d_T_wants_73 rfl)
          replace hF := it_f hF hw_7
          by_cases hw_9 : a2 = 1
          · have hF := it_t hF hw_9
            refine lv_tableIn (off := 45) (tgt := 74) hx hb d_T_wants_29 (by rw [hw_9]; decide) (by rw [hw_9]; decide) (by rw [hw_9]; decide) (by decide) ?_
            refine lv_aload_n hx hb d_T_wants_74 rfl (lv_at hl 0 rfl) ?_
            refine va_get (D := g) (ci := 2) (v := .ref (ad 2)) (C := kR2) (T := kT2) (N := 11) hx hb hts kw2 hown hK hP 0 rfl rfl 3 (by decide) (hts _ wm_159) (fun _ h9 => h9) rfl d_T_wants_75 ?_
            refine va_get (D := g) (ci := 1) (v := .ref (ad 14)) (C := kR1) (T := kT1) (N := 12) hx hb hts kw1 hown hK hP 2 rfl rfl 1 (by decide) (hts _ wm_111) (fun _ h9 => h9) rfl d_T_wants_78 ?_
            refine lv_iload_n hx hb d_T_wants_81 rfl (lv_at hl 1 rfl) ?_
            obtain ⟨hg_10, hF⟩ := gd_inv hF
            refine va_zald hx hb hK hP 14 2 rfl rfl hg_10 d_T_wants_82 ?_
            refine lv_if_eq (tgt := 90) hx hb d_T_wants_83 (by decide) (fun hc_11 => ?_) (fun hc_11 => ?_)
            · have hF := it_t hF hc_11
              refine lv_iconst (v := 0) hx hb d_T_wants_90 (by decide) ?_
              cases hF
              exact W.mono (fun t h => Or.inl ⟨rfl, h⟩) (kri K hP hD hS d_T_wants_91 rfl)
            · have hF := it_f hF hc_11
              refine lv_iconst (v := 1) hx hb d_T_wants_86 (by decide) ?_
              refine lv_goto (tgt := 91) hx hb d_T_wants_87 (by decide) ?_
              cases hF
              exact W.mono (fun t h => Or.inl ⟨rfl, h⟩) (kri K hP hD hS d_T_wants_91 rfl)
          replace hF := it_f hF hw_9
          by_cases hw_12 : a2 = 2
          · have hF := it_t hF hw_12
            refine lv_tableIn (off := 63) (tgt := 92) hx hb d_T_wants_29 (by rw [hw_12]; decide) (by rw [hw_12]; decide) (by rw [hw_12]; decide) (by decide) ?_
            refine lv_aload_n hx hb d_T_wants_92 rfl (lv_at hl 0 rfl) ?_
            refine va_get (D := g) (ci := 2) (v := .ref (ad 2)) (C := kR2) (T := kT2) (N := 11) hx hb hts kw2 hown hK hP 0 rfl rfl 3 (by decide) (hts _ wm_159) (fun _ h9 => h9) rfl d_T_wants_93 ?_
            refine va_get (D := g) (ci := 1) (v := .ref (ad 17)) (C := kR1) (T := kT1) (N := 12) hx hb hts kw1 hown hK hP 2 rfl rfl 4 (by decide) (hts _ wm_117) (fun _ h9 => h9) rfl d_T_wants_96 ?_
            refine lv_iload_n hx hb d_T_wants_99 rfl (lv_at hl 1 rfl) ?_
            obtain ⟨hg_13, hF⟩ := gd_inv hF
            refine va_iald hx hb hK hP 17 0 rfl rfl hg_13 d_T_wants_100 ?_
            cases hF
            exact W.mono (fun t h => Or.inl ⟨rfl, h⟩) (kri K hP hD hS d_T_wants_101 rfl)
          replace hF := it_f hF hw_12
          by_cases hw_14 : a2 = 3
          · have hF := it_t hF hw_14
            refine lv_tableIn (off := 73) (tgt := 102) hx hb d_T_wants_29 (by rw [hw_14]; decide) (by rw [hw_14]; decide) (by rw [hw_14]; decide) (by decide) ?_
            refine lv_aload_n hx hb d_T_wants_102 rfl (lv_at hl 0 rfl) ?_
            refine va_get (D := g) (ci := 2) (v := .ref (ad 2)) (C := kR2) (T := kT2) (N := 11) hx hb hts kw2 hown hK hP 0 rfl rfl 3 (by decide) (hts _ wm_159) (fun _ h9 => h9) rfl d_T_wants_103 ?_
            refine va_get (D := g) (ci := 1) (v := .ref (ad 18)) (C := kR1) (T := kT1) (N := 12) hx hb hts kw1 hown hK hP 2 rfl rfl 5 (by decide) (hts _ wm_119) (fun _ h9 => h9) rfl d_T_wants_106 ?_
            refine lv_iload_n hx hb d_T_wants_109 rfl (lv_at hl 1 rfl) ?_
            obtain ⟨hg_15, hF⟩ := gd_inv hF
            refine va_zald hx hb hK hP 18 2 rfl rfl hg_15 d_T_wants_110 ?_
            refine lv_if_eq (tgt := 118) hx hb d_T_wants_111 (by decide) (fun hc_16 => ?_) (fun hc_16 => ?_)
            · have hF := it_t hF hc_16
              refine lv_iconst (v := 0) hx hb d_T_wants_118 (by decide) ?_
              cases hF
              exact W.mono (fun t h => Or.inl ⟨rfl, h⟩) (kri K hP hD hS d_T_wants_119 rfl)
            · have hF := it_f hF hc_16
              refine lv_iconst (v := 1) hx hb d_T_wants_114 (by decide) ?_
              refine lv_goto (tgt := 119) hx hb d_T_wants_115 (by decide) ?_
              cases hF
              exact W.mono (fun t h => Or.inl ⟨rfl, h⟩) (kri K hP hD hS d_T_wants_119 rfl)
          replace hF := it_f hF hw_14
          by_cases hw_17 : a2 = 4
          · have hF := it_t hF hw_17
            refine lv_tableIn (off := 91) (tgt := 120) hx hb d_T_wants_29 (by rw [hw_17]; decide) (by rw [hw_17]; decide) (by rw [hw_17]; decide) (by decide) ?_
            refine lv_aload_n hx hb d_T_wants_120 rfl (lv_at hl 0 rfl) ?_
            refine va_get (D := g) (ci := 2) (v := .ref (ad 2)) (C := kR2) (T := kT2) (N := 11) hx hb hts kw2 hown hK hP 0 rfl rfl 3 (by decide) (hts _ wm_159) (fun _ h9 => h9) rfl d_T_wants_121 ?_
            refine va_get (D := g) (ci := 1) (v := .ref (ad 19)) (C := kR1) (T := kT1) (N := 12) hx hb hts kw1 hown hK hP 2 rfl rfl 6 (by decide) (hts _ wm_121) (fun _ h9 => h9) rfl d_T_wants_124 ?_
            refine lv_iload_n hx hb d_T_wants_127 rfl (lv_at hl 1 rfl) ?_
            obtain ⟨hg_18, hF⟩ := gd_inv hF
            refine va_zald hx hb hK hP 19 2 rfl rfl hg_18 d_T_wants_128 ?_
            refine lv_if_eq (tgt := 136) hx hb d_T_wants_129 (by decide) (fun hc_19 => ?_) (fun hc_19 => ?_)
            · have hF := it_t hF hc_19
              refine lv_iconst (v := 0) hx hb d_T_wants_136 (by decide) ?_
              cases hF
              exact W.mono (fun t h => Or.inl ⟨rfl, h⟩) (kri K hP hD hS d_T_wants_137 rfl)
            · have hF := it_f hF hc_19
              refine lv_iconst (v := 1) hx hb d_T_wants_132 (by decide) ?_
              refine lv_goto (tgt := 137) hx hb d_T_wants_133 (by decide) ?_
              cases hF
              exact W.mono (fun t h => Or.inl ⟨rfl, h⟩) (kri K hP hD hS d_T_wants_137 rfl)
          replace hF := it_f hF hw_17
          have hw_7 := lv_neT (a := 0) hw_7 (by decide)
          have hw_9 := lv_neT (a := 1) hw_9 (by decide)
          have hw_12 := lv_neT (a := 2) hw_12 (by decide)
          have hw_14 := lv_neT (a := 3) hw_14 (by decide)
          have hw_17 := lv_neT (a := 4) hw_17 (by decide)
          refine lv_tableOut (tgt := 138) hx hb d_T_wants_29 (by omega) (by decide) ?_
          refine lv_aload_n hx hb d_T_wants_138 rfl (lv_at hl 0 rfl) ?_
          refine va_get (D := g) (ci := 2) (v := .int xno) (C := kR2) (T := kT2) (N := 11) hx hb hts kw2 hown hK hP 0 rfl rfl 10 (by decide) (hts _ wm_166) (fun _ h9 => h9) rfl d_T_wants_139 ?_
          refine lv_aload_n hx hb d_T_wants_142 rfl (lv_at hl 0 rfl) ?_
          refine va_get (D := g) (ci := 2) (v := .ref (ad 2)) (C := kR2) (T := kT2) (N := 11) hx hb hts kw2 hown hK hP 0 rfl rfl 3 (by decide) (hts _ wm_159) (fun _ h9 => h9) rfl d_T_wants_143 ?_
          refine va_get (D := g) (ci := 1) (v := .ref (ad 20)) (C := kR1) (T := kT1) (N := 12) hx hb hts kw1 hown hK hP 2 rfl rfl 7 (by decide) (hts _ wm_123) (fun _ h9 => h9) rfl d_T_wants_146 ?_
          refine lv_iload_n hx hb d_T_wants_149 rfl (lv_at hl 1 rfl) ?_
          obtain ⟨hg_20, hF⟩ := gd_inv hF
          refine va_iald hx hb hK hP 20 0 rfl rfl hg_20 d_T_wants_150 ?_
          refine lv_isub hx hb d_T_wants_151 ?_
          cases hF
          exact W.mono (fun t h => Or.inl ⟨rfl, h⟩) (kri K hP hD hS d_T_wants_152 rfl)
        · replace hF := it_f hF hk_6
          cases hF
          refine kxv K hP hD hS (cx_T_checkWaits l hlt g cI cJ cZ ad xst xse xre xgr ltm low lta llo lhi lmo rta ron rlo rhi rmo rin res rsi rli rar xgc xca xls xtl xno lco rwa rad rest a1 _  hk_6 hG) wm_534 wm_531 wm_533 wm_18 wm_46 hd_T_checkWaits rfl rfl ⟨Nat.le_trans (Nat.le_of_ble_eq_true rfl) hR.1, Nat.le_trans (Nat.le_of_ble_eq_true rfl) hR.2⟩ ⟨(hRc hk_6).1, (hRc hk_6).2⟩ 2 0 rfl rfl rfl hl.1 (rest := []) rfl (Nat.le_of_ble_eq_true rfl) d_T_wants_25 (fun ce q9 H locs hP hD hS hce hcv hcl => ?_)
          exact kxo K hk_6 (hnt hk_6) hP hD hS hce hcv hcl
      · have hF := it_f hF hc_4
        cases hF
        exact kth (kx := 1) K hlt (hnt (by decide)) hP hD hS (cls := "java/lang/IllegalArgumentException") (text := "there is no such thing to ask for") rfl (by decide) (by decide) wm_218 wm_54 (by decide) at_181 hl.1 d_T_wants_13 d_T_wants_16 d_T_wants_17 d_T_wants_19 d_T_wants_22 (Nat.le_trans (Nat.le_of_ble_eq_true rfl) hR.1) (Nat.le_trans (Nat.le_of_ble_eq_true rfl) hR.2) (Nat.le_of_ble_eq_true rfl) (hRc (by decide)).1 (hRc (by decide)).2
  · replace hF := it_f hF hk_2
    cases hF
    refine kxs K hP hD hS (cx_T_checkOwner l hlt g (kty cI cJ cZ) (wC cI cJ cZ ad xst xse xre xgr ltm low lta llo lhi lmo rta ron rlo rhi rmo rin res rsi rli rar xgc xca xls xtl xno lco rwa rad rest) a1 _  hk_2 hG) wm_217 wm_215 wm_216 wm_46 hd_T_checkOwner rfl rfl ⟨Nat.le_trans (Nat.le_of_ble_eq_true rfl) hR.1, Nat.le_trans (Nat.le_of_ble_eq_true rfl) hR.2⟩ ⟨(hRc hk_2).1, (hRc hk_2).2⟩ hl.1 (rest := []) rfl (Nat.le_of_ble_eq_true rfl) d_T_wants_1 (fun ce q9 H locs hP hD hS hce hcv hcl => ?_)
    exact kxo K hk_2 (hnt hk_2) hP hD hS hce hcv hcl
theorem c_T_wants (l : Launch) (hlt : l.stackTraces = false) (g : va_G) (cI cJ cZ : ClassId) (ad : Nat → Nat) (xst : Nat → Int32) (xse : Nat → Int32) (xre : Nat → Int32) (xgr : Nat → Int32) (ltm : Nat → Int32) (low : Nat → Int32) (lta : Nat → Int32) (llo : Nat → Int64) (lhi : Nat → Int64) (lmo : Nat → Int32) (rta : Nat → Int32) (ron : Nat → Int32) (rlo : Nat → Int64) (rhi : Nat → Int64) (rmo : Nat → Int32) (rin : Nat → Int32) (res : Nat → Int32) (rsi : Nat → Int32) (rli : Nat → Int32) (rar : Nat → Int32) (xgc : Int32) (xca : Int32) (xls : Int32) (xtl : Int32) (xno : Int32) (lco : Int32) (rwa : Int32) (rad : Int32) (rest : va_W) (a1 : Int32) (a2 : Int32) (r : Int32) (hF : F_T_wants xst rta ron rmo rin res rsi xno a1 a2 = some (0, r)) : Ci l y_T_wants prog_1_method_19_code 3 (some .int) ({ frames := 7, cells := 0, slots := 0, locals := 111 }) [.ref (ad 0), .int a1, .int a2] g (kty cI cJ cZ) (wC cI cJ cZ ad xst xse xre xgr ltm low lta llo lhi lmo rta ron rlo rhi rmo rin res rsi rli rar xgc xca xls xtl xno lco rwa rad rest) (wC cI cJ cZ ad xst xse xre xgr ltm low lta llo lhi lmo rta ron rlo rhi rmo rin res rsi rli rar xgc xca xls xtl xno lco rwa rad rest) r :=
  fun sz => Ci.ofx (Q0 := fun A => kQi g (kty cI cJ cZ) (wC cI cJ cZ ad xst xse xre xgr ltm low lta llo lhi lmo rta ron rlo rhi rmo rin res rsi rli rar xgc xca xls xtl xno lco rwa rad rest) A r) (XC := fun A => kQx g (kty cI cJ cZ) (wC cI cJ cZ ad xst xse xre xgr ltm low lta llo lhi lmo rta ron rlo rhi rmo rin res rsi rli rar xgc xca xls xtl xno lco rwa rad rest) A 0) (by decide) (Nat.le_of_ble_eq_true rfl) (fun p e s m below meth c A ls K hP hD hS hl => t_T_wants (R := { frames := 7, cells := 0, slots := 0, locals := 111 }) K ⟨Nat.le_of_ble_eq_true rfl, Nat.le_of_ble_eq_true rfl⟩ hlt xst xse xre xgr ltm low lta llo lhi lmo rta ron rlo rhi rmo rin res rsi rli rar xgc xca xls xtl xno lco rwa rad a1 a2 0 r (fun h => absurd rfl h) (fun h => absurd rfl h) hF hP hD hS hl) sz
theorem cx_T_wants (l : Launch) (hlt : l.stackTraces = false) (g : va_G) (cI cJ cZ : ClassId) (ad : Nat → Nat) (xst : Nat → Int32) (xse : Nat → Int32) (xre : Nat → Int32) (xgr : Nat → Int32) (ltm : Nat → Int32) (low : Nat → Int32) (lta : Nat → Int32) (llo : Nat → Int64) (lhi : Nat → Int64) (lmo : Nat → Int32) (rta : Nat → Int32) (ron : Nat → Int32) (rlo : Nat → Int64) (rhi : Nat → Int64) (rmo : Nat → Int32) (rin : Nat → Int32) (res : Nat → Int32) (rsi : Nat → Int32) (rli : Nat → Int32) (rar : Nat → Int32) (xgc : Int32) (xca : Int32) (xls : Int32) (xtl : Int32) (xno : Int32) (lco : Int32) (rwa : Int32) (rad : Int32) (rest : va_W) (a1 : Int32) (a2 : Int32) (kx : Nat) (r : Int32) (hk : kx ≠ 0) (hF : F_T_wants xst rta ron rmo rin res rsi xno a1 a2 = some (kx, r)) : Cx l y_T_wants prog_1_method_19_code 3 (some .int) ({ frames := 7, cells := 1, slots := 6, locals := 111 }) [.ref (ad 0), .int a1, .int a2] g (kty cI cJ cZ) (wC cI cJ cZ ad xst xse xre xgr ltm low lta llo lhi lmo rta ron rlo rhi rmo rin res rsi rli rar xgc xca xls xtl xno lco rwa rad rest) (wC cI cJ cZ ad xst xse xre xgr ltm low lta llo lhi lmo rta ron rlo rhi rmo rin res rsi rli rar xgc xca xls xtl xno lco rwa rad rest) kx :=
  Cx.of (Q0 := fun A => kQi g (kty cI cJ cZ) (wC cI cJ cZ ad xst xse xre xgr ltm low lta llo lhi lmo rta ron rlo rhi rmo rin res rsi rli rar xgc xca xls xtl xno lco rwa rad rest) A r) hk (by decide) (Nat.le_of_ble_eq_true rfl) (fun p e s m below meth c A ls hnt K hP hD hS hl => t_T_wants (R := { frames := 7, cells := 1, slots := 6, locals := 111 }) K ⟨Nat.le_of_ble_eq_true rfl, Nat.le_of_ble_eq_true rfl⟩ hlt xst xse xre xgr ltm low lta llo lhi lmo rta ron rlo rhi rmo rin res rsi rli rar xgc xca xls xtl xno lco rwa rad a1 a2 kx r (fun _ => ⟨Nat.le_of_ble_eq_true rfl, Nat.le_of_ble_eq_true rfl⟩) (fun _ => hnt) hF hP hD hS hl)
def F_T_behind (xst : Nat → Int32) (ltm : Nat → Int32) (low : Nat → Int32) (lta : Nat → Int32) (llo : Nat → Int64) (lhi : Nat → Int64) (lmo : Nat → Int32) (rta : Nat → Int32) (ron : Nat → Int32) (rlo : Nat → Int64) (rhi : Nat → Int64) (rmo : Nat → Int32) (rli : Nat → Int32) (lco : Int32) (rwa : Int32) (a1 : Int32) : Option (Nat × Int32) :=
  ob1 (F_T_checkOwner a1) (fun k_1 => if k_1 = 0 then gd (a1 < 0 ∨ 8 ≤ a1.toNatClampNeg) (if (xst a1.toNatClampNeg) = 2 then ob1 (F_T_blockers ltm low lta llo lhi lmo rta ron rlo rhi rmo rli lco rwa a1) (fun r_5 => some (0, r_5)) else some (0, 0)) else some (k_1, 0))
set_option maxHeartbeats 4000000 in
set_option maxRecDepth 100000 in
theorem t_T_behind {p : Program} {l : Launch} {e : Env} {s : State} {m : MethodId} {args : Array Value} {below : List Frame} {meth : Method} {c : Code} {A : Nat → Prop} {g : va_G} {cI cJ cZ : ClassId} {ad : Nat → Nat} {rest : va_W} (K : kX p s m args meth c "LockTable" prog_1_method_20_code 2 (some .int) A g (kty cI cJ cZ)) {R : Room} (hR : 7 ≤ R.frames ∧ 110 ≤ R.locals) (hlt : l.stackTraces = false) (xst : Nat → Int32) (xse : Nat → Int32) (xre : Nat → Int32) (xgr : Nat → Int32) (ltm : Nat → Int32) (low : Nat → Int32) (lta : Nat → Int32) (llo : Nat → Int64) (lhi : Nat → Int64) (lmo : Nat → Int32) (rta : Nat → Int32) (ron : Nat → Int32) (rlo : Nat → Int64) (rhi : Nat → Int64) (rmo : Nat → Int32) (rin : Nat → Int32) (res : Nat → Int32) (rsi : Nat → Int32) (rli : Nat → Int32) (rar : Nat → Int32) (xgc : Int32) (xca : Int32) (xls : Int32) (xtl : Int32) (xno : Int32) (lco : Int32) (rwa : Int32) (rad : Int32) (a1 : Int32) (kx : Nat) (r : Int32) (hRc : kx ≠ 0 → 1 ≤ R.cells ∧ 6 ≤ R.slots) (hnt : kx ≠ 0 → ∀ x ∈ c.exceptionTable.toList, False) (hF : F_T_behind xst ltm low lta llo lhi lmo rta ron rlo rhi rmo rli lco rwa a1 = some (kx, r)) {H : Heap} {locs : List Loc} {ls : Array Slot} (hP : va_P g kcl (wC cI cJ cZ ad xst xse xre xgr ltm low lta llo lhi lmo rta ron rlo rhi rmo rin res rsi rli rar xgc xca xls xtl xno lco rwa rad rest) H) (hD : va_D A (wC cI cJ cZ ad xst xse xre xgr ltm low lta llo lhi lmo rta ron rlo rhi rmo rin res rsi rli rar xgc xca xls xtl xno lco rwa rad rest)) (hS : va_S A s.heap H locs) (hl : lv_has ls 2 [(0, .ref (ad 0)), (1, .int a1)]) : W p l e (R) s m args below meth c H locs 0 0 (kSel below args s A kx (kQi g (kty cI cJ cZ) (wC cI cJ cZ ad xst xse xre xgr ltm low lta llo lhi lmo rta ron rlo rhi rmo rin res rsi rli rar xgc xca xls xtl xno lco rwa rad rest) A r) (kQx g (kty cI cJ cZ) (wC cI cJ cZ ad xst xse xre xgr ltm low lta llo lhi lmo rta ron rlo rhi rmo rin res rsi rli rar xgc xca xls xtl xno lco rwa rad rest) A kx)) (F0 m 0 ls []) := by
  obtain ⟨hx, hb, hr, hml, hown, hts, hlocks, hK, hA, hE⟩ := id K
  unfold F_T_behind at hF
  refine lv_iload_n hx hb d_T_behind_0 rfl (lv_at hl 1 rfl) ?_
  obtain ⟨k_1, hG, hF⟩ := ob1_inv hF
  by_cases hk_2 : k_1 = 0
  · replace hF := it_t hF hk_2
    subst hk_2
    refine ksv K hP hD hS (c_T_checkOwner l hlt g (kty cI cJ cZ) (wC cI cJ cZ ad xst xse xre xgr ltm low lta llo lhi lmo rta ron rlo rhi rmo rin res rsi rli rar xgc xca xls xtl xno lco rwa rad rest) a1  hG) wm_217 wm_215 wm_216 wm_46 hd_T_checkOwner rfl rfl ⟨Nat.le_trans (Nat.le_of_ble_eq_true rfl) hR.1, Nat.le_trans (Nat.le_of_ble_eq_true rfl) hR.2⟩ ⟨Nat.zero_le _, Nat.zero_le _⟩ hl.1 (rest := []) rfl (Nat.le_of_ble_eq_true rfl) d_T_behind_1 (fun H locs hP hD hS => ?_)
    refine lv_aload_n hx hb d_T_behind_4 rfl (lv_at hl 0 rfl) ?_
    refine va_get (D := g) (ci := 2) (v := .ref (ad 3)) (C := kR2) (T := kT2) (N := 11) hx hb hts kw2 hown hK hP 0 rfl rfl 0 (by decide) (hts _ wm_156) (fun _ h9 => h9) rfl d_T_behind_5 ?_
    refine lv_iload_n hx hb d_T_behind_8 rfl (lv_at hl 1 rfl) ?_
    obtain ⟨hg_3, hF⟩ := gd_inv hF
    refine va_iald hx hb hK hP 3 0 rfl rfl hg_3 d_T_behind_9 ?_
    refine lv_iconst (v := 2) hx hb d_T_behind_10 (by decide) ?_
    refine lv_icmp_ne (tgt := 22) hx hb d_T_behind_11 (by decide) (fun hc_4 => ?_) (fun hc_4 => ?_)
    · have hF := it_f hF hc_4
      refine lv_iconst (v := 0) hx hb d_T_behind_22 (by decide) ?_
      cases hF
      exact W.mono (fun t h => Or.inl ⟨rfl, h⟩) (kri K hP hD hS d_T_behind_23 rfl)
    · have hF := it_t hF hc_4
      refine lv_aload_n hx hb d_T_behind_14 rfl (lv_at hl 0 rfl) ?_
      refine lv_iload_n hx hb d_T_behind_15 rfl (lv_at hl 1 rfl) ?_
      obtain ⟨r_5, hG, hF⟩ := ob1_inv hF
      refine kci K hP hD hS (c_T_blockers l g cI cJ cZ ad xst xse xre xgr ltm low lta llo lhi lmo rta ron rlo rhi rmo rin res rsi rli rar xgc xca xls xtl xno lco rwa rad rest a1 r_5 hG) wm_368 wm_365 wm_367 wm_6 wm_46 hd_T_blockers rfl rfl ⟨Nat.le_trans (Nat.le_of_ble_eq_true rfl) hR.1, Nat.le_trans (Nat.le_of_ble_eq_true rfl) hR.2⟩ ⟨Nat.zero_le _, Nat.zero_le _⟩ 2 0 rfl rfl rfl hl.1 (rest := []) rfl (Nat.le_of_ble_eq_true rfl) d_T_behind_16 (fun H locs hP hD hS => ?_)
      refine lv_goto (tgt := 23) hx hb d_T_behind_19 (by decide) ?_
      cases hF
      exact W.mono (fun t h => Or.inl ⟨rfl, h⟩) (kri K hP hD hS d_T_behind_23 rfl)
  · replace hF := it_f hF hk_2
    cases hF
    refine kxs K hP hD hS (cx_T_checkOwner l hlt g (kty cI cJ cZ) (wC cI cJ cZ ad xst xse xre xgr ltm low lta llo lhi lmo rta ron rlo rhi rmo rin res rsi rli rar xgc xca xls xtl xno lco rwa rad rest) a1 _  hk_2 hG) wm_217 wm_215 wm_216 wm_46 hd_T_checkOwner rfl rfl ⟨Nat.le_trans (Nat.le_of_ble_eq_true rfl) hR.1, Nat.le_trans (Nat.le_of_ble_eq_true rfl) hR.2⟩ ⟨(hRc hk_2).1, (hRc hk_2).2⟩ hl.1 (rest := []) rfl (Nat.le_of_ble_eq_true rfl) d_T_behind_1 (fun ce q9 H locs hP hD hS hce hcv hcl => ?_)
    exact kxo K hk_2 (hnt hk_2) hP hD hS hce hcv hcl
theorem c_T_behind (l : Launch) (hlt : l.stackTraces = false) (g : va_G) (cI cJ cZ : ClassId) (ad : Nat → Nat) (xst : Nat → Int32) (xse : Nat → Int32) (xre : Nat → Int32) (xgr : Nat → Int32) (ltm : Nat → Int32) (low : Nat → Int32) (lta : Nat → Int32) (llo : Nat → Int64) (lhi : Nat → Int64) (lmo : Nat → Int32) (rta : Nat → Int32) (ron : Nat → Int32) (rlo : Nat → Int64) (rhi : Nat → Int64) (rmo : Nat → Int32) (rin : Nat → Int32) (res : Nat → Int32) (rsi : Nat → Int32) (rli : Nat → Int32) (rar : Nat → Int32) (xgc : Int32) (xca : Int32) (xls : Int32) (xtl : Int32) (xno : Int32) (lco : Int32) (rwa : Int32) (rad : Int32) (rest : va_W) (a1 : Int32) (r : Int32) (hF : F_T_behind xst ltm low lta llo lhi lmo rta ron rlo rhi rmo rli lco rwa a1 = some (0, r)) : Ci l y_T_behind prog_1_method_20_code 2 (some .int) ({ frames := 7, cells := 0, slots := 0, locals := 110 }) [.ref (ad 0), .int a1] g (kty cI cJ cZ) (wC cI cJ cZ ad xst xse xre xgr ltm low lta llo lhi lmo rta ron rlo rhi rmo rin res rsi rli rar xgc xca xls xtl xno lco rwa rad rest) (wC cI cJ cZ ad xst xse xre xgr ltm low lta llo lhi lmo rta ron rlo rhi rmo rin res rsi rli rar xgc xca xls xtl xno lco rwa rad rest) r :=
  fun sz => Ci.ofx (Q0 := fun A => kQi g (kty cI cJ cZ) (wC cI cJ cZ ad xst xse xre xgr ltm low lta llo lhi lmo rta ron rlo rhi rmo rin res rsi rli rar xgc xca xls xtl xno lco rwa rad rest) A r) (XC := fun A => kQx g (kty cI cJ cZ) (wC cI cJ cZ ad xst xse xre xgr ltm low lta llo lhi lmo rta ron rlo rhi rmo rin res rsi rli rar xgc xca xls xtl xno lco rwa rad rest) A 0) (by decide) (Nat.le_of_ble_eq_true rfl) (fun p e s m below meth c A ls K hP hD hS hl => t_T_behind (R := { frames := 7, cells := 0, slots := 0, locals := 110 }) K ⟨Nat.le_of_ble_eq_true rfl, Nat.le_of_ble_eq_true rfl⟩ hlt xst xse xre xgr ltm low lta llo lhi lmo rta ron rlo rhi rmo rin res rsi rli rar xgc xca xls xtl xno lco rwa rad a1 0 r (fun h => absurd rfl h) (fun h => absurd rfl h) hF hP hD hS hl) sz
theorem cx_T_behind (l : Launch) (hlt : l.stackTraces = false) (g : va_G) (cI cJ cZ : ClassId) (ad : Nat → Nat) (xst : Nat → Int32) (xse : Nat → Int32) (xre : Nat → Int32) (xgr : Nat → Int32) (ltm : Nat → Int32) (low : Nat → Int32) (lta : Nat → Int32) (llo : Nat → Int64) (lhi : Nat → Int64) (lmo : Nat → Int32) (rta : Nat → Int32) (ron : Nat → Int32) (rlo : Nat → Int64) (rhi : Nat → Int64) (rmo : Nat → Int32) (rin : Nat → Int32) (res : Nat → Int32) (rsi : Nat → Int32) (rli : Nat → Int32) (rar : Nat → Int32) (xgc : Int32) (xca : Int32) (xls : Int32) (xtl : Int32) (xno : Int32) (lco : Int32) (rwa : Int32) (rad : Int32) (rest : va_W) (a1 : Int32) (kx : Nat) (r : Int32) (hk : kx ≠ 0) (hF : F_T_behind xst ltm low lta llo lhi lmo rta ron rlo rhi rmo rli lco rwa a1 = some (kx, r)) : Cx l y_T_behind prog_1_method_20_code 2 (some .int) ({ frames := 7, cells := 1, slots := 6, locals := 110 }) [.ref (ad 0), .int a1] g (kty cI cJ cZ) (wC cI cJ cZ ad xst xse xre xgr ltm low lta llo lhi lmo rta ron rlo rhi rmo rin res rsi rli rar xgc xca xls xtl xno lco rwa rad rest) (wC cI cJ cZ ad xst xse xre xgr ltm low lta llo lhi lmo rta ron rlo rhi rmo rin res rsi rli rar xgc xca xls xtl xno lco rwa rad rest) kx :=
  Cx.of (Q0 := fun A => kQi g (kty cI cJ cZ) (wC cI cJ cZ ad xst xse xre xgr ltm low lta llo lhi lmo rta ron rlo rhi rmo rin res rsi rli rar xgc xca xls xtl xno lco rwa rad rest) A r) hk (by decide) (Nat.le_of_ble_eq_true rfl) (fun p e s m below meth c A ls hnt K hP hD hS hl => t_T_behind (R := { frames := 7, cells := 1, slots := 6, locals := 110 }) K ⟨Nat.le_of_ble_eq_true rfl, Nat.le_of_ble_eq_true rfl⟩ hlt xst xse xre xgr ltm low lta llo lhi lmo rta ron rlo rhi rmo rin res rsi rli rar xgc xca xls xtl xno lco rwa rad a1 kx r (fun _ => ⟨Nat.le_of_ble_eq_true rfl, Nat.le_of_ble_eq_true rfl⟩) (fun _ => hnt) hF hP hD hS hl)
def F_T_join (a1 : Int32) (a2 : Int32) : Option (Nat × Int32) :=
  ob1 (F_T_checkMode a1) (fun k_1 => if k_1 = 0 then ob1 (F_T_checkMode a2) (fun k_3 => if k_3 = 0 then ob1 (F_K_joined a1 a2) (fun r_5 => some (0, r_5)) else some (k_3, 0)) else some (k_1, 0))
set_option maxHeartbeats 4000000 in
set_option maxRecDepth 100000 in
theorem t_T_join {p : Program} {l : Launch} {e : Env} {s : State} {m : MethodId} {args : Array Value} {below : List Frame} {meth : Method} {c : Code} {A : Nat → Prop} {g : va_G} {cI cJ cZ : ClassId} {ad : Nat → Nat} {rest : va_W} (K : kX p s m args meth c "LockTable" prog_1_method_22_code 3 (some .int) A g (kty cI cJ cZ)) {R : Room} (hR : 7 ≤ R.frames ∧ 110 ≤ R.locals) (hlt : l.stackTraces = false) (xst : Nat → Int32) (xse : Nat → Int32) (xre : Nat → Int32) (xgr : Nat → Int32) (ltm : Nat → Int32) (low : Nat → Int32) (lta : Nat → Int32) (llo : Nat → Int64) (lhi : Nat → Int64) (lmo : Nat → Int32) (rta : Nat → Int32) (ron : Nat → Int32) (rlo : Nat → Int64) (rhi : Nat → Int64) (rmo : Nat → Int32) (rin : Nat → Int32) (res : Nat → Int32) (rsi : Nat → Int32) (rli : Nat → Int32) (rar : Nat → Int32) (xgc : Int32) (xca : Int32) (xls : Int32) (xtl : Int32) (xno : Int32) (lco : Int32) (rwa : Int32) (rad : Int32) (a1 : Int32) (a2 : Int32) (kx : Nat) (r : Int32) (hRc : kx ≠ 0 → 1 ≤ R.cells ∧ 6 ≤ R.slots) (hnt : kx ≠ 0 → ∀ x ∈ c.exceptionTable.toList, False) (hF : F_T_join a1 a2 = some (kx, r)) {H : Heap} {locs : List Loc} {ls : Array Slot} (hP : va_P g kcl (wC cI cJ cZ ad xst xse xre xgr ltm low lta llo lhi lmo rta ron rlo rhi rmo rin res rsi rli rar xgc xca xls xtl xno lco rwa rad rest) H) (hD : va_D A (wC cI cJ cZ ad xst xse xre xgr ltm low lta llo lhi lmo rta ron rlo rhi rmo rin res rsi rli rar xgc xca xls xtl xno lco rwa rad rest)) (hS : va_S A s.heap H locs) (hl : lv_has ls 3 [(0, .ref (ad 0)), (1, .int a1), (2, .int a2)]) : W p l e (R) s m args below meth c H locs 0 0 (kSel below args s A kx (kQi g (kty cI cJ cZ) (wC cI cJ cZ ad xst xse xre xgr ltm low lta llo lhi lmo rta ron rlo rhi rmo rin res rsi rli rar xgc xca xls xtl xno lco rwa rad rest) A r) (kQx g (kty cI cJ cZ) (wC cI cJ cZ ad xst xse xre xgr ltm low lta llo lhi lmo rta ron rlo rhi rmo rin res rsi rli rar xgc xca xls xtl xno lco rwa rad rest) A kx)) (F0 m 0 ls []) := by
  obtain ⟨hx, hb, hr, hml, hown, hts, hlocks, hK, hA, hE⟩ := id K
  unfold F_T_join at hF
  refine lv_iload_n hx hb d_T_join_0 rfl (lv_at hl 1 rfl) ?_
  obtain ⟨k_1, hG, hF⟩ := ob1_inv hF
  by_cases hk_2 : k_1 = 0
  · replace hF := it_t hF hk_2
    subst hk_2
    refine ksv K hP hD hS (c_T_checkMode l hlt g (kty cI cJ cZ) (wC cI cJ cZ ad xst xse xre xgr ltm low lta llo lhi lmo rta ron rlo rhi rmo rin res rsi rli rar xgc xca xls xtl xno lco rwa rad rest) a1  hG) wm_319 wm_317 wm_318 wm_46 hd_T_checkMode rfl rfl ⟨Nat.le_trans (Nat.le_of_ble_eq_true rfl) hR.1, Nat.le_trans (Nat.le_of_ble_eq_true rfl) hR.2⟩ ⟨Nat.zero_le _, Nat.zero_le _⟩ hl.1 (rest := []) rfl (Nat.le_of_ble_eq_true rfl) d_T_join_1 (fun H locs hP hD hS => ?_)
    refine lv_iload_n hx hb d_T_join_4 rfl (lv_at hl 2 rfl) ?_
    obtain ⟨k_3, hG, hF⟩ := ob1_inv hF
    by_cases hk_4 : k_3 = 0
    · replace hF := it_t hF hk_4
      subst hk_4
      refine ksv K hP hD hS (c_T_checkMode l hlt g (kty cI cJ cZ) (wC cI cJ cZ ad xst xse xre xgr ltm low lta llo lhi lmo rta ron rlo rhi rmo rin res rsi rli rar xgc xca xls xtl xno lco rwa rad rest) a2  hG) wm_319 wm_317 wm_318 wm_46 hd_T_checkMode rfl rfl ⟨Nat.le_trans (Nat.le_of_ble_eq_true rfl) hR.1, Nat.le_trans (Nat.le_of_ble_eq_true rfl) hR.2⟩ ⟨Nat.zero_le _, Nat.zero_le _⟩ hl.1 (rest := []) rfl (Nat.le_of_ble_eq_true rfl) d_T_join_5 (fun H locs hP hD hS => ?_)
      refine lv_iload_n hx hb d_T_join_8 rfl (lv_at hl 1 rfl) ?_
      refine lv_iload_n hx hb d_T_join_9 rfl (lv_at hl 2 rfl) ?_
      obtain ⟨r_5, hG, hF⟩ := ob1_inv hF
      refine ksi K hP hD hS (c_K_joined l g (kty cI cJ cZ) (wC cI cJ cZ ad xst xse xre xgr ltm low lta llo lhi lmo rta ron rlo rhi rmo rin res rsi rli rar xgc xca xls xtl xno lco rwa rad rest) a1 a2 r_5 hG) wm_340 wm_664 wm_339 wm_56 hd_K_joined rfl rfl ⟨Nat.le_trans (Nat.le_of_ble_eq_true rfl) hR.1, Nat.le_trans (Nat.le_of_ble_eq_true rfl) hR.2⟩ ⟨Nat.zero_le _, Nat.zero_le _⟩ hl.1 (rest := []) rfl (Nat.le_of_ble_eq_true rfl) d_T_join_10 (fun H locs hP hD hS => ?_)
      cases hF
      exact W.mono (fun t h => Or.inl ⟨rfl, h⟩) (kri K hP hD hS d_T_join_13 rfl)
    · replace hF := it_f hF hk_4
      cases hF
      refine kxs K hP hD hS (cx_T_checkMode l hlt g (kty cI cJ cZ) (wC cI cJ cZ ad xst xse xre xgr ltm low lta llo lhi lmo rta ron rlo rhi rmo rin res rsi rli rar xgc xca xls xtl xno lco rwa rad rest) a2 _  hk_4 hG) wm_319 wm_317 wm_318 wm_46 hd_T_checkMode rfl rfl ⟨Nat.le_trans (Nat.le_of_ble_eq_true rfl) hR.1, Nat.le_trans (Nat.le_of_ble_eq_true rfl) hR.2⟩ ⟨(hRc hk_4).1, (hRc hk_4).2⟩ hl.1 (rest := []) rfl (Nat.le_of_ble_eq_true rfl) d_T_join_5 (fun ce q9 H locs hP hD hS hce hcv hcl => ?_)
      exact kxo K hk_4 (hnt hk_4) hP hD hS hce hcv hcl
  · replace hF := it_f hF hk_2
    cases hF
    refine kxs K hP hD hS (cx_T_checkMode l hlt g (kty cI cJ cZ) (wC cI cJ cZ ad xst xse xre xgr ltm low lta llo lhi lmo rta ron rlo rhi rmo rin res rsi rli rar xgc xca xls xtl xno lco rwa rad rest) a1 _  hk_2 hG) wm_319 wm_317 wm_318 wm_46 hd_T_checkMode rfl rfl ⟨Nat.le_trans (Nat.le_of_ble_eq_true rfl) hR.1, Nat.le_trans (Nat.le_of_ble_eq_true rfl) hR.2⟩ ⟨(hRc hk_2).1, (hRc hk_2).2⟩ hl.1 (rest := []) rfl (Nat.le_of_ble_eq_true rfl) d_T_join_1 (fun ce q9 H locs hP hD hS hce hcv hcl => ?_)
    exact kxo K hk_2 (hnt hk_2) hP hD hS hce hcv hcl
theorem c_T_join (l : Launch) (hlt : l.stackTraces = false) (g : va_G) (cI cJ cZ : ClassId) (ad : Nat → Nat) (xst : Nat → Int32) (xse : Nat → Int32) (xre : Nat → Int32) (xgr : Nat → Int32) (ltm : Nat → Int32) (low : Nat → Int32) (lta : Nat → Int32) (llo : Nat → Int64) (lhi : Nat → Int64) (lmo : Nat → Int32) (rta : Nat → Int32) (ron : Nat → Int32) (rlo : Nat → Int64) (rhi : Nat → Int64) (rmo : Nat → Int32) (rin : Nat → Int32) (res : Nat → Int32) (rsi : Nat → Int32) (rli : Nat → Int32) (rar : Nat → Int32) (xgc : Int32) (xca : Int32) (xls : Int32) (xtl : Int32) (xno : Int32) (lco : Int32) (rwa : Int32) (rad : Int32) (rest : va_W) (a1 : Int32) (a2 : Int32) (r : Int32) (hF : F_T_join a1 a2 = some (0, r)) : Ci l y_T_join prog_1_method_22_code 3 (some .int) ({ frames := 7, cells := 0, slots := 0, locals := 110 }) [.ref (ad 0), .int a1, .int a2] g (kty cI cJ cZ) (wC cI cJ cZ ad xst xse xre xgr ltm low lta llo lhi lmo rta ron rlo rhi rmo rin res rsi rli rar xgc xca xls xtl xno lco rwa rad rest) (wC cI cJ cZ ad xst xse xre xgr ltm low lta llo lhi lmo rta ron rlo rhi rmo rin res rsi rli rar xgc xca xls xtl xno lco rwa rad rest) r :=
  fun sz => Ci.ofx (Q0 := fun A => kQi g (kty cI cJ cZ) (wC cI cJ cZ ad xst xse xre xgr ltm low lta llo lhi lmo rta ron rlo rhi rmo rin res rsi rli rar xgc xca xls xtl xno lco rwa rad rest) A r) (XC := fun A => kQx g (kty cI cJ cZ) (wC cI cJ cZ ad xst xse xre xgr ltm low lta llo lhi lmo rta ron rlo rhi rmo rin res rsi rli rar xgc xca xls xtl xno lco rwa rad rest) A 0) (by decide) (Nat.le_of_ble_eq_true rfl) (fun p e s m below meth c A ls K hP hD hS hl => t_T_join (R := { frames := 7, cells := 0, slots := 0, locals := 110 }) K ⟨Nat.le_of_ble_eq_true rfl, Nat.le_of_ble_eq_true rfl⟩ hlt xst xse xre xgr ltm low lta llo lhi lmo rta ron rlo rhi rmo rin res rsi rli rar xgc xca xls xtl xno lco rwa rad a1 a2 0 r (fun h => absurd rfl h) (fun h => absurd rfl h) hF hP hD hS hl) sz
theorem cx_T_join (l : Launch) (hlt : l.stackTraces = false) (g : va_G) (cI cJ cZ : ClassId) (ad : Nat → Nat) (xst : Nat → Int32) (xse : Nat → Int32) (xre : Nat → Int32) (xgr : Nat → Int32) (ltm : Nat → Int32) (low : Nat → Int32) (lta : Nat → Int32) (llo : Nat → Int64) (lhi : Nat → Int64) (lmo : Nat → Int32) (rta : Nat → Int32) (ron : Nat → Int32) (rlo : Nat → Int64) (rhi : Nat → Int64) (rmo : Nat → Int32) (rin : Nat → Int32) (res : Nat → Int32) (rsi : Nat → Int32) (rli : Nat → Int32) (rar : Nat → Int32) (xgc : Int32) (xca : Int32) (xls : Int32) (xtl : Int32) (xno : Int32) (lco : Int32) (rwa : Int32) (rad : Int32) (rest : va_W) (a1 : Int32) (a2 : Int32) (kx : Nat) (r : Int32) (hk : kx ≠ 0) (hF : F_T_join a1 a2 = some (kx, r)) : Cx l y_T_join prog_1_method_22_code 3 (some .int) ({ frames := 7, cells := 1, slots := 6, locals := 110 }) [.ref (ad 0), .int a1, .int a2] g (kty cI cJ cZ) (wC cI cJ cZ ad xst xse xre xgr ltm low lta llo lhi lmo rta ron rlo rhi rmo rin res rsi rli rar xgc xca xls xtl xno lco rwa rad rest) (wC cI cJ cZ ad xst xse xre xgr ltm low lta llo lhi lmo rta ron rlo rhi rmo rin res rsi rli rar xgc xca xls xtl xno lco rwa rad rest) kx :=
  Cx.of (Q0 := fun A => kQi g (kty cI cJ cZ) (wC cI cJ cZ ad xst xse xre xgr ltm low lta llo lhi lmo rta ron rlo rhi rmo rin res rsi rli rar xgc xca xls xtl xno lco rwa rad rest) A r) hk (by decide) (Nat.le_of_ble_eq_true rfl) (fun p e s m below meth c A ls hnt K hP hD hS hl => t_T_join (R := { frames := 7, cells := 1, slots := 6, locals := 110 }) K ⟨Nat.le_of_ble_eq_true rfl, Nat.le_of_ble_eq_true rfl⟩ hlt xst xse xre xgr ltm low lta llo lhi lmo rta ron rlo rhi rmo rin res rsi rli rar xgc xca xls xtl xno lco rwa rad a1 a2 kx r (fun _ => ⟨Nat.le_of_ble_eq_true rfl, Nat.le_of_ble_eq_true rfl⟩) (fun _ => hnt) hF hP hD hS hl)
