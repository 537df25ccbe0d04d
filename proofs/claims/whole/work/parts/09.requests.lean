theorem wm_108 : Cond.fieldLink "LockTable$Requests" 9 "LockTable$Requests" "tables" "[I" ∈ w_all := w_mem 108 (by decide +kernel) (by decide +kernel)
theorem wm_110 : Cond.fieldLink "LockTable$Requests" 15 "LockTable$Requests" "onRange" "[Z" ∈ w_all := w_mem 110 (by decide +kernel) (by decide +kernel)
theorem wm_116 : Cond.fieldLink "LockTable$Requests" 26 "LockTable$Requests" "modes" "[I" ∈ w_all := w_mem 116 (by decide +kernel) (by decide +kernel)
theorem wm_118 : Cond.fieldLink "LockTable$Requests" 29 "LockTable$Requests" "inner" "[Z" ∈ w_all := w_mem 118 (by decide +kernel) (by decide +kernel)
theorem wm_120 : Cond.fieldLink "LockTable$Requests" 32 "LockTable$Requests" "escalating" "[Z" ∈ w_all := w_mem 120 (by decide +kernel) (by decide +kernel)
theorem wm_352 : Cond.code ⟨"LockTable$Requests", "setTable", "(IIIZ)V"⟩ prog_4_method_2_code 5 none ∈ w_all := w_mem 352 (by decide +kernel) (by decide +kernel)
theorem wm_507 : Cond.methodLink "LockTable$Requests" 44 ⟨"LockTable$Requests", "setTable", "(IIIZ)V"⟩ ∈ w_all := w_mem 507 (by decide +kernel) (by decide +kernel)
theorem wm_350 : Cond.instanceMethod ⟨"LockTable$Requests", "setTable", "(IIIZ)V"⟩ ∈ w_all := w_mem 350 (by decide +kernel) (by decide +kernel)
theorem wm_351 : Cond.selects "LockTable$Requests" ⟨"LockTable$Requests", "setTable", "(IIIZ)V"⟩ ⟨"LockTable$Requests", "setTable", "(IIIZ)V"⟩ ∈ w_all := w_mem 351 (by decide +kernel) (by decide +kernel)
theorem wm_49 : Cond.initialized "LockTable$Requests" ∈ w_all := w_mem 49 (by decide +kernel) (by decide +kernel)
theorem wm_112 : Cond.fieldLink "LockTable$Requests" 19 "LockTable$Requests" "lows" "[J" ∈ w_all := w_mem 112 (by decide +kernel) (by decide +kernel)
theorem wm_114 : Cond.fieldLink "LockTable$Requests" 23 "LockTable$Requests" "highs" "[J" ∈ w_all := w_mem 114 (by decide +kernel) (by decide +kernel)
theorem wm_126 : Cond.fieldLink "LockTable$Requests" 48 "LockTable$Requests" "waiting" "I" ∈ w_all := w_mem 126 (by decide +kernel) (by decide +kernel)
theorem wm_124 : Cond.fieldLink "LockTable$Requests" 38 "LockTable$Requests" "line" "[I" ∈ w_all := w_mem 124 (by decide +kernel) (by decide +kernel)
theorem wm_122 : Cond.fieldLink "LockTable$Requests" 35 "LockTable$Requests" "since" "[I" ∈ w_all := w_mem 122 (by decide +kernel) (by decide +kernel)
theorem wm_128 : Cond.fieldLink "LockTable$Requests" 41 "LockTable$Requests" "arrivals" "[I" ∈ w_all := w_mem 128 (by decide +kernel) (by decide +kernel)
theorem wm_129 : Cond.fieldLink "LockTable$Requests" 52 "LockTable$Requests" "arrived" "I" ∈ w_all := w_mem 129 (by decide +kernel) (by decide +kernel)
theorem wm_388 : Cond.code ⟨"LockTable$Requests", "meet", "(II)Z"⟩ prog_4_method_9_code 3 (some .boolean) ∈ w_all := w_mem 388 (by decide +kernel) (by decide +kernel)
theorem wm_385 : Cond.methodLink "LockTable$Requests" 55 ⟨"LockTable$Requests", "meet", "(II)Z"⟩ ∈ w_all := w_mem 385 (by decide +kernel) (by decide +kernel)
theorem wm_387 : Cond.instanceMethod ⟨"LockTable$Requests", "meet", "(II)Z"⟩ ∈ w_all := w_mem 387 (by decide +kernel) (by decide +kernel)
theorem wm_7 : Cond.selects "LockTable$Requests" ⟨"LockTable$Requests", "meet", "(II)Z"⟩ ⟨"LockTable$Requests", "meet", "(II)Z"⟩ ∈ w_all := w_mem 7 (by decide +kernel) (by decide +kernel)
theorem wm_389 : Cond.methodLink "LockTable$Requests" 59 ⟨"LockTable$Modes", "goTogether", "(II)Z"⟩ ∈ w_all := w_mem 389 (by decide +kernel) (by decide +kernel)
abbrev y_R_setTable : MethodName := ⟨"LockTable$Requests", "setTable", "(IIIZ)V"⟩
theorem hd_R_setTable : y_R_setTable.cls ≠ "java/lang/invoke/MethodHandle" ∧ y_R_setTable.cls ≠ "java/lang/invoke/VarHandle" ∧ (parseMethodDescriptor y_R_setTable.desc).map (fun d => d.parameters.length) = some 4 := ⟨by decide, by decide, by decide +kernel⟩
abbrev y_R_setEscalation : MethodName := ⟨"LockTable$Requests", "setEscalation", "(III)V"⟩
theorem hd_R_setEscalation : y_R_setEscalation.cls ≠ "java/lang/invoke/MethodHandle" ∧ y_R_setEscalation.cls ≠ "java/lang/invoke/VarHandle" ∧ (parseMethodDescriptor y_R_setEscalation.desc).map (fun d => d.parameters.length) = some 3 := ⟨by decide, by decide, by decide +kernel⟩
abbrev y_R_setRange : MethodName := ⟨"LockTable$Requests", "setRange", "(IIJJIZ)V"⟩
theorem hd_R_setRange : y_R_setRange.cls ≠ "java/lang/invoke/MethodHandle" ∧ y_R_setRange.cls ≠ "java/lang/invoke/VarHandle" ∧ (parseMethodDescriptor y_R_setRange.desc).map (fun d => d.parameters.length) = some 6 := ⟨by decide, by decide, by decide +kernel⟩
abbrev y_R_enter : MethodName := ⟨"LockTable$Requests", "enter", "(II)V"⟩
theorem hd_R_enter : y_R_enter.cls ≠ "java/lang/invoke/MethodHandle" ∧ y_R_enter.cls ≠ "java/lang/invoke/VarHandle" ∧ (parseMethodDescriptor y_R_enter.desc).map (fun d => d.parameters.length) = some 2 := ⟨by decide, by decide, by decide +kernel⟩
abbrev y_R_leave : MethodName := ⟨"LockTable$Requests", "leave", "(I)V"⟩
theorem hd_R_leave : y_R_leave.cls ≠ "java/lang/invoke/MethodHandle" ∧ y_R_leave.cls ≠ "java/lang/invoke/VarHandle" ∧ (parseMethodDescriptor y_R_leave.desc).map (fun d => d.parameters.length) = some 1 := ⟨by decide, by decide, by decide +kernel⟩
abbrev y_R_meet : MethodName := ⟨"LockTable$Requests", "meet", "(II)Z"⟩
theorem hd_R_meet : y_R_meet.cls ≠ "java/lang/invoke/MethodHandle" ∧ y_R_meet.cls ≠ "java/lang/invoke/VarHandle" ∧ (parseMethodDescriptor y_R_meet.desc).map (fun d => d.parameters.length) = some 2 := ⟨by decide, by decide, by decide +kernel⟩
abbrev y_R_againstBefore : MethodName := ⟨"LockTable$Requests", "againstBefore", "(I)I"⟩
theorem hd_R_againstBefore : y_R_againstBefore.cls ≠ "java/lang/invoke/MethodHandle" ∧ y_R_againstBefore.cls ≠ "java/lang/invoke/VarHandle" ∧ (parseMethodDescriptor y_R_againstBefore.desc).map (fun d => d.parameters.length) = some 1 := ⟨by decide, by decide, by decide +kernel⟩
abbrev y_R_firstOverdue : MethodName := ⟨"LockTable$Requests", "firstOverdue", "(II)I"⟩
theorem hd_R_firstOverdue : y_R_firstOverdue.cls ≠ "java/lang/invoke/MethodHandle" ∧ y_R_firstOverdue.cls ≠ "java/lang/invoke/VarHandle" ∧ (parseMethodDescriptor y_R_firstOverdue.desc).map (fun d => d.parameters.length) = some 2 := ⟨by decide, by decide, by decide +kernel⟩
theorem d_R_setTable_0 : decode prog_4_method_2_code 0 = .ok (.aload_n 0, 1) := by decide +kernel
theorem d_R_setTable_1 : decode prog_4_method_2_code 1 = .ok (.getfield 9, 3) := by decide +kernel
theorem d_R_setTable_4 : decode prog_4_method_2_code 4 = .ok (.iload_n 1, 1) := by decide +kernel
theorem d_R_setTable_5 : decode prog_4_method_2_code 5 = .ok (.iload_n 2, 1) := by decide +kernel
theorem d_R_setTable_6 : decode prog_4_method_2_code 6 = .ok (.iastore, 1) := by decide +kernel
theorem d_R_setTable_7 : decode prog_4_method_2_code 7 = .ok (.aload_n 0, 1) := by decide +kernel
theorem d_R_setTable_8 : decode prog_4_method_2_code 8 = .ok (.getfield 15, 3) := by decide +kernel
theorem d_R_setTable_11 : decode prog_4_method_2_code 11 = .ok (.iload_n 1, 1) := by decide +kernel
theorem d_R_setTable_12 : decode prog_4_method_2_code 12 = .ok (.iconst 0, 1) := by decide +kernel
theorem d_R_setTable_13 : decode prog_4_method_2_code 13 = .ok (.bastore, 1) := by decide +kernel
theorem d_R_setTable_14 : decode prog_4_method_2_code 14 = .ok (.aload_n 0, 1) := by decide +kernel
theorem d_R_setTable_15 : decode prog_4_method_2_code 15 = .ok (.getfield 26, 3) := by decide +kernel
theorem d_R_setTable_18 : decode prog_4_method_2_code 18 = .ok (.iload_n 1, 1) := by decide +kernel
theorem d_R_setTable_19 : decode prog_4_method_2_code 19 = .ok (.iload_n 3, 1) := by decide +kernel
theorem d_R_setTable_20 : decode prog_4_method_2_code 20 = .ok (.iastore, 1) := by decide +kernel
theorem d_R_setTable_21 : decode prog_4_method_2_code 21 = .ok (.aload_n 0, 1) := by decide +kernel
theorem d_R_setTable_22 : decode prog_4_method_2_code 22 = .ok (.getfield 29, 3) := by decide +kernel
theorem d_R_setTable_25 : decode prog_4_method_2_code 25 = .ok (.iload_n 1, 1) := by decide +kernel
theorem d_R_setTable_26 : decode prog_4_method_2_code 26 = .ok (.iload 4, 2) := by decide +kernel
theorem d_R_setTable_28 : decode prog_4_method_2_code 28 = .ok (.bastore, 1) := by decide +kernel
theorem d_R_setTable_29 : decode prog_4_method_2_code 29 = .ok (.aload_n 0, 1) := by decide +kernel
theorem d_R_setTable_30 : decode prog_4_method_2_code 30 = .ok (.getfield 32, 3) := by decide +kernel
theorem d_R_setTable_33 : decode prog_4_method_2_code 33 = .ok (.iload_n 1, 1) := by decide +kernel
theorem d_R_setTable_34 : decode prog_4_method_2_code 34 = .ok (.iconst 0, 1) := by decide +kernel
theorem d_R_setTable_35 : decode prog_4_method_2_code 35 = .ok (.bastore, 1) := by decide +kernel
theorem d_R_setTable_36 : decode prog_4_method_2_code 36 = .ok (.return_, 1) := by decide +kernel
theorem d_R_setEscalation_0 : decode prog_4_method_3_code 0 = .ok (.aload_n 0, 1) := by decide +kernel
theorem d_R_setEscalation_1 : decode prog_4_method_3_code 1 = .ok (.iload_n 1, 1) := by decide +kernel
theorem d_R_setEscalation_2 : decode prog_4_method_3_code 2 = .ok (.iload_n 2, 1) := by decide +kernel
theorem d_R_setEscalation_3 : decode prog_4_method_3_code 3 = .ok (.iload_n 3, 1) := by decide +kernel
theorem d_R_setEscalation_4 : decode prog_4_method_3_code 4 = .ok (.iconst 1, 1) := by decide +kernel
theorem d_R_setEscalation_5 : decode prog_4_method_3_code 5 = .ok (.invokevirtual 44, 3) := by decide +kernel
theorem d_R_setEscalation_8 : decode prog_4_method_3_code 8 = .ok (.aload_n 0, 1) := by decide +kernel
theorem d_R_setEscalation_9 : decode prog_4_method_3_code 9 = .ok (.getfield 32, 3) := by decide +kernel
theorem d_R_setEscalation_12 : decode prog_4_method_3_code 12 = .ok (.iload_n 1, 1) := by decide +kernel
theorem d_R_setEscalation_13 : decode prog_4_method_3_code 13 = .ok (.iconst 1, 1) := by decide +kernel
theorem d_R_setEscalation_14 : decode prog_4_method_3_code 14 = .ok (.bastore, 1) := by decide +kernel
theorem d_R_setEscalation_15 : decode prog_4_method_3_code 15 = .ok (.return_, 1) := by decide +kernel
theorem d_R_setRange_0 : decode prog_4_method_4_code 0 = .ok (.aload_n 0, 1) := by decide +kernel
theorem d_R_setRange_1 : decode prog_4_method_4_code 1 = .ok (.iload_n 1, 1) := by decide +kernel
theorem d_R_setRange_2 : decode prog_4_method_4_code 2 = .ok (.iload_n 2, 1) := by decide +kernel
theorem d_R_setRange_3 : decode prog_4_method_4_code 3 = .ok (.iload 7, 2) := by decide +kernel
theorem d_R_setRange_5 : decode prog_4_method_4_code 5 = .ok (.iload 8, 2) := by decide +kernel
theorem d_R_setRange_7 : decode prog_4_method_4_code 7 = .ok (.invokevirtual 44, 3) := by decide +kernel
theorem d_R_setRange_10 : decode prog_4_method_4_code 10 = .ok (.aload_n 0, 1) := by decide +kernel
theorem d_R_setRange_11 : decode prog_4_method_4_code 11 = .ok (.getfield 15, 3) := by decide +kernel
theorem d_R_setRange_14 : decode prog_4_method_4_code 14 = .ok (.iload_n 1, 1) := by decide +kernel
theorem d_R_setRange_15 : decode prog_4_method_4_code 15 = .ok (.iconst 1, 1) := by decide +kernel
theorem d_R_setRange_16 : decode prog_4_method_4_code 16 = .ok (.bastore, 1) := by decide +kernel
theorem d_R_setRange_17 : decode prog_4_method_4_code 17 = .ok (.aload_n 0, 1) := by decide +kernel
theorem d_R_setRange_18 : decode prog_4_method_4_code 18 = .ok (.getfield 19, 3) := by decide +kernel
theorem d_R_setRange_21 : decode prog_4_method_4_code 21 = .ok (.iload_n 1, 1) := by decide +kernel
theorem d_R_setRange_22 : decode prog_4_method_4_code 22 = .ok (.lload_n 3, 1) := by decide +kernel
theorem d_R_setRange_23 : decode prog_4_method_4_code 23 = .ok (.lastore, 1) := by decide +kernel
theorem d_R_setRange_24 : decode prog_4_method_4_code 24 = .ok (.aload_n 0, 1) := by decide +kernel
theorem d_R_setRange_25 : decode prog_4_method_4_code 25 = .ok (.getfield 23, 3) := by decide +kernel
theorem d_R_setRange_28 : decode prog_4_method_4_code 28 = .ok (.iload_n 1, 1) := by decide +kernel
theorem d_R_setRange_29 : decode prog_4_method_4_code 29 = .ok (.lload 5, 2) := by decide +kernel
theorem d_R_setRange_31 : decode prog_4_method_4_code 31 = .ok (.lastore, 1) := by decide +kernel
theorem d_R_setRange_32 : decode prog_4_method_4_code 32 = .ok (.return_, 1) := by decide +kernel
theorem d_R_enter_0 : decode prog_4_method_5_code 0 = .ok (.aload_n 0, 1) := by decide +kernel
theorem d_R_enter_1 : decode prog_4_method_5_code 1 = .ok (.getfield 48, 3) := by decide +kernel
theorem d_R_enter_4 : decode prog_4_method_5_code 4 = .ok (.bipush 8, 2) := by decide +kernel
theorem d_R_enter_6 : decode prog_4_method_5_code 6 = .ok (.if_icmp .lt 4, 3) := by decide +kernel
theorem d_R_enter_9 : decode prog_4_method_5_code 9 = .ok (.return_, 1) := by decide +kernel
theorem d_R_enter_10 : decode prog_4_method_5_code 10 = .ok (.aload_n 0, 1) := by decide +kernel
theorem d_R_enter_11 : decode prog_4_method_5_code 11 = .ok (.getfield 48, 3) := by decide +kernel
theorem d_R_enter_14 : decode prog_4_method_5_code 14 = .ok (.istore_n 3, 1) := by decide +kernel
theorem d_R_enter_15 : decode prog_4_method_5_code 15 = .ok (.iload_n 3, 1) := by decide +kernel
theorem d_R_enter_16 : decode prog_4_method_5_code 16 = .ok (.ifCond .le 48, 3) := by decide +kernel
theorem d_R_enter_19 : decode prog_4_method_5_code 19 = .ok (.aload_n 0, 1) := by decide +kernel
theorem d_R_enter_20 : decode prog_4_method_5_code 20 = .ok (.getfield 29, 3) := by decide +kernel
theorem d_R_enter_23 : decode prog_4_method_5_code 23 = .ok (.iload_n 1, 1) := by decide +kernel
theorem d_R_enter_24 : decode prog_4_method_5_code 24 = .ok (.baload, 1) := by decide +kernel
theorem d_R_enter_25 : decode prog_4_method_5_code 25 = .ok (.ifCond .eq 39, 3) := by decide +kernel
theorem d_R_enter_28 : decode prog_4_method_5_code 28 = .ok (.aload_n 0, 1) := by decide +kernel
theorem d_R_enter_29 : decode prog_4_method_5_code 29 = .ok (.getfield 29, 3) := by decide +kernel
theorem d_R_enter_32 : decode prog_4_method_5_code 32 = .ok (.aload_n 0, 1) := by decide +kernel
theorem d_R_enter_33 : decode prog_4_method_5_code 33 = .ok (.getfield 38, 3) := by decide +kernel
theorem d_R_enter_36 : decode prog_4_method_5_code 36 = .ok (.iload_n 3, 1) := by decide +kernel
theorem d_R_enter_37 : decode prog_4_method_5_code 37 = .ok (.iconst 1, 1) := by decide +kernel
theorem d_R_enter_38 : decode prog_4_method_5_code 38 = .ok (.isub, 1) := by decide +kernel
theorem d_R_enter_39 : decode prog_4_method_5_code 39 = .ok (.iaload, 1) := by decide +kernel
theorem d_R_enter_40 : decode prog_4_method_5_code 40 = .ok (.baload, 1) := by decide +kernel
theorem d_R_enter_41 : decode prog_4_method_5_code 41 = .ok (.ifCond .ne 23, 3) := by decide +kernel
theorem d_R_enter_44 : decode prog_4_method_5_code 44 = .ok (.aload_n 0, 1) := by decide +kernel
theorem d_R_enter_45 : decode prog_4_method_5_code 45 = .ok (.getfield 38, 3) := by decide +kernel
theorem d_R_enter_48 : decode prog_4_method_5_code 48 = .ok (.iload_n 3, 1) := by decide +kernel
theorem d_R_enter_49 : decode prog_4_method_5_code 49 = .ok (.aload_n 0, 1) := by decide +kernel
theorem d_R_enter_50 : decode prog_4_method_5_code 50 = .ok (.getfield 38, 3) := by decide +kernel
theorem d_R_enter_53 : decode prog_4_method_5_code 53 = .ok (.iload_n 3, 1) := by decide +kernel
theorem d_R_enter_54 : decode prog_4_method_5_code 54 = .ok (.iconst 1, 1) := by decide +kernel
theorem d_R_enter_55 : decode prog_4_method_5_code 55 = .ok (.isub, 1) := by decide +kernel
theorem d_R_enter_56 : decode prog_4_method_5_code 56 = .ok (.iaload, 1) := by decide +kernel
theorem d_R_enter_57 : decode prog_4_method_5_code 57 = .ok (.iastore, 1) := by decide +kernel
theorem d_R_enter_58 : decode prog_4_method_5_code 58 = .ok (.iinc 3 (-1), 3) := by decide +kernel
theorem d_R_enter_61 : decode prog_4_method_5_code 61 = .ok (.goto (-46), 3) := by decide +kernel
theorem d_R_enter_64 : decode prog_4_method_5_code 64 = .ok (.aload_n 0, 1) := by decide +kernel
theorem d_R_enter_65 : decode prog_4_method_5_code 65 = .ok (.getfield 38, 3) := by decide +kernel
theorem d_R_enter_68 : decode prog_4_method_5_code 68 = .ok (.iload_n 3, 1) := by decide +kernel
theorem d_R_enter_69 : decode prog_4_method_5_code 69 = .ok (.iload_n 1, 1) := by decide +kernel
theorem d_R_enter_70 : decode prog_4_method_5_code 70 = .ok (.iastore, 1) := by decide +kernel
theorem d_R_enter_71 : decode prog_4_method_5_code 71 = .ok (.aload_n 0, 1) := by decide +kernel
theorem d_R_enter_72 : decode prog_4_method_5_code 72 = .ok (.dup, 1) := by decide +kernel
theorem d_R_enter_73 : decode prog_4_method_5_code 73 = .ok (.getfield 48, 3) := by decide +kernel
theorem d_R_enter_76 : decode prog_4_method_5_code 76 = .ok (.iconst 1, 1) := by decide +kernel
theorem d_R_enter_77 : decode prog_4_method_5_code 77 = .ok (.iadd, 1) := by decide +kernel
theorem d_R_enter_78 : decode prog_4_method_5_code 78 = .ok (.putfield 48, 3) := by decide +kernel
theorem d_R_enter_81 : decode prog_4_method_5_code 81 = .ok (.aload_n 0, 1) := by decide +kernel
theorem d_R_enter_82 : decode prog_4_method_5_code 82 = .ok (.getfield 35, 3) := by decide +kernel
theorem d_R_enter_85 : decode prog_4_method_5_code 85 = .ok (.iload_n 1, 1) := by decide +kernel
theorem d_R_enter_86 : decode prog_4_method_5_code 86 = .ok (.iload_n 2, 1) := by decide +kernel
theorem d_R_enter_87 : decode prog_4_method_5_code 87 = .ok (.iastore, 1) := by decide +kernel
theorem d_R_enter_88 : decode prog_4_method_5_code 88 = .ok (.aload_n 0, 1) := by decide +kernel
theorem d_R_enter_89 : decode prog_4_method_5_code 89 = .ok (.getfield 41, 3) := by decide +kernel
theorem d_R_enter_92 : decode prog_4_method_5_code 92 = .ok (.iload_n 1, 1) := by decide +kernel
theorem d_R_enter_93 : decode prog_4_method_5_code 93 = .ok (.aload_n 0, 1) := by decide +kernel
theorem d_R_enter_94 : decode prog_4_method_5_code 94 = .ok (.getfield 52, 3) := by decide +kernel
theorem d_R_enter_97 : decode prog_4_method_5_code 97 = .ok (.iastore, 1) := by decide +kernel
theorem d_R_enter_98 : decode prog_4_method_5_code 98 = .ok (.aload_n 0, 1) := by decide +kernel
theorem d_R_enter_99 : decode prog_4_method_5_code 99 = .ok (.dup, 1) := by decide +kernel
theorem d_R_enter_100 : decode prog_4_method_5_code 100 = .ok (.getfield 52, 3) := by decide +kernel
theorem d_R_enter_103 : decode prog_4_method_5_code 103 = .ok (.iconst 1, 1) := by decide +kernel
theorem d_R_enter_104 : decode prog_4_method_5_code 104 = .ok (.iadd, 1) := by decide +kernel
theorem d_R_enter_105 : decode prog_4_method_5_code 105 = .ok (.putfield 52, 3) := by decide +kernel
theorem d_R_enter_108 : decode prog_4_method_5_code 108 = .ok (.return_, 1) := by decide +kernel
theorem d_R_leave_0 : decode prog_4_method_6_code 0 = .ok (.iconst 0, 1) := by decide +kernel
theorem d_R_leave_1 : decode prog_4_method_6_code 1 = .ok (.istore_n 2, 1) := by decide +kernel
theorem d_R_leave_2 : decode prog_4_method_6_code 2 = .ok (.iconst 0, 1) := by decide +kernel
theorem d_R_leave_3 : decode prog_4_method_6_code 3 = .ok (.istore_n 3, 1) := by decide +kernel
theorem d_R_leave_4 : decode prog_4_method_6_code 4 = .ok (.iload_n 3, 1) := by decide +kernel
theorem d_R_leave_5 : decode prog_4_method_6_code 5 = .ok (.aload_n 0, 1) := by decide +kernel
theorem d_R_leave_6 : decode prog_4_method_6_code 6 = .ok (.getfield 48, 3) := by decide +kernel
theorem d_R_leave_9 : decode prog_4_method_6_code 9 = .ok (.if_icmp .ge 34, 3) := by decide +kernel
theorem d_R_leave_12 : decode prog_4_method_6_code 12 = .ok (.aload_n 0, 1) := by decide +kernel
theorem d_R_leave_13 : decode prog_4_method_6_code 13 = .ok (.getfield 38, 3) := by decide +kernel
theorem d_R_leave_16 : decode prog_4_method_6_code 16 = .ok (.iload_n 3, 1) := by decide +kernel
theorem d_R_leave_17 : decode prog_4_method_6_code 17 = .ok (.iaload, 1) := by decide +kernel
theorem d_R_leave_18 : decode prog_4_method_6_code 18 = .ok (.iload_n 1, 1) := by decide +kernel
theorem d_R_leave_19 : decode prog_4_method_6_code 19 = .ok (.if_icmp .eq 18, 3) := by decide +kernel
theorem d_R_leave_22 : decode prog_4_method_6_code 22 = .ok (.aload_n 0, 1) := by decide +kernel
theorem d_R_leave_23 : decode prog_4_method_6_code 23 = .ok (.getfield 38, 3) := by decide +kernel
theorem d_R_leave_26 : decode prog_4_method_6_code 26 = .ok (.iload_n 2, 1) := by decide +kernel
theorem d_R_leave_27 : decode prog_4_method_6_code 27 = .ok (.aload_n 0, 1) := by decide +kernel
theorem d_R_leave_28 : decode prog_4_method_6_code 28 = .ok (.getfield 38, 3) := by decide +kernel
theorem d_R_leave_31 : decode prog_4_method_6_code 31 = .ok (.iload_n 3, 1) := by decide +kernel
theorem d_R_leave_32 : decode prog_4_method_6_code 32 = .ok (.iaload, 1) := by decide +kernel
theorem d_R_leave_33 : decode prog_4_method_6_code 33 = .ok (.iastore, 1) := by decide +kernel
theorem d_R_leave_34 : decode prog_4_method_6_code 34 = .ok (.iinc 2 1, 3) := by decide +kernel
theorem d_R_leave_37 : decode prog_4_method_6_code 37 = .ok (.iinc 3 1, 3) := by decide +kernel
theorem d_R_leave_40 : decode prog_4_method_6_code 40 = .ok (.goto (-36), 3) := by decide +kernel
theorem d_R_leave_43 : decode prog_4_method_6_code 43 = .ok (.aload_n 0, 1) := by decide +kernel
theorem d_R_leave_44 : decode prog_4_method_6_code 44 = .ok (.iload_n 2, 1) := by decide +kernel
theorem d_R_leave_45 : decode prog_4_method_6_code 45 = .ok (.putfield 48, 3) := by decide +kernel
theorem d_R_leave_48 : decode prog_4_method_6_code 48 = .ok (.return_, 1) := by decide +kernel
theorem d_R_meet_0 : decode prog_4_method_9_code 0 = .ok (.aload_n 0, 1) := by decide +kernel
theorem d_R_meet_1 : decode prog_4_method_9_code 1 = .ok (.getfield 9, 3) := by decide +kernel
theorem d_R_meet_4 : decode prog_4_method_9_code 4 = .ok (.iload_n 1, 1) := by decide +kernel
theorem d_R_meet_5 : decode prog_4_method_9_code 5 = .ok (.iaload, 1) := by decide +kernel
theorem d_R_meet_6 : decode prog_4_method_9_code 6 = .ok (.aload_n 0, 1) := by decide +kernel
theorem d_R_meet_7 : decode prog_4_method_9_code 7 = .ok (.getfield 9, 3) := by decide +kernel
theorem d_R_meet_10 : decode prog_4_method_9_code 10 = .ok (.iload_n 2, 1) := by decide +kernel
theorem d_R_meet_11 : decode prog_4_method_9_code 11 = .ok (.iaload, 1) := by decide +kernel
theorem d_R_meet_12 : decode prog_4_method_9_code 12 = .ok (.if_icmp .ne 18, 3) := by decide +kernel
theorem d_R_meet_15 : decode prog_4_method_9_code 15 = .ok (.aload_n 0, 1) := by decide +kernel
theorem d_R_meet_16 : decode prog_4_method_9_code 16 = .ok (.getfield 15, 3) := by decide +kernel
theorem d_R_meet_19 : decode prog_4_method_9_code 19 = .ok (.iload_n 1, 1) := by decide +kernel
theorem d_R_meet_20 : decode prog_4_method_9_code 20 = .ok (.baload, 1) := by decide +kernel
theorem d_R_meet_21 : decode prog_4_method_9_code 21 = .ok (.aload_n 0, 1) := by decide +kernel
theorem d_R_meet_22 : decode prog_4_method_9_code 22 = .ok (.getfield 15, 3) := by decide +kernel
theorem d_R_meet_25 : decode prog_4_method_9_code 25 = .ok (.iload_n 2, 1) := by decide +kernel
theorem d_R_meet_26 : decode prog_4_method_9_code 26 = .ok (.baload, 1) := by decide +kernel
theorem d_R_meet_27 : decode prog_4_method_9_code 27 = .ok (.if_icmp .eq 5, 3) := by decide +kernel
theorem d_R_meet_30 : decode prog_4_method_9_code 30 = .ok (.iconst 0, 1) := by decide +kernel
theorem d_R_meet_31 : decode prog_4_method_9_code 31 = .ok (.ireturn, 1) := by decide +kernel
theorem d_R_meet_32 : decode prog_4_method_9_code 32 = .ok (.aload_n 0, 1) := by decide +kernel
theorem d_R_meet_33 : decode prog_4_method_9_code 33 = .ok (.getfield 15, 3) := by decide +kernel
theorem d_R_meet_36 : decode prog_4_method_9_code 36 = .ok (.iload_n 1, 1) := by decide +kernel
theorem d_R_meet_37 : decode prog_4_method_9_code 37 = .ok (.baload, 1) := by decide +kernel
theorem d_R_meet_38 : decode prog_4_method_9_code 38 = .ok (.ifCond .eq 35, 3) := by decide +kernel
theorem d_R_meet_41 : decode prog_4_method_9_code 41 = .ok (.aload_n 0, 1) := by decide +kernel
theorem d_R_meet_42 : decode prog_4_method_9_code 42 = .ok (.getfield 19, 3) := by decide +kernel
theorem d_R_meet_45 : decode prog_4_method_9_code 45 = .ok (.iload_n 1, 1) := by decide +kernel
theorem d_R_meet_46 : decode prog_4_method_9_code 46 = .ok (.laload, 1) := by decide +kernel
theorem d_R_meet_47 : decode prog_4_method_9_code 47 = .ok (.aload_n 0, 1) := by decide +kernel
theorem d_R_meet_48 : decode prog_4_method_9_code 48 = .ok (.getfield 23, 3) := by decide +kernel
theorem d_R_meet_51 : decode prog_4_method_9_code 51 = .ok (.iload_n 2, 1) := by decide +kernel
theorem d_R_meet_52 : decode prog_4_method_9_code 52 = .ok (.laload, 1) := by decide +kernel
theorem d_R_meet_53 : decode prog_4_method_9_code 53 = .ok (.lcmp, 1) := by decide +kernel
theorem d_R_meet_54 : decode prog_4_method_9_code 54 = .ok (.ifCond .gt 23, 3) := by decide +kernel
theorem d_R_meet_57 : decode prog_4_method_9_code 57 = .ok (.aload_n 0, 1) := by decide +kernel
theorem d_R_meet_58 : decode prog_4_method_9_code 58 = .ok (.getfield 19, 3) := by decide +kernel
theorem d_R_meet_61 : decode prog_4_method_9_code 61 = .ok (.iload_n 2, 1) := by decide +kernel
theorem d_R_meet_62 : decode prog_4_method_9_code 62 = .ok (.laload, 1) := by decide +kernel
theorem d_R_meet_63 : decode prog_4_method_9_code 63 = .ok (.aload_n 0, 1) := by decide +kernel
theorem d_R_meet_64 : decode prog_4_method_9_code 64 = .ok (.getfield 23, 3) := by decide +kernel
theorem d_R_meet_67 : decode prog_4_method_9_code 67 = .ok (.iload_n 1, 1) := by decide +kernel
theorem d_R_meet_68 : decode prog_4_method_9_code 68 = .ok (.laload, 1) := by decide +kernel
theorem d_R_meet_69 : decode prog_4_method_9_code 69 = .ok (.lcmp, 1) := by decide +kernel
theorem d_R_meet_70 : decode prog_4_method_9_code 70 = .ok (.ifCond .gt 7, 3) := by decide +kernel
theorem d_R_meet_73 : decode prog_4_method_9_code 73 = .ok (.iconst 1, 1) := by decide +kernel
theorem d_R_meet_74 : decode prog_4_method_9_code 74 = .ok (.goto 4, 3) := by decide +kernel
theorem d_R_meet_77 : decode prog_4_method_9_code 77 = .ok (.iconst 0, 1) := by decide +kernel
theorem d_R_meet_78 : decode prog_4_method_9_code 78 = .ok (.ireturn, 1) := by decide +kernel
theorem d_R_againstBefore_0 : decode prog_4_method_7_code 0 = .ok (.iconst 0, 1) := by decide +kernel
theorem d_R_againstBefore_1 : decode prog_4_method_7_code 1 = .ok (.istore_n 2, 1) := by decide +kernel
theorem d_R_againstBefore_2 : decode prog_4_method_7_code 2 = .ok (.iconst 0, 1) := by decide +kernel
theorem d_R_againstBefore_3 : decode prog_4_method_7_code 3 = .ok (.istore_n 3, 1) := by decide +kernel
theorem d_R_againstBefore_4 : decode prog_4_method_7_code 4 = .ok (.iload_n 3, 1) := by decide +kernel
theorem d_R_againstBefore_5 : decode prog_4_method_7_code 5 = .ok (.aload_n 0, 1) := by decide +kernel
theorem d_R_againstBefore_6 : decode prog_4_method_7_code 6 = .ok (.getfield 48, 3) := by decide +kernel
theorem d_R_againstBefore_9 : decode prog_4_method_7_code 9 = .ok (.if_icmp .ge 63, 3) := by decide +kernel
theorem d_R_againstBefore_12 : decode prog_4_method_7_code 12 = .ok (.aload_n 0, 1) := by decide +kernel
theorem d_R_againstBefore_13 : decode prog_4_method_7_code 13 = .ok (.getfield 38, 3) := by decide +kernel
theorem d_R_againstBefore_16 : decode prog_4_method_7_code 16 = .ok (.iload_n 3, 1) := by decide +kernel
theorem d_R_againstBefore_17 : decode prog_4_method_7_code 17 = .ok (.iaload, 1) := by decide +kernel
theorem d_R_againstBefore_18 : decode prog_4_method_7_code 18 = .ok (.iload_n 1, 1) := by decide +kernel
theorem d_R_againstBefore_19 : decode prog_4_method_7_code 19 = .ok (.if_icmp .eq 53, 3) := by decide +kernel
theorem d_R_againstBefore_22 : decode prog_4_method_7_code 22 = .ok (.aload_n 0, 1) := by decide +kernel
theorem d_R_againstBefore_23 : decode prog_4_method_7_code 23 = .ok (.getfield 38, 3) := by decide +kernel
theorem d_R_againstBefore_26 : decode prog_4_method_7_code 26 = .ok (.iload_n 3, 1) := by decide +kernel
theorem d_R_againstBefore_27 : decode prog_4_method_7_code 27 = .ok (.iaload, 1) := by decide +kernel
theorem d_R_againstBefore_28 : decode prog_4_method_7_code 28 = .ok (.istore 4, 2) := by decide +kernel
theorem d_R_againstBefore_30 : decode prog_4_method_7_code 30 = .ok (.aload_n 0, 1) := by decide +kernel
theorem d_R_againstBefore_31 : decode prog_4_method_7_code 31 = .ok (.iload_n 1, 1) := by decide +kernel
theorem d_R_againstBefore_32 : decode prog_4_method_7_code 32 = .ok (.iload 4, 2) := by decide +kernel
theorem d_R_againstBefore_34 : decode prog_4_method_7_code 34 = .ok (.invokevirtual 55, 3) := by decide +kernel
theorem d_R_againstBefore_37 : decode prog_4_method_7_code 37 = .ok (.ifCond .eq 29, 3) := by decide +kernel
theorem d_R_againstBefore_40 : decode prog_4_method_7_code 40 = .ok (.aload_n 0, 1) := by decide +kernel
theorem d_R_againstBefore_41 : decode prog_4_method_7_code 41 = .ok (.getfield 26, 3) := by decide +kernel
theorem d_R_againstBefore_44 : decode prog_4_method_7_code 44 = .ok (.iload_n 1, 1) := by decide +kernel
theorem d_R_againstBefore_45 : decode prog_4_method_7_code 45 = .ok (.iaload, 1) := by decide +kernel
theorem d_R_againstBefore_46 : decode prog_4_method_7_code 46 = .ok (.aload_n 0, 1) := by decide +kernel
theorem d_R_againstBefore_47 : decode prog_4_method_7_code 47 = .ok (.getfield 26, 3) := by decide +kernel
theorem d_R_againstBefore_50 : decode prog_4_method_7_code 50 = .ok (.iload 4, 2) := by decide +kernel
theorem d_R_againstBefore_52 : decode prog_4_method_7_code 52 = .ok (.iaload, 1) := by decide +kernel
theorem d_R_againstBefore_53 : decode prog_4_method_7_code 53 = .ok (.invokestatic 59, 3) := by decide +kernel
theorem d_R_againstBefore_56 : decode prog_4_method_7_code 56 = .ok (.ifCond .ne 10, 3) := by decide +kernel
theorem d_R_againstBefore_59 : decode prog_4_method_7_code 59 = .ok (.iload_n 2, 1) := by decide +kernel
theorem d_R_againstBefore_60 : decode prog_4_method_7_code 60 = .ok (.iconst 1, 1) := by decide +kernel
theorem d_R_againstBefore_61 : decode prog_4_method_7_code 61 = .ok (.iload 4, 2) := by decide +kernel
theorem d_R_againstBefore_63 : decode prog_4_method_7_code 63 = .ok (.ishl, 1) := by decide +kernel
theorem d_R_againstBefore_64 : decode prog_4_method_7_code 64 = .ok (.ior, 1) := by decide +kernel
theorem d_R_againstBefore_65 : decode prog_4_method_7_code 65 = .ok (.istore_n 2, 1) := by decide +kernel
theorem d_R_againstBefore_66 : decode prog_4_method_7_code 66 = .ok (.iinc 3 1, 3) := by decide +kernel
theorem d_R_againstBefore_69 : decode prog_4_method_7_code 69 = .ok (.goto (-65), 3) := by decide +kernel
theorem d_R_againstBefore_72 : decode prog_4_method_7_code 72 = .ok (.iload_n 2, 1) := by decide +kernel
theorem d_R_againstBefore_73 : decode prog_4_method_7_code 73 = .ok (.ireturn, 1) := by decide +kernel
theorem d_R_firstOverdue_0 : decode prog_4_method_8_code 0 = .ok (.iconst (-1), 1) := by decide +kernel
theorem d_R_firstOverdue_1 : decode prog_4_method_8_code 1 = .ok (.istore_n 3, 1) := by decide +kernel
theorem d_R_firstOverdue_2 : decode prog_4_method_8_code 2 = .ok (.iconst 0, 1) := by decide +kernel
theorem d_R_firstOverdue_3 : decode prog_4_method_8_code 3 = .ok (.istore 4, 2) := by decide +kernel
theorem d_R_firstOverdue_5 : decode prog_4_method_8_code 5 = .ok (.iload 4, 2) := by decide +kernel
theorem d_R_firstOverdue_7 : decode prog_4_method_8_code 7 = .ok (.aload_n 0, 1) := by decide +kernel
theorem d_R_firstOverdue_8 : decode prog_4_method_8_code 8 = .ok (.getfield 48, 3) := by decide +kernel
theorem d_R_firstOverdue_11 : decode prog_4_method_8_code 11 = .ok (.if_icmp .ge 67, 3) := by decide +kernel
theorem d_R_firstOverdue_14 : decode prog_4_method_8_code 14 = .ok (.aload_n 0, 1) := by decide +kernel
theorem d_R_firstOverdue_15 : decode prog_4_method_8_code 15 = .ok (.getfield 38, 3) := by decide +kernel
theorem d_R_firstOverdue_18 : decode prog_4_method_8_code 18 = .ok (.iload 4, 2) := by decide +kernel
theorem d_R_firstOverdue_20 : decode prog_4_method_8_code 20 = .ok (.iaload, 1) := by decide +kernel
theorem d_R_firstOverdue_21 : decode prog_4_method_8_code 21 = .ok (.istore 5, 2) := by decide +kernel
theorem d_R_firstOverdue_23 : decode prog_4_method_8_code 23 = .ok (.iload_n 1, 1) := by decide +kernel
theorem d_R_firstOverdue_24 : decode prog_4_method_8_code 24 = .ok (.aload_n 0, 1) := by decide +kernel
theorem d_R_firstOverdue_25 : decode prog_4_method_8_code 25 = .ok (.getfield 35, 3) := by decide +kernel
theorem d_R_firstOverdue_28 : decode prog_4_method_8_code 28 = .ok (.iload 5, 2) := by decide +kernel
theorem d_R_firstOverdue_30 : decode prog_4_method_8_code 30 = .ok (.iaload, 1) := by decide +kernel
theorem d_R_firstOverdue_31 : decode prog_4_method_8_code 31 = .ok (.isub, 1) := by decide +kernel
theorem d_R_firstOverdue_32 : decode prog_4_method_8_code 32 = .ok (.iload_n 2, 1) := by decide +kernel
theorem d_R_firstOverdue_33 : decode prog_4_method_8_code 33 = .ok (.if_icmp .lt 7, 3) := by decide +kernel
theorem d_R_firstOverdue_36 : decode prog_4_method_8_code 36 = .ok (.iconst 1, 1) := by decide +kernel
theorem d_R_firstOverdue_37 : decode prog_4_method_8_code 37 = .ok (.goto 4, 3) := by decide +kernel
theorem d_R_firstOverdue_40 : decode prog_4_method_8_code 40 = .ok (.iconst 0, 1) := by decide +kernel
theorem d_R_firstOverdue_41 : decode prog_4_method_8_code 41 = .ok (.istore 6, 2) := by decide +kernel
theorem d_R_firstOverdue_43 : decode prog_4_method_8_code 43 = .ok (.iload 6, 2) := by decide +kernel
theorem d_R_firstOverdue_45 : decode prog_4_method_8_code 45 = .ok (.ifCond .eq 27, 3) := by decide +kernel
theorem d_R_firstOverdue_48 : decode prog_4_method_8_code 48 = .ok (.iload_n 3, 1) := by decide +kernel
theorem d_R_firstOverdue_49 : decode prog_4_method_8_code 49 = .ok (.iconst (-1), 1) := by decide +kernel
theorem d_R_firstOverdue_50 : decode prog_4_method_8_code 50 = .ok (.if_icmp .eq 19, 3) := by decide +kernel
theorem d_R_firstOverdue_53 : decode prog_4_method_8_code 53 = .ok (.aload_n 0, 1) := by decide +kernel
theorem d_R_firstOverdue_54 : decode prog_4_method_8_code 54 = .ok (.getfield 41, 3) := by decide +kernel
theorem d_R_firstOverdue_57 : decode prog_4_method_8_code 57 = .ok (.iload 5, 2) := by decide +kernel
theorem d_R_firstOverdue_59 : decode prog_4_method_8_code 59 = .ok (.iaload, 1) := by decide +kernel
theorem d_R_firstOverdue_60 : decode prog_4_method_8_code 60 = .ok (.aload_n 0, 1) := by decide +kernel
theorem d_R_firstOverdue_61 : decode prog_4_method_8_code 61 = .ok (.getfield 41, 3) := by decide +kernel
theorem d_R_firstOverdue_64 : decode prog_4_method_8_code 64 = .ok (.iload_n 3, 1) := by decide +kernel
theorem d_R_firstOverdue_65 : decode prog_4_method_8_code 65 = .ok (.iaload, 1) := by decide +kernel
theorem d_R_firstOverdue_66 : decode prog_4_method_8_code 66 = .ok (.if_icmp .ge 6, 3) := by decide +kernel
theorem d_R_firstOverdue_69 : decode prog_4_method_8_code 69 = .ok (.iload 5, 2) := by decide +kernel
theorem d_R_firstOverdue_71 : decode prog_4_method_8_code 71 = .ok (.istore_n 3, 1) := by decide +kernel
theorem d_R_firstOverdue_72 : decode prog_4_method_8_code 72 = .ok (.iinc 4 1, 3) := by decide +kernel
theorem d_R_firstOverdue_75 : decode prog_4_method_8_code 75 = .ok (.goto (-70), 3) := by decide +kernel
theorem d_R_firstOverdue_78 : decode prog_4_method_8_code 78 = .ok (.iload_n 3, 1) := by decide +kernel
theorem d_R_firstOverdue_79 : decode prog_4_method_8_code 79 = .ok (.ireturn, 1) := by decide +kernel
def F_R_setTable (rta : Nat → Int32) (ron : Nat → Int32) (rmo : Nat → Int32) (rin : Nat → Int32) (res : Nat → Int32) (a1 : Int32) (a2 : Int32) (a3 : Int32) (a4 : Int32) : Option ((Nat → Int32) × (Nat → Int32) × (Nat → Int32) × (Nat → Int32) × (Nat → Int32)) :=
  gd (a1 < 0 ∨ 8 ≤ a1.toNatClampNeg) (gd (a1 < 0 ∨ 8 ≤ a1.toNatClampNeg) (gd (a1 < 0 ∨ 8 ≤ a1.toNatClampNeg) (gd (a1 < 0 ∨ 8 ≤ a1.toNatClampNeg) (gd (a1 < 0 ∨ 8 ≤ a1.toNatClampNeg) (some (upd rta a1.toNatClampNeg a2, upd ron a1.toNatClampNeg (vp_nar .boolean 0), upd rmo a1.toNatClampNeg a3, upd rin a1.toNatClampNeg (vp_nar .boolean a4), upd res a1.toNatClampNeg (vp_nar .boolean 0)))))))
set_option maxHeartbeats 4000000 in
set_option maxRecDepth 100000 in
theorem t_R_setTable {p : Program} {l : Launch} {e : Env} {s : State} {m : MethodId} {args : Array Value} {below : List Frame} {meth : Method} {c : Code} {A : Nat → Prop} {g : va_G} {cI cJ cZ : ClassId} {ad : Nat → Nat} {rest : va_W} (K : kX p s m args meth c "LockTable$Requests" prog_4_method_2_code 5 none A g (kty cI cJ cZ)) (xst : Nat → Int32) (xse : Nat → Int32) (xre : Nat → Int32) (xgr : Nat → Int32) (ltm : Nat → Int32) (low : Nat → Int32) (lta : Nat → Int32) (llo : Nat → Int64) (lhi : Nat → Int64) (lmo : Nat → Int32) (rta : Nat → Int32) (ron : Nat → Int32) (rlo : Nat → Int64) (rhi : Nat → Int64) (rmo : Nat → Int32) (rin : Nat → Int32) (res : Nat → Int32) (rsi : Nat → Int32) (rli : Nat → Int32) (rar : Nat → Int32) (xgc : Int32) (xca : Int32) (xls : Int32) (xtl : Int32) (xno : Int32) (lco : Int32) (rwa : Int32) (rad : Int32) (a1 : Int32) (a2 : Int32) (a3 : Int32) (a4 : Int32) (o_rta : Nat → Int32) (o_ron : Nat → Int32) (o_rmo : Nat → Int32) (o_rin : Nat → Int32) (o_res : Nat → Int32) (hF : F_R_setTable rta ron rmo rin res a1 a2 a3 a4 = some (o_rta, o_ron, o_rmo, o_rin, o_res)) {H : Heap} {locs : List Loc} {ls : Array Slot} (hP : va_P g kcl (wC cI cJ cZ ad xst xse xre xgr ltm low lta llo lhi lmo rta ron rlo rhi rmo rin res rsi rli rar xgc xca xls xtl xno lco rwa rad rest) H) (hD : va_D A (wC cI cJ cZ ad xst xse xre xgr ltm low lta llo lhi lmo rta ron rlo rhi rmo rin res rsi rli rar xgc xca xls xtl xno lco rwa rad rest)) (hS : va_S A s.heap H locs) (hl : lv_has ls 5 [(0, .ref (ad 2)), (1, .int a1), (2, .int a2), (3, .int a3), (4, .int a4)]) : W p l e ({ frames := 0, cells := 0, slots := 0, locals := 0 }) s m args below meth c H locs 0 0 (MQ below (kQv g (kty cI cJ cZ) (wC cI cJ cZ ad xst xse xre xgr ltm low lta llo lhi lmo o_rta o_ron rlo rhi o_rmo o_rin o_res rsi rli rar xgc xca xls xtl xno lco rwa rad rest) A) args s 0 0 A) (F0 m 0 ls []) := by
  obtain ⟨hx, hb, hr, hml, hown, hts, hlocks, hK, hA, hE⟩ := id K
  unfold F_R_setTable at hF
  refine lv_aload_n hx hb d_R_setTable_0 rfl (lv_at hl 0 rfl) ?_
  refine va_get (D := g) (ci := 1) (v := .ref (ad 13)) (C := kR1) (T := kT1) (N := 12) hx hb hts kw1 hown hK hP 2 rfl rfl 0 (by decide) (hts _ wm_108) (fun _ h9 => h9) rfl d_R_setTable_1 ?_
  refine lv_iload_n hx hb d_R_setTable_4 rfl (lv_at hl 1 rfl) ?_
  refine lv_iload_n hx hb d_R_setTable_5 rfl (lv_at hl 2 rfl) ?_
  obtain ⟨hg_1, hF⟩ := gd_inv hF
  refine va_iast hx hb hK hP hD hS 13 0 rfl rfl hg_1 d_R_setTable_6 (fun H locs hP hD hS => ?_)
  have hP : va_P g kcl (wC cI cJ cZ ad xst xse xre xgr ltm low lta llo lhi lmo (upd rta a1.toNatClampNeg a2) ron rlo rhi rmo rin res rsi rli rar xgc xca xls xtl xno lco rwa rad rest) H := hP
  have hD : va_D A (wC cI cJ cZ ad xst xse xre xgr ltm low lta llo lhi lmo (upd rta a1.toNatClampNeg a2) ron rlo rhi rmo rin res rsi rli rar xgc xca xls xtl xno lco rwa rad rest) := hD
  refine lv_aload_n hx hb d_R_setTable_7 rfl (lv_at hl 0 rfl) ?_
  refine va_get (D := g) (ci := 1) (v := .ref (ad 14)) (C := kR1) (T := kT1) (N := 12) hx hb hts kw1 hown hK hP 2 rfl rfl 1 (by decide) (hts _ wm_110) (fun _ h9 => h9) rfl d_R_setTable_8 ?_
  refine lv_iload_n hx hb d_R_setTable_11 rfl (lv_at hl 1 rfl) ?_
  refine lv_iconst (v := 0) hx hb d_R_setTable_12 (by decide) ?_
  obtain ⟨hg_2, hF⟩ := gd_inv hF
  refine va_zast hx hb hK hP hD hS 14 2 rfl rfl hg_2 d_R_setTable_13 (fun H locs hP hD hS => ?_)
  have hP : va_P g kcl (wC cI cJ cZ ad xst xse xre xgr ltm low lta llo lhi lmo (upd rta a1.toNatClampNeg a2) (upd ron a1.toNatClampNeg (vp_nar .boolean 0)) rlo rhi rmo rin res rsi rli rar xgc xca xls xtl xno lco rwa rad rest) H := hP
  have hD : va_D A (wC cI cJ cZ ad xst xse xre xgr ltm low lta llo lhi lmo (upd rta a1.toNatClampNeg a2) (upd ron a1.toNatClampNeg (vp_nar .boolean 0)) rlo rhi rmo rin res rsi rli rar xgc xca xls xtl xno lco rwa rad rest) := hD
  refine lv_aload_n hx hb d_R_setTable_14 rfl (lv_at hl 0 rfl) ?_
  refine va_get (D := g) (ci := 1) (v := .ref (ad 17)) (C := kR1) (T := kT1) (N := 12) hx hb hts kw1 hown hK hP 2 rfl rfl 4 (by decide) (hts _ wm_116) (fun _ h9 => h9) rfl d_R_setTable_15 ?_
  refine lv_iload_n hx hb d_R_setTable_18 rfl (lv_at hl 1 rfl) ?_
  refine lv_iload_n hx hb d_R_setTable_19 rfl (lv_at hl 3 rfl) ?_
  obtain ⟨hg_3, hF⟩ := gd_inv hF
  refine va_iast hx hb hK hP hD hS 17 0 rfl rfl hg_3 d_R_setTable_20 (fun H locs hP hD hS => ?_)
  have hP : va_P g kcl (wC cI cJ cZ ad xst xse xre xgr ltm low lta llo lhi lmo (upd rta a1.toNatClampNeg a2) (upd ron a1.toNatClampNeg (vp_nar .boolean 0)) rlo rhi (upd rmo a1.toNatClampNeg a3) rin res rsi rli rar xgc xca xls xtl xno lco rwa rad rest) H := hP
  have hD : va_D A (wC cI cJ cZ ad xst xse xre xgr ltm low lta llo lhi lmo (upd rta a1.toNatClampNeg a2) (upd ron a1.toNatClampNeg (vp_nar .boolean 0)) rlo rhi (upd rmo a1.toNatClampNeg a3) rin res rsi rli rar xgc xca xls xtl xno lco rwa rad rest) := hD
  refine lv_aload_n hx hb d_R_setTable_21 rfl (lv_at hl 0 rfl) ?_
  refine va_get (D := g) (ci := 1) (v := .ref (ad 18)) (C := kR1) (T := kT1) (N := 12) hx hb hts kw1 hown hK hP 2 rfl rfl 5 (by decide) (hts _ wm_118) (fun _ h9 => h9) rfl d_R_setTable_22 ?_
  refine lv_iload_n hx hb d_R_setTable_25 rfl (lv_at hl 1 rfl) ?_
  refine lv_iload hx hb d_R_setTable_26 (lv_at hl 4 rfl) ?_
  obtain ⟨hg_4, hF⟩ := gd_inv hF
  refine va_zast hx hb hK hP hD hS 18 2 rfl rfl hg_4 d_R_setTable_28 (fun H locs hP hD hS => ?_)
  have hP : va_P g kcl (wC cI cJ cZ ad xst xse xre xgr ltm low lta llo lhi lmo (upd rta a1.toNatClampNeg a2) (upd ron a1.toNatClampNeg (vp_nar .boolean 0)) rlo rhi (upd rmo a1.toNatClampNeg a3) (upd rin a1.toNatClampNeg (vp_nar .boolean a4)) res rsi rli rar xgc xca xls xtl xno lco rwa rad rest) H := hP
  have hD : va_D A (wC cI cJ cZ ad xst xse xre xgr ltm low lta llo lhi lmo (upd rta a1.toNatClampNeg a2) (upd ron a1.toNatClampNeg (vp_nar .boolean 0)) rlo rhi (upd rmo a1.toNatClampNeg a3) (upd rin a1.toNatClampNeg (vp_nar .boolean a4)) res rsi rli rar xgc xca xls xtl xno lco rwa rad rest) := hD
  refine lv_aload_n hx hb d_R_setTable_29 rfl (lv_at hl 0 rfl) ?_
  refine va_get (D := g) (ci := 1) (v := .ref (ad 19)) (C := kR1) (T := kT1) (N := 12) hx hb hts kw1 hown hK hP 2 rfl rfl 6 (by decide) (hts _ wm_120) (fun _ h9 => h9) rfl d_R_setTable_30 ?_
  refine lv_iload_n hx hb d_R_setTable_33 rfl (lv_at hl 1 rfl) ?_
  refine lv_iconst (v := 0) hx hb d_R_setTable_34 (by decide) ?_
  obtain ⟨hg_5, hF⟩ := gd_inv hF
  refine va_zast hx hb hK hP hD hS 19 2 rfl rfl hg_5 d_R_setTable_35 (fun H locs hP hD hS => ?_)
  have hP : va_P g kcl (wC cI cJ cZ ad xst xse xre xgr ltm low lta llo lhi lmo (upd rta a1.toNatClampNeg a2) (upd ron a1.toNatClampNeg (vp_nar .boolean 0)) rlo rhi (upd rmo a1.toNatClampNeg a3) (upd rin a1.toNatClampNeg (vp_nar .boolean a4)) (upd res a1.toNatClampNeg (vp_nar .boolean 0)) rsi rli rar xgc xca xls xtl xno lco rwa rad rest) H := hP
  have hD : va_D A (wC cI cJ cZ ad xst xse xre xgr ltm low lta llo lhi lmo (upd rta a1.toNatClampNeg a2) (upd ron a1.toNatClampNeg (vp_nar .boolean 0)) rlo rhi (upd rmo a1.toNatClampNeg a3) (upd rin a1.toNatClampNeg (vp_nar .boolean a4)) (upd res a1.toNatClampNeg (vp_nar .boolean 0)) rsi rli rar xgc xca xls xtl xno lco rwa rad rest) := hD
  cases hF
  exact krv K hP hD hS d_R_setTable_36
theorem c_R_setTable (l : Launch) (g : va_G) (cI cJ cZ : ClassId) (ad : Nat → Nat) (xst : Nat → Int32) (xse : Nat → Int32) (xre : Nat → Int32) (xgr : Nat → Int32) (ltm : Nat → Int32) (low : Nat → Int32) (lta : Nat → Int32) (llo : Nat → Int64) (lhi : Nat → Int64) (lmo : Nat → Int32) (rta : Nat → Int32) (ron : Nat → Int32) (rlo : Nat → Int64) (rhi : Nat → Int64) (rmo : Nat → Int32) (rin : Nat → Int32) (res : Nat → Int32) (rsi : Nat → Int32) (rli : Nat → Int32) (rar : Nat → Int32) (xgc : Int32) (xca : Int32) (xls : Int32) (xtl : Int32) (xno : Int32) (lco : Int32) (rwa : Int32) (rad : Int32) (rest : va_W) (a1 : Int32) (a2 : Int32) (a3 : Int32) (a4 : Int32) (o_rta : Nat → Int32) (o_ron : Nat → Int32) (o_rmo : Nat → Int32) (o_rin : Nat → Int32) (o_res : Nat → Int32) (hF : F_R_setTable rta ron rmo rin res a1 a2 a3 a4 = some (o_rta, o_ron, o_rmo, o_rin, o_res)) : Cv l y_R_setTable prog_4_method_2_code 5 ({ frames := 0, cells := 0, slots := 0, locals := 0 }) [.ref (ad 2), .int a1, .int a2, .int a3, .int a4] g (kty cI cJ cZ) (wC cI cJ cZ ad xst xse xre xgr ltm low lta llo lhi lmo rta ron rlo rhi rmo rin res rsi rli rar xgc xca xls xtl xno lco rwa rad rest) (wC cI cJ cZ ad xst xse xre xgr ltm low lta llo lhi lmo o_rta o_ron rlo rhi o_rmo o_rin o_res rsi rli rar xgc xca xls xtl xno lco rwa rad rest) :=
  Cv.of (by decide) (Nat.le_of_ble_eq_true rfl) (fun p e s m below meth c A ls K hP hD hS hl => t_R_setTable K xst xse xre xgr ltm low lta llo lhi lmo rta ron rlo rhi rmo rin res rsi rli rar xgc xca xls xtl xno lco rwa rad a1 a2 a3 a4 o_rta o_ron o_rmo o_rin o_res hF hP hD hS hl)
def F_R_setEscalation (rta : Nat → Int32) (ron : Nat → Int32) (rmo : Nat → Int32) (rin : Nat → Int32) (res : Nat → Int32) (a1 : Int32) (a2 : Int32) (a3 : Int32) : Option ((Nat → Int32) × (Nat → Int32) × (Nat → Int32) × (Nat → Int32) × (Nat → Int32)) :=
  ob5 (F_R_setTable rta ron rmo rin res a1 a2 a3 1) (fun rta_1 ron_2 rmo_3 rin_4 res_5 => gd (a1 < 0 ∨ 8 ≤ a1.toNatClampNeg) (some (rta_1, ron_2, rmo_3, rin_4, upd res_5 a1.toNatClampNeg (vp_nar .boolean 1))))
set_option maxHeartbeats 4000000 in
set_option maxRecDepth 100000 in
theorem t_R_setEscalation {p : Program} {l : Launch} {e : Env} {s : State} {m : MethodId} {args : Array Value} {below : List Frame} {meth : Method} {c : Code} {A : Nat → Prop} {g : va_G} {cI cJ cZ : ClassId} {ad : Nat → Nat} {rest : va_W} (K : kX p s m args meth c "LockTable$Requests" prog_4_method_3_code 4 none A g (kty cI cJ cZ)) (xst : Nat → Int32) (xse : Nat → Int32) (xre : Nat → Int32) (xgr : Nat → Int32) (ltm : Nat → Int32) (low : Nat → Int32) (lta : Nat → Int32) (llo : Nat → Int64) (lhi : Nat → Int64) (lmo : Nat → Int32) (rta : Nat → Int32) (ron : Nat → Int32) (rlo : Nat → Int64) (rhi : Nat → Int64) (rmo : Nat → Int32) (rin : Nat → Int32) (res : Nat → Int32) (rsi : Nat → Int32) (rli : Nat → Int32) (rar : Nat → Int32) (xgc : Int32) (xca : Int32) (xls : Int32) (xtl : Int32) (xno : Int32) (lco : Int32) (rwa : Int32) (rad : Int32) (a1 : Int32) (a2 : Int32) (a3 : Int32) (o_rta : Nat → Int32) (o_ron : Nat → Int32) (o_rmo : Nat → Int32) (o_rin : Nat → Int32) (o_res : Nat → Int32) (hF : F_R_setEscalation rta ron rmo rin res a1 a2 a3 = some (o_rta, o_ron, o_rmo, o_rin, o_res)) {H : Heap} {locs : List Loc} {ls : Array Slot} (hP : va_P g kcl (wC cI cJ cZ ad xst xse xre xgr ltm low lta llo lhi lmo rta ron rlo rhi rmo rin res rsi rli rar xgc xca xls xtl xno lco rwa rad rest) H) (hD : va_D A (wC cI cJ cZ ad xst xse xre xgr ltm low lta llo lhi lmo rta ron rlo rhi rmo rin res rsi rli rar xgc xca xls xtl xno lco rwa rad rest)) (hS : va_S A s.heap H locs) (hl : lv_has ls 4 [(0, .ref (ad 2)), (1, .int a1), (2, .int a2), (3, .int a3)]) : W p l e ({ frames := 1, cells := 0, slots := 0, locals := 24 }) s m args below meth c H locs 0 0 (MQ below (kQv g (kty cI cJ cZ) (wC cI cJ cZ ad xst xse xre xgr ltm low lta llo lhi lmo o_rta o_ron rlo rhi o_rmo o_rin o_res rsi rli rar xgc xca xls xtl xno lco rwa rad rest) A) args s 0 0 A) (F0 m 0 ls []) := by
  obtain ⟨hx, hb, hr, hml, hown, hts, hlocks, hK, hA, hE⟩ := id K
  unfold F_R_setEscalation at hF
  refine lv_aload_n hx hb d_R_setEscalation_0 rfl (lv_at hl 0 rfl) ?_
  refine lv_iload_n hx hb d_R_setEscalation_1 rfl (lv_at hl 1 rfl) ?_
  refine lv_iload_n hx hb d_R_setEscalation_2 rfl (lv_at hl 2 rfl) ?_
  refine lv_iload_n hx hb d_R_setEscalation_3 rfl (lv_at hl 3 rfl) ?_
  refine lv_iconst (v := 1) hx hb d_R_setEscalation_4 (by decide) ?_
  obtain ⟨rta_1, ron_2, rmo_3, rin_4, res_5, hG, hF⟩ := ob5_inv hF
  refine kcv K hP hD hS (c_R_setTable l g cI cJ cZ ad xst xse xre xgr ltm low lta llo lhi lmo rta ron rlo rhi rmo rin res rsi rli rar xgc xca xls xtl xno lco rwa rad rest a1 a2 a3 1 rta_1 ron_2 rmo_3 rin_4 res_5 hG) wm_352 wm_507 wm_350 wm_351 wm_49 hd_R_setTable rfl rfl ⟨Nat.le_of_ble_eq_true rfl, Nat.le_of_ble_eq_true rfl⟩ ⟨Nat.zero_le _, Nat.zero_le _⟩ 1 2 rfl rfl rfl hl.1 (rest := []) rfl (Nat.le_of_ble_eq_true rfl) d_R_setEscalation_5 (fun H locs hP hD hS => ?_)
  refine lv_aload_n hx hb d_R_setEscalation_8 rfl (lv_at hl 0 rfl) ?_
  refine va_get (D := g) (ci := 1) (v := .ref (ad 19)) (C := kR1) (T := kT1) (N := 12) hx hb hts kw1 hown hK hP 2 rfl rfl 6 (by decide) (hts _ wm_120) (fun _ h9 => h9) rfl d_R_setEscalation_9 ?_
  refine lv_iload_n hx hb d_R_setEscalation_12 rfl (lv_at hl 1 rfl) ?_
  refine lv_iconst (v := 1) hx hb d_R_setEscalation_13 (by decide) ?_
  obtain ⟨hg_6, hF⟩ := gd_inv hF
  refine va_zast hx hb hK hP hD hS 19 2 rfl rfl hg_6 d_R_setEscalation_14 (fun H locs hP hD hS => ?_)
  have hP : va_P g kcl (wC cI cJ cZ ad xst xse xre xgr ltm low lta llo lhi lmo rta_1 ron_2 rlo rhi rmo_3 rin_4 (upd res_5 a1.toNatClampNeg (vp_nar .boolean 1)) rsi rli rar xgc xca xls xtl xno lco rwa rad rest) H := hP
  have hD : va_D A (wC cI cJ cZ ad xst xse xre xgr ltm low lta llo lhi lmo rta_1 ron_2 rlo rhi rmo_3 rin_4 (upd res_5 a1.toNatClampNeg (vp_nar .boolean 1)) rsi rli rar xgc xca xls xtl xno lco rwa rad rest) := hD
  cases hF
  exact krv K hP hD hS d_R_setEscalation_15
theorem c_R_setEscalation (l : Launch) (g : va_G) (cI cJ cZ : ClassId) (ad : Nat → Nat) (xst : Nat → Int32) (xse : Nat → Int32) (xre : Nat → Int32) (xgr : Nat → Int32) (ltm : Nat → Int32) (low : Nat → Int32) (lta : Nat → Int32) (llo : Nat → Int64) (lhi : Nat → Int64) (lmo : Nat → Int32) (rta : Nat → Int32) (ron : Nat → Int32) (rlo : Nat → Int64) (rhi : Nat → Int64) (rmo : Nat → Int32) (rin : Nat → Int32) (res : Nat → Int32) (rsi : Nat → Int32) (rli : Nat → Int32) (rar : Nat → Int32) (xgc : Int32) (xca : Int32) (xls : Int32) (xtl : Int32) (xno : Int32) (lco : Int32) (rwa : Int32) (rad : Int32) (rest : va_W) (a1 : Int32) (a2 : Int32) (a3 : Int32) (o_rta : Nat → Int32) (o_ron : Nat → Int32) (o_rmo : Nat → Int32) (o_rin : Nat → Int32) (o_res : Nat → Int32) (hF : F_R_setEscalation rta ron rmo rin res a1 a2 a3 = some (o_rta, o_ron, o_rmo, o_rin, o_res)) : Cv l y_R_setEscalation prog_4_method_3_code 4 ({ frames := 1, cells := 0, slots := 0, locals := 24 }) [.ref (ad 2), .int a1, .int a2, .int a3] g (kty cI cJ cZ) (wC cI cJ cZ ad xst xse xre xgr ltm low lta llo lhi lmo rta ron rlo rhi rmo rin res rsi rli rar xgc xca xls xtl xno lco rwa rad rest) (wC cI cJ cZ ad xst xse xre xgr ltm low lta llo lhi lmo o_rta o_ron rlo rhi o_rmo o_rin o_res rsi rli rar xgc xca xls xtl xno lco rwa rad rest) :=
  Cv.of (by decide) (Nat.le_of_ble_eq_true rfl) (fun p e s m below meth c A ls K hP hD hS hl => t_R_setEscalation K xst xse xre xgr ltm low lta llo lhi lmo rta ron rlo rhi rmo rin res rsi rli rar xgc xca xls xtl xno lco rwa rad a1 a2 a3 o_rta o_ron o_rmo o_rin o_res hF hP hD hS hl)
def F_R_setRange (rta : Nat → Int32) (ron : Nat → Int32) (rlo : Nat → Int64) (rhi : Nat → Int64) (rmo : Nat → Int32) (rin : Nat → Int32) (res : Nat → Int32) (a1 : Int32) (a2 : Int32) (a3 : Int64) (a4 : Int64) (a5 : Int32) (a6 : Int32) : Option ((Nat → Int32) × (Nat → Int32) × (Nat → Int64) × (Nat → Int64) × (Nat → Int32) × (Nat → Int32) × (Nat → Int32)) :=
  ob5 (F_R_setTable rta ron rmo rin res a1 a2 a5 a6) (fun rta_1 ron_2 rmo_3 rin_4 res_5 => gd (a1 < 0 ∨ 8 ≤ a1.toNatClampNeg) (gd (a1 < 0 ∨ 8 ≤ a1.toNatClampNeg) (gd (a1 < 0 ∨ 8 ≤ a1.toNatClampNeg) (some (rta_1, upd ron_2 a1.toNatClampNeg (vp_nar .boolean 1), vp_updL rlo a1.toNatClampNeg a3, vp_updL rhi a1.toNatClampNeg a4, rmo_3, rin_4, res_5)))))
set_option maxHeartbeats 4000000 in
set_option maxRecDepth 100000 in
theorem t_R_setRange {p : Program} {l : Launch} {e : Env} {s : State} {m : MethodId} {args : Array Value} {below : List Frame} {meth : Method} {c : Code} {A : Nat → Prop} {g : va_G} {cI cJ cZ : ClassId} {ad : Nat → Nat} {rest : va_W} (K : kX p s m args meth c "LockTable$Requests" prog_4_method_4_code 9 none A g (kty cI cJ cZ)) (xst : Nat → Int32) (xse : Nat → Int32) (xre : Nat → Int32) (xgr : Nat → Int32) (ltm : Nat → Int32) (low : Nat → Int32) (lta : Nat → Int32) (llo : Nat → Int64) (lhi : Nat → Int64) (lmo : Nat → Int32) (rta : Nat → Int32) (ron : Nat → Int32) (rlo : Nat → Int64) (rhi : Nat → Int64) (rmo : Nat → Int32) (rin : Nat → Int32) (res : Nat → Int32) (rsi : Nat → Int32) (rli : Nat → Int32) (rar : Nat → Int32) (xgc : Int32) (xca : Int32) (xls : Int32) (xtl : Int32) (xno : Int32) (lco : Int32) (rwa : Int32) (rad : Int32) (a1 : Int32) (a2 : Int32) (a3 : Int64) (a4 : Int64) (a5 : Int32) (a6 : Int32) (o_rta : Nat → Int32) (o_ron : Nat → Int32) (o_rlo : Nat → Int64) (o_rhi : Nat → Int64) (o_rmo : Nat → Int32) (o_rin : Nat → Int32) (o_res : Nat → Int32) (hF : F_R_setRange rta ron rlo rhi rmo rin res a1 a2 a3 a4 a5 a6 = some (o_rta, o_ron, o_rlo, o_rhi, o_rmo, o_rin, o_res)) {H : Heap} {locs : List Loc} {ls : Array Slot} (hP : va_P g kcl (wC cI cJ cZ ad xst xse xre xgr ltm low lta llo lhi lmo rta ron rlo rhi rmo rin res rsi rli rar xgc xca xls xtl xno lco rwa rad rest) H) (hD : va_D A (wC cI cJ cZ ad xst xse xre xgr ltm low lta llo lhi lmo rta ron rlo rhi rmo rin res rsi rli rar xgc xca xls xtl xno lco rwa rad rest)) (hS : va_S A s.heap H locs) (hl : lv_has ls 9 [(0, .ref (ad 2)), (1, .int a1), (2, .int a2), (3, .long a3), (5, .long a4), (7, .int a5), (8, .int a6)]) : W p l e ({ frames := 1, cells := 0, slots := 0, locals := 24 }) s m args below meth c H locs 0 0 (MQ below (kQv g (kty cI cJ cZ) (wC cI cJ cZ ad xst xse xre xgr ltm low lta llo lhi lmo o_rta o_ron o_rlo o_rhi o_rmo o_rin o_res rsi rli rar xgc xca xls xtl xno lco rwa rad rest) A) args s 0 0 A) (F0 m 0 ls []) := by
  obtain ⟨hx, hb, hr, hml, hown, hts, hlocks, hK, hA, hE⟩ := id K
  unfold F_R_setRange at hF
  refine lv_aload_n hx hb d_R_setRange_0 rfl (lv_at hl 0 rfl) ?_
  refine lv_iload_n hx hb d_R_setRange_1 rfl (lv_at hl 1 rfl) ?_
  refine lv_iload_n hx hb d_R_setRange_2 rfl (lv_at hl 2 rfl) ?_
  refine lv_iload hx hb d_R_setRange_3 (lv_at hl 5 rfl) ?_
  refine lv_iload hx hb d_R_setRange_5 (lv_at hl 6 rfl) ?_
  obtain ⟨rta_1, ron_2, rmo_3, rin_4, res_5, hG, hF⟩ := ob5_inv hF
  refine kcv K hP hD hS (c_R_setTable l g cI cJ cZ ad xst xse xre xgr ltm low lta llo lhi lmo rta ron rlo rhi rmo rin res rsi rli rar xgc xca xls xtl xno lco rwa rad rest a1 a2 a5 a6 rta_1 ron_2 rmo_3 rin_4 res_5 hG) wm_352 wm_507 wm_350 wm_351 wm_49 hd_R_setTable rfl rfl ⟨Nat.le_of_ble_eq_true rfl, Nat.le_of_ble_eq_true rfl⟩ ⟨Nat.zero_le _, Nat.zero_le _⟩ 1 2 rfl rfl rfl hl.1 (rest := []) rfl (Nat.le_of_ble_eq_true rfl) d_R_setRange_7 (fun H locs hP hD hS => ?_)
  refine lv_aload_n hx hb d_R_setRange_10 rfl (lv_at hl 0 rfl) ?_
  refine va_get (D := g) (ci := 1) (v := .ref (ad 14)) (C := kR1) (T := kT1) (N := 12) hx hb hts kw1 hown hK hP 2 rfl rfl 1 (by decide) (hts _ wm_110) (fun _ h9 => h9) rfl d_R_setRange_11 ?_
  refine lv_iload_n hx hb d_R_setRange_14 rfl (lv_at hl 1 rfl) ?_
  refine lv_iconst (v := 1) hx hb d_R_setRange_15 (by decide) ?_
  obtain ⟨hg_6, hF⟩ := gd_inv hF
  refine va_zast hx hb hK hP hD hS 14 2 rfl rfl hg_6 d_R_setRange_16 (fun H locs hP hD hS => ?_)
  have hP : va_P g kcl (wC cI cJ cZ ad xst xse xre xgr ltm low lta llo lhi lmo rta_1 (upd ron_2 a1.toNatClampNeg (vp_nar .boolean 1)) rlo rhi rmo_3 rin_4 res_5 rsi rli rar xgc xca xls xtl xno lco rwa rad rest) H := hP
  have hD : va_D A (wC cI cJ cZ ad xst xse xre xgr ltm low lta llo lhi lmo rta_1 (upd ron_2 a1.toNatClampNeg (vp_nar .boolean 1)) rlo rhi rmo_3 rin_4 res_5 rsi rli rar xgc xca xls xtl xno lco rwa rad rest) := hD
  refine lv_aload_n hx hb d_R_setRange_17 rfl (lv_at hl 0 rfl) ?_
  refine va_get (D := g) (ci := 1) (v := .ref (ad 15)) (C := kR1) (T := kT1) (N := 12) hx hb hts kw1 hown hK hP 2 rfl rfl 2 (by decide) (hts _ wm_112) (fun _ h9 => h9) rfl d_R_setRange_18 ?_
  refine lv_iload_n hx hb d_R_setRange_21 rfl (lv_at hl 1 rfl) ?_
  refine lv_lload_n hx hb d_R_setRange_22 rfl (lv_at hl 3 rfl) ?_
  obtain ⟨hg_7, hF⟩ := gd_inv hF
  refine va_last hx hb hK hP hD hS 15 1 rfl rfl hg_7 d_R_setRange_23 (fun H locs hP hD hS => ?_)
  have hP : va_P g kcl (wC cI cJ cZ ad xst xse xre xgr ltm low lta llo lhi lmo rta_1 (upd ron_2 a1.toNatClampNeg (vp_nar .boolean 1)) (vp_updL rlo a1.toNatClampNeg a3) rhi rmo_3 rin_4 res_5 rsi rli rar xgc xca xls xtl xno lco rwa rad rest) H := hP
  have hD : va_D A (wC cI cJ cZ ad xst xse xre xgr ltm low lta llo lhi lmo rta_1 (upd ron_2 a1.toNatClampNeg (vp_nar .boolean 1)) (vp_updL rlo a1.toNatClampNeg a3) rhi rmo_3 rin_4 res_5 rsi rli rar xgc xca xls xtl xno lco rwa rad rest) := hD
  refine lv_aload_n hx hb d_R_setRange_24 rfl (lv_at hl 0 rfl) ?_
  refine va_get (D := g) (ci := 1) (v := .ref (ad 16)) (C := kR1) (T := kT1) (N := 12) hx hb hts kw1 hown hK hP 2 rfl rfl 3 (by decide) (hts _ wm_114) (fun _ h9 => h9) rfl d_R_setRange_25 ?_
  refine lv_iload_n hx hb d_R_setRange_28 rfl (lv_at hl 1 rfl) ?_
  refine lv_lload hx hb d_R_setRange_29 (lv_at hl 4 rfl) ?_
  obtain ⟨hg_8, hF⟩ := gd_inv hF
  refine va_last hx hb hK hP hD hS 16 1 rfl rfl hg_8 d_R_setRange_31 (fun H locs hP hD hS => ?_)
  have hP : va_P g kcl (wC cI cJ cZ ad xst xse xre xgr ltm low lta llo lhi lmo rta_1 (upd ron_2 a1.toNatClampNeg (vp_nar .boolean 1)) (vp_updL rlo a1.toNatClampNeg a3) (vp_updL rhi a1.toNatClampNeg a4) rmo_3 rin_4 res_5 rsi rli rar xgc xca xls xtl xno lco rwa rad rest) H := hP
  have hD : va_D A (wC cI cJ cZ ad xst xse xre xgr ltm low lta llo lhi lmo rta_1 (upd ron_2 a1.toNatClampNeg (vp_nar .boolean 1)) (vp_updL rlo a1.toNatClampNeg a3) (vp_updL rhi a1.toNatClampNeg a4) rmo_3 rin_4 res_5 rsi rli rar xgc xca xls xtl xno lco rwa rad rest) := hD
  cases hF
  exact krv K hP hD hS d_R_setRange_32
theorem c_R_setRange (l : Launch) (g : va_G) (cI cJ cZ : ClassId) (ad : Nat → Nat) (xst : Nat → Int32) (xse : Nat → Int32) (xre : Nat → Int32) (xgr : Nat → Int32) (ltm : Nat → Int32) (low : Nat → Int32) (lta : Nat → Int32) (llo : Nat → Int64) (lhi : Nat → Int64) (lmo : Nat → Int32) (rta : Nat → Int32) (ron : Nat → Int32) (rlo : Nat → Int64) (rhi : Nat → Int64) (rmo : Nat → Int32) (rin : Nat → Int32) (res : Nat → Int32) (rsi : Nat → Int32) (rli : Nat → Int32) (rar : Nat → Int32) (xgc : Int32) (xca : Int32) (xls : Int32) (xtl : Int32) (xno : Int32) (lco : Int32) (rwa : Int32) (rad : Int32) (rest : va_W) (a1 : Int32) (a2 : Int32) (a3 : Int64) (a4 : Int64) (a5 : Int32) (a6 : Int32) (o_rta : Nat → Int32) (o_ron : Nat → Int32) (o_rlo : Nat → Int64) (o_rhi : Nat → Int64) (o_rmo : Nat → Int32) (o_rin : Nat → Int32) (o_res : Nat → Int32) (hF : F_R_setRange rta ron rlo rhi rmo rin res a1 a2 a3 a4 a5 a6 = some (o_rta, o_ron, o_rlo, o_rhi, o_rmo, o_rin, o_res)) : Cv l y_R_setRange prog_4_method_4_code 9 ({ frames := 1, cells := 0, slots := 0, locals := 24 }) [.ref (ad 2), .int a1, .int a2, .long a3, .long a4, .int a5, .int a6] g (kty cI cJ cZ) (wC cI cJ cZ ad xst xse xre xgr ltm low lta llo lhi lmo rta ron rlo rhi rmo rin res rsi rli rar xgc xca xls xtl xno lco rwa rad rest) (wC cI cJ cZ ad xst xse xre xgr ltm low lta llo lhi lmo o_rta o_ron o_rlo o_rhi o_rmo o_rin o_res rsi rli rar xgc xca xls xtl xno lco rwa rad rest) :=
  Cv.of (by decide) (Nat.le_of_ble_eq_true rfl) (fun p e s m below meth c A ls K hP hD hS hl => t_R_setRange K xst xse xre xgr ltm low lta llo lhi lmo rta ron rlo rhi rmo rin res rsi rli rar xgc xca xls xtl xno lco rwa rad a1 a2 a3 a4 a5 a6 o_rta o_ron o_rlo o_rhi o_rmo o_rin o_res hF hP hD hS hl)
def F_R_enter_L15 (rin : Nat → Int32) (v1 : Int32) (v2 : Int32) : Nat → (Nat → Int32) → Int32 → Option ((Nat → Int32) × Int32)
  | 0, _, _ => none
  | n + 1, rli, v3 => if v3 ≤ 0 then some (rli, v3) else gd (v1 < 0 ∨ 8 ≤ v1.toNatClampNeg) (if (rin v1.toNatClampNeg) = 0 then some (rli, v3) else gd ((v3 - 1) < 0 ∨ 8 ≤ (v3 - 1).toNatClampNeg) (gd ((rli (v3 - 1).toNatClampNeg) < 0 ∨ 8 ≤ (rli (v3 - 1).toNatClampNeg).toNatClampNeg) (if (rin (rli (v3 - 1).toNatClampNeg).toNatClampNeg) = 0 then gd ((v3 - 1) < 0 ∨ 8 ≤ (v3 - 1).toNatClampNeg) (gd (v3 < 0 ∨ 8 ≤ v3.toNatClampNeg) (F_R_enter_L15 rin v1 v2 n (upd rli v3.toNatClampNeg (rli (v3 - 1).toNatClampNeg)) (v3 + (-1)))) else some (rli, v3))))
def F_R_enter (rin : Nat → Int32) (rsi : Nat → Int32) (rli : Nat → Int32) (rar : Nat → Int32) (rwa : Int32) (rad : Int32) (a1 : Int32) (a2 : Int32) : Option ((Nat → Int32) × (Nat → Int32) × (Nat → Int32) × Int32 × Int32) :=
  if rwa < 8 then ob2 (F_R_enter_L15 rin a1 a2 fu rli rwa) (fun rli_10 v3_11 => gd (v3_11 < 0 ∨ 8 ≤ v3_11.toNatClampNeg) (gd (a1 < 0 ∨ 8 ≤ a1.toNatClampNeg) (gd (a1 < 0 ∨ 8 ≤ a1.toNatClampNeg) (some (upd rsi a1.toNatClampNeg a2, upd rli_10 v3_11.toNatClampNeg a1, upd rar a1.toNatClampNeg rad, rwa + 1, rad + 1))))) else some (rsi, rli, rar, rwa, rad)
set_option maxHeartbeats 4000000 in
set_option maxRecDepth 100000 in
theorem t_R_enter_L15 {p : Program} {l : Launch} {e : Env} {s : State} {m : MethodId} {args : Array Value} {below : List Frame} {meth : Method} {c : Code} {A : Nat → Prop} {g : va_G} {cI cJ cZ : ClassId} {ad : Nat → Nat} {rest : va_W} (K : kX p s m args meth c "LockTable$Requests" prog_4_method_5_code 4 none A g (kty cI cJ cZ)) {Q : State → Prop} (xst : Nat → Int32) (xse : Nat → Int32) (xre : Nat → Int32) (xgr : Nat → Int32) (ltm : Nat → Int32) (low : Nat → Int32) (lta : Nat → Int32) (llo : Nat → Int64) (lhi : Nat → Int64) (lmo : Nat → Int32) (rta : Nat → Int32) (ron : Nat → Int32) (rlo : Nat → Int64) (rhi : Nat → Int64) (rmo : Nat → Int32) (rin : Nat → Int32) (res : Nat → Int32) (rsi : Nat → Int32) (rar : Nat → Int32) (xgc : Int32) (xca : Int32) (xls : Int32) (xtl : Int32) (xno : Int32) (lco : Int32) (rwa : Int32) (rad : Int32) (v1 : Int32) (v2 : Int32) : ∀ (n : Nat) (rli : Nat → Int32) (v3 : Int32) (o_rli : Nat → Int32) (o_v3 : Int32) (H : Heap) (locs : List Loc) (ls : Array Slot), F_R_enter_L15 rin v1 v2 n rli v3 = some (o_rli, o_v3) → va_P g kcl (wC cI cJ cZ ad xst xse xre xgr ltm low lta llo lhi lmo rta ron rlo rhi rmo rin res rsi rli rar xgc xca xls xtl xno lco rwa rad rest) H → va_D A (wC cI cJ cZ ad xst xse xre xgr ltm low lta llo lhi lmo rta ron rlo rhi rmo rin res rsi rli rar xgc xca xls xtl xno lco rwa rad rest) → va_S A s.heap H locs → lv_has ls 4 [(0, .ref (ad 2)), (1, .int v1), (2, .int v2), (3, .int v3)] → (∀ (H : Heap) (locs : List Loc) (ls : Array Slot), va_P g kcl (wC cI cJ cZ ad xst xse xre xgr ltm low lta llo lhi lmo rta ron rlo rhi rmo rin res rsi o_rli rar xgc xca xls xtl xno lco rwa rad rest) H → va_D A (wC cI cJ cZ ad xst xse xre xgr ltm low lta llo lhi lmo rta ron rlo rhi rmo rin res rsi o_rli rar xgc xca xls xtl xno lco rwa rad rest) → va_S A s.heap H locs → lv_has ls 4 [(0, .ref (ad 2)), (1, .int v1), (2, .int v2), (3, .int o_v3)] → W p l e ({ frames := 0, cells := 0, slots := 0, locals := 0 }) s m args below meth c H locs 0 0 Q (F0 m 64 ls [])) → W p l e ({ frames := 0, cells := 0, slots := 0, locals := 0 }) s m args below meth c H locs 0 0 Q (F0 m 15 ls []) := by
  obtain ⟨hx, hb, hr, hml, hown, hts, hlocks, hK, hA, hE⟩ := id K
  intro n
  induction n with
  | zero =>
    intro rli v3 o_rli o_v3 H locs ls hF
    rw [F_R_enter_L15] at hF
    cases hF
  | succ n ih =>
    intro rli v3 o_rli o_v3 H locs ls hF hP hD hS hl hQ
    rw [F_R_enter_L15] at hF
    refine lv_iload_n hx hb d_R_enter_15 rfl (lv_at hl 3 rfl) ?_
    refine lv_if_le (tgt := 64) hx hb d_R_enter_16 (by decide) (fun hc_2 => ?_) (fun hc_2 => ?_)
    · have hF := it_t hF hc_2
      cases hF
      exact hQ H locs ls hP hD hS (lv_sub hl [0, 1, 2, 3] rfl)
    · have hF := it_f hF hc_2
      refine lv_aload_n hx hb d_R_enter_19 rfl (lv_at hl 0 rfl) ?_
      refine va_get (D := g) (ci := 1) (v := .ref (ad 18)) (C := kR1) (T := kT1) (N := 12) hx hb hts kw1 hown hK hP 2 rfl rfl 5 (by decide) (hts _ wm_118) (fun _ h9 => h9) rfl d_R_enter_20 ?_
      refine lv_iload_n hx hb d_R_enter_23 rfl (lv_at hl 1 rfl) ?_
      obtain ⟨hg_3, hF⟩ := gd_inv hF
      refine va_zald hx hb hK hP 18 2 rfl rfl hg_3 d_R_enter_24 ?_
      refine lv_if_eq (tgt := 64) hx hb d_R_enter_25 (by decide) (fun hc_4 => ?_) (fun hc_4 => ?_)
      · have hF := it_t hF hc_4
        cases hF
        exact hQ H locs ls hP hD hS (lv_sub hl [0, 1, 2, 3] rfl)
      · have hF := it_f hF hc_4
        refine lv_aload_n hx hb d_R_enter_28 rfl (lv_at hl 0 rfl) ?_
        refine va_get (D := g) (ci := 1) (v := .ref (ad 18)) (C := kR1) (T := kT1) (N := 12) hx hb hts kw1 hown hK hP 2 rfl rfl 5 (by decide) (hts _ wm_118) (fun _ h9 => h9) rfl d_R_enter_29 ?_
        refine lv_aload_n hx hb d_R_enter_32 rfl (lv_at hl 0 rfl) ?_
        refine va_get (D := g) (ci := 1) (v := .ref (ad 21)) (C := kR1) (T := kT1) (N := 12) hx hb hts kw1 hown hK hP 2 rfl rfl 8 (by decide) (hts _ wm_124) (fun _ h9 => h9) rfl d_R_enter_33 ?_
        refine lv_iload_n hx hb d_R_enter_36 rfl (lv_at hl 3 rfl) ?_
        refine lv_iconst (v := 1) hx hb d_R_enter_37 (by decide) ?_
        refine lv_isub hx hb d_R_enter_38 ?_
        obtain ⟨hg_5, hF⟩ := gd_inv hF
        refine va_iald hx hb hK hP 21 0 rfl rfl hg_5 d_R_enter_39 ?_
        obtain ⟨hg_6, hF⟩ := gd_inv hF
        refine va_zald hx hb hK hP 18 2 rfl rfl hg_6 d_R_enter_40 ?_
        refine lv_if_ne (tgt := 64) hx hb d_R_enter_41 (by decide) (fun hc_7 => ?_) (fun hc_7 => ?_)
        · have hF := it_f hF hc_7
          cases hF
          exact hQ H locs ls hP hD hS (lv_sub hl [0, 1, 2, 3] rfl)
        · have hF := it_t hF hc_7
          refine lv_aload_n hx hb d_R_enter_44 rfl (lv_at hl 0 rfl) ?_
          refine va_get (D := g) (ci := 1) (v := .ref (ad 21)) (C := kR1) (T := kT1) (N := 12) hx hb hts kw1 hown hK hP 2 rfl rfl 8 (by decide) (hts _ wm_124) (fun _ h9 => h9) rfl d_R_enter_45 ?_
          refine lv_iload_n hx hb d_R_enter_48 rfl (lv_at hl 3 rfl) ?_
          refine lv_aload_n hx hb d_R_enter_49 rfl (lv_at hl 0 rfl) ?_
          refine va_get (D := g) (ci := 1) (v := .ref (ad 21)) (C := kR1) (T := kT1) (N := 12) hx hb hts kw1 hown hK hP 2 rfl rfl 8 (by decide) (hts _ wm_124) (fun _ h9 => h9) rfl d_R_enter_50 ?_
          refine lv_iload_n hx hb d_R_enter_53 rfl (lv_at hl 3 rfl) ?_
          refine lv_iconst (v := 1) hx hb d_R_enter_54 (by decide) ?_
          refine lv_isub hx hb d_R_enter_55 ?_
          obtain ⟨hg_8, hF⟩ := gd_inv hF
          refine va_iald hx hb hK hP 21 0 rfl rfl hg_8 d_R_enter_56 ?_
          obtain ⟨hg_9, hF⟩ := gd_inv hF
          refine va_iast hx hb hK hP hD hS 21 0 rfl rfl hg_9 d_R_enter_57 (fun H locs hP hD hS => ?_)
          have hP : va_P g kcl (wC cI cJ cZ ad xst xse xre xgr ltm low lta llo lhi lmo rta ron rlo rhi rmo rin res rsi (upd rli v3.toNatClampNeg (rli (v3 - 1).toNatClampNeg)) rar xgc xca xls xtl xno lco rwa rad rest) H := hP
          have hD : va_D A (wC cI cJ cZ ad xst xse xre xgr ltm low lta llo lhi lmo rta ron rlo rhi rmo rin res rsi (upd rli v3.toNatClampNeg (rli (v3 - 1).toNatClampNeg)) rar xgc xca xls xtl xno lco rwa rad rest) := hD
          refine lv_iinc (v := v3 + (-1)) (lv' := [(3, .int (v3 + (-1))), (0, .ref (ad 2)), (1, .int v1), (2, .int v2)]) hx hb d_R_enter_58 hl (k := 3) rfl rfl (by decide) rfl (fun ls hl => ?_)
          refine lv_goto (tgt := 15) hx hb d_R_enter_61 (by decide) ?_
          exact ih _ _ _ _ H locs ls hF hP hD hS (lv_sub hl [1, 2, 3, 0] rfl) hQ
set_option maxHeartbeats 4000000 in
set_option maxRecDepth 100000 in
theorem t_R_enter {p : Program} {l : Launch} {e : Env} {s : State} {m : MethodId} {args : Array Value} {below : List Frame} {meth : Method} {c : Code} {A : Nat → Prop} {g : va_G} {cI cJ cZ : ClassId} {ad : Nat → Nat} {rest : va_W} (K : kX p s m args meth c "LockTable$Requests" prog_4_method_5_code 4 none A g (kty cI cJ cZ)) (xst : Nat → Int32) (xse : Nat → Int32) (xre : Nat → Int32) (xgr : Nat → Int32) (ltm : Nat → Int32) (low : Nat → Int32) (lta : Nat → Int32) (llo : Nat → Int64) (lhi : Nat → Int64) (lmo : Nat → Int32) (rta : Nat → Int32) (ron : Nat → Int32) (rlo : Nat → Int64) (rhi : Nat → Int64) (rmo : Nat → Int32) (rin : Nat → Int32) (res : Nat → Int32) (rsi : Nat → Int32) (rli : Nat → Int32) (rar : Nat → Int32) (xgc : Int32) (xca : Int32) (xls : Int32) (xtl : Int32) (xno : Int32) (lco : Int32) (rwa : Int32) (rad : Int32) (a1 : Int32) (a2 : Int32) (o_rsi : Nat → Int32) (o_rli : Nat → Int32) (o_rar : Nat → Int32) (o_rwa : Int32) (o_rad : Int32) (hF : F_R_enter rin rsi rli rar rwa rad a1 a2 = some (o_rsi, o_rli, o_rar, o_rwa, o_rad)) {H : Heap} {locs : List Loc} {ls : Array Slot} (hP : va_P g kcl (wC cI cJ cZ ad xst xse xre xgr ltm low lta llo lhi lmo rta ron rlo rhi rmo rin res rsi rli rar xgc xca xls xtl xno lco rwa rad rest) H) (hD : va_D A (wC cI cJ cZ ad xst xse xre xgr ltm low lta llo lhi lmo rta ron rlo rhi rmo rin res rsi rli rar xgc xca xls xtl xno lco rwa rad rest)) (hS : va_S A s.heap H locs) (hl : lv_has ls 4 [(0, .ref (ad 2)), (1, .int a1), (2, .int a2)]) : W p l e ({ frames := 0, cells := 0, slots := 0, locals := 0 }) s m args below meth c H locs 0 0 (MQ below (kQv g (kty cI cJ cZ) (wC cI cJ cZ ad xst xse xre xgr ltm low lta llo lhi lmo rta ron rlo rhi rmo rin res o_rsi o_rli o_rar xgc xca xls xtl xno lco o_rwa o_rad rest) A) args s 0 0 A) (F0 m 0 ls []) := by
  obtain ⟨hx, hb, hr, hml, hown, hts, hlocks, hK, hA, hE⟩ := id K
  unfold F_R_enter at hF
  refine lv_aload_n hx hb d_R_enter_0 rfl (lv_at hl 0 rfl) ?_
  refine va_get (D := g) (ci := 1) (v := .int rwa) (C := kR1) (T := kT1) (N := 12) hx hb hts kw1 hown hK hP 2 rfl rfl 9 (by decide) (hts _ wm_126) (fun _ h9 => h9) rfl d_R_enter_1 ?_
  refine lv_bipush (v := 8) hx hb d_R_enter_4 (by decide) ?_
  refine lv_icmp_lt (tgt := 10) hx hb d_R_enter_6 (by decide) (fun hc_1 => ?_) (fun hc_1 => ?_)
  · have hF := it_t hF hc_1
    refine lv_aload_n hx hb d_R_enter_10 rfl (lv_at hl 0 rfl) ?_
    refine va_get (D := g) (ci := 1) (v := .int rwa) (C := kR1) (T := kT1) (N := 12) hx hb hts kw1 hown hK hP 2 rfl rfl 9 (by decide) (hts _ wm_126) (fun _ h9 => h9) rfl d_R_enter_11 ?_
    refine lv_istore_n (lv' := [(3, .int rwa), (0, .ref (ad 2)), (1, .int a1), (2, .int a2)]) hx hb d_R_enter_14 rfl hl (by decide) rfl (fun ls hl => ?_)
    obtain ⟨rli_10, v3_11, hG, hF⟩ := ob2_inv hF
    refine t_R_enter_L15 K xst xse xre xgr ltm low lta llo lhi lmo rta ron rlo rhi rmo rin res rsi rar xgc xca xls xtl xno lco rwa rad a1 a2 fu _ _ _ _ H locs ls hG hP hD hS (lv_sub hl [1, 2, 3, 0] rfl) (fun H locs ls hP hD hS hl => ?_)
    refine lv_aload_n hx hb d_R_enter_64 rfl (lv_at hl 0 rfl) ?_
    refine va_get (D := g) (ci := 1) (v := .ref (ad 21)) (C := kR1) (T := kT1) (N := 12) hx hb hts kw1 hown hK hP 2 rfl rfl 8 (by decide) (hts _ wm_124) (fun _ h9 => h9) rfl d_R_enter_65 ?_
    refine lv_iload_n hx hb d_R_enter_68 rfl (lv_at hl 3 rfl) ?_
    refine lv_iload_n hx hb d_R_enter_69 rfl (lv_at hl 1 rfl) ?_
    obtain ⟨hg_12, hF⟩ := gd_inv hF
    refine va_iast hx hb hK hP hD hS 21 0 rfl rfl hg_12 d_R_enter_70 (fun H locs hP hD hS => ?_)
    have hP : va_P g kcl (wC cI cJ cZ ad xst xse xre xgr ltm low lta llo lhi lmo rta ron rlo rhi rmo rin res rsi (upd rli_10 v3_11.toNatClampNeg a1) rar xgc xca xls xtl xno lco rwa rad rest) H := hP
    have hD : va_D A (wC cI cJ cZ ad xst xse xre xgr ltm low lta llo lhi lmo rta ron rlo rhi rmo rin res rsi (upd rli_10 v3_11.toNatClampNeg a1) rar xgc xca xls xtl xno lco rwa rad rest) := hD
    refine lv_aload_n hx hb d_R_enter_71 rfl (lv_at hl 0 rfl) ?_
    refine lv_dup hx hb d_R_enter_72 rfl ?_
    refine va_get (D := g) (ci := 1) (v := .int rwa) (C := kR1) (T := kT1) (N := 12) hx hb hts kw1 hown hK hP 2 rfl rfl 9 (by decide) (hts _ wm_126) (fun _ h9 => h9) rfl d_R_enter_73 ?_
    refine lv_iconst (v := 1) hx hb d_R_enter_76 (by decide) ?_
    refine lv_iadd hx hb d_R_enter_77 ?_
    refine va_put (D := g) (ci := 1) (v := .int (rwa + 1)) (ty := .int) (C := kR1) (T := kT1) (N := 12) hx hb hts kw1 kt1 ko1 kn1 hown hK hP hD hS 2 rfl rfl 9 (by decide) (hts _ wm_126) (fun _ h9 => h9) rfl (by decide +kernel) rfl rfl (Nat.le_of_ble_eq_true rfl) d_R_enter_78 (fun H locs hP hD hS => ?_)
    have hP : va_P g kcl (wC cI cJ cZ ad xst xse xre xgr ltm low lta llo lhi lmo rta ron rlo rhi rmo rin res rsi (upd rli_10 v3_11.toNatClampNeg a1) rar xgc xca xls xtl xno lco (rwa + 1) rad rest) H := hP
    have hD : va_D A (wC cI cJ cZ ad xst xse xre xgr ltm low lta llo lhi lmo rta ron rlo rhi rmo rin res rsi (upd rli_10 v3_11.toNatClampNeg a1) rar xgc xca xls xtl xno lco (rwa + 1) rad rest) := hD
    refine lv_aload_n hx hb d_R_enter_81 rfl (lv_at hl 0 rfl) ?_
    refine va_get (D := g) (ci := 1) (v := .ref (ad 20)) (C := kR1) (T := kT1) (N := 12) hx hb hts kw1 hown hK hP 2 rfl rfl 7 (by decide) (hts _ wm_122) (fun _ h9 => h9) rfl d_R_enter_82 ?_
    refine lv_iload_n hx hb d_R_enter_85 rfl (lv_at hl 1 rfl) ?_
    refine lv_iload_n hx hb d_R_enter_86 rfl (lv_at hl 2 rfl) ?_
    obtain ⟨hg_13, hF⟩ := gd_inv hF
    refine va_iast hx hb hK hP hD hS 20 0 rfl rfl hg_13 d_R_enter_87 (fun H locs hP hD hS => ?_)
    have hP : va_P g kcl (wC cI cJ cZ ad xst xse xre xgr ltm low lta llo lhi lmo rta ron rlo rhi rmo rin res (upd rsi a1.toNatClampNeg a2) (upd rli_10 v3_11.toNatClampNeg a1) rar xgc xca xls xtl xno lco (rwa + 1) rad rest) H := hP
    have hD : va_D A (wC cI cJ cZ ad xst xse xre xgr ltm low lta llo lhi lmo rta ron rlo rhi rmo rin res (upd rsi a1.toNatClampNeg a2) (upd rli_10 v3_11.toNatClampNeg a1) rar xgc xca xls xtl xno lco (rwa + 1) rad rest) := hD
    refine lv_aload_n hx hb d_R_enter_88 rfl (lv_at hl 0 rfl) ?_
    refine va_get (D := g) (ci := 1) (v := .ref (ad 22)) (C := kR1) (T := kT1) (N := 12) hx hb hts kw1 hown hK hP 2 rfl rfl 10 (by decide) (hts _ wm_128) (fun _ h9 => h9) rfl d_R_enter_89 ?_
    refine lv_iload_n hx hb d_R_enter_92 rfl (lv_at hl 1 rfl) ?_
    refine lv_aload_n hx hb d_R_enter_93 rfl (lv_at hl 0 rfl) ?_
    refine va_get (D := g) (ci := 1) (v := .int rad) (C := kR1) (T := kT1) (N := 12) hx hb hts kw1 hown hK hP 2 rfl rfl 11 (by decide) (hts _ wm_129) (fun _ h9 => h9) rfl d_R_enter_94 ?_
    obtain ⟨hg_14, hF⟩ := gd_inv hF
    refine va_iast hx hb hK hP hD hS 22 0 rfl rfl hg_14 d_R_enter_97 (fun H locs hP hD hS => ?_)
    have hP : va_P g kcl (wC cI cJ cZ ad xst xse xre xgr ltm low lta llo lhi lmo rta ron rlo rhi rmo rin res (upd rsi a1.toNatClampNeg a2) (upd rli_10 v3_11.toNatClampNeg a1) (upd rar a1.toNatClampNeg rad) xgc xca xls xtl xno lco (rwa + 1) rad rest) H := hP
    have hD : va_D A (wC cI cJ cZ ad xst xse xre xgr ltm low lta llo lhi lmo rta ron rlo rhi rmo rin res (upd rsi a1.toNatClampNeg a2) (upd rli_10 v3_11.toNatClampNeg a1) (upd rar a1.toNatClampNeg rad) xgc xca xls xtl xno lco (rwa + 1) rad rest) := hD
    refine lv_aload_n hx hb d_R_enter_98 rfl (lv_at hl 0 rfl) ?_
    refine lv_dup hx hb d_R_enter_99 rfl ?_
    refine va_get (D := g) (ci := 1) (v := .int rad) (C := kR1) (T := kT1) (N := 12) hx hb hts kw1 hown hK hP 2 rfl rfl 11 (by decide) (hts _ wm_129) (fun _ h9 => h9) rfl d_R_enter_100 ?_
    refine lv_iconst (v := 1) hx hb d_R_enter_103 (by decide) ?_
    refine lv_iadd hx hb d_R_enter_104 ?_
    refine va_put (D := g) (ci := 1) (v := .int (rad + 1)) (ty := .int) (C := kR1) (T := kT1) (N := 12) hx hb hts kw1 kt1 ko1 kn1 hown hK hP hD hS 2 rfl rfl 11 (by decide) (hts _ wm_129) (fun _ h9 => h9) rfl (by decide +kernel) rfl rfl (Nat.le_of_ble_eq_true rfl) d_R_enter_105 (fun H locs hP hD hS => ?_)
    have hP : va_P g kcl (wC cI cJ cZ ad xst xse xre xgr ltm low lta llo lhi lmo rta ron rlo rhi rmo rin res (upd rsi a1.toNatClampNeg a2) (upd rli_10 v3_11.toNatClampNeg a1) (upd rar a1.toNatClampNeg rad) xgc xca xls xtl xno lco (rwa + 1) (rad + 1) rest) H := hP
    have hD : va_D A (wC cI cJ cZ ad xst xse xre xgr ltm low lta llo lhi lmo rta ron rlo rhi rmo rin res (upd rsi a1.toNatClampNeg a2) (upd rli_10 v3_11.toNatClampNeg a1) (upd rar a1.toNatClampNeg rad) xgc xca xls xtl xno lco (rwa + 1) (rad + 1) rest) := hD
    cases hF
    exact krv K hP hD hS d_R_enter_108
  · have hF := it_f hF hc_1
    cases hF
    exact krv K hP hD hS d_R_enter_9
theorem c_R_enter (l : Launch) (g : va_G) (cI cJ cZ : ClassId) (ad : Nat → Nat) (xst : Nat → Int32) (xse : Nat → Int32) (xre : Nat → Int32) (xgr : Nat → Int32) (ltm : Nat → Int32) (low : Nat → Int32) (lta : Nat → Int32) (llo : Nat → Int64) (lhi : Nat → Int64) (lmo : Nat → Int32) (rta : Nat → Int32) (ron : Nat → Int32) (rlo : Nat → Int64) (rhi : Nat → Int64) (rmo : Nat → Int32) (rin : Nat → Int32) (res : Nat → Int32) (rsi : Nat → Int32) (rli : Nat → Int32) (rar : Nat → Int32) (xgc : Int32) (xca : Int32) (xls : Int32) (xtl : Int32) (xno : Int32) (lco : Int32) (rwa : Int32) (rad : Int32) (rest : va_W) (a1 : Int32) (a2 : Int32) (o_rsi : Nat → Int32) (o_rli : Nat → Int32) (o_rar : Nat → Int32) (o_rwa : Int32) (o_rad : Int32) (hF : F_R_enter rin rsi rli rar rwa rad a1 a2 = some (o_rsi, o_rli, o_rar, o_rwa, o_rad)) : Cv l y_R_enter prog_4_method_5_code 4 ({ frames := 0, cells := 0, slots := 0, locals := 0 }) [.ref (ad 2), .int a1, .int a2] g (kty cI cJ cZ) (wC cI cJ cZ ad xst xse xre xgr ltm low lta llo lhi lmo rta ron rlo rhi rmo rin res rsi rli rar xgc xca xls xtl xno lco rwa rad rest) (wC cI cJ cZ ad xst xse xre xgr ltm low lta llo lhi lmo rta ron rlo rhi rmo rin res o_rsi o_rli o_rar xgc xca xls xtl xno lco o_rwa o_rad rest) :=
  Cv.of (by decide) (Nat.le_of_ble_eq_true rfl) (fun p e s m below meth c A ls K hP hD hS hl => t_R_enter K xst xse xre xgr ltm low lta llo lhi lmo rta ron rlo rhi rmo rin res rsi rli rar xgc xca xls xtl xno lco rwa rad a1 a2 o_rsi o_rli o_rar o_rwa o_rad hF hP hD hS hl)
def F_R_leave_L4 (rwa : Int32) (v1 : Int32) : Nat → (Nat → Int32) → Int32 → Int32 → Option ((Nat → Int32) × Int32)
  | 0, _, _, _ => none
  | n + 1, rli, v2, v3 => if rwa ≤ v3 then some (rli, v2) else gd (v3 < 0 ∨ 8 ≤ v3.toNatClampNeg) (if (rli v3.toNatClampNeg) = v1 then F_R_leave_L4 rwa v1 n rli v2 (v3 + 1) else gd (v3 < 0 ∨ 8 ≤ v3.toNatClampNeg) (gd (v2 < 0 ∨ 8 ≤ v2.toNatClampNeg) (F_R_leave_L4 rwa v1 n (upd rli v2.toNatClampNeg (rli v3.toNatClampNeg)) (v2 + 1) (v3 + 1))))
def F_R_leave (rli : Nat → Int32) (rwa : Int32) (a1 : Int32) : Option ((Nat → Int32) × Int32) :=
  ob2 (F_R_leave_L4 rwa a1 fu rli 0 0) (fun rli_6 v2_7 => some (rli_6, v2_7))
set_option maxHeartbeats 4000000 in
set_option maxRecDepth 100000 in
theorem t_R_leave_L4 {p : Program} {l : Launch} {e : Env} {s : State} {m : MethodId} {args : Array Value} {below : List Frame} {meth : Method} {c : Code} {A : Nat → Prop} {g : va_G} {cI cJ cZ : ClassId} {ad : Nat → Nat} {rest : va_W} (K : kX p s m args meth c "LockTable$Requests" prog_4_method_6_code 4 none A g (kty cI cJ cZ)) {Q : State → Prop} (xst : Nat → Int32) (xse : Nat → Int32) (xre : Nat → Int32) (xgr : Nat → Int32) (ltm : Nat → Int32) (low : Nat → Int32) (lta : Nat → Int32) (llo : Nat → Int64) (lhi : Nat → Int64) (lmo : Nat → Int32) (rta : Nat → Int32) (ron : Nat → Int32) (rlo : Nat → Int64) (rhi : Nat → Int64) (rmo : Nat → Int32) (rin : Nat → Int32) (res : Nat → Int32) (rsi : Nat → Int32) (rar : Nat → Int32) (xgc : Int32) (xca : Int32) (xls : Int32) (xtl : Int32) (xno : Int32) (lco : Int32) (rwa : Int32) (rad : Int32) (v1 : Int32) : ∀ (n : Nat) (rli : Nat → Int32) (v2 : Int32) (v3 : Int32) (o_rli : Nat → Int32) (o_v2 : Int32) (H : Heap) (locs : List Loc) (ls : Array Slot), F_R_leave_L4 rwa v1 n rli v2 v3 = some (o_rli, o_v2) → va_P g kcl (wC cI cJ cZ ad xst xse xre xgr ltm low lta llo lhi lmo rta ron rlo rhi rmo rin res rsi rli rar xgc xca xls xtl xno lco rwa rad rest) H → va_D A (wC cI cJ cZ ad xst xse xre xgr ltm low lta llo lhi lmo rta ron rlo rhi rmo rin res rsi rli rar xgc xca xls xtl xno lco rwa rad rest) → va_S A s.heap H locs → lv_has ls 4 [(0, .ref (ad 2)), (1, .int v1), (2, .int v2), (3, .int v3)] → (∀ (H : Heap) (locs : List Loc) (ls : Array Slot), va_P g kcl (wC cI cJ cZ ad xst xse xre xgr ltm low lta llo lhi lmo rta ron rlo rhi rmo rin res rsi o_rli rar xgc xca xls xtl xno lco rwa rad rest) H → va_D A (wC cI cJ cZ ad xst xse xre xgr ltm low lta llo lhi lmo rta ron rlo rhi rmo rin res rsi o_rli rar xgc xca xls xtl xno lco rwa rad rest) → va_S A s.heap H locs → lv_has ls 4 [(0, .ref (ad 2)), (2, .int o_v2)] → W p l e ({ frames := 0, cells := 0, slots := 0, locals := 0 }) s m args below meth c H locs 0 0 Q (F0 m 43 ls [])) → W p l e ({ frames := 0, cells := 0, slots := 0, locals := 0 }) s m args below meth c H locs 0 0 Q (F0 m 4 ls []) := by
  obtain ⟨hx, hb, hr, hml, hown, hts, hlocks, hK, hA, hE⟩ := id K
  intro n
  induction n with
  | zero =>
    intro rli v2 v3 o_rli o_v2 H locs ls hF
    rw [F_R_leave_L4] at hF
    cases hF
  | succ n ih =>
    intro rli v2 v3 o_rli o_v2 H locs ls hF hP hD hS hl hQ
    rw [F_R_leave_L4] at hF
    refine lv_iload_n hx hb d_R_leave_4 rfl (lv_at hl 3 rfl) ?_
    refine lv_aload_n hx hb d_R_leave_5 rfl (lv_at hl 0 rfl) ?_
    refine va_get (D := g) (ci := 1) (v := .int rwa) (C := kR1) (T := kT1) (N := 12) hx hb hts kw1 hown hK hP 2 rfl rfl 9 (by decide) (hts _ wm_126) (fun _ h9 => h9) rfl d_R_leave_6 ?_
    refine lv_icmp_ge (tgt := 43) hx hb d_R_leave_9 (by decide) (fun hc_1 => ?_) (fun hc_1 => ?_)
    · have hF := it_t hF hc_1
      cases hF
      exact hQ H locs ls hP hD hS (lv_sub hl [0, 2] rfl)
    · have hF := it_f hF hc_1
      refine lv_aload_n hx hb d_R_leave_12 rfl (lv_at hl 0 rfl) ?_
      refine va_get (D := g) (ci := 1) (v := .ref (ad 21)) (C := kR1) (T := kT1) (N := 12) hx hb hts kw1 hown hK hP 2 rfl rfl 8 (by decide) (hts _ wm_124) (fun _ h9 => h9) rfl d_R_leave_13 ?_
      refine lv_iload_n hx hb d_R_leave_16 rfl (lv_at hl 3 rfl) ?_
      obtain ⟨hg_2, hF⟩ := gd_inv hF
      refine va_iald hx hb hK hP 21 0 rfl rfl hg_2 d_R_leave_17 ?_
      refine lv_iload_n hx hb d_R_leave_18 rfl (lv_at hl 1 rfl) ?_
      refine lv_icmp_eq (tgt := 37) hx hb d_R_leave_19 (by decide) (fun hc_3 => ?_) (fun hc_3 => ?_)
      · have hF := it_t hF hc_3
        refine lv_iinc (v := v3 + 1) (lv' := [(3, .int (v3 + 1)), (0, .ref (ad 2)), (1, .int v1), (2, .int v2)]) hx hb d_R_leave_37 hl (k := 3) rfl rfl (by decide) rfl (fun ls hl => ?_)
        refine lv_goto (tgt := 4) hx hb d_R_leave_40 (by decide) ?_
        exact ih _ _ _ _ _ H locs ls hF hP hD hS (lv_sub hl [1, 2, 3, 0] rfl) hQ
      · have hF := it_f hF hc_3
        refine lv_aload_n hx hb d_R_leave_22 rfl (lv_at hl 0 rfl) ?_
        refine va_get (D := g) (ci := 1) (v := .ref (ad 21)) (C := kR1) (T := kT1) (N := 12) hx hb hts kw1 hown hK hP 2 rfl rfl 8 (by decide) (hts _ wm_124) (fun _ h9 => h9) rfl d_R_leave_23 ?_
        refine lv_iload_n hx hb d_R_leave_26 rfl (lv_at hl 2 rfl) ?_
        refine lv_aload_n hx hb d_R_leave_27 rfl (lv_at hl 0 rfl) ?_
        refine va_get (D := g) (ci := 1) (v := .ref (ad 21)) (C := kR1) (T := kT1) (N := 12) hx hb hts kw1 hown hK hP 2 rfl rfl 8 (by decide) (hts _ wm_124) (fun _ h9 => h9) rfl d_R_leave_28 ?_
        refine lv_iload_n hx hb d_R_leave_31 rfl (lv_at hl 3 rfl) ?_
        obtain ⟨hg_4, hF⟩ := gd_inv hF
        refine va_iald hx hb hK hP 21 0 rfl rfl hg_4 d_R_leave_32 ?_
        obtain ⟨hg_5, hF⟩ := gd_inv hF
        refine va_iast hx hb hK hP hD hS 21 0 rfl rfl hg_5 d_R_leave_33 (fun H locs hP hD hS => ?_)
        have hP : va_P g kcl (wC cI cJ cZ ad xst xse xre xgr ltm low lta llo lhi lmo rta ron rlo rhi rmo rin res rsi (upd rli v2.toNatClampNeg (rli v3.toNatClampNeg)) rar xgc xca xls xtl xno lco rwa rad rest) H := hP
        have hD : va_D A (wC cI cJ cZ ad xst xse xre xgr ltm low lta llo lhi lmo rta ron rlo rhi rmo rin res rsi (upd rli v2.toNatClampNeg (rli v3.toNatClampNeg)) rar xgc xca xls xtl xno lco rwa rad rest) := hD
        refine lv_iinc (v := v2 + 1) (lv' := [(2, .int (v2 + 1)), (0, .ref (ad 2)), (1, .int v1), (3, .int v3)]) hx hb d_R_leave_34 hl (k := 2) rfl rfl (by decide) rfl (fun ls hl => ?_)
        refine lv_iinc (v := v3 + 1) (lv' := [(3, .int (v3 + 1)), (2, .int (v2 + 1)), (0, .ref (ad 2)), (1, .int v1)]) hx hb d_R_leave_37 hl (k := 3) rfl rfl (by decide) rfl (fun ls hl => ?_)
        refine lv_goto (tgt := 4) hx hb d_R_leave_40 (by decide) ?_
        exact ih _ _ _ _ _ H locs ls hF hP hD hS (lv_sub hl [2, 3, 1, 0] rfl) hQ
set_option maxHeartbeats 4000000 in
set_option maxRecDepth 100000 in
theorem t_R_leave {p : Program} {l : Launch} {e : Env} {s : State} {m : MethodId} {args : Array Value} {below : List Frame} {meth : Method} {c : Code} {A : Nat → Prop} {g : va_G} {cI cJ cZ : ClassId} {ad : Nat → Nat} {rest : va_W} (K : kX p s m args meth c "LockTable$Requests" prog_4_method_6_code 4 none A g (kty cI cJ cZ)) (xst : Nat → Int32) (xse : Nat → Int32) (xre : Nat → Int32) (xgr : Nat → Int32) (ltm : Nat → Int32) (low : Nat → Int32) (lta : Nat → Int32) (llo : Nat → Int64) (lhi : Nat → Int64) (lmo : Nat → Int32) (rta : Nat → Int32) (ron : Nat → Int32) (rlo : Nat → Int64) (rhi : Nat → Int64) (rmo : Nat → Int32) (rin : Nat → Int32) (res : Nat → Int32) (rsi : Nat → Int32) (rli : Nat → Int32) (rar : Nat → Int32) (xgc : Int32) (xca : Int32) (xls : Int32) (xtl : Int32) (xno : Int32) (lco : Int32) (rwa : Int32) (rad : Int32) (a1 : Int32) (o_rli : Nat → Int32) (o_rwa : Int32) (hF : F_R_leave rli rwa a1 = some (o_rli, o_rwa)) {H : Heap} {locs : List Loc} {ls : Array Slot} (hP : va_P g kcl (wC cI cJ cZ ad xst xse xre xgr ltm low lta llo lhi lmo rta ron rlo rhi rmo rin res rsi rli rar xgc xca xls xtl xno lco rwa rad rest) H) (hD : va_D A (wC cI cJ cZ ad xst xse xre xgr ltm low lta llo lhi lmo rta ron rlo rhi rmo rin res rsi rli rar xgc xca xls xtl xno lco rwa rad rest)) (hS : va_S A s.heap H locs) (hl : lv_has ls 4 [(0, .ref (ad 2)), (1, .int a1)]) : W p l e ({ frames := 0, cells := 0, slots := 0, locals := 0 }) s m args below meth c H locs 0 0 (MQ below (kQv g (kty cI cJ cZ) (wC cI cJ cZ ad xst xse xre xgr ltm low lta llo lhi lmo rta ron rlo rhi rmo rin res rsi o_rli rar xgc xca xls xtl xno lco o_rwa rad rest) A) args s 0 0 A) (F0 m 0 ls []) := by
  obtain ⟨hx, hb, hr, hml, hown, hts, hlocks, hK, hA, hE⟩ := id K
  unfold F_R_leave at hF
  refine lv_iconst (v := 0) hx hb d_R_leave_0 (by decide) ?_
  refine lv_istore_n (lv' := [(2, .int 0), (0, .ref (ad 2)), (1, .int a1)]) hx hb d_R_leave_1 rfl hl (by decide) rfl (fun ls hl => ?_)
  refine lv_iconst (v := 0) hx hb d_R_leave_2 (by decide) ?_
  refine lv_istore_n (lv' := [(3, .int 0), (2, .int 0), (0, .ref (ad 2)), (1, .int a1)]) hx hb d_R_leave_3 rfl hl (by decide) rfl (fun ls hl => ?_)
  obtain ⟨rli_6, v2_7, hG, hF⟩ := ob2_inv hF
  refine t_R_leave_L4 K xst xse xre xgr ltm low lta llo lhi lmo rta ron rlo rhi rmo rin res rsi rar xgc xca xls xtl xno lco rwa rad a1 fu _ _ _ _ _ H locs ls hG hP hD hS (lv_sub hl [2, 3, 1, 0] rfl) (fun H locs ls hP hD hS hl => ?_)
  refine lv_aload_n hx hb d_R_leave_43 rfl (lv_at hl 0 rfl) ?_
  refine lv_iload_n hx hb d_R_leave_44 rfl (lv_at hl 1 rfl) ?_
  refine va_put (D := g) (ci := 1) (v := .int v2_7) (ty := .int) (C := kR1) (T := kT1) (N := 12) hx hb hts kw1 kt1 ko1 kn1 hown hK hP hD hS 2 rfl rfl 9 (by decide) (hts _ wm_126) (fun _ h9 => h9) rfl (by decide +kernel) rfl rfl (Nat.le_of_ble_eq_true rfl) d_R_leave_45 (fun H locs hP hD hS => ?_)
  have hP : va_P g kcl (wC cI cJ cZ ad xst xse xre xgr ltm low lta llo lhi lmo rta ron rlo rhi rmo rin res rsi rli_6 rar xgc xca xls xtl xno lco v2_7 rad rest) H := hP
  have hD : va_D A (wC cI cJ cZ ad xst xse xre xgr ltm low lta llo lhi lmo rta ron rlo rhi rmo rin res rsi rli_6 rar xgc xca xls xtl xno lco v2_7 rad rest) := hD
  cases hF
  exact krv K hP hD hS d_R_leave_48
theorem c_R_leave (l : Launch) (g : va_G) (cI cJ cZ : ClassId) (ad : Nat → Nat) (xst : Nat → Int32) (xse : Nat → Int32) (xre : Nat → Int32) (xgr : Nat → Int32) (ltm : Nat → Int32) (low : Nat → Int32) (lta : Nat → Int32) (llo : Nat → Int64) (lhi : Nat → Int64) (lmo : Nat → Int32) (rta : Nat → Int32) (ron : Nat → Int32) (rlo : Nat → Int64) (rhi : Nat → Int64) (rmo : Nat → Int32) (rin : Nat → Int32) (res : Nat → Int32) (rsi : Nat → Int32) (rli : Nat → Int32) (rar : Nat → Int32) (xgc : Int32) (xca : Int32) (xls : Int32) (xtl : Int32) (xno : Int32) (lco : Int32) (rwa : Int32) (rad : Int32) (rest : va_W) (a1 : Int32) (o_rli : Nat → Int32) (o_rwa : Int32) (hF : F_R_leave rli rwa a1 = some (o_rli, o_rwa)) : Cv l y_R_leave prog_4_method_6_code 4 ({ frames := 0, cells := 0, slots := 0, locals := 0 }) [.ref (ad 2), .int a1] g (kty cI cJ cZ) (wC cI cJ cZ ad xst xse xre xgr ltm low lta llo lhi lmo rta ron rlo rhi rmo rin res rsi rli rar xgc xca xls xtl xno lco rwa rad rest) (wC cI cJ cZ ad xst xse xre xgr ltm low lta llo lhi lmo rta ron rlo rhi rmo rin res rsi o_rli rar xgc xca xls xtl xno lco o_rwa rad rest) :=
  Cv.of (by decide) (Nat.le_of_ble_eq_true rfl) (fun p e s m below meth c A ls K hP hD hS hl => t_R_leave K xst xse xre xgr ltm low lta llo lhi lmo rta ron rlo rhi rmo rin res rsi rli rar xgc xca xls xtl xno lco rwa rad a1 o_rli o_rwa hF hP hD hS hl)
def F_R_meet (rta : Nat → Int32) (ron : Nat → Int32) (rlo : Nat → Int64) (rhi : Nat → Int64) (a1 : Int32) (a2 : Int32) : Option (Int32) :=
  gd (a1 < 0 ∨ 8 ≤ a1.toNatClampNeg) (gd (a2 < 0 ∨ 8 ≤ a2.toNatClampNeg) (if (rta a1.toNatClampNeg) = (rta a2.toNatClampNeg) then gd (a1 < 0 ∨ 8 ≤ a1.toNatClampNeg) (gd (a2 < 0 ∨ 8 ≤ a2.toNatClampNeg) (if (ron a1.toNatClampNeg) = (ron a2.toNatClampNeg) then gd (a1 < 0 ∨ 8 ≤ a1.toNatClampNeg) (if (ron a1.toNatClampNeg) = 0 then some 1 else gd (a1 < 0 ∨ 8 ≤ a1.toNatClampNeg) (gd (a2 < 0 ∨ 8 ≤ a2.toNatClampNeg) (if 0 < (lg_cmp (rlo a1.toNatClampNeg) (rhi a2.toNatClampNeg)) then some 0 else gd (a2 < 0 ∨ 8 ≤ a2.toNatClampNeg) (gd (a1 < 0 ∨ 8 ≤ a1.toNatClampNeg) (if 0 < (lg_cmp (rlo a2.toNatClampNeg) (rhi a1.toNatClampNeg)) then some 0 else some 1))))) else some 0)) else some 0))
set_option maxHeartbeats 4000000 in
set_option maxRecDepth 100000 in
theorem t_R_meet {p : Program} {l : Launch} {e : Env} {s : State} {m : MethodId} {args : Array Value} {below : List Frame} {meth : Method} {c : Code} {A : Nat → Prop} {g : va_G} {cI cJ cZ : ClassId} {ad : Nat → Nat} {rest : va_W} (K : kX p s m args meth c "LockTable$Requests" prog_4_method_9_code 3 (some .boolean) A g (kty cI cJ cZ)) (xst : Nat → Int32) (xse : Nat → Int32) (xre : Nat → Int32) (xgr : Nat → Int32) (ltm : Nat → Int32) (low : Nat → Int32) (lta : Nat → Int32) (llo : Nat → Int64) (lhi : Nat → Int64) (lmo : Nat → Int32) (rta : Nat → Int32) (ron : Nat → Int32) (rlo : Nat → Int64) (rhi : Nat → Int64) (rmo : Nat → Int32) (rin : Nat → Int32) (res : Nat → Int32) (rsi : Nat → Int32) (rli : Nat → Int32) (rar : Nat → Int32) (xgc : Int32) (xca : Int32) (xls : Int32) (xtl : Int32) (xno : Int32) (lco : Int32) (rwa : Int32) (rad : Int32) (a1 : Int32) (a2 : Int32) (r : Int32) (hF : F_R_meet rta ron rlo rhi a1 a2 = some r) {H : Heap} {locs : List Loc} {ls : Array Slot} (hP : va_P g kcl (wC cI cJ cZ ad xst xse xre xgr ltm low lta llo lhi lmo rta ron rlo rhi rmo rin res rsi rli rar xgc xca xls xtl xno lco rwa rad rest) H) (hD : va_D A (wC cI cJ cZ ad xst xse xre xgr ltm low lta llo lhi lmo rta ron rlo rhi rmo rin res rsi rli rar xgc xca xls xtl xno lco rwa rad rest)) (hS : va_S A s.heap H locs) (hl : lv_has ls 3 [(0, .ref (ad 2)), (1, .int a1), (2, .int a2)]) : W p l e ({ frames := 0, cells := 0, slots := 0, locals := 0 }) s m args below meth c H locs 0 0 (MQ below (kQi g (kty cI cJ cZ) (wC cI cJ cZ ad xst xse xre xgr ltm low lta llo lhi lmo rta ron rlo rhi rmo rin res rsi rli rar xgc xca xls xtl xno lco rwa rad rest) A r) args s 0 0 A) (F0 m 0 ls []) := by
  obtain ⟨hx, hb, hr, hml, hown, hts, hlocks, hK, hA, hE⟩ := id K
  unfold F_R_meet at hF
  refine lv_aload_n hx hb d_R_meet_0 rfl (lv_at hl 0 rfl) ?_
  refine va_get (D := g) (ci := 1) (v := .ref (ad 13)) (C := kR1) (T := kT1) (N := 12) hx hb hts kw1 hown hK hP 2 rfl rfl 0 (by decide) (hts _ wm_108) (fun _ h9 => h9) rfl d_R_meet_1 ?_
  refine lv_iload_n hx hb d_R_meet_4 rfl (lv_at hl 1 rfl) ?_
  obtain ⟨hg_1, hF⟩ := gd_inv hF
  refine va_iald hx hb hK hP 13 0 rfl rfl hg_1 d_R_meet_5 ?_
  refine lv_aload_n hx hb d_R_meet_6 rfl (lv_at hl 0 rfl) ?_
  refine va_get (D := g) (ci := 1) (v := .ref (ad 13)) (C := kR1) (T := kT1) (N := 12) hx hb hts kw1 hown hK hP 2 rfl rfl 0 (by decide) (hts _ wm_108) (fun _ h9 => h9) rfl d_R_meet_7 ?_
  refine lv_iload_n hx hb d_R_meet_10 rfl (lv_at hl 2 rfl) ?_
  obtain ⟨hg_2, hF⟩ := gd_inv hF
  refine va_iald hx hb hK hP 13 0 rfl rfl hg_2 d_R_meet_11 ?_
  refine lv_icmp_ne (tgt := 30) hx hb d_R_meet_12 (by decide) (fun hc_3 => ?_) (fun hc_3 => ?_)
  · have hF := it_f hF hc_3
    refine lv_iconst (v := 0) hx hb d_R_meet_30 (by decide) ?_
    cases hF
    exact krz K hP hD hS d_R_meet_31 rfl rfl
  · have hF := it_t hF hc_3
    refine lv_aload_n hx hb d_R_meet_15 rfl (lv_at hl 0 rfl) ?_
    refine va_get (D := g) (ci := 1) (v := .ref (ad 14)) (C := kR1) (T := kT1) (N := 12) hx hb hts kw1 hown hK hP 2 rfl rfl 1 (by decide) (hts _ wm_110) (fun _ h9 => h9) rfl d_R_meet_16 ?_
    refine lv_iload_n hx hb d_R_meet_19 rfl (lv_at hl 1 rfl) ?_
    obtain ⟨hg_4, hF⟩ := gd_inv hF
    refine va_zald hx hb hK hP 14 2 rfl rfl hg_4 d_R_meet_20 ?_
    refine lv_aload_n hx hb d_R_meet_21 rfl (lv_at hl 0 rfl) ?_
    refine va_get (D := g) (ci := 1) (v := .ref (ad 14)) (C := kR1) (T := kT1) (N := 12) hx hb hts kw1 hown hK hP 2 rfl rfl 1 (by decide) (hts _ wm_110) (fun _ h9 => h9) rfl d_R_meet_22 ?_
    refine lv_iload_n hx hb d_R_meet_25 rfl (lv_at hl 2 rfl) ?_
    obtain ⟨hg_5, hF⟩ := gd_inv hF
    refine va_zald hx hb hK hP 14 2 rfl rfl hg_5 d_R_meet_26 ?_
    refine lv_icmp_eq (tgt := 32) hx hb d_R_meet_27 (by decide) (fun hc_6 => ?_) (fun hc_6 => ?_)
    · have hF := it_t hF hc_6
      refine lv_aload_n hx hb d_R_meet_32 rfl (lv_at hl 0 rfl) ?_
      refine va_get (D := g) (ci := 1) (v := .ref (ad 14)) (C := kR1) (T := kT1) (N := 12) hx hb hts kw1 hown hK hP 2 rfl rfl 1 (by decide) (hts _ wm_110) (fun _ h9 => h9) rfl d_R_meet_33 ?_
      refine lv_iload_n hx hb d_R_meet_36 rfl (lv_at hl 1 rfl) ?_
      obtain ⟨hg_7, hF⟩ := gd_inv hF
      refine va_zald hx hb hK hP 14 2 rfl rfl hg_7 d_R_meet_37 ?_
      refine lv_if_eq (tgt := 73) hx hb d_R_meet_38 (by decide) (fun hc_8 => ?_) (fun hc_8 => ?_)
      · have hF := it_t hF hc_8
        refine lv_iconst (v := 1) hx hb d_R_meet_73 (by decide) ?_
        refine lv_goto (tgt := 78) hx hb d_R_meet_74 (by decide) ?_
        cases hF
        exact krz K hP hD hS d_R_meet_78 rfl rfl
      · have hF := it_f hF hc_8
        refine lv_aload_n hx hb d_R_meet_41 rfl (lv_at hl 0 rfl) ?_
        refine va_get (D := g) (ci := 1) (v := .ref (ad 15)) (C := kR1) (T := kT1) (N := 12) hx hb hts kw1 hown hK hP 2 rfl rfl 2 (by decide) (hts _ wm_112) (fun _ h9 => h9) rfl d_R_meet_42 ?_
        refine lv_iload_n hx hb d_R_meet_45 rfl (lv_at hl 1 rfl) ?_
        obtain ⟨hg_9, hF⟩ := gd_inv hF
        refine va_lald hx hb hK hP 15 1 rfl rfl hg_9 d_R_meet_46 ?_
        refine lv_aload_n hx hb d_R_meet_47 rfl (lv_at hl 0 rfl) ?_
        refine va_get (D := g) (ci := 1) (v := .ref (ad 16)) (C := kR1) (T := kT1) (N := 12) hx hb hts kw1 hown hK hP 2 rfl rfl 3 (by decide) (hts _ wm_114) (fun _ h9 => h9) rfl d_R_meet_48 ?_
        refine lv_iload_n hx hb d_R_meet_51 rfl (lv_at hl 2 rfl) ?_
        obtain ⟨hg_10, hF⟩ := gd_inv hF
        refine va_lald hx hb hK hP 16 1 rfl rfl hg_10 d_R_meet_52 ?_
        refine W.lcmp hx hb d_R_meet_53 ?_
        refine lv_if_gt (tgt := 77) hx hb d_R_meet_54 (by decide) (fun hc_11 => ?_) (fun hc_11 => ?_)
        · have hF := it_t hF hc_11
          refine lv_iconst (v := 0) hx hb d_R_meet_77 (by decide) ?_
          cases hF
          exact krz K hP hD hS d_R_meet_78 rfl rfl
        · have hF := it_f hF hc_11
          refine lv_aload_n hx hb d_R_meet_57 rfl (lv_at hl 0 rfl) ?_
          refine va_get (D := g) (ci := 1) (v := .ref (ad 15)) (C := kR1) (T := kT1) (N := 12) hx hb hts kw1 hown hK hP 2 rfl rfl 2 (by decide) (hts _ wm_112) (fun _ h9 => h9) rfl d_R_meet_58 ?_
          refine lv_iload_n hx hb d_R_meet_61 rfl (lv_at hl 2 rfl) ?_
          obtain ⟨hg_12, hF⟩ := gd_inv hF
          refine va_lald hx hb hK hP 15 1 rfl rfl hg_12 d_R_meet_62 ?_
          refine lv_aload_n hx hb d_R_meet_63 rfl (lv_at hl 0 rfl) ?_
          refine va_get (D := g) (ci := 1) (v := .ref (ad 16)) (C := kR1) (T := kT1) (N := 12) hx hb hts kw1 hown hK hP 2 rfl rfl 3 (by decide) (hts _ wm_114) (fun _ h9 => h9) rfl d_R_meet_64 ?_
          refine lv_iload_n hx hb d_R_meet_67 rfl (lv_at hl 1 rfl) ?_
          obtain ⟨hg_13, hF⟩ := gd_inv hF
          refine va_lald hx hb hK hP 16 1 rfl rfl hg_13 d_R_meet_68 ?_
          refine W.lcmp hx hb d_R_meet_69 ?_
          refine lv_if_gt (tgt := 77) hx hb d_R_meet_70 (by decide) (fun hc_14 => ?_) (fun hc_14 => ?_)
          · have hF := it_t hF hc_14
            refine lv_iconst (v := 0) hx hb d_R_meet_77 (by decide) ?_
            cases hF
            exact krz K hP hD hS d_R_meet_78 rfl rfl
          · have hF := it_f hF hc_14
            refine lv_iconst (v := 1) hx hb d_R_meet_73 (by decide) ?_
            refine lv_goto (tgt := 78) hx hb d_R_meet_74 (by decide) ?_
            cases hF
            exact krz K hP hD hS d_R_meet_78 rfl rfl
    · have hF := it_f hF hc_6
      refine lv_iconst (v := 0) hx hb d_R_meet_30 (by decide) ?_
      cases hF
      exact krz K hP hD hS d_R_meet_31 rfl rfl
theorem c_R_meet (l : Launch) (g : va_G) (cI cJ cZ : ClassId) (ad : Nat → Nat) (xst : Nat → Int32) (xse : Nat → Int32) (xre : Nat → Int32) (xgr : Nat → Int32) (ltm : Nat → Int32) (low : Nat → Int32) (lta : Nat → Int32) (llo : Nat → Int64) (lhi : Nat → Int64) (lmo : Nat → Int32) (rta : Nat → Int32) (ron : Nat → Int32) (rlo : Nat → Int64) (rhi : Nat → Int64) (rmo : Nat → Int32) (rin : Nat → Int32) (res : Nat → Int32) (rsi : Nat → Int32) (rli : Nat → Int32) (rar : Nat → Int32) (xgc : Int32) (xca : Int32) (xls : Int32) (xtl : Int32) (xno : Int32) (lco : Int32) (rwa : Int32) (rad : Int32) (rest : va_W) (a1 : Int32) (a2 : Int32) (r : Int32) (hF : F_R_meet rta ron rlo rhi a1 a2 = some r) : Ci l y_R_meet prog_4_method_9_code 3 (some .boolean) ({ frames := 0, cells := 0, slots := 0, locals := 0 }) [.ref (ad 2), .int a1, .int a2] g (kty cI cJ cZ) (wC cI cJ cZ ad xst xse xre xgr ltm low lta llo lhi lmo rta ron rlo rhi rmo rin res rsi rli rar xgc xca xls xtl xno lco rwa rad rest) (wC cI cJ cZ ad xst xse xre xgr ltm low lta llo lhi lmo rta ron rlo rhi rmo rin res rsi rli rar xgc xca xls xtl xno lco rwa rad rest) r :=
  Ci.of (by decide) (Nat.le_of_ble_eq_true rfl) (fun p e s m below meth c A ls K hP hD hS hl => t_R_meet K xst xse xre xgr ltm low lta llo lhi lmo rta ron rlo rhi rmo rin res rsi rli rar xgc xca xls xtl xno lco rwa rad a1 a2 r hF hP hD hS hl)
def F_R_againstBefore_L4 (rta : Nat → Int32) (ron : Nat → Int32) (rlo : Nat → Int64) (rhi : Nat → Int64) (rmo : Nat → Int32) (rli : Nat → Int32) (rwa : Int32) (v1 : Int32) : Nat → Int32 → Int32 → Option (Int32)
  | 0, _, _ => none
  | n + 1, v2, v3 => if rwa ≤ v3 then some v2 else gd (v3 < 0 ∨ 8 ≤ v3.toNatClampNeg) (if (rli v3.toNatClampNeg) = v1 then some v2 else gd (v3 < 0 ∨ 8 ≤ v3.toNatClampNeg) (ob1 (F_R_meet rta ron rlo rhi v1 (rli v3.toNatClampNeg)) (fun r_5 => if r_5 = 0 then F_R_againstBefore_L4 rta ron rlo rhi rmo rli rwa v1 n v2 (v3 + 1) else gd (v1 < 0 ∨ 8 ≤ v1.toNatClampNeg) (gd ((rli v3.toNatClampNeg) < 0 ∨ 8 ≤ (rli v3.toNatClampNeg).toNatClampNeg) (ob1 (F_K_goTogether (rmo v1.toNatClampNeg) (rmo (rli v3.toNatClampNeg).toNatClampNeg)) (fun r_9 => if r_9 = 0 then F_R_againstBefore_L4 rta ron rlo rhi rmo rli rwa v1 n (v2 ||| (1 <<< ((rli v3.toNatClampNeg) &&& 31))) (v3 + 1) else F_R_againstBefore_L4 rta ron rlo rhi rmo rli rwa v1 n v2 (v3 + 1)))))))
def F_R_againstBefore (rta : Nat → Int32) (ron : Nat → Int32) (rlo : Nat → Int64) (rhi : Nat → Int64) (rmo : Nat → Int32) (rli : Nat → Int32) (rwa : Int32) (a1 : Int32) : Option (Int32) :=
  ob1 (F_R_againstBefore_L4 rta ron rlo rhi rmo rli rwa a1 fu 0 0) (fun v2_11 => some v2_11)
set_option maxHeartbeats 4000000 in
set_option maxRecDepth 100000 in
theorem t_R_againstBefore_L4 {p : Program} {l : Launch} {e : Env} {s : State} {m : MethodId} {args : Array Value} {below : List Frame} {meth : Method} {c : Code} {A : Nat → Prop} {g : va_G} {cI cJ cZ : ClassId} {ad : Nat → Nat} {rest : va_W} (K : kX p s m args meth c "LockTable$Requests" prog_4_method_7_code 5 (some .int) A g (kty cI cJ cZ)) {Q : State → Prop} (xst : Nat → Int32) (xse : Nat → Int32) (xre : Nat → Int32) (xgr : Nat → Int32) (ltm : Nat → Int32) (low : Nat → Int32) (lta : Nat → Int32) (llo : Nat → Int64) (lhi : Nat → Int64) (lmo : Nat → Int32) (rta : Nat → Int32) (ron : Nat → Int32) (rlo : Nat → Int64) (rhi : Nat → Int64) (rmo : Nat → Int32) (rin : Nat → Int32) (res : Nat → Int32) (rsi : Nat → Int32) (rli : Nat → Int32) (rar : Nat → Int32) (xgc : Int32) (xca : Int32) (xls : Int32) (xtl : Int32) (xno : Int32) (lco : Int32) (rwa : Int32) (rad : Int32) (v1 : Int32) : ∀ (n : Nat) (v2 : Int32) (v3 : Int32) (o_v2 : Int32) (H : Heap) (locs : List Loc) (ls : Array Slot), F_R_againstBefore_L4 rta ron rlo rhi rmo rli rwa v1 n v2 v3 = some o_v2 → va_P g kcl (wC cI cJ cZ ad xst xse xre xgr ltm low lta llo lhi lmo rta ron rlo rhi rmo rin res rsi rli rar xgc xca xls xtl xno lco rwa rad rest) H → va_D A (wC cI cJ cZ ad xst xse xre xgr ltm low lta llo lhi lmo rta ron rlo rhi rmo rin res rsi rli rar xgc xca xls xtl xno lco rwa rad rest) → va_S A s.heap H locs → lv_has ls 5 [(0, .ref (ad 2)), (1, .int v1), (2, .int v2), (3, .int v3)] → (∀ (H : Heap) (locs : List Loc) (ls : Array Slot), va_P g kcl (wC cI cJ cZ ad xst xse xre xgr ltm low lta llo lhi lmo rta ron rlo rhi rmo rin res rsi rli rar xgc xca xls xtl xno lco rwa rad rest) H → va_D A (wC cI cJ cZ ad xst xse xre xgr ltm low lta llo lhi lmo rta ron rlo rhi rmo rin res rsi rli rar xgc xca xls xtl xno lco rwa rad rest) → va_S A s.heap H locs → lv_has ls 5 [(2, .int o_v2)] → W p l e ({ frames := 1, cells := 0, slots := 0, locals := 22 }) s m args below meth c H locs 0 0 Q (F0 m 72 ls [])) → W p l e ({ frames := 1, cells := 0, slots := 0, locals := 22 }) s m args below meth c H locs 0 0 Q (F0 m 4 ls []) := by
  obtain ⟨hx, hb, hr, hml, hown, hts, hlocks, hK, hA, hE⟩ := id K
  intro n
  induction n with
  | zero =>
    intro v2 v3 o_v2 H locs ls hF
    rw [F_R_againstBefore_L4] at hF
    cases hF
  | succ n ih =>
    intro v2 v3 o_v2 H locs ls hF hP hD hS hl hQ
    rw [F_R_againstBefore_L4] at hF
    refine lv_iload_n hx hb d_R_againstBefore_4 rfl (lv_at hl 3 rfl) ?_
    refine lv_aload_n hx hb d_R_againstBefore_5 rfl (lv_at hl 0 rfl) ?_
    refine va_get (D := g) (ci := 1) (v := .int rwa) (C := kR1) (T := kT1) (N := 12) hx hb hts kw1 hown hK hP 2 rfl rfl 9 (by decide) (hts _ wm_126) (fun _ h9 => h9) rfl d_R_againstBefore_6 ?_
    refine lv_icmp_ge (tgt := 72) hx hb d_R_againstBefore_9 (by decide) (fun hc_1 => ?_) (fun hc_1 => ?_)
    · have hF := it_t hF hc_1
      cases hF
      exact hQ H locs ls hP hD hS (lv_sub hl [2] rfl)
    · have hF := it_f hF hc_1
      refine lv_aload_n hx hb d_R_againstBefore_12 rfl (lv_at hl 0 rfl) ?_
      refine va_get (D := g) (ci := 1) (v := .ref (ad 21)) (C := kR1) (T := kT1) (N := 12) hx hb hts kw1 hown hK hP 2 rfl rfl 8 (by decide) (hts _ wm_124) (fun _ h9 => h9) rfl d_R_againstBefore_13 ?_
      refine lv_iload_n hx hb d_R_againstBefore_16 rfl (lv_at hl 3 rfl) ?_
      obtain ⟨hg_2, hF⟩ := gd_inv hF
      refine va_iald hx hb hK hP 21 0 rfl rfl hg_2 d_R_againstBefore_17 ?_
      refine lv_iload_n hx hb d_R_againstBefore_18 rfl (lv_at hl 1 rfl) ?_
      refine lv_icmp_eq (tgt := 72) hx hb d_R_againstBefore_19 (by decide) (fun hc_3 => ?_) (fun hc_3 => ?_)
      · have hF := it_t hF hc_3
        cases hF
        exact hQ H locs ls hP hD hS (lv_sub hl [2] rfl)
      · have hF := it_f hF hc_3
        refine lv_aload_n hx hb d_R_againstBefore_22 rfl (lv_at hl 0 rfl) ?_
        refine va_get (D := g) (ci := 1) (v := .ref (ad 21)) (C := kR1) (T := kT1) (N := 12) hx hb hts kw1 hown hK hP 2 rfl rfl 8 (by decide) (hts _ wm_124) (fun _ h9 => h9) rfl d_R_againstBefore_23 ?_
        refine lv_iload_n hx hb d_R_againstBefore_26 rfl (lv_at hl 3 rfl) ?_
        obtain ⟨hg_4, hF⟩ := gd_inv hF
        refine va_iald hx hb hK hP 21 0 rfl rfl hg_4 d_R_againstBefore_27 ?_
        refine lv_istore (lv' := [(4, .int (rli v3.toNatClampNeg)), (0, .ref (ad 2)), (1, .int v1), (2, .int v2), (3, .int v3)]) hx hb d_R_againstBefore_28 hl (by decide) rfl (fun ls hl => ?_)
        refine lv_aload_n hx hb d_R_againstBefore_30 rfl (lv_at hl 1 rfl) ?_
        refine lv_iload_n hx hb d_R_againstBefore_31 rfl (lv_at hl 2 rfl) ?_
        refine lv_iload hx hb d_R_againstBefore_32 (lv_at hl 0 rfl) ?_
        obtain ⟨r_5, hG, hF⟩ := ob1_inv hF
        refine kci K hP hD hS (c_R_meet l g cI cJ cZ ad xst xse xre xgr ltm low lta llo lhi lmo rta ron rlo rhi rmo rin res rsi rli rar xgc xca xls xtl xno lco rwa rad rest v1 (rli v3.toNatClampNeg) r_5 hG) wm_388 wm_385 wm_387 wm_7 wm_49 hd_R_meet rfl rfl ⟨Nat.le_of_ble_eq_true rfl, Nat.le_of_ble_eq_true rfl⟩ ⟨Nat.zero_le _, Nat.zero_le _⟩ 1 2 rfl rfl rfl hl.1 (rest := []) rfl (Nat.le_of_ble_eq_true rfl) d_R_againstBefore_34 (fun H locs hP hD hS => ?_)
        refine lv_if_eq (tgt := 66) hx hb d_R_againstBefore_37 (by decide) (fun hc_6 => ?_) (fun hc_6 => ?_)
        · have hF := it_t hF hc_6
          refine lv_iinc (v := v3 + 1) (lv' := [(3, .int (v3 + 1)), (4, .int (rli v3.toNatClampNeg)), (0, .ref (ad 2)), (1, .int v1), (2, .int v2)]) hx hb d_R_againstBefore_66 hl (k := 4) rfl rfl (by decide) rfl (fun ls hl => ?_)
          refine lv_goto (tgt := 4) hx hb d_R_againstBefore_69 (by decide) ?_
          exact ih _ _ _ H locs ls hF hP hD hS (lv_sub hl [2, 3, 4, 0] rfl) hQ
        · have hF := it_f hF hc_6
          refine lv_aload_n hx hb d_R_againstBefore_40 rfl (lv_at hl 1 rfl) ?_
          refine va_get (D := g) (ci := 1) (v := .ref (ad 17)) (C := kR1) (T := kT1) (N := 12) hx hb hts kw1 hown hK hP 2 rfl rfl 4 (by decide) (hts _ wm_116) (fun _ h9 => h9) rfl d_R_againstBefore_41 ?_
          refine lv_iload_n hx hb d_R_againstBefore_44 rfl (lv_at hl 2 rfl) ?_
          obtain ⟨hg_7, hF⟩ := gd_inv hF
          refine va_iald hx hb hK hP 17 0 rfl rfl hg_7 d_R_againstBefore_45 ?_
          refine lv_aload_n hx hb d_R_againstBefore_46 rfl (lv_at hl 1 rfl) ?_
          refine va_get (D := g) (ci := 1) (v := .ref (ad 17)) (C := kR1) (T := kT1) (N := 12) hx hb hts kw1 hown hK hP 2 rfl rfl 4 (by decide) (hts _ wm_116) (fun _ h9 => h9) rfl d_R_againstBefore_47 ?_
          refine lv_iload hx hb d_R_againstBefore_50 (lv_at hl 0 rfl) ?_
          obtain ⟨hg_8, hF⟩ := gd_inv hF
          refine va_iald hx hb hK hP 17 0 rfl rfl hg_8 d_R_againstBefore_52 ?_
          obtain ⟨r_9, hG, hF⟩ := ob1_inv hF
          refine ksi K hP hD hS (c_K_goTogether l g (kty cI cJ cZ) (wC cI cJ cZ ad xst xse xre xgr ltm low lta llo lhi lmo rta ron rlo rhi rmo rin res rsi rli rar xgc xca xls xtl xno lco rwa rad rest) (rmo v1.toNatClampNeg) (rmo (rli v3.toNatClampNeg).toNatClampNeg) r_9 hG) wm_375 wm_389 wm_374 wm_56 hd_K_goTogether rfl rfl ⟨Nat.le_of_ble_eq_true rfl, Nat.le_of_ble_eq_true rfl⟩ ⟨Nat.zero_le _, Nat.zero_le _⟩ hl.1 (rest := []) rfl (Nat.le_of_ble_eq_true rfl) d_R_againstBefore_53 (fun H locs hP hD hS => ?_)
          refine lv_if_ne (tgt := 66) hx hb d_R_againstBefore_56 (by decide) (fun hc_10 => ?_) (fun hc_10 => ?_)
          · have hF := it_f hF hc_10
            refine lv_iinc (v := v3 + 1) (lv' := [(3, .int (v3 + 1)), (4, .int (rli v3.toNatClampNeg)), (0, .ref (ad 2)), (1, .int v1), (2, .int v2)]) hx hb d_R_againstBefore_66 hl (k := 4) rfl rfl (by decide) rfl (fun ls hl => ?_)
            refine lv_goto (tgt := 4) hx hb d_R_againstBefore_69 (by decide) ?_
            exact ih _ _ _ H locs ls hF hP hD hS (lv_sub hl [2, 3, 4, 0] rfl) hQ
          · have hF := it_t hF hc_10
            refine lv_iload_n hx hb d_R_againstBefore_59 rfl (lv_at hl 3 rfl) ?_
            refine lv_iconst (v := 1) hx hb d_R_againstBefore_60 (by decide) ?_
            refine lv_iload hx hb d_R_againstBefore_61 (lv_at hl 0 rfl) ?_
            refine lv_ishl hx hb d_R_againstBefore_63 ?_
            refine lv_ior hx hb d_R_againstBefore_64 ?_
            refine lv_istore_n (lv' := [(2, .int (v2 ||| (1 <<< ((rli v3.toNatClampNeg) &&& 31)))), (4, .int (rli v3.toNatClampNeg)), (0, .ref (ad 2)), (1, .int v1), (3, .int v3)]) hx hb d_R_againstBefore_65 rfl hl (by decide) rfl (fun ls hl => ?_)
            refine lv_iinc (v := v3 + 1) (lv' := [(3, .int (v3 + 1)), (2, .int (v2 ||| (1 <<< ((rli v3.toNatClampNeg) &&& 31)))), (4, .int (rli v3.toNatClampNeg)), (0, .ref (ad 2)), (1, .int v1)]) hx hb d_R_againstBefore_66 hl (k := 4) rfl rfl (by decide) rfl (fun ls hl => ?_)
            refine lv_goto (tgt := 4) hx hb d_R_againstBefore_69 (by decide) ?_
            exact ih _ _ _ H locs ls hF hP hD hS (lv_sub hl [3, 4, 1, 0] rfl) hQ
set_option maxHeartbeats 4000000 in
set_option maxRecDepth 100000 in
theorem t_R_againstBefore {p : Program} {l : Launch} {e : Env} {s : State} {m : MethodId} {args : Array Value} {below : List Frame} {meth : Method} {c : Code} {A : Nat → Prop} {g : va_G} {cI cJ cZ : ClassId} {ad : Nat → Nat} {rest : va_W} (K : kX p s m args meth c "LockTable$Requests" prog_4_method_7_code 5 (some .int) A g (kty cI cJ cZ)) (xst : Nat → Int32) (xse : Nat → Int32) (xre : Nat → Int32) (xgr : Nat → Int32) (ltm : Nat → Int32) (low : Nat → Int32) (lta : Nat → Int32) (llo : Nat → Int64) (lhi : Nat → Int64) (lmo : Nat → Int32) (rta : Nat → Int32) (ron : Nat → Int32) (rlo : Nat → Int64) (rhi : Nat → Int64) (rmo : Nat → Int32) (rin : Nat → Int32) (res : Nat → Int32) (rsi : Nat → Int32) (rli : Nat → Int32) (rar : Nat → Int32) (xgc : Int32) (xca : Int32) (xls : Int32) (xtl : Int32) (xno : Int32) (lco : Int32) (rwa : Int32) (rad : Int32) (a1 : Int32) (r : Int32) (hF : F_R_againstBefore rta ron rlo rhi rmo rli rwa a1 = some r) {H : Heap} {locs : List Loc} {ls : Array Slot} (hP : va_P g kcl (wC cI cJ cZ ad xst xse xre xgr ltm low lta llo lhi lmo rta ron rlo rhi rmo rin res rsi rli rar xgc xca xls xtl xno lco rwa rad rest) H) (hD : va_D A (wC cI cJ cZ ad xst xse xre xgr ltm low lta llo lhi lmo rta ron rlo rhi rmo rin res rsi rli rar xgc xca xls xtl xno lco rwa rad rest)) (hS : va_S A s.heap H locs) (hl : lv_has ls 5 [(0, .ref (ad 2)), (1, .int a1)]) : W p l e ({ frames := 1, cells := 0, slots := 0, locals := 22 }) s m args below meth c H locs 0 0 (MQ below (kQi g (kty cI cJ cZ) (wC cI cJ cZ ad xst xse xre xgr ltm low lta llo lhi lmo rta ron rlo rhi rmo rin res rsi rli rar xgc xca xls xtl xno lco rwa rad rest) A r) args s 0 0 A) (F0 m 0 ls []) := by
  obtain ⟨hx, hb, hr, hml, hown, hts, hlocks, hK, hA, hE⟩ := id K
  unfold F_R_againstBefore at hF
  refine lv_iconst (v := 0) hx hb d_R_againstBefore_0 (by decide) ?_
  refine lv_istore_n (lv' := [(2, .int 0), (0, .ref (ad 2)), (1, .int a1)]) hx hb d_R_againstBefore_1 rfl hl (by decide) rfl (fun ls hl => ?_)
  refine lv_iconst (v := 0) hx hb d_R_againstBefore_2 (by decide) ?_
  refine lv_istore_n (lv' := [(3, .int 0), (2, .int 0), (0, .ref (ad 2)), (1, .int a1)]) hx hb d_R_againstBefore_3 rfl hl (by decide) rfl (fun ls hl => ?_)
  obtain ⟨v2_11, hG, hF⟩ := ob1_inv hF
  refine t_R_againstBefore_L4 K xst xse xre xgr ltm low lta llo lhi lmo rta ron rlo rhi rmo rin res rsi rli rar xgc xca xls xtl xno lco rwa rad a1 fu _ _ _ H locs ls hG hP hD hS (lv_sub hl [2, 3, 1, 0] rfl) (fun H locs ls hP hD hS hl => ?_)
  refine lv_iload_n hx hb d_R_againstBefore_72 rfl (lv_at hl 0 rfl) ?_
  cases hF
  exact kri K hP hD hS d_R_againstBefore_73 rfl
theorem c_R_againstBefore (l : Launch) (g : va_G) (cI cJ cZ : ClassId) (ad : Nat → Nat) (xst : Nat → Int32) (xse : Nat → Int32) (xre : Nat → Int32) (xgr : Nat → Int32) (ltm : Nat → Int32) (low : Nat → Int32) (lta : Nat → Int32) (llo : Nat → Int64) (lhi : Nat → Int64) (lmo : Nat → Int32) (rta : Nat → Int32) (ron : Nat → Int32) (rlo : Nat → Int64) (rhi : Nat → Int64) (rmo : Nat → Int32) (rin : Nat → Int32) (res : Nat → Int32) (rsi : Nat → Int32) (rli : Nat → Int32) (rar : Nat → Int32) (xgc : Int32) (xca : Int32) (xls : Int32) (xtl : Int32) (xno : Int32) (lco : Int32) (rwa : Int32) (rad : Int32) (rest : va_W) (a1 : Int32) (r : Int32) (hF : F_R_againstBefore rta ron rlo rhi rmo rli rwa a1 = some r) : Ci l y_R_againstBefore prog_4_method_7_code 5 (some .int) ({ frames := 1, cells := 0, slots := 0, locals := 22 }) [.ref (ad 2), .int a1] g (kty cI cJ cZ) (wC cI cJ cZ ad xst xse xre xgr ltm low lta llo lhi lmo rta ron rlo rhi rmo rin res rsi rli rar xgc xca xls xtl xno lco rwa rad rest) (wC cI cJ cZ ad xst xse xre xgr ltm low lta llo lhi lmo rta ron rlo rhi rmo rin res rsi rli rar xgc xca xls xtl xno lco rwa rad rest) r :=
  Ci.of (by decide) (Nat.le_of_ble_eq_true rfl) (fun p e s m below meth c A ls K hP hD hS hl => t_R_againstBefore K xst xse xre xgr ltm low lta llo lhi lmo rta ron rlo rhi rmo rin res rsi rli rar xgc xca xls xtl xno lco rwa rad a1 r hF hP hD hS hl)
def F_R_firstOverdue_L5 (rsi : Nat → Int32) (rli : Nat → Int32) (rar : Nat → Int32) (rwa : Int32) (v1 : Int32) (v2 : Int32) : Nat → Int32 → Int32 → Option (Int32)
  | 0, _, _ => none
  | n + 1, v3, v4 => if rwa ≤ v4 then some v3 else gd (v4 < 0 ∨ 8 ≤ v4.toNatClampNeg) (gd ((rli v4.toNatClampNeg) < 0 ∨ 8 ≤ (rli v4.toNatClampNeg).toNatClampNeg) (jn1 (fun (s_4 : Int32) => if s_4 = 0 then F_R_firstOverdue_L5 rsi rli rar rwa v1 v2 n v3 (v4 + 1) else if v3 = (-1) then F_R_firstOverdue_L5 rsi rli rar rwa v1 v2 n (rli v4.toNatClampNeg) (v4 + 1) else gd ((rli v4.toNatClampNeg) < 0 ∨ 8 ≤ (rli v4.toNatClampNeg).toNatClampNeg) (gd (v3 < 0 ∨ 8 ≤ v3.toNatClampNeg) (if (rar v3.toNatClampNeg) ≤ (rar (rli v4.toNatClampNeg).toNatClampNeg) then F_R_firstOverdue_L5 rsi rli rar rwa v1 v2 n v3 (v4 + 1) else F_R_firstOverdue_L5 rsi rli rar rwa v1 v2 n (rli v4.toNatClampNeg) (v4 + 1)))) (fun J41 => if (v1 - (rsi (rli v4.toNatClampNeg).toNatClampNeg)) < v2 then J41 0 else J41 1)))
def F_R_firstOverdue (rsi : Nat → Int32) (rli : Nat → Int32) (rar : Nat → Int32) (rwa : Int32) (a1 : Int32) (a2 : Int32) : Option (Int32) :=
  ob1 (F_R_firstOverdue_L5 rsi rli rar rwa a1 a2 fu (-1) 0) (fun v3_11 => some v3_11)
set_option maxHeartbeats 4000000 in
set_option maxRecDepth 100000 in
theorem t_R_firstOverdue_L5 {p : Program} {l : Launch} {e : Env} {s : State} {m : MethodId} {args : Array Value} {below : List Frame} {meth : Method} {c : Code} {A : Nat → Prop} {g : va_G} {cI cJ cZ : ClassId} {ad : Nat → Nat} {rest : va_W} (K : kX p s m args meth c "LockTable$Requests" prog_4_method_8_code 7 (some .int) A g (kty cI cJ cZ)) {Q : State → Prop} (xst : Nat → Int32) (xse : Nat → Int32) (xre : Nat → Int32) (xgr : Nat → Int32) (ltm : Nat → Int32) (low : Nat → Int32) (lta : Nat → Int32) (llo : Nat → Int64) (lhi : Nat → Int64) (lmo : Nat → Int32) (rta : Nat → Int32) (ron : Nat → Int32) (rlo : Nat → Int64) (rhi : Nat → Int64) (rmo : Nat → Int32) (rin : Nat → Int32) (res : Nat → Int32) (rsi : Nat → Int32) (rli : Nat → Int32) (rar : Nat → Int32) (xgc : Int32) (xca : Int32) (xls : Int32) (xtl : Int32) (xno : Int32) (lco : Int32) (rwa : Int32) (rad : Int32) (v1 : Int32) (v2 : Int32) : ∀ (n : Nat) (v3 : Int32) (v4 : Int32) (o_v3 : Int32) (H : Heap) (locs : List Loc) (ls : Array Slot), F_R_firstOverdue_L5 rsi rli rar rwa v1 v2 n v3 v4 = some o_v3 → va_P g kcl (wC cI cJ cZ ad xst xse xre xgr ltm low lta llo lhi lmo rta ron rlo rhi rmo rin res rsi rli rar xgc xca xls xtl xno lco rwa rad rest) H → va_D A (wC cI cJ cZ ad xst xse xre xgr ltm low lta llo lhi lmo rta ron rlo rhi rmo rin res rsi rli rar xgc xca xls xtl xno lco rwa rad rest) → va_S A s.heap H locs → lv_has ls 7 [(0, .ref (ad 2)), (1, .int v1), (2, .int v2), (3, .int v3), (4, .int v4)] → (∀ (H : Heap) (locs : List Loc) (ls : Array Slot), va_P g kcl (wC cI cJ cZ ad xst xse xre xgr ltm low lta llo lhi lmo rta ron rlo rhi rmo rin res rsi rli rar xgc xca xls xtl xno lco rwa rad rest) H → va_D A (wC cI cJ cZ ad xst xse xre xgr ltm low lta llo lhi lmo rta ron rlo rhi rmo rin res rsi rli rar xgc xca xls xtl xno lco rwa rad rest) → va_S A s.heap H locs → lv_has ls 7 [(3, .int o_v3)] → W p l e ({ frames := 0, cells := 0, slots := 0, locals := 0 }) s m args below meth c H locs 0 0 Q (F0 m 78 ls [])) → W p l e ({ frames := 0, cells := 0, slots := 0, locals := 0 }) s m args below meth c H locs 0 0 Q (F0 m 5 ls []) := by
  obtain ⟨hx, hb, hr, hml, hown, hts, hlocks, hK, hA, hE⟩ := id K
  intro n
  induction n with
  | zero =>
    intro v3 v4 o_v3 H locs ls hF
    rw [F_R_firstOverdue_L5] at hF
    cases hF
  | succ n ih =>
    intro v3 v4 o_v3 H locs ls hF hP hD hS hl hQ
    rw [F_R_firstOverdue_L5] at hF
    refine lv_iload hx hb d_R_firstOverdue_5 (lv_at hl 4 rfl) ?_
    refine lv_aload_n hx hb d_R_firstOverdue_7 rfl (lv_at hl 0 rfl) ?_
    refine va_get (D := g) (ci := 1) (v := .int rwa) (C := kR1) (T := kT1) (N := 12) hx hb hts kw1 hown hK hP 2 rfl rfl 9 (by decide) (hts _ wm_126) (fun _ h9 => h9) rfl d_R_firstOverdue_8 ?_
    refine lv_icmp_ge (tgt := 78) hx hb d_R_firstOverdue_11 (by decide) (fun hc_1 => ?_) (fun hc_1 => ?_)
    · have hF := it_t hF hc_1
      cases hF
      exact hQ H locs ls hP hD hS (lv_sub hl [3] rfl)
    · have hF := it_f hF hc_1
      refine lv_aload_n hx hb d_R_firstOverdue_14 rfl (lv_at hl 0 rfl) ?_
      refine va_get (D := g) (ci := 1) (v := .ref (ad 21)) (C := kR1) (T := kT1) (N := 12) hx hb hts kw1 hown hK hP 2 rfl rfl 8 (by decide) (hts _ wm_124) (fun _ h9 => h9) rfl d_R_firstOverdue_15 ?_
      refine lv_iload hx hb d_R_firstOverdue_18 (lv_at hl 4 rfl) ?_
      obtain ⟨hg_2, hF⟩ := gd_inv hF
      refine va_iald hx hb hK hP 21 0 rfl rfl hg_2 d_R_firstOverdue_20 ?_
      refine lv_istore (lv' := [(5, .int (rli v4.toNatClampNeg)), (0, .ref (ad 2)), (1, .int v1), (2, .int v2), (3, .int v3), (4, .int v4)]) hx hb d_R_firstOverdue_21 hl (by decide) rfl (fun ls hl => ?_)
      refine lv_iload_n hx hb d_R_firstOverdue_23 rfl (lv_at hl 2 rfl) ?_
      refine lv_aload_n hx hb d_R_firstOverdue_24 rfl (lv_at hl 1 rfl) ?_
      refine va_get (D := g) (ci := 1) (v := .ref (ad 20)) (C := kR1) (T := kT1) (N := 12) hx hb hts kw1 hown hK hP 2 rfl rfl 7 (by decide) (hts _ wm_122) (fun _ h9 => h9) rfl d_R_firstOverdue_25 ?_
      refine lv_iload hx hb d_R_firstOverdue_28 (lv_at hl 0 rfl) ?_
      obtain ⟨hg_3, hF⟩ := gd_inv hF
      refine va_iald hx hb hK hP 20 0 rfl rfl hg_3 d_R_firstOverdue_30 ?_
      refine lv_isub hx hb d_R_firstOverdue_31 ?_
      refine lv_iload_n hx hb d_R_firstOverdue_32 rfl (lv_at hl 3 rfl) ?_
      obtain ⟨J41, eJ41, hF⟩ := jn1_inv hF
      have hJ41 : ∀ (s_4 : Int32) (H : Heap) (locs : List Loc) (ls : Array Slot), J41 s_4 = some o_v3 → va_P g kcl (wC cI cJ cZ ad xst xse xre xgr ltm low lta llo lhi lmo rta ron rlo rhi rmo rin res rsi rli rar xgc xca xls xtl xno lco rwa rad rest) H → va_D A (wC cI cJ cZ ad xst xse xre xgr ltm low lta llo lhi lmo rta ron rlo rhi rmo rin res rsi rli rar xgc xca xls xtl xno lco rwa rad rest) → va_S A s.heap H locs → lv_has ls 7 [(0, .ref (ad 2)), (1, .int v1), (2, .int v2), (3, .int v3), (4, .int v4), (5, .int (rli v4.toNatClampNeg))] → W p l e ({ frames := 0, cells := 0, slots := 0, locals := 0 }) s m args below meth c H locs 0 0 Q (F0 m 41 ls [.int s_4]) := by
        intro s_4 H locs ls hF hP hD hS hl
        rw [eJ41] at hF
        refine lv_istore (lv' := [(6, .int s_4), (0, .ref (ad 2)), (1, .int v1), (2, .int v2), (3, .int v3), (4, .int v4), (5, .int (rli v4.toNatClampNeg))]) hx hb d_R_firstOverdue_41 hl (by decide) rfl (fun ls hl => ?_)
        refine lv_iload hx hb d_R_firstOverdue_43 (lv_at hl 0 rfl) ?_
        refine lv_if_eq (tgt := 72) hx hb d_R_firstOverdue_45 (by decide) (fun hc_5 => ?_) (fun hc_5 => ?_)
        · have hF := it_t hF hc_5
          refine lv_iinc (v := v4 + 1) (lv' := [(4, .int (v4 + 1)), (6, .int s_4), (0, .ref (ad 2)), (1, .int v1), (2, .int v2), (3, .int v3), (5, .int (rli v4.toNatClampNeg))]) hx hb d_R_firstOverdue_72 hl (k := 5) rfl rfl (by decide) rfl (fun ls hl => ?_)
          refine lv_goto (tgt := 5) hx hb d_R_firstOverdue_75 (by decide) ?_
          exact ih _ _ _ H locs ls hF hP hD hS (lv_sub hl [2, 3, 4, 5, 0] rfl) hQ
        · have hF := it_f hF hc_5
          refine lv_iload_n hx hb d_R_firstOverdue_48 rfl (lv_at hl 4 rfl) ?_
          refine lv_iconst (v := (-1)) hx hb d_R_firstOverdue_49 (by decide) ?_
          refine lv_icmp_eq (tgt := 69) hx hb d_R_firstOverdue_50 (by decide) (fun hc_6 => ?_) (fun hc_6 => ?_)
          · have hF := it_t hF hc_6
            refine lv_iload hx hb d_R_firstOverdue_69 (lv_at hl 6 rfl) ?_
            refine lv_istore_n (lv' := [(3, .int (rli v4.toNatClampNeg)), (6, .int s_4), (0, .ref (ad 2)), (1, .int v1), (2, .int v2), (4, .int v4), (5, .int (rli v4.toNatClampNeg))]) hx hb d_R_firstOverdue_71 rfl hl (by decide) rfl (fun ls hl => ?_)
            refine lv_iinc (v := v4 + 1) (lv' := [(4, .int (v4 + 1)), (3, .int (rli v4.toNatClampNeg)), (6, .int s_4), (0, .ref (ad 2)), (1, .int v1), (2, .int v2), (5, .int (rli v4.toNatClampNeg))]) hx hb d_R_firstOverdue_72 hl (k := 5) rfl rfl (by decide) rfl (fun ls hl => ?_)
            refine lv_goto (tgt := 5) hx hb d_R_firstOverdue_75 (by decide) ?_
            exact ih _ _ _ H locs ls hF hP hD hS (lv_sub hl [3, 4, 5, 1, 0] rfl) hQ
          · have hF := it_f hF hc_6
            refine lv_aload_n hx hb d_R_firstOverdue_53 rfl (lv_at hl 1 rfl) ?_
            refine va_get (D := g) (ci := 1) (v := .ref (ad 22)) (C := kR1) (T := kT1) (N := 12) hx hb hts kw1 hown hK hP 2 rfl rfl 10 (by decide) (hts _ wm_128) (fun _ h9 => h9) rfl d_R_firstOverdue_54 ?_
            refine lv_iload hx hb d_R_firstOverdue_57 (lv_at hl 6 rfl) ?_
            obtain ⟨hg_7, hF⟩ := gd_inv hF
            refine va_iald hx hb hK hP 22 0 rfl rfl hg_7 d_R_firstOverdue_59 ?_
            refine lv_aload_n hx hb d_R_firstOverdue_60 rfl (lv_at hl 1 rfl) ?_
            refine va_get (D := g) (ci := 1) (v := .ref (ad 22)) (C := kR1) (T := kT1) (N := 12) hx hb hts kw1 hown hK hP 2 rfl rfl 10 (by decide) (hts _ wm_128) (fun _ h9 => h9) rfl d_R_firstOverdue_61 ?_
            refine lv_iload_n hx hb d_R_firstOverdue_64 rfl (lv_at hl 4 rfl) ?_
            obtain ⟨hg_8, hF⟩ := gd_inv hF
            refine va_iald hx hb hK hP 22 0 rfl rfl hg_8 d_R_firstOverdue_65 ?_
            refine lv_icmp_ge (tgt := 72) hx hb d_R_firstOverdue_66 (by decide) (fun hc_9 => ?_) (fun hc_9 => ?_)
            · have hF := it_t hF hc_9
              refine lv_iinc (v := v4 + 1) (lv' := [(4, .int (v4 + 1)), (6, .int s_4), (0, .ref (ad 2)), (1, .int v1), (2, .int v2), (3, .int v3), (5, .int (rli v4.toNatClampNeg))]) hx hb d_R_firstOverdue_72 hl (k := 5) rfl rfl (by decide) rfl (fun ls hl => ?_)
              refine lv_goto (tgt := 5) hx hb d_R_firstOverdue_75 (by decide) ?_
              exact ih _ _ _ H locs ls hF hP hD hS (lv_sub hl [2, 3, 4, 5, 0] rfl) hQ
            · have hF := it_f hF hc_9
              refine lv_iload hx hb d_R_firstOverdue_69 (lv_at hl 6 rfl) ?_
              refine lv_istore_n (lv' := [(3, .int (rli v4.toNatClampNeg)), (6, .int s_4), (0, .ref (ad 2)), (1, .int v1), (2, .int v2), (4, .int v4), (5, .int (rli v4.toNatClampNeg))]) hx hb d_R_firstOverdue_71 rfl hl (by decide) rfl (fun ls hl => ?_)
              refine lv_iinc (v := v4 + 1) (lv' := [(4, .int (v4 + 1)), (3, .int (rli v4.toNatClampNeg)), (6, .int s_4), (0, .ref (ad 2)), (1, .int v1), (2, .int v2), (5, .int (rli v4.toNatClampNeg))]) hx hb d_R_firstOverdue_72 hl (k := 5) rfl rfl (by decide) rfl (fun ls hl => ?_)
              refine lv_goto (tgt := 5) hx hb d_R_firstOverdue_75 (by decide) ?_
              exact ih _ _ _ H locs ls hF hP hD hS (lv_sub hl [3, 4, 5, 1, 0] rfl) hQ
      refine lv_icmp_lt (tgt := 40) hx hb d_R_firstOverdue_33 (by decide) (fun hc_10 => ?_) (fun hc_10 => ?_)
      · have hF := it_t hF hc_10
        refine lv_iconst (v := 0) hx hb d_R_firstOverdue_40 (by decide) ?_
        exact hJ41 _ H locs ls hF hP hD hS (lv_sub hl [1, 2, 3, 4, 5, 0] rfl)
      · have hF := it_f hF hc_10
        refine lv_iconst (v := 1) hx hb d_R_firstOverdue_36 (by decide) ?_
        refine lv_goto (tgt := 41) hx hb d_R_firstOverdue_37 (by decide) ?_
        exact hJ41 _ H locs ls hF hP hD hS (lv_sub hl [1, 2, 3, 4, 5, 0] rfl)
set_option maxHeartbeats 4000000 in
set_option maxRecDepth 100000 in
theorem t_R_firstOverdue {p : Program} {l : Launch} {e : Env} {s : State} {m : MethodId} {args : Array Value} {below : List Frame} {meth : Method} {c : Code} {A : Nat → Prop} {g : va_G} {cI cJ cZ : ClassId} {ad : Nat → Nat} {rest : va_W} (K : kX p s m args meth c "LockTable$Requests" prog_4_method_8_code 7 (some .int) A g (kty cI cJ cZ)) (xst : Nat → Int32) (xse : Nat → Int32) (xre : Nat → Int32) (xgr : Nat → Int32) (ltm : Nat → Int32) (low : Nat → Int32) (lta : Nat → Int32) (llo : Nat → Int64) (lhi : Nat → Int64) (lmo : Nat → Int32) (rta : Nat → Int32) (ron : Nat → Int32) (rlo : Nat → Int64) (rhi : Nat → Int64) (rmo : Nat → Int32) (rin : Nat → Int32) (res : Nat → Int32) (rsi : Nat → Int32) (rli : Nat → Int32) (rar : Nat → Int32) (xgc : Int32) (xca : Int32) (xls : Int32) (xtl : Int32) (xno : Int32) (lco : Int32) (rwa : Int32) (rad : Int32) (a1 : Int32) (a2 : Int32) (r : Int32) (hF : F_R_firstOverdue rsi rli rar rwa a1 a2 = some r) {H : Heap} {locs : List Loc} {ls : Array Slot} (hP : va_P g kcl (wC cI cJ cZ ad xst xse xre xgr ltm low lta llo lhi lmo rta ron rlo rhi rmo rin res rsi rli rar xgc xca xls xtl xno lco rwa rad rest) H) (hD : va_D A (wC cI cJ cZ ad xst xse xre xgr ltm low lta llo lhi lmo rta ron rlo rhi rmo rin res rsi rli rar xgc xca xls xtl xno lco rwa rad rest)) (hS : va_S A s.heap H locs) (hl : lv_has ls 7 [(0, .ref (ad 2)), (1, .int a1), (2, .int a2)]) : W p l e ({ frames := 0, cells := 0, slots := 0, locals := 0 }) s m args below meth c H locs 0 0 (MQ below (kQi g (kty cI cJ cZ) (wC cI cJ cZ ad xst xse xre xgr ltm low lta llo lhi lmo rta ron rlo rhi rmo rin res rsi rli rar xgc xca xls xtl xno lco rwa rad rest) A r) args s 0 0 A) (F0 m 0 ls []) := by
  obtain ⟨hx, hb, hr, hml, hown, hts, hlocks, hK, hA, hE⟩ := id K
  unfold F_R_firstOverdue at hF
  refine lv_iconst (v := (-1)) hx hb d_R_firstOverdue_0 (by decide) ?_
  refine lv_istore_n (lv' := [(3, .int (-1)), (0, .ref (ad 2)), (1, .int a1), (2, .int a2)]) hx hb d_R_firstOverdue_1 rfl hl (by decide) rfl (fun ls hl => ?_)
  refine lv_iconst (v := 0) hx hb d_R_firstOverdue_2 (by decide) ?_
  refine lv_istore (lv' := [(4, .int 0), (3, .int (-1)), (0, .ref (ad 2)), (1, .int a1), (2, .int a2)]) hx hb d_R_firstOverdue_3 hl (by decide) rfl (fun ls hl => ?_)
  obtain ⟨v3_11, hG, hF⟩ := ob1_inv hF
  refine t_R_firstOverdue_L5 K xst xse xre xgr ltm low lta llo lhi lmo rta ron rlo rhi rmo rin res rsi rli rar xgc xca xls xtl xno lco rwa rad a1 a2 fu _ _ _ H locs ls hG hP hD hS (lv_sub hl [2, 3, 4, 1, 0] rfl) (fun H locs ls hP hD hS hl => ?_)
  refine lv_iload_n hx hb d_R_firstOverdue_78 rfl (lv_at hl 0 rfl) ?_
  cases hF
  exact kri K hP hD hS d_R_firstOverdue_79 rfl
theorem c_R_firstOverdue (l : Launch) (g : va_G) (cI cJ cZ : ClassId) (ad : Nat → Nat) (xst : Nat → Int32) (xse : Nat → Int32) (xre : Nat → Int32) (xgr : Nat → Int32) (ltm : Nat → Int32) (low : Nat → Int32) (lta : Nat → Int32) (llo : Nat → Int64) (lhi : Nat → Int64) (lmo : Nat → Int32) (rta : Nat → Int32) (ron : Nat → Int32) (rlo : Nat → Int64) (rhi : Nat → Int64) (rmo : Nat → Int32) (rin : Nat → Int32) (res : Nat → Int32) (rsi : Nat → Int32) (rli : Nat → Int32) (rar : Nat → Int32) (xgc : Int32) (xca : Int32) (xls : Int32) (xtl : Int32) (xno : Int32) (lco : Int32) (rwa : Int32) (rad : Int32) (rest : va_W) (a1 : Int32) (a2 : Int32) (r : Int32) (hF : F_R_firstOverdue rsi rli rar rwa a1 a2 = some r) : Ci l y_R_firstOverdue prog_4_method_8_code 7 (some .int) ({ frames := 0, cells := 0, slots := 0, locals := 0 }) [.ref (ad 2), .int a1, .int a2] g (kty cI cJ cZ) (wC cI cJ cZ ad xst xse xre xgr ltm low lta llo lhi lmo rta ron rlo rhi rmo rin res rsi rli rar xgc xca xls xtl xno lco rwa rad rest) (wC cI cJ cZ ad xst xse xre xgr ltm low lta llo lhi lmo rta ron rlo rhi rmo rin res rsi rli rar xgc xca xls xtl xno lco rwa rad rest) r :=
  Ci.of (by decide) (Nat.le_of_ble_eq_true rfl) (fun p e s m below meth c A ls K hP hD hS hl => t_R_firstOverdue K xst xse xre xgr ltm low lta llo lhi lmo rta ron rlo rhi rmo rin res rsi rli rar xgc xca xls xtl xno lco rwa rad a1 a2 r hF hP hD hS hl)
