theorem wm_775 : Cond.code ⟨"LockTableModel", "joinedWith", "(III)I"⟩ prog_6_method_12_code 5 (some .int) ∈ w_all := w_mem 775 (by decide +kernel) (by decide +kernel)
theorem wm_772 : Cond.methodLink "LockTableModel" 158 ⟨"LockTableModel", "joinedWith", "(III)I"⟩ ∈ w_all := w_mem 772 (by decide +kernel) (by decide +kernel)
theorem wm_774 : Cond.instanceMethod ⟨"LockTableModel", "joinedWith", "(III)I"⟩ ∈ w_all := w_mem 774 (by decide +kernel) (by decide +kernel)
theorem wm_21 : Cond.selects "LockTableModel" ⟨"LockTableModel", "joinedWith", "(III)I"⟩ ⟨"LockTableModel", "joinedWith", "(III)I"⟩ ∈ w_all := w_mem 21 (by decide +kernel) (by decide +kernel)
theorem wm_792 : Cond.code ⟨"LockTableModel", "ask", "(IZ)I"⟩ prog_6_method_29_code 3 (some .int) ∈ w_all := w_mem 792 (by decide +kernel) (by decide +kernel)
theorem wm_789 : Cond.methodLink "LockTableModel" 166 ⟨"LockTableModel", "ask", "(IZ)I"⟩ ∈ w_all := w_mem 789 (by decide +kernel) (by decide +kernel)
theorem wm_791 : Cond.instanceMethod ⟨"LockTableModel", "ask", "(IZ)I"⟩ ∈ w_all := w_mem 791 (by decide +kernel) (by decide +kernel)
theorem wm_23 : Cond.selects "LockTableModel" ⟨"LockTableModel", "ask", "(IZ)I"⟩ ⟨"LockTableModel", "ask", "(IZ)I"⟩ ∈ w_all := w_mem 23 (by decide +kernel) (by decide +kernel)
theorem wm_788 : Cond.code ⟨"LockTableModel", "counted", "()I"⟩ prog_6_method_49_code 3 (some .int) ∈ w_all := w_mem 788 (by decide +kernel) (by decide +kernel)
theorem wm_785 : Cond.methodLink "LockTableModel" 162 ⟨"LockTableModel", "counted", "()I"⟩ ∈ w_all := w_mem 785 (by decide +kernel) (by decide +kernel)
theorem wm_787 : Cond.instanceMethod ⟨"LockTableModel", "counted", "()I"⟩ ∈ w_all := w_mem 787 (by decide +kernel) (by decide +kernel)
theorem wm_22 : Cond.selects "LockTableModel" ⟨"LockTableModel", "counted", "()I"⟩ ⟨"LockTableModel", "counted", "()I"⟩ ∈ w_all := w_mem 22 (by decide +kernel) (by decide +kernel)
theorem wm_768 : Cond.code ⟨"LockTableModel", "isTable", "(I)Z"⟩ prog_6_method_5_code 1 (some .boolean) ∈ w_all := w_mem 768 (by decide +kernel) (by decide +kernel)
theorem wm_766 : Cond.methodLink "LockTableModel" 152 ⟨"LockTableModel", "isTable", "(I)Z"⟩ ∈ w_all := w_mem 766 (by decide +kernel) (by decide +kernel)
theorem wm_767 : Cond.static ⟨"LockTableModel", "isTable", "(I)Z"⟩ ∈ w_all := w_mem 767 (by decide +kernel) (by decide +kernel)
theorem wm_771 : Cond.code ⟨"LockTableModel", "isMode", "(I)Z"⟩ prog_6_method_6_code 1 (some .boolean) ∈ w_all := w_mem 771 (by decide +kernel) (by decide +kernel)
theorem wm_769 : Cond.methodLink "LockTableModel" 155 ⟨"LockTableModel", "isMode", "(I)Z"⟩ ∈ w_all := w_mem 769 (by decide +kernel) (by decide +kernel)
theorem wm_770 : Cond.static ⟨"LockTableModel", "isMode", "(I)Z"⟩ ∈ w_all := w_mem 770 (by decide +kernel) (by decide +kernel)
theorem wm_873 : Cond.code ⟨"LockTableModel", "writesRanges", "(II)Z"⟩ prog_6_method_32_code 5 (some .boolean) ∈ w_all := w_mem 873 (by decide +kernel) (by decide +kernel)
theorem wm_870 : Cond.methodLink "LockTableModel" 170 ⟨"LockTableModel", "writesRanges", "(II)Z"⟩ ∈ w_all := w_mem 870 (by decide +kernel) (by decide +kernel)
theorem wm_872 : Cond.instanceMethod ⟨"LockTableModel", "writesRanges", "(II)Z"⟩ ∈ w_all := w_mem 872 (by decide +kernel) (by decide +kernel)
theorem wm_40 : Cond.selects "LockTableModel" ⟨"LockTableModel", "writesRanges", "(II)Z"⟩ ⟨"LockTableModel", "writesRanges", "(II)Z"⟩ ∈ w_all := w_mem 40 (by decide +kernel) (by decide +kernel)
theorem wm_861 : Cond.code ⟨"LockTableModel", "rangeCovers", "(II)Z"⟩ prog_6_method_14_code 2 (some .boolean) ∈ w_all := w_mem 861 (by decide +kernel) (by decide +kernel)
theorem wm_859 : Cond.methodLink "LockTableModel" 173 ⟨"LockTableModel", "rangeCovers", "(II)Z"⟩ ∈ w_all := w_mem 859 (by decide +kernel) (by decide +kernel)
theorem wm_860 : Cond.static ⟨"LockTableModel", "rangeCovers", "(II)Z"⟩ ∈ w_all := w_mem 860 (by decide +kernel) (by decide +kernel)
theorem wm_854 : Cond.code ⟨"LockTableModel", "tableCovers", "(II)Z"⟩ prog_6_method_13_code 2 (some .boolean) ∈ w_all := w_mem 854 (by decide +kernel) (by decide +kernel)
theorem wm_852 : Cond.methodLink "LockTableModel" 176 ⟨"LockTableModel", "tableCovers", "(II)Z"⟩ ∈ w_all := w_mem 852 (by decide +kernel) (by decide +kernel)
theorem wm_853 : Cond.static ⟨"LockTableModel", "tableCovers", "(II)Z"⟩ ∈ w_all := w_mem 853 (by decide +kernel) (by decide +kernel)
theorem wm_858 : Cond.code ⟨"LockTableModel", "hasAround", "(IIJJI)Z"⟩ prog_6_method_34_code 11 (some .boolean) ∈ w_all := w_mem 858 (by decide +kernel) (by decide +kernel)
theorem wm_855 : Cond.methodLink "LockTableModel" 179 ⟨"LockTableModel", "hasAround", "(IIJJI)Z"⟩ ∈ w_all := w_mem 855 (by decide +kernel) (by decide +kernel)
theorem wm_857 : Cond.instanceMethod ⟨"LockTableModel", "hasAround", "(IIJJI)Z"⟩ ∈ w_all := w_mem 857 (by decide +kernel) (by decide +kernel)
theorem wm_37 : Cond.selects "LockTableModel" ⟨"LockTableModel", "hasAround", "(IIJJI)Z"⟩ ⟨"LockTableModel", "hasAround", "(IIJJI)Z"⟩ ∈ w_all := w_mem 37 (by decide +kernel) (by decide +kernel)
theorem wm_865 : Cond.code ⟨"LockTableModel", "rangesOf", "(II)I"⟩ prog_6_method_31_code 5 (some .int) ∈ w_all := w_mem 865 (by decide +kernel) (by decide +kernel)
theorem wm_862 : Cond.methodLink "LockTableModel" 183 ⟨"LockTableModel", "rangesOf", "(II)I"⟩ ∈ w_all := w_mem 862 (by decide +kernel) (by decide +kernel)
theorem wm_864 : Cond.instanceMethod ⟨"LockTableModel", "rangesOf", "(II)I"⟩ ∈ w_all := w_mem 864 (by decide +kernel) (by decide +kernel)
theorem wm_38 : Cond.selects "LockTableModel" ⟨"LockTableModel", "rangesOf", "(II)I"⟩ ⟨"LockTableModel", "rangesOf", "(II)I"⟩ ∈ w_all := w_mem 38 (by decide +kernel) (by decide +kernel)
theorem wm_869 : Cond.code ⟨"LockTableModel", "escalated", "(IIZ)I"⟩ prog_6_method_33_code 6 (some .int) ∈ w_all := w_mem 869 (by decide +kernel) (by decide +kernel)
theorem wm_866 : Cond.methodLink "LockTableModel" 186 ⟨"LockTableModel", "escalated", "(IIZ)I"⟩ ∈ w_all := w_mem 866 (by decide +kernel) (by decide +kernel)
theorem wm_868 : Cond.instanceMethod ⟨"LockTableModel", "escalated", "(IIZ)I"⟩ ∈ w_all := w_mem 868 (by decide +kernel) (by decide +kernel)
theorem wm_39 : Cond.selects "LockTableModel" ⟨"LockTableModel", "escalated", "(IIZ)I"⟩ ⟨"LockTableModel", "escalated", "(IIZ)I"⟩ ∈ w_all := w_mem 39 (by decide +kernel) (by decide +kernel)
theorem wm_885 : Cond.code ⟨"LockTableModel", "isIn", "(II)Z"⟩ prog_6_method_7_code 3 (some .boolean) ∈ w_all := w_mem 885 (by decide +kernel) (by decide +kernel)
theorem wm_882 : Cond.methodLink "LockTableModel" 190 ⟨"LockTableModel", "isIn", "(II)Z"⟩ ∈ w_all := w_mem 882 (by decide +kernel) (by decide +kernel)
theorem wm_884 : Cond.instanceMethod ⟨"LockTableModel", "isIn", "(II)Z"⟩ ∈ w_all := w_mem 884 (by decide +kernel) (by decide +kernel)
theorem wm_41 : Cond.selects "LockTableModel" ⟨"LockTableModel", "isIn", "(II)Z"⟩ ⟨"LockTableModel", "isIn", "(II)Z"⟩ ∈ w_all := w_mem 41 (by decide +kernel) (by decide +kernel)
theorem wm_893 : Cond.code ⟨"LockTableModel", "giveReading", "(I)V"⟩ prog_6_method_38_code 4 none ∈ w_all := w_mem 893 (by decide +kernel) (by decide +kernel)
theorem wm_890 : Cond.methodLink "LockTableModel" 193 ⟨"LockTableModel", "giveReading", "(I)V"⟩ ∈ w_all := w_mem 890 (by decide +kernel) (by decide +kernel)
theorem wm_892 : Cond.instanceMethod ⟨"LockTableModel", "giveReading", "(I)V"⟩ ∈ w_all := w_mem 892 (by decide +kernel) (by decide +kernel)
theorem wm_42 : Cond.selects "LockTableModel" ⟨"LockTableModel", "giveReading", "(I)V"⟩ ⟨"LockTableModel", "giveReading", "(I)V"⟩ ∈ w_all := w_mem 42 (by decide +kernel) (by decide +kernel)
theorem wm_897 : Cond.code ⟨"LockTableModel", "locksOf", "(I)I"⟩ prog_6_method_39_code 4 (some .int) ∈ w_all := w_mem 897 (by decide +kernel) (by decide +kernel)
theorem wm_894 : Cond.methodLink "LockTableModel" 196 ⟨"LockTableModel", "locksOf", "(I)I"⟩ ∈ w_all := w_mem 894 (by decide +kernel) (by decide +kernel)
theorem wm_896 : Cond.instanceMethod ⟨"LockTableModel", "locksOf", "(I)I"⟩ ∈ w_all := w_mem 896 (by decide +kernel) (by decide +kernel)
theorem wm_43 : Cond.selects "LockTableModel" ⟨"LockTableModel", "locksOf", "(I)I"⟩ ⟨"LockTableModel", "locksOf", "(I)I"⟩ ∈ w_all := w_mem 43 (by decide +kernel) (by decide +kernel)
theorem wm_691 : Cond.fieldLink "LockTableModel" 199 "LockTableModel" "limit" "I" ∈ w_all := w_mem 691 (by decide +kernel) (by decide +kernel)
theorem wm_917 : Cond.code ⟨"LockTableModel", "longest", "()I"⟩ prog_6_method_44_code 3 (some .int) ∈ w_all := w_mem 917 (by decide +kernel) (by decide +kernel)
theorem wm_914 : Cond.methodLink "LockTableModel" 202 ⟨"LockTableModel", "longest", "()I"⟩ ∈ w_all := w_mem 914 (by decide +kernel) (by decide +kernel)
theorem wm_916 : Cond.instanceMethod ⟨"LockTableModel", "longest", "()I"⟩ ∈ w_all := w_mem 916 (by decide +kernel) (by decide +kernel)
theorem wm_44 : Cond.selects "LockTableModel" ⟨"LockTableModel", "longest", "()I"⟩ ⟨"LockTableModel", "longest", "()I"⟩ ∈ w_all := w_mem 44 (by decide +kernel) (by decide +kernel)
abbrev y_M_counted : MethodName := ⟨"LockTableModel", "counted", "()I"⟩
theorem hd_M_counted : y_M_counted.cls ≠ "java/lang/invoke/MethodHandle" ∧ y_M_counted.cls ≠ "java/lang/invoke/VarHandle" ∧ (parseMethodDescriptor y_M_counted.desc).map (fun d => d.parameters.length) = some 0 := ⟨by decide, by decide, by decide +kernel⟩
abbrev y_M_table : MethodName := ⟨"LockTableModel", "table", "(III)I"⟩
theorem hd_M_table : y_M_table.cls ≠ "java/lang/invoke/MethodHandle" ∧ y_M_table.cls ≠ "java/lang/invoke/VarHandle" ∧ (parseMethodDescriptor y_M_table.desc).map (fun d => d.parameters.length) = some 3 := ⟨by decide, by decide, by decide +kernel⟩
abbrev y_M_rangesOf : MethodName := ⟨"LockTableModel", "rangesOf", "(II)I"⟩
theorem hd_M_rangesOf : y_M_rangesOf.cls ≠ "java/lang/invoke/MethodHandle" ∧ y_M_rangesOf.cls ≠ "java/lang/invoke/VarHandle" ∧ (parseMethodDescriptor y_M_rangesOf.desc).map (fun d => d.parameters.length) = some 2 := ⟨by decide, by decide, by decide +kernel⟩
abbrev y_M_writesRanges : MethodName := ⟨"LockTableModel", "writesRanges", "(II)Z"⟩
theorem hd_M_writesRanges : y_M_writesRanges.cls ≠ "java/lang/invoke/MethodHandle" ∧ y_M_writesRanges.cls ≠ "java/lang/invoke/VarHandle" ∧ (parseMethodDescriptor y_M_writesRanges.desc).map (fun d => d.parameters.length) = some 2 := ⟨by decide, by decide, by decide +kernel⟩
abbrev y_M_escalated : MethodName := ⟨"LockTableModel", "escalated", "(IIZ)I"⟩
theorem hd_M_escalated : y_M_escalated.cls ≠ "java/lang/invoke/MethodHandle" ∧ y_M_escalated.cls ≠ "java/lang/invoke/VarHandle" ∧ (parseMethodDescriptor y_M_escalated.desc).map (fun d => d.parameters.length) = some 3 := ⟨by decide, by decide, by decide +kernel⟩
abbrev y_M_hasAround : MethodName := ⟨"LockTableModel", "hasAround", "(IIJJI)Z"⟩
theorem hd_M_hasAround : y_M_hasAround.cls ≠ "java/lang/invoke/MethodHandle" ∧ y_M_hasAround.cls ≠ "java/lang/invoke/VarHandle" ∧ (parseMethodDescriptor y_M_hasAround.desc).map (fun d => d.parameters.length) = some 5 := ⟨by decide, by decide, by decide +kernel⟩
abbrev y_M_range : MethodName := ⟨"LockTableModel", "range", "(IIJJI)I"⟩
theorem hd_M_range : y_M_range.cls ≠ "java/lang/invoke/MethodHandle" ∧ y_M_range.cls ≠ "java/lang/invoke/VarHandle" ∧ (parseMethodDescriptor y_M_range.desc).map (fun d => d.parameters.length) = some 5 := ⟨by decide, by decide, by decide +kernel⟩
abbrev y_M_escalate : MethodName := ⟨"LockTableModel", "escalate", "(II)I"⟩
theorem hd_M_escalate : y_M_escalate.cls ≠ "java/lang/invoke/MethodHandle" ∧ y_M_escalate.cls ≠ "java/lang/invoke/VarHandle" ∧ (parseMethodDescriptor y_M_escalate.desc).map (fun d => d.parameters.length) = some 2 := ⟨by decide, by decide, by decide +kernel⟩
abbrev y_M_cancel : MethodName := ⟨"LockTableModel", "cancel", "(I)I"⟩
theorem hd_M_cancel : y_M_cancel.cls ≠ "java/lang/invoke/MethodHandle" ∧ y_M_cancel.cls ≠ "java/lang/invoke/VarHandle" ∧ (parseMethodDescriptor y_M_cancel.desc).map (fun d => d.parameters.length) = some 1 := ⟨by decide, by decide, by decide +kernel⟩
abbrev y_M_giveReading : MethodName := ⟨"LockTableModel", "giveReading", "(I)V"⟩
theorem hd_M_giveReading : y_M_giveReading.cls ≠ "java/lang/invoke/MethodHandle" ∧ y_M_giveReading.cls ≠ "java/lang/invoke/VarHandle" ∧ (parseMethodDescriptor y_M_giveReading.desc).map (fun d => d.parameters.length) = some 1 := ⟨by decide, by decide, by decide +kernel⟩
abbrev y_M_locksOf : MethodName := ⟨"LockTableModel", "locksOf", "(I)I"⟩
theorem hd_M_locksOf : y_M_locksOf.cls ≠ "java/lang/invoke/MethodHandle" ∧ y_M_locksOf.cls ≠ "java/lang/invoke/VarHandle" ∧ (parseMethodDescriptor y_M_locksOf.desc).map (fun d => d.parameters.length) = some 1 := ⟨by decide, by decide, by decide +kernel⟩
abbrev y_M_prepare : MethodName := ⟨"LockTableModel", "prepare", "(I)I"⟩
theorem hd_M_prepare : y_M_prepare.cls ≠ "java/lang/invoke/MethodHandle" ∧ y_M_prepare.cls ≠ "java/lang/invoke/VarHandle" ∧ (parseMethodDescriptor y_M_prepare.desc).map (fun d => d.parameters.length) = some 1 := ⟨by decide, by decide, by decide +kernel⟩
abbrev y_M_unread : MethodName := ⟨"LockTableModel", "unread", "(I)I"⟩
theorem hd_M_unread : y_M_unread.cls ≠ "java/lang/invoke/MethodHandle" ∧ y_M_unread.cls ≠ "java/lang/invoke/VarHandle" ∧ (parseMethodDescriptor y_M_unread.desc).map (fun d => d.parameters.length) = some 1 := ⟨by decide, by decide, by decide +kernel⟩
abbrev y_M_end : MethodName := ⟨"LockTableModel", "end", "(I)I"⟩
theorem hd_M_end : y_M_end.cls ≠ "java/lang/invoke/MethodHandle" ∧ y_M_end.cls ≠ "java/lang/invoke/VarHandle" ∧ (parseMethodDescriptor y_M_end.desc).map (fun d => d.parameters.length) = some 1 := ⟨by decide, by decide, by decide +kernel⟩
abbrev y_M_limit : MethodName := ⟨"LockTableModel", "limit", "(I)V"⟩
theorem hd_M_limit : y_M_limit.cls ≠ "java/lang/invoke/MethodHandle" ∧ y_M_limit.cls ≠ "java/lang/invoke/VarHandle" ∧ (parseMethodDescriptor y_M_limit.desc).map (fun d => d.parameters.length) = some 1 := ⟨by decide, by decide, by decide +kernel⟩
abbrev y_M_longest : MethodName := ⟨"LockTableModel", "longest", "()I"⟩
theorem hd_M_longest : y_M_longest.cls ≠ "java/lang/invoke/MethodHandle" ∧ y_M_longest.cls ≠ "java/lang/invoke/VarHandle" ∧ (parseMethodDescriptor y_M_longest.desc).map (fun d => d.parameters.length) = some 0 := ⟨by decide, by decide, by decide +kernel⟩
abbrev y_M_tick : MethodName := ⟨"LockTableModel", "tick", "(I)I"⟩
theorem hd_M_tick : y_M_tick.cls ≠ "java/lang/invoke/MethodHandle" ∧ y_M_tick.cls ≠ "java/lang/invoke/VarHandle" ∧ (parseMethodDescriptor y_M_tick.desc).map (fun d => d.parameters.length) = some 1 := ⟨by decide, by decide, by decide +kernel⟩
abbrev y_M_state : MethodName := ⟨"LockTableModel", "state", "(I)I"⟩
theorem hd_M_state : y_M_state.cls ≠ "java/lang/invoke/MethodHandle" ∧ y_M_state.cls ≠ "java/lang/invoke/VarHandle" ∧ (parseMethodDescriptor y_M_state.desc).map (fun d => d.parameters.length) = some 1 := ⟨by decide, by decide, by decide +kernel⟩
abbrev y_M_serial : MethodName := ⟨"LockTableModel", "serial", "(I)I"⟩
theorem hd_M_serial : y_M_serial.cls ≠ "java/lang/invoke/MethodHandle" ∧ y_M_serial.cls ≠ "java/lang/invoke/VarHandle" ∧ (parseMethodDescriptor y_M_serial.desc).map (fun d => d.parameters.length) = some 1 := ⟨by decide, by decide, by decide +kernel⟩
abbrev y_M_ranges : MethodName := ⟨"LockTableModel", "ranges", "(II)I"⟩
theorem hd_M_ranges : y_M_ranges.cls ≠ "java/lang/invoke/MethodHandle" ∧ y_M_ranges.cls ≠ "java/lang/invoke/VarHandle" ∧ (parseMethodDescriptor y_M_ranges.desc).map (fun d => d.parameters.length) = some 2 := ⟨by decide, by decide, by decide +kernel⟩
abbrev y_M_all : MethodName := ⟨"LockTableModel", "all", "()I"⟩
theorem hd_M_all : y_M_all.cls ≠ "java/lang/invoke/MethodHandle" ∧ y_M_all.cls ≠ "java/lang/invoke/VarHandle" ∧ (parseMethodDescriptor y_M_all.desc).map (fun d => d.parameters.length) = some 0 := ⟨by decide, by decide, by decide +kernel⟩
abbrev y_M_mode : MethodName := ⟨"LockTableModel", "mode", "(II)I"⟩
theorem hd_M_mode : y_M_mode.cls ≠ "java/lang/invoke/MethodHandle" ∧ y_M_mode.cls ≠ "java/lang/invoke/VarHandle" ∧ (parseMethodDescriptor y_M_mode.desc).map (fun d => d.parameters.length) = some 2 := ⟨by decide, by decide, by decide +kernel⟩
abbrev y_M_right : MethodName := ⟨"LockTableModel", "right", "(IIJ)I"⟩
theorem hd_M_right : y_M_right.cls ≠ "java/lang/invoke/MethodHandle" ∧ y_M_right.cls ≠ "java/lang/invoke/VarHandle" ∧ (parseMethodDescriptor y_M_right.desc).map (fun d => d.parameters.length) = some 3 := ⟨by decide, by decide, by decide +kernel⟩
abbrev y_M_queue : MethodName := ⟨"LockTableModel", "queue", "(I)I"⟩
theorem hd_M_queue : y_M_queue.cls ≠ "java/lang/invoke/MethodHandle" ∧ y_M_queue.cls ≠ "java/lang/invoke/VarHandle" ∧ (parseMethodDescriptor y_M_queue.desc).map (fun d => d.parameters.length) = some 1 := ⟨by decide, by decide, by decide +kernel⟩
abbrev y_M_wants : MethodName := ⟨"LockTableModel", "wants", "(II)I"⟩
theorem hd_M_wants : y_M_wants.cls ≠ "java/lang/invoke/MethodHandle" ∧ y_M_wants.cls ≠ "java/lang/invoke/VarHandle" ∧ (parseMethodDescriptor y_M_wants.desc).map (fun d => d.parameters.length) = some 2 := ⟨by decide, by decide, by decide +kernel⟩
abbrev y_M_behind : MethodName := ⟨"LockTableModel", "behind", "(I)I"⟩
theorem hd_M_behind : y_M_behind.cls ≠ "java/lang/invoke/MethodHandle" ∧ y_M_behind.cls ≠ "java/lang/invoke/VarHandle" ∧ (parseMethodDescriptor y_M_behind.desc).map (fun d => d.parameters.length) = some 1 := ⟨by decide, by decide, by decide +kernel⟩
abbrev y_M_granted : MethodName := ⟨"LockTableModel", "granted", "(I)I"⟩
theorem hd_M_granted : y_M_granted.cls ≠ "java/lang/invoke/MethodHandle" ∧ y_M_granted.cls ≠ "java/lang/invoke/VarHandle" ∧ (parseMethodDescriptor y_M_granted.desc).map (fun d => d.parameters.length) = some 1 := ⟨by decide, by decide, by decide +kernel⟩
abbrev y_M_join : MethodName := ⟨"LockTableModel", "join", "(II)I"⟩
theorem hd_M_join : y_M_join.cls ≠ "java/lang/invoke/MethodHandle" ∧ y_M_join.cls ≠ "java/lang/invoke/VarHandle" ∧ (parseMethodDescriptor y_M_join.desc).map (fun d => d.parameters.length) = some 2 := ⟨by decide, by decide, by decide +kernel⟩
theorem d_M_counted_0 : decode prog_6_method_49_code 0 = .ok (.aload_n 0, 1) := by decide +kernel
theorem d_M_counted_1 : decode prog_6_method_49_code 1 = .ok (.getfield 93, 3) := by decide +kernel
theorem d_M_counted_4 : decode prog_6_method_49_code 4 = .ok (.istore_n 1, 1) := by decide +kernel
theorem d_M_counted_5 : decode prog_6_method_49_code 5 = .ok (.iconst 0, 1) := by decide +kernel
theorem d_M_counted_6 : decode prog_6_method_49_code 6 = .ok (.istore_n 2, 1) := by decide +kernel
theorem d_M_counted_7 : decode prog_6_method_49_code 7 = .ok (.iload_n 2, 1) := by decide +kernel
theorem d_M_counted_8 : decode prog_6_method_49_code 8 = .ok (.sipush 128, 3) := by decide +kernel
theorem d_M_counted_11 : decode prog_6_method_49_code 11 = .ok (.if_icmp .ge 26, 3) := by decide +kernel
theorem d_M_counted_14 : decode prog_6_method_49_code 14 = .ok (.aload_n 0, 1) := by decide +kernel
theorem d_M_counted_15 : decode prog_6_method_49_code 15 = .ok (.getfield 16, 3) := by decide +kernel
theorem d_M_counted_18 : decode prog_6_method_49_code 18 = .ok (.iload_n 2, 1) := by decide +kernel
theorem d_M_counted_19 : decode prog_6_method_49_code 19 = .ok (.iaload, 1) := by decide +kernel
theorem d_M_counted_20 : decode prog_6_method_49_code 20 = .ok (.ifCond .lt 9, 3) := by decide +kernel
theorem d_M_counted_23 : decode prog_6_method_49_code 23 = .ok (.iload_n 1, 1) := by decide +kernel
theorem d_M_counted_24 : decode prog_6_method_49_code 24 = .ok (.iconst 1, 1) := by decide +kernel
theorem d_M_counted_25 : decode prog_6_method_49_code 25 = .ok (.iadd, 1) := by decide +kernel
theorem d_M_counted_26 : decode prog_6_method_49_code 26 = .ok (.goto 4, 3) := by decide +kernel
theorem d_M_counted_29 : decode prog_6_method_49_code 29 = .ok (.iload_n 1, 1) := by decide +kernel
theorem d_M_counted_30 : decode prog_6_method_49_code 30 = .ok (.istore_n 1, 1) := by decide +kernel
theorem d_M_counted_31 : decode prog_6_method_49_code 31 = .ok (.iinc 2 1, 3) := by decide +kernel
theorem d_M_counted_34 : decode prog_6_method_49_code 34 = .ok (.goto (-27), 3) := by decide +kernel
theorem d_M_counted_37 : decode prog_6_method_49_code 37 = .ok (.iconst 0, 1) := by decide +kernel
theorem d_M_counted_38 : decode prog_6_method_49_code 38 = .ok (.istore_n 2, 1) := by decide +kernel
theorem d_M_counted_39 : decode prog_6_method_49_code 39 = .ok (.iload_n 2, 1) := by decide +kernel
theorem d_M_counted_40 : decode prog_6_method_49_code 40 = .ok (.bipush 8, 2) := by decide +kernel
theorem d_M_counted_42 : decode prog_6_method_49_code 42 = .ok (.if_icmp .ge 27, 3) := by decide +kernel
theorem d_M_counted_45 : decode prog_6_method_49_code 45 = .ok (.aload_n 0, 1) := by decide +kernel
theorem d_M_counted_46 : decode prog_6_method_49_code 46 = .ok (.getfield 7, 3) := by decide +kernel
theorem d_M_counted_49 : decode prog_6_method_49_code 49 = .ok (.iload_n 2, 1) := by decide +kernel
theorem d_M_counted_50 : decode prog_6_method_49_code 50 = .ok (.iaload, 1) := by decide +kernel
theorem d_M_counted_51 : decode prog_6_method_49_code 51 = .ok (.iconst 2, 1) := by decide +kernel
theorem d_M_counted_52 : decode prog_6_method_49_code 52 = .ok (.if_icmp .ne 9, 3) := by decide +kernel
theorem d_M_counted_55 : decode prog_6_method_49_code 55 = .ok (.iload_n 1, 1) := by decide +kernel
theorem d_M_counted_56 : decode prog_6_method_49_code 56 = .ok (.iconst 1, 1) := by decide +kernel
theorem d_M_counted_57 : decode prog_6_method_49_code 57 = .ok (.iadd, 1) := by decide +kernel
theorem d_M_counted_58 : decode prog_6_method_49_code 58 = .ok (.goto 4, 3) := by decide +kernel
theorem d_M_counted_61 : decode prog_6_method_49_code 61 = .ok (.iload_n 1, 1) := by decide +kernel
theorem d_M_counted_62 : decode prog_6_method_49_code 62 = .ok (.istore_n 1, 1) := by decide +kernel
theorem d_M_counted_63 : decode prog_6_method_49_code 63 = .ok (.iinc 2 1, 3) := by decide +kernel
theorem d_M_counted_66 : decode prog_6_method_49_code 66 = .ok (.goto (-27), 3) := by decide +kernel
theorem d_M_counted_69 : decode prog_6_method_49_code 69 = .ok (.iload_n 1, 1) := by decide +kernel
theorem d_M_counted_70 : decode prog_6_method_49_code 70 = .ok (.ireturn, 1) := by decide +kernel
theorem d_M_table_0 : decode prog_6_method_30_code 0 = .ok (.aload_n 0, 1) := by decide +kernel
theorem d_M_table_1 : decode prog_6_method_30_code 1 = .ok (.iload_n 1, 1) := by decide +kernel
theorem d_M_table_2 : decode prog_6_method_30_code 2 = .ok (.invokestatic 70, 3) := by decide +kernel
theorem d_M_table_5 : decode prog_6_method_30_code 5 = .ok (.ifCond .eq 17, 3) := by decide +kernel
theorem d_M_table_8 : decode prog_6_method_30_code 8 = .ok (.iload_n 2, 1) := by decide +kernel
theorem d_M_table_9 : decode prog_6_method_30_code 9 = .ok (.invokestatic 152, 3) := by decide +kernel
theorem d_M_table_12 : decode prog_6_method_30_code 12 = .ok (.ifCond .eq 10, 3) := by decide +kernel
theorem d_M_table_15 : decode prog_6_method_30_code 15 = .ok (.iload_n 3, 1) := by decide +kernel
theorem d_M_table_16 : decode prog_6_method_30_code 16 = .ok (.invokestatic 155, 3) := by decide +kernel
theorem d_M_table_19 : decode prog_6_method_30_code 19 = .ok (.ifCond .ne 7, 3) := by decide +kernel
theorem d_M_table_22 : decode prog_6_method_30_code 22 = .ok (.iconst 1, 1) := by decide +kernel
theorem d_M_table_23 : decode prog_6_method_30_code 23 = .ok (.goto 4, 3) := by decide +kernel
theorem d_M_table_26 : decode prog_6_method_30_code 26 = .ok (.iconst 0, 1) := by decide +kernel
theorem d_M_table_27 : decode prog_6_method_30_code 27 = .ok (.iload_n 1, 1) := by decide +kernel
theorem d_M_table_28 : decode prog_6_method_30_code 28 = .ok (.invokestatic 70, 3) := by decide +kernel
theorem d_M_table_31 : decode prog_6_method_30_code 31 = .ok (.ifCond .eq 17, 3) := by decide +kernel
theorem d_M_table_34 : decode prog_6_method_30_code 34 = .ok (.aload_n 0, 1) := by decide +kernel
theorem d_M_table_35 : decode prog_6_method_30_code 35 = .ok (.getfield 7, 3) := by decide +kernel
theorem d_M_table_38 : decode prog_6_method_30_code 38 = .ok (.iload_n 1, 1) := by decide +kernel
theorem d_M_table_39 : decode prog_6_method_30_code 39 = .ok (.iaload, 1) := by decide +kernel
theorem d_M_table_40 : decode prog_6_method_30_code 40 = .ok (.iconst 1, 1) := by decide +kernel
theorem d_M_table_41 : decode prog_6_method_30_code 41 = .ok (.if_icmp .eq 7, 3) := by decide +kernel
theorem d_M_table_44 : decode prog_6_method_30_code 44 = .ok (.iconst 1, 1) := by decide +kernel
theorem d_M_table_45 : decode prog_6_method_30_code 45 = .ok (.goto 4, 3) := by decide +kernel
theorem d_M_table_48 : decode prog_6_method_30_code 48 = .ok (.iconst 0, 1) := by decide +kernel
theorem d_M_table_49 : decode prog_6_method_30_code 49 = .ok (.iconst 0, 1) := by decide +kernel
theorem d_M_table_50 : decode prog_6_method_30_code 50 = .ok (.invokevirtual 133, 3) := by decide +kernel
theorem d_M_table_53 : decode prog_6_method_30_code 53 = .ok (.ifCond .eq 5, 3) := by decide +kernel
theorem d_M_table_56 : decode prog_6_method_30_code 56 = .ok (.iconst 0, 1) := by decide +kernel
theorem d_M_table_57 : decode prog_6_method_30_code 57 = .ok (.ireturn, 1) := by decide +kernel
theorem d_M_table_58 : decode prog_6_method_30_code 58 = .ok (.aload_n 0, 1) := by decide +kernel
theorem d_M_table_59 : decode prog_6_method_30_code 59 = .ok (.iconst 0, 1) := by decide +kernel
theorem d_M_table_60 : decode prog_6_method_30_code 60 = .ok (.putfield 130, 3) := by decide +kernel
theorem d_M_table_63 : decode prog_6_method_30_code 63 = .ok (.aload_n 0, 1) := by decide +kernel
theorem d_M_table_64 : decode prog_6_method_30_code 64 = .ok (.getfield 16, 3) := by decide +kernel
theorem d_M_table_67 : decode prog_6_method_30_code 67 = .ok (.bipush 16, 2) := by decide +kernel
theorem d_M_table_69 : decode prog_6_method_30_code 69 = .ok (.iload_n 1, 1) := by decide +kernel
theorem d_M_table_70 : decode prog_6_method_30_code 70 = .ok (.imul, 1) := by decide +kernel
theorem d_M_table_71 : decode prog_6_method_30_code 71 = .ok (.iload_n 2, 1) := by decide +kernel
theorem d_M_table_72 : decode prog_6_method_30_code 72 = .ok (.iadd, 1) := by decide +kernel
theorem d_M_table_73 : decode prog_6_method_30_code 73 = .ok (.iaload, 1) := by decide +kernel
theorem d_M_table_74 : decode prog_6_method_30_code 74 = .ok (.istore 4, 2) := by decide +kernel
theorem d_M_table_76 : decode prog_6_method_30_code 76 = .ok (.aload_n 0, 1) := by decide +kernel
theorem d_M_table_77 : decode prog_6_method_30_code 77 = .ok (.iload_n 1, 1) := by decide +kernel
theorem d_M_table_78 : decode prog_6_method_30_code 78 = .ok (.iload_n 2, 1) := by decide +kernel
theorem d_M_table_79 : decode prog_6_method_30_code 79 = .ok (.iload_n 3, 1) := by decide +kernel
theorem d_M_table_80 : decode prog_6_method_30_code 80 = .ok (.invokevirtual 158, 3) := by decide +kernel
theorem d_M_table_83 : decode prog_6_method_30_code 83 = .ok (.istore 5, 2) := by decide +kernel
theorem d_M_table_85 : decode prog_6_method_30_code 85 = .ok (.iload 5, 2) := by decide +kernel
theorem d_M_table_87 : decode prog_6_method_30_code 87 = .ok (.iload 4, 2) := by decide +kernel
theorem d_M_table_89 : decode prog_6_method_30_code 89 = .ok (.if_icmp .ne 5, 3) := by decide +kernel
theorem d_M_table_92 : decode prog_6_method_30_code 92 = .ok (.iconst 0, 1) := by decide +kernel
theorem d_M_table_93 : decode prog_6_method_30_code 93 = .ok (.ireturn, 1) := by decide +kernel
theorem d_M_table_94 : decode prog_6_method_30_code 94 = .ok (.iload 4, 2) := by decide +kernel
theorem d_M_table_96 : decode prog_6_method_30_code 96 = .ok (.ifCond .ge 15, 3) := by decide +kernel
theorem d_M_table_99 : decode prog_6_method_30_code 99 = .ok (.aload_n 0, 1) := by decide +kernel
theorem d_M_table_100 : decode prog_6_method_30_code 100 = .ok (.invokevirtual 162, 3) := by decide +kernel
theorem d_M_table_103 : decode prog_6_method_30_code 103 = .ok (.sipush 256, 3) := by decide +kernel
theorem d_M_table_106 : decode prog_6_method_30_code 106 = .ok (.if_icmp .lt 5, 3) := by decide +kernel
theorem d_M_table_109 : decode prog_6_method_30_code 109 = .ok (.iconst 3, 1) := by decide +kernel
theorem d_M_table_110 : decode prog_6_method_30_code 110 = .ok (.ireturn, 1) := by decide +kernel
theorem d_M_table_111 : decode prog_6_method_30_code 111 = .ok (.aload_n 0, 1) := by decide +kernel
theorem d_M_table_112 : decode prog_6_method_30_code 112 = .ok (.getfield 35, 3) := by decide +kernel
theorem d_M_table_115 : decode prog_6_method_30_code 115 = .ok (.iload_n 1, 1) := by decide +kernel
theorem d_M_table_116 : decode prog_6_method_30_code 116 = .ok (.iconst 0, 1) := by decide +kernel
theorem d_M_table_117 : decode prog_6_method_30_code 117 = .ok (.iastore, 1) := by decide +kernel
theorem d_M_table_118 : decode prog_6_method_30_code 118 = .ok (.aload_n 0, 1) := by decide +kernel
theorem d_M_table_119 : decode prog_6_method_30_code 119 = .ok (.getfield 38, 3) := by decide +kernel
theorem d_M_table_122 : decode prog_6_method_30_code 122 = .ok (.iload_n 1, 1) := by decide +kernel
theorem d_M_table_123 : decode prog_6_method_30_code 123 = .ok (.iload_n 2, 1) := by decide +kernel
theorem d_M_table_124 : decode prog_6_method_30_code 124 = .ok (.iastore, 1) := by decide +kernel
theorem d_M_table_125 : decode prog_6_method_30_code 125 = .ok (.aload_n 0, 1) := by decide +kernel
theorem d_M_table_126 : decode prog_6_method_30_code 126 = .ok (.getfield 41, 3) := by decide +kernel
theorem d_M_table_129 : decode prog_6_method_30_code 129 = .ok (.iload_n 1, 1) := by decide +kernel
theorem d_M_table_130 : decode prog_6_method_30_code 130 = .ok (.iload 5, 2) := by decide +kernel
theorem d_M_table_132 : decode prog_6_method_30_code 132 = .ok (.iastore, 1) := by decide +kernel
theorem d_M_table_133 : decode prog_6_method_30_code 133 = .ok (.aload_n 0, 1) := by decide +kernel
theorem d_M_table_134 : decode prog_6_method_30_code 134 = .ok (.iload_n 1, 1) := by decide +kernel
theorem d_M_table_135 : decode prog_6_method_30_code 135 = .ok (.iload 4, 2) := by decide +kernel
theorem d_M_table_137 : decode prog_6_method_30_code 137 = .ok (.ifCond .lt 7, 3) := by decide +kernel
theorem d_M_table_140 : decode prog_6_method_30_code 140 = .ok (.iconst 1, 1) := by decide +kernel
theorem d_M_table_141 : decode prog_6_method_30_code 141 = .ok (.goto 4, 3) := by decide +kernel
theorem d_M_table_144 : decode prog_6_method_30_code 144 = .ok (.iconst 0, 1) := by decide +kernel
theorem d_M_table_145 : decode prog_6_method_30_code 145 = .ok (.invokevirtual 166, 3) := by decide +kernel
theorem d_M_table_148 : decode prog_6_method_30_code 148 = .ok (.ireturn, 1) := by decide +kernel
theorem d_M_rangesOf_0 : decode prog_6_method_31_code 0 = .ok (.iconst 0, 1) := by decide +kernel
theorem d_M_rangesOf_1 : decode prog_6_method_31_code 1 = .ok (.istore_n 3, 1) := by decide +kernel
theorem d_M_rangesOf_2 : decode prog_6_method_31_code 2 = .ok (.iconst 0, 1) := by decide +kernel
theorem d_M_rangesOf_3 : decode prog_6_method_31_code 3 = .ok (.istore 4, 2) := by decide +kernel
theorem d_M_rangesOf_5 : decode prog_6_method_31_code 5 = .ok (.iload 4, 2) := by decide +kernel
theorem d_M_rangesOf_7 : decode prog_6_method_31_code 7 = .ok (.aload_n 0, 1) := by decide +kernel
theorem d_M_rangesOf_8 : decode prog_6_method_31_code 8 = .ok (.getfield 93, 3) := by decide +kernel
theorem d_M_rangesOf_11 : decode prog_6_method_31_code 11 = .ok (.if_icmp .ge 39, 3) := by decide +kernel
theorem d_M_rangesOf_14 : decode prog_6_method_31_code 14 = .ok (.aload_n 0, 1) := by decide +kernel
theorem d_M_rangesOf_15 : decode prog_6_method_31_code 15 = .ok (.getfield 19, 3) := by decide +kernel
theorem d_M_rangesOf_18 : decode prog_6_method_31_code 18 = .ok (.iload 4, 2) := by decide +kernel
theorem d_M_rangesOf_20 : decode prog_6_method_31_code 20 = .ok (.iaload, 1) := by decide +kernel
theorem d_M_rangesOf_21 : decode prog_6_method_31_code 21 = .ok (.iload_n 1, 1) := by decide +kernel
theorem d_M_rangesOf_22 : decode prog_6_method_31_code 22 = .ok (.if_icmp .ne 20, 3) := by decide +kernel
theorem d_M_rangesOf_25 : decode prog_6_method_31_code 25 = .ok (.aload_n 0, 1) := by decide +kernel
theorem d_M_rangesOf_26 : decode prog_6_method_31_code 26 = .ok (.getfield 22, 3) := by decide +kernel
theorem d_M_rangesOf_29 : decode prog_6_method_31_code 29 = .ok (.iload 4, 2) := by decide +kernel
theorem d_M_rangesOf_31 : decode prog_6_method_31_code 31 = .ok (.iaload, 1) := by decide +kernel
theorem d_M_rangesOf_32 : decode prog_6_method_31_code 32 = .ok (.iload_n 2, 1) := by decide +kernel
theorem d_M_rangesOf_33 : decode prog_6_method_31_code 33 = .ok (.if_icmp .ne 9, 3) := by decide +kernel
theorem d_M_rangesOf_36 : decode prog_6_method_31_code 36 = .ok (.iload_n 3, 1) := by decide +kernel
theorem d_M_rangesOf_37 : decode prog_6_method_31_code 37 = .ok (.iconst 1, 1) := by decide +kernel
theorem d_M_rangesOf_38 : decode prog_6_method_31_code 38 = .ok (.iadd, 1) := by decide +kernel
theorem d_M_rangesOf_39 : decode prog_6_method_31_code 39 = .ok (.goto 4, 3) := by decide +kernel
theorem d_M_rangesOf_42 : decode prog_6_method_31_code 42 = .ok (.iload_n 3, 1) := by decide +kernel
theorem d_M_rangesOf_43 : decode prog_6_method_31_code 43 = .ok (.istore_n 3, 1) := by decide +kernel
theorem d_M_rangesOf_44 : decode prog_6_method_31_code 44 = .ok (.iinc 4 1, 3) := by decide +kernel
theorem d_M_rangesOf_47 : decode prog_6_method_31_code 47 = .ok (.goto (-42), 3) := by decide +kernel
theorem d_M_rangesOf_50 : decode prog_6_method_31_code 50 = .ok (.iload_n 3, 1) := by decide +kernel
theorem d_M_rangesOf_51 : decode prog_6_method_31_code 51 = .ok (.ireturn, 1) := by decide +kernel
theorem d_M_writesRanges_0 : decode prog_6_method_32_code 0 = .ok (.iconst 0, 1) := by decide +kernel
theorem d_M_writesRanges_1 : decode prog_6_method_32_code 1 = .ok (.istore_n 3, 1) := by decide +kernel
theorem d_M_writesRanges_2 : decode prog_6_method_32_code 2 = .ok (.iconst 0, 1) := by decide +kernel
theorem d_M_writesRanges_3 : decode prog_6_method_32_code 3 = .ok (.istore 4, 2) := by decide +kernel
theorem d_M_writesRanges_5 : decode prog_6_method_32_code 5 = .ok (.iload 4, 2) := by decide +kernel
theorem d_M_writesRanges_7 : decode prog_6_method_32_code 7 = .ok (.aload_n 0, 1) := by decide +kernel
theorem d_M_writesRanges_8 : decode prog_6_method_32_code 8 = .ok (.getfield 93, 3) := by decide +kernel
theorem d_M_writesRanges_11 : decode prog_6_method_32_code 11 = .ok (.if_icmp .ge 52, 3) := by decide +kernel
theorem d_M_writesRanges_14 : decode prog_6_method_32_code 14 = .ok (.iload_n 3, 1) := by decide +kernel
theorem d_M_writesRanges_15 : decode prog_6_method_32_code 15 = .ok (.ifCond .ne 36, 3) := by decide +kernel
theorem d_M_writesRanges_18 : decode prog_6_method_32_code 18 = .ok (.aload_n 0, 1) := by decide +kernel
theorem d_M_writesRanges_19 : decode prog_6_method_32_code 19 = .ok (.getfield 19, 3) := by decide +kernel
theorem d_M_writesRanges_22 : decode prog_6_method_32_code 22 = .ok (.iload 4, 2) := by decide +kernel
theorem d_M_writesRanges_24 : decode prog_6_method_32_code 24 = .ok (.iaload, 1) := by decide +kernel
theorem d_M_writesRanges_25 : decode prog_6_method_32_code 25 = .ok (.iload_n 1, 1) := by decide +kernel
theorem d_M_writesRanges_26 : decode prog_6_method_32_code 26 = .ok (.if_icmp .ne 29, 3) := by decide +kernel
theorem d_M_writesRanges_29 : decode prog_6_method_32_code 29 = .ok (.aload_n 0, 1) := by decide +kernel
theorem d_M_writesRanges_30 : decode prog_6_method_32_code 30 = .ok (.getfield 22, 3) := by decide +kernel
theorem d_M_writesRanges_33 : decode prog_6_method_32_code 33 = .ok (.iload 4, 2) := by decide +kernel
theorem d_M_writesRanges_35 : decode prog_6_method_32_code 35 = .ok (.iaload, 1) := by decide +kernel
theorem d_M_writesRanges_36 : decode prog_6_method_32_code 36 = .ok (.iload_n 2, 1) := by decide +kernel
theorem d_M_writesRanges_37 : decode prog_6_method_32_code 37 = .ok (.if_icmp .ne 18, 3) := by decide +kernel
theorem d_M_writesRanges_40 : decode prog_6_method_32_code 40 = .ok (.aload_n 0, 1) := by decide +kernel
theorem d_M_writesRanges_41 : decode prog_6_method_32_code 41 = .ok (.getfield 25, 3) := by decide +kernel
theorem d_M_writesRanges_44 : decode prog_6_method_32_code 44 = .ok (.iload 4, 2) := by decide +kernel
theorem d_M_writesRanges_46 : decode prog_6_method_32_code 46 = .ok (.iaload, 1) := by decide +kernel
theorem d_M_writesRanges_47 : decode prog_6_method_32_code 47 = .ok (.iconst 2, 1) := by decide +kernel
theorem d_M_writesRanges_48 : decode prog_6_method_32_code 48 = .ok (.if_icmp .eq 7, 3) := by decide +kernel
theorem d_M_writesRanges_51 : decode prog_6_method_32_code 51 = .ok (.iconst 1, 1) := by decide +kernel
theorem d_M_writesRanges_52 : decode prog_6_method_32_code 52 = .ok (.goto 4, 3) := by decide +kernel
theorem d_M_writesRanges_55 : decode prog_6_method_32_code 55 = .ok (.iconst 0, 1) := by decide +kernel
theorem d_M_writesRanges_56 : decode prog_6_method_32_code 56 = .ok (.istore_n 3, 1) := by decide +kernel
theorem d_M_writesRanges_57 : decode prog_6_method_32_code 57 = .ok (.iinc 4 1, 3) := by decide +kernel
theorem d_M_writesRanges_60 : decode prog_6_method_32_code 60 = .ok (.goto (-55), 3) := by decide +kernel
theorem d_M_writesRanges_63 : decode prog_6_method_32_code 63 = .ok (.iload_n 3, 1) := by decide +kernel
theorem d_M_writesRanges_64 : decode prog_6_method_32_code 64 = .ok (.ireturn, 1) := by decide +kernel
theorem d_M_escalated_0 : decode prog_6_method_33_code 0 = .ok (.aload_n 0, 1) := by decide +kernel
theorem d_M_escalated_1 : decode prog_6_method_33_code 1 = .ok (.getfield 16, 3) := by decide +kernel
theorem d_M_escalated_4 : decode prog_6_method_33_code 4 = .ok (.bipush 16, 2) := by decide +kernel
theorem d_M_escalated_6 : decode prog_6_method_33_code 6 = .ok (.iload_n 1, 1) := by decide +kernel
theorem d_M_escalated_7 : decode prog_6_method_33_code 7 = .ok (.imul, 1) := by decide +kernel
theorem d_M_escalated_8 : decode prog_6_method_33_code 8 = .ok (.iload_n 2, 1) := by decide +kernel
theorem d_M_escalated_9 : decode prog_6_method_33_code 9 = .ok (.iadd, 1) := by decide +kernel
theorem d_M_escalated_10 : decode prog_6_method_33_code 10 = .ok (.iaload, 1) := by decide +kernel
theorem d_M_escalated_11 : decode prog_6_method_33_code 11 = .ok (.istore 4, 2) := by decide +kernel
theorem d_M_escalated_13 : decode prog_6_method_33_code 13 = .ok (.aload_n 0, 1) := by decide +kernel
theorem d_M_escalated_14 : decode prog_6_method_33_code 14 = .ok (.iload_n 1, 1) := by decide +kernel
theorem d_M_escalated_15 : decode prog_6_method_33_code 15 = .ok (.iload_n 2, 1) := by decide +kernel
theorem d_M_escalated_16 : decode prog_6_method_33_code 16 = .ok (.iload_n 3, 1) := by decide +kernel
theorem d_M_escalated_17 : decode prog_6_method_33_code 17 = .ok (.ifCond .ne 12, 3) := by decide +kernel
theorem d_M_escalated_20 : decode prog_6_method_33_code 20 = .ok (.aload_n 0, 1) := by decide +kernel
theorem d_M_escalated_21 : decode prog_6_method_33_code 21 = .ok (.iload_n 1, 1) := by decide +kernel
theorem d_M_escalated_22 : decode prog_6_method_33_code 22 = .ok (.iload_n 2, 1) := by decide +kernel
theorem d_M_escalated_23 : decode prog_6_method_33_code 23 = .ok (.invokevirtual 170, 3) := by decide +kernel
theorem d_M_escalated_26 : decode prog_6_method_33_code 26 = .ok (.ifCond .eq 7, 3) := by decide +kernel
theorem d_M_escalated_29 : decode prog_6_method_33_code 29 = .ok (.iconst 5, 1) := by decide +kernel
theorem d_M_escalated_30 : decode prog_6_method_33_code 30 = .ok (.goto 4, 3) := by decide +kernel
theorem d_M_escalated_33 : decode prog_6_method_33_code 33 = .ok (.iconst 2, 1) := by decide +kernel
theorem d_M_escalated_34 : decode prog_6_method_33_code 34 = .ok (.invokevirtual 158, 3) := by decide +kernel
theorem d_M_escalated_37 : decode prog_6_method_33_code 37 = .ok (.istore 5, 2) := by decide +kernel
theorem d_M_escalated_39 : decode prog_6_method_33_code 39 = .ok (.iload 5, 2) := by decide +kernel
theorem d_M_escalated_41 : decode prog_6_method_33_code 41 = .ok (.iload 4, 2) := by decide +kernel
theorem d_M_escalated_43 : decode prog_6_method_33_code 43 = .ok (.if_icmp .ne 16, 3) := by decide +kernel
theorem d_M_escalated_46 : decode prog_6_method_33_code 46 = .ok (.aload_n 0, 1) := by decide +kernel
theorem d_M_escalated_47 : decode prog_6_method_33_code 47 = .ok (.iload_n 1, 1) := by decide +kernel
theorem d_M_escalated_48 : decode prog_6_method_33_code 48 = .ok (.iload_n 2, 1) := by decide +kernel
theorem d_M_escalated_49 : decode prog_6_method_33_code 49 = .ok (.invokevirtual 117, 3) := by decide +kernel
theorem d_M_escalated_52 : decode prog_6_method_33_code 52 = .ok (.aload_n 0, 1) := by decide +kernel
theorem d_M_escalated_53 : decode prog_6_method_33_code 53 = .ok (.iload_n 1, 1) := by decide +kernel
theorem d_M_escalated_54 : decode prog_6_method_33_code 54 = .ok (.invokevirtual 143, 3) := by decide +kernel
theorem d_M_escalated_57 : decode prog_6_method_33_code 57 = .ok (.iconst 0, 1) := by decide +kernel
theorem d_M_escalated_58 : decode prog_6_method_33_code 58 = .ok (.ireturn, 1) := by decide +kernel
theorem d_M_escalated_59 : decode prog_6_method_33_code 59 = .ok (.aload_n 0, 1) := by decide +kernel
theorem d_M_escalated_60 : decode prog_6_method_33_code 60 = .ok (.getfield 35, 3) := by decide +kernel
theorem d_M_escalated_63 : decode prog_6_method_33_code 63 = .ok (.iload_n 1, 1) := by decide +kernel
theorem d_M_escalated_64 : decode prog_6_method_33_code 64 = .ok (.iconst 2, 1) := by decide +kernel
theorem d_M_escalated_65 : decode prog_6_method_33_code 65 = .ok (.iastore, 1) := by decide +kernel
theorem d_M_escalated_66 : decode prog_6_method_33_code 66 = .ok (.aload_n 0, 1) := by decide +kernel
theorem d_M_escalated_67 : decode prog_6_method_33_code 67 = .ok (.getfield 38, 3) := by decide +kernel
theorem d_M_escalated_70 : decode prog_6_method_33_code 70 = .ok (.iload_n 1, 1) := by decide +kernel
theorem d_M_escalated_71 : decode prog_6_method_33_code 71 = .ok (.iload_n 2, 1) := by decide +kernel
theorem d_M_escalated_72 : decode prog_6_method_33_code 72 = .ok (.iastore, 1) := by decide +kernel
theorem d_M_escalated_73 : decode prog_6_method_33_code 73 = .ok (.aload_n 0, 1) := by decide +kernel
theorem d_M_escalated_74 : decode prog_6_method_33_code 74 = .ok (.getfield 41, 3) := by decide +kernel
theorem d_M_escalated_77 : decode prog_6_method_33_code 77 = .ok (.iload_n 1, 1) := by decide +kernel
theorem d_M_escalated_78 : decode prog_6_method_33_code 78 = .ok (.iload 5, 2) := by decide +kernel
theorem d_M_escalated_80 : decode prog_6_method_33_code 80 = .ok (.iastore, 1) := by decide +kernel
theorem d_M_escalated_81 : decode prog_6_method_33_code 81 = .ok (.aload_n 0, 1) := by decide +kernel
theorem d_M_escalated_82 : decode prog_6_method_33_code 82 = .ok (.iload_n 1, 1) := by decide +kernel
theorem d_M_escalated_83 : decode prog_6_method_33_code 83 = .ok (.iconst 1, 1) := by decide +kernel
theorem d_M_escalated_84 : decode prog_6_method_33_code 84 = .ok (.invokevirtual 166, 3) := by decide +kernel
theorem d_M_escalated_87 : decode prog_6_method_33_code 87 = .ok (.ireturn, 1) := by decide +kernel
theorem d_M_hasAround_0 : decode prog_6_method_34_code 0 = .ok (.iconst 0, 1) := by decide +kernel
theorem d_M_hasAround_1 : decode prog_6_method_34_code 1 = .ok (.istore 8, 2) := by decide +kernel
theorem d_M_hasAround_3 : decode prog_6_method_34_code 3 = .ok (.iconst 0, 1) := by decide +kernel
theorem d_M_hasAround_4 : decode prog_6_method_34_code 4 = .ok (.istore 9, 2) := by decide +kernel
theorem d_M_hasAround_6 : decode prog_6_method_34_code 6 = .ok (.iload 9, 2) := by decide +kernel
theorem d_M_hasAround_8 : decode prog_6_method_34_code 8 = .ok (.aload_n 0, 1) := by decide +kernel
theorem d_M_hasAround_9 : decode prog_6_method_34_code 9 = .ok (.getfield 93, 3) := by decide +kernel
theorem d_M_hasAround_12 : decode prog_6_method_34_code 12 = .ok (.if_icmp .ge 100, 3) := by decide +kernel
theorem d_M_hasAround_15 : decode prog_6_method_34_code 15 = .ok (.aload_n 0, 1) := by decide +kernel
theorem d_M_hasAround_16 : decode prog_6_method_34_code 16 = .ok (.getfield 19, 3) := by decide +kernel
theorem d_M_hasAround_19 : decode prog_6_method_34_code 19 = .ok (.iload 9, 2) := by decide +kernel
theorem d_M_hasAround_21 : decode prog_6_method_34_code 21 = .ok (.iaload, 1) := by decide +kernel
theorem d_M_hasAround_22 : decode prog_6_method_34_code 22 = .ok (.iload_n 1, 1) := by decide +kernel
theorem d_M_hasAround_23 : decode prog_6_method_34_code 23 = .ok (.if_icmp .ne 43, 3) := by decide +kernel
theorem d_M_hasAround_26 : decode prog_6_method_34_code 26 = .ok (.aload_n 0, 1) := by decide +kernel
theorem d_M_hasAround_27 : decode prog_6_method_34_code 27 = .ok (.getfield 22, 3) := by decide +kernel
theorem d_M_hasAround_30 : decode prog_6_method_34_code 30 = .ok (.iload 9, 2) := by decide +kernel
theorem d_M_hasAround_32 : decode prog_6_method_34_code 32 = .ok (.iaload, 1) := by decide +kernel
theorem d_M_hasAround_33 : decode prog_6_method_34_code 33 = .ok (.iload_n 2, 1) := by decide +kernel
theorem d_M_hasAround_34 : decode prog_6_method_34_code 34 = .ok (.if_icmp .ne 32, 3) := by decide +kernel
theorem d_M_hasAround_37 : decode prog_6_method_34_code 37 = .ok (.aload_n 0, 1) := by decide +kernel
theorem d_M_hasAround_38 : decode prog_6_method_34_code 38 = .ok (.getfield 28, 3) := by decide +kernel
theorem d_M_hasAround_41 : decode prog_6_method_34_code 41 = .ok (.iload 9, 2) := by decide +kernel
theorem d_M_hasAround_43 : decode prog_6_method_34_code 43 = .ok (.laload, 1) := by decide +kernel
theorem d_M_hasAround_44 : decode prog_6_method_34_code 44 = .ok (.lload_n 3, 1) := by decide +kernel
theorem d_M_hasAround_45 : decode prog_6_method_34_code 45 = .ok (.lcmp, 1) := by decide +kernel
theorem d_M_hasAround_46 : decode prog_6_method_34_code 46 = .ok (.ifCond .gt 20, 3) := by decide +kernel
theorem d_M_hasAround_49 : decode prog_6_method_34_code 49 = .ok (.lload 5, 2) := by decide +kernel
theorem d_M_hasAround_51 : decode prog_6_method_34_code 51 = .ok (.aload_n 0, 1) := by decide +kernel
theorem d_M_hasAround_52 : decode prog_6_method_34_code 52 = .ok (.getfield 32, 3) := by decide +kernel
theorem d_M_hasAround_55 : decode prog_6_method_34_code 55 = .ok (.iload 9, 2) := by decide +kernel
theorem d_M_hasAround_57 : decode prog_6_method_34_code 57 = .ok (.laload, 1) := by decide +kernel
theorem d_M_hasAround_58 : decode prog_6_method_34_code 58 = .ok (.lcmp, 1) := by decide +kernel
theorem d_M_hasAround_59 : decode prog_6_method_34_code 59 = .ok (.ifCond .gt 7, 3) := by decide +kernel
theorem d_M_hasAround_62 : decode prog_6_method_34_code 62 = .ok (.iconst 1, 1) := by decide +kernel
theorem d_M_hasAround_63 : decode prog_6_method_34_code 63 = .ok (.goto 4, 3) := by decide +kernel
theorem d_M_hasAround_66 : decode prog_6_method_34_code 66 = .ok (.iconst 0, 1) := by decide +kernel
theorem d_M_hasAround_67 : decode prog_6_method_34_code 67 = .ok (.istore 10, 2) := by decide +kernel
theorem d_M_hasAround_69 : decode prog_6_method_34_code 69 = .ok (.iload 8, 2) := by decide +kernel
theorem d_M_hasAround_71 : decode prog_6_method_34_code 71 = .ok (.ifCond .ne 28, 3) := by decide +kernel
theorem d_M_hasAround_74 : decode prog_6_method_34_code 74 = .ok (.iload 10, 2) := by decide +kernel
theorem d_M_hasAround_76 : decode prog_6_method_34_code 76 = .ok (.ifCond .eq 27, 3) := by decide +kernel
theorem d_M_hasAround_79 : decode prog_6_method_34_code 79 = .ok (.iload 7, 2) := by decide +kernel
theorem d_M_hasAround_81 : decode prog_6_method_34_code 81 = .ok (.ifCond .lt 18, 3) := by decide +kernel
theorem d_M_hasAround_84 : decode prog_6_method_34_code 84 = .ok (.aload_n 0, 1) := by decide +kernel
theorem d_M_hasAround_85 : decode prog_6_method_34_code 85 = .ok (.getfield 25, 3) := by decide +kernel
theorem d_M_hasAround_88 : decode prog_6_method_34_code 88 = .ok (.iload 9, 2) := by decide +kernel
theorem d_M_hasAround_90 : decode prog_6_method_34_code 90 = .ok (.iaload, 1) := by decide +kernel
theorem d_M_hasAround_91 : decode prog_6_method_34_code 91 = .ok (.iload 7, 2) := by decide +kernel
theorem d_M_hasAround_93 : decode prog_6_method_34_code 93 = .ok (.invokestatic 173, 3) := by decide +kernel
theorem d_M_hasAround_96 : decode prog_6_method_34_code 96 = .ok (.ifCond .eq 7, 3) := by decide +kernel
theorem d_M_hasAround_99 : decode prog_6_method_34_code 99 = .ok (.iconst 1, 1) := by decide +kernel
theorem d_M_hasAround_100 : decode prog_6_method_34_code 100 = .ok (.goto 4, 3) := by decide +kernel
theorem d_M_hasAround_103 : decode prog_6_method_34_code 103 = .ok (.iconst 0, 1) := by decide +kernel
theorem d_M_hasAround_104 : decode prog_6_method_34_code 104 = .ok (.istore 8, 2) := by decide +kernel
theorem d_M_hasAround_106 : decode prog_6_method_34_code 106 = .ok (.iinc 9 1, 3) := by decide +kernel
theorem d_M_hasAround_109 : decode prog_6_method_34_code 109 = .ok (.goto (-103), 3) := by decide +kernel
theorem d_M_hasAround_112 : decode prog_6_method_34_code 112 = .ok (.iload 8, 2) := by decide +kernel
theorem d_M_hasAround_114 : decode prog_6_method_34_code 114 = .ok (.ireturn, 1) := by decide +kernel
theorem d_M_range_0 : decode prog_6_method_35_code 0 = .ok (.iload_n 1, 1) := by decide +kernel
theorem d_M_range_1 : decode prog_6_method_35_code 1 = .ok (.invokestatic 70, 3) := by decide +kernel
theorem d_M_range_4 : decode prog_6_method_35_code 4 = .ok (.ifCond .eq 35, 3) := by decide +kernel
theorem d_M_range_7 : decode prog_6_method_35_code 7 = .ok (.iload_n 2, 1) := by decide +kernel
theorem d_M_range_8 : decode prog_6_method_35_code 8 = .ok (.invokestatic 152, 3) := by decide +kernel
theorem d_M_range_11 : decode prog_6_method_35_code 11 = .ok (.ifCond .eq 28, 3) := by decide +kernel
theorem d_M_range_14 : decode prog_6_method_35_code 14 = .ok (.lload_n 3, 1) := by decide +kernel
theorem d_M_range_15 : decode prog_6_method_35_code 15 = .ok (.lload 5, 2) := by decide +kernel
theorem d_M_range_17 : decode prog_6_method_35_code 17 = .ok (.lcmp, 1) := by decide +kernel
theorem d_M_range_18 : decode prog_6_method_35_code 18 = .ok (.ifCond .gt 21, 3) := by decide +kernel
theorem d_M_range_21 : decode prog_6_method_35_code 21 = .ok (.iload 7, 2) := by decide +kernel
theorem d_M_range_23 : decode prog_6_method_35_code 23 = .ok (.iconst 2, 1) := by decide +kernel
theorem d_M_range_24 : decode prog_6_method_35_code 24 = .ok (.if_icmp .eq 19, 3) := by decide +kernel
theorem d_M_range_27 : decode prog_6_method_35_code 27 = .ok (.iload 7, 2) := by decide +kernel
theorem d_M_range_29 : decode prog_6_method_35_code 29 = .ok (.iconst 4, 1) := by decide +kernel
theorem d_M_range_30 : decode prog_6_method_35_code 30 = .ok (.if_icmp .eq 13, 3) := by decide +kernel
theorem d_M_range_33 : decode prog_6_method_35_code 33 = .ok (.iload 7, 2) := by decide +kernel
theorem d_M_range_35 : decode prog_6_method_35_code 35 = .ok (.iconst 5, 1) := by decide +kernel
theorem d_M_range_36 : decode prog_6_method_35_code 36 = .ok (.if_icmp .eq 7, 3) := by decide +kernel
theorem d_M_range_39 : decode prog_6_method_35_code 39 = .ok (.iconst 1, 1) := by decide +kernel
theorem d_M_range_40 : decode prog_6_method_35_code 40 = .ok (.goto 4, 3) := by decide +kernel
theorem d_M_range_43 : decode prog_6_method_35_code 43 = .ok (.iconst 0, 1) := by decide +kernel
theorem d_M_range_44 : decode prog_6_method_35_code 44 = .ok (.istore 8, 2) := by decide +kernel
theorem d_M_range_46 : decode prog_6_method_35_code 46 = .ok (.iload_n 1, 1) := by decide +kernel
theorem d_M_range_47 : decode prog_6_method_35_code 47 = .ok (.invokestatic 70, 3) := by decide +kernel
theorem d_M_range_50 : decode prog_6_method_35_code 50 = .ok (.ifCond .eq 17, 3) := by decide +kernel
theorem d_M_range_53 : decode prog_6_method_35_code 53 = .ok (.aload_n 0, 1) := by decide +kernel
theorem d_M_range_54 : decode prog_6_method_35_code 54 = .ok (.getfield 7, 3) := by decide +kernel
theorem d_M_range_57 : decode prog_6_method_35_code 57 = .ok (.iload_n 1, 1) := by decide +kernel
theorem d_M_range_58 : decode prog_6_method_35_code 58 = .ok (.iaload, 1) := by decide +kernel
theorem d_M_range_59 : decode prog_6_method_35_code 59 = .ok (.iconst 1, 1) := by decide +kernel
theorem d_M_range_60 : decode prog_6_method_35_code 60 = .ok (.if_icmp .eq 7, 3) := by decide +kernel
theorem d_M_range_63 : decode prog_6_method_35_code 63 = .ok (.iconst 1, 1) := by decide +kernel
theorem d_M_range_64 : decode prog_6_method_35_code 64 = .ok (.goto 4, 3) := by decide +kernel
theorem d_M_range_67 : decode prog_6_method_35_code 67 = .ok (.iconst 0, 1) := by decide +kernel
theorem d_M_range_68 : decode prog_6_method_35_code 68 = .ok (.istore 9, 2) := by decide +kernel
theorem d_M_range_70 : decode prog_6_method_35_code 70 = .ok (.iload_n 1, 1) := by decide +kernel
theorem d_M_range_71 : decode prog_6_method_35_code 71 = .ok (.invokestatic 70, 3) := by decide +kernel
theorem d_M_range_74 : decode prog_6_method_35_code 74 = .ok (.ifCond .eq 24, 3) := by decide +kernel
theorem d_M_range_77 : decode prog_6_method_35_code 77 = .ok (.iload_n 2, 1) := by decide +kernel
theorem d_M_range_78 : decode prog_6_method_35_code 78 = .ok (.invokestatic 152, 3) := by decide +kernel
theorem d_M_range_81 : decode prog_6_method_35_code 81 = .ok (.ifCond .eq 17, 3) := by decide +kernel
theorem d_M_range_84 : decode prog_6_method_35_code 84 = .ok (.aload_n 0, 1) := by decide +kernel
theorem d_M_range_85 : decode prog_6_method_35_code 85 = .ok (.getfield 16, 3) := by decide +kernel
theorem d_M_range_88 : decode prog_6_method_35_code 88 = .ok (.bipush 16, 2) := by decide +kernel
theorem d_M_range_90 : decode prog_6_method_35_code 90 = .ok (.iload_n 1, 1) := by decide +kernel
theorem d_M_range_91 : decode prog_6_method_35_code 91 = .ok (.imul, 1) := by decide +kernel
theorem d_M_range_92 : decode prog_6_method_35_code 92 = .ok (.iload_n 2, 1) := by decide +kernel
theorem d_M_range_93 : decode prog_6_method_35_code 93 = .ok (.iadd, 1) := by decide +kernel
theorem d_M_range_94 : decode prog_6_method_35_code 94 = .ok (.iaload, 1) := by decide +kernel
theorem d_M_range_95 : decode prog_6_method_35_code 95 = .ok (.goto 4, 3) := by decide +kernel
theorem d_M_range_98 : decode prog_6_method_35_code 98 = .ok (.iconst (-1), 1) := by decide +kernel
theorem d_M_range_99 : decode prog_6_method_35_code 99 = .ok (.istore 10, 2) := by decide +kernel
theorem d_M_range_101 : decode prog_6_method_35_code 101 = .ok (.iload 7, 2) := by decide +kernel
theorem d_M_range_103 : decode prog_6_method_35_code 103 = .ok (.iconst 2, 1) := by decide +kernel
theorem d_M_range_104 : decode prog_6_method_35_code 104 = .ok (.if_icmp .ne 16, 3) := by decide +kernel
theorem d_M_range_107 : decode prog_6_method_35_code 107 = .ok (.iload 10, 2) := by decide +kernel
theorem d_M_range_109 : decode prog_6_method_35_code 109 = .ok (.ifCond .lt 7, 3) := by decide +kernel
theorem d_M_range_112 : decode prog_6_method_35_code 112 = .ok (.iconst 1, 1) := by decide +kernel
theorem d_M_range_113 : decode prog_6_method_35_code 113 = .ok (.goto 30, 3) := by decide +kernel
theorem d_M_range_116 : decode prog_6_method_35_code 116 = .ok (.iconst 0, 1) := by decide +kernel
theorem d_M_range_117 : decode prog_6_method_35_code 117 = .ok (.goto 26, 3) := by decide +kernel
theorem d_M_range_120 : decode prog_6_method_35_code 120 = .ok (.iload 10, 2) := by decide +kernel
theorem d_M_range_122 : decode prog_6_method_35_code 122 = .ok (.iconst 1, 1) := by decide +kernel
theorem d_M_range_123 : decode prog_6_method_35_code 123 = .ok (.if_icmp .eq 15, 3) := by decide +kernel
theorem d_M_range_126 : decode prog_6_method_35_code 126 = .ok (.iload 10, 2) := by decide +kernel
theorem d_M_range_128 : decode prog_6_method_35_code 128 = .ok (.iconst 3, 1) := by decide +kernel
theorem d_M_range_129 : decode prog_6_method_35_code 129 = .ok (.if_icmp .eq 9, 3) := by decide +kernel
theorem d_M_range_132 : decode prog_6_method_35_code 132 = .ok (.iload 10, 2) := by decide +kernel
theorem d_M_range_134 : decode prog_6_method_35_code 134 = .ok (.iconst 5, 1) := by decide +kernel
theorem d_M_range_135 : decode prog_6_method_35_code 135 = .ok (.if_icmp .ne 7, 3) := by decide +kernel
theorem d_M_range_138 : decode prog_6_method_35_code 138 = .ok (.iconst 1, 1) := by decide +kernel
theorem d_M_range_139 : decode prog_6_method_35_code 139 = .ok (.goto 4, 3) := by decide +kernel
theorem d_M_range_142 : decode prog_6_method_35_code 142 = .ok (.iconst 0, 1) := by decide +kernel
theorem d_M_range_143 : decode prog_6_method_35_code 143 = .ok (.istore 11, 2) := by decide +kernel
theorem d_M_range_145 : decode prog_6_method_35_code 145 = .ok (.aload_n 0, 1) := by decide +kernel
theorem d_M_range_146 : decode prog_6_method_35_code 146 = .ok (.iload 8, 2) := by decide +kernel
theorem d_M_range_148 : decode prog_6_method_35_code 148 = .ok (.iload 9, 2) := by decide +kernel
theorem d_M_range_150 : decode prog_6_method_35_code 150 = .ok (.iload 11, 2) := by decide +kernel
theorem d_M_range_152 : decode prog_6_method_35_code 152 = .ok (.ifCond .ne 7, 3) := by decide +kernel
theorem d_M_range_155 : decode prog_6_method_35_code 155 = .ok (.iconst 1, 1) := by decide +kernel
theorem d_M_range_156 : decode prog_6_method_35_code 156 = .ok (.goto 4, 3) := by decide +kernel
theorem d_M_range_159 : decode prog_6_method_35_code 159 = .ok (.iconst 0, 1) := by decide +kernel
theorem d_M_range_160 : decode prog_6_method_35_code 160 = .ok (.invokevirtual 133, 3) := by decide +kernel
theorem d_M_range_163 : decode prog_6_method_35_code 163 = .ok (.ifCond .eq 5, 3) := by decide +kernel
theorem d_M_range_166 : decode prog_6_method_35_code 166 = .ok (.iconst 0, 1) := by decide +kernel
theorem d_M_range_167 : decode prog_6_method_35_code 167 = .ok (.ireturn, 1) := by decide +kernel
theorem d_M_range_168 : decode prog_6_method_35_code 168 = .ok (.aload_n 0, 1) := by decide +kernel
theorem d_M_range_169 : decode prog_6_method_35_code 169 = .ok (.iconst 0, 1) := by decide +kernel
theorem d_M_range_170 : decode prog_6_method_35_code 170 = .ok (.putfield 130, 3) := by decide +kernel
theorem d_M_range_173 : decode prog_6_method_35_code 173 = .ok (.iload 10, 2) := by decide +kernel
theorem d_M_range_175 : decode prog_6_method_35_code 175 = .ok (.iload 7, 2) := by decide +kernel
theorem d_M_range_177 : decode prog_6_method_35_code 177 = .ok (.invokestatic 176, 3) := by decide +kernel
theorem d_M_range_180 : decode prog_6_method_35_code 180 = .ok (.ifCond .ne 17, 3) := by decide +kernel
theorem d_M_range_183 : decode prog_6_method_35_code 183 = .ok (.aload_n 0, 1) := by decide +kernel
theorem d_M_range_184 : decode prog_6_method_35_code 184 = .ok (.iload_n 1, 1) := by decide +kernel
theorem d_M_range_185 : decode prog_6_method_35_code 185 = .ok (.iload_n 2, 1) := by decide +kernel
theorem d_M_range_186 : decode prog_6_method_35_code 186 = .ok (.lload_n 3, 1) := by decide +kernel
theorem d_M_range_187 : decode prog_6_method_35_code 187 = .ok (.lload 5, 2) := by decide +kernel
theorem d_M_range_189 : decode prog_6_method_35_code 189 = .ok (.iload 7, 2) := by decide +kernel
theorem d_M_range_191 : decode prog_6_method_35_code 191 = .ok (.invokevirtual 179, 3) := by decide +kernel
theorem d_M_range_194 : decode prog_6_method_35_code 194 = .ok (.ifCond .eq 5, 3) := by decide +kernel
theorem d_M_range_197 : decode prog_6_method_35_code 197 = .ok (.iconst 0, 1) := by decide +kernel
theorem d_M_range_198 : decode prog_6_method_35_code 198 = .ok (.ireturn, 1) := by decide +kernel
theorem d_M_range_199 : decode prog_6_method_35_code 199 = .ok (.aload_n 0, 1) := by decide +kernel
theorem d_M_range_200 : decode prog_6_method_35_code 200 = .ok (.iload_n 1, 1) := by decide +kernel
theorem d_M_range_201 : decode prog_6_method_35_code 201 = .ok (.iload_n 2, 1) := by decide +kernel
theorem d_M_range_202 : decode prog_6_method_35_code 202 = .ok (.invokevirtual 183, 3) := by decide +kernel
theorem d_M_range_205 : decode prog_6_method_35_code 205 = .ok (.bipush 8, 2) := by decide +kernel
theorem d_M_range_207 : decode prog_6_method_35_code 207 = .ok (.if_icmp .ne 21, 3) := by decide +kernel
theorem d_M_range_210 : decode prog_6_method_35_code 210 = .ok (.aload_n 0, 1) := by decide +kernel
theorem d_M_range_211 : decode prog_6_method_35_code 211 = .ok (.iload_n 1, 1) := by decide +kernel
theorem d_M_range_212 : decode prog_6_method_35_code 212 = .ok (.iload_n 2, 1) := by decide +kernel
theorem d_M_range_213 : decode prog_6_method_35_code 213 = .ok (.iload 7, 2) := by decide +kernel
theorem d_M_range_215 : decode prog_6_method_35_code 215 = .ok (.iconst 2, 1) := by decide +kernel
theorem d_M_range_216 : decode prog_6_method_35_code 216 = .ok (.if_icmp .eq 7, 3) := by decide +kernel
theorem d_M_range_219 : decode prog_6_method_35_code 219 = .ok (.iconst 1, 1) := by decide +kernel
theorem d_M_range_220 : decode prog_6_method_35_code 220 = .ok (.goto 4, 3) := by decide +kernel
theorem d_M_range_223 : decode prog_6_method_35_code 223 = .ok (.iconst 0, 1) := by decide +kernel
theorem d_M_range_224 : decode prog_6_method_35_code 224 = .ok (.invokevirtual 186, 3) := by decide +kernel
theorem d_M_range_227 : decode prog_6_method_35_code 227 = .ok (.ireturn, 1) := by decide +kernel
theorem d_M_range_228 : decode prog_6_method_35_code 228 = .ok (.aload_n 0, 1) := by decide +kernel
theorem d_M_range_229 : decode prog_6_method_35_code 229 = .ok (.invokevirtual 162, 3) := by decide +kernel
theorem d_M_range_232 : decode prog_6_method_35_code 232 = .ok (.sipush 256, 3) := by decide +kernel
theorem d_M_range_235 : decode prog_6_method_35_code 235 = .ok (.if_icmp .lt 5, 3) := by decide +kernel
theorem d_M_range_238 : decode prog_6_method_35_code 238 = .ok (.iconst 3, 1) := by decide +kernel
theorem d_M_range_239 : decode prog_6_method_35_code 239 = .ok (.ireturn, 1) := by decide +kernel
theorem d_M_range_240 : decode prog_6_method_35_code 240 = .ok (.aload_n 0, 1) := by decide +kernel
theorem d_M_range_241 : decode prog_6_method_35_code 241 = .ok (.getfield 35, 3) := by decide +kernel
theorem d_M_range_244 : decode prog_6_method_35_code 244 = .ok (.iload_n 1, 1) := by decide +kernel
theorem d_M_range_245 : decode prog_6_method_35_code 245 = .ok (.iconst 1, 1) := by decide +kernel
theorem d_M_range_246 : decode prog_6_method_35_code 246 = .ok (.iastore, 1) := by decide +kernel
theorem d_M_range_247 : decode prog_6_method_35_code 247 = .ok (.aload_n 0, 1) := by decide +kernel
theorem d_M_range_248 : decode prog_6_method_35_code 248 = .ok (.getfield 38, 3) := by decide +kernel
theorem d_M_range_251 : decode prog_6_method_35_code 251 = .ok (.iload_n 1, 1) := by decide +kernel
theorem d_M_range_252 : decode prog_6_method_35_code 252 = .ok (.iload_n 2, 1) := by decide +kernel
theorem d_M_range_253 : decode prog_6_method_35_code 253 = .ok (.iastore, 1) := by decide +kernel
theorem d_M_range_254 : decode prog_6_method_35_code 254 = .ok (.aload_n 0, 1) := by decide +kernel
theorem d_M_range_255 : decode prog_6_method_35_code 255 = .ok (.getfield 41, 3) := by decide +kernel
theorem d_M_range_258 : decode prog_6_method_35_code 258 = .ok (.iload_n 1, 1) := by decide +kernel
theorem d_M_range_259 : decode prog_6_method_35_code 259 = .ok (.iload 7, 2) := by decide +kernel
theorem d_M_range_261 : decode prog_6_method_35_code 261 = .ok (.iastore, 1) := by decide +kernel
theorem d_M_range_262 : decode prog_6_method_35_code 262 = .ok (.aload_n 0, 1) := by decide +kernel
theorem d_M_range_263 : decode prog_6_method_35_code 263 = .ok (.getfield 44, 3) := by decide +kernel
theorem d_M_range_266 : decode prog_6_method_35_code 266 = .ok (.iload_n 1, 1) := by decide +kernel
theorem d_M_range_267 : decode prog_6_method_35_code 267 = .ok (.lload_n 3, 1) := by decide +kernel
theorem d_M_range_268 : decode prog_6_method_35_code 268 = .ok (.lastore, 1) := by decide +kernel
theorem d_M_range_269 : decode prog_6_method_35_code 269 = .ok (.aload_n 0, 1) := by decide +kernel
theorem d_M_range_270 : decode prog_6_method_35_code 270 = .ok (.getfield 47, 3) := by decide +kernel
theorem d_M_range_273 : decode prog_6_method_35_code 273 = .ok (.iload_n 1, 1) := by decide +kernel
theorem d_M_range_274 : decode prog_6_method_35_code 274 = .ok (.lload 5, 2) := by decide +kernel
theorem d_M_range_276 : decode prog_6_method_35_code 276 = .ok (.lastore, 1) := by decide +kernel
theorem d_M_range_277 : decode prog_6_method_35_code 277 = .ok (.aload_n 0, 1) := by decide +kernel
theorem d_M_range_278 : decode prog_6_method_35_code 278 = .ok (.iload_n 1, 1) := by decide +kernel
theorem d_M_range_279 : decode prog_6_method_35_code 279 = .ok (.aload_n 0, 1) := by decide +kernel
theorem d_M_range_280 : decode prog_6_method_35_code 280 = .ok (.iload_n 1, 1) := by decide +kernel
theorem d_M_range_281 : decode prog_6_method_35_code 281 = .ok (.iload_n 2, 1) := by decide +kernel
theorem d_M_range_282 : decode prog_6_method_35_code 282 = .ok (.lload_n 3, 1) := by decide +kernel
theorem d_M_range_283 : decode prog_6_method_35_code 283 = .ok (.lload 5, 2) := by decide +kernel
theorem d_M_range_285 : decode prog_6_method_35_code 285 = .ok (.iconst (-1), 1) := by decide +kernel
theorem d_M_range_286 : decode prog_6_method_35_code 286 = .ok (.invokevirtual 179, 3) := by decide +kernel
theorem d_M_range_289 : decode prog_6_method_35_code 289 = .ok (.invokevirtual 166, 3) := by decide +kernel
theorem d_M_range_292 : decode prog_6_method_35_code 292 = .ok (.ireturn, 1) := by decide +kernel
theorem d_M_escalate_0 : decode prog_6_method_36_code 0 = .ok (.iload_n 1, 1) := by decide +kernel
theorem d_M_escalate_1 : decode prog_6_method_36_code 1 = .ok (.invokestatic 70, 3) := by decide +kernel
theorem d_M_escalate_4 : decode prog_6_method_36_code 4 = .ok (.ifCond .eq 14, 3) := by decide +kernel
theorem d_M_escalate_7 : decode prog_6_method_36_code 7 = .ok (.iload_n 2, 1) := by decide +kernel
theorem d_M_escalate_8 : decode prog_6_method_36_code 8 = .ok (.invokestatic 152, 3) := by decide +kernel
theorem d_M_escalate_11 : decode prog_6_method_36_code 11 = .ok (.ifCond .eq 7, 3) := by decide +kernel
theorem d_M_escalate_14 : decode prog_6_method_36_code 14 = .ok (.iconst 1, 1) := by decide +kernel
theorem d_M_escalate_15 : decode prog_6_method_36_code 15 = .ok (.goto 4, 3) := by decide +kernel
theorem d_M_escalate_18 : decode prog_6_method_36_code 18 = .ok (.iconst 0, 1) := by decide +kernel
theorem d_M_escalate_19 : decode prog_6_method_36_code 19 = .ok (.istore_n 3, 1) := by decide +kernel
theorem d_M_escalate_20 : decode prog_6_method_36_code 20 = .ok (.aload_n 0, 1) := by decide +kernel
theorem d_M_escalate_21 : decode prog_6_method_36_code 21 = .ok (.iload_n 3, 1) := by decide +kernel
theorem d_M_escalate_22 : decode prog_6_method_36_code 22 = .ok (.ifCond .ne 7, 3) := by decide +kernel
theorem d_M_escalate_25 : decode prog_6_method_36_code 25 = .ok (.iconst 1, 1) := by decide +kernel
theorem d_M_escalate_26 : decode prog_6_method_36_code 26 = .ok (.goto 4, 3) := by decide +kernel
theorem d_M_escalate_29 : decode prog_6_method_36_code 29 = .ok (.iconst 0, 1) := by decide +kernel
theorem d_M_escalate_30 : decode prog_6_method_36_code 30 = .ok (.iload_n 3, 1) := by decide +kernel
theorem d_M_escalate_31 : decode prog_6_method_36_code 31 = .ok (.ifCond .eq 17, 3) := by decide +kernel
theorem d_M_escalate_34 : decode prog_6_method_36_code 34 = .ok (.aload_n 0, 1) := by decide +kernel
theorem d_M_escalate_35 : decode prog_6_method_36_code 35 = .ok (.getfield 7, 3) := by decide +kernel
theorem d_M_escalate_38 : decode prog_6_method_36_code 38 = .ok (.iload_n 1, 1) := by decide +kernel
theorem d_M_escalate_39 : decode prog_6_method_36_code 39 = .ok (.iaload, 1) := by decide +kernel
theorem d_M_escalate_40 : decode prog_6_method_36_code 40 = .ok (.iconst 1, 1) := by decide +kernel
theorem d_M_escalate_41 : decode prog_6_method_36_code 41 = .ok (.if_icmp .eq 7, 3) := by decide +kernel
theorem d_M_escalate_44 : decode prog_6_method_36_code 44 = .ok (.iconst 1, 1) := by decide +kernel
theorem d_M_escalate_45 : decode prog_6_method_36_code 45 = .ok (.goto 4, 3) := by decide +kernel
theorem d_M_escalate_48 : decode prog_6_method_36_code 48 = .ok (.iconst 0, 1) := by decide +kernel
theorem d_M_escalate_49 : decode prog_6_method_36_code 49 = .ok (.iload_n 3, 1) := by decide +kernel
theorem d_M_escalate_50 : decode prog_6_method_36_code 50 = .ok (.ifCond .eq 16, 3) := by decide +kernel
theorem d_M_escalate_53 : decode prog_6_method_36_code 53 = .ok (.aload_n 0, 1) := by decide +kernel
theorem d_M_escalate_54 : decode prog_6_method_36_code 54 = .ok (.iload_n 1, 1) := by decide +kernel
theorem d_M_escalate_55 : decode prog_6_method_36_code 55 = .ok (.iload_n 2, 1) := by decide +kernel
theorem d_M_escalate_56 : decode prog_6_method_36_code 56 = .ok (.invokevirtual 183, 3) := by decide +kernel
theorem d_M_escalate_59 : decode prog_6_method_36_code 59 = .ok (.ifCond .ne 7, 3) := by decide +kernel
theorem d_M_escalate_62 : decode prog_6_method_36_code 62 = .ok (.iconst 1, 1) := by decide +kernel
theorem d_M_escalate_63 : decode prog_6_method_36_code 63 = .ok (.goto 4, 3) := by decide +kernel
theorem d_M_escalate_66 : decode prog_6_method_36_code 66 = .ok (.iconst 0, 1) := by decide +kernel
theorem d_M_escalate_67 : decode prog_6_method_36_code 67 = .ok (.invokevirtual 133, 3) := by decide +kernel
theorem d_M_escalate_70 : decode prog_6_method_36_code 70 = .ok (.ifCond .eq 5, 3) := by decide +kernel
theorem d_M_escalate_73 : decode prog_6_method_36_code 73 = .ok (.iconst 0, 1) := by decide +kernel
theorem d_M_escalate_74 : decode prog_6_method_36_code 74 = .ok (.ireturn, 1) := by decide +kernel
theorem d_M_escalate_75 : decode prog_6_method_36_code 75 = .ok (.aload_n 0, 1) := by decide +kernel
theorem d_M_escalate_76 : decode prog_6_method_36_code 76 = .ok (.iconst 0, 1) := by decide +kernel
theorem d_M_escalate_77 : decode prog_6_method_36_code 77 = .ok (.putfield 130, 3) := by decide +kernel
theorem d_M_escalate_80 : decode prog_6_method_36_code 80 = .ok (.aload_n 0, 1) := by decide +kernel
theorem d_M_escalate_81 : decode prog_6_method_36_code 81 = .ok (.iload_n 1, 1) := by decide +kernel
theorem d_M_escalate_82 : decode prog_6_method_36_code 82 = .ok (.iload_n 2, 1) := by decide +kernel
theorem d_M_escalate_83 : decode prog_6_method_36_code 83 = .ok (.iconst 0, 1) := by decide +kernel
theorem d_M_escalate_84 : decode prog_6_method_36_code 84 = .ok (.invokevirtual 186, 3) := by decide +kernel
theorem d_M_escalate_87 : decode prog_6_method_36_code 87 = .ok (.ireturn, 1) := by decide +kernel
theorem d_M_cancel_0 : decode prog_6_method_37_code 0 = .ok (.aload_n 0, 1) := by decide +kernel
theorem d_M_cancel_1 : decode prog_6_method_37_code 1 = .ok (.iload_n 1, 1) := by decide +kernel
theorem d_M_cancel_2 : decode prog_6_method_37_code 2 = .ok (.invokestatic 70, 3) := by decide +kernel
theorem d_M_cancel_5 : decode prog_6_method_37_code 5 = .ok (.ifCond .ne 7, 3) := by decide +kernel
theorem d_M_cancel_8 : decode prog_6_method_37_code 8 = .ok (.iconst 1, 1) := by decide +kernel
theorem d_M_cancel_9 : decode prog_6_method_37_code 9 = .ok (.goto 4, 3) := by decide +kernel
theorem d_M_cancel_12 : decode prog_6_method_37_code 12 = .ok (.iconst 0, 1) := by decide +kernel
theorem d_M_cancel_13 : decode prog_6_method_37_code 13 = .ok (.aload_n 0, 1) := by decide +kernel
theorem d_M_cancel_14 : decode prog_6_method_37_code 14 = .ok (.iload_n 1, 1) := by decide +kernel
theorem d_M_cancel_15 : decode prog_6_method_37_code 15 = .ok (.iconst 2, 1) := by decide +kernel
theorem d_M_cancel_16 : decode prog_6_method_37_code 16 = .ok (.invokevirtual 190, 3) := by decide +kernel
theorem d_M_cancel_19 : decode prog_6_method_37_code 19 = .ok (.ifCond .ne 7, 3) := by decide +kernel
theorem d_M_cancel_22 : decode prog_6_method_37_code 22 = .ok (.iconst 1, 1) := by decide +kernel
theorem d_M_cancel_23 : decode prog_6_method_37_code 23 = .ok (.goto 4, 3) := by decide +kernel
theorem d_M_cancel_26 : decode prog_6_method_37_code 26 = .ok (.iconst 0, 1) := by decide +kernel
theorem d_M_cancel_27 : decode prog_6_method_37_code 27 = .ok (.iconst 0, 1) := by decide +kernel
theorem d_M_cancel_28 : decode prog_6_method_37_code 28 = .ok (.invokevirtual 133, 3) := by decide +kernel
theorem d_M_cancel_31 : decode prog_6_method_37_code 31 = .ok (.ifCond .eq 5, 3) := by decide +kernel
theorem d_M_cancel_34 : decode prog_6_method_37_code 34 = .ok (.iconst 0, 1) := by decide +kernel
theorem d_M_cancel_35 : decode prog_6_method_37_code 35 = .ok (.ireturn, 1) := by decide +kernel
theorem d_M_cancel_36 : decode prog_6_method_37_code 36 = .ok (.aload_n 0, 1) := by decide +kernel
theorem d_M_cancel_37 : decode prog_6_method_37_code 37 = .ok (.iconst 0, 1) := by decide +kernel
theorem d_M_cancel_38 : decode prog_6_method_37_code 38 = .ok (.putfield 130, 3) := by decide +kernel
theorem d_M_cancel_41 : decode prog_6_method_37_code 41 = .ok (.aload_n 0, 1) := by decide +kernel
theorem d_M_cancel_42 : decode prog_6_method_37_code 42 = .ok (.getfield 7, 3) := by decide +kernel
theorem d_M_cancel_45 : decode prog_6_method_37_code 45 = .ok (.iload_n 1, 1) := by decide +kernel
theorem d_M_cancel_46 : decode prog_6_method_37_code 46 = .ok (.iconst 1, 1) := by decide +kernel
theorem d_M_cancel_47 : decode prog_6_method_37_code 47 = .ok (.iastore, 1) := by decide +kernel
theorem d_M_cancel_48 : decode prog_6_method_37_code 48 = .ok (.aload_n 0, 1) := by decide +kernel
theorem d_M_cancel_49 : decode prog_6_method_37_code 49 = .ok (.iconst (-1), 1) := by decide +kernel
theorem d_M_cancel_50 : decode prog_6_method_37_code 50 = .ok (.invokevirtual 143, 3) := by decide +kernel
theorem d_M_cancel_53 : decode prog_6_method_37_code 53 = .ok (.aload_n 0, 1) := by decide +kernel
theorem d_M_cancel_54 : decode prog_6_method_37_code 54 = .ok (.getfield 130, 3) := by decide +kernel
theorem d_M_cancel_57 : decode prog_6_method_37_code 57 = .ok (.ireturn, 1) := by decide +kernel
theorem d_M_giveReading_0 : decode prog_6_method_38_code 0 = .ok (.iconst 0, 1) := by decide +kernel
theorem d_M_giveReading_1 : decode prog_6_method_38_code 1 = .ok (.istore_n 2, 1) := by decide +kernel
theorem d_M_giveReading_2 : decode prog_6_method_38_code 2 = .ok (.iload_n 2, 1) := by decide +kernel
theorem d_M_giveReading_3 : decode prog_6_method_38_code 3 = .ok (.bipush 16, 2) := by decide +kernel
theorem d_M_giveReading_5 : decode prog_6_method_38_code 5 = .ok (.if_icmp .ge 75, 3) := by decide +kernel
theorem d_M_giveReading_8 : decode prog_6_method_38_code 8 = .ok (.bipush 16, 2) := by decide +kernel
theorem d_M_giveReading_10 : decode prog_6_method_38_code 10 = .ok (.iload_n 1, 1) := by decide +kernel
theorem d_M_giveReading_11 : decode prog_6_method_38_code 11 = .ok (.imul, 1) := by decide +kernel
theorem d_M_giveReading_12 : decode prog_6_method_38_code 12 = .ok (.iload_n 2, 1) := by decide +kernel
theorem d_M_giveReading_13 : decode prog_6_method_38_code 13 = .ok (.iadd, 1) := by decide +kernel
theorem d_M_giveReading_14 : decode prog_6_method_38_code 14 = .ok (.istore_n 3, 1) := by decide +kernel
theorem d_M_giveReading_15 : decode prog_6_method_38_code 15 = .ok (.aload_n 0, 1) := by decide +kernel
theorem d_M_giveReading_16 : decode prog_6_method_38_code 16 = .ok (.getfield 16, 3) := by decide +kernel
theorem d_M_giveReading_19 : decode prog_6_method_38_code 19 = .ok (.iload_n 3, 1) := by decide +kernel
theorem d_M_giveReading_20 : decode prog_6_method_38_code 20 = .ok (.aload_n 0, 1) := by decide +kernel
theorem d_M_giveReading_21 : decode prog_6_method_38_code 21 = .ok (.getfield 16, 3) := by decide +kernel
theorem d_M_giveReading_24 : decode prog_6_method_38_code 24 = .ok (.iload_n 3, 1) := by decide +kernel
theorem d_M_giveReading_25 : decode prog_6_method_38_code 25 = .ok (.iaload, 1) := by decide +kernel
theorem d_M_giveReading_26 : decode prog_6_method_38_code 26 = .ok (.iconst 3, 1) := by decide +kernel
theorem d_M_giveReading_27 : decode prog_6_method_38_code 27 = .ok (.if_icmp .ne 7, 3) := by decide +kernel
theorem d_M_giveReading_30 : decode prog_6_method_38_code 30 = .ok (.iconst 1, 1) := by decide +kernel
theorem d_M_giveReading_31 : decode prog_6_method_38_code 31 = .ok (.goto 42, 3) := by decide +kernel
theorem d_M_giveReading_34 : decode prog_6_method_38_code 34 = .ok (.aload_n 0, 1) := by decide +kernel
theorem d_M_giveReading_35 : decode prog_6_method_38_code 35 = .ok (.getfield 16, 3) := by decide +kernel
theorem d_M_giveReading_38 : decode prog_6_method_38_code 38 = .ok (.iload_n 3, 1) := by decide +kernel
theorem d_M_giveReading_39 : decode prog_6_method_38_code 39 = .ok (.iaload, 1) := by decide +kernel
theorem d_M_giveReading_40 : decode prog_6_method_38_code 40 = .ok (.ifCond .eq 23, 3) := by decide +kernel
theorem d_M_giveReading_43 : decode prog_6_method_38_code 43 = .ok (.aload_n 0, 1) := by decide +kernel
theorem d_M_giveReading_44 : decode prog_6_method_38_code 44 = .ok (.getfield 16, 3) := by decide +kernel
theorem d_M_giveReading_47 : decode prog_6_method_38_code 47 = .ok (.iload_n 3, 1) := by decide +kernel
theorem d_M_giveReading_48 : decode prog_6_method_38_code 48 = .ok (.iaload, 1) := by decide +kernel
theorem d_M_giveReading_49 : decode prog_6_method_38_code 49 = .ok (.iconst 2, 1) := by decide +kernel
theorem d_M_giveReading_50 : decode prog_6_method_38_code 50 = .ok (.if_icmp .eq 13, 3) := by decide +kernel
theorem d_M_giveReading_53 : decode prog_6_method_38_code 53 = .ok (.aload_n 0, 1) := by decide +kernel
theorem d_M_giveReading_54 : decode prog_6_method_38_code 54 = .ok (.getfield 16, 3) := by decide +kernel
theorem d_M_giveReading_57 : decode prog_6_method_38_code 57 = .ok (.iload_n 3, 1) := by decide +kernel
theorem d_M_giveReading_58 : decode prog_6_method_38_code 58 = .ok (.iaload, 1) := by decide +kernel
theorem d_M_giveReading_59 : decode prog_6_method_38_code 59 = .ok (.iconst 4, 1) := by decide +kernel
theorem d_M_giveReading_60 : decode prog_6_method_38_code 60 = .ok (.if_icmp .ne 7, 3) := by decide +kernel
theorem d_M_giveReading_63 : decode prog_6_method_38_code 63 = .ok (.iconst (-1), 1) := by decide +kernel
theorem d_M_giveReading_64 : decode prog_6_method_38_code 64 = .ok (.goto 9, 3) := by decide +kernel
theorem d_M_giveReading_67 : decode prog_6_method_38_code 67 = .ok (.aload_n 0, 1) := by decide +kernel
theorem d_M_giveReading_68 : decode prog_6_method_38_code 68 = .ok (.getfield 16, 3) := by decide +kernel
theorem d_M_giveReading_71 : decode prog_6_method_38_code 71 = .ok (.iload_n 3, 1) := by decide +kernel
theorem d_M_giveReading_72 : decode prog_6_method_38_code 72 = .ok (.iaload, 1) := by decide +kernel
theorem d_M_giveReading_73 : decode prog_6_method_38_code 73 = .ok (.iastore, 1) := by decide +kernel
theorem d_M_giveReading_74 : decode prog_6_method_38_code 74 = .ok (.iinc 2 1, 3) := by decide +kernel
theorem d_M_giveReading_77 : decode prog_6_method_38_code 77 = .ok (.goto (-75), 3) := by decide +kernel
theorem d_M_giveReading_80 : decode prog_6_method_38_code 80 = .ok (.aload_n 0, 1) := by decide +kernel
theorem d_M_giveReading_81 : decode prog_6_method_38_code 81 = .ok (.getfield 93, 3) := by decide +kernel
theorem d_M_giveReading_84 : decode prog_6_method_38_code 84 = .ok (.iconst 1, 1) := by decide +kernel
theorem d_M_giveReading_85 : decode prog_6_method_38_code 85 = .ok (.isub, 1) := by decide +kernel
theorem d_M_giveReading_86 : decode prog_6_method_38_code 86 = .ok (.istore_n 2, 1) := by decide +kernel
theorem d_M_giveReading_87 : decode prog_6_method_38_code 87 = .ok (.iload_n 2, 1) := by decide +kernel
theorem d_M_giveReading_88 : decode prog_6_method_38_code 88 = .ok (.ifCond .lt 34, 3) := by decide +kernel
theorem d_M_giveReading_91 : decode prog_6_method_38_code 91 = .ok (.aload_n 0, 1) := by decide +kernel
theorem d_M_giveReading_92 : decode prog_6_method_38_code 92 = .ok (.getfield 19, 3) := by decide +kernel
theorem d_M_giveReading_95 : decode prog_6_method_38_code 95 = .ok (.iload_n 2, 1) := by decide +kernel
theorem d_M_giveReading_96 : decode prog_6_method_38_code 96 = .ok (.iaload, 1) := by decide +kernel
theorem d_M_giveReading_97 : decode prog_6_method_38_code 97 = .ok (.iload_n 1, 1) := by decide +kernel
theorem d_M_giveReading_98 : decode prog_6_method_38_code 98 = .ok (.if_icmp .ne 18, 3) := by decide +kernel
theorem d_M_giveReading_101 : decode prog_6_method_38_code 101 = .ok (.aload_n 0, 1) := by decide +kernel
theorem d_M_giveReading_102 : decode prog_6_method_38_code 102 = .ok (.getfield 25, 3) := by decide +kernel
theorem d_M_giveReading_105 : decode prog_6_method_38_code 105 = .ok (.iload_n 2, 1) := by decide +kernel
theorem d_M_giveReading_106 : decode prog_6_method_38_code 106 = .ok (.iaload, 1) := by decide +kernel
theorem d_M_giveReading_107 : decode prog_6_method_38_code 107 = .ok (.iconst 5, 1) := by decide +kernel
theorem d_M_giveReading_108 : decode prog_6_method_38_code 108 = .ok (.if_icmp .eq 8, 3) := by decide +kernel
theorem d_M_giveReading_111 : decode prog_6_method_38_code 111 = .ok (.aload_n 0, 1) := by decide +kernel
theorem d_M_giveReading_112 : decode prog_6_method_38_code 112 = .ok (.iload_n 2, 1) := by decide +kernel
theorem d_M_giveReading_113 : decode prog_6_method_38_code 113 = .ok (.invokevirtual 109, 3) := by decide +kernel
theorem d_M_giveReading_116 : decode prog_6_method_38_code 116 = .ok (.iinc 2 (-1), 3) := by decide +kernel
theorem d_M_giveReading_119 : decode prog_6_method_38_code 119 = .ok (.goto (-32), 3) := by decide +kernel
theorem d_M_giveReading_122 : decode prog_6_method_38_code 122 = .ok (.return_, 1) := by decide +kernel
theorem d_M_locksOf_0 : decode prog_6_method_39_code 0 = .ok (.iconst 0, 1) := by decide +kernel
theorem d_M_locksOf_1 : decode prog_6_method_39_code 1 = .ok (.istore_n 2, 1) := by decide +kernel
theorem d_M_locksOf_2 : decode prog_6_method_39_code 2 = .ok (.iconst 0, 1) := by decide +kernel
theorem d_M_locksOf_3 : decode prog_6_method_39_code 3 = .ok (.istore_n 3, 1) := by decide +kernel
theorem d_M_locksOf_4 : decode prog_6_method_39_code 4 = .ok (.iload_n 3, 1) := by decide +kernel
theorem d_M_locksOf_5 : decode prog_6_method_39_code 5 = .ok (.bipush 16, 2) := by decide +kernel
theorem d_M_locksOf_7 : decode prog_6_method_39_code 7 = .ok (.if_icmp .ge 31, 3) := by decide +kernel
theorem d_M_locksOf_10 : decode prog_6_method_39_code 10 = .ok (.aload_n 0, 1) := by decide +kernel
theorem d_M_locksOf_11 : decode prog_6_method_39_code 11 = .ok (.getfield 16, 3) := by decide +kernel
theorem d_M_locksOf_14 : decode prog_6_method_39_code 14 = .ok (.bipush 16, 2) := by decide +kernel
theorem d_M_locksOf_16 : decode prog_6_method_39_code 16 = .ok (.iload_n 1, 1) := by decide +kernel
theorem d_M_locksOf_17 : decode prog_6_method_39_code 17 = .ok (.imul, 1) := by decide +kernel
theorem d_M_locksOf_18 : decode prog_6_method_39_code 18 = .ok (.iload_n 3, 1) := by decide +kernel
theorem d_M_locksOf_19 : decode prog_6_method_39_code 19 = .ok (.iadd, 1) := by decide +kernel
theorem d_M_locksOf_20 : decode prog_6_method_39_code 20 = .ok (.iaload, 1) := by decide +kernel
theorem d_M_locksOf_21 : decode prog_6_method_39_code 21 = .ok (.ifCond .lt 9, 3) := by decide +kernel
theorem d_M_locksOf_24 : decode prog_6_method_39_code 24 = .ok (.iload_n 2, 1) := by decide +kernel
theorem d_M_locksOf_25 : decode prog_6_method_39_code 25 = .ok (.iconst 1, 1) := by decide +kernel
theorem d_M_locksOf_26 : decode prog_6_method_39_code 26 = .ok (.iadd, 1) := by decide +kernel
theorem d_M_locksOf_27 : decode prog_6_method_39_code 27 = .ok (.goto 4, 3) := by decide +kernel
theorem d_M_locksOf_30 : decode prog_6_method_39_code 30 = .ok (.iload_n 2, 1) := by decide +kernel
theorem d_M_locksOf_31 : decode prog_6_method_39_code 31 = .ok (.istore_n 2, 1) := by decide +kernel
theorem d_M_locksOf_32 : decode prog_6_method_39_code 32 = .ok (.iinc 3 1, 3) := by decide +kernel
theorem d_M_locksOf_35 : decode prog_6_method_39_code 35 = .ok (.goto (-31), 3) := by decide +kernel
theorem d_M_locksOf_38 : decode prog_6_method_39_code 38 = .ok (.iconst 0, 1) := by decide +kernel
theorem d_M_locksOf_39 : decode prog_6_method_39_code 39 = .ok (.istore_n 3, 1) := by decide +kernel
theorem d_M_locksOf_40 : decode prog_6_method_39_code 40 = .ok (.iload_n 3, 1) := by decide +kernel
theorem d_M_locksOf_41 : decode prog_6_method_39_code 41 = .ok (.aload_n 0, 1) := by decide +kernel
theorem d_M_locksOf_42 : decode prog_6_method_39_code 42 = .ok (.getfield 93, 3) := by decide +kernel
theorem d_M_locksOf_45 : decode prog_6_method_39_code 45 = .ok (.if_icmp .ge 27, 3) := by decide +kernel
theorem d_M_locksOf_48 : decode prog_6_method_39_code 48 = .ok (.aload_n 0, 1) := by decide +kernel
theorem d_M_locksOf_49 : decode prog_6_method_39_code 49 = .ok (.getfield 19, 3) := by decide +kernel
theorem d_M_locksOf_52 : decode prog_6_method_39_code 52 = .ok (.iload_n 3, 1) := by decide +kernel
theorem d_M_locksOf_53 : decode prog_6_method_39_code 53 = .ok (.iaload, 1) := by decide +kernel
theorem d_M_locksOf_54 : decode prog_6_method_39_code 54 = .ok (.iload_n 1, 1) := by decide +kernel
theorem d_M_locksOf_55 : decode prog_6_method_39_code 55 = .ok (.if_icmp .ne 9, 3) := by decide +kernel
theorem d_M_locksOf_58 : decode prog_6_method_39_code 58 = .ok (.iload_n 2, 1) := by decide +kernel
theorem d_M_locksOf_59 : decode prog_6_method_39_code 59 = .ok (.iconst 1, 1) := by decide +kernel
theorem d_M_locksOf_60 : decode prog_6_method_39_code 60 = .ok (.iadd, 1) := by decide +kernel
theorem d_M_locksOf_61 : decode prog_6_method_39_code 61 = .ok (.goto 4, 3) := by decide +kernel
theorem d_M_locksOf_64 : decode prog_6_method_39_code 64 = .ok (.iload_n 2, 1) := by decide +kernel
theorem d_M_locksOf_65 : decode prog_6_method_39_code 65 = .ok (.istore_n 2, 1) := by decide +kernel
theorem d_M_locksOf_66 : decode prog_6_method_39_code 66 = .ok (.iinc 3 1, 3) := by decide +kernel
theorem d_M_locksOf_69 : decode prog_6_method_39_code 69 = .ok (.goto (-29), 3) := by decide +kernel
theorem d_M_locksOf_72 : decode prog_6_method_39_code 72 = .ok (.iload_n 2, 1) := by decide +kernel
theorem d_M_locksOf_73 : decode prog_6_method_39_code 73 = .ok (.ireturn, 1) := by decide +kernel
theorem d_M_prepare_0 : decode prog_6_method_40_code 0 = .ok (.aload_n 0, 1) := by decide +kernel
theorem d_M_prepare_1 : decode prog_6_method_40_code 1 = .ok (.iload_n 1, 1) := by decide +kernel
theorem d_M_prepare_2 : decode prog_6_method_40_code 2 = .ok (.invokestatic 70, 3) := by decide +kernel
theorem d_M_prepare_5 : decode prog_6_method_40_code 5 = .ok (.ifCond .ne 7, 3) := by decide +kernel
theorem d_M_prepare_8 : decode prog_6_method_40_code 8 = .ok (.iconst 1, 1) := by decide +kernel
theorem d_M_prepare_9 : decode prog_6_method_40_code 9 = .ok (.goto 4, 3) := by decide +kernel
theorem d_M_prepare_12 : decode prog_6_method_40_code 12 = .ok (.iconst 0, 1) := by decide +kernel
theorem d_M_prepare_13 : decode prog_6_method_40_code 13 = .ok (.aload_n 0, 1) := by decide +kernel
theorem d_M_prepare_14 : decode prog_6_method_40_code 14 = .ok (.iload_n 1, 1) := by decide +kernel
theorem d_M_prepare_15 : decode prog_6_method_40_code 15 = .ok (.iconst 1, 1) := by decide +kernel
theorem d_M_prepare_16 : decode prog_6_method_40_code 16 = .ok (.invokevirtual 190, 3) := by decide +kernel
theorem d_M_prepare_19 : decode prog_6_method_40_code 19 = .ok (.ifCond .ne 7, 3) := by decide +kernel
theorem d_M_prepare_22 : decode prog_6_method_40_code 22 = .ok (.iconst 1, 1) := by decide +kernel
theorem d_M_prepare_23 : decode prog_6_method_40_code 23 = .ok (.goto 4, 3) := by decide +kernel
theorem d_M_prepare_26 : decode prog_6_method_40_code 26 = .ok (.iconst 0, 1) := by decide +kernel
theorem d_M_prepare_27 : decode prog_6_method_40_code 27 = .ok (.iconst 0, 1) := by decide +kernel
theorem d_M_prepare_28 : decode prog_6_method_40_code 28 = .ok (.invokevirtual 133, 3) := by decide +kernel
theorem d_M_prepare_31 : decode prog_6_method_40_code 31 = .ok (.ifCond .eq 5, 3) := by decide +kernel
theorem d_M_prepare_34 : decode prog_6_method_40_code 34 = .ok (.iconst 0, 1) := by decide +kernel
theorem d_M_prepare_35 : decode prog_6_method_40_code 35 = .ok (.ireturn, 1) := by decide +kernel
theorem d_M_prepare_36 : decode prog_6_method_40_code 36 = .ok (.aload_n 0, 1) := by decide +kernel
theorem d_M_prepare_37 : decode prog_6_method_40_code 37 = .ok (.iconst 0, 1) := by decide +kernel
theorem d_M_prepare_38 : decode prog_6_method_40_code 38 = .ok (.putfield 130, 3) := by decide +kernel
theorem d_M_prepare_41 : decode prog_6_method_40_code 41 = .ok (.aload_n 0, 1) := by decide +kernel
theorem d_M_prepare_42 : decode prog_6_method_40_code 42 = .ok (.iload_n 1, 1) := by decide +kernel
theorem d_M_prepare_43 : decode prog_6_method_40_code 43 = .ok (.invokevirtual 193, 3) := by decide +kernel
theorem d_M_prepare_46 : decode prog_6_method_40_code 46 = .ok (.aload_n 0, 1) := by decide +kernel
theorem d_M_prepare_47 : decode prog_6_method_40_code 47 = .ok (.getfield 7, 3) := by decide +kernel
theorem d_M_prepare_50 : decode prog_6_method_40_code 50 = .ok (.iload_n 1, 1) := by decide +kernel
theorem d_M_prepare_51 : decode prog_6_method_40_code 51 = .ok (.iconst 4, 1) := by decide +kernel
theorem d_M_prepare_52 : decode prog_6_method_40_code 52 = .ok (.iastore, 1) := by decide +kernel
theorem d_M_prepare_53 : decode prog_6_method_40_code 53 = .ok (.aload_n 0, 1) := by decide +kernel
theorem d_M_prepare_54 : decode prog_6_method_40_code 54 = .ok (.iconst (-1), 1) := by decide +kernel
theorem d_M_prepare_55 : decode prog_6_method_40_code 55 = .ok (.invokevirtual 143, 3) := by decide +kernel
theorem d_M_prepare_58 : decode prog_6_method_40_code 58 = .ok (.aload_n 0, 1) := by decide +kernel
theorem d_M_prepare_59 : decode prog_6_method_40_code 59 = .ok (.iload_n 1, 1) := by decide +kernel
theorem d_M_prepare_60 : decode prog_6_method_40_code 60 = .ok (.invokevirtual 196, 3) := by decide +kernel
theorem d_M_prepare_63 : decode prog_6_method_40_code 63 = .ok (.ireturn, 1) := by decide +kernel
theorem d_M_unread_0 : decode prog_6_method_41_code 0 = .ok (.aload_n 0, 1) := by decide +kernel
theorem d_M_unread_1 : decode prog_6_method_41_code 1 = .ok (.iload_n 1, 1) := by decide +kernel
theorem d_M_unread_2 : decode prog_6_method_41_code 2 = .ok (.invokestatic 70, 3) := by decide +kernel
theorem d_M_unread_5 : decode prog_6_method_41_code 5 = .ok (.ifCond .ne 7, 3) := by decide +kernel
theorem d_M_unread_8 : decode prog_6_method_41_code 8 = .ok (.iconst 1, 1) := by decide +kernel
theorem d_M_unread_9 : decode prog_6_method_41_code 9 = .ok (.goto 4, 3) := by decide +kernel
theorem d_M_unread_12 : decode prog_6_method_41_code 12 = .ok (.iconst 0, 1) := by decide +kernel
theorem d_M_unread_13 : decode prog_6_method_41_code 13 = .ok (.aload_n 0, 1) := by decide +kernel
theorem d_M_unread_14 : decode prog_6_method_41_code 14 = .ok (.iload_n 1, 1) := by decide +kernel
theorem d_M_unread_15 : decode prog_6_method_41_code 15 = .ok (.iconst 1, 1) := by decide +kernel
theorem d_M_unread_16 : decode prog_6_method_41_code 16 = .ok (.invokevirtual 190, 3) := by decide +kernel
theorem d_M_unread_19 : decode prog_6_method_41_code 19 = .ok (.ifCond .ne 7, 3) := by decide +kernel
theorem d_M_unread_22 : decode prog_6_method_41_code 22 = .ok (.iconst 1, 1) := by decide +kernel
theorem d_M_unread_23 : decode prog_6_method_41_code 23 = .ok (.goto 4, 3) := by decide +kernel
theorem d_M_unread_26 : decode prog_6_method_41_code 26 = .ok (.iconst 0, 1) := by decide +kernel
theorem d_M_unread_27 : decode prog_6_method_41_code 27 = .ok (.iconst 0, 1) := by decide +kernel
theorem d_M_unread_28 : decode prog_6_method_41_code 28 = .ok (.invokevirtual 133, 3) := by decide +kernel
theorem d_M_unread_31 : decode prog_6_method_41_code 31 = .ok (.ifCond .eq 5, 3) := by decide +kernel
theorem d_M_unread_34 : decode prog_6_method_41_code 34 = .ok (.iconst 0, 1) := by decide +kernel
theorem d_M_unread_35 : decode prog_6_method_41_code 35 = .ok (.ireturn, 1) := by decide +kernel
theorem d_M_unread_36 : decode prog_6_method_41_code 36 = .ok (.aload_n 0, 1) := by decide +kernel
theorem d_M_unread_37 : decode prog_6_method_41_code 37 = .ok (.iconst 0, 1) := by decide +kernel
theorem d_M_unread_38 : decode prog_6_method_41_code 38 = .ok (.putfield 130, 3) := by decide +kernel
theorem d_M_unread_41 : decode prog_6_method_41_code 41 = .ok (.aload_n 0, 1) := by decide +kernel
theorem d_M_unread_42 : decode prog_6_method_41_code 42 = .ok (.iload_n 1, 1) := by decide +kernel
theorem d_M_unread_43 : decode prog_6_method_41_code 43 = .ok (.invokevirtual 193, 3) := by decide +kernel
theorem d_M_unread_46 : decode prog_6_method_41_code 46 = .ok (.aload_n 0, 1) := by decide +kernel
theorem d_M_unread_47 : decode prog_6_method_41_code 47 = .ok (.iconst (-1), 1) := by decide +kernel
theorem d_M_unread_48 : decode prog_6_method_41_code 48 = .ok (.invokevirtual 143, 3) := by decide +kernel
theorem d_M_unread_51 : decode prog_6_method_41_code 51 = .ok (.aload_n 0, 1) := by decide +kernel
theorem d_M_unread_52 : decode prog_6_method_41_code 52 = .ok (.getfield 130, 3) := by decide +kernel
theorem d_M_unread_55 : decode prog_6_method_41_code 55 = .ok (.ireturn, 1) := by decide +kernel
theorem d_M_end_0 : decode prog_6_method_42_code 0 = .ok (.aload_n 0, 1) := by decide +kernel
theorem d_M_end_1 : decode prog_6_method_42_code 1 = .ok (.iload_n 1, 1) := by decide +kernel
theorem d_M_end_2 : decode prog_6_method_42_code 2 = .ok (.invokestatic 70, 3) := by decide +kernel
theorem d_M_end_5 : decode prog_6_method_42_code 5 = .ok (.ifCond .ne 7, 3) := by decide +kernel
theorem d_M_end_8 : decode prog_6_method_42_code 8 = .ok (.iconst 1, 1) := by decide +kernel
theorem d_M_end_9 : decode prog_6_method_42_code 9 = .ok (.goto 4, 3) := by decide +kernel
theorem d_M_end_12 : decode prog_6_method_42_code 12 = .ok (.iconst 0, 1) := by decide +kernel
theorem d_M_end_13 : decode prog_6_method_42_code 13 = .ok (.aload_n 0, 1) := by decide +kernel
theorem d_M_end_14 : decode prog_6_method_42_code 14 = .ok (.iload_n 1, 1) := by decide +kernel
theorem d_M_end_15 : decode prog_6_method_42_code 15 = .ok (.iconst 0, 1) := by decide +kernel
theorem d_M_end_16 : decode prog_6_method_42_code 16 = .ok (.invokevirtual 190, 3) := by decide +kernel
theorem d_M_end_19 : decode prog_6_method_42_code 19 = .ok (.iconst 0, 1) := by decide +kernel
theorem d_M_end_20 : decode prog_6_method_42_code 20 = .ok (.invokevirtual 133, 3) := by decide +kernel
theorem d_M_end_23 : decode prog_6_method_42_code 23 = .ok (.ifCond .eq 5, 3) := by decide +kernel
theorem d_M_end_26 : decode prog_6_method_42_code 26 = .ok (.iconst 0, 1) := by decide +kernel
theorem d_M_end_27 : decode prog_6_method_42_code 27 = .ok (.ireturn, 1) := by decide +kernel
theorem d_M_end_28 : decode prog_6_method_42_code 28 = .ok (.aload_n 0, 1) := by decide +kernel
theorem d_M_end_29 : decode prog_6_method_42_code 29 = .ok (.iconst 0, 1) := by decide +kernel
theorem d_M_end_30 : decode prog_6_method_42_code 30 = .ok (.putfield 130, 3) := by decide +kernel
theorem d_M_end_33 : decode prog_6_method_42_code 33 = .ok (.aload_n 0, 1) := by decide +kernel
theorem d_M_end_34 : decode prog_6_method_42_code 34 = .ok (.getfield 7, 3) := by decide +kernel
theorem d_M_end_37 : decode prog_6_method_42_code 37 = .ok (.iload_n 1, 1) := by decide +kernel
theorem d_M_end_38 : decode prog_6_method_42_code 38 = .ok (.iconst 0, 1) := by decide +kernel
theorem d_M_end_39 : decode prog_6_method_42_code 39 = .ok (.iastore, 1) := by decide +kernel
theorem d_M_end_40 : decode prog_6_method_42_code 40 = .ok (.iconst 0, 1) := by decide +kernel
theorem d_M_end_41 : decode prog_6_method_42_code 41 = .ok (.istore_n 2, 1) := by decide +kernel
theorem d_M_end_42 : decode prog_6_method_42_code 42 = .ok (.iload_n 2, 1) := by decide +kernel
theorem d_M_end_43 : decode prog_6_method_42_code 43 = .ok (.bipush 16, 2) := by decide +kernel
theorem d_M_end_45 : decode prog_6_method_42_code 45 = .ok (.if_icmp .ge 27, 3) := by decide +kernel
theorem d_M_end_48 : decode prog_6_method_42_code 48 = .ok (.aload_n 0, 1) := by decide +kernel
theorem d_M_end_49 : decode prog_6_method_42_code 49 = .ok (.getfield 16, 3) := by decide +kernel
theorem d_M_end_52 : decode prog_6_method_42_code 52 = .ok (.bipush 16, 2) := by decide +kernel
theorem d_M_end_54 : decode prog_6_method_42_code 54 = .ok (.iload_n 1, 1) := by decide +kernel
theorem d_M_end_55 : decode prog_6_method_42_code 55 = .ok (.imul, 1) := by decide +kernel
theorem d_M_end_56 : decode prog_6_method_42_code 56 = .ok (.iload_n 2, 1) := by decide +kernel
theorem d_M_end_57 : decode prog_6_method_42_code 57 = .ok (.iadd, 1) := by decide +kernel
theorem d_M_end_58 : decode prog_6_method_42_code 58 = .ok (.iconst (-1), 1) := by decide +kernel
theorem d_M_end_59 : decode prog_6_method_42_code 59 = .ok (.iastore, 1) := by decide +kernel
theorem d_M_end_60 : decode prog_6_method_42_code 60 = .ok (.aload_n 0, 1) := by decide +kernel
theorem d_M_end_61 : decode prog_6_method_42_code 61 = .ok (.iload_n 1, 1) := by decide +kernel
theorem d_M_end_62 : decode prog_6_method_42_code 62 = .ok (.iload_n 2, 1) := by decide +kernel
theorem d_M_end_63 : decode prog_6_method_42_code 63 = .ok (.invokevirtual 117, 3) := by decide +kernel
theorem d_M_end_66 : decode prog_6_method_42_code 66 = .ok (.iinc 2 1, 3) := by decide +kernel
theorem d_M_end_69 : decode prog_6_method_42_code 69 = .ok (.goto (-27), 3) := by decide +kernel
theorem d_M_end_72 : decode prog_6_method_42_code 72 = .ok (.aload_n 0, 1) := by decide +kernel
theorem d_M_end_73 : decode prog_6_method_42_code 73 = .ok (.iconst (-1), 1) := by decide +kernel
theorem d_M_end_74 : decode prog_6_method_42_code 74 = .ok (.invokevirtual 143, 3) := by decide +kernel
theorem d_M_end_77 : decode prog_6_method_42_code 77 = .ok (.aload_n 0, 1) := by decide +kernel
theorem d_M_end_78 : decode prog_6_method_42_code 78 = .ok (.getfield 130, 3) := by decide +kernel
theorem d_M_end_81 : decode prog_6_method_42_code 81 = .ok (.ireturn, 1) := by decide +kernel
theorem d_M_limit_0 : decode prog_6_method_43_code 0 = .ok (.aload_n 0, 1) := by decide +kernel
theorem d_M_limit_1 : decode prog_6_method_43_code 1 = .ok (.iload_n 1, 1) := by decide +kernel
theorem d_M_limit_2 : decode prog_6_method_43_code 2 = .ok (.ifCond .lt 10, 3) := by decide +kernel
theorem d_M_limit_5 : decode prog_6_method_43_code 5 = .ok (.iload_n 1, 1) := by decide +kernel
theorem d_M_limit_6 : decode prog_6_method_43_code 6 = .ok (.sipush 1000, 3) := by decide +kernel
theorem d_M_limit_9 : decode prog_6_method_43_code 9 = .ok (.if_icmp .le 7, 3) := by decide +kernel
theorem d_M_limit_12 : decode prog_6_method_43_code 12 = .ok (.iconst 1, 1) := by decide +kernel
theorem d_M_limit_13 : decode prog_6_method_43_code 13 = .ok (.goto 4, 3) := by decide +kernel
theorem d_M_limit_16 : decode prog_6_method_43_code 16 = .ok (.iconst 0, 1) := by decide +kernel
theorem d_M_limit_17 : decode prog_6_method_43_code 17 = .ok (.iconst 0, 1) := by decide +kernel
theorem d_M_limit_18 : decode prog_6_method_43_code 18 = .ok (.iconst 0, 1) := by decide +kernel
theorem d_M_limit_19 : decode prog_6_method_43_code 19 = .ok (.invokevirtual 133, 3) := by decide +kernel
theorem d_M_limit_22 : decode prog_6_method_43_code 22 = .ok (.ifCond .ne 13, 3) := by decide +kernel
theorem d_M_limit_25 : decode prog_6_method_43_code 25 = .ok (.aload_n 0, 1) := by decide +kernel
theorem d_M_limit_26 : decode prog_6_method_43_code 26 = .ok (.iconst 0, 1) := by decide +kernel
theorem d_M_limit_27 : decode prog_6_method_43_code 27 = .ok (.putfield 130, 3) := by decide +kernel
theorem d_M_limit_30 : decode prog_6_method_43_code 30 = .ok (.aload_n 0, 1) := by decide +kernel
theorem d_M_limit_31 : decode prog_6_method_43_code 31 = .ok (.iload_n 1, 1) := by decide +kernel
theorem d_M_limit_32 : decode prog_6_method_43_code 32 = .ok (.putfield 199, 3) := by decide +kernel
theorem d_M_limit_35 : decode prog_6_method_43_code 35 = .ok (.return_, 1) := by decide +kernel
theorem d_M_longest_0 : decode prog_6_method_44_code 0 = .ok (.iconst (-1), 1) := by decide +kernel
theorem d_M_longest_1 : decode prog_6_method_44_code 1 = .ok (.istore_n 1, 1) := by decide +kernel
theorem d_M_longest_2 : decode prog_6_method_44_code 2 = .ok (.iconst 0, 1) := by decide +kernel
theorem d_M_longest_3 : decode prog_6_method_44_code 3 = .ok (.istore_n 2, 1) := by decide +kernel
theorem d_M_longest_4 : decode prog_6_method_44_code 4 = .ok (.iload_n 2, 1) := by decide +kernel
theorem d_M_longest_5 : decode prog_6_method_44_code 5 = .ok (.bipush 8, 2) := by decide +kernel
theorem d_M_longest_7 : decode prog_6_method_44_code 7 = .ok (.if_icmp .ge 60, 3) := by decide +kernel
theorem d_M_longest_10 : decode prog_6_method_44_code 10 = .ok (.aload_n 0, 1) := by decide +kernel
theorem d_M_longest_11 : decode prog_6_method_44_code 11 = .ok (.getfield 199, 3) := by decide +kernel
theorem d_M_longest_14 : decode prog_6_method_44_code 14 = .ok (.ifCond .le 53, 3) := by decide +kernel
theorem d_M_longest_17 : decode prog_6_method_44_code 17 = .ok (.aload_n 0, 1) := by decide +kernel
theorem d_M_longest_18 : decode prog_6_method_44_code 18 = .ok (.getfield 7, 3) := by decide +kernel
theorem d_M_longest_21 : decode prog_6_method_44_code 21 = .ok (.iload_n 2, 1) := by decide +kernel
theorem d_M_longest_22 : decode prog_6_method_44_code 22 = .ok (.iaload, 1) := by decide +kernel
theorem d_M_longest_23 : decode prog_6_method_44_code 23 = .ok (.iconst 2, 1) := by decide +kernel
theorem d_M_longest_24 : decode prog_6_method_44_code 24 = .ok (.if_icmp .ne 37, 3) := by decide +kernel
theorem d_M_longest_27 : decode prog_6_method_44_code 27 = .ok (.aload_n 0, 1) := by decide +kernel
theorem d_M_longest_28 : decode prog_6_method_44_code 28 = .ok (.getfield 57, 3) := by decide +kernel
theorem d_M_longest_31 : decode prog_6_method_44_code 31 = .ok (.iload_n 2, 1) := by decide +kernel
theorem d_M_longest_32 : decode prog_6_method_44_code 32 = .ok (.iaload, 1) := by decide +kernel
theorem d_M_longest_33 : decode prog_6_method_44_code 33 = .ok (.aload_n 0, 1) := by decide +kernel
theorem d_M_longest_34 : decode prog_6_method_44_code 34 = .ok (.getfield 199, 3) := by decide +kernel
theorem d_M_longest_37 : decode prog_6_method_44_code 37 = .ok (.if_icmp .lt 24, 3) := by decide +kernel
theorem d_M_longest_40 : decode prog_6_method_44_code 40 = .ok (.iload_n 1, 1) := by decide +kernel
theorem d_M_longest_41 : decode prog_6_method_44_code 41 = .ok (.ifCond .lt 18, 3) := by decide +kernel
theorem d_M_longest_44 : decode prog_6_method_44_code 44 = .ok (.aload_n 0, 1) := by decide +kernel
theorem d_M_longest_45 : decode prog_6_method_44_code 45 = .ok (.getfield 54, 3) := by decide +kernel
theorem d_M_longest_48 : decode prog_6_method_44_code 48 = .ok (.iload_n 2, 1) := by decide +kernel
theorem d_M_longest_49 : decode prog_6_method_44_code 49 = .ok (.iaload, 1) := by decide +kernel
theorem d_M_longest_50 : decode prog_6_method_44_code 50 = .ok (.aload_n 0, 1) := by decide +kernel
theorem d_M_longest_51 : decode prog_6_method_44_code 51 = .ok (.getfield 54, 3) := by decide +kernel
theorem d_M_longest_54 : decode prog_6_method_44_code 54 = .ok (.iload_n 1, 1) := by decide +kernel
theorem d_M_longest_55 : decode prog_6_method_44_code 55 = .ok (.iaload, 1) := by decide +kernel
theorem d_M_longest_56 : decode prog_6_method_44_code 56 = .ok (.if_icmp .ge 5, 3) := by decide +kernel
theorem d_M_longest_59 : decode prog_6_method_44_code 59 = .ok (.iload_n 2, 1) := by decide +kernel
theorem d_M_longest_60 : decode prog_6_method_44_code 60 = .ok (.istore_n 1, 1) := by decide +kernel
theorem d_M_longest_61 : decode prog_6_method_44_code 61 = .ok (.iinc 2 1, 3) := by decide +kernel
theorem d_M_longest_64 : decode prog_6_method_44_code 64 = .ok (.goto (-60), 3) := by decide +kernel
theorem d_M_longest_67 : decode prog_6_method_44_code 67 = .ok (.iload_n 1, 1) := by decide +kernel
theorem d_M_longest_68 : decode prog_6_method_44_code 68 = .ok (.ireturn, 1) := by decide +kernel
theorem d_M_tick_0 : decode prog_6_method_45_code 0 = .ok (.aload_n 0, 1) := by decide +kernel
theorem d_M_tick_1 : decode prog_6_method_45_code 1 = .ok (.iload_n 1, 1) := by decide +kernel
theorem d_M_tick_2 : decode prog_6_method_45_code 2 = .ok (.ifCond .lt 10, 3) := by decide +kernel
theorem d_M_tick_5 : decode prog_6_method_45_code 5 = .ok (.iload_n 1, 1) := by decide +kernel
theorem d_M_tick_6 : decode prog_6_method_45_code 6 = .ok (.sipush 1000, 3) := by decide +kernel
theorem d_M_tick_9 : decode prog_6_method_45_code 9 = .ok (.if_icmp .le 7, 3) := by decide +kernel
theorem d_M_tick_12 : decode prog_6_method_45_code 12 = .ok (.iconst 1, 1) := by decide +kernel
theorem d_M_tick_13 : decode prog_6_method_45_code 13 = .ok (.goto 4, 3) := by decide +kernel
theorem d_M_tick_16 : decode prog_6_method_45_code 16 = .ok (.iconst 0, 1) := by decide +kernel
theorem d_M_tick_17 : decode prog_6_method_45_code 17 = .ok (.iconst 0, 1) := by decide +kernel
theorem d_M_tick_18 : decode prog_6_method_45_code 18 = .ok (.iconst 0, 1) := by decide +kernel
theorem d_M_tick_19 : decode prog_6_method_45_code 19 = .ok (.invokevirtual 133, 3) := by decide +kernel
theorem d_M_tick_22 : decode prog_6_method_45_code 22 = .ok (.ifCond .eq 5, 3) := by decide +kernel
theorem d_M_tick_25 : decode prog_6_method_45_code 25 = .ok (.iconst 0, 1) := by decide +kernel
theorem d_M_tick_26 : decode prog_6_method_45_code 26 = .ok (.ireturn, 1) := by decide +kernel
theorem d_M_tick_27 : decode prog_6_method_45_code 27 = .ok (.aload_n 0, 1) := by decide +kernel
theorem d_M_tick_28 : decode prog_6_method_45_code 28 = .ok (.iconst 0, 1) := by decide +kernel
theorem d_M_tick_29 : decode prog_6_method_45_code 29 = .ok (.putfield 130, 3) := by decide +kernel
theorem d_M_tick_32 : decode prog_6_method_45_code 32 = .ok (.iconst 0, 1) := by decide +kernel
theorem d_M_tick_33 : decode prog_6_method_45_code 33 = .ok (.istore_n 2, 1) := by decide +kernel
theorem d_M_tick_34 : decode prog_6_method_45_code 34 = .ok (.iconst 0, 1) := by decide +kernel
theorem d_M_tick_35 : decode prog_6_method_45_code 35 = .ok (.istore_n 3, 1) := by decide +kernel
theorem d_M_tick_36 : decode prog_6_method_45_code 36 = .ok (.iload_n 3, 1) := by decide +kernel
theorem d_M_tick_37 : decode prog_6_method_45_code 37 = .ok (.iload_n 1, 1) := by decide +kernel
theorem d_M_tick_38 : decode prog_6_method_45_code 38 = .ok (.if_icmp .ge 98, 3) := by decide +kernel
theorem d_M_tick_41 : decode prog_6_method_45_code 41 = .ok (.iconst 0, 1) := by decide +kernel
theorem d_M_tick_42 : decode prog_6_method_45_code 42 = .ok (.istore 4, 2) := by decide +kernel
theorem d_M_tick_44 : decode prog_6_method_45_code 44 = .ok (.iload 4, 2) := by decide +kernel
theorem d_M_tick_46 : decode prog_6_method_45_code 46 = .ok (.bipush 8, 2) := by decide +kernel
theorem d_M_tick_48 : decode prog_6_method_45_code 48 = .ok (.if_icmp .ge 46, 3) := by decide +kernel
theorem d_M_tick_51 : decode prog_6_method_45_code 51 = .ok (.aload_n 0, 1) := by decide +kernel
theorem d_M_tick_52 : decode prog_6_method_45_code 52 = .ok (.getfield 57, 3) := by decide +kernel
theorem d_M_tick_55 : decode prog_6_method_45_code 55 = .ok (.iload 4, 2) := by decide +kernel
theorem d_M_tick_57 : decode prog_6_method_45_code 57 = .ok (.aload_n 0, 1) := by decide +kernel
theorem d_M_tick_58 : decode prog_6_method_45_code 58 = .ok (.getfield 7, 3) := by decide +kernel
theorem d_M_tick_61 : decode prog_6_method_45_code 61 = .ok (.iload 4, 2) := by decide +kernel
theorem d_M_tick_63 : decode prog_6_method_45_code 63 = .ok (.iaload, 1) := by decide +kernel
theorem d_M_tick_64 : decode prog_6_method_45_code 64 = .ok (.iconst 2, 1) := by decide +kernel
theorem d_M_tick_65 : decode prog_6_method_45_code 65 = .ok (.if_icmp .ne 15, 3) := by decide +kernel
theorem d_M_tick_68 : decode prog_6_method_45_code 68 = .ok (.aload_n 0, 1) := by decide +kernel
theorem d_M_tick_69 : decode prog_6_method_45_code 69 = .ok (.getfield 57, 3) := by decide +kernel
theorem d_M_tick_72 : decode prog_6_method_45_code 72 = .ok (.iload 4, 2) := by decide +kernel
theorem d_M_tick_74 : decode prog_6_method_45_code 74 = .ok (.iaload, 1) := by decide +kernel
theorem d_M_tick_75 : decode prog_6_method_45_code 75 = .ok (.iconst 1, 1) := by decide +kernel
theorem d_M_tick_76 : decode prog_6_method_45_code 76 = .ok (.iadd, 1) := by decide +kernel
theorem d_M_tick_77 : decode prog_6_method_45_code 77 = .ok (.goto 10, 3) := by decide +kernel
theorem d_M_tick_80 : decode prog_6_method_45_code 80 = .ok (.aload_n 0, 1) := by decide +kernel
theorem d_M_tick_81 : decode prog_6_method_45_code 81 = .ok (.getfield 57, 3) := by decide +kernel
theorem d_M_tick_84 : decode prog_6_method_45_code 84 = .ok (.iload 4, 2) := by decide +kernel
theorem d_M_tick_86 : decode prog_6_method_45_code 86 = .ok (.iaload, 1) := by decide +kernel
theorem d_M_tick_87 : decode prog_6_method_45_code 87 = .ok (.iastore, 1) := by decide +kernel
theorem d_M_tick_88 : decode prog_6_method_45_code 88 = .ok (.iinc 4 1, 3) := by decide +kernel
theorem d_M_tick_91 : decode prog_6_method_45_code 91 = .ok (.goto (-47), 3) := by decide +kernel
theorem d_M_tick_94 : decode prog_6_method_45_code 94 = .ok (.aload_n 0, 1) := by decide +kernel
theorem d_M_tick_95 : decode prog_6_method_45_code 95 = .ok (.invokevirtual 202, 3) := by decide +kernel
theorem d_M_tick_98 : decode prog_6_method_45_code 98 = .ok (.istore 4, 2) := by decide +kernel
theorem d_M_tick_100 : decode prog_6_method_45_code 100 = .ok (.iload 4, 2) := by decide +kernel
theorem d_M_tick_102 : decode prog_6_method_45_code 102 = .ok (.ifCond .lt 28, 3) := by decide +kernel
theorem d_M_tick_105 : decode prog_6_method_45_code 105 = .ok (.aload_n 0, 1) := by decide +kernel
theorem d_M_tick_106 : decode prog_6_method_45_code 106 = .ok (.getfield 7, 3) := by decide +kernel
theorem d_M_tick_109 : decode prog_6_method_45_code 109 = .ok (.iload 4, 2) := by decide +kernel
theorem d_M_tick_111 : decode prog_6_method_45_code 111 = .ok (.iconst 1, 1) := by decide +kernel
theorem d_M_tick_112 : decode prog_6_method_45_code 112 = .ok (.iastore, 1) := by decide +kernel
theorem d_M_tick_113 : decode prog_6_method_45_code 113 = .ok (.iinc 2 1, 3) := by decide +kernel
theorem d_M_tick_116 : decode prog_6_method_45_code 116 = .ok (.aload_n 0, 1) := by decide +kernel
theorem d_M_tick_117 : decode prog_6_method_45_code 117 = .ok (.iconst (-1), 1) := by decide +kernel
theorem d_M_tick_118 : decode prog_6_method_45_code 118 = .ok (.invokevirtual 143, 3) := by decide +kernel
theorem d_M_tick_121 : decode prog_6_method_45_code 121 = .ok (.aload_n 0, 1) := by decide +kernel
theorem d_M_tick_122 : decode prog_6_method_45_code 122 = .ok (.invokevirtual 202, 3) := by decide +kernel
theorem d_M_tick_125 : decode prog_6_method_45_code 125 = .ok (.istore 4, 2) := by decide +kernel
theorem d_M_tick_127 : decode prog_6_method_45_code 127 = .ok (.goto (-27), 3) := by decide +kernel
theorem d_M_tick_130 : decode prog_6_method_45_code 130 = .ok (.iinc 3 1, 3) := by decide +kernel
theorem d_M_tick_133 : decode prog_6_method_45_code 133 = .ok (.goto (-97), 3) := by decide +kernel
theorem d_M_tick_136 : decode prog_6_method_45_code 136 = .ok (.iload_n 2, 1) := by decide +kernel
theorem d_M_tick_137 : decode prog_6_method_45_code 137 = .ok (.ireturn, 1) := by decide +kernel
theorem d_M_state_0 : decode prog_6_method_46_code 0 = .ok (.aload_n 0, 1) := by decide +kernel
theorem d_M_state_1 : decode prog_6_method_46_code 1 = .ok (.iload_n 1, 1) := by decide +kernel
theorem d_M_state_2 : decode prog_6_method_46_code 2 = .ok (.invokestatic 70, 3) := by decide +kernel
theorem d_M_state_5 : decode prog_6_method_46_code 5 = .ok (.ifCond .ne 7, 3) := by decide +kernel
theorem d_M_state_8 : decode prog_6_method_46_code 8 = .ok (.iconst 1, 1) := by decide +kernel
theorem d_M_state_9 : decode prog_6_method_46_code 9 = .ok (.goto 4, 3) := by decide +kernel
theorem d_M_state_12 : decode prog_6_method_46_code 12 = .ok (.iconst 0, 1) := by decide +kernel
theorem d_M_state_13 : decode prog_6_method_46_code 13 = .ok (.iconst 0, 1) := by decide +kernel
theorem d_M_state_14 : decode prog_6_method_46_code 14 = .ok (.iconst 0, 1) := by decide +kernel
theorem d_M_state_15 : decode prog_6_method_46_code 15 = .ok (.invokevirtual 133, 3) := by decide +kernel
theorem d_M_state_18 : decode prog_6_method_46_code 18 = .ok (.ifCond .eq 7, 3) := by decide +kernel
theorem d_M_state_21 : decode prog_6_method_46_code 21 = .ok (.iconst 0, 1) := by decide +kernel
theorem d_M_state_22 : decode prog_6_method_46_code 22 = .ok (.goto 9, 3) := by decide +kernel
theorem d_M_state_25 : decode prog_6_method_46_code 25 = .ok (.aload_n 0, 1) := by decide +kernel
theorem d_M_state_26 : decode prog_6_method_46_code 26 = .ok (.getfield 7, 3) := by decide +kernel
theorem d_M_state_29 : decode prog_6_method_46_code 29 = .ok (.iload_n 1, 1) := by decide +kernel
theorem d_M_state_30 : decode prog_6_method_46_code 30 = .ok (.iaload, 1) := by decide +kernel
theorem d_M_state_31 : decode prog_6_method_46_code 31 = .ok (.ireturn, 1) := by decide +kernel
theorem d_M_serial_0 : decode prog_6_method_47_code 0 = .ok (.aload_n 0, 1) := by decide +kernel
theorem d_M_serial_1 : decode prog_6_method_47_code 1 = .ok (.iload_n 1, 1) := by decide +kernel
theorem d_M_serial_2 : decode prog_6_method_47_code 2 = .ok (.invokestatic 70, 3) := by decide +kernel
theorem d_M_serial_5 : decode prog_6_method_47_code 5 = .ok (.ifCond .ne 7, 3) := by decide +kernel
theorem d_M_serial_8 : decode prog_6_method_47_code 8 = .ok (.iconst 1, 1) := by decide +kernel
theorem d_M_serial_9 : decode prog_6_method_47_code 9 = .ok (.goto 4, 3) := by decide +kernel
theorem d_M_serial_12 : decode prog_6_method_47_code 12 = .ok (.iconst 0, 1) := by decide +kernel
theorem d_M_serial_13 : decode prog_6_method_47_code 13 = .ok (.iconst 0, 1) := by decide +kernel
theorem d_M_serial_14 : decode prog_6_method_47_code 14 = .ok (.iconst 0, 1) := by decide +kernel
theorem d_M_serial_15 : decode prog_6_method_47_code 15 = .ok (.invokevirtual 133, 3) := by decide +kernel
theorem d_M_serial_18 : decode prog_6_method_47_code 18 = .ok (.ifCond .eq 7, 3) := by decide +kernel
theorem d_M_serial_21 : decode prog_6_method_47_code 21 = .ok (.iconst 0, 1) := by decide +kernel
theorem d_M_serial_22 : decode prog_6_method_47_code 22 = .ok (.goto 22, 3) := by decide +kernel
theorem d_M_serial_25 : decode prog_6_method_47_code 25 = .ok (.aload_n 0, 1) := by decide +kernel
theorem d_M_serial_26 : decode prog_6_method_47_code 26 = .ok (.getfield 7, 3) := by decide +kernel
theorem d_M_serial_29 : decode prog_6_method_47_code 29 = .ok (.iload_n 1, 1) := by decide +kernel
theorem d_M_serial_30 : decode prog_6_method_47_code 30 = .ok (.iaload, 1) := by decide +kernel
theorem d_M_serial_31 : decode prog_6_method_47_code 31 = .ok (.ifCond .ne 7, 3) := by decide +kernel
theorem d_M_serial_34 : decode prog_6_method_47_code 34 = .ok (.iconst (-1), 1) := by decide +kernel
theorem d_M_serial_35 : decode prog_6_method_47_code 35 = .ok (.goto 9, 3) := by decide +kernel
theorem d_M_serial_38 : decode prog_6_method_47_code 38 = .ok (.aload_n 0, 1) := by decide +kernel
theorem d_M_serial_39 : decode prog_6_method_47_code 39 = .ok (.getfield 13, 3) := by decide +kernel
theorem d_M_serial_42 : decode prog_6_method_47_code 42 = .ok (.iload_n 1, 1) := by decide +kernel
theorem d_M_serial_43 : decode prog_6_method_47_code 43 = .ok (.iaload, 1) := by decide +kernel
theorem d_M_serial_44 : decode prog_6_method_47_code 44 = .ok (.ireturn, 1) := by decide +kernel
theorem d_M_ranges_0 : decode prog_6_method_48_code 0 = .ok (.aload_n 0, 1) := by decide +kernel
theorem d_M_ranges_1 : decode prog_6_method_48_code 1 = .ok (.iload_n 1, 1) := by decide +kernel
theorem d_M_ranges_2 : decode prog_6_method_48_code 2 = .ok (.invokestatic 70, 3) := by decide +kernel
theorem d_M_ranges_5 : decode prog_6_method_48_code 5 = .ok (.ifCond .eq 10, 3) := by decide +kernel
theorem d_M_ranges_8 : decode prog_6_method_48_code 8 = .ok (.iload_n 2, 1) := by decide +kernel
theorem d_M_ranges_9 : decode prog_6_method_48_code 9 = .ok (.invokestatic 152, 3) := by decide +kernel
theorem d_M_ranges_12 : decode prog_6_method_48_code 12 = .ok (.ifCond .ne 7, 3) := by decide +kernel
theorem d_M_ranges_15 : decode prog_6_method_48_code 15 = .ok (.iconst 1, 1) := by decide +kernel
theorem d_M_ranges_16 : decode prog_6_method_48_code 16 = .ok (.goto 4, 3) := by decide +kernel
theorem d_M_ranges_19 : decode prog_6_method_48_code 19 = .ok (.iconst 0, 1) := by decide +kernel
theorem d_M_ranges_20 : decode prog_6_method_48_code 20 = .ok (.iconst 0, 1) := by decide +kernel
theorem d_M_ranges_21 : decode prog_6_method_48_code 21 = .ok (.iconst 0, 1) := by decide +kernel
theorem d_M_ranges_22 : decode prog_6_method_48_code 22 = .ok (.invokevirtual 133, 3) := by decide +kernel
theorem d_M_ranges_25 : decode prog_6_method_48_code 25 = .ok (.ifCond .eq 7, 3) := by decide +kernel
theorem d_M_ranges_28 : decode prog_6_method_48_code 28 = .ok (.iconst 0, 1) := by decide +kernel
theorem d_M_ranges_29 : decode prog_6_method_48_code 29 = .ok (.goto 9, 3) := by decide +kernel
theorem d_M_ranges_32 : decode prog_6_method_48_code 32 = .ok (.aload_n 0, 1) := by decide +kernel
theorem d_M_ranges_33 : decode prog_6_method_48_code 33 = .ok (.iload_n 1, 1) := by decide +kernel
theorem d_M_ranges_34 : decode prog_6_method_48_code 34 = .ok (.iload_n 2, 1) := by decide +kernel
theorem d_M_ranges_35 : decode prog_6_method_48_code 35 = .ok (.invokevirtual 183, 3) := by decide +kernel
theorem d_M_ranges_38 : decode prog_6_method_48_code 38 = .ok (.ireturn, 1) := by decide +kernel
theorem d_M_all_0 : decode prog_6_method_50_code 0 = .ok (.aload_n 0, 1) := by decide +kernel
theorem d_M_all_1 : decode prog_6_method_50_code 1 = .ok (.iconst 0, 1) := by decide +kernel
theorem d_M_all_2 : decode prog_6_method_50_code 2 = .ok (.putfield 66, 3) := by decide +kernel
theorem d_M_all_5 : decode prog_6_method_50_code 5 = .ok (.aload_n 0, 1) := by decide +kernel
theorem d_M_all_6 : decode prog_6_method_50_code 6 = .ok (.invokevirtual 162, 3) := by decide +kernel
theorem d_M_all_9 : decode prog_6_method_50_code 9 = .ok (.ireturn, 1) := by decide +kernel
theorem d_M_mode_0 : decode prog_6_method_51_code 0 = .ok (.aload_n 0, 1) := by decide +kernel
theorem d_M_mode_1 : decode prog_6_method_51_code 1 = .ok (.iload_n 1, 1) := by decide +kernel
theorem d_M_mode_2 : decode prog_6_method_51_code 2 = .ok (.invokestatic 70, 3) := by decide +kernel
theorem d_M_mode_5 : decode prog_6_method_51_code 5 = .ok (.ifCond .eq 10, 3) := by decide +kernel
theorem d_M_mode_8 : decode prog_6_method_51_code 8 = .ok (.iload_n 2, 1) := by decide +kernel
theorem d_M_mode_9 : decode prog_6_method_51_code 9 = .ok (.invokestatic 152, 3) := by decide +kernel
theorem d_M_mode_12 : decode prog_6_method_51_code 12 = .ok (.ifCond .ne 7, 3) := by decide +kernel
theorem d_M_mode_15 : decode prog_6_method_51_code 15 = .ok (.iconst 1, 1) := by decide +kernel
theorem d_M_mode_16 : decode prog_6_method_51_code 16 = .ok (.goto 4, 3) := by decide +kernel
theorem d_M_mode_19 : decode prog_6_method_51_code 19 = .ok (.iconst 0, 1) := by decide +kernel
theorem d_M_mode_20 : decode prog_6_method_51_code 20 = .ok (.iconst 0, 1) := by decide +kernel
theorem d_M_mode_21 : decode prog_6_method_51_code 21 = .ok (.iconst 0, 1) := by decide +kernel
theorem d_M_mode_22 : decode prog_6_method_51_code 22 = .ok (.invokevirtual 133, 3) := by decide +kernel
theorem d_M_mode_25 : decode prog_6_method_51_code 25 = .ok (.ifCond .eq 7, 3) := by decide +kernel
theorem d_M_mode_28 : decode prog_6_method_51_code 28 = .ok (.iconst 0, 1) := by decide +kernel
theorem d_M_mode_29 : decode prog_6_method_51_code 29 = .ok (.goto 14, 3) := by decide +kernel
theorem d_M_mode_32 : decode prog_6_method_51_code 32 = .ok (.aload_n 0, 1) := by decide +kernel
theorem d_M_mode_33 : decode prog_6_method_51_code 33 = .ok (.getfield 16, 3) := by decide +kernel
theorem d_M_mode_36 : decode prog_6_method_51_code 36 = .ok (.bipush 16, 2) := by decide +kernel
theorem d_M_mode_38 : decode prog_6_method_51_code 38 = .ok (.iload_n 1, 1) := by decide +kernel
theorem d_M_mode_39 : decode prog_6_method_51_code 39 = .ok (.imul, 1) := by decide +kernel
theorem d_M_mode_40 : decode prog_6_method_51_code 40 = .ok (.iload_n 2, 1) := by decide +kernel
theorem d_M_mode_41 : decode prog_6_method_51_code 41 = .ok (.iadd, 1) := by decide +kernel
theorem d_M_mode_42 : decode prog_6_method_51_code 42 = .ok (.iaload, 1) := by decide +kernel
theorem d_M_mode_43 : decode prog_6_method_51_code 43 = .ok (.ireturn, 1) := by decide +kernel
theorem d_M_right_0 : decode prog_6_method_52_code 0 = .ok (.aload_n 0, 1) := by decide +kernel
theorem d_M_right_1 : decode prog_6_method_52_code 1 = .ok (.iload_n 1, 1) := by decide +kernel
theorem d_M_right_2 : decode prog_6_method_52_code 2 = .ok (.invokestatic 70, 3) := by decide +kernel
theorem d_M_right_5 : decode prog_6_method_52_code 5 = .ok (.ifCond .eq 10, 3) := by decide +kernel
theorem d_M_right_8 : decode prog_6_method_52_code 8 = .ok (.iload_n 2, 1) := by decide +kernel
theorem d_M_right_9 : decode prog_6_method_52_code 9 = .ok (.invokestatic 152, 3) := by decide +kernel
theorem d_M_right_12 : decode prog_6_method_52_code 12 = .ok (.ifCond .ne 7, 3) := by decide +kernel
theorem d_M_right_15 : decode prog_6_method_52_code 15 = .ok (.iconst 1, 1) := by decide +kernel
theorem d_M_right_16 : decode prog_6_method_52_code 16 = .ok (.goto 4, 3) := by decide +kernel
theorem d_M_right_19 : decode prog_6_method_52_code 19 = .ok (.iconst 0, 1) := by decide +kernel
theorem d_M_right_20 : decode prog_6_method_52_code 20 = .ok (.iconst 0, 1) := by decide +kernel
theorem d_M_right_21 : decode prog_6_method_52_code 21 = .ok (.iconst 0, 1) := by decide +kernel
theorem d_M_right_22 : decode prog_6_method_52_code 22 = .ok (.invokevirtual 133, 3) := by decide +kernel
theorem d_M_right_25 : decode prog_6_method_52_code 25 = .ok (.ifCond .eq 5, 3) := by decide +kernel
theorem d_M_right_28 : decode prog_6_method_52_code 28 = .ok (.iconst 0, 1) := by decide +kernel
theorem d_M_right_29 : decode prog_6_method_52_code 29 = .ok (.ireturn, 1) := by decide +kernel
theorem d_M_right_30 : decode prog_6_method_52_code 30 = .ok (.aload_n 0, 1) := by decide +kernel
theorem d_M_right_31 : decode prog_6_method_52_code 31 = .ok (.getfield 16, 3) := by decide +kernel
theorem d_M_right_34 : decode prog_6_method_52_code 34 = .ok (.bipush 16, 2) := by decide +kernel
theorem d_M_right_36 : decode prog_6_method_52_code 36 = .ok (.iload_n 1, 1) := by decide +kernel
theorem d_M_right_37 : decode prog_6_method_52_code 37 = .ok (.imul, 1) := by decide +kernel
theorem d_M_right_38 : decode prog_6_method_52_code 38 = .ok (.iload_n 2, 1) := by decide +kernel
theorem d_M_right_39 : decode prog_6_method_52_code 39 = .ok (.iadd, 1) := by decide +kernel
theorem d_M_right_40 : decode prog_6_method_52_code 40 = .ok (.iaload, 1) := by decide +kernel
theorem d_M_right_41 : decode prog_6_method_52_code 41 = .ok (.istore 5, 2) := by decide +kernel
theorem d_M_right_43 : decode prog_6_method_52_code 43 = .ok (.iload 5, 2) := by decide +kernel
theorem d_M_right_45 : decode prog_6_method_52_code 45 = .ok (.iconst 5, 1) := by decide +kernel
theorem d_M_right_46 : decode prog_6_method_52_code 46 = .ok (.if_icmp .ne 7, 3) := by decide +kernel
theorem d_M_right_49 : decode prog_6_method_52_code 49 = .ok (.iconst 5, 1) := by decide +kernel
theorem d_M_right_50 : decode prog_6_method_52_code 50 = .ok (.goto 26, 3) := by decide +kernel
theorem d_M_right_53 : decode prog_6_method_52_code 53 = .ok (.iload 5, 2) := by decide +kernel
theorem d_M_right_55 : decode prog_6_method_52_code 55 = .ok (.iconst 2, 1) := by decide +kernel
theorem d_M_right_56 : decode prog_6_method_52_code 56 = .ok (.if_icmp .eq 15, 3) := by decide +kernel
theorem d_M_right_59 : decode prog_6_method_52_code 59 = .ok (.iload 5, 2) := by decide +kernel
theorem d_M_right_61 : decode prog_6_method_52_code 61 = .ok (.iconst 3, 1) := by decide +kernel
theorem d_M_right_62 : decode prog_6_method_52_code 62 = .ok (.if_icmp .eq 9, 3) := by decide +kernel
theorem d_M_right_65 : decode prog_6_method_52_code 65 = .ok (.iload 5, 2) := by decide +kernel
theorem d_M_right_67 : decode prog_6_method_52_code 67 = .ok (.iconst 4, 1) := by decide +kernel
theorem d_M_right_68 : decode prog_6_method_52_code 68 = .ok (.if_icmp .ne 7, 3) := by decide +kernel
theorem d_M_right_71 : decode prog_6_method_52_code 71 = .ok (.iconst 2, 1) := by decide +kernel
theorem d_M_right_72 : decode prog_6_method_52_code 72 = .ok (.goto 4, 3) := by decide +kernel
theorem d_M_right_75 : decode prog_6_method_52_code 75 = .ok (.iconst (-1), 1) := by decide +kernel
theorem d_M_right_76 : decode prog_6_method_52_code 76 = .ok (.istore 6, 2) := by decide +kernel
theorem d_M_right_78 : decode prog_6_method_52_code 78 = .ok (.iconst 0, 1) := by decide +kernel
theorem d_M_right_79 : decode prog_6_method_52_code 79 = .ok (.istore 7, 2) := by decide +kernel
theorem d_M_right_81 : decode prog_6_method_52_code 81 = .ok (.iload 7, 2) := by decide +kernel
theorem d_M_right_83 : decode prog_6_method_52_code 83 = .ok (.aload_n 0, 1) := by decide +kernel
theorem d_M_right_84 : decode prog_6_method_52_code 84 = .ok (.getfield 93, 3) := by decide +kernel
theorem d_M_right_87 : decode prog_6_method_52_code 87 = .ok (.if_icmp .ge 93, 3) := by decide +kernel
theorem d_M_right_90 : decode prog_6_method_52_code 90 = .ok (.aload_n 0, 1) := by decide +kernel
theorem d_M_right_91 : decode prog_6_method_52_code 91 = .ok (.getfield 19, 3) := by decide +kernel
theorem d_M_right_94 : decode prog_6_method_52_code 94 = .ok (.iload 7, 2) := by decide +kernel
theorem d_M_right_96 : decode prog_6_method_52_code 96 = .ok (.iaload, 1) := by decide +kernel
theorem d_M_right_97 : decode prog_6_method_52_code 97 = .ok (.iload_n 1, 1) := by decide +kernel
theorem d_M_right_98 : decode prog_6_method_52_code 98 = .ok (.if_icmp .ne 42, 3) := by decide +kernel
theorem d_M_right_101 : decode prog_6_method_52_code 101 = .ok (.aload_n 0, 1) := by decide +kernel
theorem d_M_right_102 : decode prog_6_method_52_code 102 = .ok (.getfield 22, 3) := by decide +kernel
theorem d_M_right_105 : decode prog_6_method_52_code 105 = .ok (.iload 7, 2) := by decide +kernel
theorem d_M_right_107 : decode prog_6_method_52_code 107 = .ok (.iaload, 1) := by decide +kernel
theorem d_M_right_108 : decode prog_6_method_52_code 108 = .ok (.iload_n 2, 1) := by decide +kernel
theorem d_M_right_109 : decode prog_6_method_52_code 109 = .ok (.if_icmp .ne 31, 3) := by decide +kernel
theorem d_M_right_112 : decode prog_6_method_52_code 112 = .ok (.aload_n 0, 1) := by decide +kernel
theorem d_M_right_113 : decode prog_6_method_52_code 113 = .ok (.getfield 28, 3) := by decide +kernel
theorem d_M_right_116 : decode prog_6_method_52_code 116 = .ok (.iload 7, 2) := by decide +kernel
theorem d_M_right_118 : decode prog_6_method_52_code 118 = .ok (.laload, 1) := by decide +kernel
theorem d_M_right_119 : decode prog_6_method_52_code 119 = .ok (.lload_n 3, 1) := by decide +kernel
theorem d_M_right_120 : decode prog_6_method_52_code 120 = .ok (.lcmp, 1) := by decide +kernel
theorem d_M_right_121 : decode prog_6_method_52_code 121 = .ok (.ifCond .gt 19, 3) := by decide +kernel
theorem d_M_right_124 : decode prog_6_method_52_code 124 = .ok (.lload_n 3, 1) := by decide +kernel
theorem d_M_right_125 : decode prog_6_method_52_code 125 = .ok (.aload_n 0, 1) := by decide +kernel
theorem d_M_right_126 : decode prog_6_method_52_code 126 = .ok (.getfield 32, 3) := by decide +kernel
theorem d_M_right_129 : decode prog_6_method_52_code 129 = .ok (.iload 7, 2) := by decide +kernel
theorem d_M_right_131 : decode prog_6_method_52_code 131 = .ok (.laload, 1) := by decide +kernel
theorem d_M_right_132 : decode prog_6_method_52_code 132 = .ok (.lcmp, 1) := by decide +kernel
theorem d_M_right_133 : decode prog_6_method_52_code 133 = .ok (.ifCond .gt 7, 3) := by decide +kernel
theorem d_M_right_136 : decode prog_6_method_52_code 136 = .ok (.iconst 1, 1) := by decide +kernel
theorem d_M_right_137 : decode prog_6_method_52_code 137 = .ok (.goto 4, 3) := by decide +kernel
theorem d_M_right_140 : decode prog_6_method_52_code 140 = .ok (.iconst 0, 1) := by decide +kernel
theorem d_M_right_141 : decode prog_6_method_52_code 141 = .ok (.istore 8, 2) := by decide +kernel
theorem d_M_right_143 : decode prog_6_method_52_code 143 = .ok (.iload 8, 2) := by decide +kernel
theorem d_M_right_145 : decode prog_6_method_52_code 145 = .ok (.ifCond .eq 25, 3) := by decide +kernel
theorem d_M_right_148 : decode prog_6_method_52_code 148 = .ok (.aload_n 0, 1) := by decide +kernel
theorem d_M_right_149 : decode prog_6_method_52_code 149 = .ok (.getfield 25, 3) := by decide +kernel
theorem d_M_right_152 : decode prog_6_method_52_code 152 = .ok (.iload 7, 2) := by decide +kernel
theorem d_M_right_154 : decode prog_6_method_52_code 154 = .ok (.iaload, 1) := by decide +kernel
theorem d_M_right_155 : decode prog_6_method_52_code 155 = .ok (.iload 6, 2) := by decide +kernel
theorem d_M_right_157 : decode prog_6_method_52_code 157 = .ok (.if_icmp .le 13, 3) := by decide +kernel
theorem d_M_right_160 : decode prog_6_method_52_code 160 = .ok (.aload_n 0, 1) := by decide +kernel
theorem d_M_right_161 : decode prog_6_method_52_code 161 = .ok (.getfield 25, 3) := by decide +kernel
theorem d_M_right_164 : decode prog_6_method_52_code 164 = .ok (.iload 7, 2) := by decide +kernel
theorem d_M_right_166 : decode prog_6_method_52_code 166 = .ok (.iaload, 1) := by decide +kernel
theorem d_M_right_167 : decode prog_6_method_52_code 167 = .ok (.goto 5, 3) := by decide +kernel
theorem d_M_right_170 : decode prog_6_method_52_code 170 = .ok (.iload 6, 2) := by decide +kernel
theorem d_M_right_172 : decode prog_6_method_52_code 172 = .ok (.istore 6, 2) := by decide +kernel
theorem d_M_right_174 : decode prog_6_method_52_code 174 = .ok (.iinc 7 1, 3) := by decide +kernel
theorem d_M_right_177 : decode prog_6_method_52_code 177 = .ok (.goto (-96), 3) := by decide +kernel
theorem d_M_right_180 : decode prog_6_method_52_code 180 = .ok (.iload 6, 2) := by decide +kernel
theorem d_M_right_182 : decode prog_6_method_52_code 182 = .ok (.ireturn, 1) := by decide +kernel
theorem d_M_queue_0 : decode prog_6_method_53_code 0 = .ok (.aload_n 0, 1) := by decide +kernel
theorem d_M_queue_1 : decode prog_6_method_53_code 1 = .ok (.iconst 0, 1) := by decide +kernel
theorem d_M_queue_2 : decode prog_6_method_53_code 2 = .ok (.putfield 66, 3) := by decide +kernel
theorem d_M_queue_5 : decode prog_6_method_53_code 5 = .ok (.aload_n 0, 1) := by decide +kernel
theorem d_M_queue_6 : decode prog_6_method_53_code 6 = .ok (.iconst (-1), 1) := by decide +kernel
theorem d_M_queue_7 : decode prog_6_method_53_code 7 = .ok (.invokevirtual 121, 3) := by decide +kernel
theorem d_M_queue_10 : decode prog_6_method_53_code 10 = .ok (.istore_n 2, 1) := by decide +kernel
theorem d_M_queue_11 : decode prog_6_method_53_code 11 = .ok (.iconst 0, 1) := by decide +kernel
theorem d_M_queue_12 : decode prog_6_method_53_code 12 = .ok (.istore_n 3, 1) := by decide +kernel
theorem d_M_queue_13 : decode prog_6_method_53_code 13 = .ok (.iload_n 3, 1) := by decide +kernel
theorem d_M_queue_14 : decode prog_6_method_53_code 14 = .ok (.iload_n 1, 1) := by decide +kernel
theorem d_M_queue_15 : decode prog_6_method_53_code 15 = .ok (.if_icmp .ge 19, 3) := by decide +kernel
theorem d_M_queue_18 : decode prog_6_method_53_code 18 = .ok (.iload_n 2, 1) := by decide +kernel
theorem d_M_queue_19 : decode prog_6_method_53_code 19 = .ok (.ifCond .lt 15, 3) := by decide +kernel
theorem d_M_queue_22 : decode prog_6_method_53_code 22 = .ok (.aload_n 0, 1) := by decide +kernel
theorem d_M_queue_23 : decode prog_6_method_53_code 23 = .ok (.iload_n 2, 1) := by decide +kernel
theorem d_M_queue_24 : decode prog_6_method_53_code 24 = .ok (.invokevirtual 121, 3) := by decide +kernel
theorem d_M_queue_27 : decode prog_6_method_53_code 27 = .ok (.istore_n 2, 1) := by decide +kernel
theorem d_M_queue_28 : decode prog_6_method_53_code 28 = .ok (.iinc 3 1, 3) := by decide +kernel
theorem d_M_queue_31 : decode prog_6_method_53_code 31 = .ok (.goto (-18), 3) := by decide +kernel
theorem d_M_queue_34 : decode prog_6_method_53_code 34 = .ok (.iload_n 1, 1) := by decide +kernel
theorem d_M_queue_35 : decode prog_6_method_53_code 35 = .ok (.ifCond .ge 7, 3) := by decide +kernel
theorem d_M_queue_38 : decode prog_6_method_53_code 38 = .ok (.iconst (-1), 1) := by decide +kernel
theorem d_M_queue_39 : decode prog_6_method_53_code 39 = .ok (.goto 4, 3) := by decide +kernel
theorem d_M_queue_42 : decode prog_6_method_53_code 42 = .ok (.iload_n 2, 1) := by decide +kernel
theorem d_M_queue_43 : decode prog_6_method_53_code 43 = .ok (.ireturn, 1) := by decide +kernel
theorem d_M_wants_0 : decode prog_6_method_54_code 0 = .ok (.aload_n 0, 1) := by decide +kernel
theorem d_M_wants_1 : decode prog_6_method_54_code 1 = .ok (.iload_n 1, 1) := by decide +kernel
theorem d_M_wants_2 : decode prog_6_method_54_code 2 = .ok (.invokestatic 70, 3) := by decide +kernel
theorem d_M_wants_5 : decode prog_6_method_54_code 5 = .ok (.ifCond .eq 12, 3) := by decide +kernel
theorem d_M_wants_8 : decode prog_6_method_54_code 8 = .ok (.iload_n 2, 1) := by decide +kernel
theorem d_M_wants_9 : decode prog_6_method_54_code 9 = .ok (.ifCond .lt 8, 3) := by decide +kernel
theorem d_M_wants_12 : decode prog_6_method_54_code 12 = .ok (.iload_n 2, 1) := by decide +kernel
theorem d_M_wants_13 : decode prog_6_method_54_code 13 = .ok (.iconst 5, 1) := by decide +kernel
theorem d_M_wants_14 : decode prog_6_method_54_code 14 = .ok (.if_icmp .le 7, 3) := by decide +kernel
theorem d_M_wants_17 : decode prog_6_method_54_code 17 = .ok (.iconst 1, 1) := by decide +kernel
theorem d_M_wants_18 : decode prog_6_method_54_code 18 = .ok (.goto 4, 3) := by decide +kernel
theorem d_M_wants_21 : decode prog_6_method_54_code 21 = .ok (.iconst 0, 1) := by decide +kernel
theorem d_M_wants_22 : decode prog_6_method_54_code 22 = .ok (.iload_n 1, 1) := by decide +kernel
theorem d_M_wants_23 : decode prog_6_method_54_code 23 = .ok (.invokestatic 70, 3) := by decide +kernel
theorem d_M_wants_26 : decode prog_6_method_54_code 26 = .ok (.ifCond .eq 17, 3) := by decide +kernel
theorem d_M_wants_29 : decode prog_6_method_54_code 29 = .ok (.aload_n 0, 1) := by decide +kernel
theorem d_M_wants_30 : decode prog_6_method_54_code 30 = .ok (.getfield 7, 3) := by decide +kernel
theorem d_M_wants_33 : decode prog_6_method_54_code 33 = .ok (.iload_n 1, 1) := by decide +kernel
theorem d_M_wants_34 : decode prog_6_method_54_code 34 = .ok (.iaload, 1) := by decide +kernel
theorem d_M_wants_35 : decode prog_6_method_54_code 35 = .ok (.iconst 2, 1) := by decide +kernel
theorem d_M_wants_36 : decode prog_6_method_54_code 36 = .ok (.if_icmp .eq 7, 3) := by decide +kernel
theorem d_M_wants_39 : decode prog_6_method_54_code 39 = .ok (.iconst 1, 1) := by decide +kernel
theorem d_M_wants_40 : decode prog_6_method_54_code 40 = .ok (.goto 4, 3) := by decide +kernel
theorem d_M_wants_43 : decode prog_6_method_54_code 43 = .ok (.iconst 0, 1) := by decide +kernel
theorem d_M_wants_44 : decode prog_6_method_54_code 44 = .ok (.iconst 0, 1) := by decide +kernel
theorem d_M_wants_45 : decode prog_6_method_54_code 45 = .ok (.invokevirtual 133, 3) := by decide +kernel
theorem d_M_wants_48 : decode prog_6_method_54_code 48 = .ok (.ifCond .eq 5, 3) := by decide +kernel
theorem d_M_wants_51 : decode prog_6_method_54_code 51 = .ok (.iconst 0, 1) := by decide +kernel
theorem d_M_wants_52 : decode prog_6_method_54_code 52 = .ok (.ireturn, 1) := by decide +kernel
theorem d_M_wants_53 : decode prog_6_method_54_code 53 = .ok (.iload_n 2, 1) := by decide +kernel
theorem d_M_wants_54 : decode prog_6_method_54_code 54 = .ok (.tableswitch 95 0 4 #[34, 41, 57, 64, 79], 34) := by decide +kernel
theorem d_M_wants_88 : decode prog_6_method_54_code 88 = .ok (.aload_n 0, 1) := by decide +kernel
theorem d_M_wants_89 : decode prog_6_method_54_code 89 = .ok (.getfield 38, 3) := by decide +kernel
theorem d_M_wants_92 : decode prog_6_method_54_code 92 = .ok (.iload_n 1, 1) := by decide +kernel
theorem d_M_wants_93 : decode prog_6_method_54_code 93 = .ok (.iaload, 1) := by decide +kernel
theorem d_M_wants_94 : decode prog_6_method_54_code 94 = .ok (.ireturn, 1) := by decide +kernel
theorem d_M_wants_95 : decode prog_6_method_54_code 95 = .ok (.aload_n 0, 1) := by decide +kernel
theorem d_M_wants_96 : decode prog_6_method_54_code 96 = .ok (.getfield 35, 3) := by decide +kernel
theorem d_M_wants_99 : decode prog_6_method_54_code 99 = .ok (.iload_n 1, 1) := by decide +kernel
theorem d_M_wants_100 : decode prog_6_method_54_code 100 = .ok (.iaload, 1) := by decide +kernel
theorem d_M_wants_101 : decode prog_6_method_54_code 101 = .ok (.iconst 1, 1) := by decide +kernel
theorem d_M_wants_102 : decode prog_6_method_54_code 102 = .ok (.if_icmp .ne 7, 3) := by decide +kernel
theorem d_M_wants_105 : decode prog_6_method_54_code 105 = .ok (.iconst 1, 1) := by decide +kernel
theorem d_M_wants_106 : decode prog_6_method_54_code 106 = .ok (.goto 4, 3) := by decide +kernel
theorem d_M_wants_109 : decode prog_6_method_54_code 109 = .ok (.iconst 0, 1) := by decide +kernel
theorem d_M_wants_110 : decode prog_6_method_54_code 110 = .ok (.ireturn, 1) := by decide +kernel
theorem d_M_wants_111 : decode prog_6_method_54_code 111 = .ok (.aload_n 0, 1) := by decide +kernel
theorem d_M_wants_112 : decode prog_6_method_54_code 112 = .ok (.getfield 41, 3) := by decide +kernel
theorem d_M_wants_115 : decode prog_6_method_54_code 115 = .ok (.iload_n 1, 1) := by decide +kernel
theorem d_M_wants_116 : decode prog_6_method_54_code 116 = .ok (.iaload, 1) := by decide +kernel
theorem d_M_wants_117 : decode prog_6_method_54_code 117 = .ok (.ireturn, 1) := by decide +kernel
theorem d_M_wants_118 : decode prog_6_method_54_code 118 = .ok (.aload_n 0, 1) := by decide +kernel
theorem d_M_wants_119 : decode prog_6_method_54_code 119 = .ok (.getfield 50, 3) := by decide +kernel
theorem d_M_wants_122 : decode prog_6_method_54_code 122 = .ok (.iload_n 1, 1) := by decide +kernel
theorem d_M_wants_123 : decode prog_6_method_54_code 123 = .ok (.baload, 1) := by decide +kernel
theorem d_M_wants_124 : decode prog_6_method_54_code 124 = .ok (.ifCond .eq 7, 3) := by decide +kernel
theorem d_M_wants_127 : decode prog_6_method_54_code 127 = .ok (.iconst 1, 1) := by decide +kernel
theorem d_M_wants_128 : decode prog_6_method_54_code 128 = .ok (.goto 4, 3) := by decide +kernel
theorem d_M_wants_131 : decode prog_6_method_54_code 131 = .ok (.iconst 0, 1) := by decide +kernel
theorem d_M_wants_132 : decode prog_6_method_54_code 132 = .ok (.ireturn, 1) := by decide +kernel
theorem d_M_wants_133 : decode prog_6_method_54_code 133 = .ok (.aload_n 0, 1) := by decide +kernel
theorem d_M_wants_134 : decode prog_6_method_54_code 134 = .ok (.getfield 35, 3) := by decide +kernel
theorem d_M_wants_137 : decode prog_6_method_54_code 137 = .ok (.iload_n 1, 1) := by decide +kernel
theorem d_M_wants_138 : decode prog_6_method_54_code 138 = .ok (.iaload, 1) := by decide +kernel
theorem d_M_wants_139 : decode prog_6_method_54_code 139 = .ok (.iconst 2, 1) := by decide +kernel
theorem d_M_wants_140 : decode prog_6_method_54_code 140 = .ok (.if_icmp .ne 7, 3) := by decide +kernel
theorem d_M_wants_143 : decode prog_6_method_54_code 143 = .ok (.iconst 1, 1) := by decide +kernel
theorem d_M_wants_144 : decode prog_6_method_54_code 144 = .ok (.goto 4, 3) := by decide +kernel
theorem d_M_wants_147 : decode prog_6_method_54_code 147 = .ok (.iconst 0, 1) := by decide +kernel
theorem d_M_wants_148 : decode prog_6_method_54_code 148 = .ok (.ireturn, 1) := by decide +kernel
theorem d_M_wants_149 : decode prog_6_method_54_code 149 = .ok (.aload_n 0, 1) := by decide +kernel
theorem d_M_wants_150 : decode prog_6_method_54_code 150 = .ok (.getfield 57, 3) := by decide +kernel
theorem d_M_wants_153 : decode prog_6_method_54_code 153 = .ok (.iload_n 1, 1) := by decide +kernel
theorem d_M_wants_154 : decode prog_6_method_54_code 154 = .ok (.iaload, 1) := by decide +kernel
theorem d_M_wants_155 : decode prog_6_method_54_code 155 = .ok (.ireturn, 1) := by decide +kernel
theorem d_M_behind_0 : decode prog_6_method_55_code 0 = .ok (.aload_n 0, 1) := by decide +kernel
theorem d_M_behind_1 : decode prog_6_method_55_code 1 = .ok (.iload_n 1, 1) := by decide +kernel
theorem d_M_behind_2 : decode prog_6_method_55_code 2 = .ok (.invokestatic 70, 3) := by decide +kernel
theorem d_M_behind_5 : decode prog_6_method_55_code 5 = .ok (.ifCond .ne 7, 3) := by decide +kernel
theorem d_M_behind_8 : decode prog_6_method_55_code 8 = .ok (.iconst 1, 1) := by decide +kernel
theorem d_M_behind_9 : decode prog_6_method_55_code 9 = .ok (.goto 4, 3) := by decide +kernel
theorem d_M_behind_12 : decode prog_6_method_55_code 12 = .ok (.iconst 0, 1) := by decide +kernel
theorem d_M_behind_13 : decode prog_6_method_55_code 13 = .ok (.iconst 0, 1) := by decide +kernel
theorem d_M_behind_14 : decode prog_6_method_55_code 14 = .ok (.iconst 0, 1) := by decide +kernel
theorem d_M_behind_15 : decode prog_6_method_55_code 15 = .ok (.invokevirtual 133, 3) := by decide +kernel
theorem d_M_behind_18 : decode prog_6_method_55_code 18 = .ok (.ifCond .eq 7, 3) := by decide +kernel
theorem d_M_behind_21 : decode prog_6_method_55_code 21 = .ok (.iconst 0, 1) := by decide +kernel
theorem d_M_behind_22 : decode prog_6_method_55_code 22 = .ok (.goto 8, 3) := by decide +kernel
theorem d_M_behind_25 : decode prog_6_method_55_code 25 = .ok (.aload_n 0, 1) := by decide +kernel
theorem d_M_behind_26 : decode prog_6_method_55_code 26 = .ok (.iload_n 1, 1) := by decide +kernel
theorem d_M_behind_27 : decode prog_6_method_55_code 27 = .ok (.invokevirtual 124, 3) := by decide +kernel
theorem d_M_behind_30 : decode prog_6_method_55_code 30 = .ok (.ireturn, 1) := by decide +kernel
theorem d_M_granted_0 : decode prog_6_method_56_code 0 = .ok (.aload_n 0, 1) := by decide +kernel
theorem d_M_granted_1 : decode prog_6_method_56_code 1 = .ok (.iconst 0, 1) := by decide +kernel
theorem d_M_granted_2 : decode prog_6_method_56_code 2 = .ok (.putfield 66, 3) := by decide +kernel
theorem d_M_granted_5 : decode prog_6_method_56_code 5 = .ok (.iload_n 1, 1) := by decide +kernel
theorem d_M_granted_6 : decode prog_6_method_56_code 6 = .ok (.ifCond .lt 20, 3) := by decide +kernel
theorem d_M_granted_9 : decode prog_6_method_56_code 9 = .ok (.iload_n 1, 1) := by decide +kernel
theorem d_M_granted_10 : decode prog_6_method_56_code 10 = .ok (.aload_n 0, 1) := by decide +kernel
theorem d_M_granted_11 : decode prog_6_method_56_code 11 = .ok (.getfield 130, 3) := by decide +kernel
theorem d_M_granted_14 : decode prog_6_method_56_code 14 = .ok (.if_icmp .ge 12, 3) := by decide +kernel
theorem d_M_granted_17 : decode prog_6_method_56_code 17 = .ok (.aload_n 0, 1) := by decide +kernel
theorem d_M_granted_18 : decode prog_6_method_56_code 18 = .ok (.getfield 60, 3) := by decide +kernel
theorem d_M_granted_21 : decode prog_6_method_56_code 21 = .ok (.iload_n 1, 1) := by decide +kernel
theorem d_M_granted_22 : decode prog_6_method_56_code 22 = .ok (.iaload, 1) := by decide +kernel
theorem d_M_granted_23 : decode prog_6_method_56_code 23 = .ok (.goto 4, 3) := by decide +kernel
theorem d_M_granted_26 : decode prog_6_method_56_code 26 = .ok (.iconst (-1), 1) := by decide +kernel
theorem d_M_granted_27 : decode prog_6_method_56_code 27 = .ok (.ireturn, 1) := by decide +kernel
theorem d_M_join_0 : decode prog_6_method_57_code 0 = .ok (.aload_n 0, 1) := by decide +kernel
theorem d_M_join_1 : decode prog_6_method_57_code 1 = .ok (.iload_n 1, 1) := by decide +kernel
theorem d_M_join_2 : decode prog_6_method_57_code 2 = .ok (.invokestatic 155, 3) := by decide +kernel
theorem d_M_join_5 : decode prog_6_method_57_code 5 = .ok (.ifCond .eq 10, 3) := by decide +kernel
theorem d_M_join_8 : decode prog_6_method_57_code 8 = .ok (.iload_n 2, 1) := by decide +kernel
theorem d_M_join_9 : decode prog_6_method_57_code 9 = .ok (.invokestatic 155, 3) := by decide +kernel
theorem d_M_join_12 : decode prog_6_method_57_code 12 = .ok (.ifCond .ne 7, 3) := by decide +kernel
theorem d_M_join_15 : decode prog_6_method_57_code 15 = .ok (.iconst 1, 1) := by decide +kernel
theorem d_M_join_16 : decode prog_6_method_57_code 16 = .ok (.goto 4, 3) := by decide +kernel
theorem d_M_join_19 : decode prog_6_method_57_code 19 = .ok (.iconst 0, 1) := by decide +kernel
theorem d_M_join_20 : decode prog_6_method_57_code 20 = .ok (.iconst 0, 1) := by decide +kernel
theorem d_M_join_21 : decode prog_6_method_57_code 21 = .ok (.iconst 0, 1) := by decide +kernel
theorem d_M_join_22 : decode prog_6_method_57_code 22 = .ok (.invokevirtual 133, 3) := by decide +kernel
theorem d_M_join_25 : decode prog_6_method_57_code 25 = .ok (.ifCond .eq 7, 3) := by decide +kernel
theorem d_M_join_28 : decode prog_6_method_57_code 28 = .ok (.iconst 0, 1) := by decide +kernel
theorem d_M_join_29 : decode prog_6_method_57_code 29 = .ok (.goto 8, 3) := by decide +kernel
theorem d_M_join_32 : decode prog_6_method_57_code 32 = .ok (.iload_n 1, 1) := by decide +kernel
theorem d_M_join_33 : decode prog_6_method_57_code 33 = .ok (.iload_n 2, 1) := by decide +kernel
theorem d_M_join_34 : decode prog_6_method_57_code 34 = .ok (.invokestatic 81, 3) := by decide +kernel
theorem d_M_join_37 : decode prog_6_method_57_code 37 = .ok (.ireturn, 1) := by decide +kernel
def F_M_counted_L7 (mmo : Nat → Int32) : Nat → Int32 → Int32 → Option (Int32)
  | 0, _, _ => none
  | n + 1, v1, v2 => if 128 ≤ v2 then some v1 else gd (v2 < 0 ∨ 128 ≤ v2.toNatClampNeg) (if (mmo v2.toNatClampNeg) < 0 then F_M_counted_L7 mmo n v1 (v2 + 1) else F_M_counted_L7 mmo n (v1 + 1) (v2 + 1))
def F_M_counted_L39 (mst : Nat → Int32) : Nat → Int32 → Int32 → Option (Int32)
  | 0, _, _ => none
  | n + 1, v1, v2 => if 8 ≤ v2 then some v1 else gd (v2 < 0 ∨ 8 ≤ v2.toNatClampNeg) (if (mst v2.toNatClampNeg) = 2 then F_M_counted_L39 mst n (v1 + 1) (v2 + 1) else F_M_counted_L39 mst n v1 (v2 + 1))
def F_M_counted (mst : Nat → Int32) (mmo : Nat → Int32) (mrc : Int32) : Option (Int32) :=
  ob1 (F_M_counted_L7 mmo fu mrc 0) (fun v1_4 => ob1 (F_M_counted_L39 mst fu v1_4 0) (fun v1_8 => some v1_8))
set_option maxHeartbeats 4000000 in
set_option maxRecDepth 100000 in
theorem t_M_counted_L7 {p : Program} {l : Launch} {e : Env} {s : State} {m : MethodId} {args : Array Value} {below : List Frame} {meth : Method} {c : Code} {A : Nat → Prop} {g : va_G} {cI cJ cZ : ClassId} {ad : Nat → Nat} {rest : va_W} (K : kX p s m args meth c "LockTableModel" prog_6_method_49_code 3 (some .int) A g (kty cI cJ cZ)) {Q : State → Prop} (mth : Int32) (mst : Nat → Int32) (mse : Nat → Int32) (mla : Int32) (mmo : Nat → Int32) (mrc : Int32) (mro : Nat → Int32) (mrt : Nat → Int32) (mrm : Nat → Int32) (mrl : Nat → Int64) (mrh : Nat → Int64) (mwk : Nat → Int32) (mwt : Nat → Int32) (mwm : Nat → Int32) (mwl : Nat → Int64) (mwh : Nat → Int64) (mwi : Nat → Int32) (mwc : Nat → Int32) (mwx : Nat → Int32) (mar : Int32) (mli : Int32) (mgr : Int32) (mgo : Nat → Int32) (mre : Nat → Int32) (mfr : Int32) : ∀ (n : Nat) (v1 : Int32) (v2 : Int32) (o_v1 : Int32) (H : Heap) (locs : List Loc) (ls : Array Slot), F_M_counted_L7 mmo n v1 v2 = some o_v1 → va_P g kcl (wM cI cJ cZ ad mth mst mse mla mmo mrc mro mrt mrm mrl mrh mwk mwt mwm mwl mwh mwi mwc mwx mar mli mgr mgo mre mfr rest) H → va_D A (wM cI cJ cZ ad mth mst mse mla mmo mrc mro mrt mrm mrl mrh mwk mwt mwm mwl mwh mwi mwc mwx mar mli mgr mgo mre mfr rest) → va_S A s.heap H locs → lv_has ls 3 [(0, .ref (ad 0)), (1, .int v1), (2, .int v2)] → (∀ (H : Heap) (locs : List Loc) (ls : Array Slot), va_P g kcl (wM cI cJ cZ ad mth mst mse mla mmo mrc mro mrt mrm mrl mrh mwk mwt mwm mwl mwh mwi mwc mwx mar mli mgr mgo mre mfr rest) H → va_D A (wM cI cJ cZ ad mth mst mse mla mmo mrc mro mrt mrm mrl mrh mwk mwt mwm mwl mwh mwi mwc mwx mar mli mgr mgo mre mfr rest) → va_S A s.heap H locs → lv_has ls 3 [(0, .ref (ad 0)), (1, .int o_v1)] → W p l e ({ frames := 0, cells := 0, slots := 0, locals := 0 }) s m args below meth c H locs 0 0 Q (F0 m 37 ls [])) → W p l e ({ frames := 0, cells := 0, slots := 0, locals := 0 }) s m args below meth c H locs 0 0 Q (F0 m 7 ls []) := by
  obtain ⟨hx, hb, hr, hml, hown, hts, hlocks, hK, hA, hE⟩ := id K
  intro n
  induction n with
  | zero =>
    intro v1 v2 o_v1 H locs ls hF
    rw [F_M_counted_L7] at hF
    cases hF
  | succ n ih =>
    intro v1 v2 o_v1 H locs ls hF hP hD hS hl hQ
    rw [F_M_counted_L7] at hF
    refine lv_iload_n hx hb d_M_counted_7 rfl (lv_at hl 2 rfl) ?_
    refine lv_sipush (v := 128) hx hb d_M_counted_8 (by decide) ?_
    refine lv_icmp_ge (tgt := 37) hx hb d_M_counted_11 (by decide) (fun hc_1 => ?_) (fun hc_1 => ?_)
    · have hF := it_t hF hc_1
      cases hF
      exact hQ H locs ls hP hD hS (lv_sub hl [0, 1] rfl)
    · have hF := it_f hF hc_1
      refine lv_aload_n hx hb d_M_counted_14 rfl (lv_at hl 0 rfl) ?_
      refine va_get (D := g) (ci := 3) (v := .ref (ad 3)) (C := kR3) (T := kT3) (N := 25) hx hb hts kw3 hown hK hP 0 rfl rfl 4 (by decide) (hts _ wm_675) (fun _ h9 => h9) rfl d_M_counted_15 ?_
      refine lv_iload_n hx hb d_M_counted_18 rfl (lv_at hl 2 rfl) ?_
      obtain ⟨hg_2, hF⟩ := gd_inv hF
      refine va_iald hx hb hK hP 3 0 rfl rfl hg_2 d_M_counted_19 ?_
      refine lv_if_lt (tgt := 29) hx hb d_M_counted_20 (by decide) (fun hc_3 => ?_) (fun hc_3 => ?_)
      · have hF := it_t hF hc_3
        refine lv_iload_n hx hb d_M_counted_29 rfl (lv_at hl 1 rfl) ?_
        refine lv_istore_n (lv' := [(1, .int v1), (0, .ref (ad 0)), (2, .int v2)]) hx hb d_M_counted_30 rfl hl (by decide) rfl (fun ls hl => ?_)
        refine lv_iinc (v := v2 + 1) (lv' := [(2, .int (v2 + 1)), (1, .int v1), (0, .ref (ad 0))]) hx hb d_M_counted_31 hl (k := 2) rfl rfl (by decide) rfl (fun ls hl => ?_)
        refine lv_goto (tgt := 7) hx hb d_M_counted_34 (by decide) ?_
        exact ih _ _ _ H locs ls hF hP hD hS (lv_sub hl [2, 1, 0] rfl) hQ
      · have hF := it_f hF hc_3
        refine lv_iload_n hx hb d_M_counted_23 rfl (lv_at hl 1 rfl) ?_
        refine lv_iconst (v := 1) hx hb d_M_counted_24 (by decide) ?_
        refine lv_iadd hx hb d_M_counted_25 ?_
        refine lv_goto (tgt := 30) hx hb d_M_counted_26 (by decide) ?_
        refine lv_istore_n (lv' := [(1, .int (v1 + 1)), (0, .ref (ad 0)), (2, .int v2)]) hx hb d_M_counted_30 rfl hl (by decide) rfl (fun ls hl => ?_)
        refine lv_iinc (v := v2 + 1) (lv' := [(2, .int (v2 + 1)), (1, .int (v1 + 1)), (0, .ref (ad 0))]) hx hb d_M_counted_31 hl (k := 2) rfl rfl (by decide) rfl (fun ls hl => ?_)
        refine lv_goto (tgt := 7) hx hb d_M_counted_34 (by decide) ?_
        exact ih _ _ _ H locs ls hF hP hD hS (lv_sub hl [2, 1, 0] rfl) hQ
set_option maxHeartbeats 4000000 in
set_option maxRecDepth 100000 in
theorem t_M_counted_L39 {p : Program} {l : Launch} {e : Env} {s : State} {m : MethodId} {args : Array Value} {below : List Frame} {meth : Method} {c : Code} {A : Nat → Prop} {g : va_G} {cI cJ cZ : ClassId} {ad : Nat → Nat} {rest : va_W} (K : kX p s m args meth c "LockTableModel" prog_6_method_49_code 3 (some .int) A g (kty cI cJ cZ)) {Q : State → Prop} (mth : Int32) (mst : Nat → Int32) (mse : Nat → Int32) (mla : Int32) (mmo : Nat → Int32) (mrc : Int32) (mro : Nat → Int32) (mrt : Nat → Int32) (mrm : Nat → Int32) (mrl : Nat → Int64) (mrh : Nat → Int64) (mwk : Nat → Int32) (mwt : Nat → Int32) (mwm : Nat → Int32) (mwl : Nat → Int64) (mwh : Nat → Int64) (mwi : Nat → Int32) (mwc : Nat → Int32) (mwx : Nat → Int32) (mar : Int32) (mli : Int32) (mgr : Int32) (mgo : Nat → Int32) (mre : Nat → Int32) (mfr : Int32) : ∀ (n : Nat) (v1 : Int32) (v2 : Int32) (o_v1 : Int32) (H : Heap) (locs : List Loc) (ls : Array Slot), F_M_counted_L39 mst n v1 v2 = some o_v1 → va_P g kcl (wM cI cJ cZ ad mth mst mse mla mmo mrc mro mrt mrm mrl mrh mwk mwt mwm mwl mwh mwi mwc mwx mar mli mgr mgo mre mfr rest) H → va_D A (wM cI cJ cZ ad mth mst mse mla mmo mrc mro mrt mrm mrl mrh mwk mwt mwm mwl mwh mwi mwc mwx mar mli mgr mgo mre mfr rest) → va_S A s.heap H locs → lv_has ls 3 [(0, .ref (ad 0)), (1, .int v1), (2, .int v2)] → (∀ (H : Heap) (locs : List Loc) (ls : Array Slot), va_P g kcl (wM cI cJ cZ ad mth mst mse mla mmo mrc mro mrt mrm mrl mrh mwk mwt mwm mwl mwh mwi mwc mwx mar mli mgr mgo mre mfr rest) H → va_D A (wM cI cJ cZ ad mth mst mse mla mmo mrc mro mrt mrm mrl mrh mwk mwt mwm mwl mwh mwi mwc mwx mar mli mgr mgo mre mfr rest) → va_S A s.heap H locs → lv_has ls 3 [(1, .int o_v1)] → W p l e ({ frames := 0, cells := 0, slots := 0, locals := 0 }) s m args below meth c H locs 0 0 Q (F0 m 69 ls [])) → W p l e ({ frames := 0, cells := 0, slots := 0, locals := 0 }) s m args below meth c H locs 0 0 Q (F0 m 39 ls []) := by
  obtain ⟨hx, hb, hr, hml, hown, hts, hlocks, hK, hA, hE⟩ := id K
  intro n
  induction n with
  | zero =>
    intro v1 v2 o_v1 H locs ls hF
    rw [F_M_counted_L39] at hF
    cases hF
  | succ n ih =>
    intro v1 v2 o_v1 H locs ls hF hP hD hS hl hQ
    rw [F_M_counted_L39] at hF
    refine lv_iload_n hx hb d_M_counted_39 rfl (lv_at hl 2 rfl) ?_
    refine lv_bipush (v := 8) hx hb d_M_counted_40 (by decide) ?_
    refine lv_icmp_ge (tgt := 69) hx hb d_M_counted_42 (by decide) (fun hc_5 => ?_) (fun hc_5 => ?_)
    · have hF := it_t hF hc_5
      cases hF
      exact hQ H locs ls hP hD hS (lv_sub hl [1] rfl)
    · have hF := it_f hF hc_5
      refine lv_aload_n hx hb d_M_counted_45 rfl (lv_at hl 0 rfl) ?_
      refine va_get (D := g) (ci := 3) (v := .ref (ad 1)) (C := kR3) (T := kT3) (N := 25) hx hb hts kw3 hown hK hP 0 rfl rfl 1 (by decide) (hts _ wm_672) (fun _ h9 => h9) rfl d_M_counted_46 ?_
      refine lv_iload_n hx hb d_M_counted_49 rfl (lv_at hl 2 rfl) ?_
      obtain ⟨hg_6, hF⟩ := gd_inv hF
      refine va_iald hx hb hK hP 1 0 rfl rfl hg_6 d_M_counted_50 ?_
      refine lv_iconst (v := 2) hx hb d_M_counted_51 (by decide) ?_
      refine lv_icmp_ne (tgt := 61) hx hb d_M_counted_52 (by decide) (fun hc_7 => ?_) (fun hc_7 => ?_)
      · have hF := it_f hF hc_7
        refine lv_iload_n hx hb d_M_counted_61 rfl (lv_at hl 1 rfl) ?_
        refine lv_istore_n (lv' := [(1, .int v1), (0, .ref (ad 0)), (2, .int v2)]) hx hb d_M_counted_62 rfl hl (by decide) rfl (fun ls hl => ?_)
        refine lv_iinc (v := v2 + 1) (lv' := [(2, .int (v2 + 1)), (1, .int v1), (0, .ref (ad 0))]) hx hb d_M_counted_63 hl (k := 2) rfl rfl (by decide) rfl (fun ls hl => ?_)
        refine lv_goto (tgt := 39) hx hb d_M_counted_66 (by decide) ?_
        exact ih _ _ _ H locs ls hF hP hD hS (lv_sub hl [2, 1, 0] rfl) hQ
      · have hF := it_t hF hc_7
        refine lv_iload_n hx hb d_M_counted_55 rfl (lv_at hl 1 rfl) ?_
        refine lv_iconst (v := 1) hx hb d_M_counted_56 (by decide) ?_
        refine lv_iadd hx hb d_M_counted_57 ?_
        refine lv_goto (tgt := 62) hx hb d_M_counted_58 (by decide) ?_
        refine lv_istore_n (lv' := [(1, .int (v1 + 1)), (0, .ref (ad 0)), (2, .int v2)]) hx hb d_M_counted_62 rfl hl (by decide) rfl (fun ls hl => ?_)
        refine lv_iinc (v := v2 + 1) (lv' := [(2, .int (v2 + 1)), (1, .int (v1 + 1)), (0, .ref (ad 0))]) hx hb d_M_counted_63 hl (k := 2) rfl rfl (by decide) rfl (fun ls hl => ?_)
        refine lv_goto (tgt := 39) hx hb d_M_counted_66 (by decide) ?_
        exact ih _ _ _ H locs ls hF hP hD hS (lv_sub hl [2, 1, 0] rfl) hQ
set_option maxHeartbeats 4000000 in
set_option maxRecDepth 100000 in
theorem t_M_counted {p : Program} {l : Launch} {e : Env} {s : State} {m : MethodId} {args : Array Value} {below : List Frame} {meth : Method} {c : Code} {A : Nat → Prop} {g : va_G} {cI cJ cZ : ClassId} {ad : Nat → Nat} {rest : va_W} (K : kX p s m args meth c "LockTableModel" prog_6_method_49_code 3 (some .int) A g (kty cI cJ cZ)) (mth : Int32) (mst : Nat → Int32) (mse : Nat → Int32) (mla : Int32) (mmo : Nat → Int32) (mrc : Int32) (mro : Nat → Int32) (mrt : Nat → Int32) (mrm : Nat → Int32) (mrl : Nat → Int64) (mrh : Nat → Int64) (mwk : Nat → Int32) (mwt : Nat → Int32) (mwm : Nat → Int32) (mwl : Nat → Int64) (mwh : Nat → Int64) (mwi : Nat → Int32) (mwc : Nat → Int32) (mwx : Nat → Int32) (mar : Int32) (mli : Int32) (mgr : Int32) (mgo : Nat → Int32) (mre : Nat → Int32) (mfr : Int32)  (r : Int32) (hF : F_M_counted mst mmo mrc = some r) {H : Heap} {locs : List Loc} {ls : Array Slot} (hP : va_P g kcl (wM cI cJ cZ ad mth mst mse mla mmo mrc mro mrt mrm mrl mrh mwk mwt mwm mwl mwh mwi mwc mwx mar mli mgr mgo mre mfr rest) H) (hD : va_D A (wM cI cJ cZ ad mth mst mse mla mmo mrc mro mrt mrm mrl mrh mwk mwt mwm mwl mwh mwi mwc mwx mar mli mgr mgo mre mfr rest)) (hS : va_S A s.heap H locs) (hl : lv_has ls 3 [(0, .ref (ad 0))]) : W p l e ({ frames := 0, cells := 0, slots := 0, locals := 0 }) s m args below meth c H locs 0 0 (MQ below (kQi g (kty cI cJ cZ) (wM cI cJ cZ ad mth mst mse mla mmo mrc mro mrt mrm mrl mrh mwk mwt mwm mwl mwh mwi mwc mwx mar mli mgr mgo mre mfr rest) A r) args s 0 0 A) (F0 m 0 ls []) := by
  obtain ⟨hx, hb, hr, hml, hown, hts, hlocks, hK, hA, hE⟩ := id K
  unfold F_M_counted at hF
  refine lv_aload_n hx hb d_M_counted_0 rfl (lv_at hl 0 rfl) ?_
  refine va_get (D := g) (ci := 3) (v := .int mrc) (C := kR3) (T := kT3) (N := 25) hx hb hts kw3 hown hK hP 0 rfl rfl 5 (by decide) (hts _ wm_676) (fun _ h9 => h9) rfl d_M_counted_1 ?_
  refine lv_istore_n (lv' := [(1, .int mrc), (0, .ref (ad 0))]) hx hb d_M_counted_4 rfl hl (by decide) rfl (fun ls hl => ?_)
  refine lv_iconst (v := 0) hx hb d_M_counted_5 (by decide) ?_
  refine lv_istore_n (lv' := [(2, .int 0), (1, .int mrc), (0, .ref (ad 0))]) hx hb d_M_counted_6 rfl hl (by decide) rfl (fun ls hl => ?_)
  obtain ⟨v1_4, hG, hF⟩ := ob1_inv hF
  refine t_M_counted_L7 K mth mst mse mla mmo mrc mro mrt mrm mrl mrh mwk mwt mwm mwl mwh mwi mwc mwx mar mli mgr mgo mre mfr fu _ _ _ H locs ls hG hP hD hS (lv_sub hl [2, 1, 0] rfl) (fun H locs ls hP hD hS hl => ?_)
  refine lv_iconst (v := 0) hx hb d_M_counted_37 (by decide) ?_
  refine lv_istore_n (lv' := [(2, .int 0), (0, .ref (ad 0)), (1, .int v1_4)]) hx hb d_M_counted_38 rfl hl (by decide) rfl (fun ls hl => ?_)
  obtain ⟨v1_8, hG, hF⟩ := ob1_inv hF
  refine t_M_counted_L39 K mth mst mse mla mmo mrc mro mrt mrm mrl mrh mwk mwt mwm mwl mwh mwi mwc mwx mar mli mgr mgo mre mfr fu _ _ _ H locs ls hG hP hD hS (lv_sub hl [1, 2, 0] rfl) (fun H locs ls hP hD hS hl => ?_)
  refine lv_iload_n hx hb d_M_counted_69 rfl (lv_at hl 0 rfl) ?_
  cases hF
  exact kri K hP hD hS d_M_counted_70 rfl
theorem c_M_counted (l : Launch) (g : va_G) (cI cJ cZ : ClassId) (ad : Nat → Nat) (mth : Int32) (mst : Nat → Int32) (mse : Nat → Int32) (mla : Int32) (mmo : Nat → Int32) (mrc : Int32) (mro : Nat → Int32) (mrt : Nat → Int32) (mrm : Nat → Int32) (mrl : Nat → Int64) (mrh : Nat → Int64) (mwk : Nat → Int32) (mwt : Nat → Int32) (mwm : Nat → Int32) (mwl : Nat → Int64) (mwh : Nat → Int64) (mwi : Nat → Int32) (mwc : Nat → Int32) (mwx : Nat → Int32) (mar : Int32) (mli : Int32) (mgr : Int32) (mgo : Nat → Int32) (mre : Nat → Int32) (mfr : Int32) (rest : va_W)  (r : Int32) (hF : F_M_counted mst mmo mrc = some r) : Ci l y_M_counted prog_6_method_49_code 3 (some .int) ({ frames := 0, cells := 0, slots := 0, locals := 0 }) [.ref (ad 0)] g (kty cI cJ cZ) (wM cI cJ cZ ad mth mst mse mla mmo mrc mro mrt mrm mrl mrh mwk mwt mwm mwl mwh mwi mwc mwx mar mli mgr mgo mre mfr rest) (wM cI cJ cZ ad mth mst mse mla mmo mrc mro mrt mrm mrl mrh mwk mwt mwm mwl mwh mwi mwc mwx mar mli mgr mgo mre mfr rest) r :=
  Ci.of (by decide) (Nat.le_of_ble_eq_true rfl) (fun p e s m below meth c A ls K hP hD hS hl => t_M_counted K mth mst mse mla mmo mrc mro mrt mrm mrl mrh mwk mwt mwm mwl mwh mwi mwc mwx mar mli mgr mgo mre mfr  r hF hP hD hS hl)
def F_M_table (mth : Int32) (mst : Nat → Int32) (mse : Nat → Int32) (mmo : Nat → Int32) (mrc : Int32) (mro : Nat → Int32) (mrt : Nat → Int32) (mrm : Nat → Int32) (mrl : Nat → Int64) (mrh : Nat → Int64) (mwk : Nat → Int32) (mwt : Nat → Int32) (mwm : Nat → Int32) (mwl : Nat → Int64) (mwh : Nat → Int64) (mwi : Nat → Int32) (mwc : Nat → Int32) (mwx : Nat → Int32) (mar : Int32) (mgr : Int32) (mgo : Nat → Int32) (mre : Nat → Int32) (mfr : Int32) (a1 : Int32) (a2 : Int32) (a3 : Int32) : Option (Int32 × Int32 × (Nat → Int32) × (Nat → Int32) × Int32 × (Nat → Int32) × (Nat → Int32) × (Nat → Int32) × (Nat → Int64) × (Nat → Int64) × (Nat → Int32) × (Nat → Int32) × (Nat → Int32) × (Nat → Int32) × (Nat → Int32) × (Nat → Int32) × Int32 × Int32 × (Nat → Int32) × (Nat → Int32) × Int32) :=
  ob1 (F_M_isOwner a1) (fun r_1 => jn1 (fun (s_2 : Int32) => ob1 (F_M_isOwner a1) (fun r_3 => jn2 (fun (s_4 : Int32) (s_5 : Int32) => ob2 (F_M_refused mth s_4 s_5 0) (fun r_6 mth_7 => if r_6 = 0 then gd (((16 * a1) + a2) < 0 ∨ 128 ≤ ((16 * a1) + a2).toNatClampNeg) (ob1 (F_M_joinedWith mmo a1 a2 a3) (fun r_10 => if r_10 = (mmo ((16 * a1) + a2).toNatClampNeg) then some (0, mth_7, mst, mmo, mrc, mro, mrt, mrm, mrl, mrh, mwk, mwt, mwm, mwi, mwc, mwx, mar, 0, mgo, mre, mfr) else jn0 (gd (a1 < 0 ∨ 8 ≤ a1.toNatClampNeg) (gd (a1 < 0 ∨ 8 ≤ a1.toNatClampNeg) (gd (a1 < 0 ∨ 8 ≤ a1.toNatClampNeg) (jn2 (fun (s_15 : Int32) (s_16 : Int32) => ob17 (F_M_ask mst mse mmo mrc mro mrt mrm mrl mrh (upd mwk a1.toNatClampNeg 0) (upd mwt a1.toNatClampNeg a2) (upd mwm a1.toNatClampNeg r_10) mwl mwh mwi mwc mwx mar 0 mgo mre mfr s_15 s_16) (fun r_17 mst_18 mmo_19 mrc_20 mro_21 mrt_22 mrm_23 mrl_24 mrh_25 mwi_26 mwc_27 mwx_28 mar_29 mgr_30 mgo_31 mre_32 mfr_33 => some (r_17, mth_7, mst_18, mmo_19, mrc_20, mro_21, mrt_22, mrm_23, mrl_24, mrh_25, upd mwk a1.toNatClampNeg 0, upd mwt a1.toNatClampNeg a2, upd mwm a1.toNatClampNeg r_10, mwi_26, mwc_27, mwx_28, mar_29, mgr_30, mgo_31, mre_32, mfr_33))) (fun J145 => if (mmo ((16 * a1) + a2).toNatClampNeg) < 0 then J145 a1 0 else J145 a1 1))))) (fun J111 => if 0 ≤ (mmo ((16 * a1) + a2).toNatClampNeg) then J111  else ob1 (F_M_counted mst mmo mrc) (fun r_36 => if r_36 < 256 then J111  else some (3, mth_7, mst, mmo, mrc, mro, mrt, mrm, mrl, mrh, mwk, mwt, mwm, mwi, mwc, mwx, mar, 0, mgo, mre, mfr))))) else some (0, mth_7, mst, mmo, mrc, mro, mrt, mrm, mrl, mrh, mwk, mwt, mwm, mwi, mwc, mwx, mar, mgr, mgo, mre, mfr))) (fun J49 => jn1 (fun (s_38 : Int32) => J49 s_38 0) (fun J48 => if r_3 = 0 then J48 s_2 else gd (a1 < 0 ∨ 8 ≤ a1.toNatClampNeg) (if (mst a1.toNatClampNeg) = 1 then J48 s_2 else J49 s_2 1))))) (fun J27 => jn0 (J27 1) (fun J22 => if r_1 = 0 then J22  else ob1 (F_M_isTable a2) (fun r_43 => if r_43 = 0 then J22  else ob1 (F_M_isMode a3) (fun r_45 => if r_45 = 0 then J22  else J27 0)))))
set_option maxHeartbeats 4000000 in
set_option maxRecDepth 100000 in
theorem t_M_table {p : Program} {l : Launch} {e : Env} {s : State} {m : MethodId} {args : Array Value} {below : List Frame} {meth : Method} {c : Code} {A : Nat → Prop} {g : va_G} {cI cJ cZ : ClassId} {ad : Nat → Nat} {rest : va_W} (K : kX p s m args meth c "LockTableModel" prog_6_method_30_code 6 (some .int) A g (kty cI cJ cZ)) (mth : Int32) (mst : Nat → Int32) (mse : Nat → Int32) (mla : Int32) (mmo : Nat → Int32) (mrc : Int32) (mro : Nat → Int32) (mrt : Nat → Int32) (mrm : Nat → Int32) (mrl : Nat → Int64) (mrh : Nat → Int64) (mwk : Nat → Int32) (mwt : Nat → Int32) (mwm : Nat → Int32) (mwl : Nat → Int64) (mwh : Nat → Int64) (mwi : Nat → Int32) (mwc : Nat → Int32) (mwx : Nat → Int32) (mar : Int32) (mli : Int32) (mgr : Int32) (mgo : Nat → Int32) (mre : Nat → Int32) (mfr : Int32) (a1 : Int32) (a2 : Int32) (a3 : Int32) (r : Int32) (o_mth : Int32) (o_mst : Nat → Int32) (o_mmo : Nat → Int32) (o_mrc : Int32) (o_mro : Nat → Int32) (o_mrt : Nat → Int32) (o_mrm : Nat → Int32) (o_mrl : Nat → Int64) (o_mrh : Nat → Int64) (o_mwk : Nat → Int32) (o_mwt : Nat → Int32) (o_mwm : Nat → Int32) (o_mwi : Nat → Int32) (o_mwc : Nat → Int32) (o_mwx : Nat → Int32) (o_mar : Int32) (o_mgr : Int32) (o_mgo : Nat → Int32) (o_mre : Nat → Int32) (o_mfr : Int32) (hF : F_M_table mth mst mse mmo mrc mro mrt mrm mrl mrh mwk mwt mwm mwl mwh mwi mwc mwx mar mgr mgo mre mfr a1 a2 a3 = some (r, o_mth, o_mst, o_mmo, o_mrc, o_mro, o_mrt, o_mrm, o_mrl, o_mrh, o_mwk, o_mwt, o_mwm, o_mwi, o_mwc, o_mwx, o_mar, o_mgr, o_mgo, o_mre, o_mfr)) {H : Heap} {locs : List Loc} {ls : Array Slot} (hP : va_P g kcl (wM cI cJ cZ ad mth mst mse mla mmo mrc mro mrt mrm mrl mrh mwk mwt mwm mwl mwh mwi mwc mwx mar mli mgr mgo mre mfr rest) H) (hD : va_D A (wM cI cJ cZ ad mth mst mse mla mmo mrc mro mrt mrm mrl mrh mwk mwt mwm mwl mwh mwi mwc mwx mar mli mgr mgo mre mfr rest)) (hS : va_S A s.heap H locs) (hl : lv_has ls 6 [(0, .ref (ad 0)), (1, .int a1), (2, .int a2), (3, .int a3)]) : W p l e ({ frames := 8, cells := 0, slots := 0, locals := 186 }) s m args below meth c H locs 0 0 (MQ below (kQi g (kty cI cJ cZ) (wM cI cJ cZ ad o_mth o_mst mse mla o_mmo o_mrc o_mro o_mrt o_mrm o_mrl o_mrh o_mwk o_mwt o_mwm mwl mwh o_mwi o_mwc o_mwx o_mar mli o_mgr o_mgo o_mre o_mfr rest) A r) args s 0 0 A) (F0 m 0 ls []) := by
  obtain ⟨hx, hb, hr, hml, hown, hts, hlocks, hK, hA, hE⟩ := id K
  unfold F_M_table at hF
  refine lv_aload_n hx hb d_M_table_0 rfl (lv_at hl 0 rfl) ?_
  refine lv_iload_n hx hb d_M_table_1 rfl (lv_at hl 1 rfl) ?_
  obtain ⟨r_1, hG, hF⟩ := ob1_inv hF
  refine ksi K hP hD hS (c_M_isOwner l g (kty cI cJ cZ) (wM cI cJ cZ ad mth mst mse mla mmo mrc mro mrt mrm mrl mrh mwk mwt mwm mwl mwh mwi mwc mwx mar mli mgr mgo mre mfr rest) a1 r_1 hG) wm_757 wm_755 wm_756 wm_50 hd_M_isOwner rfl rfl ⟨Nat.le_of_ble_eq_true rfl, Nat.le_of_ble_eq_true rfl⟩ ⟨Nat.zero_le _, Nat.zero_le _⟩ hl.1 (rest := [.ref (ad 0)]) rfl (Nat.le_of_ble_eq_true rfl) d_M_table_2 (fun H locs hP hD hS => ?_)
  obtain ⟨J27, eJ27, hF⟩ := jn1_inv hF
  have hJ27 : ∀ (s_2 : Int32) (H : Heap) (locs : List Loc) (ls : Array Slot), J27 s_2 = some (r, o_mth, o_mst, o_mmo, o_mrc, o_mro, o_mrt, o_mrm, o_mrl, o_mrh, o_mwk, o_mwt, o_mwm, o_mwi, o_mwc, o_mwx, o_mar, o_mgr, o_mgo, o_mre, o_mfr) → va_P g kcl (wM cI cJ cZ ad mth mst mse mla mmo mrc mro mrt mrm mrl mrh mwk mwt mwm mwl mwh mwi mwc mwx mar mli mgr mgo mre mfr rest) H → va_D A (wM cI cJ cZ ad mth mst mse mla mmo mrc mro mrt mrm mrl mrh mwk mwt mwm mwl mwh mwi mwc mwx mar mli mgr mgo mre mfr rest) → va_S A s.heap H locs → lv_has ls 6 [(0, .ref (ad 0)), (1, .int a1), (2, .int a2), (3, .int a3)] → W p l e ({ frames := 8, cells := 0, slots := 0, locals := 186 }) s m args below meth c H locs 0 0 (MQ below (kQi g (kty cI cJ cZ) (wM cI cJ cZ ad o_mth o_mst mse mla o_mmo o_mrc o_mro o_mrt o_mrm o_mrl o_mrh o_mwk o_mwt o_mwm mwl mwh o_mwi o_mwc o_mwx o_mar mli o_mgr o_mgo o_mre o_mfr rest) A r) args s 0 0 A) (F0 m 27 ls [.int s_2, .ref (ad 0)]) := by
    intro s_2 H locs ls hF hP hD hS hl
    rw [eJ27] at hF
    refine lv_iload_n hx hb d_M_table_27 rfl (lv_at hl 1 rfl) ?_
    obtain ⟨r_3, hG, hF⟩ := ob1_inv hF
    refine ksi K hP hD hS (c_M_isOwner l g (kty cI cJ cZ) (wM cI cJ cZ ad mth mst mse mla mmo mrc mro mrt mrm mrl mrh mwk mwt mwm mwl mwh mwi mwc mwx mar mli mgr mgo mre mfr rest) a1 r_3 hG) wm_757 wm_755 wm_756 wm_50 hd_M_isOwner rfl rfl ⟨Nat.le_of_ble_eq_true rfl, Nat.le_of_ble_eq_true rfl⟩ ⟨Nat.zero_le _, Nat.zero_le _⟩ hl.1 (rest := [.int s_2, .ref (ad 0)]) rfl (Nat.le_of_ble_eq_true rfl) d_M_table_28 (fun H locs hP hD hS => ?_)
    obtain ⟨J49, eJ49, hF⟩ := jn2_inv hF
    have hJ49 : ∀ (s_4 : Int32) (s_5 : Int32) (H : Heap) (locs : List Loc) (ls : Array Slot), J49 s_4 s_5 = some (r, o_mth, o_mst, o_mmo, o_mrc, o_mro, o_mrt, o_mrm, o_mrl, o_mrh, o_mwk, o_mwt, o_mwm, o_mwi, o_mwc, o_mwx, o_mar, o_mgr, o_mgo, o_mre, o_mfr) → va_P g kcl (wM cI cJ cZ ad mth mst mse mla mmo mrc mro mrt mrm mrl mrh mwk mwt mwm mwl mwh mwi mwc mwx mar mli mgr mgo mre mfr rest) H → va_D A (wM cI cJ cZ ad mth mst mse mla mmo mrc mro mrt mrm mrl mrh mwk mwt mwm mwl mwh mwi mwc mwx mar mli mgr mgo mre mfr rest) → va_S A s.heap H locs → lv_has ls 6 [(0, .ref (ad 0)), (1, .int a1), (2, .int a2), (3, .int a3)] → W p l e ({ frames := 8, cells := 0, slots := 0, locals := 186 }) s m args below meth c H locs 0 0 (MQ below (kQi g (kty cI cJ cZ) (wM cI cJ cZ ad o_mth o_mst mse mla o_mmo o_mrc o_mro o_mrt o_mrm o_mrl o_mrh o_mwk o_mwt o_mwm mwl mwh o_mwi o_mwc o_mwx o_mar mli o_mgr o_mgo o_mre o_mfr rest) A r) args s 0 0 A) (F0 m 49 ls [.int s_5, .int s_4, .ref (ad 0)]) := by
      intro s_4 s_5 H locs ls hF hP hD hS hl
      rw [eJ49] at hF
      refine lv_iconst (v := 0) hx hb d_M_table_49 (by decide) ?_
      obtain ⟨r_6, mth_7, hG, hF⟩ := ob2_inv hF
      refine kci K hP hD hS (c_M_refused l g cI cJ cZ ad mth mst mse mla mmo mrc mro mrt mrm mrl mrh mwk mwt mwm mwl mwh mwi mwc mwx mar mli mgr mgo mre mfr rest s_4 s_5 0 r_6 mth_7 hG) wm_761 wm_758 wm_760 wm_20 wm_50 hd_M_refused rfl rfl ⟨Nat.le_of_ble_eq_true rfl, Nat.le_of_ble_eq_true rfl⟩ ⟨Nat.zero_le _, Nat.zero_le _⟩ 3 0 rfl rfl rfl hl.1 (rest := []) rfl (Nat.le_of_ble_eq_true rfl) d_M_table_50 (fun H locs hP hD hS => ?_)
      refine lv_if_eq (tgt := 58) hx hb d_M_table_53 (by decide) (fun hc_8 => ?_) (fun hc_8 => ?_)
      · have hF := it_t hF hc_8
        refine lv_aload_n hx hb d_M_table_58 rfl (lv_at hl 0 rfl) ?_
        refine lv_iconst (v := 0) hx hb d_M_table_59 (by decide) ?_
        refine va_put (D := g) (ci := 3) (v := .int 0) (ty := .int) (C := kR3) (T := kT3) (N := 25) hx hb hts kw3 kt3 ko3 kn3 hown hK hP hD hS 0 rfl rfl 21 (by decide) (hts _ wm_692) (fun _ h9 => h9) rfl (by decide +kernel) rfl rfl (Nat.le_of_ble_eq_true rfl) d_M_table_60 (fun H locs hP hD hS => ?_)
        have hP : va_P g kcl (wM cI cJ cZ ad mth_7 mst mse mla mmo mrc mro mrt mrm mrl mrh mwk mwt mwm mwl mwh mwi mwc mwx mar mli 0 mgo mre mfr rest) H := hP
        have hD : va_D A (wM cI cJ cZ ad mth_7 mst mse mla mmo mrc mro mrt mrm mrl mrh mwk mwt mwm mwl mwh mwi mwc mwx mar mli 0 mgo mre mfr rest) := hD
        refine lv_aload_n hx hb d_M_table_63 rfl (lv_at hl 0 rfl) ?_
        refine va_get (D := g) (ci := 3) (v := .ref (ad 3)) (C := kR3) (T := kT3) (N := 25) hx hb hts kw3 hown hK hP 0 rfl rfl 4 (by decide) (hts _ wm_675) (fun _ h9 => h9) rfl d_M_table_64 ?_
        refine lv_bipush (v := 16) hx hb d_M_table_67 (by decide) ?_
        refine lv_iload_n hx hb d_M_table_69 rfl (lv_at hl 1 rfl) ?_
        refine lv_imul hx hb d_M_table_70 ?_
        refine lv_iload_n hx hb d_M_table_71 rfl (lv_at hl 2 rfl) ?_
        refine lv_iadd hx hb d_M_table_72 ?_
        obtain ⟨hg_9, hF⟩ := gd_inv hF
        refine va_iald hx hb hK hP 3 0 rfl rfl hg_9 d_M_table_73 ?_
        refine lv_istore (lv' := [(4, .int (mmo ((16 * a1) + a2).toNatClampNeg)), (0, .ref (ad 0)), (1, .int a1), (2, .int a2), (3, .int a3)]) hx hb d_M_table_74 hl (by decide) rfl (fun ls hl => ?_)
        refine lv_aload_n hx hb d_M_table_76 rfl (lv_at hl 1 rfl) ?_
        refine lv_iload_n hx hb d_M_table_77 rfl (lv_at hl 2 rfl) ?_
        refine lv_iload_n hx hb d_M_table_78 rfl (lv_at hl 3 rfl) ?_
        refine lv_iload_n hx hb d_M_table_79 rfl (lv_at hl 4 rfl) ?_
        obtain ⟨r_10, hG, hF⟩ := ob1_inv hF
        refine kci K hP hD hS (c_M_joinedWith l g cI cJ cZ ad mth_7 mst mse mla mmo mrc mro mrt mrm mrl mrh mwk mwt mwm mwl mwh mwi mwc mwx mar mli 0 mgo mre mfr rest a1 a2 a3 r_10 hG) wm_775 wm_772 wm_774 wm_21 wm_50 hd_M_joinedWith rfl rfl ⟨Nat.le_of_ble_eq_true rfl, Nat.le_of_ble_eq_true rfl⟩ ⟨Nat.zero_le _, Nat.zero_le _⟩ 3 0 rfl rfl rfl hl.1 (rest := []) rfl (Nat.le_of_ble_eq_true rfl) d_M_table_80 (fun H locs hP hD hS => ?_)
        refine lv_istore (lv' := [(5, .int r_10), (4, .int (mmo ((16 * a1) + a2).toNatClampNeg)), (0, .ref (ad 0)), (1, .int a1), (2, .int a2), (3, .int a3)]) hx hb d_M_table_83 hl (by decide) rfl (fun ls hl => ?_)
        refine lv_iload hx hb d_M_table_85 (lv_at hl 0 rfl) ?_
        refine lv_iload hx hb d_M_table_87 (lv_at hl 1 rfl) ?_
        refine lv_icmp_ne (tgt := 94) hx hb d_M_table_89 (by decide) (fun hc_11 => ?_) (fun hc_11 => ?_)
        · have hF := it_f hF hc_11
          refine lv_iload hx hb d_M_table_94 (lv_at hl 1 rfl) ?_
          obtain ⟨J111, eJ111, hF⟩ := jn0_inv hF
          have hJ111 : ∀  (H : Heap) (locs : List Loc) (ls : Array Slot), J111  = some (r, o_mth, o_mst, o_mmo, o_mrc, o_mro, o_mrt, o_mrm, o_mrl, o_mrh, o_mwk, o_mwt, o_mwm, o_mwi, o_mwc, o_mwx, o_mar, o_mgr, o_mgo, o_mre, o_mfr) → va_P g kcl (wM cI cJ cZ ad mth_7 mst mse mla mmo mrc mro mrt mrm mrl mrh mwk mwt mwm mwl mwh mwi mwc mwx mar mli 0 mgo mre mfr rest) H → va_D A (wM cI cJ cZ ad mth_7 mst mse mla mmo mrc mro mrt mrm mrl mrh mwk mwt mwm mwl mwh mwi mwc mwx mar mli 0 mgo mre mfr rest) → va_S A s.heap H locs → lv_has ls 6 [(0, .ref (ad 0)), (1, .int a1), (2, .int a2), (4, .int (mmo ((16 * a1) + a2).toNatClampNeg)), (5, .int r_10)] → W p l e ({ frames := 8, cells := 0, slots := 0, locals := 186 }) s m args below meth c H locs 0 0 (MQ below (kQi g (kty cI cJ cZ) (wM cI cJ cZ ad o_mth o_mst mse mla o_mmo o_mrc o_mro o_mrt o_mrm o_mrl o_mrh o_mwk o_mwt o_mwm mwl mwh o_mwi o_mwc o_mwx o_mar mli o_mgr o_mgo o_mre o_mfr rest) A r) args s 0 0 A) (F0 m 111 ls []) := by
            intro  H locs ls hF hP hD hS hl
            rw [eJ111] at hF
            refine lv_aload_n hx hb d_M_table_111 rfl (lv_at hl 0 rfl) ?_
            refine va_get (D := g) (ci := 3) (v := .ref (ad 9)) (C := kR3) (T := kT3) (N := 25) hx hb hts kw3 hown hK hP 0 rfl rfl 11 (by decide) (hts _ wm_682) (fun _ h9 => h9) rfl d_M_table_112 ?_
            refine lv_iload_n hx hb d_M_table_115 rfl (lv_at hl 1 rfl) ?_
            refine lv_iconst (v := 0) hx hb d_M_table_116 (by decide) ?_
            obtain ⟨hg_12, hF⟩ := gd_inv hF
            refine va_iast hx hb hK hP hD hS 9 0 rfl rfl hg_12 d_M_table_117 (fun H locs hP hD hS => ?_)
            have hP : va_P g kcl (wM cI cJ cZ ad mth_7 mst mse mla mmo mrc mro mrt mrm mrl mrh (upd mwk a1.toNatClampNeg 0) mwt mwm mwl mwh mwi mwc mwx mar mli 0 mgo mre mfr rest) H := hP
            have hD : va_D A (wM cI cJ cZ ad mth_7 mst mse mla mmo mrc mro mrt mrm mrl mrh (upd mwk a1.toNatClampNeg 0) mwt mwm mwl mwh mwi mwc mwx mar mli 0 mgo mre mfr rest) := hD
            refine lv_aload_n hx hb d_M_table_118 rfl (lv_at hl 0 rfl) ?_
            refine va_get (D := g) (ci := 3) (v := .ref (ad 10)) (C := kR3) (T := kT3) (N := 25) hx hb hts kw3 hown hK hP 0 rfl rfl 12 (by decide) (hts _ wm_683) (fun _ h9 => h9) rfl d_M_table_119 ?_
            refine lv_iload_n hx hb d_M_table_122 rfl (lv_at hl 1 rfl) ?_
            refine lv_iload_n hx hb d_M_table_123 rfl (lv_at hl 2 rfl) ?_
            obtain ⟨hg_13, hF⟩ := gd_inv hF
            refine va_iast hx hb hK hP hD hS 10 0 rfl rfl hg_13 d_M_table_124 (fun H locs hP hD hS => ?_)
            have hP : va_P g kcl (wM cI cJ cZ ad mth_7 mst mse mla mmo mrc mro mrt mrm mrl mrh (upd mwk a1.toNatClampNeg 0) (upd mwt a1.toNatClampNeg a2) mwm mwl mwh mwi mwc mwx mar mli 0 mgo mre mfr rest) H := hP
            have hD : va_D A (wM cI cJ cZ ad mth_7 mst mse mla mmo mrc mro mrt mrm mrl mrh (upd mwk a1.toNatClampNeg 0) (upd mwt a1.toNatClampNeg a2) mwm mwl mwh mwi mwc mwx mar mli 0 mgo mre mfr rest) := hD
            refine lv_aload_n hx hb d_M_table_125 rfl (lv_at hl 0 rfl) ?_
            refine va_get (D := g) (ci := 3) (v := .ref (ad 11)) (C := kR3) (T := kT3) (N := 25) hx hb hts kw3 hown hK hP 0 rfl rfl 13 (by decide) (hts _ wm_684) (fun _ h9 => h9) rfl d_M_table_126 ?_
            refine lv_iload_n hx hb d_M_table_129 rfl (lv_at hl 1 rfl) ?_
            refine lv_iload hx hb d_M_table_130 (lv_at hl 4 rfl) ?_
            obtain ⟨hg_14, hF⟩ := gd_inv hF
            refine va_iast hx hb hK hP hD hS 11 0 rfl rfl hg_14 d_M_table_132 (fun H locs hP hD hS => ?_)
            have hP : va_P g kcl (wM cI cJ cZ ad mth_7 mst mse mla mmo mrc mro mrt mrm mrl mrh (upd mwk a1.toNatClampNeg 0) (upd mwt a1.toNatClampNeg a2) (upd mwm a1.toNatClampNeg r_10) mwl mwh mwi mwc mwx mar mli 0 mgo mre mfr rest) H := hP
            have hD : va_D A (wM cI cJ cZ ad mth_7 mst mse mla mmo mrc mro mrt mrm mrl mrh (upd mwk a1.toNatClampNeg 0) (upd mwt a1.toNatClampNeg a2) (upd mwm a1.toNatClampNeg r_10) mwl mwh mwi mwc mwx mar mli 0 mgo mre mfr rest) := hD
            refine lv_aload_n hx hb d_M_table_133 rfl (lv_at hl 0 rfl) ?_
            refine lv_iload_n hx hb d_M_table_134 rfl (lv_at hl 1 rfl) ?_
            refine lv_iload hx hb d_M_table_135 (lv_at hl 3 rfl) ?_
            obtain ⟨J145, eJ145, hF⟩ := jn2_inv hF
            have hJ145 : ∀ (s_15 : Int32) (s_16 : Int32) (H : Heap) (locs : List Loc) (ls : Array Slot), J145 s_15 s_16 = some (r, o_mth, o_mst, o_mmo, o_mrc, o_mro, o_mrt, o_mrm, o_mrl, o_mrh, o_mwk, o_mwt, o_mwm, o_mwi, o_mwc, o_mwx, o_mar, o_mgr, o_mgo, o_mre, o_mfr) → va_P g kcl (wM cI cJ cZ ad mth_7 mst mse mla mmo mrc mro mrt mrm mrl mrh (upd mwk a1.toNatClampNeg 0) (upd mwt a1.toNatClampNeg a2) (upd mwm a1.toNatClampNeg r_10) mwl mwh mwi mwc mwx mar mli 0 mgo mre mfr rest) H → va_D A (wM cI cJ cZ ad mth_7 mst mse mla mmo mrc mro mrt mrm mrl mrh (upd mwk a1.toNatClampNeg 0) (upd mwt a1.toNatClampNeg a2) (upd mwm a1.toNatClampNeg r_10) mwl mwh mwi mwc mwx mar mli 0 mgo mre mfr rest) → va_S A s.heap H locs → lv_has ls 6 [] → W p l e ({ frames := 8, cells := 0, slots := 0, locals := 186 }) s m args below meth c H locs 0 0 (MQ below (kQi g (kty cI cJ cZ) (wM cI cJ cZ ad o_mth o_mst mse mla o_mmo o_mrc o_mro o_mrt o_mrm o_mrl o_mrh o_mwk o_mwt o_mwm mwl mwh o_mwi o_mwc o_mwx o_mar mli o_mgr o_mgo o_mre o_mfr rest) A r) args s 0 0 A) (F0 m 145 ls [.int s_16, .int s_15, .ref (ad 0)]) := by
              intro s_15 s_16 H locs ls hF hP hD hS hl
              rw [eJ145] at hF
              obtain ⟨r_17, mst_18, mmo_19, mrc_20, mro_21, mrt_22, mrm_23, mrl_24, mrh_25, mwi_26, mwc_27, mwx_28, mar_29, mgr_30, mgo_31, mre_32, mfr_33, hG, hF⟩ := ob17_inv hF
              refine kci K hP hD hS (c_M_ask l g cI cJ cZ ad mth_7 mst mse mla mmo mrc mro mrt mrm mrl mrh (upd mwk a1.toNatClampNeg 0) (upd mwt a1.toNatClampNeg a2) (upd mwm a1.toNatClampNeg r_10) mwl mwh mwi mwc mwx mar mli 0 mgo mre mfr rest s_15 s_16 r_17 mst_18 mmo_19 mrc_20 mro_21 mrt_22 mrm_23 mrl_24 mrh_25 mwi_26 mwc_27 mwx_28 mar_29 mgr_30 mgo_31 mre_32 mfr_33 hG) wm_792 wm_789 wm_791 wm_23 wm_50 hd_M_ask rfl rfl ⟨Nat.le_of_ble_eq_true rfl, Nat.le_of_ble_eq_true rfl⟩ ⟨Nat.zero_le _, Nat.zero_le _⟩ 3 0 rfl rfl rfl hl.1 (rest := []) rfl (Nat.le_of_ble_eq_true rfl) d_M_table_145 (fun H locs hP hD hS => ?_)
              cases hF
              exact kri K hP hD hS d_M_table_148 rfl
            refine lv_if_lt (tgt := 144) hx hb d_M_table_137 (by decide) (fun hc_34 => ?_) (fun hc_34 => ?_)
            · have hF := it_t hF hc_34
              refine lv_iconst (v := 0) hx hb d_M_table_144 (by decide) ?_
              exact hJ145 _ _ H locs ls hF hP hD hS (lv_sub hl [] rfl)
            · have hF := it_f hF hc_34
              refine lv_iconst (v := 1) hx hb d_M_table_140 (by decide) ?_
              refine lv_goto (tgt := 145) hx hb d_M_table_141 (by decide) ?_
              exact hJ145 _ _ H locs ls hF hP hD hS (lv_sub hl [] rfl)
          refine lv_if_ge (tgt := 111) hx hb d_M_table_96 (by decide) (fun hc_35 => ?_) (fun hc_35 => ?_)
          · have hF := it_t hF hc_35
            exact hJ111  H locs ls hF hP hD hS (lv_sub hl [2, 3, 4, 1, 0] rfl)
          · have hF := it_f hF hc_35
            refine lv_aload_n hx hb d_M_table_99 rfl (lv_at hl 2 rfl) ?_
            obtain ⟨r_36, hG, hF⟩ := ob1_inv hF
            refine kci K hP hD hS (c_M_counted l g cI cJ cZ ad mth_7 mst mse mla mmo mrc mro mrt mrm mrl mrh mwk mwt mwm mwl mwh mwi mwc mwx mar mli 0 mgo mre mfr rest  r_36 hG) wm_788 wm_785 wm_787 wm_22 wm_50 hd_M_counted rfl rfl ⟨Nat.le_of_ble_eq_true rfl, Nat.le_of_ble_eq_true rfl⟩ ⟨Nat.zero_le _, Nat.zero_le _⟩ 3 0 rfl rfl rfl hl.1 (rest := []) rfl (Nat.le_of_ble_eq_true rfl) d_M_table_100 (fun H locs hP hD hS => ?_)
            refine lv_sipush (v := 256) hx hb d_M_table_103 (by decide) ?_
            refine lv_icmp_lt (tgt := 111) hx hb d_M_table_106 (by decide) (fun hc_37 => ?_) (fun hc_37 => ?_)
            · have hF := it_t hF hc_37
              exact hJ111  H locs ls hF hP hD hS (lv_sub hl [2, 3, 4, 1, 0] rfl)
            · have hF := it_f hF hc_37
              refine lv_iconst (v := 3) hx hb d_M_table_109 (by decide) ?_
              cases hF
              exact kri K hP hD hS d_M_table_110 rfl
        · have hF := it_t hF hc_11
          refine lv_iconst (v := 0) hx hb d_M_table_92 (by decide) ?_
          cases hF
          exact kri K hP hD hS d_M_table_93 rfl
      · have hF := it_f hF hc_8
        refine lv_iconst (v := 0) hx hb d_M_table_56 (by decide) ?_
        cases hF
        exact kri K hP hD hS d_M_table_57 rfl
    obtain ⟨J48, eJ48, hF⟩ := jn1_inv hF
    have hJ48 : ∀ (s_38 : Int32) (H : Heap) (locs : List Loc) (ls : Array Slot), J48 s_38 = some (r, o_mth, o_mst, o_mmo, o_mrc, o_mro, o_mrt, o_mrm, o_mrl, o_mrh, o_mwk, o_mwt, o_mwm, o_mwi, o_mwc, o_mwx, o_mar, o_mgr, o_mgo, o_mre, o_mfr) → va_P g kcl (wM cI cJ cZ ad mth mst mse mla mmo mrc mro mrt mrm mrl mrh mwk mwt mwm mwl mwh mwi mwc mwx mar mli mgr mgo mre mfr rest) H → va_D A (wM cI cJ cZ ad mth mst mse mla mmo mrc mro mrt mrm mrl mrh mwk mwt mwm mwl mwh mwi mwc mwx mar mli mgr mgo mre mfr rest) → va_S A s.heap H locs → lv_has ls 6 [(0, .ref (ad 0)), (1, .int a1), (2, .int a2), (3, .int a3)] → W p l e ({ frames := 8, cells := 0, slots := 0, locals := 186 }) s m args below meth c H locs 0 0 (MQ below (kQi g (kty cI cJ cZ) (wM cI cJ cZ ad o_mth o_mst mse mla o_mmo o_mrc o_mro o_mrt o_mrm o_mrl o_mrh o_mwk o_mwt o_mwm mwl mwh o_mwi o_mwc o_mwx o_mar mli o_mgr o_mgo o_mre o_mfr rest) A r) args s 0 0 A) (F0 m 48 ls [.int s_38, .ref (ad 0)]) := by
      intro s_38 H locs ls hF hP hD hS hl
      rw [eJ48] at hF
      refine lv_iconst (v := 0) hx hb d_M_table_48 (by decide) ?_
      exact hJ49 _ _ H locs ls hF hP hD hS (lv_sub hl [0, 1, 2, 3] rfl)
    refine lv_if_eq (tgt := 48) hx hb d_M_table_31 (by decide) (fun hc_39 => ?_) (fun hc_39 => ?_)
    · have hF := it_t hF hc_39
      exact hJ48 _ H locs ls hF hP hD hS (lv_sub hl [0, 1, 2, 3] rfl)
    · have hF := it_f hF hc_39
      refine lv_aload_n hx hb d_M_table_34 rfl (lv_at hl 0 rfl) ?_
      refine va_get (D := g) (ci := 3) (v := .ref (ad 1)) (C := kR3) (T := kT3) (N := 25) hx hb hts kw3 hown hK hP 0 rfl rfl 1 (by decide) (hts _ wm_672) (fun _ h9 => h9) rfl d_M_table_35 ?_
      refine lv_iload_n hx hb d_M_table_38 rfl (lv_at hl 1 rfl) ?_
      obtain ⟨hg_40, hF⟩ := gd_inv hF
      refine va_iald hx hb hK hP 1 0 rfl rfl hg_40 d_M_table_39 ?_
      refine lv_iconst (v := 1) hx hb d_M_table_40 (by decide) ?_
      refine lv_icmp_eq (tgt := 48) hx hb d_M_table_41 (by decide) (fun hc_41 => ?_) (fun hc_41 => ?_)
      · have hF := it_t hF hc_41
        exact hJ48 _ H locs ls hF hP hD hS (lv_sub hl [0, 1, 2, 3] rfl)
      · have hF := it_f hF hc_41
        refine lv_iconst (v := 1) hx hb d_M_table_44 (by decide) ?_
        refine lv_goto (tgt := 49) hx hb d_M_table_45 (by decide) ?_
        exact hJ49 _ _ H locs ls hF hP hD hS (lv_sub hl [0, 1, 2, 3] rfl)
  obtain ⟨J22, eJ22, hF⟩ := jn0_inv hF
  have hJ22 : ∀  (H : Heap) (locs : List Loc) (ls : Array Slot), J22  = some (r, o_mth, o_mst, o_mmo, o_mrc, o_mro, o_mrt, o_mrm, o_mrl, o_mrh, o_mwk, o_mwt, o_mwm, o_mwi, o_mwc, o_mwx, o_mar, o_mgr, o_mgo, o_mre, o_mfr) → va_P g kcl (wM cI cJ cZ ad mth mst mse mla mmo mrc mro mrt mrm mrl mrh mwk mwt mwm mwl mwh mwi mwc mwx mar mli mgr mgo mre mfr rest) H → va_D A (wM cI cJ cZ ad mth mst mse mla mmo mrc mro mrt mrm mrl mrh mwk mwt mwm mwl mwh mwi mwc mwx mar mli mgr mgo mre mfr rest) → va_S A s.heap H locs → lv_has ls 6 [(0, .ref (ad 0)), (1, .int a1), (2, .int a2), (3, .int a3)] → W p l e ({ frames := 8, cells := 0, slots := 0, locals := 186 }) s m args below meth c H locs 0 0 (MQ below (kQi g (kty cI cJ cZ) (wM cI cJ cZ ad o_mth o_mst mse mla o_mmo o_mrc o_mro o_mrt o_mrm o_mrl o_mrh o_mwk o_mwt o_mwm mwl mwh o_mwi o_mwc o_mwx o_mar mli o_mgr o_mgo o_mre o_mfr rest) A r) args s 0 0 A) (F0 m 22 ls [.ref (ad 0)]) := by
    intro  H locs ls hF hP hD hS hl
    rw [eJ22] at hF
    refine lv_iconst (v := 1) hx hb d_M_table_22 (by decide) ?_
    refine lv_goto (tgt := 27) hx hb d_M_table_23 (by decide) ?_
    exact hJ27 _ H locs ls hF hP hD hS (lv_sub hl [0, 1, 2, 3] rfl)
  refine lv_if_eq (tgt := 22) hx hb d_M_table_5 (by decide) (fun hc_42 => ?_) (fun hc_42 => ?_)
  · have hF := it_t hF hc_42
    exact hJ22  H locs ls hF hP hD hS (lv_sub hl [0, 1, 2, 3] rfl)
  · have hF := it_f hF hc_42
    refine lv_iload_n hx hb d_M_table_8 rfl (lv_at hl 2 rfl) ?_
    obtain ⟨r_43, hG, hF⟩ := ob1_inv hF
    refine ksi K hP hD hS (c_M_isTable l g (kty cI cJ cZ) (wM cI cJ cZ ad mth mst mse mla mmo mrc mro mrt mrm mrl mrh mwk mwt mwm mwl mwh mwi mwc mwx mar mli mgr mgo mre mfr rest) a2 r_43 hG) wm_768 wm_766 wm_767 wm_50 hd_M_isTable rfl rfl ⟨Nat.le_of_ble_eq_true rfl, Nat.le_of_ble_eq_true rfl⟩ ⟨Nat.zero_le _, Nat.zero_le _⟩ hl.1 (rest := [.ref (ad 0)]) rfl (Nat.le_of_ble_eq_true rfl) d_M_table_9 (fun H locs hP hD hS => ?_)
    refine lv_if_eq (tgt := 22) hx hb d_M_table_12 (by decide) (fun hc_44 => ?_) (fun hc_44 => ?_)
    · have hF := it_t hF hc_44
      exact hJ22  H locs ls hF hP hD hS (lv_sub hl [0, 1, 2, 3] rfl)
    · have hF := it_f hF hc_44
      refine lv_iload_n hx hb d_M_table_15 rfl (lv_at hl 3 rfl) ?_
      obtain ⟨r_45, hG, hF⟩ := ob1_inv hF
      refine ksi K hP hD hS (c_M_isMode l g (kty cI cJ cZ) (wM cI cJ cZ ad mth mst mse mla mmo mrc mro mrt mrm mrl mrh mwk mwt mwm mwl mwh mwi mwc mwx mar mli mgr mgo mre mfr rest) a3 r_45 hG) wm_771 wm_769 wm_770 wm_50 hd_M_isMode rfl rfl ⟨Nat.le_of_ble_eq_true rfl, Nat.le_of_ble_eq_true rfl⟩ ⟨Nat.zero_le _, Nat.zero_le _⟩ hl.1 (rest := [.ref (ad 0)]) rfl (Nat.le_of_ble_eq_true rfl) d_M_table_16 (fun H locs hP hD hS => ?_)
      refine lv_if_ne (tgt := 26) hx hb d_M_table_19 (by decide) (fun hc_46 => ?_) (fun hc_46 => ?_)
      · have hF := it_f hF hc_46
        refine lv_iconst (v := 0) hx hb d_M_table_26 (by decide) ?_
        exact hJ27 _ H locs ls hF hP hD hS (lv_sub hl [0, 1, 2, 3] rfl)
      · have hF := it_t hF hc_46
        exact hJ22  H locs ls hF hP hD hS (lv_sub hl [0, 1, 2, 3] rfl)
theorem c_M_table (l : Launch) (g : va_G) (cI cJ cZ : ClassId) (ad : Nat → Nat) (mth : Int32) (mst : Nat → Int32) (mse : Nat → Int32) (mla : Int32) (mmo : Nat → Int32) (mrc : Int32) (mro : Nat → Int32) (mrt : Nat → Int32) (mrm : Nat → Int32) (mrl : Nat → Int64) (mrh : Nat → Int64) (mwk : Nat → Int32) (mwt : Nat → Int32) (mwm : Nat → Int32) (mwl : Nat → Int64) (mwh : Nat → Int64) (mwi : Nat → Int32) (mwc : Nat → Int32) (mwx : Nat → Int32) (mar : Int32) (mli : Int32) (mgr : Int32) (mgo : Nat → Int32) (mre : Nat → Int32) (mfr : Int32) (rest : va_W) (a1 : Int32) (a2 : Int32) (a3 : Int32) (r : Int32) (o_mth : Int32) (o_mst : Nat → Int32) (o_mmo : Nat → Int32) (o_mrc : Int32) (o_mro : Nat → Int32) (o_mrt : Nat → Int32) (o_mrm : Nat → Int32) (o_mrl : Nat → Int64) (o_mrh : Nat → Int64) (o_mwk : Nat → Int32) (o_mwt : Nat → Int32) (o_mwm : Nat → Int32) (o_mwi : Nat → Int32) (o_mwc : Nat → Int32) (o_mwx : Nat → Int32) (o_mar : Int32) (o_mgr : Int32) (o_mgo : Nat → Int32) (o_mre : Nat → Int32) (o_mfr : Int32) (hF : F_M_table mth mst mse mmo mrc mro mrt mrm mrl mrh mwk mwt mwm mwl mwh mwi mwc mwx mar mgr mgo mre mfr a1 a2 a3 = some (r, o_mth, o_mst, o_mmo, o_mrc, o_mro, o_mrt, o_mrm, o_mrl, o_mrh, o_mwk, o_mwt, o_mwm, o_mwi, o_mwc, o_mwx, o_mar, o_mgr, o_mgo, o_mre, o_mfr)) : Ci l y_M_table prog_6_method_30_code 6 (some .int) ({ frames := 8, cells := 0, slots := 0, locals := 186 }) [.ref (ad 0), .int a1, .int a2, .int a3] g (kty cI cJ cZ) (wM cI cJ cZ ad mth mst mse mla mmo mrc mro mrt mrm mrl mrh mwk mwt mwm mwl mwh mwi mwc mwx mar mli mgr mgo mre mfr rest) (wM cI cJ cZ ad o_mth o_mst mse mla o_mmo o_mrc o_mro o_mrt o_mrm o_mrl o_mrh o_mwk o_mwt o_mwm mwl mwh o_mwi o_mwc o_mwx o_mar mli o_mgr o_mgo o_mre o_mfr rest) r :=
  Ci.of (by decide) (Nat.le_of_ble_eq_true rfl) (fun p e s m below meth c A ls K hP hD hS hl => t_M_table K mth mst mse mla mmo mrc mro mrt mrm mrl mrh mwk mwt mwm mwl mwh mwi mwc mwx mar mli mgr mgo mre mfr a1 a2 a3 r o_mth o_mst o_mmo o_mrc o_mro o_mrt o_mrm o_mrl o_mrh o_mwk o_mwt o_mwm o_mwi o_mwc o_mwx o_mar o_mgr o_mgo o_mre o_mfr hF hP hD hS hl)
def F_M_rangesOf_L5 (mrc : Int32) (mro : Nat → Int32) (mrt : Nat → Int32) (v1 : Int32) (v2 : Int32) : Nat → Int32 → Int32 → Option (Int32)
  | 0, _, _ => none
  | n + 1, v3, v4 => if mrc ≤ v4 then some v3 else gd (v4 < 0 ∨ 256 ≤ v4.toNatClampNeg) (if (mro v4.toNatClampNeg) = v1 then gd (v4 < 0 ∨ 256 ≤ v4.toNatClampNeg) (if (mrt v4.toNatClampNeg) = v2 then F_M_rangesOf_L5 mrc mro mrt v1 v2 n (v3 + 1) (v4 + 1) else F_M_rangesOf_L5 mrc mro mrt v1 v2 n v3 (v4 + 1)) else F_M_rangesOf_L5 mrc mro mrt v1 v2 n v3 (v4 + 1))
def F_M_rangesOf (mrc : Int32) (mro : Nat → Int32) (mrt : Nat → Int32) (a1 : Int32) (a2 : Int32) : Option (Int32) :=
  ob1 (F_M_rangesOf_L5 mrc mro mrt a1 a2 fu 0 0) (fun v3_6 => some v3_6)
set_option maxHeartbeats 4000000 in
set_option maxRecDepth 100000 in
theorem t_M_rangesOf_L5 {p : Program} {l : Launch} {e : Env} {s : State} {m : MethodId} {args : Array Value} {below : List Frame} {meth : Method} {c : Code} {A : Nat → Prop} {g : va_G} {cI cJ cZ : ClassId} {ad : Nat → Nat} {rest : va_W} (K : kX p s m args meth c "LockTableModel" prog_6_method_31_code 5 (some .int) A g (kty cI cJ cZ)) {Q : State → Prop} (mth : Int32) (mst : Nat → Int32) (mse : Nat → Int32) (mla : Int32) (mmo : Nat → Int32) (mrc : Int32) (mro : Nat → Int32) (mrt : Nat → Int32) (mrm : Nat → Int32) (mrl : Nat → Int64) (mrh : Nat → Int64) (mwk : Nat → Int32) (mwt : Nat → Int32) (mwm : Nat → Int32) (mwl : Nat → Int64) (mwh : Nat → Int64) (mwi : Nat → Int32) (mwc : Nat → Int32) (mwx : Nat → Int32) (mar : Int32) (mli : Int32) (mgr : Int32) (mgo : Nat → Int32) (mre : Nat → Int32) (mfr : Int32) (v1 : Int32) (v2 : Int32) : ∀ (n : Nat) (v3 : Int32) (v4 : Int32) (o_v3 : Int32) (H : Heap) (locs : List Loc) (ls : Array Slot), F_M_rangesOf_L5 mrc mro mrt v1 v2 n v3 v4 = some o_v3 → va_P g kcl (wM cI cJ cZ ad mth mst mse mla mmo mrc mro mrt mrm mrl mrh mwk mwt mwm mwl mwh mwi mwc mwx mar mli mgr mgo mre mfr rest) H → va_D A (wM cI cJ cZ ad mth mst mse mla mmo mrc mro mrt mrm mrl mrh mwk mwt mwm mwl mwh mwi mwc mwx mar mli mgr mgo mre mfr rest) → va_S A s.heap H locs → lv_has ls 5 [(0, .ref (ad 0)), (1, .int v1), (2, .int v2), (3, .int v3), (4, .int v4)] → (∀ (H : Heap) (locs : List Loc) (ls : Array Slot), va_P g kcl (wM cI cJ cZ ad mth mst mse mla mmo mrc mro mrt mrm mrl mrh mwk mwt mwm mwl mwh mwi mwc mwx mar mli mgr mgo mre mfr rest) H → va_D A (wM cI cJ cZ ad mth mst mse mla mmo mrc mro mrt mrm mrl mrh mwk mwt mwm mwl mwh mwi mwc mwx mar mli mgr mgo mre mfr rest) → va_S A s.heap H locs → lv_has ls 5 [(3, .int o_v3)] → W p l e ({ frames := 0, cells := 0, slots := 0, locals := 0 }) s m args below meth c H locs 0 0 Q (F0 m 50 ls [])) → W p l e ({ frames := 0, cells := 0, slots := 0, locals := 0 }) s m args below meth c H locs 0 0 Q (F0 m 5 ls []) := by
  obtain ⟨hx, hb, hr, hml, hown, hts, hlocks, hK, hA, hE⟩ := id K
  intro n
  induction n with
  | zero =>
    intro v3 v4 o_v3 H locs ls hF
    rw [F_M_rangesOf_L5] at hF
    cases hF
  | succ n ih =>
    intro v3 v4 o_v3 H locs ls hF hP hD hS hl hQ
    rw [F_M_rangesOf_L5] at hF
    refine lv_iload hx hb d_M_rangesOf_5 (lv_at hl 4 rfl) ?_
    refine lv_aload_n hx hb d_M_rangesOf_7 rfl (lv_at hl 0 rfl) ?_
    refine va_get (D := g) (ci := 3) (v := .int mrc) (C := kR3) (T := kT3) (N := 25) hx hb hts kw3 hown hK hP 0 rfl rfl 5 (by decide) (hts _ wm_676) (fun _ h9 => h9) rfl d_M_rangesOf_8 ?_
    refine lv_icmp_ge (tgt := 50) hx hb d_M_rangesOf_11 (by decide) (fun hc_1 => ?_) (fun hc_1 => ?_)
    · have hF := it_t hF hc_1
      cases hF
      exact hQ H locs ls hP hD hS (lv_sub hl [3] rfl)
    · have hF := it_f hF hc_1
      refine lv_aload_n hx hb d_M_rangesOf_14 rfl (lv_at hl 0 rfl) ?_
      refine va_get (D := g) (ci := 3) (v := .ref (ad 4)) (C := kR3) (T := kT3) (N := 25) hx hb hts kw3 hown hK hP 0 rfl rfl 6 (by decide) (hts _ wm_677) (fun _ h9 => h9) rfl d_M_rangesOf_15 ?_
      refine lv_iload hx hb d_M_rangesOf_18 (lv_at hl 4 rfl) ?_
      obtain ⟨hg_2, hF⟩ := gd_inv hF
      refine va_iald hx hb hK hP 4 0 rfl rfl hg_2 d_M_rangesOf_20 ?_
      refine lv_iload_n hx hb d_M_rangesOf_21 rfl (lv_at hl 1 rfl) ?_
      refine lv_icmp_ne (tgt := 42) hx hb d_M_rangesOf_22 (by decide) (fun hc_3 => ?_) (fun hc_3 => ?_)
      · have hF := it_f hF hc_3
        refine lv_iload_n hx hb d_M_rangesOf_42 rfl (lv_at hl 3 rfl) ?_
        refine lv_istore_n (lv' := [(3, .int v3), (0, .ref (ad 0)), (1, .int v1), (2, .int v2), (4, .int v4)]) hx hb d_M_rangesOf_43 rfl hl (by decide) rfl (fun ls hl => ?_)
        refine lv_iinc (v := v4 + 1) (lv' := [(4, .int (v4 + 1)), (3, .int v3), (0, .ref (ad 0)), (1, .int v1), (2, .int v2)]) hx hb d_M_rangesOf_44 hl (k := 4) rfl rfl (by decide) rfl (fun ls hl => ?_)
        refine lv_goto (tgt := 5) hx hb d_M_rangesOf_47 (by decide) ?_
        exact ih _ _ _ H locs ls hF hP hD hS (lv_sub hl [2, 3, 4, 1, 0] rfl) hQ
      · have hF := it_t hF hc_3
        refine lv_aload_n hx hb d_M_rangesOf_25 rfl (lv_at hl 0 rfl) ?_
        refine va_get (D := g) (ci := 3) (v := .ref (ad 5)) (C := kR3) (T := kT3) (N := 25) hx hb hts kw3 hown hK hP 0 rfl rfl 7 (by decide) (hts _ wm_678) (fun _ h9 => h9) rfl d_M_rangesOf_26 ?_
        refine lv_iload hx hb d_M_rangesOf_29 (lv_at hl 4 rfl) ?_
        obtain ⟨hg_4, hF⟩ := gd_inv hF
        refine va_iald hx hb hK hP 5 0 rfl rfl hg_4 d_M_rangesOf_31 ?_
        refine lv_iload_n hx hb d_M_rangesOf_32 rfl (lv_at hl 2 rfl) ?_
        refine lv_icmp_ne (tgt := 42) hx hb d_M_rangesOf_33 (by decide) (fun hc_5 => ?_) (fun hc_5 => ?_)
        · have hF := it_f hF hc_5
          refine lv_iload_n hx hb d_M_rangesOf_42 rfl (lv_at hl 3 rfl) ?_
          refine lv_istore_n (lv' := [(3, .int v3), (0, .ref (ad 0)), (1, .int v1), (2, .int v2), (4, .int v4)]) hx hb d_M_rangesOf_43 rfl hl (by decide) rfl (fun ls hl => ?_)
          refine lv_iinc (v := v4 + 1) (lv' := [(4, .int (v4 + 1)), (3, .int v3), (0, .ref (ad 0)), (1, .int v1), (2, .int v2)]) hx hb d_M_rangesOf_44 hl (k := 4) rfl rfl (by decide) rfl (fun ls hl => ?_)
          refine lv_goto (tgt := 5) hx hb d_M_rangesOf_47 (by decide) ?_
          exact ih _ _ _ H locs ls hF hP hD hS (lv_sub hl [2, 3, 4, 1, 0] rfl) hQ
        · have hF := it_t hF hc_5
          refine lv_iload_n hx hb d_M_rangesOf_36 rfl (lv_at hl 3 rfl) ?_
          refine lv_iconst (v := 1) hx hb d_M_rangesOf_37 (by decide) ?_
          refine lv_iadd hx hb d_M_rangesOf_38 ?_
          refine lv_goto (tgt := 43) hx hb d_M_rangesOf_39 (by decide) ?_
          refine lv_istore_n (lv' := [(3, .int (v3 + 1)), (0, .ref (ad 0)), (1, .int v1), (2, .int v2), (4, .int v4)]) hx hb d_M_rangesOf_43 rfl hl (by decide) rfl (fun ls hl => ?_)
          refine lv_iinc (v := v4 + 1) (lv' := [(4, .int (v4 + 1)), (3, .int (v3 + 1)), (0, .ref (ad 0)), (1, .int v1), (2, .int v2)]) hx hb d_M_rangesOf_44 hl (k := 4) rfl rfl (by decide) rfl (fun ls hl => ?_)
          refine lv_goto (tgt := 5) hx hb d_M_rangesOf_47 (by decide) ?_
          exact ih _ _ _ H locs ls hF hP hD hS (lv_sub hl [2, 3, 4, 1, 0] rfl) hQ
set_option maxHeartbeats 4000000 in
set_option maxRecDepth 100000 in
theorem t_M_rangesOf {p : Program} {l : Launch} {e : Env} {s : State} {m : MethodId} {args : Array Value} {below : List Frame} {meth : Method} {c : Code} {A : Nat → Prop} {g : va_G} {cI cJ cZ : ClassId} {ad : Nat → Nat} {rest : va_W} (K : kX p s m args meth c "LockTableModel" prog_6_method_31_code 5 (some .int) A g (kty cI cJ cZ)) (mth : Int32) (mst : Nat → Int32) (mse : Nat → Int32) (mla : Int32) (mmo : Nat → Int32) (mrc : Int32) (mro : Nat → Int32) (mrt : Nat → Int32) (mrm : Nat → Int32) (mrl : Nat → Int64) (mrh : Nat → Int64) (mwk : Nat → Int32) (mwt : Nat → Int32) (mwm : Nat → Int32) (mwl : Nat → Int64) (mwh : Nat → Int64) (mwi : Nat → Int32) (mwc : Nat → Int32) (mwx : Nat → Int32) (mar : Int32) (mli : Int32) (mgr : Int32) (mgo : Nat → Int32) (mre : Nat → Int32) (mfr : Int32) (a1 : Int32) (a2 : Int32) (r : Int32) (hF : F_M_rangesOf mrc mro mrt a1 a2 = some r) {H : Heap} {locs : List Loc} {ls : Array Slot} (hP : va_P g kcl (wM cI cJ cZ ad mth mst mse mla mmo mrc mro mrt mrm mrl mrh mwk mwt mwm mwl mwh mwi mwc mwx mar mli mgr mgo mre mfr rest) H) (hD : va_D A (wM cI cJ cZ ad mth mst mse mla mmo mrc mro mrt mrm mrl mrh mwk mwt mwm mwl mwh mwi mwc mwx mar mli mgr mgo mre mfr rest)) (hS : va_S A s.heap H locs) (hl : lv_has ls 5 [(0, .ref (ad 0)), (1, .int a1), (2, .int a2)]) : W p l e ({ frames := 0, cells := 0, slots := 0, locals := 0 }) s m args below meth c H locs 0 0 (MQ below (kQi g (kty cI cJ cZ) (wM cI cJ cZ ad mth mst mse mla mmo mrc mro mrt mrm mrl mrh mwk mwt mwm mwl mwh mwi mwc mwx mar mli mgr mgo mre mfr rest) A r) args s 0 0 A) (F0 m 0 ls []) := by
  obtain ⟨hx, hb, hr, hml, hown, hts, hlocks, hK, hA, hE⟩ := id K
  unfold F_M_rangesOf at hF
  refine lv_iconst (v := 0) hx hb d_M_rangesOf_0 (by decide) ?_
  refine lv_istore_n (lv' := [(3, .int 0), (0, .ref (ad 0)), (1, .int a1), (2, .int a2)]) hx hb d_M_rangesOf_1 rfl hl (by decide) rfl (fun ls hl => ?_)
  refine lv_iconst (v := 0) hx hb d_M_rangesOf_2 (by decide) ?_
  refine lv_istore (lv' := [(4, .int 0), (3, .int 0), (0, .ref (ad 0)), (1, .int a1), (2, .int a2)]) hx hb d_M_rangesOf_3 hl (by decide) rfl (fun ls hl => ?_)
  obtain ⟨v3_6, hG, hF⟩ := ob1_inv hF
  refine t_M_rangesOf_L5 K mth mst mse mla mmo mrc mro mrt mrm mrl mrh mwk mwt mwm mwl mwh mwi mwc mwx mar mli mgr mgo mre mfr a1 a2 fu _ _ _ H locs ls hG hP hD hS (lv_sub hl [2, 3, 4, 1, 0] rfl) (fun H locs ls hP hD hS hl => ?_)
  refine lv_iload_n hx hb d_M_rangesOf_50 rfl (lv_at hl 0 rfl) ?_
  cases hF
  exact kri K hP hD hS d_M_rangesOf_51 rfl
theorem c_M_rangesOf (l : Launch) (g : va_G) (cI cJ cZ : ClassId) (ad : Nat → Nat) (mth : Int32) (mst : Nat → Int32) (mse : Nat → Int32) (mla : Int32) (mmo : Nat → Int32) (mrc : Int32) (mro : Nat → Int32) (mrt : Nat → Int32) (mrm : Nat → Int32) (mrl : Nat → Int64) (mrh : Nat → Int64) (mwk : Nat → Int32) (mwt : Nat → Int32) (mwm : Nat → Int32) (mwl : Nat → Int64) (mwh : Nat → Int64) (mwi : Nat → Int32) (mwc : Nat → Int32) (mwx : Nat → Int32) (mar : Int32) (mli : Int32) (mgr : Int32) (mgo : Nat → Int32) (mre : Nat → Int32) (mfr : Int32) (rest : va_W) (a1 : Int32) (a2 : Int32) (r : Int32) (hF : F_M_rangesOf mrc mro mrt a1 a2 = some r) : Ci l y_M_rangesOf prog_6_method_31_code 5 (some .int) ({ frames := 0, cells := 0, slots := 0, locals := 0 }) [.ref (ad 0), .int a1, .int a2] g (kty cI cJ cZ) (wM cI cJ cZ ad mth mst mse mla mmo mrc mro mrt mrm mrl mrh mwk mwt mwm mwl mwh mwi mwc mwx mar mli mgr mgo mre mfr rest) (wM cI cJ cZ ad mth mst mse mla mmo mrc mro mrt mrm mrl mrh mwk mwt mwm mwl mwh mwi mwc mwx mar mli mgr mgo mre mfr rest) r :=
  Ci.of (by decide) (Nat.le_of_ble_eq_true rfl) (fun p e s m below meth c A ls K hP hD hS hl => t_M_rangesOf K mth mst mse mla mmo mrc mro mrt mrm mrl mrh mwk mwt mwm mwl mwh mwi mwc mwx mar mli mgr mgo mre mfr a1 a2 r hF hP hD hS hl)
def F_M_writesRanges_L5 (mrc : Int32) (mro : Nat → Int32) (mrt : Nat → Int32) (mrm : Nat → Int32) (v1 : Int32) (v2 : Int32) : Nat → Int32 → Int32 → Option (Int32)
  | 0, _, _ => none
  | n + 1, v3, v4 => if mrc ≤ v4 then some v3 else if v3 = 0 then gd (v4 < 0 ∨ 256 ≤ v4.toNatClampNeg) (if (mro v4.toNatClampNeg) = v1 then gd (v4 < 0 ∨ 256 ≤ v4.toNatClampNeg) (if (mrt v4.toNatClampNeg) = v2 then gd (v4 < 0 ∨ 256 ≤ v4.toNatClampNeg) (if (mrm v4.toNatClampNeg) = 2 then F_M_writesRanges_L5 mrc mro mrt mrm v1 v2 n 0 (v4 + 1) else F_M_writesRanges_L5 mrc mro mrt mrm v1 v2 n 1 (v4 + 1)) else F_M_writesRanges_L5 mrc mro mrt mrm v1 v2 n 0 (v4 + 1)) else F_M_writesRanges_L5 mrc mro mrt mrm v1 v2 n 0 (v4 + 1)) else F_M_writesRanges_L5 mrc mro mrt mrm v1 v2 n 1 (v4 + 1)
def F_M_writesRanges (mrc : Int32) (mro : Nat → Int32) (mrt : Nat → Int32) (mrm : Nat → Int32) (a1 : Int32) (a2 : Int32) : Option (Int32) :=
  ob1 (F_M_writesRanges_L5 mrc mro mrt mrm a1 a2 fu 0 0) (fun v3_9 => gd (¬ vp_nar .boolean v3_9 = v3_9) (some v3_9))
set_option maxHeartbeats 4000000 in
set_option maxRecDepth 100000 in
theorem t_M_writesRanges_L5 {p : Program} {l : Launch} {e : Env} {s : State} {m : MethodId} {args : Array Value} {below : List Frame} {meth : Method} {c : Code} {A : Nat → Prop} {g : va_G} {cI cJ cZ : ClassId} {ad : Nat → Nat} {rest : va_W} (K : kX p s m args meth c "LockTableModel" prog_6_method_32_code 5 (some .boolean) A g (kty cI cJ cZ)) {Q : State → Prop} (mth : Int32) (mst : Nat → Int32) (mse : Nat → Int32) (mla : Int32) (mmo : Nat → Int32) (mrc : Int32) (mro : Nat → Int32) (mrt : Nat → Int32) (mrm : Nat → Int32) (mrl : Nat → Int64) (mrh : Nat → Int64) (mwk : Nat → Int32) (mwt : Nat → Int32) (mwm : Nat → Int32) (mwl : Nat → Int64) (mwh : Nat → Int64) (mwi : Nat → Int32) (mwc : Nat → Int32) (mwx : Nat → Int32) (mar : Int32) (mli : Int32) (mgr : Int32) (mgo : Nat → Int32) (mre : Nat → Int32) (mfr : Int32) (v1 : Int32) (v2 : Int32) : ∀ (n : Nat) (v3 : Int32) (v4 : Int32) (o_v3 : Int32) (H : Heap) (locs : List Loc) (ls : Array Slot), F_M_writesRanges_L5 mrc mro mrt mrm v1 v2 n v3 v4 = some o_v3 → va_P g kcl (wM cI cJ cZ ad mth mst mse mla mmo mrc mro mrt mrm mrl mrh mwk mwt mwm mwl mwh mwi mwc mwx mar mli mgr mgo mre mfr rest) H → va_D A (wM cI cJ cZ ad mth mst mse mla mmo mrc mro mrt mrm mrl mrh mwk mwt mwm mwl mwh mwi mwc mwx mar mli mgr mgo mre mfr rest) → va_S A s.heap H locs → lv_has ls 5 [(0, .ref (ad 0)), (1, .int v1), (2, .int v2), (3, .int v3), (4, .int v4)] → (∀ (H : Heap) (locs : List Loc) (ls : Array Slot), va_P g kcl (wM cI cJ cZ ad mth mst mse mla mmo mrc mro mrt mrm mrl mrh mwk mwt mwm mwl mwh mwi mwc mwx mar mli mgr mgo mre mfr rest) H → va_D A (wM cI cJ cZ ad mth mst mse mla mmo mrc mro mrt mrm mrl mrh mwk mwt mwm mwl mwh mwi mwc mwx mar mli mgr mgo mre mfr rest) → va_S A s.heap H locs → lv_has ls 5 [(3, .int o_v3)] → W p l e ({ frames := 0, cells := 0, slots := 0, locals := 0 }) s m args below meth c H locs 0 0 Q (F0 m 63 ls [])) → W p l e ({ frames := 0, cells := 0, slots := 0, locals := 0 }) s m args below meth c H locs 0 0 Q (F0 m 5 ls []) := by
  obtain ⟨hx, hb, hr, hml, hown, hts, hlocks, hK, hA, hE⟩ := id K
  intro n
  induction n with
  | zero =>
    intro v3 v4 o_v3 H locs ls hF
    rw [F_M_writesRanges_L5] at hF
    cases hF
  | succ n ih =>
    intro v3 v4 o_v3 H locs ls hF hP hD hS hl hQ
    rw [F_M_writesRanges_L5] at hF
    refine lv_iload hx hb d_M_writesRanges_5 (lv_at hl 4 rfl) ?_
    refine lv_aload_n hx hb d_M_writesRanges_7 rfl (lv_at hl 0 rfl) ?_
    refine va_get (D := g) (ci := 3) (v := .int mrc) (C := kR3) (T := kT3) (N := 25) hx hb hts kw3 hown hK hP 0 rfl rfl 5 (by decide) (hts _ wm_676) (fun _ h9 => h9) rfl d_M_writesRanges_8 ?_
    refine lv_icmp_ge (tgt := 63) hx hb d_M_writesRanges_11 (by decide) (fun hc_1 => ?_) (fun hc_1 => ?_)
    · have hF := it_t hF hc_1
      cases hF
      exact hQ H locs ls hP hD hS (lv_sub hl [3] rfl)
    · have hF := it_f hF hc_1
      refine lv_iload_n hx hb d_M_writesRanges_14 rfl (lv_at hl 3 rfl) ?_
      refine lv_if_ne (tgt := 51) hx hb d_M_writesRanges_15 (by decide) (fun hc_2 => ?_) (fun hc_2 => ?_)
      · have hF := it_f hF hc_2
        refine lv_iconst (v := 1) hx hb d_M_writesRanges_51 (by decide) ?_
        refine lv_goto (tgt := 56) hx hb d_M_writesRanges_52 (by decide) ?_
        refine lv_istore_n (lv' := [(3, .int 1), (0, .ref (ad 0)), (1, .int v1), (2, .int v2), (4, .int v4)]) hx hb d_M_writesRanges_56 rfl hl (by decide) rfl (fun ls hl => ?_)
        refine lv_iinc (v := v4 + 1) (lv' := [(4, .int (v4 + 1)), (3, .int 1), (0, .ref (ad 0)), (1, .int v1), (2, .int v2)]) hx hb d_M_writesRanges_57 hl (k := 4) rfl rfl (by decide) rfl (fun ls hl => ?_)
        refine lv_goto (tgt := 5) hx hb d_M_writesRanges_60 (by decide) ?_
        exact ih _ _ _ H locs ls hF hP hD hS (lv_sub hl [2, 3, 4, 1, 0] rfl) hQ
      · have hF := it_t hF hc_2
        refine lv_aload_n hx hb d_M_writesRanges_18 rfl (lv_at hl 0 rfl) ?_
        refine va_get (D := g) (ci := 3) (v := .ref (ad 4)) (C := kR3) (T := kT3) (N := 25) hx hb hts kw3 hown hK hP 0 rfl rfl 6 (by decide) (hts _ wm_677) (fun _ h9 => h9) rfl d_M_writesRanges_19 ?_
        refine lv_iload hx hb d_M_writesRanges_22 (lv_at hl 4 rfl) ?_
        obtain ⟨hg_3, hF⟩ := gd_inv hF
        refine va_iald hx hb hK hP 4 0 rfl rfl hg_3 d_M_writesRanges_24 ?_
        refine lv_iload_n hx hb d_M_writesRanges_25 rfl (lv_at hl 1 rfl) ?_
        refine lv_icmp_ne (tgt := 55) hx hb d_M_writesRanges_26 (by decide) (fun hc_4 => ?_) (fun hc_4 => ?_)
        · have hF := it_f hF hc_4
          refine lv_iconst (v := 0) hx hb d_M_writesRanges_55 (by decide) ?_
          refine lv_istore_n (lv' := [(3, .int 0), (0, .ref (ad 0)), (1, .int v1), (2, .int v2), (4, .int v4)]) hx hb d_M_writesRanges_56 rfl hl (by decide) rfl (fun ls hl => ?_)
          refine lv_iinc (v := v4 + 1) (lv' := [(4, .int (v4 + 1)), (3, .int 0), (0, .ref (ad 0)), (1, .int v1), (2, .int v2)]) hx hb d_M_writesRanges_57 hl (k := 4) rfl rfl (by decide) rfl (fun ls hl => ?_)
          refine lv_goto (tgt := 5) hx hb d_M_writesRanges_60 (by decide) ?_
          exact ih _ _ _ H locs ls hF hP hD hS (lv_sub hl [2, 3, 4, 1, 0] rfl) hQ
        · have hF := it_t hF hc_4
          refine lv_aload_n hx hb d_M_writesRanges_29 rfl (lv_at hl 0 rfl) ?_
          refine va_get (D := g) (ci := 3) (v := .ref (ad 5)) (C := kR3) (T := kT3) (N := 25) hx hb hts kw3 hown hK hP 0 rfl rfl 7 (by decide) (hts _ wm_678) (fun _ h9 => h9) rfl d_M_writesRanges_30 ?_
          refine lv_iload hx hb d_M_writesRanges_33 (lv_at hl 4 rfl) ?_
          obtain ⟨hg_5, hF⟩ := gd_inv hF
          refine va_iald hx hb hK hP 5 0 rfl rfl hg_5 d_M_writesRanges_35 ?_
          refine lv_iload_n hx hb d_M_writesRanges_36 rfl (lv_at hl 2 rfl) ?_
          refine lv_icmp_ne (tgt := 55) hx hb d_M_writesRanges_37 (by decide) (fun hc_6 => ?_) (fun hc_6 => ?_)
          · have hF := it_f hF hc_6
            refine lv_iconst (v := 0) hx hb d_M_writesRanges_55 (by decide) ?_
            refine lv_istore_n (lv' := [(3, .int 0), (0, .ref (ad 0)), (1, .int v1), (2, .int v2), (4, .int v4)]) hx hb d_M_writesRanges_56 rfl hl (by decide) rfl (fun ls hl => ?_)
            refine lv_iinc (v := v4 + 1) (lv' := [(4, .int (v4 + 1)), (3, .int 0), (0, .ref (ad 0)), (1, .int v1), (2, .int v2)]) hx hb d_M_writesRanges_57 hl (k := 4) rfl rfl (by decide) rfl (fun ls hl => ?_)
            refine lv_goto (tgt := 5) hx hb d_M_writesRanges_60 (by decide) ?_
            exact ih _ _ _ H locs ls hF hP hD hS (lv_sub hl [2, 3, 4, 1, 0] rfl) hQ
          · have hF := it_t hF hc_6
            refine lv_aload_n hx hb d_M_writesRanges_40 rfl (lv_at hl 0 rfl) ?_
            refine va_get (D := g) (ci := 3) (v := .ref (ad 6)) (C := kR3) (T := kT3) (N := 25) hx hb hts kw3 hown hK hP 0 rfl rfl 8 (by decide) (hts _ wm_679) (fun _ h9 => h9) rfl d_M_writesRanges_41 ?_
            refine lv_iload hx hb d_M_writesRanges_44 (lv_at hl 4 rfl) ?_
            obtain ⟨hg_7, hF⟩ := gd_inv hF
            refine va_iald hx hb hK hP 6 0 rfl rfl hg_7 d_M_writesRanges_46 ?_
            refine lv_iconst (v := 2) hx hb d_M_writesRanges_47 (by decide) ?_
            refine lv_icmp_eq (tgt := 55) hx hb d_M_writesRanges_48 (by decide) (fun hc_8 => ?_) (fun hc_8 => ?_)
            · have hF := it_t hF hc_8
              refine lv_iconst (v := 0) hx hb d_M_writesRanges_55 (by decide) ?_
              refine lv_istore_n (lv' := [(3, .int 0), (0, .ref (ad 0)), (1, .int v1), (2, .int v2), (4, .int v4)]) hx hb d_M_writesRanges_56 rfl hl (by decide) rfl (fun ls hl => ?_)
              refine lv_iinc (v := v4 + 1) (lv' := [(4, .int (v4 + 1)), (3, .int 0), (0, .ref (ad 0)), (1, .int v1), (2, .int v2)]) hx hb d_M_writesRanges_57 hl (k := 4) rfl rfl (by decide) rfl (fun ls hl => ?_)
              refine lv_goto (tgt := 5) hx hb d_M_writesRanges_60 (by decide) ?_
              exact ih _ _ _ H locs ls hF hP hD hS (lv_sub hl [2, 3, 4, 1, 0] rfl) hQ
            · have hF := it_f hF hc_8
              refine lv_iconst (v := 1) hx hb d_M_writesRanges_51 (by decide) ?_
              refine lv_goto (tgt := 56) hx hb d_M_writesRanges_52 (by decide) ?_
              refine lv_istore_n (lv' := [(3, .int 1), (0, .ref (ad 0)), (1, .int v1), (2, .int v2), (4, .int v4)]) hx hb d_M_writesRanges_56 rfl hl (by decide) rfl (fun ls hl => ?_)
              refine lv_iinc (v := v4 + 1) (lv' := [(4, .int (v4 + 1)), (3, .int 1), (0, .ref (ad 0)), (1, .int v1), (2, .int v2)]) hx hb d_M_writesRanges_57 hl (k := 4) rfl rfl (by decide) rfl (fun ls hl => ?_)
              refine lv_goto (tgt := 5) hx hb d_M_writesRanges_60 (by decide) ?_
              exact ih _ _ _ H locs ls hF hP hD hS (lv_sub hl [2, 3, 4, 1, 0] rfl) hQ
set_option maxHeartbeats 4000000 in
set_option maxRecDepth 100000 in
theorem t_M_writesRanges {p : Program} {l : Launch} {e : Env} {s : State} {m : MethodId} {args : Array Value} {below : List Frame} {meth : Method} {c : Code} {A : Nat → Prop} {g : va_G} {cI cJ cZ : ClassId} {ad : Nat → Nat} {rest : va_W} (K : kX p s m args meth c "LockTableModel" prog_6_method_32_code 5 (some .boolean) A g (kty cI cJ cZ)) (mth : Int32) (mst : Nat → Int32) (mse : Nat → Int32) (mla : Int32) (mmo : Nat → Int32) (mrc : Int32) (mro : Nat → Int32) (mrt : Nat → Int32) (mrm : Nat → Int32) (mrl : Nat → Int64) (mrh : Nat → Int64) (mwk : Nat → Int32) (mwt : Nat → Int32) (mwm : Nat → Int32) (mwl : Nat → Int64) (mwh : Nat → Int64) (mwi : Nat → Int32) (mwc : Nat → Int32) (mwx : Nat → Int32) (mar : Int32) (mli : Int32) (mgr : Int32) (mgo : Nat → Int32) (mre : Nat → Int32) (mfr : Int32) (a1 : Int32) (a2 : Int32) (r : Int32) (hF : F_M_writesRanges mrc mro mrt mrm a1 a2 = some r) {H : Heap} {locs : List Loc} {ls : Array Slot} (hP : va_P g kcl (wM cI cJ cZ ad mth mst mse mla mmo mrc mro mrt mrm mrl mrh mwk mwt mwm mwl mwh mwi mwc mwx mar mli mgr mgo mre mfr rest) H) (hD : va_D A (wM cI cJ cZ ad mth mst mse mla mmo mrc mro mrt mrm mrl mrh mwk mwt mwm mwl mwh mwi mwc mwx mar mli mgr mgo mre mfr rest)) (hS : va_S A s.heap H locs) (hl : lv_has ls 5 [(0, .ref (ad 0)), (1, .int a1), (2, .int a2)]) : W p l e ({ frames := 0, cells := 0, slots := 0, locals := 0 }) s m args below meth c H locs 0 0 (MQ below (kQi g (kty cI cJ cZ) (wM cI cJ cZ ad mth mst mse mla mmo mrc mro mrt mrm mrl mrh mwk mwt mwm mwl mwh mwi mwc mwx mar mli mgr mgo mre mfr rest) A r) args s 0 0 A) (F0 m 0 ls []) := by
  obtain ⟨hx, hb, hr, hml, hown, hts, hlocks, hK, hA, hE⟩ := id K
  unfold F_M_writesRanges at hF
  refine lv_iconst (v := 0) hx hb d_M_writesRanges_0 (by decide) ?_
  refine lv_istore_n (lv' := [(3, .int 0), (0, .ref (ad 0)), (1, .int a1), (2, .int a2)]) hx hb d_M_writesRanges_1 rfl hl (by decide) rfl (fun ls hl => ?_)
  refine lv_iconst (v := 0) hx hb d_M_writesRanges_2 (by decide) ?_
  refine lv_istore (lv' := [(4, .int 0), (3, .int 0), (0, .ref (ad 0)), (1, .int a1), (2, .int a2)]) hx hb d_M_writesRanges_3 hl (by decide) rfl (fun ls hl => ?_)
  obtain ⟨v3_9, hG, hF⟩ := ob1_inv hF
  refine t_M_writesRanges_L5 K mth mst mse mla mmo mrc mro mrt mrm mrl mrh mwk mwt mwm mwl mwh mwi mwc mwx mar mli mgr mgo mre mfr a1 a2 fu _ _ _ H locs ls hG hP hD hS (lv_sub hl [2, 3, 4, 1, 0] rfl) (fun H locs ls hP hD hS hl => ?_)
  refine lv_iload_n hx hb d_M_writesRanges_63 rfl (lv_at hl 0 rfl) ?_
  obtain ⟨hz_10, hF⟩ := gd_inv hF
  cases hF
  exact krz K hP hD hS d_M_writesRanges_64 (nz_of hz_10) rfl
theorem c_M_writesRanges (l : Launch) (g : va_G) (cI cJ cZ : ClassId) (ad : Nat → Nat) (mth : Int32) (mst : Nat → Int32) (mse : Nat → Int32) (mla : Int32) (mmo : Nat → Int32) (mrc : Int32) (mro : Nat → Int32) (mrt : Nat → Int32) (mrm : Nat → Int32) (mrl : Nat → Int64) (mrh : Nat → Int64) (mwk : Nat → Int32) (mwt : Nat → Int32) (mwm : Nat → Int32) (mwl : Nat → Int64) (mwh : Nat → Int64) (mwi : Nat → Int32) (mwc : Nat → Int32) (mwx : Nat → Int32) (mar : Int32) (mli : Int32) (mgr : Int32) (mgo : Nat → Int32) (mre : Nat → Int32) (mfr : Int32) (rest : va_W) (a1 : Int32) (a2 : Int32) (r : Int32) (hF : F_M_writesRanges mrc mro mrt mrm a1 a2 = some r) : Ci l y_M_writesRanges prog_6_method_32_code 5 (some .boolean) ({ frames := 0, cells := 0, slots := 0, locals := 0 }) [.ref (ad 0), .int a1, .int a2] g (kty cI cJ cZ) (wM cI cJ cZ ad mth mst mse mla mmo mrc mro mrt mrm mrl mrh mwk mwt mwm mwl mwh mwi mwc mwx mar mli mgr mgo mre mfr rest) (wM cI cJ cZ ad mth mst mse mla mmo mrc mro mrt mrm mrl mrh mwk mwt mwm mwl mwh mwi mwc mwx mar mli mgr mgo mre mfr rest) r :=
  Ci.of (by decide) (Nat.le_of_ble_eq_true rfl) (fun p e s m below meth c A ls K hP hD hS hl => t_M_writesRanges K mth mst mse mla mmo mrc mro mrt mrm mrl mrh mwk mwt mwm mwl mwh mwi mwc mwx mar mli mgr mgo mre mfr a1 a2 r hF hP hD hS hl)
def F_M_escalated (mst : Nat → Int32) (mse : Nat → Int32) (mmo : Nat → Int32) (mrc : Int32) (mro : Nat → Int32) (mrt : Nat → Int32) (mrm : Nat → Int32) (mrl : Nat → Int64) (mrh : Nat → Int64) (mwk : Nat → Int32) (mwt : Nat → Int32) (mwm : Nat → Int32) (mwl : Nat → Int64) (mwh : Nat → Int64) (mwi : Nat → Int32) (mwc : Nat → Int32) (mwx : Nat → Int32) (mar : Int32) (mgr : Int32) (mgo : Nat → Int32) (mre : Nat → Int32) (mfr : Int32) (a1 : Int32) (a2 : Int32) (a3 : Int32) : Option (Int32 × (Nat → Int32) × (Nat → Int32) × Int32 × (Nat → Int32) × (Nat → Int32) × (Nat → Int32) × (Nat → Int64) × (Nat → Int64) × (Nat → Int32) × (Nat → Int32) × (Nat → Int32) × (Nat → Int32) × (Nat → Int32) × (Nat → Int32) × Int32 × Int32 × (Nat → Int32) × (Nat → Int32) × Int32) :=
  gd (((16 * a1) + a2) < 0 ∨ 128 ≤ ((16 * a1) + a2).toNatClampNeg) (jn3 (fun (s_2 : Int32) (s_3 : Int32) (s_4 : Int32) => ob1 (F_M_joinedWith mmo s_2 s_3 s_4) (fun r_5 => if r_5 = (mmo ((16 * a1) + a2).toNatClampNeg) then ob7 (F_M_dropRanges mrc mro mrt mrm mrl mrh mfr a1 a2) (fun mrc_27 mro_28 mrt_29 mrm_30 mrl_31 mrh_32 mfr_33 => ob11 (F_M_look mst mmo mrc_27 mro_28 mrt_29 mrm_30 mrl_31 mrh_32 mwk mwt mwm mwl mwh mwi mwc mgr mgo mfr_33 a1) (fun mst_34 mmo_35 mrc_36 mro_37 mrt_38 mrm_39 mrl_40 mrh_41 mgr_42 mgo_43 mfr_44 => some (0, mst_34, mmo_35, mrc_36, mro_37, mrt_38, mrm_39, mrl_40, mrh_41, mwk, mwt, mwm, mwi, mwc, mwx, mar, mgr_42, mgo_43, mre, mfr_44))) else gd (a1 < 0 ∨ 8 ≤ a1.toNatClampNeg) (gd (a1 < 0 ∨ 8 ≤ a1.toNatClampNeg) (gd (a1 < 0 ∨ 8 ≤ a1.toNatClampNeg) (ob17 (F_M_ask mst mse mmo mrc mro mrt mrm mrl mrh (upd mwk a1.toNatClampNeg 2) (upd mwt a1.toNatClampNeg a2) (upd mwm a1.toNatClampNeg r_5) mwl mwh mwi mwc mwx mar mgr mgo mre mfr a1 1) (fun r_10 mst_11 mmo_12 mrc_13 mro_14 mrt_15 mrm_16 mrl_17 mrh_18 mwi_19 mwc_20 mwx_21 mar_22 mgr_23 mgo_24 mre_25 mfr_26 => some (r_10, mst_11, mmo_12, mrc_13, mro_14, mrt_15, mrm_16, mrl_17, mrh_18, upd mwk a1.toNatClampNeg 2, upd mwt a1.toNatClampNeg a2, upd mwm a1.toNatClampNeg r_5, mwi_19, mwc_20, mwx_21, mar_22, mgr_23, mgo_24, mre_25, mfr_26))))))) (fun J34 => jn2 (fun (s_45 : Int32) (s_46 : Int32) => J34 s_45 s_46 5) (fun J29 => if a3 = 0 then ob1 (F_M_writesRanges mrc mro mrt mrm a1 a2) (fun r_48 => if r_48 = 0 then J34 a1 a2 2 else J29 a1 a2) else J29 a1 a2)))
set_option maxHeartbeats 4000000 in
set_option maxRecDepth 100000 in
theorem t_M_escalated {p : Program} {l : Launch} {e : Env} {s : State} {m : MethodId} {args : Array Value} {below : List Frame} {meth : Method} {c : Code} {A : Nat → Prop} {g : va_G} {cI cJ cZ : ClassId} {ad : Nat → Nat} {rest : va_W} (K : kX p s m args meth c "LockTableModel" prog_6_method_33_code 6 (some .int) A g (kty cI cJ cZ)) (mth : Int32) (mst : Nat → Int32) (mse : Nat → Int32) (mla : Int32) (mmo : Nat → Int32) (mrc : Int32) (mro : Nat → Int32) (mrt : Nat → Int32) (mrm : Nat → Int32) (mrl : Nat → Int64) (mrh : Nat → Int64) (mwk : Nat → Int32) (mwt : Nat → Int32) (mwm : Nat → Int32) (mwl : Nat → Int64) (mwh : Nat → Int64) (mwi : Nat → Int32) (mwc : Nat → Int32) (mwx : Nat → Int32) (mar : Int32) (mli : Int32) (mgr : Int32) (mgo : Nat → Int32) (mre : Nat → Int32) (mfr : Int32) (a1 : Int32) (a2 : Int32) (a3 : Int32) (r : Int32) (o_mst : Nat → Int32) (o_mmo : Nat → Int32) (o_mrc : Int32) (o_mro : Nat → Int32) (o_mrt : Nat → Int32) (o_mrm : Nat → Int32) (o_mrl : Nat → Int64) (o_mrh : Nat → Int64) (o_mwk : Nat → Int32) (o_mwt : Nat → Int32) (o_mwm : Nat → Int32) (o_mwi : Nat → Int32) (o_mwc : Nat → Int32) (o_mwx : Nat → Int32) (o_mar : Int32) (o_mgr : Int32) (o_mgo : Nat → Int32) (o_mre : Nat → Int32) (o_mfr : Int32) (hF : F_M_escalated mst mse mmo mrc mro mrt mrm mrl mrh mwk mwt mwm mwl mwh mwi mwc mwx mar mgr mgo mre mfr a1 a2 a3 = some (r, o_mst, o_mmo, o_mrc, o_mro, o_mrt, o_mrm, o_mrl, o_mrh, o_mwk, o_mwt, o_mwm, o_mwi, o_mwc, o_mwx, o_mar, o_mgr, o_mgo, o_mre, o_mfr)) {H : Heap} {locs : List Loc} {ls : Array Slot} (hP : va_P g kcl (wM cI cJ cZ ad mth mst mse mla mmo mrc mro mrt mrm mrl mrh mwk mwt mwm mwl mwh mwi mwc mwx mar mli mgr mgo mre mfr rest) H) (hD : va_D A (wM cI cJ cZ ad mth mst mse mla mmo mrc mro mrt mrm mrl mrh mwk mwt mwm mwl mwh mwi mwc mwx mar mli mgr mgo mre mfr rest)) (hS : va_S A s.heap H locs) (hl : lv_has ls 6 [(0, .ref (ad 0)), (1, .int a1), (2, .int a2), (3, .int a3)]) : W p l e ({ frames := 8, cells := 0, slots := 0, locals := 186 }) s m args below meth c H locs 0 0 (MQ below (kQi g (kty cI cJ cZ) (wM cI cJ cZ ad mth o_mst mse mla o_mmo o_mrc o_mro o_mrt o_mrm o_mrl o_mrh o_mwk o_mwt o_mwm mwl mwh o_mwi o_mwc o_mwx o_mar mli o_mgr o_mgo o_mre o_mfr rest) A r) args s 0 0 A) (F0 m 0 ls []) := by
  obtain ⟨hx, hb, hr, hml, hown, hts, hlocks, hK, hA, hE⟩ := id K
  unfold F_M_escalated at hF
  refine lv_aload_n hx hb d_M_escalated_0 rfl (lv_at hl 0 rfl) ?_
  refine va_get (D := g) (ci := 3) (v := .ref (ad 3)) (C := kR3) (T := kT3) (N := 25) hx hb hts kw3 hown hK hP 0 rfl rfl 4 (by decide) (hts _ wm_675) (fun _ h9 => h9) rfl d_M_escalated_1 ?_
  refine lv_bipush (v := 16) hx hb d_M_escalated_4 (by decide) ?_
  refine lv_iload_n hx hb d_M_escalated_6 rfl (lv_at hl 1 rfl) ?_
  refine lv_imul hx hb d_M_escalated_7 ?_
  refine lv_iload_n hx hb d_M_escalated_8 rfl (lv_at hl 2 rfl) ?_
  refine lv_iadd hx hb d_M_escalated_9 ?_
  obtain ⟨hg_1, hF⟩ := gd_inv hF
  refine va_iald hx hb hK hP 3 0 rfl rfl hg_1 d_M_escalated_10 ?_
  refine lv_istore (lv' := [(4, .int (mmo ((16 * a1) + a2).toNatClampNeg)), (0, .ref (ad 0)), (1, .int a1), (2, .int a2), (3, .int a3)]) hx hb d_M_escalated_11 hl (by decide) rfl (fun ls hl => ?_)
  refine lv_aload_n hx hb d_M_escalated_13 rfl (lv_at hl 1 rfl) ?_
  refine lv_iload_n hx hb d_M_escalated_14 rfl (lv_at hl 2 rfl) ?_
  refine lv_iload_n hx hb d_M_escalated_15 rfl (lv_at hl 3 rfl) ?_
  refine lv_iload_n hx hb d_M_escalated_16 rfl (lv_at hl 4 rfl) ?_
  obtain ⟨J34, eJ34, hF⟩ := jn3_inv hF
  have hJ34 : ∀ (s_2 : Int32) (s_3 : Int32) (s_4 : Int32) (H : Heap) (locs : List Loc) (ls : Array Slot), J34 s_2 s_3 s_4 = some (r, o_mst, o_mmo, o_mrc, o_mro, o_mrt, o_mrm, o_mrl, o_mrh, o_mwk, o_mwt, o_mwm, o_mwi, o_mwc, o_mwx, o_mar, o_mgr, o_mgo, o_mre, o_mfr) → va_P g kcl (wM cI cJ cZ ad mth mst mse mla mmo mrc mro mrt mrm mrl mrh mwk mwt mwm mwl mwh mwi mwc mwx mar mli mgr mgo mre mfr rest) H → va_D A (wM cI cJ cZ ad mth mst mse mla mmo mrc mro mrt mrm mrl mrh mwk mwt mwm mwl mwh mwi mwc mwx mar mli mgr mgo mre mfr rest) → va_S A s.heap H locs → lv_has ls 6 [(0, .ref (ad 0)), (1, .int a1), (2, .int a2), (4, .int (mmo ((16 * a1) + a2).toNatClampNeg))] → W p l e ({ frames := 8, cells := 0, slots := 0, locals := 186 }) s m args below meth c H locs 0 0 (MQ below (kQi g (kty cI cJ cZ) (wM cI cJ cZ ad mth o_mst mse mla o_mmo o_mrc o_mro o_mrt o_mrm o_mrl o_mrh o_mwk o_mwt o_mwm mwl mwh o_mwi o_mwc o_mwx o_mar mli o_mgr o_mgo o_mre o_mfr rest) A r) args s 0 0 A) (F0 m 34 ls [.int s_4, .int s_3, .int s_2, .ref (ad 0)]) := by
    intro s_2 s_3 s_4 H locs ls hF hP hD hS hl
    rw [eJ34] at hF
    obtain ⟨r_5, hG, hF⟩ := ob1_inv hF
    refine kci K hP hD hS (c_M_joinedWith l g cI cJ cZ ad mth mst mse mla mmo mrc mro mrt mrm mrl mrh mwk mwt mwm mwl mwh mwi mwc mwx mar mli mgr mgo mre mfr rest s_2 s_3 s_4 r_5 hG) wm_775 wm_772 wm_774 wm_21 wm_50 hd_M_joinedWith rfl rfl ⟨Nat.le_of_ble_eq_true rfl, Nat.le_of_ble_eq_true rfl⟩ ⟨Nat.zero_le _, Nat.zero_le _⟩ 3 0 rfl rfl rfl hl.1 (rest := []) rfl (Nat.le_of_ble_eq_true rfl) d_M_escalated_34 (fun H locs hP hD hS => ?_)
    refine lv_istore (lv' := [(5, .int r_5), (0, .ref (ad 0)), (1, .int a1), (2, .int a2), (4, .int (mmo ((16 * a1) + a2).toNatClampNeg))]) hx hb d_M_escalated_37 hl (by decide) rfl (fun ls hl => ?_)
    refine lv_iload hx hb d_M_escalated_39 (lv_at hl 0 rfl) ?_
    refine lv_iload hx hb d_M_escalated_41 (lv_at hl 4 rfl) ?_
    refine lv_icmp_ne (tgt := 59) hx hb d_M_escalated_43 (by decide) (fun hc_6 => ?_) (fun hc_6 => ?_)
    · have hF := it_f hF hc_6
      refine lv_aload_n hx hb d_M_escalated_59 rfl (lv_at hl 1 rfl) ?_
      refine va_get (D := g) (ci := 3) (v := .ref (ad 9)) (C := kR3) (T := kT3) (N := 25) hx hb hts kw3 hown hK hP 0 rfl rfl 11 (by decide) (hts _ wm_682) (fun _ h9 => h9) rfl d_M_escalated_60 ?_
      refine lv_iload_n hx hb d_M_escalated_63 rfl (lv_at hl 2 rfl) ?_
      refine lv_iconst (v := 2) hx hb d_M_escalated_64 (by decide) ?_
      obtain ⟨hg_7, hF⟩ := gd_inv hF
      refine va_iast hx hb hK hP hD hS 9 0 rfl rfl hg_7 d_M_escalated_65 (fun H locs hP hD hS => ?_)
      have hP : va_P g kcl (wM cI cJ cZ ad mth mst mse mla mmo mrc mro mrt mrm mrl mrh (upd mwk a1.toNatClampNeg 2) mwt mwm mwl mwh mwi mwc mwx mar mli mgr mgo mre mfr rest) H := hP
      have hD : va_D A (wM cI cJ cZ ad mth mst mse mla mmo mrc mro mrt mrm mrl mrh (upd mwk a1.toNatClampNeg 2) mwt mwm mwl mwh mwi mwc mwx mar mli mgr mgo mre mfr rest) := hD
      refine lv_aload_n hx hb d_M_escalated_66 rfl (lv_at hl 1 rfl) ?_
      refine va_get (D := g) (ci := 3) (v := .ref (ad 10)) (C := kR3) (T := kT3) (N := 25) hx hb hts kw3 hown hK hP 0 rfl rfl 12 (by decide) (hts _ wm_683) (fun _ h9 => h9) rfl d_M_escalated_67 ?_
      refine lv_iload_n hx hb d_M_escalated_70 rfl (lv_at hl 2 rfl) ?_
      refine lv_iload_n hx hb d_M_escalated_71 rfl (lv_at hl 3 rfl) ?_
      obtain ⟨hg_8, hF⟩ := gd_inv hF
      refine va_iast hx hb hK hP hD hS 10 0 rfl rfl hg_8 d_M_escalated_72 (fun H locs hP hD hS => ?_)
      have hP : va_P g kcl (wM cI cJ cZ ad mth mst mse mla mmo mrc mro mrt mrm mrl mrh (upd mwk a1.toNatClampNeg 2) (upd mwt a1.toNatClampNeg a2) mwm mwl mwh mwi mwc mwx mar mli mgr mgo mre mfr rest) H := hP
      have hD : va_D A (wM cI cJ cZ ad mth mst mse mla mmo mrc mro mrt mrm mrl mrh (upd mwk a1.toNatClampNeg 2) (upd mwt a1.toNatClampNeg a2) mwm mwl mwh mwi mwc mwx mar mli mgr mgo mre mfr rest) := hD
      refine lv_aload_n hx hb d_M_escalated_73 rfl (lv_at hl 1 rfl) ?_
      refine va_get (D := g) (ci := 3) (v := .ref (ad 11)) (C := kR3) (T := kT3) (N := 25) hx hb hts kw3 hown hK hP 0 rfl rfl 13 (by decide) (hts _ wm_684) (fun _ h9 => h9) rfl d_M_escalated_74 ?_
      refine lv_iload_n hx hb d_M_escalated_77 rfl (lv_at hl 2 rfl) ?_
      refine lv_iload hx hb d_M_escalated_78 (lv_at hl 0 rfl) ?_
      obtain ⟨hg_9, hF⟩ := gd_inv hF
      refine va_iast hx hb hK hP hD hS 11 0 rfl rfl hg_9 d_M_escalated_80 (fun H locs hP hD hS => ?_)
      have hP : va_P g kcl (wM cI cJ cZ ad mth mst mse mla mmo mrc mro mrt mrm mrl mrh (upd mwk a1.toNatClampNeg 2) (upd mwt a1.toNatClampNeg a2) (upd mwm a1.toNatClampNeg r_5) mwl mwh mwi mwc mwx mar mli mgr mgo mre mfr rest) H := hP
      have hD : va_D A (wM cI cJ cZ ad mth mst mse mla mmo mrc mro mrt mrm mrl mrh (upd mwk a1.toNatClampNeg 2) (upd mwt a1.toNatClampNeg a2) (upd mwm a1.toNatClampNeg r_5) mwl mwh mwi mwc mwx mar mli mgr mgo mre mfr rest) := hD
      refine lv_aload_n hx hb d_M_escalated_81 rfl (lv_at hl 1 rfl) ?_
      refine lv_iload_n hx hb d_M_escalated_82 rfl (lv_at hl 2 rfl) ?_
      refine lv_iconst (v := 1) hx hb d_M_escalated_83 (by decide) ?_
      obtain ⟨r_10, mst_11, mmo_12, mrc_13, mro_14, mrt_15, mrm_16, mrl_17, mrh_18, mwi_19, mwc_20, mwx_21, mar_22, mgr_23, mgo_24, mre_25, mfr_26, hG, hF⟩ := ob17_inv hF
      refine kci K hP hD hS (c_M_ask l g cI cJ cZ ad mth mst mse mla mmo mrc mro mrt mrm mrl mrh (upd mwk a1.toNatClampNeg 2) (upd mwt a1.toNatClampNeg a2) (upd mwm a1.toNatClampNeg r_5) mwl mwh mwi mwc mwx mar mli mgr mgo mre mfr rest a1 1 r_10 mst_11 mmo_12 mrc_13 mro_14 mrt_15 mrm_16 mrl_17 mrh_18 mwi_19 mwc_20 mwx_21 mar_22 mgr_23 mgo_24 mre_25 mfr_26 hG) wm_792 wm_789 wm_791 wm_23 wm_50 hd_M_ask rfl rfl ⟨Nat.le_of_ble_eq_true rfl, Nat.le_of_ble_eq_true rfl⟩ ⟨Nat.zero_le _, Nat.zero_le _⟩ 3 0 rfl rfl rfl hl.1 (rest := []) rfl (Nat.le_of_ble_eq_true rfl) d_M_escalated_84 (fun H locs hP hD hS => ?_)
      cases hF
      exact kri K hP hD hS d_M_escalated_87 rfl
    · have hF := it_t hF hc_6
      refine lv_aload_n hx hb d_M_escalated_46 rfl (lv_at hl 1 rfl) ?_
      refine lv_iload_n hx hb d_M_escalated_47 rfl (lv_at hl 2 rfl) ?_
      refine lv_iload_n hx hb d_M_escalated_48 rfl (lv_at hl 3 rfl) ?_
      obtain ⟨mrc_27, mro_28, mrt_29, mrm_30, mrl_31, mrh_32, mfr_33, hG, hF⟩ := ob7_inv hF
      refine kcv K hP hD hS (c_M_dropRanges l g cI cJ cZ ad mth mst mse mla mmo mrc mro mrt mrm mrl mrh mwk mwt mwm mwl mwh mwi mwc mwx mar mli mgr mgo mre mfr rest a1 a2 mrc_27 mro_28 mrt_29 mrm_30 mrl_31 mrh_32 mfr_33 hG) wm_827 wm_824 wm_826 wm_31 wm_50 hd_M_dropRanges rfl rfl ⟨Nat.le_of_ble_eq_true rfl, Nat.le_of_ble_eq_true rfl⟩ ⟨Nat.zero_le _, Nat.zero_le _⟩ 3 0 rfl rfl rfl hl.1 (rest := []) rfl (Nat.le_of_ble_eq_true rfl) d_M_escalated_49 (fun H locs hP hD hS => ?_)
      refine lv_aload_n hx hb d_M_escalated_52 rfl (lv_at hl 1 rfl) ?_
      refine lv_iload_n hx hb d_M_escalated_53 rfl (lv_at hl 2 rfl) ?_
      obtain ⟨mst_34, mmo_35, mrc_36, mro_37, mrt_38, mrm_39, mrl_40, mrh_41, mgr_42, mgo_43, mfr_44, hG, hF⟩ := ob11_inv hF
      refine kcv K hP hD hS (c_M_look l g cI cJ cZ ad mth mst mse mla mmo mrc_27 mro_28 mrt_29 mrm_30 mrl_31 mrh_32 mwk mwt mwm mwl mwh mwi mwc mwx mar mli mgr mgo mre mfr_33 rest a1 mst_34 mmo_35 mrc_36 mro_37 mrt_38 mrm_39 mrl_40 mrh_41 mgr_42 mgo_43 mfr_44 hG) wm_835 wm_832 wm_834 wm_33 wm_50 hd_M_look rfl rfl ⟨Nat.le_of_ble_eq_true rfl, Nat.le_of_ble_eq_true rfl⟩ ⟨Nat.zero_le _, Nat.zero_le _⟩ 3 0 rfl rfl rfl hl.1 (rest := []) rfl (Nat.le_of_ble_eq_true rfl) d_M_escalated_54 (fun H locs hP hD hS => ?_)
      refine lv_iconst (v := 0) hx hb d_M_escalated_57 (by decide) ?_
      cases hF
      exact kri K hP hD hS d_M_escalated_58 rfl
  obtain ⟨J29, eJ29, hF⟩ := jn2_inv hF
  have hJ29 : ∀ (s_45 : Int32) (s_46 : Int32) (H : Heap) (locs : List Loc) (ls : Array Slot), J29 s_45 s_46 = some (r, o_mst, o_mmo, o_mrc, o_mro, o_mrt, o_mrm, o_mrl, o_mrh, o_mwk, o_mwt, o_mwm, o_mwi, o_mwc, o_mwx, o_mar, o_mgr, o_mgo, o_mre, o_mfr) → va_P g kcl (wM cI cJ cZ ad mth mst mse mla mmo mrc mro mrt mrm mrl mrh mwk mwt mwm mwl mwh mwi mwc mwx mar mli mgr mgo mre mfr rest) H → va_D A (wM cI cJ cZ ad mth mst mse mla mmo mrc mro mrt mrm mrl mrh mwk mwt mwm mwl mwh mwi mwc mwx mar mli mgr mgo mre mfr rest) → va_S A s.heap H locs → lv_has ls 6 [(0, .ref (ad 0)), (1, .int a1), (2, .int a2), (4, .int (mmo ((16 * a1) + a2).toNatClampNeg))] → W p l e ({ frames := 8, cells := 0, slots := 0, locals := 186 }) s m args below meth c H locs 0 0 (MQ below (kQi g (kty cI cJ cZ) (wM cI cJ cZ ad mth o_mst mse mla o_mmo o_mrc o_mro o_mrt o_mrm o_mrl o_mrh o_mwk o_mwt o_mwm mwl mwh o_mwi o_mwc o_mwx o_mar mli o_mgr o_mgo o_mre o_mfr rest) A r) args s 0 0 A) (F0 m 29 ls [.int s_46, .int s_45, .ref (ad 0)]) := by
    intro s_45 s_46 H locs ls hF hP hD hS hl
    rw [eJ29] at hF
    refine lv_iconst (v := 5) hx hb d_M_escalated_29 (by decide) ?_
    refine lv_goto (tgt := 34) hx hb d_M_escalated_30 (by decide) ?_
    exact hJ34 _ _ _ H locs ls hF hP hD hS (lv_sub hl [0, 1, 2, 3] rfl)
  refine lv_if_ne (tgt := 29) hx hb d_M_escalated_17 (by decide) (fun hc_47 => ?_) (fun hc_47 => ?_)
  · have hF := it_f hF hc_47
    exact hJ29 _ _ H locs ls hF hP hD hS (lv_sub hl [1, 2, 3, 0] rfl)
  · have hF := it_t hF hc_47
    refine lv_aload_n hx hb d_M_escalated_20 rfl (lv_at hl 1 rfl) ?_
    refine lv_iload_n hx hb d_M_escalated_21 rfl (lv_at hl 2 rfl) ?_
    refine lv_iload_n hx hb d_M_escalated_22 rfl (lv_at hl 3 rfl) ?_
    obtain ⟨r_48, hG, hF⟩ := ob1_inv hF
    refine kci K hP hD hS (c_M_writesRanges l g cI cJ cZ ad mth mst mse mla mmo mrc mro mrt mrm mrl mrh mwk mwt mwm mwl mwh mwi mwc mwx mar mli mgr mgo mre mfr rest a1 a2 r_48 hG) wm_873 wm_870 wm_872 wm_40 wm_50 hd_M_writesRanges rfl rfl ⟨Nat.le_of_ble_eq_true rfl, Nat.le_of_ble_eq_true rfl⟩ ⟨Nat.zero_le _, Nat.zero_le _⟩ 3 0 rfl rfl rfl hl.1 (rest := [.int a2, .int a1, .ref (ad 0)]) rfl (Nat.le_of_ble_eq_true rfl) d_M_escalated_23 (fun H locs hP hD hS => ?_)
    refine lv_if_eq (tgt := 33) hx hb d_M_escalated_26 (by decide) (fun hc_49 => ?_) (fun hc_49 => ?_)
    · have hF := it_t hF hc_49
      refine lv_iconst (v := 2) hx hb d_M_escalated_33 (by decide) ?_
      exact hJ34 _ _ _ H locs ls hF hP hD hS (lv_sub hl [1, 2, 3, 0] rfl)
    · have hF := it_f hF hc_49
      exact hJ29 _ _ H locs ls hF hP hD hS (lv_sub hl [1, 2, 3, 0] rfl)
theorem c_M_escalated (l : Launch) (g : va_G) (cI cJ cZ : ClassId) (ad : Nat → Nat) (mth : Int32) (mst : Nat → Int32) (mse : Nat → Int32) (mla : Int32) (mmo : Nat → Int32) (mrc : Int32) (mro : Nat → Int32) (mrt : Nat → Int32) (mrm : Nat → Int32) (mrl : Nat → Int64) (mrh : Nat → Int64) (mwk : Nat → Int32) (mwt : Nat → Int32) (mwm : Nat → Int32) (mwl : Nat → Int64) (mwh : Nat → Int64) (mwi : Nat → Int32) (mwc : Nat → Int32) (mwx : Nat → Int32) (mar : Int32) (mli : Int32) (mgr : Int32) (mgo : Nat → Int32) (mre : Nat → Int32) (mfr : Int32) (rest : va_W) (a1 : Int32) (a2 : Int32) (a3 : Int32) (r : Int32) (o_mst : Nat → Int32) (o_mmo : Nat → Int32) (o_mrc : Int32) (o_mro : Nat → Int32) (o_mrt : Nat → Int32) (o_mrm : Nat → Int32) (o_mrl : Nat → Int64) (o_mrh : Nat → Int64) (o_mwk : Nat → Int32) (o_mwt : Nat → Int32) (o_mwm : Nat → Int32) (o_mwi : Nat → Int32) (o_mwc : Nat → Int32) (o_mwx : Nat → Int32) (o_mar : Int32) (o_mgr : Int32) (o_mgo : Nat → Int32) (o_mre : Nat → Int32) (o_mfr : Int32) (hF : F_M_escalated mst mse mmo mrc mro mrt mrm mrl mrh mwk mwt mwm mwl mwh mwi mwc mwx mar mgr mgo mre mfr a1 a2 a3 = some (r, o_mst, o_mmo, o_mrc, o_mro, o_mrt, o_mrm, o_mrl, o_mrh, o_mwk, o_mwt, o_mwm, o_mwi, o_mwc, o_mwx, o_mar, o_mgr, o_mgo, o_mre, o_mfr)) : Ci l y_M_escalated prog_6_method_33_code 6 (some .int) ({ frames := 8, cells := 0, slots := 0, locals := 186 }) [.ref (ad 0), .int a1, .int a2, .int a3] g (kty cI cJ cZ) (wM cI cJ cZ ad mth mst mse mla mmo mrc mro mrt mrm mrl mrh mwk mwt mwm mwl mwh mwi mwc mwx mar mli mgr mgo mre mfr rest) (wM cI cJ cZ ad mth o_mst mse mla o_mmo o_mrc o_mro o_mrt o_mrm o_mrl o_mrh o_mwk o_mwt o_mwm mwl mwh o_mwi o_mwc o_mwx o_mar mli o_mgr o_mgo o_mre o_mfr rest) r :=
  Ci.of (by decide) (Nat.le_of_ble_eq_true rfl) (fun p e s m below meth c A ls K hP hD hS hl => t_M_escalated K mth mst mse mla mmo mrc mro mrt mrm mrl mrh mwk mwt mwm mwl mwh mwi mwc mwx mar mli mgr mgo mre mfr a1 a2 a3 r o_mst o_mmo o_mrc o_mro o_mrt o_mrm o_mrl o_mrh o_mwk o_mwt o_mwm o_mwi o_mwc o_mwx o_mar o_mgr o_mgo o_mre o_mfr hF hP hD hS hl)
def F_M_hasAround_L6 (mrc : Int32) (mro : Nat → Int32) (mrt : Nat → Int32) (mrm : Nat → Int32) (mrl : Nat → Int64) (mrh : Nat → Int64) (v1 : Int32) (v2 : Int32) (v3 : Int64) (v5 : Int64) (v7 : Int32) : Nat → Int32 → Int32 → Option (Int32)
  | 0, _, _ => none
  | n + 1, v8, v9 => if mrc ≤ v9 then some v8 else gd (v9 < 0 ∨ 256 ≤ v9.toNatClampNeg) (jn1 (fun (s_3 : Int32) => if v8 = 0 then if s_3 = 0 then F_M_hasAround_L6 mrc mro mrt mrm mrl mrh v1 v2 v3 v5 v7 n 0 (v9 + 1) else if v7 < 0 then F_M_hasAround_L6 mrc mro mrt mrm mrl mrh v1 v2 v3 v5 v7 n 1 (v9 + 1) else gd (v9 < 0 ∨ 256 ≤ v9.toNatClampNeg) (ob1 (F_M_rangeCovers (mrm v9.toNatClampNeg) v7) (fun r_8 => if r_8 = 0 then F_M_hasAround_L6 mrc mro mrt mrm mrl mrh v1 v2 v3 v5 v7 n 0 (v9 + 1) else F_M_hasAround_L6 mrc mro mrt mrm mrl mrh v1 v2 v3 v5 v7 n 1 (v9 + 1))) else F_M_hasAround_L6 mrc mro mrt mrm mrl mrh v1 v2 v3 v5 v7 n 1 (v9 + 1)) (fun J67 => jn0 (J67 0) (fun J66 => if (mro v9.toNatClampNeg) = v1 then gd (v9 < 0 ∨ 256 ≤ v9.toNatClampNeg) (if (mrt v9.toNatClampNeg) = v2 then gd (v9 < 0 ∨ 256 ≤ v9.toNatClampNeg) (if 0 < (lg_cmp (mrl v9.toNatClampNeg) v3) then J66  else gd (v9 < 0 ∨ 256 ≤ v9.toNatClampNeg) (if 0 < (lg_cmp v5 (mrh v9.toNatClampNeg)) then J66  else J67 1)) else J66 ) else J66 )))
def F_M_hasAround (mrc : Int32) (mro : Nat → Int32) (mrt : Nat → Int32) (mrm : Nat → Int32) (mrl : Nat → Int64) (mrh : Nat → Int64) (a1 : Int32) (a2 : Int32) (a3 : Int64) (a4 : Int64) (a5 : Int32) : Option (Int32) :=
  ob1 (F_M_hasAround_L6 mrc mro mrt mrm mrl mrh a1 a2 a3 a4 a5 fu 0 0) (fun v8_17 => gd (¬ vp_nar .boolean v8_17 = v8_17) (some v8_17))
set_option maxHeartbeats 4000000 in
set_option maxRecDepth 100000 in
theorem t_M_hasAround_L6 {p : Program} {l : Launch} {e : Env} {s : State} {m : MethodId} {args : Array Value} {below : List Frame} {meth : Method} {c : Code} {A : Nat → Prop} {g : va_G} {cI cJ cZ : ClassId} {ad : Nat → Nat} {rest : va_W} (K : kX p s m args meth c "LockTableModel" prog_6_method_34_code 11 (some .boolean) A g (kty cI cJ cZ)) {Q : State → Prop} (mth : Int32) (mst : Nat → Int32) (mse : Nat → Int32) (mla : Int32) (mmo : Nat → Int32) (mrc : Int32) (mro : Nat → Int32) (mrt : Nat → Int32) (mrm : Nat → Int32) (mrl : Nat → Int64) (mrh : Nat → Int64) (mwk : Nat → Int32) (mwt : Nat → Int32) (mwm : Nat → Int32) (mwl : Nat → Int64) (mwh : Nat → Int64) (mwi : Nat → Int32) (mwc : Nat → Int32) (mwx : Nat → Int32) (mar : Int32) (mli : Int32) (mgr : Int32) (mgo : Nat → Int32) (mre : Nat → Int32) (mfr : Int32) (v1 : Int32) (v2 : Int32) (v3 : Int64) (v5 : Int64) (v7 : Int32) : ∀ (n : Nat) (v8 : Int32) (v9 : Int32) (o_v8 : Int32) (H : Heap) (locs : List Loc) (ls : Array Slot), F_M_hasAround_L6 mrc mro mrt mrm mrl mrh v1 v2 v3 v5 v7 n v8 v9 = some o_v8 → va_P g kcl (wM cI cJ cZ ad mth mst mse mla mmo mrc mro mrt mrm mrl mrh mwk mwt mwm mwl mwh mwi mwc mwx mar mli mgr mgo mre mfr rest) H → va_D A (wM cI cJ cZ ad mth mst mse mla mmo mrc mro mrt mrm mrl mrh mwk mwt mwm mwl mwh mwi mwc mwx mar mli mgr mgo mre mfr rest) → va_S A s.heap H locs → lv_has ls 11 [(0, .ref (ad 0)), (1, .int v1), (2, .int v2), (3, .long v3), (5, .long v5), (7, .int v7), (8, .int v8), (9, .int v9)] → (∀ (H : Heap) (locs : List Loc) (ls : Array Slot), va_P g kcl (wM cI cJ cZ ad mth mst mse mla mmo mrc mro mrt mrm mrl mrh mwk mwt mwm mwl mwh mwi mwc mwx mar mli mgr mgo mre mfr rest) H → va_D A (wM cI cJ cZ ad mth mst mse mla mmo mrc mro mrt mrm mrl mrh mwk mwt mwm mwl mwh mwi mwc mwx mar mli mgr mgo mre mfr rest) → va_S A s.heap H locs → lv_has ls 11 [(8, .int o_v8)] → W p l e ({ frames := 1, cells := 0, slots := 0, locals := 21 }) s m args below meth c H locs 0 0 Q (F0 m 112 ls [])) → W p l e ({ frames := 1, cells := 0, slots := 0, locals := 21 }) s m args below meth c H locs 0 0 Q (F0 m 6 ls []) := by
  obtain ⟨hx, hb, hr, hml, hown, hts, hlocks, hK, hA, hE⟩ := id K
  intro n
  induction n with
  | zero =>
    intro v8 v9 o_v8 H locs ls hF
    rw [F_M_hasAround_L6] at hF
    cases hF
  | succ n ih =>
    intro v8 v9 o_v8 H locs ls hF hP hD hS hl hQ
    rw [F_M_hasAround_L6] at hF
    refine lv_iload hx hb d_M_hasAround_6 (lv_at hl 7 rfl) ?_
    refine lv_aload_n hx hb d_M_hasAround_8 rfl (lv_at hl 0 rfl) ?_
    refine va_get (D := g) (ci := 3) (v := .int mrc) (C := kR3) (T := kT3) (N := 25) hx hb hts kw3 hown hK hP 0 rfl rfl 5 (by decide) (hts _ wm_676) (fun _ h9 => h9) rfl d_M_hasAround_9 ?_
    refine lv_icmp_ge (tgt := 112) hx hb d_M_hasAround_12 (by decide) (fun hc_1 => ?_) (fun hc_1 => ?_)
    · have hF := it_t hF hc_1
      cases hF
      exact hQ H locs ls hP hD hS (lv_sub hl [6] rfl)
    · have hF := it_f hF hc_1
      refine lv_aload_n hx hb d_M_hasAround_15 rfl (lv_at hl 0 rfl) ?_
      refine va_get (D := g) (ci := 3) (v := .ref (ad 4)) (C := kR3) (T := kT3) (N := 25) hx hb hts kw3 hown hK hP 0 rfl rfl 6 (by decide) (hts _ wm_677) (fun _ h9 => h9) rfl d_M_hasAround_16 ?_
      refine lv_iload hx hb d_M_hasAround_19 (lv_at hl 7 rfl) ?_
      obtain ⟨hg_2, hF⟩ := gd_inv hF
      refine va_iald hx hb hK hP 4 0 rfl rfl hg_2 d_M_hasAround_21 ?_
      refine lv_iload_n hx hb d_M_hasAround_22 rfl (lv_at hl 1 rfl) ?_
      obtain ⟨J67, eJ67, hF⟩ := jn1_inv hF
      have hJ67 : ∀ (s_3 : Int32) (H : Heap) (locs : List Loc) (ls : Array Slot), J67 s_3 = some o_v8 → va_P g kcl (wM cI cJ cZ ad mth mst mse mla mmo mrc mro mrt mrm mrl mrh mwk mwt mwm mwl mwh mwi mwc mwx mar mli mgr mgo mre mfr rest) H → va_D A (wM cI cJ cZ ad mth mst mse mla mmo mrc mro mrt mrm mrl mrh mwk mwt mwm mwl mwh mwi mwc mwx mar mli mgr mgo mre mfr rest) → va_S A s.heap H locs → lv_has ls 11 [(0, .ref (ad 0)), (1, .int v1), (2, .int v2), (3, .long v3), (5, .long v5), (7, .int v7), (8, .int v8), (9, .int v9)] → W p l e ({ frames := 1, cells := 0, slots := 0, locals := 21 }) s m args below meth c H locs 0 0 Q (F0 m 67 ls [.int s_3]) := by
        intro s_3 H locs ls hF hP hD hS hl
        rw [eJ67] at hF
        refine lv_istore (lv' := [(10, .int s_3), (0, .ref (ad 0)), (1, .int v1), (2, .int v2), (3, .long v3), (5, .long v5), (7, .int v7), (8, .int v8), (9, .int v9)]) hx hb d_M_hasAround_67 hl (by decide) rfl (fun ls hl => ?_)
        refine lv_iload hx hb d_M_hasAround_69 (lv_at hl 7 rfl) ?_
        refine lv_if_ne (tgt := 99) hx hb d_M_hasAround_71 (by decide) (fun hc_4 => ?_) (fun hc_4 => ?_)
        · have hF := it_f hF hc_4
          refine lv_iconst (v := 1) hx hb d_M_hasAround_99 (by decide) ?_
          refine lv_goto (tgt := 104) hx hb d_M_hasAround_100 (by decide) ?_
          refine lv_istore (lv' := [(8, .int 1), (10, .int s_3), (0, .ref (ad 0)), (1, .int v1), (2, .int v2), (3, .long v3), (5, .long v5), (7, .int v7), (9, .int v9)]) hx hb d_M_hasAround_104 hl (by decide) rfl (fun ls hl => ?_)
          refine lv_iinc (v := v9 + 1) (lv' := [(9, .int (v9 + 1)), (8, .int 1), (10, .int s_3), (0, .ref (ad 0)), (1, .int v1), (2, .int v2), (3, .long v3), (5, .long v5), (7, .int v7)]) hx hb d_M_hasAround_106 hl (k := 8) rfl rfl (by decide) rfl (fun ls hl => ?_)
          refine lv_goto (tgt := 6) hx hb d_M_hasAround_109 (by decide) ?_
          exact ih _ _ _ H locs ls hF hP hD hS (lv_sub hl [3, 4, 5, 6, 7, 8, 1, 0] rfl) hQ
        · have hF := it_t hF hc_4
          refine lv_iload hx hb d_M_hasAround_74 (lv_at hl 0 rfl) ?_
          refine lv_if_eq (tgt := 103) hx hb d_M_hasAround_76 (by decide) (fun hc_5 => ?_) (fun hc_5 => ?_)
          · have hF := it_t hF hc_5
            refine lv_iconst (v := 0) hx hb d_M_hasAround_103 (by decide) ?_
            refine lv_istore (lv' := [(8, .int 0), (10, .int s_3), (0, .ref (ad 0)), (1, .int v1), (2, .int v2), (3, .long v3), (5, .long v5), (7, .int v7), (9, .int v9)]) hx hb d_M_hasAround_104 hl (by decide) rfl (fun ls hl => ?_)
            refine lv_iinc (v := v9 + 1) (lv' := [(9, .int (v9 + 1)), (8, .int 0), (10, .int s_3), (0, .ref (ad 0)), (1, .int v1), (2, .int v2), (3, .long v3), (5, .long v5), (7, .int v7)]) hx hb d_M_hasAround_106 hl (k := 8) rfl rfl (by decide) rfl (fun ls hl => ?_)
            refine lv_goto (tgt := 6) hx hb d_M_hasAround_109 (by decide) ?_
            exact ih _ _ _ H locs ls hF hP hD hS (lv_sub hl [3, 4, 5, 6, 7, 8, 1, 0] rfl) hQ
          · have hF := it_f hF hc_5
            refine lv_iload hx hb d_M_hasAround_79 (lv_at hl 6 rfl) ?_
            refine lv_if_lt (tgt := 99) hx hb d_M_hasAround_81 (by decide) (fun hc_6 => ?_) (fun hc_6 => ?_)
            · have hF := it_t hF hc_6
              refine lv_iconst (v := 1) hx hb d_M_hasAround_99 (by decide) ?_
              refine lv_goto (tgt := 104) hx hb d_M_hasAround_100 (by decide) ?_
              refine lv_istore (lv' := [(8, .int 1), (10, .int s_3), (0, .ref (ad 0)), (1, .int v1), (2, .int v2), (3, .long v3), (5, .long v5), (7, .int v7), (9, .int v9)]) hx hb d_M_hasAround_104 hl (by decide) rfl (fun ls hl => ?_)
              refine lv_iinc (v := v9 + 1) (lv' := [(9, .int (v9 + 1)), (8, .int 1), (10, .int s_3), (0, .ref (ad 0)), (1, .int v1), (2, .int v2), (3, .long v3), (5, .long v5), (7, .int v7)]) hx hb d_M_hasAround_106 hl (k := 8) rfl rfl (by decide) rfl (fun ls hl => ?_)
              refine lv_goto (tgt := 6) hx hb d_M_hasAround_109 (by decide) ?_
              exact ih _ _ _ H locs ls hF hP hD hS (lv_sub hl [3, 4, 5, 6, 7, 8, 1, 0] rfl) hQ
            · have hF := it_f hF hc_6
              refine lv_aload_n hx hb d_M_hasAround_84 rfl (lv_at hl 1 rfl) ?_
              refine va_get (D := g) (ci := 3) (v := .ref (ad 6)) (C := kR3) (T := kT3) (N := 25) hx hb hts kw3 hown hK hP 0 rfl rfl 8 (by decide) (hts _ wm_679) (fun _ h9 => h9) rfl d_M_hasAround_85 ?_
              refine lv_iload hx hb d_M_hasAround_88 (lv_at hl 8 rfl) ?_
              obtain ⟨hg_7, hF⟩ := gd_inv hF
              refine va_iald hx hb hK hP 6 0 rfl rfl hg_7 d_M_hasAround_90 ?_
              refine lv_iload hx hb d_M_hasAround_91 (lv_at hl 6 rfl) ?_
              obtain ⟨r_8, hG, hF⟩ := ob1_inv hF
              refine ksi K hP hD hS (c_M_rangeCovers l g (kty cI cJ cZ) (wM cI cJ cZ ad mth mst mse mla mmo mrc mro mrt mrm mrl mrh mwk mwt mwm mwl mwh mwi mwc mwx mar mli mgr mgo mre mfr rest) (mrm v9.toNatClampNeg) v7 r_8 hG) wm_861 wm_859 wm_860 wm_50 hd_M_rangeCovers rfl rfl ⟨Nat.le_of_ble_eq_true rfl, Nat.le_of_ble_eq_true rfl⟩ ⟨Nat.zero_le _, Nat.zero_le _⟩ hl.1 (rest := []) rfl (Nat.le_of_ble_eq_true rfl) d_M_hasAround_93 (fun H locs hP hD hS => ?_)
              refine lv_if_eq (tgt := 103) hx hb d_M_hasAround_96 (by decide) (fun hc_9 => ?_) (fun hc_9 => ?_)
              · have hF := it_t hF hc_9
                refine lv_iconst (v := 0) hx hb d_M_hasAround_103 (by decide) ?_
                refine lv_istore (lv' := [(8, .int 0), (10, .int s_3), (0, .ref (ad 0)), (1, .int v1), (2, .int v2), (3, .long v3), (5, .long v5), (7, .int v7), (9, .int v9)]) hx hb d_M_hasAround_104 hl (by decide) rfl (fun ls hl => ?_)
                refine lv_iinc (v := v9 + 1) (lv' := [(9, .int (v9 + 1)), (8, .int 0), (10, .int s_3), (0, .ref (ad 0)), (1, .int v1), (2, .int v2), (3, .long v3), (5, .long v5), (7, .int v7)]) hx hb d_M_hasAround_106 hl (k := 8) rfl rfl (by decide) rfl (fun ls hl => ?_)
                refine lv_goto (tgt := 6) hx hb d_M_hasAround_109 (by decide) ?_
                exact ih _ _ _ H locs ls hF hP hD hS (lv_sub hl [3, 4, 5, 6, 7, 8, 1, 0] rfl) hQ
              · have hF := it_f hF hc_9
                refine lv_iconst (v := 1) hx hb d_M_hasAround_99 (by decide) ?_
                refine lv_goto (tgt := 104) hx hb d_M_hasAround_100 (by decide) ?_
                refine lv_istore (lv' := [(8, .int 1), (10, .int s_3), (0, .ref (ad 0)), (1, .int v1), (2, .int v2), (3, .long v3), (5, .long v5), (7, .int v7), (9, .int v9)]) hx hb d_M_hasAround_104 hl (by decide) rfl (fun ls hl => ?_)
                refine lv_iinc (v := v9 + 1) (lv' := [(9, .int (v9 + 1)), (8, .int 1), (10, .int s_3), (0, .ref (ad 0)), (1, .int v1), (2, .int v2), (3, .long v3), (5, .long v5), (7, .int v7)]) hx hb d_M_hasAround_106 hl (k := 8) rfl rfl (by decide) rfl (fun ls hl => ?_)
                refine lv_goto (tgt := 6) hx hb d_M_hasAround_109 (by decide) ?_
                exact ih _ _ _ H locs ls hF hP hD hS (lv_sub hl [3, 4, 5, 6, 7, 8, 1, 0] rfl) hQ
      obtain ⟨J66, eJ66, hF⟩ := jn0_inv hF
      have hJ66 : ∀  (H : Heap) (locs : List Loc) (ls : Array Slot), J66  = some o_v8 → va_P g kcl (wM cI cJ cZ ad mth mst mse mla mmo mrc mro mrt mrm mrl mrh mwk mwt mwm mwl mwh mwi mwc mwx mar mli mgr mgo mre mfr rest) H → va_D A (wM cI cJ cZ ad mth mst mse mla mmo mrc mro mrt mrm mrl mrh mwk mwt mwm mwl mwh mwi mwc mwx mar mli mgr mgo mre mfr rest) → va_S A s.heap H locs → lv_has ls 11 [(0, .ref (ad 0)), (1, .int v1), (2, .int v2), (3, .long v3), (5, .long v5), (7, .int v7), (8, .int v8), (9, .int v9)] → W p l e ({ frames := 1, cells := 0, slots := 0, locals := 21 }) s m args below meth c H locs 0 0 Q (F0 m 66 ls []) := by
        intro  H locs ls hF hP hD hS hl
        rw [eJ66] at hF
        refine lv_iconst (v := 0) hx hb d_M_hasAround_66 (by decide) ?_
        exact hJ67 _ H locs ls hF hP hD hS (lv_sub hl [0, 1, 2, 3, 4, 5, 6, 7] rfl)
      refine lv_icmp_ne (tgt := 66) hx hb d_M_hasAround_23 (by decide) (fun hc_10 => ?_) (fun hc_10 => ?_)
      · have hF := it_f hF hc_10
        exact hJ66  H locs ls hF hP hD hS (lv_sub hl [0, 1, 2, 3, 4, 5, 6, 7] rfl)
      · have hF := it_t hF hc_10
        refine lv_aload_n hx hb d_M_hasAround_26 rfl (lv_at hl 0 rfl) ?_
        refine va_get (D := g) (ci := 3) (v := .ref (ad 5)) (C := kR3) (T := kT3) (N := 25) hx hb hts kw3 hown hK hP 0 rfl rfl 7 (by decide) (hts _ wm_678) (fun _ h9 => h9) rfl d_M_hasAround_27 ?_
        refine lv_iload hx hb d_M_hasAround_30 (lv_at hl 7 rfl) ?_
        obtain ⟨hg_11, hF⟩ := gd_inv hF
        refine va_iald hx hb hK hP 5 0 rfl rfl hg_11 d_M_hasAround_32 ?_
        refine lv_iload_n hx hb d_M_hasAround_33 rfl (lv_at hl 2 rfl) ?_
        refine lv_icmp_ne (tgt := 66) hx hb d_M_hasAround_34 (by decide) (fun hc_12 => ?_) (fun hc_12 => ?_)
        · have hF := it_f hF hc_12
          exact hJ66  H locs ls hF hP hD hS (lv_sub hl [0, 1, 2, 3, 4, 5, 6, 7] rfl)
        · have hF := it_t hF hc_12
          refine lv_aload_n hx hb d_M_hasAround_37 rfl (lv_at hl 0 rfl) ?_
          refine va_get (D := g) (ci := 3) (v := .ref (ad 7)) (C := kR3) (T := kT3) (N := 25) hx hb hts kw3 hown hK hP 0 rfl rfl 9 (by decide) (hts _ wm_680) (fun _ h9 => h9) rfl d_M_hasAround_38 ?_
          refine lv_iload hx hb d_M_hasAround_41 (lv_at hl 7 rfl) ?_
          obtain ⟨hg_13, hF⟩ := gd_inv hF
          refine va_lald hx hb hK hP 7 1 rfl rfl hg_13 d_M_hasAround_43 ?_
          refine lv_lload_n hx hb d_M_hasAround_44 rfl (lv_at hl 3 rfl) ?_
          refine W.lcmp hx hb d_M_hasAround_45 ?_
          refine lv_if_gt (tgt := 66) hx hb d_M_hasAround_46 (by decide) (fun hc_14 => ?_) (fun hc_14 => ?_)
          · have hF := it_t hF hc_14
            exact hJ66  H locs ls hF hP hD hS (lv_sub hl [0, 1, 2, 3, 4, 5, 6, 7] rfl)
          · have hF := it_f hF hc_14
            refine lv_lload hx hb d_M_hasAround_49 (lv_at hl 4 rfl) ?_
            refine lv_aload_n hx hb d_M_hasAround_51 rfl (lv_at hl 0 rfl) ?_
            refine va_get (D := g) (ci := 3) (v := .ref (ad 8)) (C := kR3) (T := kT3) (N := 25) hx hb hts kw3 hown hK hP 0 rfl rfl 10 (by decide) (hts _ wm_681) (fun _ h9 => h9) rfl d_M_hasAround_52 ?_
            refine lv_iload hx hb d_M_hasAround_55 (lv_at hl 7 rfl) ?_
            obtain ⟨hg_15, hF⟩ := gd_inv hF
            refine va_lald hx hb hK hP 8 1 rfl rfl hg_15 d_M_hasAround_57 ?_
            refine W.lcmp hx hb d_M_hasAround_58 ?_
            refine lv_if_gt (tgt := 66) hx hb d_M_hasAround_59 (by decide) (fun hc_16 => ?_) (fun hc_16 => ?_)
            · have hF := it_t hF hc_16
              exact hJ66  H locs ls hF hP hD hS (lv_sub hl [0, 1, 2, 3, 4, 5, 6, 7] rfl)
            · have hF := it_f hF hc_16
              refine lv_iconst (v := 1) hx hb d_M_hasAround_62 (by decide) ?_
              refine lv_goto (tgt := 67) hx hb d_M_hasAround_63 (by decide) ?_
              exact hJ67 _ H locs ls hF hP hD hS (lv_sub hl [0, 1, 2, 3, 4, 5, 6, 7] rfl)
set_option maxHeartbeats 4000000 in
set_option maxRecDepth 100000 in
theorem t_M_hasAround {p : Program} {l : Launch} {e : Env} {s : State} {m : MethodId} {args : Array Value} {below : List Frame} {meth : Method} {c : Code} {A : Nat → Prop} {g : va_G} {cI cJ cZ : ClassId} {ad : Nat → Nat} {rest : va_W} (K : kX p s m args meth c "LockTableModel" prog_6_method_34_code 11 (some .boolean) A g (kty cI cJ cZ)) (mth : Int32) (mst : Nat → Int32) (mse : Nat → Int32) (mla : Int32) (mmo : Nat → Int32) (mrc : Int32) (mro : Nat → Int32) (mrt : Nat → Int32) (mrm : Nat → Int32) (mrl : Nat → Int64) (mrh : Nat → Int64) (mwk : Nat → Int32) (mwt : Nat → Int32) (mwm : Nat → Int32) (mwl : Nat → Int64) (mwh : Nat → Int64) (mwi : Nat → Int32) (mwc : Nat → Int32) (mwx : Nat → Int32) (mar : Int32) (mli : Int32) (mgr : Int32) (mgo : Nat → Int32) (mre : Nat → Int32) (mfr : Int32) (a1 : Int32) (a2 : Int32) (a3 : Int64) (a4 : Int64) (a5 : Int32) (r : Int32) (hF : F_M_hasAround mrc mro mrt mrm mrl mrh a1 a2 a3 a4 a5 = some r) {H : Heap} {locs : List Loc} {ls : Array Slot} (hP : va_P g kcl (wM cI cJ cZ ad mth mst mse mla mmo mrc mro mrt mrm mrl mrh mwk mwt mwm mwl mwh mwi mwc mwx mar mli mgr mgo mre mfr rest) H) (hD : va_D A (wM cI cJ cZ ad mth mst mse mla mmo mrc mro mrt mrm mrl mrh mwk mwt mwm mwl mwh mwi mwc mwx mar mli mgr mgo mre mfr rest)) (hS : va_S A s.heap H locs) (hl : lv_has ls 11 [(0, .ref (ad 0)), (1, .int a1), (2, .int a2), (3, .long a3), (5, .long a4), (7, .int a5)]) : W p l e ({ frames := 1, cells := 0, slots := 0, locals := 21 }) s m args below meth c H locs 0 0 (MQ below (kQi g (kty cI cJ cZ) (wM cI cJ cZ ad mth mst mse mla mmo mrc mro mrt mrm mrl mrh mwk mwt mwm mwl mwh mwi mwc mwx mar mli mgr mgo mre mfr rest) A r) args s 0 0 A) (F0 m 0 ls []) := by
  obtain ⟨hx, hb, hr, hml, hown, hts, hlocks, hK, hA, hE⟩ := id K
  unfold F_M_hasAround at hF
  refine lv_iconst (v := 0) hx hb d_M_hasAround_0 (by decide) ?_
  refine lv_istore (lv' := [(8, .int 0), (0, .ref (ad 0)), (1, .int a1), (2, .int a2), (3, .long a3), (5, .long a4), (7, .int a5)]) hx hb d_M_hasAround_1 hl (by decide) rfl (fun ls hl => ?_)
  refine lv_iconst (v := 0) hx hb d_M_hasAround_3 (by decide) ?_
  refine lv_istore (lv' := [(9, .int 0), (8, .int 0), (0, .ref (ad 0)), (1, .int a1), (2, .int a2), (3, .long a3), (5, .long a4), (7, .int a5)]) hx hb d_M_hasAround_4 hl (by decide) rfl (fun ls hl => ?_)
  obtain ⟨v8_17, hG, hF⟩ := ob1_inv hF
  refine t_M_hasAround_L6 K mth mst mse mla mmo mrc mro mrt mrm mrl mrh mwk mwt mwm mwl mwh mwi mwc mwx mar mli mgr mgo mre mfr a1 a2 a3 a4 a5 fu _ _ _ H locs ls hG hP hD hS (lv_sub hl [2, 3, 4, 5, 6, 7, 1, 0] rfl) (fun H locs ls hP hD hS hl => ?_)
  refine lv_iload hx hb d_M_hasAround_112 (lv_at hl 0 rfl) ?_
  obtain ⟨hz_18, hF⟩ := gd_inv hF
  cases hF
  exact krz K hP hD hS d_M_hasAround_114 (nz_of hz_18) rfl
theorem c_M_hasAround (l : Launch) (g : va_G) (cI cJ cZ : ClassId) (ad : Nat → Nat) (mth : Int32) (mst : Nat → Int32) (mse : Nat → Int32) (mla : Int32) (mmo : Nat → Int32) (mrc : Int32) (mro : Nat → Int32) (mrt : Nat → Int32) (mrm : Nat → Int32) (mrl : Nat → Int64) (mrh : Nat → Int64) (mwk : Nat → Int32) (mwt : Nat → Int32) (mwm : Nat → Int32) (mwl : Nat → Int64) (mwh : Nat → Int64) (mwi : Nat → Int32) (mwc : Nat → Int32) (mwx : Nat → Int32) (mar : Int32) (mli : Int32) (mgr : Int32) (mgo : Nat → Int32) (mre : Nat → Int32) (mfr : Int32) (rest : va_W) (a1 : Int32) (a2 : Int32) (a3 : Int64) (a4 : Int64) (a5 : Int32) (r : Int32) (hF : F_M_hasAround mrc mro mrt mrm mrl mrh a1 a2 a3 a4 a5 = some r) : Ci l y_M_hasAround prog_6_method_34_code 11 (some .boolean) ({ frames := 1, cells := 0, slots := 0, locals := 21 }) [.ref (ad 0), .int a1, .int a2, .long a3, .long a4, .int a5] g (kty cI cJ cZ) (wM cI cJ cZ ad mth mst mse mla mmo mrc mro mrt mrm mrl mrh mwk mwt mwm mwl mwh mwi mwc mwx mar mli mgr mgo mre mfr rest) (wM cI cJ cZ ad mth mst mse mla mmo mrc mro mrt mrm mrl mrh mwk mwt mwm mwl mwh mwi mwc mwx mar mli mgr mgo mre mfr rest) r :=
  Ci.of (by decide) (Nat.le_of_ble_eq_true rfl) (fun p e s m below meth c A ls K hP hD hS hl => t_M_hasAround K mth mst mse mla mmo mrc mro mrt mrm mrl mrh mwk mwt mwm mwl mwh mwi mwc mwx mar mli mgr mgo mre mfr a1 a2 a3 a4 a5 r hF hP hD hS hl)
def F_M_range (mth : Int32) (mst : Nat → Int32) (mse : Nat → Int32) (mmo : Nat → Int32) (mrc : Int32) (mro : Nat → Int32) (mrt : Nat → Int32) (mrm : Nat → Int32) (mrl : Nat → Int64) (mrh : Nat → Int64) (mwk : Nat → Int32) (mwt : Nat → Int32) (mwm : Nat → Int32) (mwl : Nat → Int64) (mwh : Nat → Int64) (mwi : Nat → Int32) (mwc : Nat → Int32) (mwx : Nat → Int32) (mar : Int32) (mgr : Int32) (mgo : Nat → Int32) (mre : Nat → Int32) (mfr : Int32) (a1 : Int32) (a2 : Int32) (a3 : Int64) (a4 : Int64) (a5 : Int32) : Option (Int32 × Int32 × (Nat → Int32) × (Nat → Int32) × Int32 × (Nat → Int32) × (Nat → Int32) × (Nat → Int32) × (Nat → Int64) × (Nat → Int64) × (Nat → Int32) × (Nat → Int32) × (Nat → Int32) × (Nat → Int64) × (Nat → Int64) × (Nat → Int32) × (Nat → Int32) × (Nat → Int32) × Int32 × Int32 × (Nat → Int32) × (Nat → Int32) × Int32) :=
  ob1 (F_M_isOwner a1) (fun r_1 => jn1 (fun (s_2 : Int32) => ob1 (F_M_isOwner a1) (fun r_3 => jn1 (fun (s_4 : Int32) => ob1 (F_M_isOwner a1) (fun r_5 => jn1 (fun (s_6 : Int32) => jn1 (fun (s_7 : Int32) => jn3 (fun (s_8 : Int32) (s_9 : Int32) (s_10 : Int32) => ob2 (F_M_refused mth s_8 s_9 s_10) (fun r_11 mth_12 => if r_11 = 0 then ob1 (F_M_tableCovers s_6 a5) (fun r_14 => if r_14 = 0 then ob1 (F_M_hasAround mrc mro mrt mrm mrl mrh a1 a2 a3 a4 a5) (fun r_16 => if r_16 = 0 then ob1 (F_M_rangesOf mrc mro mrt a1 a2) (fun r_18 => if r_18 = 8 then jn3 (fun (s_45 : Int32) (s_46 : Int32) (s_47 : Int32) => ob20 (F_M_escalated mst mse mmo mrc mro mrt mrm mrl mrh mwk mwt mwm mwl mwh mwi mwc mwx mar 0 mgo mre mfr s_45 s_46 s_47) (fun r_48 mst_49 mmo_50 mrc_51 mro_52 mrt_53 mrm_54 mrl_55 mrh_56 mwk_57 mwt_58 mwm_59 mwi_60 mwc_61 mwx_62 mar_63 mgr_64 mgo_65 mre_66 mfr_67 => some (r_48, mth_12, mst_49, mmo_50, mrc_51, mro_52, mrt_53, mrm_54, mrl_55, mrh_56, mwk_57, mwt_58, mwm_59, mwl, mwh, mwi_60, mwc_61, mwx_62, mar_63, mgr_64, mgo_65, mre_66, mfr_67))) (fun J224 => if a5 = 2 then J224 a1 a2 0 else J224 a1 a2 1) else ob1 (F_M_counted mst mmo mrc) (fun r_20 => if r_20 < 256 then gd (a1 < 0 ∨ 8 ≤ a1.toNatClampNeg) (gd (a1 < 0 ∨ 8 ≤ a1.toNatClampNeg) (gd (a1 < 0 ∨ 8 ≤ a1.toNatClampNeg) (gd (a1 < 0 ∨ 8 ≤ a1.toNatClampNeg) (gd (a1 < 0 ∨ 8 ≤ a1.toNatClampNeg) (ob1 (F_M_hasAround mrc mro mrt mrm mrl mrh a1 a2 a3 a4 (-1)) (fun r_27 => ob17 (F_M_ask mst mse mmo mrc mro mrt mrm mrl mrh (upd mwk a1.toNatClampNeg 1) (upd mwt a1.toNatClampNeg a2) (upd mwm a1.toNatClampNeg a5) (vp_updL mwl a1.toNatClampNeg a3) (vp_updL mwh a1.toNatClampNeg a4) mwi mwc mwx mar 0 mgo mre mfr a1 r_27) (fun r_28 mst_29 mmo_30 mrc_31 mro_32 mrt_33 mrm_34 mrl_35 mrh_36 mwi_37 mwc_38 mwx_39 mar_40 mgr_41 mgo_42 mre_43 mfr_44 => some (r_28, mth_12, mst_29, mmo_30, mrc_31, mro_32, mrt_33, mrm_34, mrl_35, mrh_36, upd mwk a1.toNatClampNeg 1, upd mwt a1.toNatClampNeg a2, upd mwm a1.toNatClampNeg a5, vp_updL mwl a1.toNatClampNeg a3, vp_updL mwh a1.toNatClampNeg a4, mwi_37, mwc_38, mwx_39, mar_40, mgr_41, mgo_42, mre_43, mfr_44)))))))) else some (3, mth_12, mst, mmo, mrc, mro, mrt, mrm, mrl, mrh, mwk, mwt, mwm, mwl, mwh, mwi, mwc, mwx, mar, 0, mgo, mre, mfr))) else some (0, mth_12, mst, mmo, mrc, mro, mrt, mrm, mrl, mrh, mwk, mwt, mwm, mwl, mwh, mwi, mwc, mwx, mar, 0, mgo, mre, mfr)) else some (0, mth_12, mst, mmo, mrc, mro, mrt, mrm, mrl, mrh, mwk, mwt, mwm, mwl, mwh, mwi, mwc, mwx, mar, 0, mgo, mre, mfr)) else some (0, mth_12, mst, mmo, mrc, mro, mrt, mrm, mrl, mrh, mwk, mwt, mwm, mwl, mwh, mwi, mwc, mwx, mar, mgr, mgo, mre, mfr))) (fun J160 => if s_7 = 0 then J160 s_2 s_4 1 else J160 s_2 s_4 0)) (fun J143 => if a5 = 2 then if s_6 < 0 then J143 0 else J143 1 else jn0 (J143 1) (fun J138 => if s_6 = 1 then J138  else if s_6 = 3 then J138  else if s_6 = 5 then J138  else J143 0))) (fun J99 => jn0 (J99 (-1)) (fun J98 => if r_5 = 0 then J98  else ob1 (F_M_isTable a2) (fun r_76 => if r_76 = 0 then J98  else gd (((16 * a1) + a2) < 0 ∨ 128 ≤ ((16 * a1) + a2).toNatClampNeg) (J99 (mmo ((16 * a1) + a2).toNatClampNeg))))))) (fun J68 => jn0 (J68 0) (fun J67 => if r_3 = 0 then J67  else gd (a1 < 0 ∨ 8 ≤ a1.toNatClampNeg) (if (mst a1.toNatClampNeg) = 1 then J67  else J68 1))))) (fun J44 => jn0 (J44 1) (fun J39 => if r_1 = 0 then J39  else ob1 (F_M_isTable a2) (fun r_83 => if r_83 = 0 then J39  else if 0 < (lg_cmp a3 a4) then J39  else jn0 (J44 0) (fun J43 => if a5 = 2 then J43  else if a5 = 4 then J43  else if a5 = 5 then J43  else J39 )))))
set_option maxHeartbeats 4000000 in
set_option maxRecDepth 100000 in
theorem t_M_range {p : Program} {l : Launch} {e : Env} {s : State} {m : MethodId} {args : Array Value} {below : List Frame} {meth : Method} {c : Code} {A : Nat → Prop} {g : va_G} {cI cJ cZ : ClassId} {ad : Nat → Nat} {rest : va_W} (K : kX p s m args meth c "LockTableModel" prog_6_method_35_code 12 (some .int) A g (kty cI cJ cZ)) (mth : Int32) (mst : Nat → Int32) (mse : Nat → Int32) (mla : Int32) (mmo : Nat → Int32) (mrc : Int32) (mro : Nat → Int32) (mrt : Nat → Int32) (mrm : Nat → Int32) (mrl : Nat → Int64) (mrh : Nat → Int64) (mwk : Nat → Int32) (mwt : Nat → Int32) (mwm : Nat → Int32) (mwl : Nat → Int64) (mwh : Nat → Int64) (mwi : Nat → Int32) (mwc : Nat → Int32) (mwx : Nat → Int32) (mar : Int32) (mli : Int32) (mgr : Int32) (mgo : Nat → Int32) (mre : Nat → Int32) (mfr : Int32) (a1 : Int32) (a2 : Int32) (a3 : Int64) (a4 : Int64) (a5 : Int32) (r : Int32) (o_mth : Int32) (o_mst : Nat → Int32) (o_mmo : Nat → Int32) (o_mrc : Int32) (o_mro : Nat → Int32) (o_mrt : Nat → Int32) (o_mrm : Nat → Int32) (o_mrl : Nat → Int64) (o_mrh : Nat → Int64) (o_mwk : Nat → Int32) (o_mwt : Nat → Int32) (o_mwm : Nat → Int32) (o_mwl : Nat → Int64) (o_mwh : Nat → Int64) (o_mwi : Nat → Int32) (o_mwc : Nat → Int32) (o_mwx : Nat → Int32) (o_mar : Int32) (o_mgr : Int32) (o_mgo : Nat → Int32) (o_mre : Nat → Int32) (o_mfr : Int32) (hF : F_M_range mth mst mse mmo mrc mro mrt mrm mrl mrh mwk mwt mwm mwl mwh mwi mwc mwx mar mgr mgo mre mfr a1 a2 a3 a4 a5 = some (r, o_mth, o_mst, o_mmo, o_mrc, o_mro, o_mrt, o_mrm, o_mrl, o_mrh, o_mwk, o_mwt, o_mwm, o_mwl, o_mwh, o_mwi, o_mwc, o_mwx, o_mar, o_mgr, o_mgo, o_mre, o_mfr)) {H : Heap} {locs : List Loc} {ls : Array Slot} (hP : va_P g kcl (wM cI cJ cZ ad mth mst mse mla mmo mrc mro mrt mrm mrl mrh mwk mwt mwm mwl mwh mwi mwc mwx mar mli mgr mgo mre mfr rest) H) (hD : va_D A (wM cI cJ cZ ad mth mst mse mla mmo mrc mro mrt mrm mrl mrh mwk mwt mwm mwl mwh mwi mwc mwx mar mli mgr mgo mre mfr rest)) (hS : va_S A s.heap H locs) (hl : lv_has ls 12 [(0, .ref (ad 0)), (1, .int a1), (2, .int a2), (3, .long a3), (5, .long a4), (7, .int a5)]) : W p l e ({ frames := 9, cells := 0, slots := 0, locals := 211 }) s m args below meth c H locs 0 0 (MQ below (kQi g (kty cI cJ cZ) (wM cI cJ cZ ad o_mth o_mst mse mla o_mmo o_mrc o_mro o_mrt o_mrm o_mrl o_mrh o_mwk o_mwt o_mwm o_mwl o_mwh o_mwi o_mwc o_mwx o_mar mli o_mgr o_mgo o_mre o_mfr rest) A r) args s 0 0 A) (F0 m 0 ls []) := by
  obtain ⟨hx, hb, hr, hml, hown, hts, hlocks, hK, hA, hE⟩ := id K
  unfold F_M_range at hF
  refine lv_iload_n hx hb d_M_range_0 rfl (lv_at hl 1 rfl) ?_
  obtain ⟨r_1, hG, hF⟩ := ob1_inv hF
  refine ksi K hP hD hS (c_M_isOwner l g (kty cI cJ cZ) (wM cI cJ cZ ad mth mst mse mla mmo mrc mro mrt mrm mrl mrh mwk mwt mwm mwl mwh mwi mwc mwx mar mli mgr mgo mre mfr rest) a1 r_1 hG) wm_757 wm_755 wm_756 wm_50 hd_M_isOwner rfl rfl ⟨Nat.le_of_ble_eq_true rfl, Nat.le_of_ble_eq_true rfl⟩ ⟨Nat.zero_le _, Nat.zero_le _⟩ hl.1 (rest := []) rfl (Nat.le_of_ble_eq_true rfl) d_M_range_1 (fun H locs hP hD hS => ?_)
  obtain ⟨J44, eJ44, hF⟩ := jn1_inv hF
  have hJ44 : ∀ (s_2 : Int32) (H : Heap) (locs : List Loc) (ls : Array Slot), J44 s_2 = some (r, o_mth, o_mst, o_mmo, o_mrc, o_mro, o_mrt, o_mrm, o_mrl, o_mrh, o_mwk, o_mwt, o_mwm, o_mwl, o_mwh, o_mwi, o_mwc, o_mwx, o_mar, o_mgr, o_mgo, o_mre, o_mfr) → va_P g kcl (wM cI cJ cZ ad mth mst mse mla mmo mrc mro mrt mrm mrl mrh mwk mwt mwm mwl mwh mwi mwc mwx mar mli mgr mgo mre mfr rest) H → va_D A (wM cI cJ cZ ad mth mst mse mla mmo mrc mro mrt mrm mrl mrh mwk mwt mwm mwl mwh mwi mwc mwx mar mli mgr mgo mre mfr rest) → va_S A s.heap H locs → lv_has ls 12 [(0, .ref (ad 0)), (1, .int a1), (2, .int a2), (3, .long a3), (5, .long a4), (7, .int a5)] → W p l e ({ frames := 9, cells := 0, slots := 0, locals := 211 }) s m args below meth c H locs 0 0 (MQ below (kQi g (kty cI cJ cZ) (wM cI cJ cZ ad o_mth o_mst mse mla o_mmo o_mrc o_mro o_mrt o_mrm o_mrl o_mrh o_mwk o_mwt o_mwm o_mwl o_mwh o_mwi o_mwc o_mwx o_mar mli o_mgr o_mgo o_mre o_mfr rest) A r) args s 0 0 A) (F0 m 44 ls [.int s_2]) := by
    intro s_2 H locs ls hF hP hD hS hl
    rw [eJ44] at hF
    refine lv_istore (lv' := [(8, .int s_2), (0, .ref (ad 0)), (1, .int a1), (2, .int a2), (3, .long a3), (5, .long a4), (7, .int a5)]) hx hb d_M_range_44 hl (by decide) rfl (fun ls hl => ?_)
    refine lv_iload_n hx hb d_M_range_46 rfl (lv_at hl 2 rfl) ?_
    obtain ⟨r_3, hG, hF⟩ := ob1_inv hF
    refine ksi K hP hD hS (c_M_isOwner l g (kty cI cJ cZ) (wM cI cJ cZ ad mth mst mse mla mmo mrc mro mrt mrm mrl mrh mwk mwt mwm mwl mwh mwi mwc mwx mar mli mgr mgo mre mfr rest) a1 r_3 hG) wm_757 wm_755 wm_756 wm_50 hd_M_isOwner rfl rfl ⟨Nat.le_of_ble_eq_true rfl, Nat.le_of_ble_eq_true rfl⟩ ⟨Nat.zero_le _, Nat.zero_le _⟩ hl.1 (rest := []) rfl (Nat.le_of_ble_eq_true rfl) d_M_range_47 (fun H locs hP hD hS => ?_)
    obtain ⟨J68, eJ68, hF⟩ := jn1_inv hF
    have hJ68 : ∀ (s_4 : Int32) (H : Heap) (locs : List Loc) (ls : Array Slot), J68 s_4 = some (r, o_mth, o_mst, o_mmo, o_mrc, o_mro, o_mrt, o_mrm, o_mrl, o_mrh, o_mwk, o_mwt, o_mwm, o_mwl, o_mwh, o_mwi, o_mwc, o_mwx, o_mar, o_mgr, o_mgo, o_mre, o_mfr) → va_P g kcl (wM cI cJ cZ ad mth mst mse mla mmo mrc mro mrt mrm mrl mrh mwk mwt mwm mwl mwh mwi mwc mwx mar mli mgr mgo mre mfr rest) H → va_D A (wM cI cJ cZ ad mth mst mse mla mmo mrc mro mrt mrm mrl mrh mwk mwt mwm mwl mwh mwi mwc mwx mar mli mgr mgo mre mfr rest) → va_S A s.heap H locs → lv_has ls 12 [(0, .ref (ad 0)), (1, .int a1), (2, .int a2), (3, .long a3), (5, .long a4), (7, .int a5), (8, .int s_2)] → W p l e ({ frames := 9, cells := 0, slots := 0, locals := 211 }) s m args below meth c H locs 0 0 (MQ below (kQi g (kty cI cJ cZ) (wM cI cJ cZ ad o_mth o_mst mse mla o_mmo o_mrc o_mro o_mrt o_mrm o_mrl o_mrh o_mwk o_mwt o_mwm o_mwl o_mwh o_mwi o_mwc o_mwx o_mar mli o_mgr o_mgo o_mre o_mfr rest) A r) args s 0 0 A) (F0 m 68 ls [.int s_4]) := by
      intro s_4 H locs ls hF hP hD hS hl
      rw [eJ68] at hF
      refine lv_istore (lv' := [(9, .int s_4), (0, .ref (ad 0)), (1, .int a1), (2, .int a2), (3, .long a3), (5, .long a4), (7, .int a5), (8, .int s_2)]) hx hb d_M_range_68 hl (by decide) rfl (fun ls hl => ?_)
      refine lv_iload_n hx hb d_M_range_70 rfl (lv_at hl 2 rfl) ?_
      obtain ⟨r_5, hG, hF⟩ := ob1_inv hF
      refine ksi K hP hD hS (c_M_isOwner l g (kty cI cJ cZ) (wM cI cJ cZ ad mth mst mse mla mmo mrc mro mrt mrm mrl mrh mwk mwt mwm mwl mwh mwi mwc mwx mar mli mgr mgo mre mfr rest) a1 r_5 hG) wm_757 wm_755 wm_756 wm_50 hd_M_isOwner rfl rfl ⟨Nat.le_of_ble_eq_true rfl, Nat.le_of_ble_eq_true rfl⟩ ⟨Nat.zero_le _, Nat.zero_le _⟩ hl.1 (rest := []) rfl (Nat.le_of_ble_eq_true rfl) d_M_range_71 (fun H locs hP hD hS => ?_)
      obtain ⟨J99, eJ99, hF⟩ := jn1_inv hF
      have hJ99 : ∀ (s_6 : Int32) (H : Heap) (locs : List Loc) (ls : Array Slot), J99 s_6 = some (r, o_mth, o_mst, o_mmo, o_mrc, o_mro, o_mrt, o_mrm, o_mrl, o_mrh, o_mwk, o_mwt, o_mwm, o_mwl, o_mwh, o_mwi, o_mwc, o_mwx, o_mar, o_mgr, o_mgo, o_mre, o_mfr) → va_P g kcl (wM cI cJ cZ ad mth mst mse mla mmo mrc mro mrt mrm mrl mrh mwk mwt mwm mwl mwh mwi mwc mwx mar mli mgr mgo mre mfr rest) H → va_D A (wM cI cJ cZ ad mth mst mse mla mmo mrc mro mrt mrm mrl mrh mwk mwt mwm mwl mwh mwi mwc mwx mar mli mgr mgo mre mfr rest) → va_S A s.heap H locs → lv_has ls 12 [(0, .ref (ad 0)), (1, .int a1), (2, .int a2), (3, .long a3), (5, .long a4), (7, .int a5), (8, .int s_2), (9, .int s_4)] → W p l e ({ frames := 9, cells := 0, slots := 0, locals := 211 }) s m args below meth c H locs 0 0 (MQ below (kQi g (kty cI cJ cZ) (wM cI cJ cZ ad o_mth o_mst mse mla o_mmo o_mrc o_mro o_mrt o_mrm o_mrl o_mrh o_mwk o_mwt o_mwm o_mwl o_mwh o_mwi o_mwc o_mwx o_mar mli o_mgr o_mgo o_mre o_mfr rest) A r) args s 0 0 A) (F0 m 99 ls [.int s_6]) := by
        intro s_6 H locs ls hF hP hD hS hl
        rw [eJ99] at hF
        refine lv_istore (lv' := [(10, .int s_6), (0, .ref (ad 0)), (1, .int a1), (2, .int a2), (3, .long a3), (5, .long a4), (7, .int a5), (8, .int s_2), (9, .int s_4)]) hx hb d_M_range_99 hl (by decide) rfl (fun ls hl => ?_)
        refine lv_iload hx hb d_M_range_101 (lv_at hl 6 rfl) ?_
        refine lv_iconst (v := 2) hx hb d_M_range_103 (by decide) ?_
        obtain ⟨J143, eJ143, hF⟩ := jn1_inv hF
        have hJ143 : ∀ (s_7 : Int32) (H : Heap) (locs : List Loc) (ls : Array Slot), J143 s_7 = some (r, o_mth, o_mst, o_mmo, o_mrc, o_mro, o_mrt, o_mrm, o_mrl, o_mrh, o_mwk, o_mwt, o_mwm, o_mwl, o_mwh, o_mwi, o_mwc, o_mwx, o_mar, o_mgr, o_mgo, o_mre, o_mfr) → va_P g kcl (wM cI cJ cZ ad mth mst mse mla mmo mrc mro mrt mrm mrl mrh mwk mwt mwm mwl mwh mwi mwc mwx mar mli mgr mgo mre mfr rest) H → va_D A (wM cI cJ cZ ad mth mst mse mla mmo mrc mro mrt mrm mrl mrh mwk mwt mwm mwl mwh mwi mwc mwx mar mli mgr mgo mre mfr rest) → va_S A s.heap H locs → lv_has ls 12 [(0, .ref (ad 0)), (1, .int a1), (2, .int a2), (3, .long a3), (5, .long a4), (7, .int a5), (8, .int s_2), (9, .int s_4), (10, .int s_6)] → W p l e ({ frames := 9, cells := 0, slots := 0, locals := 211 }) s m args below meth c H locs 0 0 (MQ below (kQi g (kty cI cJ cZ) (wM cI cJ cZ ad o_mth o_mst mse mla o_mmo o_mrc o_mro o_mrt o_mrm o_mrl o_mrh o_mwk o_mwt o_mwm o_mwl o_mwh o_mwi o_mwc o_mwx o_mar mli o_mgr o_mgo o_mre o_mfr rest) A r) args s 0 0 A) (F0 m 143 ls [.int s_7]) := by
          intro s_7 H locs ls hF hP hD hS hl
          rw [eJ143] at hF
          refine lv_istore (lv' := [(11, .int s_7), (0, .ref (ad 0)), (1, .int a1), (2, .int a2), (3, .long a3), (5, .long a4), (7, .int a5), (8, .int s_2), (9, .int s_4), (10, .int s_6)]) hx hb d_M_range_143 hl (by decide) rfl (fun ls hl => ?_)
          refine lv_aload_n hx hb d_M_range_145 rfl (lv_at hl 1 rfl) ?_
          refine lv_iload hx hb d_M_range_146 (lv_at hl 7 rfl) ?_
          refine lv_iload hx hb d_M_range_148 (lv_at hl 8 rfl) ?_
          refine lv_iload hx hb d_M_range_150 (lv_at hl 0 rfl) ?_
          obtain ⟨J160, eJ160, hF⟩ := jn3_inv hF
          have hJ160 : ∀ (s_8 : Int32) (s_9 : Int32) (s_10 : Int32) (H : Heap) (locs : List Loc) (ls : Array Slot), J160 s_8 s_9 s_10 = some (r, o_mth, o_mst, o_mmo, o_mrc, o_mro, o_mrt, o_mrm, o_mrl, o_mrh, o_mwk, o_mwt, o_mwm, o_mwl, o_mwh, o_mwi, o_mwc, o_mwx, o_mar, o_mgr, o_mgo, o_mre, o_mfr) → va_P g kcl (wM cI cJ cZ ad mth mst mse mla mmo mrc mro mrt mrm mrl mrh mwk mwt mwm mwl mwh mwi mwc mwx mar mli mgr mgo mre mfr rest) H → va_D A (wM cI cJ cZ ad mth mst mse mla mmo mrc mro mrt mrm mrl mrh mwk mwt mwm mwl mwh mwi mwc mwx mar mli mgr mgo mre mfr rest) → va_S A s.heap H locs → lv_has ls 12 [(0, .ref (ad 0)), (1, .int a1), (2, .int a2), (3, .long a3), (5, .long a4), (7, .int a5), (10, .int s_6)] → W p l e ({ frames := 9, cells := 0, slots := 0, locals := 211 }) s m args below meth c H locs 0 0 (MQ below (kQi g (kty cI cJ cZ) (wM cI cJ cZ ad o_mth o_mst mse mla o_mmo o_mrc o_mro o_mrt o_mrm o_mrl o_mrh o_mwk o_mwt o_mwm o_mwl o_mwh o_mwi o_mwc o_mwx o_mar mli o_mgr o_mgo o_mre o_mfr rest) A r) args s 0 0 A) (F0 m 160 ls [.int s_10, .int s_9, .int s_8, .ref (ad 0)]) := by
            intro s_8 s_9 s_10 H locs ls hF hP hD hS hl
            rw [eJ160] at hF
            obtain ⟨r_11, mth_12, hG, hF⟩ := ob2_inv hF
            refine kci K hP hD hS (c_M_refused l g cI cJ cZ ad mth mst mse mla mmo mrc mro mrt mrm mrl mrh mwk mwt mwm mwl mwh mwi mwc mwx mar mli mgr mgo mre mfr rest s_8 s_9 s_10 r_11 mth_12 hG) wm_761 wm_758 wm_760 wm_20 wm_50 hd_M_refused rfl rfl ⟨Nat.le_of_ble_eq_true rfl, Nat.le_of_ble_eq_true rfl⟩ ⟨Nat.zero_le _, Nat.zero_le _⟩ 3 0 rfl rfl rfl hl.1 (rest := []) rfl (Nat.le_of_ble_eq_true rfl) d_M_range_160 (fun H locs hP hD hS => ?_)
            refine lv_if_eq (tgt := 168) hx hb d_M_range_163 (by decide) (fun hc_13 => ?_) (fun hc_13 => ?_)
            · have hF := it_t hF hc_13
              refine lv_aload_n hx hb d_M_range_168 rfl (lv_at hl 0 rfl) ?_
              refine lv_iconst (v := 0) hx hb d_M_range_169 (by decide) ?_
              refine va_put (D := g) (ci := 3) (v := .int 0) (ty := .int) (C := kR3) (T := kT3) (N := 25) hx hb hts kw3 kt3 ko3 kn3 hown hK hP hD hS 0 rfl rfl 21 (by decide) (hts _ wm_692) (fun _ h9 => h9) rfl (by decide +kernel) rfl rfl (Nat.le_of_ble_eq_true rfl) d_M_range_170 (fun H locs hP hD hS => ?_)
              have hP : va_P g kcl (wM cI cJ cZ ad mth_12 mst mse mla mmo mrc mro mrt mrm mrl mrh mwk mwt mwm mwl mwh mwi mwc mwx mar mli 0 mgo mre mfr rest) H := hP
              have hD : va_D A (wM cI cJ cZ ad mth_12 mst mse mla mmo mrc mro mrt mrm mrl mrh mwk mwt mwm mwl mwh mwi mwc mwx mar mli 0 mgo mre mfr rest) := hD
              refine lv_iload hx hb d_M_range_173 (lv_at hl 6 rfl) ?_
              refine lv_iload hx hb d_M_range_175 (lv_at hl 5 rfl) ?_
              obtain ⟨r_14, hG, hF⟩ := ob1_inv hF
              refine ksi K hP hD hS (c_M_tableCovers l g (kty cI cJ cZ) (wM cI cJ cZ ad mth_12 mst mse mla mmo mrc mro mrt mrm mrl mrh mwk mwt mwm mwl mwh mwi mwc mwx mar mli 0 mgo mre mfr rest) s_6 a5 r_14 hG) wm_854 wm_852 wm_853 wm_50 hd_M_tableCovers rfl rfl ⟨Nat.le_of_ble_eq_true rfl, Nat.le_of_ble_eq_true rfl⟩ ⟨Nat.zero_le _, Nat.zero_le _⟩ hl.1 (rest := []) rfl (Nat.le_of_ble_eq_true rfl) d_M_range_177 (fun H locs hP hD hS => ?_)
              refine lv_if_ne (tgt := 197) hx hb d_M_range_180 (by decide) (fun hc_15 => ?_) (fun hc_15 => ?_)
              · have hF := it_f hF hc_15
                refine lv_iconst (v := 0) hx hb d_M_range_197 (by decide) ?_
                cases hF
                exact kri K hP hD hS d_M_range_198 rfl
              · have hF := it_t hF hc_15
                refine lv_aload_n hx hb d_M_range_183 rfl (lv_at hl 0 rfl) ?_
                refine lv_iload_n hx hb d_M_range_184 rfl (lv_at hl 1 rfl) ?_
                refine lv_iload_n hx hb d_M_range_185 rfl (lv_at hl 2 rfl) ?_
                refine lv_lload_n hx hb d_M_range_186 rfl (lv_at hl 3 rfl) ?_
                refine lv_lload hx hb d_M_range_187 (lv_at hl 4 rfl) ?_
                refine lv_iload hx hb d_M_range_189 (lv_at hl 5 rfl) ?_
                obtain ⟨r_16, hG, hF⟩ := ob1_inv hF
                refine kci K hP hD hS (c_M_hasAround l g cI cJ cZ ad mth_12 mst mse mla mmo mrc mro mrt mrm mrl mrh mwk mwt mwm mwl mwh mwi mwc mwx mar mli 0 mgo mre mfr rest a1 a2 a3 a4 a5 r_16 hG) wm_858 wm_855 wm_857 wm_37 wm_50 hd_M_hasAround rfl rfl ⟨Nat.le_of_ble_eq_true rfl, Nat.le_of_ble_eq_true rfl⟩ ⟨Nat.zero_le _, Nat.zero_le _⟩ 3 0 rfl rfl rfl hl.1 (rest := []) rfl (Nat.le_of_ble_eq_true rfl) d_M_range_191 (fun H locs hP hD hS => ?_)
                refine lv_if_eq (tgt := 199) hx hb d_M_range_194 (by decide) (fun hc_17 => ?_) (fun hc_17 => ?_)
                · have hF := it_t hF hc_17
                  refine lv_aload_n hx hb d_M_range_199 rfl (lv_at hl 0 rfl) ?_
                  refine lv_iload_n hx hb d_M_range_200 rfl (lv_at hl 1 rfl) ?_
                  refine lv_iload_n hx hb d_M_range_201 rfl (lv_at hl 2 rfl) ?_
                  obtain ⟨r_18, hG, hF⟩ := ob1_inv hF
                  refine kci K hP hD hS (c_M_rangesOf l g cI cJ cZ ad mth_12 mst mse mla mmo mrc mro mrt mrm mrl mrh mwk mwt mwm mwl mwh mwi mwc mwx mar mli 0 mgo mre mfr rest a1 a2 r_18 hG) wm_865 wm_862 wm_864 wm_38 wm_50 hd_M_rangesOf rfl rfl ⟨Nat.le_of_ble_eq_true rfl, Nat.le_of_ble_eq_true rfl⟩ ⟨Nat.zero_le _, Nat.zero_le _⟩ 3 0 rfl rfl rfl hl.1 (rest := []) rfl (Nat.le_of_ble_eq_true rfl) d_M_range_202 (fun H locs hP hD hS => ?_)
                  refine lv_bipush (v := 8) hx hb d_M_range_205 (by decide) ?_
                  refine lv_icmp_ne (tgt := 228) hx hb d_M_range_207 (by decide) (fun hc_19 => ?_) (fun hc_19 => ?_)
                  · have hF := it_f hF hc_19
                    refine lv_aload_n hx hb d_M_range_228 rfl (lv_at hl 0 rfl) ?_
                    obtain ⟨r_20, hG, hF⟩ := ob1_inv hF
                    refine kci K hP hD hS (c_M_counted l g cI cJ cZ ad mth_12 mst mse mla mmo mrc mro mrt mrm mrl mrh mwk mwt mwm mwl mwh mwi mwc mwx mar mli 0 mgo mre mfr rest  r_20 hG) wm_788 wm_785 wm_787 wm_22 wm_50 hd_M_counted rfl rfl ⟨Nat.le_of_ble_eq_true rfl, Nat.le_of_ble_eq_true rfl⟩ ⟨Nat.zero_le _, Nat.zero_le _⟩ 3 0 rfl rfl rfl hl.1 (rest := []) rfl (Nat.le_of_ble_eq_true rfl) d_M_range_229 (fun H locs hP hD hS => ?_)
                    refine lv_sipush (v := 256) hx hb d_M_range_232 (by decide) ?_
                    refine lv_icmp_lt (tgt := 240) hx hb d_M_range_235 (by decide) (fun hc_21 => ?_) (fun hc_21 => ?_)
                    · have hF := it_t hF hc_21
                      refine lv_aload_n hx hb d_M_range_240 rfl (lv_at hl 0 rfl) ?_
                      refine va_get (D := g) (ci := 3) (v := .ref (ad 9)) (C := kR3) (T := kT3) (N := 25) hx hb hts kw3 hown hK hP 0 rfl rfl 11 (by decide) (hts _ wm_682) (fun _ h9 => h9) rfl d_M_range_241 ?_
                      refine lv_iload_n hx hb d_M_range_244 rfl (lv_at hl 1 rfl) ?_
                      refine lv_iconst (v := 1) hx hb d_M_range_245 (by decide) ?_
                      obtain ⟨hg_22, hF⟩ := gd_inv hF
                      refine va_iast hx hb hK hP hD hS 9 0 rfl rfl hg_22 d_M_range_246 (fun H locs hP hD hS => ?_)
                      have hP : va_P g kcl (wM cI cJ cZ ad mth_12 mst mse mla mmo mrc mro mrt mrm mrl mrh (upd mwk a1.toNatClampNeg 1) mwt mwm mwl mwh mwi mwc mwx mar mli 0 mgo mre mfr rest) H := hP
                      have hD : va_D A (wM cI cJ cZ ad mth_12 mst mse mla mmo mrc mro mrt mrm mrl mrh (upd mwk a1.toNatClampNeg 1) mwt mwm mwl mwh mwi mwc mwx mar mli 0 mgo mre mfr rest) := hD
                      refine lv_aload_n hx hb d_M_range_247 rfl (lv_at hl 0 rfl) ?_
                      refine va_get (D := g) (ci := 3) (v := .ref (ad 10)) (C := kR3) (T := kT3) (N := 25) hx hb hts kw3 hown hK hP 0 rfl rfl 12 (by decide) (hts _ wm_683) (fun _ h9 => h9) rfl d_M_range_248 ?_
                      refine lv_iload_n hx hb d_M_range_251 rfl (lv_at hl 1 rfl) ?_
                      refine lv_iload_n hx hb d_M_range_252 rfl (lv_at hl 2 rfl) ?_
                      obtain ⟨hg_23, hF⟩ := gd_inv hF
                      refine va_iast hx hb hK hP hD hS 10 0 rfl rfl hg_23 d_M_range_253 (fun H locs hP hD hS => ?_)
                      have hP : va_P g kcl (wM cI cJ cZ ad mth_12 mst mse mla mmo mrc mro mrt mrm mrl mrh (upd mwk a1.toNatClampNeg 1) (upd mwt a1.toNatClampNeg a2) mwm mwl mwh mwi mwc mwx mar mli 0 mgo mre mfr rest) H := hP
                      have hD : va_D A (wM cI cJ cZ ad mth_12 mst mse mla mmo mrc mro mrt mrm mrl mrh (upd mwk a1.toNatClampNeg 1) (upd mwt a1.toNatClampNeg a2) mwm mwl mwh mwi mwc mwx mar mli 0 mgo mre mfr rest) := hD
                      refine lv_aload_n hx hb d_M_range_254 rfl (lv_at hl 0 rfl) ?_
                      refine va_get (D := g) (ci := 3) (v := .ref (ad 11)) (C := kR3) (T := kT3) (N := 25) hx hb hts kw3 hown hK hP 0 rfl rfl 13 (by decide) (hts _ wm_684) (fun _ h9 => h9) rfl d_M_range_255 ?_
                      refine lv_iload_n hx hb d_M_range_258 rfl (lv_at hl 1 rfl) ?_
                      refine lv_iload hx hb d_M_range_259 (lv_at hl 5 rfl) ?_
                      obtain ⟨hg_24, hF⟩ := gd_inv hF
                      refine va_iast hx hb hK hP hD hS 11 0 rfl rfl hg_24 d_M_range_261 (fun H locs hP hD hS => ?_)
                      have hP : va_P g kcl (wM cI cJ cZ ad mth_12 mst mse mla mmo mrc mro mrt mrm mrl mrh (upd mwk a1.toNatClampNeg 1) (upd mwt a1.toNatClampNeg a2) (upd mwm a1.toNatClampNeg a5) mwl mwh mwi mwc mwx mar mli 0 mgo mre mfr rest) H := hP
                      have hD : va_D A (wM cI cJ cZ ad mth_12 mst mse mla mmo mrc mro mrt mrm mrl mrh (upd mwk a1.toNatClampNeg 1) (upd mwt a1.toNatClampNeg a2) (upd mwm a1.toNatClampNeg a5) mwl mwh mwi mwc mwx mar mli 0 mgo mre mfr rest) := hD
                      refine lv_aload_n hx hb d_M_range_262 rfl (lv_at hl 0 rfl) ?_
                      refine va_get (D := g) (ci := 3) (v := .ref (ad 12)) (C := kR3) (T := kT3) (N := 25) hx hb hts kw3 hown hK hP 0 rfl rfl 14 (by decide) (hts _ wm_685) (fun _ h9 => h9) rfl d_M_range_263 ?_
                      refine lv_iload_n hx hb d_M_range_266 rfl (lv_at hl 1 rfl) ?_
                      refine lv_lload_n hx hb d_M_range_267 rfl (lv_at hl 3 rfl) ?_
                      obtain ⟨hg_25, hF⟩ := gd_inv hF
                      refine va_last hx hb hK hP hD hS 12 1 rfl rfl hg_25 d_M_range_268 (fun H locs hP hD hS => ?_)
                      have hP : va_P g kcl (wM cI cJ cZ ad mth_12 mst mse mla mmo mrc mro mrt mrm mrl mrh (upd mwk a1.toNatClampNeg 1) (upd mwt a1.toNatClampNeg a2) (upd mwm a1.toNatClampNeg a5) (vp_updL mwl a1.toNatClampNeg a3) mwh mwi mwc mwx mar mli 0 mgo mre mfr rest) H := hP
                      have hD : va_D A (wM cI cJ cZ ad mth_12 mst mse mla mmo mrc mro mrt mrm mrl mrh (upd mwk a1.toNatClampNeg 1) (upd mwt a1.toNatClampNeg a2) (upd mwm a1.toNatClampNeg a5) (vp_updL mwl a1.toNatClampNeg a3) mwh mwi mwc mwx mar mli 0 mgo mre mfr rest) := hD
                      refine lv_aload_n hx hb d_M_range_269 rfl (lv_at hl 0 rfl) ?_
                      refine va_get (D := g) (ci := 3) (v := .ref (ad 13)) (C := kR3) (T := kT3) (N := 25) hx hb hts kw3 hown hK hP 0 rfl rfl 15 (by decide) (hts _ wm_686) (fun _ h9 => h9) rfl d_M_range_270 ?_
                      refine lv_iload_n hx hb d_M_range_273 rfl (lv_at hl 1 rfl) ?_
                      refine lv_lload hx hb d_M_range_274 (lv_at hl 4 rfl) ?_
                      obtain ⟨hg_26, hF⟩ := gd_inv hF
                      refine va_last hx hb hK hP hD hS 13 1 rfl rfl hg_26 d_M_range_276 (fun H locs hP hD hS => ?_)
                      have hP : va_P g kcl (wM cI cJ cZ ad mth_12 mst mse mla mmo mrc mro mrt mrm mrl mrh (upd mwk a1.toNatClampNeg 1) (upd mwt a1.toNatClampNeg a2) (upd mwm a1.toNatClampNeg a5) (vp_updL mwl a1.toNatClampNeg a3) (vp_updL mwh a1.toNatClampNeg a4) mwi mwc mwx mar mli 0 mgo mre mfr rest) H := hP
                      have hD : va_D A (wM cI cJ cZ ad mth_12 mst mse mla mmo mrc mro mrt mrm mrl mrh (upd mwk a1.toNatClampNeg 1) (upd mwt a1.toNatClampNeg a2) (upd mwm a1.toNatClampNeg a5) (vp_updL mwl a1.toNatClampNeg a3) (vp_updL mwh a1.toNatClampNeg a4) mwi mwc mwx mar mli 0 mgo mre mfr rest) := hD
                      refine lv_aload_n hx hb d_M_range_277 rfl (lv_at hl 0 rfl) ?_
                      refine lv_iload_n hx hb d_M_range_278 rfl (lv_at hl 1 rfl) ?_
                      refine lv_aload_n hx hb d_M_range_279 rfl (lv_at hl 0 rfl) ?_
                      refine lv_iload_n hx hb d_M_range_280 rfl (lv_at hl 1 rfl) ?_
                      refine lv_iload_n hx hb d_M_range_281 rfl (lv_at hl 2 rfl) ?_
                      refine lv_lload_n hx hb d_M_range_282 rfl (lv_at hl 3 rfl) ?_
                      refine lv_lload hx hb d_M_range_283 (lv_at hl 4 rfl) ?_
                      refine lv_iconst (v := (-1)) hx hb d_M_range_285 (by decide) ?_
                      obtain ⟨r_27, hG, hF⟩ := ob1_inv hF
                      refine kci K hP hD hS (c_M_hasAround l g cI cJ cZ ad mth_12 mst mse mla mmo mrc mro mrt mrm mrl mrh (upd mwk a1.toNatClampNeg 1) (upd mwt a1.toNatClampNeg a2) (upd mwm a1.toNatClampNeg a5) (vp_updL mwl a1.toNatClampNeg a3) (vp_updL mwh a1.toNatClampNeg a4) mwi mwc mwx mar mli 0 mgo mre mfr rest a1 a2 a3 a4 (-1) r_27 hG) wm_858 wm_855 wm_857 wm_37 wm_50 hd_M_hasAround rfl rfl ⟨Nat.le_of_ble_eq_true rfl, Nat.le_of_ble_eq_true rfl⟩ ⟨Nat.zero_le _, Nat.zero_le _⟩ 3 0 rfl rfl rfl hl.1 (rest := [.int a1, .ref (ad 0)]) rfl (Nat.le_of_ble_eq_true rfl) d_M_range_286 (fun H locs hP hD hS => ?_)
                      obtain ⟨r_28, mst_29, mmo_30, mrc_31, mro_32, mrt_33, mrm_34, mrl_35, mrh_36, mwi_37, mwc_38, mwx_39, mar_40, mgr_41, mgo_42, mre_43, mfr_44, hG, hF⟩ := ob17_inv hF
                      refine kci K hP hD hS (c_M_ask l g cI cJ cZ ad mth_12 mst mse mla mmo mrc mro mrt mrm mrl mrh (upd mwk a1.toNatClampNeg 1) (upd mwt a1.toNatClampNeg a2) (upd mwm a1.toNatClampNeg a5) (vp_updL mwl a1.toNatClampNeg a3) (vp_updL mwh a1.toNatClampNeg a4) mwi mwc mwx mar mli 0 mgo mre mfr rest a1 r_27 r_28 mst_29 mmo_30 mrc_31 mro_32 mrt_33 mrm_34 mrl_35 mrh_36 mwi_37 mwc_38 mwx_39 mar_40 mgr_41 mgo_42 mre_43 mfr_44 hG) wm_792 wm_789 wm_791 wm_23 wm_50 hd_M_ask rfl rfl ⟨Nat.le_of_ble_eq_true rfl, Nat.le_of_ble_eq_true rfl⟩ ⟨Nat.zero_le _, Nat.zero_le _⟩ 3 0 rfl rfl rfl hl.1 (rest := []) rfl (Nat.le_of_ble_eq_true rfl) d_M_range_289 (fun H locs hP hD hS => ?_)
                      cases hF
                      exact kri K hP hD hS d_M_range_292 rfl
                    · have hF := it_f hF hc_21
                      refine lv_iconst (v := 3) hx hb d_M_range_238 (by decide) ?_
                      cases hF
                      exact kri K hP hD hS d_M_range_239 rfl
                  · have hF := it_t hF hc_19
                    refine lv_aload_n hx hb d_M_range_210 rfl (lv_at hl 0 rfl) ?_
                    refine lv_iload_n hx hb d_M_range_211 rfl (lv_at hl 1 rfl) ?_
                    refine lv_iload_n hx hb d_M_range_212 rfl (lv_at hl 2 rfl) ?_
                    refine lv_iload hx hb d_M_range_213 (lv_at hl 5 rfl) ?_
                    refine lv_iconst (v := 2) hx hb d_M_range_215 (by decide) ?_
                    obtain ⟨J224, eJ224, hF⟩ := jn3_inv hF
                    have hJ224 : ∀ (s_45 : Int32) (s_46 : Int32) (s_47 : Int32) (H : Heap) (locs : List Loc) (ls : Array Slot), J224 s_45 s_46 s_47 = some (r, o_mth, o_mst, o_mmo, o_mrc, o_mro, o_mrt, o_mrm, o_mrl, o_mrh, o_mwk, o_mwt, o_mwm, o_mwl, o_mwh, o_mwi, o_mwc, o_mwx, o_mar, o_mgr, o_mgo, o_mre, o_mfr) → va_P g kcl (wM cI cJ cZ ad mth_12 mst mse mla mmo mrc mro mrt mrm mrl mrh mwk mwt mwm mwl mwh mwi mwc mwx mar mli 0 mgo mre mfr rest) H → va_D A (wM cI cJ cZ ad mth_12 mst mse mla mmo mrc mro mrt mrm mrl mrh mwk mwt mwm mwl mwh mwi mwc mwx mar mli 0 mgo mre mfr rest) → va_S A s.heap H locs → lv_has ls 12 [] → W p l e ({ frames := 9, cells := 0, slots := 0, locals := 211 }) s m args below meth c H locs 0 0 (MQ below (kQi g (kty cI cJ cZ) (wM cI cJ cZ ad o_mth o_mst mse mla o_mmo o_mrc o_mro o_mrt o_mrm o_mrl o_mrh o_mwk o_mwt o_mwm o_mwl o_mwh o_mwi o_mwc o_mwx o_mar mli o_mgr o_mgo o_mre o_mfr rest) A r) args s 0 0 A) (F0 m 224 ls [.int s_47, .int s_46, .int s_45, .ref (ad 0)]) := by
                      intro s_45 s_46 s_47 H locs ls hF hP hD hS hl
                      rw [eJ224] at hF
                      obtain ⟨r_48, mst_49, mmo_50, mrc_51, mro_52, mrt_53, mrm_54, mrl_55, mrh_56, mwk_57, mwt_58, mwm_59, mwi_60, mwc_61, mwx_62, mar_63, mgr_64, mgo_65, mre_66, mfr_67, hG, hF⟩ := ob20_inv hF
                      refine kci K hP hD hS (c_M_escalated l g cI cJ cZ ad mth_12 mst mse mla mmo mrc mro mrt mrm mrl mrh mwk mwt mwm mwl mwh mwi mwc mwx mar mli 0 mgo mre mfr rest s_45 s_46 s_47 r_48 mst_49 mmo_50 mrc_51 mro_52 mrt_53 mrm_54 mrl_55 mrh_56 mwk_57 mwt_58 mwm_59 mwi_60 mwc_61 mwx_62 mar_63 mgr_64 mgo_65 mre_66 mfr_67 hG) wm_869 wm_866 wm_868 wm_39 wm_50 hd_M_escalated rfl rfl ⟨Nat.le_of_ble_eq_true rfl, Nat.le_of_ble_eq_true rfl⟩ ⟨Nat.zero_le _, Nat.zero_le _⟩ 3 0 rfl rfl rfl hl.1 (rest := []) rfl (Nat.le_of_ble_eq_true rfl) d_M_range_224 (fun H locs hP hD hS => ?_)
                      cases hF
                      exact kri K hP hD hS d_M_range_227 rfl
                    refine lv_icmp_eq (tgt := 223) hx hb d_M_range_216 (by decide) (fun hc_68 => ?_) (fun hc_68 => ?_)
                    · have hF := it_t hF hc_68
                      refine lv_iconst (v := 0) hx hb d_M_range_223 (by decide) ?_
                      exact hJ224 _ _ _ H locs ls hF hP hD hS (lv_sub hl [] rfl)
                    · have hF := it_f hF hc_68
                      refine lv_iconst (v := 1) hx hb d_M_range_219 (by decide) ?_
                      refine lv_goto (tgt := 224) hx hb d_M_range_220 (by decide) ?_
                      exact hJ224 _ _ _ H locs ls hF hP hD hS (lv_sub hl [] rfl)
                · have hF := it_f hF hc_17
                  refine lv_iconst (v := 0) hx hb d_M_range_197 (by decide) ?_
                  cases hF
                  exact kri K hP hD hS d_M_range_198 rfl
            · have hF := it_f hF hc_13
              refine lv_iconst (v := 0) hx hb d_M_range_166 (by decide) ?_
              cases hF
              exact kri K hP hD hS d_M_range_167 rfl
          refine lv_if_ne (tgt := 159) hx hb d_M_range_152 (by decide) (fun hc_69 => ?_) (fun hc_69 => ?_)
          · have hF := it_f hF hc_69
            refine lv_iconst (v := 0) hx hb d_M_range_159 (by decide) ?_
            exact hJ160 _ _ _ H locs ls hF hP hD hS (lv_sub hl [1, 2, 3, 4, 5, 6, 9] rfl)
          · have hF := it_t hF hc_69
            refine lv_iconst (v := 1) hx hb d_M_range_155 (by decide) ?_
            refine lv_goto (tgt := 160) hx hb d_M_range_156 (by decide) ?_
            exact hJ160 _ _ _ H locs ls hF hP hD hS (lv_sub hl [1, 2, 3, 4, 5, 6, 9] rfl)
        refine lv_icmp_ne (tgt := 120) hx hb d_M_range_104 (by decide) (fun hc_70 => ?_) (fun hc_70 => ?_)
        · have hF := it_f hF hc_70
          refine lv_iload hx hb d_M_range_120 (lv_at hl 0 rfl) ?_
          refine lv_iconst (v := 1) hx hb d_M_range_122 (by decide) ?_
          obtain ⟨J138, eJ138, hF⟩ := jn0_inv hF
          have hJ138 : ∀  (H : Heap) (locs : List Loc) (ls : Array Slot), J138  = some (r, o_mth, o_mst, o_mmo, o_mrc, o_mro, o_mrt, o_mrm, o_mrl, o_mrh, o_mwk, o_mwt, o_mwm, o_mwl, o_mwh, o_mwi, o_mwc, o_mwx, o_mar, o_mgr, o_mgo, o_mre, o_mfr) → va_P g kcl (wM cI cJ cZ ad mth mst mse mla mmo mrc mro mrt mrm mrl mrh mwk mwt mwm mwl mwh mwi mwc mwx mar mli mgr mgo mre mfr rest) H → va_D A (wM cI cJ cZ ad mth mst mse mla mmo mrc mro mrt mrm mrl mrh mwk mwt mwm mwl mwh mwi mwc mwx mar mli mgr mgo mre mfr rest) → va_S A s.heap H locs → lv_has ls 12 [(0, .ref (ad 0)), (1, .int a1), (2, .int a2), (3, .long a3), (5, .long a4), (7, .int a5), (8, .int s_2), (9, .int s_4), (10, .int s_6)] → W p l e ({ frames := 9, cells := 0, slots := 0, locals := 211 }) s m args below meth c H locs 0 0 (MQ below (kQi g (kty cI cJ cZ) (wM cI cJ cZ ad o_mth o_mst mse mla o_mmo o_mrc o_mro o_mrt o_mrm o_mrl o_mrh o_mwk o_mwt o_mwm o_mwl o_mwh o_mwi o_mwc o_mwx o_mar mli o_mgr o_mgo o_mre o_mfr rest) A r) args s 0 0 A) (F0 m 138 ls []) := by
            intro  H locs ls hF hP hD hS hl
            rw [eJ138] at hF
            refine lv_iconst (v := 1) hx hb d_M_range_138 (by decide) ?_
            refine lv_goto (tgt := 143) hx hb d_M_range_139 (by decide) ?_
            exact hJ143 _ H locs ls hF hP hD hS (lv_sub hl [0, 1, 2, 3, 4, 5, 6, 7, 8] rfl)
          refine lv_icmp_eq (tgt := 138) hx hb d_M_range_123 (by decide) (fun hc_71 => ?_) (fun hc_71 => ?_)
          · have hF := it_t hF hc_71
            exact hJ138  H locs ls hF hP hD hS (lv_sub hl [1, 2, 3, 4, 5, 6, 7, 8, 0] rfl)
          · have hF := it_f hF hc_71
            refine lv_iload hx hb d_M_range_126 (lv_at hl 0 rfl) ?_
            refine lv_iconst (v := 3) hx hb d_M_range_128 (by decide) ?_
            refine lv_icmp_eq (tgt := 138) hx hb d_M_range_129 (by decide) (fun hc_72 => ?_) (fun hc_72 => ?_)
            · have hF := it_t hF hc_72
              exact hJ138  H locs ls hF hP hD hS (lv_sub hl [1, 2, 3, 4, 5, 6, 7, 8, 0] rfl)
            · have hF := it_f hF hc_72
              refine lv_iload hx hb d_M_range_132 (lv_at hl 0 rfl) ?_
              refine lv_iconst (v := 5) hx hb d_M_range_134 (by decide) ?_
              refine lv_icmp_ne (tgt := 142) hx hb d_M_range_135 (by decide) (fun hc_73 => ?_) (fun hc_73 => ?_)
              · have hF := it_f hF hc_73
                refine lv_iconst (v := 0) hx hb d_M_range_142 (by decide) ?_
                exact hJ143 _ H locs ls hF hP hD hS (lv_sub hl [1, 2, 3, 4, 5, 6, 7, 8, 0] rfl)
              · have hF := it_t hF hc_73
                exact hJ138  H locs ls hF hP hD hS (lv_sub hl [1, 2, 3, 4, 5, 6, 7, 8, 0] rfl)
        · have hF := it_t hF hc_70
          refine lv_iload hx hb d_M_range_107 (lv_at hl 0 rfl) ?_
          refine lv_if_lt (tgt := 116) hx hb d_M_range_109 (by decide) (fun hc_74 => ?_) (fun hc_74 => ?_)
          · have hF := it_t hF hc_74
            refine lv_iconst (v := 0) hx hb d_M_range_116 (by decide) ?_
            refine lv_goto (tgt := 143) hx hb d_M_range_117 (by decide) ?_
            exact hJ143 _ H locs ls hF hP hD hS (lv_sub hl [1, 2, 3, 4, 5, 6, 7, 8, 0] rfl)
          · have hF := it_f hF hc_74
            refine lv_iconst (v := 1) hx hb d_M_range_112 (by decide) ?_
            refine lv_goto (tgt := 143) hx hb d_M_range_113 (by decide) ?_
            exact hJ143 _ H locs ls hF hP hD hS (lv_sub hl [1, 2, 3, 4, 5, 6, 7, 8, 0] rfl)
      obtain ⟨J98, eJ98, hF⟩ := jn0_inv hF
      have hJ98 : ∀  (H : Heap) (locs : List Loc) (ls : Array Slot), J98  = some (r, o_mth, o_mst, o_mmo, o_mrc, o_mro, o_mrt, o_mrm, o_mrl, o_mrh, o_mwk, o_mwt, o_mwm, o_mwl, o_mwh, o_mwi, o_mwc, o_mwx, o_mar, o_mgr, o_mgo, o_mre, o_mfr) → va_P g kcl (wM cI cJ cZ ad mth mst mse mla mmo mrc mro mrt mrm mrl mrh mwk mwt mwm mwl mwh mwi mwc mwx mar mli mgr mgo mre mfr rest) H → va_D A (wM cI cJ cZ ad mth mst mse mla mmo mrc mro mrt mrm mrl mrh mwk mwt mwm mwl mwh mwi mwc mwx mar mli mgr mgo mre mfr rest) → va_S A s.heap H locs → lv_has ls 12 [(0, .ref (ad 0)), (1, .int a1), (2, .int a2), (3, .long a3), (5, .long a4), (7, .int a5), (8, .int s_2), (9, .int s_4)] → W p l e ({ frames := 9, cells := 0, slots := 0, locals := 211 }) s m args below meth c H locs 0 0 (MQ below (kQi g (kty cI cJ cZ) (wM cI cJ cZ ad o_mth o_mst mse mla o_mmo o_mrc o_mro o_mrt o_mrm o_mrl o_mrh o_mwk o_mwt o_mwm o_mwl o_mwh o_mwi o_mwc o_mwx o_mar mli o_mgr o_mgo o_mre o_mfr rest) A r) args s 0 0 A) (F0 m 98 ls []) := by
        intro  H locs ls hF hP hD hS hl
        rw [eJ98] at hF
        refine lv_iconst (v := (-1)) hx hb d_M_range_98 (by decide) ?_
        exact hJ99 _ H locs ls hF hP hD hS (lv_sub hl [0, 1, 2, 3, 4, 5, 6, 7] rfl)
      refine lv_if_eq (tgt := 98) hx hb d_M_range_74 (by decide) (fun hc_75 => ?_) (fun hc_75 => ?_)
      · have hF := it_t hF hc_75
        exact hJ98  H locs ls hF hP hD hS (lv_sub hl [1, 2, 3, 4, 5, 6, 7, 0] rfl)
      · have hF := it_f hF hc_75
        refine lv_iload_n hx hb d_M_range_77 rfl (lv_at hl 3 rfl) ?_
        obtain ⟨r_76, hG, hF⟩ := ob1_inv hF
        refine ksi K hP hD hS (c_M_isTable l g (kty cI cJ cZ) (wM cI cJ cZ ad mth mst mse mla mmo mrc mro mrt mrm mrl mrh mwk mwt mwm mwl mwh mwi mwc mwx mar mli mgr mgo mre mfr rest) a2 r_76 hG) wm_768 wm_766 wm_767 wm_50 hd_M_isTable rfl rfl ⟨Nat.le_of_ble_eq_true rfl, Nat.le_of_ble_eq_true rfl⟩ ⟨Nat.zero_le _, Nat.zero_le _⟩ hl.1 (rest := []) rfl (Nat.le_of_ble_eq_true rfl) d_M_range_78 (fun H locs hP hD hS => ?_)
        refine lv_if_eq (tgt := 98) hx hb d_M_range_81 (by decide) (fun hc_77 => ?_) (fun hc_77 => ?_)
        · have hF := it_t hF hc_77
          exact hJ98  H locs ls hF hP hD hS (lv_sub hl [1, 2, 3, 4, 5, 6, 7, 0] rfl)
        · have hF := it_f hF hc_77
          refine lv_aload_n hx hb d_M_range_84 rfl (lv_at hl 1 rfl) ?_
          refine va_get (D := g) (ci := 3) (v := .ref (ad 3)) (C := kR3) (T := kT3) (N := 25) hx hb hts kw3 hown hK hP 0 rfl rfl 4 (by decide) (hts _ wm_675) (fun _ h9 => h9) rfl d_M_range_85 ?_
          refine lv_bipush (v := 16) hx hb d_M_range_88 (by decide) ?_
          refine lv_iload_n hx hb d_M_range_90 rfl (lv_at hl 2 rfl) ?_
          refine lv_imul hx hb d_M_range_91 ?_
          refine lv_iload_n hx hb d_M_range_92 rfl (lv_at hl 3 rfl) ?_
          refine lv_iadd hx hb d_M_range_93 ?_
          obtain ⟨hg_78, hF⟩ := gd_inv hF
          refine va_iald hx hb hK hP 3 0 rfl rfl hg_78 d_M_range_94 ?_
          refine lv_goto (tgt := 99) hx hb d_M_range_95 (by decide) ?_
          exact hJ99 _ H locs ls hF hP hD hS (lv_sub hl [1, 2, 3, 4, 5, 6, 7, 0] rfl)
    obtain ⟨J67, eJ67, hF⟩ := jn0_inv hF
    have hJ67 : ∀  (H : Heap) (locs : List Loc) (ls : Array Slot), J67  = some (r, o_mth, o_mst, o_mmo, o_mrc, o_mro, o_mrt, o_mrm, o_mrl, o_mrh, o_mwk, o_mwt, o_mwm, o_mwl, o_mwh, o_mwi, o_mwc, o_mwx, o_mar, o_mgr, o_mgo, o_mre, o_mfr) → va_P g kcl (wM cI cJ cZ ad mth mst mse mla mmo mrc mro mrt mrm mrl mrh mwk mwt mwm mwl mwh mwi mwc mwx mar mli mgr mgo mre mfr rest) H → va_D A (wM cI cJ cZ ad mth mst mse mla mmo mrc mro mrt mrm mrl mrh mwk mwt mwm mwl mwh mwi mwc mwx mar mli mgr mgo mre mfr rest) → va_S A s.heap H locs → lv_has ls 12 [(0, .ref (ad 0)), (1, .int a1), (2, .int a2), (3, .long a3), (5, .long a4), (7, .int a5), (8, .int s_2)] → W p l e ({ frames := 9, cells := 0, slots := 0, locals := 211 }) s m args below meth c H locs 0 0 (MQ below (kQi g (kty cI cJ cZ) (wM cI cJ cZ ad o_mth o_mst mse mla o_mmo o_mrc o_mro o_mrt o_mrm o_mrl o_mrh o_mwk o_mwt o_mwm o_mwl o_mwh o_mwi o_mwc o_mwx o_mar mli o_mgr o_mgo o_mre o_mfr rest) A r) args s 0 0 A) (F0 m 67 ls []) := by
      intro  H locs ls hF hP hD hS hl
      rw [eJ67] at hF
      refine lv_iconst (v := 0) hx hb d_M_range_67 (by decide) ?_
      exact hJ68 _ H locs ls hF hP hD hS (lv_sub hl [0, 1, 2, 3, 4, 5, 6] rfl)
    refine lv_if_eq (tgt := 67) hx hb d_M_range_50 (by decide) (fun hc_79 => ?_) (fun hc_79 => ?_)
    · have hF := it_t hF hc_79
      exact hJ67  H locs ls hF hP hD hS (lv_sub hl [1, 2, 3, 4, 5, 6, 0] rfl)
    · have hF := it_f hF hc_79
      refine lv_aload_n hx hb d_M_range_53 rfl (lv_at hl 1 rfl) ?_
      refine va_get (D := g) (ci := 3) (v := .ref (ad 1)) (C := kR3) (T := kT3) (N := 25) hx hb hts kw3 hown hK hP 0 rfl rfl 1 (by decide) (hts _ wm_672) (fun _ h9 => h9) rfl d_M_range_54 ?_
      refine lv_iload_n hx hb d_M_range_57 rfl (lv_at hl 2 rfl) ?_
      obtain ⟨hg_80, hF⟩ := gd_inv hF
      refine va_iald hx hb hK hP 1 0 rfl rfl hg_80 d_M_range_58 ?_
      refine lv_iconst (v := 1) hx hb d_M_range_59 (by decide) ?_
      refine lv_icmp_eq (tgt := 67) hx hb d_M_range_60 (by decide) (fun hc_81 => ?_) (fun hc_81 => ?_)
      · have hF := it_t hF hc_81
        exact hJ67  H locs ls hF hP hD hS (lv_sub hl [1, 2, 3, 4, 5, 6, 0] rfl)
      · have hF := it_f hF hc_81
        refine lv_iconst (v := 1) hx hb d_M_range_63 (by decide) ?_
        refine lv_goto (tgt := 68) hx hb d_M_range_64 (by decide) ?_
        exact hJ68 _ H locs ls hF hP hD hS (lv_sub hl [1, 2, 3, 4, 5, 6, 0] rfl)
  obtain ⟨J39, eJ39, hF⟩ := jn0_inv hF
  have hJ39 : ∀  (H : Heap) (locs : List Loc) (ls : Array Slot), J39  = some (r, o_mth, o_mst, o_mmo, o_mrc, o_mro, o_mrt, o_mrm, o_mrl, o_mrh, o_mwk, o_mwt, o_mwm, o_mwl, o_mwh, o_mwi, o_mwc, o_mwx, o_mar, o_mgr, o_mgo, o_mre, o_mfr) → va_P g kcl (wM cI cJ cZ ad mth mst mse mla mmo mrc mro mrt mrm mrl mrh mwk mwt mwm mwl mwh mwi mwc mwx mar mli mgr mgo mre mfr rest) H → va_D A (wM cI cJ cZ ad mth mst mse mla mmo mrc mro mrt mrm mrl mrh mwk mwt mwm mwl mwh mwi mwc mwx mar mli mgr mgo mre mfr rest) → va_S A s.heap H locs → lv_has ls 12 [(0, .ref (ad 0)), (1, .int a1), (2, .int a2), (3, .long a3), (5, .long a4), (7, .int a5)] → W p l e ({ frames := 9, cells := 0, slots := 0, locals := 211 }) s m args below meth c H locs 0 0 (MQ below (kQi g (kty cI cJ cZ) (wM cI cJ cZ ad o_mth o_mst mse mla o_mmo o_mrc o_mro o_mrt o_mrm o_mrl o_mrh o_mwk o_mwt o_mwm o_mwl o_mwh o_mwi o_mwc o_mwx o_mar mli o_mgr o_mgo o_mre o_mfr rest) A r) args s 0 0 A) (F0 m 39 ls []) := by
    intro  H locs ls hF hP hD hS hl
    rw [eJ39] at hF
    refine lv_iconst (v := 1) hx hb d_M_range_39 (by decide) ?_
    refine lv_goto (tgt := 44) hx hb d_M_range_40 (by decide) ?_
    exact hJ44 _ H locs ls hF hP hD hS (lv_sub hl [0, 1, 2, 3, 4, 5] rfl)
  refine lv_if_eq (tgt := 39) hx hb d_M_range_4 (by decide) (fun hc_82 => ?_) (fun hc_82 => ?_)
  · have hF := it_t hF hc_82
    exact hJ39  H locs ls hF hP hD hS (lv_sub hl [0, 1, 2, 3, 4, 5] rfl)
  · have hF := it_f hF hc_82
    refine lv_iload_n hx hb d_M_range_7 rfl (lv_at hl 2 rfl) ?_
    obtain ⟨r_83, hG, hF⟩ := ob1_inv hF
    refine ksi K hP hD hS (c_M_isTable l g (kty cI cJ cZ) (wM cI cJ cZ ad mth mst mse mla mmo mrc mro mrt mrm mrl mrh mwk mwt mwm mwl mwh mwi mwc mwx mar mli mgr mgo mre mfr rest) a2 r_83 hG) wm_768 wm_766 wm_767 wm_50 hd_M_isTable rfl rfl ⟨Nat.le_of_ble_eq_true rfl, Nat.le_of_ble_eq_true rfl⟩ ⟨Nat.zero_le _, Nat.zero_le _⟩ hl.1 (rest := []) rfl (Nat.le_of_ble_eq_true rfl) d_M_range_8 (fun H locs hP hD hS => ?_)
    refine lv_if_eq (tgt := 39) hx hb d_M_range_11 (by decide) (fun hc_84 => ?_) (fun hc_84 => ?_)
    · have hF := it_t hF hc_84
      exact hJ39  H locs ls hF hP hD hS (lv_sub hl [0, 1, 2, 3, 4, 5] rfl)
    · have hF := it_f hF hc_84
      refine lv_lload_n hx hb d_M_range_14 rfl (lv_at hl 3 rfl) ?_
      refine lv_lload hx hb d_M_range_15 (lv_at hl 4 rfl) ?_
      refine W.lcmp hx hb d_M_range_17 ?_
      refine lv_if_gt (tgt := 39) hx hb d_M_range_18 (by decide) (fun hc_85 => ?_) (fun hc_85 => ?_)
      · have hF := it_t hF hc_85
        exact hJ39  H locs ls hF hP hD hS (lv_sub hl [0, 1, 2, 3, 4, 5] rfl)
      · have hF := it_f hF hc_85
        refine lv_iload hx hb d_M_range_21 (lv_at hl 5 rfl) ?_
        refine lv_iconst (v := 2) hx hb d_M_range_23 (by decide) ?_
        obtain ⟨J43, eJ43, hF⟩ := jn0_inv hF
        have hJ43 : ∀  (H : Heap) (locs : List Loc) (ls : Array Slot), J43  = some (r, o_mth, o_mst, o_mmo, o_mrc, o_mro, o_mrt, o_mrm, o_mrl, o_mrh, o_mwk, o_mwt, o_mwm, o_mwl, o_mwh, o_mwi, o_mwc, o_mwx, o_mar, o_mgr, o_mgo, o_mre, o_mfr) → va_P g kcl (wM cI cJ cZ ad mth mst mse mla mmo mrc mro mrt mrm mrl mrh mwk mwt mwm mwl mwh mwi mwc mwx mar mli mgr mgo mre mfr rest) H → va_D A (wM cI cJ cZ ad mth mst mse mla mmo mrc mro mrt mrm mrl mrh mwk mwt mwm mwl mwh mwi mwc mwx mar mli mgr mgo mre mfr rest) → va_S A s.heap H locs → lv_has ls 12 [(0, .ref (ad 0)), (1, .int a1), (2, .int a2), (3, .long a3), (5, .long a4), (7, .int a5)] → W p l e ({ frames := 9, cells := 0, slots := 0, locals := 211 }) s m args below meth c H locs 0 0 (MQ below (kQi g (kty cI cJ cZ) (wM cI cJ cZ ad o_mth o_mst mse mla o_mmo o_mrc o_mro o_mrt o_mrm o_mrl o_mrh o_mwk o_mwt o_mwm o_mwl o_mwh o_mwi o_mwc o_mwx o_mar mli o_mgr o_mgo o_mre o_mfr rest) A r) args s 0 0 A) (F0 m 43 ls []) := by
          intro  H locs ls hF hP hD hS hl
          rw [eJ43] at hF
          refine lv_iconst (v := 0) hx hb d_M_range_43 (by decide) ?_
          exact hJ44 _ H locs ls hF hP hD hS (lv_sub hl [0, 1, 2, 3, 4, 5] rfl)
        refine lv_icmp_eq (tgt := 43) hx hb d_M_range_24 (by decide) (fun hc_86 => ?_) (fun hc_86 => ?_)
        · have hF := it_t hF hc_86
          exact hJ43  H locs ls hF hP hD hS (lv_sub hl [0, 1, 2, 3, 4, 5] rfl)
        · have hF := it_f hF hc_86
          refine lv_iload hx hb d_M_range_27 (lv_at hl 5 rfl) ?_
          refine lv_iconst (v := 4) hx hb d_M_range_29 (by decide) ?_
          refine lv_icmp_eq (tgt := 43) hx hb d_M_range_30 (by decide) (fun hc_87 => ?_) (fun hc_87 => ?_)
          · have hF := it_t hF hc_87
            exact hJ43  H locs ls hF hP hD hS (lv_sub hl [0, 1, 2, 3, 4, 5] rfl)
          · have hF := it_f hF hc_87
            refine lv_iload hx hb d_M_range_33 (lv_at hl 5 rfl) ?_
            refine lv_iconst (v := 5) hx hb d_M_range_35 (by decide) ?_
            refine lv_icmp_eq (tgt := 43) hx hb d_M_range_36 (by decide) (fun hc_88 => ?_) (fun hc_88 => ?_)
            · have hF := it_t hF hc_88
              exact hJ43  H locs ls hF hP hD hS (lv_sub hl [0, 1, 2, 3, 4, 5] rfl)
            · have hF := it_f hF hc_88
              exact hJ39  H locs ls hF hP hD hS (lv_sub hl [0, 1, 2, 3, 4, 5] rfl)
theorem c_M_range (l : Launch) (g : va_G) (cI cJ cZ : ClassId) (ad : Nat → Nat) (mth : Int32) (mst : Nat → Int32) (mse : Nat → Int32) (mla : Int32) (mmo : Nat → Int32) (mrc : Int32) (mro : Nat → Int32) (mrt : Nat → Int32) (mrm : Nat → Int32) (mrl : Nat → Int64) (mrh : Nat → Int64) (mwk : Nat → Int32) (mwt : Nat → Int32) (mwm : Nat → Int32) (mwl : Nat → Int64) (mwh : Nat → Int64) (mwi : Nat → Int32) (mwc : Nat → Int32) (mwx : Nat → Int32) (mar : Int32) (mli : Int32) (mgr : Int32) (mgo : Nat → Int32) (mre : Nat → Int32) (mfr : Int32) (rest : va_W) (a1 : Int32) (a2 : Int32) (a3 : Int64) (a4 : Int64) (a5 : Int32) (r : Int32) (o_mth : Int32) (o_mst : Nat → Int32) (o_mmo : Nat → Int32) (o_mrc : Int32) (o_mro : Nat → Int32) (o_mrt : Nat → Int32) (o_mrm : Nat → Int32) (o_mrl : Nat → Int64) (o_mrh : Nat → Int64) (o_mwk : Nat → Int32) (o_mwt : Nat → Int32) (o_mwm : Nat → Int32) (o_mwl : Nat → Int64) (o_mwh : Nat → Int64) (o_mwi : Nat → Int32) (o_mwc : Nat → Int32) (o_mwx : Nat → Int32) (o_mar : Int32) (o_mgr : Int32) (o_mgo : Nat → Int32) (o_mre : Nat → Int32) (o_mfr : Int32) (hF : F_M_range mth mst mse mmo mrc mro mrt mrm mrl mrh mwk mwt mwm mwl mwh mwi mwc mwx mar mgr mgo mre mfr a1 a2 a3 a4 a5 = some (r, o_mth, o_mst, o_mmo, o_mrc, o_mro, o_mrt, o_mrm, o_mrl, o_mrh, o_mwk, o_mwt, o_mwm, o_mwl, o_mwh, o_mwi, o_mwc, o_mwx, o_mar, o_mgr, o_mgo, o_mre, o_mfr)) : Ci l y_M_range prog_6_method_35_code 12 (some .int) ({ frames := 9, cells := 0, slots := 0, locals := 211 }) [.ref (ad 0), .int a1, .int a2, .long a3, .long a4, .int a5] g (kty cI cJ cZ) (wM cI cJ cZ ad mth mst mse mla mmo mrc mro mrt mrm mrl mrh mwk mwt mwm mwl mwh mwi mwc mwx mar mli mgr mgo mre mfr rest) (wM cI cJ cZ ad o_mth o_mst mse mla o_mmo o_mrc o_mro o_mrt o_mrm o_mrl o_mrh o_mwk o_mwt o_mwm o_mwl o_mwh o_mwi o_mwc o_mwx o_mar mli o_mgr o_mgo o_mre o_mfr rest) r :=
  Ci.of (by decide) (Nat.le_of_ble_eq_true rfl) (fun p e s m below meth c A ls K hP hD hS hl => t_M_range K mth mst mse mla mmo mrc mro mrt mrm mrl mrh mwk mwt mwm mwl mwh mwi mwc mwx mar mli mgr mgo mre mfr a1 a2 a3 a4 a5 r o_mth o_mst o_mmo o_mrc o_mro o_mrt o_mrm o_mrl o_mrh o_mwk o_mwt o_mwm o_mwl o_mwh o_mwi o_mwc o_mwx o_mar o_mgr o_mgo o_mre o_mfr hF hP hD hS hl)
def F_M_escalate (mth : Int32) (mst : Nat → Int32) (mse : Nat → Int32) (mmo : Nat → Int32) (mrc : Int32) (mro : Nat → Int32) (mrt : Nat → Int32) (mrm : Nat → Int32) (mrl : Nat → Int64) (mrh : Nat → Int64) (mwk : Nat → Int32) (mwt : Nat → Int32) (mwm : Nat → Int32) (mwl : Nat → Int64) (mwh : Nat → Int64) (mwi : Nat → Int32) (mwc : Nat → Int32) (mwx : Nat → Int32) (mar : Int32) (mgr : Int32) (mgo : Nat → Int32) (mre : Nat → Int32) (mfr : Int32) (a1 : Int32) (a2 : Int32) : Option (Int32 × Int32 × (Nat → Int32) × (Nat → Int32) × Int32 × (Nat → Int32) × (Nat → Int32) × (Nat → Int32) × (Nat → Int64) × (Nat → Int64) × (Nat → Int32) × (Nat → Int32) × (Nat → Int32) × (Nat → Int32) × (Nat → Int32) × (Nat → Int32) × Int32 × Int32 × (Nat → Int32) × (Nat → Int32) × Int32) :=
  ob1 (F_M_isOwner a1) (fun r_1 => jn1 (fun (s_2 : Int32) => jn1 (fun (s_3 : Int32) => jn2 (fun (s_4 : Int32) (s_5 : Int32) => jn3 (fun (s_6 : Int32) (s_7 : Int32) (s_8 : Int32) => ob2 (F_M_refused mth s_6 s_7 s_8) (fun r_9 mth_10 => if r_9 = 0 then ob20 (F_M_escalated mst mse mmo mrc mro mrt mrm mrl mrh mwk mwt mwm mwl mwh mwi mwc mwx mar 0 mgo mre mfr a1 a2 0) (fun r_12 mst_13 mmo_14 mrc_15 mro_16 mrt_17 mrm_18 mrl_19 mrh_20 mwk_21 mwt_22 mwm_23 mwi_24 mwc_25 mwx_26 mar_27 mgr_28 mgo_29 mre_30 mfr_31 => some (r_12, mth_10, mst_13, mmo_14, mrc_15, mro_16, mrt_17, mrm_18, mrl_19, mrh_20, mwk_21, mwt_22, mwm_23, mwi_24, mwc_25, mwx_26, mar_27, mgr_28, mgo_29, mre_30, mfr_31)) else some (0, mth_10, mst, mmo, mrc, mro, mrt, mrm, mrl, mrh, mwk, mwt, mwm, mwi, mwc, mwx, mar, mgr, mgo, mre, mfr))) (fun J67 => jn2 (fun (s_32 : Int32) (s_33 : Int32) => J67 s_32 s_33 0) (fun J66 => if s_2 = 0 then J66 s_4 s_5 else ob1 (F_M_rangesOf mrc mro mrt a1 a2) (fun r_35 => if r_35 = 0 then J67 s_4 s_5 1 else J66 s_4 s_5)))) (fun J49 => jn1 (fun (s_37 : Int32) => J49 s_37 0) (fun J48 => if s_2 = 0 then J48 s_3 else gd (a1 < 0 ∨ 8 ≤ a1.toNatClampNeg) (if (mst a1.toNatClampNeg) = 1 then J48 s_3 else J49 s_3 1)))) (fun J30 => if s_2 = 0 then J30 1 else J30 0)) (fun J19 => jn0 (J19 0) (fun J18 => if r_1 = 0 then J18  else ob1 (F_M_isTable a2) (fun r_43 => if r_43 = 0 then J18  else J19 1))))
set_option maxHeartbeats 4000000 in
set_option maxRecDepth 100000 in
theorem t_M_escalate {p : Program} {l : Launch} {e : Env} {s : State} {m : MethodId} {args : Array Value} {below : List Frame} {meth : Method} {c : Code} {A : Nat → Prop} {g : va_G} {cI cJ cZ : ClassId} {ad : Nat → Nat} {rest : va_W} (K : kX p s m args meth c "LockTableModel" prog_6_method_36_code 4 (some .int) A g (kty cI cJ cZ)) (mth : Int32) (mst : Nat → Int32) (mse : Nat → Int32) (mla : Int32) (mmo : Nat → Int32) (mrc : Int32) (mro : Nat → Int32) (mrt : Nat → Int32) (mrm : Nat → Int32) (mrl : Nat → Int64) (mrh : Nat → Int64) (mwk : Nat → Int32) (mwt : Nat → Int32) (mwm : Nat → Int32) (mwl : Nat → Int64) (mwh : Nat → Int64) (mwi : Nat → Int32) (mwc : Nat → Int32) (mwx : Nat → Int32) (mar : Int32) (mli : Int32) (mgr : Int32) (mgo : Nat → Int32) (mre : Nat → Int32) (mfr : Int32) (a1 : Int32) (a2 : Int32) (r : Int32) (o_mth : Int32) (o_mst : Nat → Int32) (o_mmo : Nat → Int32) (o_mrc : Int32) (o_mro : Nat → Int32) (o_mrt : Nat → Int32) (o_mrm : Nat → Int32) (o_mrl : Nat → Int64) (o_mrh : Nat → Int64) (o_mwk : Nat → Int32) (o_mwt : Nat → Int32) (o_mwm : Nat → Int32) (o_mwi : Nat → Int32) (o_mwc : Nat → Int32) (o_mwx : Nat → Int32) (o_mar : Int32) (o_mgr : Int32) (o_mgo : Nat → Int32) (o_mre : Nat → Int32) (o_mfr : Int32) (hF : F_M_escalate mth mst mse mmo mrc mro mrt mrm mrl mrh mwk mwt mwm mwl mwh mwi mwc mwx mar mgr mgo mre mfr a1 a2 = some (r, o_mth, o_mst, o_mmo, o_mrc, o_mro, o_mrt, o_mrm, o_mrl, o_mrh, o_mwk, o_mwt, o_mwm, o_mwi, o_mwc, o_mwx, o_mar, o_mgr, o_mgo, o_mre, o_mfr)) {H : Heap} {locs : List Loc} {ls : Array Slot} (hP : va_P g kcl (wM cI cJ cZ ad mth mst mse mla mmo mrc mro mrt mrm mrl mrh mwk mwt mwm mwl mwh mwi mwc mwx mar mli mgr mgo mre mfr rest) H) (hD : va_D A (wM cI cJ cZ ad mth mst mse mla mmo mrc mro mrt mrm mrl mrh mwk mwt mwm mwl mwh mwi mwc mwx mar mli mgr mgo mre mfr rest)) (hS : va_S A s.heap H locs) (hl : lv_has ls 4 [(0, .ref (ad 0)), (1, .int a1), (2, .int a2)]) : W p l e ({ frames := 9, cells := 0, slots := 0, locals := 211 }) s m args below meth c H locs 0 0 (MQ below (kQi g (kty cI cJ cZ) (wM cI cJ cZ ad o_mth o_mst mse mla o_mmo o_mrc o_mro o_mrt o_mrm o_mrl o_mrh o_mwk o_mwt o_mwm mwl mwh o_mwi o_mwc o_mwx o_mar mli o_mgr o_mgo o_mre o_mfr rest) A r) args s 0 0 A) (F0 m 0 ls []) := by
  obtain ⟨hx, hb, hr, hml, hown, hts, hlocks, hK, hA, hE⟩ := id K
  unfold F_M_escalate at hF
  refine lv_iload_n hx hb d_M_escalate_0 rfl (lv_at hl 1 rfl) ?_
  obtain ⟨r_1, hG, hF⟩ := ob1_inv hF
  refine ksi K hP hD hS (c_M_isOwner l g (kty cI cJ cZ) (wM cI cJ cZ ad mth mst mse mla mmo mrc mro mrt mrm mrl mrh mwk mwt mwm mwl mwh mwi mwc mwx mar mli mgr mgo mre mfr rest) a1 r_1 hG) wm_757 wm_755 wm_756 wm_50 hd_M_isOwner rfl rfl ⟨Nat.le_of_ble_eq_true rfl, Nat.le_of_ble_eq_true rfl⟩ ⟨Nat.zero_le _, Nat.zero_le _⟩ hl.1 (rest := []) rfl (Nat.le_of_ble_eq_true rfl) d_M_escalate_1 (fun H locs hP hD hS => ?_)
  obtain ⟨J19, eJ19, hF⟩ := jn1_inv hF
  have hJ19 : ∀ (s_2 : Int32) (H : Heap) (locs : List Loc) (ls : Array Slot), J19 s_2 = some (r, o_mth, o_mst, o_mmo, o_mrc, o_mro, o_mrt, o_mrm, o_mrl, o_mrh, o_mwk, o_mwt, o_mwm, o_mwi, o_mwc, o_mwx, o_mar, o_mgr, o_mgo, o_mre, o_mfr) → va_P g kcl (wM cI cJ cZ ad mth mst mse mla mmo mrc mro mrt mrm mrl mrh mwk mwt mwm mwl mwh mwi mwc mwx mar mli mgr mgo mre mfr rest) H → va_D A (wM cI cJ cZ ad mth mst mse mla mmo mrc mro mrt mrm mrl mrh mwk mwt mwm mwl mwh mwi mwc mwx mar mli mgr mgo mre mfr rest) → va_S A s.heap H locs → lv_has ls 4 [(0, .ref (ad 0)), (1, .int a1), (2, .int a2)] → W p l e ({ frames := 9, cells := 0, slots := 0, locals := 211 }) s m args below meth c H locs 0 0 (MQ below (kQi g (kty cI cJ cZ) (wM cI cJ cZ ad o_mth o_mst mse mla o_mmo o_mrc o_mro o_mrt o_mrm o_mrl o_mrh o_mwk o_mwt o_mwm mwl mwh o_mwi o_mwc o_mwx o_mar mli o_mgr o_mgo o_mre o_mfr rest) A r) args s 0 0 A) (F0 m 19 ls [.int s_2]) := by
    intro s_2 H locs ls hF hP hD hS hl
    rw [eJ19] at hF
    refine lv_istore_n (lv' := [(3, .int s_2), (0, .ref (ad 0)), (1, .int a1), (2, .int a2)]) hx hb d_M_escalate_19 rfl hl (by decide) rfl (fun ls hl => ?_)
    refine lv_aload_n hx hb d_M_escalate_20 rfl (lv_at hl 1 rfl) ?_
    refine lv_iload_n hx hb d_M_escalate_21 rfl (lv_at hl 0 rfl) ?_
    obtain ⟨J30, eJ30, hF⟩ := jn1_inv hF
    have hJ30 : ∀ (s_3 : Int32) (H : Heap) (locs : List Loc) (ls : Array Slot), J30 s_3 = some (r, o_mth, o_mst, o_mmo, o_mrc, o_mro, o_mrt, o_mrm, o_mrl, o_mrh, o_mwk, o_mwt, o_mwm, o_mwi, o_mwc, o_mwx, o_mar, o_mgr, o_mgo, o_mre, o_mfr) → va_P g kcl (wM cI cJ cZ ad mth mst mse mla mmo mrc mro mrt mrm mrl mrh mwk mwt mwm mwl mwh mwi mwc mwx mar mli mgr mgo mre mfr rest) H → va_D A (wM cI cJ cZ ad mth mst mse mla mmo mrc mro mrt mrm mrl mrh mwk mwt mwm mwl mwh mwi mwc mwx mar mli mgr mgo mre mfr rest) → va_S A s.heap H locs → lv_has ls 4 [(0, .ref (ad 0)), (1, .int a1), (2, .int a2), (3, .int s_2)] → W p l e ({ frames := 9, cells := 0, slots := 0, locals := 211 }) s m args below meth c H locs 0 0 (MQ below (kQi g (kty cI cJ cZ) (wM cI cJ cZ ad o_mth o_mst mse mla o_mmo o_mrc o_mro o_mrt o_mrm o_mrl o_mrh o_mwk o_mwt o_mwm mwl mwh o_mwi o_mwc o_mwx o_mar mli o_mgr o_mgo o_mre o_mfr rest) A r) args s 0 0 A) (F0 m 30 ls [.int s_3, .ref (ad 0)]) := by
      intro s_3 H locs ls hF hP hD hS hl
      rw [eJ30] at hF
      refine lv_iload_n hx hb d_M_escalate_30 rfl (lv_at hl 3 rfl) ?_
      obtain ⟨J49, eJ49, hF⟩ := jn2_inv hF
      have hJ49 : ∀ (s_4 : Int32) (s_5 : Int32) (H : Heap) (locs : List Loc) (ls : Array Slot), J49 s_4 s_5 = some (r, o_mth, o_mst, o_mmo, o_mrc, o_mro, o_mrt, o_mrm, o_mrl, o_mrh, o_mwk, o_mwt, o_mwm, o_mwi, o_mwc, o_mwx, o_mar, o_mgr, o_mgo, o_mre, o_mfr) → va_P g kcl (wM cI cJ cZ ad mth mst mse mla mmo mrc mro mrt mrm mrl mrh mwk mwt mwm mwl mwh mwi mwc mwx mar mli mgr mgo mre mfr rest) H → va_D A (wM cI cJ cZ ad mth mst mse mla mmo mrc mro mrt mrm mrl mrh mwk mwt mwm mwl mwh mwi mwc mwx mar mli mgr mgo mre mfr rest) → va_S A s.heap H locs → lv_has ls 4 [(0, .ref (ad 0)), (1, .int a1), (2, .int a2), (3, .int s_2)] → W p l e ({ frames := 9, cells := 0, slots := 0, locals := 211 }) s m args below meth c H locs 0 0 (MQ below (kQi g (kty cI cJ cZ) (wM cI cJ cZ ad o_mth o_mst mse mla o_mmo o_mrc o_mro o_mrt o_mrm o_mrl o_mrh o_mwk o_mwt o_mwm mwl mwh o_mwi o_mwc o_mwx o_mar mli o_mgr o_mgo o_mre o_mfr rest) A r) args s 0 0 A) (F0 m 49 ls [.int s_5, .int s_4, .ref (ad 0)]) := by
        intro s_4 s_5 H locs ls hF hP hD hS hl
        rw [eJ49] at hF
        refine lv_iload_n hx hb d_M_escalate_49 rfl (lv_at hl 3 rfl) ?_
        obtain ⟨J67, eJ67, hF⟩ := jn3_inv hF
        have hJ67 : ∀ (s_6 : Int32) (s_7 : Int32) (s_8 : Int32) (H : Heap) (locs : List Loc) (ls : Array Slot), J67 s_6 s_7 s_8 = some (r, o_mth, o_mst, o_mmo, o_mrc, o_mro, o_mrt, o_mrm, o_mrl, o_mrh, o_mwk, o_mwt, o_mwm, o_mwi, o_mwc, o_mwx, o_mar, o_mgr, o_mgo, o_mre, o_mfr) → va_P g kcl (wM cI cJ cZ ad mth mst mse mla mmo mrc mro mrt mrm mrl mrh mwk mwt mwm mwl mwh mwi mwc mwx mar mli mgr mgo mre mfr rest) H → va_D A (wM cI cJ cZ ad mth mst mse mla mmo mrc mro mrt mrm mrl mrh mwk mwt mwm mwl mwh mwi mwc mwx mar mli mgr mgo mre mfr rest) → va_S A s.heap H locs → lv_has ls 4 [(0, .ref (ad 0)), (1, .int a1), (2, .int a2)] → W p l e ({ frames := 9, cells := 0, slots := 0, locals := 211 }) s m args below meth c H locs 0 0 (MQ below (kQi g (kty cI cJ cZ) (wM cI cJ cZ ad o_mth o_mst mse mla o_mmo o_mrc o_mro o_mrt o_mrm o_mrl o_mrh o_mwk o_mwt o_mwm mwl mwh o_mwi o_mwc o_mwx o_mar mli o_mgr o_mgo o_mre o_mfr rest) A r) args s 0 0 A) (F0 m 67 ls [.int s_8, .int s_7, .int s_6, .ref (ad 0)]) := by
          intro s_6 s_7 s_8 H locs ls hF hP hD hS hl
          rw [eJ67] at hF
          obtain ⟨r_9, mth_10, hG, hF⟩ := ob2_inv hF
          refine kci K hP hD hS (c_M_refused l g cI cJ cZ ad mth mst mse mla mmo mrc mro mrt mrm mrl mrh mwk mwt mwm mwl mwh mwi mwc mwx mar mli mgr mgo mre mfr rest s_6 s_7 s_8 r_9 mth_10 hG) wm_761 wm_758 wm_760 wm_20 wm_50 hd_M_refused rfl rfl ⟨Nat.le_of_ble_eq_true rfl, Nat.le_of_ble_eq_true rfl⟩ ⟨Nat.zero_le _, Nat.zero_le _⟩ 3 0 rfl rfl rfl hl.1 (rest := []) rfl (Nat.le_of_ble_eq_true rfl) d_M_escalate_67 (fun H locs hP hD hS => ?_)
          refine lv_if_eq (tgt := 75) hx hb d_M_escalate_70 (by decide) (fun hc_11 => ?_) (fun hc_11 => ?_)
          · have hF := it_t hF hc_11
            refine lv_aload_n hx hb d_M_escalate_75 rfl (lv_at hl 0 rfl) ?_
            refine lv_iconst (v := 0) hx hb d_M_escalate_76 (by decide) ?_
            refine va_put (D := g) (ci := 3) (v := .int 0) (ty := .int) (C := kR3) (T := kT3) (N := 25) hx hb hts kw3 kt3 ko3 kn3 hown hK hP hD hS 0 rfl rfl 21 (by decide) (hts _ wm_692) (fun _ h9 => h9) rfl (by decide +kernel) rfl rfl (Nat.le_of_ble_eq_true rfl) d_M_escalate_77 (fun H locs hP hD hS => ?_)
            have hP : va_P g kcl (wM cI cJ cZ ad mth_10 mst mse mla mmo mrc mro mrt mrm mrl mrh mwk mwt mwm mwl mwh mwi mwc mwx mar mli 0 mgo mre mfr rest) H := hP
            have hD : va_D A (wM cI cJ cZ ad mth_10 mst mse mla mmo mrc mro mrt mrm mrl mrh mwk mwt mwm mwl mwh mwi mwc mwx mar mli 0 mgo mre mfr rest) := hD
            refine lv_aload_n hx hb d_M_escalate_80 rfl (lv_at hl 0 rfl) ?_
            refine lv_iload_n hx hb d_M_escalate_81 rfl (lv_at hl 1 rfl) ?_
            refine lv_iload_n hx hb d_M_escalate_82 rfl (lv_at hl 2 rfl) ?_
            refine lv_iconst (v := 0) hx hb d_M_escalate_83 (by decide) ?_
            obtain ⟨r_12, mst_13, mmo_14, mrc_15, mro_16, mrt_17, mrm_18, mrl_19, mrh_20, mwk_21, mwt_22, mwm_23, mwi_24, mwc_25, mwx_26, mar_27, mgr_28, mgo_29, mre_30, mfr_31, hG, hF⟩ := ob20_inv hF
            refine kci K hP hD hS (c_M_escalated l g cI cJ cZ ad mth_10 mst mse mla mmo mrc mro mrt mrm mrl mrh mwk mwt mwm mwl mwh mwi mwc mwx mar mli 0 mgo mre mfr rest a1 a2 0 r_12 mst_13 mmo_14 mrc_15 mro_16 mrt_17 mrm_18 mrl_19 mrh_20 mwk_21 mwt_22 mwm_23 mwi_24 mwc_25 mwx_26 mar_27 mgr_28 mgo_29 mre_30 mfr_31 hG) wm_869 wm_866 wm_868 wm_39 wm_50 hd_M_escalated rfl rfl ⟨Nat.le_of_ble_eq_true rfl, Nat.le_of_ble_eq_true rfl⟩ ⟨Nat.zero_le _, Nat.zero_le _⟩ 3 0 rfl rfl rfl hl.1 (rest := []) rfl (Nat.le_of_ble_eq_true rfl) d_M_escalate_84 (fun H locs hP hD hS => ?_)
            cases hF
            exact kri K hP hD hS d_M_escalate_87 rfl
          · have hF := it_f hF hc_11
            refine lv_iconst (v := 0) hx hb d_M_escalate_73 (by decide) ?_
            cases hF
            exact kri K hP hD hS d_M_escalate_74 rfl
        obtain ⟨J66, eJ66, hF⟩ := jn2_inv hF
        have hJ66 : ∀ (s_32 : Int32) (s_33 : Int32) (H : Heap) (locs : List Loc) (ls : Array Slot), J66 s_32 s_33 = some (r, o_mth, o_mst, o_mmo, o_mrc, o_mro, o_mrt, o_mrm, o_mrl, o_mrh, o_mwk, o_mwt, o_mwm, o_mwi, o_mwc, o_mwx, o_mar, o_mgr, o_mgo, o_mre, o_mfr) → va_P g kcl (wM cI cJ cZ ad mth mst mse mla mmo mrc mro mrt mrm mrl mrh mwk mwt mwm mwl mwh mwi mwc mwx mar mli mgr mgo mre mfr rest) H → va_D A (wM cI cJ cZ ad mth mst mse mla mmo mrc mro mrt mrm mrl mrh mwk mwt mwm mwl mwh mwi mwc mwx mar mli mgr mgo mre mfr rest) → va_S A s.heap H locs → lv_has ls 4 [(0, .ref (ad 0)), (1, .int a1), (2, .int a2)] → W p l e ({ frames := 9, cells := 0, slots := 0, locals := 211 }) s m args below meth c H locs 0 0 (MQ below (kQi g (kty cI cJ cZ) (wM cI cJ cZ ad o_mth o_mst mse mla o_mmo o_mrc o_mro o_mrt o_mrm o_mrl o_mrh o_mwk o_mwt o_mwm mwl mwh o_mwi o_mwc o_mwx o_mar mli o_mgr o_mgo o_mre o_mfr rest) A r) args s 0 0 A) (F0 m 66 ls [.int s_33, .int s_32, .ref (ad 0)]) := by
          intro s_32 s_33 H locs ls hF hP hD hS hl
          rw [eJ66] at hF
          refine lv_iconst (v := 0) hx hb d_M_escalate_66 (by decide) ?_
          exact hJ67 _ _ _ H locs ls hF hP hD hS (lv_sub hl [0, 1, 2] rfl)
        refine lv_if_eq (tgt := 66) hx hb d_M_escalate_50 (by decide) (fun hc_34 => ?_) (fun hc_34 => ?_)
        · have hF := it_t hF hc_34
          exact hJ66 _ _ H locs ls hF hP hD hS (lv_sub hl [0, 1, 2] rfl)
        · have hF := it_f hF hc_34
          refine lv_aload_n hx hb d_M_escalate_53 rfl (lv_at hl 0 rfl) ?_
          refine lv_iload_n hx hb d_M_escalate_54 rfl (lv_at hl 1 rfl) ?_
          refine lv_iload_n hx hb d_M_escalate_55 rfl (lv_at hl 2 rfl) ?_
          obtain ⟨r_35, hG, hF⟩ := ob1_inv hF
          refine kci K hP hD hS (c_M_rangesOf l g cI cJ cZ ad mth mst mse mla mmo mrc mro mrt mrm mrl mrh mwk mwt mwm mwl mwh mwi mwc mwx mar mli mgr mgo mre mfr rest a1 a2 r_35 hG) wm_865 wm_862 wm_864 wm_38 wm_50 hd_M_rangesOf rfl rfl ⟨Nat.le_of_ble_eq_true rfl, Nat.le_of_ble_eq_true rfl⟩ ⟨Nat.zero_le _, Nat.zero_le _⟩ 3 0 rfl rfl rfl hl.1 (rest := [.int s_5, .int s_4, .ref (ad 0)]) rfl (Nat.le_of_ble_eq_true rfl) d_M_escalate_56 (fun H locs hP hD hS => ?_)
          refine lv_if_ne (tgt := 66) hx hb d_M_escalate_59 (by decide) (fun hc_36 => ?_) (fun hc_36 => ?_)
          · have hF := it_f hF hc_36
            exact hJ66 _ _ H locs ls hF hP hD hS (lv_sub hl [0, 1, 2] rfl)
          · have hF := it_t hF hc_36
            refine lv_iconst (v := 1) hx hb d_M_escalate_62 (by decide) ?_
            refine lv_goto (tgt := 67) hx hb d_M_escalate_63 (by decide) ?_
            exact hJ67 _ _ _ H locs ls hF hP hD hS (lv_sub hl [0, 1, 2] rfl)
      obtain ⟨J48, eJ48, hF⟩ := jn1_inv hF
      have hJ48 : ∀ (s_37 : Int32) (H : Heap) (locs : List Loc) (ls : Array Slot), J48 s_37 = some (r, o_mth, o_mst, o_mmo, o_mrc, o_mro, o_mrt, o_mrm, o_mrl, o_mrh, o_mwk, o_mwt, o_mwm, o_mwi, o_mwc, o_mwx, o_mar, o_mgr, o_mgo, o_mre, o_mfr) → va_P g kcl (wM cI cJ cZ ad mth mst mse mla mmo mrc mro mrt mrm mrl mrh mwk mwt mwm mwl mwh mwi mwc mwx mar mli mgr mgo mre mfr rest) H → va_D A (wM cI cJ cZ ad mth mst mse mla mmo mrc mro mrt mrm mrl mrh mwk mwt mwm mwl mwh mwi mwc mwx mar mli mgr mgo mre mfr rest) → va_S A s.heap H locs → lv_has ls 4 [(0, .ref (ad 0)), (1, .int a1), (2, .int a2), (3, .int s_2)] → W p l e ({ frames := 9, cells := 0, slots := 0, locals := 211 }) s m args below meth c H locs 0 0 (MQ below (kQi g (kty cI cJ cZ) (wM cI cJ cZ ad o_mth o_mst mse mla o_mmo o_mrc o_mro o_mrt o_mrm o_mrl o_mrh o_mwk o_mwt o_mwm mwl mwh o_mwi o_mwc o_mwx o_mar mli o_mgr o_mgo o_mre o_mfr rest) A r) args s 0 0 A) (F0 m 48 ls [.int s_37, .ref (ad 0)]) := by
        intro s_37 H locs ls hF hP hD hS hl
        rw [eJ48] at hF
        refine lv_iconst (v := 0) hx hb d_M_escalate_48 (by decide) ?_
        exact hJ49 _ _ H locs ls hF hP hD hS (lv_sub hl [0, 1, 2, 3] rfl)
      refine lv_if_eq (tgt := 48) hx hb d_M_escalate_31 (by decide) (fun hc_38 => ?_) (fun hc_38 => ?_)
      · have hF := it_t hF hc_38
        exact hJ48 _ H locs ls hF hP hD hS (lv_sub hl [0, 1, 2, 3] rfl)
      · have hF := it_f hF hc_38
        refine lv_aload_n hx hb d_M_escalate_34 rfl (lv_at hl 0 rfl) ?_
        refine va_get (D := g) (ci := 3) (v := .ref (ad 1)) (C := kR3) (T := kT3) (N := 25) hx hb hts kw3 hown hK hP 0 rfl rfl 1 (by decide) (hts _ wm_672) (fun _ h9 => h9) rfl d_M_escalate_35 ?_
        refine lv_iload_n hx hb d_M_escalate_38 rfl (lv_at hl 1 rfl) ?_
        obtain ⟨hg_39, hF⟩ := gd_inv hF
        refine va_iald hx hb hK hP 1 0 rfl rfl hg_39 d_M_escalate_39 ?_
        refine lv_iconst (v := 1) hx hb d_M_escalate_40 (by decide) ?_
        refine lv_icmp_eq (tgt := 48) hx hb d_M_escalate_41 (by decide) (fun hc_40 => ?_) (fun hc_40 => ?_)
        · have hF := it_t hF hc_40
          exact hJ48 _ H locs ls hF hP hD hS (lv_sub hl [0, 1, 2, 3] rfl)
        · have hF := it_f hF hc_40
          refine lv_iconst (v := 1) hx hb d_M_escalate_44 (by decide) ?_
          refine lv_goto (tgt := 49) hx hb d_M_escalate_45 (by decide) ?_
          exact hJ49 _ _ H locs ls hF hP hD hS (lv_sub hl [0, 1, 2, 3] rfl)
    refine lv_if_ne (tgt := 29) hx hb d_M_escalate_22 (by decide) (fun hc_41 => ?_) (fun hc_41 => ?_)
    · have hF := it_f hF hc_41
      refine lv_iconst (v := 0) hx hb d_M_escalate_29 (by decide) ?_
      exact hJ30 _ H locs ls hF hP hD hS (lv_sub hl [1, 2, 3, 0] rfl)
    · have hF := it_t hF hc_41
      refine lv_iconst (v := 1) hx hb d_M_escalate_25 (by decide) ?_
      refine lv_goto (tgt := 30) hx hb d_M_escalate_26 (by decide) ?_
      exact hJ30 _ H locs ls hF hP hD hS (lv_sub hl [1, 2, 3, 0] rfl)
  obtain ⟨J18, eJ18, hF⟩ := jn0_inv hF
  have hJ18 : ∀  (H : Heap) (locs : List Loc) (ls : Array Slot), J18  = some (r, o_mth, o_mst, o_mmo, o_mrc, o_mro, o_mrt, o_mrm, o_mrl, o_mrh, o_mwk, o_mwt, o_mwm, o_mwi, o_mwc, o_mwx, o_mar, o_mgr, o_mgo, o_mre, o_mfr) → va_P g kcl (wM cI cJ cZ ad mth mst mse mla mmo mrc mro mrt mrm mrl mrh mwk mwt mwm mwl mwh mwi mwc mwx mar mli mgr mgo mre mfr rest) H → va_D A (wM cI cJ cZ ad mth mst mse mla mmo mrc mro mrt mrm mrl mrh mwk mwt mwm mwl mwh mwi mwc mwx mar mli mgr mgo mre mfr rest) → va_S A s.heap H locs → lv_has ls 4 [(0, .ref (ad 0)), (1, .int a1), (2, .int a2)] → W p l e ({ frames := 9, cells := 0, slots := 0, locals := 211 }) s m args below meth c H locs 0 0 (MQ below (kQi g (kty cI cJ cZ) (wM cI cJ cZ ad o_mth o_mst mse mla o_mmo o_mrc o_mro o_mrt o_mrm o_mrl o_mrh o_mwk o_mwt o_mwm mwl mwh o_mwi o_mwc o_mwx o_mar mli o_mgr o_mgo o_mre o_mfr rest) A r) args s 0 0 A) (F0 m 18 ls []) := by
    intro  H locs ls hF hP hD hS hl
    rw [eJ18] at hF
    refine lv_iconst (v := 0) hx hb d_M_escalate_18 (by decide) ?_
    exact hJ19 _ H locs ls hF hP hD hS (lv_sub hl [0, 1, 2] rfl)
  refine lv_if_eq (tgt := 18) hx hb d_M_escalate_4 (by decide) (fun hc_42 => ?_) (fun hc_42 => ?_)
  · have hF := it_t hF hc_42
    exact hJ18  H locs ls hF hP hD hS (lv_sub hl [0, 1, 2] rfl)
  · have hF := it_f hF hc_42
    refine lv_iload_n hx hb d_M_escalate_7 rfl (lv_at hl 2 rfl) ?_
    obtain ⟨r_43, hG, hF⟩ := ob1_inv hF
    refine ksi K hP hD hS (c_M_isTable l g (kty cI cJ cZ) (wM cI cJ cZ ad mth mst mse mla mmo mrc mro mrt mrm mrl mrh mwk mwt mwm mwl mwh mwi mwc mwx mar mli mgr mgo mre mfr rest) a2 r_43 hG) wm_768 wm_766 wm_767 wm_50 hd_M_isTable rfl rfl ⟨Nat.le_of_ble_eq_true rfl, Nat.le_of_ble_eq_true rfl⟩ ⟨Nat.zero_le _, Nat.zero_le _⟩ hl.1 (rest := []) rfl (Nat.le_of_ble_eq_true rfl) d_M_escalate_8 (fun H locs hP hD hS => ?_)
    refine lv_if_eq (tgt := 18) hx hb d_M_escalate_11 (by decide) (fun hc_44 => ?_) (fun hc_44 => ?_)
    · have hF := it_t hF hc_44
      exact hJ18  H locs ls hF hP hD hS (lv_sub hl [0, 1, 2] rfl)
    · have hF := it_f hF hc_44
      refine lv_iconst (v := 1) hx hb d_M_escalate_14 (by decide) ?_
      refine lv_goto (tgt := 19) hx hb d_M_escalate_15 (by decide) ?_
      exact hJ19 _ H locs ls hF hP hD hS (lv_sub hl [0, 1, 2] rfl)
theorem c_M_escalate (l : Launch) (g : va_G) (cI cJ cZ : ClassId) (ad : Nat → Nat) (mth : Int32) (mst : Nat → Int32) (mse : Nat → Int32) (mla : Int32) (mmo : Nat → Int32) (mrc : Int32) (mro : Nat → Int32) (mrt : Nat → Int32) (mrm : Nat → Int32) (mrl : Nat → Int64) (mrh : Nat → Int64) (mwk : Nat → Int32) (mwt : Nat → Int32) (mwm : Nat → Int32) (mwl : Nat → Int64) (mwh : Nat → Int64) (mwi : Nat → Int32) (mwc : Nat → Int32) (mwx : Nat → Int32) (mar : Int32) (mli : Int32) (mgr : Int32) (mgo : Nat → Int32) (mre : Nat → Int32) (mfr : Int32) (rest : va_W) (a1 : Int32) (a2 : Int32) (r : Int32) (o_mth : Int32) (o_mst : Nat → Int32) (o_mmo : Nat → Int32) (o_mrc : Int32) (o_mro : Nat → Int32) (o_mrt : Nat → Int32) (o_mrm : Nat → Int32) (o_mrl : Nat → Int64) (o_mrh : Nat → Int64) (o_mwk : Nat → Int32) (o_mwt : Nat → Int32) (o_mwm : Nat → Int32) (o_mwi : Nat → Int32) (o_mwc : Nat → Int32) (o_mwx : Nat → Int32) (o_mar : Int32) (o_mgr : Int32) (o_mgo : Nat → Int32) (o_mre : Nat → Int32) (o_mfr : Int32) (hF : F_M_escalate mth mst mse mmo mrc mro mrt mrm mrl mrh mwk mwt mwm mwl mwh mwi mwc mwx mar mgr mgo mre mfr a1 a2 = some (r, o_mth, o_mst, o_mmo, o_mrc, o_mro, o_mrt, o_mrm, o_mrl, o_mrh, o_mwk, o_mwt, o_mwm, o_mwi, o_mwc, o_mwx, o_mar, o_mgr, o_mgo, o_mre, o_mfr)) : Ci l y_M_escalate prog_6_method_36_code 4 (some .int) ({ frames := 9, cells := 0, slots := 0, locals := 211 }) [.ref (ad 0), .int a1, .int a2] g (kty cI cJ cZ) (wM cI cJ cZ ad mth mst mse mla mmo mrc mro mrt mrm mrl mrh mwk mwt mwm mwl mwh mwi mwc mwx mar mli mgr mgo mre mfr rest) (wM cI cJ cZ ad o_mth o_mst mse mla o_mmo o_mrc o_mro o_mrt o_mrm o_mrl o_mrh o_mwk o_mwt o_mwm mwl mwh o_mwi o_mwc o_mwx o_mar mli o_mgr o_mgo o_mre o_mfr rest) r :=
  Ci.of (by decide) (Nat.le_of_ble_eq_true rfl) (fun p e s m below meth c A ls K hP hD hS hl => t_M_escalate K mth mst mse mla mmo mrc mro mrt mrm mrl mrh mwk mwt mwm mwl mwh mwi mwc mwx mar mli mgr mgo mre mfr a1 a2 r o_mth o_mst o_mmo o_mrc o_mro o_mrt o_mrm o_mrl o_mrh o_mwk o_mwt o_mwm o_mwi o_mwc o_mwx o_mar o_mgr o_mgo o_mre o_mfr hF hP hD hS hl)
def F_M_cancel (mth : Int32) (mst : Nat → Int32) (mmo : Nat → Int32) (mrc : Int32) (mro : Nat → Int32) (mrt : Nat → Int32) (mrm : Nat → Int32) (mrl : Nat → Int64) (mrh : Nat → Int64) (mwk : Nat → Int32) (mwt : Nat → Int32) (mwm : Nat → Int32) (mwl : Nat → Int64) (mwh : Nat → Int64) (mwi : Nat → Int32) (mwc : Nat → Int32) (mgr : Int32) (mgo : Nat → Int32) (mfr : Int32) (a1 : Int32) : Option (Int32 × Int32 × (Nat → Int32) × (Nat → Int32) × Int32 × (Nat → Int32) × (Nat → Int32) × (Nat → Int32) × (Nat → Int64) × (Nat → Int64) × Int32 × (Nat → Int32) × Int32) :=
  ob1 (F_M_isOwner a1) (fun r_1 => jn1 (fun (s_2 : Int32) => ob1 (F_M_isIn mst a1 2) (fun r_3 => jn2 (fun (s_4 : Int32) (s_5 : Int32) => ob2 (F_M_refused mth s_4 s_5 0) (fun r_6 mth_7 => if r_6 = 0 then gd (a1 < 0 ∨ 8 ≤ a1.toNatClampNeg) (ob11 (F_M_look (upd mst a1.toNatClampNeg 1) mmo mrc mro mrt mrm mrl mrh mwk mwt mwm mwl mwh mwi mwc 0 mgo mfr (-1)) (fun mst_10 mmo_11 mrc_12 mro_13 mrt_14 mrm_15 mrl_16 mrh_17 mgr_18 mgo_19 mfr_20 => some (mgr_18, mth_7, mst_10, mmo_11, mrc_12, mro_13, mrt_14, mrm_15, mrl_16, mrh_17, mgr_18, mgo_19, mfr_20))) else some (0, mth_7, mst, mmo, mrc, mro, mrt, mrm, mrl, mrh, mgr, mgo, mfr))) (fun J27 => if r_3 = 0 then J27 s_2 1 else J27 s_2 0))) (fun J13 => if r_1 = 0 then J13 1 else J13 0))
set_option maxHeartbeats 4000000 in
set_option maxRecDepth 100000 in
theorem t_M_cancel {p : Program} {l : Launch} {e : Env} {s : State} {m : MethodId} {args : Array Value} {below : List Frame} {meth : Method} {c : Code} {A : Nat → Prop} {g : va_G} {cI cJ cZ : ClassId} {ad : Nat → Nat} {rest : va_W} (K : kX p s m args meth c "LockTableModel" prog_6_method_37_code 2 (some .int) A g (kty cI cJ cZ)) (mth : Int32) (mst : Nat → Int32) (mse : Nat → Int32) (mla : Int32) (mmo : Nat → Int32) (mrc : Int32) (mro : Nat → Int32) (mrt : Nat → Int32) (mrm : Nat → Int32) (mrl : Nat → Int64) (mrh : Nat → Int64) (mwk : Nat → Int32) (mwt : Nat → Int32) (mwm : Nat → Int32) (mwl : Nat → Int64) (mwh : Nat → Int64) (mwi : Nat → Int32) (mwc : Nat → Int32) (mwx : Nat → Int32) (mar : Int32) (mli : Int32) (mgr : Int32) (mgo : Nat → Int32) (mre : Nat → Int32) (mfr : Int32) (a1 : Int32) (r : Int32) (o_mth : Int32) (o_mst : Nat → Int32) (o_mmo : Nat → Int32) (o_mrc : Int32) (o_mro : Nat → Int32) (o_mrt : Nat → Int32) (o_mrm : Nat → Int32) (o_mrl : Nat → Int64) (o_mrh : Nat → Int64) (o_mgr : Int32) (o_mgo : Nat → Int32) (o_mfr : Int32) (hF : F_M_cancel mth mst mmo mrc mro mrt mrm mrl mrh mwk mwt mwm mwl mwh mwi mwc mgr mgo mfr a1 = some (r, o_mth, o_mst, o_mmo, o_mrc, o_mro, o_mrt, o_mrm, o_mrl, o_mrh, o_mgr, o_mgo, o_mfr)) {H : Heap} {locs : List Loc} {ls : Array Slot} (hP : va_P g kcl (wM cI cJ cZ ad mth mst mse mla mmo mrc mro mrt mrm mrl mrh mwk mwt mwm mwl mwh mwi mwc mwx mar mli mgr mgo mre mfr rest) H) (hD : va_D A (wM cI cJ cZ ad mth mst mse mla mmo mrc mro mrt mrm mrl mrh mwk mwt mwm mwl mwh mwi mwc mwx mar mli mgr mgo mre mfr rest)) (hS : va_S A s.heap H locs) (hl : lv_has ls 2 [(0, .ref (ad 0)), (1, .int a1)]) : W p l e ({ frames := 6, cells := 0, slots := 0, locals := 140 }) s m args below meth c H locs 0 0 (MQ below (kQi g (kty cI cJ cZ) (wM cI cJ cZ ad o_mth o_mst mse mla o_mmo o_mrc o_mro o_mrt o_mrm o_mrl o_mrh mwk mwt mwm mwl mwh mwi mwc mwx mar mli o_mgr o_mgo mre o_mfr rest) A r) args s 0 0 A) (F0 m 0 ls []) := by
  obtain ⟨hx, hb, hr, hml, hown, hts, hlocks, hK, hA, hE⟩ := id K
  unfold F_M_cancel at hF
  refine lv_aload_n hx hb d_M_cancel_0 rfl (lv_at hl 0 rfl) ?_
  refine lv_iload_n hx hb d_M_cancel_1 rfl (lv_at hl 1 rfl) ?_
  obtain ⟨r_1, hG, hF⟩ := ob1_inv hF
  refine ksi K hP hD hS (c_M_isOwner l g (kty cI cJ cZ) (wM cI cJ cZ ad mth mst mse mla mmo mrc mro mrt mrm mrl mrh mwk mwt mwm mwl mwh mwi mwc mwx mar mli mgr mgo mre mfr rest) a1 r_1 hG) wm_757 wm_755 wm_756 wm_50 hd_M_isOwner rfl rfl ⟨Nat.le_of_ble_eq_true rfl, Nat.le_of_ble_eq_true rfl⟩ ⟨Nat.zero_le _, Nat.zero_le _⟩ hl.1 (rest := [.ref (ad 0)]) rfl (Nat.le_of_ble_eq_true rfl) d_M_cancel_2 (fun H locs hP hD hS => ?_)
  obtain ⟨J13, eJ13, hF⟩ := jn1_inv hF
  have hJ13 : ∀ (s_2 : Int32) (H : Heap) (locs : List Loc) (ls : Array Slot), J13 s_2 = some (r, o_mth, o_mst, o_mmo, o_mrc, o_mro, o_mrt, o_mrm, o_mrl, o_mrh, o_mgr, o_mgo, o_mfr) → va_P g kcl (wM cI cJ cZ ad mth mst mse mla mmo mrc mro mrt mrm mrl mrh mwk mwt mwm mwl mwh mwi mwc mwx mar mli mgr mgo mre mfr rest) H → va_D A (wM cI cJ cZ ad mth mst mse mla mmo mrc mro mrt mrm mrl mrh mwk mwt mwm mwl mwh mwi mwc mwx mar mli mgr mgo mre mfr rest) → va_S A s.heap H locs → lv_has ls 2 [(0, .ref (ad 0)), (1, .int a1)] → W p l e ({ frames := 6, cells := 0, slots := 0, locals := 140 }) s m args below meth c H locs 0 0 (MQ below (kQi g (kty cI cJ cZ) (wM cI cJ cZ ad o_mth o_mst mse mla o_mmo o_mrc o_mro o_mrt o_mrm o_mrl o_mrh mwk mwt mwm mwl mwh mwi mwc mwx mar mli o_mgr o_mgo mre o_mfr rest) A r) args s 0 0 A) (F0 m 13 ls [.int s_2, .ref (ad 0)]) := by
    intro s_2 H locs ls hF hP hD hS hl
    rw [eJ13] at hF
    refine lv_aload_n hx hb d_M_cancel_13 rfl (lv_at hl 0 rfl) ?_
    refine lv_iload_n hx hb d_M_cancel_14 rfl (lv_at hl 1 rfl) ?_
    refine lv_iconst (v := 2) hx hb d_M_cancel_15 (by decide) ?_
    obtain ⟨r_3, hG, hF⟩ := ob1_inv hF
    refine kci K hP hD hS (c_M_isIn l g cI cJ cZ ad mth mst mse mla mmo mrc mro mrt mrm mrl mrh mwk mwt mwm mwl mwh mwi mwc mwx mar mli mgr mgo mre mfr rest a1 2 r_3 hG) wm_885 wm_882 wm_884 wm_41 wm_50 hd_M_isIn rfl rfl ⟨Nat.le_of_ble_eq_true rfl, Nat.le_of_ble_eq_true rfl⟩ ⟨Nat.zero_le _, Nat.zero_le _⟩ 3 0 rfl rfl rfl hl.1 (rest := [.int s_2, .ref (ad 0)]) rfl (Nat.le_of_ble_eq_true rfl) d_M_cancel_16 (fun H locs hP hD hS => ?_)
    obtain ⟨J27, eJ27, hF⟩ := jn2_inv hF
    have hJ27 : ∀ (s_4 : Int32) (s_5 : Int32) (H : Heap) (locs : List Loc) (ls : Array Slot), J27 s_4 s_5 = some (r, o_mth, o_mst, o_mmo, o_mrc, o_mro, o_mrt, o_mrm, o_mrl, o_mrh, o_mgr, o_mgo, o_mfr) → va_P g kcl (wM cI cJ cZ ad mth mst mse mla mmo mrc mro mrt mrm mrl mrh mwk mwt mwm mwl mwh mwi mwc mwx mar mli mgr mgo mre mfr rest) H → va_D A (wM cI cJ cZ ad mth mst mse mla mmo mrc mro mrt mrm mrl mrh mwk mwt mwm mwl mwh mwi mwc mwx mar mli mgr mgo mre mfr rest) → va_S A s.heap H locs → lv_has ls 2 [(0, .ref (ad 0)), (1, .int a1)] → W p l e ({ frames := 6, cells := 0, slots := 0, locals := 140 }) s m args below meth c H locs 0 0 (MQ below (kQi g (kty cI cJ cZ) (wM cI cJ cZ ad o_mth o_mst mse mla o_mmo o_mrc o_mro o_mrt o_mrm o_mrl o_mrh mwk mwt mwm mwl mwh mwi mwc mwx mar mli o_mgr o_mgo mre o_mfr rest) A r) args s 0 0 A) (F0 m 27 ls [.int s_5, .int s_4, .ref (ad 0)]) := by
      intro s_4 s_5 H locs ls hF hP hD hS hl
      rw [eJ27] at hF
      refine lv_iconst (v := 0) hx hb d_M_cancel_27 (by decide) ?_
      obtain ⟨r_6, mth_7, hG, hF⟩ := ob2_inv hF
      refine kci K hP hD hS (c_M_refused l g cI cJ cZ ad mth mst mse mla mmo mrc mro mrt mrm mrl mrh mwk mwt mwm mwl mwh mwi mwc mwx mar mli mgr mgo mre mfr rest s_4 s_5 0 r_6 mth_7 hG) wm_761 wm_758 wm_760 wm_20 wm_50 hd_M_refused rfl rfl ⟨Nat.le_of_ble_eq_true rfl, Nat.le_of_ble_eq_true rfl⟩ ⟨Nat.zero_le _, Nat.zero_le _⟩ 3 0 rfl rfl rfl hl.1 (rest := []) rfl (Nat.le_of_ble_eq_true rfl) d_M_cancel_28 (fun H locs hP hD hS => ?_)
      refine lv_if_eq (tgt := 36) hx hb d_M_cancel_31 (by decide) (fun hc_8 => ?_) (fun hc_8 => ?_)
      · have hF := it_t hF hc_8
        refine lv_aload_n hx hb d_M_cancel_36 rfl (lv_at hl 0 rfl) ?_
        refine lv_iconst (v := 0) hx hb d_M_cancel_37 (by decide) ?_
        refine va_put (D := g) (ci := 3) (v := .int 0) (ty := .int) (C := kR3) (T := kT3) (N := 25) hx hb hts kw3 kt3 ko3 kn3 hown hK hP hD hS 0 rfl rfl 21 (by decide) (hts _ wm_692) (fun _ h9 => h9) rfl (by decide +kernel) rfl rfl (Nat.le_of_ble_eq_true rfl) d_M_cancel_38 (fun H locs hP hD hS => ?_)
        have hP : va_P g kcl (wM cI cJ cZ ad mth_7 mst mse mla mmo mrc mro mrt mrm mrl mrh mwk mwt mwm mwl mwh mwi mwc mwx mar mli 0 mgo mre mfr rest) H := hP
        have hD : va_D A (wM cI cJ cZ ad mth_7 mst mse mla mmo mrc mro mrt mrm mrl mrh mwk mwt mwm mwl mwh mwi mwc mwx mar mli 0 mgo mre mfr rest) := hD
        refine lv_aload_n hx hb d_M_cancel_41 rfl (lv_at hl 0 rfl) ?_
        refine va_get (D := g) (ci := 3) (v := .ref (ad 1)) (C := kR3) (T := kT3) (N := 25) hx hb hts kw3 hown hK hP 0 rfl rfl 1 (by decide) (hts _ wm_672) (fun _ h9 => h9) rfl d_M_cancel_42 ?_
        refine lv_iload_n hx hb d_M_cancel_45 rfl (lv_at hl 1 rfl) ?_
        refine lv_iconst (v := 1) hx hb d_M_cancel_46 (by decide) ?_
        obtain ⟨hg_9, hF⟩ := gd_inv hF
        refine va_iast hx hb hK hP hD hS 1 0 rfl rfl hg_9 d_M_cancel_47 (fun H locs hP hD hS => ?_)
        have hP : va_P g kcl (wM cI cJ cZ ad mth_7 (upd mst a1.toNatClampNeg 1) mse mla mmo mrc mro mrt mrm mrl mrh mwk mwt mwm mwl mwh mwi mwc mwx mar mli 0 mgo mre mfr rest) H := hP
        have hD : va_D A (wM cI cJ cZ ad mth_7 (upd mst a1.toNatClampNeg 1) mse mla mmo mrc mro mrt mrm mrl mrh mwk mwt mwm mwl mwh mwi mwc mwx mar mli 0 mgo mre mfr rest) := hD
        refine lv_aload_n hx hb d_M_cancel_48 rfl (lv_at hl 0 rfl) ?_
        refine lv_iconst (v := (-1)) hx hb d_M_cancel_49 (by decide) ?_
        obtain ⟨mst_10, mmo_11, mrc_12, mro_13, mrt_14, mrm_15, mrl_16, mrh_17, mgr_18, mgo_19, mfr_20, hG, hF⟩ := ob11_inv hF
        refine kcv K hP hD hS (c_M_look l g cI cJ cZ ad mth_7 (upd mst a1.toNatClampNeg 1) mse mla mmo mrc mro mrt mrm mrl mrh mwk mwt mwm mwl mwh mwi mwc mwx mar mli 0 mgo mre mfr rest (-1) mst_10 mmo_11 mrc_12 mro_13 mrt_14 mrm_15 mrl_16 mrh_17 mgr_18 mgo_19 mfr_20 hG) wm_835 wm_832 wm_834 wm_33 wm_50 hd_M_look rfl rfl ⟨Nat.le_of_ble_eq_true rfl, Nat.le_of_ble_eq_true rfl⟩ ⟨Nat.zero_le _, Nat.zero_le _⟩ 3 0 rfl rfl rfl hl.1 (rest := []) rfl (Nat.le_of_ble_eq_true rfl) d_M_cancel_50 (fun H locs hP hD hS => ?_)
        refine lv_aload_n hx hb d_M_cancel_53 rfl (lv_at hl 0 rfl) ?_
        refine va_get (D := g) (ci := 3) (v := .int mgr_18) (C := kR3) (T := kT3) (N := 25) hx hb hts kw3 hown hK hP 0 rfl rfl 21 (by decide) (hts _ wm_692) (fun _ h9 => h9) rfl d_M_cancel_54 ?_
        cases hF
        exact kri K hP hD hS d_M_cancel_57 rfl
      · have hF := it_f hF hc_8
        refine lv_iconst (v := 0) hx hb d_M_cancel_34 (by decide) ?_
        cases hF
        exact kri K hP hD hS d_M_cancel_35 rfl
    refine lv_if_ne (tgt := 26) hx hb d_M_cancel_19 (by decide) (fun hc_21 => ?_) (fun hc_21 => ?_)
    · have hF := it_f hF hc_21
      refine lv_iconst (v := 0) hx hb d_M_cancel_26 (by decide) ?_
      exact hJ27 _ _ H locs ls hF hP hD hS (lv_sub hl [0, 1] rfl)
    · have hF := it_t hF hc_21
      refine lv_iconst (v := 1) hx hb d_M_cancel_22 (by decide) ?_
      refine lv_goto (tgt := 27) hx hb d_M_cancel_23 (by decide) ?_
      exact hJ27 _ _ H locs ls hF hP hD hS (lv_sub hl [0, 1] rfl)
  refine lv_if_ne (tgt := 12) hx hb d_M_cancel_5 (by decide) (fun hc_22 => ?_) (fun hc_22 => ?_)
  · have hF := it_f hF hc_22
    refine lv_iconst (v := 0) hx hb d_M_cancel_12 (by decide) ?_
    exact hJ13 _ H locs ls hF hP hD hS (lv_sub hl [0, 1] rfl)
  · have hF := it_t hF hc_22
    refine lv_iconst (v := 1) hx hb d_M_cancel_8 (by decide) ?_
    refine lv_goto (tgt := 13) hx hb d_M_cancel_9 (by decide) ?_
    exact hJ13 _ H locs ls hF hP hD hS (lv_sub hl [0, 1] rfl)
theorem c_M_cancel (l : Launch) (g : va_G) (cI cJ cZ : ClassId) (ad : Nat → Nat) (mth : Int32) (mst : Nat → Int32) (mse : Nat → Int32) (mla : Int32) (mmo : Nat → Int32) (mrc : Int32) (mro : Nat → Int32) (mrt : Nat → Int32) (mrm : Nat → Int32) (mrl : Nat → Int64) (mrh : Nat → Int64) (mwk : Nat → Int32) (mwt : Nat → Int32) (mwm : Nat → Int32) (mwl : Nat → Int64) (mwh : Nat → Int64) (mwi : Nat → Int32) (mwc : Nat → Int32) (mwx : Nat → Int32) (mar : Int32) (mli : Int32) (mgr : Int32) (mgo : Nat → Int32) (mre : Nat → Int32) (mfr : Int32) (rest : va_W) (a1 : Int32) (r : Int32) (o_mth : Int32) (o_mst : Nat → Int32) (o_mmo : Nat → Int32) (o_mrc : Int32) (o_mro : Nat → Int32) (o_mrt : Nat → Int32) (o_mrm : Nat → Int32) (o_mrl : Nat → Int64) (o_mrh : Nat → Int64) (o_mgr : Int32) (o_mgo : Nat → Int32) (o_mfr : Int32) (hF : F_M_cancel mth mst mmo mrc mro mrt mrm mrl mrh mwk mwt mwm mwl mwh mwi mwc mgr mgo mfr a1 = some (r, o_mth, o_mst, o_mmo, o_mrc, o_mro, o_mrt, o_mrm, o_mrl, o_mrh, o_mgr, o_mgo, o_mfr)) : Ci l y_M_cancel prog_6_method_37_code 2 (some .int) ({ frames := 6, cells := 0, slots := 0, locals := 140 }) [.ref (ad 0), .int a1] g (kty cI cJ cZ) (wM cI cJ cZ ad mth mst mse mla mmo mrc mro mrt mrm mrl mrh mwk mwt mwm mwl mwh mwi mwc mwx mar mli mgr mgo mre mfr rest) (wM cI cJ cZ ad o_mth o_mst mse mla o_mmo o_mrc o_mro o_mrt o_mrm o_mrl o_mrh mwk mwt mwm mwl mwh mwi mwc mwx mar mli o_mgr o_mgo mre o_mfr rest) r :=
  Ci.of (by decide) (Nat.le_of_ble_eq_true rfl) (fun p e s m below meth c A ls K hP hD hS hl => t_M_cancel K mth mst mse mla mmo mrc mro mrt mrm mrl mrh mwk mwt mwm mwl mwh mwi mwc mwx mar mli mgr mgo mre mfr a1 r o_mth o_mst o_mmo o_mrc o_mro o_mrt o_mrm o_mrl o_mrh o_mgr o_mgo o_mfr hF hP hD hS hl)
def F_M_giveReading_L2 (v1 : Int32) : Nat → (Nat → Int32) → Int32 → Option ((Nat → Int32))
  | 0, _, _ => none
  | n + 1, mmo, v2 => if 16 ≤ v2 then some mmo else gd (((16 * v1) + v2) < 0 ∨ 128 ≤ ((16 * v1) + v2).toNatClampNeg) (if (mmo ((16 * v1) + v2).toNatClampNeg) = 3 then gd (((16 * v1) + v2) < 0 ∨ 128 ≤ ((16 * v1) + v2).toNatClampNeg) (F_M_giveReading_L2 v1 n (upd mmo ((16 * v1) + v2).toNatClampNeg 1) (v2 + 1)) else gd (((16 * v1) + v2) < 0 ∨ 128 ≤ ((16 * v1) + v2).toNatClampNeg) (if (mmo ((16 * v1) + v2).toNatClampNeg) = 0 then gd (((16 * v1) + v2) < 0 ∨ 128 ≤ ((16 * v1) + v2).toNatClampNeg) (F_M_giveReading_L2 v1 n (upd mmo ((16 * v1) + v2).toNatClampNeg (-1)) (v2 + 1)) else gd (((16 * v1) + v2) < 0 ∨ 128 ≤ ((16 * v1) + v2).toNatClampNeg) (if (mmo ((16 * v1) + v2).toNatClampNeg) = 2 then gd (((16 * v1) + v2) < 0 ∨ 128 ≤ ((16 * v1) + v2).toNatClampNeg) (F_M_giveReading_L2 v1 n (upd mmo ((16 * v1) + v2).toNatClampNeg (-1)) (v2 + 1)) else gd (((16 * v1) + v2) < 0 ∨ 128 ≤ ((16 * v1) + v2).toNatClampNeg) (if (mmo ((16 * v1) + v2).toNatClampNeg) = 4 then gd (((16 * v1) + v2) < 0 ∨ 128 ≤ ((16 * v1) + v2).toNatClampNeg) (F_M_giveReading_L2 v1 n (upd mmo ((16 * v1) + v2).toNatClampNeg (-1)) (v2 + 1)) else gd (((16 * v1) + v2) < 0 ∨ 128 ≤ ((16 * v1) + v2).toNatClampNeg) (gd (((16 * v1) + v2) < 0 ∨ 128 ≤ ((16 * v1) + v2).toNatClampNeg) (F_M_giveReading_L2 v1 n (upd mmo ((16 * v1) + v2).toNatClampNeg (mmo ((16 * v1) + v2).toNatClampNeg)) (v2 + 1)))))))
def F_M_giveReading_L87 (v1 : Int32) : Nat → Int32 → (Nat → Int32) → (Nat → Int32) → (Nat → Int32) → (Nat → Int64) → (Nat → Int64) → Int32 → Option (Int32 × (Nat → Int32) × (Nat → Int32) × (Nat → Int32) × (Nat → Int64) × (Nat → Int64))
  | 0, _, _, _, _, _, _, _ => none
  | n + 1, mrc, mro, mrt, mrm, mrl, mrh, v2 => if v2 < 0 then some (mrc, mro, mrt, mrm, mrl, mrh) else gd (v2 < 0 ∨ 256 ≤ v2.toNatClampNeg) (if (mro v2.toNatClampNeg) = v1 then gd (v2 < 0 ∨ 256 ≤ v2.toNatClampNeg) (if (mrm v2.toNatClampNeg) = 5 then F_M_giveReading_L87 v1 n mrc mro mrt mrm mrl mrh (v2 + (-1)) else ob6 (F_M_dropRange mrc mro mrt mrm mrl mrh v2) (fun mrc_22 mro_23 mrt_24 mrm_25 mrl_26 mrh_27 => F_M_giveReading_L87 v1 n mrc_22 mro_23 mrt_24 mrm_25 mrl_26 mrh_27 (v2 + (-1)))) else F_M_giveReading_L87 v1 n mrc mro mrt mrm mrl mrh (v2 + (-1)))
def F_M_giveReading (mmo : Nat → Int32) (mrc : Int32) (mro : Nat → Int32) (mrt : Nat → Int32) (mrm : Nat → Int32) (mrl : Nat → Int64) (mrh : Nat → Int64) (a1 : Int32) : Option ((Nat → Int32) × Int32 × (Nat → Int32) × (Nat → Int32) × (Nat → Int32) × (Nat → Int64) × (Nat → Int64)) :=
  ob1 (F_M_giveReading_L2 a1 fu mmo 0) (fun mmo_16 => ob6 (F_M_giveReading_L87 a1 fu mrc mro mrt mrm mrl mrh (mrc - 1)) (fun mrc_28 mro_29 mrt_30 mrm_31 mrl_32 mrh_33 => some (mmo_16, mrc_28, mro_29, mrt_30, mrm_31, mrl_32, mrh_33)))
set_option maxHeartbeats 4000000 in
set_option maxRecDepth 100000 in
theorem t_M_giveReading_L2 {p : Program} {l : Launch} {e : Env} {s : State} {m : MethodId} {args : Array Value} {below : List Frame} {meth : Method} {c : Code} {A : Nat → Prop} {g : va_G} {cI cJ cZ : ClassId} {ad : Nat → Nat} {rest : va_W} (K : kX p s m args meth c "LockTableModel" prog_6_method_38_code 4 none A g (kty cI cJ cZ)) {Q : State → Prop} (mth : Int32) (mst : Nat → Int32) (mse : Nat → Int32) (mla : Int32) (mrc : Int32) (mro : Nat → Int32) (mrt : Nat → Int32) (mrm : Nat → Int32) (mrl : Nat → Int64) (mrh : Nat → Int64) (mwk : Nat → Int32) (mwt : Nat → Int32) (mwm : Nat → Int32) (mwl : Nat → Int64) (mwh : Nat → Int64) (mwi : Nat → Int32) (mwc : Nat → Int32) (mwx : Nat → Int32) (mar : Int32) (mli : Int32) (mgr : Int32) (mgo : Nat → Int32) (mre : Nat → Int32) (mfr : Int32) (v1 : Int32) : ∀ (n : Nat) (mmo : Nat → Int32) (v2 : Int32) (o_mmo : Nat → Int32) (H : Heap) (locs : List Loc) (ls : Array Slot), F_M_giveReading_L2 v1 n mmo v2 = some o_mmo → va_P g kcl (wM cI cJ cZ ad mth mst mse mla mmo mrc mro mrt mrm mrl mrh mwk mwt mwm mwl mwh mwi mwc mwx mar mli mgr mgo mre mfr rest) H → va_D A (wM cI cJ cZ ad mth mst mse mla mmo mrc mro mrt mrm mrl mrh mwk mwt mwm mwl mwh mwi mwc mwx mar mli mgr mgo mre mfr rest) → va_S A s.heap H locs → lv_has ls 4 [(0, .ref (ad 0)), (1, .int v1), (2, .int v2)] → (∀ (H : Heap) (locs : List Loc) (ls : Array Slot), va_P g kcl (wM cI cJ cZ ad mth mst mse mla o_mmo mrc mro mrt mrm mrl mrh mwk mwt mwm mwl mwh mwi mwc mwx mar mli mgr mgo mre mfr rest) H → va_D A (wM cI cJ cZ ad mth mst mse mla o_mmo mrc mro mrt mrm mrl mrh mwk mwt mwm mwl mwh mwi mwc mwx mar mli mgr mgo mre mfr rest) → va_S A s.heap H locs → lv_has ls 4 [(0, .ref (ad 0)), (1, .int v1)] → W p l e ({ frames := 1, cells := 0, slots := 0, locals := 21 }) s m args below meth c H locs 0 0 Q (F0 m 80 ls [])) → W p l e ({ frames := 1, cells := 0, slots := 0, locals := 21 }) s m args below meth c H locs 0 0 Q (F0 m 2 ls []) := by
  obtain ⟨hx, hb, hr, hml, hown, hts, hlocks, hK, hA, hE⟩ := id K
  intro n
  induction n with
  | zero =>
    intro mmo v2 o_mmo H locs ls hF
    rw [F_M_giveReading_L2] at hF
    cases hF
  | succ n ih =>
    intro mmo v2 o_mmo H locs ls hF hP hD hS hl hQ
    rw [F_M_giveReading_L2] at hF
    refine lv_iload_n hx hb d_M_giveReading_2 rfl (lv_at hl 2 rfl) ?_
    refine lv_bipush (v := 16) hx hb d_M_giveReading_3 (by decide) ?_
    refine lv_icmp_ge (tgt := 80) hx hb d_M_giveReading_5 (by decide) (fun hc_1 => ?_) (fun hc_1 => ?_)
    · have hF := it_t hF hc_1
      cases hF
      exact hQ H locs ls hP hD hS (lv_sub hl [0, 1] rfl)
    · have hF := it_f hF hc_1
      refine lv_bipush (v := 16) hx hb d_M_giveReading_8 (by decide) ?_
      refine lv_iload_n hx hb d_M_giveReading_10 rfl (lv_at hl 1 rfl) ?_
      refine lv_imul hx hb d_M_giveReading_11 ?_
      refine lv_iload_n hx hb d_M_giveReading_12 rfl (lv_at hl 2 rfl) ?_
      refine lv_iadd hx hb d_M_giveReading_13 ?_
      refine lv_istore_n (lv' := [(3, .int ((16 * v1) + v2)), (0, .ref (ad 0)), (1, .int v1), (2, .int v2)]) hx hb d_M_giveReading_14 rfl hl (by decide) rfl (fun ls hl => ?_)
      refine lv_aload_n hx hb d_M_giveReading_15 rfl (lv_at hl 1 rfl) ?_
      refine va_get (D := g) (ci := 3) (v := .ref (ad 3)) (C := kR3) (T := kT3) (N := 25) hx hb hts kw3 hown hK hP 0 rfl rfl 4 (by decide) (hts _ wm_675) (fun _ h9 => h9) rfl d_M_giveReading_16 ?_
      refine lv_iload_n hx hb d_M_giveReading_19 rfl (lv_at hl 0 rfl) ?_
      refine lv_aload_n hx hb d_M_giveReading_20 rfl (lv_at hl 1 rfl) ?_
      refine va_get (D := g) (ci := 3) (v := .ref (ad 3)) (C := kR3) (T := kT3) (N := 25) hx hb hts kw3 hown hK hP 0 rfl rfl 4 (by decide) (hts _ wm_675) (fun _ h9 => h9) rfl d_M_giveReading_21 ?_
      refine lv_iload_n hx hb d_M_giveReading_24 rfl (lv_at hl 0 rfl) ?_
      obtain ⟨hg_2, hF⟩ := gd_inv hF
      refine va_iald hx hb hK hP 3 0 rfl rfl hg_2 d_M_giveReading_25 ?_
      refine lv_iconst (v := 3) hx hb d_M_giveReading_26 (by decide) ?_
      refine lv_icmp_ne (tgt := 34) hx hb d_M_giveReading_27 (by decide) (fun hc_3 => ?_) (fun hc_3 => ?_)
      · have hF := it_f hF hc_3
        refine lv_aload_n hx hb d_M_giveReading_34 rfl (lv_at hl 1 rfl) ?_
        refine va_get (D := g) (ci := 3) (v := .ref (ad 3)) (C := kR3) (T := kT3) (N := 25) hx hb hts kw3 hown hK hP 0 rfl rfl 4 (by decide) (hts _ wm_675) (fun _ h9 => h9) rfl d_M_giveReading_35 ?_
        refine lv_iload_n hx hb d_M_giveReading_38 rfl (lv_at hl 0 rfl) ?_
        obtain ⟨hg_4, hF⟩ := gd_inv hF
        refine va_iald hx hb hK hP 3 0 rfl rfl hg_4 d_M_giveReading_39 ?_
        refine lv_if_eq (tgt := 63) hx hb d_M_giveReading_40 (by decide) (fun hc_5 => ?_) (fun hc_5 => ?_)
        · have hF := it_t hF hc_5
          refine lv_iconst (v := (-1)) hx hb d_M_giveReading_63 (by decide) ?_
          refine lv_goto (tgt := 73) hx hb d_M_giveReading_64 (by decide) ?_
          obtain ⟨hg_6, hF⟩ := gd_inv hF
          refine va_iast hx hb hK hP hD hS 3 0 rfl rfl hg_6 d_M_giveReading_73 (fun H locs hP hD hS => ?_)
          have hP : va_P g kcl (wM cI cJ cZ ad mth mst mse mla (upd mmo ((16 * v1) + v2).toNatClampNeg (-1)) mrc mro mrt mrm mrl mrh mwk mwt mwm mwl mwh mwi mwc mwx mar mli mgr mgo mre mfr rest) H := hP
          have hD : va_D A (wM cI cJ cZ ad mth mst mse mla (upd mmo ((16 * v1) + v2).toNatClampNeg (-1)) mrc mro mrt mrm mrl mrh mwk mwt mwm mwl mwh mwi mwc mwx mar mli mgr mgo mre mfr rest) := hD
          refine lv_iinc (v := v2 + 1) (lv' := [(2, .int (v2 + 1)), (3, .int ((16 * v1) + v2)), (0, .ref (ad 0)), (1, .int v1)]) hx hb d_M_giveReading_74 hl (k := 3) rfl rfl (by decide) rfl (fun ls hl => ?_)
          refine lv_goto (tgt := 2) hx hb d_M_giveReading_77 (by decide) ?_
          exact ih _ _ _ H locs ls hF hP hD hS (lv_sub hl [2, 3, 0] rfl) hQ
        · have hF := it_f hF hc_5
          refine lv_aload_n hx hb d_M_giveReading_43 rfl (lv_at hl 1 rfl) ?_
          refine va_get (D := g) (ci := 3) (v := .ref (ad 3)) (C := kR3) (T := kT3) (N := 25) hx hb hts kw3 hown hK hP 0 rfl rfl 4 (by decide) (hts _ wm_675) (fun _ h9 => h9) rfl d_M_giveReading_44 ?_
          refine lv_iload_n hx hb d_M_giveReading_47 rfl (lv_at hl 0 rfl) ?_
          obtain ⟨hg_7, hF⟩ := gd_inv hF
          refine va_iald hx hb hK hP 3 0 rfl rfl hg_7 d_M_giveReading_48 ?_
          refine lv_iconst (v := 2) hx hb d_M_giveReading_49 (by decide) ?_
          refine lv_icmp_eq (tgt := 63) hx hb d_M_giveReading_50 (by decide) (fun hc_8 => ?_) (fun hc_8 => ?_)
          · have hF := it_t hF hc_8
            refine lv_iconst (v := (-1)) hx hb d_M_giveReading_63 (by decide) ?_
            refine lv_goto (tgt := 73) hx hb d_M_giveReading_64 (by decide) ?_
            obtain ⟨hg_9, hF⟩ := gd_inv hF
            refine va_iast hx hb hK hP hD hS 3 0 rfl rfl hg_9 d_M_giveReading_73 (fun H locs hP hD hS => ?_)
            have hP : va_P g kcl (wM cI cJ cZ ad mth mst mse mla (upd mmo ((16 * v1) + v2).toNatClampNeg (-1)) mrc mro mrt mrm mrl mrh mwk mwt mwm mwl mwh mwi mwc mwx mar mli mgr mgo mre mfr rest) H := hP
            have hD : va_D A (wM cI cJ cZ ad mth mst mse mla (upd mmo ((16 * v1) + v2).toNatClampNeg (-1)) mrc mro mrt mrm mrl mrh mwk mwt mwm mwl mwh mwi mwc mwx mar mli mgr mgo mre mfr rest) := hD
            refine lv_iinc (v := v2 + 1) (lv' := [(2, .int (v2 + 1)), (3, .int ((16 * v1) + v2)), (0, .ref (ad 0)), (1, .int v1)]) hx hb d_M_giveReading_74 hl (k := 3) rfl rfl (by decide) rfl (fun ls hl => ?_)
            refine lv_goto (tgt := 2) hx hb d_M_giveReading_77 (by decide) ?_
            exact ih _ _ _ H locs ls hF hP hD hS (lv_sub hl [2, 3, 0] rfl) hQ
          · have hF := it_f hF hc_8
            refine lv_aload_n hx hb d_M_giveReading_53 rfl (lv_at hl 1 rfl) ?_
            refine va_get (D := g) (ci := 3) (v := .ref (ad 3)) (C := kR3) (T := kT3) (N := 25) hx hb hts kw3 hown hK hP 0 rfl rfl 4 (by decide) (hts _ wm_675) (fun _ h9 => h9) rfl d_M_giveReading_54 ?_
            refine lv_iload_n hx hb d_M_giveReading_57 rfl (lv_at hl 0 rfl) ?_
            obtain ⟨hg_10, hF⟩ := gd_inv hF
            refine va_iald hx hb hK hP 3 0 rfl rfl hg_10 d_M_giveReading_58 ?_
            refine lv_iconst (v := 4) hx hb d_M_giveReading_59 (by decide) ?_
            refine lv_icmp_ne (tgt := 67) hx hb d_M_giveReading_60 (by decide) (fun hc_11 => ?_) (fun hc_11 => ?_)
            · have hF := it_f hF hc_11
              refine lv_aload_n hx hb d_M_giveReading_67 rfl (lv_at hl 1 rfl) ?_
              refine va_get (D := g) (ci := 3) (v := .ref (ad 3)) (C := kR3) (T := kT3) (N := 25) hx hb hts kw3 hown hK hP 0 rfl rfl 4 (by decide) (hts _ wm_675) (fun _ h9 => h9) rfl d_M_giveReading_68 ?_
              refine lv_iload_n hx hb d_M_giveReading_71 rfl (lv_at hl 0 rfl) ?_
              obtain ⟨hg_12, hF⟩ := gd_inv hF
              refine va_iald hx hb hK hP 3 0 rfl rfl hg_12 d_M_giveReading_72 ?_
              obtain ⟨hg_13, hF⟩ := gd_inv hF
              refine va_iast hx hb hK hP hD hS 3 0 rfl rfl hg_13 d_M_giveReading_73 (fun H locs hP hD hS => ?_)
              have hP : va_P g kcl (wM cI cJ cZ ad mth mst mse mla (upd mmo ((16 * v1) + v2).toNatClampNeg (mmo ((16 * v1) + v2).toNatClampNeg)) mrc mro mrt mrm mrl mrh mwk mwt mwm mwl mwh mwi mwc mwx mar mli mgr mgo mre mfr rest) H := hP
              have hD : va_D A (wM cI cJ cZ ad mth mst mse mla (upd mmo ((16 * v1) + v2).toNatClampNeg (mmo ((16 * v1) + v2).toNatClampNeg)) mrc mro mrt mrm mrl mrh mwk mwt mwm mwl mwh mwi mwc mwx mar mli mgr mgo mre mfr rest) := hD
              refine lv_iinc (v := v2 + 1) (lv' := [(2, .int (v2 + 1)), (3, .int ((16 * v1) + v2)), (0, .ref (ad 0)), (1, .int v1)]) hx hb d_M_giveReading_74 hl (k := 3) rfl rfl (by decide) rfl (fun ls hl => ?_)
              refine lv_goto (tgt := 2) hx hb d_M_giveReading_77 (by decide) ?_
              exact ih _ _ _ H locs ls hF hP hD hS (lv_sub hl [2, 3, 0] rfl) hQ
            · have hF := it_t hF hc_11
              refine lv_iconst (v := (-1)) hx hb d_M_giveReading_63 (by decide) ?_
              refine lv_goto (tgt := 73) hx hb d_M_giveReading_64 (by decide) ?_
              obtain ⟨hg_14, hF⟩ := gd_inv hF
              refine va_iast hx hb hK hP hD hS 3 0 rfl rfl hg_14 d_M_giveReading_73 (fun H locs hP hD hS => ?_)
              have hP : va_P g kcl (wM cI cJ cZ ad mth mst mse mla (upd mmo ((16 * v1) + v2).toNatClampNeg (-1)) mrc mro mrt mrm mrl mrh mwk mwt mwm mwl mwh mwi mwc mwx mar mli mgr mgo mre mfr rest) H := hP
              have hD : va_D A (wM cI cJ cZ ad mth mst mse mla (upd mmo ((16 * v1) + v2).toNatClampNeg (-1)) mrc mro mrt mrm mrl mrh mwk mwt mwm mwl mwh mwi mwc mwx mar mli mgr mgo mre mfr rest) := hD
              refine lv_iinc (v := v2 + 1) (lv' := [(2, .int (v2 + 1)), (3, .int ((16 * v1) + v2)), (0, .ref (ad 0)), (1, .int v1)]) hx hb d_M_giveReading_74 hl (k := 3) rfl rfl (by decide) rfl (fun ls hl => ?_)
              refine lv_goto (tgt := 2) hx hb d_M_giveReading_77 (by decide) ?_
              exact ih _ _ _ H locs ls hF hP hD hS (lv_sub hl [2, 3, 0] rfl) hQ
      · have hF := it_t hF hc_3
        refine lv_iconst (v := 1) hx hb d_M_giveReading_30 (by decide) ?_
        refine lv_goto (tgt := 73) hx hb d_M_giveReading_31 (by decide) ?_
        obtain ⟨hg_15, hF⟩ := gd_inv hF
        refine va_iast hx hb hK hP hD hS 3 0 rfl rfl hg_15 d_M_giveReading_73 (fun H locs hP hD hS => ?_)
        have hP : va_P g kcl (wM cI cJ cZ ad mth mst mse mla (upd mmo ((16 * v1) + v2).toNatClampNeg 1) mrc mro mrt mrm mrl mrh mwk mwt mwm mwl mwh mwi mwc mwx mar mli mgr mgo mre mfr rest) H := hP
        have hD : va_D A (wM cI cJ cZ ad mth mst mse mla (upd mmo ((16 * v1) + v2).toNatClampNeg 1) mrc mro mrt mrm mrl mrh mwk mwt mwm mwl mwh mwi mwc mwx mar mli mgr mgo mre mfr rest) := hD
        refine lv_iinc (v := v2 + 1) (lv' := [(2, .int (v2 + 1)), (3, .int ((16 * v1) + v2)), (0, .ref (ad 0)), (1, .int v1)]) hx hb d_M_giveReading_74 hl (k := 3) rfl rfl (by decide) rfl (fun ls hl => ?_)
        refine lv_goto (tgt := 2) hx hb d_M_giveReading_77 (by decide) ?_
        exact ih _ _ _ H locs ls hF hP hD hS (lv_sub hl [2, 3, 0] rfl) hQ
set_option maxHeartbeats 4000000 in
set_option maxRecDepth 100000 in
theorem t_M_giveReading_L87 {p : Program} {l : Launch} {e : Env} {s : State} {m : MethodId} {args : Array Value} {below : List Frame} {meth : Method} {c : Code} {A : Nat → Prop} {g : va_G} {cI cJ cZ : ClassId} {ad : Nat → Nat} {rest : va_W} (K : kX p s m args meth c "LockTableModel" prog_6_method_38_code 4 none A g (kty cI cJ cZ)) {Q : State → Prop} (mth : Int32) (mst : Nat → Int32) (mse : Nat → Int32) (mla : Int32) (mmo : Nat → Int32) (mwk : Nat → Int32) (mwt : Nat → Int32) (mwm : Nat → Int32) (mwl : Nat → Int64) (mwh : Nat → Int64) (mwi : Nat → Int32) (mwc : Nat → Int32) (mwx : Nat → Int32) (mar : Int32) (mli : Int32) (mgr : Int32) (mgo : Nat → Int32) (mre : Nat → Int32) (mfr : Int32) (v1 : Int32) : ∀ (n : Nat) (mrc : Int32) (mro : Nat → Int32) (mrt : Nat → Int32) (mrm : Nat → Int32) (mrl : Nat → Int64) (mrh : Nat → Int64) (v2 : Int32) (o_mrc : Int32) (o_mro : Nat → Int32) (o_mrt : Nat → Int32) (o_mrm : Nat → Int32) (o_mrl : Nat → Int64) (o_mrh : Nat → Int64) (H : Heap) (locs : List Loc) (ls : Array Slot), F_M_giveReading_L87 v1 n mrc mro mrt mrm mrl mrh v2 = some (o_mrc, o_mro, o_mrt, o_mrm, o_mrl, o_mrh) → va_P g kcl (wM cI cJ cZ ad mth mst mse mla mmo mrc mro mrt mrm mrl mrh mwk mwt mwm mwl mwh mwi mwc mwx mar mli mgr mgo mre mfr rest) H → va_D A (wM cI cJ cZ ad mth mst mse mla mmo mrc mro mrt mrm mrl mrh mwk mwt mwm mwl mwh mwi mwc mwx mar mli mgr mgo mre mfr rest) → va_S A s.heap H locs → lv_has ls 4 [(0, .ref (ad 0)), (1, .int v1), (2, .int v2)] → (∀ (H : Heap) (locs : List Loc) (ls : Array Slot), va_P g kcl (wM cI cJ cZ ad mth mst mse mla mmo o_mrc o_mro o_mrt o_mrm o_mrl o_mrh mwk mwt mwm mwl mwh mwi mwc mwx mar mli mgr mgo mre mfr rest) H → va_D A (wM cI cJ cZ ad mth mst mse mla mmo o_mrc o_mro o_mrt o_mrm o_mrl o_mrh mwk mwt mwm mwl mwh mwi mwc mwx mar mli mgr mgo mre mfr rest) → va_S A s.heap H locs → lv_has ls 4 [] → W p l e ({ frames := 1, cells := 0, slots := 0, locals := 21 }) s m args below meth c H locs 0 0 Q (F0 m 122 ls [])) → W p l e ({ frames := 1, cells := 0, slots := 0, locals := 21 }) s m args below meth c H locs 0 0 Q (F0 m 87 ls []) := by
  obtain ⟨hx, hb, hr, hml, hown, hts, hlocks, hK, hA, hE⟩ := id K
  intro n
  induction n with
  | zero =>
    intro mrc mro mrt mrm mrl mrh v2 o_mrc o_mro o_mrt o_mrm o_mrl o_mrh H locs ls hF
    rw [F_M_giveReading_L87] at hF
    cases hF
  | succ n ih =>
    intro mrc mro mrt mrm mrl mrh v2 o_mrc o_mro o_mrt o_mrm o_mrl o_mrh H locs ls hF hP hD hS hl hQ
    rw [F_M_giveReading_L87] at hF
    refine lv_iload_n hx hb d_M_giveReading_87 rfl (lv_at hl 2 rfl) ?_
    refine lv_if_lt (tgt := 122) hx hb d_M_giveReading_88 (by decide) (fun hc_17 => ?_) (fun hc_17 => ?_)
    · have hF := it_t hF hc_17
      cases hF
      exact hQ H locs ls hP hD hS (lv_sub hl [] rfl)
    · have hF := it_f hF hc_17
      refine lv_aload_n hx hb d_M_giveReading_91 rfl (lv_at hl 0 rfl) ?_
      refine va_get (D := g) (ci := 3) (v := .ref (ad 4)) (C := kR3) (T := kT3) (N := 25) hx hb hts kw3 hown hK hP 0 rfl rfl 6 (by decide) (hts _ wm_677) (fun _ h9 => h9) rfl d_M_giveReading_92 ?_
      refine lv_iload_n hx hb d_M_giveReading_95 rfl (lv_at hl 2 rfl) ?_
      obtain ⟨hg_18, hF⟩ := gd_inv hF
      refine va_iald hx hb hK hP 4 0 rfl rfl hg_18 d_M_giveReading_96 ?_
      refine lv_iload_n hx hb d_M_giveReading_97 rfl (lv_at hl 1 rfl) ?_
      refine lv_icmp_ne (tgt := 116) hx hb d_M_giveReading_98 (by decide) (fun hc_19 => ?_) (fun hc_19 => ?_)
      · have hF := it_f hF hc_19
        refine lv_iinc (v := v2 + (-1)) (lv' := [(2, .int (v2 + (-1))), (0, .ref (ad 0)), (1, .int v1)]) hx hb d_M_giveReading_116 hl (k := 2) rfl rfl (by decide) rfl (fun ls hl => ?_)
        refine lv_goto (tgt := 87) hx hb d_M_giveReading_119 (by decide) ?_
        exact ih _ _ _ _ _ _ _ _ _ _ _ _ _ H locs ls hF hP hD hS (lv_sub hl [1, 2, 0] rfl) hQ
      · have hF := it_t hF hc_19
        refine lv_aload_n hx hb d_M_giveReading_101 rfl (lv_at hl 0 rfl) ?_
        refine va_get (D := g) (ci := 3) (v := .ref (ad 6)) (C := kR3) (T := kT3) (N := 25) hx hb hts kw3 hown hK hP 0 rfl rfl 8 (by decide) (hts _ wm_679) (fun _ h9 => h9) rfl d_M_giveReading_102 ?_
        refine lv_iload_n hx hb d_M_giveReading_105 rfl (lv_at hl 2 rfl) ?_
        obtain ⟨hg_20, hF⟩ := gd_inv hF
        refine va_iald hx hb hK hP 6 0 rfl rfl hg_20 d_M_giveReading_106 ?_
        refine lv_iconst (v := 5) hx hb d_M_giveReading_107 (by decide) ?_
        refine lv_icmp_eq (tgt := 116) hx hb d_M_giveReading_108 (by decide) (fun hc_21 => ?_) (fun hc_21 => ?_)
        · have hF := it_t hF hc_21
          refine lv_iinc (v := v2 + (-1)) (lv' := [(2, .int (v2 + (-1))), (0, .ref (ad 0)), (1, .int v1)]) hx hb d_M_giveReading_116 hl (k := 2) rfl rfl (by decide) rfl (fun ls hl => ?_)
          refine lv_goto (tgt := 87) hx hb d_M_giveReading_119 (by decide) ?_
          exact ih _ _ _ _ _ _ _ _ _ _ _ _ _ H locs ls hF hP hD hS (lv_sub hl [1, 2, 0] rfl) hQ
        · have hF := it_f hF hc_21
          refine lv_aload_n hx hb d_M_giveReading_111 rfl (lv_at hl 0 rfl) ?_
          refine lv_iload_n hx hb d_M_giveReading_112 rfl (lv_at hl 2 rfl) ?_
          obtain ⟨mrc_22, mro_23, mrt_24, mrm_25, mrl_26, mrh_27, hG, hF⟩ := ob6_inv hF
          refine kcv K hP hD hS (c_M_dropRange l g cI cJ cZ ad mth mst mse mla mmo mrc mro mrt mrm mrl mrh mwk mwt mwm mwl mwh mwi mwc mwx mar mli mgr mgo mre mfr rest v2 mrc_22 mro_23 mrt_24 mrm_25 mrl_26 mrh_27 hG) wm_831 wm_828 wm_830 wm_32 wm_50 hd_M_dropRange rfl rfl ⟨Nat.le_of_ble_eq_true rfl, Nat.le_of_ble_eq_true rfl⟩ ⟨Nat.zero_le _, Nat.zero_le _⟩ 3 0 rfl rfl rfl hl.1 (rest := []) rfl (Nat.le_of_ble_eq_true rfl) d_M_giveReading_113 (fun H locs hP hD hS => ?_)
          refine lv_iinc (v := v2 + (-1)) (lv' := [(2, .int (v2 + (-1))), (0, .ref (ad 0)), (1, .int v1)]) hx hb d_M_giveReading_116 hl (k := 2) rfl rfl (by decide) rfl (fun ls hl => ?_)
          refine lv_goto (tgt := 87) hx hb d_M_giveReading_119 (by decide) ?_
          exact ih _ _ _ _ _ _ _ _ _ _ _ _ _ H locs ls hF hP hD hS (lv_sub hl [1, 2, 0] rfl) hQ
set_option maxHeartbeats 4000000 in
set_option maxRecDepth 100000 in
theorem t_M_giveReading {p : Program} {l : Launch} {e : Env} {s : State} {m : MethodId} {args : Array Value} {below : List Frame} {meth : Method} {c : Code} {A : Nat → Prop} {g : va_G} {cI cJ cZ : ClassId} {ad : Nat → Nat} {rest : va_W} (K : kX p s m args meth c "LockTableModel" prog_6_method_38_code 4 none A g (kty cI cJ cZ)) (mth : Int32) (mst : Nat → Int32) (mse : Nat → Int32) (mla : Int32) (mmo : Nat → Int32) (mrc : Int32) (mro : Nat → Int32) (mrt : Nat → Int32) (mrm : Nat → Int32) (mrl : Nat → Int64) (mrh : Nat → Int64) (mwk : Nat → Int32) (mwt : Nat → Int32) (mwm : Nat → Int32) (mwl : Nat → Int64) (mwh : Nat → Int64) (mwi : Nat → Int32) (mwc : Nat → Int32) (mwx : Nat → Int32) (mar : Int32) (mli : Int32) (mgr : Int32) (mgo : Nat → Int32) (mre : Nat → Int32) (mfr : Int32) (a1 : Int32) (o_mmo : Nat → Int32) (o_mrc : Int32) (o_mro : Nat → Int32) (o_mrt : Nat → Int32) (o_mrm : Nat → Int32) (o_mrl : Nat → Int64) (o_mrh : Nat → Int64) (hF : F_M_giveReading mmo mrc mro mrt mrm mrl mrh a1 = some (o_mmo, o_mrc, o_mro, o_mrt, o_mrm, o_mrl, o_mrh)) {H : Heap} {locs : List Loc} {ls : Array Slot} (hP : va_P g kcl (wM cI cJ cZ ad mth mst mse mla mmo mrc mro mrt mrm mrl mrh mwk mwt mwm mwl mwh mwi mwc mwx mar mli mgr mgo mre mfr rest) H) (hD : va_D A (wM cI cJ cZ ad mth mst mse mla mmo mrc mro mrt mrm mrl mrh mwk mwt mwm mwl mwh mwi mwc mwx mar mli mgr mgo mre mfr rest)) (hS : va_S A s.heap H locs) (hl : lv_has ls 4 [(0, .ref (ad 0)), (1, .int a1)]) : W p l e ({ frames := 1, cells := 0, slots := 0, locals := 21 }) s m args below meth c H locs 0 0 (MQ below (kQv g (kty cI cJ cZ) (wM cI cJ cZ ad mth mst mse mla o_mmo o_mrc o_mro o_mrt o_mrm o_mrl o_mrh mwk mwt mwm mwl mwh mwi mwc mwx mar mli mgr mgo mre mfr rest) A) args s 0 0 A) (F0 m 0 ls []) := by
  obtain ⟨hx, hb, hr, hml, hown, hts, hlocks, hK, hA, hE⟩ := id K
  unfold F_M_giveReading at hF
  refine lv_iconst (v := 0) hx hb d_M_giveReading_0 (by decide) ?_
  refine lv_istore_n (lv' := [(2, .int 0), (0, .ref (ad 0)), (1, .int a1)]) hx hb d_M_giveReading_1 rfl hl (by decide) rfl (fun ls hl => ?_)
  obtain ⟨mmo_16, hG, hF⟩ := ob1_inv hF
  refine t_M_giveReading_L2 K mth mst mse mla mrc mro mrt mrm mrl mrh mwk mwt mwm mwl mwh mwi mwc mwx mar mli mgr mgo mre mfr a1 fu _ _ _ H locs ls hG hP hD hS (lv_sub hl [1, 2, 0] rfl) (fun H locs ls hP hD hS hl => ?_)
  refine lv_aload_n hx hb d_M_giveReading_80 rfl (lv_at hl 0 rfl) ?_
  refine va_get (D := g) (ci := 3) (v := .int mrc) (C := kR3) (T := kT3) (N := 25) hx hb hts kw3 hown hK hP 0 rfl rfl 5 (by decide) (hts _ wm_676) (fun _ h9 => h9) rfl d_M_giveReading_81 ?_
  refine lv_iconst (v := 1) hx hb d_M_giveReading_84 (by decide) ?_
  refine lv_isub hx hb d_M_giveReading_85 ?_
  refine lv_istore_n (lv' := [(2, .int (mrc - 1)), (0, .ref (ad 0)), (1, .int a1)]) hx hb d_M_giveReading_86 rfl hl (by decide) rfl (fun ls hl => ?_)
  obtain ⟨mrc_28, mro_29, mrt_30, mrm_31, mrl_32, mrh_33, hG, hF⟩ := ob6_inv hF
  refine t_M_giveReading_L87 K mth mst mse mla mmo_16 mwk mwt mwm mwl mwh mwi mwc mwx mar mli mgr mgo mre mfr a1 fu _ _ _ _ _ _ _ _ _ _ _ _ _ H locs ls hG hP hD hS (lv_sub hl [1, 2, 0] rfl) (fun H locs ls hP hD hS hl => ?_)
  cases hF
  exact krv K hP hD hS d_M_giveReading_122
theorem c_M_giveReading (l : Launch) (g : va_G) (cI cJ cZ : ClassId) (ad : Nat → Nat) (mth : Int32) (mst : Nat → Int32) (mse : Nat → Int32) (mla : Int32) (mmo : Nat → Int32) (mrc : Int32) (mro : Nat → Int32) (mrt : Nat → Int32) (mrm : Nat → Int32) (mrl : Nat → Int64) (mrh : Nat → Int64) (mwk : Nat → Int32) (mwt : Nat → Int32) (mwm : Nat → Int32) (mwl : Nat → Int64) (mwh : Nat → Int64) (mwi : Nat → Int32) (mwc : Nat → Int32) (mwx : Nat → Int32) (mar : Int32) (mli : Int32) (mgr : Int32) (mgo : Nat → Int32) (mre : Nat → Int32) (mfr : Int32) (rest : va_W) (a1 : Int32) (o_mmo : Nat → Int32) (o_mrc : Int32) (o_mro : Nat → Int32) (o_mrt : Nat → Int32) (o_mrm : Nat → Int32) (o_mrl : Nat → Int64) (o_mrh : Nat → Int64) (hF : F_M_giveReading mmo mrc mro mrt mrm mrl mrh a1 = some (o_mmo, o_mrc, o_mro, o_mrt, o_mrm, o_mrl, o_mrh)) : Cv l y_M_giveReading prog_6_method_38_code 4 ({ frames := 1, cells := 0, slots := 0, locals := 21 }) [.ref (ad 0), .int a1] g (kty cI cJ cZ) (wM cI cJ cZ ad mth mst mse mla mmo mrc mro mrt mrm mrl mrh mwk mwt mwm mwl mwh mwi mwc mwx mar mli mgr mgo mre mfr rest) (wM cI cJ cZ ad mth mst mse mla o_mmo o_mrc o_mro o_mrt o_mrm o_mrl o_mrh mwk mwt mwm mwl mwh mwi mwc mwx mar mli mgr mgo mre mfr rest) :=
  Cv.of (by decide) (Nat.le_of_ble_eq_true rfl) (fun p e s m below meth c A ls K hP hD hS hl => t_M_giveReading K mth mst mse mla mmo mrc mro mrt mrm mrl mrh mwk mwt mwm mwl mwh mwi mwc mwx mar mli mgr mgo mre mfr a1 o_mmo o_mrc o_mro o_mrt o_mrm o_mrl o_mrh hF hP hD hS hl)
def F_M_locksOf_L4 (mmo : Nat → Int32) (v1 : Int32) : Nat → Int32 → Int32 → Option (Int32)
  | 0, _, _ => none
  | n + 1, v2, v3 => if 16 ≤ v3 then some v2 else gd (((16 * v1) + v3) < 0 ∨ 128 ≤ ((16 * v1) + v3).toNatClampNeg) (if (mmo ((16 * v1) + v3).toNatClampNeg) < 0 then F_M_locksOf_L4 mmo v1 n v2 (v3 + 1) else F_M_locksOf_L4 mmo v1 n (v2 + 1) (v3 + 1))
def F_M_locksOf_L40 (mrc : Int32) (mro : Nat → Int32) (v1 : Int32) : Nat → Int32 → Int32 → Option (Int32)
  | 0, _, _ => none
  | n + 1, v2, v3 => if mrc ≤ v3 then some v2 else gd (v3 < 0 ∨ 256 ≤ v3.toNatClampNeg) (if (mro v3.toNatClampNeg) = v1 then F_M_locksOf_L40 mrc mro v1 n (v2 + 1) (v3 + 1) else F_M_locksOf_L40 mrc mro v1 n v2 (v3 + 1))
def F_M_locksOf (mmo : Nat → Int32) (mrc : Int32) (mro : Nat → Int32) (a1 : Int32) : Option (Int32) :=
  ob1 (F_M_locksOf_L4 mmo a1 fu 0 0) (fun v2_4 => ob1 (F_M_locksOf_L40 mrc mro a1 fu v2_4 0) (fun v2_8 => some v2_8))
set_option maxHeartbeats 4000000 in
set_option maxRecDepth 100000 in
theorem t_M_locksOf_L4 {p : Program} {l : Launch} {e : Env} {s : State} {m : MethodId} {args : Array Value} {below : List Frame} {meth : Method} {c : Code} {A : Nat → Prop} {g : va_G} {cI cJ cZ : ClassId} {ad : Nat → Nat} {rest : va_W} (K : kX p s m args meth c "LockTableModel" prog_6_method_39_code 4 (some .int) A g (kty cI cJ cZ)) {Q : State → Prop} (mth : Int32) (mst : Nat → Int32) (mse : Nat → Int32) (mla : Int32) (mmo : Nat → Int32) (mrc : Int32) (mro : Nat → Int32) (mrt : Nat → Int32) (mrm : Nat → Int32) (mrl : Nat → Int64) (mrh : Nat → Int64) (mwk : Nat → Int32) (mwt : Nat → Int32) (mwm : Nat → Int32) (mwl : Nat → Int64) (mwh : Nat → Int64) (mwi : Nat → Int32) (mwc : Nat → Int32) (mwx : Nat → Int32) (mar : Int32) (mli : Int32) (mgr : Int32) (mgo : Nat → Int32) (mre : Nat → Int32) (mfr : Int32) (v1 : Int32) : ∀ (n : Nat) (v2 : Int32) (v3 : Int32) (o_v2 : Int32) (H : Heap) (locs : List Loc) (ls : Array Slot), F_M_locksOf_L4 mmo v1 n v2 v3 = some o_v2 → va_P g kcl (wM cI cJ cZ ad mth mst mse mla mmo mrc mro mrt mrm mrl mrh mwk mwt mwm mwl mwh mwi mwc mwx mar mli mgr mgo mre mfr rest) H → va_D A (wM cI cJ cZ ad mth mst mse mla mmo mrc mro mrt mrm mrl mrh mwk mwt mwm mwl mwh mwi mwc mwx mar mli mgr mgo mre mfr rest) → va_S A s.heap H locs → lv_has ls 4 [(0, .ref (ad 0)), (1, .int v1), (2, .int v2), (3, .int v3)] → (∀ (H : Heap) (locs : List Loc) (ls : Array Slot), va_P g kcl (wM cI cJ cZ ad mth mst mse mla mmo mrc mro mrt mrm mrl mrh mwk mwt mwm mwl mwh mwi mwc mwx mar mli mgr mgo mre mfr rest) H → va_D A (wM cI cJ cZ ad mth mst mse mla mmo mrc mro mrt mrm mrl mrh mwk mwt mwm mwl mwh mwi mwc mwx mar mli mgr mgo mre mfr rest) → va_S A s.heap H locs → lv_has ls 4 [(0, .ref (ad 0)), (1, .int v1), (2, .int o_v2)] → W p l e ({ frames := 0, cells := 0, slots := 0, locals := 0 }) s m args below meth c H locs 0 0 Q (F0 m 38 ls [])) → W p l e ({ frames := 0, cells := 0, slots := 0, locals := 0 }) s m args below meth c H locs 0 0 Q (F0 m 4 ls []) := by
  obtain ⟨hx, hb, hr, hml, hown, hts, hlocks, hK, hA, hE⟩ := id K
  intro n
  induction n with
  | zero =>
    intro v2 v3 o_v2 H locs ls hF
    rw [F_M_locksOf_L4] at hF
    cases hF
  | succ n ih =>
    intro v2 v3 o_v2 H locs ls hF hP hD hS hl hQ
    rw [F_M_locksOf_L4] at hF
    refine lv_iload_n hx hb d_M_locksOf_4 rfl (lv_at hl 3 rfl) ?_
    refine lv_bipush (v := 16) hx hb d_M_locksOf_5 (by decide) ?_
    refine lv_icmp_ge (tgt := 38) hx hb d_M_locksOf_7 (by decide) (fun hc_1 => ?_) (fun hc_1 => ?_)
    · have hF := it_t hF hc_1
      cases hF
      exact hQ H locs ls hP hD hS (lv_sub hl [0, 1, 2] rfl)
    · have hF := it_f hF hc_1
      refine lv_aload_n hx hb d_M_locksOf_10 rfl (lv_at hl 0 rfl) ?_
      refine va_get (D := g) (ci := 3) (v := .ref (ad 3)) (C := kR3) (T := kT3) (N := 25) hx hb hts kw3 hown hK hP 0 rfl rfl 4 (by decide) (hts _ wm_675) (fun _ h9 => h9) rfl d_M_locksOf_11 ?_
      refine lv_bipush (v := 16) hx hb d_M_locksOf_14 (by decide) ?_
      refine lv_iload_n hx hb d_M_locksOf_16 rfl (lv_at hl 1 rfl) ?_
      refine lv_imul hx hb d_M_locksOf_17 ?_
      refine lv_iload_n hx hb d_M_locksOf_18 rfl (lv_at hl 3 rfl) ?_
      refine lv_iadd hx hb d_M_locksOf_19 ?_
      obtain ⟨hg_2, hF⟩ := gd_inv hF
      refine va_iald hx hb hK hP 3 0 rfl rfl hg_2 d_M_locksOf_20 ?_
      refine lv_if_lt (tgt := 30) hx hb d_M_locksOf_21 (by decide) (fun hc_3 => ?_) (fun hc_3 => ?_)
      · have hF := it_t hF hc_3
        refine lv_iload_n hx hb d_M_locksOf_30 rfl (lv_at hl 2 rfl) ?_
        refine lv_istore_n (lv' := [(2, .int v2), (0, .ref (ad 0)), (1, .int v1), (3, .int v3)]) hx hb d_M_locksOf_31 rfl hl (by decide) rfl (fun ls hl => ?_)
        refine lv_iinc (v := v3 + 1) (lv' := [(3, .int (v3 + 1)), (2, .int v2), (0, .ref (ad 0)), (1, .int v1)]) hx hb d_M_locksOf_32 hl (k := 3) rfl rfl (by decide) rfl (fun ls hl => ?_)
        refine lv_goto (tgt := 4) hx hb d_M_locksOf_35 (by decide) ?_
        exact ih _ _ _ H locs ls hF hP hD hS (lv_sub hl [2, 3, 1, 0] rfl) hQ
      · have hF := it_f hF hc_3
        refine lv_iload_n hx hb d_M_locksOf_24 rfl (lv_at hl 2 rfl) ?_
        refine lv_iconst (v := 1) hx hb d_M_locksOf_25 (by decide) ?_
        refine lv_iadd hx hb d_M_locksOf_26 ?_
        refine lv_goto (tgt := 31) hx hb d_M_locksOf_27 (by decide) ?_
        refine lv_istore_n (lv' := [(2, .int (v2 + 1)), (0, .ref (ad 0)), (1, .int v1), (3, .int v3)]) hx hb d_M_locksOf_31 rfl hl (by decide) rfl (fun ls hl => ?_)
        refine lv_iinc (v := v3 + 1) (lv' := [(3, .int (v3 + 1)), (2, .int (v2 + 1)), (0, .ref (ad 0)), (1, .int v1)]) hx hb d_M_locksOf_32 hl (k := 3) rfl rfl (by decide) rfl (fun ls hl => ?_)
        refine lv_goto (tgt := 4) hx hb d_M_locksOf_35 (by decide) ?_
        exact ih _ _ _ H locs ls hF hP hD hS (lv_sub hl [2, 3, 1, 0] rfl) hQ
set_option maxHeartbeats 4000000 in
set_option maxRecDepth 100000 in
theorem t_M_locksOf_L40 {p : Program} {l : Launch} {e : Env} {s : State} {m : MethodId} {args : Array Value} {below : List Frame} {meth : Method} {c : Code} {A : Nat → Prop} {g : va_G} {cI cJ cZ : ClassId} {ad : Nat → Nat} {rest : va_W} (K : kX p s m args meth c "LockTableModel" prog_6_method_39_code 4 (some .int) A g (kty cI cJ cZ)) {Q : State → Prop} (mth : Int32) (mst : Nat → Int32) (mse : Nat → Int32) (mla : Int32) (mmo : Nat → Int32) (mrc : Int32) (mro : Nat → Int32) (mrt : Nat → Int32) (mrm : Nat → Int32) (mrl : Nat → Int64) (mrh : Nat → Int64) (mwk : Nat → Int32) (mwt : Nat → Int32) (mwm : Nat → Int32) (mwl : Nat → Int64) (mwh : Nat → Int64) (mwi : Nat → Int32) (mwc : Nat → Int32) (mwx : Nat → Int32) (mar : Int32) (mli : Int32) (mgr : Int32) (mgo : Nat → Int32) (mre : Nat → Int32) (mfr : Int32) (v1 : Int32) : ∀ (n : Nat) (v2 : Int32) (v3 : Int32) (o_v2 : Int32) (H : Heap) (locs : List Loc) (ls : Array Slot), F_M_locksOf_L40 mrc mro v1 n v2 v3 = some o_v2 → va_P g kcl (wM cI cJ cZ ad mth mst mse mla mmo mrc mro mrt mrm mrl mrh mwk mwt mwm mwl mwh mwi mwc mwx mar mli mgr mgo mre mfr rest) H → va_D A (wM cI cJ cZ ad mth mst mse mla mmo mrc mro mrt mrm mrl mrh mwk mwt mwm mwl mwh mwi mwc mwx mar mli mgr mgo mre mfr rest) → va_S A s.heap H locs → lv_has ls 4 [(0, .ref (ad 0)), (1, .int v1), (2, .int v2), (3, .int v3)] → (∀ (H : Heap) (locs : List Loc) (ls : Array Slot), va_P g kcl (wM cI cJ cZ ad mth mst mse mla mmo mrc mro mrt mrm mrl mrh mwk mwt mwm mwl mwh mwi mwc mwx mar mli mgr mgo mre mfr rest) H → va_D A (wM cI cJ cZ ad mth mst mse mla mmo mrc mro mrt mrm mrl mrh mwk mwt mwm mwl mwh mwi mwc mwx mar mli mgr mgo mre mfr rest) → va_S A s.heap H locs → lv_has ls 4 [(2, .int o_v2)] → W p l e ({ frames := 0, cells := 0, slots := 0, locals := 0 }) s m args below meth c H locs 0 0 Q (F0 m 72 ls [])) → W p l e ({ frames := 0, cells := 0, slots := 0, locals := 0 }) s m args below meth c H locs 0 0 Q (F0 m 40 ls []) := by
  obtain ⟨hx, hb, hr, hml, hown, hts, hlocks, hK, hA, hE⟩ := id K
  intro n
  induction n with
  | zero =>
    intro v2 v3 o_v2 H locs ls hF
    rw [F_M_locksOf_L40] at hF
    cases hF
  | succ n ih =>
    intro v2 v3 o_v2 H locs ls hF hP hD hS hl hQ
    rw [F_M_locksOf_L40] at hF
    refine lv_iload_n hx hb d_M_locksOf_40 rfl (lv_at hl 3 rfl) ?_
    refine lv_aload_n hx hb d_M_locksOf_41 rfl (lv_at hl 0 rfl) ?_
    refine va_get (D := g) (ci := 3) (v := .int mrc) (C := kR3) (T := kT3) (N := 25) hx hb hts kw3 hown hK hP 0 rfl rfl 5 (by decide) (hts _ wm_676) (fun _ h9 => h9) rfl d_M_locksOf_42 ?_
    refine lv_icmp_ge (tgt := 72) hx hb d_M_locksOf_45 (by decide) (fun hc_5 => ?_) (fun hc_5 => ?_)
    · have hF := it_t hF hc_5
      cases hF
      exact hQ H locs ls hP hD hS (lv_sub hl [2] rfl)
    · have hF := it_f hF hc_5
      refine lv_aload_n hx hb d_M_locksOf_48 rfl (lv_at hl 0 rfl) ?_
      refine va_get (D := g) (ci := 3) (v := .ref (ad 4)) (C := kR3) (T := kT3) (N := 25) hx hb hts kw3 hown hK hP 0 rfl rfl 6 (by decide) (hts _ wm_677) (fun _ h9 => h9) rfl d_M_locksOf_49 ?_
      refine lv_iload_n hx hb d_M_locksOf_52 rfl (lv_at hl 3 rfl) ?_
      obtain ⟨hg_6, hF⟩ := gd_inv hF
      refine va_iald hx hb hK hP 4 0 rfl rfl hg_6 d_M_locksOf_53 ?_
      refine lv_iload_n hx hb d_M_locksOf_54 rfl (lv_at hl 1 rfl) ?_
      refine lv_icmp_ne (tgt := 64) hx hb d_M_locksOf_55 (by decide) (fun hc_7 => ?_) (fun hc_7 => ?_)
      · have hF := it_f hF hc_7
        refine lv_iload_n hx hb d_M_locksOf_64 rfl (lv_at hl 2 rfl) ?_
        refine lv_istore_n (lv' := [(2, .int v2), (0, .ref (ad 0)), (1, .int v1), (3, .int v3)]) hx hb d_M_locksOf_65 rfl hl (by decide) rfl (fun ls hl => ?_)
        refine lv_iinc (v := v3 + 1) (lv' := [(3, .int (v3 + 1)), (2, .int v2), (0, .ref (ad 0)), (1, .int v1)]) hx hb d_M_locksOf_66 hl (k := 3) rfl rfl (by decide) rfl (fun ls hl => ?_)
        refine lv_goto (tgt := 40) hx hb d_M_locksOf_69 (by decide) ?_
        exact ih _ _ _ H locs ls hF hP hD hS (lv_sub hl [2, 3, 1, 0] rfl) hQ
      · have hF := it_t hF hc_7
        refine lv_iload_n hx hb d_M_locksOf_58 rfl (lv_at hl 2 rfl) ?_
        refine lv_iconst (v := 1) hx hb d_M_locksOf_59 (by decide) ?_
        refine lv_iadd hx hb d_M_locksOf_60 ?_
        refine lv_goto (tgt := 65) hx hb d_M_locksOf_61 (by decide) ?_
        refine lv_istore_n (lv' := [(2, .int (v2 + 1)), (0, .ref (ad 0)), (1, .int v1), (3, .int v3)]) hx hb d_M_locksOf_65 rfl hl (by decide) rfl (fun ls hl => ?_)
        refine lv_iinc (v := v3 + 1) (lv' := [(3, .int (v3 + 1)), (2, .int (v2 + 1)), (0, .ref (ad 0)), (1, .int v1)]) hx hb d_M_locksOf_66 hl (k := 3) rfl rfl (by decide) rfl (fun ls hl => ?_)
        refine lv_goto (tgt := 40) hx hb d_M_locksOf_69 (by decide) ?_
        exact ih _ _ _ H locs ls hF hP hD hS (lv_sub hl [2, 3, 1, 0] rfl) hQ
set_option maxHeartbeats 4000000 in
set_option maxRecDepth 100000 in
theorem t_M_locksOf {p : Program} {l : Launch} {e : Env} {s : State} {m : MethodId} {args : Array Value} {below : List Frame} {meth : Method} {c : Code} {A : Nat → Prop} {g : va_G} {cI cJ cZ : ClassId} {ad : Nat → Nat} {rest : va_W} (K : kX p s m args meth c "LockTableModel" prog_6_method_39_code 4 (some .int) A g (kty cI cJ cZ)) (mth : Int32) (mst : Nat → Int32) (mse : Nat → Int32) (mla : Int32) (mmo : Nat → Int32) (mrc : Int32) (mro : Nat → Int32) (mrt : Nat → Int32) (mrm : Nat → Int32) (mrl : Nat → Int64) (mrh : Nat → Int64) (mwk : Nat → Int32) (mwt : Nat → Int32) (mwm : Nat → Int32) (mwl : Nat → Int64) (mwh : Nat → Int64) (mwi : Nat → Int32) (mwc : Nat → Int32) (mwx : Nat → Int32) (mar : Int32) (mli : Int32) (mgr : Int32) (mgo : Nat → Int32) (mre : Nat → Int32) (mfr : Int32) (a1 : Int32) (r : Int32) (hF : F_M_locksOf mmo mrc mro a1 = some r) {H : Heap} {locs : List Loc} {ls : Array Slot} (hP : va_P g kcl (wM cI cJ cZ ad mth mst mse mla mmo mrc mro mrt mrm mrl mrh mwk mwt mwm mwl mwh mwi mwc mwx mar mli mgr mgo mre mfr rest) H) (hD : va_D A (wM cI cJ cZ ad mth mst mse mla mmo mrc mro mrt mrm mrl mrh mwk mwt mwm mwl mwh mwi mwc mwx mar mli mgr mgo mre mfr rest)) (hS : va_S A s.heap H locs) (hl : lv_has ls 4 [(0, .ref (ad 0)), (1, .int a1)]) : W p l e ({ frames := 0, cells := 0, slots := 0, locals := 0 }) s m args below meth c H locs 0 0 (MQ below (kQi g (kty cI cJ cZ) (wM cI cJ cZ ad mth mst mse mla mmo mrc mro mrt mrm mrl mrh mwk mwt mwm mwl mwh mwi mwc mwx mar mli mgr mgo mre mfr rest) A r) args s 0 0 A) (F0 m 0 ls []) := by
  obtain ⟨hx, hb, hr, hml, hown, hts, hlocks, hK, hA, hE⟩ := id K
  unfold F_M_locksOf at hF
  refine lv_iconst (v := 0) hx hb d_M_locksOf_0 (by decide) ?_
  refine lv_istore_n (lv' := [(2, .int 0), (0, .ref (ad 0)), (1, .int a1)]) hx hb d_M_locksOf_1 rfl hl (by decide) rfl (fun ls hl => ?_)
  refine lv_iconst (v := 0) hx hb d_M_locksOf_2 (by decide) ?_
  refine lv_istore_n (lv' := [(3, .int 0), (2, .int 0), (0, .ref (ad 0)), (1, .int a1)]) hx hb d_M_locksOf_3 rfl hl (by decide) rfl (fun ls hl => ?_)
  obtain ⟨v2_4, hG, hF⟩ := ob1_inv hF
  refine t_M_locksOf_L4 K mth mst mse mla mmo mrc mro mrt mrm mrl mrh mwk mwt mwm mwl mwh mwi mwc mwx mar mli mgr mgo mre mfr a1 fu _ _ _ H locs ls hG hP hD hS (lv_sub hl [2, 3, 1, 0] rfl) (fun H locs ls hP hD hS hl => ?_)
  refine lv_iconst (v := 0) hx hb d_M_locksOf_38 (by decide) ?_
  refine lv_istore_n (lv' := [(3, .int 0), (0, .ref (ad 0)), (1, .int a1), (2, .int v2_4)]) hx hb d_M_locksOf_39 rfl hl (by decide) rfl (fun ls hl => ?_)
  obtain ⟨v2_8, hG, hF⟩ := ob1_inv hF
  refine t_M_locksOf_L40 K mth mst mse mla mmo mrc mro mrt mrm mrl mrh mwk mwt mwm mwl mwh mwi mwc mwx mar mli mgr mgo mre mfr a1 fu _ _ _ H locs ls hG hP hD hS (lv_sub hl [1, 2, 3, 0] rfl) (fun H locs ls hP hD hS hl => ?_)
  refine lv_iload_n hx hb d_M_locksOf_72 rfl (lv_at hl 0 rfl) ?_
  cases hF
  exact kri K hP hD hS d_M_locksOf_73 rfl
theorem c_M_locksOf (l : Launch) (g : va_G) (cI cJ cZ : ClassId) (ad : Nat → Nat) (mth : Int32) (mst : Nat → Int32) (mse : Nat → Int32) (mla : Int32) (mmo : Nat → Int32) (mrc : Int32) (mro : Nat → Int32) (mrt : Nat → Int32) (mrm : Nat → Int32) (mrl : Nat → Int64) (mrh : Nat → Int64) (mwk : Nat → Int32) (mwt : Nat → Int32) (mwm : Nat → Int32) (mwl : Nat → Int64) (mwh : Nat → Int64) (mwi : Nat → Int32) (mwc : Nat → Int32) (mwx : Nat → Int32) (mar : Int32) (mli : Int32) (mgr : Int32) (mgo : Nat → Int32) (mre : Nat → Int32) (mfr : Int32) (rest : va_W) (a1 : Int32) (r : Int32) (hF : F_M_locksOf mmo mrc mro a1 = some r) : Ci l y_M_locksOf prog_6_method_39_code 4 (some .int) ({ frames := 0, cells := 0, slots := 0, locals := 0 }) [.ref (ad 0), .int a1] g (kty cI cJ cZ) (wM cI cJ cZ ad mth mst mse mla mmo mrc mro mrt mrm mrl mrh mwk mwt mwm mwl mwh mwi mwc mwx mar mli mgr mgo mre mfr rest) (wM cI cJ cZ ad mth mst mse mla mmo mrc mro mrt mrm mrl mrh mwk mwt mwm mwl mwh mwi mwc mwx mar mli mgr mgo mre mfr rest) r :=
  Ci.of (by decide) (Nat.le_of_ble_eq_true rfl) (fun p e s m below meth c A ls K hP hD hS hl => t_M_locksOf K mth mst mse mla mmo mrc mro mrt mrm mrl mrh mwk mwt mwm mwl mwh mwi mwc mwx mar mli mgr mgo mre mfr a1 r hF hP hD hS hl)
def F_M_prepare (mth : Int32) (mst : Nat → Int32) (mmo : Nat → Int32) (mrc : Int32) (mro : Nat → Int32) (mrt : Nat → Int32) (mrm : Nat → Int32) (mrl : Nat → Int64) (mrh : Nat → Int64) (mwk : Nat → Int32) (mwt : Nat → Int32) (mwm : Nat → Int32) (mwl : Nat → Int64) (mwh : Nat → Int64) (mwi : Nat → Int32) (mwc : Nat → Int32) (mgr : Int32) (mgo : Nat → Int32) (mfr : Int32) (a1 : Int32) : Option (Int32 × Int32 × (Nat → Int32) × (Nat → Int32) × Int32 × (Nat → Int32) × (Nat → Int32) × (Nat → Int32) × (Nat → Int64) × (Nat → Int64) × Int32 × (Nat → Int32) × Int32) :=
  ob1 (F_M_isOwner a1) (fun r_1 => jn1 (fun (s_2 : Int32) => ob1 (F_M_isIn mst a1 1) (fun r_3 => jn2 (fun (s_4 : Int32) (s_5 : Int32) => ob2 (F_M_refused mth s_4 s_5 0) (fun r_6 mth_7 => if r_6 = 0 then ob7 (F_M_giveReading mmo mrc mro mrt mrm mrl mrh a1) (fun mmo_9 mrc_10 mro_11 mrt_12 mrm_13 mrl_14 mrh_15 => gd (a1 < 0 ∨ 8 ≤ a1.toNatClampNeg) (ob11 (F_M_look (upd mst a1.toNatClampNeg 4) mmo_9 mrc_10 mro_11 mrt_12 mrm_13 mrl_14 mrh_15 mwk mwt mwm mwl mwh mwi mwc 0 mgo mfr (-1)) (fun mst_17 mmo_18 mrc_19 mro_20 mrt_21 mrm_22 mrl_23 mrh_24 mgr_25 mgo_26 mfr_27 => ob1 (F_M_locksOf mmo_18 mrc_19 mro_20 a1) (fun r_28 => some (r_28, mth_7, mst_17, mmo_18, mrc_19, mro_20, mrt_21, mrm_22, mrl_23, mrh_24, mgr_25, mgo_26, mfr_27))))) else some (0, mth_7, mst, mmo, mrc, mro, mrt, mrm, mrl, mrh, mgr, mgo, mfr))) (fun J27 => if r_3 = 0 then J27 s_2 1 else J27 s_2 0))) (fun J13 => if r_1 = 0 then J13 1 else J13 0))
set_option maxHeartbeats 4000000 in
set_option maxRecDepth 100000 in
theorem t_M_prepare {p : Program} {l : Launch} {e : Env} {s : State} {m : MethodId} {args : Array Value} {below : List Frame} {meth : Method} {c : Code} {A : Nat → Prop} {g : va_G} {cI cJ cZ : ClassId} {ad : Nat → Nat} {rest : va_W} (K : kX p s m args meth c "LockTableModel" prog_6_method_40_code 2 (some .int) A g (kty cI cJ cZ)) (mth : Int32) (mst : Nat → Int32) (mse : Nat → Int32) (mla : Int32) (mmo : Nat → Int32) (mrc : Int32) (mro : Nat → Int32) (mrt : Nat → Int32) (mrm : Nat → Int32) (mrl : Nat → Int64) (mrh : Nat → Int64) (mwk : Nat → Int32) (mwt : Nat → Int32) (mwm : Nat → Int32) (mwl : Nat → Int64) (mwh : Nat → Int64) (mwi : Nat → Int32) (mwc : Nat → Int32) (mwx : Nat → Int32) (mar : Int32) (mli : Int32) (mgr : Int32) (mgo : Nat → Int32) (mre : Nat → Int32) (mfr : Int32) (a1 : Int32) (r : Int32) (o_mth : Int32) (o_mst : Nat → Int32) (o_mmo : Nat → Int32) (o_mrc : Int32) (o_mro : Nat → Int32) (o_mrt : Nat → Int32) (o_mrm : Nat → Int32) (o_mrl : Nat → Int64) (o_mrh : Nat → Int64) (o_mgr : Int32) (o_mgo : Nat → Int32) (o_mfr : Int32) (hF : F_M_prepare mth mst mmo mrc mro mrt mrm mrl mrh mwk mwt mwm mwl mwh mwi mwc mgr mgo mfr a1 = some (r, o_mth, o_mst, o_mmo, o_mrc, o_mro, o_mrt, o_mrm, o_mrl, o_mrh, o_mgr, o_mgo, o_mfr)) {H : Heap} {locs : List Loc} {ls : Array Slot} (hP : va_P g kcl (wM cI cJ cZ ad mth mst mse mla mmo mrc mro mrt mrm mrl mrh mwk mwt mwm mwl mwh mwi mwc mwx mar mli mgr mgo mre mfr rest) H) (hD : va_D A (wM cI cJ cZ ad mth mst mse mla mmo mrc mro mrt mrm mrl mrh mwk mwt mwm mwl mwh mwi mwc mwx mar mli mgr mgo mre mfr rest)) (hS : va_S A s.heap H locs) (hl : lv_has ls 2 [(0, .ref (ad 0)), (1, .int a1)]) : W p l e ({ frames := 6, cells := 0, slots := 0, locals := 140 }) s m args below meth c H locs 0 0 (MQ below (kQi g (kty cI cJ cZ) (wM cI cJ cZ ad o_mth o_mst mse mla o_mmo o_mrc o_mro o_mrt o_mrm o_mrl o_mrh mwk mwt mwm mwl mwh mwi mwc mwx mar mli o_mgr o_mgo mre o_mfr rest) A r) args s 0 0 A) (F0 m 0 ls []) := by
  obtain ⟨hx, hb, hr, hml, hown, hts, hlocks, hK, hA, hE⟩ := id K
  unfold F_M_prepare at hF
  refine lv_aload_n hx hb d_M_prepare_0 rfl (lv_at hl 0 rfl) ?_
  refine lv_iload_n hx hb d_M_prepare_1 rfl (lv_at hl 1 rfl) ?_
  obtain ⟨r_1, hG, hF⟩ := ob1_inv hF
  refine ksi K hP hD hS (c_M_isOwner l g (kty cI cJ cZ) (wM cI cJ cZ ad mth mst mse mla mmo mrc mro mrt mrm mrl mrh mwk mwt mwm mwl mwh mwi mwc mwx mar mli mgr mgo mre mfr rest) a1 r_1 hG) wm_757 wm_755 wm_756 wm_50 hd_M_isOwner rfl rfl ⟨Nat.le_of_ble_eq_true rfl, Nat.le_of_ble_eq_true rfl⟩ ⟨Nat.zero_le _, Nat.zero_le _⟩ hl.1 (rest := [.ref (ad 0)]) rfl (Nat.le_of_ble_eq_true rfl) d_M_prepare_2 (fun H locs hP hD hS => ?_)
  obtain ⟨J13, eJ13, hF⟩ := jn1_inv hF
  have hJ13 : ∀ (s_2 : Int32) (H : Heap) (locs : List Loc) (ls : Array Slot), J13 s_2 = some (r, o_mth, o_mst, o_mmo, o_mrc, o_mro, o_mrt, o_mrm, o_mrl, o_mrh, o_mgr, o_mgo, o_mfr) → va_P g kcl (wM cI cJ cZ ad mth mst mse mla mmo mrc mro mrt mrm mrl mrh mwk mwt mwm mwl mwh mwi mwc mwx mar mli mgr mgo mre mfr rest) H → va_D A (wM cI cJ cZ ad mth mst mse mla mmo mrc mro mrt mrm mrl mrh mwk mwt mwm mwl mwh mwi mwc mwx mar mli mgr mgo mre mfr rest) → va_S A s.heap H locs → lv_has ls 2 [(0, .ref (ad 0)), (1, .int a1)] → W p l e ({ frames := 6, cells := 0, slots := 0, locals := 140 }) s m args below meth c H locs 0 0 (MQ below (kQi g (kty cI cJ cZ) (wM cI cJ cZ ad o_mth o_mst mse mla o_mmo o_mrc o_mro o_mrt o_mrm o_mrl o_mrh mwk mwt mwm mwl mwh mwi mwc mwx mar mli o_mgr o_mgo mre o_mfr rest) A r) args s 0 0 A) (F0 m 13 ls [.int s_2, .ref (ad 0)]) := by
    intro s_2 H locs ls hF hP hD hS hl
    rw [eJ13] at hF
    refine lv_aload_n hx hb d_M_prepare_13 rfl (lv_at hl 0 rfl) ?_
    refine lv_iload_n hx hb d_M_prepare_14 rfl (lv_at hl 1 rfl) ?_
    refine lv_iconst (v := 1) hx hb d_M_prepare_15 (by decide) ?_
    obtain ⟨r_3, hG, hF⟩ := ob1_inv hF
    refine kci K hP hD hS (c_M_isIn l g cI cJ cZ ad mth mst mse mla mmo mrc mro mrt mrm mrl mrh mwk mwt mwm mwl mwh mwi mwc mwx mar mli mgr mgo mre mfr rest a1 1 r_3 hG) wm_885 wm_882 wm_884 wm_41 wm_50 hd_M_isIn rfl rfl ⟨Nat.le_of_ble_eq_true rfl, Nat.le_of_ble_eq_true rfl⟩ ⟨Nat.zero_le _, Nat.zero_le _⟩ 3 0 rfl rfl rfl hl.1 (rest := [.int s_2, .ref (ad 0)]) rfl (Nat.le_of_ble_eq_true rfl) d_M_prepare_16 (fun H locs hP hD hS => ?_)
    obtain ⟨J27, eJ27, hF⟩ := jn2_inv hF
    have hJ27 : ∀ (s_4 : Int32) (s_5 : Int32) (H : Heap) (locs : List Loc) (ls : Array Slot), J27 s_4 s_5 = some (r, o_mth, o_mst, o_mmo, o_mrc, o_mro, o_mrt, o_mrm, o_mrl, o_mrh, o_mgr, o_mgo, o_mfr) → va_P g kcl (wM cI cJ cZ ad mth mst mse mla mmo mrc mro mrt mrm mrl mrh mwk mwt mwm mwl mwh mwi mwc mwx mar mli mgr mgo mre mfr rest) H → va_D A (wM cI cJ cZ ad mth mst mse mla mmo mrc mro mrt mrm mrl mrh mwk mwt mwm mwl mwh mwi mwc mwx mar mli mgr mgo mre mfr rest) → va_S A s.heap H locs → lv_has ls 2 [(0, .ref (ad 0)), (1, .int a1)] → W p l e ({ frames := 6, cells := 0, slots := 0, locals := 140 }) s m args below meth c H locs 0 0 (MQ below (kQi g (kty cI cJ cZ) (wM cI cJ cZ ad o_mth o_mst mse mla o_mmo o_mrc o_mro o_mrt o_mrm o_mrl o_mrh mwk mwt mwm mwl mwh mwi mwc mwx mar mli o_mgr o_mgo mre o_mfr rest) A r) args s 0 0 A) (F0 m 27 ls [.int s_5, .int s_4, .ref (ad 0)]) := by
      intro s_4 s_5 H locs ls hF hP hD hS hl
      rw [eJ27] at hF
      refine lv_iconst (v := 0) hx hb d_M_prepare_27 (by decide) ?_
      obtain ⟨r_6, mth_7, hG, hF⟩ := ob2_inv hF
      refine kci K hP hD hS (c_M_refused l g cI cJ cZ ad mth mst mse mla mmo mrc mro mrt mrm mrl mrh mwk mwt mwm mwl mwh mwi mwc mwx mar mli mgr mgo mre mfr rest s_4 s_5 0 r_6 mth_7 hG) wm_761 wm_758 wm_760 wm_20 wm_50 hd_M_refused rfl rfl ⟨Nat.le_of_ble_eq_true rfl, Nat.le_of_ble_eq_true rfl⟩ ⟨Nat.zero_le _, Nat.zero_le _⟩ 3 0 rfl rfl rfl hl.1 (rest := []) rfl (Nat.le_of_ble_eq_true rfl) d_M_prepare_28 (fun H locs hP hD hS => ?_)
      refine lv_if_eq (tgt := 36) hx hb d_M_prepare_31 (by decide) (fun hc_8 => ?_) (fun hc_8 => ?_)
      · have hF := it_t hF hc_8
        refine lv_aload_n hx hb d_M_prepare_36 rfl (lv_at hl 0 rfl) ?_
        refine lv_iconst (v := 0) hx hb d_M_prepare_37 (by decide) ?_
        refine va_put (D := g) (ci := 3) (v := .int 0) (ty := .int) (C := kR3) (T := kT3) (N := 25) hx hb hts kw3 kt3 ko3 kn3 hown hK hP hD hS 0 rfl rfl 21 (by decide) (hts _ wm_692) (fun _ h9 => h9) rfl (by decide +kernel) rfl rfl (Nat.le_of_ble_eq_true rfl) d_M_prepare_38 (fun H locs hP hD hS => ?_)
        have hP : va_P g kcl (wM cI cJ cZ ad mth_7 mst mse mla mmo mrc mro mrt mrm mrl mrh mwk mwt mwm mwl mwh mwi mwc mwx mar mli 0 mgo mre mfr rest) H := hP
        have hD : va_D A (wM cI cJ cZ ad mth_7 mst mse mla mmo mrc mro mrt mrm mrl mrh mwk mwt mwm mwl mwh mwi mwc mwx mar mli 0 mgo mre mfr rest) := hD
        refine lv_aload_n hx hb d_M_prepare_41 rfl (lv_at hl 0 rfl) ?_
        refine lv_iload_n hx hb d_M_prepare_42 rfl (lv_at hl 1 rfl) ?_
        obtain ⟨mmo_9, mrc_10, mro_11, mrt_12, mrm_13, mrl_14, mrh_15, hG, hF⟩ := ob7_inv hF
        refine kcv K hP hD hS (c_M_giveReading l g cI cJ cZ ad mth_7 mst mse mla mmo mrc mro mrt mrm mrl mrh mwk mwt mwm mwl mwh mwi mwc mwx mar mli 0 mgo mre mfr rest a1 mmo_9 mrc_10 mro_11 mrt_12 mrm_13 mrl_14 mrh_15 hG) wm_893 wm_890 wm_892 wm_42 wm_50 hd_M_giveReading rfl rfl ⟨Nat.le_of_ble_eq_true rfl, Nat.le_of_ble_eq_true rfl⟩ ⟨Nat.zero_le _, Nat.zero_le _⟩ 3 0 rfl rfl rfl hl.1 (rest := []) rfl (Nat.le_of_ble_eq_true rfl) d_M_prepare_43 (fun H locs hP hD hS => ?_)
        refine lv_aload_n hx hb d_M_prepare_46 rfl (lv_at hl 0 rfl) ?_
        refine va_get (D := g) (ci := 3) (v := .ref (ad 1)) (C := kR3) (T := kT3) (N := 25) hx hb hts kw3 hown hK hP 0 rfl rfl 1 (by decide) (hts _ wm_672) (fun _ h9 => h9) rfl d_M_prepare_47 ?_
        refine lv_iload_n hx hb d_M_prepare_50 rfl (lv_at hl 1 rfl) ?_
        refine lv_iconst (v := 4) hx hb d_M_prepare_51 (by decide) ?_
        obtain ⟨hg_16, hF⟩ := gd_inv hF
        refine va_iast hx hb hK hP hD hS 1 0 rfl rfl hg_16 d_M_prepare_52 (fun H locs hP hD hS => ?_)
        have hP : va_P g kcl (wM cI cJ cZ ad mth_7 (upd mst a1.toNatClampNeg 4) mse mla mmo_9 mrc_10 mro_11 mrt_12 mrm_13 mrl_14 mrh_15 mwk mwt mwm mwl mwh mwi mwc mwx mar mli 0 mgo mre mfr rest) H := hP
        have hD : va_D A (wM cI cJ cZ ad mth_7 (upd mst a1.toNatClampNeg 4) mse mla mmo_9 mrc_10 mro_11 mrt_12 mrm_13 mrl_14 mrh_15 mwk mwt mwm mwl mwh mwi mwc mwx mar mli 0 mgo mre mfr rest) := hD
        refine lv_aload_n hx hb d_M_prepare_53 rfl (lv_at hl 0 rfl) ?_
        refine lv_iconst (v := (-1)) hx hb d_M_prepare_54 (by decide) ?_
        obtain ⟨mst_17, mmo_18, mrc_19, mro_20, mrt_21, mrm_22, mrl_23, mrh_24, mgr_25, mgo_26, mfr_27, hG, hF⟩ := ob11_inv hF
        refine kcv K hP hD hS (c_M_look l g cI cJ cZ ad mth_7 (upd mst a1.toNatClampNeg 4) mse mla mmo_9 mrc_10 mro_11 mrt_12 mrm_13 mrl_14 mrh_15 mwk mwt mwm mwl mwh mwi mwc mwx mar mli 0 mgo mre mfr rest (-1) mst_17 mmo_18 mrc_19 mro_20 mrt_21 mrm_22 mrl_23 mrh_24 mgr_25 mgo_26 mfr_27 hG) wm_835 wm_832 wm_834 wm_33 wm_50 hd_M_look rfl rfl ⟨Nat.le_of_ble_eq_true rfl, Nat.le_of_ble_eq_true rfl⟩ ⟨Nat.zero_le _, Nat.zero_le _⟩ 3 0 rfl rfl rfl hl.1 (rest := []) rfl (Nat.le_of_ble_eq_true rfl) d_M_prepare_55 (fun H locs hP hD hS => ?_)
        refine lv_aload_n hx hb d_M_prepare_58 rfl (lv_at hl 0 rfl) ?_
        refine lv_iload_n hx hb d_M_prepare_59 rfl (lv_at hl 1 rfl) ?_
        obtain ⟨r_28, hG, hF⟩ := ob1_inv hF
        refine kci K hP hD hS (c_M_locksOf l g cI cJ cZ ad mth_7 mst_17 mse mla mmo_18 mrc_19 mro_20 mrt_21 mrm_22 mrl_23 mrh_24 mwk mwt mwm mwl mwh mwi mwc mwx mar mli mgr_25 mgo_26 mre mfr_27 rest a1 r_28 hG) wm_897 wm_894 wm_896 wm_43 wm_50 hd_M_locksOf rfl rfl ⟨Nat.le_of_ble_eq_true rfl, Nat.le_of_ble_eq_true rfl⟩ ⟨Nat.zero_le _, Nat.zero_le _⟩ 3 0 rfl rfl rfl hl.1 (rest := []) rfl (Nat.le_of_ble_eq_true rfl) d_M_prepare_60 (fun H locs hP hD hS => ?_)
        cases hF
        exact kri K hP hD hS d_M_prepare_63 rfl
      · have hF := it_f hF hc_8
        refine lv_iconst (v := 0) hx hb d_M_prepare_34 (by decide) ?_
        cases hF
        exact kri K hP hD hS d_M_prepare_35 rfl
    refine lv_if_ne (tgt := 26) hx hb d_M_prepare_19 (by decide) (fun hc_29 => ?_) (fun hc_29 => ?_)
    · have hF := it_f hF hc_29
      refine lv_iconst (v := 0) hx hb d_M_prepare_26 (by decide) ?_
      exact hJ27 _ _ H locs ls hF hP hD hS (lv_sub hl [0, 1] rfl)
    · have hF := it_t hF hc_29
      refine lv_iconst (v := 1) hx hb d_M_prepare_22 (by decide) ?_
      refine lv_goto (tgt := 27) hx hb d_M_prepare_23 (by decide) ?_
      exact hJ27 _ _ H locs ls hF hP hD hS (lv_sub hl [0, 1] rfl)
  refine lv_if_ne (tgt := 12) hx hb d_M_prepare_5 (by decide) (fun hc_30 => ?_) (fun hc_30 => ?_)
  · have hF := it_f hF hc_30
    refine lv_iconst (v := 0) hx hb d_M_prepare_12 (by decide) ?_
    exact hJ13 _ H locs ls hF hP hD hS (lv_sub hl [0, 1] rfl)
  · have hF := it_t hF hc_30
    refine lv_iconst (v := 1) hx hb d_M_prepare_8 (by decide) ?_
    refine lv_goto (tgt := 13) hx hb d_M_prepare_9 (by decide) ?_
    exact hJ13 _ H locs ls hF hP hD hS (lv_sub hl [0, 1] rfl)
theorem c_M_prepare (l : Launch) (g : va_G) (cI cJ cZ : ClassId) (ad : Nat → Nat) (mth : Int32) (mst : Nat → Int32) (mse : Nat → Int32) (mla : Int32) (mmo : Nat → Int32) (mrc : Int32) (mro : Nat → Int32) (mrt : Nat → Int32) (mrm : Nat → Int32) (mrl : Nat → Int64) (mrh : Nat → Int64) (mwk : Nat → Int32) (mwt : Nat → Int32) (mwm : Nat → Int32) (mwl : Nat → Int64) (mwh : Nat → Int64) (mwi : Nat → Int32) (mwc : Nat → Int32) (mwx : Nat → Int32) (mar : Int32) (mli : Int32) (mgr : Int32) (mgo : Nat → Int32) (mre : Nat → Int32) (mfr : Int32) (rest : va_W) (a1 : Int32) (r : Int32) (o_mth : Int32) (o_mst : Nat → Int32) (o_mmo : Nat → Int32) (o_mrc : Int32) (o_mro : Nat → Int32) (o_mrt : Nat → Int32) (o_mrm : Nat → Int32) (o_mrl : Nat → Int64) (o_mrh : Nat → Int64) (o_mgr : Int32) (o_mgo : Nat → Int32) (o_mfr : Int32) (hF : F_M_prepare mth mst mmo mrc mro mrt mrm mrl mrh mwk mwt mwm mwl mwh mwi mwc mgr mgo mfr a1 = some (r, o_mth, o_mst, o_mmo, o_mrc, o_mro, o_mrt, o_mrm, o_mrl, o_mrh, o_mgr, o_mgo, o_mfr)) : Ci l y_M_prepare prog_6_method_40_code 2 (some .int) ({ frames := 6, cells := 0, slots := 0, locals := 140 }) [.ref (ad 0), .int a1] g (kty cI cJ cZ) (wM cI cJ cZ ad mth mst mse mla mmo mrc mro mrt mrm mrl mrh mwk mwt mwm mwl mwh mwi mwc mwx mar mli mgr mgo mre mfr rest) (wM cI cJ cZ ad o_mth o_mst mse mla o_mmo o_mrc o_mro o_mrt o_mrm o_mrl o_mrh mwk mwt mwm mwl mwh mwi mwc mwx mar mli o_mgr o_mgo mre o_mfr rest) r :=
  Ci.of (by decide) (Nat.le_of_ble_eq_true rfl) (fun p e s m below meth c A ls K hP hD hS hl => t_M_prepare K mth mst mse mla mmo mrc mro mrt mrm mrl mrh mwk mwt mwm mwl mwh mwi mwc mwx mar mli mgr mgo mre mfr a1 r o_mth o_mst o_mmo o_mrc o_mro o_mrt o_mrm o_mrl o_mrh o_mgr o_mgo o_mfr hF hP hD hS hl)
def F_M_unread (mth : Int32) (mst : Nat → Int32) (mmo : Nat → Int32) (mrc : Int32) (mro : Nat → Int32) (mrt : Nat → Int32) (mrm : Nat → Int32) (mrl : Nat → Int64) (mrh : Nat → Int64) (mwk : Nat → Int32) (mwt : Nat → Int32) (mwm : Nat → Int32) (mwl : Nat → Int64) (mwh : Nat → Int64) (mwi : Nat → Int32) (mwc : Nat → Int32) (mgr : Int32) (mgo : Nat → Int32) (mfr : Int32) (a1 : Int32) : Option (Int32 × Int32 × (Nat → Int32) × (Nat → Int32) × Int32 × (Nat → Int32) × (Nat → Int32) × (Nat → Int32) × (Nat → Int64) × (Nat → Int64) × Int32 × (Nat → Int32) × Int32) :=
  ob1 (F_M_isOwner a1) (fun r_1 => jn1 (fun (s_2 : Int32) => ob1 (F_M_isIn mst a1 1) (fun r_3 => jn2 (fun (s_4 : Int32) (s_5 : Int32) => ob2 (F_M_refused mth s_4 s_5 0) (fun r_6 mth_7 => if r_6 = 0 then ob7 (F_M_giveReading mmo mrc mro mrt mrm mrl mrh a1) (fun mmo_9 mrc_10 mro_11 mrt_12 mrm_13 mrl_14 mrh_15 => ob11 (F_M_look mst mmo_9 mrc_10 mro_11 mrt_12 mrm_13 mrl_14 mrh_15 mwk mwt mwm mwl mwh mwi mwc 0 mgo mfr (-1)) (fun mst_16 mmo_17 mrc_18 mro_19 mrt_20 mrm_21 mrl_22 mrh_23 mgr_24 mgo_25 mfr_26 => some (mgr_24, mth_7, mst_16, mmo_17, mrc_18, mro_19, mrt_20, mrm_21, mrl_22, mrh_23, mgr_24, mgo_25, mfr_26))) else some (0, mth_7, mst, mmo, mrc, mro, mrt, mrm, mrl, mrh, mgr, mgo, mfr))) (fun J27 => if r_3 = 0 then J27 s_2 1 else J27 s_2 0))) (fun J13 => if r_1 = 0 then J13 1 else J13 0))
set_option maxHeartbeats 4000000 in
set_option maxRecDepth 100000 in
theorem t_M_unread {p : Program} {l : Launch} {e : Env} {s : State} {m : MethodId} {args : Array Value} {below : List Frame} {meth : Method} {c : Code} {A : Nat → Prop} {g : va_G} {cI cJ cZ : ClassId} {ad : Nat → Nat} {rest : va_W} (K : kX p s m args meth c "LockTableModel" prog_6_method_41_code 2 (some .int) A g (kty cI cJ cZ)) (mth : Int32) (mst : Nat → Int32) (mse : Nat → Int32) (mla : Int32) (mmo : Nat → Int32) (mrc : Int32) (mro : Nat → Int32) (mrt : Nat → Int32) (mrm : Nat → Int32) (mrl : Nat → Int64) (mrh : Nat → Int64) (mwk : Nat → Int32) (mwt : Nat → Int32) (mwm : Nat → Int32) (mwl : Nat → Int64) (mwh : Nat → Int64) (mwi : Nat → Int32) (mwc : Nat → Int32) (mwx : Nat → Int32) (mar : Int32) (mli : Int32) (mgr : Int32) (mgo : Nat → Int32) (mre : Nat → Int32) (mfr : Int32) (a1 : Int32) (r : Int32) (o_mth : Int32) (o_mst : Nat → Int32) (o_mmo : Nat → Int32) (o_mrc : Int32) (o_mro : Nat → Int32) (o_mrt : Nat → Int32) (o_mrm : Nat → Int32) (o_mrl : Nat → Int64) (o_mrh : Nat → Int64) (o_mgr : Int32) (o_mgo : Nat → Int32) (o_mfr : Int32) (hF : F_M_unread mth mst mmo mrc mro mrt mrm mrl mrh mwk mwt mwm mwl mwh mwi mwc mgr mgo mfr a1 = some (r, o_mth, o_mst, o_mmo, o_mrc, o_mro, o_mrt, o_mrm, o_mrl, o_mrh, o_mgr, o_mgo, o_mfr)) {H : Heap} {locs : List Loc} {ls : Array Slot} (hP : va_P g kcl (wM cI cJ cZ ad mth mst mse mla mmo mrc mro mrt mrm mrl mrh mwk mwt mwm mwl mwh mwi mwc mwx mar mli mgr mgo mre mfr rest) H) (hD : va_D A (wM cI cJ cZ ad mth mst mse mla mmo mrc mro mrt mrm mrl mrh mwk mwt mwm mwl mwh mwi mwc mwx mar mli mgr mgo mre mfr rest)) (hS : va_S A s.heap H locs) (hl : lv_has ls 2 [(0, .ref (ad 0)), (1, .int a1)]) : W p l e ({ frames := 6, cells := 0, slots := 0, locals := 140 }) s m args below meth c H locs 0 0 (MQ below (kQi g (kty cI cJ cZ) (wM cI cJ cZ ad o_mth o_mst mse mla o_mmo o_mrc o_mro o_mrt o_mrm o_mrl o_mrh mwk mwt mwm mwl mwh mwi mwc mwx mar mli o_mgr o_mgo mre o_mfr rest) A r) args s 0 0 A) (F0 m 0 ls []) := by
  obtain ⟨hx, hb, hr, hml, hown, hts, hlocks, hK, hA, hE⟩ := id K
  unfold F_M_unread at hF
  refine lv_aload_n hx hb d_M_unread_0 rfl (lv_at hl 0 rfl) ?_
  refine lv_iload_n hx hb d_M_unread_1 rfl (lv_at hl 1 rfl) ?_
  obtain ⟨r_1, hG, hF⟩ := ob1_inv hF
  refine ksi K hP hD hS (c_M_isOwner l g (kty cI cJ cZ) (wM cI cJ cZ ad mth mst mse mla mmo mrc mro mrt mrm mrl mrh mwk mwt mwm mwl mwh mwi mwc mwx mar mli mgr mgo mre mfr rest) a1 r_1 hG) wm_757 wm_755 wm_756 wm_50 hd_M_isOwner rfl rfl ⟨Nat.le_of_ble_eq_true rfl, Nat.le_of_ble_eq_true rfl⟩ ⟨Nat.zero_le _, Nat.zero_le _⟩ hl.1 (rest := [.ref (ad 0)]) rfl (Nat.le_of_ble_eq_true rfl) d_M_unread_2 (fun H locs hP hD hS => ?_)
  obtain ⟨J13, eJ13, hF⟩ := jn1_inv hF
  have hJ13 : ∀ (s_2 : Int32) (H : Heap) (locs : List Loc) (ls : Array Slot), J13 s_2 = some (r, o_mth, o_mst, o_mmo, o_mrc, o_mro, o_mrt, o_mrm, o_mrl, o_mrh, o_mgr, o_mgo, o_mfr) → va_P g kcl (wM cI cJ cZ ad mth mst mse mla mmo mrc mro mrt mrm mrl mrh mwk mwt mwm mwl mwh mwi mwc mwx mar mli mgr mgo mre mfr rest) H → va_D A (wM cI cJ cZ ad mth mst mse mla mmo mrc mro mrt mrm mrl mrh mwk mwt mwm mwl mwh mwi mwc mwx mar mli mgr mgo mre mfr rest) → va_S A s.heap H locs → lv_has ls 2 [(0, .ref (ad 0)), (1, .int a1)] → W p l e ({ frames := 6, cells := 0, slots := 0, locals := 140 }) s m args below meth c H locs 0 0 (MQ below (kQi g (kty cI cJ cZ) (wM cI cJ cZ ad o_mth o_mst mse mla o_mmo o_mrc o_mro o_mrt o_mrm o_mrl o_mrh mwk mwt mwm mwl mwh mwi mwc mwx mar mli o_mgr o_mgo mre o_mfr rest) A r) args s 0 0 A) (F0 m 13 ls [.int s_2, .ref (ad 0)]) := by
    intro s_2 H locs ls hF hP hD hS hl
    rw [eJ13] at hF
    refine lv_aload_n hx hb d_M_unread_13 rfl (lv_at hl 0 rfl) ?_
    refine lv_iload_n hx hb d_M_unread_14 rfl (lv_at hl 1 rfl) ?_
    refine lv_iconst (v := 1) hx hb d_M_unread_15 (by decide) ?_
    obtain ⟨r_3, hG, hF⟩ := ob1_inv hF
    refine kci K hP hD hS (c_M_isIn l g cI cJ cZ ad mth mst mse mla mmo mrc mro mrt mrm mrl mrh mwk mwt mwm mwl mwh mwi mwc mwx mar mli mgr mgo mre mfr rest a1 1 r_3 hG) wm_885 wm_882 wm_884 wm_41 wm_50 hd_M_isIn rfl rfl ⟨Nat.le_of_ble_eq_true rfl, Nat.le_of_ble_eq_true rfl⟩ ⟨Nat.zero_le _, Nat.zero_le _⟩ 3 0 rfl rfl rfl hl.1 (rest := [.int s_2, .ref (ad 0)]) rfl (Nat.le_of_ble_eq_true rfl) d_M_unread_16 (fun H locs hP hD hS => ?_)
    obtain ⟨J27, eJ27, hF⟩ := jn2_inv hF
    have hJ27 : ∀ (s_4 : Int32) (s_5 : Int32) (H : Heap) (locs : List Loc) (ls : Array Slot), J27 s_4 s_5 = some (r, o_mth, o_mst, o_mmo, o_mrc, o_mro, o_mrt, o_mrm, o_mrl, o_mrh, o_mgr, o_mgo, o_mfr) → va_P g kcl (wM cI cJ cZ ad mth mst mse mla mmo mrc mro mrt mrm mrl mrh mwk mwt mwm mwl mwh mwi mwc mwx mar mli mgr mgo mre mfr rest) H → va_D A (wM cI cJ cZ ad mth mst mse mla mmo mrc mro mrt mrm mrl mrh mwk mwt mwm mwl mwh mwi mwc mwx mar mli mgr mgo mre mfr rest) → va_S A s.heap H locs → lv_has ls 2 [(0, .ref (ad 0)), (1, .int a1)] → W p l e ({ frames := 6, cells := 0, slots := 0, locals := 140 }) s m args below meth c H locs 0 0 (MQ below (kQi g (kty cI cJ cZ) (wM cI cJ cZ ad o_mth o_mst mse mla o_mmo o_mrc o_mro o_mrt o_mrm o_mrl o_mrh mwk mwt mwm mwl mwh mwi mwc mwx mar mli o_mgr o_mgo mre o_mfr rest) A r) args s 0 0 A) (F0 m 27 ls [.int s_5, .int s_4, .ref (ad 0)]) := by
      intro s_4 s_5 H locs ls hF hP hD hS hl
      rw [eJ27] at hF
      refine lv_iconst (v := 0) hx hb d_M_unread_27 (by decide) ?_
      obtain ⟨r_6, mth_7, hG, hF⟩ := ob2_inv hF
      refine kci K hP hD hS (c_M_refused l g cI cJ cZ ad mth mst mse mla mmo mrc mro mrt mrm mrl mrh mwk mwt mwm mwl mwh mwi mwc mwx mar mli mgr mgo mre mfr rest s_4 s_5 0 r_6 mth_7 hG) wm_761 wm_758 wm_760 wm_20 wm_50 hd_M_refused rfl rfl ⟨Nat.le_of_ble_eq_true rfl, Nat.le_of_ble_eq_true rfl⟩ ⟨Nat.zero_le _, Nat.zero_le _⟩ 3 0 rfl rfl rfl hl.1 (rest := []) rfl (Nat.le_of_ble_eq_true rfl) d_M_unread_28 (fun H locs hP hD hS => ?_)
      refine lv_if_eq (tgt := 36) hx hb d_M_unread_31 (by decide) (fun hc_8 => ?_) (fun hc_8 => ?_)
      · have hF := it_t hF hc_8
        refine lv_aload_n hx hb d_M_unread_36 rfl (lv_at hl 0 rfl) ?_
        refine lv_iconst (v := 0) hx hb d_M_unread_37 (by decide) ?_
        refine va_put (D := g) (ci := 3) (v := .int 0) (ty := .int) (C := kR3) (T := kT3) (N := 25) hx hb hts kw3 kt3 ko3 kn3 hown hK hP hD hS 0 rfl rfl 21 (by decide) (hts _ wm_692) (fun _ h9 => h9) rfl (by decide +kernel) rfl rfl (Nat.le_of_ble_eq_true rfl) d_M_unread_38 (fun H locs hP hD hS => ?_)
        have hP : va_P g kcl (wM cI cJ cZ ad mth_7 mst mse mla mmo mrc mro mrt mrm mrl mrh mwk mwt mwm mwl mwh mwi mwc mwx mar mli 0 mgo mre mfr rest) H := hP
        have hD : va_D A (wM cI cJ cZ ad mth_7 mst mse mla mmo mrc mro mrt mrm mrl mrh mwk mwt mwm mwl mwh mwi mwc mwx mar mli 0 mgo mre mfr rest) := hD
        refine lv_aload_n hx hb d_M_unread_41 rfl (lv_at hl 0 rfl) ?_
        refine lv_iload_n hx hb d_M_unread_42 rfl (lv_at hl 1 rfl) ?_
        obtain ⟨mmo_9, mrc_10, mro_11, mrt_12, mrm_13, mrl_14, mrh_15, hG, hF⟩ := ob7_inv hF
        refine kcv K hP hD hS (c_M_giveReading l g cI cJ cZ ad mth_7 mst mse mla mmo mrc mro mrt mrm mrl mrh mwk mwt mwm mwl mwh mwi mwc mwx mar mli 0 mgo mre mfr rest a1 mmo_9 mrc_10 mro_11 mrt_12 mrm_13 mrl_14 mrh_15 hG) wm_893 wm_890 wm_892 wm_42 wm_50 hd_M_giveReading rfl rfl ⟨Nat.le_of_ble_eq_true rfl, Nat.le_of_ble_eq_true rfl⟩ ⟨Nat.zero_le _, Nat.zero_le _⟩ 3 0 rfl rfl rfl hl.1 (rest := []) rfl (Nat.le_of_ble_eq_true rfl) d_M_unread_43 (fun H locs hP hD hS => ?_)
        refine lv_aload_n hx hb d_M_unread_46 rfl (lv_at hl 0 rfl) ?_
        refine lv_iconst (v := (-1)) hx hb d_M_unread_47 (by decide) ?_
        obtain ⟨mst_16, mmo_17, mrc_18, mro_19, mrt_20, mrm_21, mrl_22, mrh_23, mgr_24, mgo_25, mfr_26, hG, hF⟩ := ob11_inv hF
        refine kcv K hP hD hS (c_M_look l g cI cJ cZ ad mth_7 mst mse mla mmo_9 mrc_10 mro_11 mrt_12 mrm_13 mrl_14 mrh_15 mwk mwt mwm mwl mwh mwi mwc mwx mar mli 0 mgo mre mfr rest (-1) mst_16 mmo_17 mrc_18 mro_19 mrt_20 mrm_21 mrl_22 mrh_23 mgr_24 mgo_25 mfr_26 hG) wm_835 wm_832 wm_834 wm_33 wm_50 hd_M_look rfl rfl ⟨Nat.le_of_ble_eq_true rfl, Nat.le_of_ble_eq_true rfl⟩ ⟨Nat.zero_le _, Nat.zero_le _⟩ 3 0 rfl rfl rfl hl.1 (rest := []) rfl (Nat.le_of_ble_eq_true rfl) d_M_unread_48 (fun H locs hP hD hS => ?_)
        refine lv_aload_n hx hb d_M_unread_51 rfl (lv_at hl 0 rfl) ?_
        refine va_get (D := g) (ci := 3) (v := .int mgr_24) (C := kR3) (T := kT3) (N := 25) hx hb hts kw3 hown hK hP 0 rfl rfl 21 (by decide) (hts _ wm_692) (fun _ h9 => h9) rfl d_M_unread_52 ?_
        cases hF
        exact kri K hP hD hS d_M_unread_55 rfl
      · have hF := it_f hF hc_8
        refine lv_iconst (v := 0) hx hb d_M_unread_34 (by decide) ?_
        cases hF
        exact kri K hP hD hS d_M_unread_35 rfl
    refine lv_if_ne (tgt := 26) hx hb d_M_unread_19 (by decide) (fun hc_27 => ?_) (fun hc_27 => ?_)
    · have hF := it_f hF hc_27
      refine lv_iconst (v := 0) hx hb d_M_unread_26 (by decide) ?_
      exact hJ27 _ _ H locs ls hF hP hD hS (lv_sub hl [0, 1] rfl)
    · have hF := it_t hF hc_27
      refine lv_iconst (v := 1) hx hb d_M_unread_22 (by decide) ?_
      refine lv_goto (tgt := 27) hx hb d_M_unread_23 (by decide) ?_
      exact hJ27 _ _ H locs ls hF hP hD hS (lv_sub hl [0, 1] rfl)
  refine lv_if_ne (tgt := 12) hx hb d_M_unread_5 (by decide) (fun hc_28 => ?_) (fun hc_28 => ?_)
  · have hF := it_f hF hc_28
    refine lv_iconst (v := 0) hx hb d_M_unread_12 (by decide) ?_
    exact hJ13 _ H locs ls hF hP hD hS (lv_sub hl [0, 1] rfl)
  · have hF := it_t hF hc_28
    refine lv_iconst (v := 1) hx hb d_M_unread_8 (by decide) ?_
    refine lv_goto (tgt := 13) hx hb d_M_unread_9 (by decide) ?_
    exact hJ13 _ H locs ls hF hP hD hS (lv_sub hl [0, 1] rfl)
theorem c_M_unread (l : Launch) (g : va_G) (cI cJ cZ : ClassId) (ad : Nat → Nat) (mth : Int32) (mst : Nat → Int32) (mse : Nat → Int32) (mla : Int32) (mmo : Nat → Int32) (mrc : Int32) (mro : Nat → Int32) (mrt : Nat → Int32) (mrm : Nat → Int32) (mrl : Nat → Int64) (mrh : Nat → Int64) (mwk : Nat → Int32) (mwt : Nat → Int32) (mwm : Nat → Int32) (mwl : Nat → Int64) (mwh : Nat → Int64) (mwi : Nat → Int32) (mwc : Nat → Int32) (mwx : Nat → Int32) (mar : Int32) (mli : Int32) (mgr : Int32) (mgo : Nat → Int32) (mre : Nat → Int32) (mfr : Int32) (rest : va_W) (a1 : Int32) (r : Int32) (o_mth : Int32) (o_mst : Nat → Int32) (o_mmo : Nat → Int32) (o_mrc : Int32) (o_mro : Nat → Int32) (o_mrt : Nat → Int32) (o_mrm : Nat → Int32) (o_mrl : Nat → Int64) (o_mrh : Nat → Int64) (o_mgr : Int32) (o_mgo : Nat → Int32) (o_mfr : Int32) (hF : F_M_unread mth mst mmo mrc mro mrt mrm mrl mrh mwk mwt mwm mwl mwh mwi mwc mgr mgo mfr a1 = some (r, o_mth, o_mst, o_mmo, o_mrc, o_mro, o_mrt, o_mrm, o_mrl, o_mrh, o_mgr, o_mgo, o_mfr)) : Ci l y_M_unread prog_6_method_41_code 2 (some .int) ({ frames := 6, cells := 0, slots := 0, locals := 140 }) [.ref (ad 0), .int a1] g (kty cI cJ cZ) (wM cI cJ cZ ad mth mst mse mla mmo mrc mro mrt mrm mrl mrh mwk mwt mwm mwl mwh mwi mwc mwx mar mli mgr mgo mre mfr rest) (wM cI cJ cZ ad o_mth o_mst mse mla o_mmo o_mrc o_mro o_mrt o_mrm o_mrl o_mrh mwk mwt mwm mwl mwh mwi mwc mwx mar mli o_mgr o_mgo mre o_mfr rest) r :=
  Ci.of (by decide) (Nat.le_of_ble_eq_true rfl) (fun p e s m below meth c A ls K hP hD hS hl => t_M_unread K mth mst mse mla mmo mrc mro mrt mrm mrl mrh mwk mwt mwm mwl mwh mwi mwc mwx mar mli mgr mgo mre mfr a1 r o_mth o_mst o_mmo o_mrc o_mro o_mrt o_mrm o_mrl o_mrh o_mgr o_mgo o_mfr hF hP hD hS hl)
def F_M_end_L42 (v1 : Int32) : Nat → (Nat → Int32) → Int32 → (Nat → Int32) → (Nat → Int32) → (Nat → Int32) → (Nat → Int64) → (Nat → Int64) → Int32 → Int32 → Option ((Nat → Int32) × Int32 × (Nat → Int32) × (Nat → Int32) × (Nat → Int32) × (Nat → Int64) × (Nat → Int64) × Int32)
  | 0, _, _, _, _, _, _, _, _, _ => none
  | n + 1, mmo, mrc, mro, mrt, mrm, mrl, mrh, mfr, v2 => if 16 ≤ v2 then some (mmo, mrc, mro, mrt, mrm, mrl, mrh, mfr) else gd (((16 * v1) + v2) < 0 ∨ 128 ≤ ((16 * v1) + v2).toNatClampNeg) (ob7 (F_M_dropRanges mrc mro mrt mrm mrl mrh mfr v1 v2) (fun mrc_10 mro_11 mrt_12 mrm_13 mrl_14 mrh_15 mfr_16 => F_M_end_L42 v1 n (upd mmo ((16 * v1) + v2).toNatClampNeg (-1)) mrc_10 mro_11 mrt_12 mrm_13 mrl_14 mrh_15 mfr_16 (v2 + 1)))
def F_M_end (mth : Int32) (mst : Nat → Int32) (mmo : Nat → Int32) (mrc : Int32) (mro : Nat → Int32) (mrt : Nat → Int32) (mrm : Nat → Int32) (mrl : Nat → Int64) (mrh : Nat → Int64) (mwk : Nat → Int32) (mwt : Nat → Int32) (mwm : Nat → Int32) (mwl : Nat → Int64) (mwh : Nat → Int64) (mwi : Nat → Int32) (mwc : Nat → Int32) (mgr : Int32) (mgo : Nat → Int32) (mfr : Int32) (a1 : Int32) : Option (Int32 × Int32 × (Nat → Int32) × (Nat → Int32) × Int32 × (Nat → Int32) × (Nat → Int32) × (Nat → Int32) × (Nat → Int64) × (Nat → Int64) × Int32 × (Nat → Int32) × Int32) :=
  ob1 (F_M_isOwner a1) (fun r_1 => jn1 (fun (s_2 : Int32) => ob1 (F_M_isIn mst a1 0) (fun r_3 => ob2 (F_M_refused mth s_2 r_3 0) (fun r_4 mth_5 => if r_4 = 0 then gd (a1 < 0 ∨ 8 ≤ a1.toNatClampNeg) (ob8 (F_M_end_L42 a1 fu mmo mrc mro mrt mrm mrl mrh mfr 0) (fun mmo_17 mrc_18 mro_19 mrt_20 mrm_21 mrl_22 mrh_23 mfr_24 => ob11 (F_M_look (upd mst a1.toNatClampNeg 0) mmo_17 mrc_18 mro_19 mrt_20 mrm_21 mrl_22 mrh_23 mwk mwt mwm mwl mwh mwi mwc 0 mgo mfr_24 (-1)) (fun mst_25 mmo_26 mrc_27 mro_28 mrt_29 mrm_30 mrl_31 mrh_32 mgr_33 mgo_34 mfr_35 => some (mgr_33, mth_5, mst_25, mmo_26, mrc_27, mro_28, mrt_29, mrm_30, mrl_31, mrh_32, mgr_33, mgo_34, mfr_35)))) else some (0, mth_5, mst, mmo, mrc, mro, mrt, mrm, mrl, mrh, mgr, mgo, mfr)))) (fun J13 => if r_1 = 0 then J13 1 else J13 0))
set_option maxHeartbeats 4000000 in
set_option maxRecDepth 100000 in
theorem t_M_end_L42 {p : Program} {l : Launch} {e : Env} {s : State} {m : MethodId} {args : Array Value} {below : List Frame} {meth : Method} {c : Code} {A : Nat → Prop} {g : va_G} {cI cJ cZ : ClassId} {ad : Nat → Nat} {rest : va_W} (K : kX p s m args meth c "LockTableModel" prog_6_method_42_code 3 (some .int) A g (kty cI cJ cZ)) {Q : State → Prop} (mth : Int32) (mst : Nat → Int32) (mse : Nat → Int32) (mla : Int32) (mwk : Nat → Int32) (mwt : Nat → Int32) (mwm : Nat → Int32) (mwl : Nat → Int64) (mwh : Nat → Int64) (mwi : Nat → Int32) (mwc : Nat → Int32) (mwx : Nat → Int32) (mar : Int32) (mli : Int32) (mgr : Int32) (mgo : Nat → Int32) (mre : Nat → Int32) (v1 : Int32) : ∀ (n : Nat) (mmo : Nat → Int32) (mrc : Int32) (mro : Nat → Int32) (mrt : Nat → Int32) (mrm : Nat → Int32) (mrl : Nat → Int64) (mrh : Nat → Int64) (mfr : Int32) (v2 : Int32) (o_mmo : Nat → Int32) (o_mrc : Int32) (o_mro : Nat → Int32) (o_mrt : Nat → Int32) (o_mrm : Nat → Int32) (o_mrl : Nat → Int64) (o_mrh : Nat → Int64) (o_mfr : Int32) (H : Heap) (locs : List Loc) (ls : Array Slot), F_M_end_L42 v1 n mmo mrc mro mrt mrm mrl mrh mfr v2 = some (o_mmo, o_mrc, o_mro, o_mrt, o_mrm, o_mrl, o_mrh, o_mfr) → va_P g kcl (wM cI cJ cZ ad mth mst mse mla mmo mrc mro mrt mrm mrl mrh mwk mwt mwm mwl mwh mwi mwc mwx mar mli mgr mgo mre mfr rest) H → va_D A (wM cI cJ cZ ad mth mst mse mla mmo mrc mro mrt mrm mrl mrh mwk mwt mwm mwl mwh mwi mwc mwx mar mli mgr mgo mre mfr rest) → va_S A s.heap H locs → lv_has ls 3 [(0, .ref (ad 0)), (1, .int v1), (2, .int v2)] → (∀ (H : Heap) (locs : List Loc) (ls : Array Slot), va_P g kcl (wM cI cJ cZ ad mth mst mse mla o_mmo o_mrc o_mro o_mrt o_mrm o_mrl o_mrh mwk mwt mwm mwl mwh mwi mwc mwx mar mli mgr mgo mre o_mfr rest) H → va_D A (wM cI cJ cZ ad mth mst mse mla o_mmo o_mrc o_mro o_mrt o_mrm o_mrl o_mrh mwk mwt mwm mwl mwh mwi mwc mwx mar mli mgr mgo mre o_mfr rest) → va_S A s.heap H locs → lv_has ls 3 [(0, .ref (ad 0))] → W p l e ({ frames := 6, cells := 0, slots := 0, locals := 140 }) s m args below meth c H locs 0 0 Q (F0 m 72 ls [])) → W p l e ({ frames := 6, cells := 0, slots := 0, locals := 140 }) s m args below meth c H locs 0 0 Q (F0 m 42 ls []) := by
  obtain ⟨hx, hb, hr, hml, hown, hts, hlocks, hK, hA, hE⟩ := id K
  intro n
  induction n with
  | zero =>
    intro mmo mrc mro mrt mrm mrl mrh mfr v2 o_mmo o_mrc o_mro o_mrt o_mrm o_mrl o_mrh o_mfr H locs ls hF
    rw [F_M_end_L42] at hF
    cases hF
  | succ n ih =>
    intro mmo mrc mro mrt mrm mrl mrh mfr v2 o_mmo o_mrc o_mro o_mrt o_mrm o_mrl o_mrh o_mfr H locs ls hF hP hD hS hl hQ
    rw [F_M_end_L42] at hF
    refine lv_iload_n hx hb d_M_end_42 rfl (lv_at hl 2 rfl) ?_
    refine lv_bipush (v := 16) hx hb d_M_end_43 (by decide) ?_
    refine lv_icmp_ge (tgt := 72) hx hb d_M_end_45 (by decide) (fun hc_8 => ?_) (fun hc_8 => ?_)
    · have hF := it_t hF hc_8
      cases hF
      exact hQ H locs ls hP hD hS (lv_sub hl [0] rfl)
    · have hF := it_f hF hc_8
      refine lv_aload_n hx hb d_M_end_48 rfl (lv_at hl 0 rfl) ?_
      refine va_get (D := g) (ci := 3) (v := .ref (ad 3)) (C := kR3) (T := kT3) (N := 25) hx hb hts kw3 hown hK hP 0 rfl rfl 4 (by decide) (hts _ wm_675) (fun _ h9 => h9) rfl d_M_end_49 ?_
      refine lv_bipush (v := 16) hx hb d_M_end_52 (by decide) ?_
      refine lv_iload_n hx hb d_M_end_54 rfl (lv_at hl 1 rfl) ?_
      refine lv_imul hx hb d_M_end_55 ?_
      refine lv_iload_n hx hb d_M_end_56 rfl (lv_at hl 2 rfl) ?_
      refine lv_iadd hx hb d_M_end_57 ?_
      refine lv_iconst (v := (-1)) hx hb d_M_end_58 (by decide) ?_
      obtain ⟨hg_9, hF⟩ := gd_inv hF
      refine va_iast hx hb hK hP hD hS 3 0 rfl rfl hg_9 d_M_end_59 (fun H locs hP hD hS => ?_)
      have hP : va_P g kcl (wM cI cJ cZ ad mth mst mse mla (upd mmo ((16 * v1) + v2).toNatClampNeg (-1)) mrc mro mrt mrm mrl mrh mwk mwt mwm mwl mwh mwi mwc mwx mar mli mgr mgo mre mfr rest) H := hP
      have hD : va_D A (wM cI cJ cZ ad mth mst mse mla (upd mmo ((16 * v1) + v2).toNatClampNeg (-1)) mrc mro mrt mrm mrl mrh mwk mwt mwm mwl mwh mwi mwc mwx mar mli mgr mgo mre mfr rest) := hD
      refine lv_aload_n hx hb d_M_end_60 rfl (lv_at hl 0 rfl) ?_
      refine lv_iload_n hx hb d_M_end_61 rfl (lv_at hl 1 rfl) ?_
      refine lv_iload_n hx hb d_M_end_62 rfl (lv_at hl 2 rfl) ?_
      obtain ⟨mrc_10, mro_11, mrt_12, mrm_13, mrl_14, mrh_15, mfr_16, hG, hF⟩ := ob7_inv hF
      refine kcv K hP hD hS (c_M_dropRanges l g cI cJ cZ ad mth mst mse mla (upd mmo ((16 * v1) + v2).toNatClampNeg (-1)) mrc mro mrt mrm mrl mrh mwk mwt mwm mwl mwh mwi mwc mwx mar mli mgr mgo mre mfr rest v1 v2 mrc_10 mro_11 mrt_12 mrm_13 mrl_14 mrh_15 mfr_16 hG) wm_827 wm_824 wm_826 wm_31 wm_50 hd_M_dropRanges rfl rfl ⟨Nat.le_of_ble_eq_true rfl, Nat.le_of_ble_eq_true rfl⟩ ⟨Nat.zero_le _, Nat.zero_le _⟩ 3 0 rfl rfl rfl hl.1 (rest := []) rfl (Nat.le_of_ble_eq_true rfl) d_M_end_63 (fun H locs hP hD hS => ?_)
      refine lv_iinc (v := v2 + 1) (lv' := [(2, .int (v2 + 1)), (0, .ref (ad 0)), (1, .int v1)]) hx hb d_M_end_66 hl (k := 2) rfl rfl (by decide) rfl (fun ls hl => ?_)
      refine lv_goto (tgt := 42) hx hb d_M_end_69 (by decide) ?_
      exact ih _ _ _ _ _ _ _ _ _ _ _ _ _ _ _ _ _ H locs ls hF hP hD hS (lv_sub hl [1, 2, 0] rfl) hQ
set_option maxHeartbeats 4000000 in
set_option maxRecDepth 100000 in
theorem t_M_end {p : Program} {l : Launch} {e : Env} {s : State} {m : MethodId} {args : Array Value} {below : List Frame} {meth : Method} {c : Code} {A : Nat → Prop} {g : va_G} {cI cJ cZ : ClassId} {ad : Nat → Nat} {rest : va_W} (K : kX p s m args meth c "LockTableModel" prog_6_method_42_code 3 (some .int) A g (kty cI cJ cZ)) (mth : Int32) (mst : Nat → Int32) (mse : Nat → Int32) (mla : Int32) (mmo : Nat → Int32) (mrc : Int32) (mro : Nat → Int32) (mrt : Nat → Int32) (mrm : Nat → Int32) (mrl : Nat → Int64) (mrh : Nat → Int64) (mwk : Nat → Int32) (mwt : Nat → Int32) (mwm : Nat → Int32) (mwl : Nat → Int64) (mwh : Nat → Int64) (mwi : Nat → Int32) (mwc : Nat → Int32) (mwx : Nat → Int32) (mar : Int32) (mli : Int32) (mgr : Int32) (mgo : Nat → Int32) (mre : Nat → Int32) (mfr : Int32) (a1 : Int32) (r : Int32) (o_mth : Int32) (o_mst : Nat → Int32) (o_mmo : Nat → Int32) (o_mrc : Int32) (o_mro : Nat → Int32) (o_mrt : Nat → Int32) (o_mrm : Nat → Int32) (o_mrl : Nat → Int64) (o_mrh : Nat → Int64) (o_mgr : Int32) (o_mgo : Nat → Int32) (o_mfr : Int32) (hF : F_M_end mth mst mmo mrc mro mrt mrm mrl mrh mwk mwt mwm mwl mwh mwi mwc mgr mgo mfr a1 = some (r, o_mth, o_mst, o_mmo, o_mrc, o_mro, o_mrt, o_mrm, o_mrl, o_mrh, o_mgr, o_mgo, o_mfr)) {H : Heap} {locs : List Loc} {ls : Array Slot} (hP : va_P g kcl (wM cI cJ cZ ad mth mst mse mla mmo mrc mro mrt mrm mrl mrh mwk mwt mwm mwl mwh mwi mwc mwx mar mli mgr mgo mre mfr rest) H) (hD : va_D A (wM cI cJ cZ ad mth mst mse mla mmo mrc mro mrt mrm mrl mrh mwk mwt mwm mwl mwh mwi mwc mwx mar mli mgr mgo mre mfr rest)) (hS : va_S A s.heap H locs) (hl : lv_has ls 3 [(0, .ref (ad 0)), (1, .int a1)]) : W p l e ({ frames := 6, cells := 0, slots := 0, locals := 140 }) s m args below meth c H locs 0 0 (MQ below (kQi g (kty cI cJ cZ) (wM cI cJ cZ ad o_mth o_mst mse mla o_mmo o_mrc o_mro o_mrt o_mrm o_mrl o_mrh mwk mwt mwm mwl mwh mwi mwc mwx mar mli o_mgr o_mgo mre o_mfr rest) A r) args s 0 0 A) (F0 m 0 ls []) := by
  obtain ⟨hx, hb, hr, hml, hown, hts, hlocks, hK, hA, hE⟩ := id K
  unfold F_M_end at hF
  refine lv_aload_n hx hb d_M_end_0 rfl (lv_at hl 0 rfl) ?_
  refine lv_iload_n hx hb d_M_end_1 rfl (lv_at hl 1 rfl) ?_
  obtain ⟨r_1, hG, hF⟩ := ob1_inv hF
  refine ksi K hP hD hS (c_M_isOwner l g (kty cI cJ cZ) (wM cI cJ cZ ad mth mst mse mla mmo mrc mro mrt mrm mrl mrh mwk mwt mwm mwl mwh mwi mwc mwx mar mli mgr mgo mre mfr rest) a1 r_1 hG) wm_757 wm_755 wm_756 wm_50 hd_M_isOwner rfl rfl ⟨Nat.le_of_ble_eq_true rfl, Nat.le_of_ble_eq_true rfl⟩ ⟨Nat.zero_le _, Nat.zero_le _⟩ hl.1 (rest := [.ref (ad 0)]) rfl (Nat.le_of_ble_eq_true rfl) d_M_end_2 (fun H locs hP hD hS => ?_)
  obtain ⟨J13, eJ13, hF⟩ := jn1_inv hF
  have hJ13 : ∀ (s_2 : Int32) (H : Heap) (locs : List Loc) (ls : Array Slot), J13 s_2 = some (r, o_mth, o_mst, o_mmo, o_mrc, o_mro, o_mrt, o_mrm, o_mrl, o_mrh, o_mgr, o_mgo, o_mfr) → va_P g kcl (wM cI cJ cZ ad mth mst mse mla mmo mrc mro mrt mrm mrl mrh mwk mwt mwm mwl mwh mwi mwc mwx mar mli mgr mgo mre mfr rest) H → va_D A (wM cI cJ cZ ad mth mst mse mla mmo mrc mro mrt mrm mrl mrh mwk mwt mwm mwl mwh mwi mwc mwx mar mli mgr mgo mre mfr rest) → va_S A s.heap H locs → lv_has ls 3 [(0, .ref (ad 0)), (1, .int a1)] → W p l e ({ frames := 6, cells := 0, slots := 0, locals := 140 }) s m args below meth c H locs 0 0 (MQ below (kQi g (kty cI cJ cZ) (wM cI cJ cZ ad o_mth o_mst mse mla o_mmo o_mrc o_mro o_mrt o_mrm o_mrl o_mrh mwk mwt mwm mwl mwh mwi mwc mwx mar mli o_mgr o_mgo mre o_mfr rest) A r) args s 0 0 A) (F0 m 13 ls [.int s_2, .ref (ad 0)]) := by
    intro s_2 H locs ls hF hP hD hS hl
    rw [eJ13] at hF
    refine lv_aload_n hx hb d_M_end_13 rfl (lv_at hl 0 rfl) ?_
    refine lv_iload_n hx hb d_M_end_14 rfl (lv_at hl 1 rfl) ?_
    refine lv_iconst (v := 0) hx hb d_M_end_15 (by decide) ?_
    obtain ⟨r_3, hG, hF⟩ := ob1_inv hF
    refine kci K hP hD hS (c_M_isIn l g cI cJ cZ ad mth mst mse mla mmo mrc mro mrt mrm mrl mrh mwk mwt mwm mwl mwh mwi mwc mwx mar mli mgr mgo mre mfr rest a1 0 r_3 hG) wm_885 wm_882 wm_884 wm_41 wm_50 hd_M_isIn rfl rfl ⟨Nat.le_of_ble_eq_true rfl, Nat.le_of_ble_eq_true rfl⟩ ⟨Nat.zero_le _, Nat.zero_le _⟩ 3 0 rfl rfl rfl hl.1 (rest := [.int s_2, .ref (ad 0)]) rfl (Nat.le_of_ble_eq_true rfl) d_M_end_16 (fun H locs hP hD hS => ?_)
    refine lv_iconst (v := 0) hx hb d_M_end_19 (by decide) ?_
    obtain ⟨r_4, mth_5, hG, hF⟩ := ob2_inv hF
    refine kci K hP hD hS (c_M_refused l g cI cJ cZ ad mth mst mse mla mmo mrc mro mrt mrm mrl mrh mwk mwt mwm mwl mwh mwi mwc mwx mar mli mgr mgo mre mfr rest s_2 r_3 0 r_4 mth_5 hG) wm_761 wm_758 wm_760 wm_20 wm_50 hd_M_refused rfl rfl ⟨Nat.le_of_ble_eq_true rfl, Nat.le_of_ble_eq_true rfl⟩ ⟨Nat.zero_le _, Nat.zero_le _⟩ 3 0 rfl rfl rfl hl.1 (rest := []) rfl (Nat.le_of_ble_eq_true rfl) d_M_end_20 (fun H locs hP hD hS => ?_)
    refine lv_if_eq (tgt := 28) hx hb d_M_end_23 (by decide) (fun hc_6 => ?_) (fun hc_6 => ?_)
    · have hF := it_t hF hc_6
      refine lv_aload_n hx hb d_M_end_28 rfl (lv_at hl 0 rfl) ?_
      refine lv_iconst (v := 0) hx hb d_M_end_29 (by decide) ?_
      refine va_put (D := g) (ci := 3) (v := .int 0) (ty := .int) (C := kR3) (T := kT3) (N := 25) hx hb hts kw3 kt3 ko3 kn3 hown hK hP hD hS 0 rfl rfl 21 (by decide) (hts _ wm_692) (fun _ h9 => h9) rfl (by decide +kernel) rfl rfl (Nat.le_of_ble_eq_true rfl) d_M_end_30 (fun H locs hP hD hS => ?_)
      have hP : va_P g kcl (wM cI cJ cZ ad mth_5 mst mse mla mmo mrc mro mrt mrm mrl mrh mwk mwt mwm mwl mwh mwi mwc mwx mar mli 0 mgo mre mfr rest) H := hP
      have hD : va_D A (wM cI cJ cZ ad mth_5 mst mse mla mmo mrc mro mrt mrm mrl mrh mwk mwt mwm mwl mwh mwi mwc mwx mar mli 0 mgo mre mfr rest) := hD
      refine lv_aload_n hx hb d_M_end_33 rfl (lv_at hl 0 rfl) ?_
      refine va_get (D := g) (ci := 3) (v := .ref (ad 1)) (C := kR3) (T := kT3) (N := 25) hx hb hts kw3 hown hK hP 0 rfl rfl 1 (by decide) (hts _ wm_672) (fun _ h9 => h9) rfl d_M_end_34 ?_
      refine lv_iload_n hx hb d_M_end_37 rfl (lv_at hl 1 rfl) ?_
      refine lv_iconst (v := 0) hx hb d_M_end_38 (by decide) ?_
      obtain ⟨hg_7, hF⟩ := gd_inv hF
      refine va_iast hx hb hK hP hD hS 1 0 rfl rfl hg_7 d_M_end_39 (fun H locs hP hD hS => ?_)
      have hP : va_P g kcl (wM cI cJ cZ ad mth_5 (upd mst a1.toNatClampNeg 0) mse mla mmo mrc mro mrt mrm mrl mrh mwk mwt mwm mwl mwh mwi mwc mwx mar mli 0 mgo mre mfr rest) H := hP
      have hD : va_D A (wM cI cJ cZ ad mth_5 (upd mst a1.toNatClampNeg 0) mse mla mmo mrc mro mrt mrm mrl mrh mwk mwt mwm mwl mwh mwi mwc mwx mar mli 0 mgo mre mfr rest) := hD
      refine lv_iconst (v := 0) hx hb d_M_end_40 (by decide) ?_
      refine lv_istore_n (lv' := [(2, .int 0), (0, .ref (ad 0)), (1, .int a1)]) hx hb d_M_end_41 rfl hl (by decide) rfl (fun ls hl => ?_)
      obtain ⟨mmo_17, mrc_18, mro_19, mrt_20, mrm_21, mrl_22, mrh_23, mfr_24, hG, hF⟩ := ob8_inv hF
      refine t_M_end_L42 K mth_5 (upd mst a1.toNatClampNeg 0) mse mla mwk mwt mwm mwl mwh mwi mwc mwx mar mli 0 mgo mre a1 fu _ _ _ _ _ _ _ _ _ _ _ _ _ _ _ _ _ H locs ls hG hP hD hS (lv_sub hl [1, 2, 0] rfl) (fun H locs ls hP hD hS hl => ?_)
      refine lv_aload_n hx hb d_M_end_72 rfl (lv_at hl 0 rfl) ?_
      refine lv_iconst (v := (-1)) hx hb d_M_end_73 (by decide) ?_
      obtain ⟨mst_25, mmo_26, mrc_27, mro_28, mrt_29, mrm_30, mrl_31, mrh_32, mgr_33, mgo_34, mfr_35, hG, hF⟩ := ob11_inv hF
      refine kcv K hP hD hS (c_M_look l g cI cJ cZ ad mth_5 (upd mst a1.toNatClampNeg 0) mse mla mmo_17 mrc_18 mro_19 mrt_20 mrm_21 mrl_22 mrh_23 mwk mwt mwm mwl mwh mwi mwc mwx mar mli 0 mgo mre mfr_24 rest (-1) mst_25 mmo_26 mrc_27 mro_28 mrt_29 mrm_30 mrl_31 mrh_32 mgr_33 mgo_34 mfr_35 hG) wm_835 wm_832 wm_834 wm_33 wm_50 hd_M_look rfl rfl ⟨Nat.le_of_ble_eq_true rfl, Nat.le_of_ble_eq_true rfl⟩ ⟨Nat.zero_le _, Nat.zero_le _⟩ 3 0 rfl rfl rfl hl.1 (rest := []) rfl (Nat.le_of_ble_eq_true rfl) d_M_end_74 (fun H locs hP hD hS => ?_)
      refine lv_aload_n hx hb d_M_end_77 rfl (lv_at hl 0 rfl) ?_
      refine va_get (D := g) (ci := 3) (v := .int mgr_33) (C := kR3) (T := kT3) (N := 25) hx hb hts kw3 hown hK hP 0 rfl rfl 21 (by decide) (hts _ wm_692) (fun _ h9 => h9) rfl d_M_end_78 ?_
      cases hF
      exact kri K hP hD hS d_M_end_81 rfl
    · have hF := it_f hF hc_6
      refine lv_iconst (v := 0) hx hb d_M_end_26 (by decide) ?_
      cases hF
      exact kri K hP hD hS d_M_end_27 rfl
  refine lv_if_ne (tgt := 12) hx hb d_M_end_5 (by decide) (fun hc_36 => ?_) (fun hc_36 => ?_)
  · have hF := it_f hF hc_36
    refine lv_iconst (v := 0) hx hb d_M_end_12 (by decide) ?_
    exact hJ13 _ H locs ls hF hP hD hS (lv_sub hl [0, 1] rfl)
  · have hF := it_t hF hc_36
    refine lv_iconst (v := 1) hx hb d_M_end_8 (by decide) ?_
    refine lv_goto (tgt := 13) hx hb d_M_end_9 (by decide) ?_
    exact hJ13 _ H locs ls hF hP hD hS (lv_sub hl [0, 1] rfl)
theorem c_M_end (l : Launch) (g : va_G) (cI cJ cZ : ClassId) (ad : Nat → Nat) (mth : Int32) (mst : Nat → Int32) (mse : Nat → Int32) (mla : Int32) (mmo : Nat → Int32) (mrc : Int32) (mro : Nat → Int32) (mrt : Nat → Int32) (mrm : Nat → Int32) (mrl : Nat → Int64) (mrh : Nat → Int64) (mwk : Nat → Int32) (mwt : Nat → Int32) (mwm : Nat → Int32) (mwl : Nat → Int64) (mwh : Nat → Int64) (mwi : Nat → Int32) (mwc : Nat → Int32) (mwx : Nat → Int32) (mar : Int32) (mli : Int32) (mgr : Int32) (mgo : Nat → Int32) (mre : Nat → Int32) (mfr : Int32) (rest : va_W) (a1 : Int32) (r : Int32) (o_mth : Int32) (o_mst : Nat → Int32) (o_mmo : Nat → Int32) (o_mrc : Int32) (o_mro : Nat → Int32) (o_mrt : Nat → Int32) (o_mrm : Nat → Int32) (o_mrl : Nat → Int64) (o_mrh : Nat → Int64) (o_mgr : Int32) (o_mgo : Nat → Int32) (o_mfr : Int32) (hF : F_M_end mth mst mmo mrc mro mrt mrm mrl mrh mwk mwt mwm mwl mwh mwi mwc mgr mgo mfr a1 = some (r, o_mth, o_mst, o_mmo, o_mrc, o_mro, o_mrt, o_mrm, o_mrl, o_mrh, o_mgr, o_mgo, o_mfr)) : Ci l y_M_end prog_6_method_42_code 3 (some .int) ({ frames := 6, cells := 0, slots := 0, locals := 140 }) [.ref (ad 0), .int a1] g (kty cI cJ cZ) (wM cI cJ cZ ad mth mst mse mla mmo mrc mro mrt mrm mrl mrh mwk mwt mwm mwl mwh mwi mwc mwx mar mli mgr mgo mre mfr rest) (wM cI cJ cZ ad o_mth o_mst mse mla o_mmo o_mrc o_mro o_mrt o_mrm o_mrl o_mrh mwk mwt mwm mwl mwh mwi mwc mwx mar mli o_mgr o_mgo mre o_mfr rest) r :=
  Ci.of (by decide) (Nat.le_of_ble_eq_true rfl) (fun p e s m below meth c A ls K hP hD hS hl => t_M_end K mth mst mse mla mmo mrc mro mrt mrm mrl mrh mwk mwt mwm mwl mwh mwi mwc mwx mar mli mgr mgo mre mfr a1 r o_mth o_mst o_mmo o_mrc o_mro o_mrt o_mrm o_mrl o_mrh o_mgr o_mgo o_mfr hF hP hD hS hl)
def F_M_limit (mth : Int32) (mli : Int32) (mgr : Int32) (a1 : Int32) : Option (Int32 × Int32 × Int32) :=
  jn1 (fun (s_1 : Int32) => ob2 (F_M_refused mth s_1 0 0) (fun r_2 mth_3 => if r_2 = 0 then some (mth_3, a1, 0) else some (mth_3, mli, mgr))) (fun J17 => jn0 (J17 1) (fun J12 => if a1 < 0 then J12  else if a1 ≤ 1000 then J17 0 else J12 ))
set_option maxHeartbeats 4000000 in
set_option maxRecDepth 100000 in
theorem t_M_limit {p : Program} {l : Launch} {e : Env} {s : State} {m : MethodId} {args : Array Value} {below : List Frame} {meth : Method} {c : Code} {A : Nat → Prop} {g : va_G} {cI cJ cZ : ClassId} {ad : Nat → Nat} {rest : va_W} (K : kX p s m args meth c "LockTableModel" prog_6_method_43_code 2 none A g (kty cI cJ cZ)) (mth : Int32) (mst : Nat → Int32) (mse : Nat → Int32) (mla : Int32) (mmo : Nat → Int32) (mrc : Int32) (mro : Nat → Int32) (mrt : Nat → Int32) (mrm : Nat → Int32) (mrl : Nat → Int64) (mrh : Nat → Int64) (mwk : Nat → Int32) (mwt : Nat → Int32) (mwm : Nat → Int32) (mwl : Nat → Int64) (mwh : Nat → Int64) (mwi : Nat → Int32) (mwc : Nat → Int32) (mwx : Nat → Int32) (mar : Int32) (mli : Int32) (mgr : Int32) (mgo : Nat → Int32) (mre : Nat → Int32) (mfr : Int32) (a1 : Int32) (o_mth : Int32) (o_mli : Int32) (o_mgr : Int32) (hF : F_M_limit mth mli mgr a1 = some (o_mth, o_mli, o_mgr)) {H : Heap} {locs : List Loc} {ls : Array Slot} (hP : va_P g kcl (wM cI cJ cZ ad mth mst mse mla mmo mrc mro mrt mrm mrl mrh mwk mwt mwm mwl mwh mwi mwc mwx mar mli mgr mgo mre mfr rest) H) (hD : va_D A (wM cI cJ cZ ad mth mst mse mla mmo mrc mro mrt mrm mrl mrh mwk mwt mwm mwl mwh mwi mwc mwx mar mli mgr mgo mre mfr rest)) (hS : va_S A s.heap H locs) (hl : lv_has ls 2 [(0, .ref (ad 0)), (1, .int a1)]) : W p l e ({ frames := 1, cells := 0, slots := 0, locals := 23 }) s m args below meth c H locs 0 0 (MQ below (kQv g (kty cI cJ cZ) (wM cI cJ cZ ad o_mth mst mse mla mmo mrc mro mrt mrm mrl mrh mwk mwt mwm mwl mwh mwi mwc mwx mar o_mli o_mgr mgo mre mfr rest) A) args s 0 0 A) (F0 m 0 ls []) := by
  obtain ⟨hx, hb, hr, hml, hown, hts, hlocks, hK, hA, hE⟩ := id K
  unfold F_M_limit at hF
  refine lv_aload_n hx hb d_M_limit_0 rfl (lv_at hl 0 rfl) ?_
  refine lv_iload_n hx hb d_M_limit_1 rfl (lv_at hl 1 rfl) ?_
  obtain ⟨J17, eJ17, hF⟩ := jn1_inv hF
  have hJ17 : ∀ (s_1 : Int32) (H : Heap) (locs : List Loc) (ls : Array Slot), J17 s_1 = some (o_mth, o_mli, o_mgr) → va_P g kcl (wM cI cJ cZ ad mth mst mse mla mmo mrc mro mrt mrm mrl mrh mwk mwt mwm mwl mwh mwi mwc mwx mar mli mgr mgo mre mfr rest) H → va_D A (wM cI cJ cZ ad mth mst mse mla mmo mrc mro mrt mrm mrl mrh mwk mwt mwm mwl mwh mwi mwc mwx mar mli mgr mgo mre mfr rest) → va_S A s.heap H locs → lv_has ls 2 [(0, .ref (ad 0)), (1, .int a1)] → W p l e ({ frames := 1, cells := 0, slots := 0, locals := 23 }) s m args below meth c H locs 0 0 (MQ below (kQv g (kty cI cJ cZ) (wM cI cJ cZ ad o_mth mst mse mla mmo mrc mro mrt mrm mrl mrh mwk mwt mwm mwl mwh mwi mwc mwx mar o_mli o_mgr mgo mre mfr rest) A) args s 0 0 A) (F0 m 17 ls [.int s_1, .ref (ad 0)]) := by
    intro s_1 H locs ls hF hP hD hS hl
    rw [eJ17] at hF
    refine lv_iconst (v := 0) hx hb d_M_limit_17 (by decide) ?_
    refine lv_iconst (v := 0) hx hb d_M_limit_18 (by decide) ?_
    obtain ⟨r_2, mth_3, hG, hF⟩ := ob2_inv hF
    refine kci K hP hD hS (c_M_refused l g cI cJ cZ ad mth mst mse mla mmo mrc mro mrt mrm mrl mrh mwk mwt mwm mwl mwh mwi mwc mwx mar mli mgr mgo mre mfr rest s_1 0 0 r_2 mth_3 hG) wm_761 wm_758 wm_760 wm_20 wm_50 hd_M_refused rfl rfl ⟨Nat.le_of_ble_eq_true rfl, Nat.le_of_ble_eq_true rfl⟩ ⟨Nat.zero_le _, Nat.zero_le _⟩ 3 0 rfl rfl rfl hl.1 (rest := []) rfl (Nat.le_of_ble_eq_true rfl) d_M_limit_19 (fun H locs hP hD hS => ?_)
    refine lv_if_ne (tgt := 35) hx hb d_M_limit_22 (by decide) (fun hc_4 => ?_) (fun hc_4 => ?_)
    · have hF := it_f hF hc_4
      cases hF
      exact krv K hP hD hS d_M_limit_35
    · have hF := it_t hF hc_4
      refine lv_aload_n hx hb d_M_limit_25 rfl (lv_at hl 0 rfl) ?_
      refine lv_iconst (v := 0) hx hb d_M_limit_26 (by decide) ?_
      refine va_put (D := g) (ci := 3) (v := .int 0) (ty := .int) (C := kR3) (T := kT3) (N := 25) hx hb hts kw3 kt3 ko3 kn3 hown hK hP hD hS 0 rfl rfl 21 (by decide) (hts _ wm_692) (fun _ h9 => h9) rfl (by decide +kernel) rfl rfl (Nat.le_of_ble_eq_true rfl) d_M_limit_27 (fun H locs hP hD hS => ?_)
      have hP : va_P g kcl (wM cI cJ cZ ad mth_3 mst mse mla mmo mrc mro mrt mrm mrl mrh mwk mwt mwm mwl mwh mwi mwc mwx mar mli 0 mgo mre mfr rest) H := hP
      have hD : va_D A (wM cI cJ cZ ad mth_3 mst mse mla mmo mrc mro mrt mrm mrl mrh mwk mwt mwm mwl mwh mwi mwc mwx mar mli 0 mgo mre mfr rest) := hD
      refine lv_aload_n hx hb d_M_limit_30 rfl (lv_at hl 0 rfl) ?_
      refine lv_iload_n hx hb d_M_limit_31 rfl (lv_at hl 1 rfl) ?_
      refine va_put (D := g) (ci := 3) (v := .int a1) (ty := .int) (C := kR3) (T := kT3) (N := 25) hx hb hts kw3 kt3 ko3 kn3 hown hK hP hD hS 0 rfl rfl 20 (by decide) (hts _ wm_691) (fun _ h9 => h9) rfl (by decide +kernel) rfl rfl (Nat.le_of_ble_eq_true rfl) d_M_limit_32 (fun H locs hP hD hS => ?_)
      have hP : va_P g kcl (wM cI cJ cZ ad mth_3 mst mse mla mmo mrc mro mrt mrm mrl mrh mwk mwt mwm mwl mwh mwi mwc mwx mar a1 0 mgo mre mfr rest) H := hP
      have hD : va_D A (wM cI cJ cZ ad mth_3 mst mse mla mmo mrc mro mrt mrm mrl mrh mwk mwt mwm mwl mwh mwi mwc mwx mar a1 0 mgo mre mfr rest) := hD
      cases hF
      exact krv K hP hD hS d_M_limit_35
  obtain ⟨J12, eJ12, hF⟩ := jn0_inv hF
  have hJ12 : ∀  (H : Heap) (locs : List Loc) (ls : Array Slot), J12  = some (o_mth, o_mli, o_mgr) → va_P g kcl (wM cI cJ cZ ad mth mst mse mla mmo mrc mro mrt mrm mrl mrh mwk mwt mwm mwl mwh mwi mwc mwx mar mli mgr mgo mre mfr rest) H → va_D A (wM cI cJ cZ ad mth mst mse mla mmo mrc mro mrt mrm mrl mrh mwk mwt mwm mwl mwh mwi mwc mwx mar mli mgr mgo mre mfr rest) → va_S A s.heap H locs → lv_has ls 2 [(0, .ref (ad 0)), (1, .int a1)] → W p l e ({ frames := 1, cells := 0, slots := 0, locals := 23 }) s m args below meth c H locs 0 0 (MQ below (kQv g (kty cI cJ cZ) (wM cI cJ cZ ad o_mth mst mse mla mmo mrc mro mrt mrm mrl mrh mwk mwt mwm mwl mwh mwi mwc mwx mar o_mli o_mgr mgo mre mfr rest) A) args s 0 0 A) (F0 m 12 ls [.ref (ad 0)]) := by
    intro  H locs ls hF hP hD hS hl
    rw [eJ12] at hF
    refine lv_iconst (v := 1) hx hb d_M_limit_12 (by decide) ?_
    refine lv_goto (tgt := 17) hx hb d_M_limit_13 (by decide) ?_
    exact hJ17 _ H locs ls hF hP hD hS (lv_sub hl [0, 1] rfl)
  refine lv_if_lt (tgt := 12) hx hb d_M_limit_2 (by decide) (fun hc_5 => ?_) (fun hc_5 => ?_)
  · have hF := it_t hF hc_5
    exact hJ12  H locs ls hF hP hD hS (lv_sub hl [0, 1] rfl)
  · have hF := it_f hF hc_5
    refine lv_iload_n hx hb d_M_limit_5 rfl (lv_at hl 1 rfl) ?_
    refine lv_sipush (v := 1000) hx hb d_M_limit_6 (by decide) ?_
    refine lv_icmp_le (tgt := 16) hx hb d_M_limit_9 (by decide) (fun hc_6 => ?_) (fun hc_6 => ?_)
    · have hF := it_t hF hc_6
      refine lv_iconst (v := 0) hx hb d_M_limit_16 (by decide) ?_
      exact hJ17 _ H locs ls hF hP hD hS (lv_sub hl [0, 1] rfl)
    · have hF := it_f hF hc_6
      exact hJ12  H locs ls hF hP hD hS (lv_sub hl [0, 1] rfl)
theorem c_M_limit (l : Launch) (g : va_G) (cI cJ cZ : ClassId) (ad : Nat → Nat) (mth : Int32) (mst : Nat → Int32) (mse : Nat → Int32) (mla : Int32) (mmo : Nat → Int32) (mrc : Int32) (mro : Nat → Int32) (mrt : Nat → Int32) (mrm : Nat → Int32) (mrl : Nat → Int64) (mrh : Nat → Int64) (mwk : Nat → Int32) (mwt : Nat → Int32) (mwm : Nat → Int32) (mwl : Nat → Int64) (mwh : Nat → Int64) (mwi : Nat → Int32) (mwc : Nat → Int32) (mwx : Nat → Int32) (mar : Int32) (mli : Int32) (mgr : Int32) (mgo : Nat → Int32) (mre : Nat → Int32) (mfr : Int32) (rest : va_W) (a1 : Int32) (o_mth : Int32) (o_mli : Int32) (o_mgr : Int32) (hF : F_M_limit mth mli mgr a1 = some (o_mth, o_mli, o_mgr)) : Cv l y_M_limit prog_6_method_43_code 2 ({ frames := 1, cells := 0, slots := 0, locals := 23 }) [.ref (ad 0), .int a1] g (kty cI cJ cZ) (wM cI cJ cZ ad mth mst mse mla mmo mrc mro mrt mrm mrl mrh mwk mwt mwm mwl mwh mwi mwc mwx mar mli mgr mgo mre mfr rest) (wM cI cJ cZ ad o_mth mst mse mla mmo mrc mro mrt mrm mrl mrh mwk mwt mwm mwl mwh mwi mwc mwx mar o_mli o_mgr mgo mre mfr rest) :=
  Cv.of (by decide) (Nat.le_of_ble_eq_true rfl) (fun p e s m below meth c A ls K hP hD hS hl => t_M_limit K mth mst mse mla mmo mrc mro mrt mrm mrl mrh mwk mwt mwm mwl mwh mwi mwc mwx mar mli mgr mgo mre mfr a1 o_mth o_mli o_mgr hF hP hD hS hl)
def F_M_longest_L4 (mst : Nat → Int32) (mwc : Nat → Int32) (mwx : Nat → Int32) (mli : Int32) : Nat → Int32 → Int32 → Option (Int32)
  | 0, _, _ => none
  | n + 1, v1, v2 => if 8 ≤ v2 then some v1 else if mli ≤ 0 then some v1 else gd (v2 < 0 ∨ 8 ≤ v2.toNatClampNeg) (if (mst v2.toNatClampNeg) = 2 then gd (v2 < 0 ∨ 8 ≤ v2.toNatClampNeg) (if (mwx v2.toNatClampNeg) < mli then F_M_longest_L4 mst mwc mwx mli n v1 (v2 + 1) else if v1 < 0 then F_M_longest_L4 mst mwc mwx mli n v2 (v2 + 1) else gd (v2 < 0 ∨ 8 ≤ v2.toNatClampNeg) (gd (v1 < 0 ∨ 8 ≤ v1.toNatClampNeg) (if (mwc v1.toNatClampNeg) ≤ (mwc v2.toNatClampNeg) then F_M_longest_L4 mst mwc mwx mli n v1 (v2 + 1) else F_M_longest_L4 mst mwc mwx mli n v2 (v2 + 1)))) else F_M_longest_L4 mst mwc mwx mli n v1 (v2 + 1))
def F_M_longest (mst : Nat → Int32) (mwc : Nat → Int32) (mwx : Nat → Int32) (mli : Int32) : Option (Int32) :=
  ob1 (F_M_longest_L4 mst mwc mwx mli fu (-1) 0) (fun v1_11 => some v1_11)
set_option maxHeartbeats 4000000 in
set_option maxRecDepth 100000 in
theorem t_M_longest_L4 {p : Program} {l : Launch} {e : Env} {s : State} {m : MethodId} {args : Array Value} {below : List Frame} {meth : Method} {c : Code} {A : Nat → Prop} {g : va_G} {cI cJ cZ : ClassId} {ad : Nat → Nat} {rest : va_W} (K : kX p s m args meth c "LockTableModel" prog_6_method_44_code 3 (some .int) A g (kty cI cJ cZ)) {Q : State → Prop} (mth : Int32) (mst : Nat → Int32) (mse : Nat → Int32) (mla : Int32) (mmo : Nat → Int32) (mrc : Int32) (mro : Nat → Int32) (mrt : Nat → Int32) (mrm : Nat → Int32) (mrl : Nat → Int64) (mrh : Nat → Int64) (mwk : Nat → Int32) (mwt : Nat → Int32) (mwm : Nat → Int32) (mwl : Nat → Int64) (mwh : Nat → Int64) (mwi : Nat → Int32) (mwc : Nat → Int32) (mwx : Nat → Int32) (mar : Int32) (mli : Int32) (mgr : Int32) (mgo : Nat → Int32) (mre : Nat → Int32) (mfr : Int32) : ∀ (n : Nat) (v1 : Int32) (v2 : Int32) (o_v1 : Int32) (H : Heap) (locs : List Loc) (ls : Array Slot), F_M_longest_L4 mst mwc mwx mli n v1 v2 = some o_v1 → va_P g kcl (wM cI cJ cZ ad mth mst mse mla mmo mrc mro mrt mrm mrl mrh mwk mwt mwm mwl mwh mwi mwc mwx mar mli mgr mgo mre mfr rest) H → va_D A (wM cI cJ cZ ad mth mst mse mla mmo mrc mro mrt mrm mrl mrh mwk mwt mwm mwl mwh mwi mwc mwx mar mli mgr mgo mre mfr rest) → va_S A s.heap H locs → lv_has ls 3 [(0, .ref (ad 0)), (1, .int v1), (2, .int v2)] → (∀ (H : Heap) (locs : List Loc) (ls : Array Slot), va_P g kcl (wM cI cJ cZ ad mth mst mse mla mmo mrc mro mrt mrm mrl mrh mwk mwt mwm mwl mwh mwi mwc mwx mar mli mgr mgo mre mfr rest) H → va_D A (wM cI cJ cZ ad mth mst mse mla mmo mrc mro mrt mrm mrl mrh mwk mwt mwm mwl mwh mwi mwc mwx mar mli mgr mgo mre mfr rest) → va_S A s.heap H locs → lv_has ls 3 [(1, .int o_v1)] → W p l e ({ frames := 0, cells := 0, slots := 0, locals := 0 }) s m args below meth c H locs 0 0 Q (F0 m 67 ls [])) → W p l e ({ frames := 0, cells := 0, slots := 0, locals := 0 }) s m args below meth c H locs 0 0 Q (F0 m 4 ls []) := by
  obtain ⟨hx, hb, hr, hml, hown, hts, hlocks, hK, hA, hE⟩ := id K
  intro n
  induction n with
  | zero =>
    intro v1 v2 o_v1 H locs ls hF
    rw [F_M_longest_L4] at hF
    cases hF
  | succ n ih =>
    intro v1 v2 o_v1 H locs ls hF hP hD hS hl hQ
    rw [F_M_longest_L4] at hF
    refine lv_iload_n hx hb d_M_longest_4 rfl (lv_at hl 2 rfl) ?_
    refine lv_bipush (v := 8) hx hb d_M_longest_5 (by decide) ?_
    refine lv_icmp_ge (tgt := 67) hx hb d_M_longest_7 (by decide) (fun hc_1 => ?_) (fun hc_1 => ?_)
    · have hF := it_t hF hc_1
      cases hF
      exact hQ H locs ls hP hD hS (lv_sub hl [1] rfl)
    · have hF := it_f hF hc_1
      refine lv_aload_n hx hb d_M_longest_10 rfl (lv_at hl 0 rfl) ?_
      refine va_get (D := g) (ci := 3) (v := .int mli) (C := kR3) (T := kT3) (N := 25) hx hb hts kw3 hown hK hP 0 rfl rfl 20 (by decide) (hts _ wm_691) (fun _ h9 => h9) rfl d_M_longest_11 ?_
      refine lv_if_le (tgt := 67) hx hb d_M_longest_14 (by decide) (fun hc_2 => ?_) (fun hc_2 => ?_)
      · have hF := it_t hF hc_2
        cases hF
        exact hQ H locs ls hP hD hS (lv_sub hl [1] rfl)
      · have hF := it_f hF hc_2
        refine lv_aload_n hx hb d_M_longest_17 rfl (lv_at hl 0 rfl) ?_
        refine va_get (D := g) (ci := 3) (v := .ref (ad 1)) (C := kR3) (T := kT3) (N := 25) hx hb hts kw3 hown hK hP 0 rfl rfl 1 (by decide) (hts _ wm_672) (fun _ h9 => h9) rfl d_M_longest_18 ?_
        refine lv_iload_n hx hb d_M_longest_21 rfl (lv_at hl 2 rfl) ?_
        obtain ⟨hg_3, hF⟩ := gd_inv hF
        refine va_iald hx hb hK hP 1 0 rfl rfl hg_3 d_M_longest_22 ?_
        refine lv_iconst (v := 2) hx hb d_M_longest_23 (by decide) ?_
        refine lv_icmp_ne (tgt := 61) hx hb d_M_longest_24 (by decide) (fun hc_4 => ?_) (fun hc_4 => ?_)
        · have hF := it_f hF hc_4
          refine lv_iinc (v := v2 + 1) (lv' := [(2, .int (v2 + 1)), (0, .ref (ad 0)), (1, .int v1)]) hx hb d_M_longest_61 hl (k := 2) rfl rfl (by decide) rfl (fun ls hl => ?_)
          refine lv_goto (tgt := 4) hx hb d_M_longest_64 (by decide) ?_
          exact ih _ _ _ H locs ls hF hP hD hS (lv_sub hl [1, 2, 0] rfl) hQ
        · have hF := it_t hF hc_4
          refine lv_aload_n hx hb d_M_longest_27 rfl (lv_at hl 0 rfl) ?_
          refine va_get (D := g) (ci := 3) (v := .ref (ad 16)) (C := kR3) (T := kT3) (N := 25) hx hb hts kw3 hown hK hP 0 rfl rfl 18 (by decide) (hts _ wm_689) (fun _ h9 => h9) rfl d_M_longest_28 ?_
          refine lv_iload_n hx hb d_M_longest_31 rfl (lv_at hl 2 rfl) ?_
          obtain ⟨hg_5, hF⟩ := gd_inv hF
          refine va_iald hx hb hK hP 16 0 rfl rfl hg_5 d_M_longest_32 ?_
          refine lv_aload_n hx hb d_M_longest_33 rfl (lv_at hl 0 rfl) ?_
          refine va_get (D := g) (ci := 3) (v := .int mli) (C := kR3) (T := kT3) (N := 25) hx hb hts kw3 hown hK hP 0 rfl rfl 20 (by decide) (hts _ wm_691) (fun _ h9 => h9) rfl d_M_longest_34 ?_
          refine lv_icmp_lt (tgt := 61) hx hb d_M_longest_37 (by decide) (fun hc_6 => ?_) (fun hc_6 => ?_)
          · have hF := it_t hF hc_6
            refine lv_iinc (v := v2 + 1) (lv' := [(2, .int (v2 + 1)), (0, .ref (ad 0)), (1, .int v1)]) hx hb d_M_longest_61 hl (k := 2) rfl rfl (by decide) rfl (fun ls hl => ?_)
            refine lv_goto (tgt := 4) hx hb d_M_longest_64 (by decide) ?_
            exact ih _ _ _ H locs ls hF hP hD hS (lv_sub hl [1, 2, 0] rfl) hQ
          · have hF := it_f hF hc_6
            refine lv_iload_n hx hb d_M_longest_40 rfl (lv_at hl 1 rfl) ?_
            refine lv_if_lt (tgt := 59) hx hb d_M_longest_41 (by decide) (fun hc_7 => ?_) (fun hc_7 => ?_)
            · have hF := it_t hF hc_7
              refine lv_iload_n hx hb d_M_longest_59 rfl (lv_at hl 2 rfl) ?_
              refine lv_istore_n (lv' := [(1, .int v2), (0, .ref (ad 0)), (2, .int v2)]) hx hb d_M_longest_60 rfl hl (by decide) rfl (fun ls hl => ?_)
              refine lv_iinc (v := v2 + 1) (lv' := [(2, .int (v2 + 1)), (1, .int v2), (0, .ref (ad 0))]) hx hb d_M_longest_61 hl (k := 2) rfl rfl (by decide) rfl (fun ls hl => ?_)
              refine lv_goto (tgt := 4) hx hb d_M_longest_64 (by decide) ?_
              exact ih _ _ _ H locs ls hF hP hD hS (lv_sub hl [2, 1, 0] rfl) hQ
            · have hF := it_f hF hc_7
              refine lv_aload_n hx hb d_M_longest_44 rfl (lv_at hl 0 rfl) ?_
              refine va_get (D := g) (ci := 3) (v := .ref (ad 15)) (C := kR3) (T := kT3) (N := 25) hx hb hts kw3 hown hK hP 0 rfl rfl 17 (by decide) (hts _ wm_688) (fun _ h9 => h9) rfl d_M_longest_45 ?_
              refine lv_iload_n hx hb d_M_longest_48 rfl (lv_at hl 2 rfl) ?_
              obtain ⟨hg_8, hF⟩ := gd_inv hF
              refine va_iald hx hb hK hP 15 0 rfl rfl hg_8 d_M_longest_49 ?_
              refine lv_aload_n hx hb d_M_longest_50 rfl (lv_at hl 0 rfl) ?_
              refine va_get (D := g) (ci := 3) (v := .ref (ad 15)) (C := kR3) (T := kT3) (N := 25) hx hb hts kw3 hown hK hP 0 rfl rfl 17 (by decide) (hts _ wm_688) (fun _ h9 => h9) rfl d_M_longest_51 ?_
              refine lv_iload_n hx hb d_M_longest_54 rfl (lv_at hl 1 rfl) ?_
              obtain ⟨hg_9, hF⟩ := gd_inv hF
              refine va_iald hx hb hK hP 15 0 rfl rfl hg_9 d_M_longest_55 ?_
              refine lv_icmp_ge (tgt := 61) hx hb d_M_longest_56 (by decide) (fun hc_10 => ?_) (fun hc_10 => ?_)
              · have hF := it_t hF hc_10
                refine lv_iinc (v := v2 + 1) (lv' := [(2, .int (v2 + 1)), (0, .ref (ad 0)), (1, .int v1)]) hx hb d_M_longest_61 hl (k := 2) rfl rfl (by decide) rfl (fun ls hl => ?_)
                refine lv_goto (tgt := 4) hx hb d_M_longest_64 (by decide) ?_
                exact ih _ _ _ H locs ls hF hP hD hS (lv_sub hl [1, 2, 0] rfl) hQ
              · have hF := it_f hF hc_10
                refine lv_iload_n hx hb d_M_longest_59 rfl (lv_at hl 2 rfl) ?_
                refine lv_istore_n (lv' := [(1, .int v2), (0, .ref (ad 0)), (2, .int v2)]) hx hb d_M_longest_60 rfl hl (by decide) rfl (fun ls hl => ?_)
                refine lv_iinc (v := v2 + 1) (lv' := [(2, .int (v2 + 1)), (1, .int v2), (0, .ref (ad 0))]) hx hb d_M_longest_61 hl (k := 2) rfl rfl (by decide) rfl (fun ls hl => ?_)
                refine lv_goto (tgt := 4) hx hb d_M_longest_64 (by decide) ?_
                exact ih _ _ _ H locs ls hF hP hD hS (lv_sub hl [2, 1, 0] rfl) hQ
set_option maxHeartbeats 4000000 in
set_option maxRecDepth 100000 in
theorem t_M_longest {p : Program} {l : Launch} {e : Env} {s : State} {m : MethodId} {args : Array Value} {below : List Frame} {meth : Method} {c : Code} {A : Nat → Prop} {g : va_G} {cI cJ cZ : ClassId} {ad : Nat → Nat} {rest : va_W} (K : kX p s m args meth c "LockTableModel" prog_6_method_44_code 3 (some .int) A g (kty cI cJ cZ)) (mth : Int32) (mst : Nat → Int32) (mse : Nat → Int32) (mla : Int32) (mmo : Nat → Int32) (mrc : Int32) (mro : Nat → Int32) (mrt : Nat → Int32) (mrm : Nat → Int32) (mrl : Nat → Int64) (mrh : Nat → Int64) (mwk : Nat → Int32) (mwt : Nat → Int32) (mwm : Nat → Int32) (mwl : Nat → Int64) (mwh : Nat → Int64) (mwi : Nat → Int32) (mwc : Nat → Int32) (mwx : Nat → Int32) (mar : Int32) (mli : Int32) (mgr : Int32) (mgo : Nat → Int32) (mre : Nat → Int32) (mfr : Int32)  (r : Int32) (hF : F_M_longest mst mwc mwx mli = some r) {H : Heap} {locs : List Loc} {ls : Array Slot} (hP : va_P g kcl (wM cI cJ cZ ad mth mst mse mla mmo mrc mro mrt mrm mrl mrh mwk mwt mwm mwl mwh mwi mwc mwx mar mli mgr mgo mre mfr rest) H) (hD : va_D A (wM cI cJ cZ ad mth mst mse mla mmo mrc mro mrt mrm mrl mrh mwk mwt mwm mwl mwh mwi mwc mwx mar mli mgr mgo mre mfr rest)) (hS : va_S A s.heap H locs) (hl : lv_has ls 3 [(0, .ref (ad 0))]) : W p l e ({ frames := 0, cells := 0, slots := 0, locals := 0 }) s m args below meth c H locs 0 0 (MQ below (kQi g (kty cI cJ cZ) (wM cI cJ cZ ad mth mst mse mla mmo mrc mro mrt mrm mrl mrh mwk mwt mwm mwl mwh mwi mwc mwx mar mli mgr mgo mre mfr rest) A r) args s 0 0 A) (F0 m 0 ls []) := by
  obtain ⟨hx, hb, hr, hml, hown, hts, hlocks, hK, hA, hE⟩ := id K
  unfold F_M_longest at hF
  refine lv_iconst (v := (-1)) hx hb d_M_longest_0 (by decide) ?_
  refine lv_istore_n (lv' := [(1, .int (-1)), (0, .ref (ad 0))]) hx hb d_M_longest_1 rfl hl (by decide) rfl (fun ls hl => ?_)
  refine lv_iconst (v := 0) hx hb d_M_longest_2 (by decide) ?_
  refine lv_istore_n (lv' := [(2, .int 0), (1, .int (-1)), (0, .ref (ad 0))]) hx hb d_M_longest_3 rfl hl (by decide) rfl (fun ls hl => ?_)
  obtain ⟨v1_11, hG, hF⟩ := ob1_inv hF
  refine t_M_longest_L4 K mth mst mse mla mmo mrc mro mrt mrm mrl mrh mwk mwt mwm mwl mwh mwi mwc mwx mar mli mgr mgo mre mfr fu _ _ _ H locs ls hG hP hD hS (lv_sub hl [2, 1, 0] rfl) (fun H locs ls hP hD hS hl => ?_)
  refine lv_iload_n hx hb d_M_longest_67 rfl (lv_at hl 0 rfl) ?_
  cases hF
  exact kri K hP hD hS d_M_longest_68 rfl
theorem c_M_longest (l : Launch) (g : va_G) (cI cJ cZ : ClassId) (ad : Nat → Nat) (mth : Int32) (mst : Nat → Int32) (mse : Nat → Int32) (mla : Int32) (mmo : Nat → Int32) (mrc : Int32) (mro : Nat → Int32) (mrt : Nat → Int32) (mrm : Nat → Int32) (mrl : Nat → Int64) (mrh : Nat → Int64) (mwk : Nat → Int32) (mwt : Nat → Int32) (mwm : Nat → Int32) (mwl : Nat → Int64) (mwh : Nat → Int64) (mwi : Nat → Int32) (mwc : Nat → Int32) (mwx : Nat → Int32) (mar : Int32) (mli : Int32) (mgr : Int32) (mgo : Nat → Int32) (mre : Nat → Int32) (mfr : Int32) (rest : va_W)  (r : Int32) (hF : F_M_longest mst mwc mwx mli = some r) : Ci l y_M_longest prog_6_method_44_code 3 (some .int) ({ frames := 0, cells := 0, slots := 0, locals := 0 }) [.ref (ad 0)] g (kty cI cJ cZ) (wM cI cJ cZ ad mth mst mse mla mmo mrc mro mrt mrm mrl mrh mwk mwt mwm mwl mwh mwi mwc mwx mar mli mgr mgo mre mfr rest) (wM cI cJ cZ ad mth mst mse mla mmo mrc mro mrt mrm mrl mrh mwk mwt mwm mwl mwh mwi mwc mwx mar mli mgr mgo mre mfr rest) r :=
  Ci.of (by decide) (Nat.le_of_ble_eq_true rfl) (fun p e s m below meth c A ls K hP hD hS hl => t_M_longest K mth mst mse mla mmo mrc mro mrt mrm mrl mrh mwk mwt mwm mwl mwh mwi mwc mwx mar mli mgr mgo mre mfr  r hF hP hD hS hl)
def F_M_tick_L44 (mst : Nat → Int32) (v1 : Int32) (v2 : Int32) (v3 : Int32) : Nat → (Nat → Int32) → Int32 → Option ((Nat → Int32))
  | 0, _, _ => none
  | n + 1, mwx, v4 => if 8 ≤ v4 then some mwx else gd (v4 < 0 ∨ 8 ≤ v4.toNatClampNeg) (if (mst v4.toNatClampNeg) = 2 then gd (v4 < 0 ∨ 8 ≤ v4.toNatClampNeg) (gd (v4 < 0 ∨ 8 ≤ v4.toNatClampNeg) (F_M_tick_L44 mst v1 v2 v3 n (upd mwx v4.toNatClampNeg ((mwx v4.toNatClampNeg) + 1)) (v4 + 1))) else gd (v4 < 0 ∨ 8 ≤ v4.toNatClampNeg) (gd (v4 < 0 ∨ 8 ≤ v4.toNatClampNeg) (F_M_tick_L44 mst v1 v2 v3 n (upd mwx v4.toNatClampNeg (mwx v4.toNatClampNeg)) (v4 + 1))))
def F_M_tick_L100 (mwk : Nat → Int32) (mwt : Nat → Int32) (mwm : Nat → Int32) (mwl : Nat → Int64) (mwh : Nat → Int64) (mwi : Nat → Int32) (mwc : Nat → Int32) (mwx : Nat → Int32) (mli : Int32) (v1 : Int32) (v3 : Int32) : Nat → (Nat → Int32) → (Nat → Int32) → Int32 → (Nat → Int32) → (Nat → Int32) → (Nat → Int32) → (Nat → Int64) → (Nat → Int64) → Int32 → (Nat → Int32) → Int32 → Int32 → Int32 → Option ((Nat → Int32) × (Nat → Int32) × Int32 × (Nat → Int32) × (Nat → Int32) × (Nat → Int32) × (Nat → Int64) × (Nat → Int64) × Int32 × (Nat → Int32) × Int32 × Int32)
  | 0, _, _, _, _, _, _, _, _, _, _, _, _, _ => none
  | n + 1, mst, mmo, mrc, mro, mrt, mrm, mrl, mrh, mgr, mgo, mfr, v2, v4 => if v4 < 0 then some (mst, mmo, mrc, mro, mrt, mrm, mrl, mrh, mgr, mgo, mfr, v2) else gd (v4 < 0 ∨ 8 ≤ v4.toNatClampNeg) (ob11 (F_M_look (upd mst v4.toNatClampNeg 1) mmo mrc mro mrt mrm mrl mrh mwk mwt mwm mwl mwh mwi mwc mgr mgo mfr (-1)) (fun mst_17 mmo_18 mrc_19 mro_20 mrt_21 mrm_22 mrl_23 mrh_24 mgr_25 mgo_26 mfr_27 => ob1 (F_M_longest mst_17 mwc mwx mli) (fun r_28 => F_M_tick_L100 mwk mwt mwm mwl mwh mwi mwc mwx mli v1 v3 n mst_17 mmo_18 mrc_19 mro_20 mrt_21 mrm_22 mrl_23 mrh_24 mgr_25 mgo_26 mfr_27 (v2 + 1) r_28)))
def F_M_tick_L36 (mwk : Nat → Int32) (mwt : Nat → Int32) (mwm : Nat → Int32) (mwl : Nat → Int64) (mwh : Nat → Int64) (mwi : Nat → Int32) (mwc : Nat → Int32) (mli : Int32) (v1 : Int32) : Nat → (Nat → Int32) → (Nat → Int32) → Int32 → (Nat → Int32) → (Nat → Int32) → (Nat → Int32) → (Nat → Int64) → (Nat → Int64) → (Nat → Int32) → Int32 → (Nat → Int32) → Int32 → Int32 → Int32 → Option ((Nat → Int32) × (Nat → Int32) × Int32 × (Nat → Int32) × (Nat → Int32) × (Nat → Int32) × (Nat → Int64) × (Nat → Int64) × (Nat → Int32) × Int32 × (Nat → Int32) × Int32 × Int32)
  | 0, _, _, _, _, _, _, _, _, _, _, _, _, _, _ => none
  | n + 1, mst, mmo, mrc, mro, mrt, mrm, mrl, mrh, mwx, mgr, mgo, mfr, v2, v3 => if v1 ≤ v3 then some (mst, mmo, mrc, mro, mrt, mrm, mrl, mrh, mwx, mgr, mgo, mfr, v2) else ob1 (F_M_tick_L44 mst v1 v2 v3 fu mwx 0) (fun mwx_13 => ob1 (F_M_longest mst mwc mwx_13 mli) (fun r_14 => ob12 (F_M_tick_L100 mwk mwt mwm mwl mwh mwi mwc mwx_13 mli v1 v3 fu mst mmo mrc mro mrt mrm mrl mrh mgr mgo mfr v2 r_14) (fun mst_29 mmo_30 mrc_31 mro_32 mrt_33 mrm_34 mrl_35 mrh_36 mgr_37 mgo_38 mfr_39 v2_40 => F_M_tick_L36 mwk mwt mwm mwl mwh mwi mwc mli v1 n mst_29 mmo_30 mrc_31 mro_32 mrt_33 mrm_34 mrl_35 mrh_36 mwx_13 mgr_37 mgo_38 mfr_39 v2_40 (v3 + 1))))
def F_M_tick (mth : Int32) (mst : Nat → Int32) (mmo : Nat → Int32) (mrc : Int32) (mro : Nat → Int32) (mrt : Nat → Int32) (mrm : Nat → Int32) (mrl : Nat → Int64) (mrh : Nat → Int64) (mwk : Nat → Int32) (mwt : Nat → Int32) (mwm : Nat → Int32) (mwl : Nat → Int64) (mwh : Nat → Int64) (mwi : Nat → Int32) (mwc : Nat → Int32) (mwx : Nat → Int32) (mli : Int32) (mgr : Int32) (mgo : Nat → Int32) (mfr : Int32) (a1 : Int32) : Option (Int32 × Int32 × (Nat → Int32) × (Nat → Int32) × Int32 × (Nat → Int32) × (Nat → Int32) × (Nat → Int32) × (Nat → Int64) × (Nat → Int64) × (Nat → Int32) × Int32 × (Nat → Int32) × Int32) :=
  jn1 (fun (s_1 : Int32) => ob2 (F_M_refused mth s_1 0 0) (fun r_2 mth_3 => if r_2 = 0 then ob13 (F_M_tick_L36 mwk mwt mwm mwl mwh mwi mwc mli a1 fu mst mmo mrc mro mrt mrm mrl mrh mwx 0 mgo mfr 0 0) (fun mst_41 mmo_42 mrc_43 mro_44 mrt_45 mrm_46 mrl_47 mrh_48 mwx_49 mgr_50 mgo_51 mfr_52 v2_53 => some (v2_53, mth_3, mst_41, mmo_42, mrc_43, mro_44, mrt_45, mrm_46, mrl_47, mrh_48, mwx_49, mgr_50, mgo_51, mfr_52)) else some (0, mth_3, mst, mmo, mrc, mro, mrt, mrm, mrl, mrh, mwx, mgr, mgo, mfr))) (fun J17 => jn0 (J17 1) (fun J12 => if a1 < 0 then J12  else if a1 ≤ 1000 then J17 0 else J12 ))
set_option maxHeartbeats 4000000 in
set_option maxRecDepth 100000 in
theorem t_M_tick_L44 {p : Program} {l : Launch} {e : Env} {s : State} {m : MethodId} {args : Array Value} {below : List Frame} {meth : Method} {c : Code} {A : Nat → Prop} {g : va_G} {cI cJ cZ : ClassId} {ad : Nat → Nat} {rest : va_W} (K : kX p s m args meth c "LockTableModel" prog_6_method_45_code 5 (some .int) A g (kty cI cJ cZ)) {Q : State → Prop} (mth : Int32) (mst : Nat → Int32) (mse : Nat → Int32) (mla : Int32) (mmo : Nat → Int32) (mrc : Int32) (mro : Nat → Int32) (mrt : Nat → Int32) (mrm : Nat → Int32) (mrl : Nat → Int64) (mrh : Nat → Int64) (mwk : Nat → Int32) (mwt : Nat → Int32) (mwm : Nat → Int32) (mwl : Nat → Int64) (mwh : Nat → Int64) (mwi : Nat → Int32) (mwc : Nat → Int32) (mar : Int32) (mli : Int32) (mgr : Int32) (mgo : Nat → Int32) (mre : Nat → Int32) (mfr : Int32) (v1 : Int32) (v2 : Int32) (v3 : Int32) : ∀ (n : Nat) (mwx : Nat → Int32) (v4 : Int32) (o_mwx : Nat → Int32) (H : Heap) (locs : List Loc) (ls : Array Slot), F_M_tick_L44 mst v1 v2 v3 n mwx v4 = some o_mwx → va_P g kcl (wM cI cJ cZ ad mth mst mse mla mmo mrc mro mrt mrm mrl mrh mwk mwt mwm mwl mwh mwi mwc mwx mar mli mgr mgo mre mfr rest) H → va_D A (wM cI cJ cZ ad mth mst mse mla mmo mrc mro mrt mrm mrl mrh mwk mwt mwm mwl mwh mwi mwc mwx mar mli mgr mgo mre mfr rest) → va_S A s.heap H locs → lv_has ls 5 [(0, .ref (ad 0)), (1, .int v1), (2, .int v2), (3, .int v3), (4, .int v4)] → (∀ (H : Heap) (locs : List Loc) (ls : Array Slot), va_P g kcl (wM cI cJ cZ ad mth mst mse mla mmo mrc mro mrt mrm mrl mrh mwk mwt mwm mwl mwh mwi mwc o_mwx mar mli mgr mgo mre mfr rest) H → va_D A (wM cI cJ cZ ad mth mst mse mla mmo mrc mro mrt mrm mrl mrh mwk mwt mwm mwl mwh mwi mwc o_mwx mar mli mgr mgo mre mfr rest) → va_S A s.heap H locs → lv_has ls 5 [(0, .ref (ad 0)), (1, .int v1), (2, .int v2), (3, .int v3)] → W p l e ({ frames := 6, cells := 0, slots := 0, locals := 140 }) s m args below meth c H locs 0 0 Q (F0 m 94 ls [])) → W p l e ({ frames := 6, cells := 0, slots := 0, locals := 140 }) s m args below meth c H locs 0 0 Q (F0 m 44 ls []) := by
  obtain ⟨hx, hb, hr, hml, hown, hts, hlocks, hK, hA, hE⟩ := id K
  intro n
  induction n with
  | zero =>
    intro mwx v4 o_mwx H locs ls hF
    rw [F_M_tick_L44] at hF
    cases hF
  | succ n ih =>
    intro mwx v4 o_mwx H locs ls hF hP hD hS hl hQ
    rw [F_M_tick_L44] at hF
    refine lv_iload hx hb d_M_tick_44 (lv_at hl 4 rfl) ?_
    refine lv_bipush (v := 8) hx hb d_M_tick_46 (by decide) ?_
    refine lv_icmp_ge (tgt := 94) hx hb d_M_tick_48 (by decide) (fun hc_6 => ?_) (fun hc_6 => ?_)
    · have hF := it_t hF hc_6
      cases hF
      exact hQ H locs ls hP hD hS (lv_sub hl [0, 1, 2, 3] rfl)
    · have hF := it_f hF hc_6
      refine lv_aload_n hx hb d_M_tick_51 rfl (lv_at hl 0 rfl) ?_
      refine va_get (D := g) (ci := 3) (v := .ref (ad 16)) (C := kR3) (T := kT3) (N := 25) hx hb hts kw3 hown hK hP 0 rfl rfl 18 (by decide) (hts _ wm_689) (fun _ h9 => h9) rfl d_M_tick_52 ?_
      refine lv_iload hx hb d_M_tick_55 (lv_at hl 4 rfl) ?_
      refine lv_aload_n hx hb d_M_tick_57 rfl (lv_at hl 0 rfl) ?_
      refine va_get (D := g) (ci := 3) (v := .ref (ad 1)) (C := kR3) (T := kT3) (N := 25) hx hb hts kw3 hown hK hP 0 rfl rfl 1 (by decide) (hts _ wm_672) (fun _ h9 => h9) rfl d_M_tick_58 ?_
      refine lv_iload hx hb d_M_tick_61 (lv_at hl 4 rfl) ?_
      obtain ⟨hg_7, hF⟩ := gd_inv hF
      refine va_iald hx hb hK hP 1 0 rfl rfl hg_7 d_M_tick_63 ?_
      refine lv_iconst (v := 2) hx hb d_M_tick_64 (by decide) ?_
      refine lv_icmp_ne (tgt := 80) hx hb d_M_tick_65 (by decide) (fun hc_8 => ?_) (fun hc_8 => ?_)
      · have hF := it_f hF hc_8
        refine lv_aload_n hx hb d_M_tick_80 rfl (lv_at hl 0 rfl) ?_
        refine va_get (D := g) (ci := 3) (v := .ref (ad 16)) (C := kR3) (T := kT3) (N := 25) hx hb hts kw3 hown hK hP 0 rfl rfl 18 (by decide) (hts _ wm_689) (fun _ h9 => h9) rfl d_M_tick_81 ?_
        refine lv_iload hx hb d_M_tick_84 (lv_at hl 4 rfl) ?_
        obtain ⟨hg_9, hF⟩ := gd_inv hF
        refine va_iald hx hb hK hP 16 0 rfl rfl hg_9 d_M_tick_86 ?_
        obtain ⟨hg_10, hF⟩ := gd_inv hF
        refine va_iast hx hb hK hP hD hS 16 0 rfl rfl hg_10 d_M_tick_87 (fun H locs hP hD hS => ?_)
        have hP : va_P g kcl (wM cI cJ cZ ad mth mst mse mla mmo mrc mro mrt mrm mrl mrh mwk mwt mwm mwl mwh mwi mwc (upd mwx v4.toNatClampNeg (mwx v4.toNatClampNeg)) mar mli mgr mgo mre mfr rest) H := hP
        have hD : va_D A (wM cI cJ cZ ad mth mst mse mla mmo mrc mro mrt mrm mrl mrh mwk mwt mwm mwl mwh mwi mwc (upd mwx v4.toNatClampNeg (mwx v4.toNatClampNeg)) mar mli mgr mgo mre mfr rest) := hD
        refine lv_iinc (v := v4 + 1) (lv' := [(4, .int (v4 + 1)), (0, .ref (ad 0)), (1, .int v1), (2, .int v2), (3, .int v3)]) hx hb d_M_tick_88 hl (k := 4) rfl rfl (by decide) rfl (fun ls hl => ?_)
        refine lv_goto (tgt := 44) hx hb d_M_tick_91 (by decide) ?_
        exact ih _ _ _ H locs ls hF hP hD hS (lv_sub hl [1, 2, 3, 4, 0] rfl) hQ
      · have hF := it_t hF hc_8
        refine lv_aload_n hx hb d_M_tick_68 rfl (lv_at hl 0 rfl) ?_
        refine va_get (D := g) (ci := 3) (v := .ref (ad 16)) (C := kR3) (T := kT3) (N := 25) hx hb hts kw3 hown hK hP 0 rfl rfl 18 (by decide) (hts _ wm_689) (fun _ h9 => h9) rfl d_M_tick_69 ?_
        refine lv_iload hx hb d_M_tick_72 (lv_at hl 4 rfl) ?_
        obtain ⟨hg_11, hF⟩ := gd_inv hF
        refine va_iald hx hb hK hP 16 0 rfl rfl hg_11 d_M_tick_74 ?_
        refine lv_iconst (v := 1) hx hb d_M_tick_75 (by decide) ?_
        refine lv_iadd hx hb d_M_tick_76 ?_
        refine lv_goto (tgt := 87) hx hb d_M_tick_77 (by decide) ?_
        obtain ⟨hg_12, hF⟩ := gd_inv hF
        refine va_iast hx hb hK hP hD hS 16 0 rfl rfl hg_12 d_M_tick_87 (fun H locs hP hD hS => ?_)
        have hP : va_P g kcl (wM cI cJ cZ ad mth mst mse mla mmo mrc mro mrt mrm mrl mrh mwk mwt mwm mwl mwh mwi mwc (upd mwx v4.toNatClampNeg ((mwx v4.toNatClampNeg) + 1)) mar mli mgr mgo mre mfr rest) H := hP
        have hD : va_D A (wM cI cJ cZ ad mth mst mse mla mmo mrc mro mrt mrm mrl mrh mwk mwt mwm mwl mwh mwi mwc (upd mwx v4.toNatClampNeg ((mwx v4.toNatClampNeg) + 1)) mar mli mgr mgo mre mfr rest) := hD
        refine lv_iinc (v := v4 + 1) (lv' := [(4, .int (v4 + 1)), (0, .ref (ad 0)), (1, .int v1), (2, .int v2), (3, .int v3)]) hx hb d_M_tick_88 hl (k := 4) rfl rfl (by decide) rfl (fun ls hl => ?_)
        refine lv_goto (tgt := 44) hx hb d_M_tick_91 (by decide) ?_
        exact ih _ _ _ H locs ls hF hP hD hS (lv_sub hl [1, 2, 3, 4, 0] rfl) hQ
set_option maxHeartbeats 4000000 in
set_option maxRecDepth 100000 in
theorem t_M_tick_L100 {p : Program} {l : Launch} {e : Env} {s : State} {m : MethodId} {args : Array Value} {below : List Frame} {meth : Method} {c : Code} {A : Nat → Prop} {g : va_G} {cI cJ cZ : ClassId} {ad : Nat → Nat} {rest : va_W} (K : kX p s m args meth c "LockTableModel" prog_6_method_45_code 5 (some .int) A g (kty cI cJ cZ)) {Q : State → Prop} (mth : Int32) (mse : Nat → Int32) (mla : Int32) (mwk : Nat → Int32) (mwt : Nat → Int32) (mwm : Nat → Int32) (mwl : Nat → Int64) (mwh : Nat → Int64) (mwi : Nat → Int32) (mwc : Nat → Int32) (mwx : Nat → Int32) (mar : Int32) (mli : Int32) (mre : Nat → Int32) (v1 : Int32) (v3 : Int32) : ∀ (n : Nat) (mst : Nat → Int32) (mmo : Nat → Int32) (mrc : Int32) (mro : Nat → Int32) (mrt : Nat → Int32) (mrm : Nat → Int32) (mrl : Nat → Int64) (mrh : Nat → Int64) (mgr : Int32) (mgo : Nat → Int32) (mfr : Int32) (v2 : Int32) (v4 : Int32) (o_mst : Nat → Int32) (o_mmo : Nat → Int32) (o_mrc : Int32) (o_mro : Nat → Int32) (o_mrt : Nat → Int32) (o_mrm : Nat → Int32) (o_mrl : Nat → Int64) (o_mrh : Nat → Int64) (o_mgr : Int32) (o_mgo : Nat → Int32) (o_mfr : Int32) (o_v2 : Int32) (H : Heap) (locs : List Loc) (ls : Array Slot), F_M_tick_L100 mwk mwt mwm mwl mwh mwi mwc mwx mli v1 v3 n mst mmo mrc mro mrt mrm mrl mrh mgr mgo mfr v2 v4 = some (o_mst, o_mmo, o_mrc, o_mro, o_mrt, o_mrm, o_mrl, o_mrh, o_mgr, o_mgo, o_mfr, o_v2) → va_P g kcl (wM cI cJ cZ ad mth mst mse mla mmo mrc mro mrt mrm mrl mrh mwk mwt mwm mwl mwh mwi mwc mwx mar mli mgr mgo mre mfr rest) H → va_D A (wM cI cJ cZ ad mth mst mse mla mmo mrc mro mrt mrm mrl mrh mwk mwt mwm mwl mwh mwi mwc mwx mar mli mgr mgo mre mfr rest) → va_S A s.heap H locs → lv_has ls 5 [(0, .ref (ad 0)), (1, .int v1), (2, .int v2), (3, .int v3), (4, .int v4)] → (∀ (H : Heap) (locs : List Loc) (ls : Array Slot), va_P g kcl (wM cI cJ cZ ad mth o_mst mse mla o_mmo o_mrc o_mro o_mrt o_mrm o_mrl o_mrh mwk mwt mwm mwl mwh mwi mwc mwx mar mli o_mgr o_mgo mre o_mfr rest) H → va_D A (wM cI cJ cZ ad mth o_mst mse mla o_mmo o_mrc o_mro o_mrt o_mrm o_mrl o_mrh mwk mwt mwm mwl mwh mwi mwc mwx mar mli o_mgr o_mgo mre o_mfr rest) → va_S A s.heap H locs → lv_has ls 5 [(0, .ref (ad 0)), (1, .int v1), (2, .int o_v2), (3, .int v3)] → W p l e ({ frames := 6, cells := 0, slots := 0, locals := 140 }) s m args below meth c H locs 0 0 Q (F0 m 130 ls [])) → W p l e ({ frames := 6, cells := 0, slots := 0, locals := 140 }) s m args below meth c H locs 0 0 Q (F0 m 100 ls []) := by
  obtain ⟨hx, hb, hr, hml, hown, hts, hlocks, hK, hA, hE⟩ := id K
  intro n
  induction n with
  | zero =>
    intro mst mmo mrc mro mrt mrm mrl mrh mgr mgo mfr v2 v4 o_mst o_mmo o_mrc o_mro o_mrt o_mrm o_mrl o_mrh o_mgr o_mgo o_mfr o_v2 H locs ls hF
    rw [F_M_tick_L100] at hF
    cases hF
  | succ n ih =>
    intro mst mmo mrc mro mrt mrm mrl mrh mgr mgo mfr v2 v4 o_mst o_mmo o_mrc o_mro o_mrt o_mrm o_mrl o_mrh o_mgr o_mgo o_mfr o_v2 H locs ls hF hP hD hS hl hQ
    rw [F_M_tick_L100] at hF
    refine lv_iload hx hb d_M_tick_100 (lv_at hl 4 rfl) ?_
    refine lv_if_lt (tgt := 130) hx hb d_M_tick_102 (by decide) (fun hc_15 => ?_) (fun hc_15 => ?_)
    · have hF := it_t hF hc_15
      cases hF
      exact hQ H locs ls hP hD hS (lv_sub hl [0, 1, 2, 3] rfl)
    · have hF := it_f hF hc_15
      refine lv_aload_n hx hb d_M_tick_105 rfl (lv_at hl 0 rfl) ?_
      refine va_get (D := g) (ci := 3) (v := .ref (ad 1)) (C := kR3) (T := kT3) (N := 25) hx hb hts kw3 hown hK hP 0 rfl rfl 1 (by decide) (hts _ wm_672) (fun _ h9 => h9) rfl d_M_tick_106 ?_
      refine lv_iload hx hb d_M_tick_109 (lv_at hl 4 rfl) ?_
      refine lv_iconst (v := 1) hx hb d_M_tick_111 (by decide) ?_
      obtain ⟨hg_16, hF⟩ := gd_inv hF
      refine va_iast hx hb hK hP hD hS 1 0 rfl rfl hg_16 d_M_tick_112 (fun H locs hP hD hS => ?_)
      have hP : va_P g kcl (wM cI cJ cZ ad mth (upd mst v4.toNatClampNeg 1) mse mla mmo mrc mro mrt mrm mrl mrh mwk mwt mwm mwl mwh mwi mwc mwx mar mli mgr mgo mre mfr rest) H := hP
      have hD : va_D A (wM cI cJ cZ ad mth (upd mst v4.toNatClampNeg 1) mse mla mmo mrc mro mrt mrm mrl mrh mwk mwt mwm mwl mwh mwi mwc mwx mar mli mgr mgo mre mfr rest) := hD
      refine lv_iinc (v := v2 + 1) (lv' := [(2, .int (v2 + 1)), (0, .ref (ad 0)), (1, .int v1), (3, .int v3), (4, .int v4)]) hx hb d_M_tick_113 hl (k := 2) rfl rfl (by decide) rfl (fun ls hl => ?_)
      refine lv_aload_n hx hb d_M_tick_116 rfl (lv_at hl 1 rfl) ?_
      refine lv_iconst (v := (-1)) hx hb d_M_tick_117 (by decide) ?_
      obtain ⟨mst_17, mmo_18, mrc_19, mro_20, mrt_21, mrm_22, mrl_23, mrh_24, mgr_25, mgo_26, mfr_27, hG, hF⟩ := ob11_inv hF
      refine kcv K hP hD hS (c_M_look l g cI cJ cZ ad mth (upd mst v4.toNatClampNeg 1) mse mla mmo mrc mro mrt mrm mrl mrh mwk mwt mwm mwl mwh mwi mwc mwx mar mli mgr mgo mre mfr rest (-1) mst_17 mmo_18 mrc_19 mro_20 mrt_21 mrm_22 mrl_23 mrh_24 mgr_25 mgo_26 mfr_27 hG) wm_835 wm_832 wm_834 wm_33 wm_50 hd_M_look rfl rfl ⟨Nat.le_of_ble_eq_true rfl, Nat.le_of_ble_eq_true rfl⟩ ⟨Nat.zero_le _, Nat.zero_le _⟩ 3 0 rfl rfl rfl hl.1 (rest := []) rfl (Nat.le_of_ble_eq_true rfl) d_M_tick_118 (fun H locs hP hD hS => ?_)
      refine lv_aload_n hx hb d_M_tick_121 rfl (lv_at hl 1 rfl) ?_
      obtain ⟨r_28, hG, hF⟩ := ob1_inv hF
      refine kci K hP hD hS (c_M_longest l g cI cJ cZ ad mth mst_17 mse mla mmo_18 mrc_19 mro_20 mrt_21 mrm_22 mrl_23 mrh_24 mwk mwt mwm mwl mwh mwi mwc mwx mar mli mgr_25 mgo_26 mre mfr_27 rest  r_28 hG) wm_917 wm_914 wm_916 wm_44 wm_50 hd_M_longest rfl rfl ⟨Nat.le_of_ble_eq_true rfl, Nat.le_of_ble_eq_true rfl⟩ ⟨Nat.zero_le _, Nat.zero_le _⟩ 3 0 rfl rfl rfl hl.1 (rest := []) rfl (Nat.le_of_ble_eq_true rfl) d_M_tick_122 (fun H locs hP hD hS => ?_)
      refine lv_istore (lv' := [(4, .int r_28), (2, .int (v2 + 1)), (0, .ref (ad 0)), (1, .int v1), (3, .int v3)]) hx hb d_M_tick_125 hl (by decide) rfl (fun ls hl => ?_)
      refine lv_goto (tgt := 100) hx hb d_M_tick_127 (by decide) ?_
      exact ih _ _ _ _ _ _ _ _ _ _ _ _ _ _ _ _ _ _ _ _ _ _ _ _ _ H locs ls hF hP hD hS (lv_sub hl [2, 3, 1, 4, 0] rfl) hQ
set_option maxHeartbeats 4000000 in
set_option maxRecDepth 100000 in
theorem t_M_tick_L36 {p : Program} {l : Launch} {e : Env} {s : State} {m : MethodId} {args : Array Value} {below : List Frame} {meth : Method} {c : Code} {A : Nat → Prop} {g : va_G} {cI cJ cZ : ClassId} {ad : Nat → Nat} {rest : va_W} (K : kX p s m args meth c "LockTableModel" prog_6_method_45_code 5 (some .int) A g (kty cI cJ cZ)) {Q : State → Prop} (mth : Int32) (mse : Nat → Int32) (mla : Int32) (mwk : Nat → Int32) (mwt : Nat → Int32) (mwm : Nat → Int32) (mwl : Nat → Int64) (mwh : Nat → Int64) (mwi : Nat → Int32) (mwc : Nat → Int32) (mar : Int32) (mli : Int32) (mre : Nat → Int32) (v1 : Int32) : ∀ (n : Nat) (mst : Nat → Int32) (mmo : Nat → Int32) (mrc : Int32) (mro : Nat → Int32) (mrt : Nat → Int32) (mrm : Nat → Int32) (mrl : Nat → Int64) (mrh : Nat → Int64) (mwx : Nat → Int32) (mgr : Int32) (mgo : Nat → Int32) (mfr : Int32) (v2 : Int32) (v3 : Int32) (o_mst : Nat → Int32) (o_mmo : Nat → Int32) (o_mrc : Int32) (o_mro : Nat → Int32) (o_mrt : Nat → Int32) (o_mrm : Nat → Int32) (o_mrl : Nat → Int64) (o_mrh : Nat → Int64) (o_mwx : Nat → Int32) (o_mgr : Int32) (o_mgo : Nat → Int32) (o_mfr : Int32) (o_v2 : Int32) (H : Heap) (locs : List Loc) (ls : Array Slot), F_M_tick_L36 mwk mwt mwm mwl mwh mwi mwc mli v1 n mst mmo mrc mro mrt mrm mrl mrh mwx mgr mgo mfr v2 v3 = some (o_mst, o_mmo, o_mrc, o_mro, o_mrt, o_mrm, o_mrl, o_mrh, o_mwx, o_mgr, o_mgo, o_mfr, o_v2) → va_P g kcl (wM cI cJ cZ ad mth mst mse mla mmo mrc mro mrt mrm mrl mrh mwk mwt mwm mwl mwh mwi mwc mwx mar mli mgr mgo mre mfr rest) H → va_D A (wM cI cJ cZ ad mth mst mse mla mmo mrc mro mrt mrm mrl mrh mwk mwt mwm mwl mwh mwi mwc mwx mar mli mgr mgo mre mfr rest) → va_S A s.heap H locs → lv_has ls 5 [(0, .ref (ad 0)), (1, .int v1), (2, .int v2), (3, .int v3)] → (∀ (H : Heap) (locs : List Loc) (ls : Array Slot), va_P g kcl (wM cI cJ cZ ad mth o_mst mse mla o_mmo o_mrc o_mro o_mrt o_mrm o_mrl o_mrh mwk mwt mwm mwl mwh mwi mwc o_mwx mar mli o_mgr o_mgo mre o_mfr rest) H → va_D A (wM cI cJ cZ ad mth o_mst mse mla o_mmo o_mrc o_mro o_mrt o_mrm o_mrl o_mrh mwk mwt mwm mwl mwh mwi mwc o_mwx mar mli o_mgr o_mgo mre o_mfr rest) → va_S A s.heap H locs → lv_has ls 5 [(2, .int o_v2)] → W p l e ({ frames := 6, cells := 0, slots := 0, locals := 140 }) s m args below meth c H locs 0 0 Q (F0 m 136 ls [])) → W p l e ({ frames := 6, cells := 0, slots := 0, locals := 140 }) s m args below meth c H locs 0 0 Q (F0 m 36 ls []) := by
  obtain ⟨hx, hb, hr, hml, hown, hts, hlocks, hK, hA, hE⟩ := id K
  intro n
  induction n with
  | zero =>
    intro mst mmo mrc mro mrt mrm mrl mrh mwx mgr mgo mfr v2 v3 o_mst o_mmo o_mrc o_mro o_mrt o_mrm o_mrl o_mrh o_mwx o_mgr o_mgo o_mfr o_v2 H locs ls hF
    rw [F_M_tick_L36] at hF
    cases hF
  | succ n ih =>
    intro mst mmo mrc mro mrt mrm mrl mrh mwx mgr mgo mfr v2 v3 o_mst o_mmo o_mrc o_mro o_mrt o_mrm o_mrl o_mrh o_mwx o_mgr o_mgo o_mfr o_v2 H locs ls hF hP hD hS hl hQ
    rw [F_M_tick_L36] at hF
    refine lv_iload_n hx hb d_M_tick_36 rfl (lv_at hl 3 rfl) ?_
    refine lv_iload_n hx hb d_M_tick_37 rfl (lv_at hl 1 rfl) ?_
    refine lv_icmp_ge (tgt := 136) hx hb d_M_tick_38 (by decide) (fun hc_5 => ?_) (fun hc_5 => ?_)
    · have hF := it_t hF hc_5
      cases hF
      exact hQ H locs ls hP hD hS (lv_sub hl [2] rfl)
    · have hF := it_f hF hc_5
      refine lv_iconst (v := 0) hx hb d_M_tick_41 (by decide) ?_
      refine lv_istore (lv' := [(4, .int 0), (0, .ref (ad 0)), (1, .int v1), (2, .int v2), (3, .int v3)]) hx hb d_M_tick_42 hl (by decide) rfl (fun ls hl => ?_)
      obtain ⟨mwx_13, hG, hF⟩ := ob1_inv hF
      refine t_M_tick_L44 K mth mst mse mla mmo mrc mro mrt mrm mrl mrh mwk mwt mwm mwl mwh mwi mwc mar mli mgr mgo mre mfr v1 v2 v3 fu _ _ _ H locs ls hG hP hD hS (lv_sub hl [1, 2, 3, 4, 0] rfl) (fun H locs ls hP hD hS hl => ?_)
      refine lv_aload_n hx hb d_M_tick_94 rfl (lv_at hl 0 rfl) ?_
      obtain ⟨r_14, hG, hF⟩ := ob1_inv hF
      refine kci K hP hD hS (c_M_longest l g cI cJ cZ ad mth mst mse mla mmo mrc mro mrt mrm mrl mrh mwk mwt mwm mwl mwh mwi mwc mwx_13 mar mli mgr mgo mre mfr rest  r_14 hG) wm_917 wm_914 wm_916 wm_44 wm_50 hd_M_longest rfl rfl ⟨Nat.le_of_ble_eq_true rfl, Nat.le_of_ble_eq_true rfl⟩ ⟨Nat.zero_le _, Nat.zero_le _⟩ 3 0 rfl rfl rfl hl.1 (rest := []) rfl (Nat.le_of_ble_eq_true rfl) d_M_tick_95 (fun H locs hP hD hS => ?_)
      refine lv_istore (lv' := [(4, .int r_14), (0, .ref (ad 0)), (1, .int v1), (2, .int v2), (3, .int v3)]) hx hb d_M_tick_98 hl (by decide) rfl (fun ls hl => ?_)
      obtain ⟨mst_29, mmo_30, mrc_31, mro_32, mrt_33, mrm_34, mrl_35, mrh_36, mgr_37, mgo_38, mfr_39, v2_40, hG, hF⟩ := ob12_inv hF
      refine t_M_tick_L100 K mth mse mla mwk mwt mwm mwl mwh mwi mwc mwx_13 mar mli mre v1 v3 fu _ _ _ _ _ _ _ _ _ _ _ _ _ _ _ _ _ _ _ _ _ _ _ _ _ H locs ls hG hP hD hS (lv_sub hl [1, 2, 3, 4, 0] rfl) (fun H locs ls hP hD hS hl => ?_)
      refine lv_iinc (v := v3 + 1) (lv' := [(3, .int (v3 + 1)), (0, .ref (ad 0)), (1, .int v1), (2, .int v2_40)]) hx hb d_M_tick_130 hl (k := 3) rfl rfl (by decide) rfl (fun ls hl => ?_)
      refine lv_goto (tgt := 36) hx hb d_M_tick_133 (by decide) ?_
      exact ih _ _ _ _ _ _ _ _ _ _ _ _ _ _ _ _ _ _ _ _ _ _ _ _ _ _ _ H locs ls hF hP hD hS (lv_sub hl [1, 2, 3, 0] rfl) hQ
set_option maxHeartbeats 4000000 in
set_option maxRecDepth 100000 in
theorem t_M_tick {p : Program} {l : Launch} {e : Env} {s : State} {m : MethodId} {args : Array Value} {below : List Frame} {meth : Method} {c : Code} {A : Nat → Prop} {g : va_G} {cI cJ cZ : ClassId} {ad : Nat → Nat} {rest : va_W} (K : kX p s m args meth c "LockTableModel" prog_6_method_45_code 5 (some .int) A g (kty cI cJ cZ)) (mth : Int32) (mst : Nat → Int32) (mse : Nat → Int32) (mla : Int32) (mmo : Nat → Int32) (mrc : Int32) (mro : Nat → Int32) (mrt : Nat → Int32) (mrm : Nat → Int32) (mrl : Nat → Int64) (mrh : Nat → Int64) (mwk : Nat → Int32) (mwt : Nat → Int32) (mwm : Nat → Int32) (mwl : Nat → Int64) (mwh : Nat → Int64) (mwi : Nat → Int32) (mwc : Nat → Int32) (mwx : Nat → Int32) (mar : Int32) (mli : Int32) (mgr : Int32) (mgo : Nat → Int32) (mre : Nat → Int32) (mfr : Int32) (a1 : Int32) (r : Int32) (o_mth : Int32) (o_mst : Nat → Int32) (o_mmo : Nat → Int32) (o_mrc : Int32) (o_mro : Nat → Int32) (o_mrt : Nat → Int32) (o_mrm : Nat → Int32) (o_mrl : Nat → Int64) (o_mrh : Nat → Int64) (o_mwx : Nat → Int32) (o_mgr : Int32) (o_mgo : Nat → Int32) (o_mfr : Int32) (hF : F_M_tick mth mst mmo mrc mro mrt mrm mrl mrh mwk mwt mwm mwl mwh mwi mwc mwx mli mgr mgo mfr a1 = some (r, o_mth, o_mst, o_mmo, o_mrc, o_mro, o_mrt, o_mrm, o_mrl, o_mrh, o_mwx, o_mgr, o_mgo, o_mfr)) {H : Heap} {locs : List Loc} {ls : Array Slot} (hP : va_P g kcl (wM cI cJ cZ ad mth mst mse mla mmo mrc mro mrt mrm mrl mrh mwk mwt mwm mwl mwh mwi mwc mwx mar mli mgr mgo mre mfr rest) H) (hD : va_D A (wM cI cJ cZ ad mth mst mse mla mmo mrc mro mrt mrm mrl mrh mwk mwt mwm mwl mwh mwi mwc mwx mar mli mgr mgo mre mfr rest)) (hS : va_S A s.heap H locs) (hl : lv_has ls 5 [(0, .ref (ad 0)), (1, .int a1)]) : W p l e ({ frames := 6, cells := 0, slots := 0, locals := 140 }) s m args below meth c H locs 0 0 (MQ below (kQi g (kty cI cJ cZ) (wM cI cJ cZ ad o_mth o_mst mse mla o_mmo o_mrc o_mro o_mrt o_mrm o_mrl o_mrh mwk mwt mwm mwl mwh mwi mwc o_mwx mar mli o_mgr o_mgo mre o_mfr rest) A r) args s 0 0 A) (F0 m 0 ls []) := by
  obtain ⟨hx, hb, hr, hml, hown, hts, hlocks, hK, hA, hE⟩ := id K
  unfold F_M_tick at hF
  refine lv_aload_n hx hb d_M_tick_0 rfl (lv_at hl 0 rfl) ?_
  refine lv_iload_n hx hb d_M_tick_1 rfl (lv_at hl 1 rfl) ?_
  obtain ⟨J17, eJ17, hF⟩ := jn1_inv hF
  have hJ17 : ∀ (s_1 : Int32) (H : Heap) (locs : List Loc) (ls : Array Slot), J17 s_1 = some (r, o_mth, o_mst, o_mmo, o_mrc, o_mro, o_mrt, o_mrm, o_mrl, o_mrh, o_mwx, o_mgr, o_mgo, o_mfr) → va_P g kcl (wM cI cJ cZ ad mth mst mse mla mmo mrc mro mrt mrm mrl mrh mwk mwt mwm mwl mwh mwi mwc mwx mar mli mgr mgo mre mfr rest) H → va_D A (wM cI cJ cZ ad mth mst mse mla mmo mrc mro mrt mrm mrl mrh mwk mwt mwm mwl mwh mwi mwc mwx mar mli mgr mgo mre mfr rest) → va_S A s.heap H locs → lv_has ls 5 [(0, .ref (ad 0)), (1, .int a1)] → W p l e ({ frames := 6, cells := 0, slots := 0, locals := 140 }) s m args below meth c H locs 0 0 (MQ below (kQi g (kty cI cJ cZ) (wM cI cJ cZ ad o_mth o_mst mse mla o_mmo o_mrc o_mro o_mrt o_mrm o_mrl o_mrh mwk mwt mwm mwl mwh mwi mwc o_mwx mar mli o_mgr o_mgo mre o_mfr rest) A r) args s 0 0 A) (F0 m 17 ls [.int s_1, .ref (ad 0)]) := by
    intro s_1 H locs ls hF hP hD hS hl
    rw [eJ17] at hF
    refine lv_iconst (v := 0) hx hb d_M_tick_17 (by decide) ?_
    refine lv_iconst (v := 0) hx hb d_M_tick_18 (by decide) ?_
    obtain ⟨r_2, mth_3, hG, hF⟩ := ob2_inv hF
    refine kci K hP hD hS (c_M_refused l g cI cJ cZ ad mth mst mse mla mmo mrc mro mrt mrm mrl mrh mwk mwt mwm mwl mwh mwi mwc mwx mar mli mgr mgo mre mfr rest s_1 0 0 r_2 mth_3 hG) wm_761 wm_758 wm_760 wm_20 wm_50 hd_M_refused rfl rfl ⟨Nat.le_of_ble_eq_true rfl, Nat.le_of_ble_eq_true rfl⟩ ⟨Nat.zero_le _, Nat.zero_le _⟩ 3 0 rfl rfl rfl hl.1 (rest := []) rfl (Nat.le_of_ble_eq_true rfl) d_M_tick_19 (fun H locs hP hD hS => ?_)
    refine lv_if_eq (tgt := 27) hx hb d_M_tick_22 (by decide) (fun hc_4 => ?_) (fun hc_4 => ?_)
    · have hF := it_t hF hc_4
      refine lv_aload_n hx hb d_M_tick_27 rfl (lv_at hl 0 rfl) ?_
      refine lv_iconst (v := 0) hx hb d_M_tick_28 (by decide) ?_
      refine va_put (D := g) (ci := 3) (v := .int 0) (ty := .int) (C := kR3) (T := kT3) (N := 25) hx hb hts kw3 kt3 ko3 kn3 hown hK hP hD hS 0 rfl rfl 21 (by decide) (hts _ wm_692) (fun _ h9 => h9) rfl (by decide +kernel) rfl rfl (Nat.le_of_ble_eq_true rfl) d_M_tick_29 (fun H locs hP hD hS => ?_)
      have hP : va_P g kcl (wM cI cJ cZ ad mth_3 mst mse mla mmo mrc mro mrt mrm mrl mrh mwk mwt mwm mwl mwh mwi mwc mwx mar mli 0 mgo mre mfr rest) H := hP
      have hD : va_D A (wM cI cJ cZ ad mth_3 mst mse mla mmo mrc mro mrt mrm mrl mrh mwk mwt mwm mwl mwh mwi mwc mwx mar mli 0 mgo mre mfr rest) := hD
      refine lv_iconst (v := 0) hx hb d_M_tick_32 (by decide) ?_
      refine lv_istore_n (lv' := [(2, .int 0), (0, .ref (ad 0)), (1, .int a1)]) hx hb d_M_tick_33 rfl hl (by decide) rfl (fun ls hl => ?_)
      refine lv_iconst (v := 0) hx hb d_M_tick_34 (by decide) ?_
      refine lv_istore_n (lv' := [(3, .int 0), (2, .int 0), (0, .ref (ad 0)), (1, .int a1)]) hx hb d_M_tick_35 rfl hl (by decide) rfl (fun ls hl => ?_)
      obtain ⟨mst_41, mmo_42, mrc_43, mro_44, mrt_45, mrm_46, mrl_47, mrh_48, mwx_49, mgr_50, mgo_51, mfr_52, v2_53, hG, hF⟩ := ob13_inv hF
      refine t_M_tick_L36 K mth_3 mse mla mwk mwt mwm mwl mwh mwi mwc mar mli mre a1 fu _ _ _ _ _ _ _ _ _ _ _ _ _ _ _ _ _ _ _ _ _ _ _ _ _ _ _ H locs ls hG hP hD hS (lv_sub hl [2, 3, 1, 0] rfl) (fun H locs ls hP hD hS hl => ?_)
      refine lv_iload_n hx hb d_M_tick_136 rfl (lv_at hl 0 rfl) ?_
      cases hF
      exact kri K hP hD hS d_M_tick_137 rfl
    · have hF := it_f hF hc_4
      refine lv_iconst (v := 0) hx hb d_M_tick_25 (by decide) ?_
      cases hF
      exact kri K hP hD hS d_M_tick_26 rfl
  obtain ⟨J12, eJ12, hF⟩ := jn0_inv hF
  have hJ12 : ∀  (H : Heap) (locs : List Loc) (ls : Array Slot), J12  = some (r, o_mth, o_mst, o_mmo, o_mrc, o_mro, o_mrt, o_mrm, o_mrl, o_mrh, o_mwx, o_mgr, o_mgo, o_mfr) → va_P g kcl (wM cI cJ cZ ad mth mst mse mla mmo mrc mro mrt mrm mrl mrh mwk mwt mwm mwl mwh mwi mwc mwx mar mli mgr mgo mre mfr rest) H → va_D A (wM cI cJ cZ ad mth mst mse mla mmo mrc mro mrt mrm mrl mrh mwk mwt mwm mwl mwh mwi mwc mwx mar mli mgr mgo mre mfr rest) → va_S A s.heap H locs → lv_has ls 5 [(0, .ref (ad 0)), (1, .int a1)] → W p l e ({ frames := 6, cells := 0, slots := 0, locals := 140 }) s m args below meth c H locs 0 0 (MQ below (kQi g (kty cI cJ cZ) (wM cI cJ cZ ad o_mth o_mst mse mla o_mmo o_mrc o_mro o_mrt o_mrm o_mrl o_mrh mwk mwt mwm mwl mwh mwi mwc o_mwx mar mli o_mgr o_mgo mre o_mfr rest) A r) args s 0 0 A) (F0 m 12 ls [.ref (ad 0)]) := by
    intro  H locs ls hF hP hD hS hl
    rw [eJ12] at hF
    refine lv_iconst (v := 1) hx hb d_M_tick_12 (by decide) ?_
    refine lv_goto (tgt := 17) hx hb d_M_tick_13 (by decide) ?_
    exact hJ17 _ H locs ls hF hP hD hS (lv_sub hl [0, 1] rfl)
  refine lv_if_lt (tgt := 12) hx hb d_M_tick_2 (by decide) (fun hc_54 => ?_) (fun hc_54 => ?_)
  · have hF := it_t hF hc_54
    exact hJ12  H locs ls hF hP hD hS (lv_sub hl [0, 1] rfl)
  · have hF := it_f hF hc_54
    refine lv_iload_n hx hb d_M_tick_5 rfl (lv_at hl 1 rfl) ?_
    refine lv_sipush (v := 1000) hx hb d_M_tick_6 (by decide) ?_
    refine lv_icmp_le (tgt := 16) hx hb d_M_tick_9 (by decide) (fun hc_55 => ?_) (fun hc_55 => ?_)
    · have hF := it_t hF hc_55
      refine lv_iconst (v := 0) hx hb d_M_tick_16 (by decide) ?_
      exact hJ17 _ H locs ls hF hP hD hS (lv_sub hl [0, 1] rfl)
    · have hF := it_f hF hc_55
      exact hJ12  H locs ls hF hP hD hS (lv_sub hl [0, 1] rfl)
theorem c_M_tick (l : Launch) (g : va_G) (cI cJ cZ : ClassId) (ad : Nat → Nat) (mth : Int32) (mst : Nat → Int32) (mse : Nat → Int32) (mla : Int32) (mmo : Nat → Int32) (mrc : Int32) (mro : Nat → Int32) (mrt : Nat → Int32) (mrm : Nat → Int32) (mrl : Nat → Int64) (mrh : Nat → Int64) (mwk : Nat → Int32) (mwt : Nat → Int32) (mwm : Nat → Int32) (mwl : Nat → Int64) (mwh : Nat → Int64) (mwi : Nat → Int32) (mwc : Nat → Int32) (mwx : Nat → Int32) (mar : Int32) (mli : Int32) (mgr : Int32) (mgo : Nat → Int32) (mre : Nat → Int32) (mfr : Int32) (rest : va_W) (a1 : Int32) (r : Int32) (o_mth : Int32) (o_mst : Nat → Int32) (o_mmo : Nat → Int32) (o_mrc : Int32) (o_mro : Nat → Int32) (o_mrt : Nat → Int32) (o_mrm : Nat → Int32) (o_mrl : Nat → Int64) (o_mrh : Nat → Int64) (o_mwx : Nat → Int32) (o_mgr : Int32) (o_mgo : Nat → Int32) (o_mfr : Int32) (hF : F_M_tick mth mst mmo mrc mro mrt mrm mrl mrh mwk mwt mwm mwl mwh mwi mwc mwx mli mgr mgo mfr a1 = some (r, o_mth, o_mst, o_mmo, o_mrc, o_mro, o_mrt, o_mrm, o_mrl, o_mrh, o_mwx, o_mgr, o_mgo, o_mfr)) : Ci l y_M_tick prog_6_method_45_code 5 (some .int) ({ frames := 6, cells := 0, slots := 0, locals := 140 }) [.ref (ad 0), .int a1] g (kty cI cJ cZ) (wM cI cJ cZ ad mth mst mse mla mmo mrc mro mrt mrm mrl mrh mwk mwt mwm mwl mwh mwi mwc mwx mar mli mgr mgo mre mfr rest) (wM cI cJ cZ ad o_mth o_mst mse mla o_mmo o_mrc o_mro o_mrt o_mrm o_mrl o_mrh mwk mwt mwm mwl mwh mwi mwc o_mwx mar mli o_mgr o_mgo mre o_mfr rest) r :=
  Ci.of (by decide) (Nat.le_of_ble_eq_true rfl) (fun p e s m below meth c A ls K hP hD hS hl => t_M_tick K mth mst mse mla mmo mrc mro mrt mrm mrl mrh mwk mwt mwm mwl mwh mwi mwc mwx mar mli mgr mgo mre mfr a1 r o_mth o_mst o_mmo o_mrc o_mro o_mrt o_mrm o_mrl o_mrh o_mwx o_mgr o_mgo o_mfr hF hP hD hS hl)
def F_M_state (mth : Int32) (mst : Nat → Int32) (a1 : Int32) : Option (Int32 × Int32) :=
  ob1 (F_M_isOwner a1) (fun r_1 => jn1 (fun (s_2 : Int32) => ob2 (F_M_refused mth s_2 0 0) (fun r_3 mth_4 => if r_3 = 0 then gd (a1 < 0 ∨ 8 ≤ a1.toNatClampNeg) (some (mst a1.toNatClampNeg, mth_4)) else some (0, mth_4))) (fun J13 => if r_1 = 0 then J13 1 else J13 0))
set_option maxHeartbeats 4000000 in
set_option maxRecDepth 100000 in
theorem t_M_state {p : Program} {l : Launch} {e : Env} {s : State} {m : MethodId} {args : Array Value} {below : List Frame} {meth : Method} {c : Code} {A : Nat → Prop} {g : va_G} {cI cJ cZ : ClassId} {ad : Nat → Nat} {rest : va_W} (K : kX p s m args meth c "LockTableModel" prog_6_method_46_code 2 (some .int) A g (kty cI cJ cZ)) (mth : Int32) (mst : Nat → Int32) (mse : Nat → Int32) (mla : Int32) (mmo : Nat → Int32) (mrc : Int32) (mro : Nat → Int32) (mrt : Nat → Int32) (mrm : Nat → Int32) (mrl : Nat → Int64) (mrh : Nat → Int64) (mwk : Nat → Int32) (mwt : Nat → Int32) (mwm : Nat → Int32) (mwl : Nat → Int64) (mwh : Nat → Int64) (mwi : Nat → Int32) (mwc : Nat → Int32) (mwx : Nat → Int32) (mar : Int32) (mli : Int32) (mgr : Int32) (mgo : Nat → Int32) (mre : Nat → Int32) (mfr : Int32) (a1 : Int32) (r : Int32) (o_mth : Int32) (hF : F_M_state mth mst a1 = some (r, o_mth)) {H : Heap} {locs : List Loc} {ls : Array Slot} (hP : va_P g kcl (wM cI cJ cZ ad mth mst mse mla mmo mrc mro mrt mrm mrl mrh mwk mwt mwm mwl mwh mwi mwc mwx mar mli mgr mgo mre mfr rest) H) (hD : va_D A (wM cI cJ cZ ad mth mst mse mla mmo mrc mro mrt mrm mrl mrh mwk mwt mwm mwl mwh mwi mwc mwx mar mli mgr mgo mre mfr rest)) (hS : va_S A s.heap H locs) (hl : lv_has ls 2 [(0, .ref (ad 0)), (1, .int a1)]) : W p l e ({ frames := 1, cells := 0, slots := 0, locals := 23 }) s m args below meth c H locs 0 0 (MQ below (kQi g (kty cI cJ cZ) (wM cI cJ cZ ad o_mth mst mse mla mmo mrc mro mrt mrm mrl mrh mwk mwt mwm mwl mwh mwi mwc mwx mar mli mgr mgo mre mfr rest) A r) args s 0 0 A) (F0 m 0 ls []) := by
  obtain ⟨hx, hb, hr, hml, hown, hts, hlocks, hK, hA, hE⟩ := id K
  unfold F_M_state at hF
  refine lv_aload_n hx hb d_M_state_0 rfl (lv_at hl 0 rfl) ?_
  refine lv_iload_n hx hb d_M_state_1 rfl (lv_at hl 1 rfl) ?_
  obtain ⟨r_1, hG, hF⟩ := ob1_inv hF
  refine ksi K hP hD hS (c_M_isOwner l g (kty cI cJ cZ) (wM cI cJ cZ ad mth mst mse mla mmo mrc mro mrt mrm mrl mrh mwk mwt mwm mwl mwh mwi mwc mwx mar mli mgr mgo mre mfr rest) a1 r_1 hG) wm_757 wm_755 wm_756 wm_50 hd_M_isOwner rfl rfl ⟨Nat.le_of_ble_eq_true rfl, Nat.le_of_ble_eq_true rfl⟩ ⟨Nat.zero_le _, Nat.zero_le _⟩ hl.1 (rest := [.ref (ad 0)]) rfl (Nat.le_of_ble_eq_true rfl) d_M_state_2 (fun H locs hP hD hS => ?_)
  obtain ⟨J13, eJ13, hF⟩ := jn1_inv hF
  have hJ13 : ∀ (s_2 : Int32) (H : Heap) (locs : List Loc) (ls : Array Slot), J13 s_2 = some (r, o_mth) → va_P g kcl (wM cI cJ cZ ad mth mst mse mla mmo mrc mro mrt mrm mrl mrh mwk mwt mwm mwl mwh mwi mwc mwx mar mli mgr mgo mre mfr rest) H → va_D A (wM cI cJ cZ ad mth mst mse mla mmo mrc mro mrt mrm mrl mrh mwk mwt mwm mwl mwh mwi mwc mwx mar mli mgr mgo mre mfr rest) → va_S A s.heap H locs → lv_has ls 2 [(0, .ref (ad 0)), (1, .int a1)] → W p l e ({ frames := 1, cells := 0, slots := 0, locals := 23 }) s m args below meth c H locs 0 0 (MQ below (kQi g (kty cI cJ cZ) (wM cI cJ cZ ad o_mth mst mse mla mmo mrc mro mrt mrm mrl mrh mwk mwt mwm mwl mwh mwi mwc mwx mar mli mgr mgo mre mfr rest) A r) args s 0 0 A) (F0 m 13 ls [.int s_2, .ref (ad 0)]) := by
    intro s_2 H locs ls hF hP hD hS hl
    rw [eJ13] at hF
    refine lv_iconst (v := 0) hx hb d_M_state_13 (by decide) ?_
    refine lv_iconst (v := 0) hx hb d_M_state_14 (by decide) ?_
    obtain ⟨r_3, mth_4, hG, hF⟩ := ob2_inv hF
    refine kci K hP hD hS (c_M_refused l g cI cJ cZ ad mth mst mse mla mmo mrc mro mrt mrm mrl mrh mwk mwt mwm mwl mwh mwi mwc mwx mar mli mgr mgo mre mfr rest s_2 0 0 r_3 mth_4 hG) wm_761 wm_758 wm_760 wm_20 wm_50 hd_M_refused rfl rfl ⟨Nat.le_of_ble_eq_true rfl, Nat.le_of_ble_eq_true rfl⟩ ⟨Nat.zero_le _, Nat.zero_le _⟩ 3 0 rfl rfl rfl hl.1 (rest := []) rfl (Nat.le_of_ble_eq_true rfl) d_M_state_15 (fun H locs hP hD hS => ?_)
    refine lv_if_eq (tgt := 25) hx hb d_M_state_18 (by decide) (fun hc_5 => ?_) (fun hc_5 => ?_)
    · have hF := it_t hF hc_5
      refine lv_aload_n hx hb d_M_state_25 rfl (lv_at hl 0 rfl) ?_
      refine va_get (D := g) (ci := 3) (v := .ref (ad 1)) (C := kR3) (T := kT3) (N := 25) hx hb hts kw3 hown hK hP 0 rfl rfl 1 (by decide) (hts _ wm_672) (fun _ h9 => h9) rfl d_M_state_26 ?_
      refine lv_iload_n hx hb d_M_state_29 rfl (lv_at hl 1 rfl) ?_
      obtain ⟨hg_6, hF⟩ := gd_inv hF
      refine va_iald hx hb hK hP 1 0 rfl rfl hg_6 d_M_state_30 ?_
      cases hF
      exact kri K hP hD hS d_M_state_31 rfl
    · have hF := it_f hF hc_5
      refine lv_iconst (v := 0) hx hb d_M_state_21 (by decide) ?_
      refine lv_goto (tgt := 31) hx hb d_M_state_22 (by decide) ?_
      cases hF
      exact kri K hP hD hS d_M_state_31 rfl
  refine lv_if_ne (tgt := 12) hx hb d_M_state_5 (by decide) (fun hc_7 => ?_) (fun hc_7 => ?_)
  · have hF := it_f hF hc_7
    refine lv_iconst (v := 0) hx hb d_M_state_12 (by decide) ?_
    exact hJ13 _ H locs ls hF hP hD hS (lv_sub hl [0, 1] rfl)
  · have hF := it_t hF hc_7
    refine lv_iconst (v := 1) hx hb d_M_state_8 (by decide) ?_
    refine lv_goto (tgt := 13) hx hb d_M_state_9 (by decide) ?_
    exact hJ13 _ H locs ls hF hP hD hS (lv_sub hl [0, 1] rfl)
theorem c_M_state (l : Launch) (g : va_G) (cI cJ cZ : ClassId) (ad : Nat → Nat) (mth : Int32) (mst : Nat → Int32) (mse : Nat → Int32) (mla : Int32) (mmo : Nat → Int32) (mrc : Int32) (mro : Nat → Int32) (mrt : Nat → Int32) (mrm : Nat → Int32) (mrl : Nat → Int64) (mrh : Nat → Int64) (mwk : Nat → Int32) (mwt : Nat → Int32) (mwm : Nat → Int32) (mwl : Nat → Int64) (mwh : Nat → Int64) (mwi : Nat → Int32) (mwc : Nat → Int32) (mwx : Nat → Int32) (mar : Int32) (mli : Int32) (mgr : Int32) (mgo : Nat → Int32) (mre : Nat → Int32) (mfr : Int32) (rest : va_W) (a1 : Int32) (r : Int32) (o_mth : Int32) (hF : F_M_state mth mst a1 = some (r, o_mth)) : Ci l y_M_state prog_6_method_46_code 2 (some .int) ({ frames := 1, cells := 0, slots := 0, locals := 23 }) [.ref (ad 0), .int a1] g (kty cI cJ cZ) (wM cI cJ cZ ad mth mst mse mla mmo mrc mro mrt mrm mrl mrh mwk mwt mwm mwl mwh mwi mwc mwx mar mli mgr mgo mre mfr rest) (wM cI cJ cZ ad o_mth mst mse mla mmo mrc mro mrt mrm mrl mrh mwk mwt mwm mwl mwh mwi mwc mwx mar mli mgr mgo mre mfr rest) r :=
  Ci.of (by decide) (Nat.le_of_ble_eq_true rfl) (fun p e s m below meth c A ls K hP hD hS hl => t_M_state K mth mst mse mla mmo mrc mro mrt mrm mrl mrh mwk mwt mwm mwl mwh mwi mwc mwx mar mli mgr mgo mre mfr a1 r o_mth hF hP hD hS hl)
def F_M_serial (mth : Int32) (mst : Nat → Int32) (mse : Nat → Int32) (a1 : Int32) : Option (Int32 × Int32) :=
  ob1 (F_M_isOwner a1) (fun r_1 => jn1 (fun (s_2 : Int32) => ob2 (F_M_refused mth s_2 0 0) (fun r_3 mth_4 => if r_3 = 0 then gd (a1 < 0 ∨ 8 ≤ a1.toNatClampNeg) (if (mst a1.toNatClampNeg) = 0 then some ((-1), mth_4) else gd (a1 < 0 ∨ 8 ≤ a1.toNatClampNeg) (some (mse a1.toNatClampNeg, mth_4))) else some (0, mth_4))) (fun J13 => if r_1 = 0 then J13 1 else J13 0))
set_option maxHeartbeats 4000000 in
set_option maxRecDepth 100000 in
theorem t_M_serial {p : Program} {l : Launch} {e : Env} {s : State} {m : MethodId} {args : Array Value} {below : List Frame} {meth : Method} {c : Code} {A : Nat → Prop} {g : va_G} {cI cJ cZ : ClassId} {ad : Nat → Nat} {rest : va_W} (K : kX p s m args meth c "LockTableModel" prog_6_method_47_code 2 (some .int) A g (kty cI cJ cZ)) (mth : Int32) (mst : Nat → Int32) (mse : Nat → Int32) (mla : Int32) (mmo : Nat → Int32) (mrc : Int32) (mro : Nat → Int32) (mrt : Nat → Int32) (mrm : Nat → Int32) (mrl : Nat → Int64) (mrh : Nat → Int64) (mwk : Nat → Int32) (mwt : Nat → Int32) (mwm : Nat → Int32) (mwl : Nat → Int64) (mwh : Nat → Int64) (mwi : Nat → Int32) (mwc : Nat → Int32) (mwx : Nat → Int32) (mar : Int32) (mli : Int32) (mgr : Int32) (mgo : Nat → Int32) (mre : Nat → Int32) (mfr : Int32) (a1 : Int32) (r : Int32) (o_mth : Int32) (hF : F_M_serial mth mst mse a1 = some (r, o_mth)) {H : Heap} {locs : List Loc} {ls : Array Slot} (hP : va_P g kcl (wM cI cJ cZ ad mth mst mse mla mmo mrc mro mrt mrm mrl mrh mwk mwt mwm mwl mwh mwi mwc mwx mar mli mgr mgo mre mfr rest) H) (hD : va_D A (wM cI cJ cZ ad mth mst mse mla mmo mrc mro mrt mrm mrl mrh mwk mwt mwm mwl mwh mwi mwc mwx mar mli mgr mgo mre mfr rest)) (hS : va_S A s.heap H locs) (hl : lv_has ls 2 [(0, .ref (ad 0)), (1, .int a1)]) : W p l e ({ frames := 1, cells := 0, slots := 0, locals := 23 }) s m args below meth c H locs 0 0 (MQ below (kQi g (kty cI cJ cZ) (wM cI cJ cZ ad o_mth mst mse mla mmo mrc mro mrt mrm mrl mrh mwk mwt mwm mwl mwh mwi mwc mwx mar mli mgr mgo mre mfr rest) A r) args s 0 0 A) (F0 m 0 ls []) := by
  obtain ⟨hx, hb, hr, hml, hown, hts, hlocks, hK, hA, hE⟩ := id K
  unfold F_M_serial at hF
  refine lv_aload_n hx hb d_M_serial_0 rfl (lv_at hl 0 rfl) ?_
  refine lv_iload_n hx hb d_M_serial_1 rfl (lv_at hl 1 rfl) ?_
  obtain ⟨r_1, hG, hF⟩ := ob1_inv hF
  refine ksi K hP hD hS (c_M_isOwner l g (kty cI cJ cZ) (wM cI cJ cZ ad mth mst mse mla mmo mrc mro mrt mrm mrl mrh mwk mwt mwm mwl mwh mwi mwc mwx mar mli mgr mgo mre mfr rest) a1 r_1 hG) wm_757 wm_755 wm_756 wm_50 hd_M_isOwner rfl rfl ⟨Nat.le_of_ble_eq_true rfl, Nat.le_of_ble_eq_true rfl⟩ ⟨Nat.zero_le _, Nat.zero_le _⟩ hl.1 (rest := [.ref (ad 0)]) rfl (Nat.le_of_ble_eq_true rfl) d_M_serial_2 (fun H locs hP hD hS => ?_)
  obtain ⟨J13, eJ13, hF⟩ := jn1_inv hF
  have hJ13 : ∀ (s_2 : Int32) (H : Heap) (locs : List Loc) (ls : Array Slot), J13 s_2 = some (r, o_mth) → va_P g kcl (wM cI cJ cZ ad mth mst mse mla mmo mrc mro mrt mrm mrl mrh mwk mwt mwm mwl mwh mwi mwc mwx mar mli mgr mgo mre mfr rest) H → va_D A (wM cI cJ cZ ad mth mst mse mla mmo mrc mro mrt mrm mrl mrh mwk mwt mwm mwl mwh mwi mwc mwx mar mli mgr mgo mre mfr rest) → va_S A s.heap H locs → lv_has ls 2 [(0, .ref (ad 0)), (1, .int a1)] → W p l e ({ frames := 1, cells := 0, slots := 0, locals := 23 }) s m args below meth c H locs 0 0 (MQ below (kQi g (kty cI cJ cZ) (wM cI cJ cZ ad o_mth mst mse mla mmo mrc mro mrt mrm mrl mrh mwk mwt mwm mwl mwh mwi mwc mwx mar mli mgr mgo mre mfr rest) A r) args s 0 0 A) (F0 m 13 ls [.int s_2, .ref (ad 0)]) := by
    intro s_2 H locs ls hF hP hD hS hl
    rw [eJ13] at hF
    refine lv_iconst (v := 0) hx hb d_M_serial_13 (by decide) ?_
    refine lv_iconst (v := 0) hx hb d_M_serial_14 (by decide) ?_
    obtain ⟨r_3, mth_4, hG, hF⟩ := ob2_inv hF
    refine kci K hP hD hS (c_M_refused l g cI cJ cZ ad mth mst mse mla mmo mrc mro mrt mrm mrl mrh mwk mwt mwm mwl mwh mwi mwc mwx mar mli mgr mgo mre mfr rest s_2 0 0 r_3 mth_4 hG) wm_761 wm_758 wm_760 wm_20 wm_50 hd_M_refused rfl rfl ⟨Nat.le_of_ble_eq_true rfl, Nat.le_of_ble_eq_true rfl⟩ ⟨Nat.zero_le _, Nat.zero_le _⟩ 3 0 rfl rfl rfl hl.1 (rest := []) rfl (Nat.le_of_ble_eq_true rfl) d_M_serial_15 (fun H locs hP hD hS => ?_)
    refine lv_if_eq (tgt := 25) hx hb d_M_serial_18 (by decide) (fun hc_5 => ?_) (fun hc_5 => ?_)
    · have hF := it_t hF hc_5
      refine lv_aload_n hx hb d_M_serial_25 rfl (lv_at hl 0 rfl) ?_
      refine va_get (D := g) (ci := 3) (v := .ref (ad 1)) (C := kR3) (T := kT3) (N := 25) hx hb hts kw3 hown hK hP 0 rfl rfl 1 (by decide) (hts _ wm_672) (fun _ h9 => h9) rfl d_M_serial_26 ?_
      refine lv_iload_n hx hb d_M_serial_29 rfl (lv_at hl 1 rfl) ?_
      obtain ⟨hg_6, hF⟩ := gd_inv hF
      refine va_iald hx hb hK hP 1 0 rfl rfl hg_6 d_M_serial_30 ?_
      refine lv_if_ne (tgt := 38) hx hb d_M_serial_31 (by decide) (fun hc_7 => ?_) (fun hc_7 => ?_)
      · have hF := it_f hF hc_7
        refine lv_aload_n hx hb d_M_serial_38 rfl (lv_at hl 0 rfl) ?_
        refine va_get (D := g) (ci := 3) (v := .ref (ad 2)) (C := kR3) (T := kT3) (N := 25) hx hb hts kw3 hown hK hP 0 rfl rfl 2 (by decide) (hts _ wm_673) (fun _ h9 => h9) rfl d_M_serial_39 ?_
        refine lv_iload_n hx hb d_M_serial_42 rfl (lv_at hl 1 rfl) ?_
        obtain ⟨hg_8, hF⟩ := gd_inv hF
        refine va_iald hx hb hK hP 2 0 rfl rfl hg_8 d_M_serial_43 ?_
        cases hF
        exact kri K hP hD hS d_M_serial_44 rfl
      · have hF := it_t hF hc_7
        refine lv_iconst (v := (-1)) hx hb d_M_serial_34 (by decide) ?_
        refine lv_goto (tgt := 44) hx hb d_M_serial_35 (by decide) ?_
        cases hF
        exact kri K hP hD hS d_M_serial_44 rfl
    · have hF := it_f hF hc_5
      refine lv_iconst (v := 0) hx hb d_M_serial_21 (by decide) ?_
      refine lv_goto (tgt := 44) hx hb d_M_serial_22 (by decide) ?_
      cases hF
      exact kri K hP hD hS d_M_serial_44 rfl
  refine lv_if_ne (tgt := 12) hx hb d_M_serial_5 (by decide) (fun hc_9 => ?_) (fun hc_9 => ?_)
  · have hF := it_f hF hc_9
    refine lv_iconst (v := 0) hx hb d_M_serial_12 (by decide) ?_
    exact hJ13 _ H locs ls hF hP hD hS (lv_sub hl [0, 1] rfl)
  · have hF := it_t hF hc_9
    refine lv_iconst (v := 1) hx hb d_M_serial_8 (by decide) ?_
    refine lv_goto (tgt := 13) hx hb d_M_serial_9 (by decide) ?_
    exact hJ13 _ H locs ls hF hP hD hS (lv_sub hl [0, 1] rfl)
theorem c_M_serial (l : Launch) (g : va_G) (cI cJ cZ : ClassId) (ad : Nat → Nat) (mth : Int32) (mst : Nat → Int32) (mse : Nat → Int32) (mla : Int32) (mmo : Nat → Int32) (mrc : Int32) (mro : Nat → Int32) (mrt : Nat → Int32) (mrm : Nat → Int32) (mrl : Nat → Int64) (mrh : Nat → Int64) (mwk : Nat → Int32) (mwt : Nat → Int32) (mwm : Nat → Int32) (mwl : Nat → Int64) (mwh : Nat → Int64) (mwi : Nat → Int32) (mwc : Nat → Int32) (mwx : Nat → Int32) (mar : Int32) (mli : Int32) (mgr : Int32) (mgo : Nat → Int32) (mre : Nat → Int32) (mfr : Int32) (rest : va_W) (a1 : Int32) (r : Int32) (o_mth : Int32) (hF : F_M_serial mth mst mse a1 = some (r, o_mth)) : Ci l y_M_serial prog_6_method_47_code 2 (some .int) ({ frames := 1, cells := 0, slots := 0, locals := 23 }) [.ref (ad 0), .int a1] g (kty cI cJ cZ) (wM cI cJ cZ ad mth mst mse mla mmo mrc mro mrt mrm mrl mrh mwk mwt mwm mwl mwh mwi mwc mwx mar mli mgr mgo mre mfr rest) (wM cI cJ cZ ad o_mth mst mse mla mmo mrc mro mrt mrm mrl mrh mwk mwt mwm mwl mwh mwi mwc mwx mar mli mgr mgo mre mfr rest) r :=
  Ci.of (by decide) (Nat.le_of_ble_eq_true rfl) (fun p e s m below meth c A ls K hP hD hS hl => t_M_serial K mth mst mse mla mmo mrc mro mrt mrm mrl mrh mwk mwt mwm mwl mwh mwi mwc mwx mar mli mgr mgo mre mfr a1 r o_mth hF hP hD hS hl)
def F_M_ranges (mth : Int32) (mrc : Int32) (mro : Nat → Int32) (mrt : Nat → Int32) (a1 : Int32) (a2 : Int32) : Option (Int32 × Int32) :=
  ob1 (F_M_isOwner a1) (fun r_1 => jn1 (fun (s_2 : Int32) => ob2 (F_M_refused mth s_2 0 0) (fun r_3 mth_4 => if r_3 = 0 then ob1 (F_M_rangesOf mrc mro mrt a1 a2) (fun r_6 => some (r_6, mth_4)) else some (0, mth_4))) (fun J20 => jn0 (J20 1) (fun J15 => if r_1 = 0 then J15  else ob1 (F_M_isTable a2) (fun r_8 => if r_8 = 0 then J15  else J20 0))))
set_option maxHeartbeats 4000000 in
set_option maxRecDepth 100000 in
theorem t_M_ranges {p : Program} {l : Launch} {e : Env} {s : State} {m : MethodId} {args : Array Value} {below : List Frame} {meth : Method} {c : Code} {A : Nat → Prop} {g : va_G} {cI cJ cZ : ClassId} {ad : Nat → Nat} {rest : va_W} (K : kX p s m args meth c "LockTableModel" prog_6_method_48_code 3 (some .int) A g (kty cI cJ cZ)) (mth : Int32) (mst : Nat → Int32) (mse : Nat → Int32) (mla : Int32) (mmo : Nat → Int32) (mrc : Int32) (mro : Nat → Int32) (mrt : Nat → Int32) (mrm : Nat → Int32) (mrl : Nat → Int64) (mrh : Nat → Int64) (mwk : Nat → Int32) (mwt : Nat → Int32) (mwm : Nat → Int32) (mwl : Nat → Int64) (mwh : Nat → Int64) (mwi : Nat → Int32) (mwc : Nat → Int32) (mwx : Nat → Int32) (mar : Int32) (mli : Int32) (mgr : Int32) (mgo : Nat → Int32) (mre : Nat → Int32) (mfr : Int32) (a1 : Int32) (a2 : Int32) (r : Int32) (o_mth : Int32) (hF : F_M_ranges mth mrc mro mrt a1 a2 = some (r, o_mth)) {H : Heap} {locs : List Loc} {ls : Array Slot} (hP : va_P g kcl (wM cI cJ cZ ad mth mst mse mla mmo mrc mro mrt mrm mrl mrh mwk mwt mwm mwl mwh mwi mwc mwx mar mli mgr mgo mre mfr rest) H) (hD : va_D A (wM cI cJ cZ ad mth mst mse mla mmo mrc mro mrt mrm mrl mrh mwk mwt mwm mwl mwh mwi mwc mwx mar mli mgr mgo mre mfr rest)) (hS : va_S A s.heap H locs) (hl : lv_has ls 3 [(0, .ref (ad 0)), (1, .int a1), (2, .int a2)]) : W p l e ({ frames := 1, cells := 0, slots := 0, locals := 24 }) s m args below meth c H locs 0 0 (MQ below (kQi g (kty cI cJ cZ) (wM cI cJ cZ ad o_mth mst mse mla mmo mrc mro mrt mrm mrl mrh mwk mwt mwm mwl mwh mwi mwc mwx mar mli mgr mgo mre mfr rest) A r) args s 0 0 A) (F0 m 0 ls []) := by
  obtain ⟨hx, hb, hr, hml, hown, hts, hlocks, hK, hA, hE⟩ := id K
  unfold F_M_ranges at hF
  refine lv_aload_n hx hb d_M_ranges_0 rfl (lv_at hl 0 rfl) ?_
  refine lv_iload_n hx hb d_M_ranges_1 rfl (lv_at hl 1 rfl) ?_
  obtain ⟨r_1, hG, hF⟩ := ob1_inv hF
  refine ksi K hP hD hS (c_M_isOwner l g (kty cI cJ cZ) (wM cI cJ cZ ad mth mst mse mla mmo mrc mro mrt mrm mrl mrh mwk mwt mwm mwl mwh mwi mwc mwx mar mli mgr mgo mre mfr rest) a1 r_1 hG) wm_757 wm_755 wm_756 wm_50 hd_M_isOwner rfl rfl ⟨Nat.le_of_ble_eq_true rfl, Nat.le_of_ble_eq_true rfl⟩ ⟨Nat.zero_le _, Nat.zero_le _⟩ hl.1 (rest := [.ref (ad 0)]) rfl (Nat.le_of_ble_eq_true rfl) d_M_ranges_2 (fun H locs hP hD hS => ?_)
  obtain ⟨J20, eJ20, hF⟩ := jn1_inv hF
  have hJ20 : ∀ (s_2 : Int32) (H : Heap) (locs : List Loc) (ls : Array Slot), J20 s_2 = some (r, o_mth) → va_P g kcl (wM cI cJ cZ ad mth mst mse mla mmo mrc mro mrt mrm mrl mrh mwk mwt mwm mwl mwh mwi mwc mwx mar mli mgr mgo mre mfr rest) H → va_D A (wM cI cJ cZ ad mth mst mse mla mmo mrc mro mrt mrm mrl mrh mwk mwt mwm mwl mwh mwi mwc mwx mar mli mgr mgo mre mfr rest) → va_S A s.heap H locs → lv_has ls 3 [(0, .ref (ad 0)), (1, .int a1), (2, .int a2)] → W p l e ({ frames := 1, cells := 0, slots := 0, locals := 24 }) s m args below meth c H locs 0 0 (MQ below (kQi g (kty cI cJ cZ) (wM cI cJ cZ ad o_mth mst mse mla mmo mrc mro mrt mrm mrl mrh mwk mwt mwm mwl mwh mwi mwc mwx mar mli mgr mgo mre mfr rest) A r) args s 0 0 A) (F0 m 20 ls [.int s_2, .ref (ad 0)]) := by
    intro s_2 H locs ls hF hP hD hS hl
    rw [eJ20] at hF
    refine lv_iconst (v := 0) hx hb d_M_ranges_20 (by decide) ?_
    refine lv_iconst (v := 0) hx hb d_M_ranges_21 (by decide) ?_
    obtain ⟨r_3, mth_4, hG, hF⟩ := ob2_inv hF
    refine kci K hP hD hS (c_M_refused l g cI cJ cZ ad mth mst mse mla mmo mrc mro mrt mrm mrl mrh mwk mwt mwm mwl mwh mwi mwc mwx mar mli mgr mgo mre mfr rest s_2 0 0 r_3 mth_4 hG) wm_761 wm_758 wm_760 wm_20 wm_50 hd_M_refused rfl rfl ⟨Nat.le_of_ble_eq_true rfl, Nat.le_of_ble_eq_true rfl⟩ ⟨Nat.zero_le _, Nat.zero_le _⟩ 3 0 rfl rfl rfl hl.1 (rest := []) rfl (Nat.le_of_ble_eq_true rfl) d_M_ranges_22 (fun H locs hP hD hS => ?_)
    refine lv_if_eq (tgt := 32) hx hb d_M_ranges_25 (by decide) (fun hc_5 => ?_) (fun hc_5 => ?_)
    · have hF := it_t hF hc_5
      refine lv_aload_n hx hb d_M_ranges_32 rfl (lv_at hl 0 rfl) ?_
      refine lv_iload_n hx hb d_M_ranges_33 rfl (lv_at hl 1 rfl) ?_
      refine lv_iload_n hx hb d_M_ranges_34 rfl (lv_at hl 2 rfl) ?_
      obtain ⟨r_6, hG, hF⟩ := ob1_inv hF
      refine kci K hP hD hS (c_M_rangesOf l g cI cJ cZ ad mth_4 mst mse mla mmo mrc mro mrt mrm mrl mrh mwk mwt mwm mwl mwh mwi mwc mwx mar mli mgr mgo mre mfr rest a1 a2 r_6 hG) wm_865 wm_862 wm_864 wm_38 wm_50 hd_M_rangesOf rfl rfl ⟨Nat.le_of_ble_eq_true rfl, Nat.le_of_ble_eq_true rfl⟩ ⟨Nat.zero_le _, Nat.zero_le _⟩ 3 0 rfl rfl rfl hl.1 (rest := []) rfl (Nat.le_of_ble_eq_true rfl) d_M_ranges_35 (fun H locs hP hD hS => ?_)
      cases hF
      exact kri K hP hD hS d_M_ranges_38 rfl
    · have hF := it_f hF hc_5
      refine lv_iconst (v := 0) hx hb d_M_ranges_28 (by decide) ?_
      refine lv_goto (tgt := 38) hx hb d_M_ranges_29 (by decide) ?_
      cases hF
      exact kri K hP hD hS d_M_ranges_38 rfl
  obtain ⟨J15, eJ15, hF⟩ := jn0_inv hF
  have hJ15 : ∀  (H : Heap) (locs : List Loc) (ls : Array Slot), J15  = some (r, o_mth) → va_P g kcl (wM cI cJ cZ ad mth mst mse mla mmo mrc mro mrt mrm mrl mrh mwk mwt mwm mwl mwh mwi mwc mwx mar mli mgr mgo mre mfr rest) H → va_D A (wM cI cJ cZ ad mth mst mse mla mmo mrc mro mrt mrm mrl mrh mwk mwt mwm mwl mwh mwi mwc mwx mar mli mgr mgo mre mfr rest) → va_S A s.heap H locs → lv_has ls 3 [(0, .ref (ad 0)), (1, .int a1), (2, .int a2)] → W p l e ({ frames := 1, cells := 0, slots := 0, locals := 24 }) s m args below meth c H locs 0 0 (MQ below (kQi g (kty cI cJ cZ) (wM cI cJ cZ ad o_mth mst mse mla mmo mrc mro mrt mrm mrl mrh mwk mwt mwm mwl mwh mwi mwc mwx mar mli mgr mgo mre mfr rest) A r) args s 0 0 A) (F0 m 15 ls [.ref (ad 0)]) := by
    intro  H locs ls hF hP hD hS hl
    rw [eJ15] at hF
    refine lv_iconst (v := 1) hx hb d_M_ranges_15 (by decide) ?_
    refine lv_goto (tgt := 20) hx hb d_M_ranges_16 (by decide) ?_
    exact hJ20 _ H locs ls hF hP hD hS (lv_sub hl [0, 1, 2] rfl)
  refine lv_if_eq (tgt := 15) hx hb d_M_ranges_5 (by decide) (fun hc_7 => ?_) (fun hc_7 => ?_)
  · have hF := it_t hF hc_7
    exact hJ15  H locs ls hF hP hD hS (lv_sub hl [0, 1, 2] rfl)
  · have hF := it_f hF hc_7
    refine lv_iload_n hx hb d_M_ranges_8 rfl (lv_at hl 2 rfl) ?_
    obtain ⟨r_8, hG, hF⟩ := ob1_inv hF
    refine ksi K hP hD hS (c_M_isTable l g (kty cI cJ cZ) (wM cI cJ cZ ad mth mst mse mla mmo mrc mro mrt mrm mrl mrh mwk mwt mwm mwl mwh mwi mwc mwx mar mli mgr mgo mre mfr rest) a2 r_8 hG) wm_768 wm_766 wm_767 wm_50 hd_M_isTable rfl rfl ⟨Nat.le_of_ble_eq_true rfl, Nat.le_of_ble_eq_true rfl⟩ ⟨Nat.zero_le _, Nat.zero_le _⟩ hl.1 (rest := [.ref (ad 0)]) rfl (Nat.le_of_ble_eq_true rfl) d_M_ranges_9 (fun H locs hP hD hS => ?_)
    refine lv_if_ne (tgt := 19) hx hb d_M_ranges_12 (by decide) (fun hc_9 => ?_) (fun hc_9 => ?_)
    · have hF := it_f hF hc_9
      refine lv_iconst (v := 0) hx hb d_M_ranges_19 (by decide) ?_
      exact hJ20 _ H locs ls hF hP hD hS (lv_sub hl [0, 1, 2] rfl)
    · have hF := it_t hF hc_9
      exact hJ15  H locs ls hF hP hD hS (lv_sub hl [0, 1, 2] rfl)
theorem c_M_ranges (l : Launch) (g : va_G) (cI cJ cZ : ClassId) (ad : Nat → Nat) (mth : Int32) (mst : Nat → Int32) (mse : Nat → Int32) (mla : Int32) (mmo : Nat → Int32) (mrc : Int32) (mro : Nat → Int32) (mrt : Nat → Int32) (mrm : Nat → Int32) (mrl : Nat → Int64) (mrh : Nat → Int64) (mwk : Nat → Int32) (mwt : Nat → Int32) (mwm : Nat → Int32) (mwl : Nat → Int64) (mwh : Nat → Int64) (mwi : Nat → Int32) (mwc : Nat → Int32) (mwx : Nat → Int32) (mar : Int32) (mli : Int32) (mgr : Int32) (mgo : Nat → Int32) (mre : Nat → Int32) (mfr : Int32) (rest : va_W) (a1 : Int32) (a2 : Int32) (r : Int32) (o_mth : Int32) (hF : F_M_ranges mth mrc mro mrt a1 a2 = some (r, o_mth)) : Ci l y_M_ranges prog_6_method_48_code 3 (some .int) ({ frames := 1, cells := 0, slots := 0, locals := 24 }) [.ref (ad 0), .int a1, .int a2] g (kty cI cJ cZ) (wM cI cJ cZ ad mth mst mse mla mmo mrc mro mrt mrm mrl mrh mwk mwt mwm mwl mwh mwi mwc mwx mar mli mgr mgo mre mfr rest) (wM cI cJ cZ ad o_mth mst mse mla mmo mrc mro mrt mrm mrl mrh mwk mwt mwm mwl mwh mwi mwc mwx mar mli mgr mgo mre mfr rest) r :=
  Ci.of (by decide) (Nat.le_of_ble_eq_true rfl) (fun p e s m below meth c A ls K hP hD hS hl => t_M_ranges K mth mst mse mla mmo mrc mro mrt mrm mrl mrh mwk mwt mwm mwl mwh mwi mwc mwx mar mli mgr mgo mre mfr a1 a2 r o_mth hF hP hD hS hl)
def F_M_all (mth : Int32) (mst : Nat → Int32) (mmo : Nat → Int32) (mrc : Int32) : Option (Int32 × Int32) :=
  ob1 (F_M_counted mst mmo mrc) (fun r_1 => some (r_1, 0))
set_option maxHeartbeats 4000000 in
set_option maxRecDepth 100000 in
theorem t_M_all {p : Program} {l : Launch} {e : Env} {s : State} {m : MethodId} {args : Array Value} {below : List Frame} {meth : Method} {c : Code} {A : Nat → Prop} {g : va_G} {cI cJ cZ : ClassId} {ad : Nat → Nat} {rest : va_W} (K : kX p s m args meth c "LockTableModel" prog_6_method_50_code 1 (some .int) A g (kty cI cJ cZ)) (mth : Int32) (mst : Nat → Int32) (mse : Nat → Int32) (mla : Int32) (mmo : Nat → Int32) (mrc : Int32) (mro : Nat → Int32) (mrt : Nat → Int32) (mrm : Nat → Int32) (mrl : Nat → Int64) (mrh : Nat → Int64) (mwk : Nat → Int32) (mwt : Nat → Int32) (mwm : Nat → Int32) (mwl : Nat → Int64) (mwh : Nat → Int64) (mwi : Nat → Int32) (mwc : Nat → Int32) (mwx : Nat → Int32) (mar : Int32) (mli : Int32) (mgr : Int32) (mgo : Nat → Int32) (mre : Nat → Int32) (mfr : Int32)  (r : Int32) (o_mth : Int32) (hF : F_M_all mth mst mmo mrc = some (r, o_mth)) {H : Heap} {locs : List Loc} {ls : Array Slot} (hP : va_P g kcl (wM cI cJ cZ ad mth mst mse mla mmo mrc mro mrt mrm mrl mrh mwk mwt mwm mwl mwh mwi mwc mwx mar mli mgr mgo mre mfr rest) H) (hD : va_D A (wM cI cJ cZ ad mth mst mse mla mmo mrc mro mrt mrm mrl mrh mwk mwt mwm mwl mwh mwi mwc mwx mar mli mgr mgo mre mfr rest)) (hS : va_S A s.heap H locs) (hl : lv_has ls 1 [(0, .ref (ad 0))]) : W p l e ({ frames := 1, cells := 0, slots := 0, locals := 22 }) s m args below meth c H locs 0 0 (MQ below (kQi g (kty cI cJ cZ) (wM cI cJ cZ ad o_mth mst mse mla mmo mrc mro mrt mrm mrl mrh mwk mwt mwm mwl mwh mwi mwc mwx mar mli mgr mgo mre mfr rest) A r) args s 0 0 A) (F0 m 0 ls []) := by
  obtain ⟨hx, hb, hr, hml, hown, hts, hlocks, hK, hA, hE⟩ := id K
  unfold F_M_all at hF
  refine lv_aload_n hx hb d_M_all_0 rfl (lv_at hl 0 rfl) ?_
  refine lv_iconst (v := 0) hx hb d_M_all_1 (by decide) ?_
  refine va_put (D := g) (ci := 3) (v := .int 0) (ty := .int) (C := kR3) (T := kT3) (N := 25) hx hb hts kw3 kt3 ko3 kn3 hown hK hP hD hS 0 rfl rfl 0 (by decide) (hts _ wm_671) (fun _ h9 => h9) rfl (by decide +kernel) rfl rfl (Nat.le_of_ble_eq_true rfl) d_M_all_2 (fun H locs hP hD hS => ?_)
  have hP : va_P g kcl (wM cI cJ cZ ad 0 mst mse mla mmo mrc mro mrt mrm mrl mrh mwk mwt mwm mwl mwh mwi mwc mwx mar mli mgr mgo mre mfr rest) H := hP
  have hD : va_D A (wM cI cJ cZ ad 0 mst mse mla mmo mrc mro mrt mrm mrl mrh mwk mwt mwm mwl mwh mwi mwc mwx mar mli mgr mgo mre mfr rest) := hD
  refine lv_aload_n hx hb d_M_all_5 rfl (lv_at hl 0 rfl) ?_
  obtain ⟨r_1, hG, hF⟩ := ob1_inv hF
  refine kci K hP hD hS (c_M_counted l g cI cJ cZ ad 0 mst mse mla mmo mrc mro mrt mrm mrl mrh mwk mwt mwm mwl mwh mwi mwc mwx mar mli mgr mgo mre mfr rest  r_1 hG) wm_788 wm_785 wm_787 wm_22 wm_50 hd_M_counted rfl rfl ⟨Nat.le_of_ble_eq_true rfl, Nat.le_of_ble_eq_true rfl⟩ ⟨Nat.zero_le _, Nat.zero_le _⟩ 3 0 rfl rfl rfl hl.1 (rest := []) rfl (Nat.le_of_ble_eq_true rfl) d_M_all_6 (fun H locs hP hD hS => ?_)
  cases hF
  exact kri K hP hD hS d_M_all_9 rfl
theorem c_M_all (l : Launch) (g : va_G) (cI cJ cZ : ClassId) (ad : Nat → Nat) (mth : Int32) (mst : Nat → Int32) (mse : Nat → Int32) (mla : Int32) (mmo : Nat → Int32) (mrc : Int32) (mro : Nat → Int32) (mrt : Nat → Int32) (mrm : Nat → Int32) (mrl : Nat → Int64) (mrh : Nat → Int64) (mwk : Nat → Int32) (mwt : Nat → Int32) (mwm : Nat → Int32) (mwl : Nat → Int64) (mwh : Nat → Int64) (mwi : Nat → Int32) (mwc : Nat → Int32) (mwx : Nat → Int32) (mar : Int32) (mli : Int32) (mgr : Int32) (mgo : Nat → Int32) (mre : Nat → Int32) (mfr : Int32) (rest : va_W)  (r : Int32) (o_mth : Int32) (hF : F_M_all mth mst mmo mrc = some (r, o_mth)) : Ci l y_M_all prog_6_method_50_code 1 (some .int) ({ frames := 1, cells := 0, slots := 0, locals := 22 }) [.ref (ad 0)] g (kty cI cJ cZ) (wM cI cJ cZ ad mth mst mse mla mmo mrc mro mrt mrm mrl mrh mwk mwt mwm mwl mwh mwi mwc mwx mar mli mgr mgo mre mfr rest) (wM cI cJ cZ ad o_mth mst mse mla mmo mrc mro mrt mrm mrl mrh mwk mwt mwm mwl mwh mwi mwc mwx mar mli mgr mgo mre mfr rest) r :=
  Ci.of (by decide) (Nat.le_of_ble_eq_true rfl) (fun p e s m below meth c A ls K hP hD hS hl => t_M_all K mth mst mse mla mmo mrc mro mrt mrm mrl mrh mwk mwt mwm mwl mwh mwi mwc mwx mar mli mgr mgo mre mfr  r o_mth hF hP hD hS hl)
def F_M_mode (mth : Int32) (mmo : Nat → Int32) (a1 : Int32) (a2 : Int32) : Option (Int32 × Int32) :=
  ob1 (F_M_isOwner a1) (fun r_1 => jn1 (fun (s_2 : Int32) => ob2 (F_M_refused mth s_2 0 0) (fun r_3 mth_4 => if r_3 = 0 then gd (((16 * a1) + a2) < 0 ∨ 128 ≤ ((16 * a1) + a2).toNatClampNeg) (some (mmo ((16 * a1) + a2).toNatClampNeg, mth_4)) else some (0, mth_4))) (fun J20 => jn0 (J20 1) (fun J15 => if r_1 = 0 then J15  else ob1 (F_M_isTable a2) (fun r_8 => if r_8 = 0 then J15  else J20 0))))
set_option maxHeartbeats 4000000 in
set_option maxRecDepth 100000 in
theorem t_M_mode {p : Program} {l : Launch} {e : Env} {s : State} {m : MethodId} {args : Array Value} {below : List Frame} {meth : Method} {c : Code} {A : Nat → Prop} {g : va_G} {cI cJ cZ : ClassId} {ad : Nat → Nat} {rest : va_W} (K : kX p s m args meth c "LockTableModel" prog_6_method_51_code 3 (some .int) A g (kty cI cJ cZ)) (mth : Int32) (mst : Nat → Int32) (mse : Nat → Int32) (mla : Int32) (mmo : Nat → Int32) (mrc : Int32) (mro : Nat → Int32) (mrt : Nat → Int32) (mrm : Nat → Int32) (mrl : Nat → Int64) (mrh : Nat → Int64) (mwk : Nat → Int32) (mwt : Nat → Int32) (mwm : Nat → Int32) (mwl : Nat → Int64) (mwh : Nat → Int64) (mwi : Nat → Int32) (mwc : Nat → Int32) (mwx : Nat → Int32) (mar : Int32) (mli : Int32) (mgr : Int32) (mgo : Nat → Int32) (mre : Nat → Int32) (mfr : Int32) (a1 : Int32) (a2 : Int32) (r : Int32) (o_mth : Int32) (hF : F_M_mode mth mmo a1 a2 = some (r, o_mth)) {H : Heap} {locs : List Loc} {ls : Array Slot} (hP : va_P g kcl (wM cI cJ cZ ad mth mst mse mla mmo mrc mro mrt mrm mrl mrh mwk mwt mwm mwl mwh mwi mwc mwx mar mli mgr mgo mre mfr rest) H) (hD : va_D A (wM cI cJ cZ ad mth mst mse mla mmo mrc mro mrt mrm mrl mrh mwk mwt mwm mwl mwh mwi mwc mwx mar mli mgr mgo mre mfr rest)) (hS : va_S A s.heap H locs) (hl : lv_has ls 3 [(0, .ref (ad 0)), (1, .int a1), (2, .int a2)]) : W p l e ({ frames := 1, cells := 0, slots := 0, locals := 23 }) s m args below meth c H locs 0 0 (MQ below (kQi g (kty cI cJ cZ) (wM cI cJ cZ ad o_mth mst mse mla mmo mrc mro mrt mrm mrl mrh mwk mwt mwm mwl mwh mwi mwc mwx mar mli mgr mgo mre mfr rest) A r) args s 0 0 A) (F0 m 0 ls []) := by
  obtain ⟨hx, hb, hr, hml, hown, hts, hlocks, hK, hA, hE⟩ := id K
  unfold F_M_mode at hF
  refine lv_aload_n hx hb d_M_mode_0 rfl (lv_at hl 0 rfl) ?_
  refine lv_iload_n hx hb d_M_mode_1 rfl (lv_at hl 1 rfl) ?_
  obtain ⟨r_1, hG, hF⟩ := ob1_inv hF
  refine ksi K hP hD hS (c_M_isOwner l g (kty cI cJ cZ) (wM cI cJ cZ ad mth mst mse mla mmo mrc mro mrt mrm mrl mrh mwk mwt mwm mwl mwh mwi mwc mwx mar mli mgr mgo mre mfr rest) a1 r_1 hG) wm_757 wm_755 wm_756 wm_50 hd_M_isOwner rfl rfl ⟨Nat.le_of_ble_eq_true rfl, Nat.le_of_ble_eq_true rfl⟩ ⟨Nat.zero_le _, Nat.zero_le _⟩ hl.1 (rest := [.ref (ad 0)]) rfl (Nat.le_of_ble_eq_true rfl) d_M_mode_2 (fun H locs hP hD hS => ?_)
  obtain ⟨J20, eJ20, hF⟩ := jn1_inv hF
  have hJ20 : ∀ (s_2 : Int32) (H : Heap) (locs : List Loc) (ls : Array Slot), J20 s_2 = some (r, o_mth) → va_P g kcl (wM cI cJ cZ ad mth mst mse mla mmo mrc mro mrt mrm mrl mrh mwk mwt mwm mwl mwh mwi mwc mwx mar mli mgr mgo mre mfr rest) H → va_D A (wM cI cJ cZ ad mth mst mse mla mmo mrc mro mrt mrm mrl mrh mwk mwt mwm mwl mwh mwi mwc mwx mar mli mgr mgo mre mfr rest) → va_S A s.heap H locs → lv_has ls 3 [(0, .ref (ad 0)), (1, .int a1), (2, .int a2)] → W p l e ({ frames := 1, cells := 0, slots := 0, locals := 23 }) s m args below meth c H locs 0 0 (MQ below (kQi g (kty cI cJ cZ) (wM cI cJ cZ ad o_mth mst mse mla mmo mrc mro mrt mrm mrl mrh mwk mwt mwm mwl mwh mwi mwc mwx mar mli mgr mgo mre mfr rest) A r) args s 0 0 A) (F0 m 20 ls [.int s_2, .ref (ad 0)]) := by
    intro s_2 H locs ls hF hP hD hS hl
    rw [eJ20] at hF
    refine lv_iconst (v := 0) hx hb d_M_mode_20 (by decide) ?_
    refine lv_iconst (v := 0) hx hb d_M_mode_21 (by decide) ?_
    obtain ⟨r_3, mth_4, hG, hF⟩ := ob2_inv hF
    refine kci K hP hD hS (c_M_refused l g cI cJ cZ ad mth mst mse mla mmo mrc mro mrt mrm mrl mrh mwk mwt mwm mwl mwh mwi mwc mwx mar mli mgr mgo mre mfr rest s_2 0 0 r_3 mth_4 hG) wm_761 wm_758 wm_760 wm_20 wm_50 hd_M_refused rfl rfl ⟨Nat.le_of_ble_eq_true rfl, Nat.le_of_ble_eq_true rfl⟩ ⟨Nat.zero_le _, Nat.zero_le _⟩ 3 0 rfl rfl rfl hl.1 (rest := []) rfl (Nat.le_of_ble_eq_true rfl) d_M_mode_22 (fun H locs hP hD hS => ?_)
    refine lv_if_eq (tgt := 32) hx hb d_M_mode_25 (by decide) (fun hc_5 => ?_) (fun hc_5 => ?_)
    · have hF := it_t hF hc_5
      refine lv_aload_n hx hb d_M_mode_32 rfl (lv_at hl 0 rfl) ?_
      refine va_get (D := g) (ci := 3) (v := .ref (ad 3)) (C := kR3) (T := kT3) (N := 25) hx hb hts kw3 hown hK hP 0 rfl rfl 4 (by decide) (hts _ wm_675) (fun _ h9 => h9) rfl d_M_mode_33 ?_
      refine lv_bipush (v := 16) hx hb d_M_mode_36 (by decide) ?_
      refine lv_iload_n hx hb d_M_mode_38 rfl (lv_at hl 1 rfl) ?_
      refine lv_imul hx hb d_M_mode_39 ?_
      refine lv_iload_n hx hb d_M_mode_40 rfl (lv_at hl 2 rfl) ?_
      refine lv_iadd hx hb d_M_mode_41 ?_
      obtain ⟨hg_6, hF⟩ := gd_inv hF
      refine va_iald hx hb hK hP 3 0 rfl rfl hg_6 d_M_mode_42 ?_
      cases hF
      exact kri K hP hD hS d_M_mode_43 rfl
    · have hF := it_f hF hc_5
      refine lv_iconst (v := 0) hx hb d_M_mode_28 (by decide) ?_
      refine lv_goto (tgt := 43) hx hb d_M_mode_29 (by decide) ?_
      cases hF
      exact kri K hP hD hS d_M_mode_43 rfl
  obtain ⟨J15, eJ15, hF⟩ := jn0_inv hF
  have hJ15 : ∀  (H : Heap) (locs : List Loc) (ls : Array Slot), J15  = some (r, o_mth) → va_P g kcl (wM cI cJ cZ ad mth mst mse mla mmo mrc mro mrt mrm mrl mrh mwk mwt mwm mwl mwh mwi mwc mwx mar mli mgr mgo mre mfr rest) H → va_D A (wM cI cJ cZ ad mth mst mse mla mmo mrc mro mrt mrm mrl mrh mwk mwt mwm mwl mwh mwi mwc mwx mar mli mgr mgo mre mfr rest) → va_S A s.heap H locs → lv_has ls 3 [(0, .ref (ad 0)), (1, .int a1), (2, .int a2)] → W p l e ({ frames := 1, cells := 0, slots := 0, locals := 23 }) s m args below meth c H locs 0 0 (MQ below (kQi g (kty cI cJ cZ) (wM cI cJ cZ ad o_mth mst mse mla mmo mrc mro mrt mrm mrl mrh mwk mwt mwm mwl mwh mwi mwc mwx mar mli mgr mgo mre mfr rest) A r) args s 0 0 A) (F0 m 15 ls [.ref (ad 0)]) := by
    intro  H locs ls hF hP hD hS hl
    rw [eJ15] at hF
    refine lv_iconst (v := 1) hx hb d_M_mode_15 (by decide) ?_
    refine lv_goto (tgt := 20) hx hb d_M_mode_16 (by decide) ?_
    exact hJ20 _ H locs ls hF hP hD hS (lv_sub hl [0, 1, 2] rfl)
  refine lv_if_eq (tgt := 15) hx hb d_M_mode_5 (by decide) (fun hc_7 => ?_) (fun hc_7 => ?_)
  · have hF := it_t hF hc_7
    exact hJ15  H locs ls hF hP hD hS (lv_sub hl [0, 1, 2] rfl)
  · have hF := it_f hF hc_7
    refine lv_iload_n hx hb d_M_mode_8 rfl (lv_at hl 2 rfl) ?_
    obtain ⟨r_8, hG, hF⟩ := ob1_inv hF
    refine ksi K hP hD hS (c_M_isTable l g (kty cI cJ cZ) (wM cI cJ cZ ad mth mst mse mla mmo mrc mro mrt mrm mrl mrh mwk mwt mwm mwl mwh mwi mwc mwx mar mli mgr mgo mre mfr rest) a2 r_8 hG) wm_768 wm_766 wm_767 wm_50 hd_M_isTable rfl rfl ⟨Nat.le_of_ble_eq_true rfl, Nat.le_of_ble_eq_true rfl⟩ ⟨Nat.zero_le _, Nat.zero_le _⟩ hl.1 (rest := [.ref (ad 0)]) rfl (Nat.le_of_ble_eq_true rfl) d_M_mode_9 (fun H locs hP hD hS => ?_)
    refine lv_if_ne (tgt := 19) hx hb d_M_mode_12 (by decide) (fun hc_9 => ?_) (fun hc_9 => ?_)
    · have hF := it_f hF hc_9
      refine lv_iconst (v := 0) hx hb d_M_mode_19 (by decide) ?_
      exact hJ20 _ H locs ls hF hP hD hS (lv_sub hl [0, 1, 2] rfl)
    · have hF := it_t hF hc_9
      exact hJ15  H locs ls hF hP hD hS (lv_sub hl [0, 1, 2] rfl)
theorem c_M_mode (l : Launch) (g : va_G) (cI cJ cZ : ClassId) (ad : Nat → Nat) (mth : Int32) (mst : Nat → Int32) (mse : Nat → Int32) (mla : Int32) (mmo : Nat → Int32) (mrc : Int32) (mro : Nat → Int32) (mrt : Nat → Int32) (mrm : Nat → Int32) (mrl : Nat → Int64) (mrh : Nat → Int64) (mwk : Nat → Int32) (mwt : Nat → Int32) (mwm : Nat → Int32) (mwl : Nat → Int64) (mwh : Nat → Int64) (mwi : Nat → Int32) (mwc : Nat → Int32) (mwx : Nat → Int32) (mar : Int32) (mli : Int32) (mgr : Int32) (mgo : Nat → Int32) (mre : Nat → Int32) (mfr : Int32) (rest : va_W) (a1 : Int32) (a2 : Int32) (r : Int32) (o_mth : Int32) (hF : F_M_mode mth mmo a1 a2 = some (r, o_mth)) : Ci l y_M_mode prog_6_method_51_code 3 (some .int) ({ frames := 1, cells := 0, slots := 0, locals := 23 }) [.ref (ad 0), .int a1, .int a2] g (kty cI cJ cZ) (wM cI cJ cZ ad mth mst mse mla mmo mrc mro mrt mrm mrl mrh mwk mwt mwm mwl mwh mwi mwc mwx mar mli mgr mgo mre mfr rest) (wM cI cJ cZ ad o_mth mst mse mla mmo mrc mro mrt mrm mrl mrh mwk mwt mwm mwl mwh mwi mwc mwx mar mli mgr mgo mre mfr rest) r :=
  Ci.of (by decide) (Nat.le_of_ble_eq_true rfl) (fun p e s m below meth c A ls K hP hD hS hl => t_M_mode K mth mst mse mla mmo mrc mro mrt mrm mrl mrh mwk mwt mwm mwl mwh mwi mwc mwx mar mli mgr mgo mre mfr a1 a2 r o_mth hF hP hD hS hl)
def F_M_right_L81 (mrc : Int32) (mro : Nat → Int32) (mrt : Nat → Int32) (mrm : Nat → Int32) (mrl : Nat → Int64) (mrh : Nat → Int64) (v1 : Int32) (v2 : Int32) (v3 : Int64) : Nat → Int32 → Int32 → Option (Int32)
  | 0, _, _ => none
  | n + 1, v6, v7 => if mrc ≤ v7 then some v6 else gd (v7 < 0 ∨ 256 ≤ v7.toNatClampNeg) (jn1 (fun (s_11 : Int32) => if s_11 = 0 then F_M_right_L81 mrc mro mrt mrm mrl mrh v1 v2 v3 n v6 (v7 + 1) else gd (v7 < 0 ∨ 256 ≤ v7.toNatClampNeg) (if (mrm v7.toNatClampNeg) ≤ v6 then F_M_right_L81 mrc mro mrt mrm mrl mrh v1 v2 v3 n v6 (v7 + 1) else gd (v7 < 0 ∨ 256 ≤ v7.toNatClampNeg) (F_M_right_L81 mrc mro mrt mrm mrl mrh v1 v2 v3 n (mrm v7.toNatClampNeg) (v7 + 1)))) (fun J141 => jn0 (J141 0) (fun J140 => if (mro v7.toNatClampNeg) = v1 then gd (v7 < 0 ∨ 256 ≤ v7.toNatClampNeg) (if (mrt v7.toNatClampNeg) = v2 then gd (v7 < 0 ∨ 256 ≤ v7.toNatClampNeg) (if 0 < (lg_cmp (mrl v7.toNatClampNeg) v3) then J140  else gd (v7 < 0 ∨ 256 ≤ v7.toNatClampNeg) (if 0 < (lg_cmp v3 (mrh v7.toNatClampNeg)) then J140  else J141 1)) else J140 ) else J140 )))
def F_M_right (mth : Int32) (mmo : Nat → Int32) (mrc : Int32) (mro : Nat → Int32) (mrt : Nat → Int32) (mrm : Nat → Int32) (mrl : Nat → Int64) (mrh : Nat → Int64) (a1 : Int32) (a2 : Int32) (a3 : Int64) : Option (Int32 × Int32) :=
  ob1 (F_M_isOwner a1) (fun r_1 => jn1 (fun (s_2 : Int32) => ob2 (F_M_refused mth s_2 0 0) (fun r_3 mth_4 => if r_3 = 0 then gd (((16 * a1) + a2) < 0 ∨ 128 ≤ ((16 * a1) + a2).toNatClampNeg) (if (mmo ((16 * a1) + a2).toNatClampNeg) = 5 then ob1 (F_M_right_L81 mrc mro mrt mrm mrl mrh a1 a2 a3 fu 5 0) (fun v6_29 => some (v6_29, mth_4)) else if (mmo ((16 * a1) + a2).toNatClampNeg) = 2 then ob1 (F_M_right_L81 mrc mro mrt mrm mrl mrh a1 a2 a3 fu 2 0) (fun v6_23 => some (v6_23, mth_4)) else if (mmo ((16 * a1) + a2).toNatClampNeg) = 3 then ob1 (F_M_right_L81 mrc mro mrt mrm mrl mrh a1 a2 a3 fu 2 0) (fun v6_25 => some (v6_25, mth_4)) else if (mmo ((16 * a1) + a2).toNatClampNeg) = 4 then ob1 (F_M_right_L81 mrc mro mrt mrm mrl mrh a1 a2 a3 fu 2 0) (fun v6_28 => some (v6_28, mth_4)) else ob1 (F_M_right_L81 mrc mro mrt mrm mrl mrh a1 a2 a3 fu (-1) 0) (fun v6_27 => some (v6_27, mth_4))) else some (0, mth_4))) (fun J20 => jn0 (J20 1) (fun J15 => if r_1 = 0 then J15  else ob1 (F_M_isTable a2) (fun r_31 => if r_31 = 0 then J15  else J20 0))))
set_option maxHeartbeats 4000000 in
set_option maxRecDepth 100000 in
theorem t_M_right_L81 {p : Program} {l : Launch} {e : Env} {s : State} {m : MethodId} {args : Array Value} {below : List Frame} {meth : Method} {c : Code} {A : Nat → Prop} {g : va_G} {cI cJ cZ : ClassId} {ad : Nat → Nat} {rest : va_W} (K : kX p s m args meth c "LockTableModel" prog_6_method_52_code 9 (some .int) A g (kty cI cJ cZ)) {Q : State → Prop} (mth : Int32) (mst : Nat → Int32) (mse : Nat → Int32) (mla : Int32) (mmo : Nat → Int32) (mrc : Int32) (mro : Nat → Int32) (mrt : Nat → Int32) (mrm : Nat → Int32) (mrl : Nat → Int64) (mrh : Nat → Int64) (mwk : Nat → Int32) (mwt : Nat → Int32) (mwm : Nat → Int32) (mwl : Nat → Int64) (mwh : Nat → Int64) (mwi : Nat → Int32) (mwc : Nat → Int32) (mwx : Nat → Int32) (mar : Int32) (mli : Int32) (mgr : Int32) (mgo : Nat → Int32) (mre : Nat → Int32) (mfr : Int32) (v1 : Int32) (v2 : Int32) (v3 : Int64) : ∀ (n : Nat) (v6 : Int32) (v7 : Int32) (o_v6 : Int32) (H : Heap) (locs : List Loc) (ls : Array Slot), F_M_right_L81 mrc mro mrt mrm mrl mrh v1 v2 v3 n v6 v7 = some o_v6 → va_P g kcl (wM cI cJ cZ ad mth mst mse mla mmo mrc mro mrt mrm mrl mrh mwk mwt mwm mwl mwh mwi mwc mwx mar mli mgr mgo mre mfr rest) H → va_D A (wM cI cJ cZ ad mth mst mse mla mmo mrc mro mrt mrm mrl mrh mwk mwt mwm mwl mwh mwi mwc mwx mar mli mgr mgo mre mfr rest) → va_S A s.heap H locs → lv_has ls 9 [(0, .ref (ad 0)), (1, .int v1), (2, .int v2), (3, .long v3), (6, .int v6), (7, .int v7)] → (∀ (H : Heap) (locs : List Loc) (ls : Array Slot), va_P g kcl (wM cI cJ cZ ad mth mst mse mla mmo mrc mro mrt mrm mrl mrh mwk mwt mwm mwl mwh mwi mwc mwx mar mli mgr mgo mre mfr rest) H → va_D A (wM cI cJ cZ ad mth mst mse mla mmo mrc mro mrt mrm mrl mrh mwk mwt mwm mwl mwh mwi mwc mwx mar mli mgr mgo mre mfr rest) → va_S A s.heap H locs → lv_has ls 9 [(6, .int o_v6)] → W p l e ({ frames := 1, cells := 0, slots := 0, locals := 23 }) s m args below meth c H locs 0 0 Q (F0 m 180 ls [])) → W p l e ({ frames := 1, cells := 0, slots := 0, locals := 23 }) s m args below meth c H locs 0 0 Q (F0 m 81 ls []) := by
  obtain ⟨hx, hb, hr, hml, hown, hts, hlocks, hK, hA, hE⟩ := id K
  intro n
  induction n with
  | zero =>
    intro v6 v7 o_v6 H locs ls hF
    rw [F_M_right_L81] at hF
    cases hF
  | succ n ih =>
    intro v6 v7 o_v6 H locs ls hF hP hD hS hl hQ
    rw [F_M_right_L81] at hF
    refine lv_iload hx hb d_M_right_81 (lv_at hl 5 rfl) ?_
    refine lv_aload_n hx hb d_M_right_83 rfl (lv_at hl 0 rfl) ?_
    refine va_get (D := g) (ci := 3) (v := .int mrc) (C := kR3) (T := kT3) (N := 25) hx hb hts kw3 hown hK hP 0 rfl rfl 5 (by decide) (hts _ wm_676) (fun _ h9 => h9) rfl d_M_right_84 ?_
    refine lv_icmp_ge (tgt := 180) hx hb d_M_right_87 (by decide) (fun hc_9 => ?_) (fun hc_9 => ?_)
    · have hF := it_t hF hc_9
      cases hF
      exact hQ H locs ls hP hD hS (lv_sub hl [4] rfl)
    · have hF := it_f hF hc_9
      refine lv_aload_n hx hb d_M_right_90 rfl (lv_at hl 0 rfl) ?_
      refine va_get (D := g) (ci := 3) (v := .ref (ad 4)) (C := kR3) (T := kT3) (N := 25) hx hb hts kw3 hown hK hP 0 rfl rfl 6 (by decide) (hts _ wm_677) (fun _ h9 => h9) rfl d_M_right_91 ?_
      refine lv_iload hx hb d_M_right_94 (lv_at hl 5 rfl) ?_
      obtain ⟨hg_10, hF⟩ := gd_inv hF
      refine va_iald hx hb hK hP 4 0 rfl rfl hg_10 d_M_right_96 ?_
      refine lv_iload_n hx hb d_M_right_97 rfl (lv_at hl 1 rfl) ?_
      obtain ⟨J141, eJ141, hF⟩ := jn1_inv hF
      have hJ141 : ∀ (s_11 : Int32) (H : Heap) (locs : List Loc) (ls : Array Slot), J141 s_11 = some o_v6 → va_P g kcl (wM cI cJ cZ ad mth mst mse mla mmo mrc mro mrt mrm mrl mrh mwk mwt mwm mwl mwh mwi mwc mwx mar mli mgr mgo mre mfr rest) H → va_D A (wM cI cJ cZ ad mth mst mse mla mmo mrc mro mrt mrm mrl mrh mwk mwt mwm mwl mwh mwi mwc mwx mar mli mgr mgo mre mfr rest) → va_S A s.heap H locs → lv_has ls 9 [(0, .ref (ad 0)), (1, .int v1), (2, .int v2), (3, .long v3), (6, .int v6), (7, .int v7)] → W p l e ({ frames := 1, cells := 0, slots := 0, locals := 23 }) s m args below meth c H locs 0 0 Q (F0 m 141 ls [.int s_11]) := by
        intro s_11 H locs ls hF hP hD hS hl
        rw [eJ141] at hF
        refine lv_istore (lv' := [(8, .int s_11), (0, .ref (ad 0)), (1, .int v1), (2, .int v2), (3, .long v3), (6, .int v6), (7, .int v7)]) hx hb d_M_right_141 hl (by decide) rfl (fun ls hl => ?_)
        refine lv_iload hx hb d_M_right_143 (lv_at hl 0 rfl) ?_
        refine lv_if_eq (tgt := 170) hx hb d_M_right_145 (by decide) (fun hc_12 => ?_) (fun hc_12 => ?_)
        · have hF := it_t hF hc_12
          refine lv_iload hx hb d_M_right_170 (lv_at hl 5 rfl) ?_
          refine lv_istore (lv' := [(6, .int v6), (8, .int s_11), (0, .ref (ad 0)), (1, .int v1), (2, .int v2), (3, .long v3), (7, .int v7)]) hx hb d_M_right_172 hl (by decide) rfl (fun ls hl => ?_)
          refine lv_iinc (v := v7 + 1) (lv' := [(7, .int (v7 + 1)), (6, .int v6), (8, .int s_11), (0, .ref (ad 0)), (1, .int v1), (2, .int v2), (3, .long v3)]) hx hb d_M_right_174 hl (k := 6) rfl rfl (by decide) rfl (fun ls hl => ?_)
          refine lv_goto (tgt := 81) hx hb d_M_right_177 (by decide) ?_
          exact ih _ _ _ H locs ls hF hP hD hS (lv_sub hl [3, 4, 5, 6, 1, 0] rfl) hQ
        · have hF := it_f hF hc_12
          refine lv_aload_n hx hb d_M_right_148 rfl (lv_at hl 1 rfl) ?_
          refine va_get (D := g) (ci := 3) (v := .ref (ad 6)) (C := kR3) (T := kT3) (N := 25) hx hb hts kw3 hown hK hP 0 rfl rfl 8 (by decide) (hts _ wm_679) (fun _ h9 => h9) rfl d_M_right_149 ?_
          refine lv_iload hx hb d_M_right_152 (lv_at hl 6 rfl) ?_
          obtain ⟨hg_13, hF⟩ := gd_inv hF
          refine va_iald hx hb hK hP 6 0 rfl rfl hg_13 d_M_right_154 ?_
          refine lv_iload hx hb d_M_right_155 (lv_at hl 5 rfl) ?_
          refine lv_icmp_le (tgt := 170) hx hb d_M_right_157 (by decide) (fun hc_14 => ?_) (fun hc_14 => ?_)
          · have hF := it_t hF hc_14
            refine lv_iload hx hb d_M_right_170 (lv_at hl 5 rfl) ?_
            refine lv_istore (lv' := [(6, .int v6), (8, .int s_11), (0, .ref (ad 0)), (1, .int v1), (2, .int v2), (3, .long v3), (7, .int v7)]) hx hb d_M_right_172 hl (by decide) rfl (fun ls hl => ?_)
            refine lv_iinc (v := v7 + 1) (lv' := [(7, .int (v7 + 1)), (6, .int v6), (8, .int s_11), (0, .ref (ad 0)), (1, .int v1), (2, .int v2), (3, .long v3)]) hx hb d_M_right_174 hl (k := 6) rfl rfl (by decide) rfl (fun ls hl => ?_)
            refine lv_goto (tgt := 81) hx hb d_M_right_177 (by decide) ?_
            exact ih _ _ _ H locs ls hF hP hD hS (lv_sub hl [3, 4, 5, 6, 1, 0] rfl) hQ
          · have hF := it_f hF hc_14
            refine lv_aload_n hx hb d_M_right_160 rfl (lv_at hl 1 rfl) ?_
            refine va_get (D := g) (ci := 3) (v := .ref (ad 6)) (C := kR3) (T := kT3) (N := 25) hx hb hts kw3 hown hK hP 0 rfl rfl 8 (by decide) (hts _ wm_679) (fun _ h9 => h9) rfl d_M_right_161 ?_
            refine lv_iload hx hb d_M_right_164 (lv_at hl 6 rfl) ?_
            obtain ⟨hg_15, hF⟩ := gd_inv hF
            refine va_iald hx hb hK hP 6 0 rfl rfl hg_15 d_M_right_166 ?_
            refine lv_goto (tgt := 172) hx hb d_M_right_167 (by decide) ?_
            refine lv_istore (lv' := [(6, .int (mrm v7.toNatClampNeg)), (8, .int s_11), (0, .ref (ad 0)), (1, .int v1), (2, .int v2), (3, .long v3), (7, .int v7)]) hx hb d_M_right_172 hl (by decide) rfl (fun ls hl => ?_)
            refine lv_iinc (v := v7 + 1) (lv' := [(7, .int (v7 + 1)), (6, .int (mrm v7.toNatClampNeg)), (8, .int s_11), (0, .ref (ad 0)), (1, .int v1), (2, .int v2), (3, .long v3)]) hx hb d_M_right_174 hl (k := 6) rfl rfl (by decide) rfl (fun ls hl => ?_)
            refine lv_goto (tgt := 81) hx hb d_M_right_177 (by decide) ?_
            exact ih _ _ _ H locs ls hF hP hD hS (lv_sub hl [3, 4, 5, 6, 1, 0] rfl) hQ
      obtain ⟨J140, eJ140, hF⟩ := jn0_inv hF
      have hJ140 : ∀  (H : Heap) (locs : List Loc) (ls : Array Slot), J140  = some o_v6 → va_P g kcl (wM cI cJ cZ ad mth mst mse mla mmo mrc mro mrt mrm mrl mrh mwk mwt mwm mwl mwh mwi mwc mwx mar mli mgr mgo mre mfr rest) H → va_D A (wM cI cJ cZ ad mth mst mse mla mmo mrc mro mrt mrm mrl mrh mwk mwt mwm mwl mwh mwi mwc mwx mar mli mgr mgo mre mfr rest) → va_S A s.heap H locs → lv_has ls 9 [(0, .ref (ad 0)), (1, .int v1), (2, .int v2), (3, .long v3), (6, .int v6), (7, .int v7)] → W p l e ({ frames := 1, cells := 0, slots := 0, locals := 23 }) s m args below meth c H locs 0 0 Q (F0 m 140 ls []) := by
        intro  H locs ls hF hP hD hS hl
        rw [eJ140] at hF
        refine lv_iconst (v := 0) hx hb d_M_right_140 (by decide) ?_
        exact hJ141 _ H locs ls hF hP hD hS (lv_sub hl [0, 1, 2, 3, 4, 5] rfl)
      refine lv_icmp_ne (tgt := 140) hx hb d_M_right_98 (by decide) (fun hc_16 => ?_) (fun hc_16 => ?_)
      · have hF := it_f hF hc_16
        exact hJ140  H locs ls hF hP hD hS (lv_sub hl [0, 1, 2, 3, 4, 5] rfl)
      · have hF := it_t hF hc_16
        refine lv_aload_n hx hb d_M_right_101 rfl (lv_at hl 0 rfl) ?_
        refine va_get (D := g) (ci := 3) (v := .ref (ad 5)) (C := kR3) (T := kT3) (N := 25) hx hb hts kw3 hown hK hP 0 rfl rfl 7 (by decide) (hts _ wm_678) (fun _ h9 => h9) rfl d_M_right_102 ?_
        refine lv_iload hx hb d_M_right_105 (lv_at hl 5 rfl) ?_
        obtain ⟨hg_17, hF⟩ := gd_inv hF
        refine va_iald hx hb hK hP 5 0 rfl rfl hg_17 d_M_right_107 ?_
        refine lv_iload_n hx hb d_M_right_108 rfl (lv_at hl 2 rfl) ?_
        refine lv_icmp_ne (tgt := 140) hx hb d_M_right_109 (by decide) (fun hc_18 => ?_) (fun hc_18 => ?_)
        · have hF := it_f hF hc_18
          exact hJ140  H locs ls hF hP hD hS (lv_sub hl [0, 1, 2, 3, 4, 5] rfl)
        · have hF := it_t hF hc_18
          refine lv_aload_n hx hb d_M_right_112 rfl (lv_at hl 0 rfl) ?_
          refine va_get (D := g) (ci := 3) (v := .ref (ad 7)) (C := kR3) (T := kT3) (N := 25) hx hb hts kw3 hown hK hP 0 rfl rfl 9 (by decide) (hts _ wm_680) (fun _ h9 => h9) rfl d_M_right_113 ?_
          refine lv_iload hx hb d_M_right_116 (lv_at hl 5 rfl) ?_
          obtain ⟨hg_19, hF⟩ := gd_inv hF
          refine va_lald hx hb hK hP 7 1 rfl rfl hg_19 d_M_right_118 ?_
          refine lv_lload_n hx hb d_M_right_119 rfl (lv_at hl 3 rfl) ?_
          refine W.lcmp hx hb d_M_right_120 ?_
          refine lv_if_gt (tgt := 140) hx hb d_M_right_121 (by decide) (fun hc_20 => ?_) (fun hc_20 => ?_)
          · have hF := it_t hF hc_20
            exact hJ140  H locs ls hF hP hD hS (lv_sub hl [0, 1, 2, 3, 4, 5] rfl)
          · have hF := it_f hF hc_20
            refine lv_lload_n hx hb d_M_right_124 rfl (lv_at hl 3 rfl) ?_
            refine lv_aload_n hx hb d_M_right_125 rfl (lv_at hl 0 rfl) ?_
            refine va_get (D := g) (ci := 3) (v := .ref (ad 8)) (C := kR3) (T := kT3) (N := 25) hx hb hts kw3 hown hK hP 0 rfl rfl 10 (by decide) (hts _ wm_681) (fun _ h9 => h9) rfl d_M_right_126 ?_
            refine lv_iload hx hb d_M_right_129 (lv_at hl 5 rfl) ?_
            obtain ⟨hg_21, hF⟩ := gd_inv hF
            refine va_lald hx hb hK hP 8 1 rfl rfl hg_21 d_M_right_131 ?_
            refine W.lcmp hx hb d_M_right_132 ?_
            refine lv_if_gt (tgt := 140) hx hb d_M_right_133 (by decide) (fun hc_22 => ?_) (fun hc_22 => ?_)
            · have hF := it_t hF hc_22
              exact hJ140  H locs ls hF hP hD hS (lv_sub hl [0, 1, 2, 3, 4, 5] rfl)
            · have hF := it_f hF hc_22
              refine lv_iconst (v := 1) hx hb d_M_right_136 (by decide) ?_
              refine lv_goto (tgt := 141) hx hb d_M_right_137 (by decide) ?_
              exact hJ141 _ H locs ls hF hP hD hS (lv_sub hl [0, 1, 2, 3, 4, 5] rfl)
set_option maxHeartbeats 4000000 in
set_option maxRecDepth 100000 in
theorem t_M_right {p : Program} {l : Launch} {e : Env} {s : State} {m : MethodId} {args : Array Value} {below : List Frame} {meth : Method} {c : Code} {A : Nat → Prop} {g : va_G} {cI cJ cZ : ClassId} {ad : Nat → Nat} {rest : va_W} (K : kX p s m args meth c "LockTableModel" prog_6_method_52_code 9 (some .int) A g (kty cI cJ cZ)) (mth : Int32) (mst : Nat → Int32) (mse : Nat → Int32) (mla : Int32) (mmo : Nat → Int32) (mrc : Int32) (mro : Nat → Int32) (mrt : Nat → Int32) (mrm : Nat → Int32) (mrl : Nat → Int64) (mrh : Nat → Int64) (mwk : Nat → Int32) (mwt : Nat → Int32) (mwm : Nat → Int32) (mwl : Nat → Int64) (mwh : Nat → Int64) (mwi : Nat → Int32) (mwc : Nat → Int32) (mwx : Nat → Int32) (mar : Int32) (mli : Int32) (mgr : Int32) (mgo : Nat → Int32) (mre : Nat → Int32) (mfr : Int32) (a1 : Int32) (a2 : Int32) (a3 : Int64) (r : Int32) (o_mth : Int32) (hF : F_M_right mth mmo mrc mro mrt mrm mrl mrh a1 a2 a3 = some (r, o_mth)) {H : Heap} {locs : List Loc} {ls : Array Slot} (hP : va_P g kcl (wM cI cJ cZ ad mth mst mse mla mmo mrc mro mrt mrm mrl mrh mwk mwt mwm mwl mwh mwi mwc mwx mar mli mgr mgo mre mfr rest) H) (hD : va_D A (wM cI cJ cZ ad mth mst mse mla mmo mrc mro mrt mrm mrl mrh mwk mwt mwm mwl mwh mwi mwc mwx mar mli mgr mgo mre mfr rest)) (hS : va_S A s.heap H locs) (hl : lv_has ls 9 [(0, .ref (ad 0)), (1, .int a1), (2, .int a2), (3, .long a3)]) : W p l e ({ frames := 1, cells := 0, slots := 0, locals := 23 }) s m args below meth c H locs 0 0 (MQ below (kQi g (kty cI cJ cZ) (wM cI cJ cZ ad o_mth mst mse mla mmo mrc mro mrt mrm mrl mrh mwk mwt mwm mwl mwh mwi mwc mwx mar mli mgr mgo mre mfr rest) A r) args s 0 0 A) (F0 m 0 ls []) := by
  obtain ⟨hx, hb, hr, hml, hown, hts, hlocks, hK, hA, hE⟩ := id K
  unfold F_M_right at hF
  refine lv_aload_n hx hb d_M_right_0 rfl (lv_at hl 0 rfl) ?_
  refine lv_iload_n hx hb d_M_right_1 rfl (lv_at hl 1 rfl) ?_
  obtain ⟨r_1, hG, hF⟩ := ob1_inv hF
  refine ksi K hP hD hS (c_M_isOwner l g (kty cI cJ cZ) (wM cI cJ cZ ad mth mst mse mla mmo mrc mro mrt mrm mrl mrh mwk mwt mwm mwl mwh mwi mwc mwx mar mli mgr mgo mre mfr rest) a1 r_1 hG) wm_757 wm_755 wm_756 wm_50 hd_M_isOwner rfl rfl ⟨Nat.le_of_ble_eq_true rfl, Nat.le_of_ble_eq_true rfl⟩ ⟨Nat.zero_le _, Nat.zero_le _⟩ hl.1 (rest := [.ref (ad 0)]) rfl (Nat.le_of_ble_eq_true rfl) d_M_right_2 (fun H locs hP hD hS => ?_)
  obtain ⟨J20, eJ20, hF⟩ := jn1_inv hF
  have hJ20 : ∀ (s_2 : Int32) (H : Heap) (locs : List Loc) (ls : Array Slot), J20 s_2 = some (r, o_mth) → va_P g kcl (wM cI cJ cZ ad mth mst mse mla mmo mrc mro mrt mrm mrl mrh mwk mwt mwm mwl mwh mwi mwc mwx mar mli mgr mgo mre mfr rest) H → va_D A (wM cI cJ cZ ad mth mst mse mla mmo mrc mro mrt mrm mrl mrh mwk mwt mwm mwl mwh mwi mwc mwx mar mli mgr mgo mre mfr rest) → va_S A s.heap H locs → lv_has ls 9 [(0, .ref (ad 0)), (1, .int a1), (2, .int a2), (3, .long a3)] → W p l e ({ frames := 1, cells := 0, slots := 0, locals := 23 }) s m args below meth c H locs 0 0 (MQ below (kQi g (kty cI cJ cZ) (wM cI cJ cZ ad o_mth mst mse mla mmo mrc mro mrt mrm mrl mrh mwk mwt mwm mwl mwh mwi mwc mwx mar mli mgr mgo mre mfr rest) A r) args s 0 0 A) (F0 m 20 ls [.int s_2, .ref (ad 0)]) := by
    intro s_2 H locs ls hF hP hD hS hl
    rw [eJ20] at hF
    refine lv_iconst (v := 0) hx hb d_M_right_20 (by decide) ?_
    refine lv_iconst (v := 0) hx hb d_M_right_21 (by decide) ?_
    obtain ⟨r_3, mth_4, hG, hF⟩ := ob2_inv hF
    refine kci K hP hD hS (c_M_refused l g cI cJ cZ ad mth mst mse mla mmo mrc mro mrt mrm mrl mrh mwk mwt mwm mwl mwh mwi mwc mwx mar mli mgr mgo mre mfr rest s_2 0 0 r_3 mth_4 hG) wm_761 wm_758 wm_760 wm_20 wm_50 hd_M_refused rfl rfl ⟨Nat.le_of_ble_eq_true rfl, Nat.le_of_ble_eq_true rfl⟩ ⟨Nat.zero_le _, Nat.zero_le _⟩ 3 0 rfl rfl rfl hl.1 (rest := []) rfl (Nat.le_of_ble_eq_true rfl) d_M_right_22 (fun H locs hP hD hS => ?_)
    refine lv_if_eq (tgt := 30) hx hb d_M_right_25 (by decide) (fun hc_5 => ?_) (fun hc_5 => ?_)
    · have hF := it_t hF hc_5
      refine lv_aload_n hx hb d_M_right_30 rfl (lv_at hl 0 rfl) ?_
      refine va_get (D := g) (ci := 3) (v := .ref (ad 3)) (C := kR3) (T := kT3) (N := 25) hx hb hts kw3 hown hK hP 0 rfl rfl 4 (by decide) (hts _ wm_675) (fun _ h9 => h9) rfl d_M_right_31 ?_
      refine lv_bipush (v := 16) hx hb d_M_right_34 (by decide) ?_
      refine lv_iload_n hx hb d_M_right_36 rfl (lv_at hl 1 rfl) ?_
      refine lv_imul hx hb d_M_right_37 ?_
      refine lv_iload_n hx hb d_M_right_38 rfl (lv_at hl 2 rfl) ?_
      refine lv_iadd hx hb d_M_right_39 ?_
      obtain ⟨hg_6, hF⟩ := gd_inv hF
      refine va_iald hx hb hK hP 3 0 rfl rfl hg_6 d_M_right_40 ?_
      refine lv_istore (lv' := [(5, .int (mmo ((16 * a1) + a2).toNatClampNeg)), (0, .ref (ad 0)), (1, .int a1), (2, .int a2), (3, .long a3)]) hx hb d_M_right_41 hl (by decide) rfl (fun ls hl => ?_)
      refine lv_iload hx hb d_M_right_43 (lv_at hl 0 rfl) ?_
      refine lv_iconst (v := 5) hx hb d_M_right_45 (by decide) ?_
      refine lv_icmp_ne (tgt := 53) hx hb d_M_right_46 (by decide) (fun hc_7 => ?_) (fun hc_7 => ?_)
      · have hF := it_f hF hc_7
        refine lv_iload hx hb d_M_right_53 (lv_at hl 0 rfl) ?_
        refine lv_iconst (v := 2) hx hb d_M_right_55 (by decide) ?_
        refine lv_icmp_eq (tgt := 71) hx hb d_M_right_56 (by decide) (fun hc_8 => ?_) (fun hc_8 => ?_)
        · have hF := it_t hF hc_8
          refine lv_iconst (v := 2) hx hb d_M_right_71 (by decide) ?_
          refine lv_goto (tgt := 76) hx hb d_M_right_72 (by decide) ?_
          refine lv_istore (lv' := [(6, .int 2), (5, .int (mmo ((16 * a1) + a2).toNatClampNeg)), (0, .ref (ad 0)), (1, .int a1), (2, .int a2), (3, .long a3)]) hx hb d_M_right_76 hl (by decide) rfl (fun ls hl => ?_)
          refine lv_iconst (v := 0) hx hb d_M_right_78 (by decide) ?_
          refine lv_istore (lv' := [(7, .int 0), (6, .int 2), (5, .int (mmo ((16 * a1) + a2).toNatClampNeg)), (0, .ref (ad 0)), (1, .int a1), (2, .int a2), (3, .long a3)]) hx hb d_M_right_79 hl (by decide) rfl (fun ls hl => ?_)
          obtain ⟨v6_23, hG, hF⟩ := ob1_inv hF
          refine t_M_right_L81 K mth_4 mst mse mla mmo mrc mro mrt mrm mrl mrh mwk mwt mwm mwl mwh mwi mwc mwx mar mli mgr mgo mre mfr a1 a2 a3 fu _ _ _ H locs ls hG hP hD hS (lv_sub hl [3, 4, 5, 6, 1, 0] rfl) (fun H locs ls hP hD hS hl => ?_)
          refine lv_iload hx hb d_M_right_180 (lv_at hl 0 rfl) ?_
          cases hF
          exact kri K hP hD hS d_M_right_182 rfl
        · have hF := it_f hF hc_8
          refine lv_iload hx hb d_M_right_59 (lv_at hl 0 rfl) ?_
          refine lv_iconst (v := 3) hx hb d_M_right_61 (by decide) ?_
          refine lv_icmp_eq (tgt := 71) hx hb d_M_right_62 (by decide) (fun hc_24 => ?_) (fun hc_24 => ?_)
          · have hF := it_t hF hc_24
            refine lv_iconst (v := 2) hx hb d_M_right_71 (by decide) ?_
            refine lv_goto (tgt := 76) hx hb d_M_right_72 (by decide) ?_
            refine lv_istore (lv' := [(6, .int 2), (5, .int (mmo ((16 * a1) + a2).toNatClampNeg)), (0, .ref (ad 0)), (1, .int a1), (2, .int a2), (3, .long a3)]) hx hb d_M_right_76 hl (by decide) rfl (fun ls hl => ?_)
            refine lv_iconst (v := 0) hx hb d_M_right_78 (by decide) ?_
            refine lv_istore (lv' := [(7, .int 0), (6, .int 2), (5, .int (mmo ((16 * a1) + a2).toNatClampNeg)), (0, .ref (ad 0)), (1, .int a1), (2, .int a2), (3, .long a3)]) hx hb d_M_right_79 hl (by decide) rfl (fun ls hl => ?_)
            obtain ⟨v6_25, hG, hF⟩ := ob1_inv hF
            refine t_M_right_L81 K mth_4 mst mse mla mmo mrc mro mrt mrm mrl mrh mwk mwt mwm mwl mwh mwi mwc mwx mar mli mgr mgo mre mfr a1 a2 a3 fu _ _ _ H locs ls hG hP hD hS (lv_sub hl [3, 4, 5, 6, 1, 0] rfl) (fun H locs ls hP hD hS hl => ?_)
            refine lv_iload hx hb d_M_right_180 (lv_at hl 0 rfl) ?_
            cases hF
            exact kri K hP hD hS d_M_right_182 rfl
          · have hF := it_f hF hc_24
            refine lv_iload hx hb d_M_right_65 (lv_at hl 0 rfl) ?_
            refine lv_iconst (v := 4) hx hb d_M_right_67 (by decide) ?_
            refine lv_icmp_ne (tgt := 75) hx hb d_M_right_68 (by decide) (fun hc_26 => ?_) (fun hc_26 => ?_)
            · have hF := it_f hF hc_26
              refine lv_iconst (v := (-1)) hx hb d_M_right_75 (by decide) ?_
              refine lv_istore (lv' := [(6, .int (-1)), (5, .int (mmo ((16 * a1) + a2).toNatClampNeg)), (0, .ref (ad 0)), (1, .int a1), (2, .int a2), (3, .long a3)]) hx hb d_M_right_76 hl (by decide) rfl (fun ls hl => ?_)
              refine lv_iconst (v := 0) hx hb d_M_right_78 (by decide) ?_
              refine lv_istore (lv' := [(7, .int 0), (6, .int (-1)), (5, .int (mmo ((16 * a1) + a2).toNatClampNeg)), (0, .ref (ad 0)), (1, .int a1), (2, .int a2), (3, .long a3)]) hx hb d_M_right_79 hl (by decide) rfl (fun ls hl => ?_)
              obtain ⟨v6_27, hG, hF⟩ := ob1_inv hF
              refine t_M_right_L81 K mth_4 mst mse mla mmo mrc mro mrt mrm mrl mrh mwk mwt mwm mwl mwh mwi mwc mwx mar mli mgr mgo mre mfr a1 a2 a3 fu _ _ _ H locs ls hG hP hD hS (lv_sub hl [3, 4, 5, 6, 1, 0] rfl) (fun H locs ls hP hD hS hl => ?_)
              refine lv_iload hx hb d_M_right_180 (lv_at hl 0 rfl) ?_
              cases hF
              exact kri K hP hD hS d_M_right_182 rfl
            · have hF := it_t hF hc_26
              refine lv_iconst (v := 2) hx hb d_M_right_71 (by decide) ?_
              refine lv_goto (tgt := 76) hx hb d_M_right_72 (by decide) ?_
              refine lv_istore (lv' := [(6, .int 2), (5, .int (mmo ((16 * a1) + a2).toNatClampNeg)), (0, .ref (ad 0)), (1, .int a1), (2, .int a2), (3, .long a3)]) hx hb d_M_right_76 hl (by decide) rfl (fun ls hl => ?_)
              refine lv_iconst (v := 0) hx hb d_M_right_78 (by decide) ?_
              refine lv_istore (lv' := [(7, .int 0), (6, .int 2), (5, .int (mmo ((16 * a1) + a2).toNatClampNeg)), (0, .ref (ad 0)), (1, .int a1), (2, .int a2), (3, .long a3)]) hx hb d_M_right_79 hl (by decide) rfl (fun ls hl => ?_)
              obtain ⟨v6_28, hG, hF⟩ := ob1_inv hF
              refine t_M_right_L81 K mth_4 mst mse mla mmo mrc mro mrt mrm mrl mrh mwk mwt mwm mwl mwh mwi mwc mwx mar mli mgr mgo mre mfr a1 a2 a3 fu _ _ _ H locs ls hG hP hD hS (lv_sub hl [3, 4, 5, 6, 1, 0] rfl) (fun H locs ls hP hD hS hl => ?_)
              refine lv_iload hx hb d_M_right_180 (lv_at hl 0 rfl) ?_
              cases hF
              exact kri K hP hD hS d_M_right_182 rfl
      · have hF := it_t hF hc_7
        refine lv_iconst (v := 5) hx hb d_M_right_49 (by decide) ?_
        refine lv_goto (tgt := 76) hx hb d_M_right_50 (by decide) ?_
        refine lv_istore (lv' := [(6, .int 5), (5, .int (mmo ((16 * a1) + a2).toNatClampNeg)), (0, .ref (ad 0)), (1, .int a1), (2, .int a2), (3, .long a3)]) hx hb d_M_right_76 hl (by decide) rfl (fun ls hl => ?_)
        refine lv_iconst (v := 0) hx hb d_M_right_78 (by decide) ?_
        refine lv_istore (lv' := [(7, .int 0), (6, .int 5), (5, .int (mmo ((16 * a1) + a2).toNatClampNeg)), (0, .ref (ad 0)), (1, .int a1), (2, .int a2), (3, .long a3)]) hx hb d_M_right_79 hl (by decide) rfl (fun ls hl => ?_)
        obtain ⟨v6_29, hG, hF⟩ := ob1_inv hF
        refine t_M_right_L81 K mth_4 mst mse mla mmo mrc mro mrt mrm mrl mrh mwk mwt mwm mwl mwh mwi mwc mwx mar mli mgr mgo mre mfr a1 a2 a3 fu _ _ _ H locs ls hG hP hD hS (lv_sub hl [3, 4, 5, 6, 1, 0] rfl) (fun H locs ls hP hD hS hl => ?_)
        refine lv_iload hx hb d_M_right_180 (lv_at hl 0 rfl) ?_
        cases hF
        exact kri K hP hD hS d_M_right_182 rfl
    · have hF := it_f hF hc_5
      refine lv_iconst (v := 0) hx hb d_M_right_28 (by decide) ?_
      cases hF
      exact kri K hP hD hS d_M_right_29 rfl
  obtain ⟨J15, eJ15, hF⟩ := jn0_inv hF
  have hJ15 : ∀  (H : Heap) (locs : List Loc) (ls : Array Slot), J15  = some (r, o_mth) → va_P g kcl (wM cI cJ cZ ad mth mst mse mla mmo mrc mro mrt mrm mrl mrh mwk mwt mwm mwl mwh mwi mwc mwx mar mli mgr mgo mre mfr rest) H → va_D A (wM cI cJ cZ ad mth mst mse mla mmo mrc mro mrt mrm mrl mrh mwk mwt mwm mwl mwh mwi mwc mwx mar mli mgr mgo mre mfr rest) → va_S A s.heap H locs → lv_has ls 9 [(0, .ref (ad 0)), (1, .int a1), (2, .int a2), (3, .long a3)] → W p l e ({ frames := 1, cells := 0, slots := 0, locals := 23 }) s m args below meth c H locs 0 0 (MQ below (kQi g (kty cI cJ cZ) (wM cI cJ cZ ad o_mth mst mse mla mmo mrc mro mrt mrm mrl mrh mwk mwt mwm mwl mwh mwi mwc mwx mar mli mgr mgo mre mfr rest) A r) args s 0 0 A) (F0 m 15 ls [.ref (ad 0)]) := by
    intro  H locs ls hF hP hD hS hl
    rw [eJ15] at hF
    refine lv_iconst (v := 1) hx hb d_M_right_15 (by decide) ?_
    refine lv_goto (tgt := 20) hx hb d_M_right_16 (by decide) ?_
    exact hJ20 _ H locs ls hF hP hD hS (lv_sub hl [0, 1, 2, 3] rfl)
  refine lv_if_eq (tgt := 15) hx hb d_M_right_5 (by decide) (fun hc_30 => ?_) (fun hc_30 => ?_)
  · have hF := it_t hF hc_30
    exact hJ15  H locs ls hF hP hD hS (lv_sub hl [0, 1, 2, 3] rfl)
  · have hF := it_f hF hc_30
    refine lv_iload_n hx hb d_M_right_8 rfl (lv_at hl 2 rfl) ?_
    obtain ⟨r_31, hG, hF⟩ := ob1_inv hF
    refine ksi K hP hD hS (c_M_isTable l g (kty cI cJ cZ) (wM cI cJ cZ ad mth mst mse mla mmo mrc mro mrt mrm mrl mrh mwk mwt mwm mwl mwh mwi mwc mwx mar mli mgr mgo mre mfr rest) a2 r_31 hG) wm_768 wm_766 wm_767 wm_50 hd_M_isTable rfl rfl ⟨Nat.le_of_ble_eq_true rfl, Nat.le_of_ble_eq_true rfl⟩ ⟨Nat.zero_le _, Nat.zero_le _⟩ hl.1 (rest := [.ref (ad 0)]) rfl (Nat.le_of_ble_eq_true rfl) d_M_right_9 (fun H locs hP hD hS => ?_)
    refine lv_if_ne (tgt := 19) hx hb d_M_right_12 (by decide) (fun hc_32 => ?_) (fun hc_32 => ?_)
    · have hF := it_f hF hc_32
      refine lv_iconst (v := 0) hx hb d_M_right_19 (by decide) ?_
      exact hJ20 _ H locs ls hF hP hD hS (lv_sub hl [0, 1, 2, 3] rfl)
    · have hF := it_t hF hc_32
      exact hJ15  H locs ls hF hP hD hS (lv_sub hl [0, 1, 2, 3] rfl)
theorem c_M_right (l : Launch) (g : va_G) (cI cJ cZ : ClassId) (ad : Nat → Nat) (mth : Int32) (mst : Nat → Int32) (mse : Nat → Int32) (mla : Int32) (mmo : Nat → Int32) (mrc : Int32) (mro : Nat → Int32) (mrt : Nat → Int32) (mrm : Nat → Int32) (mrl : Nat → Int64) (mrh : Nat → Int64) (mwk : Nat → Int32) (mwt : Nat → Int32) (mwm : Nat → Int32) (mwl : Nat → Int64) (mwh : Nat → Int64) (mwi : Nat → Int32) (mwc : Nat → Int32) (mwx : Nat → Int32) (mar : Int32) (mli : Int32) (mgr : Int32) (mgo : Nat → Int32) (mre : Nat → Int32) (mfr : Int32) (rest : va_W) (a1 : Int32) (a2 : Int32) (a3 : Int64) (r : Int32) (o_mth : Int32) (hF : F_M_right mth mmo mrc mro mrt mrm mrl mrh a1 a2 a3 = some (r, o_mth)) : Ci l y_M_right prog_6_method_52_code 9 (some .int) ({ frames := 1, cells := 0, slots := 0, locals := 23 }) [.ref (ad 0), .int a1, .int a2, .long a3] g (kty cI cJ cZ) (wM cI cJ cZ ad mth mst mse mla mmo mrc mro mrt mrm mrl mrh mwk mwt mwm mwl mwh mwi mwc mwx mar mli mgr mgo mre mfr rest) (wM cI cJ cZ ad o_mth mst mse mla mmo mrc mro mrt mrm mrl mrh mwk mwt mwm mwl mwh mwi mwc mwx mar mli mgr mgo mre mfr rest) r :=
  Ci.of (by decide) (Nat.le_of_ble_eq_true rfl) (fun p e s m below meth c A ls K hP hD hS hl => t_M_right K mth mst mse mla mmo mrc mro mrt mrm mrl mrh mwk mwt mwm mwl mwh mwi mwc mwx mar mli mgr mgo mre mfr a1 a2 a3 r o_mth hF hP hD hS hl)
def F_M_queue_L13 (mst : Nat → Int32) (mwi : Nat → Int32) (mwc : Nat → Int32) (v1 : Int32) : Nat → Int32 → Int32 → Option (Int32)
  | 0, _, _ => none
  | n + 1, v2, v3 => if v1 ≤ v3 then some v2 else if v2 < 0 then some v2 else ob1 (F_M_nextBehind mst mwi mwc v2) (fun r_4 => F_M_queue_L13 mst mwi mwc v1 n r_4 (v3 + 1))
def F_M_queue (mth : Int32) (mst : Nat → Int32) (mwi : Nat → Int32) (mwc : Nat → Int32) (a1 : Int32) : Option (Int32 × Int32) :=
  ob1 (F_M_nextBehind mst mwi mwc (-1)) (fun r_1 => ob1 (F_M_queue_L13 mst mwi mwc a1 fu r_1 0) (fun v2_5 => if 0 ≤ a1 then some (v2_5, 0) else some ((-1), 0)))
set_option maxHeartbeats 4000000 in
set_option maxRecDepth 100000 in
theorem t_M_queue_L13 {p : Program} {l : Launch} {e : Env} {s : State} {m : MethodId} {args : Array Value} {below : List Frame} {meth : Method} {c : Code} {A : Nat → Prop} {g : va_G} {cI cJ cZ : ClassId} {ad : Nat → Nat} {rest : va_W} (K : kX p s m args meth c "LockTableModel" prog_6_method_53_code 4 (some .int) A g (kty cI cJ cZ)) {Q : State → Prop} (mth : Int32) (mst : Nat → Int32) (mse : Nat → Int32) (mla : Int32) (mmo : Nat → Int32) (mrc : Int32) (mro : Nat → Int32) (mrt : Nat → Int32) (mrm : Nat → Int32) (mrl : Nat → Int64) (mrh : Nat → Int64) (mwk : Nat → Int32) (mwt : Nat → Int32) (mwm : Nat → Int32) (mwl : Nat → Int64) (mwh : Nat → Int64) (mwi : Nat → Int32) (mwc : Nat → Int32) (mwx : Nat → Int32) (mar : Int32) (mli : Int32) (mgr : Int32) (mgo : Nat → Int32) (mre : Nat → Int32) (mfr : Int32) (v1 : Int32) : ∀ (n : Nat) (v2 : Int32) (v3 : Int32) (o_v2 : Int32) (H : Heap) (locs : List Loc) (ls : Array Slot), F_M_queue_L13 mst mwi mwc v1 n v2 v3 = some o_v2 → va_P g kcl (wM cI cJ cZ ad mth mst mse mla mmo mrc mro mrt mrm mrl mrh mwk mwt mwm mwl mwh mwi mwc mwx mar mli mgr mgo mre mfr rest) H → va_D A (wM cI cJ cZ ad mth mst mse mla mmo mrc mro mrt mrm mrl mrh mwk mwt mwm mwl mwh mwi mwc mwx mar mli mgr mgo mre mfr rest) → va_S A s.heap H locs → lv_has ls 4 [(0, .ref (ad 0)), (1, .int v1), (2, .int v2), (3, .int v3)] → (∀ (H : Heap) (locs : List Loc) (ls : Array Slot), va_P g kcl (wM cI cJ cZ ad mth mst mse mla mmo mrc mro mrt mrm mrl mrh mwk mwt mwm mwl mwh mwi mwc mwx mar mli mgr mgo mre mfr rest) H → va_D A (wM cI cJ cZ ad mth mst mse mla mmo mrc mro mrt mrm mrl mrh mwk mwt mwm mwl mwh mwi mwc mwx mar mli mgr mgo mre mfr rest) → va_S A s.heap H locs → lv_has ls 4 [(1, .int v1), (2, .int o_v2)] → W p l e ({ frames := 2, cells := 0, slots := 0, locals := 45 }) s m args below meth c H locs 0 0 Q (F0 m 34 ls [])) → W p l e ({ frames := 2, cells := 0, slots := 0, locals := 45 }) s m args below meth c H locs 0 0 Q (F0 m 13 ls []) := by
  obtain ⟨hx, hb, hr, hml, hown, hts, hlocks, hK, hA, hE⟩ := id K
  intro n
  induction n with
  | zero =>
    intro v2 v3 o_v2 H locs ls hF
    rw [F_M_queue_L13] at hF
    cases hF
  | succ n ih =>
    intro v2 v3 o_v2 H locs ls hF hP hD hS hl hQ
    rw [F_M_queue_L13] at hF
    refine lv_iload_n hx hb d_M_queue_13 rfl (lv_at hl 3 rfl) ?_
    refine lv_iload_n hx hb d_M_queue_14 rfl (lv_at hl 1 rfl) ?_
    refine lv_icmp_ge (tgt := 34) hx hb d_M_queue_15 (by decide) (fun hc_2 => ?_) (fun hc_2 => ?_)
    · have hF := it_t hF hc_2
      cases hF
      exact hQ H locs ls hP hD hS (lv_sub hl [1, 2] rfl)
    · have hF := it_f hF hc_2
      refine lv_iload_n hx hb d_M_queue_18 rfl (lv_at hl 2 rfl) ?_
      refine lv_if_lt (tgt := 34) hx hb d_M_queue_19 (by decide) (fun hc_3 => ?_) (fun hc_3 => ?_)
      · have hF := it_t hF hc_3
        cases hF
        exact hQ H locs ls hP hD hS (lv_sub hl [1, 2] rfl)
      · have hF := it_f hF hc_3
        refine lv_aload_n hx hb d_M_queue_22 rfl (lv_at hl 0 rfl) ?_
        refine lv_iload_n hx hb d_M_queue_23 rfl (lv_at hl 2 rfl) ?_
        obtain ⟨r_4, hG, hF⟩ := ob1_inv hF
        refine kci K hP hD hS (c_M_nextBehind l g cI cJ cZ ad mth mst mse mla mmo mrc mro mrt mrm mrl mrh mwk mwt mwm mwl mwh mwi mwc mwx mar mli mgr mgo mre mfr rest v2 r_4 hG) wm_839 wm_836 wm_838 wm_34 wm_50 hd_M_nextBehind rfl rfl ⟨Nat.le_of_ble_eq_true rfl, Nat.le_of_ble_eq_true rfl⟩ ⟨Nat.zero_le _, Nat.zero_le _⟩ 3 0 rfl rfl rfl hl.1 (rest := []) rfl (Nat.le_of_ble_eq_true rfl) d_M_queue_24 (fun H locs hP hD hS => ?_)
        refine lv_istore_n (lv' := [(2, .int r_4), (0, .ref (ad 0)), (1, .int v1), (3, .int v3)]) hx hb d_M_queue_27 rfl hl (by decide) rfl (fun ls hl => ?_)
        refine lv_iinc (v := v3 + 1) (lv' := [(3, .int (v3 + 1)), (2, .int r_4), (0, .ref (ad 0)), (1, .int v1)]) hx hb d_M_queue_28 hl (k := 3) rfl rfl (by decide) rfl (fun ls hl => ?_)
        refine lv_goto (tgt := 13) hx hb d_M_queue_31 (by decide) ?_
        exact ih _ _ _ H locs ls hF hP hD hS (lv_sub hl [2, 3, 1, 0] rfl) hQ
set_option maxHeartbeats 4000000 in
set_option maxRecDepth 100000 in
theorem t_M_queue {p : Program} {l : Launch} {e : Env} {s : State} {m : MethodId} {args : Array Value} {below : List Frame} {meth : Method} {c : Code} {A : Nat → Prop} {g : va_G} {cI cJ cZ : ClassId} {ad : Nat → Nat} {rest : va_W} (K : kX p s m args meth c "LockTableModel" prog_6_method_53_code 4 (some .int) A g (kty cI cJ cZ)) (mth : Int32) (mst : Nat → Int32) (mse : Nat → Int32) (mla : Int32) (mmo : Nat → Int32) (mrc : Int32) (mro : Nat → Int32) (mrt : Nat → Int32) (mrm : Nat → Int32) (mrl : Nat → Int64) (mrh : Nat → Int64) (mwk : Nat → Int32) (mwt : Nat → Int32) (mwm : Nat → Int32) (mwl : Nat → Int64) (mwh : Nat → Int64) (mwi : Nat → Int32) (mwc : Nat → Int32) (mwx : Nat → Int32) (mar : Int32) (mli : Int32) (mgr : Int32) (mgo : Nat → Int32) (mre : Nat → Int32) (mfr : Int32) (a1 : Int32) (r : Int32) (o_mth : Int32) (hF : F_M_queue mth mst mwi mwc a1 = some (r, o_mth)) {H : Heap} {locs : List Loc} {ls : Array Slot} (hP : va_P g kcl (wM cI cJ cZ ad mth mst mse mla mmo mrc mro mrt mrm mrl mrh mwk mwt mwm mwl mwh mwi mwc mwx mar mli mgr mgo mre mfr rest) H) (hD : va_D A (wM cI cJ cZ ad mth mst mse mla mmo mrc mro mrt mrm mrl mrh mwk mwt mwm mwl mwh mwi mwc mwx mar mli mgr mgo mre mfr rest)) (hS : va_S A s.heap H locs) (hl : lv_has ls 4 [(0, .ref (ad 0)), (1, .int a1)]) : W p l e ({ frames := 2, cells := 0, slots := 0, locals := 45 }) s m args below meth c H locs 0 0 (MQ below (kQi g (kty cI cJ cZ) (wM cI cJ cZ ad o_mth mst mse mla mmo mrc mro mrt mrm mrl mrh mwk mwt mwm mwl mwh mwi mwc mwx mar mli mgr mgo mre mfr rest) A r) args s 0 0 A) (F0 m 0 ls []) := by
  obtain ⟨hx, hb, hr, hml, hown, hts, hlocks, hK, hA, hE⟩ := id K
  unfold F_M_queue at hF
  refine lv_aload_n hx hb d_M_queue_0 rfl (lv_at hl 0 rfl) ?_
  refine lv_iconst (v := 0) hx hb d_M_queue_1 (by decide) ?_
  refine va_put (D := g) (ci := 3) (v := .int 0) (ty := .int) (C := kR3) (T := kT3) (N := 25) hx hb hts kw3 kt3 ko3 kn3 hown hK hP hD hS 0 rfl rfl 0 (by decide) (hts _ wm_671) (fun _ h9 => h9) rfl (by decide +kernel) rfl rfl (Nat.le_of_ble_eq_true rfl) d_M_queue_2 (fun H locs hP hD hS => ?_)
  have hP : va_P g kcl (wM cI cJ cZ ad 0 mst mse mla mmo mrc mro mrt mrm mrl mrh mwk mwt mwm mwl mwh mwi mwc mwx mar mli mgr mgo mre mfr rest) H := hP
  have hD : va_D A (wM cI cJ cZ ad 0 mst mse mla mmo mrc mro mrt mrm mrl mrh mwk mwt mwm mwl mwh mwi mwc mwx mar mli mgr mgo mre mfr rest) := hD
  refine lv_aload_n hx hb d_M_queue_5 rfl (lv_at hl 0 rfl) ?_
  refine lv_iconst (v := (-1)) hx hb d_M_queue_6 (by decide) ?_
  obtain ⟨r_1, hG, hF⟩ := ob1_inv hF
  refine kci K hP hD hS (c_M_nextBehind l g cI cJ cZ ad 0 mst mse mla mmo mrc mro mrt mrm mrl mrh mwk mwt mwm mwl mwh mwi mwc mwx mar mli mgr mgo mre mfr rest (-1) r_1 hG) wm_839 wm_836 wm_838 wm_34 wm_50 hd_M_nextBehind rfl rfl ⟨Nat.le_of_ble_eq_true rfl, Nat.le_of_ble_eq_true rfl⟩ ⟨Nat.zero_le _, Nat.zero_le _⟩ 3 0 rfl rfl rfl hl.1 (rest := []) rfl (Nat.le_of_ble_eq_true rfl) d_M_queue_7 (fun H locs hP hD hS => ?_)
  refine lv_istore_n (lv' := [(2, .int r_1), (0, .ref (ad 0)), (1, .int a1)]) hx hb d_M_queue_10 rfl hl (by decide) rfl (fun ls hl => ?_)
  refine lv_iconst (v := 0) hx hb d_M_queue_11 (by decide) ?_
  refine lv_istore_n (lv' := [(3, .int 0), (2, .int r_1), (0, .ref (ad 0)), (1, .int a1)]) hx hb d_M_queue_12 rfl hl (by decide) rfl (fun ls hl => ?_)
  obtain ⟨v2_5, hG, hF⟩ := ob1_inv hF
  refine t_M_queue_L13 K 0 mst mse mla mmo mrc mro mrt mrm mrl mrh mwk mwt mwm mwl mwh mwi mwc mwx mar mli mgr mgo mre mfr a1 fu _ _ _ H locs ls hG hP hD hS (lv_sub hl [2, 3, 1, 0] rfl) (fun H locs ls hP hD hS hl => ?_)
  refine lv_iload_n hx hb d_M_queue_34 rfl (lv_at hl 0 rfl) ?_
  refine lv_if_ge (tgt := 42) hx hb d_M_queue_35 (by decide) (fun hc_6 => ?_) (fun hc_6 => ?_)
  · have hF := it_t hF hc_6
    refine lv_iload_n hx hb d_M_queue_42 rfl (lv_at hl 1 rfl) ?_
    cases hF
    exact kri K hP hD hS d_M_queue_43 rfl
  · have hF := it_f hF hc_6
    refine lv_iconst (v := (-1)) hx hb d_M_queue_38 (by decide) ?_
    refine lv_goto (tgt := 43) hx hb d_M_queue_39 (by decide) ?_
    cases hF
    exact kri K hP hD hS d_M_queue_43 rfl
theorem c_M_queue (l : Launch) (g : va_G) (cI cJ cZ : ClassId) (ad : Nat → Nat) (mth : Int32) (mst : Nat → Int32) (mse : Nat → Int32) (mla : Int32) (mmo : Nat → Int32) (mrc : Int32) (mro : Nat → Int32) (mrt : Nat → Int32) (mrm : Nat → Int32) (mrl : Nat → Int64) (mrh : Nat → Int64) (mwk : Nat → Int32) (mwt : Nat → Int32) (mwm : Nat → Int32) (mwl : Nat → Int64) (mwh : Nat → Int64) (mwi : Nat → Int32) (mwc : Nat → Int32) (mwx : Nat → Int32) (mar : Int32) (mli : Int32) (mgr : Int32) (mgo : Nat → Int32) (mre : Nat → Int32) (mfr : Int32) (rest : va_W) (a1 : Int32) (r : Int32) (o_mth : Int32) (hF : F_M_queue mth mst mwi mwc a1 = some (r, o_mth)) : Ci l y_M_queue prog_6_method_53_code 4 (some .int) ({ frames := 2, cells := 0, slots := 0, locals := 45 }) [.ref (ad 0), .int a1] g (kty cI cJ cZ) (wM cI cJ cZ ad mth mst mse mla mmo mrc mro mrt mrm mrl mrh mwk mwt mwm mwl mwh mwi mwc mwx mar mli mgr mgo mre mfr rest) (wM cI cJ cZ ad o_mth mst mse mla mmo mrc mro mrt mrm mrl mrh mwk mwt mwm mwl mwh mwi mwc mwx mar mli mgr mgo mre mfr rest) r :=
  Ci.of (by decide) (Nat.le_of_ble_eq_true rfl) (fun p e s m below meth c A ls K hP hD hS hl => t_M_queue K mth mst mse mla mmo mrc mro mrt mrm mrl mrh mwk mwt mwm mwl mwh mwi mwc mwx mar mli mgr mgo mre mfr a1 r o_mth hF hP hD hS hl)
def F_M_wants (mth : Int32) (mst : Nat → Int32) (mwk : Nat → Int32) (mwt : Nat → Int32) (mwm : Nat → Int32) (mwi : Nat → Int32) (mwx : Nat → Int32) (a1 : Int32) (a2 : Int32) : Option (Int32 × Int32) :=
  ob1 (F_M_isOwner a1) (fun r_1 => jn1 (fun (s_2 : Int32) => ob1 (F_M_isOwner a1) (fun r_3 => jn2 (fun (s_4 : Int32) (s_5 : Int32) => ob2 (F_M_refused mth s_4 s_5 0) (fun r_6 mth_7 => if r_6 = 0 then if a2 = 0 then gd (a1 < 0 ∨ 8 ≤ a1.toNatClampNeg) (some (mwt a1.toNatClampNeg, mth_7)) else if a2 = 1 then gd (a1 < 0 ∨ 8 ≤ a1.toNatClampNeg) (if (mwk a1.toNatClampNeg) = 1 then some (1, mth_7) else some (0, mth_7)) else if a2 = 2 then gd (a1 < 0 ∨ 8 ≤ a1.toNatClampNeg) (some (mwm a1.toNatClampNeg, mth_7)) else if a2 = 3 then gd (a1 < 0 ∨ 8 ≤ a1.toNatClampNeg) (if (mwi a1.toNatClampNeg) = 0 then some (0, mth_7) else some (1, mth_7)) else if a2 = 4 then gd (a1 < 0 ∨ 8 ≤ a1.toNatClampNeg) (if (mwk a1.toNatClampNeg) = 2 then some (1, mth_7) else some (0, mth_7)) else gd (a1 < 0 ∨ 8 ≤ a1.toNatClampNeg) (some (mwx a1.toNatClampNeg, mth_7)) else some (0, mth_7))) (fun J44 => jn1 (fun (s_23 : Int32) => J44 s_23 0) (fun J43 => if r_3 = 0 then J43 s_2 else gd (a1 < 0 ∨ 8 ≤ a1.toNatClampNeg) (if (mst a1.toNatClampNeg) = 2 then J43 s_2 else J44 s_2 1))))) (fun J22 => jn0 (J22 1) (fun J17 => if r_1 = 0 then J17  else if a2 < 0 then J17  else if a2 ≤ 5 then J22 0 else J17 )))
set_option maxHeartbeats 4000000 in
set_option maxRecDepth 100000 in
theorem t_M_wants {p : Program} {l : Launch} {e : Env} {s : State} {m : MethodId} {args : Array Value} {below : List Frame} {meth : Method} {c : Code} {A : Nat → Prop} {g : va_G} {cI cJ cZ : ClassId} {ad : Nat → Nat} {rest : va_W} (K : kX p s m args meth c "LockTableModel" prog_6_method_54_code 3 (some .int) A g (kty cI cJ cZ)) (mth : Int32) (mst : Nat → Int32) (mse : Nat → Int32) (mla : Int32) (mmo : Nat → Int32) (mrc : Int32) (mro : Nat → Int32) (mrt : Nat → Int32) (mrm : Nat → Int32) (mrl : Nat → Int64) (mrh : Nat → Int64) (mwk : Nat → Int32) (mwt : Nat → Int32) (mwm : Nat → Int32) (mwl : Nat → Int64) (mwh : Nat → Int64) (mwi : Nat → Int32) (mwc : Nat → Int32) (mwx : Nat → Int32) (mar : Int32) (mli : Int32) (mgr : Int32) (mgo : Nat → Int32) (mre : Nat → Int32) (mfr : Int32) (a1 : Int32) (a2 : Int32) (r : Int32) (o_mth : Int32) (hF : F_M_wants mth mst mwk mwt mwm mwi mwx a1 a2 = some (r, o_mth)) {H : Heap} {locs : List Loc} {ls : Array Slot} (hP : va_P g kcl (wM cI cJ cZ ad mth mst mse mla mmo mrc mro mrt mrm mrl mrh mwk mwt mwm mwl mwh mwi mwc mwx mar mli mgr mgo mre mfr rest) H) (hD : va_D A (wM cI cJ cZ ad mth mst mse mla mmo mrc mro mrt mrm mrl mrh mwk mwt mwm mwl mwh mwi mwc mwx mar mli mgr mgo mre mfr rest)) (hS : va_S A s.heap H locs) (hl : lv_has ls 3 [(0, .ref (ad 0)), (1, .int a1), (2, .int a2)]) : W p l e ({ frames := 1, cells := 0, slots := 0, locals := 23 }) s m args below meth c H locs 0 0 (MQ below (kQi g (kty cI cJ cZ) (wM cI cJ cZ ad o_mth mst mse mla mmo mrc mro mrt mrm mrl mrh mwk mwt mwm mwl mwh mwi mwc mwx mar mli mgr mgo mre mfr rest) A r) args s 0 0 A) (F0 m 0 ls []) := by
  obtain ⟨hx, hb, hr, hml, hown, hts, hlocks, hK, hA, hE⟩ := id K
  unfold F_M_wants at hF
  refine lv_aload_n hx hb d_M_wants_0 rfl (lv_at hl 0 rfl) ?_
  refine lv_iload_n hx hb d_M_wants_1 rfl (lv_at hl 1 rfl) ?_
  obtain ⟨r_1, hG, hF⟩ := ob1_inv hF
  refine ksi K hP hD hS (c_M_isOwner l g (kty cI cJ cZ) (wM cI cJ cZ ad mth mst mse mla mmo mrc mro mrt mrm mrl mrh mwk mwt mwm mwl mwh mwi mwc mwx mar mli mgr mgo mre mfr rest) a1 r_1 hG) wm_757 wm_755 wm_756 wm_50 hd_M_isOwner rfl rfl ⟨Nat.le_of_ble_eq_true rfl, Nat.le_of_ble_eq_true rfl⟩ ⟨Nat.zero_le _, Nat.zero_le _⟩ hl.1 (rest := [.ref (ad 0)]) rfl (Nat.le_of_ble_eq_true rfl) d_M_wants_2 (fun H locs hP hD hS => ?_)
  obtain ⟨J22, eJ22, hF⟩ := jn1_inv hF
  have hJ22 : ∀ (s_2 : Int32) (H : Heap) (locs : List Loc) (ls : Array Slot), J22 s_2 = some (r, o_mth) → va_P g kcl (wM cI cJ cZ ad mth mst mse mla mmo mrc mro mrt mrm mrl mrh mwk mwt mwm mwl mwh mwi mwc mwx mar mli mgr mgo mre mfr rest) H → va_D A (wM cI cJ cZ ad mth mst mse mla mmo mrc mro mrt mrm mrl mrh mwk mwt mwm mwl mwh mwi mwc mwx mar mli mgr mgo mre mfr rest) → va_S A s.heap H locs → lv_has ls 3 [(0, .ref (ad 0)), (1, .int a1), (2, .int a2)] → W p l e ({ frames := 1, cells := 0, slots := 0, locals := 23 }) s m args below meth c H locs 0 0 (MQ below (kQi g (kty cI cJ cZ) (wM cI cJ cZ ad o_mth mst mse mla mmo mrc mro mrt mrm mrl mrh mwk mwt mwm mwl mwh mwi mwc mwx mar mli mgr mgo mre mfr rest) A r) args s 0 0 A) (F0 m 22 ls [.int s_2, .ref (ad 0)]) := by
    intro s_2 H locs ls hF hP hD hS hl
    rw [eJ22] at hF
    refine lv_iload_n hx hb d_M_wants_22 rfl (lv_at hl 1 rfl) ?_
    obtain ⟨r_3, hG, hF⟩ := ob1_inv hF
    refine ksi K hP hD hS (c_M_isOwner l g (kty cI cJ cZ) (wM cI cJ cZ ad mth mst mse mla mmo mrc mro mrt mrm mrl mrh mwk mwt mwm mwl mwh mwi mwc mwx mar mli mgr mgo mre mfr rest) a1 r_3 hG) wm_757 wm_755 wm_756 wm_50 hd_M_isOwner rfl rfl ⟨Nat.le_of_ble_eq_true rfl, Nat.le_of_ble_eq_true rfl⟩ ⟨Nat.zero_le _, Nat.zero_le _⟩ hl.1 (rest := [.int s_2, .ref (ad 0)]) rfl (Nat.le_of_ble_eq_true rfl) d_M_wants_23 (fun H locs hP hD hS => ?_)
    obtain ⟨J44, eJ44, hF⟩ := jn2_inv hF
    have hJ44 : ∀ (s_4 : Int32) (s_5 : Int32) (H : Heap) (locs : List Loc) (ls : Array Slot), J44 s_4 s_5 = some (r, o_mth) → va_P g kcl (wM cI cJ cZ ad mth mst mse mla mmo mrc mro mrt mrm mrl mrh mwk mwt mwm mwl mwh mwi mwc mwx mar mli mgr mgo mre mfr rest) H → va_D A (wM cI cJ cZ ad mth mst mse mla mmo mrc mro mrt mrm mrl mrh mwk mwt mwm mwl mwh mwi mwc mwx mar mli mgr mgo mre mfr rest) → va_S A s.heap H locs → lv_has ls 3 [(0, .ref (ad 0)), (1, .int a1), (2, .int a2)] → W p l e ({ frames := 1, cells := 0, slots := 0, locals := 23 }) s m args below meth c H locs 0 0 (MQ below (kQi g (kty cI cJ cZ) (wM cI cJ cZ ad o_mth mst mse mla mmo mrc mro mrt mrm mrl mrh mwk mwt mwm mwl mwh mwi mwc mwx mar mli mgr mgo mre mfr rest) A r) args s 0 0 A) (F0 m 44 ls [.int s_5, .int s_4, .ref (ad 0)]) := by
      intro s_4 s_5 H locs ls hF hP hD hS hl
      rw [eJ44] at hF
      refine lv_iconst (v := 0) hx hb d_M_wants_44 (by decide) ?_
      obtain ⟨r_6, mth_7, hG, hF⟩ := ob2_inv hF
      refine kci K hP hD hS (c_M_refused l g cI cJ cZ ad mth mst mse mla mmo mrc mro mrt mrm mrl mrh mwk mwt mwm mwl mwh mwi mwc mwx mar mli mgr mgo mre mfr rest s_4 s_5 0 r_6 mth_7 hG) wm_761 wm_758 wm_760 wm_20 wm_50 hd_M_refused rfl rfl ⟨Nat.le_of_ble_eq_true rfl, Nat.le_of_ble_eq_true rfl⟩ ⟨Nat.zero_le _, Nat.zero_le _⟩ 3 0 rfl rfl rfl hl.1 (rest := []) rfl (Nat.le_of_ble_eq_true rfl) d_M_wants_45 (fun H locs hP hD hS => ?_)
      refine lv_if_eq (tgt := 53) hx hb d_M_wants_48 (by decide) (fun hc_8 => ?_) (fun hc_8 => ?_)
      · have hF := it_t hF hc_8
        refine lv_iload_n hx hb d_M_wants_53 rfl (lv_at hl 2 rfl) ?_
        by_cases hw_9 : a2 = 0
        · have hF := it_t hF hw_9
          refine lv_tableIn (off := 34) (tgt := 88) hx hb d_M_wants_54 (by rw [hw_9]; decide) (by rw [hw_9]; decide) (by rw [hw_9]; decide) (by decide) ?_
          refine lv_aload_n hx hb d_M_wants_88 rfl (lv_at hl 0 rfl) ?_
          refine va_get (D := g) (ci := 3) (v := .ref (ad 10)) (C := kR3) (T := kT3) (N := 25) hx hb hts kw3 hown hK hP 0 rfl rfl 12 (by decide) (hts _ wm_683) (fun _ h9 => h9) rfl d_M_wants_89 ?_
          refine lv_iload_n hx hb d_M_wants_92 rfl (lv_at hl 1 rfl) ?_
          obtain ⟨hg_10, hF⟩ := gd_inv hF
          refine va_iald hx hb hK hP 10 0 rfl rfl hg_10 d_M_wants_93 ?_
          cases hF
          exact kri K hP hD hS d_M_wants_94 rfl
        replace hF := it_f hF hw_9
        by_cases hw_11 : a2 = 1
        · have hF := it_t hF hw_11
          refine lv_tableIn (off := 41) (tgt := 95) hx hb d_M_wants_54 (by rw [hw_11]; decide) (by rw [hw_11]; decide) (by rw [hw_11]; decide) (by decide) ?_
          refine lv_aload_n hx hb d_M_wants_95 rfl (lv_at hl 0 rfl) ?_
          refine va_get (D := g) (ci := 3) (v := .ref (ad 9)) (C := kR3) (T := kT3) (N := 25) hx hb hts kw3 hown hK hP 0 rfl rfl 11 (by decide) (hts _ wm_682) (fun _ h9 => h9) rfl d_M_wants_96 ?_
          refine lv_iload_n hx hb d_M_wants_99 rfl (lv_at hl 1 rfl) ?_
          obtain ⟨hg_12, hF⟩ := gd_inv hF
          refine va_iald hx hb hK hP 9 0 rfl rfl hg_12 d_M_wants_100 ?_
          refine lv_iconst (v := 1) hx hb d_M_wants_101 (by decide) ?_
          refine lv_icmp_ne (tgt := 109) hx hb d_M_wants_102 (by decide) (fun hc_13 => ?_) (fun hc_13 => ?_)
          · have hF := it_f hF hc_13
            refine lv_iconst (v := 0) hx hb d_M_wants_109 (by decide) ?_
            cases hF
            exact kri K hP hD hS d_M_wants_110 rfl
          · have hF := it_t hF hc_13
            refine lv_iconst (v := 1) hx hb d_M_wants_105 (by decide) ?_
            refine lv_goto (tgt := 110) hx hb d_M_wants_106 (by decide) ?_
            cases hF
            exact kri K hP hD hS d_M_wants_110 rfl
        replace hF := it_f hF hw_11
        by_cases hw_14 : a2 = 2
        · have hF := it_t hF hw_14
          refine lv_tableIn (off := 57) (tgt := 111) hx hb d_M_wants_54 (by rw [hw_14]; decide) (by rw [hw_14]; decide) (by rw [hw_14]; decide) (by decide) ?_
          refine lv_aload_n hx hb d_M_wants_111 rfl (lv_at hl 0 rfl) ?_
          refine va_get (D := g) (ci := 3) (v := .ref (ad 11)) (C := kR3) (T := kT3) (N := 25) hx hb hts kw3 hown hK hP 0 rfl rfl 13 (by decide) (hts _ wm_684) (fun _ h9 => h9) rfl d_M_wants_112 ?_
          refine lv_iload_n hx hb d_M_wants_115 rfl (lv_at hl 1 rfl) ?_
          obtain ⟨hg_15, hF⟩ := gd_inv hF
          refine va_iald hx hb hK hP 11 0 rfl rfl hg_15 d_M_wants_116 ?_
          cases hF
          exact kri K hP hD hS d_M_wants_117 rfl
        replace hF := it_f hF hw_14
        by_cases hw_16 : a2 = 3
        · have hF := it_t hF hw_16
          refine lv_tableIn (off := 64) (tgt := 118) hx hb d_M_wants_54 (by rw [hw_16]; decide) (by rw [hw_16]; decide) (by rw [hw_16]; decide) (by decide) ?_
          refine lv_aload_n hx hb d_M_wants_118 rfl (lv_at hl 0 rfl) ?_
          refine va_get (D := g) (ci := 3) (v := .ref (ad 14)) (C := kR3) (T := kT3) (N := 25) hx hb hts kw3 hown hK hP 0 rfl rfl 16 (by decide) (hts _ wm_687) (fun _ h9 => h9) rfl d_M_wants_119 ?_
          refine lv_iload_n hx hb d_M_wants_122 rfl (lv_at hl 1 rfl) ?_
          obtain ⟨hg_17, hF⟩ := gd_inv hF
          refine va_zald hx hb hK hP 14 2 rfl rfl hg_17 d_M_wants_123 ?_
          refine lv_if_eq (tgt := 131) hx hb d_M_wants_124 (by decide) (fun hc_18 => ?_) (fun hc_18 => ?_)
          · have hF := it_t hF hc_18
            refine lv_iconst (v := 0) hx hb d_M_wants_131 (by decide) ?_
            cases hF
            exact kri K hP hD hS d_M_wants_132 rfl
          · have hF := it_f hF hc_18
            refine lv_iconst (v := 1) hx hb d_M_wants_127 (by decide) ?_
            refine lv_goto (tgt := 132) hx hb d_M_wants_128 (by decide) ?_
            cases hF
            exact kri K hP hD hS d_M_wants_132 rfl
        replace hF := it_f hF hw_16
        by_cases hw_19 : a2 = 4
        · have hF := it_t hF hw_19
          refine lv_tableIn (off := 79) (tgt := 133) hx hb d_M_wants_54 (by rw [hw_19]; decide) (by rw [hw_19]; decide) (by rw [hw_19]; decide) (by decide) ?_
          refine lv_aload_n hx hb d_M_wants_133 rfl (lv_at hl 0 rfl) ?_
          refine va_get (D := g) (ci := 3) (v := .ref (ad 9)) (C := kR3) (T := kT3) (N := 25) hx hb hts kw3 hown hK hP 0 rfl rfl 11 (by decide) (hts _ wm_682) (fun _ h9 => h9) rfl d_M_wants_134 ?_
          refine lv_iload_n hx hb d_M_wants_137 rfl (lv_at hl 1 rfl) ?_
          obtain ⟨hg_20, hF⟩ := gd_inv hF
          refine va_iald hx hb hK hP 9 0 rfl rfl hg_20 d_M_wants_138 ?_
          refine lv_iconst (v := 2) hx hb d_M_wants_139 (by decide) ?_
          refine lv_icmp_ne (tgt := 147) hx hb d_M_wants_140 (by decide) (fun hc_21 => ?_) (fun hc_21 => ?_)
          · have hF := it_f hF hc_21
            refine lv_iconst (v := 0) hx hb d_M_wants_147 (by decide) ?_
            cases hF
            exact kri K hP hD hS d_M_wants_148 rfl
          · have hF := it_t hF hc_21
            refine lv_iconst (v := 1) hx hb d_M_wants_143 (by decide) ?_
            refine lv_goto (tgt := 148) hx hb d_M_wants_144 (by decide) ?_
            cases hF
            exact kri K hP hD hS d_M_wants_148 rfl
        replace hF := it_f hF hw_19
        have hw_9 := lv_neT (a := 0) hw_9 (by decide)
        have hw_11 := lv_neT (a := 1) hw_11 (by decide)
        have hw_14 := lv_neT (a := 2) hw_14 (by decide)
        have hw_16 := lv_neT (a := 3) hw_16 (by decide)
        have hw_19 := lv_neT (a := 4) hw_19 (by decide)
        refine lv_tableOut (tgt := 149) hx hb d_M_wants_54 (by omega) (by decide) ?_
        refine lv_aload_n hx hb d_M_wants_149 rfl (lv_at hl 0 rfl) ?_
        refine va_get (D := g) (ci := 3) (v := .ref (ad 16)) (C := kR3) (T := kT3) (N := 25) hx hb hts kw3 hown hK hP 0 rfl rfl 18 (by decide) (hts _ wm_689) (fun _ h9 => h9) rfl d_M_wants_150 ?_
        refine lv_iload_n hx hb d_M_wants_153 rfl (lv_at hl 1 rfl) ?_
        obtain ⟨hg_22, hF⟩ := gd_inv hF
        refine va_iald hx hb hK hP 16 0 rfl rfl hg_22 d_M_wants_154 ?_
        cases hF
        exact kri K hP hD hS d_M_wants_155 rfl
      · have hF := it_f hF hc_8
        refine lv_iconst (v := 0) hx hb d_M_wants_51 (by decide) ?_
        cases hF
        exact kri K hP hD hS d_M_wants_52 rfl
    obtain ⟨J43, eJ43, hF⟩ := jn1_inv hF
    have hJ43 : ∀ (s_23 : Int32) (H : Heap) (locs : List Loc) (ls : Array Slot), J43 s_23 = some (r, o_mth) → va_P g kcl (wM cI cJ cZ ad mth mst mse mla mmo mrc mro mrt mrm mrl mrh mwk mwt mwm mwl mwh mwi mwc mwx mar mli mgr mgo mre mfr rest) H → va_D A (wM cI cJ cZ ad mth mst mse mla mmo mrc mro mrt mrm mrl mrh mwk mwt mwm mwl mwh mwi mwc mwx mar mli mgr mgo mre mfr rest) → va_S A s.heap H locs → lv_has ls 3 [(0, .ref (ad 0)), (1, .int a1), (2, .int a2)] → W p l e ({ frames := 1, cells := 0, slots := 0, locals := 23 }) s m args below meth c H locs 0 0 (MQ below (kQi g (kty cI cJ cZ) (wM cI cJ cZ ad o_mth mst mse mla mmo mrc mro mrt mrm mrl mrh mwk mwt mwm mwl mwh mwi mwc mwx mar mli mgr mgo mre mfr rest) A r) args s 0 0 A) (F0 m 43 ls [.int s_23, .ref (ad 0)]) := by
      intro s_23 H locs ls hF hP hD hS hl
      rw [eJ43] at hF
      refine lv_iconst (v := 0) hx hb d_M_wants_43 (by decide) ?_
      exact hJ44 _ _ H locs ls hF hP hD hS (lv_sub hl [0, 1, 2] rfl)
    refine lv_if_eq (tgt := 43) hx hb d_M_wants_26 (by decide) (fun hc_24 => ?_) (fun hc_24 => ?_)
    · have hF := it_t hF hc_24
      exact hJ43 _ H locs ls hF hP hD hS (lv_sub hl [0, 1, 2] rfl)
    · have hF := it_f hF hc_24
      refine lv_aload_n hx hb d_M_wants_29 rfl (lv_at hl 0 rfl) ?_
      refine va_get (D := g) (ci := 3) (v := .ref (ad 1)) (C := kR3) (T := kT3) (N := 25) hx hb hts kw3 hown hK hP 0 rfl rfl 1 (by decide) (hts _ wm_672) (fun _ h9 => h9) rfl d_M_wants_30 ?_
      refine lv_iload_n hx hb d_M_wants_33 rfl (lv_at hl 1 rfl) ?_
      obtain ⟨hg_25, hF⟩ := gd_inv hF
      refine va_iald hx hb hK hP 1 0 rfl rfl hg_25 d_M_wants_34 ?_
      refine lv_iconst (v := 2) hx hb d_M_wants_35 (by decide) ?_
      refine lv_icmp_eq (tgt := 43) hx hb d_M_wants_36 (by decide) (fun hc_26 => ?_) (fun hc_26 => ?_)
      · have hF := it_t hF hc_26
        exact hJ43 _ H locs ls hF hP hD hS (lv_sub hl [0, 1, 2] rfl)
      · have hF := it_f hF hc_26
        refine lv_iconst (v := 1) hx hb d_M_wants_39 (by decide) ?_
        refine lv_goto (tgt := 44) hx hb d_M_wants_40 (by decide) ?_
        exact hJ44 _ _ H locs ls hF hP hD hS (lv_sub hl [0, 1, 2] rfl)
  obtain ⟨J17, eJ17, hF⟩ := jn0_inv hF
  have hJ17 : ∀  (H : Heap) (locs : List Loc) (ls : Array Slot), J17  = some (r, o_mth) → va_P g kcl (wM cI cJ cZ ad mth mst mse mla mmo mrc mro mrt mrm mrl mrh mwk mwt mwm mwl mwh mwi mwc mwx mar mli mgr mgo mre mfr rest) H → va_D A (wM cI cJ cZ ad mth mst mse mla mmo mrc mro mrt mrm mrl mrh mwk mwt mwm mwl mwh mwi mwc mwx mar mli mgr mgo mre mfr rest) → va_S A s.heap H locs → lv_has ls 3 [(0, .ref (ad 0)), (1, .int a1), (2, .int a2)] → W p l e ({ frames := 1, cells := 0, slots := 0, locals := 23 }) s m args below meth c H locs 0 0 (MQ below (kQi g (kty cI cJ cZ) (wM cI cJ cZ ad o_mth mst mse mla mmo mrc mro mrt mrm mrl mrh mwk mwt mwm mwl mwh mwi mwc mwx mar mli mgr mgo mre mfr rest) A r) args s 0 0 A) (F0 m 17 ls [.ref (ad 0)]) := by
    intro  H locs ls hF hP hD hS hl
    rw [eJ17] at hF
    refine lv_iconst (v := 1) hx hb d_M_wants_17 (by decide) ?_
    refine lv_goto (tgt := 22) hx hb d_M_wants_18 (by decide) ?_
    exact hJ22 _ H locs ls hF hP hD hS (lv_sub hl [0, 1, 2] rfl)
  refine lv_if_eq (tgt := 17) hx hb d_M_wants_5 (by decide) (fun hc_27 => ?_) (fun hc_27 => ?_)
  · have hF := it_t hF hc_27
    exact hJ17  H locs ls hF hP hD hS (lv_sub hl [0, 1, 2] rfl)
  · have hF := it_f hF hc_27
    refine lv_iload_n hx hb d_M_wants_8 rfl (lv_at hl 2 rfl) ?_
    refine lv_if_lt (tgt := 17) hx hb d_M_wants_9 (by decide) (fun hc_28 => ?_) (fun hc_28 => ?_)
    · have hF := it_t hF hc_28
      exact hJ17  H locs ls hF hP hD hS (lv_sub hl [0, 1, 2] rfl)
    · have hF := it_f hF hc_28
      refine lv_iload_n hx hb d_M_wants_12 rfl (lv_at hl 2 rfl) ?_
      refine lv_iconst (v := 5) hx hb d_M_wants_13 (by decide) ?_
      refine lv_icmp_le (tgt := 21) hx hb d_M_wants_14 (by decide) (fun hc_29 => ?_) (fun hc_29 => ?_)
      · have hF := it_t hF hc_29
        refine lv_iconst (v := 0) hx hb d_M_wants_21 (by decide) ?_
        exact hJ22 _ H locs ls hF hP hD hS (lv_sub hl [0, 1, 2] rfl)
      · have hF := it_f hF hc_29
        exact hJ17  H locs ls hF hP hD hS (lv_sub hl [0, 1, 2] rfl)
theorem c_M_wants (l : Launch) (g : va_G) (cI cJ cZ : ClassId) (ad : Nat → Nat) (mth : Int32) (mst : Nat → Int32) (mse : Nat → Int32) (mla : Int32) (mmo : Nat → Int32) (mrc : Int32) (mro : Nat → Int32) (mrt : Nat → Int32) (mrm : Nat → Int32) (mrl : Nat → Int64) (mrh : Nat → Int64) (mwk : Nat → Int32) (mwt : Nat → Int32) (mwm : Nat → Int32) (mwl : Nat → Int64) (mwh : Nat → Int64) (mwi : Nat → Int32) (mwc : Nat → Int32) (mwx : Nat → Int32) (mar : Int32) (mli : Int32) (mgr : Int32) (mgo : Nat → Int32) (mre : Nat → Int32) (mfr : Int32) (rest : va_W) (a1 : Int32) (a2 : Int32) (r : Int32) (o_mth : Int32) (hF : F_M_wants mth mst mwk mwt mwm mwi mwx a1 a2 = some (r, o_mth)) : Ci l y_M_wants prog_6_method_54_code 3 (some .int) ({ frames := 1, cells := 0, slots := 0, locals := 23 }) [.ref (ad 0), .int a1, .int a2] g (kty cI cJ cZ) (wM cI cJ cZ ad mth mst mse mla mmo mrc mro mrt mrm mrl mrh mwk mwt mwm mwl mwh mwi mwc mwx mar mli mgr mgo mre mfr rest) (wM cI cJ cZ ad o_mth mst mse mla mmo mrc mro mrt mrm mrl mrh mwk mwt mwm mwl mwh mwi mwc mwx mar mli mgr mgo mre mfr rest) r :=
  Ci.of (by decide) (Nat.le_of_ble_eq_true rfl) (fun p e s m below meth c A ls K hP hD hS hl => t_M_wants K mth mst mse mla mmo mrc mro mrt mrm mrl mrh mwk mwt mwm mwl mwh mwi mwc mwx mar mli mgr mgo mre mfr a1 a2 r o_mth hF hP hD hS hl)
def F_M_behind (mth : Int32) (mst : Nat → Int32) (mmo : Nat → Int32) (mrc : Int32) (mro : Nat → Int32) (mrt : Nat → Int32) (mrm : Nat → Int32) (mrl : Nat → Int64) (mrh : Nat → Int64) (mwk : Nat → Int32) (mwt : Nat → Int32) (mwm : Nat → Int32) (mwl : Nat → Int64) (mwh : Nat → Int64) (mwi : Nat → Int32) (mwc : Nat → Int32) (a1 : Int32) : Option (Int32 × Int32) :=
  ob1 (F_M_isOwner a1) (fun r_1 => jn1 (fun (s_2 : Int32) => ob2 (F_M_refused mth s_2 0 0) (fun r_3 mth_4 => if r_3 = 0 then ob1 (F_M_behindOf mst mmo mrc mro mrt mrm mrl mrh mwk mwt mwm mwl mwh mwi mwc a1) (fun r_6 => some (r_6, mth_4)) else some (0, mth_4))) (fun J13 => if r_1 = 0 then J13 1 else J13 0))
set_option maxHeartbeats 4000000 in
set_option maxRecDepth 100000 in
theorem t_M_behind {p : Program} {l : Launch} {e : Env} {s : State} {m : MethodId} {args : Array Value} {below : List Frame} {meth : Method} {c : Code} {A : Nat → Prop} {g : va_G} {cI cJ cZ : ClassId} {ad : Nat → Nat} {rest : va_W} (K : kX p s m args meth c "LockTableModel" prog_6_method_55_code 2 (some .int) A g (kty cI cJ cZ)) (mth : Int32) (mst : Nat → Int32) (mse : Nat → Int32) (mla : Int32) (mmo : Nat → Int32) (mrc : Int32) (mro : Nat → Int32) (mrt : Nat → Int32) (mrm : Nat → Int32) (mrl : Nat → Int64) (mrh : Nat → Int64) (mwk : Nat → Int32) (mwt : Nat → Int32) (mwm : Nat → Int32) (mwl : Nat → Int64) (mwh : Nat → Int64) (mwi : Nat → Int32) (mwc : Nat → Int32) (mwx : Nat → Int32) (mar : Int32) (mli : Int32) (mgr : Int32) (mgo : Nat → Int32) (mre : Nat → Int32) (mfr : Int32) (a1 : Int32) (r : Int32) (o_mth : Int32) (hF : F_M_behind mth mst mmo mrc mro mrt mrm mrl mrh mwk mwt mwm mwl mwh mwi mwc a1 = some (r, o_mth)) {H : Heap} {locs : List Loc} {ls : Array Slot} (hP : va_P g kcl (wM cI cJ cZ ad mth mst mse mla mmo mrc mro mrt mrm mrl mrh mwk mwt mwm mwl mwh mwi mwc mwx mar mli mgr mgo mre mfr rest) H) (hD : va_D A (wM cI cJ cZ ad mth mst mse mla mmo mrc mro mrt mrm mrl mrh mwk mwt mwm mwl mwh mwi mwc mwx mar mli mgr mgo mre mfr rest)) (hS : va_S A s.heap H locs) (hl : lv_has ls 2 [(0, .ref (ad 0)), (1, .int a1)]) : W p l e ({ frames := 5, cells := 0, slots := 0, locals := 117 }) s m args below meth c H locs 0 0 (MQ below (kQi g (kty cI cJ cZ) (wM cI cJ cZ ad o_mth mst mse mla mmo mrc mro mrt mrm mrl mrh mwk mwt mwm mwl mwh mwi mwc mwx mar mli mgr mgo mre mfr rest) A r) args s 0 0 A) (F0 m 0 ls []) := by
  obtain ⟨hx, hb, hr, hml, hown, hts, hlocks, hK, hA, hE⟩ := id K
  unfold F_M_behind at hF
  refine lv_aload_n hx hb d_M_behind_0 rfl (lv_at hl 0 rfl) ?_
  refine lv_iload_n hx hb d_M_behind_1 rfl (lv_at hl 1 rfl) ?_
  obtain ⟨r_1, hG, hF⟩ := ob1_inv hF
  refine ksi K hP hD hS (c_M_isOwner l g (kty cI cJ cZ) (wM cI cJ cZ ad mth mst mse mla mmo mrc mro mrt mrm mrl mrh mwk mwt mwm mwl mwh mwi mwc mwx mar mli mgr mgo mre mfr rest) a1 r_1 hG) wm_757 wm_755 wm_756 wm_50 hd_M_isOwner rfl rfl ⟨Nat.le_of_ble_eq_true rfl, Nat.le_of_ble_eq_true rfl⟩ ⟨Nat.zero_le _, Nat.zero_le _⟩ hl.1 (rest := [.ref (ad 0)]) rfl (Nat.le_of_ble_eq_true rfl) d_M_behind_2 (fun H locs hP hD hS => ?_)
  obtain ⟨J13, eJ13, hF⟩ := jn1_inv hF
  have hJ13 : ∀ (s_2 : Int32) (H : Heap) (locs : List Loc) (ls : Array Slot), J13 s_2 = some (r, o_mth) → va_P g kcl (wM cI cJ cZ ad mth mst mse mla mmo mrc mro mrt mrm mrl mrh mwk mwt mwm mwl mwh mwi mwc mwx mar mli mgr mgo mre mfr rest) H → va_D A (wM cI cJ cZ ad mth mst mse mla mmo mrc mro mrt mrm mrl mrh mwk mwt mwm mwl mwh mwi mwc mwx mar mli mgr mgo mre mfr rest) → va_S A s.heap H locs → lv_has ls 2 [(0, .ref (ad 0)), (1, .int a1)] → W p l e ({ frames := 5, cells := 0, slots := 0, locals := 117 }) s m args below meth c H locs 0 0 (MQ below (kQi g (kty cI cJ cZ) (wM cI cJ cZ ad o_mth mst mse mla mmo mrc mro mrt mrm mrl mrh mwk mwt mwm mwl mwh mwi mwc mwx mar mli mgr mgo mre mfr rest) A r) args s 0 0 A) (F0 m 13 ls [.int s_2, .ref (ad 0)]) := by
    intro s_2 H locs ls hF hP hD hS hl
    rw [eJ13] at hF
    refine lv_iconst (v := 0) hx hb d_M_behind_13 (by decide) ?_
    refine lv_iconst (v := 0) hx hb d_M_behind_14 (by decide) ?_
    obtain ⟨r_3, mth_4, hG, hF⟩ := ob2_inv hF
    refine kci K hP hD hS (c_M_refused l g cI cJ cZ ad mth mst mse mla mmo mrc mro mrt mrm mrl mrh mwk mwt mwm mwl mwh mwi mwc mwx mar mli mgr mgo mre mfr rest s_2 0 0 r_3 mth_4 hG) wm_761 wm_758 wm_760 wm_20 wm_50 hd_M_refused rfl rfl ⟨Nat.le_of_ble_eq_true rfl, Nat.le_of_ble_eq_true rfl⟩ ⟨Nat.zero_le _, Nat.zero_le _⟩ 3 0 rfl rfl rfl hl.1 (rest := []) rfl (Nat.le_of_ble_eq_true rfl) d_M_behind_15 (fun H locs hP hD hS => ?_)
    refine lv_if_eq (tgt := 25) hx hb d_M_behind_18 (by decide) (fun hc_5 => ?_) (fun hc_5 => ?_)
    · have hF := it_t hF hc_5
      refine lv_aload_n hx hb d_M_behind_25 rfl (lv_at hl 0 rfl) ?_
      refine lv_iload_n hx hb d_M_behind_26 rfl (lv_at hl 1 rfl) ?_
      obtain ⟨r_6, hG, hF⟩ := ob1_inv hF
      refine kci K hP hD hS (c_M_behindOf l g cI cJ cZ ad mth_4 mst mse mla mmo mrc mro mrt mrm mrl mrh mwk mwt mwm mwl mwh mwi mwc mwx mar mli mgr mgo mre mfr rest a1 r_6 hG) wm_796 wm_793 wm_795 wm_24 wm_50 hd_M_behindOf rfl rfl ⟨Nat.le_of_ble_eq_true rfl, Nat.le_of_ble_eq_true rfl⟩ ⟨Nat.zero_le _, Nat.zero_le _⟩ 3 0 rfl rfl rfl hl.1 (rest := []) rfl (Nat.le_of_ble_eq_true rfl) d_M_behind_27 (fun H locs hP hD hS => ?_)
      cases hF
      exact kri K hP hD hS d_M_behind_30 rfl
    · have hF := it_f hF hc_5
      refine lv_iconst (v := 0) hx hb d_M_behind_21 (by decide) ?_
      refine lv_goto (tgt := 30) hx hb d_M_behind_22 (by decide) ?_
      cases hF
      exact kri K hP hD hS d_M_behind_30 rfl
  refine lv_if_ne (tgt := 12) hx hb d_M_behind_5 (by decide) (fun hc_7 => ?_) (fun hc_7 => ?_)
  · have hF := it_f hF hc_7
    refine lv_iconst (v := 0) hx hb d_M_behind_12 (by decide) ?_
    exact hJ13 _ H locs ls hF hP hD hS (lv_sub hl [0, 1] rfl)
  · have hF := it_t hF hc_7
    refine lv_iconst (v := 1) hx hb d_M_behind_8 (by decide) ?_
    refine lv_goto (tgt := 13) hx hb d_M_behind_9 (by decide) ?_
    exact hJ13 _ H locs ls hF hP hD hS (lv_sub hl [0, 1] rfl)
theorem c_M_behind (l : Launch) (g : va_G) (cI cJ cZ : ClassId) (ad : Nat → Nat) (mth : Int32) (mst : Nat → Int32) (mse : Nat → Int32) (mla : Int32) (mmo : Nat → Int32) (mrc : Int32) (mro : Nat → Int32) (mrt : Nat → Int32) (mrm : Nat → Int32) (mrl : Nat → Int64) (mrh : Nat → Int64) (mwk : Nat → Int32) (mwt : Nat → Int32) (mwm : Nat → Int32) (mwl : Nat → Int64) (mwh : Nat → Int64) (mwi : Nat → Int32) (mwc : Nat → Int32) (mwx : Nat → Int32) (mar : Int32) (mli : Int32) (mgr : Int32) (mgo : Nat → Int32) (mre : Nat → Int32) (mfr : Int32) (rest : va_W) (a1 : Int32) (r : Int32) (o_mth : Int32) (hF : F_M_behind mth mst mmo mrc mro mrt mrm mrl mrh mwk mwt mwm mwl mwh mwi mwc a1 = some (r, o_mth)) : Ci l y_M_behind prog_6_method_55_code 2 (some .int) ({ frames := 5, cells := 0, slots := 0, locals := 117 }) [.ref (ad 0), .int a1] g (kty cI cJ cZ) (wM cI cJ cZ ad mth mst mse mla mmo mrc mro mrt mrm mrl mrh mwk mwt mwm mwl mwh mwi mwc mwx mar mli mgr mgo mre mfr rest) (wM cI cJ cZ ad o_mth mst mse mla mmo mrc mro mrt mrm mrl mrh mwk mwt mwm mwl mwh mwi mwc mwx mar mli mgr mgo mre mfr rest) r :=
  Ci.of (by decide) (Nat.le_of_ble_eq_true rfl) (fun p e s m below meth c A ls K hP hD hS hl => t_M_behind K mth mst mse mla mmo mrc mro mrt mrm mrl mrh mwk mwt mwm mwl mwh mwi mwc mwx mar mli mgr mgo mre mfr a1 r o_mth hF hP hD hS hl)
def F_M_granted (mth : Int32) (mgr : Int32) (mgo : Nat → Int32) (a1 : Int32) : Option (Int32 × Int32) :=
  if a1 < 0 then some ((-1), 0) else if mgr ≤ a1 then some ((-1), 0) else gd (a1 < 0 ∨ 64 ≤ a1.toNatClampNeg) (some (mgo a1.toNatClampNeg, 0))
set_option maxHeartbeats 4000000 in
set_option maxRecDepth 100000 in
theorem t_M_granted {p : Program} {l : Launch} {e : Env} {s : State} {m : MethodId} {args : Array Value} {below : List Frame} {meth : Method} {c : Code} {A : Nat → Prop} {g : va_G} {cI cJ cZ : ClassId} {ad : Nat → Nat} {rest : va_W} (K : kX p s m args meth c "LockTableModel" prog_6_method_56_code 2 (some .int) A g (kty cI cJ cZ)) (mth : Int32) (mst : Nat → Int32) (mse : Nat → Int32) (mla : Int32) (mmo : Nat → Int32) (mrc : Int32) (mro : Nat → Int32) (mrt : Nat → Int32) (mrm : Nat → Int32) (mrl : Nat → Int64) (mrh : Nat → Int64) (mwk : Nat → Int32) (mwt : Nat → Int32) (mwm : Nat → Int32) (mwl : Nat → Int64) (mwh : Nat → Int64) (mwi : Nat → Int32) (mwc : Nat → Int32) (mwx : Nat → Int32) (mar : Int32) (mli : Int32) (mgr : Int32) (mgo : Nat → Int32) (mre : Nat → Int32) (mfr : Int32) (a1 : Int32) (r : Int32) (o_mth : Int32) (hF : F_M_granted mth mgr mgo a1 = some (r, o_mth)) {H : Heap} {locs : List Loc} {ls : Array Slot} (hP : va_P g kcl (wM cI cJ cZ ad mth mst mse mla mmo mrc mro mrt mrm mrl mrh mwk mwt mwm mwl mwh mwi mwc mwx mar mli mgr mgo mre mfr rest) H) (hD : va_D A (wM cI cJ cZ ad mth mst mse mla mmo mrc mro mrt mrm mrl mrh mwk mwt mwm mwl mwh mwi mwc mwx mar mli mgr mgo mre mfr rest)) (hS : va_S A s.heap H locs) (hl : lv_has ls 2 [(0, .ref (ad 0)), (1, .int a1)]) : W p l e ({ frames := 0, cells := 0, slots := 0, locals := 0 }) s m args below meth c H locs 0 0 (MQ below (kQi g (kty cI cJ cZ) (wM cI cJ cZ ad o_mth mst mse mla mmo mrc mro mrt mrm mrl mrh mwk mwt mwm mwl mwh mwi mwc mwx mar mli mgr mgo mre mfr rest) A r) args s 0 0 A) (F0 m 0 ls []) := by
  obtain ⟨hx, hb, hr, hml, hown, hts, hlocks, hK, hA, hE⟩ := id K
  unfold F_M_granted at hF
  refine lv_aload_n hx hb d_M_granted_0 rfl (lv_at hl 0 rfl) ?_
  refine lv_iconst (v := 0) hx hb d_M_granted_1 (by decide) ?_
  refine va_put (D := g) (ci := 3) (v := .int 0) (ty := .int) (C := kR3) (T := kT3) (N := 25) hx hb hts kw3 kt3 ko3 kn3 hown hK hP hD hS 0 rfl rfl 0 (by decide) (hts _ wm_671) (fun _ h9 => h9) rfl (by decide +kernel) rfl rfl (Nat.le_of_ble_eq_true rfl) d_M_granted_2 (fun H locs hP hD hS => ?_)
  have hP : va_P g kcl (wM cI cJ cZ ad 0 mst mse mla mmo mrc mro mrt mrm mrl mrh mwk mwt mwm mwl mwh mwi mwc mwx mar mli mgr mgo mre mfr rest) H := hP
  have hD : va_D A (wM cI cJ cZ ad 0 mst mse mla mmo mrc mro mrt mrm mrl mrh mwk mwt mwm mwl mwh mwi mwc mwx mar mli mgr mgo mre mfr rest) := hD
  refine lv_iload_n hx hb d_M_granted_5 rfl (lv_at hl 1 rfl) ?_
  refine lv_if_lt (tgt := 26) hx hb d_M_granted_6 (by decide) (fun hc_1 => ?_) (fun hc_1 => ?_)
  · have hF := it_t hF hc_1
    refine lv_iconst (v := (-1)) hx hb d_M_granted_26 (by decide) ?_
    cases hF
    exact kri K hP hD hS d_M_granted_27 rfl
  · have hF := it_f hF hc_1
    refine lv_iload_n hx hb d_M_granted_9 rfl (lv_at hl 1 rfl) ?_
    refine lv_aload_n hx hb d_M_granted_10 rfl (lv_at hl 0 rfl) ?_
    refine va_get (D := g) (ci := 3) (v := .int mgr) (C := kR3) (T := kT3) (N := 25) hx hb hts kw3 hown hK hP 0 rfl rfl 21 (by decide) (hts _ wm_692) (fun _ h9 => h9) rfl d_M_granted_11 ?_
    refine lv_icmp_ge (tgt := 26) hx hb d_M_granted_14 (by decide) (fun hc_2 => ?_) (fun hc_2 => ?_)
    · have hF := it_t hF hc_2
      refine lv_iconst (v := (-1)) hx hb d_M_granted_26 (by decide) ?_
      cases hF
      exact kri K hP hD hS d_M_granted_27 rfl
    · have hF := it_f hF hc_2
      refine lv_aload_n hx hb d_M_granted_17 rfl (lv_at hl 0 rfl) ?_
      refine va_get (D := g) (ci := 3) (v := .ref (ad 17)) (C := kR3) (T := kT3) (N := 25) hx hb hts kw3 hown hK hP 0 rfl rfl 22 (by decide) (hts _ wm_693) (fun _ h9 => h9) rfl d_M_granted_18 ?_
      refine lv_iload_n hx hb d_M_granted_21 rfl (lv_at hl 1 rfl) ?_
      obtain ⟨hg_3, hF⟩ := gd_inv hF
      refine va_iald hx hb hK hP 17 0 rfl rfl hg_3 d_M_granted_22 ?_
      refine lv_goto (tgt := 27) hx hb d_M_granted_23 (by decide) ?_
      cases hF
      exact kri K hP hD hS d_M_granted_27 rfl
theorem c_M_granted (l : Launch) (g : va_G) (cI cJ cZ : ClassId) (ad : Nat → Nat) (mth : Int32) (mst : Nat → Int32) (mse : Nat → Int32) (mla : Int32) (mmo : Nat → Int32) (mrc : Int32) (mro : Nat → Int32) (mrt : Nat → Int32) (mrm : Nat → Int32) (mrl : Nat → Int64) (mrh : Nat → Int64) (mwk : Nat → Int32) (mwt : Nat → Int32) (mwm : Nat → Int32) (mwl : Nat → Int64) (mwh : Nat → Int64) (mwi : Nat → Int32) (mwc : Nat → Int32) (mwx : Nat → Int32) (mar : Int32) (mli : Int32) (mgr : Int32) (mgo : Nat → Int32) (mre : Nat → Int32) (mfr : Int32) (rest : va_W) (a1 : Int32) (r : Int32) (o_mth : Int32) (hF : F_M_granted mth mgr mgo a1 = some (r, o_mth)) : Ci l y_M_granted prog_6_method_56_code 2 (some .int) ({ frames := 0, cells := 0, slots := 0, locals := 0 }) [.ref (ad 0), .int a1] g (kty cI cJ cZ) (wM cI cJ cZ ad mth mst mse mla mmo mrc mro mrt mrm mrl mrh mwk mwt mwm mwl mwh mwi mwc mwx mar mli mgr mgo mre mfr rest) (wM cI cJ cZ ad o_mth mst mse mla mmo mrc mro mrt mrm mrl mrh mwk mwt mwm mwl mwh mwi mwc mwx mar mli mgr mgo mre mfr rest) r :=
  Ci.of (by decide) (Nat.le_of_ble_eq_true rfl) (fun p e s m below meth c A ls K hP hD hS hl => t_M_granted K mth mst mse mla mmo mrc mro mrt mrm mrl mrh mwk mwt mwm mwl mwh mwi mwc mwx mar mli mgr mgo mre mfr a1 r o_mth hF hP hD hS hl)
def F_M_join (mth : Int32) (a1 : Int32) (a2 : Int32) : Option (Int32 × Int32) :=
  ob1 (F_M_isMode a1) (fun r_1 => jn1 (fun (s_2 : Int32) => ob2 (F_M_refused mth s_2 0 0) (fun r_3 mth_4 => if r_3 = 0 then ob1 (F_M_joined a1 a2) (fun r_6 => some (r_6, mth_4)) else some (0, mth_4))) (fun J20 => jn0 (J20 1) (fun J15 => if r_1 = 0 then J15  else ob1 (F_M_isMode a2) (fun r_8 => if r_8 = 0 then J15  else J20 0))))
set_option maxHeartbeats 4000000 in
set_option maxRecDepth 100000 in
theorem t_M_join {p : Program} {l : Launch} {e : Env} {s : State} {m : MethodId} {args : Array Value} {below : List Frame} {meth : Method} {c : Code} {A : Nat → Prop} {g : va_G} {cI cJ cZ : ClassId} {ad : Nat → Nat} {rest : va_W} (K : kX p s m args meth c "LockTableModel" prog_6_method_57_code 3 (some .int) A g (kty cI cJ cZ)) (mth : Int32) (mst : Nat → Int32) (mse : Nat → Int32) (mla : Int32) (mmo : Nat → Int32) (mrc : Int32) (mro : Nat → Int32) (mrt : Nat → Int32) (mrm : Nat → Int32) (mrl : Nat → Int64) (mrh : Nat → Int64) (mwk : Nat → Int32) (mwt : Nat → Int32) (mwm : Nat → Int32) (mwl : Nat → Int64) (mwh : Nat → Int64) (mwi : Nat → Int32) (mwc : Nat → Int32) (mwx : Nat → Int32) (mar : Int32) (mli : Int32) (mgr : Int32) (mgo : Nat → Int32) (mre : Nat → Int32) (mfr : Int32) (a1 : Int32) (a2 : Int32) (r : Int32) (o_mth : Int32) (hF : F_M_join mth a1 a2 = some (r, o_mth)) {H : Heap} {locs : List Loc} {ls : Array Slot} (hP : va_P g kcl (wM cI cJ cZ ad mth mst mse mla mmo mrc mro mrt mrm mrl mrh mwk mwt mwm mwl mwh mwi mwc mwx mar mli mgr mgo mre mfr rest) H) (hD : va_D A (wM cI cJ cZ ad mth mst mse mla mmo mrc mro mrt mrm mrl mrh mwk mwt mwm mwl mwh mwi mwc mwx mar mli mgr mgo mre mfr rest)) (hS : va_S A s.heap H locs) (hl : lv_has ls 3 [(0, .ref (ad 0)), (1, .int a1), (2, .int a2)]) : W p l e ({ frames := 2, cells := 0, slots := 0, locals := 46 }) s m args below meth c H locs 0 0 (MQ below (kQi g (kty cI cJ cZ) (wM cI cJ cZ ad o_mth mst mse mla mmo mrc mro mrt mrm mrl mrh mwk mwt mwm mwl mwh mwi mwc mwx mar mli mgr mgo mre mfr rest) A r) args s 0 0 A) (F0 m 0 ls []) := by
  obtain ⟨hx, hb, hr, hml, hown, hts, hlocks, hK, hA, hE⟩ := id K
  unfold F_M_join at hF
  refine lv_aload_n hx hb d_M_join_0 rfl (lv_at hl 0 rfl) ?_
  refine lv_iload_n hx hb d_M_join_1 rfl (lv_at hl 1 rfl) ?_
  obtain ⟨r_1, hG, hF⟩ := ob1_inv hF
  refine ksi K hP hD hS (c_M_isMode l g (kty cI cJ cZ) (wM cI cJ cZ ad mth mst mse mla mmo mrc mro mrt mrm mrl mrh mwk mwt mwm mwl mwh mwi mwc mwx mar mli mgr mgo mre mfr rest) a1 r_1 hG) wm_771 wm_769 wm_770 wm_50 hd_M_isMode rfl rfl ⟨Nat.le_of_ble_eq_true rfl, Nat.le_of_ble_eq_true rfl⟩ ⟨Nat.zero_le _, Nat.zero_le _⟩ hl.1 (rest := [.ref (ad 0)]) rfl (Nat.le_of_ble_eq_true rfl) d_M_join_2 (fun H locs hP hD hS => ?_)
  obtain ⟨J20, eJ20, hF⟩ := jn1_inv hF
  have hJ20 : ∀ (s_2 : Int32) (H : Heap) (locs : List Loc) (ls : Array Slot), J20 s_2 = some (r, o_mth) → va_P g kcl (wM cI cJ cZ ad mth mst mse mla mmo mrc mro mrt mrm mrl mrh mwk mwt mwm mwl mwh mwi mwc mwx mar mli mgr mgo mre mfr rest) H → va_D A (wM cI cJ cZ ad mth mst mse mla mmo mrc mro mrt mrm mrl mrh mwk mwt mwm mwl mwh mwi mwc mwx mar mli mgr mgo mre mfr rest) → va_S A s.heap H locs → lv_has ls 3 [(1, .int a1), (2, .int a2)] → W p l e ({ frames := 2, cells := 0, slots := 0, locals := 46 }) s m args below meth c H locs 0 0 (MQ below (kQi g (kty cI cJ cZ) (wM cI cJ cZ ad o_mth mst mse mla mmo mrc mro mrt mrm mrl mrh mwk mwt mwm mwl mwh mwi mwc mwx mar mli mgr mgo mre mfr rest) A r) args s 0 0 A) (F0 m 20 ls [.int s_2, .ref (ad 0)]) := by
    intro s_2 H locs ls hF hP hD hS hl
    rw [eJ20] at hF
    refine lv_iconst (v := 0) hx hb d_M_join_20 (by decide) ?_
    refine lv_iconst (v := 0) hx hb d_M_join_21 (by decide) ?_
    obtain ⟨r_3, mth_4, hG, hF⟩ := ob2_inv hF
    refine kci K hP hD hS (c_M_refused l g cI cJ cZ ad mth mst mse mla mmo mrc mro mrt mrm mrl mrh mwk mwt mwm mwl mwh mwi mwc mwx mar mli mgr mgo mre mfr rest s_2 0 0 r_3 mth_4 hG) wm_761 wm_758 wm_760 wm_20 wm_50 hd_M_refused rfl rfl ⟨Nat.le_of_ble_eq_true rfl, Nat.le_of_ble_eq_true rfl⟩ ⟨Nat.zero_le _, Nat.zero_le _⟩ 3 0 rfl rfl rfl hl.1 (rest := []) rfl (Nat.le_of_ble_eq_true rfl) d_M_join_22 (fun H locs hP hD hS => ?_)
    refine lv_if_eq (tgt := 32) hx hb d_M_join_25 (by decide) (fun hc_5 => ?_) (fun hc_5 => ?_)
    · have hF := it_t hF hc_5
      refine lv_iload_n hx hb d_M_join_32 rfl (lv_at hl 0 rfl) ?_
      refine lv_iload_n hx hb d_M_join_33 rfl (lv_at hl 1 rfl) ?_
      obtain ⟨r_6, hG, hF⟩ := ob1_inv hF
      refine ksi K hP hD hS (c_M_joined l g (kty cI cJ cZ) (wM cI cJ cZ ad mth_4 mst mse mla mmo mrc mro mrt mrm mrl mrh mwk mwt mwm mwl mwh mwi mwc mwx mar mli mgr mgo mre mfr rest) a1 a2 r_6 hG) wm_778 wm_776 wm_777 wm_50 hd_M_joined rfl rfl ⟨Nat.le_of_ble_eq_true rfl, Nat.le_of_ble_eq_true rfl⟩ ⟨Nat.zero_le _, Nat.zero_le _⟩ hl.1 (rest := []) rfl (Nat.le_of_ble_eq_true rfl) d_M_join_34 (fun H locs hP hD hS => ?_)
      cases hF
      exact kri K hP hD hS d_M_join_37 rfl
    · have hF := it_f hF hc_5
      refine lv_iconst (v := 0) hx hb d_M_join_28 (by decide) ?_
      refine lv_goto (tgt := 37) hx hb d_M_join_29 (by decide) ?_
      cases hF
      exact kri K hP hD hS d_M_join_37 rfl
  obtain ⟨J15, eJ15, hF⟩ := jn0_inv hF
  have hJ15 : ∀  (H : Heap) (locs : List Loc) (ls : Array Slot), J15  = some (r, o_mth) → va_P g kcl (wM cI cJ cZ ad mth mst mse mla mmo mrc mro mrt mrm mrl mrh mwk mwt mwm mwl mwh mwi mwc mwx mar mli mgr mgo mre mfr rest) H → va_D A (wM cI cJ cZ ad mth mst mse mla mmo mrc mro mrt mrm mrl mrh mwk mwt mwm mwl mwh mwi mwc mwx mar mli mgr mgo mre mfr rest) → va_S A s.heap H locs → lv_has ls 3 [(1, .int a1), (2, .int a2)] → W p l e ({ frames := 2, cells := 0, slots := 0, locals := 46 }) s m args below meth c H locs 0 0 (MQ below (kQi g (kty cI cJ cZ) (wM cI cJ cZ ad o_mth mst mse mla mmo mrc mro mrt mrm mrl mrh mwk mwt mwm mwl mwh mwi mwc mwx mar mli mgr mgo mre mfr rest) A r) args s 0 0 A) (F0 m 15 ls [.ref (ad 0)]) := by
    intro  H locs ls hF hP hD hS hl
    rw [eJ15] at hF
    refine lv_iconst (v := 1) hx hb d_M_join_15 (by decide) ?_
    refine lv_goto (tgt := 20) hx hb d_M_join_16 (by decide) ?_
    exact hJ20 _ H locs ls hF hP hD hS (lv_sub hl [0, 1] rfl)
  refine lv_if_eq (tgt := 15) hx hb d_M_join_5 (by decide) (fun hc_7 => ?_) (fun hc_7 => ?_)
  · have hF := it_t hF hc_7
    exact hJ15  H locs ls hF hP hD hS (lv_sub hl [1, 2] rfl)
  · have hF := it_f hF hc_7
    refine lv_iload_n hx hb d_M_join_8 rfl (lv_at hl 2 rfl) ?_
    obtain ⟨r_8, hG, hF⟩ := ob1_inv hF
    refine ksi K hP hD hS (c_M_isMode l g (kty cI cJ cZ) (wM cI cJ cZ ad mth mst mse mla mmo mrc mro mrt mrm mrl mrh mwk mwt mwm mwl mwh mwi mwc mwx mar mli mgr mgo mre mfr rest) a2 r_8 hG) wm_771 wm_769 wm_770 wm_50 hd_M_isMode rfl rfl ⟨Nat.le_of_ble_eq_true rfl, Nat.le_of_ble_eq_true rfl⟩ ⟨Nat.zero_le _, Nat.zero_le _⟩ hl.1 (rest := [.ref (ad 0)]) rfl (Nat.le_of_ble_eq_true rfl) d_M_join_9 (fun H locs hP hD hS => ?_)
    refine lv_if_ne (tgt := 19) hx hb d_M_join_12 (by decide) (fun hc_9 => ?_) (fun hc_9 => ?_)
    · have hF := it_f hF hc_9
      refine lv_iconst (v := 0) hx hb d_M_join_19 (by decide) ?_
      exact hJ20 _ H locs ls hF hP hD hS (lv_sub hl [1, 2] rfl)
    · have hF := it_t hF hc_9
      exact hJ15  H locs ls hF hP hD hS (lv_sub hl [1, 2] rfl)
theorem c_M_join (l : Launch) (g : va_G) (cI cJ cZ : ClassId) (ad : Nat → Nat) (mth : Int32) (mst : Nat → Int32) (mse : Nat → Int32) (mla : Int32) (mmo : Nat → Int32) (mrc : Int32) (mro : Nat → Int32) (mrt : Nat → Int32) (mrm : Nat → Int32) (mrl : Nat → Int64) (mrh : Nat → Int64) (mwk : Nat → Int32) (mwt : Nat → Int32) (mwm : Nat → Int32) (mwl : Nat → Int64) (mwh : Nat → Int64) (mwi : Nat → Int32) (mwc : Nat → Int32) (mwx : Nat → Int32) (mar : Int32) (mli : Int32) (mgr : Int32) (mgo : Nat → Int32) (mre : Nat → Int32) (mfr : Int32) (rest : va_W) (a1 : Int32) (a2 : Int32) (r : Int32) (o_mth : Int32) (hF : F_M_join mth a1 a2 = some (r, o_mth)) : Ci l y_M_join prog_6_method_57_code 3 (some .int) ({ frames := 2, cells := 0, slots := 0, locals := 46 }) [.ref (ad 0), .int a1, .int a2] g (kty cI cJ cZ) (wM cI cJ cZ ad mth mst mse mla mmo mrc mro mrt mrm mrl mrh mwk mwt mwm mwl mwh mwi mwc mwx mar mli mgr mgo mre mfr rest) (wM cI cJ cZ ad o_mth mst mse mla mmo mrc mro mrt mrm mrl mrh mwk mwt mwm mwl mwh mwi mwc mwx mar mli mgr mgo mre mfr rest) r :=
  Ci.of (by decide) (Nat.le_of_ble_eq_true rfl) (fun p e s m below meth c A ls K hP hD hS hl => t_M_join K mth mst mse mla mmo mrc mro mrt mrm mrl mrh mwk mwt mwm mwl mwh mwi mwc mwx mar mli mgr mgo mre mfr a1 a2 r o_mth hF hP hD hS hl)
