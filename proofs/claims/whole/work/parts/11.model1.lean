theorem wm_671 : Cond.fieldLink "LockTableModel" 66 "LockTableModel" "thrown" "I" ∈ w_all := w_mem 671 (by decide +kernel) (by decide +kernel)
theorem wm_757 : Cond.code ⟨"LockTableModel", "isOwner", "(I)Z"⟩ prog_6_method_4_code 1 (some .boolean) ∈ w_all := w_mem 757 (by decide +kernel) (by decide +kernel)
theorem wm_755 : Cond.methodLink "LockTableModel" 70 ⟨"LockTableModel", "isOwner", "(I)Z"⟩ ∈ w_all := w_mem 755 (by decide +kernel) (by decide +kernel)
theorem wm_756 : Cond.static ⟨"LockTableModel", "isOwner", "(I)Z"⟩ ∈ w_all := w_mem 756 (by decide +kernel) (by decide +kernel)
theorem wm_50 : Cond.initialized "LockTableModel" ∈ w_all := w_mem 50 (by decide +kernel) (by decide +kernel)
theorem wm_672 : Cond.fieldLink "LockTableModel" 7 "LockTableModel" "states" "[I" ∈ w_all := w_mem 672 (by decide +kernel) (by decide +kernel)
theorem wm_781 : Cond.code ⟨"LockTableModel", "friends", "(I)I"⟩ prog_6_method_8_code 1 (some .int) ∈ w_all := w_mem 781 (by decide +kernel) (by decide +kernel)
theorem wm_779 : Cond.methodLink "LockTableModel" 74 ⟨"LockTableModel", "friends", "(I)I"⟩ ∈ w_all := w_mem 779 (by decide +kernel) (by decide +kernel)
theorem wm_780 : Cond.static ⟨"LockTableModel", "friends", "(I)I"⟩ ∈ w_all := w_mem 780 (by decide +kernel) (by decide +kernel)
theorem wm_784 : Cond.code ⟨"LockTableModel", "bits", "(I)I"⟩ prog_6_method_10_code 3 (some .int) ∈ w_all := w_mem 784 (by decide +kernel) (by decide +kernel)
theorem wm_782 : Cond.methodLink "LockTableModel" 78 ⟨"LockTableModel", "bits", "(I)I"⟩ ∈ w_all := w_mem 782 (by decide +kernel) (by decide +kernel)
theorem wm_783 : Cond.static ⟨"LockTableModel", "bits", "(I)I"⟩ ∈ w_all := w_mem 783 (by decide +kernel) (by decide +kernel)
theorem wm_675 : Cond.fieldLink "LockTableModel" 16 "LockTableModel" "modes" "[I" ∈ w_all := w_mem 675 (by decide +kernel) (by decide +kernel)
theorem wm_778 : Cond.code ⟨"LockTableModel", "joined", "(II)I"⟩ prog_6_method_11_code 5 (some .int) ∈ w_all := w_mem 778 (by decide +kernel) (by decide +kernel)
theorem wm_776 : Cond.methodLink "LockTableModel" 81 ⟨"LockTableModel", "joined", "(II)I"⟩ ∈ w_all := w_mem 776 (by decide +kernel) (by decide +kernel)
theorem wm_777 : Cond.static ⟨"LockTableModel", "joined", "(II)I"⟩ ∈ w_all := w_mem 777 (by decide +kernel) (by decide +kernel)
theorem wm_682 : Cond.fieldLink "LockTableModel" 35 "LockTableModel" "wantKind" "[I" ∈ w_all := w_mem 682 (by decide +kernel) (by decide +kernel)
theorem wm_683 : Cond.fieldLink "LockTableModel" 38 "LockTableModel" "wantTable" "[I" ∈ w_all := w_mem 683 (by decide +kernel) (by decide +kernel)
theorem wm_684 : Cond.fieldLink "LockTableModel" 41 "LockTableModel" "wantMode" "[I" ∈ w_all := w_mem 684 (by decide +kernel) (by decide +kernel)
theorem wm_807 : Cond.code ⟨"LockTableModel", "together", "(II)Z"⟩ prog_6_method_9_code 2 (some .boolean) ∈ w_all := w_mem 807 (by decide +kernel) (by decide +kernel)
theorem wm_805 : Cond.methodLink "LockTableModel" 85 ⟨"LockTableModel", "together", "(II)Z"⟩ ∈ w_all := w_mem 805 (by decide +kernel) (by decide +kernel)
theorem wm_806 : Cond.static ⟨"LockTableModel", "together", "(II)Z"⟩ ∈ w_all := w_mem 806 (by decide +kernel) (by decide +kernel)
theorem wm_685 : Cond.fieldLink "LockTableModel" 44 "LockTableModel" "wantLow" "[J" ∈ w_all := w_mem 685 (by decide +kernel) (by decide +kernel)
theorem wm_686 : Cond.fieldLink "LockTableModel" 47 "LockTableModel" "wantHigh" "[J" ∈ w_all := w_mem 686 (by decide +kernel) (by decide +kernel)
theorem wm_804 : Cond.code ⟨"LockTableModel", "againstTable", "(IIII)Z"⟩ prog_6_method_15_code 5 (some .boolean) ∈ w_all := w_mem 804 (by decide +kernel) (by decide +kernel)
theorem wm_801 : Cond.methodLink "LockTableModel" 89 ⟨"LockTableModel", "againstTable", "(IIII)Z"⟩ ∈ w_all := w_mem 801 (by decide +kernel) (by decide +kernel)
theorem wm_803 : Cond.instanceMethod ⟨"LockTableModel", "againstTable", "(IIII)Z"⟩ ∈ w_all := w_mem 803 (by decide +kernel) (by decide +kernel)
theorem wm_26 : Cond.selects "LockTableModel" ⟨"LockTableModel", "againstTable", "(IIII)Z"⟩ ⟨"LockTableModel", "againstTable", "(IIII)Z"⟩ ∈ w_all := w_mem 26 (by decide +kernel) (by decide +kernel)
theorem wm_676 : Cond.fieldLink "LockTableModel" 93 "LockTableModel" "rangeCount" "I" ∈ w_all := w_mem 676 (by decide +kernel) (by decide +kernel)
theorem wm_677 : Cond.fieldLink "LockTableModel" 19 "LockTableModel" "rangeOwner" "[I" ∈ w_all := w_mem 677 (by decide +kernel) (by decide +kernel)
theorem wm_678 : Cond.fieldLink "LockTableModel" 22 "LockTableModel" "rangeTable" "[I" ∈ w_all := w_mem 678 (by decide +kernel) (by decide +kernel)
theorem wm_679 : Cond.fieldLink "LockTableModel" 25 "LockTableModel" "rangeMode" "[I" ∈ w_all := w_mem 679 (by decide +kernel) (by decide +kernel)
theorem wm_680 : Cond.fieldLink "LockTableModel" 28 "LockTableModel" "rangeLow" "[J" ∈ w_all := w_mem 680 (by decide +kernel) (by decide +kernel)
theorem wm_681 : Cond.fieldLink "LockTableModel" 32 "LockTableModel" "rangeHigh" "[J" ∈ w_all := w_mem 681 (by decide +kernel) (by decide +kernel)
theorem wm_811 : Cond.code ⟨"LockTableModel", "againstRange", "(IIIIJJ)Z"⟩ prog_6_method_16_code 10 (some .boolean) ∈ w_all := w_mem 811 (by decide +kernel) (by decide +kernel)
theorem wm_808 : Cond.methodLink "LockTableModel" 96 ⟨"LockTableModel", "againstRange", "(IIIIJJ)Z"⟩ ∈ w_all := w_mem 808 (by decide +kernel) (by decide +kernel)
theorem wm_810 : Cond.instanceMethod ⟨"LockTableModel", "againstRange", "(IIIIJJ)Z"⟩ ∈ w_all := w_mem 810 (by decide +kernel) (by decide +kernel)
theorem wm_27 : Cond.selects "LockTableModel" ⟨"LockTableModel", "againstRange", "(IIIIJJ)Z"⟩ ⟨"LockTableModel", "againstRange", "(IIIIJJ)Z"⟩ ∈ w_all := w_mem 27 (by decide +kernel) (by decide +kernel)
theorem wm_687 : Cond.fieldLink "LockTableModel" 50 "LockTableModel" "wantInner" "[Z" ∈ w_all := w_mem 687 (by decide +kernel) (by decide +kernel)
theorem wm_688 : Cond.fieldLink "LockTableModel" 54 "LockTableModel" "wantCame" "[I" ∈ w_all := w_mem 688 (by decide +kernel) (by decide +kernel)
theorem wm_819 : Cond.code ⟨"LockTableModel", "isBefore", "(II)Z"⟩ prog_6_method_18_code 3 (some .boolean) ∈ w_all := w_mem 819 (by decide +kernel) (by decide +kernel)
theorem wm_816 : Cond.methodLink "LockTableModel" 100 ⟨"LockTableModel", "isBefore", "(II)Z"⟩ ∈ w_all := w_mem 816 (by decide +kernel) (by decide +kernel)
theorem wm_818 : Cond.instanceMethod ⟨"LockTableModel", "isBefore", "(II)Z"⟩ ∈ w_all := w_mem 818 (by decide +kernel) (by decide +kernel)
theorem wm_29 : Cond.selects "LockTableModel" ⟨"LockTableModel", "isBefore", "(II)Z"⟩ ⟨"LockTableModel", "isBefore", "(II)Z"⟩ ∈ w_all := w_mem 29 (by decide +kernel) (by decide +kernel)
theorem wm_800 : Cond.code ⟨"LockTableModel", "againstLocksOf", "(II)Z"⟩ prog_6_method_17_code 5 (some .boolean) ∈ w_all := w_mem 800 (by decide +kernel) (by decide +kernel)
theorem wm_797 : Cond.methodLink "LockTableModel" 103 ⟨"LockTableModel", "againstLocksOf", "(II)Z"⟩ ∈ w_all := w_mem 797 (by decide +kernel) (by decide +kernel)
theorem wm_799 : Cond.instanceMethod ⟨"LockTableModel", "againstLocksOf", "(II)Z"⟩ ∈ w_all := w_mem 799 (by decide +kernel) (by decide +kernel)
theorem wm_25 : Cond.selects "LockTableModel" ⟨"LockTableModel", "againstLocksOf", "(II)Z"⟩ ⟨"LockTableModel", "againstLocksOf", "(II)Z"⟩ ∈ w_all := w_mem 25 (by decide +kernel) (by decide +kernel)
theorem wm_815 : Cond.code ⟨"LockTableModel", "againstRequestOf", "(II)Z"⟩ prog_6_method_19_code 3 (some .boolean) ∈ w_all := w_mem 815 (by decide +kernel) (by decide +kernel)
theorem wm_812 : Cond.methodLink "LockTableModel" 106 ⟨"LockTableModel", "againstRequestOf", "(II)Z"⟩ ∈ w_all := w_mem 812 (by decide +kernel) (by decide +kernel)
theorem wm_814 : Cond.instanceMethod ⟨"LockTableModel", "againstRequestOf", "(II)Z"⟩ ∈ w_all := w_mem 814 (by decide +kernel) (by decide +kernel)
theorem wm_28 : Cond.selects "LockTableModel" ⟨"LockTableModel", "againstRequestOf", "(II)Z"⟩ ⟨"LockTableModel", "againstRequestOf", "(II)Z"⟩ ∈ w_all := w_mem 28 (by decide +kernel) (by decide +kernel)
theorem wm_831 : Cond.code ⟨"LockTableModel", "dropRange", "(I)V"⟩ prog_6_method_21_code 2 none ∈ w_all := w_mem 831 (by decide +kernel) (by decide +kernel)
theorem wm_828 : Cond.methodLink "LockTableModel" 109 ⟨"LockTableModel", "dropRange", "(I)V"⟩ ∈ w_all := w_mem 828 (by decide +kernel) (by decide +kernel)
theorem wm_830 : Cond.instanceMethod ⟨"LockTableModel", "dropRange", "(I)V"⟩ ∈ w_all := w_mem 830 (by decide +kernel) (by decide +kernel)
theorem wm_32 : Cond.selects "LockTableModel" ⟨"LockTableModel", "dropRange", "(I)V"⟩ ⟨"LockTableModel", "dropRange", "(I)V"⟩ ∈ w_all := w_mem 32 (by decide +kernel) (by decide +kernel)
theorem wm_695 : Cond.fieldLink "LockTableModel" 113 "LockTableModel" "freed" "Z" ∈ w_all := w_mem 695 (by decide +kernel) (by decide +kernel)
theorem wm_827 : Cond.code ⟨"LockTableModel", "dropRanges", "(II)V"⟩ prog_6_method_22_code 4 none ∈ w_all := w_mem 827 (by decide +kernel) (by decide +kernel)
theorem wm_824 : Cond.methodLink "LockTableModel" 117 ⟨"LockTableModel", "dropRanges", "(II)V"⟩ ∈ w_all := w_mem 824 (by decide +kernel) (by decide +kernel)
theorem wm_826 : Cond.instanceMethod ⟨"LockTableModel", "dropRanges", "(II)V"⟩ ∈ w_all := w_mem 826 (by decide +kernel) (by decide +kernel)
theorem wm_31 : Cond.selects "LockTableModel" ⟨"LockTableModel", "dropRanges", "(II)V"⟩ ⟨"LockTableModel", "dropRanges", "(II)V"⟩ ∈ w_all := w_mem 31 (by decide +kernel) (by decide +kernel)
theorem wm_839 : Cond.code ⟨"LockTableModel", "nextBehind", "(I)I"⟩ prog_6_method_24_code 4 (some .int) ∈ w_all := w_mem 839 (by decide +kernel) (by decide +kernel)
theorem wm_836 : Cond.methodLink "LockTableModel" 121 ⟨"LockTableModel", "nextBehind", "(I)I"⟩ ∈ w_all := w_mem 836 (by decide +kernel) (by decide +kernel)
theorem wm_838 : Cond.instanceMethod ⟨"LockTableModel", "nextBehind", "(I)I"⟩ ∈ w_all := w_mem 838 (by decide +kernel) (by decide +kernel)
theorem wm_34 : Cond.selects "LockTableModel" ⟨"LockTableModel", "nextBehind", "(I)I"⟩ ⟨"LockTableModel", "nextBehind", "(I)I"⟩ ∈ w_all := w_mem 34 (by decide +kernel) (by decide +kernel)
theorem wm_796 : Cond.code ⟨"LockTableModel", "behindOf", "(I)I"⟩ prog_6_method_20_code 4 (some .int) ∈ w_all := w_mem 796 (by decide +kernel) (by decide +kernel)
theorem wm_793 : Cond.methodLink "LockTableModel" 124 ⟨"LockTableModel", "behindOf", "(I)I"⟩ ∈ w_all := w_mem 793 (by decide +kernel) (by decide +kernel)
theorem wm_795 : Cond.instanceMethod ⟨"LockTableModel", "behindOf", "(I)I"⟩ ∈ w_all := w_mem 795 (by decide +kernel) (by decide +kernel)
theorem wm_24 : Cond.selects "LockTableModel" ⟨"LockTableModel", "behindOf", "(I)I"⟩ ⟨"LockTableModel", "behindOf", "(I)I"⟩ ∈ w_all := w_mem 24 (by decide +kernel) (by decide +kernel)
theorem wm_823 : Cond.code ⟨"LockTableModel", "grant", "(I)V"⟩ prog_6_method_23_code 3 none ∈ w_all := w_mem 823 (by decide +kernel) (by decide +kernel)
theorem wm_820 : Cond.methodLink "LockTableModel" 127 ⟨"LockTableModel", "grant", "(I)V"⟩ ∈ w_all := w_mem 820 (by decide +kernel) (by decide +kernel)
theorem wm_822 : Cond.instanceMethod ⟨"LockTableModel", "grant", "(I)V"⟩ ∈ w_all := w_mem 822 (by decide +kernel) (by decide +kernel)
theorem wm_30 : Cond.selects "LockTableModel" ⟨"LockTableModel", "grant", "(I)V"⟩ ⟨"LockTableModel", "grant", "(I)V"⟩ ∈ w_all := w_mem 30 (by decide +kernel) (by decide +kernel)
theorem wm_693 : Cond.fieldLink "LockTableModel" 60 "LockTableModel" "grantedOwners" "[I" ∈ w_all := w_mem 693 (by decide +kernel) (by decide +kernel)
theorem wm_692 : Cond.fieldLink "LockTableModel" 130 "LockTableModel" "grants" "I" ∈ w_all := w_mem 692 (by decide +kernel) (by decide +kernel)
theorem wm_761 : Cond.code ⟨"LockTableModel", "refused", "(ZZZ)Z"⟩ prog_6_method_3_code 4 (some .boolean) ∈ w_all := w_mem 761 (by decide +kernel) (by decide +kernel)
theorem wm_758 : Cond.methodLink "LockTableModel" 133 ⟨"LockTableModel", "refused", "(ZZZ)Z"⟩ ∈ w_all := w_mem 758 (by decide +kernel) (by decide +kernel)
theorem wm_760 : Cond.instanceMethod ⟨"LockTableModel", "refused", "(ZZZ)Z"⟩ ∈ w_all := w_mem 760 (by decide +kernel) (by decide +kernel)
theorem wm_20 : Cond.selects "LockTableModel" ⟨"LockTableModel", "refused", "(ZZZ)Z"⟩ ⟨"LockTableModel", "refused", "(ZZZ)Z"⟩ ∈ w_all := w_mem 20 (by decide +kernel) (by decide +kernel)
theorem wm_674 : Cond.fieldLink "LockTableModel" 137 "LockTableModel" "latest" "I" ∈ w_all := w_mem 674 (by decide +kernel) (by decide +kernel)
theorem wm_673 : Cond.fieldLink "LockTableModel" 13 "LockTableModel" "serials" "[I" ∈ w_all := w_mem 673 (by decide +kernel) (by decide +kernel)
theorem wm_694 : Cond.fieldLink "LockTableModel" 63 "LockTableModel" "reach" "[I" ∈ w_all := w_mem 694 (by decide +kernel) (by decide +kernel)
theorem wm_847 : Cond.code ⟨"LockTableModel", "fillReach", "()V"⟩ prog_6_method_27_code 4 none ∈ w_all := w_mem 847 (by decide +kernel) (by decide +kernel)
theorem wm_844 : Cond.methodLink "LockTableModel" 140 ⟨"LockTableModel", "fillReach", "()V"⟩ ∈ w_all := w_mem 844 (by decide +kernel) (by decide +kernel)
theorem wm_846 : Cond.instanceMethod ⟨"LockTableModel", "fillReach", "()V"⟩ ∈ w_all := w_mem 846 (by decide +kernel) (by decide +kernel)
theorem wm_36 : Cond.selects "LockTableModel" ⟨"LockTableModel", "fillReach", "()V"⟩ ⟨"LockTableModel", "fillReach", "()V"⟩ ∈ w_all := w_mem 36 (by decide +kernel) (by decide +kernel)
theorem wm_835 : Cond.code ⟨"LockTableModel", "look", "(I)V"⟩ prog_6_method_25_code 4 none ∈ w_all := w_mem 835 (by decide +kernel) (by decide +kernel)
theorem wm_832 : Cond.methodLink "LockTableModel" 143 ⟨"LockTableModel", "look", "(I)V"⟩ ∈ w_all := w_mem 832 (by decide +kernel) (by decide +kernel)
theorem wm_834 : Cond.instanceMethod ⟨"LockTableModel", "look", "(I)V"⟩ ∈ w_all := w_mem 834 (by decide +kernel) (by decide +kernel)
theorem wm_33 : Cond.selects "LockTableModel" ⟨"LockTableModel", "look", "(I)V"⟩ ⟨"LockTableModel", "look", "(I)V"⟩ ∈ w_all := w_mem 33 (by decide +kernel) (by decide +kernel)
theorem wm_690 : Cond.fieldLink "LockTableModel" 146 "LockTableModel" "arrivals" "I" ∈ w_all := w_mem 690 (by decide +kernel) (by decide +kernel)
theorem wm_689 : Cond.fieldLink "LockTableModel" 57 "LockTableModel" "wantTicks" "[I" ∈ w_all := w_mem 689 (by decide +kernel) (by decide +kernel)
theorem wm_843 : Cond.code ⟨"LockTableModel", "breakRings", "(I)V"⟩ prog_6_method_28_code 5 none ∈ w_all := w_mem 843 (by decide +kernel) (by decide +kernel)
theorem wm_840 : Cond.methodLink "LockTableModel" 149 ⟨"LockTableModel", "breakRings", "(I)V"⟩ ∈ w_all := w_mem 840 (by decide +kernel) (by decide +kernel)
theorem wm_842 : Cond.instanceMethod ⟨"LockTableModel", "breakRings", "(I)V"⟩ ∈ w_all := w_mem 842 (by decide +kernel) (by decide +kernel)
theorem wm_35 : Cond.selects "LockTableModel" ⟨"LockTableModel", "breakRings", "(I)V"⟩ ⟨"LockTableModel", "breakRings", "(I)V"⟩ ∈ w_all := w_mem 35 (by decide +kernel) (by decide +kernel)
abbrev y_M_thrown : MethodName := ⟨"LockTableModel", "thrown", "()I"⟩
theorem hd_M_thrown : y_M_thrown.cls ≠ "java/lang/invoke/MethodHandle" ∧ y_M_thrown.cls ≠ "java/lang/invoke/VarHandle" ∧ (parseMethodDescriptor y_M_thrown.desc).map (fun d => d.parameters.length) = some 0 := ⟨by decide, by decide, by decide +kernel⟩
abbrev y_M_refused : MethodName := ⟨"LockTableModel", "refused", "(ZZZ)Z"⟩
theorem hd_M_refused : y_M_refused.cls ≠ "java/lang/invoke/MethodHandle" ∧ y_M_refused.cls ≠ "java/lang/invoke/VarHandle" ∧ (parseMethodDescriptor y_M_refused.desc).map (fun d => d.parameters.length) = some 3 := ⟨by decide, by decide, by decide +kernel⟩
abbrev y_M_isOwner : MethodName := ⟨"LockTableModel", "isOwner", "(I)Z"⟩
theorem hd_M_isOwner : y_M_isOwner.cls ≠ "java/lang/invoke/MethodHandle" ∧ y_M_isOwner.cls ≠ "java/lang/invoke/VarHandle" ∧ (parseMethodDescriptor y_M_isOwner.desc).map (fun d => d.parameters.length) = some 1 := ⟨by decide, by decide, by decide +kernel⟩
abbrev y_M_isTable : MethodName := ⟨"LockTableModel", "isTable", "(I)Z"⟩
theorem hd_M_isTable : y_M_isTable.cls ≠ "java/lang/invoke/MethodHandle" ∧ y_M_isTable.cls ≠ "java/lang/invoke/VarHandle" ∧ (parseMethodDescriptor y_M_isTable.desc).map (fun d => d.parameters.length) = some 1 := ⟨by decide, by decide, by decide +kernel⟩
abbrev y_M_isMode : MethodName := ⟨"LockTableModel", "isMode", "(I)Z"⟩
theorem hd_M_isMode : y_M_isMode.cls ≠ "java/lang/invoke/MethodHandle" ∧ y_M_isMode.cls ≠ "java/lang/invoke/VarHandle" ∧ (parseMethodDescriptor y_M_isMode.desc).map (fun d => d.parameters.length) = some 1 := ⟨by decide, by decide, by decide +kernel⟩
abbrev y_M_isIn : MethodName := ⟨"LockTableModel", "isIn", "(II)Z"⟩
theorem hd_M_isIn : y_M_isIn.cls ≠ "java/lang/invoke/MethodHandle" ∧ y_M_isIn.cls ≠ "java/lang/invoke/VarHandle" ∧ (parseMethodDescriptor y_M_isIn.desc).map (fun d => d.parameters.length) = some 2 := ⟨by decide, by decide, by decide +kernel⟩
abbrev y_M_friends : MethodName := ⟨"LockTableModel", "friends", "(I)I"⟩
theorem hd_M_friends : y_M_friends.cls ≠ "java/lang/invoke/MethodHandle" ∧ y_M_friends.cls ≠ "java/lang/invoke/VarHandle" ∧ (parseMethodDescriptor y_M_friends.desc).map (fun d => d.parameters.length) = some 1 := ⟨by decide, by decide, by decide +kernel⟩
abbrev y_M_together : MethodName := ⟨"LockTableModel", "together", "(II)Z"⟩
theorem hd_M_together : y_M_together.cls ≠ "java/lang/invoke/MethodHandle" ∧ y_M_together.cls ≠ "java/lang/invoke/VarHandle" ∧ (parseMethodDescriptor y_M_together.desc).map (fun d => d.parameters.length) = some 2 := ⟨by decide, by decide, by decide +kernel⟩
abbrev y_M_bits : MethodName := ⟨"LockTableModel", "bits", "(I)I"⟩
theorem hd_M_bits : y_M_bits.cls ≠ "java/lang/invoke/MethodHandle" ∧ y_M_bits.cls ≠ "java/lang/invoke/VarHandle" ∧ (parseMethodDescriptor y_M_bits.desc).map (fun d => d.parameters.length) = some 1 := ⟨by decide, by decide, by decide +kernel⟩
abbrev y_M_joined : MethodName := ⟨"LockTableModel", "joined", "(II)I"⟩
theorem hd_M_joined : y_M_joined.cls ≠ "java/lang/invoke/MethodHandle" ∧ y_M_joined.cls ≠ "java/lang/invoke/VarHandle" ∧ (parseMethodDescriptor y_M_joined.desc).map (fun d => d.parameters.length) = some 2 := ⟨by decide, by decide, by decide +kernel⟩
abbrev y_M_joinedWith : MethodName := ⟨"LockTableModel", "joinedWith", "(III)I"⟩
theorem hd_M_joinedWith : y_M_joinedWith.cls ≠ "java/lang/invoke/MethodHandle" ∧ y_M_joinedWith.cls ≠ "java/lang/invoke/VarHandle" ∧ (parseMethodDescriptor y_M_joinedWith.desc).map (fun d => d.parameters.length) = some 3 := ⟨by decide, by decide, by decide +kernel⟩
abbrev y_M_tableCovers : MethodName := ⟨"LockTableModel", "tableCovers", "(II)Z"⟩
theorem hd_M_tableCovers : y_M_tableCovers.cls ≠ "java/lang/invoke/MethodHandle" ∧ y_M_tableCovers.cls ≠ "java/lang/invoke/VarHandle" ∧ (parseMethodDescriptor y_M_tableCovers.desc).map (fun d => d.parameters.length) = some 2 := ⟨by decide, by decide, by decide +kernel⟩
abbrev y_M_rangeCovers : MethodName := ⟨"LockTableModel", "rangeCovers", "(II)Z"⟩
theorem hd_M_rangeCovers : y_M_rangeCovers.cls ≠ "java/lang/invoke/MethodHandle" ∧ y_M_rangeCovers.cls ≠ "java/lang/invoke/VarHandle" ∧ (parseMethodDescriptor y_M_rangeCovers.desc).map (fun d => d.parameters.length) = some 2 := ⟨by decide, by decide, by decide +kernel⟩
abbrev y_M_againstTable : MethodName := ⟨"LockTableModel", "againstTable", "(IIII)Z"⟩
theorem hd_M_againstTable : y_M_againstTable.cls ≠ "java/lang/invoke/MethodHandle" ∧ y_M_againstTable.cls ≠ "java/lang/invoke/VarHandle" ∧ (parseMethodDescriptor y_M_againstTable.desc).map (fun d => d.parameters.length) = some 4 := ⟨by decide, by decide, by decide +kernel⟩
abbrev y_M_againstRange : MethodName := ⟨"LockTableModel", "againstRange", "(IIIIJJ)Z"⟩
theorem hd_M_againstRange : y_M_againstRange.cls ≠ "java/lang/invoke/MethodHandle" ∧ y_M_againstRange.cls ≠ "java/lang/invoke/VarHandle" ∧ (parseMethodDescriptor y_M_againstRange.desc).map (fun d => d.parameters.length) = some 6 := ⟨by decide, by decide, by decide +kernel⟩
abbrev y_M_againstLocksOf : MethodName := ⟨"LockTableModel", "againstLocksOf", "(II)Z"⟩
theorem hd_M_againstLocksOf : y_M_againstLocksOf.cls ≠ "java/lang/invoke/MethodHandle" ∧ y_M_againstLocksOf.cls ≠ "java/lang/invoke/VarHandle" ∧ (parseMethodDescriptor y_M_againstLocksOf.desc).map (fun d => d.parameters.length) = some 2 := ⟨by decide, by decide, by decide +kernel⟩
abbrev y_M_isBefore : MethodName := ⟨"LockTableModel", "isBefore", "(II)Z"⟩
theorem hd_M_isBefore : y_M_isBefore.cls ≠ "java/lang/invoke/MethodHandle" ∧ y_M_isBefore.cls ≠ "java/lang/invoke/VarHandle" ∧ (parseMethodDescriptor y_M_isBefore.desc).map (fun d => d.parameters.length) = some 2 := ⟨by decide, by decide, by decide +kernel⟩
abbrev y_M_againstRequestOf : MethodName := ⟨"LockTableModel", "againstRequestOf", "(II)Z"⟩
theorem hd_M_againstRequestOf : y_M_againstRequestOf.cls ≠ "java/lang/invoke/MethodHandle" ∧ y_M_againstRequestOf.cls ≠ "java/lang/invoke/VarHandle" ∧ (parseMethodDescriptor y_M_againstRequestOf.desc).map (fun d => d.parameters.length) = some 2 := ⟨by decide, by decide, by decide +kernel⟩
abbrev y_M_behindOf : MethodName := ⟨"LockTableModel", "behindOf", "(I)I"⟩
theorem hd_M_behindOf : y_M_behindOf.cls ≠ "java/lang/invoke/MethodHandle" ∧ y_M_behindOf.cls ≠ "java/lang/invoke/VarHandle" ∧ (parseMethodDescriptor y_M_behindOf.desc).map (fun d => d.parameters.length) = some 1 := ⟨by decide, by decide, by decide +kernel⟩
abbrev y_M_dropRange : MethodName := ⟨"LockTableModel", "dropRange", "(I)V"⟩
theorem hd_M_dropRange : y_M_dropRange.cls ≠ "java/lang/invoke/MethodHandle" ∧ y_M_dropRange.cls ≠ "java/lang/invoke/VarHandle" ∧ (parseMethodDescriptor y_M_dropRange.desc).map (fun d => d.parameters.length) = some 1 := ⟨by decide, by decide, by decide +kernel⟩
abbrev y_M_dropRanges : MethodName := ⟨"LockTableModel", "dropRanges", "(II)V"⟩
theorem hd_M_dropRanges : y_M_dropRanges.cls ≠ "java/lang/invoke/MethodHandle" ∧ y_M_dropRanges.cls ≠ "java/lang/invoke/VarHandle" ∧ (parseMethodDescriptor y_M_dropRanges.desc).map (fun d => d.parameters.length) = some 2 := ⟨by decide, by decide, by decide +kernel⟩
abbrev y_M_grant : MethodName := ⟨"LockTableModel", "grant", "(I)V"⟩
theorem hd_M_grant : y_M_grant.cls ≠ "java/lang/invoke/MethodHandle" ∧ y_M_grant.cls ≠ "java/lang/invoke/VarHandle" ∧ (parseMethodDescriptor y_M_grant.desc).map (fun d => d.parameters.length) = some 1 := ⟨by decide, by decide, by decide +kernel⟩
abbrev y_M_nextBehind : MethodName := ⟨"LockTableModel", "nextBehind", "(I)I"⟩
theorem hd_M_nextBehind : y_M_nextBehind.cls ≠ "java/lang/invoke/MethodHandle" ∧ y_M_nextBehind.cls ≠ "java/lang/invoke/VarHandle" ∧ (parseMethodDescriptor y_M_nextBehind.desc).map (fun d => d.parameters.length) = some 1 := ⟨by decide, by decide, by decide +kernel⟩
abbrev y_M_look : MethodName := ⟨"LockTableModel", "look", "(I)V"⟩
theorem hd_M_look : y_M_look.cls ≠ "java/lang/invoke/MethodHandle" ∧ y_M_look.cls ≠ "java/lang/invoke/VarHandle" ∧ (parseMethodDescriptor y_M_look.desc).map (fun d => d.parameters.length) = some 1 := ⟨by decide, by decide, by decide +kernel⟩
abbrev y_M_begin : MethodName := ⟨"LockTableModel", "begin", "(I)I"⟩
theorem hd_M_begin : y_M_begin.cls ≠ "java/lang/invoke/MethodHandle" ∧ y_M_begin.cls ≠ "java/lang/invoke/VarHandle" ∧ (parseMethodDescriptor y_M_begin.desc).map (fun d => d.parameters.length) = some 1 := ⟨by decide, by decide, by decide +kernel⟩
abbrev y_M_fillReach : MethodName := ⟨"LockTableModel", "fillReach", "()V"⟩
theorem hd_M_fillReach : y_M_fillReach.cls ≠ "java/lang/invoke/MethodHandle" ∧ y_M_fillReach.cls ≠ "java/lang/invoke/VarHandle" ∧ (parseMethodDescriptor y_M_fillReach.desc).map (fun d => d.parameters.length) = some 0 := ⟨by decide, by decide, by decide +kernel⟩
abbrev y_M_breakRings : MethodName := ⟨"LockTableModel", "breakRings", "(I)V"⟩
theorem hd_M_breakRings : y_M_breakRings.cls ≠ "java/lang/invoke/MethodHandle" ∧ y_M_breakRings.cls ≠ "java/lang/invoke/VarHandle" ∧ (parseMethodDescriptor y_M_breakRings.desc).map (fun d => d.parameters.length) = some 1 := ⟨by decide, by decide, by decide +kernel⟩
abbrev y_M_ask : MethodName := ⟨"LockTableModel", "ask", "(IZ)I"⟩
theorem hd_M_ask : y_M_ask.cls ≠ "java/lang/invoke/MethodHandle" ∧ y_M_ask.cls ≠ "java/lang/invoke/VarHandle" ∧ (parseMethodDescriptor y_M_ask.desc).map (fun d => d.parameters.length) = some 2 := ⟨by decide, by decide, by decide +kernel⟩
theorem d_M_thrown_0 : decode prog_6_method_2_code 0 = .ok (.aload_n 0, 1) := by decide +kernel
theorem d_M_thrown_1 : decode prog_6_method_2_code 1 = .ok (.getfield 66, 3) := by decide +kernel
theorem d_M_thrown_4 : decode prog_6_method_2_code 4 = .ok (.ireturn, 1) := by decide +kernel
theorem d_M_refused_0 : decode prog_6_method_3_code 0 = .ok (.aload_n 0, 1) := by decide +kernel
theorem d_M_refused_1 : decode prog_6_method_3_code 1 = .ok (.iload_n 1, 1) := by decide +kernel
theorem d_M_refused_2 : decode prog_6_method_3_code 2 = .ok (.ifCond .eq 7, 3) := by decide +kernel
theorem d_M_refused_5 : decode prog_6_method_3_code 5 = .ok (.iconst 1, 1) := by decide +kernel
theorem d_M_refused_6 : decode prog_6_method_3_code 6 = .ok (.goto 20, 3) := by decide +kernel
theorem d_M_refused_9 : decode prog_6_method_3_code 9 = .ok (.iload_n 2, 1) := by decide +kernel
theorem d_M_refused_10 : decode prog_6_method_3_code 10 = .ok (.ifCond .eq 7, 3) := by decide +kernel
theorem d_M_refused_13 : decode prog_6_method_3_code 13 = .ok (.iconst 2, 1) := by decide +kernel
theorem d_M_refused_14 : decode prog_6_method_3_code 14 = .ok (.goto 12, 3) := by decide +kernel
theorem d_M_refused_17 : decode prog_6_method_3_code 17 = .ok (.iload_n 3, 1) := by decide +kernel
theorem d_M_refused_18 : decode prog_6_method_3_code 18 = .ok (.ifCond .eq 7, 3) := by decide +kernel
theorem d_M_refused_21 : decode prog_6_method_3_code 21 = .ok (.iconst 3, 1) := by decide +kernel
theorem d_M_refused_22 : decode prog_6_method_3_code 22 = .ok (.goto 4, 3) := by decide +kernel
theorem d_M_refused_25 : decode prog_6_method_3_code 25 = .ok (.iconst 0, 1) := by decide +kernel
theorem d_M_refused_26 : decode prog_6_method_3_code 26 = .ok (.putfield 66, 3) := by decide +kernel
theorem d_M_refused_29 : decode prog_6_method_3_code 29 = .ok (.aload_n 0, 1) := by decide +kernel
theorem d_M_refused_30 : decode prog_6_method_3_code 30 = .ok (.getfield 66, 3) := by decide +kernel
theorem d_M_refused_33 : decode prog_6_method_3_code 33 = .ok (.ifCond .le 7, 3) := by decide +kernel
theorem d_M_refused_36 : decode prog_6_method_3_code 36 = .ok (.iconst 1, 1) := by decide +kernel
theorem d_M_refused_37 : decode prog_6_method_3_code 37 = .ok (.goto 4, 3) := by decide +kernel
theorem d_M_refused_40 : decode prog_6_method_3_code 40 = .ok (.iconst 0, 1) := by decide +kernel
theorem d_M_refused_41 : decode prog_6_method_3_code 41 = .ok (.ireturn, 1) := by decide +kernel
theorem d_M_isOwner_0 : decode prog_6_method_4_code 0 = .ok (.iload_n 0, 1) := by decide +kernel
theorem d_M_isOwner_1 : decode prog_6_method_4_code 1 = .ok (.ifCond .lt 13, 3) := by decide +kernel
theorem d_M_isOwner_4 : decode prog_6_method_4_code 4 = .ok (.iload_n 0, 1) := by decide +kernel
theorem d_M_isOwner_5 : decode prog_6_method_4_code 5 = .ok (.bipush 8, 2) := by decide +kernel
theorem d_M_isOwner_7 : decode prog_6_method_4_code 7 = .ok (.if_icmp .ge 7, 3) := by decide +kernel
theorem d_M_isOwner_10 : decode prog_6_method_4_code 10 = .ok (.iconst 1, 1) := by decide +kernel
theorem d_M_isOwner_11 : decode prog_6_method_4_code 11 = .ok (.goto 4, 3) := by decide +kernel
theorem d_M_isOwner_14 : decode prog_6_method_4_code 14 = .ok (.iconst 0, 1) := by decide +kernel
theorem d_M_isOwner_15 : decode prog_6_method_4_code 15 = .ok (.ireturn, 1) := by decide +kernel
theorem d_M_isTable_0 : decode prog_6_method_5_code 0 = .ok (.iload_n 0, 1) := by decide +kernel
theorem d_M_isTable_1 : decode prog_6_method_5_code 1 = .ok (.ifCond .lt 13, 3) := by decide +kernel
theorem d_M_isTable_4 : decode prog_6_method_5_code 4 = .ok (.iload_n 0, 1) := by decide +kernel
theorem d_M_isTable_5 : decode prog_6_method_5_code 5 = .ok (.bipush 16, 2) := by decide +kernel
theorem d_M_isTable_7 : decode prog_6_method_5_code 7 = .ok (.if_icmp .ge 7, 3) := by decide +kernel
theorem d_M_isTable_10 : decode prog_6_method_5_code 10 = .ok (.iconst 1, 1) := by decide +kernel
theorem d_M_isTable_11 : decode prog_6_method_5_code 11 = .ok (.goto 4, 3) := by decide +kernel
theorem d_M_isTable_14 : decode prog_6_method_5_code 14 = .ok (.iconst 0, 1) := by decide +kernel
theorem d_M_isTable_15 : decode prog_6_method_5_code 15 = .ok (.ireturn, 1) := by decide +kernel
theorem d_M_isMode_0 : decode prog_6_method_6_code 0 = .ok (.iload_n 0, 1) := by decide +kernel
theorem d_M_isMode_1 : decode prog_6_method_6_code 1 = .ok (.ifCond .lt 12, 3) := by decide +kernel
theorem d_M_isMode_4 : decode prog_6_method_6_code 4 = .ok (.iload_n 0, 1) := by decide +kernel
theorem d_M_isMode_5 : decode prog_6_method_6_code 5 = .ok (.iconst 5, 1) := by decide +kernel
theorem d_M_isMode_6 : decode prog_6_method_6_code 6 = .ok (.if_icmp .gt 7, 3) := by decide +kernel
theorem d_M_isMode_9 : decode prog_6_method_6_code 9 = .ok (.iconst 1, 1) := by decide +kernel
theorem d_M_isMode_10 : decode prog_6_method_6_code 10 = .ok (.goto 4, 3) := by decide +kernel
theorem d_M_isMode_13 : decode prog_6_method_6_code 13 = .ok (.iconst 0, 1) := by decide +kernel
theorem d_M_isMode_14 : decode prog_6_method_6_code 14 = .ok (.ireturn, 1) := by decide +kernel
theorem d_M_isIn_0 : decode prog_6_method_7_code 0 = .ok (.iload_n 1, 1) := by decide +kernel
theorem d_M_isIn_1 : decode prog_6_method_7_code 1 = .ok (.invokestatic 70, 3) := by decide +kernel
theorem d_M_isIn_4 : decode prog_6_method_7_code 4 = .ok (.ifCond .eq 17, 3) := by decide +kernel
theorem d_M_isIn_7 : decode prog_6_method_7_code 7 = .ok (.aload_n 0, 1) := by decide +kernel
theorem d_M_isIn_8 : decode prog_6_method_7_code 8 = .ok (.getfield 7, 3) := by decide +kernel
theorem d_M_isIn_11 : decode prog_6_method_7_code 11 = .ok (.iload_n 1, 1) := by decide +kernel
theorem d_M_isIn_12 : decode prog_6_method_7_code 12 = .ok (.iaload, 1) := by decide +kernel
theorem d_M_isIn_13 : decode prog_6_method_7_code 13 = .ok (.iload_n 2, 1) := by decide +kernel
theorem d_M_isIn_14 : decode prog_6_method_7_code 14 = .ok (.if_icmp .ne 7, 3) := by decide +kernel
theorem d_M_isIn_17 : decode prog_6_method_7_code 17 = .ok (.iconst 1, 1) := by decide +kernel
theorem d_M_isIn_18 : decode prog_6_method_7_code 18 = .ok (.goto 4, 3) := by decide +kernel
theorem d_M_isIn_21 : decode prog_6_method_7_code 21 = .ok (.iconst 0, 1) := by decide +kernel
theorem d_M_isIn_22 : decode prog_6_method_7_code 22 = .ok (.ireturn, 1) := by decide +kernel
theorem d_M_friends_0 : decode prog_6_method_8_code 0 = .ok (.iload_n 0, 1) := by decide +kernel
theorem d_M_friends_1 : decode prog_6_method_8_code 1 = .ok (.ifCond .ne 8, 3) := by decide +kernel
theorem d_M_friends_4 : decode prog_6_method_8_code 4 = .ok (.bipush 31, 2) := by decide +kernel
theorem d_M_friends_6 : decode prog_6_method_8_code 6 = .ok (.goto 41, 3) := by decide +kernel
theorem d_M_friends_9 : decode prog_6_method_8_code 9 = .ok (.iload_n 0, 1) := by decide +kernel
theorem d_M_friends_10 : decode prog_6_method_8_code 10 = .ok (.iconst 1, 1) := by decide +kernel
theorem d_M_friends_11 : decode prog_6_method_8_code 11 = .ok (.if_icmp .ne 7, 3) := by decide +kernel
theorem d_M_friends_14 : decode prog_6_method_8_code 14 = .ok (.iconst 3, 1) := by decide +kernel
theorem d_M_friends_15 : decode prog_6_method_8_code 15 = .ok (.goto 32, 3) := by decide +kernel
theorem d_M_friends_18 : decode prog_6_method_8_code 18 = .ok (.iload_n 0, 1) := by decide +kernel
theorem d_M_friends_19 : decode prog_6_method_8_code 19 = .ok (.iconst 2, 1) := by decide +kernel
theorem d_M_friends_20 : decode prog_6_method_8_code 20 = .ok (.if_icmp .ne 8, 3) := by decide +kernel
theorem d_M_friends_23 : decode prog_6_method_8_code 23 = .ok (.bipush 21, 2) := by decide +kernel
theorem d_M_friends_25 : decode prog_6_method_8_code 25 = .ok (.goto 22, 3) := by decide +kernel
theorem d_M_friends_28 : decode prog_6_method_8_code 28 = .ok (.iload_n 0, 1) := by decide +kernel
theorem d_M_friends_29 : decode prog_6_method_8_code 29 = .ok (.iconst 3, 1) := by decide +kernel
theorem d_M_friends_30 : decode prog_6_method_8_code 30 = .ok (.if_icmp .ne 7, 3) := by decide +kernel
theorem d_M_friends_33 : decode prog_6_method_8_code 33 = .ok (.iconst 1, 1) := by decide +kernel
theorem d_M_friends_34 : decode prog_6_method_8_code 34 = .ok (.goto 13, 3) := by decide +kernel
theorem d_M_friends_37 : decode prog_6_method_8_code 37 = .ok (.iload_n 0, 1) := by decide +kernel
theorem d_M_friends_38 : decode prog_6_method_8_code 38 = .ok (.iconst 4, 1) := by decide +kernel
theorem d_M_friends_39 : decode prog_6_method_8_code 39 = .ok (.if_icmp .ne 7, 3) := by decide +kernel
theorem d_M_friends_42 : decode prog_6_method_8_code 42 = .ok (.iconst 5, 1) := by decide +kernel
theorem d_M_friends_43 : decode prog_6_method_8_code 43 = .ok (.goto 4, 3) := by decide +kernel
theorem d_M_friends_46 : decode prog_6_method_8_code 46 = .ok (.iconst 0, 1) := by decide +kernel
theorem d_M_friends_47 : decode prog_6_method_8_code 47 = .ok (.ireturn, 1) := by decide +kernel
theorem d_M_together_0 : decode prog_6_method_9_code 0 = .ok (.iload_n 0, 1) := by decide +kernel
theorem d_M_together_1 : decode prog_6_method_9_code 1 = .ok (.invokestatic 74, 3) := by decide +kernel
theorem d_M_together_4 : decode prog_6_method_9_code 4 = .ok (.iload_n 1, 1) := by decide +kernel
theorem d_M_together_5 : decode prog_6_method_9_code 5 = .ok (.ishr, 1) := by decide +kernel
theorem d_M_together_6 : decode prog_6_method_9_code 6 = .ok (.iconst 1, 1) := by decide +kernel
theorem d_M_together_7 : decode prog_6_method_9_code 7 = .ok (.iand, 1) := by decide +kernel
theorem d_M_together_8 : decode prog_6_method_9_code 8 = .ok (.iconst 1, 1) := by decide +kernel
theorem d_M_together_9 : decode prog_6_method_9_code 9 = .ok (.if_icmp .ne 7, 3) := by decide +kernel
theorem d_M_together_12 : decode prog_6_method_9_code 12 = .ok (.iconst 1, 1) := by decide +kernel
theorem d_M_together_13 : decode prog_6_method_9_code 13 = .ok (.goto 4, 3) := by decide +kernel
theorem d_M_together_16 : decode prog_6_method_9_code 16 = .ok (.iconst 0, 1) := by decide +kernel
theorem d_M_together_17 : decode prog_6_method_9_code 17 = .ok (.ireturn, 1) := by decide +kernel
theorem d_M_bits_0 : decode prog_6_method_10_code 0 = .ok (.iconst 0, 1) := by decide +kernel
theorem d_M_bits_1 : decode prog_6_method_10_code 1 = .ok (.istore_n 1, 1) := by decide +kernel
theorem d_M_bits_2 : decode prog_6_method_10_code 2 = .ok (.iconst 0, 1) := by decide +kernel
theorem d_M_bits_3 : decode prog_6_method_10_code 3 = .ok (.istore_n 2, 1) := by decide +kernel
theorem d_M_bits_4 : decode prog_6_method_10_code 4 = .ok (.iload_n 2, 1) := by decide +kernel
theorem d_M_bits_5 : decode prog_6_method_10_code 5 = .ok (.bipush 8, 2) := by decide +kernel
theorem d_M_bits_7 : decode prog_6_method_10_code 7 = .ok (.if_icmp .ge 17, 3) := by decide +kernel
theorem d_M_bits_10 : decode prog_6_method_10_code 10 = .ok (.iload_n 1, 1) := by decide +kernel
theorem d_M_bits_11 : decode prog_6_method_10_code 11 = .ok (.iload_n 0, 1) := by decide +kernel
theorem d_M_bits_12 : decode prog_6_method_10_code 12 = .ok (.iload_n 2, 1) := by decide +kernel
theorem d_M_bits_13 : decode prog_6_method_10_code 13 = .ok (.ishr, 1) := by decide +kernel
theorem d_M_bits_14 : decode prog_6_method_10_code 14 = .ok (.iconst 1, 1) := by decide +kernel
theorem d_M_bits_15 : decode prog_6_method_10_code 15 = .ok (.iand, 1) := by decide +kernel
theorem d_M_bits_16 : decode prog_6_method_10_code 16 = .ok (.iadd, 1) := by decide +kernel
theorem d_M_bits_17 : decode prog_6_method_10_code 17 = .ok (.istore_n 1, 1) := by decide +kernel
theorem d_M_bits_18 : decode prog_6_method_10_code 18 = .ok (.iinc 2 1, 3) := by decide +kernel
theorem d_M_bits_21 : decode prog_6_method_10_code 21 = .ok (.goto (-17), 3) := by decide +kernel
theorem d_M_bits_24 : decode prog_6_method_10_code 24 = .ok (.iload_n 1, 1) := by decide +kernel
theorem d_M_bits_25 : decode prog_6_method_10_code 25 = .ok (.ireturn, 1) := by decide +kernel
theorem d_M_joined_0 : decode prog_6_method_11_code 0 = .ok (.iload_n 0, 1) := by decide +kernel
theorem d_M_joined_1 : decode prog_6_method_11_code 1 = .ok (.invokestatic 74, 3) := by decide +kernel
theorem d_M_joined_4 : decode prog_6_method_11_code 4 = .ok (.iload_n 1, 1) := by decide +kernel
theorem d_M_joined_5 : decode prog_6_method_11_code 5 = .ok (.invokestatic 74, 3) := by decide +kernel
theorem d_M_joined_8 : decode prog_6_method_11_code 8 = .ok (.iand, 1) := by decide +kernel
theorem d_M_joined_9 : decode prog_6_method_11_code 9 = .ok (.istore_n 2, 1) := by decide +kernel
theorem d_M_joined_10 : decode prog_6_method_11_code 10 = .ok (.iconst 5, 1) := by decide +kernel
theorem d_M_joined_11 : decode prog_6_method_11_code 11 = .ok (.istore_n 3, 1) := by decide +kernel
theorem d_M_joined_12 : decode prog_6_method_11_code 12 = .ok (.iconst 0, 1) := by decide +kernel
theorem d_M_joined_13 : decode prog_6_method_11_code 13 = .ok (.istore 4, 2) := by decide +kernel
theorem d_M_joined_15 : decode prog_6_method_11_code 15 = .ok (.iload 4, 2) := by decide +kernel
theorem d_M_joined_17 : decode prog_6_method_11_code 17 = .ok (.iconst 5, 1) := by decide +kernel
theorem d_M_joined_18 : decode prog_6_method_11_code 18 = .ok (.if_icmp .gt 46, 3) := by decide +kernel
theorem d_M_joined_21 : decode prog_6_method_11_code 21 = .ok (.iload 4, 2) := by decide +kernel
theorem d_M_joined_23 : decode prog_6_method_11_code 23 = .ok (.invokestatic 74, 3) := by decide +kernel
theorem d_M_joined_26 : decode prog_6_method_11_code 26 = .ok (.iload_n 2, 1) := by decide +kernel
theorem d_M_joined_27 : decode prog_6_method_11_code 27 = .ok (.iconst (-1), 1) := by decide +kernel
theorem d_M_joined_28 : decode prog_6_method_11_code 28 = .ok (.ixor, 1) := by decide +kernel
theorem d_M_joined_29 : decode prog_6_method_11_code 29 = .ok (.iand, 1) := by decide +kernel
theorem d_M_joined_30 : decode prog_6_method_11_code 30 = .ok (.ifCond .ne 26, 3) := by decide +kernel
theorem d_M_joined_33 : decode prog_6_method_11_code 33 = .ok (.iload 4, 2) := by decide +kernel
theorem d_M_joined_35 : decode prog_6_method_11_code 35 = .ok (.invokestatic 74, 3) := by decide +kernel
theorem d_M_joined_38 : decode prog_6_method_11_code 38 = .ok (.invokestatic 78, 3) := by decide +kernel
theorem d_M_joined_41 : decode prog_6_method_11_code 41 = .ok (.iload_n 3, 1) := by decide +kernel
theorem d_M_joined_42 : decode prog_6_method_11_code 42 = .ok (.invokestatic 74, 3) := by decide +kernel
theorem d_M_joined_45 : decode prog_6_method_11_code 45 = .ok (.invokestatic 78, 3) := by decide +kernel
theorem d_M_joined_48 : decode prog_6_method_11_code 48 = .ok (.if_icmp .le 8, 3) := by decide +kernel
theorem d_M_joined_51 : decode prog_6_method_11_code 51 = .ok (.iload 4, 2) := by decide +kernel
theorem d_M_joined_53 : decode prog_6_method_11_code 53 = .ok (.goto 4, 3) := by decide +kernel
theorem d_M_joined_56 : decode prog_6_method_11_code 56 = .ok (.iload_n 3, 1) := by decide +kernel
theorem d_M_joined_57 : decode prog_6_method_11_code 57 = .ok (.istore_n 3, 1) := by decide +kernel
theorem d_M_joined_58 : decode prog_6_method_11_code 58 = .ok (.iinc 4 1, 3) := by decide +kernel
theorem d_M_joined_61 : decode prog_6_method_11_code 61 = .ok (.goto (-46), 3) := by decide +kernel
theorem d_M_joined_64 : decode prog_6_method_11_code 64 = .ok (.iload_n 3, 1) := by decide +kernel
theorem d_M_joined_65 : decode prog_6_method_11_code 65 = .ok (.ireturn, 1) := by decide +kernel
theorem d_M_joinedWith_0 : decode prog_6_method_12_code 0 = .ok (.aload_n 0, 1) := by decide +kernel
theorem d_M_joinedWith_1 : decode prog_6_method_12_code 1 = .ok (.getfield 16, 3) := by decide +kernel
theorem d_M_joinedWith_4 : decode prog_6_method_12_code 4 = .ok (.bipush 16, 2) := by decide +kernel
theorem d_M_joinedWith_6 : decode prog_6_method_12_code 6 = .ok (.iload_n 1, 1) := by decide +kernel
theorem d_M_joinedWith_7 : decode prog_6_method_12_code 7 = .ok (.imul, 1) := by decide +kernel
theorem d_M_joinedWith_8 : decode prog_6_method_12_code 8 = .ok (.iload_n 2, 1) := by decide +kernel
theorem d_M_joinedWith_9 : decode prog_6_method_12_code 9 = .ok (.iadd, 1) := by decide +kernel
theorem d_M_joinedWith_10 : decode prog_6_method_12_code 10 = .ok (.iaload, 1) := by decide +kernel
theorem d_M_joinedWith_11 : decode prog_6_method_12_code 11 = .ok (.istore 4, 2) := by decide +kernel
theorem d_M_joinedWith_13 : decode prog_6_method_12_code 13 = .ok (.iload 4, 2) := by decide +kernel
theorem d_M_joinedWith_15 : decode prog_6_method_12_code 15 = .ok (.ifCond .ge 7, 3) := by decide +kernel
theorem d_M_joinedWith_18 : decode prog_6_method_12_code 18 = .ok (.iload_n 3, 1) := by decide +kernel
theorem d_M_joinedWith_19 : decode prog_6_method_12_code 19 = .ok (.goto 9, 3) := by decide +kernel
theorem d_M_joinedWith_22 : decode prog_6_method_12_code 22 = .ok (.iload 4, 2) := by decide +kernel
theorem d_M_joinedWith_24 : decode prog_6_method_12_code 24 = .ok (.iload_n 3, 1) := by decide +kernel
theorem d_M_joinedWith_25 : decode prog_6_method_12_code 25 = .ok (.invokestatic 81, 3) := by decide +kernel
theorem d_M_joinedWith_28 : decode prog_6_method_12_code 28 = .ok (.ireturn, 1) := by decide +kernel
theorem d_M_tableCovers_0 : decode prog_6_method_13_code 0 = .ok (.iload_n 0, 1) := by decide +kernel
theorem d_M_tableCovers_1 : decode prog_6_method_13_code 1 = .ok (.iconst 5, 1) := by decide +kernel
theorem d_M_tableCovers_2 : decode prog_6_method_13_code 2 = .ok (.if_icmp .eq 23, 3) := by decide +kernel
theorem d_M_tableCovers_5 : decode prog_6_method_13_code 5 = .ok (.iload_n 1, 1) := by decide +kernel
theorem d_M_tableCovers_6 : decode prog_6_method_13_code 6 = .ok (.iconst 2, 1) := by decide +kernel
theorem d_M_tableCovers_7 : decode prog_6_method_13_code 7 = .ok (.if_icmp .ne 22, 3) := by decide +kernel
theorem d_M_tableCovers_10 : decode prog_6_method_13_code 10 = .ok (.iload_n 0, 1) := by decide +kernel
theorem d_M_tableCovers_11 : decode prog_6_method_13_code 11 = .ok (.iconst 4, 1) := by decide +kernel
theorem d_M_tableCovers_12 : decode prog_6_method_13_code 12 = .ok (.if_icmp .eq 13, 3) := by decide +kernel
theorem d_M_tableCovers_15 : decode prog_6_method_13_code 15 = .ok (.iload_n 0, 1) := by decide +kernel
theorem d_M_tableCovers_16 : decode prog_6_method_13_code 16 = .ok (.iconst 3, 1) := by decide +kernel
theorem d_M_tableCovers_17 : decode prog_6_method_13_code 17 = .ok (.if_icmp .eq 8, 3) := by decide +kernel
theorem d_M_tableCovers_20 : decode prog_6_method_13_code 20 = .ok (.iload_n 0, 1) := by decide +kernel
theorem d_M_tableCovers_21 : decode prog_6_method_13_code 21 = .ok (.iconst 2, 1) := by decide +kernel
theorem d_M_tableCovers_22 : decode prog_6_method_13_code 22 = .ok (.if_icmp .ne 7, 3) := by decide +kernel
theorem d_M_tableCovers_25 : decode prog_6_method_13_code 25 = .ok (.iconst 1, 1) := by decide +kernel
theorem d_M_tableCovers_26 : decode prog_6_method_13_code 26 = .ok (.goto 4, 3) := by decide +kernel
theorem d_M_tableCovers_29 : decode prog_6_method_13_code 29 = .ok (.iconst 0, 1) := by decide +kernel
theorem d_M_tableCovers_30 : decode prog_6_method_13_code 30 = .ok (.ireturn, 1) := by decide +kernel
theorem d_M_rangeCovers_0 : decode prog_6_method_14_code 0 = .ok (.iload_n 0, 1) := by decide +kernel
theorem d_M_rangeCovers_1 : decode prog_6_method_14_code 1 = .ok (.iconst 5, 1) := by decide +kernel
theorem d_M_rangeCovers_2 : decode prog_6_method_14_code 2 = .ok (.if_icmp .eq 23, 3) := by decide +kernel
theorem d_M_rangeCovers_5 : decode prog_6_method_14_code 5 = .ok (.iload_n 0, 1) := by decide +kernel
theorem d_M_rangeCovers_6 : decode prog_6_method_14_code 6 = .ok (.iconst 4, 1) := by decide +kernel
theorem d_M_rangeCovers_7 : decode prog_6_method_14_code 7 = .ok (.if_icmp .ne 8, 3) := by decide +kernel
theorem d_M_rangeCovers_10 : decode prog_6_method_14_code 10 = .ok (.iload_n 1, 1) := by decide +kernel
theorem d_M_rangeCovers_11 : decode prog_6_method_14_code 11 = .ok (.iconst 5, 1) := by decide +kernel
theorem d_M_rangeCovers_12 : decode prog_6_method_14_code 12 = .ok (.if_icmp .ne 13, 3) := by decide +kernel
theorem d_M_rangeCovers_15 : decode prog_6_method_14_code 15 = .ok (.iload_n 0, 1) := by decide +kernel
theorem d_M_rangeCovers_16 : decode prog_6_method_14_code 16 = .ok (.iconst 2, 1) := by decide +kernel
theorem d_M_rangeCovers_17 : decode prog_6_method_14_code 17 = .ok (.if_icmp .ne 12, 3) := by decide +kernel
theorem d_M_rangeCovers_20 : decode prog_6_method_14_code 20 = .ok (.iload_n 1, 1) := by decide +kernel
theorem d_M_rangeCovers_21 : decode prog_6_method_14_code 21 = .ok (.iconst 2, 1) := by decide +kernel
theorem d_M_rangeCovers_22 : decode prog_6_method_14_code 22 = .ok (.if_icmp .ne 7, 3) := by decide +kernel
theorem d_M_rangeCovers_25 : decode prog_6_method_14_code 25 = .ok (.iconst 1, 1) := by decide +kernel
theorem d_M_rangeCovers_26 : decode prog_6_method_14_code 26 = .ok (.goto 4, 3) := by decide +kernel
theorem d_M_rangeCovers_29 : decode prog_6_method_14_code 29 = .ok (.iconst 0, 1) := by decide +kernel
theorem d_M_rangeCovers_30 : decode prog_6_method_14_code 30 = .ok (.ireturn, 1) := by decide +kernel
theorem d_M_againstTable_0 : decode prog_6_method_15_code 0 = .ok (.iload_n 1, 1) := by decide +kernel
theorem d_M_againstTable_1 : decode prog_6_method_15_code 1 = .ok (.iload_n 2, 1) := by decide +kernel
theorem d_M_againstTable_2 : decode prog_6_method_15_code 2 = .ok (.if_icmp .eq 46, 3) := by decide +kernel
theorem d_M_againstTable_5 : decode prog_6_method_15_code 5 = .ok (.aload_n 0, 1) := by decide +kernel
theorem d_M_againstTable_6 : decode prog_6_method_15_code 6 = .ok (.getfield 35, 3) := by decide +kernel
theorem d_M_againstTable_9 : decode prog_6_method_15_code 9 = .ok (.iload_n 1, 1) := by decide +kernel
theorem d_M_againstTable_10 : decode prog_6_method_15_code 10 = .ok (.iaload, 1) := by decide +kernel
theorem d_M_againstTable_11 : decode prog_6_method_15_code 11 = .ok (.iconst 1, 1) := by decide +kernel
theorem d_M_againstTable_12 : decode prog_6_method_15_code 12 = .ok (.if_icmp .eq 36, 3) := by decide +kernel
theorem d_M_againstTable_15 : decode prog_6_method_15_code 15 = .ok (.aload_n 0, 1) := by decide +kernel
theorem d_M_againstTable_16 : decode prog_6_method_15_code 16 = .ok (.getfield 38, 3) := by decide +kernel
theorem d_M_againstTable_19 : decode prog_6_method_15_code 19 = .ok (.iload_n 1, 1) := by decide +kernel
theorem d_M_againstTable_20 : decode prog_6_method_15_code 20 = .ok (.iaload, 1) := by decide +kernel
theorem d_M_againstTable_21 : decode prog_6_method_15_code 21 = .ok (.iload_n 3, 1) := by decide +kernel
theorem d_M_againstTable_22 : decode prog_6_method_15_code 22 = .ok (.if_icmp .ne 26, 3) := by decide +kernel
theorem d_M_againstTable_25 : decode prog_6_method_15_code 25 = .ok (.iload 4, 2) := by decide +kernel
theorem d_M_againstTable_27 : decode prog_6_method_15_code 27 = .ok (.ifCond .lt 21, 3) := by decide +kernel
theorem d_M_againstTable_30 : decode prog_6_method_15_code 30 = .ok (.aload_n 0, 1) := by decide +kernel
theorem d_M_againstTable_31 : decode prog_6_method_15_code 31 = .ok (.getfield 41, 3) := by decide +kernel
theorem d_M_againstTable_34 : decode prog_6_method_15_code 34 = .ok (.iload_n 1, 1) := by decide +kernel
theorem d_M_againstTable_35 : decode prog_6_method_15_code 35 = .ok (.iaload, 1) := by decide +kernel
theorem d_M_againstTable_36 : decode prog_6_method_15_code 36 = .ok (.iload 4, 2) := by decide +kernel
theorem d_M_againstTable_38 : decode prog_6_method_15_code 38 = .ok (.invokestatic 85, 3) := by decide +kernel
theorem d_M_againstTable_41 : decode prog_6_method_15_code 41 = .ok (.ifCond .ne 7, 3) := by decide +kernel
theorem d_M_againstTable_44 : decode prog_6_method_15_code 44 = .ok (.iconst 1, 1) := by decide +kernel
theorem d_M_againstTable_45 : decode prog_6_method_15_code 45 = .ok (.goto 4, 3) := by decide +kernel
theorem d_M_againstTable_48 : decode prog_6_method_15_code 48 = .ok (.iconst 0, 1) := by decide +kernel
theorem d_M_againstTable_49 : decode prog_6_method_15_code 49 = .ok (.ireturn, 1) := by decide +kernel
theorem d_M_againstRange_0 : decode prog_6_method_16_code 0 = .ok (.aload_n 0, 1) := by decide +kernel
theorem d_M_againstRange_1 : decode prog_6_method_16_code 1 = .ok (.getfield 35, 3) := by decide +kernel
theorem d_M_againstRange_4 : decode prog_6_method_16_code 4 = .ok (.iload_n 1, 1) := by decide +kernel
theorem d_M_againstRange_5 : decode prog_6_method_16_code 5 = .ok (.iaload, 1) := by decide +kernel
theorem d_M_againstRange_6 : decode prog_6_method_16_code 6 = .ok (.iconst 1, 1) := by decide +kernel
theorem d_M_againstRange_7 : decode prog_6_method_16_code 7 = .ok (.if_icmp .ne 41, 3) := by decide +kernel
theorem d_M_againstRange_10 : decode prog_6_method_16_code 10 = .ok (.aload_n 0, 1) := by decide +kernel
theorem d_M_againstRange_11 : decode prog_6_method_16_code 11 = .ok (.getfield 38, 3) := by decide +kernel
theorem d_M_againstRange_14 : decode prog_6_method_16_code 14 = .ok (.iload_n 1, 1) := by decide +kernel
theorem d_M_againstRange_15 : decode prog_6_method_16_code 15 = .ok (.iaload, 1) := by decide +kernel
theorem d_M_againstRange_16 : decode prog_6_method_16_code 16 = .ok (.iload_n 3, 1) := by decide +kernel
theorem d_M_againstRange_17 : decode prog_6_method_16_code 17 = .ok (.if_icmp .ne 31, 3) := by decide +kernel
theorem d_M_againstRange_20 : decode prog_6_method_16_code 20 = .ok (.aload_n 0, 1) := by decide +kernel
theorem d_M_againstRange_21 : decode prog_6_method_16_code 21 = .ok (.getfield 44, 3) := by decide +kernel
theorem d_M_againstRange_24 : decode prog_6_method_16_code 24 = .ok (.iload_n 1, 1) := by decide +kernel
theorem d_M_againstRange_25 : decode prog_6_method_16_code 25 = .ok (.laload, 1) := by decide +kernel
theorem d_M_againstRange_26 : decode prog_6_method_16_code 26 = .ok (.lload 7, 2) := by decide +kernel
theorem d_M_againstRange_28 : decode prog_6_method_16_code 28 = .ok (.lcmp, 1) := by decide +kernel
theorem d_M_againstRange_29 : decode prog_6_method_16_code 29 = .ok (.ifCond .gt 19, 3) := by decide +kernel
theorem d_M_againstRange_32 : decode prog_6_method_16_code 32 = .ok (.lload 5, 2) := by decide +kernel
theorem d_M_againstRange_34 : decode prog_6_method_16_code 34 = .ok (.aload_n 0, 1) := by decide +kernel
theorem d_M_againstRange_35 : decode prog_6_method_16_code 35 = .ok (.getfield 47, 3) := by decide +kernel
theorem d_M_againstRange_38 : decode prog_6_method_16_code 38 = .ok (.iload_n 1, 1) := by decide +kernel
theorem d_M_againstRange_39 : decode prog_6_method_16_code 39 = .ok (.laload, 1) := by decide +kernel
theorem d_M_againstRange_40 : decode prog_6_method_16_code 40 = .ok (.lcmp, 1) := by decide +kernel
theorem d_M_againstRange_41 : decode prog_6_method_16_code 41 = .ok (.ifCond .gt 7, 3) := by decide +kernel
theorem d_M_againstRange_44 : decode prog_6_method_16_code 44 = .ok (.iconst 1, 1) := by decide +kernel
theorem d_M_againstRange_45 : decode prog_6_method_16_code 45 = .ok (.goto 4, 3) := by decide +kernel
theorem d_M_againstRange_48 : decode prog_6_method_16_code 48 = .ok (.iconst 0, 1) := by decide +kernel
theorem d_M_againstRange_49 : decode prog_6_method_16_code 49 = .ok (.istore 9, 2) := by decide +kernel
theorem d_M_againstRange_51 : decode prog_6_method_16_code 51 = .ok (.iload_n 1, 1) := by decide +kernel
theorem d_M_againstRange_52 : decode prog_6_method_16_code 52 = .ok (.iload_n 2, 1) := by decide +kernel
theorem d_M_againstRange_53 : decode prog_6_method_16_code 53 = .ok (.if_icmp .eq 26, 3) := by decide +kernel
theorem d_M_againstRange_56 : decode prog_6_method_16_code 56 = .ok (.iload 9, 2) := by decide +kernel
theorem d_M_againstRange_58 : decode prog_6_method_16_code 58 = .ok (.ifCond .eq 21, 3) := by decide +kernel
theorem d_M_againstRange_61 : decode prog_6_method_16_code 61 = .ok (.aload_n 0, 1) := by decide +kernel
theorem d_M_againstRange_62 : decode prog_6_method_16_code 62 = .ok (.getfield 41, 3) := by decide +kernel
theorem d_M_againstRange_65 : decode prog_6_method_16_code 65 = .ok (.iload_n 1, 1) := by decide +kernel
theorem d_M_againstRange_66 : decode prog_6_method_16_code 66 = .ok (.iaload, 1) := by decide +kernel
theorem d_M_againstRange_67 : decode prog_6_method_16_code 67 = .ok (.iload 4, 2) := by decide +kernel
theorem d_M_againstRange_69 : decode prog_6_method_16_code 69 = .ok (.invokestatic 85, 3) := by decide +kernel
theorem d_M_againstRange_72 : decode prog_6_method_16_code 72 = .ok (.ifCond .ne 7, 3) := by decide +kernel
theorem d_M_againstRange_75 : decode prog_6_method_16_code 75 = .ok (.iconst 1, 1) := by decide +kernel
theorem d_M_againstRange_76 : decode prog_6_method_16_code 76 = .ok (.goto 4, 3) := by decide +kernel
theorem d_M_againstRange_79 : decode prog_6_method_16_code 79 = .ok (.iconst 0, 1) := by decide +kernel
theorem d_M_againstRange_80 : decode prog_6_method_16_code 80 = .ok (.ireturn, 1) := by decide +kernel
theorem d_M_againstLocksOf_0 : decode prog_6_method_17_code 0 = .ok (.aload_n 0, 1) := by decide +kernel
theorem d_M_againstLocksOf_1 : decode prog_6_method_17_code 1 = .ok (.iload_n 1, 1) := by decide +kernel
theorem d_M_againstLocksOf_2 : decode prog_6_method_17_code 2 = .ok (.iload_n 2, 1) := by decide +kernel
theorem d_M_againstLocksOf_3 : decode prog_6_method_17_code 3 = .ok (.aload_n 0, 1) := by decide +kernel
theorem d_M_againstLocksOf_4 : decode prog_6_method_17_code 4 = .ok (.getfield 38, 3) := by decide +kernel
theorem d_M_againstLocksOf_7 : decode prog_6_method_17_code 7 = .ok (.iload_n 1, 1) := by decide +kernel
theorem d_M_againstLocksOf_8 : decode prog_6_method_17_code 8 = .ok (.iaload, 1) := by decide +kernel
theorem d_M_againstLocksOf_9 : decode prog_6_method_17_code 9 = .ok (.aload_n 0, 1) := by decide +kernel
theorem d_M_againstLocksOf_10 : decode prog_6_method_17_code 10 = .ok (.getfield 16, 3) := by decide +kernel
theorem d_M_againstLocksOf_13 : decode prog_6_method_17_code 13 = .ok (.bipush 16, 2) := by decide +kernel
theorem d_M_againstLocksOf_15 : decode prog_6_method_17_code 15 = .ok (.iload_n 2, 1) := by decide +kernel
theorem d_M_againstLocksOf_16 : decode prog_6_method_17_code 16 = .ok (.imul, 1) := by decide +kernel
theorem d_M_againstLocksOf_17 : decode prog_6_method_17_code 17 = .ok (.aload_n 0, 1) := by decide +kernel
theorem d_M_againstLocksOf_18 : decode prog_6_method_17_code 18 = .ok (.getfield 38, 3) := by decide +kernel
theorem d_M_againstLocksOf_21 : decode prog_6_method_17_code 21 = .ok (.iload_n 1, 1) := by decide +kernel
theorem d_M_againstLocksOf_22 : decode prog_6_method_17_code 22 = .ok (.iaload, 1) := by decide +kernel
theorem d_M_againstLocksOf_23 : decode prog_6_method_17_code 23 = .ok (.iadd, 1) := by decide +kernel
theorem d_M_againstLocksOf_24 : decode prog_6_method_17_code 24 = .ok (.iaload, 1) := by decide +kernel
theorem d_M_againstLocksOf_25 : decode prog_6_method_17_code 25 = .ok (.invokevirtual 89, 3) := by decide +kernel
theorem d_M_againstLocksOf_28 : decode prog_6_method_17_code 28 = .ok (.istore_n 3, 1) := by decide +kernel
theorem d_M_againstLocksOf_29 : decode prog_6_method_17_code 29 = .ok (.iconst 0, 1) := by decide +kernel
theorem d_M_againstLocksOf_30 : decode prog_6_method_17_code 30 = .ok (.istore 4, 2) := by decide +kernel
theorem d_M_againstLocksOf_32 : decode prog_6_method_17_code 32 = .ok (.iload 4, 2) := by decide +kernel
theorem d_M_againstLocksOf_34 : decode prog_6_method_17_code 34 = .ok (.aload_n 0, 1) := by decide +kernel
theorem d_M_againstLocksOf_35 : decode prog_6_method_17_code 35 = .ok (.getfield 93, 3) := by decide +kernel
theorem d_M_againstLocksOf_38 : decode prog_6_method_17_code 38 = .ok (.if_icmp .ge 67, 3) := by decide +kernel
theorem d_M_againstLocksOf_41 : decode prog_6_method_17_code 41 = .ok (.iload_n 3, 1) := by decide +kernel
theorem d_M_againstLocksOf_42 : decode prog_6_method_17_code 42 = .ok (.ifCond .ne 51, 3) := by decide +kernel
theorem d_M_againstLocksOf_45 : decode prog_6_method_17_code 45 = .ok (.aload_n 0, 1) := by decide +kernel
theorem d_M_againstLocksOf_46 : decode prog_6_method_17_code 46 = .ok (.getfield 19, 3) := by decide +kernel
theorem d_M_againstLocksOf_49 : decode prog_6_method_17_code 49 = .ok (.iload 4, 2) := by decide +kernel
theorem d_M_againstLocksOf_51 : decode prog_6_method_17_code 51 = .ok (.iaload, 1) := by decide +kernel
theorem d_M_againstLocksOf_52 : decode prog_6_method_17_code 52 = .ok (.iload_n 2, 1) := by decide +kernel
theorem d_M_againstLocksOf_53 : decode prog_6_method_17_code 53 = .ok (.if_icmp .ne 44, 3) := by decide +kernel
theorem d_M_againstLocksOf_56 : decode prog_6_method_17_code 56 = .ok (.aload_n 0, 1) := by decide +kernel
theorem d_M_againstLocksOf_57 : decode prog_6_method_17_code 57 = .ok (.iload_n 1, 1) := by decide +kernel
theorem d_M_againstLocksOf_58 : decode prog_6_method_17_code 58 = .ok (.iload_n 2, 1) := by decide +kernel
theorem d_M_againstLocksOf_59 : decode prog_6_method_17_code 59 = .ok (.aload_n 0, 1) := by decide +kernel
theorem d_M_againstLocksOf_60 : decode prog_6_method_17_code 60 = .ok (.getfield 22, 3) := by decide +kernel
theorem d_M_againstLocksOf_63 : decode prog_6_method_17_code 63 = .ok (.iload 4, 2) := by decide +kernel
theorem d_M_againstLocksOf_65 : decode prog_6_method_17_code 65 = .ok (.iaload, 1) := by decide +kernel
theorem d_M_againstLocksOf_66 : decode prog_6_method_17_code 66 = .ok (.aload_n 0, 1) := by decide +kernel
theorem d_M_againstLocksOf_67 : decode prog_6_method_17_code 67 = .ok (.getfield 25, 3) := by decide +kernel
theorem d_M_againstLocksOf_70 : decode prog_6_method_17_code 70 = .ok (.iload 4, 2) := by decide +kernel
theorem d_M_againstLocksOf_72 : decode prog_6_method_17_code 72 = .ok (.iaload, 1) := by decide +kernel
theorem d_M_againstLocksOf_73 : decode prog_6_method_17_code 73 = .ok (.aload_n 0, 1) := by decide +kernel
theorem d_M_againstLocksOf_74 : decode prog_6_method_17_code 74 = .ok (.getfield 28, 3) := by decide +kernel
theorem d_M_againstLocksOf_77 : decode prog_6_method_17_code 77 = .ok (.iload 4, 2) := by decide +kernel
theorem d_M_againstLocksOf_79 : decode prog_6_method_17_code 79 = .ok (.laload, 1) := by decide +kernel
theorem d_M_againstLocksOf_80 : decode prog_6_method_17_code 80 = .ok (.aload_n 0, 1) := by decide +kernel
theorem d_M_againstLocksOf_81 : decode prog_6_method_17_code 81 = .ok (.getfield 32, 3) := by decide +kernel
theorem d_M_againstLocksOf_84 : decode prog_6_method_17_code 84 = .ok (.iload 4, 2) := by decide +kernel
theorem d_M_againstLocksOf_86 : decode prog_6_method_17_code 86 = .ok (.laload, 1) := by decide +kernel
theorem d_M_againstLocksOf_87 : decode prog_6_method_17_code 87 = .ok (.invokevirtual 96, 3) := by decide +kernel
theorem d_M_againstLocksOf_90 : decode prog_6_method_17_code 90 = .ok (.ifCond .eq 7, 3) := by decide +kernel
theorem d_M_againstLocksOf_93 : decode prog_6_method_17_code 93 = .ok (.iconst 1, 1) := by decide +kernel
theorem d_M_againstLocksOf_94 : decode prog_6_method_17_code 94 = .ok (.goto 4, 3) := by decide +kernel
theorem d_M_againstLocksOf_97 : decode prog_6_method_17_code 97 = .ok (.iconst 0, 1) := by decide +kernel
theorem d_M_againstLocksOf_98 : decode prog_6_method_17_code 98 = .ok (.istore_n 3, 1) := by decide +kernel
theorem d_M_againstLocksOf_99 : decode prog_6_method_17_code 99 = .ok (.iinc 4 1, 3) := by decide +kernel
theorem d_M_againstLocksOf_102 : decode prog_6_method_17_code 102 = .ok (.goto (-70), 3) := by decide +kernel
theorem d_M_againstLocksOf_105 : decode prog_6_method_17_code 105 = .ok (.iload_n 3, 1) := by decide +kernel
theorem d_M_againstLocksOf_106 : decode prog_6_method_17_code 106 = .ok (.ireturn, 1) := by decide +kernel
theorem d_M_isBefore_0 : decode prog_6_method_18_code 0 = .ok (.aload_n 0, 1) := by decide +kernel
theorem d_M_isBefore_1 : decode prog_6_method_18_code 1 = .ok (.getfield 50, 3) := by decide +kernel
theorem d_M_isBefore_4 : decode prog_6_method_18_code 4 = .ok (.iload_n 1, 1) := by decide +kernel
theorem d_M_isBefore_5 : decode prog_6_method_18_code 5 = .ok (.baload, 1) := by decide +kernel
theorem d_M_isBefore_6 : decode prog_6_method_18_code 6 = .ok (.aload_n 0, 1) := by decide +kernel
theorem d_M_isBefore_7 : decode prog_6_method_18_code 7 = .ok (.getfield 50, 3) := by decide +kernel
theorem d_M_isBefore_10 : decode prog_6_method_18_code 10 = .ok (.iload_n 2, 1) := by decide +kernel
theorem d_M_isBefore_11 : decode prog_6_method_18_code 11 = .ok (.baload, 1) := by decide +kernel
theorem d_M_isBefore_12 : decode prog_6_method_18_code 12 = .ok (.if_icmp .eq 12, 3) := by decide +kernel
theorem d_M_isBefore_15 : decode prog_6_method_18_code 15 = .ok (.aload_n 0, 1) := by decide +kernel
theorem d_M_isBefore_16 : decode prog_6_method_18_code 16 = .ok (.getfield 50, 3) := by decide +kernel
theorem d_M_isBefore_19 : decode prog_6_method_18_code 19 = .ok (.iload_n 1, 1) := by decide +kernel
theorem d_M_isBefore_20 : decode prog_6_method_18_code 20 = .ok (.baload, 1) := by decide +kernel
theorem d_M_isBefore_21 : decode prog_6_method_18_code 21 = .ok (.goto 23, 3) := by decide +kernel
theorem d_M_isBefore_24 : decode prog_6_method_18_code 24 = .ok (.aload_n 0, 1) := by decide +kernel
theorem d_M_isBefore_25 : decode prog_6_method_18_code 25 = .ok (.getfield 54, 3) := by decide +kernel
theorem d_M_isBefore_28 : decode prog_6_method_18_code 28 = .ok (.iload_n 1, 1) := by decide +kernel
theorem d_M_isBefore_29 : decode prog_6_method_18_code 29 = .ok (.iaload, 1) := by decide +kernel
theorem d_M_isBefore_30 : decode prog_6_method_18_code 30 = .ok (.aload_n 0, 1) := by decide +kernel
theorem d_M_isBefore_31 : decode prog_6_method_18_code 31 = .ok (.getfield 54, 3) := by decide +kernel
theorem d_M_isBefore_34 : decode prog_6_method_18_code 34 = .ok (.iload_n 2, 1) := by decide +kernel
theorem d_M_isBefore_35 : decode prog_6_method_18_code 35 = .ok (.iaload, 1) := by decide +kernel
theorem d_M_isBefore_36 : decode prog_6_method_18_code 36 = .ok (.if_icmp .ge 7, 3) := by decide +kernel
theorem d_M_isBefore_39 : decode prog_6_method_18_code 39 = .ok (.iconst 1, 1) := by decide +kernel
theorem d_M_isBefore_40 : decode prog_6_method_18_code 40 = .ok (.goto 4, 3) := by decide +kernel
theorem d_M_isBefore_43 : decode prog_6_method_18_code 43 = .ok (.iconst 0, 1) := by decide +kernel
theorem d_M_isBefore_44 : decode prog_6_method_18_code 44 = .ok (.ireturn, 1) := by decide +kernel
theorem d_M_againstRequestOf_0 : decode prog_6_method_19_code 0 = .ok (.aload_n 0, 1) := by decide +kernel
theorem d_M_againstRequestOf_1 : decode prog_6_method_19_code 1 = .ok (.getfield 7, 3) := by decide +kernel
theorem d_M_againstRequestOf_4 : decode prog_6_method_19_code 4 = .ok (.iload_n 2, 1) := by decide +kernel
theorem d_M_againstRequestOf_5 : decode prog_6_method_19_code 5 = .ok (.iaload, 1) := by decide +kernel
theorem d_M_againstRequestOf_6 : decode prog_6_method_19_code 6 = .ok (.iconst 2, 1) := by decide +kernel
theorem d_M_againstRequestOf_7 : decode prog_6_method_19_code 7 = .ok (.if_icmp .ne 17, 3) := by decide +kernel
theorem d_M_againstRequestOf_10 : decode prog_6_method_19_code 10 = .ok (.iload_n 2, 1) := by decide +kernel
theorem d_M_againstRequestOf_11 : decode prog_6_method_19_code 11 = .ok (.iload_n 1, 1) := by decide +kernel
theorem d_M_againstRequestOf_12 : decode prog_6_method_19_code 12 = .ok (.if_icmp .eq 12, 3) := by decide +kernel
theorem d_M_againstRequestOf_15 : decode prog_6_method_19_code 15 = .ok (.aload_n 0, 1) := by decide +kernel
theorem d_M_againstRequestOf_16 : decode prog_6_method_19_code 16 = .ok (.iload_n 2, 1) := by decide +kernel
theorem d_M_againstRequestOf_17 : decode prog_6_method_19_code 17 = .ok (.iload_n 1, 1) := by decide +kernel
theorem d_M_againstRequestOf_18 : decode prog_6_method_19_code 18 = .ok (.invokevirtual 100, 3) := by decide +kernel
theorem d_M_againstRequestOf_21 : decode prog_6_method_19_code 21 = .ok (.ifCond .ne 5, 3) := by decide +kernel
theorem d_M_againstRequestOf_24 : decode prog_6_method_19_code 24 = .ok (.iconst 0, 1) := by decide +kernel
theorem d_M_againstRequestOf_25 : decode prog_6_method_19_code 25 = .ok (.ireturn, 1) := by decide +kernel
theorem d_M_againstRequestOf_26 : decode prog_6_method_19_code 26 = .ok (.aload_n 0, 1) := by decide +kernel
theorem d_M_againstRequestOf_27 : decode prog_6_method_19_code 27 = .ok (.getfield 35, 3) := by decide +kernel
theorem d_M_againstRequestOf_30 : decode prog_6_method_19_code 30 = .ok (.iload_n 2, 1) := by decide +kernel
theorem d_M_againstRequestOf_31 : decode prog_6_method_19_code 31 = .ok (.iaload, 1) := by decide +kernel
theorem d_M_againstRequestOf_32 : decode prog_6_method_19_code 32 = .ok (.iconst 1, 1) := by decide +kernel
theorem d_M_againstRequestOf_33 : decode prog_6_method_19_code 33 = .ok (.if_icmp .ne 34, 3) := by decide +kernel
theorem d_M_againstRequestOf_36 : decode prog_6_method_19_code 36 = .ok (.aload_n 0, 1) := by decide +kernel
theorem d_M_againstRequestOf_37 : decode prog_6_method_19_code 37 = .ok (.iload_n 1, 1) := by decide +kernel
theorem d_M_againstRequestOf_38 : decode prog_6_method_19_code 38 = .ok (.iload_n 2, 1) := by decide +kernel
theorem d_M_againstRequestOf_39 : decode prog_6_method_19_code 39 = .ok (.aload_n 0, 1) := by decide +kernel
theorem d_M_againstRequestOf_40 : decode prog_6_method_19_code 40 = .ok (.getfield 38, 3) := by decide +kernel
theorem d_M_againstRequestOf_43 : decode prog_6_method_19_code 43 = .ok (.iload_n 2, 1) := by decide +kernel
theorem d_M_againstRequestOf_44 : decode prog_6_method_19_code 44 = .ok (.iaload, 1) := by decide +kernel
theorem d_M_againstRequestOf_45 : decode prog_6_method_19_code 45 = .ok (.aload_n 0, 1) := by decide +kernel
theorem d_M_againstRequestOf_46 : decode prog_6_method_19_code 46 = .ok (.getfield 41, 3) := by decide +kernel
theorem d_M_againstRequestOf_49 : decode prog_6_method_19_code 49 = .ok (.iload_n 2, 1) := by decide +kernel
theorem d_M_againstRequestOf_50 : decode prog_6_method_19_code 50 = .ok (.iaload, 1) := by decide +kernel
theorem d_M_againstRequestOf_51 : decode prog_6_method_19_code 51 = .ok (.aload_n 0, 1) := by decide +kernel
theorem d_M_againstRequestOf_52 : decode prog_6_method_19_code 52 = .ok (.getfield 44, 3) := by decide +kernel
theorem d_M_againstRequestOf_55 : decode prog_6_method_19_code 55 = .ok (.iload_n 2, 1) := by decide +kernel
theorem d_M_againstRequestOf_56 : decode prog_6_method_19_code 56 = .ok (.laload, 1) := by decide +kernel
theorem d_M_againstRequestOf_57 : decode prog_6_method_19_code 57 = .ok (.aload_n 0, 1) := by decide +kernel
theorem d_M_againstRequestOf_58 : decode prog_6_method_19_code 58 = .ok (.getfield 47, 3) := by decide +kernel
theorem d_M_againstRequestOf_61 : decode prog_6_method_19_code 61 = .ok (.iload_n 2, 1) := by decide +kernel
theorem d_M_againstRequestOf_62 : decode prog_6_method_19_code 62 = .ok (.laload, 1) := by decide +kernel
theorem d_M_againstRequestOf_63 : decode prog_6_method_19_code 63 = .ok (.invokevirtual 96, 3) := by decide +kernel
theorem d_M_againstRequestOf_66 : decode prog_6_method_19_code 66 = .ok (.ireturn, 1) := by decide +kernel
theorem d_M_againstRequestOf_67 : decode prog_6_method_19_code 67 = .ok (.aload_n 0, 1) := by decide +kernel
theorem d_M_againstRequestOf_68 : decode prog_6_method_19_code 68 = .ok (.iload_n 1, 1) := by decide +kernel
theorem d_M_againstRequestOf_69 : decode prog_6_method_19_code 69 = .ok (.iload_n 2, 1) := by decide +kernel
theorem d_M_againstRequestOf_70 : decode prog_6_method_19_code 70 = .ok (.aload_n 0, 1) := by decide +kernel
theorem d_M_againstRequestOf_71 : decode prog_6_method_19_code 71 = .ok (.getfield 38, 3) := by decide +kernel
theorem d_M_againstRequestOf_74 : decode prog_6_method_19_code 74 = .ok (.iload_n 2, 1) := by decide +kernel
theorem d_M_againstRequestOf_75 : decode prog_6_method_19_code 75 = .ok (.iaload, 1) := by decide +kernel
theorem d_M_againstRequestOf_76 : decode prog_6_method_19_code 76 = .ok (.aload_n 0, 1) := by decide +kernel
theorem d_M_againstRequestOf_77 : decode prog_6_method_19_code 77 = .ok (.getfield 41, 3) := by decide +kernel
theorem d_M_againstRequestOf_80 : decode prog_6_method_19_code 80 = .ok (.iload_n 2, 1) := by decide +kernel
theorem d_M_againstRequestOf_81 : decode prog_6_method_19_code 81 = .ok (.iaload, 1) := by decide +kernel
theorem d_M_againstRequestOf_82 : decode prog_6_method_19_code 82 = .ok (.invokevirtual 89, 3) := by decide +kernel
theorem d_M_againstRequestOf_85 : decode prog_6_method_19_code 85 = .ok (.ireturn, 1) := by decide +kernel
theorem d_M_behindOf_0 : decode prog_6_method_20_code 0 = .ok (.iconst 0, 1) := by decide +kernel
theorem d_M_behindOf_1 : decode prog_6_method_20_code 1 = .ok (.istore_n 2, 1) := by decide +kernel
theorem d_M_behindOf_2 : decode prog_6_method_20_code 2 = .ok (.iconst 0, 1) := by decide +kernel
theorem d_M_behindOf_3 : decode prog_6_method_20_code 3 = .ok (.istore_n 3, 1) := by decide +kernel
theorem d_M_behindOf_4 : decode prog_6_method_20_code 4 = .ok (.iload_n 3, 1) := by decide +kernel
theorem d_M_behindOf_5 : decode prog_6_method_20_code 5 = .ok (.bipush 8, 2) := by decide +kernel
theorem d_M_behindOf_7 : decode prog_6_method_20_code 7 = .ok (.if_icmp .ge 52, 3) := by decide +kernel
theorem d_M_behindOf_10 : decode prog_6_method_20_code 10 = .ok (.aload_n 0, 1) := by decide +kernel
theorem d_M_behindOf_11 : decode prog_6_method_20_code 11 = .ok (.getfield 7, 3) := by decide +kernel
theorem d_M_behindOf_14 : decode prog_6_method_20_code 14 = .ok (.iload_n 1, 1) := by decide +kernel
theorem d_M_behindOf_15 : decode prog_6_method_20_code 15 = .ok (.iaload, 1) := by decide +kernel
theorem d_M_behindOf_16 : decode prog_6_method_20_code 16 = .ok (.iconst 2, 1) := by decide +kernel
theorem d_M_behindOf_17 : decode prog_6_method_20_code 17 = .ok (.if_icmp .ne 42, 3) := by decide +kernel
theorem d_M_behindOf_20 : decode prog_6_method_20_code 20 = .ok (.iload_n 3, 1) := by decide +kernel
theorem d_M_behindOf_21 : decode prog_6_method_20_code 21 = .ok (.iload_n 1, 1) := by decide +kernel
theorem d_M_behindOf_22 : decode prog_6_method_20_code 22 = .ok (.if_icmp .eq 29, 3) := by decide +kernel
theorem d_M_behindOf_25 : decode prog_6_method_20_code 25 = .ok (.aload_n 0, 1) := by decide +kernel
theorem d_M_behindOf_26 : decode prog_6_method_20_code 26 = .ok (.iload_n 1, 1) := by decide +kernel
theorem d_M_behindOf_27 : decode prog_6_method_20_code 27 = .ok (.iload_n 3, 1) := by decide +kernel
theorem d_M_behindOf_28 : decode prog_6_method_20_code 28 = .ok (.invokevirtual 103, 3) := by decide +kernel
theorem d_M_behindOf_31 : decode prog_6_method_20_code 31 = .ok (.ifCond .ne 12, 3) := by decide +kernel
theorem d_M_behindOf_34 : decode prog_6_method_20_code 34 = .ok (.aload_n 0, 1) := by decide +kernel
theorem d_M_behindOf_35 : decode prog_6_method_20_code 35 = .ok (.iload_n 1, 1) := by decide +kernel
theorem d_M_behindOf_36 : decode prog_6_method_20_code 36 = .ok (.iload_n 3, 1) := by decide +kernel
theorem d_M_behindOf_37 : decode prog_6_method_20_code 37 = .ok (.invokevirtual 106, 3) := by decide +kernel
theorem d_M_behindOf_40 : decode prog_6_method_20_code 40 = .ok (.ifCond .eq 11, 3) := by decide +kernel
theorem d_M_behindOf_43 : decode prog_6_method_20_code 43 = .ok (.iload_n 2, 1) := by decide +kernel
theorem d_M_behindOf_44 : decode prog_6_method_20_code 44 = .ok (.iconst 1, 1) := by decide +kernel
theorem d_M_behindOf_45 : decode prog_6_method_20_code 45 = .ok (.iload_n 3, 1) := by decide +kernel
theorem d_M_behindOf_46 : decode prog_6_method_20_code 46 = .ok (.ishl, 1) := by decide +kernel
theorem d_M_behindOf_47 : decode prog_6_method_20_code 47 = .ok (.ior, 1) := by decide +kernel
theorem d_M_behindOf_48 : decode prog_6_method_20_code 48 = .ok (.goto 4, 3) := by decide +kernel
theorem d_M_behindOf_51 : decode prog_6_method_20_code 51 = .ok (.iload_n 2, 1) := by decide +kernel
theorem d_M_behindOf_52 : decode prog_6_method_20_code 52 = .ok (.istore_n 2, 1) := by decide +kernel
theorem d_M_behindOf_53 : decode prog_6_method_20_code 53 = .ok (.iinc 3 1, 3) := by decide +kernel
theorem d_M_behindOf_56 : decode prog_6_method_20_code 56 = .ok (.goto (-52), 3) := by decide +kernel
theorem d_M_behindOf_59 : decode prog_6_method_20_code 59 = .ok (.iload_n 2, 1) := by decide +kernel
theorem d_M_behindOf_60 : decode prog_6_method_20_code 60 = .ok (.ireturn, 1) := by decide +kernel
theorem d_M_dropRange_0 : decode prog_6_method_21_code 0 = .ok (.aload_n 0, 1) := by decide +kernel
theorem d_M_dropRange_1 : decode prog_6_method_21_code 1 = .ok (.dup, 1) := by decide +kernel
theorem d_M_dropRange_2 : decode prog_6_method_21_code 2 = .ok (.getfield 93, 3) := by decide +kernel
theorem d_M_dropRange_5 : decode prog_6_method_21_code 5 = .ok (.iconst 1, 1) := by decide +kernel
theorem d_M_dropRange_6 : decode prog_6_method_21_code 6 = .ok (.isub, 1) := by decide +kernel
theorem d_M_dropRange_7 : decode prog_6_method_21_code 7 = .ok (.putfield 93, 3) := by decide +kernel
theorem d_M_dropRange_10 : decode prog_6_method_21_code 10 = .ok (.aload_n 0, 1) := by decide +kernel
theorem d_M_dropRange_11 : decode prog_6_method_21_code 11 = .ok (.getfield 19, 3) := by decide +kernel
theorem d_M_dropRange_14 : decode prog_6_method_21_code 14 = .ok (.iload_n 1, 1) := by decide +kernel
theorem d_M_dropRange_15 : decode prog_6_method_21_code 15 = .ok (.aload_n 0, 1) := by decide +kernel
theorem d_M_dropRange_16 : decode prog_6_method_21_code 16 = .ok (.getfield 19, 3) := by decide +kernel
theorem d_M_dropRange_19 : decode prog_6_method_21_code 19 = .ok (.aload_n 0, 1) := by decide +kernel
theorem d_M_dropRange_20 : decode prog_6_method_21_code 20 = .ok (.getfield 93, 3) := by decide +kernel
theorem d_M_dropRange_23 : decode prog_6_method_21_code 23 = .ok (.iaload, 1) := by decide +kernel
theorem d_M_dropRange_24 : decode prog_6_method_21_code 24 = .ok (.iastore, 1) := by decide +kernel
theorem d_M_dropRange_25 : decode prog_6_method_21_code 25 = .ok (.aload_n 0, 1) := by decide +kernel
theorem d_M_dropRange_26 : decode prog_6_method_21_code 26 = .ok (.getfield 22, 3) := by decide +kernel
theorem d_M_dropRange_29 : decode prog_6_method_21_code 29 = .ok (.iload_n 1, 1) := by decide +kernel
theorem d_M_dropRange_30 : decode prog_6_method_21_code 30 = .ok (.aload_n 0, 1) := by decide +kernel
theorem d_M_dropRange_31 : decode prog_6_method_21_code 31 = .ok (.getfield 22, 3) := by decide +kernel
theorem d_M_dropRange_34 : decode prog_6_method_21_code 34 = .ok (.aload_n 0, 1) := by decide +kernel
theorem d_M_dropRange_35 : decode prog_6_method_21_code 35 = .ok (.getfield 93, 3) := by decide +kernel
theorem d_M_dropRange_38 : decode prog_6_method_21_code 38 = .ok (.iaload, 1) := by decide +kernel
theorem d_M_dropRange_39 : decode prog_6_method_21_code 39 = .ok (.iastore, 1) := by decide +kernel
theorem d_M_dropRange_40 : decode prog_6_method_21_code 40 = .ok (.aload_n 0, 1) := by decide +kernel
theorem d_M_dropRange_41 : decode prog_6_method_21_code 41 = .ok (.getfield 25, 3) := by decide +kernel
theorem d_M_dropRange_44 : decode prog_6_method_21_code 44 = .ok (.iload_n 1, 1) := by decide +kernel
theorem d_M_dropRange_45 : decode prog_6_method_21_code 45 = .ok (.aload_n 0, 1) := by decide +kernel
theorem d_M_dropRange_46 : decode prog_6_method_21_code 46 = .ok (.getfield 25, 3) := by decide +kernel
theorem d_M_dropRange_49 : decode prog_6_method_21_code 49 = .ok (.aload_n 0, 1) := by decide +kernel
theorem d_M_dropRange_50 : decode prog_6_method_21_code 50 = .ok (.getfield 93, 3) := by decide +kernel
theorem d_M_dropRange_53 : decode prog_6_method_21_code 53 = .ok (.iaload, 1) := by decide +kernel
theorem d_M_dropRange_54 : decode prog_6_method_21_code 54 = .ok (.iastore, 1) := by decide +kernel
theorem d_M_dropRange_55 : decode prog_6_method_21_code 55 = .ok (.aload_n 0, 1) := by decide +kernel
theorem d_M_dropRange_56 : decode prog_6_method_21_code 56 = .ok (.getfield 28, 3) := by decide +kernel
theorem d_M_dropRange_59 : decode prog_6_method_21_code 59 = .ok (.iload_n 1, 1) := by decide +kernel
theorem d_M_dropRange_60 : decode prog_6_method_21_code 60 = .ok (.aload_n 0, 1) := by decide +kernel
theorem d_M_dropRange_61 : decode prog_6_method_21_code 61 = .ok (.getfield 28, 3) := by decide +kernel
theorem d_M_dropRange_64 : decode prog_6_method_21_code 64 = .ok (.aload_n 0, 1) := by decide +kernel
theorem d_M_dropRange_65 : decode prog_6_method_21_code 65 = .ok (.getfield 93, 3) := by decide +kernel
theorem d_M_dropRange_68 : decode prog_6_method_21_code 68 = .ok (.laload, 1) := by decide +kernel
theorem d_M_dropRange_69 : decode prog_6_method_21_code 69 = .ok (.lastore, 1) := by decide +kernel
theorem d_M_dropRange_70 : decode prog_6_method_21_code 70 = .ok (.aload_n 0, 1) := by decide +kernel
theorem d_M_dropRange_71 : decode prog_6_method_21_code 71 = .ok (.getfield 32, 3) := by decide +kernel
theorem d_M_dropRange_74 : decode prog_6_method_21_code 74 = .ok (.iload_n 1, 1) := by decide +kernel
theorem d_M_dropRange_75 : decode prog_6_method_21_code 75 = .ok (.aload_n 0, 1) := by decide +kernel
theorem d_M_dropRange_76 : decode prog_6_method_21_code 76 = .ok (.getfield 32, 3) := by decide +kernel
theorem d_M_dropRange_79 : decode prog_6_method_21_code 79 = .ok (.aload_n 0, 1) := by decide +kernel
theorem d_M_dropRange_80 : decode prog_6_method_21_code 80 = .ok (.getfield 93, 3) := by decide +kernel
theorem d_M_dropRange_83 : decode prog_6_method_21_code 83 = .ok (.laload, 1) := by decide +kernel
theorem d_M_dropRange_84 : decode prog_6_method_21_code 84 = .ok (.lastore, 1) := by decide +kernel
theorem d_M_dropRange_85 : decode prog_6_method_21_code 85 = .ok (.return_, 1) := by decide +kernel
theorem d_M_dropRanges_0 : decode prog_6_method_22_code 0 = .ok (.aload_n 0, 1) := by decide +kernel
theorem d_M_dropRanges_1 : decode prog_6_method_22_code 1 = .ok (.getfield 93, 3) := by decide +kernel
theorem d_M_dropRanges_4 : decode prog_6_method_22_code 4 = .ok (.iconst 1, 1) := by decide +kernel
theorem d_M_dropRanges_5 : decode prog_6_method_22_code 5 = .ok (.isub, 1) := by decide +kernel
theorem d_M_dropRanges_6 : decode prog_6_method_22_code 6 = .ok (.istore_n 3, 1) := by decide +kernel
theorem d_M_dropRanges_7 : decode prog_6_method_22_code 7 = .ok (.iload_n 3, 1) := by decide +kernel
theorem d_M_dropRanges_8 : decode prog_6_method_22_code 8 = .ok (.ifCond .lt 39, 3) := by decide +kernel
theorem d_M_dropRanges_11 : decode prog_6_method_22_code 11 = .ok (.aload_n 0, 1) := by decide +kernel
theorem d_M_dropRanges_12 : decode prog_6_method_22_code 12 = .ok (.getfield 19, 3) := by decide +kernel
theorem d_M_dropRanges_15 : decode prog_6_method_22_code 15 = .ok (.iload_n 3, 1) := by decide +kernel
theorem d_M_dropRanges_16 : decode prog_6_method_22_code 16 = .ok (.iaload, 1) := by decide +kernel
theorem d_M_dropRanges_17 : decode prog_6_method_22_code 17 = .ok (.iload_n 1, 1) := by decide +kernel
theorem d_M_dropRanges_18 : decode prog_6_method_22_code 18 = .ok (.if_icmp .ne 23, 3) := by decide +kernel
theorem d_M_dropRanges_21 : decode prog_6_method_22_code 21 = .ok (.aload_n 0, 1) := by decide +kernel
theorem d_M_dropRanges_22 : decode prog_6_method_22_code 22 = .ok (.getfield 22, 3) := by decide +kernel
theorem d_M_dropRanges_25 : decode prog_6_method_22_code 25 = .ok (.iload_n 3, 1) := by decide +kernel
theorem d_M_dropRanges_26 : decode prog_6_method_22_code 26 = .ok (.iaload, 1) := by decide +kernel
theorem d_M_dropRanges_27 : decode prog_6_method_22_code 27 = .ok (.iload_n 2, 1) := by decide +kernel
theorem d_M_dropRanges_28 : decode prog_6_method_22_code 28 = .ok (.if_icmp .ne 13, 3) := by decide +kernel
theorem d_M_dropRanges_31 : decode prog_6_method_22_code 31 = .ok (.aload_n 0, 1) := by decide +kernel
theorem d_M_dropRanges_32 : decode prog_6_method_22_code 32 = .ok (.iload_n 3, 1) := by decide +kernel
theorem d_M_dropRanges_33 : decode prog_6_method_22_code 33 = .ok (.invokevirtual 109, 3) := by decide +kernel
theorem d_M_dropRanges_36 : decode prog_6_method_22_code 36 = .ok (.aload_n 0, 1) := by decide +kernel
theorem d_M_dropRanges_37 : decode prog_6_method_22_code 37 = .ok (.iconst 1, 1) := by decide +kernel
theorem d_M_dropRanges_38 : decode prog_6_method_22_code 38 = .ok (.putfield 113, 3) := by decide +kernel
theorem d_M_dropRanges_41 : decode prog_6_method_22_code 41 = .ok (.iinc 3 (-1), 3) := by decide +kernel
theorem d_M_dropRanges_44 : decode prog_6_method_22_code 44 = .ok (.goto (-37), 3) := by decide +kernel
theorem d_M_dropRanges_47 : decode prog_6_method_22_code 47 = .ok (.return_, 1) := by decide +kernel
theorem d_M_grant_0 : decode prog_6_method_23_code 0 = .ok (.aload_n 0, 1) := by decide +kernel
theorem d_M_grant_1 : decode prog_6_method_23_code 1 = .ok (.getfield 38, 3) := by decide +kernel
theorem d_M_grant_4 : decode prog_6_method_23_code 4 = .ok (.iload_n 1, 1) := by decide +kernel
theorem d_M_grant_5 : decode prog_6_method_23_code 5 = .ok (.iaload, 1) := by decide +kernel
theorem d_M_grant_6 : decode prog_6_method_23_code 6 = .ok (.istore_n 2, 1) := by decide +kernel
theorem d_M_grant_7 : decode prog_6_method_23_code 7 = .ok (.aload_n 0, 1) := by decide +kernel
theorem d_M_grant_8 : decode prog_6_method_23_code 8 = .ok (.getfield 7, 3) := by decide +kernel
theorem d_M_grant_11 : decode prog_6_method_23_code 11 = .ok (.iload_n 1, 1) := by decide +kernel
theorem d_M_grant_12 : decode prog_6_method_23_code 12 = .ok (.iconst 1, 1) := by decide +kernel
theorem d_M_grant_13 : decode prog_6_method_23_code 13 = .ok (.iastore, 1) := by decide +kernel
theorem d_M_grant_14 : decode prog_6_method_23_code 14 = .ok (.aload_n 0, 1) := by decide +kernel
theorem d_M_grant_15 : decode prog_6_method_23_code 15 = .ok (.getfield 35, 3) := by decide +kernel
theorem d_M_grant_18 : decode prog_6_method_23_code 18 = .ok (.iload_n 1, 1) := by decide +kernel
theorem d_M_grant_19 : decode prog_6_method_23_code 19 = .ok (.iaload, 1) := by decide +kernel
theorem d_M_grant_20 : decode prog_6_method_23_code 20 = .ok (.iconst 1, 1) := by decide +kernel
theorem d_M_grant_21 : decode prog_6_method_23_code 21 = .ok (.if_icmp .ne 79, 3) := by decide +kernel
theorem d_M_grant_24 : decode prog_6_method_23_code 24 = .ok (.aload_n 0, 1) := by decide +kernel
theorem d_M_grant_25 : decode prog_6_method_23_code 25 = .ok (.getfield 19, 3) := by decide +kernel
theorem d_M_grant_28 : decode prog_6_method_23_code 28 = .ok (.aload_n 0, 1) := by decide +kernel
theorem d_M_grant_29 : decode prog_6_method_23_code 29 = .ok (.getfield 93, 3) := by decide +kernel
theorem d_M_grant_32 : decode prog_6_method_23_code 32 = .ok (.iload_n 1, 1) := by decide +kernel
theorem d_M_grant_33 : decode prog_6_method_23_code 33 = .ok (.iastore, 1) := by decide +kernel
theorem d_M_grant_34 : decode prog_6_method_23_code 34 = .ok (.aload_n 0, 1) := by decide +kernel
theorem d_M_grant_35 : decode prog_6_method_23_code 35 = .ok (.getfield 22, 3) := by decide +kernel
theorem d_M_grant_38 : decode prog_6_method_23_code 38 = .ok (.aload_n 0, 1) := by decide +kernel
theorem d_M_grant_39 : decode prog_6_method_23_code 39 = .ok (.getfield 93, 3) := by decide +kernel
theorem d_M_grant_42 : decode prog_6_method_23_code 42 = .ok (.iload_n 2, 1) := by decide +kernel
theorem d_M_grant_43 : decode prog_6_method_23_code 43 = .ok (.iastore, 1) := by decide +kernel
theorem d_M_grant_44 : decode prog_6_method_23_code 44 = .ok (.aload_n 0, 1) := by decide +kernel
theorem d_M_grant_45 : decode prog_6_method_23_code 45 = .ok (.getfield 25, 3) := by decide +kernel
theorem d_M_grant_48 : decode prog_6_method_23_code 48 = .ok (.aload_n 0, 1) := by decide +kernel
theorem d_M_grant_49 : decode prog_6_method_23_code 49 = .ok (.getfield 93, 3) := by decide +kernel
theorem d_M_grant_52 : decode prog_6_method_23_code 52 = .ok (.aload_n 0, 1) := by decide +kernel
theorem d_M_grant_53 : decode prog_6_method_23_code 53 = .ok (.getfield 41, 3) := by decide +kernel
theorem d_M_grant_56 : decode prog_6_method_23_code 56 = .ok (.iload_n 1, 1) := by decide +kernel
theorem d_M_grant_57 : decode prog_6_method_23_code 57 = .ok (.iaload, 1) := by decide +kernel
theorem d_M_grant_58 : decode prog_6_method_23_code 58 = .ok (.iastore, 1) := by decide +kernel
theorem d_M_grant_59 : decode prog_6_method_23_code 59 = .ok (.aload_n 0, 1) := by decide +kernel
theorem d_M_grant_60 : decode prog_6_method_23_code 60 = .ok (.getfield 28, 3) := by decide +kernel
theorem d_M_grant_63 : decode prog_6_method_23_code 63 = .ok (.aload_n 0, 1) := by decide +kernel
theorem d_M_grant_64 : decode prog_6_method_23_code 64 = .ok (.getfield 93, 3) := by decide +kernel
theorem d_M_grant_67 : decode prog_6_method_23_code 67 = .ok (.aload_n 0, 1) := by decide +kernel
theorem d_M_grant_68 : decode prog_6_method_23_code 68 = .ok (.getfield 44, 3) := by decide +kernel
theorem d_M_grant_71 : decode prog_6_method_23_code 71 = .ok (.iload_n 1, 1) := by decide +kernel
theorem d_M_grant_72 : decode prog_6_method_23_code 72 = .ok (.laload, 1) := by decide +kernel
theorem d_M_grant_73 : decode prog_6_method_23_code 73 = .ok (.lastore, 1) := by decide +kernel
theorem d_M_grant_74 : decode prog_6_method_23_code 74 = .ok (.aload_n 0, 1) := by decide +kernel
theorem d_M_grant_75 : decode prog_6_method_23_code 75 = .ok (.getfield 32, 3) := by decide +kernel
theorem d_M_grant_78 : decode prog_6_method_23_code 78 = .ok (.aload_n 0, 1) := by decide +kernel
theorem d_M_grant_79 : decode prog_6_method_23_code 79 = .ok (.getfield 93, 3) := by decide +kernel
theorem d_M_grant_82 : decode prog_6_method_23_code 82 = .ok (.aload_n 0, 1) := by decide +kernel
theorem d_M_grant_83 : decode prog_6_method_23_code 83 = .ok (.getfield 47, 3) := by decide +kernel
theorem d_M_grant_86 : decode prog_6_method_23_code 86 = .ok (.iload_n 1, 1) := by decide +kernel
theorem d_M_grant_87 : decode prog_6_method_23_code 87 = .ok (.laload, 1) := by decide +kernel
theorem d_M_grant_88 : decode prog_6_method_23_code 88 = .ok (.lastore, 1) := by decide +kernel
theorem d_M_grant_89 : decode prog_6_method_23_code 89 = .ok (.aload_n 0, 1) := by decide +kernel
theorem d_M_grant_90 : decode prog_6_method_23_code 90 = .ok (.dup, 1) := by decide +kernel
theorem d_M_grant_91 : decode prog_6_method_23_code 91 = .ok (.getfield 93, 3) := by decide +kernel
theorem d_M_grant_94 : decode prog_6_method_23_code 94 = .ok (.iconst 1, 1) := by decide +kernel
theorem d_M_grant_95 : decode prog_6_method_23_code 95 = .ok (.iadd, 1) := by decide +kernel
theorem d_M_grant_96 : decode prog_6_method_23_code 96 = .ok (.putfield 93, 3) := by decide +kernel
theorem d_M_grant_99 : decode prog_6_method_23_code 99 = .ok (.return_, 1) := by decide +kernel
theorem d_M_grant_100 : decode prog_6_method_23_code 100 = .ok (.aload_n 0, 1) := by decide +kernel
theorem d_M_grant_101 : decode prog_6_method_23_code 101 = .ok (.getfield 16, 3) := by decide +kernel
theorem d_M_grant_104 : decode prog_6_method_23_code 104 = .ok (.bipush 16, 2) := by decide +kernel
theorem d_M_grant_106 : decode prog_6_method_23_code 106 = .ok (.iload_n 1, 1) := by decide +kernel
theorem d_M_grant_107 : decode prog_6_method_23_code 107 = .ok (.imul, 1) := by decide +kernel
theorem d_M_grant_108 : decode prog_6_method_23_code 108 = .ok (.iload_n 2, 1) := by decide +kernel
theorem d_M_grant_109 : decode prog_6_method_23_code 109 = .ok (.iadd, 1) := by decide +kernel
theorem d_M_grant_110 : decode prog_6_method_23_code 110 = .ok (.aload_n 0, 1) := by decide +kernel
theorem d_M_grant_111 : decode prog_6_method_23_code 111 = .ok (.getfield 41, 3) := by decide +kernel
theorem d_M_grant_114 : decode prog_6_method_23_code 114 = .ok (.iload_n 1, 1) := by decide +kernel
theorem d_M_grant_115 : decode prog_6_method_23_code 115 = .ok (.iaload, 1) := by decide +kernel
theorem d_M_grant_116 : decode prog_6_method_23_code 116 = .ok (.iastore, 1) := by decide +kernel
theorem d_M_grant_117 : decode prog_6_method_23_code 117 = .ok (.aload_n 0, 1) := by decide +kernel
theorem d_M_grant_118 : decode prog_6_method_23_code 118 = .ok (.getfield 35, 3) := by decide +kernel
theorem d_M_grant_121 : decode prog_6_method_23_code 121 = .ok (.iload_n 1, 1) := by decide +kernel
theorem d_M_grant_122 : decode prog_6_method_23_code 122 = .ok (.iaload, 1) := by decide +kernel
theorem d_M_grant_123 : decode prog_6_method_23_code 123 = .ok (.iconst 2, 1) := by decide +kernel
theorem d_M_grant_124 : decode prog_6_method_23_code 124 = .ok (.if_icmp .ne 9, 3) := by decide +kernel
theorem d_M_grant_127 : decode prog_6_method_23_code 127 = .ok (.aload_n 0, 1) := by decide +kernel
theorem d_M_grant_128 : decode prog_6_method_23_code 128 = .ok (.iload_n 1, 1) := by decide +kernel
theorem d_M_grant_129 : decode prog_6_method_23_code 129 = .ok (.iload_n 2, 1) := by decide +kernel
theorem d_M_grant_130 : decode prog_6_method_23_code 130 = .ok (.invokevirtual 117, 3) := by decide +kernel
theorem d_M_grant_133 : decode prog_6_method_23_code 133 = .ok (.return_, 1) := by decide +kernel
theorem d_M_nextBehind_0 : decode prog_6_method_24_code 0 = .ok (.iconst (-1), 1) := by decide +kernel
theorem d_M_nextBehind_1 : decode prog_6_method_24_code 1 = .ok (.istore_n 2, 1) := by decide +kernel
theorem d_M_nextBehind_2 : decode prog_6_method_24_code 2 = .ok (.iconst 0, 1) := by decide +kernel
theorem d_M_nextBehind_3 : decode prog_6_method_24_code 3 = .ok (.istore_n 3, 1) := by decide +kernel
theorem d_M_nextBehind_4 : decode prog_6_method_24_code 4 = .ok (.iload_n 3, 1) := by decide +kernel
theorem d_M_nextBehind_5 : decode prog_6_method_24_code 5 = .ok (.bipush 8, 2) := by decide +kernel
theorem d_M_nextBehind_7 : decode prog_6_method_24_code 7 = .ok (.if_icmp .ge 52, 3) := by decide +kernel
theorem d_M_nextBehind_10 : decode prog_6_method_24_code 10 = .ok (.aload_n 0, 1) := by decide +kernel
theorem d_M_nextBehind_11 : decode prog_6_method_24_code 11 = .ok (.getfield 7, 3) := by decide +kernel
theorem d_M_nextBehind_14 : decode prog_6_method_24_code 14 = .ok (.iload_n 3, 1) := by decide +kernel
theorem d_M_nextBehind_15 : decode prog_6_method_24_code 15 = .ok (.iaload, 1) := by decide +kernel
theorem d_M_nextBehind_16 : decode prog_6_method_24_code 16 = .ok (.iconst 2, 1) := by decide +kernel
theorem d_M_nextBehind_17 : decode prog_6_method_24_code 17 = .ok (.if_icmp .ne 36, 3) := by decide +kernel
theorem d_M_nextBehind_20 : decode prog_6_method_24_code 20 = .ok (.iload_n 3, 1) := by decide +kernel
theorem d_M_nextBehind_21 : decode prog_6_method_24_code 21 = .ok (.iload_n 1, 1) := by decide +kernel
theorem d_M_nextBehind_22 : decode prog_6_method_24_code 22 = .ok (.if_icmp .eq 31, 3) := by decide +kernel
theorem d_M_nextBehind_25 : decode prog_6_method_24_code 25 = .ok (.iload_n 1, 1) := by decide +kernel
theorem d_M_nextBehind_26 : decode prog_6_method_24_code 26 = .ok (.ifCond .lt 12, 3) := by decide +kernel
theorem d_M_nextBehind_29 : decode prog_6_method_24_code 29 = .ok (.aload_n 0, 1) := by decide +kernel
theorem d_M_nextBehind_30 : decode prog_6_method_24_code 30 = .ok (.iload_n 1, 1) := by decide +kernel
theorem d_M_nextBehind_31 : decode prog_6_method_24_code 31 = .ok (.iload_n 3, 1) := by decide +kernel
theorem d_M_nextBehind_32 : decode prog_6_method_24_code 32 = .ok (.invokevirtual 100, 3) := by decide +kernel
theorem d_M_nextBehind_35 : decode prog_6_method_24_code 35 = .ok (.ifCond .eq 18, 3) := by decide +kernel
theorem d_M_nextBehind_38 : decode prog_6_method_24_code 38 = .ok (.iload_n 2, 1) := by decide +kernel
theorem d_M_nextBehind_39 : decode prog_6_method_24_code 39 = .ok (.ifCond .lt 12, 3) := by decide +kernel
theorem d_M_nextBehind_42 : decode prog_6_method_24_code 42 = .ok (.aload_n 0, 1) := by decide +kernel
theorem d_M_nextBehind_43 : decode prog_6_method_24_code 43 = .ok (.iload_n 3, 1) := by decide +kernel
theorem d_M_nextBehind_44 : decode prog_6_method_24_code 44 = .ok (.iload_n 2, 1) := by decide +kernel
theorem d_M_nextBehind_45 : decode prog_6_method_24_code 45 = .ok (.invokevirtual 100, 3) := by decide +kernel
theorem d_M_nextBehind_48 : decode prog_6_method_24_code 48 = .ok (.ifCond .eq 5, 3) := by decide +kernel
theorem d_M_nextBehind_51 : decode prog_6_method_24_code 51 = .ok (.iload_n 3, 1) := by decide +kernel
theorem d_M_nextBehind_52 : decode prog_6_method_24_code 52 = .ok (.istore_n 2, 1) := by decide +kernel
theorem d_M_nextBehind_53 : decode prog_6_method_24_code 53 = .ok (.iinc 3 1, 3) := by decide +kernel
theorem d_M_nextBehind_56 : decode prog_6_method_24_code 56 = .ok (.goto (-52), 3) := by decide +kernel
theorem d_M_nextBehind_59 : decode prog_6_method_24_code 59 = .ok (.iload_n 2, 1) := by decide +kernel
theorem d_M_nextBehind_60 : decode prog_6_method_24_code 60 = .ok (.ireturn, 1) := by decide +kernel
theorem d_M_look_0 : decode prog_6_method_25_code 0 = .ok (.aload_n 0, 1) := by decide +kernel
theorem d_M_look_1 : decode prog_6_method_25_code 1 = .ok (.iconst 1, 1) := by decide +kernel
theorem d_M_look_2 : decode prog_6_method_25_code 2 = .ok (.putfield 113, 3) := by decide +kernel
theorem d_M_look_5 : decode prog_6_method_25_code 5 = .ok (.aload_n 0, 1) := by decide +kernel
theorem d_M_look_6 : decode prog_6_method_25_code 6 = .ok (.getfield 113, 3) := by decide +kernel
theorem d_M_look_9 : decode prog_6_method_25_code 9 = .ok (.ifCond .eq 70, 3) := by decide +kernel
theorem d_M_look_12 : decode prog_6_method_25_code 12 = .ok (.aload_n 0, 1) := by decide +kernel
theorem d_M_look_13 : decode prog_6_method_25_code 13 = .ok (.iconst 0, 1) := by decide +kernel
theorem d_M_look_14 : decode prog_6_method_25_code 14 = .ok (.putfield 113, 3) := by decide +kernel
theorem d_M_look_17 : decode prog_6_method_25_code 17 = .ok (.aload_n 0, 1) := by decide +kernel
theorem d_M_look_18 : decode prog_6_method_25_code 18 = .ok (.iconst (-1), 1) := by decide +kernel
theorem d_M_look_19 : decode prog_6_method_25_code 19 = .ok (.invokevirtual 121, 3) := by decide +kernel
theorem d_M_look_22 : decode prog_6_method_25_code 22 = .ok (.istore_n 2, 1) := by decide +kernel
theorem d_M_look_23 : decode prog_6_method_25_code 23 = .ok (.iload_n 2, 1) := by decide +kernel
theorem d_M_look_24 : decode prog_6_method_25_code 24 = .ok (.ifCond .lt 52, 3) := by decide +kernel
theorem d_M_look_27 : decode prog_6_method_25_code 27 = .ok (.aload_n 0, 1) := by decide +kernel
theorem d_M_look_28 : decode prog_6_method_25_code 28 = .ok (.iload_n 2, 1) := by decide +kernel
theorem d_M_look_29 : decode prog_6_method_25_code 29 = .ok (.invokevirtual 121, 3) := by decide +kernel
theorem d_M_look_32 : decode prog_6_method_25_code 32 = .ok (.istore_n 3, 1) := by decide +kernel
theorem d_M_look_33 : decode prog_6_method_25_code 33 = .ok (.aload_n 0, 1) := by decide +kernel
theorem d_M_look_34 : decode prog_6_method_25_code 34 = .ok (.iload_n 2, 1) := by decide +kernel
theorem d_M_look_35 : decode prog_6_method_25_code 35 = .ok (.invokevirtual 124, 3) := by decide +kernel
theorem d_M_look_38 : decode prog_6_method_25_code 38 = .ok (.ifCond .ne 33, 3) := by decide +kernel
theorem d_M_look_41 : decode prog_6_method_25_code 41 = .ok (.aload_n 0, 1) := by decide +kernel
theorem d_M_look_42 : decode prog_6_method_25_code 42 = .ok (.iload_n 2, 1) := by decide +kernel
theorem d_M_look_43 : decode prog_6_method_25_code 43 = .ok (.invokevirtual 127, 3) := by decide +kernel
theorem d_M_look_46 : decode prog_6_method_25_code 46 = .ok (.iload_n 2, 1) := by decide +kernel
theorem d_M_look_47 : decode prog_6_method_25_code 47 = .ok (.iload_n 1, 1) := by decide +kernel
theorem d_M_look_48 : decode prog_6_method_25_code 48 = .ok (.if_icmp .eq 23, 3) := by decide +kernel
theorem d_M_look_51 : decode prog_6_method_25_code 51 = .ok (.aload_n 0, 1) := by decide +kernel
theorem d_M_look_52 : decode prog_6_method_25_code 52 = .ok (.getfield 60, 3) := by decide +kernel
theorem d_M_look_55 : decode prog_6_method_25_code 55 = .ok (.aload_n 0, 1) := by decide +kernel
theorem d_M_look_56 : decode prog_6_method_25_code 56 = .ok (.getfield 130, 3) := by decide +kernel
theorem d_M_look_59 : decode prog_6_method_25_code 59 = .ok (.iload_n 2, 1) := by decide +kernel
theorem d_M_look_60 : decode prog_6_method_25_code 60 = .ok (.iastore, 1) := by decide +kernel
theorem d_M_look_61 : decode prog_6_method_25_code 61 = .ok (.aload_n 0, 1) := by decide +kernel
theorem d_M_look_62 : decode prog_6_method_25_code 62 = .ok (.dup, 1) := by decide +kernel
theorem d_M_look_63 : decode prog_6_method_25_code 63 = .ok (.getfield 130, 3) := by decide +kernel
theorem d_M_look_66 : decode prog_6_method_25_code 66 = .ok (.iconst 1, 1) := by decide +kernel
theorem d_M_look_67 : decode prog_6_method_25_code 67 = .ok (.iadd, 1) := by decide +kernel
theorem d_M_look_68 : decode prog_6_method_25_code 68 = .ok (.putfield 130, 3) := by decide +kernel
theorem d_M_look_71 : decode prog_6_method_25_code 71 = .ok (.iload_n 3, 1) := by decide +kernel
theorem d_M_look_72 : decode prog_6_method_25_code 72 = .ok (.istore_n 2, 1) := by decide +kernel
theorem d_M_look_73 : decode prog_6_method_25_code 73 = .ok (.goto (-50), 3) := by decide +kernel
theorem d_M_look_76 : decode prog_6_method_25_code 76 = .ok (.goto (-71), 3) := by decide +kernel
theorem d_M_look_79 : decode prog_6_method_25_code 79 = .ok (.return_, 1) := by decide +kernel
theorem d_M_begin_0 : decode prog_6_method_26_code 0 = .ok (.aload_n 0, 1) := by decide +kernel
theorem d_M_begin_1 : decode prog_6_method_26_code 1 = .ok (.iload_n 1, 1) := by decide +kernel
theorem d_M_begin_2 : decode prog_6_method_26_code 2 = .ok (.invokestatic 70, 3) := by decide +kernel
theorem d_M_begin_5 : decode prog_6_method_26_code 5 = .ok (.ifCond .ne 7, 3) := by decide +kernel
theorem d_M_begin_8 : decode prog_6_method_26_code 8 = .ok (.iconst 1, 1) := by decide +kernel
theorem d_M_begin_9 : decode prog_6_method_26_code 9 = .ok (.goto 4, 3) := by decide +kernel
theorem d_M_begin_12 : decode prog_6_method_26_code 12 = .ok (.iconst 0, 1) := by decide +kernel
theorem d_M_begin_13 : decode prog_6_method_26_code 13 = .ok (.iload_n 1, 1) := by decide +kernel
theorem d_M_begin_14 : decode prog_6_method_26_code 14 = .ok (.invokestatic 70, 3) := by decide +kernel
theorem d_M_begin_17 : decode prog_6_method_26_code 17 = .ok (.ifCond .eq 16, 3) := by decide +kernel
theorem d_M_begin_20 : decode prog_6_method_26_code 20 = .ok (.aload_n 0, 1) := by decide +kernel
theorem d_M_begin_21 : decode prog_6_method_26_code 21 = .ok (.getfield 7, 3) := by decide +kernel
theorem d_M_begin_24 : decode prog_6_method_26_code 24 = .ok (.iload_n 1, 1) := by decide +kernel
theorem d_M_begin_25 : decode prog_6_method_26_code 25 = .ok (.iaload, 1) := by decide +kernel
theorem d_M_begin_26 : decode prog_6_method_26_code 26 = .ok (.ifCond .eq 7, 3) := by decide +kernel
theorem d_M_begin_29 : decode prog_6_method_26_code 29 = .ok (.iconst 1, 1) := by decide +kernel
theorem d_M_begin_30 : decode prog_6_method_26_code 30 = .ok (.goto 4, 3) := by decide +kernel
theorem d_M_begin_33 : decode prog_6_method_26_code 33 = .ok (.iconst 0, 1) := by decide +kernel
theorem d_M_begin_34 : decode prog_6_method_26_code 34 = .ok (.iconst 0, 1) := by decide +kernel
theorem d_M_begin_35 : decode prog_6_method_26_code 35 = .ok (.invokevirtual 133, 3) := by decide +kernel
theorem d_M_begin_38 : decode prog_6_method_26_code 38 = .ok (.ifCond .eq 5, 3) := by decide +kernel
theorem d_M_begin_41 : decode prog_6_method_26_code 41 = .ok (.iconst 0, 1) := by decide +kernel
theorem d_M_begin_42 : decode prog_6_method_26_code 42 = .ok (.ireturn, 1) := by decide +kernel
theorem d_M_begin_43 : decode prog_6_method_26_code 43 = .ok (.aload_n 0, 1) := by decide +kernel
theorem d_M_begin_44 : decode prog_6_method_26_code 44 = .ok (.iconst 0, 1) := by decide +kernel
theorem d_M_begin_45 : decode prog_6_method_26_code 45 = .ok (.putfield 130, 3) := by decide +kernel
theorem d_M_begin_48 : decode prog_6_method_26_code 48 = .ok (.aload_n 0, 1) := by decide +kernel
theorem d_M_begin_49 : decode prog_6_method_26_code 49 = .ok (.dup, 1) := by decide +kernel
theorem d_M_begin_50 : decode prog_6_method_26_code 50 = .ok (.getfield 137, 3) := by decide +kernel
theorem d_M_begin_53 : decode prog_6_method_26_code 53 = .ok (.iconst 1, 1) := by decide +kernel
theorem d_M_begin_54 : decode prog_6_method_26_code 54 = .ok (.iadd, 1) := by decide +kernel
theorem d_M_begin_55 : decode prog_6_method_26_code 55 = .ok (.putfield 137, 3) := by decide +kernel
theorem d_M_begin_58 : decode prog_6_method_26_code 58 = .ok (.aload_n 0, 1) := by decide +kernel
theorem d_M_begin_59 : decode prog_6_method_26_code 59 = .ok (.getfield 13, 3) := by decide +kernel
theorem d_M_begin_62 : decode prog_6_method_26_code 62 = .ok (.iload_n 1, 1) := by decide +kernel
theorem d_M_begin_63 : decode prog_6_method_26_code 63 = .ok (.aload_n 0, 1) := by decide +kernel
theorem d_M_begin_64 : decode prog_6_method_26_code 64 = .ok (.getfield 137, 3) := by decide +kernel
theorem d_M_begin_67 : decode prog_6_method_26_code 67 = .ok (.iastore, 1) := by decide +kernel
theorem d_M_begin_68 : decode prog_6_method_26_code 68 = .ok (.aload_n 0, 1) := by decide +kernel
theorem d_M_begin_69 : decode prog_6_method_26_code 69 = .ok (.getfield 7, 3) := by decide +kernel
theorem d_M_begin_72 : decode prog_6_method_26_code 72 = .ok (.iload_n 1, 1) := by decide +kernel
theorem d_M_begin_73 : decode prog_6_method_26_code 73 = .ok (.iconst 1, 1) := by decide +kernel
theorem d_M_begin_74 : decode prog_6_method_26_code 74 = .ok (.iastore, 1) := by decide +kernel
theorem d_M_begin_75 : decode prog_6_method_26_code 75 = .ok (.aload_n 0, 1) := by decide +kernel
theorem d_M_begin_76 : decode prog_6_method_26_code 76 = .ok (.getfield 137, 3) := by decide +kernel
theorem d_M_begin_79 : decode prog_6_method_26_code 79 = .ok (.ireturn, 1) := by decide +kernel
theorem d_M_fillReach_0 : decode prog_6_method_27_code 0 = .ok (.iconst 0, 1) := by decide +kernel
theorem d_M_fillReach_1 : decode prog_6_method_27_code 1 = .ok (.istore_n 1, 1) := by decide +kernel
theorem d_M_fillReach_2 : decode prog_6_method_27_code 2 = .ok (.iload_n 1, 1) := by decide +kernel
theorem d_M_fillReach_3 : decode prog_6_method_27_code 3 = .ok (.bipush 8, 2) := by decide +kernel
theorem d_M_fillReach_5 : decode prog_6_method_27_code 5 = .ok (.if_icmp .ge 20, 3) := by decide +kernel
theorem d_M_fillReach_8 : decode prog_6_method_27_code 8 = .ok (.aload_n 0, 1) := by decide +kernel
theorem d_M_fillReach_9 : decode prog_6_method_27_code 9 = .ok (.getfield 63, 3) := by decide +kernel
theorem d_M_fillReach_12 : decode prog_6_method_27_code 12 = .ok (.iload_n 1, 1) := by decide +kernel
theorem d_M_fillReach_13 : decode prog_6_method_27_code 13 = .ok (.aload_n 0, 1) := by decide +kernel
theorem d_M_fillReach_14 : decode prog_6_method_27_code 14 = .ok (.iload_n 1, 1) := by decide +kernel
theorem d_M_fillReach_15 : decode prog_6_method_27_code 15 = .ok (.invokevirtual 124, 3) := by decide +kernel
theorem d_M_fillReach_18 : decode prog_6_method_27_code 18 = .ok (.iastore, 1) := by decide +kernel
theorem d_M_fillReach_19 : decode prog_6_method_27_code 19 = .ok (.iinc 1 1, 3) := by decide +kernel
theorem d_M_fillReach_22 : decode prog_6_method_27_code 22 = .ok (.goto (-20), 3) := by decide +kernel
theorem d_M_fillReach_25 : decode prog_6_method_27_code 25 = .ok (.iconst 0, 1) := by decide +kernel
theorem d_M_fillReach_26 : decode prog_6_method_27_code 26 = .ok (.istore_n 1, 1) := by decide +kernel
theorem d_M_fillReach_27 : decode prog_6_method_27_code 27 = .ok (.iload_n 1, 1) := by decide +kernel
theorem d_M_fillReach_28 : decode prog_6_method_27_code 28 = .ok (.bipush 8, 2) := by decide +kernel
theorem d_M_fillReach_30 : decode prog_6_method_27_code 30 = .ok (.if_icmp .ge 79, 3) := by decide +kernel
theorem d_M_fillReach_33 : decode prog_6_method_27_code 33 = .ok (.iconst 0, 1) := by decide +kernel
theorem d_M_fillReach_34 : decode prog_6_method_27_code 34 = .ok (.istore_n 2, 1) := by decide +kernel
theorem d_M_fillReach_35 : decode prog_6_method_27_code 35 = .ok (.iload_n 2, 1) := by decide +kernel
theorem d_M_fillReach_36 : decode prog_6_method_27_code 36 = .ok (.bipush 8, 2) := by decide +kernel
theorem d_M_fillReach_38 : decode prog_6_method_27_code 38 = .ok (.if_icmp .ge 65, 3) := by decide +kernel
theorem d_M_fillReach_41 : decode prog_6_method_27_code 41 = .ok (.iconst 0, 1) := by decide +kernel
theorem d_M_fillReach_42 : decode prog_6_method_27_code 42 = .ok (.istore_n 3, 1) := by decide +kernel
theorem d_M_fillReach_43 : decode prog_6_method_27_code 43 = .ok (.iload_n 3, 1) := by decide +kernel
theorem d_M_fillReach_44 : decode prog_6_method_27_code 44 = .ok (.bipush 8, 2) := by decide +kernel
theorem d_M_fillReach_46 : decode prog_6_method_27_code 46 = .ok (.if_icmp .ge 51, 3) := by decide +kernel
theorem d_M_fillReach_49 : decode prog_6_method_27_code 49 = .ok (.aload_n 0, 1) := by decide +kernel
theorem d_M_fillReach_50 : decode prog_6_method_27_code 50 = .ok (.getfield 63, 3) := by decide +kernel
theorem d_M_fillReach_53 : decode prog_6_method_27_code 53 = .ok (.iload_n 2, 1) := by decide +kernel
theorem d_M_fillReach_54 : decode prog_6_method_27_code 54 = .ok (.aload_n 0, 1) := by decide +kernel
theorem d_M_fillReach_55 : decode prog_6_method_27_code 55 = .ok (.getfield 63, 3) := by decide +kernel
theorem d_M_fillReach_58 : decode prog_6_method_27_code 58 = .ok (.iload_n 2, 1) := by decide +kernel
theorem d_M_fillReach_59 : decode prog_6_method_27_code 59 = .ok (.iaload, 1) := by decide +kernel
theorem d_M_fillReach_60 : decode prog_6_method_27_code 60 = .ok (.iload_n 3, 1) := by decide +kernel
theorem d_M_fillReach_61 : decode prog_6_method_27_code 61 = .ok (.ishr, 1) := by decide +kernel
theorem d_M_fillReach_62 : decode prog_6_method_27_code 62 = .ok (.iconst 1, 1) := by decide +kernel
theorem d_M_fillReach_63 : decode prog_6_method_27_code 63 = .ok (.iand, 1) := by decide +kernel
theorem d_M_fillReach_64 : decode prog_6_method_27_code 64 = .ok (.iconst 1, 1) := by decide +kernel
theorem d_M_fillReach_65 : decode prog_6_method_27_code 65 = .ok (.if_icmp .ne 19, 3) := by decide +kernel
theorem d_M_fillReach_68 : decode prog_6_method_27_code 68 = .ok (.aload_n 0, 1) := by decide +kernel
theorem d_M_fillReach_69 : decode prog_6_method_27_code 69 = .ok (.getfield 63, 3) := by decide +kernel
theorem d_M_fillReach_72 : decode prog_6_method_27_code 72 = .ok (.iload_n 2, 1) := by decide +kernel
theorem d_M_fillReach_73 : decode prog_6_method_27_code 73 = .ok (.iaload, 1) := by decide +kernel
theorem d_M_fillReach_74 : decode prog_6_method_27_code 74 = .ok (.aload_n 0, 1) := by decide +kernel
theorem d_M_fillReach_75 : decode prog_6_method_27_code 75 = .ok (.getfield 63, 3) := by decide +kernel
theorem d_M_fillReach_78 : decode prog_6_method_27_code 78 = .ok (.iload_n 3, 1) := by decide +kernel
theorem d_M_fillReach_79 : decode prog_6_method_27_code 79 = .ok (.iaload, 1) := by decide +kernel
theorem d_M_fillReach_80 : decode prog_6_method_27_code 80 = .ok (.ior, 1) := by decide +kernel
theorem d_M_fillReach_81 : decode prog_6_method_27_code 81 = .ok (.goto 9, 3) := by decide +kernel
theorem d_M_fillReach_84 : decode prog_6_method_27_code 84 = .ok (.aload_n 0, 1) := by decide +kernel
theorem d_M_fillReach_85 : decode prog_6_method_27_code 85 = .ok (.getfield 63, 3) := by decide +kernel
theorem d_M_fillReach_88 : decode prog_6_method_27_code 88 = .ok (.iload_n 2, 1) := by decide +kernel
theorem d_M_fillReach_89 : decode prog_6_method_27_code 89 = .ok (.iaload, 1) := by decide +kernel
theorem d_M_fillReach_90 : decode prog_6_method_27_code 90 = .ok (.iastore, 1) := by decide +kernel
theorem d_M_fillReach_91 : decode prog_6_method_27_code 91 = .ok (.iinc 3 1, 3) := by decide +kernel
theorem d_M_fillReach_94 : decode prog_6_method_27_code 94 = .ok (.goto (-51), 3) := by decide +kernel
theorem d_M_fillReach_97 : decode prog_6_method_27_code 97 = .ok (.iinc 2 1, 3) := by decide +kernel
theorem d_M_fillReach_100 : decode prog_6_method_27_code 100 = .ok (.goto (-65), 3) := by decide +kernel
theorem d_M_fillReach_103 : decode prog_6_method_27_code 103 = .ok (.iinc 1 1, 3) := by decide +kernel
theorem d_M_fillReach_106 : decode prog_6_method_27_code 106 = .ok (.goto (-79), 3) := by decide +kernel
theorem d_M_fillReach_109 : decode prog_6_method_27_code 109 = .ok (.return_, 1) := by decide +kernel
theorem d_M_breakRings_0 : decode prog_6_method_28_code 0 = .ok (.aload_n 0, 1) := by decide +kernel
theorem d_M_breakRings_1 : decode prog_6_method_28_code 1 = .ok (.invokevirtual 140, 3) := by decide +kernel
theorem d_M_breakRings_4 : decode prog_6_method_28_code 4 = .ok (.aload_n 0, 1) := by decide +kernel
theorem d_M_breakRings_5 : decode prog_6_method_28_code 5 = .ok (.getfield 7, 3) := by decide +kernel
theorem d_M_breakRings_8 : decode prog_6_method_28_code 8 = .ok (.iload_n 1, 1) := by decide +kernel
theorem d_M_breakRings_9 : decode prog_6_method_28_code 9 = .ok (.iaload, 1) := by decide +kernel
theorem d_M_breakRings_10 : decode prog_6_method_28_code 10 = .ok (.iconst 2, 1) := by decide +kernel
theorem d_M_breakRings_11 : decode prog_6_method_28_code 11 = .ok (.if_icmp .ne 113, 3) := by decide +kernel
theorem d_M_breakRings_14 : decode prog_6_method_28_code 14 = .ok (.aload_n 0, 1) := by decide +kernel
theorem d_M_breakRings_15 : decode prog_6_method_28_code 15 = .ok (.getfield 63, 3) := by decide +kernel
theorem d_M_breakRings_18 : decode prog_6_method_28_code 18 = .ok (.iload_n 1, 1) := by decide +kernel
theorem d_M_breakRings_19 : decode prog_6_method_28_code 19 = .ok (.iaload, 1) := by decide +kernel
theorem d_M_breakRings_20 : decode prog_6_method_28_code 20 = .ok (.iload_n 1, 1) := by decide +kernel
theorem d_M_breakRings_21 : decode prog_6_method_28_code 21 = .ok (.ishr, 1) := by decide +kernel
theorem d_M_breakRings_22 : decode prog_6_method_28_code 22 = .ok (.iconst 1, 1) := by decide +kernel
theorem d_M_breakRings_23 : decode prog_6_method_28_code 23 = .ok (.iand, 1) := by decide +kernel
theorem d_M_breakRings_24 : decode prog_6_method_28_code 24 = .ok (.iconst 1, 1) := by decide +kernel
theorem d_M_breakRings_25 : decode prog_6_method_28_code 25 = .ok (.if_icmp .ne 99, 3) := by decide +kernel
theorem d_M_breakRings_28 : decode prog_6_method_28_code 28 = .ok (.iload_n 1, 1) := by decide +kernel
theorem d_M_breakRings_29 : decode prog_6_method_28_code 29 = .ok (.istore_n 2, 1) := by decide +kernel
theorem d_M_breakRings_30 : decode prog_6_method_28_code 30 = .ok (.iconst 0, 1) := by decide +kernel
theorem d_M_breakRings_31 : decode prog_6_method_28_code 31 = .ok (.istore_n 3, 1) := by decide +kernel
theorem d_M_breakRings_32 : decode prog_6_method_28_code 32 = .ok (.iload_n 3, 1) := by decide +kernel
theorem d_M_breakRings_33 : decode prog_6_method_28_code 33 = .ok (.bipush 8, 2) := by decide +kernel
theorem d_M_breakRings_35 : decode prog_6_method_28_code 35 = .ok (.if_icmp .ge 70, 3) := by decide +kernel
theorem d_M_breakRings_38 : decode prog_6_method_28_code 38 = .ok (.aload_n 0, 1) := by decide +kernel
theorem d_M_breakRings_39 : decode prog_6_method_28_code 39 = .ok (.getfield 63, 3) := by decide +kernel
theorem d_M_breakRings_42 : decode prog_6_method_28_code 42 = .ok (.iload_n 1, 1) := by decide +kernel
theorem d_M_breakRings_43 : decode prog_6_method_28_code 43 = .ok (.iaload, 1) := by decide +kernel
theorem d_M_breakRings_44 : decode prog_6_method_28_code 44 = .ok (.iload_n 3, 1) := by decide +kernel
theorem d_M_breakRings_45 : decode prog_6_method_28_code 45 = .ok (.ishr, 1) := by decide +kernel
theorem d_M_breakRings_46 : decode prog_6_method_28_code 46 = .ok (.iconst 1, 1) := by decide +kernel
theorem d_M_breakRings_47 : decode prog_6_method_28_code 47 = .ok (.iand, 1) := by decide +kernel
theorem d_M_breakRings_48 : decode prog_6_method_28_code 48 = .ok (.iconst 1, 1) := by decide +kernel
theorem d_M_breakRings_49 : decode prog_6_method_28_code 49 = .ok (.if_icmp .ne 21, 3) := by decide +kernel
theorem d_M_breakRings_52 : decode prog_6_method_28_code 52 = .ok (.aload_n 0, 1) := by decide +kernel
theorem d_M_breakRings_53 : decode prog_6_method_28_code 53 = .ok (.getfield 63, 3) := by decide +kernel
theorem d_M_breakRings_56 : decode prog_6_method_28_code 56 = .ok (.iload_n 3, 1) := by decide +kernel
theorem d_M_breakRings_57 : decode prog_6_method_28_code 57 = .ok (.iaload, 1) := by decide +kernel
theorem d_M_breakRings_58 : decode prog_6_method_28_code 58 = .ok (.iload_n 1, 1) := by decide +kernel
theorem d_M_breakRings_59 : decode prog_6_method_28_code 59 = .ok (.ishr, 1) := by decide +kernel
theorem d_M_breakRings_60 : decode prog_6_method_28_code 60 = .ok (.iconst 1, 1) := by decide +kernel
theorem d_M_breakRings_61 : decode prog_6_method_28_code 61 = .ok (.iand, 1) := by decide +kernel
theorem d_M_breakRings_62 : decode prog_6_method_28_code 62 = .ok (.iconst 1, 1) := by decide +kernel
theorem d_M_breakRings_63 : decode prog_6_method_28_code 63 = .ok (.if_icmp .ne 7, 3) := by decide +kernel
theorem d_M_breakRings_66 : decode prog_6_method_28_code 66 = .ok (.iconst 1, 1) := by decide +kernel
theorem d_M_breakRings_67 : decode prog_6_method_28_code 67 = .ok (.goto 4, 3) := by decide +kernel
theorem d_M_breakRings_70 : decode prog_6_method_28_code 70 = .ok (.iconst 0, 1) := by decide +kernel
theorem d_M_breakRings_71 : decode prog_6_method_28_code 71 = .ok (.istore 4, 2) := by decide +kernel
theorem d_M_breakRings_73 : decode prog_6_method_28_code 73 = .ok (.iload 4, 2) := by decide +kernel
theorem d_M_breakRings_75 : decode prog_6_method_28_code 75 = .ok (.ifCond .eq 22, 3) := by decide +kernel
theorem d_M_breakRings_78 : decode prog_6_method_28_code 78 = .ok (.aload_n 0, 1) := by decide +kernel
theorem d_M_breakRings_79 : decode prog_6_method_28_code 79 = .ok (.getfield 13, 3) := by decide +kernel
theorem d_M_breakRings_82 : decode prog_6_method_28_code 82 = .ok (.iload_n 3, 1) := by decide +kernel
theorem d_M_breakRings_83 : decode prog_6_method_28_code 83 = .ok (.iaload, 1) := by decide +kernel
theorem d_M_breakRings_84 : decode prog_6_method_28_code 84 = .ok (.aload_n 0, 1) := by decide +kernel
theorem d_M_breakRings_85 : decode prog_6_method_28_code 85 = .ok (.getfield 13, 3) := by decide +kernel
theorem d_M_breakRings_88 : decode prog_6_method_28_code 88 = .ok (.iload_n 2, 1) := by decide +kernel
theorem d_M_breakRings_89 : decode prog_6_method_28_code 89 = .ok (.iaload, 1) := by decide +kernel
theorem d_M_breakRings_90 : decode prog_6_method_28_code 90 = .ok (.if_icmp .le 7, 3) := by decide +kernel
theorem d_M_breakRings_93 : decode prog_6_method_28_code 93 = .ok (.iload_n 3, 1) := by decide +kernel
theorem d_M_breakRings_94 : decode prog_6_method_28_code 94 = .ok (.goto 4, 3) := by decide +kernel
theorem d_M_breakRings_97 : decode prog_6_method_28_code 97 = .ok (.iload_n 2, 1) := by decide +kernel
theorem d_M_breakRings_98 : decode prog_6_method_28_code 98 = .ok (.istore_n 2, 1) := by decide +kernel
theorem d_M_breakRings_99 : decode prog_6_method_28_code 99 = .ok (.iinc 3 1, 3) := by decide +kernel
theorem d_M_breakRings_102 : decode prog_6_method_28_code 102 = .ok (.goto (-70), 3) := by decide +kernel
theorem d_M_breakRings_105 : decode prog_6_method_28_code 105 = .ok (.aload_n 0, 1) := by decide +kernel
theorem d_M_breakRings_106 : decode prog_6_method_28_code 106 = .ok (.getfield 7, 3) := by decide +kernel
theorem d_M_breakRings_109 : decode prog_6_method_28_code 109 = .ok (.iload_n 2, 1) := by decide +kernel
theorem d_M_breakRings_110 : decode prog_6_method_28_code 110 = .ok (.iconst 3, 1) := by decide +kernel
theorem d_M_breakRings_111 : decode prog_6_method_28_code 111 = .ok (.iastore, 1) := by decide +kernel
theorem d_M_breakRings_112 : decode prog_6_method_28_code 112 = .ok (.aload_n 0, 1) := by decide +kernel
theorem d_M_breakRings_113 : decode prog_6_method_28_code 113 = .ok (.iload_n 1, 1) := by decide +kernel
theorem d_M_breakRings_114 : decode prog_6_method_28_code 114 = .ok (.invokevirtual 143, 3) := by decide +kernel
theorem d_M_breakRings_117 : decode prog_6_method_28_code 117 = .ok (.aload_n 0, 1) := by decide +kernel
theorem d_M_breakRings_118 : decode prog_6_method_28_code 118 = .ok (.invokevirtual 140, 3) := by decide +kernel
theorem d_M_breakRings_121 : decode prog_6_method_28_code 121 = .ok (.goto (-117), 3) := by decide +kernel
theorem d_M_breakRings_124 : decode prog_6_method_28_code 124 = .ok (.return_, 1) := by decide +kernel
theorem d_M_ask_0 : decode prog_6_method_29_code 0 = .ok (.aload_n 0, 1) := by decide +kernel
theorem d_M_ask_1 : decode prog_6_method_29_code 1 = .ok (.getfield 50, 3) := by decide +kernel
theorem d_M_ask_4 : decode prog_6_method_29_code 4 = .ok (.iload_n 1, 1) := by decide +kernel
theorem d_M_ask_5 : decode prog_6_method_29_code 5 = .ok (.iload_n 2, 1) := by decide +kernel
theorem d_M_ask_6 : decode prog_6_method_29_code 6 = .ok (.bastore, 1) := by decide +kernel
theorem d_M_ask_7 : decode prog_6_method_29_code 7 = .ok (.aload_n 0, 1) := by decide +kernel
theorem d_M_ask_8 : decode prog_6_method_29_code 8 = .ok (.dup, 1) := by decide +kernel
theorem d_M_ask_9 : decode prog_6_method_29_code 9 = .ok (.getfield 146, 3) := by decide +kernel
theorem d_M_ask_12 : decode prog_6_method_29_code 12 = .ok (.iconst 1, 1) := by decide +kernel
theorem d_M_ask_13 : decode prog_6_method_29_code 13 = .ok (.iadd, 1) := by decide +kernel
theorem d_M_ask_14 : decode prog_6_method_29_code 14 = .ok (.putfield 146, 3) := by decide +kernel
theorem d_M_ask_17 : decode prog_6_method_29_code 17 = .ok (.aload_n 0, 1) := by decide +kernel
theorem d_M_ask_18 : decode prog_6_method_29_code 18 = .ok (.getfield 54, 3) := by decide +kernel
theorem d_M_ask_21 : decode prog_6_method_29_code 21 = .ok (.iload_n 1, 1) := by decide +kernel
theorem d_M_ask_22 : decode prog_6_method_29_code 22 = .ok (.aload_n 0, 1) := by decide +kernel
theorem d_M_ask_23 : decode prog_6_method_29_code 23 = .ok (.getfield 146, 3) := by decide +kernel
theorem d_M_ask_26 : decode prog_6_method_29_code 26 = .ok (.iastore, 1) := by decide +kernel
theorem d_M_ask_27 : decode prog_6_method_29_code 27 = .ok (.aload_n 0, 1) := by decide +kernel
theorem d_M_ask_28 : decode prog_6_method_29_code 28 = .ok (.getfield 57, 3) := by decide +kernel
theorem d_M_ask_31 : decode prog_6_method_29_code 31 = .ok (.iload_n 1, 1) := by decide +kernel
theorem d_M_ask_32 : decode prog_6_method_29_code 32 = .ok (.iconst 0, 1) := by decide +kernel
theorem d_M_ask_33 : decode prog_6_method_29_code 33 = .ok (.iastore, 1) := by decide +kernel
theorem d_M_ask_34 : decode prog_6_method_29_code 34 = .ok (.aload_n 0, 1) := by decide +kernel
theorem d_M_ask_35 : decode prog_6_method_29_code 35 = .ok (.getfield 7, 3) := by decide +kernel
theorem d_M_ask_38 : decode prog_6_method_29_code 38 = .ok (.iload_n 1, 1) := by decide +kernel
theorem d_M_ask_39 : decode prog_6_method_29_code 39 = .ok (.iconst 2, 1) := by decide +kernel
theorem d_M_ask_40 : decode prog_6_method_29_code 40 = .ok (.iastore, 1) := by decide +kernel
theorem d_M_ask_41 : decode prog_6_method_29_code 41 = .ok (.aload_n 0, 1) := by decide +kernel
theorem d_M_ask_42 : decode prog_6_method_29_code 42 = .ok (.iload_n 1, 1) := by decide +kernel
theorem d_M_ask_43 : decode prog_6_method_29_code 43 = .ok (.invokevirtual 124, 3) := by decide +kernel
theorem d_M_ask_46 : decode prog_6_method_29_code 46 = .ok (.ifCond .ne 27, 3) := by decide +kernel
theorem d_M_ask_49 : decode prog_6_method_29_code 49 = .ok (.aload_n 0, 1) := by decide +kernel
theorem d_M_ask_50 : decode prog_6_method_29_code 50 = .ok (.iconst 0, 1) := by decide +kernel
theorem d_M_ask_51 : decode prog_6_method_29_code 51 = .ok (.putfield 113, 3) := by decide +kernel
theorem d_M_ask_54 : decode prog_6_method_29_code 54 = .ok (.aload_n 0, 1) := by decide +kernel
theorem d_M_ask_55 : decode prog_6_method_29_code 55 = .ok (.iload_n 1, 1) := by decide +kernel
theorem d_M_ask_56 : decode prog_6_method_29_code 56 = .ok (.invokevirtual 127, 3) := by decide +kernel
theorem d_M_ask_59 : decode prog_6_method_29_code 59 = .ok (.aload_n 0, 1) := by decide +kernel
theorem d_M_ask_60 : decode prog_6_method_29_code 60 = .ok (.getfield 113, 3) := by decide +kernel
theorem d_M_ask_63 : decode prog_6_method_29_code 63 = .ok (.ifCond .eq 8, 3) := by decide +kernel
theorem d_M_ask_66 : decode prog_6_method_29_code 66 = .ok (.aload_n 0, 1) := by decide +kernel
theorem d_M_ask_67 : decode prog_6_method_29_code 67 = .ok (.iload_n 1, 1) := by decide +kernel
theorem d_M_ask_68 : decode prog_6_method_29_code 68 = .ok (.invokevirtual 143, 3) := by decide +kernel
theorem d_M_ask_71 : decode prog_6_method_29_code 71 = .ok (.iconst 0, 1) := by decide +kernel
theorem d_M_ask_72 : decode prog_6_method_29_code 72 = .ok (.ireturn, 1) := by decide +kernel
theorem d_M_ask_73 : decode prog_6_method_29_code 73 = .ok (.aload_n 0, 1) := by decide +kernel
theorem d_M_ask_74 : decode prog_6_method_29_code 74 = .ok (.iload_n 1, 1) := by decide +kernel
theorem d_M_ask_75 : decode prog_6_method_29_code 75 = .ok (.invokevirtual 149, 3) := by decide +kernel
theorem d_M_ask_78 : decode prog_6_method_29_code 78 = .ok (.aload_n 0, 1) := by decide +kernel
theorem d_M_ask_79 : decode prog_6_method_29_code 79 = .ok (.getfield 7, 3) := by decide +kernel
theorem d_M_ask_82 : decode prog_6_method_29_code 82 = .ok (.iload_n 1, 1) := by decide +kernel
theorem d_M_ask_83 : decode prog_6_method_29_code 83 = .ok (.iaload, 1) := by decide +kernel
theorem d_M_ask_84 : decode prog_6_method_29_code 84 = .ok (.iconst 1, 1) := by decide +kernel
theorem d_M_ask_85 : decode prog_6_method_29_code 85 = .ok (.if_icmp .ne 7, 3) := by decide +kernel
theorem d_M_ask_88 : decode prog_6_method_29_code 88 = .ok (.iconst 0, 1) := by decide +kernel
theorem d_M_ask_89 : decode prog_6_method_29_code 89 = .ok (.goto 18, 3) := by decide +kernel
theorem d_M_ask_92 : decode prog_6_method_29_code 92 = .ok (.aload_n 0, 1) := by decide +kernel
theorem d_M_ask_93 : decode prog_6_method_29_code 93 = .ok (.getfield 7, 3) := by decide +kernel
theorem d_M_ask_96 : decode prog_6_method_29_code 96 = .ok (.iload_n 1, 1) := by decide +kernel
theorem d_M_ask_97 : decode prog_6_method_29_code 97 = .ok (.iaload, 1) := by decide +kernel
theorem d_M_ask_98 : decode prog_6_method_29_code 98 = .ok (.iconst 2, 1) := by decide +kernel
theorem d_M_ask_99 : decode prog_6_method_29_code 99 = .ok (.if_icmp .ne 7, 3) := by decide +kernel
theorem d_M_ask_102 : decode prog_6_method_29_code 102 = .ok (.iconst 1, 1) := by decide +kernel
theorem d_M_ask_103 : decode prog_6_method_29_code 103 = .ok (.goto 4, 3) := by decide +kernel
theorem d_M_ask_106 : decode prog_6_method_29_code 106 = .ok (.iconst 2, 1) := by decide +kernel
theorem d_M_ask_107 : decode prog_6_method_29_code 107 = .ok (.ireturn, 1) := by decide +kernel
def F_M_thrown (mth : Int32) : Option (Int32) :=
  some mth
set_option maxHeartbeats 4000000 in
set_option maxRecDepth 100000 in
theorem t_M_thrown {p : Program} {l : Launch} {e : Env} {s : State} {m : MethodId} {args : Array Value} {below : List Frame} {meth : Method} {c : Code} {A : Nat → Prop} {g : va_G} {cI cJ cZ : ClassId} {ad : Nat → Nat} {rest : va_W} (K : kX p s m args meth c "LockTableModel" prog_6_method_2_code 1 (some .int) A g (kty cI cJ cZ)) (mth : Int32) (mst : Nat → Int32) (mse : Nat → Int32) (mla : Int32) (mmo : Nat → Int32) (mrc : Int32) (mro : Nat → Int32) (mrt : Nat → Int32) (mrm : Nat → Int32) (mrl : Nat → Int64) (mrh : Nat → Int64) (mwk : Nat → Int32) (mwt : Nat → Int32) (mwm : Nat → Int32) (mwl : Nat → Int64) (mwh : Nat → Int64) (mwi : Nat → Int32) (mwc : Nat → Int32) (mwx : Nat → Int32) (mar : Int32) (mli : Int32) (mgr : Int32) (mgo : Nat → Int32) (mre : Nat → Int32) (mfr : Int32)  (r : Int32) (hF : F_M_thrown mth = some r) {H : Heap} {locs : List Loc} {ls : Array Slot} (hP : va_P g kcl (wM cI cJ cZ ad mth mst mse mla mmo mrc mro mrt mrm mrl mrh mwk mwt mwm mwl mwh mwi mwc mwx mar mli mgr mgo mre mfr rest) H) (hD : va_D A (wM cI cJ cZ ad mth mst mse mla mmo mrc mro mrt mrm mrl mrh mwk mwt mwm mwl mwh mwi mwc mwx mar mli mgr mgo mre mfr rest)) (hS : va_S A s.heap H locs) (hl : lv_has ls 1 [(0, .ref (ad 0))]) : W p l e ({ frames := 0, cells := 0, slots := 0, locals := 0 }) s m args below meth c H locs 0 0 (MQ below (kQi g (kty cI cJ cZ) (wM cI cJ cZ ad mth mst mse mla mmo mrc mro mrt mrm mrl mrh mwk mwt mwm mwl mwh mwi mwc mwx mar mli mgr mgo mre mfr rest) A r) args s 0 0 A) (F0 m 0 ls []) := by
  obtain ⟨hx, hb, hr, hml, hown, hts, hlocks, hK, hA, hE⟩ := id K
  unfold F_M_thrown at hF
  refine lv_aload_n hx hb d_M_thrown_0 rfl (lv_at hl 0 rfl) ?_
  refine va_get (D := g) (ci := 3) (v := .int mth) (C := kR3) (T := kT3) (N := 25) hx hb hts kw3 hown hK hP 0 rfl rfl 0 (by decide) (hts _ wm_671) (fun _ h9 => h9) rfl d_M_thrown_1 ?_
  cases hF
  exact kri K hP hD hS d_M_thrown_4 rfl
theorem c_M_thrown (l : Launch) (g : va_G) (cI cJ cZ : ClassId) (ad : Nat → Nat) (mth : Int32) (mst : Nat → Int32) (mse : Nat → Int32) (mla : Int32) (mmo : Nat → Int32) (mrc : Int32) (mro : Nat → Int32) (mrt : Nat → Int32) (mrm : Nat → Int32) (mrl : Nat → Int64) (mrh : Nat → Int64) (mwk : Nat → Int32) (mwt : Nat → Int32) (mwm : Nat → Int32) (mwl : Nat → Int64) (mwh : Nat → Int64) (mwi : Nat → Int32) (mwc : Nat → Int32) (mwx : Nat → Int32) (mar : Int32) (mli : Int32) (mgr : Int32) (mgo : Nat → Int32) (mre : Nat → Int32) (mfr : Int32) (rest : va_W)  (r : Int32) (hF : F_M_thrown mth = some r) : Ci l y_M_thrown prog_6_method_2_code 1 (some .int) ({ frames := 0, cells := 0, slots := 0, locals := 0 }) [.ref (ad 0)] g (kty cI cJ cZ) (wM cI cJ cZ ad mth mst mse mla mmo mrc mro mrt mrm mrl mrh mwk mwt mwm mwl mwh mwi mwc mwx mar mli mgr mgo mre mfr rest) (wM cI cJ cZ ad mth mst mse mla mmo mrc mro mrt mrm mrl mrh mwk mwt mwm mwl mwh mwi mwc mwx mar mli mgr mgo mre mfr rest) r :=
  Ci.of (by decide) (Nat.le_of_ble_eq_true rfl) (fun p e s m below meth c A ls K hP hD hS hl => t_M_thrown K mth mst mse mla mmo mrc mro mrt mrm mrl mrh mwk mwt mwm mwl mwh mwi mwc mwx mar mli mgr mgo mre mfr  r hF hP hD hS hl)
def F_M_refused (mth : Int32) (a1 : Int32) (a2 : Int32) (a3 : Int32) : Option (Int32 × Int32) :=
  jn1 (fun (s_1 : Int32) => if s_1 ≤ 0 then some (0, s_1) else some (1, s_1)) (fun J26 => if a1 = 0 then if a2 = 0 then if a3 = 0 then J26 0 else J26 3 else J26 2 else J26 1)
set_option maxHeartbeats 4000000 in
set_option maxRecDepth 100000 in
theorem t_M_refused {p : Program} {l : Launch} {e : Env} {s : State} {m : MethodId} {args : Array Value} {below : List Frame} {meth : Method} {c : Code} {A : Nat → Prop} {g : va_G} {cI cJ cZ : ClassId} {ad : Nat → Nat} {rest : va_W} (K : kX p s m args meth c "LockTableModel" prog_6_method_3_code 4 (some .boolean) A g (kty cI cJ cZ)) (mth : Int32) (mst : Nat → Int32) (mse : Nat → Int32) (mla : Int32) (mmo : Nat → Int32) (mrc : Int32) (mro : Nat → Int32) (mrt : Nat → Int32) (mrm : Nat → Int32) (mrl : Nat → Int64) (mrh : Nat → Int64) (mwk : Nat → Int32) (mwt : Nat → Int32) (mwm : Nat → Int32) (mwl : Nat → Int64) (mwh : Nat → Int64) (mwi : Nat → Int32) (mwc : Nat → Int32) (mwx : Nat → Int32) (mar : Int32) (mli : Int32) (mgr : Int32) (mgo : Nat → Int32) (mre : Nat → Int32) (mfr : Int32) (a1 : Int32) (a2 : Int32) (a3 : Int32) (r : Int32) (o_mth : Int32) (hF : F_M_refused mth a1 a2 a3 = some (r, o_mth)) {H : Heap} {locs : List Loc} {ls : Array Slot} (hP : va_P g kcl (wM cI cJ cZ ad mth mst mse mla mmo mrc mro mrt mrm mrl mrh mwk mwt mwm mwl mwh mwi mwc mwx mar mli mgr mgo mre mfr rest) H) (hD : va_D A (wM cI cJ cZ ad mth mst mse mla mmo mrc mro mrt mrm mrl mrh mwk mwt mwm mwl mwh mwi mwc mwx mar mli mgr mgo mre mfr rest)) (hS : va_S A s.heap H locs) (hl : lv_has ls 4 [(0, .ref (ad 0)), (1, .int a1), (2, .int a2), (3, .int a3)]) : W p l e ({ frames := 0, cells := 0, slots := 0, locals := 0 }) s m args below meth c H locs 0 0 (MQ below (kQi g (kty cI cJ cZ) (wM cI cJ cZ ad o_mth mst mse mla mmo mrc mro mrt mrm mrl mrh mwk mwt mwm mwl mwh mwi mwc mwx mar mli mgr mgo mre mfr rest) A r) args s 0 0 A) (F0 m 0 ls []) := by
  obtain ⟨hx, hb, hr, hml, hown, hts, hlocks, hK, hA, hE⟩ := id K
  unfold F_M_refused at hF
  refine lv_aload_n hx hb d_M_refused_0 rfl (lv_at hl 0 rfl) ?_
  refine lv_iload_n hx hb d_M_refused_1 rfl (lv_at hl 1 rfl) ?_
  obtain ⟨J26, eJ26, hF⟩ := jn1_inv hF
  have hJ26 : ∀ (s_1 : Int32) (H : Heap) (locs : List Loc) (ls : Array Slot), J26 s_1 = some (r, o_mth) → va_P g kcl (wM cI cJ cZ ad mth mst mse mla mmo mrc mro mrt mrm mrl mrh mwk mwt mwm mwl mwh mwi mwc mwx mar mli mgr mgo mre mfr rest) H → va_D A (wM cI cJ cZ ad mth mst mse mla mmo mrc mro mrt mrm mrl mrh mwk mwt mwm mwl mwh mwi mwc mwx mar mli mgr mgo mre mfr rest) → va_S A s.heap H locs → lv_has ls 4 [(0, .ref (ad 0))] → W p l e ({ frames := 0, cells := 0, slots := 0, locals := 0 }) s m args below meth c H locs 0 0 (MQ below (kQi g (kty cI cJ cZ) (wM cI cJ cZ ad o_mth mst mse mla mmo mrc mro mrt mrm mrl mrh mwk mwt mwm mwl mwh mwi mwc mwx mar mli mgr mgo mre mfr rest) A r) args s 0 0 A) (F0 m 26 ls [.int s_1, .ref (ad 0)]) := by
    intro s_1 H locs ls hF hP hD hS hl
    rw [eJ26] at hF
    refine va_put (D := g) (ci := 3) (v := .int s_1) (ty := .int) (C := kR3) (T := kT3) (N := 25) hx hb hts kw3 kt3 ko3 kn3 hown hK hP hD hS 0 rfl rfl 0 (by decide) (hts _ wm_671) (fun _ h9 => h9) rfl (by decide +kernel) rfl rfl (Nat.le_of_ble_eq_true rfl) d_M_refused_26 (fun H locs hP hD hS => ?_)
    have hP : va_P g kcl (wM cI cJ cZ ad s_1 mst mse mla mmo mrc mro mrt mrm mrl mrh mwk mwt mwm mwl mwh mwi mwc mwx mar mli mgr mgo mre mfr rest) H := hP
    have hD : va_D A (wM cI cJ cZ ad s_1 mst mse mla mmo mrc mro mrt mrm mrl mrh mwk mwt mwm mwl mwh mwi mwc mwx mar mli mgr mgo mre mfr rest) := hD
    refine lv_aload_n hx hb d_M_refused_29 rfl (lv_at hl 0 rfl) ?_
    refine va_get (D := g) (ci := 3) (v := .int s_1) (C := kR3) (T := kT3) (N := 25) hx hb hts kw3 hown hK hP 0 rfl rfl 0 (by decide) (hts _ wm_671) (fun _ h9 => h9) rfl d_M_refused_30 ?_
    refine lv_if_le (tgt := 40) hx hb d_M_refused_33 (by decide) (fun hc_2 => ?_) (fun hc_2 => ?_)
    · have hF := it_t hF hc_2
      refine lv_iconst (v := 0) hx hb d_M_refused_40 (by decide) ?_
      cases hF
      exact krz K hP hD hS d_M_refused_41 rfl rfl
    · have hF := it_f hF hc_2
      refine lv_iconst (v := 1) hx hb d_M_refused_36 (by decide) ?_
      refine lv_goto (tgt := 41) hx hb d_M_refused_37 (by decide) ?_
      cases hF
      exact krz K hP hD hS d_M_refused_41 rfl rfl
  refine lv_if_eq (tgt := 9) hx hb d_M_refused_2 (by decide) (fun hc_3 => ?_) (fun hc_3 => ?_)
  · have hF := it_t hF hc_3
    refine lv_iload_n hx hb d_M_refused_9 rfl (lv_at hl 2 rfl) ?_
    refine lv_if_eq (tgt := 17) hx hb d_M_refused_10 (by decide) (fun hc_4 => ?_) (fun hc_4 => ?_)
    · have hF := it_t hF hc_4
      refine lv_iload_n hx hb d_M_refused_17 rfl (lv_at hl 3 rfl) ?_
      refine lv_if_eq (tgt := 25) hx hb d_M_refused_18 (by decide) (fun hc_5 => ?_) (fun hc_5 => ?_)
      · have hF := it_t hF hc_5
        refine lv_iconst (v := 0) hx hb d_M_refused_25 (by decide) ?_
        exact hJ26 _ H locs ls hF hP hD hS (lv_sub hl [0] rfl)
      · have hF := it_f hF hc_5
        refine lv_iconst (v := 3) hx hb d_M_refused_21 (by decide) ?_
        refine lv_goto (tgt := 26) hx hb d_M_refused_22 (by decide) ?_
        exact hJ26 _ H locs ls hF hP hD hS (lv_sub hl [0] rfl)
    · have hF := it_f hF hc_4
      refine lv_iconst (v := 2) hx hb d_M_refused_13 (by decide) ?_
      refine lv_goto (tgt := 26) hx hb d_M_refused_14 (by decide) ?_
      exact hJ26 _ H locs ls hF hP hD hS (lv_sub hl [0] rfl)
  · have hF := it_f hF hc_3
    refine lv_iconst (v := 1) hx hb d_M_refused_5 (by decide) ?_
    refine lv_goto (tgt := 26) hx hb d_M_refused_6 (by decide) ?_
    exact hJ26 _ H locs ls hF hP hD hS (lv_sub hl [0] rfl)
theorem c_M_refused (l : Launch) (g : va_G) (cI cJ cZ : ClassId) (ad : Nat → Nat) (mth : Int32) (mst : Nat → Int32) (mse : Nat → Int32) (mla : Int32) (mmo : Nat → Int32) (mrc : Int32) (mro : Nat → Int32) (mrt : Nat → Int32) (mrm : Nat → Int32) (mrl : Nat → Int64) (mrh : Nat → Int64) (mwk : Nat → Int32) (mwt : Nat → Int32) (mwm : Nat → Int32) (mwl : Nat → Int64) (mwh : Nat → Int64) (mwi : Nat → Int32) (mwc : Nat → Int32) (mwx : Nat → Int32) (mar : Int32) (mli : Int32) (mgr : Int32) (mgo : Nat → Int32) (mre : Nat → Int32) (mfr : Int32) (rest : va_W) (a1 : Int32) (a2 : Int32) (a3 : Int32) (r : Int32) (o_mth : Int32) (hF : F_M_refused mth a1 a2 a3 = some (r, o_mth)) : Ci l y_M_refused prog_6_method_3_code 4 (some .boolean) ({ frames := 0, cells := 0, slots := 0, locals := 0 }) [.ref (ad 0), .int a1, .int a2, .int a3] g (kty cI cJ cZ) (wM cI cJ cZ ad mth mst mse mla mmo mrc mro mrt mrm mrl mrh mwk mwt mwm mwl mwh mwi mwc mwx mar mli mgr mgo mre mfr rest) (wM cI cJ cZ ad o_mth mst mse mla mmo mrc mro mrt mrm mrl mrh mwk mwt mwm mwl mwh mwi mwc mwx mar mli mgr mgo mre mfr rest) r :=
  Ci.of (by decide) (Nat.le_of_ble_eq_true rfl) (fun p e s m below meth c A ls K hP hD hS hl => t_M_refused K mth mst mse mla mmo mrc mro mrt mrm mrl mrh mwk mwt mwm mwl mwh mwi mwc mwx mar mli mgr mgo mre mfr a1 a2 a3 r o_mth hF hP hD hS hl)
def F_M_isOwner (a1 : Int32) : Option (Int32) :=
  if a1 < 0 then some 0 else if 8 ≤ a1 then some 0 else some 1
set_option maxHeartbeats 4000000 in
set_option maxRecDepth 100000 in
theorem t_M_isOwner {p : Program} {l : Launch} {e : Env} {s : State} {m : MethodId} {args : Array Value} {below : List Frame} {meth : Method} {c : Code} {A : Nat → Prop} {g : va_G} {tys : List (ClassId × FieldType)} {w : va_W} (K : kX p s m args meth c "LockTableModel" prog_6_method_4_code 1 (some .boolean) A g tys)  (a1 : Int32) (r : Int32) (hF : F_M_isOwner a1 = some r) {H : Heap} {locs : List Loc} {ls : Array Slot} (hP : va_P g kcl w H) (hD : va_D A w) (hS : va_S A s.heap H locs) (hl : lv_has ls 1 [(0, .int a1)]) : W p l e ({ frames := 0, cells := 0, slots := 0, locals := 0 }) s m args below meth c H locs 0 0 (MQ below (kQi g tys w A r) args s 0 0 A) (F0 m 0 ls []) := by
  obtain ⟨hx, hb, hr, hml, hown, hts, hlocks, hK, hA, hE⟩ := id K
  unfold F_M_isOwner at hF
  refine lv_iload_n hx hb d_M_isOwner_0 rfl (lv_at hl 0 rfl) ?_
  refine lv_if_lt (tgt := 14) hx hb d_M_isOwner_1 (by decide) (fun hc_1 => ?_) (fun hc_1 => ?_)
  · have hF := it_t hF hc_1
    refine lv_iconst (v := 0) hx hb d_M_isOwner_14 (by decide) ?_
    cases hF
    exact krz K hP hD hS d_M_isOwner_15 rfl rfl
  · have hF := it_f hF hc_1
    refine lv_iload_n hx hb d_M_isOwner_4 rfl (lv_at hl 0 rfl) ?_
    refine lv_bipush (v := 8) hx hb d_M_isOwner_5 (by decide) ?_
    refine lv_icmp_ge (tgt := 14) hx hb d_M_isOwner_7 (by decide) (fun hc_2 => ?_) (fun hc_2 => ?_)
    · have hF := it_t hF hc_2
      refine lv_iconst (v := 0) hx hb d_M_isOwner_14 (by decide) ?_
      cases hF
      exact krz K hP hD hS d_M_isOwner_15 rfl rfl
    · have hF := it_f hF hc_2
      refine lv_iconst (v := 1) hx hb d_M_isOwner_10 (by decide) ?_
      refine lv_goto (tgt := 15) hx hb d_M_isOwner_11 (by decide) ?_
      cases hF
      exact krz K hP hD hS d_M_isOwner_15 rfl rfl
theorem c_M_isOwner (l : Launch) (g : va_G) (tys : List (ClassId × FieldType)) (w : va_W) (a1 : Int32) (r : Int32) (hF : F_M_isOwner a1 = some r) : Ci l y_M_isOwner prog_6_method_4_code 1 (some .boolean) ({ frames := 0, cells := 0, slots := 0, locals := 0 }) [.int a1] g tys w w r :=
  Ci.of (by decide) (Nat.le_of_ble_eq_true rfl) (fun p e s m below meth c A ls K hP hD hS hl => t_M_isOwner K  a1 r hF hP hD hS hl)
def F_M_isTable (a1 : Int32) : Option (Int32) :=
  if a1 < 0 then some 0 else if 16 ≤ a1 then some 0 else some 1
set_option maxHeartbeats 4000000 in
set_option maxRecDepth 100000 in
theorem t_M_isTable {p : Program} {l : Launch} {e : Env} {s : State} {m : MethodId} {args : Array Value} {below : List Frame} {meth : Method} {c : Code} {A : Nat → Prop} {g : va_G} {tys : List (ClassId × FieldType)} {w : va_W} (K : kX p s m args meth c "LockTableModel" prog_6_method_5_code 1 (some .boolean) A g tys)  (a1 : Int32) (r : Int32) (hF : F_M_isTable a1 = some r) {H : Heap} {locs : List Loc} {ls : Array Slot} (hP : va_P g kcl w H) (hD : va_D A w) (hS : va_S A s.heap H locs) (hl : lv_has ls 1 [(0, .int a1)]) : W p l e ({ frames := 0, cells := 0, slots := 0, locals := 0 }) s m args below meth c H locs 0 0 (MQ below (kQi g tys w A r) args s 0 0 A) (F0 m 0 ls []) := by
  obtain ⟨hx, hb, hr, hml, hown, hts, hlocks, hK, hA, hE⟩ := id K
  unfold F_M_isTable at hF
  refine lv_iload_n hx hb d_M_isTable_0 rfl (lv_at hl 0 rfl) ?_
  refine lv_if_lt (tgt := 14) hx hb d_M_isTable_1 (by decide) (fun hc_1 => ?_) (fun hc_1 => ?_)
  · have hF := it_t hF hc_1
    refine lv_iconst (v := 0) hx hb d_M_isTable_14 (by decide) ?_
    cases hF
    exact krz K hP hD hS d_M_isTable_15 rfl rfl
  · have hF := it_f hF hc_1
    refine lv_iload_n hx hb d_M_isTable_4 rfl (lv_at hl 0 rfl) ?_
    refine lv_bipush (v := 16) hx hb d_M_isTable_5 (by decide) ?_
    refine lv_icmp_ge (tgt := 14) hx hb d_M_isTable_7 (by decide) (fun hc_2 => ?_) (fun hc_2 => ?_)
    · have hF := it_t hF hc_2
      refine lv_iconst (v := 0) hx hb d_M_isTable_14 (by decide) ?_
      cases hF
      exact krz K hP hD hS d_M_isTable_15 rfl rfl
    · have hF := it_f hF hc_2
      refine lv_iconst (v := 1) hx hb d_M_isTable_10 (by decide) ?_
      refine lv_goto (tgt := 15) hx hb d_M_isTable_11 (by decide) ?_
      cases hF
      exact krz K hP hD hS d_M_isTable_15 rfl rfl
theorem c_M_isTable (l : Launch) (g : va_G) (tys : List (ClassId × FieldType)) (w : va_W) (a1 : Int32) (r : Int32) (hF : F_M_isTable a1 = some r) : Ci l y_M_isTable prog_6_method_5_code 1 (some .boolean) ({ frames := 0, cells := 0, slots := 0, locals := 0 }) [.int a1] g tys w w r :=
  Ci.of (by decide) (Nat.le_of_ble_eq_true rfl) (fun p e s m below meth c A ls K hP hD hS hl => t_M_isTable K  a1 r hF hP hD hS hl)
def F_M_isMode (a1 : Int32) : Option (Int32) :=
  if a1 < 0 then some 0 else if 5 < a1 then some 0 else some 1
set_option maxHeartbeats 4000000 in
set_option maxRecDepth 100000 in
theorem t_M_isMode {p : Program} {l : Launch} {e : Env} {s : State} {m : MethodId} {args : Array Value} {below : List Frame} {meth : Method} {c : Code} {A : Nat → Prop} {g : va_G} {tys : List (ClassId × FieldType)} {w : va_W} (K : kX p s m args meth c "LockTableModel" prog_6_method_6_code 1 (some .boolean) A g tys)  (a1 : Int32) (r : Int32) (hF : F_M_isMode a1 = some r) {H : Heap} {locs : List Loc} {ls : Array Slot} (hP : va_P g kcl w H) (hD : va_D A w) (hS : va_S A s.heap H locs) (hl : lv_has ls 1 [(0, .int a1)]) : W p l e ({ frames := 0, cells := 0, slots := 0, locals := 0 }) s m args below meth c H locs 0 0 (MQ below (kQi g tys w A r) args s 0 0 A) (F0 m 0 ls []) := by
  obtain ⟨hx, hb, hr, hml, hown, hts, hlocks, hK, hA, hE⟩ := id K
  unfold F_M_isMode at hF
  refine lv_iload_n hx hb d_M_isMode_0 rfl (lv_at hl 0 rfl) ?_
  refine lv_if_lt (tgt := 13) hx hb d_M_isMode_1 (by decide) (fun hc_1 => ?_) (fun hc_1 => ?_)
  · have hF := it_t hF hc_1
    refine lv_iconst (v := 0) hx hb d_M_isMode_13 (by decide) ?_
    cases hF
    exact krz K hP hD hS d_M_isMode_14 rfl rfl
  · have hF := it_f hF hc_1
    refine lv_iload_n hx hb d_M_isMode_4 rfl (lv_at hl 0 rfl) ?_
    refine lv_iconst (v := 5) hx hb d_M_isMode_5 (by decide) ?_
    refine lv_icmp_gt (tgt := 13) hx hb d_M_isMode_6 (by decide) (fun hc_2 => ?_) (fun hc_2 => ?_)
    · have hF := it_t hF hc_2
      refine lv_iconst (v := 0) hx hb d_M_isMode_13 (by decide) ?_
      cases hF
      exact krz K hP hD hS d_M_isMode_14 rfl rfl
    · have hF := it_f hF hc_2
      refine lv_iconst (v := 1) hx hb d_M_isMode_9 (by decide) ?_
      refine lv_goto (tgt := 14) hx hb d_M_isMode_10 (by decide) ?_
      cases hF
      exact krz K hP hD hS d_M_isMode_14 rfl rfl
theorem c_M_isMode (l : Launch) (g : va_G) (tys : List (ClassId × FieldType)) (w : va_W) (a1 : Int32) (r : Int32) (hF : F_M_isMode a1 = some r) : Ci l y_M_isMode prog_6_method_6_code 1 (some .boolean) ({ frames := 0, cells := 0, slots := 0, locals := 0 }) [.int a1] g tys w w r :=
  Ci.of (by decide) (Nat.le_of_ble_eq_true rfl) (fun p e s m below meth c A ls K hP hD hS hl => t_M_isMode K  a1 r hF hP hD hS hl)
def F_M_isIn (mst : Nat → Int32) (a1 : Int32) (a2 : Int32) : Option (Int32) :=
  ob1 (F_M_isOwner a1) (fun r_1 => if r_1 = 0 then some 0 else gd (a1 < 0 ∨ 8 ≤ a1.toNatClampNeg) (if (mst a1.toNatClampNeg) = a2 then some 1 else some 0))
set_option maxHeartbeats 4000000 in
set_option maxRecDepth 100000 in
theorem t_M_isIn {p : Program} {l : Launch} {e : Env} {s : State} {m : MethodId} {args : Array Value} {below : List Frame} {meth : Method} {c : Code} {A : Nat → Prop} {g : va_G} {cI cJ cZ : ClassId} {ad : Nat → Nat} {rest : va_W} (K : kX p s m args meth c "LockTableModel" prog_6_method_7_code 3 (some .boolean) A g (kty cI cJ cZ)) (mth : Int32) (mst : Nat → Int32) (mse : Nat → Int32) (mla : Int32) (mmo : Nat → Int32) (mrc : Int32) (mro : Nat → Int32) (mrt : Nat → Int32) (mrm : Nat → Int32) (mrl : Nat → Int64) (mrh : Nat → Int64) (mwk : Nat → Int32) (mwt : Nat → Int32) (mwm : Nat → Int32) (mwl : Nat → Int64) (mwh : Nat → Int64) (mwi : Nat → Int32) (mwc : Nat → Int32) (mwx : Nat → Int32) (mar : Int32) (mli : Int32) (mgr : Int32) (mgo : Nat → Int32) (mre : Nat → Int32) (mfr : Int32) (a1 : Int32) (a2 : Int32) (r : Int32) (hF : F_M_isIn mst a1 a2 = some r) {H : Heap} {locs : List Loc} {ls : Array Slot} (hP : va_P g kcl (wM cI cJ cZ ad mth mst mse mla mmo mrc mro mrt mrm mrl mrh mwk mwt mwm mwl mwh mwi mwc mwx mar mli mgr mgo mre mfr rest) H) (hD : va_D A (wM cI cJ cZ ad mth mst mse mla mmo mrc mro mrt mrm mrl mrh mwk mwt mwm mwl mwh mwi mwc mwx mar mli mgr mgo mre mfr rest)) (hS : va_S A s.heap H locs) (hl : lv_has ls 3 [(0, .ref (ad 0)), (1, .int a1), (2, .int a2)]) : W p l e ({ frames := 1, cells := 0, slots := 0, locals := 20 }) s m args below meth c H locs 0 0 (MQ below (kQi g (kty cI cJ cZ) (wM cI cJ cZ ad mth mst mse mla mmo mrc mro mrt mrm mrl mrh mwk mwt mwm mwl mwh mwi mwc mwx mar mli mgr mgo mre mfr rest) A r) args s 0 0 A) (F0 m 0 ls []) := by
  obtain ⟨hx, hb, hr, hml, hown, hts, hlocks, hK, hA, hE⟩ := id K
  unfold F_M_isIn at hF
  refine lv_iload_n hx hb d_M_isIn_0 rfl (lv_at hl 1 rfl) ?_
  obtain ⟨r_1, hG, hF⟩ := ob1_inv hF
  refine ksi K hP hD hS (c_M_isOwner l g (kty cI cJ cZ) (wM cI cJ cZ ad mth mst mse mla mmo mrc mro mrt mrm mrl mrh mwk mwt mwm mwl mwh mwi mwc mwx mar mli mgr mgo mre mfr rest) a1 r_1 hG) wm_757 wm_755 wm_756 wm_50 hd_M_isOwner rfl rfl ⟨Nat.le_of_ble_eq_true rfl, Nat.le_of_ble_eq_true rfl⟩ ⟨Nat.zero_le _, Nat.zero_le _⟩ hl.1 (rest := []) rfl (Nat.le_of_ble_eq_true rfl) d_M_isIn_1 (fun H locs hP hD hS => ?_)
  refine lv_if_eq (tgt := 21) hx hb d_M_isIn_4 (by decide) (fun hc_2 => ?_) (fun hc_2 => ?_)
  · have hF := it_t hF hc_2
    refine lv_iconst (v := 0) hx hb d_M_isIn_21 (by decide) ?_
    cases hF
    exact krz K hP hD hS d_M_isIn_22 rfl rfl
  · have hF := it_f hF hc_2
    refine lv_aload_n hx hb d_M_isIn_7 rfl (lv_at hl 0 rfl) ?_
    refine va_get (D := g) (ci := 3) (v := .ref (ad 1)) (C := kR3) (T := kT3) (N := 25) hx hb hts kw3 hown hK hP 0 rfl rfl 1 (by decide) (hts _ wm_672) (fun _ h9 => h9) rfl d_M_isIn_8 ?_
    refine lv_iload_n hx hb d_M_isIn_11 rfl (lv_at hl 1 rfl) ?_
    obtain ⟨hg_3, hF⟩ := gd_inv hF
    refine va_iald hx hb hK hP 1 0 rfl rfl hg_3 d_M_isIn_12 ?_
    refine lv_iload_n hx hb d_M_isIn_13 rfl (lv_at hl 2 rfl) ?_
    refine lv_icmp_ne (tgt := 21) hx hb d_M_isIn_14 (by decide) (fun hc_4 => ?_) (fun hc_4 => ?_)
    · have hF := it_f hF hc_4
      refine lv_iconst (v := 0) hx hb d_M_isIn_21 (by decide) ?_
      cases hF
      exact krz K hP hD hS d_M_isIn_22 rfl rfl
    · have hF := it_t hF hc_4
      refine lv_iconst (v := 1) hx hb d_M_isIn_17 (by decide) ?_
      refine lv_goto (tgt := 22) hx hb d_M_isIn_18 (by decide) ?_
      cases hF
      exact krz K hP hD hS d_M_isIn_22 rfl rfl
theorem c_M_isIn (l : Launch) (g : va_G) (cI cJ cZ : ClassId) (ad : Nat → Nat) (mth : Int32) (mst : Nat → Int32) (mse : Nat → Int32) (mla : Int32) (mmo : Nat → Int32) (mrc : Int32) (mro : Nat → Int32) (mrt : Nat → Int32) (mrm : Nat → Int32) (mrl : Nat → Int64) (mrh : Nat → Int64) (mwk : Nat → Int32) (mwt : Nat → Int32) (mwm : Nat → Int32) (mwl : Nat → Int64) (mwh : Nat → Int64) (mwi : Nat → Int32) (mwc : Nat → Int32) (mwx : Nat → Int32) (mar : Int32) (mli : Int32) (mgr : Int32) (mgo : Nat → Int32) (mre : Nat → Int32) (mfr : Int32) (rest : va_W) (a1 : Int32) (a2 : Int32) (r : Int32) (hF : F_M_isIn mst a1 a2 = some r) : Ci l y_M_isIn prog_6_method_7_code 3 (some .boolean) ({ frames := 1, cells := 0, slots := 0, locals := 20 }) [.ref (ad 0), .int a1, .int a2] g (kty cI cJ cZ) (wM cI cJ cZ ad mth mst mse mla mmo mrc mro mrt mrm mrl mrh mwk mwt mwm mwl mwh mwi mwc mwx mar mli mgr mgo mre mfr rest) (wM cI cJ cZ ad mth mst mse mla mmo mrc mro mrt mrm mrl mrh mwk mwt mwm mwl mwh mwi mwc mwx mar mli mgr mgo mre mfr rest) r :=
  Ci.of (by decide) (Nat.le_of_ble_eq_true rfl) (fun p e s m below meth c A ls K hP hD hS hl => t_M_isIn K mth mst mse mla mmo mrc mro mrt mrm mrl mrh mwk mwt mwm mwl mwh mwi mwc mwx mar mli mgr mgo mre mfr a1 a2 r hF hP hD hS hl)
def F_M_friends (a1 : Int32) : Option (Int32) :=
  if a1 = 0 then some 31 else if a1 = 1 then some 3 else if a1 = 2 then some 21 else if a1 = 3 then some 1 else if a1 = 4 then some 5 else some 0
set_option maxHeartbeats 4000000 in
set_option maxRecDepth 100000 in
theorem t_M_friends {p : Program} {l : Launch} {e : Env} {s : State} {m : MethodId} {args : Array Value} {below : List Frame} {meth : Method} {c : Code} {A : Nat → Prop} {g : va_G} {tys : List (ClassId × FieldType)} {w : va_W} (K : kX p s m args meth c "LockTableModel" prog_6_method_8_code 1 (some .int) A g tys)  (a1 : Int32) (r : Int32) (hF : F_M_friends a1 = some r) {H : Heap} {locs : List Loc} {ls : Array Slot} (hP : va_P g kcl w H) (hD : va_D A w) (hS : va_S A s.heap H locs) (hl : lv_has ls 1 [(0, .int a1)]) : W p l e ({ frames := 0, cells := 0, slots := 0, locals := 0 }) s m args below meth c H locs 0 0 (MQ below (kQi g tys w A r) args s 0 0 A) (F0 m 0 ls []) := by
  obtain ⟨hx, hb, hr, hml, hown, hts, hlocks, hK, hA, hE⟩ := id K
  unfold F_M_friends at hF
  refine lv_iload_n hx hb d_M_friends_0 rfl (lv_at hl 0 rfl) ?_
  refine lv_if_ne (tgt := 9) hx hb d_M_friends_1 (by decide) (fun hc_1 => ?_) (fun hc_1 => ?_)
  · have hF := it_f hF hc_1
    refine lv_iload_n hx hb d_M_friends_9 rfl (lv_at hl 0 rfl) ?_
    refine lv_iconst (v := 1) hx hb d_M_friends_10 (by decide) ?_
    refine lv_icmp_ne (tgt := 18) hx hb d_M_friends_11 (by decide) (fun hc_2 => ?_) (fun hc_2 => ?_)
    · have hF := it_f hF hc_2
      refine lv_iload_n hx hb d_M_friends_18 rfl (lv_at hl 0 rfl) ?_
      refine lv_iconst (v := 2) hx hb d_M_friends_19 (by decide) ?_
      refine lv_icmp_ne (tgt := 28) hx hb d_M_friends_20 (by decide) (fun hc_3 => ?_) (fun hc_3 => ?_)
      · have hF := it_f hF hc_3
        refine lv_iload_n hx hb d_M_friends_28 rfl (lv_at hl 0 rfl) ?_
        refine lv_iconst (v := 3) hx hb d_M_friends_29 (by decide) ?_
        refine lv_icmp_ne (tgt := 37) hx hb d_M_friends_30 (by decide) (fun hc_4 => ?_) (fun hc_4 => ?_)
        · have hF := it_f hF hc_4
          refine lv_iload_n hx hb d_M_friends_37 rfl (lv_at hl 0 rfl) ?_
          refine lv_iconst (v := 4) hx hb d_M_friends_38 (by decide) ?_
          refine lv_icmp_ne (tgt := 46) hx hb d_M_friends_39 (by decide) (fun hc_5 => ?_) (fun hc_5 => ?_)
          · have hF := it_f hF hc_5
            refine lv_iconst (v := 0) hx hb d_M_friends_46 (by decide) ?_
            cases hF
            exact kri K hP hD hS d_M_friends_47 rfl
          · have hF := it_t hF hc_5
            refine lv_iconst (v := 5) hx hb d_M_friends_42 (by decide) ?_
            refine lv_goto (tgt := 47) hx hb d_M_friends_43 (by decide) ?_
            cases hF
            exact kri K hP hD hS d_M_friends_47 rfl
        · have hF := it_t hF hc_4
          refine lv_iconst (v := 1) hx hb d_M_friends_33 (by decide) ?_
          refine lv_goto (tgt := 47) hx hb d_M_friends_34 (by decide) ?_
          cases hF
          exact kri K hP hD hS d_M_friends_47 rfl
      · have hF := it_t hF hc_3
        refine lv_bipush (v := 21) hx hb d_M_friends_23 (by decide) ?_
        refine lv_goto (tgt := 47) hx hb d_M_friends_25 (by decide) ?_
        cases hF
        exact kri K hP hD hS d_M_friends_47 rfl
    · have hF := it_t hF hc_2
      refine lv_iconst (v := 3) hx hb d_M_friends_14 (by decide) ?_
      refine lv_goto (tgt := 47) hx hb d_M_friends_15 (by decide) ?_
      cases hF
      exact kri K hP hD hS d_M_friends_47 rfl
  · have hF := it_t hF hc_1
    refine lv_bipush (v := 31) hx hb d_M_friends_4 (by decide) ?_
    refine lv_goto (tgt := 47) hx hb d_M_friends_6 (by decide) ?_
    cases hF
    exact kri K hP hD hS d_M_friends_47 rfl
theorem c_M_friends (l : Launch) (g : va_G) (tys : List (ClassId × FieldType)) (w : va_W) (a1 : Int32) (r : Int32) (hF : F_M_friends a1 = some r) : Ci l y_M_friends prog_6_method_8_code 1 (some .int) ({ frames := 0, cells := 0, slots := 0, locals := 0 }) [.int a1] g tys w w r :=
  Ci.of (by decide) (Nat.le_of_ble_eq_true rfl) (fun p e s m below meth c A ls K hP hD hS hl => t_M_friends K  a1 r hF hP hD hS hl)
def F_M_together (a1 : Int32) (a2 : Int32) : Option (Int32) :=
  ob1 (F_M_friends a1) (fun r_1 => if ((r_1 >>> (a2 &&& 31)) &&& 1) = 1 then some 1 else some 0)
set_option maxHeartbeats 4000000 in
set_option maxRecDepth 100000 in
theorem t_M_together {p : Program} {l : Launch} {e : Env} {s : State} {m : MethodId} {args : Array Value} {below : List Frame} {meth : Method} {c : Code} {A : Nat → Prop} {g : va_G} {tys : List (ClassId × FieldType)} {w : va_W} (K : kX p s m args meth c "LockTableModel" prog_6_method_9_code 2 (some .boolean) A g tys)  (a1 : Int32) (a2 : Int32) (r : Int32) (hF : F_M_together a1 a2 = some r) {H : Heap} {locs : List Loc} {ls : Array Slot} (hP : va_P g kcl w H) (hD : va_D A w) (hS : va_S A s.heap H locs) (hl : lv_has ls 2 [(0, .int a1), (1, .int a2)]) : W p l e ({ frames := 1, cells := 0, slots := 0, locals := 20 }) s m args below meth c H locs 0 0 (MQ below (kQi g tys w A r) args s 0 0 A) (F0 m 0 ls []) := by
  obtain ⟨hx, hb, hr, hml, hown, hts, hlocks, hK, hA, hE⟩ := id K
  unfold F_M_together at hF
  refine lv_iload_n hx hb d_M_together_0 rfl (lv_at hl 0 rfl) ?_
  obtain ⟨r_1, hG, hF⟩ := ob1_inv hF
  refine ksi K hP hD hS (c_M_friends l g tys w a1 r_1 hG) wm_781 wm_779 wm_780 wm_50 hd_M_friends rfl rfl ⟨Nat.le_of_ble_eq_true rfl, Nat.le_of_ble_eq_true rfl⟩ ⟨Nat.zero_le _, Nat.zero_le _⟩ hl.1 (rest := []) rfl (Nat.le_of_ble_eq_true rfl) d_M_together_1 (fun H locs hP hD hS => ?_)
  refine lv_iload_n hx hb d_M_together_4 rfl (lv_at hl 1 rfl) ?_
  refine lv_ishr hx hb d_M_together_5 ?_
  refine lv_iconst (v := 1) hx hb d_M_together_6 (by decide) ?_
  refine lv_iand hx hb d_M_together_7 ?_
  refine lv_iconst (v := 1) hx hb d_M_together_8 (by decide) ?_
  refine lv_icmp_ne (tgt := 16) hx hb d_M_together_9 (by decide) (fun hc_2 => ?_) (fun hc_2 => ?_)
  · have hF := it_f hF hc_2
    refine lv_iconst (v := 0) hx hb d_M_together_16 (by decide) ?_
    cases hF
    exact krz K hP hD hS d_M_together_17 rfl rfl
  · have hF := it_t hF hc_2
    refine lv_iconst (v := 1) hx hb d_M_together_12 (by decide) ?_
    refine lv_goto (tgt := 17) hx hb d_M_together_13 (by decide) ?_
    cases hF
    exact krz K hP hD hS d_M_together_17 rfl rfl
theorem c_M_together (l : Launch) (g : va_G) (tys : List (ClassId × FieldType)) (w : va_W) (a1 : Int32) (a2 : Int32) (r : Int32) (hF : F_M_together a1 a2 = some r) : Ci l y_M_together prog_6_method_9_code 2 (some .boolean) ({ frames := 1, cells := 0, slots := 0, locals := 20 }) [.int a1, .int a2] g tys w w r :=
  Ci.of (by decide) (Nat.le_of_ble_eq_true rfl) (fun p e s m below meth c A ls K hP hD hS hl => t_M_together K  a1 a2 r hF hP hD hS hl)
def F_M_bits_L4 (v0 : Int32) : Nat → Int32 → Int32 → Option (Int32)
  | 0, _, _ => none
  | n + 1, v1, v2 => if 8 ≤ v2 then some v1 else F_M_bits_L4 v0 n (v1 + ((v0 >>> (v2 &&& 31)) &&& 1)) (v2 + 1)
def F_M_bits (a1 : Int32) : Option (Int32) :=
  ob1 (F_M_bits_L4 a1 fu 0 0) (fun v1_2 => some v1_2)
set_option maxHeartbeats 4000000 in
set_option maxRecDepth 100000 in
theorem t_M_bits_L4 {p : Program} {l : Launch} {e : Env} {s : State} {m : MethodId} {args : Array Value} {below : List Frame} {meth : Method} {c : Code} {A : Nat → Prop} {g : va_G} {tys : List (ClassId × FieldType)} {w : va_W} (K : kX p s m args meth c "LockTableModel" prog_6_method_10_code 3 (some .int) A g tys) {Q : State → Prop} (v0 : Int32) : ∀ (n : Nat) (v1 : Int32) (v2 : Int32) (o_v1 : Int32) (H : Heap) (locs : List Loc) (ls : Array Slot), F_M_bits_L4 v0 n v1 v2 = some o_v1 → va_P g kcl w H → va_D A w → va_S A s.heap H locs → lv_has ls 3 [(0, .int v0), (1, .int v1), (2, .int v2)] → (∀ (H : Heap) (locs : List Loc) (ls : Array Slot), va_P g kcl w H → va_D A w → va_S A s.heap H locs → lv_has ls 3 [(1, .int o_v1)] → W p l e ({ frames := 0, cells := 0, slots := 0, locals := 0 }) s m args below meth c H locs 0 0 Q (F0 m 24 ls [])) → W p l e ({ frames := 0, cells := 0, slots := 0, locals := 0 }) s m args below meth c H locs 0 0 Q (F0 m 4 ls []) := by
  obtain ⟨hx, hb, hr, hml, hown, hts, hlocks, hK, hA, hE⟩ := id K
  intro n
  induction n with
  | zero =>
    intro v1 v2 o_v1 H locs ls hF
    rw [F_M_bits_L4] at hF
    cases hF
  | succ n ih =>
    intro v1 v2 o_v1 H locs ls hF hP hD hS hl hQ
    rw [F_M_bits_L4] at hF
    refine lv_iload_n hx hb d_M_bits_4 rfl (lv_at hl 2 rfl) ?_
    refine lv_bipush (v := 8) hx hb d_M_bits_5 (by decide) ?_
    refine lv_icmp_ge (tgt := 24) hx hb d_M_bits_7 (by decide) (fun hc_1 => ?_) (fun hc_1 => ?_)
    · have hF := it_t hF hc_1
      cases hF
      exact hQ H locs ls hP hD hS (lv_sub hl [1] rfl)
    · have hF := it_f hF hc_1
      refine lv_iload_n hx hb d_M_bits_10 rfl (lv_at hl 1 rfl) ?_
      refine lv_iload_n hx hb d_M_bits_11 rfl (lv_at hl 0 rfl) ?_
      refine lv_iload_n hx hb d_M_bits_12 rfl (lv_at hl 2 rfl) ?_
      refine lv_ishr hx hb d_M_bits_13 ?_
      refine lv_iconst (v := 1) hx hb d_M_bits_14 (by decide) ?_
      refine lv_iand hx hb d_M_bits_15 ?_
      refine lv_iadd hx hb d_M_bits_16 ?_
      refine lv_istore_n (lv' := [(1, .int (v1 + ((v0 >>> (v2 &&& 31)) &&& 1))), (0, .int v0), (2, .int v2)]) hx hb d_M_bits_17 rfl hl (by decide) rfl (fun ls hl => ?_)
      refine lv_iinc (v := v2 + 1) (lv' := [(2, .int (v2 + 1)), (1, .int (v1 + ((v0 >>> (v2 &&& 31)) &&& 1))), (0, .int v0)]) hx hb d_M_bits_18 hl (k := 2) rfl rfl (by decide) rfl (fun ls hl => ?_)
      refine lv_goto (tgt := 4) hx hb d_M_bits_21 (by decide) ?_
      exact ih _ _ _ H locs ls hF hP hD hS (lv_sub hl [2, 1, 0] rfl) hQ
set_option maxHeartbeats 4000000 in
set_option maxRecDepth 100000 in
theorem t_M_bits {p : Program} {l : Launch} {e : Env} {s : State} {m : MethodId} {args : Array Value} {below : List Frame} {meth : Method} {c : Code} {A : Nat → Prop} {g : va_G} {tys : List (ClassId × FieldType)} {w : va_W} (K : kX p s m args meth c "LockTableModel" prog_6_method_10_code 3 (some .int) A g tys)  (a1 : Int32) (r : Int32) (hF : F_M_bits a1 = some r) {H : Heap} {locs : List Loc} {ls : Array Slot} (hP : va_P g kcl w H) (hD : va_D A w) (hS : va_S A s.heap H locs) (hl : lv_has ls 3 [(0, .int a1)]) : W p l e ({ frames := 0, cells := 0, slots := 0, locals := 0 }) s m args below meth c H locs 0 0 (MQ below (kQi g tys w A r) args s 0 0 A) (F0 m 0 ls []) := by
  obtain ⟨hx, hb, hr, hml, hown, hts, hlocks, hK, hA, hE⟩ := id K
  unfold F_M_bits at hF
  refine lv_iconst (v := 0) hx hb d_M_bits_0 (by decide) ?_
  refine lv_istore_n (lv' := [(1, .int 0), (0, .int a1)]) hx hb d_M_bits_1 rfl hl (by decide) rfl (fun ls hl => ?_)
  refine lv_iconst (v := 0) hx hb d_M_bits_2 (by decide) ?_
  refine lv_istore_n (lv' := [(2, .int 0), (1, .int 0), (0, .int a1)]) hx hb d_M_bits_3 rfl hl (by decide) rfl (fun ls hl => ?_)
  obtain ⟨v1_2, hG, hF⟩ := ob1_inv hF
  refine t_M_bits_L4 K a1 fu _ _ _ H locs ls hG hP hD hS (lv_sub hl [2, 1, 0] rfl) (fun H locs ls hP hD hS hl => ?_)
  refine lv_iload_n hx hb d_M_bits_24 rfl (lv_at hl 0 rfl) ?_
  cases hF
  exact kri K hP hD hS d_M_bits_25 rfl
theorem c_M_bits (l : Launch) (g : va_G) (tys : List (ClassId × FieldType)) (w : va_W) (a1 : Int32) (r : Int32) (hF : F_M_bits a1 = some r) : Ci l y_M_bits prog_6_method_10_code 3 (some .int) ({ frames := 0, cells := 0, slots := 0, locals := 0 }) [.int a1] g tys w w r :=
  Ci.of (by decide) (Nat.le_of_ble_eq_true rfl) (fun p e s m below meth c A ls K hP hD hS hl => t_M_bits K  a1 r hF hP hD hS hl)
def F_M_joined_L15 (v2 : Int32) : Nat → Int32 → Int32 → Option (Int32)
  | 0, _, _ => none
  | n + 1, v3, v4 => if 5 < v4 then some v3 else ob1 (F_M_friends v4) (fun r_4 => if (r_4 &&& (v2 ^^^ (-1))) = 0 then ob1 (F_M_friends v4) (fun r_6 => ob1 (F_M_bits r_6) (fun r_7 => ob1 (F_M_friends v3) (fun r_8 => ob1 (F_M_bits r_8) (fun r_9 => if r_7 ≤ r_9 then F_M_joined_L15 v2 n v3 (v4 + 1) else F_M_joined_L15 v2 n v4 (v4 + 1))))) else F_M_joined_L15 v2 n v3 (v4 + 1))
def F_M_joined (a1 : Int32) (a2 : Int32) : Option (Int32) :=
  ob1 (F_M_friends a1) (fun r_1 => ob1 (F_M_friends a2) (fun r_2 => ob1 (F_M_joined_L15 (r_1 &&& r_2) fu 5 0) (fun v3_11 => some v3_11)))
set_option maxHeartbeats 4000000 in
set_option maxRecDepth 100000 in
theorem t_M_joined_L15 {p : Program} {l : Launch} {e : Env} {s : State} {m : MethodId} {args : Array Value} {below : List Frame} {meth : Method} {c : Code} {A : Nat → Prop} {g : va_G} {tys : List (ClassId × FieldType)} {w : va_W} (K : kX p s m args meth c "LockTableModel" prog_6_method_11_code 5 (some .int) A g tys) {Q : State → Prop} (v2 : Int32) : ∀ (n : Nat) (v3 : Int32) (v4 : Int32) (o_v3 : Int32) (H : Heap) (locs : List Loc) (ls : Array Slot), F_M_joined_L15 v2 n v3 v4 = some o_v3 → va_P g kcl w H → va_D A w → va_S A s.heap H locs → lv_has ls 5 [(2, .int v2), (3, .int v3), (4, .int v4)] → (∀ (H : Heap) (locs : List Loc) (ls : Array Slot), va_P g kcl w H → va_D A w → va_S A s.heap H locs → lv_has ls 5 [(3, .int o_v3)] → W p l e ({ frames := 1, cells := 0, slots := 0, locals := 22 }) s m args below meth c H locs 0 0 Q (F0 m 64 ls [])) → W p l e ({ frames := 1, cells := 0, slots := 0, locals := 22 }) s m args below meth c H locs 0 0 Q (F0 m 15 ls []) := by
  obtain ⟨hx, hb, hr, hml, hown, hts, hlocks, hK, hA, hE⟩ := id K
  intro n
  induction n with
  | zero =>
    intro v3 v4 o_v3 H locs ls hF
    rw [F_M_joined_L15] at hF
    cases hF
  | succ n ih =>
    intro v3 v4 o_v3 H locs ls hF hP hD hS hl hQ
    rw [F_M_joined_L15] at hF
    refine lv_iload hx hb d_M_joined_15 (lv_at hl 2 rfl) ?_
    refine lv_iconst (v := 5) hx hb d_M_joined_17 (by decide) ?_
    refine lv_icmp_gt (tgt := 64) hx hb d_M_joined_18 (by decide) (fun hc_3 => ?_) (fun hc_3 => ?_)
    · have hF := it_t hF hc_3
      cases hF
      exact hQ H locs ls hP hD hS (lv_sub hl [1] rfl)
    · have hF := it_f hF hc_3
      refine lv_iload hx hb d_M_joined_21 (lv_at hl 2 rfl) ?_
      obtain ⟨r_4, hG, hF⟩ := ob1_inv hF
      refine ksi K hP hD hS (c_M_friends l g tys w v4 r_4 hG) wm_781 wm_779 wm_780 wm_50 hd_M_friends rfl rfl ⟨Nat.le_of_ble_eq_true rfl, Nat.le_of_ble_eq_true rfl⟩ ⟨Nat.zero_le _, Nat.zero_le _⟩ hl.1 (rest := []) rfl (Nat.le_of_ble_eq_true rfl) d_M_joined_23 (fun H locs hP hD hS => ?_)
      refine lv_iload_n hx hb d_M_joined_26 rfl (lv_at hl 0 rfl) ?_
      refine lv_iconst (v := (-1)) hx hb d_M_joined_27 (by decide) ?_
      refine lv_ixor hx hb d_M_joined_28 ?_
      refine lv_iand hx hb d_M_joined_29 ?_
      refine lv_if_ne (tgt := 56) hx hb d_M_joined_30 (by decide) (fun hc_5 => ?_) (fun hc_5 => ?_)
      · have hF := it_f hF hc_5
        refine lv_iload_n hx hb d_M_joined_56 rfl (lv_at hl 1 rfl) ?_
        refine lv_istore_n (lv' := [(3, .int v3), (2, .int v2), (4, .int v4)]) hx hb d_M_joined_57 rfl hl (by decide) rfl (fun ls hl => ?_)
        refine lv_iinc (v := v4 + 1) (lv' := [(4, .int (v4 + 1)), (3, .int v3), (2, .int v2)]) hx hb d_M_joined_58 hl (k := 2) rfl rfl (by decide) rfl (fun ls hl => ?_)
        refine lv_goto (tgt := 15) hx hb d_M_joined_61 (by decide) ?_
        exact ih _ _ _ H locs ls hF hP hD hS (lv_sub hl [2, 1, 0] rfl) hQ
      · have hF := it_t hF hc_5
        refine lv_iload hx hb d_M_joined_33 (lv_at hl 2 rfl) ?_
        obtain ⟨r_6, hG, hF⟩ := ob1_inv hF
        refine ksi K hP hD hS (c_M_friends l g tys w v4 r_6 hG) wm_781 wm_779 wm_780 wm_50 hd_M_friends rfl rfl ⟨Nat.le_of_ble_eq_true rfl, Nat.le_of_ble_eq_true rfl⟩ ⟨Nat.zero_le _, Nat.zero_le _⟩ hl.1 (rest := []) rfl (Nat.le_of_ble_eq_true rfl) d_M_joined_35 (fun H locs hP hD hS => ?_)
        obtain ⟨r_7, hG, hF⟩ := ob1_inv hF
        refine ksi K hP hD hS (c_M_bits l g tys w r_6 r_7 hG) wm_784 wm_782 wm_783 wm_50 hd_M_bits rfl rfl ⟨Nat.le_of_ble_eq_true rfl, Nat.le_of_ble_eq_true rfl⟩ ⟨Nat.zero_le _, Nat.zero_le _⟩ hl.1 (rest := []) rfl (Nat.le_of_ble_eq_true rfl) d_M_joined_38 (fun H locs hP hD hS => ?_)
        refine lv_iload_n hx hb d_M_joined_41 rfl (lv_at hl 1 rfl) ?_
        obtain ⟨r_8, hG, hF⟩ := ob1_inv hF
        refine ksi K hP hD hS (c_M_friends l g tys w v3 r_8 hG) wm_781 wm_779 wm_780 wm_50 hd_M_friends rfl rfl ⟨Nat.le_of_ble_eq_true rfl, Nat.le_of_ble_eq_true rfl⟩ ⟨Nat.zero_le _, Nat.zero_le _⟩ hl.1 (rest := [.int r_7]) rfl (Nat.le_of_ble_eq_true rfl) d_M_joined_42 (fun H locs hP hD hS => ?_)
        obtain ⟨r_9, hG, hF⟩ := ob1_inv hF
        refine ksi K hP hD hS (c_M_bits l g tys w r_8 r_9 hG) wm_784 wm_782 wm_783 wm_50 hd_M_bits rfl rfl ⟨Nat.le_of_ble_eq_true rfl, Nat.le_of_ble_eq_true rfl⟩ ⟨Nat.zero_le _, Nat.zero_le _⟩ hl.1 (rest := [.int r_7]) rfl (Nat.le_of_ble_eq_true rfl) d_M_joined_45 (fun H locs hP hD hS => ?_)
        refine lv_icmp_le (tgt := 56) hx hb d_M_joined_48 (by decide) (fun hc_10 => ?_) (fun hc_10 => ?_)
        · have hF := it_t hF hc_10
          refine lv_iload_n hx hb d_M_joined_56 rfl (lv_at hl 1 rfl) ?_
          refine lv_istore_n (lv' := [(3, .int v3), (2, .int v2), (4, .int v4)]) hx hb d_M_joined_57 rfl hl (by decide) rfl (fun ls hl => ?_)
          refine lv_iinc (v := v4 + 1) (lv' := [(4, .int (v4 + 1)), (3, .int v3), (2, .int v2)]) hx hb d_M_joined_58 hl (k := 2) rfl rfl (by decide) rfl (fun ls hl => ?_)
          refine lv_goto (tgt := 15) hx hb d_M_joined_61 (by decide) ?_
          exact ih _ _ _ H locs ls hF hP hD hS (lv_sub hl [2, 1, 0] rfl) hQ
        · have hF := it_f hF hc_10
          refine lv_iload hx hb d_M_joined_51 (lv_at hl 2 rfl) ?_
          refine lv_goto (tgt := 57) hx hb d_M_joined_53 (by decide) ?_
          refine lv_istore_n (lv' := [(3, .int v4), (2, .int v2), (4, .int v4)]) hx hb d_M_joined_57 rfl hl (by decide) rfl (fun ls hl => ?_)
          refine lv_iinc (v := v4 + 1) (lv' := [(4, .int (v4 + 1)), (3, .int v4), (2, .int v2)]) hx hb d_M_joined_58 hl (k := 2) rfl rfl (by decide) rfl (fun ls hl => ?_)
          refine lv_goto (tgt := 15) hx hb d_M_joined_61 (by decide) ?_
          exact ih _ _ _ H locs ls hF hP hD hS (lv_sub hl [2, 1, 0] rfl) hQ
set_option maxHeartbeats 4000000 in
set_option maxRecDepth 100000 in
theorem t_M_joined {p : Program} {l : Launch} {e : Env} {s : State} {m : MethodId} {args : Array Value} {below : List Frame} {meth : Method} {c : Code} {A : Nat → Prop} {g : va_G} {tys : List (ClassId × FieldType)} {w : va_W} (K : kX p s m args meth c "LockTableModel" prog_6_method_11_code 5 (some .int) A g tys)  (a1 : Int32) (a2 : Int32) (r : Int32) (hF : F_M_joined a1 a2 = some r) {H : Heap} {locs : List Loc} {ls : Array Slot} (hP : va_P g kcl w H) (hD : va_D A w) (hS : va_S A s.heap H locs) (hl : lv_has ls 5 [(0, .int a1), (1, .int a2)]) : W p l e ({ frames := 1, cells := 0, slots := 0, locals := 22 }) s m args below meth c H locs 0 0 (MQ below (kQi g tys w A r) args s 0 0 A) (F0 m 0 ls []) := by
  obtain ⟨hx, hb, hr, hml, hown, hts, hlocks, hK, hA, hE⟩ := id K
  unfold F_M_joined at hF
  refine lv_iload_n hx hb d_M_joined_0 rfl (lv_at hl 0 rfl) ?_
  obtain ⟨r_1, hG, hF⟩ := ob1_inv hF
  refine ksi K hP hD hS (c_M_friends l g tys w a1 r_1 hG) wm_781 wm_779 wm_780 wm_50 hd_M_friends rfl rfl ⟨Nat.le_of_ble_eq_true rfl, Nat.le_of_ble_eq_true rfl⟩ ⟨Nat.zero_le _, Nat.zero_le _⟩ hl.1 (rest := []) rfl (Nat.le_of_ble_eq_true rfl) d_M_joined_1 (fun H locs hP hD hS => ?_)
  refine lv_iload_n hx hb d_M_joined_4 rfl (lv_at hl 1 rfl) ?_
  obtain ⟨r_2, hG, hF⟩ := ob1_inv hF
  refine ksi K hP hD hS (c_M_friends l g tys w a2 r_2 hG) wm_781 wm_779 wm_780 wm_50 hd_M_friends rfl rfl ⟨Nat.le_of_ble_eq_true rfl, Nat.le_of_ble_eq_true rfl⟩ ⟨Nat.zero_le _, Nat.zero_le _⟩ hl.1 (rest := [.int r_1]) rfl (Nat.le_of_ble_eq_true rfl) d_M_joined_5 (fun H locs hP hD hS => ?_)
  refine lv_iand hx hb d_M_joined_8 ?_
  refine lv_istore_n (lv' := [(2, .int (r_1 &&& r_2)), (0, .int a1), (1, .int a2)]) hx hb d_M_joined_9 rfl hl (by decide) rfl (fun ls hl => ?_)
  refine lv_iconst (v := 5) hx hb d_M_joined_10 (by decide) ?_
  refine lv_istore_n (lv' := [(3, .int 5), (2, .int (r_1 &&& r_2)), (0, .int a1), (1, .int a2)]) hx hb d_M_joined_11 rfl hl (by decide) rfl (fun ls hl => ?_)
  refine lv_iconst (v := 0) hx hb d_M_joined_12 (by decide) ?_
  refine lv_istore (lv' := [(4, .int 0), (3, .int 5), (2, .int (r_1 &&& r_2)), (0, .int a1), (1, .int a2)]) hx hb d_M_joined_13 hl (by decide) rfl (fun ls hl => ?_)
  obtain ⟨v3_11, hG, hF⟩ := ob1_inv hF
  refine t_M_joined_L15 K (r_1 &&& r_2) fu _ _ _ H locs ls hG hP hD hS (lv_sub hl [2, 1, 0] rfl) (fun H locs ls hP hD hS hl => ?_)
  refine lv_iload_n hx hb d_M_joined_64 rfl (lv_at hl 0 rfl) ?_
  cases hF
  exact kri K hP hD hS d_M_joined_65 rfl
theorem c_M_joined (l : Launch) (g : va_G) (tys : List (ClassId × FieldType)) (w : va_W) (a1 : Int32) (a2 : Int32) (r : Int32) (hF : F_M_joined a1 a2 = some r) : Ci l y_M_joined prog_6_method_11_code 5 (some .int) ({ frames := 1, cells := 0, slots := 0, locals := 22 }) [.int a1, .int a2] g tys w w r :=
  Ci.of (by decide) (Nat.le_of_ble_eq_true rfl) (fun p e s m below meth c A ls K hP hD hS hl => t_M_joined K  a1 a2 r hF hP hD hS hl)
def F_M_joinedWith (mmo : Nat → Int32) (a1 : Int32) (a2 : Int32) (a3 : Int32) : Option (Int32) :=
  gd (((16 * a1) + a2) < 0 ∨ 128 ≤ ((16 * a1) + a2).toNatClampNeg) (if 0 ≤ (mmo ((16 * a1) + a2).toNatClampNeg) then ob1 (F_M_joined (mmo ((16 * a1) + a2).toNatClampNeg) a3) (fun r_3 => some r_3) else some a3)
set_option maxHeartbeats 4000000 in
set_option maxRecDepth 100000 in
theorem t_M_joinedWith {p : Program} {l : Launch} {e : Env} {s : State} {m : MethodId} {args : Array Value} {below : List Frame} {meth : Method} {c : Code} {A : Nat → Prop} {g : va_G} {cI cJ cZ : ClassId} {ad : Nat → Nat} {rest : va_W} (K : kX p s m args meth c "LockTableModel" prog_6_method_12_code 5 (some .int) A g (kty cI cJ cZ)) (mth : Int32) (mst : Nat → Int32) (mse : Nat → Int32) (mla : Int32) (mmo : Nat → Int32) (mrc : Int32) (mro : Nat → Int32) (mrt : Nat → Int32) (mrm : Nat → Int32) (mrl : Nat → Int64) (mrh : Nat → Int64) (mwk : Nat → Int32) (mwt : Nat → Int32) (mwm : Nat → Int32) (mwl : Nat → Int64) (mwh : Nat → Int64) (mwi : Nat → Int32) (mwc : Nat → Int32) (mwx : Nat → Int32) (mar : Int32) (mli : Int32) (mgr : Int32) (mgo : Nat → Int32) (mre : Nat → Int32) (mfr : Int32) (a1 : Int32) (a2 : Int32) (a3 : Int32) (r : Int32) (hF : F_M_joinedWith mmo a1 a2 a3 = some r) {H : Heap} {locs : List Loc} {ls : Array Slot} (hP : va_P g kcl (wM cI cJ cZ ad mth mst mse mla mmo mrc mro mrt mrm mrl mrh mwk mwt mwm mwl mwh mwi mwc mwx mar mli mgr mgo mre mfr rest) H) (hD : va_D A (wM cI cJ cZ ad mth mst mse mla mmo mrc mro mrt mrm mrl mrh mwk mwt mwm mwl mwh mwi mwc mwx mar mli mgr mgo mre mfr rest)) (hS : va_S A s.heap H locs) (hl : lv_has ls 5 [(0, .ref (ad 0)), (1, .int a1), (2, .int a2), (3, .int a3)]) : W p l e ({ frames := 2, cells := 0, slots := 0, locals := 46 }) s m args below meth c H locs 0 0 (MQ below (kQi g (kty cI cJ cZ) (wM cI cJ cZ ad mth mst mse mla mmo mrc mro mrt mrm mrl mrh mwk mwt mwm mwl mwh mwi mwc mwx mar mli mgr mgo mre mfr rest) A r) args s 0 0 A) (F0 m 0 ls []) := by
  obtain ⟨hx, hb, hr, hml, hown, hts, hlocks, hK, hA, hE⟩ := id K
  unfold F_M_joinedWith at hF
  refine lv_aload_n hx hb d_M_joinedWith_0 rfl (lv_at hl 0 rfl) ?_
  refine va_get (D := g) (ci := 3) (v := .ref (ad 3)) (C := kR3) (T := kT3) (N := 25) hx hb hts kw3 hown hK hP 0 rfl rfl 4 (by decide) (hts _ wm_675) (fun _ h9 => h9) rfl d_M_joinedWith_1 ?_
  refine lv_bipush (v := 16) hx hb d_M_joinedWith_4 (by decide) ?_
  refine lv_iload_n hx hb d_M_joinedWith_6 rfl (lv_at hl 1 rfl) ?_
  refine lv_imul hx hb d_M_joinedWith_7 ?_
  refine lv_iload_n hx hb d_M_joinedWith_8 rfl (lv_at hl 2 rfl) ?_
  refine lv_iadd hx hb d_M_joinedWith_9 ?_
  obtain ⟨hg_1, hF⟩ := gd_inv hF
  refine va_iald hx hb hK hP 3 0 rfl rfl hg_1 d_M_joinedWith_10 ?_
  refine lv_istore (lv' := [(4, .int (mmo ((16 * a1) + a2).toNatClampNeg)), (0, .ref (ad 0)), (1, .int a1), (2, .int a2), (3, .int a3)]) hx hb d_M_joinedWith_11 hl (by decide) rfl (fun ls hl => ?_)
  refine lv_iload hx hb d_M_joinedWith_13 (lv_at hl 0 rfl) ?_
  refine lv_if_ge (tgt := 22) hx hb d_M_joinedWith_15 (by decide) (fun hc_2 => ?_) (fun hc_2 => ?_)
  · have hF := it_t hF hc_2
    refine lv_iload hx hb d_M_joinedWith_22 (lv_at hl 0 rfl) ?_
    refine lv_iload_n hx hb d_M_joinedWith_24 rfl (lv_at hl 4 rfl) ?_
    obtain ⟨r_3, hG, hF⟩ := ob1_inv hF
    refine ksi K hP hD hS (c_M_joined l g (kty cI cJ cZ) (wM cI cJ cZ ad mth mst mse mla mmo mrc mro mrt mrm mrl mrh mwk mwt mwm mwl mwh mwi mwc mwx mar mli mgr mgo mre mfr rest) (mmo ((16 * a1) + a2).toNatClampNeg) a3 r_3 hG) wm_778 wm_776 wm_777 wm_50 hd_M_joined rfl rfl ⟨Nat.le_of_ble_eq_true rfl, Nat.le_of_ble_eq_true rfl⟩ ⟨Nat.zero_le _, Nat.zero_le _⟩ hl.1 (rest := []) rfl (Nat.le_of_ble_eq_true rfl) d_M_joinedWith_25 (fun H locs hP hD hS => ?_)
    cases hF
    exact kri K hP hD hS d_M_joinedWith_28 rfl
  · have hF := it_f hF hc_2
    refine lv_iload_n hx hb d_M_joinedWith_18 rfl (lv_at hl 4 rfl) ?_
    refine lv_goto (tgt := 28) hx hb d_M_joinedWith_19 (by decide) ?_
    cases hF
    exact kri K hP hD hS d_M_joinedWith_28 rfl
theorem c_M_joinedWith (l : Launch) (g : va_G) (cI cJ cZ : ClassId) (ad : Nat → Nat) (mth : Int32) (mst : Nat → Int32) (mse : Nat → Int32) (mla : Int32) (mmo : Nat → Int32) (mrc : Int32) (mro : Nat → Int32) (mrt : Nat → Int32) (mrm : Nat → Int32) (mrl : Nat → Int64) (mrh : Nat → Int64) (mwk : Nat → Int32) (mwt : Nat → Int32) (mwm : Nat → Int32) (mwl : Nat → Int64) (mwh : Nat → Int64) (mwi : Nat → Int32) (mwc : Nat → Int32) (mwx : Nat → Int32) (mar : Int32) (mli : Int32) (mgr : Int32) (mgo : Nat → Int32) (mre : Nat → Int32) (mfr : Int32) (rest : va_W) (a1 : Int32) (a2 : Int32) (a3 : Int32) (r : Int32) (hF : F_M_joinedWith mmo a1 a2 a3 = some r) : Ci l y_M_joinedWith prog_6_method_12_code 5 (some .int) ({ frames := 2, cells := 0, slots := 0, locals := 46 }) [.ref (ad 0), .int a1, .int a2, .int a3] g (kty cI cJ cZ) (wM cI cJ cZ ad mth mst mse mla mmo mrc mro mrt mrm mrl mrh mwk mwt mwm mwl mwh mwi mwc mwx mar mli mgr mgo mre mfr rest) (wM cI cJ cZ ad mth mst mse mla mmo mrc mro mrt mrm mrl mrh mwk mwt mwm mwl mwh mwi mwc mwx mar mli mgr mgo mre mfr rest) r :=
  Ci.of (by decide) (Nat.le_of_ble_eq_true rfl) (fun p e s m below meth c A ls K hP hD hS hl => t_M_joinedWith K mth mst mse mla mmo mrc mro mrt mrm mrl mrh mwk mwt mwm mwl mwh mwi mwc mwx mar mli mgr mgo mre mfr a1 a2 a3 r hF hP hD hS hl)
def F_M_tableCovers (a1 : Int32) (a2 : Int32) : Option (Int32) :=
  if a1 = 5 then some 1 else if a2 = 2 then if a1 = 4 then some 1 else if a1 = 3 then some 1 else if a1 = 2 then some 1 else some 0 else some 0
set_option maxHeartbeats 4000000 in
set_option maxRecDepth 100000 in
theorem t_M_tableCovers {p : Program} {l : Launch} {e : Env} {s : State} {m : MethodId} {args : Array Value} {below : List Frame} {meth : Method} {c : Code} {A : Nat → Prop} {g : va_G} {tys : List (ClassId × FieldType)} {w : va_W} (K : kX p s m args meth c "LockTableModel" prog_6_method_13_code 2 (some .boolean) A g tys)  (a1 : Int32) (a2 : Int32) (r : Int32) (hF : F_M_tableCovers a1 a2 = some r) {H : Heap} {locs : List Loc} {ls : Array Slot} (hP : va_P g kcl w H) (hD : va_D A w) (hS : va_S A s.heap H locs) (hl : lv_has ls 2 [(0, .int a1), (1, .int a2)]) : W p l e ({ frames := 0, cells := 0, slots := 0, locals := 0 }) s m args below meth c H locs 0 0 (MQ below (kQi g tys w A r) args s 0 0 A) (F0 m 0 ls []) := by
  obtain ⟨hx, hb, hr, hml, hown, hts, hlocks, hK, hA, hE⟩ := id K
  unfold F_M_tableCovers at hF
  refine lv_iload_n hx hb d_M_tableCovers_0 rfl (lv_at hl 0 rfl) ?_
  refine lv_iconst (v := 5) hx hb d_M_tableCovers_1 (by decide) ?_
  refine lv_icmp_eq (tgt := 25) hx hb d_M_tableCovers_2 (by decide) (fun hc_1 => ?_) (fun hc_1 => ?_)
  · have hF := it_t hF hc_1
    refine lv_iconst (v := 1) hx hb d_M_tableCovers_25 (by decide) ?_
    refine lv_goto (tgt := 30) hx hb d_M_tableCovers_26 (by decide) ?_
    cases hF
    exact krz K hP hD hS d_M_tableCovers_30 rfl rfl
  · have hF := it_f hF hc_1
    refine lv_iload_n hx hb d_M_tableCovers_5 rfl (lv_at hl 1 rfl) ?_
    refine lv_iconst (v := 2) hx hb d_M_tableCovers_6 (by decide) ?_
    refine lv_icmp_ne (tgt := 29) hx hb d_M_tableCovers_7 (by decide) (fun hc_2 => ?_) (fun hc_2 => ?_)
    · have hF := it_f hF hc_2
      refine lv_iconst (v := 0) hx hb d_M_tableCovers_29 (by decide) ?_
      cases hF
      exact krz K hP hD hS d_M_tableCovers_30 rfl rfl
    · have hF := it_t hF hc_2
      refine lv_iload_n hx hb d_M_tableCovers_10 rfl (lv_at hl 0 rfl) ?_
      refine lv_iconst (v := 4) hx hb d_M_tableCovers_11 (by decide) ?_
      refine lv_icmp_eq (tgt := 25) hx hb d_M_tableCovers_12 (by decide) (fun hc_3 => ?_) (fun hc_3 => ?_)
      · have hF := it_t hF hc_3
        refine lv_iconst (v := 1) hx hb d_M_tableCovers_25 (by decide) ?_
        refine lv_goto (tgt := 30) hx hb d_M_tableCovers_26 (by decide) ?_
        cases hF
        exact krz K hP hD hS d_M_tableCovers_30 rfl rfl
      · have hF := it_f hF hc_3
        refine lv_iload_n hx hb d_M_tableCovers_15 rfl (lv_at hl 0 rfl) ?_
        refine lv_iconst (v := 3) hx hb d_M_tableCovers_16 (by decide) ?_
        refine lv_icmp_eq (tgt := 25) hx hb d_M_tableCovers_17 (by decide) (fun hc_4 => ?_) (fun hc_4 => ?_)
        · have hF := it_t hF hc_4
          refine lv_iconst (v := 1) hx hb d_M_tableCovers_25 (by decide) ?_
          refine lv_goto (tgt := 30) hx hb d_M_tableCovers_26 (by decide) ?_
          cases hF
          exact krz K hP hD hS d_M_tableCovers_30 rfl rfl
        · have hF := it_f hF hc_4
          refine lv_iload_n hx hb d_M_tableCovers_20 rfl (lv_at hl 0 rfl) ?_
          refine lv_iconst (v := 2) hx hb d_M_tableCovers_21 (by decide) ?_
          refine lv_icmp_ne (tgt := 29) hx hb d_M_tableCovers_22 (by decide) (fun hc_5 => ?_) (fun hc_5 => ?_)
          · have hF := it_f hF hc_5
            refine lv_iconst (v := 0) hx hb d_M_tableCovers_29 (by decide) ?_
            cases hF
            exact krz K hP hD hS d_M_tableCovers_30 rfl rfl
          · have hF := it_t hF hc_5
            refine lv_iconst (v := 1) hx hb d_M_tableCovers_25 (by decide) ?_
            refine lv_goto (tgt := 30) hx hb d_M_tableCovers_26 (by decide) ?_
            cases hF
            exact krz K hP hD hS d_M_tableCovers_30 rfl rfl
theorem c_M_tableCovers (l : Launch) (g : va_G) (tys : List (ClassId × FieldType)) (w : va_W) (a1 : Int32) (a2 : Int32) (r : Int32) (hF : F_M_tableCovers a1 a2 = some r) : Ci l y_M_tableCovers prog_6_method_13_code 2 (some .boolean) ({ frames := 0, cells := 0, slots := 0, locals := 0 }) [.int a1, .int a2] g tys w w r :=
  Ci.of (by decide) (Nat.le_of_ble_eq_true rfl) (fun p e s m below meth c A ls K hP hD hS hl => t_M_tableCovers K  a1 a2 r hF hP hD hS hl)
def F_M_rangeCovers (a1 : Int32) (a2 : Int32) : Option (Int32) :=
  if a1 = 5 then some 1 else jn0 (if a1 = 2 then if a2 = 2 then some 1 else some 0 else some 0) (fun J15 => if a1 = 4 then if a2 = 5 then J15  else some 1 else J15 )
set_option maxHeartbeats 4000000 in
set_option maxRecDepth 100000 in
theorem t_M_rangeCovers {p : Program} {l : Launch} {e : Env} {s : State} {m : MethodId} {args : Array Value} {below : List Frame} {meth : Method} {c : Code} {A : Nat → Prop} {g : va_G} {tys : List (ClassId × FieldType)} {w : va_W} (K : kX p s m args meth c "LockTableModel" prog_6_method_14_code 2 (some .boolean) A g tys)  (a1 : Int32) (a2 : Int32) (r : Int32) (hF : F_M_rangeCovers a1 a2 = some r) {H : Heap} {locs : List Loc} {ls : Array Slot} (hP : va_P g kcl w H) (hD : va_D A w) (hS : va_S A s.heap H locs) (hl : lv_has ls 2 [(0, .int a1), (1, .int a2)]) : W p l e ({ frames := 0, cells := 0, slots := 0, locals := 0 }) s m args below meth c H locs 0 0 (MQ below (kQi g tys w A r) args s 0 0 A) (F0 m 0 ls []) := by
  obtain ⟨hx, hb, hr, hml, hown, hts, hlocks, hK, hA, hE⟩ := id K
  unfold F_M_rangeCovers at hF
  refine lv_iload_n hx hb d_M_rangeCovers_0 rfl (lv_at hl 0 rfl) ?_
  refine lv_iconst (v := 5) hx hb d_M_rangeCovers_1 (by decide) ?_
  refine lv_icmp_eq (tgt := 25) hx hb d_M_rangeCovers_2 (by decide) (fun hc_1 => ?_) (fun hc_1 => ?_)
  · have hF := it_t hF hc_1
    refine lv_iconst (v := 1) hx hb d_M_rangeCovers_25 (by decide) ?_
    refine lv_goto (tgt := 30) hx hb d_M_rangeCovers_26 (by decide) ?_
    cases hF
    exact krz K hP hD hS d_M_rangeCovers_30 rfl rfl
  · have hF := it_f hF hc_1
    refine lv_iload_n hx hb d_M_rangeCovers_5 rfl (lv_at hl 0 rfl) ?_
    refine lv_iconst (v := 4) hx hb d_M_rangeCovers_6 (by decide) ?_
    obtain ⟨J15, eJ15, hF⟩ := jn0_inv hF
    have hJ15 : ∀  (H : Heap) (locs : List Loc) (ls : Array Slot), J15  = some r → va_P g kcl w H → va_D A w → va_S A s.heap H locs → lv_has ls 2 [(0, .int a1), (1, .int a2)] → W p l e ({ frames := 0, cells := 0, slots := 0, locals := 0 }) s m args below meth c H locs 0 0 (MQ below (kQi g tys w A r) args s 0 0 A) (F0 m 15 ls []) := by
      intro  H locs ls hF hP hD hS hl
      rw [eJ15] at hF
      refine lv_iload_n hx hb d_M_rangeCovers_15 rfl (lv_at hl 0 rfl) ?_
      refine lv_iconst (v := 2) hx hb d_M_rangeCovers_16 (by decide) ?_
      refine lv_icmp_ne (tgt := 29) hx hb d_M_rangeCovers_17 (by decide) (fun hc_2 => ?_) (fun hc_2 => ?_)
      · have hF := it_f hF hc_2
        refine lv_iconst (v := 0) hx hb d_M_rangeCovers_29 (by decide) ?_
        cases hF
        exact krz K hP hD hS d_M_rangeCovers_30 rfl rfl
      · have hF := it_t hF hc_2
        refine lv_iload_n hx hb d_M_rangeCovers_20 rfl (lv_at hl 1 rfl) ?_
        refine lv_iconst (v := 2) hx hb d_M_rangeCovers_21 (by decide) ?_
        refine lv_icmp_ne (tgt := 29) hx hb d_M_rangeCovers_22 (by decide) (fun hc_3 => ?_) (fun hc_3 => ?_)
        · have hF := it_f hF hc_3
          refine lv_iconst (v := 0) hx hb d_M_rangeCovers_29 (by decide) ?_
          cases hF
          exact krz K hP hD hS d_M_rangeCovers_30 rfl rfl
        · have hF := it_t hF hc_3
          refine lv_iconst (v := 1) hx hb d_M_rangeCovers_25 (by decide) ?_
          refine lv_goto (tgt := 30) hx hb d_M_rangeCovers_26 (by decide) ?_
          cases hF
          exact krz K hP hD hS d_M_rangeCovers_30 rfl rfl
    refine lv_icmp_ne (tgt := 15) hx hb d_M_rangeCovers_7 (by decide) (fun hc_4 => ?_) (fun hc_4 => ?_)
    · have hF := it_f hF hc_4
      exact hJ15  H locs ls hF hP hD hS (lv_sub hl [0, 1] rfl)
    · have hF := it_t hF hc_4
      refine lv_iload_n hx hb d_M_rangeCovers_10 rfl (lv_at hl 1 rfl) ?_
      refine lv_iconst (v := 5) hx hb d_M_rangeCovers_11 (by decide) ?_
      refine lv_icmp_ne (tgt := 25) hx hb d_M_rangeCovers_12 (by decide) (fun hc_5 => ?_) (fun hc_5 => ?_)
      · have hF := it_f hF hc_5
        refine lv_iconst (v := 1) hx hb d_M_rangeCovers_25 (by decide) ?_
        refine lv_goto (tgt := 30) hx hb d_M_rangeCovers_26 (by decide) ?_
        cases hF
        exact krz K hP hD hS d_M_rangeCovers_30 rfl rfl
      · have hF := it_t hF hc_5
        exact hJ15  H locs ls hF hP hD hS (lv_sub hl [0, 1] rfl)
theorem c_M_rangeCovers (l : Launch) (g : va_G) (tys : List (ClassId × FieldType)) (w : va_W) (a1 : Int32) (a2 : Int32) (r : Int32) (hF : F_M_rangeCovers a1 a2 = some r) : Ci l y_M_rangeCovers prog_6_method_14_code 2 (some .boolean) ({ frames := 0, cells := 0, slots := 0, locals := 0 }) [.int a1, .int a2] g tys w w r :=
  Ci.of (by decide) (Nat.le_of_ble_eq_true rfl) (fun p e s m below meth c A ls K hP hD hS hl => t_M_rangeCovers K  a1 a2 r hF hP hD hS hl)
def F_M_againstTable (mwk : Nat → Int32) (mwt : Nat → Int32) (mwm : Nat → Int32) (a1 : Int32) (a2 : Int32) (a3 : Int32) (a4 : Int32) : Option (Int32) :=
  if a1 = a2 then some 0 else gd (a1 < 0 ∨ 8 ≤ a1.toNatClampNeg) (if (mwk a1.toNatClampNeg) = 1 then some 0 else gd (a1 < 0 ∨ 8 ≤ a1.toNatClampNeg) (if (mwt a1.toNatClampNeg) = a3 then if a4 < 0 then some 0 else gd (a1 < 0 ∨ 8 ≤ a1.toNatClampNeg) (ob1 (F_M_together (mwm a1.toNatClampNeg) a4) (fun r_8 => if r_8 = 0 then some 1 else some 0)) else some 0))
set_option maxHeartbeats 4000000 in
set_option maxRecDepth 100000 in
theorem t_M_againstTable {p : Program} {l : Launch} {e : Env} {s : State} {m : MethodId} {args : Array Value} {below : List Frame} {meth : Method} {c : Code} {A : Nat → Prop} {g : va_G} {cI cJ cZ : ClassId} {ad : Nat → Nat} {rest : va_W} (K : kX p s m args meth c "LockTableModel" prog_6_method_15_code 5 (some .boolean) A g (kty cI cJ cZ)) (mth : Int32) (mst : Nat → Int32) (mse : Nat → Int32) (mla : Int32) (mmo : Nat → Int32) (mrc : Int32) (mro : Nat → Int32) (mrt : Nat → Int32) (mrm : Nat → Int32) (mrl : Nat → Int64) (mrh : Nat → Int64) (mwk : Nat → Int32) (mwt : Nat → Int32) (mwm : Nat → Int32) (mwl : Nat → Int64) (mwh : Nat → Int64) (mwi : Nat → Int32) (mwc : Nat → Int32) (mwx : Nat → Int32) (mar : Int32) (mli : Int32) (mgr : Int32) (mgo : Nat → Int32) (mre : Nat → Int32) (mfr : Int32) (a1 : Int32) (a2 : Int32) (a3 : Int32) (a4 : Int32) (r : Int32) (hF : F_M_againstTable mwk mwt mwm a1 a2 a3 a4 = some r) {H : Heap} {locs : List Loc} {ls : Array Slot} (hP : va_P g kcl (wM cI cJ cZ ad mth mst mse mla mmo mrc mro mrt mrm mrl mrh mwk mwt mwm mwl mwh mwi mwc mwx mar mli mgr mgo mre mfr rest) H) (hD : va_D A (wM cI cJ cZ ad mth mst mse mla mmo mrc mro mrt mrm mrl mrh mwk mwt mwm mwl mwh mwi mwc mwx mar mli mgr mgo mre mfr rest)) (hS : va_S A s.heap H locs) (hl : lv_has ls 5 [(0, .ref (ad 0)), (1, .int a1), (2, .int a2), (3, .int a3), (4, .int a4)]) : W p l e ({ frames := 2, cells := 0, slots := 0, locals := 41 }) s m args below meth c H locs 0 0 (MQ below (kQi g (kty cI cJ cZ) (wM cI cJ cZ ad mth mst mse mla mmo mrc mro mrt mrm mrl mrh mwk mwt mwm mwl mwh mwi mwc mwx mar mli mgr mgo mre mfr rest) A r) args s 0 0 A) (F0 m 0 ls []) := by
  obtain ⟨hx, hb, hr, hml, hown, hts, hlocks, hK, hA, hE⟩ := id K
  unfold F_M_againstTable at hF
  refine lv_iload_n hx hb d_M_againstTable_0 rfl (lv_at hl 1 rfl) ?_
  refine lv_iload_n hx hb d_M_againstTable_1 rfl (lv_at hl 2 rfl) ?_
  refine lv_icmp_eq (tgt := 48) hx hb d_M_againstTable_2 (by decide) (fun hc_1 => ?_) (fun hc_1 => ?_)
  · have hF := it_t hF hc_1
    refine lv_iconst (v := 0) hx hb d_M_againstTable_48 (by decide) ?_
    cases hF
    exact krz K hP hD hS d_M_againstTable_49 rfl rfl
  · have hF := it_f hF hc_1
    refine lv_aload_n hx hb d_M_againstTable_5 rfl (lv_at hl 0 rfl) ?_
    refine va_get (D := g) (ci := 3) (v := .ref (ad 9)) (C := kR3) (T := kT3) (N := 25) hx hb hts kw3 hown hK hP 0 rfl rfl 11 (by decide) (hts _ wm_682) (fun _ h9 => h9) rfl d_M_againstTable_6 ?_
    refine lv_iload_n hx hb d_M_againstTable_9 rfl (lv_at hl 1 rfl) ?_
    obtain ⟨hg_2, hF⟩ := gd_inv hF
    refine va_iald hx hb hK hP 9 0 rfl rfl hg_2 d_M_againstTable_10 ?_
    refine lv_iconst (v := 1) hx hb d_M_againstTable_11 (by decide) ?_
    refine lv_icmp_eq (tgt := 48) hx hb d_M_againstTable_12 (by decide) (fun hc_3 => ?_) (fun hc_3 => ?_)
    · have hF := it_t hF hc_3
      refine lv_iconst (v := 0) hx hb d_M_againstTable_48 (by decide) ?_
      cases hF
      exact krz K hP hD hS d_M_againstTable_49 rfl rfl
    · have hF := it_f hF hc_3
      refine lv_aload_n hx hb d_M_againstTable_15 rfl (lv_at hl 0 rfl) ?_
      refine va_get (D := g) (ci := 3) (v := .ref (ad 10)) (C := kR3) (T := kT3) (N := 25) hx hb hts kw3 hown hK hP 0 rfl rfl 12 (by decide) (hts _ wm_683) (fun _ h9 => h9) rfl d_M_againstTable_16 ?_
      refine lv_iload_n hx hb d_M_againstTable_19 rfl (lv_at hl 1 rfl) ?_
      obtain ⟨hg_4, hF⟩ := gd_inv hF
      refine va_iald hx hb hK hP 10 0 rfl rfl hg_4 d_M_againstTable_20 ?_
      refine lv_iload_n hx hb d_M_againstTable_21 rfl (lv_at hl 3 rfl) ?_
      refine lv_icmp_ne (tgt := 48) hx hb d_M_againstTable_22 (by decide) (fun hc_5 => ?_) (fun hc_5 => ?_)
      · have hF := it_f hF hc_5
        refine lv_iconst (v := 0) hx hb d_M_againstTable_48 (by decide) ?_
        cases hF
        exact krz K hP hD hS d_M_againstTable_49 rfl rfl
      · have hF := it_t hF hc_5
        refine lv_iload hx hb d_M_againstTable_25 (lv_at hl 4 rfl) ?_
        refine lv_if_lt (tgt := 48) hx hb d_M_againstTable_27 (by decide) (fun hc_6 => ?_) (fun hc_6 => ?_)
        · have hF := it_t hF hc_6
          refine lv_iconst (v := 0) hx hb d_M_againstTable_48 (by decide) ?_
          cases hF
          exact krz K hP hD hS d_M_againstTable_49 rfl rfl
        · have hF := it_f hF hc_6
          refine lv_aload_n hx hb d_M_againstTable_30 rfl (lv_at hl 0 rfl) ?_
          refine va_get (D := g) (ci := 3) (v := .ref (ad 11)) (C := kR3) (T := kT3) (N := 25) hx hb hts kw3 hown hK hP 0 rfl rfl 13 (by decide) (hts _ wm_684) (fun _ h9 => h9) rfl d_M_againstTable_31 ?_
          refine lv_iload_n hx hb d_M_againstTable_34 rfl (lv_at hl 1 rfl) ?_
          obtain ⟨hg_7, hF⟩ := gd_inv hF
          refine va_iald hx hb hK hP 11 0 rfl rfl hg_7 d_M_againstTable_35 ?_
          refine lv_iload hx hb d_M_againstTable_36 (lv_at hl 4 rfl) ?_
          obtain ⟨r_8, hG, hF⟩ := ob1_inv hF
          refine ksi K hP hD hS (c_M_together l g (kty cI cJ cZ) (wM cI cJ cZ ad mth mst mse mla mmo mrc mro mrt mrm mrl mrh mwk mwt mwm mwl mwh mwi mwc mwx mar mli mgr mgo mre mfr rest) (mwm a1.toNatClampNeg) a4 r_8 hG) wm_807 wm_805 wm_806 wm_50 hd_M_together rfl rfl ⟨Nat.le_of_ble_eq_true rfl, Nat.le_of_ble_eq_true rfl⟩ ⟨Nat.zero_le _, Nat.zero_le _⟩ hl.1 (rest := []) rfl (Nat.le_of_ble_eq_true rfl) d_M_againstTable_38 (fun H locs hP hD hS => ?_)
          refine lv_if_ne (tgt := 48) hx hb d_M_againstTable_41 (by decide) (fun hc_9 => ?_) (fun hc_9 => ?_)
          · have hF := it_f hF hc_9
            refine lv_iconst (v := 0) hx hb d_M_againstTable_48 (by decide) ?_
            cases hF
            exact krz K hP hD hS d_M_againstTable_49 rfl rfl
          · have hF := it_t hF hc_9
            refine lv_iconst (v := 1) hx hb d_M_againstTable_44 (by decide) ?_
            refine lv_goto (tgt := 49) hx hb d_M_againstTable_45 (by decide) ?_
            cases hF
            exact krz K hP hD hS d_M_againstTable_49 rfl rfl
theorem c_M_againstTable (l : Launch) (g : va_G) (cI cJ cZ : ClassId) (ad : Nat → Nat) (mth : Int32) (mst : Nat → Int32) (mse : Nat → Int32) (mla : Int32) (mmo : Nat → Int32) (mrc : Int32) (mro : Nat → Int32) (mrt : Nat → Int32) (mrm : Nat → Int32) (mrl : Nat → Int64) (mrh : Nat → Int64) (mwk : Nat → Int32) (mwt : Nat → Int32) (mwm : Nat → Int32) (mwl : Nat → Int64) (mwh : Nat → Int64) (mwi : Nat → Int32) (mwc : Nat → Int32) (mwx : Nat → Int32) (mar : Int32) (mli : Int32) (mgr : Int32) (mgo : Nat → Int32) (mre : Nat → Int32) (mfr : Int32) (rest : va_W) (a1 : Int32) (a2 : Int32) (a3 : Int32) (a4 : Int32) (r : Int32) (hF : F_M_againstTable mwk mwt mwm a1 a2 a3 a4 = some r) : Ci l y_M_againstTable prog_6_method_15_code 5 (some .boolean) ({ frames := 2, cells := 0, slots := 0, locals := 41 }) [.ref (ad 0), .int a1, .int a2, .int a3, .int a4] g (kty cI cJ cZ) (wM cI cJ cZ ad mth mst mse mla mmo mrc mro mrt mrm mrl mrh mwk mwt mwm mwl mwh mwi mwc mwx mar mli mgr mgo mre mfr rest) (wM cI cJ cZ ad mth mst mse mla mmo mrc mro mrt mrm mrl mrh mwk mwt mwm mwl mwh mwi mwc mwx mar mli mgr mgo mre mfr rest) r :=
  Ci.of (by decide) (Nat.le_of_ble_eq_true rfl) (fun p e s m below meth c A ls K hP hD hS hl => t_M_againstTable K mth mst mse mla mmo mrc mro mrt mrm mrl mrh mwk mwt mwm mwl mwh mwi mwc mwx mar mli mgr mgo mre mfr a1 a2 a3 a4 r hF hP hD hS hl)
def F_M_againstRange (mwk : Nat → Int32) (mwt : Nat → Int32) (mwm : Nat → Int32) (mwl : Nat → Int64) (mwh : Nat → Int64) (a1 : Int32) (a2 : Int32) (a3 : Int32) (a4 : Int32) (a5 : Int64) (a6 : Int64) : Option (Int32) :=
  gd (a1 < 0 ∨ 8 ≤ a1.toNatClampNeg) (jn1 (fun (s_2 : Int32) => if a1 = a2 then some 0 else if s_2 = 0 then some 0 else gd (a1 < 0 ∨ 8 ≤ a1.toNatClampNeg) (ob1 (F_M_together (mwm a1.toNatClampNeg) a4) (fun r_6 => if r_6 = 0 then some 1 else some 0))) (fun J49 => jn0 (J49 0) (fun J48 => if (mwk a1.toNatClampNeg) = 1 then gd (a1 < 0 ∨ 8 ≤ a1.toNatClampNeg) (if (mwt a1.toNatClampNeg) = a3 then gd (a1 < 0 ∨ 8 ≤ a1.toNatClampNeg) (if 0 < (lg_cmp (mwl a1.toNatClampNeg) a6) then J48  else gd (a1 < 0 ∨ 8 ≤ a1.toNatClampNeg) (if 0 < (lg_cmp a5 (mwh a1.toNatClampNeg)) then J48  else J49 1)) else J48 ) else J48 )))
set_option maxHeartbeats 4000000 in
set_option maxRecDepth 100000 in
theorem t_M_againstRange {p : Program} {l : Launch} {e : Env} {s : State} {m : MethodId} {args : Array Value} {below : List Frame} {meth : Method} {c : Code} {A : Nat → Prop} {g : va_G} {cI cJ cZ : ClassId} {ad : Nat → Nat} {rest : va_W} (K : kX p s m args meth c "LockTableModel" prog_6_method_16_code 10 (some .boolean) A g (kty cI cJ cZ)) (mth : Int32) (mst : Nat → Int32) (mse : Nat → Int32) (mla : Int32) (mmo : Nat → Int32) (mrc : Int32) (mro : Nat → Int32) (mrt : Nat → Int32) (mrm : Nat → Int32) (mrl : Nat → Int64) (mrh : Nat → Int64) (mwk : Nat → Int32) (mwt : Nat → Int32) (mwm : Nat → Int32) (mwl : Nat → Int64) (mwh : Nat → Int64) (mwi : Nat → Int32) (mwc : Nat → Int32) (mwx : Nat → Int32) (mar : Int32) (mli : Int32) (mgr : Int32) (mgo : Nat → Int32) (mre : Nat → Int32) (mfr : Int32) (a1 : Int32) (a2 : Int32) (a3 : Int32) (a4 : Int32) (a5 : Int64) (a6 : Int64) (r : Int32) (hF : F_M_againstRange mwk mwt mwm mwl mwh a1 a2 a3 a4 a5 a6 = some r) {H : Heap} {locs : List Loc} {ls : Array Slot} (hP : va_P g kcl (wM cI cJ cZ ad mth mst mse mla mmo mrc mro mrt mrm mrl mrh mwk mwt mwm mwl mwh mwi mwc mwx mar mli mgr mgo mre mfr rest) H) (hD : va_D A (wM cI cJ cZ ad mth mst mse mla mmo mrc mro mrt mrm mrl mrh mwk mwt mwm mwl mwh mwi mwc mwx mar mli mgr mgo mre mfr rest)) (hS : va_S A s.heap H locs) (hl : lv_has ls 10 [(0, .ref (ad 0)), (1, .int a1), (2, .int a2), (3, .int a3), (4, .int a4), (5, .long a5), (7, .long a6)]) : W p l e ({ frames := 2, cells := 0, slots := 0, locals := 41 }) s m args below meth c H locs 0 0 (MQ below (kQi g (kty cI cJ cZ) (wM cI cJ cZ ad mth mst mse mla mmo mrc mro mrt mrm mrl mrh mwk mwt mwm mwl mwh mwi mwc mwx mar mli mgr mgo mre mfr rest) A r) args s 0 0 A) (F0 m 0 ls []) := by
  obtain ⟨hx, hb, hr, hml, hown, hts, hlocks, hK, hA, hE⟩ := id K
  unfold F_M_againstRange at hF
  refine lv_aload_n hx hb d_M_againstRange_0 rfl (lv_at hl 0 rfl) ?_
  refine va_get (D := g) (ci := 3) (v := .ref (ad 9)) (C := kR3) (T := kT3) (N := 25) hx hb hts kw3 hown hK hP 0 rfl rfl 11 (by decide) (hts _ wm_682) (fun _ h9 => h9) rfl d_M_againstRange_1 ?_
  refine lv_iload_n hx hb d_M_againstRange_4 rfl (lv_at hl 1 rfl) ?_
  obtain ⟨hg_1, hF⟩ := gd_inv hF
  refine va_iald hx hb hK hP 9 0 rfl rfl hg_1 d_M_againstRange_5 ?_
  refine lv_iconst (v := 1) hx hb d_M_againstRange_6 (by decide) ?_
  obtain ⟨J49, eJ49, hF⟩ := jn1_inv hF
  have hJ49 : ∀ (s_2 : Int32) (H : Heap) (locs : List Loc) (ls : Array Slot), J49 s_2 = some r → va_P g kcl (wM cI cJ cZ ad mth mst mse mla mmo mrc mro mrt mrm mrl mrh mwk mwt mwm mwl mwh mwi mwc mwx mar mli mgr mgo mre mfr rest) H → va_D A (wM cI cJ cZ ad mth mst mse mla mmo mrc mro mrt mrm mrl mrh mwk mwt mwm mwl mwh mwi mwc mwx mar mli mgr mgo mre mfr rest) → va_S A s.heap H locs → lv_has ls 10 [(0, .ref (ad 0)), (1, .int a1), (2, .int a2), (4, .int a4)] → W p l e ({ frames := 2, cells := 0, slots := 0, locals := 41 }) s m args below meth c H locs 0 0 (MQ below (kQi g (kty cI cJ cZ) (wM cI cJ cZ ad mth mst mse mla mmo mrc mro mrt mrm mrl mrh mwk mwt mwm mwl mwh mwi mwc mwx mar mli mgr mgo mre mfr rest) A r) args s 0 0 A) (F0 m 49 ls [.int s_2]) := by
    intro s_2 H locs ls hF hP hD hS hl
    rw [eJ49] at hF
    refine lv_istore (lv' := [(9, .int s_2), (0, .ref (ad 0)), (1, .int a1), (2, .int a2), (4, .int a4)]) hx hb d_M_againstRange_49 hl (by decide) rfl (fun ls hl => ?_)
    refine lv_iload_n hx hb d_M_againstRange_51 rfl (lv_at hl 2 rfl) ?_
    refine lv_iload_n hx hb d_M_againstRange_52 rfl (lv_at hl 3 rfl) ?_
    refine lv_icmp_eq (tgt := 79) hx hb d_M_againstRange_53 (by decide) (fun hc_3 => ?_) (fun hc_3 => ?_)
    · have hF := it_t hF hc_3
      refine lv_iconst (v := 0) hx hb d_M_againstRange_79 (by decide) ?_
      cases hF
      exact krz K hP hD hS d_M_againstRange_80 rfl rfl
    · have hF := it_f hF hc_3
      refine lv_iload hx hb d_M_againstRange_56 (lv_at hl 0 rfl) ?_
      refine lv_if_eq (tgt := 79) hx hb d_M_againstRange_58 (by decide) (fun hc_4 => ?_) (fun hc_4 => ?_)
      · have hF := it_t hF hc_4
        refine lv_iconst (v := 0) hx hb d_M_againstRange_79 (by decide) ?_
        cases hF
        exact krz K hP hD hS d_M_againstRange_80 rfl rfl
      · have hF := it_f hF hc_4
        refine lv_aload_n hx hb d_M_againstRange_61 rfl (lv_at hl 1 rfl) ?_
        refine va_get (D := g) (ci := 3) (v := .ref (ad 11)) (C := kR3) (T := kT3) (N := 25) hx hb hts kw3 hown hK hP 0 rfl rfl 13 (by decide) (hts _ wm_684) (fun _ h9 => h9) rfl d_M_againstRange_62 ?_
        refine lv_iload_n hx hb d_M_againstRange_65 rfl (lv_at hl 2 rfl) ?_
        obtain ⟨hg_5, hF⟩ := gd_inv hF
        refine va_iald hx hb hK hP 11 0 rfl rfl hg_5 d_M_againstRange_66 ?_
        refine lv_iload hx hb d_M_againstRange_67 (lv_at hl 4 rfl) ?_
        obtain ⟨r_6, hG, hF⟩ := ob1_inv hF
        refine ksi K hP hD hS (c_M_together l g (kty cI cJ cZ) (wM cI cJ cZ ad mth mst mse mla mmo mrc mro mrt mrm mrl mrh mwk mwt mwm mwl mwh mwi mwc mwx mar mli mgr mgo mre mfr rest) (mwm a1.toNatClampNeg) a4 r_6 hG) wm_807 wm_805 wm_806 wm_50 hd_M_together rfl rfl ⟨Nat.le_of_ble_eq_true rfl, Nat.le_of_ble_eq_true rfl⟩ ⟨Nat.zero_le _, Nat.zero_le _⟩ hl.1 (rest := []) rfl (Nat.le_of_ble_eq_true rfl) d_M_againstRange_69 (fun H locs hP hD hS => ?_)
        refine lv_if_ne (tgt := 79) hx hb d_M_againstRange_72 (by decide) (fun hc_7 => ?_) (fun hc_7 => ?_)
        · have hF := it_f hF hc_7
          refine lv_iconst (v := 0) hx hb d_M_againstRange_79 (by decide) ?_
          cases hF
          exact krz K hP hD hS d_M_againstRange_80 rfl rfl
        · have hF := it_t hF hc_7
          refine lv_iconst (v := 1) hx hb d_M_againstRange_75 (by decide) ?_
          refine lv_goto (tgt := 80) hx hb d_M_againstRange_76 (by decide) ?_
          cases hF
          exact krz K hP hD hS d_M_againstRange_80 rfl rfl
  obtain ⟨J48, eJ48, hF⟩ := jn0_inv hF
  have hJ48 : ∀  (H : Heap) (locs : List Loc) (ls : Array Slot), J48  = some r → va_P g kcl (wM cI cJ cZ ad mth mst mse mla mmo mrc mro mrt mrm mrl mrh mwk mwt mwm mwl mwh mwi mwc mwx mar mli mgr mgo mre mfr rest) H → va_D A (wM cI cJ cZ ad mth mst mse mla mmo mrc mro mrt mrm mrl mrh mwk mwt mwm mwl mwh mwi mwc mwx mar mli mgr mgo mre mfr rest) → va_S A s.heap H locs → lv_has ls 10 [(0, .ref (ad 0)), (1, .int a1), (2, .int a2), (4, .int a4)] → W p l e ({ frames := 2, cells := 0, slots := 0, locals := 41 }) s m args below meth c H locs 0 0 (MQ below (kQi g (kty cI cJ cZ) (wM cI cJ cZ ad mth mst mse mla mmo mrc mro mrt mrm mrl mrh mwk mwt mwm mwl mwh mwi mwc mwx mar mli mgr mgo mre mfr rest) A r) args s 0 0 A) (F0 m 48 ls []) := by
    intro  H locs ls hF hP hD hS hl
    rw [eJ48] at hF
    refine lv_iconst (v := 0) hx hb d_M_againstRange_48 (by decide) ?_
    exact hJ49 _ H locs ls hF hP hD hS (lv_sub hl [0, 1, 2, 3] rfl)
  refine lv_icmp_ne (tgt := 48) hx hb d_M_againstRange_7 (by decide) (fun hc_8 => ?_) (fun hc_8 => ?_)
  · have hF := it_f hF hc_8
    exact hJ48  H locs ls hF hP hD hS (lv_sub hl [0, 1, 2, 4] rfl)
  · have hF := it_t hF hc_8
    refine lv_aload_n hx hb d_M_againstRange_10 rfl (lv_at hl 0 rfl) ?_
    refine va_get (D := g) (ci := 3) (v := .ref (ad 10)) (C := kR3) (T := kT3) (N := 25) hx hb hts kw3 hown hK hP 0 rfl rfl 12 (by decide) (hts _ wm_683) (fun _ h9 => h9) rfl d_M_againstRange_11 ?_
    refine lv_iload_n hx hb d_M_againstRange_14 rfl (lv_at hl 1 rfl) ?_
    obtain ⟨hg_9, hF⟩ := gd_inv hF
    refine va_iald hx hb hK hP 10 0 rfl rfl hg_9 d_M_againstRange_15 ?_
    refine lv_iload_n hx hb d_M_againstRange_16 rfl (lv_at hl 3 rfl) ?_
    refine lv_icmp_ne (tgt := 48) hx hb d_M_againstRange_17 (by decide) (fun hc_10 => ?_) (fun hc_10 => ?_)
    · have hF := it_f hF hc_10
      exact hJ48  H locs ls hF hP hD hS (lv_sub hl [0, 1, 2, 4] rfl)
    · have hF := it_t hF hc_10
      refine lv_aload_n hx hb d_M_againstRange_20 rfl (lv_at hl 0 rfl) ?_
      refine va_get (D := g) (ci := 3) (v := .ref (ad 12)) (C := kR3) (T := kT3) (N := 25) hx hb hts kw3 hown hK hP 0 rfl rfl 14 (by decide) (hts _ wm_685) (fun _ h9 => h9) rfl d_M_againstRange_21 ?_
      refine lv_iload_n hx hb d_M_againstRange_24 rfl (lv_at hl 1 rfl) ?_
      obtain ⟨hg_11, hF⟩ := gd_inv hF
      refine va_lald hx hb hK hP 12 1 rfl rfl hg_11 d_M_againstRange_25 ?_
      refine lv_lload hx hb d_M_againstRange_26 (lv_at hl 6 rfl) ?_
      refine W.lcmp hx hb d_M_againstRange_28 ?_
      refine lv_if_gt (tgt := 48) hx hb d_M_againstRange_29 (by decide) (fun hc_12 => ?_) (fun hc_12 => ?_)
      · have hF := it_t hF hc_12
        exact hJ48  H locs ls hF hP hD hS (lv_sub hl [0, 1, 2, 4] rfl)
      · have hF := it_f hF hc_12
        refine lv_lload hx hb d_M_againstRange_32 (lv_at hl 5 rfl) ?_
        refine lv_aload_n hx hb d_M_againstRange_34 rfl (lv_at hl 0 rfl) ?_
        refine va_get (D := g) (ci := 3) (v := .ref (ad 13)) (C := kR3) (T := kT3) (N := 25) hx hb hts kw3 hown hK hP 0 rfl rfl 15 (by decide) (hts _ wm_686) (fun _ h9 => h9) rfl d_M_againstRange_35 ?_
        refine lv_iload_n hx hb d_M_againstRange_38 rfl (lv_at hl 1 rfl) ?_
        obtain ⟨hg_13, hF⟩ := gd_inv hF
        refine va_lald hx hb hK hP 13 1 rfl rfl hg_13 d_M_againstRange_39 ?_
        refine W.lcmp hx hb d_M_againstRange_40 ?_
        refine lv_if_gt (tgt := 48) hx hb d_M_againstRange_41 (by decide) (fun hc_14 => ?_) (fun hc_14 => ?_)
        · have hF := it_t hF hc_14
          exact hJ48  H locs ls hF hP hD hS (lv_sub hl [0, 1, 2, 4] rfl)
        · have hF := it_f hF hc_14
          refine lv_iconst (v := 1) hx hb d_M_againstRange_44 (by decide) ?_
          refine lv_goto (tgt := 49) hx hb d_M_againstRange_45 (by decide) ?_
          exact hJ49 _ H locs ls hF hP hD hS (lv_sub hl [0, 1, 2, 4] rfl)
theorem c_M_againstRange (l : Launch) (g : va_G) (cI cJ cZ : ClassId) (ad : Nat → Nat) (mth : Int32) (mst : Nat → Int32) (mse : Nat → Int32) (mla : Int32) (mmo : Nat → Int32) (mrc : Int32) (mro : Nat → Int32) (mrt : Nat → Int32) (mrm : Nat → Int32) (mrl : Nat → Int64) (mrh : Nat → Int64) (mwk : Nat → Int32) (mwt : Nat → Int32) (mwm : Nat → Int32) (mwl : Nat → Int64) (mwh : Nat → Int64) (mwi : Nat → Int32) (mwc : Nat → Int32) (mwx : Nat → Int32) (mar : Int32) (mli : Int32) (mgr : Int32) (mgo : Nat → Int32) (mre : Nat → Int32) (mfr : Int32) (rest : va_W) (a1 : Int32) (a2 : Int32) (a3 : Int32) (a4 : Int32) (a5 : Int64) (a6 : Int64) (r : Int32) (hF : F_M_againstRange mwk mwt mwm mwl mwh a1 a2 a3 a4 a5 a6 = some r) : Ci l y_M_againstRange prog_6_method_16_code 10 (some .boolean) ({ frames := 2, cells := 0, slots := 0, locals := 41 }) [.ref (ad 0), .int a1, .int a2, .int a3, .int a4, .long a5, .long a6] g (kty cI cJ cZ) (wM cI cJ cZ ad mth mst mse mla mmo mrc mro mrt mrm mrl mrh mwk mwt mwm mwl mwh mwi mwc mwx mar mli mgr mgo mre mfr rest) (wM cI cJ cZ ad mth mst mse mla mmo mrc mro mrt mrm mrl mrh mwk mwt mwm mwl mwh mwi mwc mwx mar mli mgr mgo mre mfr rest) r :=
  Ci.of (by decide) (Nat.le_of_ble_eq_true rfl) (fun p e s m below meth c A ls K hP hD hS hl => t_M_againstRange K mth mst mse mla mmo mrc mro mrt mrm mrl mrh mwk mwt mwm mwl mwh mwi mwc mwx mar mli mgr mgo mre mfr a1 a2 a3 a4 a5 a6 r hF hP hD hS hl)
def F_M_againstLocksOf_L32 (mrc : Int32) (mro : Nat → Int32) (mrt : Nat → Int32) (mrm : Nat → Int32) (mrl : Nat → Int64) (mrh : Nat → Int64) (mwk : Nat → Int32) (mwt : Nat → Int32) (mwm : Nat → Int32) (mwl : Nat → Int64) (mwh : Nat → Int64) (v1 : Int32) (v2 : Int32) : Nat → Int32 → Int32 → Option (Int32)
  | 0, _, _ => none
  | n + 1, v3, v4 => if mrc ≤ v4 then some v3 else if v3 = 0 then gd (v4 < 0 ∨ 256 ≤ v4.toNatClampNeg) (if (mro v4.toNatClampNeg) = v2 then gd (v4 < 0 ∨ 256 ≤ v4.toNatClampNeg) (gd (v4 < 0 ∨ 256 ≤ v4.toNatClampNeg) (gd (v4 < 0 ∨ 256 ≤ v4.toNatClampNeg) (gd (v4 < 0 ∨ 256 ≤ v4.toNatClampNeg) (ob1 (F_M_againstRange mwk mwt mwm mwl mwh v1 v2 (mrt v4.toNatClampNeg) (mrm v4.toNatClampNeg) (mrl v4.toNatClampNeg) (mrh v4.toNatClampNeg)) (fun r_13 => if r_13 = 0 then F_M_againstLocksOf_L32 mrc mro mrt mrm mrl mrh mwk mwt mwm mwl mwh v1 v2 n 0 (v4 + 1) else F_M_againstLocksOf_L32 mrc mro mrt mrm mrl mrh mwk mwt mwm mwl mwh v1 v2 n 1 (v4 + 1)))))) else F_M_againstLocksOf_L32 mrc mro mrt mrm mrl mrh mwk mwt mwm mwl mwh v1 v2 n 0 (v4 + 1)) else F_M_againstLocksOf_L32 mrc mro mrt mrm mrl mrh mwk mwt mwm mwl mwh v1 v2 n 1 (v4 + 1)
def F_M_againstLocksOf (mmo : Nat → Int32) (mrc : Int32) (mro : Nat → Int32) (mrt : Nat → Int32) (mrm : Nat → Int32) (mrl : Nat → Int64) (mrh : Nat → Int64) (mwk : Nat → Int32) (mwt : Nat → Int32) (mwm : Nat → Int32) (mwl : Nat → Int64) (mwh : Nat → Int64) (a1 : Int32) (a2 : Int32) : Option (Int32) :=
  gd (a1 < 0 ∨ 8 ≤ a1.toNatClampNeg) (gd (a1 < 0 ∨ 8 ≤ a1.toNatClampNeg) (gd (((16 * a2) + (mwt a1.toNatClampNeg)) < 0 ∨ 128 ≤ ((16 * a2) + (mwt a1.toNatClampNeg)).toNatClampNeg) (ob1 (F_M_againstTable mwk mwt mwm a1 a2 (mwt a1.toNatClampNeg) (mmo ((16 * a2) + (mwt a1.toNatClampNeg)).toNatClampNeg)) (fun r_4 => ob1 (F_M_againstLocksOf_L32 mrc mro mrt mrm mrl mrh mwk mwt mwm mwl mwh a1 a2 fu r_4 0) (fun v3_15 => gd (¬ vp_nar .boolean v3_15 = v3_15) (some v3_15))))))
set_option maxHeartbeats 4000000 in
set_option maxRecDepth 100000 in
theorem t_M_againstLocksOf_L32 {p : Program} {l : Launch} {e : Env} {s : State} {m : MethodId} {args : Array Value} {below : List Frame} {meth : Method} {c : Code} {A : Nat → Prop} {g : va_G} {cI cJ cZ : ClassId} {ad : Nat → Nat} {rest : va_W} (K : kX p s m args meth c "LockTableModel" prog_6_method_17_code 5 (some .boolean) A g (kty cI cJ cZ)) {Q : State → Prop} (mth : Int32) (mst : Nat → Int32) (mse : Nat → Int32) (mla : Int32) (mmo : Nat → Int32) (mrc : Int32) (mro : Nat → Int32) (mrt : Nat → Int32) (mrm : Nat → Int32) (mrl : Nat → Int64) (mrh : Nat → Int64) (mwk : Nat → Int32) (mwt : Nat → Int32) (mwm : Nat → Int32) (mwl : Nat → Int64) (mwh : Nat → Int64) (mwi : Nat → Int32) (mwc : Nat → Int32) (mwx : Nat → Int32) (mar : Int32) (mli : Int32) (mgr : Int32) (mgo : Nat → Int32) (mre : Nat → Int32) (mfr : Int32) (v1 : Int32) (v2 : Int32) : ∀ (n : Nat) (v3 : Int32) (v4 : Int32) (o_v3 : Int32) (H : Heap) (locs : List Loc) (ls : Array Slot), F_M_againstLocksOf_L32 mrc mro mrt mrm mrl mrh mwk mwt mwm mwl mwh v1 v2 n v3 v4 = some o_v3 → va_P g kcl (wM cI cJ cZ ad mth mst mse mla mmo mrc mro mrt mrm mrl mrh mwk mwt mwm mwl mwh mwi mwc mwx mar mli mgr mgo mre mfr rest) H → va_D A (wM cI cJ cZ ad mth mst mse mla mmo mrc mro mrt mrm mrl mrh mwk mwt mwm mwl mwh mwi mwc mwx mar mli mgr mgo mre mfr rest) → va_S A s.heap H locs → lv_has ls 5 [(0, .ref (ad 0)), (1, .int v1), (2, .int v2), (3, .int v3), (4, .int v4)] → (∀ (H : Heap) (locs : List Loc) (ls : Array Slot), va_P g kcl (wM cI cJ cZ ad mth mst mse mla mmo mrc mro mrt mrm mrl mrh mwk mwt mwm mwl mwh mwi mwc mwx mar mli mgr mgo mre mfr rest) H → va_D A (wM cI cJ cZ ad mth mst mse mla mmo mrc mro mrt mrm mrl mrh mwk mwt mwm mwl mwh mwi mwc mwx mar mli mgr mgo mre mfr rest) → va_S A s.heap H locs → lv_has ls 5 [(3, .int o_v3)] → W p l e ({ frames := 3, cells := 0, slots := 0, locals := 70 }) s m args below meth c H locs 0 0 Q (F0 m 105 ls [])) → W p l e ({ frames := 3, cells := 0, slots := 0, locals := 70 }) s m args below meth c H locs 0 0 Q (F0 m 32 ls []) := by
  obtain ⟨hx, hb, hr, hml, hown, hts, hlocks, hK, hA, hE⟩ := id K
  intro n
  induction n with
  | zero =>
    intro v3 v4 o_v3 H locs ls hF
    rw [F_M_againstLocksOf_L32] at hF
    cases hF
  | succ n ih =>
    intro v3 v4 o_v3 H locs ls hF hP hD hS hl hQ
    rw [F_M_againstLocksOf_L32] at hF
    refine lv_iload hx hb d_M_againstLocksOf_32 (lv_at hl 4 rfl) ?_
    refine lv_aload_n hx hb d_M_againstLocksOf_34 rfl (lv_at hl 0 rfl) ?_
    refine va_get (D := g) (ci := 3) (v := .int mrc) (C := kR3) (T := kT3) (N := 25) hx hb hts kw3 hown hK hP 0 rfl rfl 5 (by decide) (hts _ wm_676) (fun _ h9 => h9) rfl d_M_againstLocksOf_35 ?_
    refine lv_icmp_ge (tgt := 105) hx hb d_M_againstLocksOf_38 (by decide) (fun hc_5 => ?_) (fun hc_5 => ?_)
    · have hF := it_t hF hc_5
      cases hF
      exact hQ H locs ls hP hD hS (lv_sub hl [3] rfl)
    · have hF := it_f hF hc_5
      refine lv_iload_n hx hb d_M_againstLocksOf_41 rfl (lv_at hl 3 rfl) ?_
      refine lv_if_ne (tgt := 93) hx hb d_M_againstLocksOf_42 (by decide) (fun hc_6 => ?_) (fun hc_6 => ?_)
      · have hF := it_f hF hc_6
        refine lv_iconst (v := 1) hx hb d_M_againstLocksOf_93 (by decide) ?_
        refine lv_goto (tgt := 98) hx hb d_M_againstLocksOf_94 (by decide) ?_
        refine lv_istore_n (lv' := [(3, .int 1), (0, .ref (ad 0)), (1, .int v1), (2, .int v2), (4, .int v4)]) hx hb d_M_againstLocksOf_98 rfl hl (by decide) rfl (fun ls hl => ?_)
        refine lv_iinc (v := v4 + 1) (lv' := [(4, .int (v4 + 1)), (3, .int 1), (0, .ref (ad 0)), (1, .int v1), (2, .int v2)]) hx hb d_M_againstLocksOf_99 hl (k := 4) rfl rfl (by decide) rfl (fun ls hl => ?_)
        refine lv_goto (tgt := 32) hx hb d_M_againstLocksOf_102 (by decide) ?_
        exact ih _ _ _ H locs ls hF hP hD hS (lv_sub hl [2, 3, 4, 1, 0] rfl) hQ
      · have hF := it_t hF hc_6
        refine lv_aload_n hx hb d_M_againstLocksOf_45 rfl (lv_at hl 0 rfl) ?_
        refine va_get (D := g) (ci := 3) (v := .ref (ad 4)) (C := kR3) (T := kT3) (N := 25) hx hb hts kw3 hown hK hP 0 rfl rfl 6 (by decide) (hts _ wm_677) (fun _ h9 => h9) rfl d_M_againstLocksOf_46 ?_
        refine lv_iload hx hb d_M_againstLocksOf_49 (lv_at hl 4 rfl) ?_
        obtain ⟨hg_7, hF⟩ := gd_inv hF
        refine va_iald hx hb hK hP 4 0 rfl rfl hg_7 d_M_againstLocksOf_51 ?_
        refine lv_iload_n hx hb d_M_againstLocksOf_52 rfl (lv_at hl 2 rfl) ?_
        refine lv_icmp_ne (tgt := 97) hx hb d_M_againstLocksOf_53 (by decide) (fun hc_8 => ?_) (fun hc_8 => ?_)
        · have hF := it_f hF hc_8
          refine lv_iconst (v := 0) hx hb d_M_againstLocksOf_97 (by decide) ?_
          refine lv_istore_n (lv' := [(3, .int 0), (0, .ref (ad 0)), (1, .int v1), (2, .int v2), (4, .int v4)]) hx hb d_M_againstLocksOf_98 rfl hl (by decide) rfl (fun ls hl => ?_)
          refine lv_iinc (v := v4 + 1) (lv' := [(4, .int (v4 + 1)), (3, .int 0), (0, .ref (ad 0)), (1, .int v1), (2, .int v2)]) hx hb d_M_againstLocksOf_99 hl (k := 4) rfl rfl (by decide) rfl (fun ls hl => ?_)
          refine lv_goto (tgt := 32) hx hb d_M_againstLocksOf_102 (by decide) ?_
          exact ih _ _ _ H locs ls hF hP hD hS (lv_sub hl [2, 3, 4, 1, 0] rfl) hQ
        · have hF := it_t hF hc_8
          refine lv_aload_n hx hb d_M_againstLocksOf_56 rfl (lv_at hl 0 rfl) ?_
          refine lv_iload_n hx hb d_M_againstLocksOf_57 rfl (lv_at hl 1 rfl) ?_
          refine lv_iload_n hx hb d_M_againstLocksOf_58 rfl (lv_at hl 2 rfl) ?_
          refine lv_aload_n hx hb d_M_againstLocksOf_59 rfl (lv_at hl 0 rfl) ?_
          refine va_get (D := g) (ci := 3) (v := .ref (ad 5)) (C := kR3) (T := kT3) (N := 25) hx hb hts kw3 hown hK hP 0 rfl rfl 7 (by decide) (hts _ wm_678) (fun _ h9 => h9) rfl d_M_againstLocksOf_60 ?_
          refine lv_iload hx hb d_M_againstLocksOf_63 (lv_at hl 4 rfl) ?_
          obtain ⟨hg_9, hF⟩ := gd_inv hF
          refine va_iald hx hb hK hP 5 0 rfl rfl hg_9 d_M_againstLocksOf_65 ?_
          refine lv_aload_n hx hb d_M_againstLocksOf_66 rfl (lv_at hl 0 rfl) ?_
          refine va_get (D := g) (ci := 3) (v := .ref (ad 6)) (C := kR3) (T := kT3) (N := 25) hx hb hts kw3 hown hK hP 0 rfl rfl 8 (by decide) (hts _ wm_679) (fun _ h9 => h9) rfl d_M_againstLocksOf_67 ?_
          refine lv_iload hx hb d_M_againstLocksOf_70 (lv_at hl 4 rfl) ?_
          obtain ⟨hg_10, hF⟩ := gd_inv hF
          refine va_iald hx hb hK hP 6 0 rfl rfl hg_10 d_M_againstLocksOf_72 ?_
          refine lv_aload_n hx hb d_M_againstLocksOf_73 rfl (lv_at hl 0 rfl) ?_
          refine va_get (D := g) (ci := 3) (v := .ref (ad 7)) (C := kR3) (T := kT3) (N := 25) hx hb hts kw3 hown hK hP 0 rfl rfl 9 (by decide) (hts _ wm_680) (fun _ h9 => h9) rfl d_M_againstLocksOf_74 ?_
          refine lv_iload hx hb d_M_againstLocksOf_77 (lv_at hl 4 rfl) ?_
          obtain ⟨hg_11, hF⟩ := gd_inv hF
          refine va_lald hx hb hK hP 7 1 rfl rfl hg_11 d_M_againstLocksOf_79 ?_
          refine lv_aload_n hx hb d_M_againstLocksOf_80 rfl (lv_at hl 0 rfl) ?_
          refine va_get (D := g) (ci := 3) (v := .ref (ad 8)) (C := kR3) (T := kT3) (N := 25) hx hb hts kw3 hown hK hP 0 rfl rfl 10 (by decide) (hts _ wm_681) (fun _ h9 => h9) rfl d_M_againstLocksOf_81 ?_
          refine lv_iload hx hb d_M_againstLocksOf_84 (lv_at hl 4 rfl) ?_
          obtain ⟨hg_12, hF⟩ := gd_inv hF
          refine va_lald hx hb hK hP 8 1 rfl rfl hg_12 d_M_againstLocksOf_86 ?_
          obtain ⟨r_13, hG, hF⟩ := ob1_inv hF
          refine kci K hP hD hS (c_M_againstRange l g cI cJ cZ ad mth mst mse mla mmo mrc mro mrt mrm mrl mrh mwk mwt mwm mwl mwh mwi mwc mwx mar mli mgr mgo mre mfr rest v1 v2 (mrt v4.toNatClampNeg) (mrm v4.toNatClampNeg) (mrl v4.toNatClampNeg) (mrh v4.toNatClampNeg) r_13 hG) wm_811 wm_808 wm_810 wm_27 wm_50 hd_M_againstRange rfl rfl ⟨Nat.le_of_ble_eq_true rfl, Nat.le_of_ble_eq_true rfl⟩ ⟨Nat.zero_le _, Nat.zero_le _⟩ 3 0 rfl rfl rfl hl.1 (rest := []) rfl (Nat.le_of_ble_eq_true rfl) d_M_againstLocksOf_87 (fun H locs hP hD hS => ?_)
          refine lv_if_eq (tgt := 97) hx hb d_M_againstLocksOf_90 (by decide) (fun hc_14 => ?_) (fun hc_14 => ?_)
          · have hF := it_t hF hc_14
            refine lv_iconst (v := 0) hx hb d_M_againstLocksOf_97 (by decide) ?_
            refine lv_istore_n (lv' := [(3, .int 0), (0, .ref (ad 0)), (1, .int v1), (2, .int v2), (4, .int v4)]) hx hb d_M_againstLocksOf_98 rfl hl (by decide) rfl (fun ls hl => ?_)
            refine lv_iinc (v := v4 + 1) (lv' := [(4, .int (v4 + 1)), (3, .int 0), (0, .ref (ad 0)), (1, .int v1), (2, .int v2)]) hx hb d_M_againstLocksOf_99 hl (k := 4) rfl rfl (by decide) rfl (fun ls hl => ?_)
            refine lv_goto (tgt := 32) hx hb d_M_againstLocksOf_102 (by decide) ?_
            exact ih _ _ _ H locs ls hF hP hD hS (lv_sub hl [2, 3, 4, 1, 0] rfl) hQ
          · have hF := it_f hF hc_14
            refine lv_iconst (v := 1) hx hb d_M_againstLocksOf_93 (by decide) ?_
            refine lv_goto (tgt := 98) hx hb d_M_againstLocksOf_94 (by decide) ?_
            refine lv_istore_n (lv' := [(3, .int 1), (0, .ref (ad 0)), (1, .int v1), (2, .int v2), (4, .int v4)]) hx hb d_M_againstLocksOf_98 rfl hl (by decide) rfl (fun ls hl => ?_)
            refine lv_iinc (v := v4 + 1) (lv' := [(4, .int (v4 + 1)), (3, .int 1), (0, .ref (ad 0)), (1, .int v1), (2, .int v2)]) hx hb d_M_againstLocksOf_99 hl (k := 4) rfl rfl (by decide) rfl (fun ls hl => ?_)
            refine lv_goto (tgt := 32) hx hb d_M_againstLocksOf_102 (by decide) ?_
            exact ih _ _ _ H locs ls hF hP hD hS (lv_sub hl [2, 3, 4, 1, 0] rfl) hQ
set_option maxHeartbeats 4000000 in
set_option maxRecDepth 100000 in
theorem t_M_againstLocksOf {p : Program} {l : Launch} {e : Env} {s : State} {m : MethodId} {args : Array Value} {below : List Frame} {meth : Method} {c : Code} {A : Nat → Prop} {g : va_G} {cI cJ cZ : ClassId} {ad : Nat → Nat} {rest : va_W} (K : kX p s m args meth c "LockTableModel" prog_6_method_17_code 5 (some .boolean) A g (kty cI cJ cZ)) (mth : Int32) (mst : Nat → Int32) (mse : Nat → Int32) (mla : Int32) (mmo : Nat → Int32) (mrc : Int32) (mro : Nat → Int32) (mrt : Nat → Int32) (mrm : Nat → Int32) (mrl : Nat → Int64) (mrh : Nat → Int64) (mwk : Nat → Int32) (mwt : Nat → Int32) (mwm : Nat → Int32) (mwl : Nat → Int64) (mwh : Nat → Int64) (mwi : Nat → Int32) (mwc : Nat → Int32) (mwx : Nat → Int32) (mar : Int32) (mli : Int32) (mgr : Int32) (mgo : Nat → Int32) (mre : Nat → Int32) (mfr : Int32) (a1 : Int32) (a2 : Int32) (r : Int32) (hF : F_M_againstLocksOf mmo mrc mro mrt mrm mrl mrh mwk mwt mwm mwl mwh a1 a2 = some r) {H : Heap} {locs : List Loc} {ls : Array Slot} (hP : va_P g kcl (wM cI cJ cZ ad mth mst mse mla mmo mrc mro mrt mrm mrl mrh mwk mwt mwm mwl mwh mwi mwc mwx mar mli mgr mgo mre mfr rest) H) (hD : va_D A (wM cI cJ cZ ad mth mst mse mla mmo mrc mro mrt mrm mrl mrh mwk mwt mwm mwl mwh mwi mwc mwx mar mli mgr mgo mre mfr rest)) (hS : va_S A s.heap H locs) (hl : lv_has ls 5 [(0, .ref (ad 0)), (1, .int a1), (2, .int a2)]) : W p l e ({ frames := 3, cells := 0, slots := 0, locals := 70 }) s m args below meth c H locs 0 0 (MQ below (kQi g (kty cI cJ cZ) (wM cI cJ cZ ad mth mst mse mla mmo mrc mro mrt mrm mrl mrh mwk mwt mwm mwl mwh mwi mwc mwx mar mli mgr mgo mre mfr rest) A r) args s 0 0 A) (F0 m 0 ls []) := by
  obtain ⟨hx, hb, hr, hml, hown, hts, hlocks, hK, hA, hE⟩ := id K
  unfold F_M_againstLocksOf at hF
  refine lv_aload_n hx hb d_M_againstLocksOf_0 rfl (lv_at hl 0 rfl) ?_
  refine lv_iload_n hx hb d_M_againstLocksOf_1 rfl (lv_at hl 1 rfl) ?_
  refine lv_iload_n hx hb d_M_againstLocksOf_2 rfl (lv_at hl 2 rfl) ?_
  refine lv_aload_n hx hb d_M_againstLocksOf_3 rfl (lv_at hl 0 rfl) ?_
  refine va_get (D := g) (ci := 3) (v := .ref (ad 10)) (C := kR3) (T := kT3) (N := 25) hx hb hts kw3 hown hK hP 0 rfl rfl 12 (by decide) (hts _ wm_683) (fun _ h9 => h9) rfl d_M_againstLocksOf_4 ?_
  refine lv_iload_n hx hb d_M_againstLocksOf_7 rfl (lv_at hl 1 rfl) ?_
  obtain ⟨hg_1, hF⟩ := gd_inv hF
  refine va_iald hx hb hK hP 10 0 rfl rfl hg_1 d_M_againstLocksOf_8 ?_
  refine lv_aload_n hx hb d_M_againstLocksOf_9 rfl (lv_at hl 0 rfl) ?_
  refine va_get (D := g) (ci := 3) (v := .ref (ad 3)) (C := kR3) (T := kT3) (N := 25) hx hb hts kw3 hown hK hP 0 rfl rfl 4 (by decide) (hts _ wm_675) (fun _ h9 => h9) rfl d_M_againstLocksOf_10 ?_
  refine lv_bipush (v := 16) hx hb d_M_againstLocksOf_13 (by decide) ?_
  refine lv_iload_n hx hb d_M_againstLocksOf_15 rfl (lv_at hl 2 rfl) ?_
  refine lv_imul hx hb d_M_againstLocksOf_16 ?_
  refine lv_aload_n hx hb d_M_againstLocksOf_17 rfl (lv_at hl 0 rfl) ?_
  refine va_get (D := g) (ci := 3) (v := .ref (ad 10)) (C := kR3) (T := kT3) (N := 25) hx hb hts kw3 hown hK hP 0 rfl rfl 12 (by decide) (hts _ wm_683) (fun _ h9 => h9) rfl d_M_againstLocksOf_18 ?_
  refine lv_iload_n hx hb d_M_againstLocksOf_21 rfl (lv_at hl 1 rfl) ?_
  obtain ⟨hg_2, hF⟩ := gd_inv hF
  refine va_iald hx hb hK hP 10 0 rfl rfl hg_2 d_M_againstLocksOf_22 ?_
  refine lv_iadd hx hb d_M_againstLocksOf_23 ?_
  obtain ⟨hg_3, hF⟩ := gd_inv hF
  refine va_iald hx hb hK hP 3 0 rfl rfl hg_3 d_M_againstLocksOf_24 ?_
  obtain ⟨r_4, hG, hF⟩ := ob1_inv hF
  refine kci K hP hD hS (c_M_againstTable l g cI cJ cZ ad mth mst mse mla mmo mrc mro mrt mrm mrl mrh mwk mwt mwm mwl mwh mwi mwc mwx mar mli mgr mgo mre mfr rest a1 a2 (mwt a1.toNatClampNeg) (mmo ((16 * a2) + (mwt a1.toNatClampNeg)).toNatClampNeg) r_4 hG) wm_804 wm_801 wm_803 wm_26 wm_50 hd_M_againstTable rfl rfl ⟨Nat.le_of_ble_eq_true rfl, Nat.le_of_ble_eq_true rfl⟩ ⟨Nat.zero_le _, Nat.zero_le _⟩ 3 0 rfl rfl rfl hl.1 (rest := []) rfl (Nat.le_of_ble_eq_true rfl) d_M_againstLocksOf_25 (fun H locs hP hD hS => ?_)
  refine lv_istore_n (lv' := [(3, .int r_4), (0, .ref (ad 0)), (1, .int a1), (2, .int a2)]) hx hb d_M_againstLocksOf_28 rfl hl (by decide) rfl (fun ls hl => ?_)
  refine lv_iconst (v := 0) hx hb d_M_againstLocksOf_29 (by decide) ?_
  refine lv_istore (lv' := [(4, .int 0), (3, .int r_4), (0, .ref (ad 0)), (1, .int a1), (2, .int a2)]) hx hb d_M_againstLocksOf_30 hl (by decide) rfl (fun ls hl => ?_)
  obtain ⟨v3_15, hG, hF⟩ := ob1_inv hF
  refine t_M_againstLocksOf_L32 K mth mst mse mla mmo mrc mro mrt mrm mrl mrh mwk mwt mwm mwl mwh mwi mwc mwx mar mli mgr mgo mre mfr a1 a2 fu _ _ _ H locs ls hG hP hD hS (lv_sub hl [2, 3, 4, 1, 0] rfl) (fun H locs ls hP hD hS hl => ?_)
  refine lv_iload_n hx hb d_M_againstLocksOf_105 rfl (lv_at hl 0 rfl) ?_
  obtain ⟨hz_16, hF⟩ := gd_inv hF
  cases hF
  exact krz K hP hD hS d_M_againstLocksOf_106 (nz_of hz_16) rfl
theorem c_M_againstLocksOf (l : Launch) (g : va_G) (cI cJ cZ : ClassId) (ad : Nat → Nat) (mth : Int32) (mst : Nat → Int32) (mse : Nat → Int32) (mla : Int32) (mmo : Nat → Int32) (mrc : Int32) (mro : Nat → Int32) (mrt : Nat → Int32) (mrm : Nat → Int32) (mrl : Nat → Int64) (mrh : Nat → Int64) (mwk : Nat → Int32) (mwt : Nat → Int32) (mwm : Nat → Int32) (mwl : Nat → Int64) (mwh : Nat → Int64) (mwi : Nat → Int32) (mwc : Nat → Int32) (mwx : Nat → Int32) (mar : Int32) (mli : Int32) (mgr : Int32) (mgo : Nat → Int32) (mre : Nat → Int32) (mfr : Int32) (rest : va_W) (a1 : Int32) (a2 : Int32) (r : Int32) (hF : F_M_againstLocksOf mmo mrc mro mrt mrm mrl mrh mwk mwt mwm mwl mwh a1 a2 = some r) : Ci l y_M_againstLocksOf prog_6_method_17_code 5 (some .boolean) ({ frames := 3, cells := 0, slots := 0, locals := 70 }) [.ref (ad 0), .int a1, .int a2] g (kty cI cJ cZ) (wM cI cJ cZ ad mth mst mse mla mmo mrc mro mrt mrm mrl mrh mwk mwt mwm mwl mwh mwi mwc mwx mar mli mgr mgo mre mfr rest) (wM cI cJ cZ ad mth mst mse mla mmo mrc mro mrt mrm mrl mrh mwk mwt mwm mwl mwh mwi mwc mwx mar mli mgr mgo mre mfr rest) r :=
  Ci.of (by decide) (Nat.le_of_ble_eq_true rfl) (fun p e s m below meth c A ls K hP hD hS hl => t_M_againstLocksOf K mth mst mse mla mmo mrc mro mrt mrm mrl mrh mwk mwt mwm mwl mwh mwi mwc mwx mar mli mgr mgo mre mfr a1 a2 r hF hP hD hS hl)
def F_M_isBefore (mwi : Nat → Int32) (mwc : Nat → Int32) (a1 : Int32) (a2 : Int32) : Option (Int32) :=
  gd (a1 < 0 ∨ 8 ≤ a1.toNatClampNeg) (gd (a2 < 0 ∨ 8 ≤ a2.toNatClampNeg) (if (mwi a1.toNatClampNeg) = (mwi a2.toNatClampNeg) then gd (a1 < 0 ∨ 8 ≤ a1.toNatClampNeg) (gd (a2 < 0 ∨ 8 ≤ a2.toNatClampNeg) (if (mwc a2.toNatClampNeg) ≤ (mwc a1.toNatClampNeg) then some 0 else some 1)) else gd (a1 < 0 ∨ 8 ≤ a1.toNatClampNeg) (gd (¬ vp_nar .boolean (mwi a1.toNatClampNeg) = (mwi a1.toNatClampNeg)) (some (mwi a1.toNatClampNeg)))))
set_option maxHeartbeats 4000000 in
set_option maxRecDepth 100000 in
theorem t_M_isBefore {p : Program} {l : Launch} {e : Env} {s : State} {m : MethodId} {args : Array Value} {below : List Frame} {meth : Method} {c : Code} {A : Nat → Prop} {g : va_G} {cI cJ cZ : ClassId} {ad : Nat → Nat} {rest : va_W} (K : kX p s m args meth c "LockTableModel" prog_6_method_18_code 3 (some .boolean) A g (kty cI cJ cZ)) (mth : Int32) (mst : Nat → Int32) (mse : Nat → Int32) (mla : Int32) (mmo : Nat → Int32) (mrc : Int32) (mro : Nat → Int32) (mrt : Nat → Int32) (mrm : Nat → Int32) (mrl : Nat → Int64) (mrh : Nat → Int64) (mwk : Nat → Int32) (mwt : Nat → Int32) (mwm : Nat → Int32) (mwl : Nat → Int64) (mwh : Nat → Int64) (mwi : Nat → Int32) (mwc : Nat → Int32) (mwx : Nat → Int32) (mar : Int32) (mli : Int32) (mgr : Int32) (mgo : Nat → Int32) (mre : Nat → Int32) (mfr : Int32) (a1 : Int32) (a2 : Int32) (r : Int32) (hF : F_M_isBefore mwi mwc a1 a2 = some r) {H : Heap} {locs : List Loc} {ls : Array Slot} (hP : va_P g kcl (wM cI cJ cZ ad mth mst mse mla mmo mrc mro mrt mrm mrl mrh mwk mwt mwm mwl mwh mwi mwc mwx mar mli mgr mgo mre mfr rest) H) (hD : va_D A (wM cI cJ cZ ad mth mst mse mla mmo mrc mro mrt mrm mrl mrh mwk mwt mwm mwl mwh mwi mwc mwx mar mli mgr mgo mre mfr rest)) (hS : va_S A s.heap H locs) (hl : lv_has ls 3 [(0, .ref (ad 0)), (1, .int a1), (2, .int a2)]) : W p l e ({ frames := 0, cells := 0, slots := 0, locals := 0 }) s m args below meth c H locs 0 0 (MQ below (kQi g (kty cI cJ cZ) (wM cI cJ cZ ad mth mst mse mla mmo mrc mro mrt mrm mrl mrh mwk mwt mwm mwl mwh mwi mwc mwx mar mli mgr mgo mre mfr rest) A r) args s 0 0 A) (F0 m 0 ls []) := by
  obtain ⟨hx, hb, hr, hml, hown, hts, hlocks, hK, hA, hE⟩ := id K
  unfold F_M_isBefore at hF
  refine lv_aload_n hx hb d_M_isBefore_0 rfl (lv_at hl 0 rfl) ?_
  refine va_get (D := g) (ci := 3) (v := .ref (ad 14)) (C := kR3) (T := kT3) (N := 25) hx hb hts kw3 hown hK hP 0 rfl rfl 16 (by decide) (hts _ wm_687) (fun _ h9 => h9) rfl d_M_isBefore_1 ?_
  refine lv_iload_n hx hb d_M_isBefore_4 rfl (lv_at hl 1 rfl) ?_
  obtain ⟨hg_1, hF⟩ := gd_inv hF
  refine va_zald hx hb hK hP 14 2 rfl rfl hg_1 d_M_isBefore_5 ?_
  refine lv_aload_n hx hb d_M_isBefore_6 rfl (lv_at hl 0 rfl) ?_
  refine va_get (D := g) (ci := 3) (v := .ref (ad 14)) (C := kR3) (T := kT3) (N := 25) hx hb hts kw3 hown hK hP 0 rfl rfl 16 (by decide) (hts _ wm_687) (fun _ h9 => h9) rfl d_M_isBefore_7 ?_
  refine lv_iload_n hx hb d_M_isBefore_10 rfl (lv_at hl 2 rfl) ?_
  obtain ⟨hg_2, hF⟩ := gd_inv hF
  refine va_zald hx hb hK hP 14 2 rfl rfl hg_2 d_M_isBefore_11 ?_
  refine lv_icmp_eq (tgt := 24) hx hb d_M_isBefore_12 (by decide) (fun hc_3 => ?_) (fun hc_3 => ?_)
  · have hF := it_t hF hc_3
    refine lv_aload_n hx hb d_M_isBefore_24 rfl (lv_at hl 0 rfl) ?_
    refine va_get (D := g) (ci := 3) (v := .ref (ad 15)) (C := kR3) (T := kT3) (N := 25) hx hb hts kw3 hown hK hP 0 rfl rfl 17 (by decide) (hts _ wm_688) (fun _ h9 => h9) rfl d_M_isBefore_25 ?_
    refine lv_iload_n hx hb d_M_isBefore_28 rfl (lv_at hl 1 rfl) ?_
    obtain ⟨hg_4, hF⟩ := gd_inv hF
    refine va_iald hx hb hK hP 15 0 rfl rfl hg_4 d_M_isBefore_29 ?_
    refine lv_aload_n hx hb d_M_isBefore_30 rfl (lv_at hl 0 rfl) ?_
    refine va_get (D := g) (ci := 3) (v := .ref (ad 15)) (C := kR3) (T := kT3) (N := 25) hx hb hts kw3 hown hK hP 0 rfl rfl 17 (by decide) (hts _ wm_688) (fun _ h9 => h9) rfl d_M_isBefore_31 ?_
    refine lv_iload_n hx hb d_M_isBefore_34 rfl (lv_at hl 2 rfl) ?_
    obtain ⟨hg_5, hF⟩ := gd_inv hF
    refine va_iald hx hb hK hP 15 0 rfl rfl hg_5 d_M_isBefore_35 ?_
    refine lv_icmp_ge (tgt := 43) hx hb d_M_isBefore_36 (by decide) (fun hc_6 => ?_) (fun hc_6 => ?_)
    · have hF := it_t hF hc_6
      refine lv_iconst (v := 0) hx hb d_M_isBefore_43 (by decide) ?_
      cases hF
      exact krz K hP hD hS d_M_isBefore_44 rfl rfl
    · have hF := it_f hF hc_6
      refine lv_iconst (v := 1) hx hb d_M_isBefore_39 (by decide) ?_
      refine lv_goto (tgt := 44) hx hb d_M_isBefore_40 (by decide) ?_
      cases hF
      exact krz K hP hD hS d_M_isBefore_44 rfl rfl
  · have hF := it_f hF hc_3
    refine lv_aload_n hx hb d_M_isBefore_15 rfl (lv_at hl 0 rfl) ?_
    refine va_get (D := g) (ci := 3) (v := .ref (ad 14)) (C := kR3) (T := kT3) (N := 25) hx hb hts kw3 hown hK hP 0 rfl rfl 16 (by decide) (hts _ wm_687) (fun _ h9 => h9) rfl d_M_isBefore_16 ?_
    refine lv_iload_n hx hb d_M_isBefore_19 rfl (lv_at hl 1 rfl) ?_
    obtain ⟨hg_7, hF⟩ := gd_inv hF
    refine va_zald hx hb hK hP 14 2 rfl rfl hg_7 d_M_isBefore_20 ?_
    refine lv_goto (tgt := 44) hx hb d_M_isBefore_21 (by decide) ?_
    obtain ⟨hz_8, hF⟩ := gd_inv hF
    cases hF
    exact krz K hP hD hS d_M_isBefore_44 (nz_of hz_8) rfl
theorem c_M_isBefore (l : Launch) (g : va_G) (cI cJ cZ : ClassId) (ad : Nat → Nat) (mth : Int32) (mst : Nat → Int32) (mse : Nat → Int32) (mla : Int32) (mmo : Nat → Int32) (mrc : Int32) (mro : Nat → Int32) (mrt : Nat → Int32) (mrm : Nat → Int32) (mrl : Nat → Int64) (mrh : Nat → Int64) (mwk : Nat → Int32) (mwt : Nat → Int32) (mwm : Nat → Int32) (mwl : Nat → Int64) (mwh : Nat → Int64) (mwi : Nat → Int32) (mwc : Nat → Int32) (mwx : Nat → Int32) (mar : Int32) (mli : Int32) (mgr : Int32) (mgo : Nat → Int32) (mre : Nat → Int32) (mfr : Int32) (rest : va_W) (a1 : Int32) (a2 : Int32) (r : Int32) (hF : F_M_isBefore mwi mwc a1 a2 = some r) : Ci l y_M_isBefore prog_6_method_18_code 3 (some .boolean) ({ frames := 0, cells := 0, slots := 0, locals := 0 }) [.ref (ad 0), .int a1, .int a2] g (kty cI cJ cZ) (wM cI cJ cZ ad mth mst mse mla mmo mrc mro mrt mrm mrl mrh mwk mwt mwm mwl mwh mwi mwc mwx mar mli mgr mgo mre mfr rest) (wM cI cJ cZ ad mth mst mse mla mmo mrc mro mrt mrm mrl mrh mwk mwt mwm mwl mwh mwi mwc mwx mar mli mgr mgo mre mfr rest) r :=
  Ci.of (by decide) (Nat.le_of_ble_eq_true rfl) (fun p e s m below meth c A ls K hP hD hS hl => t_M_isBefore K mth mst mse mla mmo mrc mro mrt mrm mrl mrh mwk mwt mwm mwl mwh mwi mwc mwx mar mli mgr mgo mre mfr a1 a2 r hF hP hD hS hl)
def F_M_againstRequestOf (mst : Nat → Int32) (mwk : Nat → Int32) (mwt : Nat → Int32) (mwm : Nat → Int32) (mwl : Nat → Int64) (mwh : Nat → Int64) (mwi : Nat → Int32) (mwc : Nat → Int32) (a1 : Int32) (a2 : Int32) : Option (Int32) :=
  gd (a2 < 0 ∨ 8 ≤ a2.toNatClampNeg) (if (mst a2.toNatClampNeg) = 2 then if a2 = a1 then some 0 else ob1 (F_M_isBefore mwi mwc a2 a1) (fun r_4 => if r_4 = 0 then some 0 else gd (a2 < 0 ∨ 8 ≤ a2.toNatClampNeg) (if (mwk a2.toNatClampNeg) = 1 then gd (a2 < 0 ∨ 8 ≤ a2.toNatClampNeg) (gd (a2 < 0 ∨ 8 ≤ a2.toNatClampNeg) (gd (a2 < 0 ∨ 8 ≤ a2.toNatClampNeg) (gd (a2 < 0 ∨ 8 ≤ a2.toNatClampNeg) (ob1 (F_M_againstRange mwk mwt mwm mwl mwh a1 a2 (mwt a2.toNatClampNeg) (mwm a2.toNatClampNeg) (mwl a2.toNatClampNeg) (mwh a2.toNatClampNeg)) (fun r_16 => gd (¬ vp_nar .boolean r_16 = r_16) (some r_16)))))) else gd (a2 < 0 ∨ 8 ≤ a2.toNatClampNeg) (gd (a2 < 0 ∨ 8 ≤ a2.toNatClampNeg) (ob1 (F_M_againstTable mwk mwt mwm a1 a2 (mwt a2.toNatClampNeg) (mwm a2.toNatClampNeg)) (fun r_10 => gd (¬ vp_nar .boolean r_10 = r_10) (some r_10)))))) else some 0)
set_option maxHeartbeats 4000000 in
set_option maxRecDepth 100000 in
theorem t_M_againstRequestOf {p : Program} {l : Launch} {e : Env} {s : State} {m : MethodId} {args : Array Value} {below : List Frame} {meth : Method} {c : Code} {A : Nat → Prop} {g : va_G} {cI cJ cZ : ClassId} {ad : Nat → Nat} {rest : va_W} (K : kX p s m args meth c "LockTableModel" prog_6_method_19_code 3 (some .boolean) A g (kty cI cJ cZ)) (mth : Int32) (mst : Nat → Int32) (mse : Nat → Int32) (mla : Int32) (mmo : Nat → Int32) (mrc : Int32) (mro : Nat → Int32) (mrt : Nat → Int32) (mrm : Nat → Int32) (mrl : Nat → Int64) (mrh : Nat → Int64) (mwk : Nat → Int32) (mwt : Nat → Int32) (mwm : Nat → Int32) (mwl : Nat → Int64) (mwh : Nat → Int64) (mwi : Nat → Int32) (mwc : Nat → Int32) (mwx : Nat → Int32) (mar : Int32) (mli : Int32) (mgr : Int32) (mgo : Nat → Int32) (mre : Nat → Int32) (mfr : Int32) (a1 : Int32) (a2 : Int32) (r : Int32) (hF : F_M_againstRequestOf mst mwk mwt mwm mwl mwh mwi mwc a1 a2 = some r) {H : Heap} {locs : List Loc} {ls : Array Slot} (hP : va_P g kcl (wM cI cJ cZ ad mth mst mse mla mmo mrc mro mrt mrm mrl mrh mwk mwt mwm mwl mwh mwi mwc mwx mar mli mgr mgo mre mfr rest) H) (hD : va_D A (wM cI cJ cZ ad mth mst mse mla mmo mrc mro mrt mrm mrl mrh mwk mwt mwm mwl mwh mwi mwc mwx mar mli mgr mgo mre mfr rest)) (hS : va_S A s.heap H locs) (hl : lv_has ls 3 [(0, .ref (ad 0)), (1, .int a1), (2, .int a2)]) : W p l e ({ frames := 3, cells := 0, slots := 0, locals := 70 }) s m args below meth c H locs 0 0 (MQ below (kQi g (kty cI cJ cZ) (wM cI cJ cZ ad mth mst mse mla mmo mrc mro mrt mrm mrl mrh mwk mwt mwm mwl mwh mwi mwc mwx mar mli mgr mgo mre mfr rest) A r) args s 0 0 A) (F0 m 0 ls []) := by
  obtain ⟨hx, hb, hr, hml, hown, hts, hlocks, hK, hA, hE⟩ := id K
  unfold F_M_againstRequestOf at hF
  refine lv_aload_n hx hb d_M_againstRequestOf_0 rfl (lv_at hl 0 rfl) ?_
  refine va_get (D := g) (ci := 3) (v := .ref (ad 1)) (C := kR3) (T := kT3) (N := 25) hx hb hts kw3 hown hK hP 0 rfl rfl 1 (by decide) (hts _ wm_672) (fun _ h9 => h9) rfl d_M_againstRequestOf_1 ?_
  refine lv_iload_n hx hb d_M_againstRequestOf_4 rfl (lv_at hl 2 rfl) ?_
  obtain ⟨hg_1, hF⟩ := gd_inv hF
  refine va_iald hx hb hK hP 1 0 rfl rfl hg_1 d_M_againstRequestOf_5 ?_
  refine lv_iconst (v := 2) hx hb d_M_againstRequestOf_6 (by decide) ?_
  refine lv_icmp_ne (tgt := 24) hx hb d_M_againstRequestOf_7 (by decide) (fun hc_2 => ?_) (fun hc_2 => ?_)
  · have hF := it_f hF hc_2
    refine lv_iconst (v := 0) hx hb d_M_againstRequestOf_24 (by decide) ?_
    cases hF
    exact krz K hP hD hS d_M_againstRequestOf_25 rfl rfl
  · have hF := it_t hF hc_2
    refine lv_iload_n hx hb d_M_againstRequestOf_10 rfl (lv_at hl 2 rfl) ?_
    refine lv_iload_n hx hb d_M_againstRequestOf_11 rfl (lv_at hl 1 rfl) ?_
    refine lv_icmp_eq (tgt := 24) hx hb d_M_againstRequestOf_12 (by decide) (fun hc_3 => ?_) (fun hc_3 => ?_)
    · have hF := it_t hF hc_3
      refine lv_iconst (v := 0) hx hb d_M_againstRequestOf_24 (by decide) ?_
      cases hF
      exact krz K hP hD hS d_M_againstRequestOf_25 rfl rfl
    · have hF := it_f hF hc_3
      refine lv_aload_n hx hb d_M_againstRequestOf_15 rfl (lv_at hl 0 rfl) ?_
      refine lv_iload_n hx hb d_M_againstRequestOf_16 rfl (lv_at hl 2 rfl) ?_
      refine lv_iload_n hx hb d_M_againstRequestOf_17 rfl (lv_at hl 1 rfl) ?_
      obtain ⟨r_4, hG, hF⟩ := ob1_inv hF
      refine kci K hP hD hS (c_M_isBefore l g cI cJ cZ ad mth mst mse mla mmo mrc mro mrt mrm mrl mrh mwk mwt mwm mwl mwh mwi mwc mwx mar mli mgr mgo mre mfr rest a2 a1 r_4 hG) wm_819 wm_816 wm_818 wm_29 wm_50 hd_M_isBefore rfl rfl ⟨Nat.le_of_ble_eq_true rfl, Nat.le_of_ble_eq_true rfl⟩ ⟨Nat.zero_le _, Nat.zero_le _⟩ 3 0 rfl rfl rfl hl.1 (rest := []) rfl (Nat.le_of_ble_eq_true rfl) d_M_againstRequestOf_18 (fun H locs hP hD hS => ?_)
      refine lv_if_ne (tgt := 26) hx hb d_M_againstRequestOf_21 (by decide) (fun hc_5 => ?_) (fun hc_5 => ?_)
      · have hF := it_f hF hc_5
        refine lv_aload_n hx hb d_M_againstRequestOf_26 rfl (lv_at hl 0 rfl) ?_
        refine va_get (D := g) (ci := 3) (v := .ref (ad 9)) (C := kR3) (T := kT3) (N := 25) hx hb hts kw3 hown hK hP 0 rfl rfl 11 (by decide) (hts _ wm_682) (fun _ h9 => h9) rfl d_M_againstRequestOf_27 ?_
        refine lv_iload_n hx hb d_M_againstRequestOf_30 rfl (lv_at hl 2 rfl) ?_
        obtain ⟨hg_6, hF⟩ := gd_inv hF
        refine va_iald hx hb hK hP 9 0 rfl rfl hg_6 d_M_againstRequestOf_31 ?_
        refine lv_iconst (v := 1) hx hb d_M_againstRequestOf_32 (by decide) ?_
        refine lv_icmp_ne (tgt := 67) hx hb d_M_againstRequestOf_33 (by decide) (fun hc_7 => ?_) (fun hc_7 => ?_)
        · have hF := it_f hF hc_7
          refine lv_aload_n hx hb d_M_againstRequestOf_67 rfl (lv_at hl 0 rfl) ?_
          refine lv_iload_n hx hb d_M_againstRequestOf_68 rfl (lv_at hl 1 rfl) ?_
          refine lv_iload_n hx hb d_M_againstRequestOf_69 rfl (lv_at hl 2 rfl) ?_
          refine lv_aload_n hx hb d_M_againstRequestOf_70 rfl (lv_at hl 0 rfl) ?_
          refine va_get (D := g) (ci := 3) (v := .ref (ad 10)) (C := kR3) (T := kT3) (N := 25) hx hb hts kw3 hown hK hP 0 rfl rfl 12 (by decide) (hts _ wm_683) (fun _ h9 => h9) rfl d_M_againstRequestOf_71 ?_
          refine lv_iload_n hx hb d_M_againstRequestOf_74 rfl (lv_at hl 2 rfl) ?_
          obtain ⟨hg_8, hF⟩ := gd_inv hF
          refine va_iald hx hb hK hP 10 0 rfl rfl hg_8 d_M_againstRequestOf_75 ?_
          refine lv_aload_n hx hb d_M_againstRequestOf_76 rfl (lv_at hl 0 rfl) ?_
          refine va_get (D := g) (ci := 3) (v := .ref (ad 11)) (C := kR3) (T := kT3) (N := 25) hx hb hts kw3 hown hK hP 0 rfl rfl 13 (by decide) (hts _ wm_684) (fun _ h9 => h9) rfl d_M_againstRequestOf_77 ?_
          refine lv_iload_n hx hb d_M_againstRequestOf_80 rfl (lv_at hl 2 rfl) ?_
          obtain ⟨hg_9, hF⟩ := gd_inv hF
          refine va_iald hx hb hK hP 11 0 rfl rfl hg_9 d_M_againstRequestOf_81 ?_
          obtain ⟨r_10, hG, hF⟩ := ob1_inv hF
          refine kci K hP hD hS (c_M_againstTable l g cI cJ cZ ad mth mst mse mla mmo mrc mro mrt mrm mrl mrh mwk mwt mwm mwl mwh mwi mwc mwx mar mli mgr mgo mre mfr rest a1 a2 (mwt a2.toNatClampNeg) (mwm a2.toNatClampNeg) r_10 hG) wm_804 wm_801 wm_803 wm_26 wm_50 hd_M_againstTable rfl rfl ⟨Nat.le_of_ble_eq_true rfl, Nat.le_of_ble_eq_true rfl⟩ ⟨Nat.zero_le _, Nat.zero_le _⟩ 3 0 rfl rfl rfl hl.1 (rest := []) rfl (Nat.le_of_ble_eq_true rfl) d_M_againstRequestOf_82 (fun H locs hP hD hS => ?_)
          obtain ⟨hz_11, hF⟩ := gd_inv hF
          cases hF
          exact krz K hP hD hS d_M_againstRequestOf_85 (nz_of hz_11) rfl
        · have hF := it_t hF hc_7
          refine lv_aload_n hx hb d_M_againstRequestOf_36 rfl (lv_at hl 0 rfl) ?_
          refine lv_iload_n hx hb d_M_againstRequestOf_37 rfl (lv_at hl 1 rfl) ?_
          refine lv_iload_n hx hb d_M_againstRequestOf_38 rfl (lv_at hl 2 rfl) ?_
          refine lv_aload_n hx hb d_M_againstRequestOf_39 rfl (lv_at hl 0 rfl) ?_
          refine va_get (D := g) (ci := 3) (v := .ref (ad 10)) (C := kR3) (T := kT3) (N := 25) hx hb hts kw3 hown hK hP 0 rfl rfl 12 (by decide) (hts _ wm_683) (fun _ h9 => h9) rfl d_M_againstRequestOf_40 ?_
          refine lv_iload_n hx hb d_M_againstRequestOf_43 rfl (lv_at hl 2 rfl) ?_
          obtain ⟨hg_12, hF⟩ := gd_inv hF
          refine va_iald hx hb hK hP 10 0 rfl rfl hg_12 d_M_againstRequestOf_44 ?_
          refine lv_aload_n hx hb d_M_againstRequestOf_45 rfl (lv_at hl 0 rfl) ?_
          refine va_get (D := g) (ci := 3) (v := .ref (ad 11)) (C := kR3) (T := kT3) (N := 25) hx hb hts kw3 hown hK hP 0 rfl rfl 13 (by decide) (hts _ wm_684) (fun _ h9 => h9) rfl d_M_againstRequestOf_46 ?_
          refine lv_iload_n hx hb d_M_againstRequestOf_49 rfl (lv_at hl 2 rfl) ?_
          obtain ⟨hg_13, hF⟩ := gd_inv hF
          refine va_iald hx hb hK hP 11 0 rfl rfl hg_13 d_M_againstRequestOf_50 ?_
          refine lv_aload_n hx hb d_M_againstRequestOf_51 rfl (lv_at hl 0 rfl) ?_
          refine va_get (D := g) (ci := 3) (v := .ref (ad 12)) (C := kR3) (T := kT3) (N := 25) hx hb hts kw3 hown hK hP 0 rfl rfl 14 (by decide) (hts _ wm_685) (fun _ h9 => h9) rfl d_M_againstRequestOf_52 ?_
          refine lv_iload_n hx hb d_M_againstRequestOf_55 rfl (lv_at hl 2 rfl) ?_
          obtain ⟨hg_14, hF⟩ := gd_inv hF
          refine va_lald hx hb hK hP 12 1 rfl rfl hg_14 d_M_againstRequestOf_56 ?_
          refine lv_aload_n hx hb d_M_againstRequestOf_57 rfl (lv_at hl 0 rfl) ?_
          refine va_get (D := g) (ci := 3) (v := .ref (ad 13)) (C := kR3) (T := kT3) (N := 25) hx hb hts kw3 hown hK hP 0 rfl rfl 15 (by decide) (hts _ wm_686) (fun _ h9 => h9) rfl d_M_againstRequestOf_58 ?_
          refine lv_iload_n hx hb d_M_againstRequestOf_61 rfl (lv_at hl 2 rfl) ?_
          obtain ⟨hg_15, hF⟩ := gd_inv hF
          refine va_lald hx hb hK hP 13 1 rfl rfl hg_15 d_M_againstRequestOf_62 ?_
          obtain ⟨r_16, hG, hF⟩ := ob1_inv hF
          refine kci K hP hD hS (c_M_againstRange l g cI cJ cZ ad mth mst mse mla mmo mrc mro mrt mrm mrl mrh mwk mwt mwm mwl mwh mwi mwc mwx mar mli mgr mgo mre mfr rest a1 a2 (mwt a2.toNatClampNeg) (mwm a2.toNatClampNeg) (mwl a2.toNatClampNeg) (mwh a2.toNatClampNeg) r_16 hG) wm_811 wm_808 wm_810 wm_27 wm_50 hd_M_againstRange rfl rfl ⟨Nat.le_of_ble_eq_true rfl, Nat.le_of_ble_eq_true rfl⟩ ⟨Nat.zero_le _, Nat.zero_le _⟩ 3 0 rfl rfl rfl hl.1 (rest := []) rfl (Nat.le_of_ble_eq_true rfl) d_M_againstRequestOf_63 (fun H locs hP hD hS => ?_)
          obtain ⟨hz_17, hF⟩ := gd_inv hF
          cases hF
          exact krz K hP hD hS d_M_againstRequestOf_66 (nz_of hz_17) rfl
      · have hF := it_t hF hc_5
        refine lv_iconst (v := 0) hx hb d_M_againstRequestOf_24 (by decide) ?_
        cases hF
        exact krz K hP hD hS d_M_againstRequestOf_25 rfl rfl
theorem c_M_againstRequestOf (l : Launch) (g : va_G) (cI cJ cZ : ClassId) (ad : Nat → Nat) (mth : Int32) (mst : Nat → Int32) (mse : Nat → Int32) (mla : Int32) (mmo : Nat → Int32) (mrc : Int32) (mro : Nat → Int32) (mrt : Nat → Int32) (mrm : Nat → Int32) (mrl : Nat → Int64) (mrh : Nat → Int64) (mwk : Nat → Int32) (mwt : Nat → Int32) (mwm : Nat → Int32) (mwl : Nat → Int64) (mwh : Nat → Int64) (mwi : Nat → Int32) (mwc : Nat → Int32) (mwx : Nat → Int32) (mar : Int32) (mli : Int32) (mgr : Int32) (mgo : Nat → Int32) (mre : Nat → Int32) (mfr : Int32) (rest : va_W) (a1 : Int32) (a2 : Int32) (r : Int32) (hF : F_M_againstRequestOf mst mwk mwt mwm mwl mwh mwi mwc a1 a2 = some r) : Ci l y_M_againstRequestOf prog_6_method_19_code 3 (some .boolean) ({ frames := 3, cells := 0, slots := 0, locals := 70 }) [.ref (ad 0), .int a1, .int a2] g (kty cI cJ cZ) (wM cI cJ cZ ad mth mst mse mla mmo mrc mro mrt mrm mrl mrh mwk mwt mwm mwl mwh mwi mwc mwx mar mli mgr mgo mre mfr rest) (wM cI cJ cZ ad mth mst mse mla mmo mrc mro mrt mrm mrl mrh mwk mwt mwm mwl mwh mwi mwc mwx mar mli mgr mgo mre mfr rest) r :=
  Ci.of (by decide) (Nat.le_of_ble_eq_true rfl) (fun p e s m below meth c A ls K hP hD hS hl => t_M_againstRequestOf K mth mst mse mla mmo mrc mro mrt mrm mrl mrh mwk mwt mwm mwl mwh mwi mwc mwx mar mli mgr mgo mre mfr a1 a2 r hF hP hD hS hl)
def F_M_behindOf_L4 (mst : Nat → Int32) (mmo : Nat → Int32) (mrc : Int32) (mro : Nat → Int32) (mrt : Nat → Int32) (mrm : Nat → Int32) (mrl : Nat → Int64) (mrh : Nat → Int64) (mwk : Nat → Int32) (mwt : Nat → Int32) (mwm : Nat → Int32) (mwl : Nat → Int64) (mwh : Nat → Int64) (mwi : Nat → Int32) (mwc : Nat → Int32) (v1 : Int32) : Nat → Int32 → Int32 → Option (Int32)
  | 0, _, _ => none
  | n + 1, v2, v3 => if 8 ≤ v3 then some v2 else gd (v1 < 0 ∨ 8 ≤ v1.toNatClampNeg) (if (mst v1.toNatClampNeg) = 2 then if v3 = v1 then F_M_behindOf_L4 mst mmo mrc mro mrt mrm mrl mrh mwk mwt mwm mwl mwh mwi mwc v1 n v2 (v3 + 1) else ob1 (F_M_againstLocksOf mmo mrc mro mrt mrm mrl mrh mwk mwt mwm mwl mwh v1 v3) (fun r_5 => jn0 (F_M_behindOf_L4 mst mmo mrc mro mrt mrm mrl mrh mwk mwt mwm mwl mwh mwi mwc v1 n (v2 ||| (1 <<< (v3 &&& 31))) (v3 + 1)) (fun J43 => if r_5 = 0 then ob1 (F_M_againstRequestOf mst mwk mwt mwm mwl mwh mwi mwc v1 v3) (fun r_7 => if r_7 = 0 then F_M_behindOf_L4 mst mmo mrc mro mrt mrm mrl mrh mwk mwt mwm mwl mwh mwi mwc v1 n v2 (v3 + 1) else J43 ) else J43 )) else some v2)
def F_M_behindOf (mst : Nat → Int32) (mmo : Nat → Int32) (mrc : Int32) (mro : Nat → Int32) (mrt : Nat → Int32) (mrm : Nat → Int32) (mrl : Nat → Int64) (mrh : Nat → Int64) (mwk : Nat → Int32) (mwt : Nat → Int32) (mwm : Nat → Int32) (mwl : Nat → Int64) (mwh : Nat → Int64) (mwi : Nat → Int32) (mwc : Nat → Int32) (a1 : Int32) : Option (Int32) :=
  ob1 (F_M_behindOf_L4 mst mmo mrc mro mrt mrm mrl mrh mwk mwt mwm mwl mwh mwi mwc a1 fu 0 0) (fun v2_9 => some v2_9)
set_option maxHeartbeats 4000000 in
set_option maxRecDepth 100000 in
theorem t_M_behindOf_L4 {p : Program} {l : Launch} {e : Env} {s : State} {m : MethodId} {args : Array Value} {below : List Frame} {meth : Method} {c : Code} {A : Nat → Prop} {g : va_G} {cI cJ cZ : ClassId} {ad : Nat → Nat} {rest : va_W} (K : kX p s m args meth c "LockTableModel" prog_6_method_20_code 4 (some .int) A g (kty cI cJ cZ)) {Q : State → Prop} (mth : Int32) (mst : Nat → Int32) (mse : Nat → Int32) (mla : Int32) (mmo : Nat → Int32) (mrc : Int32) (mro : Nat → Int32) (mrt : Nat → Int32) (mrm : Nat → Int32) (mrl : Nat → Int64) (mrh : Nat → Int64) (mwk : Nat → Int32) (mwt : Nat → Int32) (mwm : Nat → Int32) (mwl : Nat → Int64) (mwh : Nat → Int64) (mwi : Nat → Int32) (mwc : Nat → Int32) (mwx : Nat → Int32) (mar : Int32) (mli : Int32) (mgr : Int32) (mgo : Nat → Int32) (mre : Nat → Int32) (mfr : Int32) (v1 : Int32) : ∀ (n : Nat) (v2 : Int32) (v3 : Int32) (o_v2 : Int32) (H : Heap) (locs : List Loc) (ls : Array Slot), F_M_behindOf_L4 mst mmo mrc mro mrt mrm mrl mrh mwk mwt mwm mwl mwh mwi mwc v1 n v2 v3 = some o_v2 → va_P g kcl (wM cI cJ cZ ad mth mst mse mla mmo mrc mro mrt mrm mrl mrh mwk mwt mwm mwl mwh mwi mwc mwx mar mli mgr mgo mre mfr rest) H → va_D A (wM cI cJ cZ ad mth mst mse mla mmo mrc mro mrt mrm mrl mrh mwk mwt mwm mwl mwh mwi mwc mwx mar mli mgr mgo mre mfr rest) → va_S A s.heap H locs → lv_has ls 4 [(0, .ref (ad 0)), (1, .int v1), (2, .int v2), (3, .int v3)] → (∀ (H : Heap) (locs : List Loc) (ls : Array Slot), va_P g kcl (wM cI cJ cZ ad mth mst mse mla mmo mrc mro mrt mrm mrl mrh mwk mwt mwm mwl mwh mwi mwc mwx mar mli mgr mgo mre mfr rest) H → va_D A (wM cI cJ cZ ad mth mst mse mla mmo mrc mro mrt mrm mrl mrh mwk mwt mwm mwl mwh mwi mwc mwx mar mli mgr mgo mre mfr rest) → va_S A s.heap H locs → lv_has ls 4 [(2, .int o_v2)] → W p l e ({ frames := 4, cells := 0, slots := 0, locals := 94 }) s m args below meth c H locs 0 0 Q (F0 m 59 ls [])) → W p l e ({ frames := 4, cells := 0, slots := 0, locals := 94 }) s m args below meth c H locs 0 0 Q (F0 m 4 ls []) := by
  obtain ⟨hx, hb, hr, hml, hown, hts, hlocks, hK, hA, hE⟩ := id K
  intro n
  induction n with
  | zero =>
    intro v2 v3 o_v2 H locs ls hF
    rw [F_M_behindOf_L4] at hF
    cases hF
  | succ n ih =>
    intro v2 v3 o_v2 H locs ls hF hP hD hS hl hQ
    rw [F_M_behindOf_L4] at hF
    refine lv_iload_n hx hb d_M_behindOf_4 rfl (lv_at hl 3 rfl) ?_
    refine lv_bipush (v := 8) hx hb d_M_behindOf_5 (by decide) ?_
    refine lv_icmp_ge (tgt := 59) hx hb d_M_behindOf_7 (by decide) (fun hc_1 => ?_) (fun hc_1 => ?_)
    · have hF := it_t hF hc_1
      cases hF
      exact hQ H locs ls hP hD hS (lv_sub hl [2] rfl)
    · have hF := it_f hF hc_1
      refine lv_aload_n hx hb d_M_behindOf_10 rfl (lv_at hl 0 rfl) ?_
      refine va_get (D := g) (ci := 3) (v := .ref (ad 1)) (C := kR3) (T := kT3) (N := 25) hx hb hts kw3 hown hK hP 0 rfl rfl 1 (by decide) (hts _ wm_672) (fun _ h9 => h9) rfl d_M_behindOf_11 ?_
      refine lv_iload_n hx hb d_M_behindOf_14 rfl (lv_at hl 1 rfl) ?_
      obtain ⟨hg_2, hF⟩ := gd_inv hF
      refine va_iald hx hb hK hP 1 0 rfl rfl hg_2 d_M_behindOf_15 ?_
      refine lv_iconst (v := 2) hx hb d_M_behindOf_16 (by decide) ?_
      refine lv_icmp_ne (tgt := 59) hx hb d_M_behindOf_17 (by decide) (fun hc_3 => ?_) (fun hc_3 => ?_)
      · have hF := it_f hF hc_3
        cases hF
        exact hQ H locs ls hP hD hS (lv_sub hl [2] rfl)
      · have hF := it_t hF hc_3
        refine lv_iload_n hx hb d_M_behindOf_20 rfl (lv_at hl 3 rfl) ?_
        refine lv_iload_n hx hb d_M_behindOf_21 rfl (lv_at hl 1 rfl) ?_
        refine lv_icmp_eq (tgt := 51) hx hb d_M_behindOf_22 (by decide) (fun hc_4 => ?_) (fun hc_4 => ?_)
        · have hF := it_t hF hc_4
          refine lv_iload_n hx hb d_M_behindOf_51 rfl (lv_at hl 2 rfl) ?_
          refine lv_istore_n (lv' := [(2, .int v2), (0, .ref (ad 0)), (1, .int v1), (3, .int v3)]) hx hb d_M_behindOf_52 rfl hl (by decide) rfl (fun ls hl => ?_)
          refine lv_iinc (v := v3 + 1) (lv' := [(3, .int (v3 + 1)), (2, .int v2), (0, .ref (ad 0)), (1, .int v1)]) hx hb d_M_behindOf_53 hl (k := 3) rfl rfl (by decide) rfl (fun ls hl => ?_)
          refine lv_goto (tgt := 4) hx hb d_M_behindOf_56 (by decide) ?_
          exact ih _ _ _ H locs ls hF hP hD hS (lv_sub hl [2, 3, 1, 0] rfl) hQ
        · have hF := it_f hF hc_4
          refine lv_aload_n hx hb d_M_behindOf_25 rfl (lv_at hl 0 rfl) ?_
          refine lv_iload_n hx hb d_M_behindOf_26 rfl (lv_at hl 1 rfl) ?_
          refine lv_iload_n hx hb d_M_behindOf_27 rfl (lv_at hl 3 rfl) ?_
          obtain ⟨r_5, hG, hF⟩ := ob1_inv hF
          refine kci K hP hD hS (c_M_againstLocksOf l g cI cJ cZ ad mth mst mse mla mmo mrc mro mrt mrm mrl mrh mwk mwt mwm mwl mwh mwi mwc mwx mar mli mgr mgo mre mfr rest v1 v3 r_5 hG) wm_800 wm_797 wm_799 wm_25 wm_50 hd_M_againstLocksOf rfl rfl ⟨Nat.le_of_ble_eq_true rfl, Nat.le_of_ble_eq_true rfl⟩ ⟨Nat.zero_le _, Nat.zero_le _⟩ 3 0 rfl rfl rfl hl.1 (rest := []) rfl (Nat.le_of_ble_eq_true rfl) d_M_behindOf_28 (fun H locs hP hD hS => ?_)
          obtain ⟨J43, eJ43, hF⟩ := jn0_inv hF
          have hJ43 : ∀  (H : Heap) (locs : List Loc) (ls : Array Slot), J43  = some o_v2 → va_P g kcl (wM cI cJ cZ ad mth mst mse mla mmo mrc mro mrt mrm mrl mrh mwk mwt mwm mwl mwh mwi mwc mwx mar mli mgr mgo mre mfr rest) H → va_D A (wM cI cJ cZ ad mth mst mse mla mmo mrc mro mrt mrm mrl mrh mwk mwt mwm mwl mwh mwi mwc mwx mar mli mgr mgo mre mfr rest) → va_S A s.heap H locs → lv_has ls 4 [(0, .ref (ad 0)), (1, .int v1), (2, .int v2), (3, .int v3)] → W p l e ({ frames := 4, cells := 0, slots := 0, locals := 94 }) s m args below meth c H locs 0 0 Q (F0 m 43 ls []) := by
            intro  H locs ls hF hP hD hS hl
            rw [eJ43] at hF
            refine lv_iload_n hx hb d_M_behindOf_43 rfl (lv_at hl 2 rfl) ?_
            refine lv_iconst (v := 1) hx hb d_M_behindOf_44 (by decide) ?_
            refine lv_iload_n hx hb d_M_behindOf_45 rfl (lv_at hl 3 rfl) ?_
            refine lv_ishl hx hb d_M_behindOf_46 ?_
            refine lv_ior hx hb d_M_behindOf_47 ?_
            refine lv_goto (tgt := 52) hx hb d_M_behindOf_48 (by decide) ?_
            refine lv_istore_n (lv' := [(2, .int (v2 ||| (1 <<< (v3 &&& 31)))), (0, .ref (ad 0)), (1, .int v1), (3, .int v3)]) hx hb d_M_behindOf_52 rfl hl (by decide) rfl (fun ls hl => ?_)
            refine lv_iinc (v := v3 + 1) (lv' := [(3, .int (v3 + 1)), (2, .int (v2 ||| (1 <<< (v3 &&& 31)))), (0, .ref (ad 0)), (1, .int v1)]) hx hb d_M_behindOf_53 hl (k := 3) rfl rfl (by decide) rfl (fun ls hl => ?_)
            refine lv_goto (tgt := 4) hx hb d_M_behindOf_56 (by decide) ?_
            exact ih _ _ _ H locs ls hF hP hD hS (lv_sub hl [2, 3, 1, 0] rfl) hQ
          refine lv_if_ne (tgt := 43) hx hb d_M_behindOf_31 (by decide) (fun hc_6 => ?_) (fun hc_6 => ?_)
          · have hF := it_f hF hc_6
            exact hJ43  H locs ls hF hP hD hS (lv_sub hl [0, 1, 2, 3] rfl)
          · have hF := it_t hF hc_6
            refine lv_aload_n hx hb d_M_behindOf_34 rfl (lv_at hl 0 rfl) ?_
            refine lv_iload_n hx hb d_M_behindOf_35 rfl (lv_at hl 1 rfl) ?_
            refine lv_iload_n hx hb d_M_behindOf_36 rfl (lv_at hl 3 rfl) ?_
            obtain ⟨r_7, hG, hF⟩ := ob1_inv hF
            refine kci K hP hD hS (c_M_againstRequestOf l g cI cJ cZ ad mth mst mse mla mmo mrc mro mrt mrm mrl mrh mwk mwt mwm mwl mwh mwi mwc mwx mar mli mgr mgo mre mfr rest v1 v3 r_7 hG) wm_815 wm_812 wm_814 wm_28 wm_50 hd_M_againstRequestOf rfl rfl ⟨Nat.le_of_ble_eq_true rfl, Nat.le_of_ble_eq_true rfl⟩ ⟨Nat.zero_le _, Nat.zero_le _⟩ 3 0 rfl rfl rfl hl.1 (rest := []) rfl (Nat.le_of_ble_eq_true rfl) d_M_behindOf_37 (fun H locs hP hD hS => ?_)
            refine lv_if_eq (tgt := 51) hx hb d_M_behindOf_40 (by decide) (fun hc_8 => ?_) (fun hc_8 => ?_)
            · have hF := it_t hF hc_8
              refine lv_iload_n hx hb d_M_behindOf_51 rfl (lv_at hl 2 rfl) ?_
              refine lv_istore_n (lv' := [(2, .int v2), (0, .ref (ad 0)), (1, .int v1), (3, .int v3)]) hx hb d_M_behindOf_52 rfl hl (by decide) rfl (fun ls hl => ?_)
              refine lv_iinc (v := v3 + 1) (lv' := [(3, .int (v3 + 1)), (2, .int v2), (0, .ref (ad 0)), (1, .int v1)]) hx hb d_M_behindOf_53 hl (k := 3) rfl rfl (by decide) rfl (fun ls hl => ?_)
              refine lv_goto (tgt := 4) hx hb d_M_behindOf_56 (by decide) ?_
              exact ih _ _ _ H locs ls hF hP hD hS (lv_sub hl [2, 3, 1, 0] rfl) hQ
            · have hF := it_f hF hc_8
              exact hJ43  H locs ls hF hP hD hS (lv_sub hl [0, 1, 2, 3] rfl)
set_option maxHeartbeats 4000000 in
set_option maxRecDepth 100000 in
theorem t_M_behindOf {p : Program} {l : Launch} {e : Env} {s : State} {m : MethodId} {args : Array Value} {below : List Frame} {meth : Method} {c : Code} {A : Nat → Prop} {g : va_G} {cI cJ cZ : ClassId} {ad : Nat → Nat} {rest : va_W} (K : kX p s m args meth c "LockTableModel" prog_6_method_20_code 4 (some .int) A g (kty cI cJ cZ)) (mth : Int32) (mst : Nat → Int32) (mse : Nat → Int32) (mla : Int32) (mmo : Nat → Int32) (mrc : Int32) (mro : Nat → Int32) (mrt : Nat → Int32) (mrm : Nat → Int32) (mrl : Nat → Int64) (mrh : Nat → Int64) (mwk : Nat → Int32) (mwt : Nat → Int32) (mwm : Nat → Int32) (mwl : Nat → Int64) (mwh : Nat → Int64) (mwi : Nat → Int32) (mwc : Nat → Int32) (mwx : Nat → Int32) (mar : Int32) (mli : Int32) (mgr : Int32) (mgo : Nat → Int32) (mre : Nat → Int32) (mfr : Int32) (a1 : Int32) (r : Int32) (hF : F_M_behindOf mst mmo mrc mro mrt mrm mrl mrh mwk mwt mwm mwl mwh mwi mwc a1 = some r) {H : Heap} {locs : List Loc} {ls : Array Slot} (hP : va_P g kcl (wM cI cJ cZ ad mth mst mse mla mmo mrc mro mrt mrm mrl mrh mwk mwt mwm mwl mwh mwi mwc mwx mar mli mgr mgo mre mfr rest) H) (hD : va_D A (wM cI cJ cZ ad mth mst mse mla mmo mrc mro mrt mrm mrl mrh mwk mwt mwm mwl mwh mwi mwc mwx mar mli mgr mgo mre mfr rest)) (hS : va_S A s.heap H locs) (hl : lv_has ls 4 [(0, .ref (ad 0)), (1, .int a1)]) : W p l e ({ frames := 4, cells := 0, slots := 0, locals := 94 }) s m args below meth c H locs 0 0 (MQ below (kQi g (kty cI cJ cZ) (wM cI cJ cZ ad mth mst mse mla mmo mrc mro mrt mrm mrl mrh mwk mwt mwm mwl mwh mwi mwc mwx mar mli mgr mgo mre mfr rest) A r) args s 0 0 A) (F0 m 0 ls []) := by
  obtain ⟨hx, hb, hr, hml, hown, hts, hlocks, hK, hA, hE⟩ := id K
  unfold F_M_behindOf at hF
  refine lv_iconst (v := 0) hx hb d_M_behindOf_0 (by decide) ?_
  refine lv_istore_n (lv' := [(2, .int 0), (0, .ref (ad 0)), (1, .int a1)]) hx hb d_M_behindOf_1 rfl hl (by decide) rfl (fun ls hl => ?_)
  refine lv_iconst (v := 0) hx hb d_M_behindOf_2 (by decide) ?_
  refine lv_istore_n (lv' := [(3, .int 0), (2, .int 0), (0, .ref (ad 0)), (1, .int a1)]) hx hb d_M_behindOf_3 rfl hl (by decide) rfl (fun ls hl => ?_)
  obtain ⟨v2_9, hG, hF⟩ := ob1_inv hF
  refine t_M_behindOf_L4 K mth mst mse mla mmo mrc mro mrt mrm mrl mrh mwk mwt mwm mwl mwh mwi mwc mwx mar mli mgr mgo mre mfr a1 fu _ _ _ H locs ls hG hP hD hS (lv_sub hl [2, 3, 1, 0] rfl) (fun H locs ls hP hD hS hl => ?_)
  refine lv_iload_n hx hb d_M_behindOf_59 rfl (lv_at hl 0 rfl) ?_
  cases hF
  exact kri K hP hD hS d_M_behindOf_60 rfl
theorem c_M_behindOf (l : Launch) (g : va_G) (cI cJ cZ : ClassId) (ad : Nat → Nat) (mth : Int32) (mst : Nat → Int32) (mse : Nat → Int32) (mla : Int32) (mmo : Nat → Int32) (mrc : Int32) (mro : Nat → Int32) (mrt : Nat → Int32) (mrm : Nat → Int32) (mrl : Nat → Int64) (mrh : Nat → Int64) (mwk : Nat → Int32) (mwt : Nat → Int32) (mwm : Nat → Int32) (mwl : Nat → Int64) (mwh : Nat → Int64) (mwi : Nat → Int32) (mwc : Nat → Int32) (mwx : Nat → Int32) (mar : Int32) (mli : Int32) (mgr : Int32) (mgo : Nat → Int32) (mre : Nat → Int32) (mfr : Int32) (rest : va_W) (a1 : Int32) (r : Int32) (hF : F_M_behindOf mst mmo mrc mro mrt mrm mrl mrh mwk mwt mwm mwl mwh mwi mwc a1 = some r) : Ci l y_M_behindOf prog_6_method_20_code 4 (some .int) ({ frames := 4, cells := 0, slots := 0, locals := 94 }) [.ref (ad 0), .int a1] g (kty cI cJ cZ) (wM cI cJ cZ ad mth mst mse mla mmo mrc mro mrt mrm mrl mrh mwk mwt mwm mwl mwh mwi mwc mwx mar mli mgr mgo mre mfr rest) (wM cI cJ cZ ad mth mst mse mla mmo mrc mro mrt mrm mrl mrh mwk mwt mwm mwl mwh mwi mwc mwx mar mli mgr mgo mre mfr rest) r :=
  Ci.of (by decide) (Nat.le_of_ble_eq_true rfl) (fun p e s m below meth c A ls K hP hD hS hl => t_M_behindOf K mth mst mse mla mmo mrc mro mrt mrm mrl mrh mwk mwt mwm mwl mwh mwi mwc mwx mar mli mgr mgo mre mfr a1 r hF hP hD hS hl)
def F_M_dropRange (mrc : Int32) (mro : Nat → Int32) (mrt : Nat → Int32) (mrm : Nat → Int32) (mrl : Nat → Int64) (mrh : Nat → Int64) (a1 : Int32) : Option (Int32 × (Nat → Int32) × (Nat → Int32) × (Nat → Int32) × (Nat → Int64) × (Nat → Int64)) :=
  gd ((mrc - 1) < 0 ∨ 256 ≤ (mrc - 1).toNatClampNeg) (gd (a1 < 0 ∨ 256 ≤ a1.toNatClampNeg) (gd ((mrc - 1) < 0 ∨ 256 ≤ (mrc - 1).toNatClampNeg) (gd (a1 < 0 ∨ 256 ≤ a1.toNatClampNeg) (gd ((mrc - 1) < 0 ∨ 256 ≤ (mrc - 1).toNatClampNeg) (gd (a1 < 0 ∨ 256 ≤ a1.toNatClampNeg) (gd ((mrc - 1) < 0 ∨ 256 ≤ (mrc - 1).toNatClampNeg) (gd (a1 < 0 ∨ 256 ≤ a1.toNatClampNeg) (gd ((mrc - 1) < 0 ∨ 256 ≤ (mrc - 1).toNatClampNeg) (gd (a1 < 0 ∨ 256 ≤ a1.toNatClampNeg) (some (mrc - 1, upd mro a1.toNatClampNeg (mro (mrc - 1).toNatClampNeg), upd mrt a1.toNatClampNeg (mrt (mrc - 1).toNatClampNeg), upd mrm a1.toNatClampNeg (mrm (mrc - 1).toNatClampNeg), vp_updL mrl a1.toNatClampNeg (mrl (mrc - 1).toNatClampNeg), vp_updL mrh a1.toNatClampNeg (mrh (mrc - 1).toNatClampNeg))))))))))))
set_option maxHeartbeats 4000000 in
set_option maxRecDepth 100000 in
theorem t_M_dropRange {p : Program} {l : Launch} {e : Env} {s : State} {m : MethodId} {args : Array Value} {below : List Frame} {meth : Method} {c : Code} {A : Nat → Prop} {g : va_G} {cI cJ cZ : ClassId} {ad : Nat → Nat} {rest : va_W} (K : kX p s m args meth c "LockTableModel" prog_6_method_21_code 2 none A g (kty cI cJ cZ)) (mth : Int32) (mst : Nat → Int32) (mse : Nat → Int32) (mla : Int32) (mmo : Nat → Int32) (mrc : Int32) (mro : Nat → Int32) (mrt : Nat → Int32) (mrm : Nat → Int32) (mrl : Nat → Int64) (mrh : Nat → Int64) (mwk : Nat → Int32) (mwt : Nat → Int32) (mwm : Nat → Int32) (mwl : Nat → Int64) (mwh : Nat → Int64) (mwi : Nat → Int32) (mwc : Nat → Int32) (mwx : Nat → Int32) (mar : Int32) (mli : Int32) (mgr : Int32) (mgo : Nat → Int32) (mre : Nat → Int32) (mfr : Int32) (a1 : Int32) (o_mrc : Int32) (o_mro : Nat → Int32) (o_mrt : Nat → Int32) (o_mrm : Nat → Int32) (o_mrl : Nat → Int64) (o_mrh : Nat → Int64) (hF : F_M_dropRange mrc mro mrt mrm mrl mrh a1 = some (o_mrc, o_mro, o_mrt, o_mrm, o_mrl, o_mrh)) {H : Heap} {locs : List Loc} {ls : Array Slot} (hP : va_P g kcl (wM cI cJ cZ ad mth mst mse mla mmo mrc mro mrt mrm mrl mrh mwk mwt mwm mwl mwh mwi mwc mwx mar mli mgr mgo mre mfr rest) H) (hD : va_D A (wM cI cJ cZ ad mth mst mse mla mmo mrc mro mrt mrm mrl mrh mwk mwt mwm mwl mwh mwi mwc mwx mar mli mgr mgo mre mfr rest)) (hS : va_S A s.heap H locs) (hl : lv_has ls 2 [(0, .ref (ad 0)), (1, .int a1)]) : W p l e ({ frames := 0, cells := 0, slots := 0, locals := 0 }) s m args below meth c H locs 0 0 (MQ below (kQv g (kty cI cJ cZ) (wM cI cJ cZ ad mth mst mse mla mmo o_mrc o_mro o_mrt o_mrm o_mrl o_mrh mwk mwt mwm mwl mwh mwi mwc mwx mar mli mgr mgo mre mfr rest) A) args s 0 0 A) (F0 m 0 ls []) := by
  obtain ⟨hx, hb, hr, hml, hown, hts, hlocks, hK, hA, hE⟩ := id K
  unfold F_M_dropRange at hF
  refine lv_aload_n hx hb d_M_dropRange_0 rfl (lv_at hl 0 rfl) ?_
  refine lv_dup hx hb d_M_dropRange_1 rfl ?_
  refine va_get (D := g) (ci := 3) (v := .int mrc) (C := kR3) (T := kT3) (N := 25) hx hb hts kw3 hown hK hP 0 rfl rfl 5 (by decide) (hts _ wm_676) (fun _ h9 => h9) rfl d_M_dropRange_2 ?_
  refine lv_iconst (v := 1) hx hb d_M_dropRange_5 (by decide) ?_
  refine lv_isub hx hb d_M_dropRange_6 ?_
  refine va_put (D := g) (ci := 3) (v := .int (mrc - 1)) (ty := .int) (C := kR3) (T := kT3) (N := 25) hx hb hts kw3 kt3 ko3 kn3 hown hK hP hD hS 0 rfl rfl 5 (by decide) (hts _ wm_676) (fun _ h9 => h9) rfl (by decide +kernel) rfl rfl (Nat.le_of_ble_eq_true rfl) d_M_dropRange_7 (fun H locs hP hD hS => ?_)
  have hP : va_P g kcl (wM cI cJ cZ ad mth mst mse mla mmo (mrc - 1) mro mrt mrm mrl mrh mwk mwt mwm mwl mwh mwi mwc mwx mar mli mgr mgo mre mfr rest) H := hP
  have hD : va_D A (wM cI cJ cZ ad mth mst mse mla mmo (mrc - 1) mro mrt mrm mrl mrh mwk mwt mwm mwl mwh mwi mwc mwx mar mli mgr mgo mre mfr rest) := hD
  refine lv_aload_n hx hb d_M_dropRange_10 rfl (lv_at hl 0 rfl) ?_
  refine va_get (D := g) (ci := 3) (v := .ref (ad 4)) (C := kR3) (T := kT3) (N := 25) hx hb hts kw3 hown hK hP 0 rfl rfl 6 (by decide) (hts _ wm_677) (fun _ h9 => h9) rfl d_M_dropRange_11 ?_
  refine lv_iload_n hx hb d_M_dropRange_14 rfl (lv_at hl 1 rfl) ?_
  refine lv_aload_n hx hb d_M_dropRange_15 rfl (lv_at hl 0 rfl) ?_
  refine va_get (D := g) (ci := 3) (v := .ref (ad 4)) (C := kR3) (T := kT3) (N := 25) hx hb hts kw3 hown hK hP 0 rfl rfl 6 (by decide) (hts _ wm_677) (fun _ h9 => h9) rfl d_M_dropRange_16 ?_
  refine lv_aload_n hx hb d_M_dropRange_19 rfl (lv_at hl 0 rfl) ?_
  refine va_get (D := g) (ci := 3) (v := .int (mrc - 1)) (C := kR3) (T := kT3) (N := 25) hx hb hts kw3 hown hK hP 0 rfl rfl 5 (by decide) (hts _ wm_676) (fun _ h9 => h9) rfl d_M_dropRange_20 ?_
  obtain ⟨hg_1, hF⟩ := gd_inv hF
  refine va_iald hx hb hK hP 4 0 rfl rfl hg_1 d_M_dropRange_23 ?_
  obtain ⟨hg_2, hF⟩ := gd_inv hF
  refine va_iast hx hb hK hP hD hS 4 0 rfl rfl hg_2 d_M_dropRange_24 (fun H locs hP hD hS => ?_)
  have hP : va_P g kcl (wM cI cJ cZ ad mth mst mse mla mmo (mrc - 1) (upd mro a1.toNatClampNeg (mro (mrc - 1).toNatClampNeg)) mrt mrm mrl mrh mwk mwt mwm mwl mwh mwi mwc mwx mar mli mgr mgo mre mfr rest) H := hP
  have hD : va_D A (wM cI cJ cZ ad mth mst mse mla mmo (mrc - 1) (upd mro a1.toNatClampNeg (mro (mrc - 1).toNatClampNeg)) mrt mrm mrl mrh mwk mwt mwm mwl mwh mwi mwc mwx mar mli mgr mgo mre mfr rest) := hD
  refine lv_aload_n hx hb d_M_dropRange_25 rfl (lv_at hl 0 rfl) ?_
  refine va_get (D := g) (ci := 3) (v := .ref (ad 5)) (C := kR3) (T := kT3) (N := 25) hx hb hts kw3 hown hK hP 0 rfl rfl 7 (by decide) (hts _ wm_678) (fun _ h9 => h9) rfl d_M_dropRange_26 ?_
  refine lv_iload_n hx hb d_M_dropRange_29 rfl (lv_at hl 1 rfl) ?_
  refine lv_aload_n hx hb d_M_dropRange_30 rfl (lv_at hl 0 rfl) ?_
  refine va_get (D := g) (ci := 3) (v := .ref (ad 5)) (C := kR3) (T := kT3) (N := 25) hx hb hts kw3 hown hK hP 0 rfl rfl 7 (by decide) (hts _ wm_678) (fun _ h9 => h9) rfl d_M_dropRange_31 ?_
  refine lv_aload_n hx hb d_M_dropRange_34 rfl (lv_at hl 0 rfl) ?_
  refine va_get (D := g) (ci := 3) (v := .int (mrc - 1)) (C := kR3) (T := kT3) (N := 25) hx hb hts kw3 hown hK hP 0 rfl rfl 5 (by decide) (hts _ wm_676) (fun _ h9 => h9) rfl d_M_dropRange_35 ?_
  obtain ⟨hg_3, hF⟩ := gd_inv hF
  refine va_iald hx hb hK hP 5 0 rfl rfl hg_3 d_M_dropRange_38 ?_
  obtain ⟨hg_4, hF⟩ := gd_inv hF
  refine va_iast hx hb hK hP hD hS 5 0 rfl rfl hg_4 d_M_dropRange_39 (fun H locs hP hD hS => ?_)
  have hP : va_P g kcl (wM cI cJ cZ ad mth mst mse mla mmo (mrc - 1) (upd mro a1.toNatClampNeg (mro (mrc - 1).toNatClampNeg)) (upd mrt a1.toNatClampNeg (mrt (mrc - 1).toNatClampNeg)) mrm mrl mrh mwk mwt mwm mwl mwh mwi mwc mwx mar mli mgr mgo mre mfr rest) H := hP
  have hD : va_D A (wM cI cJ cZ ad mth mst mse mla mmo (mrc - 1) (upd mro a1.toNatClampNeg (mro (mrc - 1).toNatClampNeg)) (upd mrt a1.toNatClampNeg (mrt (mrc - 1).toNatClampNeg)) mrm mrl mrh mwk mwt mwm mwl mwh mwi mwc mwx mar mli mgr mgo mre mfr rest) := hD
  refine lv_aload_n hx hb d_M_dropRange_40 rfl (lv_at hl 0 rfl) ?_
  refine va_get (D := g) (ci := 3) (v := .ref (ad 6)) (C := kR3) (T := kT3) (N := 25) hx hb hts kw3 hown hK hP 0 rfl rfl 8 (by decide) (hts _ wm_679) (fun _ h9 => h9) rfl d_M_dropRange_41 ?_
  refine lv_iload_n hx hb d_M_dropRange_44 rfl (lv_at hl 1 rfl) ?_
  refine lv_aload_n hx hb d_M_dropRange_45 rfl (lv_at hl 0 rfl) ?_
  refine va_get (D := g) (ci := 3) (v := .ref (ad 6)) (C := kR3) (T := kT3) (N := 25) hx hb hts kw3 hown hK hP 0 rfl rfl 8 (by decide) (hts _ wm_679) (fun _ h9 => h9) rfl d_M_dropRange_46 ?_
  refine lv_aload_n hx hb d_M_dropRange_49 rfl (lv_at hl 0 rfl) ?_
  refine va_get (D := g) (ci := 3) (v := .int (mrc - 1)) (C := kR3) (T := kT3) (N := 25) hx hb hts kw3 hown hK hP 0 rfl rfl 5 (by decide) (hts _ wm_676) (fun _ h9 => h9) rfl d_M_dropRange_50 ?_
  obtain ⟨hg_5, hF⟩ := gd_inv hF
  refine va_iald hx hb hK hP 6 0 rfl rfl hg_5 d_M_dropRange_53 ?_
  obtain ⟨hg_6, hF⟩ := gd_inv hF
  refine va_iast hx hb hK hP hD hS 6 0 rfl rfl hg_6 d_M_dropRange_54 (fun H locs hP hD hS => ?_)
  have hP : va_P g kcl (wM cI cJ cZ ad mth mst mse mla mmo (mrc - 1) (upd mro a1.toNatClampNeg (mro (mrc - 1).toNatClampNeg)) (upd mrt a1.toNatClampNeg (mrt (mrc - 1).toNatClampNeg)) (upd mrm a1.toNatClampNeg (mrm (mrc - 1).toNatClampNeg)) mrl mrh mwk mwt mwm mwl mwh mwi mwc mwx mar mli mgr mgo mre mfr rest) H := hP
  have hD : va_D A (wM cI cJ cZ ad mth mst mse mla mmo (mrc - 1) (upd mro a1.toNatClampNeg (mro (mrc - 1).toNatClampNeg)) (upd mrt a1.toNatClampNeg (mrt (mrc - 1).toNatClampNeg)) (upd mrm a1.toNatClampNeg (mrm (mrc - 1).toNatClampNeg)) mrl mrh mwk mwt mwm mwl mwh mwi mwc mwx mar mli mgr mgo mre mfr rest) := hD
  refine lv_aload_n hx hb d_M_dropRange_55 rfl (lv_at hl 0 rfl) ?_
  refine va_get (D := g) (ci := 3) (v := .ref (ad 7)) (C := kR3) (T := kT3) (N := 25) hx hb hts kw3 hown hK hP 0 rfl rfl 9 (by decide) (hts _ wm_680) (fun _ h9 => h9) rfl d_M_dropRange_56 ?_
  refine lv_iload_n hx hb d_M_dropRange_59 rfl (lv_at hl 1 rfl) ?_
  refine lv_aload_n hx hb d_M_dropRange_60 rfl (lv_at hl 0 rfl) ?_
  refine va_get (D := g) (ci := 3) (v := .ref (ad 7)) (C := kR3) (T := kT3) (N := 25) hx hb hts kw3 hown hK hP 0 rfl rfl 9 (by decide) (hts _ wm_680) (fun _ h9 => h9) rfl d_M_dropRange_61 ?_
  refine lv_aload_n hx hb d_M_dropRange_64 rfl (lv_at hl 0 rfl) ?_
  refine va_get (D := g) (ci := 3) (v := .int (mrc - 1)) (C := kR3) (T := kT3) (N := 25) hx hb hts kw3 hown hK hP 0 rfl rfl 5 (by decide) (hts _ wm_676) (fun _ h9 => h9) rfl d_M_dropRange_65 ?_
  obtain ⟨hg_7, hF⟩ := gd_inv hF
  refine va_lald hx hb hK hP 7 1 rfl rfl hg_7 d_M_dropRange_68 ?_
  obtain ⟨hg_8, hF⟩ := gd_inv hF
  refine va_last hx hb hK hP hD hS 7 1 rfl rfl hg_8 d_M_dropRange_69 (fun H locs hP hD hS => ?_)
  have hP : va_P g kcl (wM cI cJ cZ ad mth mst mse mla mmo (mrc - 1) (upd mro a1.toNatClampNeg (mro (mrc - 1).toNatClampNeg)) (upd mrt a1.toNatClampNeg (mrt (mrc - 1).toNatClampNeg)) (upd mrm a1.toNatClampNeg (mrm (mrc - 1).toNatClampNeg)) (vp_updL mrl a1.toNatClampNeg (mrl (mrc - 1).toNatClampNeg)) mrh mwk mwt mwm mwl mwh mwi mwc mwx mar mli mgr mgo mre mfr rest) H := hP
  have hD : va_D A (wM cI cJ cZ ad mth mst mse mla mmo (mrc - 1) (upd mro a1.toNatClampNeg (mro (mrc - 1).toNatClampNeg)) (upd mrt a1.toNatClampNeg (mrt (mrc - 1).toNatClampNeg)) (upd mrm a1.toNatClampNeg (mrm (mrc - 1).toNatClampNeg)) (vp_updL mrl a1.toNatClampNeg (mrl (mrc - 1).toNatClampNeg)) mrh mwk mwt mwm mwl mwh mwi mwc mwx mar mli mgr mgo mre mfr rest) := hD
  refine lv_aload_n hx hb d_M_dropRange_70 rfl (lv_at hl 0 rfl) ?_
  refine va_get (D := g) (ci := 3) (v := .ref (ad 8)) (C := kR3) (T := kT3) (N := 25) hx hb hts kw3 hown hK hP 0 rfl rfl 10 (by decide) (hts _ wm_681) (fun _ h9 => h9) rfl d_M_dropRange_71 ?_
  refine lv_iload_n hx hb d_M_dropRange_74 rfl (lv_at hl 1 rfl) ?_
  refine lv_aload_n hx hb d_M_dropRange_75 rfl (lv_at hl 0 rfl) ?_
  refine va_get (D := g) (ci := 3) (v := .ref (ad 8)) (C := kR3) (T := kT3) (N := 25) hx hb hts kw3 hown hK hP 0 rfl rfl 10 (by decide) (hts _ wm_681) (fun _ h9 => h9) rfl d_M_dropRange_76 ?_
  refine lv_aload_n hx hb d_M_dropRange_79 rfl (lv_at hl 0 rfl) ?_
  refine va_get (D := g) (ci := 3) (v := .int (mrc - 1)) (C := kR3) (T := kT3) (N := 25) hx hb hts kw3 hown hK hP 0 rfl rfl 5 (by decide) (hts _ wm_676) (fun _ h9 => h9) rfl d_M_dropRange_80 ?_
  obtain ⟨hg_9, hF⟩ := gd_inv hF
  refine va_lald hx hb hK hP 8 1 rfl rfl hg_9 d_M_dropRange_83 ?_
  obtain ⟨hg_10, hF⟩ := gd_inv hF
  refine va_last hx hb hK hP hD hS 8 1 rfl rfl hg_10 d_M_dropRange_84 (fun H locs hP hD hS => ?_)
  have hP : va_P g kcl (wM cI cJ cZ ad mth mst mse mla mmo (mrc - 1) (upd mro a1.toNatClampNeg (mro (mrc - 1).toNatClampNeg)) (upd mrt a1.toNatClampNeg (mrt (mrc - 1).toNatClampNeg)) (upd mrm a1.toNatClampNeg (mrm (mrc - 1).toNatClampNeg)) (vp_updL mrl a1.toNatClampNeg (mrl (mrc - 1).toNatClampNeg)) (vp_updL mrh a1.toNatClampNeg (mrh (mrc - 1).toNatClampNeg)) mwk mwt mwm mwl mwh mwi mwc mwx mar mli mgr mgo mre mfr rest) H := hP
  have hD : va_D A (wM cI cJ cZ ad mth mst mse mla mmo (mrc - 1) (upd mro a1.toNatClampNeg (mro (mrc - 1).toNatClampNeg)) (upd mrt a1.toNatClampNeg (mrt (mrc - 1).toNatClampNeg)) (upd mrm a1.toNatClampNeg (mrm (mrc - 1).toNatClampNeg)) (vp_updL mrl a1.toNatClampNeg (mrl (mrc - 1).toNatClampNeg)) (vp_updL mrh a1.toNatClampNeg (mrh (mrc - 1).toNatClampNeg)) mwk mwt mwm mwl mwh mwi mwc mwx mar mli mgr mgo mre mfr rest) := hD
  cases hF
  exact krv K hP hD hS d_M_dropRange_85
theorem c_M_dropRange (l : Launch) (g : va_G) (cI cJ cZ : ClassId) (ad : Nat → Nat) (mth : Int32) (mst : Nat → Int32) (mse : Nat → Int32) (mla : Int32) (mmo : Nat → Int32) (mrc : Int32) (mro : Nat → Int32) (mrt : Nat → Int32) (mrm : Nat → Int32) (mrl : Nat → Int64) (mrh : Nat → Int64) (mwk : Nat → Int32) (mwt : Nat → Int32) (mwm : Nat → Int32) (mwl : Nat → Int64) (mwh : Nat → Int64) (mwi : Nat → Int32) (mwc : Nat → Int32) (mwx : Nat → Int32) (mar : Int32) (mli : Int32) (mgr : Int32) (mgo : Nat → Int32) (mre : Nat → Int32) (mfr : Int32) (rest : va_W) (a1 : Int32) (o_mrc : Int32) (o_mro : Nat → Int32) (o_mrt : Nat → Int32) (o_mrm : Nat → Int32) (o_mrl : Nat → Int64) (o_mrh : Nat → Int64) (hF : F_M_dropRange mrc mro mrt mrm mrl mrh a1 = some (o_mrc, o_mro, o_mrt, o_mrm, o_mrl, o_mrh)) : Cv l y_M_dropRange prog_6_method_21_code 2 ({ frames := 0, cells := 0, slots := 0, locals := 0 }) [.ref (ad 0), .int a1] g (kty cI cJ cZ) (wM cI cJ cZ ad mth mst mse mla mmo mrc mro mrt mrm mrl mrh mwk mwt mwm mwl mwh mwi mwc mwx mar mli mgr mgo mre mfr rest) (wM cI cJ cZ ad mth mst mse mla mmo o_mrc o_mro o_mrt o_mrm o_mrl o_mrh mwk mwt mwm mwl mwh mwi mwc mwx mar mli mgr mgo mre mfr rest) :=
  Cv.of (by decide) (Nat.le_of_ble_eq_true rfl) (fun p e s m below meth c A ls K hP hD hS hl => t_M_dropRange K mth mst mse mla mmo mrc mro mrt mrm mrl mrh mwk mwt mwm mwl mwh mwi mwc mwx mar mli mgr mgo mre mfr a1 o_mrc o_mro o_mrt o_mrm o_mrl o_mrh hF hP hD hS hl)
def F_M_dropRanges_L7 (v1 : Int32) (v2 : Int32) : Nat → Int32 → (Nat → Int32) → (Nat → Int32) → (Nat → Int32) → (Nat → Int64) → (Nat → Int64) → Int32 → Int32 → Option (Int32 × (Nat → Int32) × (Nat → Int32) × (Nat → Int32) × (Nat → Int64) × (Nat → Int64) × Int32)
  | 0, _, _, _, _, _, _, _, _ => none
  | n + 1, mrc, mro, mrt, mrm, mrl, mrh, mfr, v3 => if v3 < 0 then some (mrc, mro, mrt, mrm, mrl, mrh, mfr) else gd (v3 < 0 ∨ 256 ≤ v3.toNatClampNeg) (if (mro v3.toNatClampNeg) = v1 then gd (v3 < 0 ∨ 256 ≤ v3.toNatClampNeg) (if (mrt v3.toNatClampNeg) = v2 then ob6 (F_M_dropRange mrc mro mrt mrm mrl mrh v3) (fun mrc_6 mro_7 mrt_8 mrm_9 mrl_10 mrh_11 => F_M_dropRanges_L7 v1 v2 n mrc_6 mro_7 mrt_8 mrm_9 mrl_10 mrh_11 1 (v3 + (-1))) else F_M_dropRanges_L7 v1 v2 n mrc mro mrt mrm mrl mrh mfr (v3 + (-1))) else F_M_dropRanges_L7 v1 v2 n mrc mro mrt mrm mrl mrh mfr (v3 + (-1)))
def F_M_dropRanges (mrc : Int32) (mro : Nat → Int32) (mrt : Nat → Int32) (mrm : Nat → Int32) (mrl : Nat → Int64) (mrh : Nat → Int64) (mfr : Int32) (a1 : Int32) (a2 : Int32) : Option (Int32 × (Nat → Int32) × (Nat → Int32) × (Nat → Int32) × (Nat → Int64) × (Nat → Int64) × Int32) :=
  ob7 (F_M_dropRanges_L7 a1 a2 fu mrc mro mrt mrm mrl mrh mfr (mrc - 1)) (fun mrc_12 mro_13 mrt_14 mrm_15 mrl_16 mrh_17 mfr_18 => some (mrc_12, mro_13, mrt_14, mrm_15, mrl_16, mrh_17, mfr_18))
set_option maxHeartbeats 4000000 in
set_option maxRecDepth 100000 in
theorem t_M_dropRanges_L7 {p : Program} {l : Launch} {e : Env} {s : State} {m : MethodId} {args : Array Value} {below : List Frame} {meth : Method} {c : Code} {A : Nat → Prop} {g : va_G} {cI cJ cZ : ClassId} {ad : Nat → Nat} {rest : va_W} (K : kX p s m args meth c "LockTableModel" prog_6_method_22_code 4 none A g (kty cI cJ cZ)) {Q : State → Prop} (mth : Int32) (mst : Nat → Int32) (mse : Nat → Int32) (mla : Int32) (mmo : Nat → Int32) (mwk : Nat → Int32) (mwt : Nat → Int32) (mwm : Nat → Int32) (mwl : Nat → Int64) (mwh : Nat → Int64) (mwi : Nat → Int32) (mwc : Nat → Int32) (mwx : Nat → Int32) (mar : Int32) (mli : Int32) (mgr : Int32) (mgo : Nat → Int32) (mre : Nat → Int32) (v1 : Int32) (v2 : Int32) : ∀ (n : Nat) (mrc : Int32) (mro : Nat → Int32) (mrt : Nat → Int32) (mrm : Nat → Int32) (mrl : Nat → Int64) (mrh : Nat → Int64) (mfr : Int32) (v3 : Int32) (o_mrc : Int32) (o_mro : Nat → Int32) (o_mrt : Nat → Int32) (o_mrm : Nat → Int32) (o_mrl : Nat → Int64) (o_mrh : Nat → Int64) (o_mfr : Int32) (H : Heap) (locs : List Loc) (ls : Array Slot), F_M_dropRanges_L7 v1 v2 n mrc mro mrt mrm mrl mrh mfr v3 = some (o_mrc, o_mro, o_mrt, o_mrm, o_mrl, o_mrh, o_mfr) → va_P g kcl (wM cI cJ cZ ad mth mst mse mla mmo mrc mro mrt mrm mrl mrh mwk mwt mwm mwl mwh mwi mwc mwx mar mli mgr mgo mre mfr rest) H → va_D A (wM cI cJ cZ ad mth mst mse mla mmo mrc mro mrt mrm mrl mrh mwk mwt mwm mwl mwh mwi mwc mwx mar mli mgr mgo mre mfr rest) → va_S A s.heap H locs → lv_has ls 4 [(0, .ref (ad 0)), (1, .int v1), (2, .int v2), (3, .int v3)] → (∀ (H : Heap) (locs : List Loc) (ls : Array Slot), va_P g kcl (wM cI cJ cZ ad mth mst mse mla mmo o_mrc o_mro o_mrt o_mrm o_mrl o_mrh mwk mwt mwm mwl mwh mwi mwc mwx mar mli mgr mgo mre o_mfr rest) H → va_D A (wM cI cJ cZ ad mth mst mse mla mmo o_mrc o_mro o_mrt o_mrm o_mrl o_mrh mwk mwt mwm mwl mwh mwi mwc mwx mar mli mgr mgo mre o_mfr rest) → va_S A s.heap H locs → lv_has ls 4 [] → W p l e ({ frames := 1, cells := 0, slots := 0, locals := 21 }) s m args below meth c H locs 0 0 Q (F0 m 47 ls [])) → W p l e ({ frames := 1, cells := 0, slots := 0, locals := 21 }) s m args below meth c H locs 0 0 Q (F0 m 7 ls []) := by
  obtain ⟨hx, hb, hr, hml, hown, hts, hlocks, hK, hA, hE⟩ := id K
  intro n
  induction n with
  | zero =>
    intro mrc mro mrt mrm mrl mrh mfr v3 o_mrc o_mro o_mrt o_mrm o_mrl o_mrh o_mfr H locs ls hF
    rw [F_M_dropRanges_L7] at hF
    cases hF
  | succ n ih =>
    intro mrc mro mrt mrm mrl mrh mfr v3 o_mrc o_mro o_mrt o_mrm o_mrl o_mrh o_mfr H locs ls hF hP hD hS hl hQ
    rw [F_M_dropRanges_L7] at hF
    refine lv_iload_n hx hb d_M_dropRanges_7 rfl (lv_at hl 3 rfl) ?_
    refine lv_if_lt (tgt := 47) hx hb d_M_dropRanges_8 (by decide) (fun hc_1 => ?_) (fun hc_1 => ?_)
    · have hF := it_t hF hc_1
      cases hF
      exact hQ H locs ls hP hD hS (lv_sub hl [] rfl)
    · have hF := it_f hF hc_1
      refine lv_aload_n hx hb d_M_dropRanges_11 rfl (lv_at hl 0 rfl) ?_
      refine va_get (D := g) (ci := 3) (v := .ref (ad 4)) (C := kR3) (T := kT3) (N := 25) hx hb hts kw3 hown hK hP 0 rfl rfl 6 (by decide) (hts _ wm_677) (fun _ h9 => h9) rfl d_M_dropRanges_12 ?_
      refine lv_iload_n hx hb d_M_dropRanges_15 rfl (lv_at hl 3 rfl) ?_
      obtain ⟨hg_2, hF⟩ := gd_inv hF
      refine va_iald hx hb hK hP 4 0 rfl rfl hg_2 d_M_dropRanges_16 ?_
      refine lv_iload_n hx hb d_M_dropRanges_17 rfl (lv_at hl 1 rfl) ?_
      refine lv_icmp_ne (tgt := 41) hx hb d_M_dropRanges_18 (by decide) (fun hc_3 => ?_) (fun hc_3 => ?_)
      · have hF := it_f hF hc_3
        refine lv_iinc (v := v3 + (-1)) (lv' := [(3, .int (v3 + (-1))), (0, .ref (ad 0)), (1, .int v1), (2, .int v2)]) hx hb d_M_dropRanges_41 hl (k := 3) rfl rfl (by decide) rfl (fun ls hl => ?_)
        refine lv_goto (tgt := 7) hx hb d_M_dropRanges_44 (by decide) ?_
        exact ih _ _ _ _ _ _ _ _ _ _ _ _ _ _ _ H locs ls hF hP hD hS (lv_sub hl [1, 2, 3, 0] rfl) hQ
      · have hF := it_t hF hc_3
        refine lv_aload_n hx hb d_M_dropRanges_21 rfl (lv_at hl 0 rfl) ?_
        refine va_get (D := g) (ci := 3) (v := .ref (ad 5)) (C := kR3) (T := kT3) (N := 25) hx hb hts kw3 hown hK hP 0 rfl rfl 7 (by decide) (hts _ wm_678) (fun _ h9 => h9) rfl d_M_dropRanges_22 ?_
        refine lv_iload_n hx hb d_M_dropRanges_25 rfl (lv_at hl 3 rfl) ?_
        obtain ⟨hg_4, hF⟩ := gd_inv hF
        refine va_iald hx hb hK hP 5 0 rfl rfl hg_4 d_M_dropRanges_26 ?_
        refine lv_iload_n hx hb d_M_dropRanges_27 rfl (lv_at hl 2 rfl) ?_
        refine lv_icmp_ne (tgt := 41) hx hb d_M_dropRanges_28 (by decide) (fun hc_5 => ?_) (fun hc_5 => ?_)
        · have hF := it_f hF hc_5
          refine lv_iinc (v := v3 + (-1)) (lv' := [(3, .int (v3 + (-1))), (0, .ref (ad 0)), (1, .int v1), (2, .int v2)]) hx hb d_M_dropRanges_41 hl (k := 3) rfl rfl (by decide) rfl (fun ls hl => ?_)
          refine lv_goto (tgt := 7) hx hb d_M_dropRanges_44 (by decide) ?_
          exact ih _ _ _ _ _ _ _ _ _ _ _ _ _ _ _ H locs ls hF hP hD hS (lv_sub hl [1, 2, 3, 0] rfl) hQ
        · have hF := it_t hF hc_5
          refine lv_aload_n hx hb d_M_dropRanges_31 rfl (lv_at hl 0 rfl) ?_
          refine lv_iload_n hx hb d_M_dropRanges_32 rfl (lv_at hl 3 rfl) ?_
          obtain ⟨mrc_6, mro_7, mrt_8, mrm_9, mrl_10, mrh_11, hG, hF⟩ := ob6_inv hF
          refine kcv K hP hD hS (c_M_dropRange l g cI cJ cZ ad mth mst mse mla mmo mrc mro mrt mrm mrl mrh mwk mwt mwm mwl mwh mwi mwc mwx mar mli mgr mgo mre mfr rest v3 mrc_6 mro_7 mrt_8 mrm_9 mrl_10 mrh_11 hG) wm_831 wm_828 wm_830 wm_32 wm_50 hd_M_dropRange rfl rfl ⟨Nat.le_of_ble_eq_true rfl, Nat.le_of_ble_eq_true rfl⟩ ⟨Nat.zero_le _, Nat.zero_le _⟩ 3 0 rfl rfl rfl hl.1 (rest := []) rfl (Nat.le_of_ble_eq_true rfl) d_M_dropRanges_33 (fun H locs hP hD hS => ?_)
          refine lv_aload_n hx hb d_M_dropRanges_36 rfl (lv_at hl 0 rfl) ?_
          refine lv_iconst (v := 1) hx hb d_M_dropRanges_37 (by decide) ?_
          refine va_put (D := g) (ci := 3) (v := .int 1) (ty := .boolean) (C := kR3) (T := kT3) (N := 25) hx hb hts kw3 kt3 ko3 kn3 hown hK hP hD hS 0 rfl rfl 24 (by decide) (hts _ wm_695) (fun _ h9 => h9) rfl (by decide +kernel) rfl rfl (Nat.le_of_ble_eq_true rfl) d_M_dropRanges_38 (fun H locs hP hD hS => ?_)
          have hP : va_P g kcl (wM cI cJ cZ ad mth mst mse mla mmo mrc_6 mro_7 mrt_8 mrm_9 mrl_10 mrh_11 mwk mwt mwm mwl mwh mwi mwc mwx mar mli mgr mgo mre 1 rest) H := hP
          have hD : va_D A (wM cI cJ cZ ad mth mst mse mla mmo mrc_6 mro_7 mrt_8 mrm_9 mrl_10 mrh_11 mwk mwt mwm mwl mwh mwi mwc mwx mar mli mgr mgo mre 1 rest) := hD
          refine lv_iinc (v := v3 + (-1)) (lv' := [(3, .int (v3 + (-1))), (0, .ref (ad 0)), (1, .int v1), (2, .int v2)]) hx hb d_M_dropRanges_41 hl (k := 3) rfl rfl (by decide) rfl (fun ls hl => ?_)
          refine lv_goto (tgt := 7) hx hb d_M_dropRanges_44 (by decide) ?_
          exact ih _ _ _ _ _ _ _ _ _ _ _ _ _ _ _ H locs ls hF hP hD hS (lv_sub hl [1, 2, 3, 0] rfl) hQ
set_option maxHeartbeats 4000000 in
set_option maxRecDepth 100000 in
theorem t_M_dropRanges {p : Program} {l : Launch} {e : Env} {s : State} {m : MethodId} {args : Array Value} {below : List Frame} {meth : Method} {c : Code} {A : Nat → Prop} {g : va_G} {cI cJ cZ : ClassId} {ad : Nat → Nat} {rest : va_W} (K : kX p s m args meth c "LockTableModel" prog_6_method_22_code 4 none A g (kty cI cJ cZ)) (mth : Int32) (mst : Nat → Int32) (mse : Nat → Int32) (mla : Int32) (mmo : Nat → Int32) (mrc : Int32) (mro : Nat → Int32) (mrt : Nat → Int32) (mrm : Nat → Int32) (mrl : Nat → Int64) (mrh : Nat → Int64) (mwk : Nat → Int32) (mwt : Nat → Int32) (mwm : Nat → Int32) (mwl : Nat → Int64) (mwh : Nat → Int64) (mwi : Nat → Int32) (mwc : Nat → Int32) (mwx : Nat → Int32) (mar : Int32) (mli : Int32) (mgr : Int32) (mgo : Nat → Int32) (mre : Nat → Int32) (mfr : Int32) (a1 : Int32) (a2 : Int32) (o_mrc : Int32) (o_mro : Nat → Int32) (o_mrt : Nat → Int32) (o_mrm : Nat → Int32) (o_mrl : Nat → Int64) (o_mrh : Nat → Int64) (o_mfr : Int32) (hF : F_M_dropRanges mrc mro mrt mrm mrl mrh mfr a1 a2 = some (o_mrc, o_mro, o_mrt, o_mrm, o_mrl, o_mrh, o_mfr)) {H : Heap} {locs : List Loc} {ls : Array Slot} (hP : va_P g kcl (wM cI cJ cZ ad mth mst mse mla mmo mrc mro mrt mrm mrl mrh mwk mwt mwm mwl mwh mwi mwc mwx mar mli mgr mgo mre mfr rest) H) (hD : va_D A (wM cI cJ cZ ad mth mst mse mla mmo mrc mro mrt mrm mrl mrh mwk mwt mwm mwl mwh mwi mwc mwx mar mli mgr mgo mre mfr rest)) (hS : va_S A s.heap H locs) (hl : lv_has ls 4 [(0, .ref (ad 0)), (1, .int a1), (2, .int a2)]) : W p l e ({ frames := 1, cells := 0, slots := 0, locals := 21 }) s m args below meth c H locs 0 0 (MQ below (kQv g (kty cI cJ cZ) (wM cI cJ cZ ad mth mst mse mla mmo o_mrc o_mro o_mrt o_mrm o_mrl o_mrh mwk mwt mwm mwl mwh mwi mwc mwx mar mli mgr mgo mre o_mfr rest) A) args s 0 0 A) (F0 m 0 ls []) := by
  obtain ⟨hx, hb, hr, hml, hown, hts, hlocks, hK, hA, hE⟩ := id K
  unfold F_M_dropRanges at hF
  refine lv_aload_n hx hb d_M_dropRanges_0 rfl (lv_at hl 0 rfl) ?_
  refine va_get (D := g) (ci := 3) (v := .int mrc) (C := kR3) (T := kT3) (N := 25) hx hb hts kw3 hown hK hP 0 rfl rfl 5 (by decide) (hts _ wm_676) (fun _ h9 => h9) rfl d_M_dropRanges_1 ?_
  refine lv_iconst (v := 1) hx hb d_M_dropRanges_4 (by decide) ?_
  refine lv_isub hx hb d_M_dropRanges_5 ?_
  refine lv_istore_n (lv' := [(3, .int (mrc - 1)), (0, .ref (ad 0)), (1, .int a1), (2, .int a2)]) hx hb d_M_dropRanges_6 rfl hl (by decide) rfl (fun ls hl => ?_)
  obtain ⟨mrc_12, mro_13, mrt_14, mrm_15, mrl_16, mrh_17, mfr_18, hG, hF⟩ := ob7_inv hF
  refine t_M_dropRanges_L7 K mth mst mse mla mmo mwk mwt mwm mwl mwh mwi mwc mwx mar mli mgr mgo mre a1 a2 fu _ _ _ _ _ _ _ _ _ _ _ _ _ _ _ H locs ls hG hP hD hS (lv_sub hl [1, 2, 3, 0] rfl) (fun H locs ls hP hD hS hl => ?_)
  cases hF
  exact krv K hP hD hS d_M_dropRanges_47
theorem c_M_dropRanges (l : Launch) (g : va_G) (cI cJ cZ : ClassId) (ad : Nat → Nat) (mth : Int32) (mst : Nat → Int32) (mse : Nat → Int32) (mla : Int32) (mmo : Nat → Int32) (mrc : Int32) (mro : Nat → Int32) (mrt : Nat → Int32) (mrm : Nat → Int32) (mrl : Nat → Int64) (mrh : Nat → Int64) (mwk : Nat → Int32) (mwt : Nat → Int32) (mwm : Nat → Int32) (mwl : Nat → Int64) (mwh : Nat → Int64) (mwi : Nat → Int32) (mwc : Nat → Int32) (mwx : Nat → Int32) (mar : Int32) (mli : Int32) (mgr : Int32) (mgo : Nat → Int32) (mre : Nat → Int32) (mfr : Int32) (rest : va_W) (a1 : Int32) (a2 : Int32) (o_mrc : Int32) (o_mro : Nat → Int32) (o_mrt : Nat → Int32) (o_mrm : Nat → Int32) (o_mrl : Nat → Int64) (o_mrh : Nat → Int64) (o_mfr : Int32) (hF : F_M_dropRanges mrc mro mrt mrm mrl mrh mfr a1 a2 = some (o_mrc, o_mro, o_mrt, o_mrm, o_mrl, o_mrh, o_mfr)) : Cv l y_M_dropRanges prog_6_method_22_code 4 ({ frames := 1, cells := 0, slots := 0, locals := 21 }) [.ref (ad 0), .int a1, .int a2] g (kty cI cJ cZ) (wM cI cJ cZ ad mth mst mse mla mmo mrc mro mrt mrm mrl mrh mwk mwt mwm mwl mwh mwi mwc mwx mar mli mgr mgo mre mfr rest) (wM cI cJ cZ ad mth mst mse mla mmo o_mrc o_mro o_mrt o_mrm o_mrl o_mrh mwk mwt mwm mwl mwh mwi mwc mwx mar mli mgr mgo mre o_mfr rest) :=
  Cv.of (by decide) (Nat.le_of_ble_eq_true rfl) (fun p e s m below meth c A ls K hP hD hS hl => t_M_dropRanges K mth mst mse mla mmo mrc mro mrt mrm mrl mrh mwk mwt mwm mwl mwh mwi mwc mwx mar mli mgr mgo mre mfr a1 a2 o_mrc o_mro o_mrt o_mrm o_mrl o_mrh o_mfr hF hP hD hS hl)
def F_M_grant (mst : Nat → Int32) (mmo : Nat → Int32) (mrc : Int32) (mro : Nat → Int32) (mrt : Nat → Int32) (mrm : Nat → Int32) (mrl : Nat → Int64) (mrh : Nat → Int64) (mwk : Nat → Int32) (mwt : Nat → Int32) (mwm : Nat → Int32) (mwl : Nat → Int64) (mwh : Nat → Int64) (mfr : Int32) (a1 : Int32) : Option ((Nat → Int32) × (Nat → Int32) × Int32 × (Nat → Int32) × (Nat → Int32) × (Nat → Int32) × (Nat → Int64) × (Nat → Int64) × Int32) :=
  gd (a1 < 0 ∨ 8 ≤ a1.toNatClampNeg) (gd (a1 < 0 ∨ 8 ≤ a1.toNatClampNeg) (gd (a1 < 0 ∨ 8 ≤ a1.toNatClampNeg) (if (mwk a1.toNatClampNeg) = 1 then gd (mrc < 0 ∨ 256 ≤ mrc.toNatClampNeg) (gd (mrc < 0 ∨ 256 ≤ mrc.toNatClampNeg) (gd (a1 < 0 ∨ 8 ≤ a1.toNatClampNeg) (gd (mrc < 0 ∨ 256 ≤ mrc.toNatClampNeg) (gd (a1 < 0 ∨ 8 ≤ a1.toNatClampNeg) (gd (mrc < 0 ∨ 256 ≤ mrc.toNatClampNeg) (gd (a1 < 0 ∨ 8 ≤ a1.toNatClampNeg) (gd (mrc < 0 ∨ 256 ≤ mrc.toNatClampNeg) (some (upd mst a1.toNatClampNeg 1, mmo, mrc + 1, upd mro mrc.toNatClampNeg a1, upd mrt mrc.toNatClampNeg (mwt a1.toNatClampNeg), upd mrm mrc.toNatClampNeg (mwm a1.toNatClampNeg), vp_updL mrl mrc.toNatClampNeg (mwl a1.toNatClampNeg), vp_updL mrh mrc.toNatClampNeg (mwh a1.toNatClampNeg), mfr))))))))) else gd (a1 < 0 ∨ 8 ≤ a1.toNatClampNeg) (gd (((16 * a1) + (mwt a1.toNatClampNeg)) < 0 ∨ 128 ≤ ((16 * a1) + (mwt a1.toNatClampNeg)).toNatClampNeg) (gd (a1 < 0 ∨ 8 ≤ a1.toNatClampNeg) (if (mwk a1.toNatClampNeg) = 2 then ob7 (F_M_dropRanges mrc mro mrt mrm mrl mrh mfr a1 (mwt a1.toNatClampNeg)) (fun mrc_9 mro_10 mrt_11 mrm_12 mrl_13 mrh_14 mfr_15 => some (upd mst a1.toNatClampNeg 1, upd mmo ((16 * a1) + (mwt a1.toNatClampNeg)).toNatClampNeg (mwm a1.toNatClampNeg), mrc_9, mro_10, mrt_11, mrm_12, mrl_13, mrh_14, mfr_15)) else some (upd mst a1.toNatClampNeg 1, upd mmo ((16 * a1) + (mwt a1.toNatClampNeg)).toNatClampNeg (mwm a1.toNatClampNeg), mrc, mro, mrt, mrm, mrl, mrh, mfr)))))))
set_option maxHeartbeats 4000000 in
set_option maxRecDepth 100000 in
theorem t_M_grant {p : Program} {l : Launch} {e : Env} {s : State} {m : MethodId} {args : Array Value} {below : List Frame} {meth : Method} {c : Code} {A : Nat → Prop} {g : va_G} {cI cJ cZ : ClassId} {ad : Nat → Nat} {rest : va_W} (K : kX p s m args meth c "LockTableModel" prog_6_method_23_code 3 none A g (kty cI cJ cZ)) (mth : Int32) (mst : Nat → Int32) (mse : Nat → Int32) (mla : Int32) (mmo : Nat → Int32) (mrc : Int32) (mro : Nat → Int32) (mrt : Nat → Int32) (mrm : Nat → Int32) (mrl : Nat → Int64) (mrh : Nat → Int64) (mwk : Nat → Int32) (mwt : Nat → Int32) (mwm : Nat → Int32) (mwl : Nat → Int64) (mwh : Nat → Int64) (mwi : Nat → Int32) (mwc : Nat → Int32) (mwx : Nat → Int32) (mar : Int32) (mli : Int32) (mgr : Int32) (mgo : Nat → Int32) (mre : Nat → Int32) (mfr : Int32) (a1 : Int32) (o_mst : Nat → Int32) (o_mmo : Nat → Int32) (o_mrc : Int32) (o_mro : Nat → Int32) (o_mrt : Nat → Int32) (o_mrm : Nat → Int32) (o_mrl : Nat → Int64) (o_mrh : Nat → Int64) (o_mfr : Int32) (hF : F_M_grant mst mmo mrc mro mrt mrm mrl mrh mwk mwt mwm mwl mwh mfr a1 = some (o_mst, o_mmo, o_mrc, o_mro, o_mrt, o_mrm, o_mrl, o_mrh, o_mfr)) {H : Heap} {locs : List Loc} {ls : Array Slot} (hP : va_P g kcl (wM cI cJ cZ ad mth mst mse mla mmo mrc mro mrt mrm mrl mrh mwk mwt mwm mwl mwh mwi mwc mwx mar mli mgr mgo mre mfr rest) H) (hD : va_D A (wM cI cJ cZ ad mth mst mse mla mmo mrc mro mrt mrm mrl mrh mwk mwt mwm mwl mwh mwi mwc mwx mar mli mgr mgo mre mfr rest)) (hS : va_S A s.heap H locs) (hl : lv_has ls 3 [(0, .ref (ad 0)), (1, .int a1)]) : W p l e ({ frames := 2, cells := 0, slots := 0, locals := 44 }) s m args below meth c H locs 0 0 (MQ below (kQv g (kty cI cJ cZ) (wM cI cJ cZ ad mth o_mst mse mla o_mmo o_mrc o_mro o_mrt o_mrm o_mrl o_mrh mwk mwt mwm mwl mwh mwi mwc mwx mar mli mgr mgo mre o_mfr rest) A) args s 0 0 A) (F0 m 0 ls []) := by
  obtain ⟨hx, hb, hr, hml, hown, hts, hlocks, hK, hA, hE⟩ := id K
  unfold F_M_grant at hF
  refine lv_aload_n hx hb d_M_grant_0 rfl (lv_at hl 0 rfl) ?_
  refine va_get (D := g) (ci := 3) (v := .ref (ad 10)) (C := kR3) (T := kT3) (N := 25) hx hb hts kw3 hown hK hP 0 rfl rfl 12 (by decide) (hts _ wm_683) (fun _ h9 => h9) rfl d_M_grant_1 ?_
  refine lv_iload_n hx hb d_M_grant_4 rfl (lv_at hl 1 rfl) ?_
  obtain ⟨hg_1, hF⟩ := gd_inv hF
  refine va_iald hx hb hK hP 10 0 rfl rfl hg_1 d_M_grant_5 ?_
  refine lv_istore_n (lv' := [(2, .int (mwt a1.toNatClampNeg)), (0, .ref (ad 0)), (1, .int a1)]) hx hb d_M_grant_6 rfl hl (by decide) rfl (fun ls hl => ?_)
  refine lv_aload_n hx hb d_M_grant_7 rfl (lv_at hl 1 rfl) ?_
  refine va_get (D := g) (ci := 3) (v := .ref (ad 1)) (C := kR3) (T := kT3) (N := 25) hx hb hts kw3 hown hK hP 0 rfl rfl 1 (by decide) (hts _ wm_672) (fun _ h9 => h9) rfl d_M_grant_8 ?_
  refine lv_iload_n hx hb d_M_grant_11 rfl (lv_at hl 2 rfl) ?_
  refine lv_iconst (v := 1) hx hb d_M_grant_12 (by decide) ?_
  obtain ⟨hg_2, hF⟩ := gd_inv hF
  refine va_iast hx hb hK hP hD hS 1 0 rfl rfl hg_2 d_M_grant_13 (fun H locs hP hD hS => ?_)
  have hP : va_P g kcl (wM cI cJ cZ ad mth (upd mst a1.toNatClampNeg 1) mse mla mmo mrc mro mrt mrm mrl mrh mwk mwt mwm mwl mwh mwi mwc mwx mar mli mgr mgo mre mfr rest) H := hP
  have hD : va_D A (wM cI cJ cZ ad mth (upd mst a1.toNatClampNeg 1) mse mla mmo mrc mro mrt mrm mrl mrh mwk mwt mwm mwl mwh mwi mwc mwx mar mli mgr mgo mre mfr rest) := hD
  refine lv_aload_n hx hb d_M_grant_14 rfl (lv_at hl 1 rfl) ?_
  refine va_get (D := g) (ci := 3) (v := .ref (ad 9)) (C := kR3) (T := kT3) (N := 25) hx hb hts kw3 hown hK hP 0 rfl rfl 11 (by decide) (hts _ wm_682) (fun _ h9 => h9) rfl d_M_grant_15 ?_
  refine lv_iload_n hx hb d_M_grant_18 rfl (lv_at hl 2 rfl) ?_
  obtain ⟨hg_3, hF⟩ := gd_inv hF
  refine va_iald hx hb hK hP 9 0 rfl rfl hg_3 d_M_grant_19 ?_
  refine lv_iconst (v := 1) hx hb d_M_grant_20 (by decide) ?_
  refine lv_icmp_ne (tgt := 100) hx hb d_M_grant_21 (by decide) (fun hc_4 => ?_) (fun hc_4 => ?_)
  · have hF := it_f hF hc_4
    refine lv_aload_n hx hb d_M_grant_100 rfl (lv_at hl 1 rfl) ?_
    refine va_get (D := g) (ci := 3) (v := .ref (ad 3)) (C := kR3) (T := kT3) (N := 25) hx hb hts kw3 hown hK hP 0 rfl rfl 4 (by decide) (hts _ wm_675) (fun _ h9 => h9) rfl d_M_grant_101 ?_
    refine lv_bipush (v := 16) hx hb d_M_grant_104 (by decide) ?_
    refine lv_iload_n hx hb d_M_grant_106 rfl (lv_at hl 2 rfl) ?_
    refine lv_imul hx hb d_M_grant_107 ?_
    refine lv_iload_n hx hb d_M_grant_108 rfl (lv_at hl 0 rfl) ?_
    refine lv_iadd hx hb d_M_grant_109 ?_
    refine lv_aload_n hx hb d_M_grant_110 rfl (lv_at hl 1 rfl) ?_
    refine va_get (D := g) (ci := 3) (v := .ref (ad 11)) (C := kR3) (T := kT3) (N := 25) hx hb hts kw3 hown hK hP 0 rfl rfl 13 (by decide) (hts _ wm_684) (fun _ h9 => h9) rfl d_M_grant_111 ?_
    refine lv_iload_n hx hb d_M_grant_114 rfl (lv_at hl 2 rfl) ?_
    obtain ⟨hg_5, hF⟩ := gd_inv hF
    refine va_iald hx hb hK hP 11 0 rfl rfl hg_5 d_M_grant_115 ?_
    obtain ⟨hg_6, hF⟩ := gd_inv hF
    refine va_iast hx hb hK hP hD hS 3 0 rfl rfl hg_6 d_M_grant_116 (fun H locs hP hD hS => ?_)
    have hP : va_P g kcl (wM cI cJ cZ ad mth (upd mst a1.toNatClampNeg 1) mse mla (upd mmo ((16 * a1) + (mwt a1.toNatClampNeg)).toNatClampNeg (mwm a1.toNatClampNeg)) mrc mro mrt mrm mrl mrh mwk mwt mwm mwl mwh mwi mwc mwx mar mli mgr mgo mre mfr rest) H := hP
    have hD : va_D A (wM cI cJ cZ ad mth (upd mst a1.toNatClampNeg 1) mse mla (upd mmo ((16 * a1) + (mwt a1.toNatClampNeg)).toNatClampNeg (mwm a1.toNatClampNeg)) mrc mro mrt mrm mrl mrh mwk mwt mwm mwl mwh mwi mwc mwx mar mli mgr mgo mre mfr rest) := hD
    refine lv_aload_n hx hb d_M_grant_117 rfl (lv_at hl 1 rfl) ?_
    refine va_get (D := g) (ci := 3) (v := .ref (ad 9)) (C := kR3) (T := kT3) (N := 25) hx hb hts kw3 hown hK hP 0 rfl rfl 11 (by decide) (hts _ wm_682) (fun _ h9 => h9) rfl d_M_grant_118 ?_
    refine lv_iload_n hx hb d_M_grant_121 rfl (lv_at hl 2 rfl) ?_
    obtain ⟨hg_7, hF⟩ := gd_inv hF
    refine va_iald hx hb hK hP 9 0 rfl rfl hg_7 d_M_grant_122 ?_
    refine lv_iconst (v := 2) hx hb d_M_grant_123 (by decide) ?_
    refine lv_icmp_ne (tgt := 133) hx hb d_M_grant_124 (by decide) (fun hc_8 => ?_) (fun hc_8 => ?_)
    · have hF := it_f hF hc_8
      cases hF
      exact krv K hP hD hS d_M_grant_133
    · have hF := it_t hF hc_8
      refine lv_aload_n hx hb d_M_grant_127 rfl (lv_at hl 1 rfl) ?_
      refine lv_iload_n hx hb d_M_grant_128 rfl (lv_at hl 2 rfl) ?_
      refine lv_iload_n hx hb d_M_grant_129 rfl (lv_at hl 0 rfl) ?_
      obtain ⟨mrc_9, mro_10, mrt_11, mrm_12, mrl_13, mrh_14, mfr_15, hG, hF⟩ := ob7_inv hF
      refine kcv K hP hD hS (c_M_dropRanges l g cI cJ cZ ad mth (upd mst a1.toNatClampNeg 1) mse mla (upd mmo ((16 * a1) + (mwt a1.toNatClampNeg)).toNatClampNeg (mwm a1.toNatClampNeg)) mrc mro mrt mrm mrl mrh mwk mwt mwm mwl mwh mwi mwc mwx mar mli mgr mgo mre mfr rest a1 (mwt a1.toNatClampNeg) mrc_9 mro_10 mrt_11 mrm_12 mrl_13 mrh_14 mfr_15 hG) wm_827 wm_824 wm_826 wm_31 wm_50 hd_M_dropRanges rfl rfl ⟨Nat.le_of_ble_eq_true rfl, Nat.le_of_ble_eq_true rfl⟩ ⟨Nat.zero_le _, Nat.zero_le _⟩ 3 0 rfl rfl rfl hl.1 (rest := []) rfl (Nat.le_of_ble_eq_true rfl) d_M_grant_130 (fun H locs hP hD hS => ?_)
      cases hF
      exact krv K hP hD hS d_M_grant_133
  · have hF := it_t hF hc_4
    refine lv_aload_n hx hb d_M_grant_24 rfl (lv_at hl 1 rfl) ?_
    refine va_get (D := g) (ci := 3) (v := .ref (ad 4)) (C := kR3) (T := kT3) (N := 25) hx hb hts kw3 hown hK hP 0 rfl rfl 6 (by decide) (hts _ wm_677) (fun _ h9 => h9) rfl d_M_grant_25 ?_
    refine lv_aload_n hx hb d_M_grant_28 rfl (lv_at hl 1 rfl) ?_
    refine va_get (D := g) (ci := 3) (v := .int mrc) (C := kR3) (T := kT3) (N := 25) hx hb hts kw3 hown hK hP 0 rfl rfl 5 (by decide) (hts _ wm_676) (fun _ h9 => h9) rfl d_M_grant_29 ?_
    refine lv_iload_n hx hb d_M_grant_32 rfl (lv_at hl 2 rfl) ?_
    obtain ⟨hg_16, hF⟩ := gd_inv hF
    refine va_iast hx hb hK hP hD hS 4 0 rfl rfl hg_16 d_M_grant_33 (fun H locs hP hD hS => ?_)
    have hP : va_P g kcl (wM cI cJ cZ ad mth (upd mst a1.toNatClampNeg 1) mse mla mmo mrc (upd mro mrc.toNatClampNeg a1) mrt mrm mrl mrh mwk mwt mwm mwl mwh mwi mwc mwx mar mli mgr mgo mre mfr rest) H := hP
    have hD : va_D A (wM cI cJ cZ ad mth (upd mst a1.toNatClampNeg 1) mse mla mmo mrc (upd mro mrc.toNatClampNeg a1) mrt mrm mrl mrh mwk mwt mwm mwl mwh mwi mwc mwx mar mli mgr mgo mre mfr rest) := hD
    refine lv_aload_n hx hb d_M_grant_34 rfl (lv_at hl 1 rfl) ?_
    refine va_get (D := g) (ci := 3) (v := .ref (ad 5)) (C := kR3) (T := kT3) (N := 25) hx hb hts kw3 hown hK hP 0 rfl rfl 7 (by decide) (hts _ wm_678) (fun _ h9 => h9) rfl d_M_grant_35 ?_
    refine lv_aload_n hx hb d_M_grant_38 rfl (lv_at hl 1 rfl) ?_
    refine va_get (D := g) (ci := 3) (v := .int mrc) (C := kR3) (T := kT3) (N := 25) hx hb hts kw3 hown hK hP 0 rfl rfl 5 (by decide) (hts _ wm_676) (fun _ h9 => h9) rfl d_M_grant_39 ?_
    refine lv_iload_n hx hb d_M_grant_42 rfl (lv_at hl 0 rfl) ?_
    obtain ⟨hg_17, hF⟩ := gd_inv hF
    refine va_iast hx hb hK hP hD hS 5 0 rfl rfl hg_17 d_M_grant_43 (fun H locs hP hD hS => ?_)
    have hP : va_P g kcl (wM cI cJ cZ ad mth (upd mst a1.toNatClampNeg 1) mse mla mmo mrc (upd mro mrc.toNatClampNeg a1) (upd mrt mrc.toNatClampNeg (mwt a1.toNatClampNeg)) mrm mrl mrh mwk mwt mwm mwl mwh mwi mwc mwx mar mli mgr mgo mre mfr rest) H := hP
    have hD : va_D A (wM cI cJ cZ ad mth (upd mst a1.toNatClampNeg 1) mse mla mmo mrc (upd mro mrc.toNatClampNeg a1) (upd mrt mrc.toNatClampNeg (mwt a1.toNatClampNeg)) mrm mrl mrh mwk mwt mwm mwl mwh mwi mwc mwx mar mli mgr mgo mre mfr rest) := hD
    refine lv_aload_n hx hb d_M_grant_44 rfl (lv_at hl 1 rfl) ?_
    refine va_get (D := g) (ci := 3) (v := .ref (ad 6)) (C := kR3) (T := kT3) (N := 25) hx hb hts kw3 hown hK hP 0 rfl rfl 8 (by decide) (hts _ wm_679) (fun _ h9 => h9) rfl d_M_grant_45 ?_
    refine lv_aload_n hx hb d_M_grant_48 rfl (lv_at hl 1 rfl) ?_
    refine va_get (D := g) (ci := 3) (v := .int mrc) (C := kR3) (T := kT3) (N := 25) hx hb hts kw3 hown hK hP 0 rfl rfl 5 (by decide) (hts _ wm_676) (fun _ h9 => h9) rfl d_M_grant_49 ?_
    refine lv_aload_n hx hb d_M_grant_52 rfl (lv_at hl 1 rfl) ?_
    refine va_get (D := g) (ci := 3) (v := .ref (ad 11)) (C := kR3) (T := kT3) (N := 25) hx hb hts kw3 hown hK hP 0 rfl rfl 13 (by decide) (hts _ wm_684) (fun _ h9 => h9) rfl d_M_grant_53 ?_
    refine lv_iload_n hx hb d_M_grant_56 rfl (lv_at hl 2 rfl) ?_
    obtain ⟨hg_18, hF⟩ := gd_inv hF
    refine va_iald hx hb hK hP 11 0 rfl rfl hg_18 d_M_grant_57 ?_
    obtain ⟨hg_19, hF⟩ := gd_inv hF
    refine va_iast hx hb hK hP hD hS 6 0 rfl rfl hg_19 d_M_grant_58 (fun H locs hP hD hS => ?_)
    have hP : va_P g kcl (wM cI cJ cZ ad mth (upd mst a1.toNatClampNeg 1) mse mla mmo mrc (upd mro mrc.toNatClampNeg a1) (upd mrt mrc.toNatClampNeg (mwt a1.toNatClampNeg)) (upd mrm mrc.toNatClampNeg (mwm a1.toNatClampNeg)) mrl mrh mwk mwt mwm mwl mwh mwi mwc mwx mar mli mgr mgo mre mfr rest) H := hP
    have hD : va_D A (wM cI cJ cZ ad mth (upd mst a1.toNatClampNeg 1) mse mla mmo mrc (upd mro mrc.toNatClampNeg a1) (upd mrt mrc.toNatClampNeg (mwt a1.toNatClampNeg)) (upd mrm mrc.toNatClampNeg (mwm a1.toNatClampNeg)) mrl mrh mwk mwt mwm mwl mwh mwi mwc mwx mar mli mgr mgo mre mfr rest) := hD
    refine lv_aload_n hx hb d_M_grant_59 rfl (lv_at hl 1 rfl) ?_
    refine va_get (D := g) (ci := 3) (v := .ref (ad 7)) (C := kR3) (T := kT3) (N := 25) hx hb hts kw3 hown hK hP 0 rfl rfl 9 (by decide) (hts _ wm_680) (fun _ h9 => h9) rfl d_M_grant_60 ?_
    refine lv_aload_n hx hb d_M_grant_63 rfl (lv_at hl 1 rfl) ?_
    refine va_get (D := g) (ci := 3) (v := .int mrc) (C := kR3) (T := kT3) (N := 25) hx hb hts kw3 hown hK hP 0 rfl rfl 5 (by decide) (hts _ wm_676) (fun _ h9 => h9) rfl d_M_grant_64 ?_
    refine lv_aload_n hx hb d_M_grant_67 rfl (lv_at hl 1 rfl) ?_
    refine va_get (D := g) (ci := 3) (v := .ref (ad 12)) (C := kR3) (T := kT3) (N := 25) hx hb hts kw3 hown hK hP 0 rfl rfl 14 (by decide) (hts _ wm_685) (fun _ h9 => h9) rfl d_M_grant_68 ?_
    refine lv_iload_n hx hb d_M_grant_71 rfl (lv_at hl 2 rfl) ?_
    obtain ⟨hg_20, hF⟩ := gd_inv hF
    refine va_lald hx hb hK hP 12 1 rfl rfl hg_20 d_M_grant_72 ?_
    obtain ⟨hg_21, hF⟩ := gd_inv hF
    refine va_last hx hb hK hP hD hS 7 1 rfl rfl hg_21 d_M_grant_73 (fun H locs hP hD hS => ?_)
    have hP : va_P g kcl (wM cI cJ cZ ad mth (upd mst a1.toNatClampNeg 1) mse mla mmo mrc (upd mro mrc.toNatClampNeg a1) (upd mrt mrc.toNatClampNeg (mwt a1.toNatClampNeg)) (upd mrm mrc.toNatClampNeg (mwm a1.toNatClampNeg)) (vp_updL mrl mrc.toNatClampNeg (mwl a1.toNatClampNeg)) mrh mwk mwt mwm mwl mwh mwi mwc mwx mar mli mgr mgo mre mfr rest) H := hP
    have hD : va_D A (wM cI cJ cZ ad mth (upd mst a1.toNatClampNeg 1) mse mla mmo mrc (upd mro mrc.toNatClampNeg a1) (upd mrt mrc.toNatClampNeg (mwt a1.toNatClampNeg)) (upd mrm mrc.toNatClampNeg (mwm a1.toNatClampNeg)) (vp_updL mrl mrc.toNatClampNeg (mwl a1.toNatClampNeg)) mrh mwk mwt mwm mwl mwh mwi mwc mwx mar mli mgr mgo mre mfr rest) := hD
    refine lv_aload_n hx hb d_M_grant_74 rfl (lv_at hl 1 rfl) ?_
    refine va_get (D := g) (ci := 3) (v := .ref (ad 8)) (C := kR3) (T := kT3) (N := 25) hx hb hts kw3 hown hK hP 0 rfl rfl 10 (by decide) (hts _ wm_681) (fun _ h9 => h9) rfl d_M_grant_75 ?_
    refine lv_aload_n hx hb d_M_grant_78 rfl (lv_at hl 1 rfl) ?_
    refine va_get (D := g) (ci := 3) (v := .int mrc) (C := kR3) (T := kT3) (N := 25) hx hb hts kw3 hown hK hP 0 rfl rfl 5 (by decide) (hts _ wm_676) (fun _ h9 => h9) rfl d_M_grant_79 ?_
    refine lv_aload_n hx hb d_M_grant_82 rfl (lv_at hl 1 rfl) ?_
    refine va_get (D := g) (ci := 3) (v := .ref (ad 13)) (C := kR3) (T := kT3) (N := 25) hx hb hts kw3 hown hK hP 0 rfl rfl 15 (by decide) (hts _ wm_686) (fun _ h9 => h9) rfl d_M_grant_83 ?_
    refine lv_iload_n hx hb d_M_grant_86 rfl (lv_at hl 2 rfl) ?_
    obtain ⟨hg_22, hF⟩ := gd_inv hF
    refine va_lald hx hb hK hP 13 1 rfl rfl hg_22 d_M_grant_87 ?_
    obtain ⟨hg_23, hF⟩ := gd_inv hF
    refine va_last hx hb hK hP hD hS 8 1 rfl rfl hg_23 d_M_grant_88 (fun H locs hP hD hS => ?_)
    have hP : va_P g kcl (wM cI cJ cZ ad mth (upd mst a1.toNatClampNeg 1) mse mla mmo mrc (upd mro mrc.toNatClampNeg a1) (upd mrt mrc.toNatClampNeg (mwt a1.toNatClampNeg)) (upd mrm mrc.toNatClampNeg (mwm a1.toNatClampNeg)) (vp_updL mrl mrc.toNatClampNeg (mwl a1.toNatClampNeg)) (vp_updL mrh mrc.toNatClampNeg (mwh a1.toNatClampNeg)) mwk mwt mwm mwl mwh mwi mwc mwx mar mli mgr mgo mre mfr rest) H := hP
    have hD : va_D A (wM cI cJ cZ ad mth (upd mst a1.toNatClampNeg 1) mse mla mmo mrc (upd mro mrc.toNatClampNeg a1) (upd mrt mrc.toNatClampNeg (mwt a1.toNatClampNeg)) (upd mrm mrc.toNatClampNeg (mwm a1.toNatClampNeg)) (vp_updL mrl mrc.toNatClampNeg (mwl a1.toNatClampNeg)) (vp_updL mrh mrc.toNatClampNeg (mwh a1.toNatClampNeg)) mwk mwt mwm mwl mwh mwi mwc mwx mar mli mgr mgo mre mfr rest) := hD
    refine lv_aload_n hx hb d_M_grant_89 rfl (lv_at hl 1 rfl) ?_
    refine lv_dup hx hb d_M_grant_90 rfl ?_
    refine va_get (D := g) (ci := 3) (v := .int mrc) (C := kR3) (T := kT3) (N := 25) hx hb hts kw3 hown hK hP 0 rfl rfl 5 (by decide) (hts _ wm_676) (fun _ h9 => h9) rfl d_M_grant_91 ?_
    refine lv_iconst (v := 1) hx hb d_M_grant_94 (by decide) ?_
    refine lv_iadd hx hb d_M_grant_95 ?_
    refine va_put (D := g) (ci := 3) (v := .int (mrc + 1)) (ty := .int) (C := kR3) (T := kT3) (N := 25) hx hb hts kw3 kt3 ko3 kn3 hown hK hP hD hS 0 rfl rfl 5 (by decide) (hts _ wm_676) (fun _ h9 => h9) rfl (by decide +kernel) rfl rfl (Nat.le_of_ble_eq_true rfl) d_M_grant_96 (fun H locs hP hD hS => ?_)
    have hP : va_P g kcl (wM cI cJ cZ ad mth (upd mst a1.toNatClampNeg 1) mse mla mmo (mrc + 1) (upd mro mrc.toNatClampNeg a1) (upd mrt mrc.toNatClampNeg (mwt a1.toNatClampNeg)) (upd mrm mrc.toNatClampNeg (mwm a1.toNatClampNeg)) (vp_updL mrl mrc.toNatClampNeg (mwl a1.toNatClampNeg)) (vp_updL mrh mrc.toNatClampNeg (mwh a1.toNatClampNeg)) mwk mwt mwm mwl mwh mwi mwc mwx mar mli mgr mgo mre mfr rest) H := hP
    have hD : va_D A (wM cI cJ cZ ad mth (upd mst a1.toNatClampNeg 1) mse mla mmo (mrc + 1) (upd mro mrc.toNatClampNeg a1) (upd mrt mrc.toNatClampNeg (mwt a1.toNatClampNeg)) (upd mrm mrc.toNatClampNeg (mwm a1.toNatClampNeg)) (vp_updL mrl mrc.toNatClampNeg (mwl a1.toNatClampNeg)) (vp_updL mrh mrc.toNatClampNeg (mwh a1.toNatClampNeg)) mwk mwt mwm mwl mwh mwi mwc mwx mar mli mgr mgo mre mfr rest) := hD
    cases hF
    exact krv K hP hD hS d_M_grant_99
theorem c_M_grant (l : Launch) (g : va_G) (cI cJ cZ : ClassId) (ad : Nat → Nat) (mth : Int32) (mst : Nat → Int32) (mse : Nat → Int32) (mla : Int32) (mmo : Nat → Int32) (mrc : Int32) (mro : Nat → Int32) (mrt : Nat → Int32) (mrm : Nat → Int32) (mrl : Nat → Int64) (mrh : Nat → Int64) (mwk : Nat → Int32) (mwt : Nat → Int32) (mwm : Nat → Int32) (mwl : Nat → Int64) (mwh : Nat → Int64) (mwi : Nat → Int32) (mwc : Nat → Int32) (mwx : Nat → Int32) (mar : Int32) (mli : Int32) (mgr : Int32) (mgo : Nat → Int32) (mre : Nat → Int32) (mfr : Int32) (rest : va_W) (a1 : Int32) (o_mst : Nat → Int32) (o_mmo : Nat → Int32) (o_mrc : Int32) (o_mro : Nat → Int32) (o_mrt : Nat → Int32) (o_mrm : Nat → Int32) (o_mrl : Nat → Int64) (o_mrh : Nat → Int64) (o_mfr : Int32) (hF : F_M_grant mst mmo mrc mro mrt mrm mrl mrh mwk mwt mwm mwl mwh mfr a1 = some (o_mst, o_mmo, o_mrc, o_mro, o_mrt, o_mrm, o_mrl, o_mrh, o_mfr)) : Cv l y_M_grant prog_6_method_23_code 3 ({ frames := 2, cells := 0, slots := 0, locals := 44 }) [.ref (ad 0), .int a1] g (kty cI cJ cZ) (wM cI cJ cZ ad mth mst mse mla mmo mrc mro mrt mrm mrl mrh mwk mwt mwm mwl mwh mwi mwc mwx mar mli mgr mgo mre mfr rest) (wM cI cJ cZ ad mth o_mst mse mla o_mmo o_mrc o_mro o_mrt o_mrm o_mrl o_mrh mwk mwt mwm mwl mwh mwi mwc mwx mar mli mgr mgo mre o_mfr rest) :=
  Cv.of (by decide) (Nat.le_of_ble_eq_true rfl) (fun p e s m below meth c A ls K hP hD hS hl => t_M_grant K mth mst mse mla mmo mrc mro mrt mrm mrl mrh mwk mwt mwm mwl mwh mwi mwc mwx mar mli mgr mgo mre mfr a1 o_mst o_mmo o_mrc o_mro o_mrt o_mrm o_mrl o_mrh o_mfr hF hP hD hS hl)
def F_M_nextBehind_L4 (mst : Nat → Int32) (mwi : Nat → Int32) (mwc : Nat → Int32) (v1 : Int32) : Nat → Int32 → Int32 → Option (Int32)
  | 0, _, _ => none
  | n + 1, v2, v3 => if 8 ≤ v3 then some v2 else gd (v3 < 0 ∨ 8 ≤ v3.toNatClampNeg) (if (mst v3.toNatClampNeg) = 2 then if v3 = v1 then F_M_nextBehind_L4 mst mwi mwc v1 n v2 (v3 + 1) else jn0 (if v2 < 0 then F_M_nextBehind_L4 mst mwi mwc v1 n v3 (v3 + 1) else ob1 (F_M_isBefore mwi mwc v3 v2) (fun r_6 => if r_6 = 0 then F_M_nextBehind_L4 mst mwi mwc v1 n v2 (v3 + 1) else F_M_nextBehind_L4 mst mwi mwc v1 n v3 (v3 + 1))) (fun J38 => if v1 < 0 then J38  else ob1 (F_M_isBefore mwi mwc v1 v3) (fun r_9 => if r_9 = 0 then F_M_nextBehind_L4 mst mwi mwc v1 n v2 (v3 + 1) else J38 )) else F_M_nextBehind_L4 mst mwi mwc v1 n v2 (v3 + 1))
def F_M_nextBehind (mst : Nat → Int32) (mwi : Nat → Int32) (mwc : Nat → Int32) (a1 : Int32) : Option (Int32) :=
  ob1 (F_M_nextBehind_L4 mst mwi mwc a1 fu (-1) 0) (fun v2_11 => some v2_11)
set_option maxHeartbeats 4000000 in
set_option maxRecDepth 100000 in
theorem t_M_nextBehind_L4 {p : Program} {l : Launch} {e : Env} {s : State} {m : MethodId} {args : Array Value} {below : List Frame} {meth : Method} {c : Code} {A : Nat → Prop} {g : va_G} {cI cJ cZ : ClassId} {ad : Nat → Nat} {rest : va_W} (K : kX p s m args meth c "LockTableModel" prog_6_method_24_code 4 (some .int) A g (kty cI cJ cZ)) {Q : State → Prop} (mth : Int32) (mst : Nat → Int32) (mse : Nat → Int32) (mla : Int32) (mmo : Nat → Int32) (mrc : Int32) (mro : Nat → Int32) (mrt : Nat → Int32) (mrm : Nat → Int32) (mrl : Nat → Int64) (mrh : Nat → Int64) (mwk : Nat → Int32) (mwt : Nat → Int32) (mwm : Nat → Int32) (mwl : Nat → Int64) (mwh : Nat → Int64) (mwi : Nat → Int32) (mwc : Nat → Int32) (mwx : Nat → Int32) (mar : Int32) (mli : Int32) (mgr : Int32) (mgo : Nat → Int32) (mre : Nat → Int32) (mfr : Int32) (v1 : Int32) : ∀ (n : Nat) (v2 : Int32) (v3 : Int32) (o_v2 : Int32) (H : Heap) (locs : List Loc) (ls : Array Slot), F_M_nextBehind_L4 mst mwi mwc v1 n v2 v3 = some o_v2 → va_P g kcl (wM cI cJ cZ ad mth mst mse mla mmo mrc mro mrt mrm mrl mrh mwk mwt mwm mwl mwh mwi mwc mwx mar mli mgr mgo mre mfr rest) H → va_D A (wM cI cJ cZ ad mth mst mse mla mmo mrc mro mrt mrm mrl mrh mwk mwt mwm mwl mwh mwi mwc mwx mar mli mgr mgo mre mfr rest) → va_S A s.heap H locs → lv_has ls 4 [(0, .ref (ad 0)), (1, .int v1), (2, .int v2), (3, .int v3)] → (∀ (H : Heap) (locs : List Loc) (ls : Array Slot), va_P g kcl (wM cI cJ cZ ad mth mst mse mla mmo mrc mro mrt mrm mrl mrh mwk mwt mwm mwl mwh mwi mwc mwx mar mli mgr mgo mre mfr rest) H → va_D A (wM cI cJ cZ ad mth mst mse mla mmo mrc mro mrt mrm mrl mrh mwk mwt mwm mwl mwh mwi mwc mwx mar mli mgr mgo mre mfr rest) → va_S A s.heap H locs → lv_has ls 4 [(2, .int o_v2)] → W p l e ({ frames := 1, cells := 0, slots := 0, locals := 22 }) s m args below meth c H locs 0 0 Q (F0 m 59 ls [])) → W p l e ({ frames := 1, cells := 0, slots := 0, locals := 22 }) s m args below meth c H locs 0 0 Q (F0 m 4 ls []) := by
  obtain ⟨hx, hb, hr, hml, hown, hts, hlocks, hK, hA, hE⟩ := id K
  intro n
  induction n with
  | zero =>
    intro v2 v3 o_v2 H locs ls hF
    rw [F_M_nextBehind_L4] at hF
    cases hF
  | succ n ih =>
    intro v2 v3 o_v2 H locs ls hF hP hD hS hl hQ
    rw [F_M_nextBehind_L4] at hF
    refine lv_iload_n hx hb d_M_nextBehind_4 rfl (lv_at hl 3 rfl) ?_
    refine lv_bipush (v := 8) hx hb d_M_nextBehind_5 (by decide) ?_
    refine lv_icmp_ge (tgt := 59) hx hb d_M_nextBehind_7 (by decide) (fun hc_1 => ?_) (fun hc_1 => ?_)
    · have hF := it_t hF hc_1
      cases hF
      exact hQ H locs ls hP hD hS (lv_sub hl [2] rfl)
    · have hF := it_f hF hc_1
      refine lv_aload_n hx hb d_M_nextBehind_10 rfl (lv_at hl 0 rfl) ?_
      refine va_get (D := g) (ci := 3) (v := .ref (ad 1)) (C := kR3) (T := kT3) (N := 25) hx hb hts kw3 hown hK hP 0 rfl rfl 1 (by decide) (hts _ wm_672) (fun _ h9 => h9) rfl d_M_nextBehind_11 ?_
      refine lv_iload_n hx hb d_M_nextBehind_14 rfl (lv_at hl 3 rfl) ?_
      obtain ⟨hg_2, hF⟩ := gd_inv hF
      refine va_iald hx hb hK hP 1 0 rfl rfl hg_2 d_M_nextBehind_15 ?_
      refine lv_iconst (v := 2) hx hb d_M_nextBehind_16 (by decide) ?_
      refine lv_icmp_ne (tgt := 53) hx hb d_M_nextBehind_17 (by decide) (fun hc_3 => ?_) (fun hc_3 => ?_)
      · have hF := it_f hF hc_3
        refine lv_iinc (v := v3 + 1) (lv' := [(3, .int (v3 + 1)), (0, .ref (ad 0)), (1, .int v1), (2, .int v2)]) hx hb d_M_nextBehind_53 hl (k := 3) rfl rfl (by decide) rfl (fun ls hl => ?_)
        refine lv_goto (tgt := 4) hx hb d_M_nextBehind_56 (by decide) ?_
        exact ih _ _ _ H locs ls hF hP hD hS (lv_sub hl [1, 2, 3, 0] rfl) hQ
      · have hF := it_t hF hc_3
        refine lv_iload_n hx hb d_M_nextBehind_20 rfl (lv_at hl 3 rfl) ?_
        refine lv_iload_n hx hb d_M_nextBehind_21 rfl (lv_at hl 1 rfl) ?_
        refine lv_icmp_eq (tgt := 53) hx hb d_M_nextBehind_22 (by decide) (fun hc_4 => ?_) (fun hc_4 => ?_)
        · have hF := it_t hF hc_4
          refine lv_iinc (v := v3 + 1) (lv' := [(3, .int (v3 + 1)), (0, .ref (ad 0)), (1, .int v1), (2, .int v2)]) hx hb d_M_nextBehind_53 hl (k := 3) rfl rfl (by decide) rfl (fun ls hl => ?_)
          refine lv_goto (tgt := 4) hx hb d_M_nextBehind_56 (by decide) ?_
          exact ih _ _ _ H locs ls hF hP hD hS (lv_sub hl [1, 2, 3, 0] rfl) hQ
        · have hF := it_f hF hc_4
          refine lv_iload_n hx hb d_M_nextBehind_25 rfl (lv_at hl 1 rfl) ?_
          obtain ⟨J38, eJ38, hF⟩ := jn0_inv hF
          have hJ38 : ∀  (H : Heap) (locs : List Loc) (ls : Array Slot), J38  = some o_v2 → va_P g kcl (wM cI cJ cZ ad mth mst mse mla mmo mrc mro mrt mrm mrl mrh mwk mwt mwm mwl mwh mwi mwc mwx mar mli mgr mgo mre mfr rest) H → va_D A (wM cI cJ cZ ad mth mst mse mla mmo mrc mro mrt mrm mrl mrh mwk mwt mwm mwl mwh mwi mwc mwx mar mli mgr mgo mre mfr rest) → va_S A s.heap H locs → lv_has ls 4 [(0, .ref (ad 0)), (1, .int v1), (2, .int v2), (3, .int v3)] → W p l e ({ frames := 1, cells := 0, slots := 0, locals := 22 }) s m args below meth c H locs 0 0 Q (F0 m 38 ls []) := by
            intro  H locs ls hF hP hD hS hl
            rw [eJ38] at hF
            refine lv_iload_n hx hb d_M_nextBehind_38 rfl (lv_at hl 2 rfl) ?_
            refine lv_if_lt (tgt := 51) hx hb d_M_nextBehind_39 (by decide) (fun hc_5 => ?_) (fun hc_5 => ?_)
            · have hF := it_t hF hc_5
              refine lv_iload_n hx hb d_M_nextBehind_51 rfl (lv_at hl 3 rfl) ?_
              refine lv_istore_n (lv' := [(2, .int v3), (0, .ref (ad 0)), (1, .int v1), (3, .int v3)]) hx hb d_M_nextBehind_52 rfl hl (by decide) rfl (fun ls hl => ?_)
              refine lv_iinc (v := v3 + 1) (lv' := [(3, .int (v3 + 1)), (2, .int v3), (0, .ref (ad 0)), (1, .int v1)]) hx hb d_M_nextBehind_53 hl (k := 3) rfl rfl (by decide) rfl (fun ls hl => ?_)
              refine lv_goto (tgt := 4) hx hb d_M_nextBehind_56 (by decide) ?_
              exact ih _ _ _ H locs ls hF hP hD hS (lv_sub hl [2, 3, 1, 0] rfl) hQ
            · have hF := it_f hF hc_5
              refine lv_aload_n hx hb d_M_nextBehind_42 rfl (lv_at hl 0 rfl) ?_
              refine lv_iload_n hx hb d_M_nextBehind_43 rfl (lv_at hl 3 rfl) ?_
              refine lv_iload_n hx hb d_M_nextBehind_44 rfl (lv_at hl 2 rfl) ?_
              obtain ⟨r_6, hG, hF⟩ := ob1_inv hF
              refine kci K hP hD hS (c_M_isBefore l g cI cJ cZ ad mth mst mse mla mmo mrc mro mrt mrm mrl mrh mwk mwt mwm mwl mwh mwi mwc mwx mar mli mgr mgo mre mfr rest v3 v2 r_6 hG) wm_819 wm_816 wm_818 wm_29 wm_50 hd_M_isBefore rfl rfl ⟨Nat.le_of_ble_eq_true rfl, Nat.le_of_ble_eq_true rfl⟩ ⟨Nat.zero_le _, Nat.zero_le _⟩ 3 0 rfl rfl rfl hl.1 (rest := []) rfl (Nat.le_of_ble_eq_true rfl) d_M_nextBehind_45 (fun H locs hP hD hS => ?_)
              refine lv_if_eq (tgt := 53) hx hb d_M_nextBehind_48 (by decide) (fun hc_7 => ?_) (fun hc_7 => ?_)
              · have hF := it_t hF hc_7
                refine lv_iinc (v := v3 + 1) (lv' := [(3, .int (v3 + 1)), (0, .ref (ad 0)), (1, .int v1), (2, .int v2)]) hx hb d_M_nextBehind_53 hl (k := 3) rfl rfl (by decide) rfl (fun ls hl => ?_)
                refine lv_goto (tgt := 4) hx hb d_M_nextBehind_56 (by decide) ?_
                exact ih _ _ _ H locs ls hF hP hD hS (lv_sub hl [1, 2, 3, 0] rfl) hQ
              · have hF := it_f hF hc_7
                refine lv_iload_n hx hb d_M_nextBehind_51 rfl (lv_at hl 3 rfl) ?_
                refine lv_istore_n (lv' := [(2, .int v3), (0, .ref (ad 0)), (1, .int v1), (3, .int v3)]) hx hb d_M_nextBehind_52 rfl hl (by decide) rfl (fun ls hl => ?_)
                refine lv_iinc (v := v3 + 1) (lv' := [(3, .int (v3 + 1)), (2, .int v3), (0, .ref (ad 0)), (1, .int v1)]) hx hb d_M_nextBehind_53 hl (k := 3) rfl rfl (by decide) rfl (fun ls hl => ?_)
                refine lv_goto (tgt := 4) hx hb d_M_nextBehind_56 (by decide) ?_
                exact ih _ _ _ H locs ls hF hP hD hS (lv_sub hl [2, 3, 1, 0] rfl) hQ
          refine lv_if_lt (tgt := 38) hx hb d_M_nextBehind_26 (by decide) (fun hc_8 => ?_) (fun hc_8 => ?_)
          · have hF := it_t hF hc_8
            exact hJ38  H locs ls hF hP hD hS (lv_sub hl [0, 1, 2, 3] rfl)
          · have hF := it_f hF hc_8
            refine lv_aload_n hx hb d_M_nextBehind_29 rfl (lv_at hl 0 rfl) ?_
            refine lv_iload_n hx hb d_M_nextBehind_30 rfl (lv_at hl 1 rfl) ?_
            refine lv_iload_n hx hb d_M_nextBehind_31 rfl (lv_at hl 3 rfl) ?_
            obtain ⟨r_9, hG, hF⟩ := ob1_inv hF
            refine kci K hP hD hS (c_M_isBefore l g cI cJ cZ ad mth mst mse mla mmo mrc mro mrt mrm mrl mrh mwk mwt mwm mwl mwh mwi mwc mwx mar mli mgr mgo mre mfr rest v1 v3 r_9 hG) wm_819 wm_816 wm_818 wm_29 wm_50 hd_M_isBefore rfl rfl ⟨Nat.le_of_ble_eq_true rfl, Nat.le_of_ble_eq_true rfl⟩ ⟨Nat.zero_le _, Nat.zero_le _⟩ 3 0 rfl rfl rfl hl.1 (rest := []) rfl (Nat.le_of_ble_eq_true rfl) d_M_nextBehind_32 (fun H locs hP hD hS => ?_)
            refine lv_if_eq (tgt := 53) hx hb d_M_nextBehind_35 (by decide) (fun hc_10 => ?_) (fun hc_10 => ?_)
            · have hF := it_t hF hc_10
              refine lv_iinc (v := v3 + 1) (lv' := [(3, .int (v3 + 1)), (0, .ref (ad 0)), (1, .int v1), (2, .int v2)]) hx hb d_M_nextBehind_53 hl (k := 3) rfl rfl (by decide) rfl (fun ls hl => ?_)
              refine lv_goto (tgt := 4) hx hb d_M_nextBehind_56 (by decide) ?_
              exact ih _ _ _ H locs ls hF hP hD hS (lv_sub hl [1, 2, 3, 0] rfl) hQ
            · have hF := it_f hF hc_10
              exact hJ38  H locs ls hF hP hD hS (lv_sub hl [0, 1, 2, 3] rfl)
set_option maxHeartbeats 4000000 in
set_option maxRecDepth 100000 in
theorem t_M_nextBehind {p : Program} {l : Launch} {e : Env} {s : State} {m : MethodId} {args : Array Value} {below : List Frame} {meth : Method} {c : Code} {A : Nat → Prop} {g : va_G} {cI cJ cZ : ClassId} {ad : Nat → Nat} {rest : va_W} (K : kX p s m args meth c "LockTableModel" prog_6_method_24_code 4 (some .int) A g (kty cI cJ cZ)) (mth : Int32) (mst : Nat → Int32) (mse : Nat → Int32) (mla : Int32) (mmo : Nat → Int32) (mrc : Int32) (mro : Nat → Int32) (mrt : Nat → Int32) (mrm : Nat → Int32) (mrl : Nat → Int64) (mrh : Nat → Int64) (mwk : Nat → Int32) (mwt : Nat → Int32) (mwm : Nat → Int32) (mwl : Nat → Int64) (mwh : Nat → Int64) (mwi : Nat → Int32) (mwc : Nat → Int32) (mwx : Nat → Int32) (mar : Int32) (mli : Int32) (mgr : Int32) (mgo : Nat → Int32) (mre : Nat → Int32) (mfr : Int32) (a1 : Int32) (r : Int32) (hF : F_M_nextBehind mst mwi mwc a1 = some r) {H : Heap} {locs : List Loc} {ls : Array Slot} (hP : va_P g kcl (wM cI cJ cZ ad mth mst mse mla mmo mrc mro mrt mrm mrl mrh mwk mwt mwm mwl mwh mwi mwc mwx mar mli mgr mgo mre mfr rest) H) (hD : va_D A (wM cI cJ cZ ad mth mst mse mla mmo mrc mro mrt mrm mrl mrh mwk mwt mwm mwl mwh mwi mwc mwx mar mli mgr mgo mre mfr rest)) (hS : va_S A s.heap H locs) (hl : lv_has ls 4 [(0, .ref (ad 0)), (1, .int a1)]) : W p l e ({ frames := 1, cells := 0, slots := 0, locals := 22 }) s m args below meth c H locs 0 0 (MQ below (kQi g (kty cI cJ cZ) (wM cI cJ cZ ad mth mst mse mla mmo mrc mro mrt mrm mrl mrh mwk mwt mwm mwl mwh mwi mwc mwx mar mli mgr mgo mre mfr rest) A r) args s 0 0 A) (F0 m 0 ls []) := by
  obtain ⟨hx, hb, hr, hml, hown, hts, hlocks, hK, hA, hE⟩ := id K
  unfold F_M_nextBehind at hF
  refine lv_iconst (v := (-1)) hx hb d_M_nextBehind_0 (by decide) ?_
  refine lv_istore_n (lv' := [(2, .int (-1)), (0, .ref (ad 0)), (1, .int a1)]) hx hb d_M_nextBehind_1 rfl hl (by decide) rfl (fun ls hl => ?_)
  refine lv_iconst (v := 0) hx hb d_M_nextBehind_2 (by decide) ?_
  refine lv_istore_n (lv' := [(3, .int 0), (2, .int (-1)), (0, .ref (ad 0)), (1, .int a1)]) hx hb d_M_nextBehind_3 rfl hl (by decide) rfl (fun ls hl => ?_)
  obtain ⟨v2_11, hG, hF⟩ := ob1_inv hF
  refine t_M_nextBehind_L4 K mth mst mse mla mmo mrc mro mrt mrm mrl mrh mwk mwt mwm mwl mwh mwi mwc mwx mar mli mgr mgo mre mfr a1 fu _ _ _ H locs ls hG hP hD hS (lv_sub hl [2, 3, 1, 0] rfl) (fun H locs ls hP hD hS hl => ?_)
  refine lv_iload_n hx hb d_M_nextBehind_59 rfl (lv_at hl 0 rfl) ?_
  cases hF
  exact kri K hP hD hS d_M_nextBehind_60 rfl
theorem c_M_nextBehind (l : Launch) (g : va_G) (cI cJ cZ : ClassId) (ad : Nat → Nat) (mth : Int32) (mst : Nat → Int32) (mse : Nat → Int32) (mla : Int32) (mmo : Nat → Int32) (mrc : Int32) (mro : Nat → Int32) (mrt : Nat → Int32) (mrm : Nat → Int32) (mrl : Nat → Int64) (mrh : Nat → Int64) (mwk : Nat → Int32) (mwt : Nat → Int32) (mwm : Nat → Int32) (mwl : Nat → Int64) (mwh : Nat → Int64) (mwi : Nat → Int32) (mwc : Nat → Int32) (mwx : Nat → Int32) (mar : Int32) (mli : Int32) (mgr : Int32) (mgo : Nat → Int32) (mre : Nat → Int32) (mfr : Int32) (rest : va_W) (a1 : Int32) (r : Int32) (hF : F_M_nextBehind mst mwi mwc a1 = some r) : Ci l y_M_nextBehind prog_6_method_24_code 4 (some .int) ({ frames := 1, cells := 0, slots := 0, locals := 22 }) [.ref (ad 0), .int a1] g (kty cI cJ cZ) (wM cI cJ cZ ad mth mst mse mla mmo mrc mro mrt mrm mrl mrh mwk mwt mwm mwl mwh mwi mwc mwx mar mli mgr mgo mre mfr rest) (wM cI cJ cZ ad mth mst mse mla mmo mrc mro mrt mrm mrl mrh mwk mwt mwm mwl mwh mwi mwc mwx mar mli mgr mgo mre mfr rest) r :=
  Ci.of (by decide) (Nat.le_of_ble_eq_true rfl) (fun p e s m below meth c A ls K hP hD hS hl => t_M_nextBehind K mth mst mse mla mmo mrc mro mrt mrm mrl mrh mwk mwt mwm mwl mwh mwi mwc mwx mar mli mgr mgo mre mfr a1 r hF hP hD hS hl)
def F_M_look_L23 (mwk : Nat → Int32) (mwt : Nat → Int32) (mwm : Nat → Int32) (mwl : Nat → Int64) (mwh : Nat → Int64) (mwi : Nat → Int32) (mwc : Nat → Int32) (v1 : Int32) : Nat → (Nat → Int32) → (Nat → Int32) → Int32 → (Nat → Int32) → (Nat → Int32) → (Nat → Int32) → (Nat → Int64) → (Nat → Int64) → Int32 → (Nat → Int32) → Int32 → Int32 → Option ((Nat → Int32) × (Nat → Int32) × Int32 × (Nat → Int32) × (Nat → Int32) × (Nat → Int32) × (Nat → Int64) × (Nat → Int64) × Int32 × (Nat → Int32) × Int32)
  | 0, _, _, _, _, _, _, _, _, _, _, _, _ => none
  | n + 1, mst, mmo, mrc, mro, mrt, mrm, mrl, mrh, mgr, mgo, mfr, v2 => if v2 < 0 then some (mst, mmo, mrc, mro, mrt, mrm, mrl, mrh, mgr, mgo, mfr) else ob1 (F_M_nextBehind mst mwi mwc v2) (fun r_4 => ob1 (F_M_behindOf mst mmo mrc mro mrt mrm mrl mrh mwk mwt mwm mwl mwh mwi mwc v2) (fun r_5 => if r_5 = 0 then ob9 (F_M_grant mst mmo mrc mro mrt mrm mrl mrh mwk mwt mwm mwl mwh mfr v2) (fun mst_7 mmo_8 mrc_9 mro_10 mrt_11 mrm_12 mrl_13 mrh_14 mfr_15 => if v2 = v1 then F_M_look_L23 mwk mwt mwm mwl mwh mwi mwc v1 n mst_7 mmo_8 mrc_9 mro_10 mrt_11 mrm_12 mrl_13 mrh_14 mgr mgo mfr_15 r_4 else gd (mgr < 0 ∨ 64 ≤ mgr.toNatClampNeg) (F_M_look_L23 mwk mwt mwm mwl mwh mwi mwc v1 n mst_7 mmo_8 mrc_9 mro_10 mrt_11 mrm_12 mrl_13 mrh_14 (mgr + 1) (upd mgo mgr.toNatClampNeg v2) mfr_15 r_4)) else F_M_look_L23 mwk mwt mwm mwl mwh mwi mwc v1 n mst mmo mrc mro mrt mrm mrl mrh mgr mgo mfr r_4))
def F_M_look_L5 (mwk : Nat → Int32) (mwt : Nat → Int32) (mwm : Nat → Int32) (mwl : Nat → Int64) (mwh : Nat → Int64) (mwi : Nat → Int32) (mwc : Nat → Int32) (v1 : Int32) : Nat → (Nat → Int32) → (Nat → Int32) → Int32 → (Nat → Int32) → (Nat → Int32) → (Nat → Int32) → (Nat → Int64) → (Nat → Int64) → Int32 → (Nat → Int32) → Int32 → Option ((Nat → Int32) × (Nat → Int32) × Int32 × (Nat → Int32) × (Nat → Int32) × (Nat → Int32) × (Nat → Int64) × (Nat → Int64) × Int32 × (Nat → Int32) × Int32)
  | 0, _, _, _, _, _, _, _, _, _, _, _ => none
  | n + 1, mst, mmo, mrc, mro, mrt, mrm, mrl, mrh, mgr, mgo, mfr => if mfr = 0 then some (mst, mmo, mrc, mro, mrt, mrm, mrl, mrh, mgr, mgo, mfr) else ob1 (F_M_nextBehind mst mwi mwc (-1)) (fun r_2 => ob11 (F_M_look_L23 mwk mwt mwm mwl mwh mwi mwc v1 fu mst mmo mrc mro mrt mrm mrl mrh mgr mgo 0 r_2) (fun mst_18 mmo_19 mrc_20 mro_21 mrt_22 mrm_23 mrl_24 mrh_25 mgr_26 mgo_27 mfr_28 => F_M_look_L5 mwk mwt mwm mwl mwh mwi mwc v1 n mst_18 mmo_19 mrc_20 mro_21 mrt_22 mrm_23 mrl_24 mrh_25 mgr_26 mgo_27 mfr_28))
def F_M_look (mst : Nat → Int32) (mmo : Nat → Int32) (mrc : Int32) (mro : Nat → Int32) (mrt : Nat → Int32) (mrm : Nat → Int32) (mrl : Nat → Int64) (mrh : Nat → Int64) (mwk : Nat → Int32) (mwt : Nat → Int32) (mwm : Nat → Int32) (mwl : Nat → Int64) (mwh : Nat → Int64) (mwi : Nat → Int32) (mwc : Nat → Int32) (mgr : Int32) (mgo : Nat → Int32) (mfr : Int32) (a1 : Int32) : Option ((Nat → Int32) × (Nat → Int32) × Int32 × (Nat → Int32) × (Nat → Int32) × (Nat → Int32) × (Nat → Int64) × (Nat → Int64) × Int32 × (Nat → Int32) × Int32) :=
  ob11 (F_M_look_L5 mwk mwt mwm mwl mwh mwi mwc a1 fu mst mmo mrc mro mrt mrm mrl mrh mgr mgo 1) (fun mst_29 mmo_30 mrc_31 mro_32 mrt_33 mrm_34 mrl_35 mrh_36 mgr_37 mgo_38 mfr_39 => some (mst_29, mmo_30, mrc_31, mro_32, mrt_33, mrm_34, mrl_35, mrh_36, mgr_37, mgo_38, mfr_39))
set_option maxHeartbeats 4000000 in
set_option maxRecDepth 100000 in
theorem t_M_look_L23 {p : Program} {l : Launch} {e : Env} {s : State} {m : MethodId} {args : Array Value} {below : List Frame} {meth : Method} {c : Code} {A : Nat → Prop} {g : va_G} {cI cJ cZ : ClassId} {ad : Nat → Nat} {rest : va_W} (K : kX p s m args meth c "LockTableModel" prog_6_method_25_code 4 none A g (kty cI cJ cZ)) {Q : State → Prop} (mth : Int32) (mse : Nat → Int32) (mla : Int32) (mwk : Nat → Int32) (mwt : Nat → Int32) (mwm : Nat → Int32) (mwl : Nat → Int64) (mwh : Nat → Int64) (mwi : Nat → Int32) (mwc : Nat → Int32) (mwx : Nat → Int32) (mar : Int32) (mli : Int32) (mre : Nat → Int32) (v1 : Int32) : ∀ (n : Nat) (mst : Nat → Int32) (mmo : Nat → Int32) (mrc : Int32) (mro : Nat → Int32) (mrt : Nat → Int32) (mrm : Nat → Int32) (mrl : Nat → Int64) (mrh : Nat → Int64) (mgr : Int32) (mgo : Nat → Int32) (mfr : Int32) (v2 : Int32) (o_mst : Nat → Int32) (o_mmo : Nat → Int32) (o_mrc : Int32) (o_mro : Nat → Int32) (o_mrt : Nat → Int32) (o_mrm : Nat → Int32) (o_mrl : Nat → Int64) (o_mrh : Nat → Int64) (o_mgr : Int32) (o_mgo : Nat → Int32) (o_mfr : Int32) (H : Heap) (locs : List Loc) (ls : Array Slot), F_M_look_L23 mwk mwt mwm mwl mwh mwi mwc v1 n mst mmo mrc mro mrt mrm mrl mrh mgr mgo mfr v2 = some (o_mst, o_mmo, o_mrc, o_mro, o_mrt, o_mrm, o_mrl, o_mrh, o_mgr, o_mgo, o_mfr) → va_P g kcl (wM cI cJ cZ ad mth mst mse mla mmo mrc mro mrt mrm mrl mrh mwk mwt mwm mwl mwh mwi mwc mwx mar mli mgr mgo mre mfr rest) H → va_D A (wM cI cJ cZ ad mth mst mse mla mmo mrc mro mrt mrm mrl mrh mwk mwt mwm mwl mwh mwi mwc mwx mar mli mgr mgo mre mfr rest) → va_S A s.heap H locs → lv_has ls 4 [(0, .ref (ad 0)), (1, .int v1), (2, .int v2)] → (∀ (H : Heap) (locs : List Loc) (ls : Array Slot), va_P g kcl (wM cI cJ cZ ad mth o_mst mse mla o_mmo o_mrc o_mro o_mrt o_mrm o_mrl o_mrh mwk mwt mwm mwl mwh mwi mwc mwx mar mli o_mgr o_mgo mre o_mfr rest) H → va_D A (wM cI cJ cZ ad mth o_mst mse mla o_mmo o_mrc o_mro o_mrt o_mrm o_mrl o_mrh mwk mwt mwm mwl mwh mwi mwc mwx mar mli o_mgr o_mgo mre o_mfr rest) → va_S A s.heap H locs → lv_has ls 4 [(0, .ref (ad 0)), (1, .int v1)] → W p l e ({ frames := 5, cells := 0, slots := 0, locals := 117 }) s m args below meth c H locs 0 0 Q (F0 m 76 ls [])) → W p l e ({ frames := 5, cells := 0, slots := 0, locals := 117 }) s m args below meth c H locs 0 0 Q (F0 m 23 ls []) := by
  obtain ⟨hx, hb, hr, hml, hown, hts, hlocks, hK, hA, hE⟩ := id K
  intro n
  induction n with
  | zero =>
    intro mst mmo mrc mro mrt mrm mrl mrh mgr mgo mfr v2 o_mst o_mmo o_mrc o_mro o_mrt o_mrm o_mrl o_mrh o_mgr o_mgo o_mfr H locs ls hF
    rw [F_M_look_L23] at hF
    cases hF
  | succ n ih =>
    intro mst mmo mrc mro mrt mrm mrl mrh mgr mgo mfr v2 o_mst o_mmo o_mrc o_mro o_mrt o_mrm o_mrl o_mrh o_mgr o_mgo o_mfr H locs ls hF hP hD hS hl hQ
    rw [F_M_look_L23] at hF
    refine lv_iload_n hx hb d_M_look_23 rfl (lv_at hl 2 rfl) ?_
    refine lv_if_lt (tgt := 76) hx hb d_M_look_24 (by decide) (fun hc_3 => ?_) (fun hc_3 => ?_)
    · have hF := it_t hF hc_3
      cases hF
      exact hQ H locs ls hP hD hS (lv_sub hl [0, 1] rfl)
    · have hF := it_f hF hc_3
      refine lv_aload_n hx hb d_M_look_27 rfl (lv_at hl 0 rfl) ?_
      refine lv_iload_n hx hb d_M_look_28 rfl (lv_at hl 2 rfl) ?_
      obtain ⟨r_4, hG, hF⟩ := ob1_inv hF
      refine kci K hP hD hS (c_M_nextBehind l g cI cJ cZ ad mth mst mse mla mmo mrc mro mrt mrm mrl mrh mwk mwt mwm mwl mwh mwi mwc mwx mar mli mgr mgo mre mfr rest v2 r_4 hG) wm_839 wm_836 wm_838 wm_34 wm_50 hd_M_nextBehind rfl rfl ⟨Nat.le_of_ble_eq_true rfl, Nat.le_of_ble_eq_true rfl⟩ ⟨Nat.zero_le _, Nat.zero_le _⟩ 3 0 rfl rfl rfl hl.1 (rest := []) rfl (Nat.le_of_ble_eq_true rfl) d_M_look_29 (fun H locs hP hD hS => ?_)
      refine lv_istore_n (lv' := [(3, .int r_4), (0, .ref (ad 0)), (1, .int v1), (2, .int v2)]) hx hb d_M_look_32 rfl hl (by decide) rfl (fun ls hl => ?_)
      refine lv_aload_n hx hb d_M_look_33 rfl (lv_at hl 1 rfl) ?_
      refine lv_iload_n hx hb d_M_look_34 rfl (lv_at hl 3 rfl) ?_
      obtain ⟨r_5, hG, hF⟩ := ob1_inv hF
      refine kci K hP hD hS (c_M_behindOf l g cI cJ cZ ad mth mst mse mla mmo mrc mro mrt mrm mrl mrh mwk mwt mwm mwl mwh mwi mwc mwx mar mli mgr mgo mre mfr rest v2 r_5 hG) wm_796 wm_793 wm_795 wm_24 wm_50 hd_M_behindOf rfl rfl ⟨Nat.le_of_ble_eq_true rfl, Nat.le_of_ble_eq_true rfl⟩ ⟨Nat.zero_le _, Nat.zero_le _⟩ 3 0 rfl rfl rfl hl.1 (rest := []) rfl (Nat.le_of_ble_eq_true rfl) d_M_look_35 (fun H locs hP hD hS => ?_)
      refine lv_if_ne (tgt := 71) hx hb d_M_look_38 (by decide) (fun hc_6 => ?_) (fun hc_6 => ?_)
      · have hF := it_f hF hc_6
        refine lv_iload_n hx hb d_M_look_71 rfl (lv_at hl 0 rfl) ?_
        refine lv_istore_n (lv' := [(2, .int r_4), (3, .int r_4), (0, .ref (ad 0)), (1, .int v1)]) hx hb d_M_look_72 rfl hl (by decide) rfl (fun ls hl => ?_)
        refine lv_goto (tgt := 23) hx hb d_M_look_73 (by decide) ?_
        exact ih _ _ _ _ _ _ _ _ _ _ _ _ _ _ _ _ _ _ _ _ _ _ _ H locs ls hF hP hD hS (lv_sub hl [2, 3, 0] rfl) hQ
      · have hF := it_t hF hc_6
        refine lv_aload_n hx hb d_M_look_41 rfl (lv_at hl 1 rfl) ?_
        refine lv_iload_n hx hb d_M_look_42 rfl (lv_at hl 3 rfl) ?_
        obtain ⟨mst_7, mmo_8, mrc_9, mro_10, mrt_11, mrm_12, mrl_13, mrh_14, mfr_15, hG, hF⟩ := ob9_inv hF
        refine kcv K hP hD hS (c_M_grant l g cI cJ cZ ad mth mst mse mla mmo mrc mro mrt mrm mrl mrh mwk mwt mwm mwl mwh mwi mwc mwx mar mli mgr mgo mre mfr rest v2 mst_7 mmo_8 mrc_9 mro_10 mrt_11 mrm_12 mrl_13 mrh_14 mfr_15 hG) wm_823 wm_820 wm_822 wm_30 wm_50 hd_M_grant rfl rfl ⟨Nat.le_of_ble_eq_true rfl, Nat.le_of_ble_eq_true rfl⟩ ⟨Nat.zero_le _, Nat.zero_le _⟩ 3 0 rfl rfl rfl hl.1 (rest := []) rfl (Nat.le_of_ble_eq_true rfl) d_M_look_43 (fun H locs hP hD hS => ?_)
        refine lv_iload_n hx hb d_M_look_46 rfl (lv_at hl 3 rfl) ?_
        refine lv_iload_n hx hb d_M_look_47 rfl (lv_at hl 2 rfl) ?_
        refine lv_icmp_eq (tgt := 71) hx hb d_M_look_48 (by decide) (fun hc_16 => ?_) (fun hc_16 => ?_)
        · have hF := it_t hF hc_16
          refine lv_iload_n hx hb d_M_look_71 rfl (lv_at hl 0 rfl) ?_
          refine lv_istore_n (lv' := [(2, .int r_4), (3, .int r_4), (0, .ref (ad 0)), (1, .int v1)]) hx hb d_M_look_72 rfl hl (by decide) rfl (fun ls hl => ?_)
          refine lv_goto (tgt := 23) hx hb d_M_look_73 (by decide) ?_
          exact ih _ _ _ _ _ _ _ _ _ _ _ _ _ _ _ _ _ _ _ _ _ _ _ H locs ls hF hP hD hS (lv_sub hl [2, 3, 0] rfl) hQ
        · have hF := it_f hF hc_16
          refine lv_aload_n hx hb d_M_look_51 rfl (lv_at hl 1 rfl) ?_
          refine va_get (D := g) (ci := 3) (v := .ref (ad 17)) (C := kR3) (T := kT3) (N := 25) hx hb hts kw3 hown hK hP 0 rfl rfl 22 (by decide) (hts _ wm_693) (fun _ h9 => h9) rfl d_M_look_52 ?_
          refine lv_aload_n hx hb d_M_look_55 rfl (lv_at hl 1 rfl) ?_
          refine va_get (D := g) (ci := 3) (v := .int mgr) (C := kR3) (T := kT3) (N := 25) hx hb hts kw3 hown hK hP 0 rfl rfl 21 (by decide) (hts _ wm_692) (fun _ h9 => h9) rfl d_M_look_56 ?_
          refine lv_iload_n hx hb d_M_look_59 rfl (lv_at hl 3 rfl) ?_
          obtain ⟨hg_17, hF⟩ := gd_inv hF
          refine va_iast hx hb hK hP hD hS 17 0 rfl rfl hg_17 d_M_look_60 (fun H locs hP hD hS => ?_)
          have hP : va_P g kcl (wM cI cJ cZ ad mth mst_7 mse mla mmo_8 mrc_9 mro_10 mrt_11 mrm_12 mrl_13 mrh_14 mwk mwt mwm mwl mwh mwi mwc mwx mar mli mgr (upd mgo mgr.toNatClampNeg v2) mre mfr_15 rest) H := hP
          have hD : va_D A (wM cI cJ cZ ad mth mst_7 mse mla mmo_8 mrc_9 mro_10 mrt_11 mrm_12 mrl_13 mrh_14 mwk mwt mwm mwl mwh mwi mwc mwx mar mli mgr (upd mgo mgr.toNatClampNeg v2) mre mfr_15 rest) := hD
          refine lv_aload_n hx hb d_M_look_61 rfl (lv_at hl 1 rfl) ?_
          refine lv_dup hx hb d_M_look_62 rfl ?_
          refine va_get (D := g) (ci := 3) (v := .int mgr) (C := kR3) (T := kT3) (N := 25) hx hb hts kw3 hown hK hP 0 rfl rfl 21 (by decide) (hts _ wm_692) (fun _ h9 => h9) rfl d_M_look_63 ?_
          refine lv_iconst (v := 1) hx hb d_M_look_66 (by decide) ?_
          refine lv_iadd hx hb d_M_look_67 ?_
          refine va_put (D := g) (ci := 3) (v := .int (mgr + 1)) (ty := .int) (C := kR3) (T := kT3) (N := 25) hx hb hts kw3 kt3 ko3 kn3 hown hK hP hD hS 0 rfl rfl 21 (by decide) (hts _ wm_692) (fun _ h9 => h9) rfl (by decide +kernel) rfl rfl (Nat.le_of_ble_eq_true rfl) d_M_look_68 (fun H locs hP hD hS => ?_)
          have hP : va_P g kcl (wM cI cJ cZ ad mth mst_7 mse mla mmo_8 mrc_9 mro_10 mrt_11 mrm_12 mrl_13 mrh_14 mwk mwt mwm mwl mwh mwi mwc mwx mar mli (mgr + 1) (upd mgo mgr.toNatClampNeg v2) mre mfr_15 rest) H := hP
          have hD : va_D A (wM cI cJ cZ ad mth mst_7 mse mla mmo_8 mrc_9 mro_10 mrt_11 mrm_12 mrl_13 mrh_14 mwk mwt mwm mwl mwh mwi mwc mwx mar mli (mgr + 1) (upd mgo mgr.toNatClampNeg v2) mre mfr_15 rest) := hD
          refine lv_iload_n hx hb d_M_look_71 rfl (lv_at hl 0 rfl) ?_
          refine lv_istore_n (lv' := [(2, .int r_4), (3, .int r_4), (0, .ref (ad 0)), (1, .int v1)]) hx hb d_M_look_72 rfl hl (by decide) rfl (fun ls hl => ?_)
          refine lv_goto (tgt := 23) hx hb d_M_look_73 (by decide) ?_
          exact ih _ _ _ _ _ _ _ _ _ _ _ _ _ _ _ _ _ _ _ _ _ _ _ H locs ls hF hP hD hS (lv_sub hl [2, 3, 0] rfl) hQ
set_option maxHeartbeats 4000000 in
set_option maxRecDepth 100000 in
theorem t_M_look_L5 {p : Program} {l : Launch} {e : Env} {s : State} {m : MethodId} {args : Array Value} {below : List Frame} {meth : Method} {c : Code} {A : Nat → Prop} {g : va_G} {cI cJ cZ : ClassId} {ad : Nat → Nat} {rest : va_W} (K : kX p s m args meth c "LockTableModel" prog_6_method_25_code 4 none A g (kty cI cJ cZ)) {Q : State → Prop} (mth : Int32) (mse : Nat → Int32) (mla : Int32) (mwk : Nat → Int32) (mwt : Nat → Int32) (mwm : Nat → Int32) (mwl : Nat → Int64) (mwh : Nat → Int64) (mwi : Nat → Int32) (mwc : Nat → Int32) (mwx : Nat → Int32) (mar : Int32) (mli : Int32) (mre : Nat → Int32) (v1 : Int32) : ∀ (n : Nat) (mst : Nat → Int32) (mmo : Nat → Int32) (mrc : Int32) (mro : Nat → Int32) (mrt : Nat → Int32) (mrm : Nat → Int32) (mrl : Nat → Int64) (mrh : Nat → Int64) (mgr : Int32) (mgo : Nat → Int32) (mfr : Int32) (o_mst : Nat → Int32) (o_mmo : Nat → Int32) (o_mrc : Int32) (o_mro : Nat → Int32) (o_mrt : Nat → Int32) (o_mrm : Nat → Int32) (o_mrl : Nat → Int64) (o_mrh : Nat → Int64) (o_mgr : Int32) (o_mgo : Nat → Int32) (o_mfr : Int32) (H : Heap) (locs : List Loc) (ls : Array Slot), F_M_look_L5 mwk mwt mwm mwl mwh mwi mwc v1 n mst mmo mrc mro mrt mrm mrl mrh mgr mgo mfr = some (o_mst, o_mmo, o_mrc, o_mro, o_mrt, o_mrm, o_mrl, o_mrh, o_mgr, o_mgo, o_mfr) → va_P g kcl (wM cI cJ cZ ad mth mst mse mla mmo mrc mro mrt mrm mrl mrh mwk mwt mwm mwl mwh mwi mwc mwx mar mli mgr mgo mre mfr rest) H → va_D A (wM cI cJ cZ ad mth mst mse mla mmo mrc mro mrt mrm mrl mrh mwk mwt mwm mwl mwh mwi mwc mwx mar mli mgr mgo mre mfr rest) → va_S A s.heap H locs → lv_has ls 4 [(0, .ref (ad 0)), (1, .int v1)] → (∀ (H : Heap) (locs : List Loc) (ls : Array Slot), va_P g kcl (wM cI cJ cZ ad mth o_mst mse mla o_mmo o_mrc o_mro o_mrt o_mrm o_mrl o_mrh mwk mwt mwm mwl mwh mwi mwc mwx mar mli o_mgr o_mgo mre o_mfr rest) H → va_D A (wM cI cJ cZ ad mth o_mst mse mla o_mmo o_mrc o_mro o_mrt o_mrm o_mrl o_mrh mwk mwt mwm mwl mwh mwi mwc mwx mar mli o_mgr o_mgo mre o_mfr rest) → va_S A s.heap H locs → lv_has ls 4 [] → W p l e ({ frames := 5, cells := 0, slots := 0, locals := 117 }) s m args below meth c H locs 0 0 Q (F0 m 79 ls [])) → W p l e ({ frames := 5, cells := 0, slots := 0, locals := 117 }) s m args below meth c H locs 0 0 Q (F0 m 5 ls []) := by
  obtain ⟨hx, hb, hr, hml, hown, hts, hlocks, hK, hA, hE⟩ := id K
  intro n
  induction n with
  | zero =>
    intro mst mmo mrc mro mrt mrm mrl mrh mgr mgo mfr o_mst o_mmo o_mrc o_mro o_mrt o_mrm o_mrl o_mrh o_mgr o_mgo o_mfr H locs ls hF
    rw [F_M_look_L5] at hF
    cases hF
  | succ n ih =>
    intro mst mmo mrc mro mrt mrm mrl mrh mgr mgo mfr o_mst o_mmo o_mrc o_mro o_mrt o_mrm o_mrl o_mrh o_mgr o_mgo o_mfr H locs ls hF hP hD hS hl hQ
    rw [F_M_look_L5] at hF
    refine lv_aload_n hx hb d_M_look_5 rfl (lv_at hl 0 rfl) ?_
    refine va_get (D := g) (ci := 3) (v := .int mfr) (C := kR3) (T := kT3) (N := 25) hx hb hts kw3 hown hK hP 0 rfl rfl 24 (by decide) (hts _ wm_695) (fun _ h9 => h9) rfl d_M_look_6 ?_
    refine lv_if_eq (tgt := 79) hx hb d_M_look_9 (by decide) (fun hc_1 => ?_) (fun hc_1 => ?_)
    · have hF := it_t hF hc_1
      cases hF
      exact hQ H locs ls hP hD hS (lv_sub hl [] rfl)
    · have hF := it_f hF hc_1
      refine lv_aload_n hx hb d_M_look_12 rfl (lv_at hl 0 rfl) ?_
      refine lv_iconst (v := 0) hx hb d_M_look_13 (by decide) ?_
      refine va_put (D := g) (ci := 3) (v := .int 0) (ty := .boolean) (C := kR3) (T := kT3) (N := 25) hx hb hts kw3 kt3 ko3 kn3 hown hK hP hD hS 0 rfl rfl 24 (by decide) (hts _ wm_695) (fun _ h9 => h9) rfl (by decide +kernel) rfl rfl (Nat.le_of_ble_eq_true rfl) d_M_look_14 (fun H locs hP hD hS => ?_)
      have hP : va_P g kcl (wM cI cJ cZ ad mth mst mse mla mmo mrc mro mrt mrm mrl mrh mwk mwt mwm mwl mwh mwi mwc mwx mar mli mgr mgo mre 0 rest) H := hP
      have hD : va_D A (wM cI cJ cZ ad mth mst mse mla mmo mrc mro mrt mrm mrl mrh mwk mwt mwm mwl mwh mwi mwc mwx mar mli mgr mgo mre 0 rest) := hD
      refine lv_aload_n hx hb d_M_look_17 rfl (lv_at hl 0 rfl) ?_
      refine lv_iconst (v := (-1)) hx hb d_M_look_18 (by decide) ?_
      obtain ⟨r_2, hG, hF⟩ := ob1_inv hF
      refine kci K hP hD hS (c_M_nextBehind l g cI cJ cZ ad mth mst mse mla mmo mrc mro mrt mrm mrl mrh mwk mwt mwm mwl mwh mwi mwc mwx mar mli mgr mgo mre 0 rest (-1) r_2 hG) wm_839 wm_836 wm_838 wm_34 wm_50 hd_M_nextBehind rfl rfl ⟨Nat.le_of_ble_eq_true rfl, Nat.le_of_ble_eq_true rfl⟩ ⟨Nat.zero_le _, Nat.zero_le _⟩ 3 0 rfl rfl rfl hl.1 (rest := []) rfl (Nat.le_of_ble_eq_true rfl) d_M_look_19 (fun H locs hP hD hS => ?_)
      refine lv_istore_n (lv' := [(2, .int r_2), (0, .ref (ad 0)), (1, .int v1)]) hx hb d_M_look_22 rfl hl (by decide) rfl (fun ls hl => ?_)
      obtain ⟨mst_18, mmo_19, mrc_20, mro_21, mrt_22, mrm_23, mrl_24, mrh_25, mgr_26, mgo_27, mfr_28, hG, hF⟩ := ob11_inv hF
      refine t_M_look_L23 K mth mse mla mwk mwt mwm mwl mwh mwi mwc mwx mar mli mre v1 fu _ _ _ _ _ _ _ _ _ _ _ _ _ _ _ _ _ _ _ _ _ _ _ H locs ls hG hP hD hS (lv_sub hl [1, 2, 0] rfl) (fun H locs ls hP hD hS hl => ?_)
      refine lv_goto (tgt := 5) hx hb d_M_look_76 (by decide) ?_
      exact ih _ _ _ _ _ _ _ _ _ _ _ _ _ _ _ _ _ _ _ _ _ _ H locs ls hF hP hD hS (lv_sub hl [0, 1] rfl) hQ
set_option maxHeartbeats 4000000 in
set_option maxRecDepth 100000 in
theorem t_M_look {p : Program} {l : Launch} {e : Env} {s : State} {m : MethodId} {args : Array Value} {below : List Frame} {meth : Method} {c : Code} {A : Nat → Prop} {g : va_G} {cI cJ cZ : ClassId} {ad : Nat → Nat} {rest : va_W} (K : kX p s m args meth c "LockTableModel" prog_6_method_25_code 4 none A g (kty cI cJ cZ)) (mth : Int32) (mst : Nat → Int32) (mse : Nat → Int32) (mla : Int32) (mmo : Nat → Int32) (mrc : Int32) (mro : Nat → Int32) (mrt : Nat → Int32) (mrm : Nat → Int32) (mrl : Nat → Int64) (mrh : Nat → Int64) (mwk : Nat → Int32) (mwt : Nat → Int32) (mwm : Nat → Int32) (mwl : Nat → Int64) (mwh : Nat → Int64) (mwi : Nat → Int32) (mwc : Nat → Int32) (mwx : Nat → Int32) (mar : Int32) (mli : Int32) (mgr : Int32) (mgo : Nat → Int32) (mre : Nat → Int32) (mfr : Int32) (a1 : Int32) (o_mst : Nat → Int32) (o_mmo : Nat → Int32) (o_mrc : Int32) (o_mro : Nat → Int32) (o_mrt : Nat → Int32) (o_mrm : Nat → Int32) (o_mrl : Nat → Int64) (o_mrh : Nat → Int64) (o_mgr : Int32) (o_mgo : Nat → Int32) (o_mfr : Int32) (hF : F_M_look mst mmo mrc mro mrt mrm mrl mrh mwk mwt mwm mwl mwh mwi mwc mgr mgo mfr a1 = some (o_mst, o_mmo, o_mrc, o_mro, o_mrt, o_mrm, o_mrl, o_mrh, o_mgr, o_mgo, o_mfr)) {H : Heap} {locs : List Loc} {ls : Array Slot} (hP : va_P g kcl (wM cI cJ cZ ad mth mst mse mla mmo mrc mro mrt mrm mrl mrh mwk mwt mwm mwl mwh mwi mwc mwx mar mli mgr mgo mre mfr rest) H) (hD : va_D A (wM cI cJ cZ ad mth mst mse mla mmo mrc mro mrt mrm mrl mrh mwk mwt mwm mwl mwh mwi mwc mwx mar mli mgr mgo mre mfr rest)) (hS : va_S A s.heap H locs) (hl : lv_has ls 4 [(0, .ref (ad 0)), (1, .int a1)]) : W p l e ({ frames := 5, cells := 0, slots := 0, locals := 117 }) s m args below meth c H locs 0 0 (MQ below (kQv g (kty cI cJ cZ) (wM cI cJ cZ ad mth o_mst mse mla o_mmo o_mrc o_mro o_mrt o_mrm o_mrl o_mrh mwk mwt mwm mwl mwh mwi mwc mwx mar mli o_mgr o_mgo mre o_mfr rest) A) args s 0 0 A) (F0 m 0 ls []) := by
  obtain ⟨hx, hb, hr, hml, hown, hts, hlocks, hK, hA, hE⟩ := id K
  unfold F_M_look at hF
  refine lv_aload_n hx hb d_M_look_0 rfl (lv_at hl 0 rfl) ?_
  refine lv_iconst (v := 1) hx hb d_M_look_1 (by decide) ?_
  refine va_put (D := g) (ci := 3) (v := .int 1) (ty := .boolean) (C := kR3) (T := kT3) (N := 25) hx hb hts kw3 kt3 ko3 kn3 hown hK hP hD hS 0 rfl rfl 24 (by decide) (hts _ wm_695) (fun _ h9 => h9) rfl (by decide +kernel) rfl rfl (Nat.le_of_ble_eq_true rfl) d_M_look_2 (fun H locs hP hD hS => ?_)
  have hP : va_P g kcl (wM cI cJ cZ ad mth mst mse mla mmo mrc mro mrt mrm mrl mrh mwk mwt mwm mwl mwh mwi mwc mwx mar mli mgr mgo mre 1 rest) H := hP
  have hD : va_D A (wM cI cJ cZ ad mth mst mse mla mmo mrc mro mrt mrm mrl mrh mwk mwt mwm mwl mwh mwi mwc mwx mar mli mgr mgo mre 1 rest) := hD
  obtain ⟨mst_29, mmo_30, mrc_31, mro_32, mrt_33, mrm_34, mrl_35, mrh_36, mgr_37, mgo_38, mfr_39, hG, hF⟩ := ob11_inv hF
  refine t_M_look_L5 K mth mse mla mwk mwt mwm mwl mwh mwi mwc mwx mar mli mre a1 fu _ _ _ _ _ _ _ _ _ _ _ _ _ _ _ _ _ _ _ _ _ _ H locs ls hG hP hD hS (lv_sub hl [0, 1] rfl) (fun H locs ls hP hD hS hl => ?_)
  cases hF
  exact krv K hP hD hS d_M_look_79
theorem c_M_look (l : Launch) (g : va_G) (cI cJ cZ : ClassId) (ad : Nat → Nat) (mth : Int32) (mst : Nat → Int32) (mse : Nat → Int32) (mla : Int32) (mmo : Nat → Int32) (mrc : Int32) (mro : Nat → Int32) (mrt : Nat → Int32) (mrm : Nat → Int32) (mrl : Nat → Int64) (mrh : Nat → Int64) (mwk : Nat → Int32) (mwt : Nat → Int32) (mwm : Nat → Int32) (mwl : Nat → Int64) (mwh : Nat → Int64) (mwi : Nat → Int32) (mwc : Nat → Int32) (mwx : Nat → Int32) (mar : Int32) (mli : Int32) (mgr : Int32) (mgo : Nat → Int32) (mre : Nat → Int32) (mfr : Int32) (rest : va_W) (a1 : Int32) (o_mst : Nat → Int32) (o_mmo : Nat → Int32) (o_mrc : Int32) (o_mro : Nat → Int32) (o_mrt : Nat → Int32) (o_mrm : Nat → Int32) (o_mrl : Nat → Int64) (o_mrh : Nat → Int64) (o_mgr : Int32) (o_mgo : Nat → Int32) (o_mfr : Int32) (hF : F_M_look mst mmo mrc mro mrt mrm mrl mrh mwk mwt mwm mwl mwh mwi mwc mgr mgo mfr a1 = some (o_mst, o_mmo, o_mrc, o_mro, o_mrt, o_mrm, o_mrl, o_mrh, o_mgr, o_mgo, o_mfr)) : Cv l y_M_look prog_6_method_25_code 4 ({ frames := 5, cells := 0, slots := 0, locals := 117 }) [.ref (ad 0), .int a1] g (kty cI cJ cZ) (wM cI cJ cZ ad mth mst mse mla mmo mrc mro mrt mrm mrl mrh mwk mwt mwm mwl mwh mwi mwc mwx mar mli mgr mgo mre mfr rest) (wM cI cJ cZ ad mth o_mst mse mla o_mmo o_mrc o_mro o_mrt o_mrm o_mrl o_mrh mwk mwt mwm mwl mwh mwi mwc mwx mar mli o_mgr o_mgo mre o_mfr rest) :=
  Cv.of (by decide) (Nat.le_of_ble_eq_true rfl) (fun p e s m below meth c A ls K hP hD hS hl => t_M_look K mth mst mse mla mmo mrc mro mrt mrm mrl mrh mwk mwt mwm mwl mwh mwi mwc mwx mar mli mgr mgo mre mfr a1 o_mst o_mmo o_mrc o_mro o_mrt o_mrm o_mrl o_mrh o_mgr o_mgo o_mfr hF hP hD hS hl)
def F_M_begin (mth : Int32) (mst : Nat → Int32) (mse : Nat → Int32) (mla : Int32) (mgr : Int32) (a1 : Int32) : Option (Int32 × Int32 × (Nat → Int32) × (Nat → Int32) × Int32 × Int32) :=
  ob1 (F_M_isOwner a1) (fun r_1 => jn1 (fun (s_2 : Int32) => ob1 (F_M_isOwner a1) (fun r_3 => jn2 (fun (s_4 : Int32) (s_5 : Int32) => ob2 (F_M_refused mth s_4 s_5 0) (fun r_6 mth_7 => if r_6 = 0 then gd (a1 < 0 ∨ 8 ≤ a1.toNatClampNeg) (gd (a1 < 0 ∨ 8 ≤ a1.toNatClampNeg) (some (mla + 1, mth_7, upd mst a1.toNatClampNeg 1, upd mse a1.toNatClampNeg (mla + 1), mla + 1, 0))) else some (0, mth_7, mst, mse, mla, mgr))) (fun J34 => jn1 (fun (s_11 : Int32) => J34 s_11 0) (fun J33 => if r_3 = 0 then J33 s_2 else gd (a1 < 0 ∨ 8 ≤ a1.toNatClampNeg) (if (mst a1.toNatClampNeg) = 0 then J33 s_2 else J34 s_2 1))))) (fun J13 => if r_1 = 0 then J13 1 else J13 0))
set_option maxHeartbeats 4000000 in
set_option maxRecDepth 100000 in
theorem t_M_begin {p : Program} {l : Launch} {e : Env} {s : State} {m : MethodId} {args : Array Value} {below : List Frame} {meth : Method} {c : Code} {A : Nat → Prop} {g : va_G} {cI cJ cZ : ClassId} {ad : Nat → Nat} {rest : va_W} (K : kX p s m args meth c "LockTableModel" prog_6_method_26_code 2 (some .int) A g (kty cI cJ cZ)) (mth : Int32) (mst : Nat → Int32) (mse : Nat → Int32) (mla : Int32) (mmo : Nat → Int32) (mrc : Int32) (mro : Nat → Int32) (mrt : Nat → Int32) (mrm : Nat → Int32) (mrl : Nat → Int64) (mrh : Nat → Int64) (mwk : Nat → Int32) (mwt : Nat → Int32) (mwm : Nat → Int32) (mwl : Nat → Int64) (mwh : Nat → Int64) (mwi : Nat → Int32) (mwc : Nat → Int32) (mwx : Nat → Int32) (mar : Int32) (mli : Int32) (mgr : Int32) (mgo : Nat → Int32) (mre : Nat → Int32) (mfr : Int32) (a1 : Int32) (r : Int32) (o_mth : Int32) (o_mst : Nat → Int32) (o_mse : Nat → Int32) (o_mla : Int32) (o_mgr : Int32) (hF : F_M_begin mth mst mse mla mgr a1 = some (r, o_mth, o_mst, o_mse, o_mla, o_mgr)) {H : Heap} {locs : List Loc} {ls : Array Slot} (hP : va_P g kcl (wM cI cJ cZ ad mth mst mse mla mmo mrc mro mrt mrm mrl mrh mwk mwt mwm mwl mwh mwi mwc mwx mar mli mgr mgo mre mfr rest) H) (hD : va_D A (wM cI cJ cZ ad mth mst mse mla mmo mrc mro mrt mrm mrl mrh mwk mwt mwm mwl mwh mwi mwc mwx mar mli mgr mgo mre mfr rest)) (hS : va_S A s.heap H locs) (hl : lv_has ls 2 [(0, .ref (ad 0)), (1, .int a1)]) : W p l e ({ frames := 1, cells := 0, slots := 0, locals := 23 }) s m args below meth c H locs 0 0 (MQ below (kQi g (kty cI cJ cZ) (wM cI cJ cZ ad o_mth o_mst o_mse o_mla mmo mrc mro mrt mrm mrl mrh mwk mwt mwm mwl mwh mwi mwc mwx mar mli o_mgr mgo mre mfr rest) A r) args s 0 0 A) (F0 m 0 ls []) := by
  obtain ⟨hx, hb, hr, hml, hown, hts, hlocks, hK, hA, hE⟩ := id K
  unfold F_M_begin at hF
  refine lv_aload_n hx hb d_M_begin_0 rfl (lv_at hl 0 rfl) ?_
  refine lv_iload_n hx hb d_M_begin_1 rfl (lv_at hl 1 rfl) ?_
  obtain ⟨r_1, hG, hF⟩ := ob1_inv hF
  refine ksi K hP hD hS (c_M_isOwner l g (kty cI cJ cZ) (wM cI cJ cZ ad mth mst mse mla mmo mrc mro mrt mrm mrl mrh mwk mwt mwm mwl mwh mwi mwc mwx mar mli mgr mgo mre mfr rest) a1 r_1 hG) wm_757 wm_755 wm_756 wm_50 hd_M_isOwner rfl rfl ⟨Nat.le_of_ble_eq_true rfl, Nat.le_of_ble_eq_true rfl⟩ ⟨Nat.zero_le _, Nat.zero_le _⟩ hl.1 (rest := [.ref (ad 0)]) rfl (Nat.le_of_ble_eq_true rfl) d_M_begin_2 (fun H locs hP hD hS => ?_)
  obtain ⟨J13, eJ13, hF⟩ := jn1_inv hF
  have hJ13 : ∀ (s_2 : Int32) (H : Heap) (locs : List Loc) (ls : Array Slot), J13 s_2 = some (r, o_mth, o_mst, o_mse, o_mla, o_mgr) → va_P g kcl (wM cI cJ cZ ad mth mst mse mla mmo mrc mro mrt mrm mrl mrh mwk mwt mwm mwl mwh mwi mwc mwx mar mli mgr mgo mre mfr rest) H → va_D A (wM cI cJ cZ ad mth mst mse mla mmo mrc mro mrt mrm mrl mrh mwk mwt mwm mwl mwh mwi mwc mwx mar mli mgr mgo mre mfr rest) → va_S A s.heap H locs → lv_has ls 2 [(0, .ref (ad 0)), (1, .int a1)] → W p l e ({ frames := 1, cells := 0, slots := 0, locals := 23 }) s m args below meth c H locs 0 0 (MQ below (kQi g (kty cI cJ cZ) (wM cI cJ cZ ad o_mth o_mst o_mse o_mla mmo mrc mro mrt mrm mrl mrh mwk mwt mwm mwl mwh mwi mwc mwx mar mli o_mgr mgo mre mfr rest) A r) args s 0 0 A) (F0 m 13 ls [.int s_2, .ref (ad 0)]) := by
    intro s_2 H locs ls hF hP hD hS hl
    rw [eJ13] at hF
    refine lv_iload_n hx hb d_M_begin_13 rfl (lv_at hl 1 rfl) ?_
    obtain ⟨r_3, hG, hF⟩ := ob1_inv hF
    refine ksi K hP hD hS (c_M_isOwner l g (kty cI cJ cZ) (wM cI cJ cZ ad mth mst mse mla mmo mrc mro mrt mrm mrl mrh mwk mwt mwm mwl mwh mwi mwc mwx mar mli mgr mgo mre mfr rest) a1 r_3 hG) wm_757 wm_755 wm_756 wm_50 hd_M_isOwner rfl rfl ⟨Nat.le_of_ble_eq_true rfl, Nat.le_of_ble_eq_true rfl⟩ ⟨Nat.zero_le _, Nat.zero_le _⟩ hl.1 (rest := [.int s_2, .ref (ad 0)]) rfl (Nat.le_of_ble_eq_true rfl) d_M_begin_14 (fun H locs hP hD hS => ?_)
    obtain ⟨J34, eJ34, hF⟩ := jn2_inv hF
    have hJ34 : ∀ (s_4 : Int32) (s_5 : Int32) (H : Heap) (locs : List Loc) (ls : Array Slot), J34 s_4 s_5 = some (r, o_mth, o_mst, o_mse, o_mla, o_mgr) → va_P g kcl (wM cI cJ cZ ad mth mst mse mla mmo mrc mro mrt mrm mrl mrh mwk mwt mwm mwl mwh mwi mwc mwx mar mli mgr mgo mre mfr rest) H → va_D A (wM cI cJ cZ ad mth mst mse mla mmo mrc mro mrt mrm mrl mrh mwk mwt mwm mwl mwh mwi mwc mwx mar mli mgr mgo mre mfr rest) → va_S A s.heap H locs → lv_has ls 2 [(0, .ref (ad 0)), (1, .int a1)] → W p l e ({ frames := 1, cells := 0, slots := 0, locals := 23 }) s m args below meth c H locs 0 0 (MQ below (kQi g (kty cI cJ cZ) (wM cI cJ cZ ad o_mth o_mst o_mse o_mla mmo mrc mro mrt mrm mrl mrh mwk mwt mwm mwl mwh mwi mwc mwx mar mli o_mgr mgo mre mfr rest) A r) args s 0 0 A) (F0 m 34 ls [.int s_5, .int s_4, .ref (ad 0)]) := by
      intro s_4 s_5 H locs ls hF hP hD hS hl
      rw [eJ34] at hF
      refine lv_iconst (v := 0) hx hb d_M_begin_34 (by decide) ?_
      obtain ⟨r_6, mth_7, hG, hF⟩ := ob2_inv hF
      refine kci K hP hD hS (c_M_refused l g cI cJ cZ ad mth mst mse mla mmo mrc mro mrt mrm mrl mrh mwk mwt mwm mwl mwh mwi mwc mwx mar mli mgr mgo mre mfr rest s_4 s_5 0 r_6 mth_7 hG) wm_761 wm_758 wm_760 wm_20 wm_50 hd_M_refused rfl rfl ⟨Nat.le_of_ble_eq_true rfl, Nat.le_of_ble_eq_true rfl⟩ ⟨Nat.zero_le _, Nat.zero_le _⟩ 3 0 rfl rfl rfl hl.1 (rest := []) rfl (Nat.le_of_ble_eq_true rfl) d_M_begin_35 (fun H locs hP hD hS => ?_)
      refine lv_if_eq (tgt := 43) hx hb d_M_begin_38 (by decide) (fun hc_8 => ?_) (fun hc_8 => ?_)
      · have hF := it_t hF hc_8
        refine lv_aload_n hx hb d_M_begin_43 rfl (lv_at hl 0 rfl) ?_
        refine lv_iconst (v := 0) hx hb d_M_begin_44 (by decide) ?_
        refine va_put (D := g) (ci := 3) (v := .int 0) (ty := .int) (C := kR3) (T := kT3) (N := 25) hx hb hts kw3 kt3 ko3 kn3 hown hK hP hD hS 0 rfl rfl 21 (by decide) (hts _ wm_692) (fun _ h9 => h9) rfl (by decide +kernel) rfl rfl (Nat.le_of_ble_eq_true rfl) d_M_begin_45 (fun H locs hP hD hS => ?_)
        have hP : va_P g kcl (wM cI cJ cZ ad mth_7 mst mse mla mmo mrc mro mrt mrm mrl mrh mwk mwt mwm mwl mwh mwi mwc mwx mar mli 0 mgo mre mfr rest) H := hP
        have hD : va_D A (wM cI cJ cZ ad mth_7 mst mse mla mmo mrc mro mrt mrm mrl mrh mwk mwt mwm mwl mwh mwi mwc mwx mar mli 0 mgo mre mfr rest) := hD
        refine lv_aload_n hx hb d_M_begin_48 rfl (lv_at hl 0 rfl) ?_
        refine lv_dup hx hb d_M_begin_49 rfl ?_
        refine va_get (D := g) (ci := 3) (v := .int mla) (C := kR3) (T := kT3) (N := 25) hx hb hts kw3 hown hK hP 0 rfl rfl 3 (by decide) (hts _ wm_674) (fun _ h9 => h9) rfl d_M_begin_50 ?_
        refine lv_iconst (v := 1) hx hb d_M_begin_53 (by decide) ?_
        refine lv_iadd hx hb d_M_begin_54 ?_
        refine va_put (D := g) (ci := 3) (v := .int (mla + 1)) (ty := .int) (C := kR3) (T := kT3) (N := 25) hx hb hts kw3 kt3 ko3 kn3 hown hK hP hD hS 0 rfl rfl 3 (by decide) (hts _ wm_674) (fun _ h9 => h9) rfl (by decide +kernel) rfl rfl (Nat.le_of_ble_eq_true rfl) d_M_begin_55 (fun H locs hP hD hS => ?_)
        have hP : va_P g kcl (wM cI cJ cZ ad mth_7 mst mse (mla + 1) mmo mrc mro mrt mrm mrl mrh mwk mwt mwm mwl mwh mwi mwc mwx mar mli 0 mgo mre mfr rest) H := hP
        have hD : va_D A (wM cI cJ cZ ad mth_7 mst mse (mla + 1) mmo mrc mro mrt mrm mrl mrh mwk mwt mwm mwl mwh mwi mwc mwx mar mli 0 mgo mre mfr rest) := hD
        refine lv_aload_n hx hb d_M_begin_58 rfl (lv_at hl 0 rfl) ?_
        refine va_get (D := g) (ci := 3) (v := .ref (ad 2)) (C := kR3) (T := kT3) (N := 25) hx hb hts kw3 hown hK hP 0 rfl rfl 2 (by decide) (hts _ wm_673) (fun _ h9 => h9) rfl d_M_begin_59 ?_
        refine lv_iload_n hx hb d_M_begin_62 rfl (lv_at hl 1 rfl) ?_
        refine lv_aload_n hx hb d_M_begin_63 rfl (lv_at hl 0 rfl) ?_
        refine va_get (D := g) (ci := 3) (v := .int (mla + 1)) (C := kR3) (T := kT3) (N := 25) hx hb hts kw3 hown hK hP 0 rfl rfl 3 (by decide) (hts _ wm_674) (fun _ h9 => h9) rfl d_M_begin_64 ?_
        obtain ⟨hg_9, hF⟩ := gd_inv hF
        refine va_iast hx hb hK hP hD hS 2 0 rfl rfl hg_9 d_M_begin_67 (fun H locs hP hD hS => ?_)
        have hP : va_P g kcl (wM cI cJ cZ ad mth_7 mst (upd mse a1.toNatClampNeg (mla + 1)) (mla + 1) mmo mrc mro mrt mrm mrl mrh mwk mwt mwm mwl mwh mwi mwc mwx mar mli 0 mgo mre mfr rest) H := hP
        have hD : va_D A (wM cI cJ cZ ad mth_7 mst (upd mse a1.toNatClampNeg (mla + 1)) (mla + 1) mmo mrc mro mrt mrm mrl mrh mwk mwt mwm mwl mwh mwi mwc mwx mar mli 0 mgo mre mfr rest) := hD
        refine lv_aload_n hx hb d_M_begin_68 rfl (lv_at hl 0 rfl) ?_
        refine va_get (D := g) (ci := 3) (v := .ref (ad 1)) (C := kR3) (T := kT3) (N := 25) hx hb hts kw3 hown hK hP 0 rfl rfl 1 (by decide) (hts _ wm_672) (fun _ h9 => h9) rfl d_M_begin_69 ?_
        refine lv_iload_n hx hb d_M_begin_72 rfl (lv_at hl 1 rfl) ?_
        refine lv_iconst (v := 1) hx hb d_M_begin_73 (by decide) ?_
        obtain ⟨hg_10, hF⟩ := gd_inv hF
        refine va_iast hx hb hK hP hD hS 1 0 rfl rfl hg_10 d_M_begin_74 (fun H locs hP hD hS => ?_)
        have hP : va_P g kcl (wM cI cJ cZ ad mth_7 (upd mst a1.toNatClampNeg 1) (upd mse a1.toNatClampNeg (mla + 1)) (mla + 1) mmo mrc mro mrt mrm mrl mrh mwk mwt mwm mwl mwh mwi mwc mwx mar mli 0 mgo mre mfr rest) H := hP
        have hD : va_D A (wM cI cJ cZ ad mth_7 (upd mst a1.toNatClampNeg 1) (upd mse a1.toNatClampNeg (mla + 1)) (mla + 1) mmo mrc mro mrt mrm mrl mrh mwk mwt mwm mwl mwh mwi mwc mwx mar mli 0 mgo mre mfr rest) := hD
        refine lv_aload_n hx hb d_M_begin_75 rfl (lv_at hl 0 rfl) ?_
        refine va_get (D := g) (ci := 3) (v := .int (mla + 1)) (C := kR3) (T := kT3) (N := 25) hx hb hts kw3 hown hK hP 0 rfl rfl 3 (by decide) (hts _ wm_674) (fun _ h9 => h9) rfl d_M_begin_76 ?_
        cases hF
        exact kri K hP hD hS d_M_begin_79 rfl
      · have hF := it_f hF hc_8
        refine lv_iconst (v := 0) hx hb d_M_begin_41 (by decide) ?_
        cases hF
        exact kri K hP hD hS d_M_begin_42 rfl
    obtain ⟨J33, eJ33, hF⟩ := jn1_inv hF
    have hJ33 : ∀ (s_11 : Int32) (H : Heap) (locs : List Loc) (ls : Array Slot), J33 s_11 = some (r, o_mth, o_mst, o_mse, o_mla, o_mgr) → va_P g kcl (wM cI cJ cZ ad mth mst mse mla mmo mrc mro mrt mrm mrl mrh mwk mwt mwm mwl mwh mwi mwc mwx mar mli mgr mgo mre mfr rest) H → va_D A (wM cI cJ cZ ad mth mst mse mla mmo mrc mro mrt mrm mrl mrh mwk mwt mwm mwl mwh mwi mwc mwx mar mli mgr mgo mre mfr rest) → va_S A s.heap H locs → lv_has ls 2 [(0, .ref (ad 0)), (1, .int a1)] → W p l e ({ frames := 1, cells := 0, slots := 0, locals := 23 }) s m args below meth c H locs 0 0 (MQ below (kQi g (kty cI cJ cZ) (wM cI cJ cZ ad o_mth o_mst o_mse o_mla mmo mrc mro mrt mrm mrl mrh mwk mwt mwm mwl mwh mwi mwc mwx mar mli o_mgr mgo mre mfr rest) A r) args s 0 0 A) (F0 m 33 ls [.int s_11, .ref (ad 0)]) := by
      intro s_11 H locs ls hF hP hD hS hl
      rw [eJ33] at hF
      refine lv_iconst (v := 0) hx hb d_M_begin_33 (by decide) ?_
      exact hJ34 _ _ H locs ls hF hP hD hS (lv_sub hl [0, 1] rfl)
    refine lv_if_eq (tgt := 33) hx hb d_M_begin_17 (by decide) (fun hc_12 => ?_) (fun hc_12 => ?_)
    · have hF := it_t hF hc_12
      exact hJ33 _ H locs ls hF hP hD hS (lv_sub hl [0, 1] rfl)
    · have hF := it_f hF hc_12
      refine lv_aload_n hx hb d_M_begin_20 rfl (lv_at hl 0 rfl) ?_
      refine va_get (D := g) (ci := 3) (v := .ref (ad 1)) (C := kR3) (T := kT3) (N := 25) hx hb hts kw3 hown hK hP 0 rfl rfl 1 (by decide) (hts _ wm_672) (fun _ h9 => h9) rfl d_M_begin_21 ?_
      refine lv_iload_n hx hb d_M_begin_24 rfl (lv_at hl 1 rfl) ?_
      obtain ⟨hg_13, hF⟩ := gd_inv hF
      refine va_iald hx hb hK hP 1 0 rfl rfl hg_13 d_M_begin_25 ?_
      refine lv_if_eq (tgt := 33) hx hb d_M_begin_26 (by decide) (fun hc_14 => ?_) (fun hc_14 => ?_)
      · have hF := it_t hF hc_14
        exact hJ33 _ H locs ls hF hP hD hS (lv_sub hl [0, 1] rfl)
      · have hF := it_f hF hc_14
        refine lv_iconst (v := 1) hx hb d_M_begin_29 (by decide) ?_
        refine lv_goto (tgt := 34) hx hb d_M_begin_30 (by decide) ?_
        exact hJ34 _ _ H locs ls hF hP hD hS (lv_sub hl [0, 1] rfl)
  refine lv_if_ne (tgt := 12) hx hb d_M_begin_5 (by decide) (fun hc_15 => ?_) (fun hc_15 => ?_)
  · have hF := it_f hF hc_15
    refine lv_iconst (v := 0) hx hb d_M_begin_12 (by decide) ?_
    exact hJ13 _ H locs ls hF hP hD hS (lv_sub hl [0, 1] rfl)
  · have hF := it_t hF hc_15
    refine lv_iconst (v := 1) hx hb d_M_begin_8 (by decide) ?_
    refine lv_goto (tgt := 13) hx hb d_M_begin_9 (by decide) ?_
    exact hJ13 _ H locs ls hF hP hD hS (lv_sub hl [0, 1] rfl)
theorem c_M_begin (l : Launch) (g : va_G) (cI cJ cZ : ClassId) (ad : Nat → Nat) (mth : Int32) (mst : Nat → Int32) (mse : Nat → Int32) (mla : Int32) (mmo : Nat → Int32) (mrc : Int32) (mro : Nat → Int32) (mrt : Nat → Int32) (mrm : Nat → Int32) (mrl : Nat → Int64) (mrh : Nat → Int64) (mwk : Nat → Int32) (mwt : Nat → Int32) (mwm : Nat → Int32) (mwl : Nat → Int64) (mwh : Nat → Int64) (mwi : Nat → Int32) (mwc : Nat → Int32) (mwx : Nat → Int32) (mar : Int32) (mli : Int32) (mgr : Int32) (mgo : Nat → Int32) (mre : Nat → Int32) (mfr : Int32) (rest : va_W) (a1 : Int32) (r : Int32) (o_mth : Int32) (o_mst : Nat → Int32) (o_mse : Nat → Int32) (o_mla : Int32) (o_mgr : Int32) (hF : F_M_begin mth mst mse mla mgr a1 = some (r, o_mth, o_mst, o_mse, o_mla, o_mgr)) : Ci l y_M_begin prog_6_method_26_code 2 (some .int) ({ frames := 1, cells := 0, slots := 0, locals := 23 }) [.ref (ad 0), .int a1] g (kty cI cJ cZ) (wM cI cJ cZ ad mth mst mse mla mmo mrc mro mrt mrm mrl mrh mwk mwt mwm mwl mwh mwi mwc mwx mar mli mgr mgo mre mfr rest) (wM cI cJ cZ ad o_mth o_mst o_mse o_mla mmo mrc mro mrt mrm mrl mrh mwk mwt mwm mwl mwh mwi mwc mwx mar mli o_mgr mgo mre mfr rest) r :=
  Ci.of (by decide) (Nat.le_of_ble_eq_true rfl) (fun p e s m below meth c A ls K hP hD hS hl => t_M_begin K mth mst mse mla mmo mrc mro mrt mrm mrl mrh mwk mwt mwm mwl mwh mwi mwc mwx mar mli mgr mgo mre mfr a1 r o_mth o_mst o_mse o_mla o_mgr hF hP hD hS hl)
def F_M_fillReach_L2 (mst : Nat → Int32) (mmo : Nat → Int32) (mrc : Int32) (mro : Nat → Int32) (mrt : Nat → Int32) (mrm : Nat → Int32) (mrl : Nat → Int64) (mrh : Nat → Int64) (mwk : Nat → Int32) (mwt : Nat → Int32) (mwm : Nat → Int32) (mwl : Nat → Int64) (mwh : Nat → Int64) (mwi : Nat → Int32) (mwc : Nat → Int32) : Nat → (Nat → Int32) → Int32 → Option ((Nat → Int32))
  | 0, _, _ => none
  | n + 1, mre, v1 => if 8 ≤ v1 then some mre else ob1 (F_M_behindOf mst mmo mrc mro mrt mrm mrl mrh mwk mwt mwm mwl mwh mwi mwc v1) (fun r_2 => gd (v1 < 0 ∨ 8 ≤ v1.toNatClampNeg) (F_M_fillReach_L2 mst mmo mrc mro mrt mrm mrl mrh mwk mwt mwm mwl mwh mwi mwc n (upd mre v1.toNatClampNeg r_2) (v1 + 1)))
def F_M_fillReach_L43 (v1 : Int32) (v2 : Int32) : Nat → (Nat → Int32) → Int32 → Option ((Nat → Int32))
  | 0, _, _ => none
  | n + 1, mre, v3 => if 8 ≤ v3 then some mre else gd (v2 < 0 ∨ 8 ≤ v2.toNatClampNeg) (if (((mre v2.toNatClampNeg) >>> (v3 &&& 31)) &&& 1) = 1 then gd (v2 < 0 ∨ 8 ≤ v2.toNatClampNeg) (gd (v3 < 0 ∨ 8 ≤ v3.toNatClampNeg) (gd (v2 < 0 ∨ 8 ≤ v2.toNatClampNeg) (F_M_fillReach_L43 v1 v2 n (upd mre v2.toNatClampNeg ((mre v2.toNatClampNeg) ||| (mre v3.toNatClampNeg))) (v3 + 1)))) else gd (v2 < 0 ∨ 8 ≤ v2.toNatClampNeg) (gd (v2 < 0 ∨ 8 ≤ v2.toNatClampNeg) (F_M_fillReach_L43 v1 v2 n (upd mre v2.toNatClampNeg (mre v2.toNatClampNeg)) (v3 + 1))))
def F_M_fillReach_L35 (v1 : Int32) : Nat → (Nat → Int32) → Int32 → Option ((Nat → Int32))
  | 0, _, _ => none
  | n + 1, mre, v2 => if 8 ≤ v2 then some mre else ob1 (F_M_fillReach_L43 v1 v2 fu mre 0) (fun mre_15 => F_M_fillReach_L35 v1 n mre_15 (v2 + 1))
def F_M_fillReach_L27  : Nat → (Nat → Int32) → Int32 → Option ((Nat → Int32))
  | 0, _, _ => none
  | n + 1, mre, v1 => if 8 ≤ v1 then some mre else ob1 (F_M_fillReach_L35 v1 fu mre 0) (fun mre_16 => F_M_fillReach_L27  n mre_16 (v1 + 1))
def F_M_fillReach (mst : Nat → Int32) (mmo : Nat → Int32) (mrc : Int32) (mro : Nat → Int32) (mrt : Nat → Int32) (mrm : Nat → Int32) (mrl : Nat → Int64) (mrh : Nat → Int64) (mwk : Nat → Int32) (mwt : Nat → Int32) (mwm : Nat → Int32) (mwl : Nat → Int64) (mwh : Nat → Int64) (mwi : Nat → Int32) (mwc : Nat → Int32) (mre : Nat → Int32) : Option ((Nat → Int32)) :=
  ob1 (F_M_fillReach_L2 mst mmo mrc mro mrt mrm mrl mrh mwk mwt mwm mwl mwh mwi mwc fu mre 0) (fun mre_4 => ob1 (F_M_fillReach_L27  fu mre_4 0) (fun mre_17 => some mre_17))
set_option maxHeartbeats 4000000 in
set_option maxRecDepth 100000 in
theorem t_M_fillReach_L2 {p : Program} {l : Launch} {e : Env} {s : State} {m : MethodId} {args : Array Value} {below : List Frame} {meth : Method} {c : Code} {A : Nat → Prop} {g : va_G} {cI cJ cZ : ClassId} {ad : Nat → Nat} {rest : va_W} (K : kX p s m args meth c "LockTableModel" prog_6_method_27_code 4 none A g (kty cI cJ cZ)) {Q : State → Prop} (mth : Int32) (mst : Nat → Int32) (mse : Nat → Int32) (mla : Int32) (mmo : Nat → Int32) (mrc : Int32) (mro : Nat → Int32) (mrt : Nat → Int32) (mrm : Nat → Int32) (mrl : Nat → Int64) (mrh : Nat → Int64) (mwk : Nat → Int32) (mwt : Nat → Int32) (mwm : Nat → Int32) (mwl : Nat → Int64) (mwh : Nat → Int64) (mwi : Nat → Int32) (mwc : Nat → Int32) (mwx : Nat → Int32) (mar : Int32) (mli : Int32) (mgr : Int32) (mgo : Nat → Int32) (mfr : Int32) : ∀ (n : Nat) (mre : Nat → Int32) (v1 : Int32) (o_mre : Nat → Int32) (H : Heap) (locs : List Loc) (ls : Array Slot), F_M_fillReach_L2 mst mmo mrc mro mrt mrm mrl mrh mwk mwt mwm mwl mwh mwi mwc n mre v1 = some o_mre → va_P g kcl (wM cI cJ cZ ad mth mst mse mla mmo mrc mro mrt mrm mrl mrh mwk mwt mwm mwl mwh mwi mwc mwx mar mli mgr mgo mre mfr rest) H → va_D A (wM cI cJ cZ ad mth mst mse mla mmo mrc mro mrt mrm mrl mrh mwk mwt mwm mwl mwh mwi mwc mwx mar mli mgr mgo mre mfr rest) → va_S A s.heap H locs → lv_has ls 4 [(0, .ref (ad 0)), (1, .int v1)] → (∀ (H : Heap) (locs : List Loc) (ls : Array Slot), va_P g kcl (wM cI cJ cZ ad mth mst mse mla mmo mrc mro mrt mrm mrl mrh mwk mwt mwm mwl mwh mwi mwc mwx mar mli mgr mgo o_mre mfr rest) H → va_D A (wM cI cJ cZ ad mth mst mse mla mmo mrc mro mrt mrm mrl mrh mwk mwt mwm mwl mwh mwi mwc mwx mar mli mgr mgo o_mre mfr rest) → va_S A s.heap H locs → lv_has ls 4 [(0, .ref (ad 0))] → W p l e ({ frames := 5, cells := 0, slots := 0, locals := 117 }) s m args below meth c H locs 0 0 Q (F0 m 25 ls [])) → W p l e ({ frames := 5, cells := 0, slots := 0, locals := 117 }) s m args below meth c H locs 0 0 Q (F0 m 2 ls []) := by
  obtain ⟨hx, hb, hr, hml, hown, hts, hlocks, hK, hA, hE⟩ := id K
  intro n
  induction n with
  | zero =>
    intro mre v1 o_mre H locs ls hF
    rw [F_M_fillReach_L2] at hF
    cases hF
  | succ n ih =>
    intro mre v1 o_mre H locs ls hF hP hD hS hl hQ
    rw [F_M_fillReach_L2] at hF
    refine lv_iload_n hx hb d_M_fillReach_2 rfl (lv_at hl 1 rfl) ?_
    refine lv_bipush (v := 8) hx hb d_M_fillReach_3 (by decide) ?_
    refine lv_icmp_ge (tgt := 25) hx hb d_M_fillReach_5 (by decide) (fun hc_1 => ?_) (fun hc_1 => ?_)
    · have hF := it_t hF hc_1
      cases hF
      exact hQ H locs ls hP hD hS (lv_sub hl [0] rfl)
    · have hF := it_f hF hc_1
      refine lv_aload_n hx hb d_M_fillReach_8 rfl (lv_at hl 0 rfl) ?_
      refine va_get (D := g) (ci := 3) (v := .ref (ad 18)) (C := kR3) (T := kT3) (N := 25) hx hb hts kw3 hown hK hP 0 rfl rfl 23 (by decide) (hts _ wm_694) (fun _ h9 => h9) rfl d_M_fillReach_9 ?_
      refine lv_iload_n hx hb d_M_fillReach_12 rfl (lv_at hl 1 rfl) ?_
      refine lv_aload_n hx hb d_M_fillReach_13 rfl (lv_at hl 0 rfl) ?_
      refine lv_iload_n hx hb d_M_fillReach_14 rfl (lv_at hl 1 rfl) ?_
      obtain ⟨r_2, hG, hF⟩ := ob1_inv hF
      refine kci K hP hD hS (c_M_behindOf l g cI cJ cZ ad mth mst mse mla mmo mrc mro mrt mrm mrl mrh mwk mwt mwm mwl mwh mwi mwc mwx mar mli mgr mgo mre mfr rest v1 r_2 hG) wm_796 wm_793 wm_795 wm_24 wm_50 hd_M_behindOf rfl rfl ⟨Nat.le_of_ble_eq_true rfl, Nat.le_of_ble_eq_true rfl⟩ ⟨Nat.zero_le _, Nat.zero_le _⟩ 3 0 rfl rfl rfl hl.1 (rest := [.int v1, .ref (ad 18)]) rfl (Nat.le_of_ble_eq_true rfl) d_M_fillReach_15 (fun H locs hP hD hS => ?_)
      obtain ⟨hg_3, hF⟩ := gd_inv hF
      refine va_iast hx hb hK hP hD hS 18 0 rfl rfl hg_3 d_M_fillReach_18 (fun H locs hP hD hS => ?_)
      have hP : va_P g kcl (wM cI cJ cZ ad mth mst mse mla mmo mrc mro mrt mrm mrl mrh mwk mwt mwm mwl mwh mwi mwc mwx mar mli mgr mgo (upd mre v1.toNatClampNeg r_2) mfr rest) H := hP
      have hD : va_D A (wM cI cJ cZ ad mth mst mse mla mmo mrc mro mrt mrm mrl mrh mwk mwt mwm mwl mwh mwi mwc mwx mar mli mgr mgo (upd mre v1.toNatClampNeg r_2) mfr rest) := hD
      refine lv_iinc (v := v1 + 1) (lv' := [(1, .int (v1 + 1)), (0, .ref (ad 0))]) hx hb d_M_fillReach_19 hl (k := 1) rfl rfl (by decide) rfl (fun ls hl => ?_)
      refine lv_goto (tgt := 2) hx hb d_M_fillReach_22 (by decide) ?_
      exact ih _ _ _ H locs ls hF hP hD hS (lv_sub hl [1, 0] rfl) hQ
set_option maxHeartbeats 4000000 in
set_option maxRecDepth 100000 in
theorem t_M_fillReach_L43 {p : Program} {l : Launch} {e : Env} {s : State} {m : MethodId} {args : Array Value} {below : List Frame} {meth : Method} {c : Code} {A : Nat → Prop} {g : va_G} {cI cJ cZ : ClassId} {ad : Nat → Nat} {rest : va_W} (K : kX p s m args meth c "LockTableModel" prog_6_method_27_code 4 none A g (kty cI cJ cZ)) {Q : State → Prop} (mth : Int32) (mst : Nat → Int32) (mse : Nat → Int32) (mla : Int32) (mmo : Nat → Int32) (mrc : Int32) (mro : Nat → Int32) (mrt : Nat → Int32) (mrm : Nat → Int32) (mrl : Nat → Int64) (mrh : Nat → Int64) (mwk : Nat → Int32) (mwt : Nat → Int32) (mwm : Nat → Int32) (mwl : Nat → Int64) (mwh : Nat → Int64) (mwi : Nat → Int32) (mwc : Nat → Int32) (mwx : Nat → Int32) (mar : Int32) (mli : Int32) (mgr : Int32) (mgo : Nat → Int32) (mfr : Int32) (v1 : Int32) (v2 : Int32) : ∀ (n : Nat) (mre : Nat → Int32) (v3 : Int32) (o_mre : Nat → Int32) (H : Heap) (locs : List Loc) (ls : Array Slot), F_M_fillReach_L43 v1 v2 n mre v3 = some o_mre → va_P g kcl (wM cI cJ cZ ad mth mst mse mla mmo mrc mro mrt mrm mrl mrh mwk mwt mwm mwl mwh mwi mwc mwx mar mli mgr mgo mre mfr rest) H → va_D A (wM cI cJ cZ ad mth mst mse mla mmo mrc mro mrt mrm mrl mrh mwk mwt mwm mwl mwh mwi mwc mwx mar mli mgr mgo mre mfr rest) → va_S A s.heap H locs → lv_has ls 4 [(0, .ref (ad 0)), (1, .int v1), (2, .int v2), (3, .int v3)] → (∀ (H : Heap) (locs : List Loc) (ls : Array Slot), va_P g kcl (wM cI cJ cZ ad mth mst mse mla mmo mrc mro mrt mrm mrl mrh mwk mwt mwm mwl mwh mwi mwc mwx mar mli mgr mgo o_mre mfr rest) H → va_D A (wM cI cJ cZ ad mth mst mse mla mmo mrc mro mrt mrm mrl mrh mwk mwt mwm mwl mwh mwi mwc mwx mar mli mgr mgo o_mre mfr rest) → va_S A s.heap H locs → lv_has ls 4 [(0, .ref (ad 0)), (1, .int v1), (2, .int v2)] → W p l e ({ frames := 5, cells := 0, slots := 0, locals := 117 }) s m args below meth c H locs 0 0 Q (F0 m 97 ls [])) → W p l e ({ frames := 5, cells := 0, slots := 0, locals := 117 }) s m args below meth c H locs 0 0 Q (F0 m 43 ls []) := by
  obtain ⟨hx, hb, hr, hml, hown, hts, hlocks, hK, hA, hE⟩ := id K
  intro n
  induction n with
  | zero =>
    intro mre v3 o_mre H locs ls hF
    rw [F_M_fillReach_L43] at hF
    cases hF
  | succ n ih =>
    intro mre v3 o_mre H locs ls hF hP hD hS hl hQ
    rw [F_M_fillReach_L43] at hF
    refine lv_iload_n hx hb d_M_fillReach_43 rfl (lv_at hl 3 rfl) ?_
    refine lv_bipush (v := 8) hx hb d_M_fillReach_44 (by decide) ?_
    refine lv_icmp_ge (tgt := 97) hx hb d_M_fillReach_46 (by decide) (fun hc_7 => ?_) (fun hc_7 => ?_)
    · have hF := it_t hF hc_7
      cases hF
      exact hQ H locs ls hP hD hS (lv_sub hl [0, 1, 2] rfl)
    · have hF := it_f hF hc_7
      refine lv_aload_n hx hb d_M_fillReach_49 rfl (lv_at hl 0 rfl) ?_
      refine va_get (D := g) (ci := 3) (v := .ref (ad 18)) (C := kR3) (T := kT3) (N := 25) hx hb hts kw3 hown hK hP 0 rfl rfl 23 (by decide) (hts _ wm_694) (fun _ h9 => h9) rfl d_M_fillReach_50 ?_
      refine lv_iload_n hx hb d_M_fillReach_53 rfl (lv_at hl 2 rfl) ?_
      refine lv_aload_n hx hb d_M_fillReach_54 rfl (lv_at hl 0 rfl) ?_
      refine va_get (D := g) (ci := 3) (v := .ref (ad 18)) (C := kR3) (T := kT3) (N := 25) hx hb hts kw3 hown hK hP 0 rfl rfl 23 (by decide) (hts _ wm_694) (fun _ h9 => h9) rfl d_M_fillReach_55 ?_
      refine lv_iload_n hx hb d_M_fillReach_58 rfl (lv_at hl 2 rfl) ?_
      obtain ⟨hg_8, hF⟩ := gd_inv hF
      refine va_iald hx hb hK hP 18 0 rfl rfl hg_8 d_M_fillReach_59 ?_
      refine lv_iload_n hx hb d_M_fillReach_60 rfl (lv_at hl 3 rfl) ?_
      refine lv_ishr hx hb d_M_fillReach_61 ?_
      refine lv_iconst (v := 1) hx hb d_M_fillReach_62 (by decide) ?_
      refine lv_iand hx hb d_M_fillReach_63 ?_
      refine lv_iconst (v := 1) hx hb d_M_fillReach_64 (by decide) ?_
      refine lv_icmp_ne (tgt := 84) hx hb d_M_fillReach_65 (by decide) (fun hc_9 => ?_) (fun hc_9 => ?_)
      · have hF := it_f hF hc_9
        refine lv_aload_n hx hb d_M_fillReach_84 rfl (lv_at hl 0 rfl) ?_
        refine va_get (D := g) (ci := 3) (v := .ref (ad 18)) (C := kR3) (T := kT3) (N := 25) hx hb hts kw3 hown hK hP 0 rfl rfl 23 (by decide) (hts _ wm_694) (fun _ h9 => h9) rfl d_M_fillReach_85 ?_
        refine lv_iload_n hx hb d_M_fillReach_88 rfl (lv_at hl 2 rfl) ?_
        obtain ⟨hg_10, hF⟩ := gd_inv hF
        refine va_iald hx hb hK hP 18 0 rfl rfl hg_10 d_M_fillReach_89 ?_
        obtain ⟨hg_11, hF⟩ := gd_inv hF
        refine va_iast hx hb hK hP hD hS 18 0 rfl rfl hg_11 d_M_fillReach_90 (fun H locs hP hD hS => ?_)
        have hP : va_P g kcl (wM cI cJ cZ ad mth mst mse mla mmo mrc mro mrt mrm mrl mrh mwk mwt mwm mwl mwh mwi mwc mwx mar mli mgr mgo (upd mre v2.toNatClampNeg (mre v2.toNatClampNeg)) mfr rest) H := hP
        have hD : va_D A (wM cI cJ cZ ad mth mst mse mla mmo mrc mro mrt mrm mrl mrh mwk mwt mwm mwl mwh mwi mwc mwx mar mli mgr mgo (upd mre v2.toNatClampNeg (mre v2.toNatClampNeg)) mfr rest) := hD
        refine lv_iinc (v := v3 + 1) (lv' := [(3, .int (v3 + 1)), (0, .ref (ad 0)), (1, .int v1), (2, .int v2)]) hx hb d_M_fillReach_91 hl (k := 3) rfl rfl (by decide) rfl (fun ls hl => ?_)
        refine lv_goto (tgt := 43) hx hb d_M_fillReach_94 (by decide) ?_
        exact ih _ _ _ H locs ls hF hP hD hS (lv_sub hl [1, 2, 3, 0] rfl) hQ
      · have hF := it_t hF hc_9
        refine lv_aload_n hx hb d_M_fillReach_68 rfl (lv_at hl 0 rfl) ?_
        refine va_get (D := g) (ci := 3) (v := .ref (ad 18)) (C := kR3) (T := kT3) (N := 25) hx hb hts kw3 hown hK hP 0 rfl rfl 23 (by decide) (hts _ wm_694) (fun _ h9 => h9) rfl d_M_fillReach_69 ?_
        refine lv_iload_n hx hb d_M_fillReach_72 rfl (lv_at hl 2 rfl) ?_
        obtain ⟨hg_12, hF⟩ := gd_inv hF
        refine va_iald hx hb hK hP 18 0 rfl rfl hg_12 d_M_fillReach_73 ?_
        refine lv_aload_n hx hb d_M_fillReach_74 rfl (lv_at hl 0 rfl) ?_
        refine va_get (D := g) (ci := 3) (v := .ref (ad 18)) (C := kR3) (T := kT3) (N := 25) hx hb hts kw3 hown hK hP 0 rfl rfl 23 (by decide) (hts _ wm_694) (fun _ h9 => h9) rfl d_M_fillReach_75 ?_
        refine lv_iload_n hx hb d_M_fillReach_78 rfl (lv_at hl 3 rfl) ?_
        obtain ⟨hg_13, hF⟩ := gd_inv hF
        refine va_iald hx hb hK hP 18 0 rfl rfl hg_13 d_M_fillReach_79 ?_
        refine lv_ior hx hb d_M_fillReach_80 ?_
        refine lv_goto (tgt := 90) hx hb d_M_fillReach_81 (by decide) ?_
        obtain ⟨hg_14, hF⟩ := gd_inv hF
        refine va_iast hx hb hK hP hD hS 18 0 rfl rfl hg_14 d_M_fillReach_90 (fun H locs hP hD hS => ?_)
        have hP : va_P g kcl (wM cI cJ cZ ad mth mst mse mla mmo mrc mro mrt mrm mrl mrh mwk mwt mwm mwl mwh mwi mwc mwx mar mli mgr mgo (upd mre v2.toNatClampNeg ((mre v2.toNatClampNeg) ||| (mre v3.toNatClampNeg))) mfr rest) H := hP
        have hD : va_D A (wM cI cJ cZ ad mth mst mse mla mmo mrc mro mrt mrm mrl mrh mwk mwt mwm mwl mwh mwi mwc mwx mar mli mgr mgo (upd mre v2.toNatClampNeg ((mre v2.toNatClampNeg) ||| (mre v3.toNatClampNeg))) mfr rest) := hD
        refine lv_iinc (v := v3 + 1) (lv' := [(3, .int (v3 + 1)), (0, .ref (ad 0)), (1, .int v1), (2, .int v2)]) hx hb d_M_fillReach_91 hl (k := 3) rfl rfl (by decide) rfl (fun ls hl => ?_)
        refine lv_goto (tgt := 43) hx hb d_M_fillReach_94 (by decide) ?_
        exact ih _ _ _ H locs ls hF hP hD hS (lv_sub hl [1, 2, 3, 0] rfl) hQ
set_option maxHeartbeats 4000000 in
set_option maxRecDepth 100000 in
theorem t_M_fillReach_L35 {p : Program} {l : Launch} {e : Env} {s : State} {m : MethodId} {args : Array Value} {below : List Frame} {meth : Method} {c : Code} {A : Nat → Prop} {g : va_G} {cI cJ cZ : ClassId} {ad : Nat → Nat} {rest : va_W} (K : kX p s m args meth c "LockTableModel" prog_6_method_27_code 4 none A g (kty cI cJ cZ)) {Q : State → Prop} (mth : Int32) (mst : Nat → Int32) (mse : Nat → Int32) (mla : Int32) (mmo : Nat → Int32) (mrc : Int32) (mro : Nat → Int32) (mrt : Nat → Int32) (mrm : Nat → Int32) (mrl : Nat → Int64) (mrh : Nat → Int64) (mwk : Nat → Int32) (mwt : Nat → Int32) (mwm : Nat → Int32) (mwl : Nat → Int64) (mwh : Nat → Int64) (mwi : Nat → Int32) (mwc : Nat → Int32) (mwx : Nat → Int32) (mar : Int32) (mli : Int32) (mgr : Int32) (mgo : Nat → Int32) (mfr : Int32) (v1 : Int32) : ∀ (n : Nat) (mre : Nat → Int32) (v2 : Int32) (o_mre : Nat → Int32) (H : Heap) (locs : List Loc) (ls : Array Slot), F_M_fillReach_L35 v1 n mre v2 = some o_mre → va_P g kcl (wM cI cJ cZ ad mth mst mse mla mmo mrc mro mrt mrm mrl mrh mwk mwt mwm mwl mwh mwi mwc mwx mar mli mgr mgo mre mfr rest) H → va_D A (wM cI cJ cZ ad mth mst mse mla mmo mrc mro mrt mrm mrl mrh mwk mwt mwm mwl mwh mwi mwc mwx mar mli mgr mgo mre mfr rest) → va_S A s.heap H locs → lv_has ls 4 [(0, .ref (ad 0)), (1, .int v1), (2, .int v2)] → (∀ (H : Heap) (locs : List Loc) (ls : Array Slot), va_P g kcl (wM cI cJ cZ ad mth mst mse mla mmo mrc mro mrt mrm mrl mrh mwk mwt mwm mwl mwh mwi mwc mwx mar mli mgr mgo o_mre mfr rest) H → va_D A (wM cI cJ cZ ad mth mst mse mla mmo mrc mro mrt mrm mrl mrh mwk mwt mwm mwl mwh mwi mwc mwx mar mli mgr mgo o_mre mfr rest) → va_S A s.heap H locs → lv_has ls 4 [(0, .ref (ad 0)), (1, .int v1)] → W p l e ({ frames := 5, cells := 0, slots := 0, locals := 117 }) s m args below meth c H locs 0 0 Q (F0 m 103 ls [])) → W p l e ({ frames := 5, cells := 0, slots := 0, locals := 117 }) s m args below meth c H locs 0 0 Q (F0 m 35 ls []) := by
  obtain ⟨hx, hb, hr, hml, hown, hts, hlocks, hK, hA, hE⟩ := id K
  intro n
  induction n with
  | zero =>
    intro mre v2 o_mre H locs ls hF
    rw [F_M_fillReach_L35] at hF
    cases hF
  | succ n ih =>
    intro mre v2 o_mre H locs ls hF hP hD hS hl hQ
    rw [F_M_fillReach_L35] at hF
    refine lv_iload_n hx hb d_M_fillReach_35 rfl (lv_at hl 2 rfl) ?_
    refine lv_bipush (v := 8) hx hb d_M_fillReach_36 (by decide) ?_
    refine lv_icmp_ge (tgt := 103) hx hb d_M_fillReach_38 (by decide) (fun hc_6 => ?_) (fun hc_6 => ?_)
    · have hF := it_t hF hc_6
      cases hF
      exact hQ H locs ls hP hD hS (lv_sub hl [0, 1] rfl)
    · have hF := it_f hF hc_6
      refine lv_iconst (v := 0) hx hb d_M_fillReach_41 (by decide) ?_
      refine lv_istore_n (lv' := [(3, .int 0), (0, .ref (ad 0)), (1, .int v1), (2, .int v2)]) hx hb d_M_fillReach_42 rfl hl (by decide) rfl (fun ls hl => ?_)
      obtain ⟨mre_15, hG, hF⟩ := ob1_inv hF
      refine t_M_fillReach_L43 K mth mst mse mla mmo mrc mro mrt mrm mrl mrh mwk mwt mwm mwl mwh mwi mwc mwx mar mli mgr mgo mfr v1 v2 fu _ _ _ H locs ls hG hP hD hS (lv_sub hl [1, 2, 3, 0] rfl) (fun H locs ls hP hD hS hl => ?_)
      refine lv_iinc (v := v2 + 1) (lv' := [(2, .int (v2 + 1)), (0, .ref (ad 0)), (1, .int v1)]) hx hb d_M_fillReach_97 hl (k := 2) rfl rfl (by decide) rfl (fun ls hl => ?_)
      refine lv_goto (tgt := 35) hx hb d_M_fillReach_100 (by decide) ?_
      exact ih _ _ _ H locs ls hF hP hD hS (lv_sub hl [1, 2, 0] rfl) hQ
set_option maxHeartbeats 4000000 in
set_option maxRecDepth 100000 in
theorem t_M_fillReach_L27 {p : Program} {l : Launch} {e : Env} {s : State} {m : MethodId} {args : Array Value} {below : List Frame} {meth : Method} {c : Code} {A : Nat → Prop} {g : va_G} {cI cJ cZ : ClassId} {ad : Nat → Nat} {rest : va_W} (K : kX p s m args meth c "LockTableModel" prog_6_method_27_code 4 none A g (kty cI cJ cZ)) {Q : State → Prop} (mth : Int32) (mst : Nat → Int32) (mse : Nat → Int32) (mla : Int32) (mmo : Nat → Int32) (mrc : Int32) (mro : Nat → Int32) (mrt : Nat → Int32) (mrm : Nat → Int32) (mrl : Nat → Int64) (mrh : Nat → Int64) (mwk : Nat → Int32) (mwt : Nat → Int32) (mwm : Nat → Int32) (mwl : Nat → Int64) (mwh : Nat → Int64) (mwi : Nat → Int32) (mwc : Nat → Int32) (mwx : Nat → Int32) (mar : Int32) (mli : Int32) (mgr : Int32) (mgo : Nat → Int32) (mfr : Int32) : ∀ (n : Nat) (mre : Nat → Int32) (v1 : Int32) (o_mre : Nat → Int32) (H : Heap) (locs : List Loc) (ls : Array Slot), F_M_fillReach_L27  n mre v1 = some o_mre → va_P g kcl (wM cI cJ cZ ad mth mst mse mla mmo mrc mro mrt mrm mrl mrh mwk mwt mwm mwl mwh mwi mwc mwx mar mli mgr mgo mre mfr rest) H → va_D A (wM cI cJ cZ ad mth mst mse mla mmo mrc mro mrt mrm mrl mrh mwk mwt mwm mwl mwh mwi mwc mwx mar mli mgr mgo mre mfr rest) → va_S A s.heap H locs → lv_has ls 4 [(0, .ref (ad 0)), (1, .int v1)] → (∀ (H : Heap) (locs : List Loc) (ls : Array Slot), va_P g kcl (wM cI cJ cZ ad mth mst mse mla mmo mrc mro mrt mrm mrl mrh mwk mwt mwm mwl mwh mwi mwc mwx mar mli mgr mgo o_mre mfr rest) H → va_D A (wM cI cJ cZ ad mth mst mse mla mmo mrc mro mrt mrm mrl mrh mwk mwt mwm mwl mwh mwi mwc mwx mar mli mgr mgo o_mre mfr rest) → va_S A s.heap H locs → lv_has ls 4 [] → W p l e ({ frames := 5, cells := 0, slots := 0, locals := 117 }) s m args below meth c H locs 0 0 Q (F0 m 109 ls [])) → W p l e ({ frames := 5, cells := 0, slots := 0, locals := 117 }) s m args below meth c H locs 0 0 Q (F0 m 27 ls []) := by
  obtain ⟨hx, hb, hr, hml, hown, hts, hlocks, hK, hA, hE⟩ := id K
  intro n
  induction n with
  | zero =>
    intro mre v1 o_mre H locs ls hF
    rw [F_M_fillReach_L27] at hF
    cases hF
  | succ n ih =>
    intro mre v1 o_mre H locs ls hF hP hD hS hl hQ
    rw [F_M_fillReach_L27] at hF
    refine lv_iload_n hx hb d_M_fillReach_27 rfl (lv_at hl 1 rfl) ?_
    refine lv_bipush (v := 8) hx hb d_M_fillReach_28 (by decide) ?_
    refine lv_icmp_ge (tgt := 109) hx hb d_M_fillReach_30 (by decide) (fun hc_5 => ?_) (fun hc_5 => ?_)
    · have hF := it_t hF hc_5
      cases hF
      exact hQ H locs ls hP hD hS (lv_sub hl [] rfl)
    · have hF := it_f hF hc_5
      refine lv_iconst (v := 0) hx hb d_M_fillReach_33 (by decide) ?_
      refine lv_istore_n (lv' := [(2, .int 0), (0, .ref (ad 0)), (1, .int v1)]) hx hb d_M_fillReach_34 rfl hl (by decide) rfl (fun ls hl => ?_)
      obtain ⟨mre_16, hG, hF⟩ := ob1_inv hF
      refine t_M_fillReach_L35 K mth mst mse mla mmo mrc mro mrt mrm mrl mrh mwk mwt mwm mwl mwh mwi mwc mwx mar mli mgr mgo mfr v1 fu _ _ _ H locs ls hG hP hD hS (lv_sub hl [1, 2, 0] rfl) (fun H locs ls hP hD hS hl => ?_)
      refine lv_iinc (v := v1 + 1) (lv' := [(1, .int (v1 + 1)), (0, .ref (ad 0))]) hx hb d_M_fillReach_103 hl (k := 1) rfl rfl (by decide) rfl (fun ls hl => ?_)
      refine lv_goto (tgt := 27) hx hb d_M_fillReach_106 (by decide) ?_
      exact ih _ _ _ H locs ls hF hP hD hS (lv_sub hl [1, 0] rfl) hQ
set_option maxHeartbeats 4000000 in
set_option maxRecDepth 100000 in
theorem t_M_fillReach {p : Program} {l : Launch} {e : Env} {s : State} {m : MethodId} {args : Array Value} {below : List Frame} {meth : Method} {c : Code} {A : Nat → Prop} {g : va_G} {cI cJ cZ : ClassId} {ad : Nat → Nat} {rest : va_W} (K : kX p s m args meth c "LockTableModel" prog_6_method_27_code 4 none A g (kty cI cJ cZ)) (mth : Int32) (mst : Nat → Int32) (mse : Nat → Int32) (mla : Int32) (mmo : Nat → Int32) (mrc : Int32) (mro : Nat → Int32) (mrt : Nat → Int32) (mrm : Nat → Int32) (mrl : Nat → Int64) (mrh : Nat → Int64) (mwk : Nat → Int32) (mwt : Nat → Int32) (mwm : Nat → Int32) (mwl : Nat → Int64) (mwh : Nat → Int64) (mwi : Nat → Int32) (mwc : Nat → Int32) (mwx : Nat → Int32) (mar : Int32) (mli : Int32) (mgr : Int32) (mgo : Nat → Int32) (mre : Nat → Int32) (mfr : Int32)  (o_mre : Nat → Int32) (hF : F_M_fillReach mst mmo mrc mro mrt mrm mrl mrh mwk mwt mwm mwl mwh mwi mwc mre = some o_mre) {H : Heap} {locs : List Loc} {ls : Array Slot} (hP : va_P g kcl (wM cI cJ cZ ad mth mst mse mla mmo mrc mro mrt mrm mrl mrh mwk mwt mwm mwl mwh mwi mwc mwx mar mli mgr mgo mre mfr rest) H) (hD : va_D A (wM cI cJ cZ ad mth mst mse mla mmo mrc mro mrt mrm mrl mrh mwk mwt mwm mwl mwh mwi mwc mwx mar mli mgr mgo mre mfr rest)) (hS : va_S A s.heap H locs) (hl : lv_has ls 4 [(0, .ref (ad 0))]) : W p l e ({ frames := 5, cells := 0, slots := 0, locals := 117 }) s m args below meth c H locs 0 0 (MQ below (kQv g (kty cI cJ cZ) (wM cI cJ cZ ad mth mst mse mla mmo mrc mro mrt mrm mrl mrh mwk mwt mwm mwl mwh mwi mwc mwx mar mli mgr mgo o_mre mfr rest) A) args s 0 0 A) (F0 m 0 ls []) := by
  obtain ⟨hx, hb, hr, hml, hown, hts, hlocks, hK, hA, hE⟩ := id K
  unfold F_M_fillReach at hF
  refine lv_iconst (v := 0) hx hb d_M_fillReach_0 (by decide) ?_
  refine lv_istore_n (lv' := [(1, .int 0), (0, .ref (ad 0))]) hx hb d_M_fillReach_1 rfl hl (by decide) rfl (fun ls hl => ?_)
  obtain ⟨mre_4, hG, hF⟩ := ob1_inv hF
  refine t_M_fillReach_L2 K mth mst mse mla mmo mrc mro mrt mrm mrl mrh mwk mwt mwm mwl mwh mwi mwc mwx mar mli mgr mgo mfr fu _ _ _ H locs ls hG hP hD hS (lv_sub hl [1, 0] rfl) (fun H locs ls hP hD hS hl => ?_)
  refine lv_iconst (v := 0) hx hb d_M_fillReach_25 (by decide) ?_
  refine lv_istore_n (lv' := [(1, .int 0), (0, .ref (ad 0))]) hx hb d_M_fillReach_26 rfl hl (by decide) rfl (fun ls hl => ?_)
  obtain ⟨mre_17, hG, hF⟩ := ob1_inv hF
  refine t_M_fillReach_L27 K mth mst mse mla mmo mrc mro mrt mrm mrl mrh mwk mwt mwm mwl mwh mwi mwc mwx mar mli mgr mgo mfr fu _ _ _ H locs ls hG hP hD hS (lv_sub hl [1, 0] rfl) (fun H locs ls hP hD hS hl => ?_)
  cases hF
  exact krv K hP hD hS d_M_fillReach_109
theorem c_M_fillReach (l : Launch) (g : va_G) (cI cJ cZ : ClassId) (ad : Nat → Nat) (mth : Int32) (mst : Nat → Int32) (mse : Nat → Int32) (mla : Int32) (mmo : Nat → Int32) (mrc : Int32) (mro : Nat → Int32) (mrt : Nat → Int32) (mrm : Nat → Int32) (mrl : Nat → Int64) (mrh : Nat → Int64) (mwk : Nat → Int32) (mwt : Nat → Int32) (mwm : Nat → Int32) (mwl : Nat → Int64) (mwh : Nat → Int64) (mwi : Nat → Int32) (mwc : Nat → Int32) (mwx : Nat → Int32) (mar : Int32) (mli : Int32) (mgr : Int32) (mgo : Nat → Int32) (mre : Nat → Int32) (mfr : Int32) (rest : va_W)  (o_mre : Nat → Int32) (hF : F_M_fillReach mst mmo mrc mro mrt mrm mrl mrh mwk mwt mwm mwl mwh mwi mwc mre = some o_mre) : Cv l y_M_fillReach prog_6_method_27_code 4 ({ frames := 5, cells := 0, slots := 0, locals := 117 }) [.ref (ad 0)] g (kty cI cJ cZ) (wM cI cJ cZ ad mth mst mse mla mmo mrc mro mrt mrm mrl mrh mwk mwt mwm mwl mwh mwi mwc mwx mar mli mgr mgo mre mfr rest) (wM cI cJ cZ ad mth mst mse mla mmo mrc mro mrt mrm mrl mrh mwk mwt mwm mwl mwh mwi mwc mwx mar mli mgr mgo o_mre mfr rest) :=
  Cv.of (by decide) (Nat.le_of_ble_eq_true rfl) (fun p e s m below meth c A ls K hP hD hS hl => t_M_fillReach K mth mst mse mla mmo mrc mro mrt mrm mrl mrh mwk mwt mwm mwl mwh mwi mwc mwx mar mli mgr mgo mre mfr  o_mre hF hP hD hS hl)
def F_M_breakRings_L32 (mse : Nat → Int32) (mre : Nat → Int32) (v1 : Int32) : Nat → Int32 → Int32 → Option (Int32)
  | 0, _, _ => none
  | n + 1, v2, v3 => if 8 ≤ v3 then some v2 else gd (v1 < 0 ∨ 8 ≤ v1.toNatClampNeg) (jn1 (fun (s_8 : Int32) => if s_8 = 0 then F_M_breakRings_L32 mse mre v1 n v2 (v3 + 1) else gd (v3 < 0 ∨ 8 ≤ v3.toNatClampNeg) (gd (v2 < 0 ∨ 8 ≤ v2.toNatClampNeg) (if (mse v3.toNatClampNeg) ≤ (mse v2.toNatClampNeg) then F_M_breakRings_L32 mse mre v1 n v2 (v3 + 1) else F_M_breakRings_L32 mse mre v1 n v3 (v3 + 1)))) (fun J71 => jn0 (J71 0) (fun J70 => if (((mre v1.toNatClampNeg) >>> (v3 &&& 31)) &&& 1) = 1 then gd (v3 < 0 ∨ 8 ≤ v3.toNatClampNeg) (if (((mre v3.toNatClampNeg) >>> (v1 &&& 31)) &&& 1) = 1 then J71 1 else J70 ) else J70 )))
def F_M_breakRings_L4 (mse : Nat → Int32) (mwk : Nat → Int32) (mwt : Nat → Int32) (mwm : Nat → Int32) (mwl : Nat → Int64) (mwh : Nat → Int64) (mwi : Nat → Int32) (mwc : Nat → Int32) (v1 : Int32) : Nat → (Nat → Int32) → (Nat → Int32) → Int32 → (Nat → Int32) → (Nat → Int32) → (Nat → Int32) → (Nat → Int64) → (Nat → Int64) → Int32 → (Nat → Int32) → (Nat → Int32) → Int32 → Option ((Nat → Int32) × (Nat → Int32) × Int32 × (Nat → Int32) × (Nat → Int32) × (Nat → Int32) × (Nat → Int64) × (Nat → Int64) × Int32 × (Nat → Int32) × (Nat → Int32) × Int32)
  | 0, _, _, _, _, _, _, _, _, _, _, _, _ => none
  | n + 1, mst, mmo, mrc, mro, mrt, mrm, mrl, mrh, mgr, mgo, mre, mfr => gd (v1 < 0 ∨ 8 ≤ v1.toNatClampNeg) (if (mst v1.toNatClampNeg) = 2 then gd (v1 < 0 ∨ 8 ≤ v1.toNatClampNeg) (if (((mre v1.toNatClampNeg) >>> (v1 &&& 31)) &&& 1) = 1 then ob1 (F_M_breakRings_L32 mse mre v1 fu v1 0) (fun v2_16 => gd (v2_16 < 0 ∨ 8 ≤ v2_16.toNatClampNeg) (ob11 (F_M_look (upd mst v2_16.toNatClampNeg 3) mmo mrc mro mrt mrm mrl mrh mwk mwt mwm mwl mwh mwi mwc mgr mgo mfr v1) (fun mst_18 mmo_19 mrc_20 mro_21 mrt_22 mrm_23 mrl_24 mrh_25 mgr_26 mgo_27 mfr_28 => ob1 (F_M_fillReach mst_18 mmo_19 mrc_20 mro_21 mrt_22 mrm_23 mrl_24 mrh_25 mwk mwt mwm mwl mwh mwi mwc mre) (fun mre_29 => F_M_breakRings_L4 mse mwk mwt mwm mwl mwh mwi mwc v1 n mst_18 mmo_19 mrc_20 mro_21 mrt_22 mrm_23 mrl_24 mrh_25 mgr_26 mgo_27 mre_29 mfr_28)))) else some (mst, mmo, mrc, mro, mrt, mrm, mrl, mrh, mgr, mgo, mre, mfr)) else some (mst, mmo, mrc, mro, mrt, mrm, mrl, mrh, mgr, mgo, mre, mfr))
def F_M_breakRings (mst : Nat → Int32) (mse : Nat → Int32) (mmo : Nat → Int32) (mrc : Int32) (mro : Nat → Int32) (mrt : Nat → Int32) (mrm : Nat → Int32) (mrl : Nat → Int64) (mrh : Nat → Int64) (mwk : Nat → Int32) (mwt : Nat → Int32) (mwm : Nat → Int32) (mwl : Nat → Int64) (mwh : Nat → Int64) (mwi : Nat → Int32) (mwc : Nat → Int32) (mgr : Int32) (mgo : Nat → Int32) (mre : Nat → Int32) (mfr : Int32) (a1 : Int32) : Option ((Nat → Int32) × (Nat → Int32) × Int32 × (Nat → Int32) × (Nat → Int32) × (Nat → Int32) × (Nat → Int64) × (Nat → Int64) × Int32 × (Nat → Int32) × (Nat → Int32) × Int32) :=
  ob1 (F_M_fillReach mst mmo mrc mro mrt mrm mrl mrh mwk mwt mwm mwl mwh mwi mwc mre) (fun mre_1 => ob12 (F_M_breakRings_L4 mse mwk mwt mwm mwl mwh mwi mwc a1 fu mst mmo mrc mro mrt mrm mrl mrh mgr mgo mre_1 mfr) (fun mst_30 mmo_31 mrc_32 mro_33 mrt_34 mrm_35 mrl_36 mrh_37 mgr_38 mgo_39 mre_40 mfr_41 => some (mst_30, mmo_31, mrc_32, mro_33, mrt_34, mrm_35, mrl_36, mrh_37, mgr_38, mgo_39, mre_40, mfr_41)))
set_option maxHeartbeats 4000000 in
set_option maxRecDepth 100000 in
theorem t_M_breakRings_L32 {p : Program} {l : Launch} {e : Env} {s : State} {m : MethodId} {args : Array Value} {below : List Frame} {meth : Method} {c : Code} {A : Nat → Prop} {g : va_G} {cI cJ cZ : ClassId} {ad : Nat → Nat} {rest : va_W} (K : kX p s m args meth c "LockTableModel" prog_6_method_28_code 5 none A g (kty cI cJ cZ)) {Q : State → Prop} (mth : Int32) (mst : Nat → Int32) (mse : Nat → Int32) (mla : Int32) (mmo : Nat → Int32) (mrc : Int32) (mro : Nat → Int32) (mrt : Nat → Int32) (mrm : Nat → Int32) (mrl : Nat → Int64) (mrh : Nat → Int64) (mwk : Nat → Int32) (mwt : Nat → Int32) (mwm : Nat → Int32) (mwl : Nat → Int64) (mwh : Nat → Int64) (mwi : Nat → Int32) (mwc : Nat → Int32) (mwx : Nat → Int32) (mar : Int32) (mli : Int32) (mgr : Int32) (mgo : Nat → Int32) (mre : Nat → Int32) (mfr : Int32) (v1 : Int32) : ∀ (n : Nat) (v2 : Int32) (v3 : Int32) (o_v2 : Int32) (H : Heap) (locs : List Loc) (ls : Array Slot), F_M_breakRings_L32 mse mre v1 n v2 v3 = some o_v2 → va_P g kcl (wM cI cJ cZ ad mth mst mse mla mmo mrc mro mrt mrm mrl mrh mwk mwt mwm mwl mwh mwi mwc mwx mar mli mgr mgo mre mfr rest) H → va_D A (wM cI cJ cZ ad mth mst mse mla mmo mrc mro mrt mrm mrl mrh mwk mwt mwm mwl mwh mwi mwc mwx mar mli mgr mgo mre mfr rest) → va_S A s.heap H locs → lv_has ls 5 [(0, .ref (ad 0)), (1, .int v1), (2, .int v2), (3, .int v3)] → (∀ (H : Heap) (locs : List Loc) (ls : Array Slot), va_P g kcl (wM cI cJ cZ ad mth mst mse mla mmo mrc mro mrt mrm mrl mrh mwk mwt mwm mwl mwh mwi mwc mwx mar mli mgr mgo mre mfr rest) H → va_D A (wM cI cJ cZ ad mth mst mse mla mmo mrc mro mrt mrm mrl mrh mwk mwt mwm mwl mwh mwi mwc mwx mar mli mgr mgo mre mfr rest) → va_S A s.heap H locs → lv_has ls 5 [(0, .ref (ad 0)), (1, .int v1), (2, .int o_v2)] → W p l e ({ frames := 6, cells := 0, slots := 0, locals := 140 }) s m args below meth c H locs 0 0 Q (F0 m 105 ls [])) → W p l e ({ frames := 6, cells := 0, slots := 0, locals := 140 }) s m args below meth c H locs 0 0 Q (F0 m 32 ls []) := by
  obtain ⟨hx, hb, hr, hml, hown, hts, hlocks, hK, hA, hE⟩ := id K
  intro n
  induction n with
  | zero =>
    intro v2 v3 o_v2 H locs ls hF
    rw [F_M_breakRings_L32] at hF
    cases hF
  | succ n ih =>
    intro v2 v3 o_v2 H locs ls hF hP hD hS hl hQ
    rw [F_M_breakRings_L32] at hF
    refine lv_iload_n hx hb d_M_breakRings_32 rfl (lv_at hl 3 rfl) ?_
    refine lv_bipush (v := 8) hx hb d_M_breakRings_33 (by decide) ?_
    refine lv_icmp_ge (tgt := 105) hx hb d_M_breakRings_35 (by decide) (fun hc_6 => ?_) (fun hc_6 => ?_)
    · have hF := it_t hF hc_6
      cases hF
      exact hQ H locs ls hP hD hS (lv_sub hl [0, 1, 2] rfl)
    · have hF := it_f hF hc_6
      refine lv_aload_n hx hb d_M_breakRings_38 rfl (lv_at hl 0 rfl) ?_
      refine va_get (D := g) (ci := 3) (v := .ref (ad 18)) (C := kR3) (T := kT3) (N := 25) hx hb hts kw3 hown hK hP 0 rfl rfl 23 (by decide) (hts _ wm_694) (fun _ h9 => h9) rfl d_M_breakRings_39 ?_
      refine lv_iload_n hx hb d_M_breakRings_42 rfl (lv_at hl 1 rfl) ?_
      obtain ⟨hg_7, hF⟩ := gd_inv hF
      refine va_iald hx hb hK hP 18 0 rfl rfl hg_7 d_M_breakRings_43 ?_
      refine lv_iload_n hx hb d_M_breakRings_44 rfl (lv_at hl 3 rfl) ?_
      refine lv_ishr hx hb d_M_breakRings_45 ?_
      refine lv_iconst (v := 1) hx hb d_M_breakRings_46 (by decide) ?_
      refine lv_iand hx hb d_M_breakRings_47 ?_
      refine lv_iconst (v := 1) hx hb d_M_breakRings_48 (by decide) ?_
      obtain ⟨J71, eJ71, hF⟩ := jn1_inv hF
      have hJ71 : ∀ (s_8 : Int32) (H : Heap) (locs : List Loc) (ls : Array Slot), J71 s_8 = some o_v2 → va_P g kcl (wM cI cJ cZ ad mth mst mse mla mmo mrc mro mrt mrm mrl mrh mwk mwt mwm mwl mwh mwi mwc mwx mar mli mgr mgo mre mfr rest) H → va_D A (wM cI cJ cZ ad mth mst mse mla mmo mrc mro mrt mrm mrl mrh mwk mwt mwm mwl mwh mwi mwc mwx mar mli mgr mgo mre mfr rest) → va_S A s.heap H locs → lv_has ls 5 [(0, .ref (ad 0)), (1, .int v1), (2, .int v2), (3, .int v3)] → W p l e ({ frames := 6, cells := 0, slots := 0, locals := 140 }) s m args below meth c H locs 0 0 Q (F0 m 71 ls [.int s_8]) := by
        intro s_8 H locs ls hF hP hD hS hl
        rw [eJ71] at hF
        refine lv_istore (lv' := [(4, .int s_8), (0, .ref (ad 0)), (1, .int v1), (2, .int v2), (3, .int v3)]) hx hb d_M_breakRings_71 hl (by decide) rfl (fun ls hl => ?_)
        refine lv_iload hx hb d_M_breakRings_73 (lv_at hl 0 rfl) ?_
        refine lv_if_eq (tgt := 97) hx hb d_M_breakRings_75 (by decide) (fun hc_9 => ?_) (fun hc_9 => ?_)
        · have hF := it_t hF hc_9
          refine lv_iload_n hx hb d_M_breakRings_97 rfl (lv_at hl 3 rfl) ?_
          refine lv_istore_n (lv' := [(2, .int v2), (4, .int s_8), (0, .ref (ad 0)), (1, .int v1), (3, .int v3)]) hx hb d_M_breakRings_98 rfl hl (by decide) rfl (fun ls hl => ?_)
          refine lv_iinc (v := v3 + 1) (lv' := [(3, .int (v3 + 1)), (2, .int v2), (4, .int s_8), (0, .ref (ad 0)), (1, .int v1)]) hx hb d_M_breakRings_99 hl (k := 4) rfl rfl (by decide) rfl (fun ls hl => ?_)
          refine lv_goto (tgt := 32) hx hb d_M_breakRings_102 (by decide) ?_
          exact ih _ _ _ H locs ls hF hP hD hS (lv_sub hl [3, 4, 1, 0] rfl) hQ
        · have hF := it_f hF hc_9
          refine lv_aload_n hx hb d_M_breakRings_78 rfl (lv_at hl 1 rfl) ?_
          refine va_get (D := g) (ci := 3) (v := .ref (ad 2)) (C := kR3) (T := kT3) (N := 25) hx hb hts kw3 hown hK hP 0 rfl rfl 2 (by decide) (hts _ wm_673) (fun _ h9 => h9) rfl d_M_breakRings_79 ?_
          refine lv_iload_n hx hb d_M_breakRings_82 rfl (lv_at hl 4 rfl) ?_
          obtain ⟨hg_10, hF⟩ := gd_inv hF
          refine va_iald hx hb hK hP 2 0 rfl rfl hg_10 d_M_breakRings_83 ?_
          refine lv_aload_n hx hb d_M_breakRings_84 rfl (lv_at hl 1 rfl) ?_
          refine va_get (D := g) (ci := 3) (v := .ref (ad 2)) (C := kR3) (T := kT3) (N := 25) hx hb hts kw3 hown hK hP 0 rfl rfl 2 (by decide) (hts _ wm_673) (fun _ h9 => h9) rfl d_M_breakRings_85 ?_
          refine lv_iload_n hx hb d_M_breakRings_88 rfl (lv_at hl 3 rfl) ?_
          obtain ⟨hg_11, hF⟩ := gd_inv hF
          refine va_iald hx hb hK hP 2 0 rfl rfl hg_11 d_M_breakRings_89 ?_
          refine lv_icmp_le (tgt := 97) hx hb d_M_breakRings_90 (by decide) (fun hc_12 => ?_) (fun hc_12 => ?_)
          · have hF := it_t hF hc_12
            refine lv_iload_n hx hb d_M_breakRings_97 rfl (lv_at hl 3 rfl) ?_
            refine lv_istore_n (lv' := [(2, .int v2), (4, .int s_8), (0, .ref (ad 0)), (1, .int v1), (3, .int v3)]) hx hb d_M_breakRings_98 rfl hl (by decide) rfl (fun ls hl => ?_)
            refine lv_iinc (v := v3 + 1) (lv' := [(3, .int (v3 + 1)), (2, .int v2), (4, .int s_8), (0, .ref (ad 0)), (1, .int v1)]) hx hb d_M_breakRings_99 hl (k := 4) rfl rfl (by decide) rfl (fun ls hl => ?_)
            refine lv_goto (tgt := 32) hx hb d_M_breakRings_102 (by decide) ?_
            exact ih _ _ _ H locs ls hF hP hD hS (lv_sub hl [3, 4, 1, 0] rfl) hQ
          · have hF := it_f hF hc_12
            refine lv_iload_n hx hb d_M_breakRings_93 rfl (lv_at hl 4 rfl) ?_
            refine lv_goto (tgt := 98) hx hb d_M_breakRings_94 (by decide) ?_
            refine lv_istore_n (lv' := [(2, .int v3), (4, .int s_8), (0, .ref (ad 0)), (1, .int v1), (3, .int v3)]) hx hb d_M_breakRings_98 rfl hl (by decide) rfl (fun ls hl => ?_)
            refine lv_iinc (v := v3 + 1) (lv' := [(3, .int (v3 + 1)), (2, .int v3), (4, .int s_8), (0, .ref (ad 0)), (1, .int v1)]) hx hb d_M_breakRings_99 hl (k := 4) rfl rfl (by decide) rfl (fun ls hl => ?_)
            refine lv_goto (tgt := 32) hx hb d_M_breakRings_102 (by decide) ?_
            exact ih _ _ _ H locs ls hF hP hD hS (lv_sub hl [3, 4, 1, 0] rfl) hQ
      obtain ⟨J70, eJ70, hF⟩ := jn0_inv hF
      have hJ70 : ∀  (H : Heap) (locs : List Loc) (ls : Array Slot), J70  = some o_v2 → va_P g kcl (wM cI cJ cZ ad mth mst mse mla mmo mrc mro mrt mrm mrl mrh mwk mwt mwm mwl mwh mwi mwc mwx mar mli mgr mgo mre mfr rest) H → va_D A (wM cI cJ cZ ad mth mst mse mla mmo mrc mro mrt mrm mrl mrh mwk mwt mwm mwl mwh mwi mwc mwx mar mli mgr mgo mre mfr rest) → va_S A s.heap H locs → lv_has ls 5 [(0, .ref (ad 0)), (1, .int v1), (2, .int v2), (3, .int v3)] → W p l e ({ frames := 6, cells := 0, slots := 0, locals := 140 }) s m args below meth c H locs 0 0 Q (F0 m 70 ls []) := by
        intro  H locs ls hF hP hD hS hl
        rw [eJ70] at hF
        refine lv_iconst (v := 0) hx hb d_M_breakRings_70 (by decide) ?_
        exact hJ71 _ H locs ls hF hP hD hS (lv_sub hl [0, 1, 2, 3] rfl)
      refine lv_icmp_ne (tgt := 70) hx hb d_M_breakRings_49 (by decide) (fun hc_13 => ?_) (fun hc_13 => ?_)
      · have hF := it_f hF hc_13
        exact hJ70  H locs ls hF hP hD hS (lv_sub hl [0, 1, 2, 3] rfl)
      · have hF := it_t hF hc_13
        refine lv_aload_n hx hb d_M_breakRings_52 rfl (lv_at hl 0 rfl) ?_
        refine va_get (D := g) (ci := 3) (v := .ref (ad 18)) (C := kR3) (T := kT3) (N := 25) hx hb hts kw3 hown hK hP 0 rfl rfl 23 (by decide) (hts _ wm_694) (fun _ h9 => h9) rfl d_M_breakRings_53 ?_
        refine lv_iload_n hx hb d_M_breakRings_56 rfl (lv_at hl 3 rfl) ?_
        obtain ⟨hg_14, hF⟩ := gd_inv hF
        refine va_iald hx hb hK hP 18 0 rfl rfl hg_14 d_M_breakRings_57 ?_
        refine lv_iload_n hx hb d_M_breakRings_58 rfl (lv_at hl 1 rfl) ?_
        refine lv_ishr hx hb d_M_breakRings_59 ?_
        refine lv_iconst (v := 1) hx hb d_M_breakRings_60 (by decide) ?_
        refine lv_iand hx hb d_M_breakRings_61 ?_
        refine lv_iconst (v := 1) hx hb d_M_breakRings_62 (by decide) ?_
        refine lv_icmp_ne (tgt := 70) hx hb d_M_breakRings_63 (by decide) (fun hc_15 => ?_) (fun hc_15 => ?_)
        · have hF := it_f hF hc_15
          exact hJ70  H locs ls hF hP hD hS (lv_sub hl [0, 1, 2, 3] rfl)
        · have hF := it_t hF hc_15
          refine lv_iconst (v := 1) hx hb d_M_breakRings_66 (by decide) ?_
          refine lv_goto (tgt := 71) hx hb d_M_breakRings_67 (by decide) ?_
          exact hJ71 _ H locs ls hF hP hD hS (lv_sub hl [0, 1, 2, 3] rfl)
set_option maxHeartbeats 4000000 in
set_option maxRecDepth 100000 in
theorem t_M_breakRings_L4 {p : Program} {l : Launch} {e : Env} {s : State} {m : MethodId} {args : Array Value} {below : List Frame} {meth : Method} {c : Code} {A : Nat → Prop} {g : va_G} {cI cJ cZ : ClassId} {ad : Nat → Nat} {rest : va_W} (K : kX p s m args meth c "LockTableModel" prog_6_method_28_code 5 none A g (kty cI cJ cZ)) {Q : State → Prop} (mth : Int32) (mse : Nat → Int32) (mla : Int32) (mwk : Nat → Int32) (mwt : Nat → Int32) (mwm : Nat → Int32) (mwl : Nat → Int64) (mwh : Nat → Int64) (mwi : Nat → Int32) (mwc : Nat → Int32) (mwx : Nat → Int32) (mar : Int32) (mli : Int32) (v1 : Int32) : ∀ (n : Nat) (mst : Nat → Int32) (mmo : Nat → Int32) (mrc : Int32) (mro : Nat → Int32) (mrt : Nat → Int32) (mrm : Nat → Int32) (mrl : Nat → Int64) (mrh : Nat → Int64) (mgr : Int32) (mgo : Nat → Int32) (mre : Nat → Int32) (mfr : Int32) (o_mst : Nat → Int32) (o_mmo : Nat → Int32) (o_mrc : Int32) (o_mro : Nat → Int32) (o_mrt : Nat → Int32) (o_mrm : Nat → Int32) (o_mrl : Nat → Int64) (o_mrh : Nat → Int64) (o_mgr : Int32) (o_mgo : Nat → Int32) (o_mre : Nat → Int32) (o_mfr : Int32) (H : Heap) (locs : List Loc) (ls : Array Slot), F_M_breakRings_L4 mse mwk mwt mwm mwl mwh mwi mwc v1 n mst mmo mrc mro mrt mrm mrl mrh mgr mgo mre mfr = some (o_mst, o_mmo, o_mrc, o_mro, o_mrt, o_mrm, o_mrl, o_mrh, o_mgr, o_mgo, o_mre, o_mfr) → va_P g kcl (wM cI cJ cZ ad mth mst mse mla mmo mrc mro mrt mrm mrl mrh mwk mwt mwm mwl mwh mwi mwc mwx mar mli mgr mgo mre mfr rest) H → va_D A (wM cI cJ cZ ad mth mst mse mla mmo mrc mro mrt mrm mrl mrh mwk mwt mwm mwl mwh mwi mwc mwx mar mli mgr mgo mre mfr rest) → va_S A s.heap H locs → lv_has ls 5 [(0, .ref (ad 0)), (1, .int v1)] → (∀ (H : Heap) (locs : List Loc) (ls : Array Slot), va_P g kcl (wM cI cJ cZ ad mth o_mst mse mla o_mmo o_mrc o_mro o_mrt o_mrm o_mrl o_mrh mwk mwt mwm mwl mwh mwi mwc mwx mar mli o_mgr o_mgo o_mre o_mfr rest) H → va_D A (wM cI cJ cZ ad mth o_mst mse mla o_mmo o_mrc o_mro o_mrt o_mrm o_mrl o_mrh mwk mwt mwm mwl mwh mwi mwc mwx mar mli o_mgr o_mgo o_mre o_mfr rest) → va_S A s.heap H locs → lv_has ls 5 [] → W p l e ({ frames := 6, cells := 0, slots := 0, locals := 140 }) s m args below meth c H locs 0 0 Q (F0 m 124 ls [])) → W p l e ({ frames := 6, cells := 0, slots := 0, locals := 140 }) s m args below meth c H locs 0 0 Q (F0 m 4 ls []) := by
  obtain ⟨hx, hb, hr, hml, hown, hts, hlocks, hK, hA, hE⟩ := id K
  intro n
  induction n with
  | zero =>
    intro mst mmo mrc mro mrt mrm mrl mrh mgr mgo mre mfr o_mst o_mmo o_mrc o_mro o_mrt o_mrm o_mrl o_mrh o_mgr o_mgo o_mre o_mfr H locs ls hF
    rw [F_M_breakRings_L4] at hF
    cases hF
  | succ n ih =>
    intro mst mmo mrc mro mrt mrm mrl mrh mgr mgo mre mfr o_mst o_mmo o_mrc o_mro o_mrt o_mrm o_mrl o_mrh o_mgr o_mgo o_mre o_mfr H locs ls hF hP hD hS hl hQ
    rw [F_M_breakRings_L4] at hF
    refine lv_aload_n hx hb d_M_breakRings_4 rfl (lv_at hl 0 rfl) ?_
    refine va_get (D := g) (ci := 3) (v := .ref (ad 1)) (C := kR3) (T := kT3) (N := 25) hx hb hts kw3 hown hK hP 0 rfl rfl 1 (by decide) (hts _ wm_672) (fun _ h9 => h9) rfl d_M_breakRings_5 ?_
    refine lv_iload_n hx hb d_M_breakRings_8 rfl (lv_at hl 1 rfl) ?_
    obtain ⟨hg_2, hF⟩ := gd_inv hF
    refine va_iald hx hb hK hP 1 0 rfl rfl hg_2 d_M_breakRings_9 ?_
    refine lv_iconst (v := 2) hx hb d_M_breakRings_10 (by decide) ?_
    refine lv_icmp_ne (tgt := 124) hx hb d_M_breakRings_11 (by decide) (fun hc_3 => ?_) (fun hc_3 => ?_)
    · have hF := it_f hF hc_3
      cases hF
      exact hQ H locs ls hP hD hS (lv_sub hl [] rfl)
    · have hF := it_t hF hc_3
      refine lv_aload_n hx hb d_M_breakRings_14 rfl (lv_at hl 0 rfl) ?_
      refine va_get (D := g) (ci := 3) (v := .ref (ad 18)) (C := kR3) (T := kT3) (N := 25) hx hb hts kw3 hown hK hP 0 rfl rfl 23 (by decide) (hts _ wm_694) (fun _ h9 => h9) rfl d_M_breakRings_15 ?_
      refine lv_iload_n hx hb d_M_breakRings_18 rfl (lv_at hl 1 rfl) ?_
      obtain ⟨hg_4, hF⟩ := gd_inv hF
      refine va_iald hx hb hK hP 18 0 rfl rfl hg_4 d_M_breakRings_19 ?_
      refine lv_iload_n hx hb d_M_breakRings_20 rfl (lv_at hl 1 rfl) ?_
      refine lv_ishr hx hb d_M_breakRings_21 ?_
      refine lv_iconst (v := 1) hx hb d_M_breakRings_22 (by decide) ?_
      refine lv_iand hx hb d_M_breakRings_23 ?_
      refine lv_iconst (v := 1) hx hb d_M_breakRings_24 (by decide) ?_
      refine lv_icmp_ne (tgt := 124) hx hb d_M_breakRings_25 (by decide) (fun hc_5 => ?_) (fun hc_5 => ?_)
      · have hF := it_f hF hc_5
        cases hF
        exact hQ H locs ls hP hD hS (lv_sub hl [] rfl)
      · have hF := it_t hF hc_5
        refine lv_iload_n hx hb d_M_breakRings_28 rfl (lv_at hl 1 rfl) ?_
        refine lv_istore_n (lv' := [(2, .int v1), (0, .ref (ad 0)), (1, .int v1)]) hx hb d_M_breakRings_29 rfl hl (by decide) rfl (fun ls hl => ?_)
        refine lv_iconst (v := 0) hx hb d_M_breakRings_30 (by decide) ?_
        refine lv_istore_n (lv' := [(3, .int 0), (2, .int v1), (0, .ref (ad 0)), (1, .int v1)]) hx hb d_M_breakRings_31 rfl hl (by decide) rfl (fun ls hl => ?_)
        obtain ⟨v2_16, hG, hF⟩ := ob1_inv hF
        refine t_M_breakRings_L32 K mth mst mse mla mmo mrc mro mrt mrm mrl mrh mwk mwt mwm mwl mwh mwi mwc mwx mar mli mgr mgo mre mfr v1 fu _ _ _ H locs ls hG hP hD hS (lv_sub hl [2, 3, 1, 0] rfl) (fun H locs ls hP hD hS hl => ?_)
        refine lv_aload_n hx hb d_M_breakRings_105 rfl (lv_at hl 0 rfl) ?_
        refine va_get (D := g) (ci := 3) (v := .ref (ad 1)) (C := kR3) (T := kT3) (N := 25) hx hb hts kw3 hown hK hP 0 rfl rfl 1 (by decide) (hts _ wm_672) (fun _ h9 => h9) rfl d_M_breakRings_106 ?_
        refine lv_iload_n hx hb d_M_breakRings_109 rfl (lv_at hl 2 rfl) ?_
        refine lv_iconst (v := 3) hx hb d_M_breakRings_110 (by decide) ?_
        obtain ⟨hg_17, hF⟩ := gd_inv hF
        refine va_iast hx hb hK hP hD hS 1 0 rfl rfl hg_17 d_M_breakRings_111 (fun H locs hP hD hS => ?_)
        have hP : va_P g kcl (wM cI cJ cZ ad mth (upd mst v2_16.toNatClampNeg 3) mse mla mmo mrc mro mrt mrm mrl mrh mwk mwt mwm mwl mwh mwi mwc mwx mar mli mgr mgo mre mfr rest) H := hP
        have hD : va_D A (wM cI cJ cZ ad mth (upd mst v2_16.toNatClampNeg 3) mse mla mmo mrc mro mrt mrm mrl mrh mwk mwt mwm mwl mwh mwi mwc mwx mar mli mgr mgo mre mfr rest) := hD
        refine lv_aload_n hx hb d_M_breakRings_112 rfl (lv_at hl 0 rfl) ?_
        refine lv_iload_n hx hb d_M_breakRings_113 rfl (lv_at hl 1 rfl) ?_
        obtain ⟨mst_18, mmo_19, mrc_20, mro_21, mrt_22, mrm_23, mrl_24, mrh_25, mgr_26, mgo_27, mfr_28, hG, hF⟩ := ob11_inv hF
        refine kcv K hP hD hS (c_M_look l g cI cJ cZ ad mth (upd mst v2_16.toNatClampNeg 3) mse mla mmo mrc mro mrt mrm mrl mrh mwk mwt mwm mwl mwh mwi mwc mwx mar mli mgr mgo mre mfr rest v1 mst_18 mmo_19 mrc_20 mro_21 mrt_22 mrm_23 mrl_24 mrh_25 mgr_26 mgo_27 mfr_28 hG) wm_835 wm_832 wm_834 wm_33 wm_50 hd_M_look rfl rfl ⟨Nat.le_of_ble_eq_true rfl, Nat.le_of_ble_eq_true rfl⟩ ⟨Nat.zero_le _, Nat.zero_le _⟩ 3 0 rfl rfl rfl hl.1 (rest := []) rfl (Nat.le_of_ble_eq_true rfl) d_M_breakRings_114 (fun H locs hP hD hS => ?_)
        refine lv_aload_n hx hb d_M_breakRings_117 rfl (lv_at hl 0 rfl) ?_
        obtain ⟨mre_29, hG, hF⟩ := ob1_inv hF
        refine kcv K hP hD hS (c_M_fillReach l g cI cJ cZ ad mth mst_18 mse mla mmo_19 mrc_20 mro_21 mrt_22 mrm_23 mrl_24 mrh_25 mwk mwt mwm mwl mwh mwi mwc mwx mar mli mgr_26 mgo_27 mre mfr_28 rest  mre_29 hG) wm_847 wm_844 wm_846 wm_36 wm_50 hd_M_fillReach rfl rfl ⟨Nat.le_of_ble_eq_true rfl, Nat.le_of_ble_eq_true rfl⟩ ⟨Nat.zero_le _, Nat.zero_le _⟩ 3 0 rfl rfl rfl hl.1 (rest := []) rfl (Nat.le_of_ble_eq_true rfl) d_M_breakRings_118 (fun H locs hP hD hS => ?_)
        refine lv_goto (tgt := 4) hx hb d_M_breakRings_121 (by decide) ?_
        exact ih _ _ _ _ _ _ _ _ _ _ _ _ _ _ _ _ _ _ _ _ _ _ _ _ H locs ls hF hP hD hS (lv_sub hl [0, 1] rfl) hQ
set_option maxHeartbeats 4000000 in
set_option maxRecDepth 100000 in
theorem t_M_breakRings {p : Program} {l : Launch} {e : Env} {s : State} {m : MethodId} {args : Array Value} {below : List Frame} {meth : Method} {c : Code} {A : Nat → Prop} {g : va_G} {cI cJ cZ : ClassId} {ad : Nat → Nat} {rest : va_W} (K : kX p s m args meth c "LockTableModel" prog_6_method_28_code 5 none A g (kty cI cJ cZ)) (mth : Int32) (mst : Nat → Int32) (mse : Nat → Int32) (mla : Int32) (mmo : Nat → Int32) (mrc : Int32) (mro : Nat → Int32) (mrt : Nat → Int32) (mrm : Nat → Int32) (mrl : Nat → Int64) (mrh : Nat → Int64) (mwk : Nat → Int32) (mwt : Nat → Int32) (mwm : Nat → Int32) (mwl : Nat → Int64) (mwh : Nat → Int64) (mwi : Nat → Int32) (mwc : Nat → Int32) (mwx : Nat → Int32) (mar : Int32) (mli : Int32) (mgr : Int32) (mgo : Nat → Int32) (mre : Nat → Int32) (mfr : Int32) (a1 : Int32) (o_mst : Nat → Int32) (o_mmo : Nat → Int32) (o_mrc : Int32) (o_mro : Nat → Int32) (o_mrt : Nat → Int32) (o_mrm : Nat → Int32) (o_mrl : Nat → Int64) (o_mrh : Nat → Int64) (o_mgr : Int32) (o_mgo : Nat → Int32) (o_mre : Nat → Int32) (o_mfr : Int32) (hF : F_M_breakRings mst mse mmo mrc mro mrt mrm mrl mrh mwk mwt mwm mwl mwh mwi mwc mgr mgo mre mfr a1 = some (o_mst, o_mmo, o_mrc, o_mro, o_mrt, o_mrm, o_mrl, o_mrh, o_mgr, o_mgo, o_mre, o_mfr)) {H : Heap} {locs : List Loc} {ls : Array Slot} (hP : va_P g kcl (wM cI cJ cZ ad mth mst mse mla mmo mrc mro mrt mrm mrl mrh mwk mwt mwm mwl mwh mwi mwc mwx mar mli mgr mgo mre mfr rest) H) (hD : va_D A (wM cI cJ cZ ad mth mst mse mla mmo mrc mro mrt mrm mrl mrh mwk mwt mwm mwl mwh mwi mwc mwx mar mli mgr mgo mre mfr rest)) (hS : va_S A s.heap H locs) (hl : lv_has ls 5 [(0, .ref (ad 0)), (1, .int a1)]) : W p l e ({ frames := 6, cells := 0, slots := 0, locals := 140 }) s m args below meth c H locs 0 0 (MQ below (kQv g (kty cI cJ cZ) (wM cI cJ cZ ad mth o_mst mse mla o_mmo o_mrc o_mro o_mrt o_mrm o_mrl o_mrh mwk mwt mwm mwl mwh mwi mwc mwx mar mli o_mgr o_mgo o_mre o_mfr rest) A) args s 0 0 A) (F0 m 0 ls []) := by
  obtain ⟨hx, hb, hr, hml, hown, hts, hlocks, hK, hA, hE⟩ := id K
  unfold F_M_breakRings at hF
  refine lv_aload_n hx hb d_M_breakRings_0 rfl (lv_at hl 0 rfl) ?_
  obtain ⟨mre_1, hG, hF⟩ := ob1_inv hF
  refine kcv K hP hD hS (c_M_fillReach l g cI cJ cZ ad mth mst mse mla mmo mrc mro mrt mrm mrl mrh mwk mwt mwm mwl mwh mwi mwc mwx mar mli mgr mgo mre mfr rest  mre_1 hG) wm_847 wm_844 wm_846 wm_36 wm_50 hd_M_fillReach rfl rfl ⟨Nat.le_of_ble_eq_true rfl, Nat.le_of_ble_eq_true rfl⟩ ⟨Nat.zero_le _, Nat.zero_le _⟩ 3 0 rfl rfl rfl hl.1 (rest := []) rfl (Nat.le_of_ble_eq_true rfl) d_M_breakRings_1 (fun H locs hP hD hS => ?_)
  obtain ⟨mst_30, mmo_31, mrc_32, mro_33, mrt_34, mrm_35, mrl_36, mrh_37, mgr_38, mgo_39, mre_40, mfr_41, hG, hF⟩ := ob12_inv hF
  refine t_M_breakRings_L4 K mth mse mla mwk mwt mwm mwl mwh mwi mwc mwx mar mli a1 fu _ _ _ _ _ _ _ _ _ _ _ _ _ _ _ _ _ _ _ _ _ _ _ _ H locs ls hG hP hD hS (lv_sub hl [0, 1] rfl) (fun H locs ls hP hD hS hl => ?_)
  cases hF
  exact krv K hP hD hS d_M_breakRings_124
theorem c_M_breakRings (l : Launch) (g : va_G) (cI cJ cZ : ClassId) (ad : Nat → Nat) (mth : Int32) (mst : Nat → Int32) (mse : Nat → Int32) (mla : Int32) (mmo : Nat → Int32) (mrc : Int32) (mro : Nat → Int32) (mrt : Nat → Int32) (mrm : Nat → Int32) (mrl : Nat → Int64) (mrh : Nat → Int64) (mwk : Nat → Int32) (mwt : Nat → Int32) (mwm : Nat → Int32) (mwl : Nat → Int64) (mwh : Nat → Int64) (mwi : Nat → Int32) (mwc : Nat → Int32) (mwx : Nat → Int32) (mar : Int32) (mli : Int32) (mgr : Int32) (mgo : Nat → Int32) (mre : Nat → Int32) (mfr : Int32) (rest : va_W) (a1 : Int32) (o_mst : Nat → Int32) (o_mmo : Nat → Int32) (o_mrc : Int32) (o_mro : Nat → Int32) (o_mrt : Nat → Int32) (o_mrm : Nat → Int32) (o_mrl : Nat → Int64) (o_mrh : Nat → Int64) (o_mgr : Int32) (o_mgo : Nat → Int32) (o_mre : Nat → Int32) (o_mfr : Int32) (hF : F_M_breakRings mst mse mmo mrc mro mrt mrm mrl mrh mwk mwt mwm mwl mwh mwi mwc mgr mgo mre mfr a1 = some (o_mst, o_mmo, o_mrc, o_mro, o_mrt, o_mrm, o_mrl, o_mrh, o_mgr, o_mgo, o_mre, o_mfr)) : Cv l y_M_breakRings prog_6_method_28_code 5 ({ frames := 6, cells := 0, slots := 0, locals := 140 }) [.ref (ad 0), .int a1] g (kty cI cJ cZ) (wM cI cJ cZ ad mth mst mse mla mmo mrc mro mrt mrm mrl mrh mwk mwt mwm mwl mwh mwi mwc mwx mar mli mgr mgo mre mfr rest) (wM cI cJ cZ ad mth o_mst mse mla o_mmo o_mrc o_mro o_mrt o_mrm o_mrl o_mrh mwk mwt mwm mwl mwh mwi mwc mwx mar mli o_mgr o_mgo o_mre o_mfr rest) :=
  Cv.of (by decide) (Nat.le_of_ble_eq_true rfl) (fun p e s m below meth c A ls K hP hD hS hl => t_M_breakRings K mth mst mse mla mmo mrc mro mrt mrm mrl mrh mwk mwt mwm mwl mwh mwi mwc mwx mar mli mgr mgo mre mfr a1 o_mst o_mmo o_mrc o_mro o_mrt o_mrm o_mrl o_mrh o_mgr o_mgo o_mre o_mfr hF hP hD hS hl)
def F_M_ask (mst : Nat → Int32) (mse : Nat → Int32) (mmo : Nat → Int32) (mrc : Int32) (mro : Nat → Int32) (mrt : Nat → Int32) (mrm : Nat → Int32) (mrl : Nat → Int64) (mrh : Nat → Int64) (mwk : Nat → Int32) (mwt : Nat → Int32) (mwm : Nat → Int32) (mwl : Nat → Int64) (mwh : Nat → Int64) (mwi : Nat → Int32) (mwc : Nat → Int32) (mwx : Nat → Int32) (mar : Int32) (mgr : Int32) (mgo : Nat → Int32) (mre : Nat → Int32) (mfr : Int32) (a1 : Int32) (a2 : Int32) : Option (Int32 × (Nat → Int32) × (Nat → Int32) × Int32 × (Nat → Int32) × (Nat → Int32) × (Nat → Int32) × (Nat → Int64) × (Nat → Int64) × (Nat → Int32) × (Nat → Int32) × (Nat → Int32) × Int32 × Int32 × (Nat → Int32) × (Nat → Int32) × Int32) :=
  gd (a1 < 0 ∨ 8 ≤ a1.toNatClampNeg) (gd (a1 < 0 ∨ 8 ≤ a1.toNatClampNeg) (gd (a1 < 0 ∨ 8 ≤ a1.toNatClampNeg) (gd (a1 < 0 ∨ 8 ≤ a1.toNatClampNeg) (ob1 (F_M_behindOf (upd mst a1.toNatClampNeg 2) mmo mrc mro mrt mrm mrl mrh mwk mwt mwm mwl mwh (upd mwi a1.toNatClampNeg (vp_nar .boolean a2)) (upd mwc a1.toNatClampNeg (mar + 1)) a1) (fun r_5 => if r_5 = 0 then ob9 (F_M_grant (upd mst a1.toNatClampNeg 2) mmo mrc mro mrt mrm mrl mrh mwk mwt mwm mwl mwh 0 a1) (fun mst_23 mmo_24 mrc_25 mro_26 mrt_27 mrm_28 mrl_29 mrh_30 mfr_31 => if mfr_31 = 0 then some (0, mst_23, mmo_24, mrc_25, mro_26, mrt_27, mrm_28, mrl_29, mrh_30, upd mwi a1.toNatClampNeg (vp_nar .boolean a2), upd mwc a1.toNatClampNeg (mar + 1), upd mwx a1.toNatClampNeg 0, mar + 1, mgr, mgo, mre, mfr_31) else ob11 (F_M_look mst_23 mmo_24 mrc_25 mro_26 mrt_27 mrm_28 mrl_29 mrh_30 mwk mwt mwm mwl mwh (upd mwi a1.toNatClampNeg (vp_nar .boolean a2)) (upd mwc a1.toNatClampNeg (mar + 1)) mgr mgo mfr_31 a1) (fun mst_33 mmo_34 mrc_35 mro_36 mrt_37 mrm_38 mrl_39 mrh_40 mgr_41 mgo_42 mfr_43 => some (0, mst_33, mmo_34, mrc_35, mro_36, mrt_37, mrm_38, mrl_39, mrh_40, upd mwi a1.toNatClampNeg (vp_nar .boolean a2), upd mwc a1.toNatClampNeg (mar + 1), upd mwx a1.toNatClampNeg 0, mar + 1, mgr_41, mgo_42, mre, mfr_43))) else ob12 (F_M_breakRings (upd mst a1.toNatClampNeg 2) mse mmo mrc mro mrt mrm mrl mrh mwk mwt mwm mwl mwh (upd mwi a1.toNatClampNeg (vp_nar .boolean a2)) (upd mwc a1.toNatClampNeg (mar + 1)) mgr mgo mre mfr a1) (fun mst_7 mmo_8 mrc_9 mro_10 mrt_11 mrm_12 mrl_13 mrh_14 mgr_15 mgo_16 mre_17 mfr_18 => gd (a1 < 0 ∨ 8 ≤ a1.toNatClampNeg) (if (mst_7 a1.toNatClampNeg) = 1 then some (0, mst_7, mmo_8, mrc_9, mro_10, mrt_11, mrm_12, mrl_13, mrh_14, upd mwi a1.toNatClampNeg (vp_nar .boolean a2), upd mwc a1.toNatClampNeg (mar + 1), upd mwx a1.toNatClampNeg 0, mar + 1, mgr_15, mgo_16, mre_17, mfr_18) else gd (a1 < 0 ∨ 8 ≤ a1.toNatClampNeg) (if (mst_7 a1.toNatClampNeg) = 2 then some (1, mst_7, mmo_8, mrc_9, mro_10, mrt_11, mrm_12, mrl_13, mrh_14, upd mwi a1.toNatClampNeg (vp_nar .boolean a2), upd mwc a1.toNatClampNeg (mar + 1), upd mwx a1.toNatClampNeg 0, mar + 1, mgr_15, mgo_16, mre_17, mfr_18) else some (2, mst_7, mmo_8, mrc_9, mro_10, mrt_11, mrm_12, mrl_13, mrh_14, upd mwi a1.toNatClampNeg (vp_nar .boolean a2), upd mwc a1.toNatClampNeg (mar + 1), upd mwx a1.toNatClampNeg 0, mar + 1, mgr_15, mgo_16, mre_17, mfr_18)))))))))
set_option maxHeartbeats 4000000 in
set_option maxRecDepth 100000 in
theorem t_M_ask {p : Program} {l : Launch} {e : Env} {s : State} {m : MethodId} {args : Array Value} {below : List Frame} {meth : Method} {c : Code} {A : Nat → Prop} {g : va_G} {cI cJ cZ : ClassId} {ad : Nat → Nat} {rest : va_W} (K : kX p s m args meth c "LockTableModel" prog_6_method_29_code 3 (some .int) A g (kty cI cJ cZ)) (mth : Int32) (mst : Nat → Int32) (mse : Nat → Int32) (mla : Int32) (mmo : Nat → Int32) (mrc : Int32) (mro : Nat → Int32) (mrt : Nat → Int32) (mrm : Nat → Int32) (mrl : Nat → Int64) (mrh : Nat → Int64) (mwk : Nat → Int32) (mwt : Nat → Int32) (mwm : Nat → Int32) (mwl : Nat → Int64) (mwh : Nat → Int64) (mwi : Nat → Int32) (mwc : Nat → Int32) (mwx : Nat → Int32) (mar : Int32) (mli : Int32) (mgr : Int32) (mgo : Nat → Int32) (mre : Nat → Int32) (mfr : Int32) (a1 : Int32) (a2 : Int32) (r : Int32) (o_mst : Nat → Int32) (o_mmo : Nat → Int32) (o_mrc : Int32) (o_mro : Nat → Int32) (o_mrt : Nat → Int32) (o_mrm : Nat → Int32) (o_mrl : Nat → Int64) (o_mrh : Nat → Int64) (o_mwi : Nat → Int32) (o_mwc : Nat → Int32) (o_mwx : Nat → Int32) (o_mar : Int32) (o_mgr : Int32) (o_mgo : Nat → Int32) (o_mre : Nat → Int32) (o_mfr : Int32) (hF : F_M_ask mst mse mmo mrc mro mrt mrm mrl mrh mwk mwt mwm mwl mwh mwi mwc mwx mar mgr mgo mre mfr a1 a2 = some (r, o_mst, o_mmo, o_mrc, o_mro, o_mrt, o_mrm, o_mrl, o_mrh, o_mwi, o_mwc, o_mwx, o_mar, o_mgr, o_mgo, o_mre, o_mfr)) {H : Heap} {locs : List Loc} {ls : Array Slot} (hP : va_P g kcl (wM cI cJ cZ ad mth mst mse mla mmo mrc mro mrt mrm mrl mrh mwk mwt mwm mwl mwh mwi mwc mwx mar mli mgr mgo mre mfr rest) H) (hD : va_D A (wM cI cJ cZ ad mth mst mse mla mmo mrc mro mrt mrm mrl mrh mwk mwt mwm mwl mwh mwi mwc mwx mar mli mgr mgo mre mfr rest)) (hS : va_S A s.heap H locs) (hl : lv_has ls 3 [(0, .ref (ad 0)), (1, .int a1), (2, .int a2)]) : W p l e ({ frames := 7, cells := 0, slots := 0, locals := 164 }) s m args below meth c H locs 0 0 (MQ below (kQi g (kty cI cJ cZ) (wM cI cJ cZ ad mth o_mst mse mla o_mmo o_mrc o_mro o_mrt o_mrm o_mrl o_mrh mwk mwt mwm mwl mwh o_mwi o_mwc o_mwx o_mar mli o_mgr o_mgo o_mre o_mfr rest) A r) args s 0 0 A) (F0 m 0 ls []) := by
  obtain ⟨hx, hb, hr, hml, hown, hts, hlocks, hK, hA, hE⟩ := id K
  unfold F_M_ask at hF
  refine lv_aload_n hx hb d_M_ask_0 rfl (lv_at hl 0 rfl) ?_
  refine va_get (D := g) (ci := 3) (v := .ref (ad 14)) (C := kR3) (T := kT3) (N := 25) hx hb hts kw3 hown hK hP 0 rfl rfl 16 (by decide) (hts _ wm_687) (fun _ h9 => h9) rfl d_M_ask_1 ?_
  refine lv_iload_n hx hb d_M_ask_4 rfl (lv_at hl 1 rfl) ?_
  refine lv_iload_n hx hb d_M_ask_5 rfl (lv_at hl 2 rfl) ?_
  obtain ⟨hg_1, hF⟩ := gd_inv hF
  refine va_zast hx hb hK hP hD hS 14 2 rfl rfl hg_1 d_M_ask_6 (fun H locs hP hD hS => ?_)
  have hP : va_P g kcl (wM cI cJ cZ ad mth mst mse mla mmo mrc mro mrt mrm mrl mrh mwk mwt mwm mwl mwh (upd mwi a1.toNatClampNeg (vp_nar .boolean a2)) mwc mwx mar mli mgr mgo mre mfr rest) H := hP
  have hD : va_D A (wM cI cJ cZ ad mth mst mse mla mmo mrc mro mrt mrm mrl mrh mwk mwt mwm mwl mwh (upd mwi a1.toNatClampNeg (vp_nar .boolean a2)) mwc mwx mar mli mgr mgo mre mfr rest) := hD
  refine lv_aload_n hx hb d_M_ask_7 rfl (lv_at hl 0 rfl) ?_
  refine lv_dup hx hb d_M_ask_8 rfl ?_
  refine va_get (D := g) (ci := 3) (v := .int mar) (C := kR3) (T := kT3) (N := 25) hx hb hts kw3 hown hK hP 0 rfl rfl 19 (by decide) (hts _ wm_690) (fun _ h9 => h9) rfl d_M_ask_9 ?_
  refine lv_iconst (v := 1) hx hb d_M_ask_12 (by decide) ?_
  refine lv_iadd hx hb d_M_ask_13 ?_
  refine va_put (D := g) (ci := 3) (v := .int (mar + 1)) (ty := .int) (C := kR3) (T := kT3) (N := 25) hx hb hts kw3 kt3 ko3 kn3 hown hK hP hD hS 0 rfl rfl 19 (by decide) (hts _ wm_690) (fun _ h9 => h9) rfl (by decide +kernel) rfl rfl (Nat.le_of_ble_eq_true rfl) d_M_ask_14 (fun H locs hP hD hS => ?_)
  have hP : va_P g kcl (wM cI cJ cZ ad mth mst mse mla mmo mrc mro mrt mrm mrl mrh mwk mwt mwm mwl mwh (upd mwi a1.toNatClampNeg (vp_nar .boolean a2)) mwc mwx (mar + 1) mli mgr mgo mre mfr rest) H := hP
  have hD : va_D A (wM cI cJ cZ ad mth mst mse mla mmo mrc mro mrt mrm mrl mrh mwk mwt mwm mwl mwh (upd mwi a1.toNatClampNeg (vp_nar .boolean a2)) mwc mwx (mar + 1) mli mgr mgo mre mfr rest) := hD
  refine lv_aload_n hx hb d_M_ask_17 rfl (lv_at hl 0 rfl) ?_
  refine va_get (D := g) (ci := 3) (v := .ref (ad 15)) (C := kR3) (T := kT3) (N := 25) hx hb hts kw3 hown hK hP 0 rfl rfl 17 (by decide) (hts _ wm_688) (fun _ h9 => h9) rfl d_M_ask_18 ?_
  refine lv_iload_n hx hb d_M_ask_21 rfl (lv_at hl 1 rfl) ?_
  refine lv_aload_n hx hb d_M_ask_22 rfl (lv_at hl 0 rfl) ?_
  refine va_get (D := g) (ci := 3) (v := .int (mar + 1)) (C := kR3) (T := kT3) (N := 25) hx hb hts kw3 hown hK hP 0 rfl rfl 19 (by decide) (hts _ wm_690) (fun _ h9 => h9) rfl d_M_ask_23 ?_
  obtain ⟨hg_2, hF⟩ := gd_inv hF
  refine va_iast hx hb hK hP hD hS 15 0 rfl rfl hg_2 d_M_ask_26 (fun H locs hP hD hS => ?_)
  have hP : va_P g kcl (wM cI cJ cZ ad mth mst mse mla mmo mrc mro mrt mrm mrl mrh mwk mwt mwm mwl mwh (upd mwi a1.toNatClampNeg (vp_nar .boolean a2)) (upd mwc a1.toNatClampNeg (mar + 1)) mwx (mar + 1) mli mgr mgo mre mfr rest) H := hP
  have hD : va_D A (wM cI cJ cZ ad mth mst mse mla mmo mrc mro mrt mrm mrl mrh mwk mwt mwm mwl mwh (upd mwi a1.toNatClampNeg (vp_nar .boolean a2)) (upd mwc a1.toNatClampNeg (mar + 1)) mwx (mar + 1) mli mgr mgo mre mfr rest) := hD
  refine lv_aload_n hx hb d_M_ask_27 rfl (lv_at hl 0 rfl) ?_
  refine va_get (D := g) (ci := 3) (v := .ref (ad 16)) (C := kR3) (T := kT3) (N := 25) hx hb hts kw3 hown hK hP 0 rfl rfl 18 (by decide) (hts _ wm_689) (fun _ h9 => h9) rfl d_M_ask_28 ?_
  refine lv_iload_n hx hb d_M_ask_31 rfl (lv_at hl 1 rfl) ?_
  refine lv_iconst (v := 0) hx hb d_M_ask_32 (by decide) ?_
  obtain ⟨hg_3, hF⟩ := gd_inv hF
  refine va_iast hx hb hK hP hD hS 16 0 rfl rfl hg_3 d_M_ask_33 (fun H locs hP hD hS => ?_)
  have hP : va_P g kcl (wM cI cJ cZ ad mth mst mse mla mmo mrc mro mrt mrm mrl mrh mwk mwt mwm mwl mwh (upd mwi a1.toNatClampNeg (vp_nar .boolean a2)) (upd mwc a1.toNatClampNeg (mar + 1)) (upd mwx a1.toNatClampNeg 0) (mar + 1) mli mgr mgo mre mfr rest) H := hP
  have hD : va_D A (wM cI cJ cZ ad mth mst mse mla mmo mrc mro mrt mrm mrl mrh mwk mwt mwm mwl mwh (upd mwi a1.toNatClampNeg (vp_nar .boolean a2)) (upd mwc a1.toNatClampNeg (mar + 1)) (upd mwx a1.toNatClampNeg 0) (mar + 1) mli mgr mgo mre mfr rest) := hD
  refine lv_aload_n hx hb d_M_ask_34 rfl (lv_at hl 0 rfl) ?_
  refine va_get (D := g) (ci := 3) (v := .ref (ad 1)) (C := kR3) (T := kT3) (N := 25) hx hb hts kw3 hown hK hP 0 rfl rfl 1 (by decide) (hts _ wm_672) (fun _ h9 => h9) rfl d_M_ask_35 ?_
  refine lv_iload_n hx hb d_M_ask_38 rfl (lv_at hl 1 rfl) ?_
  refine lv_iconst (v := 2) hx hb d_M_ask_39 (by decide) ?_
  obtain ⟨hg_4, hF⟩ := gd_inv hF
  refine va_iast hx hb hK hP hD hS 1 0 rfl rfl hg_4 d_M_ask_40 (fun H locs hP hD hS => ?_)
  have hP : va_P g kcl (wM cI cJ cZ ad mth (upd mst a1.toNatClampNeg 2) mse mla mmo mrc mro mrt mrm mrl mrh mwk mwt mwm mwl mwh (upd mwi a1.toNatClampNeg (vp_nar .boolean a2)) (upd mwc a1.toNatClampNeg (mar + 1)) (upd mwx a1.toNatClampNeg 0) (mar + 1) mli mgr mgo mre mfr rest) H := hP
  have hD : va_D A (wM cI cJ cZ ad mth (upd mst a1.toNatClampNeg 2) mse mla mmo mrc mro mrt mrm mrl mrh mwk mwt mwm mwl mwh (upd mwi a1.toNatClampNeg (vp_nar .boolean a2)) (upd mwc a1.toNatClampNeg (mar + 1)) (upd mwx a1.toNatClampNeg 0) (mar + 1) mli mgr mgo mre mfr rest) := hD
  refine lv_aload_n hx hb d_M_ask_41 rfl (lv_at hl 0 rfl) ?_
  refine lv_iload_n hx hb d_M_ask_42 rfl (lv_at hl 1 rfl) ?_
  obtain ⟨r_5, hG, hF⟩ := ob1_inv hF
  refine kci K hP hD hS (c_M_behindOf l g cI cJ cZ ad mth (upd mst a1.toNatClampNeg 2) mse mla mmo mrc mro mrt mrm mrl mrh mwk mwt mwm mwl mwh (upd mwi a1.toNatClampNeg (vp_nar .boolean a2)) (upd mwc a1.toNatClampNeg (mar + 1)) (upd mwx a1.toNatClampNeg 0) (mar + 1) mli mgr mgo mre mfr rest a1 r_5 hG) wm_796 wm_793 wm_795 wm_24 wm_50 hd_M_behindOf rfl rfl ⟨Nat.le_of_ble_eq_true rfl, Nat.le_of_ble_eq_true rfl⟩ ⟨Nat.zero_le _, Nat.zero_le _⟩ 3 0 rfl rfl rfl hl.1 (rest := []) rfl (Nat.le_of_ble_eq_true rfl) d_M_ask_43 (fun H locs hP hD hS => ?_)
  refine lv_if_ne (tgt := 73) hx hb d_M_ask_46 (by decide) (fun hc_6 => ?_) (fun hc_6 => ?_)
  · have hF := it_f hF hc_6
    refine lv_aload_n hx hb d_M_ask_73 rfl (lv_at hl 0 rfl) ?_
    refine lv_iload_n hx hb d_M_ask_74 rfl (lv_at hl 1 rfl) ?_
    obtain ⟨mst_7, mmo_8, mrc_9, mro_10, mrt_11, mrm_12, mrl_13, mrh_14, mgr_15, mgo_16, mre_17, mfr_18, hG, hF⟩ := ob12_inv hF
    refine kcv K hP hD hS (c_M_breakRings l g cI cJ cZ ad mth (upd mst a1.toNatClampNeg 2) mse mla mmo mrc mro mrt mrm mrl mrh mwk mwt mwm mwl mwh (upd mwi a1.toNatClampNeg (vp_nar .boolean a2)) (upd mwc a1.toNatClampNeg (mar + 1)) (upd mwx a1.toNatClampNeg 0) (mar + 1) mli mgr mgo mre mfr rest a1 mst_7 mmo_8 mrc_9 mro_10 mrt_11 mrm_12 mrl_13 mrh_14 mgr_15 mgo_16 mre_17 mfr_18 hG) wm_843 wm_840 wm_842 wm_35 wm_50 hd_M_breakRings rfl rfl ⟨Nat.le_of_ble_eq_true rfl, Nat.le_of_ble_eq_true rfl⟩ ⟨Nat.zero_le _, Nat.zero_le _⟩ 3 0 rfl rfl rfl hl.1 (rest := []) rfl (Nat.le_of_ble_eq_true rfl) d_M_ask_75 (fun H locs hP hD hS => ?_)
    refine lv_aload_n hx hb d_M_ask_78 rfl (lv_at hl 0 rfl) ?_
    refine va_get (D := g) (ci := 3) (v := .ref (ad 1)) (C := kR3) (T := kT3) (N := 25) hx hb hts kw3 hown hK hP 0 rfl rfl 1 (by decide) (hts _ wm_672) (fun _ h9 => h9) rfl d_M_ask_79 ?_
    refine lv_iload_n hx hb d_M_ask_82 rfl (lv_at hl 1 rfl) ?_
    obtain ⟨hg_19, hF⟩ := gd_inv hF
    refine va_iald hx hb hK hP 1 0 rfl rfl hg_19 d_M_ask_83 ?_
    refine lv_iconst (v := 1) hx hb d_M_ask_84 (by decide) ?_
    refine lv_icmp_ne (tgt := 92) hx hb d_M_ask_85 (by decide) (fun hc_20 => ?_) (fun hc_20 => ?_)
    · have hF := it_f hF hc_20
      refine lv_aload_n hx hb d_M_ask_92 rfl (lv_at hl 0 rfl) ?_
      refine va_get (D := g) (ci := 3) (v := .ref (ad 1)) (C := kR3) (T := kT3) (N := 25) hx hb hts kw3 hown hK hP 0 rfl rfl 1 (by decide) (hts _ wm_672) (fun _ h9 => h9) rfl d_M_ask_93 ?_
      refine lv_iload_n hx hb d_M_ask_96 rfl (lv_at hl 1 rfl) ?_
      obtain ⟨hg_21, hF⟩ := gd_inv hF
      refine va_iald hx hb hK hP 1 0 rfl rfl hg_21 d_M_ask_97 ?_
      refine lv_iconst (v := 2) hx hb d_M_ask_98 (by decide) ?_
      refine lv_icmp_ne (tgt := 106) hx hb d_M_ask_99 (by decide) (fun hc_22 => ?_) (fun hc_22 => ?_)
      · have hF := it_f hF hc_22
        refine lv_iconst (v := 2) hx hb d_M_ask_106 (by decide) ?_
        cases hF
        exact kri K hP hD hS d_M_ask_107 rfl
      · have hF := it_t hF hc_22
        refine lv_iconst (v := 1) hx hb d_M_ask_102 (by decide) ?_
        refine lv_goto (tgt := 107) hx hb d_M_ask_103 (by decide) ?_
        cases hF
        exact kri K hP hD hS d_M_ask_107 rfl
    · have hF := it_t hF hc_20
      refine lv_iconst (v := 0) hx hb d_M_ask_88 (by decide) ?_
      refine lv_goto (tgt := 107) hx hb d_M_ask_89 (by decide) ?_
      cases hF
      exact kri K hP hD hS d_M_ask_107 rfl
  · have hF := it_t hF hc_6
    refine lv_aload_n hx hb d_M_ask_49 rfl (lv_at hl 0 rfl) ?_
    refine lv_iconst (v := 0) hx hb d_M_ask_50 (by decide) ?_
    refine va_put (D := g) (ci := 3) (v := .int 0) (ty := .boolean) (C := kR3) (T := kT3) (N := 25) hx hb hts kw3 kt3 ko3 kn3 hown hK hP hD hS 0 rfl rfl 24 (by decide) (hts _ wm_695) (fun _ h9 => h9) rfl (by decide +kernel) rfl rfl (Nat.le_of_ble_eq_true rfl) d_M_ask_51 (fun H locs hP hD hS => ?_)
    have hP : va_P g kcl (wM cI cJ cZ ad mth (upd mst a1.toNatClampNeg 2) mse mla mmo mrc mro mrt mrm mrl mrh mwk mwt mwm mwl mwh (upd mwi a1.toNatClampNeg (vp_nar .boolean a2)) (upd mwc a1.toNatClampNeg (mar + 1)) (upd mwx a1.toNatClampNeg 0) (mar + 1) mli mgr mgo mre 0 rest) H := hP
    have hD : va_D A (wM cI cJ cZ ad mth (upd mst a1.toNatClampNeg 2) mse mla mmo mrc mro mrt mrm mrl mrh mwk mwt mwm mwl mwh (upd mwi a1.toNatClampNeg (vp_nar .boolean a2)) (upd mwc a1.toNatClampNeg (mar + 1)) (upd mwx a1.toNatClampNeg 0) (mar + 1) mli mgr mgo mre 0 rest) := hD
    refine lv_aload_n hx hb d_M_ask_54 rfl (lv_at hl 0 rfl) ?_
    refine lv_iload_n hx hb d_M_ask_55 rfl (lv_at hl 1 rfl) ?_
    obtain ⟨mst_23, mmo_24, mrc_25, mro_26, mrt_27, mrm_28, mrl_29, mrh_30, mfr_31, hG, hF⟩ := ob9_inv hF
    refine kcv K hP hD hS (c_M_grant l g cI cJ cZ ad mth (upd mst a1.toNatClampNeg 2) mse mla mmo mrc mro mrt mrm mrl mrh mwk mwt mwm mwl mwh (upd mwi a1.toNatClampNeg (vp_nar .boolean a2)) (upd mwc a1.toNatClampNeg (mar + 1)) (upd mwx a1.toNatClampNeg 0) (mar + 1) mli mgr mgo mre 0 rest a1 mst_23 mmo_24 mrc_25 mro_26 mrt_27 mrm_28 mrl_29 mrh_30 mfr_31 hG) wm_823 wm_820 wm_822 wm_30 wm_50 hd_M_grant rfl rfl ⟨Nat.le_of_ble_eq_true rfl, Nat.le_of_ble_eq_true rfl⟩ ⟨Nat.zero_le _, Nat.zero_le _⟩ 3 0 rfl rfl rfl hl.1 (rest := []) rfl (Nat.le_of_ble_eq_true rfl) d_M_ask_56 (fun H locs hP hD hS => ?_)
    refine lv_aload_n hx hb d_M_ask_59 rfl (lv_at hl 0 rfl) ?_
    refine va_get (D := g) (ci := 3) (v := .int mfr_31) (C := kR3) (T := kT3) (N := 25) hx hb hts kw3 hown hK hP 0 rfl rfl 24 (by decide) (hts _ wm_695) (fun _ h9 => h9) rfl d_M_ask_60 ?_
    refine lv_if_eq (tgt := 71) hx hb d_M_ask_63 (by decide) (fun hc_32 => ?_) (fun hc_32 => ?_)
    · have hF := it_t hF hc_32
      refine lv_iconst (v := 0) hx hb d_M_ask_71 (by decide) ?_
      cases hF
      exact kri K hP hD hS d_M_ask_72 rfl
    · have hF := it_f hF hc_32
      refine lv_aload_n hx hb d_M_ask_66 rfl (lv_at hl 0 rfl) ?_
      refine lv_iload_n hx hb d_M_ask_67 rfl (lv_at hl 1 rfl) ?_
      obtain ⟨mst_33, mmo_34, mrc_35, mro_36, mrt_37, mrm_38, mrl_39, mrh_40, mgr_41, mgo_42, mfr_43, hG, hF⟩ := ob11_inv hF
      refine kcv K hP hD hS (c_M_look l g cI cJ cZ ad mth mst_23 mse mla mmo_24 mrc_25 mro_26 mrt_27 mrm_28 mrl_29 mrh_30 mwk mwt mwm mwl mwh (upd mwi a1.toNatClampNeg (vp_nar .boolean a2)) (upd mwc a1.toNatClampNeg (mar + 1)) (upd mwx a1.toNatClampNeg 0) (mar + 1) mli mgr mgo mre mfr_31 rest a1 mst_33 mmo_34 mrc_35 mro_36 mrt_37 mrm_38 mrl_39 mrh_40 mgr_41 mgo_42 mfr_43 hG) wm_835 wm_832 wm_834 wm_33 wm_50 hd_M_look rfl rfl ⟨Nat.le_of_ble_eq_true rfl, Nat.le_of_ble_eq_true rfl⟩ ⟨Nat.zero_le _, Nat.zero_le _⟩ 3 0 rfl rfl rfl hl.1 (rest := []) rfl (Nat.le_of_ble_eq_true rfl) d_M_ask_68 (fun H locs hP hD hS => ?_)
      refine lv_iconst (v := 0) hx hb d_M_ask_71 (by decide) ?_
      cases hF
      exact kri K hP hD hS d_M_ask_72 rfl
theorem c_M_ask (l : Launch) (g : va_G) (cI cJ cZ : ClassId) (ad : Nat → Nat) (mth : Int32) (mst : Nat → Int32) (mse : Nat → Int32) (mla : Int32) (mmo : Nat → Int32) (mrc : Int32) (mro : Nat → Int32) (mrt : Nat → Int32) (mrm : Nat → Int32) (mrl : Nat → Int64) (mrh : Nat → Int64) (mwk : Nat → Int32) (mwt : Nat → Int32) (mwm : Nat → Int32) (mwl : Nat → Int64) (mwh : Nat → Int64) (mwi : Nat → Int32) (mwc : Nat → Int32) (mwx : Nat → Int32) (mar : Int32) (mli : Int32) (mgr : Int32) (mgo : Nat → Int32) (mre : Nat → Int32) (mfr : Int32) (rest : va_W) (a1 : Int32) (a2 : Int32) (r : Int32) (o_mst : Nat → Int32) (o_mmo : Nat → Int32) (o_mrc : Int32) (o_mro : Nat → Int32) (o_mrt : Nat → Int32) (o_mrm : Nat → Int32) (o_mrl : Nat → Int64) (o_mrh : Nat → Int64) (o_mwi : Nat → Int32) (o_mwc : Nat → Int32) (o_mwx : Nat → Int32) (o_mar : Int32) (o_mgr : Int32) (o_mgo : Nat → Int32) (o_mre : Nat → Int32) (o_mfr : Int32) (hF : F_M_ask mst mse mmo mrc mro mrt mrm mrl mrh mwk mwt mwm mwl mwh mwi mwc mwx mar mgr mgo mre mfr a1 a2 = some (r, o_mst, o_mmo, o_mrc, o_mro, o_mrt, o_mrm, o_mrl, o_mrh, o_mwi, o_mwc, o_mwx, o_mar, o_mgr, o_mgo, o_mre, o_mfr)) : Ci l y_M_ask prog_6_method_29_code 3 (some .int) ({ frames := 7, cells := 0, slots := 0, locals := 164 }) [.ref (ad 0), .int a1, .int a2] g (kty cI cJ cZ) (wM cI cJ cZ ad mth mst mse mla mmo mrc mro mrt mrm mrl mrh mwk mwt mwm mwl mwh mwi mwc mwx mar mli mgr mgo mre mfr rest) (wM cI cJ cZ ad mth o_mst mse mla o_mmo o_mrc o_mro o_mrt o_mrm o_mrl o_mrh mwk mwt mwm mwl mwh o_mwi o_mwc o_mwx o_mar mli o_mgr o_mgo o_mre o_mfr rest) r :=
  Ci.of (by decide) (Nat.le_of_ble_eq_true rfl) (fun p e s m below meth c A ls K hP hD hS hl => t_M_ask K mth mst mse mla mmo mrc mro mrt mrm mrl mrh mwk mwt mwm mwl mwh mwi mwc mwx mar mli mgr mgo mre mfr a1 a2 r o_mst o_mmo o_mrc o_mro o_mrt o_mrm o_mrl o_mrh o_mwi o_mwc o_mwx o_mar o_mgr o_mgo o_mre o_mfr hF hP hD hS hl)
