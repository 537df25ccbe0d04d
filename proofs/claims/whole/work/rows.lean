section
-- ===== PART A: goes FIRST, ahead of the names: the tables' words, and 'selects' of the private methods out of them =====
/-- a private method of a class that the tables say can be made, by its rows of tables_1 -/
def lw_okq (q : MethodName × Nat) : Prop := (q.1.cls ≠ "java/lang/invoke/MethodHandle" ∧ q.1.cls ≠ "java/lang/invoke/VarHandle") ∧ Cond.instantiable q.1.cls q.2 ∈ tables_1 ∧ Cond.privateMethod q.1 ∈ tables_1 ∧ Cond.instanceMethod q.1 ∈ tables_1
theorem lw_p0 : lw_okq (⟨"java/lang/Throwable", "fillInStackTrace", "(I)Ljava/lang/Throwable;"⟩, 6) := ⟨⟨by decide +kernel, by decide +kernel⟩, List.mem_of_getElem? (i := 212) (by decide +kernel), List.mem_of_getElem? (i := 210) (by decide +kernel), List.mem_of_getElem? (i := 211) (by decide +kernel)⟩
theorem lw_p1 : lw_okq (⟨"LockTable", "startCall", "(I)V"⟩, 11) := ⟨⟨by decide +kernel, by decide +kernel⟩, List.mem_of_getElem? (i := 16) (by decide +kernel), List.mem_of_getElem? (i := 258) (by decide +kernel), List.mem_of_getElem? (i := 259) (by decide +kernel)⟩
theorem lw_p2 : lw_okq (⟨"LockTable", "checkWorks", "(I)V"⟩, 11) := ⟨⟨by decide +kernel, by decide +kernel⟩, List.mem_of_getElem? (i := 16) (by decide +kernel), List.mem_of_getElem? (i := 277) (by decide +kernel), List.mem_of_getElem? (i := 278) (by decide +kernel)⟩
theorem lw_p3 : lw_okq (⟨"LockTable", "isFull", "()Z"⟩, 11) := ⟨⟨by decide +kernel, by decide +kernel⟩, List.mem_of_getElem? (i := 16) (by decide +kernel), List.mem_of_getElem? (i := 286) (by decide +kernel), List.mem_of_getElem? (i := 287) (by decide +kernel)⟩
theorem lw_p4 : lw_okq (⟨"LockTable", "ask", "(I)I"⟩, 11) := ⟨⟨by decide +kernel, by decide +kernel⟩, List.mem_of_getElem? (i := 16) (by decide +kernel), List.mem_of_getElem? (i := 306) (by decide +kernel), List.mem_of_getElem? (i := 307) (by decide +kernel)⟩
theorem lw_p5 : lw_okq (⟨"LockTable", "holdsWhatItAsks", "(I)Z"⟩, 11) := ⟨⟨by decide +kernel, by decide +kernel⟩, List.mem_of_getElem? (i := 16) (by decide +kernel), List.mem_of_getElem? (i := 314) (by decide +kernel), List.mem_of_getElem? (i := 315) (by decide +kernel)⟩
theorem lw_p6 : lw_okq (⟨"LockTable", "blockers", "(I)I"⟩, 11) := ⟨⟨by decide +kernel, by decide +kernel⟩, List.mem_of_getElem? (i := 16) (by decide +kernel), List.mem_of_getElem? (i := 318) (by decide +kernel), List.mem_of_getElem? (i := 319) (by decide +kernel)⟩
theorem lw_p7 : lw_okq (⟨"LockTable$Requests", "meet", "(II)Z"⟩, 12) := ⟨⟨by decide +kernel, by decide +kernel⟩, List.mem_of_getElem? (i := 58) (by decide +kernel), List.mem_of_getElem? (i := 338) (by decide +kernel), List.mem_of_getElem? (i := 339) (by decide +kernel)⟩
theorem lw_p8 : lw_okq (⟨"LockTable", "grant", "(I)Z"⟩, 11) := ⟨⟨by decide +kernel, by decide +kernel⟩, List.mem_of_getElem? (i := 16) (by decide +kernel), List.mem_of_getElem? (i := 343) (by decide +kernel), List.mem_of_getElem? (i := 344) (by decide +kernel)⟩
theorem lw_p9 : lw_okq (⟨"LockTable$Locks", "isOn", "(III)Z"⟩, 7) := ⟨⟨by decide +kernel, by decide +kernel⟩, List.mem_of_getElem? (i := 27) (by decide +kernel), List.mem_of_getElem? (i := 363) (by decide +kernel), List.mem_of_getElem? (i := 364) (by decide +kernel)⟩
theorem lw_p10 : lw_okq (⟨"LockTable$Locks", "dropRow", "(I)V"⟩, 7) := ⟨⟨by decide +kernel, by decide +kernel⟩, List.mem_of_getElem? (i := 27) (by decide +kernel), List.mem_of_getElem? (i := 367) (by decide +kernel), List.mem_of_getElem? (i := 368) (by decide +kernel)⟩
theorem lw_p11 : lw_okq (⟨"LockTable", "lookAtAll", "()V"⟩, 11) := ⟨⟨by decide +kernel, by decide +kernel⟩, List.mem_of_getElem? (i := 16) (by decide +kernel), List.mem_of_getElem? (i := 371) (by decide +kernel), List.mem_of_getElem? (i := 372) (by decide +kernel)⟩
theorem lw_p12 : lw_okq (⟨"LockTable", "breakRings", "(I)V"⟩, 11) := ⟨⟨by decide +kernel, by decide +kernel⟩, List.mem_of_getElem? (i := 16) (by decide +kernel), List.mem_of_getElem? (i := 375) (by decide +kernel), List.mem_of_getElem? (i := 376) (by decide +kernel)⟩
theorem lw_p13 : lw_okq (⟨"LockTable", "ringOf", "(I)I"⟩, 11) := ⟨⟨by decide +kernel, by decide +kernel⟩, List.mem_of_getElem? (i := 16) (by decide +kernel), List.mem_of_getElem? (i := 379) (by decide +kernel), List.mem_of_getElem? (i := 380) (by decide +kernel)⟩
theorem lw_p14 : lw_okq (⟨"LockTable", "newestOf", "(II)I"⟩, 11) := ⟨⟨by decide +kernel, by decide +kernel⟩, List.mem_of_getElem? (i := 16) (by decide +kernel), List.mem_of_getElem? (i := 386) (by decide +kernel), List.mem_of_getElem? (i := 387) (by decide +kernel)⟩
theorem lw_p15 : lw_okq (⟨"LockTable", "takeBack", "(II)V"⟩, 11) := ⟨⟨by decide +kernel, by decide +kernel⟩, List.mem_of_getElem? (i := 16) (by decide +kernel), List.mem_of_getElem? (i := 390) (by decide +kernel), List.mem_of_getElem? (i := 391) (by decide +kernel)⟩
def lw_privs_1 : List (MethodName × Nat) := [(⟨"java/lang/Throwable", "fillInStackTrace", "(I)Ljava/lang/Throwable;"⟩, 6), (⟨"LockTable", "startCall", "(I)V"⟩, 11), (⟨"LockTable", "checkWorks", "(I)V"⟩, 11), (⟨"LockTable", "isFull", "()Z"⟩, 11), (⟨"LockTable", "ask", "(I)I"⟩, 11), (⟨"LockTable", "holdsWhatItAsks", "(I)Z"⟩, 11), (⟨"LockTable", "blockers", "(I)I"⟩, 11), (⟨"LockTable$Requests", "meet", "(II)Z"⟩, 12), (⟨"LockTable", "grant", "(I)Z"⟩, 11), (⟨"LockTable$Locks", "isOn", "(III)Z"⟩, 7), (⟨"LockTable$Locks", "dropRow", "(I)V"⟩, 7), (⟨"LockTable", "lookAtAll", "()V"⟩, 11), (⟨"LockTable", "breakRings", "(I)V"⟩, 11), (⟨"LockTable", "ringOf", "(I)I"⟩, 11), (⟨"LockTable", "newestOf", "(II)I"⟩, 11), (⟨"LockTable", "takeBack", "(II)V"⟩, 11)]
theorem lw_r1 : ∀ q ∈ lw_privs_1, lw_okq q := List.forall_mem_cons.mpr ⟨lw_p0, List.forall_mem_cons.mpr ⟨lw_p1, List.forall_mem_cons.mpr ⟨lw_p2, List.forall_mem_cons.mpr ⟨lw_p3, List.forall_mem_cons.mpr ⟨lw_p4, List.forall_mem_cons.mpr ⟨lw_p5, List.forall_mem_cons.mpr ⟨lw_p6, List.forall_mem_cons.mpr ⟨lw_p7, List.forall_mem_cons.mpr ⟨lw_p8, List.forall_mem_cons.mpr ⟨lw_p9, List.forall_mem_cons.mpr ⟨lw_p10, List.forall_mem_cons.mpr ⟨lw_p11, List.forall_mem_cons.mpr ⟨lw_p12, List.forall_mem_cons.mpr ⟨lw_p13, List.forall_mem_cons.mpr ⟨lw_p14, List.forall_mem_cons.mpr ⟨lw_p15, fun _ h => absurd h List.not_mem_nil⟩⟩⟩⟩⟩⟩⟩⟩⟩⟩⟩⟩⟩⟩⟩⟩
theorem lw_p16 : lw_okq (⟨"LockTable$Locks", "isRound", "(IIIJJ)Z"⟩, 7) := ⟨⟨by decide +kernel, by decide +kernel⟩, List.mem_of_getElem? (i := 27) (by decide +kernel), List.mem_of_getElem? (i := 435) (by decide +kernel), List.mem_of_getElem? (i := 436) (by decide +kernel)⟩
theorem lw_p17 : lw_okq (⟨"LockTable", "setEscalation", "(III)V"⟩, 11) := ⟨⟨by decide +kernel, by decide +kernel⟩, List.mem_of_getElem? (i := 16) (by decide +kernel), List.mem_of_getElem? (i := 448) (by decide +kernel), List.mem_of_getElem? (i := 449) (by decide +kernel)⟩
theorem lw_p18 : lw_okq (⟨"LockTable", "checkWaits", "(I)V"⟩, 11) := ⟨⟨by decide +kernel, by decide +kernel⟩, List.mem_of_getElem? (i := 16) (by decide +kernel), List.mem_of_getElem? (i := 484) (by decide +kernel), List.mem_of_getElem? (i := 485) (by decide +kernel)⟩
theorem lw_p19 : lw_okq (⟨"LockTable", "takeBackOverdue", "()I"⟩, 11) := ⟨⟨by decide +kernel, by decide +kernel⟩, List.mem_of_getElem? (i := 16) (by decide +kernel), List.mem_of_getElem? (i := 545) (by decide +kernel), List.mem_of_getElem? (i := 546) (by decide +kernel)⟩
theorem lw_p20 : lw_okq (⟨"LockTableModel", "refused", "(ZZZ)Z"⟩, 25) := ⟨⟨by decide +kernel, by decide +kernel⟩, List.mem_of_getElem? (i := 617) (by decide +kernel), List.mem_of_getElem? (i := 710) (by decide +kernel), List.mem_of_getElem? (i := 711) (by decide +kernel)⟩
theorem lw_p21 : lw_okq (⟨"LockTableModel", "joinedWith", "(III)I"⟩, 25) := ⟨⟨by decide +kernel, by decide +kernel⟩, List.mem_of_getElem? (i := 617) (by decide +kernel), List.mem_of_getElem? (i := 724) (by decide +kernel), List.mem_of_getElem? (i := 725) (by decide +kernel)⟩
theorem lw_p22 : lw_okq (⟨"LockTableModel", "counted", "()I"⟩, 25) := ⟨⟨by decide +kernel, by decide +kernel⟩, List.mem_of_getElem? (i := 617) (by decide +kernel), List.mem_of_getElem? (i := 737) (by decide +kernel), List.mem_of_getElem? (i := 738) (by decide +kernel)⟩
theorem lw_p23 : lw_okq (⟨"LockTableModel", "ask", "(IZ)I"⟩, 25) := ⟨⟨by decide +kernel, by decide +kernel⟩, List.mem_of_getElem? (i := 617) (by decide +kernel), List.mem_of_getElem? (i := 741) (by decide +kernel), List.mem_of_getElem? (i := 742) (by decide +kernel)⟩
theorem lw_p24 : lw_okq (⟨"LockTableModel", "behindOf", "(I)I"⟩, 25) := ⟨⟨by decide +kernel, by decide +kernel⟩, List.mem_of_getElem? (i := 617) (by decide +kernel), List.mem_of_getElem? (i := 745) (by decide +kernel), List.mem_of_getElem? (i := 746) (by decide +kernel)⟩
theorem lw_p25 : lw_okq (⟨"LockTableModel", "againstLocksOf", "(II)Z"⟩, 25) := ⟨⟨by decide +kernel, by decide +kernel⟩, List.mem_of_getElem? (i := 617) (by decide +kernel), List.mem_of_getElem? (i := 749) (by decide +kernel), List.mem_of_getElem? (i := 750) (by decide +kernel)⟩
theorem lw_p26 : lw_okq (⟨"LockTableModel", "againstTable", "(IIII)Z"⟩, 25) := ⟨⟨by decide +kernel, by decide +kernel⟩, List.mem_of_getElem? (i := 617) (by decide +kernel), List.mem_of_getElem? (i := 753) (by decide +kernel), List.mem_of_getElem? (i := 754) (by decide +kernel)⟩
theorem lw_p27 : lw_okq (⟨"LockTableModel", "againstRange", "(IIIIJJ)Z"⟩, 25) := ⟨⟨by decide +kernel, by decide +kernel⟩, List.mem_of_getElem? (i := 617) (by decide +kernel), List.mem_of_getElem? (i := 760) (by decide +kernel), List.mem_of_getElem? (i := 761) (by decide +kernel)⟩
theorem lw_p28 : lw_okq (⟨"LockTableModel", "againstRequestOf", "(II)Z"⟩, 25) := ⟨⟨by decide +kernel, by decide +kernel⟩, List.mem_of_getElem? (i := 617) (by decide +kernel), List.mem_of_getElem? (i := 764) (by decide +kernel), List.mem_of_getElem? (i := 765) (by decide +kernel)⟩
theorem lw_p29 : lw_okq (⟨"LockTableModel", "isBefore", "(II)Z"⟩, 25) := ⟨⟨by decide +kernel, by decide +kernel⟩, List.mem_of_getElem? (i := 617) (by decide +kernel), List.mem_of_getElem? (i := 768) (by decide +kernel), List.mem_of_getElem? (i := 769) (by decide +kernel)⟩
theorem lw_p30 : lw_okq (⟨"LockTableModel", "grant", "(I)V"⟩, 25) := ⟨⟨by decide +kernel, by decide +kernel⟩, List.mem_of_getElem? (i := 617) (by decide +kernel), List.mem_of_getElem? (i := 772) (by decide +kernel), List.mem_of_getElem? (i := 773) (by decide +kernel)⟩
theorem lw_p31 : lw_okq (⟨"LockTableModel", "dropRanges", "(II)V"⟩, 25) := ⟨⟨by decide +kernel, by decide +kernel⟩, List.mem_of_getElem? (i := 617) (by decide +kernel), List.mem_of_getElem? (i := 776) (by decide +kernel), List.mem_of_getElem? (i := 777) (by decide +kernel)⟩
def lw_privs_2 : List (MethodName × Nat) := [(⟨"LockTable$Locks", "isRound", "(IIIJJ)Z"⟩, 7), (⟨"LockTable", "setEscalation", "(III)V"⟩, 11), (⟨"LockTable", "checkWaits", "(I)V"⟩, 11), (⟨"LockTable", "takeBackOverdue", "()I"⟩, 11), (⟨"LockTableModel", "refused", "(ZZZ)Z"⟩, 25), (⟨"LockTableModel", "joinedWith", "(III)I"⟩, 25), (⟨"LockTableModel", "counted", "()I"⟩, 25), (⟨"LockTableModel", "ask", "(IZ)I"⟩, 25), (⟨"LockTableModel", "behindOf", "(I)I"⟩, 25), (⟨"LockTableModel", "againstLocksOf", "(II)Z"⟩, 25), (⟨"LockTableModel", "againstTable", "(IIII)Z"⟩, 25), (⟨"LockTableModel", "againstRange", "(IIIIJJ)Z"⟩, 25), (⟨"LockTableModel", "againstRequestOf", "(II)Z"⟩, 25), (⟨"LockTableModel", "isBefore", "(II)Z"⟩, 25), (⟨"LockTableModel", "grant", "(I)V"⟩, 25), (⟨"LockTableModel", "dropRanges", "(II)V"⟩, 25)]
theorem lw_r2 : ∀ q ∈ lw_privs_2, lw_okq q := List.forall_mem_cons.mpr ⟨lw_p16, List.forall_mem_cons.mpr ⟨lw_p17, List.forall_mem_cons.mpr ⟨lw_p18, List.forall_mem_cons.mpr ⟨lw_p19, List.forall_mem_cons.mpr ⟨lw_p20, List.forall_mem_cons.mpr ⟨lw_p21, List.forall_mem_cons.mpr ⟨lw_p22, List.forall_mem_cons.mpr ⟨lw_p23, List.forall_mem_cons.mpr ⟨lw_p24, List.forall_mem_cons.mpr ⟨lw_p25, List.forall_mem_cons.mpr ⟨lw_p26, List.forall_mem_cons.mpr ⟨lw_p27, List.forall_mem_cons.mpr ⟨lw_p28, List.forall_mem_cons.mpr ⟨lw_p29, List.forall_mem_cons.mpr ⟨lw_p30, List.forall_mem_cons.mpr ⟨lw_p31, fun _ h => absurd h List.not_mem_nil⟩⟩⟩⟩⟩⟩⟩⟩⟩⟩⟩⟩⟩⟩⟩⟩
theorem lw_p32 : lw_okq (⟨"LockTableModel", "dropRange", "(I)V"⟩, 25) := ⟨⟨by decide +kernel, by decide +kernel⟩, List.mem_of_getElem? (i := 617) (by decide +kernel), List.mem_of_getElem? (i := 780) (by decide +kernel), List.mem_of_getElem? (i := 781) (by decide +kernel)⟩
theorem lw_p33 : lw_okq (⟨"LockTableModel", "look", "(I)V"⟩, 25) := ⟨⟨by decide +kernel, by decide +kernel⟩, List.mem_of_getElem? (i := 617) (by decide +kernel), List.mem_of_getElem? (i := 784) (by decide +kernel), List.mem_of_getElem? (i := 785) (by decide +kernel)⟩
theorem lw_p34 : lw_okq (⟨"LockTableModel", "nextBehind", "(I)I"⟩, 25) := ⟨⟨by decide +kernel, by decide +kernel⟩, List.mem_of_getElem? (i := 617) (by decide +kernel), List.mem_of_getElem? (i := 788) (by decide +kernel), List.mem_of_getElem? (i := 789) (by decide +kernel)⟩
theorem lw_p35 : lw_okq (⟨"LockTableModel", "breakRings", "(I)V"⟩, 25) := ⟨⟨by decide +kernel, by decide +kernel⟩, List.mem_of_getElem? (i := 617) (by decide +kernel), List.mem_of_getElem? (i := 792) (by decide +kernel), List.mem_of_getElem? (i := 793) (by decide +kernel)⟩
theorem lw_p36 : lw_okq (⟨"LockTableModel", "fillReach", "()V"⟩, 25) := ⟨⟨by decide +kernel, by decide +kernel⟩, List.mem_of_getElem? (i := 617) (by decide +kernel), List.mem_of_getElem? (i := 796) (by decide +kernel), List.mem_of_getElem? (i := 797) (by decide +kernel)⟩
theorem lw_p37 : lw_okq (⟨"LockTableModel", "hasAround", "(IIJJI)Z"⟩, 25) := ⟨⟨by decide +kernel, by decide +kernel⟩, List.mem_of_getElem? (i := 617) (by decide +kernel), List.mem_of_getElem? (i := 807) (by decide +kernel), List.mem_of_getElem? (i := 808) (by decide +kernel)⟩
theorem lw_p38 : lw_okq (⟨"LockTableModel", "rangesOf", "(II)I"⟩, 25) := ⟨⟨by decide +kernel, by decide +kernel⟩, List.mem_of_getElem? (i := 617) (by decide +kernel), List.mem_of_getElem? (i := 814) (by decide +kernel), List.mem_of_getElem? (i := 815) (by decide +kernel)⟩
theorem lw_p39 : lw_okq (⟨"LockTableModel", "escalated", "(IIZ)I"⟩, 25) := ⟨⟨by decide +kernel, by decide +kernel⟩, List.mem_of_getElem? (i := 617) (by decide +kernel), List.mem_of_getElem? (i := 818) (by decide +kernel), List.mem_of_getElem? (i := 819) (by decide +kernel)⟩
theorem lw_p40 : lw_okq (⟨"LockTableModel", "writesRanges", "(II)Z"⟩, 25) := ⟨⟨by decide +kernel, by decide +kernel⟩, List.mem_of_getElem? (i := 617) (by decide +kernel), List.mem_of_getElem? (i := 822) (by decide +kernel), List.mem_of_getElem? (i := 823) (by decide +kernel)⟩
theorem lw_p41 : lw_okq (⟨"LockTableModel", "isIn", "(II)Z"⟩, 25) := ⟨⟨by decide +kernel, by decide +kernel⟩, List.mem_of_getElem? (i := 617) (by decide +kernel), List.mem_of_getElem? (i := 834) (by decide +kernel), List.mem_of_getElem? (i := 835) (by decide +kernel)⟩
theorem lw_p42 : lw_okq (⟨"LockTableModel", "giveReading", "(I)V"⟩, 25) := ⟨⟨by decide +kernel, by decide +kernel⟩, List.mem_of_getElem? (i := 617) (by decide +kernel), List.mem_of_getElem? (i := 842) (by decide +kernel), List.mem_of_getElem? (i := 843) (by decide +kernel)⟩
theorem lw_p43 : lw_okq (⟨"LockTableModel", "locksOf", "(I)I"⟩, 25) := ⟨⟨by decide +kernel, by decide +kernel⟩, List.mem_of_getElem? (i := 617) (by decide +kernel), List.mem_of_getElem? (i := 846) (by decide +kernel), List.mem_of_getElem? (i := 847) (by decide +kernel)⟩
theorem lw_p44 : lw_okq (⟨"LockTableModel", "longest", "()I"⟩, 25) := ⟨⟨by decide +kernel, by decide +kernel⟩, List.mem_of_getElem? (i := 617) (by decide +kernel), List.mem_of_getElem? (i := 866) (by decide +kernel), List.mem_of_getElem? (i := 867) (by decide +kernel)⟩
def lw_privs_3 : List (MethodName × Nat) := [(⟨"LockTableModel", "dropRange", "(I)V"⟩, 25), (⟨"LockTableModel", "look", "(I)V"⟩, 25), (⟨"LockTableModel", "nextBehind", "(I)I"⟩, 25), (⟨"LockTableModel", "breakRings", "(I)V"⟩, 25), (⟨"LockTableModel", "fillReach", "()V"⟩, 25), (⟨"LockTableModel", "hasAround", "(IIJJI)Z"⟩, 25), (⟨"LockTableModel", "rangesOf", "(II)I"⟩, 25), (⟨"LockTableModel", "escalated", "(IIZ)I"⟩, 25), (⟨"LockTableModel", "writesRanges", "(II)Z"⟩, 25), (⟨"LockTableModel", "isIn", "(II)Z"⟩, 25), (⟨"LockTableModel", "giveReading", "(I)V"⟩, 25), (⟨"LockTableModel", "locksOf", "(I)I"⟩, 25), (⟨"LockTableModel", "longest", "()I"⟩, 25)]
theorem lw_r3 : ∀ q ∈ lw_privs_3, lw_okq q := List.forall_mem_cons.mpr ⟨lw_p32, List.forall_mem_cons.mpr ⟨lw_p33, List.forall_mem_cons.mpr ⟨lw_p34, List.forall_mem_cons.mpr ⟨lw_p35, List.forall_mem_cons.mpr ⟨lw_p36, List.forall_mem_cons.mpr ⟨lw_p37, List.forall_mem_cons.mpr ⟨lw_p38, List.forall_mem_cons.mpr ⟨lw_p39, List.forall_mem_cons.mpr ⟨lw_p40, List.forall_mem_cons.mpr ⟨lw_p41, List.forall_mem_cons.mpr ⟨lw_p42, List.forall_mem_cons.mpr ⟨lw_p43, List.forall_mem_cons.mpr ⟨lw_p44, fun _ h => absurd h List.not_mem_nil⟩⟩⟩⟩⟩⟩⟩⟩⟩⟩⟩⟩⟩
def lw_privs : List (MethodName × Nat) := lw_privs_1 ++ (lw_privs_2 ++ (lw_privs_3))
def lw_tbl : List Cond := k2_sels lw_privs ++ tables_1
theorem lw_privs_ok : ∀ q ∈ lw_privs, lw_okq q := by
  show ∀ q ∈ lw_privs_1 ++ (lw_privs_2 ++ (lw_privs_3)), lw_okq q
  exact List.forall_mem_append.mpr ⟨lw_r1, List.forall_mem_append.mpr ⟨lw_r2, lw_r3⟩⟩
end
section
/-! ===== BEGIN words of one list among another's, by their places ===== -/
theorem goodIn_r {big : List Cond} (ws : List Cond) (ps : List Nat) (hp : ws = ps.filterMap (fun i => big[i]?)) (h : ws.all goodWord = true) : GoodIn big ws := by
  intro w hw
  have h1 := List.all_eq_true.mp h w hw
  rw [hp] at hw
  obtain ⟨i, -, hi⟩ := List.mem_filterMap.mp hw
  have hm : w ∈ big := by first | exact List.mem_of_getElem? hi | exact List.getElem?_mem hi
  exact ⟨hm, good_of_word h1⟩
theorem goodIn_app {big a b : List Cond} (ha : GoodIn big a) (hb : GoodIn big b) : GoodIn big (a ++ b) := fun w h => (List.mem_append.mp h).elim (ha w) (hb w)
theorem goodIn_ca {big a b : List Cond} {c : Cond} (ha : GoodIn big (c :: a)) (hb : GoodIn big b) : GoodIn big (c :: (a ++ b)) := fun w h => (List.mem_cons.mp h).elim (fun e => ha w (List.mem_cons.mpr (Or.inl e))) (fun h => (List.mem_append.mp h).elim (fun h => ha w (List.mem_cons.mpr (Or.inr h))) (hb w))
theorem goodIn_sub {big ws : List Cond} (hm : ∀ w ∈ ws, w ∈ big) (h : ws.all goodWord = true) : GoodIn big ws := fun w hw => ⟨hm w hw, good_of_word (List.all_eq_true.mp h w hw)⟩
/-! ===== END ===== -/

/-! ===== BEGIN exceptions that leave a method, and their catching by the caller (launches without stack traces) ===== -/
section VXA
/-! The laws vx_back, vx_callV, vx_callS, vx_callSW, vx_throw0, vx_throwS follow proofs of the library, with one case more: JvmDerived/Free/Laws.lean (Back.of_free), Shelf42/LK1.lean (callV, callS), Shelf/KitTraced.lean (throwNew0V, throwNewS). -/
/-- where a method has thrown q: the class by its name, the cell, what was written, the world -/
def vx_T (XC : String → State → State → Prop) (st : State) (q : Addr) (t : State) (mc ms : Nat) (free : Addr → Prop) : Prop :=
  ∃ (E : String) (ce : Cell) (L : List Loc), XC E st t ∧ t.heap[q]? = some ce ∧ ce.vm = .none ∧ st.vm.findClass E = some ce.cls ∧ st.WarmedH t.vm ∧ st.sameButNew ({ t with vm := st.vm } : State) L mc ms ∧ ∀ z ∈ L, free z.base
def vx_Q (Qc : Array Value → State → Outcome → State → Prop) (XC : String → State → State → Prop) (mc ms : Nat) (free : Addr → Prop) : Array Value → State → Outcome → State → Prop := fun a st o t =>
  (Qc a st o t ∧ ∃ L, FrameEnd st o t L mc ms ∧ ∀ q ∈ L, free q.base) ∨ ∃ q, o = .threw q ∧ vx_T XC st q t mc ms free
/-- a callee that returns or throws -/
def vx_Met (l : Launch) (y : MethodName) (ws : List Cond) (rm : Room) (Pc : Array Value → State → Prop) (Qc : Array Value → State → Outcome → State → Prop) (XC : String → State → State → Prop) (mc ms : Nat) (free : Addr → Prop) : Prop :=
  MetFree l y (headSpec ws rm) Pc (fun _ _ _ _ _ => True) (vx_Q Qc XC mc ms free)
def vx_Post (XC : String → State → State → Prop) (mc ms : Nat) (free : Addr → Prop) : Pt → Array Value → Addr → Pt → Prop := fun A a q B =>
  ∃ (g : JFrame) (mk : MethodId) (t : State) (L : List Loc) (E : String) (ce : Cell), B.U.heap = t.heap ∧ B.U.vm = t.vm ∧ XC E (A.U.calling g mk a) t ∧ t.heap[q]? = some ce ∧ ce.vm = .none ∧ A.U.vm.findClass E = some ce.cls ∧ B.locs = A.locs ++ L ∧ (∀ z ∈ L, free z.base) ∧ B.cells = A.cells + mc ∧ B.slots = A.slots + ms
def vx_Back (l : Launch) (R : Room) (p : Program) (e : Env) (below : List Frame) (s : State) (sargs : Array Value) (y : MethodName) (len W9 : Nat)
    (Pre : Pt → Array Value → Prop) (Post : Pt → Array Value → Option Value → Pt → Prop) (PostX : Pt → Array Value → Addr → Pt → Prop) : Prop :=
  ∀ (m : MethodId) (meth : Method) (c : Code) (A : Pt) (g : JFrame) (ig : Instr) (mk : MethodId) (a : Array Value),
    Stand p l e R s m sargs below meth c A.U A.locs A.cells A.slots → g.method = m → g.locals.size = c.maxLocals → decode c.code g.pc = .ok (ig, len) →
    2 * g.monitorRoom + (g.stack.map fun v => v.category).sum ≤ W9 → A.U.methodNamed? y = some mk → Pre A a →
    (∃ (v : Option Value) (B : Pt), Stand p l e R s m sargs below meth c B.U B.locs B.cells B.slots ∧ Post A a v B ∧
      Steps p.tables e below (doInvoke e (A.U.setTop g) [] mk a).1 (B.U.setTop { g with pc := g.pc + len, stack := v.toList ++ g.stack })) ∨
    (∃ (q : Addr) (B : Pt), Stand p l e R s m sargs below meth c B.U B.locs B.cells B.slots ∧ PostX A a q B ∧
      Steps p.tables e below (doInvoke e (A.U.setTop g) [] mk a).1 ((B.U.setTop g).pushFrame (.throwing q)))
section Payer
variable {l : Launch} {R : Room} {p : Program} {e : Env} {below : List Frame} {s : State} {sargs : Array Value} {y : MethodName} {len W9 : Nat}
theorem vx_back {ws : List Cond} {rm : Room} {Pc : Array Value → State → Prop} {Qc : Array Value → State → Outcome → State → Prop} {XC : String → State → State → Prop} {mc ms : Nat} {free : Addr → Prop} {bytes : ByteArray} {maxL : Nat} {ret : Option FieldType}
    (hM : vx_Met l y ws rm Pc Qc XC mc ms free) (hblind : FrameBlind Pc) (hrc : rm.cells = mc) (hrs : rm.slots = ms)
    (hframes : rm.frames + 1 ≤ R.frames) (hlocals : W9 + (maxL + 11) + rm.locals ≤ R.locals)
    (hws : ∀ w ∈ ws, ∀ a' U, s.WarmedH U.vm → w.before a' U = true) (hcode : Cond.code y bytes maxL ret ∈ ws) (hinit : ∀ a' U, s.WarmedH U.vm → (Cond.initialized y.cls).before a' U = true) :
    vx_Back l R p e below s sargs y len W9 (PreOf R mc ms Pc) (PostOf Qc mc ms free) (vx_Post XC mc ms free) := by
  intro m meth c A g ig mk a X hg hsize hdg hW hn hp
  have h1 : (headSpec ws rm).pre.before a A.U = true := atoms_intro fun w hw => hws w hw _ _ X.warmed
  have h2 : (Cond.code y bytes maxL ret).before a A.U = true := hws _ hcode _ _ X.warmed
  have h3 : (Cond.initialized y.cls).before a A.U = true := hinit _ _ X.warmed
  have h4 : A.cells + (headSpec ws rm).room.cells ≤ R.cells := by rw [show (headSpec ws rm).room.cells = mc from hrc]; exact hp.1
  have h5 : A.slots + (headSpec ws rm).room.slots ≤ R.slots := by rw [show (headSpec ws rm).room.slots = ms from hrs]; exact hp.2.1
  have hPc : Pc a (A.U.calling g mk a) := hblind _ _ _ _ hp.2.2
  obtain ⟨U, Ls, c0, s0⟩ := A
  dsimp only [Pt.U, Pt.locs, Pt.cells, Pt.slots] at h1 h2 h3 h4 h5 X hn hPc ⊢
  obtain ⟨methY, cY, hmY, hcY, -, hlY, -, -, -, -⟩ := Cond.code_spec hn h2
  obtain ⟨kY, hkY, -⟩ := className_of_methodNamed hn
  have hinitY : kY.init = .initialized := Cond.initialized_spec (findClass_of_methodNamed hn) hkY h3
  have h : At U g.method c below := by rw [hg]; exact X.here
  have hlocals9 : W9 + (maxL + 11) + (headSpec ws rm).room.locals ≤ R.locals := hlocals
  have happ : (headSpec ws rm).appliesLoose y e.platform (U.calling g mk a) = true :=
    Spec.appliesLoose_calling (g := g) h hdg hn hkY hinitY
      (X.room_calling (g := g) (R' := (headSpec ws rm).room) hsize hmY hcY hframes (by rw [hlY]; omega) h4 h5) h1
  obtain ⟨mid, hmid⟩ := h.above
  have hfr : (U.setTop g).frames = (.java g :: mid) ++ below := by rw [State.frames_setTop' g h.top, hmid]; rfl
  obtain ⟨o, s₂, hsteps, -, hend, hq⟩ := Steps.callFree hM p X.admits X.cas X.clock (acts := []) hfr happ hPc trivial
  have hq' : vx_Q Qc XC mc ms free a (U.calling g mk a) o s₂ := hq
  rw [State.frames_setTop' g h.top] at hend
  obtain ⟨g₀, hg0⟩ := Option.isSome_iff_exists.mp h.top
  obtain ⟨r, hr⟩ := State.topJava?_eq_some.mp hg0
  have hr' : (({ U with heap := s₂.heap, slotsUsed := s₂.slotsUsed } : State).setVm s₂.vm).frames = .java g₀ :: r := hr
  rcases hq' with ⟨hqc, L, hfe, hL⟩ | ⟨q, rfl, E, ce, L, hx, hce, hcv, hcl, hW₂, hsm, hL⟩
  · obtain ⟨⟨v, rfl⟩, hW₂, e2, q2, q3, q4, q5, q6⟩ := id hfe
    have e3 : s₂ = ({ (U.calling g mk a).setFrames s₂.frames with heap := s₂.heap, slotsUsed := s₂.slotsUsed } : State).setVm s₂.vm := by
      have : s₂ = ({ s₂ with vm := (U.calling g mk a).vm } : State).setVm s₂.vm := rfl
      rw [e2] at this
      exact this
    obtain ⟨c₂, i₂, len₂, hc₂, hd₂, hf₂⟩ := hend
    have hW' : U.WarmedH s₂.vm := hW₂
    have hcc : c₂ = c := by
      have h1 : s₂.code? g.method = U.code? g.method := by
        rw [State.code?_eq, State.code?_eq, hW'.alike.method?]
      exact Option.some.inj (hc₂.symm.trans (h1.trans h.code))
    subst hcc
    have hlen : len₂ = len := by rw [hdg] at hd₂; cases hd₂; rfl
    subst hlen
    have hs₂ : s₂ = (({ U with heap := s₂.heap, slotsUsed := s₂.slotsUsed } : State).setVm s₂.vm).setTop { g with pc := g.pc + len₂, stack := v.toList ++ g.stack } := by
      refine e3.trans ?_
      rw [hf₂, State.calling_eq h.top, State.setFrames_setFrames, State.setTop_of_frames _ hr', hr]
      rfl
    have hsame : U.sameButNew ({ U with heap := s₂.heap, slotsUsed := s₂.slotsUsed } : State) L mc ms := by
      refine ⟨?_, q2, q3, q4, q5, q6⟩
      obtain ⟨t, ht, -⟩ := State.frames_cons hr
      show ({ U with heap := s₂.heap, slotsUsed := s₂.slotsUsed } : State) = { U.setFrames U.frames with heap := s₂.heap, slotsUsed := s₂.slotsUsed }
      rw [State.setFrames_self ht]
    subst hg
    refine Or.inl ⟨v, ⟨(({ U with heap := s₂.heap, slotsUsed := s₂.slotsUsed } : State).setVm s₂.vm), Ls ++ L, c0 + mc, s0 + ms⟩,
      ⟨X.admits, X.cas, X.clock, X.frames, X.room, X.hears, X.method, X.code, (X.here.setHeapUsed s₂.heap s₂.slotsUsed).setVm hW'.alike, X.tail, State.WarmedH.trans X.warmed hW', X.limits, X.bytes, X.same.trans (hsame.setVm s.vm)⟩,
      ⟨g, mk, s₂, L, rfl, rfl, hqc, rfl, hL, rfl, rfl⟩, ?_⟩
    show Steps p.tables e below _ ((({ U with heap := s₂.heap, slotsUsed := s₂.slotsUsed } : State).setVm s₂.vm).setTop { g with pc := g.pc + len₂, stack := v.toList ++ g.stack })
    rw [← hs₂]
    exact hsteps
  · obtain ⟨e2, q2, q3, q4, q5, q6⟩ := id hsm
    have e3 : s₂ = ({ (U.calling g mk a).setFrames s₂.frames with heap := s₂.heap, slotsUsed := s₂.slotsUsed } : State).setVm s₂.vm := by
      have : s₂ = ({ s₂ with vm := (U.calling g mk a).vm } : State).setVm s₂.vm := rfl
      rw [e2] at this
      exact this
    have hf₂ : s₂.frames = .throwing q :: .java g :: U.frames.tail := hend
    have hW' : U.WarmedH s₂.vm := hW₂
    have hs₂ : s₂ = ((({ U with heap := s₂.heap, slotsUsed := s₂.slotsUsed } : State).setVm s₂.vm).setTop g).pushFrame (.throwing q) := by
      refine e3.trans ?_
      rw [hf₂, State.calling_eq h.top, State.setFrames_setFrames, State.pushFrame, State.frames_setTop _ hr', State.setTop_of_frames _ hr', State.setFrames_setFrames, hr]
      rfl
    have hsame : U.sameButNew ({ U with heap := s₂.heap, slotsUsed := s₂.slotsUsed } : State) L mc ms := by
      refine ⟨?_, q2, q3, q4, q5, q6⟩
      obtain ⟨t, ht, -⟩ := State.frames_cons hr
      show ({ U with heap := s₂.heap, slotsUsed := s₂.slotsUsed } : State) = { U.setFrames U.frames with heap := s₂.heap, slotsUsed := s₂.slotsUsed }
      rw [State.setFrames_self ht]
    subst hg
    refine Or.inr ⟨q, ⟨(({ U with heap := s₂.heap, slotsUsed := s₂.slotsUsed } : State).setVm s₂.vm), Ls ++ L, c0 + mc, s0 + ms⟩,
      ⟨X.admits, X.cas, X.clock, X.frames, X.room, X.hears, X.method, X.code, (X.here.setHeapUsed s₂.heap s₂.slotsUsed).setVm hW'.alike, X.tail, State.WarmedH.trans X.warmed hW', X.limits, X.bytes, X.same.trans (hsame.setVm s.vm)⟩,
      ⟨g, mk, s₂, L, E, ce, rfl, rfl, hx, hce, hcv, hcl, rfl, hL, rfl, rfl⟩, ?_⟩
    show Steps p.tables e below _ (((({ U with heap := s₂.heap, slotsUsed := s₂.slotsUsed } : State).setVm s₂.vm).setTop g).pushFrame (.throwing q))
    rw [← hs₂]
    exact hsteps
end Payer
section Calls
variable {p : Program} {l : Launch} {e : Env} {R : Room} {s : State} {m : MethodId} {args : Array Value} {below : List Frame} {meth : Method} {c : Code} {T : State} {locs : List Loc} {cells slots : Nat}
theorem vx_callV (X : Stand p l e R s m args below meth c T locs cells slots) (hexec : p.tables.exec = Jvm.exec) {own C : String} {index : Nat} {y : MethodName} {bytes : ByteArray} {maxL : Nat} {ret : Option FieldType}
    (hown : s.vm.findClass own = some m.cls) (hlink : (Cond.methodLink own index y).before args s = true) (hinst : (Cond.instanceMethod y).before args s = true) (hsel : (Cond.selects C y y).before args s = true)
    (hcode : (Cond.code y bytes maxL ret).before args s = true) (hy : y.cls ≠ "java/lang/invoke/MethodHandle" ∧ y.cls ≠ "java/lang/invoke/VarHandle")
    {W9 : Nat} {Pre : Pt → Array Value → Prop} {Post : Pt → Array Value → Option Value → Pt → Prop} {PostX : Pt → Array Value → Addr → Pt → Prop} (hK : vx_Back l R p e below s args y 3 W9 Pre Post PostX)
    {b : Addr} {cellB : Cell} (hcell : T.heap[b]? = some cellB) (hobj : cellB.vm.isStatics = false) (hcls : s.vm.findClass C = some cellB.cls)
    {g : JFrame} (hg : g.method = m) (hsize : g.locals.size = c.maxLocals) {argsL rest : List Value} (hlen : ∀ sig, parseMethodDescriptor y.desc = some sig → argsL.length = sig.parameters.length)
    (hstack : g.stack = argsL.reverse ++ .ref b :: rest) (hW : 2 * g.monitorRoom + (rest.map fun v => v.category).sum ≤ W9) (hdg : decode c.code g.pc = .ok (.invokevirtual index, 3))
    (hpre : ∀ vm₁, s.WarmedH vm₁ → Pre ⟨T.setVm vm₁, locs, cells, slots⟩ (Value.ref b :: argsL).toArray) :
    (∃ (v : Option Value) (vm₁ : Vm) (B : Pt), s.WarmedH vm₁ ∧ Stand p l e R s m args below meth c B.U B.locs B.cells B.slots ∧ Post ⟨T.setVm vm₁, locs, cells, slots⟩ (Value.ref b :: argsL).toArray v B ∧
      ∀ target, Steps p.tables e below (B.U.setTop { g with pc := g.pc + 3, stack := v.toList ++ rest }) target → Steps p.tables e below (T.setTop g) target) ∨
    (∃ (q : Addr) (vm₁ : Vm) (B : Pt), s.WarmedH vm₁ ∧ Stand p l e R s m args below meth c B.U B.locs B.cells B.slots ∧ PostX ⟨T.setVm vm₁, locs, cells, slots⟩ (Value.ref b :: argsL).toArray q B ∧
      Steps p.tables e below (T.setTop g) ((B.U.setTop { g with stack := rest }).pushFrame (.throwing q))) := by
  obtain ⟨mk, methM, hnamed, hmethM, hstM, habM⟩ := Cond.instanceMethod_spec hinst
  obtain ⟨methM', cM, hmethM', -, -, -, -, -, -, hsigM⟩ := Cond.code_spec hnamed hcode
  cases hmethM.symm.trans hmethM'
  obtain ⟨c2, r2, m2, q1, q2, q3, q4, kP, hkP, hkPi⟩ := Cond.selects_spec hsel
  cases hcls.symm.trans q1
  cases (State.methodFound?_of_named hnamed hy).symm.trans q2
  cases hnamed.symm.trans q3
  have hselP : selectMethod e.platform s.vm cellB.cls mk = .method mk := by rw [Launch.admits_selectMethod X.admits]; exact q4
  obtain ⟨vm₁, X₁, hstep₁⟩ := X.invokevirtual hexec hown hlink hnamed hmethM hstM hkP hkPi hy (a := b) (cell := cellB) hcell
    (fun z h => by rw [h] at hobj; cases hobj) hselP hmethM habM hkP hkPi (g := g) hg (argsL := argsL) (rest := rest) (hlen _ hsigM) hstack hdg
  rcases hK m meth c ⟨T.setVm vm₁, locs, cells, slots⟩ { g with stack := rest } (.invokevirtual index) mk (Value.ref b :: argsL).toArray X₁ hg hsize hdg hW (X₁.named hnamed) (hpre vm₁ X₁.warmed) with ⟨v, B, X', hpost, hsteps⟩ | ⟨q, B, X', hpost, hsteps⟩
  · exact Or.inl ⟨v, vm₁, B, X₁.warmed, X', hpost, fun target h => hstep₁ _ fun acts => by rw [doInvoke_state]; exact hsteps.trans h⟩
  · exact Or.inr ⟨q, vm₁, B, X₁.warmed, X', hpost, hstep₁ _ fun acts => by rw [doInvoke_state]; exact hsteps⟩
theorem vx_callS (X : Stand p l e R s m args below meth c T locs cells slots) (hexec : p.tables.exec = Jvm.exec) {own : String} {index : Nat} {y : MethodName} {bytes : ByteArray} {maxL : Nat} {ret : Option FieldType}
    (hown : s.vm.findClass own = some m.cls) (hlink : (Cond.methodLink own index y).before args s = true) (hstat : (Cond.static y).before args s = true) (hinit : (Cond.initialized y.cls).before args s = true)
    (hcode : (Cond.code y bytes maxL ret).before args s = true) (hy : y.cls ≠ "java/lang/invoke/MethodHandle" ∧ y.cls ≠ "java/lang/invoke/VarHandle")
    {W9 : Nat} {Pre : Pt → Array Value → Prop} {Post : Pt → Array Value → Option Value → Pt → Prop} {PostX : Pt → Array Value → Addr → Pt → Prop} (hK : vx_Back l R p e below s args y 3 W9 Pre Post PostX)
    {g : JFrame} (hg : g.method = m) (hsize : g.locals.size = c.maxLocals) {argsL rest : List Value} (hlen : ∀ sig, parseMethodDescriptor y.desc = some sig → argsL.length = sig.parameters.length)
    (hstack : g.stack = argsL.reverse ++ rest) (hW : 2 * g.monitorRoom + (rest.map fun v => v.category).sum ≤ W9) (hdg : decode c.code g.pc = .ok (.invokestatic index, 3))
    (hpre : ∀ vm₁, s.WarmedH vm₁ → Pre ⟨T.setVm vm₁, locs, cells, slots⟩ argsL.toArray) :
    (∃ (v : Option Value) (vm₁ : Vm) (B : Pt), s.WarmedH vm₁ ∧ Stand p l e R s m args below meth c B.U B.locs B.cells B.slots ∧ Post ⟨T.setVm vm₁, locs, cells, slots⟩ argsL.toArray v B ∧
      ∀ target, Steps p.tables e below (B.U.setTop { g with pc := g.pc + 3, stack := v.toList ++ rest }) target → Steps p.tables e below (T.setTop g) target) ∨
    (∃ (q : Addr) (vm₁ : Vm) (B : Pt), s.WarmedH vm₁ ∧ Stand p l e R s m args below meth c B.U B.locs B.cells B.slots ∧ PostX ⟨T.setVm vm₁, locs, cells, slots⟩ argsL.toArray q B ∧
      Steps p.tables e below (T.setTop g) ((B.U.setTop { g with stack := rest }).pushFrame (.throwing q))) := by
  obtain ⟨mk, hnamed⟩ := Cond.code_named hcode
  obtain ⟨methM, cM, hmethM, -, -, -, -, -, -, hsigM⟩ := Cond.code_spec hnamed hcode
  have hstatic : methM.isStatic = true := Cond.static_spec hnamed hmethM hstat
  obtain ⟨kP, hkP, -⟩ := className_of_methodNamed hnamed
  have hinitP : kP.init = .initialized := Cond.initialized_spec (findClass_of_methodNamed hnamed) hkP hinit
  obtain ⟨vm₁, X₁, hstep₁⟩ := X.invokestatic hexec hown hlink hnamed hmethM hstatic hkP hinitP hy (g := g) hg (argsL := argsL) (rest := rest) (hlen _ hsigM) hstack hdg
  rcases hK m meth c ⟨T.setVm vm₁, locs, cells, slots⟩ { g with stack := rest } (.invokestatic index) mk argsL.toArray X₁ hg hsize hdg hW (X₁.named hnamed) (hpre vm₁ X₁.warmed) with ⟨v, B, X', hpost, hsteps⟩ | ⟨q, B, X', hpost, hsteps⟩
  · exact Or.inl ⟨v, vm₁, B, X₁.warmed, X', hpost, fun target h => hstep₁ _ fun acts => by rw [doInvoke_state]; exact hsteps.trans h⟩
  · exact Or.inr ⟨q, vm₁, B, X₁.warmed, X', hpost, hstep₁ _ fun acts => by rw [doInvoke_state]; exact hsteps⟩
end Calls
theorem vx_cls {s : State} {T : State} {vm₁ : Vm} {E : String} {k : ClassId} (hW : s.WarmedH vm₁) (h : (T.setVm vm₁).vm.findClass E = some k) : s.vm.findClass E = some k := by
  have h1 : vm₁.findClass E = some k := h
  rw [hW.alike.findClass] at h1
  exact h1
/-- the method's frame g, with q thrown over it -/
def vx_W (p : Program) (l : Launch) (e : Env) (R : Room) (s : State) (m : MethodId) (args : Array Value) (below : List Frame) (meth : Method) (c : Code) (H : Heap) (locs : List Loc) (cells slots : Nat) (Q : State → Prop) (g : JFrame) (q : Addr) : Prop :=
  ∀ T : State, T.heap = H → Stand p l e R s m args below meth c T locs cells slots → ∃ t, Steps p.tables e below ((T.setTop g).pushFrame (.throwing q)) t ∧ Q t
def vx_Run (p : Program) (l : Launch) (e : Env) (R : Room) (s : State) (m : MethodId) (args : Array Value) (below : List Frame) (meth : Method) (c : Code) (H : Heap) (locs : List Loc) (cells slots mc ms : Nat) (g : JFrame) (rest : List Value) (Qa : State → Outcome → State → Prop) (XC : String → State → State → Prop) (free : Addr → Prop) : Prop :=
  ∀ T : State, T.heap = H → Stand p l e R s m args below meth c T locs cells slots →
    (∃ (v : Option Value) (st₀ t T' : State) (L : List Loc), st₀.heap = H ∧ Stand p l e R s m args below meth c T' (locs ++ L) (cells + mc) (slots + ms) ∧ (∀ q ∈ L, free q.base) ∧ T'.heap = t.heap ∧ T'.vm = t.vm ∧ Qa st₀ (.returned v) t ∧
      Goes p e below T g T' { g with pc := g.pc + 3, stack := v.toList ++ rest }) ∨
    (∃ (q : Addr) (st₀ t T' : State) (L : List Loc) (E : String) (ce : Cell), st₀.heap = H ∧ Stand p l e R s m args below meth c T' (locs ++ L) (cells + mc) (slots + ms) ∧ (∀ z ∈ L, free z.base) ∧ T'.heap = t.heap ∧ T'.vm = t.vm ∧ XC E st₀ t ∧ t.heap[q]? = some ce ∧ ce.vm = .none ∧ s.vm.findClass E = some ce.cls ∧
      Steps p.tables e below (T.setTop g) ((T'.setTop { g with stack := rest }).pushFrame (.throwing q)))
def vx_X {S : Type} (px : S → Prop) (B : String → S → State → Prop) (A : Nat → Prop) : String → State → State → Prop := fun E st t => ∃ u : S, px u ∧ B E u t ∧ va_F A st t
section Runs
variable {p : Program} {l : Launch} {e : Env} {R : Room} {s : State} {m : MethodId} {args : Array Value} {below : List Frame} {meth : Method} {c : Code} {H : Heap} {locs : List Loc} {cells slots : Nat}
variable {y : MethodName} {bytes cc : ByteArray} {maxL nL mc ms n index : Nat} {ret : Option FieldType} {ws : List Cond} {rm : Room} {Pc : Array Value → State → Prop} {Qc : Array Value → State → Outcome → State → Prop} {XC : String → State → State → Prop} {free : Addr → Prop} {Ts : List Cond} {own C : String} {b : Addr} {As rest : List Value} {g : JFrame}
theorem vx_callBack (cb : CallB R s args own index y bytes maxL ret ws rm mc ms n) (hM : vx_Met l y ws rm Pc Qc XC mc ms free) (hbl : FrameBlind Pc) : vx_Back l R p e below s args y 3 8 (PreOf R mc ms Pc) (PostOf Qc mc ms free) (vx_Post XC mc ms free) := by
  obtain ⟨hrc, hrs, hfr, hlo, hws, hcw, -, hini, -⟩ := cb
  exact vx_back (bytes := bytes) (maxL := maxL) (ret := ret) hM hbl hrc hrs hfr hlo hws hcw (fun a' U hW => word_at hW (Or.inl (by first | rfl | simp [Cond.onTables, Cond.keeps, Cond.steady])) hini)
theorem vx_runV (S : CallFix p m c cc nL s args Ts own) (hM : vx_Met l y ws rm Pc Qc XC mc ms free) (cw : CallW R s args own C index y bytes maxL ret ws rm mc ms n) (hp : PreV s H C b Pc As)
    (hg : g.method = m) (hn : As.length = n) (hsize : g.locals.size = nL) (hstack : g.stack = As.reverse ++ .ref b :: rest) (hW : 2 * g.monitorRoom + (rest.map fun v => v.category).sum ≤ 8) (hdg : decode cc g.pc = .ok (.invokevirtual index, 3)) (hf : cells + mc ≤ R.cells ∧ slots + ms ≤ R.slots) :
    vx_Run p l e R s m args below meth c H locs cells slots mc ms g rest (Qc (Value.ref b :: As).toArray) XC free := by
  have hK : vx_Back l R p e below s args y 3 8 (PreOf R mc ms Pc) (PostOf Qc mc ms free) (vx_Post XC mc ms free) := vx_callBack cw.1 hM hp.1
  obtain ⟨⟨-, -, -, -, -, -, hcode, -, hy, hlen, hl⟩, hin, hse⟩ := cw
  obtain ⟨hx, hb, hml, ho, -⟩ := S
  obtain ⟨-, ⟨cellB, hcB, hoB, hclB⟩, hPc⟩ := hp
  intro T hT X
  rcases vx_callV X hx (C := C) (bytes := bytes) (maxL := maxL) (ret := ret) ho hl hin hse hcode hy hK (by rw [hT]; exact hcB) hoB hclB hg (hsize.trans hml.symm) (argsL := As) (rest := rest) (fun sig h => hn.trans (hlen sig h)) hstack hW (by rw [hb]; exact hdg)
    (fun vm₁ hW₁ => ⟨hf.1, hf.2, hPc (T.setVm vm₁) hT hW₁⟩) with ⟨v, vm₁, ⟨U', l2, c2, s2⟩, hW₁, X', ⟨g', mk, t, L, e1, e2, hq, h1, hL, h2, h3⟩, st⟩ | ⟨q, vm₁, ⟨U', l2, c2, s2⟩, hW₁, X', ⟨g', mk, t, L, E, ce, e1, e2, hq, hce, hcv, hcl, h1, hL, h2, h3⟩, st⟩
  · dsimp only [Pt.U, Pt.locs, Pt.cells, Pt.slots] at X' e1 e2 h1 h2 h3 st
    subst h1; subst h2; subst h3
    exact Or.inl ⟨v, (T.setVm vm₁).calling g' mk (Value.ref b :: As).toArray, t, U', L, hT, X', hL, e1, e2, hq, st⟩
  · dsimp only [Pt.U, Pt.locs, Pt.cells, Pt.slots] at X' e1 e2 h1 h2 h3 st hcl
    subst h1; subst h2; subst h3
    exact Or.inr ⟨q, (T.setVm vm₁).calling g' mk (Value.ref b :: As).toArray, t, U', L, E, ce, hT, X', hL, e1, e2, hq, hce, hcv, vx_cls hW₁ hcl, st⟩
theorem vx_runS (S : CallFix p m c cc nL s args Ts own) (hM : vx_Met l y ws rm Pc Qc XC mc ms free) (cw : CallB R s args own index y bytes maxL ret ws rm mc ms n ∧ (Cond.static y).before args s = true) (hp : PreS s H Pc As)
    (hg : g.method = m) (hn : As.length = n) (hsize : g.locals.size = nL) (hstack : g.stack = As.reverse ++ rest) (hW : 2 * g.monitorRoom + (rest.map fun v => v.category).sum ≤ 8) (hdg : decode cc g.pc = .ok (.invokestatic index, 3)) (hf : cells + mc ≤ R.cells ∧ slots + ms ≤ R.slots) :
    vx_Run p l e R s m args below meth c H locs cells slots mc ms g rest (Qc As.toArray) XC free := by
  have hK : vx_Back l R p e below s args y 3 8 (PreOf R mc ms Pc) (PostOf Qc mc ms free) (vx_Post XC mc ms free) := vx_callBack cw.1 hM hp.1
  obtain ⟨⟨-, -, -, -, -, -, hcode, hini, hy, hlen, hl⟩, hstt⟩ := cw
  obtain ⟨hx, hb, hml, ho, -⟩ := S
  intro T hT X
  rcases vx_callS X hx (bytes := bytes) (maxL := maxL) (ret := ret) ho hl hstt hini hcode hy hK hg (hsize.trans hml.symm) (argsL := As) (rest := rest) (fun sig h => hn.trans (hlen sig h)) hstack hW (by rw [hb]; exact hdg)
    (fun vm₁ hW₁ => ⟨hf.1, hf.2, hp.2 (T.setVm vm₁) hT hW₁⟩) with ⟨v, vm₁, ⟨U', l2, c2, s2⟩, hW₁, X', ⟨g', mk, t, L, e1, e2, hq, h1, hL, h2, h3⟩, st⟩ | ⟨q, vm₁, ⟨U', l2, c2, s2⟩, hW₁, X', ⟨g', mk, t, L, E, ce, e1, e2, hq, hce, hcv, hcl, h1, hL, h2, h3⟩, st⟩
  · dsimp only [Pt.U, Pt.locs, Pt.cells, Pt.slots] at X' e1 e2 h1 h2 h3 st
    subst h1; subst h2; subst h3
    exact Or.inl ⟨v, (T.setVm vm₁).calling g' mk As.toArray, t, U', L, hT, X', hL, e1, e2, hq, st⟩
  · dsimp only [Pt.U, Pt.locs, Pt.cells, Pt.slots] at X' e1 e2 h1 h2 h3 st hcl
    subst h1; subst h2; subst h3
    exact Or.inr ⟨q, (T.setVm vm₁).calling g' mk As.toArray, t, U', L, E, ce, hT, X', hL, e1, e2, hq, hce, hcv, vx_cls hW₁ hcl, st⟩
end Runs
section Rows
variable {p : Program} {l : Launch} {e : Env} {R : Room} {s : State} {m : MethodId} {args : Array Value} {below : List Frame} {meth : Method} {c : Code} {H : Heap} {locs : List Loc} {cells slots : Nat} {Q : State → Prop}
variable {mc ms : Nat} {free : Addr → Prop} {A0 A1 : Nat → Prop} {H0 : Heap} {a : Array Value} {pc : Nat} {ls : Array Slot} {st0 rest : List Value}
theorem vx_keep {st₀ t T' : State} {L : List Loc} (h0 : st₀.heap = H) (e1 : T'.heap = t.heap) (hS : va_S A0 H0 H locs) (hA : ∀ q, q < H.size → A1 q → A0 q) (hf : ∀ q, free q → A0 q) (hL : ∀ q ∈ L, free q.base) (hF : va_F A1 st₀ t) :
    H.size ≤ T'.heap.size ∧ (∀ q : Nat, q < H.size → ¬ A1 q → T'.heap[q]? = H[q]?) ∧ va_S A0 H0 T'.heap (locs ++ L) := by
  obtain ⟨hz, hk⟩ := hF
  rw [h0] at hz hk
  exact ⟨by rw [e1]; exact hz, fun q h1 h2 => by rw [e1]; exact hk q h1 h2,
    ⟨Nat.le_trans hS.1 (by rw [e1]; exact hz), fun q h1 h2 => by rw [e1, hk q (Nat.lt_of_lt_of_le h1 hS.1) (fun z => h2 (hA q (Nat.lt_of_lt_of_le h1 hS.1) z))]; exact hS.2.1 q h1 h2, fun q hq => by
      rcases List.mem_append.mp hq with h | h
      · exact hS.2.2 q h
      · exact hf _ (hL q h)⟩⟩
theorem vx_calli {S SX : Type} {post : Int32 → S → Prop} {px : SX → Prop} {B : S → State → Prop} {BX : String → SX → State → Prop} {AX : Nat → Prop} (hr : vx_Run p l e R s m args below meth c H locs cells slots mc ms (F0 m pc ls st0) rest (va_Qi post B A1 a) (vx_X px BX AX) free) (hS : va_S A0 H0 H locs) (hA : ∀ q, q < H.size → A1 q → A0 q) (hf : ∀ q, free q → A0 q) (hAX : ∀ q, q < H.size → AX q → A0 q)
    (kx : ∀ (E : String) (ce : Cell) (q9 : Addr) (u : SX) (t : State) (H1 : Heap) (locs1 : List Loc), t.heap = H1 → s.vm.Alike t.vm → px u → BX E u t → H.size ≤ H1.size → (∀ q : Nat, q < H.size → ¬ AX q → H1[q]? = H[q]?) → va_S A0 H0 H1 locs1 → H1[q9]? = some ce → ce.vm = .none → s.vm.findClass E = some ce.cls → vx_W p l e R s m args below meth c H1 locs1 (cells + mc) (slots + ms) Q (F0 m pc ls rest) q9)
    (kk : ∀ (r : Int32) (u : S) (t : State) (H1 : Heap) (locs1 : List Loc), t.heap = H1 → s.vm.Alike t.vm → post r u → B u t → H.size ≤ H1.size → (∀ q : Nat, q < H.size → ¬ A1 q → H1[q]? = H[q]?) → va_S A0 H0 H1 locs1 → W p l e R s m args below meth c H1 locs1 (cells + mc) (slots + ms) Q (F0 m (pc + 3) ls (.int r :: rest))) : W p l e R s m args below meth c H locs cells slots Q (F0 m pc ls st0) := by
  intro T hT X
  rcases hr T hT X with ⟨v, st₀, t, T', L, h0, X', hL, e1, e2, ⟨⟨r, u, hv, hp, hb⟩, hF⟩, st⟩ | ⟨q, st₀, t, T', L, E, ce, h0, X', hL, e1, e2, ⟨u, hp, hb, hF⟩, hce, hcv, hcl, st⟩
  · cases hv
    obtain ⟨k1, k2, k3⟩ := vx_keep h0 e1 hS hA hf hL hF
    obtain ⟨t2, a1, b1⟩ := kk r u t T'.heap (locs ++ L) e1.symm (by rw [← e2]; exact X'.warmed.alike) hp hb k1 k2 k3 T' rfl X'
    exact ⟨t2, st t2 a1, b1⟩
  · obtain ⟨k1, k2, k3⟩ := vx_keep h0 e1 hS hAX hf hL hF
    obtain ⟨t2, a1, b1⟩ := kx E ce q u t T'.heap (locs ++ L) e1.symm (by rw [← e2]; exact X'.warmed.alike) hp hb k1 k2 k3 (by rw [e1]; exact hce) hcv hcl T' rfl X'
    exact ⟨t2, st.trans a1, b1⟩
theorem vx_calll {S SX : Type} {post : Int64 → S → Prop} {px : SX → Prop} {B : S → State → Prop} {BX : String → SX → State → Prop} {AX : Nat → Prop} (hr : vx_Run p l e R s m args below meth c H locs cells slots mc ms (F0 m pc ls st0) rest (va_Ql post B A1 a) (vx_X px BX AX) free) (hS : va_S A0 H0 H locs) (hA : ∀ q, q < H.size → A1 q → A0 q) (hf : ∀ q, free q → A0 q) (hAX : ∀ q, q < H.size → AX q → A0 q)
    (kx : ∀ (E : String) (ce : Cell) (q9 : Addr) (u : SX) (t : State) (H1 : Heap) (locs1 : List Loc), t.heap = H1 → s.vm.Alike t.vm → px u → BX E u t → H.size ≤ H1.size → (∀ q : Nat, q < H.size → ¬ AX q → H1[q]? = H[q]?) → va_S A0 H0 H1 locs1 → H1[q9]? = some ce → ce.vm = .none → s.vm.findClass E = some ce.cls → vx_W p l e R s m args below meth c H1 locs1 (cells + mc) (slots + ms) Q (F0 m pc ls rest) q9)
    (kk : ∀ (r : Int64) (u : S) (t : State) (H1 : Heap) (locs1 : List Loc), t.heap = H1 → s.vm.Alike t.vm → post r u → B u t → H.size ≤ H1.size → (∀ q : Nat, q < H.size → ¬ A1 q → H1[q]? = H[q]?) → va_S A0 H0 H1 locs1 → W p l e R s m args below meth c H1 locs1 (cells + mc) (slots + ms) Q (F0 m (pc + 3) ls (.long r :: rest))) : W p l e R s m args below meth c H locs cells slots Q (F0 m pc ls st0) := by
  intro T hT X
  rcases hr T hT X with ⟨v, st₀, t, T', L, h0, X', hL, e1, e2, ⟨⟨r, u, hv, hp, hb⟩, hF⟩, st⟩ | ⟨q, st₀, t, T', L, E, ce, h0, X', hL, e1, e2, ⟨u, hp, hb, hF⟩, hce, hcv, hcl, st⟩
  · cases hv
    obtain ⟨k1, k2, k3⟩ := vx_keep h0 e1 hS hA hf hL hF
    obtain ⟨t2, a1, b1⟩ := kk r u t T'.heap (locs ++ L) e1.symm (by rw [← e2]; exact X'.warmed.alike) hp hb k1 k2 k3 T' rfl X'
    exact ⟨t2, st t2 a1, b1⟩
  · obtain ⟨k1, k2, k3⟩ := vx_keep h0 e1 hS hAX hf hL hF
    obtain ⟨t2, a1, b1⟩ := kx E ce q u t T'.heap (locs ++ L) e1.symm (by rw [← e2]; exact X'.warmed.alike) hp hb k1 k2 k3 (by rw [e1]; exact hce) hcv hcl T' rfl X'
    exact ⟨t2, st.trans a1, b1⟩
theorem vx_callf {S SX : Type} {post : UInt32 → S → Prop} {px : SX → Prop} {B : S → State → Prop} {BX : String → SX → State → Prop} {AX : Nat → Prop} (hr : vx_Run p l e R s m args below meth c H locs cells slots mc ms (F0 m pc ls st0) rest (va_Qf post B A1 a) (vx_X px BX AX) free) (hS : va_S A0 H0 H locs) (hA : ∀ q, q < H.size → A1 q → A0 q) (hf : ∀ q, free q → A0 q) (hAX : ∀ q, q < H.size → AX q → A0 q)
    (kx : ∀ (E : String) (ce : Cell) (q9 : Addr) (u : SX) (t : State) (H1 : Heap) (locs1 : List Loc), t.heap = H1 → s.vm.Alike t.vm → px u → BX E u t → H.size ≤ H1.size → (∀ q : Nat, q < H.size → ¬ AX q → H1[q]? = H[q]?) → va_S A0 H0 H1 locs1 → H1[q9]? = some ce → ce.vm = .none → s.vm.findClass E = some ce.cls → vx_W p l e R s m args below meth c H1 locs1 (cells + mc) (slots + ms) Q (F0 m pc ls rest) q9)
    (kk : ∀ (r : UInt32) (u : S) (t : State) (H1 : Heap) (locs1 : List Loc), t.heap = H1 → s.vm.Alike t.vm → post r u → B u t → H.size ≤ H1.size → (∀ q : Nat, q < H.size → ¬ A1 q → H1[q]? = H[q]?) → va_S A0 H0 H1 locs1 → W p l e R s m args below meth c H1 locs1 (cells + mc) (slots + ms) Q (F0 m (pc + 3) ls (.float r :: rest))) : W p l e R s m args below meth c H locs cells slots Q (F0 m pc ls st0) := by
  intro T hT X
  rcases hr T hT X with ⟨v, st₀, t, T', L, h0, X', hL, e1, e2, ⟨⟨r, u, hv, hp, hb⟩, hF⟩, st⟩ | ⟨q, st₀, t, T', L, E, ce, h0, X', hL, e1, e2, ⟨u, hp, hb, hF⟩, hce, hcv, hcl, st⟩
  · cases hv
    obtain ⟨k1, k2, k3⟩ := vx_keep h0 e1 hS hA hf hL hF
    obtain ⟨t2, a1, b1⟩ := kk r u t T'.heap (locs ++ L) e1.symm (by rw [← e2]; exact X'.warmed.alike) hp hb k1 k2 k3 T' rfl X'
    exact ⟨t2, st t2 a1, b1⟩
  · obtain ⟨k1, k2, k3⟩ := vx_keep h0 e1 hS hAX hf hL hF
    obtain ⟨t2, a1, b1⟩ := kx E ce q u t T'.heap (locs ++ L) e1.symm (by rw [← e2]; exact X'.warmed.alike) hp hb k1 k2 k3 (by rw [e1]; exact hce) hcv hcl T' rfl X'
    exact ⟨t2, st.trans a1, b1⟩
theorem vx_calld {S SX : Type} {post : UInt64 → S → Prop} {px : SX → Prop} {B : S → State → Prop} {BX : String → SX → State → Prop} {AX : Nat → Prop} (hr : vx_Run p l e R s m args below meth c H locs cells slots mc ms (F0 m pc ls st0) rest (va_Qd post B A1 a) (vx_X px BX AX) free) (hS : va_S A0 H0 H locs) (hA : ∀ q, q < H.size → A1 q → A0 q) (hf : ∀ q, free q → A0 q) (hAX : ∀ q, q < H.size → AX q → A0 q)
    (kx : ∀ (E : String) (ce : Cell) (q9 : Addr) (u : SX) (t : State) (H1 : Heap) (locs1 : List Loc), t.heap = H1 → s.vm.Alike t.vm → px u → BX E u t → H.size ≤ H1.size → (∀ q : Nat, q < H.size → ¬ AX q → H1[q]? = H[q]?) → va_S A0 H0 H1 locs1 → H1[q9]? = some ce → ce.vm = .none → s.vm.findClass E = some ce.cls → vx_W p l e R s m args below meth c H1 locs1 (cells + mc) (slots + ms) Q (F0 m pc ls rest) q9)
    (kk : ∀ (r : UInt64) (u : S) (t : State) (H1 : Heap) (locs1 : List Loc), t.heap = H1 → s.vm.Alike t.vm → post r u → B u t → H.size ≤ H1.size → (∀ q : Nat, q < H.size → ¬ A1 q → H1[q]? = H[q]?) → va_S A0 H0 H1 locs1 → W p l e R s m args below meth c H1 locs1 (cells + mc) (slots + ms) Q (F0 m (pc + 3) ls (.double r :: rest))) : W p l e R s m args below meth c H locs cells slots Q (F0 m pc ls st0) := by
  intro T hT X
  rcases hr T hT X with ⟨v, st₀, t, T', L, h0, X', hL, e1, e2, ⟨⟨r, u, hv, hp, hb⟩, hF⟩, st⟩ | ⟨q, st₀, t, T', L, E, ce, h0, X', hL, e1, e2, ⟨u, hp, hb, hF⟩, hce, hcv, hcl, st⟩
  · cases hv
    obtain ⟨k1, k2, k3⟩ := vx_keep h0 e1 hS hA hf hL hF
    obtain ⟨t2, a1, b1⟩ := kk r u t T'.heap (locs ++ L) e1.symm (by rw [← e2]; exact X'.warmed.alike) hp hb k1 k2 k3 T' rfl X'
    exact ⟨t2, st t2 a1, b1⟩
  · obtain ⟨k1, k2, k3⟩ := vx_keep h0 e1 hS hAX hf hL hF
    obtain ⟨t2, a1, b1⟩ := kx E ce q u t T'.heap (locs ++ L) e1.symm (by rw [← e2]; exact X'.warmed.alike) hp hb k1 k2 k3 (by rw [e1]; exact hce) hcv hcl T' rfl X'
    exact ⟨t2, st.trans a1, b1⟩
theorem vx_callv {S SX : Type} {post : S → Prop} {px : SX → Prop} {B : S → State → Prop} {BX : String → SX → State → Prop} {AX : Nat → Prop} (hr : vx_Run p l e R s m args below meth c H locs cells slots mc ms (F0 m pc ls st0) rest (va_Qv post B A1 a) (vx_X px BX AX) free) (hS : va_S A0 H0 H locs) (hA : ∀ q, q < H.size → A1 q → A0 q) (hf : ∀ q, free q → A0 q) (hAX : ∀ q, q < H.size → AX q → A0 q)
    (kx : ∀ (E : String) (ce : Cell) (q9 : Addr) (u : SX) (t : State) (H1 : Heap) (locs1 : List Loc), t.heap = H1 → s.vm.Alike t.vm → px u → BX E u t → H.size ≤ H1.size → (∀ q : Nat, q < H.size → ¬ AX q → H1[q]? = H[q]?) → va_S A0 H0 H1 locs1 → H1[q9]? = some ce → ce.vm = .none → s.vm.findClass E = some ce.cls → vx_W p l e R s m args below meth c H1 locs1 (cells + mc) (slots + ms) Q (F0 m pc ls rest) q9)
    (kk : ∀ (u : S) (t : State) (H1 : Heap) (locs1 : List Loc), t.heap = H1 → s.vm.Alike t.vm → post u → B u t → H.size ≤ H1.size → (∀ q : Nat, q < H.size → ¬ A1 q → H1[q]? = H[q]?) → va_S A0 H0 H1 locs1 → W p l e R s m args below meth c H1 locs1 (cells + mc) (slots + ms) Q (F0 m (pc + 3) ls (rest))) : W p l e R s m args below meth c H locs cells slots Q (F0 m pc ls st0) := by
  intro T hT X
  rcases hr T hT X with ⟨v, st₀, t, T', L, h0, X', hL, e1, e2, ⟨⟨u, hv, hp, hb⟩, hF⟩, st⟩ | ⟨q, st₀, t, T', L, E, ce, h0, X', hL, e1, e2, ⟨u, hp, hb, hF⟩, hce, hcv, hcl, st⟩
  · cases hv
    obtain ⟨k1, k2, k3⟩ := vx_keep h0 e1 hS hA hf hL hF
    obtain ⟨t2, a1, b1⟩ := kk u t T'.heap (locs ++ L) e1.symm (by rw [← e2]; exact X'.warmed.alike) hp hb k1 k2 k3 T' rfl X'
    exact ⟨t2, st t2 a1, b1⟩
  · obtain ⟨k1, k2, k3⟩ := vx_keep h0 e1 hS hAX hf hL hF
    obtain ⟨t2, a1, b1⟩ := kx E ce q u t T'.heap (locs ++ L) e1.symm (by rw [← e2]; exact X'.warmed.alike) hp hb k1 k2 k3 (by rw [e1]; exact hce) hcv hcl T' rfl X'
    exact ⟨t2, st.trans a1, b1⟩
/-- caught by the row x of this method's table; the rows ahead don't take it -/
theorem vx_catch {own name : String} {E : String} {ce : Cell} {q : Addr} (hown : s.vm.findClass own = some m.cls) (pre : List ExceptionTableEntry) (x : ExceptionTableEntry) (suf : List ExceptionTableEntry) (hsplit : c.exceptionTable.toList = pre ++ x :: suf)
    (hpass : ∀ z ∈ pre, covers z pc = false ∨ (z.catchType ≠ 0 ∧ ∃ nm : String, (Cond.classLink own z.catchType nm).before args s = true ∧ va_Nc E nm s)) (hx : covers x pc = true) (h0 : x.catchType ≠ 0)
    (hlink : (Cond.classLink own x.catchType name).before args s = true) (hcast : (Cond.castable E name).before args s = true) (hcell : H[q]? = some ce) (hv : ce.vm = .none) (hcl : s.vm.findClass E = some ce.cls)
    (kk : W p l e R s m args below meth c H locs cells slots Q (F0 m x.handlerPc ls [.ref q])) : vx_W p l e R s m args below meth c H locs cells slots Q (F0 m pc ls rest) q := by
  intro T hT X
  have hpl : e.platform.magicAccessors = ({} : Platform).magicAccessors := by rw [X.admits.platform]
  obtain ⟨c3, c4, hc3, hc4, hasg⟩ := Cond.castable_spec hcast
  cases Option.some.inj (hc3.symm.trans hcl)
  obtain ⟨c5, hc5, hcl5⟩ := Cond.classLink_spec hown hlink e.platform hpl
  cases Option.some.inj (hc4.symm.trans hc5)
  obtain ⟨vm', X', st⟩ := X.thenCaughtThrough q (g := F0 m pc ls rest) rfl (Steps.refl _) (by rw [hT]; exact hcell) (by rw [hv]; rfl) (by obtain ⟨k9, h9, -⟩ := Vm.findClass_spec hcl; exact ⟨k9, h9⟩) pre x suf hsplit
    (fun z hz => by
      rcases hpass z hz with h | ⟨hz0, nm, hl1, hn1⟩
      · exact Or.inl h
      · obtain ⟨c6, hc6, hcl6⟩ := Cond.classLink_spec hown hl1 e.platform hpl
        obtain ⟨a8, b8, h1, h2, h3⟩ := hn1
        cases Option.some.inj (h1.symm.trans hcl)
        cases Option.some.inj (h2.symm.trans hc6)
        exact Or.inr ⟨hz0, _, hcl6, h3⟩) hx (Or.inr ⟨h0, c4, hcl5, hasg⟩)
  obtain ⟨t, a1, b1⟩ := kk (T.setVm vm') hT X'
  exact ⟨t, st.trans a1, b1⟩
end Rows
section Ends
variable {p : Program} {l : Launch} {e : Env} {R : Room} {s : State} {m : MethodId} {args : Array Value} {below : List Frame} {meth : Method} {c : Code} {H : Heap} {locs : List Loc} {cells slots : Nat} {Q : State → Prop}
variable {mc ms : Nat} {free : Addr → Prop} {A0 A1 : Nat → Prop} {H0 : Heap} {a : Array Value} {ls : Array Slot} {st0 rest : List Value}
variable {Qc : Array Value → State → Outcome → State → Prop} {XC : String → State → State → Prop}
/-- what a body that may throw owes at its end -/
def vx_MQ (below : List Frame) (Qc : Array Value → State → Outcome → State → Prop) (XC : String → State → State → Prop) (a : Array Value) (s : State) (mc ms : Nat) (free : Addr → Prop) : State → Prop := fun t =>
  ∃ o, t.status = .running ∧ Ended t below o ∧ vx_Q Qc XC mc ms free a s o t
theorem vx_ret {g : JFrame} {mc ms : Nat} (k : W p l e R s m args below meth c H locs cells slots (MQ below Qc args s mc ms free) g) : W p l e R s m args below meth c H locs cells slots (vx_MQ below Qc XC args s mc ms free) g := by
  intro T hT X
  obtain ⟨t, a1, o, b1, b2, b3, b4⟩ := k T hT X
  exact ⟨t, a1, o, b1, b2, Or.inl ⟨b3, b4⟩⟩
/-- not caught here: it goes on to the caller -/
theorem vx_widen {g : JFrame} {q : Addr} {k n : Nat} (h1 : cells ≤ k) (h2 : slots ≤ n) (kk : vx_W p l e R s m args below meth c H locs k n Q g q) : vx_W p l e R s m args below meth c H locs cells slots Q g q := fun T hT X => kk T hT (stand_widen X h1 h2)
theorem vx_out {pc : Nat} {E : String} {ce : Cell} {q : Addr} {mc ms : Nat} (hout : ∀ x ∈ c.exceptionTable.toList, covers x pc = false) (hlocks : meth.locks = false) (hcell : H[q]? = some ce) (hv : ce.vm = .none) (hcl : s.vm.findClass E = some ce.cls)
    (hx : ∀ t : State, t.heap = H → s.vm.Alike t.vm → XC E s t) (hf : ∀ z ∈ locs, free z.base) (hc : cells ≤ mc) (hs : slots ≤ ms) :
    vx_W p l e R s m args below meth c H locs cells slots (vx_MQ below Qc XC args s mc ms free) (F0 m pc ls rest) q := by
  intro T hT X
  obtain ⟨st1, hrun, hend, hW, hsm⟩ := X.leaveThrown q (g := F0 m pc ls rest) rfl rfl rfl hout hlocks
  have hcell9 : (T.setFrames (.throwing q :: below)).heap[q]? = some ce := by
    show T.heap[q]? = some ce
    rw [hT]; exact hcell
  exact ⟨_, st1, .threw q, hrun, hend, Or.inr ⟨q, rfl, E, ce, locs, hx _ hT hW.alike, hcell9, hv, hcl, hW, hsm.mono hc hs, hf⟩⟩
theorem vx_frame {U : State} {k n : Nat} (h : s.sameButNew ({ U with vm := s.vm } : State) locs k n) : s.heap.size ≤ U.heap.size ∧ ∀ q : Nat, q < s.heap.size → (∀ z ∈ locs, z.base ≠ q) → U.heap[q]? = s.heap[q]? := by
  obtain ⟨-, h2, -, -, -, h6⟩ := h
  refine ⟨h2, fun q hq hz => ?_⟩
  obtain ⟨c9, e1, e2, e3, e4⟩ := h6 q _ (Array.getElem?_eq_getElem hq)
  have hs : c9.slots = (s.heap[q]).slots := Array.ext_getElem? fun i => e4 i fun hm => hz _ hm rfl
  have h9 : c9 = s.heap[q] := by
    rw [hs] at e2
    exact e2
  have e5 : U.heap[q]? = some c9 := e1
  rw [e5, h9, Array.getElem?_eq_getElem hq]
/-- the words of a throw but the four that speak of the heap -/
def vx_no (w : Cond) : Bool := decide (w ≠ .isRef (.static Bundle.tN "UNASSIGNED_STACK" Bundle.steD)) && decide (w ≠ .isRef (.static Bundle.tN "SUPPRESSED_SENTINEL" Bundle.listD)) && decide (w ≠ .laysStatic Bundle.tN "UNASSIGNED_STACK" Bundle.steD) && decide (w ≠ .laysStatic Bundle.tN "SUPPRESSED_SENTINEL" Bundle.listD)
def vx_at0 (own : String) (ic : Nat) (X : String) (names : List String) : List Cond := (Bundle.ownAtoms0 own ic X names).filter vx_no
def vx_atS (own : String) (ic : Nat) (X : String) (names : List String) : List Cond := (Bundle.ownAtoms own ic X names).filter vx_no
/-- a word that the tables alone decide, or a good one -/
def vx_ot (w : Cond) : Bool := w.onTables || goodWord w
theorem vx_ot_at {args a' : Array Value} {s U : State} {w : Cond} (hW : s.WarmedH U.vm) (hvm : s.vm = U.vm) (hg : vx_ot w = true) (h : w.before args s = true) : w.before a' U = true := by
  simp only [vx_ot, Bool.or_eq_true] at hg
  rcases hg with hg | hg
  · exact va_tabs hg hvm h
  · exact word_at hW (good_of_word hg) h
/-- a list's words: the good ones out of the method's own list, the others by premises of their own -/
theorem vx_hat {args : Array Value} {s : State} {L B : List Cond} (h1 : ∀ w ∈ L.filter goodWord, w.before args s = true) (h2 : ∀ w ∈ L.filter (fun w => !goodWord w), w ∈ B) (h3 : ∀ w ∈ B, w.before args s = true) : ∀ w ∈ L, w.before args s = true := by
  intro w hw
  by_cases g : goodWord w = true
  · exact h1 w (List.mem_filter.mpr ⟨hw, g⟩)
  · refine h3 w (h2 w (List.mem_filter.mpr ⟨hw, ?_⟩))
    show (!goodWord w) = true
    cases hgw : goodWord w
    · rfl
    · exact absurd hgw g
theorem vx_c {args : Array Value} {s : State} {w : Cond} {B : List Cond} (h : w.before args s = true) (t : ∀ w ∈ B, w.before args s = true) : ∀ w' ∈ w :: B, w'.before args s = true := fun w' h' => (List.mem_cons.mp h').elim (fun e => by rw [e]; exact h) (t w')
theorem vx_n {args : Array Value} {s : State} : ∀ w ∈ ([] : List Cond), w.before args s = true := fun _ h => nomatch h
theorem vx_own {args : Array Value} {s : State} {L : List Cond} (h1 : ∀ w ∈ L.filter vx_no, w.before args s = true)
    (hU : (Cond.isRef (.static Bundle.tN "UNASSIGNED_STACK" Bundle.steD)).before args s = true) (hN : (Cond.isRef (.static Bundle.tN "SUPPRESSED_SENTINEL" Bundle.listD)).before args s = true)
    (lU : (Cond.laysStatic Bundle.tN "UNASSIGNED_STACK" Bundle.steD).before args s = true) (lN : (Cond.laysStatic Bundle.tN "SUPPRESSED_SENTINEL" Bundle.listD).before args s = true) : ∀ w ∈ L, w.before args s = true := by
  intro w hw
  by_cases e1 : w = .isRef (.static Bundle.tN "UNASSIGNED_STACK" Bundle.steD)
  · rw [e1]; exact hU
  · by_cases e2 : w = .isRef (.static Bundle.tN "SUPPRESSED_SENTINEL" Bundle.listD)
    · rw [e2]; exact hN
    · by_cases e3 : w = .laysStatic Bundle.tN "UNASSIGNED_STACK" Bundle.steD
      · rw [e3]; exact lU
      · by_cases e4 : w = .laysStatic Bundle.tN "SUPPRESSED_SENTINEL" Bundle.listD
        · rw [e4]; exact lN
        · exact h1 w (List.mem_filter.mpr ⟨hw, by unfold vx_no; rw [decide_eq_true e1, decide_eq_true e2, decide_eq_true e3, decide_eq_true e4]; rfl⟩)
/-- where a static field lies, its class's statics cell in H -/
def vx_L (C n d : String) (A : Nat → Prop) (U : State) (H : Heap) : Prop := ∃ (c : ClassId) (k : Class) (i : Nat) (f : Field) (a : Nat) (cell : Cell), U.vm.findClass C = some c ∧ U.fieldFound? C n d = some (c, k, i, f) ∧ f.isStatic = true ∧ k.statics = some a ∧ H[a]? = some cell ∧ cell.vm.isStatics = true ∧ cell.cls = c ∧ f.slot < cell.slots.size ∧ k.staticTypes[f.slot]? = some f.type ∧ ¬ A a
theorem vx_L.moved {C n d : String} {A : Nat → Prop} {u U : State} {H : Heap} (hvm : u.vm.Alike U.vm) (h : vx_L C n d A u H) : vx_L C n d A U H := by
  obtain ⟨c, k, i, f, a, cell, h1, h2, h3, h4, h5, h6, h7, h8, h9, h10⟩ := h
  obtain ⟨k', hi', he⟩ := State.fieldFound?_setVm hvm h2
  exact ⟨c, k', i, f, a, cell, by rw [hvm.findClass]; exact h1, hi', h3, by rw [he]; exact h4, h5, h6, h7, h8, by rw [he]; exact h9, h10⟩
theorem vx_L.kept {C n d : String} {A : Nat → Prop} {U : State} {H H1 : Heap} (h : vx_L C n d A U H) (hq : ∀ a : Nat, a < H.size → ¬ A a → H1[a]? = H[a]?) : vx_L C n d A U H1 := by
  obtain ⟨c, k, i, f, a, cell, h1, h2, h3, h4, h5, h6, h7, h8, h9, h10⟩ := h
  exact ⟨c, k, i, f, a, cell, h1, h2, h3, h4, by rw [hq a (Array.getElem?_eq_some_iff.mp h5).1 h10]; exact h5, h6, h7, h8, h9, h10⟩
theorem vx_L.narrow {C n d : String} {A B : Nat → Prop} {U : State} {H : Heap} (h : vx_L C n d A U H) (hAB : ∀ q, B q → A q) : vx_L C n d B U H := by
  obtain ⟨c, k, i, f, a, cell, h1, h2, h3, h4, h5, h6, h7, h8, h9, h10⟩ := h
  exact ⟨c, k, i, f, a, cell, h1, h2, h3, h4, h5, h6, h7, h8, h9, fun z => h10 (hAB _ z)⟩
theorem vx_L.word {C n d : String} {A : Nat → Prop} {s : State} {args : Array Value} (h : vx_L C n d A s s.heap) : (Cond.laysStatic C n d).before args s = true := by
  obtain ⟨c, k, i, f, a, cell, h1, h2, h3, h4, h5, h6, h7, h8, h9, -⟩ := h
  show (Cond.laysStatic C n d).holds args s none s [] = true
  exact Cond.laysStatic_of h1 h2 h3 h4 h5 h6 h7 h8 h9
/-- .. and what it holds: null or some reference -/
def vx_Zq (C n d : String) (A : Nat → Prop) (U : State) (H : Heap) : Prop := va_Zq C n d A U H ∧ vx_L C n d A U H
theorem vx_Zq.moved {C n d : String} {A : Nat → Prop} {u U : State} {H : Heap} (hvm : u.vm.Alike U.vm) (h : vx_Zq C n d A u H) : vx_Zq C n d A U H := ⟨va_Zq.moved hvm h.1, vx_L.moved hvm h.2⟩
theorem vx_Zq.kept {C n d : String} {A : Nat → Prop} {U : State} {H H1 : Heap} (h : vx_Zq C n d A U H) (hq : ∀ a : Nat, a < H.size → ¬ A a → H1[a]? = H[a]?) : vx_Zq C n d A U H1 := ⟨va_Zq.kept h.1 hq, vx_L.kept h.2 hq⟩
theorem vx_Zq.narrow {C n d : String} {A B : Nat → Prop} {U : State} {H : Heap} (h : vx_Zq C n d A U H) (hAB : ∀ q, B q → A q) : vx_Zq C n d B U H := ⟨va_Zq.narrow h.1 hAB, vx_L.narrow h.2 hAB⟩
theorem vx_Zqof {args : Array Value} {s : State} {C n d : String} {A : Nat → Prop} (hl : (Cond.laysStatic C n d).before args s = true) (hini : (Cond.initialized C).before args s = true) (h : (Cond.isRef (.static C n d)).before args s = true) (hA : ∀ a : Nat, a < s.heap.size → ¬ A a) : vx_Zq C n d A s s.heap := by
  refine ⟨va_Zqof hl hini h hA, ?_⟩
  obtain ⟨c, k, i, f, a, cell, h1, h2, h3, h4, h5, h6, h7, h8, h9⟩ := Cond.laysStatic_spec hl
  exact ⟨c, k, i, f, a, cell, h1, h2, h3, h4, h5, h6, h7, h8, h9, hA a (Array.getElem?_eq_some_iff.mp h5).1⟩
theorem vx_isRef {C n d : String} {v : Value} {A : Nat → Prop} {s : State} {args : Array Value} (h : va_Z C n d v A s s.heap) (hv : v.isRef = true) : (Cond.isRef (.static C n d)).before args s = true := by
  obtain ⟨cf, kf, fi, f, a, cell, h1, h2, h3, h4, h5, h6, h7, -⟩ := h
  have he : (Term.static C n d).eval args s none [] s = some v := by
    simp [Term.eval, State.fieldNamed?, h1, h2, h4, h5, h6, h7]
  simp only [Cond.before, Cond.holds, Cond.value, he]
  cases v <;> simp_all [Value.isRef]
theorem vx_isRefq {C n d : String} {A : Nat → Prop} {s : State} {args : Array Value} (h : va_Zq C n d A s s.heap) : (Cond.isRef (.static C n d)).before args s = true := by
  rcases h with h | ⟨t, h⟩
  · exact vx_isRef h rfl
  · exact vx_isRef h rfl
/-- the same frame, seen from here: as if the method were called anew in this heap -/
theorem vx_rebase {T : State} (X : Stand p l e R s m args below meth c T locs cells slots) {R' : Room} (hf : R'.frames ≤ R.frames) (hl : R'.locals ≤ R.locals) (hc : cells + R'.cells ≤ R.cells) (hs : slots + R'.slots ≤ R.slots) :
    Stand p l e R' ((T.setVm s.vm).setFrames (.invoking m args :: below)) m args below meth c T [] 0 0 := by
  have htop : (T.setVm s.vm).topJava?.isSome := X.here.top
  have hF : ((T.setVm s.vm).setFrames (.invoking m args :: below)).frames = .invoking m args :: below := State.frames_setFrames _ (State.cur_lt_of_top htop)
  obtain ⟨g₀, hg0⟩ := Option.isSome_iff_exists.mp htop
  obtain ⟨r, hr⟩ := State.topJava?_eq_some.mp hg0
  have hl9 : e.platform.stackLimits (T.setVm s.vm).me = e.platform.stackLimits s.me := X.limits
  have hb9 : (T.setVm s.vm).me.stackBytes = s.me.stackBytes := X.bytes
  refine ⟨X.admits, X.cas, X.clock, hF, ?_, X.hears, X.method, X.code, X.here, X.tail, X.warmed, ?_, ?_, ?_⟩
  · have h := X.room
    have hU : ((T.setVm s.vm).setFrames (.invoking m args :: below)).localsInUse = s.localsInUse := by
      rw [State.localsInUse_invoking hF (meth := meth) (c := c) X.method X.code, State.localsInUse_invoking X.frames X.method X.code]
    simp only [State.hasRoom, Bool.and_eq_true, decide_eq_true_eq] at h ⊢
    obtain ⟨⟨⟨⟨h1, h2, h3, h4, h5, h6⟩, h7⟩, h8⟩, h9⟩ := h
    rw [X.frames, List.length_cons] at h2 h3
    have q1 := X.heapSize
    have q2 := X.used
    simp only [hF, hU, List.length_cons, State.stackLimits_setFrames, State.stackBytes_setFrames, hl9, hb9]
    refine ⟨⟨⟨⟨by omega, by omega, by omega, by omega, by omega, h6⟩, ?_⟩, ?_⟩, X.book⟩
    · show T.heap.size + R'.cells ≤ e.platform.maxCells
      omega
    · show T.slotsUsed + R'.slots ≤ e.platform.maxSlots
      omega
  · rw [State.stackLimits_setFrames]; rfl
  · rw [State.stackBytes_setFrames]; rfl
  · refine ⟨?_, Nat.le_refl _, Nat.le_refl _, ?_, ?_, fun a c9 h9 => ⟨c9, h9, rfl, rfl, fun _ _ => rfl⟩⟩
    · obtain ⟨t, ht, -⟩ := State.frames_cons hr
      show T.setVm s.vm = { ((T.setVm s.vm).setFrames (.invoking m args :: below)).setFrames (T.setVm s.vm).frames with heap := T.heap, slotsUsed := T.slotsUsed }
      rw [State.setFrames_setFrames, State.setFrames_self ht]
      rfl
    · show T.slotsUsed = T.slotsUsed + ((T.heap.toList.drop T.heap.size).map (·.slots.size)).sum
      rw [List.drop_eq_nil_of_le (Nat.le_of_eq Array.length_toList)]
      rfl
    · show ((T.heap.toList.drop T.heap.size).map (·.slots.size)).sum ≤ 0
      rw [List.drop_eq_nil_of_le (Nat.le_of_eq Array.length_toList)]
      exact Nat.le_refl _
/-- 'throw new E()': new; dup; invokespecial; athrow -/
theorem vx_throw0 {cc : ByteArray} {pc : Nat} (hexec : p.tables.exec = Jvm.exec) (hb : c.code = cc) (hl : l.stackTraces = false) {own cls : String} {names : List String} {ik ic mc ms : Nat} {A : Nat → Prop}
    (hown : s.vm.findClass own = some m.cls) (hcls : Bundle.fit cls = true) (hnames : ∀ n ∈ names, Bundle.fit n = true)
    (hk : (Cond.classLink own ik cls).before args s = true) (hini : (Cond.initialized cls).before args s = true) (hat : ∀ w ∈ vx_at0 own ic cls names, w.before args s = true)
    (hgood : ∀ w ∈ Cond.classLink own ik cls :: Cond.initialized cls :: vx_at0 own ic cls names, vx_ot w = true)
    (hU : vx_Zq Bundle.tN "UNASSIGNED_STACK" Bundle.steD A s s.heap) (hN : vx_Zq Bundle.tN "SUPPRESSED_SENTINEL" Bundle.listD A s s.heap) (hS : va_S A s.heap H locs) (hsize : ls.size = c.maxLocals)
    (d0 : decode cc pc = .ok (.new ik, 3)) (d3 : decode cc (pc + 3) = .ok (.dup, 1)) (d4 : decode cc (pc + 4) = .ok (.invokespecial ic, 3)) (d7 : decode cc (pc + 7) = .ok (.athrow, 1))
    (hout : ∀ x ∈ c.exceptionTable.toList, covers x (pc + 7) = false)
    (hRframes : names.length + 3 < R.frames) (hRlocals : (rest.map fun v => v.category).sum + (13 * (names.length + 1) + 42) ≤ R.locals) (hRcells : cells + 1 ≤ R.cells) (hRslots : slots + 6 ≤ R.slots) (hlocks : meth.locks = false)
    (hx : ∀ t : State, s.vm.Alike t.vm → H.size ≤ t.heap.size → (∀ q : Nat, q < H.size → t.heap[q]? = H[q]?) → XC cls s t)
    (hf : ∀ z ∈ locs, free z.base) (hc : cells + 1 ≤ mc) (hs : slots + 6 ≤ ms) :
    W p l e R s m args below meth c H locs cells slots (vx_MQ below Qc XC args s mc ms free) (F0 m pc ls rest) := by
  intro T hT X
  have htr : e.platform.stackTraces = false := (show e.platform.stackTraces = l.stackTraces by rw [X.admits.platform]).trans hl
  have Y := vx_rebase X (R' := { frames := R.frames, locals := R.locals, cells := 1, slots := 6 }) (Nat.le_refl _) (Nat.le_refl _) hRcells hRslots
  obtain ⟨s', hA⟩ : ∃ z, z = (T.setVm s.vm).setFrames (.invoking m args :: below) := ⟨_, rfl⟩
  rw [← hA] at Y
  have hvm : s'.vm = s.vm := by rw [hA]; rfl
  have hhp : s'.heap = H := by rw [hA]; exact hT
  have hW0 : s.WarmedH s'.vm := by rw [hvm]; exact State.WarmedH.refl s
  have hat' : ∀ w ∈ vx_at0 own ic cls names, w.before args s' = true := fun w hw => vx_ot_at hW0 hvm.symm (hgood w (List.mem_cons_of_mem _ (List.mem_cons_of_mem _ hw))) (hat w hw)
  have hk' : (Cond.classLink own ik cls).before args s' = true := vx_ot_at hW0 hvm.symm (hgood _ List.mem_cons_self) hk
  have hini' : (Cond.initialized cls).before args s' = true := vx_ot_at hW0 hvm.symm (hgood _ (List.mem_cons_of_mem _ List.mem_cons_self)) hini
  have hU' : vx_Zq Bundle.tN "UNASSIGNED_STACK" Bundle.steD A s' s'.heap := by rw [hhp]; exact vx_Zq.moved hW0.alike (hU.kept hS.2.1)
  have hN' : vx_Zq Bundle.tN "SUPPRESSED_SENTINEL" Bundle.listD A s' s'.heap := by rw [hhp]; exact vx_Zq.moved hW0.alike (hN.kept hS.2.1)
  have h : ∀ w ∈ Bundle.ownAtoms0 own ic cls names, w.before args s' = true := vx_own hat' (vx_isRefq hU'.1) (vx_isRefq hN'.1) hU'.2.word hN'.2.word
  have hown' : s'.vm.findClass own = some m.cls := by rw [hvm]; exact hown
  have hins : (Cond.instantiable cls 6).before args s' = true := h _ (by simp [Bundle.ownAtoms0])
  obtain ⟨vm₁, cX, kX, hfX, hkX, -, -, X₁, st1⟩ := Y.newCold hexec (own := own) (C := cls) (index := ik) (n := 6) hown' hk' hins hini'
    (g := F0 m pc ls rest) rfl (by rw [hb]; exact d0) (Nat.le_refl _) (Nat.le_refl _)
  generalize hT1 : (T.setVm vm₁).pushCell { cls := cX, slots := kX.instanceTypes.map defaultValue, vm := .none } = T1 at X₁ st1
  have hcat : (Value.ref T.heap.size).category = 1 := rfl
  have hcellA : T1.heap[T.heap.size]? = some (freshCell cX kX) := by rw [← hT1]; exact State.heap_pushCell_size _ _
  have d3' : decode c.code (pc + 3) = .ok (.dup, 1) := by rw [hb]; exact d3
  obtain ⟨U, hsteps, hrun, hend, hW, hsame, ce, hce, hO⟩ := X₁.ctorThrow0 hexec htr (own := own) (cls := cls) (names := names) (ic := ic) hown' hcls hnames h (fun x hx => nomatch hx) hfX hkX hcellA (by rw [hhp, hT]; exact Nat.le_refl _)
    (g := { method := m, pc := pc + 4, locals := ls, stack := .ref T.heap.size :: .ref T.heap.size :: rest, locked := none }) rfl hsize rfl rfl (rest := rest) rfl
    (by rw [hb]; exact d4) (by rw [hb]; exact d7) hout hRframes (by simp only [List.map_cons, List.sum_cons, hcat]; omega) hlocks
  obtain ⟨f1, f2⟩ := vx_frame hsame
  rw [hhp] at f1 f2
  have hWs : s.WarmedH U.vm := State.WarmedH.trans hW0 hW
  have hcl : s.vm.findClass cls = some ce.cls := by
    have h9 := hO.cls
    rw [hvm] at h9
    exact h9
  have hall : s.sameButNew ({ U with vm := s.vm } : State) locs mc ms := by
    subst hA
    obtain ⟨e1, e2⟩ := hsame
    rw [State.setFrames_setFrames] at e1
    have h2 : (T.setVm s.vm).sameButNew ({ U with vm := s.vm } : State) [] (0 + 1) (0 + 6) := ⟨e1, e2⟩
    have h3 := X.same.trans h2
    rw [List.append_nil] at h3
    exact h3.mono hc hs
  refine ⟨U, ?_, .threw T.heap.size, hrun, hend, Or.inr ⟨T.heap.size, rfl, cls, ce, locs, hx U hWs.alike f1 (fun q hq => f2 q hq (fun z hz => nomatch hz)), hce, hO.vm, hcl, hWs, hall, hf⟩⟩
  refine st1 _ ?_
  show Steps p.tables e below (T1.setTop { method := m, pc := pc + 3, locals := ls, stack := .ref T.heap.size :: rest, locked := none }) _
  jvm_step X₁.here [X₁.here.top, hexec, d3', Value.category]
  exact hsteps
/-- 'throw new E("text")': new; dup; ldc; invokespecial; athrow -/
theorem vx_throwS {cc : ByteArray} {pc : Nat} (hexec : p.tables.exec = Jvm.exec) (hb : c.code = cc) (hl : l.stackTraces = false) {own cls text : String} {names : List String} {ik is ic mc ms sa : Nat} {A : Nat → Prop}
    (hown : s.vm.findClass own = some m.cls) (hcls : Bundle.fit cls = true) (hnames : ∀ n ∈ names, Bundle.fit n = true)
    (hk : (Cond.classLink own ik cls).before args s = true) (hini : (Cond.initialized cls).before args s = true) (hstr : vk_R own is text sa s) (hat : ∀ w ∈ vx_atS own ic cls names, w.before args s = true)
    (hgood : ∀ w ∈ Cond.classLink own ik cls :: Cond.initialized cls :: vx_atS own ic cls names, vx_ot w = true)
    (hU : vx_Zq Bundle.tN "UNASSIGNED_STACK" Bundle.steD A s s.heap) (hN : vx_Zq Bundle.tN "SUPPRESSED_SENTINEL" Bundle.listD A s s.heap) (hS : va_S A s.heap H locs) (hsize : ls.size = c.maxLocals)
    (d0 : decode cc pc = .ok (.new ik, 3)) (d3 : decode cc (pc + 3) = .ok (.dup, 1)) (d4 : decode cc (pc + 4) = .ok (.ldc is, 2)) (d6 : decode cc (pc + 6) = .ok (.invokespecial ic, 3)) (d9 : decode cc (pc + 9) = .ok (.athrow, 1))
    (hout : ∀ x ∈ c.exceptionTable.toList, covers x (pc + 9) = false)
    (hRframes : names.length + 3 < R.frames) (hRlocals : (rest.map fun v => v.category).sum + (13 * (names.length + 1) + 43) ≤ R.locals) (hRcells : cells + 1 ≤ R.cells) (hRslots : slots + 6 ≤ R.slots) (hlocks : meth.locks = false)
    (hx : ∀ t : State, s.vm.Alike t.vm → H.size ≤ t.heap.size → (∀ q : Nat, q < H.size → t.heap[q]? = H[q]?) → XC cls s t)
    (hf : ∀ z ∈ locs, free z.base) (hc : cells + 1 ≤ mc) (hs : slots + 6 ≤ ms) :
    W p l e R s m args below meth c H locs cells slots (vx_MQ below Qc XC args s mc ms free) (F0 m pc ls rest) := by
  intro T hT X
  have htr : e.platform.stackTraces = false := (show e.platform.stackTraces = l.stackTraces by rw [X.admits.platform]).trans hl
  have Y := vx_rebase X (R' := { frames := R.frames, locals := R.locals, cells := 1, slots := 6 }) (Nat.le_refl _) (Nat.le_refl _) hRcells hRslots
  obtain ⟨s', hA⟩ : ∃ z, z = (T.setVm s.vm).setFrames (.invoking m args :: below) := ⟨_, rfl⟩
  rw [← hA] at Y
  have hvm : s'.vm = s.vm := by rw [hA]; rfl
  have hhp : s'.heap = H := by rw [hA]; exact hT
  have hW0 : s.WarmedH s'.vm := by rw [hvm]; exact State.WarmedH.refl s
  have hat' : ∀ w ∈ vx_atS own ic cls names, w.before args s' = true := fun w hw => vx_ot_at hW0 hvm.symm (hgood w (List.mem_cons_of_mem _ (List.mem_cons_of_mem _ hw))) (hat w hw)
  have hk' : (Cond.classLink own ik cls).before args s' = true := vx_ot_at hW0 hvm.symm (hgood _ List.mem_cons_self) hk
  have hini' : (Cond.initialized cls).before args s' = true := vx_ot_at hW0 hvm.symm (hgood _ (List.mem_cons_of_mem _ List.mem_cons_self)) hini
  have hU' : vx_Zq Bundle.tN "UNASSIGNED_STACK" Bundle.steD A s' s'.heap := by rw [hhp]; exact vx_Zq.moved hW0.alike (hU.kept hS.2.1)
  have hN' : vx_Zq Bundle.tN "SUPPRESSED_SENTINEL" Bundle.listD A s' s'.heap := by rw [hhp]; exact vx_Zq.moved hW0.alike (hN.kept hS.2.1)
  have h : ∀ w ∈ Bundle.ownAtoms own ic cls names, w.before args s' = true := vx_own hat' (vx_isRefq hU'.1) (vx_isRefq hN'.1) hU'.2.word hN'.2.word
  have hown' : s'.vm.findClass own = some m.cls := by rw [hvm]; exact hown
  have hins : (Cond.instantiable cls 6).before args s' = true := h _ (by simp [Bundle.ownAtoms])
  obtain ⟨vm₁, cX, kX, hfX, hkX, -, -, X₁, st1⟩ := Y.newCold hexec (own := own) (C := cls) (index := ik) (n := 6) hown' hk' hins hini'
    (g := F0 m pc ls rest) rfl (by rw [hb]; exact d0) (Nat.le_refl _) (Nat.le_refl _)
  generalize hT1 : (T.setVm vm₁).pushCell { cls := cX, slots := kX.instanceTypes.map defaultValue, vm := .none } = T1 at X₁ st1
  have hcat : (Value.ref T.heap.size).category = 1 := rfl
  have hcellA : T1.heap[T.heap.size]? = some (freshCell cX kX) := by rw [← hT1]; exact State.heap_pushCell_size _ _
  have d3' : decode c.code (pc + 3) = .ok (.dup, 1) := by rw [hb]; exact d3
  have d4' : decode c.code (pc + 4) = .ok (.ldc is, 2) := by rw [hb]; exact d4
  have hstr' : vk_R own is text sa s' := vk_R.warm hW0 hstr
  obtain ⟨U, hsteps, hrun, hend, hW, hsame, ce, hce, hO⟩ := X₁.ctorThrowS hexec htr (own := own) (cls := cls) (names := names) (ic := ic) hown' hcls hnames h (fun x hx => nomatch hx) hfX hkX hcellA (by rw [hhp, hT]; exact Nat.le_refl _) (msg := .ref sa) rfl
    (g := { method := m, pc := pc + 6, locals := ls, stack := .ref sa :: .ref T.heap.size :: .ref T.heap.size :: rest, locked := none }) rfl hsize rfl rfl (rest := rest) rfl
    (by rw [hb]; exact d6) (by rw [hb]; exact d9) hout hRframes (by simp only [List.map_cons, List.sum_cons, hcat]; omega) hlocks
  obtain ⟨f1, f2⟩ := vx_frame hsame
  rw [hhp] at f1 f2
  have hWs : s.WarmedH U.vm := State.WarmedH.trans hW0 hW
  have hcl : s.vm.findClass cls = some ce.cls := by
    have h9 := hO.cls
    rw [hvm] at h9
    exact h9
  have hall : s.sameButNew ({ U with vm := s.vm } : State) locs mc ms := by
    subst hA
    obtain ⟨e1, e2⟩ := hsame
    rw [State.setFrames_setFrames] at e1
    have h2 : (T.setVm s.vm).sameButNew ({ U with vm := s.vm } : State) [] (0 + 1) (0 + 6) := ⟨e1, e2⟩
    have h3 := X.same.trans h2
    rw [List.append_nil] at h3
    exact h3.mono hc hs
  refine ⟨U, ?_, .threw T.heap.size, hrun, hend, Or.inr ⟨T.heap.size, rfl, cls, ce, locs, hx U hWs.alike f1 (fun q hq => f2 q hq (fun z hz => nomatch hz)), hce, hO.vm, hcl, hWs, hall, hf⟩⟩
  refine st1 _ ?_
  show Steps p.tables e below (T1.setTop { method := m, pc := pc + 3, locals := ls, stack := .ref T.heap.size :: rest, locked := none }) _
  jvm_step X₁.here [X₁.here.top, hexec, d3', Value.category]
  exact X₁.ldcString hexec (own := own) (text := text) (index := is) (a := sa) hown' hstr'.1 hstr'.2
    (g := { method := m, pc := pc + 4, locals := ls, stack := .ref T.heap.size :: .ref T.heap.size :: rest, locked := none }) rfl d4' _ hsteps
/-- 'throw new E("text")', the text by a wide index -/
theorem vx_throwSW {cc : ByteArray} {pc : Nat} (hexec : p.tables.exec = Jvm.exec) (hb : c.code = cc) (hl : l.stackTraces = false) {own cls text : String} {names : List String} {ik is ic mc ms sa : Nat} {A : Nat → Prop}
    (hown : s.vm.findClass own = some m.cls) (hcls : Bundle.fit cls = true) (hnames : ∀ n ∈ names, Bundle.fit n = true)
    (hk : (Cond.classLink own ik cls).before args s = true) (hini : (Cond.initialized cls).before args s = true) (hstr : vk_R own is text sa s) (hat : ∀ w ∈ vx_atS own ic cls names, w.before args s = true)
    (hgood : ∀ w ∈ Cond.classLink own ik cls :: Cond.initialized cls :: vx_atS own ic cls names, vx_ot w = true)
    (hU : vx_Zq Bundle.tN "UNASSIGNED_STACK" Bundle.steD A s s.heap) (hN : vx_Zq Bundle.tN "SUPPRESSED_SENTINEL" Bundle.listD A s s.heap) (hS : va_S A s.heap H locs) (hsize : ls.size = c.maxLocals)
    (d0 : decode cc pc = .ok (.new ik, 3)) (d3 : decode cc (pc + 3) = .ok (.dup, 1)) (d4 : decode cc (pc + 4) = .ok (.ldc_w is, 3)) (d7 : decode cc (pc + 7) = .ok (.invokespecial ic, 3)) (d10 : decode cc (pc + 10) = .ok (.athrow, 1))
    (hout : ∀ x ∈ c.exceptionTable.toList, covers x (pc + 10) = false)
    (hRframes : names.length + 3 < R.frames) (hRlocals : (rest.map fun v => v.category).sum + (13 * (names.length + 1) + 43) ≤ R.locals) (hRcells : cells + 1 ≤ R.cells) (hRslots : slots + 6 ≤ R.slots) (hlocks : meth.locks = false)
    (hx : ∀ t : State, s.vm.Alike t.vm → H.size ≤ t.heap.size → (∀ q : Nat, q < H.size → t.heap[q]? = H[q]?) → XC cls s t)
    (hf : ∀ z ∈ locs, free z.base) (hc : cells + 1 ≤ mc) (hs : slots + 6 ≤ ms) :
    W p l e R s m args below meth c H locs cells slots (vx_MQ below Qc XC args s mc ms free) (F0 m pc ls rest) := by
  intro T hT X
  have htr : e.platform.stackTraces = false := (show e.platform.stackTraces = l.stackTraces by rw [X.admits.platform]).trans hl
  have Y := vx_rebase X (R' := { frames := R.frames, locals := R.locals, cells := 1, slots := 6 }) (Nat.le_refl _) (Nat.le_refl _) hRcells hRslots
  obtain ⟨s', hA⟩ : ∃ z, z = (T.setVm s.vm).setFrames (.invoking m args :: below) := ⟨_, rfl⟩
  rw [← hA] at Y
  have hvm : s'.vm = s.vm := by rw [hA]; rfl
  have hhp : s'.heap = H := by rw [hA]; exact hT
  have hW0 : s.WarmedH s'.vm := by rw [hvm]; exact State.WarmedH.refl s
  have hat' : ∀ w ∈ vx_atS own ic cls names, w.before args s' = true := fun w hw => vx_ot_at hW0 hvm.symm (hgood w (List.mem_cons_of_mem _ (List.mem_cons_of_mem _ hw))) (hat w hw)
  have hk' : (Cond.classLink own ik cls).before args s' = true := vx_ot_at hW0 hvm.symm (hgood _ List.mem_cons_self) hk
  have hini' : (Cond.initialized cls).before args s' = true := vx_ot_at hW0 hvm.symm (hgood _ (List.mem_cons_of_mem _ List.mem_cons_self)) hini
  have hU' : vx_Zq Bundle.tN "UNASSIGNED_STACK" Bundle.steD A s' s'.heap := by rw [hhp]; exact vx_Zq.moved hW0.alike (hU.kept hS.2.1)
  have hN' : vx_Zq Bundle.tN "SUPPRESSED_SENTINEL" Bundle.listD A s' s'.heap := by rw [hhp]; exact vx_Zq.moved hW0.alike (hN.kept hS.2.1)
  have h : ∀ w ∈ Bundle.ownAtoms own ic cls names, w.before args s' = true := vx_own hat' (vx_isRefq hU'.1) (vx_isRefq hN'.1) hU'.2.word hN'.2.word
  have hown' : s'.vm.findClass own = some m.cls := by rw [hvm]; exact hown
  have hins : (Cond.instantiable cls 6).before args s' = true := h _ (by simp [Bundle.ownAtoms])
  obtain ⟨vm₁, cX, kX, hfX, hkX, -, -, X₁, st1⟩ := Y.newCold hexec (own := own) (C := cls) (index := ik) (n := 6) hown' hk' hins hini'
    (g := F0 m pc ls rest) rfl (by rw [hb]; exact d0) (Nat.le_refl _) (Nat.le_refl _)
  generalize hT1 : (T.setVm vm₁).pushCell { cls := cX, slots := kX.instanceTypes.map defaultValue, vm := .none } = T1 at X₁ st1
  have hcat : (Value.ref T.heap.size).category = 1 := rfl
  have hcellA : T1.heap[T.heap.size]? = some (freshCell cX kX) := by rw [← hT1]; exact State.heap_pushCell_size _ _
  have d3' : decode c.code (pc + 3) = .ok (.dup, 1) := by rw [hb]; exact d3
  have d4' : decode c.code (pc + 4) = .ok (.ldc_w is, 3) := by rw [hb]; exact d4
  have hstr' : vk_R own is text sa s' := vk_R.warm hW0 hstr
  obtain ⟨U, hsteps, hrun, hend, hW, hsame, ce, hce, hO⟩ := X₁.ctorThrowS hexec htr (own := own) (cls := cls) (names := names) (ic := ic) hown' hcls hnames h (fun x hx => nomatch hx) hfX hkX hcellA (by rw [hhp, hT]; exact Nat.le_refl _) (msg := .ref sa) rfl
    (g := { method := m, pc := pc + 7, locals := ls, stack := .ref sa :: .ref T.heap.size :: .ref T.heap.size :: rest, locked := none }) rfl hsize rfl rfl (rest := rest) rfl
    (by rw [hb]; exact d7) (by rw [hb]; exact d10) hout hRframes (by simp only [List.map_cons, List.sum_cons, hcat]; omega) hlocks
  obtain ⟨f1, f2⟩ := vx_frame hsame
  rw [hhp] at f1 f2
  have hWs : s.WarmedH U.vm := State.WarmedH.trans hW0 hW
  have hcl : s.vm.findClass cls = some ce.cls := by
    have h9 := hO.cls
    rw [hvm] at h9
    exact h9
  have hall : s.sameButNew ({ U with vm := s.vm } : State) locs mc ms := by
    subst hA
    obtain ⟨e1, e2⟩ := hsame
    rw [State.setFrames_setFrames] at e1
    have h2 : (T.setVm s.vm).sameButNew ({ U with vm := s.vm } : State) [] (0 + 1) (0 + 6) := ⟨e1, e2⟩
    have h3 := X.same.trans h2
    rw [List.append_nil] at h3
    exact h3.mono hc hs
  refine ⟨U, ?_, .threw T.heap.size, hrun, hend, Or.inr ⟨T.heap.size, rfl, cls, ce, locs, hx U hWs.alike f1 (fun q hq => f2 q hq (fun z hz => nomatch hz)), hce, hO.vm, hcl, hWs, hall, hf⟩⟩
  refine st1 _ ?_
  show Steps p.tables e below (T1.setTop { method := m, pc := pc + 3, locals := ls, stack := .ref T.heap.size :: rest, locked := none }) _
  jvm_step X₁.here [X₁.here.top, hexec, d3', Value.category]
  exact X₁.ldcStringW hexec (own := own) (text := text) (index := is) (a := sa) hown' hstr'.1 hstr'.2
    (g := { method := m, pc := pc + 4, locals := ls, stack := .ref T.heap.size :: .ref T.heap.size :: rest, locked := none }) rfl d4' _ hsteps
end Ends
section Bodies
variable {l : Launch}
theorem vx_ofW {y : MethodName} {ws ws' : List Cond} {rm : Room} {Pc : Array Value → State → Prop} {Qc : Array Value → State → Outcome → State → Prop} {XC : String → State → State → Prop} {mc ms : Nat} {free : Addr → Prop} {cc : ByteArray} {maxL : Nat} {ret : Option FieldType}
    (hy : plainName y.cls = true) (hw : ws = Cond.code y cc maxL ret :: ws')
    (body : ∀ p e s m args below meth c s₁, BodyLoose p l y (headSpec ws rm) cc maxL ret e s m args below meth c s₁ → c.maxLocals = maxL → (∀ x ∈ c.exceptionTable.toList, False) → Pc args s →
      W p l e (headSpec ws rm).room s m args below meth c s.heap [] 0 0 (vx_MQ below Qc XC args s mc ms free) (entryFrame m args maxL)) : vx_Met l y ws rm Pc Qc XC mc ms free := by
  refine MetFree.of_bodyS (code := cc) (maxLocals := maxL) (ret := ret) hy ?_ ?_
  · intro args s m h hn
    obtain ⟨meth, c, h1, h2, h3, h4, h5, h6, -, -⟩ := Cond.code_spec hn (atoms_spec (ws := ws) h _ (by rw [hw]; exact List.mem_cons_self))
    exact ⟨meth, c, h1, h2, h3, h4, h5, h6⟩
  · intro p e s m args below meth c s₁ B hml hP _
    have hh0 : s₁.heap = s.heap := by rw [B.state]; rfl
    have ht : ∀ x ∈ c.exceptionTable.toList, False := by
      obtain ⟨meth9, c9, h1, h2, -, -, -, -, h7, -⟩ := Cond.code_spec B.named (atoms_spec (ws := ws) B.pre _ (by rw [hw]; exact List.mem_cons_self))
      cases Option.some.inj (h1.symm.trans B.method)
      cases Option.some.inj (h2.symm.trans (Stand.of_body B).code)
      intro x hx
      rw [Array.isEmpty_iff.mp h7] at hx
      cases hx
    obtain ⟨t, a1, o, b1, b2, b3⟩ := body p e s m args below meth c s₁ B hml ht hP s₁ hh0 (Stand.of_body B)
    exact ⟨t, o, a1, b1, b2, b3⟩
/-- the table of a body with handlers -/
theorem vx_table {p : Program} {x y : MethodName} {S : Spec} {cc bytes : ByteArray} {maxL maxL' : Nat} {ret ret' : Option FieldType} {e : Env} {s s₁ : State} {m : MethodId} {args : Array Value} {below : List Frame} {meth : Method} {c : Code} {hh : List (Nat × Nat × Nat × Nat)}
    (B : BodyLoose p l y S cc maxL ret e s m args below meth c s₁) (h : (Cond.codeWith y bytes maxL' ret' hh).before args s = true) : c.exceptionTable.toList = tableOf hh := by
  obtain ⟨m9, meth9, c9, hn9, h1, h2, -, -, h6, -⟩ := Cond.codeWith_spec h
  cases Option.some.inj (hn9.symm.trans B.named)
  cases Option.some.inj (h1.symm.trans B.method)
  cases Option.some.inj (h2.symm.trans (Stand.of_body B).code)
  rw [← h6, table_eq]
end Bodies
end VXA
/-! ===== END ===== -/
/-! ===== BEGIN a static call of a method with an exception table ===== -/
section VXS
variable {p : Program} {l : Launch} {e : Env} {R : Room} {s : State} {m : MethodId} {args : Array Value} {below : List Frame} {meth : Method} {c : Code} {T : State} {H : Heap} {locs : List Loc} {cells slots : Nat}
abbrev vx_CSW (R : Room) (s : State) (args : Array Value) (own : String) (index : Nat) (y : MethodName) (bytes : ByteArray) (maxL : Nat) (ret : Option FieldType) (hh : List (Nat × Nat × Nat × Nat)) (ws : List Cond) (rm : Room) (mc ms n : Nat) : Prop :=
  (rm.cells = mc ∧ rm.slots = ms ∧ rm.frames + 1 ≤ R.frames ∧ 8 + (maxL + 11) + rm.locals ≤ R.locals ∧ (∀ w ∈ ws, ∀ (a' : Array Value) (U : State), s.WarmedH U.vm → w.before a' U = true) ∧ Cond.codeWith y bytes maxL ret hh ∈ ws) ∧
  (Cond.codeWith y bytes maxL ret hh).before args s = true ∧ (Cond.initialized y.cls).before args s = true ∧ (y.cls ≠ "java/lang/invoke/MethodHandle" ∧ y.cls ≠ "java/lang/invoke/VarHandle") ∧
  (∀ sig, parseMethodDescriptor y.desc = some sig → n = sig.parameters.length) ∧ (Cond.methodLink own index y).before args s = true ∧ (Cond.static y).before args s = true
theorem vx_cwSW {own : String} {index maxL mc ms : Nat} {y : MethodName} {bytes : ByteArray} {ret : Option FieldType} {hh : List (Nat × Nat × Nat × Nat)} {Ts ws ws' : List Cond} {rm : Room} (n : Nat) (ht : ∀ w ∈ Ts, w.before args s = true) (hT : GoodIn Ts (va_wsS own index y ws)) (hw : ws = Cond.codeWith y bytes maxL ret hh :: ws') (hrc : rm.cells = mc) (hrs : rm.slots = ms)
    (hd : y.cls ≠ "java/lang/invoke/MethodHandle" ∧ y.cls ≠ "java/lang/invoke/VarHandle" ∧ (parseMethodDescriptor y.desc).map (fun d => d.parameters.length) = some n) (hR : rm.frames + 1 ≤ R.frames ∧ 8 + (maxL + 11) + rm.locals ≤ R.locals) :
    vx_CSW R s args own index y bytes maxL ret hh ws rm mc ms n := by
  have ok : ∀ w ∈ va_wsS own index y ws, w.before args s = true := fun w h => ht w (hT w h).1
  have hG : GoodIn Ts ws := fun w h => hT w (by unfold va_wsS; exact List.mem_append_right _ h)
  have hc : Cond.codeWith y bytes maxL ret hh ∈ ws := by rw [hw]; exact List.mem_cons_self
  refine ⟨⟨hrc, hrs, hR.1, hR.2, pay_in ht hG, hc⟩, ht _ (hG _ hc).1, ok _ (by simp [va_wsS]), ⟨hd.1, hd.2.1⟩, fun sig h => ?_, ok _ (by simp [va_wsS]), ok _ (by simp [va_wsS])⟩
  have h2 := hd.2.2
  rw [h] at h2
  exact (Option.some.inj h2).symm
theorem vx_callSW (X : Stand p l e R s m args below meth c T locs cells slots) (hexec : p.tables.exec = Jvm.exec) {own : String} {index : Nat} {y : MethodName} {bytes : ByteArray} {maxL : Nat} {ret : Option FieldType} {hh : List (Nat × Nat × Nat × Nat)}
    (hown : s.vm.findClass own = some m.cls) (hlink : (Cond.methodLink own index y).before args s = true) (hstat : (Cond.static y).before args s = true) (hinit : (Cond.initialized y.cls).before args s = true)
    (hcode : (Cond.codeWith y bytes maxL ret hh).before args s = true) (hy : y.cls ≠ "java/lang/invoke/MethodHandle" ∧ y.cls ≠ "java/lang/invoke/VarHandle")
    {W9 : Nat} {Pre : Pt → Array Value → Prop} {Post : Pt → Array Value → Option Value → Pt → Prop} (hK : Back l R p e below s args y 3 W9 Pre Post)
    {g : JFrame} (hg : g.method = m) (hsize : g.locals.size = c.maxLocals) {argsL rest : List Value} (hlen : ∀ sig, parseMethodDescriptor y.desc = some sig → argsL.length = sig.parameters.length)
    (hstack : g.stack = argsL.reverse ++ rest) (hW : 2 * g.monitorRoom + (rest.map fun v => v.category).sum ≤ W9) (hdg : decode c.code g.pc = .ok (.invokestatic index, 3))
    (hpre : ∀ vm₁, s.WarmedH vm₁ → Pre ⟨T.setVm vm₁, locs, cells, slots⟩ argsL.toArray) :
    ∃ (v : Option Value) (vm₁ : Vm) (B : Pt), s.WarmedH vm₁ ∧ Stand p l e R s m args below meth c B.U B.locs B.cells B.slots ∧ Post ⟨T.setVm vm₁, locs, cells, slots⟩ argsL.toArray v B ∧
      ∀ target, Steps p.tables e below (B.U.setTop { g with pc := g.pc + 3, stack := v.toList ++ rest }) target → Steps p.tables e below (T.setTop g) target := by
  obtain ⟨mk, methM, cM, hnamed, hmethM, -, -, -, -, -, -, hsigM⟩ := Cond.codeWith_spec hcode
  have hstatic : methM.isStatic = true := Cond.static_spec hnamed hmethM hstat
  obtain ⟨kP, hkP, -⟩ := className_of_methodNamed hnamed
  have hinitP : kP.init = .initialized := Cond.initialized_spec (findClass_of_methodNamed hnamed) hkP hinit
  obtain ⟨vm₁, X₁, hstep₁⟩ := X.invokestatic hexec hown hlink hnamed hmethM hstatic hkP hinitP hy (g := g) hg (argsL := argsL) (rest := rest) (hlen _ hsigM) hstack hdg
  obtain ⟨v, B, X', hpost, hsteps⟩ := hK m meth c ⟨T.setVm vm₁, locs, cells, slots⟩ { g with stack := rest } (.invokestatic index) mk argsL.toArray X₁ hg hsize hdg hW (X₁.named hnamed) (hpre vm₁ X₁.warmed)
  exact ⟨v, vm₁, B, X₁.warmed, X', hpost, fun target h => hstep₁ _ fun acts => by rw [doInvoke_state]; exact hsteps.trans h⟩
theorem vx_runSW {y : MethodName} {bytes cc : ByteArray} {maxL nL mc ms n index : Nat} {ret : Option FieldType} {hh : List (Nat × Nat × Nat × Nat)} {ws : List Cond} {rm : Room} {Pc : Array Value → State → Prop} {Qc : Array Value → State → Outcome → State → Prop} {free : Addr → Prop} {Ts : List Cond} {own : String} {As rest : List Value} {g : JFrame}
    (S : CallFix p m c cc nL s args Ts own) (hM : Met l y ws rm Pc Qc mc ms free) (cw : vx_CSW R s args own index y bytes maxL ret hh ws rm mc ms n) (hp : PreS s H Pc As)
    (hg : g.method = m) (hn : As.length = n) (hsize : g.locals.size = nL) (hstack : g.stack = As.reverse ++ rest) (hW : 2 * g.monitorRoom + (rest.map fun v => v.category).sum ≤ 8) (hdg : decode cc g.pc = .ok (.invokestatic index, 3)) (hf : cells + mc ≤ R.cells ∧ slots + ms ≤ R.slots) :
    va_Run p l e R s m args below meth c H locs cells slots mc ms g rest (Qc As.toArray) (free) := by
  obtain ⟨⟨hrc, hrs, hfr, hlo, hws, hcw⟩, hcode, hini, hy, hlen, hl, hstt⟩ := cw
  have hK : Back l R p e below s args y 3 8 (PreOf R mc ms Pc) (PostOf Qc mc ms free) := va_backW (hh := hh) (bytes := bytes) (maxL := maxL) (ret := ret) hM hp.1 hrc hrs hfr hlo hws hcw (fun a' U hW => word_at hW (Or.inl (by first | rfl | simp [Cond.onTables, Cond.keeps, Cond.steady])) hini)
  obtain ⟨hx, hb, hml, ho, -⟩ := S
  intro T hT X
  obtain ⟨v, vm₁, ⟨U', l2, c2, s2⟩, hW₁, X', ⟨g', mk, t, L, e1, e2, hq, h1, hL, h2, h3⟩, st⟩ := vx_callSW X hx (hh := hh) (bytes := bytes) (maxL := maxL) (ret := ret) ho hl hstt hini hcode hy hK hg (hsize.trans hml.symm) (argsL := As) (rest := rest) (fun sig h => hn.trans (hlen sig h)) hstack hW (by rw [hb]; exact hdg)
    (fun vm₁ hW₁ => ⟨hf.1, hf.2, hp.2 (T.setVm vm₁) hT hW₁⟩)
  dsimp only [Pt.U, Pt.locs, Pt.cells, Pt.slots] at X' e1 e2 h1 h2 h3 st
  subst h1; subst h2; subst h3
  exact ⟨v, (T.setVm vm₁).calling g' mk As.toArray, t, U', L, hT, X', hL, e1, e2, hq, st⟩
/-- not caught here, past rows that name other classes: it goes on to the caller -/
theorem vx_outP {p : Program} {l : Launch} {e : Env} {R : Room} {s : State} {m : MethodId} {args : Array Value} {below : List Frame} {meth : Method} {c : Code} {H : Heap} {locs : List Loc} {cells slots : Nat} {free : Addr → Prop} {ls : Array Slot} {rest : List Value} {Qc : Array Value → State → Outcome → State → Prop} {XC : String → State → State → Prop}
    {pc : Nat} {own E : String} {ce : Cell} {q : Addr} {mc ms : Nat} (hown : s.vm.findClass own = some m.cls) (hlocks : meth.locks = false)
    (hpass : ∀ z ∈ c.exceptionTable.toList, covers z pc = false ∨ (z.catchType ≠ 0 ∧ ∃ nm : String, (Cond.classLink own z.catchType nm).before args s = true ∧ va_Nc E nm s)) (hcell : H[q]? = some ce) (hv : ce.vm = .none) (hcl : s.vm.findClass E = some ce.cls)
    (hx : ∀ t : State, t.heap = H → s.vm.Alike t.vm → XC E s t) (hf : ∀ z ∈ locs, free z.base) (hc : cells ≤ mc) (hs : slots ≤ ms) :
    vx_W p l e R s m args below meth c H locs cells slots (vx_MQ below Qc XC args s mc ms free) (F0 m pc ls rest) q := by
  intro T hT X
  have hpl : e.platform.magicAccessors = ({} : Platform).magicAccessors := by rw [X.admits.platform]
  obtain ⟨vm', hW', X', st⟩ := X.outThrough hlocks q (g := F0 m pc ls rest) rfl rfl rfl (cell := ce) (by rw [hT]; exact hcell) (by rw [hv]; rfl)
    (by obtain ⟨k9, h9, -⟩ := Vm.findClass_spec hcl; exact ⟨k9, h9⟩) (fun z hz => by
      rcases hpass z hz with h | ⟨hz0, nm, hl1, hn1⟩
      · exact Or.inl h
      · obtain ⟨c6, hc6, hcl6⟩ := Cond.classLink_spec hown hl1 e.platform hpl
        obtain ⟨a8, b8, h1, h2, h3⟩ := hn1
        cases Option.some.inj (h1.symm.trans hcl)
        cases Option.some.inj (h2.symm.trans hc6)
        exact Or.inr ⟨hz0, _, hcl6, h3⟩)
  obtain ⟨g₀, hfr⟩ := X'.frames_eq
  have hcell9 : ((T.setVm vm').setFrames (.throwing q :: below)).heap[q]? = some ce := by
    show T.heap[q]? = some ce
    rw [hT]; exact hcell
  have hend : Ended ((T.setVm vm').setFrames (.throwing q :: below)) below (.threw q) := State.frames_setFrames _ (State.cur_lt_of_frames hfr)
  refine ⟨(T.setVm vm').setFrames (.throwing q :: below), ?_, .threw q, X'.here.running, hend, Or.inr ⟨q, rfl, E, ce, locs, hx _ hT (X'.ends _).1.alike, hcell9, hv, hcl, (X'.ends _).1, (X'.ends _).2.mono hc hs, hf⟩⟩
  rw [X.pushThrowing_eq]
  exact st
/-- a thing of a world lies in the heap -/
theorem vx_lt {D : va_G} {cl : List vw_C} {ws : va_W} {H1 : Heap} (h : va_P D cl ws H1) {k : Nat} {q : Nat × va_E} (hk : ws[k]? = some q) : q.1 < H1.size := (h k q hk).lt
end VXS
/-! ===== END ===== -/
/-! ===== BEGIN methods with a table of their own: called by a name, returning or throwing ===== -/
section VXH
/-! vx_backW, vx_callVX, vx_callSX, vx_callVW, vx_runVW, vx_runVX, vx_runSX, vx_ofWH follow the same proofs as their sisters above (Free/Laws.lean, Shelf42/LK1.lean); vx_outP calls Shelf42/NT130.lean (outThrough). -/
section
variable {l : Launch} {R : Room} {p : Program} {e : Env} {below : List Frame} {s : State} {sargs : Array Value} {y : MethodName} {len W9 : Nat}
theorem vx_backW {ws : List Cond} {rm : Room} {Pc : Array Value → State → Prop} {Qc : Array Value → State → Outcome → State → Prop} {XC : String → State → State → Prop} {mc ms : Nat} {free : Addr → Prop} {bytes : ByteArray} {maxL : Nat} {ret : Option FieldType} {hh : List (Nat × Nat × Nat × Nat)}
    (hM : vx_Met l y ws rm Pc Qc XC mc ms free) (hblind : FrameBlind Pc) (hrc : rm.cells = mc) (hrs : rm.slots = ms)
    (hframes : rm.frames + 1 ≤ R.frames) (hlocals : W9 + (maxL + 11) + rm.locals ≤ R.locals)
    (hws : ∀ w ∈ ws, ∀ a' U, s.WarmedH U.vm → w.before a' U = true) (hcode : Cond.codeWith y bytes maxL ret hh ∈ ws) (hinit : ∀ a' U, s.WarmedH U.vm → (Cond.initialized y.cls).before a' U = true) :
    vx_Back l R p e below s sargs y len W9 (PreOf R mc ms Pc) (PostOf Qc mc ms free) (vx_Post XC mc ms free) := by
  intro m meth c A g ig mk a X hg hsize hdg hW hn hp
  have h1 : (headSpec ws rm).pre.before a A.U = true := atoms_intro fun w hw => hws w hw _ _ X.warmed
  have h2 : (Cond.codeWith y bytes maxL ret hh).before a A.U = true := hws _ hcode _ _ X.warmed
  have h3 : (Cond.initialized y.cls).before a A.U = true := hinit _ _ X.warmed
  have h4 : A.cells + (headSpec ws rm).room.cells ≤ R.cells := by rw [show (headSpec ws rm).room.cells = mc from hrc]; exact hp.1
  have h5 : A.slots + (headSpec ws rm).room.slots ≤ R.slots := by rw [show (headSpec ws rm).room.slots = ms from hrs]; exact hp.2.1
  have hPc : Pc a (A.U.calling g mk a) := hblind _ _ _ _ hp.2.2
  obtain ⟨U, Ls, c0, s0⟩ := A
  dsimp only [Pt.U, Pt.locs, Pt.cells, Pt.slots] at h1 h2 h3 h4 h5 X hn hPc ⊢
  obtain ⟨m9, methY, cY, hn9, hmY, hcY, -, hlY, -⟩ := Cond.codeWith_spec h2
  cases Option.some.inj (hn9.symm.trans hn)
  obtain ⟨kY, hkY, -⟩ := className_of_methodNamed hn
  have hinitY : kY.init = .initialized := Cond.initialized_spec (findClass_of_methodNamed hn) hkY h3
  have h : At U g.method c below := by rw [hg]; exact X.here
  have hlocals9 : W9 + (maxL + 11) + (headSpec ws rm).room.locals ≤ R.locals := hlocals
  have happ : (headSpec ws rm).appliesLoose y e.platform (U.calling g mk a) = true :=
    Spec.appliesLoose_calling (g := g) h hdg hn hkY hinitY
      (X.room_calling (g := g) (R' := (headSpec ws rm).room) hsize hmY hcY hframes (by rw [hlY]; omega) h4 h5) h1
  obtain ⟨mid, hmid⟩ := h.above
  have hfr : (U.setTop g).frames = (.java g :: mid) ++ below := by rw [State.frames_setTop' g h.top, hmid]; rfl
  obtain ⟨o, s₂, hsteps, -, hend, hq⟩ := Steps.callFree hM p X.admits X.cas X.clock (acts := []) hfr happ hPc trivial
  have hq' : vx_Q Qc XC mc ms free a (U.calling g mk a) o s₂ := hq
  rw [State.frames_setTop' g h.top] at hend
  obtain ⟨g₀, hg0⟩ := Option.isSome_iff_exists.mp h.top
  obtain ⟨r, hr⟩ := State.topJava?_eq_some.mp hg0
  have hr' : (({ U with heap := s₂.heap, slotsUsed := s₂.slotsUsed } : State).setVm s₂.vm).frames = .java g₀ :: r := hr
  rcases hq' with ⟨hqc, L, hfe, hL⟩ | ⟨q, rfl, E, ce, L, hx, hce, hcv, hcl, hW₂, hsm, hL⟩
  · obtain ⟨⟨v, rfl⟩, hW₂, e2, q2, q3, q4, q5, q6⟩ := id hfe
    have e3 : s₂ = ({ (U.calling g mk a).setFrames s₂.frames with heap := s₂.heap, slotsUsed := s₂.slotsUsed } : State).setVm s₂.vm := by
      have : s₂ = ({ s₂ with vm := (U.calling g mk a).vm } : State).setVm s₂.vm := rfl
      rw [e2] at this
      exact this
    obtain ⟨c₂, i₂, len₂, hc₂, hd₂, hf₂⟩ := hend
    have hW' : U.WarmedH s₂.vm := hW₂
    have hcc : c₂ = c := by
      have h1 : s₂.code? g.method = U.code? g.method := by
        rw [State.code?_eq, State.code?_eq, hW'.alike.method?]
      exact Option.some.inj (hc₂.symm.trans (h1.trans h.code))
    subst hcc
    have hlen : len₂ = len := by rw [hdg] at hd₂; cases hd₂; rfl
    subst hlen
    have hs₂ : s₂ = (({ U with heap := s₂.heap, slotsUsed := s₂.slotsUsed } : State).setVm s₂.vm).setTop { g with pc := g.pc + len₂, stack := v.toList ++ g.stack } := by
      refine e3.trans ?_
      rw [hf₂, State.calling_eq h.top, State.setFrames_setFrames, State.setTop_of_frames _ hr', hr]
      rfl
    have hsame : U.sameButNew ({ U with heap := s₂.heap, slotsUsed := s₂.slotsUsed } : State) L mc ms := by
      refine ⟨?_, q2, q3, q4, q5, q6⟩
      obtain ⟨t, ht, -⟩ := State.frames_cons hr
      show ({ U with heap := s₂.heap, slotsUsed := s₂.slotsUsed } : State) = { U.setFrames U.frames with heap := s₂.heap, slotsUsed := s₂.slotsUsed }
      rw [State.setFrames_self ht]
    subst hg
    refine Or.inl ⟨v, ⟨(({ U with heap := s₂.heap, slotsUsed := s₂.slotsUsed } : State).setVm s₂.vm), Ls ++ L, c0 + mc, s0 + ms⟩,
      ⟨X.admits, X.cas, X.clock, X.frames, X.room, X.hears, X.method, X.code, (X.here.setHeapUsed s₂.heap s₂.slotsUsed).setVm hW'.alike, X.tail, State.WarmedH.trans X.warmed hW', X.limits, X.bytes, X.same.trans (hsame.setVm s.vm)⟩,
      ⟨g, mk, s₂, L, rfl, rfl, hqc, rfl, hL, rfl, rfl⟩, ?_⟩
    show Steps p.tables e below _ ((({ U with heap := s₂.heap, slotsUsed := s₂.slotsUsed } : State).setVm s₂.vm).setTop { g with pc := g.pc + len₂, stack := v.toList ++ g.stack })
    rw [← hs₂]
    exact hsteps
  · obtain ⟨e2, q2, q3, q4, q5, q6⟩ := id hsm
    have e3 : s₂ = ({ (U.calling g mk a).setFrames s₂.frames with heap := s₂.heap, slotsUsed := s₂.slotsUsed } : State).setVm s₂.vm := by
      have : s₂ = ({ s₂ with vm := (U.calling g mk a).vm } : State).setVm s₂.vm := rfl
      rw [e2] at this
      exact this
    have hf₂ : s₂.frames = .throwing q :: .java g :: U.frames.tail := hend
    have hW' : U.WarmedH s₂.vm := hW₂
    have hs₂ : s₂ = ((({ U with heap := s₂.heap, slotsUsed := s₂.slotsUsed } : State).setVm s₂.vm).setTop g).pushFrame (.throwing q) := by
      refine e3.trans ?_
      rw [hf₂, State.calling_eq h.top, State.setFrames_setFrames, State.pushFrame, State.frames_setTop _ hr', State.setTop_of_frames _ hr', State.setFrames_setFrames, hr]
      rfl
    have hsame : U.sameButNew ({ U with heap := s₂.heap, slotsUsed := s₂.slotsUsed } : State) L mc ms := by
      refine ⟨?_, q2, q3, q4, q5, q6⟩
      obtain ⟨t, ht, -⟩ := State.frames_cons hr
      show ({ U with heap := s₂.heap, slotsUsed := s₂.slotsUsed } : State) = { U.setFrames U.frames with heap := s₂.heap, slotsUsed := s₂.slotsUsed }
      rw [State.setFrames_self ht]
    subst hg
    refine Or.inr ⟨q, ⟨(({ U with heap := s₂.heap, slotsUsed := s₂.slotsUsed } : State).setVm s₂.vm), Ls ++ L, c0 + mc, s0 + ms⟩,
      ⟨X.admits, X.cas, X.clock, X.frames, X.room, X.hears, X.method, X.code, (X.here.setHeapUsed s₂.heap s₂.slotsUsed).setVm hW'.alike, X.tail, State.WarmedH.trans X.warmed hW', X.limits, X.bytes, X.same.trans (hsame.setVm s.vm)⟩,
      ⟨g, mk, s₂, L, E, ce, rfl, rfl, hx, hce, hcv, hcl, rfl, hL, rfl, rfl⟩, ?_⟩
    show Steps p.tables e below _ (((({ U with heap := s₂.heap, slotsUsed := s₂.slotsUsed } : State).setVm s₂.vm).setTop g).pushFrame (.throwing q))
    rw [← hs₂]
    exact hsteps
end
variable {p : Program} {l : Launch} {e : Env} {R : Room} {s : State} {m : MethodId} {args : Array Value} {below : List Frame} {meth : Method} {c : Code} {T : State} {H : Heap} {locs : List Loc} {cells slots : Nat}
theorem vx_callVX (X : Stand p l e R s m args below meth c T locs cells slots) (hexec : p.tables.exec = Jvm.exec) {own C : String} {index : Nat} {y : MethodName} {bytes : ByteArray} {maxL : Nat} {ret : Option FieldType} {hh : List (Nat × Nat × Nat × Nat)}
    (hown : s.vm.findClass own = some m.cls) (hlink : (Cond.methodLink own index y).before args s = true) (hinst : (Cond.instanceMethod y).before args s = true) (hsel : (Cond.selects C y y).before args s = true)
    (hcode : (Cond.codeWith y bytes maxL ret hh).before args s = true) (hy : y.cls ≠ "java/lang/invoke/MethodHandle" ∧ y.cls ≠ "java/lang/invoke/VarHandle")
    {W9 : Nat} {Pre : Pt → Array Value → Prop} {Post : Pt → Array Value → Option Value → Pt → Prop} {PostX : Pt → Array Value → Addr → Pt → Prop} (hK : vx_Back l R p e below s args y 3 W9 Pre Post PostX)
    {b : Addr} {cellB : Cell} (hcell : T.heap[b]? = some cellB) (hobj : cellB.vm.isStatics = false) (hcls : s.vm.findClass C = some cellB.cls)
    {g : JFrame} (hg : g.method = m) (hsize : g.locals.size = c.maxLocals) {argsL rest : List Value} (hlen : ∀ sig, parseMethodDescriptor y.desc = some sig → argsL.length = sig.parameters.length)
    (hstack : g.stack = argsL.reverse ++ .ref b :: rest) (hW : 2 * g.monitorRoom + (rest.map fun v => v.category).sum ≤ W9) (hdg : decode c.code g.pc = .ok (.invokevirtual index, 3))
    (hpre : ∀ vm₁, s.WarmedH vm₁ → Pre ⟨T.setVm vm₁, locs, cells, slots⟩ (Value.ref b :: argsL).toArray) :
    (∃ (v : Option Value) (vm₁ : Vm) (B : Pt), s.WarmedH vm₁ ∧ Stand p l e R s m args below meth c B.U B.locs B.cells B.slots ∧ Post ⟨T.setVm vm₁, locs, cells, slots⟩ (Value.ref b :: argsL).toArray v B ∧
      ∀ target, Steps p.tables e below (B.U.setTop { g with pc := g.pc + 3, stack := v.toList ++ rest }) target → Steps p.tables e below (T.setTop g) target) ∨
    (∃ (q : Addr) (vm₁ : Vm) (B : Pt), s.WarmedH vm₁ ∧ Stand p l e R s m args below meth c B.U B.locs B.cells B.slots ∧ PostX ⟨T.setVm vm₁, locs, cells, slots⟩ (Value.ref b :: argsL).toArray q B ∧
      Steps p.tables e below (T.setTop g) ((B.U.setTop { g with stack := rest }).pushFrame (.throwing q))) := by
  obtain ⟨mk, methM, hnamed, hmethM, hstM, habM⟩ := Cond.instanceMethod_spec hinst
  obtain ⟨m8, methM', cM, hn8, hmethM', -, -, -, -, -, -, hsigM⟩ := Cond.codeWith_spec hcode
  cases Option.some.inj (hn8.symm.trans hnamed)
  cases hmethM.symm.trans hmethM'
  obtain ⟨c2, r2, m2, q1, q2, q3, q4, kP, hkP, hkPi⟩ := Cond.selects_spec hsel
  cases hcls.symm.trans q1
  cases (State.methodFound?_of_named hnamed hy).symm.trans q2
  cases hnamed.symm.trans q3
  have hselP : selectMethod e.platform s.vm cellB.cls mk = .method mk := by rw [Launch.admits_selectMethod X.admits]; exact q4
  obtain ⟨vm₁, X₁, hstep₁⟩ := X.invokevirtual hexec hown hlink hnamed hmethM hstM hkP hkPi hy (a := b) (cell := cellB) hcell
    (fun z h => by rw [h] at hobj; cases hobj) hselP hmethM habM hkP hkPi (g := g) hg (argsL := argsL) (rest := rest) (hlen _ hsigM) hstack hdg
  rcases hK m meth c ⟨T.setVm vm₁, locs, cells, slots⟩ { g with stack := rest } (.invokevirtual index) mk (Value.ref b :: argsL).toArray X₁ hg hsize hdg hW (X₁.named hnamed) (hpre vm₁ X₁.warmed) with ⟨v, B, X', hpost, hsteps⟩ | ⟨q, B, X', hpost, hsteps⟩
  · exact Or.inl ⟨v, vm₁, B, X₁.warmed, X', hpost, fun target h => hstep₁ _ fun acts => by rw [doInvoke_state]; exact hsteps.trans h⟩
  · exact Or.inr ⟨q, vm₁, B, X₁.warmed, X', hpost, hstep₁ _ fun acts => by rw [doInvoke_state]; exact hsteps⟩
theorem vx_callSX (X : Stand p l e R s m args below meth c T locs cells slots) (hexec : p.tables.exec = Jvm.exec) {own : String} {index : Nat} {y : MethodName} {bytes : ByteArray} {maxL : Nat} {ret : Option FieldType} {hh : List (Nat × Nat × Nat × Nat)}
    (hown : s.vm.findClass own = some m.cls) (hlink : (Cond.methodLink own index y).before args s = true) (hstat : (Cond.static y).before args s = true) (hinit : (Cond.initialized y.cls).before args s = true)
    (hcode : (Cond.codeWith y bytes maxL ret hh).before args s = true) (hy : y.cls ≠ "java/lang/invoke/MethodHandle" ∧ y.cls ≠ "java/lang/invoke/VarHandle")
    {W9 : Nat} {Pre : Pt → Array Value → Prop} {Post : Pt → Array Value → Option Value → Pt → Prop} {PostX : Pt → Array Value → Addr → Pt → Prop} (hK : vx_Back l R p e below s args y 3 W9 Pre Post PostX)
    {g : JFrame} (hg : g.method = m) (hsize : g.locals.size = c.maxLocals) {argsL rest : List Value} (hlen : ∀ sig, parseMethodDescriptor y.desc = some sig → argsL.length = sig.parameters.length)
    (hstack : g.stack = argsL.reverse ++ rest) (hW : 2 * g.monitorRoom + (rest.map fun v => v.category).sum ≤ W9) (hdg : decode c.code g.pc = .ok (.invokestatic index, 3))
    (hpre : ∀ vm₁, s.WarmedH vm₁ → Pre ⟨T.setVm vm₁, locs, cells, slots⟩ argsL.toArray) :
    (∃ (v : Option Value) (vm₁ : Vm) (B : Pt), s.WarmedH vm₁ ∧ Stand p l e R s m args below meth c B.U B.locs B.cells B.slots ∧ Post ⟨T.setVm vm₁, locs, cells, slots⟩ argsL.toArray v B ∧
      ∀ target, Steps p.tables e below (B.U.setTop { g with pc := g.pc + 3, stack := v.toList ++ rest }) target → Steps p.tables e below (T.setTop g) target) ∨
    (∃ (q : Addr) (vm₁ : Vm) (B : Pt), s.WarmedH vm₁ ∧ Stand p l e R s m args below meth c B.U B.locs B.cells B.slots ∧ PostX ⟨T.setVm vm₁, locs, cells, slots⟩ argsL.toArray q B ∧
      Steps p.tables e below (T.setTop g) ((B.U.setTop { g with stack := rest }).pushFrame (.throwing q))) := by
  obtain ⟨mk, methM, cM, hnamed, hmethM, -, -, -, -, -, -, hsigM⟩ := Cond.codeWith_spec hcode
  have hstatic : methM.isStatic = true := Cond.static_spec hnamed hmethM hstat
  obtain ⟨kP, hkP, -⟩ := className_of_methodNamed hnamed
  have hinitP : kP.init = .initialized := Cond.initialized_spec (findClass_of_methodNamed hnamed) hkP hinit
  obtain ⟨vm₁, X₁, hstep₁⟩ := X.invokestatic hexec hown hlink hnamed hmethM hstatic hkP hinitP hy (g := g) hg (argsL := argsL) (rest := rest) (hlen _ hsigM) hstack hdg
  rcases hK m meth c ⟨T.setVm vm₁, locs, cells, slots⟩ { g with stack := rest } (.invokestatic index) mk argsL.toArray X₁ hg hsize hdg hW (X₁.named hnamed) (hpre vm₁ X₁.warmed) with ⟨v, B, X', hpost, hsteps⟩ | ⟨q, B, X', hpost, hsteps⟩
  · exact Or.inl ⟨v, vm₁, B, X₁.warmed, X', hpost, fun target h => hstep₁ _ fun acts => by rw [doInvoke_state]; exact hsteps.trans h⟩
  · exact Or.inr ⟨q, vm₁, B, X₁.warmed, X', hpost, hstep₁ _ fun acts => by rw [doInvoke_state]; exact hsteps⟩
theorem vx_callVW (X : Stand p l e R s m args below meth c T locs cells slots) (hexec : p.tables.exec = Jvm.exec) {own C : String} {index : Nat} {y : MethodName} {bytes : ByteArray} {maxL : Nat} {ret : Option FieldType} {hh : List (Nat × Nat × Nat × Nat)}
    (hown : s.vm.findClass own = some m.cls) (hlink : (Cond.methodLink own index y).before args s = true) (hinst : (Cond.instanceMethod y).before args s = true) (hsel : (Cond.selects C y y).before args s = true)
    (hcode : (Cond.codeWith y bytes maxL ret hh).before args s = true) (hy : y.cls ≠ "java/lang/invoke/MethodHandle" ∧ y.cls ≠ "java/lang/invoke/VarHandle")
    {W9 : Nat} {Pre : Pt → Array Value → Prop} {Post : Pt → Array Value → Option Value → Pt → Prop} (hK : Back l R p e below s args y 3 W9 Pre Post)
    {b : Addr} {cellB : Cell} (hcell : T.heap[b]? = some cellB) (hobj : cellB.vm.isStatics = false) (hcls : s.vm.findClass C = some cellB.cls)
    {g : JFrame} (hg : g.method = m) (hsize : g.locals.size = c.maxLocals) {argsL rest : List Value} (hlen : ∀ sig, parseMethodDescriptor y.desc = some sig → argsL.length = sig.parameters.length)
    (hstack : g.stack = argsL.reverse ++ .ref b :: rest) (hW : 2 * g.monitorRoom + (rest.map fun v => v.category).sum ≤ W9) (hdg : decode c.code g.pc = .ok (.invokevirtual index, 3))
    (hpre : ∀ vm₁, s.WarmedH vm₁ → Pre ⟨T.setVm vm₁, locs, cells, slots⟩ (Value.ref b :: argsL).toArray) :
    ∃ (v : Option Value) (vm₁ : Vm) (B : Pt), s.WarmedH vm₁ ∧ Stand p l e R s m args below meth c B.U B.locs B.cells B.slots ∧ Post ⟨T.setVm vm₁, locs, cells, slots⟩ (Value.ref b :: argsL).toArray v B ∧
      ∀ target, Steps p.tables e below (B.U.setTop { g with pc := g.pc + 3, stack := v.toList ++ rest }) target → Steps p.tables e below (T.setTop g) target := by
  obtain ⟨mk, methM, hnamed, hmethM, hstM, habM⟩ := Cond.instanceMethod_spec hinst
  obtain ⟨m8, methM', cM, hn8, hmethM', -, -, -, -, -, -, hsigM⟩ := Cond.codeWith_spec hcode
  cases Option.some.inj (hn8.symm.trans hnamed)
  cases hmethM.symm.trans hmethM'
  obtain ⟨c2, r2, m2, q1, q2, q3, q4, kP, hkP, hkPi⟩ := Cond.selects_spec hsel
  cases hcls.symm.trans q1
  cases (State.methodFound?_of_named hnamed hy).symm.trans q2
  cases hnamed.symm.trans q3
  have hselP : selectMethod e.platform s.vm cellB.cls mk = .method mk := by rw [Launch.admits_selectMethod X.admits]; exact q4
  obtain ⟨vm₁, X₁, hstep₁⟩ := X.invokevirtual hexec hown hlink hnamed hmethM hstM hkP hkPi hy (a := b) (cell := cellB) hcell
    (fun z h => by rw [h] at hobj; cases hobj) hselP hmethM habM hkP hkPi (g := g) hg (argsL := argsL) (rest := rest) (hlen _ hsigM) hstack hdg
  obtain ⟨v, B, X', hpost, hsteps⟩ := hK m meth c ⟨T.setVm vm₁, locs, cells, slots⟩ { g with stack := rest } (.invokevirtual index) mk (Value.ref b :: argsL).toArray X₁ hg hsize hdg hW (X₁.named hnamed) (hpre vm₁ X₁.warmed)
  exact ⟨v, vm₁, B, X₁.warmed, X', hpost, fun target h => hstep₁ _ fun acts => by rw [doInvoke_state]; exact hsteps.trans h⟩
abbrev vx_CVW (R : Room) (s : State) (args : Array Value) (own C : String) (index : Nat) (y : MethodName) (bytes : ByteArray) (maxL : Nat) (ret : Option FieldType) (hh : List (Nat × Nat × Nat × Nat)) (ws : List Cond) (rm : Room) (mc ms n : Nat) : Prop :=
  (rm.cells = mc ∧ rm.slots = ms ∧ rm.frames + 1 ≤ R.frames ∧ 8 + (maxL + 11) + rm.locals ≤ R.locals ∧ (∀ w ∈ ws, ∀ (a' : Array Value) (U : State), s.WarmedH U.vm → w.before a' U = true) ∧ Cond.codeWith y bytes maxL ret hh ∈ ws) ∧
  (Cond.codeWith y bytes maxL ret hh).before args s = true ∧ (Cond.initialized y.cls).before args s = true ∧ (y.cls ≠ "java/lang/invoke/MethodHandle" ∧ y.cls ≠ "java/lang/invoke/VarHandle") ∧
  (∀ sig, parseMethodDescriptor y.desc = some sig → n = sig.parameters.length) ∧ (Cond.methodLink own index y).before args s = true ∧ (Cond.instanceMethod y).before args s = true ∧ (Cond.selects C y y).before args s = true
theorem vx_cwVW {own C : String} {index maxL mc ms : Nat} {y : MethodName} {bytes : ByteArray} {ret : Option FieldType} {hh : List (Nat × Nat × Nat × Nat)} {Ts ws ws' : List Cond} {rm : Room} (n : Nat) (ht : ∀ w ∈ Ts, w.before args s = true) (hT : GoodIn Ts (wsV own index C y ws)) (hw : ws = Cond.codeWith y bytes maxL ret hh :: ws') (hrc : rm.cells = mc) (hrs : rm.slots = ms)
    (hd : y.cls = C ∧ y.cls ≠ "java/lang/invoke/MethodHandle" ∧ y.cls ≠ "java/lang/invoke/VarHandle" ∧ (parseMethodDescriptor y.desc).map (fun d => d.parameters.length) = some n) (hR : rm.frames + 1 ≤ R.frames ∧ 8 + (maxL + 11) + rm.locals ≤ R.locals) :
    vx_CVW R s args own C index y bytes maxL ret hh ws rm mc ms n := by
  obtain ⟨hC, hd⟩ := hd
  subst hC
  have ok : ∀ w ∈ wsV own index y.cls y ws, w.before args s = true := fun w h => ht w (hT w h).1
  have hG : GoodIn Ts ws := fun w h => hT w (by unfold wsV; exact List.mem_append_right _ h)
  have hc : Cond.codeWith y bytes maxL ret hh ∈ ws := by rw [hw]; exact List.mem_cons_self
  refine ⟨⟨hrc, hrs, hR.1, hR.2, pay_in ht hG, hc⟩, ht _ (hG _ hc).1, ok _ (by simp [wsV]), ⟨hd.1, hd.2.1⟩, fun sig h => ?_, ok _ (by simp [wsV]), ok _ (by simp [wsV]), ok _ (by simp [wsV])⟩
  have h2 := hd.2.2
  rw [h] at h2
  exact (Option.some.inj h2).symm
theorem vx_runVW {y : MethodName} {bytes cc : ByteArray} {maxL nL mc ms n index : Nat} {ret : Option FieldType} {hh : List (Nat × Nat × Nat × Nat)} {ws : List Cond} {rm : Room} {Pc : Array Value → State → Prop} {Qc : Array Value → State → Outcome → State → Prop} {free : Addr → Prop} {Ts : List Cond} {own C : String} {b : Addr} {As rest : List Value} {g : JFrame}
    (S : CallFix p m c cc nL s args Ts own) (hM : Met l y ws rm Pc Qc mc ms free) (cw : vx_CVW R s args own C index y bytes maxL ret hh ws rm mc ms n) (hp : PreV s H C b Pc As)
    (hg : g.method = m) (hn : As.length = n) (hsize : g.locals.size = nL) (hstack : g.stack = As.reverse ++ .ref b :: rest) (hW : 2 * g.monitorRoom + (rest.map fun v => v.category).sum ≤ 8) (hdg : decode cc g.pc = .ok (.invokevirtual index, 3)) (hf : cells + mc ≤ R.cells ∧ slots + ms ≤ R.slots) :
    va_Run p l e R s m args below meth c H locs cells slots mc ms g rest (Qc (Value.ref b :: As).toArray) free := by
  obtain ⟨⟨hrc, hrs, hfr, hlo, hws, hcw⟩, hcode, hini, hy, hlen, hl, hin, hse⟩ := cw
  have hK : Back l R p e below s args y 3 8 (PreOf R mc ms Pc) (PostOf Qc mc ms free) := va_backW (hh := hh) (bytes := bytes) (maxL := maxL) (ret := ret) hM hp.1 hrc hrs hfr hlo hws hcw (fun a' U hW => word_at hW (Or.inl (by first | rfl | simp [Cond.onTables, Cond.keeps, Cond.steady])) hini)
  obtain ⟨hx, hb, hml, ho, -⟩ := S
  obtain ⟨-, ⟨cellB, hcB, hoB, hclB⟩, hPc⟩ := hp
  intro T hT X
  obtain ⟨v, vm₁, ⟨U', l2, c2, s2⟩, hW₁, X', ⟨g', mk, t, L, e1, e2, hq, h1, hL, h2, h3⟩, st⟩ := vx_callVW X hx (C := C) (hh := hh) (bytes := bytes) (maxL := maxL) (ret := ret) ho hl hin hse hcode hy hK (by rw [hT]; exact hcB) hoB hclB hg (hsize.trans hml.symm) (argsL := As) (rest := rest) (fun sig h => hn.trans (hlen sig h)) hstack hW (by rw [hb]; exact hdg)
    (fun vm₁ hW₁ => ⟨hf.1, hf.2, hPc (T.setVm vm₁) hT hW₁⟩)
  dsimp only [Pt.U, Pt.locs, Pt.cells, Pt.slots] at X' e1 e2 h1 h2 h3 st
  subst h1; subst h2; subst h3
  exact ⟨v, (T.setVm vm₁).calling g' mk (Value.ref b :: As).toArray, t, U', L, hT, X', hL, e1, e2, hq, st⟩
section
variable {y : MethodName} {bytes cc : ByteArray} {maxL nL mc ms n index : Nat} {ret : Option FieldType} {ws : List Cond} {rm : Room} {Pc : Array Value → State → Prop} {Qc : Array Value → State → Outcome → State → Prop} {XC : String → State → State → Prop} {free : Addr → Prop} {Ts : List Cond} {own C : String} {b : Addr} {As rest : List Value} {g : JFrame}
theorem vx_runVX {hh : List (Nat × Nat × Nat × Nat)} (S : CallFix p m c cc nL s args Ts own) (hM : vx_Met l y ws rm Pc Qc XC mc ms free) (cw : vx_CVW R s args own C index y bytes maxL ret hh ws rm mc ms n) (hp : PreV s H C b Pc As)
    (hg : g.method = m) (hn : As.length = n) (hsize : g.locals.size = nL) (hstack : g.stack = As.reverse ++ .ref b :: rest) (hW : 2 * g.monitorRoom + (rest.map fun v => v.category).sum ≤ 8) (hdg : decode cc g.pc = .ok (.invokevirtual index, 3)) (hf : cells + mc ≤ R.cells ∧ slots + ms ≤ R.slots) :
    vx_Run p l e R s m args below meth c H locs cells slots mc ms g rest (Qc (Value.ref b :: As).toArray) XC free := by
  obtain ⟨⟨hrc, hrs, hfr, hlo, hws, hcw⟩, hcode, hini, hy, hlen, hl, hin, hse⟩ := cw
  have hK : vx_Back l R p e below s args y 3 8 (PreOf R mc ms Pc) (PostOf Qc mc ms free) (vx_Post XC mc ms free) := vx_backW (hh := hh) (bytes := bytes) (maxL := maxL) (ret := ret) hM hp.1 hrc hrs hfr hlo hws hcw (fun a' U hW => word_at hW (Or.inl (by first | rfl | simp [Cond.onTables, Cond.keeps, Cond.steady])) hini)
  obtain ⟨hx, hb, hml, ho, -⟩ := S
  obtain ⟨-, ⟨cellB, hcB, hoB, hclB⟩, hPc⟩ := hp
  intro T hT X
  rcases vx_callVX X hx (C := C) (hh := hh) (bytes := bytes) (maxL := maxL) (ret := ret) ho hl hin hse hcode hy hK (by rw [hT]; exact hcB) hoB hclB hg (hsize.trans hml.symm) (argsL := As) (rest := rest) (fun sig h => hn.trans (hlen sig h)) hstack hW (by rw [hb]; exact hdg)
    (fun vm₁ hW₁ => ⟨hf.1, hf.2, hPc (T.setVm vm₁) hT hW₁⟩) with ⟨v, vm₁, ⟨U', l2, c2, s2⟩, hW₁, X', ⟨g', mk, t, L, e1, e2, hq, h1, hL, h2, h3⟩, st⟩ | ⟨q, vm₁, ⟨U', l2, c2, s2⟩, hW₁, X', ⟨g', mk, t, L, E, ce, e1, e2, hq, hce, hcv, hcl, h1, hL, h2, h3⟩, st⟩
  · dsimp only [Pt.U, Pt.locs, Pt.cells, Pt.slots] at X' e1 e2 h1 h2 h3 st
    subst h1; subst h2; subst h3
    exact Or.inl ⟨v, (T.setVm vm₁).calling g' mk (Value.ref b :: As).toArray, t, U', L, hT, X', hL, e1, e2, hq, st⟩
  · dsimp only [Pt.U, Pt.locs, Pt.cells, Pt.slots] at X' e1 e2 h1 h2 h3 st hcl
    subst h1; subst h2; subst h3
    exact Or.inr ⟨q, (T.setVm vm₁).calling g' mk (Value.ref b :: As).toArray, t, U', L, E, ce, hT, X', hL, e1, e2, hq, hce, hcv, vx_cls hW₁ hcl, st⟩
theorem vx_runSX {hh : List (Nat × Nat × Nat × Nat)} (S : CallFix p m c cc nL s args Ts own) (hM : vx_Met l y ws rm Pc Qc XC mc ms free) (cw : vx_CSW R s args own index y bytes maxL ret hh ws rm mc ms n) (hp : PreS s H Pc As)
    (hg : g.method = m) (hn : As.length = n) (hsize : g.locals.size = nL) (hstack : g.stack = As.reverse ++ rest) (hW : 2 * g.monitorRoom + (rest.map fun v => v.category).sum ≤ 8) (hdg : decode cc g.pc = .ok (.invokestatic index, 3)) (hf : cells + mc ≤ R.cells ∧ slots + ms ≤ R.slots) :
    vx_Run p l e R s m args below meth c H locs cells slots mc ms g rest (Qc As.toArray) XC free := by
  obtain ⟨⟨hrc, hrs, hfr, hlo, hws, hcw⟩, hcode, hini, hy, hlen, hl, hstt⟩ := cw
  have hK : vx_Back l R p e below s args y 3 8 (PreOf R mc ms Pc) (PostOf Qc mc ms free) (vx_Post XC mc ms free) := vx_backW (hh := hh) (bytes := bytes) (maxL := maxL) (ret := ret) hM hp.1 hrc hrs hfr hlo hws hcw (fun a' U hW => word_at hW (Or.inl (by first | rfl | simp [Cond.onTables, Cond.keeps, Cond.steady])) hini)
  obtain ⟨hx, hb, hml, ho, -⟩ := S
  intro T hT X
  rcases vx_callSX X hx (hh := hh) (bytes := bytes) (maxL := maxL) (ret := ret) ho hl hstt hini hcode hy hK hg (hsize.trans hml.symm) (argsL := As) (rest := rest) (fun sig h => hn.trans (hlen sig h)) hstack hW (by rw [hb]; exact hdg)
    (fun vm₁ hW₁ => ⟨hf.1, hf.2, hp.2 (T.setVm vm₁) hT hW₁⟩) with ⟨v, vm₁, ⟨U', l2, c2, s2⟩, hW₁, X', ⟨g', mk, t, L, e1, e2, hq, h1, hL, h2, h3⟩, st⟩ | ⟨q, vm₁, ⟨U', l2, c2, s2⟩, hW₁, X', ⟨g', mk, t, L, E, ce, e1, e2, hq, hce, hcv, hcl, h1, hL, h2, h3⟩, st⟩
  · dsimp only [Pt.U, Pt.locs, Pt.cells, Pt.slots] at X' e1 e2 h1 h2 h3 st
    subst h1; subst h2; subst h3
    exact Or.inl ⟨v, (T.setVm vm₁).calling g' mk As.toArray, t, U', L, hT, X', hL, e1, e2, hq, st⟩
  · dsimp only [Pt.U, Pt.locs, Pt.cells, Pt.slots] at X' e1 e2 h1 h2 h3 st hcl
    subst h1; subst h2; subst h3
    exact Or.inr ⟨q, (T.setVm vm₁).calling g' mk As.toArray, t, U', L, E, ce, hT, X', hL, e1, e2, hq, hce, hcv, vx_cls hW₁ hcl, st⟩
end
end VXH
theorem vx_ofWH {l : Launch} {y : MethodName} {ws ws' : List Cond} {rm : Room} {Pc : Array Value → State → Prop} {Qc : Array Value → State → Outcome → State → Prop} {XC : String → State → State → Prop} {mc ms : Nat} {free : Addr → Prop} {cc : ByteArray} {maxL : Nat} {ret : Option FieldType} {hh : List (Nat × Nat × Nat × Nat)}
    (hy : plainName y.cls = true) (hw : ws = Cond.codeWith y cc maxL ret hh :: ws')
    (body : ∀ p e s m args below meth c s₁, BodyLoose p l y (headSpec ws rm) cc maxL ret e s m args below meth c s₁ → c.maxLocals = maxL → Pc args s →
      W p l e (headSpec ws rm).room s m args below meth c s.heap [] 0 0 (vx_MQ below Qc XC args s mc ms free) (entryFrame m args maxL)) : vx_Met l y ws rm Pc Qc XC mc ms free := by
  refine MetFree.of_bodyS (code := cc) (maxLocals := maxL) (ret := ret) hy ?_ ?_
  · intro args s m h hn
    obtain ⟨m9, meth, c, hn9, h1, h2, h3, h4, -, h5, h6, -⟩ := Cond.codeWith_spec (atoms_spec (ws := ws) h _ (by rw [hw]; exact List.mem_cons_self))
    cases hn.symm.trans hn9
    exact ⟨meth, c, h1, h2, h3, h4, h5, h6⟩
  · intro p e s m args below meth c s₁ B hml hP _
    have hh0 : s₁.heap = s.heap := by rw [B.state]; rfl
    obtain ⟨t, a1, o, b1, b2, b3⟩ := body p e s m args below meth c s₁ B hml hP s₁ hh0 (Stand.of_body B)
    exact ⟨t, o, a1, b1, b2, b3⟩
/-! ===== END ===== -/
end
section
/-! the words of all methods: one list for all -/
def w_all : List Cond := lw_tbl.filter goodWord
theorem w_mem {w : Cond} (i : Nat) (h : lw_tbl[i]? = some w) (hg : goodWord w = true) : w ∈ w_all := List.mem_filter.mpr ⟨List.mem_of_getElem? h, hg⟩
theorem w_good {w : Cond} (h : w ∈ w_all) : goodWord w = true := (List.mem_filter.mp h).2
theorem w_in {c c2 : Cond} (h : c2 ∈ w_all) : GoodIn (c :: w_all) (c2 :: w_all) := by
  intro w hw
  rcases List.mem_cons.mp hw with rfl | hw
  · exact ⟨List.mem_cons_of_mem _ h, good_of_word (w_good h)⟩
  · exact ⟨List.mem_cons_of_mem _ hw, good_of_word (w_good hw)⟩
theorem w_inV {c c2 : Cond} {own C : String} {i : Nat} {y : MethodName} (h : c2 ∈ w_all) (h1 : Cond.methodLink own i y ∈ w_all) (h2 : Cond.instanceMethod y ∈ w_all) (h3 : Cond.selects C y y ∈ w_all) (h4 : Cond.initialized C ∈ w_all) : GoodIn (c :: w_all) (wsV own i C y (c2 :: w_all)) := by
  intro w hw
  unfold wsV at hw
  rcases List.mem_append.mp hw with hw | hw
  · simp only [List.mem_cons, List.not_mem_nil, or_false] at hw
    rcases hw with rfl | rfl | rfl | rfl
    · exact ⟨List.mem_cons_of_mem _ h1, good_of_word (w_good h1)⟩
    · exact ⟨List.mem_cons_of_mem _ h2, good_of_word (w_good h2)⟩
    · exact ⟨List.mem_cons_of_mem _ h3, good_of_word (w_good h3)⟩
    · exact ⟨List.mem_cons_of_mem _ h4, good_of_word (w_good h4)⟩
  · exact w_in h w hw
theorem w_inS {c c2 : Cond} {own : String} {i : Nat} {y : MethodName} (h : c2 ∈ w_all) (h1 : Cond.methodLink own i y ∈ w_all) (h2 : Cond.static y ∈ w_all) (h4 : Cond.initialized y.cls ∈ w_all) : GoodIn (c :: w_all) (va_wsS own i y (c2 :: w_all)) := by
  intro w hw
  unfold va_wsS at hw
  rcases List.mem_append.mp hw with hw | hw
  · simp only [List.mem_cons, List.not_mem_nil, or_false] at hw
    rcases hw with rfl | rfl | rfl
    · exact ⟨List.mem_cons_of_mem _ h1, good_of_word (w_good h1)⟩
    · exact ⟨List.mem_cons_of_mem _ h2, good_of_word (w_good h2)⟩
    · exact ⟨List.mem_cons_of_mem _ h4, good_of_word (w_good h4)⟩
  · exact w_in h w hw
/-! partial functions: none = outside, or out of steps -/
def gd {α : Type} (p : Prop) [Decidable p] (x : Option α) : Option α := if p then none else x
theorem gd_inv {α : Type} {p : Prop} [Decidable p] {x : Option α} {r : α} (h : gd p x = some r) : ¬ p ∧ x = some r := by
  unfold gd at h
  by_cases hp : p
  · rw [if_pos hp] at h; cases h
  · rw [if_neg hp] at h; exact ⟨hp, h⟩
theorem it_t {α : Type} {c : Prop} [Decidable c] {a b : Option α} {r : α} (h : (if c then a else b) = some r) (hc : c) : a = some r := by rw [if_pos hc] at h; exact h
theorem it_f {α : Type} {c : Prop} [Decidable c] {a b : Option α} {r : α} (h : (if c then a else b) = some r) (hc : ¬ c) : b = some r := by rw [if_neg hc] at h; exact h
def fu : Nat := 5000
def ob1 {A Z : Type} (o : Option (A)) (k : A → Option Z) : Option Z := match o with
  | none => none
  | some q => k q
theorem ob1_inv {A Z : Type} {o : Option (A)} {k : A → Option Z} {z : Z} (h : ob1 o k = some z) : ∃ x0, o = some x0 ∧ k x0 = some z := by
  cases o with
  | none => cases h
  | some q => exact ⟨q, rfl, h⟩
def ob2 {A B Z : Type} (o : Option (A × B)) (k : A → B → Option Z) : Option Z := match o with
  | none => none
  | some q => k q.1 q.2
theorem ob2_inv {A B Z : Type} {o : Option (A × B)} {k : A → B → Option Z} {z : Z} (h : ob2 o k = some z) : ∃ x0 x1, o = some (x0, x1) ∧ k x0 x1 = some z := by
  cases o with
  | none => cases h
  | some q => exact ⟨q.1, q.2, rfl, h⟩
def ob3 {A B C Z : Type} (o : Option (A × B × C)) (k : A → B → C → Option Z) : Option Z := match o with
  | none => none
  | some q => k q.1 q.2.1 q.2.2
theorem ob3_inv {A B C Z : Type} {o : Option (A × B × C)} {k : A → B → C → Option Z} {z : Z} (h : ob3 o k = some z) : ∃ x0 x1 x2, o = some (x0, x1, x2) ∧ k x0 x1 x2 = some z := by
  cases o with
  | none => cases h
  | some q => exact ⟨q.1, q.2.1, q.2.2, rfl, h⟩
def ob4 {A B C D Z : Type} (o : Option (A × B × C × D)) (k : A → B → C → D → Option Z) : Option Z := match o with
  | none => none
  | some q => k q.1 q.2.1 q.2.2.1 q.2.2.2
theorem ob4_inv {A B C D Z : Type} {o : Option (A × B × C × D)} {k : A → B → C → D → Option Z} {z : Z} (h : ob4 o k = some z) : ∃ x0 x1 x2 x3, o = some (x0, x1, x2, x3) ∧ k x0 x1 x2 x3 = some z := by
  cases o with
  | none => cases h
  | some q => exact ⟨q.1, q.2.1, q.2.2.1, q.2.2.2, rfl, h⟩
def ob5 {A B C D E Z : Type} (o : Option (A × B × C × D × E)) (k : A → B → C → D → E → Option Z) : Option Z := match o with
  | none => none
  | some q => k q.1 q.2.1 q.2.2.1 q.2.2.2.1 q.2.2.2.2
theorem ob5_inv {A B C D E Z : Type} {o : Option (A × B × C × D × E)} {k : A → B → C → D → E → Option Z} {z : Z} (h : ob5 o k = some z) : ∃ x0 x1 x2 x3 x4, o = some (x0, x1, x2, x3, x4) ∧ k x0 x1 x2 x3 x4 = some z := by
  cases o with
  | none => cases h
  | some q => exact ⟨q.1, q.2.1, q.2.2.1, q.2.2.2.1, q.2.2.2.2, rfl, h⟩
def ob6 {A B C D E F Z : Type} (o : Option (A × B × C × D × E × F)) (k : A → B → C → D → E → F → Option Z) : Option Z := match o with
  | none => none
  | some q => k q.1 q.2.1 q.2.2.1 q.2.2.2.1 q.2.2.2.2.1 q.2.2.2.2.2
theorem ob6_inv {A B C D E F Z : Type} {o : Option (A × B × C × D × E × F)} {k : A → B → C → D → E → F → Option Z} {z : Z} (h : ob6 o k = some z) : ∃ x0 x1 x2 x3 x4 x5, o = some (x0, x1, x2, x3, x4, x5) ∧ k x0 x1 x2 x3 x4 x5 = some z := by
  cases o with
  | none => cases h
  | some q => exact ⟨q.1, q.2.1, q.2.2.1, q.2.2.2.1, q.2.2.2.2.1, q.2.2.2.2.2, rfl, h⟩
def ob7 {A B C D E F G Z : Type} (o : Option (A × B × C × D × E × F × G)) (k : A → B → C → D → E → F → G → Option Z) : Option Z := match o with
  | none => none
  | some q => k q.1 q.2.1 q.2.2.1 q.2.2.2.1 q.2.2.2.2.1 q.2.2.2.2.2.1 q.2.2.2.2.2.2
theorem ob7_inv {A B C D E F G Z : Type} {o : Option (A × B × C × D × E × F × G)} {k : A → B → C → D → E → F → G → Option Z} {z : Z} (h : ob7 o k = some z) : ∃ x0 x1 x2 x3 x4 x5 x6, o = some (x0, x1, x2, x3, x4, x5, x6) ∧ k x0 x1 x2 x3 x4 x5 x6 = some z := by
  cases o with
  | none => cases h
  | some q => exact ⟨q.1, q.2.1, q.2.2.1, q.2.2.2.1, q.2.2.2.2.1, q.2.2.2.2.2.1, q.2.2.2.2.2.2, rfl, h⟩
def ob8 {A B C D E F G H Z : Type} (o : Option (A × B × C × D × E × F × G × H)) (k : A → B → C → D → E → F → G → H → Option Z) : Option Z := match o with
  | none => none
  | some q => k q.1 q.2.1 q.2.2.1 q.2.2.2.1 q.2.2.2.2.1 q.2.2.2.2.2.1 q.2.2.2.2.2.2.1 q.2.2.2.2.2.2.2
theorem ob8_inv {A B C D E F G H Z : Type} {o : Option (A × B × C × D × E × F × G × H)} {k : A → B → C → D → E → F → G → H → Option Z} {z : Z} (h : ob8 o k = some z) : ∃ x0 x1 x2 x3 x4 x5 x6 x7, o = some (x0, x1, x2, x3, x4, x5, x6, x7) ∧ k x0 x1 x2 x3 x4 x5 x6 x7 = some z := by
  cases o with
  | none => cases h
  | some q => exact ⟨q.1, q.2.1, q.2.2.1, q.2.2.2.1, q.2.2.2.2.1, q.2.2.2.2.2.1, q.2.2.2.2.2.2.1, q.2.2.2.2.2.2.2, rfl, h⟩
def ob9 {A B C D E F G H I Z : Type} (o : Option (A × B × C × D × E × F × G × H × I)) (k : A → B → C → D → E → F → G → H → I → Option Z) : Option Z := match o with
  | none => none
  | some q => k q.1 q.2.1 q.2.2.1 q.2.2.2.1 q.2.2.2.2.1 q.2.2.2.2.2.1 q.2.2.2.2.2.2.1 q.2.2.2.2.2.2.2.1 q.2.2.2.2.2.2.2.2
theorem ob9_inv {A B C D E F G H I Z : Type} {o : Option (A × B × C × D × E × F × G × H × I)} {k : A → B → C → D → E → F → G → H → I → Option Z} {z : Z} (h : ob9 o k = some z) : ∃ x0 x1 x2 x3 x4 x5 x6 x7 x8, o = some (x0, x1, x2, x3, x4, x5, x6, x7, x8) ∧ k x0 x1 x2 x3 x4 x5 x6 x7 x8 = some z := by
  cases o with
  | none => cases h
  | some q => exact ⟨q.1, q.2.1, q.2.2.1, q.2.2.2.1, q.2.2.2.2.1, q.2.2.2.2.2.1, q.2.2.2.2.2.2.1, q.2.2.2.2.2.2.2.1, q.2.2.2.2.2.2.2.2, rfl, h⟩
def ob10 {A B C D E F G H I J Z : Type} (o : Option (A × B × C × D × E × F × G × H × I × J)) (k : A → B → C → D → E → F → G → H → I → J → Option Z) : Option Z := match o with
  | none => none
  | some q => k q.1 q.2.1 q.2.2.1 q.2.2.2.1 q.2.2.2.2.1 q.2.2.2.2.2.1 q.2.2.2.2.2.2.1 q.2.2.2.2.2.2.2.1 q.2.2.2.2.2.2.2.2.1 q.2.2.2.2.2.2.2.2.2
theorem ob10_inv {A B C D E F G H I J Z : Type} {o : Option (A × B × C × D × E × F × G × H × I × J)} {k : A → B → C → D → E → F → G → H → I → J → Option Z} {z : Z} (h : ob10 o k = some z) : ∃ x0 x1 x2 x3 x4 x5 x6 x7 x8 x9, o = some (x0, x1, x2, x3, x4, x5, x6, x7, x8, x9) ∧ k x0 x1 x2 x3 x4 x5 x6 x7 x8 x9 = some z := by
  cases o with
  | none => cases h
  | some q => exact ⟨q.1, q.2.1, q.2.2.1, q.2.2.2.1, q.2.2.2.2.1, q.2.2.2.2.2.1, q.2.2.2.2.2.2.1, q.2.2.2.2.2.2.2.1, q.2.2.2.2.2.2.2.2.1, q.2.2.2.2.2.2.2.2.2, rfl, h⟩
def ob11 {A B C D E F G H I J K Z : Type} (o : Option (A × B × C × D × E × F × G × H × I × J × K)) (k : A → B → C → D → E → F → G → H → I → J → K → Option Z) : Option Z := match o with
  | none => none
  | some q => k q.1 q.2.1 q.2.2.1 q.2.2.2.1 q.2.2.2.2.1 q.2.2.2.2.2.1 q.2.2.2.2.2.2.1 q.2.2.2.2.2.2.2.1 q.2.2.2.2.2.2.2.2.1 q.2.2.2.2.2.2.2.2.2.1 q.2.2.2.2.2.2.2.2.2.2
theorem ob11_inv {A B C D E F G H I J K Z : Type} {o : Option (A × B × C × D × E × F × G × H × I × J × K)} {k : A → B → C → D → E → F → G → H → I → J → K → Option Z} {z : Z} (h : ob11 o k = some z) : ∃ x0 x1 x2 x3 x4 x5 x6 x7 x8 x9 x10, o = some (x0, x1, x2, x3, x4, x5, x6, x7, x8, x9, x10) ∧ k x0 x1 x2 x3 x4 x5 x6 x7 x8 x9 x10 = some z := by
  cases o with
  | none => cases h
  | some q => exact ⟨q.1, q.2.1, q.2.2.1, q.2.2.2.1, q.2.2.2.2.1, q.2.2.2.2.2.1, q.2.2.2.2.2.2.1, q.2.2.2.2.2.2.2.1, q.2.2.2.2.2.2.2.2.1, q.2.2.2.2.2.2.2.2.2.1, q.2.2.2.2.2.2.2.2.2.2, rfl, h⟩
def ob12 {A B C D E F G H I J K L Z : Type} (o : Option (A × B × C × D × E × F × G × H × I × J × K × L)) (k : A → B → C → D → E → F → G → H → I → J → K → L → Option Z) : Option Z := match o with
  | none => none
  | some q => k q.1 q.2.1 q.2.2.1 q.2.2.2.1 q.2.2.2.2.1 q.2.2.2.2.2.1 q.2.2.2.2.2.2.1 q.2.2.2.2.2.2.2.1 q.2.2.2.2.2.2.2.2.1 q.2.2.2.2.2.2.2.2.2.1 q.2.2.2.2.2.2.2.2.2.2.1 q.2.2.2.2.2.2.2.2.2.2.2
theorem ob12_inv {A B C D E F G H I J K L Z : Type} {o : Option (A × B × C × D × E × F × G × H × I × J × K × L)} {k : A → B → C → D → E → F → G → H → I → J → K → L → Option Z} {z : Z} (h : ob12 o k = some z) : ∃ x0 x1 x2 x3 x4 x5 x6 x7 x8 x9 x10 x11, o = some (x0, x1, x2, x3, x4, x5, x6, x7, x8, x9, x10, x11) ∧ k x0 x1 x2 x3 x4 x5 x6 x7 x8 x9 x10 x11 = some z := by
  cases o with
  | none => cases h
  | some q => exact ⟨q.1, q.2.1, q.2.2.1, q.2.2.2.1, q.2.2.2.2.1, q.2.2.2.2.2.1, q.2.2.2.2.2.2.1, q.2.2.2.2.2.2.2.1, q.2.2.2.2.2.2.2.2.1, q.2.2.2.2.2.2.2.2.2.1, q.2.2.2.2.2.2.2.2.2.2.1, q.2.2.2.2.2.2.2.2.2.2.2, rfl, h⟩
def ob13 {A B C D E F G H I J K L M Z : Type} (o : Option (A × B × C × D × E × F × G × H × I × J × K × L × M)) (k : A → B → C → D → E → F → G → H → I → J → K → L → M → Option Z) : Option Z := match o with
  | none => none
  | some q => k q.1 q.2.1 q.2.2.1 q.2.2.2.1 q.2.2.2.2.1 q.2.2.2.2.2.1 q.2.2.2.2.2.2.1 q.2.2.2.2.2.2.2.1 q.2.2.2.2.2.2.2.2.1 q.2.2.2.2.2.2.2.2.2.1 q.2.2.2.2.2.2.2.2.2.2.1 q.2.2.2.2.2.2.2.2.2.2.2.1 q.2.2.2.2.2.2.2.2.2.2.2.2
theorem ob13_inv {A B C D E F G H I J K L M Z : Type} {o : Option (A × B × C × D × E × F × G × H × I × J × K × L × M)} {k : A → B → C → D → E → F → G → H → I → J → K → L → M → Option Z} {z : Z} (h : ob13 o k = some z) : ∃ x0 x1 x2 x3 x4 x5 x6 x7 x8 x9 x10 x11 x12, o = some (x0, x1, x2, x3, x4, x5, x6, x7, x8, x9, x10, x11, x12) ∧ k x0 x1 x2 x3 x4 x5 x6 x7 x8 x9 x10 x11 x12 = some z := by
  cases o with
  | none => cases h
  | some q => exact ⟨q.1, q.2.1, q.2.2.1, q.2.2.2.1, q.2.2.2.2.1, q.2.2.2.2.2.1, q.2.2.2.2.2.2.1, q.2.2.2.2.2.2.2.1, q.2.2.2.2.2.2.2.2.1, q.2.2.2.2.2.2.2.2.2.1, q.2.2.2.2.2.2.2.2.2.2.1, q.2.2.2.2.2.2.2.2.2.2.2.1, q.2.2.2.2.2.2.2.2.2.2.2.2, rfl, h⟩
def ob14 {A B C D E F G H I J K L M N Z : Type} (o : Option (A × B × C × D × E × F × G × H × I × J × K × L × M × N)) (k : A → B → C → D → E → F → G → H → I → J → K → L → M → N → Option Z) : Option Z := match o with
  | none => none
  | some q => k q.1 q.2.1 q.2.2.1 q.2.2.2.1 q.2.2.2.2.1 q.2.2.2.2.2.1 q.2.2.2.2.2.2.1 q.2.2.2.2.2.2.2.1 q.2.2.2.2.2.2.2.2.1 q.2.2.2.2.2.2.2.2.2.1 q.2.2.2.2.2.2.2.2.2.2.1 q.2.2.2.2.2.2.2.2.2.2.2.1 q.2.2.2.2.2.2.2.2.2.2.2.2.1 q.2.2.2.2.2.2.2.2.2.2.2.2.2
theorem ob14_inv {A B C D E F G H I J K L M N Z : Type} {o : Option (A × B × C × D × E × F × G × H × I × J × K × L × M × N)} {k : A → B → C → D → E → F → G → H → I → J → K → L → M → N → Option Z} {z : Z} (h : ob14 o k = some z) : ∃ x0 x1 x2 x3 x4 x5 x6 x7 x8 x9 x10 x11 x12 x13, o = some (x0, x1, x2, x3, x4, x5, x6, x7, x8, x9, x10, x11, x12, x13) ∧ k x0 x1 x2 x3 x4 x5 x6 x7 x8 x9 x10 x11 x12 x13 = some z := by
  cases o with
  | none => cases h
  | some q => exact ⟨q.1, q.2.1, q.2.2.1, q.2.2.2.1, q.2.2.2.2.1, q.2.2.2.2.2.1, q.2.2.2.2.2.2.1, q.2.2.2.2.2.2.2.1, q.2.2.2.2.2.2.2.2.1, q.2.2.2.2.2.2.2.2.2.1, q.2.2.2.2.2.2.2.2.2.2.1, q.2.2.2.2.2.2.2.2.2.2.2.1, q.2.2.2.2.2.2.2.2.2.2.2.2.1, q.2.2.2.2.2.2.2.2.2.2.2.2.2, rfl, h⟩
end
section
/-! classes and their fields, by program out of javap -/
def kR0 : String := "LockTable$Locks"
def kT0 : u_T := fun k => match k with
  | 0 => ("LockTable$Locks", "tableModes", "[I", true)
  | 1 => ("LockTable$Locks", "owners", "[I", true)
  | 2 => ("LockTable$Locks", "tables", "[I", true)
  | 3 => ("LockTable$Locks", "lows", "[J", true)
  | 4 => ("LockTable$Locks", "highs", "[J", true)
  | 5 => ("LockTable$Locks", "modes", "[I", true)
  | _ => ("LockTable$Locks", "count", "I", false)
def kt0 : Nat → FieldType := fun k => match k with
  | 0 => .array .int
  | 1 => .array .int
  | 2 => .array .int
  | 3 => .array .long
  | 4 => .array .long
  | 5 => .array .int
  | _ => .int
theorem kn0 : ∀ a, a < 7 → ∀ b, b < 7 → a ≠ b → (kT0 a).2.1 ≠ (kT0 b).2.1 := by decide +kernel
theorem ko0 : ∀ k, k < 7 → parseFieldDescriptor (kT0 k).2.2.1 = some (kt0 k) := by decide +kernel
theorem kw0 : ∀ w ∈ u_ws kR0 kT0 7, w ∈ w_all := by decide +kernel
def kR1 : String := "LockTable$Requests"
def kT1 : u_T := fun k => match k with
  | 0 => ("LockTable$Requests", "tables", "[I", true)
  | 1 => ("LockTable$Requests", "onRange", "[Z", true)
  | 2 => ("LockTable$Requests", "lows", "[J", true)
  | 3 => ("LockTable$Requests", "highs", "[J", true)
  | 4 => ("LockTable$Requests", "modes", "[I", true)
  | 5 => ("LockTable$Requests", "inner", "[Z", true)
  | 6 => ("LockTable$Requests", "escalating", "[Z", true)
  | 7 => ("LockTable$Requests", "since", "[I", true)
  | 8 => ("LockTable$Requests", "line", "[I", true)
  | 9 => ("LockTable$Requests", "waiting", "I", false)
  | 10 => ("LockTable$Requests", "arrivals", "[I", true)
  | _ => ("LockTable$Requests", "arrived", "I", false)
def kt1 : Nat → FieldType := fun k => match k with
  | 0 => .array .int
  | 1 => .array .boolean
  | 2 => .array .long
  | 3 => .array .long
  | 4 => .array .int
  | 5 => .array .boolean
  | 6 => .array .boolean
  | 7 => .array .int
  | 8 => .array .int
  | 9 => .int
  | 10 => .array .int
  | _ => .int
theorem kn1 : ∀ a, a < 12 → ∀ b, b < 12 → a ≠ b → (kT1 a).2.1 ≠ (kT1 b).2.1 := by decide +kernel
theorem ko1 : ∀ k, k < 12 → parseFieldDescriptor (kT1 k).2.2.1 = some (kt1 k) := by decide +kernel
theorem kw1 : ∀ w ∈ u_ws kR1 kT1 12, w ∈ w_all := by decide +kernel
def kR2 : String := "LockTable"
def kT2 : u_T := fun k => match k with
  | 0 => ("LockTable", "states", "[I", true)
  | 1 => ("LockTable", "serials", "[I", true)
  | 2 => ("LockTable", "locks", "LLockTable$Locks;", true)
  | 3 => ("LockTable", "requests", "LLockTable$Requests;", true)
  | 4 => ("LockTable", "reached", "[I", true)
  | 5 => ("LockTable", "grants", "[I", true)
  | 6 => ("LockTable", "grantCount", "I", false)
  | 7 => ("LockTable", "caller", "I", false)
  | 8 => ("LockTable", "lastSerial", "I", false)
  | 9 => ("LockTable", "timeLimit", "I", false)
  | _ => ("LockTable", "now", "I", false)
def kt2 : Nat → FieldType := fun k => match k with
  | 0 => .array .int
  | 1 => .array .int
  | 2 => .object "LockTable$Locks"
  | 3 => .object "LockTable$Requests"
  | 4 => .array .int
  | 5 => .array .int
  | 6 => .int
  | 7 => .int
  | 8 => .int
  | 9 => .int
  | _ => .int
theorem kn2 : ∀ a, a < 11 → ∀ b, b < 11 → a ≠ b → (kT2 a).2.1 ≠ (kT2 b).2.1 := by decide +kernel
theorem ko2 : ∀ k, k < 11 → parseFieldDescriptor (kT2 k).2.2.1 = some (kt2 k) := by decide +kernel
theorem kw2 : ∀ w ∈ u_ws kR2 kT2 11, w ∈ w_all := by decide +kernel
def kR3 : String := "LockTableModel"
def kT3 : u_T := fun k => match k with
  | 0 => ("LockTableModel", "thrown", "I", false)
  | 1 => ("LockTableModel", "states", "[I", true)
  | 2 => ("LockTableModel", "serials", "[I", true)
  | 3 => ("LockTableModel", "latest", "I", false)
  | 4 => ("LockTableModel", "modes", "[I", true)
  | 5 => ("LockTableModel", "rangeCount", "I", false)
  | 6 => ("LockTableModel", "rangeOwner", "[I", true)
  | 7 => ("LockTableModel", "rangeTable", "[I", true)
  | 8 => ("LockTableModel", "rangeMode", "[I", true)
  | 9 => ("LockTableModel", "rangeLow", "[J", true)
  | 10 => ("LockTableModel", "rangeHigh", "[J", true)
  | 11 => ("LockTableModel", "wantKind", "[I", true)
  | 12 => ("LockTableModel", "wantTable", "[I", true)
  | 13 => ("LockTableModel", "wantMode", "[I", true)
  | 14 => ("LockTableModel", "wantLow", "[J", true)
  | 15 => ("LockTableModel", "wantHigh", "[J", true)
  | 16 => ("LockTableModel", "wantInner", "[Z", true)
  | 17 => ("LockTableModel", "wantCame", "[I", true)
  | 18 => ("LockTableModel", "wantTicks", "[I", true)
  | 19 => ("LockTableModel", "arrivals", "I", false)
  | 20 => ("LockTableModel", "limit", "I", false)
  | 21 => ("LockTableModel", "grants", "I", false)
  | 22 => ("LockTableModel", "grantedOwners", "[I", true)
  | 23 => ("LockTableModel", "reach", "[I", true)
  | _ => ("LockTableModel", "freed", "Z", false)
def kt3 : Nat → FieldType := fun k => match k with
  | 0 => .int
  | 1 => .array .int
  | 2 => .array .int
  | 3 => .int
  | 4 => .array .int
  | 5 => .int
  | 6 => .array .int
  | 7 => .array .int
  | 8 => .array .int
  | 9 => .array .long
  | 10 => .array .long
  | 11 => .array .int
  | 12 => .array .int
  | 13 => .array .int
  | 14 => .array .long
  | 15 => .array .long
  | 16 => .array .boolean
  | 17 => .array .int
  | 18 => .array .int
  | 19 => .int
  | 20 => .int
  | 21 => .int
  | 22 => .array .int
  | 23 => .array .int
  | _ => .boolean
theorem kn3 : ∀ a, a < 25 → ∀ b, b < 25 → a ≠ b → (kT3 a).2.1 ≠ (kT3 b).2.1 := by decide +kernel
theorem ko3 : ∀ k, k < 25 → parseFieldDescriptor (kT3 k).2.2.1 = some (kt3 k) := by decide +kernel
theorem kw3 : ∀ w ∈ u_ws kR3 kT3 25, w ∈ w_all := by decide +kernel
abbrev kcl : List vw_C := [(kR0, kT0, 7), (kR1, kT1, 12), (kR2, kT2, 11), (kR3, kT3, 25)]
def kStr : List (Nat × String) := [(204, "there is no such owner"), (52, "the owner is not idle"), (206, "there is no such table"), (208, "there is no such mode"), (216, "the owner does not work"), (210, "low is above high"), (212, "a range is locked in S, U or X"), (103, "the table is not held as the range needs it"), (125, "the owner has no range lock on the table"), (218, "the owner does not wait"), (146, "the owner is idle"), (214, "ticks are 0 to 1000"), (179, "there is no such thing to ask for")]
end
section
/-! contracts of one form, and their calls -/
theorem w_in2 {c2 : Cond} (h : c2 ∈ w_all) : GoodIn w_all (c2 :: w_all) := by
  intro w hw
  rcases List.mem_cons.mp hw with rfl | hw
  · exact ⟨h, good_of_word (w_good h)⟩
  · exact ⟨hw, good_of_word (w_good hw)⟩
theorem w_inV2 {c2 : Cond} {own C : String} {i : Nat} {y : MethodName} (h : c2 ∈ w_all) (h1 : Cond.methodLink own i y ∈ w_all) (h2 : Cond.instanceMethod y ∈ w_all) (h3 : Cond.selects C y y ∈ w_all) (h4 : Cond.initialized C ∈ w_all) : GoodIn w_all (wsV own i C y (c2 :: w_all)) := by
  intro w hw
  unfold wsV at hw
  rcases List.mem_append.mp hw with hw | hw
  · simp only [List.mem_cons, List.not_mem_nil, or_false] at hw
    rcases hw with rfl | rfl | rfl | rfl
    · exact ⟨h1, good_of_word (w_good h1)⟩
    · exact ⟨h2, good_of_word (w_good h2)⟩
    · exact ⟨h3, good_of_word (w_good h3)⟩
    · exact ⟨h4, good_of_word (w_good h4)⟩
  · exact w_in2 h w hw
theorem w_inS2 {c2 : Cond} {own : String} {i : Nat} {y : MethodName} (h : c2 ∈ w_all) (h1 : Cond.methodLink own i y ∈ w_all) (h2 : Cond.static y ∈ w_all) (h4 : Cond.initialized y.cls ∈ w_all) : GoodIn w_all (va_wsS own i y (c2 :: w_all)) := by
  intro w hw
  unfold va_wsS at hw
  rcases List.mem_append.mp hw with hw | hw
  · simp only [List.mem_cons, List.not_mem_nil, or_false] at hw
    rcases hw with rfl | rfl | rfl
    · exact ⟨h1, good_of_word (w_good h1)⟩
    · exact ⟨h2, good_of_word (w_good h2)⟩
    · exact ⟨h4, good_of_word (w_good h4)⟩
  · exact w_in2 h w hw
def tgF : Nat → Int32 := fun j => [31, 3, 21, 1, 5, 0].getD j 0
def btF : Nat → Int32 := fun j => [0, 0, 4, 4, 4, 52].getD j 0
def brF : Nat → Int32 := fun j => [0, 0, 4, 0, 20, 52].getD j 0
def kSt (n : String) (f : Nat → Int32) (A : Nat → Prop) (U : State) (H : Heap) : Prop := ∃ t : Nat, va_Z "LockTable$Modes" n "[I" (.ref t) A U H ∧ va_T .int t 6 (fun j => .int (f j)) A U H
theorem kSt.moved {n : String} {f : Nat → Int32} {A : Nat → Prop} {u U : State} {H : Heap} (hvm : u.vm.Alike U.vm) (h : kSt n f A u H) : kSt n f A U H := by
  obtain ⟨t, a, b⟩ := h
  exact ⟨t, a.moved hvm, b.moved hvm⟩
theorem kSt.kept {n : String} {f : Nat → Int32} {A : Nat → Prop} {U : State} {H H1 : Heap} (h : kSt n f A U H) (hq : ∀ a : Nat, a < H.size → ¬ A a → H1[a]? = H[a]?) : kSt n f A U H1 := by
  obtain ⟨t, a, b⟩ := h
  exact ⟨t, a.kept hq, b.kept hq⟩
theorem kSt.narrow {n : String} {f : Nat → Int32} {A B : Nat → Prop} {U : State} {H : Heap} (h : kSt n f A U H) (hAB : ∀ q, B q → A q) : kSt n f B U H := by
  obtain ⟨t, a, b⟩ := h
  exact ⟨t, a.narrow hAB, b.narrow hAB⟩
def kE (A : Nat → Prop) (U : State) (H : Heap) : Prop := (kSt "TOGETHER" tgF A U H ∧ kSt "BY_TABLE" btF A U H ∧ kSt "BY_RANGE" brF A U H) ∧ (vx_Zq Bundle.tN "UNASSIGNED_STACK" Bundle.steD A U H ∧ vx_Zq Bundle.tN "SUPPRESSED_SENTINEL" Bundle.listD A U H) ∧ ∀ q ∈ kStr, ∃ sa : Nat, vk_R "LockTable" q.1 q.2 sa U
theorem kE.moved {A : Nat → Prop} {u U : State} {H : Heap} (hW : u.WarmedH U.vm) (h : kE A u H) : kE A U H := by
  obtain ⟨⟨a, b, c⟩, ⟨d, e⟩, f⟩ := h
  refine ⟨⟨a.moved hW.alike, b.moved hW.alike, c.moved hW.alike⟩, ⟨vx_Zq.moved hW.alike d, vx_Zq.moved hW.alike e⟩, fun q hq => ?_⟩
  obtain ⟨sa, hs⟩ := f q hq
  exact ⟨sa, vk_R.warm hW hs⟩
theorem kE.kept {A : Nat → Prop} {U : State} {H H1 : Heap} (h : kE A U H) (hq : ∀ a : Nat, a < H.size → ¬ A a → H1[a]? = H[a]?) : kE A U H1 := by
  obtain ⟨⟨a, b, c⟩, ⟨d, e⟩, f⟩ := h
  exact ⟨⟨a.kept hq, b.kept hq, c.kept hq⟩, ⟨d.kept hq, e.kept hq⟩, f⟩
theorem kE.narrow {A B : Nat → Prop} {U : State} {H : Heap} (h : kE A U H) (hAB : ∀ q, B q → A q) : kE B U H := by
  obtain ⟨⟨a, b, c⟩, ⟨d, e⟩, f⟩ := h
  exact ⟨⟨a.narrow hAB, b.narrow hAB, c.narrow hAB⟩, ⟨d.narrow hAB, e.narrow hAB⟩, f⟩
def kB (g : va_G) (tys : List (ClassId × FieldType)) (w : va_W) (A : Nat → Prop) (t : State) : Prop := va_P g kcl w t.heap ∧ va_K g kcl tys t ∧ va_D A w
def kPre (g : va_G) (tys : List (ClassId × FieldType)) (w : va_W) (sz : Nat) (U : State) : Prop := U.heap.size = sz ∧ va_P g kcl w U.heap ∧ va_K g kcl tys U ∧ va_D (fun _ => True) w ∧ kE (va_A w sz) U U.heap
abbrev kQi (g : va_G) (tys : List (ClassId × FieldType)) (w : va_W) (A : Nat → Prop) (r : Int32) : Array Value → State → Outcome → State → Prop := va_Qi (fun (r2 : Int32) (_ : Unit) => r2 = r) (fun _ t => kB g tys w A t) A
abbrev kQv (g : va_G) (tys : List (ClassId × FieldType)) (w : va_W) (A : Nat → Prop) : Array Value → State → Outcome → State → Prop := va_Qv (fun (_ : Unit) => True) (fun _ t => kB g tys w A t) A
def Ci (l : Launch) (y : MethodName) (cc : ByteArray) (nL : Nat) (rt : Option FieldType) (rm : Room) (av : List Value) (g : va_G) (tys : List (ClassId × FieldType)) (w w' : va_W) (r : Int32) : Prop :=
  ∀ sz : Nat, Met l y (Cond.code y cc nL rt :: w_all) rm (va_Pc av (kPre g tys w sz)) (kQi g tys w' (va_A w sz) r) 0 0 (va_A w sz)
def Cv (l : Launch) (y : MethodName) (cc : ByteArray) (nL : Nat) (rm : Room) (av : List Value) (g : va_G) (tys : List (ClassId × FieldType)) (w w' : va_W) : Prop :=
  ∀ sz : Nat, Met l y (Cond.code y cc nL none :: w_all) rm (va_Pc av (kPre g tys w sz)) (kQv g tys w' (va_A w sz)) 0 0 (va_A w sz)
/-- what stays the same while a method runs -/
def kX (p : Program) (s : State) (m : MethodId) (args : Array Value) (meth : Method) (c : Code) (own : String) (cc : ByteArray) (nL : Nat) (rt : Option FieldType) (A : Nat → Prop) (g : va_G) (tys : List (ClassId × FieldType)) : Prop :=
  p.tables.exec = Jvm.exec ∧ c.code = cc ∧ meth.sig.returnType = rt ∧ c.maxLocals = nL ∧ s.vm.findClass own = some m.cls ∧ (∀ w ∈ w_all, w.before args s = true) ∧ meth.locks = false ∧ va_K g kcl tys s ∧ (∀ q : Nat, s.heap.size ≤ q → A q) ∧ kE A s s.heap
theorem kX_of {p : Program} {l : Launch} {y : MethodName} {cc : ByteArray} {nL : Nat} {rt : Option FieldType} {rm : Room} {e : Env} {s : State} {m : MethodId} {args : Array Value} {below : List Frame} {meth : Method} {c : Code} {s₁ : State} {g : va_G} {tys : List (ClassId × FieldType)} {w : va_W} {sz : Nat}
    (B : BodyLoose p l y (headSpec (Cond.code y cc nL rt :: w_all) rm) cc nL rt e s m args below meth c s₁) (hml : c.maxLocals = nL) (hv : kPre g tys w sz s) : ∃ A : Nat → Prop, A = va_A w sz ∧ kX p s m args meth c y.cls cc nL rt A g tys ∧ va_P g kcl w s.heap ∧ va_D A w ∧ va_S A s.heap s.heap [] := by
  obtain ⟨hsz, hP, hK, hD, hE⟩ := hv
  subst hsz
  have hts := atoms_spec (ws := Cond.code y cc nL rt :: w_all) B.pre
  exact ⟨_, rfl, ⟨B.exec, B.bytes, B.returns, hml, findClass_of_methodNamed B.named, fun w h => hts w (List.mem_cons_of_mem _ h), B.notSynchronized, hK, fun q h => Or.inr h, hE⟩, hP, hD.self, va_S.rf⟩
theorem Ci.of {l : Launch} {y : MethodName} {cc : ByteArray} {nL : Nat} {rt : Option FieldType} {rm : Room} {av : List Value} {g : va_G} {tys : List (ClassId × FieldType)} {w w' : va_W} {r : Int32} (hy : plainName y.cls = true) (hlen : (lg_sl av).length ≤ nL)
    (body : ∀ (p : Program) (e : Env) (s : State) (m : MethodId) (below : List Frame) (meth : Method) (c : Code) (A : Nat → Prop) (ls : Array Slot), kX p s m av.toArray meth c y.cls cc nL rt A g tys → va_P g kcl w s.heap → va_D A w → va_S A s.heap s.heap [] → lv_has ls nL (lv_args 0 av) →
      W p l e rm s m av.toArray below meth c s.heap [] 0 0 (MQ below (kQi g tys w' A r) av.toArray s 0 0 A) (F0 m 0 ls [])) : Ci l y cc nL rt rm av g tys w w' r := by
  intro sz
  refine Met.ofW (cc := cc) (maxL := nL) (ret := rt) hy rfl ?_
  intro p e s m args below meth c s₁ B hml hv
  obtain ⟨rfl, hv⟩ := hv
  obtain ⟨A, hA, hX, hP, hD, hS⟩ := kX_of B hml hv
  subst hA
  rw [lg_entry_eq]
  exact body p e s m below meth c _ _ hX hP hD hS (lv_entry av hlen)
theorem Cv.of {l : Launch} {y : MethodName} {cc : ByteArray} {nL : Nat} {rm : Room} {av : List Value} {g : va_G} {tys : List (ClassId × FieldType)} {w w' : va_W} (hy : plainName y.cls = true) (hlen : (lg_sl av).length ≤ nL)
    (body : ∀ (p : Program) (e : Env) (s : State) (m : MethodId) (below : List Frame) (meth : Method) (c : Code) (A : Nat → Prop) (ls : Array Slot), kX p s m av.toArray meth c y.cls cc nL none A g tys → va_P g kcl w s.heap → va_D A w → va_S A s.heap s.heap [] → lv_has ls nL (lv_args 0 av) →
      W p l e rm s m av.toArray below meth c s.heap [] 0 0 (MQ below (kQv g tys w' A) av.toArray s 0 0 A) (F0 m 0 ls [])) : Cv l y cc nL rm av g tys w w' := by
  intro sz
  refine Met.ofW (cc := cc) (maxL := nL) (ret := none) hy rfl ?_
  intro p e s m args below meth c s₁ B hml hv
  obtain ⟨rfl, hv⟩ := hv
  obtain ⟨A, hA, hX, hP, hD, hS⟩ := kX_of B hml hv
  subst hA
  rw [lg_entry_eq]
  exact body p e s m below meth c _ _ hX hP hD hS (lv_entry av hlen)
theorem kPre_blind {av : List Value} {g : va_G} {tys : List (ClassId × FieldType)} {w : va_W} {sz : Nat} : FrameBlind (va_Pc av (kPre g tys w sz)) := by
  intro a U gf mk q
  obtain ⟨q0, q1, qP, qK, qD, qE⟩ := q
  exact ⟨q0, q1, qP, va_K.moved (u := U) (U := U.calling gf mk a) (Vm.Alike.refl U.vm) qK, qD, kE.moved (u := U) (U := U.calling gf mk a) (State.WarmedH.refl U) qE⟩
section KC
variable {p : Program} {l : Launch} {e : Env} {R : Room} {s : State} {m : MethodId} {args : Array Value} {below : List Frame} {meth : Method} {c : Code} {H : Heap} {locs : List Loc} {cells slots : Nat} {Q : State → Prop}
variable {own : String} {cc : ByteArray} {nL : Nat} {rt : Option FieldType} {A : Nat → Prop} {g : va_G} {tys : List (ClassId × FieldType)} {w w' : va_W}
variable {y : MethodName} {cc2 : ByteArray} {nL2 : Nat} {rt2 : Option FieldType} {rm2 : Room} {b : Nat} {As rest st : List Value} {r : Int32} {index pc : Nat} {ls : Array Slot}
theorem kFree (K : kX p s m args meth c own cc nL rt A g tys) (hD : va_D A w) (hS : va_S A s.heap H locs) : ∀ q, va_A w H.size q → A q := by
  intro q h
  rcases h with ⟨k, e, hk⟩ | h
  · exact hD.2 k _ hk
  · exact K.2.2.2.2.2.2.2.2.1 q (Nat.le_trans hS.1 h)
theorem kAt (K : kX p s m args meth c own cc nL rt A g tys) (hP : va_P g kcl w H) (hD : va_D A w) (hS : va_S A s.heap H locs) {U : State} (hU : U.heap = H) (hW : s.WarmedH U.vm) : kPre g tys w H.size U := by
  refine ⟨by rw [hU], by rw [hU]; exact hP, va_K.moved hW.alike K.2.2.2.2.2.2.2.1, hD.weaken (fun _ _ _ _ => trivial), ?_⟩
  rw [hU]
  exact ((K.2.2.2.2.2.2.2.2.2.kept hS.2.1).moved hW).narrow (kFree K hD hS)
theorem kci (K : kX p s m args meth c own cc nL rt A g tys) (hP : va_P g kcl w H) (hD : va_D A w) (hS : va_S A s.heap H locs) (hM : Ci l y cc2 nL2 rt2 rm2 (.ref b :: As) g tys w w' r)
    (hc : Cond.code y cc2 nL2 rt2 ∈ w_all) (h1 : Cond.methodLink own index y ∈ w_all) (h2 : Cond.instanceMethod y ∈ w_all) (h3 : Cond.selects y.cls y y ∈ w_all) (h4 : Cond.initialized y.cls ∈ w_all)
    (hd : y.cls ≠ "java/lang/invoke/MethodHandle" ∧ y.cls ≠ "java/lang/invoke/VarHandle" ∧ (parseMethodDescriptor y.desc).map (fun d => d.parameters.length) = some As.length) (hrc : rm2.cells = 0) (hrs : rm2.slots = 0) (hR : rm2.frames + 1 ≤ R.frames ∧ 8 + (nL2 + 11) + rm2.locals ≤ R.locals) (hcs : cells ≤ R.cells ∧ slots ≤ R.slots)
    (ci q0 : Nat) {fs : List Value} {q : vw_C} (he : w[q0]? = some (b, .inr (ci, fs))) (hcl : kcl[ci]? = some q) (hq : q.1 = y.cls) (hsz : ls.size = nL) (hst : st = As.reverse ++ .ref b :: rest) (hroom : (rest.map fun v => v.category).sum ≤ 8) (hdg : decode cc pc = .ok (.invokevirtual index, 3))
    (kk : ∀ (H1 : Heap) (locs1 : List Loc), va_P g kcl w' H1 → va_D A w' → va_S A s.heap H1 locs1 → W p l e R s m args below meth c H1 locs1 cells slots Q (F0 m (pc + 3) ls (.int r :: rest))) : W p l e R s m args below meth c H locs cells slots Q (F0 m pc ls st) := by
  have hF := kFree K hD hS
  obtain ⟨hx, hb, -, hml, hown, hts, -, hK, -⟩ := id K
  refine va_calli (va_runV (As := As) (rest := rest) (b := b) (C := y.cls) (Ts := w_all) ⟨hx, hb, hml, hown, hts⟩ (hM H.size) (cwV As.length hts (w_inV2 hc h1 h2 h3 h4) rfl hrc hrs ⟨rfl, hd⟩ hR) ⟨kPre_blind, by rw [← hq]; exact va_recv hK hP hcl he, fun U hU hW => ⟨rfl, kAt K hP hD hS hU hW⟩⟩ rfl rfl hsz hst (lv_room hroom) hdg hcs) hS (fun q _ h => hF q h) hF (fun r2 u t H1 locs1 ht hvm hw hB hz1 hk1 hS1 => ?_)
  obtain ⟨hP1, -, hD1⟩ := hB
  rw [ht] at hP1
  subst hw
  exact kk H1 locs1 hP1 (hD1.weaken (fun _ _ _ h => hF _ h)) hS1
theorem kcv (K : kX p s m args meth c own cc nL rt A g tys) (hP : va_P g kcl w H) (hD : va_D A w) (hS : va_S A s.heap H locs) (hM : Cv l y cc2 nL2 rm2 (.ref b :: As) g tys w w')
    (hc : Cond.code y cc2 nL2 none ∈ w_all) (h1 : Cond.methodLink own index y ∈ w_all) (h2 : Cond.instanceMethod y ∈ w_all) (h3 : Cond.selects y.cls y y ∈ w_all) (h4 : Cond.initialized y.cls ∈ w_all)
    (hd : y.cls ≠ "java/lang/invoke/MethodHandle" ∧ y.cls ≠ "java/lang/invoke/VarHandle" ∧ (parseMethodDescriptor y.desc).map (fun d => d.parameters.length) = some As.length) (hrc : rm2.cells = 0) (hrs : rm2.slots = 0) (hR : rm2.frames + 1 ≤ R.frames ∧ 8 + (nL2 + 11) + rm2.locals ≤ R.locals) (hcs : cells ≤ R.cells ∧ slots ≤ R.slots)
    (ci q0 : Nat) {fs : List Value} {q : vw_C} (he : w[q0]? = some (b, .inr (ci, fs))) (hcl : kcl[ci]? = some q) (hq : q.1 = y.cls) (hsz : ls.size = nL) (hst : st = As.reverse ++ .ref b :: rest) (hroom : (rest.map fun v => v.category).sum ≤ 8) (hdg : decode cc pc = .ok (.invokevirtual index, 3))
    (kk : ∀ (H1 : Heap) (locs1 : List Loc), va_P g kcl w' H1 → va_D A w' → va_S A s.heap H1 locs1 → W p l e R s m args below meth c H1 locs1 cells slots Q (F0 m (pc + 3) ls rest)) : W p l e R s m args below meth c H locs cells slots Q (F0 m pc ls st) := by
  have hF := kFree K hD hS
  obtain ⟨hx, hb, -, hml, hown, hts, -, hK, -⟩ := id K
  refine va_callv (va_runV (As := As) (rest := rest) (b := b) (C := y.cls) (Ts := w_all) ⟨hx, hb, hml, hown, hts⟩ (hM H.size) (cwV As.length hts (w_inV2 hc h1 h2 h3 h4) rfl hrc hrs ⟨rfl, hd⟩ hR) ⟨kPre_blind, by rw [← hq]; exact va_recv hK hP hcl he, fun U hU hW => ⟨rfl, kAt K hP hD hS hU hW⟩⟩ rfl rfl hsz hst (lv_room hroom) hdg hcs) hS (fun q _ h => hF q h) hF (fun u t H1 locs1 ht hvm hw hB hz1 hk1 hS1 => ?_)
  obtain ⟨hP1, -, hD1⟩ := hB
  rw [ht] at hP1
  exact kk H1 locs1 hP1 (hD1.weaken (fun _ _ _ h => hF _ h)) hS1
theorem ksi (K : kX p s m args meth c own cc nL rt A g tys) (hP : va_P g kcl w H) (hD : va_D A w) (hS : va_S A s.heap H locs) (hM : Ci l y cc2 nL2 rt2 rm2 As g tys w w' r)
    (hc : Cond.code y cc2 nL2 rt2 ∈ w_all) (h1 : Cond.methodLink own index y ∈ w_all) (h2 : Cond.static y ∈ w_all) (h4 : Cond.initialized y.cls ∈ w_all)
    (hd : y.cls ≠ "java/lang/invoke/MethodHandle" ∧ y.cls ≠ "java/lang/invoke/VarHandle" ∧ (parseMethodDescriptor y.desc).map (fun d => d.parameters.length) = some As.length) (hrc : rm2.cells = 0) (hrs : rm2.slots = 0) (hR : rm2.frames + 1 ≤ R.frames ∧ 8 + (nL2 + 11) + rm2.locals ≤ R.locals) (hcs : cells ≤ R.cells ∧ slots ≤ R.slots)
    (hsz : ls.size = nL) (hst : st = As.reverse ++ rest) (hroom : (rest.map fun v => v.category).sum ≤ 8) (hdg : decode cc pc = .ok (.invokestatic index, 3))
    (kk : ∀ (H1 : Heap) (locs1 : List Loc), va_P g kcl w' H1 → va_D A w' → va_S A s.heap H1 locs1 → W p l e R s m args below meth c H1 locs1 cells slots Q (F0 m (pc + 3) ls (.int r :: rest))) : W p l e R s m args below meth c H locs cells slots Q (F0 m pc ls st) := by
  have hF := kFree K hD hS
  obtain ⟨hx, hb, -, hml, hown, hts, -, hK, -⟩ := id K
  refine va_calli (va_runS (As := As) (rest := rest) (Ts := w_all) ⟨hx, hb, hml, hown, hts⟩ (hM H.size) (va_cwS As.length hts (w_inS2 hc h1 h2 h4) rfl hrc hrs hd hR) ⟨kPre_blind, fun U hU hW => ⟨rfl, kAt K hP hD hS hU hW⟩⟩ rfl rfl hsz hst (lv_room hroom) hdg hcs) hS (fun q _ h => hF q h) hF (fun r2 u t H1 locs1 ht hvm hw hB hz1 hk1 hS1 => ?_)
  obtain ⟨hP1, -, hD1⟩ := hB
  rw [ht] at hP1
  subst hw
  exact kk H1 locs1 hP1 (hD1.weaken (fun _ _ _ h => hF _ h)) hS1
theorem kri (K : kX p s m args meth c own cc nL (some .int) A g tys) (hP : va_P g kcl w H) (hD : va_D A w) (hS : va_S A s.heap H locs) (hdg : decode cc pc = .ok (.ireturn, 1)) {r2 : Int32} (hr2 : r2 = r) : W p l e R s m args below meth c H locs cells slots (MQ below (kQi g tys w A r) args s cells slots A) (F0 m pc ls [.int r2]) := by
  obtain ⟨hx, hb, hr, hml, hown, hts, hlocks, hK, -⟩ := id K
  subst hr2
  exact W.iret (v := r2) hx hb hr (fun t ht hW => ⟨⟨r2, (), rfl, rfl, by rw [ht]; exact hP, va_K.moved hW.alike hK, hD⟩, hS.F ht⟩) hS.2.2 hdg
theorem krz (K : kX p s m args meth c own cc nL (some .boolean) A g tys) (hP : va_P g kcl w H) (hD : va_D A w) (hS : va_S A s.heap H locs) (hdg : decode cc pc = .ok (.ireturn, 1)) {r2 : Int32} (hn : narrow .boolean (.int r2) = .int r2) (hr2 : r2 = r) : W p l e R s m args below meth c H locs cells slots (MQ below (kQi g tys w A r) args s cells slots A) (F0 m pc ls [.int r2]) := by
  obtain ⟨hx, hb, hr, hml, hown, hts, hlocks, hK, -⟩ := id K
  subst hr2
  exact W.zret (v := r2) (ty := .boolean) hx hb hr hn (fun t ht hW => ⟨⟨r2, (), rfl, rfl, by rw [ht]; exact hP, va_K.moved hW.alike hK, hD⟩, hS.F ht⟩) hS.2.2 hdg
theorem krv (K : kX p s m args meth c own cc nL none A g tys) (hP : va_P g kcl w H) (hD : va_D A w) (hS : va_S A s.heap H locs) (hdg : decode cc pc = .ok (.return_, 1)) : W p l e R s m args below meth c H locs cells slots (MQ below (kQv g tys w A) args s cells slots A) (F0 m pc ls []) := by
  obtain ⟨hx, hb, hr, hml, hown, hts, hlocks, hK, -⟩ := id K
  exact W.vret hx hb hr (fun t ht hW => ⟨⟨(), rfl, trivial, by rw [ht]; exact hP, va_K.moved hW.alike hK, hD⟩, hS.F ht⟩) hS.2.2 hdg
end KC
end
section
theorem nz_of {v : Int32} (h : ¬ ¬ vp_nar .boolean v = v) : narrow .boolean (.int v) = .int v := by
  have h1 : narrow .boolean (.int v) = .int (vp_nar .boolean v) := rfl
  rw [h1, Classical.not_not.mp h]
abbrev kty (cI cJ cZ : ClassId) : List (ClassId × FieldType) := [(cI, .int), (cJ, .long), (cZ, .boolean)]
def jn0 {Z : Type} (T : Option Z) (B : Option Z → Option Z) : Option Z := B T
theorem jn0_inv {Z : Type} {T : Option Z} {B : Option Z → Option Z} {z : Z} (h : jn0 T B = some z) : ∃ J : Option Z, J = T ∧ B J = some z := ⟨T, rfl, h⟩
def jn1 {A Z : Type} (T : A → Option Z) (Bd : (A → Option Z) → Option Z) : Option Z := Bd T
theorem jn1_inv {A Z : Type} {T : A → Option Z} {Bd : (A → Option Z) → Option Z} {z : Z} (h : jn1 T Bd = some z) : ∃ Jf : A → Option Z, (∀ (x0 : A), Jf x0 = T x0) ∧ Bd Jf = some z := ⟨T, fun _ => rfl, h⟩
def jn2 {A B Z : Type} (T : A → B → Option Z) (Bd : (A → B → Option Z) → Option Z) : Option Z := Bd T
theorem jn2_inv {A B Z : Type} {T : A → B → Option Z} {Bd : (A → B → Option Z) → Option Z} {z : Z} (h : jn2 T Bd = some z) : ∃ Jf : A → B → Option Z, (∀ (x0 : A) (x1 : B), Jf x0 x1 = T x0 x1) ∧ Bd Jf = some z := ⟨T, fun _ _ => rfl, h⟩
def jn3 {A B C Z : Type} (T : A → B → C → Option Z) (Bd : (A → B → C → Option Z) → Option Z) : Option Z := Bd T
theorem jn3_inv {A B C Z : Type} {T : A → B → C → Option Z} {Bd : (A → B → C → Option Z) → Option Z} {z : Z} (h : jn3 T Bd = some z) : ∃ Jf : A → B → C → Option Z, (∀ (x0 : A) (x1 : B) (x2 : C), Jf x0 x1 x2 = T x0 x1 x2) ∧ Bd Jf = some z := ⟨T, fun _ _ _ => rfl, h⟩
def jn4 {A B C D Z : Type} (T : A → B → C → D → Option Z) (Bd : (A → B → C → D → Option Z) → Option Z) : Option Z := Bd T
theorem jn4_inv {A B C D Z : Type} {T : A → B → C → D → Option Z} {Bd : (A → B → C → D → Option Z) → Option Z} {z : Z} (h : jn4 T Bd = some z) : ∃ Jf : A → B → C → D → Option Z, (∀ (x0 : A) (x1 : B) (x2 : C) (x3 : D), Jf x0 x1 x2 x3 = T x0 x1 x2 x3) ∧ Bd Jf = some z := ⟨T, fun _ _ _ _ => rfl, h⟩
def jn5 {A B C D E Z : Type} (T : A → B → C → D → E → Option Z) (Bd : (A → B → C → D → E → Option Z) → Option Z) : Option Z := Bd T
theorem jn5_inv {A B C D E Z : Type} {T : A → B → C → D → E → Option Z} {Bd : (A → B → C → D → E → Option Z) → Option Z} {z : Z} (h : jn5 T Bd = some z) : ∃ Jf : A → B → C → D → E → Option Z, (∀ (x0 : A) (x1 : B) (x2 : C) (x3 : D) (x4 : E), Jf x0 x1 x2 x3 x4 = T x0 x1 x2 x3 x4) ∧ Bd Jf = some z := ⟨T, fun _ _ _ _ _ => rfl, h⟩
def jn6 {A B C D E F Z : Type} (T : A → B → C → D → E → F → Option Z) (Bd : (A → B → C → D → E → F → Option Z) → Option Z) : Option Z := Bd T
theorem jn6_inv {A B C D E F Z : Type} {T : A → B → C → D → E → F → Option Z} {Bd : (A → B → C → D → E → F → Option Z) → Option Z} {z : Z} (h : jn6 T Bd = some z) : ∃ Jf : A → B → C → D → E → F → Option Z, (∀ (x0 : A) (x1 : B) (x2 : C) (x3 : D) (x4 : E) (x5 : F), Jf x0 x1 x2 x3 x4 x5 = T x0 x1 x2 x3 x4 x5) ∧ Bd Jf = some z := ⟨T, fun _ _ _ _ _ _ => rfl, h⟩
def jn7 {A B C D E F G Z : Type} (T : A → B → C → D → E → F → G → Option Z) (Bd : (A → B → C → D → E → F → G → Option Z) → Option Z) : Option Z := Bd T
theorem jn7_inv {A B C D E F G Z : Type} {T : A → B → C → D → E → F → G → Option Z} {Bd : (A → B → C → D → E → F → G → Option Z) → Option Z} {z : Z} (h : jn7 T Bd = some z) : ∃ Jf : A → B → C → D → E → F → G → Option Z, (∀ (x0 : A) (x1 : B) (x2 : C) (x3 : D) (x4 : E) (x5 : F) (x6 : G), Jf x0 x1 x2 x3 x4 x5 x6 = T x0 x1 x2 x3 x4 x5 x6) ∧ Bd Jf = some z := ⟨T, fun _ _ _ _ _ _ _ => rfl, h⟩
def jn8 {A B C D E F G H Z : Type} (T : A → B → C → D → E → F → G → H → Option Z) (Bd : (A → B → C → D → E → F → G → H → Option Z) → Option Z) : Option Z := Bd T
theorem jn8_inv {A B C D E F G H Z : Type} {T : A → B → C → D → E → F → G → H → Option Z} {Bd : (A → B → C → D → E → F → G → H → Option Z) → Option Z} {z : Z} (h : jn8 T Bd = some z) : ∃ Jf : A → B → C → D → E → F → G → H → Option Z, (∀ (x0 : A) (x1 : B) (x2 : C) (x3 : D) (x4 : E) (x5 : F) (x6 : G) (x7 : H), Jf x0 x1 x2 x3 x4 x5 x6 x7 = T x0 x1 x2 x3 x4 x5 x6 x7) ∧ Bd Jf = some z := ⟨T, fun _ _ _ _ _ _ _ _ => rfl, h⟩
def jn9 {A B C D E F G H I Z : Type} (T : A → B → C → D → E → F → G → H → I → Option Z) (Bd : (A → B → C → D → E → F → G → H → I → Option Z) → Option Z) : Option Z := Bd T
theorem jn9_inv {A B C D E F G H I Z : Type} {T : A → B → C → D → E → F → G → H → I → Option Z} {Bd : (A → B → C → D → E → F → G → H → I → Option Z) → Option Z} {z : Z} (h : jn9 T Bd = some z) : ∃ Jf : A → B → C → D → E → F → G → H → I → Option Z, (∀ (x0 : A) (x1 : B) (x2 : C) (x3 : D) (x4 : E) (x5 : F) (x6 : G) (x7 : H) (x8 : I), Jf x0 x1 x2 x3 x4 x5 x6 x7 x8 = T x0 x1 x2 x3 x4 x5 x6 x7 x8) ∧ Bd Jf = some z := ⟨T, fun _ _ _ _ _ _ _ _ _ => rfl, h⟩
def jn10 {A B C D E F G H I J Z : Type} (T : A → B → C → D → E → F → G → H → I → J → Option Z) (Bd : (A → B → C → D → E → F → G → H → I → J → Option Z) → Option Z) : Option Z := Bd T
theorem jn10_inv {A B C D E F G H I J Z : Type} {T : A → B → C → D → E → F → G → H → I → J → Option Z} {Bd : (A → B → C → D → E → F → G → H → I → J → Option Z) → Option Z} {z : Z} (h : jn10 T Bd = some z) : ∃ Jf : A → B → C → D → E → F → G → H → I → J → Option Z, (∀ (x0 : A) (x1 : B) (x2 : C) (x3 : D) (x4 : E) (x5 : F) (x6 : G) (x7 : H) (x8 : I) (x9 : J), Jf x0 x1 x2 x3 x4 x5 x6 x7 x8 x9 = T x0 x1 x2 x3 x4 x5 x6 x7 x8 x9) ∧ Bd Jf = some z := ⟨T, fun _ _ _ _ _ _ _ _ _ _ => rfl, h⟩
def jn11 {A B C D E F G H I J K Z : Type} (T : A → B → C → D → E → F → G → H → I → J → K → Option Z) (Bd : (A → B → C → D → E → F → G → H → I → J → K → Option Z) → Option Z) : Option Z := Bd T
theorem jn11_inv {A B C D E F G H I J K Z : Type} {T : A → B → C → D → E → F → G → H → I → J → K → Option Z} {Bd : (A → B → C → D → E → F → G → H → I → J → K → Option Z) → Option Z} {z : Z} (h : jn11 T Bd = some z) : ∃ Jf : A → B → C → D → E → F → G → H → I → J → K → Option Z, (∀ (x0 : A) (x1 : B) (x2 : C) (x3 : D) (x4 : E) (x5 : F) (x6 : G) (x7 : H) (x8 : I) (x9 : J) (x10 : K), Jf x0 x1 x2 x3 x4 x5 x6 x7 x8 x9 x10 = T x0 x1 x2 x3 x4 x5 x6 x7 x8 x9 x10) ∧ Bd Jf = some z := ⟨T, fun _ _ _ _ _ _ _ _ _ _ _ => rfl, h⟩
def jn12 {A B C D E F G H I J K L Z : Type} (T : A → B → C → D → E → F → G → H → I → J → K → L → Option Z) (Bd : (A → B → C → D → E → F → G → H → I → J → K → L → Option Z) → Option Z) : Option Z := Bd T
theorem jn12_inv {A B C D E F G H I J K L Z : Type} {T : A → B → C → D → E → F → G → H → I → J → K → L → Option Z} {Bd : (A → B → C → D → E → F → G → H → I → J → K → L → Option Z) → Option Z} {z : Z} (h : jn12 T Bd = some z) : ∃ Jf : A → B → C → D → E → F → G → H → I → J → K → L → Option Z, (∀ (x0 : A) (x1 : B) (x2 : C) (x3 : D) (x4 : E) (x5 : F) (x6 : G) (x7 : H) (x8 : I) (x9 : J) (x10 : K) (x11 : L), Jf x0 x1 x2 x3 x4 x5 x6 x7 x8 x9 x10 x11 = T x0 x1 x2 x3 x4 x5 x6 x7 x8 x9 x10 x11) ∧ Bd Jf = some z := ⟨T, fun _ _ _ _ _ _ _ _ _ _ _ _ => rfl, h⟩
abbrev wC (cI cJ cZ : ClassId) (ad : Nat → Nat) (xst : Nat → Int32) (xse : Nat → Int32) (xre : Nat → Int32) (xgr : Nat → Int32) (ltm : Nat → Int32) (low : Nat → Int32) (lta : Nat → Int32) (llo : Nat → Int64) (lhi : Nat → Int64) (lmo : Nat → Int32) (rta : Nat → Int32) (ron : Nat → Int32) (rlo : Nat → Int64) (rhi : Nat → Int64) (rmo : Nat → Int32) (rin : Nat → Int32) (res : Nat → Int32) (rsi : Nat → Int32) (rli : Nat → Int32) (rar : Nat → Int32) (xgc : Int32) (xca : Int32) (xls : Int32) (xtl : Int32) (xno : Int32) (lco : Int32) (rwa : Int32) (rad : Int32) (rest : va_W) : va_W := (ad 0, .inr (2, [.ref (ad 3), .ref (ad 4), .ref (ad 1), .ref (ad 2), .ref (ad 5), .ref (ad 6), .int xgc, .int xca, .int xls, .int xtl, .int xno])) :: (ad 1, .inr (0, [.ref (ad 7), .ref (ad 8), .ref (ad 9), .ref (ad 10), .ref (ad 11), .ref (ad 12), .int lco])) :: (ad 2, .inr (1, [.ref (ad 13), .ref (ad 14), .ref (ad 15), .ref (ad 16), .ref (ad 17), .ref (ad 18), .ref (ad 19), .ref (ad 20), .ref (ad 21), .int rwa, .ref (ad 22), .int rad])) :: (ad 3, .inl (cI, 8, .inl xst)) :: (ad 4, .inl (cI, 8, .inl xse)) :: (ad 5, .inl (cI, 8, .inl xre)) :: (ad 6, .inl (cI, 8, .inl xgr)) :: (ad 7, .inl (cI, 128, .inl ltm)) :: (ad 8, .inl (cI, 256, .inl low)) :: (ad 9, .inl (cI, 256, .inl lta)) :: (ad 10, .inl (cJ, 256, .inr (.inl llo))) :: (ad 11, .inl (cJ, 256, .inr (.inl lhi))) :: (ad 12, .inl (cI, 256, .inl lmo)) :: (ad 13, .inl (cI, 8, .inl rta)) :: (ad 14, .inl (cZ, 8, .inl ron)) :: (ad 15, .inl (cJ, 8, .inr (.inl rlo))) :: (ad 16, .inl (cJ, 8, .inr (.inl rhi))) :: (ad 17, .inl (cI, 8, .inl rmo)) :: (ad 18, .inl (cZ, 8, .inl rin)) :: (ad 19, .inl (cZ, 8, .inl res)) :: (ad 20, .inl (cI, 8, .inl rsi)) :: (ad 21, .inl (cI, 8, .inl rli)) :: (ad 22, .inl (cI, 8, .inl rar)) :: rest
abbrev wM (cI cJ cZ : ClassId) (ad : Nat → Nat) (mth : Int32) (mst : Nat → Int32) (mse : Nat → Int32) (mla : Int32) (mmo : Nat → Int32) (mrc : Int32) (mro : Nat → Int32) (mrt : Nat → Int32) (mrm : Nat → Int32) (mrl : Nat → Int64) (mrh : Nat → Int64) (mwk : Nat → Int32) (mwt : Nat → Int32) (mwm : Nat → Int32) (mwl : Nat → Int64) (mwh : Nat → Int64) (mwi : Nat → Int32) (mwc : Nat → Int32) (mwx : Nat → Int32) (mar : Int32) (mli : Int32) (mgr : Int32) (mgo : Nat → Int32) (mre : Nat → Int32) (mfr : Int32) (rest : va_W) : va_W := (ad 0, .inr (3, [.int mth, .ref (ad 1), .ref (ad 2), .int mla, .ref (ad 3), .int mrc, .ref (ad 4), .ref (ad 5), .ref (ad 6), .ref (ad 7), .ref (ad 8), .ref (ad 9), .ref (ad 10), .ref (ad 11), .ref (ad 12), .ref (ad 13), .ref (ad 14), .ref (ad 15), .ref (ad 16), .int mar, .int mli, .int mgr, .ref (ad 17), .ref (ad 18), .int mfr])) :: (ad 1, .inl (cI, 8, .inl mst)) :: (ad 2, .inl (cI, 8, .inl mse)) :: (ad 3, .inl (cI, 128, .inl mmo)) :: (ad 4, .inl (cI, 256, .inl mro)) :: (ad 5, .inl (cI, 256, .inl mrt)) :: (ad 6, .inl (cI, 256, .inl mrm)) :: (ad 7, .inl (cJ, 256, .inr (.inl mrl))) :: (ad 8, .inl (cJ, 256, .inr (.inl mrh))) :: (ad 9, .inl (cI, 8, .inl mwk)) :: (ad 10, .inl (cI, 8, .inl mwt)) :: (ad 11, .inl (cI, 8, .inl mwm)) :: (ad 12, .inl (cJ, 8, .inr (.inl mwl))) :: (ad 13, .inl (cJ, 8, .inr (.inl mwh))) :: (ad 14, .inl (cZ, 8, .inl mwi)) :: (ad 15, .inl (cI, 8, .inl mwc)) :: (ad 16, .inl (cI, 8, .inl mwx)) :: (ad 17, .inl (cI, 64, .inl mgo)) :: (ad 18, .inl (cI, 8, .inl mre)) :: rest
end
section
theorem wm_347 : Cond.constant "java/lang/Integer" 265 1431655765 ∈ w_all := w_mem 347 (by decide +kernel) (by decide +kernel)
theorem wm_348 : Cond.constant "java/lang/Integer" 266 858993459 ∈ w_all := w_mem 348 (by decide +kernel) (by decide +kernel)
theorem wm_349 : Cond.constant "java/lang/Integer" 267 252645135 ∈ w_all := w_mem 349 (by decide +kernel) (by decide +kernel)
theorem wm_342 : Cond.fieldLink "LockTable$Modes" 9 "LockTable$Modes" "TOGETHER" "[I" ∈ w_all := w_mem 342 (by decide +kernel) (by decide +kernel)
theorem wm_346 : Cond.code ⟨"java/lang/Integer", "bitCount", "(I)I"⟩ prog_10_method_49_code 1 (some .int) ∈ w_all := w_mem 346 (by decide +kernel) (by decide +kernel)
theorem wm_344 : Cond.methodLink "LockTable$Modes" 15 ⟨"java/lang/Integer", "bitCount", "(I)I"⟩ ∈ w_all := w_mem 344 (by decide +kernel) (by decide +kernel)
theorem wm_345 : Cond.static ⟨"java/lang/Integer", "bitCount", "(I)I"⟩ ∈ w_all := w_mem 345 (by decide +kernel) (by decide +kernel)
theorem wm_57 : Cond.initialized "java/lang/Integer" ∈ w_all := w_mem 57 (by decide +kernel) (by decide +kernel)
theorem wm_477 : Cond.fieldLink "LockTable$Modes" 21 "LockTable$Modes" "BY_TABLE" "[I" ∈ w_all := w_mem 477 (by decide +kernel) (by decide +kernel)
theorem wm_486 : Cond.fieldLink "LockTable$Modes" 24 "LockTable$Modes" "BY_RANGE" "[I" ∈ w_all := w_mem 486 (by decide +kernel) (by decide +kernel)
abbrev y_JI_bitCount : MethodName := ⟨"java/lang/Integer", "bitCount", "(I)I"⟩
theorem hd_JI_bitCount : y_JI_bitCount.cls ≠ "java/lang/invoke/MethodHandle" ∧ y_JI_bitCount.cls ≠ "java/lang/invoke/VarHandle" ∧ (parseMethodDescriptor y_JI_bitCount.desc).map (fun d => d.parameters.length) = some 1 := ⟨by decide, by decide, by decide +kernel⟩
abbrev y_K_goTogether : MethodName := ⟨"LockTable$Modes", "goTogether", "(II)Z"⟩
theorem hd_K_goTogether : y_K_goTogether.cls ≠ "java/lang/invoke/MethodHandle" ∧ y_K_goTogether.cls ≠ "java/lang/invoke/VarHandle" ∧ (parseMethodDescriptor y_K_goTogether.desc).map (fun d => d.parameters.length) = some 2 := ⟨by decide, by decide, by decide +kernel⟩
abbrev y_K_joined : MethodName := ⟨"LockTable$Modes", "joined", "(II)I"⟩
theorem hd_K_joined : y_K_joined.cls ≠ "java/lang/invoke/MethodHandle" ∧ y_K_joined.cls ≠ "java/lang/invoke/VarHandle" ∧ (parseMethodDescriptor y_K_joined.desc).map (fun d => d.parameters.length) = some 2 := ⟨by decide, by decide, by decide +kernel⟩
abbrev y_K_tableCovers : MethodName := ⟨"LockTable$Modes", "tableCovers", "(II)Z"⟩
theorem hd_K_tableCovers : y_K_tableCovers.cls ≠ "java/lang/invoke/MethodHandle" ∧ y_K_tableCovers.cls ≠ "java/lang/invoke/VarHandle" ∧ (parseMethodDescriptor y_K_tableCovers.desc).map (fun d => d.parameters.length) = some 2 := ⟨by decide, by decide, by decide +kernel⟩
abbrev y_K_rangeCovers : MethodName := ⟨"LockTable$Modes", "rangeCovers", "(II)Z"⟩
theorem hd_K_rangeCovers : y_K_rangeCovers.cls ≠ "java/lang/invoke/MethodHandle" ∧ y_K_rangeCovers.cls ≠ "java/lang/invoke/VarHandle" ∧ (parseMethodDescriptor y_K_rangeCovers.desc).map (fun d => d.parameters.length) = some 2 := ⟨by decide, by decide, by decide +kernel⟩
abbrev y_K_allowsRange : MethodName := ⟨"LockTable$Modes", "allowsRange", "(II)Z"⟩
theorem hd_K_allowsRange : y_K_allowsRange.cls ≠ "java/lang/invoke/MethodHandle" ∧ y_K_allowsRange.cls ≠ "java/lang/invoke/VarHandle" ∧ (parseMethodDescriptor y_K_allowsRange.desc).map (fun d => d.parameters.length) = some 2 := ⟨by decide, by decide, by decide +kernel⟩
abbrev y_K_isReading : MethodName := ⟨"LockTable$Modes", "isReading", "(I)Z"⟩
theorem hd_K_isReading : y_K_isReading.cls ≠ "java/lang/invoke/MethodHandle" ∧ y_K_isReading.cls ≠ "java/lang/invoke/VarHandle" ∧ (parseMethodDescriptor y_K_isReading.desc).map (fun d => d.parameters.length) = some 1 := ⟨by decide, by decide, by decide +kernel⟩
theorem d_JI_bitCount_0 : decode prog_10_method_49_code 0 = .ok (.iload_n 0, 1) := by decide +kernel
theorem d_JI_bitCount_1 : decode prog_10_method_49_code 1 = .ok (.iload_n 0, 1) := by decide +kernel
theorem d_JI_bitCount_2 : decode prog_10_method_49_code 2 = .ok (.iconst 1, 1) := by decide +kernel
theorem d_JI_bitCount_3 : decode prog_10_method_49_code 3 = .ok (.iushr, 1) := by decide +kernel
theorem d_JI_bitCount_4 : decode prog_10_method_49_code 4 = .ok (.ldc_w 265, 3) := by decide +kernel
theorem d_JI_bitCount_7 : decode prog_10_method_49_code 7 = .ok (.iand, 1) := by decide +kernel
theorem d_JI_bitCount_8 : decode prog_10_method_49_code 8 = .ok (.isub, 1) := by decide +kernel
theorem d_JI_bitCount_9 : decode prog_10_method_49_code 9 = .ok (.istore_n 0, 1) := by decide +kernel
theorem d_JI_bitCount_10 : decode prog_10_method_49_code 10 = .ok (.iload_n 0, 1) := by decide +kernel
theorem d_JI_bitCount_11 : decode prog_10_method_49_code 11 = .ok (.ldc_w 266, 3) := by decide +kernel
theorem d_JI_bitCount_14 : decode prog_10_method_49_code 14 = .ok (.iand, 1) := by decide +kernel
theorem d_JI_bitCount_15 : decode prog_10_method_49_code 15 = .ok (.iload_n 0, 1) := by decide +kernel
theorem d_JI_bitCount_16 : decode prog_10_method_49_code 16 = .ok (.iconst 2, 1) := by decide +kernel
theorem d_JI_bitCount_17 : decode prog_10_method_49_code 17 = .ok (.iushr, 1) := by decide +kernel
theorem d_JI_bitCount_18 : decode prog_10_method_49_code 18 = .ok (.ldc_w 266, 3) := by decide +kernel
theorem d_JI_bitCount_21 : decode prog_10_method_49_code 21 = .ok (.iand, 1) := by decide +kernel
theorem d_JI_bitCount_22 : decode prog_10_method_49_code 22 = .ok (.iadd, 1) := by decide +kernel
theorem d_JI_bitCount_23 : decode prog_10_method_49_code 23 = .ok (.istore_n 0, 1) := by decide +kernel
theorem d_JI_bitCount_24 : decode prog_10_method_49_code 24 = .ok (.iload_n 0, 1) := by decide +kernel
theorem d_JI_bitCount_25 : decode prog_10_method_49_code 25 = .ok (.iload_n 0, 1) := by decide +kernel
theorem d_JI_bitCount_26 : decode prog_10_method_49_code 26 = .ok (.iconst 4, 1) := by decide +kernel
theorem d_JI_bitCount_27 : decode prog_10_method_49_code 27 = .ok (.iushr, 1) := by decide +kernel
theorem d_JI_bitCount_28 : decode prog_10_method_49_code 28 = .ok (.iadd, 1) := by decide +kernel
theorem d_JI_bitCount_29 : decode prog_10_method_49_code 29 = .ok (.ldc_w 267, 3) := by decide +kernel
theorem d_JI_bitCount_32 : decode prog_10_method_49_code 32 = .ok (.iand, 1) := by decide +kernel
theorem d_JI_bitCount_33 : decode prog_10_method_49_code 33 = .ok (.istore_n 0, 1) := by decide +kernel
theorem d_JI_bitCount_34 : decode prog_10_method_49_code 34 = .ok (.iload_n 0, 1) := by decide +kernel
theorem d_JI_bitCount_35 : decode prog_10_method_49_code 35 = .ok (.iload_n 0, 1) := by decide +kernel
theorem d_JI_bitCount_36 : decode prog_10_method_49_code 36 = .ok (.bipush 8, 2) := by decide +kernel
theorem d_JI_bitCount_38 : decode prog_10_method_49_code 38 = .ok (.iushr, 1) := by decide +kernel
theorem d_JI_bitCount_39 : decode prog_10_method_49_code 39 = .ok (.iadd, 1) := by decide +kernel
theorem d_JI_bitCount_40 : decode prog_10_method_49_code 40 = .ok (.istore_n 0, 1) := by decide +kernel
theorem d_JI_bitCount_41 : decode prog_10_method_49_code 41 = .ok (.iload_n 0, 1) := by decide +kernel
theorem d_JI_bitCount_42 : decode prog_10_method_49_code 42 = .ok (.iload_n 0, 1) := by decide +kernel
theorem d_JI_bitCount_43 : decode prog_10_method_49_code 43 = .ok (.bipush 16, 2) := by decide +kernel
theorem d_JI_bitCount_45 : decode prog_10_method_49_code 45 = .ok (.iushr, 1) := by decide +kernel
theorem d_JI_bitCount_46 : decode prog_10_method_49_code 46 = .ok (.iadd, 1) := by decide +kernel
theorem d_JI_bitCount_47 : decode prog_10_method_49_code 47 = .ok (.istore_n 0, 1) := by decide +kernel
theorem d_JI_bitCount_48 : decode prog_10_method_49_code 48 = .ok (.iload_n 0, 1) := by decide +kernel
theorem d_JI_bitCount_49 : decode prog_10_method_49_code 49 = .ok (.bipush 63, 2) := by decide +kernel
theorem d_JI_bitCount_51 : decode prog_10_method_49_code 51 = .ok (.iand, 1) := by decide +kernel
theorem d_JI_bitCount_52 : decode prog_10_method_49_code 52 = .ok (.ireturn, 1) := by decide +kernel
theorem d_K_goTogether_0 : decode prog_3_method_2_code 0 = .ok (.getstatic 9, 3) := by decide +kernel
theorem d_K_goTogether_3 : decode prog_3_method_2_code 3 = .ok (.iload_n 0, 1) := by decide +kernel
theorem d_K_goTogether_4 : decode prog_3_method_2_code 4 = .ok (.iaload, 1) := by decide +kernel
theorem d_K_goTogether_5 : decode prog_3_method_2_code 5 = .ok (.iload_n 1, 1) := by decide +kernel
theorem d_K_goTogether_6 : decode prog_3_method_2_code 6 = .ok (.ishr, 1) := by decide +kernel
theorem d_K_goTogether_7 : decode prog_3_method_2_code 7 = .ok (.iconst 1, 1) := by decide +kernel
theorem d_K_goTogether_8 : decode prog_3_method_2_code 8 = .ok (.iand, 1) := by decide +kernel
theorem d_K_goTogether_9 : decode prog_3_method_2_code 9 = .ok (.ifCond .eq 7, 3) := by decide +kernel
theorem d_K_goTogether_12 : decode prog_3_method_2_code 12 = .ok (.iconst 1, 1) := by decide +kernel
theorem d_K_goTogether_13 : decode prog_3_method_2_code 13 = .ok (.goto 4, 3) := by decide +kernel
theorem d_K_goTogether_16 : decode prog_3_method_2_code 16 = .ok (.iconst 0, 1) := by decide +kernel
theorem d_K_goTogether_17 : decode prog_3_method_2_code 17 = .ok (.ireturn, 1) := by decide +kernel
theorem d_K_joined_0 : decode prog_3_method_3_code 0 = .ok (.getstatic 9, 3) := by decide +kernel
theorem d_K_joined_3 : decode prog_3_method_3_code 3 = .ok (.iload_n 0, 1) := by decide +kernel
theorem d_K_joined_4 : decode prog_3_method_3_code 4 = .ok (.iaload, 1) := by decide +kernel
theorem d_K_joined_5 : decode prog_3_method_3_code 5 = .ok (.getstatic 9, 3) := by decide +kernel
theorem d_K_joined_8 : decode prog_3_method_3_code 8 = .ok (.iload_n 1, 1) := by decide +kernel
theorem d_K_joined_9 : decode prog_3_method_3_code 9 = .ok (.iaload, 1) := by decide +kernel
theorem d_K_joined_10 : decode prog_3_method_3_code 10 = .ok (.iand, 1) := by decide +kernel
theorem d_K_joined_11 : decode prog_3_method_3_code 11 = .ok (.istore_n 2, 1) := by decide +kernel
theorem d_K_joined_12 : decode prog_3_method_3_code 12 = .ok (.iconst 5, 1) := by decide +kernel
theorem d_K_joined_13 : decode prog_3_method_3_code 13 = .ok (.istore_n 3, 1) := by decide +kernel
theorem d_K_joined_14 : decode prog_3_method_3_code 14 = .ok (.iconst 0, 1) := by decide +kernel
theorem d_K_joined_15 : decode prog_3_method_3_code 15 = .ok (.istore 4, 2) := by decide +kernel
theorem d_K_joined_17 : decode prog_3_method_3_code 17 = .ok (.iload 4, 2) := by decide +kernel
theorem d_K_joined_19 : decode prog_3_method_3_code 19 = .ok (.bipush 6, 2) := by decide +kernel
theorem d_K_joined_21 : decode prog_3_method_3_code 21 = .ok (.if_icmp .ge 57, 3) := by decide +kernel
theorem d_K_joined_24 : decode prog_3_method_3_code 24 = .ok (.getstatic 9, 3) := by decide +kernel
theorem d_K_joined_27 : decode prog_3_method_3_code 27 = .ok (.iload 4, 2) := by decide +kernel
theorem d_K_joined_29 : decode prog_3_method_3_code 29 = .ok (.iaload, 1) := by decide +kernel
theorem d_K_joined_30 : decode prog_3_method_3_code 30 = .ok (.iload_n 2, 1) := by decide +kernel
theorem d_K_joined_31 : decode prog_3_method_3_code 31 = .ok (.iconst (-1), 1) := by decide +kernel
theorem d_K_joined_32 : decode prog_3_method_3_code 32 = .ok (.ixor, 1) := by decide +kernel
theorem d_K_joined_33 : decode prog_3_method_3_code 33 = .ok (.iand, 1) := by decide +kernel
theorem d_K_joined_34 : decode prog_3_method_3_code 34 = .ok (.ifCond .ne 7, 3) := by decide +kernel
theorem d_K_joined_37 : decode prog_3_method_3_code 37 = .ok (.iconst 1, 1) := by decide +kernel
theorem d_K_joined_38 : decode prog_3_method_3_code 38 = .ok (.goto 4, 3) := by decide +kernel
theorem d_K_joined_41 : decode prog_3_method_3_code 41 = .ok (.iconst 0, 1) := by decide +kernel
theorem d_K_joined_42 : decode prog_3_method_3_code 42 = .ok (.istore 5, 2) := by decide +kernel
theorem d_K_joined_44 : decode prog_3_method_3_code 44 = .ok (.iload 5, 2) := by decide +kernel
theorem d_K_joined_46 : decode prog_3_method_3_code 46 = .ok (.ifCond .eq 26, 3) := by decide +kernel
theorem d_K_joined_49 : decode prog_3_method_3_code 49 = .ok (.getstatic 9, 3) := by decide +kernel
theorem d_K_joined_52 : decode prog_3_method_3_code 52 = .ok (.iload 4, 2) := by decide +kernel
theorem d_K_joined_54 : decode prog_3_method_3_code 54 = .ok (.iaload, 1) := by decide +kernel
theorem d_K_joined_55 : decode prog_3_method_3_code 55 = .ok (.invokestatic 15, 3) := by decide +kernel
theorem d_K_joined_58 : decode prog_3_method_3_code 58 = .ok (.getstatic 9, 3) := by decide +kernel
theorem d_K_joined_61 : decode prog_3_method_3_code 61 = .ok (.iload_n 3, 1) := by decide +kernel
theorem d_K_joined_62 : decode prog_3_method_3_code 62 = .ok (.iaload, 1) := by decide +kernel
theorem d_K_joined_63 : decode prog_3_method_3_code 63 = .ok (.invokestatic 15, 3) := by decide +kernel
theorem d_K_joined_66 : decode prog_3_method_3_code 66 = .ok (.if_icmp .le 6, 3) := by decide +kernel
theorem d_K_joined_69 : decode prog_3_method_3_code 69 = .ok (.iload 4, 2) := by decide +kernel
theorem d_K_joined_71 : decode prog_3_method_3_code 71 = .ok (.istore_n 3, 1) := by decide +kernel
theorem d_K_joined_72 : decode prog_3_method_3_code 72 = .ok (.iinc 4 1, 3) := by decide +kernel
theorem d_K_joined_75 : decode prog_3_method_3_code 75 = .ok (.goto (-58), 3) := by decide +kernel
theorem d_K_joined_78 : decode prog_3_method_3_code 78 = .ok (.iload_n 3, 1) := by decide +kernel
theorem d_K_joined_79 : decode prog_3_method_3_code 79 = .ok (.ireturn, 1) := by decide +kernel
theorem d_K_tableCovers_0 : decode prog_3_method_4_code 0 = .ok (.iload_n 0, 1) := by decide +kernel
theorem d_K_tableCovers_1 : decode prog_3_method_4_code 1 = .ok (.iconst (-1), 1) := by decide +kernel
theorem d_K_tableCovers_2 : decode prog_3_method_4_code 2 = .ok (.if_icmp .eq 19, 3) := by decide +kernel
theorem d_K_tableCovers_5 : decode prog_3_method_4_code 5 = .ok (.getstatic 21, 3) := by decide +kernel
theorem d_K_tableCovers_8 : decode prog_3_method_4_code 8 = .ok (.iload_n 0, 1) := by decide +kernel
theorem d_K_tableCovers_9 : decode prog_3_method_4_code 9 = .ok (.iaload, 1) := by decide +kernel
theorem d_K_tableCovers_10 : decode prog_3_method_4_code 10 = .ok (.iload_n 1, 1) := by decide +kernel
theorem d_K_tableCovers_11 : decode prog_3_method_4_code 11 = .ok (.ishr, 1) := by decide +kernel
theorem d_K_tableCovers_12 : decode prog_3_method_4_code 12 = .ok (.iconst 1, 1) := by decide +kernel
theorem d_K_tableCovers_13 : decode prog_3_method_4_code 13 = .ok (.iand, 1) := by decide +kernel
theorem d_K_tableCovers_14 : decode prog_3_method_4_code 14 = .ok (.ifCond .eq 7, 3) := by decide +kernel
theorem d_K_tableCovers_17 : decode prog_3_method_4_code 17 = .ok (.iconst 1, 1) := by decide +kernel
theorem d_K_tableCovers_18 : decode prog_3_method_4_code 18 = .ok (.goto 4, 3) := by decide +kernel
theorem d_K_tableCovers_21 : decode prog_3_method_4_code 21 = .ok (.iconst 0, 1) := by decide +kernel
theorem d_K_tableCovers_22 : decode prog_3_method_4_code 22 = .ok (.ireturn, 1) := by decide +kernel
theorem d_K_rangeCovers_0 : decode prog_3_method_5_code 0 = .ok (.getstatic 24, 3) := by decide +kernel
theorem d_K_rangeCovers_3 : decode prog_3_method_5_code 3 = .ok (.iload_n 0, 1) := by decide +kernel
theorem d_K_rangeCovers_4 : decode prog_3_method_5_code 4 = .ok (.iaload, 1) := by decide +kernel
theorem d_K_rangeCovers_5 : decode prog_3_method_5_code 5 = .ok (.iload_n 1, 1) := by decide +kernel
theorem d_K_rangeCovers_6 : decode prog_3_method_5_code 6 = .ok (.ishr, 1) := by decide +kernel
theorem d_K_rangeCovers_7 : decode prog_3_method_5_code 7 = .ok (.iconst 1, 1) := by decide +kernel
theorem d_K_rangeCovers_8 : decode prog_3_method_5_code 8 = .ok (.iand, 1) := by decide +kernel
theorem d_K_rangeCovers_9 : decode prog_3_method_5_code 9 = .ok (.ifCond .eq 7, 3) := by decide +kernel
theorem d_K_rangeCovers_12 : decode prog_3_method_5_code 12 = .ok (.iconst 1, 1) := by decide +kernel
theorem d_K_rangeCovers_13 : decode prog_3_method_5_code 13 = .ok (.goto 4, 3) := by decide +kernel
theorem d_K_rangeCovers_16 : decode prog_3_method_5_code 16 = .ok (.iconst 0, 1) := by decide +kernel
theorem d_K_rangeCovers_17 : decode prog_3_method_5_code 17 = .ok (.ireturn, 1) := by decide +kernel
theorem d_K_allowsRange_0 : decode prog_3_method_6_code 0 = .ok (.iload_n 1, 1) := by decide +kernel
theorem d_K_allowsRange_1 : decode prog_3_method_6_code 1 = .ok (.iconst 2, 1) := by decide +kernel
theorem d_K_allowsRange_2 : decode prog_3_method_6_code 2 = .ok (.if_icmp .ne 16, 3) := by decide +kernel
theorem d_K_allowsRange_5 : decode prog_3_method_6_code 5 = .ok (.iload_n 0, 1) := by decide +kernel
theorem d_K_allowsRange_6 : decode prog_3_method_6_code 6 = .ok (.iconst (-1), 1) := by decide +kernel
theorem d_K_allowsRange_7 : decode prog_3_method_6_code 7 = .ok (.if_icmp .eq 7, 3) := by decide +kernel
theorem d_K_allowsRange_10 : decode prog_3_method_6_code 10 = .ok (.iconst 1, 1) := by decide +kernel
theorem d_K_allowsRange_11 : decode prog_3_method_6_code 11 = .ok (.goto 27, 3) := by decide +kernel
theorem d_K_allowsRange_14 : decode prog_3_method_6_code 14 = .ok (.iconst 0, 1) := by decide +kernel
theorem d_K_allowsRange_15 : decode prog_3_method_6_code 15 = .ok (.goto 23, 3) := by decide +kernel
theorem d_K_allowsRange_18 : decode prog_3_method_6_code 18 = .ok (.iload_n 0, 1) := by decide +kernel
theorem d_K_allowsRange_19 : decode prog_3_method_6_code 19 = .ok (.iconst 1, 1) := by decide +kernel
theorem d_K_allowsRange_20 : decode prog_3_method_6_code 20 = .ok (.if_icmp .eq 13, 3) := by decide +kernel
theorem d_K_allowsRange_23 : decode prog_3_method_6_code 23 = .ok (.iload_n 0, 1) := by decide +kernel
theorem d_K_allowsRange_24 : decode prog_3_method_6_code 24 = .ok (.iconst 3, 1) := by decide +kernel
theorem d_K_allowsRange_25 : decode prog_3_method_6_code 25 = .ok (.if_icmp .eq 8, 3) := by decide +kernel
theorem d_K_allowsRange_28 : decode prog_3_method_6_code 28 = .ok (.iload_n 0, 1) := by decide +kernel
theorem d_K_allowsRange_29 : decode prog_3_method_6_code 29 = .ok (.iconst 5, 1) := by decide +kernel
theorem d_K_allowsRange_30 : decode prog_3_method_6_code 30 = .ok (.if_icmp .ne 7, 3) := by decide +kernel
theorem d_K_allowsRange_33 : decode prog_3_method_6_code 33 = .ok (.iconst 1, 1) := by decide +kernel
theorem d_K_allowsRange_34 : decode prog_3_method_6_code 34 = .ok (.goto 4, 3) := by decide +kernel
theorem d_K_allowsRange_37 : decode prog_3_method_6_code 37 = .ok (.iconst 0, 1) := by decide +kernel
theorem d_K_allowsRange_38 : decode prog_3_method_6_code 38 = .ok (.ireturn, 1) := by decide +kernel
theorem d_K_isReading_0 : decode prog_3_method_7_code 0 = .ok (.iload_n 0, 1) := by decide +kernel
theorem d_K_isReading_1 : decode prog_3_method_7_code 1 = .ok (.ifCond .eq 13, 3) := by decide +kernel
theorem d_K_isReading_4 : decode prog_3_method_7_code 4 = .ok (.iload_n 0, 1) := by decide +kernel
theorem d_K_isReading_5 : decode prog_3_method_7_code 5 = .ok (.iconst 2, 1) := by decide +kernel
theorem d_K_isReading_6 : decode prog_3_method_7_code 6 = .ok (.if_icmp .eq 8, 3) := by decide +kernel
theorem d_K_isReading_9 : decode prog_3_method_7_code 9 = .ok (.iload_n 0, 1) := by decide +kernel
theorem d_K_isReading_10 : decode prog_3_method_7_code 10 = .ok (.iconst 4, 1) := by decide +kernel
theorem d_K_isReading_11 : decode prog_3_method_7_code 11 = .ok (.if_icmp .ne 7, 3) := by decide +kernel
theorem d_K_isReading_14 : decode prog_3_method_7_code 14 = .ok (.iconst 1, 1) := by decide +kernel
theorem d_K_isReading_15 : decode prog_3_method_7_code 15 = .ok (.goto 4, 3) := by decide +kernel
theorem d_K_isReading_18 : decode prog_3_method_7_code 18 = .ok (.iconst 0, 1) := by decide +kernel
theorem d_K_isReading_19 : decode prog_3_method_7_code 19 = .ok (.ireturn, 1) := by decide +kernel
def F_JI_bitCount (a1 : Int32) : Option (Int32) :=
  some ((((((((a1 - (((a1.toUInt32 >>> ((1 : Int32).toUInt32 &&& Int32.toUInt32 31)).toInt32) &&& 1431655765)) &&& 858993459) + ((((a1 - (((a1.toUInt32 >>> ((1 : Int32).toUInt32 &&& Int32.toUInt32 31)).toInt32) &&& 1431655765)).toUInt32 >>> ((2 : Int32).toUInt32 &&& Int32.toUInt32 31)).toInt32) &&& 858993459)) + (((((a1 - (((a1.toUInt32 >>> ((1 : Int32).toUInt32 &&& Int32.toUInt32 31)).toInt32) &&& 1431655765)) &&& 858993459) + ((((a1 - (((a1.toUInt32 >>> ((1 : Int32).toUInt32 &&& Int32.toUInt32 31)).toInt32) &&& 1431655765)).toUInt32 >>> ((2 : Int32).toUInt32 &&& Int32.toUInt32 31)).toInt32) &&& 858993459)).toUInt32 >>> ((4 : Int32).toUInt32 &&& Int32.toUInt32 31)).toInt32)) &&& 252645135) + (((((((a1 - (((a1.toUInt32 >>> ((1 : Int32).toUInt32 &&& Int32.toUInt32 31)).toInt32) &&& 1431655765)) &&& 858993459) + ((((a1 - (((a1.toUInt32 >>> ((1 : Int32).toUInt32 &&& Int32.toUInt32 31)).toInt32) &&& 1431655765)).toUInt32 >>> ((2 : Int32).toUInt32 &&& Int32.toUInt32 31)).toInt32) &&& 858993459)) + (((((a1 - (((a1.toUInt32 >>> ((1 : Int32).toUInt32 &&& Int32.toUInt32 31)).toInt32) &&& 1431655765)) &&& 858993459) + ((((a1 - (((a1.toUInt32 >>> ((1 : Int32).toUInt32 &&& Int32.toUInt32 31)).toInt32) &&& 1431655765)).toUInt32 >>> ((2 : Int32).toUInt32 &&& Int32.toUInt32 31)).toInt32) &&& 858993459)).toUInt32 >>> ((4 : Int32).toUInt32 &&& Int32.toUInt32 31)).toInt32)) &&& 252645135).toUInt32 >>> ((8 : Int32).toUInt32 &&& Int32.toUInt32 31)).toInt32)) + ((((((((a1 - (((a1.toUInt32 >>> ((1 : Int32).toUInt32 &&& Int32.toUInt32 31)).toInt32) &&& 1431655765)) &&& 858993459) + ((((a1 - (((a1.toUInt32 >>> ((1 : Int32).toUInt32 &&& Int32.toUInt32 31)).toInt32) &&& 1431655765)).toUInt32 >>> ((2 : Int32).toUInt32 &&& Int32.toUInt32 31)).toInt32) &&& 858993459)) + (((((a1 - (((a1.toUInt32 >>> ((1 : Int32).toUInt32 &&& Int32.toUInt32 31)).toInt32) &&& 1431655765)) &&& 858993459) + ((((a1 - (((a1.toUInt32 >>> ((1 : Int32).toUInt32 &&& Int32.toUInt32 31)).toInt32) &&& 1431655765)).toUInt32 >>> ((2 : Int32).toUInt32 &&& Int32.toUInt32 31)).toInt32) &&& 858993459)).toUInt32 >>> ((4 : Int32).toUInt32 &&& Int32.toUInt32 31)).toInt32)) &&& 252645135) + (((((((a1 - (((a1.toUInt32 >>> ((1 : Int32).toUInt32 &&& Int32.toUInt32 31)).toInt32) &&& 1431655765)) &&& 858993459) + ((((a1 - (((a1.toUInt32 >>> ((1 : Int32).toUInt32 &&& Int32.toUInt32 31)).toInt32) &&& 1431655765)).toUInt32 >>> ((2 : Int32).toUInt32 &&& Int32.toUInt32 31)).toInt32) &&& 858993459)) + (((((a1 - (((a1.toUInt32 >>> ((1 : Int32).toUInt32 &&& Int32.toUInt32 31)).toInt32) &&& 1431655765)) &&& 858993459) + ((((a1 - (((a1.toUInt32 >>> ((1 : Int32).toUInt32 &&& Int32.toUInt32 31)).toInt32) &&& 1431655765)).toUInt32 >>> ((2 : Int32).toUInt32 &&& Int32.toUInt32 31)).toInt32) &&& 858993459)).toUInt32 >>> ((4 : Int32).toUInt32 &&& Int32.toUInt32 31)).toInt32)) &&& 252645135).toUInt32 >>> ((8 : Int32).toUInt32 &&& Int32.toUInt32 31)).toInt32)).toUInt32 >>> ((16 : Int32).toUInt32 &&& Int32.toUInt32 31)).toInt32)) &&& 63)
set_option maxHeartbeats 4000000 in
set_option maxRecDepth 100000 in
theorem t_JI_bitCount {p : Program} {l : Launch} {e : Env} {s : State} {m : MethodId} {args : Array Value} {below : List Frame} {meth : Method} {c : Code} {A : Nat → Prop} {g : va_G} {tys : List (ClassId × FieldType)} {w : va_W} (K : kX p s m args meth c "java/lang/Integer" prog_10_method_49_code 1 (some .int) A g tys)  (a1 : Int32) (r : Int32) (hF : F_JI_bitCount a1 = some r) {H : Heap} {locs : List Loc} {ls : Array Slot} (hP : va_P g kcl w H) (hD : va_D A w) (hS : va_S A s.heap H locs) (hl : lv_has ls 1 [(0, .int a1)]) : W p l e ({ frames := 0, cells := 0, slots := 0, locals := 0 }) s m args below meth c H locs 0 0 (MQ below (kQi g tys w A r) args s 0 0 A) (F0 m 0 ls []) := by
  obtain ⟨hx, hb, hr, hml, hown, hts, hlocks, hK, hA, hE⟩ := id K
  unfold F_JI_bitCount at hF
  refine lv_iload_n hx hb d_JI_bitCount_0 rfl (lv_at hl 0 rfl) ?_
  refine lv_iload_n hx hb d_JI_bitCount_1 rfl (lv_at hl 0 rfl) ?_
  refine lv_iconst (v := 1) hx hb d_JI_bitCount_2 (by decide) ?_
  refine lv_iushr (v := (a1.toUInt32 >>> ((1 : Int32).toUInt32 &&& Int32.toUInt32 31)).toInt32) hx hb d_JI_bitCount_3 rfl ?_
  refine lv_ldcw (v := 1431655765) hx hb hown (hts _ wm_347) d_JI_bitCount_4 ?_
  refine lv_iand hx hb d_JI_bitCount_7 ?_
  refine lv_isub hx hb d_JI_bitCount_8 ?_
  refine lv_istore_n (lv' := [(0, .int (a1 - (((a1.toUInt32 >>> ((1 : Int32).toUInt32 &&& Int32.toUInt32 31)).toInt32) &&& 1431655765)))]) hx hb d_JI_bitCount_9 rfl hl (by decide) rfl (fun ls hl => ?_)
  refine lv_iload_n hx hb d_JI_bitCount_10 rfl (lv_at hl 0 rfl) ?_
  refine lv_ldcw (v := 858993459) hx hb hown (hts _ wm_348) d_JI_bitCount_11 ?_
  refine lv_iand hx hb d_JI_bitCount_14 ?_
  refine lv_iload_n hx hb d_JI_bitCount_15 rfl (lv_at hl 0 rfl) ?_
  refine lv_iconst (v := 2) hx hb d_JI_bitCount_16 (by decide) ?_
  refine lv_iushr (v := ((a1 - (((a1.toUInt32 >>> ((1 : Int32).toUInt32 &&& Int32.toUInt32 31)).toInt32) &&& 1431655765)).toUInt32 >>> ((2 : Int32).toUInt32 &&& Int32.toUInt32 31)).toInt32) hx hb d_JI_bitCount_17 rfl ?_
  refine lv_ldcw (v := 858993459) hx hb hown (hts _ wm_348) d_JI_bitCount_18 ?_
  refine lv_iand hx hb d_JI_bitCount_21 ?_
  refine lv_iadd hx hb d_JI_bitCount_22 ?_
  refine lv_istore_n (lv' := [(0, .int (((a1 - (((a1.toUInt32 >>> ((1 : Int32).toUInt32 &&& Int32.toUInt32 31)).toInt32) &&& 1431655765)) &&& 858993459) + ((((a1 - (((a1.toUInt32 >>> ((1 : Int32).toUInt32 &&& Int32.toUInt32 31)).toInt32) &&& 1431655765)).toUInt32 >>> ((2 : Int32).toUInt32 &&& Int32.toUInt32 31)).toInt32) &&& 858993459)))]) hx hb d_JI_bitCount_23 rfl hl (by decide) rfl (fun ls hl => ?_)
  refine lv_iload_n hx hb d_JI_bitCount_24 rfl (lv_at hl 0 rfl) ?_
  refine lv_iload_n hx hb d_JI_bitCount_25 rfl (lv_at hl 0 rfl) ?_
  refine lv_iconst (v := 4) hx hb d_JI_bitCount_26 (by decide) ?_
  refine lv_iushr (v := ((((a1 - (((a1.toUInt32 >>> ((1 : Int32).toUInt32 &&& Int32.toUInt32 31)).toInt32) &&& 1431655765)) &&& 858993459) + ((((a1 - (((a1.toUInt32 >>> ((1 : Int32).toUInt32 &&& Int32.toUInt32 31)).toInt32) &&& 1431655765)).toUInt32 >>> ((2 : Int32).toUInt32 &&& Int32.toUInt32 31)).toInt32) &&& 858993459)).toUInt32 >>> ((4 : Int32).toUInt32 &&& Int32.toUInt32 31)).toInt32) hx hb d_JI_bitCount_27 rfl ?_
  refine lv_iadd hx hb d_JI_bitCount_28 ?_
  refine lv_ldcw (v := 252645135) hx hb hown (hts _ wm_349) d_JI_bitCount_29 ?_
  refine lv_iand hx hb d_JI_bitCount_32 ?_
  refine lv_istore_n (lv' := [(0, .int (((((a1 - (((a1.toUInt32 >>> ((1 : Int32).toUInt32 &&& Int32.toUInt32 31)).toInt32) &&& 1431655765)) &&& 858993459) + ((((a1 - (((a1.toUInt32 >>> ((1 : Int32).toUInt32 &&& Int32.toUInt32 31)).toInt32) &&& 1431655765)).toUInt32 >>> ((2 : Int32).toUInt32 &&& Int32.toUInt32 31)).toInt32) &&& 858993459)) + (((((a1 - (((a1.toUInt32 >>> ((1 : Int32).toUInt32 &&& Int32.toUInt32 31)).toInt32) &&& 1431655765)) &&& 858993459) + ((((a1 - (((a1.toUInt32 >>> ((1 : Int32).toUInt32 &&& Int32.toUInt32 31)).toInt32) &&& 1431655765)).toUInt32 >>> ((2 : Int32).toUInt32 &&& Int32.toUInt32 31)).toInt32) &&& 858993459)).toUInt32 >>> ((4 : Int32).toUInt32 &&& Int32.toUInt32 31)).toInt32)) &&& 252645135))]) hx hb d_JI_bitCount_33 rfl hl (by decide) rfl (fun ls hl => ?_)
  refine lv_iload_n hx hb d_JI_bitCount_34 rfl (lv_at hl 0 rfl) ?_
  refine lv_iload_n hx hb d_JI_bitCount_35 rfl (lv_at hl 0 rfl) ?_
  refine lv_bipush (v := 8) hx hb d_JI_bitCount_36 (by decide) ?_
  refine lv_iushr (v := ((((((a1 - (((a1.toUInt32 >>> ((1 : Int32).toUInt32 &&& Int32.toUInt32 31)).toInt32) &&& 1431655765)) &&& 858993459) + ((((a1 - (((a1.toUInt32 >>> ((1 : Int32).toUInt32 &&& Int32.toUInt32 31)).toInt32) &&& 1431655765)).toUInt32 >>> ((2 : Int32).toUInt32 &&& Int32.toUInt32 31)).toInt32) &&& 858993459)) + (((((a1 - (((a1.toUInt32 >>> ((1 : Int32).toUInt32 &&& Int32.toUInt32 31)).toInt32) &&& 1431655765)) &&& 858993459) + ((((a1 - (((a1.toUInt32 >>> ((1 : Int32).toUInt32 &&& Int32.toUInt32 31)).toInt32) &&& 1431655765)).toUInt32 >>> ((2 : Int32).toUInt32 &&& Int32.toUInt32 31)).toInt32) &&& 858993459)).toUInt32 >>> ((4 : Int32).toUInt32 &&& Int32.toUInt32 31)).toInt32)) &&& 252645135).toUInt32 >>> ((8 : Int32).toUInt32 &&& Int32.toUInt32 31)).toInt32) hx hb d_JI_bitCount_38 rfl ?_
  refine lv_iadd hx hb d_JI_bitCount_39 ?_
  refine lv_istore_n (lv' := [(0, .int ((((((a1 - (((a1.toUInt32 >>> ((1 : Int32).toUInt32 &&& Int32.toUInt32 31)).toInt32) &&& 1431655765)) &&& 858993459) + ((((a1 - (((a1.toUInt32 >>> ((1 : Int32).toUInt32 &&& Int32.toUInt32 31)).toInt32) &&& 1431655765)).toUInt32 >>> ((2 : Int32).toUInt32 &&& Int32.toUInt32 31)).toInt32) &&& 858993459)) + (((((a1 - (((a1.toUInt32 >>> ((1 : Int32).toUInt32 &&& Int32.toUInt32 31)).toInt32) &&& 1431655765)) &&& 858993459) + ((((a1 - (((a1.toUInt32 >>> ((1 : Int32).toUInt32 &&& Int32.toUInt32 31)).toInt32) &&& 1431655765)).toUInt32 >>> ((2 : Int32).toUInt32 &&& Int32.toUInt32 31)).toInt32) &&& 858993459)).toUInt32 >>> ((4 : Int32).toUInt32 &&& Int32.toUInt32 31)).toInt32)) &&& 252645135) + (((((((a1 - (((a1.toUInt32 >>> ((1 : Int32).toUInt32 &&& Int32.toUInt32 31)).toInt32) &&& 1431655765)) &&& 858993459) + ((((a1 - (((a1.toUInt32 >>> ((1 : Int32).toUInt32 &&& Int32.toUInt32 31)).toInt32) &&& 1431655765)).toUInt32 >>> ((2 : Int32).toUInt32 &&& Int32.toUInt32 31)).toInt32) &&& 858993459)) + (((((a1 - (((a1.toUInt32 >>> ((1 : Int32).toUInt32 &&& Int32.toUInt32 31)).toInt32) &&& 1431655765)) &&& 858993459) + ((((a1 - (((a1.toUInt32 >>> ((1 : Int32).toUInt32 &&& Int32.toUInt32 31)).toInt32) &&& 1431655765)).toUInt32 >>> ((2 : Int32).toUInt32 &&& Int32.toUInt32 31)).toInt32) &&& 858993459)).toUInt32 >>> ((4 : Int32).toUInt32 &&& Int32.toUInt32 31)).toInt32)) &&& 252645135).toUInt32 >>> ((8 : Int32).toUInt32 &&& Int32.toUInt32 31)).toInt32)))]) hx hb d_JI_bitCount_40 rfl hl (by decide) rfl (fun ls hl => ?_)
  refine lv_iload_n hx hb d_JI_bitCount_41 rfl (lv_at hl 0 rfl) ?_
  refine lv_iload_n hx hb d_JI_bitCount_42 rfl (lv_at hl 0 rfl) ?_
  refine lv_bipush (v := 16) hx hb d_JI_bitCount_43 (by decide) ?_
  refine lv_iushr (v := (((((((a1 - (((a1.toUInt32 >>> ((1 : Int32).toUInt32 &&& Int32.toUInt32 31)).toInt32) &&& 1431655765)) &&& 858993459) + ((((a1 - (((a1.toUInt32 >>> ((1 : Int32).toUInt32 &&& Int32.toUInt32 31)).toInt32) &&& 1431655765)).toUInt32 >>> ((2 : Int32).toUInt32 &&& Int32.toUInt32 31)).toInt32) &&& 858993459)) + (((((a1 - (((a1.toUInt32 >>> ((1 : Int32).toUInt32 &&& Int32.toUInt32 31)).toInt32) &&& 1431655765)) &&& 858993459) + ((((a1 - (((a1.toUInt32 >>> ((1 : Int32).toUInt32 &&& Int32.toUInt32 31)).toInt32) &&& 1431655765)).toUInt32 >>> ((2 : Int32).toUInt32 &&& Int32.toUInt32 31)).toInt32) &&& 858993459)).toUInt32 >>> ((4 : Int32).toUInt32 &&& Int32.toUInt32 31)).toInt32)) &&& 252645135) + (((((((a1 - (((a1.toUInt32 >>> ((1 : Int32).toUInt32 &&& Int32.toUInt32 31)).toInt32) &&& 1431655765)) &&& 858993459) + ((((a1 - (((a1.toUInt32 >>> ((1 : Int32).toUInt32 &&& Int32.toUInt32 31)).toInt32) &&& 1431655765)).toUInt32 >>> ((2 : Int32).toUInt32 &&& Int32.toUInt32 31)).toInt32) &&& 858993459)) + (((((a1 - (((a1.toUInt32 >>> ((1 : Int32).toUInt32 &&& Int32.toUInt32 31)).toInt32) &&& 1431655765)) &&& 858993459) + ((((a1 - (((a1.toUInt32 >>> ((1 : Int32).toUInt32 &&& Int32.toUInt32 31)).toInt32) &&& 1431655765)).toUInt32 >>> ((2 : Int32).toUInt32 &&& Int32.toUInt32 31)).toInt32) &&& 858993459)).toUInt32 >>> ((4 : Int32).toUInt32 &&& Int32.toUInt32 31)).toInt32)) &&& 252645135).toUInt32 >>> ((8 : Int32).toUInt32 &&& Int32.toUInt32 31)).toInt32)).toUInt32 >>> ((16 : Int32).toUInt32 &&& Int32.toUInt32 31)).toInt32) hx hb d_JI_bitCount_45 rfl ?_
  refine lv_iadd hx hb d_JI_bitCount_46 ?_
  refine lv_istore_n (lv' := [(0, .int (((((((a1 - (((a1.toUInt32 >>> ((1 : Int32).toUInt32 &&& Int32.toUInt32 31)).toInt32) &&& 1431655765)) &&& 858993459) + ((((a1 - (((a1.toUInt32 >>> ((1 : Int32).toUInt32 &&& Int32.toUInt32 31)).toInt32) &&& 1431655765)).toUInt32 >>> ((2 : Int32).toUInt32 &&& Int32.toUInt32 31)).toInt32) &&& 858993459)) + (((((a1 - (((a1.toUInt32 >>> ((1 : Int32).toUInt32 &&& Int32.toUInt32 31)).toInt32) &&& 1431655765)) &&& 858993459) + ((((a1 - (((a1.toUInt32 >>> ((1 : Int32).toUInt32 &&& Int32.toUInt32 31)).toInt32) &&& 1431655765)).toUInt32 >>> ((2 : Int32).toUInt32 &&& Int32.toUInt32 31)).toInt32) &&& 858993459)).toUInt32 >>> ((4 : Int32).toUInt32 &&& Int32.toUInt32 31)).toInt32)) &&& 252645135) + (((((((a1 - (((a1.toUInt32 >>> ((1 : Int32).toUInt32 &&& Int32.toUInt32 31)).toInt32) &&& 1431655765)) &&& 858993459) + ((((a1 - (((a1.toUInt32 >>> ((1 : Int32).toUInt32 &&& Int32.toUInt32 31)).toInt32) &&& 1431655765)).toUInt32 >>> ((2 : Int32).toUInt32 &&& Int32.toUInt32 31)).toInt32) &&& 858993459)) + (((((a1 - (((a1.toUInt32 >>> ((1 : Int32).toUInt32 &&& Int32.toUInt32 31)).toInt32) &&& 1431655765)) &&& 858993459) + ((((a1 - (((a1.toUInt32 >>> ((1 : Int32).toUInt32 &&& Int32.toUInt32 31)).toInt32) &&& 1431655765)).toUInt32 >>> ((2 : Int32).toUInt32 &&& Int32.toUInt32 31)).toInt32) &&& 858993459)).toUInt32 >>> ((4 : Int32).toUInt32 &&& Int32.toUInt32 31)).toInt32)) &&& 252645135).toUInt32 >>> ((8 : Int32).toUInt32 &&& Int32.toUInt32 31)).toInt32)) + ((((((((a1 - (((a1.toUInt32 >>> ((1 : Int32).toUInt32 &&& Int32.toUInt32 31)).toInt32) &&& 1431655765)) &&& 858993459) + ((((a1 - (((a1.toUInt32 >>> ((1 : Int32).toUInt32 &&& Int32.toUInt32 31)).toInt32) &&& 1431655765)).toUInt32 >>> ((2 : Int32).toUInt32 &&& Int32.toUInt32 31)).toInt32) &&& 858993459)) + (((((a1 - (((a1.toUInt32 >>> ((1 : Int32).toUInt32 &&& Int32.toUInt32 31)).toInt32) &&& 1431655765)) &&& 858993459) + ((((a1 - (((a1.toUInt32 >>> ((1 : Int32).toUInt32 &&& Int32.toUInt32 31)).toInt32) &&& 1431655765)).toUInt32 >>> ((2 : Int32).toUInt32 &&& Int32.toUInt32 31)).toInt32) &&& 858993459)).toUInt32 >>> ((4 : Int32).toUInt32 &&& Int32.toUInt32 31)).toInt32)) &&& 252645135) + (((((((a1 - (((a1.toUInt32 >>> ((1 : Int32).toUInt32 &&& Int32.toUInt32 31)).toInt32) &&& 1431655765)) &&& 858993459) + ((((a1 - (((a1.toUInt32 >>> ((1 : Int32).toUInt32 &&& Int32.toUInt32 31)).toInt32) &&& 1431655765)).toUInt32 >>> ((2 : Int32).toUInt32 &&& Int32.toUInt32 31)).toInt32) &&& 858993459)) + (((((a1 - (((a1.toUInt32 >>> ((1 : Int32).toUInt32 &&& Int32.toUInt32 31)).toInt32) &&& 1431655765)) &&& 858993459) + ((((a1 - (((a1.toUInt32 >>> ((1 : Int32).toUInt32 &&& Int32.toUInt32 31)).toInt32) &&& 1431655765)).toUInt32 >>> ((2 : Int32).toUInt32 &&& Int32.toUInt32 31)).toInt32) &&& 858993459)).toUInt32 >>> ((4 : Int32).toUInt32 &&& Int32.toUInt32 31)).toInt32)) &&& 252645135).toUInt32 >>> ((8 : Int32).toUInt32 &&& Int32.toUInt32 31)).toInt32)).toUInt32 >>> ((16 : Int32).toUInt32 &&& Int32.toUInt32 31)).toInt32)))]) hx hb d_JI_bitCount_47 rfl hl (by decide) rfl (fun ls hl => ?_)
  refine lv_iload_n hx hb d_JI_bitCount_48 rfl (lv_at hl 0 rfl) ?_
  refine lv_bipush (v := 63) hx hb d_JI_bitCount_49 (by decide) ?_
  refine lv_iand hx hb d_JI_bitCount_51 ?_
  cases hF
  exact kri K hP hD hS d_JI_bitCount_52 rfl
theorem c_JI_bitCount (l : Launch) (g : va_G) (tys : List (ClassId × FieldType)) (w : va_W) (a1 : Int32) (r : Int32) (hF : F_JI_bitCount a1 = some r) : Ci l y_JI_bitCount prog_10_method_49_code 1 (some .int) ({ frames := 0, cells := 0, slots := 0, locals := 0 }) [.int a1] g tys w w r :=
  Ci.of (by decide) (Nat.le_of_ble_eq_true rfl) (fun p e s m below meth c A ls K hP hD hS hl => t_JI_bitCount K  a1 r hF hP hD hS hl)
def F_K_goTogether (a1 : Int32) (a2 : Int32) : Option (Int32) :=
  gd (a1 < 0 ∨ 6 ≤ a1.toNatClampNeg) (if (((tgF a1.toNatClampNeg) >>> (a2 &&& 31)) &&& 1) = 0 then some 0 else some 1)
set_option maxHeartbeats 4000000 in
set_option maxRecDepth 100000 in
theorem t_K_goTogether {p : Program} {l : Launch} {e : Env} {s : State} {m : MethodId} {args : Array Value} {below : List Frame} {meth : Method} {c : Code} {A : Nat → Prop} {g : va_G} {tys : List (ClassId × FieldType)} {w : va_W} (K : kX p s m args meth c "LockTable$Modes" prog_3_method_2_code 2 (some .boolean) A g tys)  (a1 : Int32) (a2 : Int32) (r : Int32) (hF : F_K_goTogether a1 a2 = some r) {H : Heap} {locs : List Loc} {ls : Array Slot} (hP : va_P g kcl w H) (hD : va_D A w) (hS : va_S A s.heap H locs) (hl : lv_has ls 2 [(0, .int a1), (1, .int a2)]) : W p l e ({ frames := 0, cells := 0, slots := 0, locals := 0 }) s m args below meth c H locs 0 0 (MQ below (kQi g tys w A r) args s 0 0 A) (F0 m 0 ls []) := by
  obtain ⟨hx, hb, hr, hml, hown, hts, hlocks, hK, hA, hE⟩ := id K
  unfold F_K_goTogether at hF
  obtain ⟨t_1, hz_2, ht_3⟩ := hE.1.1
  refine va_gets hx hb hz_2 hS hown (hts _ wm_342) (fun _ h9 => h9) d_K_goTogether_0 ?_
  refine lv_iload_n hx hb d_K_goTogether_3 rfl (lv_at hl 0 rfl) ?_
  obtain ⟨hg_4, hF⟩ := gd_inv hF
  refine va_ti (v := .int (tgF a1.toNatClampNeg)) hx hb ht_3 hS hg_4 rfl d_K_goTogether_4 ?_
  refine lv_iload_n hx hb d_K_goTogether_5 rfl (lv_at hl 1 rfl) ?_
  refine lv_ishr hx hb d_K_goTogether_6 ?_
  refine lv_iconst (v := 1) hx hb d_K_goTogether_7 (by decide) ?_
  refine lv_iand hx hb d_K_goTogether_8 ?_
  refine lv_if_eq (tgt := 16) hx hb d_K_goTogether_9 (by decide) (fun hc_5 => ?_) (fun hc_5 => ?_)
  · have hF := it_t hF hc_5
    refine lv_iconst (v := 0) hx hb d_K_goTogether_16 (by decide) ?_
    cases hF
    exact krz K hP hD hS d_K_goTogether_17 rfl rfl
  · have hF := it_f hF hc_5
    refine lv_iconst (v := 1) hx hb d_K_goTogether_12 (by decide) ?_
    refine lv_goto (tgt := 17) hx hb d_K_goTogether_13 (by decide) ?_
    cases hF
    exact krz K hP hD hS d_K_goTogether_17 rfl rfl
theorem c_K_goTogether (l : Launch) (g : va_G) (tys : List (ClassId × FieldType)) (w : va_W) (a1 : Int32) (a2 : Int32) (r : Int32) (hF : F_K_goTogether a1 a2 = some r) : Ci l y_K_goTogether prog_3_method_2_code 2 (some .boolean) ({ frames := 0, cells := 0, slots := 0, locals := 0 }) [.int a1, .int a2] g tys w w r :=
  Ci.of (by decide) (Nat.le_of_ble_eq_true rfl) (fun p e s m below meth c A ls K hP hD hS hl => t_K_goTogether K  a1 a2 r hF hP hD hS hl)
def F_K_joined_L17 (v2 : Int32) : Nat → Int32 → Int32 → Option (Int32)
  | 0, _, _ => none
  | n + 1, v3, v4 => if 6 ≤ v4 then some v3 else gd (v4 < 0 ∨ 6 ≤ v4.toNatClampNeg) (jn1 (fun (s_14 : Int32) => if s_14 = 0 then F_K_joined_L17 v2 n v3 (v4 + 1) else gd (v4 < 0 ∨ 6 ≤ v4.toNatClampNeg) (ob1 (F_JI_bitCount (tgF v4.toNatClampNeg)) (fun r_20 => gd (v3 < 0 ∨ 6 ≤ v3.toNatClampNeg) (ob1 (F_JI_bitCount (tgF v3.toNatClampNeg)) (fun r_25 => if r_20 ≤ r_25 then F_K_joined_L17 v2 n v3 (v4 + 1) else F_K_joined_L17 v2 n v4 (v4 + 1)))))) (fun J42 => if ((tgF v4.toNatClampNeg) &&& (v2 ^^^ (-1))) = 0 then J42 1 else J42 0))
def F_K_joined (a1 : Int32) (a2 : Int32) : Option (Int32) :=
  gd (a1 < 0 ∨ 6 ≤ a1.toNatClampNeg) (gd (a2 < 0 ∨ 6 ≤ a2.toNatClampNeg) (ob1 (F_K_joined_L17 ((tgF a1.toNatClampNeg) &&& (tgF a2.toNatClampNeg)) fu 5 0) (fun v3_28 => some v3_28)))
set_option maxHeartbeats 4000000 in
set_option maxRecDepth 100000 in
theorem t_K_joined_L17 {p : Program} {l : Launch} {e : Env} {s : State} {m : MethodId} {args : Array Value} {below : List Frame} {meth : Method} {c : Code} {A : Nat → Prop} {g : va_G} {tys : List (ClassId × FieldType)} {w : va_W} (K : kX p s m args meth c "LockTable$Modes" prog_3_method_3_code 6 (some .int) A g tys) {Q : State → Prop} (v2 : Int32) : ∀ (n : Nat) (v3 : Int32) (v4 : Int32) (o_v3 : Int32) (H : Heap) (locs : List Loc) (ls : Array Slot), F_K_joined_L17 v2 n v3 v4 = some o_v3 → va_P g kcl w H → va_D A w → va_S A s.heap H locs → lv_has ls 6 [(2, .int v2), (3, .int v3), (4, .int v4)] → (∀ (H : Heap) (locs : List Loc) (ls : Array Slot), va_P g kcl w H → va_D A w → va_S A s.heap H locs → lv_has ls 6 [(3, .int o_v3)] → W p l e ({ frames := 1, cells := 0, slots := 0, locals := 20 }) s m args below meth c H locs 0 0 Q (F0 m 78 ls [])) → W p l e ({ frames := 1, cells := 0, slots := 0, locals := 20 }) s m args below meth c H locs 0 0 Q (F0 m 17 ls []) := by
  obtain ⟨hx, hb, hr, hml, hown, hts, hlocks, hK, hA, hE⟩ := id K
  intro n
  induction n with
  | zero =>
    intro v3 v4 o_v3 H locs ls hF
    rw [F_K_joined_L17] at hF
    cases hF
  | succ n ih =>
    intro v3 v4 o_v3 H locs ls hF hP hD hS hl hQ
    rw [F_K_joined_L17] at hF
    refine lv_iload hx hb d_K_joined_17 (lv_at hl 2 rfl) ?_
    refine lv_bipush (v := 6) hx hb d_K_joined_19 (by decide) ?_
    refine lv_icmp_ge (tgt := 78) hx hb d_K_joined_21 (by decide) (fun hc_9 => ?_) (fun hc_9 => ?_)
    · have hF := it_t hF hc_9
      cases hF
      exact hQ H locs ls hP hD hS (lv_sub hl [1] rfl)
    · have hF := it_f hF hc_9
      obtain ⟨t_10, hz_11, ht_12⟩ := hE.1.1
      refine va_gets hx hb hz_11 hS hown (hts _ wm_342) (fun _ h9 => h9) d_K_joined_24 ?_
      refine lv_iload hx hb d_K_joined_27 (lv_at hl 2 rfl) ?_
      obtain ⟨hg_13, hF⟩ := gd_inv hF
      refine va_ti (v := .int (tgF v4.toNatClampNeg)) hx hb ht_12 hS hg_13 rfl d_K_joined_29 ?_
      refine lv_iload_n hx hb d_K_joined_30 rfl (lv_at hl 0 rfl) ?_
      refine lv_iconst (v := (-1)) hx hb d_K_joined_31 (by decide) ?_
      refine lv_ixor hx hb d_K_joined_32 ?_
      refine lv_iand hx hb d_K_joined_33 ?_
      obtain ⟨J42, eJ42, hF⟩ := jn1_inv hF
      have hJ42 : ∀ (s_14 : Int32) (H : Heap) (locs : List Loc) (ls : Array Slot), J42 s_14 = some o_v3 → va_P g kcl w H → va_D A w → va_S A s.heap H locs → lv_has ls 6 [(2, .int v2), (3, .int v3), (4, .int v4)] → W p l e ({ frames := 1, cells := 0, slots := 0, locals := 20 }) s m args below meth c H locs 0 0 Q (F0 m 42 ls [.int s_14]) := by
        intro s_14 H locs ls hF hP hD hS hl
        rw [eJ42] at hF
        refine lv_istore (lv' := [(5, .int s_14), (2, .int v2), (3, .int v3), (4, .int v4)]) hx hb d_K_joined_42 hl (by decide) rfl (fun ls hl => ?_)
        refine lv_iload hx hb d_K_joined_44 (lv_at hl 0 rfl) ?_
        refine lv_if_eq (tgt := 72) hx hb d_K_joined_46 (by decide) (fun hc_15 => ?_) (fun hc_15 => ?_)
        · have hF := it_t hF hc_15
          refine lv_iinc (v := v4 + 1) (lv' := [(4, .int (v4 + 1)), (5, .int s_14), (2, .int v2), (3, .int v3)]) hx hb d_K_joined_72 hl (k := 3) rfl rfl (by decide) rfl (fun ls hl => ?_)
          refine lv_goto (tgt := 17) hx hb d_K_joined_75 (by decide) ?_
          exact ih _ _ _ H locs ls hF hP hD hS (lv_sub hl [2, 3, 0] rfl) hQ
        · have hF := it_f hF hc_15
          obtain ⟨t_16, hz_17, ht_18⟩ := hE.1.1
          refine va_gets hx hb hz_17 hS hown (hts _ wm_342) (fun _ h9 => h9) d_K_joined_49 ?_
          refine lv_iload hx hb d_K_joined_52 (lv_at hl 3 rfl) ?_
          obtain ⟨hg_19, hF⟩ := gd_inv hF
          refine va_ti (v := .int (tgF v4.toNatClampNeg)) hx hb ht_18 hS hg_19 rfl d_K_joined_54 ?_
          obtain ⟨r_20, hG, hF⟩ := ob1_inv hF
          refine ksi K hP hD hS (c_JI_bitCount l g tys w (tgF v4.toNatClampNeg) r_20 hG) wm_346 wm_344 wm_345 wm_57 hd_JI_bitCount rfl rfl ⟨Nat.le_of_ble_eq_true rfl, Nat.le_of_ble_eq_true rfl⟩ ⟨Nat.zero_le _, Nat.zero_le _⟩ hl.1 (rest := []) rfl (Nat.le_of_ble_eq_true rfl) d_K_joined_55 (fun H locs hP hD hS => ?_)
          obtain ⟨t_21, hz_22, ht_23⟩ := hE.1.1
          refine va_gets hx hb hz_22 hS hown (hts _ wm_342) (fun _ h9 => h9) d_K_joined_58 ?_
          refine lv_iload_n hx hb d_K_joined_61 rfl (lv_at hl 2 rfl) ?_
          obtain ⟨hg_24, hF⟩ := gd_inv hF
          refine va_ti (v := .int (tgF v3.toNatClampNeg)) hx hb ht_23 hS hg_24 rfl d_K_joined_62 ?_
          obtain ⟨r_25, hG, hF⟩ := ob1_inv hF
          refine ksi K hP hD hS (c_JI_bitCount l g tys w (tgF v3.toNatClampNeg) r_25 hG) wm_346 wm_344 wm_345 wm_57 hd_JI_bitCount rfl rfl ⟨Nat.le_of_ble_eq_true rfl, Nat.le_of_ble_eq_true rfl⟩ ⟨Nat.zero_le _, Nat.zero_le _⟩ hl.1 (rest := [.int r_20]) rfl (Nat.le_of_ble_eq_true rfl) d_K_joined_63 (fun H locs hP hD hS => ?_)
          refine lv_icmp_le (tgt := 72) hx hb d_K_joined_66 (by decide) (fun hc_26 => ?_) (fun hc_26 => ?_)
          · have hF := it_t hF hc_26
            refine lv_iinc (v := v4 + 1) (lv' := [(4, .int (v4 + 1)), (5, .int s_14), (2, .int v2), (3, .int v3)]) hx hb d_K_joined_72 hl (k := 3) rfl rfl (by decide) rfl (fun ls hl => ?_)
            refine lv_goto (tgt := 17) hx hb d_K_joined_75 (by decide) ?_
            exact ih _ _ _ H locs ls hF hP hD hS (lv_sub hl [2, 3, 0] rfl) hQ
          · have hF := it_f hF hc_26
            refine lv_iload hx hb d_K_joined_69 (lv_at hl 3 rfl) ?_
            refine lv_istore_n (lv' := [(3, .int v4), (5, .int s_14), (2, .int v2), (4, .int v4)]) hx hb d_K_joined_71 rfl hl (by decide) rfl (fun ls hl => ?_)
            refine lv_iinc (v := v4 + 1) (lv' := [(4, .int (v4 + 1)), (3, .int v4), (5, .int s_14), (2, .int v2)]) hx hb d_K_joined_72 hl (k := 3) rfl rfl (by decide) rfl (fun ls hl => ?_)
            refine lv_goto (tgt := 17) hx hb d_K_joined_75 (by decide) ?_
            exact ih _ _ _ H locs ls hF hP hD hS (lv_sub hl [3, 1, 0] rfl) hQ
      refine lv_if_ne (tgt := 41) hx hb d_K_joined_34 (by decide) (fun hc_27 => ?_) (fun hc_27 => ?_)
      · have hF := it_f hF hc_27
        refine lv_iconst (v := 0) hx hb d_K_joined_41 (by decide) ?_
        exact hJ42 _ H locs ls hF hP hD hS (lv_sub hl [0, 1, 2] rfl)
      · have hF := it_t hF hc_27
        refine lv_iconst (v := 1) hx hb d_K_joined_37 (by decide) ?_
        refine lv_goto (tgt := 42) hx hb d_K_joined_38 (by decide) ?_
        exact hJ42 _ H locs ls hF hP hD hS (lv_sub hl [0, 1, 2] rfl)
set_option maxHeartbeats 4000000 in
set_option maxRecDepth 100000 in
theorem t_K_joined {p : Program} {l : Launch} {e : Env} {s : State} {m : MethodId} {args : Array Value} {below : List Frame} {meth : Method} {c : Code} {A : Nat → Prop} {g : va_G} {tys : List (ClassId × FieldType)} {w : va_W} (K : kX p s m args meth c "LockTable$Modes" prog_3_method_3_code 6 (some .int) A g tys)  (a1 : Int32) (a2 : Int32) (r : Int32) (hF : F_K_joined a1 a2 = some r) {H : Heap} {locs : List Loc} {ls : Array Slot} (hP : va_P g kcl w H) (hD : va_D A w) (hS : va_S A s.heap H locs) (hl : lv_has ls 6 [(0, .int a1), (1, .int a2)]) : W p l e ({ frames := 1, cells := 0, slots := 0, locals := 20 }) s m args below meth c H locs 0 0 (MQ below (kQi g tys w A r) args s 0 0 A) (F0 m 0 ls []) := by
  obtain ⟨hx, hb, hr, hml, hown, hts, hlocks, hK, hA, hE⟩ := id K
  unfold F_K_joined at hF
  obtain ⟨t_1, hz_2, ht_3⟩ := hE.1.1
  refine va_gets hx hb hz_2 hS hown (hts _ wm_342) (fun _ h9 => h9) d_K_joined_0 ?_
  refine lv_iload_n hx hb d_K_joined_3 rfl (lv_at hl 0 rfl) ?_
  obtain ⟨hg_4, hF⟩ := gd_inv hF
  refine va_ti (v := .int (tgF a1.toNatClampNeg)) hx hb ht_3 hS hg_4 rfl d_K_joined_4 ?_
  obtain ⟨t_5, hz_6, ht_7⟩ := hE.1.1
  refine va_gets hx hb hz_6 hS hown (hts _ wm_342) (fun _ h9 => h9) d_K_joined_5 ?_
  refine lv_iload_n hx hb d_K_joined_8 rfl (lv_at hl 1 rfl) ?_
  obtain ⟨hg_8, hF⟩ := gd_inv hF
  refine va_ti (v := .int (tgF a2.toNatClampNeg)) hx hb ht_7 hS hg_8 rfl d_K_joined_9 ?_
  refine lv_iand hx hb d_K_joined_10 ?_
  refine lv_istore_n (lv' := [(2, .int ((tgF a1.toNatClampNeg) &&& (tgF a2.toNatClampNeg))), (0, .int a1), (1, .int a2)]) hx hb d_K_joined_11 rfl hl (by decide) rfl (fun ls hl => ?_)
  refine lv_iconst (v := 5) hx hb d_K_joined_12 (by decide) ?_
  refine lv_istore_n (lv' := [(3, .int 5), (2, .int ((tgF a1.toNatClampNeg) &&& (tgF a2.toNatClampNeg))), (0, .int a1), (1, .int a2)]) hx hb d_K_joined_13 rfl hl (by decide) rfl (fun ls hl => ?_)
  refine lv_iconst (v := 0) hx hb d_K_joined_14 (by decide) ?_
  refine lv_istore (lv' := [(4, .int 0), (3, .int 5), (2, .int ((tgF a1.toNatClampNeg) &&& (tgF a2.toNatClampNeg))), (0, .int a1), (1, .int a2)]) hx hb d_K_joined_15 hl (by decide) rfl (fun ls hl => ?_)
  obtain ⟨v3_28, hG, hF⟩ := ob1_inv hF
  refine t_K_joined_L17 K ((tgF a1.toNatClampNeg) &&& (tgF a2.toNatClampNeg)) fu _ _ _ H locs ls hG hP hD hS (lv_sub hl [2, 1, 0] rfl) (fun H locs ls hP hD hS hl => ?_)
  refine lv_iload_n hx hb d_K_joined_78 rfl (lv_at hl 0 rfl) ?_
  cases hF
  exact kri K hP hD hS d_K_joined_79 rfl
theorem c_K_joined (l : Launch) (g : va_G) (tys : List (ClassId × FieldType)) (w : va_W) (a1 : Int32) (a2 : Int32) (r : Int32) (hF : F_K_joined a1 a2 = some r) : Ci l y_K_joined prog_3_method_3_code 6 (some .int) ({ frames := 1, cells := 0, slots := 0, locals := 20 }) [.int a1, .int a2] g tys w w r :=
  Ci.of (by decide) (Nat.le_of_ble_eq_true rfl) (fun p e s m below meth c A ls K hP hD hS hl => t_K_joined K  a1 a2 r hF hP hD hS hl)
def F_K_tableCovers (a1 : Int32) (a2 : Int32) : Option (Int32) :=
  if a1 = (-1) then some 0 else gd (a1 < 0 ∨ 6 ≤ a1.toNatClampNeg) (if (((btF a1.toNatClampNeg) >>> (a2 &&& 31)) &&& 1) = 0 then some 0 else some 1)
set_option maxHeartbeats 4000000 in
set_option maxRecDepth 100000 in
theorem t_K_tableCovers {p : Program} {l : Launch} {e : Env} {s : State} {m : MethodId} {args : Array Value} {below : List Frame} {meth : Method} {c : Code} {A : Nat → Prop} {g : va_G} {tys : List (ClassId × FieldType)} {w : va_W} (K : kX p s m args meth c "LockTable$Modes" prog_3_method_4_code 2 (some .boolean) A g tys)  (a1 : Int32) (a2 : Int32) (r : Int32) (hF : F_K_tableCovers a1 a2 = some r) {H : Heap} {locs : List Loc} {ls : Array Slot} (hP : va_P g kcl w H) (hD : va_D A w) (hS : va_S A s.heap H locs) (hl : lv_has ls 2 [(0, .int a1), (1, .int a2)]) : W p l e ({ frames := 0, cells := 0, slots := 0, locals := 0 }) s m args below meth c H locs 0 0 (MQ below (kQi g tys w A r) args s 0 0 A) (F0 m 0 ls []) := by
  obtain ⟨hx, hb, hr, hml, hown, hts, hlocks, hK, hA, hE⟩ := id K
  unfold F_K_tableCovers at hF
  refine lv_iload_n hx hb d_K_tableCovers_0 rfl (lv_at hl 0 rfl) ?_
  refine lv_iconst (v := (-1)) hx hb d_K_tableCovers_1 (by decide) ?_
  refine lv_icmp_eq (tgt := 21) hx hb d_K_tableCovers_2 (by decide) (fun hc_1 => ?_) (fun hc_1 => ?_)
  · have hF := it_t hF hc_1
    refine lv_iconst (v := 0) hx hb d_K_tableCovers_21 (by decide) ?_
    cases hF
    exact krz K hP hD hS d_K_tableCovers_22 rfl rfl
  · have hF := it_f hF hc_1
    obtain ⟨t_2, hz_3, ht_4⟩ := hE.1.2.1
    refine va_gets hx hb hz_3 hS hown (hts _ wm_477) (fun _ h9 => h9) d_K_tableCovers_5 ?_
    refine lv_iload_n hx hb d_K_tableCovers_8 rfl (lv_at hl 0 rfl) ?_
    obtain ⟨hg_5, hF⟩ := gd_inv hF
    refine va_ti (v := .int (btF a1.toNatClampNeg)) hx hb ht_4 hS hg_5 rfl d_K_tableCovers_9 ?_
    refine lv_iload_n hx hb d_K_tableCovers_10 rfl (lv_at hl 1 rfl) ?_
    refine lv_ishr hx hb d_K_tableCovers_11 ?_
    refine lv_iconst (v := 1) hx hb d_K_tableCovers_12 (by decide) ?_
    refine lv_iand hx hb d_K_tableCovers_13 ?_
    refine lv_if_eq (tgt := 21) hx hb d_K_tableCovers_14 (by decide) (fun hc_6 => ?_) (fun hc_6 => ?_)
    · have hF := it_t hF hc_6
      refine lv_iconst (v := 0) hx hb d_K_tableCovers_21 (by decide) ?_
      cases hF
      exact krz K hP hD hS d_K_tableCovers_22 rfl rfl
    · have hF := it_f hF hc_6
      refine lv_iconst (v := 1) hx hb d_K_tableCovers_17 (by decide) ?_
      refine lv_goto (tgt := 22) hx hb d_K_tableCovers_18 (by decide) ?_
      cases hF
      exact krz K hP hD hS d_K_tableCovers_22 rfl rfl
theorem c_K_tableCovers (l : Launch) (g : va_G) (tys : List (ClassId × FieldType)) (w : va_W) (a1 : Int32) (a2 : Int32) (r : Int32) (hF : F_K_tableCovers a1 a2 = some r) : Ci l y_K_tableCovers prog_3_method_4_code 2 (some .boolean) ({ frames := 0, cells := 0, slots := 0, locals := 0 }) [.int a1, .int a2] g tys w w r :=
  Ci.of (by decide) (Nat.le_of_ble_eq_true rfl) (fun p e s m below meth c A ls K hP hD hS hl => t_K_tableCovers K  a1 a2 r hF hP hD hS hl)
def F_K_rangeCovers (a1 : Int32) (a2 : Int32) : Option (Int32) :=
  gd (a1 < 0 ∨ 6 ≤ a1.toNatClampNeg) (if (((brF a1.toNatClampNeg) >>> (a2 &&& 31)) &&& 1) = 0 then some 0 else some 1)
set_option maxHeartbeats 4000000 in
set_option maxRecDepth 100000 in
theorem t_K_rangeCovers {p : Program} {l : Launch} {e : Env} {s : State} {m : MethodId} {args : Array Value} {below : List Frame} {meth : Method} {c : Code} {A : Nat → Prop} {g : va_G} {tys : List (ClassId × FieldType)} {w : va_W} (K : kX p s m args meth c "LockTable$Modes" prog_3_method_5_code 2 (some .boolean) A g tys)  (a1 : Int32) (a2 : Int32) (r : Int32) (hF : F_K_rangeCovers a1 a2 = some r) {H : Heap} {locs : List Loc} {ls : Array Slot} (hP : va_P g kcl w H) (hD : va_D A w) (hS : va_S A s.heap H locs) (hl : lv_has ls 2 [(0, .int a1), (1, .int a2)]) : W p l e ({ frames := 0, cells := 0, slots := 0, locals := 0 }) s m args below meth c H locs 0 0 (MQ below (kQi g tys w A r) args s 0 0 A) (F0 m 0 ls []) := by
  obtain ⟨hx, hb, hr, hml, hown, hts, hlocks, hK, hA, hE⟩ := id K
  unfold F_K_rangeCovers at hF
  obtain ⟨t_1, hz_2, ht_3⟩ := hE.1.2.2
  refine va_gets hx hb hz_2 hS hown (hts _ wm_486) (fun _ h9 => h9) d_K_rangeCovers_0 ?_
  refine lv_iload_n hx hb d_K_rangeCovers_3 rfl (lv_at hl 0 rfl) ?_
  obtain ⟨hg_4, hF⟩ := gd_inv hF
  refine va_ti (v := .int (brF a1.toNatClampNeg)) hx hb ht_3 hS hg_4 rfl d_K_rangeCovers_4 ?_
  refine lv_iload_n hx hb d_K_rangeCovers_5 rfl (lv_at hl 1 rfl) ?_
  refine lv_ishr hx hb d_K_rangeCovers_6 ?_
  refine lv_iconst (v := 1) hx hb d_K_rangeCovers_7 (by decide) ?_
  refine lv_iand hx hb d_K_rangeCovers_8 ?_
  refine lv_if_eq (tgt := 16) hx hb d_K_rangeCovers_9 (by decide) (fun hc_5 => ?_) (fun hc_5 => ?_)
  · have hF := it_t hF hc_5
    refine lv_iconst (v := 0) hx hb d_K_rangeCovers_16 (by decide) ?_
    cases hF
    exact krz K hP hD hS d_K_rangeCovers_17 rfl rfl
  · have hF := it_f hF hc_5
    refine lv_iconst (v := 1) hx hb d_K_rangeCovers_12 (by decide) ?_
    refine lv_goto (tgt := 17) hx hb d_K_rangeCovers_13 (by decide) ?_
    cases hF
    exact krz K hP hD hS d_K_rangeCovers_17 rfl rfl
theorem c_K_rangeCovers (l : Launch) (g : va_G) (tys : List (ClassId × FieldType)) (w : va_W) (a1 : Int32) (a2 : Int32) (r : Int32) (hF : F_K_rangeCovers a1 a2 = some r) : Ci l y_K_rangeCovers prog_3_method_5_code 2 (some .boolean) ({ frames := 0, cells := 0, slots := 0, locals := 0 }) [.int a1, .int a2] g tys w w r :=
  Ci.of (by decide) (Nat.le_of_ble_eq_true rfl) (fun p e s m below meth c A ls K hP hD hS hl => t_K_rangeCovers K  a1 a2 r hF hP hD hS hl)
def F_K_allowsRange (a1 : Int32) (a2 : Int32) : Option (Int32) :=
  if a2 = 2 then if a1 = (-1) then some 0 else some 1 else if a1 = 1 then some 1 else if a1 = 3 then some 1 else if a1 = 5 then some 1 else some 0
set_option maxHeartbeats 4000000 in
set_option maxRecDepth 100000 in
theorem t_K_allowsRange {p : Program} {l : Launch} {e : Env} {s : State} {m : MethodId} {args : Array Value} {below : List Frame} {meth : Method} {c : Code} {A : Nat → Prop} {g : va_G} {tys : List (ClassId × FieldType)} {w : va_W} (K : kX p s m args meth c "LockTable$Modes" prog_3_method_6_code 2 (some .boolean) A g tys)  (a1 : Int32) (a2 : Int32) (r : Int32) (hF : F_K_allowsRange a1 a2 = some r) {H : Heap} {locs : List Loc} {ls : Array Slot} (hP : va_P g kcl w H) (hD : va_D A w) (hS : va_S A s.heap H locs) (hl : lv_has ls 2 [(0, .int a1), (1, .int a2)]) : W p l e ({ frames := 0, cells := 0, slots := 0, locals := 0 }) s m args below meth c H locs 0 0 (MQ below (kQi g tys w A r) args s 0 0 A) (F0 m 0 ls []) := by
  obtain ⟨hx, hb, hr, hml, hown, hts, hlocks, hK, hA, hE⟩ := id K
  unfold F_K_allowsRange at hF
  refine lv_iload_n hx hb d_K_allowsRange_0 rfl (lv_at hl 1 rfl) ?_
  refine lv_iconst (v := 2) hx hb d_K_allowsRange_1 (by decide) ?_
  refine lv_icmp_ne (tgt := 18) hx hb d_K_allowsRange_2 (by decide) (fun hc_1 => ?_) (fun hc_1 => ?_)
  · have hF := it_f hF hc_1
    refine lv_iload_n hx hb d_K_allowsRange_18 rfl (lv_at hl 0 rfl) ?_
    refine lv_iconst (v := 1) hx hb d_K_allowsRange_19 (by decide) ?_
    refine lv_icmp_eq (tgt := 33) hx hb d_K_allowsRange_20 (by decide) (fun hc_2 => ?_) (fun hc_2 => ?_)
    · have hF := it_t hF hc_2
      refine lv_iconst (v := 1) hx hb d_K_allowsRange_33 (by decide) ?_
      refine lv_goto (tgt := 38) hx hb d_K_allowsRange_34 (by decide) ?_
      cases hF
      exact krz K hP hD hS d_K_allowsRange_38 rfl rfl
    · have hF := it_f hF hc_2
      refine lv_iload_n hx hb d_K_allowsRange_23 rfl (lv_at hl 0 rfl) ?_
      refine lv_iconst (v := 3) hx hb d_K_allowsRange_24 (by decide) ?_
      refine lv_icmp_eq (tgt := 33) hx hb d_K_allowsRange_25 (by decide) (fun hc_3 => ?_) (fun hc_3 => ?_)
      · have hF := it_t hF hc_3
        refine lv_iconst (v := 1) hx hb d_K_allowsRange_33 (by decide) ?_
        refine lv_goto (tgt := 38) hx hb d_K_allowsRange_34 (by decide) ?_
        cases hF
        exact krz K hP hD hS d_K_allowsRange_38 rfl rfl
      · have hF := it_f hF hc_3
        refine lv_iload_n hx hb d_K_allowsRange_28 rfl (lv_at hl 0 rfl) ?_
        refine lv_iconst (v := 5) hx hb d_K_allowsRange_29 (by decide) ?_
        refine lv_icmp_ne (tgt := 37) hx hb d_K_allowsRange_30 (by decide) (fun hc_4 => ?_) (fun hc_4 => ?_)
        · have hF := it_f hF hc_4
          refine lv_iconst (v := 0) hx hb d_K_allowsRange_37 (by decide) ?_
          cases hF
          exact krz K hP hD hS d_K_allowsRange_38 rfl rfl
        · have hF := it_t hF hc_4
          refine lv_iconst (v := 1) hx hb d_K_allowsRange_33 (by decide) ?_
          refine lv_goto (tgt := 38) hx hb d_K_allowsRange_34 (by decide) ?_
          cases hF
          exact krz K hP hD hS d_K_allowsRange_38 rfl rfl
  · have hF := it_t hF hc_1
    refine lv_iload_n hx hb d_K_allowsRange_5 rfl (lv_at hl 0 rfl) ?_
    refine lv_iconst (v := (-1)) hx hb d_K_allowsRange_6 (by decide) ?_
    refine lv_icmp_eq (tgt := 14) hx hb d_K_allowsRange_7 (by decide) (fun hc_5 => ?_) (fun hc_5 => ?_)
    · have hF := it_t hF hc_5
      refine lv_iconst (v := 0) hx hb d_K_allowsRange_14 (by decide) ?_
      refine lv_goto (tgt := 38) hx hb d_K_allowsRange_15 (by decide) ?_
      cases hF
      exact krz K hP hD hS d_K_allowsRange_38 rfl rfl
    · have hF := it_f hF hc_5
      refine lv_iconst (v := 1) hx hb d_K_allowsRange_10 (by decide) ?_
      refine lv_goto (tgt := 38) hx hb d_K_allowsRange_11 (by decide) ?_
      cases hF
      exact krz K hP hD hS d_K_allowsRange_38 rfl rfl
theorem c_K_allowsRange (l : Launch) (g : va_G) (tys : List (ClassId × FieldType)) (w : va_W) (a1 : Int32) (a2 : Int32) (r : Int32) (hF : F_K_allowsRange a1 a2 = some r) : Ci l y_K_allowsRange prog_3_method_6_code 2 (some .boolean) ({ frames := 0, cells := 0, slots := 0, locals := 0 }) [.int a1, .int a2] g tys w w r :=
  Ci.of (by decide) (Nat.le_of_ble_eq_true rfl) (fun p e s m below meth c A ls K hP hD hS hl => t_K_allowsRange K  a1 a2 r hF hP hD hS hl)
def F_K_isReading (a1 : Int32) : Option (Int32) :=
  if a1 = 0 then some 1 else if a1 = 2 then some 1 else if a1 = 4 then some 1 else some 0
set_option maxHeartbeats 4000000 in
set_option maxRecDepth 100000 in
theorem t_K_isReading {p : Program} {l : Launch} {e : Env} {s : State} {m : MethodId} {args : Array Value} {below : List Frame} {meth : Method} {c : Code} {A : Nat → Prop} {g : va_G} {tys : List (ClassId × FieldType)} {w : va_W} (K : kX p s m args meth c "LockTable$Modes" prog_3_method_7_code 1 (some .boolean) A g tys)  (a1 : Int32) (r : Int32) (hF : F_K_isReading a1 = some r) {H : Heap} {locs : List Loc} {ls : Array Slot} (hP : va_P g kcl w H) (hD : va_D A w) (hS : va_S A s.heap H locs) (hl : lv_has ls 1 [(0, .int a1)]) : W p l e ({ frames := 0, cells := 0, slots := 0, locals := 0 }) s m args below meth c H locs 0 0 (MQ below (kQi g tys w A r) args s 0 0 A) (F0 m 0 ls []) := by
  obtain ⟨hx, hb, hr, hml, hown, hts, hlocks, hK, hA, hE⟩ := id K
  unfold F_K_isReading at hF
  refine lv_iload_n hx hb d_K_isReading_0 rfl (lv_at hl 0 rfl) ?_
  refine lv_if_eq (tgt := 14) hx hb d_K_isReading_1 (by decide) (fun hc_1 => ?_) (fun hc_1 => ?_)
  · have hF := it_t hF hc_1
    refine lv_iconst (v := 1) hx hb d_K_isReading_14 (by decide) ?_
    refine lv_goto (tgt := 19) hx hb d_K_isReading_15 (by decide) ?_
    cases hF
    exact krz K hP hD hS d_K_isReading_19 rfl rfl
  · have hF := it_f hF hc_1
    refine lv_iload_n hx hb d_K_isReading_4 rfl (lv_at hl 0 rfl) ?_
    refine lv_iconst (v := 2) hx hb d_K_isReading_5 (by decide) ?_
    refine lv_icmp_eq (tgt := 14) hx hb d_K_isReading_6 (by decide) (fun hc_2 => ?_) (fun hc_2 => ?_)
    · have hF := it_t hF hc_2
      refine lv_iconst (v := 1) hx hb d_K_isReading_14 (by decide) ?_
      refine lv_goto (tgt := 19) hx hb d_K_isReading_15 (by decide) ?_
      cases hF
      exact krz K hP hD hS d_K_isReading_19 rfl rfl
    · have hF := it_f hF hc_2
      refine lv_iload_n hx hb d_K_isReading_9 rfl (lv_at hl 0 rfl) ?_
      refine lv_iconst (v := 4) hx hb d_K_isReading_10 (by decide) ?_
      refine lv_icmp_ne (tgt := 18) hx hb d_K_isReading_11 (by decide) (fun hc_3 => ?_) (fun hc_3 => ?_)
      · have hF := it_f hF hc_3
        refine lv_iconst (v := 0) hx hb d_K_isReading_18 (by decide) ?_
        cases hF
        exact krz K hP hD hS d_K_isReading_19 rfl rfl
      · have hF := it_t hF hc_3
        refine lv_iconst (v := 1) hx hb d_K_isReading_14 (by decide) ?_
        refine lv_goto (tgt := 19) hx hb d_K_isReading_15 (by decide) ?_
        cases hF
        exact krz K hP hD hS d_K_isReading_19 rfl rfl
theorem c_K_isReading (l : Launch) (g : va_G) (tys : List (ClassId × FieldType)) (w : va_W) (a1 : Int32) (r : Int32) (hF : F_K_isReading a1 = some r) : Ci l y_K_isReading prog_3_method_7_code 1 (some .boolean) ({ frames := 0, cells := 0, slots := 0, locals := 0 }) [.int a1] g tys w w r :=
  Ci.of (by decide) (Nat.le_of_ble_eq_true rfl) (fun p e s m below meth c A ls K hP hD hS hl => t_K_isReading K  a1 r hF hP hD hS hl)
end
section
theorem wm_78 : Cond.fieldLink "LockTable$Locks" 9 "LockTable$Locks" "tableModes" "[I" ∈ w_all := w_mem 78 (by decide +kernel) (by decide +kernel)
theorem wm_79 : Cond.fieldLink "LockTable$Locks" 21 "LockTable$Locks" "owners" "[I" ∈ w_all := w_mem 79 (by decide +kernel) (by decide +kernel)
theorem wm_80 : Cond.fieldLink "LockTable$Locks" 24 "LockTable$Locks" "tables" "[I" ∈ w_all := w_mem 80 (by decide +kernel) (by decide +kernel)
theorem wm_410 : Cond.code ⟨"LockTable$Locks", "isOn", "(III)Z"⟩ prog_2_method_17_code 4 (some .boolean) ∈ w_all := w_mem 410 (by decide +kernel) (by decide +kernel)
theorem wm_407 : Cond.methodLink "LockTable$Locks" 58 ⟨"LockTable$Locks", "isOn", "(III)Z"⟩ ∈ w_all := w_mem 407 (by decide +kernel) (by decide +kernel)
theorem wm_409 : Cond.instanceMethod ⟨"LockTable$Locks", "isOn", "(III)Z"⟩ ∈ w_all := w_mem 409 (by decide +kernel) (by decide +kernel)
theorem wm_9 : Cond.selects "LockTable$Locks" ⟨"LockTable$Locks", "isOn", "(III)Z"⟩ ⟨"LockTable$Locks", "isOn", "(III)Z"⟩ ∈ w_all := w_mem 9 (by decide +kernel) (by decide +kernel)
theorem wm_48 : Cond.initialized "LockTable$Locks" ∈ w_all := w_mem 48 (by decide +kernel) (by decide +kernel)
theorem wm_81 : Cond.fieldLink "LockTable$Locks" 27 "LockTable$Locks" "lows" "[J" ∈ w_all := w_mem 81 (by decide +kernel) (by decide +kernel)
theorem wm_82 : Cond.fieldLink "LockTable$Locks" 31 "LockTable$Locks" "highs" "[J" ∈ w_all := w_mem 82 (by decide +kernel) (by decide +kernel)
theorem wm_84 : Cond.fieldLink "LockTable$Locks" 37 "LockTable$Locks" "count" "I" ∈ w_all := w_mem 84 (by decide +kernel) (by decide +kernel)
theorem wm_83 : Cond.fieldLink "LockTable$Locks" 34 "LockTable$Locks" "modes" "[I" ∈ w_all := w_mem 83 (by decide +kernel) (by decide +kernel)
theorem wm_329 : Cond.code ⟨"LockTable$Locks", "heldMode", "(II)I"⟩ prog_2_method_2_code 3 (some .int) ∈ w_all := w_mem 329 (by decide +kernel) (by decide +kernel)
theorem wm_377 : Cond.methodLink "LockTable$Locks" 41 ⟨"LockTable$Locks", "heldMode", "(II)I"⟩ ∈ w_all := w_mem 377 (by decide +kernel) (by decide +kernel)
theorem wm_327 : Cond.instanceMethod ⟨"LockTable$Locks", "heldMode", "(II)I"⟩ ∈ w_all := w_mem 327 (by decide +kernel) (by decide +kernel)
theorem wm_328 : Cond.selects "LockTable$Locks" ⟨"LockTable$Locks", "heldMode", "(II)I"⟩ ⟨"LockTable$Locks", "heldMode", "(II)I"⟩ ∈ w_all := w_mem 328 (by decide +kernel) (by decide +kernel)
theorem wm_476 : Cond.code ⟨"LockTable$Modes", "tableCovers", "(II)Z"⟩ prog_3_method_4_code 2 (some .boolean) ∈ w_all := w_mem 476 (by decide +kernel) (by decide +kernel)
theorem wm_474 : Cond.methodLink "LockTable$Locks" 45 ⟨"LockTable$Modes", "tableCovers", "(II)Z"⟩ ∈ w_all := w_mem 474 (by decide +kernel) (by decide +kernel)
theorem wm_475 : Cond.static ⟨"LockTable$Modes", "tableCovers", "(II)Z"⟩ ∈ w_all := w_mem 475 (by decide +kernel) (by decide +kernel)
theorem wm_56 : Cond.initialized "LockTable$Modes" ∈ w_all := w_mem 56 (by decide +kernel) (by decide +kernel)
theorem wm_482 : Cond.code ⟨"LockTable$Locks", "isRound", "(IIIJJ)Z"⟩ prog_2_method_18_code 8 (some .boolean) ∈ w_all := w_mem 482 (by decide +kernel) (by decide +kernel)
theorem wm_479 : Cond.methodLink "LockTable$Locks" 51 ⟨"LockTable$Locks", "isRound", "(IIIJJ)Z"⟩ ∈ w_all := w_mem 479 (by decide +kernel) (by decide +kernel)
theorem wm_481 : Cond.instanceMethod ⟨"LockTable$Locks", "isRound", "(IIIJJ)Z"⟩ ∈ w_all := w_mem 481 (by decide +kernel) (by decide +kernel)
theorem wm_16 : Cond.selects "LockTable$Locks" ⟨"LockTable$Locks", "isRound", "(IIIJJ)Z"⟩ ⟨"LockTable$Locks", "isRound", "(IIIJJ)Z"⟩ ∈ w_all := w_mem 16 (by decide +kernel) (by decide +kernel)
theorem wm_485 : Cond.code ⟨"LockTable$Modes", "rangeCovers", "(II)Z"⟩ prog_3_method_5_code 2 (some .boolean) ∈ w_all := w_mem 485 (by decide +kernel) (by decide +kernel)
theorem wm_483 : Cond.methodLink "LockTable$Locks" 55 ⟨"LockTable$Modes", "rangeCovers", "(II)Z"⟩ ∈ w_all := w_mem 483 (by decide +kernel) (by decide +kernel)
theorem wm_484 : Cond.static ⟨"LockTable$Modes", "rangeCovers", "(II)Z"⟩ ∈ w_all := w_mem 484 (by decide +kernel) (by decide +kernel)
abbrev y_L_heldMode : MethodName := ⟨"LockTable$Locks", "heldMode", "(II)I"⟩
theorem hd_L_heldMode : y_L_heldMode.cls ≠ "java/lang/invoke/MethodHandle" ∧ y_L_heldMode.cls ≠ "java/lang/invoke/VarHandle" ∧ (parseMethodDescriptor y_L_heldMode.desc).map (fun d => d.parameters.length) = some 2 := ⟨by decide, by decide, by decide +kernel⟩
abbrev y_L_setTable : MethodName := ⟨"LockTable$Locks", "setTable", "(III)V"⟩
theorem hd_L_setTable : y_L_setTable.cls ≠ "java/lang/invoke/MethodHandle" ∧ y_L_setTable.cls ≠ "java/lang/invoke/VarHandle" ∧ (parseMethodDescriptor y_L_setTable.desc).map (fun d => d.parameters.length) = some 3 := ⟨by decide, by decide, by decide +kernel⟩
abbrev y_L_isOn : MethodName := ⟨"LockTable$Locks", "isOn", "(III)Z"⟩
theorem hd_L_isOn : y_L_isOn.cls ≠ "java/lang/invoke/MethodHandle" ∧ y_L_isOn.cls ≠ "java/lang/invoke/VarHandle" ∧ (parseMethodDescriptor y_L_isOn.desc).map (fun d => d.parameters.length) = some 3 := ⟨by decide, by decide, by decide +kernel⟩
abbrev y_L_isRound : MethodName := ⟨"LockTable$Locks", "isRound", "(IIIJJ)Z"⟩
theorem hd_L_isRound : y_L_isRound.cls ≠ "java/lang/invoke/MethodHandle" ∧ y_L_isRound.cls ≠ "java/lang/invoke/VarHandle" ∧ (parseMethodDescriptor y_L_isRound.desc).map (fun d => d.parameters.length) = some 5 := ⟨by decide, by decide, by decide +kernel⟩
abbrev y_L_dropRow : MethodName := ⟨"LockTable$Locks", "dropRow", "(I)V"⟩
theorem hd_L_dropRow : y_L_dropRow.cls ≠ "java/lang/invoke/MethodHandle" ∧ y_L_dropRow.cls ≠ "java/lang/invoke/VarHandle" ∧ (parseMethodDescriptor y_L_dropRow.desc).map (fun d => d.parameters.length) = some 1 := ⟨by decide, by decide, by decide +kernel⟩
abbrev y_L_addRange : MethodName := ⟨"LockTable$Locks", "addRange", "(IIJJI)V"⟩
theorem hd_L_addRange : y_L_addRange.cls ≠ "java/lang/invoke/MethodHandle" ∧ y_L_addRange.cls ≠ "java/lang/invoke/VarHandle" ∧ (parseMethodDescriptor y_L_addRange.desc).map (fun d => d.parameters.length) = some 5 := ⟨by decide, by decide, by decide +kernel⟩
abbrev y_L_countRanges : MethodName := ⟨"LockTable$Locks", "countRanges", "(II)I"⟩
theorem hd_L_countRanges : y_L_countRanges.cls ≠ "java/lang/invoke/MethodHandle" ∧ y_L_countRanges.cls ≠ "java/lang/invoke/VarHandle" ∧ (parseMethodDescriptor y_L_countRanges.desc).map (fun d => d.parameters.length) = some 2 := ⟨by decide, by decide, by decide +kernel⟩
abbrev y_L_coverRange : MethodName := ⟨"LockTable$Locks", "coverRange", "(IIJJI)Z"⟩
theorem hd_L_coverRange : y_L_coverRange.cls ≠ "java/lang/invoke/MethodHandle" ∧ y_L_coverRange.cls ≠ "java/lang/invoke/VarHandle" ∧ (parseMethodDescriptor y_L_coverRange.desc).map (fun d => d.parameters.length) = some 5 := ⟨by decide, by decide, by decide +kernel⟩
theorem d_L_heldMode_0 : decode prog_2_method_2_code 0 = .ok (.aload_n 0, 1) := by decide +kernel
theorem d_L_heldMode_1 : decode prog_2_method_2_code 1 = .ok (.getfield 9, 3) := by decide +kernel
theorem d_L_heldMode_4 : decode prog_2_method_2_code 4 = .ok (.iload_n 1, 1) := by decide +kernel
theorem d_L_heldMode_5 : decode prog_2_method_2_code 5 = .ok (.bipush 16, 2) := by decide +kernel
theorem d_L_heldMode_7 : decode prog_2_method_2_code 7 = .ok (.imul, 1) := by decide +kernel
theorem d_L_heldMode_8 : decode prog_2_method_2_code 8 = .ok (.iload_n 2, 1) := by decide +kernel
theorem d_L_heldMode_9 : decode prog_2_method_2_code 9 = .ok (.iadd, 1) := by decide +kernel
theorem d_L_heldMode_10 : decode prog_2_method_2_code 10 = .ok (.iaload, 1) := by decide +kernel
theorem d_L_heldMode_11 : decode prog_2_method_2_code 11 = .ok (.ireturn, 1) := by decide +kernel
theorem d_L_setTable_0 : decode prog_2_method_3_code 0 = .ok (.aload_n 0, 1) := by decide +kernel
theorem d_L_setTable_1 : decode prog_2_method_3_code 1 = .ok (.getfield 9, 3) := by decide +kernel
theorem d_L_setTable_4 : decode prog_2_method_3_code 4 = .ok (.iload_n 1, 1) := by decide +kernel
theorem d_L_setTable_5 : decode prog_2_method_3_code 5 = .ok (.bipush 16, 2) := by decide +kernel
theorem d_L_setTable_7 : decode prog_2_method_3_code 7 = .ok (.imul, 1) := by decide +kernel
theorem d_L_setTable_8 : decode prog_2_method_3_code 8 = .ok (.iload_n 2, 1) := by decide +kernel
theorem d_L_setTable_9 : decode prog_2_method_3_code 9 = .ok (.iadd, 1) := by decide +kernel
theorem d_L_setTable_10 : decode prog_2_method_3_code 10 = .ok (.iload_n 3, 1) := by decide +kernel
theorem d_L_setTable_11 : decode prog_2_method_3_code 11 = .ok (.iastore, 1) := by decide +kernel
theorem d_L_setTable_12 : decode prog_2_method_3_code 12 = .ok (.return_, 1) := by decide +kernel
theorem d_L_isOn_0 : decode prog_2_method_17_code 0 = .ok (.aload_n 0, 1) := by decide +kernel
theorem d_L_isOn_1 : decode prog_2_method_17_code 1 = .ok (.getfield 21, 3) := by decide +kernel
theorem d_L_isOn_4 : decode prog_2_method_17_code 4 = .ok (.iload_n 1, 1) := by decide +kernel
theorem d_L_isOn_5 : decode prog_2_method_17_code 5 = .ok (.iaload, 1) := by decide +kernel
theorem d_L_isOn_6 : decode prog_2_method_17_code 6 = .ok (.iload_n 2, 1) := by decide +kernel
theorem d_L_isOn_7 : decode prog_2_method_17_code 7 = .ok (.if_icmp .ne 17, 3) := by decide +kernel
theorem d_L_isOn_10 : decode prog_2_method_17_code 10 = .ok (.aload_n 0, 1) := by decide +kernel
theorem d_L_isOn_11 : decode prog_2_method_17_code 11 = .ok (.getfield 24, 3) := by decide +kernel
theorem d_L_isOn_14 : decode prog_2_method_17_code 14 = .ok (.iload_n 1, 1) := by decide +kernel
theorem d_L_isOn_15 : decode prog_2_method_17_code 15 = .ok (.iaload, 1) := by decide +kernel
theorem d_L_isOn_16 : decode prog_2_method_17_code 16 = .ok (.iload_n 3, 1) := by decide +kernel
theorem d_L_isOn_17 : decode prog_2_method_17_code 17 = .ok (.if_icmp .ne 7, 3) := by decide +kernel
theorem d_L_isOn_20 : decode prog_2_method_17_code 20 = .ok (.iconst 1, 1) := by decide +kernel
theorem d_L_isOn_21 : decode prog_2_method_17_code 21 = .ok (.goto 4, 3) := by decide +kernel
theorem d_L_isOn_24 : decode prog_2_method_17_code 24 = .ok (.iconst 0, 1) := by decide +kernel
theorem d_L_isOn_25 : decode prog_2_method_17_code 25 = .ok (.ireturn, 1) := by decide +kernel
theorem d_L_isRound_0 : decode prog_2_method_18_code 0 = .ok (.aload_n 0, 1) := by decide +kernel
theorem d_L_isRound_1 : decode prog_2_method_18_code 1 = .ok (.iload_n 1, 1) := by decide +kernel
theorem d_L_isRound_2 : decode prog_2_method_18_code 2 = .ok (.iload_n 2, 1) := by decide +kernel
theorem d_L_isRound_3 : decode prog_2_method_18_code 3 = .ok (.iload_n 3, 1) := by decide +kernel
theorem d_L_isRound_4 : decode prog_2_method_18_code 4 = .ok (.invokevirtual 58, 3) := by decide +kernel
theorem d_L_isRound_7 : decode prog_2_method_18_code 7 = .ok (.ifCond .eq 31, 3) := by decide +kernel
theorem d_L_isRound_10 : decode prog_2_method_18_code 10 = .ok (.aload_n 0, 1) := by decide +kernel
theorem d_L_isRound_11 : decode prog_2_method_18_code 11 = .ok (.getfield 27, 3) := by decide +kernel
theorem d_L_isRound_14 : decode prog_2_method_18_code 14 = .ok (.iload_n 1, 1) := by decide +kernel
theorem d_L_isRound_15 : decode prog_2_method_18_code 15 = .ok (.laload, 1) := by decide +kernel
theorem d_L_isRound_16 : decode prog_2_method_18_code 16 = .ok (.lload 4, 2) := by decide +kernel
theorem d_L_isRound_18 : decode prog_2_method_18_code 18 = .ok (.lcmp, 1) := by decide +kernel
theorem d_L_isRound_19 : decode prog_2_method_18_code 19 = .ok (.ifCond .gt 19, 3) := by decide +kernel
theorem d_L_isRound_22 : decode prog_2_method_18_code 22 = .ok (.lload 6, 2) := by decide +kernel
theorem d_L_isRound_24 : decode prog_2_method_18_code 24 = .ok (.aload_n 0, 1) := by decide +kernel
theorem d_L_isRound_25 : decode prog_2_method_18_code 25 = .ok (.getfield 31, 3) := by decide +kernel
theorem d_L_isRound_28 : decode prog_2_method_18_code 28 = .ok (.iload_n 1, 1) := by decide +kernel
theorem d_L_isRound_29 : decode prog_2_method_18_code 29 = .ok (.laload, 1) := by decide +kernel
theorem d_L_isRound_30 : decode prog_2_method_18_code 30 = .ok (.lcmp, 1) := by decide +kernel
theorem d_L_isRound_31 : decode prog_2_method_18_code 31 = .ok (.ifCond .gt 7, 3) := by decide +kernel
theorem d_L_isRound_34 : decode prog_2_method_18_code 34 = .ok (.iconst 1, 1) := by decide +kernel
theorem d_L_isRound_35 : decode prog_2_method_18_code 35 = .ok (.goto 4, 3) := by decide +kernel
theorem d_L_isRound_38 : decode prog_2_method_18_code 38 = .ok (.iconst 0, 1) := by decide +kernel
theorem d_L_isRound_39 : decode prog_2_method_18_code 39 = .ok (.ireturn, 1) := by decide +kernel
theorem d_L_dropRow_0 : decode prog_2_method_19_code 0 = .ok (.aload_n 0, 1) := by decide +kernel
theorem d_L_dropRow_1 : decode prog_2_method_19_code 1 = .ok (.dup, 1) := by decide +kernel
theorem d_L_dropRow_2 : decode prog_2_method_19_code 2 = .ok (.getfield 37, 3) := by decide +kernel
theorem d_L_dropRow_5 : decode prog_2_method_19_code 5 = .ok (.iconst 1, 1) := by decide +kernel
theorem d_L_dropRow_6 : decode prog_2_method_19_code 6 = .ok (.isub, 1) := by decide +kernel
theorem d_L_dropRow_7 : decode prog_2_method_19_code 7 = .ok (.putfield 37, 3) := by decide +kernel
theorem d_L_dropRow_10 : decode prog_2_method_19_code 10 = .ok (.aload_n 0, 1) := by decide +kernel
theorem d_L_dropRow_11 : decode prog_2_method_19_code 11 = .ok (.getfield 21, 3) := by decide +kernel
theorem d_L_dropRow_14 : decode prog_2_method_19_code 14 = .ok (.iload_n 1, 1) := by decide +kernel
theorem d_L_dropRow_15 : decode prog_2_method_19_code 15 = .ok (.aload_n 0, 1) := by decide +kernel
theorem d_L_dropRow_16 : decode prog_2_method_19_code 16 = .ok (.getfield 21, 3) := by decide +kernel
theorem d_L_dropRow_19 : decode prog_2_method_19_code 19 = .ok (.aload_n 0, 1) := by decide +kernel
theorem d_L_dropRow_20 : decode prog_2_method_19_code 20 = .ok (.getfield 37, 3) := by decide +kernel
theorem d_L_dropRow_23 : decode prog_2_method_19_code 23 = .ok (.iaload, 1) := by decide +kernel
theorem d_L_dropRow_24 : decode prog_2_method_19_code 24 = .ok (.iastore, 1) := by decide +kernel
theorem d_L_dropRow_25 : decode prog_2_method_19_code 25 = .ok (.aload_n 0, 1) := by decide +kernel
theorem d_L_dropRow_26 : decode prog_2_method_19_code 26 = .ok (.getfield 24, 3) := by decide +kernel
theorem d_L_dropRow_29 : decode prog_2_method_19_code 29 = .ok (.iload_n 1, 1) := by decide +kernel
theorem d_L_dropRow_30 : decode prog_2_method_19_code 30 = .ok (.aload_n 0, 1) := by decide +kernel
theorem d_L_dropRow_31 : decode prog_2_method_19_code 31 = .ok (.getfield 24, 3) := by decide +kernel
theorem d_L_dropRow_34 : decode prog_2_method_19_code 34 = .ok (.aload_n 0, 1) := by decide +kernel
theorem d_L_dropRow_35 : decode prog_2_method_19_code 35 = .ok (.getfield 37, 3) := by decide +kernel
theorem d_L_dropRow_38 : decode prog_2_method_19_code 38 = .ok (.iaload, 1) := by decide +kernel
theorem d_L_dropRow_39 : decode prog_2_method_19_code 39 = .ok (.iastore, 1) := by decide +kernel
theorem d_L_dropRow_40 : decode prog_2_method_19_code 40 = .ok (.aload_n 0, 1) := by decide +kernel
theorem d_L_dropRow_41 : decode prog_2_method_19_code 41 = .ok (.getfield 27, 3) := by decide +kernel
theorem d_L_dropRow_44 : decode prog_2_method_19_code 44 = .ok (.iload_n 1, 1) := by decide +kernel
theorem d_L_dropRow_45 : decode prog_2_method_19_code 45 = .ok (.aload_n 0, 1) := by decide +kernel
theorem d_L_dropRow_46 : decode prog_2_method_19_code 46 = .ok (.getfield 27, 3) := by decide +kernel
theorem d_L_dropRow_49 : decode prog_2_method_19_code 49 = .ok (.aload_n 0, 1) := by decide +kernel
theorem d_L_dropRow_50 : decode prog_2_method_19_code 50 = .ok (.getfield 37, 3) := by decide +kernel
theorem d_L_dropRow_53 : decode prog_2_method_19_code 53 = .ok (.laload, 1) := by decide +kernel
theorem d_L_dropRow_54 : decode prog_2_method_19_code 54 = .ok (.lastore, 1) := by decide +kernel
theorem d_L_dropRow_55 : decode prog_2_method_19_code 55 = .ok (.aload_n 0, 1) := by decide +kernel
theorem d_L_dropRow_56 : decode prog_2_method_19_code 56 = .ok (.getfield 31, 3) := by decide +kernel
theorem d_L_dropRow_59 : decode prog_2_method_19_code 59 = .ok (.iload_n 1, 1) := by decide +kernel
theorem d_L_dropRow_60 : decode prog_2_method_19_code 60 = .ok (.aload_n 0, 1) := by decide +kernel
theorem d_L_dropRow_61 : decode prog_2_method_19_code 61 = .ok (.getfield 31, 3) := by decide +kernel
theorem d_L_dropRow_64 : decode prog_2_method_19_code 64 = .ok (.aload_n 0, 1) := by decide +kernel
theorem d_L_dropRow_65 : decode prog_2_method_19_code 65 = .ok (.getfield 37, 3) := by decide +kernel
theorem d_L_dropRow_68 : decode prog_2_method_19_code 68 = .ok (.laload, 1) := by decide +kernel
theorem d_L_dropRow_69 : decode prog_2_method_19_code 69 = .ok (.lastore, 1) := by decide +kernel
theorem d_L_dropRow_70 : decode prog_2_method_19_code 70 = .ok (.aload_n 0, 1) := by decide +kernel
theorem d_L_dropRow_71 : decode prog_2_method_19_code 71 = .ok (.getfield 34, 3) := by decide +kernel
theorem d_L_dropRow_74 : decode prog_2_method_19_code 74 = .ok (.iload_n 1, 1) := by decide +kernel
theorem d_L_dropRow_75 : decode prog_2_method_19_code 75 = .ok (.aload_n 0, 1) := by decide +kernel
theorem d_L_dropRow_76 : decode prog_2_method_19_code 76 = .ok (.getfield 34, 3) := by decide +kernel
theorem d_L_dropRow_79 : decode prog_2_method_19_code 79 = .ok (.aload_n 0, 1) := by decide +kernel
theorem d_L_dropRow_80 : decode prog_2_method_19_code 80 = .ok (.getfield 37, 3) := by decide +kernel
theorem d_L_dropRow_83 : decode prog_2_method_19_code 83 = .ok (.iaload, 1) := by decide +kernel
theorem d_L_dropRow_84 : decode prog_2_method_19_code 84 = .ok (.iastore, 1) := by decide +kernel
theorem d_L_dropRow_85 : decode prog_2_method_19_code 85 = .ok (.return_, 1) := by decide +kernel
theorem d_L_addRange_0 : decode prog_2_method_4_code 0 = .ok (.aload_n 0, 1) := by decide +kernel
theorem d_L_addRange_1 : decode prog_2_method_4_code 1 = .ok (.getfield 37, 3) := by decide +kernel
theorem d_L_addRange_4 : decode prog_2_method_4_code 4 = .ok (.sipush 256, 3) := by decide +kernel
theorem d_L_addRange_7 : decode prog_2_method_4_code 7 = .ok (.if_icmp .ge 65, 3) := by decide +kernel
theorem d_L_addRange_10 : decode prog_2_method_4_code 10 = .ok (.aload_n 0, 1) := by decide +kernel
theorem d_L_addRange_11 : decode prog_2_method_4_code 11 = .ok (.getfield 21, 3) := by decide +kernel
theorem d_L_addRange_14 : decode prog_2_method_4_code 14 = .ok (.aload_n 0, 1) := by decide +kernel
theorem d_L_addRange_15 : decode prog_2_method_4_code 15 = .ok (.getfield 37, 3) := by decide +kernel
theorem d_L_addRange_18 : decode prog_2_method_4_code 18 = .ok (.iload_n 1, 1) := by decide +kernel
theorem d_L_addRange_19 : decode prog_2_method_4_code 19 = .ok (.iastore, 1) := by decide +kernel
theorem d_L_addRange_20 : decode prog_2_method_4_code 20 = .ok (.aload_n 0, 1) := by decide +kernel
theorem d_L_addRange_21 : decode prog_2_method_4_code 21 = .ok (.getfield 24, 3) := by decide +kernel
theorem d_L_addRange_24 : decode prog_2_method_4_code 24 = .ok (.aload_n 0, 1) := by decide +kernel
theorem d_L_addRange_25 : decode prog_2_method_4_code 25 = .ok (.getfield 37, 3) := by decide +kernel
theorem d_L_addRange_28 : decode prog_2_method_4_code 28 = .ok (.iload_n 2, 1) := by decide +kernel
theorem d_L_addRange_29 : decode prog_2_method_4_code 29 = .ok (.iastore, 1) := by decide +kernel
theorem d_L_addRange_30 : decode prog_2_method_4_code 30 = .ok (.aload_n 0, 1) := by decide +kernel
theorem d_L_addRange_31 : decode prog_2_method_4_code 31 = .ok (.getfield 27, 3) := by decide +kernel
theorem d_L_addRange_34 : decode prog_2_method_4_code 34 = .ok (.aload_n 0, 1) := by decide +kernel
theorem d_L_addRange_35 : decode prog_2_method_4_code 35 = .ok (.getfield 37, 3) := by decide +kernel
theorem d_L_addRange_38 : decode prog_2_method_4_code 38 = .ok (.lload_n 3, 1) := by decide +kernel
theorem d_L_addRange_39 : decode prog_2_method_4_code 39 = .ok (.lastore, 1) := by decide +kernel
theorem d_L_addRange_40 : decode prog_2_method_4_code 40 = .ok (.aload_n 0, 1) := by decide +kernel
theorem d_L_addRange_41 : decode prog_2_method_4_code 41 = .ok (.getfield 31, 3) := by decide +kernel
theorem d_L_addRange_44 : decode prog_2_method_4_code 44 = .ok (.aload_n 0, 1) := by decide +kernel
theorem d_L_addRange_45 : decode prog_2_method_4_code 45 = .ok (.getfield 37, 3) := by decide +kernel
theorem d_L_addRange_48 : decode prog_2_method_4_code 48 = .ok (.lload 5, 2) := by decide +kernel
theorem d_L_addRange_50 : decode prog_2_method_4_code 50 = .ok (.lastore, 1) := by decide +kernel
theorem d_L_addRange_51 : decode prog_2_method_4_code 51 = .ok (.aload_n 0, 1) := by decide +kernel
theorem d_L_addRange_52 : decode prog_2_method_4_code 52 = .ok (.getfield 34, 3) := by decide +kernel
theorem d_L_addRange_55 : decode prog_2_method_4_code 55 = .ok (.aload_n 0, 1) := by decide +kernel
theorem d_L_addRange_56 : decode prog_2_method_4_code 56 = .ok (.getfield 37, 3) := by decide +kernel
theorem d_L_addRange_59 : decode prog_2_method_4_code 59 = .ok (.iload 7, 2) := by decide +kernel
theorem d_L_addRange_61 : decode prog_2_method_4_code 61 = .ok (.iastore, 1) := by decide +kernel
theorem d_L_addRange_62 : decode prog_2_method_4_code 62 = .ok (.aload_n 0, 1) := by decide +kernel
theorem d_L_addRange_63 : decode prog_2_method_4_code 63 = .ok (.dup, 1) := by decide +kernel
theorem d_L_addRange_64 : decode prog_2_method_4_code 64 = .ok (.getfield 37, 3) := by decide +kernel
theorem d_L_addRange_67 : decode prog_2_method_4_code 67 = .ok (.iconst 1, 1) := by decide +kernel
theorem d_L_addRange_68 : decode prog_2_method_4_code 68 = .ok (.iadd, 1) := by decide +kernel
theorem d_L_addRange_69 : decode prog_2_method_4_code 69 = .ok (.putfield 37, 3) := by decide +kernel
theorem d_L_addRange_72 : decode prog_2_method_4_code 72 = .ok (.return_, 1) := by decide +kernel
theorem d_L_countRanges_0 : decode prog_2_method_8_code 0 = .ok (.iconst 0, 1) := by decide +kernel
theorem d_L_countRanges_1 : decode prog_2_method_8_code 1 = .ok (.istore_n 3, 1) := by decide +kernel
theorem d_L_countRanges_2 : decode prog_2_method_8_code 2 = .ok (.iconst 0, 1) := by decide +kernel
theorem d_L_countRanges_3 : decode prog_2_method_8_code 3 = .ok (.istore 4, 2) := by decide +kernel
theorem d_L_countRanges_5 : decode prog_2_method_8_code 5 = .ok (.iload 4, 2) := by decide +kernel
theorem d_L_countRanges_7 : decode prog_2_method_8_code 7 = .ok (.aload_n 0, 1) := by decide +kernel
theorem d_L_countRanges_8 : decode prog_2_method_8_code 8 = .ok (.getfield 37, 3) := by decide +kernel
theorem d_L_countRanges_11 : decode prog_2_method_8_code 11 = .ok (.if_icmp .ge 23, 3) := by decide +kernel
theorem d_L_countRanges_14 : decode prog_2_method_8_code 14 = .ok (.aload_n 0, 1) := by decide +kernel
theorem d_L_countRanges_15 : decode prog_2_method_8_code 15 = .ok (.iload 4, 2) := by decide +kernel
theorem d_L_countRanges_17 : decode prog_2_method_8_code 17 = .ok (.iload_n 1, 1) := by decide +kernel
theorem d_L_countRanges_18 : decode prog_2_method_8_code 18 = .ok (.iload_n 2, 1) := by decide +kernel
theorem d_L_countRanges_19 : decode prog_2_method_8_code 19 = .ok (.invokevirtual 58, 3) := by decide +kernel
theorem d_L_countRanges_22 : decode prog_2_method_8_code 22 = .ok (.ifCond .eq 6, 3) := by decide +kernel
theorem d_L_countRanges_25 : decode prog_2_method_8_code 25 = .ok (.iinc 3 1, 3) := by decide +kernel
theorem d_L_countRanges_28 : decode prog_2_method_8_code 28 = .ok (.iinc 4 1, 3) := by decide +kernel
theorem d_L_countRanges_31 : decode prog_2_method_8_code 31 = .ok (.goto (-26), 3) := by decide +kernel
theorem d_L_countRanges_34 : decode prog_2_method_8_code 34 = .ok (.iload_n 3, 1) := by decide +kernel
theorem d_L_countRanges_35 : decode prog_2_method_8_code 35 = .ok (.ireturn, 1) := by decide +kernel
theorem d_L_coverRange_0 : decode prog_2_method_5_code 0 = .ok (.aload_n 0, 1) := by decide +kernel
theorem d_L_coverRange_1 : decode prog_2_method_5_code 1 = .ok (.iload_n 1, 1) := by decide +kernel
theorem d_L_coverRange_2 : decode prog_2_method_5_code 2 = .ok (.iload_n 2, 1) := by decide +kernel
theorem d_L_coverRange_3 : decode prog_2_method_5_code 3 = .ok (.invokevirtual 41, 3) := by decide +kernel
theorem d_L_coverRange_6 : decode prog_2_method_5_code 6 = .ok (.iload 7, 2) := by decide +kernel
theorem d_L_coverRange_8 : decode prog_2_method_5_code 8 = .ok (.invokestatic 45, 3) := by decide +kernel
theorem d_L_coverRange_11 : decode prog_2_method_5_code 11 = .ok (.ifCond .eq 5, 3) := by decide +kernel
theorem d_L_coverRange_14 : decode prog_2_method_5_code 14 = .ok (.iconst 1, 1) := by decide +kernel
theorem d_L_coverRange_15 : decode prog_2_method_5_code 15 = .ok (.ireturn, 1) := by decide +kernel
theorem d_L_coverRange_16 : decode prog_2_method_5_code 16 = .ok (.iconst 0, 1) := by decide +kernel
theorem d_L_coverRange_17 : decode prog_2_method_5_code 17 = .ok (.istore 8, 2) := by decide +kernel
theorem d_L_coverRange_19 : decode prog_2_method_5_code 19 = .ok (.iload 8, 2) := by decide +kernel
theorem d_L_coverRange_21 : decode prog_2_method_5_code 21 = .ok (.aload_n 0, 1) := by decide +kernel
theorem d_L_coverRange_22 : decode prog_2_method_5_code 22 = .ok (.getfield 37, 3) := by decide +kernel
theorem d_L_coverRange_25 : decode prog_2_method_5_code 25 = .ok (.if_icmp .ge 40, 3) := by decide +kernel
theorem d_L_coverRange_28 : decode prog_2_method_5_code 28 = .ok (.aload_n 0, 1) := by decide +kernel
theorem d_L_coverRange_29 : decode prog_2_method_5_code 29 = .ok (.iload 8, 2) := by decide +kernel
theorem d_L_coverRange_31 : decode prog_2_method_5_code 31 = .ok (.iload_n 1, 1) := by decide +kernel
theorem d_L_coverRange_32 : decode prog_2_method_5_code 32 = .ok (.iload_n 2, 1) := by decide +kernel
theorem d_L_coverRange_33 : decode prog_2_method_5_code 33 = .ok (.lload_n 3, 1) := by decide +kernel
theorem d_L_coverRange_34 : decode prog_2_method_5_code 34 = .ok (.lload 5, 2) := by decide +kernel
theorem d_L_coverRange_36 : decode prog_2_method_5_code 36 = .ok (.invokevirtual 51, 3) := by decide +kernel
theorem d_L_coverRange_39 : decode prog_2_method_5_code 39 = .ok (.ifCond .eq 20, 3) := by decide +kernel
theorem d_L_coverRange_42 : decode prog_2_method_5_code 42 = .ok (.aload_n 0, 1) := by decide +kernel
theorem d_L_coverRange_43 : decode prog_2_method_5_code 43 = .ok (.getfield 34, 3) := by decide +kernel
theorem d_L_coverRange_46 : decode prog_2_method_5_code 46 = .ok (.iload 8, 2) := by decide +kernel
theorem d_L_coverRange_48 : decode prog_2_method_5_code 48 = .ok (.iaload, 1) := by decide +kernel
theorem d_L_coverRange_49 : decode prog_2_method_5_code 49 = .ok (.iload 7, 2) := by decide +kernel
theorem d_L_coverRange_51 : decode prog_2_method_5_code 51 = .ok (.invokestatic 55, 3) := by decide +kernel
theorem d_L_coverRange_54 : decode prog_2_method_5_code 54 = .ok (.ifCond .eq 5, 3) := by decide +kernel
theorem d_L_coverRange_57 : decode prog_2_method_5_code 57 = .ok (.iconst 1, 1) := by decide +kernel
theorem d_L_coverRange_58 : decode prog_2_method_5_code 58 = .ok (.ireturn, 1) := by decide +kernel
theorem d_L_coverRange_59 : decode prog_2_method_5_code 59 = .ok (.iinc 8 1, 3) := by decide +kernel
theorem d_L_coverRange_62 : decode prog_2_method_5_code 62 = .ok (.goto (-43), 3) := by decide +kernel
theorem d_L_coverRange_65 : decode prog_2_method_5_code 65 = .ok (.iconst 0, 1) := by decide +kernel
theorem d_L_coverRange_66 : decode prog_2_method_5_code 66 = .ok (.ireturn, 1) := by decide +kernel
def F_L_heldMode (ltm : Nat → Int32) (a1 : Int32) (a2 : Int32) : Option (Int32) :=
  gd (((a1 * 16) + a2) < 0 ∨ 128 ≤ ((a1 * 16) + a2).toNatClampNeg) (some (ltm ((a1 * 16) + a2).toNatClampNeg))
set_option maxHeartbeats 4000000 in
set_option maxRecDepth 100000 in
theorem t_L_heldMode {p : Program} {l : Launch} {e : Env} {s : State} {m : MethodId} {args : Array Value} {below : List Frame} {meth : Method} {c : Code} {A : Nat → Prop} {g : va_G} {cI cJ cZ : ClassId} {ad : Nat → Nat} {rest : va_W} (K : kX p s m args meth c "LockTable$Locks" prog_2_method_2_code 3 (some .int) A g (kty cI cJ cZ)) (xst : Nat → Int32) (xse : Nat → Int32) (xre : Nat → Int32) (xgr : Nat → Int32) (ltm : Nat → Int32) (low : Nat → Int32) (lta : Nat → Int32) (llo : Nat → Int64) (lhi : Nat → Int64) (lmo : Nat → Int32) (rta : Nat → Int32) (ron : Nat → Int32) (rlo : Nat → Int64) (rhi : Nat → Int64) (rmo : Nat → Int32) (rin : Nat → Int32) (res : Nat → Int32) (rsi : Nat → Int32) (rli : Nat → Int32) (rar : Nat → Int32) (xgc : Int32) (xca : Int32) (xls : Int32) (xtl : Int32) (xno : Int32) (lco : Int32) (rwa : Int32) (rad : Int32) (a1 : Int32) (a2 : Int32) (r : Int32) (hF : F_L_heldMode ltm a1 a2 = some r) {H : Heap} {locs : List Loc} {ls : Array Slot} (hP : va_P g kcl (wC cI cJ cZ ad xst xse xre xgr ltm low lta llo lhi lmo rta ron rlo rhi rmo rin res rsi rli rar xgc xca xls xtl xno lco rwa rad rest) H) (hD : va_D A (wC cI cJ cZ ad xst xse xre xgr ltm low lta llo lhi lmo rta ron rlo rhi rmo rin res rsi rli rar xgc xca xls xtl xno lco rwa rad rest)) (hS : va_S A s.heap H locs) (hl : lv_has ls 3 [(0, .ref (ad 1)), (1, .int a1), (2, .int a2)]) : W p l e ({ frames := 0, cells := 0, slots := 0, locals := 0 }) s m args below meth c H locs 0 0 (MQ below (kQi g (kty cI cJ cZ) (wC cI cJ cZ ad xst xse xre xgr ltm low lta llo lhi lmo rta ron rlo rhi rmo rin res rsi rli rar xgc xca xls xtl xno lco rwa rad rest) A r) args s 0 0 A) (F0 m 0 ls []) := by
  obtain ⟨hx, hb, hr, hml, hown, hts, hlocks, hK, hA, hE⟩ := id K
  unfold F_L_heldMode at hF
  refine lv_aload_n hx hb d_L_heldMode_0 rfl (lv_at hl 0 rfl) ?_
  refine va_get (D := g) (ci := 0) (v := .ref (ad 7)) (C := kR0) (T := kT0) (N := 7) hx hb hts kw0 hown hK hP 1 rfl rfl 0 (by decide) (hts _ wm_78) (fun _ h9 => h9) rfl d_L_heldMode_1 ?_
  refine lv_iload_n hx hb d_L_heldMode_4 rfl (lv_at hl 1 rfl) ?_
  refine lv_bipush (v := 16) hx hb d_L_heldMode_5 (by decide) ?_
  refine lv_imul hx hb d_L_heldMode_7 ?_
  refine lv_iload_n hx hb d_L_heldMode_8 rfl (lv_at hl 2 rfl) ?_
  refine lv_iadd hx hb d_L_heldMode_9 ?_
  obtain ⟨hg_1, hF⟩ := gd_inv hF
  refine va_iald hx hb hK hP 7 0 rfl rfl hg_1 d_L_heldMode_10 ?_
  cases hF
  exact kri K hP hD hS d_L_heldMode_11 rfl
theorem c_L_heldMode (l : Launch) (g : va_G) (cI cJ cZ : ClassId) (ad : Nat → Nat) (xst : Nat → Int32) (xse : Nat → Int32) (xre : Nat → Int32) (xgr : Nat → Int32) (ltm : Nat → Int32) (low : Nat → Int32) (lta : Nat → Int32) (llo : Nat → Int64) (lhi : Nat → Int64) (lmo : Nat → Int32) (rta : Nat → Int32) (ron : Nat → Int32) (rlo : Nat → Int64) (rhi : Nat → Int64) (rmo : Nat → Int32) (rin : Nat → Int32) (res : Nat → Int32) (rsi : Nat → Int32) (rli : Nat → Int32) (rar : Nat → Int32) (xgc : Int32) (xca : Int32) (xls : Int32) (xtl : Int32) (xno : Int32) (lco : Int32) (rwa : Int32) (rad : Int32) (rest : va_W) (a1 : Int32) (a2 : Int32) (r : Int32) (hF : F_L_heldMode ltm a1 a2 = some r) : Ci l y_L_heldMode prog_2_method_2_code 3 (some .int) ({ frames := 0, cells := 0, slots := 0, locals := 0 }) [.ref (ad 1), .int a1, .int a2] g (kty cI cJ cZ) (wC cI cJ cZ ad xst xse xre xgr ltm low lta llo lhi lmo rta ron rlo rhi rmo rin res rsi rli rar xgc xca xls xtl xno lco rwa rad rest) (wC cI cJ cZ ad xst xse xre xgr ltm low lta llo lhi lmo rta ron rlo rhi rmo rin res rsi rli rar xgc xca xls xtl xno lco rwa rad rest) r :=
  Ci.of (by decide) (Nat.le_of_ble_eq_true rfl) (fun p e s m below meth c A ls K hP hD hS hl => t_L_heldMode K xst xse xre xgr ltm low lta llo lhi lmo rta ron rlo rhi rmo rin res rsi rli rar xgc xca xls xtl xno lco rwa rad a1 a2 r hF hP hD hS hl)
def F_L_setTable (ltm : Nat → Int32) (a1 : Int32) (a2 : Int32) (a3 : Int32) : Option ((Nat → Int32)) :=
  gd (((a1 * 16) + a2) < 0 ∨ 128 ≤ ((a1 * 16) + a2).toNatClampNeg) (some (upd ltm ((a1 * 16) + a2).toNatClampNeg a3))
set_option maxHeartbeats 4000000 in
set_option maxRecDepth 100000 in
theorem t_L_setTable {p : Program} {l : Launch} {e : Env} {s : State} {m : MethodId} {args : Array Value} {below : List Frame} {meth : Method} {c : Code} {A : Nat → Prop} {g : va_G} {cI cJ cZ : ClassId} {ad : Nat → Nat} {rest : va_W} (K : kX p s m args meth c "LockTable$Locks" prog_2_method_3_code 4 none A g (kty cI cJ cZ)) (xst : Nat → Int32) (xse : Nat → Int32) (xre : Nat → Int32) (xgr : Nat → Int32) (ltm : Nat → Int32) (low : Nat → Int32) (lta : Nat → Int32) (llo : Nat → Int64) (lhi : Nat → Int64) (lmo : Nat → Int32) (rta : Nat → Int32) (ron : Nat → Int32) (rlo : Nat → Int64) (rhi : Nat → Int64) (rmo : Nat → Int32) (rin : Nat → Int32) (res : Nat → Int32) (rsi : Nat → Int32) (rli : Nat → Int32) (rar : Nat → Int32) (xgc : Int32) (xca : Int32) (xls : Int32) (xtl : Int32) (xno : Int32) (lco : Int32) (rwa : Int32) (rad : Int32) (a1 : Int32) (a2 : Int32) (a3 : Int32) (o_ltm : Nat → Int32) (hF : F_L_setTable ltm a1 a2 a3 = some o_ltm) {H : Heap} {locs : List Loc} {ls : Array Slot} (hP : va_P g kcl (wC cI cJ cZ ad xst xse xre xgr ltm low lta llo lhi lmo rta ron rlo rhi rmo rin res rsi rli rar xgc xca xls xtl xno lco rwa rad rest) H) (hD : va_D A (wC cI cJ cZ ad xst xse xre xgr ltm low lta llo lhi lmo rta ron rlo rhi rmo rin res rsi rli rar xgc xca xls xtl xno lco rwa rad rest)) (hS : va_S A s.heap H locs) (hl : lv_has ls 4 [(0, .ref (ad 1)), (1, .int a1), (2, .int a2), (3, .int a3)]) : W p l e ({ frames := 0, cells := 0, slots := 0, locals := 0 }) s m args below meth c H locs 0 0 (MQ below (kQv g (kty cI cJ cZ) (wC cI cJ cZ ad xst xse xre xgr o_ltm low lta llo lhi lmo rta ron rlo rhi rmo rin res rsi rli rar xgc xca xls xtl xno lco rwa rad rest) A) args s 0 0 A) (F0 m 0 ls []) := by
  obtain ⟨hx, hb, hr, hml, hown, hts, hlocks, hK, hA, hE⟩ := id K
  unfold F_L_setTable at hF
  refine lv_aload_n hx hb d_L_setTable_0 rfl (lv_at hl 0 rfl) ?_
  refine va_get (D := g) (ci := 0) (v := .ref (ad 7)) (C := kR0) (T := kT0) (N := 7) hx hb hts kw0 hown hK hP 1 rfl rfl 0 (by decide) (hts _ wm_78) (fun _ h9 => h9) rfl d_L_setTable_1 ?_
  refine lv_iload_n hx hb d_L_setTable_4 rfl (lv_at hl 1 rfl) ?_
  refine lv_bipush (v := 16) hx hb d_L_setTable_5 (by decide) ?_
  refine lv_imul hx hb d_L_setTable_7 ?_
  refine lv_iload_n hx hb d_L_setTable_8 rfl (lv_at hl 2 rfl) ?_
  refine lv_iadd hx hb d_L_setTable_9 ?_
  refine lv_iload_n hx hb d_L_setTable_10 rfl (lv_at hl 3 rfl) ?_
  obtain ⟨hg_1, hF⟩ := gd_inv hF
  refine va_iast hx hb hK hP hD hS 7 0 rfl rfl hg_1 d_L_setTable_11 (fun H locs hP hD hS => ?_)
  have hP : va_P g kcl (wC cI cJ cZ ad xst xse xre xgr (upd ltm ((a1 * 16) + a2).toNatClampNeg a3) low lta llo lhi lmo rta ron rlo rhi rmo rin res rsi rli rar xgc xca xls xtl xno lco rwa rad rest) H := hP
  have hD : va_D A (wC cI cJ cZ ad xst xse xre xgr (upd ltm ((a1 * 16) + a2).toNatClampNeg a3) low lta llo lhi lmo rta ron rlo rhi rmo rin res rsi rli rar xgc xca xls xtl xno lco rwa rad rest) := hD
  cases hF
  exact krv K hP hD hS d_L_setTable_12
theorem c_L_setTable (l : Launch) (g : va_G) (cI cJ cZ : ClassId) (ad : Nat → Nat) (xst : Nat → Int32) (xse : Nat → Int32) (xre : Nat → Int32) (xgr : Nat → Int32) (ltm : Nat → Int32) (low : Nat → Int32) (lta : Nat → Int32) (llo : Nat → Int64) (lhi : Nat → Int64) (lmo : Nat → Int32) (rta : Nat → Int32) (ron : Nat → Int32) (rlo : Nat → Int64) (rhi : Nat → Int64) (rmo : Nat → Int32) (rin : Nat → Int32) (res : Nat → Int32) (rsi : Nat → Int32) (rli : Nat → Int32) (rar : Nat → Int32) (xgc : Int32) (xca : Int32) (xls : Int32) (xtl : Int32) (xno : Int32) (lco : Int32) (rwa : Int32) (rad : Int32) (rest : va_W) (a1 : Int32) (a2 : Int32) (a3 : Int32) (o_ltm : Nat → Int32) (hF : F_L_setTable ltm a1 a2 a3 = some o_ltm) : Cv l y_L_setTable prog_2_method_3_code 4 ({ frames := 0, cells := 0, slots := 0, locals := 0 }) [.ref (ad 1), .int a1, .int a2, .int a3] g (kty cI cJ cZ) (wC cI cJ cZ ad xst xse xre xgr ltm low lta llo lhi lmo rta ron rlo rhi rmo rin res rsi rli rar xgc xca xls xtl xno lco rwa rad rest) (wC cI cJ cZ ad xst xse xre xgr o_ltm low lta llo lhi lmo rta ron rlo rhi rmo rin res rsi rli rar xgc xca xls xtl xno lco rwa rad rest) :=
  Cv.of (by decide) (Nat.le_of_ble_eq_true rfl) (fun p e s m below meth c A ls K hP hD hS hl => t_L_setTable K xst xse xre xgr ltm low lta llo lhi lmo rta ron rlo rhi rmo rin res rsi rli rar xgc xca xls xtl xno lco rwa rad a1 a2 a3 o_ltm hF hP hD hS hl)
def F_L_isOn (low : Nat → Int32) (lta : Nat → Int32) (a1 : Int32) (a2 : Int32) (a3 : Int32) : Option (Int32) :=
  gd (a1 < 0 ∨ 256 ≤ a1.toNatClampNeg) (if (low a1.toNatClampNeg) = a2 then gd (a1 < 0 ∨ 256 ≤ a1.toNatClampNeg) (if (lta a1.toNatClampNeg) = a3 then some 1 else some 0) else some 0)
set_option maxHeartbeats 4000000 in
set_option maxRecDepth 100000 in
theorem t_L_isOn {p : Program} {l : Launch} {e : Env} {s : State} {m : MethodId} {args : Array Value} {below : List Frame} {meth : Method} {c : Code} {A : Nat → Prop} {g : va_G} {cI cJ cZ : ClassId} {ad : Nat → Nat} {rest : va_W} (K : kX p s m args meth c "LockTable$Locks" prog_2_method_17_code 4 (some .boolean) A g (kty cI cJ cZ)) (xst : Nat → Int32) (xse : Nat → Int32) (xre : Nat → Int32) (xgr : Nat → Int32) (ltm : Nat → Int32) (low : Nat → Int32) (lta : Nat → Int32) (llo : Nat → Int64) (lhi : Nat → Int64) (lmo : Nat → Int32) (rta : Nat → Int32) (ron : Nat → Int32) (rlo : Nat → Int64) (rhi : Nat → Int64) (rmo : Nat → Int32) (rin : Nat → Int32) (res : Nat → Int32) (rsi : Nat → Int32) (rli : Nat → Int32) (rar : Nat → Int32) (xgc : Int32) (xca : Int32) (xls : Int32) (xtl : Int32) (xno : Int32) (lco : Int32) (rwa : Int32) (rad : Int32) (a1 : Int32) (a2 : Int32) (a3 : Int32) (r : Int32) (hF : F_L_isOn low lta a1 a2 a3 = some r) {H : Heap} {locs : List Loc} {ls : Array Slot} (hP : va_P g kcl (wC cI cJ cZ ad xst xse xre xgr ltm low lta llo lhi lmo rta ron rlo rhi rmo rin res rsi rli rar xgc xca xls xtl xno lco rwa rad rest) H) (hD : va_D A (wC cI cJ cZ ad xst xse xre xgr ltm low lta llo lhi lmo rta ron rlo rhi rmo rin res rsi rli rar xgc xca xls xtl xno lco rwa rad rest)) (hS : va_S A s.heap H locs) (hl : lv_has ls 4 [(0, .ref (ad 1)), (1, .int a1), (2, .int a2), (3, .int a3)]) : W p l e ({ frames := 0, cells := 0, slots := 0, locals := 0 }) s m args below meth c H locs 0 0 (MQ below (kQi g (kty cI cJ cZ) (wC cI cJ cZ ad xst xse xre xgr ltm low lta llo lhi lmo rta ron rlo rhi rmo rin res rsi rli rar xgc xca xls xtl xno lco rwa rad rest) A r) args s 0 0 A) (F0 m 0 ls []) := by
  obtain ⟨hx, hb, hr, hml, hown, hts, hlocks, hK, hA, hE⟩ := id K
  unfold F_L_isOn at hF
  refine lv_aload_n hx hb d_L_isOn_0 rfl (lv_at hl 0 rfl) ?_
  refine va_get (D := g) (ci := 0) (v := .ref (ad 8)) (C := kR0) (T := kT0) (N := 7) hx hb hts kw0 hown hK hP 1 rfl rfl 1 (by decide) (hts _ wm_79) (fun _ h9 => h9) rfl d_L_isOn_1 ?_
  refine lv_iload_n hx hb d_L_isOn_4 rfl (lv_at hl 1 rfl) ?_
  obtain ⟨hg_1, hF⟩ := gd_inv hF
  refine va_iald hx hb hK hP 8 0 rfl rfl hg_1 d_L_isOn_5 ?_
  refine lv_iload_n hx hb d_L_isOn_6 rfl (lv_at hl 2 rfl) ?_
  refine lv_icmp_ne (tgt := 24) hx hb d_L_isOn_7 (by decide) (fun hc_2 => ?_) (fun hc_2 => ?_)
  · have hF := it_f hF hc_2
    refine lv_iconst (v := 0) hx hb d_L_isOn_24 (by decide) ?_
    cases hF
    exact krz K hP hD hS d_L_isOn_25 rfl rfl
  · have hF := it_t hF hc_2
    refine lv_aload_n hx hb d_L_isOn_10 rfl (lv_at hl 0 rfl) ?_
    refine va_get (D := g) (ci := 0) (v := .ref (ad 9)) (C := kR0) (T := kT0) (N := 7) hx hb hts kw0 hown hK hP 1 rfl rfl 2 (by decide) (hts _ wm_80) (fun _ h9 => h9) rfl d_L_isOn_11 ?_
    refine lv_iload_n hx hb d_L_isOn_14 rfl (lv_at hl 1 rfl) ?_
    obtain ⟨hg_3, hF⟩ := gd_inv hF
    refine va_iald hx hb hK hP 9 0 rfl rfl hg_3 d_L_isOn_15 ?_
    refine lv_iload_n hx hb d_L_isOn_16 rfl (lv_at hl 3 rfl) ?_
    refine lv_icmp_ne (tgt := 24) hx hb d_L_isOn_17 (by decide) (fun hc_4 => ?_) (fun hc_4 => ?_)
    · have hF := it_f hF hc_4
      refine lv_iconst (v := 0) hx hb d_L_isOn_24 (by decide) ?_
      cases hF
      exact krz K hP hD hS d_L_isOn_25 rfl rfl
    · have hF := it_t hF hc_4
      refine lv_iconst (v := 1) hx hb d_L_isOn_20 (by decide) ?_
      refine lv_goto (tgt := 25) hx hb d_L_isOn_21 (by decide) ?_
      cases hF
      exact krz K hP hD hS d_L_isOn_25 rfl rfl
theorem c_L_isOn (l : Launch) (g : va_G) (cI cJ cZ : ClassId) (ad : Nat → Nat) (xst : Nat → Int32) (xse : Nat → Int32) (xre : Nat → Int32) (xgr : Nat → Int32) (ltm : Nat → Int32) (low : Nat → Int32) (lta : Nat → Int32) (llo : Nat → Int64) (lhi : Nat → Int64) (lmo : Nat → Int32) (rta : Nat → Int32) (ron : Nat → Int32) (rlo : Nat → Int64) (rhi : Nat → Int64) (rmo : Nat → Int32) (rin : Nat → Int32) (res : Nat → Int32) (rsi : Nat → Int32) (rli : Nat → Int32) (rar : Nat → Int32) (xgc : Int32) (xca : Int32) (xls : Int32) (xtl : Int32) (xno : Int32) (lco : Int32) (rwa : Int32) (rad : Int32) (rest : va_W) (a1 : Int32) (a2 : Int32) (a3 : Int32) (r : Int32) (hF : F_L_isOn low lta a1 a2 a3 = some r) : Ci l y_L_isOn prog_2_method_17_code 4 (some .boolean) ({ frames := 0, cells := 0, slots := 0, locals := 0 }) [.ref (ad 1), .int a1, .int a2, .int a3] g (kty cI cJ cZ) (wC cI cJ cZ ad xst xse xre xgr ltm low lta llo lhi lmo rta ron rlo rhi rmo rin res rsi rli rar xgc xca xls xtl xno lco rwa rad rest) (wC cI cJ cZ ad xst xse xre xgr ltm low lta llo lhi lmo rta ron rlo rhi rmo rin res rsi rli rar xgc xca xls xtl xno lco rwa rad rest) r :=
  Ci.of (by decide) (Nat.le_of_ble_eq_true rfl) (fun p e s m below meth c A ls K hP hD hS hl => t_L_isOn K xst xse xre xgr ltm low lta llo lhi lmo rta ron rlo rhi rmo rin res rsi rli rar xgc xca xls xtl xno lco rwa rad a1 a2 a3 r hF hP hD hS hl)
def F_L_isRound (low : Nat → Int32) (lta : Nat → Int32) (llo : Nat → Int64) (lhi : Nat → Int64) (a1 : Int32) (a2 : Int32) (a3 : Int32) (a4 : Int64) (a5 : Int64) : Option (Int32) :=
  ob1 (F_L_isOn low lta a1 a2 a3) (fun r_1 => if r_1 = 0 then some 0 else gd (a1 < 0 ∨ 256 ≤ a1.toNatClampNeg) (if 0 < (lg_cmp (llo a1.toNatClampNeg) a4) then some 0 else gd (a1 < 0 ∨ 256 ≤ a1.toNatClampNeg) (if 0 < (lg_cmp a5 (lhi a1.toNatClampNeg)) then some 0 else some 1)))
set_option maxHeartbeats 4000000 in
set_option maxRecDepth 100000 in
theorem t_L_isRound {p : Program} {l : Launch} {e : Env} {s : State} {m : MethodId} {args : Array Value} {below : List Frame} {meth : Method} {c : Code} {A : Nat → Prop} {g : va_G} {cI cJ cZ : ClassId} {ad : Nat → Nat} {rest : va_W} (K : kX p s m args meth c "LockTable$Locks" prog_2_method_18_code 8 (some .boolean) A g (kty cI cJ cZ)) (xst : Nat → Int32) (xse : Nat → Int32) (xre : Nat → Int32) (xgr : Nat → Int32) (ltm : Nat → Int32) (low : Nat → Int32) (lta : Nat → Int32) (llo : Nat → Int64) (lhi : Nat → Int64) (lmo : Nat → Int32) (rta : Nat → Int32) (ron : Nat → Int32) (rlo : Nat → Int64) (rhi : Nat → Int64) (rmo : Nat → Int32) (rin : Nat → Int32) (res : Nat → Int32) (rsi : Nat → Int32) (rli : Nat → Int32) (rar : Nat → Int32) (xgc : Int32) (xca : Int32) (xls : Int32) (xtl : Int32) (xno : Int32) (lco : Int32) (rwa : Int32) (rad : Int32) (a1 : Int32) (a2 : Int32) (a3 : Int32) (a4 : Int64) (a5 : Int64) (r : Int32) (hF : F_L_isRound low lta llo lhi a1 a2 a3 a4 a5 = some r) {H : Heap} {locs : List Loc} {ls : Array Slot} (hP : va_P g kcl (wC cI cJ cZ ad xst xse xre xgr ltm low lta llo lhi lmo rta ron rlo rhi rmo rin res rsi rli rar xgc xca xls xtl xno lco rwa rad rest) H) (hD : va_D A (wC cI cJ cZ ad xst xse xre xgr ltm low lta llo lhi lmo rta ron rlo rhi rmo rin res rsi rli rar xgc xca xls xtl xno lco rwa rad rest)) (hS : va_S A s.heap H locs) (hl : lv_has ls 8 [(0, .ref (ad 1)), (1, .int a1), (2, .int a2), (3, .int a3), (4, .long a4), (6, .long a5)]) : W p l e ({ frames := 1, cells := 0, slots := 0, locals := 23 }) s m args below meth c H locs 0 0 (MQ below (kQi g (kty cI cJ cZ) (wC cI cJ cZ ad xst xse xre xgr ltm low lta llo lhi lmo rta ron rlo rhi rmo rin res rsi rli rar xgc xca xls xtl xno lco rwa rad rest) A r) args s 0 0 A) (F0 m 0 ls []) := by
  obtain ⟨hx, hb, hr, hml, hown, hts, hlocks, hK, hA, hE⟩ := id K
  unfold F_L_isRound at hF
  refine lv_aload_n hx hb d_L_isRound_0 rfl (lv_at hl 0 rfl) ?_
  refine lv_iload_n hx hb d_L_isRound_1 rfl (lv_at hl 1 rfl) ?_
  refine lv_iload_n hx hb d_L_isRound_2 rfl (lv_at hl 2 rfl) ?_
  refine lv_iload_n hx hb d_L_isRound_3 rfl (lv_at hl 3 rfl) ?_
  obtain ⟨r_1, hG, hF⟩ := ob1_inv hF
  refine kci K hP hD hS (c_L_isOn l g cI cJ cZ ad xst xse xre xgr ltm low lta llo lhi lmo rta ron rlo rhi rmo rin res rsi rli rar xgc xca xls xtl xno lco rwa rad rest a1 a2 a3 r_1 hG) wm_410 wm_407 wm_409 wm_9 wm_48 hd_L_isOn rfl rfl ⟨Nat.le_of_ble_eq_true rfl, Nat.le_of_ble_eq_true rfl⟩ ⟨Nat.zero_le _, Nat.zero_le _⟩ 0 1 rfl rfl rfl hl.1 (rest := []) rfl (Nat.le_of_ble_eq_true rfl) d_L_isRound_4 (fun H locs hP hD hS => ?_)
  refine lv_if_eq (tgt := 38) hx hb d_L_isRound_7 (by decide) (fun hc_2 => ?_) (fun hc_2 => ?_)
  · have hF := it_t hF hc_2
    refine lv_iconst (v := 0) hx hb d_L_isRound_38 (by decide) ?_
    cases hF
    exact krz K hP hD hS d_L_isRound_39 rfl rfl
  · have hF := it_f hF hc_2
    refine lv_aload_n hx hb d_L_isRound_10 rfl (lv_at hl 0 rfl) ?_
    refine va_get (D := g) (ci := 0) (v := .ref (ad 10)) (C := kR0) (T := kT0) (N := 7) hx hb hts kw0 hown hK hP 1 rfl rfl 3 (by decide) (hts _ wm_81) (fun _ h9 => h9) rfl d_L_isRound_11 ?_
    refine lv_iload_n hx hb d_L_isRound_14 rfl (lv_at hl 1 rfl) ?_
    obtain ⟨hg_3, hF⟩ := gd_inv hF
    refine va_lald hx hb hK hP 10 1 rfl rfl hg_3 d_L_isRound_15 ?_
    refine lv_lload hx hb d_L_isRound_16 (lv_at hl 4 rfl) ?_
    refine W.lcmp hx hb d_L_isRound_18 ?_
    refine lv_if_gt (tgt := 38) hx hb d_L_isRound_19 (by decide) (fun hc_4 => ?_) (fun hc_4 => ?_)
    · have hF := it_t hF hc_4
      refine lv_iconst (v := 0) hx hb d_L_isRound_38 (by decide) ?_
      cases hF
      exact krz K hP hD hS d_L_isRound_39 rfl rfl
    · have hF := it_f hF hc_4
      refine lv_lload hx hb d_L_isRound_22 (lv_at hl 5 rfl) ?_
      refine lv_aload_n hx hb d_L_isRound_24 rfl (lv_at hl 0 rfl) ?_
      refine va_get (D := g) (ci := 0) (v := .ref (ad 11)) (C := kR0) (T := kT0) (N := 7) hx hb hts kw0 hown hK hP 1 rfl rfl 4 (by decide) (hts _ wm_82) (fun _ h9 => h9) rfl d_L_isRound_25 ?_
      refine lv_iload_n hx hb d_L_isRound_28 rfl (lv_at hl 1 rfl) ?_
      obtain ⟨hg_5, hF⟩ := gd_inv hF
      refine va_lald hx hb hK hP 11 1 rfl rfl hg_5 d_L_isRound_29 ?_
      refine W.lcmp hx hb d_L_isRound_30 ?_
      refine lv_if_gt (tgt := 38) hx hb d_L_isRound_31 (by decide) (fun hc_6 => ?_) (fun hc_6 => ?_)
      · have hF := it_t hF hc_6
        refine lv_iconst (v := 0) hx hb d_L_isRound_38 (by decide) ?_
        cases hF
        exact krz K hP hD hS d_L_isRound_39 rfl rfl
      · have hF := it_f hF hc_6
        refine lv_iconst (v := 1) hx hb d_L_isRound_34 (by decide) ?_
        refine lv_goto (tgt := 39) hx hb d_L_isRound_35 (by decide) ?_
        cases hF
        exact krz K hP hD hS d_L_isRound_39 rfl rfl
theorem c_L_isRound (l : Launch) (g : va_G) (cI cJ cZ : ClassId) (ad : Nat → Nat) (xst : Nat → Int32) (xse : Nat → Int32) (xre : Nat → Int32) (xgr : Nat → Int32) (ltm : Nat → Int32) (low : Nat → Int32) (lta : Nat → Int32) (llo : Nat → Int64) (lhi : Nat → Int64) (lmo : Nat → Int32) (rta : Nat → Int32) (ron : Nat → Int32) (rlo : Nat → Int64) (rhi : Nat → Int64) (rmo : Nat → Int32) (rin : Nat → Int32) (res : Nat → Int32) (rsi : Nat → Int32) (rli : Nat → Int32) (rar : Nat → Int32) (xgc : Int32) (xca : Int32) (xls : Int32) (xtl : Int32) (xno : Int32) (lco : Int32) (rwa : Int32) (rad : Int32) (rest : va_W) (a1 : Int32) (a2 : Int32) (a3 : Int32) (a4 : Int64) (a5 : Int64) (r : Int32) (hF : F_L_isRound low lta llo lhi a1 a2 a3 a4 a5 = some r) : Ci l y_L_isRound prog_2_method_18_code 8 (some .boolean) ({ frames := 1, cells := 0, slots := 0, locals := 23 }) [.ref (ad 1), .int a1, .int a2, .int a3, .long a4, .long a5] g (kty cI cJ cZ) (wC cI cJ cZ ad xst xse xre xgr ltm low lta llo lhi lmo rta ron rlo rhi rmo rin res rsi rli rar xgc xca xls xtl xno lco rwa rad rest) (wC cI cJ cZ ad xst xse xre xgr ltm low lta llo lhi lmo rta ron rlo rhi rmo rin res rsi rli rar xgc xca xls xtl xno lco rwa rad rest) r :=
  Ci.of (by decide) (Nat.le_of_ble_eq_true rfl) (fun p e s m below meth c A ls K hP hD hS hl => t_L_isRound K xst xse xre xgr ltm low lta llo lhi lmo rta ron rlo rhi rmo rin res rsi rli rar xgc xca xls xtl xno lco rwa rad a1 a2 a3 a4 a5 r hF hP hD hS hl)
def F_L_dropRow (low : Nat → Int32) (lta : Nat → Int32) (llo : Nat → Int64) (lhi : Nat → Int64) (lmo : Nat → Int32) (lco : Int32) (a1 : Int32) : Option ((Nat → Int32) × (Nat → Int32) × (Nat → Int64) × (Nat → Int64) × (Nat → Int32) × Int32) :=
  gd ((lco - 1) < 0 ∨ 256 ≤ (lco - 1).toNatClampNeg) (gd (a1 < 0 ∨ 256 ≤ a1.toNatClampNeg) (gd ((lco - 1) < 0 ∨ 256 ≤ (lco - 1).toNatClampNeg) (gd (a1 < 0 ∨ 256 ≤ a1.toNatClampNeg) (gd ((lco - 1) < 0 ∨ 256 ≤ (lco - 1).toNatClampNeg) (gd (a1 < 0 ∨ 256 ≤ a1.toNatClampNeg) (gd ((lco - 1) < 0 ∨ 256 ≤ (lco - 1).toNatClampNeg) (gd (a1 < 0 ∨ 256 ≤ a1.toNatClampNeg) (gd ((lco - 1) < 0 ∨ 256 ≤ (lco - 1).toNatClampNeg) (gd (a1 < 0 ∨ 256 ≤ a1.toNatClampNeg) (some (upd low a1.toNatClampNeg (low (lco - 1).toNatClampNeg), upd lta a1.toNatClampNeg (lta (lco - 1).toNatClampNeg), vp_updL llo a1.toNatClampNeg (llo (lco - 1).toNatClampNeg), vp_updL lhi a1.toNatClampNeg (lhi (lco - 1).toNatClampNeg), upd lmo a1.toNatClampNeg (lmo (lco - 1).toNatClampNeg), lco - 1)))))))))))
set_option maxHeartbeats 4000000 in
set_option maxRecDepth 100000 in
theorem t_L_dropRow {p : Program} {l : Launch} {e : Env} {s : State} {m : MethodId} {args : Array Value} {below : List Frame} {meth : Method} {c : Code} {A : Nat → Prop} {g : va_G} {cI cJ cZ : ClassId} {ad : Nat → Nat} {rest : va_W} (K : kX p s m args meth c "LockTable$Locks" prog_2_method_19_code 2 none A g (kty cI cJ cZ)) (xst : Nat → Int32) (xse : Nat → Int32) (xre : Nat → Int32) (xgr : Nat → Int32) (ltm : Nat → Int32) (low : Nat → Int32) (lta : Nat → Int32) (llo : Nat → Int64) (lhi : Nat → Int64) (lmo : Nat → Int32) (rta : Nat → Int32) (ron : Nat → Int32) (rlo : Nat → Int64) (rhi : Nat → Int64) (rmo : Nat → Int32) (rin : Nat → Int32) (res : Nat → Int32) (rsi : Nat → Int32) (rli : Nat → Int32) (rar : Nat → Int32) (xgc : Int32) (xca : Int32) (xls : Int32) (xtl : Int32) (xno : Int32) (lco : Int32) (rwa : Int32) (rad : Int32) (a1 : Int32) (o_low : Nat → Int32) (o_lta : Nat → Int32) (o_llo : Nat → Int64) (o_lhi : Nat → Int64) (o_lmo : Nat → Int32) (o_lco : Int32) (hF : F_L_dropRow low lta llo lhi lmo lco a1 = some (o_low, o_lta, o_llo, o_lhi, o_lmo, o_lco)) {H : Heap} {locs : List Loc} {ls : Array Slot} (hP : va_P g kcl (wC cI cJ cZ ad xst xse xre xgr ltm low lta llo lhi lmo rta ron rlo rhi rmo rin res rsi rli rar xgc xca xls xtl xno lco rwa rad rest) H) (hD : va_D A (wC cI cJ cZ ad xst xse xre xgr ltm low lta llo lhi lmo rta ron rlo rhi rmo rin res rsi rli rar xgc xca xls xtl xno lco rwa rad rest)) (hS : va_S A s.heap H locs) (hl : lv_has ls 2 [(0, .ref (ad 1)), (1, .int a1)]) : W p l e ({ frames := 0, cells := 0, slots := 0, locals := 0 }) s m args below meth c H locs 0 0 (MQ below (kQv g (kty cI cJ cZ) (wC cI cJ cZ ad xst xse xre xgr ltm o_low o_lta o_llo o_lhi o_lmo rta ron rlo rhi rmo rin res rsi rli rar xgc xca xls xtl xno o_lco rwa rad rest) A) args s 0 0 A) (F0 m 0 ls []) := by
  obtain ⟨hx, hb, hr, hml, hown, hts, hlocks, hK, hA, hE⟩ := id K
  unfold F_L_dropRow at hF
  refine lv_aload_n hx hb d_L_dropRow_0 rfl (lv_at hl 0 rfl) ?_
  refine lv_dup hx hb d_L_dropRow_1 rfl ?_
  refine va_get (D := g) (ci := 0) (v := .int lco) (C := kR0) (T := kT0) (N := 7) hx hb hts kw0 hown hK hP 1 rfl rfl 6 (by decide) (hts _ wm_84) (fun _ h9 => h9) rfl d_L_dropRow_2 ?_
  refine lv_iconst (v := 1) hx hb d_L_dropRow_5 (by decide) ?_
  refine lv_isub hx hb d_L_dropRow_6 ?_
  refine va_put (D := g) (ci := 0) (v := .int (lco - 1)) (ty := .int) (C := kR0) (T := kT0) (N := 7) hx hb hts kw0 kt0 ko0 kn0 hown hK hP hD hS 1 rfl rfl 6 (by decide) (hts _ wm_84) (fun _ h9 => h9) rfl (by decide +kernel) rfl rfl (Nat.le_of_ble_eq_true rfl) d_L_dropRow_7 (fun H locs hP hD hS => ?_)
  have hP : va_P g kcl (wC cI cJ cZ ad xst xse xre xgr ltm low lta llo lhi lmo rta ron rlo rhi rmo rin res rsi rli rar xgc xca xls xtl xno (lco - 1) rwa rad rest) H := hP
  have hD : va_D A (wC cI cJ cZ ad xst xse xre xgr ltm low lta llo lhi lmo rta ron rlo rhi rmo rin res rsi rli rar xgc xca xls xtl xno (lco - 1) rwa rad rest) := hD
  refine lv_aload_n hx hb d_L_dropRow_10 rfl (lv_at hl 0 rfl) ?_
  refine va_get (D := g) (ci := 0) (v := .ref (ad 8)) (C := kR0) (T := kT0) (N := 7) hx hb hts kw0 hown hK hP 1 rfl rfl 1 (by decide) (hts _ wm_79) (fun _ h9 => h9) rfl d_L_dropRow_11 ?_
  refine lv_iload_n hx hb d_L_dropRow_14 rfl (lv_at hl 1 rfl) ?_
  refine lv_aload_n hx hb d_L_dropRow_15 rfl (lv_at hl 0 rfl) ?_
  refine va_get (D := g) (ci := 0) (v := .ref (ad 8)) (C := kR0) (T := kT0) (N := 7) hx hb hts kw0 hown hK hP 1 rfl rfl 1 (by decide) (hts _ wm_79) (fun _ h9 => h9) rfl d_L_dropRow_16 ?_
  refine lv_aload_n hx hb d_L_dropRow_19 rfl (lv_at hl 0 rfl) ?_
  refine va_get (D := g) (ci := 0) (v := .int (lco - 1)) (C := kR0) (T := kT0) (N := 7) hx hb hts kw0 hown hK hP 1 rfl rfl 6 (by decide) (hts _ wm_84) (fun _ h9 => h9) rfl d_L_dropRow_20 ?_
  obtain ⟨hg_1, hF⟩ := gd_inv hF
  refine va_iald hx hb hK hP 8 0 rfl rfl hg_1 d_L_dropRow_23 ?_
  obtain ⟨hg_2, hF⟩ := gd_inv hF
  refine va_iast hx hb hK hP hD hS 8 0 rfl rfl hg_2 d_L_dropRow_24 (fun H locs hP hD hS => ?_)
  have hP : va_P g kcl (wC cI cJ cZ ad xst xse xre xgr ltm (upd low a1.toNatClampNeg (low (lco - 1).toNatClampNeg)) lta llo lhi lmo rta ron rlo rhi rmo rin res rsi rli rar xgc xca xls xtl xno (lco - 1) rwa rad rest) H := hP
  have hD : va_D A (wC cI cJ cZ ad xst xse xre xgr ltm (upd low a1.toNatClampNeg (low (lco - 1).toNatClampNeg)) lta llo lhi lmo rta ron rlo rhi rmo rin res rsi rli rar xgc xca xls xtl xno (lco - 1) rwa rad rest) := hD
  refine lv_aload_n hx hb d_L_dropRow_25 rfl (lv_at hl 0 rfl) ?_
  refine va_get (D := g) (ci := 0) (v := .ref (ad 9)) (C := kR0) (T := kT0) (N := 7) hx hb hts kw0 hown hK hP 1 rfl rfl 2 (by decide) (hts _ wm_80) (fun _ h9 => h9) rfl d_L_dropRow_26 ?_
  refine lv_iload_n hx hb d_L_dropRow_29 rfl (lv_at hl 1 rfl) ?_
  refine lv_aload_n hx hb d_L_dropRow_30 rfl (lv_at hl 0 rfl) ?_
  refine va_get (D := g) (ci := 0) (v := .ref (ad 9)) (C := kR0) (T := kT0) (N := 7) hx hb hts kw0 hown hK hP 1 rfl rfl 2 (by decide) (hts _ wm_80) (fun _ h9 => h9) rfl d_L_dropRow_31 ?_
  refine lv_aload_n hx hb d_L_dropRow_34 rfl (lv_at hl 0 rfl) ?_
  refine va_get (D := g) (ci := 0) (v := .int (lco - 1)) (C := kR0) (T := kT0) (N := 7) hx hb hts kw0 hown hK hP 1 rfl rfl 6 (by decide) (hts _ wm_84) (fun _ h9 => h9) rfl d_L_dropRow_35 ?_
  obtain ⟨hg_3, hF⟩ := gd_inv hF
  refine va_iald hx hb hK hP 9 0 rfl rfl hg_3 d_L_dropRow_38 ?_
  obtain ⟨hg_4, hF⟩ := gd_inv hF
  refine va_iast hx hb hK hP hD hS 9 0 rfl rfl hg_4 d_L_dropRow_39 (fun H locs hP hD hS => ?_)
  have hP : va_P g kcl (wC cI cJ cZ ad xst xse xre xgr ltm (upd low a1.toNatClampNeg (low (lco - 1).toNatClampNeg)) (upd lta a1.toNatClampNeg (lta (lco - 1).toNatClampNeg)) llo lhi lmo rta ron rlo rhi rmo rin res rsi rli rar xgc xca xls xtl xno (lco - 1) rwa rad rest) H := hP
  have hD : va_D A (wC cI cJ cZ ad xst xse xre xgr ltm (upd low a1.toNatClampNeg (low (lco - 1).toNatClampNeg)) (upd lta a1.toNatClampNeg (lta (lco - 1).toNatClampNeg)) llo lhi lmo rta ron rlo rhi rmo rin res rsi rli rar xgc xca xls xtl xno (lco - 1) rwa rad rest) := hD
  refine lv_aload_n hx hb d_L_dropRow_40 rfl (lv_at hl 0 rfl) ?_
  refine va_get (D := g) (ci := 0) (v := .ref (ad 10)) (C := kR0) (T := kT0) (N := 7) hx hb hts kw0 hown hK hP 1 rfl rfl 3 (by decide) (hts _ wm_81) (fun _ h9 => h9) rfl d_L_dropRow_41 ?_
  refine lv_iload_n hx hb d_L_dropRow_44 rfl (lv_at hl 1 rfl) ?_
  refine lv_aload_n hx hb d_L_dropRow_45 rfl (lv_at hl 0 rfl) ?_
  refine va_get (D := g) (ci := 0) (v := .ref (ad 10)) (C := kR0) (T := kT0) (N := 7) hx hb hts kw0 hown hK hP 1 rfl rfl 3 (by decide) (hts _ wm_81) (fun _ h9 => h9) rfl d_L_dropRow_46 ?_
  refine lv_aload_n hx hb d_L_dropRow_49 rfl (lv_at hl 0 rfl) ?_
  refine va_get (D := g) (ci := 0) (v := .int (lco - 1)) (C := kR0) (T := kT0) (N := 7) hx hb hts kw0 hown hK hP 1 rfl rfl 6 (by decide) (hts _ wm_84) (fun _ h9 => h9) rfl d_L_dropRow_50 ?_
  obtain ⟨hg_5, hF⟩ := gd_inv hF
  refine va_lald hx hb hK hP 10 1 rfl rfl hg_5 d_L_dropRow_53 ?_
  obtain ⟨hg_6, hF⟩ := gd_inv hF
  refine va_last hx hb hK hP hD hS 10 1 rfl rfl hg_6 d_L_dropRow_54 (fun H locs hP hD hS => ?_)
  have hP : va_P g kcl (wC cI cJ cZ ad xst xse xre xgr ltm (upd low a1.toNatClampNeg (low (lco - 1).toNatClampNeg)) (upd lta a1.toNatClampNeg (lta (lco - 1).toNatClampNeg)) (vp_updL llo a1.toNatClampNeg (llo (lco - 1).toNatClampNeg)) lhi lmo rta ron rlo rhi rmo rin res rsi rli rar xgc xca xls xtl xno (lco - 1) rwa rad rest) H := hP
  have hD : va_D A (wC cI cJ cZ ad xst xse xre xgr ltm (upd low a1.toNatClampNeg (low (lco - 1).toNatClampNeg)) (upd lta a1.toNatClampNeg (lta (lco - 1).toNatClampNeg)) (vp_updL llo a1.toNatClampNeg (llo (lco - 1).toNatClampNeg)) lhi lmo rta ron rlo rhi rmo rin res rsi rli rar xgc xca xls xtl xno (lco - 1) rwa rad rest) := hD
  refine lv_aload_n hx hb d_L_dropRow_55 rfl (lv_at hl 0 rfl) ?_
  refine va_get (D := g) (ci := 0) (v := .ref (ad 11)) (C := kR0) (T := kT0) (N := 7) hx hb hts kw0 hown hK hP 1 rfl rfl 4 (by decide) (hts _ wm_82) (fun _ h9 => h9) rfl d_L_dropRow_56 ?_
  refine lv_iload_n hx hb d_L_dropRow_59 rfl (lv_at hl 1 rfl) ?_
  refine lv_aload_n hx hb d_L_dropRow_60 rfl (lv_at hl 0 rfl) ?_
  refine va_get (D := g) (ci := 0) (v := .ref (ad 11)) (C := kR0) (T := kT0) (N := 7) hx hb hts kw0 hown hK hP 1 rfl rfl 4 (by decide) (hts _ wm_82) (fun _ h9 => h9) rfl d_L_dropRow_61 ?_
  refine lv_aload_n hx hb d_L_dropRow_64 rfl (lv_at hl 0 rfl) ?_
  refine va_get (D := g) (ci := 0) (v := .int (lco - 1)) (C := kR0) (T := kT0) (N := 7) hx hb hts kw0 hown hK hP 1 rfl rfl 6 (by decide) (hts _ wm_84) (fun _ h9 => h9) rfl d_L_dropRow_65 ?_
  obtain ⟨hg_7, hF⟩ := gd_inv hF
  refine va_lald hx hb hK hP 11 1 rfl rfl hg_7 d_L_dropRow_68 ?_
  obtain ⟨hg_8, hF⟩ := gd_inv hF
  refine va_last hx hb hK hP hD hS 11 1 rfl rfl hg_8 d_L_dropRow_69 (fun H locs hP hD hS => ?_)
  have hP : va_P g kcl (wC cI cJ cZ ad xst xse xre xgr ltm (upd low a1.toNatClampNeg (low (lco - 1).toNatClampNeg)) (upd lta a1.toNatClampNeg (lta (lco - 1).toNatClampNeg)) (vp_updL llo a1.toNatClampNeg (llo (lco - 1).toNatClampNeg)) (vp_updL lhi a1.toNatClampNeg (lhi (lco - 1).toNatClampNeg)) lmo rta ron rlo rhi rmo rin res rsi rli rar xgc xca xls xtl xno (lco - 1) rwa rad rest) H := hP
  have hD : va_D A (wC cI cJ cZ ad xst xse xre xgr ltm (upd low a1.toNatClampNeg (low (lco - 1).toNatClampNeg)) (upd lta a1.toNatClampNeg (lta (lco - 1).toNatClampNeg)) (vp_updL llo a1.toNatClampNeg (llo (lco - 1).toNatClampNeg)) (vp_updL lhi a1.toNatClampNeg (lhi (lco - 1).toNatClampNeg)) lmo rta ron rlo rhi rmo rin res rsi rli rar xgc xca xls xtl xno (lco - 1) rwa rad rest) := hD
  refine lv_aload_n hx hb d_L_dropRow_70 rfl (lv_at hl 0 rfl) ?_
  refine va_get (D := g) (ci := 0) (v := .ref (ad 12)) (C := kR0) (T := kT0) (N := 7) hx hb hts kw0 hown hK hP 1 rfl rfl 5 (by decide) (hts _ wm_83) (fun _ h9 => h9) rfl d_L_dropRow_71 ?_
  refine lv_iload_n hx hb d_L_dropRow_74 rfl (lv_at hl 1 rfl) ?_
  refine lv_aload_n hx hb d_L_dropRow_75 rfl (lv_at hl 0 rfl) ?_
  refine va_get (D := g) (ci := 0) (v := .ref (ad 12)) (C := kR0) (T := kT0) (N := 7) hx hb hts kw0 hown hK hP 1 rfl rfl 5 (by decide) (hts _ wm_83) (fun _ h9 => h9) rfl d_L_dropRow_76 ?_
  refine lv_aload_n hx hb d_L_dropRow_79 rfl (lv_at hl 0 rfl) ?_
  refine va_get (D := g) (ci := 0) (v := .int (lco - 1)) (C := kR0) (T := kT0) (N := 7) hx hb hts kw0 hown hK hP 1 rfl rfl 6 (by decide) (hts _ wm_84) (fun _ h9 => h9) rfl d_L_dropRow_80 ?_
  obtain ⟨hg_9, hF⟩ := gd_inv hF
  refine va_iald hx hb hK hP 12 0 rfl rfl hg_9 d_L_dropRow_83 ?_
  obtain ⟨hg_10, hF⟩ := gd_inv hF
  refine va_iast hx hb hK hP hD hS 12 0 rfl rfl hg_10 d_L_dropRow_84 (fun H locs hP hD hS => ?_)
  have hP : va_P g kcl (wC cI cJ cZ ad xst xse xre xgr ltm (upd low a1.toNatClampNeg (low (lco - 1).toNatClampNeg)) (upd lta a1.toNatClampNeg (lta (lco - 1).toNatClampNeg)) (vp_updL llo a1.toNatClampNeg (llo (lco - 1).toNatClampNeg)) (vp_updL lhi a1.toNatClampNeg (lhi (lco - 1).toNatClampNeg)) (upd lmo a1.toNatClampNeg (lmo (lco - 1).toNatClampNeg)) rta ron rlo rhi rmo rin res rsi rli rar xgc xca xls xtl xno (lco - 1) rwa rad rest) H := hP
  have hD : va_D A (wC cI cJ cZ ad xst xse xre xgr ltm (upd low a1.toNatClampNeg (low (lco - 1).toNatClampNeg)) (upd lta a1.toNatClampNeg (lta (lco - 1).toNatClampNeg)) (vp_updL llo a1.toNatClampNeg (llo (lco - 1).toNatClampNeg)) (vp_updL lhi a1.toNatClampNeg (lhi (lco - 1).toNatClampNeg)) (upd lmo a1.toNatClampNeg (lmo (lco - 1).toNatClampNeg)) rta ron rlo rhi rmo rin res rsi rli rar xgc xca xls xtl xno (lco - 1) rwa rad rest) := hD
  cases hF
  exact krv K hP hD hS d_L_dropRow_85
theorem c_L_dropRow (l : Launch) (g : va_G) (cI cJ cZ : ClassId) (ad : Nat → Nat) (xst : Nat → Int32) (xse : Nat → Int32) (xre : Nat → Int32) (xgr : Nat → Int32) (ltm : Nat → Int32) (low : Nat → Int32) (lta : Nat → Int32) (llo : Nat → Int64) (lhi : Nat → Int64) (lmo : Nat → Int32) (rta : Nat → Int32) (ron : Nat → Int32) (rlo : Nat → Int64) (rhi : Nat → Int64) (rmo : Nat → Int32) (rin : Nat → Int32) (res : Nat → Int32) (rsi : Nat → Int32) (rli : Nat → Int32) (rar : Nat → Int32) (xgc : Int32) (xca : Int32) (xls : Int32) (xtl : Int32) (xno : Int32) (lco : Int32) (rwa : Int32) (rad : Int32) (rest : va_W) (a1 : Int32) (o_low : Nat → Int32) (o_lta : Nat → Int32) (o_llo : Nat → Int64) (o_lhi : Nat → Int64) (o_lmo : Nat → Int32) (o_lco : Int32) (hF : F_L_dropRow low lta llo lhi lmo lco a1 = some (o_low, o_lta, o_llo, o_lhi, o_lmo, o_lco)) : Cv l y_L_dropRow prog_2_method_19_code 2 ({ frames := 0, cells := 0, slots := 0, locals := 0 }) [.ref (ad 1), .int a1] g (kty cI cJ cZ) (wC cI cJ cZ ad xst xse xre xgr ltm low lta llo lhi lmo rta ron rlo rhi rmo rin res rsi rli rar xgc xca xls xtl xno lco rwa rad rest) (wC cI cJ cZ ad xst xse xre xgr ltm o_low o_lta o_llo o_lhi o_lmo rta ron rlo rhi rmo rin res rsi rli rar xgc xca xls xtl xno o_lco rwa rad rest) :=
  Cv.of (by decide) (Nat.le_of_ble_eq_true rfl) (fun p e s m below meth c A ls K hP hD hS hl => t_L_dropRow K xst xse xre xgr ltm low lta llo lhi lmo rta ron rlo rhi rmo rin res rsi rli rar xgc xca xls xtl xno lco rwa rad a1 o_low o_lta o_llo o_lhi o_lmo o_lco hF hP hD hS hl)
def F_L_addRange (low : Nat → Int32) (lta : Nat → Int32) (llo : Nat → Int64) (lhi : Nat → Int64) (lmo : Nat → Int32) (lco : Int32) (a1 : Int32) (a2 : Int32) (a3 : Int64) (a4 : Int64) (a5 : Int32) : Option ((Nat → Int32) × (Nat → Int32) × (Nat → Int64) × (Nat → Int64) × (Nat → Int32) × Int32) :=
  if 256 ≤ lco then some (low, lta, llo, lhi, lmo, lco) else gd (lco < 0 ∨ 256 ≤ lco.toNatClampNeg) (gd (lco < 0 ∨ 256 ≤ lco.toNatClampNeg) (gd (lco < 0 ∨ 256 ≤ lco.toNatClampNeg) (gd (lco < 0 ∨ 256 ≤ lco.toNatClampNeg) (gd (lco < 0 ∨ 256 ≤ lco.toNatClampNeg) (some (upd low lco.toNatClampNeg a1, upd lta lco.toNatClampNeg a2, vp_updL llo lco.toNatClampNeg a3, vp_updL lhi lco.toNatClampNeg a4, upd lmo lco.toNatClampNeg a5, lco + 1))))))
set_option maxHeartbeats 4000000 in
set_option maxRecDepth 100000 in
theorem t_L_addRange {p : Program} {l : Launch} {e : Env} {s : State} {m : MethodId} {args : Array Value} {below : List Frame} {meth : Method} {c : Code} {A : Nat → Prop} {g : va_G} {cI cJ cZ : ClassId} {ad : Nat → Nat} {rest : va_W} (K : kX p s m args meth c "LockTable$Locks" prog_2_method_4_code 8 none A g (kty cI cJ cZ)) (xst : Nat → Int32) (xse : Nat → Int32) (xre : Nat → Int32) (xgr : Nat → Int32) (ltm : Nat → Int32) (low : Nat → Int32) (lta : Nat → Int32) (llo : Nat → Int64) (lhi : Nat → Int64) (lmo : Nat → Int32) (rta : Nat → Int32) (ron : Nat → Int32) (rlo : Nat → Int64) (rhi : Nat → Int64) (rmo : Nat → Int32) (rin : Nat → Int32) (res : Nat → Int32) (rsi : Nat → Int32) (rli : Nat → Int32) (rar : Nat → Int32) (xgc : Int32) (xca : Int32) (xls : Int32) (xtl : Int32) (xno : Int32) (lco : Int32) (rwa : Int32) (rad : Int32) (a1 : Int32) (a2 : Int32) (a3 : Int64) (a4 : Int64) (a5 : Int32) (o_low : Nat → Int32) (o_lta : Nat → Int32) (o_llo : Nat → Int64) (o_lhi : Nat → Int64) (o_lmo : Nat → Int32) (o_lco : Int32) (hF : F_L_addRange low lta llo lhi lmo lco a1 a2 a3 a4 a5 = some (o_low, o_lta, o_llo, o_lhi, o_lmo, o_lco)) {H : Heap} {locs : List Loc} {ls : Array Slot} (hP : va_P g kcl (wC cI cJ cZ ad xst xse xre xgr ltm low lta llo lhi lmo rta ron rlo rhi rmo rin res rsi rli rar xgc xca xls xtl xno lco rwa rad rest) H) (hD : va_D A (wC cI cJ cZ ad xst xse xre xgr ltm low lta llo lhi lmo rta ron rlo rhi rmo rin res rsi rli rar xgc xca xls xtl xno lco rwa rad rest)) (hS : va_S A s.heap H locs) (hl : lv_has ls 8 [(0, .ref (ad 1)), (1, .int a1), (2, .int a2), (3, .long a3), (5, .long a4), (7, .int a5)]) : W p l e ({ frames := 0, cells := 0, slots := 0, locals := 0 }) s m args below meth c H locs 0 0 (MQ below (kQv g (kty cI cJ cZ) (wC cI cJ cZ ad xst xse xre xgr ltm o_low o_lta o_llo o_lhi o_lmo rta ron rlo rhi rmo rin res rsi rli rar xgc xca xls xtl xno o_lco rwa rad rest) A) args s 0 0 A) (F0 m 0 ls []) := by
  obtain ⟨hx, hb, hr, hml, hown, hts, hlocks, hK, hA, hE⟩ := id K
  unfold F_L_addRange at hF
  refine lv_aload_n hx hb d_L_addRange_0 rfl (lv_at hl 0 rfl) ?_
  refine va_get (D := g) (ci := 0) (v := .int lco) (C := kR0) (T := kT0) (N := 7) hx hb hts kw0 hown hK hP 1 rfl rfl 6 (by decide) (hts _ wm_84) (fun _ h9 => h9) rfl d_L_addRange_1 ?_
  refine lv_sipush (v := 256) hx hb d_L_addRange_4 (by decide) ?_
  refine lv_icmp_ge (tgt := 72) hx hb d_L_addRange_7 (by decide) (fun hc_1 => ?_) (fun hc_1 => ?_)
  · have hF := it_t hF hc_1
    cases hF
    exact krv K hP hD hS d_L_addRange_72
  · have hF := it_f hF hc_1
    refine lv_aload_n hx hb d_L_addRange_10 rfl (lv_at hl 0 rfl) ?_
    refine va_get (D := g) (ci := 0) (v := .ref (ad 8)) (C := kR0) (T := kT0) (N := 7) hx hb hts kw0 hown hK hP 1 rfl rfl 1 (by decide) (hts _ wm_79) (fun _ h9 => h9) rfl d_L_addRange_11 ?_
    refine lv_aload_n hx hb d_L_addRange_14 rfl (lv_at hl 0 rfl) ?_
    refine va_get (D := g) (ci := 0) (v := .int lco) (C := kR0) (T := kT0) (N := 7) hx hb hts kw0 hown hK hP 1 rfl rfl 6 (by decide) (hts _ wm_84) (fun _ h9 => h9) rfl d_L_addRange_15 ?_
    refine lv_iload_n hx hb d_L_addRange_18 rfl (lv_at hl 1 rfl) ?_
    obtain ⟨hg_2, hF⟩ := gd_inv hF
    refine va_iast hx hb hK hP hD hS 8 0 rfl rfl hg_2 d_L_addRange_19 (fun H locs hP hD hS => ?_)
    have hP : va_P g kcl (wC cI cJ cZ ad xst xse xre xgr ltm (upd low lco.toNatClampNeg a1) lta llo lhi lmo rta ron rlo rhi rmo rin res rsi rli rar xgc xca xls xtl xno lco rwa rad rest) H := hP
    have hD : va_D A (wC cI cJ cZ ad xst xse xre xgr ltm (upd low lco.toNatClampNeg a1) lta llo lhi lmo rta ron rlo rhi rmo rin res rsi rli rar xgc xca xls xtl xno lco rwa rad rest) := hD
    refine lv_aload_n hx hb d_L_addRange_20 rfl (lv_at hl 0 rfl) ?_
    refine va_get (D := g) (ci := 0) (v := .ref (ad 9)) (C := kR0) (T := kT0) (N := 7) hx hb hts kw0 hown hK hP 1 rfl rfl 2 (by decide) (hts _ wm_80) (fun _ h9 => h9) rfl d_L_addRange_21 ?_
    refine lv_aload_n hx hb d_L_addRange_24 rfl (lv_at hl 0 rfl) ?_
    refine va_get (D := g) (ci := 0) (v := .int lco) (C := kR0) (T := kT0) (N := 7) hx hb hts kw0 hown hK hP 1 rfl rfl 6 (by decide) (hts _ wm_84) (fun _ h9 => h9) rfl d_L_addRange_25 ?_
    refine lv_iload_n hx hb d_L_addRange_28 rfl (lv_at hl 2 rfl) ?_
    obtain ⟨hg_3, hF⟩ := gd_inv hF
    refine va_iast hx hb hK hP hD hS 9 0 rfl rfl hg_3 d_L_addRange_29 (fun H locs hP hD hS => ?_)
    have hP : va_P g kcl (wC cI cJ cZ ad xst xse xre xgr ltm (upd low lco.toNatClampNeg a1) (upd lta lco.toNatClampNeg a2) llo lhi lmo rta ron rlo rhi rmo rin res rsi rli rar xgc xca xls xtl xno lco rwa rad rest) H := hP
    have hD : va_D A (wC cI cJ cZ ad xst xse xre xgr ltm (upd low lco.toNatClampNeg a1) (upd lta lco.toNatClampNeg a2) llo lhi lmo rta ron rlo rhi rmo rin res rsi rli rar xgc xca xls xtl xno lco rwa rad rest) := hD
    refine lv_aload_n hx hb d_L_addRange_30 rfl (lv_at hl 0 rfl) ?_
    refine va_get (D := g) (ci := 0) (v := .ref (ad 10)) (C := kR0) (T := kT0) (N := 7) hx hb hts kw0 hown hK hP 1 rfl rfl 3 (by decide) (hts _ wm_81) (fun _ h9 => h9) rfl d_L_addRange_31 ?_
    refine lv_aload_n hx hb d_L_addRange_34 rfl (lv_at hl 0 rfl) ?_
    refine va_get (D := g) (ci := 0) (v := .int lco) (C := kR0) (T := kT0) (N := 7) hx hb hts kw0 hown hK hP 1 rfl rfl 6 (by decide) (hts _ wm_84) (fun _ h9 => h9) rfl d_L_addRange_35 ?_
    refine lv_lload_n hx hb d_L_addRange_38 rfl (lv_at hl 3 rfl) ?_
    obtain ⟨hg_4, hF⟩ := gd_inv hF
    refine va_last hx hb hK hP hD hS 10 1 rfl rfl hg_4 d_L_addRange_39 (fun H locs hP hD hS => ?_)
    have hP : va_P g kcl (wC cI cJ cZ ad xst xse xre xgr ltm (upd low lco.toNatClampNeg a1) (upd lta lco.toNatClampNeg a2) (vp_updL llo lco.toNatClampNeg a3) lhi lmo rta ron rlo rhi rmo rin res rsi rli rar xgc xca xls xtl xno lco rwa rad rest) H := hP
    have hD : va_D A (wC cI cJ cZ ad xst xse xre xgr ltm (upd low lco.toNatClampNeg a1) (upd lta lco.toNatClampNeg a2) (vp_updL llo lco.toNatClampNeg a3) lhi lmo rta ron rlo rhi rmo rin res rsi rli rar xgc xca xls xtl xno lco rwa rad rest) := hD
    refine lv_aload_n hx hb d_L_addRange_40 rfl (lv_at hl 0 rfl) ?_
    refine va_get (D := g) (ci := 0) (v := .ref (ad 11)) (C := kR0) (T := kT0) (N := 7) hx hb hts kw0 hown hK hP 1 rfl rfl 4 (by decide) (hts _ wm_82) (fun _ h9 => h9) rfl d_L_addRange_41 ?_
    refine lv_aload_n hx hb d_L_addRange_44 rfl (lv_at hl 0 rfl) ?_
    refine va_get (D := g) (ci := 0) (v := .int lco) (C := kR0) (T := kT0) (N := 7) hx hb hts kw0 hown hK hP 1 rfl rfl 6 (by decide) (hts _ wm_84) (fun _ h9 => h9) rfl d_L_addRange_45 ?_
    refine lv_lload hx hb d_L_addRange_48 (lv_at hl 4 rfl) ?_
    obtain ⟨hg_5, hF⟩ := gd_inv hF
    refine va_last hx hb hK hP hD hS 11 1 rfl rfl hg_5 d_L_addRange_50 (fun H locs hP hD hS => ?_)
    have hP : va_P g kcl (wC cI cJ cZ ad xst xse xre xgr ltm (upd low lco.toNatClampNeg a1) (upd lta lco.toNatClampNeg a2) (vp_updL llo lco.toNatClampNeg a3) (vp_updL lhi lco.toNatClampNeg a4) lmo rta ron rlo rhi rmo rin res rsi rli rar xgc xca xls xtl xno lco rwa rad rest) H := hP
    have hD : va_D A (wC cI cJ cZ ad xst xse xre xgr ltm (upd low lco.toNatClampNeg a1) (upd lta lco.toNatClampNeg a2) (vp_updL llo lco.toNatClampNeg a3) (vp_updL lhi lco.toNatClampNeg a4) lmo rta ron rlo rhi rmo rin res rsi rli rar xgc xca xls xtl xno lco rwa rad rest) := hD
    refine lv_aload_n hx hb d_L_addRange_51 rfl (lv_at hl 0 rfl) ?_
    refine va_get (D := g) (ci := 0) (v := .ref (ad 12)) (C := kR0) (T := kT0) (N := 7) hx hb hts kw0 hown hK hP 1 rfl rfl 5 (by decide) (hts _ wm_83) (fun _ h9 => h9) rfl d_L_addRange_52 ?_
    refine lv_aload_n hx hb d_L_addRange_55 rfl (lv_at hl 0 rfl) ?_
    refine va_get (D := g) (ci := 0) (v := .int lco) (C := kR0) (T := kT0) (N := 7) hx hb hts kw0 hown hK hP 1 rfl rfl 6 (by decide) (hts _ wm_84) (fun _ h9 => h9) rfl d_L_addRange_56 ?_
    refine lv_iload hx hb d_L_addRange_59 (lv_at hl 5 rfl) ?_
    obtain ⟨hg_6, hF⟩ := gd_inv hF
    refine va_iast hx hb hK hP hD hS 12 0 rfl rfl hg_6 d_L_addRange_61 (fun H locs hP hD hS => ?_)
    have hP : va_P g kcl (wC cI cJ cZ ad xst xse xre xgr ltm (upd low lco.toNatClampNeg a1) (upd lta lco.toNatClampNeg a2) (vp_updL llo lco.toNatClampNeg a3) (vp_updL lhi lco.toNatClampNeg a4) (upd lmo lco.toNatClampNeg a5) rta ron rlo rhi rmo rin res rsi rli rar xgc xca xls xtl xno lco rwa rad rest) H := hP
    have hD : va_D A (wC cI cJ cZ ad xst xse xre xgr ltm (upd low lco.toNatClampNeg a1) (upd lta lco.toNatClampNeg a2) (vp_updL llo lco.toNatClampNeg a3) (vp_updL lhi lco.toNatClampNeg a4) (upd lmo lco.toNatClampNeg a5) rta ron rlo rhi rmo rin res rsi rli rar xgc xca xls xtl xno lco rwa rad rest) := hD
    refine lv_aload_n hx hb d_L_addRange_62 rfl (lv_at hl 0 rfl) ?_
    refine lv_dup hx hb d_L_addRange_63 rfl ?_
    refine va_get (D := g) (ci := 0) (v := .int lco) (C := kR0) (T := kT0) (N := 7) hx hb hts kw0 hown hK hP 1 rfl rfl 6 (by decide) (hts _ wm_84) (fun _ h9 => h9) rfl d_L_addRange_64 ?_
    refine lv_iconst (v := 1) hx hb d_L_addRange_67 (by decide) ?_
    refine lv_iadd hx hb d_L_addRange_68 ?_
    refine va_put (D := g) (ci := 0) (v := .int (lco + 1)) (ty := .int) (C := kR0) (T := kT0) (N := 7) hx hb hts kw0 kt0 ko0 kn0 hown hK hP hD hS 1 rfl rfl 6 (by decide) (hts _ wm_84) (fun _ h9 => h9) rfl (by decide +kernel) rfl rfl (Nat.le_of_ble_eq_true rfl) d_L_addRange_69 (fun H locs hP hD hS => ?_)
    have hP : va_P g kcl (wC cI cJ cZ ad xst xse xre xgr ltm (upd low lco.toNatClampNeg a1) (upd lta lco.toNatClampNeg a2) (vp_updL llo lco.toNatClampNeg a3) (vp_updL lhi lco.toNatClampNeg a4) (upd lmo lco.toNatClampNeg a5) rta ron rlo rhi rmo rin res rsi rli rar xgc xca xls xtl xno (lco + 1) rwa rad rest) H := hP
    have hD : va_D A (wC cI cJ cZ ad xst xse xre xgr ltm (upd low lco.toNatClampNeg a1) (upd lta lco.toNatClampNeg a2) (vp_updL llo lco.toNatClampNeg a3) (vp_updL lhi lco.toNatClampNeg a4) (upd lmo lco.toNatClampNeg a5) rta ron rlo rhi rmo rin res rsi rli rar xgc xca xls xtl xno (lco + 1) rwa rad rest) := hD
    cases hF
    exact krv K hP hD hS d_L_addRange_72
theorem c_L_addRange (l : Launch) (g : va_G) (cI cJ cZ : ClassId) (ad : Nat → Nat) (xst : Nat → Int32) (xse : Nat → Int32) (xre : Nat → Int32) (xgr : Nat → Int32) (ltm : Nat → Int32) (low : Nat → Int32) (lta : Nat → Int32) (llo : Nat → Int64) (lhi : Nat → Int64) (lmo : Nat → Int32) (rta : Nat → Int32) (ron : Nat → Int32) (rlo : Nat → Int64) (rhi : Nat → Int64) (rmo : Nat → Int32) (rin : Nat → Int32) (res : Nat → Int32) (rsi : Nat → Int32) (rli : Nat → Int32) (rar : Nat → Int32) (xgc : Int32) (xca : Int32) (xls : Int32) (xtl : Int32) (xno : Int32) (lco : Int32) (rwa : Int32) (rad : Int32) (rest : va_W) (a1 : Int32) (a2 : Int32) (a3 : Int64) (a4 : Int64) (a5 : Int32) (o_low : Nat → Int32) (o_lta : Nat → Int32) (o_llo : Nat → Int64) (o_lhi : Nat → Int64) (o_lmo : Nat → Int32) (o_lco : Int32) (hF : F_L_addRange low lta llo lhi lmo lco a1 a2 a3 a4 a5 = some (o_low, o_lta, o_llo, o_lhi, o_lmo, o_lco)) : Cv l y_L_addRange prog_2_method_4_code 8 ({ frames := 0, cells := 0, slots := 0, locals := 0 }) [.ref (ad 1), .int a1, .int a2, .long a3, .long a4, .int a5] g (kty cI cJ cZ) (wC cI cJ cZ ad xst xse xre xgr ltm low lta llo lhi lmo rta ron rlo rhi rmo rin res rsi rli rar xgc xca xls xtl xno lco rwa rad rest) (wC cI cJ cZ ad xst xse xre xgr ltm o_low o_lta o_llo o_lhi o_lmo rta ron rlo rhi rmo rin res rsi rli rar xgc xca xls xtl xno o_lco rwa rad rest) :=
  Cv.of (by decide) (Nat.le_of_ble_eq_true rfl) (fun p e s m below meth c A ls K hP hD hS hl => t_L_addRange K xst xse xre xgr ltm low lta llo lhi lmo rta ron rlo rhi rmo rin res rsi rli rar xgc xca xls xtl xno lco rwa rad a1 a2 a3 a4 a5 o_low o_lta o_llo o_lhi o_lmo o_lco hF hP hD hS hl)
def F_L_countRanges_L5 (low : Nat → Int32) (lta : Nat → Int32) (lco : Int32) (v1 : Int32) (v2 : Int32) : Nat → Int32 → Int32 → Option (Int32)
  | 0, _, _ => none
  | n + 1, v3, v4 => if lco ≤ v4 then some v3 else ob1 (F_L_isOn low lta v4 v1 v2) (fun r_2 => if r_2 = 0 then F_L_countRanges_L5 low lta lco v1 v2 n v3 (v4 + 1) else F_L_countRanges_L5 low lta lco v1 v2 n (v3 + 1) (v4 + 1))
def F_L_countRanges (low : Nat → Int32) (lta : Nat → Int32) (lco : Int32) (a1 : Int32) (a2 : Int32) : Option (Int32) :=
  ob1 (F_L_countRanges_L5 low lta lco a1 a2 fu 0 0) (fun v3_4 => some v3_4)
set_option maxHeartbeats 4000000 in
set_option maxRecDepth 100000 in
theorem t_L_countRanges_L5 {p : Program} {l : Launch} {e : Env} {s : State} {m : MethodId} {args : Array Value} {below : List Frame} {meth : Method} {c : Code} {A : Nat → Prop} {g : va_G} {cI cJ cZ : ClassId} {ad : Nat → Nat} {rest : va_W} (K : kX p s m args meth c "LockTable$Locks" prog_2_method_8_code 5 (some .int) A g (kty cI cJ cZ)) {Q : State → Prop} (xst : Nat → Int32) (xse : Nat → Int32) (xre : Nat → Int32) (xgr : Nat → Int32) (ltm : Nat → Int32) (low : Nat → Int32) (lta : Nat → Int32) (llo : Nat → Int64) (lhi : Nat → Int64) (lmo : Nat → Int32) (rta : Nat → Int32) (ron : Nat → Int32) (rlo : Nat → Int64) (rhi : Nat → Int64) (rmo : Nat → Int32) (rin : Nat → Int32) (res : Nat → Int32) (rsi : Nat → Int32) (rli : Nat → Int32) (rar : Nat → Int32) (xgc : Int32) (xca : Int32) (xls : Int32) (xtl : Int32) (xno : Int32) (lco : Int32) (rwa : Int32) (rad : Int32) (v1 : Int32) (v2 : Int32) : ∀ (n : Nat) (v3 : Int32) (v4 : Int32) (o_v3 : Int32) (H : Heap) (locs : List Loc) (ls : Array Slot), F_L_countRanges_L5 low lta lco v1 v2 n v3 v4 = some o_v3 → va_P g kcl (wC cI cJ cZ ad xst xse xre xgr ltm low lta llo lhi lmo rta ron rlo rhi rmo rin res rsi rli rar xgc xca xls xtl xno lco rwa rad rest) H → va_D A (wC cI cJ cZ ad xst xse xre xgr ltm low lta llo lhi lmo rta ron rlo rhi rmo rin res rsi rli rar xgc xca xls xtl xno lco rwa rad rest) → va_S A s.heap H locs → lv_has ls 5 [(0, .ref (ad 1)), (1, .int v1), (2, .int v2), (3, .int v3), (4, .int v4)] → (∀ (H : Heap) (locs : List Loc) (ls : Array Slot), va_P g kcl (wC cI cJ cZ ad xst xse xre xgr ltm low lta llo lhi lmo rta ron rlo rhi rmo rin res rsi rli rar xgc xca xls xtl xno lco rwa rad rest) H → va_D A (wC cI cJ cZ ad xst xse xre xgr ltm low lta llo lhi lmo rta ron rlo rhi rmo rin res rsi rli rar xgc xca xls xtl xno lco rwa rad rest) → va_S A s.heap H locs → lv_has ls 5 [(3, .int o_v3)] → W p l e ({ frames := 1, cells := 0, slots := 0, locals := 23 }) s m args below meth c H locs 0 0 Q (F0 m 34 ls [])) → W p l e ({ frames := 1, cells := 0, slots := 0, locals := 23 }) s m args below meth c H locs 0 0 Q (F0 m 5 ls []) := by
  obtain ⟨hx, hb, hr, hml, hown, hts, hlocks, hK, hA, hE⟩ := id K
  intro n
  induction n with
  | zero =>
    intro v3 v4 o_v3 H locs ls hF
    rw [F_L_countRanges_L5] at hF
    cases hF
  | succ n ih =>
    intro v3 v4 o_v3 H locs ls hF hP hD hS hl hQ
    rw [F_L_countRanges_L5] at hF
    refine lv_iload hx hb d_L_countRanges_5 (lv_at hl 4 rfl) ?_
    refine lv_aload_n hx hb d_L_countRanges_7 rfl (lv_at hl 0 rfl) ?_
    refine va_get (D := g) (ci := 0) (v := .int lco) (C := kR0) (T := kT0) (N := 7) hx hb hts kw0 hown hK hP 1 rfl rfl 6 (by decide) (hts _ wm_84) (fun _ h9 => h9) rfl d_L_countRanges_8 ?_
    refine lv_icmp_ge (tgt := 34) hx hb d_L_countRanges_11 (by decide) (fun hc_1 => ?_) (fun hc_1 => ?_)
    · have hF := it_t hF hc_1
      cases hF
      exact hQ H locs ls hP hD hS (lv_sub hl [3] rfl)
    · have hF := it_f hF hc_1
      refine lv_aload_n hx hb d_L_countRanges_14 rfl (lv_at hl 0 rfl) ?_
      refine lv_iload hx hb d_L_countRanges_15 (lv_at hl 4 rfl) ?_
      refine lv_iload_n hx hb d_L_countRanges_17 rfl (lv_at hl 1 rfl) ?_
      refine lv_iload_n hx hb d_L_countRanges_18 rfl (lv_at hl 2 rfl) ?_
      obtain ⟨r_2, hG, hF⟩ := ob1_inv hF
      refine kci K hP hD hS (c_L_isOn l g cI cJ cZ ad xst xse xre xgr ltm low lta llo lhi lmo rta ron rlo rhi rmo rin res rsi rli rar xgc xca xls xtl xno lco rwa rad rest v4 v1 v2 r_2 hG) wm_410 wm_407 wm_409 wm_9 wm_48 hd_L_isOn rfl rfl ⟨Nat.le_of_ble_eq_true rfl, Nat.le_of_ble_eq_true rfl⟩ ⟨Nat.zero_le _, Nat.zero_le _⟩ 0 1 rfl rfl rfl hl.1 (rest := []) rfl (Nat.le_of_ble_eq_true rfl) d_L_countRanges_19 (fun H locs hP hD hS => ?_)
      refine lv_if_eq (tgt := 28) hx hb d_L_countRanges_22 (by decide) (fun hc_3 => ?_) (fun hc_3 => ?_)
      · have hF := it_t hF hc_3
        refine lv_iinc (v := v4 + 1) (lv' := [(4, .int (v4 + 1)), (0, .ref (ad 1)), (1, .int v1), (2, .int v2), (3, .int v3)]) hx hb d_L_countRanges_28 hl (k := 4) rfl rfl (by decide) rfl (fun ls hl => ?_)
        refine lv_goto (tgt := 5) hx hb d_L_countRanges_31 (by decide) ?_
        exact ih _ _ _ H locs ls hF hP hD hS (lv_sub hl [1, 2, 3, 4, 0] rfl) hQ
      · have hF := it_f hF hc_3
        refine lv_iinc (v := v3 + 1) (lv' := [(3, .int (v3 + 1)), (0, .ref (ad 1)), (1, .int v1), (2, .int v2), (4, .int v4)]) hx hb d_L_countRanges_25 hl (k := 3) rfl rfl (by decide) rfl (fun ls hl => ?_)
        refine lv_iinc (v := v4 + 1) (lv' := [(4, .int (v4 + 1)), (3, .int (v3 + 1)), (0, .ref (ad 1)), (1, .int v1), (2, .int v2)]) hx hb d_L_countRanges_28 hl (k := 4) rfl rfl (by decide) rfl (fun ls hl => ?_)
        refine lv_goto (tgt := 5) hx hb d_L_countRanges_31 (by decide) ?_
        exact ih _ _ _ H locs ls hF hP hD hS (lv_sub hl [2, 3, 4, 1, 0] rfl) hQ
set_option maxHeartbeats 4000000 in
set_option maxRecDepth 100000 in
theorem t_L_countRanges {p : Program} {l : Launch} {e : Env} {s : State} {m : MethodId} {args : Array Value} {below : List Frame} {meth : Method} {c : Code} {A : Nat → Prop} {g : va_G} {cI cJ cZ : ClassId} {ad : Nat → Nat} {rest : va_W} (K : kX p s m args meth c "LockTable$Locks" prog_2_method_8_code 5 (some .int) A g (kty cI cJ cZ)) (xst : Nat → Int32) (xse : Nat → Int32) (xre : Nat → Int32) (xgr : Nat → Int32) (ltm : Nat → Int32) (low : Nat → Int32) (lta : Nat → Int32) (llo : Nat → Int64) (lhi : Nat → Int64) (lmo : Nat → Int32) (rta : Nat → Int32) (ron : Nat → Int32) (rlo : Nat → Int64) (rhi : Nat → Int64) (rmo : Nat → Int32) (rin : Nat → Int32) (res : Nat → Int32) (rsi : Nat → Int32) (rli : Nat → Int32) (rar : Nat → Int32) (xgc : Int32) (xca : Int32) (xls : Int32) (xtl : Int32) (xno : Int32) (lco : Int32) (rwa : Int32) (rad : Int32) (a1 : Int32) (a2 : Int32) (r : Int32) (hF : F_L_countRanges low lta lco a1 a2 = some r) {H : Heap} {locs : List Loc} {ls : Array Slot} (hP : va_P g kcl (wC cI cJ cZ ad xst xse xre xgr ltm low lta llo lhi lmo rta ron rlo rhi rmo rin res rsi rli rar xgc xca xls xtl xno lco rwa rad rest) H) (hD : va_D A (wC cI cJ cZ ad xst xse xre xgr ltm low lta llo lhi lmo rta ron rlo rhi rmo rin res rsi rli rar xgc xca xls xtl xno lco rwa rad rest)) (hS : va_S A s.heap H locs) (hl : lv_has ls 5 [(0, .ref (ad 1)), (1, .int a1), (2, .int a2)]) : W p l e ({ frames := 1, cells := 0, slots := 0, locals := 23 }) s m args below meth c H locs 0 0 (MQ below (kQi g (kty cI cJ cZ) (wC cI cJ cZ ad xst xse xre xgr ltm low lta llo lhi lmo rta ron rlo rhi rmo rin res rsi rli rar xgc xca xls xtl xno lco rwa rad rest) A r) args s 0 0 A) (F0 m 0 ls []) := by
  obtain ⟨hx, hb, hr, hml, hown, hts, hlocks, hK, hA, hE⟩ := id K
  unfold F_L_countRanges at hF
  refine lv_iconst (v := 0) hx hb d_L_countRanges_0 (by decide) ?_
  refine lv_istore_n (lv' := [(3, .int 0), (0, .ref (ad 1)), (1, .int a1), (2, .int a2)]) hx hb d_L_countRanges_1 rfl hl (by decide) rfl (fun ls hl => ?_)
  refine lv_iconst (v := 0) hx hb d_L_countRanges_2 (by decide) ?_
  refine lv_istore (lv' := [(4, .int 0), (3, .int 0), (0, .ref (ad 1)), (1, .int a1), (2, .int a2)]) hx hb d_L_countRanges_3 hl (by decide) rfl (fun ls hl => ?_)
  obtain ⟨v3_4, hG, hF⟩ := ob1_inv hF
  refine t_L_countRanges_L5 K xst xse xre xgr ltm low lta llo lhi lmo rta ron rlo rhi rmo rin res rsi rli rar xgc xca xls xtl xno lco rwa rad a1 a2 fu _ _ _ H locs ls hG hP hD hS (lv_sub hl [2, 3, 4, 1, 0] rfl) (fun H locs ls hP hD hS hl => ?_)
  refine lv_iload_n hx hb d_L_countRanges_34 rfl (lv_at hl 0 rfl) ?_
  cases hF
  exact kri K hP hD hS d_L_countRanges_35 rfl
theorem c_L_countRanges (l : Launch) (g : va_G) (cI cJ cZ : ClassId) (ad : Nat → Nat) (xst : Nat → Int32) (xse : Nat → Int32) (xre : Nat → Int32) (xgr : Nat → Int32) (ltm : Nat → Int32) (low : Nat → Int32) (lta : Nat → Int32) (llo : Nat → Int64) (lhi : Nat → Int64) (lmo : Nat → Int32) (rta : Nat → Int32) (ron : Nat → Int32) (rlo : Nat → Int64) (rhi : Nat → Int64) (rmo : Nat → Int32) (rin : Nat → Int32) (res : Nat → Int32) (rsi : Nat → Int32) (rli : Nat → Int32) (rar : Nat → Int32) (xgc : Int32) (xca : Int32) (xls : Int32) (xtl : Int32) (xno : Int32) (lco : Int32) (rwa : Int32) (rad : Int32) (rest : va_W) (a1 : Int32) (a2 : Int32) (r : Int32) (hF : F_L_countRanges low lta lco a1 a2 = some r) : Ci l y_L_countRanges prog_2_method_8_code 5 (some .int) ({ frames := 1, cells := 0, slots := 0, locals := 23 }) [.ref (ad 1), .int a1, .int a2] g (kty cI cJ cZ) (wC cI cJ cZ ad xst xse xre xgr ltm low lta llo lhi lmo rta ron rlo rhi rmo rin res rsi rli rar xgc xca xls xtl xno lco rwa rad rest) (wC cI cJ cZ ad xst xse xre xgr ltm low lta llo lhi lmo rta ron rlo rhi rmo rin res rsi rli rar xgc xca xls xtl xno lco rwa rad rest) r :=
  Ci.of (by decide) (Nat.le_of_ble_eq_true rfl) (fun p e s m below meth c A ls K hP hD hS hl => t_L_countRanges K xst xse xre xgr ltm low lta llo lhi lmo rta ron rlo rhi rmo rin res rsi rli rar xgc xca xls xtl xno lco rwa rad a1 a2 r hF hP hD hS hl)
def F_L_coverRange_L19 (low : Nat → Int32) (lta : Nat → Int32) (llo : Nat → Int64) (lhi : Nat → Int64) (lmo : Nat → Int32) (lco : Int32) (v1 : Int32) (v2 : Int32) (v3 : Int64) (v5 : Int64) (v7 : Int32) : Nat → Int32 → Option (Int32)
  | 0, _ => none
  | n + 1, v8 => if lco ≤ v8 then some 0 else ob1 (F_L_isRound low lta llo lhi v8 v1 v2 v3 v5) (fun r_5 => if r_5 = 0 then F_L_coverRange_L19 low lta llo lhi lmo lco v1 v2 v3 v5 v7 n (v8 + 1) else gd (v8 < 0 ∨ 256 ≤ v8.toNatClampNeg) (ob1 (F_K_rangeCovers (lmo v8.toNatClampNeg) v7) (fun r_8 => if r_8 = 0 then F_L_coverRange_L19 low lta llo lhi lmo lco v1 v2 v3 v5 v7 n (v8 + 1) else some 1)))
def F_L_coverRange (ltm : Nat → Int32) (low : Nat → Int32) (lta : Nat → Int32) (llo : Nat → Int64) (lhi : Nat → Int64) (lmo : Nat → Int32) (lco : Int32) (a1 : Int32) (a2 : Int32) (a3 : Int64) (a4 : Int64) (a5 : Int32) : Option (Int32) :=
  ob1 (F_L_heldMode ltm a1 a2) (fun r_1 => ob1 (F_K_tableCovers r_1 a5) (fun r_2 => if r_2 = 0 then F_L_coverRange_L19 low lta llo lhi lmo lco a1 a2 a3 a4 a5 fu 0 else some 1))
set_option maxHeartbeats 4000000 in
set_option maxRecDepth 100000 in
theorem t_L_coverRange_L19 {p : Program} {l : Launch} {e : Env} {s : State} {m : MethodId} {args : Array Value} {below : List Frame} {meth : Method} {c : Code} {A : Nat → Prop} {g : va_G} {cI cJ cZ : ClassId} {ad : Nat → Nat} {rest : va_W} (K : kX p s m args meth c "LockTable$Locks" prog_2_method_5_code 9 (some .boolean) A g (kty cI cJ cZ)) (xst : Nat → Int32) (xse : Nat → Int32) (xre : Nat → Int32) (xgr : Nat → Int32) (ltm : Nat → Int32) (low : Nat → Int32) (lta : Nat → Int32) (llo : Nat → Int64) (lhi : Nat → Int64) (lmo : Nat → Int32) (rta : Nat → Int32) (ron : Nat → Int32) (rlo : Nat → Int64) (rhi : Nat → Int64) (rmo : Nat → Int32) (rin : Nat → Int32) (res : Nat → Int32) (rsi : Nat → Int32) (rli : Nat → Int32) (rar : Nat → Int32) (xgc : Int32) (xca : Int32) (xls : Int32) (xtl : Int32) (xno : Int32) (lco : Int32) (rwa : Int32) (rad : Int32) (v1 : Int32) (v2 : Int32) (v3 : Int64) (v5 : Int64) (v7 : Int32) : ∀ (n : Nat) (v8 : Int32) (r : Int32) (H : Heap) (locs : List Loc) (ls : Array Slot), F_L_coverRange_L19 low lta llo lhi lmo lco v1 v2 v3 v5 v7 n v8 = some r → va_P g kcl (wC cI cJ cZ ad xst xse xre xgr ltm low lta llo lhi lmo rta ron rlo rhi rmo rin res rsi rli rar xgc xca xls xtl xno lco rwa rad rest) H → va_D A (wC cI cJ cZ ad xst xse xre xgr ltm low lta llo lhi lmo rta ron rlo rhi rmo rin res rsi rli rar xgc xca xls xtl xno lco rwa rad rest) → va_S A s.heap H locs → lv_has ls 9 [(0, .ref (ad 1)), (1, .int v1), (2, .int v2), (3, .long v3), (5, .long v5), (7, .int v7), (8, .int v8)] → W p l e ({ frames := 2, cells := 0, slots := 0, locals := 50 }) s m args below meth c H locs 0 0 (MQ below (kQi g (kty cI cJ cZ) (wC cI cJ cZ ad xst xse xre xgr ltm low lta llo lhi lmo rta ron rlo rhi rmo rin res rsi rli rar xgc xca xls xtl xno lco rwa rad rest) A r) args s 0 0 A) (F0 m 19 ls []) := by
  obtain ⟨hx, hb, hr, hml, hown, hts, hlocks, hK, hA, hE⟩ := id K
  intro n
  induction n with
  | zero =>
    intro v8 r H locs ls hF
    rw [F_L_coverRange_L19] at hF
    cases hF
  | succ n ih =>
    intro v8 r H locs ls hF hP hD hS hl
    rw [F_L_coverRange_L19] at hF
    refine lv_iload hx hb d_L_coverRange_19 (lv_at hl 6 rfl) ?_
    refine lv_aload_n hx hb d_L_coverRange_21 rfl (lv_at hl 0 rfl) ?_
    refine va_get (D := g) (ci := 0) (v := .int lco) (C := kR0) (T := kT0) (N := 7) hx hb hts kw0 hown hK hP 1 rfl rfl 6 (by decide) (hts _ wm_84) (fun _ h9 => h9) rfl d_L_coverRange_22 ?_
    refine lv_icmp_ge (tgt := 65) hx hb d_L_coverRange_25 (by decide) (fun hc_4 => ?_) (fun hc_4 => ?_)
    · have hF := it_t hF hc_4
      refine lv_iconst (v := 0) hx hb d_L_coverRange_65 (by decide) ?_
      cases hF
      exact krz K hP hD hS d_L_coverRange_66 rfl rfl
    · have hF := it_f hF hc_4
      refine lv_aload_n hx hb d_L_coverRange_28 rfl (lv_at hl 0 rfl) ?_
      refine lv_iload hx hb d_L_coverRange_29 (lv_at hl 6 rfl) ?_
      refine lv_iload_n hx hb d_L_coverRange_31 rfl (lv_at hl 1 rfl) ?_
      refine lv_iload_n hx hb d_L_coverRange_32 rfl (lv_at hl 2 rfl) ?_
      refine lv_lload_n hx hb d_L_coverRange_33 rfl (lv_at hl 3 rfl) ?_
      refine lv_lload hx hb d_L_coverRange_34 (lv_at hl 4 rfl) ?_
      obtain ⟨r_5, hG, hF⟩ := ob1_inv hF
      refine kci K hP hD hS (c_L_isRound l g cI cJ cZ ad xst xse xre xgr ltm low lta llo lhi lmo rta ron rlo rhi rmo rin res rsi rli rar xgc xca xls xtl xno lco rwa rad rest v8 v1 v2 v3 v5 r_5 hG) wm_482 wm_479 wm_481 wm_16 wm_48 hd_L_isRound rfl rfl ⟨Nat.le_of_ble_eq_true rfl, Nat.le_of_ble_eq_true rfl⟩ ⟨Nat.zero_le _, Nat.zero_le _⟩ 0 1 rfl rfl rfl hl.1 (rest := []) rfl (Nat.le_of_ble_eq_true rfl) d_L_coverRange_36 (fun H locs hP hD hS => ?_)
      refine lv_if_eq (tgt := 59) hx hb d_L_coverRange_39 (by decide) (fun hc_6 => ?_) (fun hc_6 => ?_)
      · have hF := it_t hF hc_6
        refine lv_iinc (v := v8 + 1) (lv' := [(8, .int (v8 + 1)), (0, .ref (ad 1)), (1, .int v1), (2, .int v2), (3, .long v3), (5, .long v5), (7, .int v7)]) hx hb d_L_coverRange_59 hl (k := 6) rfl rfl (by decide) rfl (fun ls hl => ?_)
        refine lv_goto (tgt := 19) hx hb d_L_coverRange_62 (by decide) ?_
        exact ih _ _ H locs ls hF hP hD hS (lv_sub hl [1, 2, 3, 4, 5, 6, 0] rfl)
      · have hF := it_f hF hc_6
        refine lv_aload_n hx hb d_L_coverRange_42 rfl (lv_at hl 0 rfl) ?_
        refine va_get (D := g) (ci := 0) (v := .ref (ad 12)) (C := kR0) (T := kT0) (N := 7) hx hb hts kw0 hown hK hP 1 rfl rfl 5 (by decide) (hts _ wm_83) (fun _ h9 => h9) rfl d_L_coverRange_43 ?_
        refine lv_iload hx hb d_L_coverRange_46 (lv_at hl 6 rfl) ?_
        obtain ⟨hg_7, hF⟩ := gd_inv hF
        refine va_iald hx hb hK hP 12 0 rfl rfl hg_7 d_L_coverRange_48 ?_
        refine lv_iload hx hb d_L_coverRange_49 (lv_at hl 5 rfl) ?_
        obtain ⟨r_8, hG, hF⟩ := ob1_inv hF
        refine ksi K hP hD hS (c_K_rangeCovers l g (kty cI cJ cZ) (wC cI cJ cZ ad xst xse xre xgr ltm low lta llo lhi lmo rta ron rlo rhi rmo rin res rsi rli rar xgc xca xls xtl xno lco rwa rad rest) (lmo v8.toNatClampNeg) v7 r_8 hG) wm_485 wm_483 wm_484 wm_56 hd_K_rangeCovers rfl rfl ⟨Nat.le_of_ble_eq_true rfl, Nat.le_of_ble_eq_true rfl⟩ ⟨Nat.zero_le _, Nat.zero_le _⟩ hl.1 (rest := []) rfl (Nat.le_of_ble_eq_true rfl) d_L_coverRange_51 (fun H locs hP hD hS => ?_)
        refine lv_if_eq (tgt := 59) hx hb d_L_coverRange_54 (by decide) (fun hc_9 => ?_) (fun hc_9 => ?_)
        · have hF := it_t hF hc_9
          refine lv_iinc (v := v8 + 1) (lv' := [(8, .int (v8 + 1)), (0, .ref (ad 1)), (1, .int v1), (2, .int v2), (3, .long v3), (5, .long v5), (7, .int v7)]) hx hb d_L_coverRange_59 hl (k := 6) rfl rfl (by decide) rfl (fun ls hl => ?_)
          refine lv_goto (tgt := 19) hx hb d_L_coverRange_62 (by decide) ?_
          exact ih _ _ H locs ls hF hP hD hS (lv_sub hl [1, 2, 3, 4, 5, 6, 0] rfl)
        · have hF := it_f hF hc_9
          refine lv_iconst (v := 1) hx hb d_L_coverRange_57 (by decide) ?_
          cases hF
          exact krz K hP hD hS d_L_coverRange_58 rfl rfl
set_option maxHeartbeats 4000000 in
set_option maxRecDepth 100000 in
theorem t_L_coverRange {p : Program} {l : Launch} {e : Env} {s : State} {m : MethodId} {args : Array Value} {below : List Frame} {meth : Method} {c : Code} {A : Nat → Prop} {g : va_G} {cI cJ cZ : ClassId} {ad : Nat → Nat} {rest : va_W} (K : kX p s m args meth c "LockTable$Locks" prog_2_method_5_code 9 (some .boolean) A g (kty cI cJ cZ)) (xst : Nat → Int32) (xse : Nat → Int32) (xre : Nat → Int32) (xgr : Nat → Int32) (ltm : Nat → Int32) (low : Nat → Int32) (lta : Nat → Int32) (llo : Nat → Int64) (lhi : Nat → Int64) (lmo : Nat → Int32) (rta : Nat → Int32) (ron : Nat → Int32) (rlo : Nat → Int64) (rhi : Nat → Int64) (rmo : Nat → Int32) (rin : Nat → Int32) (res : Nat → Int32) (rsi : Nat → Int32) (rli : Nat → Int32) (rar : Nat → Int32) (xgc : Int32) (xca : Int32) (xls : Int32) (xtl : Int32) (xno : Int32) (lco : Int32) (rwa : Int32) (rad : Int32) (a1 : Int32) (a2 : Int32) (a3 : Int64) (a4 : Int64) (a5 : Int32) (r : Int32) (hF : F_L_coverRange ltm low lta llo lhi lmo lco a1 a2 a3 a4 a5 = some r) {H : Heap} {locs : List Loc} {ls : Array Slot} (hP : va_P g kcl (wC cI cJ cZ ad xst xse xre xgr ltm low lta llo lhi lmo rta ron rlo rhi rmo rin res rsi rli rar xgc xca xls xtl xno lco rwa rad rest) H) (hD : va_D A (wC cI cJ cZ ad xst xse xre xgr ltm low lta llo lhi lmo rta ron rlo rhi rmo rin res rsi rli rar xgc xca xls xtl xno lco rwa rad rest)) (hS : va_S A s.heap H locs) (hl : lv_has ls 9 [(0, .ref (ad 1)), (1, .int a1), (2, .int a2), (3, .long a3), (5, .long a4), (7, .int a5)]) : W p l e ({ frames := 2, cells := 0, slots := 0, locals := 50 }) s m args below meth c H locs 0 0 (MQ below (kQi g (kty cI cJ cZ) (wC cI cJ cZ ad xst xse xre xgr ltm low lta llo lhi lmo rta ron rlo rhi rmo rin res rsi rli rar xgc xca xls xtl xno lco rwa rad rest) A r) args s 0 0 A) (F0 m 0 ls []) := by
  obtain ⟨hx, hb, hr, hml, hown, hts, hlocks, hK, hA, hE⟩ := id K
  unfold F_L_coverRange at hF
  refine lv_aload_n hx hb d_L_coverRange_0 rfl (lv_at hl 0 rfl) ?_
  refine lv_iload_n hx hb d_L_coverRange_1 rfl (lv_at hl 1 rfl) ?_
  refine lv_iload_n hx hb d_L_coverRange_2 rfl (lv_at hl 2 rfl) ?_
  obtain ⟨r_1, hG, hF⟩ := ob1_inv hF
  refine kci K hP hD hS (c_L_heldMode l g cI cJ cZ ad xst xse xre xgr ltm low lta llo lhi lmo rta ron rlo rhi rmo rin res rsi rli rar xgc xca xls xtl xno lco rwa rad rest a1 a2 r_1 hG) wm_329 wm_377 wm_327 wm_328 wm_48 hd_L_heldMode rfl rfl ⟨Nat.le_of_ble_eq_true rfl, Nat.le_of_ble_eq_true rfl⟩ ⟨Nat.zero_le _, Nat.zero_le _⟩ 0 1 rfl rfl rfl hl.1 (rest := []) rfl (Nat.le_of_ble_eq_true rfl) d_L_coverRange_3 (fun H locs hP hD hS => ?_)
  refine lv_iload hx hb d_L_coverRange_6 (lv_at hl 5 rfl) ?_
  obtain ⟨r_2, hG, hF⟩ := ob1_inv hF
  refine ksi K hP hD hS (c_K_tableCovers l g (kty cI cJ cZ) (wC cI cJ cZ ad xst xse xre xgr ltm low lta llo lhi lmo rta ron rlo rhi rmo rin res rsi rli rar xgc xca xls xtl xno lco rwa rad rest) r_1 a5 r_2 hG) wm_476 wm_474 wm_475 wm_56 hd_K_tableCovers rfl rfl ⟨Nat.le_of_ble_eq_true rfl, Nat.le_of_ble_eq_true rfl⟩ ⟨Nat.zero_le _, Nat.zero_le _⟩ hl.1 (rest := []) rfl (Nat.le_of_ble_eq_true rfl) d_L_coverRange_8 (fun H locs hP hD hS => ?_)
  refine lv_if_eq (tgt := 16) hx hb d_L_coverRange_11 (by decide) (fun hc_3 => ?_) (fun hc_3 => ?_)
  · have hF := it_t hF hc_3
    refine lv_iconst (v := 0) hx hb d_L_coverRange_16 (by decide) ?_
    refine lv_istore (lv' := [(8, .int 0), (0, .ref (ad 1)), (1, .int a1), (2, .int a2), (3, .long a3), (5, .long a4), (7, .int a5)]) hx hb d_L_coverRange_17 hl (by decide) rfl (fun ls hl => ?_)
    exact t_L_coverRange_L19 K xst xse xre xgr ltm low lta llo lhi lmo rta ron rlo rhi rmo rin res rsi rli rar xgc xca xls xtl xno lco rwa rad a1 a2 a3 a4 a5 fu _ _ H locs ls hF hP hD hS (lv_sub hl [1, 2, 3, 4, 5, 6, 0] rfl)
  · have hF := it_f hF hc_3
    refine lv_iconst (v := 1) hx hb d_L_coverRange_14 (by decide) ?_
    cases hF
    exact krz K hP hD hS d_L_coverRange_15 rfl rfl
theorem c_L_coverRange (l : Launch) (g : va_G) (cI cJ cZ : ClassId) (ad : Nat → Nat) (xst : Nat → Int32) (xse : Nat → Int32) (xre : Nat → Int32) (xgr : Nat → Int32) (ltm : Nat → Int32) (low : Nat → Int32) (lta : Nat → Int32) (llo : Nat → Int64) (lhi : Nat → Int64) (lmo : Nat → Int32) (rta : Nat → Int32) (ron : Nat → Int32) (rlo : Nat → Int64) (rhi : Nat → Int64) (rmo : Nat → Int32) (rin : Nat → Int32) (res : Nat → Int32) (rsi : Nat → Int32) (rli : Nat → Int32) (rar : Nat → Int32) (xgc : Int32) (xca : Int32) (xls : Int32) (xtl : Int32) (xno : Int32) (lco : Int32) (rwa : Int32) (rad : Int32) (rest : va_W) (a1 : Int32) (a2 : Int32) (a3 : Int64) (a4 : Int64) (a5 : Int32) (r : Int32) (hF : F_L_coverRange ltm low lta llo lhi lmo lco a1 a2 a3 a4 a5 = some r) : Ci l y_L_coverRange prog_2_method_5_code 9 (some .boolean) ({ frames := 2, cells := 0, slots := 0, locals := 50 }) [.ref (ad 1), .int a1, .int a2, .long a3, .long a4, .int a5] g (kty cI cJ cZ) (wC cI cJ cZ ad xst xse xre xgr ltm low lta llo lhi lmo rta ron rlo rhi rmo rin res rsi rli rar xgc xca xls xtl xno lco rwa rad rest) (wC cI cJ cZ ad xst xse xre xgr ltm low lta llo lhi lmo rta ron rlo rhi rmo rin res rsi rli rar xgc xca xls xtl xno lco rwa rad rest) r :=
  Ci.of (by decide) (Nat.le_of_ble_eq_true rfl) (fun p e s m below meth c A ls K hP hD hS hl => t_L_coverRange K xst xse xre xgr ltm low lta llo lhi lmo rta ron rlo rhi rmo rin res rsi rli rar xgc xca xls xtl xno lco rwa rad a1 a2 a3 a4 a5 r hF hP hD hS hl)
end
