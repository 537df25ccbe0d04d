theorem wm_60 : Cond.classLink "LockTableLaw" 8 "LockTable" ∈ w_all := w_mem 60 (by decide +kernel) (by decide +kernel)
theorem wm_61 : Cond.instantiable "LockTable" 11 ∈ w_all := w_mem 61 (by decide +kernel) (by decide +kernel)
theorem wm_64 : Cond.code ⟨"LockTable", "<init>", "()V"⟩ prog_1_method_1_code 1 none ∈ w_all := w_mem 64 (by decide +kernel) (by decide +kernel)
theorem wm_62 : Cond.methodLink "LockTableLaw" 75 ⟨"LockTable", "<init>", "()V"⟩ ∈ w_all := w_mem 62 (by decide +kernel) (by decide +kernel)
theorem wm_63 : Cond.instanceMethod ⟨"LockTable", "<init>", "()V"⟩ ∈ w_all := w_mem 63 (by decide +kernel) (by decide +kernel)
theorem wm_665 : Cond.classLink "LockTableLaw" 76 "LockTableModel" ∈ w_all := w_mem 665 (by decide +kernel) (by decide +kernel)
theorem wm_666 : Cond.instantiable "LockTableModel" 25 ∈ w_all := w_mem 666 (by decide +kernel) (by decide +kernel)
theorem wm_669 : Cond.code ⟨"LockTableModel", "<init>", "()V"⟩ prog_6_method_1_code 2 none ∈ w_all := w_mem 669 (by decide +kernel) (by decide +kernel)
theorem wm_667 : Cond.methodLink "LockTableLaw" 78 ⟨"LockTableModel", "<init>", "()V"⟩ ∈ w_all := w_mem 667 (by decide +kernel) (by decide +kernel)
theorem wm_668 : Cond.instanceMethod ⟨"LockTableModel", "<init>", "()V"⟩ ∈ w_all := w_mem 668 (by decide +kernel) (by decide +kernel)
theorem st_stat {args : Array Value} {s : State} {A : Nat → Prop} {n : String} {f : Nat → Int32} (hl : (Cond.laysStatic "LockTable$Modes" n "[I").before args s = true) (hini : (Cond.initialized "LockTable$Modes").before args s = true) (harr : (Cond.arrayOf (.static "LockTable$Modes" n "[I") .int).before args s = true) (hlen : (Cond.eq (.length (.static "LockTable$Modes" n "[I")) (.int 6)).before args s = true)
    (hel : ∀ j : Nat, j < 6 → (Cond.eq (.elem (.static "LockTable$Modes" n "[I") (.int (Int32.ofNat j))) (.int (f j))).before args s = true) (hA : ∀ a : Nat, a < s.heap.size → ¬ A a) : kSt n f A s s.heap := by
  obtain ⟨t, h1, h2⟩ := va_Tof (N := 6) (f := fun j => .int (f j)) (by decide) harr (va_eqt hlen) (fun j hj => va_eqt (hel j hj)) hA
  exact ⟨t, va_Zref hl hini h1 hA, h2⟩
theorem st_str {args : Array Value} {s : State} {k : Nat} {tx : String} (h1 : (Cond.stringRef "LockTable" k tx).before args s = true) (h2 : (Cond.exactly (.string "LockTable" k) "java/lang/String").before args s = true) : ∃ sa : Nat, vk_R "LockTable" k tx sa s := by
  obtain ⟨a, c, cell, kc, he, -⟩ := Cond.exactly_spec h2
  have e1 : (Cond.stringRef "LockTable" k tx).before #[] s = true := by
    have h := h1
    simp only [Cond.before, Cond.holds, Cond.value] at h ⊢
    exact h
  refine ⟨a, e1, ?_⟩
  rw [← he]
  simp only [Term.eval]
theorem st_arr {args : Array Value} {s : State} {ty : FieldType} (hp : ∀ cA : ClassId, s.vm.findClass ("[" ++ ty.toString) = some cA → va_RA s cA ty) (h : (Cond.arrayClass ty).before args s = true) : ∃ cA : ClassId, ArrOfT s cA ty ∧ va_RA s cA ty := by
  obtain ⟨c, k, comp, h1, h2, h3⟩ := Cond.arrayClass_spec h
  exact ⟨c, fun n z => ⟨fun k h => (by cases h), k, h2, comp, h3⟩, hp c h1⟩
set_option maxHeartbeats 8000000 in
set_option maxRecDepth 100000 in
theorem st_kE {s : State} {b : Nat} (hts : ∀ w ∈ lw_tbl, w.before #[Value.ref b] s = true) (hgv : (Jvm.Cond.and given_1 narrow_1).before #[Value.ref b] s = true) : kE (fun q : Nat => s.heap.size ≤ q) s s.heap := by
  have hs := flat_of_before _ hgv
  have hA : ∀ a : Nat, a < s.heap.size → ¬ (fun q : Nat => s.heap.size ≤ q) a := fun a h1 h2 => Nat.not_le.mpr h1 h2
  have h_TOGETHER : kSt "TOGETHER" tgF (fun q : Nat => s.heap.size ≤ q) s s.heap := by
    refine st_stat (hts _ (List.mem_of_getElem? (i := 342) (by decide +kernel))) (hts _ (List.mem_of_getElem? (i := 56) (by decide +kernel))) (hs _ (by decide +kernel)) (hs _ (by decide +kernel)) (fun j hj => ?_) hA
    rcases (show j = 0 ∨ j = 1 ∨ j = 2 ∨ j = 3 ∨ j = 4 ∨ j = 5 by omega) with rfl | rfl | rfl | rfl | rfl | rfl
    · exact hs (.eq (.elem (.static "LockTable$Modes" "TOGETHER" "[I") (.int 0)) (.int 31)) (by decide +kernel)
    · exact hs (.eq (.elem (.static "LockTable$Modes" "TOGETHER" "[I") (.int 1)) (.int 3)) (by decide +kernel)
    · exact hs (.eq (.elem (.static "LockTable$Modes" "TOGETHER" "[I") (.int 2)) (.int 21)) (by decide +kernel)
    · exact hs (.eq (.elem (.static "LockTable$Modes" "TOGETHER" "[I") (.int 3)) (.int 1)) (by decide +kernel)
    · exact hs (.eq (.elem (.static "LockTable$Modes" "TOGETHER" "[I") (.int 4)) (.int 5)) (by decide +kernel)
    · exact hs (.eq (.elem (.static "LockTable$Modes" "TOGETHER" "[I") (.int 5)) (.int 0)) (by decide +kernel)
  have h_BY_TABLE : kSt "BY_TABLE" btF (fun q : Nat => s.heap.size ≤ q) s s.heap := by
    refine st_stat (hts _ (List.mem_of_getElem? (i := 481) (by decide +kernel))) (hts _ (List.mem_of_getElem? (i := 56) (by decide +kernel))) (hs _ (by decide +kernel)) (hs _ (by decide +kernel)) (fun j hj => ?_) hA
    rcases (show j = 0 ∨ j = 1 ∨ j = 2 ∨ j = 3 ∨ j = 4 ∨ j = 5 by omega) with rfl | rfl | rfl | rfl | rfl | rfl
    · exact hs (.eq (.elem (.static "LockTable$Modes" "BY_TABLE" "[I") (.int 0)) (.int 0)) (by decide +kernel)
    · exact hs (.eq (.elem (.static "LockTable$Modes" "BY_TABLE" "[I") (.int 1)) (.int 0)) (by decide +kernel)
    · exact hs (.eq (.elem (.static "LockTable$Modes" "BY_TABLE" "[I") (.int 2)) (.int 4)) (by decide +kernel)
    · exact hs (.eq (.elem (.static "LockTable$Modes" "BY_TABLE" "[I") (.int 3)) (.int 4)) (by decide +kernel)
    · exact hs (.eq (.elem (.static "LockTable$Modes" "BY_TABLE" "[I") (.int 4)) (.int 4)) (by decide +kernel)
    · exact hs (.eq (.elem (.static "LockTable$Modes" "BY_TABLE" "[I") (.int 5)) (.int 52)) (by decide +kernel)
  have h_BY_RANGE : kSt "BY_RANGE" brF (fun q : Nat => s.heap.size ≤ q) s s.heap := by
    refine st_stat (hts _ (List.mem_of_getElem? (i := 490) (by decide +kernel))) (hts _ (List.mem_of_getElem? (i := 56) (by decide +kernel))) (hs _ (by decide +kernel)) (hs _ (by decide +kernel)) (fun j hj => ?_) hA
    rcases (show j = 0 ∨ j = 1 ∨ j = 2 ∨ j = 3 ∨ j = 4 ∨ j = 5 by omega) with rfl | rfl | rfl | rfl | rfl | rfl
    · exact hs (.eq (.elem (.static "LockTable$Modes" "BY_RANGE" "[I") (.int 0)) (.int 0)) (by decide +kernel)
    · exact hs (.eq (.elem (.static "LockTable$Modes" "BY_RANGE" "[I") (.int 1)) (.int 0)) (by decide +kernel)
    · exact hs (.eq (.elem (.static "LockTable$Modes" "BY_RANGE" "[I") (.int 2)) (.int 4)) (by decide +kernel)
    · exact hs (.eq (.elem (.static "LockTable$Modes" "BY_RANGE" "[I") (.int 3)) (.int 0)) (by decide +kernel)
    · exact hs (.eq (.elem (.static "LockTable$Modes" "BY_RANGE" "[I") (.int 4)) (.int 20)) (by decide +kernel)
    · exact hs (.eq (.elem (.static "LockTable$Modes" "BY_RANGE" "[I") (.int 5)) (.int 52)) (by decide +kernel)
  have h_U : vx_Zq Bundle.tN "UNASSIGNED_STACK" Bundle.steD (fun q : Nat => s.heap.size ≤ q) s s.heap := vx_Zqof (hts _ (List.mem_of_getElem? (i := 245) (by decide +kernel))) (hts _ (List.mem_of_getElem? (i := 51) (by decide +kernel))) (hs (.isRef (.static "java/lang/Throwable" "UNASSIGNED_STACK" "[Ljava/lang/StackTraceElement;")) (by decide +kernel)) hA
  have h_N : vx_Zq Bundle.tN "SUPPRESSED_SENTINEL" Bundle.listD (fun q : Nat => s.heap.size ≤ q) s s.heap := vx_Zqof (hts _ (List.mem_of_getElem? (i := 247) (by decide +kernel))) (hts _ (List.mem_of_getElem? (i := 51) (by decide +kernel))) (hs (.isRef (.static "java/lang/Throwable" "SUPPRESSED_SENTINEL" "Ljava/util/List;")) (by decide +kernel)) hA
  refine ⟨⟨h_TOGETHER, h_BY_TABLE, h_BY_RANGE⟩, ⟨h_U, h_N⟩, ?_, ?_, ?_⟩
  · intro q hq
    simp only [kStr, List.mem_cons, List.not_mem_nil, or_false] at hq
    rcases hq with rfl | rfl | rfl | rfl | rfl | rfl | rfl | rfl | rfl | rfl | rfl | rfl | rfl
    · exact st_str (hts _ (List.mem_of_getElem? (i := 259) (by decide +kernel))) (hs (.exactly (.string "LockTable" 207) "java/lang/String") (by decide +kernel))
    · exact st_str (hts _ (List.mem_of_getElem? (i := 295) (by decide +kernel))) (hs (.exactly (.string "LockTable" 52) "java/lang/String") (by decide +kernel))
    · exact st_str (hts _ (List.mem_of_getElem? (i := 316) (by decide +kernel))) (hs (.exactly (.string "LockTable" 209) "java/lang/String") (by decide +kernel))
    · exact st_str (hts _ (List.mem_of_getElem? (i := 320) (by decide +kernel))) (hs (.exactly (.string "LockTable" 211) "java/lang/String") (by decide +kernel))
    · exact st_str (hts _ (List.mem_of_getElem? (i := 325) (by decide +kernel))) (hs (.exactly (.string "LockTable" 219) "java/lang/String") (by decide +kernel))
    · exact st_str (hts _ (List.mem_of_getElem? (i := 452) (by decide +kernel))) (hs (.exactly (.string "LockTable" 213) "java/lang/String") (by decide +kernel))
    · exact st_str (hts _ (List.mem_of_getElem? (i := 453) (by decide +kernel))) (hs (.exactly (.string "LockTable" 215) "java/lang/String") (by decide +kernel))
    · exact st_str (hts _ (List.mem_of_getElem? (i := 466) (by decide +kernel))) (hs (.exactly (.string "LockTable" 103) "java/lang/String") (by decide +kernel))
    · exact st_str (hts _ (List.mem_of_getElem? (i := 523) (by decide +kernel))) (hs (.exactly (.string "LockTable" 125) "java/lang/String") (by decide +kernel))
    · exact st_str (hts _ (List.mem_of_getElem? (i := 535) (by decide +kernel))) (hs (.exactly (.string "LockTable" 221) "java/lang/String") (by decide +kernel))
    · exact st_str (hts _ (List.mem_of_getElem? (i := 569) (by decide +kernel))) (hs (.exactly (.string "LockTable" 146) "java/lang/String") (by decide +kernel))
    · exact st_str (hts _ (List.mem_of_getElem? (i := 584) (by decide +kernel))) (hs (.exactly (.string "LockTable" 217) "java/lang/String") (by decide +kernel))
    · exact st_str (hts _ (List.mem_of_getElem? (i := 649) (by decide +kernel))) (hs (.exactly (.string "LockTable" 179) "java/lang/String") (by decide +kernel))
  · intro w hw
    simp only [kBad, List.mem_cons, List.not_mem_nil, or_false] at hw
    rcases hw with rfl | rfl | rfl | rfl | rfl | rfl
    · exact va_Nw.of rfl (hts _ (List.mem_of_getElem? (i := 222) (by decide +kernel)))
    · exact va_Nw.of rfl (hts _ (List.mem_of_getElem? (i := 224) (by decide +kernel)))
    · exact va_Nw.of rfl (hts _ (List.mem_of_getElem? (i := 226) (by decide +kernel)))
    · exact va_Nw.of rfl (hts _ (List.mem_of_getElem? (i := 220) (by decide +kernel)))
    · exact va_Nw.of rfl (hts _ (List.mem_of_getElem? (i := 288) (by decide +kernel)))
    · exact va_Nw.of rfl (hts _ (List.mem_of_getElem? (i := 459) (by decide +kernel)))
  · intro q hq
    simp only [kNc, List.mem_cons, List.not_mem_nil, or_false] at hq
    rcases hq with rfl | rfl | rfl
    · exact va_Nc.of (hs (.not (.castable "java/lang/IllegalStateException" "java/lang/IllegalArgumentException")) (by decide +kernel))
    · exact va_Nc.of (hs (.not (.castable "java/lang/UnsupportedOperationException" "java/lang/IllegalArgumentException")) (by decide +kernel))
    · exact va_Nc.of (hs (.not (.castable "java/lang/UnsupportedOperationException" "java/lang/IllegalStateException")) (by decide +kernel))
set_option maxHeartbeats 8000000 in
set_option maxRecDepth 100000 in
theorem whole_start0 {p : Program} {e : Env} {s : State} {m : MethodId} {below : List Frame} {meth : Method} {c : Code} (l : Launch) (hlt : l.stackTraces = false) {b L : Nat} {xs : Nat → Int32} {Rel : RelT} (hst_begin : St_begin Rel) (hst_table : St_table Rel) (hst_range : St_range Rel) (hst_escalate : St_escalate Rel) (hst_cancel : St_cancel Rel) (hst_prepare : St_prepare Rel) (hst_unread : St_unread Rel) (hst_end : St_end Rel) (hst_limit : St_limit Rel) (hst_tick : St_tick Rel) (hst_state : St_state Rel) (hst_serial : St_serial Rel) (hst_ranges : St_ranges Rel) (hst_all : St_all Rel) (hst_mode : St_mode Rel) (hst_right : St_right Rel) (hst_queue : St_queue Rel) (hst_wants : St_wants Rel) (hst_behind : St_behind Rel) (hst_granted : St_granted Rel) (hst_join : St_join Rel) (hmono : ∀ (N : Nat) (xst : Nat → Int32) (xse : Nat → Int32) (xre : Nat → Int32) (xgr : Nat → Int32) (ltm : Nat → Int32) (low : Nat → Int32) (lta : Nat → Int32) (llo : Nat → Int64) (lhi : Nat → Int64) (lmo : Nat → Int32) (rta : Nat → Int32) (ron : Nat → Int32) (rlo : Nat → Int64) (rhi : Nat → Int64) (rmo : Nat → Int32) (rin : Nat → Int32) (res : Nat → Int32) (rsi : Nat → Int32) (rli : Nat → Int32) (rar : Nat → Int32) (xgc : Int32) (xca : Int32) (xls : Int32) (xtl : Int32) (xno : Int32) (lco : Int32) (rwa : Int32) (rad : Int32) (mth : Int32) (mst : Nat → Int32) (mse : Nat → Int32) (mla : Int32) (mmo : Nat → Int32) (mrc : Int32) (mro : Nat → Int32) (mrt : Nat → Int32) (mrm : Nat → Int32) (mrl : Nat → Int64) (mrh : Nat → Int64) (mwk : Nat → Int32) (mwt : Nat → Int32) (mwm : Nat → Int32) (mwl : Nat → Int64) (mwh : Nat → Int64) (mwi : Nat → Int32) (mwc : Nat → Int32) (mwx : Nat → Int32) (mar : Int32) (mli : Int32) (mgr : Int32) (mgo : Nat → Int32) (mre : Nat → Int32) (mfr : Int32), Rel N xst xse xre xgr ltm low lta llo lhi lmo rta ron rlo rhi rmo rin res rsi rli rar xgc xca xls xtl xno lco rwa rad mth mst mse mla mmo mrc mro mrt mrm mrl mrh mwk mwt mwm mwl mwh mwi mwc mwx mar mli mgr mgo mre mfr → Rel (N + 1) xst xse xre xgr ltm low lta llo lhi lmo rta ron rlo rhi rmo rin res rsi rli rar xgc xca xls xtl xno lco rwa rad mth mst mse mla mmo mrc mro mrt mrm mrl mrh mwk mwt mwm mwl mwh mwi mwc mwx mar mli mgr mgo mre mfr) (hinit : Rel 0 (fun _ => 0) (fillF (fun _ => 0) (-1) 8) (fun _ => 0) (fun _ => 0) (fillF (fun _ => 0) (-1) 128) (fun _ => 0) (fun _ => 0) (fun _ => 0) (fun _ => 0) (fun _ => 0) (fun _ => 0) (fun _ => 0) (fun _ => 0) (fun _ => 0) (fun _ => 0) (fun _ => 0) (fun _ => 0) (fun _ => 0) (fun _ => 0) (fun _ => 0) 0 (-1) 0 0 0 0 0 0 0 (fun _ => 0) (fun _ => 0) 0 (fillF (fun _ => 0) (-1) 128) 0 (fun _ => 0) (fun _ => 0) (fun _ => 0) (fun _ => 0) (fun _ => 0) (fun _ => 0) (fun _ => 0) (fun _ => 0) (fun _ => 0) (fun _ => 0) (fun _ => 0) (fun _ => 0) (fun _ => 0) 0 0 0 (fun _ => 0) (fun _ => 0) 0) (hL : L ≤ 4096) (C0 : lw_At p s m meth c b L xs) : W p l e room_1 s m #[Value.ref b] below meth c s.heap [] 0 0 (lw_Z below #[Value.ref b] s) (entryFrame m ([Value.ref b] : List Value).toArray 7) := by
  obtain ⟨hx, hb, hr, hml, hown, hts, hX, hbl, hlocks, hgv⟩ := id C0
  have hbA : ¬ (fun q : Nat => s.heap.size ≤ q) b := Nat.not_le.mpr hbl
  obtain ⟨c0, iS0, hKn0⟩ := u_known (C := kR0) (T := kT0) (N := 7) (n := 7) hts (fun w h => (List.mem_filter.mp (kw0 w h)).1) (hts _ (List.mem_of_getElem? (i := 72) (by decide +kernel)))
  obtain ⟨c1, iS1, hKn1⟩ := u_known (C := kR1) (T := kT1) (N := 12) (n := 12) hts (fun w h => (List.mem_filter.mp (kw1 w h)).1) (hts _ (List.mem_of_getElem? (i := 103) (by decide +kernel)))
  obtain ⟨c2, iS2, hKn2⟩ := u_known (C := kR2) (T := kT2) (N := 11) (n := 11) hts (fun w h => (List.mem_filter.mp (kw2 w h)).1) (hts _ (List.mem_of_getElem? (i := 61) (by decide +kernel)))
  obtain ⟨c3, iS3, hKn3⟩ := u_known (C := kR3) (T := kT3) (N := 25) (n := 25) hts (fun w h => (List.mem_filter.mp (kw3 w h)).1) (hts _ (List.mem_of_getElem? (i := 666) (by decide +kernel)))
  obtain ⟨dC, dI, hKc⟩ : ∃ (dC : Nat → ClassId) (dI : Nat → Nat → Nat), ∀ (k : Nat) (q : vw_C), kcl[k]? = some q → u_Kn s q.1 q.2.1 q.2.2 (dC k) (dI k) := by
    refine ⟨fun k => if k = 0 then c0 else if k = 1 then c1 else if k = 2 then c2 else c3, fun k => if k = 0 then iS0 else if k = 1 then iS1 else if k = 2 then iS2 else iS3, ?_⟩
    intro k q hq
    match k, hq with
    | 0, hq => cases hq; exact hKn0
    | 1, hq => cases hq; exact hKn1
    | 2, hq => cases hq; exact hKn2
    | 3, hq => cases hq; exact hKn3
    | k + 4, hq => simp [kcl] at hq
  obtain ⟨cI, hAcI, hBcI⟩ := st_arr (ty := .int) (fun _ h => h) (hts _ (List.mem_of_getElem? (i := 100) (by decide +kernel)))
  obtain ⟨cJ, hAcJ, hBcJ⟩ := st_arr (ty := .long) (fun _ h => h) (hts _ (List.mem_of_getElem? (i := 101) (by decide +kernel)))
  obtain ⟨cZ, hAcZ, hBcZ⟩ := st_arr (ty := .boolean) (fun _ h => h) (hts _ (List.mem_of_getElem? (i := 155) (by decide +kernel)))
  have hK : va_K (dC, dI) kcl (kty cI cJ cZ) s := by
    refine ⟨hKc, fun k q h => ?_⟩
    match k, h with
    | 0, h => cases h; exact ⟨hAcI, hBcI⟩
    | 1, h => cases h; exact ⟨hAcJ, hBcJ⟩
    | 2, h => cases h; exact ⟨hAcZ, hBcZ⟩
    | k + 3, h => simp [kty] at h
  have K : kX p s m #[Value.ref b] meth c "LockTableLaw" code 7 ret (fun q : Nat => s.heap.size ≤ q) (dC, dI) (kty cI cJ cZ) := ⟨hx, hb, hr, hml, hown, fun w h => hts w (List.mem_filter.mp h).1, hlocks, hK, fun _ h => h, st_kE hts hgv⟩
  have hts : ∀ w ∈ w_all, w.before #[Value.ref b] s = true := fun w h => hts w (List.mem_filter.mp h).1
  have hA : ∀ q : Nat, s.heap.size ≤ q → (fun q : Nat => s.heap.size ≤ q) q := fun _ h => h
  have hS : va_S (fun q : Nat => s.heap.size ≤ q) s.heap s.heap [] := va_S.rf
  have hP : va_P (dC, dI) kcl [] s.heap := fun k q h => by simp at h
  have hD : va_D (fun q : Nat => s.heap.size ≤ q) [] := ⟨fun i j p q h => by simp at h, fun k q h => by simp at h⟩
  have hl := lv_entry ([.ref b]) (n := 7) (Nat.le_of_ble_eq_true rfl)
  rw [lg_entry_eq]
  generalize (lg_sl ([.ref b]) ++ List.replicate (7 - (lg_sl ([.ref b])).length) Slot.unset).toArray = ls at hl ⊢
  have hl : lv_has ls 7 [(0, .ref b)] := hl
  refine va_new (ci := 2) (fs := [.null, .null, .null, .null, .null, .null, .int 0, .int 0, .int 0, .int 0, .int 0]) (C := kR2) (T := kT2) (N := 11) hx hb hts kw2 kt2 ko2 hown (hts _ wm_60) (hts _ wm_61) (hts _ wm_46) hK hP hD hS hA rfl (fun j hj => by rcases (show j = 0 ∨ j = 1 ∨ j = 2 ∨ j = 3 ∨ j = 4 ∨ j = 5 ∨ j = 6 ∨ j = 7 ∨ j = 8 ∨ j = 9 ∨ j = 10 by omega) with rfl | rfl | rfl | rfl | rfl | rfl | rfl | rfl | rfl | rfl | rfl <;> rfl) (Nat.le_of_ble_eq_true rfl) (Nat.le_of_ble_eq_true rfl) d_W_law_0 (fun qx H hP hD hS => ?_)
  have hP : va_P (dC, dI) kcl [(qx, .inr (2, [.null, .null, .null, .null, .null, .null, .int 0, .int 0, .int 0, .int 0, .int 0]))] H := hP
  have hD : va_D (fun q : Nat => s.heap.size ≤ q) [(qx, .inr (2, [.null, .null, .null, .null, .null, .null, .int 0, .int 0, .int 0, .int 0, .int 0]))] := hD
  refine lv_dup hx hb d_W_law_3 rfl ?_
  refine kcn (wr := []) K hP hD hS (c_T_init l (dC, dI) cI cJ cZ qx) [0] [] rfl rfl (by decide) rfl (by decide) (by decide) wm_64 wm_62 wm_63 wm_46 rfl hd_T_init rfl rfl ⟨Nat.le_of_ble_eq_true rfl, Nat.le_of_ble_eq_true rfl⟩ ⟨Nat.le_of_ble_eq_true rfl, Nat.le_of_ble_eq_true rfl⟩ hl.1 (rest := [.ref qx]) rfl (Nat.le_of_ble_eq_true rfl) d_W_law_4 (fun ad H locs h0ad hP hD hS => ?_)
  have hP : va_P (dC, dI) kcl (wC cI cJ cZ ad (fun _ => 0) (fillF (fun _ => 0) (-1) 8) (fun _ => 0) (fun _ => 0) (fillF (fun _ => 0) (-1) 128) (fun _ => 0) (fun _ => 0) (fun _ => 0) (fun _ => 0) (fun _ => 0) (fun _ => 0) (fun _ => 0) (fun _ => 0) (fun _ => 0) (fun _ => 0) (fun _ => 0) (fun _ => 0) (fun _ => 0) (fun _ => 0) (fun _ => 0) 0 (-1) 0 0 0 0 0 0 []) H := hP
  have hD : va_D (fun q : Nat => s.heap.size ≤ q) (wC cI cJ cZ ad (fun _ => 0) (fillF (fun _ => 0) (-1) 8) (fun _ => 0) (fun _ => 0) (fillF (fun _ => 0) (-1) 128) (fun _ => 0) (fun _ => 0) (fun _ => 0) (fun _ => 0) (fun _ => 0) (fun _ => 0) (fun _ => 0) (fun _ => 0) (fun _ => 0) (fun _ => 0) (fun _ => 0) (fun _ => 0) (fun _ => 0) (fun _ => 0) (fun _ => 0) 0 (-1) 0 0 0 0 0 0 []) := hD
  refine lv_astore_n (lv' := [(1, .ref qx), (0, .ref b)]) hx hb d_W_law_7 rfl hl (by decide) rfl (fun ls hl => ?_)
  refine va_new (ci := 3) (fs := [.int 0, .null, .null, .int 0, .null, .int 0, .null, .null, .null, .null, .null, .null, .null, .null, .null, .null, .null, .null, .null, .int 0, .int 0, .int 0, .null, .null, .int 0]) (C := kR3) (T := kT3) (N := 25) hx hb hts kw3 kt3 ko3 hown (hts _ wm_665) (hts _ wm_666) (hts _ wm_50) hK hP hD hS hA rfl (fun j hj => by rcases (show j = 0 ∨ j = 1 ∨ j = 2 ∨ j = 3 ∨ j = 4 ∨ j = 5 ∨ j = 6 ∨ j = 7 ∨ j = 8 ∨ j = 9 ∨ j = 10 ∨ j = 11 ∨ j = 12 ∨ j = 13 ∨ j = 14 ∨ j = 15 ∨ j = 16 ∨ j = 17 ∨ j = 18 ∨ j = 19 ∨ j = 20 ∨ j = 21 ∨ j = 22 ∨ j = 23 ∨ j = 24 by omega) with rfl | rfl | rfl | rfl | rfl | rfl | rfl | rfl | rfl | rfl | rfl | rfl | rfl | rfl | rfl | rfl | rfl | rfl | rfl | rfl | rfl | rfl | rfl | rfl | rfl <;> rfl) (Nat.le_of_ble_eq_true rfl) (Nat.le_of_ble_eq_true rfl) d_W_law_8 (fun qm H hP hD hS => ?_)
  have hP : va_P (dC, dI) kcl (wC cI cJ cZ ad (fun _ => 0) (fillF (fun _ => 0) (-1) 8) (fun _ => 0) (fun _ => 0) (fillF (fun _ => 0) (-1) 128) (fun _ => 0) (fun _ => 0) (fun _ => 0) (fun _ => 0) (fun _ => 0) (fun _ => 0) (fun _ => 0) (fun _ => 0) (fun _ => 0) (fun _ => 0) (fun _ => 0) (fun _ => 0) (fun _ => 0) (fun _ => 0) (fun _ => 0) 0 (-1) 0 0 0 0 0 0 [(qm, .inr (3, [.int 0, .null, .null, .int 0, .null, .int 0, .null, .null, .null, .null, .null, .null, .null, .null, .null, .null, .null, .null, .null, .int 0, .int 0, .int 0, .null, .null, .int 0]))]) H := hP
  have hD : va_D (fun q : Nat => s.heap.size ≤ q) (wC cI cJ cZ ad (fun _ => 0) (fillF (fun _ => 0) (-1) 8) (fun _ => 0) (fun _ => 0) (fillF (fun _ => 0) (-1) 128) (fun _ => 0) (fun _ => 0) (fun _ => 0) (fun _ => 0) (fun _ => 0) (fun _ => 0) (fun _ => 0) (fun _ => 0) (fun _ => 0) (fun _ => 0) (fun _ => 0) (fun _ => 0) (fun _ => 0) (fun _ => 0) (fun _ => 0) 0 (-1) 0 0 0 0 0 0 [(qm, .inr (3, [.int 0, .null, .null, .int 0, .null, .int 0, .null, .null, .null, .null, .null, .null, .null, .null, .null, .null, .null, .null, .null, .int 0, .int 0, .int 0, .null, .null, .int 0]))]) := hD
  refine lv_dup hx hb d_W_law_11 rfl ?_
  refine kcn (wr := (wC cI cJ cZ ad (fun _ => 0) (fillF (fun _ => 0) (-1) 8) (fun _ => 0) (fun _ => 0) (fillF (fun _ => 0) (-1) 128) (fun _ => 0) (fun _ => 0) (fun _ => 0) (fun _ => 0) (fun _ => 0) (fun _ => 0) (fun _ => 0) (fun _ => 0) (fun _ => 0) (fun _ => 0) (fun _ => 0) (fun _ => 0) (fun _ => 0) (fun _ => 0) (fun _ => 0) 0 (-1) 0 0 0 0 0 0 [])) K hP hD hS (c_M_init l (dC, dI) cI cJ cZ qm) [23] [0, 1, 2, 3, 4, 5, 6, 7, 8, 9, 10, 11, 12, 13, 14, 15, 16, 17, 18, 19, 20, 21, 22] rfl rfl (by decide) rfl (by decide) (by decide) wm_669 wm_667 wm_668 wm_50 rfl hd_M_init rfl rfl ⟨Nat.le_of_ble_eq_true rfl, Nat.le_of_ble_eq_true rfl⟩ ⟨Nat.le_of_ble_eq_true rfl, Nat.le_of_ble_eq_true rfl⟩ hl.1 (rest := [.ref qm]) rfl (Nat.le_of_ble_eq_true rfl) d_W_law_12 (fun bd H locs h0bd hP hD hS => ?_)
  have hP : va_P (dC, dI) kcl (wC cI cJ cZ ad (fun _ => 0) (fillF (fun _ => 0) (-1) 8) (fun _ => 0) (fun _ => 0) (fillF (fun _ => 0) (-1) 128) (fun _ => 0) (fun _ => 0) (fun _ => 0) (fun _ => 0) (fun _ => 0) (fun _ => 0) (fun _ => 0) (fun _ => 0) (fun _ => 0) (fun _ => 0) (fun _ => 0) (fun _ => 0) (fun _ => 0) (fun _ => 0) (fun _ => 0) 0 (-1) 0 0 0 0 0 0 (wM cI cJ cZ bd 0 (fun _ => 0) (fun _ => 0) 0 (fillF (fun _ => 0) (-1) 128) 0 (fun _ => 0) (fun _ => 0) (fun _ => 0) (fun _ => 0) (fun _ => 0) (fun _ => 0) (fun _ => 0) (fun _ => 0) (fun _ => 0) (fun _ => 0) (fun _ => 0) (fun _ => 0) (fun _ => 0) 0 0 0 (fun _ => 0) (fun _ => 0) 0 [])) H := hP
  have hD : va_D (fun q : Nat => s.heap.size ≤ q) (wC cI cJ cZ ad (fun _ => 0) (fillF (fun _ => 0) (-1) 8) (fun _ => 0) (fun _ => 0) (fillF (fun _ => 0) (-1) 128) (fun _ => 0) (fun _ => 0) (fun _ => 0) (fun _ => 0) (fun _ => 0) (fun _ => 0) (fun _ => 0) (fun _ => 0) (fun _ => 0) (fun _ => 0) (fun _ => 0) (fun _ => 0) (fun _ => 0) (fun _ => 0) (fun _ => 0) 0 (-1) 0 0 0 0 0 0 (wM cI cJ cZ bd 0 (fun _ => 0) (fun _ => 0) 0 (fillF (fun _ => 0) (-1) 128) 0 (fun _ => 0) (fun _ => 0) (fun _ => 0) (fun _ => 0) (fun _ => 0) (fun _ => 0) (fun _ => 0) (fun _ => 0) (fun _ => 0) (fun _ => 0) (fun _ => 0) (fun _ => 0) (fun _ => 0) 0 0 0 (fun _ => 0) (fun _ => 0) 0 [])) := hD
  refine lv_astore_n (lv' := [(2, .ref qm), (1, .ref qx), (0, .ref b)]) hx hb d_W_law_15 rfl hl (by decide) rfl (fun ls hl => ?_)
  refine lv_iconst (v := 1) hx hb d_W_law_16 (by decide) ?_
  refine kna (N := 1) (a0 := (1, .inr (.inl (fun _ => 0)))) (t0 := 1) (ty := .long) K hP hD hS rfl wm_101 rfl (fun c1 c2 h1 h2 => Option.some.inj (h1.symm.trans h2)) (fun _ => rfl) (by decide) (by decide) (by decide) (Nat.le_of_ble_eq_true rfl) (Nat.le_of_ble_eq_true rfl) d_W_law_17 (fun ao H hP hD hS => ?_)
  have hP : va_P (dC, dI) kcl (wC cI cJ cZ ad (fun _ => 0) (fillF (fun _ => 0) (-1) 8) (fun _ => 0) (fun _ => 0) (fillF (fun _ => 0) (-1) 128) (fun _ => 0) (fun _ => 0) (fun _ => 0) (fun _ => 0) (fun _ => 0) (fun _ => 0) (fun _ => 0) (fun _ => 0) (fun _ => 0) (fun _ => 0) (fun _ => 0) (fun _ => 0) (fun _ => 0) (fun _ => 0) (fun _ => 0) 0 (-1) 0 0 0 0 0 0 ((ao, .inl (cJ, 1, .inr (.inl (fun _ => 0)))) :: wM cI cJ cZ bd 0 (fun _ => 0) (fun _ => 0) 0 (fillF (fun _ => 0) (-1) 128) 0 (fun _ => 0) (fun _ => 0) (fun _ => 0) (fun _ => 0) (fun _ => 0) (fun _ => 0) (fun _ => 0) (fun _ => 0) (fun _ => 0) (fun _ => 0) (fun _ => 0) (fun _ => 0) (fun _ => 0) 0 0 0 (fun _ => 0) (fun _ => 0) 0 [])) H := hP.sub [0, 1, 2, 3, 4, 5, 6, 7, 8, 9, 10, 11, 12, 13, 14, 15, 16, 17, 18, 19, 20, 21, 22, 42, 23, 24, 25, 26, 27, 28, 29, 30, 31, 32, 33, 34, 35, 36, 37, 38, 39, 40, 41] rfl
  have hD : va_D (fun q : Nat => s.heap.size ≤ q) (wC cI cJ cZ ad (fun _ => 0) (fillF (fun _ => 0) (-1) 8) (fun _ => 0) (fun _ => 0) (fillF (fun _ => 0) (-1) 128) (fun _ => 0) (fun _ => 0) (fun _ => 0) (fun _ => 0) (fun _ => 0) (fun _ => 0) (fun _ => 0) (fun _ => 0) (fun _ => 0) (fun _ => 0) (fun _ => 0) (fun _ => 0) (fun _ => 0) (fun _ => 0) (fun _ => 0) 0 (-1) 0 0 0 0 0 0 ((ao, .inl (cJ, 1, .inr (.inl (fun _ => 0)))) :: wM cI cJ cZ bd 0 (fun _ => 0) (fun _ => 0) 0 (fillF (fun _ => 0) (-1) 128) 0 (fun _ => 0) (fun _ => 0) (fun _ => 0) (fun _ => 0) (fun _ => 0) (fun _ => 0) (fun _ => 0) (fun _ => 0) (fun _ => 0) (fun _ => 0) (fun _ => 0) (fun _ => 0) (fun _ => 0) 0 0 0 (fun _ => 0) (fun _ => 0) 0 [])) := hD.sub [0, 1, 2, 3, 4, 5, 6, 7, 8, 9, 10, 11, 12, 13, 14, 15, 16, 17, 18, 19, 20, 21, 22, 42, 23, 24, 25, 26, 27, 28, 29, 30, 31, 32, 33, 34, 35, 36, 37, 38, 39, 40, 41] (by decide) rfl
  refine lv_astore_n (lv' := [(3, .ref ao), (2, .ref qm), (1, .ref qx), (0, .ref b)]) hx hb d_W_law_19 rfl hl (by decide) rfl (fun ls hl => ?_)
  refine lv_iconst (v := 0) hx hb d_W_law_20 (by decide) ?_
  refine lv_istore (lv' := [(4, .int 0), (3, .ref ao), (2, .ref qm), (1, .ref qx), (0, .ref b)]) hx hb d_W_law_21 hl (by decide) rfl (fun ls hl => ?_)
  rw [← h0ad, ← h0bd] at hl
  exact law_loop K hlt hX hbl hbA (fun _ h => h) hst_begin hst_table hst_range hst_escalate hst_cancel hst_prepare hst_unread hst_end hst_limit hst_tick hst_state hst_serial hst_ranges hst_all hst_mode hst_right hst_queue hst_wants hst_behind hst_granted hst_join hmono hL 514 0 0 (fun _ => 0) (fillF (fun _ => 0) (-1) 8) (fun _ => 0) (fun _ => 0) (fillF (fun _ => 0) (-1) 128) (fun _ => 0) (fun _ => 0) (fun _ => 0) (fun _ => 0) (fun _ => 0) (fun _ => 0) (fun _ => 0) (fun _ => 0) (fun _ => 0) (fun _ => 0) (fun _ => 0) (fun _ => 0) (fun _ => 0) (fun _ => 0) (fun _ => 0) 0 (-1) 0 0 0 0 0 0 0 (fun _ => 0) (fun _ => 0) 0 (fillF (fun _ => 0) (-1) 128) 0 (fun _ => 0) (fun _ => 0) (fun _ => 0) (fun _ => 0) (fun _ => 0) (fun _ => 0) (fun _ => 0) (fun _ => 0) (fun _ => 0) (fun _ => 0) (fun _ => 0) (fun _ => 0) (fun _ => 0) 0 0 0 (fun _ => 0) (fun _ => 0) 0 (fun _ => 0) _ _ H _ ls rfl (by omega) (by omega) (by decide) (by decide) hinit hP hD hS (lv_sub hl [4, 3, 2, 1, 0] rfl)
