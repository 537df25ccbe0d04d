set_option maxHeartbeats 8000000 in
set_option maxRecDepth 100000 in
theorem law_loop {p : Program} {l : Launch} {e : Env} {s : State} {m : MethodId} {below : List Frame} {meth : Method} {c : Code} {A : Nat → Prop} {g : va_G} {cI cJ cZ : ClassId} {b L : Nat} {xs : Nat → Int32} {Rel : RelT} (K : kX p s m #[Value.ref b] meth c "LockTableLaw" code 7 ret A g (kty cI cJ cZ)) (hlt : l.stackTraces = false) (hX : va_X b L xs s s.heap) (hbl : b < s.heap.size) (hbA : ¬ A b) (hAs : ∀ q, A q → s.heap.size ≤ q) (hst_begin : St_begin Rel) (hst_table : St_table Rel) (hst_range : St_range Rel) (hst_escalate : St_escalate Rel) (hst_cancel : St_cancel Rel) (hst_prepare : St_prepare Rel) (hst_unread : St_unread Rel) (hst_end : St_end Rel) (hst_limit : St_limit Rel) (hst_tick : St_tick Rel) (hst_state : St_state Rel) (hst_serial : St_serial Rel) (hst_ranges : St_ranges Rel) (hst_all : St_all Rel) (hst_mode : St_mode Rel) (hst_right : St_right Rel) (hst_queue : St_queue Rel) (hst_wants : St_wants Rel) (hst_behind : St_behind Rel) (hst_granted : St_granted Rel) (hst_join : St_join Rel) (hmono : ∀ (N : Nat) (xst : Nat → Int32) (xse : Nat → Int32) (xre : Nat → Int32) (xgr : Nat → Int32) (ltm : Nat → Int32) (low : Nat → Int32) (lta : Nat → Int32) (llo : Nat → Int64) (lhi : Nat → Int64) (lmo : Nat → Int32) (rta : Nat → Int32) (ron : Nat → Int32) (rlo : Nat → Int64) (rhi : Nat → Int64) (rmo : Nat → Int32) (rin : Nat → Int32) (res : Nat → Int32) (rsi : Nat → Int32) (rli : Nat → Int32) (rar : Nat → Int32) (xgc : Int32) (xca : Int32) (xls : Int32) (xtl : Int32) (xno : Int32) (lco : Int32) (rwa : Int32) (rad : Int32) (mth : Int32) (mst : Nat → Int32) (mse : Nat → Int32) (mla : Int32) (mmo : Nat → Int32) (mrc : Int32) (mro : Nat → Int32) (mrt : Nat → Int32) (mrm : Nat → Int32) (mrl : Nat → Int64) (mrh : Nat → Int64) (mwk : Nat → Int32) (mwt : Nat → Int32) (mwm : Nat → Int32) (mwl : Nat → Int64) (mwh : Nat → Int64) (mwi : Nat → Int32) (mwc : Nat → Int32) (mwx : Nat → Int32) (mar : Int32) (mli : Int32) (mgr : Int32) (mgo : Nat → Int32) (mre : Nat → Int32) (mfr : Int32), Rel N xst xse xre xgr ltm low lta llo lhi lmo rta ron rlo rhi rmo rin res rsi rli rar xgc xca xls xtl xno lco rwa rad mth mst mse mla mmo mrc mro mrt mrm mrl mrh mwk mwt mwm mwl mwh mwi mwc mwx mar mli mgr mgo mre mfr → Rel (N + 1) xst xse xre xgr ltm low lta llo lhi lmo rta ron rlo rhi rmo rin res rsi rli rar xgc xca xls xtl xno lco rwa rad mth mst mse mla mmo mrc mro mrt mrm mrl mrh mwk mwt mwm mwl mwh mwi mwc mwx mar mli mgr mgo mre mfr) {ad bd : Nat → Nat} {ao : Nat} (hL : L ≤ 4096) : ∀ (n i N : Nat) (xst : Nat → Int32) (xse : Nat → Int32) (xre : Nat → Int32) (xgr : Nat → Int32) (ltm : Nat → Int32) (low : Nat → Int32) (lta : Nat → Int32) (llo : Nat → Int64) (lhi : Nat → Int64) (lmo : Nat → Int32) (rta : Nat → Int32) (ron : Nat → Int32) (rlo : Nat → Int64) (rhi : Nat → Int64) (rmo : Nat → Int32) (rin : Nat → Int32) (res : Nat → Int32) (rsi : Nat → Int32) (rli : Nat → Int32) (rar : Nat → Int32) (xgc : Int32) (xca : Int32) (xls : Int32) (xtl : Int32) (xno : Int32) (lco : Int32) (rwa : Int32) (rad : Int32) (mth : Int32) (mst : Nat → Int32) (mse : Nat → Int32) (mla : Int32) (mmo : Nat → Int32) (mrc : Int32) (mro : Nat → Int32) (mrt : Nat → Int32) (mrm : Nat → Int32) (mrl : Nat → Int64) (mrh : Nat → Int64) (mwk : Nat → Int32) (mwt : Nat → Int32) (mwm : Nat → Int32) (mwl : Nat → Int64) (mwh : Nat → Int64) (mwi : Nat → Int32) (mwc : Nat → Int32) (mwx : Nat → Int32) (mar : Int32) (mli : Int32) (mgr : Int32) (mgo : Nat → Int32) (mre : Nat → Int32) (mfr : Int32) (xo : Nat → Int64) (cells slots : Nat) (H : Heap) (locs : List Loc) (ls : Array Slot), i = 8 * N → i ≤ L → L + 8 ≤ i + 8 * n → cells + n ≤ 1080 → slots + 6 * n ≤ 11406 → Rel N xst xse xre xgr ltm low lta llo lhi lmo rta ron rlo rhi rmo rin res rsi rli rar xgc xca xls xtl xno lco rwa rad mth mst mse mla mmo mrc mro mrt mrm mrl mrh mwk mwt mwm mwl mwh mwi mwc mwx mar mli mgr mgo mre mfr → va_P g kcl (wC cI cJ cZ ad xst xse xre xgr ltm low lta llo lhi lmo rta ron rlo rhi rmo rin res rsi rli rar xgc xca xls xtl xno lco rwa rad ((ao, .inl (cJ, 1, .inr (.inl xo))) :: wM cI cJ cZ bd mth mst mse mla mmo mrc mro mrt mrm mrl mrh mwk mwt mwm mwl mwh mwi mwc mwx mar mli mgr mgo mre mfr [])) H → va_D A (wC cI cJ cZ ad xst xse xre xgr ltm low lta llo lhi lmo rta ron rlo rhi rmo rin res rsi rli rar xgc xca xls xtl xno lco rwa rad ((ao, .inl (cJ, 1, .inr (.inl xo))) :: wM cI cJ cZ bd mth mst mse mla mmo mrc mro mrt mrm mrl mrh mwk mwt mwm mwl mwh mwi mwc mwx mar mli mgr mgo mre mfr [])) → va_S A s.heap H locs → lv_has ls 7 [(0, .ref b), (1, .ref (ad 0)), (2, .ref (bd 0)), (3, .ref ao), (4, .int (nI i))] → W p l e room_1 s m #[Value.ref b] below meth c H locs cells slots (lw_Z below #[Value.ref b] s) (F0 m 23 ls []) := by
  obtain ⟨hx, hb, hr, hml, hown, hts, hlocks, hK, hA, hE⟩ := id K
  intro n
  induction n with
  | zero =>
    intro i N xst xse xre xgr ltm low lta llo lhi lmo rta ron rlo rhi rmo rin res rsi rli rar xgc xca xls xtl xno lco rwa rad mth mst mse mla mmo mrc mro mrt mrm mrl mrh mwk mwt mwm mwl mwh mwi mwc mwx mar mli mgr mgo mre mfr xo cells slots H locs ls h0 h1 h2
    exact absurd h2 (by omega)
  | succ n ih =>
    intro i N xst xse xre xgr ltm low lta llo lhi lmo rta ron rlo rhi rmo rin res rsi rli rar xgc xca xls xtl xno lco rwa rad mth mst mse mla mmo mrc mro mrt mrm mrl mrh mwk mwt mwm mwl mwh mwi mwc mwx mar mli mgr mgo mre mfr xo cells slots H locs ls hiN hi hin hc hs hRel hP hD hS hl
    refine lv_iload hx hb d_W_law_23 (lv_at hl 4 rfl) ?_
    refine lv_aload_n hx hb d_W_law_25 rfl (lv_at hl 0 rfl) ?_
    refine va_slen hx hb hX hbl hbA hS d_W_law_26 ?_
    refine lv_bipush (v := 8) hx hb d_W_law_27 (by decide) ?_
    refine lv_isub hx hb d_W_law_29 ?_
    refine lv_icmp_gt (tgt := 1453) hx hb d_W_law_30 (by decide) (fun hq => ?_) (fun hq => ?_)
    · refine lv_iconst (v := 1) hx hb d_W_law_1453 (by decide) ?_
      refine va_forget (fun q hq9 => hAs _ (hS.2.2 q hq9)) ?_
      refine W.widen (k := 1080) (n := 11406) (by omega) (by omega) ?_
      exact lw_ret hx hb hr hlocks d_W_law_1454
    · have hi8 : i + 8 ≤ L := sc_le hL hi hq
      have hN : ∀ (xst : Nat → Int32) (xse : Nat → Int32) (xre : Nat → Int32) (xgr : Nat → Int32) (ltm : Nat → Int32) (low : Nat → Int32) (lta : Nat → Int32) (llo : Nat → Int64) (lhi : Nat → Int64) (lmo : Nat → Int32) (rta : Nat → Int32) (ron : Nat → Int32) (rlo : Nat → Int64) (rhi : Nat → Int64) (rmo : Nat → Int32) (rin : Nat → Int32) (res : Nat → Int32) (rsi : Nat → Int32) (rli : Nat → Int32) (rar : Nat → Int32) (xgc : Int32) (xca : Int32) (xls : Int32) (xtl : Int32) (xno : Int32) (lco : Int32) (rwa : Int32) (rad : Int32) (mth : Int32) (mst : Nat → Int32) (mse : Nat → Int32) (mla : Int32) (mmo : Nat → Int32) (mrc : Int32) (mro : Nat → Int32) (mrt : Nat → Int32) (mrm : Nat → Int32) (mrl : Nat → Int64) (mrh : Nat → Int64) (mwk : Nat → Int32) (mwt : Nat → Int32) (mwm : Nat → Int32) (mwl : Nat → Int64) (mwh : Nat → Int64) (mwi : Nat → Int32) (mwc : Nat → Int32) (mwx : Nat → Int32) (mar : Int32) (mli : Int32) (mgr : Int32) (mgo : Nat → Int32) (mre : Nat → Int32) (mfr : Int32) (xo : Nat → Int64) (H : Heap) (locs : List Loc) (ls : Array Slot), Rel (N + 1) xst xse xre xgr ltm low lta llo lhi lmo rta ron rlo rhi rmo rin res rsi rli rar xgc xca xls xtl xno lco rwa rad mth mst mse mla mmo mrc mro mrt mrm mrl mrh mwk mwt mwm mwl mwh mwi mwc mwx mar mli mgr mgo mre mfr → va_P g kcl (wC cI cJ cZ ad xst xse xre xgr ltm low lta llo lhi lmo rta ron rlo rhi rmo rin res rsi rli rar xgc xca xls xtl xno lco rwa rad ((ao, .inl (cJ, 1, .inr (.inl xo))) :: wM cI cJ cZ bd mth mst mse mla mmo mrc mro mrt mrm mrl mrh mwk mwt mwm mwl mwh mwi mwc mwx mar mli mgr mgo mre mfr [])) H → va_D A (wC cI cJ cZ ad xst xse xre xgr ltm low lta llo lhi lmo rta ron rlo rhi rmo rin res rsi rli rar xgc xca xls xtl xno lco rwa rad ((ao, .inl (cJ, 1, .inr (.inl xo))) :: wM cI cJ cZ bd mth mst mse mla mmo mrc mro mrt mrm mrl mrh mwk mwt mwm mwl mwh mwi mwc mwx mar mli mgr mgo mre mfr [])) → va_S A s.heap H locs → lv_has ls 7 [(0, .ref b), (1, .ref (ad 0)), (2, .ref (bd 0)), (3, .ref ao), (4, .int (nI i))] → W p l e room_1 s m #[Value.ref b] below meth c H locs (cells + 1) (slots + 6) (lw_Z below #[Value.ref b] s) (F0 m 1447 ls []) := by
        intro xst xse xre xgr ltm low lta llo lhi lmo rta ron rlo rhi rmo rin res rsi rli rar xgc xca xls xtl xno lco rwa rad mth mst mse mla mmo mrc mro mrt mrm mrl mrh mwk mwt mwm mwl mwh mwi mwc mwx mar mli mgr mgo mre mfr xo H locs ls hRel hP hD hS hl
        refine lv_iinc (v := nI (i + 8)) (lv' := [(4, .int (nI (i + 8))), (0, .ref b), (1, .ref (ad 0)), (2, .ref (bd 0)), (3, .ref ao)]) hx hb d_W_law_1447 hl (k := 4) rfl (nI_add i 8) (by decide) rfl (fun ls hl => ?_)
        refine lv_goto (tgt := 23) hx hb d_W_law_1450 (by decide) ?_
        exact ih (i + 8) (N + 1) xst xse xre xgr ltm low lta llo lhi lmo rta ron rlo rhi rmo rin res rsi rli rar xgc xca xls xtl xno lco rwa rad mth mst mse mla mmo mrc mro mrt mrm mrl mrh mwk mwt mwm mwl mwh mwi mwc mwx mar mli mgr mgo mre mfr xo (cells + 1) (slots + 6) H locs ls (by omega) hi8 (by omega) (by omega) (by omega) hRel hP hD hS (lv_sub hl [1, 2, 3, 4, 0] rfl)
      refine lv_aload_n hx hb d_W_law_33 rfl (lv_at hl 0 rfl) ?_
      refine lv_iload hx hb d_W_law_34 (lv_at hl 4 rfl) ?_
      refine va_sld hx hb hX hbl hbA hS (vp_in_nI (by omega) (by omega)) d_W_law_36 ?_
      refine lv_bipush (v := 31) hx hb d_W_law_37 (by decide) ?_
      refine lv_iand hx hb d_W_law_39 ?_
      refine lv_topi (fun op eop => ?_)
      by_cases hw0 : op = 0
      · refine lv_tableIn (off := 100) (tgt := 140) hx hb d_W_law_40 (by rw [hw0]; decide) (by rw [hw0]; decide) (by rw [hw0]; decide) (by decide) ?_
        exact law_begin K hlt hX hbl hbA hst_begin xst xse xre xgr ltm low lta llo lhi lmo rta ron rlo rhi rmo rin res rsi rli rar xgc xca xls xtl xno lco rwa rad mth mst mse mla mmo mrc mro mrt mrm mrl mrh mwk mwt mwm mwl mwh mwi mwc mwx mar mli mgr mgo mre mfr xo N (by omega) hRel i hi8 hL (by omega) (by omega) hP hD hS hl hN
      by_cases hw1 : op = 1
      · refine lv_tableIn (off := 156) (tgt := 196) hx hb d_W_law_40 (by rw [hw1]; decide) (by rw [hw1]; decide) (by rw [hw1]; decide) (by decide) ?_
        exact law_table K hlt hX hbl hbA hst_table xst xse xre xgr ltm low lta llo lhi lmo rta ron rlo rhi rmo rin res rsi rli rar xgc xca xls xtl xno lco rwa rad mth mst mse mla mmo mrc mro mrt mrm mrl mrh mwk mwt mwm mwl mwh mwi mwc mwx mar mli mgr mgo mre mfr xo N (by omega) hRel i hi8 hL (by omega) (by omega) hP hD hS hl hN
      by_cases hw2 : op = 2
      · refine lv_tableIn (off := 236) (tgt := 276) hx hb d_W_law_40 (by rw [hw2]; decide) (by rw [hw2]; decide) (by rw [hw2]; decide) (by decide) ?_
        exact law_range K hlt hX hbl hbA hst_range xst xse xre xgr ltm low lta llo lhi lmo rta ron rlo rhi rmo rin res rsi rli rar xgc xca xls xtl xno lco rwa rad mth mst mse mla mmo mrc mro mrt mrm mrl mrh mwk mwt mwm mwl mwh mwi mwc mwx mar mli mgr mgo mre mfr xo N (by omega) hRel i hi8 hL (by omega) (by omega) hP hD hS hl hN
      by_cases hw3 : op = 3
      · refine lv_tableIn (off := 408) (tgt := 448) hx hb d_W_law_40 (by rw [hw3]; decide) (by rw [hw3]; decide) (by rw [hw3]; decide) (by decide) ?_
        exact law_escalate K hlt hX hbl hbA hst_escalate xst xse xre xgr ltm low lta llo lhi lmo rta ron rlo rhi rmo rin res rsi rli rar xgc xca xls xtl xno lco rwa rad mth mst mse mla mmo mrc mro mrt mrm mrl mrh mwk mwt mwm mwl mwh mwi mwc mwx mar mli mgr mgo mre mfr xo N (by omega) hRel i hi8 hL (by omega) (by omega) hP hD hS hl hN
      by_cases hw4 : op = 4
      · refine lv_tableIn (off := 476) (tgt := 516) hx hb d_W_law_40 (by rw [hw4]; decide) (by rw [hw4]; decide) (by rw [hw4]; decide) (by decide) ?_
        exact law_cancel K hlt hX hbl hbA hst_cancel xst xse xre xgr ltm low lta llo lhi lmo rta ron rlo rhi rmo rin res rsi rli rar xgc xca xls xtl xno lco rwa rad mth mst mse mla mmo mrc mro mrt mrm mrl mrh mwk mwt mwm mwl mwh mwi mwc mwx mar mli mgr mgo mre mfr xo N (by omega) hRel i hi8 hL (by omega) (by omega) hP hD hS hl hN
      by_cases hw5 : op = 5
      · refine lv_tableIn (off := 532) (tgt := 572) hx hb d_W_law_40 (by rw [hw5]; decide) (by rw [hw5]; decide) (by rw [hw5]; decide) (by decide) ?_
        exact law_prepare K hlt hX hbl hbA hst_prepare xst xse xre xgr ltm low lta llo lhi lmo rta ron rlo rhi rmo rin res rsi rli rar xgc xca xls xtl xno lco rwa rad mth mst mse mla mmo mrc mro mrt mrm mrl mrh mwk mwt mwm mwl mwh mwi mwc mwx mar mli mgr mgo mre mfr xo N (by omega) hRel i hi8 hL (by omega) (by omega) hP hD hS hl hN
      by_cases hw6 : op = 6
      · refine lv_tableIn (off := 588) (tgt := 628) hx hb d_W_law_40 (by rw [hw6]; decide) (by rw [hw6]; decide) (by rw [hw6]; decide) (by decide) ?_
        exact law_unread K hlt hX hbl hbA hst_unread xst xse xre xgr ltm low lta llo lhi lmo rta ron rlo rhi rmo rin res rsi rli rar xgc xca xls xtl xno lco rwa rad mth mst mse mla mmo mrc mro mrt mrm mrl mrh mwk mwt mwm mwl mwh mwi mwc mwx mar mli mgr mgo mre mfr xo N (by omega) hRel i hi8 hL (by omega) (by omega) hP hD hS hl hN
      by_cases hw7 : op = 7
      · refine lv_tableIn (off := 644) (tgt := 684) hx hb d_W_law_40 (by rw [hw7]; decide) (by rw [hw7]; decide) (by rw [hw7]; decide) (by decide) ?_
        exact law_end K hlt hX hbl hbA hst_end xst xse xre xgr ltm low lta llo lhi lmo rta ron rlo rhi rmo rin res rsi rli rar xgc xca xls xtl xno lco rwa rad mth mst mse mla mmo mrc mro mrt mrm mrl mrh mwk mwt mwm mwl mwh mwi mwc mwx mar mli mgr mgo mre mfr xo N (by omega) hRel i hi8 hL (by omega) (by omega) hP hD hS hl hN
      by_cases hw8 : op = 8
      · refine lv_tableIn (off := 700) (tgt := 740) hx hb d_W_law_40 (by rw [hw8]; decide) (by rw [hw8]; decide) (by rw [hw8]; decide) (by decide) ?_
        exact law_limit K hlt hX hbl hbA hst_limit xst xse xre xgr ltm low lta llo lhi lmo rta ron rlo rhi rmo rin res rsi rli rar xgc xca xls xtl xno lco rwa rad mth mst mse mla mmo mrc mro mrt mrm mrl mrh mwk mwt mwm mwl mwh mwi mwc mwx mar mli mgr mgo mre mfr xo N (by omega) hRel i hi8 hL (by omega) (by omega) hP hD hS hl hN
      by_cases hw9 : op = 9
      · refine lv_tableIn (off := 736) (tgt := 776) hx hb d_W_law_40 (by rw [hw9]; decide) (by rw [hw9]; decide) (by rw [hw9]; decide) (by decide) ?_
        exact law_tick K hlt hX hbl hbA hst_tick xst xse xre xgr ltm low lta llo lhi lmo rta ron rlo rhi rmo rin res rsi rli rar xgc xca xls xtl xno lco rwa rad mth mst mse mla mmo mrc mro mrt mrm mrl mrh mwk mwt mwm mwl mwh mwi mwc mwx mar mli mgr mgo mre mfr xo N (by omega) hRel i hi8 hL (by omega) (by omega) hP hD hS hl hN
      by_cases hw10 : op = 10
      · refine lv_tableIn (off := 792) (tgt := 832) hx hb d_W_law_40 (by rw [hw10]; decide) (by rw [hw10]; decide) (by rw [hw10]; decide) (by decide) ?_
        exact law_state K hlt hX hbl hbA hst_state xst xse xre xgr ltm low lta llo lhi lmo rta ron rlo rhi rmo rin res rsi rli rar xgc xca xls xtl xno lco rwa rad mth mst mse mla mmo mrc mro mrt mrm mrl mrh mwk mwt mwm mwl mwh mwi mwc mwx mar mli mgr mgo mre mfr xo N (by omega) hRel i hi8 hL (by omega) (by omega) hP hD hS hl hN
      by_cases hw11 : op = 11
      · refine lv_tableIn (off := 848) (tgt := 888) hx hb d_W_law_40 (by rw [hw11]; decide) (by rw [hw11]; decide) (by rw [hw11]; decide) (by decide) ?_
        exact law_serial K hlt hX hbl hbA hst_serial xst xse xre xgr ltm low lta llo lhi lmo rta ron rlo rhi rmo rin res rsi rli rar xgc xca xls xtl xno lco rwa rad mth mst mse mla mmo mrc mro mrt mrm mrl mrh mwk mwt mwm mwl mwh mwi mwc mwx mar mli mgr mgo mre mfr xo N (by omega) hRel i hi8 hL (by omega) (by omega) hP hD hS hl hN
      by_cases hw12 : op = 12
      · refine lv_tableIn (off := 904) (tgt := 944) hx hb d_W_law_40 (by rw [hw12]; decide) (by rw [hw12]; decide) (by rw [hw12]; decide) (by decide) ?_
        exact law_ranges K hlt hX hbl hbA hst_ranges xst xse xre xgr ltm low lta llo lhi lmo rta ron rlo rhi rmo rin res rsi rli rar xgc xca xls xtl xno lco rwa rad mth mst mse mla mmo mrc mro mrt mrm mrl mrh mwk mwt mwm mwl mwh mwi mwc mwx mar mli mgr mgo mre mfr xo N (by omega) hRel i hi8 hL (by omega) (by omega) hP hD hS hl hN
      by_cases hw13 : op = 13
      · refine lv_tableIn (off := 972) (tgt := 1012) hx hb d_W_law_40 (by rw [hw13]; decide) (by rw [hw13]; decide) (by rw [hw13]; decide) (by decide) ?_
        exact law_all K hlt hX hbl hbA hst_all xst xse xre xgr ltm low lta llo lhi lmo rta ron rlo rhi rmo rin res rsi rli rar xgc xca xls xtl xno lco rwa rad mth mst mse mla mmo mrc mro mrt mrm mrl mrh mwk mwt mwm mwl mwh mwi mwc mwx mar mli mgr mgo mre mfr xo N (by omega) hRel i hi8 hL (by omega) (by omega) hP hD hS hl hN
      by_cases hw14 : op = 14
      · refine lv_tableIn (off := 985) (tgt := 1025) hx hb d_W_law_40 (by rw [hw14]; decide) (by rw [hw14]; decide) (by rw [hw14]; decide) (by decide) ?_
        exact law_mode K hlt hX hbl hbA hst_mode xst xse xre xgr ltm low lta llo lhi lmo rta ron rlo rhi rmo rin res rsi rli rar xgc xca xls xtl xno lco rwa rad mth mst mse mla mmo mrc mro mrt mrm mrl mrh mwk mwt mwm mwl mwh mwi mwc mwx mar mli mgr mgo mre mfr xo N (by omega) hRel i hi8 hL (by omega) (by omega) hP hD hS hl hN
      by_cases hw15 : op = 15
      · refine lv_tableIn (off := 1053) (tgt := 1093) hx hb d_W_law_40 (by rw [hw15]; decide) (by rw [hw15]; decide) (by rw [hw15]; decide) (by decide) ?_
        exact law_right K hlt hX hbl hbA hst_right xst xse xre xgr ltm low lta llo lhi lmo rta ron rlo rhi rmo rin res rsi rli rar xgc xca xls xtl xno lco rwa rad mth mst mse mla mmo mrc mro mrt mrm mrl mrh mwk mwt mwm mwl mwh mwi mwc mwx mar mli mgr mgo mre mfr xo N (by omega) hRel i hi8 hL (by omega) (by omega) hP hD hS hl hN
      by_cases hw16 : op = 16
      · refine lv_tableIn (off := 1165) (tgt := 1205) hx hb d_W_law_40 (by rw [hw16]; decide) (by rw [hw16]; decide) (by rw [hw16]; decide) (by decide) ?_
        exact law_queue K hlt hX hbl hbA hst_queue xst xse xre xgr ltm low lta llo lhi lmo rta ron rlo rhi rmo rin res rsi rli rar xgc xca xls xtl xno lco rwa rad mth mst mse mla mmo mrc mro mrt mrm mrl mrh mwk mwt mwm mwl mwh mwi mwc mwx mar mli mgr mgo mre mfr xo N (by omega) hRel i hi8 hL (by omega) (by omega) hP hD hS hl hN
      by_cases hw17 : op = 17
      · refine lv_tableIn (off := 1190) (tgt := 1230) hx hb d_W_law_40 (by rw [hw17]; decide) (by rw [hw17]; decide) (by rw [hw17]; decide) (by decide) ?_
        exact law_wants K hlt hX hbl hbA hst_wants xst xse xre xgr ltm low lta llo lhi lmo rta ron rlo rhi rmo rin res rsi rli rar xgc xca xls xtl xno lco rwa rad mth mst mse mla mmo mrc mro mrt mrm mrl mrh mwk mwt mwm mwl mwh mwi mwc mwx mar mli mgr mgo mre mfr xo N (by omega) hRel i hi8 hL (by omega) (by omega) hP hD hS hl hN
      by_cases hw18 : op = 18
      · refine lv_tableIn (off := 1258) (tgt := 1298) hx hb d_W_law_40 (by rw [hw18]; decide) (by rw [hw18]; decide) (by rw [hw18]; decide) (by decide) ?_
        exact law_behind K hlt hX hbl hbA hst_behind xst xse xre xgr ltm low lta llo lhi lmo rta ron rlo rhi rmo rin res rsi rli rar xgc xca xls xtl xno lco rwa rad mth mst mse mla mmo mrc mro mrt mrm mrl mrh mwk mwt mwm mwl mwh mwi mwc mwx mar mli mgr mgo mre mfr xo N (by omega) hRel i hi8 hL (by omega) (by omega) hP hD hS hl hN
      by_cases hw19 : op = 19
      · refine lv_tableIn (off := 1314) (tgt := 1354) hx hb d_W_law_40 (by rw [hw19]; decide) (by rw [hw19]; decide) (by rw [hw19]; decide) (by decide) ?_
        exact law_granted K hlt hX hbl hbA hst_granted xst xse xre xgr ltm low lta llo lhi lmo rta ron rlo rhi rmo rin res rsi rli rar xgc xca xls xtl xno lco rwa rad mth mst mse mla mmo mrc mro mrt mrm mrl mrh mwk mwt mwm mwl mwh mwi mwc mwx mar mli mgr mgo mre mfr xo N (by omega) hRel i hi8 hL (by omega) (by omega) hP hD hS hl hN
      by_cases hw20 : op = 20
      · refine lv_tableIn (off := 1339) (tgt := 1379) hx hb d_W_law_40 (by rw [hw20]; decide) (by rw [hw20]; decide) (by rw [hw20]; decide) (by decide) ?_
        exact law_join K hlt hX hbl hbA hst_join xst xse xre xgr ltm low lta llo lhi lmo rta ron rlo rhi rmo rin res rsi rli rar xgc xca xls xtl xno lco rwa rad mth mst mse mla mmo mrc mro mrt mrm mrl mrh mwk mwt mwm mwl mwh mwi mwc mwx mar mli mgr mgo mre mfr xo N (by omega) hRel i hi8 hL (by omega) (by omega) hP hD hS hl hN
      have hw0 := lv_neT (a := 0) hw0 (by decide)
      have hw1 := lv_neT (a := 1) hw1 (by decide)
      have hw2 := lv_neT (a := 2) hw2 (by decide)
      have hw3 := lv_neT (a := 3) hw3 (by decide)
      have hw4 := lv_neT (a := 4) hw4 (by decide)
      have hw5 := lv_neT (a := 5) hw5 (by decide)
      have hw6 := lv_neT (a := 6) hw6 (by decide)
      have hw7 := lv_neT (a := 7) hw7 (by decide)
      have hw8 := lv_neT (a := 8) hw8 (by decide)
      have hw9 := lv_neT (a := 9) hw9 (by decide)
      have hw10 := lv_neT (a := 10) hw10 (by decide)
      have hw11 := lv_neT (a := 11) hw11 (by decide)
      have hw12 := lv_neT (a := 12) hw12 (by decide)
      have hw13 := lv_neT (a := 13) hw13 (by decide)
      have hw14 := lv_neT (a := 14) hw14 (by decide)
      have hw15 := lv_neT (a := 15) hw15 (by decide)
      have hw16 := lv_neT (a := 16) hw16 (by decide)
      have hw17 := lv_neT (a := 17) hw17 (by decide)
      have hw18 := lv_neT (a := 18) hw18 (by decide)
      have hw19 := lv_neT (a := 19) hw19 (by decide)
      have hw20 := lv_neT (a := 20) hw20 (by decide)
      refine lv_tableOut (tgt := 1447) hx hb d_W_law_40 (by omega) (by decide) ?_
      refine W.widen (k := cells + 1) (n := slots + 6) (by omega) (by omega) ?_
      exact hN xst xse xre xgr ltm low lta llo lhi lmo rta ron rlo rhi rmo rin res rsi rli rar xgc xca xls xtl xno lco rwa rad mth mst mse mla mmo mrc mro mrt mrm mrl mrh mwk mwt mwm mwl mwh mwi mwc mwx mar mli mgr mgo mre mfr xo H locs ls (hmono N xst xse xre xgr ltm low lta llo lhi lmo rta ron rlo rhi rmo rin res rsi rli rar xgc xca xls xtl xno lco rwa rad mth mst mse mla mmo mrc mro mrt mrm mrl mrh mwk mwt mwm mwl mwh mwi mwc mwx mar mli mgr mgo mre mfr hRel) hP hD hS hl
