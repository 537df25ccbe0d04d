/-! calls that ask -/
theorem nI_sub {a b : Nat} (h : b ≤ a) : nI a - nI b = nI (a - b) := by
  have e : nI a = nI (a - b) + nI b := by rw [nI_add]; congr 1; omega
  rw [e, Int32.add_sub_cancel]
theorem st_state : St_state Rl := by
  intro N xst xse xre xgr ltm low lta llo lhi lmo rta ron rlo rhi rmo rin res rsi rli rar xgc xca xls xtl xno lco rwa rad mth mst mse mla mmo mrc mro mrt mrm mrl mrh mwk mwt mwm mwl mwh mwi mwc mwx mar mli mgr mgo mre mfr a1 hN hR
  have hR0 := hR
  obtain ⟨rq, cm, ar, sc, T, A, B, L, st, tm, rs, ln, gr, hJ, hO⟩ := hR0
  have S1 : CS xst xgr ltm low lta llo lhi lmo rli xgc lco rwa st tm rs ln gr := hJ.1
  have S2 : MS mst mmo mrc mro mrt mrm mrl mrh mgr mgo st tm rs gr := hJ.2.1
  obtain ⟨s1, s2, ⟨rs0, s3, s4, s5⟩, ⟨s6, s7⟩, s8, s9⟩ := S1
  obtain ⟨t1, t2, ⟨rs1, t3, t4, t5⟩, t8, t9⟩ := S2
  rcases own_cases a1 with ⟨o, ho, rfl⟩ | ⟨e1, e2⟩
  · refine ⟨0, nI (st o), nI (st o), 0, ?_, ?_, rfl, by omega, fun _ => rfl, rl_th hR 0⟩
    · unfold F_T_state
      simp only [ownC o ho, ob1_s, ob2_s, jn0, jn1, jn2, rf0, rf1, rf2, rf3, eq_self, if_true, i10, n10, n20, n30, if_false, nI_clamp (show o < 2 ^ 31 by omega), pz_gd2 ho (show 8 < 2 ^ 31 by omega), (s1 o ho).1]
    · unfold F_M_state
      simp only [ownM o ho, ob1_s, ob2_s, jn0, jn1, jn2, rf0, rf1, rf2, rf3, eq_self, if_true, i10, n10, n20, n30, if_false, nI_clamp (show o < 2 ^ 31 by omega), pz_gd2 ho (show 8 < 2 ^ 31 by omega), (t1 o ho).1]
  · refine ⟨1, 0, 0, 1, ?_, ?_, rfl, by omega, fun h => (by cases h), rl_th hR 1⟩
    · unfold F_T_state
      simp only [e1, ob1_s, ob2_s, jn0, jn1, jn2, rf0, rf1, rf2, rf3, eq_self, if_true, i10, n10, n20, n30, if_false]
    · unfold F_M_state
      simp only [e2, ob1_s, ob2_s, jn0, jn1, jn2, rf0, rf1, rf2, rf3, eq_self, if_true, i10, n10, n20, n30, if_false]
theorem st_serial : St_serial Rl := by
  intro N xst xse xre xgr ltm low lta llo lhi lmo rta ron rlo rhi rmo rin res rsi rli rar xgc xca xls xtl xno lco rwa rad mth mst mse mla mmo mrc mro mrt mrm mrl mrh mwk mwt mwm mwl mwh mwi mwc mwx mar mli mgr mgo mre mfr a1 hN hR
  have hR0 := hR
  obtain ⟨rq, cm, ar, sc, T, A, B, L, st, tm, rs, ln, gr, hJ, hO⟩ := hR0
  have S1 : CS xst xgr ltm low lta llo lhi lmo rli xgc lco rwa st tm rs ln gr := hJ.1
  have S2 : MS mst mmo mrc mro mrt mrm mrl mrh mgr mgo st tm rs gr := hJ.2.1
  obtain ⟨s1, s2, ⟨rs0, s3, s4, s5⟩, ⟨s6, s7⟩, s8, s9⟩ := S1
  obtain ⟨t1, t2, ⟨rs1, t3, t4, t5⟩, t8, t9⟩ := S2
  rcases own_cases a1 with ⟨o, ho, rfl⟩ | ⟨e1, e2⟩
  · refine ⟨0, xse o, xse o, 0, ?_, ?_, rfl, by omega, fun _ => rfl, rl_th hR 0⟩
    · unfold F_T_serial
      simp only [ownC o ho, ob1_s, ob2_s, jn0, jn1, jn2, rf0, rf1, rf2, rf3, eq_self, if_true, i10, n10, n20, n30, if_false, nI_clamp (show o < 2 ^ 31 by omega), pz_gd2 ho (show 8 < 2 ^ 31 by omega)]
    · unfold F_M_serial
      have c0 : mst o = 0 ↔ st o = 0 := t1.eq (k := 0) ho (by omega)
      simp only [ownM o ho, ob1_s, ob2_s, jn0, jn1, jn2, rf0, rf1, rf2, rf3, eq_self, if_true, i10, n10, n20, n30, if_false, nI_clamp (show o < 2 ^ 31 by omega), pz_gd2 ho (show 8 < 2 ^ 31 by omega), c0]
      by_cases q : st o = 0
      · rw [if_pos q, hO.2.1 o ho q]
      · rw [if_neg q, hO.1 o ho q]
  · refine ⟨1, 0, 0, 1, ?_, ?_, rfl, by omega, fun h => (by cases h), rl_th hR 1⟩
    · unfold F_T_serial
      simp only [e1, ob1_s, ob2_s, jn0, jn1, jn2, rf0, rf1, rf2, rf3, eq_self, if_true, i10, n10, n20, n30, if_false]
    · unfold F_M_serial
      simp only [e2, ob1_s, ob2_s, jn0, jn1, jn2, rf0, rf1, rf2, rf3, eq_self, if_true, i10, n10, n20, n30, if_false]
theorem st_ranges : St_ranges Rl := by
  intro N xst xse xre xgr ltm low lta llo lhi lmo rta ron rlo rhi rmo rin res rsi rli rar xgc xca xls xtl xno lco rwa rad mth mst mse mla mmo mrc mro mrt mrm mrl mrh mwk mwt mwm mwl mwh mwi mwc mwx mar mli mgr mgo mre mfr a1 a2 hN hR
  have hR0 := hR
  obtain ⟨rq, cm, ar, sc, T, A, B, L, st, tm, rs, ln, gr, hJ, hO⟩ := hR0
  have S1 : CS xst xgr ltm low lta llo lhi lmo rli xgc lco rwa st tm rs ln gr := hJ.1
  have S2 : MS mst mmo mrc mro mrt mrm mrl mrh mgr mgo st tm rs gr := hJ.2.1
  obtain ⟨s1, s2, ⟨rs0, s3, s4, s5⟩, ⟨s6, s7⟩, s8, s9⟩ := S1
  obtain ⟨t1, t2, ⟨rs1, t3, t4, t5⟩, t8, t9⟩ := S2
  rcases own_cases a1 with ⟨o, ho, rfl⟩ | ⟨e1, e2⟩
  · rcases tab_cases a2 with ⟨t, ht, rfl⟩ | ⟨e3, e4⟩
    · refine ⟨0, nI (rs.countP (isOnB o t)), nI (rs.countP (isOnB o t)), 0, ?_, ?_, rfl, by omega, fun _ => rfl, rl_th hR 0⟩
      · unfold F_T_ranges
        rw [s4]
        simp only [ownC o ho, tabC t ht, p_countRanges s3 ho ht, s5.countP_eq, ob1_s, ob2_s, jn0, jn1, jn2, rf0, rf1, rf2, rf3, eq_self, if_true, i10, n10, n20, n30, if_false]
      · unfold F_M_ranges
        rw [t4]
        simp only [ownM o ho, tabM t ht, p_rangesOf t3 ho ht, t5.countP_eq, ob1_s, ob2_s, jn0, jn1, jn2, rf0, rf1, rf2, rf3, eq_self, if_true, i10, n10, n20, n30, if_false]
    · refine ⟨1, 0, 0, 1, ?_, ?_, rfl, by omega, fun h => (by cases h), rl_th hR 1⟩
      · unfold F_T_ranges
        simp only [ownC o ho, e3, ob1_s, ob2_s, jn0, jn1, jn2, rf0, rf1, rf2, rf3, eq_self, if_true, i10, n10, n20, n30, if_false]
      · unfold F_M_ranges
        simp only [ownM o ho, e4, ob1_s, ob2_s, jn0, jn1, jn2, rf0, rf1, rf2, rf3, eq_self, if_true, i10, n10, n20, n30, if_false]
  · refine ⟨1, 0, 0, 1, ?_, ?_, rfl, by omega, fun h => (by cases h), rl_th hR 1⟩
    · unfold F_T_ranges
      simp only [e1, ob1_s, ob2_s, jn0, jn1, jn2, rf0, rf1, rf2, rf3, eq_self, if_true, i10, n10, n20, n30, if_false]
    · unfold F_M_ranges
      simp only [e2, ob1_s, ob2_s, jn0, jn1, jn2, rf0, rf1, rf2, rf3, eq_self, if_true, i10, n10, n20, n30, if_false]
theorem st_mode : St_mode Rl := by
  intro N xst xse xre xgr ltm low lta llo lhi lmo rta ron rlo rhi rmo rin res rsi rli rar xgc xca xls xtl xno lco rwa rad mth mst mse mla mmo mrc mro mrt mrm mrl mrh mwk mwt mwm mwl mwh mwi mwc mwx mar mli mgr mgo mre mfr a1 a2 hN hR
  have hR0 := hR
  obtain ⟨rq, cm, ar, sc, T, A, B, L, st, tm, rs, ln, gr, hJ, hO⟩ := hR0
  have S1 : CS xst xgr ltm low lta llo lhi lmo rli xgc lco rwa st tm rs ln gr := hJ.1
  have S2 : MS mst mmo mrc mro mrt mrm mrl mrh mgr mgo st tm rs gr := hJ.2.1
  obtain ⟨s1, s2, ⟨rs0, s3, s4, s5⟩, ⟨s6, s7⟩, s8, s9⟩ := S1
  obtain ⟨t1, t2, ⟨rs1, t3, t4, t5⟩, t8, t9⟩ := S2
  rcases own_cases a1 with ⟨o, ho, rfl⟩ | ⟨e1, e2⟩
  · rcases tab_cases a2 with ⟨t, ht, rfl⟩ | ⟨e3, e4⟩
    · refine ⟨0, mI (tm o t), mI (tm o t), 0, ?_, ?_, rfl, by omega, fun _ => rfl, rl_th hR 0⟩
      · unfold F_T_mode
        simp only [ownC o ho, tabC t ht, p_heldMode s2 ho ht, ob1_s, ob2_s, jn0, jn1, jn2, rf0, rf1, rf2, rf3, eq_self, if_true, i10, n10, n20, n30, if_false]
      · unfold F_M_mode
        simp only [ownM o ho, tabM t ht, p_ixM ho ht, nI_clamp (show 16 * o + t < 2 ^ 31 by omega), pz_gd2 (show 16 * o + t < 128 by omega) (show 128 < 2 ^ 31 by omega), (t2 o t ho ht).1, ob1_s, ob2_s, jn0, jn1, jn2, rf0, rf1, rf2, rf3, eq_self, if_true, i10, n10, n20, n30, if_false]
    · refine ⟨1, 0, 0, 1, ?_, ?_, rfl, by omega, fun h => (by cases h), rl_th hR 1⟩
      · unfold F_T_mode
        simp only [ownC o ho, e3, ob1_s, ob2_s, jn0, jn1, jn2, rf0, rf1, rf2, rf3, eq_self, if_true, i10, n10, n20, n30, if_false]
      · unfold F_M_mode
        simp only [ownM o ho, e4, ob1_s, ob2_s, jn0, jn1, jn2, rf0, rf1, rf2, rf3, eq_self, if_true, i10, n10, n20, n30, if_false]
  · refine ⟨1, 0, 0, 1, ?_, ?_, rfl, by omega, fun h => (by cases h), rl_th hR 1⟩
    · unfold F_T_mode
      simp only [e1, ob1_s, ob2_s, jn0, jn1, jn2, rf0, rf1, rf2, rf3, eq_self, if_true, i10, n10, n20, n30, if_false]
    · unfold F_M_mode
      simp only [e2, ob1_s, ob2_s, jn0, jn1, jn2, rf0, rf1, rf2, rf3, eq_self, if_true, i10, n10, n20, n30, if_false]
theorem st_all : St_all Rl := by
  intro N xst xse xre xgr ltm low lta llo lhi lmo rta ron rlo rhi rmo rin res rsi rli rar xgc xca xls xtl xno lco rwa rad mth mst mse mla mmo mrc mro mrt mrm mrl mrh mwk mwt mwm mwl mwh mwi mwc mwx mar mli mgr mgo mre mfr hN hR
  have hR0 := hR
  obtain ⟨rq, cm, ar, sc, T, A, B, L, st, tm, rs, ln, gr, hJ, hO⟩ := hR0
  have S1 : CS xst xgr ltm low lta llo lhi lmo rli xgc lco rwa st tm rs ln gr := hJ.1
  have S2 : MS mst mmo mrc mro mrt mrm mrl mrh mgr mgo st tm rs gr := hJ.2.1
  obtain ⟨s1, s2, ⟨rs0, s3, s4, s5⟩, ⟨s6, s7⟩, s8, s9⟩ := S1
  obtain ⟨t1, t2, ⟨rs1, t3, t4, t5⟩, t8, t9⟩ := S2
  refine ⟨nI (rs.length + (List.range 128).countP (hasT tm) + ln.length), nI (rs.length + (List.range 128).countP (hasT tm) + ln.length), 0, ?_, ?_, rfl, rl_th hR 0⟩
  · unfold F_T_all
    rw [s4, s7, p_countAll s2, ob1_s, nI_add, s5.length_eq]
  · unfold F_M_all
    rw [t4, p_counted t1 t2, ob1_s, wait_len hJ.2.2.1.1, t5.length_eq]
theorem p_queue {qc : QC} {qm : QM} {rq : Nat → Rq} {cm : Nat → Nat} {b : MA} {st : Nat → Nat} {tm : Nat → Nat → Option Nat} {rs : List Row} {gr : List Nat} {j : Nat} (hj : j < 2 ^ 31) (S : MSa b st tm rs gr) : ∀ (post pre : List Nat) (m : Nat), post.length < m → InvQ qc qm rq cm st (pre ++ post) → pre.length ≤ j → (pre ++ post).length ≤ 8 → F_M_queue_L13 b.1 qm.2.2.2.2.2.1 qm.2.2.2.2.2.2 (nI j) m (mI post.head?) (nI pre.length) = some (mI post[j - pre.length]?) := by
  intro post
  induction post with
  | nil =>
    intro pre m hm hQ hp h8
    obtain ⟨m, rfl⟩ : ∃ z, m = z + 1 := ⟨m - 1, by omega⟩
    rw [F_M_queue_L13]
    by_cases q : nI j ≤ nI pre.length
    · rw [if_pos q]; rfl
    · rw [if_neg q, if_pos (show mI ([] : List Nat).head? < 0 by decide)]; rfl
  | cons o post ih =>
    intro pre m hm hQ hp h8
    obtain ⟨m, rfl⟩ : ∃ z, m = z + 1 := ⟨m - 1, by omega⟩
    rw [List.length_cons] at hm
    rw [List.length_append, List.length_cons] at h8
    obtain ⟨o8, o2⟩ := (hQ.1.2.1 o).mp (by simp)
    have hn : F_M_nextBehind b.1 qm.2.2.2.2.2.1 qm.2.2.2.2.2.2 (nI o) = some (mI post.head?) := p_nextM hQ S
    rw [F_M_queue_L13]
    by_cases q : j = pre.length
    · rw [if_pos (show nI j ≤ nI pre.length from nI_le (by omega) (by omega)), q, Nat.sub_self]
      rfl
    · rw [if_neg (show ¬ nI j ≤ nI pre.length from nI_ge (by omega) hj), List.head?_cons, show mI (some o) = nI o from rfl, if_neg (nI_pos (by omega)), hn, ob1_s, nI_1]
      have e : pre ++ o :: post = (pre ++ [o]) ++ post := by simp
      have := ih (pre ++ [o]) m (by omega) (e ▸ hQ) (by rw [List.length_append, List.length_singleton]; omega) (by rw [List.length_append, List.length_append, List.length_singleton]; omega)
      rw [List.length_append, List.length_singleton] at this
      rw [this, show j - pre.length = (j - (pre.length + 1)) + 1 by omega, List.getElem?_cons_succ]
theorem st_queue : St_queue Rl := by
  intro N xst xse xre xgr ltm low lta llo lhi lmo rta ron rlo rhi rmo rin res rsi rli rar xgc xca xls xtl xno lco rwa rad mth mst mse mla mmo mrc mro mrt mrm mrl mrh mwk mwt mwm mwl mwh mwi mwc mwx mar mli mgr mgo mre mfr a1 hN hR
  have hR0 := hR
  obtain ⟨rq, cm, ar, sc, T, A, B, L, st, tm, rs, ln, gr, hJ, hO⟩ := hR0
  have S1 : CS xst xgr ltm low lta llo lhi lmo rli xgc lco rwa st tm rs ln gr := hJ.1
  have S2 : MS mst mmo mrc mro mrt mrm mrl mrh mgr mgo st tm rs gr := hJ.2.1
  obtain ⟨s1, s2, ⟨rs0, s3, s4, s5⟩, ⟨s6, s7⟩, s8, s9⟩ := S1
  obtain ⟨t1, t2, ⟨rs1, t3, t4, t5⟩, t8, t9⟩ := S2
  have h8 : ln.length ≤ 8 := s6.1
  have hn : F_M_nextBehind mst mwi mwc (-1) = some (mI ln.head?) := p_nextM0 hJ.2.2.1 hJ.2.1
  by_cases h : a1 < 0
  · refine ⟨-1, -1, 0, ?_, ?_, rfl, rl_th hR 0⟩
    · unfold F_T_queue; rw [if_pos h]
    · unfold F_M_queue
      rw [hn, ob1_s, show fu = 4999 + 1 from rfl, F_M_queue_L13, if_pos (Int32.le_of_lt h), ob1_s, if_neg (Int32.not_le.mpr h)]
  · obtain ⟨j, hj, rfl⟩ := nI_of h
    refine ⟨mI ln[j]?, mI ln[j]?, 0, ?_, ?_, rfl, rl_th hR 0⟩
    · unfold F_T_queue
      rw [if_neg h, s7]
      by_cases q : j < ln.length
      · rw [if_neg (nI_ge q (by omega)), pz_gd (show j < 8 by omega) (by omega), nI_clamp (by omega), List.getElem?_eq_getElem q, s6.2.2.2 j ln[j] (List.getElem?_eq_getElem q)]
        rfl
      · rw [if_pos (nI_le (by omega) (by omega)), List.getElem?_eq_none (by omega)]
        rfl
    · unfold F_M_queue
      have := p_queue (j := j) hj hJ.2.1 ln [] fu (fu_lt (by omega)) hJ.2.2.1 (by simp) (by simpa using h8)
      rw [List.length_nil, nI_0, Nat.sub_zero] at this
      rw [hn, ob1_s, this, ob1_s, if_pos (Int32.not_lt.mp h)]
theorem st_granted : St_granted Rl := by
  intro N xst xse xre xgr ltm low lta llo lhi lmo rta ron rlo rhi rmo rin res rsi rli rar xgc xca xls xtl xno lco rwa rad mth mst mse mla mmo mrc mro mrt mrm mrl mrh mwk mwt mwm mwl mwh mwi mwc mwx mar mli mgr mgo mre mfr a1 hN hR
  have hR0 := hR
  obtain ⟨rq, cm, ar, sc, T, A, B, L, st, tm, rs, ln, gr, hJ, hO⟩ := hR0
  have S1 : CS xst xgr ltm low lta llo lhi lmo rli xgc lco rwa st tm rs ln gr := hJ.1
  have S2 : MS mst mmo mrc mro mrt mrm mrl mrh mgr mgo st tm rs gr := hJ.2.1
  obtain ⟨s1, s2, ⟨rs0, s3, s4, s5⟩, ⟨s6, s7⟩, s8, s9⟩ := S1
  obtain ⟨t1, t2, ⟨rs1, t3, t4, t5⟩, t8, t9⟩ := S2
  have h8 : gr.length ≤ 8 := by have := hJ.2.2.2.2; omega
  by_cases h : a1 < 0
  · refine ⟨-1, -1, 0, ?_, ?_, rfl, rl_th hR 0⟩
    · unfold F_T_granted; rw [if_pos h]
    · unfold F_M_granted; rw [if_pos h]
  · obtain ⟨j, hj, rfl⟩ := nI_of h
    refine ⟨mI gr[j]?, mI gr[j]?, 0, ?_, ?_, rfl, rl_th hR 0⟩
    · unfold F_T_granted
      rw [if_neg h, s9]
      by_cases q : j < gr.length
      · rw [if_neg (nI_ge q (by omega)), pz_gd (show j < 8 by omega) (by omega), nI_clamp (by omega), List.getElem?_eq_getElem q, s8 j gr[j] (List.getElem?_eq_getElem q)]
        rfl
      · rw [if_pos (nI_le (by omega) (by omega)), List.getElem?_eq_none (by omega)]
        rfl
    · unfold F_M_granted
      rw [if_neg h, t9]
      by_cases q : j < gr.length
      · rw [if_neg (nI_ge q (by omega)), pz_gd (show j < 64 by omega) (by omega), nI_clamp (by omega), List.getElem?_eq_getElem q, t8 j gr[j] (List.getElem?_eq_getElem q)]
        rfl
      · rw [if_pos (nI_le (by omega) (by omega)), List.getElem?_eq_none (by omega)]
        rfl
theorem st_join : St_join Rl := by
  intro N xst xse xre xgr ltm low lta llo lhi lmo rta ron rlo rhi rmo rin res rsi rli rar xgc xca xls xtl xno lco rwa rad mth mst mse mla mmo mrc mro mrt mrm mrl mrh mwk mwt mwm mwl mwh mwi mwc mwx mar mli mgr mgo mre mfr a1 a2 hN hR
  have hR0 := hR
  obtain ⟨rq, cm, ar, sc, T, A, B, L, st, tm, rs, ln, gr, hJ, hO⟩ := hR0
  have S1 : CS xst xgr ltm low lta llo lhi lmo rli xgc lco rwa st tm rs ln gr := hJ.1
  have S2 : MS mst mmo mrc mro mrt mrm mrl mrh mgr mgo st tm rs gr := hJ.2.1
  obtain ⟨s1, s2, ⟨rs0, s3, s4, s5⟩, ⟨s6, s7⟩, s8, s9⟩ := S1
  obtain ⟨t1, t2, ⟨rs1, t3, t4, t5⟩, t8, t9⟩ := S2
  rcases mod_cases a1 with ⟨x, hx, rfl⟩ | ⟨e1, e2⟩
  · rcases mod_cases a2 with ⟨y, hy, rfl⟩ | ⟨e3, e4⟩
    · refine ⟨0, nI (jnd x y), nI (jnd x y), 0, ?_, ?_, rfl, by omega, fun _ => rfl, rl_th hR 0⟩
      · unfold F_T_join
        simp only [modC x hx, modC y hy, p_joinedK x hx y hy, ob1_s, ob2_s, jn0, jn1, jn2, rf0, rf1, rf2, rf3, eq_self, if_true, i10, n10, n20, n30, if_false]
      · unfold F_M_join
        simp only [modM x hx, modM y hy, p_joinedM x hx y hy, ob1_s, ob2_s, jn0, jn1, jn2, rf0, rf1, rf2, rf3, eq_self, if_true, i10, n10, n20, n30, if_false]
    · refine ⟨1, 0, 0, 1, ?_, ?_, rfl, by omega, fun h => (by cases h), rl_th hR 1⟩
      · unfold F_T_join
        simp only [modC x hx, e3, ob1_s, ob2_s, jn0, jn1, jn2, rf0, rf1, rf2, rf3, eq_self, if_true, i10, n10, n20, n30, if_false]
      · unfold F_M_join
        simp only [modM x hx, e4, ob1_s, ob2_s, jn0, jn1, jn2, rf0, rf1, rf2, rf3, eq_self, if_true, i10, n10, n20, n30, if_false]
  · refine ⟨1, 0, 0, 1, ?_, ?_, rfl, by omega, fun h => (by cases h), rl_th hR 1⟩
    · unfold F_T_join
      simp only [e1, ob1_s, ob2_s, jn0, jn1, jn2, rf0, rf1, rf2, rf3, eq_self, if_true, i10, n10, n20, n30, if_false]
    · unfold F_M_join
      simp only [e2, ob1_s, ob2_s, jn0, jn1, jn2, rf0, rf1, rf2, rf3, eq_self, if_true, i10, n10, n20, n30, if_false]
theorem st_behind : St_behind Rl := by
  intro N xst xse xre xgr ltm low lta llo lhi lmo rta ron rlo rhi rmo rin res rsi rli rar xgc xca xls xtl xno lco rwa rad mth mst mse mla mmo mrc mro mrt mrm mrl mrh mwk mwt mwm mwl mwh mwi mwc mwx mar mli mgr mgo mre mfr a1 hN hR
  have hR0 := hR
  obtain ⟨rq, cm, ar, sc, T, A, B, L, st, tm, rs, ln, gr, hJ, hO⟩ := hR0
  have S1 : CS xst xgr ltm low lta llo lhi lmo rli xgc lco rwa st tm rs ln gr := hJ.1
  have S2 : MS mst mmo mrc mro mrt mrm mrl mrh mgr mgo st tm rs gr := hJ.2.1
  obtain ⟨s1, s2, ⟨rs0, s3, s4, s5⟩, ⟨s6, s7⟩, s8, s9⟩ := S1
  obtain ⟨t1, t2, ⟨rs1, t3, t4, t5⟩, t8, t9⟩ := S2
  rcases own_cases a1 with ⟨o, ho, rfl⟩ | ⟨e1, e2⟩
  · refine ⟨0, nI (if st o = 2 then bm (blkC tm rs ln rq o) 8 else 0), nI (if st o = 2 then bm (blkC tm rs ln rq o) 8 else 0), 0, ?_, ?_, rfl, by omega, fun _ => rfl, rl_th hR 0⟩
    · unfold F_T_behind
      have c0 : xst o = 2 ↔ st o = 2 := s1.eq (k := 2) ho (by omega)
      simp only [ownC o ho, ob1_s, ob2_s, jn0, jn1, jn2, rf0, rf1, rf2, rf3, eq_self, if_true, i10, n10, n20, n30, if_false, nI_clamp (show o < 2 ^ 31 by omega), pz_gd2 ho (show 8 < 2 ^ 31 by omega), c0]
      by_cases q : st o = 2
      · have hb : F_T_blockers ltm low lta llo lhi lmo rta ron rlo rhi rmo rli lco rwa (nI o) = some (nI (bm (blkC tm rs ln rq o) 8)) := p_blockersC hJ.2.2.1 hJ.1 ((hJ.2.2.1.1.2.1 o).mpr ⟨ho, q⟩)
        rw [if_pos q, if_pos q, hb, ob1_s]
      · rw [if_neg q, if_neg q]; rfl
    · unfold F_M_behind
      have hb : F_M_behindOf mst mmo mrc mro mrt mrm mrl mrh mwk mwt mwm mwl mwh mwi mwc (nI o) = some (nI (if st o = 2 then bm (blkC tm rs ln rq o) 8 else 0)) := p_behindM hJ.2.2.1 hJ.2.1 ho
      simp only [ownM o ho, hb, ob1_s, ob2_s, jn0, jn1, jn2, rf0, rf1, rf2, rf3, eq_self, if_true, i10, n10, n20, n30, if_false]
  · refine ⟨1, 0, 0, 1, ?_, ?_, rfl, by omega, fun h => (by cases h), rl_th hR 1⟩
    · unfold F_T_behind
      simp only [e1, ob1_s, ob2_s, jn0, jn1, jn2, rf0, rf1, rf2, rf3, eq_self, if_true, i10, n10, n20, n30, if_false]
    · unfold F_M_behind
      simp only [e2, ob1_s, ob2_s, jn0, jn1, jn2, rf0, rf1, rf2, rf3, eq_self, if_true, i10, n10, n20, n30, if_false]
