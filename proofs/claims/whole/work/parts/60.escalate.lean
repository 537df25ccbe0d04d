/-! escalate -/
theorem cnt_any {rs : List Row} {o t : Nat} (h : ¬ rs.countP (isOnB o t) = 0) : rs.any (isOnB o t) = true := by
  obtain ⟨r, r1, r2⟩ := List.countP_pos_iff.mp (Nat.pos_of_ne_zero h)
  exact List.any_eq_true.mpr ⟨r, r1, r2⟩
theorem any_held {rq : Nat → Rq} {tm : Nat → Nat → Option Nat} {rs : List Row} {ln : List Nat} (h : InvR rq tm rs ln) {o t : Nat} (ha : rs.any (isOnB o t) = true) : ∃ x, tm o t = some x := by
  obtain ⟨r, r1, r2⟩ := List.any_eq_true.mp ha
  obtain ⟨x, x1, -⟩ := h.2.2.2.2.1 r r1
  unfold isOnB at r2
  simp at r2
  rw [r2.1, r2.2] at x1
  exact ⟨x, x1⟩
theorem st_escalate : St_escalate Rl := by
  intro N xst xse xre xgr ltm low lta llo lhi lmo rta ron rlo rhi rmo rin res rsi rli rar xgc xca xls xtl xno lco rwa rad mth mst mse mla mmo mrc mro mrt mrm mrl mrh mwk mwt mwm mwl mwh mwi mwc mwx mar mli mgr mgo mre mfr a1 a2 hN hR
  have hR0 := hR
  obtain ⟨rq, cm, ar, sc, T, A, B, L, st, tm, rs, ln, gr, hJ, hO⟩ := hR0
  have S1 : CS xst xgr ltm low lta llo lhi lmo rli xgc lco rwa st tm rs ln gr := hJ.1
  have S2 : MS mst mmo mrc mro mrt mrm mrl mrh mgr mgo st tm rs gr := hJ.2.1
  rcases own_cases a1 with ⟨o, ho, rfl⟩ | ⟨e1, e2⟩
  · rcases tab_cases a2 with ⟨t, ht, rfl⟩ | ⟨e1, e2⟩
    · have d1 : mst o = 1 ↔ st o = 1 := S2.1.eq (k := 1) ho (by omega)
      have hc8 := hJ.2.2.2.1.2.1 o t
      have hcC : F_L_countRanges low lta lco (nI o) (nI t) = some (nI (rs.countP (isOnB o t))) := by
        obtain ⟨rs0, s3, s4, s5⟩ := S1.2.2.1
        rw [s4, p_countRanges s3 ho ht, s5.countP_eq]
      have hcM : F_M_rangesOf mrc mro mrt (nI o) (nI t) = some (nI (rs.countP (isOnB o t))) := by
        obtain ⟨rs0, s3, s4, s5⟩ := S2.2.2.1
        rw [s4, p_rangesOf s3 ho ht, s5.countP_eq]
      have hc0 : nI (rs.countP (isOnB o t)) = 0 ↔ rs.countP (isOnB o t) = 0 := nI_eq (b := 0) (by omega) (by omega)
      by_cases q1 : st o = 1
      · by_cases qc : rs.countP (isOnB o t) = 0
        · refine ⟨3, 0, xst, xre, xgr, ltm, low, lta, llo, lhi, lmo, rta, ron, rmo, rin, res, rsi, rli, rar, xgc, xca, lco, rwa, rad, 0, 3, mst, mmo, mrc, mro, mrt, mrm, mrl, mrh, mwk, mwt, mwm, mwi, mwc, mwx, mar, mgr, mgo, mre, mfr, ?_, ?_, rfl, by omega, fun h => (by cases h), rl_th hR 3⟩
          · unfold F_T_escalate
            simp only [ownC o ho, tabC t ht, p_works S1.1 ho, q1, hcC, hc0, qc, nI_0, ob1_s, ob2_s, jn0, jn1, jn2, rf0, rf1, rf2, rf3, eq_self, if_true, i10, n10, n20, n30, if_false]
          · unfold F_M_escalate
            simp only [ownM o ho, tabM t ht, nI_clamp (show o < 2 ^ 31 by omega), pz_gd2 ho (show 8 < 2 ^ 31 by omega), d1, q1, hcM, hc0, qc, nI_0, jn3, ob1_s, ob2_s, jn0, jn1, jn2, rf0, rf1, rf2, rf3, eq_self, if_true, i10, n10, n20, n30, if_false]
        · have hany := cnt_any qc
          obtain ⟨h, hh⟩ := any_held hJ.2.2.2.1 hany
          obtain ⟨M, hM⟩ : ∃ M, M = jnd h (sB false rs o t) := ⟨_, rfl⟩
          have hse := p_setEsc S1.2.1 S1.2.2.1 ho ht hh (f := false) (x := 2) (by simp) hM rta ron rmo rin res
          obtain ⟨r, a', b', re', rem', k', t', m', i', c', w', mar', rq', cm', ar', sc', A', B', st', tm', rs', ln', gr', f1, f2, f3, f4⟩ := p_esc hJ hO hN ho ht q1 hany hh (f := false) (y := 0) (by simp) hM xre mre
          have f1' : F_T_ask xst xse xre xgr ltm low lta llo lhi lmo (upd rta o (nI t)) (upd ron o 0) rlo rhi (upd rmo o (nI M)) (upd rin o 1) (upd res o 1) rsi rli rar 0 (nI o) xno lco rwa rad (nI o) = some (AR r a' re' (upd rsi o xno) (upd rar o rad) (rad + 1)) := f1
          have f2' : F_M_escalated mst mse mmo mrc mro mrt mrm mrl mrh mwk mwt mwm mwl mwh mwi mwc mwx mar 0 mgo mre mfr (nI o) (nI t) 0 = some (ER r b' k' t' m' i' c' w' mar' rem') := f2
          refine ⟨0, r, a'.1, re', a'.2.1, a'.2.2.1, a'.2.2.2.1, a'.2.2.2.2.1, a'.2.2.2.2.2.1, a'.2.2.2.2.2.2.1, a'.2.2.2.2.2.2.2.1, upd rta o (nI t), upd ron o 0, upd rmo o (nI M), upd rin o 1, upd res o 1, upd rsi o xno, a'.2.2.2.2.2.2.2.2.1, upd rar o rad, a'.2.2.2.2.2.2.2.2.2.1, nI o, a'.2.2.2.2.2.2.2.2.2.2.1, a'.2.2.2.2.2.2.2.2.2.2.2, rad + 1, r, 0, b'.1, b'.2.1, b'.2.2.1, b'.2.2.2.1, b'.2.2.2.2.1, b'.2.2.2.2.2.1, b'.2.2.2.2.2.2.1, b'.2.2.2.2.2.2.2.1, k', t', m', i', c', w', mar', b'.2.2.2.2.2.2.2.2.1, b'.2.2.2.2.2.2.2.2.2.1, rem', b'.2.2.2.2.2.2.2.2.2.2, ?_, ?_, rfl, by omega, fun _ => rfl, rq', cm', ar', sc', T, A', B', L, st', tm', rs', ln', gr', f3, f4⟩
          · unfold F_T_escalate F_T_startCall
            simp only [ownC o ho, tabC t ht, p_works S1.1 ho, q1, hcC, hc0, qc, nI_0, hse, ob5_s, ob1_s, ob2_s, jn0, jn1, jn2, rf0, rf1, rf2, rf3, eq_self, if_true, i10, n10, n20, n30, if_false]
            rw [f1']
            rfl
          · unfold F_M_escalate
            simp only [ownM o ho, tabM t ht, nI_clamp (show o < 2 ^ 31 by omega), pz_gd2 ho (show 8 < 2 ^ 31 by omega), d1, q1, hcM, hc0, qc, nI_0, jn3, ob1_s, ob2_s, jn0, jn1, jn2, rf0, rf1, rf2, rf3, eq_self, if_true, i10, n10, n20, n30, if_false]
            rw [f2']
            rfl
      · refine ⟨2, 0, xst, xre, xgr, ltm, low, lta, llo, lhi, lmo, rta, ron, rmo, rin, res, rsi, rli, rar, xgc, xca, lco, rwa, rad, 0, 2, mst, mmo, mrc, mro, mrt, mrm, mrl, mrh, mwk, mwt, mwm, mwi, mwc, mwx, mar, mgr, mgo, mre, mfr, ?_, ?_, rfl, by omega, fun h => (by cases h), rl_th hR 2⟩
        · unfold F_T_escalate
          simp only [ownC o ho, tabC t ht, p_works S1.1 ho, q1, ob1_s, ob2_s, jn0, jn1, jn2, rf0, rf1, rf2, rf3, eq_self, if_true, i10, n10, n20, n30, if_false]
        · unfold F_M_escalate
          by_cases qc : rs.countP (isOnB o t) = 0
          · simp only [ownM o ho, tabM t ht, nI_clamp (show o < 2 ^ 31 by omega), pz_gd2 ho (show 8 < 2 ^ 31 by omega), d1, q1, hcM, hc0, qc, nI_0, jn3, ob1_s, ob2_s, jn0, jn1, jn2, rf0, rf1, rf2, rf3, eq_self, if_true, i10, n10, n20, n30, if_false]
          · simp only [ownM o ho, tabM t ht, nI_clamp (show o < 2 ^ 31 by omega), pz_gd2 ho (show 8 < 2 ^ 31 by omega), d1, q1, hcM, hc0, qc, nI_0, jn3, ob1_s, ob2_s, jn0, jn1, jn2, rf0, rf1, rf2, rf3, eq_self, if_true, i10, n10, n20, n30, if_false]
    · refine ⟨1, 0, xst, xre, xgr, ltm, low, lta, llo, lhi, lmo, rta, ron, rmo, rin, res, rsi, rli, rar, xgc, xca, lco, rwa, rad, 0, 1, mst, mmo, mrc, mro, mrt, mrm, mrl, mrh, mwk, mwt, mwm, mwi, mwc, mwx, mar, mgr, mgo, mre, mfr, ?_, ?_, rfl, by omega, fun h => (by cases h), rl_th hR 1⟩
      · unfold F_T_escalate
        simp only [ownC o ho, e1, ob1_s, ob2_s, jn0, jn1, jn2, rf0, rf1, rf2, rf3, eq_self, if_true, i10, n10, n20, n30, if_false]
      · unfold F_M_escalate
        simp only [ownM o ho, e2, jn3, ob1_s, ob2_s, jn0, jn1, jn2, rf0, rf1, rf2, rf3, eq_self, if_true, i10, n10, n20, n30, if_false]
  · refine ⟨1, 0, xst, xre, xgr, ltm, low, lta, llo, lhi, lmo, rta, ron, rmo, rin, res, rsi, rli, rar, xgc, xca, lco, rwa, rad, 0, 1, mst, mmo, mrc, mro, mrt, mrm, mrl, mrh, mwk, mwt, mwm, mwi, mwc, mwx, mar, mgr, mgo, mre, mfr, ?_, ?_, rfl, by omega, fun h => (by cases h), rl_th hR 1⟩
    · unfold F_T_escalate
      simp only [e1, ob1_s, ob2_s, jn0, jn1, jn2, rf0, rf1, rf2, rf3, eq_self, if_true, i10, n10, n20, n30, if_false]
    · unfold F_M_escalate
      simp only [e2, jn3, ob1_s, ob2_s, jn0, jn1, jn2, rf0, rf1, rf2, rf3, eq_self, if_true, i10, n10, n20, n30, if_false]
