/-! cancel, prepare, unread, end -/
theorem st_cancel : St_cancel Rl := by
  intro N xst xse xre xgr ltm low lta llo lhi lmo rta ron rlo rhi rmo rin res rsi rli rar xgc xca xls xtl xno lco rwa rad mth mst mse mla mmo mrc mro mrt mrm mrl mrh mwk mwt mwm mwl mwh mwi mwc mwx mar mli mgr mgo mre mfr a1 hN hR
  have hR0 := hR
  obtain ⟨rq, cm, ar, sc, T, A, B, L, st, tm, rs, ln, gr, hJ, hO⟩ := hR0
  have s1 : stAt xst st := hJ.1.1
  have t1 : stAt mst st := hJ.2.1.1
  rcases own_cases a1 with ⟨o, ho, rfl⟩ | ⟨e1, e2⟩
  · have c0 : xst o = 2 ↔ st o = 2 := s1.eq (k := 2) ho (by omega)
    have d0 : mst o = 2 ↔ st o = 2 := t1.eq (k := 2) ho (by omega)
    by_cases q : st o = 2
    · obtain ⟨r, w, e1, hJ2⟩ := hJ.fresh.back (o := o) (v := 1) ho (by omega) (by omega)
      obtain ⟨⟨x1, x2, x3, x4, x5, x6, x7, x8, x9, x10, x11, x12⟩, ⟨y1, y2, y3, y4, y5, y6, y7, y8, y9, y10, y11⟩, st', tm', rs', ln', gr', g1, g2, hJ3, hS⟩ := p_look (xca := nI o) (own := -1) hJ2 (sub1 o hJ2.lt8 ho (fun m => (mem_gLn.mp m).2 rfl))
      have e1' : F_T_takeBack xst rli rwa (nI o) 1 = some (upd xst o 1, r, w) := e1
      have g1' : F_T_lookAtAll (upd xst o 1) xgr ltm low lta llo lhi lmo rta ron rlo rhi rmo res r 0 (nI o) lco w = some (x1, x2, x3, x4, x5, x6, x7, x8, x9, x10, x11, x12) := g1
      have g2' : F_M_look (upd mst o 1) mmo mrc mro mrt mrm mrl mrh mwk mwt mwm mwl mwh mwi mwc 0 mgo mfr (-1) = some (y1, y2, y3, y4, y5, y6, y7, y8, y9, y10, y11) := g2
      have z1 : x10 = nI gr'.length := hJ3.1.2.2.2.2.2
      have z2 : y9 = nI gr'.length := hJ3.2.1.2.2.2.2
      refine ⟨0, x10, x1, x2, x3, x4, x5, x6, x7, x8, x9, x10, nI o, x11, x12, y9, 0, y1, y2, y3, y4, y5, y6, y7, y8, y9, y10, y11, ?_, ?_, rfl, by omega, fun _ => by rw [z1, z2], rq, cm, ar, sc, T, A, B, L, st', tm', rs', ln', gr', hJ3, hO.mono (fun x hx => ?_) (fun x hx => ?_)⟩
      · unfold F_T_cancel F_T_checkWaits F_T_startCall
        simp only [ownC o ho, ob1_s, ob2_s, jn0, jn1, jn2, rf0, rf1, rf2, rf3, eq_self, if_true, i10, n10, n20, n30, if_false, nI_clamp (show o < 2 ^ 31 by omega), pz_gd2 ho (show 8 < 2 ^ 31 by omega), c0, q, e1', ob3_s, g1', ob12_s]
      · unfold F_M_cancel F_M_isIn
        simp only [ownM o ho, ob1_s, ob2_s, jn0, jn1, jn2, rf0, rf1, rf2, rf3, eq_self, if_true, i10, n10, n20, n30, if_false, nI_clamp (show o < 2 ^ 31 by omega), pz_gd2 ho (show 8 < 2 ^ 31 by omega), d0, q, g2', ob11_s]
      · rw [hS.toD.zero hJ2.2.2.1 hJ3.2.2.1 x]
        exact stSet_0 (by omega) (by omega) x
      · exact (mem_gLn.mp (hS.1.mem hx)).1
    · refine ⟨2, 0, xst, xgr, ltm, low, lta, llo, lhi, lmo, rli, xgc, xca, lco, rwa, 0, 2, mst, mmo, mrc, mro, mrt, mrm, mrl, mrh, mgr, mgo, mfr, ?_, ?_, rfl, by omega, fun h => (by cases h), rl_th hR 2⟩
      · unfold F_T_cancel F_T_checkWaits
        simp only [ownC o ho, nI_clamp (show o < 2 ^ 31 by omega), pz_gd2 ho (show 8 < 2 ^ 31 by omega), c0, q, ob1_s, ob2_s, jn0, jn1, jn2, rf0, rf1, rf2, rf3, eq_self, if_true, i10, n10, n20, n30, if_false]
      · unfold F_M_cancel F_M_isIn
        simp only [ownM o ho, nI_clamp (show o < 2 ^ 31 by omega), pz_gd2 ho (show 8 < 2 ^ 31 by omega), d0, q, ob1_s, ob2_s, jn0, jn1, jn2, rf0, rf1, rf2, rf3, eq_self, if_true, i10, n10, n20, n30, if_false]
  · refine ⟨1, 0, xst, xgr, ltm, low, lta, llo, lhi, lmo, rli, xgc, xca, lco, rwa, 0, 1, mst, mmo, mrc, mro, mrt, mrm, mrl, mrh, mgr, mgo, mfr, ?_, ?_, rfl, by omega, fun h => (by cases h), rl_th hR 1⟩
    · unfold F_T_cancel F_T_checkWaits
      simp only [e1, ob1_s, ob2_s, jn0, jn1, jn2, rf0, rf1, rf2, rf3, eq_self, if_true, i10, n10, n20, n30, if_false]
    · unfold F_M_cancel F_M_isIn
      simp only [e2, ob1_s, ob2_s, jn0, jn1, jn2, rf0, rf1, rf2, rf3, eq_self, if_true, i10, n10, n20, n30, if_false]
theorem st_prepare : St_prepare Rl := by
  intro N xst xse xre xgr ltm low lta llo lhi lmo rta ron rlo rhi rmo rin res rsi rli rar xgc xca xls xtl xno lco rwa rad mth mst mse mla mmo mrc mro mrt mrm mrl mrh mwk mwt mwm mwl mwh mwi mwc mwx mar mli mgr mgo mre mfr a1 hN hR
  have hR0 := hR
  obtain ⟨rq, cm, ar, sc, T, A, B, L, st, tm, rs, ln, gr, hJ, hO⟩ := hR0
  have s1 : stAt xst st := hJ.1.1
  have t1 : stAt mst st := hJ.2.1.1
  rcases own_cases a1 with ⟨o, ho, rfl⟩ | ⟨e1, e2⟩
  · have c0 : xst o = 1 ↔ st o = 1 := s1.eq (k := 1) ho (by omega)
    have d0 : mst o = 1 ↔ st o = 1 := t1.eq (k := 1) ho (by omega)
    by_cases q : st o = 1
    · have hol : o ∉ ln := hJ.notIn (by omega)
      obtain ⟨u1, u2, u3, u4, u5, u6, u7, v1, v2, v3, v4, v5, v6, v7, e1, e2, hJ2⟩ := (hJ.fresh.state (o := o) (v := 4) (by omega) (by omega) (by omega)).reading (o := o) ho hol
      obtain ⟨⟨x1, x2, x3, x4, x5, x6, x7, x8, x9, x10, x11, x12⟩, ⟨y1, y2, y3, y4, y5, y6, y7, y8, y9, y10, y11⟩, st', tm', rs', ln', gr', g1, g2, hJ3, hS⟩ := p_look (xca := nI o) (own := -1) hJ2 (sub1 o hJ2.lt8 ho hol)
      have e1' : F_L_dropReading ltm low lta llo lhi lmo lco (nI o) = some (u1, u2, u3, u4, u5, u6, u7) := e1
      have e2' : F_M_giveReading mmo mrc mro mrt mrm mrl mrh (nI o) = some (v1, v2, v3, v4, v5, v6, v7) := e2
      have g1' : F_T_lookAtAll (upd xst o 4) xgr u1 u2 u3 u4 u5 u6 rta ron rlo rhi rmo res rli 0 (nI o) u7 rwa = some (x1, x2, x3, x4, x5, x6, x7, x8, x9, x10, x11, x12) := g1
      have g2' : F_M_look (upd mst o 4) v1 v2 v3 v4 v5 v6 v7 mwk mwt mwm mwl mwh mwi mwc 0 mgo mfr (-1) = some (y1, y2, y3, y4, y5, y6, y7, y8, y9, y10, y11) := g2
      have hJ3' := hJ3
      obtain ⟨⟨a1', a2', ⟨ra, a3', a4', a5'⟩, a6', a7'⟩, ⟨b1', b2', ⟨rb', b3', b4', b5'⟩, b6'⟩, -, -, -⟩ := hJ3'
      have k1 : F_L_countOf x3 x4 x11 (nI o) = some (nI (cntO tm' rs' o)) := by
        have : x11 = nI ra.length := a4'
        rw [this]
        have h := p_countOf a3' a2' ho
        rw [show cntO tm' ra o = cntO tm' rs' o by unfold cntO; rw [a5'.countP_eq]] at h
        exact h
      have k2 : F_M_locksOf y2 y3 y4 (nI o) = some (nI (cntO tm' rs' o)) := by
        have : y3 = nI rb'.length := b4'
        rw [this]
        have h := p_locksOf b3' b2' ho
        rw [show cntO tm' rb' o = cntO tm' rs' o by unfold cntO; rw [b5'.countP_eq]] at h
        exact h
      refine ⟨0, nI (cntO tm' rs' o), x1, x2, x3, x4, x5, x6, x7, x8, x9, x10, nI o, x11, x12, nI (cntO tm' rs' o), 0, y1, y2, y3, y4, y5, y6, y7, y8, y9, y10, y11, ?_, ?_, rfl, by omega, fun _ => rfl, rq, cm, ar, sc, T, A, B, L, st', tm', rs', ln', gr', hJ3, hO.mono (fun x hx => ?_) (fun x hx => hS.1.mem hx)⟩
      · unfold F_T_prepare F_T_checkWorks F_T_startCall
        simp only [ownC o ho, ob1_s, ob2_s, jn0, jn1, jn2, rf0, rf1, rf2, rf3, eq_self, if_true, i10, n10, n20, n30, if_false, nI_clamp (show o < 2 ^ 31 by omega), pz_gd2 ho (show 8 < 2 ^ 31 by omega), c0, q, e1', ob7_s, g1', ob12_s, k1]
      · unfold F_M_prepare F_M_isIn
        simp only [ownM o ho, ob1_s, ob2_s, jn0, jn1, jn2, rf0, rf1, rf2, rf3, eq_self, if_true, i10, n10, n20, n30, if_false, nI_clamp (show o < 2 ^ 31 by omega), pz_gd2 ho (show 8 < 2 ^ 31 by omega), d0, q, e2', ob7_s, g2', ob11_s, k2]
      · rw [hS.toD.zero hJ2.2.2.1 hJ3.2.2.1 x]
        exact stSet_0 (by omega) (by omega) x
    · refine ⟨2, 0, xst, xgr, ltm, low, lta, llo, lhi, lmo, rli, xgc, xca, lco, rwa, 0, 2, mst, mmo, mrc, mro, mrt, mrm, mrl, mrh, mgr, mgo, mfr, ?_, ?_, rfl, by omega, fun h => (by cases h), rl_th hR 2⟩
      · unfold F_T_prepare F_T_checkWorks
        simp only [ownC o ho, nI_clamp (show o < 2 ^ 31 by omega), pz_gd2 ho (show 8 < 2 ^ 31 by omega), c0, q, ob1_s, ob2_s, jn0, jn1, jn2, rf0, rf1, rf2, rf3, eq_self, if_true, i10, n10, n20, n30, if_false]
      · unfold F_M_prepare F_M_isIn
        simp only [ownM o ho, nI_clamp (show o < 2 ^ 31 by omega), pz_gd2 ho (show 8 < 2 ^ 31 by omega), d0, q, ob1_s, ob2_s, jn0, jn1, jn2, rf0, rf1, rf2, rf3, eq_self, if_true, i10, n10, n20, n30, if_false]
  · refine ⟨1, 0, xst, xgr, ltm, low, lta, llo, lhi, lmo, rli, xgc, xca, lco, rwa, 0, 1, mst, mmo, mrc, mro, mrt, mrm, mrl, mrh, mgr, mgo, mfr, ?_, ?_, rfl, by omega, fun h => (by cases h), rl_th hR 1⟩
    · unfold F_T_prepare F_T_checkWorks
      simp only [e1, ob1_s, ob2_s, jn0, jn1, jn2, rf0, rf1, rf2, rf3, eq_self, if_true, i10, n10, n20, n30, if_false]
    · unfold F_M_prepare F_M_isIn
      simp only [e2, ob1_s, ob2_s, jn0, jn1, jn2, rf0, rf1, rf2, rf3, eq_self, if_true, i10, n10, n20, n30, if_false]
theorem st_unread : St_unread Rl := by
  intro N xst xse xre xgr ltm low lta llo lhi lmo rta ron rlo rhi rmo rin res rsi rli rar xgc xca xls xtl xno lco rwa rad mth mst mse mla mmo mrc mro mrt mrm mrl mrh mwk mwt mwm mwl mwh mwi mwc mwx mar mli mgr mgo mre mfr a1 hN hR
  have hR0 := hR
  obtain ⟨rq, cm, ar, sc, T, A, B, L, st, tm, rs, ln, gr, hJ, hO⟩ := hR0
  have s1 : stAt xst st := hJ.1.1
  have t1 : stAt mst st := hJ.2.1.1
  rcases own_cases a1 with ⟨o, ho, rfl⟩ | ⟨e1, e2⟩
  · have c0 : xst o = 1 ↔ st o = 1 := s1.eq (k := 1) ho (by omega)
    have d0 : mst o = 1 ↔ st o = 1 := t1.eq (k := 1) ho (by omega)
    by_cases q : st o = 1
    · have hol : o ∉ ln := hJ.notIn (by omega)
      obtain ⟨u1, u2, u3, u4, u5, u6, u7, v1, v2, v3, v4, v5, v6, v7, e1, e2, hJ2⟩ := hJ.fresh.reading (o := o) ho hol
      obtain ⟨⟨x1, x2, x3, x4, x5, x6, x7, x8, x9, x10, x11, x12⟩, ⟨y1, y2, y3, y4, y5, y6, y7, y8, y9, y10, y11⟩, st', tm', rs', ln', gr', g1, g2, hJ3, hS⟩ := p_look (xca := nI o) (own := -1) hJ2 (sub1 o hJ2.lt8 ho hol)
      have e1' : F_L_dropReading ltm low lta llo lhi lmo lco (nI o) = some (u1, u2, u3, u4, u5, u6, u7) := e1
      have e2' : F_M_giveReading mmo mrc mro mrt mrm mrl mrh (nI o) = some (v1, v2, v3, v4, v5, v6, v7) := e2
      have g1' : F_T_lookAtAll xst xgr u1 u2 u3 u4 u5 u6 rta ron rlo rhi rmo res rli 0 (nI o) u7 rwa = some (x1, x2, x3, x4, x5, x6, x7, x8, x9, x10, x11, x12) := g1
      have g2' : F_M_look mst v1 v2 v3 v4 v5 v6 v7 mwk mwt mwm mwl mwh mwi mwc 0 mgo mfr (-1) = some (y1, y2, y3, y4, y5, y6, y7, y8, y9, y10, y11) := g2
      have z1 : x10 = nI gr'.length := hJ3.1.2.2.2.2.2
      have z2 : y9 = nI gr'.length := hJ3.2.1.2.2.2.2
      refine ⟨0, x10, x1, x2, x3, x4, x5, x6, x7, x8, x9, x10, nI o, x11, x12, y9, 0, y1, y2, y3, y4, y5, y6, y7, y8, y9, y10, y11, ?_, ?_, rfl, by omega, fun _ => by rw [z1, z2], rq, cm, ar, sc, T, A, B, L, st', tm', rs', ln', gr', hJ3, hO.mono (fun x hx => ?_) (fun x hx => hS.1.mem hx)⟩
      · unfold F_T_unread F_T_checkWorks F_T_startCall
        simp only [ownC o ho, ob1_s, ob2_s, jn0, jn1, jn2, rf0, rf1, rf2, rf3, eq_self, if_true, i10, n10, n20, n30, if_false, nI_clamp (show o < 2 ^ 31 by omega), pz_gd2 ho (show 8 < 2 ^ 31 by omega), c0, q, e1', ob7_s, g1', ob12_s]
      · unfold F_M_unread F_M_isIn
        simp only [ownM o ho, ob1_s, ob2_s, jn0, jn1, jn2, rf0, rf1, rf2, rf3, eq_self, if_true, i10, n10, n20, n30, if_false, nI_clamp (show o < 2 ^ 31 by omega), pz_gd2 ho (show 8 < 2 ^ 31 by omega), d0, q, e2', ob7_s, g2', ob11_s]
      · rw [hS.toD.zero hJ2.2.2.1 hJ3.2.2.1 x]
        
    · refine ⟨2, 0, xst, xgr, ltm, low, lta, llo, lhi, lmo, rli, xgc, xca, lco, rwa, 0, 2, mst, mmo, mrc, mro, mrt, mrm, mrl, mrh, mgr, mgo, mfr, ?_, ?_, rfl, by omega, fun h => (by cases h), rl_th hR 2⟩
      · unfold F_T_unread F_T_checkWorks
        simp only [ownC o ho, nI_clamp (show o < 2 ^ 31 by omega), pz_gd2 ho (show 8 < 2 ^ 31 by omega), c0, q, ob1_s, ob2_s, jn0, jn1, jn2, rf0, rf1, rf2, rf3, eq_self, if_true, i10, n10, n20, n30, if_false]
      · unfold F_M_unread F_M_isIn
        simp only [ownM o ho, nI_clamp (show o < 2 ^ 31 by omega), pz_gd2 ho (show 8 < 2 ^ 31 by omega), d0, q, ob1_s, ob2_s, jn0, jn1, jn2, rf0, rf1, rf2, rf3, eq_self, if_true, i10, n10, n20, n30, if_false]
  · refine ⟨1, 0, xst, xgr, ltm, low, lta, llo, lhi, lmo, rli, xgc, xca, lco, rwa, 0, 1, mst, mmo, mrc, mro, mrt, mrm, mrl, mrh, mgr, mgo, mfr, ?_, ?_, rfl, by omega, fun h => (by cases h), rl_th hR 1⟩
    · unfold F_T_unread F_T_checkWorks
      simp only [e1, ob1_s, ob2_s, jn0, jn1, jn2, rf0, rf1, rf2, rf3, eq_self, if_true, i10, n10, n20, n30, if_false]
    · unfold F_M_unread F_M_isIn
      simp only [e2, ob1_s, ob2_s, jn0, jn1, jn2, rf0, rf1, rf2, rf3, eq_self, if_true, i10, n10, n20, n30, if_false]
theorem st_end : St_end Rl := by
  intro N xst xse xre xgr ltm low lta llo lhi lmo rta ron rlo rhi rmo rin res rsi rli rar xgc xca xls xtl xno lco rwa rad mth mst mse mla mmo mrc mro mrt mrm mrl mrh mwk mwt mwm mwl mwh mwi mwc mwx mar mli mgr mgo mre mfr a1 hN hR
  have hR0 := hR
  obtain ⟨rq, cm, ar, sc, T, A, B, L, st, tm, rs, ln, gr, hJ, hO⟩ := hR0
  have s1 : stAt xst st := hJ.1.1
  have t1 : stAt mst st := hJ.2.1.1
  rcases own_cases a1 with ⟨o, ho, rfl⟩ | ⟨e1, e2⟩
  · have c0 : xst o = 0 ↔ st o = 0 := s1.eq (k := 0) ho (by omega)
    have d0 : mst o = 0 ↔ st o = 0 := t1.eq (k := 0) ho (by omega)
    by_cases q : st o = 0
    · refine ⟨2, 0, xst, xse, xgr, ltm, low, lta, llo, lhi, lmo, rli, xgc, xca, lco, rwa, 0, 2, mst, mmo, mrc, mro, mrt, mrm, mrl, mrh, mgr, mgo, mfr, ?_, ?_, rfl, by omega, fun h => (by cases h), rl_th hR 2⟩
      · unfold F_T_end
        simp only [ownC o ho, nI_clamp (show o < 2 ^ 31 by omega), pz_gd2 ho (show 8 < 2 ^ 31 by omega), c0, q, ob1_s, ob2_s, jn0, jn1, jn2, rf0, rf1, rf2, rf3, eq_self, if_true, i10, n10, n20, n30, if_false]
      · unfold F_M_end F_M_isIn
        simp only [ownM o ho, nI_clamp (show o < 2 ^ 31 by omega), pz_gd2 ho (show 8 < 2 ^ 31 by omega), d0, q, ob1_s, ob2_s, jn0, jn1, jn2, rf0, rf1, rf2, rf3, eq_self, if_true, i10, n10, n20, n30, if_false]
    · obtain ⟨r, w, e0, hJ1⟩ := hJ.fresh.back (o := o) (v := 0) ho (by omega) (by omega)
      have hol : o ∉ gLn o ln := fun m => (mem_gLn.mp m).2 rfl
      obtain ⟨u1, u2, u3, u4, u5, u6, u7, v1, v2, v3, v4, v5, v6, v7, v8, e1, e2, hJ2⟩ := hJ1.all ho hol mfr
      obtain ⟨⟨x1, x2, x3, x4, x5, x6, x7, x8, x9, x10, x11, x12⟩, ⟨y1, y2, y3, y4, y5, y6, y7, y8, y9, y10, y11⟩, st', tm', rs', ln', gr', g1, g2, hJ3, hS⟩ := p_look (xca := nI o) (own := -1) hJ2 (sub1 o hJ2.lt8 ho hol)
      have e0' : F_T_takeBack xst rli rwa (nI o) 0 = some (upd xst o 0, r, w) := e0
      have e1' : F_L_dropAll ltm low lta llo lhi lmo lco (nI o) = some (u1, u2, u3, u4, u5, u6, u7) := e1
      have e2' : F_M_end_L42 (nI o) fu mmo mrc mro mrt mrm mrl mrh mfr 0 = some (v1, v2, v3, v4, v5, v6, v7, v8) := e2
      have g1' : F_T_lookAtAll (upd xst o 0) xgr u1 u2 u3 u4 u5 u6 rta ron rlo rhi rmo res r 0 (nI o) u7 w = some (x1, x2, x3, x4, x5, x6, x7, x8, x9, x10, x11, x12) := g1
      have g2' : F_M_look (upd mst o 0) v1 v2 v3 v4 v5 v6 v7 mwk mwt mwm mwl mwh mwi mwc 0 mgo v8 (-1) = some (y1, y2, y3, y4, y5, y6, y7, y8, y9, y10, y11) := g2
      have z1 : x10 = nI gr'.length := hJ3.1.2.2.2.2.2
      have z2 : y9 = nI gr'.length := hJ3.2.1.2.2.2.2
      refine ⟨0, x10, x1, upd xse o (-1), x2, x3, x4, x5, x6, x7, x8, x9, x10, nI o, x11, x12, y9, 0, y1, y2, y3, y4, y5, y6, y7, y8, y9, y10, y11, ?_, ?_, rfl, by omega, fun _ => by rw [z1, z2], rq, cm, ar, sc, T, A, B, L, st', tm', rs', ln', gr', hJ3, ?_⟩
      · unfold F_T_end F_T_startCall
        simp only [ownC o ho, ob1_s, ob2_s, jn0, jn1, jn2, rf0, rf1, rf2, rf3, eq_self, if_true, i10, n10, n20, n30, if_false, nI_clamp (show o < 2 ^ 31 by omega), pz_gd2 ho (show 8 < 2 ^ 31 by omega), c0, q, e0', e1', ob3_s, ob7_s, g1', ob12_s]
      · unfold F_M_end F_M_isIn
        simp only [ownM o ho, ob1_s, ob2_s, jn0, jn1, jn2, rf0, rf1, rf2, rf3, eq_self, if_true, i10, n10, n20, n30, if_false, nI_clamp (show o < 2 ^ 31 by omega), pz_gd2 ho (show 8 < 2 ^ 31 by omega), d0, q, e2', ob8_s, g2', ob11_s]
      · have hz : ∀ x, st' x = 0 ↔ stSet st o 0 x = 0 := fun x => hS.toD.zero hJ2.2.2.1 hJ3.2.2.1 x
        have hl : ∀ x ∈ ln', x ∈ ln := fun x hx => (mem_gLn.mp (hS.1.mem hx)).1
        obtain ⟨g1, g2, g3, g4, ⟨g5, g5'⟩, g6, ⟨g7, g7', g7'', g7'''⟩, g8, g9⟩ := hO
        refine ⟨fun x hx e => ?_, fun x hx e => ?_, g3, g4, ⟨g5, by omega⟩, fun x hx => g6 x (hl x hx), ⟨g7, by omega, g7'', by omega⟩, fun x hx => g8 x (hl x hx), fun x hx y hy => g9 x (hl x hx) y (hl y hy)⟩
        · have e' : ¬ stSet st o 0 x = 0 := fun z => e ((hz x).mpr z)
          unfold stSet at e'
          by_cases z : x = o
          · rw [if_pos z] at e'; exact absurd rfl e'
          · rw [if_neg z] at e'
            unfold upd
            rw [if_neg z]
            exact g1 x hx e'
        · have e' := (hz x).mp e
          unfold stSet at e'
          unfold upd
          by_cases z : x = o
          · rw [if_pos z]
          · rw [if_neg z] at e' ⊢
            exact g2 x hx e'
  · refine ⟨1, 0, xst, xse, xgr, ltm, low, lta, llo, lhi, lmo, rli, xgc, xca, lco, rwa, 0, 1, mst, mmo, mrc, mro, mrt, mrm, mrl, mrh, mgr, mgo, mfr, ?_, ?_, rfl, by omega, fun h => (by cases h), rl_th hR 1⟩
    · unfold F_T_end
      simp only [e1, ob1_s, ob2_s, jn0, jn1, jn2, rf0, rf1, rf2, rf3, eq_self, if_true, i10, n10, n20, n30, if_false]
    · unfold F_M_end F_M_isIn
      simp only [e2, ob1_s, ob2_s, jn0, jn1, jn2, rf0, rf1, rf2, rf3, eq_self, if_true, i10, n10, n20, n30, if_false]
