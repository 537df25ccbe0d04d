/-! table -/
theorem n01 : ¬ (0 : Nat) = 1 := by decide
theorem n02 : ¬ (0 : Nat) = 2 := by decide
theorem st_table : St_table Rl := by
  intro N xst xse xre xgr ltm low lta llo lhi lmo rta ron rlo rhi rmo rin res rsi rli rar xgc xca xls xtl xno lco rwa rad mth mst mse mla mmo mrc mro mrt mrm mrl mrh mwk mwt mwm mwl mwh mwi mwc mwx mar mli mgr mgo mre mfr a1 a2 a3 hN hR
  have hR0 := hR
  obtain ⟨rq, cm, ar, sc, T, A, B, L, st, tm, rs, ln, gr, hJ, hO⟩ := hR0
  have S1 : CS xst xgr ltm low lta llo lhi lmo rli xgc lco rwa st tm rs ln gr := hJ.1
  have S2 : MS mst mmo mrc mro mrt mrm mrl mrh mgr mgo st tm rs gr := hJ.2.1
  have h8 : ln.length ≤ 8 := by have := hJ.2.2.2.2; omega
  rcases own_cases a1 with ⟨o, ho, rfl⟩ | ⟨e1, e2⟩
  · rcases tab_cases a2 with ⟨t, ht, rfl⟩ | ⟨e1, e2⟩
    · rcases mod_cases a3 with ⟨m, hm, rfl⟩ | ⟨e1, e2⟩
      · have d1 : mst o = 1 ↔ st o = 1 := S2.1.eq (k := 1) ho (by omega)
        have ei : (16 : Int32) * nI o + nI t = nI (16 * o + t) := by rw [show (16 : Int32) = nI 16 from rfl, pk_mul, nI_add]
        by_cases q1 : st o = 1
        · have hmm : mmo (16 * o + t) = mI (tm o t) := (S2.2.1 o t ho ht).1
          have hh6 : ∀ a, tm o t = some a → a < 6 := (S2.2.1 o t ho ht).2
          have hjw := p_joinedWith S2.2.1 ho ht hm
          have hM0 := jnW_lt hh6 hm
          have hk0 := keepS_jnW hh6 hm
          obtain ⟨M, hMe⟩ : ∃ M, M = jnW (tm o t) m := ⟨_, rfl⟩
          rw [← hMe] at hjw hM0 hk0
          have hM : M < 6 := hM0
          have hk : keepS (tm o t) M := hk0
          have hsame : nI M = mI (tm o t) ↔ tm o t = some M := ⟨fun e => (mI_some hh6 hM).mp e.symm, fun e => ((mI_some hh6 hM).mpr e).symm⟩
          obtain ⟨v, ev, hv⟩ := p_countedA S2.1 S2.2.1 S2.2.2.1 hJ.2.2.1.1 h8
          have hfull := p_full S1.2.1 S1.2.2.1 S1.2.2.2.1.2 h8
          cases hh : tm o t with
          | none =>
            rw [hh] at hMe hmm
            have hMm : M = m := hMe
            subst hMm
            have hnh : tm o t ≠ some M := by rw [hh]; exact fun e => (by cases e)
            have hnj : ¬ nI M = mI none := fun e => pz_nm M (by omega) e
            have hneg : mI none < 0 := by decide
            have hnp : ¬ (0 : Int32) ≤ mI none := by decide
            by_cases qf : cntA tm rs ln < 256
            · have hf0 : F_T_isFull ltm lco rwa = some 0 := by rw [hfull, decide_eq_false (by omega)]; rfl
              obtain ⟨r, a', b', re', rem', st', tm', rs', ln', gr', f1, f2, f3, f4⟩ := p_askF (qc := (upd rta o (nI t), upd ron o 0, rlo, rhi, upd rmo o (nI M), upd rin o 0, upd res o 0)) (qm := (upd mwk o 0, upd mwt o (nI t), upd mwm o (nI M), mwl, mwh, mwi, mwc)) hJ hO hN ho q1 (0, t, M, 0, 0, false) (fun x hx => ⟨(upd_n _ _ hx).symm, (upd_n _ _ hx).symm, rfl, rfl, (upd_n _ _ hx).symm, (upd_n _ _ hx).symm, (upd_n _ _ hx).symm⟩) ⟨⟨(show (0 : Nat) < 3 by decide), ht, hM⟩, upd_s (α := Nat) _ _ _, upd_s (α := Nat) _ _ _, upd_s (α := Nat) _ _ _, upd_s (α := Nat) _ _ _, fun k => absurd k n01, upd_s (α := Nat) _ _ _⟩ (fun x hx => ⟨(upd_n _ _ hx).symm, (upd_n _ _ hx).symm, (upd_n _ _ hx).symm, rfl, rfl, rfl, rfl⟩) ⟨⟨(show (0 : Nat) < 3 by decide), ht, hM⟩, upd_s (α := Nat) _ _ _, upd_s (α := Nat) _ _ _, upd_s (α := Nat) _ _ _, fun k => absurd k n01, upd_s (α := Nat) _ _ _⟩ (fun k => absurd k n01) (fun k => absurd k n01) (fun k => absurd k n02) (fun _ => hk) (fun _ => hnh) xre mre
              have f1' : F_T_ask xst xse xre xgr ltm low lta llo lhi lmo (upd rta o (nI t)) (upd ron o 0) rlo rhi (upd rmo o (nI M)) (upd rin o 0) (upd res o 0) rsi rli rar 0 (nI o) xno lco rwa rad (nI o) = some (AR r a' re' (upd rsi o xno) (upd rar o rad) (rad + 1)) := f1
              have f2' : F_M_ask mst mse mmo mrc mro mrt mrm mrl mrh (upd mwk o 0) (upd mwt o (nI t)) (upd mwm o (nI M)) mwl mwh mwi mwc mwx mar 0 mgo mre mfr (nI o) 0 = some (MR r b' (upd mwk o 0, upd mwt o (nI t), upd mwm o (nI M), mwl, mwh, upd mwi o (b2i false), upd mwc o (nI (A + 1))) (upd mwx o 0) (nI (A + 1)) rem') := f2
              refine ⟨0, r, a'.1, re', a'.2.1, a'.2.2.1, a'.2.2.2.1, a'.2.2.2.2.1, a'.2.2.2.2.2.1, a'.2.2.2.2.2.2.1, a'.2.2.2.2.2.2.2.1, upd rta o (nI t), upd ron o 0, upd rmo o (nI M), upd rin o 0, upd res o 0, upd rsi o xno, a'.2.2.2.2.2.2.2.2.1, upd rar o rad, a'.2.2.2.2.2.2.2.2.2.1, nI o, a'.2.2.2.2.2.2.2.2.2.2.1, a'.2.2.2.2.2.2.2.2.2.2.2, rad + 1, r, 0, b'.1, b'.2.1, b'.2.2.1, b'.2.2.2.1, b'.2.2.2.2.1, b'.2.2.2.2.2.1, b'.2.2.2.2.2.2.1, b'.2.2.2.2.2.2.2.1, upd mwk o 0, upd mwt o (nI t), upd mwm o (nI M), upd mwi o (b2i false), upd mwc o (nI (A + 1)), upd mwx o 0, nI (A + 1), b'.2.2.2.2.2.2.2.2.1, b'.2.2.2.2.2.2.2.2.2.1, rem', b'.2.2.2.2.2.2.2.2.2.2, ?_, ?_, rfl, by omega, fun _ => rfl, _, _, _, _, _, _, _, _, _, _, _, _, _, f3, f4⟩
              · unfold F_T_table F_T_startCall
                have hset := p_rSetTable rta ron rmo rin res ho (nI t) (nI M) false
                rw [show b2i false = 0 from rfl] at hset
                simp only [ownC o ho, tabC t ht, modC M hM, p_works S1.1 ho, q1, p_heldMode S1.2.1 ho ht, hh, show mI none = -1 from rfl, p_strN, hf0, hset, ob5_s, jn4, ob1_s, ob2_s, jn0, jn1, jn2, rf0, rf1, rf2, rf3, eq_self, if_true, i10, n10, n20, n30, if_false]
                rw [f1']
                rfl
              · unfold F_M_table
                simp only [ownM o ho, tabM t ht, modM M hM, nI_clamp (show o < 2 ^ 31 by omega), pz_gd2 ho (show 8 < 2 ^ 31 by omega), ei, nI_clamp (show 16 * o + t < 2 ^ 31 by omega), pz_gd2 (show 16 * o + t < 128 by omega) (show 128 < 2 ^ 31 by omega), d1, q1, hjw, hmm, hnj, hnp, hneg, ev, hv, qf, ob1_s, ob2_s, jn0, jn1, jn2, rf0, rf1, rf2, rf3, eq_self, if_true, i10, n10, n20, n30, if_false]
                rw [f2']
                rfl
            · have hf1 : F_T_isFull ltm lco rwa = some 1 := by rw [hfull, decide_eq_true (by omega)]; rfl
              refine ⟨0, 3, xst, xre, xgr, ltm, low, lta, llo, lhi, lmo, rta, ron, rmo, rin, res, rsi, rli, rar, 0, nI o, lco, rwa, rad, 3, 0, mst, mmo, mrc, mro, mrt, mrm, mrl, mrh, mwk, mwt, mwm, mwi, mwc, mwx, mar, 0, mgo, mre, mfr, ?_, ?_, rfl, by omega, fun _ => rfl, rq, cm, ar, sc, T, A, B, L, st, tm, rs, ln, [], hJ.fresh, hO.mono (fun _ _ => Iff.rfl) (fun _ h => h)⟩
              · unfold F_T_table F_T_startCall
                simp only [ownC o ho, tabC t ht, modC M hM, p_works S1.1 ho, q1, p_heldMode S1.2.1 ho ht, hh, show mI none = -1 from rfl, p_strN, hf1, jn4, ob1_s, ob2_s, jn0, jn1, jn2, rf0, rf1, rf2, rf3, eq_self, if_true, i10, n10, n20, n30, if_false]
              · unfold F_M_table
                simp only [ownM o ho, tabM t ht, modM M hM, nI_clamp (show o < 2 ^ 31 by omega), pz_gd2 ho (show 8 < 2 ^ 31 by omega), ei, nI_clamp (show 16 * o + t < 2 ^ 31 by omega), pz_gd2 (show 16 * o + t < 128 by omega) (show 128 < 2 ^ 31 by omega), d1, q1, hjw, hmm, hnj, hnp, hneg, ev, hv, qf, ob1_s, ob2_s, jn0, jn1, jn2, rf0, rf1, rf2, rf3, eq_self, if_true, i10, n10, n20, n30, if_false]
          | some h =>
            have hh' := hh6 h hh
            rw [hh] at hMe hmm hsame
            have hMm : M = jnd h m := hMe
            have hnm : ¬ mI (some h) = -1 := pz_nm h (by omega)
            have hnn : ¬ mI (some h) < 0 := nI_pos (by omega)
            have hpp : (0 : Int32) ≤ mI (some h) := nI_pos' (by omega)
            have hset := p_rSetTable rta ron rmo rin res ho (nI t) (nI M) true
            rw [show b2i true = 1 from rfl] at hset
            have hjk : F_K_strengthened (mI (some h)) (nI m) = some (nI M) := by rw [hMm]; exact p_strK h hh' m hm
            by_cases qs : tm o t = some M
            · have hsm : nI M = mI (some h) := hsame.mpr (by rw [← hh]; exact qs)
              obtain ⟨a', f1, f2, f3⟩ := p_askE (qm := (mwk, mwt, mwm, mwl, mwh, mwi, mwc)) (qc := (upd rta o (nI t), upd ron o 0, rlo, rhi, upd rmo o (nI M), upd rin o 1, upd res o 0)) hJ hO ho q1 (0, t, M, 0, 0, true) (fun x hx => ⟨(upd_n _ _ hx).symm, (upd_n _ _ hx).symm, rfl, rfl, (upd_n _ _ hx).symm, (upd_n _ _ hx).symm, (upd_n _ _ hx).symm⟩) ⟨⟨(show (0 : Nat) < 3 by decide), ht, hM⟩, upd_s (α := Nat) _ _ _, upd_s (α := Nat) _ _ _, upd_s (α := Nat) _ _ _, upd_s (α := Nat) _ _ _, fun k => absurd k n01, upd_s (α := Nat) _ _ _⟩ rfl qs xre
              have f1' : F_T_ask xst xse xre xgr ltm low lta llo lhi lmo (upd rta o (nI t)) (upd ron o 0) rlo rhi (upd rmo o (nI M)) (upd rin o 1) (upd res o 0) rsi rli rar 0 (nI o) xno lco rwa rad (nI o) = some (AR 0 a' xre (upd rsi o xno) (upd rar o rad) (rad + 1)) := f1
              refine ⟨0, 0, a'.1, xre, a'.2.1, a'.2.2.1, a'.2.2.2.1, a'.2.2.2.2.1, a'.2.2.2.2.2.1, a'.2.2.2.2.2.2.1, a'.2.2.2.2.2.2.2.1, upd rta o (nI t), upd ron o 0, upd rmo o (nI M), upd rin o 1, upd res o 0, upd rsi o xno, a'.2.2.2.2.2.2.2.2.1, upd rar o rad, a'.2.2.2.2.2.2.2.2.2.1, nI o, a'.2.2.2.2.2.2.2.2.2.2.1, a'.2.2.2.2.2.2.2.2.2.2.2, rad + 1, 0, 0, mst, mmo, mrc, mro, mrt, mrm, mrl, mrh, mwk, mwt, mwm, mwi, mwc, mwx, mar, 0, mgo, mre, mfr, ?_, ?_, rfl, by omega, fun _ => rfl, _, _, _, _, _, _, _, _, _, _, _, _, _, f2, f3⟩
              · unfold F_T_table F_T_startCall
                simp only [ownC o ho, tabC t ht, modC m hm, p_works S1.1 ho, q1, p_heldMode S1.2.1 ho ht, hh, hnm, hjk, hset, ob5_s, jn4, ob1_s, ob2_s, jn0, jn1, jn2, rf0, rf1, rf2, rf3, eq_self, if_true, i10, n10, n20, n30, if_false]
                rw [f1']
                rfl
              · unfold F_M_table
                simp only [ownM o ho, tabM t ht, modM m hm, nI_clamp (show o < 2 ^ 31 by omega), pz_gd2 ho (show 8 < 2 ^ 31 by omega), ei, nI_clamp (show 16 * o + t < 2 ^ 31 by omega), pz_gd2 (show 16 * o + t < 128 by omega) (show 128 < 2 ^ 31 by omega), d1, q1, hjw, hmm, hsm, ob1_s, ob2_s, jn0, jn1, jn2, rf0, rf1, rf2, rf3, eq_self, if_true, i10, n10, n20, n30, if_false]
            · have hnj : ¬ nI M = mI (some h) := fun e => qs (by rw [hh]; exact hsame.mp e)
              have hnh : tm o t ≠ some M := qs
              obtain ⟨r, a', b', re', rem', st', tm', rs', ln', gr', f1, f2, f3, f4⟩ := p_askF (qc := (upd rta o (nI t), upd ron o 0, rlo, rhi, upd rmo o (nI M), upd rin o 1, upd res o 0)) (qm := (upd mwk o 0, upd mwt o (nI t), upd mwm o (nI M), mwl, mwh, mwi, mwc)) hJ hO hN ho q1 (0, t, M, 0, 0, true) (fun x hx => ⟨(upd_n _ _ hx).symm, (upd_n _ _ hx).symm, rfl, rfl, (upd_n _ _ hx).symm, (upd_n _ _ hx).symm, (upd_n _ _ hx).symm⟩) ⟨⟨(show (0 : Nat) < 3 by decide), ht, hM⟩, upd_s (α := Nat) _ _ _, upd_s (α := Nat) _ _ _, upd_s (α := Nat) _ _ _, upd_s (α := Nat) _ _ _, fun k => absurd k n01, upd_s (α := Nat) _ _ _⟩ (fun x hx => ⟨(upd_n _ _ hx).symm, (upd_n _ _ hx).symm, (upd_n _ _ hx).symm, rfl, rfl, rfl, rfl⟩) ⟨⟨(show (0 : Nat) < 3 by decide), ht, hM⟩, upd_s (α := Nat) _ _ _, upd_s (α := Nat) _ _ _, upd_s (α := Nat) _ _ _, fun k => absurd k n01, upd_s (α := Nat) _ _ _⟩ (fun k => absurd k n01) (fun k => absurd k n01) (fun k => absurd k n02) (fun _ => hk) (fun _ => hnh) xre mre
              have f1' : F_T_ask xst xse xre xgr ltm low lta llo lhi lmo (upd rta o (nI t)) (upd ron o 0) rlo rhi (upd rmo o (nI M)) (upd rin o 1) (upd res o 0) rsi rli rar 0 (nI o) xno lco rwa rad (nI o) = some (AR r a' re' (upd rsi o xno) (upd rar o rad) (rad + 1)) := f1
              have f2' : F_M_ask mst mse mmo mrc mro mrt mrm mrl mrh (upd mwk o 0) (upd mwt o (nI t)) (upd mwm o (nI M)) mwl mwh mwi mwc mwx mar 0 mgo mre mfr (nI o) 1 = some (MR r b' (upd mwk o 0, upd mwt o (nI t), upd mwm o (nI M), mwl, mwh, upd mwi o (b2i true), upd mwc o (nI (A + 1))) (upd mwx o 0) (nI (A + 1)) rem') := f2
              refine ⟨0, r, a'.1, re', a'.2.1, a'.2.2.1, a'.2.2.2.1, a'.2.2.2.2.1, a'.2.2.2.2.2.1, a'.2.2.2.2.2.2.1, a'.2.2.2.2.2.2.2.1, upd rta o (nI t), upd ron o 0, upd rmo o (nI M), upd rin o 1, upd res o 0, upd rsi o xno, a'.2.2.2.2.2.2.2.2.1, upd rar o rad, a'.2.2.2.2.2.2.2.2.2.1, nI o, a'.2.2.2.2.2.2.2.2.2.2.1, a'.2.2.2.2.2.2.2.2.2.2.2, rad + 1, r, 0, b'.1, b'.2.1, b'.2.2.1, b'.2.2.2.1, b'.2.2.2.2.1, b'.2.2.2.2.2.1, b'.2.2.2.2.2.2.1, b'.2.2.2.2.2.2.2.1, upd mwk o 0, upd mwt o (nI t), upd mwm o (nI M), upd mwi o (b2i true), upd mwc o (nI (A + 1)), upd mwx o 0, nI (A + 1), b'.2.2.2.2.2.2.2.2.1, b'.2.2.2.2.2.2.2.2.2.1, rem', b'.2.2.2.2.2.2.2.2.2.2, ?_, ?_, rfl, by omega, fun _ => rfl, _, _, _, _, _, _, _, _, _, _, _, _, _, f3, f4⟩
              · unfold F_T_table F_T_startCall
                simp only [ownC o ho, tabC t ht, modC m hm, p_works S1.1 ho, q1, p_heldMode S1.2.1 ho ht, hh, hnm, hjk, hset, ob5_s, jn4, ob1_s, ob2_s, jn0, jn1, jn2, rf0, rf1, rf2, rf3, eq_self, if_true, i10, n10, n20, n30, if_false]
                rw [f1']
                rfl
              · unfold F_M_table
                simp only [ownM o ho, tabM t ht, modM m hm, nI_clamp (show o < 2 ^ 31 by omega), pz_gd2 ho (show 8 < 2 ^ 31 by omega), ei, nI_clamp (show 16 * o + t < 2 ^ 31 by omega), pz_gd2 (show 16 * o + t < 128 by omega) (show 128 < 2 ^ 31 by omega), d1, q1, hjw, hmm, hnj, hnn, hpp, ob1_s, ob2_s, jn0, jn1, jn2, rf0, rf1, rf2, rf3, eq_self, if_true, i10, n10, n20, n30, if_false]
                rw [f2']
                rfl
        · refine ⟨2, 0, xst, xre, xgr, ltm, low, lta, llo, lhi, lmo, rta, ron, rmo, rin, res, rsi, rli, rar, xgc, xca, lco, rwa, rad, 0, 2, mst, mmo, mrc, mro, mrt, mrm, mrl, mrh, mwk, mwt, mwm, mwi, mwc, mwx, mar, mgr, mgo, mre, mfr, ?_, ?_, rfl, by omega, fun h => (by cases h), rl_th hR 2⟩
          · unfold F_T_table
            simp only [ownC o ho, tabC t ht, modC m hm, p_works S1.1 ho, q1, ob1_s, ob2_s, jn0, jn1, jn2, rf0, rf1, rf2, rf3, eq_self, if_true, i10, n10, n20, n30, if_false]
          · unfold F_M_table
            simp only [ownM o ho, tabM t ht, modM m hm, nI_clamp (show o < 2 ^ 31 by omega), pz_gd2 ho (show 8 < 2 ^ 31 by omega), d1, q1, ob1_s, ob2_s, jn0, jn1, jn2, rf0, rf1, rf2, rf3, eq_self, if_true, i10, n10, n20, n30, if_false]
      · refine ⟨1, 0, xst, xre, xgr, ltm, low, lta, llo, lhi, lmo, rta, ron, rmo, rin, res, rsi, rli, rar, xgc, xca, lco, rwa, rad, 0, 1, mst, mmo, mrc, mro, mrt, mrm, mrl, mrh, mwk, mwt, mwm, mwi, mwc, mwx, mar, mgr, mgo, mre, mfr, ?_, ?_, rfl, by omega, fun h => (by cases h), rl_th hR 1⟩
        · unfold F_T_table
          simp only [ownC o ho, tabC t ht, e1, ob1_s, ob2_s, jn0, jn1, jn2, rf0, rf1, rf2, rf3, eq_self, if_true, i10, n10, n20, n30, if_false]
        · unfold F_M_table
          have d1 : mst o = 1 ↔ st o = 1 := S2.1.eq (k := 1) ho (by omega)
          by_cases q1 : st o = 1
          · simp only [ownM o ho, tabM t ht, e2, nI_clamp (show o < 2 ^ 31 by omega), pz_gd2 ho (show 8 < 2 ^ 31 by omega), d1, q1, ob1_s, ob2_s, jn0, jn1, jn2, rf0, rf1, rf2, rf3, eq_self, if_true, i10, n10, n20, n30, if_false]
          · simp only [ownM o ho, tabM t ht, e2, nI_clamp (show o < 2 ^ 31 by omega), pz_gd2 ho (show 8 < 2 ^ 31 by omega), d1, q1, ob1_s, ob2_s, jn0, jn1, jn2, rf0, rf1, rf2, rf3, eq_self, if_true, i10, n10, n20, n30, if_false]
    · refine ⟨1, 0, xst, xre, xgr, ltm, low, lta, llo, lhi, lmo, rta, ron, rmo, rin, res, rsi, rli, rar, xgc, xca, lco, rwa, rad, 0, 1, mst, mmo, mrc, mro, mrt, mrm, mrl, mrh, mwk, mwt, mwm, mwi, mwc, mwx, mar, mgr, mgo, mre, mfr, ?_, ?_, rfl, by omega, fun h => (by cases h), rl_th hR 1⟩
      · unfold F_T_table
        simp only [ownC o ho, e1, ob1_s, ob2_s, jn0, jn1, jn2, rf0, rf1, rf2, rf3, eq_self, if_true, i10, n10, n20, n30, if_false]
      · unfold F_M_table
        have d1 : mst o = 1 ↔ st o = 1 := S2.1.eq (k := 1) ho (by omega)
        by_cases q1 : st o = 1
        · simp only [ownM o ho, e2, nI_clamp (show o < 2 ^ 31 by omega), pz_gd2 ho (show 8 < 2 ^ 31 by omega), d1, q1, ob1_s, ob2_s, jn0, jn1, jn2, rf0, rf1, rf2, rf3, eq_self, if_true, i10, n10, n20, n30, if_false]
        · simp only [ownM o ho, e2, nI_clamp (show o < 2 ^ 31 by omega), pz_gd2 ho (show 8 < 2 ^ 31 by omega), d1, q1, ob1_s, ob2_s, jn0, jn1, jn2, rf0, rf1, rf2, rf3, eq_self, if_true, i10, n10, n20, n30, if_false]
  · refine ⟨1, 0, xst, xre, xgr, ltm, low, lta, llo, lhi, lmo, rta, ron, rmo, rin, res, rsi, rli, rar, xgc, xca, lco, rwa, rad, 0, 1, mst, mmo, mrc, mro, mrt, mrm, mrl, mrh, mwk, mwt, mwm, mwi, mwc, mwx, mar, mgr, mgo, mre, mfr, ?_, ?_, rfl, by omega, fun h => (by cases h), rl_th hR 1⟩
    · unfold F_T_table
      simp only [e1, ob1_s, ob2_s, jn0, jn1, jn2, rf0, rf1, rf2, rf3, eq_self, if_true, i10, n10, n20, n30, if_false]
    · unfold F_M_table
      simp only [e2, ob1_s, ob2_s, jn0, jn1, jn2, rf0, rf1, rf2, rf3, eq_self, if_true, i10, n10, n20, n30, if_false]
