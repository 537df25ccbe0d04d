/-! range -/
theorem p_cmp2 {x y : Int64} : (lg_cmp x y ≤ 0) = (decide (x ≤ y) = true) := by
  have h := p_cmp (x := x) (y := y)
  have : (lg_cmp x y ≤ 0) = ¬ (0 < lg_cmp x y) := propext Int32.not_lt.symm
  rw [this, h]
  cases decide (x ≤ y) <;> simp
def alw (h : Option Nat) (m : Nat) : Bool := if m = 2 then h.isSome else h == some 1 || h == some 3 || h == some 5
theorem p_allows : ∀ h : Option Nat, (∀ a, h = some a → a < 6) → ∀ m, (m = 2 ∨ m = 4 ∨ m = 5) → F_K_allowsRange (mI h) (nI m) = some (b2i (alw h m)) := by
  intro h hh m hm
  have k : ∀ m, m < 6 → F_K_allowsRange (nI 0 - 1) (nI m) = some (b2i (alw none m)) ∧ ∀ a, a < 6 → F_K_allowsRange (nI a) (nI m) = some (b2i (alw (some a) m)) := by decide +kernel
  cases h with
  | none => exact (k m (by omega)).1
  | some a => exact (k m (by omega)).2 a (hh a rfl)
theorem p_alM {h : Option Nat} (hh : ∀ a, h = some a → a < 6) {m : Nat} (hm : m = 2 ∨ m = 4 ∨ m = 5) {α : Type} {X Y : α} : (if nI m = 2 then (if mI h < 0 then X else Y) else (if mI h = 1 then Y else if mI h = 3 then Y else if mI h = 5 then Y else X)) = if alw h m then Y else X := by
  have c : nI m = 2 ↔ m = 2 := nI_eq (b := 2) (by omega) (by omega)
  have c1 : mI h = 1 ↔ h = some 1 := mI_some (m := 1) hh (by decide)
  have c3 : mI h = 3 ↔ h = some 3 := mI_some (m := 3) hh (by decide)
  have c5 : mI h = 5 ↔ h = some 5 := mI_some (m := 5) hh (by decide)
  unfold alw
  by_cases q : m = 2
  · rw [if_pos (c.mpr q), mI_neg hh, if_pos q]
  · rw [if_neg (fun e => q (c.mp e)), if_neg q]
    simp only [c1, c3, c5]
    by_cases q1 : h = some 1
    · subst q1; simp
    · by_cases q3 : h = some 3
      · subst q3; simp
      · by_cases q5 : h = some 5
        · subst q5; simp
        · have e : (h == some 1 || h == some 3 || h == some 5) = false := by simp [q1, q3, q5]
          rw [if_neg q1, if_neg q3, if_neg q5, e]
          simp
theorem p_md3 {m : Nat} (hm : m = 2 ∨ m = 4 ∨ m = 5) {α : Type} {X Z : α} : (if nI m = 2 then X else if nI m = 4 then X else if nI m = 5 then X else Z) = X := by
  rcases hm with h | h | h <;> subst h
  · rw [if_pos (show nI 2 = 2 from rfl)]
  · rw [if_neg (by decide), if_pos (show nI 4 = 4 from rfl)]
  · rw [if_neg (by decide), if_neg (by decide), if_pos (show nI 5 = 5 from rfl)]
theorem rng_cases (x y : Int64) (z : Int32) : (∃ m, (m = 2 ∨ m = 4 ∨ m = 5) ∧ z = nI m ∧ F_T_checkRange x y z = some 0 ∧ ¬ 0 < lg_cmp x y) ∨ (F_T_checkRange x y z = some 1 ∧ (0 < lg_cmp x y ∨ (¬ z = 2 ∧ ¬ z = 4 ∧ ¬ z = 5))) := by
  unfold F_T_checkRange
  by_cases q : 0 < lg_cmp x y
  · exact Or.inr ⟨by rw [if_neg (Int32.not_le.mpr q)], Or.inl q⟩
  · have q' : lg_cmp x y ≤ 0 := Int32.not_lt.mp q
    rw [if_pos q']
    by_cases z2 : z = 2
    · exact Or.inl ⟨2, Or.inl rfl, z2, by rw [if_pos z2], q⟩
    · by_cases z4 : z = 4
      · exact Or.inl ⟨4, Or.inr (Or.inl rfl), z4, by rw [if_neg z2, if_pos z4], q⟩
      · by_cases z5 : z = 5
        · exact Or.inl ⟨5, Or.inr (Or.inr rfl), z5, by rw [if_neg z2, if_neg z4, if_pos z5], q⟩
        · exact Or.inr ⟨by rw [if_neg z2, if_neg z4, if_neg z5], Or.inr ⟨z2, z4, z5⟩⟩
theorem p_rSetRange (rta ron : Nat → Int32) (rlo rhi : Nat → Int64) (rmo rin res : Nat → Int32) {o : Nat} (ho : o < 8) (x y : Int32) (lo hi : Int64) (i : Bool) : F_R_setRange rta ron rlo rhi rmo rin res (nI o) x lo hi y (b2i i) = some (upd rta o x, upd ron o 1, vp_updL rlo o lo, vp_updL rhi o hi, upd rmo o y, upd rin o (b2i i), upd res o 0) := by
  unfold F_R_setRange
  rw [p_rSetTable rta ron rmo rin res ho x y i, ob5_s]
  simp only [nI_clamp (show o < 2 ^ 31 by omega), pz_gd2 ho (show 8 < 2 ^ 31 by omega), nar_1, upd_upd]
theorem alw_hld {h : Option Nat} {m : Nat} (hm : m = 2 ∨ m = 4 ∨ m = 5) (ha : alw h m = true) : hld h m := by
  unfold alw at ha
  by_cases q : m = 2
  · rw [if_pos q] at ha
    obtain ⟨x, hx⟩ := Option.isSome_iff_exists.mp ha
    exact ⟨x, hx, fun e => by omega⟩
  · rw [if_neg q] at ha
    simp at ha
    rcases ha with (e | e) | e
    · exact ⟨1, e, fun _ => rfl⟩
    · exact ⟨3, e, fun _ => rfl⟩
    · exact ⟨5, e, fun _ => rfl⟩
theorem b2t : b2i true = 1 := rfl
theorem b2f : b2i false = 0 := rfl
theorem st_range : St_range Rl := by
  intro N xst xse xre xgr ltm low lta llo lhi lmo rta ron rlo rhi rmo rin res rsi rli rar xgc xca xls xtl xno lco rwa rad mth mst mse mla mmo mrc mro mrt mrm mrl mrh mwk mwt mwm mwl mwh mwi mwc mwx mar mli mgr mgo mre mfr a1 a2 a3 a4 a5 hN hR
  have hR0 := hR
  obtain ⟨rq, cm, ar, sc, T, A, B, L, st, tm, rs, ln, gr, hJ, hO⟩ := hR0
  have S1 : CS xst xgr ltm low lta llo lhi lmo rli xgc lco rwa st tm rs ln gr := hJ.1
  have S2 : MS mst mmo mrc mro mrt mrm mrl mrh mgr mgo st tm rs gr := hJ.2.1
  have h8 : ln.length ≤ 8 := by have := hJ.2.2.2.2; omega
  rcases own_cases a1 with ⟨o, ho, rfl⟩ | ⟨e1, e2⟩
  · have d1 : mst o = 1 ↔ st o = 1 := S2.1.eq (k := 1) ho (by omega)
    rcases tab_cases a2 with ⟨t, ht, rfl⟩ | ⟨e1, e2⟩
    · have ei : (16 : Int32) * nI o + nI t = nI (16 * o + t) := by rw [show (16 : Int32) = nI 16 from rfl, pk_mul, nI_add]
      have hmm : mmo (16 * o + t) = mI (tm o t) := (S2.2.1 o t ho ht).1
      have hh6 : ∀ a, tm o t = some a → a < 6 := (S2.2.1 o t ho ht).2
      rcases rng_cases a3 a4 a5 with ⟨m, hm, rfl, hchk, hcmp⟩ | ⟨e1, e2⟩
      · have hm6 : m < 6 := by omega
        have hhm := p_heldMode S1.2.1 ho ht
        have hal := p_allows (tm o t) hh6 m hm
        have htc := p_tableCoversM (tm o t) hh6 m hm
        have hcov : F_L_coverRange ltm low lta llo lhi lmo lco (nI o) (nI t) a3 a4 (nI m) = some (b2i (tcov (tm o t) m || rs.any (fun r => isRoundB o t a3 a4 r && rcov r.2.2.2.2 m))) := by
          obtain ⟨rs0, s3, s4, s5⟩ := S1.2.2.1
          rw [s4, p_cover s3 S1.2.1 ho ht hm, any_perm s5]
        have har : F_M_hasAround mrc mro mrt mrm mrl mrh (nI o) (nI t) a3 a4 (nI m) = some (b2i (rs.any (fun r => isRoundB o t a3 a4 r && rcov r.2.2.2.2 m))) := by
          obtain ⟨rs0, s3, s4, s5⟩ := S2.2.2.1
          rw [s4, p_around s3 ho ht a3 a4 hm, any_perm s5]
        have har0 : F_M_hasAround mrc mro mrt mrm mrl mrh (nI o) (nI t) a3 a4 (-1) = some (b2i (rs.any (isRoundB o t a3 a4))) := by
          obtain ⟨rs0, s3, s4, s5⟩ := S2.2.2.1
          rw [s4, p_around0 s3 ho ht a3 a4, any_perm s5]
        have hrr : F_L_haveRangeRound low lta llo lhi lco (nI o) (nI t) a3 a4 = some (b2i (rs.any (isRoundB o t a3 a4))) := by
          obtain ⟨rs0, s3, s4, s5⟩ := S1.2.2.1
          rw [s4, p_haveRangeRound s3 ho ht a3 a4, any_perm s5]
        have hc8 := hJ.2.2.2.1.2.1 o t
        have hcC : F_L_countRanges low lta lco (nI o) (nI t) = some (nI (rs.countP (isOnB o t))) := by
          obtain ⟨rs0, s3, s4, s5⟩ := S1.2.2.1
          rw [s4, p_countRanges s3 ho ht, s5.countP_eq]
        have hcM : F_M_rangesOf mrc mro mrt (nI o) (nI t) = some (nI (rs.countP (isOnB o t))) := by
          obtain ⟨rs0, s3, s4, s5⟩ := S2.2.2.1
          rw [s4, p_rangesOf s3 ho ht, s5.countP_eq]
        obtain ⟨n, hn⟩ : ∃ n, n = rs.countP (isOnB o t) := ⟨_, rfl⟩
        rw [← hn] at hcC hcM hc8
        have k8 : nI n < 8 ↔ n < 8 := nI_ltI (b := 8) (by omega) (by omega)
        have j8 : nI n = 8 ↔ n = 8 := nI_eq (b := 8) (by omega) (by omega)
        by_cases q1 : st o = 1
        · cases qa : alw (tm o t) m with
          | false =>
            refine ⟨3, 0, xst, xre, xgr, ltm, low, lta, llo, lhi, lmo, rta, ron, rlo, rhi, rmo, rin, res, rsi, rli, rar, xgc, xca, lco, rwa, rad, 0, 3, mst, mmo, mrc, mro, mrt, mrm, mrl, mrh, mwk, mwt, mwm, mwl, mwh, mwi, mwc, mwx, mar, mgr, mgo, mre, mfr, ?_, ?_, rfl, by omega, fun h => (by cases h), rl_th hR 3⟩
            · unfold F_T_range
              simp only [ownC o ho, tabC t ht, hchk, p_works S1.1 ho, q1, hal, hhm, qa, b2t, b2f, ob1_s, ob2_s, jn0, jn1, jn2, rf0, rf1, rf2, rf3, eq_self, if_true, i10, n10, n20, n30, if_false, Bool.false_eq_true]
            · unfold F_M_range
              simp only [ownM o ho, tabM t ht, hcmp, p_md3 hm, nI_clamp (show o < 2 ^ 31 by omega), pz_gd2 ho (show 8 < 2 ^ 31 by omega), ei, nI_clamp (show 16 * o + t < 2 ^ 31 by omega), pz_gd2 (show 16 * o + t < 128 by omega) (show 128 < 2 ^ 31 by omega), d1, q1, hmm, p_alM hh6 hm, qa, htc, har, jn3, ob1_s, ob2_s, jn0, jn1, jn2, rf0, rf1, rf2, rf3, eq_self, if_true, i10, n10, n20, n30, if_false, Bool.false_eq_true]
          | true =>
            cases qv : tcov (tm o t) m with
            | true =>
              rw [qv, Bool.true_or] at hcov
              rw [qv] at htc
              refine ⟨0, 0, xst, xre, xgr, ltm, low, lta, llo, lhi, lmo, rta, ron, rlo, rhi, rmo, rin, res, rsi, rli, rar, 0, nI o, lco, rwa, rad, 0, 0, mst, mmo, mrc, mro, mrt, mrm, mrl, mrh, mwk, mwt, mwm, mwl, mwh, mwi, mwc, mwx, mar, 0, mgo, mre, mfr, ?_, ?_, rfl, by omega, fun _ => rfl, rq, cm, ar, sc, T, A, B, L, st, tm, rs, ln, [], hJ.fresh, hO.mono (fun _ _ => Iff.rfl) (fun _ h => h)⟩
              · unfold F_T_range F_T_startCall
                simp only [ownC o ho, tabC t ht, hchk, p_works S1.1 ho, q1, hal, hhm, qa, b2t, b2f, hcov, ob1_s, ob2_s, jn0, jn1, jn2, rf0, rf1, rf2, rf3, eq_self, if_true, i10, n10, n20, n30, if_false, Bool.false_eq_true]
              · unfold F_M_range
                simp only [ownM o ho, tabM t ht, hcmp, p_md3 hm, nI_clamp (show o < 2 ^ 31 by omega), pz_gd2 ho (show 8 < 2 ^ 31 by omega), ei, nI_clamp (show 16 * o + t < 2 ^ 31 by omega), pz_gd2 (show 16 * o + t < 128 by omega) (show 128 < 2 ^ 31 by omega), d1, q1, hmm, p_alM hh6 hm, qa, htc, har, jn3, b2t, ob1_s, ob2_s, jn0, jn1, jn2, rf0, rf1, rf2, rf3, eq_self, if_true, i10, n10, n20, n30, if_false, Bool.false_eq_true]
            | false =>
              rw [qv, Bool.false_or] at hcov
              rw [qv] at htc
              cases qr : rs.any (fun r => isRoundB o t a3 a4 r && rcov r.2.2.2.2 m) with
              | true =>
                rw [qr] at hcov har
                refine ⟨0, 0, xst, xre, xgr, ltm, low, lta, llo, lhi, lmo, rta, ron, rlo, rhi, rmo, rin, res, rsi, rli, rar, 0, nI o, lco, rwa, rad, 0, 0, mst, mmo, mrc, mro, mrt, mrm, mrl, mrh, mwk, mwt, mwm, mwl, mwh, mwi, mwc, mwx, mar, 0, mgo, mre, mfr, ?_, ?_, rfl, by omega, fun _ => rfl, rq, cm, ar, sc, T, A, B, L, st, tm, rs, ln, [], hJ.fresh, hO.mono (fun _ _ => Iff.rfl) (fun _ h => h)⟩
                · unfold F_T_range F_T_startCall
                  simp only [ownC o ho, tabC t ht, hchk, p_works S1.1 ho, q1, hal, hhm, qa, b2t, b2f, hcov, ob1_s, ob2_s, jn0, jn1, jn2, rf0, rf1, rf2, rf3, eq_self, if_true, i10, n10, n20, n30, if_false, Bool.false_eq_true]
                · unfold F_M_range
                  simp only [ownM o ho, tabM t ht, hcmp, p_md3 hm, nI_clamp (show o < 2 ^ 31 by omega), pz_gd2 ho (show 8 < 2 ^ 31 by omega), ei, nI_clamp (show 16 * o + t < 2 ^ 31 by omega), pz_gd2 (show 16 * o + t < 128 by omega) (show 128 < 2 ^ 31 by omega), d1, q1, hmm, p_alM hh6 hm, qa, htc, har, jn3, b2t, b2f, ob1_s, ob2_s, jn0, jn1, jn2, rf0, rf1, rf2, rf3, eq_self, if_true, i10, n10, n20, n30, if_false, Bool.false_eq_true]
              | false =>
                rw [qr] at hcov har
                by_cases qn : n < 8
                · have qn8 : ¬ n = 8 := by omega
                  obtain ⟨v, ev, hv⟩ := p_countedA S2.1 S2.2.1 S2.2.2.1 hJ.2.2.1.1 h8
                  have hfull := p_full S1.2.1 S1.2.2.1 S1.2.2.2.1.2 h8
                  by_cases qf : cntA tm rs ln < 256
                  · have hf0 : F_T_isFull ltm lco rwa = some 0 := by rw [hfull, decide_eq_false (by omega)]; rfl
                    obtain ⟨i, hi⟩ : ∃ i, i = rs.any (isRoundB o t a3 a4) := ⟨_, rfl⟩
                    rw [← hi] at har0 hrr
                    have hset := p_rSetRange rta ron rlo rhi rmo rin res ho (nI t) (nI m) a3 a4 i
                    obtain ⟨r, a', b', re', rem', st', tm', rs', ln', gr', f1, f2, f3, f4⟩ := p_askF (qc := (upd rta o (nI t), upd ron o 1, vp_updL rlo o a3, vp_updL rhi o a4, upd rmo o (nI m), upd rin o (b2i i), upd res o 0)) (qm := (upd mwk o 1, upd mwt o (nI t), upd mwm o (nI m), vp_updL mwl o a3, vp_updL mwh o a4, mwi, mwc)) hJ hO hN ho q1 (1, t, m, a3, a4, i) (fun x hx => ⟨(upd_n _ _ hx).symm, (upd_n _ _ hx).symm, (updL_n _ _ hx).symm, (updL_n _ _ hx).symm, (upd_n _ _ hx).symm, (upd_n _ _ hx).symm, (upd_n _ _ hx).symm⟩) ⟨⟨(show (1 : Nat) < 3 by decide), ht, hm6⟩, upd_s (α := Nat) _ _ _, upd_s (α := Nat) _ _ _, upd_s (α := Nat) _ _ _, upd_s (α := Nat) _ _ _, fun _ => ⟨updL_s _ _ _, updL_s _ _ _⟩, upd_s (α := Nat) _ _ _⟩ (fun x hx => ⟨(upd_n _ _ hx).symm, (upd_n _ _ hx).symm, (upd_n _ _ hx).symm, (updL_n _ _ hx).symm, (updL_n _ _ hx).symm, rfl, rfl⟩) ⟨⟨(show (1 : Nat) < 3 by decide), ht, hm6⟩, upd_s (α := Nat) _ _ _, upd_s (α := Nat) _ _ _, upd_s (α := Nat) _ _ _, fun _ => ⟨updL_s _ _ _, updL_s _ _ _⟩, upd_s (α := Nat) _ _ _⟩ (fun _ => hm) (fun _ => ⟨by
                      have k1 : ln.countP (fun o => (rq o).1 == 1) ≤ ln.length := List.countP_le_length
                      unfold cntA at qf
                      omega, by show rs.countP (isOnB o t) < 8; omega, alw_hld hm qa⟩) (fun k => absurd k (show ¬ (1 : Nat) = 2 by decide)) (fun k => absurd rfl k) (fun k => absurd rfl k) xre mre
                    have f1' : F_T_ask xst xse xre xgr ltm low lta llo lhi lmo (upd rta o (nI t)) (upd ron o 1) (vp_updL rlo o a3) (vp_updL rhi o a4) (upd rmo o (nI m)) (upd rin o (b2i i)) (upd res o 0) rsi rli rar 0 (nI o) xno lco rwa rad (nI o) = some (AR r a' re' (upd rsi o xno) (upd rar o rad) (rad + 1)) := f1
                    have f2' : F_M_ask mst mse mmo mrc mro mrt mrm mrl mrh (upd mwk o 1) (upd mwt o (nI t)) (upd mwm o (nI m)) (vp_updL mwl o a3) (vp_updL mwh o a4) mwi mwc mwx mar 0 mgo mre mfr (nI o) (b2i i) = some (MR r b' (upd mwk o 1, upd mwt o (nI t), upd mwm o (nI m), vp_updL mwl o a3, vp_updL mwh o a4, upd mwi o (b2i i), upd mwc o (nI (A + 1))) (upd mwx o 0) (nI (A + 1)) rem') := f2
                    refine ⟨0, r, a'.1, re', a'.2.1, a'.2.2.1, a'.2.2.2.1, a'.2.2.2.2.1, a'.2.2.2.2.2.1, a'.2.2.2.2.2.2.1, a'.2.2.2.2.2.2.2.1, upd rta o (nI t), upd ron o 1, vp_updL rlo o a3, vp_updL rhi o a4, upd rmo o (nI m), upd rin o (b2i i), upd res o 0, upd rsi o xno, a'.2.2.2.2.2.2.2.2.1, upd rar o rad, a'.2.2.2.2.2.2.2.2.2.1, nI o, a'.2.2.2.2.2.2.2.2.2.2.1, a'.2.2.2.2.2.2.2.2.2.2.2, rad + 1, r, 0, b'.1, b'.2.1, b'.2.2.1, b'.2.2.2.1, b'.2.2.2.2.1, b'.2.2.2.2.2.1, b'.2.2.2.2.2.2.1, b'.2.2.2.2.2.2.2.1, upd mwk o 1, upd mwt o (nI t), upd mwm o (nI m), vp_updL mwl o a3, vp_updL mwh o a4, upd mwi o (b2i i), upd mwc o (nI (A + 1)), upd mwx o 0, nI (A + 1), b'.2.2.2.2.2.2.2.2.1, b'.2.2.2.2.2.2.2.2.2.1, rem', b'.2.2.2.2.2.2.2.2.2.2, ?_, ?_, rfl, by omega, fun _ => rfl, _, _, _, _, _, _, _, _, _, _, _, _, _, f3, f4⟩
                    · unfold F_T_range F_T_startCall
                      simp only [ownC o ho, tabC t ht, hchk, p_works S1.1 ho, q1, hal, hhm, qa, b2t, b2f, hcov, hcC, k8, qn, hf0, hrr, hset, ob7_s, ob1_s, ob2_s, jn0, jn1, jn2, rf0, rf1, rf2, rf3, eq_self, if_true, i10, n10, n20, n30, if_false, Bool.false_eq_true]
                      rw [f1']
                      rfl
                    · unfold F_M_range
                      simp only [ownM o ho, tabM t ht, hcmp, p_md3 hm, nI_clamp (show o < 2 ^ 31 by omega), pz_gd2 ho (show 8 < 2 ^ 31 by omega), ei, nI_clamp (show 16 * o + t < 2 ^ 31 by omega), pz_gd2 (show 16 * o + t < 128 by omega) (show 128 < 2 ^ 31 by omega), d1, q1, hmm, p_alM hh6 hm, qa, htc, har, jn3, b2f, hcM, j8, qn8, ev, hv, qf, har0, ob1_s, ob2_s, jn0, jn1, jn2, rf0, rf1, rf2, rf3, eq_self, if_true, i10, n10, n20, n30, if_false, Bool.false_eq_true]
                      rw [f2']
                      rfl
                  · have hf1 : F_T_isFull ltm lco rwa = some 1 := by rw [hfull, decide_eq_true (by omega)]; rfl
                    refine ⟨0, 3, xst, xre, xgr, ltm, low, lta, llo, lhi, lmo, rta, ron, rlo, rhi, rmo, rin, res, rsi, rli, rar, 0, nI o, lco, rwa, rad, 3, 0, mst, mmo, mrc, mro, mrt, mrm, mrl, mrh, mwk, mwt, mwm, mwl, mwh, mwi, mwc, mwx, mar, 0, mgo, mre, mfr, ?_, ?_, rfl, by omega, fun _ => rfl, rq, cm, ar, sc, T, A, B, L, st, tm, rs, ln, [], hJ.fresh, hO.mono (fun _ _ => Iff.rfl) (fun _ h => h)⟩
                    · unfold F_T_range F_T_startCall
                      simp only [ownC o ho, tabC t ht, hchk, p_works S1.1 ho, q1, hal, hhm, qa, b2t, b2f, hcov, hcC, k8, qn, hf1, ob1_s, ob2_s, jn0, jn1, jn2, rf0, rf1, rf2, rf3, eq_self, if_true, i10, n10, n20, n30, if_false, Bool.false_eq_true]
                    · unfold F_M_range
                      simp only [ownM o ho, tabM t ht, hcmp, p_md3 hm, nI_clamp (show o < 2 ^ 31 by omega), pz_gd2 ho (show 8 < 2 ^ 31 by omega), ei, nI_clamp (show 16 * o + t < 2 ^ 31 by omega), pz_gd2 (show 16 * o + t < 128 by omega) (show 128 < 2 ^ 31 by omega), d1, q1, hmm, p_alM hh6 hm, qa, htc, har, jn3, b2f, hcM, j8, qn8, ev, hv, qf, ob1_s, ob2_s, jn0, jn1, jn2, rf0, rf1, rf2, rf3, eq_self, if_true, i10, n10, n20, n30, if_false, Bool.false_eq_true]
                · have qn8 : n = 8 := by omega
                  have hany := cnt_any (show ¬ rs.countP (isOnB o t) = 0 by omega)
                  obtain ⟨h, hh⟩ := any_held hJ.2.2.2.1 hany
                  obtain ⟨M, hM⟩ : ∃ M, M = jnd h (sB (m != 2) rs o t) := ⟨_, rfl⟩
                  have c2 : nI m = 2 ↔ m = 2 := nI_eq (b := 2) (by omega) (by omega)
                  have hse := p_setEsc S1.2.1 S1.2.2.1 ho ht hh (f := (m != 2)) (x := nI m) (by rw [c2]; simp) hM rta ron rmo rin res
                  have n8 : nI 8 = (8 : Int32) := rfl
                  have nl8 : ¬ (8 : Nat) < 8 := by decide
                  obtain ⟨r, a', b', re', rem', k', t', m', i', c', w', mar', rq', cm', ar', sc', A', B', st', tm', rs', ln', gr', f1, f2, f3, f4⟩ := p_esc hJ hO hN ho ht q1 hany hh (f := (m != 2)) (y := if m = 2 then 0 else 1) (by by_cases z : m = 2 <;> simp [z]) hM xre mre
                  have f1' : F_T_ask xst xse xre xgr ltm low lta llo lhi lmo (upd rta o (nI t)) (upd ron o 0) rlo rhi (upd rmo o (nI M)) (upd rin o 1) (upd res o 1) rsi rli rar 0 (nI o) xno lco rwa rad (nI o) = some (AR r a' re' (upd rsi o xno) (upd rar o rad) (rad + 1)) := f1
                  have f2' : F_M_escalated mst mse mmo mrc mro mrt mrm mrl mrh mwk mwt mwm mwl mwh mwi mwc mwx mar 0 mgo mre mfr (nI o) (nI t) (if m = 2 then 0 else 1) = some (ER r b' k' t' m' i' c' w' mar' rem') := f2
                  refine ⟨0, r, a'.1, re', a'.2.1, a'.2.2.1, a'.2.2.2.1, a'.2.2.2.2.1, a'.2.2.2.2.2.1, a'.2.2.2.2.2.2.1, a'.2.2.2.2.2.2.2.1, upd rta o (nI t), upd ron o 0, rlo, rhi, upd rmo o (nI M), upd rin o 1, upd res o 1, upd rsi o xno, a'.2.2.2.2.2.2.2.2.1, upd rar o rad, a'.2.2.2.2.2.2.2.2.2.1, nI o, a'.2.2.2.2.2.2.2.2.2.2.1, a'.2.2.2.2.2.2.2.2.2.2.2, rad + 1, r, 0, b'.1, b'.2.1, b'.2.2.1, b'.2.2.2.1, b'.2.2.2.2.1, b'.2.2.2.2.2.1, b'.2.2.2.2.2.2.1, b'.2.2.2.2.2.2.2.1, k', t', m', mwl, mwh, i', c', w', mar', b'.2.2.2.2.2.2.2.2.1, b'.2.2.2.2.2.2.2.2.2.1, rem', b'.2.2.2.2.2.2.2.2.2.2, ?_, ?_, rfl, by omega, fun _ => rfl, rq', cm', ar', sc', T, A', B', L, st', tm', rs', ln', gr', f3, f4⟩
                  · unfold F_T_range F_T_startCall
                    simp only [ownC o ho, tabC t ht, hchk, p_works S1.1 ho, q1, hal, hhm, qa, b2t, b2f, hcov, hcC, k8, qn, hse, ob5_s, ob1_s, ob2_s, jn0, jn1, jn2, rf0, rf1, rf2, rf3, eq_self, if_true, i10, n10, n20, n30, if_false, Bool.false_eq_true]
                    rw [f1']
                    rfl
                  · unfold F_M_range
                    simp only [ownM o ho, tabM t ht, hcmp, p_md3 hm, nI_clamp (show o < 2 ^ 31 by omega), pz_gd2 ho (show 8 < 2 ^ 31 by omega), ei, nI_clamp (show 16 * o + t < 2 ^ 31 by omega), pz_gd2 (show 16 * o + t < 128 by omega) (show 128 < 2 ^ 31 by omega), d1, q1, hmm, p_alM hh6 hm, qa, htc, har, jn3, b2f, hcM, j8, qn8, n8, ob1_s, ob2_s, jn0, jn1, jn2, rf0, rf1, rf2, rf3, eq_self, if_true, i10, n10, n20, n30, if_false, Bool.false_eq_true]
                    by_cases z : m = 2
                    · rw [if_pos z] at f2'
                      rw [if_pos (c2.mpr z), f2']
                      rfl
                    · rw [if_neg z] at f2'
                      rw [if_neg (fun e => z (c2.mp e)), f2']
                      rfl
        · refine ⟨2, 0, xst, xre, xgr, ltm, low, lta, llo, lhi, lmo, rta, ron, rlo, rhi, rmo, rin, res, rsi, rli, rar, xgc, xca, lco, rwa, rad, 0, 2, mst, mmo, mrc, mro, mrt, mrm, mrl, mrh, mwk, mwt, mwm, mwl, mwh, mwi, mwc, mwx, mar, mgr, mgo, mre, mfr, ?_, ?_, rfl, by omega, fun h => (by cases h), rl_th hR 2⟩
          · unfold F_T_range
            simp only [ownC o ho, tabC t ht, hchk, p_works S1.1 ho, q1, ob1_s, ob2_s, jn0, jn1, jn2, rf0, rf1, rf2, rf3, eq_self, if_true, i10, n10, n20, n30, if_false, Bool.false_eq_true]
          · unfold F_M_range
            cases qa : alw (tm o t) m with
            | true => simp only [ownM o ho, tabM t ht, hcmp, p_md3 hm, nI_clamp (show o < 2 ^ 31 by omega), pz_gd2 ho (show 8 < 2 ^ 31 by omega), ei, nI_clamp (show 16 * o + t < 2 ^ 31 by omega), pz_gd2 (show 16 * o + t < 128 by omega) (show 128 < 2 ^ 31 by omega), d1, q1, hmm, p_alM hh6 hm, qa, htc, har, jn3, ob1_s, ob2_s, jn0, jn1, jn2, rf0, rf1, rf2, rf3, eq_self, if_true, i10, n10, n20, n30, if_false, Bool.false_eq_true]
            | false => simp only [ownM o ho, tabM t ht, hcmp, p_md3 hm, nI_clamp (show o < 2 ^ 31 by omega), pz_gd2 ho (show 8 < 2 ^ 31 by omega), ei, nI_clamp (show 16 * o + t < 2 ^ 31 by omega), pz_gd2 (show 16 * o + t < 128 by omega) (show 128 < 2 ^ 31 by omega), d1, q1, hmm, p_alM hh6 hm, qa, htc, har, jn3, ob1_s, ob2_s, jn0, jn1, jn2, rf0, rf1, rf2, rf3, eq_self, if_true, i10, n10, n20, n30, if_false, Bool.false_eq_true]
      · refine ⟨1, 0, xst, xre, xgr, ltm, low, lta, llo, lhi, lmo, rta, ron, rlo, rhi, rmo, rin, res, rsi, rli, rar, xgc, xca, lco, rwa, rad, 0, 1, mst, mmo, mrc, mro, mrt, mrm, mrl, mrh, mwk, mwt, mwm, mwl, mwh, mwi, mwc, mwx, mar, mgr, mgo, mre, mfr, ?_, ?_, rfl, by omega, fun h => (by cases h), rl_th hR 1⟩
        · unfold F_T_range
          simp only [ownC o ho, tabC t ht, e1, ob1_s, ob2_s, jn0, jn1, jn2, rf0, rf1, rf2, rf3, eq_self, if_true, i10, n10, n20, n30, if_false, Bool.false_eq_true]
        · unfold F_M_range
          rcases e2 with e2 | ⟨e2, e3, e4⟩
          · simp only [ownM o ho, tabM t ht, e2, nI_clamp (show o < 2 ^ 31 by omega), pz_gd2 ho (show 8 < 2 ^ 31 by omega), ei, nI_clamp (show 16 * o + t < 2 ^ 31 by omega), pz_gd2 (show 16 * o + t < 128 by omega) (show 128 < 2 ^ 31 by omega), ite_self, jn3, ob1_s, ob2_s, jn0, jn1, jn2, rf0, rf1, rf2, rf3, eq_self, if_true, i10, n10, n20, n30, if_false, Bool.false_eq_true]
          · simp only [ownM o ho, tabM t ht, e2, e3, e4, nI_clamp (show o < 2 ^ 31 by omega), pz_gd2 ho (show 8 < 2 ^ 31 by omega), ei, nI_clamp (show 16 * o + t < 2 ^ 31 by omega), pz_gd2 (show 16 * o + t < 128 by omega) (show 128 < 2 ^ 31 by omega), ite_self, jn3, ob1_s, ob2_s, jn0, jn1, jn2, rf0, rf1, rf2, rf3, eq_self, if_true, i10, n10, n20, n30, if_false, Bool.false_eq_true]
    · refine ⟨1, 0, xst, xre, xgr, ltm, low, lta, llo, lhi, lmo, rta, ron, rlo, rhi, rmo, rin, res, rsi, rli, rar, xgc, xca, lco, rwa, rad, 0, 1, mst, mmo, mrc, mro, mrt, mrm, mrl, mrh, mwk, mwt, mwm, mwl, mwh, mwi, mwc, mwx, mar, mgr, mgo, mre, mfr, ?_, ?_, rfl, by omega, fun h => (by cases h), rl_th hR 1⟩
      · unfold F_T_range
        simp only [ownC o ho, e1, ob1_s, ob2_s, jn0, jn1, jn2, rf0, rf1, rf2, rf3, eq_self, if_true, i10, n10, n20, n30, if_false, Bool.false_eq_true]
      · unfold F_M_range
        simp only [ownM o ho, e2, nI_clamp (show o < 2 ^ 31 by omega), pz_gd2 ho (show 8 < 2 ^ 31 by omega), ite_self, jn3, ob1_s, ob2_s, jn0, jn1, jn2, rf0, rf1, rf2, rf3, eq_self, if_true, i10, n10, n20, n30, if_false, Bool.false_eq_true]
  · refine ⟨1, 0, xst, xre, xgr, ltm, low, lta, llo, lhi, lmo, rta, ron, rlo, rhi, rmo, rin, res, rsi, rli, rar, xgc, xca, lco, rwa, rad, 0, 1, mst, mmo, mrc, mro, mrt, mrm, mrl, mrh, mwk, mwt, mwm, mwl, mwh, mwi, mwc, mwx, mar, mgr, mgo, mre, mfr, ?_, ?_, rfl, by omega, fun h => (by cases h), rl_th hR 1⟩
    · unfold F_T_range
      simp only [e1, ob1_s, ob2_s, jn0, jn1, jn2, rf0, rf1, rf2, rf3, eq_self, if_true, i10, n10, n20, n30, if_false, Bool.false_eq_true]
    · unfold F_M_range
      simp only [e2, ite_self, jn3, ob1_s, ob2_s, jn0, jn1, jn2, rf0, rf1, rf2, rf3, eq_self, if_true, i10, n10, n20, n30, if_false, Bool.false_eq_true]
