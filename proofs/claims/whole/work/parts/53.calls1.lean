/-! calls that change, without a request -/
theorem Jt.fresh {qc : QC} {qm : QM} {rq : Nat → Rq} {cm : Nat → Nat} {a : CA} {b : MA} {st : Nat → Nat} {tm : Nat → Nat → Option Nat} {rs : List Row} {ln gr : List Nat} (h : Jt qc qm rq cm a b st tm rs ln gr) : Jt qc qm rq cm (a.1, a.2.1, a.2.2.1, a.2.2.2.1, a.2.2.2.2.1, a.2.2.2.2.2.1, a.2.2.2.2.2.2.1, a.2.2.2.2.2.2.2.1, a.2.2.2.2.2.2.2.2.1, 0, a.2.2.2.2.2.2.2.2.2.2.1, a.2.2.2.2.2.2.2.2.2.2.2) (b.1, b.2.1, b.2.2.1, b.2.2.2.1, b.2.2.2.2.1, b.2.2.2.2.2.1, b.2.2.2.2.2.2.1, b.2.2.2.2.2.2.2.1, 0, b.2.2.2.2.2.2.2.2.2.1, b.2.2.2.2.2.2.2.2.2.2) st tm rs ln [] := by
  obtain ⟨⟨s1, s2, s3, s4, s5⟩, ⟨t1, t2, t3, t4⟩, h3, h4, h5⟩ := h
  exact ⟨⟨s1, s2, s3, s4, fun k x hx => (by cases hx), rfl⟩, ⟨t1, t2, t3, fun k x hx => (by cases hx), rfl⟩, h3, h4, by simp only [List.length_nil]; omega⟩
theorem Jt.state {qc : QC} {qm : QM} {rq : Nat → Rq} {cm : Nat → Nat} {a : CA} {b : MA} {st : Nat → Nat} {tm : Nat → Nat → Option Nat} {rs : List Row} {ln gr : List Nat} (h : Jt qc qm rq cm a b st tm rs ln gr) {o v : Nat} (hv : v < 5) (hv2 : v ≠ 2) (ho : st o ≠ 2) : Jt qc qm rq cm (upd a.1 o (nI v), a.2.1, a.2.2.1, a.2.2.2.1, a.2.2.2.2.1, a.2.2.2.2.2.1, a.2.2.2.2.2.2.1, a.2.2.2.2.2.2.2.1, a.2.2.2.2.2.2.2.2.1, a.2.2.2.2.2.2.2.2.2.1, a.2.2.2.2.2.2.2.2.2.2.1, a.2.2.2.2.2.2.2.2.2.2.2) (upd b.1 o (nI v), b.2.1, b.2.2.1, b.2.2.2.1, b.2.2.2.2.1, b.2.2.2.2.2.1, b.2.2.2.2.2.2.1, b.2.2.2.2.2.2.2.1, b.2.2.2.2.2.2.2.2.1, b.2.2.2.2.2.2.2.2.2.1, b.2.2.2.2.2.2.2.2.2.2) (stSet st o v) tm rs ln gr := by
  obtain ⟨⟨s1, s2, s3, s4, s5⟩, ⟨t1, t2, t3, t4⟩, h3, h4, h5⟩ := h
  refine ⟨⟨s1.set hv, s2, s3, s4, s5⟩, ⟨t1.set hv, t2, t3, t4⟩, invQ_congr h3 (fun x _ => agC_refl qc x) (fun x _ => agM_refl qm x) (fun x hx => ?_), h4, h5⟩
  unfold stSet
  by_cases q : x = o
  · rw [if_pos q, q]
    exact ⟨fun e => absurd e hv2, fun e => absurd e ho⟩
  · rw [if_neg q]
theorem Jt.notIn {qc : QC} {qm : QM} {rq : Nat → Rq} {cm : Nat → Nat} {a : CA} {b : MA} {st : Nat → Nat} {tm : Nat → Nat → Option Nat} {rs : List Row} {ln gr : List Nat} (h : Jt qc qm rq cm a b st tm rs ln gr) {o : Nat} (ho : st o ≠ 2) : o ∉ ln := fun m => ho ((h.2.2.1.1.2.1 o).mp m).2
def rdTm (o : Nat) (tm : Nat → Nat → Option Nat) : Nat → Nat → Option Nat := fun x b => if x = o then rdM (tm x b) else tm x b
def noTm (o : Nat) (tm : Nat → Nat → Option Nat) : Nat → Nat → Option Nat := fun x b => if x = o then none else tm x b
theorem rdM_str {a : Nat} (h : str a = true) : ∃ b, rdM (some a) = some b ∧ str b = true := by
  unfold str at h
  simp at h
  rcases h with (rfl | rfl) | rfl
  · exact ⟨1, rfl, rfl⟩
  · exact ⟨1, rfl, rfl⟩
  · exact ⟨5, rfl, rfl⟩
/-- both give what an owner reads -/
theorem Jt.reading {qc : QC} {qm : QM} {rq : Nat → Rq} {cm : Nat → Nat} {a : CA} {b : MA} {st : Nat → Nat} {tm : Nat → Nat → Option Nat} {rs : List Row} {ln gr : List Nat} (h : Jt qc qm rq cm a b st tm rs ln gr) {o : Nat} (ho : o < 8) (hol : o ∉ ln) : ∃ (u1 u2 u3 : Nat → Int32) (u4 u5 : Nat → Int64) (u6 : Nat → Int32) (u7 : Int32) (v1 : Nat → Int32) (v2 : Int32) (v3 v4 v5 : Nat → Int32) (v6 v7 : Nat → Int64), F_L_dropReading a.2.2.1 a.2.2.2.1 a.2.2.2.2.1 a.2.2.2.2.2.1 a.2.2.2.2.2.2.1 a.2.2.2.2.2.2.2.1 a.2.2.2.2.2.2.2.2.2.2.1 (nI o) = some (u1, u2, u3, u4, u5, u6, u7) ∧ F_M_giveReading b.2.1 b.2.2.1 b.2.2.2.1 b.2.2.2.2.1 b.2.2.2.2.2.1 b.2.2.2.2.2.2.1 b.2.2.2.2.2.2.2.1 (nI o) = some (v1, v2, v3, v4, v5, v6, v7) ∧ Jt qc qm rq cm (a.1, a.2.1, u1, u2, u3, u4, u5, u6, a.2.2.2.2.2.2.2.2.1, a.2.2.2.2.2.2.2.2.2.1, u7, a.2.2.2.2.2.2.2.2.2.2.2) (b.1, v1, v2, v3, v4, v5, v6, v7, b.2.2.2.2.2.2.2.2.1, b.2.2.2.2.2.2.2.2.2.1, b.2.2.2.2.2.2.2.2.2.2) st (rdTm o tm) (rs.filter (fun r => !rdB o r)) ln gr := by
  obtain ⟨⟨s1, s2, ⟨rs0, s3, s4, s5⟩, s6, s7⟩, ⟨t1, t2, ⟨rs1, t3, t4, t5⟩, t6⟩, h3, h4, h5⟩ := h
  obtain ⟨u1, u2, u3, u4, u5, u6, rs2, e1, e2, e3, e4⟩ := p_dropReading s3 s2 ho
  obtain ⟨v1, v3, v4, v6, v7, v5, rs3, f1, f2, f3, f4⟩ := p_giveReading t3 t2 ho
  refine ⟨u1, u2, u3, u4, u5, u6, nI rs2.length, v1, nI rs3.length, v3, v4, v5, v6, v7, by rw [s4]; exact e1, by rw [t4]; exact f1, ⟨s1, e2, ⟨rs2, e3, rfl, e4.trans (s5.filter _)⟩, s6, s7⟩, ⟨t1, f2, ⟨rs3, f3, rfl, f4.trans (t5.filter _)⟩, t6⟩, h3, ?_, h5⟩
  refine invR_own h4 hol List.filter_sublist (fun r hr hne => List.mem_filter.mpr ⟨hr, ?_⟩) (fun x t hx => ?_) (fun r hr he => ?_)
  · unfold rdB
    have : (r.1 == o) = false := by simpa using hne
    rw [this]
    rfl
  · unfold rdTm
    rw [if_neg hx]
  · obtain ⟨m1, m2⟩ := List.mem_filter.mp hr
    have m5 : r.2.2.2.2 = 5 := by
      unfold rdB at m2
      have : (r.1 == o) = true := by simpa using he
      rw [this] at m2
      simpa using m2
    obtain ⟨x, x1, x2⟩ := h4.2.2.2.2.1 r m1
    obtain ⟨y, y1, y2⟩ := rdM_str (x2 m5)
    refine ⟨y, ?_, fun _ => y2⟩
    unfold rdTm
    rw [if_pos he, x1]
    exact y1
/-- both give all of an owner -/
theorem Jt.all {qc : QC} {qm : QM} {rq : Nat → Rq} {cm : Nat → Nat} {a : CA} {b : MA} {st : Nat → Nat} {tm : Nat → Nat → Option Nat} {rs : List Row} {ln gr : List Nat} (h : Jt qc qm rq cm a b st tm rs ln gr) {o : Nat} (ho : o < 8) (hol : o ∉ ln) (fr : Int32) : ∃ (u1 u2 u3 : Nat → Int32) (u4 u5 : Nat → Int64) (u6 : Nat → Int32) (u7 : Int32) (v1 : Nat → Int32) (v2 : Int32) (v3 v4 v5 : Nat → Int32) (v6 v7 : Nat → Int64) (v8 : Int32), F_L_dropAll a.2.2.1 a.2.2.2.1 a.2.2.2.2.1 a.2.2.2.2.2.1 a.2.2.2.2.2.2.1 a.2.2.2.2.2.2.2.1 a.2.2.2.2.2.2.2.2.2.2.1 (nI o) = some (u1, u2, u3, u4, u5, u6, u7) ∧ F_M_end_L42 (nI o) fu b.2.1 b.2.2.1 b.2.2.2.1 b.2.2.2.2.1 b.2.2.2.2.2.1 b.2.2.2.2.2.2.1 b.2.2.2.2.2.2.2.1 fr 0 = some (v1, v2, v3, v4, v5, v6, v7, v8) ∧ Jt qc qm rq cm (a.1, a.2.1, u1, u2, u3, u4, u5, u6, a.2.2.2.2.2.2.2.2.1, a.2.2.2.2.2.2.2.2.2.1, u7, a.2.2.2.2.2.2.2.2.2.2.2) (b.1, v1, v2, v3, v4, v5, v6, v7, b.2.2.2.2.2.2.2.2.1, b.2.2.2.2.2.2.2.2.2.1, v8) st (noTm o tm) (rs.filter (fun r => !(r.1 == o))) ln gr := by
  obtain ⟨⟨s1, s2, ⟨rs0, s3, s4, s5⟩, s6, s7⟩, ⟨t1, t2, ⟨rs1, t3, t4, t5⟩, t6⟩, h3, h4, h5⟩ := h
  obtain ⟨u1, u2, u3, u4, u5, u6, rs2, e1, e2, e3, e4⟩ := p_dropAll s3 s2 ho
  obtain ⟨v1, v3, v4, v6, v7, v5, rs3, v8, f1, f2, f3, f4⟩ := p_endL t3 t2 ho fr
  refine ⟨u1, u2, u3, u4, u5, u6, nI rs2.length, v1, nI rs3.length, v3, v4, v5, v6, v7, v8, by rw [s4]; exact e1, by rw [t4]; exact f1, ⟨s1, e2, ⟨rs2, e3, rfl, e4.trans (s5.filter _)⟩, s6, s7⟩, ⟨t1, f2, ⟨rs3, f3, rfl, f4.trans (t5.filter _)⟩, t6⟩, h3, ?_, h5⟩
  refine invR_own h4 hol List.filter_sublist (fun r hr hne => List.mem_filter.mpr ⟨hr, ?_⟩) (fun x t hx => ?_) (fun r hr he => ?_)
  · have : (r.1 == o) = false := by simpa using hne
    rw [this]
    rfl
  · unfold noTm
    rw [if_neg hx]
  · obtain ⟨m1, m2⟩ := List.mem_filter.mp hr
    have : (r.1 == o) = true := by simpa using he
    rw [this] at m2
    cases m2
theorem SubD.zero {qc : QC} {qm : QM} {rq : Nat → Rq} {cm : Nat → Nat} {st st' : Nat → Nat} {ln ln' : List Nat} (h : SubD st ln st' ln') (h1 : InvQ qc qm rq cm st ln) (h2 : InvQ qc qm rq cm st' ln') (x : Nat) : st' x = 0 ↔ st x = 0 := by
  by_cases q : x ∈ ln
  · have e1 := ((h1.1.2.1 x).mp q).2
    by_cases q2 : x ∈ ln'
    · have e2 := ((h2.1.2.1 x).mp q2).2
      omega
    · have := h.2.2 x q q2
      omega
  · rw [h.2.1 x q]
theorem sub1 (o : Nat) {ln : List Nat} (h8 : ∀ x ∈ ln, x < 8) (ho : o < 8) (hol : o ∉ ln) : ∀ x ∈ ln, nI x = nI o ↔ nI x = -1 := by
  intro x hx
  have x8 := h8 x hx
  constructor
  · intro e
    exact absurd ((nI_eq (by omega) (by omega)).mp e) (fun e => hol (e ▸ hx))
  · intro e
    exact absurd e (pz_nm x (by omega))
theorem Jt.lt8 {qc : QC} {qm : QM} {rq : Nat → Rq} {cm : Nat → Nat} {a : CA} {b : MA} {st : Nat → Nat} {tm : Nat → Nat → Option Nat} {rs : List Row} {ln gr : List Nat} (h : Jt qc qm rq cm a b st tm rs ln gr) : ∀ x ∈ ln, x < 8 := fun x hx => ((h.2.2.1.1.2.1 x).mp hx).1
theorem stSet_0 {st : Nat → Nat} {o v : Nat} (h : st o ≠ 0) (hv : v ≠ 0) (x : Nat) : stSet st o v x = 0 ↔ st x = 0 := by
  unfold stSet
  by_cases q : x = o
  · rw [if_pos q, q]
    exact ⟨fun e => absurd e hv, fun e => absurd e h⟩
  · rw [if_neg q]
theorem st_limit : St_limit Rl := by
  intro N xst xse xre xgr ltm low lta llo lhi lmo rta ron rlo rhi rmo rin res rsi rli rar xgc xca xls xtl xno lco rwa rad mth mst mse mla mmo mrc mro mrt mrm mrl mrh mwk mwt mwm mwl mwh mwi mwc mwx mar mli mgr mgo mre mfr a1 hN hR
  have hR0 := hR
  obtain ⟨rq, cm, ar, sc, T, A, B, L, st, tm, rs, ln, gr, hJ, hO⟩ := hR0
  have s1 : stAt xst st := hJ.1.1
  have t1 : stAt mst st := hJ.2.1.1
  by_cases h : a1 < 0
  · refine ⟨1, xgc, xca, xtl, 1, mli, mgr, ?_, ?_, rfl, by omega, rl_th hR 1⟩
    · unfold F_T_limit F_T_checkTicks
      simp only [h, ob1_s, ob2_s, jn0, jn1, jn2, rf0, rf1, rf2, rf3, eq_self, if_true, i10, n10, n20, n30, if_false]
    · unfold F_M_limit
      simp only [h, ob1_s, ob2_s, jn0, jn1, jn2, rf0, rf1, rf2, rf3, eq_self, if_true, i10, n10, n20, n30, if_false]
  · by_cases h2 : a1 ≤ 1000
    · obtain ⟨j, hj, rfl⟩ := nI_of2 (n := 1000) (by decide) h h2
      refine ⟨0, 0, -1, nI j, 0, nI j, 0, ?_, ?_, rfl, by omega, rq, cm, ar, sc, T, A, B, j, st, tm, rs, ln, [], hJ.fresh, ?_⟩
      · unfold F_T_limit F_T_checkTicks F_T_startCall
        simp only [h, h2, ob1_s, ob2_s, jn0, jn1, jn2, rf0, rf1, rf2, rf3, eq_self, if_true, i10, n10, n20, n30, if_false]
      · unfold F_M_limit
        simp only [h, h2, ob1_s, ob2_s, jn0, jn1, jn2, rf0, rf1, rf2, rf3, eq_self, if_true, i10, n10, n20, n30, if_false]
      · obtain ⟨g1, g2, g3, g4, g5⟩ := hO.mono (fun _ _ => Iff.rfl) (fun _ h => h)
        exact ⟨g1, g2, g3, ⟨rfl, rfl, hj⟩, g5⟩
    · refine ⟨1, xgc, xca, xtl, 1, mli, mgr, ?_, ?_, rfl, by omega, rl_th hR 1⟩
      · unfold F_T_limit F_T_checkTicks
        simp only [h, h2, ob1_s, ob2_s, jn0, jn1, jn2, rf0, rf1, rf2, rf3, eq_self, if_true, i10, n10, n20, n30, if_false]
      · unfold F_M_limit
        simp only [h, h2, ob1_s, ob2_s, jn0, jn1, jn2, rf0, rf1, rf2, rf3, eq_self, if_true, i10, n10, n20, n30, if_false]
theorem st_begin : St_begin Rl := by
  intro N xst xse xre xgr ltm low lta llo lhi lmo rta ron rlo rhi rmo rin res rsi rli rar xgc xca xls xtl xno lco rwa rad mth mst mse mla mmo mrc mro mrt mrm mrl mrh mwk mwt mwm mwl mwh mwi mwc mwx mar mli mgr mgo mre mfr a1 hN hR
  have hR0 := hR
  obtain ⟨rq, cm, ar, sc, T, A, B, L, st, tm, rs, ln, gr, hJ, hO⟩ := hR0
  have s1 : stAt xst st := hJ.1.1
  have t1 : stAt mst st := hJ.2.1.1
  rcases own_cases a1 with ⟨o, ho, rfl⟩ | ⟨e1, e2⟩
  · have c0 : xst o = 0 ↔ st o = 0 := s1.eq (k := 0) ho (by omega)
    have d0 : mst o = 0 ↔ st o = 0 := t1.eq (k := 0) ho (by omega)
    by_cases q : st o = 0
    · refine ⟨0, xls + 1, upd xst o 1, upd xse o (xls + 1), 0, nI o, xls + 1, mla + 1, 0, upd mst o 1, upd mse o (mla + 1), mla + 1, 0, ?_, ?_, rfl, by omega, fun _ => by rw [hO.2.2.1], rq, cm, ar, sc, T, A, B, L, stSet st o 1, tm, rs, ln, [], hJ.fresh.state (v := 1) (by omega) (by omega) (by omega), ?_⟩
      · unfold F_T_begin F_T_startCall
        simp only [ownC o ho, ob1_s, ob2_s, jn0, jn1, jn2, rf0, rf1, rf2, rf3, eq_self, if_true, i10, n10, n20, n30, if_false, nI_clamp (show o < 2 ^ 31 by omega), pz_gd2 ho (show 8 < 2 ^ 31 by omega), c0, q]
      · unfold F_M_begin
        simp only [ownM o ho, ob1_s, ob2_s, jn0, jn1, jn2, rf0, rf1, rf2, rf3, eq_self, if_true, i10, n10, n20, n30, if_false, nI_clamp (show o < 2 ^ 31 by omega), pz_gd2 ho (show 8 < 2 ^ 31 by omega), d0, q]
      · obtain ⟨g1, g2, g3, g4, ⟨g5, g5'⟩, g6, ⟨g7, g7', g7'', g7'''⟩, g8⟩ := hO
        refine ⟨fun x hx e => ?_, fun x hx e => ?_, by rw [g3], g4, ⟨g5, by omega⟩, g6, ⟨g7, by omega, g7'', by omega⟩, g8⟩
        · unfold upd
          by_cases z : x = o
          · rw [if_pos z, if_pos z, g3]
          · rw [if_neg z, if_neg z]
            unfold stSet at e
            rw [if_neg z] at e
            exact g1 x hx e
        · unfold stSet at e
          by_cases z : x = o
          · rw [if_pos z] at e; cases e
          · rw [if_neg z] at e
            unfold upd
            rw [if_neg z]
            exact g2 x hx e
    · refine ⟨2, 0, xst, xse, xgc, xca, xls, 0, 2, mst, mse, mla, mgr, ?_, ?_, rfl, by omega, fun h => (by cases h), rl_th hR 2⟩
      · unfold F_T_begin
        simp only [ownC o ho, ob1_s, ob2_s, jn0, jn1, jn2, rf0, rf1, rf2, rf3, eq_self, if_true, i10, n10, n20, n30, if_false, nI_clamp (show o < 2 ^ 31 by omega), pz_gd2 ho (show 8 < 2 ^ 31 by omega), c0, q]
      · unfold F_M_begin
        simp only [ownM o ho, ob1_s, ob2_s, jn0, jn1, jn2, rf0, rf1, rf2, rf3, eq_self, if_true, i10, n10, n20, n30, if_false, nI_clamp (show o < 2 ^ 31 by omega), pz_gd2 ho (show 8 < 2 ^ 31 by omega), d0, q]
  · refine ⟨1, 0, xst, xse, xgc, xca, xls, 0, 1, mst, mse, mla, mgr, ?_, ?_, rfl, by omega, fun h => (by cases h), rl_th hR 1⟩
    · unfold F_T_begin
      simp only [e1, ob1_s, ob2_s, jn0, jn1, jn2, rf0, rf1, rf2, rf3, eq_self, if_true, i10, n10, n20, n30, if_false]
    · unfold F_M_begin
      simp only [e2, ob1_s, ob2_s, jn0, jn1, jn2, rf0, rf1, rf2, rf3, eq_self, if_true, i10, n10, n20, n30, if_false]
