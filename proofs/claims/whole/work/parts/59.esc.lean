/-! escalation -/
def ER (r : Int32) (b : MA) (k t m i c mwx : Nat → Int32) (mar : Int32) (re : Nat → Int32) : Int32 × (Nat → Int32) × (Nat → Int32) × Int32 × (Nat → Int32) × (Nat → Int32) × (Nat → Int32) × (Nat → Int64) × (Nat → Int64) × (Nat → Int32) × (Nat → Int32) × (Nat → Int32) × (Nat → Int32) × (Nat → Int32) × (Nat → Int32) × Int32 × Int32 × (Nat → Int32) × (Nat → Int32) × Int32 := (r, b.1, b.2.1, b.2.2.1, b.2.2.2.1, b.2.2.2.2.1, b.2.2.2.2.2.1, b.2.2.2.2.2.2.1, b.2.2.2.2.2.2.2.1, k, t, m, i, c, mwx, mar, b.2.2.2.2.2.2.2.2.1, b.2.2.2.2.2.2.2.2.2.1, re, b.2.2.2.2.2.2.2.2.2.2)
def escM (qm : QM) (mse : Nat → Int32) (b : MA) (mwx : Nat → Int32) (mar : Int32) (re : Nat → Int32) (o t y : Int32) : Option (Int32 × (Nat → Int32) × (Nat → Int32) × Int32 × (Nat → Int32) × (Nat → Int32) × (Nat → Int32) × (Nat → Int64) × (Nat → Int64) × (Nat → Int32) × (Nat → Int32) × (Nat → Int32) × (Nat → Int32) × (Nat → Int32) × (Nat → Int32) × Int32 × Int32 × (Nat → Int32) × (Nat → Int32) × Int32) := F_M_escalated b.1 mse b.2.1 b.2.2.1 b.2.2.2.1 b.2.2.2.2.1 b.2.2.2.2.2.1 b.2.2.2.2.2.2.1 b.2.2.2.2.2.2.2.1 qm.1 qm.2.1 qm.2.2.1 qm.2.2.2.1 qm.2.2.2.2.1 qm.2.2.2.2.2.1 qm.2.2.2.2.2.2 mwx mar b.2.2.2.2.2.2.2.2.1 b.2.2.2.2.2.2.2.2.2.1 re b.2.2.2.2.2.2.2.2.2.2 o t y
/-- how strong the whole is -/
def sB (f : Bool) (rs : List Row) (o t : Nat) : Nat := if f || rs.any (fun r => isOnB o t r && r.2.2.2.2 != 2) then 5 else 2
theorem sB_lt (f : Bool) (rs : List Row) (o t : Nat) : sB f rs o t < 6 := by
  unfold sB
  by_cases q : (f || rs.any (fun r => isOnB o t r && r.2.2.2.2 != 2)) = true
  · rw [if_pos q]; decide
  · rw [if_neg q]; decide
theorem escM_step {qm : QM} {mse : Nat → Int32} {b : MA} {st : Nat → Nat} {tm : Nat → Nat → Option Nat} {rs : List Row} {gr : List Nat} (S2 : MSa b st tm rs gr) {o t h : Nat} (ho : o < 8) (ht : t < 16) (hh : tm o t = some h) {f : Bool} {y : Int32} (hy : y = 0 ↔ f = false) {M : Nat} (hM : M = jnd h (sB f rs o t)) (mwx : Nat → Int32) (mar : Int32) (re : Nat → Int32) : escM qm mse b mwx mar re (nI o) (nI t) y = if M = h then ob7 (F_M_dropRanges b.2.2.1 b.2.2.2.1 b.2.2.2.2.1 b.2.2.2.2.2.1 b.2.2.2.2.2.2.1 b.2.2.2.2.2.2.2.1 b.2.2.2.2.2.2.2.2.2.2 (nI o) (nI t)) (fun z1 z2 z3 z4 z5 z6 z7 => ob11 (lookM qm (nI o) (b.1, b.2.1, z1, z2, z3, z4, z5, z6, b.2.2.2.2.2.2.2.2.1, b.2.2.2.2.2.2.2.2.2.1, z7)) (fun y1 y2 y3 y4 y5 y6 y7 y8 y9 y10 y11 => some (ER 0 (y1, y2, y3, y4, y5, y6, y7, y8, y9, y10, y11) qm.1 qm.2.1 qm.2.2.1 qm.2.2.2.2.2.1 qm.2.2.2.2.2.2 mwx mar re))) else ob17 (askM (upd qm.1 o 2, upd qm.2.1 o (nI t), upd qm.2.2.1 o (nI M), qm.2.2.2.1, qm.2.2.2.2.1, qm.2.2.2.2.2.1, qm.2.2.2.2.2.2) mse b mwx mar re (nI o) 1) (fun r y1 y2 y3 y4 y5 y6 y7 y8 i c w v y9 y10 re y11 => some (ER r (y1, y2, y3, y4, y5, y6, y7, y8, y9, y10, y11) (upd qm.1 o 2) (upd qm.2.1 o (nI t)) (upd qm.2.2.1 o (nI M)) i c w v re)) := by
  obtain ⟨t1, t2, ⟨rs1, t3, t4, t5⟩, t6⟩ := S2
  have ei : (16 : Int32) * nI o + nI t = nI (16 * o + t) := by rw [show (16 : Int32) = nI 16 from rfl, pk_mul, nI_add]
  obtain ⟨hmm, h6⟩ := t2 o t ho ht
  rw [hh] at hmm
  have hh6 := h6 h hh
  have hj2 : F_M_joinedWith b.2.1 (nI o) (nI t) 2 = some (nI (jnd h 2)) := by
    have := p_joinedWith (m := 2) t2 ho ht (by decide)
    rw [hh] at this
    exact this
  have hj5 : F_M_joinedWith b.2.1 (nI o) (nI t) 5 = some (nI (jnd h 5)) := by
    have := p_joinedWith (m := 5) t2 ho ht (by decide)
    rw [hh] at this
    exact this
  have hw := p_writes t3 ho ht
  rw [any_perm t5, ← t4] at hw
  have hMl : M < 6 := by rw [hM]; exact jnd_lt h hh6 _ (sB_lt f rs o t)
  have hsame : (nI M = mI (some h)) = (M = h) := propext (nI_eq (by omega) (by omega))
  have goal : (if nI M = mI (some h) then ob7 (F_M_dropRanges b.2.2.1 b.2.2.2.1 b.2.2.2.2.1 b.2.2.2.2.2.1 b.2.2.2.2.2.2.1 b.2.2.2.2.2.2.2.1 b.2.2.2.2.2.2.2.2.2.2 (nI o) (nI t)) (fun z1 z2 z3 z4 z5 z6 z7 => ob11 (lookM qm (nI o) (b.1, b.2.1, z1, z2, z3, z4, z5, z6, b.2.2.2.2.2.2.2.2.1, b.2.2.2.2.2.2.2.2.2.1, z7)) (fun y1 y2 y3 y4 y5 y6 y7 y8 y9 y10 y11 => some (ER 0 (y1, y2, y3, y4, y5, y6, y7, y8, y9, y10, y11) qm.1 qm.2.1 qm.2.2.1 qm.2.2.2.2.2.1 qm.2.2.2.2.2.2 mwx mar re))) else ob17 (askM (upd qm.1 o 2, upd qm.2.1 o (nI t), upd qm.2.2.1 o (nI M), qm.2.2.2.1, qm.2.2.2.2.1, qm.2.2.2.2.2.1, qm.2.2.2.2.2.2) mse b mwx mar re (nI o) 1) (fun r y1 y2 y3 y4 y5 y6 y7 y8 i c w v y9 y10 re y11 => some (ER r (y1, y2, y3, y4, y5, y6, y7, y8, y9, y10, y11) (upd qm.1 o 2) (upd qm.2.1 o (nI t)) (upd qm.2.2.1 o (nI M)) i c w v re))) = escM qm mse b mwx mar re (nI o) (nI t) y := by
    unfold escM F_M_escalated
    cases f with
    | true =>
      have hy0 : ¬ y = 0 := fun e => by have := hy.mp e; cases this
      have hM5 : M = jnd h 5 := hM
      rw [← hM5] at hj5
      simp only [jn2, jn3, nI_clamp (show o < 2 ^ 31 by omega), pz_gd2 ho (show 8 < 2 ^ 31 by omega), ei, nI_clamp (show 16 * o + t < 2 ^ 31 by omega), pz_gd2 (show 16 * o + t < 128 by omega) (show 128 < 2 ^ 31 by omega), hmm, hy0, if_false, hj5, ob1_s]
      rfl
    | false =>
      have hy0 : y = 0 := hy.mpr rfl
      cases hs : rs.any (fun r => isOnB o t r && r.2.2.2.2 != 2) with
      | true =>
        rw [hs] at hw
        have hM5 : M = jnd h 5 := by rw [hM]; unfold sB; rw [hs]; rfl
        rw [← hM5] at hj5
        simp only [jn2, jn3, nI_clamp (show o < 2 ^ 31 by omega), pz_gd2 ho (show 8 < 2 ^ 31 by omega), ei, nI_clamp (show 16 * o + t < 2 ^ 31 by omega), pz_gd2 (show 16 * o + t < 128 by omega) (show 128 < 2 ^ 31 by omega), hmm, hy0, if_true, hw, ob1_s, p_b0, hj5]
        rfl
      | false =>
        rw [hs] at hw
        have hM5 : M = jnd h 2 := by rw [hM]; unfold sB; rw [hs]; rfl
        rw [← hM5] at hj2
        simp only [jn2, jn3, nI_clamp (show o < 2 ^ 31 by omega), pz_gd2 ho (show 8 < 2 ^ 31 by omega), ei, nI_clamp (show 16 * o + t < 2 ^ 31 by omega), pz_gd2 (show 16 * o + t < 128 by omega) (show 128 < 2 ^ 31 by omega), hmm, hy0, if_true, hw, ob1_s, p_b0, hj2]
        rfl
  rw [← goal]
  simp only [hsame]
theorem upd_upd (f : Nat → Int32) (o : Nat) (v w : Int32) : upd (upd f o v) o w = upd f o w := by
  funext x
  unfold upd
  by_cases q : x = o
  · rw [if_pos q, if_pos q]
  · rw [if_neg q, if_neg q, if_neg q]
theorem p_setEsc {ltm low lta : Nat → Int32} {llo lhi : Nat → Int64} {lmo : Nat → Int32} {lco : Int32} {tm : Nat → Nat → Option Nat} {rs : List Row} (s2 : tmAt ltm tm) (s3 : rowsP low lta llo lhi lmo lco rs) {o t h : Nat} (ho : o < 8) (ht : t < 16) (hh : tm o t = some h) {f : Bool} {x : Int32} (hx : x = 2 ↔ f = false) {M : Nat} (hM : M = jnd h (sB f rs o t)) (rta ron rmo rin res : Nat → Int32) : F_T_setEscalation ltm low lta lmo rta ron rmo rin res lco (nI o) (nI t) x = some (upd rta o (nI t), upd ron o 0, upd rmo o (nI M), upd rin o 1, upd res o 1) := by
  obtain ⟨rs0, s4, s5, s6⟩ := s3
  have hh6 := (s2 o t ho ht).2 h hh
  have hw := p_haveStrong s4 ho ht
  rw [any_perm s6, ← s5] at hw
  have hhm := p_heldMode s2 ho ht
  rw [hh] at hhm
  have hj2 : F_K_strengthened (mI (some h)) 2 = some (nI (jnd h 2)) := p_strK h hh6 2 (by decide)
  have hj5 : F_K_strengthened (mI (some h)) 5 = some (nI (jnd h 5)) := p_strK h hh6 5 (by decide)
  have hse : F_R_setEscalation rta ron rmo rin res (nI o) (nI t) (nI M) = some (upd rta o (nI t), upd ron o 0, upd rmo o (nI M), upd rin o 1, upd res o 1) := by
    unfold F_R_setEscalation
    have hset := p_rSetTable rta ron rmo rin res ho (nI t) (nI M) true
    rw [show b2i true = 1 from rfl] at hset
    rw [hset, ob5_s]
    simp only [nI_clamp (show o < 2 ^ 31 by omega), pz_gd2 ho (show 8 < 2 ^ 31 by omega), nar_1, upd_upd]
  unfold F_T_setEscalation
  cases f with
  | true =>
    have hy0 : ¬ x = 2 := fun e => by have := hx.mp e; cases this
    have hM5 : M = jnd h 5 := hM
    rw [← hM5] at hj5
    simp only [jn1, jn0, hy0, if_false, hj5, ob1_s, i10, hhm, hse, ob5_s]
  | false =>
    have hy0 : x = 2 := hx.mpr rfl
    cases hs : rs.any (fun r => isOnB o t r && r.2.2.2.2 != 2) with
    | true =>
      rw [hs] at hw
      have hM5 : M = jnd h 5 := by rw [hM]; unfold sB; rw [hs]; rfl
      rw [← hM5] at hj5
      simp only [jn1, jn0, hy0, if_true, hw, ob1_s, p_b0, hj5, i10, if_false, hhm, hse, ob5_s]
    | false =>
      rw [hs] at hw
      have hM5 : M = jnd h 2 := by rw [hM]; unfold sB; rw [hs]; rfl
      rw [← hM5] at hj2
      simp only [jn1, jn0, hy0, if_true, hw, ob1_s, p_b0, hj2, if_false, hhm, hse, ob5_s, Bool.false_eq_true]
theorem n21 : ¬ (2 : Nat) = 1 := by decide
/-- an escalation, of both, from a fresh call -/
theorem p_esc {qc : QC} {qm : QM} {rq : Nat → Rq} {a : CA} {b : MA} {tm : Nat → Nat → Option Nat} {rs : List Row} {gr : List Nat} {N : Nat} {xse : Nat → Int32} {xls xtl xno : Int32} {rsi rar : Nat → Int32} {rad : Int32} {mse : Nat → Int32} {mla : Int32} {mwx : Nat → Int32} {mar mli : Int32} {cm ar sc : Nat → Nat} {T A B L : Nat} {st : Nat → Nat} {ln : List Nat} (hJ : Jt qc qm rq cm a b st tm rs ln gr) (hO : Ot N xse xls xtl xno rsi rar rad mse mla mwx mar mli cm ar sc T A B L st ln) (hN : N ≤ 512) {o t h : Nat} (ho : o < 8) (ht : t < 16) (hst : st o = 1) (hany : rs.any (isOnB o t) = true) (hh : tm o t = some h) {f : Bool} {y : Int32} (hy : y = 0 ↔ f = false) {M : Nat} (hM : M = jnd h (sB f rs o t)) (re rem : Nat → Int32) : ∃ (r : Int32) (a' : CA) (b' : MA) (re' rem' : Nat → Int32) (k' t' m' i' c' w' : Nat → Int32) (mar' : Int32) (rq' : Nat → Rq) (cm' ar' sc' : Nat → Nat) (A' B' : Nat) (st' : Nat → Nat) (tm' : Nat → Nat → Option Nat) (rs' : List Row) (ln' gr' : List Nat), askC (upd qc.1 o (nI t), upd qc.2.1 o 0, qc.2.2.1, qc.2.2.2.1, upd qc.2.2.2.2.1 o (nI M), upd qc.2.2.2.2.2.1 o 1, upd qc.2.2.2.2.2.2 o 1) xse (a.1, a.2.1, a.2.2.1, a.2.2.2.1, a.2.2.2.2.1, a.2.2.2.2.2.1, a.2.2.2.2.2.2.1, a.2.2.2.2.2.2.2.1, a.2.2.2.2.2.2.2.2.1, 0, a.2.2.2.2.2.2.2.2.2.2.1, a.2.2.2.2.2.2.2.2.2.2.2) re rsi rar (nI o) xno rad (nI o) = some (AR r a' re' (upd rsi o xno) (upd rar o rad) (rad + 1)) ∧ escM qm mse (b.1, b.2.1, b.2.2.1, b.2.2.2.1, b.2.2.2.2.1, b.2.2.2.2.2.1, b.2.2.2.2.2.2.1, b.2.2.2.2.2.2.2.1, 0, b.2.2.2.2.2.2.2.2.2.1, b.2.2.2.2.2.2.2.2.2.2) mwx mar rem (nI o) (nI t) y = some (ER r b' k' t' m' i' c' w' mar' rem') ∧ Jt (upd qc.1 o (nI t), upd qc.2.1 o 0, qc.2.2.1, qc.2.2.2.1, upd qc.2.2.2.2.1 o (nI M), upd qc.2.2.2.2.2.1 o 1, upd qc.2.2.2.2.2.2 o 1) (k', t', m', qm.2.2.2.1, qm.2.2.2.2.1, i', c') rq' cm' a' b' st' tm' rs' ln' gr' ∧ Ot (N + 1) xse xls xtl xno (upd rsi o xno) (upd rar o rad) (rad + 1) mse mla w' mar' mli cm' ar' sc' T A' B' L st' ln' := by
  have hJ2 := hJ.fresh
  have S2 := hJ2.2.1
  have hh6 := (S2.2.1 o t ho ht).2 h hh
  have hMl : M < 6 := by rw [hM]; exact jnd_lt h hh6 _ (sB_lt f rs o t)
  have hol : o ∉ ln := hJ.notIn (by omega)
  rw [escM_step (qm := qm) (mse := mse) S2 ho ht hh hy hM mwx mar rem]
  by_cases qe : M = h
  · rw [if_pos qe]
    obtain ⟨a1, f1, f2⟩ := p_askH0 (qc := (upd qc.1 o (nI t), upd qc.2.1 o 0, qc.2.2.1, qc.2.2.2.1, upd qc.2.2.2.2.1 o (nI M), upd qc.2.2.2.2.2.1 o 1, upd qc.2.2.2.2.2.2 o 1)) hJ2 rfl ho hst (2, t, M, 0, 0, true) (fun x hx => ⟨(upd_n _ _ hx).symm, (upd_n _ _ hx).symm, rfl, rfl, (upd_n _ _ hx).symm, (upd_n _ _ hx).symm, (upd_n _ _ hx).symm⟩) ⟨⟨(show (2 : Nat) < 3 by decide), ht, hMl⟩, upd_s (α := Nat) _ _ _, upd_s (α := Nat) _ _ _, upd_s (α := Nat) _ _ _, upd_s (α := Nat) _ _ _, fun k => absurd k n21, upd_s (α := Nat) _ _ _⟩ n21 (by rw [qe]; exact hh) xse re rsi rar xno rad
    rw [if_pos rfl] at f1 f2
    obtain ⟨t1, t2, ⟨rs1, t3, t4, t5⟩, t6⟩ := S2
    obtain ⟨z2, z3, z5, z6, z4, rs2, e1, e2, e3⟩ := p_mDropRanges t3 ho ht b.2.2.2.2.2.2.2.2.2.2
    have hJ3 : Jt (upd qc.1 o (nI t), upd qc.2.1 o 0, qc.2.2.1, qc.2.2.2.1, upd qc.2.2.2.2.1 o (nI M), upd qc.2.2.2.2.2.1 o 1, upd qc.2.2.2.2.2.2 o 1) qm rq cm a1 (b.1, b.2.1, nI rs2.length, z2, z3, z4, z5, z6, 0, b.2.2.2.2.2.2.2.2.2.1, if rs1.any (isOnB o t) then 1 else b.2.2.2.2.2.2.2.2.2.2) st tm (rs.filter (fun r => !isOnB o t r)) ln [] := by
      refine ⟨f1, ⟨t1, t2, ⟨rs2, e2, rfl, e3.trans (t5.filter _)⟩, t6⟩, invQ_congr hJ.2.2.1 (fun x hx => ?_) (fun x _ => agM_refl qm x) (fun _ _ => Iff.rfl), invR_own hJ.2.2.2.1 hol List.filter_sublist (fun r hr hne => List.mem_filter.mpr ⟨hr, ?_⟩) (fun _ _ _ => rfl) (fun r hr _ => hJ.2.2.2.1.2.2.2.2.1 r (List.mem_filter.mp hr).1), hJ2.2.2.2.2⟩
      · have hne : x ≠ o := fun z => hol (z ▸ hx)
        exact ⟨(upd_n _ _ hne).symm, (upd_n _ _ hne).symm, rfl, rfl, (upd_n _ _ hne).symm, (upd_n _ _ hne).symm, (upd_n _ _ hne).symm⟩
      · unfold isOnB
        have : (r.1 == o) = false := by simpa using hne
        rw [this]
        rfl
    obtain ⟨a', b', st', tm', rs', ln', gr', g1, g2, g3, g4⟩ := p_look (xca := nI o) (own := nI o) hJ3 (fun _ _ => Iff.rfl)
    refine ⟨0, a', b', re, rem, qm.1, qm.2.1, qm.2.2.1, qm.2.2.2.2.2.1, qm.2.2.2.2.2.2, mwx, mar, rq, cm, ar, sc, A, B + 1, st', tm', rs', ln', gr', ?_, ?_, g3, hO.held hol (g4.toD.zero hJ3.2.2.1 g3.2.2.1) (fun x hx => g4.1.mem hx)⟩
    · rw [f2, g1, ob12_c]
    · have t4' : b.2.2.1 = nI rs1.length := t4
      have e1' : F_M_dropRanges b.2.2.1 b.2.2.2.1 b.2.2.2.2.1 b.2.2.2.2.2.1 b.2.2.2.2.2.2.1 b.2.2.2.2.2.2.2.1 b.2.2.2.2.2.2.2.2.2.2 (nI o) (nI t) = some (nI rs2.length, z2, z3, z4, z5, z6, if rs1.any (isOnB o t) then 1 else b.2.2.2.2.2.2.2.2.2.2) := by
        rw [t4']
        exact e1
      rw [e1', ob7_s, g2, ob11_m]
  · rw [if_neg qe]
    obtain ⟨r, a', b', re', rem', st', tm', rs', ln', gr', f1, f2, f3, f4⟩ := p_askF (qc := (upd qc.1 o (nI t), upd qc.2.1 o 0, qc.2.2.1, qc.2.2.2.1, upd qc.2.2.2.2.1 o (nI M), upd qc.2.2.2.2.2.1 o 1, upd qc.2.2.2.2.2.2 o 1)) (qm := (upd qm.1 o 2, upd qm.2.1 o (nI t), upd qm.2.2.1 o (nI M), qm.2.2.2.1, qm.2.2.2.2.1, qm.2.2.2.2.2.1, qm.2.2.2.2.2.2)) hJ hO hN ho hst (2, t, M, 0, 0, true) (fun x hx => ⟨(upd_n _ _ hx).symm, (upd_n _ _ hx).symm, rfl, rfl, (upd_n _ _ hx).symm, (upd_n _ _ hx).symm, (upd_n _ _ hx).symm⟩) ⟨⟨(show (2 : Nat) < 3 by decide), ht, hMl⟩, upd_s (α := Nat) _ _ _, upd_s (α := Nat) _ _ _, upd_s (α := Nat) _ _ _, upd_s (α := Nat) _ _ _, fun k => absurd k n21, upd_s (α := Nat) _ _ _⟩ (fun x hx => ⟨(upd_n _ _ hx).symm, (upd_n _ _ hx).symm, (upd_n _ _ hx).symm, rfl, rfl, rfl, rfl⟩) ⟨⟨(show (2 : Nat) < 3 by decide), ht, hMl⟩, upd_s (α := Nat) _ _ _, upd_s (α := Nat) _ _ _, upd_s (α := Nat) _ _ _, fun k => absurd k n21, upd_s (α := Nat) _ _ _⟩ (fun k => absurd k n21) (fun k => absurd k n21) (fun _ => hany) (fun _ => by
      show keepS (tm o t) M
      rw [hh]
      intro x hx hs
      cases hx
      rw [hM]
      exact str_jnd h hh6 _ (sB_lt f rs o t) hs) (fun _ => by
      show tm o t ≠ some M
      rw [hh]
      intro e
      cases e
      exact qe rfl) re rem
    refine ⟨r, a', b', re', rem', upd qm.1 o 2, upd qm.2.1 o (nI t), upd qm.2.2.1 o (nI M), upd qm.2.2.2.2.2.1 o (b2i true), upd qm.2.2.2.2.2.2 o (nI (A + 1)), upd mwx o 0, nI (A + 1), _, _, _, _, _, _, st', tm', rs', ln', gr', f1, ?_, f3, f4⟩
    have f2' : askM (upd qm.1 o 2, upd qm.2.1 o (nI t), upd qm.2.2.1 o (nI M), qm.2.2.2.1, qm.2.2.2.2.1, qm.2.2.2.2.2.1, qm.2.2.2.2.2.2) mse (b.1, b.2.1, b.2.2.1, b.2.2.2.1, b.2.2.2.2.1, b.2.2.2.2.2.1, b.2.2.2.2.2.2.1, b.2.2.2.2.2.2.2.1, 0, b.2.2.2.2.2.2.2.2.2.1, b.2.2.2.2.2.2.2.2.2.2) mwx mar rem (nI o) 1 = some (MR r b' (upd qm.1 o 2, upd qm.2.1 o (nI t), upd qm.2.2.1 o (nI M), qm.2.2.2.1, qm.2.2.2.2.1, upd qm.2.2.2.2.2.1 o (b2i true), upd qm.2.2.2.2.2.2 o (nI (A + 1))) (upd mwx o 0) (nI (A + 1)) rem') := f2
    rw [f2']
    rfl
