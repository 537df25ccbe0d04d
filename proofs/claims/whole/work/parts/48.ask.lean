/-! ask, of both -/
theorem p_ask {qc0 qc : QC} {qm0 qm : QM} {rq : Nat → Rq} {cm : Nat → Nat} {a : CA} {b : MA} {st : Nat → Nat} {tm : Nat → Nat → Option Nat} {rs : List Row} {ln gr : List Nat} (hJ : Jt qc0 qm0 rq cm a b st tm rs ln gr) (hg : gr = []) {o : Nat} (ho : o < 8) (hst : st o = 1) (q : Rq) (hac : ∀ x, x ≠ o → agC qc0 qc x) (hco : rqAtC qc.1 qc.2.1 qc.2.2.1 qc.2.2.2.1 qc.2.2.2.2.1 qc.2.2.2.2.2.1 qc.2.2.2.2.2.2 o q) (ham : ∀ x, x ≠ o → agM qm0 qm x) (hmo : rqAtM qm.1 qm.2.1 qm.2.2.1 qm.2.2.2.1 qm.2.2.2.2.1 (upd qm.2.2.2.2.2.1 o (b2i q.2.2.2.2.2)) o q) (hqr : rqR q) (A : Nat) (hA : A + 1 < 2 ^ 30) (hcm : ∀ x ∈ ln, cm x ≤ A) (h1' : q.1 = 1 → rs.length + ln.countP (fun o => (rq o).1 == 1) < 256 ∧ rs.countP (isOnB o q.2.1) < 8 ∧ hld (tm o q.2.1) q.2.2.1) (h2' : q.1 = 2 → rs.any (isOnB o q.2.1) = true) (h3' : q.1 ≠ 1 → keepS (tm o q.2.1) q.2.2.1) (hnh : q.1 ≠ 1 → tm o q.2.1 ≠ some q.2.2.1) (xse mse : Nat → Int32) (hse : ∀ i, i < 8 → st i ≠ 0 → xse i = mse i) (re rem rsi rar mwx : Nat → Int32) (xno rad : Int32) :
    ∃ (r : Int32) (a' : CA) (b' : MA) (re' rem' : Nat → Int32) (st' : Nat → Nat) (tm' : Nat → Nat → Option Nat) (rs' : List Row) (ln' gr' P Q : List Nat), ln = P ++ Q ∧ askC qc xse a re rsi rar (nI o) xno rad (nI o) = some (AR r a' re' (upd rsi o xno) (upd rar o rad) (rad + 1)) ∧ askM qm mse b mwx (nI A) rem (nI o) (b2i q.2.2.2.2.2) = some (MR r b' (qm.1, qm.2.1, qm.2.2.1, qm.2.2.2.1, qm.2.2.2.2.1, upd qm.2.2.2.2.2.1 o (b2i q.2.2.2.2.2), upd qm.2.2.2.2.2.2 o (nI (A + 1))) (upd mwx o 0) (nI (A + 1)) rem') ∧ Jt qc (qm.1, qm.2.1, qm.2.2.1, qm.2.2.2.1, qm.2.2.2.2.1, upd qm.2.2.2.2.2.1 o (b2i q.2.2.2.2.2), upd qm.2.2.2.2.2.2 o (nI (A + 1))) (fSet rq o q) (fSet cm o (A + 1)) a' b' st' tm' rs' ln' gr' ∧ SubD (stSet st o 2) (P ++ o :: Q) st' ln' := by
  obtain ⟨P, Q, r2, e, hP, hQ0, hQo, f1, f2⟩ := p_entered hJ hg ho (by omega) q hac hco rsi rar rad xno
  obtain ⟨S1, S2, hQ, hR, h5⟩ := hJ
  have hol : o ∉ ln := fun m => by have := ((hQ.1.2.1 o).mp m).2; omega
  have hmem : o ∈ P ++ o :: Q := by simp
  have ham2 : ∀ x, x ≠ o → agM qm0 (qm.1, qm.2.1, qm.2.2.1, qm.2.2.2.1, qm.2.2.2.2.1, upd qm.2.2.2.2.2.1 o (b2i q.2.2.2.2.2), upd qm.2.2.2.2.2.2 o (nI (A + 1))) x := fun x hx => by
    obtain ⟨g1, g2, g3, g4, g5, g6, g7⟩ := ham x hx
    exact ⟨g1, g2, g3, g4, g5, by show _ = upd _ _ _ x; unfold upd; rw [if_neg hx]; exact g6, by show _ = upd _ _ _ x; unfold upd; rw [if_neg hx]; exact g7⟩
  have hQ1 := invQ_enter hQ ho (by omega) q (A + 1) hA (fun x hx => by have := hcm x hx; omega) e hP hQ0 hQo hqr hac ham2 hco hmo (by show upd _ _ _ o = _; unfold upd; rw [if_pos rfl])
  have hR1 := invR_enter hR hol q e h1' h2' h3'
  have hJ1 : Jt qc (qm.1, qm.2.1, qm.2.2.1, qm.2.2.2.1, qm.2.2.2.2.1, upd qm.2.2.2.2.2.1 o (b2i q.2.2.2.2.2), upd qm.2.2.2.2.2.2 o (nI (A + 1))) (fSet rq o q) (fSet cm o (A + 1)) (upd a.1 o 2, a.2.1, a.2.2.1, a.2.2.2.1, a.2.2.2.2.1, a.2.2.2.2.2.1, a.2.2.2.2.2.2.1, a.2.2.2.2.2.2.2.1, r2, a.2.2.2.2.2.2.2.2.2.1, a.2.2.2.2.2.2.2.2.2.2.1, nI (P ++ o :: Q).length) (upd b.1 o 2, b.2.1, b.2.2.1, b.2.2.2.1, b.2.2.2.2.1, b.2.2.2.2.2.1, b.2.2.2.2.2.2.1, b.2.2.2.2.2.2.2.1, b.2.2.2.2.2.2.2.2.1, b.2.2.2.2.2.2.2.2.2.1, b.2.2.2.2.2.2.2.2.2.2) (stSet st o 2) tm rs (P ++ o :: Q) gr := by
    refine ⟨⟨S1.1.set (v := 2) (by omega), S1.2.1, S1.2.2.1, ⟨f2, rfl⟩, S1.2.2.2.2⟩, ⟨S2.1.set (v := 2) (by omega), S2.2.1, S2.2.2.1, S2.2.2.2⟩, hQ1, hR1, ?_⟩
    rw [hg, List.length_nil]
    have := f2.1
    omega
  have hhold : F_T_holdsWhatItAsks a.2.2.1 qc.1 qc.2.1 qc.2.2.2.2.1 (nI o) = some (b2i (q.1 != 1 && decide (tm o q.2.1 = some q.2.2.1))) := p_holds S1.2.1 ho hco
  have hb0 : (q.1 != 1 && decide (tm o q.2.1 = some q.2.2.1)) = false := by
    by_cases h1 : q.1 = 1
    · simp [h1]
    · simp [h1, hnh h1]
  rw [hb0] at hhold
  have hbl := p_blockersC hJ1.2.2.1 hJ1.1 hmem
  have hbe := p_behindM hJ1.2.2.1 hJ1.2.1 ho
  rw [if_pos (show stSet st o 2 o = 2 by unfold stSet; rw [if_pos rfl])] at hbe
  rw [askC_def, f1, ob5_s, pz_gd ho (by omega), hhold, ob1_s]
  simp only [jn0]
  rw [if_pos (show b2i false = 0 from rfl)]
  rw [askM_def, pz_gd ho (by omega), pz_gd ho (by omega), pz_gd ho (by omega), pz_gd ho (by omega)]
  rw [nI_clamp (show o < 2 ^ 31 by omega), nar_b, nI_1]
  rw [hbl, hbe, ob1_s, ob1_s]
  simp only [bm_0]
  by_cases hz : bm (blkC tm rs (P ++ o :: Q) (fSet rq o q) o) 8 = 0
  · rw [if_pos hz, if_pos hz]
    obtain ⟨a2, y1, y2, y3, y4, y5, y6, y7, y8, e1, e2, hJ2⟩ := hJ1.grant hmem (nI o) (nI o) Iff.rfl 0
    rw [e1, e2, ob13_c, ob9_s]
    simp only [if_pos rfl, fSet_s] at hJ2 ⊢
    cases hk : (q.1 == 2) with
    | false =>
      rw [if_pos (show b2i false = 0 from rfl), if_neg (show ¬ false = true by decide), if_pos (show (0 : Int32) = 0 from rfl)]
      simp only [hk] at hJ2
      exact ⟨0, a2, _, re, rem, _, _, _, _, _, P, Q, e, rfl, rfl, hJ2, (Sub.grant hmem).toD⟩
    | true =>
      rw [if_neg (show ¬ b2i true = 0 by decide), if_pos (show true = true from rfl), if_neg (show ¬ (1 : Int32) = 0 by decide)]
      simp only [hk] at hJ2
      obtain ⟨a3, b3, st3, tm3, rs3, ln3, gr3, g1, g2, hJ3, hS3⟩ := p_look (xca := nI o) (own := nI o) hJ2 (fun _ _ => Iff.rfl)
      have g1' : lookC qc (nI o) (a2.1, a2.2.1, a2.2.2.1, a2.2.2.2.1, a2.2.2.2.2.1, a2.2.2.2.2.2.1, a2.2.2.2.2.2.2.1, a2.2.2.2.2.2.2.2.1, a2.2.2.2.2.2.2.2.2.1, a2.2.2.2.2.2.2.2.2.2.1, a2.2.2.2.2.2.2.2.2.2.2.1, a2.2.2.2.2.2.2.2.2.2.2.2) = some a3 := g1
      rw [g1', ob12_c]
      have g2' : lookM (qm.1, qm.2.1, qm.2.2.1, qm.2.2.2.1, qm.2.2.2.2.1, upd qm.2.2.2.2.2.1 o (b2i q.2.2.2.2.2), upd qm.2.2.2.2.2.2 o (nI (A + 1))) (nI o) (y1, y2, y3, y4, y5, y6, y7, y8, b.2.2.2.2.2.2.2.2.1, b.2.2.2.2.2.2.2.2.2.1, 1) = some b3 := g2
      rw [g2', ob11_m]
      exact ⟨0, a3, b3, re, rem, st3, tm3, rs3, ln3, gr3, P, Q, e, rfl, rfl, hJ3, ((Sub.grant hmem).trans hS3).toD⟩
  · rw [if_neg hz, if_neg hz]
    obtain ⟨a3, b3, re3, rem3, st3, tm3, rs3, ln3, gr3, g1, g2, hJ3, hS3⟩ := p_break (xse := xse) (mse := mse) ho re rem hJ1 (fun i hi => by
      by_cases q1 : i = o
      · rw [q1]; exact hse o ho (by omega)
      · obtain ⟨i8, i2⟩ := (hJ1.2.2.1.1.2.1 i).mp hi
        unfold stSet at i2
        rw [if_neg q1] at i2
        exact hse i i8 (by omega))
    rw [g1, g2, ob13_b, ob12_b]
    have c2 : a3.1 o = 2 ↔ st3 o = 2 := hJ3.1.1.eq (k := 2) ho (by omega)
    have c3 : a3.1 o = 3 ↔ st3 o = 3 := hJ3.1.1.eq (k := 3) ho (by omega)
    have d1 : b3.1 o = 1 ↔ st3 o = 1 := hJ3.2.1.1.eq (k := 1) ho (by omega)
    have d2 : b3.1 o = 2 ↔ st3 o = 2 := hJ3.2.1.1.eq (k := 2) ho (by omega)
    simp only [pz_gd2 ho (show 8 < 2 ^ 31 by omega), c2, c3, d1, d2]
    by_cases m2 : st3 o = 2
    · rw [if_pos m2, if_neg (by omega), if_pos m2]
      exact ⟨1, a3, b3, re3, rem3, st3, tm3, rs3, ln3, gr3, P, Q, e, rfl, rfl, hJ3, hS3⟩
    · have hnl : o ∉ ln3 := fun m => m2 ((hJ3.2.2.1.1.2.1 o).mp m).2
      rcases hS3.2.2 o hmem hnl with m | m
      · rw [if_neg m2, if_neg (by omega), if_pos m]
        exact ⟨0, a3, b3, re3, rem3, st3, tm3, rs3, ln3, gr3, P, Q, e, rfl, rfl, hJ3, hS3⟩
      · rw [if_neg m2, if_pos m, if_neg (by omega), if_neg m2]
        exact ⟨2, a3, b3, re3, rem3, st3, tm3, rs3, ln3, gr3, P, Q, e, rfl, rfl, hJ3, hS3⟩
