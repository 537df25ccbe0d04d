/-! steps of the loops that look -/
theorem ob13_c {Z : Type} {r : Int32} {a : CA} {k : Int32 → (Nat → Int32) → (Nat → Int32) → (Nat → Int32) → (Nat → Int32) → (Nat → Int32) → (Nat → Int64) → (Nat → Int64) → (Nat → Int32) → (Nat → Int32) → Int32 → Int32 → Int32 → Option Z} : ob13 (some (r, a)) k = k r a.1 a.2.1 a.2.2.1 a.2.2.2.1 a.2.2.2.2.1 a.2.2.2.2.2.1 a.2.2.2.2.2.2.1 a.2.2.2.2.2.2.2.1 a.2.2.2.2.2.2.2.2.1 a.2.2.2.2.2.2.2.2.2.1 a.2.2.2.2.2.2.2.2.2.2.1 a.2.2.2.2.2.2.2.2.2.2.2 := rfl
theorem ob13_v {Z : Type} {r : Int32} {a : CA} {k : (Nat → Int32) → (Nat → Int32) → (Nat → Int32) → (Nat → Int32) → (Nat → Int32) → (Nat → Int64) → (Nat → Int64) → (Nat → Int32) → (Nat → Int32) → Int32 → Int32 → Int32 → Int32 → Option Z} : ob13 (some (CA13 a r)) k = k a.1 a.2.1 a.2.2.1 a.2.2.2.1 a.2.2.2.2.1 a.2.2.2.2.2.1 a.2.2.2.2.2.2.1 a.2.2.2.2.2.2.2.1 a.2.2.2.2.2.2.2.2.1 a.2.2.2.2.2.2.2.2.2.1 a.2.2.2.2.2.2.2.2.2.2.1 a.2.2.2.2.2.2.2.2.2.2.2 r := rfl
theorem ob12_c {Z : Type} {a : CA} {k : (Nat → Int32) → (Nat → Int32) → (Nat → Int32) → (Nat → Int32) → (Nat → Int32) → (Nat → Int64) → (Nat → Int64) → (Nat → Int32) → (Nat → Int32) → Int32 → Int32 → Int32 → Option Z} : ob12 (some a) k = k a.1 a.2.1 a.2.2.1 a.2.2.2.1 a.2.2.2.2.1 a.2.2.2.2.2.1 a.2.2.2.2.2.2.1 a.2.2.2.2.2.2.2.1 a.2.2.2.2.2.2.2.2.1 a.2.2.2.2.2.2.2.2.2.1 a.2.2.2.2.2.2.2.2.2.2.1 a.2.2.2.2.2.2.2.2.2.2.2 := rfl
theorem ob11_m {Z : Type} {b : MA} {k : (Nat → Int32) → (Nat → Int32) → Int32 → (Nat → Int32) → (Nat → Int32) → (Nat → Int32) → (Nat → Int64) → (Nat → Int64) → Int32 → (Nat → Int32) → Int32 → Option Z} : ob11 (some b) k = k b.1 b.2.1 b.2.2.1 b.2.2.2.1 b.2.2.2.2.1 b.2.2.2.2.2.1 b.2.2.2.2.2.2.1 b.2.2.2.2.2.2.2.1 b.2.2.2.2.2.2.2.2.1 b.2.2.2.2.2.2.2.2.2.1 b.2.2.2.2.2.2.2.2.2.2 := rfl
theorem lkC27_step (qc : QC) (xca v2 : Int32) (m : Nat) (a : CA) (v1 v3 v4 : Int32) : lkC27 qc xca v2 (m + 1) a v1 v3 v4 = if v4 ≤ 0 then some (CA13 a v1) else if a.2.2.2.2.2.2.2.2.2.2.2 ≤ v3 then some (CA13 a v1) else gd (v3 < 0 ∨ 8 ≤ v3.toNatClampNeg) (ob1 (blockersC qc a (a.2.2.2.2.2.2.2.2.1 v3.toNatClampNeg)) (fun r => if r = 0 then ob13 (grantCa qc xca a (a.2.2.2.2.2.2.2.2.1 v3.toNatClampNeg)) (fun r8 x1 x2 x3 x4 x5 x6 x7 x8 x9 x10 x11 x12 => if r8 = 0 then lkC27 qc xca v2 m (x1, x2, x3, x4, x5, x6, x7, x8, x9, x10, x11, x12) v1 v3 (v4 + (-1)) else lkC27 qc xca v2 m (x1, x2, x3, x4, x5, x6, x7, x8, x9, x10, x11, x12) 1 v3 (v4 + (-1))) else lkC27 qc xca v2 m a v1 (v3 + 1) (v4 + (-1)))) := rfl
theorem lkM23_step (qm : QM) (own : Int32) (m : Nat) (b : MA) (v2 : Int32) : lkM23 qm own (m + 1) b v2 = if v2 < 0 then some b else ob1 (nextM qm b v2) (fun r4 => ob1 (behindM qm b v2) (fun r5 => if r5 = 0 then ob9 (grantMa qm b b.2.2.2.2.2.2.2.2.2.2 v2) (fun y1 y2 y3 y4 y5 y6 y7 y8 y9 => if v2 = own then lkM23 qm own m (y1, y2, y3, y4, y5, y6, y7, y8, b.2.2.2.2.2.2.2.2.1, b.2.2.2.2.2.2.2.2.2.1, y9) r4 else gd (b.2.2.2.2.2.2.2.2.1 < 0 ∨ 64 ≤ b.2.2.2.2.2.2.2.2.1.toNatClampNeg) (lkM23 qm own m (y1, y2, y3, y4, y5, y6, y7, y8, b.2.2.2.2.2.2.2.2.1 + 1, upd b.2.2.2.2.2.2.2.2.2.1 b.2.2.2.2.2.2.2.2.1.toNatClampNeg v2, y9) r4)) else lkM23 qm own m b r4)) := rfl
theorem bm_0 {P : Nat → Bool} : nI (bm P 8) = 0 ↔ bm P 8 = 0 := by
  have := bm_lt P 8
  exact nI_eq (b := 0) (by omega) (by omega)
theorem p_pass {qc : QC} {qm : QM} {rq : Nat → Rq} {cm : Nat → Nat} {xca own v2 : Int32} : ∀ (post pre : List Nat) (a : CA) (b : MA) (st : Nat → Nat) (tm : Nat → Nat → Option Nat) (rs : List Row) (gr : List Nat) (v : Bool) (m1 m2 : Nat), post.length < m1 → post.length < m2 → Jt qc qm rq cm a b st tm rs (pre ++ post) gr → MAfr b = b2i v → (∀ o ∈ post, nI o = xca ↔ nI o = own) → ∃ (a' : CA) (b' : MA) (st' : Nat → Nat) (tm' : Nat → Nat → Option Nat) (rs' : List Row) (ln' gr' : List Nat) (v' : Bool), lkC27 qc xca v2 m1 a (b2i v) (nI pre.length) (nI post.length) = some (CA13 a' (b2i v')) ∧ lkM23 qm own m2 b (mI post.head?) = some b' ∧ Jt qc qm rq cm a' b' st' tm' rs' ln' gr' ∧ MAfr b' = b2i v' ∧ Sub st (pre ++ post) st' ln' ∧ (v' = true → v = true ∨ ln'.length < (pre ++ post).length) := by
  intro post
  induction post with
  | nil =>
    intro pre a b st tm rs gr v m1 m2 hm1 hm2 hJ hf _
    obtain ⟨m1, rfl⟩ : ∃ z, m1 = z + 1 := ⟨m1 - 1, by omega⟩
    obtain ⟨m2, rfl⟩ : ∃ z, m2 = z + 1 := ⟨m2 - 1, by omega⟩
    refine ⟨a, b, st, tm, rs, pre ++ [], gr, v, ?_, ?_, hJ, hf, Sub.refl, fun h => Or.inl h⟩
    · rw [lkC27_step, if_pos (show nI ([] : List Nat).length ≤ 0 by decide)]
    · rw [lkM23_step, if_pos (show mI ([] : List Nat).head? < 0 by decide)]
  | cons o post ih =>
    intro pre a b st tm rs gr v m1 m2 hm1 hm2 hJ hf hca
    obtain ⟨m1, rfl⟩ : ∃ z, m1 = z + 1 := ⟨m1 - 1, by omega⟩
    obtain ⟨m2, rfl⟩ : ∃ z, m2 = z + 1 := ⟨m2 - 1, by omega⟩
    rw [List.length_cons] at hm1 hm2
    have hmem : o ∈ pre ++ o :: post := by simp
    obtain ⟨o8, o2, g8, r8⟩ := hJ.room hmem
    have hJ0 := hJ
    obtain ⟨S1, S2, hQ, hR, h5⟩ := hJ
    have hlen : (pre ++ o :: post).length = pre.length + post.length + 1 := by simp; omega
    have hpl : pre.length < 8 := by omega
    have hrw : a.2.2.2.2.2.2.2.2.2.2.2 = nI (pre ++ o :: post).length := S1.2.2.2.1.2
    have hli : a.2.2.2.2.2.2.2.2.1 pre.length = nI o := S1.2.2.2.1.1.2.2.2 pre.length o (by simp)
    have hC : lkC27 qc xca v2 (m1 + 1) a (b2i v) (nI pre.length) (nI (o :: post).length) = (if bm (blkC tm rs (pre ++ o :: post) rq o) 8 = 0 then ob13 (grantCa qc xca a (nI o)) (fun r8 x1 x2 x3 x4 x5 x6 x7 x8 x9 x10 x11 x12 => if r8 = 0 then lkC27 qc xca v2 m1 (x1, x2, x3, x4, x5, x6, x7, x8, x9, x10, x11, x12) (b2i v) (nI pre.length) (nI post.length) else lkC27 qc xca v2 m1 (x1, x2, x3, x4, x5, x6, x7, x8, x9, x10, x11, x12) 1 (nI pre.length) (nI post.length)) else lkC27 qc xca v2 m1 a (b2i v) (nI (pre.length + 1)) (nI post.length)) := by
      rw [lkC27_step, if_neg (show ¬ nI (o :: post).length ≤ 0 from nI_ge (a := 0) (by simp) (by simp; omega)), hrw, if_neg (nI_ge (by omega) (by omega)), pz_gd hpl (by omega), nI_clamp (by omega), hli, p_blockersC hQ S1 hmem, ob1_s, List.length_cons, ix_pred, nI_1]
      simp only [bm_0]
    have hM : lkM23 qm own (m2 + 1) b (mI (o :: post).head?) = (if bm (blkC tm rs (pre ++ o :: post) rq o) 8 = 0 then ob9 (grantMa qm b b.2.2.2.2.2.2.2.2.2.2 (nI o)) (fun y1 y2 y3 y4 y5 y6 y7 y8 y9 => if nI o = own then lkM23 qm own m2 (y1, y2, y3, y4, y5, y6, y7, y8, b.2.2.2.2.2.2.2.2.1, b.2.2.2.2.2.2.2.2.2.1, y9) (mI post.head?) else gd (b.2.2.2.2.2.2.2.2.1 < 0 ∨ 64 ≤ b.2.2.2.2.2.2.2.2.1.toNatClampNeg) (lkM23 qm own m2 (y1, y2, y3, y4, y5, y6, y7, y8, b.2.2.2.2.2.2.2.2.1 + 1, upd b.2.2.2.2.2.2.2.2.2.1 b.2.2.2.2.2.2.2.2.1.toNatClampNeg (nI o), y9) (mI post.head?))) else lkM23 qm own m2 b (mI post.head?)) := by
      rw [List.head?_cons, show mI (some o) = nI o from rfl, lkM23_step, if_neg (show ¬ nI o < 0 from nI_pos (by omega)), p_nextM hQ S2, ob1_s, p_behindM hQ S2 o8, ob1_s, if_pos o2]
      simp only [bm_0]
    rw [hC, hM]
    by_cases hb : bm (blkC tm rs (pre ++ o :: post) rq o) 8 = 0
    · rw [if_pos hb, if_pos hb]
      obtain ⟨a', y1, y2, y3, y4, y5, y6, y7, y8, e1, e2, hJ'⟩ := hJ0.grant hmem xca own (hca o (by simp)) b.2.2.2.2.2.2.2.2.2.2
      rw [e1, e2, ob13_c, ob9_s]
      rw [gLn_mid hQ.1.1] at hJ'
      have hfr : (if (rq o).1 == 2 then (1 : Int32) else b.2.2.2.2.2.2.2.2.2.2) = b2i (v || (rq o).1 == 2) := by
        rw [show b.2.2.2.2.2.2.2.2.2.2 = b2i v from hf]
        cases ((rq o).1 == 2) <;> cases v <;> rfl
      have hmgr : b.2.2.2.2.2.2.2.2.1 = nI gr.length := S2.2.2.2.2
      obtain ⟨a2, b2, st2, tm2, rs2, ln2, gr2, v2', f1, f2, f3, f4, f5, f6⟩ := ih pre a' (y1, y2, y3, y4, y5, y6, y7, y8, (if nI o = own then b.2.2.2.2.2.2.2.2.1 else b.2.2.2.2.2.2.2.2.1 + 1), (if nI o = own then b.2.2.2.2.2.2.2.2.2.1 else upd b.2.2.2.2.2.2.2.2.2.1 b.2.2.2.2.2.2.2.2.1.toNatClampNeg (nI o)), if (rq o).1 == 2 then 1 else b.2.2.2.2.2.2.2.2.2.2) _ _ _ _ (v || (rq o).1 == 2) m1 m2 (by omega) (by omega) hJ' hfr (fun x hx => hca x (by simp [hx]))
      have hsub : Sub st (pre ++ o :: post) (stSet st o 1) (pre ++ post) := by
        have := Sub.grant (st := st) hmem
        rw [gLn_mid hQ.1.1] at this
        exact this
      refine ⟨a2, b2, st2, tm2, rs2, ln2, gr2, v2', ?_, ?_, f3, f4, hsub.trans f5, fun _ => Or.inr ?_⟩
      · rw [← f1]
        cases hk : ((rq o).1 == 2) with
        | true => rw [if_neg (by decide)]; cases v <;> rfl
        | false => rw [if_pos (by decide)]; cases v <;> rfl
      · rw [← f2]
        by_cases q : nI o = own
        · simp only [if_pos q]
        · simp only [if_neg q]
          rw [hmgr, pz_gd (by omega) (by omega)]
      · have := f5.1.length_le
        rw [List.length_append] at this
        omega
    · rw [if_neg hb, if_neg hb]
      have e : pre ++ o :: post = (pre ++ [o]) ++ post := by simp
      rw [e] at hJ0 ⊢
      have := ih (pre ++ [o]) a b st tm rs gr v m1 m2 (by omega) (by omega) hJ0 hf (fun x hx => hca x (by simp [hx]))
      rw [List.length_append, List.length_singleton] at this
      exact this
