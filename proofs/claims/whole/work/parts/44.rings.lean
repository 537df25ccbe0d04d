/-! rings -/
def eR (st : Nat → Nat) (tm : Nat → Nat → Option Nat) (rs : List Row) (ln : List Nat) (rq : Nat → Rq) (i j : Nat) : Bool := st i == 2 && blkC tm rs ln rq i j
theorem bm_eR {st : Nat → Nat} {tm : Nat → Nat → Option Nat} {rs : List Row} {ln : List Nat} {rq : Nat → Rq} {i : Nat} : bm (eR st tm rs ln rq i) 8 = if st i = 2 then bm (blkC tm rs ln rq i) 8 else 0 := by
  by_cases q : st i = 2
  · rw [if_pos q]
    apply bm_ext
    intro j _
    simp [eR, q]
  · rw [if_neg q]
    symm
    apply bm_of
    intro j
    simp [eR, q]
def rgC2 (qc : QC) (v1 : Int32) (m : Nat) (a : CA) (re : Nat → Int32) (v2 : Int32) := F_T_ringOf_L2 a.1 a.2.2.1 a.2.2.2.1 a.2.2.2.2.1 a.2.2.2.2.2.1 a.2.2.2.2.2.2.1 a.2.2.2.2.2.2.2.1 qc.1 qc.2.1 qc.2.2.1 qc.2.2.2.1 qc.2.2.2.2.1 a.2.2.2.2.2.2.2.2.1 a.2.2.2.2.2.2.2.2.2.2.1 a.2.2.2.2.2.2.2.2.2.2.2 v1 m re v2
def ringC (qc : QC) (a : CA) (re : Nat → Int32) (o : Int32) := F_T_ringOf a.1 re a.2.2.1 a.2.2.2.1 a.2.2.2.2.1 a.2.2.2.2.2.1 a.2.2.2.2.2.2.1 a.2.2.2.2.2.2.2.1 qc.1 qc.2.1 qc.2.2.1 qc.2.2.2.1 qc.2.2.2.2.1 a.2.2.2.2.2.2.2.2.1 a.2.2.2.2.2.2.2.2.2.2.1 a.2.2.2.2.2.2.2.2.2.2.2 o
def rgM2 (qm : QM) (m : Nat) (b : MA) (re : Nat → Int32) (v1 : Int32) := F_M_fillReach_L2 b.1 b.2.1 b.2.2.1 b.2.2.2.1 b.2.2.2.2.1 b.2.2.2.2.2.1 b.2.2.2.2.2.2.1 b.2.2.2.2.2.2.2.1 qm.1 qm.2.1 qm.2.2.1 qm.2.2.2.1 qm.2.2.2.2.1 qm.2.2.2.2.2.1 qm.2.2.2.2.2.2 m re v1
def fillM (qm : QM) (b : MA) (re : Nat → Int32) := F_M_fillReach b.1 b.2.1 b.2.2.1 b.2.2.2.1 b.2.2.2.2.1 b.2.2.2.2.2.1 b.2.2.2.2.2.2.1 b.2.2.2.2.2.2.2.1 qm.1 qm.2.1 qm.2.2.1 qm.2.2.2.1 qm.2.2.2.2.1 qm.2.2.2.2.2.1 qm.2.2.2.2.2.2 re
theorem rgC2_step (qc : QC) (v1 : Int32) (m : Nat) (a : CA) (re : Nat → Int32) (v2 : Int32) : rgC2 qc v1 (m + 1) a re v2 = if 8 ≤ v2 then some re else gd (v2 < 0 ∨ 8 ≤ v2.toNatClampNeg) (if (a.1 v2.toNatClampNeg) = 2 then ob1 (blockersC qc a v2) (fun r => gd (v2 < 0 ∨ 8 ≤ v2.toNatClampNeg) (rgC2 qc v1 m a (upd re v2.toNatClampNeg r) (v2 + 1))) else gd (v2 < 0 ∨ 8 ≤ v2.toNatClampNeg) (rgC2 qc v1 m a (upd re v2.toNatClampNeg 0) (v2 + 1))) := rfl
theorem rgM2_step (qm : QM) (m : Nat) (b : MA) (re : Nat → Int32) (v1 : Int32) : rgM2 qm (m + 1) b re v1 = if 8 ≤ v1 then some re else ob1 (behindM qm b v1) (fun r => gd (v1 < 0 ∨ 8 ≤ v1.toNatClampNeg) (rgM2 qm m b (upd re v1.toNatClampNeg r) (v1 + 1))) := rfl
theorem upd_below {re : Nat → Int32} {P : Nat → Nat → Bool} {k : Nat} {v : Int32} (h : ∀ i, i < k → re i = nI (bm (P i) 8)) (hv : v = nI (bm (P k) 8)) : ∀ i, i < k + 1 → upd re k v i = nI (bm (P i) 8) := by
  intro i hi
  unfold upd
  by_cases q : i = k
  · rw [if_pos q, q]; exact hv
  · rw [if_neg q]; exact h i (by omega)
theorem p_rgC2 {qc : QC} {qm : QM} {rq : Nat → Rq} {cm : Nat → Nat} {a : CA} {st : Nat → Nat} {tm : Nat → Nat → Option Nat} {rs : List Row} {ln gr : List Nat} (h : InvQ qc qm rq cm st ln) (S : CSa a st tm rs ln gr) (v1 : Int32) : ∀ d k m (re : Nat → Int32), k + d = 8 → d < m → (∀ i, i < k → re i = nI (bm (eR st tm rs ln rq i) 8)) → ∃ re', rgC2 qc v1 m a re (nI k) = some re' ∧ reAt re' (eR st tm rs ln rq) := by
  intro d
  induction d with
  | zero =>
    intro k m re hk hm hP
    obtain ⟨m, rfl⟩ : ∃ z, m = z + 1 := ⟨m - 1, by omega⟩
    have e : k = 8 := by omega
    subst e
    exact ⟨re, by rw [rgC2_step, if_pos (by exact Int32.le_refl _)], hP⟩
  | succ d ih =>
    intro k m re hk hm hP
    obtain ⟨m, rfl⟩ : ∃ z, m = z + 1 := ⟨m - 1, by omega⟩
    have hk8 : k < 8 := by omega
    have c0 : a.1 k = 2 ↔ st k = 2 := S.1.eq (k := 2) hk8 (by omega)
    rw [rgC2_step, if_neg (show ¬ (8 : Int32) ≤ nI k from nI_ge (b := 8) hk8 (by omega))]
    simp only [nI_clamp (show k < 2 ^ 31 by omega), pz_gd2 hk8 (show 8 < 2 ^ 31 by omega), c0, nI_1]
    by_cases q : st k = 2
    · rw [if_pos q, p_blockersC h S ((h.1.2.1 k).mpr ⟨hk8, q⟩), ob1_s]
      exact ih (k + 1) m _ (by omega) (by omega) (upd_below hP (by rw [bm_eR, if_pos q]))
    · rw [if_neg q]
      exact ih (k + 1) m _ (by omega) (by omega) (upd_below hP (by rw [bm_eR, if_neg q]; rfl))
theorem p_rgM2 {qc : QC} {qm : QM} {rq : Nat → Rq} {cm : Nat → Nat} {b : MA} {st : Nat → Nat} {tm : Nat → Nat → Option Nat} {rs : List Row} {ln gr : List Nat} (h : InvQ qc qm rq cm st ln) (S : MSa b st tm rs gr) : ∀ d k m (re : Nat → Int32), k + d = 8 → d < m → (∀ i, i < k → re i = nI (bm (eR st tm rs ln rq i) 8)) → ∃ re', rgM2 qm m b re (nI k) = some re' ∧ reAt re' (eR st tm rs ln rq) := by
  intro d
  induction d with
  | zero =>
    intro k m re hk hm hP
    obtain ⟨m, rfl⟩ : ∃ z, m = z + 1 := ⟨m - 1, by omega⟩
    have e : k = 8 := by omega
    subst e
    exact ⟨re, by rw [rgM2_step, if_pos (by exact Int32.le_refl _)], hP⟩
  | succ d ih =>
    intro k m re hk hm hP
    obtain ⟨m, rfl⟩ : ∃ z, m = z + 1 := ⟨m - 1, by omega⟩
    have hk8 : k < 8 := by omega
    rw [rgM2_step, if_neg (show ¬ (8 : Int32) ≤ nI k from nI_ge (b := 8) hk8 (by omega)), p_behindM h S hk8, ob1_s, pz_gd hk8 (by omega), nI_clamp (by omega), nI_1]
    exact ih (k + 1) m _ (by omega) (by omega) (upd_below hP (by rw [bm_eR]))
def onR (W : Nat → Nat → Bool) (o i : Nat) : Bool := W o i && W i o
theorem p_ringC {qc : QC} {qm : QM} {rq : Nat → Rq} {cm : Nat → Nat} {a : CA} {st : Nat → Nat} {tm : Nat → Nat → Option Nat} {rs : List Row} {ln gr : List Nat} (h : InvQ qc qm rq cm st ln) (S : CSa a st tm rs ln gr) (re : Nat → Int32) {o : Nat} (ho : o < 8) : ∃ re', ringC qc a re (nI o) = some (nI (bm (onR (wk (eR st tm rs ln rq) 8) o) 8), re') := by
  obtain ⟨re1, e1, e2⟩ := p_rgC2 h S (nI o) 8 0 fu re (by omega) (fu_lt (by omega)) (fun i hi => by omega)
  obtain ⟨re2, f1, f2⟩ := p_L41 (eR st tm rs ln rq) (nI o) 8 0 fu re1 (by omega) (fu_lt (by omega)) e2
  refine ⟨re2, ?_⟩
  have e : ringC qc a re (nI o) = ob1 (rgC2 qc (nI o) fu a re 0) (fun x7 => ob1 (F_T_ringOf_L41 (nI o) fu x7 0) (fun x17 => ob1 (F_T_ringOf_L99 x17 (nI o) fu 0 0) (fun v => some (v, x17)))) := rfl
  rw [nI_0] at e1 f1
  rw [e, e1, ob1_s, f1, ob1_s, p_L99 f2 ho, ob1_s]
  rfl
theorem p_fillM {qc : QC} {qm : QM} {rq : Nat → Rq} {cm : Nat → Nat} {b : MA} {st : Nat → Nat} {tm : Nat → Nat → Option Nat} {rs : List Row} {ln gr : List Nat} (h : InvQ qc qm rq cm st ln) (S : MSa b st tm rs gr) (re : Nat → Int32) : ∃ re', fillM qm b re = some re' ∧ reAt re' (wk (eR st tm rs ln rq) 8) := by
  obtain ⟨re1, e1, e2⟩ := p_rgM2 h S 8 0 fu re (by omega) (fu_lt (by omega)) (fun i hi => by omega)
  obtain ⟨re2, f1, f2⟩ := p_reach27 e2
  refine ⟨re2, ?_, f2⟩
  have e : fillM qm b re = ob1 (rgM2 qm fu b re 0) (fun x => ob1 (F_M_fillReach_L27 fu x 0) (fun y => some y)) := rfl
  rw [nI_0] at e1
  rw [e, e1, ob1_s, f1, ob1_s]
/-! the newest of a ring -/
def nwG (le : Int32 → Int32 → Bool) (se : Nat → Int32) (on : Nat → Bool) (a i : Nat) : Nat := if on i && !le (se i) (se a) then i else a
def nwF (se : Nat → Int32) (on : Nat → Bool) (a i : Nat) : Nat := if on i && !decide (se i ≤ se a) then i else a
theorem nw_lt {se : Nat → Int32} {on : Nat → Bool} {a i : Nat} (ha : a < 8) (hi : i < 8) : nwF se on a i < 8 := by
  unfold nwF
  by_cases q : (on i && !decide (se i ≤ se a)) = true
  · rw [if_pos q]; exact hi
  · rw [if_neg q]; exact ha
theorem p_newest (xse : Nat → Int32) (on : Nat → Bool) {o : Nat} (ho : o < 8) : F_T_newestOf xse (nI (bm on 8)) (nI o) = some (nI ((List.range 8).foldl (nwF xse on) o)) := by
  unfold F_T_newestOf
  have key := p_scan (List.range 8) (fun q a i => F_T_newestOf_L5 xse (nI (bm on 8)) q (nI a) i) (nwF xse on) (fun a => some (nI a)) (fun a => a < 8) (fun q a _ => by
      show F_T_newestOf_L5 _ _ (q + 1) _ (nI 8) = _
      rw [F_T_newestOf_L5, if_pos (by exact Int32.le_refl _)]) (fun q a k r ha hr => by
      obtain ⟨hk, rfl⟩ := range_at hr
      refine ⟨nw_lt ha hk, ?_⟩
      show F_T_newestOf_L5 _ _ (q + 1) _ _ = F_T_newestOf_L5 _ _ q _ _
      rw [F_T_newestOf_L5, if_neg (show ¬ (8 : Int32) ≤ nI r from nI_ge (b := 8) hk (by omega)), p_hasBit hk]
      simp only [ob1_s, p_b0, nI_clamp (show r < 2 ^ 31 by omega), nI_clamp (show a < 2 ^ 31 by omega), pz_gd2 hk (show 8 < 2 ^ 31 by omega), pz_gd2 ha (show 8 < 2 ^ 31 by omega), nI_1]
      unfold nwF
      cases on r with
      | false => simp
      | true =>
        by_cases q : xse r ≤ xse a
        · simp [q]
        · simp [q]) (m := fu) (a := o) (fu_lt (by simp)) ho
  rw [key, ob1_s]
theorem p_newestM (mse : Nat → Int32) {mre : Nat → Int32} {W : Nat → Nat → Bool} (h : reAt mre W) {o : Nat} (ho : o < 8) : F_M_breakRings_L32 mse mre (nI o) fu (nI o) 0 = some (nI ((List.range 8).foldl (nwF mse (onR W o)) o)) := by
  have key := p_scan (List.range 8) (fun q a i => F_M_breakRings_L32 mse mre (nI o) q (nI a) i) (nwF mse (onR W o)) (fun a => some (nI a)) (fun a => a < 8) (fun q a _ => by
      show F_M_breakRings_L32 _ _ _ (q + 1) _ (nI 8) = _
      rw [F_M_breakRings_L32, if_pos (by exact Int32.le_refl _)]) (fun q a k r ha hr => by
      obtain ⟨hk, rfl⟩ := range_at hr
      refine ⟨nw_lt ha hk, ?_⟩
      show F_M_breakRings_L32 _ _ _ (q + 1) _ _ = F_M_breakRings_L32 _ _ _ q _ _
      rw [F_M_breakRings_L32, if_neg (show ¬ (8 : Int32) ≤ nI r from nI_ge (b := 8) hk (by omega))]
      simp only [jn1, jn0, nI_clamp (show r < 2 ^ 31 by omega), nI_clamp (show a < 2 ^ 31 by omega), nI_clamp (show o < 2 ^ 31 by omega), pz_gd2 hk (show 8 < 2 ^ 31 by omega), pz_gd2 ha (show 8 < 2 ^ 31 by omega), pz_gd2 ho (show 8 < 2 ^ 31 by omega), h r hk, h o ho, bm_get hk, bm_get ho, b2i_1, nI_1]
      unfold nwF onR
      cases W o r <;> cases W r o <;> simp
      by_cases q : mse r ≤ mse a
      · simp [q, Int32.not_lt.mpr q]
      · simp [q, Int32.not_le.mp q]) (m := fu) (a := o) (fu_lt (by simp)) ho
  exact key
theorem nw_sameG {le : Int32 → Int32 → Bool} {xse mse : Nat → Int32} {on : Nat → Bool} (hon : ∀ i, on i = true → i < 8 → xse i = mse i) : ∀ (l : List Nat) (a : Nat), (∀ i ∈ l, i < 8) → xse a = mse a → l.foldl (nwG le xse on) a = l.foldl (nwG le mse on) a := by
  intro l
  induction l with
  | nil => intro a _ _; rfl
  | cons i l ih =>
    intro a hl ha
    rw [List.foldl_cons, List.foldl_cons]
    have hi := hl i (by simp)
    have e : nwG le xse on a i = nwG le mse on a i := by
      unfold nwG
      cases ho : on i with
      | false => rw [Bool.false_and, Bool.false_and]
      | true => rw [hon i ho hi, ha]
    rw [← e]
    refine ih _ (fun x hx => hl x (by simp [hx])) ?_
    unfold nwG
    by_cases q : (on i && !le (xse i) (xse a)) = true
    · rw [if_pos q]
      simp only [Bool.and_eq_true] at q
      exact hon i q.1 hi
    · rw [if_neg q]; exact ha
theorem nw_same {xse mse : Nat → Int32} {on : Nat → Bool} (hon : ∀ i, on i = true → i < 8 → xse i = mse i) (l : List Nat) (a : Nat) (hl : ∀ i ∈ l, i < 8) (ha : xse a = mse a) : l.foldl (nwF xse on) a = l.foldl (nwF mse on) a := nw_sameG (le := fun x y => decide (x ≤ y)) hon l a hl ha
theorem nw_in {se : Nat → Int32} {on : Nat → Bool} : ∀ (l : List Nat) (a : Nat), l.foldl (nwF se on) a = a ∨ (on (l.foldl (nwF se on) a) = true ∧ l.foldl (nwF se on) a ∈ l) := by
  intro l
  induction l with
  | nil => intro a; exact Or.inl rfl
  | cons i l ih =>
    intro a
    rw [List.foldl_cons]
    rcases ih (nwF se on a i) with h | ⟨h1, h2⟩
    · rw [h]
      unfold nwF
      by_cases q : (on i && !decide (se i ≤ se a)) = true
      · rw [if_pos q]
        simp only [Bool.and_eq_true] at q
        exact Or.inr ⟨q.1, by simp⟩
      · rw [if_neg q]; exact Or.inl rfl
    · exact Or.inr ⟨h1, by simp [h2]⟩
/-- an owner is taken back, in both -/
theorem Jt.back {qc : QC} {qm : QM} {rq : Nat → Rq} {cm : Nat → Nat} {a : CA} {b : MA} {st : Nat → Nat} {tm : Nat → Nat → Option Nat} {rs : List Row} {ln gr : List Nat} (h : Jt qc qm rq cm a b st tm rs ln gr) {o v : Nat} (ho : o < 8) (hv : v < 5) (hv2 : v ≠ 2) : ∃ (r : Nat → Int32) (w : Int32), F_T_takeBack a.1 a.2.2.2.2.2.2.2.2.1 a.2.2.2.2.2.2.2.2.2.2.2 (nI o) (nI v) = some (upd a.1 o (nI v), r, w) ∧ Jt qc qm rq cm (upd a.1 o (nI v), a.2.1, a.2.2.1, a.2.2.2.1, a.2.2.2.2.1, a.2.2.2.2.2.1, a.2.2.2.2.2.2.1, a.2.2.2.2.2.2.2.1, r, a.2.2.2.2.2.2.2.2.2.1, a.2.2.2.2.2.2.2.2.2.2.1, w) (upd b.1 o (nI v), b.2.1, b.2.2.1, b.2.2.2.1, b.2.2.2.2.1, b.2.2.2.2.2.1, b.2.2.2.2.2.2.1, b.2.2.2.2.2.2.2.1, b.2.2.2.2.2.2.2.2.1, b.2.2.2.2.2.2.2.2.2.1, b.2.2.2.2.2.2.2.2.2.2) (stSet st o v) tm rs (gLn o ln) gr := by
  obtain ⟨⟨s1, s2, s3, ⟨s6, s7⟩, s8⟩, ⟨t1, t2⟩, h3, h4, h5⟩ := h
  obtain ⟨r, e1, e2⟩ := p_leave s6 ho
  have hl : (gLn o ln).length ≤ ln.length := by unfold gLn; exact List.length_filter_le _ _
  refine ⟨r, nI (gLn o ln).length, ?_, ⟨s1.set hv, s2, s3, ⟨e2, rfl⟩, s8⟩, ⟨t1.set hv, t2⟩, invQ_out h3 o v hv2, invR_out h4 o, by omega⟩
  unfold F_T_takeBack
  rw [s7, e1, ob2_s, pz_gd ho (by omega), nI_clamp (by omega)]
  rfl
