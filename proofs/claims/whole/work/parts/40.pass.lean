/-! a pass over the line, in both -/
def CA13 (a : CA) (v : Int32) : (Nat → Int32) × (Nat → Int32) × (Nat → Int32) × (Nat → Int32) × (Nat → Int32) × (Nat → Int64) × (Nat → Int64) × (Nat → Int32) × (Nat → Int32) × Int32 × Int32 × Int32 × Int32 := (a.1, a.2.1, a.2.2.1, a.2.2.2.1, a.2.2.2.2.1, a.2.2.2.2.2.1, a.2.2.2.2.2.2.1, a.2.2.2.2.2.2.2.1, a.2.2.2.2.2.2.2.2.1, a.2.2.2.2.2.2.2.2.2.1, a.2.2.2.2.2.2.2.2.2.2.1, a.2.2.2.2.2.2.2.2.2.2.2, v)
def lkC27 (qc : QC) (xca v2 : Int32) (m : Nat) (a : CA) (v1 v3 v4 : Int32) := F_T_lookAtAll_L27 qc.1 qc.2.1 qc.2.2.1 qc.2.2.2.1 qc.2.2.2.2.1 qc.2.2.2.2.2.2 xca v2 m a.1 a.2.1 a.2.2.1 a.2.2.2.1 a.2.2.2.2.1 a.2.2.2.2.2.1 a.2.2.2.2.2.2.1 a.2.2.2.2.2.2.2.1 a.2.2.2.2.2.2.2.2.1 a.2.2.2.2.2.2.2.2.2.1 a.2.2.2.2.2.2.2.2.2.2.1 a.2.2.2.2.2.2.2.2.2.2.2 v1 v3 v4
def lkM23 (qm : QM) (own : Int32) (m : Nat) (b : MA) (v2 : Int32) : Option MA := F_M_look_L23 qm.1 qm.2.1 qm.2.2.1 qm.2.2.2.1 qm.2.2.2.2.1 qm.2.2.2.2.2.1 qm.2.2.2.2.2.2 own m b.1 b.2.1 b.2.2.1 b.2.2.2.1 b.2.2.2.2.1 b.2.2.2.2.2.1 b.2.2.2.2.2.2.1 b.2.2.2.2.2.2.2.1 b.2.2.2.2.2.2.2.2.1 b.2.2.2.2.2.2.2.2.2.1 b.2.2.2.2.2.2.2.2.2.2 v2
def nextM (qm : QM) (b : MA) (o : Int32) : Option Int32 := F_M_nextBehind b.1 qm.2.2.2.2.2.1 qm.2.2.2.2.2.2 o
def grantCa (qc : QC) (xca : Int32) (a : CA) (o : Int32) := F_T_grant a.1 a.2.1 a.2.2.1 a.2.2.2.1 a.2.2.2.2.1 a.2.2.2.2.2.1 a.2.2.2.2.2.2.1 a.2.2.2.2.2.2.2.1 qc.1 qc.2.1 qc.2.2.1 qc.2.2.2.1 qc.2.2.2.2.1 qc.2.2.2.2.2.2 a.2.2.2.2.2.2.2.2.1 a.2.2.2.2.2.2.2.2.2.1 xca a.2.2.2.2.2.2.2.2.2.2.1 a.2.2.2.2.2.2.2.2.2.2.2 o
theorem p_grantCa {qc : QC} {rq : Nat → Rq} {a : CA} {st : Nat → Nat} {tm : Nat → Nat → Option Nat} {rs : List Row} {ln gr : List Nat} (S : CSa a st tm rs ln gr) {o : Nat} (hq : rqAtC qc.1 qc.2.1 qc.2.2.1 qc.2.2.2.1 qc.2.2.2.2.1 qc.2.2.2.2.2.1 qc.2.2.2.2.2.2 o (rq o)) (hqr : rqR (rq o)) (ho : o < 8) (hg : gr.length < 8) (hrs : (rq o).1 = 1 → rs.length < 256) (xca : Int32) : ∃ a' : CA, grantCa qc xca a (nI o) = some (b2i ((rq o).1 == 2), a') ∧ CSa a' (stSet st o 1) (gTm rq o tm) (gRs rq o rs) (gLn o ln) (gGr xca o gr) := by
  obtain ⟨x1, x2, x3, x4, x5, x6, x7, x8, x9, x10, x11, x12, e, S'⟩ := p_grantC S hq hqr ho hg hrs xca
  exact ⟨(x1, x2, x3, x4, x5, x6, x7, x8, x9, x10, x11, x12), e, S'⟩
def grantMa (qm : QM) (b : MA) (fr o : Int32) := F_M_grant b.1 b.2.1 b.2.2.1 b.2.2.2.1 b.2.2.2.2.1 b.2.2.2.2.2.1 b.2.2.2.2.2.2.1 b.2.2.2.2.2.2.2.1 qm.1 qm.2.1 qm.2.2.1 qm.2.2.2.1 qm.2.2.2.2.1 fr o
theorem p_grantMa {qm : QM} {rq : Nat → Rq} {b : MA} {st : Nat → Nat} {tm : Nat → Nat → Option Nat} {rs : List Row} {gr : List Nat} (S : MSa b st tm rs gr) {o : Nat} (hq : rqAtM qm.1 qm.2.1 qm.2.2.1 qm.2.2.2.1 qm.2.2.2.2.1 qm.2.2.2.2.2.1 o (rq o)) (hqr : rqR (rq o)) (ho : o < 8) (hrs : (rq o).1 = 1 → rs.length < 256) (fr : Int32) : ∃ (y1 y2 : Nat → Int32) (y3 : Int32) (y4 y5 y6 : Nat → Int32) (y7 y8 : Nat → Int64), grantMa qm b fr (nI o) = some (y1, y2, y3, y4, y5, y6, y7, y8, if (rq o).1 == 2 && rs.any (isOnB o (rq o).2.1) then 1 else fr) ∧ MS y1 y2 y3 y4 y5 y6 y7 y8 b.2.2.2.2.2.2.2.2.1 b.2.2.2.2.2.2.2.2.2.1 (stSet st o 1) (gTm rq o tm) (gRs rq o rs) gr := p_grantM S hq hqr ho hrs fr
theorem p_nextM {qc : QC} {qm : QM} {rq : Nat → Rq} {cm : Nat → Nat} {b : MA} {st : Nat → Nat} {tm : Nat → Nat → Option Nat} {rs : List Row} {gr : List Nat} {pre post : List Nat} {o : Nat} (h : InvQ qc qm rq cm st (pre ++ o :: post)) (S : MSa b st tm rs gr) : nextM qm b (nI o) = some (mI post.head?) := by
  obtain ⟨⟨h1, h2, h3⟩, h4, -, h6, -⟩ := h
  have ho : o < 8 ∧ st o = 2 := (h2 o).mp (by simp)
  obtain ⟨p1, p2, p3⟩ := List.pairwise_append.mp h3
  obtain ⟨p4, p5⟩ := List.pairwise_cons.mp p2
  refine p_next S.1 h6 h4 (some o) (fun x hx => by cases hx; exact ho) post (fun j => ?_) p5
  constructor
  · intro hj
    obtain ⟨j8, j2⟩ := (h2 j).mp (by simp [hj])
    refine ⟨j8, ?_⟩
    have hb := p4 j hj
    have hne : ¬ j = o := fun e => by rw [e, bef_irrefl] at hb; cases hb
    simp [candB, j2, hne, hb]
  · rintro ⟨j8, hj⟩
    unfold candB at hj
    simp at hj
    obtain ⟨j2, hne, hb⟩ := hj
    have hm := (h2 j).mpr ⟨j8, j2⟩
    rcases List.mem_append.mp hm with m | m
    · have := p3 j m o (by simp)
      rw [bef_asymm this] at hb
      cases hb
    · rcases List.mem_cons.mp m with m | m
      · exact absurd m hne
      · exact m
theorem p_nextM0 {qc : QC} {qm : QM} {rq : Nat → Rq} {cm : Nat → Nat} {b : MA} {st : Nat → Nat} {tm : Nat → Nat → Option Nat} {rs : List Row} {ln gr : List Nat} (h : InvQ qc qm rq cm st ln) (S : MSa b st tm rs gr) : nextM qm b (-1) = some (mI ln.head?) := by
  obtain ⟨⟨h1, h2, h3⟩, h4, -, h6, -⟩ := h
  refine p_next S.1 h6 h4 none (fun x hx => by cases hx) ln (fun j => ?_) h3
  rw [h2 j]
  simp [candB]
/-- a state that came by grants out of another -/
def Sub (st : Nat → Nat) (ln : List Nat) (st' : Nat → Nat) (ln' : List Nat) : Prop := ln'.Sublist ln ∧ (∀ o, o ∉ ln → st' o = st o) ∧ ∀ o ∈ ln, o ∉ ln' → st' o = 1
theorem Sub.refl {st : Nat → Nat} {ln : List Nat} : Sub st ln st ln := ⟨List.Sublist.refl _, fun _ _ => rfl, fun _ h h' => absurd h h'⟩
theorem Sub.trans {st st' st'' : Nat → Nat} {ln ln' ln'' : List Nat} (h1 : Sub st ln st' ln') (h2 : Sub st' ln' st'' ln'') : Sub st ln st'' ln'' := by
  refine ⟨h2.1.trans h1.1, fun o ho => ?_, fun o ho ho' => ?_⟩
  · rw [h2.2.1 o (fun m => ho (h1.1.mem m)), h1.2.1 o ho]
  · by_cases q : o ∈ ln'
    · exact h2.2.2 o q ho'
    · rw [h2.2.1 o q]; exact h1.2.2 o ho q
theorem Sub.grant {st : Nat → Nat} {ln : List Nat} {o : Nat} (ho : o ∈ ln) : Sub st ln (stSet st o 1) (gLn o ln) := by
  refine ⟨List.filter_sublist, fun x hx => ?_, fun x hx hx' => ?_⟩
  · unfold stSet
    rw [if_neg (show ¬ x = o from fun e => hx (e ▸ ho))]
  · have : x = o := Decidable.byContradiction (fun e => hx' (mem_gLn.mpr ⟨hx, e⟩))
    unfold stSet
    rw [if_pos this]
/-- both, and what they keep -/
def Jt (qc : QC) (qm : QM) (rq : Nat → Rq) (cm : Nat → Nat) (a : CA) (b : MA) (st : Nat → Nat) (tm : Nat → Nat → Option Nat) (rs : List Row) (ln gr : List Nat) : Prop := CSa a st tm rs ln gr ∧ MSa b st tm rs gr ∧ InvQ qc qm rq cm st ln ∧ InvR rq tm rs ln ∧ gr.length + ln.length ≤ 8
theorem gGr_len {ca : Int32} {o : Nat} {gr : List Nat} : (gGr ca o gr).length ≤ gr.length + 1 := by
  unfold gGr
  by_cases q : nI o = ca
  · rw [if_pos q]; omega
  · rw [if_neg q, List.length_append, List.length_singleton]; omega
theorem Jt.room {qc : QC} {qm : QM} {rq : Nat → Rq} {cm : Nat → Nat} {a : CA} {b : MA} {st : Nat → Nat} {tm : Nat → Nat → Option Nat} {rs : List Row} {ln gr : List Nat} (h : Jt qc qm rq cm a b st tm rs ln gr) {o : Nat} (ho : o ∈ ln) : o < 8 ∧ st o = 2 ∧ gr.length < 8 ∧ ((rq o).1 = 1 → rs.length < 256) := by
  obtain ⟨h1, h2, h3, h4, h5⟩ := h
  obtain ⟨a1, a2⟩ := (h3.1.2.1 o).mp ho
  have hp : 0 < ln.length := List.length_pos_of_mem ho
  refine ⟨a1, a2, by omega, fun k => ?_⟩
  have hc : 0 < ln.countP (fun o => (rq o).1 == 1) := List.countP_pos_iff.mpr ⟨o, ho, by simpa using k⟩
  have := h4.1
  omega
/-- a grant, in both, while they look -/
theorem Jt.grant {qc : QC} {qm : QM} {rq : Nat → Rq} {cm : Nat → Nat} {a : CA} {b : MA} {st : Nat → Nat} {tm : Nat → Nat → Option Nat} {rs : List Row} {ln gr : List Nat} (h : Jt qc qm rq cm a b st tm rs ln gr) {o : Nat} (ho : o ∈ ln) (xca own : Int32) (hca : nI o = xca ↔ nI o = own) (fr : Int32) : ∃ (a' : CA) (y1 y2 : Nat → Int32) (y3 : Int32) (y4 y5 y6 : Nat → Int32) (y7 y8 : Nat → Int64), grantCa qc xca a (nI o) = some (b2i ((rq o).1 == 2), a') ∧ grantMa qm b fr (nI o) = some (y1, y2, y3, y4, y5, y6, y7, y8, if (rq o).1 == 2 then 1 else fr) ∧
    Jt qc qm rq cm a' (y1, y2, y3, y4, y5, y6, y7, y8, (if nI o = own then b.2.2.2.2.2.2.2.2.1 else b.2.2.2.2.2.2.2.2.1 + 1), (if nI o = own then b.2.2.2.2.2.2.2.2.2.1 else upd b.2.2.2.2.2.2.2.2.2.1 b.2.2.2.2.2.2.2.2.1.toNatClampNeg (nI o)), if (rq o).1 == 2 then 1 else fr) (stSet st o 1) (gTm rq o tm) (gRs rq o rs) (gLn o ln) (gGr xca o gr) := by
  obtain ⟨o8, o2, g8, r8⟩ := h.room ho
  obtain ⟨h1, h2, h3, h4, h5⟩ := h
  obtain ⟨a', e1, S1⟩ := p_grantCa h1 (h3.2.2.1 o ho) (h3.2.2.2.2 o ho) o8 g8 r8 xca
  obtain ⟨y1, y2, y3, y4, y5, y6, y7, y8, e2, S2⟩ := p_grantMa h2 ((h3.2.2.2.1 o o8 o2).1) (h3.2.2.2.2 o ho) o8 r8 fr
  have e3 : (if (rq o).1 == 2 && rs.any (isOnB o (rq o).2.1) then (1 : Int32) else fr) = if (rq o).1 == 2 then 1 else fr := by
    by_cases q : (rq o).1 = 2
    · rw [h4.2.2.2.1 o ho q, Bool.and_true]
    · have : ((rq o).1 == 2) = false := by simpa using q
      rw [this, Bool.false_and]
  rw [e3] at e2
  have hl := gLn_length h3.1.1 ho
  have hg := gGr_len (ca := xca) (o := o) (gr := gr)
  refine ⟨a', y1, y2, y3, y4, y5, y6, y7, y8, e1, e2, S1, ?_, invQ_out h3 o 1 (by omega), invR_grant h4 h3.1.1 ho, by omega⟩
  obtain ⟨t1, t2, t3, t4, t5⟩ := S2
  refine ⟨t1, t2, t3, ?_⟩
  show grAt (if nI o = own then b.2.2.2.2.2.2.2.2.2.1 else upd b.2.2.2.2.2.2.2.2.2.1 b.2.2.2.2.2.2.2.2.1.toNatClampNeg (nI o)) (gGr xca o gr) ∧ (if nI o = own then b.2.2.2.2.2.2.2.2.1 else b.2.2.2.2.2.2.2.2.1 + 1) = nI (gGr xca o gr).length
  unfold gGr
  by_cases q : nI o = own
  · rw [if_pos q, if_pos q, if_pos (hca.mpr q)]
    exact ⟨t4, t5⟩
  · rw [if_neg q, if_neg q, if_neg (fun e => q (hca.mp e)), t5, nI_clamp (by omega), nI_1, List.length_append, List.length_singleton]
    exact ⟨t4.push o, rfl⟩
