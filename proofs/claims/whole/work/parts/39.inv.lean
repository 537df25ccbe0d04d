/-! what both keep while they look -/
abbrev CA : Type := (Nat → Int32) × (Nat → Int32) × (Nat → Int32) × (Nat → Int32) × (Nat → Int32) × (Nat → Int64) × (Nat → Int64) × (Nat → Int32) × (Nat → Int32) × Int32 × Int32 × Int32
abbrev MA : Type := (Nat → Int32) × (Nat → Int32) × Int32 × (Nat → Int32) × (Nat → Int32) × (Nat → Int32) × (Nat → Int64) × (Nat → Int64) × Int32 × (Nat → Int32) × Int32
abbrev QC : Type := (Nat → Int32) × (Nat → Int32) × (Nat → Int64) × (Nat → Int64) × (Nat → Int32) × (Nat → Int32) × (Nat → Int32)
abbrev QM : Type := (Nat → Int32) × (Nat → Int32) × (Nat → Int32) × (Nat → Int64) × (Nat → Int64) × (Nat → Int32) × (Nat → Int32)
def CSa (a : CA) (st : Nat → Nat) (tm : Nat → Nat → Option Nat) (rs : List Row) (ln gr : List Nat) : Prop := CS a.1 a.2.1 a.2.2.1 a.2.2.2.1 a.2.2.2.2.1 a.2.2.2.2.2.1 a.2.2.2.2.2.2.1 a.2.2.2.2.2.2.2.1 a.2.2.2.2.2.2.2.2.1 a.2.2.2.2.2.2.2.2.2.1 a.2.2.2.2.2.2.2.2.2.2.1 a.2.2.2.2.2.2.2.2.2.2.2 st tm rs ln gr
def MSa (b : MA) (st : Nat → Nat) (tm : Nat → Nat → Option Nat) (rs : List Row) (gr : List Nat) : Prop := MS b.1 b.2.1 b.2.2.1 b.2.2.2.1 b.2.2.2.2.1 b.2.2.2.2.2.1 b.2.2.2.2.2.2.1 b.2.2.2.2.2.2.2.1 b.2.2.2.2.2.2.2.2.1 b.2.2.2.2.2.2.2.2.2.1 st tm rs gr
def MAfr (b : MA) : Int32 := b.2.2.2.2.2.2.2.2.2.2
def str (a : Nat) : Bool := a == 1 || a == 3 || a == 5
def hld (h : Option Nat) (m : Nat) : Prop := ∃ a, h = some a ∧ (m = 5 → str a = true)
def keepS (h : Option Nat) (m : Nat) : Prop := ∀ a, h = some a → str a = true → str m = true
/-- the order of the line and the requests in it -/
def InvQ (qc : QC) (qm : QM) (rq : Nat → Rq) (cm : Nat → Nat) (st : Nat → Nat) (ln : List Nat) : Prop :=
  ordL st rq cm ln ∧ cmInj st cm ∧ cReq ln qc.1 qc.2.1 qc.2.2.1 qc.2.2.2.1 qc.2.2.2.2.1 qc.2.2.2.2.2.1 qc.2.2.2.2.2.2 rq ∧ mReq st qm.1 qm.2.1 qm.2.2.1 qm.2.2.2.1 qm.2.2.2.2.1 qm.2.2.2.2.2.1 qm.2.2.2.2.2.2 rq cm ∧ ∀ o ∈ ln, rqR (rq o)
/-- what is held, and the requests beside it -/
def InvR (rq : Nat → Rq) (tm : Nat → Nat → Option Nat) (rs : List Row) (ln : List Nat) : Prop :=
  rs.length + ln.countP (fun o => (rq o).1 == 1) ≤ 256 ∧ (∀ o t, rs.countP (isOnB o t) ≤ 8) ∧ (∀ o ∈ ln, (rq o).1 = 1 → rs.countP (isOnB o (rq o).2.1) < 8) ∧ (∀ o ∈ ln, (rq o).1 = 2 → rs.any (isOnB o (rq o).2.1) = true) ∧ (∀ r ∈ rs, hld (tm r.1 r.2.1) r.2.2.2.2) ∧ (∀ o ∈ ln, (rq o).1 = 1 → hld (tm o (rq o).2.1) (rq o).2.2.1) ∧ (∀ o ∈ ln, (rq o).1 ≠ 1 → keepS (tm o (rq o).2.1) (rq o).2.2.1)
theorem mem_gLn {o x : Nat} {ln : List Nat} : x ∈ gLn o ln ↔ x ∈ ln ∧ x ≠ o := by
  unfold gLn
  rw [List.mem_filter]
  simp
theorem gLn_erase {o : Nat} {ln : List Nat} (h : ln.Nodup) : gLn o ln = ln.erase o := by
  rw [h.erase_eq_filter]
  unfold gLn
  apply List.filter_congr
  intro x _
  rfl
theorem gLn_count {o : Nat} {ln : List Nat} (h : ln.Nodup) (ho : o ∈ ln) (P : Nat → Bool) : ln.countP P = (gLn o ln).countP P + if P o then 1 else 0 := by
  rw [gLn_erase h, (List.perm_cons_erase ho).countP_eq P, List.countP_cons]
theorem gLn_length {o : Nat} {ln : List Nat} (h : ln.Nodup) (ho : o ∈ ln) : ln.length = (gLn o ln).length + 1 := by
  rw [gLn_erase h, (List.perm_cons_erase ho).length_eq, List.length_cons]
theorem gLn_not {o : Nat} {ln : List Nat} (ho : o ∉ ln) : gLn o ln = ln := by
  unfold gLn
  apply List.filter_eq_self.mpr
  intro x hx
  have : ¬ x = o := fun e => ho (e ▸ hx)
  simpa using this
theorem gLn_mid {o : Nat} {pre post : List Nat} (h : (pre ++ o :: post).Nodup) : gLn o (pre ++ o :: post) = pre ++ post := by
  rw [gLn_erase h]
  have h1 : o ∉ pre := fun e => by
    have := (List.nodup_append.mp h).2.2 o e o (by simp)
    exact this rfl
  rw [List.erase_append_right _ h1, List.erase_cons_head]
/-- an owner of the line is taken out: it works, or is doomed, or idle -/
theorem invQ_out {qc : QC} {qm : QM} {rq : Nat → Rq} {cm : Nat → Nat} {st : Nat → Nat} {ln : List Nat} (h : InvQ qc qm rq cm st ln) (o v : Nat) (hv : v ≠ 2) : InvQ qc qm rq cm (stSet st o v) (gLn o ln) := by
  obtain ⟨⟨h1, h2, h3⟩, h4, h5, h6, h7⟩ := h
  have key : ∀ x, stSet st o v x = 2 → x ≠ o ∧ st x = 2 := by
    intro x hx
    unfold stSet at hx
    by_cases q : x = o
    · rw [if_pos q] at hx; exact absurd hx hv
    · rw [if_neg q] at hx; exact ⟨q, hx⟩
  refine ⟨⟨h1.filter _, fun x => ?_, h3.filter _⟩, fun a b ha hb sa sb e => h4 a b ha hb (key a sa).2 (key b sb).2 e, fun x hx => h5 x (mem_gLn.mp hx).1, fun x hx sx => h6 x hx (key x sx).2, fun x hx => h7 x (mem_gLn.mp hx).1⟩
  rw [mem_gLn, h2 x]
  constructor
  · rintro ⟨⟨a, b⟩, c⟩
    exact ⟨a, by unfold stSet; rw [if_neg c]; exact b⟩
  · rintro ⟨a, b⟩
    exact ⟨⟨a, (key x b).2⟩, (key x b).1⟩
theorem invR_out {rq : Nat → Rq} {tm : Nat → Nat → Option Nat} {rs : List Row} {ln : List Nat} (h : InvR rq tm rs ln) (o : Nat) : InvR rq tm rs (gLn o ln) := by
  obtain ⟨h1, h2, h3, h4, h5, h6, h7⟩ := h
  have hc : (gLn o ln).countP (fun o => (rq o).1 == 1) ≤ ln.countP (fun o => (rq o).1 == 1) := by
    unfold gLn
    exact List.Sublist.countP_le List.filter_sublist
  exact ⟨by omega, h2, fun x hx => h3 x (mem_gLn.mp hx).1, fun x hx => h4 x (mem_gLn.mp hx).1, h5, fun x hx => h6 x (mem_gLn.mp hx).1, fun x hx => h7 x (mem_gLn.mp hx).1⟩
theorem gTm_ne {rq : Nat → Rq} {o x t : Nat} {tm : Nat → Nat → Option Nat} (h : x ≠ o) : gTm rq o tm x t = tm x t := by
  unfold gTm
  by_cases q : (rq o).1 = 1
  · rw [if_pos q]
  · rw [if_neg q]
    unfold tmSet
    rw [if_neg (fun e => h e.1)]
theorem invR_grant {rq : Nat → Rq} {tm : Nat → Nat → Option Nat} {rs : List Row} {ln : List Nat} (h : InvR rq tm rs ln) (hd : ln.Nodup) {o : Nat} (ho : o ∈ ln) : InvR rq (gTm rq o tm) (gRs rq o rs) (gLn o ln) := by
  obtain ⟨h1, h2, h3, h4, h5, h6, h7⟩ := h
  have hc := gLn_count hd ho (fun o => (rq o).1 == 1)
  by_cases q : (rq o).1 = 1
  · have e1 : gTm rq o tm = tm := by unfold gTm; rw [if_pos q]
    have e2 : gRs rq o rs = rs ++ [(o, (rq o).2.1, (rq o).2.2.2.1, (rq o).2.2.2.2.1, (rq o).2.2.1)] := by unfold gRs; rw [if_pos q]
    have hp : ((rq o).1 == 1) = true := by simpa using q
    simp only [hp, if_true] at hc
    rw [e1, e2]
    refine ⟨by rw [List.length_append, List.length_singleton]; omega, fun a t => ?_, fun x hx k1 => ?_, fun x hx k2 => ?_, fun r hr => ?_, fun x hx k1 => h6 x (mem_gLn.mp hx).1 k1, fun x hx k1 => h7 x (mem_gLn.mp hx).1 k1⟩
    · rw [List.countP_append, List.countP_singleton]
      by_cases qa : isOnB a t (o, (rq o).2.1, (rq o).2.2.2.1, (rq o).2.2.2.2.1, (rq o).2.2.1) = true
      · rw [if_pos qa]
        unfold isOnB at qa
        simp at qa
        obtain ⟨rfl, rfl⟩ := qa
        have := h3 _ ho q
        omega
      · rw [if_neg qa]
        exact h2 a t
    · obtain ⟨m1, m2⟩ := mem_gLn.mp hx
      rw [List.countP_append, List.countP_singleton, if_neg]
      · exact h3 x m1 k1
      · unfold isOnB
        have : (o == x) = false := by simpa using (fun e => m2 e.symm)
        simp [this]
    · obtain ⟨m1, m2⟩ := mem_gLn.mp hx
      rw [List.any_append, h4 x m1 k2]
      rfl
    · rcases List.mem_append.mp hr with m | m
      · exact h5 r m
      · rw [List.mem_singleton.mp m]
        exact h6 o ho q
  · have e1 : gTm rq o tm = tmSet tm o (rq o).2.1 (some (rq o).2.2.1) := by unfold gTm; rw [if_neg q]
    have hsub : (gRs rq o rs).Sublist rs := by
      unfold gRs
      rw [if_neg q]
      by_cases q2 : (rq o).1 = 2
      · rw [if_pos q2]; exact List.filter_sublist
      · rw [if_neg q2]; exact List.Sublist.refl _
    have hl := hsub.length_le
    have hp : ((rq o).1 == 1) = false := by simpa using q
    simp only [hp] at hc
    refine ⟨by simp at hc; omega, fun a t => Nat.le_trans (List.Sublist.countP_le hsub) (h2 a t), fun x hx k1 => Nat.lt_of_le_of_lt (List.Sublist.countP_le hsub) (h3 x (mem_gLn.mp hx).1 k1), fun x hx k2 => ?_, fun r hr => ?_, fun x hx k1 => ?_, fun x hx k1 => ?_⟩
    · obtain ⟨m1, m2⟩ := mem_gLn.mp hx
      have k := h4 x m1 k2
      unfold gRs
      rw [if_neg q]
      by_cases q2 : (rq o).1 = 2
      · rw [if_pos q2]
        obtain ⟨r, r1, r2⟩ := List.any_eq_true.mp k
        refine List.any_eq_true.mpr ⟨r, List.mem_filter.mpr ⟨r1, ?_⟩, r2⟩
        unfold isOnB at r2 ⊢
        simp at r2 ⊢
        exact Or.inl (fun e => m2 (r2.1.symm.trans e))
      · rw [if_neg q2]; exact k
    · have k := h5 r (hsub.mem hr)
      rw [e1]
      unfold tmSet
      by_cases c : r.1 = o ∧ r.2.1 = (rq o).2.1
      · rw [if_pos c]
        obtain ⟨a, a1, a2⟩ := k
        rw [c.1, c.2] at a1
        exact ⟨_, rfl, fun m5 => h7 o ho q a a1 (a2 m5)⟩
      · rw [if_neg c]; exact k
    · obtain ⟨m1, m2⟩ := mem_gLn.mp hx
      rw [gTm_ne m2]
      exact h6 x m1 k1
    · obtain ⟨m1, m2⟩ := mem_gLn.mp hx
      rw [gTm_ne m2]
      exact h7 x m1 k1
theorem blkC_perm {tm : Nat → Nat → Option Nat} {rs0 rs : List Row} (h : rs0.Perm rs) {ln : List Nat} {rq : Nat → Rq} {o : Nat} : blkC tm rs0 ln rq o = blkC tm rs ln rq o := by
  funext j
  unfold blkC lockAg rngAg
  rw [any_perm h]
theorem blkM_perm {st : Nat → Nat} {tm : Nat → Nat → Option Nat} {rs0 rs : List Row} (h : rs0.Perm rs) {rq : Nat → Rq} {cm : Nat → Nat} {o : Nat} : blkM st tm rs0 rq cm o = blkM st tm rs rq cm o := by
  funext j
  unfold blkM lockAg rngAg
  rw [any_perm h]
def blockersC (qc : QC) (a : CA) (o : Int32) : Option Int32 := F_T_blockers a.2.2.1 a.2.2.2.1 a.2.2.2.2.1 a.2.2.2.2.2.1 a.2.2.2.2.2.2.1 a.2.2.2.2.2.2.2.1 qc.1 qc.2.1 qc.2.2.1 qc.2.2.2.1 qc.2.2.2.2.1 a.2.2.2.2.2.2.2.2.1 a.2.2.2.2.2.2.2.2.2.2.1 a.2.2.2.2.2.2.2.2.2.2.2 o
theorem p_blockersC {qc : QC} {qm : QM} {rq : Nat → Rq} {cm : Nat → Nat} {a : CA} {st : Nat → Nat} {tm : Nat → Nat → Option Nat} {rs : List Row} {ln gr : List Nat} (h : InvQ qc qm rq cm st ln) (S : CSa a st tm rs ln gr) {o : Nat} (ho : o ∈ ln) : blockersC qc a (nI o) = some (nI (bm (blkC tm rs ln rq o) 8)) := by
  obtain ⟨s1, s2, ⟨rs0, s3, s4, s5⟩, ⟨s6, s7⟩, s8, s9⟩ := S
  unfold blockersC
  rw [s4, s7, p_blockers s3 s2 s6 h.2.2.1 ho, blkC_perm s5]
def behindM (qm : QM) (b : MA) (o : Int32) : Option Int32 := F_M_behindOf b.1 b.2.1 b.2.2.1 b.2.2.2.1 b.2.2.2.2.1 b.2.2.2.2.2.1 b.2.2.2.2.2.2.1 b.2.2.2.2.2.2.2.1 qm.1 qm.2.1 qm.2.2.1 qm.2.2.2.1 qm.2.2.2.2.1 qm.2.2.2.2.2.1 qm.2.2.2.2.2.2 o
theorem p_behindM {qc : QC} {qm : QM} {rq : Nat → Rq} {cm : Nat → Nat} {b : MA} {st : Nat → Nat} {tm : Nat → Nat → Option Nat} {rs : List Row} {ln gr : List Nat} (h : InvQ qc qm rq cm st ln) (S : MSa b st tm rs gr) {o : Nat} (ho : o < 8) : behindM qm b (nI o) = some (nI (if st o = 2 then bm (blkC tm rs ln rq o) 8 else 0)) := by
  obtain ⟨s1, s2, ⟨rs0, s3, s4, s5⟩, s8, s9⟩ := S
  unfold behindM
  rw [s4, p_behindOf s1 s3 s2 h.2.2.2.1 ho, blkM_perm s5]
  by_cases q : st o = 2
  · rw [if_pos q, if_pos q, blk_eq h.1 ((h.1.2.1 o).mpr ⟨ho, q⟩)]
  · rw [if_neg q, if_neg q]
