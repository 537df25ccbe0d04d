/-! grant of the reference; the order of the line -/
theorem any_perm {ρ : Type} {a b : List ρ} (h : a.Perm b) (P : ρ → Bool) : a.any P = b.any P := by
  rw [Bool.eq_iff_iff, List.any_eq_true, List.any_eq_true]
  constructor
  · rintro ⟨x, h1, h2⟩; exact ⟨x, h.mem_iff.mp h1, h2⟩
  · rintro ⟨x, h1, h2⟩; exact ⟨x, h.mem_iff.mpr h1, h2⟩
theorem p_grantM {mst mmo : Nat → Int32} {mrc : Int32} {mro mrt mrm : Nat → Int32} {mrl mrh : Nat → Int64} {mgr : Int32} {mgo : Nat → Int32} {st : Nat → Nat} {tm : Nat → Nat → Option Nat} {rs : List Row} {gr : List Nat} {mwk mwt mwm : Nat → Int32} {mwl mwh : Nat → Int64} {mwi : Nat → Int32} {rq : Nat → Rq} (S : MS mst mmo mrc mro mrt mrm mrl mrh mgr mgo st tm rs gr) {o : Nat} (hq : rqAtM mwk mwt mwm mwl mwh mwi o (rq o)) (hqr : rqR (rq o)) (ho : o < 8) (hrs : (rq o).1 = 1 → rs.length < 256) (fr : Int32) :
    ∃ (mst' mmo' : Nat → Int32) (mrc' : Int32) (mro' mrt' mrm' : Nat → Int32) (mrl' mrh' : Nat → Int64), F_M_grant mst mmo mrc mro mrt mrm mrl mrh mwk mwt mwm mwl mwh fr (nI o) = some (mst', mmo', mrc', mro', mrt', mrm', mrl', mrh', if (rq o).1 == 2 && rs.any (isOnB o (rq o).2.1) then 1 else fr) ∧ MS mst' mmo' mrc' mro' mrt' mrm' mrl' mrh' mgr mgo (stSet st o 1) (gTm rq o tm) (gRs rq o rs) gr := by
  obtain ⟨s1, s2, ⟨rs0, s3, s4, s5⟩, s8⟩ := S
  subst s4
  obtain ⟨⟨k1, k2, k3⟩, f1, f2, f4, f3, -⟩ := hq
  have hlen : rs0.length = rs.length := s5.length_eq
  have hst : stAt (upd mst o 1) (stSet st o 1) := s1.set (v := 1) (by omega)
  have c1 : nI (rq o).1 = 1 ↔ (rq o).1 = 1 := nI_eq (b := 1) (by omega) (by omega)
  have c2 : nI (rq o).1 = 2 ↔ (rq o).1 = 2 := nI_eq (b := 2) (by omega) (by omega)
  unfold F_M_grant
  simp only [nI_clamp (show o < 2 ^ 31 by omega), pz_gd2 ho (show 8 < 2 ^ 31 by omega), f1, f2, f4, c1, c2, p_ixM ho k2, nI_clamp (show 16 * o + (rq o).2.1 < 2 ^ 31 by omega), pz_gd2 (show 16 * o + (rq o).2.1 < 128 by omega) (show 128 < 2 ^ 31 by omega)]
  by_cases q : (rq o).1 = 1
  · obtain ⟨g1, g2⟩ := f3 q
    have q2 : ((rq o).1 == 2) = false := by simp [q]
    have hn : rs0.length < 256 := by rw [hlen]; exact hrs q
    rw [if_pos q, q2, g1, g2]
    simp only [nI_clamp (show rs0.length < 2 ^ 31 by omega), pz_gd2 hn (show 256 < 2 ^ 31 by omega), nI_1, Bool.false_and]
    refine ⟨_, _, _, _, _, _, _, _, rfl, hst, ?_, ⟨_, rows_add s3 hn (r := (o, (rq o).2.1, (rq o).2.2.2.1, (rq o).2.2.2.2.1, (rq o).2.2.1)) ⟨ho, k2, hqr q⟩, ?_, ?_⟩, s8⟩
    · unfold gTm; rw [if_pos q]; exact s2
    · rw [List.length_append, List.length_singleton]
    · unfold gRs; rw [if_pos q]; exact s5.append_right _
  · rw [if_neg q]
    have htm : tmAt (upd mmo (16 * o + (rq o).2.1) (nI (rq o).2.2.1)) (gTm rq o tm) := by
      unfold gTm
      rw [if_neg q]
      exact s2.set ho k2 (m := some (rq o).2.2.1) (fun a ha => by cases ha; exact k3)
    by_cases q2 : (rq o).1 = 2
    · obtain ⟨low', lta', llo', lhi', lmo', rs', d1, d2, d3⟩ := p_mDropRanges s3 ho k2 fr
      have q2' : ((rq o).1 == 2) = true := by simpa using q2
      rw [if_pos q2, q2', d1, ob7_s, any_perm s5]
      refine ⟨_, _, _, _, _, _, _, _, rfl, hst, htm, ⟨rs', d2, rfl, ?_⟩, s8⟩
      unfold gRs
      rw [if_neg q, if_pos q2]
      exact d3.trans (s5.filter _)
    · have q2' : ((rq o).1 == 2) = false := by simpa using q2
      rw [if_neg q2, q2']
      refine ⟨_, _, _, _, _, _, _, _, rfl, hst, htm, ⟨rs0, s3, rfl, ?_⟩, s8⟩
      unfold gRs
      rw [if_neg q, if_neg q2]
      exact s5
/-- the line holds those that wait, in the order -/
def ordL (st : Nat → Nat) (rq : Nat → Rq) (cm : Nat → Nat) (ln : List Nat) : Prop := ln.Nodup ∧ (∀ o, o ∈ ln ↔ o < 8 ∧ st o = 2) ∧ ln.Pairwise (fun a b => bef rq cm a b = true)
def cmInj (st : Nat → Nat) (cm : Nat → Nat) : Prop := ∀ a b, a < 8 → b < 8 → st a = 2 → st b = 2 → cm a = cm b → a = b
theorem bef_asymm {rq : Nat → Rq} {cm : Nat → Nat} {a b : Nat} (h : bef rq cm a b = true) : bef rq cm b a = false := by
  unfold bef at h ⊢
  by_cases q : (rq a).2.2.2.2.2 = (rq b).2.2.2.2.2
  · rw [if_pos q] at h
    rw [if_pos q.symm]
    have : cm a < cm b := of_decide_eq_true h
    exact decide_eq_false (by omega)
  · rw [if_neg q] at h
    rw [if_neg (fun e => q e.symm)]
    cases hb : (rq b).2.2.2.2.2 with
    | false => rfl
    | true => exact absurd (h.trans hb.symm) q
theorem bef_irrefl {rq : Nat → Rq} {cm : Nat → Nat} {a : Nat} : bef rq cm a a = false := by
  unfold bef
  rw [if_pos rfl]
  exact decide_eq_false (by omega)
theorem takeWhile_before {R : Nat → Nat → Prop} : ∀ (ln : List Nat) (o : Nat), o ∈ ln → ln.Pairwise R → (∀ a b, R a b → ¬ R b a) → ∀ j, (j ∈ ln.takeWhile (fun x => !(x == o))) ↔ (j ∈ ln ∧ R j o) := by
  intro ln
  induction ln with
  | nil => intro o ho; cases ho
  | cons x l ih =>
    intro o ho hp has j
    obtain ⟨h1, h2⟩ := List.pairwise_cons.mp hp
    rw [List.takeWhile_cons]
    by_cases q : x = o
    · subst q
      simp only [beq_self_eq_true, Bool.not_true]
      rw [if_neg (by decide)]
      constructor
      · intro h; cases h
      · rintro ⟨ha, hb⟩
        rcases List.mem_cons.mp ha with rfl | ha
        · exact absurd hb (has _ _ hb)
        · exact absurd hb (has _ _ (h1 j ha))
    · have hol : o ∈ l := by
        rcases List.mem_cons.mp ho with h | h
        · exact absurd h.symm q
        · exact h
      have hx : (!(x == o)) = true := by simpa using q
      rw [hx, if_pos rfl, List.mem_cons, List.mem_cons, ih o hol h2 has j]
      constructor
      · rintro (rfl | ⟨ha, hb⟩)
        · exact ⟨Or.inl rfl, h1 o hol⟩
        · exact ⟨Or.inr ha, hb⟩
      · rintro ⟨rfl | ha, hb⟩
        · exact Or.inl rfl
        · exact Or.inr ⟨ha, hb⟩
theorem lockAg_ne {tm : Nat → Nat → Option Nat} {rs : List Row} {q : Rq} {o : Nat} : lockAg tm rs q o o = false := by
  unfold lockAg
  by_cases h : q.1 = 1
  · rw [if_pos h]
    unfold rngAg
    apply List.any_eq_false.mpr
    intro r _
    unfold rowAg
    by_cases q1 : r.1 = o
    · simp [q1]
    · have : (r.1 == o) = false := by simpa using q1
      rw [this, Bool.and_false]
      decide
  · rw [if_neg h]
    unfold tabAg
    simp
theorem blk_eq {st : Nat → Nat} {tm : Nat → Nat → Option Nat} {rs : List Row} {rq : Nat → Rq} {cm : Nat → Nat} {ln : List Nat} (h : ordL st rq cm ln) {o : Nat} (ho : o ∈ ln) : bm (blkC tm rs ln rq o) 8 = bm (blkM st tm rs rq cm o) 8 := by
  obtain ⟨h1, h2, h3⟩ := h
  apply bm_ext
  intro j hj
  unfold blkC blkM
  have key := takeWhile_before (R := fun a b => bef rq cm a b = true) ln o ho h3 (fun a b q => by rw [bef_asymm q]; decide) j
  by_cases q : j = o
  · subst q
    rw [lockAg_ne]
    have hc : (ln.takeWhile (fun x => !(x == j))).contains j = false := by
      rw [← Bool.not_eq_true, List.contains_iff_mem, key]
      rintro ⟨_, hb⟩
      rw [bef_irrefl] at hb
      cases hb
    rw [hc]
    simp
  · have q1 : (j != o) = true := by simpa using q
    rw [q1, Bool.true_and]
    congr 1
    have hc : (ln.takeWhile (fun x => !(x == o))).contains j = (st j == 2 && bef rq cm j o) := by
      rw [Bool.eq_iff_iff, List.contains_iff_mem, key, h2 j]
      simp [hj]
    rw [hc, Bool.and_assoc]
