/-! states, rows, line and grants together; grant -/
theorem nodup_len : ∀ (n : Nat) (l : List Nat), l.Nodup → (∀ x ∈ l, x < n) → l.length ≤ n := by
  intro n
  induction n with
  | zero =>
    intro l _ h
    cases l with
    | nil => exact Nat.le_refl _
    | cons x l => exact absurd (h x List.mem_cons_self) (by omega)
  | succ n ih =>
    intro l hd h
    have h1 : (l.filter (fun x => !(x == n))).length ≤ n := ih _ (hd.filter _) (fun x hx => by
      obtain ⟨a, b⟩ := List.mem_filter.mp hx
      have := h x a
      have : ¬ x = n := by simpa using b
      omega)
    have h2 : l.length ≤ (l.filter (fun x => !(x == n))).length + 1 := by
      clear ih h h1
      induction l with
      | nil => simp
      | cons x l ih2 =>
        obtain ⟨ha, hb⟩ := List.nodup_cons.mp hd
        by_cases q : x = n
        · subst q
          have : l.filter (fun y => !(y == x)) = l := List.filter_eq_self.mpr (fun y hy => by
            have : ¬ y = x := fun e => ha (e ▸ hy)
            simpa using this)
          rw [List.filter_cons]
          simp [this]
        · have := ih2 hb
          rw [List.filter_cons]
          simp [q]
          exact this
    omega
def grAt (a : Nat → Int32) (gr : List Nat) : Prop := ∀ k x, gr[k]? = some x → a k = nI x
theorem grAt.push {a : Nat → Int32} {gr : List Nat} (h : grAt a gr) (x : Nat) : grAt (upd a gr.length (nI x)) (gr ++ [x]) := by
  intro k y hy
  unfold upd
  by_cases q : k = gr.length
  · rw [if_pos q]
    rw [q, List.getElem?_append_right (Nat.le_refl _), Nat.sub_self] at hy
    cases hy
    rfl
  · rw [if_neg q]
    have hk : k < (gr ++ [x]).length := (List.getElem?_eq_some_iff.mp hy).1
    rw [List.length_append, List.length_singleton] at hk
    rw [List.getElem?_append_left (by omega)] at hy
    exact h k y hy
def stSet (st : Nat → Nat) (o v : Nat) : Nat → Nat := fun x => if x = o then v else st x
theorem stAt.set {a : Nat → Int32} {st : Nat → Nat} (h : stAt a st) {o v : Nat} (hv : v < 5) : stAt (upd a o (nI v)) (stSet st o v) := by
  intro x hx
  unfold upd stSet
  by_cases q : x = o
  · rw [if_pos q, if_pos q]; exact ⟨rfl, hv⟩
  · rw [if_neg q, if_neg q]; exact h x hx
def rowsP (ow ta : Nat → Int32) (lo hi : Nat → Int64) (mo : Nat → Int32) (n : Int32) (rs : List Row) : Prop := ∃ rs0, rowsAt ow ta lo hi mo rs0 ∧ n = nI rs0.length ∧ rs0.Perm rs
/-- the class's moving parts -/
def CS (xst xgr ltm low lta : Nat → Int32) (llo lhi : Nat → Int64) (lmo rli : Nat → Int32) (xgc lco rwa : Int32) (st : Nat → Nat) (tm : Nat → Nat → Option Nat) (rs : List Row) (ln gr : List Nat) : Prop := stAt xst st ∧ tmAt ltm tm ∧ rowsP low lta llo lhi lmo lco rs ∧ (lnAt rli ln ∧ rwa = nI ln.length) ∧ (grAt xgr gr ∧ xgc = nI gr.length)
/-- the reference's -/
def MS (mst mmo : Nat → Int32) (mrc : Int32) (mro mrt mrm : Nat → Int32) (mrl mrh : Nat → Int64) (mgr : Int32) (mgo : Nat → Int32) (st : Nat → Nat) (tm : Nat → Nat → Option Nat) (rs : List Row) (gr : List Nat) : Prop := stAt mst st ∧ tmAt mmo tm ∧ rowsP mro mrt mrl mrh mrm mrc rs ∧ (grAt mgo gr ∧ mgr = nI gr.length)
/-- what a grant does -/
def gTm (rq : Nat → Rq) (o : Nat) (tm : Nat → Nat → Option Nat) : Nat → Nat → Option Nat := if (rq o).1 = 1 then tm else tmSet tm o (rq o).2.1 (some (rq o).2.2.1)
def gRs (rq : Nat → Rq) (o : Nat) (rs : List Row) : List Row := if (rq o).1 = 1 then rs ++ [(o, (rq o).2.1, (rq o).2.2.2.1, (rq o).2.2.2.2.1, (rq o).2.2.1)] else if (rq o).1 = 2 then rs.filter (fun r => !isOnB o (rq o).2.1 r) else rs
def gGr (ca : Int32) (o : Nat) (gr : List Nat) : List Nat := if nI o = ca then gr else gr ++ [o]
def gLn (o : Nat) (ln : List Nat) : List Nat := ln.filter (fun x => !(x == o))
/-- a range request is for S, U or X -/
def rqR (q : Rq) : Prop := q.1 = 1 → (q.2.2.1 = 2 ∨ q.2.2.1 = 4 ∨ q.2.2.1 = 5)
theorem rows_add {ow ta : Nat → Int32} {lo hi : Nat → Int64} {mo : Nat → Int32} {rs : List Row} (h : rowsAt ow ta lo hi mo rs) (hl : rs.length < 256) {r : Row} (hr : rowOk r) : rowsAt (upd ow rs.length (nI r.1)) (upd ta rs.length (nI r.2.1)) (vp_updL lo rs.length r.2.2.1) (vp_updL hi rs.length r.2.2.2.1) (upd mo rs.length (nI r.2.2.2.2)) (rs ++ [r]) := by
  obtain ⟨h1, h2, h3⟩ := h
  refine ⟨by rw [List.length_append, List.length_singleton]; omega, fun x hx => ?_, fun k x hx => ?_⟩
  · rcases List.mem_append.mp hx with q | q
    · exact h2 x q
    · rw [List.mem_singleton.mp q]; exact hr
  · unfold upd vp_updL
    by_cases q : k = rs.length
    · simp only [if_pos q]
      rw [q, List.getElem?_append_right (Nat.le_refl _), Nat.sub_self] at hx
      cases hx
      exact ⟨rfl, rfl, rfl, rfl, rfl⟩
    · simp only [if_neg q]
      have hk : k < (rs ++ [r]).length := (List.getElem?_eq_some_iff.mp hx).1
      rw [List.length_append, List.length_singleton] at hk
      rw [List.getElem?_append_left (by omega)] at hx
      exact h3 k x hx
theorem p_addRange {low lta : Nat → Int32} {llo lhi : Nat → Int64} {lmo : Nat → Int32} {n o t m : Nat} (hn : n < 256) (lo hi : Int64) : F_L_addRange low lta llo lhi lmo (nI n) (nI o) (nI t) lo hi (nI m) = some (upd low n (nI o), upd lta n (nI t), vp_updL llo n lo, vp_updL lhi n hi, upd lmo n (nI m), nI (n + 1)) := by
  unfold F_L_addRange
  rw [if_neg (show ¬ (256 : Int32) ≤ nI n from nI_ge (b := 256) hn (by omega))]
  simp only [nI_clamp (show n < 2 ^ 31 by omega), pz_gd2 hn (show 256 < 2 ^ 31 by omega), nI_1]
theorem filter_isOn_perm {rs0 rs : List Row} (h : rs0.Perm rs) (o t : Nat) : (rs0.filter (fun r => !isOnB o t r)).Perm (rs.filter (fun r => !isOnB o t r)) := h.filter _
theorem p_grantC {xst xgr ltm low lta : Nat → Int32} {llo lhi : Nat → Int64} {lmo rli : Nat → Int32} {xgc lco rwa : Int32} {st : Nat → Nat} {tm : Nat → Nat → Option Nat} {rs : List Row} {ln gr : List Nat} {rta ron : Nat → Int32} {rlo rhi : Nat → Int64} {rmo rin res : Nat → Int32} {rq : Nat → Rq} (S : CS xst xgr ltm low lta llo lhi lmo rli xgc lco rwa st tm rs ln gr) {o : Nat} (hq : rqAtC rta ron rlo rhi rmo rin res o (rq o)) (hqr : rqR (rq o)) (ho : o < 8) (hg : gr.length < 8) (hrs : (rq o).1 = 1 → rs.length < 256) (xca : Int32) :
    ∃ (xst' xgr' ltm' low' lta' : Nat → Int32) (llo' lhi' : Nat → Int64) (lmo' rli' : Nat → Int32) (xgc' lco' rwa' : Int32), F_T_grant xst xgr ltm low lta llo lhi lmo rta ron rlo rhi rmo res rli xgc xca lco rwa (nI o) = some (b2i ((rq o).1 == 2), xst', xgr', ltm', low', lta', llo', lhi', lmo', rli', xgc', lco', rwa') ∧ CS xst' xgr' ltm' low' lta' llo' lhi' lmo' rli' xgc' lco' rwa' (stSet st o 1) (gTm rq o tm) (gRs rq o rs) (gLn o ln) (gGr xca o gr) := by
  obtain ⟨s1, s2, ⟨rs0, s3, s4, s5⟩, ⟨s6, s7⟩, s8, s9⟩ := S
  subst s4 s7 s9
  obtain ⟨⟨k1, k2, k3⟩, f1, f2, f5, f4, f3, -⟩ := hq
  obtain ⟨rli', e1, e2⟩ := p_leave s6 ho
  have hlen : rs0.length = rs.length := s5.length_eq
  obtain ⟨xgr', xgc', hJ, hJ2⟩ : ∃ (xgr' : Nat → Int32) (xgc' : Int32), (∀ {Z : Type} (T : (Nat → Int32) → Int32 → Option Z), jn2 T (fun J => if nI o = xca then J xgr (nI gr.length) else if 8 ≤ nI gr.length then J xgr (nI gr.length) else gd (nI gr.length < 0 ∨ 8 ≤ (nI gr.length).toNatClampNeg) (J (upd xgr (nI gr.length).toNatClampNeg (nI o)) (nI gr.length + 1))) = T xgr' xgc') ∧ grAt xgr' (gGr xca o gr) ∧ xgc' = nI (gGr xca o gr).length := by
    unfold gGr
    by_cases q : nI o = xca
    · exact ⟨xgr, nI gr.length, fun J => by simp only [jn2]; rw [if_pos q], by rw [if_pos q]; exact ⟨s8, rfl⟩⟩
    · refine ⟨upd xgr gr.length (nI o), nI (gr.length + 1), fun J => ?_, ?_⟩
      · simp only [jn2]
        rw [if_neg q, if_neg (show ¬ (8 : Int32) ≤ nI gr.length from nI_ge (b := 8) hg (by omega)), pz_gd hg (by omega), nI_clamp (by omega), nI_1]
      · rw [if_neg q]
        exact ⟨s8.push o, by rw [List.length_append, List.length_singleton]⟩
  have hst : stAt (upd xst o 1) (stSet st o 1) := s1.set (v := 1) (by omega)
  unfold F_T_grant
  rw [e1]
  simp only [ob2_s]
  rw [pz_gd ho (by omega), hJ]
  simp only [nI_clamp (show o < 2 ^ 31 by omega), pz_gd2 ho (show 8 < 2 ^ 31 by omega), f1, f2, f4, f5, p_b0, p_setTable ho k2, ob1_s]
  by_cases q : (rq o).1 = 1
  · obtain ⟨g1, g2⟩ := f3 q
    have q2 : ((rq o).1 == 2) = false := by simp [q]
    rw [if_pos (by simpa using q), g1, g2, p_addRange (by rw [hlen]; exact hrs q), ob6_s, q2]
    refine ⟨_, _, _, _, _, _, _, _, _, _, _, _, rfl, hst, ?_, ⟨_, rows_add s3 (by rw [hlen]; exact hrs q) (r := (o, (rq o).2.1, (rq o).2.2.2.1, (rq o).2.2.2.2.1, (rq o).2.2.1)) ⟨ho, k2, hqr q⟩, ?_, ?_⟩, ⟨e2, rfl⟩, hJ2⟩
    · unfold gTm; rw [if_pos q]; exact s2
    · rw [List.length_append, List.length_singleton]
    · unfold gRs; rw [if_pos q]; exact s5.append_right _
  · rw [if_neg (by simpa using q)]
    have htm : tmAt (upd ltm (16 * o + (rq o).2.1) (nI (rq o).2.2.1)) (gTm rq o tm) := by
      unfold gTm
      rw [if_neg q]
      exact s2.set ho k2 (m := some (rq o).2.2.1) (fun a ha => by cases ha; exact k3)
    by_cases q2 : (rq o).1 = 2
    · obtain ⟨low', lta', llo', lhi', lmo', rs', d1, d2, d3⟩ := p_dropRanges s3 ho k2
      have q2' : ((rq o).1 == 2) = true := by simpa using q2
      rw [q2', if_pos rfl, d1, ob6_s]
      refine ⟨_, _, _, _, _, _, _, _, _, _, _, _, rfl, hst, htm, ⟨rs', d2, rfl, ?_⟩, ⟨e2, rfl⟩, hJ2⟩
      unfold gRs
      rw [if_neg q, if_pos q2]
      exact d3.trans (s5.filter _)
    · have q2' : ((rq o).1 == 2) = false := by simpa using q2
      rw [q2', if_neg (by decide)]
      refine ⟨_, _, _, _, _, _, _, _, _, _, _, _, rfl, hst, htm, ⟨rs0, s3, rfl, ?_⟩, ⟨e2, rfl⟩, hJ2⟩
      unfold gRs
      rw [if_neg q, if_neg q2]
      exact s5
