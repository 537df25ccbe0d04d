/-! queries over rows: the reference -/
theorem p_rangesOf {low lta : Nat → Int32} {llo lhi : Nat → Int64} {lmo : Nat → Int32} {rs : List Row} (h : rowsAt low lta llo lhi lmo rs) {o t : Nat} (ho : o < 8) (ht : t < 16) : F_M_rangesOf (nI rs.length) low lta (nI o) (nI t) = some (nI (rs.countP (isOnB o t))) := by
  unfold F_M_rangesOf
  have hl := h.1
  have key := p_scan rs (fun m a i => F_M_rangesOf_L5 (nI rs.length) low lta (nI o) (nI t) m (nI a) i) (fun a r => if isOnB o t r then a + 1 else a) (fun a => some (nI a)) (fun _ => True) (fun m a _ => by
      show F_M_rangesOf_L5 _ _ _ _ _ (m + 1) _ _ = _
      rw [F_M_rangesOf_L5, if_pos (by exact Int32.le_refl _)]) (fun m a k r _ hr => by
      refine ⟨trivial, ?_⟩
      obtain ⟨hk, hk2, ⟨h1, h2, h3⟩, e1, e2, e3, e4, e5⟩ := h.at hr
      show F_M_rangesOf_L5 _ _ _ _ _ (m + 1) _ _ = F_M_rangesOf_L5 _ _ _ _ _ m _ _
      have c1 : nI r.2.1 = nI t ↔ r.2.1 = t := nI_eq (by omega) (by omega)
      have c2 : nI r.1 = nI o ↔ r.1 = o := nI_eq (by omega) (by omega)
      rw [F_M_rangesOf_L5, if_neg (nI_ge hk2 (by omega))]
      simp only [nI_clamp (show k < 2 ^ 31 by omega), pz_gd2 hk (show 256 < 2 ^ 31 by omega), e1, e2, c1, c2, nI_1]
      by_cases q1 : r.1 = o <;> by_cases q2 : r.2.1 = t <;> simp [isOnB, q1, q2]) (m := fu) (a := 0) (fu_lt (by omega)) trivial
  rw [← nI_0] at key ⊢
  rw [key]
  simp only [ob1_s]
  refine congrArg (fun z => some (nI z)) ?_
  rw [List.countP_eq_length_filter]
  have gen : ∀ (l : List Row) (a : Nat), l.foldl (fun a r => if isOnB o t r then a + 1 else a) a = a + (l.filter (isOnB o t)).length := by
    intro l
    induction l with
    | nil => intro a; rfl
    | cons x l ih =>
      intro a
      rw [List.foldl_cons, ih, List.filter_cons]
      cases isOnB o t x with
      | true => simp; omega
      | false => simp
  rw [gen]
  omega
/-- a scan that keeps a yes -/
theorem fold_or {ρ : Type} (P : ρ → Bool) : ∀ (l : List ρ) (a : Bool), l.foldl (fun a r => a || P r) a = (a || l.any P) := by
  intro l
  induction l with
  | nil => intro a; simp
  | cons x l ih => intro a; rw [List.foldl_cons, ih, List.any_cons, Bool.or_assoc]
theorem p_writes {low lta : Nat → Int32} {llo lhi : Nat → Int64} {lmo : Nat → Int32} {rs : List Row} (h : rowsAt low lta llo lhi lmo rs) {o t : Nat} (ho : o < 8) (ht : t < 16) : F_M_writesRanges (nI rs.length) low lta lmo (nI o) (nI t) = some (b2i (rs.any (fun r => isOnB o t r && r.2.2.2.2 != 2))) := by
  unfold F_M_writesRanges
  have hl := h.1
  have key := p_scan rs (fun m a i => F_M_writesRanges_L5 (nI rs.length) low lta lmo (nI o) (nI t) m (b2i a) i) (fun a r => a || (isOnB o t r && r.2.2.2.2 != 2)) (fun a => some (b2i a)) (fun _ => True) (fun m a _ => by
      show F_M_writesRanges_L5 _ _ _ _ _ _ (m + 1) _ _ = _
      rw [F_M_writesRanges_L5, if_pos (by exact Int32.le_refl _)]) (fun m a k r _ hr => by
      refine ⟨trivial, ?_⟩
      obtain ⟨hk, hk2, ⟨h1, h2, h3⟩, e1, e2, e3, e4, e5⟩ := h.at hr
      show F_M_writesRanges_L5 _ _ _ _ _ _ (m + 1) _ _ = F_M_writesRanges_L5 _ _ _ _ _ _ m _ _
      have c1 : nI r.2.1 = nI t ↔ r.2.1 = t := nI_eq (by omega) (by omega)
      have c2 : nI r.1 = nI o ↔ r.1 = o := nI_eq (by omega) (by omega)
      have c3 : nI r.2.2.2.2 = 2 ↔ r.2.2.2.2 = 2 := nI_eq (b := 2) (by omega) (by omega)
      rw [F_M_writesRanges_L5, if_neg (nI_ge hk2 (by omega))]
      simp only [jn1, jn0, nI_clamp (show k < 2 ^ 31 by omega), pz_gd2 hk (show 256 < 2 ^ 31 by omega), e1, e2, e5, c1, c2, c3, nI_1, p_b0]
      cases a <;> by_cases q1 : r.1 = o <;> by_cases q2 : r.2.1 = t <;> by_cases q3 : r.2.2.2.2 = 2 <;> simp [isOnB, q1, q2, q3, b2i]) (m := fu) (a := false) (fu_lt (by omega)) trivial
  rw [show (0 : Int32) = b2i false from rfl] at *
  simp only [show b2i false = (0 : Int32) from rfl] at key ⊢
  rw [key]
  simp only [ob1_s]
  rw [fold_or, Bool.false_or]
  cases rs.any (fun r => isOnB o t r && r.2.2.2.2 != 2) <;> decide
/-- the requests: kind (0 table, 1 range, 2 escalation), table, mode, low, high, inner -/
abbrev Rq : Type := Nat × Nat × Nat × Int64 × Int64 × Bool
def rqOk (q : Rq) : Prop := q.1 < 3 ∧ q.2.1 < 16 ∧ q.2.2.1 < 6
def rqAtM (mwk mwt mwm : Nat → Int32) (mwl mwh : Nat → Int64) (mwi : Nat → Int32) (o : Nat) (q : Rq) : Prop := rqOk q ∧ mwk o = nI q.1 ∧ mwt o = nI q.2.1 ∧ mwm o = nI q.2.2.1 ∧ (q.1 = 1 → mwl o = q.2.2.2.1 ∧ mwh o = q.2.2.2.2.1) ∧ mwi o = b2i q.2.2.2.2.2
def ntog (m : Nat) (h : Option Nat) : Bool := match h with
  | none => false
  | some a => !tog m a
theorem p_mAgT {mwk mwt mwm : Nat → Int32} {mwl mwh : Nat → Int64} {mwi : Nat → Int32} {o : Nat} {q : Rq} (h : rqAtM mwk mwt mwm mwl mwh mwi o q) (ho : o < 8) {j t : Nat} (hj : j < 8) (ht : t < 16) {m : Option Nat} (hm : ∀ a, m = some a → a < 6) : F_M_againstTable mwk mwt mwm (nI o) (nI j) (nI t) (mI m) = some (b2i (o != j && (q.1 != 1 && (q.2.1 == t && ntog q.2.2.1 m)))) := by
  obtain ⟨⟨k1, k2, k3⟩, e1, e2, e3, -, -⟩ := h
  unfold F_M_againstTable
  have c0 : nI o = nI j ↔ o = j := nI_eq (by omega) (by omega)
  have c1 : nI q.1 = 1 ↔ q.1 = 1 := nI_eq (b := 1) (by omega) (by omega)
  have c2 : nI q.2.1 = nI t ↔ q.2.1 = t := nI_eq (by omega) (by omega)
  simp only [nI_clamp (show o < 2 ^ 31 by omega), pz_gd2 ho (show 8 < 2 ^ 31 by omega), e1, e2, e3, c0, c1, c2]
  cases m with
  | none =>
    have c3 : mI none < 0 := by decide
    by_cases q0 : o = j <;> by_cases q1 : q.1 = 1 <;> by_cases q2 : q.2.1 = t <;> simp [q0, q1, q2, c3, b2i, ntog]
  | some a =>
    have ha := hm a rfl
    have c3 : ¬ mI (some a) < 0 := nI_pos (by omega)
    have c4 : F_M_together (nI q.2.2.1) (mI (some a)) = some (b2i (tog q.2.2.1 a)) := p_together _ k3 _ ha
    simp only [c4, ob1_s, p_b0]
    by_cases q0 : o = j <;> by_cases q1 : q.1 = 1 <;> by_cases q2 : q.2.1 = t <;> rcases Bool.eq_false_or_eq_true (tog q.2.2.1 a) with hb | hb <;> simp [q0, q1, q2, c3, b2i, hb, ntog]
theorem p_mAgR {mwk mwt mwm : Nat → Int32} {mwl mwh : Nat → Int64} {mwi : Nat → Int32} {o : Nat} {q : Rq} (h : rqAtM mwk mwt mwm mwl mwh mwi o q) (ho : o < 8) {j t m : Nat} (hj : j < 8) (ht : t < 16) (hm : m < 6) (lo hi : Int64) : F_M_againstRange mwk mwt mwm mwl mwh (nI o) (nI j) (nI t) (nI m) lo hi = some (b2i (o != j && (q.1 == 1 && (q.2.1 == t && (decide (q.2.2.2.1 ≤ hi) && decide (lo ≤ q.2.2.2.2.1)) && !tog q.2.2.1 m)))) := by
  obtain ⟨⟨k1, k2, k3⟩, e1, e2, e3, e4, -⟩ := h
  unfold F_M_againstRange
  have c0 : nI o = nI j ↔ o = j := nI_eq (by omega) (by omega)
  have c1 : nI q.1 = 1 ↔ q.1 = 1 := nI_eq (b := 1) (by omega) (by omega)
  have c2 : nI q.2.1 = nI t ↔ q.2.1 = t := nI_eq (by omega) (by omega)
  simp only [jn1, jn0, nI_clamp (show o < 2 ^ 31 by omega), pz_gd2 ho (show 8 < 2 ^ 31 by omega), e1, e2, e3, c0, c1, c2, p_together _ k3 _ hm, ob1_s, p_b0, lg_cmp_gt]
  by_cases q1 : q.1 = 1
  · obtain ⟨e5, e6⟩ := e4 q1
    rw [e5, e6]
    by_cases q3 : hi < q.2.2.2.1
    · have q3' : ¬ q.2.2.2.1 ≤ hi := Int64.not_le.mpr q3
      by_cases q0 : o = j <;> by_cases q2 : q.2.1 = t <;> simp [q0, q1, q2, q3, q3', b2i]
    · have q3' : q.2.2.2.1 ≤ hi := Int64.not_lt.mp q3
      by_cases q4 : q.2.2.2.2.1 < lo
      · have q4' : ¬ lo ≤ q.2.2.2.2.1 := Int64.not_le.mpr q4
        by_cases q0 : o = j <;> by_cases q2 : q.2.1 = t <;> simp [q0, q1, q2, q3, q3', q4, q4', b2i]
      · have q4' : lo ≤ q.2.2.2.2.1 := Int64.not_lt.mp q4
        by_cases q0 : o = j <;> by_cases q2 : q.2.1 = t <;> rcases Bool.eq_false_or_eq_true (tog q.2.2.1 m) with hb | hb <;> simp [q0, q1, q2, q3, q3', q4, q4', b2i, hb]
  · by_cases q0 : o = j <;> simp [q0, q1, b2i]
def lockAg (tm : Nat → Nat → Option Nat) (rs : List Row) (q : Rq) (o j : Nat) : Bool := if q.1 = 1 then rngAg rs o q.2.1 q.2.2.2.1 q.2.2.2.2.1 q.2.2.1 j else tabAg tm o q.2.1 q.2.2.1 j
