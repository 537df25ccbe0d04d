/-! who is behind whom: the reference -/
theorem bm_or (P Q : Nat → Bool) (n : Nat) : bm P n ||| bm Q n = bm (fun j => P j || Q j) n := by
  apply bm_of
  intro j
  rw [Nat.testBit_or, bm_bit, bm_bit]
  cases decide (j < n) <;> simp
def stAt (a : Nat → Int32) (st : Nat → Nat) : Prop := ∀ o, o < 8 → a o = nI (st o) ∧ st o < 5
theorem stAt.eq {a : Nat → Int32} {st : Nat → Nat} (h : stAt a st) {o k : Nat} (ho : o < 8) (hk : k < 5) : a o = nI k ↔ st o = k := by
  rw [(h o ho).1]
  exact nI_eq (by have := (h o ho).2; omega) (by omega)
def bef (rq : Nat → Rq) (cm : Nat → Nat) (a b : Nat) : Bool := if (rq a).2.2.2.2.2 = (rq b).2.2.2.2.2 then decide (cm a < cm b) else (rq a).2.2.2.2.2
def mReq (st : Nat → Nat) (mwk mwt mwm : Nat → Int32) (mwl mwh : Nat → Int64) (mwi mwc : Nat → Int32) (rq : Nat → Rq) (cm : Nat → Nat) : Prop := ∀ o, o < 8 → st o = 2 → rqAtM mwk mwt mwm mwl mwh mwi o (rq o) ∧ mwc o = nI (cm o) ∧ cm o < 2 ^ 30
theorem p_isBefore {st : Nat → Nat} {mwk mwt mwm : Nat → Int32} {mwl mwh : Nat → Int64} {mwi mwc : Nat → Int32} {rq : Nat → Rq} {cm : Nat → Nat} (h : mReq st mwk mwt mwm mwl mwh mwi mwc rq cm) {a b : Nat} (ha : a < 8) (hb : b < 8) (sa : st a = 2) (sb : st b = 2) : F_M_isBefore mwi mwc (nI a) (nI b) = some (b2i (bef rq cm a b)) := by
  obtain ⟨⟨-, -, -, -, -, i1⟩, c1, d1⟩ := h a ha sa
  obtain ⟨⟨-, -, -, -, -, i2⟩, c2, d2⟩ := h b hb sb
  unfold F_M_isBefore bef
  have c3 : nI (cm b) ≤ nI (cm a) ↔ cm b ≤ cm a := nI_leI (by omega) (by omega)
  simp only [nI_clamp (show a < 2 ^ 31 by omega), nI_clamp (show b < 2 ^ 31 by omega), pz_gd2 ha (show 8 < 2 ^ 31 by omega), pz_gd2 hb (show 8 < 2 ^ 31 by omega), i1, i2, c1, c2, c3]
  have hn : ∀ x : Bool, gd (¬ vp_nar .boolean (b2i x) = b2i x) (some (b2i x)) = some (b2i x) := by
    intro x
    cases x <;> decide
  rw [hn]
  have hbi : ∀ x y : Bool, (b2i x = b2i y) ↔ x = y := by intro x y; cases x <;> cases y <;> decide
  simp only [hbi]
  by_cases q : (rq a).2.2.2.2.2 = (rq b).2.2.2.2.2
  · rw [if_pos q, if_pos q]
    by_cases q2 : cm b ≤ cm a
    · rw [if_pos q2, decide_eq_false (by omega)]; rfl
    · rw [if_neg q2, decide_eq_true (by omega)]; rfl
  · rw [if_neg q, if_neg q]
/-- a request against another's -/
def reqAg (q qj : Rq) : Bool := ((q.1 == 1) == (qj.1 == 1)) && (q.2.1 == qj.2.1 && ((q.1 != 1 || (decide (q.2.2.2.1 ≤ qj.2.2.2.2.1) && decide (qj.2.2.2.1 ≤ q.2.2.2.2.1))) && !tog q.2.2.1 qj.2.2.1))
theorem p_againstRequestOf {mst : Nat → Int32} {st : Nat → Nat} {mwk mwt mwm : Nat → Int32} {mwl mwh : Nat → Int64} {mwi mwc : Nat → Int32} {rq : Nat → Rq} {cm : Nat → Nat} (hs : stAt mst st) (h : mReq st mwk mwt mwm mwl mwh mwi mwc rq cm) {o j : Nat} (ho : o < 8) (hj : j < 8) (so : st o = 2) : F_M_againstRequestOf mst mwk mwt mwm mwl mwh mwi mwc (nI o) (nI j) = some (b2i (st j == 2 && (j != o && (bef rq cm j o && reqAg (rq o) (rq j))))) := by
  have c0 : mst j = 2 ↔ st j = 2 := hs.eq (k := 2) hj (by omega)
  have c1 : nI j = nI o ↔ j = o := nI_eq (by omega) (by omega)
  unfold F_M_againstRequestOf
  simp only [jn0, nI_clamp (show j < 2 ^ 31 by omega), pz_gd2 hj (show 8 < 2 ^ 31 by omega), c0, c1]
  by_cases s2 : st j = 2
  · by_cases q1 : j = o
    · simp [s2, q1, b2i]
    · obtain ⟨r1, c2, d2⟩ := h j hj s2
      obtain ⟨r0, -, -⟩ := h o ho so
      obtain ⟨⟨k1, k2, k3⟩, f1, f2, f3, f4, -⟩ := id r1
      rw [if_pos s2, if_neg q1, p_isBefore h hj ho s2 so]
      simp only [ob1_s, p_b0]
      have q1' : (j != o) = true := by simpa using q1
      have q1'' : (o != j) = true := by simpa using fun e => q1 (Eq.symm e)
      rw [show (st j == 2) = true by simpa using s2, q1', Bool.true_and, Bool.true_and]
      rcases Bool.eq_false_or_eq_true (bef rq cm j o) with hb | hb
      · rw [hb, Bool.true_and]
        have c3 : mwk j = 1 ↔ (rq j).1 = 1 := by rw [f1]; exact nI_eq (b := 1) (by omega) (by omega)
        simp only [f2, f3, c3]
        by_cases q2 : (rq j).1 = 1
        · obtain ⟨g1, g2⟩ := f4 q2
          rw [g1, g2, p_mAgR r0 ho hj k2 k3]
          have t1 : F_M_againstTable mwk mwt mwm (nI o) (nI j) (nI (rq j).2.1) (mI (some (rq j).2.2.1)) = _ := p_mAgT r0 ho hj k2 (m := some (rq j).2.2.1) (fun a ha => by cases ha; exact k3)
          rw [show mI (some (rq j).2.2.1) = nI (rq j).2.2.1 from rfl] at t1
          rw [t1]
          simp only [ob1_s, q1'']
          have hn : ∀ x : Bool, gd (¬ vp_nar .boolean (b2i x) = b2i x) (some (b2i x)) = some (b2i x) := by
            intro x
            cases x <;> decide
          simp only [hn, if_pos q2, if_true]
          have q2' : ((rq j).1 == 1) = true := by simpa using q2
          unfold reqAg
          rw [q2']
          rcases Bool.eq_false_or_eq_true ((rq o).1 == 1) with hz | hz <;> simp [bne, hz, Bool.and_assoc]
        · rw [if_neg q2]
          have t1 : F_M_againstTable mwk mwt mwm (nI o) (nI j) (nI (rq j).2.1) (mI (some (rq j).2.2.1)) = _ := p_mAgT r0 ho hj k2 (m := some (rq j).2.2.1) (fun a ha => by cases ha; exact k3)
          rw [show mI (some (rq j).2.2.1) = nI (rq j).2.2.1 from rfl] at t1
          rw [t1]
          have hn : ∀ x : Bool, gd (¬ vp_nar .boolean (b2i x) = b2i x) (some (b2i x)) = some (b2i x) := by
            intro x
            cases x <;> decide
          simp only [ob1_s, q1'', hn]
          have q2' : ((rq j).1 == 1) = false := by simpa using q2
          unfold reqAg
          rw [q2']
          rcases Bool.eq_false_or_eq_true ((rq o).1 == 1) with hz | hz <;> simp [bne, hz, ntog]
      · rw [hb]; simp [b2i]
  · simp [s2, b2i]
