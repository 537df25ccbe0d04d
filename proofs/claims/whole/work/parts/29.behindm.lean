/-! behindOf: the reference -/
theorem p_nar (x : Bool) : gd (¬ vp_nar .boolean (b2i x) = b2i x) (some (b2i x)) = some (b2i x) := by
  cases x <;> decide
theorem p_againstLocksOf {mmo mro mrt mrm : Nat → Int32} {mrl mrh : Nat → Int64} {st : Nat → Nat} {mwk mwt mwm : Nat → Int32} {mwl mwh : Nat → Int64} {mwi mwc : Nat → Int32} {rq : Nat → Rq} {cm : Nat → Nat} {rs : List Row} {tm : Nat → Nat → Option Nat} (hr0 : rowsAt mro mrt mrl mrh mrm rs) (ht0 : tmAt mmo tm) (h : mReq st mwk mwt mwm mwl mwh mwi mwc rq cm) {o j : Nat} (ho : o < 8) (hj : j < 8) (so : st o = 2) (hjo : j ≠ o) : F_M_againstLocksOf mmo (nI rs.length) mro mrt mrm mrl mrh mwk mwt mwm mwl mwh (nI o) (nI j) = some (b2i (lockAg tm rs (rq o) o j)) := by
  obtain ⟨r0, -, -⟩ := h o ho so
  obtain ⟨⟨k1, k2, k3⟩, f1, f2, f3, f4, -⟩ := id r0
  have hl := hr0.1
  unfold F_M_againstLocksOf
  have e0 : 16 * nI j + nI (rq o).2.1 = nI (16 * j + (rq o).2.1) := p_ixM hj k2
  have e1 := (ht0 j (rq o).2.1 hj k2).1
  have hmm := (ht0 j (rq o).2.1 hj k2).2
  simp only [nI_clamp (show o < 2 ^ 31 by omega), pz_gd2 ho (show 8 < 2 ^ 31 by omega), f2, e0, nI_clamp (show 16 * j + (rq o).2.1 < 2 ^ 31 by omega), pz_gd2 (show 16 * j + (rq o).2.1 < 128 by omega) (show 128 < 2 ^ 31 by omega), e1]
  rw [p_mAgT r0 ho hj k2 hmm]
  simp only [ob1_s]
  generalize hB : (o != j && ((rq o).1 != 1 && ((rq o).2.1 == (rq o).2.1 && ntog (rq o).2.2.1 (tm j (rq o).2.1)))) = B
  have key := p_scan rs (fun m a i => F_M_againstLocksOf_L32 (nI rs.length) mro mrt mrm mrl mrh mwk mwt mwm mwl mwh (nI o) (nI j) m (b2i a) i) (fun a r => a || (r.1 == j && (o != j && ((rq o).1 == 1 && ((rq o).2.1 == r.2.1 && (decide ((rq o).2.2.2.1 ≤ r.2.2.2.1) && decide (r.2.2.1 ≤ (rq o).2.2.2.2.1)) && !tog (rq o).2.2.1 r.2.2.2.2))))) (fun a => some (b2i a)) (fun _ => True) (fun m a _ => by
      show F_M_againstLocksOf_L32 _ _ _ _ _ _ _ _ _ _ _ _ _ (m + 1) _ _ = _
      rw [F_M_againstLocksOf_L32, if_pos (by exact Int32.le_refl _)]) (fun m a k r _ hr => by
      refine ⟨trivial, ?_⟩
      obtain ⟨hk, hk2, ⟨h1, h2, h3⟩, g1, g2, g3, g4, g5⟩ := hr0.at hr
      show F_M_againstLocksOf_L32 _ _ _ _ _ _ _ _ _ _ _ _ _ (m + 1) _ _ = F_M_againstLocksOf_L32 _ _ _ _ _ _ _ _ _ _ _ _ _ m _ _
      have c1 : nI r.1 = nI j ↔ r.1 = j := nI_eq (by omega) (by omega)
      rw [F_M_againstLocksOf_L32, if_neg (nI_ge hk2 (by omega))]
      simp only [nI_clamp (show k < 2 ^ 31 by omega), pz_gd2 hk (show 256 < 2 ^ 31 by omega), g1, g2, g3, g4, g5, c1, nI_1, p_b0, p_mAgR r0 ho hj h2 (show r.2.2.2.2 < 6 by omega), ob1_s]
      cases a with
      | true => rw [if_pos rfl, Bool.true_or]; rfl
      | false =>
        rw [if_neg (by decide), Bool.false_or]
        by_cases q1 : r.1 = j
        · rw [if_pos q1]
          have q1' : (r.1 == j) = true := by simpa using q1
          rw [q1', Bool.true_and]
          generalize (o != j && ((rq o).1 == 1 && ((rq o).2.1 == r.2.1 && (decide ((rq o).2.2.2.1 ≤ r.2.2.2.1) && decide (r.2.2.1 ≤ (rq o).2.2.2.2.1)) && !tog (rq o).2.2.1 r.2.2.2.2))) = z
          cases z <;> rfl
        · rw [if_neg q1]
          have q1' : (r.1 == j) = false := by simpa using q1
          rw [q1', Bool.false_and]
          rfl) (m := fu) (a := B) (fu_lt (by omega)) trivial
  rw [key]
  simp only [ob1_s]
  rw [p_nar, fold_or]
  congr 2
  have qo : (o != j) = true := by simpa using fun e => hjo (Eq.symm e)
  have qj : (j != o) = true := by simpa using hjo
  unfold lockAg
  by_cases qk : (rq o).1 = 1
  · rw [if_pos qk]
    have q0 : ((rq o).1 != 1) = false := by simpa using qk
    have q0' : ((rq o).1 == 1) = true := by simpa using qk
    rw [← hB, q0, Bool.false_and, Bool.and_false, Bool.false_or]
    unfold rngAg
    have hall : ∀ r ∈ rs, (r.1 == j && (o != j && ((rq o).1 == 1 && ((rq o).2.1 == r.2.1 && (decide ((rq o).2.2.2.1 ≤ r.2.2.2.1) && decide (r.2.2.1 ≤ (rq o).2.2.2.2.1)) && !tog (rq o).2.2.1 r.2.2.2.2)))) = (rowAg o (rq o).2.1 (rq o).2.2.2.1 (rq o).2.2.2.2.1 (rq o).2.2.1 r && r.1 == j) := by
      intro r hr
      have hok := hr0.2.1 r hr
      unfold rowAg
      rw [qo, q0', tog_comm (rq o).2.2.1 k3 r.2.2.2.2 (by have := hok.2.2; omega)]
      by_cases q1 : r.1 = j
      · have q2 : (r.1 != o) = true := by rw [q1]; exact qj
        have q3 : (r.1 == j) = true := by simpa using q1
        rw [q2, q3]
        have q4 : ((rq o).2.1 == r.2.1) = (r.2.1 == (rq o).2.1) := by rw [Bool.beq_comm]
        rw [q4, Bool.and_comm (decide ((rq o).2.2.2.1 ≤ r.2.2.2.1))]
        simp
      · have q3 : (r.1 == j) = false := by simpa using q1
        rw [q3, Bool.false_and, Bool.and_false]
    rw [Bool.eq_iff_iff, List.any_eq_true, List.any_eq_true]
    constructor
    · rintro ⟨r, h1, h2⟩; exact ⟨r, h1, by rw [← hall r h1]; exact h2⟩
    · rintro ⟨r, h1, h2⟩; exact ⟨r, h1, by rw [hall r h1]; exact h2⟩
  · rw [if_neg qk]
    have q0' : ((rq o).1 == 1) = false := by simpa using qk
    have q0 : ((rq o).1 != 1) = true := by simpa using qk
    have hall : rs.any (fun r => r.1 == j && (o != j && ((rq o).1 == 1 && ((rq o).2.1 == r.2.1 && (decide ((rq o).2.2.2.1 ≤ r.2.2.2.1) && decide (r.2.2.1 ≤ (rq o).2.2.2.2.1)) && !tog (rq o).2.2.1 r.2.2.2.2)))) = false := by
      apply List.any_eq_false.mpr
      intro r hr
      rw [q0']
      simp
    rw [hall, Bool.or_false, ← hB, qo, q0, beq_self_eq_true]
    unfold tabAg
    rw [qj]
    simp only [Bool.true_and]
    cases hh : tm j (rq o).2.1 with
    | none => rfl
    | some a => simp only [ntog, tog_comm (rq o).2.2.1 k3 a (hmm a hh)]
def blkM (st : Nat → Nat) (tm : Nat → Nat → Option Nat) (rs : List Row) (rq : Nat → Rq) (cm : Nat → Nat) (o j : Nat) : Bool := j != o && (lockAg tm rs (rq o) o j || (st j == 2 && (bef rq cm j o && reqAg (rq o) (rq j))))
theorem any_range (P : Nat → Bool) (n : Nat) (a : Nat) (ha : a = 0) : (List.range n).foldl (fun a j => if P j then a ||| 2 ^ j else a) a = bm P n := by
  subst ha
  apply bm_of
  intro j
  rw [fold_bit P (fun j => j)]
  simp only [Nat.zero_testBit, Bool.false_or]
  by_cases hj : j < n
  · rw [decide_eq_true hj, Bool.true_and]
    cases hp : P j with
    | true => exact List.any_eq_true.mpr ⟨j, List.mem_range.mpr hj, by simp [hp]⟩
    | false =>
      apply List.any_eq_false.mpr
      intro x hx
      by_cases q : x = j
      · subst q; simp [hp]
      · simp [q]
  · rw [decide_eq_false hj, Bool.false_and]
    apply List.any_eq_false.mpr
    intro x hx
    have := List.mem_range.mp hx
    have q : ¬ x = j := by omega
    simp [q]
theorem range_at {n k r : Nat} (hr : (List.range n)[k]? = some r) : k < n ∧ r = k := by
  obtain ⟨h1, h2⟩ := List.getElem?_eq_some_iff.mp hr
  rw [List.length_range] at h1
  rw [List.getElem_range] at h2
  exact ⟨h1, h2.symm⟩
theorem p_behindOf {mst mmo mro mrt mrm : Nat → Int32} {mrl mrh : Nat → Int64} {st : Nat → Nat} {mwk mwt mwm : Nat → Int32} {mwl mwh : Nat → Int64} {mwi mwc : Nat → Int32} {rq : Nat → Rq} {cm : Nat → Nat} {rs : List Row} {tm : Nat → Nat → Option Nat} (hs : stAt mst st) (hr0 : rowsAt mro mrt mrl mrh mrm rs) (ht0 : tmAt mmo tm) (h : mReq st mwk mwt mwm mwl mwh mwi mwc rq cm) {o : Nat} (ho : o < 8) : F_M_behindOf mst mmo (nI rs.length) mro mrt mrm mrl mrh mwk mwt mwm mwl mwh mwi mwc (nI o) = some (nI (if st o = 2 then bm (blkM st tm rs rq cm o) 8 else 0)) := by
  unfold F_M_behindOf
  have c0 : mst o = 2 ↔ st o = 2 := hs.eq (k := 2) ho (by omega)
  by_cases so : st o = 2
  · rw [if_pos so]
    have key := p_scan (List.range 8) (fun q a i => F_M_behindOf_L4 mst mmo (nI rs.length) mro mrt mrm mrl mrh mwk mwt mwm mwl mwh mwi mwc (nI o) q (nI a) i) (fun a j => if blkM st tm rs rq cm o j then a ||| 2 ^ j else a) (fun a => some (nI a)) (fun _ => True) (fun q a _ => by
        show F_M_behindOf_L4 _ _ _ _ _ _ _ _ _ _ _ _ _ _ _ _ (q + 1) _ (nI 8) = _
        rw [F_M_behindOf_L4, if_pos (by exact Int32.le_refl _)]) (fun q a k r _ hr => by
        refine ⟨trivial, ?_⟩
        obtain ⟨hk, rfl⟩ := range_at hr
        show F_M_behindOf_L4 _ _ _ _ _ _ _ _ _ _ _ _ _ _ _ _ (q + 1) _ _ = F_M_behindOf_L4 _ _ _ _ _ _ _ _ _ _ _ _ _ _ _ _ q _ _
        have c1 : nI r = nI o ↔ r = o := nI_eq (by omega) (by omega)
        rw [F_M_behindOf_L4, if_neg (show ¬ (8 : Int32) ≤ nI r from nI_ge (b := 8) hk (by omega)), p_againstRequestOf hs h ho hk so]
        simp only [jn0, nI_clamp (show o < 2 ^ 31 by omega), pz_gd2 ho (show 8 < 2 ^ 31 by omega), c0, c1, nI_1, pz_orb hk, ob1_s, p_b0]
        rw [if_pos so]
        unfold blkM
        by_cases q1 : r = o
        · rw [if_pos q1]; simp [q1]
        · rw [if_neg q1, p_againstLocksOf hr0 ht0 h ho hk so q1]
          simp only [ob1_s, p_b0]
          have qj : (r != o) = true := by simpa using q1
          rw [qj]
          simp only [Bool.true_and]
          generalize lockAg tm rs (rq o) o r = x
          generalize (st r == 2 && (bef rq cm r o && reqAg (rq o) (rq r))) = z
          cases x <;> cases z <;> rfl) (m := fu) (a := 0) (fu_lt (by simp)) trivial
    rw [← nI_0] at key ⊢
    rw [key]
    simp only [ob1_s]
    rw [any_range _ _ _ rfl]
  · rw [if_neg so]
    have hfu : fu = 4999 + 1 := rfl
    rw [hfu, F_M_behindOf_L4, if_neg (by decide)]
    simp only [nI_clamp (show o < 2 ^ 31 by omega), pz_gd2 ho (show 8 < 2 ^ 31 by omega), c0]
    rw [if_neg so]
    rfl
