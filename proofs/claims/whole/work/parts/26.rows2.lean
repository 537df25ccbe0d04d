/-! queries over rows: strong, cover, against -/
theorem p_haveStrong {low lta : Nat → Int32} {llo lhi : Nat → Int64} {lmo : Nat → Int32} {rs : List Row} (h : rowsAt low lta llo lhi lmo rs) {o t : Nat} (ho : o < 8) (ht : t < 16) : F_L_haveStrongRange low lta lmo (nI rs.length) (nI o) (nI t) = some (b2i (rs.any (fun r => isOnB o t r && r.2.2.2.2 != 2))) := by
  unfold F_L_haveStrongRange
  have hl := h.1
  have key := p_any rs (fun m i => F_L_haveStrongRange_L2 low lta lmo (nI rs.length) (nI o) (nI t) m i) (fun r => isOnB o t r && r.2.2.2.2 != 2) (some 1) (some 0) (fun m => by
      show F_L_haveStrongRange_L2 _ _ _ _ _ _ (m + 1) _ = _
      rw [F_L_haveStrongRange_L2, if_pos (Int32.le_refl _)]) (fun m k r hr hp => by
      obtain ⟨hk, hk2, ⟨h1, h2, h3⟩, e1, e2, e3, e4, e5⟩ := h.at hr
      rw [Bool.and_eq_true, bne_iff_ne] at hp
      show F_L_haveStrongRange_L2 _ _ _ _ _ _ (m + 1) _ = _
      rw [F_L_haveStrongRange_L2, if_neg (nI_ge hk2 (by omega)), p_isOn h hr ho ht, hp.1]
      simp only [ob1_s]
      rw [p_b0, if_pos rfl, pz_gd hk (by omega), nI_clamp (by omega), e5, if_neg (show ¬ nI r.2.2.2.2 = (2 : Int32) from pz_ne (b := 2) (by omega) (by omega) hp.2)]) (fun m k r hr hp => by
      obtain ⟨hk, hk2, ⟨h1, h2, h3⟩, e1, e2, e3, e4, e5⟩ := h.at hr
      show F_L_haveStrongRange_L2 _ _ _ _ _ _ (m + 1) _ = F_L_haveStrongRange_L2 _ _ _ _ _ _ m _
      rw [F_L_haveStrongRange_L2, if_neg (nI_ge hk2 (by omega)), p_isOn h hr ho ht, ← nI_1]
      simp only [ob1_s]
      rw [p_b0, pz_gd hk (by omega), nI_clamp (by omega), e5]
      cases hb : isOnB o t r with
      | false => rfl
      | true =>
        rw [hb, Bool.true_and] at hp
        have h9 : r.2.2.2.2 = 2 := by simpa using hp
        rw [if_pos rfl, h9]
        rfl) (m := fu) (fu_lt (by omega))
  rw [key]
  cases rs.any (fun r => isOnB o t r && r.2.2.2.2 != 2) <;> rfl
theorem p_cover {low lta : Nat → Int32} {llo lhi : Nat → Int64} {lmo ltm : Nat → Int32} {rs : List Row} {tm : Nat → Nat → Option Nat} (h : rowsAt low lta llo lhi lmo rs) (ht' : tmAt ltm tm) {o t m : Nat} (ho : o < 8) (ht : t < 16) (hm : m = 2 ∨ m = 4 ∨ m = 5) (lo hi : Int64) : F_L_coverRange ltm low lta llo lhi lmo (nI rs.length) (nI o) (nI t) lo hi (nI m) = some (b2i (tcov (tm o t) m || rs.any (fun r => isRoundB o t lo hi r && rcov r.2.2.2.2 m))) := by
  have hl := h.1
  have key := p_any rs (fun q i => F_L_coverRange_L19 low lta llo lhi lmo (nI rs.length) (nI o) (nI t) lo hi (nI m) q i) (fun r => isRoundB o t lo hi r && rcov r.2.2.2.2 m) (some 1) (some 0) (fun q => by
      show F_L_coverRange_L19 _ _ _ _ _ _ _ _ _ _ _ (q + 1) _ = _
      rw [F_L_coverRange_L19, if_pos (Int32.le_refl _)]) (fun q k r hr hp => by
      obtain ⟨hk, hk2, ⟨h1, h2, h3⟩, e1, e2, e3, e4, e5⟩ := h.at hr
      rw [Bool.and_eq_true] at hp
      show F_L_coverRange_L19 _ _ _ _ _ _ _ _ _ _ _ (q + 1) _ = _
      rw [F_L_coverRange_L19, if_neg (nI_ge hk2 (by omega)), p_isRound h hr ho ht, hp.1]
      simp only [ob1_s]
      rw [p_b0, if_pos rfl, pz_gd hk (by omega), nI_clamp (by omega), e5, p_rangeCovers _ h3 _ hm, hp.2]
      rfl) (fun q k r hr hp => by
      obtain ⟨hk, hk2, ⟨h1, h2, h3⟩, e1, e2, e3, e4, e5⟩ := h.at hr
      show F_L_coverRange_L19 _ _ _ _ _ _ _ _ _ _ _ (q + 1) _ = F_L_coverRange_L19 _ _ _ _ _ _ _ _ _ _ _ q _
      rw [F_L_coverRange_L19, if_neg (nI_ge hk2 (by omega)), p_isRound h hr ho ht, ← nI_1]
      simp only [ob1_s]
      rw [p_b0, pz_gd hk (by omega), nI_clamp (by omega), e5, p_rangeCovers _ h3 _ hm]
      cases hb : isRoundB o t lo hi r with
      | false => rfl
      | true =>
        rw [hb, Bool.true_and] at hp
        rw [if_pos rfl, hp]
        rfl) (m := fu) (fu_lt (by omega))
  unfold F_L_coverRange
  rw [p_heldMode ht' ho ht]
  simp only [ob1_s]
  rw [p_tableCovers _ (ht' o t ho ht).2 _ hm]
  simp only [ob1_s]
  rw [p_b0]
  cases tcov (tm o t) m with
  | true => rfl
  | false =>
    rw [if_neg (by decide), Bool.false_or]
    rw [key]
    cases rs.any (fun r => isRoundB o t lo hi r && rcov r.2.2.2.2 m) <;> rfl
/-- sets of owners by folds -/
theorem fold_bit {ρ : Type} (c : ρ → Bool) (ow : ρ → Nat) : ∀ (l : List ρ) (a j : Nat), (l.foldl (fun a r => if c r then a ||| 2 ^ ow r else a) a).testBit j = (a.testBit j || l.any (fun r => c r && ow r == j)) := by
  intro l
  induction l with
  | nil => intro a j; simp
  | cons x l ih =>
    intro a j
    rw [List.foldl_cons, ih, List.any_cons]
    cases hx : c x with
    | false => simp
    | true =>
      rw [if_pos rfl, Nat.testBit_or, Nat.testBit_two_pow, Bool.true_and, Bool.or_assoc]
      congr 1
def tabAg (tm : Nat → Nat → Option Nat) (o t m j : Nat) : Bool := j != o && (match tm j t with
  | none => false
  | some h => !tog h m)
def rowAg (o t : Nat) (lo hi : Int64) (m : Nat) (r : Row) : Bool := r.1 != o && (r.2.1 == t && (decide (r.2.2.1 ≤ hi) && decide (lo ≤ r.2.2.2.1)) && !tog r.2.2.2.2 m)
def rngAg (rs : List Row) (o t : Nat) (lo hi : Int64) (m j : Nat) : Bool := rs.any (fun r => rowAg o t lo hi m r && r.1 == j)
theorem p_againstTable {ltm : Nat → Int32} {tm : Nat → Nat → Option Nat} (h : tmAt ltm tm) {o t m : Nat} (ho : o < 8) (ht : t < 16) (hm : m < 6) : F_L_againstTable ltm (nI o) (nI t) (nI m) = some (nI (bm (tabAg tm o t m) 8)) := by
  unfold F_L_againstTable
  have key := p_scan (List.range 8) (fun q a i => F_L_againstTable_L6 ltm (nI o) (nI t) (nI m) q (nI a) i) (fun a j => if tabAg tm o t m j then a ||| 2 ^ j else a) (fun a => some (nI a)) (fun _ => True) (fun q a _ => by
      show F_L_againstTable_L6 _ _ _ _ (q + 1) _ (nI 8) = _
      rw [F_L_againstTable_L6, if_pos (by exact Int32.le_refl _)]) (fun q a k r _ hr => by
      refine ⟨trivial, ?_⟩
      have hk : k < 8 ∧ r = k := by
        obtain ⟨h1, h2⟩ := List.getElem?_eq_some_iff.mp hr
        rw [List.length_range] at h1
        rw [List.getElem_range] at h2
        exact ⟨h1, h2.symm⟩
      obtain ⟨hk, rfl⟩ := hk
      show F_L_againstTable_L6 _ _ _ _ (q + 1) _ _ = F_L_againstTable_L6 _ _ _ _ q _ _
      rw [F_L_againstTable_L6, if_neg (show ¬ (8 : Int32) ≤ nI r from nI_ge (b := 8) hk (by omega)), p_heldMode h hk ht, ← nI_1, pz_orb hk]
      simp only [ob1_s]
      unfold tabAg
      by_cases q1 : r = o
      · subst q1; rw [if_pos rfl]; simp
      · rw [if_neg (pz_ne (by omega) (by omega) q1)]
        have q2 : (r != o) = true := by simpa using q1
        rw [q2, Bool.true_and]
        cases hh : tm r t with
        | none => rw [if_pos (show mI none = -1 from rfl)]; rfl
        | some a9 =>
          have ha := (h r t hk ht).2 a9 hh
          rw [if_neg (show ¬ mI (some a9) = -1 from pz_nm a9 (by omega))]
          show ob1 (F_K_goTogether (nI a9) (nI m)) _ = _
          rw [p_goTogether a9 ha m hm]
          simp only [ob1_s]
          rw [p_b0]
          rcases Bool.eq_false_or_eq_true (tog a9 m) with hb | hb <;> simp [hb]) (m := fu) (a := 0) (fu_lt (by simp)) trivial
  rw [← nI_0] at key ⊢
  rw [key]
  simp only [ob1_s]
  refine congrArg (fun z => some (nI z)) (bm_of ?_)
  intro j
  rw [fold_bit (tabAg tm o t m) (fun j => j)]
  simp only [Nat.zero_testBit, Bool.false_or]
  by_cases hj : j < 8
  · rw [decide_eq_true hj, Bool.true_and]
    cases hp : tabAg tm o t m j with
    | true => exact List.any_eq_true.mpr ⟨j, List.mem_range.mpr hj, by simp [hp]⟩
    | false =>
      apply List.any_eq_false.mpr
      intro x hx
      by_cases q : x = j
      · subst q; simp [hp]
      · simp [q]
  · rw [decide_eq_false hj, Bool.false_and]
    apply List.any_eq_false.mpr
    intro x hx
    have := List.mem_range.mp hx
    have q : ¬ x = j := by omega
    simp [q]
theorem p_againstRange {low lta : Nat → Int32} {llo lhi : Nat → Int64} {lmo : Nat → Int32} {rs : List Row} (h : rowsAt low lta llo lhi lmo rs) {o t m : Nat} (ho : o < 8) (ht : t < 16) (hm : m < 6) (lo hi : Int64) : F_L_againstRange low lta llo lhi lmo (nI rs.length) (nI o) (nI t) lo hi (nI m) = some (nI (bm (rngAg rs o t lo hi m) 8)) := by
  unfold F_L_againstRange
  have hl := h.1
  have key := p_scan rs (fun q a i => F_L_againstRange_L6 low lta llo lhi lmo (nI rs.length) (nI o) (nI t) lo hi (nI m) q (nI a) i) (fun a r => if rowAg o t lo hi m r then a ||| 2 ^ r.1 else a) (fun a => some (nI a)) (fun _ => True) (fun q a _ => by
      show F_L_againstRange_L6 _ _ _ _ _ _ _ _ _ _ _ (q + 1) _ _ = _
      rw [F_L_againstRange_L6, if_pos (by exact Int32.le_refl _)]) (fun q a k r _ hr => by
      refine ⟨trivial, ?_⟩
      obtain ⟨hk, hk2, ⟨h1, h2, h3⟩, e1, e2, e3, e4, e5⟩ := h.at hr
      show F_L_againstRange_L6 _ _ _ _ _ _ _ _ _ _ _ (q + 1) _ _ = F_L_againstRange_L6 _ _ _ _ _ _ _ _ _ _ _ q _ _
      rw [F_L_againstRange_L6, if_neg (nI_ge hk2 (by omega)), ← nI_1]
      have c1 : nI r.2.1 = nI t ↔ r.2.1 = t := nI_eq (by omega) (by omega)
      have c2 : nI r.1 = nI o ↔ r.1 = o := nI_eq (by omega) (by omega)
      simp only [jn1, jn0, nI_clamp (show k < 2 ^ 31 by omega), pz_gd2 hk (show 256 < 2 ^ 31 by omega), e1, e2, e3, e4, e5, lg_cmp_gt, c1, c2, p_goTogether r.2.2.2.2 (by omega) m hm, ob1_s, p_b0, pz_orb h1]
      by_cases q2 : r.2.1 = t
      · by_cases q3 : hi < r.2.2.1
        · have q3' : ¬ r.2.2.1 ≤ hi := Int64.not_le.mpr q3
          simp [rowAg, q2, q3, q3']
        · have q3' : r.2.2.1 ≤ hi := Int64.not_lt.mp q3
          by_cases q4 : r.2.2.2.1 < lo
          · have q4' : ¬ lo ≤ r.2.2.2.1 := Int64.not_le.mpr q4
            simp [rowAg, q2, q3, q3', q4, q4']
          · have q4' : lo ≤ r.2.2.2.1 := Int64.not_lt.mp q4
            by_cases q1 : r.1 = o
            · simp [rowAg, q1, q2, q3, q3', q4, q4']
            · rcases Bool.eq_false_or_eq_true (tog r.2.2.2.2 m) with hb | hb <;> simp [rowAg, q1, q2, q3, q3', q4, q4', hb]
      · simp [rowAg, q2]) (m := fu) (a := 0) (fu_lt (by omega)) trivial
  rw [← nI_0] at key ⊢
  rw [key]
  simp only [ob1_s]
  refine congrArg (fun z => some (nI z)) (bm_of ?_)
  intro j
  rw [fold_bit (rowAg o t lo hi m) (fun r : Row => r.1)]
  simp only [Nat.zero_testBit, Bool.false_or]
  unfold rngAg
  by_cases hj : j < 8
  · rw [decide_eq_true hj, Bool.true_and]
  · rw [decide_eq_false hj, Bool.false_and]
    apply List.any_eq_false.mpr
    intro x hx
    have := (h.2.1 x hx).1
    have q : ¬ x.1 = j := by omega
    simp [q]
