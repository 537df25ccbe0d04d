/-! queries over rows: the class -/
def isRoundB (o t : Nat) (lo hi : Int64) (r : Row) : Bool := isOnB o t r && (decide (r.2.2.1 ≤ lo) && decide (hi ≤ r.2.2.2.1))
theorem p_ngt {x y : Int64} (h : ¬ y < x) : x ≤ y := Int64.not_lt.mp h
theorem p_cmp {x y : Int64} : (0 < lg_cmp x y) = (decide (x ≤ y) = false) := by
  rw [decide_eq_false_iff_not, Int64.not_le]
  exact propext (lg_cmp_gt x y)
theorem p_isRound {low lta : Nat → Int32} {llo lhi : Nat → Int64} {lmo : Nat → Int32} {rs : List Row} (h : rowsAt low lta llo lhi lmo rs) {k o t : Nat} {r : Row} (hr : rs[k]? = some r) (ho : o < 8) (ht : t < 16) (lo hi : Int64) : F_L_isRound low lta llo lhi (nI k) (nI o) (nI t) lo hi = some (b2i (isRoundB o t lo hi r)) := by
  obtain ⟨hk, -, ⟨h1, h2, h3⟩, e1, e2, e3, e4, e5⟩ := h.at hr
  unfold F_L_isRound
  rw [p_isOn h hr ho ht]
  unfold ob1 isRoundB
  rw [pz_gd hk (by omega), pz_gd hk (by omega), nI_clamp (by omega), e3, e4]
  cases hb : isOnB o t r with
  | false => rfl
  | true =>
    simp only [b2i]
    rw [if_neg (by decide)]
    cases hl : decide (r.2.2.1 ≤ lo) with
    | false => rw [if_pos (by rw [p_cmp]; exact hl)]; rfl
    | true =>
      rw [if_neg (by rw [p_cmp, hl]; decide)]
      cases hh : decide (hi ≤ r.2.2.2.1) with
      | false => rw [if_pos (by rw [p_cmp]; exact hh)]; rfl
      | true => rw [if_neg (by rw [p_cmp, hh]; decide)]; rfl
theorem p_b0 {b : Bool} {α : Type} {x y : α} : (if b2i b = 0 then x else y) = if b then y else x := by
  cases b with
  | true => rw [if_neg (by decide)]; rfl
  | false => rw [if_pos (by decide)]; rfl
theorem p_haveRangeRound {low lta : Nat → Int32} {llo lhi : Nat → Int64} {lmo : Nat → Int32} {rs : List Row} (h : rowsAt low lta llo lhi lmo rs) {o t : Nat} (ho : o < 8) (ht : t < 16) (lo hi : Int64) : F_L_haveRangeRound low lta llo lhi (nI rs.length) (nI o) (nI t) lo hi = some (b2i (rs.any (isRoundB o t lo hi))) := by
  unfold F_L_haveRangeRound
  have hl := h.1
  have key := p_any rs (fun m i => F_L_haveRangeRound_L3 low lta llo lhi (nI rs.length) (nI o) (nI t) lo hi m i) (isRoundB o t lo hi) (some 1) (some 0) (fun m => by
      show F_L_haveRangeRound_L3 _ _ _ _ _ _ _ _ _ (m + 1) _ = _
      rw [F_L_haveRangeRound_L3, if_pos (Int32.le_refl _)]) (fun m k r hr hp => by
      obtain ⟨hk, hk2, -⟩ := h.at hr
      show F_L_haveRangeRound_L3 _ _ _ _ _ _ _ _ _ (m + 1) _ = _
      rw [F_L_haveRangeRound_L3, if_neg (nI_ge hk2 (by omega)), p_isRound h hr ho ht, hp]
      rfl) (fun m k r hr hp => by
      obtain ⟨hk, hk2, -⟩ := h.at hr
      show F_L_haveRangeRound_L3 _ _ _ _ _ _ _ _ _ (m + 1) _ = F_L_haveRangeRound_L3 _ _ _ _ _ _ _ _ _ m _
      rw [F_L_haveRangeRound_L3, if_neg (nI_ge hk2 (by omega)), p_isRound h hr ho ht, hp, ← nI_1]
      rfl) (m := fu) (fu_lt (by omega))
  rw [key]
  cases rs.any (isRoundB o t lo hi) <;> rfl
def rcov (h m : Nat) : Bool := (h == 5) || (h == 4 && m != 5) || (h == 2 && m == 2)
theorem p_rangeCovers : ∀ h, (h = 2 ∨ h = 4 ∨ h = 5) → ∀ m, (m = 2 ∨ m = 4 ∨ m = 5) → F_K_rangeCovers (nI h) (nI m) = some (b2i (rcov h m)) := by
  intro h hh m hm
  rcases hh with rfl | rfl | rfl <;> rcases hm with rfl | rfl | rfl <;> decide +kernel
theorem p_rangeCoversM : ∀ h, (h = 2 ∨ h = 4 ∨ h = 5) → ∀ m, (m = 2 ∨ m = 4 ∨ m = 5) → F_M_rangeCovers (nI h) (nI m) = some (b2i (rcov h m)) := by
  intro h hh m hm
  rcases hh with rfl | rfl | rfl <;> rcases hm with rfl | rfl | rfl <;> decide +kernel
def tcov (h : Option Nat) (m : Nat) : Bool := match h with
  | none => false
  | some a => (a == 5) || (m == 2 && (a == 2 || a == 3 || a == 4))
theorem p_tableCovers : ∀ h : Option Nat, (∀ a, h = some a → a < 6) → ∀ m, (m = 2 ∨ m = 4 ∨ m = 5) → F_K_tableCovers (mI h) (nI m) = some (b2i (tcov h m)) := by
  intro h hh m hm
  cases h with
  | none => rcases hm with rfl | rfl | rfl <;> decide +kernel
  | some a =>
    have ha := hh a rfl
    rcases (show a = 0 ∨ a = 1 ∨ a = 2 ∨ a = 3 ∨ a = 4 ∨ a = 5 by omega) with rfl | rfl | rfl | rfl | rfl | rfl <;> rcases hm with rfl | rfl | rfl <;> decide +kernel
theorem p_tableCoversM : ∀ h : Option Nat, (∀ a, h = some a → a < 6) → ∀ m, (m = 2 ∨ m = 4 ∨ m = 5) → F_M_tableCovers (mI h) (nI m) = some (b2i (tcov h m)) := by
  intro h hh m hm
  cases h with
  | none => rcases hm with rfl | rfl | rfl <;> decide +kernel
  | some a =>
    have ha := hh a rfl
    rcases (show a = 0 ∨ a = 1 ∨ a = 2 ∨ a = 3 ∨ a = 4 ∨ a = 5 by omega) with rfl | rfl | rfl | rfl | rfl | rfl <;> rcases hm with rfl | rfl | rfl <;> decide +kernel
/-- the table's modes: owner, table -/
def tmAt (ltm : Nat → Int32) (tm : Nat → Nat → Option Nat) : Prop := ∀ o t, o < 8 → t < 16 → ltm (16 * o + t) = mI (tm o t) ∧ ∀ a, tm o t = some a → a < 6
theorem p_ixC {o t : Nat} (ho : o < 8) (ht : t < 16) : nI o * 16 + nI t = nI (16 * o + t) := by
  rw [show (16 : Int32) = nI 16 from rfl, pk_mul, nI_add, Nat.mul_comm]
theorem p_ixM {o t : Nat} (ho : o < 8) (ht : t < 16) : 16 * nI o + nI t = nI (16 * o + t) := by
  rw [show (16 : Int32) = nI 16 from rfl, pk_mul, nI_add]
theorem p_heldMode {ltm : Nat → Int32} {tm : Nat → Nat → Option Nat} (h : tmAt ltm tm) {o t : Nat} (ho : o < 8) (ht : t < 16) : F_L_heldMode ltm (nI o) (nI t) = some (mI (tm o t)) := by
  unfold F_L_heldMode
  rw [p_ixC ho ht, pz_gd (by omega) (by omega), nI_clamp (by omega), (h o t ho ht).1]
def tmSet (tm : Nat → Nat → Option Nat) (o t : Nat) (m : Option Nat) : Nat → Nat → Option Nat := fun a b => if a = o ∧ b = t then m else tm a b
theorem tmAt.set {ltm : Nat → Int32} {tm : Nat → Nat → Option Nat} (h : tmAt ltm tm) {o t : Nat} (ho : o < 8) (ht : t < 16) {m : Option Nat} (hm : ∀ a, m = some a → a < 6) : tmAt (upd ltm (16 * o + t) (mI m)) (tmSet tm o t m) := by
  intro a b ha hb
  unfold upd tmSet
  by_cases q : a = o ∧ b = t
  · rw [if_pos (by rw [q.1, q.2]), if_pos q]
    exact ⟨rfl, hm⟩
  · rw [if_neg (by omega), if_neg q]
    exact h a b ha hb
theorem p_setTable {ltm : Nat → Int32} {o t : Nat} (ho : o < 8) (ht : t < 16) (v : Int32) : F_L_setTable ltm (nI o) (nI t) v = some (upd ltm (16 * o + t) v) := by
  unfold F_L_setTable
  rw [p_ixC ho ht, pz_gd (by omega) (by omega), nI_clamp (by omega)]
