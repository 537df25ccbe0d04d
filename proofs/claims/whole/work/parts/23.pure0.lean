/-! pure: numbers, bits, partial functions -/
theorem pz_gd {α : Type} {N k : Nat} {x : Option α} (h : k < N) (hN : N < 2 ^ 31) : gd (nI k < 0 ∨ N ≤ (nI k).toNatClampNeg) x = x := by
  unfold gd
  rw [if_neg]
  rw [nI_clamp (by omega)]
  rintro (h1 | h1)
  · exact nI_pos (by omega) h1
  · omega
theorem pz_gd2 {α : Type} {N k : Nat} {x : Option α} (h : k < N) (hN : N < 2 ^ 31) : gd (nI k < 0 ∨ N ≤ k) x = x := by
  unfold gd
  rw [if_neg]
  rintro (h1 | h1)
  · exact nI_pos (by omega) h1
  · omega
theorem pz_or (a b : Nat) : nI a ||| nI b = nI (a ||| b) := by
  apply Int32.toBitVec_inj.1
  show BitVec.ofNat 32 a ||| BitVec.ofNat 32 b = BitVec.ofNat 32 (a ||| b)
  apply BitVec.eq_of_getLsbD_eq
  intro i hi
  simp [hi]
theorem pz_shl : ∀ j, j < 8 → (1 : Int32) <<< (nI j &&& 31) = nI (2 ^ j) := by decide +kernel
theorem pz_orb {a j : Nat} (hj : j < 8) : nI a ||| ((1 : Int32) <<< (nI j &&& 31)) = nI (a ||| 2 ^ j) := by rw [pz_shl j hj, pz_or]
set_option maxRecDepth 20000 in
theorem pz_bit0 : ∀ a, a < 256 → ∀ j, j < 8 → (nI a >>> (nI j &&& 31)) &&& 1 = nI (if a.testBit j then 1 else 0) := by decide +kernel
theorem pz_or_lt {a j : Nat} (ha : a < 256) (hj : j < 8) : a ||| 2 ^ j < 256 := by
  have h2 : 2 ^ j < 2 ^ 8 := Nat.pow_lt_pow_right (by omega) hj
  exact Nat.or_lt_two_pow (n := 8) ha h2
theorem pz_m1 {k : Nat} : nI (k + 1) - 1 = nI k := nI_pred k
theorem pz_ne {a b : Nat} (ha : a < 2 ^ 31) (hb : b < 2 ^ 31) (h : a ≠ b) : ¬ nI a = nI b := fun q => h ((nI_eq ha hb).mp q)
theorem pz_nm (k : Nat) (hk : k < 2 ^ 31) : ¬ nI k = -1 := by
  intro h
  have h1 := nI_toInt hk
  rw [h] at h1
  have h2 : (-1 : Int32).toInt = -1 := by decide
  omega
/-- bits of a set of owners -/
def bm (P : Nat → Bool) : Nat → Nat
  | 0 => 0
  | n + 1 => if P n then bm P n ||| 2 ^ n else bm P n
theorem bm_bit (P : Nat → Bool) : ∀ n j, (bm P n).testBit j = (decide (j < n) && P j) := by
  intro n
  induction n with
  | zero => intro j; simp [bm]
  | succ n ih =>
    intro j
    unfold bm
    by_cases hp : P n = true
    · rw [if_pos hp, Nat.testBit_or, ih j, Nat.testBit_two_pow]
      by_cases hj : j = n
      · subst hj; simp [hp]
      · have h1 : (decide (n = j)) = false := by simp; omega
        rw [h1, Bool.or_false]
        have h2 : decide (j < n + 1) = decide (j < n) := by simp; omega
        rw [h2]
    · rw [if_neg hp, ih j]
      by_cases hj : j = n
      · subst hj; simp [hp]
      · have h2 : decide (j < n + 1) = decide (j < n) := by simp; omega
        rw [h2]
theorem bm_ext {P Q : Nat → Bool} {n : Nat} (h : ∀ j, j < n → P j = Q j) : bm P n = bm Q n := by
  apply Nat.eq_of_testBit_eq
  intro j
  rw [bm_bit, bm_bit]
  by_cases hj : j < n
  · rw [h j hj]
  · simp [hj]
theorem bm_of {P : Nat → Bool} {n a : Nat} (h : ∀ j, a.testBit j = (decide (j < n) && P j)) : a = bm P n := by
  apply Nat.eq_of_testBit_eq
  intro j
  rw [h, bm_bit]
theorem bm_lt (P : Nat → Bool) : ∀ n, bm P n < 2 ^ n := by
  intro n
  induction n with
  | zero => simp [bm]
  | succ n ih =>
    have h1 : bm P n < 2 ^ (n + 1) := Nat.lt_of_lt_of_le ih (Nat.pow_le_pow_right (by omega) (by omega))
    unfold bm
    by_cases hp : P n = true
    · rw [if_pos hp]
      exact Nat.or_lt_two_pow h1 (Nat.pow_lt_pow_right (by omega) (by omega))
    · rw [if_neg hp]
      exact h1
/-! modes -/
def tgN (a : Nat) : Nat := [31, 3, 21, 1, 5, 0].getD a 0
def tog (a b : Nat) : Bool := (tgN a).testBit b
def b2i (b : Bool) : Int32 := if b then 1 else 0
theorem tog_comm : ∀ a, a < 6 → ∀ b, b < 6 → tog a b = tog b a := by decide +kernel
theorem p_goTogether : ∀ a, a < 6 → ∀ b, b < 6 → F_K_goTogether (nI a) (nI b) = some (b2i (tog a b)) := by decide +kernel
theorem p_together : ∀ a, a < 6 → ∀ b, b < 6 → F_M_together (nI a) (nI b) = some (b2i (tog a b)) := by decide +kernel
def jnd (a b : Nat) : Nat := ([[0, 1, 2, 3, 4, 5], [1, 1, 3, 3, 3, 5], [2, 3, 2, 3, 4, 5], [3, 3, 3, 3, 3, 5], [4, 3, 4, 3, 4, 5], [5, 5, 5, 5, 5, 5]].getD a []).getD b 0
set_option maxRecDepth 100000 in
theorem p_joinedK : ∀ a, a < 6 → ∀ b, b < 6 → F_K_joined (nI a) (nI b) = some (nI (jnd a b)) := by decide +kernel
set_option maxRecDepth 100000 in
theorem p_strK : ∀ a, a < 6 → ∀ b, b < 6 → F_K_strengthened (nI a) (nI b) = some (nI (jnd a b)) := by decide +kernel
theorem p_strN (x : Int32) : F_K_strengthened (-1) x = some x := by
  unfold F_K_strengthened
  exact if_pos rfl
set_option maxRecDepth 100000 in
theorem p_joinedM : ∀ a, a < 6 → ∀ b, b < 6 → F_M_joined (nI a) (nI b) = some (nI (jnd a b)) := by decide +kernel
theorem jnd_lt : ∀ a, a < 6 → ∀ b, b < 6 → jnd a b < 6 := by decide +kernel
/-- a mode or none, as an int -/
def mI (m : Option Nat) : Int32 := match m with
  | none => -1
  | some a => nI a
theorem ob1_s {T0 Z : Type} {k : T0 → Option Z} {x0 : T0} : ob1 (some x0) k = k x0 := rfl
theorem ob2_s {T0 T1 Z : Type} {k : T0 → T1 → Option Z} {x0 : T0} {x1 : T1} : ob2 (some (x0, x1)) k = k x0 x1 := rfl
theorem ob3_s {T0 T1 T2 Z : Type} {k : T0 → T1 → T2 → Option Z} {x0 : T0} {x1 : T1} {x2 : T2} : ob3 (some (x0, x1, x2)) k = k x0 x1 x2 := rfl
theorem ob4_s {T0 T1 T2 T3 Z : Type} {k : T0 → T1 → T2 → T3 → Option Z} {x0 : T0} {x1 : T1} {x2 : T2} {x3 : T3} : ob4 (some (x0, x1, x2, x3)) k = k x0 x1 x2 x3 := rfl
theorem ob5_s {T0 T1 T2 T3 T4 Z : Type} {k : T0 → T1 → T2 → T3 → T4 → Option Z} {x0 : T0} {x1 : T1} {x2 : T2} {x3 : T3} {x4 : T4} : ob5 (some (x0, x1, x2, x3, x4)) k = k x0 x1 x2 x3 x4 := rfl
theorem ob6_s {T0 T1 T2 T3 T4 T5 Z : Type} {k : T0 → T1 → T2 → T3 → T4 → T5 → Option Z} {x0 : T0} {x1 : T1} {x2 : T2} {x3 : T3} {x4 : T4} {x5 : T5} : ob6 (some (x0, x1, x2, x3, x4, x5)) k = k x0 x1 x2 x3 x4 x5 := rfl
theorem ob7_s {T0 T1 T2 T3 T4 T5 T6 Z : Type} {k : T0 → T1 → T2 → T3 → T4 → T5 → T6 → Option Z} {x0 : T0} {x1 : T1} {x2 : T2} {x3 : T3} {x4 : T4} {x5 : T5} {x6 : T6} : ob7 (some (x0, x1, x2, x3, x4, x5, x6)) k = k x0 x1 x2 x3 x4 x5 x6 := rfl
theorem ob8_s {T0 T1 T2 T3 T4 T5 T6 T7 Z : Type} {k : T0 → T1 → T2 → T3 → T4 → T5 → T6 → T7 → Option Z} {x0 : T0} {x1 : T1} {x2 : T2} {x3 : T3} {x4 : T4} {x5 : T5} {x6 : T6} {x7 : T7} : ob8 (some (x0, x1, x2, x3, x4, x5, x6, x7)) k = k x0 x1 x2 x3 x4 x5 x6 x7 := rfl
theorem ob9_s {T0 T1 T2 T3 T4 T5 T6 T7 T8 Z : Type} {k : T0 → T1 → T2 → T3 → T4 → T5 → T6 → T7 → T8 → Option Z} {x0 : T0} {x1 : T1} {x2 : T2} {x3 : T3} {x4 : T4} {x5 : T5} {x6 : T6} {x7 : T7} {x8 : T8} : ob9 (some (x0, x1, x2, x3, x4, x5, x6, x7, x8)) k = k x0 x1 x2 x3 x4 x5 x6 x7 x8 := rfl
theorem ob10_s {T0 T1 T2 T3 T4 T5 T6 T7 T8 T9 Z : Type} {k : T0 → T1 → T2 → T3 → T4 → T5 → T6 → T7 → T8 → T9 → Option Z} {x0 : T0} {x1 : T1} {x2 : T2} {x3 : T3} {x4 : T4} {x5 : T5} {x6 : T6} {x7 : T7} {x8 : T8} {x9 : T9} : ob10 (some (x0, x1, x2, x3, x4, x5, x6, x7, x8, x9)) k = k x0 x1 x2 x3 x4 x5 x6 x7 x8 x9 := rfl
theorem ob11_s {T0 T1 T2 T3 T4 T5 T6 T7 T8 T9 T10 Z : Type} {k : T0 → T1 → T2 → T3 → T4 → T5 → T6 → T7 → T8 → T9 → T10 → Option Z} {x0 : T0} {x1 : T1} {x2 : T2} {x3 : T3} {x4 : T4} {x5 : T5} {x6 : T6} {x7 : T7} {x8 : T8} {x9 : T9} {x10 : T10} : ob11 (some (x0, x1, x2, x3, x4, x5, x6, x7, x8, x9, x10)) k = k x0 x1 x2 x3 x4 x5 x6 x7 x8 x9 x10 := rfl
theorem ob12_s {T0 T1 T2 T3 T4 T5 T6 T7 T8 T9 T10 T11 Z : Type} {k : T0 → T1 → T2 → T3 → T4 → T5 → T6 → T7 → T8 → T9 → T10 → T11 → Option Z} {x0 : T0} {x1 : T1} {x2 : T2} {x3 : T3} {x4 : T4} {x5 : T5} {x6 : T6} {x7 : T7} {x8 : T8} {x9 : T9} {x10 : T10} {x11 : T11} : ob12 (some (x0, x1, x2, x3, x4, x5, x6, x7, x8, x9, x10, x11)) k = k x0 x1 x2 x3 x4 x5 x6 x7 x8 x9 x10 x11 := rfl
theorem ob13_s {T0 T1 T2 T3 T4 T5 T6 T7 T8 T9 T10 T11 T12 Z : Type} {k : T0 → T1 → T2 → T3 → T4 → T5 → T6 → T7 → T8 → T9 → T10 → T11 → T12 → Option Z} {x0 : T0} {x1 : T1} {x2 : T2} {x3 : T3} {x4 : T4} {x5 : T5} {x6 : T6} {x7 : T7} {x8 : T8} {x9 : T9} {x10 : T10} {x11 : T11} {x12 : T12} : ob13 (some (x0, x1, x2, x3, x4, x5, x6, x7, x8, x9, x10, x11, x12)) k = k x0 x1 x2 x3 x4 x5 x6 x7 x8 x9 x10 x11 x12 := rfl
theorem ob14_s {T0 T1 T2 T3 T4 T5 T6 T7 T8 T9 T10 T11 T12 T13 Z : Type} {k : T0 → T1 → T2 → T3 → T4 → T5 → T6 → T7 → T8 → T9 → T10 → T11 → T12 → T13 → Option Z} {x0 : T0} {x1 : T1} {x2 : T2} {x3 : T3} {x4 : T4} {x5 : T5} {x6 : T6} {x7 : T7} {x8 : T8} {x9 : T9} {x10 : T10} {x11 : T11} {x12 : T12} {x13 : T13} : ob14 (some (x0, x1, x2, x3, x4, x5, x6, x7, x8, x9, x10, x11, x12, x13)) k = k x0 x1 x2 x3 x4 x5 x6 x7 x8 x9 x10 x11 x12 x13 := rfl
theorem ob15_s {T0 T1 T2 T3 T4 T5 T6 T7 T8 T9 T10 T11 T12 T13 T14 Z : Type} {k : T0 → T1 → T2 → T3 → T4 → T5 → T6 → T7 → T8 → T9 → T10 → T11 → T12 → T13 → T14 → Option Z} {x0 : T0} {x1 : T1} {x2 : T2} {x3 : T3} {x4 : T4} {x5 : T5} {x6 : T6} {x7 : T7} {x8 : T8} {x9 : T9} {x10 : T10} {x11 : T11} {x12 : T12} {x13 : T13} {x14 : T14} : ob15 (some (x0, x1, x2, x3, x4, x5, x6, x7, x8, x9, x10, x11, x12, x13, x14)) k = k x0 x1 x2 x3 x4 x5 x6 x7 x8 x9 x10 x11 x12 x13 x14 := rfl
theorem ob16_s {T0 T1 T2 T3 T4 T5 T6 T7 T8 T9 T10 T11 T12 T13 T14 T15 Z : Type} {k : T0 → T1 → T2 → T3 → T4 → T5 → T6 → T7 → T8 → T9 → T10 → T11 → T12 → T13 → T14 → T15 → Option Z} {x0 : T0} {x1 : T1} {x2 : T2} {x3 : T3} {x4 : T4} {x5 : T5} {x6 : T6} {x7 : T7} {x8 : T8} {x9 : T9} {x10 : T10} {x11 : T11} {x12 : T12} {x13 : T13} {x14 : T14} {x15 : T15} : ob16 (some (x0, x1, x2, x3, x4, x5, x6, x7, x8, x9, x10, x11, x12, x13, x14, x15)) k = k x0 x1 x2 x3 x4 x5 x6 x7 x8 x9 x10 x11 x12 x13 x14 x15 := rfl
theorem ob17_s {T0 T1 T2 T3 T4 T5 T6 T7 T8 T9 T10 T11 T12 T13 T14 T15 T16 Z : Type} {k : T0 → T1 → T2 → T3 → T4 → T5 → T6 → T7 → T8 → T9 → T10 → T11 → T12 → T13 → T14 → T15 → T16 → Option Z} {x0 : T0} {x1 : T1} {x2 : T2} {x3 : T3} {x4 : T4} {x5 : T5} {x6 : T6} {x7 : T7} {x8 : T8} {x9 : T9} {x10 : T10} {x11 : T11} {x12 : T12} {x13 : T13} {x14 : T14} {x15 : T15} {x16 : T16} : ob17 (some (x0, x1, x2, x3, x4, x5, x6, x7, x8, x9, x10, x11, x12, x13, x14, x15, x16)) k = k x0 x1 x2 x3 x4 x5 x6 x7 x8 x9 x10 x11 x12 x13 x14 x15 x16 := rfl
theorem ob18_s {T0 T1 T2 T3 T4 T5 T6 T7 T8 T9 T10 T11 T12 T13 T14 T15 T16 T17 Z : Type} {k : T0 → T1 → T2 → T3 → T4 → T5 → T6 → T7 → T8 → T9 → T10 → T11 → T12 → T13 → T14 → T15 → T16 → T17 → Option Z} {x0 : T0} {x1 : T1} {x2 : T2} {x3 : T3} {x4 : T4} {x5 : T5} {x6 : T6} {x7 : T7} {x8 : T8} {x9 : T9} {x10 : T10} {x11 : T11} {x12 : T12} {x13 : T13} {x14 : T14} {x15 : T15} {x16 : T16} {x17 : T17} : ob18 (some (x0, x1, x2, x3, x4, x5, x6, x7, x8, x9, x10, x11, x12, x13, x14, x15, x16, x17)) k = k x0 x1 x2 x3 x4 x5 x6 x7 x8 x9 x10 x11 x12 x13 x14 x15 x16 x17 := rfl
theorem ob19_s {T0 T1 T2 T3 T4 T5 T6 T7 T8 T9 T10 T11 T12 T13 T14 T15 T16 T17 T18 Z : Type} {k : T0 → T1 → T2 → T3 → T4 → T5 → T6 → T7 → T8 → T9 → T10 → T11 → T12 → T13 → T14 → T15 → T16 → T17 → T18 → Option Z} {x0 : T0} {x1 : T1} {x2 : T2} {x3 : T3} {x4 : T4} {x5 : T5} {x6 : T6} {x7 : T7} {x8 : T8} {x9 : T9} {x10 : T10} {x11 : T11} {x12 : T12} {x13 : T13} {x14 : T14} {x15 : T15} {x16 : T16} {x17 : T17} {x18 : T18} : ob19 (some (x0, x1, x2, x3, x4, x5, x6, x7, x8, x9, x10, x11, x12, x13, x14, x15, x16, x17, x18)) k = k x0 x1 x2 x3 x4 x5 x6 x7 x8 x9 x10 x11 x12 x13 x14 x15 x16 x17 x18 := rfl
theorem ob20_s {T0 T1 T2 T3 T4 T5 T6 T7 T8 T9 T10 T11 T12 T13 T14 T15 T16 T17 T18 T19 Z : Type} {k : T0 → T1 → T2 → T3 → T4 → T5 → T6 → T7 → T8 → T9 → T10 → T11 → T12 → T13 → T14 → T15 → T16 → T17 → T18 → T19 → Option Z} {x0 : T0} {x1 : T1} {x2 : T2} {x3 : T3} {x4 : T4} {x5 : T5} {x6 : T6} {x7 : T7} {x8 : T8} {x9 : T9} {x10 : T10} {x11 : T11} {x12 : T12} {x13 : T13} {x14 : T14} {x15 : T15} {x16 : T16} {x17 : T17} {x18 : T18} {x19 : T19} : ob20 (some (x0, x1, x2, x3, x4, x5, x6, x7, x8, x9, x10, x11, x12, x13, x14, x15, x16, x17, x18, x19)) k = k x0 x1 x2 x3 x4 x5 x6 x7 x8 x9 x10 x11 x12 x13 x14 x15 x16 x17 x18 x19 := rfl
theorem ob21_s {T0 T1 T2 T3 T4 T5 T6 T7 T8 T9 T10 T11 T12 T13 T14 T15 T16 T17 T18 T19 T20 Z : Type} {k : T0 → T1 → T2 → T3 → T4 → T5 → T6 → T7 → T8 → T9 → T10 → T11 → T12 → T13 → T14 → T15 → T16 → T17 → T18 → T19 → T20 → Option Z} {x0 : T0} {x1 : T1} {x2 : T2} {x3 : T3} {x4 : T4} {x5 : T5} {x6 : T6} {x7 : T7} {x8 : T8} {x9 : T9} {x10 : T10} {x11 : T11} {x12 : T12} {x13 : T13} {x14 : T14} {x15 : T15} {x16 : T16} {x17 : T17} {x18 : T18} {x19 : T19} {x20 : T20} : ob21 (some (x0, x1, x2, x3, x4, x5, x6, x7, x8, x9, x10, x11, x12, x13, x14, x15, x16, x17, x18, x19, x20)) k = k x0 x1 x2 x3 x4 x5 x6 x7 x8 x9 x10 x11 x12 x13 x14 x15 x16 x17 x18 x19 x20 := rfl
theorem ob22_s {T0 T1 T2 T3 T4 T5 T6 T7 T8 T9 T10 T11 T12 T13 T14 T15 T16 T17 T18 T19 T20 T21 Z : Type} {k : T0 → T1 → T2 → T3 → T4 → T5 → T6 → T7 → T8 → T9 → T10 → T11 → T12 → T13 → T14 → T15 → T16 → T17 → T18 → T19 → T20 → T21 → Option Z} {x0 : T0} {x1 : T1} {x2 : T2} {x3 : T3} {x4 : T4} {x5 : T5} {x6 : T6} {x7 : T7} {x8 : T8} {x9 : T9} {x10 : T10} {x11 : T11} {x12 : T12} {x13 : T13} {x14 : T14} {x15 : T15} {x16 : T16} {x17 : T17} {x18 : T18} {x19 : T19} {x20 : T20} {x21 : T21} : ob22 (some (x0, x1, x2, x3, x4, x5, x6, x7, x8, x9, x10, x11, x12, x13, x14, x15, x16, x17, x18, x19, x20, x21)) k = k x0 x1 x2 x3 x4 x5 x6 x7 x8 x9 x10 x11 x12 x13 x14 x15 x16 x17 x18 x19 x20 x21 := rfl
theorem ob23_s {T0 T1 T2 T3 T4 T5 T6 T7 T8 T9 T10 T11 T12 T13 T14 T15 T16 T17 T18 T19 T20 T21 T22 Z : Type} {k : T0 → T1 → T2 → T3 → T4 → T5 → T6 → T7 → T8 → T9 → T10 → T11 → T12 → T13 → T14 → T15 → T16 → T17 → T18 → T19 → T20 → T21 → T22 → Option Z} {x0 : T0} {x1 : T1} {x2 : T2} {x3 : T3} {x4 : T4} {x5 : T5} {x6 : T6} {x7 : T7} {x8 : T8} {x9 : T9} {x10 : T10} {x11 : T11} {x12 : T12} {x13 : T13} {x14 : T14} {x15 : T15} {x16 : T16} {x17 : T17} {x18 : T18} {x19 : T19} {x20 : T20} {x21 : T21} {x22 : T22} : ob23 (some (x0, x1, x2, x3, x4, x5, x6, x7, x8, x9, x10, x11, x12, x13, x14, x15, x16, x17, x18, x19, x20, x21, x22)) k = k x0 x1 x2 x3 x4 x5 x6 x7 x8 x9 x10 x11 x12 x13 x14 x15 x16 x17 x18 x19 x20 x21 x22 := rfl
theorem ob24_s {T0 T1 T2 T3 T4 T5 T6 T7 T8 T9 T10 T11 T12 T13 T14 T15 T16 T17 T18 T19 T20 T21 T22 T23 Z : Type} {k : T0 → T1 → T2 → T3 → T4 → T5 → T6 → T7 → T8 → T9 → T10 → T11 → T12 → T13 → T14 → T15 → T16 → T17 → T18 → T19 → T20 → T21 → T22 → T23 → Option Z} {x0 : T0} {x1 : T1} {x2 : T2} {x3 : T3} {x4 : T4} {x5 : T5} {x6 : T6} {x7 : T7} {x8 : T8} {x9 : T9} {x10 : T10} {x11 : T11} {x12 : T12} {x13 : T13} {x14 : T14} {x15 : T15} {x16 : T16} {x17 : T17} {x18 : T18} {x19 : T19} {x20 : T20} {x21 : T21} {x22 : T22} {x23 : T23} : ob24 (some (x0, x1, x2, x3, x4, x5, x6, x7, x8, x9, x10, x11, x12, x13, x14, x15, x16, x17, x18, x19, x20, x21, x22, x23)) k = k x0 x1 x2 x3 x4 x5 x6 x7 x8 x9 x10 x11 x12 x13 x14 x15 x16 x17 x18 x19 x20 x21 x22 x23 := rfl
theorem ob25_s {T0 T1 T2 T3 T4 T5 T6 T7 T8 T9 T10 T11 T12 T13 T14 T15 T16 T17 T18 T19 T20 T21 T22 T23 T24 Z : Type} {k : T0 → T1 → T2 → T3 → T4 → T5 → T6 → T7 → T8 → T9 → T10 → T11 → T12 → T13 → T14 → T15 → T16 → T17 → T18 → T19 → T20 → T21 → T22 → T23 → T24 → Option Z} {x0 : T0} {x1 : T1} {x2 : T2} {x3 : T3} {x4 : T4} {x5 : T5} {x6 : T6} {x7 : T7} {x8 : T8} {x9 : T9} {x10 : T10} {x11 : T11} {x12 : T12} {x13 : T13} {x14 : T14} {x15 : T15} {x16 : T16} {x17 : T17} {x18 : T18} {x19 : T19} {x20 : T20} {x21 : T21} {x22 : T22} {x23 : T23} {x24 : T24} : ob25 (some (x0, x1, x2, x3, x4, x5, x6, x7, x8, x9, x10, x11, x12, x13, x14, x15, x16, x17, x18, x19, x20, x21, x22, x23, x24)) k = k x0 x1 x2 x3 x4 x5 x6 x7 x8 x9 x10 x11 x12 x13 x14 x15 x16 x17 x18 x19 x20 x21 x22 x23 x24 := rfl
