/-! pure: numbers, bits, partial functions -/
theorem pz_gd {α : Type} {N k : Nat} {x : Option α} (h : k < N) (hN : N < 2 ^ 31) : gd (nI k < 0 ∨ N ≤ (nI k).toNatClampNeg) x = x := by
  unfold gd
  rw [if_neg]
  rw [nI_clamp (by omega)]
  rintro (h1 | h1)
  · exact nI_pos (by omega) h1
  · omega
theorem pz_or (a b : Nat) : nI a ||| nI b = nI (a ||| b) := by
  apply Int32.toBitVec_inj.1
  show BitVec.ofNat 32 a ||| BitVec.ofNat 32 b = BitVec.ofNat 32 (a ||| b)
  apply BitVec.eq_of_getLsbD_eq
  intro i hi
  simp [hi]
theorem pz_shl : ∀ j, j < 8 → (1 : Int32) <<< (nI j &&& 31) = nI (2 ^ j) := by decide +kernel
theorem pz_orb {a j : Nat} (hj : j < 8) : nI a ||| ((1 : Int32) <<< (nI j &&& 31)) = nI (a ||| 2 ^ j) := by rw [pz_shl j hj, pz_or]
set_option maxRecDepth 20000 in
theorem pz_bit0 : ∀ a, a < 256 → ∀ j, j < 8 → (nI a >>> (nI j &&& 31)) &&& 1 = nI (if a.testBit j then 1 else 0) := by decide +kernel
theorem pz_or_lt {a j : Nat} (ha : a < 256) (hj : j < 8) : a ||| 2 ^ j < 256 := by
  have h2 : 2 ^ j < 2 ^ 8 := Nat.pow_lt_pow_right (by omega) hj
  exact Nat.or_lt_two_pow (n := 8) ha h2
theorem pz_m1 {k : Nat} : nI (k + 1) - 1 = nI k := nI_pred k
theorem pz_ne {a b : Nat} (ha : a < 2 ^ 31) (hb : b < 2 ^ 31) (h : a ≠ b) : ¬ nI a = nI b := fun q => h ((nI_eq ha hb).mp q)
theorem pz_nm (k : Nat) (hk : k < 2 ^ 31) : ¬ nI k = -1 := by
  intro h
  have h1 := nI_toInt hk
  rw [h] at h1
  have h2 : (-1 : Int32).toInt = -1 := by decide
  omega
/-- bits of a set of owners -/
def bm (P : Nat → Bool) : Nat → Nat
  | 0 => 0
  | n + 1 => if P n then bm P n ||| 2 ^ n else bm P n
theorem bm_bit (P : Nat → Bool) : ∀ n j, (bm P n).testBit j = (decide (j < n) && P j) := by
  intro n
  induction n with
  | zero => intro j; simp [bm]
  | succ n ih =>
    intro j
    unfold bm
    by_cases hp : P n = true
    · rw [if_pos hp, Nat.testBit_or, ih j, Nat.testBit_two_pow]
      by_cases hj : j = n
      · subst hj; simp [hp]
      · have h1 : (decide (n = j)) = false := by simp; omega
        rw [h1, Bool.or_false]
        have h2 : decide (j < n + 1) = decide (j < n) := by simp; omega
        rw [h2]
    · rw [if_neg hp, ih j]
      by_cases hj : j = n
      · subst hj; simp [hp]
      · have h2 : decide (j < n + 1) = decide (j < n) := by simp; omega
        rw [h2]
theorem bm_ext {P Q : Nat → Bool} {n : Nat} (h : ∀ j, j < n → P j = Q j) : bm P n = bm Q n := by
  apply Nat.eq_of_testBit_eq
  intro j
  rw [bm_bit, bm_bit]
  by_cases hj : j < n
  · rw [h j hj]
  · simp [hj]
theorem bm_of {P : Nat → Bool} {n a : Nat} (h : ∀ j, a.testBit j = (decide (j < n) && P j)) : a = bm P n := by
  apply Nat.eq_of_testBit_eq
  intro j
  rw [h, bm_bit]
theorem bm_lt (P : Nat → Bool) (n : Nat) : bm P n < 2 ^ n := by
  apply Nat.lt_of_testBit (n := n)
  all_goals first | (rw [bm_bit]; simp) | skip
  · rw [Nat.testBit_two_pow]; simp
  · intro j hj
    rw [bm_bit, Nat.testBit_two_pow]
    have h1 : decide (j < n) = false := by simp; omega
    have h2 : decide (n = j) = false := by simp; omega
    rw [h1, h2, Bool.false_and]
/-! modes -/
def tgN (a : Nat) : Nat := [31, 3, 21, 1, 5, 0].getD a 0
def tog (a b : Nat) : Bool := (tgN a).testBit b
def b2i (b : Bool) : Int32 := if b then 1 else 0
theorem tog_comm : ∀ a, a < 6 → ∀ b, b < 6 → tog a b = tog b a := by decide +kernel
theorem p_goTogether : ∀ a, a < 6 → ∀ b, b < 6 → F_K_goTogether (nI a) (nI b) = some (b2i (tog a b)) := by decide +kernel
theorem p_together : ∀ a, a < 6 → ∀ b, b < 6 → F_M_together (nI a) (nI b) = some (b2i (tog a b)) := by decide +kernel
def jnd (a b : Nat) : Nat := ([[0, 1, 2, 3, 4, 5], [1, 1, 3, 3, 3, 5], [2, 3, 2, 3, 4, 5], [3, 3, 3, 3, 3, 5], [4, 3, 4, 3, 4, 5], [5, 5, 5, 5, 5, 5]].getD a []).getD b 0
set_option maxRecDepth 100000 in
theorem p_joinedK : ∀ a, a < 6 → ∀ b, b < 6 → F_K_joined (nI a) (nI b) = some (nI (jnd a b)) := by decide +kernel
set_option maxRecDepth 100000 in
theorem p_joinedM : ∀ a, a < 6 → ∀ b, b < 6 → F_M_joined (nI a) (nI b) = some (nI (jnd a b)) := by decide +kernel
theorem jnd_lt : ∀ a, a < 6 → ∀ b, b < 6 → jnd a b < 6 := by decide +kernel
/-- a mode or none, as an int -/
def mI (m : Option Nat) : Int32 := match m with
  | none => -1
  | some a => nI a
