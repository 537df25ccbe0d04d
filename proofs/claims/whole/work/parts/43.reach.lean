/-! who reaches whom -/
def reAt (re : Nat → Int32) (P : Nat → Nat → Bool) : Prop := ∀ i, i < 8 → re i = nI (bm (P i) 8)
theorem reAt.set {re : Nat → Int32} {P : Nat → Nat → Bool} (h : reAt re P) (o : Nat) (Q : Nat → Bool) : reAt (upd re o (nI (bm Q 8))) (fun i => if i = o then Q else P i) := by
  intro i hi
  unfold upd
  by_cases q : i = o
  · simp only [if_pos q]
  · simp only [if_neg q]; exact h i hi
theorem bm_get {P : Nat → Bool} {j : Nat} (hj : j < 8) : (nI (bm P 8) >>> (nI j &&& 31)) &&& 1 = b2i (P j) := by
  rw [pz_bit0 _ (bm_lt P 8) j hj, bm_bit]
  have : decide (j < 8) = true := by simpa using hj
  rw [this, Bool.true_and]
  cases P j <;> rfl
theorem p_hasBit {P : Nat → Bool} {j : Nat} (hj : j < 8) : F_T_hasBit (nI (bm P 8)) (nI j) = some (b2i (P j)) := by
  unfold F_T_hasBit
  rw [bm_get hj]
  cases P j <;> rfl
theorem b2i_1 {b : Bool} {α : Type} {x y : α} : (if b2i b = 1 then x else y) = if b then x else y := by
  cases b <;> rfl
def wk (E : Nat → Nat → Bool) : Nat → Nat → Nat → Bool
  | 0 => E
  | k + 1 => fun i j => wk E k i j || (wk E k i k && wk E k k j)
theorem wk_closed (E : Nat → Nat → Bool) : ∀ k b i j, b < k → wk E k i b = true → wk E k b j = true → wk E k i j = true := by
  intro k
  induction k with
  | zero => intro b i j h; omega
  | succ k ih =>
    intro b i j hb h1 h2
    unfold wk at h1 h2 ⊢
    simp only [Bool.or_eq_true, Bool.and_eq_true] at h1 h2 ⊢
    by_cases q : b = k
    · subst q
      have g1 : wk E b i b = true := by rcases h1 with h | h; exact h; exact h.1
      have g2 : wk E b b j = true := by rcases h2 with h | h; exact h; exact h.2
      exact Or.inr ⟨g1, g2⟩
    · have hb' : b < k := by omega
      rcases h1 with h1 | ⟨h1, h1'⟩ <;> rcases h2 with h2 | ⟨h2, h2'⟩
      · exact Or.inl (ih b i j hb' h1 h2)
      · exact Or.inr ⟨ih b i k hb' h1 h2, h2'⟩
      · exact Or.inr ⟨h1, ih b k j hb' h1' h2⟩
      · exact Or.inr ⟨h1, h2'⟩
theorem wk_base (E : Nat → Nat → Bool) : ∀ k i j, E i j = true → wk E k i j = true := by
  intro k
  induction k with
  | zero => intro i j h; exact h
  | succ k ih =>
    intro i j h
    unfold wk
    rw [ih i j h]
    rfl
theorem wk_none (E : Nat → Nat → Bool) (i : Nat) (h : ∀ j, E i j = false) : ∀ k j, wk E k i j = false := by
  intro k
  induction k with
  | zero => exact h
  | succ k ih =>
    intro j
    unfold wk
    rw [ih j, ih k]
    rfl
/-! the class's way -/
theorem p_L49 {by' : Nat} (hby : by' < 8) (v1 : Int32) : ∀ d k m (re : Nat → Int32) (P : Nat → Nat → Bool), k + d = 8 → d < m → reAt re P → ∃ re' P', F_T_ringOf_L49 v1 (nI by') m re (nI k) = some re' ∧ reAt re' P' ∧ ∀ i j, P' i j = if k ≤ i ∧ i < 8 then P i j || (P i by' && P by' j) else P i j := by
  intro d
  induction d with
  | zero =>
    intro k m re P hk hm hP
    obtain ⟨m, rfl⟩ : ∃ z, m = z + 1 := ⟨m - 1, by omega⟩
    have e : k = 8 := by omega
    subst e
    refine ⟨re, P, ?_, hP, fun i j => ?_⟩
    · rw [F_T_ringOf_L49, if_pos (by exact Int32.le_refl _)]
    · rw [if_neg (by omega)]
  | succ d ih =>
    intro k m re P hk hm hP
    obtain ⟨m, rfl⟩ : ∃ z, m = z + 1 := ⟨m - 1, by omega⟩
    have hk8 : k < 8 := by omega
    rw [F_T_ringOf_L49, if_neg (show ¬ (8 : Int32) ≤ nI k from nI_ge (b := 8) hk8 (by omega))]
    simp only [nI_clamp (show k < 2 ^ 31 by omega), nI_clamp (show by' < 2 ^ 31 by omega), pz_gd2 hk8 (show 8 < 2 ^ 31 by omega), pz_gd2 hby (show 8 < 2 ^ 31 by omega), hP k hk8, hP by' hby, p_hasBit hby, ob1_s, p_b0, nI_1, pz_or, bm_or]
    cases hb : P k by' with
    | false =>
      obtain ⟨re', P', e1, e2, e3⟩ := ih (k + 1) m re P (by omega) (by omega) hP
      refine ⟨re', P', by rw [if_neg (by decide)]; exact e1, e2, fun i j => ?_⟩
      rw [e3]
      by_cases q : k = i
      · subst q
        rw [if_neg (by omega), if_pos (by omega), hb]
        simp
      · by_cases q2 : k ≤ i ∧ i < 8
        · rw [if_pos q2, if_pos (by omega)]
        · rw [if_neg q2, if_neg (by omega)]
    | true =>
      obtain ⟨re', P', e1, e2, e3⟩ := ih (k + 1) m _ _ (by omega) (by omega) (hP.set k (fun j => P k j || P by' j))
      refine ⟨re', P', by rw [if_pos rfl]; exact e1, e2, fun i j => ?_⟩
      rw [e3]
      by_cases q : k = i
      · subst q
        rw [if_neg (show ¬ (k + 1 ≤ k ∧ k < 8) by omega), if_pos (show k ≤ k ∧ k < 8 by omega)]
        simp [hb]
      · have q' : ¬ i = k := fun e => q e.symm
        simp only [if_neg q']
        by_cases q2 : k ≤ i ∧ i < 8
        · rw [if_pos q2, if_pos (by omega)]
          by_cases q3 : by' = k
          · subst q3
            simp only [if_pos rfl]
            cases P i j <;> cases P i by' <;> simp
          · simp only [if_neg q3]
        · rw [if_neg q2, if_neg (by omega)]
theorem p_L41 (E : Nat → Nat → Bool) (v1 : Int32) : ∀ d k m (re : Nat → Int32), k + d = 8 → d < m → reAt re (wk E k) → ∃ re', F_T_ringOf_L41 v1 m re (nI k) = some re' ∧ reAt re' (wk E 8) := by
  intro d
  induction d with
  | zero =>
    intro k m re hk hm hP
    obtain ⟨m, rfl⟩ : ∃ z, m = z + 1 := ⟨m - 1, by omega⟩
    have e : k = 8 := by omega
    subst e
    exact ⟨re, by rw [F_T_ringOf_L41, if_pos (by exact Int32.le_refl _)], hP⟩
  | succ d ih =>
    intro k m re hk hm hP
    obtain ⟨m, rfl⟩ : ∃ z, m = z + 1 := ⟨m - 1, by omega⟩
    have hk8 : k < 8 := by omega
    obtain ⟨re1, P1, e1, e2, e3⟩ := p_L49 hk8 v1 8 0 fu re (wk E k) (by omega) (fu_lt (by omega)) hP
    rw [nI_0] at e1
    have hP1 : reAt re1 (wk E (k + 1)) := by
      intro i hi
      rw [e2 i hi]
      congr 1
      apply bm_ext
      intro j _
      rw [e3, if_pos ⟨by omega, hi⟩]
      rfl
    obtain ⟨re', f1, f2⟩ := ih (k + 1) m re1 (by omega) (by omega) hP1
    refine ⟨re', ?_, f2⟩
    rw [F_T_ringOf_L41, if_neg (show ¬ (8 : Int32) ≤ nI k from nI_ge (b := 8) hk8 (by omega)), e1, ob1_s, nI_1]
    exact f1
theorem p_L99 {re : Nat → Int32} {P : Nat → Nat → Bool} (h : reAt re P) {o : Nat} (ho : o < 8) : F_T_ringOf_L99 re (nI o) fu 0 0 = some (nI (bm (fun i => P o i && P i o) 8)) := by
  have key := p_scan (List.range 8) (fun q a i => F_T_ringOf_L99 re (nI o) q (nI a) i) (fun a k => if P o k && P k o then a ||| 2 ^ k else a) (fun a => some (nI a)) (fun _ => True) (fun q a _ => by
      show F_T_ringOf_L99 _ _ (q + 1) _ (nI 8) = _
      rw [F_T_ringOf_L99, if_pos (by exact Int32.le_refl _)]) (fun q a k r _ hr => by
      obtain ⟨hk, rfl⟩ := range_at hr
      refine ⟨trivial, ?_⟩
      show F_T_ringOf_L99 _ _ (q + 1) _ _ = F_T_ringOf_L99 _ _ q _ _
      rw [F_T_ringOf_L99, if_neg (show ¬ (8 : Int32) ≤ nI r from nI_ge (b := 8) hk (by omega))]
      simp only [nI_clamp (show r < 2 ^ 31 by omega), nI_clamp (show o < 2 ^ 31 by omega), pz_gd2 hk (show 8 < 2 ^ 31 by omega), pz_gd2 ho (show 8 < 2 ^ 31 by omega), h r hk, h o ho, p_hasBit hk, p_hasBit ho, ob1_s, p_b0, nI_1, pz_orb hk]
      cases P o r <;> cases P r o <;> simp) (m := fu) (a := 0) (fu_lt (by simp)) trivial
  rw [nI_0] at key
  rw [key, any_range _ _ _ rfl]
/-! the reference's way -/
def okT (T : Nat → Nat → Bool) : Prop := ∀ i p j, p < 8 → T i p = true → T p j = true → T i j = true
def le2 (P T : Nat → Nat → Bool) : Prop := ∀ i j, P i j = true → T i j = true
theorem p_L43 {o : Nat} (ho : o < 8) (v1 : Int32) : ∀ d k m (re : Nat → Int32) (P : Nat → Nat → Bool), k + d = 8 → d < m → reAt re P → ∃ re' P', F_M_fillReach_L43 v1 (nI o) m re (nI k) = some re' ∧ reAt re' P' ∧ le2 P P' ∧ (∀ p j, k ≤ p → p < 8 → P o p = true → P p j = true → P' o j = true) ∧ ∀ T, okT T → le2 P T → le2 P' T := by
  intro d
  induction d with
  | zero =>
    intro k m re P hk hm hP
    obtain ⟨m, rfl⟩ : ∃ z, m = z + 1 := ⟨m - 1, by omega⟩
    have e : k = 8 := by omega
    subst e
    refine ⟨re, P, ?_, hP, fun i j h => h, fun p j h1 h2 => by omega, fun T _ h => h⟩
    rw [F_M_fillReach_L43, if_pos (by exact Int32.le_refl _)]
  | succ d ih =>
    intro k m re P hk hm hP
    obtain ⟨m, rfl⟩ : ∃ z, m = z + 1 := ⟨m - 1, by omega⟩
    have hk8 : k < 8 := by omega
    rw [F_M_fillReach_L43, if_neg (show ¬ (8 : Int32) ≤ nI k from nI_ge (b := 8) hk8 (by omega))]
    simp only [nI_clamp (show k < 2 ^ 31 by omega), nI_clamp (show o < 2 ^ 31 by omega), pz_gd2 hk8 (show 8 < 2 ^ 31 by omega), pz_gd2 ho (show 8 < 2 ^ 31 by omega), hP k hk8, hP o ho, bm_get hk8, b2i_1, nI_1, pz_or, bm_or]
    cases hb : P o k with
    | false =>
      have hP0 : reAt (upd re o (nI (bm (P o) 8))) P := by
        intro i hi
        rw [hP.set o (P o) i hi]
        by_cases q : i = o
        · subst q; simp
        · simp only [if_neg q]
      obtain ⟨re', P', e1, e2, e3, e4, e5⟩ := ih (k + 1) m _ P (by omega) (by omega) hP0
      refine ⟨re', P', by rw [if_neg (by decide)]; exact e1, e2, e3, fun p j h1 h2 h3 h4 => ?_, e5⟩
      by_cases q : p = k
      · subst q; rw [hb] at h3; cases h3
      · exact e4 p j (by omega) h2 h3 h4
    | true =>
      obtain ⟨re', P', e1, e2, e3, e4, e5⟩ := ih (k + 1) m _ _ (by omega) (by omega) (hP.set o (fun j => P o j || P k j))
      have hle : le2 P (fun i => if i = o then (fun j => P o j || P k j) else P i) := by
        intro i j h
        show (if i = o then (fun j => P o j || P k j) else P i) j = true
        by_cases q : i = o
        · rw [if_pos q]
          rw [q] at h
          simp [h]
        · rw [if_neg q]; exact h
      refine ⟨re', P', by rw [if_pos rfl]; exact e1, e2, fun i j h => e3 i j (hle i j h), fun p j h1 h2 h3 h4 => ?_, fun T hT hPT => e5 T hT ?_⟩
      · by_cases q : p = k
        · subst q
          apply e3
          show (if o = o then (fun j => P o j || P p j) else P o) j = true
          rw [if_pos rfl]
          simp [h4]
        · exact e4 p j (by omega) h2 (hle o p h3) (hle p j h4)
      · intro i j h
        have h' : (if i = o then (fun j => P o j || P k j) else P i) j = true := h
        by_cases q : i = o
        · rw [if_pos q] at h'
          rw [q]
          simp only [Bool.or_eq_true] at h'
          rcases h' with h' | h'
          · exact hPT o j h'
          · exact hT o k j hk8 (hPT o k hb) (hPT k j h')
        · rw [if_neg q] at h'
          exact hPT i j h'
theorem p_L35 (v1 : Int32) : ∀ d k m (re : Nat → Int32) (P : Nat → Nat → Bool), k + d = 8 → d < m → reAt re P → ∃ re' P', F_M_fillReach_L35 v1 m re (nI k) = some re' ∧ reAt re' P' ∧ le2 P P' ∧ (∀ o p j, k ≤ o → o < 8 → p < 8 → P o p = true → P p j = true → P' o j = true) ∧ ∀ T, okT T → le2 P T → le2 P' T := by
  intro d
  induction d with
  | zero =>
    intro k m re P hk hm hP
    obtain ⟨m, rfl⟩ : ∃ z, m = z + 1 := ⟨m - 1, by omega⟩
    have e : k = 8 := by omega
    subst e
    refine ⟨re, P, ?_, hP, fun i j h => h, fun o p j h1 h2 => by omega, fun T _ h => h⟩
    rw [F_M_fillReach_L35, if_pos (by exact Int32.le_refl _)]
  | succ d ih =>
    intro k m re P hk hm hP
    obtain ⟨m, rfl⟩ : ∃ z, m = z + 1 := ⟨m - 1, by omega⟩
    have hk8 : k < 8 := by omega
    obtain ⟨re1, P1, e1, e2, e3, e4, e5⟩ := p_L43 hk8 v1 8 0 fu re P (by omega) (fu_lt (by omega)) hP
    rw [nI_0] at e1
    obtain ⟨re', P', f1, f2, f3, f4, f5⟩ := ih (k + 1) m re1 P1 (by omega) (by omega) e2
    refine ⟨re', P', ?_, f2, fun i j h => f3 i j (e3 i j h), fun o p j h1 h2 h3 h4 h5 => ?_, fun T hT h => f5 T hT (e5 T hT h)⟩
    · rw [F_M_fillReach_L35, if_neg (show ¬ (8 : Int32) ≤ nI k from nI_ge (b := 8) hk8 (by omega)), e1, ob1_s, nI_1]
      exact f1
    · by_cases q : o = k
      · subst q
        exact f3 o j (e4 p j (by omega) h3 h4 h5)
      · exact f4 o p j (by omega) h2 h3 (e3 o p h4) (e3 p j h5)
theorem p_L27 (E : Nat → Nat → Bool) : ∀ d k m (re : Nat → Int32) (P : Nat → Nat → Bool), k + d = 8 → d < m → reAt re P → (∀ i j, i < 8 → wk E k i j = true → P i j = true) → ∃ re' P', F_M_fillReach_L27 m re (nI k) = some re' ∧ reAt re' P' ∧ (∀ i j, i < 8 → wk E 8 i j = true → P' i j = true) ∧ ∀ T, okT T → le2 P T → le2 P' T := by
  intro d
  induction d with
  | zero =>
    intro k m re P hk hm hP hw
    obtain ⟨m, rfl⟩ : ∃ z, m = z + 1 := ⟨m - 1, by omega⟩
    have e : k = 8 := by omega
    subst e
    refine ⟨re, P, ?_, hP, hw, fun T _ h => h⟩
    rw [F_M_fillReach_L27, if_pos (by exact Int32.le_refl _)]
  | succ d ih =>
    intro k m re P hk hm hP hw
    obtain ⟨m, rfl⟩ : ∃ z, m = z + 1 := ⟨m - 1, by omega⟩
    have hk8 : k < 8 := by omega
    obtain ⟨re1, P1, e1, e2, e3, e4, e5⟩ := p_L35 (nI k) 8 0 fu re P (by omega) (fu_lt (by omega)) hP
    rw [nI_0] at e1
    obtain ⟨re', P', f1, f2, f3, f4⟩ := ih (k + 1) m re1 P1 (by omega) (by omega) e2 (fun i j hi h => by
      unfold wk at h
      simp only [Bool.or_eq_true, Bool.and_eq_true] at h
      rcases h with h | ⟨h, h'⟩
      · exact e3 i j (hw i j hi h)
      · exact e4 i k j (by omega) hi hk8 (hw i k hi h) (hw k j hk8 h'))
    refine ⟨re', P', ?_, f2, f3, fun T hT h => f4 T hT (e5 T hT h)⟩
    rw [F_M_fillReach_L27, if_neg (show ¬ (8 : Int32) ≤ nI k from nI_ge (b := 8) hk8 (by omega)), e1, ob1_s, nI_1]
    exact f1
/-- the reference's rounds end where the class's do -/
theorem p_reach27 {re : Nat → Int32} {E : Nat → Nat → Bool} (h : reAt re E) : ∃ re', F_M_fillReach_L27 fu re 0 = some re' ∧ reAt re' (wk E 8) := by
  obtain ⟨re', P', f1, f2, f3, f4⟩ := p_L27 E 8 0 fu re E (by omega) (fu_lt (by omega)) h (fun i j _ h => h)
  rw [nI_0] at f1
  refine ⟨re', f1, fun i hi => ?_⟩
  rw [f2 i hi]
  congr 1
  apply bm_ext
  intro j _
  have h1 := f3 i j hi
  have h2 := f4 (wk E 8) (fun i p j hp a b => wk_closed E 8 p i j hp a b) (fun i j h => wk_base E 8 i j h) i j
  rw [Bool.eq_iff_iff]
  exact ⟨h2, h1⟩
