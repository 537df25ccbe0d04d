/-! rows that go: the last takes the place -/
def rot {α : Type} (l : List α) : List α := match l.getLast? with
  | none => []
  | some x => x :: l.dropLast
theorem rot_perm {α : Type} (l : List α) : (rot l).Perm l := by
  unfold rot
  cases h : l.getLast? with
  | none => rw [List.getLast?_eq_none_iff.mp h]
  | some x =>
    have e : l = l.dropLast ++ [x] := by
      have hne : l ≠ [] := by intro q; rw [q] at h; cases h
      have h2 : l.getLast hne = x := by
        rw [List.getLast?_eq_some_getLast hne] at h
        exact Option.some.inj h
      rw [← h2]
      exact (List.dropLast_concat_getLast hne).symm
    show (x :: l.dropLast).Perm l
    conv => rhs; rw [e]
    exact (List.perm_append_singleton x l.dropLast).symm
theorem rot_len {α : Type} (l : List α) : (rot l).length = l.length := (rot_perm l).length_eq
/-- the k-th place of the list behind the change -/
theorem rot_at {α : Type} (A B : List α) (x : α) (k : Nat) (hk : k < A.length + B.length) : (A ++ rot B)[k]? = (A ++ x :: B)[if k = A.length then A.length + B.length else k]? := by
  by_cases h1 : k < A.length
  · rw [if_neg (by omega), List.getElem?_append_left h1, List.getElem?_append_left h1]
  · rw [List.getElem?_append_right (by omega)]
    have hB : 0 < B.length := by omega
    have hne : B ≠ [] := by intro q; rw [q] at hB; simp at hB
    have hg : B.getLast? = some (B.getLast hne) := List.getLast?_eq_some_getLast hne
    have hr : rot B = B.getLast hne :: B.dropLast := by unfold rot; rw [hg]
    rw [hr]
    by_cases h2 : k = A.length
    · rw [if_pos h2, h2, Nat.sub_self, List.getElem?_cons_zero, List.getElem?_append_right (by omega), show A.length + B.length - A.length = (B.length - 1) + 1 by omega, List.getElem?_cons_succ, List.getLast_eq_getElem, List.getElem?_eq_getElem (by omega)]
    · rw [if_neg h2, List.getElem?_append_right (by omega), show k - A.length = (k - A.length - 1) + 1 by omega, List.getElem?_cons_succ, List.getElem?_cons_succ, List.getElem?_dropLast, if_pos (by omega)]
theorem rows_drop {ow ta : Nat → Int32} {lo hi : Nat → Int64} {mo : Nat → Int32} {A B : List Row} {x : Row} (h : rowsAt ow ta lo hi mo (A ++ x :: B)) : rowsAt (upd ow A.length (ow (A.length + B.length))) (upd ta A.length (ta (A.length + B.length))) (vp_updL lo A.length (lo (A.length + B.length))) (vp_updL hi A.length (hi (A.length + B.length))) (upd mo A.length (mo (A.length + B.length))) (A ++ rot B) := by
  obtain ⟨h1, h2, h3⟩ := h
  have hlen : (A ++ rot B).length = A.length + B.length := by rw [List.length_append, rot_len]
  have hlen2 : (A ++ x :: B).length = A.length + B.length + 1 := by rw [List.length_append, List.length_cons]; omega
  refine ⟨by omega, fun r hr => h2 r ?_, fun k r hr => ?_⟩
  · rcases List.mem_append.mp hr with q | q
    · exact List.mem_append_left _ q
    · exact List.mem_append_right _ (List.mem_cons_of_mem _ ((rot_perm B).mem_iff.mp q))
  · have hk : k < A.length + B.length := by rw [← hlen]; exact (List.getElem?_eq_some_iff.mp hr).1
    rw [rot_at A B x k hk] at hr
    unfold upd vp_updL
    by_cases q : k = A.length
    · rw [if_pos q] at hr
      simp only [if_pos q]
      exact h3 _ r hr
    · rw [if_neg q] at hr
      simp only [if_neg q]
      exact h3 _ r hr
theorem p_dropRow {ow ta : Nat → Int32} {lo hi : Nat → Int64} {mo : Nat → Int32} {a n : Nat} (ha : a < 256) (hn : n < 256) : F_L_dropRow ow ta lo hi mo (nI (n + 1)) (nI a) = some (upd ow a (ow n), upd ta a (ta n), vp_updL lo a (lo n), vp_updL hi a (hi n), upd mo a (mo n), nI n) := by
  unfold F_L_dropRow
  simp only [nI_pred, nI_clamp (show a < 2 ^ 31 by omega), nI_clamp (show n < 2 ^ 31 by omega), pz_gd2 ha (show 256 < 2 ^ 31 by omega), pz_gd2 hn (show 256 < 2 ^ 31 by omega)]
theorem p_dropRange {ow ta : Nat → Int32} {lo hi : Nat → Int64} {mo : Nat → Int32} {a n : Nat} (ha : a < 256) (hn : n < 256) : F_M_dropRange (nI (n + 1)) ow ta mo lo hi (nI a) = some (nI n, upd ow a (ow n), upd ta a (ta n), upd mo a (mo n), vp_updL lo a (lo n), vp_updL hi a (hi n)) := by
  unfold F_M_dropRange
  simp only [nI_pred, nI_clamp (show a < 2 ^ 31 by omega), nI_clamp (show n < 2 ^ 31 by omega), pz_gd2 ha (show 256 < 2 ^ 31 by omega), pz_gd2 hn (show 256 < 2 ^ 31 by omega)]
abbrev Arr : Type := (Nat → Int32) × (Nat → Int32) × (Nat → Int64) × (Nat → Int64) × (Nat → Int32)
def arrAt (a : Arr) (rs : List Row) : Prop := rowsAt a.1 a.2.1 a.2.2.1 a.2.2.2.1 a.2.2.2.2 rs
def arrDrop (a : Arr) (k n : Nat) : Arr := (upd a.1 k (a.1 n), upd a.2.1 k (a.2.1 n), vp_updL a.2.2.1 k (a.2.2.1 n), vp_updL a.2.2.2.1 k (a.2.2.2.1 n), upd a.2.2.2.2 k (a.2.2.2.2 n))
theorem ix_pred (k : Nat) : nI (k + 1) + (-1) = nI k := pk_m1 k
/-- downwards over the rows; those with c go -/
theorem p_drops {β γ : Type} (c : Row → Bool) (fs : γ → γ) (hfs : ∀ g, fs (fs g) = fs g) (L : Nat → Arr → γ → Nat → Int32 → Option β) (out : Arr → γ → Nat → Option β) (hx : ∀ m a g n, L (m + 1) a g n (-1) = out a g n)
    (hs : ∀ m a g rs k r, arrAt a rs → rs[k]? = some r → c r = false → L (m + 1) a g rs.length (nI k) = L m a g rs.length (nI k + (-1)))
    (hd : ∀ m a g rs k r, arrAt a rs → rs[k]? = some r → c r = true → L (m + 1) a g rs.length (nI k) = L m (arrDrop a k (rs.length - 1)) (fs g) (rs.length - 1) (nI k + (-1))) :
    ∀ (n : Nat) (A B : List Row) (m : Nat) (a : Arr) (g : γ), A.length = n → n < m → arrAt a (A ++ B) → ∃ (a' : Arr) (g' : γ) (rs' : List Row), L m a g (A ++ B).length (nI n + (-1)) = out a' g' rs'.length ∧ arrAt a' rs' ∧ rs'.Perm (A.filter (fun r => !c r) ++ B) ∧ g' = (if A.any c then fs g else g) := by
  intro n
  induction n with
  | zero =>
    intro A B m a g hA hm h
    obtain ⟨m, rfl⟩ : ∃ z, m = z + 1 := ⟨m - 1, by omega⟩
    have e : A = [] := List.length_eq_zero_iff.mp hA
    subst e
    refine ⟨a, g, B, ?_, h, List.Perm.refl _, rfl⟩
    rw [show nI 0 + (-1) = (-1 : Int32) by decide, hx]
    rfl
  | succ n ih =>
    intro A B m a g hA hm h
    obtain ⟨m, rfl⟩ : ∃ z, m = z + 1 := ⟨m - 1, by omega⟩
    have hne : A ≠ [] := by intro q; rw [q] at hA; cases hA
    obtain ⟨A0, x, rfl⟩ : ∃ A0 x, A = A0 ++ [x] := ⟨A.dropLast, A.getLast hne, (List.dropLast_concat_getLast hne).symm⟩
    have hl0 : A0.length = n := by rw [List.length_append, List.length_singleton] at hA; omega
    have h' : arrAt a (A0 ++ x :: B) := by rw [List.append_assoc] at h; exact h
    have hat : (A0 ++ x :: B)[n]? = some x := by rw [List.getElem?_append_right (by omega), hl0, Nat.sub_self]; rfl
    have hlen : (A0 ++ [x] ++ B).length = (A0 ++ x :: B).length := by rw [List.append_assoc]; rfl
    rw [ix_pred, hlen]
    cases hc : c x with
    | false =>
      rw [hs m a g _ n x h' hat hc]
      obtain ⟨a', g', rs', e1, e2, e3, e4⟩ := ih A0 (x :: B) m a g hl0 (by omega) h'
      refine ⟨a', g', rs', e1, e2, ?_, ?_⟩
      · rw [List.filter_append, List.filter_cons, hc]
        simpa using e3
      · have hany : (A0 ++ [x]).any c = A0.any c := by rw [List.any_append]; simp [hc]
        rw [hany]
        exact e4
    | true =>
      rw [hd m a g _ n x h' hat hc]
      have hd2 : arrAt (arrDrop a n ((A0 ++ x :: B).length - 1)) (A0 ++ rot B) := by
        have := rows_drop h'
        rw [show (A0 ++ x :: B).length - 1 = A0.length + B.length by rw [List.length_append, List.length_cons]; omega, ← hl0]
        exact this
      have hlen2 : (A0 ++ x :: B).length - 1 = (A0 ++ rot B).length := by rw [List.length_append, List.length_append, List.length_cons, rot_len]; omega
      rw [show (A0 ++ x :: B).length - 1 = (A0 ++ rot B).length from hlen2] at hd2 ⊢
      obtain ⟨a', g', rs', e1, e2, e3, e4⟩ := ih A0 (rot B) m _ (fs g) hl0 (by omega) hd2
      refine ⟨a', g', rs', e1, e2, ?_, ?_⟩
      · rw [List.filter_append, List.filter_cons, hc]
        refine e3.trans ?_
        rw [if_neg (by decide), List.filter_nil, List.append_nil]
        exact List.Perm.append_left _ (rot_perm B)
      · have hany : (A0 ++ [x]).any c = true := by rw [List.any_append]; simp [hc]
        rw [hany, e4, if_pos rfl]
        cases A0.any c with
        | true => rw [if_pos rfl, hfs]
        | false => rw [if_neg (by decide)]
