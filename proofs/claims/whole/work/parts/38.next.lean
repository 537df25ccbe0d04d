/-! nextBehind -/
theorem bef_trans {rq : Nat → Rq} {cm : Nat → Nat} {a b c : Nat} (h1 : bef rq cm a b = true) (h2 : bef rq cm b c = true) : bef rq cm a c = true := by
  unfold bef at *
  cases ha : (rq a).2.2.2.2.2 <;> cases hb : (rq b).2.2.2.2.2 <;> cases hc : (rq c).2.2.2.2.2 <;> simp [ha, hb, hc] at h1 h2 ⊢ <;> omega
theorem bef_tri {rq : Nat → Rq} {cm : Nat → Nat} {a b : Nat} (h : cm a ≠ cm b) (h1 : bef rq cm a b = false) : bef rq cm b a = true := by
  unfold bef at *
  cases ha : (rq a).2.2.2.2.2 <;> cases hb : (rq b).2.2.2.2.2 <;> simp [ha, hb] at h1 ⊢ <;> omega
def mnF (rq : Nat → Rq) (cm : Nat → Nat) (c : Nat → Bool) (a : Option Nat) (k : Nat) : Option Nat := if c k then (match a with
  | none => some k
  | some x => if bef rq cm k x then some k else some x) else a
theorem mn_fold {rq : Nat → Rq} {cm : Nat → Nat} (c : Nat → Bool) (hinj : ∀ a b, a < 8 → b < 8 → c a = true → c b = true → cm a = cm b → a = b) : ∀ (l : List Nat) (S : List Nat) (a : Option Nat), (∀ y ∈ S ++ l, y < 8) → ((a = none ∧ ∀ y ∈ S, c y = false) ∨ ∃ x, a = some x ∧ x ∈ S ∧ c x = true ∧ ∀ y ∈ S, c y = true → y ≠ x → bef rq cm x y = true) →
    (l.foldl (mnF rq cm c) a = none ∧ ∀ y ∈ S ++ l, c y = false) ∨ ∃ x, l.foldl (mnF rq cm c) a = some x ∧ x ∈ S ++ l ∧ c x = true ∧ ∀ y ∈ S ++ l, c y = true → y ≠ x → bef rq cm x y = true := by
  intro l
  induction l with
  | nil => intro S a _ h; rw [List.append_nil]; exact h
  | cons k l ih =>
    intro S a h8 h
    have e0 : S ++ k :: l = (S ++ [k]) ++ l := by simp
    rw [List.foldl_cons, e0]
    rw [e0] at h8
    apply ih _ _ h8
    unfold mnF
    cases hc : c k with
    | false =>
      rw [if_neg (by decide)]
      rcases h with ⟨h1, h2⟩ | ⟨x, h1, h2, h3, h4⟩
      · refine Or.inl ⟨h1, fun y hy => ?_⟩
        rcases List.mem_append.mp hy with q | q
        · exact h2 y q
        · rw [List.mem_singleton.mp q]; exact hc
      · refine Or.inr ⟨x, h1, List.mem_append_left _ h2, h3, fun y hy hcy hne => ?_⟩
        rcases List.mem_append.mp hy with q | q
        · exact h4 y q hcy hne
        · rw [List.mem_singleton.mp q, hc] at hcy; cases hcy
    | true =>
      rw [if_pos rfl]
      rcases h with ⟨rfl, h2⟩ | ⟨x, rfl, h2, h3, h4⟩
      · refine Or.inr ⟨k, rfl, by simp, hc, fun y hy hcy hne => ?_⟩
        rcases List.mem_append.mp hy with q | q
        · rw [h2 y q] at hcy; cases hcy
        · exact absurd (List.mem_singleton.mp q) hne
      · cases hb : bef rq cm k x with
        | true =>
          refine Or.inr ⟨k, by simp [hb], by simp, hc, fun y hy hcy hne => ?_⟩
          rcases List.mem_append.mp hy with q | q
          · by_cases qx : y = x
            · rw [qx]; exact hb
            · exact bef_trans hb (h4 y q hcy qx)
          · exact absurd (List.mem_singleton.mp q) hne
        | false =>
          refine Or.inr ⟨x, by simp [hb], List.mem_append_left _ h2, h3, fun y hy hcy hne => ?_⟩
          rcases List.mem_append.mp hy with q | q
          · exact h4 y q hcy hne
          · have e := List.mem_singleton.mp q
            subst e
            exact bef_tri (fun e => hne (hinj _ _ (h8 _ (by simp)) (h8 _ (by simp [h2])) hc h3 e)) hb
theorem mn_head {rq : Nat → Rq} {cm : Nat → Nat} (c : Nat → Bool) (hinj : ∀ a b, a < 8 → b < 8 → c a = true → c b = true → cm a = cm b → a = b) (Q : List Nat) (hQ : ∀ j, j ∈ Q ↔ j < 8 ∧ c j = true) (hp : Q.Pairwise (fun a b => bef rq cm a b = true)) : (List.range 8).foldl (mnF rq cm c) none = Q.head? := by
  rcases mn_fold c hinj (List.range 8) [] none (fun y hy => by simpa using hy) (Or.inl ⟨rfl, fun y hy => by cases hy⟩) with ⟨h1, h2⟩ | ⟨x, h1, h2, h3, h4⟩
  · rw [h1]
    cases Q with
    | nil => rfl
    | cons z Q =>
      obtain ⟨a, b⟩ := (hQ z).mp List.mem_cons_self
      have := h2 z (by simpa using a)
      rw [b] at this
      cases this
  · rw [h1]
    have hx8 : x < 8 := by simpa using h2
    cases Q with
    | nil => exact absurd ((hQ x).mpr ⟨hx8, h3⟩) (by simp)
    | cons z Q =>
      obtain ⟨a, b⟩ := (hQ z).mp List.mem_cons_self
      by_cases q : z = x
      · rw [q]; rfl
      · have e1 := h4 z (by simpa using a) b q
        have hm : x ∈ z :: Q := (hQ x).mpr ⟨hx8, h3⟩
        rcases List.mem_cons.mp hm with e | e
        · exact absurd e.symm q
        · have e2 := (List.pairwise_cons.mp hp).1 x e
          rw [bef_asymm e2] at e1
          cases e1
def candB (st : Nat → Nat) (rq : Nat → Rq) (cm : Nat → Nat) (own : Option Nat) (j : Nat) : Bool := st j == 2 && (match own with
  | none => true
  | some o => j != o && bef rq cm o j)
theorem p_next {mst : Nat → Int32} {st : Nat → Nat} {mwk mwt mwm : Nat → Int32} {mwl mwh : Nat → Int64} {mwi mwc : Nat → Int32} {rq : Nat → Rq} {cm : Nat → Nat} (hs : stAt mst st) (h : mReq st mwk mwt mwm mwl mwh mwi mwc rq cm) (hinj : cmInj st cm) (own : Option Nat) (hown : ∀ o, own = some o → o < 8 ∧ st o = 2) (Q : List Nat) (hQ : ∀ j, j ∈ Q ↔ j < 8 ∧ candB st rq cm own j = true) (hp : Q.Pairwise (fun a b => bef rq cm a b = true)) : F_M_nextBehind mst mwi mwc (mI own) = some (mI Q.head?) := by
  obtain ⟨c, hcd⟩ : ∃ c, candB st rq cm own = c := ⟨_, rfl⟩
  have hc2 : ∀ j, c j = true → st j = 2 := fun j hj => by
    rw [← hcd] at hj
    unfold candB at hj
    simp only [Bool.and_eq_true] at hj
    simpa using hj.1
  have hQ' : ∀ j, j ∈ Q ↔ j < 8 ∧ c j = true := fun j => by rw [hQ j, ← hcd]
  unfold F_M_nextBehind
  have key := p_scan (List.range 8) (fun q a i => F_M_nextBehind_L4 mst mwi mwc (mI own) q (mI a) i) (mnF rq cm c) (fun a => some (mI a)) (fun a => ∀ x, a = some x → x < 8 ∧ st x = 2) (fun q a _ => by
      show F_M_nextBehind_L4 _ _ _ _ (q + 1) _ (nI 8) = _
      rw [F_M_nextBehind_L4, if_pos (by exact Int32.le_refl _)]) (fun q a k r hI hr => by
      obtain ⟨hk, rfl⟩ := range_at hr
      have hI2 : ∀ x, mnF rq cm c a r = some x → x < 8 ∧ st x = 2 := by
        intro x hx
        unfold mnF at hx
        cases hc : c r with
        | false => rw [hc, if_neg (by decide)] at hx; exact hI x hx
        | true =>
          rw [hc, if_pos rfl] at hx
          cases a with
          | none => cases hx; exact ⟨hk, hc2 _ hc⟩
          | some z =>
            simp only at hx
            by_cases hb : bef rq cm r z = true
            · rw [if_pos hb] at hx; cases hx; exact ⟨hk, hc2 _ hc⟩
            · rw [if_neg hb] at hx; cases hx; exact hI _ rfl
      refine ⟨hI2, ?_⟩
      show F_M_nextBehind_L4 _ _ _ _ (q + 1) _ _ = F_M_nextBehind_L4 _ _ _ _ q _ _
      have c0 : mst r = 2 ↔ st r = 2 := hs.eq (k := 2) hk (by omega)
      rw [F_M_nextBehind_L4, if_neg (show ¬ (8 : Int32) ≤ nI r from nI_ge (b := 8) hk (by omega))]
      simp only [jn0, nI_clamp (show r < 2 ^ 31 by omega), pz_gd2 hk (show 8 < 2 ^ 31 by omega), c0, nI_1]
      by_cases s2 : st r = 2
      · rw [if_pos s2]
        have hT : c r = true → (if mI a < 0 then F_M_nextBehind_L4 mst mwi mwc (mI own) q (nI r) (nI (r + 1)) else ob1 (F_M_isBefore mwi mwc (nI r) (mI a)) (fun r_6 => if r_6 = 0 then F_M_nextBehind_L4 mst mwi mwc (mI own) q (mI a) (nI (r + 1)) else F_M_nextBehind_L4 mst mwi mwc (mI own) q (nI r) (nI (r + 1)))) = F_M_nextBehind_L4 mst mwi mwc (mI own) q (mI (mnF rq cm c a r)) (nI (r + 1)) := by
          intro hc
          unfold mnF
          rw [hc, if_pos rfl]
          cases a with
          | none => rw [if_pos (show mI none < 0 by decide)]; rfl
          | some z =>
            obtain ⟨z8, z2⟩ := hI z rfl
            rw [if_neg (show ¬ mI (some z) < 0 from nI_pos (by omega)), show mI (some z) = nI z from rfl, p_isBefore h hk z8 s2 z2]
            simp only [ob1_s, p_b0]
            cases bef rq cm r z <;> rfl
        cases own with
        | none =>
          rw [if_neg (show ¬ nI r = mI none from pz_nm r (by omega)), if_pos (show mI none < 0 by decide)]
          exact hT (by rw [← hcd]; simp [candB, s2])
        | some o =>
          obtain ⟨o8, o2⟩ := hown o rfl
          have c1 : nI r = mI (some o) ↔ r = o := nI_eq (by omega) (by omega)
          simp only [c1]
          by_cases q1 : r = o
          · rw [if_pos q1]
            have : c r = false := by rw [← hcd]; simp [candB, q1]
            unfold mnF
            rw [this, if_neg (by decide)]
          · rw [if_neg q1, if_neg (show ¬ mI (some o) < 0 from nI_pos (by omega)), show mI (some o) = nI o from rfl, p_isBefore h o8 hk o2 s2]
            simp only [ob1_s, p_b0]
            cases hb : bef rq cm o r with
            | true =>
              rw [if_pos rfl]
              exact hT (by rw [← hcd]; simp [candB, s2, q1, hb])
            | false =>
              rw [if_neg (by decide)]
              have : c r = false := by rw [← hcd]; simp [candB, hb]
              unfold mnF
              rw [this, if_neg (by decide)]
      · rw [if_neg s2]
        have : c r = false := by rw [← hcd]; simp [candB, s2]
        unfold mnF
        rw [this, if_neg (by decide)]) (m := fu) (a := none) (fu_lt (by simp)) (fun x hx => by cases hx)
  rw [show mI none = (-1 : Int32) from rfl] at key
  rw [key]
  simp only [ob1_s]
  rw [mn_head c (fun a b a8 b8 ha hb e => hinj a b a8 b8 (hc2 _ ha) (hc2 _ hb) e) Q hQ' hp]
