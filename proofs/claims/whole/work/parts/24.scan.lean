/-! loops over rows -/
theorem p_scan0 {α β ρ : Type} (rs : List ρ) (L : Nat → α → Int32 → Option β) (f : α → ρ → α) (out : α → Option β) (I : α → Prop) (h0 : ∀ m a, I a → L (m + 1) a (nI rs.length) = out a) (hs : ∀ m a k r, I a → rs[k]? = some r → I (f a r) ∧ L (m + 1) a (nI k) = L m (f a r) (nI (k + 1))) :
    ∀ d k m a, k + d = rs.length → d < m → I a → L m a (nI k) = out ((rs.drop k).foldl f a) := by
  intro d
  induction d with
  | zero =>
    intro k m a hk hm ha
    obtain ⟨m, rfl⟩ : ∃ z, m = z + 1 := ⟨m - 1, by omega⟩
    have e : k = rs.length := by omega
    subst e
    rw [h0 m a ha, List.drop_eq_nil_of_le (Nat.le_refl _)]
    rfl
  | succ d ih =>
    intro k m a hk hm ha
    obtain ⟨m, rfl⟩ : ∃ z, m = z + 1 := ⟨m - 1, by omega⟩
    have hlt : k < rs.length := by omega
    have hr : rs[k]? = some rs[k] := List.getElem?_eq_getElem hlt
    obtain ⟨h1, h2⟩ := hs m a k rs[k] ha hr
    rw [h2, ih (k + 1) m (f a rs[k]) (by omega) (by omega) h1, List.drop_eq_getElem_cons hlt]
    rfl
theorem p_scan {α β ρ : Type} (rs : List ρ) (L : Nat → α → Int32 → Option β) (f : α → ρ → α) (out : α → Option β) (I : α → Prop) (h0 : ∀ m a, I a → L (m + 1) a (nI rs.length) = out a) (hs : ∀ m a k r, I a → rs[k]? = some r → I (f a r) ∧ L (m + 1) a (nI k) = L m (f a r) (nI (k + 1))) {m : Nat} {a : α} (hm : rs.length < m) (ha : I a) : L m a 0 = out (rs.foldl f a) := by
  have h := p_scan0 rs L f out I h0 hs rs.length 0 m a (by omega) hm ha
  rw [nI_0] at h
  rw [h, List.drop_zero]
theorem p_any0 {β ρ : Type} (rs : List ρ) (L : Nat → Int32 → Option β) (P : ρ → Bool) (yes no : Option β) (h0 : ∀ m, L (m + 1) (nI rs.length) = no) (hy : ∀ m k r, rs[k]? = some r → P r = true → L (m + 1) (nI k) = yes) (hn : ∀ m k r, rs[k]? = some r → P r = false → L (m + 1) (nI k) = L m (nI (k + 1))) :
    ∀ d k m, k + d = rs.length → d < m → L m (nI k) = if (rs.drop k).any P then yes else no := by
  intro d
  induction d with
  | zero =>
    intro k m hk hm
    obtain ⟨m, rfl⟩ : ∃ z, m = z + 1 := ⟨m - 1, by omega⟩
    have e : k = rs.length := by omega
    subst e
    rw [h0 m, List.drop_eq_nil_of_le (Nat.le_refl _)]
    rfl
  | succ d ih =>
    intro k m hk hm
    obtain ⟨m, rfl⟩ : ∃ z, m = z + 1 := ⟨m - 1, by omega⟩
    have hlt : k < rs.length := by omega
    have hr : rs[k]? = some rs[k] := List.getElem?_eq_getElem hlt
    rw [List.drop_eq_getElem_cons hlt, List.any_cons]
    cases hp : P rs[k] with
    | true => rw [hy m k _ hr hp]; rfl
    | false => rw [hn m k _ hr hp, ih (k + 1) m (by omega) (by omega)]; rfl
theorem p_any {β ρ : Type} (rs : List ρ) (L : Nat → Int32 → Option β) (P : ρ → Bool) (yes no : Option β) (h0 : ∀ m, L (m + 1) (nI rs.length) = no) (hy : ∀ m k r, rs[k]? = some r → P r = true → L (m + 1) (nI k) = yes) (hn : ∀ m k r, rs[k]? = some r → P r = false → L (m + 1) (nI k) = L m (nI (k + 1))) {m : Nat} (hm : rs.length < m) : L m 0 = if rs.any P then yes else no := by
  have h := p_any0 rs L P yes no h0 hy hn rs.length 0 m (by omega) hm
  rw [nI_0] at h
  rw [h, List.drop_zero]
theorem fu_lt {n : Nat} (h : n ≤ 4000) : n < fu := by unfold fu; omega
/-- a row of a range lock: owner, table, low, high, mode -/
abbrev Row : Type := Nat × Nat × Int64 × Int64 × Nat
def rowOk (r : Row) : Prop := r.1 < 8 ∧ r.2.1 < 16 ∧ (r.2.2.2.2 = 2 ∨ r.2.2.2.2 = 4 ∨ r.2.2.2.2 = 5)
def rowsAt (ow ta : Nat → Int32) (lo hi : Nat → Int64) (mo : Nat → Int32) (rs : List Row) : Prop := rs.length ≤ 256 ∧ (∀ r ∈ rs, rowOk r) ∧ ∀ k (r : Row), rs[k]? = some r → ow k = nI r.1 ∧ ta k = nI r.2.1 ∧ lo k = r.2.2.1 ∧ hi k = r.2.2.2.1 ∧ mo k = nI r.2.2.2.2
theorem rowsAt.at {ow ta : Nat → Int32} {lo hi : Nat → Int64} {mo : Nat → Int32} {rs : List Row} (h : rowsAt ow ta lo hi mo rs) {k : Nat} {r : Row} (hr : rs[k]? = some r) : k < 256 ∧ k < rs.length ∧ rowOk r ∧ ow k = nI r.1 ∧ ta k = nI r.2.1 ∧ lo k = r.2.2.1 ∧ hi k = r.2.2.2.1 ∧ mo k = nI r.2.2.2.2 := by
  have h1 : k < rs.length := (List.getElem?_eq_some_iff.mp hr).1
  have h2 := h.1
  exact ⟨by omega, h1, h.2.1 r (List.mem_of_getElem? hr), h.2.2 k r hr⟩
theorem pz_eqb {a b : Nat} (ha : a < 2 ^ 31) (hb : b < 2 ^ 31) : (nI a = nI b) = ((a == b) = true) := by
  rw [nI_eq ha hb]
  simp
def isOnB (o t : Nat) (r : Row) : Bool := r.1 == o && r.2.1 == t
theorem p_isOn {low lta : Nat → Int32} {llo lhi : Nat → Int64} {lmo : Nat → Int32} {rs : List Row} (h : rowsAt low lta llo lhi lmo rs) {k o t : Nat} {r : Row} (hr : rs[k]? = some r) (ho : o < 8) (ht : t < 16) : F_L_isOn low lta (nI k) (nI o) (nI t) = some (b2i (isOnB o t r)) := by
  obtain ⟨hk, -, ⟨h1, h2, h3⟩, e1, e2, e3, e4, e5⟩ := h.at hr
  unfold F_L_isOn isOnB b2i
  rw [pz_gd hk (by omega), pz_gd hk (by omega), nI_clamp (by omega), e1, e2]
  by_cases q1 : r.1 = o
  · rw [if_pos (by rw [q1])]
    by_cases q2 : r.2.1 = t
    · rw [if_pos (by rw [q2])]; simp [q1, q2]
    · rw [if_neg (pz_ne (by omega) (by omega) q2)]; simp [q1, q2]
  · rw [if_neg (pz_ne (by omega) (by omega) q1)]; simp [q1]
theorem p_countRanges {low lta : Nat → Int32} {llo lhi : Nat → Int64} {lmo : Nat → Int32} {rs : List Row} (h : rowsAt low lta llo lhi lmo rs) {o t : Nat} (ho : o < 8) (ht : t < 16) : F_L_countRanges low lta (nI rs.length) (nI o) (nI t) = some (nI (rs.countP (isOnB o t))) := by
  unfold F_L_countRanges
  have hl := h.1
  have key := p_scan rs (fun m a i => F_L_countRanges_L5 low lta (nI rs.length) (nI o) (nI t) m (nI a) i) (fun a r => if isOnB o t r then a + 1 else a) (fun a => some (nI a)) (fun _ => True) (fun m a _ => by
      show F_L_countRanges_L5 _ _ _ _ _ (m + 1) _ _ = _
      rw [F_L_countRanges_L5, if_pos (by exact Int32.le_refl _)]) (fun m a k r _ hr => by
      refine ⟨trivial, ?_⟩
      obtain ⟨hk, hk2, -⟩ := h.at hr
      show F_L_countRanges_L5 _ _ _ _ _ (m + 1) _ _ = F_L_countRanges_L5 _ _ _ _ _ m _ _
      rw [F_L_countRanges_L5, if_neg (nI_ge hk2 (by omega)), p_isOn h hr ho ht]
      unfold b2i ob1
      cases hb : isOnB o t r with
      | true => simp [nI_1]
      | false => simp [nI_1]) (m := fu) (a := 0) (fu_lt (by omega)) trivial
  rw [← nI_0] at key ⊢
  rw [key]
  unfold ob1
  simp only
  congr 2
  rw [List.countP_eq_length_filter]
  have gen : ∀ (l : List Row) (a : Nat), l.foldl (fun a r => if isOnB o t r then a + 1 else a) a = a + (l.filter (isOnB o t)).length := by
    intro l
    induction l with
    | nil => intro a; rfl
    | cons x l ih =>
      intro a
      rw [List.foldl_cons, ih, List.filter_cons]
      cases isOnB o t x with
      | true => simp; omega
      | false => simp
  rw [gen]
  omega
