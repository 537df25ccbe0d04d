/-! reading locks go; all locks go -/
def rdB (o : Nat) (r : Row) : Bool := r.1 == o && r.2.2.2.2 != 5
theorem p_isReadingR {m : Nat} (h : m = 2 ∨ m = 4 ∨ m = 5) : F_K_isReading (nI m) = some (b2i (m != 5)) := by
  rcases h with rfl | rfl | rfl <;> decide
theorem p_dropReadingR {low lta : Nat → Int32} {llo lhi : Nat → Int64} {lmo : Nat → Int32} {rs : List Row} (h : rowsAt low lta llo lhi lmo rs) {o : Nat} (ho : o < 8) : ∃ (low' lta' : Nat → Int32) (llo' lhi' : Nat → Int64) (lmo' : Nat → Int32) (rs' : List Row), F_L_dropReading_L57 (nI o) fu low lta llo lhi lmo (nI rs.length) (nI rs.length - 1) = some (low', lta', llo', lhi', lmo', nI rs'.length) ∧ rowsAt low' lta' llo' lhi' lmo' rs' ∧ rs'.Perm (rs.filter (fun r => !rdB o r)) := by
  obtain ⟨a', g', rs', e1, e2, e3, -⟩ := p_drops (γ := Unit) (rdB o) id (fun _ => rfl) (fun m a _ n i => F_L_dropReading_L57 (nI o) m a.1 a.2.1 a.2.2.1 a.2.2.2.1 a.2.2.2.2 (nI n) i) (fun a _ n => some (a.1, a.2.1, a.2.2.1, a.2.2.2.1, a.2.2.2.2, nI n)) (fun m a _ n => by
      show F_L_dropReading_L57 _ (m + 1) _ _ _ _ _ _ _ = _
      rw [F_L_dropReading_L57, if_pos (by decide)]) (fun m a _ rs k r h hr hc => by
      obtain ⟨hk, hk2, ⟨h1, h2, h3⟩, g1, g2, g3, g4, g5⟩ := rowsAt.at h hr
      show F_L_dropReading_L57 _ (m + 1) _ _ _ _ _ _ _ = F_L_dropReading_L57 _ m _ _ _ _ _ _ _
      have c2 : nI r.1 = nI o ↔ r.1 = o := nI_eq (by omega) (by omega)
      rw [F_L_dropReading_L57, if_neg (nI_pos (by omega))]
      simp only [nI_clamp (show k < 2 ^ 31 by omega), pz_gd2 hk (show 256 < 2 ^ 31 by omega), g1, g5, c2, p_isReadingR h3, ob1_s, p_b0]
      by_cases q1 : r.1 = o
      · rw [if_pos q1]
        have : (r.2.2.2.2 != 5) = false := by unfold rdB at hc; simpa [q1] using hc
        rw [this, if_neg (by decide)]
      · rw [if_neg q1]) (fun m a _ rs k r h hr hc => by
      obtain ⟨hk, hk2, ⟨h1, h2, h3⟩, g1, g2, g3, g4, g5⟩ := rowsAt.at h hr
      have hl := h.1
      obtain ⟨n, hn⟩ : ∃ n, rs.length = n + 1 := ⟨rs.length - 1, by omega⟩
      show F_L_dropReading_L57 _ (m + 1) _ _ _ _ _ _ _ = F_L_dropReading_L57 _ m _ _ _ _ _ _ _
      have c2 : nI r.1 = nI o ↔ r.1 = o := nI_eq (by omega) (by omega)
      unfold rdB at hc
      rw [Bool.and_eq_true] at hc
      rw [F_L_dropReading_L57, if_neg (nI_pos (by omega))]
      simp only [nI_clamp (show k < 2 ^ 31 by omega), pz_gd2 hk (show 256 < 2 ^ 31 by omega), g1, g5, c2, p_isReadingR h3, ob1_s, p_b0]
      rw [if_pos (by simpa using hc.1), hc.2, if_pos rfl, hn, p_dropRow hk (by omega)]
      rfl) rs.length rs [] fu (low, lta, llo, lhi, lmo) () rfl (fu_lt (by have := h.1; omega)) (by rw [List.append_nil]; exact h)
  rw [List.append_nil] at e1 e3
  refine ⟨a'.1, a'.2.1, a'.2.2.1, a'.2.2.2.1, a'.2.2.2.2, rs', ?_, e2, e3⟩
  rw [nI_sub1]
  exact e1
theorem p_giveReadingR {low lta : Nat → Int32} {llo lhi : Nat → Int64} {lmo : Nat → Int32} {rs : List Row} (h : rowsAt low lta llo lhi lmo rs) {o : Nat} (ho : o < 8) : ∃ (low' lta' : Nat → Int32) (llo' lhi' : Nat → Int64) (lmo' : Nat → Int32) (rs' : List Row), F_M_giveReading_L87 (nI o) fu (nI rs.length) low lta lmo llo lhi (nI rs.length - 1) = some (nI rs'.length, low', lta', lmo', llo', lhi') ∧ rowsAt low' lta' llo' lhi' lmo' rs' ∧ rs'.Perm (rs.filter (fun r => !rdB o r)) := by
  obtain ⟨a', g', rs', e1, e2, e3, -⟩ := p_drops (γ := Unit) (rdB o) id (fun _ => rfl) (fun m a _ n i => F_M_giveReading_L87 (nI o) m (nI n) a.1 a.2.1 a.2.2.2.2 a.2.2.1 a.2.2.2.1 i) (fun a _ n => some (nI n, a.1, a.2.1, a.2.2.2.2, a.2.2.1, a.2.2.2.1)) (fun m a _ n => by
      show F_M_giveReading_L87 _ (m + 1) _ _ _ _ _ _ _ = _
      rw [F_M_giveReading_L87, if_pos (by decide)]) (fun m a _ rs k r h hr hc => by
      obtain ⟨hk, hk2, ⟨h1, h2, h3⟩, g1, g2, g3, g4, g5⟩ := rowsAt.at h hr
      show F_M_giveReading_L87 _ (m + 1) _ _ _ _ _ _ _ = F_M_giveReading_L87 _ m _ _ _ _ _ _ _
      have c2 : nI r.1 = nI o ↔ r.1 = o := nI_eq (by omega) (by omega)
      have c3 : nI r.2.2.2.2 = 5 ↔ r.2.2.2.2 = 5 := nI_eq (b := 5) (by omega) (by omega)
      rw [F_M_giveReading_L87, if_neg (nI_pos (by omega))]
      simp only [nI_clamp (show k < 2 ^ 31 by omega), pz_gd2 hk (show 256 < 2 ^ 31 by omega), g1, g5, c2, c3]
      by_cases q1 : r.1 = o
      · rw [if_pos q1]
        have : r.2.2.2.2 = 5 := by unfold rdB at hc; simpa [q1] using hc
        rw [if_pos this]
      · rw [if_neg q1]) (fun m a _ rs k r h hr hc => by
      obtain ⟨hk, hk2, ⟨h1, h2, h3⟩, g1, g2, g3, g4, g5⟩ := rowsAt.at h hr
      have hl := h.1
      obtain ⟨n, hn⟩ : ∃ n, rs.length = n + 1 := ⟨rs.length - 1, by omega⟩
      show F_M_giveReading_L87 _ (m + 1) _ _ _ _ _ _ _ = F_M_giveReading_L87 _ m _ _ _ _ _ _ _
      have c2 : nI r.1 = nI o ↔ r.1 = o := nI_eq (by omega) (by omega)
      have c3 : nI r.2.2.2.2 = 5 ↔ r.2.2.2.2 = 5 := nI_eq (b := 5) (by omega) (by omega)
      unfold rdB at hc
      rw [Bool.and_eq_true] at hc
      rw [F_M_giveReading_L87, if_neg (nI_pos (by omega))]
      simp only [nI_clamp (show k < 2 ^ 31 by omega), pz_gd2 hk (show 256 < 2 ^ 31 by omega), g1, g5, c2, c3]
      rw [if_pos (by simpa using hc.1), if_neg (by simpa using hc.2), hn, p_dropRange hk (by omega)]
      rfl) rs.length rs [] fu (low, lta, llo, lhi, lmo) () rfl (fu_lt (by have := h.1; omega)) (by rw [List.append_nil]; exact h)
  rw [List.append_nil] at e1 e3
  refine ⟨a'.1, a'.2.1, a'.2.2.1, a'.2.2.2.1, a'.2.2.2.2, rs', ?_, e2, e3⟩
  rw [nI_sub1]
  exact e1
theorem p_dropAllR {low lta : Nat → Int32} {llo lhi : Nat → Int64} {lmo : Nat → Int32} {rs : List Row} (h : rowsAt low lta llo lhi lmo rs) {o : Nat} (ho : o < 8) : ∃ (low' lta' : Nat → Int32) (llo' lhi' : Nat → Int64) (lmo' : Nat → Int32) (rs' : List Row), F_L_dropAll_L28 (nI o) fu low lta llo lhi lmo (nI rs.length) (nI rs.length - 1) = some (low', lta', llo', lhi', lmo', nI rs'.length) ∧ rowsAt low' lta' llo' lhi' lmo' rs' ∧ rs'.Perm (rs.filter (fun r => !(r.1 == o))) := by
  obtain ⟨a', g', rs', e1, e2, e3, -⟩ := p_drops (γ := Unit) (fun r => r.1 == o) id (fun _ => rfl) (fun m a _ n i => F_L_dropAll_L28 (nI o) m a.1 a.2.1 a.2.2.1 a.2.2.2.1 a.2.2.2.2 (nI n) i) (fun a _ n => some (a.1, a.2.1, a.2.2.1, a.2.2.2.1, a.2.2.2.2, nI n)) (fun m a _ n => by
      show F_L_dropAll_L28 _ (m + 1) _ _ _ _ _ _ _ = _
      rw [F_L_dropAll_L28, if_pos (by decide)]) (fun m a _ rs k r h hr hc => by
      obtain ⟨hk, hk2, ⟨h1, h2, h3⟩, g1, g2, g3, g4, g5⟩ := rowsAt.at h hr
      show F_L_dropAll_L28 _ (m + 1) _ _ _ _ _ _ _ = F_L_dropAll_L28 _ m _ _ _ _ _ _ _
      have c2 : nI r.1 = nI o ↔ r.1 = o := nI_eq (by omega) (by omega)
      rw [F_L_dropAll_L28, if_neg (nI_pos (by omega))]
      simp only [nI_clamp (show k < 2 ^ 31 by omega), pz_gd2 hk (show 256 < 2 ^ 31 by omega), g1, c2]
      rw [if_neg (by simpa using hc)]) (fun m a _ rs k r h hr hc => by
      obtain ⟨hk, hk2, ⟨h1, h2, h3⟩, g1, g2, g3, g4, g5⟩ := rowsAt.at h hr
      have hl := h.1
      obtain ⟨n, hn⟩ : ∃ n, rs.length = n + 1 := ⟨rs.length - 1, by omega⟩
      show F_L_dropAll_L28 _ (m + 1) _ _ _ _ _ _ _ = F_L_dropAll_L28 _ m _ _ _ _ _ _ _
      have c2 : nI r.1 = nI o ↔ r.1 = o := nI_eq (by omega) (by omega)
      rw [F_L_dropAll_L28, if_neg (nI_pos (by omega))]
      simp only [nI_clamp (show k < 2 ^ 31 by omega), pz_gd2 hk (show 256 < 2 ^ 31 by omega), g1, c2]
      rw [if_pos (by simpa using hc), hn, p_dropRow hk (by omega)]
      rfl) rs.length rs [] fu (low, lta, llo, lhi, lmo) () rfl (fu_lt (by have := h.1; omega)) (by rw [List.append_nil]; exact h)
  rw [List.append_nil] at e1 e3
  refine ⟨a'.1, a'.2.1, a'.2.2.1, a'.2.2.2.1, a'.2.2.2.2, rs', ?_, e2, e3⟩
  rw [nI_sub1]
  exact e1
/-- the tables of an owner, one by one -/
theorem tmAt.congr {ltm : Nat → Int32} {tm tm' : Nat → Nat → Option Nat} (h : tmAt ltm tm) (e : ∀ a b, a < 8 → b < 16 → tm' a b = tm a b) : tmAt ltm tm' := by
  intro a b ha hb
  rw [e a b ha hb]
  exact h a b ha hb
theorem p_tabs {β : Type} (o : Nat) (g : Option Nat → Option Nat) (L : Nat → (Nat → Int32) → Int32 → Option β) (out : (Nat → Int32) → Option β) (hx : ∀ m a, L (m + 1) a (nI 16) = out a) (hs : ∀ m a tm k, k < 16 → tmAt a tm → ∃ a2, L (m + 1) a (nI k) = L m a2 (nI (k + 1)) ∧ tmAt a2 (tmSet tm o k (g (tm o k)))) :
    ∀ d k m a tm, k + d = 16 → d < m → tmAt a tm → ∃ a', L m a (nI k) = out a' ∧ tmAt a' (fun x b => if x = o ∧ k ≤ b then g (tm x b) else tm x b) := by
  intro d
  induction d with
  | zero =>
    intro k m a tm hk hm h
    obtain ⟨m, rfl⟩ : ∃ z, m = z + 1 := ⟨m - 1, by omega⟩
    have e : k = 16 := by omega
    subst e
    exact ⟨a, hx m a, h.congr (fun x b _ hb => if_neg (by omega))⟩
  | succ d ih =>
    intro k m a tm hk hm h
    obtain ⟨m, rfl⟩ : ∃ z, m = z + 1 := ⟨m - 1, by omega⟩
    obtain ⟨a2, e1, e2⟩ := hs m a tm k (by omega) h
    obtain ⟨a', e3, e4⟩ := ih (k + 1) m a2 _ (by omega) (by omega) e2
    refine ⟨a', by rw [e1, e3], e4.congr (fun x b _ hb => ?_)⟩
    unfold tmSet
    by_cases q1 : x = o
    · by_cases q2 : b = k
      · subst q1; subst q2
        rw [if_pos ⟨rfl, Nat.le_refl _⟩, if_neg (by omega), if_pos ⟨rfl, rfl⟩]
      · by_cases q3 : k ≤ b
        · rw [if_pos ⟨q1, q3⟩, if_pos ⟨q1, by omega⟩, if_neg (by omega)]
        · rw [if_neg (by omega), if_neg (by omega), if_neg (by omega)]
    · rw [if_neg (by omega), if_neg (by omega), if_neg (by omega)]
def rdM (m : Option Nat) : Option Nat := match m with
  | some 3 => some 1
  | some 1 => some 1
  | some 5 => some 5
  | _ => none
