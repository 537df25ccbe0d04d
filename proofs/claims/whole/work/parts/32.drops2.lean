/-! the drops, one by one -/
theorem nI_sub1 (n : Nat) : nI n - 1 = nI n + (-1) := Int32.sub_eq_add_neg _ _
theorem p_dropRanges {low lta : Nat → Int32} {llo lhi : Nat → Int64} {lmo : Nat → Int32} {rs : List Row} (h : rowsAt low lta llo lhi lmo rs) {o t : Nat} (ho : o < 8) (ht : t < 16) : ∃ (low' lta' : Nat → Int32) (llo' lhi' : Nat → Int64) (lmo' : Nat → Int32) (rs' : List Row), F_L_dropRanges low lta llo lhi lmo (nI rs.length) (nI o) (nI t) = some (low', lta', llo', lhi', lmo', nI rs'.length) ∧ rowsAt low' lta' llo' lhi' lmo' rs' ∧ rs'.Perm (rs.filter (fun r => !isOnB o t r)) := by
  obtain ⟨a', g', rs', e1, e2, e3, -⟩ := p_drops (γ := Unit) (isOnB o t) id (fun _ => rfl) (fun m a _ n i => F_L_dropRanges_L7 (nI o) (nI t) m a.1 a.2.1 a.2.2.1 a.2.2.2.1 a.2.2.2.2 (nI n) i) (fun a _ n => some (a.1, a.2.1, a.2.2.1, a.2.2.2.1, a.2.2.2.2, nI n)) (fun m a _ n => by
      show F_L_dropRanges_L7 _ _ (m + 1) _ _ _ _ _ _ _ = _
      rw [F_L_dropRanges_L7, if_pos (by decide)]) (fun m a _ rs k r h hr hc => by
      obtain ⟨hk, hk2, -⟩ := rowsAt.at h hr
      show F_L_dropRanges_L7 _ _ (m + 1) _ _ _ _ _ _ _ = F_L_dropRanges_L7 _ _ m _ _ _ _ _ _ _
      rw [F_L_dropRanges_L7, if_neg (nI_pos (by omega)), p_isOn h hr ho ht]
      simp only [ob1_s, p_b0]
      rw [hc, if_neg (by decide)]) (fun m a _ rs k r h hr hc => by
      obtain ⟨hk, hk2, -⟩ := rowsAt.at h hr
      have hl := h.1
      obtain ⟨n, hn⟩ : ∃ n, rs.length = n + 1 := ⟨rs.length - 1, by omega⟩
      show F_L_dropRanges_L7 _ _ (m + 1) _ _ _ _ _ _ _ = F_L_dropRanges_L7 _ _ m _ _ _ _ _ _ _
      rw [F_L_dropRanges_L7, if_neg (nI_pos (by omega)), p_isOn h hr ho ht]
      simp only [ob1_s, p_b0]
      rw [hc, if_pos rfl, hn, p_dropRow hk (by omega)]
      rfl) rs.length rs [] fu (low, lta, llo, lhi, lmo) () rfl (fu_lt (by have := h.1; omega)) (by rw [List.append_nil]; exact h)
  rw [List.append_nil] at e1 e3
  refine ⟨a'.1, a'.2.1, a'.2.2.1, a'.2.2.2.1, a'.2.2.2.2, rs', ?_, e2, e3⟩
  unfold F_L_dropRanges
  rw [nI_sub1, e1]
  rfl
theorem p_mDropRanges {low lta : Nat → Int32} {llo lhi : Nat → Int64} {lmo : Nat → Int32} {rs : List Row} (h : rowsAt low lta llo lhi lmo rs) {o t : Nat} (ho : o < 8) (ht : t < 16) (fr : Int32) : ∃ (low' lta' : Nat → Int32) (llo' lhi' : Nat → Int64) (lmo' : Nat → Int32) (rs' : List Row), F_M_dropRanges (nI rs.length) low lta lmo llo lhi fr (nI o) (nI t) = some (nI rs'.length, low', lta', lmo', llo', lhi', if rs.any (isOnB o t) then 1 else fr) ∧ rowsAt low' lta' llo' lhi' lmo' rs' ∧ rs'.Perm (rs.filter (fun r => !isOnB o t r)) := by
  obtain ⟨a', g', rs', e1, e2, e3, e4⟩ := p_drops (γ := Int32) (isOnB o t) (fun _ => 1) (fun _ => rfl) (fun m a g n i => F_M_dropRanges_L7 (nI o) (nI t) m (nI n) a.1 a.2.1 a.2.2.2.2 a.2.2.1 a.2.2.2.1 g i) (fun a g n => some (nI n, a.1, a.2.1, a.2.2.2.2, a.2.2.1, a.2.2.2.1, g)) (fun m a _ n => by
      show F_M_dropRanges_L7 _ _ (m + 1) _ _ _ _ _ _ _ _ = _
      rw [F_M_dropRanges_L7, if_pos (by decide)]) (fun m a _ rs k r h hr hc => by
      obtain ⟨hk, hk2, ⟨h1, h2, h3⟩, g1, g2, g3, g4, g5⟩ := rowsAt.at h hr
      show F_M_dropRanges_L7 _ _ (m + 1) _ _ _ _ _ _ _ _ = F_M_dropRanges_L7 _ _ m _ _ _ _ _ _ _ _
      have c1 : nI r.2.1 = nI t ↔ r.2.1 = t := nI_eq (by omega) (by omega)
      have c2 : nI r.1 = nI o ↔ r.1 = o := nI_eq (by omega) (by omega)
      rw [F_M_dropRanges_L7, if_neg (nI_pos (by omega))]
      simp only [nI_clamp (show k < 2 ^ 31 by omega), pz_gd2 hk (show 256 < 2 ^ 31 by omega), g1, g2, c1, c2]
      by_cases q1 : r.1 = o
      · by_cases q2 : r.2.1 = t
        · exfalso
          unfold isOnB at hc
          simp [q1, q2] at hc
        · rw [if_pos q1, if_neg q2]
      · rw [if_neg q1]) (fun m a _ rs k r h hr hc => by
      obtain ⟨hk, hk2, ⟨h1, h2, h3⟩, g1, g2, g3, g4, g5⟩ := rowsAt.at h hr
      have hl := h.1
      obtain ⟨n, hn⟩ : ∃ n, rs.length = n + 1 := ⟨rs.length - 1, by omega⟩
      show F_M_dropRanges_L7 _ _ (m + 1) _ _ _ _ _ _ _ _ = F_M_dropRanges_L7 _ _ m _ _ _ _ _ _ _ _
      have c1 : nI r.2.1 = nI t ↔ r.2.1 = t := nI_eq (by omega) (by omega)
      have c2 : nI r.1 = nI o ↔ r.1 = o := nI_eq (by omega) (by omega)
      have hq : r.1 = o ∧ r.2.1 = t := by unfold isOnB at hc; simpa using hc
      rw [F_M_dropRanges_L7, if_neg (nI_pos (by omega))]
      simp only [nI_clamp (show k < 2 ^ 31 by omega), pz_gd2 hk (show 256 < 2 ^ 31 by omega), g1, g2, c1, c2]
      rw [if_pos hq.1, if_pos hq.2, hn, p_dropRange hk (by omega)]
      rfl) rs.length rs [] fu (low, lta, llo, lhi, lmo) fr rfl (fu_lt (by have := h.1; omega)) (by rw [List.append_nil]; exact h)
  rw [List.append_nil] at e1 e3
  subst e4
  refine ⟨a'.1, a'.2.1, a'.2.2.1, a'.2.2.2.1, a'.2.2.2.2, rs', ?_, e2, e3⟩
  unfold F_M_dropRanges
  rw [nI_sub1, e1]
  rfl
