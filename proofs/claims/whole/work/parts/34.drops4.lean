/-! reading locks go, all locks go: whole -/
theorem tm_same {ltm : Nat → Int32} {tm : Nat → Nat → Option Nat} (h : tmAt ltm tm) {o k : Nat} {m : Option Nat} (e : m = tm o k) : tmAt ltm (tmSet tm o k m) := h.congr (fun a b _ _ => by
  unfold tmSet
  by_cases q : a = o ∧ b = k
  · rw [if_pos q, e, q.1, q.2]
  · rw [if_neg q])
theorem p_dropReading {ltm low lta : Nat → Int32} {llo lhi : Nat → Int64} {lmo : Nat → Int32} {rs : List Row} {tm : Nat → Nat → Option Nat} (h : rowsAt low lta llo lhi lmo rs) (ht : tmAt ltm tm) {o : Nat} (ho : o < 8) : ∃ (ltm' low' lta' : Nat → Int32) (llo' lhi' : Nat → Int64) (lmo' : Nat → Int32) (rs' : List Row), F_L_dropReading ltm low lta llo lhi lmo (nI rs.length) (nI o) = some (ltm', low', lta', llo', lhi', lmo', nI rs'.length) ∧ tmAt ltm' (fun x b => if x = o then rdM (tm x b) else tm x b) ∧ rowsAt low' lta' llo' lhi' lmo' rs' ∧ rs'.Perm (rs.filter (fun r => !rdB o r)) := by
  obtain ⟨low', lta', llo', lhi', lmo', rs', e1, e2, e3⟩ := p_dropReadingR h ho
  obtain ⟨a', e4, e5⟩ := p_tabs o rdM (fun m a i => F_L_dropReading_L2 (nI o) m a i) some (fun m a => by
      show F_L_dropReading_L2 _ (m + 1) _ _ = _
      rw [F_L_dropReading_L2, if_pos (by decide)]) (fun m a tm k hk h => by
      show ∃ a2, F_L_dropReading_L2 _ (m + 1) _ _ = F_L_dropReading_L2 _ m _ _ ∧ _
      rw [F_L_dropReading_L2, if_neg (show ¬ (16 : Int32) ≤ nI k from nI_ge (b := 16) hk (by omega)), p_heldMode h ho hk]
      simp only [ob1_s, nI_1, p_setTable ho hk]
      cases hm : tm o k with
      | none => exact ⟨a, rfl, tm_same h (by rw [hm]; rfl)⟩
      | some z =>
        have hz := (h o k ho hk).2 z hm
        rcases (show z = 0 ∨ z = 1 ∨ z = 2 ∨ z = 3 ∨ z = 4 ∨ z = 5 by omega) with rfl | rfl | rfl | rfl | rfl | rfl
        · exact ⟨_, rfl, h.set ho hk (m := none) (fun _ q => by cases q)⟩
        · exact ⟨a, rfl, tm_same h (by rw [hm]; rfl)⟩
        · exact ⟨_, rfl, h.set ho hk (m := none) (fun _ q => by cases q)⟩
        · exact ⟨_, rfl, h.set ho hk (m := some 1) (fun _ q => by cases q; decide)⟩
        · exact ⟨_, rfl, h.set ho hk (m := none) (fun _ q => by cases q)⟩
        · exact ⟨a, rfl, tm_same h (by rw [hm]; rfl)⟩) 16 0 fu ltm tm (by omega) (fu_lt (by omega)) ht
  refine ⟨a', low', lta', llo', lhi', lmo', rs', ?_, e5.congr (fun x b _ _ => ?_), e2, e3⟩
  · unfold F_L_dropReading
    rw [nI_0] at e4
    rw [e4, ob1_s, e1, ob6_s]
  · by_cases q : x = o
    · rw [if_pos q, if_pos ⟨q, by omega⟩]
    · rw [if_neg q, if_neg (by omega)]
theorem p_giveReading {ltm low lta : Nat → Int32} {llo lhi : Nat → Int64} {lmo : Nat → Int32} {rs : List Row} {tm : Nat → Nat → Option Nat} (h : rowsAt low lta llo lhi lmo rs) (ht : tmAt ltm tm) {o : Nat} (ho : o < 8) : ∃ (ltm' low' lta' : Nat → Int32) (llo' lhi' : Nat → Int64) (lmo' : Nat → Int32) (rs' : List Row), F_M_giveReading ltm (nI rs.length) low lta lmo llo lhi (nI o) = some (ltm', nI rs'.length, low', lta', lmo', llo', lhi') ∧ tmAt ltm' (fun x b => if x = o then rdM (tm x b) else tm x b) ∧ rowsAt low' lta' llo' lhi' lmo' rs' ∧ rs'.Perm (rs.filter (fun r => !rdB o r)) := by
  obtain ⟨low', lta', llo', lhi', lmo', rs', e1, e2, e3⟩ := p_giveReadingR h ho
  obtain ⟨a', e4, e5⟩ := p_tabs o rdM (fun m a i => F_M_giveReading_L2 (nI o) m a i) some (fun m a => by
      show F_M_giveReading_L2 _ (m + 1) _ _ = _
      rw [F_M_giveReading_L2, if_pos (by decide)]) (fun m a tm k hk h => by
      show ∃ a2, F_M_giveReading_L2 _ (m + 1) _ _ = F_M_giveReading_L2 _ m _ _ ∧ _
      rw [F_M_giveReading_L2, if_neg (show ¬ (16 : Int32) ≤ nI k from nI_ge (b := 16) hk (by omega))]
      simp only [p_ixM ho hk, nI_clamp (show 16 * o + k < 2 ^ 31 by omega), pz_gd2 (show 16 * o + k < 128 by omega) (show 128 < 2 ^ 31 by omega), (h o k ho hk).1, nI_1]
      cases hm : tm o k with
      | none => exact ⟨_, rfl, h.set ho hk (m := none) (fun _ q => by cases q)⟩
      | some z =>
        have hz := (h o k ho hk).2 z hm
        rcases (show z = 0 ∨ z = 1 ∨ z = 2 ∨ z = 3 ∨ z = 4 ∨ z = 5 by omega) with rfl | rfl | rfl | rfl | rfl | rfl
        · exact ⟨_, rfl, h.set ho hk (m := none) (fun _ q => by cases q)⟩
        · exact ⟨_, rfl, h.set ho hk (m := some 1) (fun _ q => by cases q; decide)⟩
        · exact ⟨_, rfl, h.set ho hk (m := none) (fun _ q => by cases q)⟩
        · exact ⟨_, rfl, h.set ho hk (m := some 1) (fun _ q => by cases q; decide)⟩
        · exact ⟨_, rfl, h.set ho hk (m := none) (fun _ q => by cases q)⟩
        · exact ⟨_, rfl, h.set ho hk (m := some 5) (fun _ q => by cases q; decide)⟩) 16 0 fu ltm tm (by omega) (fu_lt (by omega)) ht
  refine ⟨a', low', lta', llo', lhi', lmo', rs', ?_, e5.congr (fun x b _ _ => ?_), e2, e3⟩
  · unfold F_M_giveReading
    rw [nI_0] at e4
    rw [e4, ob1_s, e1, ob6_s]
  · by_cases q : x = o
    · rw [if_pos q, if_pos ⟨q, by omega⟩]
    · rw [if_neg q, if_neg (by omega)]
theorem p_dropAll {ltm low lta : Nat → Int32} {llo lhi : Nat → Int64} {lmo : Nat → Int32} {rs : List Row} {tm : Nat → Nat → Option Nat} (h : rowsAt low lta llo lhi lmo rs) (ht : tmAt ltm tm) {o : Nat} (ho : o < 8) : ∃ (ltm' low' lta' : Nat → Int32) (llo' lhi' : Nat → Int64) (lmo' : Nat → Int32) (rs' : List Row), F_L_dropAll ltm low lta llo lhi lmo (nI rs.length) (nI o) = some (ltm', low', lta', llo', lhi', lmo', nI rs'.length) ∧ tmAt ltm' (fun x b => if x = o then none else tm x b) ∧ rowsAt low' lta' llo' lhi' lmo' rs' ∧ rs'.Perm (rs.filter (fun r => !(r.1 == o))) := by
  obtain ⟨low', lta', llo', lhi', lmo', rs', e1, e2, e3⟩ := p_dropAllR h ho
  obtain ⟨a', e4, e5⟩ := p_tabs o (fun _ => none) (fun m a i => F_L_dropAll_L2 (nI o) m a i) some (fun m a => by
      show F_L_dropAll_L2 _ (m + 1) _ _ = _
      rw [F_L_dropAll_L2, if_pos (by decide)]) (fun m a tm k hk h => by
      show ∃ a2, F_L_dropAll_L2 _ (m + 1) _ _ = F_L_dropAll_L2 _ m _ _ ∧ _
      rw [F_L_dropAll_L2, if_neg (show ¬ (16 : Int32) ≤ nI k from nI_ge (b := 16) hk (by omega))]
      simp only [ob1_s, nI_1, p_setTable ho hk]
      exact ⟨_, rfl, h.set ho hk (m := none) (fun _ q => by cases q)⟩) 16 0 fu ltm tm (by omega) (fu_lt (by omega)) ht
  refine ⟨a', low', lta', llo', lhi', lmo', rs', ?_, e5.congr (fun x b _ _ => ?_), e2, e3⟩
  · unfold F_L_dropAll
    rw [nI_0] at e4
    rw [e4, ob1_s, e1, ob6_s]
  · by_cases q : x = o
    · rw [if_pos q, if_pos ⟨q, by omega⟩]
    · rw [if_neg q, if_neg (by omega)]
theorem p_endL0 {o : Nat} (ho : o < 8) : ∀ d k m (ltm low lta : Nat → Int32) (llo lhi : Nat → Int64) (lmo : Nat → Int32) (rs : List Row) (tm : Nat → Nat → Option Nat) (fr : Int32), k + d = 16 → d < m → rowsAt low lta llo lhi lmo rs → tmAt ltm tm → ∃ (ltm' low' lta' : Nat → Int32) (llo' lhi' : Nat → Int64) (lmo' : Nat → Int32) (rs' : List Row) (fr' : Int32), F_M_end_L42 (nI o) m ltm (nI rs.length) low lta lmo llo lhi fr (nI k) = some (ltm', nI rs'.length, low', lta', lmo', llo', lhi', fr') ∧ tmAt ltm' (fun x b => if x = o ∧ k ≤ b then none else tm x b) ∧ rowsAt low' lta' llo' lhi' lmo' rs' ∧ rs'.Perm (rs.filter (fun r => !(r.1 == o && decide (k ≤ r.2.1)))) := by
  intro d
  induction d with
  | zero =>
    intro k m ltm low lta llo lhi lmo rs tm fr hk hm h ht
    obtain ⟨m, rfl⟩ : ∃ z, m = z + 1 := ⟨m - 1, by omega⟩
    have e : k = 16 := by omega
    subst e
    refine ⟨ltm, low, lta, llo, lhi, lmo, rs, fr, by rw [F_M_end_L42, if_pos (by decide)], ht.congr (fun x b _ hb => if_neg (by omega)), h, ?_⟩
    rw [List.filter_eq_self.mpr]
    intro r hr
    have := (h.2.1 r hr).2.1
    have q : ¬ 16 ≤ r.2.1 := by omega
    simp [q]
  | succ d ih =>
    intro k m ltm low lta llo lhi lmo rs tm fr hk hm h ht
    obtain ⟨m, rfl⟩ : ∃ z, m = z + 1 := ⟨m - 1, by omega⟩
    have hk16 : k < 16 := by omega
    obtain ⟨low2, lta2, llo2, lhi2, lmo2, rs2, e1, e2, e3⟩ := p_mDropRanges h ho hk16 fr
    obtain ⟨ltm', low', lta', llo', lhi', lmo', rs', fr', f1, f2, f3, f4⟩ := ih (k + 1) m (upd ltm (16 * o + k) (mI none)) low2 lta2 llo2 lhi2 lmo2 rs2 (tmSet tm o k none) _ (by omega) (by omega) e2 (ht.set ho hk16 (m := none) (fun _ q => by cases q))
    refine ⟨ltm', low', lta', llo', lhi', lmo', rs', fr', ?_, f2.congr (fun x b _ hb => ?_), f3, ?_⟩
    · rw [F_M_end_L42, if_neg (show ¬ (16 : Int32) ≤ nI k from nI_ge (b := 16) hk16 (by omega))]
      simp only [p_ixM ho hk16, nI_clamp (show 16 * o + k < 2 ^ 31 by omega), pz_gd2 (show 16 * o + k < 128 by omega) (show 128 < 2 ^ 31 by omega), e1, ob7_s, nI_1]
      exact f1
    · unfold tmSet
      by_cases q1 : x = o
      · by_cases q2 : b = k
        · rw [if_pos ⟨q1, by omega⟩, if_neg (by omega), if_pos ⟨q1, q2⟩]
        · by_cases q3 : k ≤ b
          · rw [if_pos ⟨q1, q3⟩, if_pos ⟨q1, by omega⟩]
          · rw [if_neg (by omega), if_neg (by omega), if_neg (by omega)]
      · rw [if_neg (by omega), if_neg (by omega), if_neg (by omega)]
    · refine f4.trans ((e3.filter _).trans ?_)
      rw [List.filter_filter]
      refine List.Perm.of_eq (List.filter_congr (fun r _ => ?_))
      unfold isOnB
      by_cases q1 : r.1 = o
      · by_cases q2 : r.2.1 = k
        · simp [q1, q2]
        · by_cases q3 : k ≤ r.2.1
          · have q4 : k + 1 ≤ r.2.1 := by omega
            simp [q1, q2, q3, q4]
          · have q4 : ¬ k + 1 ≤ r.2.1 := by omega
            simp [q1, q2, q3, q4]
      · have q1' : (r.1 == o) = false := by simpa using q1
        simp [q1']
theorem p_endL {ltm low lta : Nat → Int32} {llo lhi : Nat → Int64} {lmo : Nat → Int32} {rs : List Row} {tm : Nat → Nat → Option Nat} (h : rowsAt low lta llo lhi lmo rs) (ht : tmAt ltm tm) {o : Nat} (ho : o < 8) (fr : Int32) : ∃ (ltm' low' lta' : Nat → Int32) (llo' lhi' : Nat → Int64) (lmo' : Nat → Int32) (rs' : List Row) (fr' : Int32), F_M_end_L42 (nI o) fu ltm (nI rs.length) low lta lmo llo lhi fr 0 = some (ltm', nI rs'.length, low', lta', lmo', llo', lhi', fr') ∧ tmAt ltm' (fun x b => if x = o then none else tm x b) ∧ rowsAt low' lta' llo' lhi' lmo' rs' ∧ rs'.Perm (rs.filter (fun r => !(r.1 == o))) := by
  obtain ⟨ltm', low', lta', llo', lhi', lmo', rs', fr', f1, f2, f3, f4⟩ := p_endL0 ho 16 0 fu ltm low lta llo lhi lmo rs tm fr (by omega) (fu_lt (by omega)) h ht
  rw [nI_0] at f1
  refine ⟨ltm', low', lta', llo', lhi', lmo', rs', fr', f1, f2.congr (fun x b _ _ => ?_), f3, ?_⟩
  · by_cases q : x = o
    · rw [if_pos q, if_pos ⟨q, by omega⟩]
    · rw [if_neg q, if_neg (by omega)]
  · refine f4.trans (List.Perm.of_eq (List.filter_congr (fun r _ => ?_)))
    simp
