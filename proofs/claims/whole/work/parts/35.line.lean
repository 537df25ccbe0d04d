/-! the line: leave and enter -/
theorem p_leave0 {rwa o : Nat} (ln : List Nat) (hl : ln.length ≤ 8) (h8 : ∀ x ∈ ln, x < 8) (ho : o < 8) : ∀ d k m (rli : Nat → Int32), k + d = ln.length → d < m → (∀ j x, ((ln.take k).filter (fun x => !(x == o)))[j]? = some x → rli j = nI x) → (∀ j x, k ≤ j → ln[j]? = some x → rli j = nI x) →
    ∃ rli', F_R_leave_L4 (nI ln.length) (nI o) m rli (nI ((ln.take k).filter (fun x => !(x == o))).length) (nI k) = some (rli', nI (ln.filter (fun x => !(x == o))).length) ∧ ∀ j x, (ln.filter (fun x => !(x == o)))[j]? = some x → rli' j = nI x := by
  intro d
  induction d with
  | zero =>
    intro k m rli hk hm h1 h2
    obtain ⟨m, rfl⟩ : ∃ z, m = z + 1 := ⟨m - 1, by omega⟩
    have e : k = ln.length := by omega
    subst e
    rw [List.take_length] at h1 ⊢
    exact ⟨rli, by rw [F_R_leave_L4, if_pos (by exact Int32.le_refl _)], h1⟩
  | succ d ih =>
    intro k m rli hk hm h1 h2
    obtain ⟨m, rfl⟩ : ∃ z, m = z + 1 := ⟨m - 1, by omega⟩
    have hlt : k < ln.length := by omega
    have hr : ln[k]? = some ln[k] := List.getElem?_eq_getElem hlt
    have e1 := h2 k ln[k] (Nat.le_refl _) hr
    have r8 := h8 ln[k] (List.getElem_mem hlt)
    have htk : ln.take (k + 1) = ln.take k ++ [ln[k]] := (List.take_append_getElem hlt).symm
    have hkl : ((ln.take k).filter (fun x => !(x == o))).length ≤ k := Nat.le_trans (List.length_filter_le _ _) (by rw [List.length_take]; omega)
    generalize hK : ((ln.take k).filter (fun x => !(x == o))) = fl at h1 hkl
    have c1 : nI ln[k] = nI o ↔ ln[k] = o := nI_eq (by omega) (by omega)
    rw [F_R_leave_L4, if_neg (nI_ge hlt (by omega))]
    simp only [nI_clamp (show k < 2 ^ 31 by omega), pz_gd2 (show k < 8 by omega) (show 8 < 2 ^ 31 by omega), nI_clamp (show fl.length < 2 ^ 31 by omega), pz_gd2 (show fl.length < 8 by omega) (show 8 < 2 ^ 31 by omega), e1, c1, nI_1]
    by_cases q : ln[k] = o
    · rw [if_pos q]
      have hf : (ln.take (k + 1)).filter (fun x => !(x == o)) = fl := by
        rw [htk, List.filter_append, hK]
        simp [q]
      have := ih (k + 1) m rli (by omega) (by omega) (by rw [hf]; exact h1) (fun j x hj hx => h2 j x (by omega) hx)
      rw [hf] at this
      exact this
    · rw [if_neg q]
      have hf : (ln.take (k + 1)).filter (fun x => !(x == o)) = fl ++ [ln[k]] := by
        rw [htk, List.filter_append, hK]
        simp [q]
      have := ih (k + 1) m (upd rli fl.length (nI ln[k])) (by omega) (by omega) (by
          rw [hf]
          intro j x hx
          unfold upd
          by_cases qj : j = fl.length
          · rw [if_pos qj]
            rw [qj, List.getElem?_append_right (Nat.le_refl _), Nat.sub_self] at hx
            cases hx
            rfl
          · rw [if_neg qj]
            have hjl : j < (fl ++ [ln[k]]).length := (List.getElem?_eq_some_iff.mp hx).1
            rw [List.length_append, List.length_singleton] at hjl
            rw [List.getElem?_append_left (by omega)] at hx
            exact h1 j x hx) (fun j x hj hx => by
          unfold upd
          rw [if_neg (by omega)]
          exact h2 j x (by omega) hx)
      rw [hf, List.length_append, List.length_singleton] at this
      exact this
theorem p_leave {rli : Nat → Int32} {ln : List Nat} (hn : lnAt rli ln) {o : Nat} (ho : o < 8) : ∃ rli', F_R_leave rli (nI ln.length) (nI o) = some (rli', nI (ln.filter (fun x => !(x == o))).length) ∧ lnAt rli' (ln.filter (fun x => !(x == o))) := by
  obtain ⟨hl, h8, hd, hx⟩ := hn
  obtain ⟨rli', e1, e2⟩ := p_leave0 (rwa := 0) (o := o) ln hl h8 ho ln.length 0 fu rli (by omega) (fu_lt (by omega)) (fun j x h => by simp at h) (fun j x _ h => hx j x h)
  refine ⟨rli', ?_, Nat.le_trans (List.length_filter_le _ _) hl, fun x h => h8 x (List.mem_filter.mp h).1, hd.filter _, e2⟩
  unfold F_R_leave
  rw [List.take_zero, List.filter_nil, List.length_nil, nI_0] at e1
  rw [e1, ob2_s]
/-- behind P, ahead of Q -/
theorem p_enter0 {rin : Nat → Int32} {o : Nat} (ho : o < 8) (now : Int32) (inn : Nat → Bool) (hio : rin o = b2i (inn o)) : ∀ (Q2 P Q : List Nat) (m : Nat) (rli : Nat → Int32), Q.length < m → (P ++ Q ++ Q2).length ≤ 7 → (∀ x ∈ P ++ Q, x < 8 ∧ rin x = b2i (inn x)) → (inn o = false → Q = []) → (∀ x ∈ Q, inn x = false) → (P = [] ∨ inn o = false ∨ ∃ z P', P = P' ++ [z] ∧ inn z = true) →
    (∀ j x, (P ++ Q)[j]? = some x → rli j = nI x) → (∀ j x, Q2[j]? = some x → rli ((P ++ Q).length + 1 + j) = nI x) →
    ∃ rli', F_R_enter_L15 rin (nI o) now m rli (nI (P ++ Q).length) = some (rli', nI P.length) ∧ (∀ j x, P[j]? = some x → rli' j = nI x) ∧ (∀ j x, (Q ++ Q2)[j]? = some x → rli' (P.length + 1 + j) = nI x) := by
  intro Q2 P Q
  induction hq : Q.length generalizing Q Q2 with
  | zero =>
    intro m rli hm hlen h8 hQo hQ hP h1 h2
    obtain ⟨m, rfl⟩ : ∃ z, m = z + 1 := ⟨m - 1, by omega⟩
    have e : Q = [] := List.length_eq_zero_iff.mp hq
    subst e
    rw [List.append_nil] at h1 h2 h8 hlen ⊢
    refine ⟨rli, ?_, h1, h2⟩
    have hPl : P.length ≤ 7 := by rw [List.length_append] at hlen; omega
    rw [F_R_enter_L15]
    by_cases hp0 : P = []
    · subst hp0
      rw [List.length_nil, if_pos (by decide)]
    · have hpos : 0 < P.length := List.length_pos_iff.mpr hp0
      obtain ⟨n, hn⟩ : ∃ n, P.length = n + 1 := ⟨P.length - 1, by omega⟩
      rw [hn, if_neg (nI_nle (by omega) (by omega)), nI_pred]
      simp only [nI_clamp (show o < 2 ^ 31 by omega), pz_gd2 ho (show 8 < 2 ^ 31 by omega), hio, p_b0, nI_clamp (show n < 2 ^ 31 by omega), pz_gd2 (show n < 8 by omega) (show 8 < 2 ^ 31 by omega)]
      rcases hP with q | q | ⟨z, P', rfl, hz⟩
      · exact absurd q hp0
      · rw [q, if_neg (by decide)]
      · cases hio2 : inn o with
        | false => rw [if_neg (by decide)]
        | true =>
          rw [if_pos rfl]
          have hn' : P'.length = n := by rw [List.length_append, List.length_singleton] at hn; omega
          have e1 : rli n = nI z := h1 n z (by rw [List.getElem?_append_right (by omega), hn', Nat.sub_self]; rfl)
          obtain ⟨z8, hzi⟩ := h8 z (by simp)
          simp only [e1, nI_clamp (show z < 2 ^ 31 by omega), pz_gd2 z8 (show 8 < 2 ^ 31 by omega), hzi, hz, p_b0]
          rfl
  | succ n ih =>
    intro m rli hm hlen h8 hQo hQ hP h1 h2
    obtain ⟨m, rfl⟩ : ∃ z, m = z + 1 := ⟨m - 1, by omega⟩
    have hne : Q ≠ [] := by intro q; rw [q] at hq; cases hq
    obtain ⟨Q0, z, rfl⟩ : ∃ A0 x, Q = A0 ++ [x] := ⟨Q.dropLast, Q.getLast hne, (List.dropLast_concat_getLast hne).symm⟩
    have hio2 : inn o = true := by
      cases h : inn o with
      | true => rfl
      | false => exact absurd (hQo h) hne
    have hz : inn z = false := hQ z (by simp)
    obtain ⟨z8, hzi⟩ := h8 z (by simp)
    have hl0 : Q0.length = n := by rw [List.length_append, List.length_singleton] at hq; omega
    have hlen' : (P ++ (Q0 ++ [z])).length = (P ++ Q0).length + 1 := by rw [← List.append_assoc, List.length_append, List.length_singleton]
    have hlen2 : (P ++ (Q0 ++ [z]) ++ Q2).length = (P ++ Q0).length + 1 + Q2.length := by rw [List.length_append, hlen']
    have e1 : rli (P ++ Q0).length = nI z := h1 _ z (by rw [← List.append_assoc, List.getElem?_append_right (Nat.le_refl _), Nat.sub_self]; rfl)
    rw [hlen2] at hlen
    generalize hN : (P ++ Q0).length = N at hlen' hlen2 e1 hlen
    rw [F_R_enter_L15, hlen', if_neg (nI_nle (by omega) (by omega)), nI_pred]
    simp only [nI_clamp (show o < 2 ^ 31 by omega), pz_gd2 ho (show 8 < 2 ^ 31 by omega), hio, p_b0, nI_clamp (show N < 2 ^ 31 by omega), pz_gd2 (show N < 8 by omega) (show 8 < 2 ^ 31 by omega), hio2, e1, nI_clamp (show z < 2 ^ 31 by omega), pz_gd2 z8 (show 8 < 2 ^ 31 by omega), hzi, hz, nI_clamp (show N + 1 < 2 ^ 31 by omega), pz_gd2 (show N + 1 < 8 by omega) (show 8 < 2 ^ 31 by omega), ix_pred]
    rw [if_pos trivial, if_neg (by decide)]
    obtain ⟨rli', f1, f2, f3⟩ := ih (z :: Q2) Q0 hl0 m (upd rli (N + 1) (nI z)) (by omega) (by rw [List.length_append, hN, List.length_cons]; omega) (fun x hx => h8 x (by
        rcases List.mem_append.mp hx with q | q
        · exact List.mem_append_left _ q
        · exact List.mem_append_right _ (List.mem_append_left _ q))) (fun h => by rw [hio2] at h; cases h) (fun x hx => hQ x (List.mem_append_left _ hx)) hP (fun j x hx => by
        have hj : j < (P ++ Q0).length := (List.getElem?_eq_some_iff.mp hx).1
        unfold upd
        rw [if_neg (by omega)]
        exact h1 j x (by rw [← List.append_assoc, List.getElem?_append_left hj]; exact hx)) (fun j x hx => by
        unfold upd
        cases j with
        | zero => rw [if_pos (by omega)]; cases hx; rfl
        | succ j =>
          rw [if_neg (by omega), hN]
          have := h2 j x hx
          rw [hlen'] at this
          rw [show N + 1 + (j + 1) = N + 1 + 1 + j by omega]
          exact this)
    rw [hN] at f1
    exact ⟨rli', f1, f2, fun j x hx => f3 j x (by rw [List.append_assoc] at hx; exact hx)⟩
