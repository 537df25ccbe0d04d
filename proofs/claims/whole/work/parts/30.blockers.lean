/-! blockers: the class -/
theorem p_scanS0 {α β ρ : Type} (rs : List ρ) (S : ρ → Bool) (L : Nat → α → Int32 → Option β) (f : α → ρ → α) (out : α → Option β) (h0 : ∀ m a, L (m + 1) a (nI rs.length) = out a) (hy : ∀ m a k r, rs[k]? = some r → S r = true → L (m + 1) a (nI k) = out a) (hs : ∀ m a k r, rs[k]? = some r → S r = false → L (m + 1) a (nI k) = L m (f a r) (nI (k + 1))) :
    ∀ d k m a, k + d = rs.length → d < m → L m a (nI k) = out (((rs.drop k).takeWhile (fun r => !S r)).foldl f a) := by
  intro d
  induction d with
  | zero =>
    intro k m a hk hm
    obtain ⟨m, rfl⟩ : ∃ z, m = z + 1 := ⟨m - 1, by omega⟩
    have e : k = rs.length := by omega
    subst e
    rw [h0 m a, List.drop_eq_nil_of_le (Nat.le_refl _)]
    rfl
  | succ d ih =>
    intro k m a hk hm
    obtain ⟨m, rfl⟩ : ∃ z, m = z + 1 := ⟨m - 1, by omega⟩
    have hlt : k < rs.length := by omega
    have hr : rs[k]? = some rs[k] := List.getElem?_eq_getElem hlt
    rw [List.drop_eq_getElem_cons hlt, List.takeWhile_cons]
    cases hp : S rs[k] with
    | true => rw [hy m a k _ hr hp]; rfl
    | false => rw [hs m a k _ hr hp, ih (k + 1) m (f a rs[k]) (by omega) (by omega)]; rfl
theorem p_scanS {α β ρ : Type} (rs : List ρ) (S : ρ → Bool) (L : Nat → α → Int32 → Option β) (f : α → ρ → α) (out : α → Option β) (h0 : ∀ m a, L (m + 1) a (nI rs.length) = out a) (hy : ∀ m a k r, rs[k]? = some r → S r = true → L (m + 1) a (nI k) = out a) (hs : ∀ m a k r, rs[k]? = some r → S r = false → L (m + 1) a (nI k) = L m (f a r) (nI (k + 1))) {m : Nat} {a : α} (hm : rs.length < m) : L m a 0 = out ((rs.takeWhile (fun r => !S r)).foldl f a) := by
  have h := p_scanS0 rs S L f out h0 hy hs rs.length 0 m a (by omega) hm
  rw [nI_0] at h
  rw [h, List.drop_zero]
def rqAtC (rta ron : Nat → Int32) (rlo rhi : Nat → Int64) (rmo rin res : Nat → Int32) (o : Nat) (q : Rq) : Prop := rqOk q ∧ rta o = nI q.2.1 ∧ ron o = b2i (q.1 == 1) ∧ res o = b2i (q.1 == 2) ∧ rmo o = nI q.2.2.1 ∧ (q.1 = 1 → rlo o = q.2.2.2.1 ∧ rhi o = q.2.2.2.2.1) ∧ rin o = b2i q.2.2.2.2.2
def lnAt (rli : Nat → Int32) (ln : List Nat) : Prop := ln.length ≤ 8 ∧ (∀ o ∈ ln, o < 8) ∧ ln.Nodup ∧ ∀ k x, ln[k]? = some x → rli k = nI x
def cReq (ln : List Nat) (rta ron : Nat → Int32) (rlo rhi : Nat → Int64) (rmo rin res : Nat → Int32) (rq : Nat → Rq) : Prop := ∀ o ∈ ln, rqAtC rta ron rlo rhi rmo rin res o (rq o)
def meetB (q qj : Rq) : Bool := ((q.1 == 1) == (qj.1 == 1)) && (q.2.1 == qj.2.1 && (q.1 != 1 || (decide (q.2.2.2.1 ≤ qj.2.2.2.2.1) && decide (qj.2.2.2.1 ≤ q.2.2.2.2.1))))
theorem meet_req (q qj : Rq) : reqAg q qj = (meetB q qj && !tog q.2.2.1 qj.2.2.1) := by
  unfold reqAg meetB
  simp only [Bool.and_assoc]
theorem p_meet {rta ron : Nat → Int32} {rlo rhi : Nat → Int64} {rmo rin res : Nat → Int32} {a b : Nat} {q qj : Rq} (h1 : rqAtC rta ron rlo rhi rmo rin res a q) (h2 : rqAtC rta ron rlo rhi rmo rin res b qj) (ha : a < 8) (hb : b < 8) : F_R_meet rta ron rlo rhi (nI a) (nI b) = some (b2i (meetB q qj)) := by
  obtain ⟨⟨k1, k2, k3⟩, f1, f2, -, -, f3, -⟩ := h1
  obtain ⟨⟨l1, l2, l3⟩, g1, g2, -, -, g3, -⟩ := h2
  have c1 : nI q.2.1 = nI qj.2.1 ↔ q.2.1 = qj.2.1 := nI_eq (by omega) (by omega)
  have hbi : ∀ x y : Bool, (b2i x = b2i y) ↔ x = y := by intro x y; cases x <;> cases y <;> decide
  unfold F_R_meet
  simp only [jn0, nI_clamp (show a < 2 ^ 31 by omega), nI_clamp (show b < 2 ^ 31 by omega), pz_gd2 ha (show 8 < 2 ^ 31 by omega), pz_gd2 hb (show 8 < 2 ^ 31 by omega), f1, f2, g1, g2, c1, hbi, lg_cmp_gt, p_b0]
  unfold meetB
  by_cases q1 : q.2.1 = qj.2.1
  · by_cases q2 : q.1 = 1
    · by_cases q3 : qj.1 = 1
      · obtain ⟨f4, f5⟩ := f3 q2
        obtain ⟨g4, g5⟩ := g3 q3
        rw [f4, f5, g4, g5]
        by_cases q5 : qj.2.2.2.2.1 < q.2.2.2.1
        · have q5' : ¬ q.2.2.2.1 ≤ qj.2.2.2.2.1 := Int64.not_le.mpr q5
          simp [q1, q2, q3, q5, q5', b2i]
        · have q5' : q.2.2.2.1 ≤ qj.2.2.2.2.1 := Int64.not_lt.mp q5
          by_cases q6 : q.2.2.2.2.1 < qj.2.2.2.1
          · have q6' : ¬ qj.2.2.2.1 ≤ q.2.2.2.2.1 := Int64.not_le.mpr q6
            simp [q1, q2, q3, q5, q5', q6, q6', b2i]
          · have q6' : qj.2.2.2.1 ≤ q.2.2.2.2.1 := Int64.not_lt.mp q6
            simp [q1, q2, q3, q5, q5', q6, q6', b2i]
      · simp [q1, q2, q3, b2i]
    · have q2' : (q.1 == 1) = false := by simpa using q2
      rw [q2']
      rcases Bool.eq_false_or_eq_true (qj.1 == 1) with hz | hz <;> simp [q1, hz, bne, q2', b2i]
  · simp [q1, b2i]
theorem p_againstBefore {rli rta ron : Nat → Int32} {rlo rhi : Nat → Int64} {rmo rin res : Nat → Int32} {ln : List Nat} {rq : Nat → Rq} (hn : lnAt rli ln) (h : cReq ln rta ron rlo rhi rmo rin res rq) {o : Nat} (ho : o ∈ ln) : F_R_againstBefore rta ron rlo rhi rmo rli (nI ln.length) (nI o) = some (nI (bm (fun j => (ln.takeWhile (fun x => !(x == o))).contains j && reqAg (rq o) (rq j)) 8)) := by
  obtain ⟨hl, h8, hd, hx⟩ := hn
  have ho8 := h8 o ho
  have key := p_scanS ln (fun x => x == o) (fun m a i => F_R_againstBefore_L4 rta ron rlo rhi rmo rli (nI ln.length) (nI o) m (nI a) i) (fun a j => if reqAg (rq o) (rq j) then a ||| 2 ^ j else a) (fun a => some (nI a)) (fun m a => by
      show F_R_againstBefore_L4 _ _ _ _ _ _ _ _ (m + 1) _ _ = _
      rw [F_R_againstBefore_L4, if_pos (by exact Int32.le_refl _)]) (fun m a k r hr hp => by
      have hk : k < ln.length := (List.getElem?_eq_some_iff.mp hr).1
      have e1 := hx k r hr
      have hro : r = o := by simpa using hp
      show F_R_againstBefore_L4 _ _ _ _ _ _ _ _ (m + 1) _ _ = _
      rw [F_R_againstBefore_L4, if_neg (nI_ge hk (by omega))]
      simp only [nI_clamp (show k < 2 ^ 31 by omega), pz_gd2 (show k < 8 by omega) (show 8 < 2 ^ 31 by omega), e1]
      rw [if_pos (by rw [hro])]) (fun m a k r hr hp => by
      have hk : k < ln.length := (List.getElem?_eq_some_iff.mp hr).1
      have hm : r ∈ ln := List.mem_of_getElem? hr
      have r8 := h8 r hm
      have e1 := hx k r hr
      have hro : ¬ r = o := by simpa using hp
      have q0 := h o ho
      have q1 := h r hm
      show F_R_againstBefore_L4 _ _ _ _ _ _ _ _ (m + 1) _ _ = F_R_againstBefore_L4 _ _ _ _ _ _ _ _ m _ _
      have c1 : nI r = nI o ↔ r = o := nI_eq (by omega) (by omega)
      rw [F_R_againstBefore_L4, if_neg (nI_ge hk (by omega))]
      simp only [nI_clamp (show k < 2 ^ 31 by omega), nI_clamp (show r < 2 ^ 31 by omega), nI_clamp (show o < 2 ^ 31 by omega), pz_gd2 (show k < 8 by omega) (show 8 < 2 ^ 31 by omega), pz_gd2 r8 (show 8 < 2 ^ 31 by omega), pz_gd2 ho8 (show 8 < 2 ^ 31 by omega), e1, c1, p_meet q0 q1 ho8 r8, ob1_s, p_b0, q0.2.2.2.2.1, q1.2.2.2.2.1, p_goTogether _ q0.1.2.2 _ q1.1.2.2, nI_1, pz_orb r8]
      rw [if_neg hro, meet_req]
      generalize meetB (rq o) (rq r) = x
      generalize tog (rq o).2.2.1 (rq r).2.2.1 = z
      cases x <;> cases z <;> rfl) (m := fu) (a := 0) (fu_lt (by omega))
  unfold F_R_againstBefore
  rw [← nI_0] at key ⊢
  rw [key]
  simp only [ob1_s]
  refine congrArg (fun z => some (nI z)) (bm_of ?_)
  intro j
  rw [fold_bit (fun j => reqAg (rq o) (rq j)) (fun j => j)]
  simp only [Nat.zero_testBit, Bool.false_or]
  have hsub : ∀ x, x ∈ ln.takeWhile (fun x => !(x == o)) → x < 8 := fun x hx9 => h8 x ((List.takeWhile_sublist _).subset hx9)
  generalize ln.takeWhile (fun x => !(x == o)) = l at hsub
  rw [Bool.eq_iff_iff]
  simp only [List.any_eq_true, Bool.and_eq_true, decide_eq_true_eq, List.contains_iff_mem, beq_iff_eq]
  constructor
  · rintro ⟨x, h1, h2, rfl⟩
    exact ⟨hsub x h1, h1, h2⟩
  · rintro ⟨h1, h2, h3⟩
    exact ⟨j, h2, h3, rfl⟩
def blkC (tm : Nat → Nat → Option Nat) (rs : List Row) (ln : List Nat) (rq : Nat → Rq) (o j : Nat) : Bool := lockAg tm rs (rq o) o j || ((ln.takeWhile (fun x => !(x == o))).contains j && reqAg (rq o) (rq j))
theorem p_blockers {ltm low lta : Nat → Int32} {llo lhi : Nat → Int64} {lmo : Nat → Int32} {rli rta ron : Nat → Int32} {rlo rhi : Nat → Int64} {rmo rin res : Nat → Int32} {ln : List Nat} {rq : Nat → Rq} {rs : List Row} {tm : Nat → Nat → Option Nat} (hr0 : rowsAt low lta llo lhi lmo rs) (ht0 : tmAt ltm tm) (hn : lnAt rli ln) (h : cReq ln rta ron rlo rhi rmo rin res rq) {o : Nat} (ho : o ∈ ln) : F_T_blockers ltm low lta llo lhi lmo rta ron rlo rhi rmo rli (nI rs.length) (nI ln.length) (nI o) = some (nI (bm (blkC tm rs ln rq o) 8)) := by
  have ho8 := hn.2.1 o ho
  obtain ⟨⟨k1, k2, k3⟩, f1, f2, -, f4, f3, -⟩ := h o ho
  unfold F_T_blockers
  rw [p_againstBefore hn h ho]
  simp only [jn1, nI_clamp (show o < 2 ^ 31 by omega), pz_gd2 ho8 (show 8 < 2 ^ 31 by omega), f1, f2, f4, ob1_s, p_b0, p_againstTable ht0 ho8 k2 k3]
  by_cases q : (rq o).1 = 1
  · obtain ⟨g1, g2⟩ := f3 q
    rw [if_pos (by simpa using q), g1, g2, p_againstRange hr0 ho8 k2 k3]
    simp only [ob1_s]
    rw [pz_or, bm_or]
    refine congrArg (fun z => some (nI z)) (bm_ext (fun j hj => ?_))
    unfold blkC lockAg
    rw [if_pos q]
  · rw [if_neg (by simpa using q), pz_or, bm_or]
    refine congrArg (fun z => some (nI z)) (bm_ext (fun j hj => ?_))
    unfold blkC lockAg
    rw [if_neg q]
