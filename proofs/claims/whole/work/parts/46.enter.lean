/-! an owner enters the line -/
theorem split_inner {rq : Nat → Rq} {cm : Nat → Nat} : ∀ (ln : List Nat), ln.Pairwise (fun a b => bef rq cm a b = true) → ∃ P Q, ln = P ++ Q ∧ (∀ x ∈ P, (rq x).2.2.2.2.2 = true) ∧ ∀ x ∈ Q, (rq x).2.2.2.2.2 = false := by
  intro ln
  induction ln with
  | nil => intro _; exact ⟨[], [], rfl, fun _ h => (by cases h), fun _ h => (by cases h)⟩
  | cons x l ih =>
    intro hp
    obtain ⟨h1, h2⟩ := List.pairwise_cons.mp hp
    obtain ⟨P, Q, e, hP, hQ⟩ := ih h2
    cases hx : (rq x).2.2.2.2.2 with
    | true =>
      refine ⟨x :: P, Q, by rw [e]; rfl, fun y hy => ?_, hQ⟩
      rcases List.mem_cons.mp hy with q | q
      · rw [q]; exact hx
      · exact hP y q
    | false =>
      refine ⟨[], x :: l, rfl, fun _ h => (by cases h), fun y hy => ?_⟩
      rcases List.mem_cons.mp hy with q | q
      · rw [q]; exact hx
      · have hb := h1 y q
        unfold bef at hb
        cases hy2 : (rq y).2.2.2.2.2 with
        | false => rfl
        | true => rw [hx, hy2] at hb; simp at hb
theorem p_enter {rin rsi rli rar : Nat → Int32} {ln P Q : List Nat} (hn : lnAt rli ln) {o : Nat} (ho : o < 8) (hol : o ∉ ln) (inn : Nat → Bool) (hio : rin o = b2i (inn o)) (hin : ∀ x ∈ ln, rin x = b2i (inn x)) (e : ln = P ++ Q) (hP : inn o = true → ∀ x ∈ P, inn x = true) (hQ : ∀ x ∈ Q, inn x = false) (hQo : inn o = false → Q = []) (rad now : Int32) : ∃ rli', F_R_enter rin rsi rli rar (nI ln.length) rad (nI o) now = some (upd rsi o now, rli', upd rar o rad, nI (P ++ o :: Q).length, rad + 1) ∧ lnAt rli' (P ++ o :: Q) := by
  obtain ⟨n1, n2, n3, n4⟩ := hn
  have hd : (o :: ln).Nodup := List.nodup_cons.mpr ⟨hol, n3⟩
  have hl7 : ln.length ≤ 7 := by
    have := nodup_len 8 (o :: ln) hd (fun x hx => by
      rcases List.mem_cons.mp hx with q | q
      · rw [q]; exact ho
      · exact n2 x q)
    rw [List.length_cons] at this
    omega
  have hperm : (P ++ o :: Q).Perm (o :: ln) := by rw [e]; exact List.perm_middle
  obtain ⟨rli', f1, f2, f3⟩ := p_enter0 ho now inn hio [] P Q fu rli (fu_lt (by rw [e, List.length_append] at hl7; omega)) (by rw [List.append_nil, ← e]; exact hl7) (fun x hx => by rw [← e] at hx; exact ⟨n2 x hx, hin x hx⟩) hQo hQ (by
    cases hi : inn o with
    | false => exact Or.inr (Or.inl rfl)
    | true =>
      by_cases hp : P = []
      · exact Or.inl hp
      · exact Or.inr (Or.inr ⟨P.getLast hp, P.dropLast, (List.dropLast_concat_getLast hp).symm, hP hi _ (List.getLast_mem hp)⟩)) (fun j x hx => by rw [← e] at hx; exact n4 j x hx) (fun j x hx => by cases hx)
  rw [← e] at f1
  have hPl : P.length < 8 := by rw [e, List.length_append] at hl7; omega
  refine ⟨upd rli' P.length (nI o), ?_, ?_⟩
  · unfold F_R_enter
    rw [if_pos (show nI ln.length < 8 from nI_lt (b := 8) (by omega) (by omega)), f1, ob2_s, pz_gd hPl (by omega), pz_gd ho (by omega), pz_gd ho (by omega), nI_clamp (by omega), nI_clamp (by omega), nI_1, hperm.length_eq, List.length_cons]
  · refine ⟨by rw [hperm.length_eq, List.length_cons]; omega, fun x hx => ?_, hperm.nodup_iff.mpr hd, fun k x hx => ?_⟩
    · rcases List.mem_cons.mp (hperm.mem_iff.mp hx) with q | q
      · rw [q]; exact ho
      · exact n2 x q
    · unfold upd
      by_cases q : k = P.length
      · rw [if_pos q]
        rw [q, List.getElem?_append_right (Nat.le_refl _), Nat.sub_self] at hx
        cases hx
        rfl
      · rw [if_neg q]
        by_cases q2 : k < P.length
        · rw [List.getElem?_append_left q2] at hx
          exact f2 k x hx
        · have hk : k = P.length + 1 + (k - P.length - 1) := by omega
          rw [List.getElem?_append_right (by omega), show k - P.length = (k - P.length - 1) + 1 by omega, List.getElem?_cons_succ] at hx
          rw [hk]
          exact f3 _ x (by rw [List.append_nil]; exact hx)
def agC (qc qc' : QC) (x : Nat) : Prop := qc.1 x = qc'.1 x ∧ qc.2.1 x = qc'.2.1 x ∧ qc.2.2.1 x = qc'.2.2.1 x ∧ qc.2.2.2.1 x = qc'.2.2.2.1 x ∧ qc.2.2.2.2.1 x = qc'.2.2.2.2.1 x ∧ qc.2.2.2.2.2.1 x = qc'.2.2.2.2.2.1 x ∧ qc.2.2.2.2.2.2 x = qc'.2.2.2.2.2.2 x
def agM (qm qm' : QM) (x : Nat) : Prop := qm.1 x = qm'.1 x ∧ qm.2.1 x = qm'.2.1 x ∧ qm.2.2.1 x = qm'.2.2.1 x ∧ qm.2.2.2.1 x = qm'.2.2.2.1 x ∧ qm.2.2.2.2.1 x = qm'.2.2.2.2.1 x ∧ qm.2.2.2.2.2.1 x = qm'.2.2.2.2.2.1 x ∧ qm.2.2.2.2.2.2 x = qm'.2.2.2.2.2.2 x
def fSet {α : Type} (f : Nat → α) (o : Nat) (v : α) : Nat → α := fun x => if x = o then v else f x
theorem fSet_s {α : Type} {f : Nat → α} {o : Nat} {v : α} : fSet f o v o = v := by unfold fSet; rw [if_pos rfl]
theorem fSet_n {α : Type} {f : Nat → α} {o : Nat} {v : α} {x : Nat} (h : x ≠ o) : fSet f o v x = f x := by unfold fSet; rw [if_neg h]
theorem invQ_enter {qc qc' : QC} {qm qm' : QM} {rq : Nat → Rq} {cm : Nat → Nat} {st : Nat → Nat} {ln P Q : List Nat} (h : InvQ qc qm rq cm st ln) {o : Nat} (ho : o < 8) (hst : st o ≠ 2) (q : Rq) (c : Nat) (hc : c < 2 ^ 30) (hcm : ∀ x ∈ ln, cm x < c) (e : ln = P ++ Q) (hP : ∀ x ∈ P, q.2.2.2.2.2 = true → (rq x).2.2.2.2.2 = true) (hQ : ∀ x ∈ Q, (rq x).2.2.2.2.2 = false) (hQo : q.2.2.2.2.2 = false → Q = []) (hqr : rqR q)
    (hac : ∀ x, x ≠ o → agC qc qc' x) (ham : ∀ x, x ≠ o → agM qm qm' x) (hco : rqAtC qc'.1 qc'.2.1 qc'.2.2.1 qc'.2.2.2.1 qc'.2.2.2.2.1 qc'.2.2.2.2.2.1 qc'.2.2.2.2.2.2 o q) (hmo : rqAtM qm'.1 qm'.2.1 qm'.2.2.1 qm'.2.2.2.1 qm'.2.2.2.2.1 qm'.2.2.2.2.2.1 o q) (hmc : qm'.2.2.2.2.2.2 o = nI c) : InvQ qc' qm' (fSet rq o q) (fSet cm o c) (stSet st o 2) (P ++ o :: Q) := by
  obtain ⟨⟨h1, h2, h3⟩, h4, h5, h6, h7⟩ := h
  have hol : o ∉ ln := fun m => hst ((h2 o).mp m).2
  have hperm : (P ++ o :: Q).Perm (o :: ln) := by rw [e]; exact List.perm_middle
  have hmem : ∀ x, x ∈ P ++ o :: Q ↔ x = o ∨ x ∈ ln := fun x => by rw [hperm.mem_iff, List.mem_cons]
  have hne : ∀ x ∈ ln, x ≠ o := fun x hx q => hol (q ▸ hx)
  have hst2 : ∀ x, x ≠ o → stSet st o 2 x = st x := fun x hx => by unfold stSet; rw [if_neg hx]
  have hbef : ∀ x y, x ≠ o → y ≠ o → bef (fSet rq o q) (fSet cm o c) x y = bef rq cm x y := fun x y hx hy => by
    unfold bef
    rw [fSet_n hx, fSet_n hy, fSet_n hx, fSet_n hy]
  have hp' : ln.Pairwise (fun a b => bef (fSet rq o q) (fSet cm o c) a b = true) := h3.imp_of_mem (fun {a b} ha hb r => by rw [hbef a b (hne a ha) (hne b hb)]; exact r)
  rw [e] at hp'
  obtain ⟨p1, p2, p3⟩ := List.pairwise_append.mp hp'
  refine ⟨⟨hperm.nodup_iff.mpr (List.nodup_cons.mpr ⟨hol, h1⟩), fun x => ?_, List.pairwise_append.mpr ⟨p1, List.pairwise_cons.mpr ⟨fun y hy => ?_, p2⟩, fun x hx y hy => ?_⟩⟩, fun x y hx hy sx sy exy => ?_, fun x hx => ?_, fun x hx sx => ?_, fun x hx => ?_⟩
  · rw [hmem x]
    by_cases qx : x = o
    · subst qx
      exact ⟨fun _ => ⟨ho, by unfold stSet; rw [if_pos rfl]⟩, fun _ => Or.inl rfl⟩
    · rw [hst2 x qx, ← h2 x]
      exact ⟨fun r => r.resolve_left qx, Or.inr⟩
  · have hyo : y ≠ o := hne y (by rw [e]; exact List.mem_append_right _ hy)
    unfold bef
    rw [fSet_s, fSet_n hyo, hQ y hy]
    have hq : q.2.2.2.2.2 = true := by
      cases hi : q.2.2.2.2.2 with
      | true => rfl
      | false => rw [hQo hi] at hy; cases hy
    rw [hq, if_neg (by decide)]
  · rcases List.mem_cons.mp hy with qy | qy
    · subst qy
      have hxl : x ∈ ln := by rw [e]; exact List.mem_append_left _ hx
      have hxo : x ≠ y := hne x hxl
      unfold bef
      rw [fSet_s, fSet_n hxo, fSet_s, fSet_n hxo]
      by_cases qi : (rq x).2.2.2.2.2 = q.2.2.2.2.2
      · rw [if_pos qi]; exact decide_eq_true (hcm x hxl)
      · rw [if_neg qi]
        cases hi : q.2.2.2.2.2 with
        | true => exact hP x hx hi
        | false =>
          rw [hi] at qi
          cases hx2 : (rq x).2.2.2.2.2 with
          | true => rfl
          | false => exact absurd hx2 qi
    · exact p3 x hx y qy
  · by_cases qx : x = o
    · by_cases qy : y = o
      · rw [qx, qy]
      · rw [qx, fSet_s, fSet_n qy] at exy
        rw [hst2 y qy] at sy
        have := hcm y ((h2 y).mpr ⟨hy, sy⟩)
        omega
    · by_cases qy : y = o
      · rw [qy, fSet_s, fSet_n qx] at exy
        rw [hst2 x qx] at sx
        have := hcm x ((h2 x).mpr ⟨hx, sx⟩)
        omega
      · rw [fSet_n qx, fSet_n qy] at exy
        rw [hst2 x qx] at sx
        rw [hst2 y qy] at sy
        exact h4 x y hx hy sx sy exy
  · rcases (hmem x).mp hx with qx | qx
    · subst qx
      rw [fSet_s]
      exact hco
    · rw [fSet_n (hne x qx)]
      obtain ⟨g1, g2, g3, g4, g5, g6, g7⟩ := hac x (hne x qx)
      obtain ⟨k1, k2, k3, k4, k5, k6, k7⟩ := h5 x qx
      exact ⟨k1, g1 ▸ k2, g2 ▸ k3, g7 ▸ k4, g5 ▸ k5, fun z => ⟨g3 ▸ (k6 z).1, g4 ▸ (k6 z).2⟩, g6 ▸ k7⟩
  · by_cases qx : x = o
    · subst qx
      rw [fSet_s, fSet_s]
      exact ⟨hmo, hmc, hc⟩
    · rw [fSet_n qx, fSet_n qx]
      rw [hst2 x qx] at sx
      obtain ⟨g1, g2, g3, g4, g5, g6, g7⟩ := ham x qx
      obtain ⟨⟨k1, k2, k3, k4, k5, k6⟩, k7, k8⟩ := h6 x hx sx
      exact ⟨⟨k1, g1 ▸ k2, g2 ▸ k3, g3 ▸ k4, fun z => ⟨g4 ▸ (k5 z).1, g5 ▸ (k5 z).2⟩, g6 ▸ k6⟩, g7 ▸ k7, k8⟩
  · rcases (hmem x).mp hx with qx | qx
    · subst qx
      rw [fSet_s]
      exact hqr
    · rw [fSet_n (hne x qx)]
      exact h7 x qx
theorem countP_congr2 {f g : Nat → Bool} : ∀ (l : List Nat), (∀ x ∈ l, f x = g x) → l.countP f = l.countP g := by
  intro l h
  exact List.countP_congr (fun x hx => by rw [h x hx])
theorem invR_enter {rq : Nat → Rq} {tm : Nat → Nat → Option Nat} {rs : List Row} {ln P Q : List Nat} (h : InvR rq tm rs ln) {o : Nat} (hol : o ∉ ln) (q : Rq) (e : ln = P ++ Q) (h1' : q.1 = 1 → rs.length + ln.countP (fun o => (rq o).1 == 1) < 256 ∧ rs.countP (isOnB o q.2.1) < 8 ∧ hld (tm o q.2.1) q.2.2.1) (h2' : q.1 = 2 → rs.any (isOnB o q.2.1) = true) (h3' : q.1 ≠ 1 → keepS (tm o q.2.1) q.2.2.1) : InvR (fSet rq o q) tm rs (P ++ o :: Q) := by
  obtain ⟨h1, h2, h3, h4, h5, h6, h7⟩ := h
  have hperm : (P ++ o :: Q).Perm (o :: ln) := by rw [e]; exact List.perm_middle
  have hmem : ∀ x, x ∈ P ++ o :: Q ↔ x = o ∨ x ∈ ln := fun x => by rw [hperm.mem_iff, List.mem_cons]
  have hne : ∀ x ∈ ln, x ≠ o := fun x hx q => hol (q ▸ hx)
  have hcnt : ln.countP (fun x => (fSet rq o q x).1 == 1) = ln.countP (fun o => (rq o).1 == 1) := countP_congr2 ln (fun x hx => by rw [fSet_n (hne x hx)])
  have all : ∀ {p : Nat → Prop}, p o → (∀ x ∈ ln, p x) → ∀ x ∈ P ++ o :: Q, p x := fun {p} a b x hx => by
    rcases (hmem x).mp hx with qx | qx
    · rw [qx]; exact a
    · exact b x qx
  refine ⟨?_, h2, all (fun k => ?_) (fun x hx k => ?_), all (fun k => ?_) (fun x hx k => ?_), h5, all (fun k => ?_) (fun x hx k => ?_), all (fun k => ?_) (fun x hx k => ?_)⟩
  · rw [hperm.countP_eq, List.countP_cons, hcnt, fSet_s]
    by_cases k : q.1 = 1
    · have := (h1' k).1
      have kb : (q.1 == 1) = true := by simpa using k
      rw [kb, if_pos rfl]
      omega
    · have kb : (q.1 == 1) = false := by simpa using k
      rw [kb, if_neg (by decide)]
      omega
  · rw [fSet_s] at k ⊢; exact (h1' k).2.1
  · rw [fSet_n (hne x hx)] at k ⊢; exact h3 x hx k
  · rw [fSet_s] at k ⊢; exact h2' k
  · rw [fSet_n (hne x hx)] at k ⊢; exact h4 x hx k
  · rw [fSet_s] at k ⊢; exact (h1' k).2.2
  · rw [fSet_n (hne x hx)] at k ⊢; exact h6 x hx k
  · rw [fSet_s] at k ⊢; exact h3' k
  · rw [fSet_n (hne x hx)] at k ⊢; exact h7 x hx k
