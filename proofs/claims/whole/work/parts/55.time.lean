/-! time -/
def rq0 : Nat → Rq := fun _ => (0, 0, 0, 0, 0, false)
theorem bef0 (cm : Nat → Nat) (a b : Nat) : bef rq0 cm a b = decide (cm a < cm b) := by
  unfold bef rq0
  rw [if_pos rfl]
/-- what is over its time -/
def ovT (L T : Nat) (sc : Nat → Nat) (o : Nat) : Bool := decide (L ≤ T - sc o)
def tmOk (rsi rar mwx : Nat → Int32) (mwc : Nat → Int32) (cm ar sc : Nat → Nat) (T B : Nat) (ln : List Nat) : Prop := (∀ o ∈ ln, rsi o = nI (sc o) ∧ sc o ≤ T ∧ mwx o = nI (T - sc o)) ∧ (∀ o ∈ ln, rar o = nI (ar o) ∧ ar o < B) ∧ (∀ o ∈ ln, mwc o = nI (cm o) ∧ cm o < 2 ^ 30) ∧ ∀ x ∈ ln, ∀ y ∈ ln, (ar x < ar y ↔ cm x < cm y)
theorem tmOk.sub {rsi rar mwx mwc : Nat → Int32} {cm ar sc : Nat → Nat} {T B : Nat} {ln ln' : List Nat} (h : tmOk rsi rar mwx mwc cm ar sc T B ln) (hl : ∀ x ∈ ln', x ∈ ln) : tmOk rsi rar mwx mwc cm ar sc T B ln' := ⟨fun o ho => h.1 o (hl o ho), fun o ho => h.2.1 o (hl o ho), fun o ho => h.2.2.1 o (hl o ho), fun x hx y hy => h.2.2.2 x (hl x hx) y (hl y hy)⟩
theorem p_first {rli rsi rar mwx mwc : Nat → Int32} {cm ar sc : Nat → Nat} {T B L : Nat} {ln : List Nat} (hn : lnAt rli ln) (h : tmOk rsi rar mwx mwc cm ar sc T B ln) (hT : T < 2 ^ 30) (hB : B < 2 ^ 30) (hL : L < 2 ^ 30) : F_R_firstOverdue rsi rli rar (nI ln.length) (nI T) (nI L) = some (mI (ln.foldl (mnF rq0 ar (ovT L T sc)) none)) := by
  unfold F_R_firstOverdue
  have h8 := hn.1
  have key := p_scan ln (fun q a i => F_R_firstOverdue_L5 rsi rli rar (nI ln.length) (nI T) (nI L) q (mI a) i) (mnF rq0 ar (ovT L T sc)) (fun a => some (mI a)) (fun a => ∀ x, a = some x → x ∈ ln) (fun q a _ => by
      show F_R_firstOverdue_L5 _ _ _ _ _ _ (q + 1) _ _ = _
      rw [F_R_firstOverdue_L5, if_pos (by exact Int32.le_refl _)]) (fun q a k r ha hr => by
      have hk : k < ln.length := (List.getElem?_eq_some_iff.mp hr).1
      have hrm : r ∈ ln := List.mem_of_getElem? hr
      have r8 := hn.2.1 r hrm
      obtain ⟨e1, e2, -⟩ := h.1 r hrm
      obtain ⟨e3, e4⟩ := h.2.1 r hrm
      refine ⟨fun x hx => ?_, ?_⟩
      · unfold mnF at hx
        cases hc : ovT L T sc r with
        | false => rw [hc, if_neg (by decide)] at hx; exact ha x hx
        | true =>
          rw [hc, if_pos rfl] at hx
          cases a with
          | none => cases hx; exact hrm
          | some z =>
            simp only at hx
            by_cases hb : bef rq0 ar r z = true
            · rw [if_pos hb] at hx; cases hx; exact hrm
            · rw [if_neg hb] at hx; cases hx; exact ha _ rfl
      · show F_R_firstOverdue_L5 _ _ _ _ _ _ (q + 1) _ _ = F_R_firstOverdue_L5 _ _ _ _ _ _ q _ _
        have c1 : nI (T - sc r) < nI L ↔ T - sc r < L := nI_ltI (by omega) (by omega)
        rw [F_R_firstOverdue_L5, if_neg (nI_ge hk (by omega))]
        simp only [jn1, nI_clamp (show k < 2 ^ 31 by omega), pz_gd2 (show k < 8 by omega) (show 8 < 2 ^ 31 by omega), hn.2.2.2 k r hr, nI_clamp (show r < 2 ^ 31 by omega), pz_gd2 r8 (show 8 < 2 ^ 31 by omega), e1, e3, nI_sub e2, c1, nI_1, eq_self, if_true, i10, if_false]
        unfold mnF ovT
        by_cases hc : T - sc r < L
        · rw [if_pos hc]
          have : decide (L ≤ T - sc r) = false := decide_eq_false (by omega)
          rw [this, if_neg (by decide)]
        · rw [if_neg hc]
          have : decide (L ≤ T - sc r) = true := decide_eq_true (by omega)
          rw [this, if_pos rfl]
          cases a with
          | none => rw [if_pos (show mI none = -1 from rfl)]; rfl
          | some z =>
            have hzm := ha z rfl
            have z8 := hn.2.1 z hzm
            obtain ⟨e5, e6⟩ := h.2.1 z hzm
            have c2 : nI (ar z) ≤ nI (ar r) ↔ ar z ≤ ar r := nI_leI (by omega) (by omega)
            rw [if_neg (show ¬ mI (some z) = -1 from pz_nm z (by omega)), show mI (some z) = nI z from rfl, pz_gd z8 (by omega), nI_clamp (by omega), e5]
            simp only [c2, bef0]
            by_cases hb : ar r < ar z
            · rw [if_neg (by omega), decide_eq_true hb, if_pos rfl]; rfl
            · rw [if_pos (by omega), decide_eq_false hb, if_neg (by decide)]; rfl) (m := fu) (a := none) (fu_lt (by omega)) (fun x hx => by cases hx)
  rw [show mI none = (-1 : Int32) from rfl] at key
  rw [key, ob1_s]
theorem p_longest {mst rsi rar mwx mwc : Nat → Int32} {st : Nat → Nat} {cm ar sc : Nat → Nat} {T B L : Nat} {ln : List Nat} (hs : stAt mst st) (hm : ∀ o, o ∈ ln ↔ o < 8 ∧ st o = 2) (h : tmOk rsi rar mwx mwc cm ar sc T B ln) (hT : T < 2 ^ 30) (hL : L < 2 ^ 30) (hL0 : 0 < L) : F_M_longest mst mwc mwx (nI L) = some (mI ((List.range 8).foldl (mnF rq0 cm (fun o => st o == 2 && ovT L T sc o)) none)) := by
  unfold F_M_longest
  have key := p_scan (List.range 8) (fun q a i => F_M_longest_L4 mst mwc mwx (nI L) q (mI a) i) (mnF rq0 cm (fun o => st o == 2 && ovT L T sc o)) (fun a => some (mI a)) (fun a => ∀ x, a = some x → x ∈ ln) (fun q a _ => by
      show F_M_longest_L4 _ _ _ _ (q + 1) _ (nI 8) = _
      rw [F_M_longest_L4, if_pos (by exact Int32.le_refl _)]) (fun q a k r ha hr => by
      obtain ⟨hk, rfl⟩ := range_at hr
      refine ⟨fun x hx => ?_, ?_⟩
      · unfold mnF at hx
        cases hc : (st r == 2 && ovT L T sc r) with
        | false => simp only [hc] at hx; rw [if_neg (by decide)] at hx; exact ha x hx
        | true =>
          have hrm : r ∈ ln := (hm r).mpr ⟨hk, by simp only [Bool.and_eq_true] at hc; simpa using hc.1⟩
          simp only [hc, if_true] at hx
          cases a with
          | none => cases hx; exact hrm
          | some z =>
            simp only at hx
            by_cases hb : bef rq0 cm r z = true
            · rw [if_pos hb] at hx; cases hx; exact hrm
            · rw [if_neg hb] at hx; cases hx; exact ha _ rfl
      · show F_M_longest_L4 _ _ _ _ (q + 1) _ _ = F_M_longest_L4 _ _ _ _ q _ _
        have c0 : mst r = 2 ↔ st r = 2 := hs.eq (k := 2) hk (by omega)
        rw [F_M_longest_L4, if_neg (show ¬ (8 : Int32) ≤ nI r from nI_ge (b := 8) hk (by omega)), if_neg (nI_nle hL0 (by omega))]
        simp only [nI_clamp (show r < 2 ^ 31 by omega), pz_gd2 hk (show 8 < 2 ^ 31 by omega), c0, nI_1]
        unfold mnF
        by_cases s2 : st r = 2
        · have hrm : r ∈ ln := (hm r).mpr ⟨hk, s2⟩
          obtain ⟨e1, e2, e3⟩ := h.1 r hrm
          obtain ⟨e4, e5⟩ := h.2.2.1 r hrm
          have s2' : (st r == 2) = true := by simpa using s2
          have c1 : nI (T - sc r) < nI L ↔ T - sc r < L := nI_ltI (by omega) (by omega)
          simp only [s2, if_true, e3, c1, e4, s2', Bool.true_and]
          unfold ovT
          by_cases hc : T - sc r < L
          · rw [if_pos hc]
            have : decide (L ≤ T - sc r) = false := decide_eq_false (by omega)
            simp [this]
          · rw [if_neg hc]
            have : decide (L ≤ T - sc r) = true := decide_eq_true (by omega)
            simp only [this, beq_self_eq_true, Bool.and_self, if_true]
            cases a with
            | none => rw [if_pos (show mI none < 0 by decide)]; rfl
            | some z =>
              have hzm := ha z rfl
              obtain ⟨z8, z2⟩ := (hm z).mp hzm
              obtain ⟨e6, e7⟩ := h.2.2.1 z hzm
              have c2 : nI (cm z) ≤ nI (cm r) ↔ cm z ≤ cm r := nI_leI (by omega) (by omega)
              rw [if_neg (show ¬ mI (some z) < 0 from nI_pos (by omega)), show mI (some z) = nI z from rfl, pz_gd z8 (by omega), nI_clamp (by omega), e6]
              simp only [c2, bef0]
              by_cases hb : cm r < cm z
              · rw [if_neg (by omega), decide_eq_true hb, if_pos rfl]; rfl
              · rw [if_pos (by omega), decide_eq_false hb, if_neg (by decide)]; rfl
        · have s2' : (st r == 2) = false := by simpa using s2
          simp [s2, s2']) (m := fu) (a := none) (fu_lt (by simp)) (fun x hx => by cases hx)
  rw [show mI none = (-1 : Int32) from rfl] at key
  rw [key, ob1_s]
theorem p_longest0 (mst mwc mwx : Nat → Int32) : F_M_longest mst mwc mwx (nI 0) = some (-1) := by
  unfold F_M_longest
  rw [show fu = 4999 + 1 from rfl, F_M_longest_L4, if_neg (by decide), if_pos (by decide), ob1_s]
/-- the same owner is taken back -/
theorem p_same {rsi rar mwx mwc : Nat → Int32} {st : Nat → Nat} {cm ar sc : Nat → Nat} {T B L : Nat} {ln : List Nat} (hm : ∀ o, o ∈ ln ↔ o < 8 ∧ st o = 2) (h : tmOk rsi rar mwx mwc cm ar sc T B ln) (hinj : cmInj st cm) : (List.range 8).foldl (mnF rq0 cm (fun o => st o == 2 && ovT L T sc o)) none = ln.foldl (mnF rq0 ar (ovT L T sc)) none ∧ ∀ x, ln.foldl (mnF rq0 ar (ovT L T sc)) none = some x → x ∈ ln := by
  have hl8 : ∀ x ∈ ln, x < 8 := fun x hx => ((hm x).mp hx).1
  have hcand : ∀ x, (st x == 2 && ovT L T sc x) = true → x < 8 → x ∈ ln ∧ ovT L T sc x = true := fun x hx h8 => by
    simp only [Bool.and_eq_true] at hx
    exact ⟨(hm x).mpr ⟨h8, by simpa using hx.1⟩, hx.2⟩
  have hcand2 : ∀ x ∈ ln, ovT L T sc x = true → (st x == 2 && ovT L T sc x) = true := fun x hx hc => by
    have := ((hm x).mp hx).2
    simp [this, hc]
  have hai : ∀ x ∈ ln, ∀ y ∈ ln, ar x = ar y → x = y := fun x hx y hy e => by
    have a1 := h.2.2.2 x hx y hy
    have a2 := h.2.2.2 y hy x hx
    obtain ⟨x8, x2⟩ := (hm x).mp hx
    obtain ⟨y8, y2⟩ := (hm y).mp hy
    exact hinj x y x8 y8 x2 y2 (by omega)
  have key1 := mn_fold (rq := rq0) (cm := cm) (fun o => st o == 2 && ovT L T sc o) (fun a b a8 b8 ha hb e => by
    obtain ⟨m1, -⟩ := hcand a ha a8
    obtain ⟨m2, -⟩ := hcand b hb b8
    exact hinj a b a8 b8 ((hm a).mp m1).2 ((hm b).mp m2).2 e) (List.range 8) [] none (fun y hy => by simpa using hy) (Or.inl ⟨rfl, fun y hy => by cases hy⟩)
  have key2 := mn_fold (rq := rq0) (cm := fun x => if x ∈ ln then ar x else B + x) (ovT L T sc) (fun a b a8 b8 ha hb e => by
    by_cases q1 : a ∈ ln <;> by_cases q2 : b ∈ ln
    · simp only [if_pos q1, if_pos q2] at e; exact hai a q1 b q2 e
    · simp only [if_pos q1, if_neg q2] at e; have := (h.2.1 a q1).2; omega
    · simp only [if_neg q1, if_pos q2] at e; have := (h.2.1 b q2).2; omega
    · simp only [if_neg q1, if_neg q2] at e; omega) ln [] none (fun y hy => hl8 y (by simpa using hy)) (Or.inl ⟨rfl, fun y hy => by cases hy⟩)
  have hfold : ∀ (l : List Nat) (a : Option Nat), (∀ x ∈ l, x ∈ ln) → (∀ x, a = some x → x ∈ ln) → l.foldl (mnF rq0 (fun x => if x ∈ ln then ar x else B + x) (ovT L T sc)) a = l.foldl (mnF rq0 ar (ovT L T sc)) a := by
    intro l
    induction l with
    | nil => intro a _ _; rfl
    | cons k l ih =>
      intro a hl ha
      rw [List.foldl_cons, List.foldl_cons]
      have hk := hl k (by simp)
      have e : mnF rq0 (fun x => if x ∈ ln then ar x else B + x) (ovT L T sc) a k = mnF rq0 ar (ovT L T sc) a k := by
        unfold mnF
        cases a with
        | none => rfl
        | some z =>
          simp only [bef0, if_pos hk, if_pos (ha z rfl)]
      rw [e]
      apply ih _ (fun x hx => hl x (by simp [hx]))
      intro x hx
      unfold mnF at hx
      by_cases hc : ovT L T sc k = true
      · rw [if_pos hc] at hx
        cases a with
        | none => cases hx; exact hk
        | some z =>
          simp only at hx
          by_cases hb : bef rq0 ar k z = true
          · rw [if_pos hb] at hx; cases hx; exact hk
          · rw [if_neg hb] at hx; cases hx; exact ha _ rfl
      · rw [if_neg hc] at hx; exact ha x hx
  rw [hfold ln none (fun x hx => hx) (fun x hx => by cases hx)] at key2
  simp only [List.nil_append] at key1 key2
  rcases key1 with ⟨a1, a2⟩ | ⟨x, a1, a2, a3, a4⟩ <;> rcases key2 with ⟨b1, b2⟩ | ⟨y, b1, b2, b3, b4⟩
  · rw [a1, b1]; exact ⟨rfl, fun x hx => by cases hx⟩
  · exfalso
    have := a2 y (by simpa using hl8 y b2)
    rw [hcand2 y b2 b3] at this
    cases this
  · exfalso
    obtain ⟨m1, m2⟩ := hcand x a3 (by simpa using a2)
    have := b2 x m1
    rw [m2] at this
    cases this
  · obtain ⟨m1, m2⟩ := hcand x a3 (by simpa using a2)
    have hxy : x = y := Decidable.byContradiction (fun ne => by
      have c1 := a4 y (by simpa using hl8 y b2) (hcand2 y b2 b3) (fun e => ne e.symm)
      have c2 := b4 x m1 m2 ne
      rw [bef0] at c1 c2
      have c1' : cm x < cm y := of_decide_eq_true c1
      have c2' := of_decide_eq_true c2
      simp only [if_pos b2, if_pos m1] at c2'
      have := (h.2.2.2 y b2 x m1).mp c2'
      omega)
    rw [a1, b1, hxy]
    exact ⟨rfl, fun z hz => by cases hz; exact b2⟩
