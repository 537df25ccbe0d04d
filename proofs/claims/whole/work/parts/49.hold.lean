/-! what it holds already -/
theorem invQ_congr {qc qc' : QC} {qm qm' : QM} {rq : Nat → Rq} {cm : Nat → Nat} {st st' : Nat → Nat} {ln : List Nat} (h : InvQ qc qm rq cm st ln) (hac : ∀ x ∈ ln, agC qc qc' x) (ham : ∀ x ∈ ln, agM qm qm' x) (hst : ∀ x, x < 8 → (st' x = 2 ↔ st x = 2)) : InvQ qc' qm' rq cm st' ln := by
  obtain ⟨⟨h1, h2, h3⟩, h4, h5, h6, h7⟩ := h
  refine ⟨⟨h1, fun x => ?_, h3⟩, fun x y hx hy sx sy => h4 x y hx hy ((hst x hx).mp sx) ((hst y hy).mp sy), fun x hx => ?_, fun x hx sx => ?_, h7⟩
  · rw [h2 x]
    exact ⟨fun r => ⟨r.1, (hst x r.1).mpr r.2⟩, fun r => ⟨r.1, (hst x r.1).mp r.2⟩⟩
  · obtain ⟨g1, g2, g3, g4, g5, g6, g7⟩ := hac x hx
    obtain ⟨k1, k2, k3, k4, k5, k6, k7⟩ := h5 x hx
    exact ⟨k1, g1 ▸ k2, g2 ▸ k3, g7 ▸ k4, g5 ▸ k5, fun z => ⟨g3 ▸ (k6 z).1, g4 ▸ (k6 z).2⟩, g6 ▸ k7⟩
  · have sx' := (hst x hx).mp sx
    obtain ⟨g1, g2, g3, g4, g5, g6, g7⟩ := ham x ((h2 x).mpr ⟨hx, sx'⟩)
    obtain ⟨⟨k1, k2, k3, k4, k5, k6⟩, k7, k8⟩ := h6 x hx sx'
    exact ⟨⟨k1, g1 ▸ k2, g2 ▸ k3, g3 ▸ k4, fun z => ⟨g4 ▸ (k5 z).1, g5 ▸ (k5 z).2⟩, g6 ▸ k6⟩, g7 ▸ k7, k8⟩
theorem agC_refl (qc : QC) (x : Nat) : agC qc qc x := ⟨rfl, rfl, rfl, rfl, rfl, rfl, rfl⟩
theorem agM_refl (qm : QM) (x : Nat) : agM qm qm x := ⟨rfl, rfl, rfl, rfl, rfl, rfl, rfl⟩
theorem invR_own {rq : Nat → Rq} {tm tm' : Nat → Nat → Option Nat} {rs rs' : List Row} {ln : List Nat} (h : InvR rq tm rs ln) {o : Nat} (hol : o ∉ ln) (hsub : rs'.Sublist rs) (hkeep : ∀ r ∈ rs, r.1 ≠ o → r ∈ rs') (htm : ∀ x t, x ≠ o → tm' x t = tm x t) (hown : ∀ r ∈ rs', r.1 = o → hld (tm' r.1 r.2.1) r.2.2.2.2) : InvR rq tm' rs' ln := by
  obtain ⟨h1, h2, h3, h4, h5, h6, h7⟩ := h
  have hne : ∀ x ∈ ln, x ≠ o := fun x hx q => hol (q ▸ hx)
  have hl := hsub.length_le
  refine ⟨by omega, fun x t => Nat.le_trans (List.Sublist.countP_le hsub) (h2 x t), fun x hx k => Nat.lt_of_le_of_lt (List.Sublist.countP_le hsub) (h3 x hx k), fun x hx k => ?_, fun r hr => ?_, fun x hx k => ?_, fun x hx k => ?_⟩
  · obtain ⟨r, r1, r2⟩ := List.any_eq_true.mp (h4 x hx k)
    refine List.any_eq_true.mpr ⟨r, hkeep r r1 ?_, r2⟩
    unfold isOnB at r2
    simp at r2
    rw [r2.1]
    exact hne x hx
  · by_cases q : r.1 = o
    · exact hown r hr q
    · rw [htm r.1 r.2.1 q]
      exact h5 r (hsub.mem hr)
  · rw [htm x _ (hne x hx)]; exact h6 x hx k
  · rw [htm x _ (hne x hx)]; exact h7 x hx k
theorem st_back {st : Nat → Nat} {o : Nat} (h : st o = 1) : stSet (stSet st o 2) o 1 = st := by
  funext x
  unfold stSet
  by_cases q : x = o
  · rw [if_pos q, q, h]
  · rw [if_neg q, if_neg q]
theorem tm_back {tm : Nat → Nat → Option Nat} {o t : Nat} {m : Option Nat} (h : tm o t = m) : tmSet tm o t m = tm := by
  funext x y
  unfold tmSet
  by_cases q : x = o ∧ y = t
  · rw [if_pos q, q.1, q.2, h]
  · rw [if_neg q]
/-- the class's part of a request for what is held -/
theorem p_askH0 {qc0 qc : QC} {qm0 : QM} {rq : Nat → Rq} {cm : Nat → Nat} {a : CA} {b : MA} {st : Nat → Nat} {tm : Nat → Nat → Option Nat} {rs : List Row} {ln gr : List Nat} (hJ : Jt qc0 qm0 rq cm a b st tm rs ln gr) (hg : gr = []) {o : Nat} (ho : o < 8) (hst : st o = 1) (q : Rq) (hac : ∀ x, x ≠ o → agC qc0 qc x) (hco : rqAtC qc.1 qc.2.1 qc.2.2.1 qc.2.2.2.1 qc.2.2.2.2.1 qc.2.2.2.2.2.1 qc.2.2.2.2.2.2 o q) (hk1 : q.1 ≠ 1) (hh : tm o q.2.1 = some q.2.2.1) (xse : Nat → Int32) (re rsi rar : Nat → Int32) (xno rad : Int32) :
    ∃ (a' : CA), CSa a' st tm (if q.1 = 2 then rs.filter (fun r => !isOnB o q.2.1 r) else rs) ln gr ∧ askC qc xse a re rsi rar (nI o) xno rad (nI o) = if q.1 = 2 then ob12 (lookC qc (nI o) a') (fun x1 x2 x3 x4 x5 x6 x7 x8 x9 x10 x11 x12 => some (AR 0 (x1, x2, x3, x4, x5, x6, x7, x8, x9, x10, x11, x12) re (upd rsi o xno) (upd rar o rad) (rad + 1))) else some (AR 0 a' re (upd rsi o xno) (upd rar o rad) (rad + 1)) := by
  obtain ⟨P, Q, r2, e, hP, hQ0, hQo, f1, f2⟩ := p_entered hJ hg ho (by omega) q hac hco rsi rar rad xno
  obtain ⟨S1, S2, hQ, hR, h5⟩ := hJ
  have S3 : CSa (upd a.1 o 2, a.2.1, a.2.2.1, a.2.2.2.1, a.2.2.2.2.1, a.2.2.2.2.2.1, a.2.2.2.2.2.2.1, a.2.2.2.2.2.2.2.1, r2, a.2.2.2.2.2.2.2.2.2.1, a.2.2.2.2.2.2.2.2.2.2.1, nI (P ++ o :: Q).length) (stSet st o 2) tm rs (P ++ o :: Q) gr := ⟨S1.1.set (v := 2) (by omega), S1.2.1, S1.2.2.1, ⟨f2, rfl⟩, S1.2.2.2.2⟩
  have hhold : F_T_holdsWhatItAsks a.2.2.1 qc.1 qc.2.1 qc.2.2.2.2.1 (nI o) = some (b2i (q.1 != 1 && decide (tm o q.2.1 = some q.2.2.1))) := p_holds S1.2.1 ho hco
  have hb0 : (q.1 != 1 && decide (tm o q.2.1 = some q.2.2.1)) = true := by simp [hk1, hh]
  rw [hb0] at hhold
  obtain ⟨a', e1, S4⟩ := p_grantCa (rq := fSet rq o q) S3 (by rw [fSet_s]; exact hco) (by rw [fSet_s]; exact fun k => absurd k hk1) ho (by rw [hg]; decide) (by rw [fSet_s]; exact fun k => absurd k hk1) (nI o)
  refine ⟨a', ?_, ?_⟩
  · have t1 : gTm (fSet rq o q) o tm = tm := by
      unfold gTm
      rw [fSet_s, if_neg hk1]
      exact tm_back hh
    have t2 : gRs (fSet rq o q) o rs = if q.1 = 2 then rs.filter (fun r => !isOnB o q.2.1 r) else rs := by
      unfold gRs
      rw [fSet_s, if_neg hk1]
    have t3 : gGr (nI o) o gr = gr := by unfold gGr; rw [if_pos rfl]
    rw [st_back hst, t1, t2, t3, gLn_mid f2.2.2.1, ← e] at S4
    exact S4
  · rw [askC_def, f1, ob5_s, pz_gd ho (by omega), hhold, ob1_s]
    simp only [jn0]
    rw [if_neg (show ¬ b2i true = 0 by decide), nI_clamp (show o < 2 ^ 31 by omega), e1, ob13_c]
    simp only [fSet_s]
    by_cases k2 : q.1 = 2
    · have : (q.1 == 2) = true := by simpa using k2
      rw [this, if_neg (show ¬ b2i true = 0 by decide), if_pos k2]
    · have : (q.1 == 2) = false := by simpa using k2
      rw [this, if_pos (show b2i false = 0 from rfl), if_neg k2]
/-! counts -/
theorem fold_cnt {ρ : Type} (P : ρ → Bool) : ∀ (l : List ρ) (n : Nat), l.foldl (fun a r => if P r then a + 1 else a) n = n + l.countP P := by
  intro l
  induction l with
  | nil => intro n; rfl
  | cons x l ih =>
    intro n
    rw [List.foldl_cons, ih, List.countP_cons]
    cases P x with
    | true => simp; omega
    | false => simp
def hasT (tm : Nat → Nat → Option Nat) (i : Nat) : Bool := (tm (i / 16) (i % 16)).isSome
theorem tm_ix {ltm : Nat → Int32} {tm : Nat → Nat → Option Nat} (h : tmAt ltm tm) {i : Nat} (hi : i < 128) : ltm i = mI (tm (i / 16) (i % 16)) := by
  have := (h (i / 16) (i % 16) (by omega) (by omega)).1
  rw [show 16 * (i / 16) + i % 16 = i by omega] at this
  exact this
theorem mI_m1 {h : Option Nat} (hh : ∀ a, h = some a → a < 6) {α : Type} {x y : α} : (if mI h = -1 then x else y) = if h.isSome then y else x := by
  cases h with
  | none => rfl
  | some a => rw [if_neg (show ¬ mI (some a) = -1 from pz_nm a (by have := hh a rfl; omega))]; rfl
theorem mI_neg {h : Option Nat} (hh : ∀ a, h = some a → a < 6) {α : Type} {x y : α} : (if mI h < 0 then x else y) = if h.isSome then y else x := by
  cases h with
  | none => rfl
  | some a => rw [if_neg (show ¬ mI (some a) < 0 from nI_pos (by have := hh a rfl; omega))]; rfl
theorem p_countAll {ltm : Nat → Int32} {tm : Nat → Nat → Option Nat} (h : tmAt ltm tm) (n : Nat) : F_L_countAll ltm (nI n) = some (nI (n + (List.range 128).countP (hasT tm))) := by
  unfold F_L_countAll
  have key := p_scan (List.range 128) (fun q a i => F_L_countAll_L7 ltm q (nI a) i) (fun a k => if hasT tm k then a + 1 else a) (fun a => some (nI a)) (fun _ => True) (fun q a _ => by
      show F_L_countAll_L7 _ (q + 1) _ (nI 128) = _
      rw [F_L_countAll_L7, if_pos (by exact Int32.le_refl _)]) (fun q a k r _ hr => by
      obtain ⟨hk, rfl⟩ := range_at hr
      refine ⟨trivial, ?_⟩
      show F_L_countAll_L7 _ (q + 1) _ _ = F_L_countAll_L7 _ q _ _
      rw [F_L_countAll_L7, if_neg (show ¬ (128 : Int32) ≤ nI r from nI_ge (b := 128) hk (by omega)), pz_gd hk (by omega), nI_clamp (by omega), tm_ix h hk, mI_m1 (h (r / 16) (r % 16) (by omega) (by omega)).2, nI_1, nI_1]
      unfold hasT
      cases (tm (r / 16) (r % 16)).isSome <;> rfl) (m := fu) (a := n) (fu_lt (by simp)) trivial
  rw [key, ob1_s, fold_cnt]
theorem wait_len {rq : Nat → Rq} {cm st : Nat → Nat} {ln : List Nat} (h : ordL st rq cm ln) : (List.range 8).countP (fun o => st o == 2) = ln.length := by
  rw [List.countP_eq_length_filter]
  apply List.Perm.length_eq
  rw [List.perm_ext_iff_of_nodup (List.nodup_range.filter _) h.1]
  intro x
  rw [List.mem_filter, h.2.1 x]
  simp
theorem p_counted {mst mmo : Nat → Int32} {st : Nat → Nat} {tm : Nat → Nat → Option Nat} (hs : stAt mst st) (h : tmAt mmo tm) (n : Nat) : F_M_counted mst mmo (nI n) = some (nI (n + (List.range 128).countP (hasT tm) + (List.range 8).countP (fun o => st o == 2))) := by
  unfold F_M_counted
  have key := p_scan (List.range 128) (fun q a i => F_M_counted_L7 mmo q (nI a) i) (fun a k => if hasT tm k then a + 1 else a) (fun a => some (nI a)) (fun _ => True) (fun q a _ => by
      show F_M_counted_L7 _ (q + 1) _ (nI 128) = _
      rw [F_M_counted_L7, if_pos (by exact Int32.le_refl _)]) (fun q a k r _ hr => by
      obtain ⟨hk, rfl⟩ := range_at hr
      refine ⟨trivial, ?_⟩
      show F_M_counted_L7 _ (q + 1) _ _ = F_M_counted_L7 _ q _ _
      rw [F_M_counted_L7, if_neg (show ¬ (128 : Int32) ≤ nI r from nI_ge (b := 128) hk (by omega)), pz_gd hk (by omega), nI_clamp (by omega), tm_ix h hk, mI_neg (h (r / 16) (r % 16) (by omega) (by omega)).2, nI_1, nI_1]
      unfold hasT
      cases (tm (r / 16) (r % 16)).isSome <;> rfl) (m := fu) (a := n) (fu_lt (by simp)) trivial
  rw [key, ob1_s, fold_cnt]
  have key2 := p_scan (List.range 8) (fun q a i => F_M_counted_L39 mst q (nI a) i) (fun a k => if st k == 2 then a + 1 else a) (fun a => some (nI a)) (fun _ => True) (fun q a _ => by
      show F_M_counted_L39 _ (q + 1) _ (nI 8) = _
      rw [F_M_counted_L39, if_pos (by exact Int32.le_refl _)]) (fun q a k r _ hr => by
      obtain ⟨hk, rfl⟩ := range_at hr
      refine ⟨trivial, ?_⟩
      show F_M_counted_L39 _ (q + 1) _ _ = F_M_counted_L39 _ q _ _
      have c0 : mst r = 2 ↔ st r = 2 := hs.eq (k := 2) hk (by omega)
      rw [F_M_counted_L39, if_neg (show ¬ (8 : Int32) ≤ nI r from nI_ge (b := 8) hk (by omega)), pz_gd hk (by omega), nI_clamp (by omega), nI_1, nI_1]
      simp only [c0]
      by_cases q2 : st r = 2
      · simp [q2]
      · simp [q2]) (m := fu) (a := n + (List.range 128).countP (hasT tm)) (fu_lt (by simp)) trivial
  rw [key2, ob1_s, fold_cnt]
def cntO (tm : Nat → Nat → Option Nat) (rs : List Row) (o : Nat) : Nat := (List.range 16).countP (fun t => (tm o t).isSome) + rs.countP (fun r => r.1 == o)
theorem p_countOf {ltm low lta : Nat → Int32} {llo lhi : Nat → Int64} {lmo : Nat → Int32} {rs : List Row} {tm : Nat → Nat → Option Nat} (hr0 : rowsAt low lta llo lhi lmo rs) (h : tmAt ltm tm) {o : Nat} (ho : o < 8) : F_L_countOf ltm low (nI rs.length) (nI o) = some (nI (cntO tm rs o)) := by
  unfold F_L_countOf
  have hl := hr0.1
  have key := p_scan (List.range 16) (fun q a i => F_L_countOf_L4 ltm (nI o) q (nI a) i) (fun a t => if (tm o t).isSome then a + 1 else a) (fun a => some (nI a)) (fun _ => True) (fun q a _ => by
      show F_L_countOf_L4 _ _ (q + 1) _ (nI 16) = _
      rw [F_L_countOf_L4, if_pos (by exact Int32.le_refl _)]) (fun q a k r _ hr => by
      obtain ⟨hk, rfl⟩ := range_at hr
      refine ⟨trivial, ?_⟩
      show F_L_countOf_L4 _ _ (q + 1) _ _ = F_L_countOf_L4 _ _ q _ _
      rw [F_L_countOf_L4, if_neg (show ¬ (16 : Int32) ≤ nI r from nI_ge (b := 16) hk (by omega)), p_heldMode h ho hk, ob1_s, mI_m1 (h o r ho hk).2, nI_1, nI_1]
      cases (tm o r).isSome <;> rfl) (m := fu) (a := 0) (fu_lt (by simp)) trivial
  rw [nI_0] at key
  rw [key, ob1_s, fold_cnt]
  have key2 := p_scan rs (fun q a i => F_L_countOf_L31 low (nI rs.length) (nI o) q (nI a) i) (fun a r => if r.1 == o then a + 1 else a) (fun a => some (nI a)) (fun _ => True) (fun q a _ => by
      show F_L_countOf_L31 _ _ _ (q + 1) _ _ = _
      rw [F_L_countOf_L31, if_pos (by exact Int32.le_refl _)]) (fun q a k r _ hr => by
      refine ⟨trivial, ?_⟩
      obtain ⟨hk, hk2, ⟨o8, -⟩, e1, -⟩ := hr0.at hr
      show F_L_countOf_L31 _ _ _ (q + 1) _ _ = F_L_countOf_L31 _ _ _ q _ _
      rw [F_L_countOf_L31, if_neg (nI_ge hk2 (by omega)), pz_gd hk (by omega), nI_clamp (by omega), e1, nI_1, nI_1]
      simp only [nI_eq (show r.1 < 2 ^ 31 by omega) (show o < 2 ^ 31 by omega)]
      by_cases q2 : r.1 = o
      · simp [q2]
      · simp [q2]) (m := fu) (a := 0 + (List.range 16).countP (fun t => (tm o t).isSome)) (fu_lt (by omega)) trivial
  rw [key2, ob1_s, fold_cnt]
  unfold cntO
  congr 2
  omega
theorem p_locksOf {ltm low lta : Nat → Int32} {llo lhi : Nat → Int64} {lmo : Nat → Int32} {rs : List Row} {tm : Nat → Nat → Option Nat} (hr0 : rowsAt low lta llo lhi lmo rs) (h : tmAt ltm tm) {o : Nat} (ho : o < 8) : F_M_locksOf ltm (nI rs.length) low (nI o) = some (nI (cntO tm rs o)) := by
  unfold F_M_locksOf
  have hl := hr0.1
  have key := p_scan (List.range 16) (fun q a i => F_M_locksOf_L4 ltm (nI o) q (nI a) i) (fun a t => if (tm o t).isSome then a + 1 else a) (fun a => some (nI a)) (fun _ => True) (fun q a _ => by
      show F_M_locksOf_L4 _ _ (q + 1) _ (nI 16) = _
      rw [F_M_locksOf_L4, if_pos (by exact Int32.le_refl _)]) (fun q a k r _ hr => by
      obtain ⟨hk, rfl⟩ := range_at hr
      refine ⟨trivial, ?_⟩
      show F_M_locksOf_L4 _ _ (q + 1) _ _ = F_M_locksOf_L4 _ _ q _ _
      rw [F_M_locksOf_L4, if_neg (show ¬ (16 : Int32) ≤ nI r from nI_ge (b := 16) hk (by omega)), p_ixM ho hk, pz_gd (show 16 * o + r < 128 by omega) (by omega), nI_clamp (by omega), (h o r ho hk).1, mI_neg (h o r ho hk).2, nI_1, nI_1]
      cases (tm o r).isSome <;> rfl) (m := fu) (a := 0) (fu_lt (by simp)) trivial
  rw [nI_0] at key
  rw [key, ob1_s, fold_cnt]
  have key2 := p_scan rs (fun q a i => F_M_locksOf_L40 (nI rs.length) low (nI o) q (nI a) i) (fun a r => if r.1 == o then a + 1 else a) (fun a => some (nI a)) (fun _ => True) (fun q a _ => by
      show F_M_locksOf_L40 _ _ _ (q + 1) _ _ = _
      rw [F_M_locksOf_L40, if_pos (by exact Int32.le_refl _)]) (fun q a k r _ hr => by
      refine ⟨trivial, ?_⟩
      obtain ⟨hk, hk2, ⟨o8, -⟩, e1, -⟩ := hr0.at hr
      show F_M_locksOf_L40 _ _ _ (q + 1) _ _ = F_M_locksOf_L40 _ _ _ q _ _
      rw [F_M_locksOf_L40, if_neg (nI_ge hk2 (by omega)), pz_gd hk (by omega), nI_clamp (by omega), e1, nI_1, nI_1]
      simp only [nI_eq (show r.1 < 2 ^ 31 by omega) (show o < 2 ^ 31 by omega)]
      by_cases q2 : r.1 = o
      · simp [q2]
      · simp [q2]) (m := fu) (a := 0 + (List.range 16).countP (fun t => (tm o t).isSome)) (fu_lt (by omega)) trivial
  rw [key2, ob1_s, fold_cnt]
  unfold cntO
  congr 2
  omega
