/-! what a request needs -/
theorem p_around {mro mrt : Nat → Int32} {mrl mrh : Nat → Int64} {mrm : Nat → Int32} {rs : List Row} (h : rowsAt mro mrt mrl mrh mrm rs) {o t : Nat} (ho : o < 8) (ht : t < 16) (lo hi : Int64) {m : Nat} (hm : m = 2 ∨ m = 4 ∨ m = 5) : F_M_hasAround (nI rs.length) mro mrt mrm mrl mrh (nI o) (nI t) lo hi (nI m) = some (b2i (rs.any (fun r => isRoundB o t lo hi r && rcov r.2.2.2.2 m))) := by
  unfold F_M_hasAround
  have hl := h.1
  have key := p_scan rs (fun q a i => F_M_hasAround_L6 (nI rs.length) mro mrt mrm mrl mrh (nI o) (nI t) lo hi (nI m) q (b2i a) i) (fun a r => a || (isRoundB o t lo hi r && rcov r.2.2.2.2 m)) (fun a => some (b2i a)) (fun _ => True) (fun q a _ => by
      show F_M_hasAround_L6 _ _ _ _ _ _ _ _ _ _ _ (q + 1) _ _ = _
      rw [F_M_hasAround_L6, if_pos (by exact Int32.le_refl _)]) (fun q a k r _ hr => by
      refine ⟨trivial, ?_⟩
      obtain ⟨hk, hk2, ⟨h1, h2, h3⟩, e1, e2, e3, e4, e5⟩ := h.at hr
      show F_M_hasAround_L6 _ _ _ _ _ _ _ _ _ _ _ (q + 1) _ _ = F_M_hasAround_L6 _ _ _ _ _ _ _ _ _ _ _ q _ _
      have c1 : nI r.2.1 = nI t ↔ r.2.1 = t := nI_eq (by omega) (by omega)
      have c2 : nI r.1 = nI o ↔ r.1 = o := nI_eq (by omega) (by omega)
      have c3 : ¬ nI m < 0 := nI_pos (by omega)
      rw [F_M_hasAround_L6, if_neg (nI_ge hk2 (by omega))]
      simp only [jn1, jn0, nI_clamp (show k < 2 ^ 31 by omega), pz_gd2 hk (show 256 < 2 ^ 31 by omega), e1, e2, e3, e4, e5, c1, c2, c3, nI_1, p_b0, p_cmp, p_rangeCoversM _ h3 _ hm, ob1_s, if_false]
      cases a <;> by_cases q1 : r.1 = o <;> by_cases q2 : r.2.1 = t <;> cases q3 : decide (r.2.2.1 ≤ lo) <;> cases q4 : decide (hi ≤ r.2.2.2.1) <;> cases q5 : rcov r.2.2.2.2 m <;> simp [isRoundB, isOnB, q1, q2, q3, q4, b2i]) (m := fu) (a := false) (fu_lt (by omega)) trivial
  simp only [show b2i false = (0 : Int32) from rfl] at key
  rw [key]
  simp only [ob1_s]
  rw [fold_or, Bool.false_or]
  cases rs.any (fun r => isRoundB o t lo hi r && rcov r.2.2.2.2 m) <;> decide
theorem p_around0 {mro mrt : Nat → Int32} {mrl mrh : Nat → Int64} {mrm : Nat → Int32} {rs : List Row} (h : rowsAt mro mrt mrl mrh mrm rs) {o t : Nat} (ho : o < 8) (ht : t < 16) (lo hi : Int64) : F_M_hasAround (nI rs.length) mro mrt mrm mrl mrh (nI o) (nI t) lo hi (-1) = some (b2i (rs.any (isRoundB o t lo hi))) := by
  unfold F_M_hasAround
  have hl := h.1
  have key := p_scan rs (fun q a i => F_M_hasAround_L6 (nI rs.length) mro mrt mrm mrl mrh (nI o) (nI t) lo hi (-1) q (b2i a) i) (fun a r => a || isRoundB o t lo hi r) (fun a => some (b2i a)) (fun _ => True) (fun q a _ => by
      show F_M_hasAround_L6 _ _ _ _ _ _ _ _ _ _ _ (q + 1) _ _ = _
      rw [F_M_hasAround_L6, if_pos (by exact Int32.le_refl _)]) (fun q a k r _ hr => by
      refine ⟨trivial, ?_⟩
      obtain ⟨hk, hk2, ⟨h1, h2, h3⟩, e1, e2, e3, e4, e5⟩ := h.at hr
      show F_M_hasAround_L6 _ _ _ _ _ _ _ _ _ _ _ (q + 1) _ _ = F_M_hasAround_L6 _ _ _ _ _ _ _ _ _ _ _ q _ _
      have c1 : nI r.2.1 = nI t ↔ r.2.1 = t := nI_eq (by omega) (by omega)
      have c2 : nI r.1 = nI o ↔ r.1 = o := nI_eq (by omega) (by omega)
      have c3 : ((-1 : Int32) < 0) = True := by decide
      rw [F_M_hasAround_L6, if_neg (nI_ge hk2 (by omega))]
      simp only [jn1, jn0, nI_clamp (show k < 2 ^ 31 by omega), pz_gd2 hk (show 256 < 2 ^ 31 by omega), e1, e2, e3, e4, e5, c1, c2, c3, nI_1, p_b0, p_cmp, if_true]
      cases a <;> by_cases q1 : r.1 = o <;> by_cases q2 : r.2.1 = t <;> cases q3 : decide (r.2.2.1 ≤ lo) <;> cases q4 : decide (hi ≤ r.2.2.2.1) <;> simp [isRoundB, isOnB, q1, q2, q3, q4, b2i]) (m := fu) (a := false) (fu_lt (by omega)) trivial
  simp only [show b2i false = (0 : Int32) from rfl] at key
  rw [key]
  simp only [ob1_s]
  rw [fold_or, Bool.false_or]
  cases rs.any (isRoundB o t lo hi) <;> decide
/-- what is asked of a table, beside what is held -/
def jnW (h : Option Nat) (m : Nat) : Nat := match h with
  | none => m
  | some a => jnd a m
theorem jnW_lt {h : Option Nat} {m : Nat} (hh : ∀ a, h = some a → a < 6) (hm : m < 6) : jnW h m < 6 := by
  cases h with
  | none => exact hm
  | some a => exact jnd_lt a (hh a rfl) m hm
theorem p_joinedWith {mmo : Nat → Int32} {tm : Nat → Nat → Option Nat} (h : tmAt mmo tm) {o t m : Nat} (ho : o < 8) (ht : t < 16) (hm : m < 6) : F_M_joinedWith mmo (nI o) (nI t) (nI m) = some (nI (jnW (tm o t) m)) := by
  obtain ⟨e1, e2⟩ := h o t ho ht
  unfold F_M_joinedWith
  have ei : (16 : Int32) * nI o + nI t = nI (16 * o + t) := by rw [show (16 : Int32) = nI 16 from rfl, pk_mul, nI_add]
  rw [ei, pz_gd (show 16 * o + t < 128 by omega) (by omega), nI_clamp (by omega), e1]
  cases hq : tm o t with
  | none => rw [if_neg (show ¬ (0 : Int32) ≤ mI none by decide)]; rfl
  | some a =>
    rw [if_pos (show (0 : Int32) ≤ mI (some a) from nI_pos' (by have := e2 a hq; omega)), show mI (some a) = nI a from rfl, p_joinedM a (e2 a hq) m hm, ob1_s]
    rfl
theorem str_jnd : ∀ a, a < 6 → ∀ m, m < 6 → str a = true → str (jnd a m) = true := by decide +kernel
theorem keepS_jnW {h : Option Nat} {m : Nat} (hh : ∀ a, h = some a → a < 6) (hm : m < 6) : keepS h (jnW h m) := by
  intro a ha hs
  subst ha
  exact str_jnd a (hh a rfl) m hm hs
theorem upd_s {α : Type} (f : Nat → Int32) (o : Nat) (v : Int32) : upd f o v o = v := by unfold upd; rw [if_pos rfl]
theorem upd_n (f : Nat → Int32) {o x : Nat} (v : Int32) (h : x ≠ o) : upd f o v x = f x := by unfold upd; rw [if_neg h]
theorem updL_s (f : Nat → Int64) (o : Nat) (v : Int64) : vp_updL f o v o = v := by unfold vp_updL; rw [if_pos rfl]
theorem updL_n (f : Nat → Int64) {o x : Nat} (v : Int64) (h : x ≠ o) : vp_updL f o v x = f x := by unfold vp_updL; rw [if_neg h]
/-- how many locks are counted -/
def cntA (tm : Nat → Nat → Option Nat) (rs : List Row) (ln : List Nat) : Nat := rs.length + (List.range 128).countP (hasT tm) + ln.length
theorem p_full {ltm low lta : Nat → Int32} {llo lhi : Nat → Int64} {lmo : Nat → Int32} {lco rwa : Int32} {tm : Nat → Nat → Option Nat} {rs : List Row} {ln : List Nat} (h : tmAt ltm tm) (hr : rowsP low lta llo lhi lmo lco rs) (hw : rwa = nI ln.length) (h8 : ln.length ≤ 8) : F_T_isFull ltm lco rwa = some (b2i (decide (256 ≤ cntA tm rs ln))) := by
  obtain ⟨rs0, s3, s4, s5⟩ := hr
  unfold F_T_isFull F_T_all
  have hc : (List.range 128).countP (hasT tm) ≤ 128 := by
    have := List.countP_le_length (p := hasT tm) (l := List.range 128)
    rwa [List.length_range] at this
  have hl : rs.length ≤ 256 := by rw [← s5.length_eq]; exact s3.1
  rw [s4, hw, p_countAll h, ob1_s, ob1_s, nI_add, s5.length_eq]
  show (if nI (cntA tm rs ln) < nI 256 then some (0 : Int32) else some 1) = _
  have hA : cntA tm rs ln < 2 ^ 31 := by unfold cntA; omega
  by_cases q : cntA tm rs ln < 256
  · rw [if_pos (nI_lt q (by omega)), decide_eq_false (by omega)]; rfl
  · rw [if_neg (nI_nlt (by omega) (by omega)), decide_eq_true (by omega)]; rfl
theorem p_countedA {mst mmo mro mrt : Nat → Int32} {mrl mrh : Nat → Int64} {mrm : Nat → Int32} {mrc : Int32} {st : Nat → Nat} {tm : Nat → Nat → Option Nat} {rs : List Row} {rq : Nat → Rq} {cm : Nat → Nat} {ln : List Nat} (hs : stAt mst st) (h : tmAt mmo tm) (hr : rowsP mro mrt mrl mrh mrm mrc rs) (hq : ordL st rq cm ln) (h8 : ln.length ≤ 8) : ∃ v, F_M_counted mst mmo mrc = some v ∧ (v < 256 ↔ cntA tm rs ln < 256) := by
  obtain ⟨rs0, s3, s4, s5⟩ := hr
  have hc : (List.range 128).countP (hasT tm) ≤ 128 := by
    have := List.countP_le_length (p := hasT tm) (l := List.range 128)
    rwa [List.length_range] at this
  have hl : rs.length ≤ 256 := by rw [← s5.length_eq]; exact s3.1
  refine ⟨nI (cntA tm rs ln), ?_, ?_⟩
  · rw [s4, p_counted hs h, wait_len hq, s5.length_eq]; rfl
  · exact nI_ltI (b := 256) (by unfold cntA; omega) (by omega)
theorem Ot.ask {N : Nat} {xse : Nat → Int32} {xls xtl xno : Int32} {rsi rar : Nat → Int32} {rad : Int32} {mse : Nat → Int32} {mla : Int32} {mwx : Nat → Int32} {mar mli : Int32} {cm ar sc : Nat → Nat} {T A B L : Nat} {st : Nat → Nat} {ln : List Nat} (h : Ot N xse xls xtl xno rsi rar rad mse mla mwx mar mli cm ar sc T A B L st ln) (hN : N ≤ 512) {o : Nat} (hs : st o = 1) {P Q ln' : List Nat} {st' : Nat → Nat} (e : ln = P ++ Q) (hm : ∀ x, x ∈ ln ↔ x < 8 ∧ st x = 2) (hm' : ∀ x, x ∈ ln' ↔ x < 8 ∧ st' x = 2) (hS : SubD (stSet st o 2) (P ++ o :: Q) st' ln') : Ot (N + 1) xse xls xtl xno (upd rsi o xno) (upd rar o rad) (rad + 1) mse mla (upd mwx o 0) (nI (A + 1)) mli (fSet cm o (A + 1)) (fSet ar o B) (fSet sc o T) T (A + 1) (B + 1) L st' ln' := by
  obtain ⟨h1, h2, h3, h4, ⟨h5, h5'⟩, h6, ⟨h7, h7', h7'', h7t⟩, h8, h9⟩ := h
  have hin : ∀ x, x ∈ P ++ o :: Q ↔ x = o ∨ x ∈ ln := fun x => by rw [e]; simp only [List.mem_append, List.mem_cons]; constructor <;> intro q <;> rcases q with q | q | q <;> simp [q]
  have hz : ∀ x, st' x = 0 ↔ st x = 0 := fun x => by
    by_cases q : x ∈ P ++ o :: Q
    · have e1 : st x ≠ 0 := by
        rcases (hin x).mp q with z | z
        · rw [z, hs]; decide
        · rw [((hm x).mp z).2]; decide
      by_cases q2 : x ∈ ln'
      · have := ((hm' x).mp q2).2; omega
      · have := hS.2.2 x q q2; omega
    · rw [hS.2.1 x q]
      unfold stSet
      rw [if_neg (fun z => q ((hin x).mpr (Or.inl z)))]
  have hol : o ∉ ln := fun m => by have := ((hm o).mp m).2; omega
  have hc : ∀ x ∈ ln', x = o ∨ (x ∈ ln ∧ x ≠ o) := fun x hx => by
    rcases (hin x).mp (hS.1.mem hx) with z | z
    · exact Or.inl z
    · exact Or.inr ⟨z, fun q => hol (q ▸ z)⟩
  refine ⟨fun x hx q => h1 x hx (fun z => q ((hz x).mpr z)), fun x hx q => h2 x hx ((hz x).mp q), h3, h4, ⟨h5, by omega⟩, fun x hx => ?_, ⟨by rw [h7, nI_1], by omega, rfl, by omega⟩, fun x hx => ?_, fun x hx y hy => ?_⟩
  · rcases hc x hx with z | ⟨z, z'⟩
    · subst z
      rw [upd_s (α := Nat), upd_s (α := Nat), fSet_s]
      exact ⟨h5, Nat.le_refl _, by rw [Nat.sub_self]; rfl⟩
    · rw [upd_n _ _ z', upd_n _ _ z', fSet_n z']
      exact h6 x z
  · rcases hc x hx with z | ⟨z, z'⟩
    · subst z
      rw [upd_s (α := Nat), fSet_s, fSet_s]
      exact ⟨h7, by omega, Nat.le_refl _⟩
    · rw [upd_n _ _ z', fSet_n z', fSet_n z']
      obtain ⟨g1, g2, g3⟩ := h8 x z
      exact ⟨g1, by omega, by omega⟩
  · rcases hc x hx with z | ⟨z, z'⟩ <;> rcases hc y hy with w | ⟨w, w'⟩
    · rw [z, w]; omega
    · obtain ⟨g1, g2, g3⟩ := h8 y w
      rw [z, fSet_s, fSet_s, fSet_n w', fSet_n w']
      omega
    · obtain ⟨g1, g2, g3⟩ := h8 x z
      rw [w, fSet_s, fSet_s, fSet_n z', fSet_n z']
      omega
    · rw [fSet_n z', fSet_n z', fSet_n w', fSet_n w']
      exact h9 x z y w
theorem Ot.held {N : Nat} {xse : Nat → Int32} {xls xtl xno : Int32} {rsi rar : Nat → Int32} {rad : Int32} {mse : Nat → Int32} {mla : Int32} {mwx : Nat → Int32} {mar mli : Int32} {cm ar sc : Nat → Nat} {T A B L : Nat} {st : Nat → Nat} {ln : List Nat} (h : Ot N xse xls xtl xno rsi rar rad mse mla mwx mar mli cm ar sc T A B L st ln) {o : Nat} {ln' : List Nat} {st' : Nat → Nat} (ho : o ∉ ln) (hz : ∀ x, st' x = 0 ↔ st x = 0) (hl : ∀ x ∈ ln', x ∈ ln) : Ot (N + 1) xse xls xtl xno (upd rsi o xno) (upd rar o rad) (rad + 1) mse mla mwx mar mli cm ar sc T A (B + 1) L st' ln' := by
  obtain ⟨h1, h2, h3, h4, ⟨h5, h5'⟩, h6, ⟨h7, h7', h7'', h7t⟩, h8, h9⟩ := h
  have hne : ∀ x ∈ ln', x ≠ o := fun x hx q => ho (q ▸ hl x hx)
  refine ⟨fun x hx q => h1 x hx (fun z => q ((hz x).mpr z)), fun x hx q => h2 x hx ((hz x).mp q), h3, h4, ⟨h5, by omega⟩, fun x hx => ?_, ⟨by rw [h7, nI_1], by omega, h7'', by omega⟩, fun x hx => ?_, fun x hx y hy => h9 x (hl x hx) y (hl y hy)⟩
  · rw [upd_n _ _ (hne x hx)]
    exact h6 x (hl x hx)
  · rw [upd_n _ _ (hne x hx)]
    obtain ⟨g1, g2, g3⟩ := h8 x (hl x hx)
    exact ⟨g1, by omega, g3⟩
/-- a request that is not held, from a fresh call -/
theorem p_askF {qc0 qc : QC} {qm0 qm : QM} {rq : Nat → Rq} {a : CA} {b : MA} {tm : Nat → Nat → Option Nat} {rs : List Row} {gr : List Nat} {N : Nat} {xse : Nat → Int32} {xls xtl xno : Int32} {rsi rar : Nat → Int32} {rad : Int32} {mse : Nat → Int32} {mla : Int32} {mwx : Nat → Int32} {mar mli : Int32} {cm ar sc : Nat → Nat} {T A B L : Nat} {st : Nat → Nat} {ln : List Nat} (hJ : Jt qc0 qm0 rq cm a b st tm rs ln gr) (hO : Ot N xse xls xtl xno rsi rar rad mse mla mwx mar mli cm ar sc T A B L st ln) (hN : N ≤ 512) {o : Nat} (ho : o < 8) (hst : st o = 1) (q : Rq) (hac : ∀ x, x ≠ o → agC qc0 qc x) (hco : rqAtC qc.1 qc.2.1 qc.2.2.1 qc.2.2.2.1 qc.2.2.2.2.1 qc.2.2.2.2.2.1 qc.2.2.2.2.2.2 o q) (ham : ∀ x, x ≠ o → agM qm0 qm x) (hmo : rqAtM qm.1 qm.2.1 qm.2.2.1 qm.2.2.2.1 qm.2.2.2.2.1 (upd qm.2.2.2.2.2.1 o (b2i q.2.2.2.2.2)) o q) (hqr : rqR q) (h1' : q.1 = 1 → rs.length + ln.countP (fun o => (rq o).1 == 1) < 256 ∧ rs.countP (isOnB o q.2.1) < 8 ∧ hld (tm o q.2.1) q.2.2.1) (h2' : q.1 = 2 → rs.any (isOnB o q.2.1) = true) (h3' : q.1 ≠ 1 → keepS (tm o q.2.1) q.2.2.1) (hnh : q.1 ≠ 1 → tm o q.2.1 ≠ some q.2.2.1) (re rem : Nat → Int32) : ∃ (r : Int32) (a' : CA) (b' : MA) (re' rem' : Nat → Int32) (st' : Nat → Nat) (tm' : Nat → Nat → Option Nat) (rs' : List Row) (ln' gr' : List Nat), askC qc xse (a.1, a.2.1, a.2.2.1, a.2.2.2.1, a.2.2.2.2.1, a.2.2.2.2.2.1, a.2.2.2.2.2.2.1, a.2.2.2.2.2.2.2.1, a.2.2.2.2.2.2.2.2.1, 0, a.2.2.2.2.2.2.2.2.2.2.1, a.2.2.2.2.2.2.2.2.2.2.2) re rsi rar (nI o) xno rad (nI o) = some (AR r a' re' (upd rsi o xno) (upd rar o rad) (rad + 1)) ∧ askM qm mse (b.1, b.2.1, b.2.2.1, b.2.2.2.1, b.2.2.2.2.1, b.2.2.2.2.2.1, b.2.2.2.2.2.2.1, b.2.2.2.2.2.2.2.1, 0, b.2.2.2.2.2.2.2.2.2.1, b.2.2.2.2.2.2.2.2.2.2) mwx mar rem (nI o) (b2i q.2.2.2.2.2) = some (MR r b' (qm.1, qm.2.1, qm.2.2.1, qm.2.2.2.1, qm.2.2.2.2.1, upd qm.2.2.2.2.2.1 o (b2i q.2.2.2.2.2), upd qm.2.2.2.2.2.2 o (nI (A + 1))) (upd mwx o 0) (nI (A + 1)) rem') ∧ Jt qc (qm.1, qm.2.1, qm.2.2.1, qm.2.2.2.1, qm.2.2.2.2.1, upd qm.2.2.2.2.2.1 o (b2i q.2.2.2.2.2), upd qm.2.2.2.2.2.2 o (nI (A + 1))) (fSet rq o q) (fSet cm o (A + 1)) a' b' st' tm' rs' ln' gr' ∧ Ot (N + 1) xse xls xtl xno (upd rsi o xno) (upd rar o rad) (rad + 1) mse mla (upd mwx o 0) (nI (A + 1)) mli (fSet cm o (A + 1)) (fSet ar o B) (fSet sc o T) T (A + 1) (B + 1) L st' ln' := by
  have hO2 := hO
  obtain ⟨g1, g2, g3, g4, ⟨g5, g5'⟩, g6, ⟨g7, g7', g7'', g7t⟩, g8, g9⟩ := hO2
  obtain ⟨r, a', b', re', rem', st', tm', rs', ln', gr', P, Q, e, f1, f2, f3, f4⟩ := p_ask hJ.fresh rfl ho hst q hac hco ham hmo hqr A (by omega) (fun x hx => (g8 x hx).2.2) h1' h2' h3' hnh xse mse g1 re rem rsi rar mwx xno rad
  exact ⟨r, a', b', re', rem', st', tm', rs', ln', gr', f1, by rw [g7'']; exact f2, f3, hO.ask hN hst e hJ.2.2.1.1.2.1 f3.2.2.1.1.2.1 f4⟩
/-- the class's part of a request that is held, from a fresh call -/
theorem p_askE {qc0 qc : QC} {qm0 qm : QM} {rq : Nat → Rq} {a : CA} {b : MA} {tm : Nat → Nat → Option Nat} {rs : List Row} {gr : List Nat} {N : Nat} {xse : Nat → Int32} {xls xtl xno : Int32} {rsi rar : Nat → Int32} {rad : Int32} {mse : Nat → Int32} {mla : Int32} {mwx : Nat → Int32} {mar mli : Int32} {cm ar sc : Nat → Nat} {T A B L : Nat} {st : Nat → Nat} {ln : List Nat} (hJ : Jt qc0 qm0 rq cm a b st tm rs ln gr) (hO : Ot N xse xls xtl xno rsi rar rad mse mla mwx mar mli cm ar sc T A B L st ln) {o : Nat} (ho : o < 8) (hst : st o = 1) (q : Rq) (hac : ∀ x, x ≠ o → agC qc0 qc x) (hco : rqAtC qc.1 qc.2.1 qc.2.2.1 qc.2.2.2.1 qc.2.2.2.2.1 qc.2.2.2.2.2.1 qc.2.2.2.2.2.2 o q) (hk : q.1 = 0) (hh : tm o q.2.1 = some q.2.2.1) (re : Nat → Int32) : ∃ (a' : CA), askC qc xse (a.1, a.2.1, a.2.2.1, a.2.2.2.1, a.2.2.2.2.1, a.2.2.2.2.2.1, a.2.2.2.2.2.2.1, a.2.2.2.2.2.2.2.1, a.2.2.2.2.2.2.2.2.1, 0, a.2.2.2.2.2.2.2.2.2.2.1, a.2.2.2.2.2.2.2.2.2.2.2) re rsi rar (nI o) xno rad (nI o) = some (AR 0 a' re (upd rsi o xno) (upd rar o rad) (rad + 1)) ∧ Jt qc qm0 rq cm a' (b.1, b.2.1, b.2.2.1, b.2.2.2.1, b.2.2.2.2.1, b.2.2.2.2.2.1, b.2.2.2.2.2.2.1, b.2.2.2.2.2.2.2.1, 0, b.2.2.2.2.2.2.2.2.2.1, b.2.2.2.2.2.2.2.2.2.2) st tm rs ln [] ∧ Ot (N + 1) xse xls xtl xno (upd rsi o xno) (upd rar o rad) (rad + 1) mse mla mwx mar mli cm ar sc T A (B + 1) L st ln := by
  obtain ⟨a', f1, f2⟩ := p_askH0 hJ.fresh rfl ho hst q hac hco (by omega) hh xse re rsi rar xno rad
  have hol : o ∉ ln := hJ.notIn (by omega)
  rw [if_neg (by omega)] at f1 f2
  exact ⟨a', f2, ⟨f1, hJ.fresh.2.1, invQ_congr hJ.2.2.1 (fun x hx => hac x (fun z => hol (z ▸ hx))) (fun x _ => agM_refl qm0 x) (fun _ _ => Iff.rfl), hJ.2.2.2.1, hJ.fresh.2.2.2.2⟩, hO.held hol (fun _ => Iff.rfl) (fun _ h => h)⟩
theorem p_works {xst : Nat → Int32} {st : Nat → Nat} (h : stAt xst st) {o : Nat} (ho : o < 8) : F_T_checkWorks xst (nI o) = some (if st o = 1 then 0 else 2) := by
  unfold F_T_checkWorks
  have c : xst o = 1 ↔ st o = 1 := h.eq (k := 1) ho (by omega)
  simp only [nI_clamp (show o < 2 ^ 31 by omega), pz_gd2 ho (show 8 < 2 ^ 31 by omega), c]
  by_cases q : st o = 1
  · rw [if_pos q, if_pos q]
  · rw [if_neg q, if_neg q]
theorem nar_0 : vp_nar .boolean 0 = 0 := rfl
theorem nar_1 : vp_nar .boolean 1 = 1 := rfl
theorem p_rSetTable (rta ron rmo rin res : Nat → Int32) {o : Nat} (ho : o < 8) (x y : Int32) (i : Bool) : F_R_setTable rta ron rmo rin res (nI o) x y (b2i i) = some (upd rta o x, upd ron o 0, upd rmo o y, upd rin o (b2i i), upd res o 0) := by
  unfold F_R_setTable
  simp only [nI_clamp (show o < 2 ^ 31 by omega), pz_gd2 ho (show 8 < 2 ^ 31 by omega), nar_b, nar_0]
