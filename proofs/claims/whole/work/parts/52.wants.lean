/-! right and wants -/
def mxS (b : Option Nat) (m : Nat) : Option Nat := match b with
  | none => some m
  | some x => if x < m then some m else some x
def mxF (o t : Nat) (key : Int64) (b : Option Nat) (r : Row) : Option Nat := if isRoundB o t key key r then mxS b r.2.2.2.2 else b
theorem mxS_comm (b : Option Nat) (x y : Nat) : mxS (mxS b x) y = mxS (mxS b y) x := by
  cases b with
  | none =>
    simp only [mxS]
    by_cases h1 : x < y
    · rw [if_pos h1, if_neg (by omega)]
    · by_cases h2 : y < x
      · rw [if_neg h1, if_pos h2]
      · have : x = y := by omega
        subst this
        rfl
  | some z =>
    simp only [mxS]
    by_cases h1 : z < x <;> by_cases h2 : z < y
    · rw [if_pos h1, if_pos h2]
      simp only
      by_cases h3 : x < y
      · rw [if_pos h3, if_neg (by omega)]
      · by_cases h4 : y < x
        · rw [if_neg h3, if_pos h4]
        · have : x = y := by omega
          subst this
          rfl
    · rw [if_pos h1, if_neg h2]
      simp only
      rw [if_neg (by omega), if_pos h1]
    · rw [if_neg h1, if_pos h2]
      simp only
      rw [if_pos h2, if_neg (by omega)]
    · rw [if_neg h1, if_neg h2]
      simp only
      rw [if_neg h2, if_neg h1]
theorem mxF_comm (o t : Nat) (key : Int64) (b : Option Nat) (x y : Row) : mxF o t key (mxF o t key b x) y = mxF o t key (mxF o t key b y) x := by
  unfold mxF
  cases isRoundB o t key key x <;> cases isRoundB o t key key y <;> simp
  exact mxS_comm _ _ _
theorem mxS_lt {b : Option Nat} {m : Nat} (hb : ∀ x, b = some x → x < 6) (hm : m < 6) : ∀ x, mxS b m = some x → x < 6 := by
  intro x hx
  cases b with
  | none => cases hx; exact hm
  | some z =>
    have hz := hb z rfl
    unfold mxS at hx
    simp only at hx
    by_cases h1 : z < m
    · rw [if_pos h1] at hx; cases hx; exact hm
    · rw [if_neg h1] at hx; cases hx; exact hz
theorem mxF_lt {o t : Nat} {key : Int64} {b : Option Nat} {r : Row} (hb : ∀ x, b = some x → x < 6) (hr : rowOk r) : ∀ x, mxF o t key b r = some x → x < 6 := by
  intro x hx
  unfold mxF at hx
  have hm : r.2.2.2.2 < 6 := by rcases hr.2.2 with h | h | h <;> omega
  by_cases q : isRoundB o t key key r = true
  · rw [if_pos q] at hx; exact mxS_lt hb hm x hx
  · rw [if_neg q] at hx; exact hb x hx
theorem mI_lt {b : Option Nat} {m : Nat} (hb : ∀ x, b = some x → x < 6) (hm : m < 6) : mI (mxS b m) = if mI b < nI m then nI m else mI b := by
  cases b with
  | none =>
    have : mI none < nI m := by
      have h0 : (-1 : Int32) < 0 := by decide
      exact Int32.lt_of_lt_of_le h0 (nI_pos' (by omega))
    rw [if_pos this]
    rfl
  | some z =>
    have hz := hb z rfl
    unfold mxS
    simp only
    by_cases h : z < m
    · rw [if_pos h, if_pos (show mI (some z) < nI m from nI_lt h (by omega))]; rfl
    · rw [if_neg h, if_neg (show ¬ mI (some z) < nI m from nI_nlt (by omega) (by omega))]
theorem p_strong41 {low lta : Nat → Int32} {llo lhi : Nat → Int64} {lmo : Nat → Int32} {rs : List Row} (h : rowsAt low lta llo lhi lmo rs) {o t : Nat} (ho : o < 8) (ht : t < 16) (key : Int64) (b : Option Nat) (hb : ∀ x, b = some x → x < 6) : F_L_strongestOn_L41 low lta llo lhi lmo (nI rs.length) (nI o) (nI t) key fu (mI b) 0 = some (mI (rs.foldl (mxF o t key) b)) := by
  have hl := h.1
  exact p_scan rs (fun q a i => F_L_strongestOn_L41 low lta llo lhi lmo (nI rs.length) (nI o) (nI t) key q (mI a) i) (mxF o t key) (fun a => some (mI a)) (fun a => ∀ x, a = some x → x < 6) (fun q a _ => by
      show F_L_strongestOn_L41 _ _ _ _ _ _ _ _ _ (q + 1) _ _ = _
      rw [F_L_strongestOn_L41, if_pos (by exact Int32.le_refl _)]) (fun q a k r ha hr => by
      obtain ⟨hk, hk2, hok, e1, e2, e3, e4, e5⟩ := h.at hr
      have hm : r.2.2.2.2 < 6 := by rcases hok.2.2 with z | z | z <;> omega
      refine ⟨mxF_lt ha hok, ?_⟩
      show F_L_strongestOn_L41 _ _ _ _ _ _ _ _ _ (q + 1) _ _ = F_L_strongestOn_L41 _ _ _ _ _ _ _ _ _ q _ _
      rw [F_L_strongestOn_L41, if_neg (nI_ge hk2 (by omega)), p_isRound h hr ho ht key key, ob1_s, p_b0, pz_gd hk (by omega), nI_clamp (by omega), e5, nI_1]
      unfold mxF
      cases isRoundB o t key key r with
      | false => simp
      | true => simp [mI_lt ha hm]) (m := fu) (a := b) (fu_lt (by omega)) hb
theorem p_right81 {low lta : Nat → Int32} {llo lhi : Nat → Int64} {lmo : Nat → Int32} {rs : List Row} (h : rowsAt low lta llo lhi lmo rs) {o t : Nat} (ho : o < 8) (ht : t < 16) (key : Int64) (b : Option Nat) (hb : ∀ x, b = some x → x < 6) : F_M_right_L81 (nI rs.length) low lta lmo llo lhi (nI o) (nI t) key fu (mI b) 0 = some (mI (rs.foldl (mxF o t key) b)) := by
  have hl := h.1
  exact p_scan rs (fun q a i => F_M_right_L81 (nI rs.length) low lta lmo llo lhi (nI o) (nI t) key q (mI a) i) (mxF o t key) (fun a => some (mI a)) (fun a => ∀ x, a = some x → x < 6) (fun q a _ => by
      show F_M_right_L81 _ _ _ _ _ _ _ _ _ (q + 1) _ _ = _
      rw [F_M_right_L81, if_pos (by exact Int32.le_refl _)]) (fun q a k r ha hr => by
      obtain ⟨hk, hk2, hok, e1, e2, e3, e4, e5⟩ := h.at hr
      have hm : r.2.2.2.2 < 6 := by rcases hok.2.2 with z | z | z <;> omega
      have ho1 := hok.1
      have ht1 := hok.2.1
      refine ⟨mxF_lt ha hok, ?_⟩
      show F_M_right_L81 _ _ _ _ _ _ _ _ _ (q + 1) _ _ = F_M_right_L81 _ _ _ _ _ _ _ _ _ q _ _
      rw [F_M_right_L81, if_neg (nI_ge hk2 (by omega))]
      simp only [jn1, jn0, nI_clamp (show k < 2 ^ 31 by omega), pz_gd2 hk (show 256 < 2 ^ 31 by omega), e1, e2, e3, e4, e5, nI_1, p_cmp, nI_eq (show r.1 < 2 ^ 31 by omega) (show o < 2 ^ 31 by omega), nI_eq (show r.2.1 < 2 ^ 31 by omega) (show t < 2 ^ 31 by omega), i10, if_false, eq_self, if_true]
      have hml : (if nI r.2.2.2.2 ≤ mI a then F_M_right_L81 (nI rs.length) low lta lmo llo lhi (nI o) (nI t) key q (mI a) (nI (k + 1)) else F_M_right_L81 (nI rs.length) low lta lmo llo lhi (nI o) (nI t) key q (nI r.2.2.2.2) (nI (k + 1))) = F_M_right_L81 (nI rs.length) low lta lmo llo lhi (nI o) (nI t) key q (mI (mxS a r.2.2.2.2)) (nI (k + 1)) := by
        rw [mI_lt ha hm]
        by_cases z : nI r.2.2.2.2 ≤ mI a
        · rw [if_pos z, if_neg (Int32.not_lt.mpr z)]
        · rw [if_neg z, if_pos (Int32.not_le.mp z)]
      rw [hml]
      unfold mxF isRoundB isOnB
      by_cases z1 : r.1 = o
      · by_cases z2 : r.2.1 = t
        · cases z3 : decide (r.2.2.1 ≤ key) with
          | false => simp [z1, z2]
          | true =>
            cases z4 : decide (key ≤ r.2.2.2.1) with
            | false => simp [z1, z2]
            | true => simp [z1, z2]
        · simp [z1, z2]
      · simp [z1]) (m := fu) (a := b) (fu_lt (by omega)) hb
def rgt0 (h : Option Nat) : Option Nat := if tcov h 5 then some 5 else if tcov h 2 then some 2 else none
theorem rgt0_lt (h : Option Nat) : ∀ x, rgt0 h = some x → x < 6 := by
  intro x hx
  unfold rgt0 at hx
  by_cases h1 : tcov h 5 = true
  · rw [if_pos h1] at hx; cases hx; omega
  · rw [if_neg h1] at hx
    by_cases h2 : tcov h 2 = true
    · rw [if_pos h2] at hx; cases hx; omega
    · rw [if_neg h2] at hx; cases hx
theorem p_strongestOn {ltm low lta : Nat → Int32} {llo lhi : Nat → Int64} {lmo : Nat → Int32} {rs : List Row} {tm : Nat → Nat → Option Nat} (h : rowsAt low lta llo lhi lmo rs) (h2 : tmAt ltm tm) {o t : Nat} (ho : o < 8) (ht : t < 16) (key : Int64) : F_L_strongestOn ltm low lta llo lhi lmo (nI rs.length) (nI o) (nI t) key = some (mI (rs.foldl (mxF o t key) (rgt0 (tm o t)))) := by
  have hh := (h2 o t ho ht).2
  have k1 : F_K_tableCovers (mI (tm o t)) 5 = some (b2i (tcov (tm o t) 5)) := p_tableCovers _ hh 5 (by omega)
  have k2 : F_K_tableCovers (mI (tm o t)) 2 = some (b2i (tcov (tm o t) 2)) := p_tableCovers _ hh 2 (by omega)
  have r1 : F_L_strongestOn_L41 low lta llo lhi lmo (nI rs.length) (nI o) (nI t) key fu (-1) 0 = _ := p_strong41 h ho ht key none (fun x hx => by cases hx)
  have r2 : F_L_strongestOn_L41 low lta llo lhi lmo (nI rs.length) (nI o) (nI t) key fu 2 0 = _ := p_strong41 h ho ht key (some 2) (fun x hx => by cases hx; omega)
  have r3 : F_L_strongestOn_L41 low lta llo lhi lmo (nI rs.length) (nI o) (nI t) key fu 5 0 = _ := p_strong41 h ho ht key (some 5) (fun x hx => by cases hx; omega)
  unfold F_L_strongestOn rgt0
  simp only [p_heldMode h2 ho ht, ob1_s, k1, k2, p_b0, r1, r2, r3]
  cases tcov (tm o t) 5 with
  | true => simp
  | false => cases tcov (tm o t) 2 <;> simp
theorem st_right : St_right Rl := by
  intro N xst xse xre xgr ltm low lta llo lhi lmo rta ron rlo rhi rmo rin res rsi rli rar xgc xca xls xtl xno lco rwa rad mth mst mse mla mmo mrc mro mrt mrm mrl mrh mwk mwt mwm mwl mwh mwi mwc mwx mar mli mgr mgo mre mfr a1 a2 a3 hN hR
  have hR0 := hR
  obtain ⟨rq, cm, ar, sc, T, A, B, L, st, tm, rs, ln, gr, hJ, hO⟩ := hR0
  have S1 : CS xst xgr ltm low lta llo lhi lmo rli xgc lco rwa st tm rs ln gr := hJ.1
  have S2 : MS mst mmo mrc mro mrt mrm mrl mrh mgr mgo st tm rs gr := hJ.2.1
  obtain ⟨s1, s2, ⟨rs0, s3, s4, s5⟩, ⟨s6, s7⟩, s8, s9⟩ := S1
  obtain ⟨t1, t2, ⟨rs1, t3, t4, t5⟩, t8, t9⟩ := S2
  rcases own_cases a1 with ⟨o, ho, rfl⟩ | ⟨e1, e2⟩
  · rcases tab_cases a2 with ⟨t, ht, rfl⟩ | ⟨e3, e4⟩
    · refine ⟨0, mI (rs.foldl (mxF o t a3) (rgt0 (tm o t))), mI (rs.foldl (mxF o t a3) (rgt0 (tm o t))), 0, ?_, ?_, rfl, by omega, fun _ => rfl, rl_th hR 0⟩
      · unfold F_T_right
        rw [s4]
        simp only [ownC o ho, tabC t ht, p_strongestOn s3 s2 ho ht a3, ob1_s, ob2_s, jn0, jn1, jn2, rf0, rf1, rf2, rf3, eq_self, if_true, i10, n10, n20, n30, if_false]
        rw [s5.foldl_eq' (fun x _ y _ z => mxF_comm o t a3 z x y)]
      · unfold F_M_right
        rw [t4]
        have r1 : F_M_right_L81 (nI rs1.length) mro mrt mrm mrl mrh (nI o) (nI t) a3 fu (-1) 0 = _ := p_right81 t3 ho ht a3 none (fun x hx => by cases hx)
        have r2 : F_M_right_L81 (nI rs1.length) mro mrt mrm mrl mrh (nI o) (nI t) a3 fu 2 0 = _ := p_right81 t3 ho ht a3 (some 2) (fun x hx => by cases hx; omega)
        have r3 : F_M_right_L81 (nI rs1.length) mro mrt mrm mrl mrh (nI o) (nI t) a3 fu 5 0 = _ := p_right81 t3 ho ht a3 (some 5) (fun x hx => by cases hx; omega)
        have hh := (t2 o t ho ht).2
        have c5 : mI (tm o t) = 5 ↔ tm o t = some 5 := mI_some (m := 5) hh (by decide)
        have c2 : mI (tm o t) = 2 ↔ tm o t = some 2 := mI_some (m := 2) hh (by decide)
        have c3 : mI (tm o t) = 3 ↔ tm o t = some 3 := mI_some (m := 3) hh (by decide)
        have c4 : mI (tm o t) = 4 ↔ tm o t = some 4 := mI_some (m := 4) hh (by decide)
        simp only [ownM o ho, tabM t ht, p_ixM ho ht, nI_clamp (show 16 * o + t < 2 ^ 31 by omega), pz_gd2 (show 16 * o + t < 128 by omega) (show 128 < 2 ^ 31 by omega), (t2 o t ho ht).1, c5, c2, c3, c4, r1, r2, r3, ob1_s, ob2_s, jn0, jn1, jn2, rf0, rf1, rf2, rf3, eq_self, if_true, i10, n10, n20, n30, if_false]
        rw [← t5.foldl_eq' (fun x _ y _ z => mxF_comm o t a3 z x y)]
        unfold rgt0
        cases hm : tm o t with
        | none => rfl
        | some a =>
          have ha : a < 6 := hh a hm
          have : a = 0 ∨ a = 1 ∨ a = 2 ∨ a = 3 ∨ a = 4 ∨ a = 5 := by omega
          rcases this with rfl | rfl | rfl | rfl | rfl | rfl <;> simp [tcov]
    · refine ⟨1, 0, 0, 1, ?_, ?_, rfl, by omega, fun h => (by cases h), rl_th hR 1⟩
      · unfold F_T_right
        simp only [ownC o ho, e3, ob1_s, ob2_s, jn0, jn1, jn2, rf0, rf1, rf2, rf3, eq_self, if_true, i10, n10, n20, n30, if_false]
      · unfold F_M_right
        simp only [ownM o ho, e4, ob1_s, ob2_s, jn0, jn1, jn2, rf0, rf1, rf2, rf3, eq_self, if_true, i10, n10, n20, n30, if_false]
  · refine ⟨1, 0, 0, 1, ?_, ?_, rfl, by omega, fun h => (by cases h), rl_th hR 1⟩
    · unfold F_T_right
      simp only [e1, ob1_s, ob2_s, jn0, jn1, jn2, rf0, rf1, rf2, rf3, eq_self, if_true, i10, n10, n20, n30, if_false]
    · unfold F_M_right
      simp only [e2, ob1_s, ob2_s, jn0, jn1, jn2, rf0, rf1, rf2, rf3, eq_self, if_true, i10, n10, n20, n30, if_false]
theorem st_wants : St_wants Rl := by
  intro N xst xse xre xgr ltm low lta llo lhi lmo rta ron rlo rhi rmo rin res rsi rli rar xgc xca xls xtl xno lco rwa rad mth mst mse mla mmo mrc mro mrt mrm mrl mrh mwk mwt mwm mwl mwh mwi mwc mwx mar mli mgr mgo mre mfr a1 a2 hN hR
  have hR0 := hR
  obtain ⟨rq, cm, ar, sc, T, A, B, L, st, tm, rs, ln, gr, hJ, hO⟩ := hR0
  have S1 : CS xst xgr ltm low lta llo lhi lmo rli xgc lco rwa st tm rs ln gr := hJ.1
  have S2 : MS mst mmo mrc mro mrt mrm mrl mrh mgr mgo st tm rs gr := hJ.2.1
  obtain ⟨s1, s2, ⟨rs0, s3, s4, s5⟩, ⟨s6, s7⟩, s8, s9⟩ := S1
  obtain ⟨t1, t2, ⟨rs1, t3, t4, t5⟩, t8, t9⟩ := S2
  rcases own_cases a1 with ⟨o, ho, rfl⟩ | ⟨e1, e2⟩
  · have c0 : xst o = 2 ↔ st o = 2 := s1.eq (k := 2) ho (by omega)
    have d0 : mst o = 2 ↔ st o = 2 := t1.eq (k := 2) ho (by omega)
    by_cases h2 : a2 < 0
    · refine ⟨1, 0, 0, 1, ?_, ?_, rfl, by omega, fun h => (by cases h), rl_th hR 1⟩
      · unfold F_T_wants
        simp only [ownC o ho, h2, ob1_s, ob2_s, jn0, jn1, jn2, rf0, rf1, rf2, rf3, eq_self, if_true, i10, n10, n20, n30, if_false]
      · unfold F_M_wants
        simp only [ownM o ho, h2, ob1_s, ob2_s, jn0, jn1, jn2, rf0, rf1, rf2, rf3, eq_self, if_true, i10, n10, n20, n30, if_false, nI_clamp (show o < 2 ^ 31 by omega), pz_gd2 ho (show 8 < 2 ^ 31 by omega), d0, ite_self]
    · by_cases h5 : a2 ≤ 5
      · by_cases hw : st o = 2
        · have hol : o ∈ ln := (hJ.2.2.1.1.2.1 o).mpr ⟨ho, hw⟩
          have hq : rqAtC rta ron rlo rhi rmo rin res o (rq o) := hJ.2.2.1.2.2.1 o hol
          have hm : rqAtM mwk mwt mwm mwl mwh mwi o (rq o) := (hJ.2.2.1.2.2.2.1 o ho hw).1
          obtain ⟨⟨k1, k2, k3⟩, f1, f2, f5, f4, f3, f6⟩ := hq
          obtain ⟨-, g1, g2, g4, g3, g6⟩ := hm
          obtain ⟨z1, z2, z3⟩ := hO.2.2.2.2.2.1 o hol
          have hno := hO.2.2.2.2.1.1
          have w1 : nI (rq o).1 = 1 ↔ (rq o).1 = 1 := nI_eq (b := 1) (by omega) (by omega)
          have w2 : nI (rq o).1 = 2 ↔ (rq o).1 = 2 := nI_eq (b := 2) (by omega) (by omega)
          have hC : ∀ v, (if a2 = 0 then some ((0 : Nat), nI (rq o).2.1) else if a2 = 1 then (if (rq o).1 = 1 then some (0, 1) else some (0, 0)) else if a2 = 2 then some (0, nI (rq o).2.2.1) else if a2 = 3 then (if (rq o).2.2.2.2.2 then some (0, 1) else some (0, 0)) else if a2 = 4 then (if (rq o).1 = 2 then some (0, 1) else some (0, 0)) else some (0, nI (T - sc o))) = some (0, v) → F_T_wants xst rta ron rmo rin res rsi xno (nI o) a2 = some (0, v) := by
            intro v hv
            unfold F_T_wants F_T_checkWaits
            simp only [ownC o ho, h2, h5, hw, ob1_s, ob2_s, jn0, jn1, jn2, rf0, rf1, rf2, rf3, eq_self, if_true, i10, n10, n20, n30, if_false, nI_clamp (show o < 2 ^ 31 by omega), pz_gd2 ho (show 8 < 2 ^ 31 by omega), c0, f1, f2, f4, f5, f6, z1, hno, nI_sub z2, p_b0]
            rw [← hv]
            simp only [beq_iff_eq]
          have hM : ∀ v, (if a2 = 0 then some ((0 : Nat), nI (rq o).2.1) else if a2 = 1 then (if (rq o).1 = 1 then some (0, 1) else some (0, 0)) else if a2 = 2 then some (0, nI (rq o).2.2.1) else if a2 = 3 then (if (rq o).2.2.2.2.2 then some (0, 1) else some (0, 0)) else if a2 = 4 then (if (rq o).1 = 2 then some (0, 1) else some (0, 0)) else some (0, nI (T - sc o))) = some (0, v) → F_M_wants mth mst mwk mwt mwm mwi mwx (nI o) a2 = some (v, 0) := by
            intro v hv
            unfold F_M_wants
            simp only [ownM o ho, h2, h5, hw, ob1_s, ob2_s, jn0, jn1, jn2, rf0, rf1, rf2, rf3, eq_self, if_true, i10, n10, n20, n30, if_false, nI_clamp (show o < 2 ^ 31 by omega), pz_gd2 ho (show 8 < 2 ^ 31 by omega), d0, g1, g2, g4, g6, z3, p_b0, w1, w2]
            revert hv
            by_cases q0 : a2 = 0
            · simp [q0]
            · by_cases q1 : a2 = 1
              · by_cases y : (rq o).1 = 1 <;> simp [q1, y]
              · by_cases q2 : a2 = 2
                · simp [q2]
                · by_cases q3 : a2 = 3
                  · cases (rq o).2.2.2.2.2 <;> simp [q3]
                  · by_cases q4 : a2 = 4
                    · by_cases y : (rq o).1 = 2 <;> simp [q4, y]
                    · simp [q0, q1, q2, q3, q4]
          obtain ⟨v, hv⟩ : ∃ v, (if a2 = 0 then some ((0 : Nat), nI (rq o).2.1) else if a2 = 1 then (if (rq o).1 = 1 then some (0, 1) else some (0, 0)) else if a2 = 2 then some (0, nI (rq o).2.2.1) else if a2 = 3 then (if (rq o).2.2.2.2.2 then some (0, 1) else some (0, 0)) else if a2 = 4 then (if (rq o).1 = 2 then some (0, 1) else some (0, 0)) else some (0, nI (T - sc o))) = some (0, v) := by
            by_cases q0 : a2 = 0
            · exact ⟨_, if_pos q0⟩
            · rw [if_neg q0]
              by_cases q1 : a2 = 1
              · rw [if_pos q1]
                by_cases y : (rq o).1 = 1
                · exact ⟨_, if_pos y⟩
                · exact ⟨_, if_neg y⟩
              · rw [if_neg q1]
                by_cases q2 : a2 = 2
                · exact ⟨_, if_pos q2⟩
                · rw [if_neg q2]
                  by_cases q3 : a2 = 3
                  · rw [if_pos q3]
                    by_cases y : (rq o).2.2.2.2.2 = true
                    · exact ⟨_, if_pos y⟩
                    · exact ⟨_, if_neg y⟩
                  · rw [if_neg q3]
                    by_cases q4 : a2 = 4
                    · rw [if_pos q4]
                      by_cases y : (rq o).1 = 2
                      · exact ⟨_, if_pos y⟩
                      · exact ⟨_, if_neg y⟩
                    · exact ⟨_, if_neg q4⟩
          exact ⟨0, v, v, 0, hC v hv, hM v hv, rfl, by omega, fun _ => rfl, rl_th hR 0⟩
        · refine ⟨2, 0, 0, 2, ?_, ?_, rfl, by omega, fun h => (by cases h), rl_th hR 2⟩
          · unfold F_T_wants F_T_checkWaits
            simp only [ownC o ho, h2, h5, hw, ob1_s, ob2_s, jn0, jn1, jn2, rf0, rf1, rf2, rf3, eq_self, if_true, i10, n10, n20, n30, if_false, nI_clamp (show o < 2 ^ 31 by omega), pz_gd2 ho (show 8 < 2 ^ 31 by omega), c0]
          · unfold F_M_wants
            simp only [ownM o ho, h2, h5, hw, ob1_s, ob2_s, jn0, jn1, jn2, rf0, rf1, rf2, rf3, eq_self, if_true, i10, n10, n20, n30, if_false, nI_clamp (show o < 2 ^ 31 by omega), pz_gd2 ho (show 8 < 2 ^ 31 by omega), d0]
      · refine ⟨1, 0, 0, 1, ?_, ?_, rfl, by omega, fun h => (by cases h), rl_th hR 1⟩
        · unfold F_T_wants
          simp only [ownC o ho, h2, h5, ob1_s, ob2_s, jn0, jn1, jn2, rf0, rf1, rf2, rf3, eq_self, if_true, i10, n10, n20, n30, if_false]
        · unfold F_M_wants
          simp only [ownM o ho, h2, h5, ob1_s, ob2_s, jn0, jn1, jn2, rf0, rf1, rf2, rf3, eq_self, if_true, i10, n10, n20, n30, if_false, nI_clamp (show o < 2 ^ 31 by omega), pz_gd2 ho (show 8 < 2 ^ 31 by omega), d0, ite_self]
  · refine ⟨1, 0, 0, 1, ?_, ?_, rfl, by omega, fun h => (by cases h), rl_th hR 1⟩
    · unfold F_T_wants
      simp only [e1, ob1_s, ob2_s, jn0, jn1, jn2, rf0, rf1, rf2, rf3, eq_self, if_true, i10, n10, n20, n30, if_false]
    · unfold F_M_wants
      simp only [e2, ob1_s, ob2_s, jn0, jn1, jn2, rf0, rf1, rf2, rf3, eq_self, if_true, i10, n10, n20, n30, if_false]
