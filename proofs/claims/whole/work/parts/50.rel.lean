/-! the relation -/
def Ot (N : Nat) (xse : Nat → Int32) (xls xtl xno : Int32) (rsi rar : Nat → Int32) (rad : Int32) (mse : Nat → Int32) (mla : Int32) (mwx : Nat → Int32) (mar mli : Int32) (cm ar sc : Nat → Nat) (T A B L : Nat) (st : Nat → Nat) (ln : List Nat) : Prop :=
  (∀ o, o < 8 → st o ≠ 0 → xse o = mse o) ∧ (∀ o, o < 8 → st o = 0 → xse o = -1) ∧ xls = mla ∧ (xtl = nI L ∧ mli = nI L ∧ L ≤ 1000) ∧ (xno = nI T ∧ T ≤ 1000 * N) ∧ (∀ o ∈ ln, rsi o = nI (sc o) ∧ sc o ≤ T ∧ mwx o = nI (T - sc o)) ∧ (rad = nI B ∧ B ≤ N ∧ mar = nI A ∧ A ≤ N) ∧ (∀ o ∈ ln, rar o = nI (ar o) ∧ ar o < B ∧ cm o ≤ A) ∧ ∀ x ∈ ln, ∀ y ∈ ln, (ar x < ar y ↔ cm x < cm y)
def Rl : RelT := fun N xst xse xre xgr ltm low lta llo lhi lmo rta ron rlo rhi rmo rin res rsi rli rar xgc xca xls xtl xno lco rwa rad mth mst mse mla mmo mrc mro mrt mrm mrl mrh mwk mwt mwm mwl mwh mwi mwc mwx mar mli mgr mgo mre mfr => ∃ (rq : Nat → Rq) (cm ar sc : Nat → Nat) (T A B L : Nat) (st : Nat → Nat) (tm : Nat → Nat → Option Nat) (rs : List Row) (ln gr : List Nat), Jt (rta, ron, rlo, rhi, rmo, rin, res) (mwk, mwt, mwm, mwl, mwh, mwi, mwc) rq cm (xst, xgr, ltm, low, lta, llo, lhi, lmo, rli, xgc, lco, rwa) (mst, mmo, mrc, mro, mrt, mrm, mrl, mrh, mgr, mgo, mfr) st tm rs ln gr ∧ Ot N xse xls xtl xno rsi rar rad mse mla mwx mar mli cm ar sc T A B L st ln
theorem Ot.mono {N : Nat} {xse : Nat → Int32} {xls xtl xno : Int32} {rsi rar : Nat → Int32} {rad : Int32} {mse : Nat → Int32} {mla : Int32} {mwx : Nat → Int32} {mar mli : Int32} {cm ar sc : Nat → Nat} {T A B L : Nat} {st : Nat → Nat} {ln : List Nat} (h : Ot N xse xls xtl xno rsi rar rad mse mla mwx mar mli cm ar sc T A B L st ln) {st' : Nat → Nat} {ln' : List Nat} (hs : ∀ o, o < 8 → (st' o = 0 ↔ st o = 0)) (hl : ∀ o ∈ ln', o ∈ ln) : Ot (N + 1) xse xls xtl xno rsi rar rad mse mla mwx mar mli cm ar sc T A B L st' ln' := by
  obtain ⟨h1, h2, h3, h4, ⟨h5, h5'⟩, h6, ⟨h7, h7', h7'', h7'''⟩, h8, h9⟩ := h
  exact ⟨fun o ho e => h1 o ho (fun q => e ((hs o ho).mpr q)), fun o ho e => h2 o ho ((hs o ho).mp e), h3, h4, ⟨h5, by omega⟩, fun o ho => h6 o (hl o ho), ⟨h7, by omega, h7'', by omega⟩, fun o ho => h8 o (hl o ho), fun x hx y hy => h9 x (hl x hx) y (hl y hy)⟩
theorem rl_mono : ∀ (N : Nat) (xst : Nat → Int32) (xse : Nat → Int32) (xre : Nat → Int32) (xgr : Nat → Int32) (ltm : Nat → Int32) (low : Nat → Int32) (lta : Nat → Int32) (llo : Nat → Int64) (lhi : Nat → Int64) (lmo : Nat → Int32) (rta : Nat → Int32) (ron : Nat → Int32) (rlo : Nat → Int64) (rhi : Nat → Int64) (rmo : Nat → Int32) (rin : Nat → Int32) (res : Nat → Int32) (rsi : Nat → Int32) (rli : Nat → Int32) (rar : Nat → Int32) (xgc : Int32) (xca : Int32) (xls : Int32) (xtl : Int32) (xno : Int32) (lco : Int32) (rwa : Int32) (rad : Int32) (mth : Int32) (mst : Nat → Int32) (mse : Nat → Int32) (mla : Int32) (mmo : Nat → Int32) (mrc : Int32) (mro : Nat → Int32) (mrt : Nat → Int32) (mrm : Nat → Int32) (mrl : Nat → Int64) (mrh : Nat → Int64) (mwk : Nat → Int32) (mwt : Nat → Int32) (mwm : Nat → Int32) (mwl : Nat → Int64) (mwh : Nat → Int64) (mwi : Nat → Int32) (mwc : Nat → Int32) (mwx : Nat → Int32) (mar : Int32) (mli : Int32) (mgr : Int32) (mgo : Nat → Int32) (mre : Nat → Int32) (mfr : Int32), Rl N xst xse xre xgr ltm low lta llo lhi lmo rta ron rlo rhi rmo rin res rsi rli rar xgc xca xls xtl xno lco rwa rad mth mst mse mla mmo mrc mro mrt mrm mrl mrh mwk mwt mwm mwl mwh mwi mwc mwx mar mli mgr mgo mre mfr → Rl (N + 1) xst xse xre xgr ltm low lta llo lhi lmo rta ron rlo rhi rmo rin res rsi rli rar xgc xca xls xtl xno lco rwa rad mth mst mse mla mmo mrc mro mrt mrm mrl mrh mwk mwt mwm mwl mwh mwi mwc mwx mar mli mgr mgo mre mfr := by
  intro N xst xse xre xgr ltm low lta llo lhi lmo rta ron rlo rhi rmo rin res rsi rli rar xgc xca xls xtl xno lco rwa rad mth mst mse mla mmo mrc mro mrt mrm mrl mrh mwk mwt mwm mwl mwh mwi mwc mwx mar mli mgr mgo mre mfr h
  obtain ⟨rq, cm, ar, sc, T, A, B, L, st, tm, rs, ln, gr, hJ, hO⟩ := h
  exact ⟨rq, cm, ar, sc, T, A, B, L, st, tm, rs, ln, gr, hJ, hO.mono (fun _ _ => Iff.rfl) (fun _ h => h)⟩
theorem rl_any {N : Nat} {xst : Nat → Int32} {xse : Nat → Int32} {xre : Nat → Int32} {xgr : Nat → Int32} {ltm : Nat → Int32} {low : Nat → Int32} {lta : Nat → Int32} {llo : Nat → Int64} {lhi : Nat → Int64} {lmo : Nat → Int32} {rta : Nat → Int32} {ron : Nat → Int32} {rlo : Nat → Int64} {rhi : Nat → Int64} {rmo : Nat → Int32} {rin : Nat → Int32} {res : Nat → Int32} {rsi : Nat → Int32} {rli : Nat → Int32} {rar : Nat → Int32} {xgc : Int32} {xca : Int32} {xls : Int32} {xtl : Int32} {xno : Int32} {lco : Int32} {rwa : Int32} {rad : Int32} {mth : Int32} {mst : Nat → Int32} {mse : Nat → Int32} {mla : Int32} {mmo : Nat → Int32} {mrc : Int32} {mro : Nat → Int32} {mrt : Nat → Int32} {mrm : Nat → Int32} {mrl : Nat → Int64} {mrh : Nat → Int64} {mwk : Nat → Int32} {mwt : Nat → Int32} {mwm : Nat → Int32} {mwl : Nat → Int64} {mwh : Nat → Int64} {mwi : Nat → Int32} {mwc : Nat → Int32} {mwx : Nat → Int32} {mar : Int32} {mli : Int32} {mgr : Int32} {mgo : Nat → Int32} {mre : Nat → Int32} {mfr : Int32} (h : Rl N xst xse xre xgr ltm low lta llo lhi lmo rta ron rlo rhi rmo rin res rsi rli rar xgc xca xls xtl xno lco rwa rad mth mst mse mla mmo mrc mro mrt mrm mrl mrh mwk mwt mwm mwl mwh mwi mwc mwx mar mli mgr mgo mre mfr) (mth' mre' : Int32) (xca' : Int32) : Rl (N + 1) xst xse xre xgr ltm low lta llo lhi lmo rta ron rlo rhi rmo rin res rsi rli rar xgc xca' xls xtl xno lco rwa rad mth' mst mse mla mmo mrc mro mrt mrm mrl mrh mwk mwt mwm mwl mwh mwi mwc mwx mar mli mgr mgo mre mfr := by
  obtain ⟨rq, cm, ar, sc, T, A, B, L, st, tm, rs, ln, gr, hJ, hO⟩ := h
  exact ⟨rq, cm, ar, sc, T, A, B, L, st, tm, rs, ln, gr, hJ, hO.mono (fun _ _ => Iff.rfl) (fun _ h => h)⟩
theorem rl_th {N : Nat} {xst : Nat → Int32} {xse : Nat → Int32} {xre : Nat → Int32} {xgr : Nat → Int32} {ltm : Nat → Int32} {low : Nat → Int32} {lta : Nat → Int32} {llo : Nat → Int64} {lhi : Nat → Int64} {lmo : Nat → Int32} {rta : Nat → Int32} {ron : Nat → Int32} {rlo : Nat → Int64} {rhi : Nat → Int64} {rmo : Nat → Int32} {rin : Nat → Int32} {res : Nat → Int32} {rsi : Nat → Int32} {rli : Nat → Int32} {rar : Nat → Int32} {xgc : Int32} {xca : Int32} {xls : Int32} {xtl : Int32} {xno : Int32} {lco : Int32} {rwa : Int32} {rad : Int32} {mth : Int32} {mst : Nat → Int32} {mse : Nat → Int32} {mla : Int32} {mmo : Nat → Int32} {mrc : Int32} {mro : Nat → Int32} {mrt : Nat → Int32} {mrm : Nat → Int32} {mrl : Nat → Int64} {mrh : Nat → Int64} {mwk : Nat → Int32} {mwt : Nat → Int32} {mwm : Nat → Int32} {mwl : Nat → Int64} {mwh : Nat → Int64} {mwi : Nat → Int32} {mwc : Nat → Int32} {mwx : Nat → Int32} {mar : Int32} {mli : Int32} {mgr : Int32} {mgo : Nat → Int32} {mre : Nat → Int32} {mfr : Int32} (h : Rl N xst xse xre xgr ltm low lta llo lhi lmo rta ron rlo rhi rmo rin res rsi rli rar xgc xca xls xtl xno lco rwa rad mth mst mse mla mmo mrc mro mrt mrm mrl mrh mwk mwt mwm mwl mwh mwi mwc mwx mar mli mgr mgo mre mfr) (mth' : Int32) : Rl (N + 1) xst xse xre xgr ltm low lta llo lhi lmo rta ron rlo rhi rmo rin res rsi rli rar xgc xca xls xtl xno lco rwa rad mth' mst mse mla mmo mrc mro mrt mrm mrl mrh mwk mwt mwm mwl mwh mwi mwc mwx mar mli mgr mgo mre mfr := rl_any h mth' 0 xca
/-! what comes in -/
theorem own_cases (x : Int32) : (∃ o, o < 8 ∧ x = nI o) ∨ (F_T_checkOwner x = some 1 ∧ F_M_isOwner x = some 0) := by
  by_cases h : x < 0
  · refine Or.inr ⟨?_, ?_⟩
    · unfold F_T_checkOwner; rw [if_pos h]
    · unfold F_M_isOwner; rw [if_pos h]
  · obtain ⟨j, hj, rfl⟩ := nI_of h
    by_cases h8 : j < 8
    · exact Or.inl ⟨j, h8, rfl⟩
    · refine Or.inr ⟨?_, ?_⟩
      · unfold F_T_checkOwner; rw [if_neg h, if_neg (show ¬ nI j < 8 from nI_nlt (b := 8) (by omega) (by omega))]
      · unfold F_M_isOwner; rw [if_neg h, if_pos (show (8 : Int32) ≤ nI j from nI_le (a := 8) (by omega) (by omega))]
theorem tab_cases (x : Int32) : (∃ o, o < 16 ∧ x = nI o) ∨ (F_T_checkTable x = some 1 ∧ F_M_isTable x = some 0) := by
  by_cases h : x < 0
  · refine Or.inr ⟨?_, ?_⟩
    · unfold F_T_checkTable; rw [if_pos h]
    · unfold F_M_isTable; rw [if_pos h]
  · obtain ⟨j, hj, rfl⟩ := nI_of h
    by_cases h8 : j < 16
    · exact Or.inl ⟨j, h8, rfl⟩
    · refine Or.inr ⟨?_, ?_⟩
      · unfold F_T_checkTable; rw [if_neg h, if_neg (show ¬ nI j < 16 from nI_nlt (b := 16) (by omega) (by omega))]
      · unfold F_M_isTable; rw [if_neg h, if_pos (show (16 : Int32) ≤ nI j from nI_le (a := 16) (by omega) (by omega))]
theorem mod_cases (x : Int32) : (∃ o, o < 6 ∧ x = nI o) ∨ (F_T_checkMode x = some 1 ∧ F_M_isMode x = some 0) := by
  by_cases h : x < 0
  · refine Or.inr ⟨?_, ?_⟩
    · unfold F_T_checkMode; rw [if_pos h]
    · unfold F_M_isMode; rw [if_pos h]
  · obtain ⟨j, hj, rfl⟩ := nI_of h
    by_cases h8 : j < 6
    · exact Or.inl ⟨j, h8, rfl⟩
    · refine Or.inr ⟨?_, ?_⟩
      · unfold F_T_checkMode; rw [if_neg h, if_neg (show ¬ nI j ≤ 5 from nI_ge (a := 5) (b := j) (by omega) (by omega))]
      · unfold F_M_isMode; rw [if_neg h, if_pos (show (5 : Int32) < nI j from nI_lt (a := 5) (by omega) (by omega))]
theorem ownC : ∀ o, o < 8 → F_T_checkOwner (nI o) = some 0 := by decide +kernel
theorem ownM : ∀ o, o < 8 → F_M_isOwner (nI o) = some 1 := by decide +kernel
theorem tabC : ∀ o, o < 16 → F_T_checkTable (nI o) = some 0 := by decide +kernel
theorem tabM : ∀ o, o < 16 → F_M_isTable (nI o) = some 1 := by decide +kernel
theorem modC : ∀ o, o < 6 → F_T_checkMode (nI o) = some 0 := by decide +kernel
theorem modM : ∀ o, o < 6 → F_M_isMode (nI o) = some 1 := by decide +kernel
theorem rf1 (m x y : Int32) : F_M_refused m 1 x y = some (1, 1) := rfl
theorem rf2 (m y : Int32) : F_M_refused m 0 1 y = some (1, 2) := rfl
theorem rf3 (m : Int32) : F_M_refused m 0 0 1 = some (1, 3) := rfl
theorem rf0 (m : Int32) : F_M_refused m 0 0 0 = some (0, 0) := rfl
theorem i10 : ¬ (1 : Int32) = 0 := by decide
theorem n10 : ¬ (1 : Nat) = 0 := by decide
theorem n20 : ¬ (2 : Nat) = 0 := by decide
theorem n30 : ¬ (3 : Nat) = 0 := by decide
