/-! ticks -/
def tbC (qc : QC) (rsi rar : Nat → Int32) (xca xtl xno : Int32) (m : Nat) (a : CA) (v1 : Int32) : Option (Int32 × CA) := F_T_takeBackOverdue_L2 qc.1 qc.2.1 qc.2.2.1 qc.2.2.2.1 qc.2.2.2.2.1 qc.2.2.2.2.2.2 rsi rar xca xtl xno m a.1 a.2.1 a.2.2.1 a.2.2.2.1 a.2.2.2.2.1 a.2.2.2.2.2.1 a.2.2.2.2.2.2.1 a.2.2.2.2.2.2.2.1 a.2.2.2.2.2.2.2.2.1 a.2.2.2.2.2.2.2.2.2.1 a.2.2.2.2.2.2.2.2.2.2.1 a.2.2.2.2.2.2.2.2.2.2.2 v1
def MB12 (b : MA) (v : Int32) : (Nat → Int32) × (Nat → Int32) × Int32 × (Nat → Int32) × (Nat → Int32) × (Nat → Int32) × (Nat → Int64) × (Nat → Int64) × Int32 × (Nat → Int32) × Int32 × Int32 := (b.1, b.2.1, b.2.2.1, b.2.2.2.1, b.2.2.2.2.1, b.2.2.2.2.2.1, b.2.2.2.2.2.2.1, b.2.2.2.2.2.2.2.1, b.2.2.2.2.2.2.2.2.1, b.2.2.2.2.2.2.2.2.2.1, b.2.2.2.2.2.2.2.2.2.2, v)
def tbM (qm : QM) (mwx : Nat → Int32) (mli w1 w3 : Int32) (m : Nat) (b : MA) (v2 v4 : Int32) := F_M_tick_L100 qm.1 qm.2.1 qm.2.2.1 qm.2.2.2.1 qm.2.2.2.2.1 qm.2.2.2.2.2.1 qm.2.2.2.2.2.2 mwx mli w1 w3 m b.1 b.2.1 b.2.2.1 b.2.2.2.1 b.2.2.2.2.1 b.2.2.2.2.2.1 b.2.2.2.2.2.2.1 b.2.2.2.2.2.2.2.1 b.2.2.2.2.2.2.2.2.1 b.2.2.2.2.2.2.2.2.2.1 b.2.2.2.2.2.2.2.2.2.2 v2 v4
theorem tbC_step (qc : QC) (rsi rar : Nat → Int32) (xca xtl xno : Int32) (m : Nat) (a : CA) (v1 : Int32) : tbC qc rsi rar xca xtl xno (m + 1) a v1 = if 8 ≤ v1 then some (v1, a) else jn1 (fun s => if s = (-1) then some (v1, a) else ob3 (F_T_takeBack a.1 a.2.2.2.2.2.2.2.2.1 a.2.2.2.2.2.2.2.2.2.2.2 s 1) (fun x r w => ob12 (lookC qc xca (x, a.2.1, a.2.2.1, a.2.2.2.1, a.2.2.2.2.1, a.2.2.2.2.2.1, a.2.2.2.2.2.2.1, a.2.2.2.2.2.2.2.1, r, a.2.2.2.2.2.2.2.2.2.1, a.2.2.2.2.2.2.2.2.2.2.1, w)) (fun x1 x2 x3 x4 x5 x6 x7 x8 x9 x10 x11 x12 => tbC qc rsi rar xca xtl xno m (x1, x2, x3, x4, x5, x6, x7, x8, x9, x10, x11, x12) (v1 + 1)))) (fun J => if xtl = 0 then J (-1) else ob1 (F_R_firstOverdue rsi a.2.2.2.2.2.2.2.2.1 rar a.2.2.2.2.2.2.2.2.2.2.2 xno xtl) (fun r => J r)) := rfl
theorem tbM_step (qm : QM) (mwx : Nat → Int32) (mli w1 w3 : Int32) (m : Nat) (b : MA) (v2 v4 : Int32) : tbM qm mwx mli w1 w3 (m + 1) b v2 v4 = if v4 < 0 then some (MB12 b v2) else gd (v4 < 0 ∨ 8 ≤ v4.toNatClampNeg) (ob11 (lookM qm (-1) (upd b.1 v4.toNatClampNeg 1, b.2.1, b.2.2.1, b.2.2.2.1, b.2.2.2.2.1, b.2.2.2.2.2.1, b.2.2.2.2.2.2.1, b.2.2.2.2.2.2.2.1, b.2.2.2.2.2.2.2.2.1, b.2.2.2.2.2.2.2.2.2.1, b.2.2.2.2.2.2.2.2.2.2)) (fun y1 y2 y3 y4 y5 y6 y7 y8 y9 y10 y11 => ob1 (F_M_longest y1 qm.2.2.2.2.2.2 mwx mli) (fun r => tbM qm mwx mli w1 w3 m (y1, y2, y3, y4, y5, y6, y7, y8, y9, y10, y11) (v2 + 1) r))) := rfl
/-- who is over its time first, none where there is no limit -/
def pick (L T : Nat) (sc ar : Nat → Nat) (ln : List Nat) : Option Nat := if L = 0 then none else ln.foldl (mnF rq0 ar (ovT L T sc)) none
theorem pick_nil {L T : Nat} {sc ar : Nat → Nat} : pick L T sc ar [] = none := by
  unfold pick
  by_cases h : L = 0
  · rw [if_pos h]
  · rw [if_neg h]; rfl
theorem pick_C {rli rsi rar mwx mwc : Nat → Int32} {cm ar sc : Nat → Nat} {T B L : Nat} {ln : List Nat} (hn : lnAt rli ln) (h : tmOk rsi rar mwx mwc cm ar sc T B ln) (hT : T < 2 ^ 30) (hB : B < 2 ^ 30) (hL : L < 2 ^ 30) {α : Type} (J : Int32 → Option α) : (if nI L = 0 then J (-1) else ob1 (F_R_firstOverdue rsi rli rar (nI ln.length) (nI T) (nI L)) (fun r => J r)) = J (mI (pick L T sc ar ln)) := by
  have c : nI L = 0 ↔ L = 0 := nI_eq (b := 0) (by omega) (by omega)
  unfold pick
  by_cases q : L = 0
  · rw [if_pos (c.mpr q), if_pos q]; rfl
  · rw [if_neg (fun e => q (c.mp e)), if_neg q, p_first hn h hT hB hL, ob1_s]
theorem pick_M {mst rsi rar mwx mwc : Nat → Int32} {st : Nat → Nat} {cm ar sc : Nat → Nat} {T B L : Nat} {ln : List Nat} (hs : stAt mst st) (hm : ∀ o, o ∈ ln ↔ o < 8 ∧ st o = 2) (h : tmOk rsi rar mwx mwc cm ar sc T B ln) (hT : T < 2 ^ 30) (hL : L < 2 ^ 30) (hinj : cmInj st cm) : F_M_longest mst mwc mwx (nI L) = some (mI (pick L T sc ar ln)) ∧ ∀ x, pick L T sc ar ln = some x → x ∈ ln := by
  unfold pick
  by_cases q : L = 0
  · rw [q, if_pos rfl]
    exact ⟨p_longest0 mst mwc mwx, fun x hx => by cases hx⟩
  · obtain ⟨e1, e2⟩ := p_same (L := L) hm h hinj
    rw [if_neg q, p_longest hs hm h hT hL (by omega), e1]
    exact ⟨rfl, e2⟩
theorem Jt.tmR {qc : QC} {qm : QM} {rq : Nat → Rq} {cm : Nat → Nat} {a : CA} {b : MA} {st : Nat → Nat} {tm : Nat → Nat → Option Nat} {rs : List Row} {ln gr : List Nat} (h : Jt qc qm rq cm a b st tm rs ln gr) : ∀ o ∈ ln, qm.2.2.2.2.2.2 o = nI (cm o) ∧ cm o < 2 ^ 30 := fun o ho => by
  obtain ⟨o8, o2⟩ := (h.2.2.1.1.2.1 o).mp ho
  exact (h.2.2.1.2.2.2.1 o o8 o2).2
theorem pick_step {qc : QC} {qm : QM} {rq : Nat → Rq} {cm : Nat → Nat} {a : CA} {b : MA} {st : Nat → Nat} {tm : Nat → Nat → Option Nat} {rs : List Row} {ln gr : List Nat} {rsi rar mwx : Nat → Int32} {ar sc : Nat → Nat} {T B L : Nat} (hJ : Jt qc qm rq cm a b st tm rs ln gr) (ht : tmOk rsi rar mwx qm.2.2.2.2.2.2 cm ar sc T B ln) (hT : T < 2 ^ 30) (hB : B < 2 ^ 30) (hL : L < 2 ^ 30) {m k : Nat} : tbC qc rsi rar (-1) (nI L) (nI T) (m + 1) a (nI k) = if 8 ≤ nI k then some (nI k, a) else if mI (pick L T sc ar ln) = (-1) then some (nI k, a) else ob3 (F_T_takeBack a.1 a.2.2.2.2.2.2.2.2.1 a.2.2.2.2.2.2.2.2.2.2.2 (mI (pick L T sc ar ln)) 1) (fun x r w => ob12 (lookC qc (-1) (x, a.2.1, a.2.2.1, a.2.2.2.1, a.2.2.2.2.1, a.2.2.2.2.2.1, a.2.2.2.2.2.2.1, a.2.2.2.2.2.2.2.1, r, a.2.2.2.2.2.2.2.2.2.1, a.2.2.2.2.2.2.2.2.2.2.1, w)) (fun x1 x2 x3 x4 x5 x6 x7 x8 x9 x10 x11 x12 => tbC qc rsi rar (-1) (nI L) (nI T) m (x1, x2, x3, x4, x5, x6, x7, x8, x9, x10, x11, x12) (nI k + 1))) := by
  rw [tbC_step, show F_R_firstOverdue rsi a.2.2.2.2.2.2.2.2.1 rar a.2.2.2.2.2.2.2.2.2.2.2 (nI T) (nI L) = F_R_firstOverdue rsi a.2.2.2.2.2.2.2.2.1 rar (nI ln.length) (nI T) (nI L) by rw [show a.2.2.2.2.2.2.2.2.2.2.2 = nI ln.length from hJ.1.2.2.2.1.2]]
  exact congrArg (fun z => if 8 ≤ nI k then some (nI k, a) else z) (pick_C hJ.1.2.2.2.1.1 ht hT hB hL (fun s => if s = (-1) then some (nI k, a) else ob3 (F_T_takeBack a.1 a.2.2.2.2.2.2.2.2.1 a.2.2.2.2.2.2.2.2.2.2.2 s 1) (fun x r w => ob12 (lookC qc (-1) (x, a.2.1, a.2.2.1, a.2.2.2.1, a.2.2.2.2.1, a.2.2.2.2.2.1, a.2.2.2.2.2.2.1, a.2.2.2.2.2.2.2.1, r, a.2.2.2.2.2.2.2.2.2.1, a.2.2.2.2.2.2.2.2.2.2.1, w)) (fun x1 x2 x3 x4 x5 x6 x7 x8 x9 x10 x11 x12 => tbC qc rsi rar (-1) (nI L) (nI T) m (x1, x2, x3, x4, x5, x6, x7, x8, x9, x10, x11, x12) (nI k + 1)))))
theorem p_overs {qc : QC} {qm : QM} {rq : Nat → Rq} {cm ar sc : Nat → Nat} {rsi rar mwx : Nat → Int32} {T B L : Nat} {w1 w3 : Int32} (hT : T < 2 ^ 30) (hB : B < 2 ^ 30) (hL : L < 2 ^ 30) : ∀ (n : Nat) (a : CA) (b : MA) (st : Nat → Nat) (tm : Nat → Nat → Option Nat) (rs : List Row) (ln gr : List Nat) (k v m1 m2 : Nat), ln.length ≤ n → k + n ≤ 8 → n < m1 → n < m2 → Jt qc qm rq cm a b st tm rs ln gr → tmOk rsi rar mwx qm.2.2.2.2.2.2 cm ar sc T B ln → ∃ (a' : CA) (b' : MA) (st' : Nat → Nat) (tm' : Nat → Nat → Option Nat) (rs' : List Row) (ln' gr' : List Nat) (j : Nat), tbC qc rsi rar (-1) (nI L) (nI T) m1 a (nI k) = some (nI (k + j), a') ∧ ob1 (F_M_longest b.1 qm.2.2.2.2.2.2 mwx (nI L)) (fun r => tbM qm mwx (nI L) w1 w3 m2 b (nI v) r) = some (MB12 b' (nI (v + j))) ∧ Jt qc qm rq cm a' b' st' tm' rs' ln' gr' ∧ Sub st ln st' ln' := by
  intro n
  induction n with
  | zero =>
    intro a b st tm rs ln gr k v m1 m2 hl hk hm1 hm2 hJ ht
    obtain ⟨m1, rfl⟩ : ∃ z, m1 = z + 1 := ⟨m1 - 1, by omega⟩
    obtain ⟨m2, rfl⟩ : ∃ z, m2 = z + 1 := ⟨m2 - 1, by omega⟩
    have hln : ln = [] := List.length_eq_zero_iff.mp (by omega)
    refine ⟨a, b, st, tm, rs, ln, gr, 0, ?_, ?_, hJ, Sub.refl⟩
    · rw [pick_step hJ ht hT hB hL, hln, pick_nil]
      by_cases q : (8 : Int32) ≤ nI k
      · rw [if_pos q]; rfl
      · rw [if_neg q]; rfl
    · rw [(pick_M hJ.2.1.1 hJ.2.2.1.1.2.1 ht hT hL hJ.2.2.1.2.1).1, ob1_s, hln, pick_nil, tbM_step, if_pos (show mI none < 0 by decide)]
      rfl
  | succ n ih =>
    intro a b st tm rs ln gr k v m1 m2 hl hk hm1 hm2 hJ ht
    obtain ⟨m1, rfl⟩ : ∃ z, m1 = z + 1 := ⟨m1 - 1, by omega⟩
    obtain ⟨m2, rfl⟩ : ∃ z, m2 = z + 1 := ⟨m2 - 1, by omega⟩
    obtain ⟨eM, hmem⟩ := pick_M hJ.2.1.1 hJ.2.2.1.1.2.1 ht hT hL hJ.2.2.1.2.1
    have eC : tbC qc rsi rar (-1) (nI L) (nI T) (m1 + 1) a (nI k) = if mI (pick L T sc ar ln) = (-1) then some (nI k, a) else ob3 (F_T_takeBack a.1 a.2.2.2.2.2.2.2.2.1 a.2.2.2.2.2.2.2.2.2.2.2 (mI (pick L T sc ar ln)) 1) (fun x r w => ob12 (lookC qc (-1) (x, a.2.1, a.2.2.1, a.2.2.2.1, a.2.2.2.2.1, a.2.2.2.2.2.1, a.2.2.2.2.2.2.1, a.2.2.2.2.2.2.2.1, r, a.2.2.2.2.2.2.2.2.2.1, a.2.2.2.2.2.2.2.2.2.2.1, w)) (fun x1 x2 x3 x4 x5 x6 x7 x8 x9 x10 x11 x12 => tbC qc rsi rar (-1) (nI L) (nI T) m1 (x1, x2, x3, x4, x5, x6, x7, x8, x9, x10, x11, x12) (nI k + 1))) := by
      rw [pick_step hJ ht hT hB hL, if_neg (show ¬ (8 : Int32) ≤ nI k from nI_ge (b := 8) (by omega) (by omega))]
    rw [eC, eM, ob1_s]
    cases hp : pick L T sc ar ln with
    | none =>
      refine ⟨a, b, st, tm, rs, ln, gr, 0, ?_, ?_, hJ, Sub.refl⟩
      · rw [if_pos (show mI none = -1 from rfl)]; rfl
      · rw [tbM_step, if_pos (show mI none < 0 by decide)]; rfl
    | some o =>
      have hom := hmem o hp
      obtain ⟨o8, o2, -⟩ := hJ.room hom
      obtain ⟨r, w, f1, hJ2⟩ := hJ.back (o := o) (v := 1) o8 (by omega) (by omega)
      obtain ⟨a2, b2, st2, tm2, rs2, ln2, gr2, g1, g2, g3, g4⟩ := p_look (xca := -1) (own := -1) hJ2 (fun _ _ => Iff.rfl)
      have f1' : F_T_takeBack a.1 a.2.2.2.2.2.2.2.2.1 a.2.2.2.2.2.2.2.2.2.2.2 (nI o) 1 = some (upd a.1 o 1, r, w) := f1
      have g1' : lookC qc (-1) (upd a.1 o 1, a.2.1, a.2.2.1, a.2.2.2.1, a.2.2.2.2.1, a.2.2.2.2.2.1, a.2.2.2.2.2.2.1, a.2.2.2.2.2.2.2.1, r, a.2.2.2.2.2.2.2.2.2.1, a.2.2.2.2.2.2.2.2.2.2.1, w) = some a2 := g1
      have g2' : lookM qm (-1) (upd b.1 o 1, b.2.1, b.2.2.1, b.2.2.2.1, b.2.2.2.2.1, b.2.2.2.2.2.1, b.2.2.2.2.2.2.1, b.2.2.2.2.2.2.2.1, b.2.2.2.2.2.2.2.2.1, b.2.2.2.2.2.2.2.2.2.1, b.2.2.2.2.2.2.2.2.2.2) = some b2 := g2
      have hlen := gLn_length hJ.2.2.1.1.1 hom
      have hs1 : Sub st ln (stSet st o 1) (gLn o ln) := Sub.grant hom
      have hs2 := hs1.trans g4
      have hl2 := g4.1.length_le
      obtain ⟨a3, b3, st3, tm3, rs3, ln3, gr3, j, i1, i2, i3, i4⟩ := ih a2 b2 st2 tm2 rs2 ln2 gr2 (k + 1) (v + 1) m1 m2 (by omega) (by omega) (by omega) (by omega) g3 (ht.sub (fun x hx => hs2.1.mem hx))
      refine ⟨a3, b3, st3, tm3, rs3, ln3, gr3, j + 1, ?_, ?_, i3, hs2.trans i4⟩
      · rw [if_neg (show ¬ mI (some o) = -1 from pz_nm o (by omega)), show mI (some o) = nI o from rfl, f1', ob3_s, g1', ob12_c, nI_1, show k + (j + 1) = k + 1 + j by omega]
        exact i1
      · rw [tbM_step, if_neg (show ¬ mI (some o) < 0 from nI_pos (by omega)), show mI (some o) = nI o from rfl, pz_gd o8 (by omega), nI_clamp (by omega), g2', ob11_m, nI_1, show v + (j + 1) = v + 1 + j by omega]
        exact i2
theorem p_L44 {mst : Nat → Int32} {v1 v2 v3 : Int32} : ∀ (d k m : Nat) (mwx : Nat → Int32), k + d = 8 → d < m → ∃ w, F_M_tick_L44 mst v1 v2 v3 m mwx (nI k) = some w ∧ ∀ o, w o = if k ≤ o ∧ o < 8 ∧ mst o = 2 then mwx o + 1 else mwx o := by
  intro d
  induction d with
  | zero =>
    intro k m mwx hk hm
    obtain ⟨m, rfl⟩ : ∃ z, m = z + 1 := ⟨m - 1, by omega⟩
    have : k = 8 := by omega
    subst this
    refine ⟨mwx, by rw [F_M_tick_L44, if_pos (by decide)], fun o => ?_⟩
    rw [if_neg (by omega)]
  | succ d ih =>
    intro k m mwx hk hm
    obtain ⟨m, rfl⟩ : ∃ z, m = z + 1 := ⟨m - 1, by omega⟩
    have k8 : k < 8 := by omega
    by_cases q : mst k = 2
    · obtain ⟨w, e1, e2⟩ := ih (k + 1) m (upd mwx k (mwx k + 1)) (by omega) (by omega)
      refine ⟨w, ?_, fun o => ?_⟩
      · rw [F_M_tick_L44, if_neg (show ¬ (8 : Int32) ≤ nI k from nI_ge (b := 8) k8 (by omega))]
        simp only [nI_clamp (show k < 2 ^ 31 by omega), pz_gd2 k8 (show 8 < 2 ^ 31 by omega), q, if_true, nI_1]
        exact e1
      · rw [e2 o]
        unfold upd
        by_cases z : o = k
        · subst z
          rw [if_neg (by omega), if_pos rfl, if_pos ⟨by omega, k8, q⟩]
        · by_cases y : k + 1 ≤ o ∧ o < 8 ∧ mst o = 2
          · rw [if_pos y, if_neg z, if_pos ⟨by omega, y.2⟩]
          · rw [if_neg y, if_neg z, if_neg (fun c => y ⟨by omega, c.2⟩)]
    · obtain ⟨w, e1, e2⟩ := ih (k + 1) m (upd mwx k (mwx k)) (by omega) (by omega)
      refine ⟨w, ?_, fun o => ?_⟩
      · rw [F_M_tick_L44, if_neg (show ¬ (8 : Int32) ≤ nI k from nI_ge (b := 8) k8 (by omega))]
        simp only [nI_clamp (show k < 2 ^ 31 by omega), pz_gd2 k8 (show 8 < 2 ^ 31 by omega), q, if_false, nI_1]
        exact e1
      · rw [e2 o]
        unfold upd
        by_cases z : o = k
        · subst z
          rw [if_neg (by omega), if_pos rfl, if_neg (fun c => q c.2.2)]
        · by_cases y : k + 1 ≤ o ∧ o < 8 ∧ mst o = 2
          · rw [if_pos y, if_neg z, if_pos ⟨by omega, y.2⟩]
          · rw [if_neg y, if_neg z, if_neg (fun c => y ⟨by omega, c.2⟩)]
def CT (a : CA) (xno v : Int32) : (Nat → Int32) × (Nat → Int32) × (Nat → Int32) × (Nat → Int32) × (Nat → Int32) × (Nat → Int64) × (Nat → Int64) × (Nat → Int32) × (Nat → Int32) × Int32 × Int32 × Int32 × Int32 × Int32 := (a.1, a.2.1, a.2.2.1, a.2.2.2.1, a.2.2.2.2.1, a.2.2.2.2.2.1, a.2.2.2.2.2.2.1, a.2.2.2.2.2.2.2.1, a.2.2.2.2.2.2.2.2.1, a.2.2.2.2.2.2.2.2.2.1, xno, a.2.2.2.2.2.2.2.2.2.2.1, a.2.2.2.2.2.2.2.2.2.2.2, v)
def MT (b : MA) (mwx : Nat → Int32) (v : Int32) : (Nat → Int32) × (Nat → Int32) × Int32 × (Nat → Int32) × (Nat → Int32) × (Nat → Int32) × (Nat → Int64) × (Nat → Int64) × (Nat → Int32) × Int32 × (Nat → Int32) × Int32 × Int32 := (b.1, b.2.1, b.2.2.1, b.2.2.2.1, b.2.2.2.2.1, b.2.2.2.2.2.1, b.2.2.2.2.2.2.1, b.2.2.2.2.2.2.2.1, mwx, b.2.2.2.2.2.2.2.2.1, b.2.2.2.2.2.2.2.2.2.1, b.2.2.2.2.2.2.2.2.2.2, v)
def tkC (qc : QC) (rsi rar : Nat → Int32) (xca xtl v1 : Int32) (m : Nat) (a : CA) (xno v2 v3 : Int32) := F_T_tick_L13 qc.1 qc.2.1 qc.2.2.1 qc.2.2.2.1 qc.2.2.2.2.1 qc.2.2.2.2.2.2 rsi rar xca xtl v1 m a.1 a.2.1 a.2.2.1 a.2.2.2.1 a.2.2.2.2.1 a.2.2.2.2.2.1 a.2.2.2.2.2.2.1 a.2.2.2.2.2.2.2.1 a.2.2.2.2.2.2.2.2.1 a.2.2.2.2.2.2.2.2.2.1 xno a.2.2.2.2.2.2.2.2.2.2.1 a.2.2.2.2.2.2.2.2.2.2.2 v2 v3
def tkM (qm : QM) (mli v1 : Int32) (m : Nat) (b : MA) (mwx : Nat → Int32) (v2 v3 : Int32) := F_M_tick_L36 qm.1 qm.2.1 qm.2.2.1 qm.2.2.2.1 qm.2.2.2.2.1 qm.2.2.2.2.2.1 qm.2.2.2.2.2.2 mli v1 m b.1 b.2.1 b.2.2.1 b.2.2.2.1 b.2.2.2.2.1 b.2.2.2.2.2.1 b.2.2.2.2.2.2.1 b.2.2.2.2.2.2.2.1 mwx b.2.2.2.2.2.2.2.2.1 b.2.2.2.2.2.2.2.2.2.1 b.2.2.2.2.2.2.2.2.2.2 v2 v3
theorem tkC_step (qc : QC) (rsi rar : Nat → Int32) (xca xtl v1 : Int32) (m : Nat) (a : CA) (xno v2 v3 : Int32) : tkC qc rsi rar xca xtl v1 (m + 1) a xno v2 v3 = if v1 ≤ v3 then some (CT a xno v2) else ob13 (tbC qc rsi rar xca xtl (xno + 1) fu a 0) (fun r x1 x2 x3 x4 x5 x6 x7 x8 x9 x10 x11 x12 => tkC qc rsi rar xca xtl v1 m (x1, x2, x3, x4, x5, x6, x7, x8, x9, x10, x11, x12) (xno + 1) (v2 + r) (v3 + 1)) := rfl
theorem tkM_step (qm : QM) (mli v1 : Int32) (m : Nat) (b : MA) (mwx : Nat → Int32) (v2 v3 : Int32) : tkM qm mli v1 (m + 1) b mwx v2 v3 = if v1 ≤ v3 then some (MT b mwx v2) else ob1 (F_M_tick_L44 b.1 v1 v2 v3 fu mwx 0) (fun mwx => ob1 (F_M_longest b.1 qm.2.2.2.2.2.2 mwx mli) (fun r => ob12 (tbM qm mwx mli v1 v3 fu b v2 r) (fun y1 y2 y3 y4 y5 y6 y7 y8 y9 y10 y11 v => tkM qm mli v1 m (y1, y2, y3, y4, y5, y6, y7, y8, y9, y10, y11) mwx v (v3 + 1)))) := rfl
theorem ob12_m {Z : Type} {b : MA} {v : Int32} {k : (Nat → Int32) → (Nat → Int32) → Int32 → (Nat → Int32) → (Nat → Int32) → (Nat → Int32) → (Nat → Int64) → (Nat → Int64) → Int32 → (Nat → Int32) → Int32 → Int32 → Option Z} : ob12 (some (MB12 b v)) k = k b.1 b.2.1 b.2.2.1 b.2.2.2.1 b.2.2.2.2.1 b.2.2.2.2.2.1 b.2.2.2.2.2.2.1 b.2.2.2.2.2.2.2.1 b.2.2.2.2.2.2.2.2.1 b.2.2.2.2.2.2.2.2.2.1 b.2.2.2.2.2.2.2.2.2.2 v := rfl
theorem ob1_ob12 {α : Type} {T0 T1 T2 T3 T4 T5 T6 T7 T8 T9 T10 T11 Z : Type} {x : Option α} {f : α → Option (T0 × T1 × T2 × T3 × T4 × T5 × T6 × T7 × T8 × T9 × T10 × T11)} {k : T0 → T1 → T2 → T3 → T4 → T5 → T6 → T7 → T8 → T9 → T10 → T11 → Option Z} : ob1 x (fun r => ob12 (f r) k) = ob12 (ob1 x f) k := by cases x <;> rfl
theorem p_ticks {qc : QC} {qm : QM} {rq : Nat → Rq} {cm ar sc : Nat → Nat} {rsi rar : Nat → Int32} {B L n : Nat} (hB : B < 2 ^ 30) (hL : L < 2 ^ 30) (hn : n ≤ 1000) : ∀ (d : Nat) (a : CA) (b : MA) (mwx : Nat → Int32) (st : Nat → Nat) (tm : Nat → Nat → Option Nat) (rs : List Row) (ln gr : List Nat) (i T c m1 m2 : Nat), i + d = n → T + d < 2 ^ 30 → d < m1 → d < m2 → Jt qc qm rq cm a b st tm rs ln gr → tmOk rsi rar mwx qm.2.2.2.2.2.2 cm ar sc T B ln → ∃ (a' : CA) (b' : MA) (st' : Nat → Nat) (tm' : Nat → Nat → Option Nat) (rs' : List Row) (ln' gr' : List Nat) (mwx' : Nat → Int32) (j : Nat), tkC qc rsi rar (-1) (nI L) (nI n) m1 a (nI T) (nI c) (nI i) = some (CT a' (nI (T + d)) (nI j)) ∧ tkM qm (nI L) (nI n) m2 b mwx (nI c) (nI i) = some (MT b' mwx' (nI j)) ∧ Jt qc qm rq cm a' b' st' tm' rs' ln' gr' ∧ Sub st ln st' ln' ∧ tmOk rsi rar mwx' qm.2.2.2.2.2.2 cm ar sc (T + d) B ln' := by
  intro d
  induction d with
  | zero =>
    intro a b mwx st tm rs ln gr i T c m1 m2 hi hT hm1 hm2 hJ ht
    obtain ⟨m1, rfl⟩ : ∃ z, m1 = z + 1 := ⟨m1 - 1, by omega⟩
    obtain ⟨m2, rfl⟩ : ∃ z, m2 = z + 1 := ⟨m2 - 1, by omega⟩
    have : i = n := by omega
    subst this
    refine ⟨a, b, st, tm, rs, ln, gr, mwx, c, ?_, ?_, hJ, Sub.refl, ht⟩
    · rw [tkC_step, if_pos (by exact Int32.le_refl _)]; rfl
    · rw [tkM_step, if_pos (by exact Int32.le_refl _)]
  | succ d ih =>
    intro a b mwx st tm rs ln gr i T c m1 m2 hi hT hm1 hm2 hJ ht
    obtain ⟨m1, rfl⟩ : ∃ z, m1 = z + 1 := ⟨m1 - 1, by omega⟩
    obtain ⟨m2, rfl⟩ : ∃ z, m2 = z + 1 := ⟨m2 - 1, by omega⟩
    obtain ⟨w, e1, e2⟩ := p_L44 (mst := b.1) (v1 := nI n) (v2 := nI c) (v3 := nI i) 8 0 fu mwx rfl (by unfold fu; omega)
    have ht2 : tmOk rsi rar w qm.2.2.2.2.2.2 cm ar sc (T + 1) B ln := by
      refine ⟨fun o ho => ?_, ht.2⟩
      obtain ⟨t1, t2, t3⟩ := ht.1 o ho
      obtain ⟨o8, o2⟩ := (hJ.2.2.1.1.2.1 o).mp ho
      have hst : stAt b.1 st := hJ.2.1.1
      refine ⟨t1, by omega, ?_⟩
      rw [e2 o, if_pos ⟨by omega, o8, (hst.eq (k := 2) o8 (by omega)).mpr o2⟩, t3, nI_1]
      congr 1
      omega
    have h8 : ln.length ≤ 8 := by have := hJ.2.2.2.2; omega
    obtain ⟨a2, b2, st2, tm2, rs2, ln2, gr2, j, f1, f2, f3, f4⟩ := p_overs (w1 := nI n) (w3 := nI i) (show T + 1 < 2 ^ 30 by omega) hB hL 8 a b st tm rs ln gr 0 c fu fu h8 (by omega) (by unfold fu; omega) (by unfold fu; omega) hJ ht2
    obtain ⟨a3, b3, st3, tm3, rs3, ln3, gr3, w3, j3, g1, g2, g3, g4, g5⟩ := ih a2 b2 w st2 tm2 rs2 ln2 gr2 (i + 1) (T + 1) (c + j) m1 m2 (by omega) (by omega) (by omega) (by omega) f3 (ht2.sub (fun x hx => f4.1.mem hx))
    rw [show T + 1 + d = T + (d + 1) by omega] at g1 g5
    refine ⟨a3, b3, st3, tm3, rs3, ln3, gr3, w3, j3, ?_, ?_, g3, f4.trans g4, g5⟩
    · rw [tkC_step, if_neg (nI_ge (by omega) (by omega)), nI_1, nI_1]
      rw [show nI 0 = 0 from rfl] at f1
      rw [f1, ob13_c, Nat.zero_add, nI_add]
      exact g1
    · rw [tkM_step, if_neg (nI_ge (by omega) (by omega))]
      rw [show nI 0 = 0 from rfl] at e1
      rw [e1, ob1_s, ob1_ob12, f2, ob12_m, nI_1]
      exact g2
theorem st_tick : St_tick Rl := by
  intro N xst xse xre xgr ltm low lta llo lhi lmo rta ron rlo rhi rmo rin res rsi rli rar xgc xca xls xtl xno lco rwa rad mth mst mse mla mmo mrc mro mrt mrm mrl mrh mwk mwt mwm mwl mwh mwi mwc mwx mar mli mgr mgo mre mfr a1 hN hR
  have hR0 := hR
  obtain ⟨rq, cm, ar, sc, T, A, B, L, st, tm, rs, ln, gr, hJ, hO⟩ := hR0
  by_cases h : a1 < 0
  · refine ⟨1, 0, xst, xgr, ltm, low, lta, llo, lhi, lmo, rli, xgc, xca, xno, lco, rwa, 0, 1, mst, mmo, mrc, mro, mrt, mrm, mrl, mrh, mwx, mgr, mgo, mfr, ?_, ?_, rfl, by omega, fun h => (by cases h), rl_th hR 1⟩
    · unfold F_T_tick F_T_checkTicks
      simp only [h, ob1_s, ob2_s, jn0, jn1, jn2, rf0, rf1, rf2, rf3, eq_self, if_true, i10, n10, n20, n30, if_false]
    · unfold F_M_tick
      simp only [h, ob1_s, ob2_s, jn0, jn1, jn2, rf0, rf1, rf2, rf3, eq_self, if_true, i10, n10, n20, n30, if_false]
  · by_cases h2 : a1 ≤ 1000
    · obtain ⟨n, hn, rfl⟩ := nI_of2 (n := 1000) (by decide) h h2
      have hJ2 := hJ.fresh
      obtain ⟨g1, g2, g3, ⟨g4, g4', g4''⟩, ⟨g5, g5'⟩, g6, ⟨g7, g7', g7'', g7t⟩, g8, g9⟩ := hO
      have ht : tmOk rsi rar mwx mwc cm ar sc T B ln := ⟨g6, fun o ho => ⟨(g8 o ho).1, (g8 o ho).2.1⟩, hJ.tmR, g9⟩
      obtain ⟨a', b', st', tm', rs', ln', gr', w, j, e1, e2, e3, e4, e5⟩ := p_ticks (n := n) (show B < 2 ^ 30 by omega) (show L < 2 ^ 30 by omega) hn n _ _ mwx st tm rs ln [] 0 T 0 fu fu (by omega) (by omega) (fu_lt (by omega)) (fu_lt (by omega)) hJ2 ht
      refine ⟨0, nI j, a'.1, a'.2.1, a'.2.2.1, a'.2.2.2.1, a'.2.2.2.2.1, a'.2.2.2.2.2.1, a'.2.2.2.2.2.2.1, a'.2.2.2.2.2.2.2.1, a'.2.2.2.2.2.2.2.2.1, a'.2.2.2.2.2.2.2.2.2.1, -1, nI (T + n), a'.2.2.2.2.2.2.2.2.2.2.1, a'.2.2.2.2.2.2.2.2.2.2.2, nI j, 0, b'.1, b'.2.1, b'.2.2.1, b'.2.2.2.1, b'.2.2.2.2.1, b'.2.2.2.2.2.1, b'.2.2.2.2.2.2.1, b'.2.2.2.2.2.2.2.1, w, b'.2.2.2.2.2.2.2.2.1, b'.2.2.2.2.2.2.2.2.2.1, b'.2.2.2.2.2.2.2.2.2.2, ?_, ?_, rfl, by omega, fun _ => rfl, rq, cm, ar, sc, T + n, A, B, L, st', tm', rs', ln', gr', e3, ?_⟩
      · unfold F_T_tick F_T_checkTicks F_T_startCall
        simp only [h, h2, ob1_s, ob2_s, jn0, jn1, jn2, rf0, rf1, rf2, rf3, eq_self, if_true, i10, n10, n20, n30, if_false]
        have e1' : F_T_tick_L13 rta ron rlo rhi rmo res rsi rar (-1) xtl (nI n) fu xst xgr ltm low lta llo lhi lmo rli 0 xno lco rwa 0 0 = some (CT a' (nI (T + n)) (nI j)) := by
          rw [g4, g5]
          exact e1
        rw [e1']
        rfl
      · unfold F_M_tick
        simp only [h, h2, ob1_s, ob2_s, jn0, jn1, jn2, rf0, rf1, rf2, rf3, eq_self, if_true, i10, n10, n20, n30, if_false]
        have e2' : F_M_tick_L36 mwk mwt mwm mwl mwh mwi mwc mli (nI n) fu mst mmo mrc mro mrt mrm mrl mrh mwx 0 mgo mfr 0 0 = some (MT b' w (nI j)) := by
          rw [g4']
          exact e2
        rw [e2']
        rfl
      · have hz := e4.toD.zero hJ.2.2.1 e3.2.2.1
        have hl : ∀ o ∈ ln', o ∈ ln := fun o ho => e4.1.mem ho
        exact ⟨fun o ho e => g1 o ho (fun q => e ((hz o).mpr q)), fun o ho e => g2 o ho ((hz o).mp e), g3, ⟨g4, g4', g4''⟩, ⟨rfl, by omega⟩, e5.1, ⟨g7, by omega, g7'', by omega⟩, fun o ho => g8 o (hl o ho), fun x hx y hy => g9 x (hl x hx) y (hl y hy)⟩
    · refine ⟨1, 0, xst, xgr, ltm, low, lta, llo, lhi, lmo, rli, xgc, xca, xno, lco, rwa, 0, 1, mst, mmo, mrc, mro, mrt, mrm, mrl, mrh, mwx, mgr, mgo, mfr, ?_, ?_, rfl, by omega, fun h => (by cases h), rl_th hR 1⟩
      · unfold F_T_tick F_T_checkTicks
        simp only [h, h2, ob1_s, ob2_s, jn0, jn1, jn2, rf0, rf1, rf2, rf3, eq_self, if_true, i10, n10, n20, n30, if_false]
      · unfold F_M_tick
        simp only [h, h2, ob1_s, ob2_s, jn0, jn1, jn2, rf0, rf1, rf2, rf3, eq_self, if_true, i10, n10, n20, n30, if_false]
