/-! lookAtAll and look -/
def lkC4 (qc : QC) (xca : Int32) (m : Nat) (a : CA) (v1 v2 : Int32) : Option CA := F_T_lookAtAll_L4 qc.1 qc.2.1 qc.2.2.1 qc.2.2.2.1 qc.2.2.2.2.1 qc.2.2.2.2.2.2 xca m a.1 a.2.1 a.2.2.1 a.2.2.2.1 a.2.2.2.2.1 a.2.2.2.2.2.1 a.2.2.2.2.2.2.1 a.2.2.2.2.2.2.2.1 a.2.2.2.2.2.2.2.2.1 a.2.2.2.2.2.2.2.2.2.1 a.2.2.2.2.2.2.2.2.2.2.1 a.2.2.2.2.2.2.2.2.2.2.2 v1 v2
def lookC (qc : QC) (xca : Int32) (a : CA) : Option CA := F_T_lookAtAll a.1 a.2.1 a.2.2.1 a.2.2.2.1 a.2.2.2.2.1 a.2.2.2.2.2.1 a.2.2.2.2.2.2.1 a.2.2.2.2.2.2.2.1 qc.1 qc.2.1 qc.2.2.1 qc.2.2.2.1 qc.2.2.2.2.1 qc.2.2.2.2.2.2 a.2.2.2.2.2.2.2.2.1 a.2.2.2.2.2.2.2.2.2.1 xca a.2.2.2.2.2.2.2.2.2.2.1 a.2.2.2.2.2.2.2.2.2.2.2
def lkM5 (qm : QM) (own : Int32) (m : Nat) (b : MA) : Option MA := F_M_look_L5 qm.1 qm.2.1 qm.2.2.1 qm.2.2.2.1 qm.2.2.2.2.1 qm.2.2.2.2.2.1 qm.2.2.2.2.2.2 own m b.1 b.2.1 b.2.2.1 b.2.2.2.1 b.2.2.2.2.1 b.2.2.2.2.2.1 b.2.2.2.2.2.2.1 b.2.2.2.2.2.2.2.1 b.2.2.2.2.2.2.2.2.1 b.2.2.2.2.2.2.2.2.2.1 b.2.2.2.2.2.2.2.2.2.2
def lookM (qm : QM) (own : Int32) (b : MA) : Option MA := F_M_look b.1 b.2.1 b.2.2.1 b.2.2.2.1 b.2.2.2.2.1 b.2.2.2.2.2.1 b.2.2.2.2.2.2.1 b.2.2.2.2.2.2.2.1 qm.1 qm.2.1 qm.2.2.1 qm.2.2.2.1 qm.2.2.2.2.1 qm.2.2.2.2.2.1 qm.2.2.2.2.2.2 b.2.2.2.2.2.2.2.2.1 b.2.2.2.2.2.2.2.2.2.1 b.2.2.2.2.2.2.2.2.2.2 own
theorem lkC4_step (qc : QC) (xca : Int32) (m : Nat) (a : CA) (v1 v2 : Int32) : lkC4 qc xca (m + 1) a v1 v2 = if v1 = 0 then some a else if 8 < v2 then some a else ob13 (lkC27 qc xca v2 fu a 0 0 a.2.2.2.2.2.2.2.2.2.2.2) (fun x1 x2 x3 x4 x5 x6 x7 x8 x9 x10 x11 x12 v => lkC4 qc xca m (x1, x2, x3, x4, x5, x6, x7, x8, x9, x10, x11, x12) v (v2 + 1)) := rfl
theorem lkM5_step (qm : QM) (own : Int32) (m : Nat) (b : MA) : lkM5 qm own (m + 1) b = if b.2.2.2.2.2.2.2.2.2.2 = 0 then some b else ob1 (nextM qm b (-1)) (fun r => ob11 (lkM23 qm own fu (b.1, b.2.1, b.2.2.1, b.2.2.2.1, b.2.2.2.2.1, b.2.2.2.2.2.1, b.2.2.2.2.2.2.1, b.2.2.2.2.2.2.2.1, b.2.2.2.2.2.2.2.2.1, b.2.2.2.2.2.2.2.2.2.1, 0) r) (fun y1 y2 y3 y4 y5 y6 y7 y8 y9 y10 y11 => lkM5 qm own m (y1, y2, y3, y4, y5, y6, y7, y8, y9, y10, y11))) := rfl
theorem p_looks {qc : QC} {qm : QM} {rq : Nat → Rq} {cm : Nat → Nat} {xca own : Int32} : ∀ (n : Nat) (a : CA) (b : MA) (st : Nat → Nat) (tm : Nat → Nat → Option Nat) (rs : List Row) (ln gr : List Nat) (v : Bool) (k m1 m2 : Nat), (v = true → ln.length ≤ n ∧ k + n ≤ 8) → n + 1 < m1 → n + 1 < m2 → Jt qc qm rq cm a b st tm rs ln gr → MAfr b = b2i v → (∀ o ∈ ln, nI o = xca ↔ nI o = own) → ∃ (a' : CA) (b' : MA) (st' : Nat → Nat) (tm' : Nat → Nat → Option Nat) (rs' : List Row) (ln' gr' : List Nat), lkC4 qc xca m1 a (b2i v) (nI k) = some a' ∧ lkM5 qm own m2 b = some b' ∧ Jt qc qm rq cm a' b' st' tm' rs' ln' gr' ∧ Sub st ln st' ln' := by
  have hno : ∀ (a : CA) (b : MA) (st : Nat → Nat) (tm : Nat → Nat → Option Nat) (rs : List Row) (ln gr : List Nat) (k m1 m2 : Nat), 0 < m1 → 0 < m2 → Jt qc qm rq cm a b st tm rs ln gr → MAfr b = b2i false → ∃ (a' : CA) (b' : MA) (st' : Nat → Nat) (tm' : Nat → Nat → Option Nat) (rs' : List Row) (ln' gr' : List Nat), lkC4 qc xca m1 a (b2i false) (nI k) = some a' ∧ lkM5 qm own m2 b = some b' ∧ Jt qc qm rq cm a' b' st' tm' rs' ln' gr' ∧ Sub st ln st' ln' := by
    intro a b st tm rs ln gr k m1 m2 h1 h2 hJ hf
    obtain ⟨m1, rfl⟩ : ∃ z, m1 = z + 1 := ⟨m1 - 1, by omega⟩
    obtain ⟨m2, rfl⟩ : ∃ z, m2 = z + 1 := ⟨m2 - 1, by omega⟩
    refine ⟨a, b, st, tm, rs, ln, gr, ?_, ?_, hJ, Sub.refl⟩
    · rw [lkC4_step, if_pos (by rfl)]
    · rw [lkM5_step, if_pos (show b.2.2.2.2.2.2.2.2.2.2 = 0 from hf)]
  intro n
  induction n with
  | zero =>
    intro a b st tm rs ln gr v k m1 m2 hv hm1 hm2 hJ hf hca
    cases v with
    | false => exact hno a b st tm rs ln gr k m1 m2 (by omega) (by omega) hJ hf
    | true =>
      obtain ⟨hv1, hv2⟩ := hv rfl
      have hl : ln = [] := List.length_eq_zero_iff.mp (by omega)
      obtain ⟨m1, rfl⟩ : ∃ z, m1 = z + 1 := ⟨m1 - 1, by omega⟩
      obtain ⟨m2, rfl⟩ : ∃ z, m2 = z + 1 := ⟨m2 - 1, by omega⟩
      have hJ2 : Jt qc qm rq cm a (b.1, b.2.1, b.2.2.1, b.2.2.2.1, b.2.2.2.2.1, b.2.2.2.2.2.1, b.2.2.2.2.2.2.1, b.2.2.2.2.2.2.2.1, b.2.2.2.2.2.2.2.2.1, b.2.2.2.2.2.2.2.2.2.1, 0) st tm rs ([] ++ ln) gr := hJ
      obtain ⟨a', b', st', tm', rs', ln', gr', v', f1, f2, f3, f4, f5, f6⟩ := p_pass (v2 := nI k) (xca := xca) (own := own) ln [] a _ st tm rs gr false fu fu (fu_lt (by omega)) (fu_lt (by omega)) hJ2 rfl hca
      have hrw : a.2.2.2.2.2.2.2.2.2.2.2 = nI ln.length := hJ.1.2.2.2.1.2
      have hv' : v' = false := by
        cases hq : v' with
        | false => rfl
        | true =>
          rcases f6 hq with q | q
          · cases q
          · rw [hl] at q; cases q
      subst hv'
      obtain ⟨a2, b2, st2, tm2, rs2, ln2, gr2, g1, g2, g3, g4⟩ := hno a' b' st' tm' rs' ln' gr' (k + 1) m1 m2 (by omega) (by omega) f3 f4
      refine ⟨a2, b2, st2, tm2, rs2, ln2, gr2, ?_, ?_, g3, f5.trans g4⟩
      · rw [lkC4_step, if_neg (by decide), if_neg (show ¬ (8 : Int32) < nI k from nI_nlt (a := 8) (b := k) (by omega) (by omega)), hrw]
        rw [show nI ([] : List Nat).length = 0 from rfl, show b2i false = 0 from rfl] at f1
        rw [f1, ob13_v, nI_1]
        exact g1
      · rw [lkM5_step, if_neg (show ¬ b.2.2.2.2.2.2.2.2.2.2 = 0 by rw [show b.2.2.2.2.2.2.2.2.2.2 = b2i true from hf]; decide), p_nextM0 hJ.2.2.1 hJ.2.1, ob1_s, f2, ob11_m]
        exact g2
  | succ n ih =>
    intro a b st tm rs ln gr v k m1 m2 hv hm1 hm2 hJ hf hca
    cases v with
    | false => exact hno a b st tm rs ln gr k m1 m2 (by omega) (by omega) hJ hf
    | true =>
      obtain ⟨hv1, hv2⟩ := hv rfl
      obtain ⟨m1, rfl⟩ : ∃ z, m1 = z + 1 := ⟨m1 - 1, by omega⟩
      obtain ⟨m2, rfl⟩ : ∃ z, m2 = z + 1 := ⟨m2 - 1, by omega⟩
      have hJ2 : Jt qc qm rq cm a (b.1, b.2.1, b.2.2.1, b.2.2.2.1, b.2.2.2.2.1, b.2.2.2.2.2.1, b.2.2.2.2.2.2.1, b.2.2.2.2.2.2.2.1, b.2.2.2.2.2.2.2.2.1, b.2.2.2.2.2.2.2.2.2.1, 0) st tm rs ([] ++ ln) gr := hJ
      obtain ⟨a', b', st', tm', rs', ln', gr', v', f1, f2, f3, f4, f5, f6⟩ := p_pass (v2 := nI k) (xca := xca) (own := own) ln [] a _ st tm rs gr false fu fu (fu_lt (by omega)) (fu_lt (by omega)) hJ2 rfl hca
      have hrw : a.2.2.2.2.2.2.2.2.2.2.2 = nI ln.length := hJ.1.2.2.2.1.2
      obtain ⟨a2, b2, st2, tm2, rs2, ln2, gr2, g1, g2, g3, g4⟩ := ih a' b' st' tm' rs' ln' gr' v' (k + 1) m1 m2 (fun q => by
        rcases f6 q with q | q
        · cases q
        · rw [List.nil_append] at q; exact ⟨by omega, by omega⟩) (by omega) (by omega) f3 f4 (fun o ho => hca o (f5.1.mem ho))
      refine ⟨a2, b2, st2, tm2, rs2, ln2, gr2, ?_, ?_, g3, f5.trans g4⟩
      · rw [lkC4_step, if_neg (by decide), if_neg (show ¬ (8 : Int32) < nI k from nI_nlt (a := 8) (b := k) (by omega) (by omega)), hrw]
        rw [show nI ([] : List Nat).length = 0 from rfl, show b2i false = 0 from rfl] at f1
        rw [f1, ob13_v, nI_1]
        exact g1
      · rw [lkM5_step, if_neg (show ¬ b.2.2.2.2.2.2.2.2.2.2 = 0 by rw [show b.2.2.2.2.2.2.2.2.2.2 = b2i true from hf]; decide), p_nextM0 hJ.2.2.1 hJ.2.1, ob1_s, f2, ob11_m]
        exact g2
/-- both look at all -/
theorem p_look {qc : QC} {qm : QM} {rq : Nat → Rq} {cm : Nat → Nat} {xca own : Int32} {a : CA} {b : MA} {st : Nat → Nat} {tm : Nat → Nat → Option Nat} {rs : List Row} {ln gr : List Nat} (hJ : Jt qc qm rq cm a b st tm rs ln gr) (hca : ∀ o ∈ ln, nI o = xca ↔ nI o = own) : ∃ (a' : CA) (b' : MA) (st' : Nat → Nat) (tm' : Nat → Nat → Option Nat) (rs' : List Row) (ln' gr' : List Nat), lookC qc xca a = some a' ∧ lookM qm own b = some b' ∧ Jt qc qm rq cm a' b' st' tm' rs' ln' gr' ∧ Sub st ln st' ln' := by
  have h8 : ln.length ≤ 8 := by have := hJ.2.2.2.2; omega
  have hJ2 : Jt qc qm rq cm a (b.1, b.2.1, b.2.2.1, b.2.2.2.1, b.2.2.2.2.1, b.2.2.2.2.2.1, b.2.2.2.2.2.2.1, b.2.2.2.2.2.2.2.1, b.2.2.2.2.2.2.2.2.1, b.2.2.2.2.2.2.2.2.2.1, 1) st tm rs ln gr := hJ
  obtain ⟨a', b', st', tm', rs', ln', gr', g1, g2, g3, g4⟩ := p_looks (xca := xca) (own := own) 8 a _ st tm rs ln gr true 0 fu fu (fun _ => ⟨h8, by omega⟩) (by unfold fu; omega) (by unfold fu; omega) hJ2 rfl hca
  refine ⟨a', b', st', tm', rs', ln', gr', ?_, ?_, g3, g4⟩
  · have e : lookC qc xca a = ob12 (lkC4 qc xca fu a 1 0) (fun x1 x2 x3 x4 x5 x6 x7 x8 x9 x10 x11 x12 => some (x1, x2, x3, x4, x5, x6, x7, x8, x9, x10, x11, x12)) := rfl
    rw [e]
    rw [nI_0, show b2i true = 1 from rfl] at g1
    rw [g1]
    rfl
  · have e : lookM qm own b = ob11 (lkM5 qm own fu (b.1, b.2.1, b.2.2.1, b.2.2.2.1, b.2.2.2.2.1, b.2.2.2.2.2.1, b.2.2.2.2.2.2.1, b.2.2.2.2.2.2.2.1, b.2.2.2.2.2.2.2.2.1, b.2.2.2.2.2.2.2.2.2.1, 1)) (fun y1 y2 y3 y4 y5 y6 y7 y8 y9 y10 y11 => some (y1, y2, y3, y4, y5, y6, y7, y8, y9, y10, y11)) := rfl
    rw [e, g2]
    rfl
