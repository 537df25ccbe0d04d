/-! breakRings -/
def SubD (st : Nat → Nat) (ln : List Nat) (st' : Nat → Nat) (ln' : List Nat) : Prop := ln'.Sublist ln ∧ (∀ o, o ∉ ln → st' o = st o) ∧ ∀ o ∈ ln, o ∉ ln' → (st' o = 1 ∨ st' o = 3)
theorem SubD.refl {st : Nat → Nat} {ln : List Nat} : SubD st ln st ln := ⟨List.Sublist.refl _, fun _ _ => rfl, fun _ h h' => absurd h h'⟩
theorem SubD.trans {st st' st'' : Nat → Nat} {ln ln' ln'' : List Nat} (h1 : SubD st ln st' ln') (h2 : SubD st' ln' st'' ln'') : SubD st ln st'' ln'' := by
  refine ⟨h2.1.trans h1.1, fun o ho => ?_, fun o ho ho' => ?_⟩
  · rw [h2.2.1 o (fun m => ho (h1.1.mem m)), h1.2.1 o ho]
  · by_cases q : o ∈ ln'
    · exact h2.2.2 o q ho'
    · rw [h2.2.1 o q]; exact h1.2.2 o ho q
theorem Sub.toD {st st' : Nat → Nat} {ln ln' : List Nat} (h : Sub st ln st' ln') : SubD st ln st' ln' := ⟨h.1, h.2.1, fun o ho ho' => Or.inl (h.2.2 o ho ho')⟩
theorem SubD.back {st : Nat → Nat} {ln : List Nat} {o v : Nat} (ho : o ∈ ln) (hv : v = 1 ∨ v = 3) : SubD st ln (stSet st o v) (gLn o ln) := by
  refine ⟨List.filter_sublist, fun x hx => ?_, fun x hx hx' => ?_⟩
  · unfold stSet
    rw [if_neg (show ¬ x = o from fun e => hx (e ▸ ho))]
  · have : x = o := Decidable.byContradiction (fun e => hx' (mem_gLn.mpr ⟨hx, e⟩))
    unfold stSet
    rw [if_pos this]
    exact hv
def MB (b : MA) (re : Nat → Int32) : (Nat → Int32) × (Nat → Int32) × Int32 × (Nat → Int32) × (Nat → Int32) × (Nat → Int32) × (Nat → Int64) × (Nat → Int64) × Int32 × (Nat → Int32) × (Nat → Int32) × Int32 := (b.1, b.2.1, b.2.2.1, b.2.2.2.1, b.2.2.2.2.1, b.2.2.2.2.2.1, b.2.2.2.2.2.2.1, b.2.2.2.2.2.2.2.1, b.2.2.2.2.2.2.2.2.1, b.2.2.2.2.2.2.2.2.2.1, re, b.2.2.2.2.2.2.2.2.2.2)
def brC (qc : QC) (xse : Nat → Int32) (xca v1 : Int32) (m : Nat) (a : CA) (re : Nat → Int32) (v2 : Int32) := F_T_breakRings_L2 xse qc.1 qc.2.1 qc.2.2.1 qc.2.2.2.1 qc.2.2.2.2.1 qc.2.2.2.2.2.2 xca v1 m a.1 re a.2.1 a.2.2.1 a.2.2.2.1 a.2.2.2.2.1 a.2.2.2.2.2.1 a.2.2.2.2.2.2.1 a.2.2.2.2.2.2.2.1 a.2.2.2.2.2.2.2.2.1 a.2.2.2.2.2.2.2.2.2.1 a.2.2.2.2.2.2.2.2.2.2.1 a.2.2.2.2.2.2.2.2.2.2.2 v2
def brM (qm : QM) (mse : Nat → Int32) (v1 : Int32) (m : Nat) (b : MA) (re : Nat → Int32) := F_M_breakRings_L4 mse qm.1 qm.2.1 qm.2.2.1 qm.2.2.2.1 qm.2.2.2.2.1 qm.2.2.2.2.2.1 qm.2.2.2.2.2.2 v1 m b.1 b.2.1 b.2.2.1 b.2.2.2.1 b.2.2.2.2.1 b.2.2.2.2.2.1 b.2.2.2.2.2.2.1 b.2.2.2.2.2.2.2.1 b.2.2.2.2.2.2.2.2.1 b.2.2.2.2.2.2.2.2.2.1 re b.2.2.2.2.2.2.2.2.2.2
theorem brC_step (qc : QC) (xse : Nat → Int32) (xca v1 : Int32) (m : Nat) (a : CA) (re : Nat → Int32) (v2 : Int32) : brC qc xse xca v1 (m + 1) a re v2 = if 8 ≤ v2 then some (a.1, re, a.2) else gd (v1 < 0 ∨ 8 ≤ v1.toNatClampNeg) (if (a.1 v1.toNatClampNeg) = 2 then ob2 (ringC qc a re v1) (fun r re5 => if r = 0 then some (a.1, re5, a.2) else ob1 (F_T_newestOf xse r v1) (fun r7 => ob3 (F_T_takeBack a.1 a.2.2.2.2.2.2.2.2.1 a.2.2.2.2.2.2.2.2.2.2.2 r7 3) (fun x r w => ob12 (lookC qc xca (x, a.2.1, a.2.2.1, a.2.2.2.1, a.2.2.2.2.1, a.2.2.2.2.2.1, a.2.2.2.2.2.2.1, a.2.2.2.2.2.2.2.1, r, a.2.2.2.2.2.2.2.2.2.1, a.2.2.2.2.2.2.2.2.2.2.1, w)) (fun x1 x2 x3 x4 x5 x6 x7 x8 x9 x10 x11 x12 => brC qc xse xca v1 m (x1, x2, x3, x4, x5, x6, x7, x8, x9, x10, x11, x12) re5 (v2 + 1))))) else some (a.1, re, a.2)) := rfl
theorem brM_step (qm : QM) (mse : Nat → Int32) (v1 : Int32) (m : Nat) (b : MA) (re : Nat → Int32) : brM qm mse v1 (m + 1) b re = gd (v1 < 0 ∨ 8 ≤ v1.toNatClampNeg) (if (b.1 v1.toNatClampNeg) = 2 then gd (v1 < 0 ∨ 8 ≤ v1.toNatClampNeg) (if (((re v1.toNatClampNeg) >>> (v1 &&& 31)) &&& 1) = 1 then ob1 (F_M_breakRings_L32 mse re v1 fu v1 0) (fun v2 => gd (v2 < 0 ∨ 8 ≤ v2.toNatClampNeg) (ob11 (lookM qm v1 (upd b.1 v2.toNatClampNeg 3, b.2.1, b.2.2.1, b.2.2.2.1, b.2.2.2.2.1, b.2.2.2.2.2.1, b.2.2.2.2.2.2.1, b.2.2.2.2.2.2.2.1, b.2.2.2.2.2.2.2.2.1, b.2.2.2.2.2.2.2.2.2.1, b.2.2.2.2.2.2.2.2.2.2)) (fun y1 y2 y3 y4 y5 y6 y7 y8 y9 y10 y11 => ob1 (fillM qm (y1, y2, y3, y4, y5, y6, y7, y8, y9, y10, y11) re) (fun re2 => brM qm mse v1 m (y1, y2, y3, y4, y5, y6, y7, y8, y9, y10, y11) re2)))) else some (MB b re)) else some (MB b re)) := rfl
theorem bm_zero {P : Nat → Bool} (h : ∀ j, j < 8 → P j = false) : bm P 8 = 0 := by
  symm
  apply bm_of
  intro j
  by_cases q : j < 8
  · rw [h j q]; simp
  · simp [q]
theorem bm_ne {P : Nat → Bool} {j : Nat} (hj : j < 8) (h : P j = true) : ¬ bm P 8 = 0 := by
  intro e
  have := bm_bit P 8 j
  rw [e, h] at this
  simp [hj] at this
theorem p_breaks {qc : QC} {qm : QM} {rq : Nat → Rq} {cm : Nat → Nat} {xse mse : Nat → Int32} {o : Nat} (ho : o < 8) : ∀ (n : Nat) (a : CA) (b : MA) (re rem : Nat → Int32) (st : Nat → Nat) (tm : Nat → Nat → Option Nat) (rs : List Row) (ln gr : List Nat) (k m1 m2 : Nat), ln.length ≤ n → k + n ≤ 8 → n < m1 → n < m2 → Jt qc qm rq cm a b st tm rs ln gr → reAt rem (wk (eR st tm rs ln rq) 8) → (∀ i ∈ ln, xse i = mse i) → ∃ (a' : CA) (b' : MA) (re' rem' : Nat → Int32) (st' : Nat → Nat) (tm' : Nat → Nat → Option Nat) (rs' : List Row) (ln' gr' : List Nat), brC qc xse (nI o) (nI o) m1 a re (nI k) = some (a'.1, re', a'.2) ∧ brM qm mse (nI o) m2 b rem = some (MB b' rem') ∧ Jt qc qm rq cm a' b' st' tm' rs' ln' gr' ∧ SubD st ln st' ln' := by
  intro n
  induction n with
  | zero =>
    intro a b re rem st tm rs ln gr k m1 m2 hn hk hm1 hm2 hJ hre hse
    obtain ⟨m1, rfl⟩ : ∃ z, m1 = z + 1 := ⟨m1 - 1, by omega⟩
    obtain ⟨m2, rfl⟩ : ∃ z, m2 = z + 1 := ⟨m2 - 1, by omega⟩
    have hl : ln = [] := List.length_eq_zero_iff.mp (by omega)
    have hst : ¬ st o = 2 := fun e => by
      have := (hJ.2.2.1.1.2.1 o).mpr ⟨ho, e⟩
      rw [hl] at this
      cases this
    have c0 : a.1 o = 2 ↔ st o = 2 := hJ.1.1.eq (k := 2) ho (by omega)
    have c1 : b.1 o = 2 ↔ st o = 2 := hJ.2.1.1.eq (k := 2) ho (by omega)
    refine ⟨a, b, re, rem, st, tm, rs, ln, gr, ?_, ?_, hJ, SubD.refl⟩
    · rw [brC_step, pz_gd ho (by omega), nI_clamp (by omega)]
      simp only [c0, if_neg hst, ite_self]
    · rw [brM_step, pz_gd ho (by omega), nI_clamp (by omega)]
      simp only [c1, if_neg hst]
  | succ n ih =>
    intro a b re rem st tm rs ln gr k m1 m2 hn hk hm1 hm2 hJ hre hse
    obtain ⟨m1, rfl⟩ : ∃ z, m1 = z + 1 := ⟨m1 - 1, by omega⟩
    obtain ⟨m2, rfl⟩ : ∃ z, m2 = z + 1 := ⟨m2 - 1, by omega⟩
    have c0 : a.1 o = 2 ↔ st o = 2 := hJ.1.1.eq (k := 2) ho (by omega)
    have c1 : b.1 o = 2 ↔ st o = 2 := hJ.2.1.1.eq (k := 2) ho (by omega)
    rw [brC_step, brM_step, pz_gd ho (by omega), pz_gd ho (by omega), pz_gd ho (by omega), nI_clamp (show o < 2 ^ 31 by omega), hre o ho, bm_get ho, if_neg (show ¬ (8 : Int32) ≤ nI k from nI_ge (b := 8) (by omega) (by omega))]
    simp only [c0, c1, b2i_1]
    by_cases hst : st o = 2
    · rw [if_pos hst, if_pos hst]
      obtain ⟨re5, hr⟩ := p_ringC hJ.2.2.1 hJ.1 re ho
      rw [hr, ob2_s]
      cases hw : wk (eR st tm rs ln rq) 8 o o with
      | false =>
        have hz : bm (onR (wk (eR st tm rs ln rq) 8) o) 8 = 0 := bm_zero (fun j hj => by
          unfold onR
          cases h1 : wk (eR st tm rs ln rq) 8 o j with
          | false => rfl
          | true =>
            cases h2 : wk (eR st tm rs ln rq) 8 j o with
            | false => rfl
            | true => rw [wk_closed _ 8 j o o hj h1 h2] at hw; cases hw)
        rw [hz, if_pos (by rfl), if_neg (by decide)]
        exact ⟨a, b, re5, rem, st, tm, rs, ln, gr, rfl, rfl, hJ, SubD.refl⟩
      | true =>
        rw [if_neg (fun e => bm_ne ho (show onR (wk (eR st tm rs ln rq) 8) o o = true by unfold onR; rw [hw]; rfl) (bm_0.mp e)), if_pos rfl, p_newest xse _ ho, p_newestM mse hre ho, ob1_s, ob1_s]
        have hwait : ∀ i, onR (wk (eR st tm rs ln rq) 8) o i = true → i < 8 → i ∈ ln := by
          intro i hi h8
          refine (hJ.2.2.1.1.2.1 i).mpr ⟨h8, Decidable.byContradiction (fun e => ?_)⟩
          unfold onR at hi
          rw [wk_none _ i (fun j => by simp [eR, e])] at hi
          simp at hi
        have hon : ∀ i, onR (wk (eR st tm rs ln rq) 8) o i = true → i < 8 → xse i = mse i := fun i hi h8 => hse i (hwait i hi h8)
        have hom : o ∈ ln := (hJ.2.2.1.1.2.1 o).mpr ⟨ho, hst⟩
        rw [nw_same hon (List.range 8) o (fun i hi => by simpa using hi) (hse o hom)]
        have hvm : (List.range 8).foldl (nwF mse (onR (wk (eR st tm rs ln rq) 8) o)) o ∈ ln := by
          rcases nw_in (se := mse) (on := onR (wk (eR st tm rs ln rq) 8) o) (List.range 8) o with h | ⟨h1, h2⟩
          · rw [h]; exact hom
          · exact hwait _ h1 (by simpa using h2)
        obtain ⟨w, hwd⟩ : ∃ w, w = (List.range 8).foldl (nwF mse (onR (wk (eR st tm rs ln rq) 8) o)) o := ⟨_, rfl⟩
        rw [← hwd] at hvm ⊢
        obtain ⟨w8, w2⟩ := (hJ.2.2.1.1.2.1 w).mp hvm
        obtain ⟨r, x, e1, hJ1⟩ := hJ.back (o := w) (v := 3) w8 (by omega) (by omega)
        have e1' : F_T_takeBack a.1 a.2.2.2.2.2.2.2.2.1 a.2.2.2.2.2.2.2.2.2.2.2 (nI w) 3 = some (upd a.1 w (nI 3), r, x) := e1
        rw [e1', ob3_s, pz_gd w8 (by omega), nI_clamp (by omega)]
        obtain ⟨a2, b2, st2, tm2, rs2, ln2, gr2, g1, g2, hJ2, hS2⟩ := p_look (xca := nI o) (own := nI o) hJ1 (fun _ _ => Iff.rfl)
        have g2' : lookM qm (nI o) (upd b.1 w 3, b.2.1, b.2.2.1, b.2.2.2.1, b.2.2.2.2.1, b.2.2.2.2.2.1, b.2.2.2.2.2.2.1, b.2.2.2.2.2.2.2.1, b.2.2.2.2.2.2.2.2.1, b.2.2.2.2.2.2.2.2.2.1, b.2.2.2.2.2.2.2.2.2.2) = some b2 := g2
        rw [g1, ob12_c, g2', ob11_m]
        obtain ⟨rem2, q1, q2⟩ := p_fillM hJ2.2.2.1 hJ2.2.1 rem
        have q1' : fillM qm (b2.1, b2.2.1, b2.2.2.1, b2.2.2.2.1, b2.2.2.2.2.1, b2.2.2.2.2.2.1, b2.2.2.2.2.2.2.1, b2.2.2.2.2.2.2.2.1, b2.2.2.2.2.2.2.2.2.1, b2.2.2.2.2.2.2.2.2.2.1, b2.2.2.2.2.2.2.2.2.2.2) rem = some rem2 := q1
        rw [q1', ob1_s, nI_1]
        have hl2 := hS2.1.length_le
        have hlg := gLn_length hJ.2.2.1.1.1 hvm
        have hsub : SubD st ln st2 ln2 := (SubD.back hvm (Or.inr rfl)).trans hS2.toD
        obtain ⟨a3, b3, re3, rem3, st3, tm3, rs3, ln3, gr3, z1, z2, z3, z4⟩ := ih a2 b2 re5 rem2 st2 tm2 rs2 ln2 gr2 (k + 1) m1 m2 (by omega) (by omega) (by omega) (by omega) hJ2 q2 (fun i hi => hse i (hsub.1.mem hi))
        exact ⟨a3, b3, re3, rem3, st3, tm3, rs3, ln3, gr3, z1, z2, z3, hsub.trans z4⟩
    · rw [if_neg hst, if_neg hst]
      exact ⟨a, b, re, rem, st, tm, rs, ln, gr, rfl, rfl, hJ, SubD.refl⟩
def breakC (qc : QC) (xse : Nat → Int32) (xca : Int32) (a : CA) (re : Nat → Int32) (o : Int32) := F_T_breakRings a.1 xse re a.2.1 a.2.2.1 a.2.2.2.1 a.2.2.2.2.1 a.2.2.2.2.2.1 a.2.2.2.2.2.2.1 a.2.2.2.2.2.2.2.1 qc.1 qc.2.1 qc.2.2.1 qc.2.2.2.1 qc.2.2.2.2.1 qc.2.2.2.2.2.2 a.2.2.2.2.2.2.2.2.1 a.2.2.2.2.2.2.2.2.2.1 xca a.2.2.2.2.2.2.2.2.2.2.1 a.2.2.2.2.2.2.2.2.2.2.2 o
def breakM (qm : QM) (mse : Nat → Int32) (b : MA) (re : Nat → Int32) (o : Int32) := F_M_breakRings b.1 mse b.2.1 b.2.2.1 b.2.2.2.1 b.2.2.2.2.1 b.2.2.2.2.2.1 b.2.2.2.2.2.2.1 b.2.2.2.2.2.2.2.1 qm.1 qm.2.1 qm.2.2.1 qm.2.2.2.1 qm.2.2.2.2.1 qm.2.2.2.2.2.1 qm.2.2.2.2.2.2 b.2.2.2.2.2.2.2.2.1 b.2.2.2.2.2.2.2.2.2.1 re b.2.2.2.2.2.2.2.2.2.2 o
theorem p_break {qc : QC} {qm : QM} {rq : Nat → Rq} {cm : Nat → Nat} {xse mse : Nat → Int32} {o : Nat} (ho : o < 8) {a : CA} {b : MA} (re rem : Nat → Int32) {st : Nat → Nat} {tm : Nat → Nat → Option Nat} {rs : List Row} {ln gr : List Nat} (hJ : Jt qc qm rq cm a b st tm rs ln gr) (hse : ∀ i ∈ ln, xse i = mse i) : ∃ (a' : CA) (b' : MA) (re' rem' : Nat → Int32) (st' : Nat → Nat) (tm' : Nat → Nat → Option Nat) (rs' : List Row) (ln' gr' : List Nat), breakC qc xse (nI o) a re (nI o) = some (a'.1, re', a'.2) ∧ breakM qm mse b rem (nI o) = some (MB b' rem') ∧ Jt qc qm rq cm a' b' st' tm' rs' ln' gr' ∧ SubD st ln st' ln' := by
  have h8 : ln.length ≤ 8 := by have := hJ.2.2.2.2; omega
  obtain ⟨rem2, q1, q2⟩ := p_fillM hJ.2.2.1 hJ.2.1 rem
  obtain ⟨a3, b3, re3, rem3, st3, tm3, rs3, ln3, gr3, z1, z2, z3, z4⟩ := p_breaks (xse := xse) (mse := mse) ho 8 a b re rem2 st tm rs ln gr 0 fu fu h8 (by omega) (by unfold fu; omega) (by unfold fu; omega) hJ q2 hse
  refine ⟨a3, b3, re3, rem3, st3, tm3, rs3, ln3, gr3, z1, ?_, z3, z4⟩
  have e : breakM qm mse b rem (nI o) = ob1 (fillM qm b rem) (fun x => ob12 (brM qm mse (nI o) fu b x) (fun y1 y2 y3 y4 y5 y6 y7 y8 y9 y10 y11 y12 => some (y1, y2, y3, y4, y5, y6, y7, y8, y9, y10, y11, y12))) := rfl
  rw [e, q1, ob1_s, z2]
  rfl
