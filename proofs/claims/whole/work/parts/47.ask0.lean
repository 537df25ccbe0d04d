/-! ask -/
def AR (r : Int32) (a : CA) (re rsi rar : Nat → Int32) (rad : Int32) : Int32 × (Nat → Int32) × (Nat → Int32) × (Nat → Int32) × (Nat → Int32) × (Nat → Int32) × (Nat → Int32) × (Nat → Int64) × (Nat → Int64) × (Nat → Int32) × (Nat → Int32) × (Nat → Int32) × (Nat → Int32) × Int32 × Int32 × Int32 × Int32 := (r, a.1, re, a.2.1, a.2.2.1, a.2.2.2.1, a.2.2.2.2.1, a.2.2.2.2.2.1, a.2.2.2.2.2.2.1, a.2.2.2.2.2.2.2.1, rsi, a.2.2.2.2.2.2.2.2.1, rar, a.2.2.2.2.2.2.2.2.2.1, a.2.2.2.2.2.2.2.2.2.2.1, a.2.2.2.2.2.2.2.2.2.2.2, rad)
def MR (r : Int32) (b : MA) (qm : QM) (mwx : Nat → Int32) (mar : Int32) (re : Nat → Int32) : Int32 × (Nat → Int32) × (Nat → Int32) × Int32 × (Nat → Int32) × (Nat → Int32) × (Nat → Int32) × (Nat → Int64) × (Nat → Int64) × (Nat → Int32) × (Nat → Int32) × (Nat → Int32) × Int32 × Int32 × (Nat → Int32) × (Nat → Int32) × Int32 := (r, b.1, b.2.1, b.2.2.1, b.2.2.2.1, b.2.2.2.2.1, b.2.2.2.2.2.1, b.2.2.2.2.2.2.1, b.2.2.2.2.2.2.2.1, qm.2.2.2.2.2.1, qm.2.2.2.2.2.2, mwx, mar, b.2.2.2.2.2.2.2.2.1, b.2.2.2.2.2.2.2.2.2.1, re, b.2.2.2.2.2.2.2.2.2.2)
def askC (qc : QC) (xse : Nat → Int32) (a : CA) (re rsi rar : Nat → Int32) (xca xno rad o : Int32) : Option (Int32 × (Nat → Int32) × (Nat → Int32) × (Nat → Int32) × (Nat → Int32) × (Nat → Int32) × (Nat → Int32) × (Nat → Int64) × (Nat → Int64) × (Nat → Int32) × (Nat → Int32) × (Nat → Int32) × (Nat → Int32) × Int32 × Int32 × Int32 × Int32) := F_T_ask a.1 xse re a.2.1 a.2.2.1 a.2.2.2.1 a.2.2.2.2.1 a.2.2.2.2.2.1 a.2.2.2.2.2.2.1 a.2.2.2.2.2.2.2.1 qc.1 qc.2.1 qc.2.2.1 qc.2.2.2.1 qc.2.2.2.2.1 qc.2.2.2.2.2.1 qc.2.2.2.2.2.2 rsi a.2.2.2.2.2.2.2.2.1 rar a.2.2.2.2.2.2.2.2.2.1 xca xno a.2.2.2.2.2.2.2.2.2.2.1 a.2.2.2.2.2.2.2.2.2.2.2 rad o
def askM (qm : QM) (mse : Nat → Int32) (b : MA) (mwx : Nat → Int32) (mar : Int32) (re : Nat → Int32) (o a2 : Int32) : Option (Int32 × (Nat → Int32) × (Nat → Int32) × Int32 × (Nat → Int32) × (Nat → Int32) × (Nat → Int32) × (Nat → Int64) × (Nat → Int64) × (Nat → Int32) × (Nat → Int32) × (Nat → Int32) × Int32 × Int32 × (Nat → Int32) × (Nat → Int32) × Int32) := F_M_ask b.1 mse b.2.1 b.2.2.1 b.2.2.2.1 b.2.2.2.2.1 b.2.2.2.2.2.1 b.2.2.2.2.2.2.1 b.2.2.2.2.2.2.2.1 qm.1 qm.2.1 qm.2.2.1 qm.2.2.2.1 qm.2.2.2.2.1 qm.2.2.2.2.2.1 qm.2.2.2.2.2.2 mwx mar b.2.2.2.2.2.2.2.2.1 b.2.2.2.2.2.2.2.2.2.1 re b.2.2.2.2.2.2.2.2.2.2 o a2
theorem askC_def (qc : QC) (xse : Nat → Int32) (a : CA) (re rsi rar : Nat → Int32) (xca xno rad o : Int32) : askC qc xse a re rsi rar xca xno rad o = ob5 (F_R_enter qc.2.2.2.2.2.1 rsi a.2.2.2.2.2.2.2.2.1 rar a.2.2.2.2.2.2.2.2.2.2.2 rad o xno) (fun s1 r2 ar3 w4 d5 => gd (o < 0 ∨ 8 ≤ o.toNatClampNeg) (ob1 (F_T_holdsWhatItAsks a.2.2.1 qc.1 qc.2.1 qc.2.2.2.2.1 o) (fun r7 => jn0 (ob13 (grantCa qc xca (upd a.1 o.toNatClampNeg 2, a.2.1, a.2.2.1, a.2.2.2.1, a.2.2.2.2.1, a.2.2.2.2.2.1, a.2.2.2.2.2.2.1, a.2.2.2.2.2.2.2.1, r2, a.2.2.2.2.2.2.2.2.2.1, a.2.2.2.2.2.2.2.2.2.2.1, w4) o) (fun r8 x1 x2 x3 x4 x5 x6 x7 x8 x9 x10 x11 x12 => if r8 = 0 then some (AR 0 (x1, x2, x3, x4, x5, x6, x7, x8, x9, x10, x11, x12) re s1 ar3 d5) else ob12 (lookC qc xca (x1, x2, x3, x4, x5, x6, x7, x8, x9, x10, x11, x12)) (fun x1 x2 x3 x4 x5 x6 x7 x8 x9 x10 x11 x12 => some (AR 0 (x1, x2, x3, x4, x5, x6, x7, x8, x9, x10, x11, x12) re s1 ar3 d5)))) (fun J35 => if r7 = 0 then ob1 (blockersC qc (upd a.1 o.toNatClampNeg 2, a.2.1, a.2.2.1, a.2.2.2.1, a.2.2.2.2.1, a.2.2.2.2.2.1, a.2.2.2.2.2.2.1, a.2.2.2.2.2.2.2.1, r2, a.2.2.2.2.2.2.2.2.2.1, a.2.2.2.2.2.2.2.2.2.2.1, w4) o) (fun r35 => if r35 = 0 then J35 else ob13 (breakC qc xse xca (upd a.1 o.toNatClampNeg 2, a.2.1, a.2.2.1, a.2.2.2.1, a.2.2.2.2.1, a.2.2.2.2.2.1, a.2.2.2.2.2.2.1, a.2.2.2.2.2.2.2.1, r2, a.2.2.2.2.2.2.2.2.2.1, a.2.2.2.2.2.2.2.2.2.2.1, w4) re o) (fun z1 zr z2 z3 z4 z5 z6 z7 z8 z9 z10 z11 z12 => gd (o < 0 ∨ 8 ≤ o.toNatClampNeg) (if (z1 o.toNatClampNeg) = 2 then some (AR 1 (z1, z2, z3, z4, z5, z6, z7, z8, z9, z10, z11, z12) zr s1 ar3 d5) else gd (o < 0 ∨ 8 ≤ o.toNatClampNeg) (if (z1 o.toNatClampNeg) = 3 then some (AR 2 (z1, z2, z3, z4, z5, z6, z7, z8, z9, z10, z11, z12) zr s1 ar3 d5) else some (AR 0 (z1, z2, z3, z4, z5, z6, z7, z8, z9, z10, z11, z12) zr s1 ar3 d5))))) else J35)))) := rfl
theorem askM_def (qm : QM) (mse : Nat → Int32) (b : MA) (mwx : Nat → Int32) (mar : Int32) (re : Nat → Int32) (o a2 : Int32) : askM qm mse b mwx mar re o a2 = gd (o < 0 ∨ 8 ≤ o.toNatClampNeg) (gd (o < 0 ∨ 8 ≤ o.toNatClampNeg) (gd (o < 0 ∨ 8 ≤ o.toNatClampNeg) (gd (o < 0 ∨ 8 ≤ o.toNatClampNeg) (ob1 (behindM (qm.1, qm.2.1, qm.2.2.1, qm.2.2.2.1, qm.2.2.2.2.1, upd qm.2.2.2.2.2.1 o.toNatClampNeg (vp_nar .boolean a2), upd qm.2.2.2.2.2.2 o.toNatClampNeg (mar + 1)) (upd b.1 o.toNatClampNeg 2, b.2.1, b.2.2.1, b.2.2.2.1, b.2.2.2.2.1, b.2.2.2.2.2.1, b.2.2.2.2.2.2.1, b.2.2.2.2.2.2.2.1, b.2.2.2.2.2.2.2.2.1, b.2.2.2.2.2.2.2.2.2.1, b.2.2.2.2.2.2.2.2.2.2) o) (fun r5 => if r5 = 0 then ob9 (grantMa (qm.1, qm.2.1, qm.2.2.1, qm.2.2.2.1, qm.2.2.2.2.1, upd qm.2.2.2.2.2.1 o.toNatClampNeg (vp_nar .boolean a2), upd qm.2.2.2.2.2.2 o.toNatClampNeg (mar + 1)) (upd b.1 o.toNatClampNeg 2, b.2.1, b.2.2.1, b.2.2.2.1, b.2.2.2.2.1, b.2.2.2.2.2.1, b.2.2.2.2.2.2.1, b.2.2.2.2.2.2.2.1, b.2.2.2.2.2.2.2.2.1, b.2.2.2.2.2.2.2.2.2.1, b.2.2.2.2.2.2.2.2.2.2) 0 o) (fun y1 y2 y3 y4 y5 y6 y7 y8 y9 => if y9 = 0 then some (MR 0 (y1, y2, y3, y4, y5, y6, y7, y8, b.2.2.2.2.2.2.2.2.1, b.2.2.2.2.2.2.2.2.2.1, y9) (qm.1, qm.2.1, qm.2.2.1, qm.2.2.2.1, qm.2.2.2.2.1, upd qm.2.2.2.2.2.1 o.toNatClampNeg (vp_nar .boolean a2), upd qm.2.2.2.2.2.2 o.toNatClampNeg (mar + 1)) (upd mwx o.toNatClampNeg 0) (mar + 1) re) else ob11 (lookM (qm.1, qm.2.1, qm.2.2.1, qm.2.2.2.1, qm.2.2.2.2.1, upd qm.2.2.2.2.2.1 o.toNatClampNeg (vp_nar .boolean a2), upd qm.2.2.2.2.2.2 o.toNatClampNeg (mar + 1)) o (y1, y2, y3, y4, y5, y6, y7, y8, b.2.2.2.2.2.2.2.2.1, b.2.2.2.2.2.2.2.2.2.1, y9)) (fun y1 y2 y3 y4 y5 y6 y7 y8 y9 y10 y11 => some (MR 0 (y1, y2, y3, y4, y5, y6, y7, y8, y9, y10, y11) (qm.1, qm.2.1, qm.2.2.1, qm.2.2.2.1, qm.2.2.2.2.1, upd qm.2.2.2.2.2.1 o.toNatClampNeg (vp_nar .boolean a2), upd qm.2.2.2.2.2.2 o.toNatClampNeg (mar + 1)) (upd mwx o.toNatClampNeg 0) (mar + 1) re))) else ob12 (breakM (qm.1, qm.2.1, qm.2.2.1, qm.2.2.2.1, qm.2.2.2.2.1, upd qm.2.2.2.2.2.1 o.toNatClampNeg (vp_nar .boolean a2), upd qm.2.2.2.2.2.2 o.toNatClampNeg (mar + 1)) mse (upd b.1 o.toNatClampNeg 2, b.2.1, b.2.2.1, b.2.2.2.1, b.2.2.2.2.1, b.2.2.2.2.2.1, b.2.2.2.2.2.2.1, b.2.2.2.2.2.2.2.1, b.2.2.2.2.2.2.2.2.1, b.2.2.2.2.2.2.2.2.2.1, b.2.2.2.2.2.2.2.2.2.2) re o) (fun y1 y2 y3 y4 y5 y6 y7 y8 y9 y10 yr y11 => gd (o < 0 ∨ 8 ≤ o.toNatClampNeg) (if (y1 o.toNatClampNeg) = 1 then some (MR 0 (y1, y2, y3, y4, y5, y6, y7, y8, y9, y10, y11) (qm.1, qm.2.1, qm.2.2.1, qm.2.2.2.1, qm.2.2.2.2.1, upd qm.2.2.2.2.2.1 o.toNatClampNeg (vp_nar .boolean a2), upd qm.2.2.2.2.2.2 o.toNatClampNeg (mar + 1)) (upd mwx o.toNatClampNeg 0) (mar + 1) yr) else gd (o < 0 ∨ 8 ≤ o.toNatClampNeg) (if (y1 o.toNatClampNeg) = 2 then some (MR 1 (y1, y2, y3, y4, y5, y6, y7, y8, y9, y10, y11) (qm.1, qm.2.1, qm.2.2.1, qm.2.2.2.1, qm.2.2.2.2.1, upd qm.2.2.2.2.2.1 o.toNatClampNeg (vp_nar .boolean a2), upd qm.2.2.2.2.2.2 o.toNatClampNeg (mar + 1)) (upd mwx o.toNatClampNeg 0) (mar + 1) yr) else some (MR 2 (y1, y2, y3, y4, y5, y6, y7, y8, y9, y10, y11) (qm.1, qm.2.1, qm.2.2.1, qm.2.2.2.1, qm.2.2.2.2.1, upd qm.2.2.2.2.2.1 o.toNatClampNeg (vp_nar .boolean a2), upd qm.2.2.2.2.2.2 o.toNatClampNeg (mar + 1)) (upd mwx o.toNatClampNeg 0) (mar + 1) yr))))))))) := rfl
theorem ob12_b {Z : Type} {b : MA} {re : Nat → Int32} {k : (Nat → Int32) → (Nat → Int32) → Int32 → (Nat → Int32) → (Nat → Int32) → (Nat → Int32) → (Nat → Int64) → (Nat → Int64) → Int32 → (Nat → Int32) → (Nat → Int32) → Int32 → Option Z} : ob12 (some (MB b re)) k = k b.1 b.2.1 b.2.2.1 b.2.2.2.1 b.2.2.2.2.1 b.2.2.2.2.2.1 b.2.2.2.2.2.2.1 b.2.2.2.2.2.2.2.1 b.2.2.2.2.2.2.2.2.1 b.2.2.2.2.2.2.2.2.2.1 re b.2.2.2.2.2.2.2.2.2.2 := rfl
theorem ob13_b {Z : Type} {a : CA} {re : Nat → Int32} {k : (Nat → Int32) → (Nat → Int32) → (Nat → Int32) → (Nat → Int32) → (Nat → Int32) → (Nat → Int32) → (Nat → Int64) → (Nat → Int64) → (Nat → Int32) → (Nat → Int32) → Int32 → Int32 → Int32 → Option Z} : ob13 (some (a.1, re, a.2)) k = k a.1 re a.2.1 a.2.2.1 a.2.2.2.1 a.2.2.2.2.1 a.2.2.2.2.2.1 a.2.2.2.2.2.2.1 a.2.2.2.2.2.2.2.1 a.2.2.2.2.2.2.2.2.1 a.2.2.2.2.2.2.2.2.2.1 a.2.2.2.2.2.2.2.2.2.2.1 a.2.2.2.2.2.2.2.2.2.2.2 := rfl
theorem nar_b (x : Bool) : vp_nar .boolean (b2i x) = b2i x := by cases x <;> rfl
theorem mI_some {h : Option Nat} {m : Nat} (hh : ∀ a, h = some a → a < 6) (hm : m < 6) : mI h = nI m ↔ h = some m := by
  cases h with
  | none =>
    constructor
    · intro e
      exact absurd e.symm (pz_nm m (by omega))
    · intro e; cases e
  | some a =>
    have := hh a rfl
    show nI a = nI m ↔ _
    rw [nI_eq (by omega) (by omega)]
    constructor
    · intro e; rw [e]
    · intro e; cases e; rfl
theorem p_holds {ltm : Nat → Int32} {tm : Nat → Nat → Option Nat} (ht : tmAt ltm tm) {qc : QC} {o : Nat} {q : Rq} (ho : o < 8) (hq : rqAtC qc.1 qc.2.1 qc.2.2.1 qc.2.2.2.1 qc.2.2.2.2.1 qc.2.2.2.2.2.1 qc.2.2.2.2.2.2 o q) : F_T_holdsWhatItAsks ltm qc.1 qc.2.1 qc.2.2.2.2.1 (nI o) = some (b2i (q.1 != 1 && decide (tm o q.2.1 = some q.2.2.1))) := by
  obtain ⟨⟨k1, k2, k3⟩, f1, f2, f5, f4, f3, -⟩ := hq
  unfold F_T_holdsWhatItAsks
  have c := mI_some (ht o q.2.1 ho k2).2 k3
  simp only [nI_clamp (show o < 2 ^ 31 by omega), pz_gd2 ho (show 8 < 2 ^ 31 by omega), f1, f2, f4, p_b0, p_heldMode ht ho k2, ob1_s, c]
  by_cases h1 : q.1 = 1
  · have e1 : (q.1 == 1) = true := by simpa using h1
    have e2 : (q.1 != 1) = false := by simp [h1]
    rw [e1, e2, if_pos rfl]
    rfl
  · have e1 : (q.1 == 1) = false := by simpa using h1
    have e2 : (q.1 != 1) = true := by simp [h1]
    rw [e1, e2, if_neg (by decide), Bool.true_and]
    by_cases h2 : tm o q.2.1 = some q.2.2.1
    · rw [if_pos h2, decide_eq_true h2]; rfl
    · rw [if_neg h2, decide_eq_false h2]; rfl
/-- the class has put an owner into the line -/
theorem p_entered {qc0 qc : QC} {qm0 : QM} {rq : Nat → Rq} {cm : Nat → Nat} {a : CA} {b : MA} {st : Nat → Nat} {tm : Nat → Nat → Option Nat} {rs : List Row} {ln gr : List Nat} (hJ : Jt qc0 qm0 rq cm a b st tm rs ln gr) (hg : gr = []) {o : Nat} (ho : o < 8) (hst : st o ≠ 2) (q : Rq) (hac : ∀ x, x ≠ o → agC qc0 qc x) (hco : rqAtC qc.1 qc.2.1 qc.2.2.1 qc.2.2.2.1 qc.2.2.2.2.1 qc.2.2.2.2.2.1 qc.2.2.2.2.2.2 o q) (rsi rar : Nat → Int32) (rad now : Int32) : ∃ (P Q : List Nat) (r2 : Nat → Int32), ln = P ++ Q ∧ (∀ x ∈ P, q.2.2.2.2.2 = true → (rq x).2.2.2.2.2 = true) ∧ (∀ x ∈ Q, (rq x).2.2.2.2.2 = false) ∧ (q.2.2.2.2.2 = false → Q = []) ∧ F_R_enter qc.2.2.2.2.2.1 rsi a.2.2.2.2.2.2.2.2.1 rar a.2.2.2.2.2.2.2.2.2.2.2 rad (nI o) now = some (upd rsi o now, r2, upd rar o rad, nI (P ++ o :: Q).length, rad + 1) ∧ lnAt r2 (P ++ o :: Q) := by
  obtain ⟨S1, S2, hQ, hR, h5⟩ := hJ
  have hol : o ∉ ln := fun m => hst ((hQ.1.2.1 o).mp m).2
  obtain ⟨P, Q, e, hP, hQ0, hQo⟩ : ∃ P Q, ln = P ++ Q ∧ (∀ x ∈ P, q.2.2.2.2.2 = true → (rq x).2.2.2.2.2 = true) ∧ (∀ x ∈ Q, (rq x).2.2.2.2.2 = false) ∧ (q.2.2.2.2.2 = false → Q = []) := by
    cases hi : q.2.2.2.2.2 with
    | false => exact ⟨ln, [], by simp, fun x _ h => (by cases h), fun x h => (by cases h), fun _ => rfl⟩
    | true =>
      obtain ⟨P, Q, e, h1, h2⟩ := split_inner ln hQ.1.2.2
      exact ⟨P, Q, e, fun x hx _ => h1 x hx, h2, fun h => by cases h⟩
  have hln : lnAt a.2.2.2.2.2.2.2.2.1 ln := S1.2.2.2.1.1
  have hrw : a.2.2.2.2.2.2.2.2.2.2.2 = nI ln.length := S1.2.2.2.1.2
  obtain ⟨r2, f1, f2⟩ := p_enter (rin := qc.2.2.2.2.2.1) (rsi := rsi) (rar := rar) hln ho hol (fun x => (fSet rq o q x).2.2.2.2.2) (by simp only [fSet_s]; exact hco.2.2.2.2.2.2) (fun x hx => by
    have hne : x ≠ o := fun z => hol (z ▸ hx)
    simp only [fSet_n hne]
    rw [← (hac x hne).2.2.2.2.2.1]
    exact (hQ.2.2.1 x hx).2.2.2.2.2.2) e (fun hi x hx => by
    have hne : x ≠ o := fun z => hol (by rw [e, ← z]; exact List.mem_append_left _ hx)
    simp only [fSet_n hne]
    simp only [fSet_s] at hi
    exact hP x hx hi) (fun x hx => by
    have hne : x ≠ o := fun z => hol (by rw [e, ← z]; exact List.mem_append_right _ hx)
    simp only [fSet_n hne]
    exact hQ0 x hx) (fun hi => by
    simp only [fSet_s] at hi
    exact hQo hi) rad now
  exact ⟨P, Q, r2, e, hP, hQ0, hQo, by rw [hrw]; exact f1, f2⟩
