/-! methods that throw: what they are bound to by the number kx (0: they return) -/
def exN (k : Nat) : String := if k = 1 then "java/lang/IllegalArgumentException" else if k = 2 then "java/lang/IllegalStateException" else "java/lang/UnsupportedOperationException"
abbrev kQn (A : Nat → Prop) : Array Value → State → Outcome → State → Prop := va_Qv (fun (_ : Unit) => False) (fun _ _ => True) A
abbrev kQx (g : va_G) (tys : List (ClassId × FieldType)) (w : va_W) (A : Nat → Prop) (kx : Nat) : String → State → State → Prop := vx_X (fun (_ : Unit) => True) (fun E _ t => E = exN kx ∧ kB g tys w A t) A
def Cx (l : Launch) (y : MethodName) (cc : ByteArray) (nL : Nat) (rt : Option FieldType) (rm : Room) (av : List Value) (g : va_G) (tys : List (ClassId × FieldType)) (w w' : va_W) (kx : Nat) : Prop :=
  ∀ sz : Nat, vx_Met l y (Cond.code y cc nL rt :: w_all) rm (va_Pc av (kPre g tys w sz)) (kQn (va_A w sz)) (kQx g tys w' (va_A w sz) kx) 1 6 (va_A w sz)
def kSel (below : List Frame) (args : Array Value) (s : State) (A : Nat → Prop) (kx : Nat) (Q0 : Array Value → State → Outcome → State → Prop) (XC : String → State → State → Prop) : State → Prop := fun t => (kx = 0 ∧ MQ below Q0 args s 0 0 A t) ∨ (kx ≠ 0 ∧ vx_MQ below (kQn A) XC args s 1 6 A t)
section KX
variable {p : Program} {l : Launch} {e : Env} {R : Room} {s : State} {m : MethodId} {args : Array Value} {below : List Frame} {meth : Method} {c : Code} {H : Heap} {locs : List Loc} {cells slots : Nat} {Q Q' : State → Prop}
variable {own : String} {cc : ByteArray} {nL : Nat} {rt : Option FieldType} {A : Nat → Prop} {g : va_G} {tys : List (ClassId × FieldType)} {w w' : va_W}
variable {y : MethodName} {cc2 : ByteArray} {nL2 : Nat} {rt2 : Option FieldType} {rm2 : Room} {b : Nat} {As rest st : List Value} {r : Int32} {index pc kx : Nat} {ls : Array Slot}
theorem W.mono {gf : JFrame} (h : ∀ t, Q t → Q' t) (k : W p l e R s m args below meth c H locs cells slots Q gf) : W p l e R s m args below meth c H locs cells slots Q' gf := by
  intro T hT X
  obtain ⟨t, a, b⟩ := k T hT X
  exact ⟨t, a, h t b⟩
theorem vx_W.mono {gf : JFrame} {q : Addr} (h : ∀ t, Q t → Q' t) (k : vx_W p l e R s m args below meth c H locs cells slots Q gf q) : vx_W p l e R s m args below meth c H locs cells slots Q' gf q := by
  intro T hT X
  obtain ⟨t, a, b⟩ := k T hT X
  exact ⟨t, a, h t b⟩
theorem Ci.ofx {av : List Value} {Q0 : (Nat → Prop) → Array Value → State → Outcome → State → Prop} {XC : (Nat → Prop) → String → State → State → Prop} {rm : Room} (hy : plainName y.cls = true) (hlen : (lg_sl av).length ≤ nL)
    (body : ∀ (p : Program) (e : Env) (s : State) (m : MethodId) (below : List Frame) (meth : Method) (c : Code) (A : Nat → Prop) (ls : Array Slot), kX p s m av.toArray meth c y.cls cc nL rt A g tys → va_P g kcl w s.heap → va_D A w → va_S A s.heap s.heap [] → lv_has ls nL (lv_args 0 av) →
      W p l e rm s m av.toArray below meth c s.heap [] 0 0 (kSel below av.toArray s A 0 (Q0 A) (XC A)) (F0 m 0 ls [])) (sz : Nat) : Met l y (Cond.code y cc nL rt :: w_all) rm (va_Pc av (kPre g tys w sz)) (Q0 (va_A w sz)) 0 0 (va_A w sz) := by
  refine Met.ofW (cc := cc) (maxL := nL) (ret := rt) hy rfl ?_
  intro p e s m args below meth c s₁ B hml hv
  obtain ⟨rfl, hv⟩ := hv
  obtain ⟨A, hA, hX, hP, hD, hS⟩ := kX_of B hml hv
  subst hA
  rw [lg_entry_eq]
  exact W.mono (fun t h => h.elim (fun h => h.2) (fun h => absurd rfl h.1)) (body p e s m below meth c _ _ hX hP hD hS (lv_entry av hlen))
theorem Cx.of {av : List Value} {Q0 : (Nat → Prop) → Array Value → State → Outcome → State → Prop} {rm : Room} (hk : kx ≠ 0) (hy : plainName y.cls = true) (hlen : (lg_sl av).length ≤ nL)
    (body : ∀ (p : Program) (e : Env) (s : State) (m : MethodId) (below : List Frame) (meth : Method) (c : Code) (A : Nat → Prop) (ls : Array Slot), (∀ x ∈ c.exceptionTable.toList, False) → kX p s m av.toArray meth c y.cls cc nL rt A g tys → va_P g kcl w s.heap → va_D A w → va_S A s.heap s.heap [] → lv_has ls nL (lv_args 0 av) →
      W p l e rm s m av.toArray below meth c s.heap [] 0 0 (kSel below av.toArray s A kx (Q0 A) (kQx g tys w' A kx)) (F0 m 0 ls [])) : Cx l y cc nL rt rm av g tys w w' kx := by
  intro sz
  refine vx_ofW (cc := cc) (maxL := nL) (ret := rt) hy rfl ?_
  intro p e s m args below meth c s₁ B hml hnt hv
  obtain ⟨rfl, hv⟩ := hv
  obtain ⟨A, hA, hX, hP, hD, hS⟩ := kX_of B hml hv
  subst hA
  rw [lg_entry_eq]
  exact W.mono (fun t h => h.elim (fun h => absurd h.1 hk) (fun h => h.2)) (body p e s m below meth c _ _ hnt hX hP hD hS (lv_entry av hlen))
theorem kxv (K : kX p s m args meth c own cc nL rt A g tys) (hP : va_P g kcl w H) (hD : va_D A w) (hS : va_S A s.heap H locs) (hM : Cx l y cc2 nL2 rt2 rm2 (.ref b :: As) g tys w w' kx)
    (hc : Cond.code y cc2 nL2 rt2 ∈ w_all) (h1 : Cond.methodLink own index y ∈ w_all) (h2 : Cond.instanceMethod y ∈ w_all) (h3 : Cond.selects y.cls y y ∈ w_all) (h4 : Cond.initialized y.cls ∈ w_all)
    (hd : y.cls ≠ "java/lang/invoke/MethodHandle" ∧ y.cls ≠ "java/lang/invoke/VarHandle" ∧ (parseMethodDescriptor y.desc).map (fun d => d.parameters.length) = some As.length) (hrc : rm2.cells = 1) (hrs : rm2.slots = 6) (hR : rm2.frames + 1 ≤ R.frames ∧ 8 + (nL2 + 11) + rm2.locals ≤ R.locals) (hcs : cells + 1 ≤ R.cells ∧ slots + 6 ≤ R.slots)
    (ci q0 : Nat) {fs : List Value} {q : vw_C} (he : w[q0]? = some (b, .inr (ci, fs))) (hcl : kcl[ci]? = some q) (hq : q.1 = y.cls) (hsz : ls.size = nL) (hst : st = As.reverse ++ .ref b :: rest) (hroom : (rest.map fun v => v.category).sum ≤ 8) (hdg : decode cc pc = .ok (.invokevirtual index, 3))
    (kk : ∀ (ce : Cell) (q9 : Addr) (H1 : Heap) (locs1 : List Loc), va_P g kcl w' H1 → va_D A w' → va_S A s.heap H1 locs1 → H1[q9]? = some ce → ce.vm = .none → s.vm.findClass (exN kx) = some ce.cls → vx_W p l e R s m args below meth c H1 locs1 (cells + 1) (slots + 6) Q (F0 m pc ls rest) q9) : W p l e R s m args below meth c H locs cells slots Q (F0 m pc ls st) := by
  have hF := kFree K hD hS
  obtain ⟨hx, hb, -, hml, hown, hts, -, hK, -⟩ := id K
  refine vx_callv (vx_runV (As := As) (rest := rest) (b := b) (C := y.cls) (Ts := w_all) ⟨hx, hb, hml, hown, hts⟩ (hM H.size) (cwV As.length hts (w_inV2 hc h1 h2 h3 h4) rfl hrc hrs ⟨rfl, hd⟩ hR) ⟨kPre_blind, by rw [← hq]; exact va_recv hK hP hcl he, fun U hU hW => ⟨rfl, kAt K hP hD hS hU hW⟩⟩ rfl rfl hsz hst (lv_room hroom) hdg hcs) hS (fun q _ h => hF q h) hF (fun q _ h => hF q h) (fun E ce q9 u t H1 locs1 ht hvm hw hB hz1 hk1 hS1 hce hcv hcl9 => ?_) (fun u t H1 locs1 ht hvm hw hB hz1 hk1 hS1 => hw.elim)
  obtain ⟨rfl, hP1, -, hD1⟩ := hB
  rw [ht] at hP1
  exact kk ce q9 H1 locs1 hP1 (hD1.weaken (fun _ _ _ h => hF _ h)) hS1 hce hcv hcl9
theorem kxs (K : kX p s m args meth c own cc nL rt A g tys) (hP : va_P g kcl w H) (hD : va_D A w) (hS : va_S A s.heap H locs) (hM : Cx l y cc2 nL2 rt2 rm2 As g tys w w' kx)
    (hc : Cond.code y cc2 nL2 rt2 ∈ w_all) (h1 : Cond.methodLink own index y ∈ w_all) (h2 : Cond.static y ∈ w_all) (h4 : Cond.initialized y.cls ∈ w_all)
    (hd : y.cls ≠ "java/lang/invoke/MethodHandle" ∧ y.cls ≠ "java/lang/invoke/VarHandle" ∧ (parseMethodDescriptor y.desc).map (fun d => d.parameters.length) = some As.length) (hrc : rm2.cells = 1) (hrs : rm2.slots = 6) (hR : rm2.frames + 1 ≤ R.frames ∧ 8 + (nL2 + 11) + rm2.locals ≤ R.locals) (hcs : cells + 1 ≤ R.cells ∧ slots + 6 ≤ R.slots)
    (hsz : ls.size = nL) (hst : st = As.reverse ++ rest) (hroom : (rest.map fun v => v.category).sum ≤ 8) (hdg : decode cc pc = .ok (.invokestatic index, 3))
    (kk : ∀ (ce : Cell) (q9 : Addr) (H1 : Heap) (locs1 : List Loc), va_P g kcl w' H1 → va_D A w' → va_S A s.heap H1 locs1 → H1[q9]? = some ce → ce.vm = .none → s.vm.findClass (exN kx) = some ce.cls → vx_W p l e R s m args below meth c H1 locs1 (cells + 1) (slots + 6) Q (F0 m pc ls rest) q9) : W p l e R s m args below meth c H locs cells slots Q (F0 m pc ls st) := by
  have hF := kFree K hD hS
  obtain ⟨hx, hb, -, hml, hown, hts, -, hK, -⟩ := id K
  refine vx_callv (vx_runS (As := As) (rest := rest) (Ts := w_all) ⟨hx, hb, hml, hown, hts⟩ (hM H.size) (va_cwS As.length hts (w_inS2 hc h1 h2 h4) rfl hrc hrs hd hR) ⟨kPre_blind, fun U hU hW => ⟨rfl, kAt K hP hD hS hU hW⟩⟩ rfl rfl hsz hst (lv_room hroom) hdg hcs) hS (fun q _ h => hF q h) hF (fun q _ h => hF q h) (fun E ce q9 u t H1 locs1 ht hvm hw hB hz1 hk1 hS1 hce hcv hcl9 => ?_) (fun u t H1 locs1 ht hvm hw hB hz1 hk1 hS1 => hw.elim)
  obtain ⟨rfl, hP1, -, hD1⟩ := hB
  rw [ht] at hP1
  exact kk ce q9 H1 locs1 hP1 (hD1.weaken (fun _ _ _ h => hF _ h)) hS1 hce hcv hcl9
theorem ksv (K : kX p s m args meth c own cc nL rt A g tys) (hP : va_P g kcl w H) (hD : va_D A w) (hS : va_S A s.heap H locs) (hM : Cv l y cc2 nL2 rm2 As g tys w w')
    (hc : Cond.code y cc2 nL2 none ∈ w_all) (h1 : Cond.methodLink own index y ∈ w_all) (h2 : Cond.static y ∈ w_all) (h4 : Cond.initialized y.cls ∈ w_all)
    (hd : y.cls ≠ "java/lang/invoke/MethodHandle" ∧ y.cls ≠ "java/lang/invoke/VarHandle" ∧ (parseMethodDescriptor y.desc).map (fun d => d.parameters.length) = some As.length) (hrc : rm2.cells = 0) (hrs : rm2.slots = 0) (hR : rm2.frames + 1 ≤ R.frames ∧ 8 + (nL2 + 11) + rm2.locals ≤ R.locals) (hcs : cells ≤ R.cells ∧ slots ≤ R.slots)
    (hsz : ls.size = nL) (hst : st = As.reverse ++ rest) (hroom : (rest.map fun v => v.category).sum ≤ 8) (hdg : decode cc pc = .ok (.invokestatic index, 3))
    (kk : ∀ (H1 : Heap) (locs1 : List Loc), va_P g kcl w' H1 → va_D A w' → va_S A s.heap H1 locs1 → W p l e R s m args below meth c H1 locs1 cells slots Q (F0 m (pc + 3) ls rest)) : W p l e R s m args below meth c H locs cells slots Q (F0 m pc ls st) := by
  have hF := kFree K hD hS
  obtain ⟨hx, hb, -, hml, hown, hts, -, hK, -⟩ := id K
  refine va_callv (va_runS (As := As) (rest := rest) (Ts := w_all) ⟨hx, hb, hml, hown, hts⟩ (hM H.size) (va_cwS As.length hts (w_inS2 hc h1 h2 h4) rfl hrc hrs hd hR) ⟨kPre_blind, fun U hU hW => ⟨rfl, kAt K hP hD hS hU hW⟩⟩ rfl rfl hsz hst (lv_room hroom) hdg hcs) hS (fun q _ h => hF q h) hF (fun u t H1 locs1 ht hvm hw hB hz1 hk1 hS1 => ?_)
  obtain ⟨hP1, -, hD1⟩ := hB
  rw [ht] at hP1
  exact kk H1 locs1 hP1 (hD1.weaken (fun _ _ _ h => hF _ h)) hS1
/-- the thrown goes on to the caller -/
theorem kxo {Q0 : Array Value → State → Outcome → State → Prop} {ce : Cell} {q9 : Addr} (K : kX p s m args meth c own cc nL rt A g tys) (hk : kx ≠ 0) (hnt : ∀ x ∈ c.exceptionTable.toList, False) (hP : va_P g kcl w H) (hD : va_D A w) (hS : va_S A s.heap H locs) (hce : H[q9]? = some ce) (hcv : ce.vm = .none) (hcl : s.vm.findClass (exN kx) = some ce.cls) :
    vx_W p l e R s m args below meth c H locs (0 + 1) (0 + 6) (kSel below args s A kx Q0 (kQx g tys w A kx)) (F0 m pc ls rest) q9 := by
  obtain ⟨hx, hb, hr, hml, hown, hts, hlocks, hK, -⟩ := id K
  refine vx_W.mono (fun t h => Or.inr ⟨hk, h⟩) (vx_out (E := exN kx) (fun x hx => (hnt x hx).elim) hlocks hce hcv hcl (fun t ht hvm => ⟨(), trivial, ⟨rfl, by rw [ht]; exact hP, va_K.moved hvm hK, hD⟩, hS.F ht⟩) hS.2.2 (by decide) (by decide))
theorem kXk {t : State} (hP : va_P g kcl w H) (h1 : ∀ q : Nat, q < H.size → t.heap[q]? = H[q]?) : va_P g kcl w t.heap := hP.kept (fun k q hk => h1 _ (hP k q hk).lt)
/-- 'throw new E("text")' -/
theorem kth {Q0 : Array Value → State → Outcome → State → Prop} (K : kX p s m args meth c "LockTable" cc nL rt A g tys) (hlt : l.stackTraces = false) (hnt : ∀ x ∈ c.exceptionTable.toList, False) (hP : va_P g kcl w H) (hD : va_D A w) (hS : va_S A s.heap H locs) {cls text : String} {ik is ic : Nat} (hcls : cls = exN kx) (hk : kx ≠ 0) (hfit : Bundle.fit cls = true)
    (hlk : Cond.classLink "LockTable" ik cls ∈ w_all) (hini : Cond.initialized cls ∈ w_all) (hstr : (is, text) ∈ kStr) (hat : ∀ w ∈ vx_atS "LockTable" ic cls ["java/lang/RuntimeException", "java/lang/Exception"], w ∈ w_all ∨ w ∈ kBad)
    (hsz : ls.size = nL) (d0 : decode cc pc = .ok (.new ik, 3)) (d3 : decode cc (pc + 3) = .ok (.dup, 1)) (d4 : decode cc (pc + 4) = .ok (.ldc is, 2)) (d6 : decode cc (pc + 6) = .ok (.invokespecial ic, 3)) (d9 : decode cc (pc + 9) = .ok (.athrow, 1))
    (hRf : 6 ≤ R.frames) (hRl : 90 ≤ R.locals) (hrest : (rest.map fun v => v.category).sum ≤ 8) (hRc : 1 ≤ R.cells) (hRs : 6 ≤ R.slots) :
    W p l e R s m args below meth c H locs 0 0 (kSel below args s A kx Q0 (kQx g tys w A kx)) (F0 m pc ls rest) := by
  obtain ⟨hx, hb, hr, hml, hown, hts, hlocks, hK, hA, hE⟩ := id K
  obtain ⟨sa, hsa⟩ := hE.2.2.1 _ hstr
  refine W.mono (fun t h => Or.inr ⟨hk, h⟩) (vx_throwS hx hb hlt (names := ["java/lang/RuntimeException", "java/lang/Exception"]) hown hfit (by decide) (hts _ hlk) (hts _ hini) hsa (fun w h => (hat w h).elim (fun h => hts w h) (fun h => va_Nw.use (kBad_tab w h) (hE.2.2.2.1 w h))) ?_ hE.2.1.1 hE.2.1.2 hS (by rw [hml]; exact hsz) d0 d3 d4 d6 d9 (fun x hx => (hnt x hx).elim) (by show 2 + 3 < _; omega) (by show _ + (13 * 3 + 43) ≤ _; omega) (by omega) (by omega) hlocks ?_ hS.2.2 (by decide) (by decide))
  · intro w hw
    unfold vx_ot
    rcases List.mem_cons.mp hw with rfl | hw
    · rw [w_good hlk, Bool.or_true]
    · rcases List.mem_cons.mp hw with rfl | hw
      · rw [w_good hini, Bool.or_true]
      · rcases hat w hw with h | h
        · rw [w_good h, Bool.or_true]
        · rw [kBad_tab w h, Bool.true_or]
  · intro t hvm hz hq
    refine ⟨(), trivial, ⟨hcls, kXk hP hq, va_K.moved hvm hK, hD⟩, ⟨Nat.le_trans hS.1 hz, fun q h1 h2 => ?_⟩⟩
    rw [hq q (Nat.lt_of_lt_of_le h1 hS.1)]
    exact hS.2.1 q h1 h2
end KX
