/-! contracts of one form, and their calls -/
theorem w_in2 {c2 : Cond} (h : c2 ∈ w_all) : GoodIn w_all (c2 :: w_all) := by
  intro w hw
  rcases List.mem_cons.mp hw with rfl | hw
  · exact ⟨h, good_of_word (w_good h)⟩
  · exact ⟨hw, good_of_word (w_good hw)⟩
theorem w_inV2 {c2 : Cond} {own C : String} {i : Nat} {y : MethodName} (h : c2 ∈ w_all) (h1 : Cond.methodLink own i y ∈ w_all) (h2 : Cond.instanceMethod y ∈ w_all) (h3 : Cond.selects C y y ∈ w_all) (h4 : Cond.initialized C ∈ w_all) : GoodIn w_all (wsV own i C y (c2 :: w_all)) := by
  intro w hw
  unfold wsV at hw
  rcases List.mem_append.mp hw with hw | hw
  · simp only [List.mem_cons, List.not_mem_nil, or_false] at hw
    rcases hw with rfl | rfl | rfl | rfl
    · exact ⟨h1, good_of_word (w_good h1)⟩
    · exact ⟨h2, good_of_word (w_good h2)⟩
    · exact ⟨h3, good_of_word (w_good h3)⟩
    · exact ⟨h4, good_of_word (w_good h4)⟩
  · exact w_in2 h w hw
theorem w_inS2 {c2 : Cond} {own : String} {i : Nat} {y : MethodName} (h : c2 ∈ w_all) (h1 : Cond.methodLink own i y ∈ w_all) (h2 : Cond.static y ∈ w_all) (h4 : Cond.initialized y.cls ∈ w_all) : GoodIn w_all (va_wsS own i y (c2 :: w_all)) := by
  intro w hw
  unfold va_wsS at hw
  rcases List.mem_append.mp hw with hw | hw
  · simp only [List.mem_cons, List.not_mem_nil, or_false] at hw
    rcases hw with rfl | rfl | rfl
    · exact ⟨h1, good_of_word (w_good h1)⟩
    · exact ⟨h2, good_of_word (w_good h2)⟩
    · exact ⟨h4, good_of_word (w_good h4)⟩
  · exact w_in2 h w hw
def tgF : Nat → Int32 := fun j => [31, 3, 21, 1, 5, 0].getD j 0
def btF : Nat → Int32 := fun j => [0, 0, 4, 4, 4, 52].getD j 0
def brF : Nat → Int32 := fun j => [0, 0, 4, 0, 20, 52].getD j 0
def kSt (n : String) (f : Nat → Int32) (A : Nat → Prop) (U : State) (H : Heap) : Prop := ∃ t : Nat, va_Z "LockTable$Modes" n "[I" (.ref t) A U H ∧ va_T .int t 6 (fun j => .int (f j)) A U H
theorem kSt.moved {n : String} {f : Nat → Int32} {A : Nat → Prop} {u U : State} {H : Heap} (hvm : u.vm.Alike U.vm) (h : kSt n f A u H) : kSt n f A U H := by
  obtain ⟨t, a, b⟩ := h
  exact ⟨t, a.moved hvm, b.moved hvm⟩
theorem kSt.kept {n : String} {f : Nat → Int32} {A : Nat → Prop} {U : State} {H H1 : Heap} (h : kSt n f A U H) (hq : ∀ a : Nat, a < H.size → ¬ A a → H1[a]? = H[a]?) : kSt n f A U H1 := by
  obtain ⟨t, a, b⟩ := h
  exact ⟨t, a.kept hq, b.kept hq⟩
theorem kSt.narrow {n : String} {f : Nat → Int32} {A B : Nat → Prop} {U : State} {H : Heap} (h : kSt n f A U H) (hAB : ∀ q, B q → A q) : kSt n f B U H := by
  obtain ⟨t, a, b⟩ := h
  exact ⟨t, a.narrow hAB, b.narrow hAB⟩
def kBad : List Cond := [.declares ⟨"java/lang/RuntimeException", "<init>", "(Ljava/lang/String;)V"⟩, .declares ⟨"java/lang/Exception", "<init>", "(Ljava/lang/String;)V"⟩, .declares ⟨"java/lang/Throwable", "<init>", "(Ljava/lang/String;)V"⟩, .castable "java/lang/IllegalArgumentException" "java/lang/IllegalArgumentException", .castable "java/lang/IllegalStateException" "java/lang/IllegalStateException", .castable "java/lang/UnsupportedOperationException" "java/lang/UnsupportedOperationException"]
theorem kBad_tab : ∀ w ∈ kBad, w.onTables = true := by decide
theorem kBad_warm {w : Cond} (h : w ∈ kBad) {s U : State} (hW : s.WarmedH U.vm) (hZ : va_Nw w s) : va_Nw w U := by
  simp only [kBad, List.mem_cons, List.not_mem_nil, or_false] at h
  rcases h with rfl | rfl | rfl | rfl | rfl | rfl
  · exact va_Nw.warmD hW hZ
  · exact va_Nw.warmD hW hZ
  · exact va_Nw.warmD hW hZ
  · exact va_Nw.warmC hW hZ
  · exact va_Nw.warmC hW hZ
  · exact va_Nw.warmC hW hZ
def kNc : List (String × String) := [("java/lang/IllegalStateException", "java/lang/IllegalArgumentException"), ("java/lang/UnsupportedOperationException", "java/lang/IllegalArgumentException"), ("java/lang/UnsupportedOperationException", "java/lang/IllegalStateException")]
def kE (A : Nat → Prop) (U : State) (H : Heap) : Prop := (kSt "TOGETHER" tgF A U H ∧ kSt "BY_TABLE" btF A U H ∧ kSt "BY_RANGE" brF A U H) ∧ (vx_Zq Bundle.tN "UNASSIGNED_STACK" Bundle.steD A U H ∧ vx_Zq Bundle.tN "SUPPRESSED_SENTINEL" Bundle.listD A U H) ∧ (∀ q ∈ kStr, ∃ sa : Nat, vk_R "LockTable" q.1 q.2 sa U) ∧ (∀ w ∈ kBad, va_Nw w U) ∧ ∀ q ∈ kNc, va_Nc q.1 q.2 U
theorem kE.moved {A : Nat → Prop} {u U : State} {H : Heap} (hW : u.WarmedH U.vm) (h : kE A u H) : kE A U H := by
  obtain ⟨⟨a, b, c⟩, ⟨d, e⟩, f, f2, f3⟩ := h
  refine ⟨⟨a.moved hW.alike, b.moved hW.alike, c.moved hW.alike⟩, ⟨vx_Zq.moved hW.alike d, vx_Zq.moved hW.alike e⟩, fun q hq => ?_, fun w hw => kBad_warm hw hW (f2 w hw), fun q hq => va_Nc.moved hW.alike (f3 q hq)⟩
  obtain ⟨sa, hs⟩ := f q hq
  exact ⟨sa, vk_R.warm hW hs⟩
theorem kE.kept {A : Nat → Prop} {U : State} {H H1 : Heap} (h : kE A U H) (hq : ∀ a : Nat, a < H.size → ¬ A a → H1[a]? = H[a]?) : kE A U H1 := by
  obtain ⟨⟨a, b, c⟩, ⟨d, e⟩, f⟩ := h
  exact ⟨⟨a.kept hq, b.kept hq, c.kept hq⟩, ⟨d.kept hq, e.kept hq⟩, f⟩
theorem kE.narrow {A B : Nat → Prop} {U : State} {H : Heap} (h : kE A U H) (hAB : ∀ q, B q → A q) : kE B U H := by
  obtain ⟨⟨a, b, c⟩, ⟨d, e⟩, f⟩ := h
  exact ⟨⟨a.narrow hAB, b.narrow hAB, c.narrow hAB⟩, ⟨d.narrow hAB, e.narrow hAB⟩, f⟩
def kB (g : va_G) (tys : List (ClassId × FieldType)) (w : va_W) (A : Nat → Prop) (t : State) : Prop := va_P g kcl w t.heap ∧ va_K g kcl tys t ∧ va_D A w
def kPre (g : va_G) (tys : List (ClassId × FieldType)) (w : va_W) (sz : Nat) (U : State) : Prop := U.heap.size = sz ∧ va_P g kcl w U.heap ∧ va_K g kcl tys U ∧ va_D (fun _ => True) w ∧ kE (va_A w sz) U U.heap
abbrev kQi (g : va_G) (tys : List (ClassId × FieldType)) (w : va_W) (A : Nat → Prop) (r : Int32) : Array Value → State → Outcome → State → Prop := va_Qi (fun (r2 : Int32) (_ : Unit) => r2 = r) (fun _ t => kB g tys w A t) A
abbrev kQv (g : va_G) (tys : List (ClassId × FieldType)) (w : va_W) (A : Nat → Prop) : Array Value → State → Outcome → State → Prop := va_Qv (fun (_ : Unit) => True) (fun _ t => kB g tys w A t) A
def Ci (l : Launch) (y : MethodName) (cc : ByteArray) (nL : Nat) (rt : Option FieldType) (rm : Room) (av : List Value) (g : va_G) (tys : List (ClassId × FieldType)) (w w' : va_W) (r : Int32) : Prop :=
  ∀ sz : Nat, Met l y (Cond.code y cc nL rt :: w_all) rm (va_Pc av (kPre g tys w sz)) (kQi g tys w' (va_A w sz) r) 0 0 (va_A w sz)
def Cv (l : Launch) (y : MethodName) (cc : ByteArray) (nL : Nat) (rm : Room) (av : List Value) (g : va_G) (tys : List (ClassId × FieldType)) (w w' : va_W) : Prop :=
  ∀ sz : Nat, Met l y (Cond.code y cc nL none :: w_all) rm (va_Pc av (kPre g tys w sz)) (kQv g tys w' (va_A w sz)) 0 0 (va_A w sz)
/-- what stays the same while a method runs -/
def kX (p : Program) (s : State) (m : MethodId) (args : Array Value) (meth : Method) (c : Code) (own : String) (cc : ByteArray) (nL : Nat) (rt : Option FieldType) (A : Nat → Prop) (g : va_G) (tys : List (ClassId × FieldType)) : Prop :=
  p.tables.exec = Jvm.exec ∧ c.code = cc ∧ meth.sig.returnType = rt ∧ c.maxLocals = nL ∧ s.vm.findClass own = some m.cls ∧ (∀ w ∈ w_all, w.before args s = true) ∧ meth.locks = false ∧ va_K g kcl tys s ∧ (∀ q : Nat, s.heap.size ≤ q → A q) ∧ kE A s s.heap
theorem kX_of {p : Program} {l : Launch} {y : MethodName} {cc : ByteArray} {nL : Nat} {rt : Option FieldType} {rm : Room} {e : Env} {s : State} {m : MethodId} {args : Array Value} {below : List Frame} {meth : Method} {c : Code} {s₁ : State} {g : va_G} {tys : List (ClassId × FieldType)} {w : va_W} {sz : Nat}
    (B : BodyLoose p l y (headSpec (Cond.code y cc nL rt :: w_all) rm) cc nL rt e s m args below meth c s₁) (hml : c.maxLocals = nL) (hv : kPre g tys w sz s) : ∃ A : Nat → Prop, A = va_A w sz ∧ kX p s m args meth c y.cls cc nL rt A g tys ∧ va_P g kcl w s.heap ∧ va_D A w ∧ va_S A s.heap s.heap [] := by
  obtain ⟨hsz, hP, hK, hD, hE⟩ := hv
  subst hsz
  have hts := atoms_spec (ws := Cond.code y cc nL rt :: w_all) B.pre
  exact ⟨_, rfl, ⟨B.exec, B.bytes, B.returns, hml, findClass_of_methodNamed B.named, fun w h => hts w (List.mem_cons_of_mem _ h), B.notSynchronized, hK, fun q h => Or.inr h, hE⟩, hP, hD.self, va_S.rf⟩
theorem Ci.of {l : Launch} {y : MethodName} {cc : ByteArray} {nL : Nat} {rt : Option FieldType} {rm : Room} {av : List Value} {g : va_G} {tys : List (ClassId × FieldType)} {w w' : va_W} {r : Int32} (hy : plainName y.cls = true) (hlen : (lg_sl av).length ≤ nL)
    (body : ∀ (p : Program) (e : Env) (s : State) (m : MethodId) (below : List Frame) (meth : Method) (c : Code) (A : Nat → Prop) (ls : Array Slot), kX p s m av.toArray meth c y.cls cc nL rt A g tys → va_P g kcl w s.heap → va_D A w → va_S A s.heap s.heap [] → lv_has ls nL (lv_args 0 av) →
      W p l e rm s m av.toArray below meth c s.heap [] 0 0 (MQ below (kQi g tys w' A r) av.toArray s 0 0 A) (F0 m 0 ls [])) : Ci l y cc nL rt rm av g tys w w' r := by
  intro sz
  refine Met.ofW (cc := cc) (maxL := nL) (ret := rt) hy rfl ?_
  intro p e s m args below meth c s₁ B hml hv
  obtain ⟨rfl, hv⟩ := hv
  obtain ⟨A, hA, hX, hP, hD, hS⟩ := kX_of B hml hv
  subst hA
  rw [lg_entry_eq]
  exact body p e s m below meth c _ _ hX hP hD hS (lv_entry av hlen)
theorem Cv.of {l : Launch} {y : MethodName} {cc : ByteArray} {nL : Nat} {rm : Room} {av : List Value} {g : va_G} {tys : List (ClassId × FieldType)} {w w' : va_W} (hy : plainName y.cls = true) (hlen : (lg_sl av).length ≤ nL)
    (body : ∀ (p : Program) (e : Env) (s : State) (m : MethodId) (below : List Frame) (meth : Method) (c : Code) (A : Nat → Prop) (ls : Array Slot), kX p s m av.toArray meth c y.cls cc nL none A g tys → va_P g kcl w s.heap → va_D A w → va_S A s.heap s.heap [] → lv_has ls nL (lv_args 0 av) →
      W p l e rm s m av.toArray below meth c s.heap [] 0 0 (MQ below (kQv g tys w' A) av.toArray s 0 0 A) (F0 m 0 ls [])) : Cv l y cc nL rm av g tys w w' := by
  intro sz
  refine Met.ofW (cc := cc) (maxL := nL) (ret := none) hy rfl ?_
  intro p e s m args below meth c s₁ B hml hv
  obtain ⟨rfl, hv⟩ := hv
  obtain ⟨A, hA, hX, hP, hD, hS⟩ := kX_of B hml hv
  subst hA
  rw [lg_entry_eq]
  exact body p e s m below meth c _ _ hX hP hD hS (lv_entry av hlen)
theorem kPre_blind {av : List Value} {g : va_G} {tys : List (ClassId × FieldType)} {w : va_W} {sz : Nat} : FrameBlind (va_Pc av (kPre g tys w sz)) := by
  intro a U gf mk q
  obtain ⟨q0, q1, qP, qK, qD, qE⟩ := q
  exact ⟨q0, q1, qP, va_K.moved (u := U) (U := U.calling gf mk a) (Vm.Alike.refl U.vm) qK, qD, kE.moved (u := U) (U := U.calling gf mk a) (State.WarmedH.refl U) qE⟩
section KC
variable {p : Program} {l : Launch} {e : Env} {R : Room} {s : State} {m : MethodId} {args : Array Value} {below : List Frame} {meth : Method} {c : Code} {H : Heap} {locs : List Loc} {cells slots : Nat} {Q : State → Prop}
variable {own : String} {cc : ByteArray} {nL : Nat} {rt : Option FieldType} {A : Nat → Prop} {g : va_G} {tys : List (ClassId × FieldType)} {w w' : va_W}
variable {y : MethodName} {cc2 : ByteArray} {nL2 : Nat} {rt2 : Option FieldType} {rm2 : Room} {b : Nat} {As rest st : List Value} {r : Int32} {index pc : Nat} {ls : Array Slot}
theorem kFree (K : kX p s m args meth c own cc nL rt A g tys) (hD : va_D A w) (hS : va_S A s.heap H locs) : ∀ q, va_A w H.size q → A q := by
  intro q h
  rcases h with ⟨k, e, hk⟩ | h
  · exact hD.2 k _ hk
  · exact K.2.2.2.2.2.2.2.2.1 q (Nat.le_trans hS.1 h)
theorem kAt (K : kX p s m args meth c own cc nL rt A g tys) (hP : va_P g kcl w H) (hD : va_D A w) (hS : va_S A s.heap H locs) {U : State} (hU : U.heap = H) (hW : s.WarmedH U.vm) : kPre g tys w H.size U := by
  refine ⟨by rw [hU], by rw [hU]; exact hP, va_K.moved hW.alike K.2.2.2.2.2.2.2.1, hD.weaken (fun _ _ _ _ => trivial), ?_⟩
  rw [hU]
  exact ((K.2.2.2.2.2.2.2.2.2.kept hS.2.1).moved hW).narrow (kFree K hD hS)
theorem kci (K : kX p s m args meth c own cc nL rt A g tys) (hP : va_P g kcl w H) (hD : va_D A w) (hS : va_S A s.heap H locs) (hM : Ci l y cc2 nL2 rt2 rm2 (.ref b :: As) g tys w w' r)
    (hc : Cond.code y cc2 nL2 rt2 ∈ w_all) (h1 : Cond.methodLink own index y ∈ w_all) (h2 : Cond.instanceMethod y ∈ w_all) (h3 : Cond.selects y.cls y y ∈ w_all) (h4 : Cond.initialized y.cls ∈ w_all)
    (hd : y.cls ≠ "java/lang/invoke/MethodHandle" ∧ y.cls ≠ "java/lang/invoke/VarHandle" ∧ (parseMethodDescriptor y.desc).map (fun d => d.parameters.length) = some As.length) (hrc : rm2.cells = 0) (hrs : rm2.slots = 0) (hR : rm2.frames + 1 ≤ R.frames ∧ 8 + (nL2 + 11) + rm2.locals ≤ R.locals) (hcs : cells ≤ R.cells ∧ slots ≤ R.slots)
    (ci q0 : Nat) {fs : List Value} {q : vw_C} (he : w[q0]? = some (b, .inr (ci, fs))) (hcl : kcl[ci]? = some q) (hq : q.1 = y.cls) (hsz : ls.size = nL) (hst : st = As.reverse ++ .ref b :: rest) (hroom : (rest.map fun v => v.category).sum ≤ 8) (hdg : decode cc pc = .ok (.invokevirtual index, 3))
    (kk : ∀ (H1 : Heap) (locs1 : List Loc), va_P g kcl w' H1 → va_D A w' → va_S A s.heap H1 locs1 → W p l e R s m args below meth c H1 locs1 cells slots Q (F0 m (pc + 3) ls (.int r :: rest))) : W p l e R s m args below meth c H locs cells slots Q (F0 m pc ls st) := by
  have hF := kFree K hD hS
  obtain ⟨hx, hb, -, hml, hown, hts, -, hK, -⟩ := id K
  refine va_calli (va_runV (As := As) (rest := rest) (b := b) (C := y.cls) (Ts := w_all) ⟨hx, hb, hml, hown, hts⟩ (hM H.size) (cwV As.length hts (w_inV2 hc h1 h2 h3 h4) rfl hrc hrs ⟨rfl, hd⟩ hR) ⟨kPre_blind, by rw [← hq]; exact va_recv hK hP hcl he, fun U hU hW => ⟨rfl, kAt K hP hD hS hU hW⟩⟩ rfl rfl hsz hst (lv_room hroom) hdg hcs) hS (fun q _ h => hF q h) hF (fun r2 u t H1 locs1 ht hvm hw hB hz1 hk1 hS1 => ?_)
  obtain ⟨hP1, -, hD1⟩ := hB
  rw [ht] at hP1
  subst hw
  exact kk H1 locs1 hP1 (hD1.weaken (fun _ _ _ h => hF _ h)) hS1
theorem kcv (K : kX p s m args meth c own cc nL rt A g tys) (hP : va_P g kcl w H) (hD : va_D A w) (hS : va_S A s.heap H locs) (hM : Cv l y cc2 nL2 rm2 (.ref b :: As) g tys w w')
    (hc : Cond.code y cc2 nL2 none ∈ w_all) (h1 : Cond.methodLink own index y ∈ w_all) (h2 : Cond.instanceMethod y ∈ w_all) (h3 : Cond.selects y.cls y y ∈ w_all) (h4 : Cond.initialized y.cls ∈ w_all)
    (hd : y.cls ≠ "java/lang/invoke/MethodHandle" ∧ y.cls ≠ "java/lang/invoke/VarHandle" ∧ (parseMethodDescriptor y.desc).map (fun d => d.parameters.length) = some As.length) (hrc : rm2.cells = 0) (hrs : rm2.slots = 0) (hR : rm2.frames + 1 ≤ R.frames ∧ 8 + (nL2 + 11) + rm2.locals ≤ R.locals) (hcs : cells ≤ R.cells ∧ slots ≤ R.slots)
    (ci q0 : Nat) {fs : List Value} {q : vw_C} (he : w[q0]? = some (b, .inr (ci, fs))) (hcl : kcl[ci]? = some q) (hq : q.1 = y.cls) (hsz : ls.size = nL) (hst : st = As.reverse ++ .ref b :: rest) (hroom : (rest.map fun v => v.category).sum ≤ 8) (hdg : decode cc pc = .ok (.invokevirtual index, 3))
    (kk : ∀ (H1 : Heap) (locs1 : List Loc), va_P g kcl w' H1 → va_D A w' → va_S A s.heap H1 locs1 → W p l e R s m args below meth c H1 locs1 cells slots Q (F0 m (pc + 3) ls rest)) : W p l e R s m args below meth c H locs cells slots Q (F0 m pc ls st) := by
  have hF := kFree K hD hS
  obtain ⟨hx, hb, -, hml, hown, hts, -, hK, -⟩ := id K
  refine va_callv (va_runV (As := As) (rest := rest) (b := b) (C := y.cls) (Ts := w_all) ⟨hx, hb, hml, hown, hts⟩ (hM H.size) (cwV As.length hts (w_inV2 hc h1 h2 h3 h4) rfl hrc hrs ⟨rfl, hd⟩ hR) ⟨kPre_blind, by rw [← hq]; exact va_recv hK hP hcl he, fun U hU hW => ⟨rfl, kAt K hP hD hS hU hW⟩⟩ rfl rfl hsz hst (lv_room hroom) hdg hcs) hS (fun q _ h => hF q h) hF (fun u t H1 locs1 ht hvm hw hB hz1 hk1 hS1 => ?_)
  obtain ⟨hP1, -, hD1⟩ := hB
  rw [ht] at hP1
  exact kk H1 locs1 hP1 (hD1.weaken (fun _ _ _ h => hF _ h)) hS1
theorem ksi (K : kX p s m args meth c own cc nL rt A g tys) (hP : va_P g kcl w H) (hD : va_D A w) (hS : va_S A s.heap H locs) (hM : Ci l y cc2 nL2 rt2 rm2 As g tys w w' r)
    (hc : Cond.code y cc2 nL2 rt2 ∈ w_all) (h1 : Cond.methodLink own index y ∈ w_all) (h2 : Cond.static y ∈ w_all) (h4 : Cond.initialized y.cls ∈ w_all)
    (hd : y.cls ≠ "java/lang/invoke/MethodHandle" ∧ y.cls ≠ "java/lang/invoke/VarHandle" ∧ (parseMethodDescriptor y.desc).map (fun d => d.parameters.length) = some As.length) (hrc : rm2.cells = 0) (hrs : rm2.slots = 0) (hR : rm2.frames + 1 ≤ R.frames ∧ 8 + (nL2 + 11) + rm2.locals ≤ R.locals) (hcs : cells ≤ R.cells ∧ slots ≤ R.slots)
    (hsz : ls.size = nL) (hst : st = As.reverse ++ rest) (hroom : (rest.map fun v => v.category).sum ≤ 8) (hdg : decode cc pc = .ok (.invokestatic index, 3))
    (kk : ∀ (H1 : Heap) (locs1 : List Loc), va_P g kcl w' H1 → va_D A w' → va_S A s.heap H1 locs1 → W p l e R s m args below meth c H1 locs1 cells slots Q (F0 m (pc + 3) ls (.int r :: rest))) : W p l e R s m args below meth c H locs cells slots Q (F0 m pc ls st) := by
  have hF := kFree K hD hS
  obtain ⟨hx, hb, -, hml, hown, hts, -, hK, -⟩ := id K
  refine va_calli (va_runS (As := As) (rest := rest) (Ts := w_all) ⟨hx, hb, hml, hown, hts⟩ (hM H.size) (va_cwS As.length hts (w_inS2 hc h1 h2 h4) rfl hrc hrs hd hR) ⟨kPre_blind, fun U hU hW => ⟨rfl, kAt K hP hD hS hU hW⟩⟩ rfl rfl hsz hst (lv_room hroom) hdg hcs) hS (fun q _ h => hF q h) hF (fun r2 u t H1 locs1 ht hvm hw hB hz1 hk1 hS1 => ?_)
  obtain ⟨hP1, -, hD1⟩ := hB
  rw [ht] at hP1
  subst hw
  exact kk H1 locs1 hP1 (hD1.weaken (fun _ _ _ h => hF _ h)) hS1
theorem kri (K : kX p s m args meth c own cc nL (some .int) A g tys) (hP : va_P g kcl w H) (hD : va_D A w) (hS : va_S A s.heap H locs) (hdg : decode cc pc = .ok (.ireturn, 1)) {r2 : Int32} (hr2 : r2 = r) : W p l e R s m args below meth c H locs cells slots (MQ below (kQi g tys w A r) args s cells slots A) (F0 m pc ls [.int r2]) := by
  obtain ⟨hx, hb, hr, hml, hown, hts, hlocks, hK, -⟩ := id K
  subst hr2
  exact W.iret (v := r2) hx hb hr (fun t ht hW => ⟨⟨r2, (), rfl, rfl, by rw [ht]; exact hP, va_K.moved hW.alike hK, hD⟩, hS.F ht⟩) hS.2.2 hdg
theorem krz (K : kX p s m args meth c own cc nL (some .boolean) A g tys) (hP : va_P g kcl w H) (hD : va_D A w) (hS : va_S A s.heap H locs) (hdg : decode cc pc = .ok (.ireturn, 1)) {r2 : Int32} (hn : narrow .boolean (.int r2) = .int r2) (hr2 : r2 = r) : W p l e R s m args below meth c H locs cells slots (MQ below (kQi g tys w A r) args s cells slots A) (F0 m pc ls [.int r2]) := by
  obtain ⟨hx, hb, hr, hml, hown, hts, hlocks, hK, -⟩ := id K
  subst hr2
  exact W.zret (v := r2) (ty := .boolean) hx hb hr hn (fun t ht hW => ⟨⟨r2, (), rfl, rfl, by rw [ht]; exact hP, va_K.moved hW.alike hK, hD⟩, hS.F ht⟩) hS.2.2 hdg
theorem krv (K : kX p s m args meth c own cc nL none A g tys) (hP : va_P g kcl w H) (hD : va_D A w) (hS : va_S A s.heap H locs) (hdg : decode cc pc = .ok (.return_, 1)) : W p l e R s m args below meth c H locs cells slots (MQ below (kQv g tys w A) args s cells slots A) (F0 m pc ls []) := by
  obtain ⟨hx, hb, hr, hml, hown, hts, hlocks, hK, -⟩ := id K
  exact W.vret hx hb hr (fun t ht hW => ⟨⟨(), rfl, trivial, by rw [ht]; exact hP, va_K.moved hW.alike hK, hD⟩, hS.F ht⟩) hS.2.2 hdg
end KC
