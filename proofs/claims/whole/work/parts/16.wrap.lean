/-! the law's own methods: they catch -/
def Cw (l : Launch) (y : MethodName) (cc : ByteArray) (nL : Nat) (hh : List (Nat × Nat × Nat × Nat)) (rm : Room) (av : List Value) (g : va_G) (tys : List (ClassId × FieldType)) (w w' : va_W) (r : Int32) : Prop :=
  ∀ sz : Nat, Met l y (Cond.codeWith y cc nL (some .int) hh :: w_all) rm (va_Pc av (kPre g tys w sz)) (kQi g tys w' (va_A w sz) r) 1 6 (va_A w sz)
theorem Cw.of {l : Launch} {y : MethodName} {cc : ByteArray} {nL : Nat} {hh : List (Nat × Nat × Nat × Nat)} {rm : Room} {av : List Value} {g : va_G} {tys : List (ClassId × FieldType)} {w w' : va_W} {r : Int32} (hy : plainName y.cls = true) (hlen : (lg_sl av).length ≤ nL)
    (body : ∀ (p : Program) (e : Env) (s : State) (m : MethodId) (below : List Frame) (meth : Method) (c : Code) (A : Nat → Prop) (ls : Array Slot), c.exceptionTable.toList = tableOf hh → kX p s m av.toArray meth c y.cls cc nL (some .int) A g tys → va_P g kcl w s.heap → va_D A w → va_S A s.heap s.heap [] → lv_has ls nL (lv_args 0 av) →
      W p l e rm s m av.toArray below meth c s.heap [] 0 0 (MQ below (kQi g tys w' A r) av.toArray s 1 6 A) (F0 m 0 ls [])) : Cw l y cc nL hh rm av g tys w w' r := by
  intro sz
  refine va_MetW (cc := cc) (maxL := nL) (ret := some .int) (hh := hh) hy rfl ?_
  intro p e s m args below meth c s₁ B hml hv
  obtain ⟨rfl, hsz, hP, hK, hD, hE⟩ := hv
  subst hsz
  have hts := atoms_spec (ws := Cond.codeWith y cc nL (some .int) hh :: w_all) B.pre
  have htab := vx_table (x := y) B (hts _ List.mem_cons_self)
  rw [lg_entry_eq]
  exact body p e s m below meth c _ _ htab ⟨B.exec, B.bytes, B.returns, hml, findClass_of_methodNamed B.named, fun w h => hts w (List.mem_cons_of_mem _ h), B.notSynchronized, hK, fun q h => Or.inr h, hE⟩ hP hD.self va_S.rf (lv_entry av hlen)
section KW
variable {p : Program} {l : Launch} {e : Env} {R : Room} {s : State} {m : MethodId} {args : Array Value} {below : List Frame} {meth : Method} {c : Code} {H : Heap} {locs : List Loc} {cells slots : Nat} {Q : State → Prop}
variable {own : String} {cc : ByteArray} {nL : Nat} {rt : Option FieldType} {A : Nat → Prop} {g : va_G} {tys : List (ClassId × FieldType)} {w w' : va_W}
variable {y : MethodName} {cc2 : ByteArray} {nL2 : Nat} {rm2 : Room} {b : Nat} {As rest st : List Value} {r : Int32} {index pc kx : Nat} {ls : Array Slot}
theorem ksw {hh : List (Nat × Nat × Nat × Nat)} (K : kX p s m args meth c own cc nL rt A g tys) (hP : va_P g kcl w H) (hD : va_D A w) (hS : va_S A s.heap H locs) (hM : Cw l y cc2 nL2 hh rm2 As g tys w w' r)
    (hc : Cond.codeWith y cc2 nL2 (some .int) hh ∈ w_all) (h1 : Cond.methodLink own index y ∈ w_all) (h2 : Cond.static y ∈ w_all) (h4 : Cond.initialized y.cls ∈ w_all)
    (hd : y.cls ≠ "java/lang/invoke/MethodHandle" ∧ y.cls ≠ "java/lang/invoke/VarHandle" ∧ (parseMethodDescriptor y.desc).map (fun d => d.parameters.length) = some As.length) (hrc : rm2.cells = 1) (hrs : rm2.slots = 6) (hR : rm2.frames + 1 ≤ R.frames ∧ 8 + (nL2 + 11) + rm2.locals ≤ R.locals) (hcs : cells + 1 ≤ R.cells ∧ slots + 6 ≤ R.slots)
    (hsz : ls.size = nL) (hst : st = As.reverse ++ rest) (hroom : (rest.map fun v => v.category).sum ≤ 8) (hdg : decode cc pc = .ok (.invokestatic index, 3))
    (kk : ∀ (H1 : Heap) (locs1 : List Loc), va_P g kcl w' H1 → va_D A w' → va_S A s.heap H1 locs1 → W p l e R s m args below meth c H1 locs1 (cells + 1) (slots + 6) Q (F0 m (pc + 3) ls (.int r :: rest))) : W p l e R s m args below meth c H locs cells slots Q (F0 m pc ls st) := by
  have hF := kFree K hD hS
  obtain ⟨hx, hb, -, hml, hown, hts, -, hK, -⟩ := id K
  refine va_calli (vx_runSW (As := As) (rest := rest) (Ts := w_all) (hh := hh) ⟨hx, hb, hml, hown, hts⟩ (hM H.size) (vx_cwSW As.length hts (w_inS2 hc h1 h2 h4) rfl hrc hrs hd hR) ⟨kPre_blind, fun U hU hW => ⟨rfl, kAt K hP hD hS hU hW⟩⟩ rfl rfl hsz hst (lv_room hroom) hdg hcs) hS (fun q _ h => hF q h) hF (fun r2 u t H1 locs1 ht hvm hw hB hz1 hk1 hS1 => ?_)
  obtain ⟨hP1, -, hD1⟩ := hB
  rw [ht] at hP1
  subst hw
  exact kk H1 locs1 hP1 (hD1.weaken (fun _ _ _ h => hF _ h)) hS1
theorem kcat {name : String} {ce : Cell} {q : Addr} {pc : Nat} (K : kX p s m args meth c own cc nL rt A g tys) (pre : List ExceptionTableEntry) (x : ExceptionTableEntry) (suf : List ExceptionTableEntry) (hsplit : c.exceptionTable.toList = pre ++ x :: suf)
    (hpass : ∀ z ∈ pre, z.catchType ≠ 0 ∧ ∃ nm : String, Cond.classLink own z.catchType nm ∈ w_all ∧ (exN kx, nm) ∈ kNc) (hx : covers x pc = true) (h0 : x.catchType ≠ 0) (hlink : Cond.classLink own x.catchType name ∈ w_all) (hcast : Cond.castable (exN kx) name ∈ kBad) (hcell : H[q]? = some ce) (hv : ce.vm = .none) (hcl : s.vm.findClass (exN kx) = some ce.cls)
    (kk : W p l e R s m args below meth c H locs cells slots Q (F0 m x.handlerPc ls [.ref q])) : vx_W p l e R s m args below meth c H locs cells slots Q (F0 m pc ls rest) q := by
  obtain ⟨hx9, hb, -, hml, hown, hts, -, hK, hA, hE⟩ := id K
  refine vx_catch (E := exN kx) hown pre x suf hsplit (fun z hz => ?_) hx h0 (hts _ hlink) (va_Nw.use (kBad_tab _ hcast) (hE.2.2.2.1 _ hcast)) hcell hv hcl kk
  obtain ⟨h1, nm, h2, h3⟩ := hpass z hz
  exact Or.inr ⟨h1, nm, hts _ h2, hE.2.2.2.2 _ h3⟩
end KW
theorem vp_in01 : vp_in 0 1 := by unfold vp_in; decide

theorem wm_214 : Cond.code ⟨"LockTable", "begin", "(I)I"⟩ prog_1_method_2_code 2 (some .int) ∈ w_all := w_mem 214 (by decide +kernel) (by decide +kernel)
theorem wm_211 : Cond.methodLink "LockTableLaw" 7 ⟨"LockTable", "begin", "(I)I"⟩ ∈ w_all := w_mem 211 (by decide +kernel) (by decide +kernel)
theorem wm_212 : Cond.instanceMethod ⟨"LockTable", "begin", "(I)I"⟩ ∈ w_all := w_mem 212 (by decide +kernel) (by decide +kernel)
theorem wm_213 : Cond.selects "LockTable" ⟨"LockTable", "begin", "(I)I"⟩ ⟨"LockTable", "begin", "(I)I"⟩ ∈ w_all := w_mem 213 (by decide +kernel) (by decide +kernel)
theorem wm_209 : Cond.classLink "LockTableLaw" 13 "java/lang/IllegalArgumentException" ∈ w_all := w_mem 209 (by decide +kernel) (by decide +kernel)
theorem wm_210 : Cond.classLink "LockTableLaw" 15 "java/lang/IllegalStateException" ∈ w_all := w_mem 210 (by decide +kernel) (by decide +kernel)
theorem wm_312 : Cond.code ⟨"LockTable", "table", "(III)I"⟩ prog_1_method_3_code 5 (some .int) ∈ w_all := w_mem 312 (by decide +kernel) (by decide +kernel)
theorem wm_309 : Cond.methodLink "LockTableLaw" 17 ⟨"LockTable", "table", "(III)I"⟩ ∈ w_all := w_mem 309 (by decide +kernel) (by decide +kernel)
theorem wm_310 : Cond.instanceMethod ⟨"LockTable", "table", "(III)I"⟩ ∈ w_all := w_mem 310 (by decide +kernel) (by decide +kernel)
theorem wm_311 : Cond.selects "LockTable" ⟨"LockTable", "table", "(III)I"⟩ ⟨"LockTable", "table", "(III)I"⟩ ∈ w_all := w_mem 311 (by decide +kernel) (by decide +kernel)
theorem wm_448 : Cond.code ⟨"LockTable", "range", "(IIJJI)I"⟩ prog_1_method_4_code 8 (some .int) ∈ w_all := w_mem 448 (by decide +kernel) (by decide +kernel)
theorem wm_445 : Cond.methodLink "LockTableLaw" 21 ⟨"LockTable", "range", "(IIJJI)I"⟩ ∈ w_all := w_mem 445 (by decide +kernel) (by decide +kernel)
theorem wm_446 : Cond.instanceMethod ⟨"LockTable", "range", "(IIJJI)I"⟩ ∈ w_all := w_mem 446 (by decide +kernel) (by decide +kernel)
theorem wm_447 : Cond.selects "LockTable" ⟨"LockTable", "range", "(IIJJI)I"⟩ ⟨"LockTable", "range", "(IIJJI)I"⟩ ∈ w_all := w_mem 447 (by decide +kernel) (by decide +kernel)
theorem wm_444 : Cond.classLink "LockTableLaw" 25 "java/lang/UnsupportedOperationException" ∈ w_all := w_mem 444 (by decide +kernel) (by decide +kernel)
theorem wm_522 : Cond.code ⟨"LockTable", "escalate", "(II)I"⟩ prog_1_method_5_code 3 (some .int) ∈ w_all := w_mem 522 (by decide +kernel) (by decide +kernel)
theorem wm_519 : Cond.methodLink "LockTableLaw" 27 ⟨"LockTable", "escalate", "(II)I"⟩ ∈ w_all := w_mem 519 (by decide +kernel) (by decide +kernel)
theorem wm_520 : Cond.instanceMethod ⟨"LockTable", "escalate", "(II)I"⟩ ∈ w_all := w_mem 520 (by decide +kernel) (by decide +kernel)
theorem wm_521 : Cond.selects "LockTable" ⟨"LockTable", "escalate", "(II)I"⟩ ⟨"LockTable", "escalate", "(II)I"⟩ ∈ w_all := w_mem 521 (by decide +kernel) (by decide +kernel)
theorem wm_530 : Cond.code ⟨"LockTable", "cancel", "(I)I"⟩ prog_1_method_6_code 2 (some .int) ∈ w_all := w_mem 530 (by decide +kernel) (by decide +kernel)
theorem wm_527 : Cond.methodLink "LockTableLaw" 31 ⟨"LockTable", "cancel", "(I)I"⟩ ∈ w_all := w_mem 527 (by decide +kernel) (by decide +kernel)
theorem wm_528 : Cond.instanceMethod ⟨"LockTable", "cancel", "(I)I"⟩ ∈ w_all := w_mem 528 (by decide +kernel) (by decide +kernel)
theorem wm_529 : Cond.selects "LockTable" ⟨"LockTable", "cancel", "(I)I"⟩ ⟨"LockTable", "cancel", "(I)I"⟩ ∈ w_all := w_mem 529 (by decide +kernel) (by decide +kernel)
theorem wm_542 : Cond.code ⟨"LockTable", "prepare", "(I)I"⟩ prog_1_method_7_code 2 (some .int) ∈ w_all := w_mem 542 (by decide +kernel) (by decide +kernel)
theorem wm_539 : Cond.methodLink "LockTableLaw" 34 ⟨"LockTable", "prepare", "(I)I"⟩ ∈ w_all := w_mem 539 (by decide +kernel) (by decide +kernel)
theorem wm_540 : Cond.instanceMethod ⟨"LockTable", "prepare", "(I)I"⟩ ∈ w_all := w_mem 540 (by decide +kernel) (by decide +kernel)
theorem wm_541 : Cond.selects "LockTable" ⟨"LockTable", "prepare", "(I)I"⟩ ⟨"LockTable", "prepare", "(I)I"⟩ ∈ w_all := w_mem 541 (by decide +kernel) (by decide +kernel)
theorem wm_561 : Cond.code ⟨"LockTable", "unread", "(I)I"⟩ prog_1_method_8_code 2 (some .int) ∈ w_all := w_mem 561 (by decide +kernel) (by decide +kernel)
theorem wm_558 : Cond.methodLink "LockTableLaw" 37 ⟨"LockTable", "unread", "(I)I"⟩ ∈ w_all := w_mem 558 (by decide +kernel) (by decide +kernel)
theorem wm_559 : Cond.instanceMethod ⟨"LockTable", "unread", "(I)I"⟩ ∈ w_all := w_mem 559 (by decide +kernel) (by decide +kernel)
theorem wm_560 : Cond.selects "LockTable" ⟨"LockTable", "unread", "(I)I"⟩ ⟨"LockTable", "unread", "(I)I"⟩ ∈ w_all := w_mem 560 (by decide +kernel) (by decide +kernel)
theorem wm_568 : Cond.code ⟨"LockTable", "end", "(I)I"⟩ prog_1_method_9_code 2 (some .int) ∈ w_all := w_mem 568 (by decide +kernel) (by decide +kernel)
theorem wm_565 : Cond.methodLink "LockTableLaw" 40 ⟨"LockTable", "end", "(I)I"⟩ ∈ w_all := w_mem 565 (by decide +kernel) (by decide +kernel)
theorem wm_566 : Cond.instanceMethod ⟨"LockTable", "end", "(I)I"⟩ ∈ w_all := w_mem 566 (by decide +kernel) (by decide +kernel)
theorem wm_567 : Cond.selects "LockTable" ⟨"LockTable", "end", "(I)I"⟩ ⟨"LockTable", "end", "(I)I"⟩ ∈ w_all := w_mem 567 (by decide +kernel) (by decide +kernel)
theorem wm_580 : Cond.code ⟨"LockTable", "limit", "(I)V"⟩ prog_1_method_10_code 2 none ∈ w_all := w_mem 580 (by decide +kernel) (by decide +kernel)
theorem wm_577 : Cond.methodLink "LockTableLaw" 43 ⟨"LockTable", "limit", "(I)V"⟩ ∈ w_all := w_mem 577 (by decide +kernel) (by decide +kernel)
theorem wm_578 : Cond.instanceMethod ⟨"LockTable", "limit", "(I)V"⟩ ∈ w_all := w_mem 578 (by decide +kernel) (by decide +kernel)
theorem wm_579 : Cond.selects "LockTable" ⟨"LockTable", "limit", "(I)V"⟩ ⟨"LockTable", "limit", "(I)V"⟩ ∈ w_all := w_mem 579 (by decide +kernel) (by decide +kernel)
theorem wm_591 : Cond.code ⟨"LockTable", "tick", "(I)I"⟩ prog_1_method_11_code 4 (some .int) ∈ w_all := w_mem 591 (by decide +kernel) (by decide +kernel)
theorem wm_588 : Cond.methodLink "LockTableLaw" 47 ⟨"LockTable", "tick", "(I)I"⟩ ∈ w_all := w_mem 588 (by decide +kernel) (by decide +kernel)
theorem wm_589 : Cond.instanceMethod ⟨"LockTable", "tick", "(I)I"⟩ ∈ w_all := w_mem 589 (by decide +kernel) (by decide +kernel)
theorem wm_590 : Cond.selects "LockTable" ⟨"LockTable", "tick", "(I)I"⟩ ⟨"LockTable", "tick", "(I)I"⟩ ∈ w_all := w_mem 590 (by decide +kernel) (by decide +kernel)
theorem wm_606 : Cond.code ⟨"LockTable", "state", "(I)I"⟩ prog_1_method_12_code 2 (some .int) ∈ w_all := w_mem 606 (by decide +kernel) (by decide +kernel)
theorem wm_603 : Cond.methodLink "LockTableLaw" 50 ⟨"LockTable", "state", "(I)I"⟩ ∈ w_all := w_mem 603 (by decide +kernel) (by decide +kernel)
theorem wm_604 : Cond.instanceMethod ⟨"LockTable", "state", "(I)I"⟩ ∈ w_all := w_mem 604 (by decide +kernel) (by decide +kernel)
theorem wm_605 : Cond.selects "LockTable" ⟨"LockTable", "state", "(I)I"⟩ ⟨"LockTable", "state", "(I)I"⟩ ∈ w_all := w_mem 605 (by decide +kernel) (by decide +kernel)
theorem wm_613 : Cond.code ⟨"LockTable", "serial", "(I)I"⟩ prog_1_method_13_code 2 (some .int) ∈ w_all := w_mem 613 (by decide +kernel) (by decide +kernel)
theorem wm_610 : Cond.methodLink "LockTableLaw" 53 ⟨"LockTable", "serial", "(I)I"⟩ ∈ w_all := w_mem 610 (by decide +kernel) (by decide +kernel)
theorem wm_611 : Cond.instanceMethod ⟨"LockTable", "serial", "(I)I"⟩ ∈ w_all := w_mem 611 (by decide +kernel) (by decide +kernel)
theorem wm_612 : Cond.selects "LockTable" ⟨"LockTable", "serial", "(I)I"⟩ ⟨"LockTable", "serial", "(I)I"⟩ ∈ w_all := w_mem 612 (by decide +kernel) (by decide +kernel)
theorem wm_620 : Cond.code ⟨"LockTable", "ranges", "(II)I"⟩ prog_1_method_14_code 3 (some .int) ∈ w_all := w_mem 620 (by decide +kernel) (by decide +kernel)
theorem wm_617 : Cond.methodLink "LockTableLaw" 56 ⟨"LockTable", "ranges", "(II)I"⟩ ∈ w_all := w_mem 617 (by decide +kernel) (by decide +kernel)
theorem wm_618 : Cond.instanceMethod ⟨"LockTable", "ranges", "(II)I"⟩ ∈ w_all := w_mem 618 (by decide +kernel) (by decide +kernel)
theorem wm_619 : Cond.selects "LockTable" ⟨"LockTable", "ranges", "(II)I"⟩ ⟨"LockTable", "ranges", "(II)I"⟩ ∈ w_all := w_mem 619 (by decide +kernel) (by decide +kernel)
theorem wm_627 : Cond.code ⟨"LockTable", "mode", "(II)I"⟩ prog_1_method_16_code 3 (some .int) ∈ w_all := w_mem 627 (by decide +kernel) (by decide +kernel)
theorem wm_624 : Cond.methodLink "LockTableLaw" 59 ⟨"LockTable", "mode", "(II)I"⟩ ∈ w_all := w_mem 624 (by decide +kernel) (by decide +kernel)
theorem wm_625 : Cond.instanceMethod ⟨"LockTable", "mode", "(II)I"⟩ ∈ w_all := w_mem 625 (by decide +kernel) (by decide +kernel)
theorem wm_626 : Cond.selects "LockTable" ⟨"LockTable", "mode", "(II)I"⟩ ⟨"LockTable", "mode", "(II)I"⟩ ∈ w_all := w_mem 626 (by decide +kernel) (by decide +kernel)
theorem wm_634 : Cond.code ⟨"LockTable", "right", "(IIJ)I"⟩ prog_1_method_17_code 5 (some .int) ∈ w_all := w_mem 634 (by decide +kernel) (by decide +kernel)
theorem wm_631 : Cond.methodLink "LockTableLaw" 62 ⟨"LockTable", "right", "(IIJ)I"⟩ ∈ w_all := w_mem 631 (by decide +kernel) (by decide +kernel)
theorem wm_632 : Cond.instanceMethod ⟨"LockTable", "right", "(IIJ)I"⟩ ∈ w_all := w_mem 632 (by decide +kernel) (by decide +kernel)
theorem wm_633 : Cond.selects "LockTable" ⟨"LockTable", "right", "(IIJ)I"⟩ ⟨"LockTable", "right", "(IIJ)I"⟩ ∈ w_all := w_mem 633 (by decide +kernel) (by decide +kernel)
theorem wm_648 : Cond.code ⟨"LockTable", "wants", "(II)I"⟩ prog_1_method_19_code 3 (some .int) ∈ w_all := w_mem 648 (by decide +kernel) (by decide +kernel)
theorem wm_645 : Cond.methodLink "LockTableLaw" 66 ⟨"LockTable", "wants", "(II)I"⟩ ∈ w_all := w_mem 645 (by decide +kernel) (by decide +kernel)
theorem wm_646 : Cond.instanceMethod ⟨"LockTable", "wants", "(II)I"⟩ ∈ w_all := w_mem 646 (by decide +kernel) (by decide +kernel)
theorem wm_647 : Cond.selects "LockTable" ⟨"LockTable", "wants", "(II)I"⟩ ⟨"LockTable", "wants", "(II)I"⟩ ∈ w_all := w_mem 647 (by decide +kernel) (by decide +kernel)
theorem wm_656 : Cond.code ⟨"LockTable", "behind", "(I)I"⟩ prog_1_method_20_code 2 (some .int) ∈ w_all := w_mem 656 (by decide +kernel) (by decide +kernel)
theorem wm_653 : Cond.methodLink "LockTableLaw" 69 ⟨"LockTable", "behind", "(I)I"⟩ ∈ w_all := w_mem 653 (by decide +kernel) (by decide +kernel)
theorem wm_654 : Cond.instanceMethod ⟨"LockTable", "behind", "(I)I"⟩ ∈ w_all := w_mem 654 (by decide +kernel) (by decide +kernel)
theorem wm_655 : Cond.selects "LockTable" ⟨"LockTable", "behind", "(I)I"⟩ ⟨"LockTable", "behind", "(I)I"⟩ ∈ w_all := w_mem 655 (by decide +kernel) (by decide +kernel)
theorem wm_663 : Cond.code ⟨"LockTable", "join", "(II)I"⟩ prog_1_method_22_code 3 (some .int) ∈ w_all := w_mem 663 (by decide +kernel) (by decide +kernel)
theorem wm_660 : Cond.methodLink "LockTableLaw" 72 ⟨"LockTable", "join", "(II)I"⟩ ∈ w_all := w_mem 660 (by decide +kernel) (by decide +kernel)
theorem wm_661 : Cond.instanceMethod ⟨"LockTable", "join", "(II)I"⟩ ∈ w_all := w_mem 661 (by decide +kernel) (by decide +kernel)
theorem wm_662 : Cond.selects "LockTable" ⟨"LockTable", "join", "(II)I"⟩ ⟨"LockTable", "join", "(II)I"⟩ ∈ w_all := w_mem 662 (by decide +kernel) (by decide +kernel)
abbrev y_W_begin : MethodName := ⟨"LockTableLaw", "begin", "(LLockTable;I[J)I"⟩
theorem hd_W_begin : y_W_begin.cls ≠ "java/lang/invoke/MethodHandle" ∧ y_W_begin.cls ≠ "java/lang/invoke/VarHandle" ∧ (parseMethodDescriptor y_W_begin.desc).map (fun d => d.parameters.length) = some 3 := ⟨by decide, by decide, by decide +kernel⟩
theorem d_W_begin_0 : decode method_3_code 0 = .ok (.aload_n 2, 1) := by decide +kernel
theorem d_W_begin_1 : decode method_3_code 1 = .ok (.iconst 0, 1) := by decide +kernel
theorem d_W_begin_2 : decode method_3_code 2 = .ok (.aload_n 0, 1) := by decide +kernel
theorem d_W_begin_3 : decode method_3_code 3 = .ok (.iload_n 1, 1) := by decide +kernel
theorem d_W_begin_4 : decode method_3_code 4 = .ok (.invokevirtual 7, 3) := by decide +kernel
theorem d_W_begin_7 : decode method_3_code 7 = .ok (.i2l, 1) := by decide +kernel
theorem d_W_begin_8 : decode method_3_code 8 = .ok (.lastore, 1) := by decide +kernel
theorem d_W_begin_9 : decode method_3_code 9 = .ok (.goto 9, 3) := by decide +kernel
theorem d_W_begin_12 : decode method_3_code 12 = .ok (.astore_n 3, 1) := by decide +kernel
theorem d_W_begin_13 : decode method_3_code 13 = .ok (.iconst 1, 1) := by decide +kernel
theorem d_W_begin_14 : decode method_3_code 14 = .ok (.ireturn, 1) := by decide +kernel
theorem d_W_begin_15 : decode method_3_code 15 = .ok (.astore_n 3, 1) := by decide +kernel
theorem d_W_begin_16 : decode method_3_code 16 = .ok (.iconst 2, 1) := by decide +kernel
theorem d_W_begin_17 : decode method_3_code 17 = .ok (.ireturn, 1) := by decide +kernel
theorem d_W_begin_18 : decode method_3_code 18 = .ok (.iconst 0, 1) := by decide +kernel
theorem d_W_begin_19 : decode method_3_code 19 = .ok (.ireturn, 1) := by decide +kernel
abbrev y_W_table : MethodName := ⟨"LockTableLaw", "table", "(LLockTable;III[J)I"⟩
theorem hd_W_table : y_W_table.cls ≠ "java/lang/invoke/MethodHandle" ∧ y_W_table.cls ≠ "java/lang/invoke/VarHandle" ∧ (parseMethodDescriptor y_W_table.desc).map (fun d => d.parameters.length) = some 5 := ⟨by decide, by decide, by decide +kernel⟩
theorem d_W_table_0 : decode method_4_code 0 = .ok (.aload 4, 2) := by decide +kernel
theorem d_W_table_2 : decode method_4_code 2 = .ok (.iconst 0, 1) := by decide +kernel
theorem d_W_table_3 : decode method_4_code 3 = .ok (.aload_n 0, 1) := by decide +kernel
theorem d_W_table_4 : decode method_4_code 4 = .ok (.iload_n 1, 1) := by decide +kernel
theorem d_W_table_5 : decode method_4_code 5 = .ok (.iload_n 2, 1) := by decide +kernel
theorem d_W_table_6 : decode method_4_code 6 = .ok (.iload_n 3, 1) := by decide +kernel
theorem d_W_table_7 : decode method_4_code 7 = .ok (.invokevirtual 17, 3) := by decide +kernel
theorem d_W_table_10 : decode method_4_code 10 = .ok (.i2l, 1) := by decide +kernel
theorem d_W_table_11 : decode method_4_code 11 = .ok (.lastore, 1) := by decide +kernel
theorem d_W_table_12 : decode method_4_code 12 = .ok (.goto 11, 3) := by decide +kernel
theorem d_W_table_15 : decode method_4_code 15 = .ok (.astore 5, 2) := by decide +kernel
theorem d_W_table_17 : decode method_4_code 17 = .ok (.iconst 1, 1) := by decide +kernel
theorem d_W_table_18 : decode method_4_code 18 = .ok (.ireturn, 1) := by decide +kernel
theorem d_W_table_19 : decode method_4_code 19 = .ok (.astore 5, 2) := by decide +kernel
theorem d_W_table_21 : decode method_4_code 21 = .ok (.iconst 2, 1) := by decide +kernel
theorem d_W_table_22 : decode method_4_code 22 = .ok (.ireturn, 1) := by decide +kernel
theorem d_W_table_23 : decode method_4_code 23 = .ok (.iconst 0, 1) := by decide +kernel
theorem d_W_table_24 : decode method_4_code 24 = .ok (.ireturn, 1) := by decide +kernel
abbrev y_W_range : MethodName := ⟨"LockTableLaw", "range", "(LLockTable;IIJJI[J)I"⟩
theorem hd_W_range : y_W_range.cls ≠ "java/lang/invoke/MethodHandle" ∧ y_W_range.cls ≠ "java/lang/invoke/VarHandle" ∧ (parseMethodDescriptor y_W_range.desc).map (fun d => d.parameters.length) = some 7 := ⟨by decide, by decide, by decide +kernel⟩
theorem d_W_range_0 : decode method_5_code 0 = .ok (.aload 8, 2) := by decide +kernel
theorem d_W_range_2 : decode method_5_code 2 = .ok (.iconst 0, 1) := by decide +kernel
theorem d_W_range_3 : decode method_5_code 3 = .ok (.aload_n 0, 1) := by decide +kernel
theorem d_W_range_4 : decode method_5_code 4 = .ok (.iload_n 1, 1) := by decide +kernel
theorem d_W_range_5 : decode method_5_code 5 = .ok (.iload_n 2, 1) := by decide +kernel
theorem d_W_range_6 : decode method_5_code 6 = .ok (.lload_n 3, 1) := by decide +kernel
theorem d_W_range_7 : decode method_5_code 7 = .ok (.lload 5, 2) := by decide +kernel
theorem d_W_range_9 : decode method_5_code 9 = .ok (.iload 7, 2) := by decide +kernel
theorem d_W_range_11 : decode method_5_code 11 = .ok (.invokevirtual 21, 3) := by decide +kernel
theorem d_W_range_14 : decode method_5_code 14 = .ok (.i2l, 1) := by decide +kernel
theorem d_W_range_15 : decode method_5_code 15 = .ok (.lastore, 1) := by decide +kernel
theorem d_W_range_16 : decode method_5_code 16 = .ok (.goto 15, 3) := by decide +kernel
theorem d_W_range_19 : decode method_5_code 19 = .ok (.astore 9, 2) := by decide +kernel
theorem d_W_range_21 : decode method_5_code 21 = .ok (.iconst 1, 1) := by decide +kernel
theorem d_W_range_22 : decode method_5_code 22 = .ok (.ireturn, 1) := by decide +kernel
theorem d_W_range_23 : decode method_5_code 23 = .ok (.astore 9, 2) := by decide +kernel
theorem d_W_range_25 : decode method_5_code 25 = .ok (.iconst 2, 1) := by decide +kernel
theorem d_W_range_26 : decode method_5_code 26 = .ok (.ireturn, 1) := by decide +kernel
theorem d_W_range_27 : decode method_5_code 27 = .ok (.astore 9, 2) := by decide +kernel
theorem d_W_range_29 : decode method_5_code 29 = .ok (.iconst 3, 1) := by decide +kernel
theorem d_W_range_30 : decode method_5_code 30 = .ok (.ireturn, 1) := by decide +kernel
theorem d_W_range_31 : decode method_5_code 31 = .ok (.iconst 0, 1) := by decide +kernel
theorem d_W_range_32 : decode method_5_code 32 = .ok (.ireturn, 1) := by decide +kernel
abbrev y_W_escalate : MethodName := ⟨"LockTableLaw", "escalate", "(LLockTable;II[J)I"⟩
theorem hd_W_escalate : y_W_escalate.cls ≠ "java/lang/invoke/MethodHandle" ∧ y_W_escalate.cls ≠ "java/lang/invoke/VarHandle" ∧ (parseMethodDescriptor y_W_escalate.desc).map (fun d => d.parameters.length) = some 4 := ⟨by decide, by decide, by decide +kernel⟩
theorem d_W_escalate_0 : decode method_6_code 0 = .ok (.aload_n 3, 1) := by decide +kernel
theorem d_W_escalate_1 : decode method_6_code 1 = .ok (.iconst 0, 1) := by decide +kernel
theorem d_W_escalate_2 : decode method_6_code 2 = .ok (.aload_n 0, 1) := by decide +kernel
theorem d_W_escalate_3 : decode method_6_code 3 = .ok (.iload_n 1, 1) := by decide +kernel
theorem d_W_escalate_4 : decode method_6_code 4 = .ok (.iload_n 2, 1) := by decide +kernel
theorem d_W_escalate_5 : decode method_6_code 5 = .ok (.invokevirtual 27, 3) := by decide +kernel
theorem d_W_escalate_8 : decode method_6_code 8 = .ok (.i2l, 1) := by decide +kernel
theorem d_W_escalate_9 : decode method_6_code 9 = .ok (.lastore, 1) := by decide +kernel
theorem d_W_escalate_10 : decode method_6_code 10 = .ok (.goto 15, 3) := by decide +kernel
theorem d_W_escalate_13 : decode method_6_code 13 = .ok (.astore 4, 2) := by decide +kernel
theorem d_W_escalate_15 : decode method_6_code 15 = .ok (.iconst 1, 1) := by decide +kernel
theorem d_W_escalate_16 : decode method_6_code 16 = .ok (.ireturn, 1) := by decide +kernel
theorem d_W_escalate_17 : decode method_6_code 17 = .ok (.astore 4, 2) := by decide +kernel
theorem d_W_escalate_19 : decode method_6_code 19 = .ok (.iconst 2, 1) := by decide +kernel
theorem d_W_escalate_20 : decode method_6_code 20 = .ok (.ireturn, 1) := by decide +kernel
theorem d_W_escalate_21 : decode method_6_code 21 = .ok (.astore 4, 2) := by decide +kernel
theorem d_W_escalate_23 : decode method_6_code 23 = .ok (.iconst 3, 1) := by decide +kernel
theorem d_W_escalate_24 : decode method_6_code 24 = .ok (.ireturn, 1) := by decide +kernel
theorem d_W_escalate_25 : decode method_6_code 25 = .ok (.iconst 0, 1) := by decide +kernel
theorem d_W_escalate_26 : decode method_6_code 26 = .ok (.ireturn, 1) := by decide +kernel
abbrev y_W_cancel : MethodName := ⟨"LockTableLaw", "cancel", "(LLockTable;I[J)I"⟩
theorem hd_W_cancel : y_W_cancel.cls ≠ "java/lang/invoke/MethodHandle" ∧ y_W_cancel.cls ≠ "java/lang/invoke/VarHandle" ∧ (parseMethodDescriptor y_W_cancel.desc).map (fun d => d.parameters.length) = some 3 := ⟨by decide, by decide, by decide +kernel⟩
theorem d_W_cancel_0 : decode method_7_code 0 = .ok (.aload_n 2, 1) := by decide +kernel
theorem d_W_cancel_1 : decode method_7_code 1 = .ok (.iconst 0, 1) := by decide +kernel
theorem d_W_cancel_2 : decode method_7_code 2 = .ok (.aload_n 0, 1) := by decide +kernel
theorem d_W_cancel_3 : decode method_7_code 3 = .ok (.iload_n 1, 1) := by decide +kernel
theorem d_W_cancel_4 : decode method_7_code 4 = .ok (.invokevirtual 31, 3) := by decide +kernel
theorem d_W_cancel_7 : decode method_7_code 7 = .ok (.i2l, 1) := by decide +kernel
theorem d_W_cancel_8 : decode method_7_code 8 = .ok (.lastore, 1) := by decide +kernel
theorem d_W_cancel_9 : decode method_7_code 9 = .ok (.goto 9, 3) := by decide +kernel
theorem d_W_cancel_12 : decode method_7_code 12 = .ok (.astore_n 3, 1) := by decide +kernel
theorem d_W_cancel_13 : decode method_7_code 13 = .ok (.iconst 1, 1) := by decide +kernel
theorem d_W_cancel_14 : decode method_7_code 14 = .ok (.ireturn, 1) := by decide +kernel
theorem d_W_cancel_15 : decode method_7_code 15 = .ok (.astore_n 3, 1) := by decide +kernel
theorem d_W_cancel_16 : decode method_7_code 16 = .ok (.iconst 2, 1) := by decide +kernel
theorem d_W_cancel_17 : decode method_7_code 17 = .ok (.ireturn, 1) := by decide +kernel
theorem d_W_cancel_18 : decode method_7_code 18 = .ok (.iconst 0, 1) := by decide +kernel
theorem d_W_cancel_19 : decode method_7_code 19 = .ok (.ireturn, 1) := by decide +kernel
abbrev y_W_prepare : MethodName := ⟨"LockTableLaw", "prepare", "(LLockTable;I[J)I"⟩
theorem hd_W_prepare : y_W_prepare.cls ≠ "java/lang/invoke/MethodHandle" ∧ y_W_prepare.cls ≠ "java/lang/invoke/VarHandle" ∧ (parseMethodDescriptor y_W_prepare.desc).map (fun d => d.parameters.length) = some 3 := ⟨by decide, by decide, by decide +kernel⟩
theorem d_W_prepare_0 : decode method_8_code 0 = .ok (.aload_n 2, 1) := by decide +kernel
theorem d_W_prepare_1 : decode method_8_code 1 = .ok (.iconst 0, 1) := by decide +kernel
theorem d_W_prepare_2 : decode method_8_code 2 = .ok (.aload_n 0, 1) := by decide +kernel
theorem d_W_prepare_3 : decode method_8_code 3 = .ok (.iload_n 1, 1) := by decide +kernel
theorem d_W_prepare_4 : decode method_8_code 4 = .ok (.invokevirtual 34, 3) := by decide +kernel
theorem d_W_prepare_7 : decode method_8_code 7 = .ok (.i2l, 1) := by decide +kernel
theorem d_W_prepare_8 : decode method_8_code 8 = .ok (.lastore, 1) := by decide +kernel
theorem d_W_prepare_9 : decode method_8_code 9 = .ok (.goto 9, 3) := by decide +kernel
theorem d_W_prepare_12 : decode method_8_code 12 = .ok (.astore_n 3, 1) := by decide +kernel
theorem d_W_prepare_13 : decode method_8_code 13 = .ok (.iconst 1, 1) := by decide +kernel
theorem d_W_prepare_14 : decode method_8_code 14 = .ok (.ireturn, 1) := by decide +kernel
theorem d_W_prepare_15 : decode method_8_code 15 = .ok (.astore_n 3, 1) := by decide +kernel
theorem d_W_prepare_16 : decode method_8_code 16 = .ok (.iconst 2, 1) := by decide +kernel
theorem d_W_prepare_17 : decode method_8_code 17 = .ok (.ireturn, 1) := by decide +kernel
theorem d_W_prepare_18 : decode method_8_code 18 = .ok (.iconst 0, 1) := by decide +kernel
theorem d_W_prepare_19 : decode method_8_code 19 = .ok (.ireturn, 1) := by decide +kernel
abbrev y_W_unread : MethodName := ⟨"LockTableLaw", "unread", "(LLockTable;I[J)I"⟩
theorem hd_W_unread : y_W_unread.cls ≠ "java/lang/invoke/MethodHandle" ∧ y_W_unread.cls ≠ "java/lang/invoke/VarHandle" ∧ (parseMethodDescriptor y_W_unread.desc).map (fun d => d.parameters.length) = some 3 := ⟨by decide, by decide, by decide +kernel⟩
theorem d_W_unread_0 : decode method_9_code 0 = .ok (.aload_n 2, 1) := by decide +kernel
theorem d_W_unread_1 : decode method_9_code 1 = .ok (.iconst 0, 1) := by decide +kernel
theorem d_W_unread_2 : decode method_9_code 2 = .ok (.aload_n 0, 1) := by decide +kernel
theorem d_W_unread_3 : decode method_9_code 3 = .ok (.iload_n 1, 1) := by decide +kernel
theorem d_W_unread_4 : decode method_9_code 4 = .ok (.invokevirtual 37, 3) := by decide +kernel
theorem d_W_unread_7 : decode method_9_code 7 = .ok (.i2l, 1) := by decide +kernel
theorem d_W_unread_8 : decode method_9_code 8 = .ok (.lastore, 1) := by decide +kernel
theorem d_W_unread_9 : decode method_9_code 9 = .ok (.goto 9, 3) := by decide +kernel
theorem d_W_unread_12 : decode method_9_code 12 = .ok (.astore_n 3, 1) := by decide +kernel
theorem d_W_unread_13 : decode method_9_code 13 = .ok (.iconst 1, 1) := by decide +kernel
theorem d_W_unread_14 : decode method_9_code 14 = .ok (.ireturn, 1) := by decide +kernel
theorem d_W_unread_15 : decode method_9_code 15 = .ok (.astore_n 3, 1) := by decide +kernel
theorem d_W_unread_16 : decode method_9_code 16 = .ok (.iconst 2, 1) := by decide +kernel
theorem d_W_unread_17 : decode method_9_code 17 = .ok (.ireturn, 1) := by decide +kernel
theorem d_W_unread_18 : decode method_9_code 18 = .ok (.iconst 0, 1) := by decide +kernel
theorem d_W_unread_19 : decode method_9_code 19 = .ok (.ireturn, 1) := by decide +kernel
abbrev y_W_end : MethodName := ⟨"LockTableLaw", "end", "(LLockTable;I[J)I"⟩
theorem hd_W_end : y_W_end.cls ≠ "java/lang/invoke/MethodHandle" ∧ y_W_end.cls ≠ "java/lang/invoke/VarHandle" ∧ (parseMethodDescriptor y_W_end.desc).map (fun d => d.parameters.length) = some 3 := ⟨by decide, by decide, by decide +kernel⟩
theorem d_W_end_0 : decode method_10_code 0 = .ok (.aload_n 2, 1) := by decide +kernel
theorem d_W_end_1 : decode method_10_code 1 = .ok (.iconst 0, 1) := by decide +kernel
theorem d_W_end_2 : decode method_10_code 2 = .ok (.aload_n 0, 1) := by decide +kernel
theorem d_W_end_3 : decode method_10_code 3 = .ok (.iload_n 1, 1) := by decide +kernel
theorem d_W_end_4 : decode method_10_code 4 = .ok (.invokevirtual 40, 3) := by decide +kernel
theorem d_W_end_7 : decode method_10_code 7 = .ok (.i2l, 1) := by decide +kernel
theorem d_W_end_8 : decode method_10_code 8 = .ok (.lastore, 1) := by decide +kernel
theorem d_W_end_9 : decode method_10_code 9 = .ok (.goto 9, 3) := by decide +kernel
theorem d_W_end_12 : decode method_10_code 12 = .ok (.astore_n 3, 1) := by decide +kernel
theorem d_W_end_13 : decode method_10_code 13 = .ok (.iconst 1, 1) := by decide +kernel
theorem d_W_end_14 : decode method_10_code 14 = .ok (.ireturn, 1) := by decide +kernel
theorem d_W_end_15 : decode method_10_code 15 = .ok (.astore_n 3, 1) := by decide +kernel
theorem d_W_end_16 : decode method_10_code 16 = .ok (.iconst 2, 1) := by decide +kernel
theorem d_W_end_17 : decode method_10_code 17 = .ok (.ireturn, 1) := by decide +kernel
theorem d_W_end_18 : decode method_10_code 18 = .ok (.iconst 0, 1) := by decide +kernel
theorem d_W_end_19 : decode method_10_code 19 = .ok (.ireturn, 1) := by decide +kernel
abbrev y_W_limit : MethodName := ⟨"LockTableLaw", "limit", "(LLockTable;I)I"⟩
theorem hd_W_limit : y_W_limit.cls ≠ "java/lang/invoke/MethodHandle" ∧ y_W_limit.cls ≠ "java/lang/invoke/VarHandle" ∧ (parseMethodDescriptor y_W_limit.desc).map (fun d => d.parameters.length) = some 2 := ⟨by decide, by decide, by decide +kernel⟩
theorem d_W_limit_0 : decode method_11_code 0 = .ok (.aload_n 0, 1) := by decide +kernel
theorem d_W_limit_1 : decode method_11_code 1 = .ok (.iload_n 1, 1) := by decide +kernel
theorem d_W_limit_2 : decode method_11_code 2 = .ok (.invokevirtual 43, 3) := by decide +kernel
theorem d_W_limit_5 : decode method_11_code 5 = .ok (.goto 6, 3) := by decide +kernel
theorem d_W_limit_8 : decode method_11_code 8 = .ok (.astore_n 2, 1) := by decide +kernel
theorem d_W_limit_9 : decode method_11_code 9 = .ok (.iconst 1, 1) := by decide +kernel
theorem d_W_limit_10 : decode method_11_code 10 = .ok (.ireturn, 1) := by decide +kernel
theorem d_W_limit_11 : decode method_11_code 11 = .ok (.iconst 0, 1) := by decide +kernel
theorem d_W_limit_12 : decode method_11_code 12 = .ok (.ireturn, 1) := by decide +kernel
abbrev y_W_tick : MethodName := ⟨"LockTableLaw", "tick", "(LLockTable;I[J)I"⟩
theorem hd_W_tick : y_W_tick.cls ≠ "java/lang/invoke/MethodHandle" ∧ y_W_tick.cls ≠ "java/lang/invoke/VarHandle" ∧ (parseMethodDescriptor y_W_tick.desc).map (fun d => d.parameters.length) = some 3 := ⟨by decide, by decide, by decide +kernel⟩
theorem d_W_tick_0 : decode method_12_code 0 = .ok (.aload_n 2, 1) := by decide +kernel
theorem d_W_tick_1 : decode method_12_code 1 = .ok (.iconst 0, 1) := by decide +kernel
theorem d_W_tick_2 : decode method_12_code 2 = .ok (.aload_n 0, 1) := by decide +kernel
theorem d_W_tick_3 : decode method_12_code 3 = .ok (.iload_n 1, 1) := by decide +kernel
theorem d_W_tick_4 : decode method_12_code 4 = .ok (.invokevirtual 47, 3) := by decide +kernel
theorem d_W_tick_7 : decode method_12_code 7 = .ok (.i2l, 1) := by decide +kernel
theorem d_W_tick_8 : decode method_12_code 8 = .ok (.lastore, 1) := by decide +kernel
theorem d_W_tick_9 : decode method_12_code 9 = .ok (.goto 6, 3) := by decide +kernel
theorem d_W_tick_12 : decode method_12_code 12 = .ok (.astore_n 3, 1) := by decide +kernel
theorem d_W_tick_13 : decode method_12_code 13 = .ok (.iconst 1, 1) := by decide +kernel
theorem d_W_tick_14 : decode method_12_code 14 = .ok (.ireturn, 1) := by decide +kernel
theorem d_W_tick_15 : decode method_12_code 15 = .ok (.iconst 0, 1) := by decide +kernel
theorem d_W_tick_16 : decode method_12_code 16 = .ok (.ireturn, 1) := by decide +kernel
abbrev y_W_state : MethodName := ⟨"LockTableLaw", "state", "(LLockTable;I[J)I"⟩
theorem hd_W_state : y_W_state.cls ≠ "java/lang/invoke/MethodHandle" ∧ y_W_state.cls ≠ "java/lang/invoke/VarHandle" ∧ (parseMethodDescriptor y_W_state.desc).map (fun d => d.parameters.length) = some 3 := ⟨by decide, by decide, by decide +kernel⟩
theorem d_W_state_0 : decode method_13_code 0 = .ok (.aload_n 2, 1) := by decide +kernel
theorem d_W_state_1 : decode method_13_code 1 = .ok (.iconst 0, 1) := by decide +kernel
theorem d_W_state_2 : decode method_13_code 2 = .ok (.aload_n 0, 1) := by decide +kernel
theorem d_W_state_3 : decode method_13_code 3 = .ok (.iload_n 1, 1) := by decide +kernel
theorem d_W_state_4 : decode method_13_code 4 = .ok (.invokevirtual 50, 3) := by decide +kernel
theorem d_W_state_7 : decode method_13_code 7 = .ok (.i2l, 1) := by decide +kernel
theorem d_W_state_8 : decode method_13_code 8 = .ok (.lastore, 1) := by decide +kernel
theorem d_W_state_9 : decode method_13_code 9 = .ok (.goto 6, 3) := by decide +kernel
theorem d_W_state_12 : decode method_13_code 12 = .ok (.astore_n 3, 1) := by decide +kernel
theorem d_W_state_13 : decode method_13_code 13 = .ok (.iconst 1, 1) := by decide +kernel
theorem d_W_state_14 : decode method_13_code 14 = .ok (.ireturn, 1) := by decide +kernel
theorem d_W_state_15 : decode method_13_code 15 = .ok (.iconst 0, 1) := by decide +kernel
theorem d_W_state_16 : decode method_13_code 16 = .ok (.ireturn, 1) := by decide +kernel
abbrev y_W_serial : MethodName := ⟨"LockTableLaw", "serial", "(LLockTable;I[J)I"⟩
theorem hd_W_serial : y_W_serial.cls ≠ "java/lang/invoke/MethodHandle" ∧ y_W_serial.cls ≠ "java/lang/invoke/VarHandle" ∧ (parseMethodDescriptor y_W_serial.desc).map (fun d => d.parameters.length) = some 3 := ⟨by decide, by decide, by decide +kernel⟩
theorem d_W_serial_0 : decode method_14_code 0 = .ok (.aload_n 2, 1) := by decide +kernel
theorem d_W_serial_1 : decode method_14_code 1 = .ok (.iconst 0, 1) := by decide +kernel
theorem d_W_serial_2 : decode method_14_code 2 = .ok (.aload_n 0, 1) := by decide +kernel
theorem d_W_serial_3 : decode method_14_code 3 = .ok (.iload_n 1, 1) := by decide +kernel
theorem d_W_serial_4 : decode method_14_code 4 = .ok (.invokevirtual 53, 3) := by decide +kernel
theorem d_W_serial_7 : decode method_14_code 7 = .ok (.i2l, 1) := by decide +kernel
theorem d_W_serial_8 : decode method_14_code 8 = .ok (.lastore, 1) := by decide +kernel
theorem d_W_serial_9 : decode method_14_code 9 = .ok (.goto 6, 3) := by decide +kernel
theorem d_W_serial_12 : decode method_14_code 12 = .ok (.astore_n 3, 1) := by decide +kernel
theorem d_W_serial_13 : decode method_14_code 13 = .ok (.iconst 1, 1) := by decide +kernel
theorem d_W_serial_14 : decode method_14_code 14 = .ok (.ireturn, 1) := by decide +kernel
theorem d_W_serial_15 : decode method_14_code 15 = .ok (.iconst 0, 1) := by decide +kernel
theorem d_W_serial_16 : decode method_14_code 16 = .ok (.ireturn, 1) := by decide +kernel
abbrev y_W_ranges : MethodName := ⟨"LockTableLaw", "ranges", "(LLockTable;II[J)I"⟩
theorem hd_W_ranges : y_W_ranges.cls ≠ "java/lang/invoke/MethodHandle" ∧ y_W_ranges.cls ≠ "java/lang/invoke/VarHandle" ∧ (parseMethodDescriptor y_W_ranges.desc).map (fun d => d.parameters.length) = some 4 := ⟨by decide, by decide, by decide +kernel⟩
theorem d_W_ranges_0 : decode method_15_code 0 = .ok (.aload_n 3, 1) := by decide +kernel
theorem d_W_ranges_1 : decode method_15_code 1 = .ok (.iconst 0, 1) := by decide +kernel
theorem d_W_ranges_2 : decode method_15_code 2 = .ok (.aload_n 0, 1) := by decide +kernel
theorem d_W_ranges_3 : decode method_15_code 3 = .ok (.iload_n 1, 1) := by decide +kernel
theorem d_W_ranges_4 : decode method_15_code 4 = .ok (.iload_n 2, 1) := by decide +kernel
theorem d_W_ranges_5 : decode method_15_code 5 = .ok (.invokevirtual 56, 3) := by decide +kernel
theorem d_W_ranges_8 : decode method_15_code 8 = .ok (.i2l, 1) := by decide +kernel
theorem d_W_ranges_9 : decode method_15_code 9 = .ok (.lastore, 1) := by decide +kernel
theorem d_W_ranges_10 : decode method_15_code 10 = .ok (.goto 7, 3) := by decide +kernel
theorem d_W_ranges_13 : decode method_15_code 13 = .ok (.astore 4, 2) := by decide +kernel
theorem d_W_ranges_15 : decode method_15_code 15 = .ok (.iconst 1, 1) := by decide +kernel
theorem d_W_ranges_16 : decode method_15_code 16 = .ok (.ireturn, 1) := by decide +kernel
theorem d_W_ranges_17 : decode method_15_code 17 = .ok (.iconst 0, 1) := by decide +kernel
theorem d_W_ranges_18 : decode method_15_code 18 = .ok (.ireturn, 1) := by decide +kernel
abbrev y_W_mode : MethodName := ⟨"LockTableLaw", "mode", "(LLockTable;II[J)I"⟩
theorem hd_W_mode : y_W_mode.cls ≠ "java/lang/invoke/MethodHandle" ∧ y_W_mode.cls ≠ "java/lang/invoke/VarHandle" ∧ (parseMethodDescriptor y_W_mode.desc).map (fun d => d.parameters.length) = some 4 := ⟨by decide, by decide, by decide +kernel⟩
theorem d_W_mode_0 : decode method_16_code 0 = .ok (.aload_n 3, 1) := by decide +kernel
theorem d_W_mode_1 : decode method_16_code 1 = .ok (.iconst 0, 1) := by decide +kernel
theorem d_W_mode_2 : decode method_16_code 2 = .ok (.aload_n 0, 1) := by decide +kernel
theorem d_W_mode_3 : decode method_16_code 3 = .ok (.iload_n 1, 1) := by decide +kernel
theorem d_W_mode_4 : decode method_16_code 4 = .ok (.iload_n 2, 1) := by decide +kernel
theorem d_W_mode_5 : decode method_16_code 5 = .ok (.invokevirtual 59, 3) := by decide +kernel
theorem d_W_mode_8 : decode method_16_code 8 = .ok (.i2l, 1) := by decide +kernel
theorem d_W_mode_9 : decode method_16_code 9 = .ok (.lastore, 1) := by decide +kernel
theorem d_W_mode_10 : decode method_16_code 10 = .ok (.goto 7, 3) := by decide +kernel
theorem d_W_mode_13 : decode method_16_code 13 = .ok (.astore 4, 2) := by decide +kernel
theorem d_W_mode_15 : decode method_16_code 15 = .ok (.iconst 1, 1) := by decide +kernel
theorem d_W_mode_16 : decode method_16_code 16 = .ok (.ireturn, 1) := by decide +kernel
theorem d_W_mode_17 : decode method_16_code 17 = .ok (.iconst 0, 1) := by decide +kernel
theorem d_W_mode_18 : decode method_16_code 18 = .ok (.ireturn, 1) := by decide +kernel
abbrev y_W_right : MethodName := ⟨"LockTableLaw", "right", "(LLockTable;IIJ[J)I"⟩
theorem hd_W_right : y_W_right.cls ≠ "java/lang/invoke/MethodHandle" ∧ y_W_right.cls ≠ "java/lang/invoke/VarHandle" ∧ (parseMethodDescriptor y_W_right.desc).map (fun d => d.parameters.length) = some 5 := ⟨by decide, by decide, by decide +kernel⟩
theorem d_W_right_0 : decode method_17_code 0 = .ok (.aload 5, 2) := by decide +kernel
theorem d_W_right_2 : decode method_17_code 2 = .ok (.iconst 0, 1) := by decide +kernel
theorem d_W_right_3 : decode method_17_code 3 = .ok (.aload_n 0, 1) := by decide +kernel
theorem d_W_right_4 : decode method_17_code 4 = .ok (.iload_n 1, 1) := by decide +kernel
theorem d_W_right_5 : decode method_17_code 5 = .ok (.iload_n 2, 1) := by decide +kernel
theorem d_W_right_6 : decode method_17_code 6 = .ok (.lload_n 3, 1) := by decide +kernel
theorem d_W_right_7 : decode method_17_code 7 = .ok (.invokevirtual 62, 3) := by decide +kernel
theorem d_W_right_10 : decode method_17_code 10 = .ok (.i2l, 1) := by decide +kernel
theorem d_W_right_11 : decode method_17_code 11 = .ok (.lastore, 1) := by decide +kernel
theorem d_W_right_12 : decode method_17_code 12 = .ok (.goto 7, 3) := by decide +kernel
theorem d_W_right_15 : decode method_17_code 15 = .ok (.astore 6, 2) := by decide +kernel
theorem d_W_right_17 : decode method_17_code 17 = .ok (.iconst 1, 1) := by decide +kernel
theorem d_W_right_18 : decode method_17_code 18 = .ok (.ireturn, 1) := by decide +kernel
theorem d_W_right_19 : decode method_17_code 19 = .ok (.iconst 0, 1) := by decide +kernel
theorem d_W_right_20 : decode method_17_code 20 = .ok (.ireturn, 1) := by decide +kernel
abbrev y_W_wants : MethodName := ⟨"LockTableLaw", "wants", "(LLockTable;II[J)I"⟩
theorem hd_W_wants : y_W_wants.cls ≠ "java/lang/invoke/MethodHandle" ∧ y_W_wants.cls ≠ "java/lang/invoke/VarHandle" ∧ (parseMethodDescriptor y_W_wants.desc).map (fun d => d.parameters.length) = some 4 := ⟨by decide, by decide, by decide +kernel⟩
theorem d_W_wants_0 : decode method_18_code 0 = .ok (.aload_n 3, 1) := by decide +kernel
theorem d_W_wants_1 : decode method_18_code 1 = .ok (.iconst 0, 1) := by decide +kernel
theorem d_W_wants_2 : decode method_18_code 2 = .ok (.aload_n 0, 1) := by decide +kernel
theorem d_W_wants_3 : decode method_18_code 3 = .ok (.iload_n 1, 1) := by decide +kernel
theorem d_W_wants_4 : decode method_18_code 4 = .ok (.iload_n 2, 1) := by decide +kernel
theorem d_W_wants_5 : decode method_18_code 5 = .ok (.invokevirtual 66, 3) := by decide +kernel
theorem d_W_wants_8 : decode method_18_code 8 = .ok (.i2l, 1) := by decide +kernel
theorem d_W_wants_9 : decode method_18_code 9 = .ok (.lastore, 1) := by decide +kernel
theorem d_W_wants_10 : decode method_18_code 10 = .ok (.goto 11, 3) := by decide +kernel
theorem d_W_wants_13 : decode method_18_code 13 = .ok (.astore 4, 2) := by decide +kernel
theorem d_W_wants_15 : decode method_18_code 15 = .ok (.iconst 1, 1) := by decide +kernel
theorem d_W_wants_16 : decode method_18_code 16 = .ok (.ireturn, 1) := by decide +kernel
theorem d_W_wants_17 : decode method_18_code 17 = .ok (.astore 4, 2) := by decide +kernel
theorem d_W_wants_19 : decode method_18_code 19 = .ok (.iconst 2, 1) := by decide +kernel
theorem d_W_wants_20 : decode method_18_code 20 = .ok (.ireturn, 1) := by decide +kernel
theorem d_W_wants_21 : decode method_18_code 21 = .ok (.iconst 0, 1) := by decide +kernel
theorem d_W_wants_22 : decode method_18_code 22 = .ok (.ireturn, 1) := by decide +kernel
abbrev y_W_behind : MethodName := ⟨"LockTableLaw", "behind", "(LLockTable;I[J)I"⟩
theorem hd_W_behind : y_W_behind.cls ≠ "java/lang/invoke/MethodHandle" ∧ y_W_behind.cls ≠ "java/lang/invoke/VarHandle" ∧ (parseMethodDescriptor y_W_behind.desc).map (fun d => d.parameters.length) = some 3 := ⟨by decide, by decide, by decide +kernel⟩
theorem d_W_behind_0 : decode method_19_code 0 = .ok (.aload_n 2, 1) := by decide +kernel
theorem d_W_behind_1 : decode method_19_code 1 = .ok (.iconst 0, 1) := by decide +kernel
theorem d_W_behind_2 : decode method_19_code 2 = .ok (.aload_n 0, 1) := by decide +kernel
theorem d_W_behind_3 : decode method_19_code 3 = .ok (.iload_n 1, 1) := by decide +kernel
theorem d_W_behind_4 : decode method_19_code 4 = .ok (.invokevirtual 69, 3) := by decide +kernel
theorem d_W_behind_7 : decode method_19_code 7 = .ok (.i2l, 1) := by decide +kernel
theorem d_W_behind_8 : decode method_19_code 8 = .ok (.lastore, 1) := by decide +kernel
theorem d_W_behind_9 : decode method_19_code 9 = .ok (.goto 6, 3) := by decide +kernel
theorem d_W_behind_12 : decode method_19_code 12 = .ok (.astore_n 3, 1) := by decide +kernel
theorem d_W_behind_13 : decode method_19_code 13 = .ok (.iconst 1, 1) := by decide +kernel
theorem d_W_behind_14 : decode method_19_code 14 = .ok (.ireturn, 1) := by decide +kernel
theorem d_W_behind_15 : decode method_19_code 15 = .ok (.iconst 0, 1) := by decide +kernel
theorem d_W_behind_16 : decode method_19_code 16 = .ok (.ireturn, 1) := by decide +kernel
abbrev y_W_join : MethodName := ⟨"LockTableLaw", "join", "(LLockTable;II[J)I"⟩
theorem hd_W_join : y_W_join.cls ≠ "java/lang/invoke/MethodHandle" ∧ y_W_join.cls ≠ "java/lang/invoke/VarHandle" ∧ (parseMethodDescriptor y_W_join.desc).map (fun d => d.parameters.length) = some 4 := ⟨by decide, by decide, by decide +kernel⟩
theorem d_W_join_0 : decode method_20_code 0 = .ok (.aload_n 3, 1) := by decide +kernel
theorem d_W_join_1 : decode method_20_code 1 = .ok (.iconst 0, 1) := by decide +kernel
theorem d_W_join_2 : decode method_20_code 2 = .ok (.aload_n 0, 1) := by decide +kernel
theorem d_W_join_3 : decode method_20_code 3 = .ok (.iload_n 1, 1) := by decide +kernel
theorem d_W_join_4 : decode method_20_code 4 = .ok (.iload_n 2, 1) := by decide +kernel
theorem d_W_join_5 : decode method_20_code 5 = .ok (.invokevirtual 72, 3) := by decide +kernel
theorem d_W_join_8 : decode method_20_code 8 = .ok (.i2l, 1) := by decide +kernel
theorem d_W_join_9 : decode method_20_code 9 = .ok (.lastore, 1) := by decide +kernel
theorem d_W_join_10 : decode method_20_code 10 = .ok (.goto 7, 3) := by decide +kernel
theorem d_W_join_13 : decode method_20_code 13 = .ok (.astore 4, 2) := by decide +kernel
theorem d_W_join_15 : decode method_20_code 15 = .ok (.iconst 1, 1) := by decide +kernel
theorem d_W_join_16 : decode method_20_code 16 = .ok (.ireturn, 1) := by decide +kernel
theorem d_W_join_17 : decode method_20_code 17 = .ok (.iconst 0, 1) := by decide +kernel
theorem d_W_join_18 : decode method_20_code 18 = .ok (.ireturn, 1) := by decide +kernel
set_option maxHeartbeats 4000000 in
set_option maxRecDepth 100000 in
theorem c_W_begin (l : Launch) (hlt : l.stackTraces = false) (g : va_G) (cI cJ cZ : ClassId) (ad : Nat → Nat) (xst : Nat → Int32) (xse : Nat → Int32) (xre : Nat → Int32) (xgr : Nat → Int32) (ltm : Nat → Int32) (low : Nat → Int32) (lta : Nat → Int32) (llo : Nat → Int64) (lhi : Nat → Int64) (lmo : Nat → Int32) (rta : Nat → Int32) (ron : Nat → Int32) (rlo : Nat → Int64) (rhi : Nat → Int64) (rmo : Nat → Int32) (rin : Nat → Int32) (res : Nat → Int32) (rsi : Nat → Int32) (rli : Nat → Int32) (rar : Nat → Int32) (xgc : Int32) (xca : Int32) (xls : Int32) (xtl : Int32) (xno : Int32) (lco : Int32) (rwa : Int32) (rad : Int32) (ao : Nat) (xo : Nat → Int64) (rest : va_W) (a1 : Int32) (kx : Nat) (r : Int32) (o_xst : Nat → Int32) (o_xse : Nat → Int32) (o_xgc : Int32) (o_xca : Int32) (o_xls : Int32) (hk : kx ≤ 2) (hG : F_T_begin xst xse xgc xca xls a1 = some (kx, r, o_xst, o_xse, o_xgc, o_xca, o_xls)) : Cw l y_W_begin method_3_code 4 [(0, 9, 12, 13), (0, 9, 15, 15)] ({ frames := 8, cells := 1, slots := 6, locals := 131 }) [.ref (ad 0), .int a1, .ref ao] g (kty cI cJ cZ) (wC cI cJ cZ ad xst xse xre xgr ltm low lta llo lhi lmo rta ron rlo rhi rmo rin res rsi rli rar xgc xca xls xtl xno lco rwa rad ((ao, .inl (cJ, 1, .inr (.inl xo))) :: rest)) (wC cI cJ cZ ad o_xst o_xse xre xgr ltm low lta llo lhi lmo rta ron rlo rhi rmo rin res rsi rli rar o_xgc o_xca o_xls xtl xno lco rwa rad ((ao, .inl (cJ, 1, .inr (.inl (if kx = 0 then vp_updL xo 0 r.toInt64 else xo)))) :: rest)) (nI kx) := by
  refine Cw.of (by decide) (Nat.le_of_ble_eq_true rfl) ?_
  intro p e s m below meth c A ls htab K hP hD hS hl
  obtain ⟨hx, hb, hr, hml, hown, hts, hlocks, hK, hA, hE⟩ := id K
  have hown : s.vm.findClass "LockTableLaw" = some m.cls := hown
  have K : kX p s m _ meth c "LockTableLaw" method_3_code 4 (some .int) A g (kty cI cJ cZ) := K
  have hl : lv_has ls 4 [(0, .ref (ad 0)), (1, .int a1), (2, .ref ao)] := hl
  refine lv_aload_n hx hb d_W_begin_0 rfl (lv_at hl 2 rfl) ?_
  refine lv_iconst (v := 0) hx hb d_W_begin_1 (by decide) ?_
  refine lv_aload_n hx hb d_W_begin_2 rfl (lv_at hl 0 rfl) ?_
  refine lv_iload_n hx hb d_W_begin_3 rfl (lv_at hl 1 rfl) ?_
  by_cases hk0 : kx = 0
  · subst hk0
    refine kci K hP hD hS (c_T_begin l hlt g cI cJ cZ ad xst xse xre xgr ltm low lta llo lhi lmo rta ron rlo rhi rmo rin res rsi rli rar xgc xca xls xtl xno lco rwa rad ((ao, .inl (cJ, 1, .inr (.inl xo))) :: rest) a1 r o_xst o_xse o_xgc o_xca o_xls hG) wm_214 wm_211 wm_212 wm_213 wm_46 hd_T_begin rfl rfl ⟨Nat.le_of_ble_eq_true rfl, Nat.le_of_ble_eq_true rfl⟩ ⟨Nat.zero_le _, Nat.zero_le _⟩ 2 0 rfl rfl rfl hl.1 (rest := [.int 0, .ref ao]) rfl (Nat.le_of_ble_eq_true rfl) d_W_begin_4 (fun H locs hP hD hS => ?_)
    refine lv_i2l (v := r.toInt64) hx hb d_W_begin_7 rfl ?_
    refine va_last hx hb hK hP hD hS 23 1 rfl rfl vp_in01 d_W_begin_8 (fun H locs hP hD hS => ?_)
    have hP : va_P g kcl (wC cI cJ cZ ad o_xst o_xse xre xgr ltm low lta llo lhi lmo rta ron rlo rhi rmo rin res rsi rli rar o_xgc o_xca o_xls xtl xno lco rwa rad ((ao, .inl (cJ, 1, .inr (.inl (if 0 = 0 then vp_updL xo 0 r.toInt64 else xo)))) :: rest)) H := hP
    have hD : va_D A (wC cI cJ cZ ad o_xst o_xse xre xgr ltm low lta llo lhi lmo rta ron rlo rhi rmo rin res rsi rli rar o_xgc o_xca o_xls xtl xno lco rwa rad ((ao, .inl (cJ, 1, .inr (.inl (if 0 = 0 then vp_updL xo 0 r.toInt64 else xo)))) :: rest)) := hD
    refine lv_goto (tgt := 18) hx hb d_W_begin_9 (by decide) ?_
    refine lv_iconst (v := 0) hx hb d_W_begin_18 (by decide) ?_
    refine W.widen (k := 1) (n := 6) (by decide) (by decide) ?_
    exact kri K hP hD hS d_W_begin_19 nI_0.symm
  · refine kxv K hP hD hS (cx_T_begin l hlt g cI cJ cZ ad xst xse xre xgr ltm low lta llo lhi lmo rta ron rlo rhi rmo rin res rsi rli rar xgc xca xls xtl xno lco rwa rad ((ao, .inl (cJ, 1, .inr (.inl xo))) :: rest) a1 kx r o_xst o_xse o_xgc o_xca o_xls hk0 hG) wm_214 wm_211 wm_212 wm_213 wm_46 hd_T_begin rfl rfl ⟨Nat.le_of_ble_eq_true rfl, Nat.le_of_ble_eq_true rfl⟩ ⟨Nat.le_of_ble_eq_true rfl, Nat.le_of_ble_eq_true rfl⟩ 2 0 rfl rfl rfl hl.1 (rest := [.int 0, .ref ao]) rfl (Nat.le_of_ble_eq_true rfl) d_W_begin_4 (fun ce q9 H locs hP hD hS hce hcv hcl => ?_)
    have e9 : (if kx = 0 then vp_updL xo 0 r.toInt64 else xo) = xo := if_neg hk0
    rcases (show kx = 1 ∨ kx = 2 by omega) with rfl | rfl
    · refine kcat (kx := 1) (name := "java/lang/IllegalArgumentException") K [] ⟨0, 9, 12, 13⟩ [⟨0, 9, 15, 15⟩] (by rw [htab]; rfl) (fun z hz => absurd hz List.not_mem_nil) (by decide) (by decide) wm_209 (by decide) hce hcv hcl ?_
      refine lv_astore_n (lv' := [(3, .ref q9), (0, .ref (ad 0)), (1, .int a1), (2, .ref ao)]) hx hb d_W_begin_12 rfl hl (by decide) rfl (fun ls hl => ?_)
      refine lv_iconst (v := 1) hx hb d_W_begin_13 (by decide) ?_
      rw [e9]
      exact kri K hP hD hS d_W_begin_14 (by decide)
    · refine kcat (kx := 2) (name := "java/lang/IllegalStateException") K [⟨0, 9, 12, 13⟩] ⟨0, 9, 15, 15⟩ [] (by rw [htab]; rfl) (fun z hz => by rw [List.mem_singleton.mp hz]; exact ⟨by decide, "java/lang/IllegalArgumentException", wm_209, by decide⟩) (by decide) (by decide) wm_210 (by decide) hce hcv hcl ?_
      refine lv_astore_n (lv' := [(3, .ref q9), (0, .ref (ad 0)), (1, .int a1), (2, .ref ao)]) hx hb d_W_begin_15 rfl hl (by decide) rfl (fun ls hl => ?_)
      refine lv_iconst (v := 2) hx hb d_W_begin_16 (by decide) ?_
      rw [e9]
      exact kri K hP hD hS d_W_begin_17 (by decide)
set_option maxHeartbeats 4000000 in
set_option maxRecDepth 100000 in
theorem c_W_table (l : Launch) (hlt : l.stackTraces = false) (g : va_G) (cI cJ cZ : ClassId) (ad : Nat → Nat) (xst : Nat → Int32) (xse : Nat → Int32) (xre : Nat → Int32) (xgr : Nat → Int32) (ltm : Nat → Int32) (low : Nat → Int32) (lta : Nat → Int32) (llo : Nat → Int64) (lhi : Nat → Int64) (lmo : Nat → Int32) (rta : Nat → Int32) (ron : Nat → Int32) (rlo : Nat → Int64) (rhi : Nat → Int64) (rmo : Nat → Int32) (rin : Nat → Int32) (res : Nat → Int32) (rsi : Nat → Int32) (rli : Nat → Int32) (rar : Nat → Int32) (xgc : Int32) (xca : Int32) (xls : Int32) (xtl : Int32) (xno : Int32) (lco : Int32) (rwa : Int32) (rad : Int32) (ao : Nat) (xo : Nat → Int64) (rest : va_W) (a1 : Int32) (a2 : Int32) (a3 : Int32) (kx : Nat) (r : Int32) (o_xst : Nat → Int32) (o_xre : Nat → Int32) (o_xgr : Nat → Int32) (o_ltm : Nat → Int32) (o_low : Nat → Int32) (o_lta : Nat → Int32) (o_llo : Nat → Int64) (o_lhi : Nat → Int64) (o_lmo : Nat → Int32) (o_rta : Nat → Int32) (o_ron : Nat → Int32) (o_rmo : Nat → Int32) (o_rin : Nat → Int32) (o_res : Nat → Int32) (o_rsi : Nat → Int32) (o_rli : Nat → Int32) (o_rar : Nat → Int32) (o_xgc : Int32) (o_xca : Int32) (o_lco : Int32) (o_rwa : Int32) (o_rad : Int32) (hk : kx ≤ 2) (hG : F_T_table xst xse xre xgr ltm low lta llo lhi lmo rta ron rlo rhi rmo rin res rsi rli rar xgc xca xno lco rwa rad a1 a2 a3 = some (kx, r, o_xst, o_xre, o_xgr, o_ltm, o_low, o_lta, o_llo, o_lhi, o_lmo, o_rta, o_ron, o_rmo, o_rin, o_res, o_rsi, o_rli, o_rar, o_xgc, o_xca, o_lco, o_rwa, o_rad)) : Cw l y_W_table method_4_code 6 [(0, 12, 15, 13), (0, 12, 19, 15)] ({ frames := 8, cells := 1, slots := 6, locals := 168 }) [.ref (ad 0), .int a1, .int a2, .int a3, .ref ao] g (kty cI cJ cZ) (wC cI cJ cZ ad xst xse xre xgr ltm low lta llo lhi lmo rta ron rlo rhi rmo rin res rsi rli rar xgc xca xls xtl xno lco rwa rad ((ao, .inl (cJ, 1, .inr (.inl xo))) :: rest)) (wC cI cJ cZ ad o_xst xse o_xre o_xgr o_ltm o_low o_lta o_llo o_lhi o_lmo o_rta o_ron rlo rhi o_rmo o_rin o_res o_rsi o_rli o_rar o_xgc o_xca xls xtl xno o_lco o_rwa o_rad ((ao, .inl (cJ, 1, .inr (.inl (if kx = 0 then vp_updL xo 0 r.toInt64 else xo)))) :: rest)) (nI kx) := by
  refine Cw.of (by decide) (Nat.le_of_ble_eq_true rfl) ?_
  intro p e s m below meth c A ls htab K hP hD hS hl
  obtain ⟨hx, hb, hr, hml, hown, hts, hlocks, hK, hA, hE⟩ := id K
  have hown : s.vm.findClass "LockTableLaw" = some m.cls := hown
  have K : kX p s m _ meth c "LockTableLaw" method_4_code 6 (some .int) A g (kty cI cJ cZ) := K
  have hl : lv_has ls 6 [(0, .ref (ad 0)), (1, .int a1), (2, .int a2), (3, .int a3), (4, .ref ao)] := hl
  refine lv_aload hx hb d_W_table_0 (lv_at hl 4 rfl) ?_
  refine lv_iconst (v := 0) hx hb d_W_table_2 (by decide) ?_
  refine lv_aload_n hx hb d_W_table_3 rfl (lv_at hl 0 rfl) ?_
  refine lv_iload_n hx hb d_W_table_4 rfl (lv_at hl 1 rfl) ?_
  refine lv_iload_n hx hb d_W_table_5 rfl (lv_at hl 2 rfl) ?_
  refine lv_iload_n hx hb d_W_table_6 rfl (lv_at hl 3 rfl) ?_
  by_cases hk0 : kx = 0
  · subst hk0
    refine kci K hP hD hS (c_T_table l hlt g cI cJ cZ ad xst xse xre xgr ltm low lta llo lhi lmo rta ron rlo rhi rmo rin res rsi rli rar xgc xca xls xtl xno lco rwa rad ((ao, .inl (cJ, 1, .inr (.inl xo))) :: rest) a1 a2 a3 r o_xst o_xre o_xgr o_ltm o_low o_lta o_llo o_lhi o_lmo o_rta o_ron o_rmo o_rin o_res o_rsi o_rli o_rar o_xgc o_xca o_lco o_rwa o_rad hG) wm_312 wm_309 wm_310 wm_311 wm_46 hd_T_table rfl rfl ⟨Nat.le_of_ble_eq_true rfl, Nat.le_of_ble_eq_true rfl⟩ ⟨Nat.zero_le _, Nat.zero_le _⟩ 2 0 rfl rfl rfl hl.1 (rest := [.int 0, .ref ao]) rfl (Nat.le_of_ble_eq_true rfl) d_W_table_7 (fun H locs hP hD hS => ?_)
    refine lv_i2l (v := r.toInt64) hx hb d_W_table_10 rfl ?_
    refine va_last hx hb hK hP hD hS 23 1 rfl rfl vp_in01 d_W_table_11 (fun H locs hP hD hS => ?_)
    have hP : va_P g kcl (wC cI cJ cZ ad o_xst xse o_xre o_xgr o_ltm o_low o_lta o_llo o_lhi o_lmo o_rta o_ron rlo rhi o_rmo o_rin o_res o_rsi o_rli o_rar o_xgc o_xca xls xtl xno o_lco o_rwa o_rad ((ao, .inl (cJ, 1, .inr (.inl (if 0 = 0 then vp_updL xo 0 r.toInt64 else xo)))) :: rest)) H := hP
    have hD : va_D A (wC cI cJ cZ ad o_xst xse o_xre o_xgr o_ltm o_low o_lta o_llo o_lhi o_lmo o_rta o_ron rlo rhi o_rmo o_rin o_res o_rsi o_rli o_rar o_xgc o_xca xls xtl xno o_lco o_rwa o_rad ((ao, .inl (cJ, 1, .inr (.inl (if 0 = 0 then vp_updL xo 0 r.toInt64 else xo)))) :: rest)) := hD
    refine lv_goto (tgt := 23) hx hb d_W_table_12 (by decide) ?_
    refine lv_iconst (v := 0) hx hb d_W_table_23 (by decide) ?_
    refine W.widen (k := 1) (n := 6) (by decide) (by decide) ?_
    exact kri K hP hD hS d_W_table_24 nI_0.symm
  · refine kxv K hP hD hS (cx_T_table l hlt g cI cJ cZ ad xst xse xre xgr ltm low lta llo lhi lmo rta ron rlo rhi rmo rin res rsi rli rar xgc xca xls xtl xno lco rwa rad ((ao, .inl (cJ, 1, .inr (.inl xo))) :: rest) a1 a2 a3 kx r o_xst o_xre o_xgr o_ltm o_low o_lta o_llo o_lhi o_lmo o_rta o_ron o_rmo o_rin o_res o_rsi o_rli o_rar o_xgc o_xca o_lco o_rwa o_rad hk0 hG) wm_312 wm_309 wm_310 wm_311 wm_46 hd_T_table rfl rfl ⟨Nat.le_of_ble_eq_true rfl, Nat.le_of_ble_eq_true rfl⟩ ⟨Nat.le_of_ble_eq_true rfl, Nat.le_of_ble_eq_true rfl⟩ 2 0 rfl rfl rfl hl.1 (rest := [.int 0, .ref ao]) rfl (Nat.le_of_ble_eq_true rfl) d_W_table_7 (fun ce q9 H locs hP hD hS hce hcv hcl => ?_)
    have e9 : (if kx = 0 then vp_updL xo 0 r.toInt64 else xo) = xo := if_neg hk0
    rcases (show kx = 1 ∨ kx = 2 by omega) with rfl | rfl
    · refine kcat (kx := 1) (name := "java/lang/IllegalArgumentException") K [] ⟨0, 12, 15, 13⟩ [⟨0, 12, 19, 15⟩] (by rw [htab]; rfl) (fun z hz => absurd hz List.not_mem_nil) (by decide) (by decide) wm_209 (by decide) hce hcv hcl ?_
      refine lv_astore (lv' := [(5, .ref q9), (0, .ref (ad 0)), (1, .int a1), (2, .int a2), (3, .int a3), (4, .ref ao)]) hx hb d_W_table_15 hl (by decide) rfl (fun ls hl => ?_)
      refine lv_iconst (v := 1) hx hb d_W_table_17 (by decide) ?_
      rw [e9]
      exact kri K hP hD hS d_W_table_18 (by decide)
    · refine kcat (kx := 2) (name := "java/lang/IllegalStateException") K [⟨0, 12, 15, 13⟩] ⟨0, 12, 19, 15⟩ [] (by rw [htab]; rfl) (fun z hz => by rw [List.mem_singleton.mp hz]; exact ⟨by decide, "java/lang/IllegalArgumentException", wm_209, by decide⟩) (by decide) (by decide) wm_210 (by decide) hce hcv hcl ?_
      refine lv_astore (lv' := [(5, .ref q9), (0, .ref (ad 0)), (1, .int a1), (2, .int a2), (3, .int a3), (4, .ref ao)]) hx hb d_W_table_19 hl (by decide) rfl (fun ls hl => ?_)
      refine lv_iconst (v := 2) hx hb d_W_table_21 (by decide) ?_
      rw [e9]
      exact kri K hP hD hS d_W_table_22 (by decide)
set_option maxHeartbeats 4000000 in
set_option maxRecDepth 100000 in
theorem c_W_range (l : Launch) (hlt : l.stackTraces = false) (g : va_G) (cI cJ cZ : ClassId) (ad : Nat → Nat) (xst : Nat → Int32) (xse : Nat → Int32) (xre : Nat → Int32) (xgr : Nat → Int32) (ltm : Nat → Int32) (low : Nat → Int32) (lta : Nat → Int32) (llo : Nat → Int64) (lhi : Nat → Int64) (lmo : Nat → Int32) (rta : Nat → Int32) (ron : Nat → Int32) (rlo : Nat → Int64) (rhi : Nat → Int64) (rmo : Nat → Int32) (rin : Nat → Int32) (res : Nat → Int32) (rsi : Nat → Int32) (rli : Nat → Int32) (rar : Nat → Int32) (xgc : Int32) (xca : Int32) (xls : Int32) (xtl : Int32) (xno : Int32) (lco : Int32) (rwa : Int32) (rad : Int32) (ao : Nat) (xo : Nat → Int64) (rest : va_W) (a1 : Int32) (a2 : Int32) (a3 : Int64) (a4 : Int64) (a5 : Int32) (kx : Nat) (r : Int32) (o_xst : Nat → Int32) (o_xre : Nat → Int32) (o_xgr : Nat → Int32) (o_ltm : Nat → Int32) (o_low : Nat → Int32) (o_lta : Nat → Int32) (o_llo : Nat → Int64) (o_lhi : Nat → Int64) (o_lmo : Nat → Int32) (o_rta : Nat → Int32) (o_ron : Nat → Int32) (o_rlo : Nat → Int64) (o_rhi : Nat → Int64) (o_rmo : Nat → Int32) (o_rin : Nat → Int32) (o_res : Nat → Int32) (o_rsi : Nat → Int32) (o_rli : Nat → Int32) (o_rar : Nat → Int32) (o_xgc : Int32) (o_xca : Int32) (o_lco : Int32) (o_rwa : Int32) (o_rad : Int32) (hk : kx ≤ 3) (hG : F_T_range xst xse xre xgr ltm low lta llo lhi lmo rta ron rlo rhi rmo rin res rsi rli rar xgc xca xno lco rwa rad a1 a2 a3 a4 a5 = some (kx, r, o_xst, o_xre, o_xgr, o_ltm, o_low, o_lta, o_llo, o_lhi, o_lmo, o_rta, o_ron, o_rlo, o_rhi, o_rmo, o_rin, o_res, o_rsi, o_rli, o_rar, o_xgc, o_xca, o_lco, o_rwa, o_rad)) : Cw l y_W_range method_5_code 10 [(0, 16, 19, 13), (0, 16, 23, 15), (0, 16, 27, 25)] ({ frames := 8, cells := 1, slots := 6, locals := 171 }) [.ref (ad 0), .int a1, .int a2, .long a3, .long a4, .int a5, .ref ao] g (kty cI cJ cZ) (wC cI cJ cZ ad xst xse xre xgr ltm low lta llo lhi lmo rta ron rlo rhi rmo rin res rsi rli rar xgc xca xls xtl xno lco rwa rad ((ao, .inl (cJ, 1, .inr (.inl xo))) :: rest)) (wC cI cJ cZ ad o_xst xse o_xre o_xgr o_ltm o_low o_lta o_llo o_lhi o_lmo o_rta o_ron o_rlo o_rhi o_rmo o_rin o_res o_rsi o_rli o_rar o_xgc o_xca xls xtl xno o_lco o_rwa o_rad ((ao, .inl (cJ, 1, .inr (.inl (if kx = 0 then vp_updL xo 0 r.toInt64 else xo)))) :: rest)) (nI kx) := by
  refine Cw.of (by decide) (Nat.le_of_ble_eq_true rfl) ?_
  intro p e s m below meth c A ls htab K hP hD hS hl
  obtain ⟨hx, hb, hr, hml, hown, hts, hlocks, hK, hA, hE⟩ := id K
  have hown : s.vm.findClass "LockTableLaw" = some m.cls := hown
  have K : kX p s m _ meth c "LockTableLaw" method_5_code 10 (some .int) A g (kty cI cJ cZ) := K
  have hl : lv_has ls 10 [(0, .ref (ad 0)), (1, .int a1), (2, .int a2), (3, .long a3), (5, .long a4), (7, .int a5), (8, .ref ao)] := hl
  refine lv_aload hx hb d_W_range_0 (lv_at hl 6 rfl) ?_
  refine lv_iconst (v := 0) hx hb d_W_range_2 (by decide) ?_
  refine lv_aload_n hx hb d_W_range_3 rfl (lv_at hl 0 rfl) ?_
  refine lv_iload_n hx hb d_W_range_4 rfl (lv_at hl 1 rfl) ?_
  refine lv_iload_n hx hb d_W_range_5 rfl (lv_at hl 2 rfl) ?_
  refine lv_lload_n hx hb d_W_range_6 rfl (lv_at hl 3 rfl) ?_
  refine lv_lload hx hb d_W_range_7 (lv_at hl 4 rfl) ?_
  refine lv_iload hx hb d_W_range_9 (lv_at hl 5 rfl) ?_
  by_cases hk0 : kx = 0
  · subst hk0
    refine kci K hP hD hS (c_T_range l hlt g cI cJ cZ ad xst xse xre xgr ltm low lta llo lhi lmo rta ron rlo rhi rmo rin res rsi rli rar xgc xca xls xtl xno lco rwa rad ((ao, .inl (cJ, 1, .inr (.inl xo))) :: rest) a1 a2 a3 a4 a5 r o_xst o_xre o_xgr o_ltm o_low o_lta o_llo o_lhi o_lmo o_rta o_ron o_rlo o_rhi o_rmo o_rin o_res o_rsi o_rli o_rar o_xgc o_xca o_lco o_rwa o_rad hG) wm_448 wm_445 wm_446 wm_447 wm_46 hd_T_range rfl rfl ⟨Nat.le_of_ble_eq_true rfl, Nat.le_of_ble_eq_true rfl⟩ ⟨Nat.zero_le _, Nat.zero_le _⟩ 2 0 rfl rfl rfl hl.1 (rest := [.int 0, .ref ao]) rfl (Nat.le_of_ble_eq_true rfl) d_W_range_11 (fun H locs hP hD hS => ?_)
    refine lv_i2l (v := r.toInt64) hx hb d_W_range_14 rfl ?_
    refine va_last hx hb hK hP hD hS 23 1 rfl rfl vp_in01 d_W_range_15 (fun H locs hP hD hS => ?_)
    have hP : va_P g kcl (wC cI cJ cZ ad o_xst xse o_xre o_xgr o_ltm o_low o_lta o_llo o_lhi o_lmo o_rta o_ron o_rlo o_rhi o_rmo o_rin o_res o_rsi o_rli o_rar o_xgc o_xca xls xtl xno o_lco o_rwa o_rad ((ao, .inl (cJ, 1, .inr (.inl (if 0 = 0 then vp_updL xo 0 r.toInt64 else xo)))) :: rest)) H := hP
    have hD : va_D A (wC cI cJ cZ ad o_xst xse o_xre o_xgr o_ltm o_low o_lta o_llo o_lhi o_lmo o_rta o_ron o_rlo o_rhi o_rmo o_rin o_res o_rsi o_rli o_rar o_xgc o_xca xls xtl xno o_lco o_rwa o_rad ((ao, .inl (cJ, 1, .inr (.inl (if 0 = 0 then vp_updL xo 0 r.toInt64 else xo)))) :: rest)) := hD
    refine lv_goto (tgt := 31) hx hb d_W_range_16 (by decide) ?_
    refine lv_iconst (v := 0) hx hb d_W_range_31 (by decide) ?_
    refine W.widen (k := 1) (n := 6) (by decide) (by decide) ?_
    exact kri K hP hD hS d_W_range_32 nI_0.symm
  · refine kxv K hP hD hS (cx_T_range l hlt g cI cJ cZ ad xst xse xre xgr ltm low lta llo lhi lmo rta ron rlo rhi rmo rin res rsi rli rar xgc xca xls xtl xno lco rwa rad ((ao, .inl (cJ, 1, .inr (.inl xo))) :: rest) a1 a2 a3 a4 a5 kx r o_xst o_xre o_xgr o_ltm o_low o_lta o_llo o_lhi o_lmo o_rta o_ron o_rlo o_rhi o_rmo o_rin o_res o_rsi o_rli o_rar o_xgc o_xca o_lco o_rwa o_rad hk0 hG) wm_448 wm_445 wm_446 wm_447 wm_46 hd_T_range rfl rfl ⟨Nat.le_of_ble_eq_true rfl, Nat.le_of_ble_eq_true rfl⟩ ⟨Nat.le_of_ble_eq_true rfl, Nat.le_of_ble_eq_true rfl⟩ 2 0 rfl rfl rfl hl.1 (rest := [.int 0, .ref ao]) rfl (Nat.le_of_ble_eq_true rfl) d_W_range_11 (fun ce q9 H locs hP hD hS hce hcv hcl => ?_)
    have e9 : (if kx = 0 then vp_updL xo 0 r.toInt64 else xo) = xo := if_neg hk0
    rcases (show kx = 1 ∨ kx = 2 ∨ kx = 3 by omega) with rfl | rfl | rfl
    · refine kcat (kx := 1) (name := "java/lang/IllegalArgumentException") K [] ⟨0, 16, 19, 13⟩ [⟨0, 16, 23, 15⟩, ⟨0, 16, 27, 25⟩] (by rw [htab]; rfl) (fun z hz => absurd hz List.not_mem_nil) (by decide) (by decide) wm_209 (by decide) hce hcv hcl ?_
      refine lv_astore (lv' := [(9, .ref q9), (0, .ref (ad 0)), (1, .int a1), (2, .int a2), (3, .long a3), (5, .long a4), (7, .int a5), (8, .ref ao)]) hx hb d_W_range_19 hl (by decide) rfl (fun ls hl => ?_)
      refine lv_iconst (v := 1) hx hb d_W_range_21 (by decide) ?_
      rw [e9]
      exact kri K hP hD hS d_W_range_22 (by decide)
    · refine kcat (kx := 2) (name := "java/lang/IllegalStateException") K [⟨0, 16, 19, 13⟩] ⟨0, 16, 23, 15⟩ [⟨0, 16, 27, 25⟩] (by rw [htab]; rfl) (fun z hz => by rw [List.mem_singleton.mp hz]; exact ⟨by decide, "java/lang/IllegalArgumentException", wm_209, by decide⟩) (by decide) (by decide) wm_210 (by decide) hce hcv hcl ?_
      refine lv_astore (lv' := [(9, .ref q9), (0, .ref (ad 0)), (1, .int a1), (2, .int a2), (3, .long a3), (5, .long a4), (7, .int a5), (8, .ref ao)]) hx hb d_W_range_23 hl (by decide) rfl (fun ls hl => ?_)
      refine lv_iconst (v := 2) hx hb d_W_range_25 (by decide) ?_
      rw [e9]
      exact kri K hP hD hS d_W_range_26 (by decide)
    · refine kcat (kx := 3) (name := "java/lang/UnsupportedOperationException") K [⟨0, 16, 19, 13⟩, ⟨0, 16, 23, 15⟩] ⟨0, 16, 27, 25⟩ [] (by rw [htab]; rfl) (fun z hz => by rcases List.mem_cons.mp hz with h | h; (rw [h]; exact ⟨by decide, "java/lang/IllegalArgumentException", wm_209, by decide⟩); (rw [List.mem_singleton.mp h]; exact ⟨by decide, "java/lang/IllegalStateException", wm_210, by decide⟩)) (by decide) (by decide) wm_444 (by decide) hce hcv hcl ?_
      refine lv_astore (lv' := [(9, .ref q9), (0, .ref (ad 0)), (1, .int a1), (2, .int a2), (3, .long a3), (5, .long a4), (7, .int a5), (8, .ref ao)]) hx hb d_W_range_27 hl (by decide) rfl (fun ls hl => ?_)
      refine lv_iconst (v := 3) hx hb d_W_range_29 (by decide) ?_
      rw [e9]
      exact kri K hP hD hS d_W_range_30 (by decide)
set_option maxHeartbeats 4000000 in
set_option maxRecDepth 100000 in
theorem c_W_escalate (l : Launch) (hlt : l.stackTraces = false) (g : va_G) (cI cJ cZ : ClassId) (ad : Nat → Nat) (xst : Nat → Int32) (xse : Nat → Int32) (xre : Nat → Int32) (xgr : Nat → Int32) (ltm : Nat → Int32) (low : Nat → Int32) (lta : Nat → Int32) (llo : Nat → Int64) (lhi : Nat → Int64) (lmo : Nat → Int32) (rta : Nat → Int32) (ron : Nat → Int32) (rlo : Nat → Int64) (rhi : Nat → Int64) (rmo : Nat → Int32) (rin : Nat → Int32) (res : Nat → Int32) (rsi : Nat → Int32) (rli : Nat → Int32) (rar : Nat → Int32) (xgc : Int32) (xca : Int32) (xls : Int32) (xtl : Int32) (xno : Int32) (lco : Int32) (rwa : Int32) (rad : Int32) (ao : Nat) (xo : Nat → Int64) (rest : va_W) (a1 : Int32) (a2 : Int32) (kx : Nat) (r : Int32) (o_xst : Nat → Int32) (o_xre : Nat → Int32) (o_xgr : Nat → Int32) (o_ltm : Nat → Int32) (o_low : Nat → Int32) (o_lta : Nat → Int32) (o_llo : Nat → Int64) (o_lhi : Nat → Int64) (o_lmo : Nat → Int32) (o_rta : Nat → Int32) (o_ron : Nat → Int32) (o_rmo : Nat → Int32) (o_rin : Nat → Int32) (o_res : Nat → Int32) (o_rsi : Nat → Int32) (o_rli : Nat → Int32) (o_rar : Nat → Int32) (o_xgc : Int32) (o_xca : Int32) (o_lco : Int32) (o_rwa : Int32) (o_rad : Int32) (hk : kx ≤ 3) (hG : F_T_escalate xst xse xre xgr ltm low lta llo lhi lmo rta ron rlo rhi rmo rin res rsi rli rar xgc xca xno lco rwa rad a1 a2 = some (kx, r, o_xst, o_xre, o_xgr, o_ltm, o_low, o_lta, o_llo, o_lhi, o_lmo, o_rta, o_ron, o_rmo, o_rin, o_res, o_rsi, o_rli, o_rar, o_xgc, o_xca, o_lco, o_rwa, o_rad)) : Cw l y_W_escalate method_6_code 5 [(0, 10, 13, 13), (0, 10, 17, 15), (0, 10, 21, 25)] ({ frames := 8, cells := 1, slots := 6, locals := 166 }) [.ref (ad 0), .int a1, .int a2, .ref ao] g (kty cI cJ cZ) (wC cI cJ cZ ad xst xse xre xgr ltm low lta llo lhi lmo rta ron rlo rhi rmo rin res rsi rli rar xgc xca xls xtl xno lco rwa rad ((ao, .inl (cJ, 1, .inr (.inl xo))) :: rest)) (wC cI cJ cZ ad o_xst xse o_xre o_xgr o_ltm o_low o_lta o_llo o_lhi o_lmo o_rta o_ron rlo rhi o_rmo o_rin o_res o_rsi o_rli o_rar o_xgc o_xca xls xtl xno o_lco o_rwa o_rad ((ao, .inl (cJ, 1, .inr (.inl (if kx = 0 then vp_updL xo 0 r.toInt64 else xo)))) :: rest)) (nI kx) := by
  refine Cw.of (by decide) (Nat.le_of_ble_eq_true rfl) ?_
  intro p e s m below meth c A ls htab K hP hD hS hl
  obtain ⟨hx, hb, hr, hml, hown, hts, hlocks, hK, hA, hE⟩ := id K
  have hown : s.vm.findClass "LockTableLaw" = some m.cls := hown
  have K : kX p s m _ meth c "LockTableLaw" method_6_code 5 (some .int) A g (kty cI cJ cZ) := K
  have hl : lv_has ls 5 [(0, .ref (ad 0)), (1, .int a1), (2, .int a2), (3, .ref ao)] := hl
  refine lv_aload_n hx hb d_W_escalate_0 rfl (lv_at hl 3 rfl) ?_
  refine lv_iconst (v := 0) hx hb d_W_escalate_1 (by decide) ?_
  refine lv_aload_n hx hb d_W_escalate_2 rfl (lv_at hl 0 rfl) ?_
  refine lv_iload_n hx hb d_W_escalate_3 rfl (lv_at hl 1 rfl) ?_
  refine lv_iload_n hx hb d_W_escalate_4 rfl (lv_at hl 2 rfl) ?_
  by_cases hk0 : kx = 0
  · subst hk0
    refine kci K hP hD hS (c_T_escalate l hlt g cI cJ cZ ad xst xse xre xgr ltm low lta llo lhi lmo rta ron rlo rhi rmo rin res rsi rli rar xgc xca xls xtl xno lco rwa rad ((ao, .inl (cJ, 1, .inr (.inl xo))) :: rest) a1 a2 r o_xst o_xre o_xgr o_ltm o_low o_lta o_llo o_lhi o_lmo o_rta o_ron o_rmo o_rin o_res o_rsi o_rli o_rar o_xgc o_xca o_lco o_rwa o_rad hG) wm_522 wm_519 wm_520 wm_521 wm_46 hd_T_escalate rfl rfl ⟨Nat.le_of_ble_eq_true rfl, Nat.le_of_ble_eq_true rfl⟩ ⟨Nat.zero_le _, Nat.zero_le _⟩ 2 0 rfl rfl rfl hl.1 (rest := [.int 0, .ref ao]) rfl (Nat.le_of_ble_eq_true rfl) d_W_escalate_5 (fun H locs hP hD hS => ?_)
    refine lv_i2l (v := r.toInt64) hx hb d_W_escalate_8 rfl ?_
    refine va_last hx hb hK hP hD hS 23 1 rfl rfl vp_in01 d_W_escalate_9 (fun H locs hP hD hS => ?_)
    have hP : va_P g kcl (wC cI cJ cZ ad o_xst xse o_xre o_xgr o_ltm o_low o_lta o_llo o_lhi o_lmo o_rta o_ron rlo rhi o_rmo o_rin o_res o_rsi o_rli o_rar o_xgc o_xca xls xtl xno o_lco o_rwa o_rad ((ao, .inl (cJ, 1, .inr (.inl (if 0 = 0 then vp_updL xo 0 r.toInt64 else xo)))) :: rest)) H := hP
    have hD : va_D A (wC cI cJ cZ ad o_xst xse o_xre o_xgr o_ltm o_low o_lta o_llo o_lhi o_lmo o_rta o_ron rlo rhi o_rmo o_rin o_res o_rsi o_rli o_rar o_xgc o_xca xls xtl xno o_lco o_rwa o_rad ((ao, .inl (cJ, 1, .inr (.inl (if 0 = 0 then vp_updL xo 0 r.toInt64 else xo)))) :: rest)) := hD
    refine lv_goto (tgt := 25) hx hb d_W_escalate_10 (by decide) ?_
    refine lv_iconst (v := 0) hx hb d_W_escalate_25 (by decide) ?_
    refine W.widen (k := 1) (n := 6) (by decide) (by decide) ?_
    exact kri K hP hD hS d_W_escalate_26 nI_0.symm
  · refine kxv K hP hD hS (cx_T_escalate l hlt g cI cJ cZ ad xst xse xre xgr ltm low lta llo lhi lmo rta ron rlo rhi rmo rin res rsi rli rar xgc xca xls xtl xno lco rwa rad ((ao, .inl (cJ, 1, .inr (.inl xo))) :: rest) a1 a2 kx r o_xst o_xre o_xgr o_ltm o_low o_lta o_llo o_lhi o_lmo o_rta o_ron o_rmo o_rin o_res o_rsi o_rli o_rar o_xgc o_xca o_lco o_rwa o_rad hk0 hG) wm_522 wm_519 wm_520 wm_521 wm_46 hd_T_escalate rfl rfl ⟨Nat.le_of_ble_eq_true rfl, Nat.le_of_ble_eq_true rfl⟩ ⟨Nat.le_of_ble_eq_true rfl, Nat.le_of_ble_eq_true rfl⟩ 2 0 rfl rfl rfl hl.1 (rest := [.int 0, .ref ao]) rfl (Nat.le_of_ble_eq_true rfl) d_W_escalate_5 (fun ce q9 H locs hP hD hS hce hcv hcl => ?_)
    have e9 : (if kx = 0 then vp_updL xo 0 r.toInt64 else xo) = xo := if_neg hk0
    rcases (show kx = 1 ∨ kx = 2 ∨ kx = 3 by omega) with rfl | rfl | rfl
    · refine kcat (kx := 1) (name := "java/lang/IllegalArgumentException") K [] ⟨0, 10, 13, 13⟩ [⟨0, 10, 17, 15⟩, ⟨0, 10, 21, 25⟩] (by rw [htab]; rfl) (fun z hz => absurd hz List.not_mem_nil) (by decide) (by decide) wm_209 (by decide) hce hcv hcl ?_
      refine lv_astore (lv' := [(4, .ref q9), (0, .ref (ad 0)), (1, .int a1), (2, .int a2), (3, .ref ao)]) hx hb d_W_escalate_13 hl (by decide) rfl (fun ls hl => ?_)
      refine lv_iconst (v := 1) hx hb d_W_escalate_15 (by decide) ?_
      rw [e9]
      exact kri K hP hD hS d_W_escalate_16 (by decide)
    · refine kcat (kx := 2) (name := "java/lang/IllegalStateException") K [⟨0, 10, 13, 13⟩] ⟨0, 10, 17, 15⟩ [⟨0, 10, 21, 25⟩] (by rw [htab]; rfl) (fun z hz => by rw [List.mem_singleton.mp hz]; exact ⟨by decide, "java/lang/IllegalArgumentException", wm_209, by decide⟩) (by decide) (by decide) wm_210 (by decide) hce hcv hcl ?_
      refine lv_astore (lv' := [(4, .ref q9), (0, .ref (ad 0)), (1, .int a1), (2, .int a2), (3, .ref ao)]) hx hb d_W_escalate_17 hl (by decide) rfl (fun ls hl => ?_)
      refine lv_iconst (v := 2) hx hb d_W_escalate_19 (by decide) ?_
      rw [e9]
      exact kri K hP hD hS d_W_escalate_20 (by decide)
    · refine kcat (kx := 3) (name := "java/lang/UnsupportedOperationException") K [⟨0, 10, 13, 13⟩, ⟨0, 10, 17, 15⟩] ⟨0, 10, 21, 25⟩ [] (by rw [htab]; rfl) (fun z hz => by rcases List.mem_cons.mp hz with h | h; (rw [h]; exact ⟨by decide, "java/lang/IllegalArgumentException", wm_209, by decide⟩); (rw [List.mem_singleton.mp h]; exact ⟨by decide, "java/lang/IllegalStateException", wm_210, by decide⟩)) (by decide) (by decide) wm_444 (by decide) hce hcv hcl ?_
      refine lv_astore (lv' := [(4, .ref q9), (0, .ref (ad 0)), (1, .int a1), (2, .int a2), (3, .ref ao)]) hx hb d_W_escalate_21 hl (by decide) rfl (fun ls hl => ?_)
      refine lv_iconst (v := 3) hx hb d_W_escalate_23 (by decide) ?_
      rw [e9]
      exact kri K hP hD hS d_W_escalate_24 (by decide)
set_option maxHeartbeats 4000000 in
set_option maxRecDepth 100000 in
theorem c_W_cancel (l : Launch) (hlt : l.stackTraces = false) (g : va_G) (cI cJ cZ : ClassId) (ad : Nat → Nat) (xst : Nat → Int32) (xse : Nat → Int32) (xre : Nat → Int32) (xgr : Nat → Int32) (ltm : Nat → Int32) (low : Nat → Int32) (lta : Nat → Int32) (llo : Nat → Int64) (lhi : Nat → Int64) (lmo : Nat → Int32) (rta : Nat → Int32) (ron : Nat → Int32) (rlo : Nat → Int64) (rhi : Nat → Int64) (rmo : Nat → Int32) (rin : Nat → Int32) (res : Nat → Int32) (rsi : Nat → Int32) (rli : Nat → Int32) (rar : Nat → Int32) (xgc : Int32) (xca : Int32) (xls : Int32) (xtl : Int32) (xno : Int32) (lco : Int32) (rwa : Int32) (rad : Int32) (ao : Nat) (xo : Nat → Int64) (rest : va_W) (a1 : Int32) (kx : Nat) (r : Int32) (o_xst : Nat → Int32) (o_xgr : Nat → Int32) (o_ltm : Nat → Int32) (o_low : Nat → Int32) (o_lta : Nat → Int32) (o_llo : Nat → Int64) (o_lhi : Nat → Int64) (o_lmo : Nat → Int32) (o_rli : Nat → Int32) (o_xgc : Int32) (o_xca : Int32) (o_lco : Int32) (o_rwa : Int32) (hk : kx ≤ 2) (hG : F_T_cancel xst xgr ltm low lta llo lhi lmo rta ron rlo rhi rmo res rli xgc xca lco rwa a1 = some (kx, r, o_xst, o_xgr, o_ltm, o_low, o_lta, o_llo, o_lhi, o_lmo, o_rli, o_xgc, o_xca, o_lco, o_rwa)) : Cw l y_W_cancel method_7_code 4 [(0, 9, 12, 13), (0, 9, 15, 15)] ({ frames := 8, cells := 1, slots := 6, locals := 132 }) [.ref (ad 0), .int a1, .ref ao] g (kty cI cJ cZ) (wC cI cJ cZ ad xst xse xre xgr ltm low lta llo lhi lmo rta ron rlo rhi rmo rin res rsi rli rar xgc xca xls xtl xno lco rwa rad ((ao, .inl (cJ, 1, .inr (.inl xo))) :: rest)) (wC cI cJ cZ ad o_xst xse xre o_xgr o_ltm o_low o_lta o_llo o_lhi o_lmo rta ron rlo rhi rmo rin res rsi o_rli rar o_xgc o_xca xls xtl xno o_lco o_rwa rad ((ao, .inl (cJ, 1, .inr (.inl (if kx = 0 then vp_updL xo 0 r.toInt64 else xo)))) :: rest)) (nI kx) := by
  refine Cw.of (by decide) (Nat.le_of_ble_eq_true rfl) ?_
  intro p e s m below meth c A ls htab K hP hD hS hl
  obtain ⟨hx, hb, hr, hml, hown, hts, hlocks, hK, hA, hE⟩ := id K
  have hown : s.vm.findClass "LockTableLaw" = some m.cls := hown
  have K : kX p s m _ meth c "LockTableLaw" method_7_code 4 (some .int) A g (kty cI cJ cZ) := K
  have hl : lv_has ls 4 [(0, .ref (ad 0)), (1, .int a1), (2, .ref ao)] := hl
  refine lv_aload_n hx hb d_W_cancel_0 rfl (lv_at hl 2 rfl) ?_
  refine lv_iconst (v := 0) hx hb d_W_cancel_1 (by decide) ?_
  refine lv_aload_n hx hb d_W_cancel_2 rfl (lv_at hl 0 rfl) ?_
  refine lv_iload_n hx hb d_W_cancel_3 rfl (lv_at hl 1 rfl) ?_
  by_cases hk0 : kx = 0
  · subst hk0
    refine kci K hP hD hS (c_T_cancel l hlt g cI cJ cZ ad xst xse xre xgr ltm low lta llo lhi lmo rta ron rlo rhi rmo rin res rsi rli rar xgc xca xls xtl xno lco rwa rad ((ao, .inl (cJ, 1, .inr (.inl xo))) :: rest) a1 r o_xst o_xgr o_ltm o_low o_lta o_llo o_lhi o_lmo o_rli o_xgc o_xca o_lco o_rwa hG) wm_530 wm_527 wm_528 wm_529 wm_46 hd_T_cancel rfl rfl ⟨Nat.le_of_ble_eq_true rfl, Nat.le_of_ble_eq_true rfl⟩ ⟨Nat.zero_le _, Nat.zero_le _⟩ 2 0 rfl rfl rfl hl.1 (rest := [.int 0, .ref ao]) rfl (Nat.le_of_ble_eq_true rfl) d_W_cancel_4 (fun H locs hP hD hS => ?_)
    refine lv_i2l (v := r.toInt64) hx hb d_W_cancel_7 rfl ?_
    refine va_last hx hb hK hP hD hS 23 1 rfl rfl vp_in01 d_W_cancel_8 (fun H locs hP hD hS => ?_)
    have hP : va_P g kcl (wC cI cJ cZ ad o_xst xse xre o_xgr o_ltm o_low o_lta o_llo o_lhi o_lmo rta ron rlo rhi rmo rin res rsi o_rli rar o_xgc o_xca xls xtl xno o_lco o_rwa rad ((ao, .inl (cJ, 1, .inr (.inl (if 0 = 0 then vp_updL xo 0 r.toInt64 else xo)))) :: rest)) H := hP
    have hD : va_D A (wC cI cJ cZ ad o_xst xse xre o_xgr o_ltm o_low o_lta o_llo o_lhi o_lmo rta ron rlo rhi rmo rin res rsi o_rli rar o_xgc o_xca xls xtl xno o_lco o_rwa rad ((ao, .inl (cJ, 1, .inr (.inl (if 0 = 0 then vp_updL xo 0 r.toInt64 else xo)))) :: rest)) := hD
    refine lv_goto (tgt := 18) hx hb d_W_cancel_9 (by decide) ?_
    refine lv_iconst (v := 0) hx hb d_W_cancel_18 (by decide) ?_
    refine W.widen (k := 1) (n := 6) (by decide) (by decide) ?_
    exact kri K hP hD hS d_W_cancel_19 nI_0.symm
  · refine kxv K hP hD hS (cx_T_cancel l hlt g cI cJ cZ ad xst xse xre xgr ltm low lta llo lhi lmo rta ron rlo rhi rmo rin res rsi rli rar xgc xca xls xtl xno lco rwa rad ((ao, .inl (cJ, 1, .inr (.inl xo))) :: rest) a1 kx r o_xst o_xgr o_ltm o_low o_lta o_llo o_lhi o_lmo o_rli o_xgc o_xca o_lco o_rwa hk0 hG) wm_530 wm_527 wm_528 wm_529 wm_46 hd_T_cancel rfl rfl ⟨Nat.le_of_ble_eq_true rfl, Nat.le_of_ble_eq_true rfl⟩ ⟨Nat.le_of_ble_eq_true rfl, Nat.le_of_ble_eq_true rfl⟩ 2 0 rfl rfl rfl hl.1 (rest := [.int 0, .ref ao]) rfl (Nat.le_of_ble_eq_true rfl) d_W_cancel_4 (fun ce q9 H locs hP hD hS hce hcv hcl => ?_)
    have e9 : (if kx = 0 then vp_updL xo 0 r.toInt64 else xo) = xo := if_neg hk0
    rcases (show kx = 1 ∨ kx = 2 by omega) with rfl | rfl
    · refine kcat (kx := 1) (name := "java/lang/IllegalArgumentException") K [] ⟨0, 9, 12, 13⟩ [⟨0, 9, 15, 15⟩] (by rw [htab]; rfl) (fun z hz => absurd hz List.not_mem_nil) (by decide) (by decide) wm_209 (by decide) hce hcv hcl ?_
      refine lv_astore_n (lv' := [(3, .ref q9), (0, .ref (ad 0)), (1, .int a1), (2, .ref ao)]) hx hb d_W_cancel_12 rfl hl (by decide) rfl (fun ls hl => ?_)
      refine lv_iconst (v := 1) hx hb d_W_cancel_13 (by decide) ?_
      rw [e9]
      exact kri K hP hD hS d_W_cancel_14 (by decide)
    · refine kcat (kx := 2) (name := "java/lang/IllegalStateException") K [⟨0, 9, 12, 13⟩] ⟨0, 9, 15, 15⟩ [] (by rw [htab]; rfl) (fun z hz => by rw [List.mem_singleton.mp hz]; exact ⟨by decide, "java/lang/IllegalArgumentException", wm_209, by decide⟩) (by decide) (by decide) wm_210 (by decide) hce hcv hcl ?_
      refine lv_astore_n (lv' := [(3, .ref q9), (0, .ref (ad 0)), (1, .int a1), (2, .ref ao)]) hx hb d_W_cancel_15 rfl hl (by decide) rfl (fun ls hl => ?_)
      refine lv_iconst (v := 2) hx hb d_W_cancel_16 (by decide) ?_
      rw [e9]
      exact kri K hP hD hS d_W_cancel_17 (by decide)
set_option maxHeartbeats 4000000 in
set_option maxRecDepth 100000 in
theorem c_W_prepare (l : Launch) (hlt : l.stackTraces = false) (g : va_G) (cI cJ cZ : ClassId) (ad : Nat → Nat) (xst : Nat → Int32) (xse : Nat → Int32) (xre : Nat → Int32) (xgr : Nat → Int32) (ltm : Nat → Int32) (low : Nat → Int32) (lta : Nat → Int32) (llo : Nat → Int64) (lhi : Nat → Int64) (lmo : Nat → Int32) (rta : Nat → Int32) (ron : Nat → Int32) (rlo : Nat → Int64) (rhi : Nat → Int64) (rmo : Nat → Int32) (rin : Nat → Int32) (res : Nat → Int32) (rsi : Nat → Int32) (rli : Nat → Int32) (rar : Nat → Int32) (xgc : Int32) (xca : Int32) (xls : Int32) (xtl : Int32) (xno : Int32) (lco : Int32) (rwa : Int32) (rad : Int32) (ao : Nat) (xo : Nat → Int64) (rest : va_W) (a1 : Int32) (kx : Nat) (r : Int32) (o_xst : Nat → Int32) (o_xgr : Nat → Int32) (o_ltm : Nat → Int32) (o_low : Nat → Int32) (o_lta : Nat → Int32) (o_llo : Nat → Int64) (o_lhi : Nat → Int64) (o_lmo : Nat → Int32) (o_rli : Nat → Int32) (o_xgc : Int32) (o_xca : Int32) (o_lco : Int32) (o_rwa : Int32) (hk : kx ≤ 2) (hG : F_T_prepare xst xgr ltm low lta llo lhi lmo rta ron rlo rhi rmo res rli xgc xca lco rwa a1 = some (kx, r, o_xst, o_xgr, o_ltm, o_low, o_lta, o_llo, o_lhi, o_lmo, o_rli, o_xgc, o_xca, o_lco, o_rwa)) : Cw l y_W_prepare method_8_code 4 [(0, 9, 12, 13), (0, 9, 15, 15)] ({ frames := 8, cells := 1, slots := 6, locals := 132 }) [.ref (ad 0), .int a1, .ref ao] g (kty cI cJ cZ) (wC cI cJ cZ ad xst xse xre xgr ltm low lta llo lhi lmo rta ron rlo rhi rmo rin res rsi rli rar xgc xca xls xtl xno lco rwa rad ((ao, .inl (cJ, 1, .inr (.inl xo))) :: rest)) (wC cI cJ cZ ad o_xst xse xre o_xgr o_ltm o_low o_lta o_llo o_lhi o_lmo rta ron rlo rhi rmo rin res rsi o_rli rar o_xgc o_xca xls xtl xno o_lco o_rwa rad ((ao, .inl (cJ, 1, .inr (.inl (if kx = 0 then vp_updL xo 0 r.toInt64 else xo)))) :: rest)) (nI kx) := by
  refine Cw.of (by decide) (Nat.le_of_ble_eq_true rfl) ?_
  intro p e s m below meth c A ls htab K hP hD hS hl
  obtain ⟨hx, hb, hr, hml, hown, hts, hlocks, hK, hA, hE⟩ := id K
  have hown : s.vm.findClass "LockTableLaw" = some m.cls := hown
  have K : kX p s m _ meth c "LockTableLaw" method_8_code 4 (some .int) A g (kty cI cJ cZ) := K
  have hl : lv_has ls 4 [(0, .ref (ad 0)), (1, .int a1), (2, .ref ao)] := hl
  refine lv_aload_n hx hb d_W_prepare_0 rfl (lv_at hl 2 rfl) ?_
  refine lv_iconst (v := 0) hx hb d_W_prepare_1 (by decide) ?_
  refine lv_aload_n hx hb d_W_prepare_2 rfl (lv_at hl 0 rfl) ?_
  refine lv_iload_n hx hb d_W_prepare_3 rfl (lv_at hl 1 rfl) ?_
  by_cases hk0 : kx = 0
  · subst hk0
    refine kci K hP hD hS (c_T_prepare l hlt g cI cJ cZ ad xst xse xre xgr ltm low lta llo lhi lmo rta ron rlo rhi rmo rin res rsi rli rar xgc xca xls xtl xno lco rwa rad ((ao, .inl (cJ, 1, .inr (.inl xo))) :: rest) a1 r o_xst o_xgr o_ltm o_low o_lta o_llo o_lhi o_lmo o_rli o_xgc o_xca o_lco o_rwa hG) wm_542 wm_539 wm_540 wm_541 wm_46 hd_T_prepare rfl rfl ⟨Nat.le_of_ble_eq_true rfl, Nat.le_of_ble_eq_true rfl⟩ ⟨Nat.zero_le _, Nat.zero_le _⟩ 2 0 rfl rfl rfl hl.1 (rest := [.int 0, .ref ao]) rfl (Nat.le_of_ble_eq_true rfl) d_W_prepare_4 (fun H locs hP hD hS => ?_)
    refine lv_i2l (v := r.toInt64) hx hb d_W_prepare_7 rfl ?_
    refine va_last hx hb hK hP hD hS 23 1 rfl rfl vp_in01 d_W_prepare_8 (fun H locs hP hD hS => ?_)
    have hP : va_P g kcl (wC cI cJ cZ ad o_xst xse xre o_xgr o_ltm o_low o_lta o_llo o_lhi o_lmo rta ron rlo rhi rmo rin res rsi o_rli rar o_xgc o_xca xls xtl xno o_lco o_rwa rad ((ao, .inl (cJ, 1, .inr (.inl (if 0 = 0 then vp_updL xo 0 r.toInt64 else xo)))) :: rest)) H := hP
    have hD : va_D A (wC cI cJ cZ ad o_xst xse xre o_xgr o_ltm o_low o_lta o_llo o_lhi o_lmo rta ron rlo rhi rmo rin res rsi o_rli rar o_xgc o_xca xls xtl xno o_lco o_rwa rad ((ao, .inl (cJ, 1, .inr (.inl (if 0 = 0 then vp_updL xo 0 r.toInt64 else xo)))) :: rest)) := hD
    refine lv_goto (tgt := 18) hx hb d_W_prepare_9 (by decide) ?_
    refine lv_iconst (v := 0) hx hb d_W_prepare_18 (by decide) ?_
    refine W.widen (k := 1) (n := 6) (by decide) (by decide) ?_
    exact kri K hP hD hS d_W_prepare_19 nI_0.symm
  · refine kxv K hP hD hS (cx_T_prepare l hlt g cI cJ cZ ad xst xse xre xgr ltm low lta llo lhi lmo rta ron rlo rhi rmo rin res rsi rli rar xgc xca xls xtl xno lco rwa rad ((ao, .inl (cJ, 1, .inr (.inl xo))) :: rest) a1 kx r o_xst o_xgr o_ltm o_low o_lta o_llo o_lhi o_lmo o_rli o_xgc o_xca o_lco o_rwa hk0 hG) wm_542 wm_539 wm_540 wm_541 wm_46 hd_T_prepare rfl rfl ⟨Nat.le_of_ble_eq_true rfl, Nat.le_of_ble_eq_true rfl⟩ ⟨Nat.le_of_ble_eq_true rfl, Nat.le_of_ble_eq_true rfl⟩ 2 0 rfl rfl rfl hl.1 (rest := [.int 0, .ref ao]) rfl (Nat.le_of_ble_eq_true rfl) d_W_prepare_4 (fun ce q9 H locs hP hD hS hce hcv hcl => ?_)
    have e9 : (if kx = 0 then vp_updL xo 0 r.toInt64 else xo) = xo := if_neg hk0
    rcases (show kx = 1 ∨ kx = 2 by omega) with rfl | rfl
    · refine kcat (kx := 1) (name := "java/lang/IllegalArgumentException") K [] ⟨0, 9, 12, 13⟩ [⟨0, 9, 15, 15⟩] (by rw [htab]; rfl) (fun z hz => absurd hz List.not_mem_nil) (by decide) (by decide) wm_209 (by decide) hce hcv hcl ?_
      refine lv_astore_n (lv' := [(3, .ref q9), (0, .ref (ad 0)), (1, .int a1), (2, .ref ao)]) hx hb d_W_prepare_12 rfl hl (by decide) rfl (fun ls hl => ?_)
      refine lv_iconst (v := 1) hx hb d_W_prepare_13 (by decide) ?_
      rw [e9]
      exact kri K hP hD hS d_W_prepare_14 (by decide)
    · refine kcat (kx := 2) (name := "java/lang/IllegalStateException") K [⟨0, 9, 12, 13⟩] ⟨0, 9, 15, 15⟩ [] (by rw [htab]; rfl) (fun z hz => by rw [List.mem_singleton.mp hz]; exact ⟨by decide, "java/lang/IllegalArgumentException", wm_209, by decide⟩) (by decide) (by decide) wm_210 (by decide) hce hcv hcl ?_
      refine lv_astore_n (lv' := [(3, .ref q9), (0, .ref (ad 0)), (1, .int a1), (2, .ref ao)]) hx hb d_W_prepare_15 rfl hl (by decide) rfl (fun ls hl => ?_)
      refine lv_iconst (v := 2) hx hb d_W_prepare_16 (by decide) ?_
      rw [e9]
      exact kri K hP hD hS d_W_prepare_17 (by decide)
set_option maxHeartbeats 4000000 in
set_option maxRecDepth 100000 in
theorem c_W_unread (l : Launch) (hlt : l.stackTraces = false) (g : va_G) (cI cJ cZ : ClassId) (ad : Nat → Nat) (xst : Nat → Int32) (xse : Nat → Int32) (xre : Nat → Int32) (xgr : Nat → Int32) (ltm : Nat → Int32) (low : Nat → Int32) (lta : Nat → Int32) (llo : Nat → Int64) (lhi : Nat → Int64) (lmo : Nat → Int32) (rta : Nat → Int32) (ron : Nat → Int32) (rlo : Nat → Int64) (rhi : Nat → Int64) (rmo : Nat → Int32) (rin : Nat → Int32) (res : Nat → Int32) (rsi : Nat → Int32) (rli : Nat → Int32) (rar : Nat → Int32) (xgc : Int32) (xca : Int32) (xls : Int32) (xtl : Int32) (xno : Int32) (lco : Int32) (rwa : Int32) (rad : Int32) (ao : Nat) (xo : Nat → Int64) (rest : va_W) (a1 : Int32) (kx : Nat) (r : Int32) (o_xst : Nat → Int32) (o_xgr : Nat → Int32) (o_ltm : Nat → Int32) (o_low : Nat → Int32) (o_lta : Nat → Int32) (o_llo : Nat → Int64) (o_lhi : Nat → Int64) (o_lmo : Nat → Int32) (o_rli : Nat → Int32) (o_xgc : Int32) (o_xca : Int32) (o_lco : Int32) (o_rwa : Int32) (hk : kx ≤ 2) (hG : F_T_unread xst xgr ltm low lta llo lhi lmo rta ron rlo rhi rmo res rli xgc xca lco rwa a1 = some (kx, r, o_xst, o_xgr, o_ltm, o_low, o_lta, o_llo, o_lhi, o_lmo, o_rli, o_xgc, o_xca, o_lco, o_rwa)) : Cw l y_W_unread method_9_code 4 [(0, 9, 12, 13), (0, 9, 15, 15)] ({ frames := 8, cells := 1, slots := 6, locals := 132 }) [.ref (ad 0), .int a1, .ref ao] g (kty cI cJ cZ) (wC cI cJ cZ ad xst xse xre xgr ltm low lta llo lhi lmo rta ron rlo rhi rmo rin res rsi rli rar xgc xca xls xtl xno lco rwa rad ((ao, .inl (cJ, 1, .inr (.inl xo))) :: rest)) (wC cI cJ cZ ad o_xst xse xre o_xgr o_ltm o_low o_lta o_llo o_lhi o_lmo rta ron rlo rhi rmo rin res rsi o_rli rar o_xgc o_xca xls xtl xno o_lco o_rwa rad ((ao, .inl (cJ, 1, .inr (.inl (if kx = 0 then vp_updL xo 0 r.toInt64 else xo)))) :: rest)) (nI kx) := by
  refine Cw.of (by decide) (Nat.le_of_ble_eq_true rfl) ?_
  intro p e s m below meth c A ls htab K hP hD hS hl
  obtain ⟨hx, hb, hr, hml, hown, hts, hlocks, hK, hA, hE⟩ := id K
  have hown : s.vm.findClass "LockTableLaw" = some m.cls := hown
  have K : kX p s m _ meth c "LockTableLaw" method_9_code 4 (some .int) A g (kty cI cJ cZ) := K
  have hl : lv_has ls 4 [(0, .ref (ad 0)), (1, .int a1), (2, .ref ao)] := hl
  refine lv_aload_n hx hb d_W_unread_0 rfl (lv_at hl 2 rfl) ?_
  refine lv_iconst (v := 0) hx hb d_W_unread_1 (by decide) ?_
  refine lv_aload_n hx hb d_W_unread_2 rfl (lv_at hl 0 rfl) ?_
  refine lv_iload_n hx hb d_W_unread_3 rfl (lv_at hl 1 rfl) ?_
  by_cases hk0 : kx = 0
  · subst hk0
    refine kci K hP hD hS (c_T_unread l hlt g cI cJ cZ ad xst xse xre xgr ltm low lta llo lhi lmo rta ron rlo rhi rmo rin res rsi rli rar xgc xca xls xtl xno lco rwa rad ((ao, .inl (cJ, 1, .inr (.inl xo))) :: rest) a1 r o_xst o_xgr o_ltm o_low o_lta o_llo o_lhi o_lmo o_rli o_xgc o_xca o_lco o_rwa hG) wm_561 wm_558 wm_559 wm_560 wm_46 hd_T_unread rfl rfl ⟨Nat.le_of_ble_eq_true rfl, Nat.le_of_ble_eq_true rfl⟩ ⟨Nat.zero_le _, Nat.zero_le _⟩ 2 0 rfl rfl rfl hl.1 (rest := [.int 0, .ref ao]) rfl (Nat.le_of_ble_eq_true rfl) d_W_unread_4 (fun H locs hP hD hS => ?_)
    refine lv_i2l (v := r.toInt64) hx hb d_W_unread_7 rfl ?_
    refine va_last hx hb hK hP hD hS 23 1 rfl rfl vp_in01 d_W_unread_8 (fun H locs hP hD hS => ?_)
    have hP : va_P g kcl (wC cI cJ cZ ad o_xst xse xre o_xgr o_ltm o_low o_lta o_llo o_lhi o_lmo rta ron rlo rhi rmo rin res rsi o_rli rar o_xgc o_xca xls xtl xno o_lco o_rwa rad ((ao, .inl (cJ, 1, .inr (.inl (if 0 = 0 then vp_updL xo 0 r.toInt64 else xo)))) :: rest)) H := hP
    have hD : va_D A (wC cI cJ cZ ad o_xst xse xre o_xgr o_ltm o_low o_lta o_llo o_lhi o_lmo rta ron rlo rhi rmo rin res rsi o_rli rar o_xgc o_xca xls xtl xno o_lco o_rwa rad ((ao, .inl (cJ, 1, .inr (.inl (if 0 = 0 then vp_updL xo 0 r.toInt64 else xo)))) :: rest)) := hD
    refine lv_goto (tgt := 18) hx hb d_W_unread_9 (by decide) ?_
    refine lv_iconst (v := 0) hx hb d_W_unread_18 (by decide) ?_
    refine W.widen (k := 1) (n := 6) (by decide) (by decide) ?_
    exact kri K hP hD hS d_W_unread_19 nI_0.symm
  · refine kxv K hP hD hS (cx_T_unread l hlt g cI cJ cZ ad xst xse xre xgr ltm low lta llo lhi lmo rta ron rlo rhi rmo rin res rsi rli rar xgc xca xls xtl xno lco rwa rad ((ao, .inl (cJ, 1, .inr (.inl xo))) :: rest) a1 kx r o_xst o_xgr o_ltm o_low o_lta o_llo o_lhi o_lmo o_rli o_xgc o_xca o_lco o_rwa hk0 hG) wm_561 wm_558 wm_559 wm_560 wm_46 hd_T_unread rfl rfl ⟨Nat.le_of_ble_eq_true rfl, Nat.le_of_ble_eq_true rfl⟩ ⟨Nat.le_of_ble_eq_true rfl, Nat.le_of_ble_eq_true rfl⟩ 2 0 rfl rfl rfl hl.1 (rest := [.int 0, .ref ao]) rfl (Nat.le_of_ble_eq_true rfl) d_W_unread_4 (fun ce q9 H locs hP hD hS hce hcv hcl => ?_)
    have e9 : (if kx = 0 then vp_updL xo 0 r.toInt64 else xo) = xo := if_neg hk0
    rcases (show kx = 1 ∨ kx = 2 by omega) with rfl | rfl
    · refine kcat (kx := 1) (name := "java/lang/IllegalArgumentException") K [] ⟨0, 9, 12, 13⟩ [⟨0, 9, 15, 15⟩] (by rw [htab]; rfl) (fun z hz => absurd hz List.not_mem_nil) (by decide) (by decide) wm_209 (by decide) hce hcv hcl ?_
      refine lv_astore_n (lv' := [(3, .ref q9), (0, .ref (ad 0)), (1, .int a1), (2, .ref ao)]) hx hb d_W_unread_12 rfl hl (by decide) rfl (fun ls hl => ?_)
      refine lv_iconst (v := 1) hx hb d_W_unread_13 (by decide) ?_
      rw [e9]
      exact kri K hP hD hS d_W_unread_14 (by decide)
    · refine kcat (kx := 2) (name := "java/lang/IllegalStateException") K [⟨0, 9, 12, 13⟩] ⟨0, 9, 15, 15⟩ [] (by rw [htab]; rfl) (fun z hz => by rw [List.mem_singleton.mp hz]; exact ⟨by decide, "java/lang/IllegalArgumentException", wm_209, by decide⟩) (by decide) (by decide) wm_210 (by decide) hce hcv hcl ?_
      refine lv_astore_n (lv' := [(3, .ref q9), (0, .ref (ad 0)), (1, .int a1), (2, .ref ao)]) hx hb d_W_unread_15 rfl hl (by decide) rfl (fun ls hl => ?_)
      refine lv_iconst (v := 2) hx hb d_W_unread_16 (by decide) ?_
      rw [e9]
      exact kri K hP hD hS d_W_unread_17 (by decide)
set_option maxHeartbeats 4000000 in
set_option maxRecDepth 100000 in
theorem c_W_end (l : Launch) (hlt : l.stackTraces = false) (g : va_G) (cI cJ cZ : ClassId) (ad : Nat → Nat) (xst : Nat → Int32) (xse : Nat → Int32) (xre : Nat → Int32) (xgr : Nat → Int32) (ltm : Nat → Int32) (low : Nat → Int32) (lta : Nat → Int32) (llo : Nat → Int64) (lhi : Nat → Int64) (lmo : Nat → Int32) (rta : Nat → Int32) (ron : Nat → Int32) (rlo : Nat → Int64) (rhi : Nat → Int64) (rmo : Nat → Int32) (rin : Nat → Int32) (res : Nat → Int32) (rsi : Nat → Int32) (rli : Nat → Int32) (rar : Nat → Int32) (xgc : Int32) (xca : Int32) (xls : Int32) (xtl : Int32) (xno : Int32) (lco : Int32) (rwa : Int32) (rad : Int32) (ao : Nat) (xo : Nat → Int64) (rest : va_W) (a1 : Int32) (kx : Nat) (r : Int32) (o_xst : Nat → Int32) (o_xse : Nat → Int32) (o_xgr : Nat → Int32) (o_ltm : Nat → Int32) (o_low : Nat → Int32) (o_lta : Nat → Int32) (o_llo : Nat → Int64) (o_lhi : Nat → Int64) (o_lmo : Nat → Int32) (o_rli : Nat → Int32) (o_xgc : Int32) (o_xca : Int32) (o_lco : Int32) (o_rwa : Int32) (hk : kx ≤ 2) (hG : F_T_end xst xse xgr ltm low lta llo lhi lmo rta ron rlo rhi rmo res rli xgc xca lco rwa a1 = some (kx, r, o_xst, o_xse, o_xgr, o_ltm, o_low, o_lta, o_llo, o_lhi, o_lmo, o_rli, o_xgc, o_xca, o_lco, o_rwa)) : Cw l y_W_end method_10_code 4 [(0, 9, 12, 13), (0, 9, 15, 15)] ({ frames := 8, cells := 1, slots := 6, locals := 131 }) [.ref (ad 0), .int a1, .ref ao] g (kty cI cJ cZ) (wC cI cJ cZ ad xst xse xre xgr ltm low lta llo lhi lmo rta ron rlo rhi rmo rin res rsi rli rar xgc xca xls xtl xno lco rwa rad ((ao, .inl (cJ, 1, .inr (.inl xo))) :: rest)) (wC cI cJ cZ ad o_xst o_xse xre o_xgr o_ltm o_low o_lta o_llo o_lhi o_lmo rta ron rlo rhi rmo rin res rsi o_rli rar o_xgc o_xca xls xtl xno o_lco o_rwa rad ((ao, .inl (cJ, 1, .inr (.inl (if kx = 0 then vp_updL xo 0 r.toInt64 else xo)))) :: rest)) (nI kx) := by
  refine Cw.of (by decide) (Nat.le_of_ble_eq_true rfl) ?_
  intro p e s m below meth c A ls htab K hP hD hS hl
  obtain ⟨hx, hb, hr, hml, hown, hts, hlocks, hK, hA, hE⟩ := id K
  have hown : s.vm.findClass "LockTableLaw" = some m.cls := hown
  have K : kX p s m _ meth c "LockTableLaw" method_10_code 4 (some .int) A g (kty cI cJ cZ) := K
  have hl : lv_has ls 4 [(0, .ref (ad 0)), (1, .int a1), (2, .ref ao)] := hl
  refine lv_aload_n hx hb d_W_end_0 rfl (lv_at hl 2 rfl) ?_
  refine lv_iconst (v := 0) hx hb d_W_end_1 (by decide) ?_
  refine lv_aload_n hx hb d_W_end_2 rfl (lv_at hl 0 rfl) ?_
  refine lv_iload_n hx hb d_W_end_3 rfl (lv_at hl 1 rfl) ?_
  by_cases hk0 : kx = 0
  · subst hk0
    refine kci K hP hD hS (c_T_end l hlt g cI cJ cZ ad xst xse xre xgr ltm low lta llo lhi lmo rta ron rlo rhi rmo rin res rsi rli rar xgc xca xls xtl xno lco rwa rad ((ao, .inl (cJ, 1, .inr (.inl xo))) :: rest) a1 r o_xst o_xse o_xgr o_ltm o_low o_lta o_llo o_lhi o_lmo o_rli o_xgc o_xca o_lco o_rwa hG) wm_568 wm_565 wm_566 wm_567 wm_46 hd_T_end rfl rfl ⟨Nat.le_of_ble_eq_true rfl, Nat.le_of_ble_eq_true rfl⟩ ⟨Nat.zero_le _, Nat.zero_le _⟩ 2 0 rfl rfl rfl hl.1 (rest := [.int 0, .ref ao]) rfl (Nat.le_of_ble_eq_true rfl) d_W_end_4 (fun H locs hP hD hS => ?_)
    refine lv_i2l (v := r.toInt64) hx hb d_W_end_7 rfl ?_
    refine va_last hx hb hK hP hD hS 23 1 rfl rfl vp_in01 d_W_end_8 (fun H locs hP hD hS => ?_)
    have hP : va_P g kcl (wC cI cJ cZ ad o_xst o_xse xre o_xgr o_ltm o_low o_lta o_llo o_lhi o_lmo rta ron rlo rhi rmo rin res rsi o_rli rar o_xgc o_xca xls xtl xno o_lco o_rwa rad ((ao, .inl (cJ, 1, .inr (.inl (if 0 = 0 then vp_updL xo 0 r.toInt64 else xo)))) :: rest)) H := hP
    have hD : va_D A (wC cI cJ cZ ad o_xst o_xse xre o_xgr o_ltm o_low o_lta o_llo o_lhi o_lmo rta ron rlo rhi rmo rin res rsi o_rli rar o_xgc o_xca xls xtl xno o_lco o_rwa rad ((ao, .inl (cJ, 1, .inr (.inl (if 0 = 0 then vp_updL xo 0 r.toInt64 else xo)))) :: rest)) := hD
    refine lv_goto (tgt := 18) hx hb d_W_end_9 (by decide) ?_
    refine lv_iconst (v := 0) hx hb d_W_end_18 (by decide) ?_
    refine W.widen (k := 1) (n := 6) (by decide) (by decide) ?_
    exact kri K hP hD hS d_W_end_19 nI_0.symm
  · refine kxv K hP hD hS (cx_T_end l hlt g cI cJ cZ ad xst xse xre xgr ltm low lta llo lhi lmo rta ron rlo rhi rmo rin res rsi rli rar xgc xca xls xtl xno lco rwa rad ((ao, .inl (cJ, 1, .inr (.inl xo))) :: rest) a1 kx r o_xst o_xse o_xgr o_ltm o_low o_lta o_llo o_lhi o_lmo o_rli o_xgc o_xca o_lco o_rwa hk0 hG) wm_568 wm_565 wm_566 wm_567 wm_46 hd_T_end rfl rfl ⟨Nat.le_of_ble_eq_true rfl, Nat.le_of_ble_eq_true rfl⟩ ⟨Nat.le_of_ble_eq_true rfl, Nat.le_of_ble_eq_true rfl⟩ 2 0 rfl rfl rfl hl.1 (rest := [.int 0, .ref ao]) rfl (Nat.le_of_ble_eq_true rfl) d_W_end_4 (fun ce q9 H locs hP hD hS hce hcv hcl => ?_)
    have e9 : (if kx = 0 then vp_updL xo 0 r.toInt64 else xo) = xo := if_neg hk0
    rcases (show kx = 1 ∨ kx = 2 by omega) with rfl | rfl
    · refine kcat (kx := 1) (name := "java/lang/IllegalArgumentException") K [] ⟨0, 9, 12, 13⟩ [⟨0, 9, 15, 15⟩] (by rw [htab]; rfl) (fun z hz => absurd hz List.not_mem_nil) (by decide) (by decide) wm_209 (by decide) hce hcv hcl ?_
      refine lv_astore_n (lv' := [(3, .ref q9), (0, .ref (ad 0)), (1, .int a1), (2, .ref ao)]) hx hb d_W_end_12 rfl hl (by decide) rfl (fun ls hl => ?_)
      refine lv_iconst (v := 1) hx hb d_W_end_13 (by decide) ?_
      rw [e9]
      exact kri K hP hD hS d_W_end_14 (by decide)
    · refine kcat (kx := 2) (name := "java/lang/IllegalStateException") K [⟨0, 9, 12, 13⟩] ⟨0, 9, 15, 15⟩ [] (by rw [htab]; rfl) (fun z hz => by rw [List.mem_singleton.mp hz]; exact ⟨by decide, "java/lang/IllegalArgumentException", wm_209, by decide⟩) (by decide) (by decide) wm_210 (by decide) hce hcv hcl ?_
      refine lv_astore_n (lv' := [(3, .ref q9), (0, .ref (ad 0)), (1, .int a1), (2, .ref ao)]) hx hb d_W_end_15 rfl hl (by decide) rfl (fun ls hl => ?_)
      refine lv_iconst (v := 2) hx hb d_W_end_16 (by decide) ?_
      rw [e9]
      exact kri K hP hD hS d_W_end_17 (by decide)
set_option maxHeartbeats 4000000 in
set_option maxRecDepth 100000 in
theorem c_W_limit (l : Launch) (hlt : l.stackTraces = false) (g : va_G) (cI cJ cZ : ClassId) (ad : Nat → Nat) (xst : Nat → Int32) (xse : Nat → Int32) (xre : Nat → Int32) (xgr : Nat → Int32) (ltm : Nat → Int32) (low : Nat → Int32) (lta : Nat → Int32) (llo : Nat → Int64) (lhi : Nat → Int64) (lmo : Nat → Int32) (rta : Nat → Int32) (ron : Nat → Int32) (rlo : Nat → Int64) (rhi : Nat → Int64) (rmo : Nat → Int32) (rin : Nat → Int32) (res : Nat → Int32) (rsi : Nat → Int32) (rli : Nat → Int32) (rar : Nat → Int32) (xgc : Int32) (xca : Int32) (xls : Int32) (xtl : Int32) (xno : Int32) (lco : Int32) (rwa : Int32) (rad : Int32) (ao : Nat) (xo : Nat → Int64) (rest : va_W) (a1 : Int32) (kx : Nat) (o_xgc : Int32) (o_xca : Int32) (o_xtl : Int32) (hk : kx ≤ 1) (hG : F_T_limit xgc xca xtl a1 = some (kx, o_xgc, o_xca, o_xtl)) : Cw l y_W_limit method_11_code 3 [(0, 5, 8, 13)] ({ frames := 8, cells := 1, slots := 6, locals := 131 }) [.ref (ad 0), .int a1] g (kty cI cJ cZ) (wC cI cJ cZ ad xst xse xre xgr ltm low lta llo lhi lmo rta ron rlo rhi rmo rin res rsi rli rar xgc xca xls xtl xno lco rwa rad ((ao, .inl (cJ, 1, .inr (.inl xo))) :: rest)) (wC cI cJ cZ ad xst xse xre xgr ltm low lta llo lhi lmo rta ron rlo rhi rmo rin res rsi rli rar o_xgc o_xca xls o_xtl xno lco rwa rad ((ao, .inl (cJ, 1, .inr (.inl xo))) :: rest)) (nI kx) := by
  refine Cw.of (by decide) (Nat.le_of_ble_eq_true rfl) ?_
  intro p e s m below meth c A ls htab K hP hD hS hl
  obtain ⟨hx, hb, hr, hml, hown, hts, hlocks, hK, hA, hE⟩ := id K
  have hown : s.vm.findClass "LockTableLaw" = some m.cls := hown
  have K : kX p s m _ meth c "LockTableLaw" method_11_code 3 (some .int) A g (kty cI cJ cZ) := K
  have hl : lv_has ls 3 [(0, .ref (ad 0)), (1, .int a1)] := hl
  refine lv_aload_n hx hb d_W_limit_0 rfl (lv_at hl 0 rfl) ?_
  refine lv_iload_n hx hb d_W_limit_1 rfl (lv_at hl 1 rfl) ?_
  by_cases hk0 : kx = 0
  · subst hk0
    refine kcv K hP hD hS (c_T_limit l hlt g cI cJ cZ ad xst xse xre xgr ltm low lta llo lhi lmo rta ron rlo rhi rmo rin res rsi rli rar xgc xca xls xtl xno lco rwa rad ((ao, .inl (cJ, 1, .inr (.inl xo))) :: rest) a1 o_xgc o_xca o_xtl hG) wm_580 wm_577 wm_578 wm_579 wm_46 hd_T_limit rfl rfl ⟨Nat.le_of_ble_eq_true rfl, Nat.le_of_ble_eq_true rfl⟩ ⟨Nat.zero_le _, Nat.zero_le _⟩ 2 0 rfl rfl rfl hl.1 (rest := []) rfl (Nat.le_of_ble_eq_true rfl) d_W_limit_2 (fun H locs hP hD hS => ?_)
    refine lv_goto (tgt := 11) hx hb d_W_limit_5 (by decide) ?_
    refine lv_iconst (v := 0) hx hb d_W_limit_11 (by decide) ?_
    refine W.widen (k := 1) (n := 6) (by decide) (by decide) ?_
    exact kri K hP hD hS d_W_limit_12 nI_0.symm
  · refine kxv K hP hD hS (cx_T_limit l hlt g cI cJ cZ ad xst xse xre xgr ltm low lta llo lhi lmo rta ron rlo rhi rmo rin res rsi rli rar xgc xca xls xtl xno lco rwa rad ((ao, .inl (cJ, 1, .inr (.inl xo))) :: rest) a1 kx o_xgc o_xca o_xtl hk0 hG) wm_580 wm_577 wm_578 wm_579 wm_46 hd_T_limit rfl rfl ⟨Nat.le_of_ble_eq_true rfl, Nat.le_of_ble_eq_true rfl⟩ ⟨Nat.le_of_ble_eq_true rfl, Nat.le_of_ble_eq_true rfl⟩ 2 0 rfl rfl rfl hl.1 (rest := []) rfl (Nat.le_of_ble_eq_true rfl) d_W_limit_2 (fun ce q9 H locs hP hD hS hce hcv hcl => ?_)
    rcases (show kx = 1 by omega) with rfl
    · refine kcat (kx := 1) (name := "java/lang/IllegalArgumentException") K [] ⟨0, 5, 8, 13⟩ [] (by rw [htab]; rfl) (fun z hz => absurd hz List.not_mem_nil) (by decide) (by decide) wm_209 (by decide) hce hcv hcl ?_
      refine lv_astore_n (lv' := [(2, .ref q9), (0, .ref (ad 0)), (1, .int a1)]) hx hb d_W_limit_8 rfl hl (by decide) rfl (fun ls hl => ?_)
      refine lv_iconst (v := 1) hx hb d_W_limit_9 (by decide) ?_
      exact kri K hP hD hS d_W_limit_10 (by decide)
set_option maxHeartbeats 4000000 in
set_option maxRecDepth 100000 in
theorem c_W_tick (l : Launch) (hlt : l.stackTraces = false) (g : va_G) (cI cJ cZ : ClassId) (ad : Nat → Nat) (xst : Nat → Int32) (xse : Nat → Int32) (xre : Nat → Int32) (xgr : Nat → Int32) (ltm : Nat → Int32) (low : Nat → Int32) (lta : Nat → Int32) (llo : Nat → Int64) (lhi : Nat → Int64) (lmo : Nat → Int32) (rta : Nat → Int32) (ron : Nat → Int32) (rlo : Nat → Int64) (rhi : Nat → Int64) (rmo : Nat → Int32) (rin : Nat → Int32) (res : Nat → Int32) (rsi : Nat → Int32) (rli : Nat → Int32) (rar : Nat → Int32) (xgc : Int32) (xca : Int32) (xls : Int32) (xtl : Int32) (xno : Int32) (lco : Int32) (rwa : Int32) (rad : Int32) (ao : Nat) (xo : Nat → Int64) (rest : va_W) (a1 : Int32) (kx : Nat) (r : Int32) (o_xst : Nat → Int32) (o_xgr : Nat → Int32) (o_ltm : Nat → Int32) (o_low : Nat → Int32) (o_lta : Nat → Int32) (o_llo : Nat → Int64) (o_lhi : Nat → Int64) (o_lmo : Nat → Int32) (o_rli : Nat → Int32) (o_xgc : Int32) (o_xca : Int32) (o_xno : Int32) (o_lco : Int32) (o_rwa : Int32) (hk : kx ≤ 1) (hG : F_T_tick xst xgr ltm low lta llo lhi lmo rta ron rlo rhi rmo res rsi rli rar xgc xca xtl xno lco rwa a1 = some (kx, r, o_xst, o_xgr, o_ltm, o_low, o_lta, o_llo, o_lhi, o_lmo, o_rli, o_xgc, o_xca, o_xno, o_lco, o_rwa)) : Cw l y_W_tick method_12_code 4 [(0, 9, 12, 13)] ({ frames := 8, cells := 1, slots := 6, locals := 145 }) [.ref (ad 0), .int a1, .ref ao] g (kty cI cJ cZ) (wC cI cJ cZ ad xst xse xre xgr ltm low lta llo lhi lmo rta ron rlo rhi rmo rin res rsi rli rar xgc xca xls xtl xno lco rwa rad ((ao, .inl (cJ, 1, .inr (.inl xo))) :: rest)) (wC cI cJ cZ ad o_xst xse xre o_xgr o_ltm o_low o_lta o_llo o_lhi o_lmo rta ron rlo rhi rmo rin res rsi o_rli rar o_xgc o_xca xls xtl o_xno o_lco o_rwa rad ((ao, .inl (cJ, 1, .inr (.inl (if kx = 0 then vp_updL xo 0 r.toInt64 else xo)))) :: rest)) (nI kx) := by
  refine Cw.of (by decide) (Nat.le_of_ble_eq_true rfl) ?_
  intro p e s m below meth c A ls htab K hP hD hS hl
  obtain ⟨hx, hb, hr, hml, hown, hts, hlocks, hK, hA, hE⟩ := id K
  have hown : s.vm.findClass "LockTableLaw" = some m.cls := hown
  have K : kX p s m _ meth c "LockTableLaw" method_12_code 4 (some .int) A g (kty cI cJ cZ) := K
  have hl : lv_has ls 4 [(0, .ref (ad 0)), (1, .int a1), (2, .ref ao)] := hl
  refine lv_aload_n hx hb d_W_tick_0 rfl (lv_at hl 2 rfl) ?_
  refine lv_iconst (v := 0) hx hb d_W_tick_1 (by decide) ?_
  refine lv_aload_n hx hb d_W_tick_2 rfl (lv_at hl 0 rfl) ?_
  refine lv_iload_n hx hb d_W_tick_3 rfl (lv_at hl 1 rfl) ?_
  by_cases hk0 : kx = 0
  · subst hk0
    refine kci K hP hD hS (c_T_tick l hlt g cI cJ cZ ad xst xse xre xgr ltm low lta llo lhi lmo rta ron rlo rhi rmo rin res rsi rli rar xgc xca xls xtl xno lco rwa rad ((ao, .inl (cJ, 1, .inr (.inl xo))) :: rest) a1 r o_xst o_xgr o_ltm o_low o_lta o_llo o_lhi o_lmo o_rli o_xgc o_xca o_xno o_lco o_rwa hG) wm_591 wm_588 wm_589 wm_590 wm_46 hd_T_tick rfl rfl ⟨Nat.le_of_ble_eq_true rfl, Nat.le_of_ble_eq_true rfl⟩ ⟨Nat.zero_le _, Nat.zero_le _⟩ 2 0 rfl rfl rfl hl.1 (rest := [.int 0, .ref ao]) rfl (Nat.le_of_ble_eq_true rfl) d_W_tick_4 (fun H locs hP hD hS => ?_)
    refine lv_i2l (v := r.toInt64) hx hb d_W_tick_7 rfl ?_
    refine va_last hx hb hK hP hD hS 23 1 rfl rfl vp_in01 d_W_tick_8 (fun H locs hP hD hS => ?_)
    have hP : va_P g kcl (wC cI cJ cZ ad o_xst xse xre o_xgr o_ltm o_low o_lta o_llo o_lhi o_lmo rta ron rlo rhi rmo rin res rsi o_rli rar o_xgc o_xca xls xtl o_xno o_lco o_rwa rad ((ao, .inl (cJ, 1, .inr (.inl (if 0 = 0 then vp_updL xo 0 r.toInt64 else xo)))) :: rest)) H := hP
    have hD : va_D A (wC cI cJ cZ ad o_xst xse xre o_xgr o_ltm o_low o_lta o_llo o_lhi o_lmo rta ron rlo rhi rmo rin res rsi o_rli rar o_xgc o_xca xls xtl o_xno o_lco o_rwa rad ((ao, .inl (cJ, 1, .inr (.inl (if 0 = 0 then vp_updL xo 0 r.toInt64 else xo)))) :: rest)) := hD
    refine lv_goto (tgt := 15) hx hb d_W_tick_9 (by decide) ?_
    refine lv_iconst (v := 0) hx hb d_W_tick_15 (by decide) ?_
    refine W.widen (k := 1) (n := 6) (by decide) (by decide) ?_
    exact kri K hP hD hS d_W_tick_16 nI_0.symm
  · refine kxv K hP hD hS (cx_T_tick l hlt g cI cJ cZ ad xst xse xre xgr ltm low lta llo lhi lmo rta ron rlo rhi rmo rin res rsi rli rar xgc xca xls xtl xno lco rwa rad ((ao, .inl (cJ, 1, .inr (.inl xo))) :: rest) a1 kx r o_xst o_xgr o_ltm o_low o_lta o_llo o_lhi o_lmo o_rli o_xgc o_xca o_xno o_lco o_rwa hk0 hG) wm_591 wm_588 wm_589 wm_590 wm_46 hd_T_tick rfl rfl ⟨Nat.le_of_ble_eq_true rfl, Nat.le_of_ble_eq_true rfl⟩ ⟨Nat.le_of_ble_eq_true rfl, Nat.le_of_ble_eq_true rfl⟩ 2 0 rfl rfl rfl hl.1 (rest := [.int 0, .ref ao]) rfl (Nat.le_of_ble_eq_true rfl) d_W_tick_4 (fun ce q9 H locs hP hD hS hce hcv hcl => ?_)
    have e9 : (if kx = 0 then vp_updL xo 0 r.toInt64 else xo) = xo := if_neg hk0
    rcases (show kx = 1 by omega) with rfl
    · refine kcat (kx := 1) (name := "java/lang/IllegalArgumentException") K [] ⟨0, 9, 12, 13⟩ [] (by rw [htab]; rfl) (fun z hz => absurd hz List.not_mem_nil) (by decide) (by decide) wm_209 (by decide) hce hcv hcl ?_
      refine lv_astore_n (lv' := [(3, .ref q9), (0, .ref (ad 0)), (1, .int a1), (2, .ref ao)]) hx hb d_W_tick_12 rfl hl (by decide) rfl (fun ls hl => ?_)
      refine lv_iconst (v := 1) hx hb d_W_tick_13 (by decide) ?_
      rw [e9]
      exact kri K hP hD hS d_W_tick_14 (by decide)
set_option maxHeartbeats 4000000 in
set_option maxRecDepth 100000 in
theorem c_W_state (l : Launch) (hlt : l.stackTraces = false) (g : va_G) (cI cJ cZ : ClassId) (ad : Nat → Nat) (xst : Nat → Int32) (xse : Nat → Int32) (xre : Nat → Int32) (xgr : Nat → Int32) (ltm : Nat → Int32) (low : Nat → Int32) (lta : Nat → Int32) (llo : Nat → Int64) (lhi : Nat → Int64) (lmo : Nat → Int32) (rta : Nat → Int32) (ron : Nat → Int32) (rlo : Nat → Int64) (rhi : Nat → Int64) (rmo : Nat → Int32) (rin : Nat → Int32) (res : Nat → Int32) (rsi : Nat → Int32) (rli : Nat → Int32) (rar : Nat → Int32) (xgc : Int32) (xca : Int32) (xls : Int32) (xtl : Int32) (xno : Int32) (lco : Int32) (rwa : Int32) (rad : Int32) (ao : Nat) (xo : Nat → Int64) (rest : va_W) (a1 : Int32) (kx : Nat) (r : Int32) (hk : kx ≤ 1) (hG : F_T_state xst a1 = some (kx, r)) : Cw l y_W_state method_13_code 4 [(0, 9, 12, 13)] ({ frames := 8, cells := 1, slots := 6, locals := 131 }) [.ref (ad 0), .int a1, .ref ao] g (kty cI cJ cZ) (wC cI cJ cZ ad xst xse xre xgr ltm low lta llo lhi lmo rta ron rlo rhi rmo rin res rsi rli rar xgc xca xls xtl xno lco rwa rad ((ao, .inl (cJ, 1, .inr (.inl xo))) :: rest)) (wC cI cJ cZ ad xst xse xre xgr ltm low lta llo lhi lmo rta ron rlo rhi rmo rin res rsi rli rar xgc xca xls xtl xno lco rwa rad ((ao, .inl (cJ, 1, .inr (.inl (if kx = 0 then vp_updL xo 0 r.toInt64 else xo)))) :: rest)) (nI kx) := by
  refine Cw.of (by decide) (Nat.le_of_ble_eq_true rfl) ?_
  intro p e s m below meth c A ls htab K hP hD hS hl
  obtain ⟨hx, hb, hr, hml, hown, hts, hlocks, hK, hA, hE⟩ := id K
  have hown : s.vm.findClass "LockTableLaw" = some m.cls := hown
  have K : kX p s m _ meth c "LockTableLaw" method_13_code 4 (some .int) A g (kty cI cJ cZ) := K
  have hl : lv_has ls 4 [(0, .ref (ad 0)), (1, .int a1), (2, .ref ao)] := hl
  refine lv_aload_n hx hb d_W_state_0 rfl (lv_at hl 2 rfl) ?_
  refine lv_iconst (v := 0) hx hb d_W_state_1 (by decide) ?_
  refine lv_aload_n hx hb d_W_state_2 rfl (lv_at hl 0 rfl) ?_
  refine lv_iload_n hx hb d_W_state_3 rfl (lv_at hl 1 rfl) ?_
  by_cases hk0 : kx = 0
  · subst hk0
    refine kci K hP hD hS (c_T_state l hlt g cI cJ cZ ad xst xse xre xgr ltm low lta llo lhi lmo rta ron rlo rhi rmo rin res rsi rli rar xgc xca xls xtl xno lco rwa rad ((ao, .inl (cJ, 1, .inr (.inl xo))) :: rest) a1 r hG) wm_606 wm_603 wm_604 wm_605 wm_46 hd_T_state rfl rfl ⟨Nat.le_of_ble_eq_true rfl, Nat.le_of_ble_eq_true rfl⟩ ⟨Nat.zero_le _, Nat.zero_le _⟩ 2 0 rfl rfl rfl hl.1 (rest := [.int 0, .ref ao]) rfl (Nat.le_of_ble_eq_true rfl) d_W_state_4 (fun H locs hP hD hS => ?_)
    refine lv_i2l (v := r.toInt64) hx hb d_W_state_7 rfl ?_
    refine va_last hx hb hK hP hD hS 23 1 rfl rfl vp_in01 d_W_state_8 (fun H locs hP hD hS => ?_)
    have hP : va_P g kcl (wC cI cJ cZ ad xst xse xre xgr ltm low lta llo lhi lmo rta ron rlo rhi rmo rin res rsi rli rar xgc xca xls xtl xno lco rwa rad ((ao, .inl (cJ, 1, .inr (.inl (if 0 = 0 then vp_updL xo 0 r.toInt64 else xo)))) :: rest)) H := hP
    have hD : va_D A (wC cI cJ cZ ad xst xse xre xgr ltm low lta llo lhi lmo rta ron rlo rhi rmo rin res rsi rli rar xgc xca xls xtl xno lco rwa rad ((ao, .inl (cJ, 1, .inr (.inl (if 0 = 0 then vp_updL xo 0 r.toInt64 else xo)))) :: rest)) := hD
    refine lv_goto (tgt := 15) hx hb d_W_state_9 (by decide) ?_
    refine lv_iconst (v := 0) hx hb d_W_state_15 (by decide) ?_
    refine W.widen (k := 1) (n := 6) (by decide) (by decide) ?_
    exact kri K hP hD hS d_W_state_16 nI_0.symm
  · refine kxv K hP hD hS (cx_T_state l hlt g cI cJ cZ ad xst xse xre xgr ltm low lta llo lhi lmo rta ron rlo rhi rmo rin res rsi rli rar xgc xca xls xtl xno lco rwa rad ((ao, .inl (cJ, 1, .inr (.inl xo))) :: rest) a1 kx r hk0 hG) wm_606 wm_603 wm_604 wm_605 wm_46 hd_T_state rfl rfl ⟨Nat.le_of_ble_eq_true rfl, Nat.le_of_ble_eq_true rfl⟩ ⟨Nat.le_of_ble_eq_true rfl, Nat.le_of_ble_eq_true rfl⟩ 2 0 rfl rfl rfl hl.1 (rest := [.int 0, .ref ao]) rfl (Nat.le_of_ble_eq_true rfl) d_W_state_4 (fun ce q9 H locs hP hD hS hce hcv hcl => ?_)
    have e9 : (if kx = 0 then vp_updL xo 0 r.toInt64 else xo) = xo := if_neg hk0
    rcases (show kx = 1 by omega) with rfl
    · refine kcat (kx := 1) (name := "java/lang/IllegalArgumentException") K [] ⟨0, 9, 12, 13⟩ [] (by rw [htab]; rfl) (fun z hz => absurd hz List.not_mem_nil) (by decide) (by decide) wm_209 (by decide) hce hcv hcl ?_
      refine lv_astore_n (lv' := [(3, .ref q9), (0, .ref (ad 0)), (1, .int a1), (2, .ref ao)]) hx hb d_W_state_12 rfl hl (by decide) rfl (fun ls hl => ?_)
      refine lv_iconst (v := 1) hx hb d_W_state_13 (by decide) ?_
      rw [e9]
      exact kri K hP hD hS d_W_state_14 (by decide)
set_option maxHeartbeats 4000000 in
set_option maxRecDepth 100000 in
theorem c_W_serial (l : Launch) (hlt : l.stackTraces = false) (g : va_G) (cI cJ cZ : ClassId) (ad : Nat → Nat) (xst : Nat → Int32) (xse : Nat → Int32) (xre : Nat → Int32) (xgr : Nat → Int32) (ltm : Nat → Int32) (low : Nat → Int32) (lta : Nat → Int32) (llo : Nat → Int64) (lhi : Nat → Int64) (lmo : Nat → Int32) (rta : Nat → Int32) (ron : Nat → Int32) (rlo : Nat → Int64) (rhi : Nat → Int64) (rmo : Nat → Int32) (rin : Nat → Int32) (res : Nat → Int32) (rsi : Nat → Int32) (rli : Nat → Int32) (rar : Nat → Int32) (xgc : Int32) (xca : Int32) (xls : Int32) (xtl : Int32) (xno : Int32) (lco : Int32) (rwa : Int32) (rad : Int32) (ao : Nat) (xo : Nat → Int64) (rest : va_W) (a1 : Int32) (kx : Nat) (r : Int32) (hk : kx ≤ 1) (hG : F_T_serial xse a1 = some (kx, r)) : Cw l y_W_serial method_14_code 4 [(0, 9, 12, 13)] ({ frames := 8, cells := 1, slots := 6, locals := 131 }) [.ref (ad 0), .int a1, .ref ao] g (kty cI cJ cZ) (wC cI cJ cZ ad xst xse xre xgr ltm low lta llo lhi lmo rta ron rlo rhi rmo rin res rsi rli rar xgc xca xls xtl xno lco rwa rad ((ao, .inl (cJ, 1, .inr (.inl xo))) :: rest)) (wC cI cJ cZ ad xst xse xre xgr ltm low lta llo lhi lmo rta ron rlo rhi rmo rin res rsi rli rar xgc xca xls xtl xno lco rwa rad ((ao, .inl (cJ, 1, .inr (.inl (if kx = 0 then vp_updL xo 0 r.toInt64 else xo)))) :: rest)) (nI kx) := by
  refine Cw.of (by decide) (Nat.le_of_ble_eq_true rfl) ?_
  intro p e s m below meth c A ls htab K hP hD hS hl
  obtain ⟨hx, hb, hr, hml, hown, hts, hlocks, hK, hA, hE⟩ := id K
  have hown : s.vm.findClass "LockTableLaw" = some m.cls := hown
  have K : kX p s m _ meth c "LockTableLaw" method_14_code 4 (some .int) A g (kty cI cJ cZ) := K
  have hl : lv_has ls 4 [(0, .ref (ad 0)), (1, .int a1), (2, .ref ao)] := hl
  refine lv_aload_n hx hb d_W_serial_0 rfl (lv_at hl 2 rfl) ?_
  refine lv_iconst (v := 0) hx hb d_W_serial_1 (by decide) ?_
  refine lv_aload_n hx hb d_W_serial_2 rfl (lv_at hl 0 rfl) ?_
  refine lv_iload_n hx hb d_W_serial_3 rfl (lv_at hl 1 rfl) ?_
  by_cases hk0 : kx = 0
  · subst hk0
    refine kci K hP hD hS (c_T_serial l hlt g cI cJ cZ ad xst xse xre xgr ltm low lta llo lhi lmo rta ron rlo rhi rmo rin res rsi rli rar xgc xca xls xtl xno lco rwa rad ((ao, .inl (cJ, 1, .inr (.inl xo))) :: rest) a1 r hG) wm_613 wm_610 wm_611 wm_612 wm_46 hd_T_serial rfl rfl ⟨Nat.le_of_ble_eq_true rfl, Nat.le_of_ble_eq_true rfl⟩ ⟨Nat.zero_le _, Nat.zero_le _⟩ 2 0 rfl rfl rfl hl.1 (rest := [.int 0, .ref ao]) rfl (Nat.le_of_ble_eq_true rfl) d_W_serial_4 (fun H locs hP hD hS => ?_)
    refine lv_i2l (v := r.toInt64) hx hb d_W_serial_7 rfl ?_
    refine va_last hx hb hK hP hD hS 23 1 rfl rfl vp_in01 d_W_serial_8 (fun H locs hP hD hS => ?_)
    have hP : va_P g kcl (wC cI cJ cZ ad xst xse xre xgr ltm low lta llo lhi lmo rta ron rlo rhi rmo rin res rsi rli rar xgc xca xls xtl xno lco rwa rad ((ao, .inl (cJ, 1, .inr (.inl (if 0 = 0 then vp_updL xo 0 r.toInt64 else xo)))) :: rest)) H := hP
    have hD : va_D A (wC cI cJ cZ ad xst xse xre xgr ltm low lta llo lhi lmo rta ron rlo rhi rmo rin res rsi rli rar xgc xca xls xtl xno lco rwa rad ((ao, .inl (cJ, 1, .inr (.inl (if 0 = 0 then vp_updL xo 0 r.toInt64 else xo)))) :: rest)) := hD
    refine lv_goto (tgt := 15) hx hb d_W_serial_9 (by decide) ?_
    refine lv_iconst (v := 0) hx hb d_W_serial_15 (by decide) ?_
    refine W.widen (k := 1) (n := 6) (by decide) (by decide) ?_
    exact kri K hP hD hS d_W_serial_16 nI_0.symm
  · refine kxv K hP hD hS (cx_T_serial l hlt g cI cJ cZ ad xst xse xre xgr ltm low lta llo lhi lmo rta ron rlo rhi rmo rin res rsi rli rar xgc xca xls xtl xno lco rwa rad ((ao, .inl (cJ, 1, .inr (.inl xo))) :: rest) a1 kx r hk0 hG) wm_613 wm_610 wm_611 wm_612 wm_46 hd_T_serial rfl rfl ⟨Nat.le_of_ble_eq_true rfl, Nat.le_of_ble_eq_true rfl⟩ ⟨Nat.le_of_ble_eq_true rfl, Nat.le_of_ble_eq_true rfl⟩ 2 0 rfl rfl rfl hl.1 (rest := [.int 0, .ref ao]) rfl (Nat.le_of_ble_eq_true rfl) d_W_serial_4 (fun ce q9 H locs hP hD hS hce hcv hcl => ?_)
    have e9 : (if kx = 0 then vp_updL xo 0 r.toInt64 else xo) = xo := if_neg hk0
    rcases (show kx = 1 by omega) with rfl
    · refine kcat (kx := 1) (name := "java/lang/IllegalArgumentException") K [] ⟨0, 9, 12, 13⟩ [] (by rw [htab]; rfl) (fun z hz => absurd hz List.not_mem_nil) (by decide) (by decide) wm_209 (by decide) hce hcv hcl ?_
      refine lv_astore_n (lv' := [(3, .ref q9), (0, .ref (ad 0)), (1, .int a1), (2, .ref ao)]) hx hb d_W_serial_12 rfl hl (by decide) rfl (fun ls hl => ?_)
      refine lv_iconst (v := 1) hx hb d_W_serial_13 (by decide) ?_
      rw [e9]
      exact kri K hP hD hS d_W_serial_14 (by decide)
set_option maxHeartbeats 4000000 in
set_option maxRecDepth 100000 in
theorem c_W_ranges (l : Launch) (hlt : l.stackTraces = false) (g : va_G) (cI cJ cZ : ClassId) (ad : Nat → Nat) (xst : Nat → Int32) (xse : Nat → Int32) (xre : Nat → Int32) (xgr : Nat → Int32) (ltm : Nat → Int32) (low : Nat → Int32) (lta : Nat → Int32) (llo : Nat → Int64) (lhi : Nat → Int64) (lmo : Nat → Int32) (rta : Nat → Int32) (ron : Nat → Int32) (rlo : Nat → Int64) (rhi : Nat → Int64) (rmo : Nat → Int32) (rin : Nat → Int32) (res : Nat → Int32) (rsi : Nat → Int32) (rli : Nat → Int32) (rar : Nat → Int32) (xgc : Int32) (xca : Int32) (xls : Int32) (xtl : Int32) (xno : Int32) (lco : Int32) (rwa : Int32) (rad : Int32) (ao : Nat) (xo : Nat → Int64) (rest : va_W) (a1 : Int32) (a2 : Int32) (kx : Nat) (r : Int32) (hk : kx ≤ 1) (hG : F_T_ranges low lta lco a1 a2 = some (kx, r)) : Cw l y_W_ranges method_15_code 5 [(0, 10, 13, 13)] ({ frames := 8, cells := 1, slots := 6, locals := 132 }) [.ref (ad 0), .int a1, .int a2, .ref ao] g (kty cI cJ cZ) (wC cI cJ cZ ad xst xse xre xgr ltm low lta llo lhi lmo rta ron rlo rhi rmo rin res rsi rli rar xgc xca xls xtl xno lco rwa rad ((ao, .inl (cJ, 1, .inr (.inl xo))) :: rest)) (wC cI cJ cZ ad xst xse xre xgr ltm low lta llo lhi lmo rta ron rlo rhi rmo rin res rsi rli rar xgc xca xls xtl xno lco rwa rad ((ao, .inl (cJ, 1, .inr (.inl (if kx = 0 then vp_updL xo 0 r.toInt64 else xo)))) :: rest)) (nI kx) := by
  refine Cw.of (by decide) (Nat.le_of_ble_eq_true rfl) ?_
  intro p e s m below meth c A ls htab K hP hD hS hl
  obtain ⟨hx, hb, hr, hml, hown, hts, hlocks, hK, hA, hE⟩ := id K
  have hown : s.vm.findClass "LockTableLaw" = some m.cls := hown
  have K : kX p s m _ meth c "LockTableLaw" method_15_code 5 (some .int) A g (kty cI cJ cZ) := K
  have hl : lv_has ls 5 [(0, .ref (ad 0)), (1, .int a1), (2, .int a2), (3, .ref ao)] := hl
  refine lv_aload_n hx hb d_W_ranges_0 rfl (lv_at hl 3 rfl) ?_
  refine lv_iconst (v := 0) hx hb d_W_ranges_1 (by decide) ?_
  refine lv_aload_n hx hb d_W_ranges_2 rfl (lv_at hl 0 rfl) ?_
  refine lv_iload_n hx hb d_W_ranges_3 rfl (lv_at hl 1 rfl) ?_
  refine lv_iload_n hx hb d_W_ranges_4 rfl (lv_at hl 2 rfl) ?_
  by_cases hk0 : kx = 0
  · subst hk0
    refine kci K hP hD hS (c_T_ranges l hlt g cI cJ cZ ad xst xse xre xgr ltm low lta llo lhi lmo rta ron rlo rhi rmo rin res rsi rli rar xgc xca xls xtl xno lco rwa rad ((ao, .inl (cJ, 1, .inr (.inl xo))) :: rest) a1 a2 r hG) wm_620 wm_617 wm_618 wm_619 wm_46 hd_T_ranges rfl rfl ⟨Nat.le_of_ble_eq_true rfl, Nat.le_of_ble_eq_true rfl⟩ ⟨Nat.zero_le _, Nat.zero_le _⟩ 2 0 rfl rfl rfl hl.1 (rest := [.int 0, .ref ao]) rfl (Nat.le_of_ble_eq_true rfl) d_W_ranges_5 (fun H locs hP hD hS => ?_)
    refine lv_i2l (v := r.toInt64) hx hb d_W_ranges_8 rfl ?_
    refine va_last hx hb hK hP hD hS 23 1 rfl rfl vp_in01 d_W_ranges_9 (fun H locs hP hD hS => ?_)
    have hP : va_P g kcl (wC cI cJ cZ ad xst xse xre xgr ltm low lta llo lhi lmo rta ron rlo rhi rmo rin res rsi rli rar xgc xca xls xtl xno lco rwa rad ((ao, .inl (cJ, 1, .inr (.inl (if 0 = 0 then vp_updL xo 0 r.toInt64 else xo)))) :: rest)) H := hP
    have hD : va_D A (wC cI cJ cZ ad xst xse xre xgr ltm low lta llo lhi lmo rta ron rlo rhi rmo rin res rsi rli rar xgc xca xls xtl xno lco rwa rad ((ao, .inl (cJ, 1, .inr (.inl (if 0 = 0 then vp_updL xo 0 r.toInt64 else xo)))) :: rest)) := hD
    refine lv_goto (tgt := 17) hx hb d_W_ranges_10 (by decide) ?_
    refine lv_iconst (v := 0) hx hb d_W_ranges_17 (by decide) ?_
    refine W.widen (k := 1) (n := 6) (by decide) (by decide) ?_
    exact kri K hP hD hS d_W_ranges_18 nI_0.symm
  · refine kxv K hP hD hS (cx_T_ranges l hlt g cI cJ cZ ad xst xse xre xgr ltm low lta llo lhi lmo rta ron rlo rhi rmo rin res rsi rli rar xgc xca xls xtl xno lco rwa rad ((ao, .inl (cJ, 1, .inr (.inl xo))) :: rest) a1 a2 kx r hk0 hG) wm_620 wm_617 wm_618 wm_619 wm_46 hd_T_ranges rfl rfl ⟨Nat.le_of_ble_eq_true rfl, Nat.le_of_ble_eq_true rfl⟩ ⟨Nat.le_of_ble_eq_true rfl, Nat.le_of_ble_eq_true rfl⟩ 2 0 rfl rfl rfl hl.1 (rest := [.int 0, .ref ao]) rfl (Nat.le_of_ble_eq_true rfl) d_W_ranges_5 (fun ce q9 H locs hP hD hS hce hcv hcl => ?_)
    have e9 : (if kx = 0 then vp_updL xo 0 r.toInt64 else xo) = xo := if_neg hk0
    rcases (show kx = 1 by omega) with rfl
    · refine kcat (kx := 1) (name := "java/lang/IllegalArgumentException") K [] ⟨0, 10, 13, 13⟩ [] (by rw [htab]; rfl) (fun z hz => absurd hz List.not_mem_nil) (by decide) (by decide) wm_209 (by decide) hce hcv hcl ?_
      refine lv_astore (lv' := [(4, .ref q9), (0, .ref (ad 0)), (1, .int a1), (2, .int a2), (3, .ref ao)]) hx hb d_W_ranges_13 hl (by decide) rfl (fun ls hl => ?_)
      refine lv_iconst (v := 1) hx hb d_W_ranges_15 (by decide) ?_
      rw [e9]
      exact kri K hP hD hS d_W_ranges_16 (by decide)
set_option maxHeartbeats 4000000 in
set_option maxRecDepth 100000 in
theorem c_W_mode (l : Launch) (hlt : l.stackTraces = false) (g : va_G) (cI cJ cZ : ClassId) (ad : Nat → Nat) (xst : Nat → Int32) (xse : Nat → Int32) (xre : Nat → Int32) (xgr : Nat → Int32) (ltm : Nat → Int32) (low : Nat → Int32) (lta : Nat → Int32) (llo : Nat → Int64) (lhi : Nat → Int64) (lmo : Nat → Int32) (rta : Nat → Int32) (ron : Nat → Int32) (rlo : Nat → Int64) (rhi : Nat → Int64) (rmo : Nat → Int32) (rin : Nat → Int32) (res : Nat → Int32) (rsi : Nat → Int32) (rli : Nat → Int32) (rar : Nat → Int32) (xgc : Int32) (xca : Int32) (xls : Int32) (xtl : Int32) (xno : Int32) (lco : Int32) (rwa : Int32) (rad : Int32) (ao : Nat) (xo : Nat → Int64) (rest : va_W) (a1 : Int32) (a2 : Int32) (kx : Nat) (r : Int32) (hk : kx ≤ 1) (hG : F_T_mode ltm a1 a2 = some (kx, r)) : Cw l y_W_mode method_16_code 5 [(0, 10, 13, 13)] ({ frames := 8, cells := 1, slots := 6, locals := 132 }) [.ref (ad 0), .int a1, .int a2, .ref ao] g (kty cI cJ cZ) (wC cI cJ cZ ad xst xse xre xgr ltm low lta llo lhi lmo rta ron rlo rhi rmo rin res rsi rli rar xgc xca xls xtl xno lco rwa rad ((ao, .inl (cJ, 1, .inr (.inl xo))) :: rest)) (wC cI cJ cZ ad xst xse xre xgr ltm low lta llo lhi lmo rta ron rlo rhi rmo rin res rsi rli rar xgc xca xls xtl xno lco rwa rad ((ao, .inl (cJ, 1, .inr (.inl (if kx = 0 then vp_updL xo 0 r.toInt64 else xo)))) :: rest)) (nI kx) := by
  refine Cw.of (by decide) (Nat.le_of_ble_eq_true rfl) ?_
  intro p e s m below meth c A ls htab K hP hD hS hl
  obtain ⟨hx, hb, hr, hml, hown, hts, hlocks, hK, hA, hE⟩ := id K
  have hown : s.vm.findClass "LockTableLaw" = some m.cls := hown
  have K : kX p s m _ meth c "LockTableLaw" method_16_code 5 (some .int) A g (kty cI cJ cZ) := K
  have hl : lv_has ls 5 [(0, .ref (ad 0)), (1, .int a1), (2, .int a2), (3, .ref ao)] := hl
  refine lv_aload_n hx hb d_W_mode_0 rfl (lv_at hl 3 rfl) ?_
  refine lv_iconst (v := 0) hx hb d_W_mode_1 (by decide) ?_
  refine lv_aload_n hx hb d_W_mode_2 rfl (lv_at hl 0 rfl) ?_
  refine lv_iload_n hx hb d_W_mode_3 rfl (lv_at hl 1 rfl) ?_
  refine lv_iload_n hx hb d_W_mode_4 rfl (lv_at hl 2 rfl) ?_
  by_cases hk0 : kx = 0
  · subst hk0
    refine kci K hP hD hS (c_T_mode l hlt g cI cJ cZ ad xst xse xre xgr ltm low lta llo lhi lmo rta ron rlo rhi rmo rin res rsi rli rar xgc xca xls xtl xno lco rwa rad ((ao, .inl (cJ, 1, .inr (.inl xo))) :: rest) a1 a2 r hG) wm_627 wm_624 wm_625 wm_626 wm_46 hd_T_mode rfl rfl ⟨Nat.le_of_ble_eq_true rfl, Nat.le_of_ble_eq_true rfl⟩ ⟨Nat.zero_le _, Nat.zero_le _⟩ 2 0 rfl rfl rfl hl.1 (rest := [.int 0, .ref ao]) rfl (Nat.le_of_ble_eq_true rfl) d_W_mode_5 (fun H locs hP hD hS => ?_)
    refine lv_i2l (v := r.toInt64) hx hb d_W_mode_8 rfl ?_
    refine va_last hx hb hK hP hD hS 23 1 rfl rfl vp_in01 d_W_mode_9 (fun H locs hP hD hS => ?_)
    have hP : va_P g kcl (wC cI cJ cZ ad xst xse xre xgr ltm low lta llo lhi lmo rta ron rlo rhi rmo rin res rsi rli rar xgc xca xls xtl xno lco rwa rad ((ao, .inl (cJ, 1, .inr (.inl (if 0 = 0 then vp_updL xo 0 r.toInt64 else xo)))) :: rest)) H := hP
    have hD : va_D A (wC cI cJ cZ ad xst xse xre xgr ltm low lta llo lhi lmo rta ron rlo rhi rmo rin res rsi rli rar xgc xca xls xtl xno lco rwa rad ((ao, .inl (cJ, 1, .inr (.inl (if 0 = 0 then vp_updL xo 0 r.toInt64 else xo)))) :: rest)) := hD
    refine lv_goto (tgt := 17) hx hb d_W_mode_10 (by decide) ?_
    refine lv_iconst (v := 0) hx hb d_W_mode_17 (by decide) ?_
    refine W.widen (k := 1) (n := 6) (by decide) (by decide) ?_
    exact kri K hP hD hS d_W_mode_18 nI_0.symm
  · refine kxv K hP hD hS (cx_T_mode l hlt g cI cJ cZ ad xst xse xre xgr ltm low lta llo lhi lmo rta ron rlo rhi rmo rin res rsi rli rar xgc xca xls xtl xno lco rwa rad ((ao, .inl (cJ, 1, .inr (.inl xo))) :: rest) a1 a2 kx r hk0 hG) wm_627 wm_624 wm_625 wm_626 wm_46 hd_T_mode rfl rfl ⟨Nat.le_of_ble_eq_true rfl, Nat.le_of_ble_eq_true rfl⟩ ⟨Nat.le_of_ble_eq_true rfl, Nat.le_of_ble_eq_true rfl⟩ 2 0 rfl rfl rfl hl.1 (rest := [.int 0, .ref ao]) rfl (Nat.le_of_ble_eq_true rfl) d_W_mode_5 (fun ce q9 H locs hP hD hS hce hcv hcl => ?_)
    have e9 : (if kx = 0 then vp_updL xo 0 r.toInt64 else xo) = xo := if_neg hk0
    rcases (show kx = 1 by omega) with rfl
    · refine kcat (kx := 1) (name := "java/lang/IllegalArgumentException") K [] ⟨0, 10, 13, 13⟩ [] (by rw [htab]; rfl) (fun z hz => absurd hz List.not_mem_nil) (by decide) (by decide) wm_209 (by decide) hce hcv hcl ?_
      refine lv_astore (lv' := [(4, .ref q9), (0, .ref (ad 0)), (1, .int a1), (2, .int a2), (3, .ref ao)]) hx hb d_W_mode_13 hl (by decide) rfl (fun ls hl => ?_)
      refine lv_iconst (v := 1) hx hb d_W_mode_15 (by decide) ?_
      rw [e9]
      exact kri K hP hD hS d_W_mode_16 (by decide)
set_option maxHeartbeats 4000000 in
set_option maxRecDepth 100000 in
theorem c_W_right (l : Launch) (hlt : l.stackTraces = false) (g : va_G) (cI cJ cZ : ClassId) (ad : Nat → Nat) (xst : Nat → Int32) (xse : Nat → Int32) (xre : Nat → Int32) (xgr : Nat → Int32) (ltm : Nat → Int32) (low : Nat → Int32) (lta : Nat → Int32) (llo : Nat → Int64) (lhi : Nat → Int64) (lmo : Nat → Int32) (rta : Nat → Int32) (ron : Nat → Int32) (rlo : Nat → Int64) (rhi : Nat → Int64) (rmo : Nat → Int32) (rin : Nat → Int32) (res : Nat → Int32) (rsi : Nat → Int32) (rli : Nat → Int32) (rar : Nat → Int32) (xgc : Int32) (xca : Int32) (xls : Int32) (xtl : Int32) (xno : Int32) (lco : Int32) (rwa : Int32) (rad : Int32) (ao : Nat) (xo : Nat → Int64) (rest : va_W) (a1 : Int32) (a2 : Int32) (a3 : Int64) (kx : Nat) (r : Int32) (hk : kx ≤ 1) (hG : F_T_right ltm low lta llo lhi lmo lco a1 a2 a3 = some (kx, r)) : Cw l y_W_right method_17_code 7 [(0, 12, 15, 13)] ({ frames := 8, cells := 1, slots := 6, locals := 134 }) [.ref (ad 0), .int a1, .int a2, .long a3, .ref ao] g (kty cI cJ cZ) (wC cI cJ cZ ad xst xse xre xgr ltm low lta llo lhi lmo rta ron rlo rhi rmo rin res rsi rli rar xgc xca xls xtl xno lco rwa rad ((ao, .inl (cJ, 1, .inr (.inl xo))) :: rest)) (wC cI cJ cZ ad xst xse xre xgr ltm low lta llo lhi lmo rta ron rlo rhi rmo rin res rsi rli rar xgc xca xls xtl xno lco rwa rad ((ao, .inl (cJ, 1, .inr (.inl (if kx = 0 then vp_updL xo 0 r.toInt64 else xo)))) :: rest)) (nI kx) := by
  refine Cw.of (by decide) (Nat.le_of_ble_eq_true rfl) ?_
  intro p e s m below meth c A ls htab K hP hD hS hl
  obtain ⟨hx, hb, hr, hml, hown, hts, hlocks, hK, hA, hE⟩ := id K
  have hown : s.vm.findClass "LockTableLaw" = some m.cls := hown
  have K : kX p s m _ meth c "LockTableLaw" method_17_code 7 (some .int) A g (kty cI cJ cZ) := K
  have hl : lv_has ls 7 [(0, .ref (ad 0)), (1, .int a1), (2, .int a2), (3, .long a3), (5, .ref ao)] := hl
  refine lv_aload hx hb d_W_right_0 (lv_at hl 4 rfl) ?_
  refine lv_iconst (v := 0) hx hb d_W_right_2 (by decide) ?_
  refine lv_aload_n hx hb d_W_right_3 rfl (lv_at hl 0 rfl) ?_
  refine lv_iload_n hx hb d_W_right_4 rfl (lv_at hl 1 rfl) ?_
  refine lv_iload_n hx hb d_W_right_5 rfl (lv_at hl 2 rfl) ?_
  refine lv_lload_n hx hb d_W_right_6 rfl (lv_at hl 3 rfl) ?_
  by_cases hk0 : kx = 0
  · subst hk0
    refine kci K hP hD hS (c_T_right l hlt g cI cJ cZ ad xst xse xre xgr ltm low lta llo lhi lmo rta ron rlo rhi rmo rin res rsi rli rar xgc xca xls xtl xno lco rwa rad ((ao, .inl (cJ, 1, .inr (.inl xo))) :: rest) a1 a2 a3 r hG) wm_634 wm_631 wm_632 wm_633 wm_46 hd_T_right rfl rfl ⟨Nat.le_of_ble_eq_true rfl, Nat.le_of_ble_eq_true rfl⟩ ⟨Nat.zero_le _, Nat.zero_le _⟩ 2 0 rfl rfl rfl hl.1 (rest := [.int 0, .ref ao]) rfl (Nat.le_of_ble_eq_true rfl) d_W_right_7 (fun H locs hP hD hS => ?_)
    refine lv_i2l (v := r.toInt64) hx hb d_W_right_10 rfl ?_
    refine va_last hx hb hK hP hD hS 23 1 rfl rfl vp_in01 d_W_right_11 (fun H locs hP hD hS => ?_)
    have hP : va_P g kcl (wC cI cJ cZ ad xst xse xre xgr ltm low lta llo lhi lmo rta ron rlo rhi rmo rin res rsi rli rar xgc xca xls xtl xno lco rwa rad ((ao, .inl (cJ, 1, .inr (.inl (if 0 = 0 then vp_updL xo 0 r.toInt64 else xo)))) :: rest)) H := hP
    have hD : va_D A (wC cI cJ cZ ad xst xse xre xgr ltm low lta llo lhi lmo rta ron rlo rhi rmo rin res rsi rli rar xgc xca xls xtl xno lco rwa rad ((ao, .inl (cJ, 1, .inr (.inl (if 0 = 0 then vp_updL xo 0 r.toInt64 else xo)))) :: rest)) := hD
    refine lv_goto (tgt := 19) hx hb d_W_right_12 (by decide) ?_
    refine lv_iconst (v := 0) hx hb d_W_right_19 (by decide) ?_
    refine W.widen (k := 1) (n := 6) (by decide) (by decide) ?_
    exact kri K hP hD hS d_W_right_20 nI_0.symm
  · refine kxv K hP hD hS (cx_T_right l hlt g cI cJ cZ ad xst xse xre xgr ltm low lta llo lhi lmo rta ron rlo rhi rmo rin res rsi rli rar xgc xca xls xtl xno lco rwa rad ((ao, .inl (cJ, 1, .inr (.inl xo))) :: rest) a1 a2 a3 kx r hk0 hG) wm_634 wm_631 wm_632 wm_633 wm_46 hd_T_right rfl rfl ⟨Nat.le_of_ble_eq_true rfl, Nat.le_of_ble_eq_true rfl⟩ ⟨Nat.le_of_ble_eq_true rfl, Nat.le_of_ble_eq_true rfl⟩ 2 0 rfl rfl rfl hl.1 (rest := [.int 0, .ref ao]) rfl (Nat.le_of_ble_eq_true rfl) d_W_right_7 (fun ce q9 H locs hP hD hS hce hcv hcl => ?_)
    have e9 : (if kx = 0 then vp_updL xo 0 r.toInt64 else xo) = xo := if_neg hk0
    rcases (show kx = 1 by omega) with rfl
    · refine kcat (kx := 1) (name := "java/lang/IllegalArgumentException") K [] ⟨0, 12, 15, 13⟩ [] (by rw [htab]; rfl) (fun z hz => absurd hz List.not_mem_nil) (by decide) (by decide) wm_209 (by decide) hce hcv hcl ?_
      refine lv_astore (lv' := [(6, .ref q9), (0, .ref (ad 0)), (1, .int a1), (2, .int a2), (3, .long a3), (5, .ref ao)]) hx hb d_W_right_15 hl (by decide) rfl (fun ls hl => ?_)
      refine lv_iconst (v := 1) hx hb d_W_right_17 (by decide) ?_
      rw [e9]
      exact kri K hP hD hS d_W_right_18 (by decide)
set_option maxHeartbeats 4000000 in
set_option maxRecDepth 100000 in
theorem c_W_wants (l : Launch) (hlt : l.stackTraces = false) (g : va_G) (cI cJ cZ : ClassId) (ad : Nat → Nat) (xst : Nat → Int32) (xse : Nat → Int32) (xre : Nat → Int32) (xgr : Nat → Int32) (ltm : Nat → Int32) (low : Nat → Int32) (lta : Nat → Int32) (llo : Nat → Int64) (lhi : Nat → Int64) (lmo : Nat → Int32) (rta : Nat → Int32) (ron : Nat → Int32) (rlo : Nat → Int64) (rhi : Nat → Int64) (rmo : Nat → Int32) (rin : Nat → Int32) (res : Nat → Int32) (rsi : Nat → Int32) (rli : Nat → Int32) (rar : Nat → Int32) (xgc : Int32) (xca : Int32) (xls : Int32) (xtl : Int32) (xno : Int32) (lco : Int32) (rwa : Int32) (rad : Int32) (ao : Nat) (xo : Nat → Int64) (rest : va_W) (a1 : Int32) (a2 : Int32) (kx : Nat) (r : Int32) (hk : kx ≤ 2) (hG : F_T_wants xst rta ron rmo rin res rsi xno a1 a2 = some (kx, r)) : Cw l y_W_wants method_18_code 5 [(0, 10, 13, 13), (0, 10, 17, 15)] ({ frames := 8, cells := 1, slots := 6, locals := 133 }) [.ref (ad 0), .int a1, .int a2, .ref ao] g (kty cI cJ cZ) (wC cI cJ cZ ad xst xse xre xgr ltm low lta llo lhi lmo rta ron rlo rhi rmo rin res rsi rli rar xgc xca xls xtl xno lco rwa rad ((ao, .inl (cJ, 1, .inr (.inl xo))) :: rest)) (wC cI cJ cZ ad xst xse xre xgr ltm low lta llo lhi lmo rta ron rlo rhi rmo rin res rsi rli rar xgc xca xls xtl xno lco rwa rad ((ao, .inl (cJ, 1, .inr (.inl (if kx = 0 then vp_updL xo 0 r.toInt64 else xo)))) :: rest)) (nI kx) := by
  refine Cw.of (by decide) (Nat.le_of_ble_eq_true rfl) ?_
  intro p e s m below meth c A ls htab K hP hD hS hl
  obtain ⟨hx, hb, hr, hml, hown, hts, hlocks, hK, hA, hE⟩ := id K
  have hown : s.vm.findClass "LockTableLaw" = some m.cls := hown
  have K : kX p s m _ meth c "LockTableLaw" method_18_code 5 (some .int) A g (kty cI cJ cZ) := K
  have hl : lv_has ls 5 [(0, .ref (ad 0)), (1, .int a1), (2, .int a2), (3, .ref ao)] := hl
  refine lv_aload_n hx hb d_W_wants_0 rfl (lv_at hl 3 rfl) ?_
  refine lv_iconst (v := 0) hx hb d_W_wants_1 (by decide) ?_
  refine lv_aload_n hx hb d_W_wants_2 rfl (lv_at hl 0 rfl) ?_
  refine lv_iload_n hx hb d_W_wants_3 rfl (lv_at hl 1 rfl) ?_
  refine lv_iload_n hx hb d_W_wants_4 rfl (lv_at hl 2 rfl) ?_
  by_cases hk0 : kx = 0
  · subst hk0
    refine kci K hP hD hS (c_T_wants l hlt g cI cJ cZ ad xst xse xre xgr ltm low lta llo lhi lmo rta ron rlo rhi rmo rin res rsi rli rar xgc xca xls xtl xno lco rwa rad ((ao, .inl (cJ, 1, .inr (.inl xo))) :: rest) a1 a2 r hG) wm_648 wm_645 wm_646 wm_647 wm_46 hd_T_wants rfl rfl ⟨Nat.le_of_ble_eq_true rfl, Nat.le_of_ble_eq_true rfl⟩ ⟨Nat.zero_le _, Nat.zero_le _⟩ 2 0 rfl rfl rfl hl.1 (rest := [.int 0, .ref ao]) rfl (Nat.le_of_ble_eq_true rfl) d_W_wants_5 (fun H locs hP hD hS => ?_)
    refine lv_i2l (v := r.toInt64) hx hb d_W_wants_8 rfl ?_
    refine va_last hx hb hK hP hD hS 23 1 rfl rfl vp_in01 d_W_wants_9 (fun H locs hP hD hS => ?_)
    have hP : va_P g kcl (wC cI cJ cZ ad xst xse xre xgr ltm low lta llo lhi lmo rta ron rlo rhi rmo rin res rsi rli rar xgc xca xls xtl xno lco rwa rad ((ao, .inl (cJ, 1, .inr (.inl (if 0 = 0 then vp_updL xo 0 r.toInt64 else xo)))) :: rest)) H := hP
    have hD : va_D A (wC cI cJ cZ ad xst xse xre xgr ltm low lta llo lhi lmo rta ron rlo rhi rmo rin res rsi rli rar xgc xca xls xtl xno lco rwa rad ((ao, .inl (cJ, 1, .inr (.inl (if 0 = 0 then vp_updL xo 0 r.toInt64 else xo)))) :: rest)) := hD
    refine lv_goto (tgt := 21) hx hb d_W_wants_10 (by decide) ?_
    refine lv_iconst (v := 0) hx hb d_W_wants_21 (by decide) ?_
    refine W.widen (k := 1) (n := 6) (by decide) (by decide) ?_
    exact kri K hP hD hS d_W_wants_22 nI_0.symm
  · refine kxv K hP hD hS (cx_T_wants l hlt g cI cJ cZ ad xst xse xre xgr ltm low lta llo lhi lmo rta ron rlo rhi rmo rin res rsi rli rar xgc xca xls xtl xno lco rwa rad ((ao, .inl (cJ, 1, .inr (.inl xo))) :: rest) a1 a2 kx r hk0 hG) wm_648 wm_645 wm_646 wm_647 wm_46 hd_T_wants rfl rfl ⟨Nat.le_of_ble_eq_true rfl, Nat.le_of_ble_eq_true rfl⟩ ⟨Nat.le_of_ble_eq_true rfl, Nat.le_of_ble_eq_true rfl⟩ 2 0 rfl rfl rfl hl.1 (rest := [.int 0, .ref ao]) rfl (Nat.le_of_ble_eq_true rfl) d_W_wants_5 (fun ce q9 H locs hP hD hS hce hcv hcl => ?_)
    have e9 : (if kx = 0 then vp_updL xo 0 r.toInt64 else xo) = xo := if_neg hk0
    rcases (show kx = 1 ∨ kx = 2 by omega) with rfl | rfl
    · refine kcat (kx := 1) (name := "java/lang/IllegalArgumentException") K [] ⟨0, 10, 13, 13⟩ [⟨0, 10, 17, 15⟩] (by rw [htab]; rfl) (fun z hz => absurd hz List.not_mem_nil) (by decide) (by decide) wm_209 (by decide) hce hcv hcl ?_
      refine lv_astore (lv' := [(4, .ref q9), (0, .ref (ad 0)), (1, .int a1), (2, .int a2), (3, .ref ao)]) hx hb d_W_wants_13 hl (by decide) rfl (fun ls hl => ?_)
      refine lv_iconst (v := 1) hx hb d_W_wants_15 (by decide) ?_
      rw [e9]
      exact kri K hP hD hS d_W_wants_16 (by decide)
    · refine kcat (kx := 2) (name := "java/lang/IllegalStateException") K [⟨0, 10, 13, 13⟩] ⟨0, 10, 17, 15⟩ [] (by rw [htab]; rfl) (fun z hz => by rw [List.mem_singleton.mp hz]; exact ⟨by decide, "java/lang/IllegalArgumentException", wm_209, by decide⟩) (by decide) (by decide) wm_210 (by decide) hce hcv hcl ?_
      refine lv_astore (lv' := [(4, .ref q9), (0, .ref (ad 0)), (1, .int a1), (2, .int a2), (3, .ref ao)]) hx hb d_W_wants_17 hl (by decide) rfl (fun ls hl => ?_)
      refine lv_iconst (v := 2) hx hb d_W_wants_19 (by decide) ?_
      rw [e9]
      exact kri K hP hD hS d_W_wants_20 (by decide)
set_option maxHeartbeats 4000000 in
set_option maxRecDepth 100000 in
theorem c_W_behind (l : Launch) (hlt : l.stackTraces = false) (g : va_G) (cI cJ cZ : ClassId) (ad : Nat → Nat) (xst : Nat → Int32) (xse : Nat → Int32) (xre : Nat → Int32) (xgr : Nat → Int32) (ltm : Nat → Int32) (low : Nat → Int32) (lta : Nat → Int32) (llo : Nat → Int64) (lhi : Nat → Int64) (lmo : Nat → Int32) (rta : Nat → Int32) (ron : Nat → Int32) (rlo : Nat → Int64) (rhi : Nat → Int64) (rmo : Nat → Int32) (rin : Nat → Int32) (res : Nat → Int32) (rsi : Nat → Int32) (rli : Nat → Int32) (rar : Nat → Int32) (xgc : Int32) (xca : Int32) (xls : Int32) (xtl : Int32) (xno : Int32) (lco : Int32) (rwa : Int32) (rad : Int32) (ao : Nat) (xo : Nat → Int64) (rest : va_W) (a1 : Int32) (kx : Nat) (r : Int32) (hk : kx ≤ 1) (hG : F_T_behind xst ltm low lta llo lhi lmo rta ron rlo rhi rmo rli lco rwa a1 = some (kx, r)) : Cw l y_W_behind method_19_code 4 [(0, 9, 12, 13)] ({ frames := 8, cells := 1, slots := 6, locals := 131 }) [.ref (ad 0), .int a1, .ref ao] g (kty cI cJ cZ) (wC cI cJ cZ ad xst xse xre xgr ltm low lta llo lhi lmo rta ron rlo rhi rmo rin res rsi rli rar xgc xca xls xtl xno lco rwa rad ((ao, .inl (cJ, 1, .inr (.inl xo))) :: rest)) (wC cI cJ cZ ad xst xse xre xgr ltm low lta llo lhi lmo rta ron rlo rhi rmo rin res rsi rli rar xgc xca xls xtl xno lco rwa rad ((ao, .inl (cJ, 1, .inr (.inl (if kx = 0 then vp_updL xo 0 r.toInt64 else xo)))) :: rest)) (nI kx) := by
  refine Cw.of (by decide) (Nat.le_of_ble_eq_true rfl) ?_
  intro p e s m below meth c A ls htab K hP hD hS hl
  obtain ⟨hx, hb, hr, hml, hown, hts, hlocks, hK, hA, hE⟩ := id K
  have hown : s.vm.findClass "LockTableLaw" = some m.cls := hown
  have K : kX p s m _ meth c "LockTableLaw" method_19_code 4 (some .int) A g (kty cI cJ cZ) := K
  have hl : lv_has ls 4 [(0, .ref (ad 0)), (1, .int a1), (2, .ref ao)] := hl
  refine lv_aload_n hx hb d_W_behind_0 rfl (lv_at hl 2 rfl) ?_
  refine lv_iconst (v := 0) hx hb d_W_behind_1 (by decide) ?_
  refine lv_aload_n hx hb d_W_behind_2 rfl (lv_at hl 0 rfl) ?_
  refine lv_iload_n hx hb d_W_behind_3 rfl (lv_at hl 1 rfl) ?_
  by_cases hk0 : kx = 0
  · subst hk0
    refine kci K hP hD hS (c_T_behind l hlt g cI cJ cZ ad xst xse xre xgr ltm low lta llo lhi lmo rta ron rlo rhi rmo rin res rsi rli rar xgc xca xls xtl xno lco rwa rad ((ao, .inl (cJ, 1, .inr (.inl xo))) :: rest) a1 r hG) wm_656 wm_653 wm_654 wm_655 wm_46 hd_T_behind rfl rfl ⟨Nat.le_of_ble_eq_true rfl, Nat.le_of_ble_eq_true rfl⟩ ⟨Nat.zero_le _, Nat.zero_le _⟩ 2 0 rfl rfl rfl hl.1 (rest := [.int 0, .ref ao]) rfl (Nat.le_of_ble_eq_true rfl) d_W_behind_4 (fun H locs hP hD hS => ?_)
    refine lv_i2l (v := r.toInt64) hx hb d_W_behind_7 rfl ?_
    refine va_last hx hb hK hP hD hS 23 1 rfl rfl vp_in01 d_W_behind_8 (fun H locs hP hD hS => ?_)
    have hP : va_P g kcl (wC cI cJ cZ ad xst xse xre xgr ltm low lta llo lhi lmo rta ron rlo rhi rmo rin res rsi rli rar xgc xca xls xtl xno lco rwa rad ((ao, .inl (cJ, 1, .inr (.inl (if 0 = 0 then vp_updL xo 0 r.toInt64 else xo)))) :: rest)) H := hP
    have hD : va_D A (wC cI cJ cZ ad xst xse xre xgr ltm low lta llo lhi lmo rta ron rlo rhi rmo rin res rsi rli rar xgc xca xls xtl xno lco rwa rad ((ao, .inl (cJ, 1, .inr (.inl (if 0 = 0 then vp_updL xo 0 r.toInt64 else xo)))) :: rest)) := hD
    refine lv_goto (tgt := 15) hx hb d_W_behind_9 (by decide) ?_
    refine lv_iconst (v := 0) hx hb d_W_behind_15 (by decide) ?_
    refine W.widen (k := 1) (n := 6) (by decide) (by decide) ?_
    exact kri K hP hD hS d_W_behind_16 nI_0.symm
  · refine kxv K hP hD hS (cx_T_behind l hlt g cI cJ cZ ad xst xse xre xgr ltm low lta llo lhi lmo rta ron rlo rhi rmo rin res rsi rli rar xgc xca xls xtl xno lco rwa rad ((ao, .inl (cJ, 1, .inr (.inl xo))) :: rest) a1 kx r hk0 hG) wm_656 wm_653 wm_654 wm_655 wm_46 hd_T_behind rfl rfl ⟨Nat.le_of_ble_eq_true rfl, Nat.le_of_ble_eq_true rfl⟩ ⟨Nat.le_of_ble_eq_true rfl, Nat.le_of_ble_eq_true rfl⟩ 2 0 rfl rfl rfl hl.1 (rest := [.int 0, .ref ao]) rfl (Nat.le_of_ble_eq_true rfl) d_W_behind_4 (fun ce q9 H locs hP hD hS hce hcv hcl => ?_)
    have e9 : (if kx = 0 then vp_updL xo 0 r.toInt64 else xo) = xo := if_neg hk0
    rcases (show kx = 1 by omega) with rfl
    · refine kcat (kx := 1) (name := "java/lang/IllegalArgumentException") K [] ⟨0, 9, 12, 13⟩ [] (by rw [htab]; rfl) (fun z hz => absurd hz List.not_mem_nil) (by decide) (by decide) wm_209 (by decide) hce hcv hcl ?_
      refine lv_astore_n (lv' := [(3, .ref q9), (0, .ref (ad 0)), (1, .int a1), (2, .ref ao)]) hx hb d_W_behind_12 rfl hl (by decide) rfl (fun ls hl => ?_)
      refine lv_iconst (v := 1) hx hb d_W_behind_13 (by decide) ?_
      rw [e9]
      exact kri K hP hD hS d_W_behind_14 (by decide)
set_option maxHeartbeats 4000000 in
set_option maxRecDepth 100000 in
theorem c_W_join (l : Launch) (hlt : l.stackTraces = false) (g : va_G) (cI cJ cZ : ClassId) (ad : Nat → Nat) (xst : Nat → Int32) (xse : Nat → Int32) (xre : Nat → Int32) (xgr : Nat → Int32) (ltm : Nat → Int32) (low : Nat → Int32) (lta : Nat → Int32) (llo : Nat → Int64) (lhi : Nat → Int64) (lmo : Nat → Int32) (rta : Nat → Int32) (ron : Nat → Int32) (rlo : Nat → Int64) (rhi : Nat → Int64) (rmo : Nat → Int32) (rin : Nat → Int32) (res : Nat → Int32) (rsi : Nat → Int32) (rli : Nat → Int32) (rar : Nat → Int32) (xgc : Int32) (xca : Int32) (xls : Int32) (xtl : Int32) (xno : Int32) (lco : Int32) (rwa : Int32) (rad : Int32) (ao : Nat) (xo : Nat → Int64) (rest : va_W) (a1 : Int32) (a2 : Int32) (kx : Nat) (r : Int32) (hk : kx ≤ 1) (hG : F_T_join a1 a2 = some (kx, r)) : Cw l y_W_join method_20_code 5 [(0, 10, 13, 13)] ({ frames := 8, cells := 1, slots := 6, locals := 132 }) [.ref (ad 0), .int a1, .int a2, .ref ao] g (kty cI cJ cZ) (wC cI cJ cZ ad xst xse xre xgr ltm low lta llo lhi lmo rta ron rlo rhi rmo rin res rsi rli rar xgc xca xls xtl xno lco rwa rad ((ao, .inl (cJ, 1, .inr (.inl xo))) :: rest)) (wC cI cJ cZ ad xst xse xre xgr ltm low lta llo lhi lmo rta ron rlo rhi rmo rin res rsi rli rar xgc xca xls xtl xno lco rwa rad ((ao, .inl (cJ, 1, .inr (.inl (if kx = 0 then vp_updL xo 0 r.toInt64 else xo)))) :: rest)) (nI kx) := by
  refine Cw.of (by decide) (Nat.le_of_ble_eq_true rfl) ?_
  intro p e s m below meth c A ls htab K hP hD hS hl
  obtain ⟨hx, hb, hr, hml, hown, hts, hlocks, hK, hA, hE⟩ := id K
  have hown : s.vm.findClass "LockTableLaw" = some m.cls := hown
  have K : kX p s m _ meth c "LockTableLaw" method_20_code 5 (some .int) A g (kty cI cJ cZ) := K
  have hl : lv_has ls 5 [(0, .ref (ad 0)), (1, .int a1), (2, .int a2), (3, .ref ao)] := hl
  refine lv_aload_n hx hb d_W_join_0 rfl (lv_at hl 3 rfl) ?_
  refine lv_iconst (v := 0) hx hb d_W_join_1 (by decide) ?_
  refine lv_aload_n hx hb d_W_join_2 rfl (lv_at hl 0 rfl) ?_
  refine lv_iload_n hx hb d_W_join_3 rfl (lv_at hl 1 rfl) ?_
  refine lv_iload_n hx hb d_W_join_4 rfl (lv_at hl 2 rfl) ?_
  by_cases hk0 : kx = 0
  · subst hk0
    refine kci K hP hD hS (c_T_join l hlt g cI cJ cZ ad xst xse xre xgr ltm low lta llo lhi lmo rta ron rlo rhi rmo rin res rsi rli rar xgc xca xls xtl xno lco rwa rad ((ao, .inl (cJ, 1, .inr (.inl xo))) :: rest) a1 a2 r hG) wm_663 wm_660 wm_661 wm_662 wm_46 hd_T_join rfl rfl ⟨Nat.le_of_ble_eq_true rfl, Nat.le_of_ble_eq_true rfl⟩ ⟨Nat.zero_le _, Nat.zero_le _⟩ 2 0 rfl rfl rfl hl.1 (rest := [.int 0, .ref ao]) rfl (Nat.le_of_ble_eq_true rfl) d_W_join_5 (fun H locs hP hD hS => ?_)
    refine lv_i2l (v := r.toInt64) hx hb d_W_join_8 rfl ?_
    refine va_last hx hb hK hP hD hS 23 1 rfl rfl vp_in01 d_W_join_9 (fun H locs hP hD hS => ?_)
    have hP : va_P g kcl (wC cI cJ cZ ad xst xse xre xgr ltm low lta llo lhi lmo rta ron rlo rhi rmo rin res rsi rli rar xgc xca xls xtl xno lco rwa rad ((ao, .inl (cJ, 1, .inr (.inl (if 0 = 0 then vp_updL xo 0 r.toInt64 else xo)))) :: rest)) H := hP
    have hD : va_D A (wC cI cJ cZ ad xst xse xre xgr ltm low lta llo lhi lmo rta ron rlo rhi rmo rin res rsi rli rar xgc xca xls xtl xno lco rwa rad ((ao, .inl (cJ, 1, .inr (.inl (if 0 = 0 then vp_updL xo 0 r.toInt64 else xo)))) :: rest)) := hD
    refine lv_goto (tgt := 17) hx hb d_W_join_10 (by decide) ?_
    refine lv_iconst (v := 0) hx hb d_W_join_17 (by decide) ?_
    refine W.widen (k := 1) (n := 6) (by decide) (by decide) ?_
    exact kri K hP hD hS d_W_join_18 nI_0.symm
  · refine kxv K hP hD hS (cx_T_join l hlt g cI cJ cZ ad xst xse xre xgr ltm low lta llo lhi lmo rta ron rlo rhi rmo rin res rsi rli rar xgc xca xls xtl xno lco rwa rad ((ao, .inl (cJ, 1, .inr (.inl xo))) :: rest) a1 a2 kx r hk0 hG) wm_663 wm_660 wm_661 wm_662 wm_46 hd_T_join rfl rfl ⟨Nat.le_of_ble_eq_true rfl, Nat.le_of_ble_eq_true rfl⟩ ⟨Nat.le_of_ble_eq_true rfl, Nat.le_of_ble_eq_true rfl⟩ 2 0 rfl rfl rfl hl.1 (rest := [.int 0, .ref ao]) rfl (Nat.le_of_ble_eq_true rfl) d_W_join_5 (fun ce q9 H locs hP hD hS hce hcv hcl => ?_)
    have e9 : (if kx = 0 then vp_updL xo 0 r.toInt64 else xo) = xo := if_neg hk0
    rcases (show kx = 1 by omega) with rfl
    · refine kcat (kx := 1) (name := "java/lang/IllegalArgumentException") K [] ⟨0, 10, 13, 13⟩ [] (by rw [htab]; rfl) (fun z hz => absurd hz List.not_mem_nil) (by decide) (by decide) wm_209 (by decide) hce hcv hcl ?_
      refine lv_astore (lv' := [(4, .ref q9), (0, .ref (ad 0)), (1, .int a1), (2, .int a2), (3, .ref ao)]) hx hb d_W_join_13 hl (by decide) rfl (fun ls hl => ?_)
      refine lv_iconst (v := 1) hx hb d_W_join_15 (by decide) ?_
      rw [e9]
      exact kri K hP hD hS d_W_join_16 (by decide)
