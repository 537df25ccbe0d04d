theorem wm_163 : Cond.fieldLink "LockTable" 42 "LockTable" "caller" "I" ∈ w_all := w_mem 163 (by decide +kernel) (by decide +kernel)
theorem wm_162 : Cond.fieldLink "LockTable" 137 "LockTable" "grantCount" "I" ∈ w_all := w_mem 162 (by decide +kernel) (by decide +kernel)
theorem wm_158 : Cond.fieldLink "LockTable" 25 "LockTable" "locks" "LLockTable$Locks;" ∈ w_all := w_mem 158 (by decide +kernel) (by decide +kernel)
theorem wm_197 : Cond.code ⟨"LockTable$Locks", "countAll", "()I"⟩ prog_2_method_10_code 3 (some .int) ∈ w_all := w_mem 197 (by decide +kernel) (by decide +kernel)
theorem wm_194 : Cond.methodLink "LockTable" 164 ⟨"LockTable$Locks", "countAll", "()I"⟩ ∈ w_all := w_mem 194 (by decide +kernel) (by decide +kernel)
theorem wm_195 : Cond.instanceMethod ⟨"LockTable$Locks", "countAll", "()I"⟩ ∈ w_all := w_mem 195 (by decide +kernel) (by decide +kernel)
theorem wm_196 : Cond.selects "LockTable$Locks" ⟨"LockTable$Locks", "countAll", "()I"⟩ ⟨"LockTable$Locks", "countAll", "()I"⟩ ∈ w_all := w_mem 196 (by decide +kernel) (by decide +kernel)
theorem wm_159 : Cond.fieldLink "LockTable" 32 "LockTable" "requests" "LLockTable$Requests;" ∈ w_all := w_mem 159 (by decide +kernel) (by decide +kernel)
theorem wm_127 : Cond.fieldLink "LockTable" 167 "LockTable$Requests" "waiting" "I" ∈ w_all := w_mem 127 (by decide +kernel) (by decide +kernel)
theorem wm_193 : Cond.code ⟨"LockTable", "all", "()I"⟩ prog_1_method_15_code 1 (some .int) ∈ w_all := w_mem 193 (by decide +kernel) (by decide +kernel)
theorem wm_334 : Cond.methodLink "LockTable" 223 ⟨"LockTable", "all", "()I"⟩ ∈ w_all := w_mem 334 (by decide +kernel) (by decide +kernel)
theorem wm_191 : Cond.instanceMethod ⟨"LockTable", "all", "()I"⟩ ∈ w_all := w_mem 191 (by decide +kernel) (by decide +kernel)
theorem wm_192 : Cond.selects "LockTable" ⟨"LockTable", "all", "()I"⟩ ⟨"LockTable", "all", "()I"⟩ ∈ w_all := w_mem 192 (by decide +kernel) (by decide +kernel)
theorem wm_46 : Cond.initialized "LockTable" ∈ w_all := w_mem 46 (by decide +kernel) (by decide +kernel)
theorem wm_326 : Cond.methodLink "LockTable" 72 ⟨"LockTable$Locks", "heldMode", "(II)I"⟩ ∈ w_all := w_mem 326 (by decide +kernel) (by decide +kernel)
theorem wm_337 : Cond.code ⟨"LockTable$Modes", "strengthened", "(II)I"⟩ prog_3_method_4_code 2 (some .int) ∈ w_all := w_mem 337 (by decide +kernel) (by decide +kernel)
theorem wm_335 : Cond.methodLink "LockTable" 80 ⟨"LockTable$Modes", "strengthened", "(II)I"⟩ ∈ w_all := w_mem 335 (by decide +kernel) (by decide +kernel)
theorem wm_336 : Cond.static ⟨"LockTable$Modes", "strengthened", "(II)I"⟩ ∈ w_all := w_mem 336 (by decide +kernel) (by decide +kernel)
theorem wm_506 : Cond.code ⟨"LockTable$Requests", "setEscalation", "(III)V"⟩ prog_4_method_3_code 4 none ∈ w_all := w_mem 506 (by decide +kernel) (by decide +kernel)
theorem wm_503 : Cond.methodLink "LockTable" 229 ⟨"LockTable$Requests", "setEscalation", "(III)V"⟩ ∈ w_all := w_mem 503 (by decide +kernel) (by decide +kernel)
theorem wm_504 : Cond.instanceMethod ⟨"LockTable$Requests", "setEscalation", "(III)V"⟩ ∈ w_all := w_mem 504 (by decide +kernel) (by decide +kernel)
theorem wm_505 : Cond.selects "LockTable$Requests" ⟨"LockTable$Requests", "setEscalation", "(III)V"⟩ ⟨"LockTable$Requests", "setEscalation", "(III)V"⟩ ∈ w_all := w_mem 505 (by decide +kernel) (by decide +kernel)
theorem wm_502 : Cond.code ⟨"LockTable$Locks", "haveStrongRange", "(II)Z"⟩ prog_2_method_7_code 4 (some .boolean) ∈ w_all := w_mem 502 (by decide +kernel) (by decide +kernel)
theorem wm_499 : Cond.methodLink "LockTable" 226 ⟨"LockTable$Locks", "haveStrongRange", "(II)Z"⟩ ∈ w_all := w_mem 499 (by decide +kernel) (by decide +kernel)
theorem wm_500 : Cond.instanceMethod ⟨"LockTable$Locks", "haveStrongRange", "(II)Z"⟩ ∈ w_all := w_mem 500 (by decide +kernel) (by decide +kernel)
theorem wm_501 : Cond.selects "LockTable$Locks" ⟨"LockTable$Locks", "haveStrongRange", "(II)Z"⟩ ⟨"LockTable$Locks", "haveStrongRange", "(II)Z"⟩ ∈ w_all := w_mem 501 (by decide +kernel) (by decide +kernel)
theorem wm_111 : Cond.fieldLink "LockTable" 185 "LockTable$Requests" "onRange" "[Z" ∈ w_all := w_mem 111 (by decide +kernel) (by decide +kernel)
theorem wm_109 : Cond.fieldLink "LockTable" 182 "LockTable$Requests" "tables" "[I" ∈ w_all := w_mem 109 (by decide +kernel) (by decide +kernel)
theorem wm_117 : Cond.fieldLink "LockTable" 189 "LockTable$Requests" "modes" "[I" ∈ w_all := w_mem 117 (by decide +kernel) (by decide +kernel)
theorem wm_384 : Cond.code ⟨"LockTable$Requests", "againstBefore", "(I)I"⟩ prog_4_method_7_code 5 (some .int) ∈ w_all := w_mem 384 (by decide +kernel) (by decide +kernel)
theorem wm_381 : Cond.methodLink "LockTable" 258 ⟨"LockTable$Requests", "againstBefore", "(I)I"⟩ ∈ w_all := w_mem 381 (by decide +kernel) (by decide +kernel)
theorem wm_382 : Cond.instanceMethod ⟨"LockTable$Requests", "againstBefore", "(I)I"⟩ ∈ w_all := w_mem 382 (by decide +kernel) (by decide +kernel)
theorem wm_383 : Cond.selects "LockTable$Requests" ⟨"LockTable$Requests", "againstBefore", "(I)I"⟩ ⟨"LockTable$Requests", "againstBefore", "(I)I"⟩ ∈ w_all := w_mem 383 (by decide +kernel) (by decide +kernel)
theorem wm_379 : Cond.code ⟨"LockTable$Locks", "againstTable", "(III)I"⟩ prog_2_method_12_code 7 (some .int) ∈ w_all := w_mem 379 (by decide +kernel) (by decide +kernel)
theorem wm_376 : Cond.methodLink "LockTable" 254 ⟨"LockTable$Locks", "againstTable", "(III)I"⟩ ∈ w_all := w_mem 376 (by decide +kernel) (by decide +kernel)
theorem wm_377 : Cond.instanceMethod ⟨"LockTable$Locks", "againstTable", "(III)I"⟩ ∈ w_all := w_mem 377 (by decide +kernel) (by decide +kernel)
theorem wm_378 : Cond.selects "LockTable$Locks" ⟨"LockTable$Locks", "againstTable", "(III)I"⟩ ⟨"LockTable$Locks", "againstTable", "(III)I"⟩ ∈ w_all := w_mem 378 (by decide +kernel) (by decide +kernel)
theorem wm_113 : Cond.fieldLink "LockTable" 243 "LockTable$Requests" "lows" "[J" ∈ w_all := w_mem 113 (by decide +kernel) (by decide +kernel)
theorem wm_115 : Cond.fieldLink "LockTable" 247 "LockTable$Requests" "highs" "[J" ∈ w_all := w_mem 115 (by decide +kernel) (by decide +kernel)
theorem wm_372 : Cond.code ⟨"LockTable$Locks", "againstRange", "(IIJJI)I"⟩ prog_2_method_13_code 11 (some .int) ∈ w_all := w_mem 372 (by decide +kernel) (by decide +kernel)
theorem wm_369 : Cond.methodLink "LockTable" 250 ⟨"LockTable$Locks", "againstRange", "(IIJJI)I"⟩ ∈ w_all := w_mem 369 (by decide +kernel) (by decide +kernel)
theorem wm_370 : Cond.instanceMethod ⟨"LockTable$Locks", "againstRange", "(IIJJI)I"⟩ ∈ w_all := w_mem 370 (by decide +kernel) (by decide +kernel)
theorem wm_371 : Cond.selects "LockTable$Locks" ⟨"LockTable$Locks", "againstRange", "(IIJJI)I"⟩ ⟨"LockTable$Locks", "againstRange", "(IIJJI)I"⟩ ∈ w_all := w_mem 371 (by decide +kernel) (by decide +kernel)
theorem wm_397 : Cond.code ⟨"LockTable$Requests", "leave", "(I)V"⟩ prog_4_method_6_code 4 none ∈ w_all := w_mem 397 (by decide +kernel) (by decide +kernel)
theorem wm_394 : Cond.methodLink "LockTable" 261 ⟨"LockTable$Requests", "leave", "(I)V"⟩ ∈ w_all := w_mem 394 (by decide +kernel) (by decide +kernel)
theorem wm_395 : Cond.instanceMethod ⟨"LockTable$Requests", "leave", "(I)V"⟩ ∈ w_all := w_mem 395 (by decide +kernel) (by decide +kernel)
theorem wm_396 : Cond.selects "LockTable$Requests" ⟨"LockTable$Requests", "leave", "(I)V"⟩ ⟨"LockTable$Requests", "leave", "(I)V"⟩ ∈ w_all := w_mem 396 (by decide +kernel) (by decide +kernel)
theorem wm_156 : Cond.fieldLink "LockTable" 9 "LockTable" "states" "[I" ∈ w_all := w_mem 156 (by decide +kernel) (by decide +kernel)
theorem wm_402 : Cond.methodLink "LockTable" 268 ⟨"LockTable$Locks", "setTable", "(III)V"⟩ ∈ w_all := w_mem 402 (by decide +kernel) (by decide +kernel)
theorem wm_121 : Cond.fieldLink "LockTable" 195 "LockTable$Requests" "escalating" "[Z" ∈ w_all := w_mem 121 (by decide +kernel) (by decide +kernel)
theorem wm_409 : Cond.code ⟨"LockTable$Locks", "dropRanges", "(II)V"⟩ prog_2_method_14_code 4 none ∈ w_all := w_mem 409 (by decide +kernel) (by decide +kernel)
theorem wm_406 : Cond.methodLink "LockTable" 270 ⟨"LockTable$Locks", "dropRanges", "(II)V"⟩ ∈ w_all := w_mem 406 (by decide +kernel) (by decide +kernel)
theorem wm_407 : Cond.instanceMethod ⟨"LockTable$Locks", "dropRanges", "(II)V"⟩ ∈ w_all := w_mem 407 (by decide +kernel) (by decide +kernel)
theorem wm_408 : Cond.selects "LockTable$Locks" ⟨"LockTable$Locks", "dropRanges", "(II)V"⟩ ⟨"LockTable$Locks", "dropRanges", "(II)V"⟩ ∈ w_all := w_mem 408 (by decide +kernel) (by decide +kernel)
theorem wm_401 : Cond.code ⟨"LockTable$Locks", "addRange", "(IIJJI)V"⟩ prog_2_method_4_code 8 none ∈ w_all := w_mem 401 (by decide +kernel) (by decide +kernel)
theorem wm_398 : Cond.methodLink "LockTable" 264 ⟨"LockTable$Locks", "addRange", "(IIJJI)V"⟩ ∈ w_all := w_mem 398 (by decide +kernel) (by decide +kernel)
theorem wm_399 : Cond.instanceMethod ⟨"LockTable$Locks", "addRange", "(IIJJI)V"⟩ ∈ w_all := w_mem 399 (by decide +kernel) (by decide +kernel)
theorem wm_400 : Cond.selects "LockTable$Locks" ⟨"LockTable$Locks", "addRange", "(IIJJI)V"⟩ ⟨"LockTable$Locks", "addRange", "(IIJJI)V"⟩ ∈ w_all := w_mem 400 (by decide +kernel) (by decide +kernel)
theorem wm_161 : Cond.fieldLink "LockTable" 39 "LockTable" "grants" "[I" ∈ w_all := w_mem 161 (by decide +kernel) (by decide +kernel)
theorem wm_125 : Cond.fieldLink "LockTable" 174 "LockTable$Requests" "line" "[I" ∈ w_all := w_mem 125 (by decide +kernel) (by decide +kernel)
theorem wm_368 : Cond.code ⟨"LockTable", "blockers", "(I)I"⟩ prog_1_method_35_code 5 (some .int) ∈ w_all := w_mem 368 (by decide +kernel) (by decide +kernel)
theorem wm_365 : Cond.methodLink "LockTable" 201 ⟨"LockTable", "blockers", "(I)I"⟩ ∈ w_all := w_mem 365 (by decide +kernel) (by decide +kernel)
theorem wm_367 : Cond.instanceMethod ⟨"LockTable", "blockers", "(I)I"⟩ ∈ w_all := w_mem 367 (by decide +kernel) (by decide +kernel)
theorem wm_6 : Cond.selects "LockTable" ⟨"LockTable", "blockers", "(I)I"⟩ ⟨"LockTable", "blockers", "(I)I"⟩ ∈ w_all := w_mem 6 (by decide +kernel) (by decide +kernel)
theorem wm_393 : Cond.code ⟨"LockTable", "grant", "(I)Z"⟩ prog_1_method_36_code 4 (some .boolean) ∈ w_all := w_mem 393 (by decide +kernel) (by decide +kernel)
theorem wm_390 : Cond.methodLink "LockTable" 237 ⟨"LockTable", "grant", "(I)Z"⟩ ∈ w_all := w_mem 390 (by decide +kernel) (by decide +kernel)
theorem wm_392 : Cond.instanceMethod ⟨"LockTable", "grant", "(I)Z"⟩ ∈ w_all := w_mem 392 (by decide +kernel) (by decide +kernel)
theorem wm_8 : Cond.selects "LockTable" ⟨"LockTable", "grant", "(I)Z"⟩ ⟨"LockTable", "grant", "(I)Z"⟩ ∈ w_all := w_mem 8 (by decide +kernel) (by decide +kernel)
theorem wm_160 : Cond.fieldLink "LockTable" 36 "LockTable" "reached" "[I" ∈ w_all := w_mem 160 (by decide +kernel) (by decide +kernel)
theorem wm_432 : Cond.code ⟨"LockTable", "hasBit", "(II)Z"⟩ prog_1_method_41_code 2 (some .boolean) ∈ w_all := w_mem 432 (by decide +kernel) (by decide +kernel)
theorem wm_430 : Cond.methodLink "LockTable" 279 ⟨"LockTable", "hasBit", "(II)Z"⟩ ∈ w_all := w_mem 430 (by decide +kernel) (by decide +kernel)
theorem wm_431 : Cond.static ⟨"LockTable", "hasBit", "(II)Z"⟩ ∈ w_all := w_mem 431 (by decide +kernel) (by decide +kernel)
theorem wm_157 : Cond.fieldLink "LockTable" 13 "LockTable" "serials" "[I" ∈ w_all := w_mem 157 (by decide +kernel) (by decide +kernel)
theorem wm_429 : Cond.code ⟨"LockTable", "ringOf", "(I)I"⟩ prog_1_method_40_code 4 (some .int) ∈ w_all := w_mem 429 (by decide +kernel) (by decide +kernel)
theorem wm_426 : Cond.methodLink "LockTable" 273 ⟨"LockTable", "ringOf", "(I)I"⟩ ∈ w_all := w_mem 426 (by decide +kernel) (by decide +kernel)
theorem wm_428 : Cond.instanceMethod ⟨"LockTable", "ringOf", "(I)I"⟩ ∈ w_all := w_mem 428 (by decide +kernel) (by decide +kernel)
theorem wm_13 : Cond.selects "LockTable" ⟨"LockTable", "ringOf", "(I)I"⟩ ⟨"LockTable", "ringOf", "(I)I"⟩ ∈ w_all := w_mem 13 (by decide +kernel) (by decide +kernel)
theorem wm_436 : Cond.code ⟨"LockTable", "newestOf", "(II)I"⟩ prog_1_method_42_code 5 (some .int) ∈ w_all := w_mem 436 (by decide +kernel) (by decide +kernel)
theorem wm_433 : Cond.methodLink "LockTable" 276 ⟨"LockTable", "newestOf", "(II)I"⟩ ∈ w_all := w_mem 433 (by decide +kernel) (by decide +kernel)
theorem wm_435 : Cond.instanceMethod ⟨"LockTable", "newestOf", "(II)I"⟩ ∈ w_all := w_mem 435 (by decide +kernel) (by decide +kernel)
theorem wm_14 : Cond.selects "LockTable" ⟨"LockTable", "newestOf", "(II)I"⟩ ⟨"LockTable", "newestOf", "(II)I"⟩ ∈ w_all := w_mem 14 (by decide +kernel) (by decide +kernel)
theorem wm_440 : Cond.code ⟨"LockTable", "takeBack", "(II)V"⟩ prog_1_method_37_code 3 none ∈ w_all := w_mem 440 (by decide +kernel) (by decide +kernel)
theorem wm_437 : Cond.methodLink "LockTable" 130 ⟨"LockTable", "takeBack", "(II)V"⟩ ∈ w_all := w_mem 437 (by decide +kernel) (by decide +kernel)
theorem wm_439 : Cond.instanceMethod ⟨"LockTable", "takeBack", "(II)V"⟩ ∈ w_all := w_mem 439 (by decide +kernel) (by decide +kernel)
theorem wm_15 : Cond.selects "LockTable" ⟨"LockTable", "takeBack", "(II)V"⟩ ⟨"LockTable", "takeBack", "(II)V"⟩ ∈ w_all := w_mem 15 (by decide +kernel) (by decide +kernel)
theorem wm_421 : Cond.code ⟨"LockTable", "lookAtAll", "()V"⟩ prog_1_method_38_code 6 none ∈ w_all := w_mem 421 (by decide +kernel) (by decide +kernel)
theorem wm_418 : Cond.methodLink "LockTable" 134 ⟨"LockTable", "lookAtAll", "()V"⟩ ∈ w_all := w_mem 418 (by decide +kernel) (by decide +kernel)
theorem wm_420 : Cond.instanceMethod ⟨"LockTable", "lookAtAll", "()V"⟩ ∈ w_all := w_mem 420 (by decide +kernel) (by decide +kernel)
theorem wm_11 : Cond.selects "LockTable" ⟨"LockTable", "lookAtAll", "()V"⟩ ⟨"LockTable", "lookAtAll", "()V"⟩ ∈ w_all := w_mem 11 (by decide +kernel) (by decide +kernel)
theorem wm_165 : Cond.fieldLink "LockTable" 154 "LockTable" "timeLimit" "I" ∈ w_all := w_mem 165 (by decide +kernel) (by decide +kernel)
theorem wm_166 : Cond.fieldLink "LockTable" 157 "LockTable" "now" "I" ∈ w_all := w_mem 166 (by decide +kernel) (by decide +kernel)
theorem wm_599 : Cond.code ⟨"LockTable$Requests", "firstOverdue", "(II)I"⟩ prog_4_method_8_code 7 (some .int) ∈ w_all := w_mem 599 (by decide +kernel) (by decide +kernel)
theorem wm_596 : Cond.methodLink "LockTable" 282 ⟨"LockTable$Requests", "firstOverdue", "(II)I"⟩ ∈ w_all := w_mem 596 (by decide +kernel) (by decide +kernel)
theorem wm_597 : Cond.instanceMethod ⟨"LockTable$Requests", "firstOverdue", "(II)I"⟩ ∈ w_all := w_mem 597 (by decide +kernel) (by decide +kernel)
theorem wm_598 : Cond.selects "LockTable$Requests" ⟨"LockTable$Requests", "firstOverdue", "(II)I"⟩ ⟨"LockTable$Requests", "firstOverdue", "(II)I"⟩ ∈ w_all := w_mem 598 (by decide +kernel) (by decide +kernel)
theorem wm_360 : Cond.code ⟨"LockTable$Requests", "enter", "(II)V"⟩ prog_4_method_5_code 4 none ∈ w_all := w_mem 360 (by decide +kernel) (by decide +kernel)
theorem wm_357 : Cond.methodLink "LockTable" 230 ⟨"LockTable$Requests", "enter", "(II)V"⟩ ∈ w_all := w_mem 357 (by decide +kernel) (by decide +kernel)
theorem wm_358 : Cond.instanceMethod ⟨"LockTable$Requests", "enter", "(II)V"⟩ ∈ w_all := w_mem 358 (by decide +kernel) (by decide +kernel)
theorem wm_359 : Cond.selects "LockTable$Requests" ⟨"LockTable$Requests", "enter", "(II)V"⟩ ⟨"LockTable$Requests", "enter", "(II)V"⟩ ∈ w_all := w_mem 359 (by decide +kernel) (by decide +kernel)
theorem wm_364 : Cond.code ⟨"LockTable", "holdsWhatItAsks", "(I)Z"⟩ prog_1_method_34_code 2 (some .boolean) ∈ w_all := w_mem 364 (by decide +kernel) (by decide +kernel)
theorem wm_361 : Cond.methodLink "LockTable" 233 ⟨"LockTable", "holdsWhatItAsks", "(I)Z"⟩ ∈ w_all := w_mem 361 (by decide +kernel) (by decide +kernel)
theorem wm_363 : Cond.instanceMethod ⟨"LockTable", "holdsWhatItAsks", "(I)Z"⟩ ∈ w_all := w_mem 363 (by decide +kernel) (by decide +kernel)
theorem wm_5 : Cond.selects "LockTable" ⟨"LockTable", "holdsWhatItAsks", "(I)Z"⟩ ⟨"LockTable", "holdsWhatItAsks", "(I)Z"⟩ ∈ w_all := w_mem 5 (by decide +kernel) (by decide +kernel)
theorem wm_425 : Cond.code ⟨"LockTable", "breakRings", "(I)V"⟩ prog_1_method_39_code 4 none ∈ w_all := w_mem 425 (by decide +kernel) (by decide +kernel)
theorem wm_422 : Cond.methodLink "LockTable" 240 ⟨"LockTable", "breakRings", "(I)V"⟩ ∈ w_all := w_mem 422 (by decide +kernel) (by decide +kernel)
theorem wm_424 : Cond.instanceMethod ⟨"LockTable", "breakRings", "(I)V"⟩ ∈ w_all := w_mem 424 (by decide +kernel) (by decide +kernel)
theorem wm_12 : Cond.selects "LockTable" ⟨"LockTable", "breakRings", "(I)V"⟩ ⟨"LockTable", "breakRings", "(I)V"⟩ ∈ w_all := w_mem 12 (by decide +kernel) (by decide +kernel)
abbrev y_T_hasBit : MethodName := ⟨"LockTable", "hasBit", "(II)Z"⟩
theorem hd_T_hasBit : y_T_hasBit.cls ≠ "java/lang/invoke/MethodHandle" ∧ y_T_hasBit.cls ≠ "java/lang/invoke/VarHandle" ∧ (parseMethodDescriptor y_T_hasBit.desc).map (fun d => d.parameters.length) = some 2 := ⟨by decide, by decide, by decide +kernel⟩
abbrev y_T_startCall : MethodName := ⟨"LockTable", "startCall", "(I)V"⟩
theorem hd_T_startCall : y_T_startCall.cls ≠ "java/lang/invoke/MethodHandle" ∧ y_T_startCall.cls ≠ "java/lang/invoke/VarHandle" ∧ (parseMethodDescriptor y_T_startCall.desc).map (fun d => d.parameters.length) = some 1 := ⟨by decide, by decide, by decide +kernel⟩
abbrev y_T_all : MethodName := ⟨"LockTable", "all", "()I"⟩
theorem hd_T_all : y_T_all.cls ≠ "java/lang/invoke/MethodHandle" ∧ y_T_all.cls ≠ "java/lang/invoke/VarHandle" ∧ (parseMethodDescriptor y_T_all.desc).map (fun d => d.parameters.length) = some 0 := ⟨by decide, by decide, by decide +kernel⟩
abbrev y_T_isFull : MethodName := ⟨"LockTable", "isFull", "()Z"⟩
theorem hd_T_isFull : y_T_isFull.cls ≠ "java/lang/invoke/MethodHandle" ∧ y_T_isFull.cls ≠ "java/lang/invoke/VarHandle" ∧ (parseMethodDescriptor y_T_isFull.desc).map (fun d => d.parameters.length) = some 0 := ⟨by decide, by decide, by decide +kernel⟩
abbrev y_T_setEscalation : MethodName := ⟨"LockTable", "setEscalation", "(III)V"⟩
theorem hd_T_setEscalation : y_T_setEscalation.cls ≠ "java/lang/invoke/MethodHandle" ∧ y_T_setEscalation.cls ≠ "java/lang/invoke/VarHandle" ∧ (parseMethodDescriptor y_T_setEscalation.desc).map (fun d => d.parameters.length) = some 3 := ⟨by decide, by decide, by decide +kernel⟩
abbrev y_T_holdsWhatItAsks : MethodName := ⟨"LockTable", "holdsWhatItAsks", "(I)Z"⟩
theorem hd_T_holdsWhatItAsks : y_T_holdsWhatItAsks.cls ≠ "java/lang/invoke/MethodHandle" ∧ y_T_holdsWhatItAsks.cls ≠ "java/lang/invoke/VarHandle" ∧ (parseMethodDescriptor y_T_holdsWhatItAsks.desc).map (fun d => d.parameters.length) = some 1 := ⟨by decide, by decide, by decide +kernel⟩
abbrev y_T_blockers : MethodName := ⟨"LockTable", "blockers", "(I)I"⟩
theorem hd_T_blockers : y_T_blockers.cls ≠ "java/lang/invoke/MethodHandle" ∧ y_T_blockers.cls ≠ "java/lang/invoke/VarHandle" ∧ (parseMethodDescriptor y_T_blockers.desc).map (fun d => d.parameters.length) = some 1 := ⟨by decide, by decide, by decide +kernel⟩
abbrev y_T_grant : MethodName := ⟨"LockTable", "grant", "(I)Z"⟩
theorem hd_T_grant : y_T_grant.cls ≠ "java/lang/invoke/MethodHandle" ∧ y_T_grant.cls ≠ "java/lang/invoke/VarHandle" ∧ (parseMethodDescriptor y_T_grant.desc).map (fun d => d.parameters.length) = some 1 := ⟨by decide, by decide, by decide +kernel⟩
abbrev y_T_takeBack : MethodName := ⟨"LockTable", "takeBack", "(II)V"⟩
theorem hd_T_takeBack : y_T_takeBack.cls ≠ "java/lang/invoke/MethodHandle" ∧ y_T_takeBack.cls ≠ "java/lang/invoke/VarHandle" ∧ (parseMethodDescriptor y_T_takeBack.desc).map (fun d => d.parameters.length) = some 2 := ⟨by decide, by decide, by decide +kernel⟩
abbrev y_T_lookAtAll : MethodName := ⟨"LockTable", "lookAtAll", "()V"⟩
theorem hd_T_lookAtAll : y_T_lookAtAll.cls ≠ "java/lang/invoke/MethodHandle" ∧ y_T_lookAtAll.cls ≠ "java/lang/invoke/VarHandle" ∧ (parseMethodDescriptor y_T_lookAtAll.desc).map (fun d => d.parameters.length) = some 0 := ⟨by decide, by decide, by decide +kernel⟩
abbrev y_T_ringOf : MethodName := ⟨"LockTable", "ringOf", "(I)I"⟩
theorem hd_T_ringOf : y_T_ringOf.cls ≠ "java/lang/invoke/MethodHandle" ∧ y_T_ringOf.cls ≠ "java/lang/invoke/VarHandle" ∧ (parseMethodDescriptor y_T_ringOf.desc).map (fun d => d.parameters.length) = some 1 := ⟨by decide, by decide, by decide +kernel⟩
abbrev y_T_newestOf : MethodName := ⟨"LockTable", "newestOf", "(II)I"⟩
theorem hd_T_newestOf : y_T_newestOf.cls ≠ "java/lang/invoke/MethodHandle" ∧ y_T_newestOf.cls ≠ "java/lang/invoke/VarHandle" ∧ (parseMethodDescriptor y_T_newestOf.desc).map (fun d => d.parameters.length) = some 2 := ⟨by decide, by decide, by decide +kernel⟩
abbrev y_T_breakRings : MethodName := ⟨"LockTable", "breakRings", "(I)V"⟩
theorem hd_T_breakRings : y_T_breakRings.cls ≠ "java/lang/invoke/MethodHandle" ∧ y_T_breakRings.cls ≠ "java/lang/invoke/VarHandle" ∧ (parseMethodDescriptor y_T_breakRings.desc).map (fun d => d.parameters.length) = some 1 := ⟨by decide, by decide, by decide +kernel⟩
abbrev y_T_takeBackOverdue : MethodName := ⟨"LockTable", "takeBackOverdue", "()I"⟩
theorem hd_T_takeBackOverdue : y_T_takeBackOverdue.cls ≠ "java/lang/invoke/MethodHandle" ∧ y_T_takeBackOverdue.cls ≠ "java/lang/invoke/VarHandle" ∧ (parseMethodDescriptor y_T_takeBackOverdue.desc).map (fun d => d.parameters.length) = some 0 := ⟨by decide, by decide, by decide +kernel⟩
abbrev y_T_ask : MethodName := ⟨"LockTable", "ask", "(I)I"⟩
theorem hd_T_ask : y_T_ask.cls ≠ "java/lang/invoke/MethodHandle" ∧ y_T_ask.cls ≠ "java/lang/invoke/VarHandle" ∧ (parseMethodDescriptor y_T_ask.desc).map (fun d => d.parameters.length) = some 1 := ⟨by decide, by decide, by decide +kernel⟩
abbrev y_T_queue : MethodName := ⟨"LockTable", "queue", "(I)I"⟩
theorem hd_T_queue : y_T_queue.cls ≠ "java/lang/invoke/MethodHandle" ∧ y_T_queue.cls ≠ "java/lang/invoke/VarHandle" ∧ (parseMethodDescriptor y_T_queue.desc).map (fun d => d.parameters.length) = some 1 := ⟨by decide, by decide, by decide +kernel⟩
abbrev y_T_granted : MethodName := ⟨"LockTable", "granted", "(I)I"⟩
theorem hd_T_granted : y_T_granted.cls ≠ "java/lang/invoke/MethodHandle" ∧ y_T_granted.cls ≠ "java/lang/invoke/VarHandle" ∧ (parseMethodDescriptor y_T_granted.desc).map (fun d => d.parameters.length) = some 1 := ⟨by decide, by decide, by decide +kernel⟩
theorem d_T_hasBit_0 : decode prog_1_method_41_code 0 = .ok (.iload_n 0, 1) := by decide +kernel
theorem d_T_hasBit_1 : decode prog_1_method_41_code 1 = .ok (.iload_n 1, 1) := by decide +kernel
theorem d_T_hasBit_2 : decode prog_1_method_41_code 2 = .ok (.ishr, 1) := by decide +kernel
theorem d_T_hasBit_3 : decode prog_1_method_41_code 3 = .ok (.iconst 1, 1) := by decide +kernel
theorem d_T_hasBit_4 : decode prog_1_method_41_code 4 = .ok (.iand, 1) := by decide +kernel
theorem d_T_hasBit_5 : decode prog_1_method_41_code 5 = .ok (.ifCond .eq 7, 3) := by decide +kernel
theorem d_T_hasBit_8 : decode prog_1_method_41_code 8 = .ok (.iconst 1, 1) := by decide +kernel
theorem d_T_hasBit_9 : decode prog_1_method_41_code 9 = .ok (.goto 4, 3) := by decide +kernel
theorem d_T_hasBit_12 : decode prog_1_method_41_code 12 = .ok (.iconst 0, 1) := by decide +kernel
theorem d_T_hasBit_13 : decode prog_1_method_41_code 13 = .ok (.ireturn, 1) := by decide +kernel
theorem d_T_startCall_0 : decode prog_1_method_30_code 0 = .ok (.aload_n 0, 1) := by decide +kernel
theorem d_T_startCall_1 : decode prog_1_method_30_code 1 = .ok (.iload_n 1, 1) := by decide +kernel
theorem d_T_startCall_2 : decode prog_1_method_30_code 2 = .ok (.putfield 42, 3) := by decide +kernel
theorem d_T_startCall_5 : decode prog_1_method_30_code 5 = .ok (.aload_n 0, 1) := by decide +kernel
theorem d_T_startCall_6 : decode prog_1_method_30_code 6 = .ok (.iconst 0, 1) := by decide +kernel
theorem d_T_startCall_7 : decode prog_1_method_30_code 7 = .ok (.putfield 137, 3) := by decide +kernel
theorem d_T_startCall_10 : decode prog_1_method_30_code 10 = .ok (.return_, 1) := by decide +kernel
theorem d_T_all_0 : decode prog_1_method_15_code 0 = .ok (.aload_n 0, 1) := by decide +kernel
theorem d_T_all_1 : decode prog_1_method_15_code 1 = .ok (.getfield 25, 3) := by decide +kernel
theorem d_T_all_4 : decode prog_1_method_15_code 4 = .ok (.invokevirtual 164, 3) := by decide +kernel
theorem d_T_all_7 : decode prog_1_method_15_code 7 = .ok (.aload_n 0, 1) := by decide +kernel
theorem d_T_all_8 : decode prog_1_method_15_code 8 = .ok (.getfield 32, 3) := by decide +kernel
theorem d_T_all_11 : decode prog_1_method_15_code 11 = .ok (.getfield 167, 3) := by decide +kernel
theorem d_T_all_14 : decode prog_1_method_15_code 14 = .ok (.iadd, 1) := by decide +kernel
theorem d_T_all_15 : decode prog_1_method_15_code 15 = .ok (.ireturn, 1) := by decide +kernel
theorem d_T_isFull_0 : decode prog_1_method_31_code 0 = .ok (.aload_n 0, 1) := by decide +kernel
theorem d_T_isFull_1 : decode prog_1_method_31_code 1 = .ok (.invokevirtual 223, 3) := by decide +kernel
theorem d_T_isFull_4 : decode prog_1_method_31_code 4 = .ok (.sipush 256, 3) := by decide +kernel
theorem d_T_isFull_7 : decode prog_1_method_31_code 7 = .ok (.if_icmp .lt 7, 3) := by decide +kernel
theorem d_T_isFull_10 : decode prog_1_method_31_code 10 = .ok (.iconst 1, 1) := by decide +kernel
theorem d_T_isFull_11 : decode prog_1_method_31_code 11 = .ok (.goto 4, 3) := by decide +kernel
theorem d_T_isFull_14 : decode prog_1_method_31_code 14 = .ok (.iconst 0, 1) := by decide +kernel
theorem d_T_isFull_15 : decode prog_1_method_31_code 15 = .ok (.ireturn, 1) := by decide +kernel
theorem d_T_setEscalation_0 : decode prog_1_method_32_code 0 = .ok (.iload_n 3, 1) := by decide +kernel
theorem d_T_setEscalation_1 : decode prog_1_method_32_code 1 = .ok (.iconst 2, 1) := by decide +kernel
theorem d_T_setEscalation_2 : decode prog_1_method_32_code 2 = .ok (.if_icmp .ne 15, 3) := by decide +kernel
theorem d_T_setEscalation_5 : decode prog_1_method_32_code 5 = .ok (.aload_n 0, 1) := by decide +kernel
theorem d_T_setEscalation_6 : decode prog_1_method_32_code 6 = .ok (.getfield 25, 3) := by decide +kernel
theorem d_T_setEscalation_9 : decode prog_1_method_32_code 9 = .ok (.iload_n 1, 1) := by decide +kernel
theorem d_T_setEscalation_10 : decode prog_1_method_32_code 10 = .ok (.iload_n 2, 1) := by decide +kernel
theorem d_T_setEscalation_11 : decode prog_1_method_32_code 11 = .ok (.invokevirtual 226, 3) := by decide +kernel
theorem d_T_setEscalation_14 : decode prog_1_method_32_code 14 = .ok (.ifCond .eq 7, 3) := by decide +kernel
theorem d_T_setEscalation_17 : decode prog_1_method_32_code 17 = .ok (.iconst 1, 1) := by decide +kernel
theorem d_T_setEscalation_18 : decode prog_1_method_32_code 18 = .ok (.goto 4, 3) := by decide +kernel
theorem d_T_setEscalation_21 : decode prog_1_method_32_code 21 = .ok (.iconst 0, 1) := by decide +kernel
theorem d_T_setEscalation_22 : decode prog_1_method_32_code 22 = .ok (.istore 4, 2) := by decide +kernel
theorem d_T_setEscalation_24 : decode prog_1_method_32_code 24 = .ok (.iload 4, 2) := by decide +kernel
theorem d_T_setEscalation_26 : decode prog_1_method_32_code 26 = .ok (.ifCond .eq 7, 3) := by decide +kernel
theorem d_T_setEscalation_29 : decode prog_1_method_32_code 29 = .ok (.iconst 5, 1) := by decide +kernel
theorem d_T_setEscalation_30 : decode prog_1_method_32_code 30 = .ok (.goto 4, 3) := by decide +kernel
theorem d_T_setEscalation_33 : decode prog_1_method_32_code 33 = .ok (.iconst 2, 1) := by decide +kernel
theorem d_T_setEscalation_34 : decode prog_1_method_32_code 34 = .ok (.istore 5, 2) := by decide +kernel
theorem d_T_setEscalation_36 : decode prog_1_method_32_code 36 = .ok (.aload_n 0, 1) := by decide +kernel
theorem d_T_setEscalation_37 : decode prog_1_method_32_code 37 = .ok (.getfield 32, 3) := by decide +kernel
theorem d_T_setEscalation_40 : decode prog_1_method_32_code 40 = .ok (.iload_n 1, 1) := by decide +kernel
theorem d_T_setEscalation_41 : decode prog_1_method_32_code 41 = .ok (.iload_n 2, 1) := by decide +kernel
theorem d_T_setEscalation_42 : decode prog_1_method_32_code 42 = .ok (.aload_n 0, 1) := by decide +kernel
theorem d_T_setEscalation_43 : decode prog_1_method_32_code 43 = .ok (.getfield 25, 3) := by decide +kernel
theorem d_T_setEscalation_46 : decode prog_1_method_32_code 46 = .ok (.iload_n 1, 1) := by decide +kernel
theorem d_T_setEscalation_47 : decode prog_1_method_32_code 47 = .ok (.iload_n 2, 1) := by decide +kernel
theorem d_T_setEscalation_48 : decode prog_1_method_32_code 48 = .ok (.invokevirtual 72, 3) := by decide +kernel
theorem d_T_setEscalation_51 : decode prog_1_method_32_code 51 = .ok (.iload 5, 2) := by decide +kernel
theorem d_T_setEscalation_53 : decode prog_1_method_32_code 53 = .ok (.invokestatic 80, 3) := by decide +kernel
theorem d_T_setEscalation_56 : decode prog_1_method_32_code 56 = .ok (.invokevirtual 229, 3) := by decide +kernel
theorem d_T_setEscalation_59 : decode prog_1_method_32_code 59 = .ok (.return_, 1) := by decide +kernel
theorem d_T_holdsWhatItAsks_0 : decode prog_1_method_34_code 0 = .ok (.aload_n 0, 1) := by decide +kernel
theorem d_T_holdsWhatItAsks_1 : decode prog_1_method_34_code 1 = .ok (.getfield 32, 3) := by decide +kernel
theorem d_T_holdsWhatItAsks_4 : decode prog_1_method_34_code 4 = .ok (.getfield 185, 3) := by decide +kernel
theorem d_T_holdsWhatItAsks_7 : decode prog_1_method_34_code 7 = .ok (.iload_n 1, 1) := by decide +kernel
theorem d_T_holdsWhatItAsks_8 : decode prog_1_method_34_code 8 = .ok (.baload, 1) := by decide +kernel
theorem d_T_holdsWhatItAsks_9 : decode prog_1_method_34_code 9 = .ok (.ifCond .ne 36, 3) := by decide +kernel
theorem d_T_holdsWhatItAsks_12 : decode prog_1_method_34_code 12 = .ok (.aload_n 0, 1) := by decide +kernel
theorem d_T_holdsWhatItAsks_13 : decode prog_1_method_34_code 13 = .ok (.getfield 25, 3) := by decide +kernel
theorem d_T_holdsWhatItAsks_16 : decode prog_1_method_34_code 16 = .ok (.iload_n 1, 1) := by decide +kernel
theorem d_T_holdsWhatItAsks_17 : decode prog_1_method_34_code 17 = .ok (.aload_n 0, 1) := by decide +kernel
theorem d_T_holdsWhatItAsks_18 : decode prog_1_method_34_code 18 = .ok (.getfield 32, 3) := by decide +kernel
theorem d_T_holdsWhatItAsks_21 : decode prog_1_method_34_code 21 = .ok (.getfield 182, 3) := by decide +kernel
theorem d_T_holdsWhatItAsks_24 : decode prog_1_method_34_code 24 = .ok (.iload_n 1, 1) := by decide +kernel
theorem d_T_holdsWhatItAsks_25 : decode prog_1_method_34_code 25 = .ok (.iaload, 1) := by decide +kernel
theorem d_T_holdsWhatItAsks_26 : decode prog_1_method_34_code 26 = .ok (.invokevirtual 72, 3) := by decide +kernel
theorem d_T_holdsWhatItAsks_29 : decode prog_1_method_34_code 29 = .ok (.aload_n 0, 1) := by decide +kernel
theorem d_T_holdsWhatItAsks_30 : decode prog_1_method_34_code 30 = .ok (.getfield 32, 3) := by decide +kernel
theorem d_T_holdsWhatItAsks_33 : decode prog_1_method_34_code 33 = .ok (.getfield 189, 3) := by decide +kernel
theorem d_T_holdsWhatItAsks_36 : decode prog_1_method_34_code 36 = .ok (.iload_n 1, 1) := by decide +kernel
theorem d_T_holdsWhatItAsks_37 : decode prog_1_method_34_code 37 = .ok (.iaload, 1) := by decide +kernel
theorem d_T_holdsWhatItAsks_38 : decode prog_1_method_34_code 38 = .ok (.if_icmp .ne 7, 3) := by decide +kernel
theorem d_T_holdsWhatItAsks_41 : decode prog_1_method_34_code 41 = .ok (.iconst 1, 1) := by decide +kernel
theorem d_T_holdsWhatItAsks_42 : decode prog_1_method_34_code 42 = .ok (.goto 4, 3) := by decide +kernel
theorem d_T_holdsWhatItAsks_45 : decode prog_1_method_34_code 45 = .ok (.iconst 0, 1) := by decide +kernel
theorem d_T_holdsWhatItAsks_46 : decode prog_1_method_34_code 46 = .ok (.ireturn, 1) := by decide +kernel
theorem d_T_blockers_0 : decode prog_1_method_35_code 0 = .ok (.aload_n 0, 1) := by decide +kernel
theorem d_T_blockers_1 : decode prog_1_method_35_code 1 = .ok (.getfield 32, 3) := by decide +kernel
theorem d_T_blockers_4 : decode prog_1_method_35_code 4 = .ok (.getfield 182, 3) := by decide +kernel
theorem d_T_blockers_7 : decode prog_1_method_35_code 7 = .ok (.iload_n 1, 1) := by decide +kernel
theorem d_T_blockers_8 : decode prog_1_method_35_code 8 = .ok (.iaload, 1) := by decide +kernel
theorem d_T_blockers_9 : decode prog_1_method_35_code 9 = .ok (.istore_n 2, 1) := by decide +kernel
theorem d_T_blockers_10 : decode prog_1_method_35_code 10 = .ok (.aload_n 0, 1) := by decide +kernel
theorem d_T_blockers_11 : decode prog_1_method_35_code 11 = .ok (.getfield 32, 3) := by decide +kernel
theorem d_T_blockers_14 : decode prog_1_method_35_code 14 = .ok (.getfield 189, 3) := by decide +kernel
theorem d_T_blockers_17 : decode prog_1_method_35_code 17 = .ok (.iload_n 1, 1) := by decide +kernel
theorem d_T_blockers_18 : decode prog_1_method_35_code 18 = .ok (.iaload, 1) := by decide +kernel
theorem d_T_blockers_19 : decode prog_1_method_35_code 19 = .ok (.istore_n 3, 1) := by decide +kernel
theorem d_T_blockers_20 : decode prog_1_method_35_code 20 = .ok (.aload_n 0, 1) := by decide +kernel
theorem d_T_blockers_21 : decode prog_1_method_35_code 21 = .ok (.getfield 32, 3) := by decide +kernel
theorem d_T_blockers_24 : decode prog_1_method_35_code 24 = .ok (.getfield 185, 3) := by decide +kernel
theorem d_T_blockers_27 : decode prog_1_method_35_code 27 = .ok (.iload_n 1, 1) := by decide +kernel
theorem d_T_blockers_28 : decode prog_1_method_35_code 28 = .ok (.baload, 1) := by decide +kernel
theorem d_T_blockers_29 : decode prog_1_method_35_code 29 = .ok (.ifCond .eq 34, 3) := by decide +kernel
theorem d_T_blockers_32 : decode prog_1_method_35_code 32 = .ok (.aload_n 0, 1) := by decide +kernel
theorem d_T_blockers_33 : decode prog_1_method_35_code 33 = .ok (.getfield 25, 3) := by decide +kernel
theorem d_T_blockers_36 : decode prog_1_method_35_code 36 = .ok (.iload_n 1, 1) := by decide +kernel
theorem d_T_blockers_37 : decode prog_1_method_35_code 37 = .ok (.iload_n 2, 1) := by decide +kernel
theorem d_T_blockers_38 : decode prog_1_method_35_code 38 = .ok (.aload_n 0, 1) := by decide +kernel
theorem d_T_blockers_39 : decode prog_1_method_35_code 39 = .ok (.getfield 32, 3) := by decide +kernel
theorem d_T_blockers_42 : decode prog_1_method_35_code 42 = .ok (.getfield 243, 3) := by decide +kernel
theorem d_T_blockers_45 : decode prog_1_method_35_code 45 = .ok (.iload_n 1, 1) := by decide +kernel
theorem d_T_blockers_46 : decode prog_1_method_35_code 46 = .ok (.laload, 1) := by decide +kernel
theorem d_T_blockers_47 : decode prog_1_method_35_code 47 = .ok (.aload_n 0, 1) := by decide +kernel
theorem d_T_blockers_48 : decode prog_1_method_35_code 48 = .ok (.getfield 32, 3) := by decide +kernel
theorem d_T_blockers_51 : decode prog_1_method_35_code 51 = .ok (.getfield 247, 3) := by decide +kernel
theorem d_T_blockers_54 : decode prog_1_method_35_code 54 = .ok (.iload_n 1, 1) := by decide +kernel
theorem d_T_blockers_55 : decode prog_1_method_35_code 55 = .ok (.laload, 1) := by decide +kernel
theorem d_T_blockers_56 : decode prog_1_method_35_code 56 = .ok (.iload_n 3, 1) := by decide +kernel
theorem d_T_blockers_57 : decode prog_1_method_35_code 57 = .ok (.invokevirtual 250, 3) := by decide +kernel
theorem d_T_blockers_60 : decode prog_1_method_35_code 60 = .ok (.goto 13, 3) := by decide +kernel
theorem d_T_blockers_63 : decode prog_1_method_35_code 63 = .ok (.aload_n 0, 1) := by decide +kernel
theorem d_T_blockers_64 : decode prog_1_method_35_code 64 = .ok (.getfield 25, 3) := by decide +kernel
theorem d_T_blockers_67 : decode prog_1_method_35_code 67 = .ok (.iload_n 1, 1) := by decide +kernel
theorem d_T_blockers_68 : decode prog_1_method_35_code 68 = .ok (.iload_n 2, 1) := by decide +kernel
theorem d_T_blockers_69 : decode prog_1_method_35_code 69 = .ok (.iload_n 3, 1) := by decide +kernel
theorem d_T_blockers_70 : decode prog_1_method_35_code 70 = .ok (.invokevirtual 254, 3) := by decide +kernel
theorem d_T_blockers_73 : decode prog_1_method_35_code 73 = .ok (.istore 4, 2) := by decide +kernel
theorem d_T_blockers_75 : decode prog_1_method_35_code 75 = .ok (.iload 4, 2) := by decide +kernel
theorem d_T_blockers_77 : decode prog_1_method_35_code 77 = .ok (.aload_n 0, 1) := by decide +kernel
theorem d_T_blockers_78 : decode prog_1_method_35_code 78 = .ok (.getfield 32, 3) := by decide +kernel
theorem d_T_blockers_81 : decode prog_1_method_35_code 81 = .ok (.iload_n 1, 1) := by decide +kernel
theorem d_T_blockers_82 : decode prog_1_method_35_code 82 = .ok (.invokevirtual 258, 3) := by decide +kernel
theorem d_T_blockers_85 : decode prog_1_method_35_code 85 = .ok (.ior, 1) := by decide +kernel
theorem d_T_blockers_86 : decode prog_1_method_35_code 86 = .ok (.ireturn, 1) := by decide +kernel
theorem d_T_grant_0 : decode prog_1_method_36_code 0 = .ok (.aload_n 0, 1) := by decide +kernel
theorem d_T_grant_1 : decode prog_1_method_36_code 1 = .ok (.getfield 32, 3) := by decide +kernel
theorem d_T_grant_4 : decode prog_1_method_36_code 4 = .ok (.iload_n 1, 1) := by decide +kernel
theorem d_T_grant_5 : decode prog_1_method_36_code 5 = .ok (.invokevirtual 261, 3) := by decide +kernel
theorem d_T_grant_8 : decode prog_1_method_36_code 8 = .ok (.aload_n 0, 1) := by decide +kernel
theorem d_T_grant_9 : decode prog_1_method_36_code 9 = .ok (.getfield 9, 3) := by decide +kernel
theorem d_T_grant_12 : decode prog_1_method_36_code 12 = .ok (.iload_n 1, 1) := by decide +kernel
theorem d_T_grant_13 : decode prog_1_method_36_code 13 = .ok (.iconst 1, 1) := by decide +kernel
theorem d_T_grant_14 : decode prog_1_method_36_code 14 = .ok (.iastore, 1) := by decide +kernel
theorem d_T_grant_15 : decode prog_1_method_36_code 15 = .ok (.iload_n 1, 1) := by decide +kernel
theorem d_T_grant_16 : decode prog_1_method_36_code 16 = .ok (.aload_n 0, 1) := by decide +kernel
theorem d_T_grant_17 : decode prog_1_method_36_code 17 = .ok (.getfield 42, 3) := by decide +kernel
theorem d_T_grant_20 : decode prog_1_method_36_code 20 = .ok (.if_icmp .eq 35, 3) := by decide +kernel
theorem d_T_grant_23 : decode prog_1_method_36_code 23 = .ok (.aload_n 0, 1) := by decide +kernel
theorem d_T_grant_24 : decode prog_1_method_36_code 24 = .ok (.getfield 137, 3) := by decide +kernel
theorem d_T_grant_27 : decode prog_1_method_36_code 27 = .ok (.aload_n 0, 1) := by decide +kernel
theorem d_T_grant_28 : decode prog_1_method_36_code 28 = .ok (.getfield 39, 3) := by decide +kernel
theorem d_T_grant_31 : decode prog_1_method_36_code 31 = .ok (.arraylength, 1) := by decide +kernel
theorem d_T_grant_32 : decode prog_1_method_36_code 32 = .ok (.if_icmp .ge 23, 3) := by decide +kernel
theorem d_T_grant_35 : decode prog_1_method_36_code 35 = .ok (.aload_n 0, 1) := by decide +kernel
theorem d_T_grant_36 : decode prog_1_method_36_code 36 = .ok (.getfield 39, 3) := by decide +kernel
theorem d_T_grant_39 : decode prog_1_method_36_code 39 = .ok (.aload_n 0, 1) := by decide +kernel
theorem d_T_grant_40 : decode prog_1_method_36_code 40 = .ok (.getfield 137, 3) := by decide +kernel
theorem d_T_grant_43 : decode prog_1_method_36_code 43 = .ok (.iload_n 1, 1) := by decide +kernel
theorem d_T_grant_44 : decode prog_1_method_36_code 44 = .ok (.iastore, 1) := by decide +kernel
theorem d_T_grant_45 : decode prog_1_method_36_code 45 = .ok (.aload_n 0, 1) := by decide +kernel
theorem d_T_grant_46 : decode prog_1_method_36_code 46 = .ok (.dup, 1) := by decide +kernel
theorem d_T_grant_47 : decode prog_1_method_36_code 47 = .ok (.getfield 137, 3) := by decide +kernel
theorem d_T_grant_50 : decode prog_1_method_36_code 50 = .ok (.iconst 1, 1) := by decide +kernel
theorem d_T_grant_51 : decode prog_1_method_36_code 51 = .ok (.iadd, 1) := by decide +kernel
theorem d_T_grant_52 : decode prog_1_method_36_code 52 = .ok (.putfield 137, 3) := by decide +kernel
theorem d_T_grant_55 : decode prog_1_method_36_code 55 = .ok (.aload_n 0, 1) := by decide +kernel
theorem d_T_grant_56 : decode prog_1_method_36_code 56 = .ok (.getfield 32, 3) := by decide +kernel
theorem d_T_grant_59 : decode prog_1_method_36_code 59 = .ok (.getfield 182, 3) := by decide +kernel
theorem d_T_grant_62 : decode prog_1_method_36_code 62 = .ok (.iload_n 1, 1) := by decide +kernel
theorem d_T_grant_63 : decode prog_1_method_36_code 63 = .ok (.iaload, 1) := by decide +kernel
theorem d_T_grant_64 : decode prog_1_method_36_code 64 = .ok (.istore_n 2, 1) := by decide +kernel
theorem d_T_grant_65 : decode prog_1_method_36_code 65 = .ok (.aload_n 0, 1) := by decide +kernel
theorem d_T_grant_66 : decode prog_1_method_36_code 66 = .ok (.getfield 32, 3) := by decide +kernel
theorem d_T_grant_69 : decode prog_1_method_36_code 69 = .ok (.getfield 189, 3) := by decide +kernel
theorem d_T_grant_72 : decode prog_1_method_36_code 72 = .ok (.iload_n 1, 1) := by decide +kernel
theorem d_T_grant_73 : decode prog_1_method_36_code 73 = .ok (.iaload, 1) := by decide +kernel
theorem d_T_grant_74 : decode prog_1_method_36_code 74 = .ok (.istore_n 3, 1) := by decide +kernel
theorem d_T_grant_75 : decode prog_1_method_36_code 75 = .ok (.aload_n 0, 1) := by decide +kernel
theorem d_T_grant_76 : decode prog_1_method_36_code 76 = .ok (.getfield 32, 3) := by decide +kernel
theorem d_T_grant_79 : decode prog_1_method_36_code 79 = .ok (.getfield 185, 3) := by decide +kernel
theorem d_T_grant_82 : decode prog_1_method_36_code 82 = .ok (.iload_n 1, 1) := by decide +kernel
theorem d_T_grant_83 : decode prog_1_method_36_code 83 = .ok (.baload, 1) := by decide +kernel
theorem d_T_grant_84 : decode prog_1_method_36_code 84 = .ok (.ifCond .eq 33, 3) := by decide +kernel
theorem d_T_grant_87 : decode prog_1_method_36_code 87 = .ok (.aload_n 0, 1) := by decide +kernel
theorem d_T_grant_88 : decode prog_1_method_36_code 88 = .ok (.getfield 25, 3) := by decide +kernel
theorem d_T_grant_91 : decode prog_1_method_36_code 91 = .ok (.iload_n 1, 1) := by decide +kernel
theorem d_T_grant_92 : decode prog_1_method_36_code 92 = .ok (.iload_n 2, 1) := by decide +kernel
theorem d_T_grant_93 : decode prog_1_method_36_code 93 = .ok (.aload_n 0, 1) := by decide +kernel
theorem d_T_grant_94 : decode prog_1_method_36_code 94 = .ok (.getfield 32, 3) := by decide +kernel
theorem d_T_grant_97 : decode prog_1_method_36_code 97 = .ok (.getfield 243, 3) := by decide +kernel
theorem d_T_grant_100 : decode prog_1_method_36_code 100 = .ok (.iload_n 1, 1) := by decide +kernel
theorem d_T_grant_101 : decode prog_1_method_36_code 101 = .ok (.laload, 1) := by decide +kernel
theorem d_T_grant_102 : decode prog_1_method_36_code 102 = .ok (.aload_n 0, 1) := by decide +kernel
theorem d_T_grant_103 : decode prog_1_method_36_code 103 = .ok (.getfield 32, 3) := by decide +kernel
theorem d_T_grant_106 : decode prog_1_method_36_code 106 = .ok (.getfield 247, 3) := by decide +kernel
theorem d_T_grant_109 : decode prog_1_method_36_code 109 = .ok (.iload_n 1, 1) := by decide +kernel
theorem d_T_grant_110 : decode prog_1_method_36_code 110 = .ok (.laload, 1) := by decide +kernel
theorem d_T_grant_111 : decode prog_1_method_36_code 111 = .ok (.iload_n 3, 1) := by decide +kernel
theorem d_T_grant_112 : decode prog_1_method_36_code 112 = .ok (.invokevirtual 264, 3) := by decide +kernel
theorem d_T_grant_115 : decode prog_1_method_36_code 115 = .ok (.iconst 0, 1) := by decide +kernel
theorem d_T_grant_116 : decode prog_1_method_36_code 116 = .ok (.ireturn, 1) := by decide +kernel
theorem d_T_grant_117 : decode prog_1_method_36_code 117 = .ok (.aload_n 0, 1) := by decide +kernel
theorem d_T_grant_118 : decode prog_1_method_36_code 118 = .ok (.getfield 25, 3) := by decide +kernel
theorem d_T_grant_121 : decode prog_1_method_36_code 121 = .ok (.iload_n 1, 1) := by decide +kernel
theorem d_T_grant_122 : decode prog_1_method_36_code 122 = .ok (.iload_n 2, 1) := by decide +kernel
theorem d_T_grant_123 : decode prog_1_method_36_code 123 = .ok (.iload_n 3, 1) := by decide +kernel
theorem d_T_grant_124 : decode prog_1_method_36_code 124 = .ok (.invokevirtual 268, 3) := by decide +kernel
theorem d_T_grant_127 : decode prog_1_method_36_code 127 = .ok (.aload_n 0, 1) := by decide +kernel
theorem d_T_grant_128 : decode prog_1_method_36_code 128 = .ok (.getfield 32, 3) := by decide +kernel
theorem d_T_grant_131 : decode prog_1_method_36_code 131 = .ok (.getfield 195, 3) := by decide +kernel
theorem d_T_grant_134 : decode prog_1_method_36_code 134 = .ok (.iload_n 1, 1) := by decide +kernel
theorem d_T_grant_135 : decode prog_1_method_36_code 135 = .ok (.baload, 1) := by decide +kernel
theorem d_T_grant_136 : decode prog_1_method_36_code 136 = .ok (.ifCond .ne 5, 3) := by decide +kernel
theorem d_T_grant_139 : decode prog_1_method_36_code 139 = .ok (.iconst 0, 1) := by decide +kernel
theorem d_T_grant_140 : decode prog_1_method_36_code 140 = .ok (.ireturn, 1) := by decide +kernel
theorem d_T_grant_141 : decode prog_1_method_36_code 141 = .ok (.aload_n 0, 1) := by decide +kernel
theorem d_T_grant_142 : decode prog_1_method_36_code 142 = .ok (.getfield 25, 3) := by decide +kernel
theorem d_T_grant_145 : decode prog_1_method_36_code 145 = .ok (.iload_n 1, 1) := by decide +kernel
theorem d_T_grant_146 : decode prog_1_method_36_code 146 = .ok (.iload_n 2, 1) := by decide +kernel
theorem d_T_grant_147 : decode prog_1_method_36_code 147 = .ok (.invokevirtual 270, 3) := by decide +kernel
theorem d_T_grant_150 : decode prog_1_method_36_code 150 = .ok (.iconst 1, 1) := by decide +kernel
theorem d_T_grant_151 : decode prog_1_method_36_code 151 = .ok (.ireturn, 1) := by decide +kernel
theorem d_T_takeBack_0 : decode prog_1_method_37_code 0 = .ok (.aload_n 0, 1) := by decide +kernel
theorem d_T_takeBack_1 : decode prog_1_method_37_code 1 = .ok (.getfield 32, 3) := by decide +kernel
theorem d_T_takeBack_4 : decode prog_1_method_37_code 4 = .ok (.iload_n 1, 1) := by decide +kernel
theorem d_T_takeBack_5 : decode prog_1_method_37_code 5 = .ok (.invokevirtual 261, 3) := by decide +kernel
theorem d_T_takeBack_8 : decode prog_1_method_37_code 8 = .ok (.aload_n 0, 1) := by decide +kernel
theorem d_T_takeBack_9 : decode prog_1_method_37_code 9 = .ok (.getfield 9, 3) := by decide +kernel
theorem d_T_takeBack_12 : decode prog_1_method_37_code 12 = .ok (.iload_n 1, 1) := by decide +kernel
theorem d_T_takeBack_13 : decode prog_1_method_37_code 13 = .ok (.iload_n 2, 1) := by decide +kernel
theorem d_T_takeBack_14 : decode prog_1_method_37_code 14 = .ok (.iastore, 1) := by decide +kernel
theorem d_T_takeBack_15 : decode prog_1_method_37_code 15 = .ok (.return_, 1) := by decide +kernel
theorem d_T_lookAtAll_0 : decode prog_1_method_38_code 0 = .ok (.iconst 1, 1) := by decide +kernel
theorem d_T_lookAtAll_1 : decode prog_1_method_38_code 1 = .ok (.istore_n 1, 1) := by decide +kernel
theorem d_T_lookAtAll_2 : decode prog_1_method_38_code 2 = .ok (.iconst 0, 1) := by decide +kernel
theorem d_T_lookAtAll_3 : decode prog_1_method_38_code 3 = .ok (.istore_n 2, 1) := by decide +kernel
theorem d_T_lookAtAll_4 : decode prog_1_method_38_code 4 = .ok (.iload_n 1, 1) := by decide +kernel
theorem d_T_lookAtAll_5 : decode prog_1_method_38_code 5 = .ok (.ifCond .eq 87, 3) := by decide +kernel
theorem d_T_lookAtAll_8 : decode prog_1_method_38_code 8 = .ok (.iload_n 2, 1) := by decide +kernel
theorem d_T_lookAtAll_9 : decode prog_1_method_38_code 9 = .ok (.bipush 8, 2) := by decide +kernel
theorem d_T_lookAtAll_11 : decode prog_1_method_38_code 11 = .ok (.if_icmp .gt 81, 3) := by decide +kernel
theorem d_T_lookAtAll_14 : decode prog_1_method_38_code 14 = .ok (.iconst 0, 1) := by decide +kernel
theorem d_T_lookAtAll_15 : decode prog_1_method_38_code 15 = .ok (.istore_n 1, 1) := by decide +kernel
theorem d_T_lookAtAll_16 : decode prog_1_method_38_code 16 = .ok (.iconst 0, 1) := by decide +kernel
theorem d_T_lookAtAll_17 : decode prog_1_method_38_code 17 = .ok (.istore_n 3, 1) := by decide +kernel
theorem d_T_lookAtAll_18 : decode prog_1_method_38_code 18 = .ok (.aload_n 0, 1) := by decide +kernel
theorem d_T_lookAtAll_19 : decode prog_1_method_38_code 19 = .ok (.getfield 32, 3) := by decide +kernel
theorem d_T_lookAtAll_22 : decode prog_1_method_38_code 22 = .ok (.getfield 167, 3) := by decide +kernel
theorem d_T_lookAtAll_25 : decode prog_1_method_38_code 25 = .ok (.istore 4, 2) := by decide +kernel
theorem d_T_lookAtAll_27 : decode prog_1_method_38_code 27 = .ok (.iload 4, 2) := by decide +kernel
theorem d_T_lookAtAll_29 : decode prog_1_method_38_code 29 = .ok (.ifCond .le 57, 3) := by decide +kernel
theorem d_T_lookAtAll_32 : decode prog_1_method_38_code 32 = .ok (.iload_n 3, 1) := by decide +kernel
theorem d_T_lookAtAll_33 : decode prog_1_method_38_code 33 = .ok (.aload_n 0, 1) := by decide +kernel
theorem d_T_lookAtAll_34 : decode prog_1_method_38_code 34 = .ok (.getfield 32, 3) := by decide +kernel
theorem d_T_lookAtAll_37 : decode prog_1_method_38_code 37 = .ok (.getfield 167, 3) := by decide +kernel
theorem d_T_lookAtAll_40 : decode prog_1_method_38_code 40 = .ok (.if_icmp .ge 46, 3) := by decide +kernel
theorem d_T_lookAtAll_43 : decode prog_1_method_38_code 43 = .ok (.aload_n 0, 1) := by decide +kernel
theorem d_T_lookAtAll_44 : decode prog_1_method_38_code 44 = .ok (.getfield 32, 3) := by decide +kernel
theorem d_T_lookAtAll_47 : decode prog_1_method_38_code 47 = .ok (.getfield 174, 3) := by decide +kernel
theorem d_T_lookAtAll_50 : decode prog_1_method_38_code 50 = .ok (.iload_n 3, 1) := by decide +kernel
theorem d_T_lookAtAll_51 : decode prog_1_method_38_code 51 = .ok (.iaload, 1) := by decide +kernel
theorem d_T_lookAtAll_52 : decode prog_1_method_38_code 52 = .ok (.istore 5, 2) := by decide +kernel
theorem d_T_lookAtAll_54 : decode prog_1_method_38_code 54 = .ok (.aload_n 0, 1) := by decide +kernel
theorem d_T_lookAtAll_55 : decode prog_1_method_38_code 55 = .ok (.iload 5, 2) := by decide +kernel
theorem d_T_lookAtAll_57 : decode prog_1_method_38_code 57 = .ok (.invokevirtual 201, 3) := by decide +kernel
theorem d_T_lookAtAll_60 : decode prog_1_method_38_code 60 = .ok (.ifCond .eq 9, 3) := by decide +kernel
theorem d_T_lookAtAll_63 : decode prog_1_method_38_code 63 = .ok (.iinc 3 1, 3) := by decide +kernel
theorem d_T_lookAtAll_66 : decode prog_1_method_38_code 66 = .ok (.goto 14, 3) := by decide +kernel
theorem d_T_lookAtAll_69 : decode prog_1_method_38_code 69 = .ok (.aload_n 0, 1) := by decide +kernel
theorem d_T_lookAtAll_70 : decode prog_1_method_38_code 70 = .ok (.iload 5, 2) := by decide +kernel
theorem d_T_lookAtAll_72 : decode prog_1_method_38_code 72 = .ok (.invokevirtual 237, 3) := by decide +kernel
theorem d_T_lookAtAll_75 : decode prog_1_method_38_code 75 = .ok (.ifCond .eq 5, 3) := by decide +kernel
theorem d_T_lookAtAll_78 : decode prog_1_method_38_code 78 = .ok (.iconst 1, 1) := by decide +kernel
theorem d_T_lookAtAll_79 : decode prog_1_method_38_code 79 = .ok (.istore_n 1, 1) := by decide +kernel
theorem d_T_lookAtAll_80 : decode prog_1_method_38_code 80 = .ok (.iinc 4 (-1), 3) := by decide +kernel
theorem d_T_lookAtAll_83 : decode prog_1_method_38_code 83 = .ok (.goto (-56), 3) := by decide +kernel
theorem d_T_lookAtAll_86 : decode prog_1_method_38_code 86 = .ok (.iinc 2 1, 3) := by decide +kernel
theorem d_T_lookAtAll_89 : decode prog_1_method_38_code 89 = .ok (.goto (-85), 3) := by decide +kernel
theorem d_T_lookAtAll_92 : decode prog_1_method_38_code 92 = .ok (.return_, 1) := by decide +kernel
theorem d_T_ringOf_0 : decode prog_1_method_40_code 0 = .ok (.iconst 0, 1) := by decide +kernel
theorem d_T_ringOf_1 : decode prog_1_method_40_code 1 = .ok (.istore_n 2, 1) := by decide +kernel
theorem d_T_ringOf_2 : decode prog_1_method_40_code 2 = .ok (.iload_n 2, 1) := by decide +kernel
theorem d_T_ringOf_3 : decode prog_1_method_40_code 3 = .ok (.bipush 8, 2) := by decide +kernel
theorem d_T_ringOf_5 : decode prog_1_method_40_code 5 = .ok (.if_icmp .ge 34, 3) := by decide +kernel
theorem d_T_ringOf_8 : decode prog_1_method_40_code 8 = .ok (.aload_n 0, 1) := by decide +kernel
theorem d_T_ringOf_9 : decode prog_1_method_40_code 9 = .ok (.getfield 36, 3) := by decide +kernel
theorem d_T_ringOf_12 : decode prog_1_method_40_code 12 = .ok (.iload_n 2, 1) := by decide +kernel
theorem d_T_ringOf_13 : decode prog_1_method_40_code 13 = .ok (.aload_n 0, 1) := by decide +kernel
theorem d_T_ringOf_14 : decode prog_1_method_40_code 14 = .ok (.getfield 9, 3) := by decide +kernel
theorem d_T_ringOf_17 : decode prog_1_method_40_code 17 = .ok (.iload_n 2, 1) := by decide +kernel
theorem d_T_ringOf_18 : decode prog_1_method_40_code 18 = .ok (.iaload, 1) := by decide +kernel
theorem d_T_ringOf_19 : decode prog_1_method_40_code 19 = .ok (.iconst 2, 1) := by decide +kernel
theorem d_T_ringOf_20 : decode prog_1_method_40_code 20 = .ok (.if_icmp .ne 11, 3) := by decide +kernel
theorem d_T_ringOf_23 : decode prog_1_method_40_code 23 = .ok (.aload_n 0, 1) := by decide +kernel
theorem d_T_ringOf_24 : decode prog_1_method_40_code 24 = .ok (.iload_n 2, 1) := by decide +kernel
theorem d_T_ringOf_25 : decode prog_1_method_40_code 25 = .ok (.invokevirtual 201, 3) := by decide +kernel
theorem d_T_ringOf_28 : decode prog_1_method_40_code 28 = .ok (.goto 4, 3) := by decide +kernel
theorem d_T_ringOf_31 : decode prog_1_method_40_code 31 = .ok (.iconst 0, 1) := by decide +kernel
theorem d_T_ringOf_32 : decode prog_1_method_40_code 32 = .ok (.iastore, 1) := by decide +kernel
theorem d_T_ringOf_33 : decode prog_1_method_40_code 33 = .ok (.iinc 2 1, 3) := by decide +kernel
theorem d_T_ringOf_36 : decode prog_1_method_40_code 36 = .ok (.goto (-34), 3) := by decide +kernel
theorem d_T_ringOf_39 : decode prog_1_method_40_code 39 = .ok (.iconst 0, 1) := by decide +kernel
theorem d_T_ringOf_40 : decode prog_1_method_40_code 40 = .ok (.istore_n 2, 1) := by decide +kernel
theorem d_T_ringOf_41 : decode prog_1_method_40_code 41 = .ok (.iload_n 2, 1) := by decide +kernel
theorem d_T_ringOf_42 : decode prog_1_method_40_code 42 = .ok (.bipush 8, 2) := by decide +kernel
theorem d_T_ringOf_44 : decode prog_1_method_40_code 44 = .ok (.if_icmp .ge 51, 3) := by decide +kernel
theorem d_T_ringOf_47 : decode prog_1_method_40_code 47 = .ok (.iconst 0, 1) := by decide +kernel
theorem d_T_ringOf_48 : decode prog_1_method_40_code 48 = .ok (.istore_n 3, 1) := by decide +kernel
theorem d_T_ringOf_49 : decode prog_1_method_40_code 49 = .ok (.iload_n 3, 1) := by decide +kernel
theorem d_T_ringOf_50 : decode prog_1_method_40_code 50 = .ok (.bipush 8, 2) := by decide +kernel
theorem d_T_ringOf_52 : decode prog_1_method_40_code 52 = .ok (.if_icmp .ge 37, 3) := by decide +kernel
theorem d_T_ringOf_55 : decode prog_1_method_40_code 55 = .ok (.aload_n 0, 1) := by decide +kernel
theorem d_T_ringOf_56 : decode prog_1_method_40_code 56 = .ok (.getfield 36, 3) := by decide +kernel
theorem d_T_ringOf_59 : decode prog_1_method_40_code 59 = .ok (.iload_n 3, 1) := by decide +kernel
theorem d_T_ringOf_60 : decode prog_1_method_40_code 60 = .ok (.iaload, 1) := by decide +kernel
theorem d_T_ringOf_61 : decode prog_1_method_40_code 61 = .ok (.iload_n 2, 1) := by decide +kernel
theorem d_T_ringOf_62 : decode prog_1_method_40_code 62 = .ok (.invokestatic 279, 3) := by decide +kernel
theorem d_T_ringOf_65 : decode prog_1_method_40_code 65 = .ok (.ifCond .eq 18, 3) := by decide +kernel
theorem d_T_ringOf_68 : decode prog_1_method_40_code 68 = .ok (.aload_n 0, 1) := by decide +kernel
theorem d_T_ringOf_69 : decode prog_1_method_40_code 69 = .ok (.getfield 36, 3) := by decide +kernel
theorem d_T_ringOf_72 : decode prog_1_method_40_code 72 = .ok (.iload_n 3, 1) := by decide +kernel
theorem d_T_ringOf_73 : decode prog_1_method_40_code 73 = .ok (.dup2, 1) := by decide +kernel
theorem d_T_ringOf_74 : decode prog_1_method_40_code 74 = .ok (.iaload, 1) := by decide +kernel
theorem d_T_ringOf_75 : decode prog_1_method_40_code 75 = .ok (.aload_n 0, 1) := by decide +kernel
theorem d_T_ringOf_76 : decode prog_1_method_40_code 76 = .ok (.getfield 36, 3) := by decide +kernel
theorem d_T_ringOf_79 : decode prog_1_method_40_code 79 = .ok (.iload_n 2, 1) := by decide +kernel
theorem d_T_ringOf_80 : decode prog_1_method_40_code 80 = .ok (.iaload, 1) := by decide +kernel
theorem d_T_ringOf_81 : decode prog_1_method_40_code 81 = .ok (.ior, 1) := by decide +kernel
theorem d_T_ringOf_82 : decode prog_1_method_40_code 82 = .ok (.iastore, 1) := by decide +kernel
theorem d_T_ringOf_83 : decode prog_1_method_40_code 83 = .ok (.iinc 3 1, 3) := by decide +kernel
theorem d_T_ringOf_86 : decode prog_1_method_40_code 86 = .ok (.goto (-37), 3) := by decide +kernel
theorem d_T_ringOf_89 : decode prog_1_method_40_code 89 = .ok (.iinc 2 1, 3) := by decide +kernel
theorem d_T_ringOf_92 : decode prog_1_method_40_code 92 = .ok (.goto (-51), 3) := by decide +kernel
theorem d_T_ringOf_95 : decode prog_1_method_40_code 95 = .ok (.iconst 0, 1) := by decide +kernel
theorem d_T_ringOf_96 : decode prog_1_method_40_code 96 = .ok (.istore_n 2, 1) := by decide +kernel
theorem d_T_ringOf_97 : decode prog_1_method_40_code 97 = .ok (.iconst 0, 1) := by decide +kernel
theorem d_T_ringOf_98 : decode prog_1_method_40_code 98 = .ok (.istore_n 3, 1) := by decide +kernel
theorem d_T_ringOf_99 : decode prog_1_method_40_code 99 = .ok (.iload_n 3, 1) := by decide +kernel
theorem d_T_ringOf_100 : decode prog_1_method_40_code 100 = .ok (.bipush 8, 2) := by decide +kernel
theorem d_T_ringOf_102 : decode prog_1_method_40_code 102 = .ok (.if_icmp .ge 41, 3) := by decide +kernel
theorem d_T_ringOf_105 : decode prog_1_method_40_code 105 = .ok (.aload_n 0, 1) := by decide +kernel
theorem d_T_ringOf_106 : decode prog_1_method_40_code 106 = .ok (.getfield 36, 3) := by decide +kernel
theorem d_T_ringOf_109 : decode prog_1_method_40_code 109 = .ok (.iload_n 1, 1) := by decide +kernel
theorem d_T_ringOf_110 : decode prog_1_method_40_code 110 = .ok (.iaload, 1) := by decide +kernel
theorem d_T_ringOf_111 : decode prog_1_method_40_code 111 = .ok (.iload_n 3, 1) := by decide +kernel
theorem d_T_ringOf_112 : decode prog_1_method_40_code 112 = .ok (.invokestatic 279, 3) := by decide +kernel
theorem d_T_ringOf_115 : decode prog_1_method_40_code 115 = .ok (.ifCond .eq 22, 3) := by decide +kernel
theorem d_T_ringOf_118 : decode prog_1_method_40_code 118 = .ok (.aload_n 0, 1) := by decide +kernel
theorem d_T_ringOf_119 : decode prog_1_method_40_code 119 = .ok (.getfield 36, 3) := by decide +kernel
theorem d_T_ringOf_122 : decode prog_1_method_40_code 122 = .ok (.iload_n 3, 1) := by decide +kernel
theorem d_T_ringOf_123 : decode prog_1_method_40_code 123 = .ok (.iaload, 1) := by decide +kernel
theorem d_T_ringOf_124 : decode prog_1_method_40_code 124 = .ok (.iload_n 1, 1) := by decide +kernel
theorem d_T_ringOf_125 : decode prog_1_method_40_code 125 = .ok (.invokestatic 279, 3) := by decide +kernel
theorem d_T_ringOf_128 : decode prog_1_method_40_code 128 = .ok (.ifCond .eq 9, 3) := by decide +kernel
theorem d_T_ringOf_131 : decode prog_1_method_40_code 131 = .ok (.iload_n 2, 1) := by decide +kernel
theorem d_T_ringOf_132 : decode prog_1_method_40_code 132 = .ok (.iconst 1, 1) := by decide +kernel
theorem d_T_ringOf_133 : decode prog_1_method_40_code 133 = .ok (.iload_n 3, 1) := by decide +kernel
theorem d_T_ringOf_134 : decode prog_1_method_40_code 134 = .ok (.ishl, 1) := by decide +kernel
theorem d_T_ringOf_135 : decode prog_1_method_40_code 135 = .ok (.ior, 1) := by decide +kernel
theorem d_T_ringOf_136 : decode prog_1_method_40_code 136 = .ok (.istore_n 2, 1) := by decide +kernel
theorem d_T_ringOf_137 : decode prog_1_method_40_code 137 = .ok (.iinc 3 1, 3) := by decide +kernel
theorem d_T_ringOf_140 : decode prog_1_method_40_code 140 = .ok (.goto (-41), 3) := by decide +kernel
theorem d_T_ringOf_143 : decode prog_1_method_40_code 143 = .ok (.iload_n 2, 1) := by decide +kernel
theorem d_T_ringOf_144 : decode prog_1_method_40_code 144 = .ok (.ireturn, 1) := by decide +kernel
theorem d_T_newestOf_0 : decode prog_1_method_42_code 0 = .ok (.iload_n 2, 1) := by decide +kernel
theorem d_T_newestOf_1 : decode prog_1_method_42_code 1 = .ok (.istore_n 3, 1) := by decide +kernel
theorem d_T_newestOf_2 : decode prog_1_method_42_code 2 = .ok (.iconst 0, 1) := by decide +kernel
theorem d_T_newestOf_3 : decode prog_1_method_42_code 3 = .ok (.istore 4, 2) := by decide +kernel
theorem d_T_newestOf_5 : decode prog_1_method_42_code 5 = .ok (.iload 4, 2) := by decide +kernel
theorem d_T_newestOf_7 : decode prog_1_method_42_code 7 = .ok (.bipush 8, 2) := by decide +kernel
theorem d_T_newestOf_9 : decode prog_1_method_42_code 9 = .ok (.if_icmp .ge 37, 3) := by decide +kernel
theorem d_T_newestOf_12 : decode prog_1_method_42_code 12 = .ok (.iload_n 1, 1) := by decide +kernel
theorem d_T_newestOf_13 : decode prog_1_method_42_code 13 = .ok (.iload 4, 2) := by decide +kernel
theorem d_T_newestOf_15 : decode prog_1_method_42_code 15 = .ok (.invokestatic 279, 3) := by decide +kernel
theorem d_T_newestOf_18 : decode prog_1_method_42_code 18 = .ok (.ifCond .eq 22, 3) := by decide +kernel
theorem d_T_newestOf_21 : decode prog_1_method_42_code 21 = .ok (.aload_n 0, 1) := by decide +kernel
theorem d_T_newestOf_22 : decode prog_1_method_42_code 22 = .ok (.getfield 13, 3) := by decide +kernel
theorem d_T_newestOf_25 : decode prog_1_method_42_code 25 = .ok (.iload 4, 2) := by decide +kernel
theorem d_T_newestOf_27 : decode prog_1_method_42_code 27 = .ok (.iaload, 1) := by decide +kernel
theorem d_T_newestOf_28 : decode prog_1_method_42_code 28 = .ok (.aload_n 0, 1) := by decide +kernel
theorem d_T_newestOf_29 : decode prog_1_method_42_code 29 = .ok (.getfield 13, 3) := by decide +kernel
theorem d_T_newestOf_32 : decode prog_1_method_42_code 32 = .ok (.iload_n 3, 1) := by decide +kernel
theorem d_T_newestOf_33 : decode prog_1_method_42_code 33 = .ok (.iaload, 1) := by decide +kernel
theorem d_T_newestOf_34 : decode prog_1_method_42_code 34 = .ok (.if_icmp .le 6, 3) := by decide +kernel
theorem d_T_newestOf_37 : decode prog_1_method_42_code 37 = .ok (.iload 4, 2) := by decide +kernel
theorem d_T_newestOf_39 : decode prog_1_method_42_code 39 = .ok (.istore_n 3, 1) := by decide +kernel
theorem d_T_newestOf_40 : decode prog_1_method_42_code 40 = .ok (.iinc 4 1, 3) := by decide +kernel
theorem d_T_newestOf_43 : decode prog_1_method_42_code 43 = .ok (.goto (-38), 3) := by decide +kernel
theorem d_T_newestOf_46 : decode prog_1_method_42_code 46 = .ok (.iload_n 3, 1) := by decide +kernel
theorem d_T_newestOf_47 : decode prog_1_method_42_code 47 = .ok (.ireturn, 1) := by decide +kernel
theorem d_T_breakRings_0 : decode prog_1_method_39_code 0 = .ok (.iconst 0, 1) := by decide +kernel
theorem d_T_breakRings_1 : decode prog_1_method_39_code 1 = .ok (.istore_n 2, 1) := by decide +kernel
theorem d_T_breakRings_2 : decode prog_1_method_39_code 2 = .ok (.iload_n 2, 1) := by decide +kernel
theorem d_T_breakRings_3 : decode prog_1_method_39_code 3 = .ok (.bipush 8, 2) := by decide +kernel
theorem d_T_breakRings_5 : decode prog_1_method_39_code 5 = .ok (.if_icmp .ge 45, 3) := by decide +kernel
theorem d_T_breakRings_8 : decode prog_1_method_39_code 8 = .ok (.aload_n 0, 1) := by decide +kernel
theorem d_T_breakRings_9 : decode prog_1_method_39_code 9 = .ok (.getfield 9, 3) := by decide +kernel
theorem d_T_breakRings_12 : decode prog_1_method_39_code 12 = .ok (.iload_n 1, 1) := by decide +kernel
theorem d_T_breakRings_13 : decode prog_1_method_39_code 13 = .ok (.iaload, 1) := by decide +kernel
theorem d_T_breakRings_14 : decode prog_1_method_39_code 14 = .ok (.iconst 2, 1) := by decide +kernel
theorem d_T_breakRings_15 : decode prog_1_method_39_code 15 = .ok (.if_icmp .ne 35, 3) := by decide +kernel
theorem d_T_breakRings_18 : decode prog_1_method_39_code 18 = .ok (.aload_n 0, 1) := by decide +kernel
theorem d_T_breakRings_19 : decode prog_1_method_39_code 19 = .ok (.iload_n 1, 1) := by decide +kernel
theorem d_T_breakRings_20 : decode prog_1_method_39_code 20 = .ok (.invokevirtual 273, 3) := by decide +kernel
theorem d_T_breakRings_23 : decode prog_1_method_39_code 23 = .ok (.istore_n 3, 1) := by decide +kernel
theorem d_T_breakRings_24 : decode prog_1_method_39_code 24 = .ok (.iload_n 3, 1) := by decide +kernel
theorem d_T_breakRings_25 : decode prog_1_method_39_code 25 = .ok (.ifCond .ne 4, 3) := by decide +kernel
theorem d_T_breakRings_28 : decode prog_1_method_39_code 28 = .ok (.return_, 1) := by decide +kernel
theorem d_T_breakRings_29 : decode prog_1_method_39_code 29 = .ok (.aload_n 0, 1) := by decide +kernel
theorem d_T_breakRings_30 : decode prog_1_method_39_code 30 = .ok (.aload_n 0, 1) := by decide +kernel
theorem d_T_breakRings_31 : decode prog_1_method_39_code 31 = .ok (.iload_n 3, 1) := by decide +kernel
theorem d_T_breakRings_32 : decode prog_1_method_39_code 32 = .ok (.iload_n 1, 1) := by decide +kernel
theorem d_T_breakRings_33 : decode prog_1_method_39_code 33 = .ok (.invokevirtual 276, 3) := by decide +kernel
theorem d_T_breakRings_36 : decode prog_1_method_39_code 36 = .ok (.iconst 3, 1) := by decide +kernel
theorem d_T_breakRings_37 : decode prog_1_method_39_code 37 = .ok (.invokevirtual 130, 3) := by decide +kernel
theorem d_T_breakRings_40 : decode prog_1_method_39_code 40 = .ok (.aload_n 0, 1) := by decide +kernel
theorem d_T_breakRings_41 : decode prog_1_method_39_code 41 = .ok (.invokevirtual 134, 3) := by decide +kernel
theorem d_T_breakRings_44 : decode prog_1_method_39_code 44 = .ok (.iinc 2 1, 3) := by decide +kernel
theorem d_T_breakRings_47 : decode prog_1_method_39_code 47 = .ok (.goto (-45), 3) := by decide +kernel
theorem d_T_breakRings_50 : decode prog_1_method_39_code 50 = .ok (.return_, 1) := by decide +kernel
theorem d_T_takeBackOverdue_0 : decode prog_1_method_43_code 0 = .ok (.iconst 0, 1) := by decide +kernel
theorem d_T_takeBackOverdue_1 : decode prog_1_method_43_code 1 = .ok (.istore_n 1, 1) := by decide +kernel
theorem d_T_takeBackOverdue_2 : decode prog_1_method_43_code 2 = .ok (.iload_n 1, 1) := by decide +kernel
theorem d_T_takeBackOverdue_3 : decode prog_1_method_43_code 3 = .ok (.bipush 8, 2) := by decide +kernel
theorem d_T_takeBackOverdue_5 : decode prog_1_method_43_code 5 = .ok (.if_icmp .ge 53, 3) := by decide +kernel
theorem d_T_takeBackOverdue_8 : decode prog_1_method_43_code 8 = .ok (.aload_n 0, 1) := by decide +kernel
theorem d_T_takeBackOverdue_9 : decode prog_1_method_43_code 9 = .ok (.getfield 154, 3) := by decide +kernel
theorem d_T_takeBackOverdue_12 : decode prog_1_method_43_code 12 = .ok (.ifCond .ne 7, 3) := by decide +kernel
theorem d_T_takeBackOverdue_15 : decode prog_1_method_43_code 15 = .ok (.iconst (-1), 1) := by decide +kernel
theorem d_T_takeBackOverdue_16 : decode prog_1_method_43_code 16 = .ok (.goto 18, 3) := by decide +kernel
theorem d_T_takeBackOverdue_19 : decode prog_1_method_43_code 19 = .ok (.aload_n 0, 1) := by decide +kernel
theorem d_T_takeBackOverdue_20 : decode prog_1_method_43_code 20 = .ok (.getfield 32, 3) := by decide +kernel
theorem d_T_takeBackOverdue_23 : decode prog_1_method_43_code 23 = .ok (.aload_n 0, 1) := by decide +kernel
theorem d_T_takeBackOverdue_24 : decode prog_1_method_43_code 24 = .ok (.getfield 157, 3) := by decide +kernel
theorem d_T_takeBackOverdue_27 : decode prog_1_method_43_code 27 = .ok (.aload_n 0, 1) := by decide +kernel
theorem d_T_takeBackOverdue_28 : decode prog_1_method_43_code 28 = .ok (.getfield 154, 3) := by decide +kernel
theorem d_T_takeBackOverdue_31 : decode prog_1_method_43_code 31 = .ok (.invokevirtual 282, 3) := by decide +kernel
theorem d_T_takeBackOverdue_34 : decode prog_1_method_43_code 34 = .ok (.istore_n 2, 1) := by decide +kernel
theorem d_T_takeBackOverdue_35 : decode prog_1_method_43_code 35 = .ok (.iload_n 2, 1) := by decide +kernel
theorem d_T_takeBackOverdue_36 : decode prog_1_method_43_code 36 = .ok (.iconst (-1), 1) := by decide +kernel
theorem d_T_takeBackOverdue_37 : decode prog_1_method_43_code 37 = .ok (.if_icmp .ne 5, 3) := by decide +kernel
theorem d_T_takeBackOverdue_40 : decode prog_1_method_43_code 40 = .ok (.iload_n 1, 1) := by decide +kernel
theorem d_T_takeBackOverdue_41 : decode prog_1_method_43_code 41 = .ok (.ireturn, 1) := by decide +kernel
theorem d_T_takeBackOverdue_42 : decode prog_1_method_43_code 42 = .ok (.aload_n 0, 1) := by decide +kernel
theorem d_T_takeBackOverdue_43 : decode prog_1_method_43_code 43 = .ok (.iload_n 2, 1) := by decide +kernel
theorem d_T_takeBackOverdue_44 : decode prog_1_method_43_code 44 = .ok (.iconst 1, 1) := by decide +kernel
theorem d_T_takeBackOverdue_45 : decode prog_1_method_43_code 45 = .ok (.invokevirtual 130, 3) := by decide +kernel
theorem d_T_takeBackOverdue_48 : decode prog_1_method_43_code 48 = .ok (.aload_n 0, 1) := by decide +kernel
theorem d_T_takeBackOverdue_49 : decode prog_1_method_43_code 49 = .ok (.invokevirtual 134, 3) := by decide +kernel
theorem d_T_takeBackOverdue_52 : decode prog_1_method_43_code 52 = .ok (.iinc 1 1, 3) := by decide +kernel
theorem d_T_takeBackOverdue_55 : decode prog_1_method_43_code 55 = .ok (.goto (-53), 3) := by decide +kernel
theorem d_T_takeBackOverdue_58 : decode prog_1_method_43_code 58 = .ok (.iload_n 1, 1) := by decide +kernel
theorem d_T_takeBackOverdue_59 : decode prog_1_method_43_code 59 = .ok (.ireturn, 1) := by decide +kernel
theorem d_T_ask_0 : decode prog_1_method_33_code 0 = .ok (.aload_n 0, 1) := by decide +kernel
theorem d_T_ask_1 : decode prog_1_method_33_code 1 = .ok (.getfield 32, 3) := by decide +kernel
theorem d_T_ask_4 : decode prog_1_method_33_code 4 = .ok (.iload_n 1, 1) := by decide +kernel
theorem d_T_ask_5 : decode prog_1_method_33_code 5 = .ok (.aload_n 0, 1) := by decide +kernel
theorem d_T_ask_6 : decode prog_1_method_33_code 6 = .ok (.getfield 157, 3) := by decide +kernel
theorem d_T_ask_9 : decode prog_1_method_33_code 9 = .ok (.invokevirtual 230, 3) := by decide +kernel
theorem d_T_ask_12 : decode prog_1_method_33_code 12 = .ok (.aload_n 0, 1) := by decide +kernel
theorem d_T_ask_13 : decode prog_1_method_33_code 13 = .ok (.getfield 9, 3) := by decide +kernel
theorem d_T_ask_16 : decode prog_1_method_33_code 16 = .ok (.iload_n 1, 1) := by decide +kernel
theorem d_T_ask_17 : decode prog_1_method_33_code 17 = .ok (.iconst 2, 1) := by decide +kernel
theorem d_T_ask_18 : decode prog_1_method_33_code 18 = .ok (.iastore, 1) := by decide +kernel
theorem d_T_ask_19 : decode prog_1_method_33_code 19 = .ok (.aload_n 0, 1) := by decide +kernel
theorem d_T_ask_20 : decode prog_1_method_33_code 20 = .ok (.iload_n 1, 1) := by decide +kernel
theorem d_T_ask_21 : decode prog_1_method_33_code 21 = .ok (.invokevirtual 233, 3) := by decide +kernel
theorem d_T_ask_24 : decode prog_1_method_33_code 24 = .ok (.ifCond .ne 11, 3) := by decide +kernel
theorem d_T_ask_27 : decode prog_1_method_33_code 27 = .ok (.aload_n 0, 1) := by decide +kernel
theorem d_T_ask_28 : decode prog_1_method_33_code 28 = .ok (.iload_n 1, 1) := by decide +kernel
theorem d_T_ask_29 : decode prog_1_method_33_code 29 = .ok (.invokevirtual 201, 3) := by decide +kernel
theorem d_T_ask_32 : decode prog_1_method_33_code 32 = .ok (.ifCond .ne 17, 3) := by decide +kernel
theorem d_T_ask_35 : decode prog_1_method_33_code 35 = .ok (.aload_n 0, 1) := by decide +kernel
theorem d_T_ask_36 : decode prog_1_method_33_code 36 = .ok (.iload_n 1, 1) := by decide +kernel
theorem d_T_ask_37 : decode prog_1_method_33_code 37 = .ok (.invokevirtual 237, 3) := by decide +kernel
theorem d_T_ask_40 : decode prog_1_method_33_code 40 = .ok (.ifCond .eq 7, 3) := by decide +kernel
theorem d_T_ask_43 : decode prog_1_method_33_code 43 = .ok (.aload_n 0, 1) := by decide +kernel
theorem d_T_ask_44 : decode prog_1_method_33_code 44 = .ok (.invokevirtual 134, 3) := by decide +kernel
theorem d_T_ask_47 : decode prog_1_method_33_code 47 = .ok (.iconst 0, 1) := by decide +kernel
theorem d_T_ask_48 : decode prog_1_method_33_code 48 = .ok (.ireturn, 1) := by decide +kernel
theorem d_T_ask_49 : decode prog_1_method_33_code 49 = .ok (.aload_n 0, 1) := by decide +kernel
theorem d_T_ask_50 : decode prog_1_method_33_code 50 = .ok (.iload_n 1, 1) := by decide +kernel
theorem d_T_ask_51 : decode prog_1_method_33_code 51 = .ok (.invokevirtual 240, 3) := by decide +kernel
theorem d_T_ask_54 : decode prog_1_method_33_code 54 = .ok (.aload_n 0, 1) := by decide +kernel
theorem d_T_ask_55 : decode prog_1_method_33_code 55 = .ok (.getfield 9, 3) := by decide +kernel
theorem d_T_ask_58 : decode prog_1_method_33_code 58 = .ok (.iload_n 1, 1) := by decide +kernel
theorem d_T_ask_59 : decode prog_1_method_33_code 59 = .ok (.iaload, 1) := by decide +kernel
theorem d_T_ask_60 : decode prog_1_method_33_code 60 = .ok (.iconst 2, 1) := by decide +kernel
theorem d_T_ask_61 : decode prog_1_method_33_code 61 = .ok (.if_icmp .ne 5, 3) := by decide +kernel
theorem d_T_ask_64 : decode prog_1_method_33_code 64 = .ok (.iconst 1, 1) := by decide +kernel
theorem d_T_ask_65 : decode prog_1_method_33_code 65 = .ok (.ireturn, 1) := by decide +kernel
theorem d_T_ask_66 : decode prog_1_method_33_code 66 = .ok (.aload_n 0, 1) := by decide +kernel
theorem d_T_ask_67 : decode prog_1_method_33_code 67 = .ok (.getfield 9, 3) := by decide +kernel
theorem d_T_ask_70 : decode prog_1_method_33_code 70 = .ok (.iload_n 1, 1) := by decide +kernel
theorem d_T_ask_71 : decode prog_1_method_33_code 71 = .ok (.iaload, 1) := by decide +kernel
theorem d_T_ask_72 : decode prog_1_method_33_code 72 = .ok (.iconst 3, 1) := by decide +kernel
theorem d_T_ask_73 : decode prog_1_method_33_code 73 = .ok (.if_icmp .ne 7, 3) := by decide +kernel
theorem d_T_ask_76 : decode prog_1_method_33_code 76 = .ok (.iconst 2, 1) := by decide +kernel
theorem d_T_ask_77 : decode prog_1_method_33_code 77 = .ok (.goto 4, 3) := by decide +kernel
theorem d_T_ask_80 : decode prog_1_method_33_code 80 = .ok (.iconst 0, 1) := by decide +kernel
theorem d_T_ask_81 : decode prog_1_method_33_code 81 = .ok (.ireturn, 1) := by decide +kernel
theorem d_T_queue_0 : decode prog_1_method_18_code 0 = .ok (.iload_n 1, 1) := by decide +kernel
theorem d_T_queue_1 : decode prog_1_method_18_code 1 = .ok (.ifCond .lt 26, 3) := by decide +kernel
theorem d_T_queue_4 : decode prog_1_method_18_code 4 = .ok (.iload_n 1, 1) := by decide +kernel
theorem d_T_queue_5 : decode prog_1_method_18_code 5 = .ok (.aload_n 0, 1) := by decide +kernel
theorem d_T_queue_6 : decode prog_1_method_18_code 6 = .ok (.getfield 32, 3) := by decide +kernel
theorem d_T_queue_9 : decode prog_1_method_18_code 9 = .ok (.getfield 167, 3) := by decide +kernel
theorem d_T_queue_12 : decode prog_1_method_18_code 12 = .ok (.if_icmp .ge 15, 3) := by decide +kernel
theorem d_T_queue_15 : decode prog_1_method_18_code 15 = .ok (.aload_n 0, 1) := by decide +kernel
theorem d_T_queue_16 : decode prog_1_method_18_code 16 = .ok (.getfield 32, 3) := by decide +kernel
theorem d_T_queue_19 : decode prog_1_method_18_code 19 = .ok (.getfield 174, 3) := by decide +kernel
theorem d_T_queue_22 : decode prog_1_method_18_code 22 = .ok (.iload_n 1, 1) := by decide +kernel
theorem d_T_queue_23 : decode prog_1_method_18_code 23 = .ok (.iaload, 1) := by decide +kernel
theorem d_T_queue_24 : decode prog_1_method_18_code 24 = .ok (.goto 4, 3) := by decide +kernel
theorem d_T_queue_27 : decode prog_1_method_18_code 27 = .ok (.iconst (-1), 1) := by decide +kernel
theorem d_T_queue_28 : decode prog_1_method_18_code 28 = .ok (.ireturn, 1) := by decide +kernel
theorem d_T_granted_0 : decode prog_1_method_21_code 0 = .ok (.iload_n 1, 1) := by decide +kernel
theorem d_T_granted_1 : decode prog_1_method_21_code 1 = .ok (.ifCond .lt 20, 3) := by decide +kernel
theorem d_T_granted_4 : decode prog_1_method_21_code 4 = .ok (.iload_n 1, 1) := by decide +kernel
theorem d_T_granted_5 : decode prog_1_method_21_code 5 = .ok (.aload_n 0, 1) := by decide +kernel
theorem d_T_granted_6 : decode prog_1_method_21_code 6 = .ok (.getfield 137, 3) := by decide +kernel
theorem d_T_granted_9 : decode prog_1_method_21_code 9 = .ok (.if_icmp .ge 12, 3) := by decide +kernel
theorem d_T_granted_12 : decode prog_1_method_21_code 12 = .ok (.aload_n 0, 1) := by decide +kernel
theorem d_T_granted_13 : decode prog_1_method_21_code 13 = .ok (.getfield 39, 3) := by decide +kernel
theorem d_T_granted_16 : decode prog_1_method_21_code 16 = .ok (.iload_n 1, 1) := by decide +kernel
theorem d_T_granted_17 : decode prog_1_method_21_code 17 = .ok (.iaload, 1) := by decide +kernel
theorem d_T_granted_18 : decode prog_1_method_21_code 18 = .ok (.goto 4, 3) := by decide +kernel
theorem d_T_granted_21 : decode prog_1_method_21_code 21 = .ok (.iconst (-1), 1) := by decide +kernel
theorem d_T_granted_22 : decode prog_1_method_21_code 22 = .ok (.ireturn, 1) := by decide +kernel
def F_T_hasBit (a1 : Int32) (a2 : Int32) : Option (Int32) :=
  if ((a1 >>> (a2 &&& 31)) &&& 1) = 0 then some 0 else some 1
set_option maxHeartbeats 4000000 in
set_option maxRecDepth 100000 in
theorem t_T_hasBit {p : Program} {l : Launch} {e : Env} {s : State} {m : MethodId} {args : Array Value} {below : List Frame} {meth : Method} {c : Code} {A : Nat → Prop} {g : va_G} {tys : List (ClassId × FieldType)} {w : va_W} (K : kX p s m args meth c "LockTable" prog_1_method_41_code 2 (some .boolean) A g tys)  (a1 : Int32) (a2 : Int32) (r : Int32) (hF : F_T_hasBit a1 a2 = some r) {H : Heap} {locs : List Loc} {ls : Array Slot} (hP : va_P g kcl w H) (hD : va_D A w) (hS : va_S A s.heap H locs) (hl : lv_has ls 2 [(0, .int a1), (1, .int a2)]) : W p l e ({ frames := 0, cells := 0, slots := 0, locals := 0 }) s m args below meth c H locs 0 0 (MQ below (kQi g tys w A r) args s 0 0 A) (F0 m 0 ls []) := by
  obtain ⟨hx, hb, hr, hml, hown, hts, hlocks, hK, hA, hE⟩ := id K
  unfold F_T_hasBit at hF
  refine lv_iload_n hx hb d_T_hasBit_0 rfl (lv_at hl 0 rfl) ?_
  refine lv_iload_n hx hb d_T_hasBit_1 rfl (lv_at hl 1 rfl) ?_
  refine lv_ishr hx hb d_T_hasBit_2 ?_
  refine lv_iconst (v := 1) hx hb d_T_hasBit_3 (by decide) ?_
  refine lv_iand hx hb d_T_hasBit_4 ?_
  refine lv_if_eq (tgt := 12) hx hb d_T_hasBit_5 (by decide) (fun hc_1 => ?_) (fun hc_1 => ?_)
  · have hF := it_t hF hc_1
    refine lv_iconst (v := 0) hx hb d_T_hasBit_12 (by decide) ?_
    cases hF
    exact krz K hP hD hS d_T_hasBit_13 rfl rfl
  · have hF := it_f hF hc_1
    refine lv_iconst (v := 1) hx hb d_T_hasBit_8 (by decide) ?_
    refine lv_goto (tgt := 13) hx hb d_T_hasBit_9 (by decide) ?_
    cases hF
    exact krz K hP hD hS d_T_hasBit_13 rfl rfl
theorem c_T_hasBit (l : Launch) (g : va_G) (tys : List (ClassId × FieldType)) (w : va_W) (a1 : Int32) (a2 : Int32) (r : Int32) (hF : F_T_hasBit a1 a2 = some r) : Ci l y_T_hasBit prog_1_method_41_code 2 (some .boolean) ({ frames := 0, cells := 0, slots := 0, locals := 0 }) [.int a1, .int a2] g tys w w r :=
  Ci.of (by decide) (Nat.le_of_ble_eq_true rfl) (fun p e s m below meth c A ls K hP hD hS hl => t_T_hasBit K  a1 a2 r hF hP hD hS hl)
def F_T_startCall (xgc : Int32) (xca : Int32) (a1 : Int32) : Option (Int32 × Int32) :=
  some (0, a1)
set_option maxHeartbeats 4000000 in
set_option maxRecDepth 100000 in
theorem t_T_startCall {p : Program} {l : Launch} {e : Env} {s : State} {m : MethodId} {args : Array Value} {below : List Frame} {meth : Method} {c : Code} {A : Nat → Prop} {g : va_G} {cI cJ cZ : ClassId} {ad : Nat → Nat} {rest : va_W} (K : kX p s m args meth c "LockTable" prog_1_method_30_code 2 none A g (kty cI cJ cZ)) (xst : Nat → Int32) (xse : Nat → Int32) (xre : Nat → Int32) (xgr : Nat → Int32) (ltm : Nat → Int32) (low : Nat → Int32) (lta : Nat → Int32) (llo : Nat → Int64) (lhi : Nat → Int64) (lmo : Nat → Int32) (rta : Nat → Int32) (ron : Nat → Int32) (rlo : Nat → Int64) (rhi : Nat → Int64) (rmo : Nat → Int32) (rin : Nat → Int32) (res : Nat → Int32) (rsi : Nat → Int32) (rli : Nat → Int32) (rar : Nat → Int32) (xgc : Int32) (xca : Int32) (xls : Int32) (xtl : Int32) (xno : Int32) (lco : Int32) (rwa : Int32) (rad : Int32) (a1 : Int32) (o_xgc : Int32) (o_xca : Int32) (hF : F_T_startCall xgc xca a1 = some (o_xgc, o_xca)) {H : Heap} {locs : List Loc} {ls : Array Slot} (hP : va_P g kcl (wC cI cJ cZ ad xst xse xre xgr ltm low lta llo lhi lmo rta ron rlo rhi rmo rin res rsi rli rar xgc xca xls xtl xno lco rwa rad rest) H) (hD : va_D A (wC cI cJ cZ ad xst xse xre xgr ltm low lta llo lhi lmo rta ron rlo rhi rmo rin res rsi rli rar xgc xca xls xtl xno lco rwa rad rest)) (hS : va_S A s.heap H locs) (hl : lv_has ls 2 [(0, .ref (ad 0)), (1, .int a1)]) : W p l e ({ frames := 0, cells := 0, slots := 0, locals := 0 }) s m args below meth c H locs 0 0 (MQ below (kQv g (kty cI cJ cZ) (wC cI cJ cZ ad xst xse xre xgr ltm low lta llo lhi lmo rta ron rlo rhi rmo rin res rsi rli rar o_xgc o_xca xls xtl xno lco rwa rad rest) A) args s 0 0 A) (F0 m 0 ls []) := by
  obtain ⟨hx, hb, hr, hml, hown, hts, hlocks, hK, hA, hE⟩ := id K
  unfold F_T_startCall at hF
  refine lv_aload_n hx hb d_T_startCall_0 rfl (lv_at hl 0 rfl) ?_
  refine lv_iload_n hx hb d_T_startCall_1 rfl (lv_at hl 1 rfl) ?_
  refine va_put (D := g) (ci := 2) (v := .int a1) (ty := .int) (C := kR2) (T := kT2) (N := 11) hx hb hts kw2 kt2 ko2 kn2 hown hK hP hD hS 0 rfl rfl 7 (by decide) (hts _ wm_163) (fun _ h9 => h9) rfl (by decide +kernel) rfl rfl (Nat.le_of_ble_eq_true rfl) d_T_startCall_2 (fun H locs hP hD hS => ?_)
  have hP : va_P g kcl (wC cI cJ cZ ad xst xse xre xgr ltm low lta llo lhi lmo rta ron rlo rhi rmo rin res rsi rli rar xgc a1 xls xtl xno lco rwa rad rest) H := hP
  have hD : va_D A (wC cI cJ cZ ad xst xse xre xgr ltm low lta llo lhi lmo rta ron rlo rhi rmo rin res rsi rli rar xgc a1 xls xtl xno lco rwa rad rest) := hD
  refine lv_aload_n hx hb d_T_startCall_5 rfl (lv_at hl 0 rfl) ?_
  refine lv_iconst (v := 0) hx hb d_T_startCall_6 (by decide) ?_
  refine va_put (D := g) (ci := 2) (v := .int 0) (ty := .int) (C := kR2) (T := kT2) (N := 11) hx hb hts kw2 kt2 ko2 kn2 hown hK hP hD hS 0 rfl rfl 6 (by decide) (hts _ wm_162) (fun _ h9 => h9) rfl (by decide +kernel) rfl rfl (Nat.le_of_ble_eq_true rfl) d_T_startCall_7 (fun H locs hP hD hS => ?_)
  have hP : va_P g kcl (wC cI cJ cZ ad xst xse xre xgr ltm low lta llo lhi lmo rta ron rlo rhi rmo rin res rsi rli rar 0 a1 xls xtl xno lco rwa rad rest) H := hP
  have hD : va_D A (wC cI cJ cZ ad xst xse xre xgr ltm low lta llo lhi lmo rta ron rlo rhi rmo rin res rsi rli rar 0 a1 xls xtl xno lco rwa rad rest) := hD
  cases hF
  exact krv K hP hD hS d_T_startCall_10
theorem c_T_startCall (l : Launch) (g : va_G) (cI cJ cZ : ClassId) (ad : Nat → Nat) (xst : Nat → Int32) (xse : Nat → Int32) (xre : Nat → Int32) (xgr : Nat → Int32) (ltm : Nat → Int32) (low : Nat → Int32) (lta : Nat → Int32) (llo : Nat → Int64) (lhi : Nat → Int64) (lmo : Nat → Int32) (rta : Nat → Int32) (ron : Nat → Int32) (rlo : Nat → Int64) (rhi : Nat → Int64) (rmo : Nat → Int32) (rin : Nat → Int32) (res : Nat → Int32) (rsi : Nat → Int32) (rli : Nat → Int32) (rar : Nat → Int32) (xgc : Int32) (xca : Int32) (xls : Int32) (xtl : Int32) (xno : Int32) (lco : Int32) (rwa : Int32) (rad : Int32) (rest : va_W) (a1 : Int32) (o_xgc : Int32) (o_xca : Int32) (hF : F_T_startCall xgc xca a1 = some (o_xgc, o_xca)) : Cv l y_T_startCall prog_1_method_30_code 2 ({ frames := 0, cells := 0, slots := 0, locals := 0 }) [.ref (ad 0), .int a1] g (kty cI cJ cZ) (wC cI cJ cZ ad xst xse xre xgr ltm low lta llo lhi lmo rta ron rlo rhi rmo rin res rsi rli rar xgc xca xls xtl xno lco rwa rad rest) (wC cI cJ cZ ad xst xse xre xgr ltm low lta llo lhi lmo rta ron rlo rhi rmo rin res rsi rli rar o_xgc o_xca xls xtl xno lco rwa rad rest) :=
  Cv.of (by decide) (Nat.le_of_ble_eq_true rfl) (fun p e s m below meth c A ls K hP hD hS hl => t_T_startCall K xst xse xre xgr ltm low lta llo lhi lmo rta ron rlo rhi rmo rin res rsi rli rar xgc xca xls xtl xno lco rwa rad a1 o_xgc o_xca hF hP hD hS hl)
def F_T_all (ltm : Nat → Int32) (lco : Int32) (rwa : Int32) : Option (Int32) :=
  ob1 (F_L_countAll ltm lco) (fun r_1 => some (r_1 + rwa))
set_option maxHeartbeats 4000000 in
set_option maxRecDepth 100000 in
theorem t_T_all {p : Program} {l : Launch} {e : Env} {s : State} {m : MethodId} {args : Array Value} {below : List Frame} {meth : Method} {c : Code} {A : Nat → Prop} {g : va_G} {cI cJ cZ : ClassId} {ad : Nat → Nat} {rest : va_W} (K : kX p s m args meth c "LockTable" prog_1_method_15_code 1 (some .int) A g (kty cI cJ cZ)) (xst : Nat → Int32) (xse : Nat → Int32) (xre : Nat → Int32) (xgr : Nat → Int32) (ltm : Nat → Int32) (low : Nat → Int32) (lta : Nat → Int32) (llo : Nat → Int64) (lhi : Nat → Int64) (lmo : Nat → Int32) (rta : Nat → Int32) (ron : Nat → Int32) (rlo : Nat → Int64) (rhi : Nat → Int64) (rmo : Nat → Int32) (rin : Nat → Int32) (res : Nat → Int32) (rsi : Nat → Int32) (rli : Nat → Int32) (rar : Nat → Int32) (xgc : Int32) (xca : Int32) (xls : Int32) (xtl : Int32) (xno : Int32) (lco : Int32) (rwa : Int32) (rad : Int32)  (r : Int32) (hF : F_T_all ltm lco rwa = some r) {H : Heap} {locs : List Loc} {ls : Array Slot} (hP : va_P g kcl (wC cI cJ cZ ad xst xse xre xgr ltm low lta llo lhi lmo rta ron rlo rhi rmo rin res rsi rli rar xgc xca xls xtl xno lco rwa rad rest) H) (hD : va_D A (wC cI cJ cZ ad xst xse xre xgr ltm low lta llo lhi lmo rta ron rlo rhi rmo rin res rsi rli rar xgc xca xls xtl xno lco rwa rad rest)) (hS : va_S A s.heap H locs) (hl : lv_has ls 1 [(0, .ref (ad 0))]) : W p l e ({ frames := 1, cells := 0, slots := 0, locals := 22 }) s m args below meth c H locs 0 0 (MQ below (kQi g (kty cI cJ cZ) (wC cI cJ cZ ad xst xse xre xgr ltm low lta llo lhi lmo rta ron rlo rhi rmo rin res rsi rli rar xgc xca xls xtl xno lco rwa rad rest) A r) args s 0 0 A) (F0 m 0 ls []) := by
  obtain ⟨hx, hb, hr, hml, hown, hts, hlocks, hK, hA, hE⟩ := id K
  unfold F_T_all at hF
  refine lv_aload_n hx hb d_T_all_0 rfl (lv_at hl 0 rfl) ?_
  refine va_get (D := g) (ci := 2) (v := .ref (ad 1)) (C := kR2) (T := kT2) (N := 11) hx hb hts kw2 hown hK hP 0 rfl rfl 2 (by decide) (hts _ wm_158) (fun _ h9 => h9) rfl d_T_all_1 ?_
  obtain ⟨r_1, hG, hF⟩ := ob1_inv hF
  refine kci K hP hD hS (c_L_countAll l g cI cJ cZ ad xst xse xre xgr ltm low lta llo lhi lmo rta ron rlo rhi rmo rin res rsi rli rar xgc xca xls xtl xno lco rwa rad rest  r_1 hG) wm_197 wm_194 wm_195 wm_196 wm_48 hd_L_countAll rfl rfl ⟨Nat.le_of_ble_eq_true rfl, Nat.le_of_ble_eq_true rfl⟩ ⟨Nat.zero_le _, Nat.zero_le _⟩ 0 1 rfl rfl rfl hl.1 (rest := []) rfl (Nat.le_of_ble_eq_true rfl) d_T_all_4 (fun H locs hP hD hS => ?_)
  refine lv_aload_n hx hb d_T_all_7 rfl (lv_at hl 0 rfl) ?_
  refine va_get (D := g) (ci := 2) (v := .ref (ad 2)) (C := kR2) (T := kT2) (N := 11) hx hb hts kw2 hown hK hP 0 rfl rfl 3 (by decide) (hts _ wm_159) (fun _ h9 => h9) rfl d_T_all_8 ?_
  refine va_get (D := g) (ci := 1) (v := .int rwa) (C := kR1) (T := kT1) (N := 12) hx hb hts kw1 hown hK hP 2 rfl rfl 9 (by decide) (hts _ wm_127) (fun _ h9 => h9) rfl d_T_all_11 ?_
  refine lv_iadd hx hb d_T_all_14 ?_
  cases hF
  exact kri K hP hD hS d_T_all_15 rfl
theorem c_T_all (l : Launch) (g : va_G) (cI cJ cZ : ClassId) (ad : Nat → Nat) (xst : Nat → Int32) (xse : Nat → Int32) (xre : Nat → Int32) (xgr : Nat → Int32) (ltm : Nat → Int32) (low : Nat → Int32) (lta : Nat → Int32) (llo : Nat → Int64) (lhi : Nat → Int64) (lmo : Nat → Int32) (rta : Nat → Int32) (ron : Nat → Int32) (rlo : Nat → Int64) (rhi : Nat → Int64) (rmo : Nat → Int32) (rin : Nat → Int32) (res : Nat → Int32) (rsi : Nat → Int32) (rli : Nat → Int32) (rar : Nat → Int32) (xgc : Int32) (xca : Int32) (xls : Int32) (xtl : Int32) (xno : Int32) (lco : Int32) (rwa : Int32) (rad : Int32) (rest : va_W)  (r : Int32) (hF : F_T_all ltm lco rwa = some r) : Ci l y_T_all prog_1_method_15_code 1 (some .int) ({ frames := 1, cells := 0, slots := 0, locals := 22 }) [.ref (ad 0)] g (kty cI cJ cZ) (wC cI cJ cZ ad xst xse xre xgr ltm low lta llo lhi lmo rta ron rlo rhi rmo rin res rsi rli rar xgc xca xls xtl xno lco rwa rad rest) (wC cI cJ cZ ad xst xse xre xgr ltm low lta llo lhi lmo rta ron rlo rhi rmo rin res rsi rli rar xgc xca xls xtl xno lco rwa rad rest) r :=
  Ci.of (by decide) (Nat.le_of_ble_eq_true rfl) (fun p e s m below meth c A ls K hP hD hS hl => t_T_all K xst xse xre xgr ltm low lta llo lhi lmo rta ron rlo rhi rmo rin res rsi rli rar xgc xca xls xtl xno lco rwa rad  r hF hP hD hS hl)
def F_T_isFull (ltm : Nat → Int32) (lco : Int32) (rwa : Int32) : Option (Int32) :=
  ob1 (F_T_all ltm lco rwa) (fun r_1 => if r_1 < 256 then some 0 else some 1)
set_option maxHeartbeats 4000000 in
set_option maxRecDepth 100000 in
theorem t_T_isFull {p : Program} {l : Launch} {e : Env} {s : State} {m : MethodId} {args : Array Value} {below : List Frame} {meth : Method} {c : Code} {A : Nat → Prop} {g : va_G} {cI cJ cZ : ClassId} {ad : Nat → Nat} {rest : va_W} (K : kX p s m args meth c "LockTable" prog_1_method_31_code 1 (some .boolean) A g (kty cI cJ cZ)) (xst : Nat → Int32) (xse : Nat → Int32) (xre : Nat → Int32) (xgr : Nat → Int32) (ltm : Nat → Int32) (low : Nat → Int32) (lta : Nat → Int32) (llo : Nat → Int64) (lhi : Nat → Int64) (lmo : Nat → Int32) (rta : Nat → Int32) (ron : Nat → Int32) (rlo : Nat → Int64) (rhi : Nat → Int64) (rmo : Nat → Int32) (rin : Nat → Int32) (res : Nat → Int32) (rsi : Nat → Int32) (rli : Nat → Int32) (rar : Nat → Int32) (xgc : Int32) (xca : Int32) (xls : Int32) (xtl : Int32) (xno : Int32) (lco : Int32) (rwa : Int32) (rad : Int32)  (r : Int32) (hF : F_T_isFull ltm lco rwa = some r) {H : Heap} {locs : List Loc} {ls : Array Slot} (hP : va_P g kcl (wC cI cJ cZ ad xst xse xre xgr ltm low lta llo lhi lmo rta ron rlo rhi rmo rin res rsi rli rar xgc xca xls xtl xno lco rwa rad rest) H) (hD : va_D A (wC cI cJ cZ ad xst xse xre xgr ltm low lta llo lhi lmo rta ron rlo rhi rmo rin res rsi rli rar xgc xca xls xtl xno lco rwa rad rest)) (hS : va_S A s.heap H locs) (hl : lv_has ls 1 [(0, .ref (ad 0))]) : W p l e ({ frames := 2, cells := 0, slots := 0, locals := 42 }) s m args below meth c H locs 0 0 (MQ below (kQi g (kty cI cJ cZ) (wC cI cJ cZ ad xst xse xre xgr ltm low lta llo lhi lmo rta ron rlo rhi rmo rin res rsi rli rar xgc xca xls xtl xno lco rwa rad rest) A r) args s 0 0 A) (F0 m 0 ls []) := by
  obtain ⟨hx, hb, hr, hml, hown, hts, hlocks, hK, hA, hE⟩ := id K
  unfold F_T_isFull at hF
  refine lv_aload_n hx hb d_T_isFull_0 rfl (lv_at hl 0 rfl) ?_
  obtain ⟨r_1, hG, hF⟩ := ob1_inv hF
  refine kci K hP hD hS (c_T_all l g cI cJ cZ ad xst xse xre xgr ltm low lta llo lhi lmo rta ron rlo rhi rmo rin res rsi rli rar xgc xca xls xtl xno lco rwa rad rest  r_1 hG) wm_193 wm_334 wm_191 wm_192 wm_46 hd_T_all rfl rfl ⟨Nat.le_of_ble_eq_true rfl, Nat.le_of_ble_eq_true rfl⟩ ⟨Nat.zero_le _, Nat.zero_le _⟩ 2 0 rfl rfl rfl hl.1 (rest := []) rfl (Nat.le_of_ble_eq_true rfl) d_T_isFull_1 (fun H locs hP hD hS => ?_)
  refine lv_sipush (v := 256) hx hb d_T_isFull_4 (by decide) ?_
  refine lv_icmp_lt (tgt := 14) hx hb d_T_isFull_7 (by decide) (fun hc_2 => ?_) (fun hc_2 => ?_)
  · have hF := it_t hF hc_2
    refine lv_iconst (v := 0) hx hb d_T_isFull_14 (by decide) ?_
    cases hF
    exact krz K hP hD hS d_T_isFull_15 rfl rfl
  · have hF := it_f hF hc_2
    refine lv_iconst (v := 1) hx hb d_T_isFull_10 (by decide) ?_
    refine lv_goto (tgt := 15) hx hb d_T_isFull_11 (by decide) ?_
    cases hF
    exact krz K hP hD hS d_T_isFull_15 rfl rfl
theorem c_T_isFull (l : Launch) (g : va_G) (cI cJ cZ : ClassId) (ad : Nat → Nat) (xst : Nat → Int32) (xse : Nat → Int32) (xre : Nat → Int32) (xgr : Nat → Int32) (ltm : Nat → Int32) (low : Nat → Int32) (lta : Nat → Int32) (llo : Nat → Int64) (lhi : Nat → Int64) (lmo : Nat → Int32) (rta : Nat → Int32) (ron : Nat → Int32) (rlo : Nat → Int64) (rhi : Nat → Int64) (rmo : Nat → Int32) (rin : Nat → Int32) (res : Nat → Int32) (rsi : Nat → Int32) (rli : Nat → Int32) (rar : Nat → Int32) (xgc : Int32) (xca : Int32) (xls : Int32) (xtl : Int32) (xno : Int32) (lco : Int32) (rwa : Int32) (rad : Int32) (rest : va_W)  (r : Int32) (hF : F_T_isFull ltm lco rwa = some r) : Ci l y_T_isFull prog_1_method_31_code 1 (some .boolean) ({ frames := 2, cells := 0, slots := 0, locals := 42 }) [.ref (ad 0)] g (kty cI cJ cZ) (wC cI cJ cZ ad xst xse xre xgr ltm low lta llo lhi lmo rta ron rlo rhi rmo rin res rsi rli rar xgc xca xls xtl xno lco rwa rad rest) (wC cI cJ cZ ad xst xse xre xgr ltm low lta llo lhi lmo rta ron rlo rhi rmo rin res rsi rli rar xgc xca xls xtl xno lco rwa rad rest) r :=
  Ci.of (by decide) (Nat.le_of_ble_eq_true rfl) (fun p e s m below meth c A ls K hP hD hS hl => t_T_isFull K xst xse xre xgr ltm low lta llo lhi lmo rta ron rlo rhi rmo rin res rsi rli rar xgc xca xls xtl xno lco rwa rad  r hF hP hD hS hl)
def F_T_setEscalation (ltm : Nat → Int32) (low : Nat → Int32) (lta : Nat → Int32) (lmo : Nat → Int32) (rta : Nat → Int32) (ron : Nat → Int32) (rmo : Nat → Int32) (rin : Nat → Int32) (res : Nat → Int32) (lco : Int32) (a1 : Int32) (a2 : Int32) (a3 : Int32) : Option ((Nat → Int32) × (Nat → Int32) × (Nat → Int32) × (Nat → Int32) × (Nat → Int32)) :=
  jn1 (fun (s_1 : Int32) => jn1 (fun (s_2 : Int32) => ob1 (F_L_heldMode ltm a1 a2) (fun r_3 => ob1 (F_K_strengthened r_3 s_2) (fun r_4 => ob5 (F_R_setEscalation rta ron rmo rin res a1 a2 r_4) (fun rta_5 ron_6 rmo_7 rin_8 res_9 => some (rta_5, ron_6, rmo_7, rin_8, res_9))))) (fun J34 => if s_1 = 0 then J34 2 else J34 5)) (fun J22 => jn0 (J22 1) (fun J17 => if a3 = 2 then ob1 (F_L_haveStrongRange low lta lmo lco a1 a2) (fun r_12 => if r_12 = 0 then J22 0 else J17 ) else J17 ))
set_option maxHeartbeats 4000000 in
set_option maxRecDepth 100000 in
theorem t_T_setEscalation {p : Program} {l : Launch} {e : Env} {s : State} {m : MethodId} {args : Array Value} {below : List Frame} {meth : Method} {c : Code} {A : Nat → Prop} {g : va_G} {cI cJ cZ : ClassId} {ad : Nat → Nat} {rest : va_W} (K : kX p s m args meth c "LockTable" prog_1_method_32_code 6 none A g (kty cI cJ cZ)) (xst : Nat → Int32) (xse : Nat → Int32) (xre : Nat → Int32) (xgr : Nat → Int32) (ltm : Nat → Int32) (low : Nat → Int32) (lta : Nat → Int32) (llo : Nat → Int64) (lhi : Nat → Int64) (lmo : Nat → Int32) (rta : Nat → Int32) (ron : Nat → Int32) (rlo : Nat → Int64) (rhi : Nat → Int64) (rmo : Nat → Int32) (rin : Nat → Int32) (res : Nat → Int32) (rsi : Nat → Int32) (rli : Nat → Int32) (rar : Nat → Int32) (xgc : Int32) (xca : Int32) (xls : Int32) (xtl : Int32) (xno : Int32) (lco : Int32) (rwa : Int32) (rad : Int32) (a1 : Int32) (a2 : Int32) (a3 : Int32) (o_rta : Nat → Int32) (o_ron : Nat → Int32) (o_rmo : Nat → Int32) (o_rin : Nat → Int32) (o_res : Nat → Int32) (hF : F_T_setEscalation ltm low lta lmo rta ron rmo rin res lco a1 a2 a3 = some (o_rta, o_ron, o_rmo, o_rin, o_res)) {H : Heap} {locs : List Loc} {ls : Array Slot} (hP : va_P g kcl (wC cI cJ cZ ad xst xse xre xgr ltm low lta llo lhi lmo rta ron rlo rhi rmo rin res rsi rli rar xgc xca xls xtl xno lco rwa rad rest) H) (hD : va_D A (wC cI cJ cZ ad xst xse xre xgr ltm low lta llo lhi lmo rta ron rlo rhi rmo rin res rsi rli rar xgc xca xls xtl xno lco rwa rad rest)) (hS : va_S A s.heap H locs) (hl : lv_has ls 6 [(0, .ref (ad 0)), (1, .int a1), (2, .int a2), (3, .int a3)]) : W p l e ({ frames := 3, cells := 0, slots := 0, locals := 66 }) s m args below meth c H locs 0 0 (MQ below (kQv g (kty cI cJ cZ) (wC cI cJ cZ ad xst xse xre xgr ltm low lta llo lhi lmo o_rta o_ron rlo rhi o_rmo o_rin o_res rsi rli rar xgc xca xls xtl xno lco rwa rad rest) A) args s 0 0 A) (F0 m 0 ls []) := by
  obtain ⟨hx, hb, hr, hml, hown, hts, hlocks, hK, hA, hE⟩ := id K
  unfold F_T_setEscalation at hF
  refine lv_iload_n hx hb d_T_setEscalation_0 rfl (lv_at hl 3 rfl) ?_
  refine lv_iconst (v := 2) hx hb d_T_setEscalation_1 (by decide) ?_
  obtain ⟨J22, eJ22, hF⟩ := jn1_inv hF
  have hJ22 : ∀ (s_1 : Int32) (H : Heap) (locs : List Loc) (ls : Array Slot), J22 s_1 = some (o_rta, o_ron, o_rmo, o_rin, o_res) → va_P g kcl (wC cI cJ cZ ad xst xse xre xgr ltm low lta llo lhi lmo rta ron rlo rhi rmo rin res rsi rli rar xgc xca xls xtl xno lco rwa rad rest) H → va_D A (wC cI cJ cZ ad xst xse xre xgr ltm low lta llo lhi lmo rta ron rlo rhi rmo rin res rsi rli rar xgc xca xls xtl xno lco rwa rad rest) → va_S A s.heap H locs → lv_has ls 6 [(0, .ref (ad 0)), (1, .int a1), (2, .int a2)] → W p l e ({ frames := 3, cells := 0, slots := 0, locals := 66 }) s m args below meth c H locs 0 0 (MQ below (kQv g (kty cI cJ cZ) (wC cI cJ cZ ad xst xse xre xgr ltm low lta llo lhi lmo o_rta o_ron rlo rhi o_rmo o_rin o_res rsi rli rar xgc xca xls xtl xno lco rwa rad rest) A) args s 0 0 A) (F0 m 22 ls [.int s_1]) := by
    intro s_1 H locs ls hF hP hD hS hl
    rw [eJ22] at hF
    refine lv_istore (lv' := [(4, .int s_1), (0, .ref (ad 0)), (1, .int a1), (2, .int a2)]) hx hb d_T_setEscalation_22 hl (by decide) rfl (fun ls hl => ?_)
    refine lv_iload hx hb d_T_setEscalation_24 (lv_at hl 0 rfl) ?_
    obtain ⟨J34, eJ34, hF⟩ := jn1_inv hF
    have hJ34 : ∀ (s_2 : Int32) (H : Heap) (locs : List Loc) (ls : Array Slot), J34 s_2 = some (o_rta, o_ron, o_rmo, o_rin, o_res) → va_P g kcl (wC cI cJ cZ ad xst xse xre xgr ltm low lta llo lhi lmo rta ron rlo rhi rmo rin res rsi rli rar xgc xca xls xtl xno lco rwa rad rest) H → va_D A (wC cI cJ cZ ad xst xse xre xgr ltm low lta llo lhi lmo rta ron rlo rhi rmo rin res rsi rli rar xgc xca xls xtl xno lco rwa rad rest) → va_S A s.heap H locs → lv_has ls 6 [(0, .ref (ad 0)), (1, .int a1), (2, .int a2)] → W p l e ({ frames := 3, cells := 0, slots := 0, locals := 66 }) s m args below meth c H locs 0 0 (MQ below (kQv g (kty cI cJ cZ) (wC cI cJ cZ ad xst xse xre xgr ltm low lta llo lhi lmo o_rta o_ron rlo rhi o_rmo o_rin o_res rsi rli rar xgc xca xls xtl xno lco rwa rad rest) A) args s 0 0 A) (F0 m 34 ls [.int s_2]) := by
      intro s_2 H locs ls hF hP hD hS hl
      rw [eJ34] at hF
      refine lv_istore (lv' := [(5, .int s_2), (0, .ref (ad 0)), (1, .int a1), (2, .int a2)]) hx hb d_T_setEscalation_34 hl (by decide) rfl (fun ls hl => ?_)
      refine lv_aload_n hx hb d_T_setEscalation_36 rfl (lv_at hl 1 rfl) ?_
      refine va_get (D := g) (ci := 2) (v := .ref (ad 2)) (C := kR2) (T := kT2) (N := 11) hx hb hts kw2 hown hK hP 0 rfl rfl 3 (by decide) (hts _ wm_159) (fun _ h9 => h9) rfl d_T_setEscalation_37 ?_
      refine lv_iload_n hx hb d_T_setEscalation_40 rfl (lv_at hl 2 rfl) ?_
      refine lv_iload_n hx hb d_T_setEscalation_41 rfl (lv_at hl 3 rfl) ?_
      refine lv_aload_n hx hb d_T_setEscalation_42 rfl (lv_at hl 1 rfl) ?_
      refine va_get (D := g) (ci := 2) (v := .ref (ad 1)) (C := kR2) (T := kT2) (N := 11) hx hb hts kw2 hown hK hP 0 rfl rfl 2 (by decide) (hts _ wm_158) (fun _ h9 => h9) rfl d_T_setEscalation_43 ?_
      refine lv_iload_n hx hb d_T_setEscalation_46 rfl (lv_at hl 2 rfl) ?_
      refine lv_iload_n hx hb d_T_setEscalation_47 rfl (lv_at hl 3 rfl) ?_
      obtain ⟨r_3, hG, hF⟩ := ob1_inv hF
      refine kci K hP hD hS (c_L_heldMode l g cI cJ cZ ad xst xse xre xgr ltm low lta llo lhi lmo rta ron rlo rhi rmo rin res rsi rli rar xgc xca xls xtl xno lco rwa rad rest a1 a2 r_3 hG) wm_329 wm_326 wm_327 wm_328 wm_48 hd_L_heldMode rfl rfl ⟨Nat.le_of_ble_eq_true rfl, Nat.le_of_ble_eq_true rfl⟩ ⟨Nat.zero_le _, Nat.zero_le _⟩ 0 1 rfl rfl rfl hl.1 (rest := [.int a2, .int a1, .ref (ad 2)]) rfl (Nat.le_of_ble_eq_true rfl) d_T_setEscalation_48 (fun H locs hP hD hS => ?_)
      refine lv_iload hx hb d_T_setEscalation_51 (lv_at hl 0 rfl) ?_
      obtain ⟨r_4, hG, hF⟩ := ob1_inv hF
      refine ksi K hP hD hS (c_K_strengthened l g (kty cI cJ cZ) (wC cI cJ cZ ad xst xse xre xgr ltm low lta llo lhi lmo rta ron rlo rhi rmo rin res rsi rli rar xgc xca xls xtl xno lco rwa rad rest) r_3 s_2 r_4 hG) wm_337 wm_335 wm_336 wm_56 hd_K_strengthened rfl rfl ⟨Nat.le_of_ble_eq_true rfl, Nat.le_of_ble_eq_true rfl⟩ ⟨Nat.zero_le _, Nat.zero_le _⟩ hl.1 (rest := [.int a2, .int a1, .ref (ad 2)]) rfl (Nat.le_of_ble_eq_true rfl) d_T_setEscalation_53 (fun H locs hP hD hS => ?_)
      obtain ⟨rta_5, ron_6, rmo_7, rin_8, res_9, hG, hF⟩ := ob5_inv hF
      refine kcv K hP hD hS (c_R_setEscalation l g cI cJ cZ ad xst xse xre xgr ltm low lta llo lhi lmo rta ron rlo rhi rmo rin res rsi rli rar xgc xca xls xtl xno lco rwa rad rest a1 a2 r_4 rta_5 ron_6 rmo_7 rin_8 res_9 hG) wm_506 wm_503 wm_504 wm_505 wm_49 hd_R_setEscalation rfl rfl ⟨Nat.le_of_ble_eq_true rfl, Nat.le_of_ble_eq_true rfl⟩ ⟨Nat.zero_le _, Nat.zero_le _⟩ 1 2 rfl rfl rfl hl.1 (rest := []) rfl (Nat.le_of_ble_eq_true rfl) d_T_setEscalation_56 (fun H locs hP hD hS => ?_)
      cases hF
      exact krv K hP hD hS d_T_setEscalation_59
    refine lv_if_eq (tgt := 33) hx hb d_T_setEscalation_26 (by decide) (fun hc_10 => ?_) (fun hc_10 => ?_)
    · have hF := it_t hF hc_10
      refine lv_iconst (v := 2) hx hb d_T_setEscalation_33 (by decide) ?_
      exact hJ34 _ H locs ls hF hP hD hS (lv_sub hl [1, 2, 3] rfl)
    · have hF := it_f hF hc_10
      refine lv_iconst (v := 5) hx hb d_T_setEscalation_29 (by decide) ?_
      refine lv_goto (tgt := 34) hx hb d_T_setEscalation_30 (by decide) ?_
      exact hJ34 _ H locs ls hF hP hD hS (lv_sub hl [1, 2, 3] rfl)
  obtain ⟨J17, eJ17, hF⟩ := jn0_inv hF
  have hJ17 : ∀  (H : Heap) (locs : List Loc) (ls : Array Slot), J17  = some (o_rta, o_ron, o_rmo, o_rin, o_res) → va_P g kcl (wC cI cJ cZ ad xst xse xre xgr ltm low lta llo lhi lmo rta ron rlo rhi rmo rin res rsi rli rar xgc xca xls xtl xno lco rwa rad rest) H → va_D A (wC cI cJ cZ ad xst xse xre xgr ltm low lta llo lhi lmo rta ron rlo rhi rmo rin res rsi rli rar xgc xca xls xtl xno lco rwa rad rest) → va_S A s.heap H locs → lv_has ls 6 [(0, .ref (ad 0)), (1, .int a1), (2, .int a2)] → W p l e ({ frames := 3, cells := 0, slots := 0, locals := 66 }) s m args below meth c H locs 0 0 (MQ below (kQv g (kty cI cJ cZ) (wC cI cJ cZ ad xst xse xre xgr ltm low lta llo lhi lmo o_rta o_ron rlo rhi o_rmo o_rin o_res rsi rli rar xgc xca xls xtl xno lco rwa rad rest) A) args s 0 0 A) (F0 m 17 ls []) := by
    intro  H locs ls hF hP hD hS hl
    rw [eJ17] at hF
    refine lv_iconst (v := 1) hx hb d_T_setEscalation_17 (by decide) ?_
    refine lv_goto (tgt := 22) hx hb d_T_setEscalation_18 (by decide) ?_
    exact hJ22 _ H locs ls hF hP hD hS (lv_sub hl [0, 1, 2] rfl)
  refine lv_icmp_ne (tgt := 17) hx hb d_T_setEscalation_2 (by decide) (fun hc_11 => ?_) (fun hc_11 => ?_)
  · have hF := it_f hF hc_11
    exact hJ17  H locs ls hF hP hD hS (lv_sub hl [0, 1, 2] rfl)
  · have hF := it_t hF hc_11
    refine lv_aload_n hx hb d_T_setEscalation_5 rfl (lv_at hl 0 rfl) ?_
    refine va_get (D := g) (ci := 2) (v := .ref (ad 1)) (C := kR2) (T := kT2) (N := 11) hx hb hts kw2 hown hK hP 0 rfl rfl 2 (by decide) (hts _ wm_158) (fun _ h9 => h9) rfl d_T_setEscalation_6 ?_
    refine lv_iload_n hx hb d_T_setEscalation_9 rfl (lv_at hl 1 rfl) ?_
    refine lv_iload_n hx hb d_T_setEscalation_10 rfl (lv_at hl 2 rfl) ?_
    obtain ⟨r_12, hG, hF⟩ := ob1_inv hF
    refine kci K hP hD hS (c_L_haveStrongRange l g cI cJ cZ ad xst xse xre xgr ltm low lta llo lhi lmo rta ron rlo rhi rmo rin res rsi rli rar xgc xca xls xtl xno lco rwa rad rest a1 a2 r_12 hG) wm_502 wm_499 wm_500 wm_501 wm_48 hd_L_haveStrongRange rfl rfl ⟨Nat.le_of_ble_eq_true rfl, Nat.le_of_ble_eq_true rfl⟩ ⟨Nat.zero_le _, Nat.zero_le _⟩ 0 1 rfl rfl rfl hl.1 (rest := []) rfl (Nat.le_of_ble_eq_true rfl) d_T_setEscalation_11 (fun H locs hP hD hS => ?_)
    refine lv_if_eq (tgt := 21) hx hb d_T_setEscalation_14 (by decide) (fun hc_13 => ?_) (fun hc_13 => ?_)
    · have hF := it_t hF hc_13
      refine lv_iconst (v := 0) hx hb d_T_setEscalation_21 (by decide) ?_
      exact hJ22 _ H locs ls hF hP hD hS (lv_sub hl [0, 1, 2] rfl)
    · have hF := it_f hF hc_13
      exact hJ17  H locs ls hF hP hD hS (lv_sub hl [0, 1, 2] rfl)
theorem c_T_setEscalation (l : Launch) (g : va_G) (cI cJ cZ : ClassId) (ad : Nat → Nat) (xst : Nat → Int32) (xse : Nat → Int32) (xre : Nat → Int32) (xgr : Nat → Int32) (ltm : Nat → Int32) (low : Nat → Int32) (lta : Nat → Int32) (llo : Nat → Int64) (lhi : Nat → Int64) (lmo : Nat → Int32) (rta : Nat → Int32) (ron : Nat → Int32) (rlo : Nat → Int64) (rhi : Nat → Int64) (rmo : Nat → Int32) (rin : Nat → Int32) (res : Nat → Int32) (rsi : Nat → Int32) (rli : Nat → Int32) (rar : Nat → Int32) (xgc : Int32) (xca : Int32) (xls : Int32) (xtl : Int32) (xno : Int32) (lco : Int32) (rwa : Int32) (rad : Int32) (rest : va_W) (a1 : Int32) (a2 : Int32) (a3 : Int32) (o_rta : Nat → Int32) (o_ron : Nat → Int32) (o_rmo : Nat → Int32) (o_rin : Nat → Int32) (o_res : Nat → Int32) (hF : F_T_setEscalation ltm low lta lmo rta ron rmo rin res lco a1 a2 a3 = some (o_rta, o_ron, o_rmo, o_rin, o_res)) : Cv l y_T_setEscalation prog_1_method_32_code 6 ({ frames := 3, cells := 0, slots := 0, locals := 66 }) [.ref (ad 0), .int a1, .int a2, .int a3] g (kty cI cJ cZ) (wC cI cJ cZ ad xst xse xre xgr ltm low lta llo lhi lmo rta ron rlo rhi rmo rin res rsi rli rar xgc xca xls xtl xno lco rwa rad rest) (wC cI cJ cZ ad xst xse xre xgr ltm low lta llo lhi lmo o_rta o_ron rlo rhi o_rmo o_rin o_res rsi rli rar xgc xca xls xtl xno lco rwa rad rest) :=
  Cv.of (by decide) (Nat.le_of_ble_eq_true rfl) (fun p e s m below meth c A ls K hP hD hS hl => t_T_setEscalation K xst xse xre xgr ltm low lta llo lhi lmo rta ron rlo rhi rmo rin res rsi rli rar xgc xca xls xtl xno lco rwa rad a1 a2 a3 o_rta o_ron o_rmo o_rin o_res hF hP hD hS hl)
def F_T_holdsWhatItAsks (ltm : Nat → Int32) (rta : Nat → Int32) (ron : Nat → Int32) (rmo : Nat → Int32) (a1 : Int32) : Option (Int32) :=
  gd (a1 < 0 ∨ 8 ≤ a1.toNatClampNeg) (if (ron a1.toNatClampNeg) = 0 then gd (a1 < 0 ∨ 8 ≤ a1.toNatClampNeg) (ob1 (F_L_heldMode ltm a1 (rta a1.toNatClampNeg)) (fun r_4 => gd (a1 < 0 ∨ 8 ≤ a1.toNatClampNeg) (if r_4 = (rmo a1.toNatClampNeg) then some 1 else some 0))) else some 0)
set_option maxHeartbeats 4000000 in
set_option maxRecDepth 100000 in
theorem t_T_holdsWhatItAsks {p : Program} {l : Launch} {e : Env} {s : State} {m : MethodId} {args : Array Value} {below : List Frame} {meth : Method} {c : Code} {A : Nat → Prop} {g : va_G} {cI cJ cZ : ClassId} {ad : Nat → Nat} {rest : va_W} (K : kX p s m args meth c "LockTable" prog_1_method_34_code 2 (some .boolean) A g (kty cI cJ cZ)) (xst : Nat → Int32) (xse : Nat → Int32) (xre : Nat → Int32) (xgr : Nat → Int32) (ltm : Nat → Int32) (low : Nat → Int32) (lta : Nat → Int32) (llo : Nat → Int64) (lhi : Nat → Int64) (lmo : Nat → Int32) (rta : Nat → Int32) (ron : Nat → Int32) (rlo : Nat → Int64) (rhi : Nat → Int64) (rmo : Nat → Int32) (rin : Nat → Int32) (res : Nat → Int32) (rsi : Nat → Int32) (rli : Nat → Int32) (rar : Nat → Int32) (xgc : Int32) (xca : Int32) (xls : Int32) (xtl : Int32) (xno : Int32) (lco : Int32) (rwa : Int32) (rad : Int32) (a1 : Int32) (r : Int32) (hF : F_T_holdsWhatItAsks ltm rta ron rmo a1 = some r) {H : Heap} {locs : List Loc} {ls : Array Slot} (hP : va_P g kcl (wC cI cJ cZ ad xst xse xre xgr ltm low lta llo lhi lmo rta ron rlo rhi rmo rin res rsi rli rar xgc xca xls xtl xno lco rwa rad rest) H) (hD : va_D A (wC cI cJ cZ ad xst xse xre xgr ltm low lta llo lhi lmo rta ron rlo rhi rmo rin res rsi rli rar xgc xca xls xtl xno lco rwa rad rest)) (hS : va_S A s.heap H locs) (hl : lv_has ls 2 [(0, .ref (ad 0)), (1, .int a1)]) : W p l e ({ frames := 1, cells := 0, slots := 0, locals := 22 }) s m args below meth c H locs 0 0 (MQ below (kQi g (kty cI cJ cZ) (wC cI cJ cZ ad xst xse xre xgr ltm low lta llo lhi lmo rta ron rlo rhi rmo rin res rsi rli rar xgc xca xls xtl xno lco rwa rad rest) A r) args s 0 0 A) (F0 m 0 ls []) := by
  obtain ⟨hx, hb, hr, hml, hown, hts, hlocks, hK, hA, hE⟩ := id K
  unfold F_T_holdsWhatItAsks at hF
  refine lv_aload_n hx hb d_T_holdsWhatItAsks_0 rfl (lv_at hl 0 rfl) ?_
  refine va_get (D := g) (ci := 2) (v := .ref (ad 2)) (C := kR2) (T := kT2) (N := 11) hx hb hts kw2 hown hK hP 0 rfl rfl 3 (by decide) (hts _ wm_159) (fun _ h9 => h9) rfl d_T_holdsWhatItAsks_1 ?_
  refine va_get (D := g) (ci := 1) (v := .ref (ad 14)) (C := kR1) (T := kT1) (N := 12) hx hb hts kw1 hown hK hP 2 rfl rfl 1 (by decide) (hts _ wm_111) (fun _ h9 => h9) rfl d_T_holdsWhatItAsks_4 ?_
  refine lv_iload_n hx hb d_T_holdsWhatItAsks_7 rfl (lv_at hl 1 rfl) ?_
  obtain ⟨hg_1, hF⟩ := gd_inv hF
  refine va_zald hx hb hK hP 14 2 rfl rfl hg_1 d_T_holdsWhatItAsks_8 ?_
  refine lv_if_ne (tgt := 45) hx hb d_T_holdsWhatItAsks_9 (by decide) (fun hc_2 => ?_) (fun hc_2 => ?_)
  · have hF := it_f hF hc_2
    refine lv_iconst (v := 0) hx hb d_T_holdsWhatItAsks_45 (by decide) ?_
    cases hF
    exact krz K hP hD hS d_T_holdsWhatItAsks_46 rfl rfl
  · have hF := it_t hF hc_2
    refine lv_aload_n hx hb d_T_holdsWhatItAsks_12 rfl (lv_at hl 0 rfl) ?_
    refine va_get (D := g) (ci := 2) (v := .ref (ad 1)) (C := kR2) (T := kT2) (N := 11) hx hb hts kw2 hown hK hP 0 rfl rfl 2 (by decide) (hts _ wm_158) (fun _ h9 => h9) rfl d_T_holdsWhatItAsks_13 ?_
    refine lv_iload_n hx hb d_T_holdsWhatItAsks_16 rfl (lv_at hl 1 rfl) ?_
    refine lv_aload_n hx hb d_T_holdsWhatItAsks_17 rfl (lv_at hl 0 rfl) ?_
    refine va_get (D := g) (ci := 2) (v := .ref (ad 2)) (C := kR2) (T := kT2) (N := 11) hx hb hts kw2 hown hK hP 0 rfl rfl 3 (by decide) (hts _ wm_159) (fun _ h9 => h9) rfl d_T_holdsWhatItAsks_18 ?_
    refine va_get (D := g) (ci := 1) (v := .ref (ad 13)) (C := kR1) (T := kT1) (N := 12) hx hb hts kw1 hown hK hP 2 rfl rfl 0 (by decide) (hts _ wm_109) (fun _ h9 => h9) rfl d_T_holdsWhatItAsks_21 ?_
    refine lv_iload_n hx hb d_T_holdsWhatItAsks_24 rfl (lv_at hl 1 rfl) ?_
    obtain ⟨hg_3, hF⟩ := gd_inv hF
    refine va_iald hx hb hK hP 13 0 rfl rfl hg_3 d_T_holdsWhatItAsks_25 ?_
    obtain ⟨r_4, hG, hF⟩ := ob1_inv hF
    refine kci K hP hD hS (c_L_heldMode l g cI cJ cZ ad xst xse xre xgr ltm low lta llo lhi lmo rta ron rlo rhi rmo rin res rsi rli rar xgc xca xls xtl xno lco rwa rad rest a1 (rta a1.toNatClampNeg) r_4 hG) wm_329 wm_326 wm_327 wm_328 wm_48 hd_L_heldMode rfl rfl ⟨Nat.le_of_ble_eq_true rfl, Nat.le_of_ble_eq_true rfl⟩ ⟨Nat.zero_le _, Nat.zero_le _⟩ 0 1 rfl rfl rfl hl.1 (rest := []) rfl (Nat.le_of_ble_eq_true rfl) d_T_holdsWhatItAsks_26 (fun H locs hP hD hS => ?_)
    refine lv_aload_n hx hb d_T_holdsWhatItAsks_29 rfl (lv_at hl 0 rfl) ?_
    refine va_get (D := g) (ci := 2) (v := .ref (ad 2)) (C := kR2) (T := kT2) (N := 11) hx hb hts kw2 hown hK hP 0 rfl rfl 3 (by decide) (hts _ wm_159) (fun _ h9 => h9) rfl d_T_holdsWhatItAsks_30 ?_
    refine va_get (D := g) (ci := 1) (v := .ref (ad 17)) (C := kR1) (T := kT1) (N := 12) hx hb hts kw1 hown hK hP 2 rfl rfl 4 (by decide) (hts _ wm_117) (fun _ h9 => h9) rfl d_T_holdsWhatItAsks_33 ?_
    refine lv_iload_n hx hb d_T_holdsWhatItAsks_36 rfl (lv_at hl 1 rfl) ?_
    obtain ⟨hg_5, hF⟩ := gd_inv hF
    refine va_iald hx hb hK hP 17 0 rfl rfl hg_5 d_T_holdsWhatItAsks_37 ?_
    refine lv_icmp_ne (tgt := 45) hx hb d_T_holdsWhatItAsks_38 (by decide) (fun hc_6 => ?_) (fun hc_6 => ?_)
    · have hF := it_f hF hc_6
      refine lv_iconst (v := 0) hx hb d_T_holdsWhatItAsks_45 (by decide) ?_
      cases hF
      exact krz K hP hD hS d_T_holdsWhatItAsks_46 rfl rfl
    · have hF := it_t hF hc_6
      refine lv_iconst (v := 1) hx hb d_T_holdsWhatItAsks_41 (by decide) ?_
      refine lv_goto (tgt := 46) hx hb d_T_holdsWhatItAsks_42 (by decide) ?_
      cases hF
      exact krz K hP hD hS d_T_holdsWhatItAsks_46 rfl rfl
theorem c_T_holdsWhatItAsks (l : Launch) (g : va_G) (cI cJ cZ : ClassId) (ad : Nat → Nat) (xst : Nat → Int32) (xse : Nat → Int32) (xre : Nat → Int32) (xgr : Nat → Int32) (ltm : Nat → Int32) (low : Nat → Int32) (lta : Nat → Int32) (llo : Nat → Int64) (lhi : Nat → Int64) (lmo : Nat → Int32) (rta : Nat → Int32) (ron : Nat → Int32) (rlo : Nat → Int64) (rhi : Nat → Int64) (rmo : Nat → Int32) (rin : Nat → Int32) (res : Nat → Int32) (rsi : Nat → Int32) (rli : Nat → Int32) (rar : Nat → Int32) (xgc : Int32) (xca : Int32) (xls : Int32) (xtl : Int32) (xno : Int32) (lco : Int32) (rwa : Int32) (rad : Int32) (rest : va_W) (a1 : Int32) (r : Int32) (hF : F_T_holdsWhatItAsks ltm rta ron rmo a1 = some r) : Ci l y_T_holdsWhatItAsks prog_1_method_34_code 2 (some .boolean) ({ frames := 1, cells := 0, slots := 0, locals := 22 }) [.ref (ad 0), .int a1] g (kty cI cJ cZ) (wC cI cJ cZ ad xst xse xre xgr ltm low lta llo lhi lmo rta ron rlo rhi rmo rin res rsi rli rar xgc xca xls xtl xno lco rwa rad rest) (wC cI cJ cZ ad xst xse xre xgr ltm low lta llo lhi lmo rta ron rlo rhi rmo rin res rsi rli rar xgc xca xls xtl xno lco rwa rad rest) r :=
  Ci.of (by decide) (Nat.le_of_ble_eq_true rfl) (fun p e s m below meth c A ls K hP hD hS hl => t_T_holdsWhatItAsks K xst xse xre xgr ltm low lta llo lhi lmo rta ron rlo rhi rmo rin res rsi rli rar xgc xca xls xtl xno lco rwa rad a1 r hF hP hD hS hl)
def F_T_blockers (ltm : Nat → Int32) (low : Nat → Int32) (lta : Nat → Int32) (llo : Nat → Int64) (lhi : Nat → Int64) (lmo : Nat → Int32) (rta : Nat → Int32) (ron : Nat → Int32) (rlo : Nat → Int64) (rhi : Nat → Int64) (rmo : Nat → Int32) (rli : Nat → Int32) (lco : Int32) (rwa : Int32) (a1 : Int32) : Option (Int32) :=
  gd (a1 < 0 ∨ 8 ≤ a1.toNatClampNeg) (gd (a1 < 0 ∨ 8 ≤ a1.toNatClampNeg) (gd (a1 < 0 ∨ 8 ≤ a1.toNatClampNeg) (jn1 (fun (s_4 : Int32) => ob1 (F_R_againstBefore rta ron rlo rhi rmo rli rwa a1) (fun r_5 => some (s_4 ||| r_5))) (fun J73 => if (ron a1.toNatClampNeg) = 0 then ob1 (F_L_againstTable ltm a1 (rta a1.toNatClampNeg) (rmo a1.toNatClampNeg)) (fun r_7 => J73 r_7) else gd (a1 < 0 ∨ 8 ≤ a1.toNatClampNeg) (gd (a1 < 0 ∨ 8 ≤ a1.toNatClampNeg) (ob1 (F_L_againstRange low lta llo lhi lmo lco a1 (rta a1.toNatClampNeg) (rlo a1.toNatClampNeg) (rhi a1.toNatClampNeg) (rmo a1.toNatClampNeg)) (fun r_10 => J73 r_10)))))))
set_option maxHeartbeats 4000000 in
set_option maxRecDepth 100000 in
theorem t_T_blockers {p : Program} {l : Launch} {e : Env} {s : State} {m : MethodId} {args : Array Value} {below : List Frame} {meth : Method} {c : Code} {A : Nat → Prop} {g : va_G} {cI cJ cZ : ClassId} {ad : Nat → Nat} {rest : va_W} (K : kX p s m args meth c "LockTable" prog_1_method_35_code 5 (some .int) A g (kty cI cJ cZ)) (xst : Nat → Int32) (xse : Nat → Int32) (xre : Nat → Int32) (xgr : Nat → Int32) (ltm : Nat → Int32) (low : Nat → Int32) (lta : Nat → Int32) (llo : Nat → Int64) (lhi : Nat → Int64) (lmo : Nat → Int32) (rta : Nat → Int32) (ron : Nat → Int32) (rlo : Nat → Int64) (rhi : Nat → Int64) (rmo : Nat → Int32) (rin : Nat → Int32) (res : Nat → Int32) (rsi : Nat → Int32) (rli : Nat → Int32) (rar : Nat → Int32) (xgc : Int32) (xca : Int32) (xls : Int32) (xtl : Int32) (xno : Int32) (lco : Int32) (rwa : Int32) (rad : Int32) (a1 : Int32) (r : Int32) (hF : F_T_blockers ltm low lta llo lhi lmo rta ron rlo rhi rmo rli lco rwa a1 = some r) {H : Heap} {locs : List Loc} {ls : Array Slot} (hP : va_P g kcl (wC cI cJ cZ ad xst xse xre xgr ltm low lta llo lhi lmo rta ron rlo rhi rmo rin res rsi rli rar xgc xca xls xtl xno lco rwa rad rest) H) (hD : va_D A (wC cI cJ cZ ad xst xse xre xgr ltm low lta llo lhi lmo rta ron rlo rhi rmo rin res rsi rli rar xgc xca xls xtl xno lco rwa rad rest)) (hS : va_S A s.heap H locs) (hl : lv_has ls 5 [(0, .ref (ad 0)), (1, .int a1)]) : W p l e ({ frames := 2, cells := 0, slots := 0, locals := 51 }) s m args below meth c H locs 0 0 (MQ below (kQi g (kty cI cJ cZ) (wC cI cJ cZ ad xst xse xre xgr ltm low lta llo lhi lmo rta ron rlo rhi rmo rin res rsi rli rar xgc xca xls xtl xno lco rwa rad rest) A r) args s 0 0 A) (F0 m 0 ls []) := by
  obtain ⟨hx, hb, hr, hml, hown, hts, hlocks, hK, hA, hE⟩ := id K
  unfold F_T_blockers at hF
  refine lv_aload_n hx hb d_T_blockers_0 rfl (lv_at hl 0 rfl) ?_
  refine va_get (D := g) (ci := 2) (v := .ref (ad 2)) (C := kR2) (T := kT2) (N := 11) hx hb hts kw2 hown hK hP 0 rfl rfl 3 (by decide) (hts _ wm_159) (fun _ h9 => h9) rfl d_T_blockers_1 ?_
  refine va_get (D := g) (ci := 1) (v := .ref (ad 13)) (C := kR1) (T := kT1) (N := 12) hx hb hts kw1 hown hK hP 2 rfl rfl 0 (by decide) (hts _ wm_109) (fun _ h9 => h9) rfl d_T_blockers_4 ?_
  refine lv_iload_n hx hb d_T_blockers_7 rfl (lv_at hl 1 rfl) ?_
  obtain ⟨hg_1, hF⟩ := gd_inv hF
  refine va_iald hx hb hK hP 13 0 rfl rfl hg_1 d_T_blockers_8 ?_
  refine lv_istore_n (lv' := [(2, .int (rta a1.toNatClampNeg)), (0, .ref (ad 0)), (1, .int a1)]) hx hb d_T_blockers_9 rfl hl (by decide) rfl (fun ls hl => ?_)
  refine lv_aload_n hx hb d_T_blockers_10 rfl (lv_at hl 1 rfl) ?_
  refine va_get (D := g) (ci := 2) (v := .ref (ad 2)) (C := kR2) (T := kT2) (N := 11) hx hb hts kw2 hown hK hP 0 rfl rfl 3 (by decide) (hts _ wm_159) (fun _ h9 => h9) rfl d_T_blockers_11 ?_
  refine va_get (D := g) (ci := 1) (v := .ref (ad 17)) (C := kR1) (T := kT1) (N := 12) hx hb hts kw1 hown hK hP 2 rfl rfl 4 (by decide) (hts _ wm_117) (fun _ h9 => h9) rfl d_T_blockers_14 ?_
  refine lv_iload_n hx hb d_T_blockers_17 rfl (lv_at hl 2 rfl) ?_
  obtain ⟨hg_2, hF⟩ := gd_inv hF
  refine va_iald hx hb hK hP 17 0 rfl rfl hg_2 d_T_blockers_18 ?_
  refine lv_istore_n (lv' := [(3, .int (rmo a1.toNatClampNeg)), (2, .int (rta a1.toNatClampNeg)), (0, .ref (ad 0)), (1, .int a1)]) hx hb d_T_blockers_19 rfl hl (by decide) rfl (fun ls hl => ?_)
  refine lv_aload_n hx hb d_T_blockers_20 rfl (lv_at hl 2 rfl) ?_
  refine va_get (D := g) (ci := 2) (v := .ref (ad 2)) (C := kR2) (T := kT2) (N := 11) hx hb hts kw2 hown hK hP 0 rfl rfl 3 (by decide) (hts _ wm_159) (fun _ h9 => h9) rfl d_T_blockers_21 ?_
  refine va_get (D := g) (ci := 1) (v := .ref (ad 14)) (C := kR1) (T := kT1) (N := 12) hx hb hts kw1 hown hK hP 2 rfl rfl 1 (by decide) (hts _ wm_111) (fun _ h9 => h9) rfl d_T_blockers_24 ?_
  refine lv_iload_n hx hb d_T_blockers_27 rfl (lv_at hl 3 rfl) ?_
  obtain ⟨hg_3, hF⟩ := gd_inv hF
  refine va_zald hx hb hK hP 14 2 rfl rfl hg_3 d_T_blockers_28 ?_
  obtain ⟨J73, eJ73, hF⟩ := jn1_inv hF
  have hJ73 : ∀ (s_4 : Int32) (H : Heap) (locs : List Loc) (ls : Array Slot), J73 s_4 = some r → va_P g kcl (wC cI cJ cZ ad xst xse xre xgr ltm low lta llo lhi lmo rta ron rlo rhi rmo rin res rsi rli rar xgc xca xls xtl xno lco rwa rad rest) H → va_D A (wC cI cJ cZ ad xst xse xre xgr ltm low lta llo lhi lmo rta ron rlo rhi rmo rin res rsi rli rar xgc xca xls xtl xno lco rwa rad rest) → va_S A s.heap H locs → lv_has ls 5 [(0, .ref (ad 0)), (1, .int a1)] → W p l e ({ frames := 2, cells := 0, slots := 0, locals := 51 }) s m args below meth c H locs 0 0 (MQ below (kQi g (kty cI cJ cZ) (wC cI cJ cZ ad xst xse xre xgr ltm low lta llo lhi lmo rta ron rlo rhi rmo rin res rsi rli rar xgc xca xls xtl xno lco rwa rad rest) A r) args s 0 0 A) (F0 m 73 ls [.int s_4]) := by
    intro s_4 H locs ls hF hP hD hS hl
    rw [eJ73] at hF
    refine lv_istore (lv' := [(4, .int s_4), (0, .ref (ad 0)), (1, .int a1)]) hx hb d_T_blockers_73 hl (by decide) rfl (fun ls hl => ?_)
    refine lv_iload hx hb d_T_blockers_75 (lv_at hl 0 rfl) ?_
    refine lv_aload_n hx hb d_T_blockers_77 rfl (lv_at hl 1 rfl) ?_
    refine va_get (D := g) (ci := 2) (v := .ref (ad 2)) (C := kR2) (T := kT2) (N := 11) hx hb hts kw2 hown hK hP 0 rfl rfl 3 (by decide) (hts _ wm_159) (fun _ h9 => h9) rfl d_T_blockers_78 ?_
    refine lv_iload_n hx hb d_T_blockers_81 rfl (lv_at hl 2 rfl) ?_
    obtain ⟨r_5, hG, hF⟩ := ob1_inv hF
    refine kci K hP hD hS (c_R_againstBefore l g cI cJ cZ ad xst xse xre xgr ltm low lta llo lhi lmo rta ron rlo rhi rmo rin res rsi rli rar xgc xca xls xtl xno lco rwa rad rest a1 r_5 hG) wm_384 wm_381 wm_382 wm_383 wm_49 hd_R_againstBefore rfl rfl ⟨Nat.le_of_ble_eq_true rfl, Nat.le_of_ble_eq_true rfl⟩ ⟨Nat.zero_le _, Nat.zero_le _⟩ 1 2 rfl rfl rfl hl.1 (rest := [.int s_4]) rfl (Nat.le_of_ble_eq_true rfl) d_T_blockers_82 (fun H locs hP hD hS => ?_)
    refine lv_ior hx hb d_T_blockers_85 ?_
    cases hF
    exact kri K hP hD hS d_T_blockers_86 rfl
  refine lv_if_eq (tgt := 63) hx hb d_T_blockers_29 (by decide) (fun hc_6 => ?_) (fun hc_6 => ?_)
  · have hF := it_t hF hc_6
    refine lv_aload_n hx hb d_T_blockers_63 rfl (lv_at hl 2 rfl) ?_
    refine va_get (D := g) (ci := 2) (v := .ref (ad 1)) (C := kR2) (T := kT2) (N := 11) hx hb hts kw2 hown hK hP 0 rfl rfl 2 (by decide) (hts _ wm_158) (fun _ h9 => h9) rfl d_T_blockers_64 ?_
    refine lv_iload_n hx hb d_T_blockers_67 rfl (lv_at hl 3 rfl) ?_
    refine lv_iload_n hx hb d_T_blockers_68 rfl (lv_at hl 1 rfl) ?_
    refine lv_iload_n hx hb d_T_blockers_69 rfl (lv_at hl 0 rfl) ?_
    obtain ⟨r_7, hG, hF⟩ := ob1_inv hF
    refine kci K hP hD hS (c_L_againstTable l g cI cJ cZ ad xst xse xre xgr ltm low lta llo lhi lmo rta ron rlo rhi rmo rin res rsi rli rar xgc xca xls xtl xno lco rwa rad rest a1 (rta a1.toNatClampNeg) (rmo a1.toNatClampNeg) r_7 hG) wm_379 wm_376 wm_377 wm_378 wm_48 hd_L_againstTable rfl rfl ⟨Nat.le_of_ble_eq_true rfl, Nat.le_of_ble_eq_true rfl⟩ ⟨Nat.zero_le _, Nat.zero_le _⟩ 0 1 rfl rfl rfl hl.1 (rest := []) rfl (Nat.le_of_ble_eq_true rfl) d_T_blockers_70 (fun H locs hP hD hS => ?_)
    exact hJ73 _ H locs ls hF hP hD hS (lv_sub hl [2, 3] rfl)
  · have hF := it_f hF hc_6
    refine lv_aload_n hx hb d_T_blockers_32 rfl (lv_at hl 2 rfl) ?_
    refine va_get (D := g) (ci := 2) (v := .ref (ad 1)) (C := kR2) (T := kT2) (N := 11) hx hb hts kw2 hown hK hP 0 rfl rfl 2 (by decide) (hts _ wm_158) (fun _ h9 => h9) rfl d_T_blockers_33 ?_
    refine lv_iload_n hx hb d_T_blockers_36 rfl (lv_at hl 3 rfl) ?_
    refine lv_iload_n hx hb d_T_blockers_37 rfl (lv_at hl 1 rfl) ?_
    refine lv_aload_n hx hb d_T_blockers_38 rfl (lv_at hl 2 rfl) ?_
    refine va_get (D := g) (ci := 2) (v := .ref (ad 2)) (C := kR2) (T := kT2) (N := 11) hx hb hts kw2 hown hK hP 0 rfl rfl 3 (by decide) (hts _ wm_159) (fun _ h9 => h9) rfl d_T_blockers_39 ?_
    refine va_get (D := g) (ci := 1) (v := .ref (ad 15)) (C := kR1) (T := kT1) (N := 12) hx hb hts kw1 hown hK hP 2 rfl rfl 2 (by decide) (hts _ wm_113) (fun _ h9 => h9) rfl d_T_blockers_42 ?_
    refine lv_iload_n hx hb d_T_blockers_45 rfl (lv_at hl 3 rfl) ?_
    obtain ⟨hg_8, hF⟩ := gd_inv hF
    refine va_lald hx hb hK hP 15 1 rfl rfl hg_8 d_T_blockers_46 ?_
    refine lv_aload_n hx hb d_T_blockers_47 rfl (lv_at hl 2 rfl) ?_
    refine va_get (D := g) (ci := 2) (v := .ref (ad 2)) (C := kR2) (T := kT2) (N := 11) hx hb hts kw2 hown hK hP 0 rfl rfl 3 (by decide) (hts _ wm_159) (fun _ h9 => h9) rfl d_T_blockers_48 ?_
    refine va_get (D := g) (ci := 1) (v := .ref (ad 16)) (C := kR1) (T := kT1) (N := 12) hx hb hts kw1 hown hK hP 2 rfl rfl 3 (by decide) (hts _ wm_115) (fun _ h9 => h9) rfl d_T_blockers_51 ?_
    refine lv_iload_n hx hb d_T_blockers_54 rfl (lv_at hl 3 rfl) ?_
    obtain ⟨hg_9, hF⟩ := gd_inv hF
    refine va_lald hx hb hK hP 16 1 rfl rfl hg_9 d_T_blockers_55 ?_
    refine lv_iload_n hx hb d_T_blockers_56 rfl (lv_at hl 0 rfl) ?_
    obtain ⟨r_10, hG, hF⟩ := ob1_inv hF
    refine kci K hP hD hS (c_L_againstRange l g cI cJ cZ ad xst xse xre xgr ltm low lta llo lhi lmo rta ron rlo rhi rmo rin res rsi rli rar xgc xca xls xtl xno lco rwa rad rest a1 (rta a1.toNatClampNeg) (rlo a1.toNatClampNeg) (rhi a1.toNatClampNeg) (rmo a1.toNatClampNeg) r_10 hG) wm_372 wm_369 wm_370 wm_371 wm_48 hd_L_againstRange rfl rfl ⟨Nat.le_of_ble_eq_true rfl, Nat.le_of_ble_eq_true rfl⟩ ⟨Nat.zero_le _, Nat.zero_le _⟩ 0 1 rfl rfl rfl hl.1 (rest := []) rfl (Nat.le_of_ble_eq_true rfl) d_T_blockers_57 (fun H locs hP hD hS => ?_)
    refine lv_goto (tgt := 73) hx hb d_T_blockers_60 (by decide) ?_
    exact hJ73 _ H locs ls hF hP hD hS (lv_sub hl [2, 3] rfl)
theorem c_T_blockers (l : Launch) (g : va_G) (cI cJ cZ : ClassId) (ad : Nat → Nat) (xst : Nat → Int32) (xse : Nat → Int32) (xre : Nat → Int32) (xgr : Nat → Int32) (ltm : Nat → Int32) (low : Nat → Int32) (lta : Nat → Int32) (llo : Nat → Int64) (lhi : Nat → Int64) (lmo : Nat → Int32) (rta : Nat → Int32) (ron : Nat → Int32) (rlo : Nat → Int64) (rhi : Nat → Int64) (rmo : Nat → Int32) (rin : Nat → Int32) (res : Nat → Int32) (rsi : Nat → Int32) (rli : Nat → Int32) (rar : Nat → Int32) (xgc : Int32) (xca : Int32) (xls : Int32) (xtl : Int32) (xno : Int32) (lco : Int32) (rwa : Int32) (rad : Int32) (rest : va_W) (a1 : Int32) (r : Int32) (hF : F_T_blockers ltm low lta llo lhi lmo rta ron rlo rhi rmo rli lco rwa a1 = some r) : Ci l y_T_blockers prog_1_method_35_code 5 (some .int) ({ frames := 2, cells := 0, slots := 0, locals := 51 }) [.ref (ad 0), .int a1] g (kty cI cJ cZ) (wC cI cJ cZ ad xst xse xre xgr ltm low lta llo lhi lmo rta ron rlo rhi rmo rin res rsi rli rar xgc xca xls xtl xno lco rwa rad rest) (wC cI cJ cZ ad xst xse xre xgr ltm low lta llo lhi lmo rta ron rlo rhi rmo rin res rsi rli rar xgc xca xls xtl xno lco rwa rad rest) r :=
  Ci.of (by decide) (Nat.le_of_ble_eq_true rfl) (fun p e s m below meth c A ls K hP hD hS hl => t_T_blockers K xst xse xre xgr ltm low lta llo lhi lmo rta ron rlo rhi rmo rin res rsi rli rar xgc xca xls xtl xno lco rwa rad a1 r hF hP hD hS hl)
def F_T_grant (xst : Nat → Int32) (xgr : Nat → Int32) (ltm : Nat → Int32) (low : Nat → Int32) (lta : Nat → Int32) (llo : Nat → Int64) (lhi : Nat → Int64) (lmo : Nat → Int32) (rta : Nat → Int32) (ron : Nat → Int32) (rlo : Nat → Int64) (rhi : Nat → Int64) (rmo : Nat → Int32) (res : Nat → Int32) (rli : Nat → Int32) (xgc : Int32) (xca : Int32) (lco : Int32) (rwa : Int32) (a1 : Int32) : Option (Int32 × (Nat → Int32) × (Nat → Int32) × (Nat → Int32) × (Nat → Int32) × (Nat → Int32) × (Nat → Int64) × (Nat → Int64) × (Nat → Int32) × (Nat → Int32) × Int32 × Int32 × Int32) :=
  ob2 (F_R_leave rli rwa a1) (fun rli_1 rwa_2 => gd (a1 < 0 ∨ 8 ≤ a1.toNatClampNeg) (jn2 (fun (xgr_4 : Nat → Int32) (xgc_5 : Int32) => gd (a1 < 0 ∨ 8 ≤ a1.toNatClampNeg) (gd (a1 < 0 ∨ 8 ≤ a1.toNatClampNeg) (gd (a1 < 0 ∨ 8 ≤ a1.toNatClampNeg) (if (ron a1.toNatClampNeg) = 0 then ob1 (F_L_setTable ltm a1 (rta a1.toNatClampNeg) (rmo a1.toNatClampNeg)) (fun ltm_10 => gd (a1 < 0 ∨ 8 ≤ a1.toNatClampNeg) (if (res a1.toNatClampNeg) = 0 then some (0, upd xst a1.toNatClampNeg 1, xgr_4, ltm_10, low, lta, llo, lhi, lmo, rli_1, xgc_5, lco, rwa_2) else ob6 (F_L_dropRanges low lta llo lhi lmo lco a1 (rta a1.toNatClampNeg)) (fun low_13 lta_14 llo_15 lhi_16 lmo_17 lco_18 => some (1, upd xst a1.toNatClampNeg 1, xgr_4, ltm_10, low_13, lta_14, llo_15, lhi_16, lmo_17, rli_1, xgc_5, lco_18, rwa_2)))) else gd (a1 < 0 ∨ 8 ≤ a1.toNatClampNeg) (gd (a1 < 0 ∨ 8 ≤ a1.toNatClampNeg) (ob6 (F_L_addRange low lta llo lhi lmo lco a1 (rta a1.toNatClampNeg) (rlo a1.toNatClampNeg) (rhi a1.toNatClampNeg) (rmo a1.toNatClampNeg)) (fun low_21 lta_22 llo_23 lhi_24 lmo_25 lco_26 => some (0, upd xst a1.toNatClampNeg 1, xgr_4, ltm, low_21, lta_22, llo_23, lhi_24, lmo_25, rli_1, xgc_5, lco_26, rwa_2)))))))) (fun J55 => if a1 = xca then J55 xgr xgc else if 8 ≤ xgc then J55 xgr xgc else gd (xgc < 0 ∨ 8 ≤ xgc.toNatClampNeg) (J55 (upd xgr xgc.toNatClampNeg a1) (xgc + 1)))))
set_option maxHeartbeats 4000000 in
set_option maxRecDepth 100000 in
theorem t_T_grant {p : Program} {l : Launch} {e : Env} {s : State} {m : MethodId} {args : Array Value} {below : List Frame} {meth : Method} {c : Code} {A : Nat → Prop} {g : va_G} {cI cJ cZ : ClassId} {ad : Nat → Nat} {rest : va_W} (K : kX p s m args meth c "LockTable" prog_1_method_36_code 4 (some .boolean) A g (kty cI cJ cZ)) (xst : Nat → Int32) (xse : Nat → Int32) (xre : Nat → Int32) (xgr : Nat → Int32) (ltm : Nat → Int32) (low : Nat → Int32) (lta : Nat → Int32) (llo : Nat → Int64) (lhi : Nat → Int64) (lmo : Nat → Int32) (rta : Nat → Int32) (ron : Nat → Int32) (rlo : Nat → Int64) (rhi : Nat → Int64) (rmo : Nat → Int32) (rin : Nat → Int32) (res : Nat → Int32) (rsi : Nat → Int32) (rli : Nat → Int32) (rar : Nat → Int32) (xgc : Int32) (xca : Int32) (xls : Int32) (xtl : Int32) (xno : Int32) (lco : Int32) (rwa : Int32) (rad : Int32) (a1 : Int32) (r : Int32) (o_xst : Nat → Int32) (o_xgr : Nat → Int32) (o_ltm : Nat → Int32) (o_low : Nat → Int32) (o_lta : Nat → Int32) (o_llo : Nat → Int64) (o_lhi : Nat → Int64) (o_lmo : Nat → Int32) (o_rli : Nat → Int32) (o_xgc : Int32) (o_lco : Int32) (o_rwa : Int32) (hF : F_T_grant xst xgr ltm low lta llo lhi lmo rta ron rlo rhi rmo res rli xgc xca lco rwa a1 = some (r, o_xst, o_xgr, o_ltm, o_low, o_lta, o_llo, o_lhi, o_lmo, o_rli, o_xgc, o_lco, o_rwa)) {H : Heap} {locs : List Loc} {ls : Array Slot} (hP : va_P g kcl (wC cI cJ cZ ad xst xse xre xgr ltm low lta llo lhi lmo rta ron rlo rhi rmo rin res rsi rli rar xgc xca xls xtl xno lco rwa rad rest) H) (hD : va_D A (wC cI cJ cZ ad xst xse xre xgr ltm low lta llo lhi lmo rta ron rlo rhi rmo rin res rsi rli rar xgc xca xls xtl xno lco rwa rad rest)) (hS : va_S A s.heap H locs) (hl : lv_has ls 4 [(0, .ref (ad 0)), (1, .int a1)]) : W p l e ({ frames := 2, cells := 0, slots := 0, locals := 46 }) s m args below meth c H locs 0 0 (MQ below (kQi g (kty cI cJ cZ) (wC cI cJ cZ ad o_xst xse xre o_xgr o_ltm o_low o_lta o_llo o_lhi o_lmo rta ron rlo rhi rmo rin res rsi o_rli rar o_xgc xca xls xtl xno o_lco o_rwa rad rest) A r) args s 0 0 A) (F0 m 0 ls []) := by
  obtain ⟨hx, hb, hr, hml, hown, hts, hlocks, hK, hA, hE⟩ := id K
  unfold F_T_grant at hF
  refine lv_aload_n hx hb d_T_grant_0 rfl (lv_at hl 0 rfl) ?_
  refine va_get (D := g) (ci := 2) (v := .ref (ad 2)) (C := kR2) (T := kT2) (N := 11) hx hb hts kw2 hown hK hP 0 rfl rfl 3 (by decide) (hts _ wm_159) (fun _ h9 => h9) rfl d_T_grant_1 ?_
  refine lv_iload_n hx hb d_T_grant_4 rfl (lv_at hl 1 rfl) ?_
  obtain ⟨rli_1, rwa_2, hG, hF⟩ := ob2_inv hF
  refine kcv K hP hD hS (c_R_leave l g cI cJ cZ ad xst xse xre xgr ltm low lta llo lhi lmo rta ron rlo rhi rmo rin res rsi rli rar xgc xca xls xtl xno lco rwa rad rest a1 rli_1 rwa_2 hG) wm_397 wm_394 wm_395 wm_396 wm_49 hd_R_leave rfl rfl ⟨Nat.le_of_ble_eq_true rfl, Nat.le_of_ble_eq_true rfl⟩ ⟨Nat.zero_le _, Nat.zero_le _⟩ 1 2 rfl rfl rfl hl.1 (rest := []) rfl (Nat.le_of_ble_eq_true rfl) d_T_grant_5 (fun H locs hP hD hS => ?_)
  refine lv_aload_n hx hb d_T_grant_8 rfl (lv_at hl 0 rfl) ?_
  refine va_get (D := g) (ci := 2) (v := .ref (ad 3)) (C := kR2) (T := kT2) (N := 11) hx hb hts kw2 hown hK hP 0 rfl rfl 0 (by decide) (hts _ wm_156) (fun _ h9 => h9) rfl d_T_grant_9 ?_
  refine lv_iload_n hx hb d_T_grant_12 rfl (lv_at hl 1 rfl) ?_
  refine lv_iconst (v := 1) hx hb d_T_grant_13 (by decide) ?_
  obtain ⟨hg_3, hF⟩ := gd_inv hF
  refine va_iast hx hb hK hP hD hS 3 0 rfl rfl hg_3 d_T_grant_14 (fun H locs hP hD hS => ?_)
  have hP : va_P g kcl (wC cI cJ cZ ad (upd xst a1.toNatClampNeg 1) xse xre xgr ltm low lta llo lhi lmo rta ron rlo rhi rmo rin res rsi rli_1 rar xgc xca xls xtl xno lco rwa_2 rad rest) H := hP
  have hD : va_D A (wC cI cJ cZ ad (upd xst a1.toNatClampNeg 1) xse xre xgr ltm low lta llo lhi lmo rta ron rlo rhi rmo rin res rsi rli_1 rar xgc xca xls xtl xno lco rwa_2 rad rest) := hD
  refine lv_iload_n hx hb d_T_grant_15 rfl (lv_at hl 1 rfl) ?_
  refine lv_aload_n hx hb d_T_grant_16 rfl (lv_at hl 0 rfl) ?_
  refine va_get (D := g) (ci := 2) (v := .int xca) (C := kR2) (T := kT2) (N := 11) hx hb hts kw2 hown hK hP 0 rfl rfl 7 (by decide) (hts _ wm_163) (fun _ h9 => h9) rfl d_T_grant_17 ?_
  obtain ⟨J55, eJ55, hF⟩ := jn2_inv hF
  have hJ55 : ∀ (xgr_4 : Nat → Int32) (xgc_5 : Int32) (H : Heap) (locs : List Loc) (ls : Array Slot), J55 xgr_4 xgc_5 = some (r, o_xst, o_xgr, o_ltm, o_low, o_lta, o_llo, o_lhi, o_lmo, o_rli, o_xgc, o_lco, o_rwa) → va_P g kcl (wC cI cJ cZ ad (upd xst a1.toNatClampNeg 1) xse xre xgr_4 ltm low lta llo lhi lmo rta ron rlo rhi rmo rin res rsi rli_1 rar xgc_5 xca xls xtl xno lco rwa_2 rad rest) H → va_D A (wC cI cJ cZ ad (upd xst a1.toNatClampNeg 1) xse xre xgr_4 ltm low lta llo lhi lmo rta ron rlo rhi rmo rin res rsi rli_1 rar xgc_5 xca xls xtl xno lco rwa_2 rad rest) → va_S A s.heap H locs → lv_has ls 4 [(0, .ref (ad 0)), (1, .int a1)] → W p l e ({ frames := 2, cells := 0, slots := 0, locals := 46 }) s m args below meth c H locs 0 0 (MQ below (kQi g (kty cI cJ cZ) (wC cI cJ cZ ad o_xst xse xre o_xgr o_ltm o_low o_lta o_llo o_lhi o_lmo rta ron rlo rhi rmo rin res rsi o_rli rar o_xgc xca xls xtl xno o_lco o_rwa rad rest) A r) args s 0 0 A) (F0 m 55 ls []) := by
    intro xgr_4 xgc_5 H locs ls hF hP hD hS hl
    rw [eJ55] at hF
    refine lv_aload_n hx hb d_T_grant_55 rfl (lv_at hl 0 rfl) ?_
    refine va_get (D := g) (ci := 2) (v := .ref (ad 2)) (C := kR2) (T := kT2) (N := 11) hx hb hts kw2 hown hK hP 0 rfl rfl 3 (by decide) (hts _ wm_159) (fun _ h9 => h9) rfl d_T_grant_56 ?_
    refine va_get (D := g) (ci := 1) (v := .ref (ad 13)) (C := kR1) (T := kT1) (N := 12) hx hb hts kw1 hown hK hP 2 rfl rfl 0 (by decide) (hts _ wm_109) (fun _ h9 => h9) rfl d_T_grant_59 ?_
    refine lv_iload_n hx hb d_T_grant_62 rfl (lv_at hl 1 rfl) ?_
    obtain ⟨hg_6, hF⟩ := gd_inv hF
    refine va_iald hx hb hK hP 13 0 rfl rfl hg_6 d_T_grant_63 ?_
    refine lv_istore_n (lv' := [(2, .int (rta a1.toNatClampNeg)), (0, .ref (ad 0)), (1, .int a1)]) hx hb d_T_grant_64 rfl hl (by decide) rfl (fun ls hl => ?_)
    refine lv_aload_n hx hb d_T_grant_65 rfl (lv_at hl 1 rfl) ?_
    refine va_get (D := g) (ci := 2) (v := .ref (ad 2)) (C := kR2) (T := kT2) (N := 11) hx hb hts kw2 hown hK hP 0 rfl rfl 3 (by decide) (hts _ wm_159) (fun _ h9 => h9) rfl d_T_grant_66 ?_
    refine va_get (D := g) (ci := 1) (v := .ref (ad 17)) (C := kR1) (T := kT1) (N := 12) hx hb hts kw1 hown hK hP 2 rfl rfl 4 (by decide) (hts _ wm_117) (fun _ h9 => h9) rfl d_T_grant_69 ?_
    refine lv_iload_n hx hb d_T_grant_72 rfl (lv_at hl 2 rfl) ?_
    obtain ⟨hg_7, hF⟩ := gd_inv hF
    refine va_iald hx hb hK hP 17 0 rfl rfl hg_7 d_T_grant_73 ?_
    refine lv_istore_n (lv' := [(3, .int (rmo a1.toNatClampNeg)), (2, .int (rta a1.toNatClampNeg)), (0, .ref (ad 0)), (1, .int a1)]) hx hb d_T_grant_74 rfl hl (by decide) rfl (fun ls hl => ?_)
    refine lv_aload_n hx hb d_T_grant_75 rfl (lv_at hl 2 rfl) ?_
    refine va_get (D := g) (ci := 2) (v := .ref (ad 2)) (C := kR2) (T := kT2) (N := 11) hx hb hts kw2 hown hK hP 0 rfl rfl 3 (by decide) (hts _ wm_159) (fun _ h9 => h9) rfl d_T_grant_76 ?_
    refine va_get (D := g) (ci := 1) (v := .ref (ad 14)) (C := kR1) (T := kT1) (N := 12) hx hb hts kw1 hown hK hP 2 rfl rfl 1 (by decide) (hts _ wm_111) (fun _ h9 => h9) rfl d_T_grant_79 ?_
    refine lv_iload_n hx hb d_T_grant_82 rfl (lv_at hl 3 rfl) ?_
    obtain ⟨hg_8, hF⟩ := gd_inv hF
    refine va_zald hx hb hK hP 14 2 rfl rfl hg_8 d_T_grant_83 ?_
    refine lv_if_eq (tgt := 117) hx hb d_T_grant_84 (by decide) (fun hc_9 => ?_) (fun hc_9 => ?_)
    · have hF := it_t hF hc_9
      refine lv_aload_n hx hb d_T_grant_117 rfl (lv_at hl 2 rfl) ?_
      refine va_get (D := g) (ci := 2) (v := .ref (ad 1)) (C := kR2) (T := kT2) (N := 11) hx hb hts kw2 hown hK hP 0 rfl rfl 2 (by decide) (hts _ wm_158) (fun _ h9 => h9) rfl d_T_grant_118 ?_
      refine lv_iload_n hx hb d_T_grant_121 rfl (lv_at hl 3 rfl) ?_
      refine lv_iload_n hx hb d_T_grant_122 rfl (lv_at hl 1 rfl) ?_
      refine lv_iload_n hx hb d_T_grant_123 rfl (lv_at hl 0 rfl) ?_
      obtain ⟨ltm_10, hG, hF⟩ := ob1_inv hF
      refine kcv K hP hD hS (c_L_setTable l g cI cJ cZ ad (upd xst a1.toNatClampNeg 1) xse xre xgr_4 ltm low lta llo lhi lmo rta ron rlo rhi rmo rin res rsi rli_1 rar xgc_5 xca xls xtl xno lco rwa_2 rad rest a1 (rta a1.toNatClampNeg) (rmo a1.toNatClampNeg) ltm_10 hG) wm_405 wm_402 wm_403 wm_404 wm_48 hd_L_setTable rfl rfl ⟨Nat.le_of_ble_eq_true rfl, Nat.le_of_ble_eq_true rfl⟩ ⟨Nat.zero_le _, Nat.zero_le _⟩ 0 1 rfl rfl rfl hl.1 (rest := []) rfl (Nat.le_of_ble_eq_true rfl) d_T_grant_124 (fun H locs hP hD hS => ?_)
      refine lv_aload_n hx hb d_T_grant_127 rfl (lv_at hl 2 rfl) ?_
      refine va_get (D := g) (ci := 2) (v := .ref (ad 2)) (C := kR2) (T := kT2) (N := 11) hx hb hts kw2 hown hK hP 0 rfl rfl 3 (by decide) (hts _ wm_159) (fun _ h9 => h9) rfl d_T_grant_128 ?_
      refine va_get (D := g) (ci := 1) (v := .ref (ad 19)) (C := kR1) (T := kT1) (N := 12) hx hb hts kw1 hown hK hP 2 rfl rfl 6 (by decide) (hts _ wm_121) (fun _ h9 => h9) rfl d_T_grant_131 ?_
      refine lv_iload_n hx hb d_T_grant_134 rfl (lv_at hl 3 rfl) ?_
      obtain ⟨hg_11, hF⟩ := gd_inv hF
      refine va_zald hx hb hK hP 19 2 rfl rfl hg_11 d_T_grant_135 ?_
      refine lv_if_ne (tgt := 141) hx hb d_T_grant_136 (by decide) (fun hc_12 => ?_) (fun hc_12 => ?_)
      · have hF := it_f hF hc_12
        refine lv_aload_n hx hb d_T_grant_141 rfl (lv_at hl 2 rfl) ?_
        refine va_get (D := g) (ci := 2) (v := .ref (ad 1)) (C := kR2) (T := kT2) (N := 11) hx hb hts kw2 hown hK hP 0 rfl rfl 2 (by decide) (hts _ wm_158) (fun _ h9 => h9) rfl d_T_grant_142 ?_
        refine lv_iload_n hx hb d_T_grant_145 rfl (lv_at hl 3 rfl) ?_
        refine lv_iload_n hx hb d_T_grant_146 rfl (lv_at hl 1 rfl) ?_
        obtain ⟨low_13, lta_14, llo_15, lhi_16, lmo_17, lco_18, hG, hF⟩ := ob6_inv hF
        refine kcv K hP hD hS (c_L_dropRanges l g cI cJ cZ ad (upd xst a1.toNatClampNeg 1) xse xre xgr_4 ltm_10 low lta llo lhi lmo rta ron rlo rhi rmo rin res rsi rli_1 rar xgc_5 xca xls xtl xno lco rwa_2 rad rest a1 (rta a1.toNatClampNeg) low_13 lta_14 llo_15 lhi_16 lmo_17 lco_18 hG) wm_409 wm_406 wm_407 wm_408 wm_48 hd_L_dropRanges rfl rfl ⟨Nat.le_of_ble_eq_true rfl, Nat.le_of_ble_eq_true rfl⟩ ⟨Nat.zero_le _, Nat.zero_le _⟩ 0 1 rfl rfl rfl hl.1 (rest := []) rfl (Nat.le_of_ble_eq_true rfl) d_T_grant_147 (fun H locs hP hD hS => ?_)
        refine lv_iconst (v := 1) hx hb d_T_grant_150 (by decide) ?_
        cases hF
        exact krz K hP hD hS d_T_grant_151 rfl rfl
      · have hF := it_t hF hc_12
        refine lv_iconst (v := 0) hx hb d_T_grant_139 (by decide) ?_
        cases hF
        exact krz K hP hD hS d_T_grant_140 rfl rfl
    · have hF := it_f hF hc_9
      refine lv_aload_n hx hb d_T_grant_87 rfl (lv_at hl 2 rfl) ?_
      refine va_get (D := g) (ci := 2) (v := .ref (ad 1)) (C := kR2) (T := kT2) (N := 11) hx hb hts kw2 hown hK hP 0 rfl rfl 2 (by decide) (hts _ wm_158) (fun _ h9 => h9) rfl d_T_grant_88 ?_
      refine lv_iload_n hx hb d_T_grant_91 rfl (lv_at hl 3 rfl) ?_
      refine lv_iload_n hx hb d_T_grant_92 rfl (lv_at hl 1 rfl) ?_
      refine lv_aload_n hx hb d_T_grant_93 rfl (lv_at hl 2 rfl) ?_
      refine va_get (D := g) (ci := 2) (v := .ref (ad 2)) (C := kR2) (T := kT2) (N := 11) hx hb hts kw2 hown hK hP 0 rfl rfl 3 (by decide) (hts _ wm_159) (fun _ h9 => h9) rfl d_T_grant_94 ?_
      refine va_get (D := g) (ci := 1) (v := .ref (ad 15)) (C := kR1) (T := kT1) (N := 12) hx hb hts kw1 hown hK hP 2 rfl rfl 2 (by decide) (hts _ wm_113) (fun _ h9 => h9) rfl d_T_grant_97 ?_
      refine lv_iload_n hx hb d_T_grant_100 rfl (lv_at hl 3 rfl) ?_
      obtain ⟨hg_19, hF⟩ := gd_inv hF
      refine va_lald hx hb hK hP 15 1 rfl rfl hg_19 d_T_grant_101 ?_
      refine lv_aload_n hx hb d_T_grant_102 rfl (lv_at hl 2 rfl) ?_
      refine va_get (D := g) (ci := 2) (v := .ref (ad 2)) (C := kR2) (T := kT2) (N := 11) hx hb hts kw2 hown hK hP 0 rfl rfl 3 (by decide) (hts _ wm_159) (fun _ h9 => h9) rfl d_T_grant_103 ?_
      refine va_get (D := g) (ci := 1) (v := .ref (ad 16)) (C := kR1) (T := kT1) (N := 12) hx hb hts kw1 hown hK hP 2 rfl rfl 3 (by decide) (hts _ wm_115) (fun _ h9 => h9) rfl d_T_grant_106 ?_
      refine lv_iload_n hx hb d_T_grant_109 rfl (lv_at hl 3 rfl) ?_
      obtain ⟨hg_20, hF⟩ := gd_inv hF
      refine va_lald hx hb hK hP 16 1 rfl rfl hg_20 d_T_grant_110 ?_
      refine lv_iload_n hx hb d_T_grant_111 rfl (lv_at hl 0 rfl) ?_
      obtain ⟨low_21, lta_22, llo_23, lhi_24, lmo_25, lco_26, hG, hF⟩ := ob6_inv hF
      refine kcv K hP hD hS (c_L_addRange l g cI cJ cZ ad (upd xst a1.toNatClampNeg 1) xse xre xgr_4 ltm low lta llo lhi lmo rta ron rlo rhi rmo rin res rsi rli_1 rar xgc_5 xca xls xtl xno lco rwa_2 rad rest a1 (rta a1.toNatClampNeg) (rlo a1.toNatClampNeg) (rhi a1.toNatClampNeg) (rmo a1.toNatClampNeg) low_21 lta_22 llo_23 lhi_24 lmo_25 lco_26 hG) wm_401 wm_398 wm_399 wm_400 wm_48 hd_L_addRange rfl rfl ⟨Nat.le_of_ble_eq_true rfl, Nat.le_of_ble_eq_true rfl⟩ ⟨Nat.zero_le _, Nat.zero_le _⟩ 0 1 rfl rfl rfl hl.1 (rest := []) rfl (Nat.le_of_ble_eq_true rfl) d_T_grant_112 (fun H locs hP hD hS => ?_)
      refine lv_iconst (v := 0) hx hb d_T_grant_115 (by decide) ?_
      cases hF
      exact krz K hP hD hS d_T_grant_116 rfl rfl
  refine lv_icmp_eq (tgt := 55) hx hb d_T_grant_20 (by decide) (fun hc_27 => ?_) (fun hc_27 => ?_)
  · have hF := it_t hF hc_27
    exact hJ55 _ _ H locs ls hF hP hD hS (lv_sub hl [0, 1] rfl)
  · have hF := it_f hF hc_27
    refine lv_aload_n hx hb d_T_grant_23 rfl (lv_at hl 0 rfl) ?_
    refine va_get (D := g) (ci := 2) (v := .int xgc) (C := kR2) (T := kT2) (N := 11) hx hb hts kw2 hown hK hP 0 rfl rfl 6 (by decide) (hts _ wm_162) (fun _ h9 => h9) rfl d_T_grant_24 ?_
    refine lv_aload_n hx hb d_T_grant_27 rfl (lv_at hl 0 rfl) ?_
    refine va_get (D := g) (ci := 2) (v := .ref (ad 6)) (C := kR2) (T := kT2) (N := 11) hx hb hts kw2 hown hK hP 0 rfl rfl 5 (by decide) (hts _ wm_161) (fun _ h9 => h9) rfl d_T_grant_28 ?_
    refine va_alen hx hb hK hP 6 0 rfl rfl (v := 8) rfl d_T_grant_31 ?_
    refine lv_icmp_ge (tgt := 55) hx hb d_T_grant_32 (by decide) (fun hc_28 => ?_) (fun hc_28 => ?_)
    · have hF := it_t hF hc_28
      exact hJ55 _ _ H locs ls hF hP hD hS (lv_sub hl [0, 1] rfl)
    · have hF := it_f hF hc_28
      refine lv_aload_n hx hb d_T_grant_35 rfl (lv_at hl 0 rfl) ?_
      refine va_get (D := g) (ci := 2) (v := .ref (ad 6)) (C := kR2) (T := kT2) (N := 11) hx hb hts kw2 hown hK hP 0 rfl rfl 5 (by decide) (hts _ wm_161) (fun _ h9 => h9) rfl d_T_grant_36 ?_
      refine lv_aload_n hx hb d_T_grant_39 rfl (lv_at hl 0 rfl) ?_
      refine va_get (D := g) (ci := 2) (v := .int xgc) (C := kR2) (T := kT2) (N := 11) hx hb hts kw2 hown hK hP 0 rfl rfl 6 (by decide) (hts _ wm_162) (fun _ h9 => h9) rfl d_T_grant_40 ?_
      refine lv_iload_n hx hb d_T_grant_43 rfl (lv_at hl 1 rfl) ?_
      obtain ⟨hg_29, hF⟩ := gd_inv hF
      refine va_iast hx hb hK hP hD hS 6 0 rfl rfl hg_29 d_T_grant_44 (fun H locs hP hD hS => ?_)
      have hP : va_P g kcl (wC cI cJ cZ ad (upd xst a1.toNatClampNeg 1) xse xre (upd xgr xgc.toNatClampNeg a1) ltm low lta llo lhi lmo rta ron rlo rhi rmo rin res rsi rli_1 rar xgc xca xls xtl xno lco rwa_2 rad rest) H := hP
      have hD : va_D A (wC cI cJ cZ ad (upd xst a1.toNatClampNeg 1) xse xre (upd xgr xgc.toNatClampNeg a1) ltm low lta llo lhi lmo rta ron rlo rhi rmo rin res rsi rli_1 rar xgc xca xls xtl xno lco rwa_2 rad rest) := hD
      refine lv_aload_n hx hb d_T_grant_45 rfl (lv_at hl 0 rfl) ?_
      refine lv_dup hx hb d_T_grant_46 rfl ?_
      refine va_get (D := g) (ci := 2) (v := .int xgc) (C := kR2) (T := kT2) (N := 11) hx hb hts kw2 hown hK hP 0 rfl rfl 6 (by decide) (hts _ wm_162) (fun _ h9 => h9) rfl d_T_grant_47 ?_
      refine lv_iconst (v := 1) hx hb d_T_grant_50 (by decide) ?_
      refine lv_iadd hx hb d_T_grant_51 ?_
      refine va_put (D := g) (ci := 2) (v := .int (xgc + 1)) (ty := .int) (C := kR2) (T := kT2) (N := 11) hx hb hts kw2 kt2 ko2 kn2 hown hK hP hD hS 0 rfl rfl 6 (by decide) (hts _ wm_162) (fun _ h9 => h9) rfl (by decide +kernel) rfl rfl (Nat.le_of_ble_eq_true rfl) d_T_grant_52 (fun H locs hP hD hS => ?_)
      have hP : va_P g kcl (wC cI cJ cZ ad (upd xst a1.toNatClampNeg 1) xse xre (upd xgr xgc.toNatClampNeg a1) ltm low lta llo lhi lmo rta ron rlo rhi rmo rin res rsi rli_1 rar (xgc + 1) xca xls xtl xno lco rwa_2 rad rest) H := hP
      have hD : va_D A (wC cI cJ cZ ad (upd xst a1.toNatClampNeg 1) xse xre (upd xgr xgc.toNatClampNeg a1) ltm low lta llo lhi lmo rta ron rlo rhi rmo rin res rsi rli_1 rar (xgc + 1) xca xls xtl xno lco rwa_2 rad rest) := hD
      exact hJ55 _ _ H locs ls hF hP hD hS (lv_sub hl [0, 1] rfl)
theorem c_T_grant (l : Launch) (g : va_G) (cI cJ cZ : ClassId) (ad : Nat → Nat) (xst : Nat → Int32) (xse : Nat → Int32) (xre : Nat → Int32) (xgr : Nat → Int32) (ltm : Nat → Int32) (low : Nat → Int32) (lta : Nat → Int32) (llo : Nat → Int64) (lhi : Nat → Int64) (lmo : Nat → Int32) (rta : Nat → Int32) (ron : Nat → Int32) (rlo : Nat → Int64) (rhi : Nat → Int64) (rmo : Nat → Int32) (rin : Nat → Int32) (res : Nat → Int32) (rsi : Nat → Int32) (rli : Nat → Int32) (rar : Nat → Int32) (xgc : Int32) (xca : Int32) (xls : Int32) (xtl : Int32) (xno : Int32) (lco : Int32) (rwa : Int32) (rad : Int32) (rest : va_W) (a1 : Int32) (r : Int32) (o_xst : Nat → Int32) (o_xgr : Nat → Int32) (o_ltm : Nat → Int32) (o_low : Nat → Int32) (o_lta : Nat → Int32) (o_llo : Nat → Int64) (o_lhi : Nat → Int64) (o_lmo : Nat → Int32) (o_rli : Nat → Int32) (o_xgc : Int32) (o_lco : Int32) (o_rwa : Int32) (hF : F_T_grant xst xgr ltm low lta llo lhi lmo rta ron rlo rhi rmo res rli xgc xca lco rwa a1 = some (r, o_xst, o_xgr, o_ltm, o_low, o_lta, o_llo, o_lhi, o_lmo, o_rli, o_xgc, o_lco, o_rwa)) : Ci l y_T_grant prog_1_method_36_code 4 (some .boolean) ({ frames := 2, cells := 0, slots := 0, locals := 46 }) [.ref (ad 0), .int a1] g (kty cI cJ cZ) (wC cI cJ cZ ad xst xse xre xgr ltm low lta llo lhi lmo rta ron rlo rhi rmo rin res rsi rli rar xgc xca xls xtl xno lco rwa rad rest) (wC cI cJ cZ ad o_xst xse xre o_xgr o_ltm o_low o_lta o_llo o_lhi o_lmo rta ron rlo rhi rmo rin res rsi o_rli rar o_xgc xca xls xtl xno o_lco o_rwa rad rest) r :=
  Ci.of (by decide) (Nat.le_of_ble_eq_true rfl) (fun p e s m below meth c A ls K hP hD hS hl => t_T_grant K xst xse xre xgr ltm low lta llo lhi lmo rta ron rlo rhi rmo rin res rsi rli rar xgc xca xls xtl xno lco rwa rad a1 r o_xst o_xgr o_ltm o_low o_lta o_llo o_lhi o_lmo o_rli o_xgc o_lco o_rwa hF hP hD hS hl)
def F_T_takeBack (xst : Nat → Int32) (rli : Nat → Int32) (rwa : Int32) (a1 : Int32) (a2 : Int32) : Option ((Nat → Int32) × (Nat → Int32) × Int32) :=
  ob2 (F_R_leave rli rwa a1) (fun rli_1 rwa_2 => gd (a1 < 0 ∨ 8 ≤ a1.toNatClampNeg) (some (upd xst a1.toNatClampNeg a2, rli_1, rwa_2)))
set_option maxHeartbeats 4000000 in
set_option maxRecDepth 100000 in
theorem t_T_takeBack {p : Program} {l : Launch} {e : Env} {s : State} {m : MethodId} {args : Array Value} {below : List Frame} {meth : Method} {c : Code} {A : Nat → Prop} {g : va_G} {cI cJ cZ : ClassId} {ad : Nat → Nat} {rest : va_W} (K : kX p s m args meth c "LockTable" prog_1_method_37_code 3 none A g (kty cI cJ cZ)) (xst : Nat → Int32) (xse : Nat → Int32) (xre : Nat → Int32) (xgr : Nat → Int32) (ltm : Nat → Int32) (low : Nat → Int32) (lta : Nat → Int32) (llo : Nat → Int64) (lhi : Nat → Int64) (lmo : Nat → Int32) (rta : Nat → Int32) (ron : Nat → Int32) (rlo : Nat → Int64) (rhi : Nat → Int64) (rmo : Nat → Int32) (rin : Nat → Int32) (res : Nat → Int32) (rsi : Nat → Int32) (rli : Nat → Int32) (rar : Nat → Int32) (xgc : Int32) (xca : Int32) (xls : Int32) (xtl : Int32) (xno : Int32) (lco : Int32) (rwa : Int32) (rad : Int32) (a1 : Int32) (a2 : Int32) (o_xst : Nat → Int32) (o_rli : Nat → Int32) (o_rwa : Int32) (hF : F_T_takeBack xst rli rwa a1 a2 = some (o_xst, o_rli, o_rwa)) {H : Heap} {locs : List Loc} {ls : Array Slot} (hP : va_P g kcl (wC cI cJ cZ ad xst xse xre xgr ltm low lta llo lhi lmo rta ron rlo rhi rmo rin res rsi rli rar xgc xca xls xtl xno lco rwa rad rest) H) (hD : va_D A (wC cI cJ cZ ad xst xse xre xgr ltm low lta llo lhi lmo rta ron rlo rhi rmo rin res rsi rli rar xgc xca xls xtl xno lco rwa rad rest)) (hS : va_S A s.heap H locs) (hl : lv_has ls 3 [(0, .ref (ad 0)), (1, .int a1), (2, .int a2)]) : W p l e ({ frames := 1, cells := 0, slots := 0, locals := 23 }) s m args below meth c H locs 0 0 (MQ below (kQv g (kty cI cJ cZ) (wC cI cJ cZ ad o_xst xse xre xgr ltm low lta llo lhi lmo rta ron rlo rhi rmo rin res rsi o_rli rar xgc xca xls xtl xno lco o_rwa rad rest) A) args s 0 0 A) (F0 m 0 ls []) := by
  obtain ⟨hx, hb, hr, hml, hown, hts, hlocks, hK, hA, hE⟩ := id K
  unfold F_T_takeBack at hF
  refine lv_aload_n hx hb d_T_takeBack_0 rfl (lv_at hl 0 rfl) ?_
  refine va_get (D := g) (ci := 2) (v := .ref (ad 2)) (C := kR2) (T := kT2) (N := 11) hx hb hts kw2 hown hK hP 0 rfl rfl 3 (by decide) (hts _ wm_159) (fun _ h9 => h9) rfl d_T_takeBack_1 ?_
  refine lv_iload_n hx hb d_T_takeBack_4 rfl (lv_at hl 1 rfl) ?_
  obtain ⟨rli_1, rwa_2, hG, hF⟩ := ob2_inv hF
  refine kcv K hP hD hS (c_R_leave l g cI cJ cZ ad xst xse xre xgr ltm low lta llo lhi lmo rta ron rlo rhi rmo rin res rsi rli rar xgc xca xls xtl xno lco rwa rad rest a1 rli_1 rwa_2 hG) wm_397 wm_394 wm_395 wm_396 wm_49 hd_R_leave rfl rfl ⟨Nat.le_of_ble_eq_true rfl, Nat.le_of_ble_eq_true rfl⟩ ⟨Nat.zero_le _, Nat.zero_le _⟩ 1 2 rfl rfl rfl hl.1 (rest := []) rfl (Nat.le_of_ble_eq_true rfl) d_T_takeBack_5 (fun H locs hP hD hS => ?_)
  refine lv_aload_n hx hb d_T_takeBack_8 rfl (lv_at hl 0 rfl) ?_
  refine va_get (D := g) (ci := 2) (v := .ref (ad 3)) (C := kR2) (T := kT2) (N := 11) hx hb hts kw2 hown hK hP 0 rfl rfl 0 (by decide) (hts _ wm_156) (fun _ h9 => h9) rfl d_T_takeBack_9 ?_
  refine lv_iload_n hx hb d_T_takeBack_12 rfl (lv_at hl 1 rfl) ?_
  refine lv_iload_n hx hb d_T_takeBack_13 rfl (lv_at hl 2 rfl) ?_
  obtain ⟨hg_3, hF⟩ := gd_inv hF
  refine va_iast hx hb hK hP hD hS 3 0 rfl rfl hg_3 d_T_takeBack_14 (fun H locs hP hD hS => ?_)
  have hP : va_P g kcl (wC cI cJ cZ ad (upd xst a1.toNatClampNeg a2) xse xre xgr ltm low lta llo lhi lmo rta ron rlo rhi rmo rin res rsi rli_1 rar xgc xca xls xtl xno lco rwa_2 rad rest) H := hP
  have hD : va_D A (wC cI cJ cZ ad (upd xst a1.toNatClampNeg a2) xse xre xgr ltm low lta llo lhi lmo rta ron rlo rhi rmo rin res rsi rli_1 rar xgc xca xls xtl xno lco rwa_2 rad rest) := hD
  cases hF
  exact krv K hP hD hS d_T_takeBack_15
theorem c_T_takeBack (l : Launch) (g : va_G) (cI cJ cZ : ClassId) (ad : Nat → Nat) (xst : Nat → Int32) (xse : Nat → Int32) (xre : Nat → Int32) (xgr : Nat → Int32) (ltm : Nat → Int32) (low : Nat → Int32) (lta : Nat → Int32) (llo : Nat → Int64) (lhi : Nat → Int64) (lmo : Nat → Int32) (rta : Nat → Int32) (ron : Nat → Int32) (rlo : Nat → Int64) (rhi : Nat → Int64) (rmo : Nat → Int32) (rin : Nat → Int32) (res : Nat → Int32) (rsi : Nat → Int32) (rli : Nat → Int32) (rar : Nat → Int32) (xgc : Int32) (xca : Int32) (xls : Int32) (xtl : Int32) (xno : Int32) (lco : Int32) (rwa : Int32) (rad : Int32) (rest : va_W) (a1 : Int32) (a2 : Int32) (o_xst : Nat → Int32) (o_rli : Nat → Int32) (o_rwa : Int32) (hF : F_T_takeBack xst rli rwa a1 a2 = some (o_xst, o_rli, o_rwa)) : Cv l y_T_takeBack prog_1_method_37_code 3 ({ frames := 1, cells := 0, slots := 0, locals := 23 }) [.ref (ad 0), .int a1, .int a2] g (kty cI cJ cZ) (wC cI cJ cZ ad xst xse xre xgr ltm low lta llo lhi lmo rta ron rlo rhi rmo rin res rsi rli rar xgc xca xls xtl xno lco rwa rad rest) (wC cI cJ cZ ad o_xst xse xre xgr ltm low lta llo lhi lmo rta ron rlo rhi rmo rin res rsi o_rli rar xgc xca xls xtl xno lco o_rwa rad rest) :=
  Cv.of (by decide) (Nat.le_of_ble_eq_true rfl) (fun p e s m below meth c A ls K hP hD hS hl => t_T_takeBack K xst xse xre xgr ltm low lta llo lhi lmo rta ron rlo rhi rmo rin res rsi rli rar xgc xca xls xtl xno lco rwa rad a1 a2 o_xst o_rli o_rwa hF hP hD hS hl)
def F_T_lookAtAll_L27 (rta : Nat → Int32) (ron : Nat → Int32) (rlo : Nat → Int64) (rhi : Nat → Int64) (rmo : Nat → Int32) (res : Nat → Int32) (xca : Int32) (v2 : Int32) : Nat → (Nat → Int32) → (Nat → Int32) → (Nat → Int32) → (Nat → Int32) → (Nat → Int32) → (Nat → Int64) → (Nat → Int64) → (Nat → Int32) → (Nat → Int32) → Int32 → Int32 → Int32 → Int32 → Int32 → Int32 → Option ((Nat → Int32) × (Nat → Int32) × (Nat → Int32) × (Nat → Int32) × (Nat → Int32) × (Nat → Int64) × (Nat → Int64) × (Nat → Int32) × (Nat → Int32) × Int32 × Int32 × Int32 × Int32)
  | 0, _, _, _, _, _, _, _, _, _, _, _, _, _, _, _ => none
  | n + 1, xst, xgr, ltm, low, lta, llo, lhi, lmo, rli, xgc, lco, rwa, v1, v3, v4 => if v4 ≤ 0 then some (xst, xgr, ltm, low, lta, llo, lhi, lmo, rli, xgc, lco, rwa, v1) else if rwa ≤ v3 then some (xst, xgr, ltm, low, lta, llo, lhi, lmo, rli, xgc, lco, rwa, v1) else gd (v3 < 0 ∨ 8 ≤ v3.toNatClampNeg) (ob1 (F_T_blockers ltm low lta llo lhi lmo rta ron rlo rhi rmo rli lco rwa (rli v3.toNatClampNeg)) (fun r_6 => if r_6 = 0 then ob13 (F_T_grant xst xgr ltm low lta llo lhi lmo rta ron rlo rhi rmo res rli xgc xca lco rwa (rli v3.toNatClampNeg)) (fun r_8 xst_9 xgr_10 ltm_11 low_12 lta_13 llo_14 lhi_15 lmo_16 rli_17 xgc_18 lco_19 rwa_20 => if r_8 = 0 then F_T_lookAtAll_L27 rta ron rlo rhi rmo res xca v2 n xst_9 xgr_10 ltm_11 low_12 lta_13 llo_14 lhi_15 lmo_16 rli_17 xgc_18 lco_19 rwa_20 v1 v3 (v4 + (-1)) else F_T_lookAtAll_L27 rta ron rlo rhi rmo res xca v2 n xst_9 xgr_10 ltm_11 low_12 lta_13 llo_14 lhi_15 lmo_16 rli_17 xgc_18 lco_19 rwa_20 1 v3 (v4 + (-1))) else F_T_lookAtAll_L27 rta ron rlo rhi rmo res xca v2 n xst xgr ltm low lta llo lhi lmo rli xgc lco rwa v1 (v3 + 1) (v4 + (-1))))
def F_T_lookAtAll_L4 (rta : Nat → Int32) (ron : Nat → Int32) (rlo : Nat → Int64) (rhi : Nat → Int64) (rmo : Nat → Int32) (res : Nat → Int32) (xca : Int32) : Nat → (Nat → Int32) → (Nat → Int32) → (Nat → Int32) → (Nat → Int32) → (Nat → Int32) → (Nat → Int64) → (Nat → Int64) → (Nat → Int32) → (Nat → Int32) → Int32 → Int32 → Int32 → Int32 → Int32 → Option ((Nat → Int32) × (Nat → Int32) × (Nat → Int32) × (Nat → Int32) × (Nat → Int32) × (Nat → Int64) × (Nat → Int64) × (Nat → Int32) × (Nat → Int32) × Int32 × Int32 × Int32)
  | 0, _, _, _, _, _, _, _, _, _, _, _, _, _, _ => none
  | n + 1, xst, xgr, ltm, low, lta, llo, lhi, lmo, rli, xgc, lco, rwa, v1, v2 => if v1 = 0 then some (xst, xgr, ltm, low, lta, llo, lhi, lmo, rli, xgc, lco, rwa) else if 8 < v2 then some (xst, xgr, ltm, low, lta, llo, lhi, lmo, rli, xgc, lco, rwa) else ob13 (F_T_lookAtAll_L27 rta ron rlo rhi rmo res xca v2 fu xst xgr ltm low lta llo lhi lmo rli xgc lco rwa 0 0 rwa) (fun xst_22 xgr_23 ltm_24 low_25 lta_26 llo_27 lhi_28 lmo_29 rli_30 xgc_31 lco_32 rwa_33 v1_34 => F_T_lookAtAll_L4 rta ron rlo rhi rmo res xca n xst_22 xgr_23 ltm_24 low_25 lta_26 llo_27 lhi_28 lmo_29 rli_30 xgc_31 lco_32 rwa_33 v1_34 (v2 + 1))
def F_T_lookAtAll (xst : Nat → Int32) (xgr : Nat → Int32) (ltm : Nat → Int32) (low : Nat → Int32) (lta : Nat → Int32) (llo : Nat → Int64) (lhi : Nat → Int64) (lmo : Nat → Int32) (rta : Nat → Int32) (ron : Nat → Int32) (rlo : Nat → Int64) (rhi : Nat → Int64) (rmo : Nat → Int32) (res : Nat → Int32) (rli : Nat → Int32) (xgc : Int32) (xca : Int32) (lco : Int32) (rwa : Int32) : Option ((Nat → Int32) × (Nat → Int32) × (Nat → Int32) × (Nat → Int32) × (Nat → Int32) × (Nat → Int64) × (Nat → Int64) × (Nat → Int32) × (Nat → Int32) × Int32 × Int32 × Int32) :=
  ob12 (F_T_lookAtAll_L4 rta ron rlo rhi rmo res xca fu xst xgr ltm low lta llo lhi lmo rli xgc lco rwa 1 0) (fun xst_35 xgr_36 ltm_37 low_38 lta_39 llo_40 lhi_41 lmo_42 rli_43 xgc_44 lco_45 rwa_46 => some (xst_35, xgr_36, ltm_37, low_38, lta_39, llo_40, lhi_41, lmo_42, rli_43, xgc_44, lco_45, rwa_46))
set_option maxHeartbeats 4000000 in
set_option maxRecDepth 100000 in
theorem t_T_lookAtAll_L27 {p : Program} {l : Launch} {e : Env} {s : State} {m : MethodId} {args : Array Value} {below : List Frame} {meth : Method} {c : Code} {A : Nat → Prop} {g : va_G} {cI cJ cZ : ClassId} {ad : Nat → Nat} {rest : va_W} (K : kX p s m args meth c "LockTable" prog_1_method_38_code 6 none A g (kty cI cJ cZ)) {Q : State → Prop} (xse : Nat → Int32) (xre : Nat → Int32) (rta : Nat → Int32) (ron : Nat → Int32) (rlo : Nat → Int64) (rhi : Nat → Int64) (rmo : Nat → Int32) (rin : Nat → Int32) (res : Nat → Int32) (rsi : Nat → Int32) (rar : Nat → Int32) (xca : Int32) (xls : Int32) (xtl : Int32) (xno : Int32) (rad : Int32) (v2 : Int32) : ∀ (n : Nat) (xst : Nat → Int32) (xgr : Nat → Int32) (ltm : Nat → Int32) (low : Nat → Int32) (lta : Nat → Int32) (llo : Nat → Int64) (lhi : Nat → Int64) (lmo : Nat → Int32) (rli : Nat → Int32) (xgc : Int32) (lco : Int32) (rwa : Int32) (v1 : Int32) (v3 : Int32) (v4 : Int32) (o_xst : Nat → Int32) (o_xgr : Nat → Int32) (o_ltm : Nat → Int32) (o_low : Nat → Int32) (o_lta : Nat → Int32) (o_llo : Nat → Int64) (o_lhi : Nat → Int64) (o_lmo : Nat → Int32) (o_rli : Nat → Int32) (o_xgc : Int32) (o_lco : Int32) (o_rwa : Int32) (o_v1 : Int32) (H : Heap) (locs : List Loc) (ls : Array Slot), F_T_lookAtAll_L27 rta ron rlo rhi rmo res xca v2 n xst xgr ltm low lta llo lhi lmo rli xgc lco rwa v1 v3 v4 = some (o_xst, o_xgr, o_ltm, o_low, o_lta, o_llo, o_lhi, o_lmo, o_rli, o_xgc, o_lco, o_rwa, o_v1) → va_P g kcl (wC cI cJ cZ ad xst xse xre xgr ltm low lta llo lhi lmo rta ron rlo rhi rmo rin res rsi rli rar xgc xca xls xtl xno lco rwa rad rest) H → va_D A (wC cI cJ cZ ad xst xse xre xgr ltm low lta llo lhi lmo rta ron rlo rhi rmo rin res rsi rli rar xgc xca xls xtl xno lco rwa rad rest) → va_S A s.heap H locs → lv_has ls 6 [(0, .ref (ad 0)), (1, .int v1), (2, .int v2), (3, .int v3), (4, .int v4)] → (∀ (H : Heap) (locs : List Loc) (ls : Array Slot), va_P g kcl (wC cI cJ cZ ad o_xst xse xre o_xgr o_ltm o_low o_lta o_llo o_lhi o_lmo rta ron rlo rhi rmo rin res rsi o_rli rar o_xgc xca xls xtl xno o_lco o_rwa rad rest) H → va_D A (wC cI cJ cZ ad o_xst xse xre o_xgr o_ltm o_low o_lta o_llo o_lhi o_lmo rta ron rlo rhi rmo rin res rsi o_rli rar o_xgc xca xls xtl xno o_lco o_rwa rad rest) → va_S A s.heap H locs → lv_has ls 6 [(0, .ref (ad 0)), (1, .int o_v1), (2, .int v2)] → W p l e ({ frames := 3, cells := 0, slots := 0, locals := 75 }) s m args below meth c H locs 0 0 Q (F0 m 86 ls [])) → W p l e ({ frames := 3, cells := 0, slots := 0, locals := 75 }) s m args below meth c H locs 0 0 Q (F0 m 27 ls []) := by
  obtain ⟨hx, hb, hr, hml, hown, hts, hlocks, hK, hA, hE⟩ := id K
  intro n
  induction n with
  | zero =>
    intro xst xgr ltm low lta llo lhi lmo rli xgc lco rwa v1 v3 v4 o_xst o_xgr o_ltm o_low o_lta o_llo o_lhi o_lmo o_rli o_xgc o_lco o_rwa o_v1 H locs ls hF
    rw [F_T_lookAtAll_L27] at hF
    cases hF
  | succ n ih =>
    intro xst xgr ltm low lta llo lhi lmo rli xgc lco rwa v1 v3 v4 o_xst o_xgr o_ltm o_low o_lta o_llo o_lhi o_lmo o_rli o_xgc o_lco o_rwa o_v1 H locs ls hF hP hD hS hl hQ
    rw [F_T_lookAtAll_L27] at hF
    refine lv_iload hx hb d_T_lookAtAll_27 (lv_at hl 4 rfl) ?_
    refine lv_if_le (tgt := 86) hx hb d_T_lookAtAll_29 (by decide) (fun hc_3 => ?_) (fun hc_3 => ?_)
    · have hF := it_t hF hc_3
      cases hF
      exact hQ H locs ls hP hD hS (lv_sub hl [0, 1, 2] rfl)
    · have hF := it_f hF hc_3
      refine lv_iload_n hx hb d_T_lookAtAll_32 rfl (lv_at hl 3 rfl) ?_
      refine lv_aload_n hx hb d_T_lookAtAll_33 rfl (lv_at hl 0 rfl) ?_
      refine va_get (D := g) (ci := 2) (v := .ref (ad 2)) (C := kR2) (T := kT2) (N := 11) hx hb hts kw2 hown hK hP 0 rfl rfl 3 (by decide) (hts _ wm_159) (fun _ h9 => h9) rfl d_T_lookAtAll_34 ?_
      refine va_get (D := g) (ci := 1) (v := .int rwa) (C := kR1) (T := kT1) (N := 12) hx hb hts kw1 hown hK hP 2 rfl rfl 9 (by decide) (hts _ wm_127) (fun _ h9 => h9) rfl d_T_lookAtAll_37 ?_
      refine lv_icmp_ge (tgt := 86) hx hb d_T_lookAtAll_40 (by decide) (fun hc_4 => ?_) (fun hc_4 => ?_)
      · have hF := it_t hF hc_4
        cases hF
        exact hQ H locs ls hP hD hS (lv_sub hl [0, 1, 2] rfl)
      · have hF := it_f hF hc_4
        refine lv_aload_n hx hb d_T_lookAtAll_43 rfl (lv_at hl 0 rfl) ?_
        refine va_get (D := g) (ci := 2) (v := .ref (ad 2)) (C := kR2) (T := kT2) (N := 11) hx hb hts kw2 hown hK hP 0 rfl rfl 3 (by decide) (hts _ wm_159) (fun _ h9 => h9) rfl d_T_lookAtAll_44 ?_
        refine va_get (D := g) (ci := 1) (v := .ref (ad 21)) (C := kR1) (T := kT1) (N := 12) hx hb hts kw1 hown hK hP 2 rfl rfl 8 (by decide) (hts _ wm_125) (fun _ h9 => h9) rfl d_T_lookAtAll_47 ?_
        refine lv_iload_n hx hb d_T_lookAtAll_50 rfl (lv_at hl 3 rfl) ?_
        obtain ⟨hg_5, hF⟩ := gd_inv hF
        refine va_iald hx hb hK hP 21 0 rfl rfl hg_5 d_T_lookAtAll_51 ?_
        refine lv_istore (lv' := [(5, .int (rli v3.toNatClampNeg)), (0, .ref (ad 0)), (1, .int v1), (2, .int v2), (3, .int v3), (4, .int v4)]) hx hb d_T_lookAtAll_52 hl (by decide) rfl (fun ls hl => ?_)
        refine lv_aload_n hx hb d_T_lookAtAll_54 rfl (lv_at hl 1 rfl) ?_
        refine lv_iload hx hb d_T_lookAtAll_55 (lv_at hl 0 rfl) ?_
        obtain ⟨r_6, hG, hF⟩ := ob1_inv hF
        refine kci K hP hD hS (c_T_blockers l g cI cJ cZ ad xst xse xre xgr ltm low lta llo lhi lmo rta ron rlo rhi rmo rin res rsi rli rar xgc xca xls xtl xno lco rwa rad rest (rli v3.toNatClampNeg) r_6 hG) wm_368 wm_365 wm_367 wm_6 wm_46 hd_T_blockers rfl rfl ⟨Nat.le_of_ble_eq_true rfl, Nat.le_of_ble_eq_true rfl⟩ ⟨Nat.zero_le _, Nat.zero_le _⟩ 2 0 rfl rfl rfl hl.1 (rest := []) rfl (Nat.le_of_ble_eq_true rfl) d_T_lookAtAll_57 (fun H locs hP hD hS => ?_)
        refine lv_if_eq (tgt := 69) hx hb d_T_lookAtAll_60 (by decide) (fun hc_7 => ?_) (fun hc_7 => ?_)
        · have hF := it_t hF hc_7
          refine lv_aload_n hx hb d_T_lookAtAll_69 rfl (lv_at hl 1 rfl) ?_
          refine lv_iload hx hb d_T_lookAtAll_70 (lv_at hl 0 rfl) ?_
          obtain ⟨r_8, xst_9, xgr_10, ltm_11, low_12, lta_13, llo_14, lhi_15, lmo_16, rli_17, xgc_18, lco_19, rwa_20, hG, hF⟩ := ob13_inv hF
          refine kci K hP hD hS (c_T_grant l g cI cJ cZ ad xst xse xre xgr ltm low lta llo lhi lmo rta ron rlo rhi rmo rin res rsi rli rar xgc xca xls xtl xno lco rwa rad rest (rli v3.toNatClampNeg) r_8 xst_9 xgr_10 ltm_11 low_12 lta_13 llo_14 lhi_15 lmo_16 rli_17 xgc_18 lco_19 rwa_20 hG) wm_393 wm_390 wm_392 wm_8 wm_46 hd_T_grant rfl rfl ⟨Nat.le_of_ble_eq_true rfl, Nat.le_of_ble_eq_true rfl⟩ ⟨Nat.zero_le _, Nat.zero_le _⟩ 2 0 rfl rfl rfl hl.1 (rest := []) rfl (Nat.le_of_ble_eq_true rfl) d_T_lookAtAll_72 (fun H locs hP hD hS => ?_)
          refine lv_if_eq (tgt := 80) hx hb d_T_lookAtAll_75 (by decide) (fun hc_21 => ?_) (fun hc_21 => ?_)
          · have hF := it_t hF hc_21
            refine lv_iinc (v := v4 + (-1)) (lv' := [(4, .int (v4 + (-1))), (5, .int (rli v3.toNatClampNeg)), (0, .ref (ad 0)), (1, .int v1), (2, .int v2), (3, .int v3)]) hx hb d_T_lookAtAll_80 hl (k := 5) rfl rfl (by decide) rfl (fun ls hl => ?_)
            refine lv_goto (tgt := 27) hx hb d_T_lookAtAll_83 (by decide) ?_
            exact ih _ _ _ _ _ _ _ _ _ _ _ _ _ _ _ _ _ _ _ _ _ _ _ _ _ _ _ _ H locs ls hF hP hD hS (lv_sub hl [2, 3, 4, 5, 0] rfl) hQ
          · have hF := it_f hF hc_21
            refine lv_iconst (v := 1) hx hb d_T_lookAtAll_78 (by decide) ?_
            refine lv_istore_n (lv' := [(1, .int 1), (5, .int (rli v3.toNatClampNeg)), (0, .ref (ad 0)), (2, .int v2), (3, .int v3), (4, .int v4)]) hx hb d_T_lookAtAll_79 rfl hl (by decide) rfl (fun ls hl => ?_)
            refine lv_iinc (v := v4 + (-1)) (lv' := [(4, .int (v4 + (-1))), (1, .int 1), (5, .int (rli v3.toNatClampNeg)), (0, .ref (ad 0)), (2, .int v2), (3, .int v3)]) hx hb d_T_lookAtAll_80 hl (k := 5) rfl rfl (by decide) rfl (fun ls hl => ?_)
            refine lv_goto (tgt := 27) hx hb d_T_lookAtAll_83 (by decide) ?_
            exact ih _ _ _ _ _ _ _ _ _ _ _ _ _ _ _ _ _ _ _ _ _ _ _ _ _ _ _ _ H locs ls hF hP hD hS (lv_sub hl [3, 1, 4, 5, 0] rfl) hQ
        · have hF := it_f hF hc_7
          refine lv_iinc (v := v3 + 1) (lv' := [(3, .int (v3 + 1)), (5, .int (rli v3.toNatClampNeg)), (0, .ref (ad 0)), (1, .int v1), (2, .int v2), (4, .int v4)]) hx hb d_T_lookAtAll_63 hl (k := 4) rfl rfl (by decide) rfl (fun ls hl => ?_)
          refine lv_goto (tgt := 80) hx hb d_T_lookAtAll_66 (by decide) ?_
          refine lv_iinc (v := v4 + (-1)) (lv' := [(4, .int (v4 + (-1))), (3, .int (v3 + 1)), (5, .int (rli v3.toNatClampNeg)), (0, .ref (ad 0)), (1, .int v1), (2, .int v2)]) hx hb d_T_lookAtAll_80 hl (k := 5) rfl rfl (by decide) rfl (fun ls hl => ?_)
          refine lv_goto (tgt := 27) hx hb d_T_lookAtAll_83 (by decide) ?_
          exact ih _ _ _ _ _ _ _ _ _ _ _ _ _ _ _ _ _ _ _ _ _ _ _ _ _ _ _ _ H locs ls hF hP hD hS (lv_sub hl [3, 4, 5, 1, 0] rfl) hQ
set_option maxHeartbeats 4000000 in
set_option maxRecDepth 100000 in
theorem t_T_lookAtAll_L4 {p : Program} {l : Launch} {e : Env} {s : State} {m : MethodId} {args : Array Value} {below : List Frame} {meth : Method} {c : Code} {A : Nat → Prop} {g : va_G} {cI cJ cZ : ClassId} {ad : Nat → Nat} {rest : va_W} (K : kX p s m args meth c "LockTable" prog_1_method_38_code 6 none A g (kty cI cJ cZ)) {Q : State → Prop} (xse : Nat → Int32) (xre : Nat → Int32) (rta : Nat → Int32) (ron : Nat → Int32) (rlo : Nat → Int64) (rhi : Nat → Int64) (rmo : Nat → Int32) (rin : Nat → Int32) (res : Nat → Int32) (rsi : Nat → Int32) (rar : Nat → Int32) (xca : Int32) (xls : Int32) (xtl : Int32) (xno : Int32) (rad : Int32) : ∀ (n : Nat) (xst : Nat → Int32) (xgr : Nat → Int32) (ltm : Nat → Int32) (low : Nat → Int32) (lta : Nat → Int32) (llo : Nat → Int64) (lhi : Nat → Int64) (lmo : Nat → Int32) (rli : Nat → Int32) (xgc : Int32) (lco : Int32) (rwa : Int32) (v1 : Int32) (v2 : Int32) (o_xst : Nat → Int32) (o_xgr : Nat → Int32) (o_ltm : Nat → Int32) (o_low : Nat → Int32) (o_lta : Nat → Int32) (o_llo : Nat → Int64) (o_lhi : Nat → Int64) (o_lmo : Nat → Int32) (o_rli : Nat → Int32) (o_xgc : Int32) (o_lco : Int32) (o_rwa : Int32) (H : Heap) (locs : List Loc) (ls : Array Slot), F_T_lookAtAll_L4 rta ron rlo rhi rmo res xca n xst xgr ltm low lta llo lhi lmo rli xgc lco rwa v1 v2 = some (o_xst, o_xgr, o_ltm, o_low, o_lta, o_llo, o_lhi, o_lmo, o_rli, o_xgc, o_lco, o_rwa) → va_P g kcl (wC cI cJ cZ ad xst xse xre xgr ltm low lta llo lhi lmo rta ron rlo rhi rmo rin res rsi rli rar xgc xca xls xtl xno lco rwa rad rest) H → va_D A (wC cI cJ cZ ad xst xse xre xgr ltm low lta llo lhi lmo rta ron rlo rhi rmo rin res rsi rli rar xgc xca xls xtl xno lco rwa rad rest) → va_S A s.heap H locs → lv_has ls 6 [(0, .ref (ad 0)), (1, .int v1), (2, .int v2)] → (∀ (H : Heap) (locs : List Loc) (ls : Array Slot), va_P g kcl (wC cI cJ cZ ad o_xst xse xre o_xgr o_ltm o_low o_lta o_llo o_lhi o_lmo rta ron rlo rhi rmo rin res rsi o_rli rar o_xgc xca xls xtl xno o_lco o_rwa rad rest) H → va_D A (wC cI cJ cZ ad o_xst xse xre o_xgr o_ltm o_low o_lta o_llo o_lhi o_lmo rta ron rlo rhi rmo rin res rsi o_rli rar o_xgc xca xls xtl xno o_lco o_rwa rad rest) → va_S A s.heap H locs → lv_has ls 6 [] → W p l e ({ frames := 3, cells := 0, slots := 0, locals := 75 }) s m args below meth c H locs 0 0 Q (F0 m 92 ls [])) → W p l e ({ frames := 3, cells := 0, slots := 0, locals := 75 }) s m args below meth c H locs 0 0 Q (F0 m 4 ls []) := by
  obtain ⟨hx, hb, hr, hml, hown, hts, hlocks, hK, hA, hE⟩ := id K
  intro n
  induction n with
  | zero =>
    intro xst xgr ltm low lta llo lhi lmo rli xgc lco rwa v1 v2 o_xst o_xgr o_ltm o_low o_lta o_llo o_lhi o_lmo o_rli o_xgc o_lco o_rwa H locs ls hF
    rw [F_T_lookAtAll_L4] at hF
    cases hF
  | succ n ih =>
    intro xst xgr ltm low lta llo lhi lmo rli xgc lco rwa v1 v2 o_xst o_xgr o_ltm o_low o_lta o_llo o_lhi o_lmo o_rli o_xgc o_lco o_rwa H locs ls hF hP hD hS hl hQ
    rw [F_T_lookAtAll_L4] at hF
    refine lv_iload_n hx hb d_T_lookAtAll_4 rfl (lv_at hl 1 rfl) ?_
    refine lv_if_eq (tgt := 92) hx hb d_T_lookAtAll_5 (by decide) (fun hc_1 => ?_) (fun hc_1 => ?_)
    · have hF := it_t hF hc_1
      cases hF
      exact hQ H locs ls hP hD hS (lv_sub hl [] rfl)
    · have hF := it_f hF hc_1
      refine lv_iload_n hx hb d_T_lookAtAll_8 rfl (lv_at hl 2 rfl) ?_
      refine lv_bipush (v := 8) hx hb d_T_lookAtAll_9 (by decide) ?_
      refine lv_icmp_gt (tgt := 92) hx hb d_T_lookAtAll_11 (by decide) (fun hc_2 => ?_) (fun hc_2 => ?_)
      · have hF := it_t hF hc_2
        cases hF
        exact hQ H locs ls hP hD hS (lv_sub hl [] rfl)
      · have hF := it_f hF hc_2
        refine lv_iconst (v := 0) hx hb d_T_lookAtAll_14 (by decide) ?_
        refine lv_istore_n (lv' := [(1, .int 0), (0, .ref (ad 0)), (2, .int v2)]) hx hb d_T_lookAtAll_15 rfl hl (by decide) rfl (fun ls hl => ?_)
        refine lv_iconst (v := 0) hx hb d_T_lookAtAll_16 (by decide) ?_
        refine lv_istore_n (lv' := [(3, .int 0), (1, .int 0), (0, .ref (ad 0)), (2, .int v2)]) hx hb d_T_lookAtAll_17 rfl hl (by decide) rfl (fun ls hl => ?_)
        refine lv_aload_n hx hb d_T_lookAtAll_18 rfl (lv_at hl 2 rfl) ?_
        refine va_get (D := g) (ci := 2) (v := .ref (ad 2)) (C := kR2) (T := kT2) (N := 11) hx hb hts kw2 hown hK hP 0 rfl rfl 3 (by decide) (hts _ wm_159) (fun _ h9 => h9) rfl d_T_lookAtAll_19 ?_
        refine va_get (D := g) (ci := 1) (v := .int rwa) (C := kR1) (T := kT1) (N := 12) hx hb hts kw1 hown hK hP 2 rfl rfl 9 (by decide) (hts _ wm_127) (fun _ h9 => h9) rfl d_T_lookAtAll_22 ?_
        refine lv_istore (lv' := [(4, .int rwa), (3, .int 0), (1, .int 0), (0, .ref (ad 0)), (2, .int v2)]) hx hb d_T_lookAtAll_25 hl (by decide) rfl (fun ls hl => ?_)
        obtain ⟨xst_22, xgr_23, ltm_24, low_25, lta_26, llo_27, lhi_28, lmo_29, rli_30, xgc_31, lco_32, rwa_33, v1_34, hG, hF⟩ := ob13_inv hF
        refine t_T_lookAtAll_L27 K xse xre rta ron rlo rhi rmo rin res rsi rar xca xls xtl xno rad v2 fu _ _ _ _ _ _ _ _ _ _ _ _ _ _ _ _ _ _ _ _ _ _ _ _ _ _ _ _ H locs ls hG hP hD hS (lv_sub hl [3, 2, 4, 1, 0] rfl) (fun H locs ls hP hD hS hl => ?_)
        refine lv_iinc (v := v2 + 1) (lv' := [(2, .int (v2 + 1)), (0, .ref (ad 0)), (1, .int v1_34)]) hx hb d_T_lookAtAll_86 hl (k := 2) rfl rfl (by decide) rfl (fun ls hl => ?_)
        refine lv_goto (tgt := 4) hx hb d_T_lookAtAll_89 (by decide) ?_
        exact ih _ _ _ _ _ _ _ _ _ _ _ _ _ _ _ _ _ _ _ _ _ _ _ _ _ _ H locs ls hF hP hD hS (lv_sub hl [1, 2, 0] rfl) hQ
set_option maxHeartbeats 4000000 in
set_option maxRecDepth 100000 in
theorem t_T_lookAtAll {p : Program} {l : Launch} {e : Env} {s : State} {m : MethodId} {args : Array Value} {below : List Frame} {meth : Method} {c : Code} {A : Nat → Prop} {g : va_G} {cI cJ cZ : ClassId} {ad : Nat → Nat} {rest : va_W} (K : kX p s m args meth c "LockTable" prog_1_method_38_code 6 none A g (kty cI cJ cZ)) (xst : Nat → Int32) (xse : Nat → Int32) (xre : Nat → Int32) (xgr : Nat → Int32) (ltm : Nat → Int32) (low : Nat → Int32) (lta : Nat → Int32) (llo : Nat → Int64) (lhi : Nat → Int64) (lmo : Nat → Int32) (rta : Nat → Int32) (ron : Nat → Int32) (rlo : Nat → Int64) (rhi : Nat → Int64) (rmo : Nat → Int32) (rin : Nat → Int32) (res : Nat → Int32) (rsi : Nat → Int32) (rli : Nat → Int32) (rar : Nat → Int32) (xgc : Int32) (xca : Int32) (xls : Int32) (xtl : Int32) (xno : Int32) (lco : Int32) (rwa : Int32) (rad : Int32)  (o_xst : Nat → Int32) (o_xgr : Nat → Int32) (o_ltm : Nat → Int32) (o_low : Nat → Int32) (o_lta : Nat → Int32) (o_llo : Nat → Int64) (o_lhi : Nat → Int64) (o_lmo : Nat → Int32) (o_rli : Nat → Int32) (o_xgc : Int32) (o_lco : Int32) (o_rwa : Int32) (hF : F_T_lookAtAll xst xgr ltm low lta llo lhi lmo rta ron rlo rhi rmo res rli xgc xca lco rwa = some (o_xst, o_xgr, o_ltm, o_low, o_lta, o_llo, o_lhi, o_lmo, o_rli, o_xgc, o_lco, o_rwa)) {H : Heap} {locs : List Loc} {ls : Array Slot} (hP : va_P g kcl (wC cI cJ cZ ad xst xse xre xgr ltm low lta llo lhi lmo rta ron rlo rhi rmo rin res rsi rli rar xgc xca xls xtl xno lco rwa rad rest) H) (hD : va_D A (wC cI cJ cZ ad xst xse xre xgr ltm low lta llo lhi lmo rta ron rlo rhi rmo rin res rsi rli rar xgc xca xls xtl xno lco rwa rad rest)) (hS : va_S A s.heap H locs) (hl : lv_has ls 6 [(0, .ref (ad 0))]) : W p l e ({ frames := 3, cells := 0, slots := 0, locals := 75 }) s m args below meth c H locs 0 0 (MQ below (kQv g (kty cI cJ cZ) (wC cI cJ cZ ad o_xst xse xre o_xgr o_ltm o_low o_lta o_llo o_lhi o_lmo rta ron rlo rhi rmo rin res rsi o_rli rar o_xgc xca xls xtl xno o_lco o_rwa rad rest) A) args s 0 0 A) (F0 m 0 ls []) := by
  obtain ⟨hx, hb, hr, hml, hown, hts, hlocks, hK, hA, hE⟩ := id K
  unfold F_T_lookAtAll at hF
  refine lv_iconst (v := 1) hx hb d_T_lookAtAll_0 (by decide) ?_
  refine lv_istore_n (lv' := [(1, .int 1), (0, .ref (ad 0))]) hx hb d_T_lookAtAll_1 rfl hl (by decide) rfl (fun ls hl => ?_)
  refine lv_iconst (v := 0) hx hb d_T_lookAtAll_2 (by decide) ?_
  refine lv_istore_n (lv' := [(2, .int 0), (1, .int 1), (0, .ref (ad 0))]) hx hb d_T_lookAtAll_3 rfl hl (by decide) rfl (fun ls hl => ?_)
  obtain ⟨xst_35, xgr_36, ltm_37, low_38, lta_39, llo_40, lhi_41, lmo_42, rli_43, xgc_44, lco_45, rwa_46, hG, hF⟩ := ob12_inv hF
  refine t_T_lookAtAll_L4 K xse xre rta ron rlo rhi rmo rin res rsi rar xca xls xtl xno rad fu _ _ _ _ _ _ _ _ _ _ _ _ _ _ _ _ _ _ _ _ _ _ _ _ _ _ H locs ls hG hP hD hS (lv_sub hl [2, 1, 0] rfl) (fun H locs ls hP hD hS hl => ?_)
  cases hF
  exact krv K hP hD hS d_T_lookAtAll_92
theorem c_T_lookAtAll (l : Launch) (g : va_G) (cI cJ cZ : ClassId) (ad : Nat → Nat) (xst : Nat → Int32) (xse : Nat → Int32) (xre : Nat → Int32) (xgr : Nat → Int32) (ltm : Nat → Int32) (low : Nat → Int32) (lta : Nat → Int32) (llo : Nat → Int64) (lhi : Nat → Int64) (lmo : Nat → Int32) (rta : Nat → Int32) (ron : Nat → Int32) (rlo : Nat → Int64) (rhi : Nat → Int64) (rmo : Nat → Int32) (rin : Nat → Int32) (res : Nat → Int32) (rsi : Nat → Int32) (rli : Nat → Int32) (rar : Nat → Int32) (xgc : Int32) (xca : Int32) (xls : Int32) (xtl : Int32) (xno : Int32) (lco : Int32) (rwa : Int32) (rad : Int32) (rest : va_W)  (o_xst : Nat → Int32) (o_xgr : Nat → Int32) (o_ltm : Nat → Int32) (o_low : Nat → Int32) (o_lta : Nat → Int32) (o_llo : Nat → Int64) (o_lhi : Nat → Int64) (o_lmo : Nat → Int32) (o_rli : Nat → Int32) (o_xgc : Int32) (o_lco : Int32) (o_rwa : Int32) (hF : F_T_lookAtAll xst xgr ltm low lta llo lhi lmo rta ron rlo rhi rmo res rli xgc xca lco rwa = some (o_xst, o_xgr, o_ltm, o_low, o_lta, o_llo, o_lhi, o_lmo, o_rli, o_xgc, o_lco, o_rwa)) : Cv l y_T_lookAtAll prog_1_method_38_code 6 ({ frames := 3, cells := 0, slots := 0, locals := 75 }) [.ref (ad 0)] g (kty cI cJ cZ) (wC cI cJ cZ ad xst xse xre xgr ltm low lta llo lhi lmo rta ron rlo rhi rmo rin res rsi rli rar xgc xca xls xtl xno lco rwa rad rest) (wC cI cJ cZ ad o_xst xse xre o_xgr o_ltm o_low o_lta o_llo o_lhi o_lmo rta ron rlo rhi rmo rin res rsi o_rli rar o_xgc xca xls xtl xno o_lco o_rwa rad rest) :=
  Cv.of (by decide) (Nat.le_of_ble_eq_true rfl) (fun p e s m below meth c A ls K hP hD hS hl => t_T_lookAtAll K xst xse xre xgr ltm low lta llo lhi lmo rta ron rlo rhi rmo rin res rsi rli rar xgc xca xls xtl xno lco rwa rad  o_xst o_xgr o_ltm o_low o_lta o_llo o_lhi o_lmo o_rli o_xgc o_lco o_rwa hF hP hD hS hl)
def F_T_ringOf_L2 (xst : Nat → Int32) (ltm : Nat → Int32) (low : Nat → Int32) (lta : Nat → Int32) (llo : Nat → Int64) (lhi : Nat → Int64) (lmo : Nat → Int32) (rta : Nat → Int32) (ron : Nat → Int32) (rlo : Nat → Int64) (rhi : Nat → Int64) (rmo : Nat → Int32) (rli : Nat → Int32) (lco : Int32) (rwa : Int32) (v1 : Int32) : Nat → (Nat → Int32) → Int32 → Option ((Nat → Int32))
  | 0, _, _ => none
  | n + 1, xre, v2 => if 8 ≤ v2 then some xre else gd (v2 < 0 ∨ 8 ≤ v2.toNatClampNeg) (if (xst v2.toNatClampNeg) = 2 then ob1 (F_T_blockers ltm low lta llo lhi lmo rta ron rlo rhi rmo rli lco rwa v2) (fun r_5 => gd (v2 < 0 ∨ 8 ≤ v2.toNatClampNeg) (F_T_ringOf_L2 xst ltm low lta llo lhi lmo rta ron rlo rhi rmo rli lco rwa v1 n (upd xre v2.toNatClampNeg r_5) (v2 + 1))) else gd (v2 < 0 ∨ 8 ≤ v2.toNatClampNeg) (F_T_ringOf_L2 xst ltm low lta llo lhi lmo rta ron rlo rhi rmo rli lco rwa v1 n (upd xre v2.toNatClampNeg 0) (v2 + 1)))
def F_T_ringOf_L49 (v1 : Int32) (v2 : Int32) : Nat → (Nat → Int32) → Int32 → Option ((Nat → Int32))
  | 0, _, _ => none
  | n + 1, xre, v3 => if 8 ≤ v3 then some xre else gd (v3 < 0 ∨ 8 ≤ v3.toNatClampNeg) (ob1 (F_T_hasBit (xre v3.toNatClampNeg) v2) (fun r_11 => if r_11 = 0 then F_T_ringOf_L49 v1 v2 n xre (v3 + 1) else gd (v3 < 0 ∨ 8 ≤ v3.toNatClampNeg) (gd (v2 < 0 ∨ 8 ≤ v2.toNatClampNeg) (gd (v3 < 0 ∨ 8 ≤ v3.toNatClampNeg) (F_T_ringOf_L49 v1 v2 n (upd xre v3.toNatClampNeg ((xre v3.toNatClampNeg) ||| (xre v2.toNatClampNeg))) (v3 + 1))))))
def F_T_ringOf_L41 (v1 : Int32) : Nat → (Nat → Int32) → Int32 → Option ((Nat → Int32))
  | 0, _, _ => none
  | n + 1, xre, v2 => if 8 ≤ v2 then some xre else ob1 (F_T_ringOf_L49 v1 v2 fu xre 0) (fun xre_16 => F_T_ringOf_L41 v1 n xre_16 (v2 + 1))
def F_T_ringOf_L99 (xre : Nat → Int32) (v1 : Int32) : Nat → Int32 → Int32 → Option (Int32)
  | 0, _, _ => none
  | n + 1, v2, v3 => if 8 ≤ v3 then some v2 else gd (v1 < 0 ∨ 8 ≤ v1.toNatClampNeg) (ob1 (F_T_hasBit (xre v1.toNatClampNeg) v3) (fun r_20 => if r_20 = 0 then F_T_ringOf_L99 xre v1 n v2 (v3 + 1) else gd (v3 < 0 ∨ 8 ≤ v3.toNatClampNeg) (ob1 (F_T_hasBit (xre v3.toNatClampNeg) v1) (fun r_23 => if r_23 = 0 then F_T_ringOf_L99 xre v1 n v2 (v3 + 1) else F_T_ringOf_L99 xre v1 n (v2 ||| (1 <<< (v3 &&& 31))) (v3 + 1)))))
def F_T_ringOf (xst : Nat → Int32) (xre : Nat → Int32) (ltm : Nat → Int32) (low : Nat → Int32) (lta : Nat → Int32) (llo : Nat → Int64) (lhi : Nat → Int64) (lmo : Nat → Int32) (rta : Nat → Int32) (ron : Nat → Int32) (rlo : Nat → Int64) (rhi : Nat → Int64) (rmo : Nat → Int32) (rli : Nat → Int32) (lco : Int32) (rwa : Int32) (a1 : Int32) : Option (Int32 × (Nat → Int32)) :=
  ob1 (F_T_ringOf_L2 xst ltm low lta llo lhi lmo rta ron rlo rhi rmo rli lco rwa a1 fu xre 0) (fun xre_7 => ob1 (F_T_ringOf_L41 a1 fu xre_7 0) (fun xre_17 => ob1 (F_T_ringOf_L99 xre_17 a1 fu 0 0) (fun v2_25 => some (v2_25, xre_17))))
set_option maxHeartbeats 4000000 in
set_option maxRecDepth 100000 in
theorem t_T_ringOf_L2 {p : Program} {l : Launch} {e : Env} {s : State} {m : MethodId} {args : Array Value} {below : List Frame} {meth : Method} {c : Code} {A : Nat → Prop} {g : va_G} {cI cJ cZ : ClassId} {ad : Nat → Nat} {rest : va_W} (K : kX p s m args meth c "LockTable" prog_1_method_40_code 4 (some .int) A g (kty cI cJ cZ)) {Q : State → Prop} (xst : Nat → Int32) (xse : Nat → Int32) (xgr : Nat → Int32) (ltm : Nat → Int32) (low : Nat → Int32) (lta : Nat → Int32) (llo : Nat → Int64) (lhi : Nat → Int64) (lmo : Nat → Int32) (rta : Nat → Int32) (ron : Nat → Int32) (rlo : Nat → Int64) (rhi : Nat → Int64) (rmo : Nat → Int32) (rin : Nat → Int32) (res : Nat → Int32) (rsi : Nat → Int32) (rli : Nat → Int32) (rar : Nat → Int32) (xgc : Int32) (xca : Int32) (xls : Int32) (xtl : Int32) (xno : Int32) (lco : Int32) (rwa : Int32) (rad : Int32) (v1 : Int32) : ∀ (n : Nat) (xre : Nat → Int32) (v2 : Int32) (o_xre : Nat → Int32) (H : Heap) (locs : List Loc) (ls : Array Slot), F_T_ringOf_L2 xst ltm low lta llo lhi lmo rta ron rlo rhi rmo rli lco rwa v1 n xre v2 = some o_xre → va_P g kcl (wC cI cJ cZ ad xst xse xre xgr ltm low lta llo lhi lmo rta ron rlo rhi rmo rin res rsi rli rar xgc xca xls xtl xno lco rwa rad rest) H → va_D A (wC cI cJ cZ ad xst xse xre xgr ltm low lta llo lhi lmo rta ron rlo rhi rmo rin res rsi rli rar xgc xca xls xtl xno lco rwa rad rest) → va_S A s.heap H locs → lv_has ls 4 [(0, .ref (ad 0)), (1, .int v1), (2, .int v2)] → (∀ (H : Heap) (locs : List Loc) (ls : Array Slot), va_P g kcl (wC cI cJ cZ ad xst xse o_xre xgr ltm low lta llo lhi lmo rta ron rlo rhi rmo rin res rsi rli rar xgc xca xls xtl xno lco rwa rad rest) H → va_D A (wC cI cJ cZ ad xst xse o_xre xgr ltm low lta llo lhi lmo rta ron rlo rhi rmo rin res rsi rli rar xgc xca xls xtl xno lco rwa rad rest) → va_S A s.heap H locs → lv_has ls 4 [(0, .ref (ad 0)), (1, .int v1)] → W p l e ({ frames := 3, cells := 0, slots := 0, locals := 75 }) s m args below meth c H locs 0 0 Q (F0 m 39 ls [])) → W p l e ({ frames := 3, cells := 0, slots := 0, locals := 75 }) s m args below meth c H locs 0 0 Q (F0 m 2 ls []) := by
  obtain ⟨hx, hb, hr, hml, hown, hts, hlocks, hK, hA, hE⟩ := id K
  intro n
  induction n with
  | zero =>
    intro xre v2 o_xre H locs ls hF
    rw [F_T_ringOf_L2] at hF
    cases hF
  | succ n ih =>
    intro xre v2 o_xre H locs ls hF hP hD hS hl hQ
    rw [F_T_ringOf_L2] at hF
    refine lv_iload_n hx hb d_T_ringOf_2 rfl (lv_at hl 2 rfl) ?_
    refine lv_bipush (v := 8) hx hb d_T_ringOf_3 (by decide) ?_
    refine lv_icmp_ge (tgt := 39) hx hb d_T_ringOf_5 (by decide) (fun hc_1 => ?_) (fun hc_1 => ?_)
    · have hF := it_t hF hc_1
      cases hF
      exact hQ H locs ls hP hD hS (lv_sub hl [0, 1] rfl)
    · have hF := it_f hF hc_1
      refine lv_aload_n hx hb d_T_ringOf_8 rfl (lv_at hl 0 rfl) ?_
      refine va_get (D := g) (ci := 2) (v := .ref (ad 5)) (C := kR2) (T := kT2) (N := 11) hx hb hts kw2 hown hK hP 0 rfl rfl 4 (by decide) (hts _ wm_160) (fun _ h9 => h9) rfl d_T_ringOf_9 ?_
      refine lv_iload_n hx hb d_T_ringOf_12 rfl (lv_at hl 2 rfl) ?_
      refine lv_aload_n hx hb d_T_ringOf_13 rfl (lv_at hl 0 rfl) ?_
      refine va_get (D := g) (ci := 2) (v := .ref (ad 3)) (C := kR2) (T := kT2) (N := 11) hx hb hts kw2 hown hK hP 0 rfl rfl 0 (by decide) (hts _ wm_156) (fun _ h9 => h9) rfl d_T_ringOf_14 ?_
      refine lv_iload_n hx hb d_T_ringOf_17 rfl (lv_at hl 2 rfl) ?_
      obtain ⟨hg_2, hF⟩ := gd_inv hF
      refine va_iald hx hb hK hP 3 0 rfl rfl hg_2 d_T_ringOf_18 ?_
      refine lv_iconst (v := 2) hx hb d_T_ringOf_19 (by decide) ?_
      refine lv_icmp_ne (tgt := 31) hx hb d_T_ringOf_20 (by decide) (fun hc_3 => ?_) (fun hc_3 => ?_)
      · have hF := it_f hF hc_3
        refine lv_iconst (v := 0) hx hb d_T_ringOf_31 (by decide) ?_
        obtain ⟨hg_4, hF⟩ := gd_inv hF
        refine va_iast hx hb hK hP hD hS 5 0 rfl rfl hg_4 d_T_ringOf_32 (fun H locs hP hD hS => ?_)
        have hP : va_P g kcl (wC cI cJ cZ ad xst xse (upd xre v2.toNatClampNeg 0) xgr ltm low lta llo lhi lmo rta ron rlo rhi rmo rin res rsi rli rar xgc xca xls xtl xno lco rwa rad rest) H := hP
        have hD : va_D A (wC cI cJ cZ ad xst xse (upd xre v2.toNatClampNeg 0) xgr ltm low lta llo lhi lmo rta ron rlo rhi rmo rin res rsi rli rar xgc xca xls xtl xno lco rwa rad rest) := hD
        refine lv_iinc (v := v2 + 1) (lv' := [(2, .int (v2 + 1)), (0, .ref (ad 0)), (1, .int v1)]) hx hb d_T_ringOf_33 hl (k := 2) rfl rfl (by decide) rfl (fun ls hl => ?_)
        refine lv_goto (tgt := 2) hx hb d_T_ringOf_36 (by decide) ?_
        exact ih _ _ _ H locs ls hF hP hD hS (lv_sub hl [1, 2, 0] rfl) hQ
      · have hF := it_t hF hc_3
        refine lv_aload_n hx hb d_T_ringOf_23 rfl (lv_at hl 0 rfl) ?_
        refine lv_iload_n hx hb d_T_ringOf_24 rfl (lv_at hl 2 rfl) ?_
        obtain ⟨r_5, hG, hF⟩ := ob1_inv hF
        refine kci K hP hD hS (c_T_blockers l g cI cJ cZ ad xst xse xre xgr ltm low lta llo lhi lmo rta ron rlo rhi rmo rin res rsi rli rar xgc xca xls xtl xno lco rwa rad rest v2 r_5 hG) wm_368 wm_365 wm_367 wm_6 wm_46 hd_T_blockers rfl rfl ⟨Nat.le_of_ble_eq_true rfl, Nat.le_of_ble_eq_true rfl⟩ ⟨Nat.zero_le _, Nat.zero_le _⟩ 2 0 rfl rfl rfl hl.1 (rest := [.int v2, .ref (ad 5)]) rfl (Nat.le_of_ble_eq_true rfl) d_T_ringOf_25 (fun H locs hP hD hS => ?_)
        refine lv_goto (tgt := 32) hx hb d_T_ringOf_28 (by decide) ?_
        obtain ⟨hg_6, hF⟩ := gd_inv hF
        refine va_iast hx hb hK hP hD hS 5 0 rfl rfl hg_6 d_T_ringOf_32 (fun H locs hP hD hS => ?_)
        have hP : va_P g kcl (wC cI cJ cZ ad xst xse (upd xre v2.toNatClampNeg r_5) xgr ltm low lta llo lhi lmo rta ron rlo rhi rmo rin res rsi rli rar xgc xca xls xtl xno lco rwa rad rest) H := hP
        have hD : va_D A (wC cI cJ cZ ad xst xse (upd xre v2.toNatClampNeg r_5) xgr ltm low lta llo lhi lmo rta ron rlo rhi rmo rin res rsi rli rar xgc xca xls xtl xno lco rwa rad rest) := hD
        refine lv_iinc (v := v2 + 1) (lv' := [(2, .int (v2 + 1)), (0, .ref (ad 0)), (1, .int v1)]) hx hb d_T_ringOf_33 hl (k := 2) rfl rfl (by decide) rfl (fun ls hl => ?_)
        refine lv_goto (tgt := 2) hx hb d_T_ringOf_36 (by decide) ?_
        exact ih _ _ _ H locs ls hF hP hD hS (lv_sub hl [1, 2, 0] rfl) hQ
set_option maxHeartbeats 4000000 in
set_option maxRecDepth 100000 in
theorem t_T_ringOf_L49 {p : Program} {l : Launch} {e : Env} {s : State} {m : MethodId} {args : Array Value} {below : List Frame} {meth : Method} {c : Code} {A : Nat → Prop} {g : va_G} {cI cJ cZ : ClassId} {ad : Nat → Nat} {rest : va_W} (K : kX p s m args meth c "LockTable" prog_1_method_40_code 4 (some .int) A g (kty cI cJ cZ)) {Q : State → Prop} (xst : Nat → Int32) (xse : Nat → Int32) (xgr : Nat → Int32) (ltm : Nat → Int32) (low : Nat → Int32) (lta : Nat → Int32) (llo : Nat → Int64) (lhi : Nat → Int64) (lmo : Nat → Int32) (rta : Nat → Int32) (ron : Nat → Int32) (rlo : Nat → Int64) (rhi : Nat → Int64) (rmo : Nat → Int32) (rin : Nat → Int32) (res : Nat → Int32) (rsi : Nat → Int32) (rli : Nat → Int32) (rar : Nat → Int32) (xgc : Int32) (xca : Int32) (xls : Int32) (xtl : Int32) (xno : Int32) (lco : Int32) (rwa : Int32) (rad : Int32) (v1 : Int32) (v2 : Int32) : ∀ (n : Nat) (xre : Nat → Int32) (v3 : Int32) (o_xre : Nat → Int32) (H : Heap) (locs : List Loc) (ls : Array Slot), F_T_ringOf_L49 v1 v2 n xre v3 = some o_xre → va_P g kcl (wC cI cJ cZ ad xst xse xre xgr ltm low lta llo lhi lmo rta ron rlo rhi rmo rin res rsi rli rar xgc xca xls xtl xno lco rwa rad rest) H → va_D A (wC cI cJ cZ ad xst xse xre xgr ltm low lta llo lhi lmo rta ron rlo rhi rmo rin res rsi rli rar xgc xca xls xtl xno lco rwa rad rest) → va_S A s.heap H locs → lv_has ls 4 [(0, .ref (ad 0)), (1, .int v1), (2, .int v2), (3, .int v3)] → (∀ (H : Heap) (locs : List Loc) (ls : Array Slot), va_P g kcl (wC cI cJ cZ ad xst xse o_xre xgr ltm low lta llo lhi lmo rta ron rlo rhi rmo rin res rsi rli rar xgc xca xls xtl xno lco rwa rad rest) H → va_D A (wC cI cJ cZ ad xst xse o_xre xgr ltm low lta llo lhi lmo rta ron rlo rhi rmo rin res rsi rli rar xgc xca xls xtl xno lco rwa rad rest) → va_S A s.heap H locs → lv_has ls 4 [(0, .ref (ad 0)), (1, .int v1), (2, .int v2)] → W p l e ({ frames := 3, cells := 0, slots := 0, locals := 75 }) s m args below meth c H locs 0 0 Q (F0 m 89 ls [])) → W p l e ({ frames := 3, cells := 0, slots := 0, locals := 75 }) s m args below meth c H locs 0 0 Q (F0 m 49 ls []) := by
  obtain ⟨hx, hb, hr, hml, hown, hts, hlocks, hK, hA, hE⟩ := id K
  intro n
  induction n with
  | zero =>
    intro xre v3 o_xre H locs ls hF
    rw [F_T_ringOf_L49] at hF
    cases hF
  | succ n ih =>
    intro xre v3 o_xre H locs ls hF hP hD hS hl hQ
    rw [F_T_ringOf_L49] at hF
    refine lv_iload_n hx hb d_T_ringOf_49 rfl (lv_at hl 3 rfl) ?_
    refine lv_bipush (v := 8) hx hb d_T_ringOf_50 (by decide) ?_
    refine lv_icmp_ge (tgt := 89) hx hb d_T_ringOf_52 (by decide) (fun hc_9 => ?_) (fun hc_9 => ?_)
    · have hF := it_t hF hc_9
      cases hF
      exact hQ H locs ls hP hD hS (lv_sub hl [0, 1, 2] rfl)
    · have hF := it_f hF hc_9
      refine lv_aload_n hx hb d_T_ringOf_55 rfl (lv_at hl 0 rfl) ?_
      refine va_get (D := g) (ci := 2) (v := .ref (ad 5)) (C := kR2) (T := kT2) (N := 11) hx hb hts kw2 hown hK hP 0 rfl rfl 4 (by decide) (hts _ wm_160) (fun _ h9 => h9) rfl d_T_ringOf_56 ?_
      refine lv_iload_n hx hb d_T_ringOf_59 rfl (lv_at hl 3 rfl) ?_
      obtain ⟨hg_10, hF⟩ := gd_inv hF
      refine va_iald hx hb hK hP 5 0 rfl rfl hg_10 d_T_ringOf_60 ?_
      refine lv_iload_n hx hb d_T_ringOf_61 rfl (lv_at hl 2 rfl) ?_
      obtain ⟨r_11, hG, hF⟩ := ob1_inv hF
      refine ksi K hP hD hS (c_T_hasBit l g (kty cI cJ cZ) (wC cI cJ cZ ad xst xse xre xgr ltm low lta llo lhi lmo rta ron rlo rhi rmo rin res rsi rli rar xgc xca xls xtl xno lco rwa rad rest) (xre v3.toNatClampNeg) v2 r_11 hG) wm_432 wm_430 wm_431 wm_46 hd_T_hasBit rfl rfl ⟨Nat.le_of_ble_eq_true rfl, Nat.le_of_ble_eq_true rfl⟩ ⟨Nat.zero_le _, Nat.zero_le _⟩ hl.1 (rest := []) rfl (Nat.le_of_ble_eq_true rfl) d_T_ringOf_62 (fun H locs hP hD hS => ?_)
      refine lv_if_eq (tgt := 83) hx hb d_T_ringOf_65 (by decide) (fun hc_12 => ?_) (fun hc_12 => ?_)
      · have hF := it_t hF hc_12
        refine lv_iinc (v := v3 + 1) (lv' := [(3, .int (v3 + 1)), (0, .ref (ad 0)), (1, .int v1), (2, .int v2)]) hx hb d_T_ringOf_83 hl (k := 3) rfl rfl (by decide) rfl (fun ls hl => ?_)
        refine lv_goto (tgt := 49) hx hb d_T_ringOf_86 (by decide) ?_
        exact ih _ _ _ H locs ls hF hP hD hS (lv_sub hl [1, 2, 3, 0] rfl) hQ
      · have hF := it_f hF hc_12
        refine lv_aload_n hx hb d_T_ringOf_68 rfl (lv_at hl 0 rfl) ?_
        refine va_get (D := g) (ci := 2) (v := .ref (ad 5)) (C := kR2) (T := kT2) (N := 11) hx hb hts kw2 hown hK hP 0 rfl rfl 4 (by decide) (hts _ wm_160) (fun _ h9 => h9) rfl d_T_ringOf_69 ?_
        refine lv_iload_n hx hb d_T_ringOf_72 rfl (lv_at hl 3 rfl) ?_
        refine lv_dup2_11 hx hb d_T_ringOf_73 rfl rfl ?_
        obtain ⟨hg_13, hF⟩ := gd_inv hF
        refine va_iald hx hb hK hP 5 0 rfl rfl hg_13 d_T_ringOf_74 ?_
        refine lv_aload_n hx hb d_T_ringOf_75 rfl (lv_at hl 0 rfl) ?_
        refine va_get (D := g) (ci := 2) (v := .ref (ad 5)) (C := kR2) (T := kT2) (N := 11) hx hb hts kw2 hown hK hP 0 rfl rfl 4 (by decide) (hts _ wm_160) (fun _ h9 => h9) rfl d_T_ringOf_76 ?_
        refine lv_iload_n hx hb d_T_ringOf_79 rfl (lv_at hl 2 rfl) ?_
        obtain ⟨hg_14, hF⟩ := gd_inv hF
        refine va_iald hx hb hK hP 5 0 rfl rfl hg_14 d_T_ringOf_80 ?_
        refine lv_ior hx hb d_T_ringOf_81 ?_
        obtain ⟨hg_15, hF⟩ := gd_inv hF
        refine va_iast hx hb hK hP hD hS 5 0 rfl rfl hg_15 d_T_ringOf_82 (fun H locs hP hD hS => ?_)
        have hP : va_P g kcl (wC cI cJ cZ ad xst xse (upd xre v3.toNatClampNeg ((xre v3.toNatClampNeg) ||| (xre v2.toNatClampNeg))) xgr ltm low lta llo lhi lmo rta ron rlo rhi rmo rin res rsi rli rar xgc xca xls xtl xno lco rwa rad rest) H := hP
        have hD : va_D A (wC cI cJ cZ ad xst xse (upd xre v3.toNatClampNeg ((xre v3.toNatClampNeg) ||| (xre v2.toNatClampNeg))) xgr ltm low lta llo lhi lmo rta ron rlo rhi rmo rin res rsi rli rar xgc xca xls xtl xno lco rwa rad rest) := hD
        refine lv_iinc (v := v3 + 1) (lv' := [(3, .int (v3 + 1)), (0, .ref (ad 0)), (1, .int v1), (2, .int v2)]) hx hb d_T_ringOf_83 hl (k := 3) rfl rfl (by decide) rfl (fun ls hl => ?_)
        refine lv_goto (tgt := 49) hx hb d_T_ringOf_86 (by decide) ?_
        exact ih _ _ _ H locs ls hF hP hD hS (lv_sub hl [1, 2, 3, 0] rfl) hQ
set_option maxHeartbeats 4000000 in
set_option maxRecDepth 100000 in
theorem t_T_ringOf_L41 {p : Program} {l : Launch} {e : Env} {s : State} {m : MethodId} {args : Array Value} {below : List Frame} {meth : Method} {c : Code} {A : Nat → Prop} {g : va_G} {cI cJ cZ : ClassId} {ad : Nat → Nat} {rest : va_W} (K : kX p s m args meth c "LockTable" prog_1_method_40_code 4 (some .int) A g (kty cI cJ cZ)) {Q : State → Prop} (xst : Nat → Int32) (xse : Nat → Int32) (xgr : Nat → Int32) (ltm : Nat → Int32) (low : Nat → Int32) (lta : Nat → Int32) (llo : Nat → Int64) (lhi : Nat → Int64) (lmo : Nat → Int32) (rta : Nat → Int32) (ron : Nat → Int32) (rlo : Nat → Int64) (rhi : Nat → Int64) (rmo : Nat → Int32) (rin : Nat → Int32) (res : Nat → Int32) (rsi : Nat → Int32) (rli : Nat → Int32) (rar : Nat → Int32) (xgc : Int32) (xca : Int32) (xls : Int32) (xtl : Int32) (xno : Int32) (lco : Int32) (rwa : Int32) (rad : Int32) (v1 : Int32) : ∀ (n : Nat) (xre : Nat → Int32) (v2 : Int32) (o_xre : Nat → Int32) (H : Heap) (locs : List Loc) (ls : Array Slot), F_T_ringOf_L41 v1 n xre v2 = some o_xre → va_P g kcl (wC cI cJ cZ ad xst xse xre xgr ltm low lta llo lhi lmo rta ron rlo rhi rmo rin res rsi rli rar xgc xca xls xtl xno lco rwa rad rest) H → va_D A (wC cI cJ cZ ad xst xse xre xgr ltm low lta llo lhi lmo rta ron rlo rhi rmo rin res rsi rli rar xgc xca xls xtl xno lco rwa rad rest) → va_S A s.heap H locs → lv_has ls 4 [(0, .ref (ad 0)), (1, .int v1), (2, .int v2)] → (∀ (H : Heap) (locs : List Loc) (ls : Array Slot), va_P g kcl (wC cI cJ cZ ad xst xse o_xre xgr ltm low lta llo lhi lmo rta ron rlo rhi rmo rin res rsi rli rar xgc xca xls xtl xno lco rwa rad rest) H → va_D A (wC cI cJ cZ ad xst xse o_xre xgr ltm low lta llo lhi lmo rta ron rlo rhi rmo rin res rsi rli rar xgc xca xls xtl xno lco rwa rad rest) → va_S A s.heap H locs → lv_has ls 4 [(0, .ref (ad 0)), (1, .int v1)] → W p l e ({ frames := 3, cells := 0, slots := 0, locals := 75 }) s m args below meth c H locs 0 0 Q (F0 m 95 ls [])) → W p l e ({ frames := 3, cells := 0, slots := 0, locals := 75 }) s m args below meth c H locs 0 0 Q (F0 m 41 ls []) := by
  obtain ⟨hx, hb, hr, hml, hown, hts, hlocks, hK, hA, hE⟩ := id K
  intro n
  induction n with
  | zero =>
    intro xre v2 o_xre H locs ls hF
    rw [F_T_ringOf_L41] at hF
    cases hF
  | succ n ih =>
    intro xre v2 o_xre H locs ls hF hP hD hS hl hQ
    rw [F_T_ringOf_L41] at hF
    refine lv_iload_n hx hb d_T_ringOf_41 rfl (lv_at hl 2 rfl) ?_
    refine lv_bipush (v := 8) hx hb d_T_ringOf_42 (by decide) ?_
    refine lv_icmp_ge (tgt := 95) hx hb d_T_ringOf_44 (by decide) (fun hc_8 => ?_) (fun hc_8 => ?_)
    · have hF := it_t hF hc_8
      cases hF
      exact hQ H locs ls hP hD hS (lv_sub hl [0, 1] rfl)
    · have hF := it_f hF hc_8
      refine lv_iconst (v := 0) hx hb d_T_ringOf_47 (by decide) ?_
      refine lv_istore_n (lv' := [(3, .int 0), (0, .ref (ad 0)), (1, .int v1), (2, .int v2)]) hx hb d_T_ringOf_48 rfl hl (by decide) rfl (fun ls hl => ?_)
      obtain ⟨xre_16, hG, hF⟩ := ob1_inv hF
      refine t_T_ringOf_L49 K xst xse xgr ltm low lta llo lhi lmo rta ron rlo rhi rmo rin res rsi rli rar xgc xca xls xtl xno lco rwa rad v1 v2 fu _ _ _ H locs ls hG hP hD hS (lv_sub hl [1, 2, 3, 0] rfl) (fun H locs ls hP hD hS hl => ?_)
      refine lv_iinc (v := v2 + 1) (lv' := [(2, .int (v2 + 1)), (0, .ref (ad 0)), (1, .int v1)]) hx hb d_T_ringOf_89 hl (k := 2) rfl rfl (by decide) rfl (fun ls hl => ?_)
      refine lv_goto (tgt := 41) hx hb d_T_ringOf_92 (by decide) ?_
      exact ih _ _ _ H locs ls hF hP hD hS (lv_sub hl [1, 2, 0] rfl) hQ
set_option maxHeartbeats 4000000 in
set_option maxRecDepth 100000 in
theorem t_T_ringOf_L99 {p : Program} {l : Launch} {e : Env} {s : State} {m : MethodId} {args : Array Value} {below : List Frame} {meth : Method} {c : Code} {A : Nat → Prop} {g : va_G} {cI cJ cZ : ClassId} {ad : Nat → Nat} {rest : va_W} (K : kX p s m args meth c "LockTable" prog_1_method_40_code 4 (some .int) A g (kty cI cJ cZ)) {Q : State → Prop} (xst : Nat → Int32) (xse : Nat → Int32) (xre : Nat → Int32) (xgr : Nat → Int32) (ltm : Nat → Int32) (low : Nat → Int32) (lta : Nat → Int32) (llo : Nat → Int64) (lhi : Nat → Int64) (lmo : Nat → Int32) (rta : Nat → Int32) (ron : Nat → Int32) (rlo : Nat → Int64) (rhi : Nat → Int64) (rmo : Nat → Int32) (rin : Nat → Int32) (res : Nat → Int32) (rsi : Nat → Int32) (rli : Nat → Int32) (rar : Nat → Int32) (xgc : Int32) (xca : Int32) (xls : Int32) (xtl : Int32) (xno : Int32) (lco : Int32) (rwa : Int32) (rad : Int32) (v1 : Int32) : ∀ (n : Nat) (v2 : Int32) (v3 : Int32) (o_v2 : Int32) (H : Heap) (locs : List Loc) (ls : Array Slot), F_T_ringOf_L99 xre v1 n v2 v3 = some o_v2 → va_P g kcl (wC cI cJ cZ ad xst xse xre xgr ltm low lta llo lhi lmo rta ron rlo rhi rmo rin res rsi rli rar xgc xca xls xtl xno lco rwa rad rest) H → va_D A (wC cI cJ cZ ad xst xse xre xgr ltm low lta llo lhi lmo rta ron rlo rhi rmo rin res rsi rli rar xgc xca xls xtl xno lco rwa rad rest) → va_S A s.heap H locs → lv_has ls 4 [(0, .ref (ad 0)), (1, .int v1), (2, .int v2), (3, .int v3)] → (∀ (H : Heap) (locs : List Loc) (ls : Array Slot), va_P g kcl (wC cI cJ cZ ad xst xse xre xgr ltm low lta llo lhi lmo rta ron rlo rhi rmo rin res rsi rli rar xgc xca xls xtl xno lco rwa rad rest) H → va_D A (wC cI cJ cZ ad xst xse xre xgr ltm low lta llo lhi lmo rta ron rlo rhi rmo rin res rsi rli rar xgc xca xls xtl xno lco rwa rad rest) → va_S A s.heap H locs → lv_has ls 4 [(2, .int o_v2)] → W p l e ({ frames := 3, cells := 0, slots := 0, locals := 75 }) s m args below meth c H locs 0 0 Q (F0 m 143 ls [])) → W p l e ({ frames := 3, cells := 0, slots := 0, locals := 75 }) s m args below meth c H locs 0 0 Q (F0 m 99 ls []) := by
  obtain ⟨hx, hb, hr, hml, hown, hts, hlocks, hK, hA, hE⟩ := id K
  intro n
  induction n with
  | zero =>
    intro v2 v3 o_v2 H locs ls hF
    rw [F_T_ringOf_L99] at hF
    cases hF
  | succ n ih =>
    intro v2 v3 o_v2 H locs ls hF hP hD hS hl hQ
    rw [F_T_ringOf_L99] at hF
    refine lv_iload_n hx hb d_T_ringOf_99 rfl (lv_at hl 3 rfl) ?_
    refine lv_bipush (v := 8) hx hb d_T_ringOf_100 (by decide) ?_
    refine lv_icmp_ge (tgt := 143) hx hb d_T_ringOf_102 (by decide) (fun hc_18 => ?_) (fun hc_18 => ?_)
    · have hF := it_t hF hc_18
      cases hF
      exact hQ H locs ls hP hD hS (lv_sub hl [2] rfl)
    · have hF := it_f hF hc_18
      refine lv_aload_n hx hb d_T_ringOf_105 rfl (lv_at hl 0 rfl) ?_
      refine va_get (D := g) (ci := 2) (v := .ref (ad 5)) (C := kR2) (T := kT2) (N := 11) hx hb hts kw2 hown hK hP 0 rfl rfl 4 (by decide) (hts _ wm_160) (fun _ h9 => h9) rfl d_T_ringOf_106 ?_
      refine lv_iload_n hx hb d_T_ringOf_109 rfl (lv_at hl 1 rfl) ?_
      obtain ⟨hg_19, hF⟩ := gd_inv hF
      refine va_iald hx hb hK hP 5 0 rfl rfl hg_19 d_T_ringOf_110 ?_
      refine lv_iload_n hx hb d_T_ringOf_111 rfl (lv_at hl 3 rfl) ?_
      obtain ⟨r_20, hG, hF⟩ := ob1_inv hF
      refine ksi K hP hD hS (c_T_hasBit l g (kty cI cJ cZ) (wC cI cJ cZ ad xst xse xre xgr ltm low lta llo lhi lmo rta ron rlo rhi rmo rin res rsi rli rar xgc xca xls xtl xno lco rwa rad rest) (xre v1.toNatClampNeg) v3 r_20 hG) wm_432 wm_430 wm_431 wm_46 hd_T_hasBit rfl rfl ⟨Nat.le_of_ble_eq_true rfl, Nat.le_of_ble_eq_true rfl⟩ ⟨Nat.zero_le _, Nat.zero_le _⟩ hl.1 (rest := []) rfl (Nat.le_of_ble_eq_true rfl) d_T_ringOf_112 (fun H locs hP hD hS => ?_)
      refine lv_if_eq (tgt := 137) hx hb d_T_ringOf_115 (by decide) (fun hc_21 => ?_) (fun hc_21 => ?_)
      · have hF := it_t hF hc_21
        refine lv_iinc (v := v3 + 1) (lv' := [(3, .int (v3 + 1)), (0, .ref (ad 0)), (1, .int v1), (2, .int v2)]) hx hb d_T_ringOf_137 hl (k := 3) rfl rfl (by decide) rfl (fun ls hl => ?_)
        refine lv_goto (tgt := 99) hx hb d_T_ringOf_140 (by decide) ?_
        exact ih _ _ _ H locs ls hF hP hD hS (lv_sub hl [1, 2, 3, 0] rfl) hQ
      · have hF := it_f hF hc_21
        refine lv_aload_n hx hb d_T_ringOf_118 rfl (lv_at hl 0 rfl) ?_
        refine va_get (D := g) (ci := 2) (v := .ref (ad 5)) (C := kR2) (T := kT2) (N := 11) hx hb hts kw2 hown hK hP 0 rfl rfl 4 (by decide) (hts _ wm_160) (fun _ h9 => h9) rfl d_T_ringOf_119 ?_
        refine lv_iload_n hx hb d_T_ringOf_122 rfl (lv_at hl 3 rfl) ?_
        obtain ⟨hg_22, hF⟩ := gd_inv hF
        refine va_iald hx hb hK hP 5 0 rfl rfl hg_22 d_T_ringOf_123 ?_
        refine lv_iload_n hx hb d_T_ringOf_124 rfl (lv_at hl 1 rfl) ?_
        obtain ⟨r_23, hG, hF⟩ := ob1_inv hF
        refine ksi K hP hD hS (c_T_hasBit l g (kty cI cJ cZ) (wC cI cJ cZ ad xst xse xre xgr ltm low lta llo lhi lmo rta ron rlo rhi rmo rin res rsi rli rar xgc xca xls xtl xno lco rwa rad rest) (xre v3.toNatClampNeg) v1 r_23 hG) wm_432 wm_430 wm_431 wm_46 hd_T_hasBit rfl rfl ⟨Nat.le_of_ble_eq_true rfl, Nat.le_of_ble_eq_true rfl⟩ ⟨Nat.zero_le _, Nat.zero_le _⟩ hl.1 (rest := []) rfl (Nat.le_of_ble_eq_true rfl) d_T_ringOf_125 (fun H locs hP hD hS => ?_)
        refine lv_if_eq (tgt := 137) hx hb d_T_ringOf_128 (by decide) (fun hc_24 => ?_) (fun hc_24 => ?_)
        · have hF := it_t hF hc_24
          refine lv_iinc (v := v3 + 1) (lv' := [(3, .int (v3 + 1)), (0, .ref (ad 0)), (1, .int v1), (2, .int v2)]) hx hb d_T_ringOf_137 hl (k := 3) rfl rfl (by decide) rfl (fun ls hl => ?_)
          refine lv_goto (tgt := 99) hx hb d_T_ringOf_140 (by decide) ?_
          exact ih _ _ _ H locs ls hF hP hD hS (lv_sub hl [1, 2, 3, 0] rfl) hQ
        · have hF := it_f hF hc_24
          refine lv_iload_n hx hb d_T_ringOf_131 rfl (lv_at hl 2 rfl) ?_
          refine lv_iconst (v := 1) hx hb d_T_ringOf_132 (by decide) ?_
          refine lv_iload_n hx hb d_T_ringOf_133 rfl (lv_at hl 3 rfl) ?_
          refine lv_ishl hx hb d_T_ringOf_134 ?_
          refine lv_ior hx hb d_T_ringOf_135 ?_
          refine lv_istore_n (lv' := [(2, .int (v2 ||| (1 <<< (v3 &&& 31)))), (0, .ref (ad 0)), (1, .int v1), (3, .int v3)]) hx hb d_T_ringOf_136 rfl hl (by decide) rfl (fun ls hl => ?_)
          refine lv_iinc (v := v3 + 1) (lv' := [(3, .int (v3 + 1)), (2, .int (v2 ||| (1 <<< (v3 &&& 31)))), (0, .ref (ad 0)), (1, .int v1)]) hx hb d_T_ringOf_137 hl (k := 3) rfl rfl (by decide) rfl (fun ls hl => ?_)
          refine lv_goto (tgt := 99) hx hb d_T_ringOf_140 (by decide) ?_
          exact ih _ _ _ H locs ls hF hP hD hS (lv_sub hl [2, 3, 1, 0] rfl) hQ
set_option maxHeartbeats 4000000 in
set_option maxRecDepth 100000 in
theorem t_T_ringOf {p : Program} {l : Launch} {e : Env} {s : State} {m : MethodId} {args : Array Value} {below : List Frame} {meth : Method} {c : Code} {A : Nat → Prop} {g : va_G} {cI cJ cZ : ClassId} {ad : Nat → Nat} {rest : va_W} (K : kX p s m args meth c "LockTable" prog_1_method_40_code 4 (some .int) A g (kty cI cJ cZ)) (xst : Nat → Int32) (xse : Nat → Int32) (xre : Nat → Int32) (xgr : Nat → Int32) (ltm : Nat → Int32) (low : Nat → Int32) (lta : Nat → Int32) (llo : Nat → Int64) (lhi : Nat → Int64) (lmo : Nat → Int32) (rta : Nat → Int32) (ron : Nat → Int32) (rlo : Nat → Int64) (rhi : Nat → Int64) (rmo : Nat → Int32) (rin : Nat → Int32) (res : Nat → Int32) (rsi : Nat → Int32) (rli : Nat → Int32) (rar : Nat → Int32) (xgc : Int32) (xca : Int32) (xls : Int32) (xtl : Int32) (xno : Int32) (lco : Int32) (rwa : Int32) (rad : Int32) (a1 : Int32) (r : Int32) (o_xre : Nat → Int32) (hF : F_T_ringOf xst xre ltm low lta llo lhi lmo rta ron rlo rhi rmo rli lco rwa a1 = some (r, o_xre)) {H : Heap} {locs : List Loc} {ls : Array Slot} (hP : va_P g kcl (wC cI cJ cZ ad xst xse xre xgr ltm low lta llo lhi lmo rta ron rlo rhi rmo rin res rsi rli rar xgc xca xls xtl xno lco rwa rad rest) H) (hD : va_D A (wC cI cJ cZ ad xst xse xre xgr ltm low lta llo lhi lmo rta ron rlo rhi rmo rin res rsi rli rar xgc xca xls xtl xno lco rwa rad rest)) (hS : va_S A s.heap H locs) (hl : lv_has ls 4 [(0, .ref (ad 0)), (1, .int a1)]) : W p l e ({ frames := 3, cells := 0, slots := 0, locals := 75 }) s m args below meth c H locs 0 0 (MQ below (kQi g (kty cI cJ cZ) (wC cI cJ cZ ad xst xse o_xre xgr ltm low lta llo lhi lmo rta ron rlo rhi rmo rin res rsi rli rar xgc xca xls xtl xno lco rwa rad rest) A r) args s 0 0 A) (F0 m 0 ls []) := by
  obtain ⟨hx, hb, hr, hml, hown, hts, hlocks, hK, hA, hE⟩ := id K
  unfold F_T_ringOf at hF
  refine lv_iconst (v := 0) hx hb d_T_ringOf_0 (by decide) ?_
  refine lv_istore_n (lv' := [(2, .int 0), (0, .ref (ad 0)), (1, .int a1)]) hx hb d_T_ringOf_1 rfl hl (by decide) rfl (fun ls hl => ?_)
  obtain ⟨xre_7, hG, hF⟩ := ob1_inv hF
  refine t_T_ringOf_L2 K xst xse xgr ltm low lta llo lhi lmo rta ron rlo rhi rmo rin res rsi rli rar xgc xca xls xtl xno lco rwa rad a1 fu _ _ _ H locs ls hG hP hD hS (lv_sub hl [1, 2, 0] rfl) (fun H locs ls hP hD hS hl => ?_)
  refine lv_iconst (v := 0) hx hb d_T_ringOf_39 (by decide) ?_
  refine lv_istore_n (lv' := [(2, .int 0), (0, .ref (ad 0)), (1, .int a1)]) hx hb d_T_ringOf_40 rfl hl (by decide) rfl (fun ls hl => ?_)
  obtain ⟨xre_17, hG, hF⟩ := ob1_inv hF
  refine t_T_ringOf_L41 K xst xse xgr ltm low lta llo lhi lmo rta ron rlo rhi rmo rin res rsi rli rar xgc xca xls xtl xno lco rwa rad a1 fu _ _ _ H locs ls hG hP hD hS (lv_sub hl [1, 2, 0] rfl) (fun H locs ls hP hD hS hl => ?_)
  refine lv_iconst (v := 0) hx hb d_T_ringOf_95 (by decide) ?_
  refine lv_istore_n (lv' := [(2, .int 0), (0, .ref (ad 0)), (1, .int a1)]) hx hb d_T_ringOf_96 rfl hl (by decide) rfl (fun ls hl => ?_)
  refine lv_iconst (v := 0) hx hb d_T_ringOf_97 (by decide) ?_
  refine lv_istore_n (lv' := [(3, .int 0), (2, .int 0), (0, .ref (ad 0)), (1, .int a1)]) hx hb d_T_ringOf_98 rfl hl (by decide) rfl (fun ls hl => ?_)
  obtain ⟨v2_25, hG, hF⟩ := ob1_inv hF
  refine t_T_ringOf_L99 K xst xse xre_17 xgr ltm low lta llo lhi lmo rta ron rlo rhi rmo rin res rsi rli rar xgc xca xls xtl xno lco rwa rad a1 fu _ _ _ H locs ls hG hP hD hS (lv_sub hl [2, 3, 1, 0] rfl) (fun H locs ls hP hD hS hl => ?_)
  refine lv_iload_n hx hb d_T_ringOf_143 rfl (lv_at hl 0 rfl) ?_
  cases hF
  exact kri K hP hD hS d_T_ringOf_144 rfl
theorem c_T_ringOf (l : Launch) (g : va_G) (cI cJ cZ : ClassId) (ad : Nat → Nat) (xst : Nat → Int32) (xse : Nat → Int32) (xre : Nat → Int32) (xgr : Nat → Int32) (ltm : Nat → Int32) (low : Nat → Int32) (lta : Nat → Int32) (llo : Nat → Int64) (lhi : Nat → Int64) (lmo : Nat → Int32) (rta : Nat → Int32) (ron : Nat → Int32) (rlo : Nat → Int64) (rhi : Nat → Int64) (rmo : Nat → Int32) (rin : Nat → Int32) (res : Nat → Int32) (rsi : Nat → Int32) (rli : Nat → Int32) (rar : Nat → Int32) (xgc : Int32) (xca : Int32) (xls : Int32) (xtl : Int32) (xno : Int32) (lco : Int32) (rwa : Int32) (rad : Int32) (rest : va_W) (a1 : Int32) (r : Int32) (o_xre : Nat → Int32) (hF : F_T_ringOf xst xre ltm low lta llo lhi lmo rta ron rlo rhi rmo rli lco rwa a1 = some (r, o_xre)) : Ci l y_T_ringOf prog_1_method_40_code 4 (some .int) ({ frames := 3, cells := 0, slots := 0, locals := 75 }) [.ref (ad 0), .int a1] g (kty cI cJ cZ) (wC cI cJ cZ ad xst xse xre xgr ltm low lta llo lhi lmo rta ron rlo rhi rmo rin res rsi rli rar xgc xca xls xtl xno lco rwa rad rest) (wC cI cJ cZ ad xst xse o_xre xgr ltm low lta llo lhi lmo rta ron rlo rhi rmo rin res rsi rli rar xgc xca xls xtl xno lco rwa rad rest) r :=
  Ci.of (by decide) (Nat.le_of_ble_eq_true rfl) (fun p e s m below meth c A ls K hP hD hS hl => t_T_ringOf K xst xse xre xgr ltm low lta llo lhi lmo rta ron rlo rhi rmo rin res rsi rli rar xgc xca xls xtl xno lco rwa rad a1 r o_xre hF hP hD hS hl)
def F_T_newestOf_L5 (xse : Nat → Int32) (v1 : Int32) : Nat → Int32 → Int32 → Option (Int32)
  | 0, _, _ => none
  | n + 1, v3, v4 => if 8 ≤ v4 then some v3 else ob1 (F_T_hasBit v1 v4) (fun r_2 => if r_2 = 0 then F_T_newestOf_L5 xse v1 n v3 (v4 + 1) else gd (v4 < 0 ∨ 8 ≤ v4.toNatClampNeg) (gd (v3 < 0 ∨ 8 ≤ v3.toNatClampNeg) (if (xse v4.toNatClampNeg) ≤ (xse v3.toNatClampNeg) then F_T_newestOf_L5 xse v1 n v3 (v4 + 1) else F_T_newestOf_L5 xse v1 n v4 (v4 + 1))))
def F_T_newestOf (xse : Nat → Int32) (a1 : Int32) (a2 : Int32) : Option (Int32) :=
  ob1 (F_T_newestOf_L5 xse a1 fu a2 0) (fun v3_7 => some v3_7)
set_option maxHeartbeats 4000000 in
set_option maxRecDepth 100000 in
theorem t_T_newestOf_L5 {p : Program} {l : Launch} {e : Env} {s : State} {m : MethodId} {args : Array Value} {below : List Frame} {meth : Method} {c : Code} {A : Nat → Prop} {g : va_G} {cI cJ cZ : ClassId} {ad : Nat → Nat} {rest : va_W} (K : kX p s m args meth c "LockTable" prog_1_method_42_code 5 (some .int) A g (kty cI cJ cZ)) {Q : State → Prop} (xst : Nat → Int32) (xse : Nat → Int32) (xre : Nat → Int32) (xgr : Nat → Int32) (ltm : Nat → Int32) (low : Nat → Int32) (lta : Nat → Int32) (llo : Nat → Int64) (lhi : Nat → Int64) (lmo : Nat → Int32) (rta : Nat → Int32) (ron : Nat → Int32) (rlo : Nat → Int64) (rhi : Nat → Int64) (rmo : Nat → Int32) (rin : Nat → Int32) (res : Nat → Int32) (rsi : Nat → Int32) (rli : Nat → Int32) (rar : Nat → Int32) (xgc : Int32) (xca : Int32) (xls : Int32) (xtl : Int32) (xno : Int32) (lco : Int32) (rwa : Int32) (rad : Int32) (v1 : Int32) : ∀ (n : Nat) (v3 : Int32) (v4 : Int32) (o_v3 : Int32) (H : Heap) (locs : List Loc) (ls : Array Slot), F_T_newestOf_L5 xse v1 n v3 v4 = some o_v3 → va_P g kcl (wC cI cJ cZ ad xst xse xre xgr ltm low lta llo lhi lmo rta ron rlo rhi rmo rin res rsi rli rar xgc xca xls xtl xno lco rwa rad rest) H → va_D A (wC cI cJ cZ ad xst xse xre xgr ltm low lta llo lhi lmo rta ron rlo rhi rmo rin res rsi rli rar xgc xca xls xtl xno lco rwa rad rest) → va_S A s.heap H locs → lv_has ls 5 [(0, .ref (ad 0)), (1, .int v1), (3, .int v3), (4, .int v4)] → (∀ (H : Heap) (locs : List Loc) (ls : Array Slot), va_P g kcl (wC cI cJ cZ ad xst xse xre xgr ltm low lta llo lhi lmo rta ron rlo rhi rmo rin res rsi rli rar xgc xca xls xtl xno lco rwa rad rest) H → va_D A (wC cI cJ cZ ad xst xse xre xgr ltm low lta llo lhi lmo rta ron rlo rhi rmo rin res rsi rli rar xgc xca xls xtl xno lco rwa rad rest) → va_S A s.heap H locs → lv_has ls 5 [(3, .int o_v3)] → W p l e ({ frames := 1, cells := 0, slots := 0, locals := 21 }) s m args below meth c H locs 0 0 Q (F0 m 46 ls [])) → W p l e ({ frames := 1, cells := 0, slots := 0, locals := 21 }) s m args below meth c H locs 0 0 Q (F0 m 5 ls []) := by
  obtain ⟨hx, hb, hr, hml, hown, hts, hlocks, hK, hA, hE⟩ := id K
  intro n
  induction n with
  | zero =>
    intro v3 v4 o_v3 H locs ls hF
    rw [F_T_newestOf_L5] at hF
    cases hF
  | succ n ih =>
    intro v3 v4 o_v3 H locs ls hF hP hD hS hl hQ
    rw [F_T_newestOf_L5] at hF
    refine lv_iload hx hb d_T_newestOf_5 (lv_at hl 3 rfl) ?_
    refine lv_bipush (v := 8) hx hb d_T_newestOf_7 (by decide) ?_
    refine lv_icmp_ge (tgt := 46) hx hb d_T_newestOf_9 (by decide) (fun hc_1 => ?_) (fun hc_1 => ?_)
    · have hF := it_t hF hc_1
      cases hF
      exact hQ H locs ls hP hD hS (lv_sub hl [2] rfl)
    · have hF := it_f hF hc_1
      refine lv_iload_n hx hb d_T_newestOf_12 rfl (lv_at hl 1 rfl) ?_
      refine lv_iload hx hb d_T_newestOf_13 (lv_at hl 3 rfl) ?_
      obtain ⟨r_2, hG, hF⟩ := ob1_inv hF
      refine ksi K hP hD hS (c_T_hasBit l g (kty cI cJ cZ) (wC cI cJ cZ ad xst xse xre xgr ltm low lta llo lhi lmo rta ron rlo rhi rmo rin res rsi rli rar xgc xca xls xtl xno lco rwa rad rest) v1 v4 r_2 hG) wm_432 wm_430 wm_431 wm_46 hd_T_hasBit rfl rfl ⟨Nat.le_of_ble_eq_true rfl, Nat.le_of_ble_eq_true rfl⟩ ⟨Nat.zero_le _, Nat.zero_le _⟩ hl.1 (rest := []) rfl (Nat.le_of_ble_eq_true rfl) d_T_newestOf_15 (fun H locs hP hD hS => ?_)
      refine lv_if_eq (tgt := 40) hx hb d_T_newestOf_18 (by decide) (fun hc_3 => ?_) (fun hc_3 => ?_)
      · have hF := it_t hF hc_3
        refine lv_iinc (v := v4 + 1) (lv' := [(4, .int (v4 + 1)), (0, .ref (ad 0)), (1, .int v1), (3, .int v3)]) hx hb d_T_newestOf_40 hl (k := 3) rfl rfl (by decide) rfl (fun ls hl => ?_)
        refine lv_goto (tgt := 5) hx hb d_T_newestOf_43 (by decide) ?_
        exact ih _ _ _ H locs ls hF hP hD hS (lv_sub hl [1, 2, 3, 0] rfl) hQ
      · have hF := it_f hF hc_3
        refine lv_aload_n hx hb d_T_newestOf_21 rfl (lv_at hl 0 rfl) ?_
        refine va_get (D := g) (ci := 2) (v := .ref (ad 4)) (C := kR2) (T := kT2) (N := 11) hx hb hts kw2 hown hK hP 0 rfl rfl 1 (by decide) (hts _ wm_157) (fun _ h9 => h9) rfl d_T_newestOf_22 ?_
        refine lv_iload hx hb d_T_newestOf_25 (lv_at hl 3 rfl) ?_
        obtain ⟨hg_4, hF⟩ := gd_inv hF
        refine va_iald hx hb hK hP 4 0 rfl rfl hg_4 d_T_newestOf_27 ?_
        refine lv_aload_n hx hb d_T_newestOf_28 rfl (lv_at hl 0 rfl) ?_
        refine va_get (D := g) (ci := 2) (v := .ref (ad 4)) (C := kR2) (T := kT2) (N := 11) hx hb hts kw2 hown hK hP 0 rfl rfl 1 (by decide) (hts _ wm_157) (fun _ h9 => h9) rfl d_T_newestOf_29 ?_
        refine lv_iload_n hx hb d_T_newestOf_32 rfl (lv_at hl 2 rfl) ?_
        obtain ⟨hg_5, hF⟩ := gd_inv hF
        refine va_iald hx hb hK hP 4 0 rfl rfl hg_5 d_T_newestOf_33 ?_
        refine lv_icmp_le (tgt := 40) hx hb d_T_newestOf_34 (by decide) (fun hc_6 => ?_) (fun hc_6 => ?_)
        · have hF := it_t hF hc_6
          refine lv_iinc (v := v4 + 1) (lv' := [(4, .int (v4 + 1)), (0, .ref (ad 0)), (1, .int v1), (3, .int v3)]) hx hb d_T_newestOf_40 hl (k := 3) rfl rfl (by decide) rfl (fun ls hl => ?_)
          refine lv_goto (tgt := 5) hx hb d_T_newestOf_43 (by decide) ?_
          exact ih _ _ _ H locs ls hF hP hD hS (lv_sub hl [1, 2, 3, 0] rfl) hQ
        · have hF := it_f hF hc_6
          refine lv_iload hx hb d_T_newestOf_37 (lv_at hl 3 rfl) ?_
          refine lv_istore_n (lv' := [(3, .int v4), (0, .ref (ad 0)), (1, .int v1), (4, .int v4)]) hx hb d_T_newestOf_39 rfl hl (by decide) rfl (fun ls hl => ?_)
          refine lv_iinc (v := v4 + 1) (lv' := [(4, .int (v4 + 1)), (3, .int v4), (0, .ref (ad 0)), (1, .int v1)]) hx hb d_T_newestOf_40 hl (k := 3) rfl rfl (by decide) rfl (fun ls hl => ?_)
          refine lv_goto (tgt := 5) hx hb d_T_newestOf_43 (by decide) ?_
          exact ih _ _ _ H locs ls hF hP hD hS (lv_sub hl [2, 3, 1, 0] rfl) hQ
set_option maxHeartbeats 4000000 in
set_option maxRecDepth 100000 in
theorem t_T_newestOf {p : Program} {l : Launch} {e : Env} {s : State} {m : MethodId} {args : Array Value} {below : List Frame} {meth : Method} {c : Code} {A : Nat → Prop} {g : va_G} {cI cJ cZ : ClassId} {ad : Nat → Nat} {rest : va_W} (K : kX p s m args meth c "LockTable" prog_1_method_42_code 5 (some .int) A g (kty cI cJ cZ)) (xst : Nat → Int32) (xse : Nat → Int32) (xre : Nat → Int32) (xgr : Nat → Int32) (ltm : Nat → Int32) (low : Nat → Int32) (lta : Nat → Int32) (llo : Nat → Int64) (lhi : Nat → Int64) (lmo : Nat → Int32) (rta : Nat → Int32) (ron : Nat → Int32) (rlo : Nat → Int64) (rhi : Nat → Int64) (rmo : Nat → Int32) (rin : Nat → Int32) (res : Nat → Int32) (rsi : Nat → Int32) (rli : Nat → Int32) (rar : Nat → Int32) (xgc : Int32) (xca : Int32) (xls : Int32) (xtl : Int32) (xno : Int32) (lco : Int32) (rwa : Int32) (rad : Int32) (a1 : Int32) (a2 : Int32) (r : Int32) (hF : F_T_newestOf xse a1 a2 = some r) {H : Heap} {locs : List Loc} {ls : Array Slot} (hP : va_P g kcl (wC cI cJ cZ ad xst xse xre xgr ltm low lta llo lhi lmo rta ron rlo rhi rmo rin res rsi rli rar xgc xca xls xtl xno lco rwa rad rest) H) (hD : va_D A (wC cI cJ cZ ad xst xse xre xgr ltm low lta llo lhi lmo rta ron rlo rhi rmo rin res rsi rli rar xgc xca xls xtl xno lco rwa rad rest)) (hS : va_S A s.heap H locs) (hl : lv_has ls 5 [(0, .ref (ad 0)), (1, .int a1), (2, .int a2)]) : W p l e ({ frames := 1, cells := 0, slots := 0, locals := 21 }) s m args below meth c H locs 0 0 (MQ below (kQi g (kty cI cJ cZ) (wC cI cJ cZ ad xst xse xre xgr ltm low lta llo lhi lmo rta ron rlo rhi rmo rin res rsi rli rar xgc xca xls xtl xno lco rwa rad rest) A r) args s 0 0 A) (F0 m 0 ls []) := by
  obtain ⟨hx, hb, hr, hml, hown, hts, hlocks, hK, hA, hE⟩ := id K
  unfold F_T_newestOf at hF
  refine lv_iload_n hx hb d_T_newestOf_0 rfl (lv_at hl 2 rfl) ?_
  refine lv_istore_n (lv' := [(3, .int a2), (0, .ref (ad 0)), (1, .int a1), (2, .int a2)]) hx hb d_T_newestOf_1 rfl hl (by decide) rfl (fun ls hl => ?_)
  refine lv_iconst (v := 0) hx hb d_T_newestOf_2 (by decide) ?_
  refine lv_istore (lv' := [(4, .int 0), (3, .int a2), (0, .ref (ad 0)), (1, .int a1), (2, .int a2)]) hx hb d_T_newestOf_3 hl (by decide) rfl (fun ls hl => ?_)
  obtain ⟨v3_7, hG, hF⟩ := ob1_inv hF
  refine t_T_newestOf_L5 K xst xse xre xgr ltm low lta llo lhi lmo rta ron rlo rhi rmo rin res rsi rli rar xgc xca xls xtl xno lco rwa rad a1 fu _ _ _ H locs ls hG hP hD hS (lv_sub hl [2, 3, 1, 0] rfl) (fun H locs ls hP hD hS hl => ?_)
  refine lv_iload_n hx hb d_T_newestOf_46 rfl (lv_at hl 0 rfl) ?_
  cases hF
  exact kri K hP hD hS d_T_newestOf_47 rfl
theorem c_T_newestOf (l : Launch) (g : va_G) (cI cJ cZ : ClassId) (ad : Nat → Nat) (xst : Nat → Int32) (xse : Nat → Int32) (xre : Nat → Int32) (xgr : Nat → Int32) (ltm : Nat → Int32) (low : Nat → Int32) (lta : Nat → Int32) (llo : Nat → Int64) (lhi : Nat → Int64) (lmo : Nat → Int32) (rta : Nat → Int32) (ron : Nat → Int32) (rlo : Nat → Int64) (rhi : Nat → Int64) (rmo : Nat → Int32) (rin : Nat → Int32) (res : Nat → Int32) (rsi : Nat → Int32) (rli : Nat → Int32) (rar : Nat → Int32) (xgc : Int32) (xca : Int32) (xls : Int32) (xtl : Int32) (xno : Int32) (lco : Int32) (rwa : Int32) (rad : Int32) (rest : va_W) (a1 : Int32) (a2 : Int32) (r : Int32) (hF : F_T_newestOf xse a1 a2 = some r) : Ci l y_T_newestOf prog_1_method_42_code 5 (some .int) ({ frames := 1, cells := 0, slots := 0, locals := 21 }) [.ref (ad 0), .int a1, .int a2] g (kty cI cJ cZ) (wC cI cJ cZ ad xst xse xre xgr ltm low lta llo lhi lmo rta ron rlo rhi rmo rin res rsi rli rar xgc xca xls xtl xno lco rwa rad rest) (wC cI cJ cZ ad xst xse xre xgr ltm low lta llo lhi lmo rta ron rlo rhi rmo rin res rsi rli rar xgc xca xls xtl xno lco rwa rad rest) r :=
  Ci.of (by decide) (Nat.le_of_ble_eq_true rfl) (fun p e s m below meth c A ls K hP hD hS hl => t_T_newestOf K xst xse xre xgr ltm low lta llo lhi lmo rta ron rlo rhi rmo rin res rsi rli rar xgc xca xls xtl xno lco rwa rad a1 a2 r hF hP hD hS hl)
def F_T_breakRings_L2 (xse : Nat → Int32) (rta : Nat → Int32) (ron : Nat → Int32) (rlo : Nat → Int64) (rhi : Nat → Int64) (rmo : Nat → Int32) (res : Nat → Int32) (xca : Int32) (v1 : Int32) : Nat → (Nat → Int32) → (Nat → Int32) → (Nat → Int32) → (Nat → Int32) → (Nat → Int32) → (Nat → Int32) → (Nat → Int64) → (Nat → Int64) → (Nat → Int32) → (Nat → Int32) → Int32 → Int32 → Int32 → Int32 → Option ((Nat → Int32) × (Nat → Int32) × (Nat → Int32) × (Nat → Int32) × (Nat → Int32) × (Nat → Int32) × (Nat → Int64) × (Nat → Int64) × (Nat → Int32) × (Nat → Int32) × Int32 × Int32 × Int32)
  | 0, _, _, _, _, _, _, _, _, _, _, _, _, _, _ => none
  | n + 1, xst, xre, xgr, ltm, low, lta, llo, lhi, lmo, rli, xgc, lco, rwa, v2 => if 8 ≤ v2 then some (xst, xre, xgr, ltm, low, lta, llo, lhi, lmo, rli, xgc, lco, rwa) else gd (v1 < 0 ∨ 8 ≤ v1.toNatClampNeg) (if (xst v1.toNatClampNeg) = 2 then ob2 (F_T_ringOf xst xre ltm low lta llo lhi lmo rta ron rlo rhi rmo rli lco rwa v1) (fun r_4 xre_5 => if r_4 = 0 then some (xst, xre_5, xgr, ltm, low, lta, llo, lhi, lmo, rli, xgc, lco, rwa) else ob1 (F_T_newestOf xse r_4 v1) (fun r_7 => ob3 (F_T_takeBack xst rli rwa r_7 3) (fun xst_8 rli_9 rwa_10 => ob12 (F_T_lookAtAll xst_8 xgr ltm low lta llo lhi lmo rta ron rlo rhi rmo res rli_9 xgc xca lco rwa_10) (fun xst_11 xgr_12 ltm_13 low_14 lta_15 llo_16 lhi_17 lmo_18 rli_19 xgc_20 lco_21 rwa_22 => F_T_breakRings_L2 xse rta ron rlo rhi rmo res xca v1 n xst_11 xre_5 xgr_12 ltm_13 low_14 lta_15 llo_16 lhi_17 lmo_18 rli_19 xgc_20 lco_21 rwa_22 (v2 + 1))))) else some (xst, xre, xgr, ltm, low, lta, llo, lhi, lmo, rli, xgc, lco, rwa))
def F_T_breakRings (xst : Nat → Int32) (xse : Nat → Int32) (xre : Nat → Int32) (xgr : Nat → Int32) (ltm : Nat → Int32) (low : Nat → Int32) (lta : Nat → Int32) (llo : Nat → Int64) (lhi : Nat → Int64) (lmo : Nat → Int32) (rta : Nat → Int32) (ron : Nat → Int32) (rlo : Nat → Int64) (rhi : Nat → Int64) (rmo : Nat → Int32) (res : Nat → Int32) (rli : Nat → Int32) (xgc : Int32) (xca : Int32) (lco : Int32) (rwa : Int32) (a1 : Int32) : Option ((Nat → Int32) × (Nat → Int32) × (Nat → Int32) × (Nat → Int32) × (Nat → Int32) × (Nat → Int32) × (Nat → Int64) × (Nat → Int64) × (Nat → Int32) × (Nat → Int32) × Int32 × Int32 × Int32) :=
  F_T_breakRings_L2 xse rta ron rlo rhi rmo res xca a1 fu xst xre xgr ltm low lta llo lhi lmo rli xgc lco rwa 0
set_option maxHeartbeats 4000000 in
set_option maxRecDepth 100000 in
theorem t_T_breakRings_L2 {p : Program} {l : Launch} {e : Env} {s : State} {m : MethodId} {args : Array Value} {below : List Frame} {meth : Method} {c : Code} {A : Nat → Prop} {g : va_G} {cI cJ cZ : ClassId} {ad : Nat → Nat} {rest : va_W} (K : kX p s m args meth c "LockTable" prog_1_method_39_code 4 none A g (kty cI cJ cZ)) (xse : Nat → Int32) (rta : Nat → Int32) (ron : Nat → Int32) (rlo : Nat → Int64) (rhi : Nat → Int64) (rmo : Nat → Int32) (rin : Nat → Int32) (res : Nat → Int32) (rsi : Nat → Int32) (rar : Nat → Int32) (xca : Int32) (xls : Int32) (xtl : Int32) (xno : Int32) (rad : Int32) (v1 : Int32) : ∀ (n : Nat) (xst : Nat → Int32) (xre : Nat → Int32) (xgr : Nat → Int32) (ltm : Nat → Int32) (low : Nat → Int32) (lta : Nat → Int32) (llo : Nat → Int64) (lhi : Nat → Int64) (lmo : Nat → Int32) (rli : Nat → Int32) (xgc : Int32) (lco : Int32) (rwa : Int32) (v2 : Int32) (o_xst : Nat → Int32) (o_xre : Nat → Int32) (o_xgr : Nat → Int32) (o_ltm : Nat → Int32) (o_low : Nat → Int32) (o_lta : Nat → Int32) (o_llo : Nat → Int64) (o_lhi : Nat → Int64) (o_lmo : Nat → Int32) (o_rli : Nat → Int32) (o_xgc : Int32) (o_lco : Int32) (o_rwa : Int32) (H : Heap) (locs : List Loc) (ls : Array Slot), F_T_breakRings_L2 xse rta ron rlo rhi rmo res xca v1 n xst xre xgr ltm low lta llo lhi lmo rli xgc lco rwa v2 = some (o_xst, o_xre, o_xgr, o_ltm, o_low, o_lta, o_llo, o_lhi, o_lmo, o_rli, o_xgc, o_lco, o_rwa) → va_P g kcl (wC cI cJ cZ ad xst xse xre xgr ltm low lta llo lhi lmo rta ron rlo rhi rmo rin res rsi rli rar xgc xca xls xtl xno lco rwa rad rest) H → va_D A (wC cI cJ cZ ad xst xse xre xgr ltm low lta llo lhi lmo rta ron rlo rhi rmo rin res rsi rli rar xgc xca xls xtl xno lco rwa rad rest) → va_S A s.heap H locs → lv_has ls 4 [(0, .ref (ad 0)), (1, .int v1), (2, .int v2)] → W p l e ({ frames := 4, cells := 0, slots := 0, locals := 100 }) s m args below meth c H locs 0 0 (MQ below (kQv g (kty cI cJ cZ) (wC cI cJ cZ ad o_xst xse o_xre o_xgr o_ltm o_low o_lta o_llo o_lhi o_lmo rta ron rlo rhi rmo rin res rsi o_rli rar o_xgc xca xls xtl xno o_lco o_rwa rad rest) A) args s 0 0 A) (F0 m 2 ls []) := by
  obtain ⟨hx, hb, hr, hml, hown, hts, hlocks, hK, hA, hE⟩ := id K
  intro n
  induction n with
  | zero =>
    intro xst xre xgr ltm low lta llo lhi lmo rli xgc lco rwa v2 o_xst o_xre o_xgr o_ltm o_low o_lta o_llo o_lhi o_lmo o_rli o_xgc o_lco o_rwa H locs ls hF
    rw [F_T_breakRings_L2] at hF
    cases hF
  | succ n ih =>
    intro xst xre xgr ltm low lta llo lhi lmo rli xgc lco rwa v2 o_xst o_xre o_xgr o_ltm o_low o_lta o_llo o_lhi o_lmo o_rli o_xgc o_lco o_rwa H locs ls hF hP hD hS hl
    rw [F_T_breakRings_L2] at hF
    refine lv_iload_n hx hb d_T_breakRings_2 rfl (lv_at hl 2 rfl) ?_
    refine lv_bipush (v := 8) hx hb d_T_breakRings_3 (by decide) ?_
    refine lv_icmp_ge (tgt := 50) hx hb d_T_breakRings_5 (by decide) (fun hc_1 => ?_) (fun hc_1 => ?_)
    · have hF := it_t hF hc_1
      cases hF
      exact krv K hP hD hS d_T_breakRings_50
    · have hF := it_f hF hc_1
      refine lv_aload_n hx hb d_T_breakRings_8 rfl (lv_at hl 0 rfl) ?_
      refine va_get (D := g) (ci := 2) (v := .ref (ad 3)) (C := kR2) (T := kT2) (N := 11) hx hb hts kw2 hown hK hP 0 rfl rfl 0 (by decide) (hts _ wm_156) (fun _ h9 => h9) rfl d_T_breakRings_9 ?_
      refine lv_iload_n hx hb d_T_breakRings_12 rfl (lv_at hl 1 rfl) ?_
      obtain ⟨hg_2, hF⟩ := gd_inv hF
      refine va_iald hx hb hK hP 3 0 rfl rfl hg_2 d_T_breakRings_13 ?_
      refine lv_iconst (v := 2) hx hb d_T_breakRings_14 (by decide) ?_
      refine lv_icmp_ne (tgt := 50) hx hb d_T_breakRings_15 (by decide) (fun hc_3 => ?_) (fun hc_3 => ?_)
      · have hF := it_f hF hc_3
        cases hF
        exact krv K hP hD hS d_T_breakRings_50
      · have hF := it_t hF hc_3
        refine lv_aload_n hx hb d_T_breakRings_18 rfl (lv_at hl 0 rfl) ?_
        refine lv_iload_n hx hb d_T_breakRings_19 rfl (lv_at hl 1 rfl) ?_
        obtain ⟨r_4, xre_5, hG, hF⟩ := ob2_inv hF
        refine kci K hP hD hS (c_T_ringOf l g cI cJ cZ ad xst xse xre xgr ltm low lta llo lhi lmo rta ron rlo rhi rmo rin res rsi rli rar xgc xca xls xtl xno lco rwa rad rest v1 r_4 xre_5 hG) wm_429 wm_426 wm_428 wm_13 wm_46 hd_T_ringOf rfl rfl ⟨Nat.le_of_ble_eq_true rfl, Nat.le_of_ble_eq_true rfl⟩ ⟨Nat.zero_le _, Nat.zero_le _⟩ 2 0 rfl rfl rfl hl.1 (rest := []) rfl (Nat.le_of_ble_eq_true rfl) d_T_breakRings_20 (fun H locs hP hD hS => ?_)
        refine lv_istore_n (lv' := [(3, .int r_4), (0, .ref (ad 0)), (1, .int v1), (2, .int v2)]) hx hb d_T_breakRings_23 rfl hl (by decide) rfl (fun ls hl => ?_)
        refine lv_iload_n hx hb d_T_breakRings_24 rfl (lv_at hl 0 rfl) ?_
        refine lv_if_ne (tgt := 29) hx hb d_T_breakRings_25 (by decide) (fun hc_6 => ?_) (fun hc_6 => ?_)
        · have hF := it_f hF hc_6
          refine lv_aload_n hx hb d_T_breakRings_29 rfl (lv_at hl 1 rfl) ?_
          refine lv_aload_n hx hb d_T_breakRings_30 rfl (lv_at hl 1 rfl) ?_
          refine lv_iload_n hx hb d_T_breakRings_31 rfl (lv_at hl 0 rfl) ?_
          refine lv_iload_n hx hb d_T_breakRings_32 rfl (lv_at hl 2 rfl) ?_
          obtain ⟨r_7, hG, hF⟩ := ob1_inv hF
          refine kci K hP hD hS (c_T_newestOf l g cI cJ cZ ad xst xse xre_5 xgr ltm low lta llo lhi lmo rta ron rlo rhi rmo rin res rsi rli rar xgc xca xls xtl xno lco rwa rad rest r_4 v1 r_7 hG) wm_436 wm_433 wm_435 wm_14 wm_46 hd_T_newestOf rfl rfl ⟨Nat.le_of_ble_eq_true rfl, Nat.le_of_ble_eq_true rfl⟩ ⟨Nat.zero_le _, Nat.zero_le _⟩ 2 0 rfl rfl rfl hl.1 (rest := [.ref (ad 0)]) rfl (Nat.le_of_ble_eq_true rfl) d_T_breakRings_33 (fun H locs hP hD hS => ?_)
          refine lv_iconst (v := 3) hx hb d_T_breakRings_36 (by decide) ?_
          obtain ⟨xst_8, rli_9, rwa_10, hG, hF⟩ := ob3_inv hF
          refine kcv K hP hD hS (c_T_takeBack l g cI cJ cZ ad xst xse xre_5 xgr ltm low lta llo lhi lmo rta ron rlo rhi rmo rin res rsi rli rar xgc xca xls xtl xno lco rwa rad rest r_7 3 xst_8 rli_9 rwa_10 hG) wm_440 wm_437 wm_439 wm_15 wm_46 hd_T_takeBack rfl rfl ⟨Nat.le_of_ble_eq_true rfl, Nat.le_of_ble_eq_true rfl⟩ ⟨Nat.zero_le _, Nat.zero_le _⟩ 2 0 rfl rfl rfl hl.1 (rest := []) rfl (Nat.le_of_ble_eq_true rfl) d_T_breakRings_37 (fun H locs hP hD hS => ?_)
          refine lv_aload_n hx hb d_T_breakRings_40 rfl (lv_at hl 1 rfl) ?_
          obtain ⟨xst_11, xgr_12, ltm_13, low_14, lta_15, llo_16, lhi_17, lmo_18, rli_19, xgc_20, lco_21, rwa_22, hG, hF⟩ := ob12_inv hF
          refine kcv K hP hD hS (c_T_lookAtAll l g cI cJ cZ ad xst_8 xse xre_5 xgr ltm low lta llo lhi lmo rta ron rlo rhi rmo rin res rsi rli_9 rar xgc xca xls xtl xno lco rwa_10 rad rest  xst_11 xgr_12 ltm_13 low_14 lta_15 llo_16 lhi_17 lmo_18 rli_19 xgc_20 lco_21 rwa_22 hG) wm_421 wm_418 wm_420 wm_11 wm_46 hd_T_lookAtAll rfl rfl ⟨Nat.le_of_ble_eq_true rfl, Nat.le_of_ble_eq_true rfl⟩ ⟨Nat.zero_le _, Nat.zero_le _⟩ 2 0 rfl rfl rfl hl.1 (rest := []) rfl (Nat.le_of_ble_eq_true rfl) d_T_breakRings_41 (fun H locs hP hD hS => ?_)
          refine lv_iinc (v := v2 + 1) (lv' := [(2, .int (v2 + 1)), (3, .int r_4), (0, .ref (ad 0)), (1, .int v1)]) hx hb d_T_breakRings_44 hl (k := 3) rfl rfl (by decide) rfl (fun ls hl => ?_)
          refine lv_goto (tgt := 2) hx hb d_T_breakRings_47 (by decide) ?_
          exact ih _ _ _ _ _ _ _ _ _ _ _ _ _ _ _ _ _ _ _ _ _ _ _ _ _ _ _ H locs ls hF hP hD hS (lv_sub hl [2, 3, 0] rfl)
        · have hF := it_t hF hc_6
          cases hF
          exact krv K hP hD hS d_T_breakRings_28
set_option maxHeartbeats 4000000 in
set_option maxRecDepth 100000 in
theorem t_T_breakRings {p : Program} {l : Launch} {e : Env} {s : State} {m : MethodId} {args : Array Value} {below : List Frame} {meth : Method} {c : Code} {A : Nat → Prop} {g : va_G} {cI cJ cZ : ClassId} {ad : Nat → Nat} {rest : va_W} (K : kX p s m args meth c "LockTable" prog_1_method_39_code 4 none A g (kty cI cJ cZ)) (xst : Nat → Int32) (xse : Nat → Int32) (xre : Nat → Int32) (xgr : Nat → Int32) (ltm : Nat → Int32) (low : Nat → Int32) (lta : Nat → Int32) (llo : Nat → Int64) (lhi : Nat → Int64) (lmo : Nat → Int32) (rta : Nat → Int32) (ron : Nat → Int32) (rlo : Nat → Int64) (rhi : Nat → Int64) (rmo : Nat → Int32) (rin : Nat → Int32) (res : Nat → Int32) (rsi : Nat → Int32) (rli : Nat → Int32) (rar : Nat → Int32) (xgc : Int32) (xca : Int32) (xls : Int32) (xtl : Int32) (xno : Int32) (lco : Int32) (rwa : Int32) (rad : Int32) (a1 : Int32) (o_xst : Nat → Int32) (o_xre : Nat → Int32) (o_xgr : Nat → Int32) (o_ltm : Nat → Int32) (o_low : Nat → Int32) (o_lta : Nat → Int32) (o_llo : Nat → Int64) (o_lhi : Nat → Int64) (o_lmo : Nat → Int32) (o_rli : Nat → Int32) (o_xgc : Int32) (o_lco : Int32) (o_rwa : Int32) (hF : F_T_breakRings xst xse xre xgr ltm low lta llo lhi lmo rta ron rlo rhi rmo res rli xgc xca lco rwa a1 = some (o_xst, o_xre, o_xgr, o_ltm, o_low, o_lta, o_llo, o_lhi, o_lmo, o_rli, o_xgc, o_lco, o_rwa)) {H : Heap} {locs : List Loc} {ls : Array Slot} (hP : va_P g kcl (wC cI cJ cZ ad xst xse xre xgr ltm low lta llo lhi lmo rta ron rlo rhi rmo rin res rsi rli rar xgc xca xls xtl xno lco rwa rad rest) H) (hD : va_D A (wC cI cJ cZ ad xst xse xre xgr ltm low lta llo lhi lmo rta ron rlo rhi rmo rin res rsi rli rar xgc xca xls xtl xno lco rwa rad rest)) (hS : va_S A s.heap H locs) (hl : lv_has ls 4 [(0, .ref (ad 0)), (1, .int a1)]) : W p l e ({ frames := 4, cells := 0, slots := 0, locals := 100 }) s m args below meth c H locs 0 0 (MQ below (kQv g (kty cI cJ cZ) (wC cI cJ cZ ad o_xst xse o_xre o_xgr o_ltm o_low o_lta o_llo o_lhi o_lmo rta ron rlo rhi rmo rin res rsi o_rli rar o_xgc xca xls xtl xno o_lco o_rwa rad rest) A) args s 0 0 A) (F0 m 0 ls []) := by
  obtain ⟨hx, hb, hr, hml, hown, hts, hlocks, hK, hA, hE⟩ := id K
  unfold F_T_breakRings at hF
  refine lv_iconst (v := 0) hx hb d_T_breakRings_0 (by decide) ?_
  refine lv_istore_n (lv' := [(2, .int 0), (0, .ref (ad 0)), (1, .int a1)]) hx hb d_T_breakRings_1 rfl hl (by decide) rfl (fun ls hl => ?_)
  exact t_T_breakRings_L2 K xse rta ron rlo rhi rmo rin res rsi rar xca xls xtl xno rad a1 fu _ _ _ _ _ _ _ _ _ _ _ _ _ _ _ _ _ _ _ _ _ _ _ _ _ _ _ H locs ls hF hP hD hS (lv_sub hl [1, 2, 0] rfl)
theorem c_T_breakRings (l : Launch) (g : va_G) (cI cJ cZ : ClassId) (ad : Nat → Nat) (xst : Nat → Int32) (xse : Nat → Int32) (xre : Nat → Int32) (xgr : Nat → Int32) (ltm : Nat → Int32) (low : Nat → Int32) (lta : Nat → Int32) (llo : Nat → Int64) (lhi : Nat → Int64) (lmo : Nat → Int32) (rta : Nat → Int32) (ron : Nat → Int32) (rlo : Nat → Int64) (rhi : Nat → Int64) (rmo : Nat → Int32) (rin : Nat → Int32) (res : Nat → Int32) (rsi : Nat → Int32) (rli : Nat → Int32) (rar : Nat → Int32) (xgc : Int32) (xca : Int32) (xls : Int32) (xtl : Int32) (xno : Int32) (lco : Int32) (rwa : Int32) (rad : Int32) (rest : va_W) (a1 : Int32) (o_xst : Nat → Int32) (o_xre : Nat → Int32) (o_xgr : Nat → Int32) (o_ltm : Nat → Int32) (o_low : Nat → Int32) (o_lta : Nat → Int32) (o_llo : Nat → Int64) (o_lhi : Nat → Int64) (o_lmo : Nat → Int32) (o_rli : Nat → Int32) (o_xgc : Int32) (o_lco : Int32) (o_rwa : Int32) (hF : F_T_breakRings xst xse xre xgr ltm low lta llo lhi lmo rta ron rlo rhi rmo res rli xgc xca lco rwa a1 = some (o_xst, o_xre, o_xgr, o_ltm, o_low, o_lta, o_llo, o_lhi, o_lmo, o_rli, o_xgc, o_lco, o_rwa)) : Cv l y_T_breakRings prog_1_method_39_code 4 ({ frames := 4, cells := 0, slots := 0, locals := 100 }) [.ref (ad 0), .int a1] g (kty cI cJ cZ) (wC cI cJ cZ ad xst xse xre xgr ltm low lta llo lhi lmo rta ron rlo rhi rmo rin res rsi rli rar xgc xca xls xtl xno lco rwa rad rest) (wC cI cJ cZ ad o_xst xse o_xre o_xgr o_ltm o_low o_lta o_llo o_lhi o_lmo rta ron rlo rhi rmo rin res rsi o_rli rar o_xgc xca xls xtl xno o_lco o_rwa rad rest) :=
  Cv.of (by decide) (Nat.le_of_ble_eq_true rfl) (fun p e s m below meth c A ls K hP hD hS hl => t_T_breakRings K xst xse xre xgr ltm low lta llo lhi lmo rta ron rlo rhi rmo rin res rsi rli rar xgc xca xls xtl xno lco rwa rad a1 o_xst o_xre o_xgr o_ltm o_low o_lta o_llo o_lhi o_lmo o_rli o_xgc o_lco o_rwa hF hP hD hS hl)
def F_T_takeBackOverdue_L2 (rta : Nat → Int32) (ron : Nat → Int32) (rlo : Nat → Int64) (rhi : Nat → Int64) (rmo : Nat → Int32) (res : Nat → Int32) (rsi : Nat → Int32) (rar : Nat → Int32) (xca : Int32) (xtl : Int32) (xno : Int32) : Nat → (Nat → Int32) → (Nat → Int32) → (Nat → Int32) → (Nat → Int32) → (Nat → Int32) → (Nat → Int64) → (Nat → Int64) → (Nat → Int32) → (Nat → Int32) → Int32 → Int32 → Int32 → Int32 → Option (Int32 × (Nat → Int32) × (Nat → Int32) × (Nat → Int32) × (Nat → Int32) × (Nat → Int32) × (Nat → Int64) × (Nat → Int64) × (Nat → Int32) × (Nat → Int32) × Int32 × Int32 × Int32)
  | 0, _, _, _, _, _, _, _, _, _, _, _, _, _ => none
  | n + 1, xst, xgr, ltm, low, lta, llo, lhi, lmo, rli, xgc, lco, rwa, v1 => if 8 ≤ v1 then some (v1, xst, xgr, ltm, low, lta, llo, lhi, lmo, rli, xgc, lco, rwa) else jn1 (fun (s_2 : Int32) => if s_2 = (-1) then some (v1, xst, xgr, ltm, low, lta, llo, lhi, lmo, rli, xgc, lco, rwa) else ob3 (F_T_takeBack xst rli rwa s_2 1) (fun xst_4 rli_5 rwa_6 => ob12 (F_T_lookAtAll xst_4 xgr ltm low lta llo lhi lmo rta ron rlo rhi rmo res rli_5 xgc xca lco rwa_6) (fun xst_7 xgr_8 ltm_9 low_10 lta_11 llo_12 lhi_13 lmo_14 rli_15 xgc_16 lco_17 rwa_18 => F_T_takeBackOverdue_L2 rta ron rlo rhi rmo res rsi rar xca xtl xno n xst_7 xgr_8 ltm_9 low_10 lta_11 llo_12 lhi_13 lmo_14 rli_15 xgc_16 lco_17 rwa_18 (v1 + 1)))) (fun J34 => if xtl = 0 then J34 (-1) else ob1 (F_R_firstOverdue rsi rli rar rwa xno xtl) (fun r_20 => J34 r_20))
def F_T_takeBackOverdue (xst : Nat → Int32) (xgr : Nat → Int32) (ltm : Nat → Int32) (low : Nat → Int32) (lta : Nat → Int32) (llo : Nat → Int64) (lhi : Nat → Int64) (lmo : Nat → Int32) (rta : Nat → Int32) (ron : Nat → Int32) (rlo : Nat → Int64) (rhi : Nat → Int64) (rmo : Nat → Int32) (res : Nat → Int32) (rsi : Nat → Int32) (rli : Nat → Int32) (rar : Nat → Int32) (xgc : Int32) (xca : Int32) (xtl : Int32) (xno : Int32) (lco : Int32) (rwa : Int32) : Option (Int32 × (Nat → Int32) × (Nat → Int32) × (Nat → Int32) × (Nat → Int32) × (Nat → Int32) × (Nat → Int64) × (Nat → Int64) × (Nat → Int32) × (Nat → Int32) × Int32 × Int32 × Int32) :=
  F_T_takeBackOverdue_L2 rta ron rlo rhi rmo res rsi rar xca xtl xno fu xst xgr ltm low lta llo lhi lmo rli xgc lco rwa 0
set_option maxHeartbeats 4000000 in
set_option maxRecDepth 100000 in
theorem t_T_takeBackOverdue_L2 {p : Program} {l : Launch} {e : Env} {s : State} {m : MethodId} {args : Array Value} {below : List Frame} {meth : Method} {c : Code} {A : Nat → Prop} {g : va_G} {cI cJ cZ : ClassId} {ad : Nat → Nat} {rest : va_W} (K : kX p s m args meth c "LockTable" prog_1_method_43_code 3 (some .int) A g (kty cI cJ cZ)) (xse : Nat → Int32) (xre : Nat → Int32) (rta : Nat → Int32) (ron : Nat → Int32) (rlo : Nat → Int64) (rhi : Nat → Int64) (rmo : Nat → Int32) (rin : Nat → Int32) (res : Nat → Int32) (rsi : Nat → Int32) (rar : Nat → Int32) (xca : Int32) (xls : Int32) (xtl : Int32) (xno : Int32) (rad : Int32) : ∀ (n : Nat) (xst : Nat → Int32) (xgr : Nat → Int32) (ltm : Nat → Int32) (low : Nat → Int32) (lta : Nat → Int32) (llo : Nat → Int64) (lhi : Nat → Int64) (lmo : Nat → Int32) (rli : Nat → Int32) (xgc : Int32) (lco : Int32) (rwa : Int32) (v1 : Int32) (r : Int32) (o_xst : Nat → Int32) (o_xgr : Nat → Int32) (o_ltm : Nat → Int32) (o_low : Nat → Int32) (o_lta : Nat → Int32) (o_llo : Nat → Int64) (o_lhi : Nat → Int64) (o_lmo : Nat → Int32) (o_rli : Nat → Int32) (o_xgc : Int32) (o_lco : Int32) (o_rwa : Int32) (H : Heap) (locs : List Loc) (ls : Array Slot), F_T_takeBackOverdue_L2 rta ron rlo rhi rmo res rsi rar xca xtl xno n xst xgr ltm low lta llo lhi lmo rli xgc lco rwa v1 = some (r, o_xst, o_xgr, o_ltm, o_low, o_lta, o_llo, o_lhi, o_lmo, o_rli, o_xgc, o_lco, o_rwa) → va_P g kcl (wC cI cJ cZ ad xst xse xre xgr ltm low lta llo lhi lmo rta ron rlo rhi rmo rin res rsi rli rar xgc xca xls xtl xno lco rwa rad rest) H → va_D A (wC cI cJ cZ ad xst xse xre xgr ltm low lta llo lhi lmo rta ron rlo rhi rmo rin res rsi rli rar xgc xca xls xtl xno lco rwa rad rest) → va_S A s.heap H locs → lv_has ls 3 [(0, .ref (ad 0)), (1, .int v1)] → W p l e ({ frames := 4, cells := 0, slots := 0, locals := 100 }) s m args below meth c H locs 0 0 (MQ below (kQi g (kty cI cJ cZ) (wC cI cJ cZ ad o_xst xse xre o_xgr o_ltm o_low o_lta o_llo o_lhi o_lmo rta ron rlo rhi rmo rin res rsi o_rli rar o_xgc xca xls xtl xno o_lco o_rwa rad rest) A r) args s 0 0 A) (F0 m 2 ls []) := by
  obtain ⟨hx, hb, hr, hml, hown, hts, hlocks, hK, hA, hE⟩ := id K
  intro n
  induction n with
  | zero =>
    intro xst xgr ltm low lta llo lhi lmo rli xgc lco rwa v1 r o_xst o_xgr o_ltm o_low o_lta o_llo o_lhi o_lmo o_rli o_xgc o_lco o_rwa H locs ls hF
    rw [F_T_takeBackOverdue_L2] at hF
    cases hF
  | succ n ih =>
    intro xst xgr ltm low lta llo lhi lmo rli xgc lco rwa v1 r o_xst o_xgr o_ltm o_low o_lta o_llo o_lhi o_lmo o_rli o_xgc o_lco o_rwa H locs ls hF hP hD hS hl
    rw [F_T_takeBackOverdue_L2] at hF
    refine lv_iload_n hx hb d_T_takeBackOverdue_2 rfl (lv_at hl 1 rfl) ?_
    refine lv_bipush (v := 8) hx hb d_T_takeBackOverdue_3 (by decide) ?_
    refine lv_icmp_ge (tgt := 58) hx hb d_T_takeBackOverdue_5 (by decide) (fun hc_1 => ?_) (fun hc_1 => ?_)
    · have hF := it_t hF hc_1
      refine lv_iload_n hx hb d_T_takeBackOverdue_58 rfl (lv_at hl 1 rfl) ?_
      cases hF
      exact kri K hP hD hS d_T_takeBackOverdue_59 rfl
    · have hF := it_f hF hc_1
      refine lv_aload_n hx hb d_T_takeBackOverdue_8 rfl (lv_at hl 0 rfl) ?_
      refine va_get (D := g) (ci := 2) (v := .int xtl) (C := kR2) (T := kT2) (N := 11) hx hb hts kw2 hown hK hP 0 rfl rfl 9 (by decide) (hts _ wm_165) (fun _ h9 => h9) rfl d_T_takeBackOverdue_9 ?_
      obtain ⟨J34, eJ34, hF⟩ := jn1_inv hF
      have hJ34 : ∀ (s_2 : Int32) (H : Heap) (locs : List Loc) (ls : Array Slot), J34 s_2 = some (r, o_xst, o_xgr, o_ltm, o_low, o_lta, o_llo, o_lhi, o_lmo, o_rli, o_xgc, o_lco, o_rwa) → va_P g kcl (wC cI cJ cZ ad xst xse xre xgr ltm low lta llo lhi lmo rta ron rlo rhi rmo rin res rsi rli rar xgc xca xls xtl xno lco rwa rad rest) H → va_D A (wC cI cJ cZ ad xst xse xre xgr ltm low lta llo lhi lmo rta ron rlo rhi rmo rin res rsi rli rar xgc xca xls xtl xno lco rwa rad rest) → va_S A s.heap H locs → lv_has ls 3 [(0, .ref (ad 0)), (1, .int v1)] → W p l e ({ frames := 4, cells := 0, slots := 0, locals := 100 }) s m args below meth c H locs 0 0 (MQ below (kQi g (kty cI cJ cZ) (wC cI cJ cZ ad o_xst xse xre o_xgr o_ltm o_low o_lta o_llo o_lhi o_lmo rta ron rlo rhi rmo rin res rsi o_rli rar o_xgc xca xls xtl xno o_lco o_rwa rad rest) A r) args s 0 0 A) (F0 m 34 ls [.int s_2]) := by
        intro s_2 H locs ls hF hP hD hS hl
        rw [eJ34] at hF
        refine lv_istore_n (lv' := [(2, .int s_2), (0, .ref (ad 0)), (1, .int v1)]) hx hb d_T_takeBackOverdue_34 rfl hl (by decide) rfl (fun ls hl => ?_)
        refine lv_iload_n hx hb d_T_takeBackOverdue_35 rfl (lv_at hl 0 rfl) ?_
        refine lv_iconst (v := (-1)) hx hb d_T_takeBackOverdue_36 (by decide) ?_
        refine lv_icmp_ne (tgt := 42) hx hb d_T_takeBackOverdue_37 (by decide) (fun hc_3 => ?_) (fun hc_3 => ?_)
        · have hF := it_f hF hc_3
          refine lv_aload_n hx hb d_T_takeBackOverdue_42 rfl (lv_at hl 1 rfl) ?_
          refine lv_iload_n hx hb d_T_takeBackOverdue_43 rfl (lv_at hl 0 rfl) ?_
          refine lv_iconst (v := 1) hx hb d_T_takeBackOverdue_44 (by decide) ?_
          obtain ⟨xst_4, rli_5, rwa_6, hG, hF⟩ := ob3_inv hF
          refine kcv K hP hD hS (c_T_takeBack l g cI cJ cZ ad xst xse xre xgr ltm low lta llo lhi lmo rta ron rlo rhi rmo rin res rsi rli rar xgc xca xls xtl xno lco rwa rad rest s_2 1 xst_4 rli_5 rwa_6 hG) wm_440 wm_437 wm_439 wm_15 wm_46 hd_T_takeBack rfl rfl ⟨Nat.le_of_ble_eq_true rfl, Nat.le_of_ble_eq_true rfl⟩ ⟨Nat.zero_le _, Nat.zero_le _⟩ 2 0 rfl rfl rfl hl.1 (rest := []) rfl (Nat.le_of_ble_eq_true rfl) d_T_takeBackOverdue_45 (fun H locs hP hD hS => ?_)
          refine lv_aload_n hx hb d_T_takeBackOverdue_48 rfl (lv_at hl 1 rfl) ?_
          obtain ⟨xst_7, xgr_8, ltm_9, low_10, lta_11, llo_12, lhi_13, lmo_14, rli_15, xgc_16, lco_17, rwa_18, hG, hF⟩ := ob12_inv hF
          refine kcv K hP hD hS (c_T_lookAtAll l g cI cJ cZ ad xst_4 xse xre xgr ltm low lta llo lhi lmo rta ron rlo rhi rmo rin res rsi rli_5 rar xgc xca xls xtl xno lco rwa_6 rad rest  xst_7 xgr_8 ltm_9 low_10 lta_11 llo_12 lhi_13 lmo_14 rli_15 xgc_16 lco_17 rwa_18 hG) wm_421 wm_418 wm_420 wm_11 wm_46 hd_T_lookAtAll rfl rfl ⟨Nat.le_of_ble_eq_true rfl, Nat.le_of_ble_eq_true rfl⟩ ⟨Nat.zero_le _, Nat.zero_le _⟩ 2 0 rfl rfl rfl hl.1 (rest := []) rfl (Nat.le_of_ble_eq_true rfl) d_T_takeBackOverdue_49 (fun H locs hP hD hS => ?_)
          refine lv_iinc (v := v1 + 1) (lv' := [(1, .int (v1 + 1)), (2, .int s_2), (0, .ref (ad 0))]) hx hb d_T_takeBackOverdue_52 hl (k := 2) rfl rfl (by decide) rfl (fun ls hl => ?_)
          refine lv_goto (tgt := 2) hx hb d_T_takeBackOverdue_55 (by decide) ?_
          exact ih _ _ _ _ _ _ _ _ _ _ _ _ _ _ _ _ _ _ _ _ _ _ _ _ _ _ H locs ls hF hP hD hS (lv_sub hl [2, 0] rfl)
        · have hF := it_t hF hc_3
          refine lv_iload_n hx hb d_T_takeBackOverdue_40 rfl (lv_at hl 2 rfl) ?_
          cases hF
          exact kri K hP hD hS d_T_takeBackOverdue_41 rfl
      refine lv_if_ne (tgt := 19) hx hb d_T_takeBackOverdue_12 (by decide) (fun hc_19 => ?_) (fun hc_19 => ?_)
      · have hF := it_f hF hc_19
        refine lv_aload_n hx hb d_T_takeBackOverdue_19 rfl (lv_at hl 0 rfl) ?_
        refine va_get (D := g) (ci := 2) (v := .ref (ad 2)) (C := kR2) (T := kT2) (N := 11) hx hb hts kw2 hown hK hP 0 rfl rfl 3 (by decide) (hts _ wm_159) (fun _ h9 => h9) rfl d_T_takeBackOverdue_20 ?_
        refine lv_aload_n hx hb d_T_takeBackOverdue_23 rfl (lv_at hl 0 rfl) ?_
        refine va_get (D := g) (ci := 2) (v := .int xno) (C := kR2) (T := kT2) (N := 11) hx hb hts kw2 hown hK hP 0 rfl rfl 10 (by decide) (hts _ wm_166) (fun _ h9 => h9) rfl d_T_takeBackOverdue_24 ?_
        refine lv_aload_n hx hb d_T_takeBackOverdue_27 rfl (lv_at hl 0 rfl) ?_
        refine va_get (D := g) (ci := 2) (v := .int xtl) (C := kR2) (T := kT2) (N := 11) hx hb hts kw2 hown hK hP 0 rfl rfl 9 (by decide) (hts _ wm_165) (fun _ h9 => h9) rfl d_T_takeBackOverdue_28 ?_
        obtain ⟨r_20, hG, hF⟩ := ob1_inv hF
        refine kci K hP hD hS (c_R_firstOverdue l g cI cJ cZ ad xst xse xre xgr ltm low lta llo lhi lmo rta ron rlo rhi rmo rin res rsi rli rar xgc xca xls xtl xno lco rwa rad rest xno xtl r_20 hG) wm_599 wm_596 wm_597 wm_598 wm_49 hd_R_firstOverdue rfl rfl ⟨Nat.le_of_ble_eq_true rfl, Nat.le_of_ble_eq_true rfl⟩ ⟨Nat.zero_le _, Nat.zero_le _⟩ 1 2 rfl rfl rfl hl.1 (rest := []) rfl (Nat.le_of_ble_eq_true rfl) d_T_takeBackOverdue_31 (fun H locs hP hD hS => ?_)
        exact hJ34 _ H locs ls hF hP hD hS (lv_sub hl [0, 1] rfl)
      · have hF := it_t hF hc_19
        refine lv_iconst (v := (-1)) hx hb d_T_takeBackOverdue_15 (by decide) ?_
        refine lv_goto (tgt := 34) hx hb d_T_takeBackOverdue_16 (by decide) ?_
        exact hJ34 _ H locs ls hF hP hD hS (lv_sub hl [0, 1] rfl)
set_option maxHeartbeats 4000000 in
set_option maxRecDepth 100000 in
theorem t_T_takeBackOverdue {p : Program} {l : Launch} {e : Env} {s : State} {m : MethodId} {args : Array Value} {below : List Frame} {meth : Method} {c : Code} {A : Nat → Prop} {g : va_G} {cI cJ cZ : ClassId} {ad : Nat → Nat} {rest : va_W} (K : kX p s m args meth c "LockTable" prog_1_method_43_code 3 (some .int) A g (kty cI cJ cZ)) (xst : Nat → Int32) (xse : Nat → Int32) (xre : Nat → Int32) (xgr : Nat → Int32) (ltm : Nat → Int32) (low : Nat → Int32) (lta : Nat → Int32) (llo : Nat → Int64) (lhi : Nat → Int64) (lmo : Nat → Int32) (rta : Nat → Int32) (ron : Nat → Int32) (rlo : Nat → Int64) (rhi : Nat → Int64) (rmo : Nat → Int32) (rin : Nat → Int32) (res : Nat → Int32) (rsi : Nat → Int32) (rli : Nat → Int32) (rar : Nat → Int32) (xgc : Int32) (xca : Int32) (xls : Int32) (xtl : Int32) (xno : Int32) (lco : Int32) (rwa : Int32) (rad : Int32)  (r : Int32) (o_xst : Nat → Int32) (o_xgr : Nat → Int32) (o_ltm : Nat → Int32) (o_low : Nat → Int32) (o_lta : Nat → Int32) (o_llo : Nat → Int64) (o_lhi : Nat → Int64) (o_lmo : Nat → Int32) (o_rli : Nat → Int32) (o_xgc : Int32) (o_lco : Int32) (o_rwa : Int32) (hF : F_T_takeBackOverdue xst xgr ltm low lta llo lhi lmo rta ron rlo rhi rmo res rsi rli rar xgc xca xtl xno lco rwa = some (r, o_xst, o_xgr, o_ltm, o_low, o_lta, o_llo, o_lhi, o_lmo, o_rli, o_xgc, o_lco, o_rwa)) {H : Heap} {locs : List Loc} {ls : Array Slot} (hP : va_P g kcl (wC cI cJ cZ ad xst xse xre xgr ltm low lta llo lhi lmo rta ron rlo rhi rmo rin res rsi rli rar xgc xca xls xtl xno lco rwa rad rest) H) (hD : va_D A (wC cI cJ cZ ad xst xse xre xgr ltm low lta llo lhi lmo rta ron rlo rhi rmo rin res rsi rli rar xgc xca xls xtl xno lco rwa rad rest)) (hS : va_S A s.heap H locs) (hl : lv_has ls 3 [(0, .ref (ad 0))]) : W p l e ({ frames := 4, cells := 0, slots := 0, locals := 100 }) s m args below meth c H locs 0 0 (MQ below (kQi g (kty cI cJ cZ) (wC cI cJ cZ ad o_xst xse xre o_xgr o_ltm o_low o_lta o_llo o_lhi o_lmo rta ron rlo rhi rmo rin res rsi o_rli rar o_xgc xca xls xtl xno o_lco o_rwa rad rest) A r) args s 0 0 A) (F0 m 0 ls []) := by
  obtain ⟨hx, hb, hr, hml, hown, hts, hlocks, hK, hA, hE⟩ := id K
  unfold F_T_takeBackOverdue at hF
  refine lv_iconst (v := 0) hx hb d_T_takeBackOverdue_0 (by decide) ?_
  refine lv_istore_n (lv' := [(1, .int 0), (0, .ref (ad 0))]) hx hb d_T_takeBackOverdue_1 rfl hl (by decide) rfl (fun ls hl => ?_)
  exact t_T_takeBackOverdue_L2 K xse xre rta ron rlo rhi rmo rin res rsi rar xca xls xtl xno rad fu _ _ _ _ _ _ _ _ _ _ _ _ _ _ _ _ _ _ _ _ _ _ _ _ _ _ H locs ls hF hP hD hS (lv_sub hl [1, 0] rfl)
theorem c_T_takeBackOverdue (l : Launch) (g : va_G) (cI cJ cZ : ClassId) (ad : Nat → Nat) (xst : Nat → Int32) (xse : Nat → Int32) (xre : Nat → Int32) (xgr : Nat → Int32) (ltm : Nat → Int32) (low : Nat → Int32) (lta : Nat → Int32) (llo : Nat → Int64) (lhi : Nat → Int64) (lmo : Nat → Int32) (rta : Nat → Int32) (ron : Nat → Int32) (rlo : Nat → Int64) (rhi : Nat → Int64) (rmo : Nat → Int32) (rin : Nat → Int32) (res : Nat → Int32) (rsi : Nat → Int32) (rli : Nat → Int32) (rar : Nat → Int32) (xgc : Int32) (xca : Int32) (xls : Int32) (xtl : Int32) (xno : Int32) (lco : Int32) (rwa : Int32) (rad : Int32) (rest : va_W)  (r : Int32) (o_xst : Nat → Int32) (o_xgr : Nat → Int32) (o_ltm : Nat → Int32) (o_low : Nat → Int32) (o_lta : Nat → Int32) (o_llo : Nat → Int64) (o_lhi : Nat → Int64) (o_lmo : Nat → Int32) (o_rli : Nat → Int32) (o_xgc : Int32) (o_lco : Int32) (o_rwa : Int32) (hF : F_T_takeBackOverdue xst xgr ltm low lta llo lhi lmo rta ron rlo rhi rmo res rsi rli rar xgc xca xtl xno lco rwa = some (r, o_xst, o_xgr, o_ltm, o_low, o_lta, o_llo, o_lhi, o_lmo, o_rli, o_xgc, o_lco, o_rwa)) : Ci l y_T_takeBackOverdue prog_1_method_43_code 3 (some .int) ({ frames := 4, cells := 0, slots := 0, locals := 100 }) [.ref (ad 0)] g (kty cI cJ cZ) (wC cI cJ cZ ad xst xse xre xgr ltm low lta llo lhi lmo rta ron rlo rhi rmo rin res rsi rli rar xgc xca xls xtl xno lco rwa rad rest) (wC cI cJ cZ ad o_xst xse xre o_xgr o_ltm o_low o_lta o_llo o_lhi o_lmo rta ron rlo rhi rmo rin res rsi o_rli rar o_xgc xca xls xtl xno o_lco o_rwa rad rest) r :=
  Ci.of (by decide) (Nat.le_of_ble_eq_true rfl) (fun p e s m below meth c A ls K hP hD hS hl => t_T_takeBackOverdue K xst xse xre xgr ltm low lta llo lhi lmo rta ron rlo rhi rmo rin res rsi rli rar xgc xca xls xtl xno lco rwa rad  r o_xst o_xgr o_ltm o_low o_lta o_llo o_lhi o_lmo o_rli o_xgc o_lco o_rwa hF hP hD hS hl)
def F_T_ask (xst : Nat → Int32) (xse : Nat → Int32) (xre : Nat → Int32) (xgr : Nat → Int32) (ltm : Nat → Int32) (low : Nat → Int32) (lta : Nat → Int32) (llo : Nat → Int64) (lhi : Nat → Int64) (lmo : Nat → Int32) (rta : Nat → Int32) (ron : Nat → Int32) (rlo : Nat → Int64) (rhi : Nat → Int64) (rmo : Nat → Int32) (rin : Nat → Int32) (res : Nat → Int32) (rsi : Nat → Int32) (rli : Nat → Int32) (rar : Nat → Int32) (xgc : Int32) (xca : Int32) (xno : Int32) (lco : Int32) (rwa : Int32) (rad : Int32) (a1 : Int32) : Option (Int32 × (Nat → Int32) × (Nat → Int32) × (Nat → Int32) × (Nat → Int32) × (Nat → Int32) × (Nat → Int32) × (Nat → Int64) × (Nat → Int64) × (Nat → Int32) × (Nat → Int32) × (Nat → Int32) × (Nat → Int32) × Int32 × Int32 × Int32 × Int32) :=
  ob5 (F_R_enter rin rsi rli rar rwa rad a1 xno) (fun rsi_1 rli_2 rar_3 rwa_4 rad_5 => gd (a1 < 0 ∨ 8 ≤ a1.toNatClampNeg) (ob1 (F_T_holdsWhatItAsks ltm rta ron rmo a1) (fun r_7 => jn0 (ob13 (F_T_grant (upd xst a1.toNatClampNeg 2) xgr ltm low lta llo lhi lmo rta ron rlo rhi rmo res rli_2 xgc xca lco rwa_4 a1) (fun r_8 xst_9 xgr_10 ltm_11 low_12 lta_13 llo_14 lhi_15 lmo_16 rli_17 xgc_18 lco_19 rwa_20 => if r_8 = 0 then some (0, xst_9, xre, xgr_10, ltm_11, low_12, lta_13, llo_14, lhi_15, lmo_16, rsi_1, rli_17, rar_3, xgc_18, lco_19, rwa_20, rad_5) else ob12 (F_T_lookAtAll xst_9 xgr_10 ltm_11 low_12 lta_13 llo_14 lhi_15 lmo_16 rta ron rlo rhi rmo res rli_17 xgc_18 xca lco_19 rwa_20) (fun xst_22 xgr_23 ltm_24 low_25 lta_26 llo_27 lhi_28 lmo_29 rli_30 xgc_31 lco_32 rwa_33 => some (0, xst_22, xre, xgr_23, ltm_24, low_25, lta_26, llo_27, lhi_28, lmo_29, rsi_1, rli_30, rar_3, xgc_31, lco_32, rwa_33, rad_5)))) (fun J35 => if r_7 = 0 then ob1 (F_T_blockers ltm low lta llo lhi lmo rta ron rlo rhi rmo rli_2 lco rwa_4 a1) (fun r_35 => if r_35 = 0 then J35  else ob13 (F_T_breakRings (upd xst a1.toNatClampNeg 2) xse xre xgr ltm low lta llo lhi lmo rta ron rlo rhi rmo res rli_2 xgc xca lco rwa_4 a1) (fun xst_37 xre_38 xgr_39 ltm_40 low_41 lta_42 llo_43 lhi_44 lmo_45 rli_46 xgc_47 lco_48 rwa_49 => gd (a1 < 0 ∨ 8 ≤ a1.toNatClampNeg) (if (xst_37 a1.toNatClampNeg) = 2 then some (1, xst_37, xre_38, xgr_39, ltm_40, low_41, lta_42, llo_43, lhi_44, lmo_45, rsi_1, rli_46, rar_3, xgc_47, lco_48, rwa_49, rad_5) else gd (a1 < 0 ∨ 8 ≤ a1.toNatClampNeg) (if (xst_37 a1.toNatClampNeg) = 3 then some (2, xst_37, xre_38, xgr_39, ltm_40, low_41, lta_42, llo_43, lhi_44, lmo_45, rsi_1, rli_46, rar_3, xgc_47, lco_48, rwa_49, rad_5) else some (0, xst_37, xre_38, xgr_39, ltm_40, low_41, lta_42, llo_43, lhi_44, lmo_45, rsi_1, rli_46, rar_3, xgc_47, lco_48, rwa_49, rad_5))))) else J35 ))))
set_option maxHeartbeats 4000000 in
set_option maxRecDepth 100000 in
theorem t_T_ask {p : Program} {l : Launch} {e : Env} {s : State} {m : MethodId} {args : Array Value} {below : List Frame} {meth : Method} {c : Code} {A : Nat → Prop} {g : va_G} {cI cJ cZ : ClassId} {ad : Nat → Nat} {rest : va_W} (K : kX p s m args meth c "LockTable" prog_1_method_33_code 2 (some .int) A g (kty cI cJ cZ)) (xst : Nat → Int32) (xse : Nat → Int32) (xre : Nat → Int32) (xgr : Nat → Int32) (ltm : Nat → Int32) (low : Nat → Int32) (lta : Nat → Int32) (llo : Nat → Int64) (lhi : Nat → Int64) (lmo : Nat → Int32) (rta : Nat → Int32) (ron : Nat → Int32) (rlo : Nat → Int64) (rhi : Nat → Int64) (rmo : Nat → Int32) (rin : Nat → Int32) (res : Nat → Int32) (rsi : Nat → Int32) (rli : Nat → Int32) (rar : Nat → Int32) (xgc : Int32) (xca : Int32) (xls : Int32) (xtl : Int32) (xno : Int32) (lco : Int32) (rwa : Int32) (rad : Int32) (a1 : Int32) (r : Int32) (o_xst : Nat → Int32) (o_xre : Nat → Int32) (o_xgr : Nat → Int32) (o_ltm : Nat → Int32) (o_low : Nat → Int32) (o_lta : Nat → Int32) (o_llo : Nat → Int64) (o_lhi : Nat → Int64) (o_lmo : Nat → Int32) (o_rsi : Nat → Int32) (o_rli : Nat → Int32) (o_rar : Nat → Int32) (o_xgc : Int32) (o_lco : Int32) (o_rwa : Int32) (o_rad : Int32) (hF : F_T_ask xst xse xre xgr ltm low lta llo lhi lmo rta ron rlo rhi rmo rin res rsi rli rar xgc xca xno lco rwa rad a1 = some (r, o_xst, o_xre, o_xgr, o_ltm, o_low, o_lta, o_llo, o_lhi, o_lmo, o_rsi, o_rli, o_rar, o_xgc, o_lco, o_rwa, o_rad)) {H : Heap} {locs : List Loc} {ls : Array Slot} (hP : va_P g kcl (wC cI cJ cZ ad xst xse xre xgr ltm low lta llo lhi lmo rta ron rlo rhi rmo rin res rsi rli rar xgc xca xls xtl xno lco rwa rad rest) H) (hD : va_D A (wC cI cJ cZ ad xst xse xre xgr ltm low lta llo lhi lmo rta ron rlo rhi rmo rin res rsi rli rar xgc xca xls xtl xno lco rwa rad rest)) (hS : va_S A s.heap H locs) (hl : lv_has ls 2 [(0, .ref (ad 0)), (1, .int a1)]) : W p l e ({ frames := 5, cells := 0, slots := 0, locals := 123 }) s m args below meth c H locs 0 0 (MQ below (kQi g (kty cI cJ cZ) (wC cI cJ cZ ad o_xst xse o_xre o_xgr o_ltm o_low o_lta o_llo o_lhi o_lmo rta ron rlo rhi rmo rin res o_rsi o_rli o_rar o_xgc xca xls xtl xno o_lco o_rwa o_rad rest) A r) args s 0 0 A) (F0 m 0 ls []) := by
  obtain ⟨hx, hb, hr, hml, hown, hts, hlocks, hK, hA, hE⟩ := id K
  unfold F_T_ask at hF
  refine lv_aload_n hx hb d_T_ask_0 rfl (lv_at hl 0 rfl) ?_
  refine va_get (D := g) (ci := 2) (v := .ref (ad 2)) (C := kR2) (T := kT2) (N := 11) hx hb hts kw2 hown hK hP 0 rfl rfl 3 (by decide) (hts _ wm_159) (fun _ h9 => h9) rfl d_T_ask_1 ?_
  refine lv_iload_n hx hb d_T_ask_4 rfl (lv_at hl 1 rfl) ?_
  refine lv_aload_n hx hb d_T_ask_5 rfl (lv_at hl 0 rfl) ?_
  refine va_get (D := g) (ci := 2) (v := .int xno) (C := kR2) (T := kT2) (N := 11) hx hb hts kw2 hown hK hP 0 rfl rfl 10 (by decide) (hts _ wm_166) (fun _ h9 => h9) rfl d_T_ask_6 ?_
  obtain ⟨rsi_1, rli_2, rar_3, rwa_4, rad_5, hG, hF⟩ := ob5_inv hF
  refine kcv K hP hD hS (c_R_enter l g cI cJ cZ ad xst xse xre xgr ltm low lta llo lhi lmo rta ron rlo rhi rmo rin res rsi rli rar xgc xca xls xtl xno lco rwa rad rest a1 xno rsi_1 rli_2 rar_3 rwa_4 rad_5 hG) wm_360 wm_357 wm_358 wm_359 wm_49 hd_R_enter rfl rfl ⟨Nat.le_of_ble_eq_true rfl, Nat.le_of_ble_eq_true rfl⟩ ⟨Nat.zero_le _, Nat.zero_le _⟩ 1 2 rfl rfl rfl hl.1 (rest := []) rfl (Nat.le_of_ble_eq_true rfl) d_T_ask_9 (fun H locs hP hD hS => ?_)
  refine lv_aload_n hx hb d_T_ask_12 rfl (lv_at hl 0 rfl) ?_
  refine va_get (D := g) (ci := 2) (v := .ref (ad 3)) (C := kR2) (T := kT2) (N := 11) hx hb hts kw2 hown hK hP 0 rfl rfl 0 (by decide) (hts _ wm_156) (fun _ h9 => h9) rfl d_T_ask_13 ?_
  refine lv_iload_n hx hb d_T_ask_16 rfl (lv_at hl 1 rfl) ?_
  refine lv_iconst (v := 2) hx hb d_T_ask_17 (by decide) ?_
  obtain ⟨hg_6, hF⟩ := gd_inv hF
  refine va_iast hx hb hK hP hD hS 3 0 rfl rfl hg_6 d_T_ask_18 (fun H locs hP hD hS => ?_)
  have hP : va_P g kcl (wC cI cJ cZ ad (upd xst a1.toNatClampNeg 2) xse xre xgr ltm low lta llo lhi lmo rta ron rlo rhi rmo rin res rsi_1 rli_2 rar_3 xgc xca xls xtl xno lco rwa_4 rad_5 rest) H := hP
  have hD : va_D A (wC cI cJ cZ ad (upd xst a1.toNatClampNeg 2) xse xre xgr ltm low lta llo lhi lmo rta ron rlo rhi rmo rin res rsi_1 rli_2 rar_3 xgc xca xls xtl xno lco rwa_4 rad_5 rest) := hD
  refine lv_aload_n hx hb d_T_ask_19 rfl (lv_at hl 0 rfl) ?_
  refine lv_iload_n hx hb d_T_ask_20 rfl (lv_at hl 1 rfl) ?_
  obtain ⟨r_7, hG, hF⟩ := ob1_inv hF
  refine kci K hP hD hS (c_T_holdsWhatItAsks l g cI cJ cZ ad (upd xst a1.toNatClampNeg 2) xse xre xgr ltm low lta llo lhi lmo rta ron rlo rhi rmo rin res rsi_1 rli_2 rar_3 xgc xca xls xtl xno lco rwa_4 rad_5 rest a1 r_7 hG) wm_364 wm_361 wm_363 wm_5 wm_46 hd_T_holdsWhatItAsks rfl rfl ⟨Nat.le_of_ble_eq_true rfl, Nat.le_of_ble_eq_true rfl⟩ ⟨Nat.zero_le _, Nat.zero_le _⟩ 2 0 rfl rfl rfl hl.1 (rest := []) rfl (Nat.le_of_ble_eq_true rfl) d_T_ask_21 (fun H locs hP hD hS => ?_)
  obtain ⟨J35, eJ35, hF⟩ := jn0_inv hF
  have hJ35 : ∀  (H : Heap) (locs : List Loc) (ls : Array Slot), J35  = some (r, o_xst, o_xre, o_xgr, o_ltm, o_low, o_lta, o_llo, o_lhi, o_lmo, o_rsi, o_rli, o_rar, o_xgc, o_lco, o_rwa, o_rad) → va_P g kcl (wC cI cJ cZ ad (upd xst a1.toNatClampNeg 2) xse xre xgr ltm low lta llo lhi lmo rta ron rlo rhi rmo rin res rsi_1 rli_2 rar_3 xgc xca xls xtl xno lco rwa_4 rad_5 rest) H → va_D A (wC cI cJ cZ ad (upd xst a1.toNatClampNeg 2) xse xre xgr ltm low lta llo lhi lmo rta ron rlo rhi rmo rin res rsi_1 rli_2 rar_3 xgc xca xls xtl xno lco rwa_4 rad_5 rest) → va_S A s.heap H locs → lv_has ls 2 [(0, .ref (ad 0)), (1, .int a1)] → W p l e ({ frames := 5, cells := 0, slots := 0, locals := 123 }) s m args below meth c H locs 0 0 (MQ below (kQi g (kty cI cJ cZ) (wC cI cJ cZ ad o_xst xse o_xre o_xgr o_ltm o_low o_lta o_llo o_lhi o_lmo rta ron rlo rhi rmo rin res o_rsi o_rli o_rar o_xgc xca xls xtl xno o_lco o_rwa o_rad rest) A r) args s 0 0 A) (F0 m 35 ls []) := by
    intro  H locs ls hF hP hD hS hl
    rw [eJ35] at hF
    refine lv_aload_n hx hb d_T_ask_35 rfl (lv_at hl 0 rfl) ?_
    refine lv_iload_n hx hb d_T_ask_36 rfl (lv_at hl 1 rfl) ?_
    obtain ⟨r_8, xst_9, xgr_10, ltm_11, low_12, lta_13, llo_14, lhi_15, lmo_16, rli_17, xgc_18, lco_19, rwa_20, hG, hF⟩ := ob13_inv hF
    refine kci K hP hD hS (c_T_grant l g cI cJ cZ ad (upd xst a1.toNatClampNeg 2) xse xre xgr ltm low lta llo lhi lmo rta ron rlo rhi rmo rin res rsi_1 rli_2 rar_3 xgc xca xls xtl xno lco rwa_4 rad_5 rest a1 r_8 xst_9 xgr_10 ltm_11 low_12 lta_13 llo_14 lhi_15 lmo_16 rli_17 xgc_18 lco_19 rwa_20 hG) wm_393 wm_390 wm_392 wm_8 wm_46 hd_T_grant rfl rfl ⟨Nat.le_of_ble_eq_true rfl, Nat.le_of_ble_eq_true rfl⟩ ⟨Nat.zero_le _, Nat.zero_le _⟩ 2 0 rfl rfl rfl hl.1 (rest := []) rfl (Nat.le_of_ble_eq_true rfl) d_T_ask_37 (fun H locs hP hD hS => ?_)
    refine lv_if_eq (tgt := 47) hx hb d_T_ask_40 (by decide) (fun hc_21 => ?_) (fun hc_21 => ?_)
    · have hF := it_t hF hc_21
      refine lv_iconst (v := 0) hx hb d_T_ask_47 (by decide) ?_
      cases hF
      exact kri K hP hD hS d_T_ask_48 rfl
    · have hF := it_f hF hc_21
      refine lv_aload_n hx hb d_T_ask_43 rfl (lv_at hl 0 rfl) ?_
      obtain ⟨xst_22, xgr_23, ltm_24, low_25, lta_26, llo_27, lhi_28, lmo_29, rli_30, xgc_31, lco_32, rwa_33, hG, hF⟩ := ob12_inv hF
      refine kcv K hP hD hS (c_T_lookAtAll l g cI cJ cZ ad xst_9 xse xre xgr_10 ltm_11 low_12 lta_13 llo_14 lhi_15 lmo_16 rta ron rlo rhi rmo rin res rsi_1 rli_17 rar_3 xgc_18 xca xls xtl xno lco_19 rwa_20 rad_5 rest  xst_22 xgr_23 ltm_24 low_25 lta_26 llo_27 lhi_28 lmo_29 rli_30 xgc_31 lco_32 rwa_33 hG) wm_421 wm_418 wm_420 wm_11 wm_46 hd_T_lookAtAll rfl rfl ⟨Nat.le_of_ble_eq_true rfl, Nat.le_of_ble_eq_true rfl⟩ ⟨Nat.zero_le _, Nat.zero_le _⟩ 2 0 rfl rfl rfl hl.1 (rest := []) rfl (Nat.le_of_ble_eq_true rfl) d_T_ask_44 (fun H locs hP hD hS => ?_)
      refine lv_iconst (v := 0) hx hb d_T_ask_47 (by decide) ?_
      cases hF
      exact kri K hP hD hS d_T_ask_48 rfl
  refine lv_if_ne (tgt := 35) hx hb d_T_ask_24 (by decide) (fun hc_34 => ?_) (fun hc_34 => ?_)
  · have hF := it_f hF hc_34
    exact hJ35  H locs ls hF hP hD hS (lv_sub hl [0, 1] rfl)
  · have hF := it_t hF hc_34
    refine lv_aload_n hx hb d_T_ask_27 rfl (lv_at hl 0 rfl) ?_
    refine lv_iload_n hx hb d_T_ask_28 rfl (lv_at hl 1 rfl) ?_
    obtain ⟨r_35, hG, hF⟩ := ob1_inv hF
    refine kci K hP hD hS (c_T_blockers l g cI cJ cZ ad (upd xst a1.toNatClampNeg 2) xse xre xgr ltm low lta llo lhi lmo rta ron rlo rhi rmo rin res rsi_1 rli_2 rar_3 xgc xca xls xtl xno lco rwa_4 rad_5 rest a1 r_35 hG) wm_368 wm_365 wm_367 wm_6 wm_46 hd_T_blockers rfl rfl ⟨Nat.le_of_ble_eq_true rfl, Nat.le_of_ble_eq_true rfl⟩ ⟨Nat.zero_le _, Nat.zero_le _⟩ 2 0 rfl rfl rfl hl.1 (rest := []) rfl (Nat.le_of_ble_eq_true rfl) d_T_ask_29 (fun H locs hP hD hS => ?_)
    refine lv_if_ne (tgt := 49) hx hb d_T_ask_32 (by decide) (fun hc_36 => ?_) (fun hc_36 => ?_)
    · have hF := it_f hF hc_36
      refine lv_aload_n hx hb d_T_ask_49 rfl (lv_at hl 0 rfl) ?_
      refine lv_iload_n hx hb d_T_ask_50 rfl (lv_at hl 1 rfl) ?_
      obtain ⟨xst_37, xre_38, xgr_39, ltm_40, low_41, lta_42, llo_43, lhi_44, lmo_45, rli_46, xgc_47, lco_48, rwa_49, hG, hF⟩ := ob13_inv hF
      refine kcv K hP hD hS (c_T_breakRings l g cI cJ cZ ad (upd xst a1.toNatClampNeg 2) xse xre xgr ltm low lta llo lhi lmo rta ron rlo rhi rmo rin res rsi_1 rli_2 rar_3 xgc xca xls xtl xno lco rwa_4 rad_5 rest a1 xst_37 xre_38 xgr_39 ltm_40 low_41 lta_42 llo_43 lhi_44 lmo_45 rli_46 xgc_47 lco_48 rwa_49 hG) wm_425 wm_422 wm_424 wm_12 wm_46 hd_T_breakRings rfl rfl ⟨Nat.le_of_ble_eq_true rfl, Nat.le_of_ble_eq_true rfl⟩ ⟨Nat.zero_le _, Nat.zero_le _⟩ 2 0 rfl rfl rfl hl.1 (rest := []) rfl (Nat.le_of_ble_eq_true rfl) d_T_ask_51 (fun H locs hP hD hS => ?_)
      refine lv_aload_n hx hb d_T_ask_54 rfl (lv_at hl 0 rfl) ?_
      refine va_get (D := g) (ci := 2) (v := .ref (ad 3)) (C := kR2) (T := kT2) (N := 11) hx hb hts kw2 hown hK hP 0 rfl rfl 0 (by decide) (hts _ wm_156) (fun _ h9 => h9) rfl d_T_ask_55 ?_
      refine lv_iload_n hx hb d_T_ask_58 rfl (lv_at hl 1 rfl) ?_
      obtain ⟨hg_50, hF⟩ := gd_inv hF
      refine va_iald hx hb hK hP 3 0 rfl rfl hg_50 d_T_ask_59 ?_
      refine lv_iconst (v := 2) hx hb d_T_ask_60 (by decide) ?_
      refine lv_icmp_ne (tgt := 66) hx hb d_T_ask_61 (by decide) (fun hc_51 => ?_) (fun hc_51 => ?_)
      · have hF := it_f hF hc_51
        refine lv_aload_n hx hb d_T_ask_66 rfl (lv_at hl 0 rfl) ?_
        refine va_get (D := g) (ci := 2) (v := .ref (ad 3)) (C := kR2) (T := kT2) (N := 11) hx hb hts kw2 hown hK hP 0 rfl rfl 0 (by decide) (hts _ wm_156) (fun _ h9 => h9) rfl d_T_ask_67 ?_
        refine lv_iload_n hx hb d_T_ask_70 rfl (lv_at hl 1 rfl) ?_
        obtain ⟨hg_52, hF⟩ := gd_inv hF
        refine va_iald hx hb hK hP 3 0 rfl rfl hg_52 d_T_ask_71 ?_
        refine lv_iconst (v := 3) hx hb d_T_ask_72 (by decide) ?_
        refine lv_icmp_ne (tgt := 80) hx hb d_T_ask_73 (by decide) (fun hc_53 => ?_) (fun hc_53 => ?_)
        · have hF := it_f hF hc_53
          refine lv_iconst (v := 0) hx hb d_T_ask_80 (by decide) ?_
          cases hF
          exact kri K hP hD hS d_T_ask_81 rfl
        · have hF := it_t hF hc_53
          refine lv_iconst (v := 2) hx hb d_T_ask_76 (by decide) ?_
          refine lv_goto (tgt := 81) hx hb d_T_ask_77 (by decide) ?_
          cases hF
          exact kri K hP hD hS d_T_ask_81 rfl
      · have hF := it_t hF hc_51
        refine lv_iconst (v := 1) hx hb d_T_ask_64 (by decide) ?_
        cases hF
        exact kri K hP hD hS d_T_ask_65 rfl
    · have hF := it_t hF hc_36
      exact hJ35  H locs ls hF hP hD hS (lv_sub hl [0, 1] rfl)
theorem c_T_ask (l : Launch) (g : va_G) (cI cJ cZ : ClassId) (ad : Nat → Nat) (xst : Nat → Int32) (xse : Nat → Int32) (xre : Nat → Int32) (xgr : Nat → Int32) (ltm : Nat → Int32) (low : Nat → Int32) (lta : Nat → Int32) (llo : Nat → Int64) (lhi : Nat → Int64) (lmo : Nat → Int32) (rta : Nat → Int32) (ron : Nat → Int32) (rlo : Nat → Int64) (rhi : Nat → Int64) (rmo : Nat → Int32) (rin : Nat → Int32) (res : Nat → Int32) (rsi : Nat → Int32) (rli : Nat → Int32) (rar : Nat → Int32) (xgc : Int32) (xca : Int32) (xls : Int32) (xtl : Int32) (xno : Int32) (lco : Int32) (rwa : Int32) (rad : Int32) (rest : va_W) (a1 : Int32) (r : Int32) (o_xst : Nat → Int32) (o_xre : Nat → Int32) (o_xgr : Nat → Int32) (o_ltm : Nat → Int32) (o_low : Nat → Int32) (o_lta : Nat → Int32) (o_llo : Nat → Int64) (o_lhi : Nat → Int64) (o_lmo : Nat → Int32) (o_rsi : Nat → Int32) (o_rli : Nat → Int32) (o_rar : Nat → Int32) (o_xgc : Int32) (o_lco : Int32) (o_rwa : Int32) (o_rad : Int32) (hF : F_T_ask xst xse xre xgr ltm low lta llo lhi lmo rta ron rlo rhi rmo rin res rsi rli rar xgc xca xno lco rwa rad a1 = some (r, o_xst, o_xre, o_xgr, o_ltm, o_low, o_lta, o_llo, o_lhi, o_lmo, o_rsi, o_rli, o_rar, o_xgc, o_lco, o_rwa, o_rad)) : Ci l y_T_ask prog_1_method_33_code 2 (some .int) ({ frames := 5, cells := 0, slots := 0, locals := 123 }) [.ref (ad 0), .int a1] g (kty cI cJ cZ) (wC cI cJ cZ ad xst xse xre xgr ltm low lta llo lhi lmo rta ron rlo rhi rmo rin res rsi rli rar xgc xca xls xtl xno lco rwa rad rest) (wC cI cJ cZ ad o_xst xse o_xre o_xgr o_ltm o_low o_lta o_llo o_lhi o_lmo rta ron rlo rhi rmo rin res o_rsi o_rli o_rar o_xgc xca xls xtl xno o_lco o_rwa o_rad rest) r :=
  Ci.of (by decide) (Nat.le_of_ble_eq_true rfl) (fun p e s m below meth c A ls K hP hD hS hl => t_T_ask K xst xse xre xgr ltm low lta llo lhi lmo rta ron rlo rhi rmo rin res rsi rli rar xgc xca xls xtl xno lco rwa rad a1 r o_xst o_xre o_xgr o_ltm o_low o_lta o_llo o_lhi o_lmo o_rsi o_rli o_rar o_xgc o_lco o_rwa o_rad hF hP hD hS hl)
def F_T_queue (rli : Nat → Int32) (rwa : Int32) (a1 : Int32) : Option (Int32) :=
  if a1 < 0 then some (-1) else if rwa ≤ a1 then some (-1) else gd (a1 < 0 ∨ 8 ≤ a1.toNatClampNeg) (some (rli a1.toNatClampNeg))
set_option maxHeartbeats 4000000 in
set_option maxRecDepth 100000 in
theorem t_T_queue {p : Program} {l : Launch} {e : Env} {s : State} {m : MethodId} {args : Array Value} {below : List Frame} {meth : Method} {c : Code} {A : Nat → Prop} {g : va_G} {cI cJ cZ : ClassId} {ad : Nat → Nat} {rest : va_W} (K : kX p s m args meth c "LockTable" prog_1_method_18_code 2 (some .int) A g (kty cI cJ cZ)) (xst : Nat → Int32) (xse : Nat → Int32) (xre : Nat → Int32) (xgr : Nat → Int32) (ltm : Nat → Int32) (low : Nat → Int32) (lta : Nat → Int32) (llo : Nat → Int64) (lhi : Nat → Int64) (lmo : Nat → Int32) (rta : Nat → Int32) (ron : Nat → Int32) (rlo : Nat → Int64) (rhi : Nat → Int64) (rmo : Nat → Int32) (rin : Nat → Int32) (res : Nat → Int32) (rsi : Nat → Int32) (rli : Nat → Int32) (rar : Nat → Int32) (xgc : Int32) (xca : Int32) (xls : Int32) (xtl : Int32) (xno : Int32) (lco : Int32) (rwa : Int32) (rad : Int32) (a1 : Int32) (r : Int32) (hF : F_T_queue rli rwa a1 = some r) {H : Heap} {locs : List Loc} {ls : Array Slot} (hP : va_P g kcl (wC cI cJ cZ ad xst xse xre xgr ltm low lta llo lhi lmo rta ron rlo rhi rmo rin res rsi rli rar xgc xca xls xtl xno lco rwa rad rest) H) (hD : va_D A (wC cI cJ cZ ad xst xse xre xgr ltm low lta llo lhi lmo rta ron rlo rhi rmo rin res rsi rli rar xgc xca xls xtl xno lco rwa rad rest)) (hS : va_S A s.heap H locs) (hl : lv_has ls 2 [(0, .ref (ad 0)), (1, .int a1)]) : W p l e ({ frames := 0, cells := 0, slots := 0, locals := 0 }) s m args below meth c H locs 0 0 (MQ below (kQi g (kty cI cJ cZ) (wC cI cJ cZ ad xst xse xre xgr ltm low lta llo lhi lmo rta ron rlo rhi rmo rin res rsi rli rar xgc xca xls xtl xno lco rwa rad rest) A r) args s 0 0 A) (F0 m 0 ls []) := by
  obtain ⟨hx, hb, hr, hml, hown, hts, hlocks, hK, hA, hE⟩ := id K
  unfold F_T_queue at hF
  refine lv_iload_n hx hb d_T_queue_0 rfl (lv_at hl 1 rfl) ?_
  refine lv_if_lt (tgt := 27) hx hb d_T_queue_1 (by decide) (fun hc_1 => ?_) (fun hc_1 => ?_)
  · have hF := it_t hF hc_1
    refine lv_iconst (v := (-1)) hx hb d_T_queue_27 (by decide) ?_
    cases hF
    exact kri K hP hD hS d_T_queue_28 rfl
  · have hF := it_f hF hc_1
    refine lv_iload_n hx hb d_T_queue_4 rfl (lv_at hl 1 rfl) ?_
    refine lv_aload_n hx hb d_T_queue_5 rfl (lv_at hl 0 rfl) ?_
    refine va_get (D := g) (ci := 2) (v := .ref (ad 2)) (C := kR2) (T := kT2) (N := 11) hx hb hts kw2 hown hK hP 0 rfl rfl 3 (by decide) (hts _ wm_159) (fun _ h9 => h9) rfl d_T_queue_6 ?_
    refine va_get (D := g) (ci := 1) (v := .int rwa) (C := kR1) (T := kT1) (N := 12) hx hb hts kw1 hown hK hP 2 rfl rfl 9 (by decide) (hts _ wm_127) (fun _ h9 => h9) rfl d_T_queue_9 ?_
    refine lv_icmp_ge (tgt := 27) hx hb d_T_queue_12 (by decide) (fun hc_2 => ?_) (fun hc_2 => ?_)
    · have hF := it_t hF hc_2
      refine lv_iconst (v := (-1)) hx hb d_T_queue_27 (by decide) ?_
      cases hF
      exact kri K hP hD hS d_T_queue_28 rfl
    · have hF := it_f hF hc_2
      refine lv_aload_n hx hb d_T_queue_15 rfl (lv_at hl 0 rfl) ?_
      refine va_get (D := g) (ci := 2) (v := .ref (ad 2)) (C := kR2) (T := kT2) (N := 11) hx hb hts kw2 hown hK hP 0 rfl rfl 3 (by decide) (hts _ wm_159) (fun _ h9 => h9) rfl d_T_queue_16 ?_
      refine va_get (D := g) (ci := 1) (v := .ref (ad 21)) (C := kR1) (T := kT1) (N := 12) hx hb hts kw1 hown hK hP 2 rfl rfl 8 (by decide) (hts _ wm_125) (fun _ h9 => h9) rfl d_T_queue_19 ?_
      refine lv_iload_n hx hb d_T_queue_22 rfl (lv_at hl 1 rfl) ?_
      obtain ⟨hg_3, hF⟩ := gd_inv hF
      refine va_iald hx hb hK hP 21 0 rfl rfl hg_3 d_T_queue_23 ?_
      refine lv_goto (tgt := 28) hx hb d_T_queue_24 (by decide) ?_
      cases hF
      exact kri K hP hD hS d_T_queue_28 rfl
theorem c_T_queue (l : Launch) (g : va_G) (cI cJ cZ : ClassId) (ad : Nat → Nat) (xst : Nat → Int32) (xse : Nat → Int32) (xre : Nat → Int32) (xgr : Nat → Int32) (ltm : Nat → Int32) (low : Nat → Int32) (lta : Nat → Int32) (llo : Nat → Int64) (lhi : Nat → Int64) (lmo : Nat → Int32) (rta : Nat → Int32) (ron : Nat → Int32) (rlo : Nat → Int64) (rhi : Nat → Int64) (rmo : Nat → Int32) (rin : Nat → Int32) (res : Nat → Int32) (rsi : Nat → Int32) (rli : Nat → Int32) (rar : Nat → Int32) (xgc : Int32) (xca : Int32) (xls : Int32) (xtl : Int32) (xno : Int32) (lco : Int32) (rwa : Int32) (rad : Int32) (rest : va_W) (a1 : Int32) (r : Int32) (hF : F_T_queue rli rwa a1 = some r) : Ci l y_T_queue prog_1_method_18_code 2 (some .int) ({ frames := 0, cells := 0, slots := 0, locals := 0 }) [.ref (ad 0), .int a1] g (kty cI cJ cZ) (wC cI cJ cZ ad xst xse xre xgr ltm low lta llo lhi lmo rta ron rlo rhi rmo rin res rsi rli rar xgc xca xls xtl xno lco rwa rad rest) (wC cI cJ cZ ad xst xse xre xgr ltm low lta llo lhi lmo rta ron rlo rhi rmo rin res rsi rli rar xgc xca xls xtl xno lco rwa rad rest) r :=
  Ci.of (by decide) (Nat.le_of_ble_eq_true rfl) (fun p e s m below meth c A ls K hP hD hS hl => t_T_queue K xst xse xre xgr ltm low lta llo lhi lmo rta ron rlo rhi rmo rin res rsi rli rar xgc xca xls xtl xno lco rwa rad a1 r hF hP hD hS hl)
def F_T_granted (xgr : Nat → Int32) (xgc : Int32) (a1 : Int32) : Option (Int32) :=
  if a1 < 0 then some (-1) else if xgc ≤ a1 then some (-1) else gd (a1 < 0 ∨ 8 ≤ a1.toNatClampNeg) (some (xgr a1.toNatClampNeg))
set_option maxHeartbeats 4000000 in
set_option maxRecDepth 100000 in
theorem t_T_granted {p : Program} {l : Launch} {e : Env} {s : State} {m : MethodId} {args : Array Value} {below : List Frame} {meth : Method} {c : Code} {A : Nat → Prop} {g : va_G} {cI cJ cZ : ClassId} {ad : Nat → Nat} {rest : va_W} (K : kX p s m args meth c "LockTable" prog_1_method_21_code 2 (some .int) A g (kty cI cJ cZ)) (xst : Nat → Int32) (xse : Nat → Int32) (xre : Nat → Int32) (xgr : Nat → Int32) (ltm : Nat → Int32) (low : Nat → Int32) (lta : Nat → Int32) (llo : Nat → Int64) (lhi : Nat → Int64) (lmo : Nat → Int32) (rta : Nat → Int32) (ron : Nat → Int32) (rlo : Nat → Int64) (rhi : Nat → Int64) (rmo : Nat → Int32) (rin : Nat → Int32) (res : Nat → Int32) (rsi : Nat → Int32) (rli : Nat → Int32) (rar : Nat → Int32) (xgc : Int32) (xca : Int32) (xls : Int32) (xtl : Int32) (xno : Int32) (lco : Int32) (rwa : Int32) (rad : Int32) (a1 : Int32) (r : Int32) (hF : F_T_granted xgr xgc a1 = some r) {H : Heap} {locs : List Loc} {ls : Array Slot} (hP : va_P g kcl (wC cI cJ cZ ad xst xse xre xgr ltm low lta llo lhi lmo rta ron rlo rhi rmo rin res rsi rli rar xgc xca xls xtl xno lco rwa rad rest) H) (hD : va_D A (wC cI cJ cZ ad xst xse xre xgr ltm low lta llo lhi lmo rta ron rlo rhi rmo rin res rsi rli rar xgc xca xls xtl xno lco rwa rad rest)) (hS : va_S A s.heap H locs) (hl : lv_has ls 2 [(0, .ref (ad 0)), (1, .int a1)]) : W p l e ({ frames := 0, cells := 0, slots := 0, locals := 0 }) s m args below meth c H locs 0 0 (MQ below (kQi g (kty cI cJ cZ) (wC cI cJ cZ ad xst xse xre xgr ltm low lta llo lhi lmo rta ron rlo rhi rmo rin res rsi rli rar xgc xca xls xtl xno lco rwa rad rest) A r) args s 0 0 A) (F0 m 0 ls []) := by
  obtain ⟨hx, hb, hr, hml, hown, hts, hlocks, hK, hA, hE⟩ := id K
  unfold F_T_granted at hF
  refine lv_iload_n hx hb d_T_granted_0 rfl (lv_at hl 1 rfl) ?_
  refine lv_if_lt (tgt := 21) hx hb d_T_granted_1 (by decide) (fun hc_1 => ?_) (fun hc_1 => ?_)
  · have hF := it_t hF hc_1
    refine lv_iconst (v := (-1)) hx hb d_T_granted_21 (by decide) ?_
    cases hF
    exact kri K hP hD hS d_T_granted_22 rfl
  · have hF := it_f hF hc_1
    refine lv_iload_n hx hb d_T_granted_4 rfl (lv_at hl 1 rfl) ?_
    refine lv_aload_n hx hb d_T_granted_5 rfl (lv_at hl 0 rfl) ?_
    refine va_get (D := g) (ci := 2) (v := .int xgc) (C := kR2) (T := kT2) (N := 11) hx hb hts kw2 hown hK hP 0 rfl rfl 6 (by decide) (hts _ wm_162) (fun _ h9 => h9) rfl d_T_granted_6 ?_
    refine lv_icmp_ge (tgt := 21) hx hb d_T_granted_9 (by decide) (fun hc_2 => ?_) (fun hc_2 => ?_)
    · have hF := it_t hF hc_2
      refine lv_iconst (v := (-1)) hx hb d_T_granted_21 (by decide) ?_
      cases hF
      exact kri K hP hD hS d_T_granted_22 rfl
    · have hF := it_f hF hc_2
      refine lv_aload_n hx hb d_T_granted_12 rfl (lv_at hl 0 rfl) ?_
      refine va_get (D := g) (ci := 2) (v := .ref (ad 6)) (C := kR2) (T := kT2) (N := 11) hx hb hts kw2 hown hK hP 0 rfl rfl 5 (by decide) (hts _ wm_161) (fun _ h9 => h9) rfl d_T_granted_13 ?_
      refine lv_iload_n hx hb d_T_granted_16 rfl (lv_at hl 1 rfl) ?_
      obtain ⟨hg_3, hF⟩ := gd_inv hF
      refine va_iald hx hb hK hP 6 0 rfl rfl hg_3 d_T_granted_17 ?_
      refine lv_goto (tgt := 22) hx hb d_T_granted_18 (by decide) ?_
      cases hF
      exact kri K hP hD hS d_T_granted_22 rfl
theorem c_T_granted (l : Launch) (g : va_G) (cI cJ cZ : ClassId) (ad : Nat → Nat) (xst : Nat → Int32) (xse : Nat → Int32) (xre : Nat → Int32) (xgr : Nat → Int32) (ltm : Nat → Int32) (low : Nat → Int32) (lta : Nat → Int32) (llo : Nat → Int64) (lhi : Nat → Int64) (lmo : Nat → Int32) (rta : Nat → Int32) (ron : Nat → Int32) (rlo : Nat → Int64) (rhi : Nat → Int64) (rmo : Nat → Int32) (rin : Nat → Int32) (res : Nat → Int32) (rsi : Nat → Int32) (rli : Nat → Int32) (rar : Nat → Int32) (xgc : Int32) (xca : Int32) (xls : Int32) (xtl : Int32) (xno : Int32) (lco : Int32) (rwa : Int32) (rad : Int32) (rest : va_W) (a1 : Int32) (r : Int32) (hF : F_T_granted xgr xgc a1 = some r) : Ci l y_T_granted prog_1_method_21_code 2 (some .int) ({ frames := 0, cells := 0, slots := 0, locals := 0 }) [.ref (ad 0), .int a1] g (kty cI cJ cZ) (wC cI cJ cZ ad xst xse xre xgr ltm low lta llo lhi lmo rta ron rlo rhi rmo rin res rsi rli rar xgc xca xls xtl xno lco rwa rad rest) (wC cI cJ cZ ad xst xse xre xgr ltm low lta llo lhi lmo rta ron rlo rhi rmo rin res rsi rli rar xgc xca xls xtl xno lco rwa rad rest) r :=
  Ci.of (by decide) (Nat.le_of_ble_eq_true rfl) (fun p e s m below meth c A ls K hP hD hS hl => t_T_granted K xst xse xre xgr ltm low lta llo lhi lmo rta ron rlo rhi rmo rin res rsi rli rar xgc xca xls xtl xno lco rwa rad a1 r hF hP hD hS hl)
