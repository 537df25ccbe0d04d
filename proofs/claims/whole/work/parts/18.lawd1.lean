theorem d_W_law_0 : decode code 0 = .ok (.new 8, 3) := by decide +kernel
theorem d_W_law_3 : decode code 3 = .ok (.dup, 1) := by decide +kernel
theorem d_W_law_4 : decode code 4 = .ok (.invokespecial 75, 3) := by decide +kernel
theorem d_W_law_7 : decode code 7 = .ok (.astore_n 1, 1) := by decide +kernel
theorem d_W_law_8 : decode code 8 = .ok (.new 76, 3) := by decide +kernel
theorem d_W_law_11 : decode code 11 = .ok (.dup, 1) := by decide +kernel
theorem d_W_law_12 : decode code 12 = .ok (.invokespecial 78, 3) := by decide +kernel
theorem d_W_law_15 : decode code 15 = .ok (.astore_n 2, 1) := by decide +kernel
theorem d_W_law_16 : decode code 16 = .ok (.iconst 1, 1) := by decide +kernel
theorem d_W_law_17 : decode code 17 = .ok (.newarray .long, 2) := by decide +kernel
theorem d_W_law_19 : decode code 19 = .ok (.astore_n 3, 1) := by decide +kernel
theorem d_W_law_20 : decode code 20 = .ok (.iconst 0, 1) := by decide +kernel
theorem d_W_law_21 : decode code 21 = .ok (.istore 4, 2) := by decide +kernel
theorem d_W_law_23 : decode code 23 = .ok (.iload 4, 2) := by decide +kernel
theorem d_W_law_25 : decode code 25 = .ok (.aload_n 0, 1) := by decide +kernel
theorem d_W_law_26 : decode code 26 = .ok (.arraylength, 1) := by decide +kernel
theorem d_W_law_27 : decode code 27 = .ok (.bipush 8, 2) := by decide +kernel
theorem d_W_law_29 : decode code 29 = .ok (.isub, 1) := by decide +kernel
theorem d_W_law_30 : decode code 30 = .ok (.if_icmp .gt 1423, 3) := by decide +kernel
theorem d_W_law_33 : decode code 33 = .ok (.aload_n 0, 1) := by decide +kernel
theorem d_W_law_34 : decode code 34 = .ok (.iload 4, 2) := by decide +kernel
theorem d_W_law_36 : decode code 36 = .ok (.iaload, 1) := by decide +kernel
theorem d_W_law_37 : decode code 37 = .ok (.bipush 31, 2) := by decide +kernel
theorem d_W_law_39 : decode code 39 = .ok (.iand, 1) := by decide +kernel
theorem d_W_law_40 : decode code 40 = .ok (.tableswitch 1407 0 20 #[100, 156, 236, 408, 476, 532, 588, 644, 700, 736, 792, 848, 904, 972, 985, 1053, 1165, 1190, 1258, 1314, 1339], 100) := by decide +kernel
theorem d_W_law_140 : decode code 140 = .ok (.aload_n 1, 1) := by decide +kernel
theorem d_W_law_141 : decode code 141 = .ok (.aload_n 0, 1) := by decide +kernel
theorem d_W_law_142 : decode code 142 = .ok (.iload 4, 2) := by decide +kernel
theorem d_W_law_144 : decode code 144 = .ok (.iconst 1, 1) := by decide +kernel
theorem d_W_law_145 : decode code 145 = .ok (.iadd, 1) := by decide +kernel
theorem d_W_law_146 : decode code 146 = .ok (.iaload, 1) := by decide +kernel
theorem d_W_law_147 : decode code 147 = .ok (.aload_n 3, 1) := by decide +kernel
theorem d_W_law_148 : decode code 148 = .ok (.invokestatic 79, 3) := by decide +kernel
theorem d_W_law_151 : decode code 151 = .ok (.istore 5, 2) := by decide +kernel
theorem d_W_law_153 : decode code 153 = .ok (.aload_n 2, 1) := by decide +kernel
theorem d_W_law_154 : decode code 154 = .ok (.aload_n 0, 1) := by decide +kernel
theorem d_W_law_155 : decode code 155 = .ok (.iload 4, 2) := by decide +kernel
theorem d_W_law_157 : decode code 157 = .ok (.iconst 1, 1) := by decide +kernel
theorem d_W_law_158 : decode code 158 = .ok (.iadd, 1) := by decide +kernel
theorem d_W_law_159 : decode code 159 = .ok (.iaload, 1) := by decide +kernel
theorem d_W_law_160 : decode code 160 = .ok (.invokevirtual 84, 3) := by decide +kernel
theorem d_W_law_163 : decode code 163 = .ok (.istore 6, 2) := by decide +kernel
theorem d_W_law_165 : decode code 165 = .ok (.aload_n 2, 1) := by decide +kernel
theorem d_W_law_166 : decode code 166 = .ok (.invokevirtual 85, 3) := by decide +kernel
theorem d_W_law_169 : decode code 169 = .ok (.iload 5, 2) := by decide +kernel
theorem d_W_law_171 : decode code 171 = .ok (.if_icmp .eq 5, 3) := by decide +kernel
theorem d_W_law_174 : decode code 174 = .ok (.iconst 0, 1) := by decide +kernel
theorem d_W_law_175 : decode code 175 = .ok (.ireturn, 1) := by decide +kernel
theorem d_W_law_176 : decode code 176 = .ok (.iload 5, 2) := by decide +kernel
theorem d_W_law_178 : decode code 178 = .ok (.ifCond .ne 15, 3) := by decide +kernel
theorem d_W_law_181 : decode code 181 = .ok (.aload_n 3, 1) := by decide +kernel
theorem d_W_law_182 : decode code 182 = .ok (.iconst 0, 1) := by decide +kernel
theorem d_W_law_183 : decode code 183 = .ok (.laload, 1) := by decide +kernel
theorem d_W_law_184 : decode code 184 = .ok (.iload 6, 2) := by decide +kernel
theorem d_W_law_186 : decode code 186 = .ok (.i2l, 1) := by decide +kernel
theorem d_W_law_187 : decode code 187 = .ok (.lcmp, 1) := by decide +kernel
theorem d_W_law_188 : decode code 188 = .ok (.ifCond .eq 5, 3) := by decide +kernel
theorem d_W_law_191 : decode code 191 = .ok (.iconst 0, 1) := by decide +kernel
theorem d_W_law_192 : decode code 192 = .ok (.ireturn, 1) := by decide +kernel
theorem d_W_law_193 : decode code 193 = .ok (.goto 1254, 3) := by decide +kernel
theorem d_W_law_196 : decode code 196 = .ok (.aload_n 1, 1) := by decide +kernel
theorem d_W_law_197 : decode code 197 = .ok (.aload_n 0, 1) := by decide +kernel
theorem d_W_law_198 : decode code 198 = .ok (.iload 4, 2) := by decide +kernel
theorem d_W_law_200 : decode code 200 = .ok (.iconst 1, 1) := by decide +kernel
theorem d_W_law_201 : decode code 201 = .ok (.iadd, 1) := by decide +kernel
theorem d_W_law_202 : decode code 202 = .ok (.iaload, 1) := by decide +kernel
theorem d_W_law_203 : decode code 203 = .ok (.aload_n 0, 1) := by decide +kernel
theorem d_W_law_204 : decode code 204 = .ok (.iload 4, 2) := by decide +kernel
theorem d_W_law_206 : decode code 206 = .ok (.iconst 2, 1) := by decide +kernel
theorem d_W_law_207 : decode code 207 = .ok (.iadd, 1) := by decide +kernel
theorem d_W_law_208 : decode code 208 = .ok (.iaload, 1) := by decide +kernel
theorem d_W_law_209 : decode code 209 = .ok (.aload_n 0, 1) := by decide +kernel
theorem d_W_law_210 : decode code 210 = .ok (.iload 4, 2) := by decide +kernel
theorem d_W_law_212 : decode code 212 = .ok (.iconst 3, 1) := by decide +kernel
theorem d_W_law_213 : decode code 213 = .ok (.iadd, 1) := by decide +kernel
theorem d_W_law_214 : decode code 214 = .ok (.iaload, 1) := by decide +kernel
theorem d_W_law_215 : decode code 215 = .ok (.aload_n 3, 1) := by decide +kernel
theorem d_W_law_216 : decode code 216 = .ok (.invokestatic 89, 3) := by decide +kernel
theorem d_W_law_219 : decode code 219 = .ok (.istore 5, 2) := by decide +kernel
theorem d_W_law_221 : decode code 221 = .ok (.aload_n 2, 1) := by decide +kernel
theorem d_W_law_222 : decode code 222 = .ok (.aload_n 0, 1) := by decide +kernel
theorem d_W_law_223 : decode code 223 = .ok (.iload 4, 2) := by decide +kernel
theorem d_W_law_225 : decode code 225 = .ok (.iconst 1, 1) := by decide +kernel
theorem d_W_law_226 : decode code 226 = .ok (.iadd, 1) := by decide +kernel
theorem d_W_law_227 : decode code 227 = .ok (.iaload, 1) := by decide +kernel
theorem d_W_law_228 : decode code 228 = .ok (.aload_n 0, 1) := by decide +kernel
theorem d_W_law_229 : decode code 229 = .ok (.iload 4, 2) := by decide +kernel
theorem d_W_law_231 : decode code 231 = .ok (.iconst 2, 1) := by decide +kernel
theorem d_W_law_232 : decode code 232 = .ok (.iadd, 1) := by decide +kernel
theorem d_W_law_233 : decode code 233 = .ok (.iaload, 1) := by decide +kernel
theorem d_W_law_234 : decode code 234 = .ok (.aload_n 0, 1) := by decide +kernel
theorem d_W_law_235 : decode code 235 = .ok (.iload 4, 2) := by decide +kernel
theorem d_W_law_237 : decode code 237 = .ok (.iconst 3, 1) := by decide +kernel
theorem d_W_law_238 : decode code 238 = .ok (.iadd, 1) := by decide +kernel
theorem d_W_law_239 : decode code 239 = .ok (.iaload, 1) := by decide +kernel
theorem d_W_law_240 : decode code 240 = .ok (.invokevirtual 92, 3) := by decide +kernel
theorem d_W_law_243 : decode code 243 = .ok (.istore 6, 2) := by decide +kernel
theorem d_W_law_245 : decode code 245 = .ok (.aload_n 2, 1) := by decide +kernel
theorem d_W_law_246 : decode code 246 = .ok (.invokevirtual 85, 3) := by decide +kernel
theorem d_W_law_249 : decode code 249 = .ok (.iload 5, 2) := by decide +kernel
theorem d_W_law_251 : decode code 251 = .ok (.if_icmp .eq 5, 3) := by decide +kernel
theorem d_W_law_254 : decode code 254 = .ok (.iconst 0, 1) := by decide +kernel
theorem d_W_law_255 : decode code 255 = .ok (.ireturn, 1) := by decide +kernel
theorem d_W_law_256 : decode code 256 = .ok (.iload 5, 2) := by decide +kernel
theorem d_W_law_258 : decode code 258 = .ok (.ifCond .ne 15, 3) := by decide +kernel
theorem d_W_law_261 : decode code 261 = .ok (.aload_n 3, 1) := by decide +kernel
theorem d_W_law_262 : decode code 262 = .ok (.iconst 0, 1) := by decide +kernel
theorem d_W_law_263 : decode code 263 = .ok (.laload, 1) := by decide +kernel
theorem d_W_law_264 : decode code 264 = .ok (.iload 6, 2) := by decide +kernel
theorem d_W_law_266 : decode code 266 = .ok (.i2l, 1) := by decide +kernel
theorem d_W_law_267 : decode code 267 = .ok (.lcmp, 1) := by decide +kernel
theorem d_W_law_268 : decode code 268 = .ok (.ifCond .eq 5, 3) := by decide +kernel
theorem d_W_law_271 : decode code 271 = .ok (.iconst 0, 1) := by decide +kernel
theorem d_W_law_272 : decode code 272 = .ok (.ireturn, 1) := by decide +kernel
theorem d_W_law_273 : decode code 273 = .ok (.goto 1174, 3) := by decide +kernel
theorem d_W_law_276 : decode code 276 = .ok (.aload_n 1, 1) := by decide +kernel
theorem d_W_law_277 : decode code 277 = .ok (.aload_n 0, 1) := by decide +kernel
theorem d_W_law_278 : decode code 278 = .ok (.iload 4, 2) := by decide +kernel
theorem d_W_law_280 : decode code 280 = .ok (.iconst 1, 1) := by decide +kernel
theorem d_W_law_281 : decode code 281 = .ok (.iadd, 1) := by decide +kernel
theorem d_W_law_282 : decode code 282 = .ok (.iaload, 1) := by decide +kernel
theorem d_W_law_283 : decode code 283 = .ok (.aload_n 0, 1) := by decide +kernel
theorem d_W_law_284 : decode code 284 = .ok (.iload 4, 2) := by decide +kernel
theorem d_W_law_286 : decode code 286 = .ok (.iconst 2, 1) := by decide +kernel
theorem d_W_law_287 : decode code 287 = .ok (.iadd, 1) := by decide +kernel
theorem d_W_law_288 : decode code 288 = .ok (.iaload, 1) := by decide +kernel
theorem d_W_law_289 : decode code 289 = .ok (.aload_n 0, 1) := by decide +kernel
theorem d_W_law_290 : decode code 290 = .ok (.iload 4, 2) := by decide +kernel
theorem d_W_law_292 : decode code 292 = .ok (.iconst 3, 1) := by decide +kernel
theorem d_W_law_293 : decode code 293 = .ok (.iadd, 1) := by decide +kernel
theorem d_W_law_294 : decode code 294 = .ok (.iaload, 1) := by decide +kernel
theorem d_W_law_295 : decode code 295 = .ok (.i2l, 1) := by decide +kernel
theorem d_W_law_296 : decode code 296 = .ok (.bipush 32, 2) := by decide +kernel
theorem d_W_law_298 : decode code 298 = .ok (.lshl, 1) := by decide +kernel
theorem d_W_law_299 : decode code 299 = .ok (.aload_n 0, 1) := by decide +kernel
theorem d_W_law_300 : decode code 300 = .ok (.iload 4, 2) := by decide +kernel
theorem d_W_law_302 : decode code 302 = .ok (.iconst 4, 1) := by decide +kernel
theorem d_W_law_303 : decode code 303 = .ok (.iadd, 1) := by decide +kernel
theorem d_W_law_304 : decode code 304 = .ok (.iaload, 1) := by decide +kernel
theorem d_W_law_305 : decode code 305 = .ok (.i2l, 1) := by decide +kernel
theorem d_W_law_306 : decode code 306 = .ok (.ldc2_w 93, 3) := by decide +kernel
theorem d_W_law_309 : decode code 309 = .ok (.land, 1) := by decide +kernel
theorem d_W_law_310 : decode code 310 = .ok (.lor, 1) := by decide +kernel
theorem d_W_law_311 : decode code 311 = .ok (.aload_n 0, 1) := by decide +kernel
theorem d_W_law_312 : decode code 312 = .ok (.iload 4, 2) := by decide +kernel
theorem d_W_law_314 : decode code 314 = .ok (.iconst 5, 1) := by decide +kernel
theorem d_W_law_315 : decode code 315 = .ok (.iadd, 1) := by decide +kernel
theorem d_W_law_316 : decode code 316 = .ok (.iaload, 1) := by decide +kernel
theorem d_W_law_317 : decode code 317 = .ok (.i2l, 1) := by decide +kernel
theorem d_W_law_318 : decode code 318 = .ok (.bipush 32, 2) := by decide +kernel
theorem d_W_law_320 : decode code 320 = .ok (.lshl, 1) := by decide +kernel
theorem d_W_law_321 : decode code 321 = .ok (.aload_n 0, 1) := by decide +kernel
theorem d_W_law_322 : decode code 322 = .ok (.iload 4, 2) := by decide +kernel
theorem d_W_law_324 : decode code 324 = .ok (.bipush 6, 2) := by decide +kernel
theorem d_W_law_326 : decode code 326 = .ok (.iadd, 1) := by decide +kernel
theorem d_W_law_327 : decode code 327 = .ok (.iaload, 1) := by decide +kernel
theorem d_W_law_328 : decode code 328 = .ok (.i2l, 1) := by decide +kernel
theorem d_W_law_329 : decode code 329 = .ok (.ldc2_w 93, 3) := by decide +kernel
theorem d_W_law_332 : decode code 332 = .ok (.land, 1) := by decide +kernel
theorem d_W_law_333 : decode code 333 = .ok (.lor, 1) := by decide +kernel
theorem d_W_law_334 : decode code 334 = .ok (.aload_n 0, 1) := by decide +kernel
theorem d_W_law_335 : decode code 335 = .ok (.iload 4, 2) := by decide +kernel
theorem d_W_law_337 : decode code 337 = .ok (.bipush 7, 2) := by decide +kernel
theorem d_W_law_339 : decode code 339 = .ok (.iadd, 1) := by decide +kernel
theorem d_W_law_340 : decode code 340 = .ok (.iaload, 1) := by decide +kernel
theorem d_W_law_341 : decode code 341 = .ok (.aload_n 3, 1) := by decide +kernel
theorem d_W_law_342 : decode code 342 = .ok (.invokestatic 95, 3) := by decide +kernel
theorem d_W_law_345 : decode code 345 = .ok (.istore 5, 2) := by decide +kernel
theorem d_W_law_347 : decode code 347 = .ok (.aload_n 2, 1) := by decide +kernel
theorem d_W_law_348 : decode code 348 = .ok (.aload_n 0, 1) := by decide +kernel
theorem d_W_law_349 : decode code 349 = .ok (.iload 4, 2) := by decide +kernel
theorem d_W_law_351 : decode code 351 = .ok (.iconst 1, 1) := by decide +kernel
theorem d_W_law_352 : decode code 352 = .ok (.iadd, 1) := by decide +kernel
theorem d_W_law_353 : decode code 353 = .ok (.iaload, 1) := by decide +kernel
theorem d_W_law_354 : decode code 354 = .ok (.aload_n 0, 1) := by decide +kernel
theorem d_W_law_355 : decode code 355 = .ok (.iload 4, 2) := by decide +kernel
theorem d_W_law_357 : decode code 357 = .ok (.iconst 2, 1) := by decide +kernel
theorem d_W_law_358 : decode code 358 = .ok (.iadd, 1) := by decide +kernel
theorem d_W_law_359 : decode code 359 = .ok (.iaload, 1) := by decide +kernel
theorem d_W_law_360 : decode code 360 = .ok (.aload_n 0, 1) := by decide +kernel
theorem d_W_law_361 : decode code 361 = .ok (.iload 4, 2) := by decide +kernel
theorem d_W_law_363 : decode code 363 = .ok (.iconst 3, 1) := by decide +kernel
theorem d_W_law_364 : decode code 364 = .ok (.iadd, 1) := by decide +kernel
theorem d_W_law_365 : decode code 365 = .ok (.iaload, 1) := by decide +kernel
theorem d_W_law_366 : decode code 366 = .ok (.i2l, 1) := by decide +kernel
theorem d_W_law_367 : decode code 367 = .ok (.bipush 32, 2) := by decide +kernel
theorem d_W_law_369 : decode code 369 = .ok (.lshl, 1) := by decide +kernel
theorem d_W_law_370 : decode code 370 = .ok (.aload_n 0, 1) := by decide +kernel
theorem d_W_law_371 : decode code 371 = .ok (.iload 4, 2) := by decide +kernel
theorem d_W_law_373 : decode code 373 = .ok (.iconst 4, 1) := by decide +kernel
theorem d_W_law_374 : decode code 374 = .ok (.iadd, 1) := by decide +kernel
theorem d_W_law_375 : decode code 375 = .ok (.iaload, 1) := by decide +kernel
theorem d_W_law_376 : decode code 376 = .ok (.i2l, 1) := by decide +kernel
theorem d_W_law_377 : decode code 377 = .ok (.ldc2_w 93, 3) := by decide +kernel
theorem d_W_law_380 : decode code 380 = .ok (.land, 1) := by decide +kernel
theorem d_W_law_381 : decode code 381 = .ok (.lor, 1) := by decide +kernel
theorem d_W_law_382 : decode code 382 = .ok (.aload_n 0, 1) := by decide +kernel
theorem d_W_law_383 : decode code 383 = .ok (.iload 4, 2) := by decide +kernel
theorem d_W_law_385 : decode code 385 = .ok (.iconst 5, 1) := by decide +kernel
theorem d_W_law_386 : decode code 386 = .ok (.iadd, 1) := by decide +kernel
theorem d_W_law_387 : decode code 387 = .ok (.iaload, 1) := by decide +kernel
theorem d_W_law_388 : decode code 388 = .ok (.i2l, 1) := by decide +kernel
theorem d_W_law_389 : decode code 389 = .ok (.bipush 32, 2) := by decide +kernel
theorem d_W_law_391 : decode code 391 = .ok (.lshl, 1) := by decide +kernel
theorem d_W_law_392 : decode code 392 = .ok (.aload_n 0, 1) := by decide +kernel
theorem d_W_law_393 : decode code 393 = .ok (.iload 4, 2) := by decide +kernel
theorem d_W_law_395 : decode code 395 = .ok (.bipush 6, 2) := by decide +kernel
theorem d_W_law_397 : decode code 397 = .ok (.iadd, 1) := by decide +kernel
theorem d_W_law_398 : decode code 398 = .ok (.iaload, 1) := by decide +kernel
theorem d_W_law_399 : decode code 399 = .ok (.i2l, 1) := by decide +kernel
theorem d_W_law_400 : decode code 400 = .ok (.ldc2_w 93, 3) := by decide +kernel
theorem d_W_law_403 : decode code 403 = .ok (.land, 1) := by decide +kernel
theorem d_W_law_404 : decode code 404 = .ok (.lor, 1) := by decide +kernel
theorem d_W_law_405 : decode code 405 = .ok (.aload_n 0, 1) := by decide +kernel
theorem d_W_law_406 : decode code 406 = .ok (.iload 4, 2) := by decide +kernel
theorem d_W_law_408 : decode code 408 = .ok (.bipush 7, 2) := by decide +kernel
theorem d_W_law_410 : decode code 410 = .ok (.iadd, 1) := by decide +kernel
theorem d_W_law_411 : decode code 411 = .ok (.iaload, 1) := by decide +kernel
theorem d_W_law_412 : decode code 412 = .ok (.invokevirtual 98, 3) := by decide +kernel
theorem d_W_law_415 : decode code 415 = .ok (.istore 6, 2) := by decide +kernel
theorem d_W_law_417 : decode code 417 = .ok (.aload_n 2, 1) := by decide +kernel
theorem d_W_law_418 : decode code 418 = .ok (.invokevirtual 85, 3) := by decide +kernel
theorem d_W_law_421 : decode code 421 = .ok (.iload 5, 2) := by decide +kernel
theorem d_W_law_423 : decode code 423 = .ok (.if_icmp .eq 5, 3) := by decide +kernel
theorem d_W_law_426 : decode code 426 = .ok (.iconst 0, 1) := by decide +kernel
theorem d_W_law_427 : decode code 427 = .ok (.ireturn, 1) := by decide +kernel
theorem d_W_law_428 : decode code 428 = .ok (.iload 5, 2) := by decide +kernel
theorem d_W_law_430 : decode code 430 = .ok (.ifCond .ne 15, 3) := by decide +kernel
theorem d_W_law_433 : decode code 433 = .ok (.aload_n 3, 1) := by decide +kernel
theorem d_W_law_434 : decode code 434 = .ok (.iconst 0, 1) := by decide +kernel
theorem d_W_law_435 : decode code 435 = .ok (.laload, 1) := by decide +kernel
theorem d_W_law_436 : decode code 436 = .ok (.iload 6, 2) := by decide +kernel
theorem d_W_law_438 : decode code 438 = .ok (.i2l, 1) := by decide +kernel
theorem d_W_law_439 : decode code 439 = .ok (.lcmp, 1) := by decide +kernel
theorem d_W_law_440 : decode code 440 = .ok (.ifCond .eq 5, 3) := by decide +kernel
theorem d_W_law_443 : decode code 443 = .ok (.iconst 0, 1) := by decide +kernel
theorem d_W_law_444 : decode code 444 = .ok (.ireturn, 1) := by decide +kernel
theorem d_W_law_445 : decode code 445 = .ok (.goto 1002, 3) := by decide +kernel
theorem d_W_law_448 : decode code 448 = .ok (.aload_n 1, 1) := by decide +kernel
theorem d_W_law_449 : decode code 449 = .ok (.aload_n 0, 1) := by decide +kernel
theorem d_W_law_450 : decode code 450 = .ok (.iload 4, 2) := by decide +kernel
theorem d_W_law_452 : decode code 452 = .ok (.iconst 1, 1) := by decide +kernel
theorem d_W_law_453 : decode code 453 = .ok (.iadd, 1) := by decide +kernel
theorem d_W_law_454 : decode code 454 = .ok (.iaload, 1) := by decide +kernel
theorem d_W_law_455 : decode code 455 = .ok (.aload_n 0, 1) := by decide +kernel
theorem d_W_law_456 : decode code 456 = .ok (.iload 4, 2) := by decide +kernel
theorem d_W_law_458 : decode code 458 = .ok (.iconst 2, 1) := by decide +kernel
theorem d_W_law_459 : decode code 459 = .ok (.iadd, 1) := by decide +kernel
theorem d_W_law_460 : decode code 460 = .ok (.iaload, 1) := by decide +kernel
theorem d_W_law_461 : decode code 461 = .ok (.aload_n 3, 1) := by decide +kernel
theorem d_W_law_462 : decode code 462 = .ok (.invokestatic 99, 3) := by decide +kernel
theorem d_W_law_465 : decode code 465 = .ok (.istore 5, 2) := by decide +kernel
theorem d_W_law_467 : decode code 467 = .ok (.aload_n 2, 1) := by decide +kernel
theorem d_W_law_468 : decode code 468 = .ok (.aload_n 0, 1) := by decide +kernel
theorem d_W_law_469 : decode code 469 = .ok (.iload 4, 2) := by decide +kernel
theorem d_W_law_471 : decode code 471 = .ok (.iconst 1, 1) := by decide +kernel
theorem d_W_law_472 : decode code 472 = .ok (.iadd, 1) := by decide +kernel
theorem d_W_law_473 : decode code 473 = .ok (.iaload, 1) := by decide +kernel
theorem d_W_law_474 : decode code 474 = .ok (.aload_n 0, 1) := by decide +kernel
theorem d_W_law_475 : decode code 475 = .ok (.iload 4, 2) := by decide +kernel
theorem d_W_law_477 : decode code 477 = .ok (.iconst 2, 1) := by decide +kernel
theorem d_W_law_478 : decode code 478 = .ok (.iadd, 1) := by decide +kernel
theorem d_W_law_479 : decode code 479 = .ok (.iaload, 1) := by decide +kernel
theorem d_W_law_480 : decode code 480 = .ok (.invokevirtual 102, 3) := by decide +kernel
theorem d_W_law_483 : decode code 483 = .ok (.istore 6, 2) := by decide +kernel
theorem d_W_law_485 : decode code 485 = .ok (.aload_n 2, 1) := by decide +kernel
theorem d_W_law_486 : decode code 486 = .ok (.invokevirtual 85, 3) := by decide +kernel
theorem d_W_law_489 : decode code 489 = .ok (.iload 5, 2) := by decide +kernel
theorem d_W_law_491 : decode code 491 = .ok (.if_icmp .eq 5, 3) := by decide +kernel
theorem d_W_law_494 : decode code 494 = .ok (.iconst 0, 1) := by decide +kernel
theorem d_W_law_495 : decode code 495 = .ok (.ireturn, 1) := by decide +kernel
theorem d_W_law_496 : decode code 496 = .ok (.iload 5, 2) := by decide +kernel
theorem d_W_law_498 : decode code 498 = .ok (.ifCond .ne 15, 3) := by decide +kernel
theorem d_W_law_501 : decode code 501 = .ok (.aload_n 3, 1) := by decide +kernel
theorem d_W_law_502 : decode code 502 = .ok (.iconst 0, 1) := by decide +kernel
theorem d_W_law_503 : decode code 503 = .ok (.laload, 1) := by decide +kernel
theorem d_W_law_504 : decode code 504 = .ok (.iload 6, 2) := by decide +kernel
theorem d_W_law_506 : decode code 506 = .ok (.i2l, 1) := by decide +kernel
theorem d_W_law_507 : decode code 507 = .ok (.lcmp, 1) := by decide +kernel
theorem d_W_law_508 : decode code 508 = .ok (.ifCond .eq 5, 3) := by decide +kernel
theorem d_W_law_511 : decode code 511 = .ok (.iconst 0, 1) := by decide +kernel
theorem d_W_law_512 : decode code 512 = .ok (.ireturn, 1) := by decide +kernel
theorem d_W_law_513 : decode code 513 = .ok (.goto 934, 3) := by decide +kernel
theorem d_W_law_516 : decode code 516 = .ok (.aload_n 1, 1) := by decide +kernel
theorem d_W_law_517 : decode code 517 = .ok (.aload_n 0, 1) := by decide +kernel
theorem d_W_law_518 : decode code 518 = .ok (.iload 4, 2) := by decide +kernel
theorem d_W_law_520 : decode code 520 = .ok (.iconst 1, 1) := by decide +kernel
theorem d_W_law_521 : decode code 521 = .ok (.iadd, 1) := by decide +kernel
theorem d_W_law_522 : decode code 522 = .ok (.iaload, 1) := by decide +kernel
theorem d_W_law_523 : decode code 523 = .ok (.aload_n 3, 1) := by decide +kernel
theorem d_W_law_524 : decode code 524 = .ok (.invokestatic 103, 3) := by decide +kernel
theorem d_W_law_527 : decode code 527 = .ok (.istore 5, 2) := by decide +kernel
theorem d_W_law_529 : decode code 529 = .ok (.aload_n 2, 1) := by decide +kernel
theorem d_W_law_530 : decode code 530 = .ok (.aload_n 0, 1) := by decide +kernel
theorem d_W_law_531 : decode code 531 = .ok (.iload 4, 2) := by decide +kernel
theorem d_W_law_533 : decode code 533 = .ok (.iconst 1, 1) := by decide +kernel
theorem d_W_law_534 : decode code 534 = .ok (.iadd, 1) := by decide +kernel
theorem d_W_law_535 : decode code 535 = .ok (.iaload, 1) := by decide +kernel
theorem d_W_law_536 : decode code 536 = .ok (.invokevirtual 105, 3) := by decide +kernel
theorem d_W_law_539 : decode code 539 = .ok (.istore 6, 2) := by decide +kernel
theorem d_W_law_541 : decode code 541 = .ok (.aload_n 2, 1) := by decide +kernel
theorem d_W_law_542 : decode code 542 = .ok (.invokevirtual 85, 3) := by decide +kernel
theorem d_W_law_545 : decode code 545 = .ok (.iload 5, 2) := by decide +kernel
theorem d_W_law_547 : decode code 547 = .ok (.if_icmp .eq 5, 3) := by decide +kernel
theorem d_W_law_550 : decode code 550 = .ok (.iconst 0, 1) := by decide +kernel
theorem d_W_law_551 : decode code 551 = .ok (.ireturn, 1) := by decide +kernel
theorem d_W_law_552 : decode code 552 = .ok (.iload 5, 2) := by decide +kernel
theorem d_W_law_554 : decode code 554 = .ok (.ifCond .ne 15, 3) := by decide +kernel
theorem d_W_law_557 : decode code 557 = .ok (.aload_n 3, 1) := by decide +kernel
theorem d_W_law_558 : decode code 558 = .ok (.iconst 0, 1) := by decide +kernel
theorem d_W_law_559 : decode code 559 = .ok (.laload, 1) := by decide +kernel
theorem d_W_law_560 : decode code 560 = .ok (.iload 6, 2) := by decide +kernel
theorem d_W_law_562 : decode code 562 = .ok (.i2l, 1) := by decide +kernel
theorem d_W_law_563 : decode code 563 = .ok (.lcmp, 1) := by decide +kernel
theorem d_W_law_564 : decode code 564 = .ok (.ifCond .eq 5, 3) := by decide +kernel
theorem d_W_law_567 : decode code 567 = .ok (.iconst 0, 1) := by decide +kernel
theorem d_W_law_568 : decode code 568 = .ok (.ireturn, 1) := by decide +kernel
theorem d_W_law_569 : decode code 569 = .ok (.goto 878, 3) := by decide +kernel
theorem d_W_law_572 : decode code 572 = .ok (.aload_n 1, 1) := by decide +kernel
theorem d_W_law_573 : decode code 573 = .ok (.aload_n 0, 1) := by decide +kernel
theorem d_W_law_574 : decode code 574 = .ok (.iload 4, 2) := by decide +kernel
theorem d_W_law_576 : decode code 576 = .ok (.iconst 1, 1) := by decide +kernel
theorem d_W_law_577 : decode code 577 = .ok (.iadd, 1) := by decide +kernel
theorem d_W_law_578 : decode code 578 = .ok (.iaload, 1) := by decide +kernel
theorem d_W_law_579 : decode code 579 = .ok (.aload_n 3, 1) := by decide +kernel
theorem d_W_law_580 : decode code 580 = .ok (.invokestatic 106, 3) := by decide +kernel
theorem d_W_law_583 : decode code 583 = .ok (.istore 5, 2) := by decide +kernel
theorem d_W_law_585 : decode code 585 = .ok (.aload_n 2, 1) := by decide +kernel
theorem d_W_law_586 : decode code 586 = .ok (.aload_n 0, 1) := by decide +kernel
theorem d_W_law_587 : decode code 587 = .ok (.iload 4, 2) := by decide +kernel
theorem d_W_law_589 : decode code 589 = .ok (.iconst 1, 1) := by decide +kernel
theorem d_W_law_590 : decode code 590 = .ok (.iadd, 1) := by decide +kernel
theorem d_W_law_591 : decode code 591 = .ok (.iaload, 1) := by decide +kernel
theorem d_W_law_592 : decode code 592 = .ok (.invokevirtual 108, 3) := by decide +kernel
theorem d_W_law_595 : decode code 595 = .ok (.istore 6, 2) := by decide +kernel
theorem d_W_law_597 : decode code 597 = .ok (.aload_n 2, 1) := by decide +kernel
theorem d_W_law_598 : decode code 598 = .ok (.invokevirtual 85, 3) := by decide +kernel
theorem d_W_law_601 : decode code 601 = .ok (.iload 5, 2) := by decide +kernel
theorem d_W_law_603 : decode code 603 = .ok (.if_icmp .eq 5, 3) := by decide +kernel
theorem d_W_law_606 : decode code 606 = .ok (.iconst 0, 1) := by decide +kernel
theorem d_W_law_607 : decode code 607 = .ok (.ireturn, 1) := by decide +kernel
theorem d_W_law_608 : decode code 608 = .ok (.iload 5, 2) := by decide +kernel
theorem d_W_law_610 : decode code 610 = .ok (.ifCond .ne 15, 3) := by decide +kernel
theorem d_W_law_613 : decode code 613 = .ok (.aload_n 3, 1) := by decide +kernel
theorem d_W_law_614 : decode code 614 = .ok (.iconst 0, 1) := by decide +kernel
theorem d_W_law_615 : decode code 615 = .ok (.laload, 1) := by decide +kernel
theorem d_W_law_616 : decode code 616 = .ok (.iload 6, 2) := by decide +kernel
theorem d_W_law_618 : decode code 618 = .ok (.i2l, 1) := by decide +kernel
theorem d_W_law_619 : decode code 619 = .ok (.lcmp, 1) := by decide +kernel
theorem d_W_law_620 : decode code 620 = .ok (.ifCond .eq 5, 3) := by decide +kernel
theorem d_W_law_623 : decode code 623 = .ok (.iconst 0, 1) := by decide +kernel
theorem d_W_law_624 : decode code 624 = .ok (.ireturn, 1) := by decide +kernel
theorem d_W_law_625 : decode code 625 = .ok (.goto 822, 3) := by decide +kernel
theorem d_W_law_628 : decode code 628 = .ok (.aload_n 1, 1) := by decide +kernel
theorem d_W_law_629 : decode code 629 = .ok (.aload_n 0, 1) := by decide +kernel
theorem d_W_law_630 : decode code 630 = .ok (.iload 4, 2) := by decide +kernel
theorem d_W_law_632 : decode code 632 = .ok (.iconst 1, 1) := by decide +kernel
theorem d_W_law_633 : decode code 633 = .ok (.iadd, 1) := by decide +kernel
theorem d_W_law_634 : decode code 634 = .ok (.iaload, 1) := by decide +kernel
theorem d_W_law_635 : decode code 635 = .ok (.aload_n 3, 1) := by decide +kernel
theorem d_W_law_636 : decode code 636 = .ok (.invokestatic 109, 3) := by decide +kernel
theorem d_W_law_639 : decode code 639 = .ok (.istore 5, 2) := by decide +kernel
theorem d_W_law_641 : decode code 641 = .ok (.aload_n 2, 1) := by decide +kernel
theorem d_W_law_642 : decode code 642 = .ok (.aload_n 0, 1) := by decide +kernel
theorem d_W_law_643 : decode code 643 = .ok (.iload 4, 2) := by decide +kernel
theorem d_W_law_645 : decode code 645 = .ok (.iconst 1, 1) := by decide +kernel
theorem d_W_law_646 : decode code 646 = .ok (.iadd, 1) := by decide +kernel
theorem d_W_law_647 : decode code 647 = .ok (.iaload, 1) := by decide +kernel
theorem d_W_law_648 : decode code 648 = .ok (.invokevirtual 111, 3) := by decide +kernel
theorem d_W_law_651 : decode code 651 = .ok (.istore 6, 2) := by decide +kernel
theorem d_W_law_653 : decode code 653 = .ok (.aload_n 2, 1) := by decide +kernel
theorem d_W_law_654 : decode code 654 = .ok (.invokevirtual 85, 3) := by decide +kernel
theorem d_W_law_657 : decode code 657 = .ok (.iload 5, 2) := by decide +kernel
theorem d_W_law_659 : decode code 659 = .ok (.if_icmp .eq 5, 3) := by decide +kernel
theorem d_W_law_662 : decode code 662 = .ok (.iconst 0, 1) := by decide +kernel
theorem d_W_law_663 : decode code 663 = .ok (.ireturn, 1) := by decide +kernel
theorem d_W_law_664 : decode code 664 = .ok (.iload 5, 2) := by decide +kernel
theorem d_W_law_666 : decode code 666 = .ok (.ifCond .ne 15, 3) := by decide +kernel
theorem d_W_law_669 : decode code 669 = .ok (.aload_n 3, 1) := by decide +kernel
theorem d_W_law_670 : decode code 670 = .ok (.iconst 0, 1) := by decide +kernel
theorem d_W_law_671 : decode code 671 = .ok (.laload, 1) := by decide +kernel
theorem d_W_law_672 : decode code 672 = .ok (.iload 6, 2) := by decide +kernel
theorem d_W_law_674 : decode code 674 = .ok (.i2l, 1) := by decide +kernel
theorem d_W_law_675 : decode code 675 = .ok (.lcmp, 1) := by decide +kernel
theorem d_W_law_676 : decode code 676 = .ok (.ifCond .eq 5, 3) := by decide +kernel
theorem d_W_law_679 : decode code 679 = .ok (.iconst 0, 1) := by decide +kernel
theorem d_W_law_680 : decode code 680 = .ok (.ireturn, 1) := by decide +kernel
theorem d_W_law_681 : decode code 681 = .ok (.goto 766, 3) := by decide +kernel
theorem d_W_law_684 : decode code 684 = .ok (.aload_n 1, 1) := by decide +kernel
theorem d_W_law_685 : decode code 685 = .ok (.aload_n 0, 1) := by decide +kernel
theorem d_W_law_686 : decode code 686 = .ok (.iload 4, 2) := by decide +kernel
theorem d_W_law_688 : decode code 688 = .ok (.iconst 1, 1) := by decide +kernel
theorem d_W_law_689 : decode code 689 = .ok (.iadd, 1) := by decide +kernel
theorem d_W_law_690 : decode code 690 = .ok (.iaload, 1) := by decide +kernel
theorem d_W_law_691 : decode code 691 = .ok (.aload_n 3, 1) := by decide +kernel
theorem d_W_law_692 : decode code 692 = .ok (.invokestatic 112, 3) := by decide +kernel
theorem d_W_law_695 : decode code 695 = .ok (.istore 5, 2) := by decide +kernel
theorem d_W_law_697 : decode code 697 = .ok (.aload_n 2, 1) := by decide +kernel
theorem d_W_law_698 : decode code 698 = .ok (.aload_n 0, 1) := by decide +kernel
theorem d_W_law_699 : decode code 699 = .ok (.iload 4, 2) := by decide +kernel
theorem d_W_law_701 : decode code 701 = .ok (.iconst 1, 1) := by decide +kernel
theorem d_W_law_702 : decode code 702 = .ok (.iadd, 1) := by decide +kernel
theorem d_W_law_703 : decode code 703 = .ok (.iaload, 1) := by decide +kernel
theorem d_W_law_704 : decode code 704 = .ok (.invokevirtual 114, 3) := by decide +kernel
theorem d_W_law_707 : decode code 707 = .ok (.istore 6, 2) := by decide +kernel
theorem d_W_law_709 : decode code 709 = .ok (.aload_n 2, 1) := by decide +kernel
theorem d_W_law_710 : decode code 710 = .ok (.invokevirtual 85, 3) := by decide +kernel
theorem d_W_law_713 : decode code 713 = .ok (.iload 5, 2) := by decide +kernel
theorem d_W_law_715 : decode code 715 = .ok (.if_icmp .eq 5, 3) := by decide +kernel
theorem d_W_law_718 : decode code 718 = .ok (.iconst 0, 1) := by decide +kernel
theorem d_W_law_719 : decode code 719 = .ok (.ireturn, 1) := by decide +kernel
theorem d_W_law_720 : decode code 720 = .ok (.iload 5, 2) := by decide +kernel
theorem d_W_law_722 : decode code 722 = .ok (.ifCond .ne 15, 3) := by decide +kernel
theorem d_W_law_725 : decode code 725 = .ok (.aload_n 3, 1) := by decide +kernel
theorem d_W_law_726 : decode code 726 = .ok (.iconst 0, 1) := by decide +kernel
theorem d_W_law_727 : decode code 727 = .ok (.laload, 1) := by decide +kernel
theorem d_W_law_728 : decode code 728 = .ok (.iload 6, 2) := by decide +kernel
theorem d_W_law_730 : decode code 730 = .ok (.i2l, 1) := by decide +kernel
theorem d_W_law_731 : decode code 731 = .ok (.lcmp, 1) := by decide +kernel
theorem d_W_law_732 : decode code 732 = .ok (.ifCond .eq 5, 3) := by decide +kernel
theorem d_W_law_735 : decode code 735 = .ok (.iconst 0, 1) := by decide +kernel
theorem d_W_law_736 : decode code 736 = .ok (.ireturn, 1) := by decide +kernel
theorem d_W_law_737 : decode code 737 = .ok (.goto 710, 3) := by decide +kernel
theorem d_W_law_740 : decode code 740 = .ok (.aload_n 1, 1) := by decide +kernel
theorem d_W_law_741 : decode code 741 = .ok (.aload_n 0, 1) := by decide +kernel
theorem d_W_law_742 : decode code 742 = .ok (.iload 4, 2) := by decide +kernel
theorem d_W_law_744 : decode code 744 = .ok (.iconst 1, 1) := by decide +kernel
theorem d_W_law_745 : decode code 745 = .ok (.iadd, 1) := by decide +kernel
theorem d_W_law_746 : decode code 746 = .ok (.iaload, 1) := by decide +kernel
theorem d_W_law_747 : decode code 747 = .ok (.invokestatic 115, 3) := by decide +kernel
theorem d_W_law_750 : decode code 750 = .ok (.istore 5, 2) := by decide +kernel
theorem d_W_law_752 : decode code 752 = .ok (.aload_n 2, 1) := by decide +kernel
theorem d_W_law_753 : decode code 753 = .ok (.aload_n 0, 1) := by decide +kernel
theorem d_W_law_754 : decode code 754 = .ok (.iload 4, 2) := by decide +kernel
theorem d_W_law_756 : decode code 756 = .ok (.iconst 1, 1) := by decide +kernel
theorem d_W_law_757 : decode code 757 = .ok (.iadd, 1) := by decide +kernel
theorem d_W_law_758 : decode code 758 = .ok (.iaload, 1) := by decide +kernel
theorem d_W_law_759 : decode code 759 = .ok (.invokevirtual 118, 3) := by decide +kernel
theorem d_W_law_762 : decode code 762 = .ok (.aload_n 2, 1) := by decide +kernel
theorem d_W_law_763 : decode code 763 = .ok (.invokevirtual 85, 3) := by decide +kernel
theorem d_W_law_766 : decode code 766 = .ok (.iload 5, 2) := by decide +kernel
theorem d_W_law_768 : decode code 768 = .ok (.if_icmp .eq 5, 3) := by decide +kernel
theorem d_W_law_771 : decode code 771 = .ok (.iconst 0, 1) := by decide +kernel
theorem d_W_law_772 : decode code 772 = .ok (.ireturn, 1) := by decide +kernel
