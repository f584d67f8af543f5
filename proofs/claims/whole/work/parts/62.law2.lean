/-! the law: each call -/
theorem lw_c0 {l : Launch} {G : ux_G} {b L : Nat} {xs : Nat → Int32} {i : Nat} {S : ux_S} (hL : L ≤ 2560) (hi : i + 5 ≤ L) (hR : Rel S) (kk : ∀ S', Rel S' → lx_At l G b L xs 1142 i [] S') : lx_At l G b L xs 184 i [] S := by
  obtain ⟨r, A, B, hf, hg, hB⟩ := pr_rack 40000 (xs (i + 1)) (xs (i + 2)) (xs (i + 3)) (xs (i + 4)) S hR
  refine lx_obj 185 dL_law_184 rfl 1 rfl rfl ?_
  refine lx_arg (k := 1) 190 dL_law_185 dL_law_186 dL_law_187 dL_law_188 dL_law_189 rfl hL (by omega) rfl ?_
  refine lx_arg (k := 2) 195 dL_law_190 dL_law_191 dL_law_192 dL_law_193 dL_law_194 rfl hL (by omega) rfl ?_
  refine lx_arg (k := 3) 200 dL_law_195 dL_law_196 dL_law_197 dL_law_198 dL_law_199 rfl hL (by omega) rfl ?_
  refine lx_arg (k := 4) 205 dL_law_200 dL_law_201 dL_law_202 dL_law_203 dL_law_204 rfl hL (by omega) rfl ?_
  refine lx_call (k := 0) 208 [.int (xs (i + 1)), .int (xs (i + 2)), .int (xs (i + 3)), .int (xs (i + 4))] dL_law_205 fv_L_13 (m_X7_rack hf) (by decide) rfl rfl (by decide) rfl rfl (Nat.le_of_ble_eq_true rfl) rfl ?_
  refine lx_obj 209 dL_law_208 rfl 2 rfl rfl ?_
  refine lx_arg (k := 1) 214 dL_law_209 dL_law_210 dL_law_211 dL_law_212 dL_law_213 rfl hL (by omega) rfl ?_
  refine lx_arg (k := 2) 219 dL_law_214 dL_law_215 dL_law_216 dL_law_217 dL_law_218 rfl hL (by omega) rfl ?_
  refine lx_arg (k := 3) 224 dL_law_219 dL_law_220 dL_law_221 dL_law_222 dL_law_223 rfl hL (by omega) rfl ?_
  refine lx_arg (k := 4) 229 dL_law_224 dL_law_225 dL_law_226 dL_law_227 dL_law_228 rfl hL (by omega) rfl ?_
  refine lx_call (k := 8) 232 [.int (xs (i + 1)), .int (xs (i + 2)), .int (xs (i + 3)), .int (xs (i + 4))] dL_law_229 fv_L_17 (m_X8_rack hg) (by decide) rfl rfl (by decide) rfl rfl (Nat.le_of_ble_eq_true rfl) rfl ?_
  exact lx_same 1142 dL_law_232 rfl (kk B hB)
theorem lw_c1 {l : Launch} {G : ux_G} {b L : Nat} {xs : Nat → Int32} {i : Nat} {S : ux_S} (hL : L ≤ 2560) (hi : i + 5 ≤ L) (hR : Rel S) (kk : ∀ S', Rel S' → lx_At l G b L xs 1142 i [] S') : lx_At l G b L xs 237 i [] S := by
  obtain ⟨r, A, B, hf, hg, hB⟩ := pr_load (xs (i + 1)) (xs (i + 2)) S hR
  refine lx_obj 238 dL_law_237 rfl 1 rfl rfl ?_
  refine lx_arg (k := 1) 243 dL_law_238 dL_law_239 dL_law_240 dL_law_241 dL_law_242 rfl hL (by omega) rfl ?_
  refine lx_arg (k := 2) 248 dL_law_243 dL_law_244 dL_law_245 dL_law_246 dL_law_247 rfl hL (by omega) rfl ?_
  refine lx_call (k := 0) 251 [.int (xs (i + 1)), .int (xs (i + 2))] dL_law_248 fv_L_18 (m_X7_load hf) (by decide) rfl rfl (by decide) rfl rfl (Nat.le_of_ble_eq_true rfl) rfl ?_
  refine lx_obj 252 dL_law_251 rfl 2 rfl rfl ?_
  refine lx_arg (k := 1) 257 dL_law_252 dL_law_253 dL_law_254 dL_law_255 dL_law_256 rfl hL (by omega) rfl ?_
  refine lx_arg (k := 2) 262 dL_law_257 dL_law_258 dL_law_259 dL_law_260 dL_law_261 rfl hL (by omega) rfl ?_
  refine lx_call (k := 8) 265 [.int (xs (i + 1)), .int (xs (i + 2))] dL_law_262 fv_L_22 (m_X8_load hg) (by decide) rfl rfl (by decide) rfl rfl (Nat.le_of_ble_eq_true rfl) rfl ?_
  exact lx_same 1142 dL_law_265 rfl (kk B hB)
theorem lw_c2 {l : Launch} {G : ux_G} {b L : Nat} {xs : Nat → Int32} {i : Nat} {S : ux_S} (hL : L ≤ 2560) (hi : i + 5 ≤ L) (hR : Rel S) (kk : ∀ S', Rel S' → lx_At l G b L xs 1142 i [] S') : lx_At l G b L xs 270 i [] S := by
  obtain ⟨r, A, B, hf, hg, hB⟩ := pr_share (xs (i + 1)) (xs (i + 2)) (xs (i + 3)) S hR
  refine lx_obj 271 dL_law_270 rfl 1 rfl rfl ?_
  refine lx_arg (k := 1) 276 dL_law_271 dL_law_272 dL_law_273 dL_law_274 dL_law_275 rfl hL (by omega) rfl ?_
  refine lx_arg (k := 2) 281 dL_law_276 dL_law_277 dL_law_278 dL_law_279 dL_law_280 rfl hL (by omega) rfl ?_
  refine lx_arg (k := 3) 286 dL_law_281 dL_law_282 dL_law_283 dL_law_284 dL_law_285 rfl hL (by omega) rfl ?_
  refine lx_call (k := 0) 289 [.int (xs (i + 1)), .int (xs (i + 2)), .int (xs (i + 3))] dL_law_286 fv_L_23 (m_X7_share hf) (by decide) rfl rfl (by decide) rfl rfl (Nat.le_of_ble_eq_true rfl) rfl ?_
  refine lx_obj 290 dL_law_289 rfl 2 rfl rfl ?_
  refine lx_arg (k := 1) 295 dL_law_290 dL_law_291 dL_law_292 dL_law_293 dL_law_294 rfl hL (by omega) rfl ?_
  refine lx_arg (k := 2) 300 dL_law_295 dL_law_296 dL_law_297 dL_law_298 dL_law_299 rfl hL (by omega) rfl ?_
  refine lx_arg (k := 3) 305 dL_law_300 dL_law_301 dL_law_302 dL_law_303 dL_law_304 rfl hL (by omega) rfl ?_
  refine lx_call (k := 8) 308 [.int (xs (i + 1)), .int (xs (i + 2)), .int (xs (i + 3))] dL_law_305 fv_L_27 (m_X8_share hg) (by decide) rfl rfl (by decide) rfl rfl (Nat.le_of_ble_eq_true rfl) rfl ?_
  exact lx_same 1142 dL_law_308 rfl (kk B hB)
theorem lw_c3 {l : Launch} {G : ux_G} {b L : Nat} {xs : Nat → Int32} {i : Nat} {S : ux_S} (hL : L ≤ 2560) (hi : i + 5 ≤ L) (hR : Rel S) (kk : ∀ S', Rel S' → lx_At l G b L xs 1142 i [] S') : lx_At l G b L xs 313 i [] S := by
  obtain ⟨r, A, B, hf, hg, hB⟩ := pr_sheet 40000 (by decide) (xs (i + 1)) (xs (i + 2)) (xs (i + 3)) S hR
  refine lx_obj 314 dL_law_313 rfl 1 rfl rfl ?_
  refine lx_arg (k := 1) 319 dL_law_314 dL_law_315 dL_law_316 dL_law_317 dL_law_318 rfl hL (by omega) rfl ?_
  refine lx_arg (k := 2) 324 dL_law_319 dL_law_320 dL_law_321 dL_law_322 dL_law_323 rfl hL (by omega) rfl ?_
  refine lx_arg (k := 3) 329 dL_law_324 dL_law_325 dL_law_326 dL_law_327 dL_law_328 rfl hL (by omega) rfl ?_
  refine lx_call (k := 0) 332 [.int (xs (i + 1)), .int (xs (i + 2)), .int (xs (i + 3))] dL_law_329 fv_L_28 (m_X7_sheet hf) (by decide) rfl rfl (by decide) rfl rfl (Nat.le_of_ble_eq_true rfl) rfl ?_
  refine lx_obj 333 dL_law_332 rfl 2 rfl rfl ?_
  refine lx_arg (k := 1) 338 dL_law_333 dL_law_334 dL_law_335 dL_law_336 dL_law_337 rfl hL (by omega) rfl ?_
  refine lx_arg (k := 2) 343 dL_law_338 dL_law_339 dL_law_340 dL_law_341 dL_law_342 rfl hL (by omega) rfl ?_
  refine lx_arg (k := 3) 348 dL_law_343 dL_law_344 dL_law_345 dL_law_346 dL_law_347 rfl hL (by omega) rfl ?_
  refine lx_call (k := 8) 351 [.int (xs (i + 1)), .int (xs (i + 2)), .int (xs (i + 3))] dL_law_348 fv_L_31 (m_X8_sheet hg) (by decide) rfl rfl (by decide) rfl rfl (Nat.le_of_ble_eq_true rfl) rfl ?_
  exact lx_same 1142 dL_law_351 rfl (kk B hB)
theorem lw_c4 {l : Launch} {G : ux_G} {b L : Nat} {xs : Nat → Int32} {i : Nat} {S : ux_S} (hL : L ≤ 2560) (hi : i + 5 ≤ L) (hR : Rel S) (kk : ∀ S', Rel S' → lx_At l G b L xs 1142 i [] S') : lx_At l G b L xs 356 i [] S := by
  obtain ⟨r, A, B, hf, hg, hB⟩ := pr_lay (xs (i + 1)) (xs (i + 2)) ((((xs (i + 3)).toInt64 <<< ((32 : Int32).toInt64 &&& 63)) ||| ((xs (i + 4)).toInt64 &&& 4294967295))) S hR
  refine lx_obj 357 dL_law_356 rfl 1 rfl rfl ?_
  refine lx_arg (k := 1) 362 dL_law_357 dL_law_358 dL_law_359 dL_law_360 dL_law_361 rfl hL (by omega) rfl ?_
  refine lx_arg (k := 2) 367 dL_law_362 dL_law_363 dL_law_364 dL_law_365 dL_law_366 rfl hL (by omega) rfl ?_
  refine lx_arg (k := 3) 372 dL_law_367 dL_law_368 dL_law_369 dL_law_370 dL_law_371 rfl hL (by omega) rfl ?_
  refine lx_i2l 373 dL_law_372 rfl ?_
  refine lx_bipush (v := 32) 375 dL_law_373 rfl rfl ?_
  refine lx_lshl 376 dL_law_375 rfl ?_
  refine lx_arg (k := 4) 381 dL_law_376 dL_law_377 dL_law_378 dL_law_379 dL_law_380 rfl hL (by omega) rfl ?_
  refine lx_i2l 382 dL_law_381 rfl ?_
  refine lx_ldc2 (v := 4294967295) 385 dL_law_382 (ux_m5 35 rfl rfl) rfl ?_
  refine lx_land 386 dL_law_385 rfl ?_
  refine lx_lor 387 dL_law_386 rfl ?_
  refine lx_call (k := 0) 390 [.int (xs (i + 1)), .int (xs (i + 2)), .long ((((xs (i + 3)).toInt64 <<< ((32 : Int32).toInt64 &&& 63)) ||| ((xs (i + 4)).toInt64 &&& 4294967295)))] dL_law_387 fv_L_34 (m_X7_lay hf) (by decide) rfl rfl (by decide) rfl rfl (Nat.le_of_ble_eq_true rfl) rfl ?_
  refine lx_obj 391 dL_law_390 rfl 2 rfl rfl ?_
  refine lx_arg (k := 1) 396 dL_law_391 dL_law_392 dL_law_393 dL_law_394 dL_law_395 rfl hL (by omega) rfl ?_
  refine lx_arg (k := 2) 401 dL_law_396 dL_law_397 dL_law_398 dL_law_399 dL_law_400 rfl hL (by omega) rfl ?_
  refine lx_arg (k := 3) 406 dL_law_401 dL_law_402 dL_law_403 dL_law_404 dL_law_405 rfl hL (by omega) rfl ?_
  refine lx_i2l 407 dL_law_406 rfl ?_
  refine lx_bipush (v := 32) 409 dL_law_407 rfl rfl ?_
  refine lx_lshl 410 dL_law_409 rfl ?_
  refine lx_arg (k := 4) 415 dL_law_410 dL_law_411 dL_law_412 dL_law_413 dL_law_414 rfl hL (by omega) rfl ?_
  refine lx_i2l 416 dL_law_415 rfl ?_
  refine lx_ldc2 (v := 4294967295) 419 dL_law_416 (ux_m5 35 rfl rfl) rfl ?_
  refine lx_land 420 dL_law_419 rfl ?_
  refine lx_lor 421 dL_law_420 rfl ?_
  refine lx_call (k := 8) 424 [.int (xs (i + 1)), .int (xs (i + 2)), .long ((((xs (i + 3)).toInt64 <<< ((32 : Int32).toInt64 &&& 63)) ||| ((xs (i + 4)).toInt64 &&& 4294967295)))] dL_law_421 fv_L_38 (m_X8_lay hg) (by decide) rfl rfl (by decide) rfl rfl (Nat.le_of_ble_eq_true rfl) rfl ?_
  exact lx_same 1142 dL_law_424 rfl (kk B hB)
theorem lw_c5 {l : Launch} {G : ux_G} {b L : Nat} {xs : Nat → Int32} {i : Nat} {S : ux_S} (hL : L ≤ 2560) (hi : i + 5 ≤ L) (hR : Rel S) (kk : ∀ S', Rel S' → lx_At l G b L xs 1142 i [] S') : lx_At l G b L xs 429 i [] S := by
  obtain ⟨r, A, B, hf, hg, hB⟩ := pr_draw 40000 (by decide) (xs (i + 1)) (xs (i + 2)) (xs (i + 3)) S hR
  refine lx_obj 430 dL_law_429 rfl 1 rfl rfl ?_
  refine lx_arg (k := 1) 435 dL_law_430 dL_law_431 dL_law_432 dL_law_433 dL_law_434 rfl hL (by omega) rfl ?_
  refine lx_arg (k := 2) 440 dL_law_435 dL_law_436 dL_law_437 dL_law_438 dL_law_439 rfl hL (by omega) rfl ?_
  refine lx_arg (k := 3) 445 dL_law_440 dL_law_441 dL_law_442 dL_law_443 dL_law_444 rfl hL (by omega) rfl ?_
  refine lx_call (k := 0) 448 [.int (xs (i + 1)), .int (xs (i + 2)), .int (xs (i + 3))] dL_law_445 fv_L_39 (m_X7_draw hf) (by decide) rfl rfl (by decide) rfl rfl (Nat.le_of_ble_eq_true rfl) rfl ?_
  refine lx_obj 449 dL_law_448 rfl 2 rfl rfl ?_
  refine lx_arg (k := 1) 454 dL_law_449 dL_law_450 dL_law_451 dL_law_452 dL_law_453 rfl hL (by omega) rfl ?_
  refine lx_arg (k := 2) 459 dL_law_454 dL_law_455 dL_law_456 dL_law_457 dL_law_458 rfl hL (by omega) rfl ?_
  refine lx_arg (k := 3) 464 dL_law_459 dL_law_460 dL_law_461 dL_law_462 dL_law_463 rfl hL (by omega) rfl ?_
  refine lx_call (k := 8) 467 [.int (xs (i + 1)), .int (xs (i + 2)), .int (xs (i + 3))] dL_law_464 fv_L_42 (m_X8_draw hg) (by decide) rfl rfl (by decide) rfl rfl (Nat.le_of_ble_eq_true rfl) rfl ?_
  exact lx_same 1142 dL_law_467 rfl (kk B hB)
theorem lw_c6 {l : Launch} {G : ux_G} {b L : Nat} {xs : Nat → Int32} {i : Nat} {S : ux_S} (hL : L ≤ 2560) (hi : i + 5 ≤ L) (hR : Rel S) (kk : ∀ S', Rel S' → lx_At l G b L xs 1142 i [] S') : lx_At l G b L xs 472 i [] S := by
  obtain ⟨r, A, B, hf, hg, hB⟩ := pr_set (xs (i + 1)) (xs (i + 2)) S hR
  refine lx_obj 473 dL_law_472 rfl 1 rfl rfl ?_
  refine lx_arg (k := 1) 478 dL_law_473 dL_law_474 dL_law_475 dL_law_476 dL_law_477 rfl hL (by omega) rfl ?_
  refine lx_arg (k := 2) 483 dL_law_478 dL_law_479 dL_law_480 dL_law_481 dL_law_482 rfl hL (by omega) rfl ?_
  refine lx_call (k := 0) 486 [.int (xs (i + 1)), .int (xs (i + 2))] dL_law_483 fv_L_43 (m_X7_set hf) (by decide) rfl rfl (by decide) rfl rfl (Nat.le_of_ble_eq_true rfl) rfl ?_
  refine lx_obj 487 dL_law_486 rfl 2 rfl rfl ?_
  refine lx_arg (k := 1) 492 dL_law_487 dL_law_488 dL_law_489 dL_law_490 dL_law_491 rfl hL (by omega) rfl ?_
  refine lx_arg (k := 2) 497 dL_law_492 dL_law_493 dL_law_494 dL_law_495 dL_law_496 rfl hL (by omega) rfl ?_
  refine lx_call (k := 8) 500 [.int (xs (i + 1)), .int (xs (i + 2))] dL_law_497 fv_L_46 (m_X8_set hg) (by decide) rfl rfl (by decide) rfl rfl (Nat.le_of_ble_eq_true rfl) rfl ?_
  exact lx_same 1142 dL_law_500 rfl (kk B hB)
theorem lw_c7 {l : Launch} {G : ux_G} {b L : Nat} {xs : Nat → Int32} {i : Nat} {S : ux_S} (hL : L ≤ 2560) (hi : i + 5 ≤ L) (hR : Rel S) (kk : ∀ S', Rel S' → lx_At l G b L xs 1142 i [] S') : lx_At l G b L xs 505 i [] S := by
  obtain ⟨r, A, B, hf, hg, hB⟩ := pr_price 40000 (xs (i + 1)) (xs (i + 2)) S hR
  refine lx_obj 506 dL_law_505 rfl 1 rfl rfl ?_
  refine lx_arg (k := 1) 511 dL_law_506 dL_law_507 dL_law_508 dL_law_509 dL_law_510 rfl hL (by omega) rfl ?_
  refine lx_arg (k := 2) 516 dL_law_511 dL_law_512 dL_law_513 dL_law_514 dL_law_515 rfl hL (by omega) rfl ?_
  refine lx_call (k := 0) 519 [.int (xs (i + 1)), .int (xs (i + 2))] dL_law_516 fv_L_47 (m_X7_price hf) (by decide) rfl rfl (by decide) rfl rfl (Nat.le_of_ble_eq_true rfl) rfl ?_
  refine lx_obj 520 dL_law_519 rfl 2 rfl rfl ?_
  refine lx_arg (k := 1) 525 dL_law_520 dL_law_521 dL_law_522 dL_law_523 dL_law_524 rfl hL (by omega) rfl ?_
  refine lx_arg (k := 2) 530 dL_law_525 dL_law_526 dL_law_527 dL_law_528 dL_law_529 rfl hL (by omega) rfl ?_
  refine lx_call (k := 8) 533 [.int (xs (i + 1)), .int (xs (i + 2))] dL_law_530 fv_L_50 (m_X8_price hg) (by decide) rfl rfl (by decide) rfl rfl (Nat.le_of_ble_eq_true rfl) rfl ?_
  exact lx_same 1142 dL_law_533 rfl (kk B hB)
theorem lw_c8 {l : Launch} {G : ux_G} {b L : Nat} {xs : Nat → Int32} {i : Nat} {S : ux_S} (hL : L ≤ 2560) (hi : i + 5 ≤ L) (hR : Rel S) (kk : ∀ S', Rel S' → lx_At l G b L xs 1142 i [] S') : lx_At l G b L xs 538 i [] S := by
  obtain ⟨r, A, B, hf, hg, hB⟩ := pr_into 40000 (by decide) (xs (i + 1)) S hR
  refine lx_obj 539 dL_law_538 rfl 1 rfl rfl ?_
  refine lx_arg (k := 1) 544 dL_law_539 dL_law_540 dL_law_541 dL_law_542 dL_law_543 rfl hL (by omega) rfl ?_
  refine lx_call (k := 0) 547 [.int (xs (i + 1))] dL_law_544 fv_L_51 (m_X7_into hf) (by decide) rfl rfl (by decide) rfl rfl (Nat.le_of_ble_eq_true rfl) rfl ?_
  refine lx_obj 548 dL_law_547 rfl 2 rfl rfl ?_
  refine lx_arg (k := 1) 553 dL_law_548 dL_law_549 dL_law_550 dL_law_551 dL_law_552 rfl hL (by omega) rfl ?_
  refine lx_call (k := 8) 556 [.int (xs (i + 1))] dL_law_553 fv_L_55 (m_X8_into hg) (by decide) rfl rfl (by decide) rfl rfl (Nat.le_of_ble_eq_true rfl) rfl ?_
  exact lx_same 1142 dL_law_556 rfl (kk B hB)
theorem lw_c9 {l : Launch} {G : ux_G} {b L : Nat} {xs : Nat → Int32} {i : Nat} {S : ux_S} (hL : L ≤ 2560) (hi : i + 5 ≤ L) (hR : Rel S) (kk : ∀ S', Rel S' → lx_At l G b L xs 1142 i [] S') : lx_At l G b L xs 561 i [] S := by
  obtain ⟨r, A, B, hf, hg, hB⟩ := pr_hot 40000 (by decide) (xs (i + 1)) S hR
  refine lx_obj 562 dL_law_561 rfl 1 rfl rfl ?_
  refine lx_arg (k := 1) 567 dL_law_562 dL_law_563 dL_law_564 dL_law_565 dL_law_566 rfl hL (by omega) rfl ?_
  refine lx_call (k := 0) 570 [.int (xs (i + 1))] dL_law_567 fv_L_56 (m_X7_hot hf) (by decide) rfl rfl (by decide) rfl rfl (Nat.le_of_ble_eq_true rfl) rfl ?_
  refine lx_obj 571 dL_law_570 rfl 2 rfl rfl ?_
  refine lx_arg (k := 1) 576 dL_law_571 dL_law_572 dL_law_573 dL_law_574 dL_law_575 rfl hL (by omega) rfl ?_
  refine lx_call (k := 8) 579 [.int (xs (i + 1))] dL_law_576 fv_L_59 (m_X8_hot hg) (by decide) rfl rfl (by decide) rfl rfl (Nat.le_of_ble_eq_true rfl) rfl ?_
  exact lx_same 1142 dL_law_579 rfl (kk B hB)
theorem lw_c10 {l : Launch} {G : ux_G} {b L : Nat} {xs : Nat → Int32} {i : Nat} {S : ux_S} (hL : L ≤ 2560) (hi : i + 5 ≤ L) (hR : Rel S) (kk : ∀ S', Rel S' → lx_At l G b L xs 1142 i [] S') : lx_At l G b L xs 584 i [] S := by
  obtain ⟨r, A, B, hf, hg, hB⟩ := pr_power 40000 (by decide) (xs (i + 1)) (xs (i + 2)) S hR
  refine lx_obj 585 dL_law_584 rfl 1 rfl rfl ?_
  refine lx_arg (k := 1) 590 dL_law_585 dL_law_586 dL_law_587 dL_law_588 dL_law_589 rfl hL (by omega) rfl ?_
  refine lx_arg (k := 2) 595 dL_law_590 dL_law_591 dL_law_592 dL_law_593 dL_law_594 rfl hL (by omega) rfl ?_
  refine lx_call (k := 0) 598 [.int (xs (i + 1)), .int (xs (i + 2))] dL_law_595 fv_L_60 (m_X7_power hf) (by decide) rfl rfl (by decide) rfl rfl (Nat.le_of_ble_eq_true rfl) rfl ?_
  refine lx_obj 599 dL_law_598 rfl 2 rfl rfl ?_
  refine lx_arg (k := 1) 604 dL_law_599 dL_law_600 dL_law_601 dL_law_602 dL_law_603 rfl hL (by omega) rfl ?_
  refine lx_arg (k := 2) 609 dL_law_604 dL_law_605 dL_law_606 dL_law_607 dL_law_608 rfl hL (by omega) rfl ?_
  refine lx_call (k := 8) 612 [.int (xs (i + 1)), .int (xs (i + 2))] dL_law_609 fv_L_63 (m_X8_power hg) (by decide) rfl rfl (by decide) rfl rfl (Nat.le_of_ble_eq_true rfl) rfl ?_
  exact lx_same 1142 dL_law_612 rfl (kk B hB)
theorem lw_c11 {l : Launch} {G : ux_G} {b L : Nat} {xs : Nat → Int32} {i : Nat} {S : ux_S} (hL : L ≤ 2560) (hi : i + 5 ≤ L) (hR : Rel S) (kk : ∀ S', Rel S' → lx_At l G b L xs 1142 i [] S') : lx_At l G b L xs 617 i [] S := by
  obtain ⟨r, A, B, hf, hg, hB⟩ := pr_best 40000 (by decide) S hR
  refine lx_obj 618 dL_law_617 rfl 1 rfl rfl ?_
  refine lx_call (k := 0) 621 [] dL_law_618 fv_L_64 (m_X7_best hf) (by decide) rfl rfl (by decide) rfl rfl (Nat.le_of_ble_eq_true rfl) rfl ?_
  refine lx_obj 622 dL_law_621 rfl 2 rfl rfl ?_
  refine lx_call (k := 8) 625 [] dL_law_622 fv_L_68 (m_X8_best hg) (by decide) rfl rfl (by decide) rfl rfl (Nat.le_of_ble_eq_true rfl) rfl ?_
  exact lx_same 1142 dL_law_625 rfl (kk B hB)
theorem lw_c12 {l : Launch} {G : ux_G} {b L : Nat} {xs : Nat → Int32} {i : Nat} {S : ux_S} (hL : L ≤ 2560) (hi : i + 5 ≤ L) (hR : Rel S) (kk : ∀ S', Rel S' → lx_At l G b L xs 1142 i [] S') : lx_At l G b L xs 630 i [] S := by
  obtain ⟨r, A, B, hf, hg, hB⟩ := pr_minutes 40000 (by decide) (xs (i + 1)) S hR
  refine lx_obj 631 dL_law_630 rfl 1 rfl rfl ?_
  refine lx_arg (k := 1) 636 dL_law_631 dL_law_632 dL_law_633 dL_law_634 dL_law_635 rfl hL (by omega) rfl ?_
  refine lx_call (k := 0) 639 [.int (xs (i + 1))] dL_law_636 fv_L_69 (m_X7_minutes hf) (by decide) rfl rfl (by decide) rfl rfl (Nat.le_of_ble_eq_true rfl) rfl ?_
  refine lx_obj 640 dL_law_639 rfl 2 rfl rfl ?_
  refine lx_arg (k := 1) 645 dL_law_640 dL_law_641 dL_law_642 dL_law_643 dL_law_644 rfl hL (by omega) rfl ?_
  refine lx_call (k := 8) 648 [.int (xs (i + 1))] dL_law_645 fv_L_72 (m_X8_minutes hg) (by decide) rfl rfl (by decide) rfl rfl (Nat.le_of_ble_eq_true rfl) rfl ?_
  exact lx_same 1142 dL_law_648 rfl (kk B hB)
theorem lw_c13 {l : Launch} {G : ux_G} {b L : Nat} {xs : Nat → Int32} {i : Nat} {S : ux_S} (hL : L ≤ 2560) (hi : i + 5 ≤ L) (hR : Rel S) (kk : ∀ S', Rel S' → lx_At l G b L xs 1142 i [] S') : lx_At l G b L xs 653 i [] S := by
  obtain ⟨r, A, B, hf, hg, hB⟩ := pr_machine (xs (i + 1)) (xs (i + 2)) S hR
  refine lx_obj 654 dL_law_653 rfl 1 rfl rfl ?_
  refine lx_arg (k := 1) 659 dL_law_654 dL_law_655 dL_law_656 dL_law_657 dL_law_658 rfl hL (by omega) rfl ?_
  refine lx_arg (k := 2) 664 dL_law_659 dL_law_660 dL_law_661 dL_law_662 dL_law_663 rfl hL (by omega) rfl ?_
  refine lx_call (k := 0) 667 [.int (xs (i + 1)), .int (xs (i + 2))] dL_law_664 fv_L_73 (m_X7_machine hf) (by decide) rfl rfl (by decide) rfl rfl (Nat.le_of_ble_eq_true rfl) rfl ?_
  refine lx_obj 668 dL_law_667 rfl 2 rfl rfl ?_
  refine lx_arg (k := 1) 673 dL_law_668 dL_law_669 dL_law_670 dL_law_671 dL_law_672 rfl hL (by omega) rfl ?_
  refine lx_arg (k := 2) 678 dL_law_673 dL_law_674 dL_law_675 dL_law_676 dL_law_677 rfl hL (by omega) rfl ?_
  refine lx_call (k := 8) 681 [.int (xs (i + 1)), .int (xs (i + 2))] dL_law_678 fv_L_76 (m_X8_machine hg) (by decide) rfl rfl (by decide) rfl rfl (Nat.le_of_ble_eq_true rfl) rfl ?_
  exact lx_same 1142 dL_law_681 rfl (kk B hB)
theorem lw_c14 {l : Launch} {G : ux_G} {b L : Nat} {xs : Nat → Int32} {i : Nat} {S : ux_S} (hL : L ≤ 2560) (hi : i + 5 ≤ L) (hR : Rel S) (kk : ∀ S', Rel S' → lx_At l G b L xs 1142 i [] S') : lx_At l G b L xs 686 i [] S := by
  obtain ⟨r, A, B, hf, hg, hB⟩ := pr_leave  S hR
  refine lx_obj 687 dL_law_686 rfl 1 rfl rfl ?_
  refine lx_call (k := 0) 690 [] dL_law_687 fv_L_77 (m_X7_leave hf) (by decide) rfl rfl (by decide) rfl rfl (Nat.le_of_ble_eq_true rfl) rfl ?_
  refine lx_obj 691 dL_law_690 rfl 2 rfl rfl ?_
  refine lx_call (k := 8) 694 [] dL_law_691 fv_L_80 (m_X8_leave hg) (by decide) rfl rfl (by decide) rfl rfl (Nat.le_of_ble_eq_true rfl) rfl ?_
  exact lx_same 1142 dL_law_694 rfl (kk B hB)
theorem lw_c15 {l : Launch} {G : ux_G} {b L : Nat} {xs : Nat → Int32} {i : Nat} {S : ux_S} (hL : L ≤ 2560) (hi : i + 5 ≤ L) (hR : Rel S) (kk : ∀ S', Rel S' → lx_At l G b L xs 1142 i [] S') : lx_At l G b L xs 699 i [] S := by
  obtain ⟨r, A, B, hf, hg, hB⟩ := pr_placed 40000 (by decide) (xs (i + 1)) S hR
  refine lx_obj 700 dL_law_699 rfl 1 rfl rfl ?_
  refine lx_arg (k := 1) 705 dL_law_700 dL_law_701 dL_law_702 dL_law_703 dL_law_704 rfl hL (by omega) rfl ?_
  refine lx_call (k := 0) 708 [.int (xs (i + 1))] dL_law_705 fv_L_81 (m_X7_placed hf) (by decide) rfl rfl (by decide) rfl rfl (Nat.le_of_ble_eq_true rfl) rfl ?_
  refine lx_obj 709 dL_law_708 rfl 2 rfl rfl ?_
  refine lx_arg (k := 1) 714 dL_law_709 dL_law_710 dL_law_711 dL_law_712 dL_law_713 rfl hL (by omega) rfl ?_
  refine lx_call (k := 8) 717 [.int (xs (i + 1))] dL_law_714 fv_L_84 (m_X8_placed hg) (by decide) rfl rfl (by decide) rfl rfl (Nat.le_of_ble_eq_true rfl) rfl ?_
  exact lx_same 1142 dL_law_717 rfl (kk B hB)
theorem lw_c16 {l : Launch} {G : ux_G} {b L : Nat} {xs : Nat → Int32} {i : Nat} {S : ux_S} (hL : L ≤ 2560) (hi : i + 5 ≤ L) (hR : Rel S) (kk : ∀ S', Rel S' → lx_At l G b L xs 1142 i [] S') : lx_At l G b L xs 722 i [] S := by
  obtain ⟨r, A, B, hf, hg, hB⟩ := pr_warmest 40000 (by decide) S hR
  refine lx_obj 723 dL_law_722 rfl 1 rfl rfl ?_
  refine lx_call (k := 0) 726 [] dL_law_723 fv_L_85 (m_X7_warmest hf) (by decide) rfl rfl (by decide) rfl rfl (Nat.le_of_ble_eq_true rfl) rfl ?_
  refine lx_obj 727 dL_law_726 rfl 2 rfl rfl ?_
  refine lx_call (k := 8) 730 [] dL_law_727 fv_L_88 (m_X8_warmest hg) (by decide) rfl rfl (by decide) rfl rfl (Nat.le_of_ble_eq_true rfl) rfl ?_
  exact lx_same 1142 dL_law_730 rfl (kk B hB)
