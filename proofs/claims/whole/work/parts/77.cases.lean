section CASES
variable {x : Cx} {g : Gv} {b L n : Nat} {xs : Nat → Int32} {σ : Sg}
theorem cs_0 (hc : Lc x g b L xs) (hL : L ≤ 3072) (hn : 6 * n + 6 ≤ L) (hi : Inv n σ) (k : ∀ σ', Inv (n + 1) σ' → Lz x g 1369 (LL g b n) [] σ') : Lz x g 208 (LL g b n) [] σ := by
  obtain ⟨r, σ1, σ2, hX, hM, hi2⟩ := both_rain n (xs (6 * n + 1)) (xs (6 * n + 2)) σ hi
  refine l_aload_n hc d_law_208 2 rfl ?_
  refine l_arg 1 hc d_law_209 d_law_210 d_law_211 d_law_212 d_law_213 rfl (by omega) hL ?_
  refine l_arg 2 hc d_law_214 d_law_215 d_law_216 d_law_217 d_law_218 rfl (by omega) hL ?_
  refine l_call (As := [.int (xs (6 * n + 1)), .int (xs (6 * n + 2))]) (rv := some (.int r)) (σ1 := σ1) (st := []) (st1 := [.int r]) hc d_law_219 vl_law_13 (by decide) (0, 0, 0) dm_X rfl rfl (ok_X_rain g _ _ σ (r, σ1) hX) rfl rfl (Nat.le_of_ble_eq_true rfl) rfl ?_
  refine l_aload_n hc d_law_222 1 rfl ?_
  refine l_arg 1 hc d_law_223 d_law_224 d_law_225 d_law_226 d_law_227 rfl (by omega) hL ?_
  refine l_arg 2 hc d_law_228 d_law_229 d_law_230 d_law_231 d_law_232 rfl (by omega) hL ?_
  refine l_call (As := [.int (xs (6 * n + 1)), .int (xs (6 * n + 2))]) (rv := some (.int r)) (σ1 := σ2) (st := [.int r]) (st1 := [.int r, .int r]) hc d_law_233 vl_law_17 (by decide) (6, 0, 0) dm_M rfl rfl (ok_M_rain g _ _ σ1 (r, σ2) hM) rfl rfl (Nat.le_of_ble_eq_true rfl) rfl ?_
  exact l_eq (tgt := 1369) hc d_law_236 (by decide) (k σ2 hi2)
theorem cs_1 (hc : Lc x g b L xs) (hL : L ≤ 3072) (hn : 6 * n + 6 ≤ L) (hi : Inv n σ) (k : ∀ σ', Inv (n + 1) σ' → Lz x g 1369 (LL g b n) [] σ') : Lz x g 241 (LL g b n) [] σ := by
  obtain ⟨r, σ1, σ2, hX, hM, hi2⟩ := both_yard n (xs (6 * n + 1)) (xs (6 * n + 2)) σ hi
  refine l_aload_n hc d_law_241 2 rfl ?_
  refine l_arg 1 hc d_law_242 d_law_243 d_law_244 d_law_245 d_law_246 rfl (by omega) hL ?_
  refine l_arg 2 hc d_law_247 d_law_248 d_law_249 d_law_250 d_law_251 rfl (by omega) hL ?_
  refine l_call (As := [.int (xs (6 * n + 1)), .int (xs (6 * n + 2))]) (rv := some (.int r)) (σ1 := σ1) (st := []) (st1 := [.int r]) hc d_law_252 vl_law_18 (by decide) (0, 0, 0) dm_X rfl rfl (ok_X_yard g _ _ σ (r, σ1) hX) rfl rfl (Nat.le_of_ble_eq_true rfl) rfl ?_
  refine l_aload_n hc d_law_255 1 rfl ?_
  refine l_arg 1 hc d_law_256 d_law_257 d_law_258 d_law_259 d_law_260 rfl (by omega) hL ?_
  refine l_arg 2 hc d_law_261 d_law_262 d_law_263 d_law_264 d_law_265 rfl (by omega) hL ?_
  refine l_call (As := [.int (xs (6 * n + 1)), .int (xs (6 * n + 2))]) (rv := some (.int r)) (σ1 := σ2) (st := [.int r]) (st1 := [.int r, .int r]) hc d_law_266 vl_law_21 (by decide) (6, 0, 0) dm_M rfl rfl (ok_M_yard g _ _ σ1 (r, σ2) hM) rfl rfl (Nat.le_of_ble_eq_true rfl) rfl ?_
  exact l_eq (tgt := 1369) hc d_law_269 (by decide) (k σ2 hi2)
theorem cs_2 (hc : Lc x g b L xs) (hL : L ≤ 3072) (hn : 6 * n + 6 ≤ L) (hi : Inv n σ) (k : ∀ σ', Inv (n + 1) σ' → Lz x g 1369 (LL g b n) [] σ') : Lz x g 274 (LL g b n) [] σ := by
  obtain ⟨r, σ1, σ2, hX, hM, hi2⟩ := both_owns n (xs (6 * n + 1)) σ hi
  refine l_aload_n hc d_law_274 2 rfl ?_
  refine l_arg 1 hc d_law_275 d_law_276 d_law_277 d_law_278 d_law_279 rfl (by omega) hL ?_
  refine l_call (As := [.int (xs (6 * n + 1))]) (rv := some (.int r)) (σ1 := σ1) (st := []) (st1 := [.int r]) hc d_law_280 vl_law_22 (by decide) (0, 0, 0) dm_X rfl rfl (ok_X_owns g _ σ (r, σ1) hX) rfl rfl (Nat.le_of_ble_eq_true rfl) rfl ?_
  refine l_aload_n hc d_law_283 1 rfl ?_
  refine l_arg 1 hc d_law_284 d_law_285 d_law_286 d_law_287 d_law_288 rfl (by omega) hL ?_
  refine l_call (As := [.int (xs (6 * n + 1))]) (rv := some (.int r)) (σ1 := σ2) (st := [.int r]) (st1 := [.int r, .int r]) hc d_law_289 vl_law_26 (by decide) (6, 0, 0) dm_M rfl rfl (ok_M_owns g _ σ1 (r, σ2) hM) rfl rfl (Nat.le_of_ble_eq_true rfl) rfl ?_
  exact l_eq (tgt := 1369) hc d_law_292 (by decide) (k σ2 hi2)
theorem cs_3 (hc : Lc x g b L xs) (hL : L ≤ 3072) (hn : 6 * n + 6 ≤ L) (hi : Inv n σ) (k : ∀ σ', Inv (n + 1) σ' → Lz x g 1369 (LL g b n) [] σ') : Lz x g 297 (LL g b n) [] σ := by
  obtain ⟨r, σ1, σ2, hX, hM, hi2⟩ := both_borders n σ hi
  refine l_aload_n hc d_law_297 2 rfl ?_
  refine l_call (As := []) (rv := some (.int r)) (σ1 := σ1) (st := []) (st1 := [.int r]) hc d_law_298 vl_law_27 (by decide) (0, 0, 0) dm_X rfl rfl (ok_X_borders g σ (r, σ1) hX) rfl rfl (Nat.le_of_ble_eq_true rfl) rfl ?_
  refine l_aload_n hc d_law_301 1 rfl ?_
  refine l_call (As := []) (rv := some (.int r)) (σ1 := σ2) (st := [.int r]) (st1 := [.int r, .int r]) hc d_law_302 vl_law_31 (by decide) (6, 0, 0) dm_M rfl rfl (ok_M_borders g σ1 (r, σ2) hM) rfl rfl (Nat.le_of_ble_eq_true rfl) rfl ?_
  exact l_eq (tgt := 1369) hc d_law_305 (by decide) (k σ2 hi2)
theorem cs_4 (hc : Lc x g b L xs) (hL : L ≤ 3072) (hn : 6 * n + 6 ≤ L) (hi : Inv n σ) (k : ∀ σ', Inv (n + 1) σ' → Lz x g 1369 (LL g b n) [] σ') : Lz x g 310 (LL g b n) [] σ := by
  obtain ⟨r, σ1, σ2, hX, hM, hi2⟩ := both_walk n (xs (6 * n + 1)) σ hi
  refine l_aload_n hc d_law_310 2 rfl ?_
  refine l_arg 1 hc d_law_311 d_law_312 d_law_313 d_law_314 d_law_315 rfl (by omega) hL ?_
  refine l_call (As := [.int (xs (6 * n + 1))]) (rv := some (.int r)) (σ1 := σ1) (st := []) (st1 := [.int r]) hc d_law_316 vl_law_32 (by decide) (0, 0, 0) dm_X rfl rfl (ok_X_walk g _ σ (r, σ1) hX) rfl rfl (Nat.le_of_ble_eq_true rfl) rfl ?_
  refine l_aload_n hc d_law_319 1 rfl ?_
  refine l_arg 1 hc d_law_320 d_law_321 d_law_322 d_law_323 d_law_324 rfl (by omega) hL ?_
  refine l_call (As := [.int (xs (6 * n + 1))]) (rv := some (.int r)) (σ1 := σ2) (st := [.int r]) (st1 := [.int r, .int r]) hc d_law_325 vl_law_35 (by decide) (6, 0, 0) dm_M rfl rfl (ok_M_walk g _ σ1 (r, σ2) hM) rfl rfl (Nat.le_of_ble_eq_true rfl) rfl ?_
  exact l_eq (tgt := 1369) hc d_law_328 (by decide) (k σ2 hi2)
theorem cs_5 (hc : Lc x g b L xs) (hL : L ≤ 3072) (hn : 6 * n + 6 ≤ L) (hi : Inv n σ) (k : ∀ σ', Inv (n + 1) σ' → Lz x g 1369 (LL g b n) [] σ') : Lz x g 333 (LL g b n) [] σ := by
  obtain ⟨r, σ1, σ2, hX, hM, hi2⟩ := both_now n (xs (6 * n + 1)) σ hi
  refine l_aload_n hc d_law_333 2 rfl ?_
  refine l_arg 1 hc d_law_334 d_law_335 d_law_336 d_law_337 d_law_338 rfl (by omega) hL ?_
  refine l_call (As := [.int (xs (6 * n + 1))]) (rv := some (.int r)) (σ1 := σ1) (st := []) (st1 := [.int r]) hc d_law_339 vl_law_36 (by decide) (0, 0, 0) dm_X rfl rfl (ok_X_now g _ σ (r, σ1) hX) rfl rfl (Nat.le_of_ble_eq_true rfl) rfl ?_
  refine l_aload_n hc d_law_342 1 rfl ?_
  refine l_arg 1 hc d_law_343 d_law_344 d_law_345 d_law_346 d_law_347 rfl (by omega) hL ?_
  refine l_call (As := [.int (xs (6 * n + 1))]) (rv := some (.int r)) (σ1 := σ2) (st := [.int r]) (st1 := [.int r, .int r]) hc d_law_348 vl_law_39 (by decide) (6, 0, 0) dm_M rfl rfl (ok_M_now g _ σ1 (r, σ2) hM) rfl rfl (Nat.le_of_ble_eq_true rfl) rfl ?_
  exact l_eq (tgt := 1369) hc d_law_351 (by decide) (k σ2 hi2)
theorem cs_6 (hc : Lc x g b L xs) (hL : L ≤ 3072) (hn : 6 * n + 6 ≤ L) (hi : Inv n σ) (k : ∀ σ', Inv (n + 1) σ' → Lz x g 1369 (LL g b n) [] σ') : Lz x g 356 (LL g b n) [] σ := by
  obtain ⟨r, σ1, σ2, hX, hM, hi2⟩ := both_carpet n (xs (6 * n + 1)) (xs (6 * n + 2)) σ hi
  refine l_aload_n hc d_law_356 2 rfl ?_
  refine l_arg 1 hc d_law_357 d_law_358 d_law_359 d_law_360 d_law_361 rfl (by omega) hL ?_
  refine l_arg 2 hc d_law_362 d_law_363 d_law_364 d_law_365 d_law_366 rfl (by omega) hL ?_
  refine l_call (As := [.int (xs (6 * n + 1)), .int (xs (6 * n + 2))]) (rv := some (.int r)) (σ1 := σ1) (st := []) (st1 := [.int r]) hc d_law_367 vl_law_40 (by decide) (0, 0, 0) dm_X rfl rfl (ok_X_carpet g _ _ σ (r, σ1) hX) rfl rfl (Nat.le_of_ble_eq_true rfl) rfl ?_
  refine l_aload_n hc d_law_370 1 rfl ?_
  refine l_arg 1 hc d_law_371 d_law_372 d_law_373 d_law_374 d_law_375 rfl (by omega) hL ?_
  refine l_arg 2 hc d_law_376 d_law_377 d_law_378 d_law_379 d_law_380 rfl (by omega) hL ?_
  refine l_call (As := [.int (xs (6 * n + 1)), .int (xs (6 * n + 2))]) (rv := some (.int r)) (σ1 := σ2) (st := [.int r]) (st1 := [.int r, .int r]) hc d_law_381 vl_law_43 (by decide) (6, 0, 0) dm_M rfl rfl (ok_M_carpet g _ _ σ1 (r, σ2) hM) rfl rfl (Nat.le_of_ble_eq_true rfl) rfl ?_
  exact l_eq (tgt := 1369) hc d_law_384 (by decide) (k σ2 hi2)
theorem cs_7 (hc : Lc x g b L xs) (hL : L ≤ 3072) (hn : 6 * n + 6 ≤ L) (hi : Inv n σ) (k : ∀ σ', Inv (n + 1) σ' → Lz x g 1369 (LL g b n) [] σ') : Lz x g 389 (LL g b n) [] σ := by
  obtain ⟨r, σ1, σ2, hX, hM, hi2⟩ := both_of n (xs (6 * n + 1)) (xs (6 * n + 2)) σ hi
  refine l_aload_n hc d_law_389 2 rfl ?_
  refine l_arg 1 hc d_law_390 d_law_391 d_law_392 d_law_393 d_law_394 rfl (by omega) hL ?_
  refine l_arg 2 hc d_law_395 d_law_396 d_law_397 d_law_398 d_law_399 rfl (by omega) hL ?_
  refine l_call (As := [.int (xs (6 * n + 1)), .int (xs (6 * n + 2))]) (rv := some (.int r)) (σ1 := σ1) (st := []) (st1 := [.int r]) hc d_law_400 vl_law_44 (by decide) (0, 0, 0) dm_X rfl rfl (ok_X_of g _ _ σ (r, σ1) hX) rfl rfl (Nat.le_of_ble_eq_true rfl) rfl ?_
  refine l_aload_n hc d_law_403 1 rfl ?_
  refine l_arg 1 hc d_law_404 d_law_405 d_law_406 d_law_407 d_law_408 rfl (by omega) hL ?_
  refine l_arg 2 hc d_law_409 d_law_410 d_law_411 d_law_412 d_law_413 rfl (by omega) hL ?_
  refine l_call (As := [.int (xs (6 * n + 1)), .int (xs (6 * n + 2))]) (rv := some (.int r)) (σ1 := σ2) (st := [.int r]) (st1 := [.int r, .int r]) hc d_law_414 vl_law_47 (by decide) (6, 0, 0) dm_M rfl rfl (ok_M_of g _ _ σ1 (r, σ2) hM) rfl rfl (Nat.le_of_ble_eq_true rfl) rfl ?_
  exact l_eq (tgt := 1369) hc d_law_417 (by decide) (k σ2 hi2)
theorem cs_8 (hc : Lc x g b L xs) (hL : L ≤ 3072) (hn : 6 * n + 6 ≤ L) (hi : Inv n σ) (k : ∀ σ', Inv (n + 1) σ' → Lz x g 1369 (LL g b n) [] σ') : Lz x g 422 (LL g b n) [] σ := by
  obtain ⟨r, σ1, σ2, hX, hM, hi2⟩ := both_set n (xs (6 * n + 1)) (xs (6 * n + 2)) (xs (6 * n + 3)) σ hi
  refine l_aload_n hc d_law_422 2 rfl ?_
  refine l_arg 1 hc d_law_423 d_law_424 d_law_425 d_law_426 d_law_427 rfl (by omega) hL ?_
  refine l_arg 2 hc d_law_428 d_law_429 d_law_430 d_law_431 d_law_432 rfl (by omega) hL ?_
  refine l_arg 3 hc d_law_433 d_law_434 d_law_435 d_law_436 d_law_437 rfl (by omega) hL ?_
  refine l_call (As := [.int (xs (6 * n + 1)), .int (xs (6 * n + 2)), .int (xs (6 * n + 3))]) (rv := some (.int r)) (σ1 := σ1) (st := []) (st1 := [.int r]) hc d_law_438 vl_law_48 (by decide) (0, 0, 0) dm_X rfl rfl (ok_X_set g _ _ _ σ (r, σ1) hX) rfl rfl (Nat.le_of_ble_eq_true rfl) rfl ?_
  refine l_aload_n hc d_law_441 1 rfl ?_
  refine l_arg 1 hc d_law_442 d_law_443 d_law_444 d_law_445 d_law_446 rfl (by omega) hL ?_
  refine l_arg 2 hc d_law_447 d_law_448 d_law_449 d_law_450 d_law_451 rfl (by omega) hL ?_
  refine l_arg 3 hc d_law_452 d_law_453 d_law_454 d_law_455 d_law_456 rfl (by omega) hL ?_
  refine l_call (As := [.int (xs (6 * n + 1)), .int (xs (6 * n + 2)), .int (xs (6 * n + 3))]) (rv := some (.int r)) (σ1 := σ2) (st := [.int r]) (st1 := [.int r, .int r]) hc d_law_457 vl_law_52 (by decide) (6, 0, 0) dm_M rfl rfl (ok_M_set g _ _ _ σ1 (r, σ2) hM) rfl rfl (Nat.le_of_ble_eq_true rfl) rfl ?_
  exact l_eq (tgt := 1369) hc d_law_460 (by decide) (k σ2 hi2)
theorem cs_9 (hc : Lc x g b L xs) (hL : L ≤ 3072) (hn : 6 * n + 6 ≤ L) (hi : Inv n σ) (k : ∀ σ', Inv (n + 1) σ' → Lz x g 1369 (LL g b n) [] σ') : Lz x g 465 (LL g b n) [] σ := by
  obtain ⟨r, σ1, σ2, hX, hM, hi2⟩ := both_turn n (xs (6 * n + 1)) (xs (6 * n + 2)) σ hi
  refine l_aload_n hc d_law_465 2 rfl ?_
  refine l_arg 1 hc d_law_466 d_law_467 d_law_468 d_law_469 d_law_470 rfl (by omega) hL ?_
  refine l_arg 2 hc d_law_471 d_law_472 d_law_473 d_law_474 d_law_475 rfl (by omega) hL ?_
  refine l_call (As := [.int (xs (6 * n + 1)), .int (xs (6 * n + 2))]) (rv := some (.int r)) (σ1 := σ1) (st := []) (st1 := [.int r]) hc d_law_476 vl_law_53 (by decide) (0, 0, 0) dm_X rfl rfl (ok_X_turn g _ _ σ (r, σ1) hX) rfl rfl (Nat.le_of_ble_eq_true rfl) rfl ?_
  refine l_aload_n hc d_law_479 1 rfl ?_
  refine l_arg 1 hc d_law_480 d_law_481 d_law_482 d_law_483 d_law_484 rfl (by omega) hL ?_
  refine l_arg 2 hc d_law_485 d_law_486 d_law_487 d_law_488 d_law_489 rfl (by omega) hL ?_
  refine l_call (As := [.int (xs (6 * n + 1)), .int (xs (6 * n + 2))]) (rv := some (.int r)) (σ1 := σ2) (st := [.int r]) (st1 := [.int r, .int r]) hc d_law_490 vl_law_56 (by decide) (6, 0, 0) dm_M rfl rfl (ok_M_turn g _ _ σ1 (r, σ2) hM) rfl rfl (Nat.le_of_ble_eq_true rfl) rfl ?_
  exact l_eq (tgt := 1369) hc d_law_493 (by decide) (k σ2 hi2)
theorem cs_10 (hc : Lc x g b L xs) (hL : L ≤ 3072) (hn : 6 * n + 6 ≤ L) (hi : Inv n σ) (k : ∀ σ', Inv (n + 1) σ' → Lz x g 1369 (LL g b n) [] σ') : Lz x g 498 (LL g b n) [] σ := by
  obtain ⟨r, σ1, σ2, hX, hM, hi2⟩ := both_as n (xs (6 * n + 1)) (xs (6 * n + 2)) σ hi
  refine l_aload_n hc d_law_498 2 rfl ?_
  refine l_arg 1 hc d_law_499 d_law_500 d_law_501 d_law_502 d_law_503 rfl (by omega) hL ?_
  refine l_arg 2 hc d_law_504 d_law_505 d_law_506 d_law_507 d_law_508 rfl (by omega) hL ?_
  refine l_call (As := [.int (xs (6 * n + 1)), .int (xs (6 * n + 2))]) (rv := some (.int r)) (σ1 := σ1) (st := []) (st1 := [.int r]) hc d_law_509 vl_law_57 (by decide) (0, 0, 0) dm_X rfl rfl (ok_X_as g _ _ σ (r, σ1) hX) rfl rfl (Nat.le_of_ble_eq_true rfl) rfl ?_
  refine l_aload_n hc d_law_512 1 rfl ?_
  refine l_arg 1 hc d_law_513 d_law_514 d_law_515 d_law_516 d_law_517 rfl (by omega) hL ?_
  refine l_arg 2 hc d_law_518 d_law_519 d_law_520 d_law_521 d_law_522 rfl (by omega) hL ?_
  refine l_call (As := [.int (xs (6 * n + 1)), .int (xs (6 * n + 2))]) (rv := some (.int r)) (σ1 := σ2) (st := [.int r]) (st1 := [.int r, .int r]) hc d_law_523 vl_law_60 (by decide) (6, 0, 0) dm_M rfl rfl (ok_M_as g _ _ σ1 (r, σ2) hM) rfl rfl (Nat.le_of_ble_eq_true rfl) rfl ?_
  exact l_eq (tgt := 1369) hc d_law_526 (by decide) (k σ2 hi2)
theorem cs_11 (hc : Lc x g b L xs) (hL : L ≤ 3072) (hn : 6 * n + 6 ≤ L) (hi : Inv n σ) (k : ∀ σ', Inv (n + 1) σ' → Lz x g 1369 (LL g b n) [] σ') : Lz x g 531 (LL g b n) [] σ := by
  obtain ⟨r, σ1, σ2, hX, hM, hi2⟩ := both_roll n (by omega) (xs (6 * n + 1)) (xs (6 * n + 2)) σ hi
  refine l_aload_n hc d_law_531 2 rfl ?_
  refine l_arg 1 hc d_law_532 d_law_533 d_law_534 d_law_535 d_law_536 rfl (by omega) hL ?_
  refine l_arg 2 hc d_law_537 d_law_538 d_law_539 d_law_540 d_law_541 rfl (by omega) hL ?_
  refine l_call (As := [.int (xs (6 * n + 1)), .int (xs (6 * n + 2))]) (rv := some (.int r)) (σ1 := σ1) (st := []) (st1 := [.int r]) hc d_law_542 vl_law_61 (by decide) (0, 0, 0) dm_X rfl rfl (ok_X_roll g _ _ σ (r, σ1) hX) rfl rfl (Nat.le_of_ble_eq_true rfl) rfl ?_
  refine l_aload_n hc d_law_545 1 rfl ?_
  refine l_arg 1 hc d_law_546 d_law_547 d_law_548 d_law_549 d_law_550 rfl (by omega) hL ?_
  refine l_arg 2 hc d_law_551 d_law_552 d_law_553 d_law_554 d_law_555 rfl (by omega) hL ?_
  refine l_call (As := [.int (xs (6 * n + 1)), .int (xs (6 * n + 2))]) (rv := some (.int r)) (σ1 := σ2) (st := [.int r]) (st1 := [.int r, .int r]) hc d_law_556 vl_law_64 (by decide) (6, 0, 0) dm_M rfl rfl (ok_M_roll g _ _ σ1 (r, σ2) hM) rfl rfl (Nat.le_of_ble_eq_true rfl) rfl ?_
  exact l_eq (tgt := 1369) hc d_law_559 (by decide) (k σ2 hi2)
theorem cs_12 (hc : Lc x g b L xs) (hL : L ≤ 3072) (hn : 6 * n + 6 ≤ L) (hi : Inv n σ) (k : ∀ σ', Inv (n + 1) σ' → Lz x g 1369 (LL g b n) [] σ') : Lz x g 564 (LL g b n) [] σ := by
  obtain ⟨r, σ1, σ2, hX, hM, hi2⟩ := both_up n (xs (6 * n + 1)) σ hi
  refine l_aload_n hc d_law_564 2 rfl ?_
  refine l_arg 1 hc d_law_565 d_law_566 d_law_567 d_law_568 d_law_569 rfl (by omega) hL ?_
  refine l_call (As := [.int (xs (6 * n + 1))]) (rv := some (.int r)) (σ1 := σ1) (st := []) (st1 := [.int r]) hc d_law_570 vl_law_65 (by decide) (0, 0, 0) dm_X rfl rfl (ok_X_up g _ σ (r, σ1) hX) rfl rfl (Nat.le_of_ble_eq_true rfl) rfl ?_
  refine l_aload_n hc d_law_573 1 rfl ?_
  refine l_arg 1 hc d_law_574 d_law_575 d_law_576 d_law_577 d_law_578 rfl (by omega) hL ?_
  refine l_call (As := [.int (xs (6 * n + 1))]) (rv := some (.int r)) (σ1 := σ2) (st := [.int r]) (st1 := [.int r, .int r]) hc d_law_579 vl_law_68 (by decide) (6, 0, 0) dm_M rfl rfl (ok_M_up g _ σ1 (r, σ2) hM) rfl rfl (Nat.le_of_ble_eq_true rfl) rfl ?_
  exact l_eq (tgt := 1369) hc d_law_582 (by decide) (k σ2 hi2)
theorem cs_13 (hc : Lc x g b L xs) (hL : L ≤ 3072) (hn : 6 * n + 6 ≤ L) (hi : Inv n σ) (k : ∀ σ', Inv (n + 1) σ' → Lz x g 1369 (LL g b n) [] σ') : Lz x g 587 (LL g b n) [] σ := by
  obtain ⟨r, σ1, σ2, hX, hM, hi2⟩ := both_beat n (xs (6 * n + 1)) σ hi
  refine l_aload_n hc d_law_587 2 rfl ?_
  refine l_arg 1 hc d_law_588 d_law_589 d_law_590 d_law_591 d_law_592 rfl (by omega) hL ?_
  refine l_call (As := [.int (xs (6 * n + 1))]) (rv := some (.int r)) (σ1 := σ1) (st := []) (st1 := [.int r]) hc d_law_593 vl_law_69 (by decide) (0, 0, 0) dm_X rfl rfl (ok_X_beat g _ σ (r, σ1) hX) rfl rfl (Nat.le_of_ble_eq_true rfl) rfl ?_
  refine l_aload_n hc d_law_596 1 rfl ?_
  refine l_arg 1 hc d_law_597 d_law_598 d_law_599 d_law_600 d_law_601 rfl (by omega) hL ?_
  refine l_call (As := [.int (xs (6 * n + 1))]) (rv := some (.int r)) (σ1 := σ2) (st := [.int r]) (st1 := [.int r, .int r]) hc d_law_602 vl_law_72 (by decide) (6, 0, 0) dm_M rfl rfl (ok_M_beat g _ σ1 (r, σ2) hM) rfl rfl (Nat.le_of_ble_eq_true rfl) rfl ?_
  exact l_eq (tgt := 1369) hc d_law_605 (by decide) (k σ2 hi2)
theorem cs_14 (hc : Lc x g b L xs) (hL : L ≤ 3072) (hn : 6 * n + 6 ≤ L) (hi : Inv n σ) (k : ∀ σ', Inv (n + 1) σ' → Lz x g 1369 (LL g b n) [] σ') : Lz x g 610 (LL g b n) [] σ := by
  obtain ⟨r, σ1, σ2, hX, hM, hi2⟩ := both_days n (xs (6 * n + 1)) σ hi
  refine l_aload_n hc d_law_610 2 rfl ?_
  refine l_arg 1 hc d_law_611 d_law_612 d_law_613 d_law_614 d_law_615 rfl (by omega) hL ?_
  refine l_call (As := [.int (xs (6 * n + 1))]) (rv := some (.int r)) (σ1 := σ1) (st := []) (st1 := [.int r]) hc d_law_616 vl_law_73 (by decide) (0, 0, 0) dm_X rfl rfl (ok_X_days g _ σ (r, σ1) hX) rfl rfl (Nat.le_of_ble_eq_true rfl) rfl ?_
  refine l_aload_n hc d_law_619 1 rfl ?_
  refine l_arg 1 hc d_law_620 d_law_621 d_law_622 d_law_623 d_law_624 rfl (by omega) hL ?_
  refine l_call (As := [.int (xs (6 * n + 1))]) (rv := some (.int r)) (σ1 := σ2) (st := [.int r]) (st1 := [.int r, .int r]) hc d_law_625 vl_law_76 (by decide) (6, 0, 0) dm_M rfl rfl (ok_M_days g _ σ1 (r, σ2) hM) rfl rfl (Nat.le_of_ble_eq_true rfl) rfl ?_
  exact l_eq (tgt := 1369) hc d_law_628 (by decide) (k σ2 hi2)
theorem cs_15 (hc : Lc x g b L xs) (hL : L ≤ 3072) (hn : 6 * n + 6 ≤ L) (hi : Inv n σ) (k : ∀ σ', Inv (n + 1) σ' → Lz x g 1369 (LL g b n) [] σ') : Lz x g 633 (LL g b n) [] σ := by
  obtain ⟨r, σ1, σ2, hX, hM, hi2⟩ := both_on n (xs (6 * n + 1)) (xs (6 * n + 2)) (xs (6 * n + 3)) σ hi
  refine l_aload_n hc d_law_633 2 rfl ?_
  refine l_arg 1 hc d_law_634 d_law_635 d_law_636 d_law_637 d_law_638 rfl (by omega) hL ?_
  refine l_arg 2 hc d_law_639 d_law_640 d_law_641 d_law_642 d_law_643 rfl (by omega) hL ?_
  refine l_arg 3 hc d_law_644 d_law_645 d_law_646 d_law_647 d_law_648 rfl (by omega) hL ?_
  refine l_call (As := [.int (xs (6 * n + 1)), .int (xs (6 * n + 2)), .int (xs (6 * n + 3))]) (rv := some (.int r)) (σ1 := σ1) (st := []) (st1 := [.int r]) hc d_law_649 vl_law_77 (by decide) (0, 0, 0) dm_X rfl rfl (ok_X_on g _ _ _ σ (r, σ1) hX) rfl rfl (Nat.le_of_ble_eq_true rfl) rfl ?_
  refine l_aload_n hc d_law_652 1 rfl ?_
  refine l_arg 1 hc d_law_653 d_law_654 d_law_655 d_law_656 d_law_657 rfl (by omega) hL ?_
  refine l_arg 2 hc d_law_658 d_law_659 d_law_660 d_law_661 d_law_662 rfl (by omega) hL ?_
  refine l_arg 3 hc d_law_663 d_law_664 d_law_665 d_law_666 d_law_667 rfl (by omega) hL ?_
  refine l_call (As := [.int (xs (6 * n + 1)), .int (xs (6 * n + 2)), .int (xs (6 * n + 3))]) (rv := some (.int r)) (σ1 := σ2) (st := [.int r]) (st1 := [.int r, .int r]) hc d_law_668 vl_law_80 (by decide) (6, 0, 0) dm_M rfl rfl (ok_M_on g _ _ _ σ1 (r, σ2) hM) rfl rfl (Nat.le_of_ble_eq_true rfl) rfl ?_
  exact l_eq (tgt := 1369) hc d_law_671 (by decide) (k σ2 hi2)
theorem cs_16 (hc : Lc x g b L xs) (hL : L ≤ 3072) (hn : 6 * n + 6 ≤ L) (hi : Inv n σ) (k : ∀ σ', Inv (n + 1) σ' → Lz x g 1369 (LL g b n) [] σ') : Lz x g 676 (LL g b n) [] σ := by
  obtain ⟨r, σ1, σ2, hX, hM, hi2⟩ := both_ownsOn n (xs (6 * n + 1)) (xs (6 * n + 2)) σ hi
  refine l_aload_n hc d_law_676 2 rfl ?_
  refine l_arg 1 hc d_law_677 d_law_678 d_law_679 d_law_680 d_law_681 rfl (by omega) hL ?_
  refine l_arg 2 hc d_law_682 d_law_683 d_law_684 d_law_685 d_law_686 rfl (by omega) hL ?_
  refine l_call (As := [.int (xs (6 * n + 1)), .int (xs (6 * n + 2))]) (rv := some (.int r)) (σ1 := σ1) (st := []) (st1 := [.int r]) hc d_law_687 vl_law_81 (by decide) (0, 0, 0) dm_X rfl rfl (ok_X_ownsOn g _ _ σ (r, σ1) hX) rfl rfl (Nat.le_of_ble_eq_true rfl) rfl ?_
  refine l_aload_n hc d_law_690 1 rfl ?_
  refine l_arg 1 hc d_law_691 d_law_692 d_law_693 d_law_694 d_law_695 rfl (by omega) hL ?_
  refine l_arg 2 hc d_law_696 d_law_697 d_law_698 d_law_699 d_law_700 rfl (by omega) hL ?_
  refine l_call (As := [.int (xs (6 * n + 1)), .int (xs (6 * n + 2))]) (rv := some (.int r)) (σ1 := σ2) (st := [.int r]) (st1 := [.int r, .int r]) hc d_law_701 vl_law_84 (by decide) (6, 0, 0) dm_M rfl rfl (ok_M_ownsOn g _ _ σ1 (r, σ2) hM) rfl rfl (Nat.le_of_ble_eq_true rfl) rfl ?_
  exact l_eq (tgt := 1369) hc d_law_704 (by decide) (k σ2 hi2)
theorem cs_17 (hc : Lc x g b L xs) (hL : L ≤ 3072) (hn : 6 * n + 6 ≤ L) (hi : Inv n σ) (k : ∀ σ', Inv (n + 1) σ' → Lz x g 1369 (LL g b n) [] σ') : Lz x g 709 (LL g b n) [] σ := by
  obtain ⟨r, σ1, σ2, hX, hM, hi2⟩ := both_ends n (xs (6 * n + 1)) σ hi
  refine l_aload_n hc d_law_709 2 rfl ?_
  refine l_arg 1 hc d_law_710 d_law_711 d_law_712 d_law_713 d_law_714 rfl (by omega) hL ?_
  refine l_call (As := [.int (xs (6 * n + 1))]) (rv := some (.int r)) (σ1 := σ1) (st := []) (st1 := [.int r]) hc d_law_715 vl_law_85 (by decide) (0, 0, 0) dm_X rfl rfl (ok_X_ends g _ σ (r, σ1) hX) rfl rfl (Nat.le_of_ble_eq_true rfl) rfl ?_
  refine l_aload_n hc d_law_718 1 rfl ?_
  refine l_arg 1 hc d_law_719 d_law_720 d_law_721 d_law_722 d_law_723 rfl (by omega) hL ?_
  refine l_call (As := [.int (xs (6 * n + 1))]) (rv := some (.int r)) (σ1 := σ2) (st := [.int r]) (st1 := [.int r, .int r]) hc d_law_724 vl_law_88 (by decide) (6, 0, 0) dm_M rfl rfl (ok_M_ends g _ σ1 (r, σ2) hM) rfl rfl (Nat.le_of_ble_eq_true rfl) rfl ?_
  exact l_eq (tgt := 1369) hc d_law_727 (by decide) (k σ2 hi2)
theorem cs_18 (hc : Lc x g b L xs) (hL : L ≤ 3072) (hn : 6 * n + 6 ≤ L) (hi : Inv n σ) (k : ∀ σ', Inv (n + 1) σ' → Lz x g 1369 (LL g b n) [] σ') : Lz x g 732 (LL g b n) [] σ := by
  obtain ⟨r, σ1, σ2, hX, hM, hi2⟩ := both_bare n (xs (6 * n + 1)) σ hi
  refine l_aload_n hc d_law_732 2 rfl ?_
  refine l_arg 1 hc d_law_733 d_law_734 d_law_735 d_law_736 d_law_737 rfl (by omega) hL ?_
  refine l_call (As := [.int (xs (6 * n + 1))]) (rv := some (.int r)) (σ1 := σ1) (st := []) (st1 := [.int r]) hc d_law_738 vl_law_89 (by decide) (0, 0, 0) dm_X rfl rfl (ok_X_bare g _ σ (r, σ1) hX) rfl rfl (Nat.le_of_ble_eq_true rfl) rfl ?_
  refine l_aload_n hc d_law_741 1 rfl ?_
  refine l_arg 1 hc d_law_742 d_law_743 d_law_744 d_law_745 d_law_746 rfl (by omega) hL ?_
  refine l_call (As := [.int (xs (6 * n + 1))]) (rv := some (.int r)) (σ1 := σ2) (st := [.int r]) (st1 := [.int r, .int r]) hc d_law_747 vl_law_92 (by decide) (6, 0, 0) dm_M rfl rfl (ok_M_bare g _ σ1 (r, σ2) hM) rfl rfl (Nat.le_of_ble_eq_true rfl) rfl ?_
  exact l_eq (tgt := 1369) hc d_law_750 (by decide) (k σ2 hi2)
theorem cs_19 (hc : Lc x g b L xs) (hL : L ≤ 3072) (hn : 6 * n + 6 ≤ L) (hi : Inv n σ) (k : ∀ σ', Inv (n + 1) σ' → Lz x g 1369 (LL g b n) [] σ') : Lz x g 755 (LL g b n) [] σ := by
  obtain ⟨r, σ1, σ2, hX, hM, hi2⟩ := both_changes n (xs (6 * n + 1)) σ hi
  refine l_aload_n hc d_law_755 2 rfl ?_
  refine l_arg 1 hc d_law_756 d_law_757 d_law_758 d_law_759 d_law_760 rfl (by omega) hL ?_
  refine l_call (As := [.int (xs (6 * n + 1))]) (rv := some (.int r)) (σ1 := σ1) (st := []) (st1 := [.int r]) hc d_law_761 vl_law_93 (by decide) (0, 0, 0) dm_X rfl rfl (ok_X_changes g _ σ (r, σ1) hX) rfl rfl (Nat.le_of_ble_eq_true rfl) rfl ?_
  refine l_aload_n hc d_law_764 1 rfl ?_
  refine l_arg 1 hc d_law_765 d_law_766 d_law_767 d_law_768 d_law_769 rfl (by omega) hL ?_
  refine l_call (As := [.int (xs (6 * n + 1))]) (rv := some (.int r)) (σ1 := σ2) (st := [.int r]) (st1 := [.int r, .int r]) hc d_law_770 vl_law_96 (by decide) (6, 0, 0) dm_M rfl rfl (ok_M_changes g _ σ1 (r, σ2) hM) rfl rfl (Nat.le_of_ble_eq_true rfl) rfl ?_
  exact l_eq (tgt := 1369) hc d_law_773 (by decide) (k σ2 hi2)
theorem cs_20 (hc : Lc x g b L xs) (hL : L ≤ 3072) (hn : 6 * n + 6 ≤ L) (hi : Inv n σ) (k : ∀ σ', Inv (n + 1) σ' → Lz x g 1369 (LL g b n) [] σ') : Lz x g 778 (LL g b n) [] σ := by
  obtain ⟨r, σ1, σ2, hX, hM, hi2⟩ := both_best n (by omega) (xs (6 * n + 1)) (xs (6 * n + 2)) σ hi
  refine l_aload_n hc d_law_778 2 rfl ?_
  refine l_arg 1 hc d_law_779 d_law_780 d_law_781 d_law_782 d_law_783 rfl (by omega) hL ?_
  refine l_arg 2 hc d_law_784 d_law_785 d_law_786 d_law_787 d_law_788 rfl (by omega) hL ?_
  refine l_call (As := [.int (xs (6 * n + 1)), .int (xs (6 * n + 2))]) (rv := some (.int r)) (σ1 := σ1) (st := []) (st1 := [.int r]) hc d_law_789 vl_law_97 (by decide) (0, 0, 0) dm_X rfl rfl (ok_X_best g _ _ σ (r, σ1) hX) rfl rfl (Nat.le_of_ble_eq_true rfl) rfl ?_
  refine l_aload_n hc d_law_792 1 rfl ?_
  refine l_arg 1 hc d_law_793 d_law_794 d_law_795 d_law_796 d_law_797 rfl (by omega) hL ?_
  refine l_arg 2 hc d_law_798 d_law_799 d_law_800 d_law_801 d_law_802 rfl (by omega) hL ?_
  refine l_call (As := [.int (xs (6 * n + 1)), .int (xs (6 * n + 2))]) (rv := some (.int r)) (σ1 := σ2) (st := [.int r]) (st1 := [.int r, .int r]) hc d_law_803 vl_law_100 (by decide) (6, 0, 0) dm_M rfl rfl (ok_M_best g _ _ σ1 (r, σ2) hM) rfl rfl (Nat.le_of_ble_eq_true rfl) rfl ?_
  exact l_eq (tgt := 1369) hc d_law_806 (by decide) (k σ2 hi2)
theorem cs_21 (hc : Lc x g b L xs) (hL : L ≤ 3072) (hn : 6 * n + 6 ≤ L) (hi : Inv n σ) (k : ∀ σ', Inv (n + 1) σ' → Lz x g 1369 (LL g b n) [] σ') : Lz x g 811 (LL g b n) [] σ := by
  obtain ⟨r, σ1, σ2, hX, hM, hi2⟩ := both_take n (xs (6 * n + 1)) (xs (6 * n + 2)) σ hi
  refine l_aload_n hc d_law_811 2 rfl ?_
  refine l_arg 1 hc d_law_812 d_law_813 d_law_814 d_law_815 d_law_816 rfl (by omega) hL ?_
  refine l_arg 2 hc d_law_817 d_law_818 d_law_819 d_law_820 d_law_821 rfl (by omega) hL ?_
  refine l_call (As := [.int (xs (6 * n + 1)), .int (xs (6 * n + 2))]) (rv := some (.int r)) (σ1 := σ1) (st := []) (st1 := [.int r]) hc d_law_822 vl_law_101 (by decide) (0, 0, 0) dm_X rfl rfl (ok_X_take g _ _ σ (r, σ1) hX) rfl rfl (Nat.le_of_ble_eq_true rfl) rfl ?_
  refine l_aload_n hc d_law_825 1 rfl ?_
  refine l_arg 1 hc d_law_826 d_law_827 d_law_828 d_law_829 d_law_830 rfl (by omega) hL ?_
  refine l_arg 2 hc d_law_831 d_law_832 d_law_833 d_law_834 d_law_835 rfl (by omega) hL ?_
  refine l_call (As := [.int (xs (6 * n + 1)), .int (xs (6 * n + 2))]) (rv := some (.int r)) (σ1 := σ2) (st := [.int r]) (st1 := [.int r, .int r]) hc d_law_836 vl_law_104 (by decide) (6, 0, 0) dm_M rfl rfl (ok_M_take g _ _ σ1 (r, σ2) hM) rfl rfl (Nat.le_of_ble_eq_true rfl) rfl ?_
  exact l_eq (tgt := 1369) hc d_law_839 (by decide) (k σ2 hi2)
theorem cs_22 (hc : Lc x g b L xs) (hL : L ≤ 3072) (hn : 6 * n + 6 ≤ L) (hi : Inv n σ) (k : ∀ σ', Inv (n + 1) σ' → Lz x g 1369 (LL g b n) [] σ') : Lz x g 844 (LL g b n) [] σ := by
  obtain ⟨r, σ1, σ2, hX, hM, hi2⟩ := both_kind n (xs (6 * n + 1)) σ hi
  refine l_aload_n hc d_law_844 2 rfl ?_
  refine l_arg 1 hc d_law_845 d_law_846 d_law_847 d_law_848 d_law_849 rfl (by omega) hL ?_
  refine l_call (As := [.int (xs (6 * n + 1))]) (rv := some (.int r)) (σ1 := σ1) (st := []) (st1 := [.int r]) hc d_law_850 vl_law_105 (by decide) (0, 0, 0) dm_X rfl rfl (ok_X_kind g _ σ (r, σ1) hX) rfl rfl (Nat.le_of_ble_eq_true rfl) rfl ?_
  refine l_aload_n hc d_law_853 1 rfl ?_
  refine l_arg 1 hc d_law_854 d_law_855 d_law_856 d_law_857 d_law_858 rfl (by omega) hL ?_
  refine l_call (As := [.int (xs (6 * n + 1))]) (rv := some (.int r)) (σ1 := σ2) (st := [.int r]) (st1 := [.int r, .int r]) hc d_law_859 vl_law_108 (by decide) (6, 0, 0) dm_M rfl rfl (ok_M_kind g _ σ1 (r, σ2) hM) rfl rfl (Nat.le_of_ble_eq_true rfl) rfl ?_
  exact l_eq (tgt := 1369) hc d_law_862 (by decide) (k σ2 hi2)
theorem cs_23 (hc : Lc x g b L xs) (hL : L ≤ 3072) (hn : 6 * n + 6 ≤ L) (hi : Inv n σ) (k : ∀ σ', Inv (n + 1) σ' → Lz x g 1369 (LL g b n) [] σ') : Lz x g 867 (LL g b n) [] σ := by
  obtain ⟨r, σ1, σ2, hX, hM, hi2⟩ := both_enough n (xs (6 * n + 1)) (xs (6 * n + 2)) σ hi
  refine l_aload_n hc d_law_867 2 rfl ?_
  refine l_arg 1 hc d_law_868 d_law_869 d_law_870 d_law_871 d_law_872 rfl (by omega) hL ?_
  refine l_arg 2 hc d_law_873 d_law_874 d_law_875 d_law_876 d_law_877 rfl (by omega) hL ?_
  refine l_call (As := [.int (xs (6 * n + 1)), .int (xs (6 * n + 2))]) (rv := some (.int r)) (σ1 := σ1) (st := []) (st1 := [.int r]) hc d_law_878 vl_law_109 (by decide) (0, 0, 0) dm_X rfl rfl (ok_X_enough g _ _ σ (r, σ1) hX) rfl rfl (Nat.le_of_ble_eq_true rfl) rfl ?_
  refine l_aload_n hc d_law_881 1 rfl ?_
  refine l_arg 1 hc d_law_882 d_law_883 d_law_884 d_law_885 d_law_886 rfl (by omega) hL ?_
  refine l_arg 2 hc d_law_887 d_law_888 d_law_889 d_law_890 d_law_891 rfl (by omega) hL ?_
  refine l_call (As := [.int (xs (6 * n + 1)), .int (xs (6 * n + 2))]) (rv := some (.int r)) (σ1 := σ2) (st := [.int r]) (st1 := [.int r, .int r]) hc d_law_892 vl_law_112 (by decide) (6, 0, 0) dm_M rfl rfl (ok_M_enough g _ _ σ1 (r, σ2) hM) rfl rfl (Nat.le_of_ble_eq_true rfl) rfl ?_
  exact l_eq (tgt := 1369) hc d_law_895 (by decide) (k σ2 hi2)
theorem cs_24 (hc : Lc x g b L xs) (hL : L ≤ 3072) (hn : 6 * n + 6 ≤ L) (hi : Inv n σ) (k : ∀ σ', Inv (n + 1) σ' → Lz x g 1369 (LL g b n) [] σ') : Lz x g 900 (LL g b n) [] σ := by
  obtain ⟨r, σ1, σ2, hX, hM, hi2⟩ := both_weather n (xs (6 * n + 1)) σ hi
  refine l_aload_n hc d_law_900 2 rfl ?_
  refine l_arg 1 hc d_law_901 d_law_902 d_law_903 d_law_904 d_law_905 rfl (by omega) hL ?_
  refine l_call (As := [.int (xs (6 * n + 1))]) (rv := some (.int r)) (σ1 := σ1) (st := []) (st1 := [.int r]) hc d_law_906 vl_law_113 (by decide) (0, 0, 0) dm_X rfl rfl (ok_X_weather g _ σ (r, σ1) hX) rfl rfl (Nat.le_of_ble_eq_true rfl) rfl ?_
  refine l_aload_n hc d_law_909 1 rfl ?_
  refine l_arg 1 hc d_law_910 d_law_911 d_law_912 d_law_913 d_law_914 rfl (by omega) hL ?_
  refine l_call (As := [.int (xs (6 * n + 1))]) (rv := some (.int r)) (σ1 := σ2) (st := [.int r]) (st1 := [.int r, .int r]) hc d_law_915 vl_law_116 (by decide) (6, 0, 0) dm_M rfl rfl (ok_M_weather g _ σ1 (r, σ2) hM) rfl rfl (Nat.le_of_ble_eq_true rfl) rfl ?_
  exact l_eq (tgt := 1369) hc d_law_918 (by decide) (k σ2 hi2)
theorem cs_25 (hc : Lc x g b L xs) (hL : L ≤ 3072) (hn : 6 * n + 6 ≤ L) (hi : Inv n σ) (k : ∀ σ', Inv (n + 1) σ' → Lz x g 1369 (LL g b n) [] σ') : Lz x g 923 (LL g b n) [] σ := by
  obtain ⟨r, σ1, σ2, hX, hM, hi2⟩ := both_fewest n (xs (6 * n + 1)) (xs (6 * n + 2)) σ hi
  refine l_aload_n hc d_law_923 2 rfl ?_
  refine l_arg 1 hc d_law_924 d_law_925 d_law_926 d_law_927 d_law_928 rfl (by omega) hL ?_
  refine l_arg 2 hc d_law_929 d_law_930 d_law_931 d_law_932 d_law_933 rfl (by omega) hL ?_
  refine l_call (As := [.int (xs (6 * n + 1)), .int (xs (6 * n + 2))]) (rv := some (.int r)) (σ1 := σ1) (st := []) (st1 := [.int r]) hc d_law_934 vl_law_117 (by decide) (0, 0, 0) dm_X rfl rfl (ok_X_fewest g _ _ σ (r, σ1) hX) rfl rfl (Nat.le_of_ble_eq_true rfl) rfl ?_
  refine l_aload_n hc d_law_937 1 rfl ?_
  refine l_arg 1 hc d_law_938 d_law_939 d_law_940 d_law_941 d_law_942 rfl (by omega) hL ?_
  refine l_arg 2 hc d_law_943 d_law_944 d_law_945 d_law_946 d_law_947 rfl (by omega) hL ?_
  refine l_call (As := [.int (xs (6 * n + 1)), .int (xs (6 * n + 2))]) (rv := some (.int r)) (σ1 := σ2) (st := [.int r]) (st1 := [.int r, .int r]) hc d_law_948 vl_law_120 (by decide) (6, 0, 0) dm_M rfl rfl (ok_M_fewest g _ _ σ1 (r, σ2) hM) rfl rfl (Nat.le_of_ble_eq_true rfl) rfl ?_
  exact l_eq (tgt := 1369) hc d_law_951 (by decide) (k σ2 hi2)
theorem cs_26 (hc : Lc x g b L xs) (hL : L ≤ 3072) (hn : 6 * n + 6 ≤ L) (hi : Inv n σ) (k : ∀ σ', Inv (n + 1) σ' → Lz x g 1369 (LL g b n) [] σ') : Lz x g 956 (LL g b n) [] σ := by
  obtain ⟨r, σ1, σ2, hX, hM, hi2⟩ := both_feed n (xs (6 * n + 1)) (xs (6 * n + 2)) σ hi
  refine l_aload_n hc d_law_956 2 rfl ?_
  refine l_arg 1 hc d_law_957 d_law_958 d_law_959 d_law_960 d_law_961 rfl (by omega) hL ?_
  refine l_arg 2 hc d_law_962 d_law_963 d_law_964 d_law_965 d_law_966 rfl (by omega) hL ?_
  refine l_call (As := [.int (xs (6 * n + 1)), .int (xs (6 * n + 2))]) (rv := some (.int r)) (σ1 := σ1) (st := []) (st1 := [.int r]) hc d_law_967 vl_law_121 (by decide) (0, 0, 0) dm_X rfl rfl (ok_X_feed g _ _ σ (r, σ1) hX) rfl rfl (Nat.le_of_ble_eq_true rfl) rfl ?_
  refine l_aload_n hc d_law_970 1 rfl ?_
  refine l_arg 1 hc d_law_971 d_law_972 d_law_973 d_law_974 d_law_975 rfl (by omega) hL ?_
  refine l_arg 2 hc d_law_976 d_law_977 d_law_978 d_law_979 d_law_980 rfl (by omega) hL ?_
  refine l_call (As := [.int (xs (6 * n + 1)), .int (xs (6 * n + 2))]) (rv := some (.int r)) (σ1 := σ2) (st := [.int r]) (st1 := [.int r, .int r]) hc d_law_981 vl_law_124 (by decide) (6, 0, 0) dm_M rfl rfl (ok_M_feed g _ _ σ1 (r, σ2) hM) rfl rfl (Nat.le_of_ble_eq_true rfl) rfl ?_
  exact l_eq (tgt := 1369) hc d_law_984 (by decide) (k σ2 hi2)
theorem cs_27 (hc : Lc x g b L xs) (hL : L ≤ 3072) (hn : 6 * n + 6 ≤ L) (hi : Inv n σ) (k : ∀ σ', Inv (n + 1) σ' → Lz x g 1369 (LL g b n) [] σ') : Lz x g 989 (LL g b n) [] σ := by
  obtain ⟨r, σ1, σ2, hX, hM, hi2⟩ := both_wipe n σ hi
  refine l_aload_n hc d_law_989 2 rfl ?_
  refine l_call (As := []) (rv := some (.int r)) (σ1 := σ1) (st := []) (st1 := [.int r]) hc d_law_990 vl_law_125 (by decide) (0, 0, 0) dm_X rfl rfl (ok_X_wipe g σ (r, σ1) hX) rfl rfl (Nat.le_of_ble_eq_true rfl) rfl ?_
  refine l_aload_n hc d_law_993 1 rfl ?_
  refine l_call (As := []) (rv := some (.int r)) (σ1 := σ2) (st := [.int r]) (st1 := [.int r, .int r]) hc d_law_994 vl_law_128 (by decide) (6, 0, 0) dm_M rfl rfl (ok_M_wipe g σ1 (r, σ2) hM) rfl rfl (Nat.le_of_ble_eq_true rfl) rfl ?_
  exact l_eq (tgt := 1369) hc d_law_997 (by decide) (k σ2 hi2)
theorem cs_28 (hc : Lc x g b L xs) (hL : L ≤ 3072) (hn : 6 * n + 6 ≤ L) (hi : Inv n σ) (k : ∀ σ', Inv (n + 1) σ' → Lz x g 1369 (LL g b n) [] σ') : Lz x g 1002 (LL g b n) [] σ := by
  obtain ⟨r, σ1, σ2, hX, hM, hi2⟩ := both_palace n (by omega) σ hi
  refine l_aload_n hc d_law_1002 2 rfl ?_
  refine l_call (As := []) (rv := some (.int r)) (σ1 := σ1) (st := []) (st1 := [.int r]) hc d_law_1003 vl_law_129 (by decide) (0, 0, 0) dm_X rfl rfl (ok_X_palace g σ (r, σ1) hX) rfl rfl (Nat.le_of_ble_eq_true rfl) rfl ?_
  refine l_aload_n hc d_law_1006 1 rfl ?_
  refine l_call (As := []) (rv := some (.int r)) (σ1 := σ2) (st := [.int r]) (st1 := [.int r, .int r]) hc d_law_1007 vl_law_132 (by decide) (6, 0, 0) dm_M rfl rfl (ok_M_palace g σ1 (r, σ2) hM) rfl rfl (Nat.le_of_ble_eq_true rfl) rfl ?_
  exact l_eq (tgt := 1369) hc d_law_1010 (by decide) (k σ2 hi2)
theorem cs_29 (hc : Lc x g b L xs) (hL : L ≤ 3072) (hn : 6 * n + 6 ≤ L) (hi : Inv n σ) (k : ∀ σ', Inv (n + 1) σ' → Lz x g 1369 (LL g b n) [] σ') : Lz x g 1015 (LL g b n) [] σ := by
  obtain ⟨r, σ1, σ2, hX, hM, hi2⟩ := both_sheet n (xs (6 * n + 1)) (xs (6 * n + 2)) (xs (6 * n + 3)) σ hi
  refine l_aload_n hc d_law_1015 2 rfl ?_
  refine l_arg 1 hc d_law_1016 d_law_1017 d_law_1018 d_law_1019 d_law_1020 rfl (by omega) hL ?_
  refine l_arg 2 hc d_law_1021 d_law_1022 d_law_1023 d_law_1024 d_law_1025 rfl (by omega) hL ?_
  refine l_arg 3 hc d_law_1026 d_law_1027 d_law_1028 d_law_1029 d_law_1030 rfl (by omega) hL ?_
  refine l_call (As := [.int (xs (6 * n + 1)), .int (xs (6 * n + 2)), .int (xs (6 * n + 3))]) (rv := some (.int r)) (σ1 := σ1) (st := []) (st1 := [.int r]) hc d_law_1031 vl_law_133 (by decide) (0, 0, 0) dm_X rfl rfl (ok_X_sheet g _ _ _ σ (r, σ1) hX) rfl rfl (Nat.le_of_ble_eq_true rfl) rfl ?_
  refine l_aload_n hc d_law_1034 1 rfl ?_
  refine l_arg 1 hc d_law_1035 d_law_1036 d_law_1037 d_law_1038 d_law_1039 rfl (by omega) hL ?_
  refine l_arg 2 hc d_law_1040 d_law_1041 d_law_1042 d_law_1043 d_law_1044 rfl (by omega) hL ?_
  refine l_arg 3 hc d_law_1045 d_law_1046 d_law_1047 d_law_1048 d_law_1049 rfl (by omega) hL ?_
  refine l_call (As := [.int (xs (6 * n + 1)), .int (xs (6 * n + 2)), .int (xs (6 * n + 3))]) (rv := some (.int r)) (σ1 := σ2) (st := [.int r]) (st1 := [.int r, .int r]) hc d_law_1050 vl_law_136 (by decide) (6, 0, 0) dm_M rfl rfl (ok_M_sheet g _ _ _ σ1 (r, σ2) hM) rfl rfl (Nat.le_of_ble_eq_true rfl) rfl ?_
  exact l_eq (tgt := 1369) hc d_law_1053 (by decide) (k σ2 hi2)
theorem cs_30 (hc : Lc x g b L xs) (hL : L ≤ 3072) (hn : 6 * n + 6 ≤ L) (hi : Inv n σ) (k : ∀ σ', Inv (n + 1) σ' → Lz x g 1369 (LL g b n) [] σ') : Lz x g 1058 (LL g b n) [] σ := by
  obtain ⟨r, σ1, σ2, hX, hM, hi2⟩ := both_write n (xs (6 * n + 1)) (xs (6 * n + 2)) ((((xs (6 * n + 3))).toInt64 <<< ((iI 32).toInt64 &&& 63)) ||| (((xs (6 * n + 4))).toInt64 &&& 4294967295)) σ hi
  refine l_aload_n hc d_law_1058 2 rfl ?_
  refine l_arg 1 hc d_law_1059 d_law_1060 d_law_1061 d_law_1062 d_law_1063 rfl (by omega) hL ?_
  refine l_arg 2 hc d_law_1064 d_law_1065 d_law_1066 d_law_1067 d_law_1068 rfl (by omega) hL ?_
  refine l_arg 3 hc d_law_1069 d_law_1070 d_law_1071 d_law_1072 d_law_1073 rfl (by omega) hL ?_
  refine l_i2l hc d_law_1074 ?_
  refine l_bipush (v := iI 32) hc d_law_1075 (by decide) ?_
  refine l_lshl hc d_law_1077 ?_
  refine l_arg 4 hc d_law_1078 d_law_1079 d_law_1080 d_law_1081 d_law_1082 rfl (by omega) hL ?_
  refine l_i2l hc d_law_1083 ?_
  refine l_ldc2 hc cl_law_137 d_law_1084 ?_
  refine l_land hc d_law_1087 ?_
  refine l_lor hc d_law_1088 ?_
  refine l_call (As := [.int (xs (6 * n + 1)), .int (xs (6 * n + 2)), .long ((((xs (6 * n + 3))).toInt64 <<< ((iI 32).toInt64 &&& 63)) ||| (((xs (6 * n + 4))).toInt64 &&& 4294967295))]) (rv := some (.long r)) (σ1 := σ1) (st := []) (st1 := [.long r]) hc d_law_1089 vl_law_139 (by decide) (0, 0, 0) dm_X rfl rfl (ok_X_write g _ _ _ σ (r, σ1) hX) rfl rfl (Nat.le_of_ble_eq_true rfl) rfl ?_
  refine l_aload_n hc d_law_1092 1 rfl ?_
  refine l_arg 1 hc d_law_1093 d_law_1094 d_law_1095 d_law_1096 d_law_1097 rfl (by omega) hL ?_
  refine l_arg 2 hc d_law_1098 d_law_1099 d_law_1100 d_law_1101 d_law_1102 rfl (by omega) hL ?_
  refine l_arg 3 hc d_law_1103 d_law_1104 d_law_1105 d_law_1106 d_law_1107 rfl (by omega) hL ?_
  refine l_i2l hc d_law_1108 ?_
  refine l_bipush (v := iI 32) hc d_law_1109 (by decide) ?_
  refine l_lshl hc d_law_1111 ?_
  refine l_arg 4 hc d_law_1112 d_law_1113 d_law_1114 d_law_1115 d_law_1116 rfl (by omega) hL ?_
  refine l_i2l hc d_law_1117 ?_
  refine l_ldc2 hc cl_law_137 d_law_1118 ?_
  refine l_land hc d_law_1121 ?_
  refine l_lor hc d_law_1122 ?_
  refine l_call (As := [.int (xs (6 * n + 1)), .int (xs (6 * n + 2)), .long ((((xs (6 * n + 3))).toInt64 <<< ((iI 32).toInt64 &&& 63)) ||| (((xs (6 * n + 4))).toInt64 &&& 4294967295))]) (rv := some (.long r)) (σ1 := σ2) (st := [.long r]) (st1 := [.long r, .long r]) hc d_law_1123 vl_law_143 (by decide) (6, 0, 0) dm_M rfl rfl (ok_M_write g _ _ _ σ1 (r, σ2) hM) rfl rfl (Nat.le_of_ble_eq_true rfl) rfl ?_
  exact l_leq (tgt := 1369) hc d_law_1126 d_law_1127 (by decide) (k σ2 hi2)
theorem cs_31 (hc : Lc x g b L xs) (hL : L ≤ 3072) (hn : 6 * n + 6 ≤ L) (hi : Inv n σ) (k : ∀ σ', Inv (n + 1) σ' → Lz x g 1369 (LL g b n) [] σ') : Lz x g 1132 (LL g b n) [] σ := by
  obtain ⟨r, σ1, σ2, hX, hM, hi2⟩ := both_copy n (xs (6 * n + 1)) (xs (6 * n + 2)) (xs (6 * n + 3)) (xs (6 * n + 4)) (xs (6 * n + 5)) σ hi
  refine l_aload_n hc d_law_1132 2 rfl ?_
  refine l_arg 1 hc d_law_1133 d_law_1134 d_law_1135 d_law_1136 d_law_1137 rfl (by omega) hL ?_
  refine l_arg 2 hc d_law_1138 d_law_1139 d_law_1140 d_law_1141 d_law_1142 rfl (by omega) hL ?_
  refine l_arg 3 hc d_law_1143 d_law_1144 d_law_1145 d_law_1146 d_law_1147 rfl (by omega) hL ?_
  refine l_arg 4 hc d_law_1148 d_law_1149 d_law_1150 d_law_1151 d_law_1152 rfl (by omega) hL ?_
  refine l_arg 5 hc d_law_1153 d_law_1154 d_law_1155 d_law_1156 d_law_1157 rfl (by omega) hL ?_
  refine l_call (As := [.int (xs (6 * n + 1)), .int (xs (6 * n + 2)), .int (xs (6 * n + 3)), .int (xs (6 * n + 4)), .int (xs (6 * n + 5))]) (rv := some (.int r)) (σ1 := σ1) (st := []) (st1 := [.int r]) hc d_law_1158 vl_law_144 (by decide) (0, 0, 0) dm_X rfl rfl (ok_X_copy g _ _ _ _ _ σ (r, σ1) hX) rfl rfl (Nat.le_of_ble_eq_true rfl) rfl ?_
  refine l_aload_n hc d_law_1161 1 rfl ?_
  refine l_arg 1 hc d_law_1162 d_law_1163 d_law_1164 d_law_1165 d_law_1166 rfl (by omega) hL ?_
  refine l_arg 2 hc d_law_1167 d_law_1168 d_law_1169 d_law_1170 d_law_1171 rfl (by omega) hL ?_
  refine l_arg 3 hc d_law_1172 d_law_1173 d_law_1174 d_law_1175 d_law_1176 rfl (by omega) hL ?_
  refine l_arg 4 hc d_law_1177 d_law_1178 d_law_1179 d_law_1180 d_law_1181 rfl (by omega) hL ?_
  refine l_arg 5 hc d_law_1182 d_law_1183 d_law_1184 d_law_1185 d_law_1186 rfl (by omega) hL ?_
  refine l_call (As := [.int (xs (6 * n + 1)), .int (xs (6 * n + 2)), .int (xs (6 * n + 3)), .int (xs (6 * n + 4)), .int (xs (6 * n + 5))]) (rv := some (.int r)) (σ1 := σ2) (st := [.int r]) (st1 := [.int r, .int r]) hc d_law_1187 vl_law_148 (by decide) (6, 0, 0) dm_M rfl rfl (ok_M_copy g _ _ _ _ _ σ1 (r, σ2) hM) rfl rfl (Nat.le_of_ble_eq_true rfl) rfl ?_
  exact l_eq (tgt := 1369) hc d_law_1190 (by decide) (k σ2 hi2)
theorem cs_32 (hc : Lc x g b L xs) (hL : L ≤ 3072) (hn : 6 * n + 6 ≤ L) (hi : Inv n σ) (k : ∀ σ', Inv (n + 1) σ' → Lz x g 1369 (LL g b n) [] σ') : Lz x g 1195 (LL g b n) [] σ := by
  obtain ⟨r, σ1, σ2, hX, hM, hi2⟩ := both_lays n (xs (6 * n + 1)) σ hi
  refine l_aload_n hc d_law_1195 2 rfl ?_
  refine l_arg 1 hc d_law_1196 d_law_1197 d_law_1198 d_law_1199 d_law_1200 rfl (by omega) hL ?_
  refine l_call (As := [.int (xs (6 * n + 1))]) (rv := some (.int r)) (σ1 := σ1) (st := []) (st1 := [.int r]) hc d_law_1201 vl_law_149 (by decide) (0, 0, 0) dm_X rfl rfl (ok_X_lays g _ σ (r, σ1) hX) rfl rfl (Nat.le_of_ble_eq_true rfl) rfl ?_
  refine l_aload_n hc d_law_1204 1 rfl ?_
  refine l_arg 1 hc d_law_1205 d_law_1206 d_law_1207 d_law_1208 d_law_1209 rfl (by omega) hL ?_
  refine l_call (As := [.int (xs (6 * n + 1))]) (rv := some (.int r)) (σ1 := σ2) (st := [.int r]) (st1 := [.int r, .int r]) hc d_law_1210 vl_law_152 (by decide) (6, 0, 0) dm_M rfl rfl (ok_M_lays g _ σ1 (r, σ2) hM) rfl rfl (Nat.le_of_ble_eq_true rfl) rfl ?_
  exact l_eq (tgt := 1369) hc d_law_1213 (by decide) (k σ2 hi2)
theorem cs_33 (hc : Lc x g b L xs) (hL : L ≤ 3072) (hn : 6 * n + 6 ≤ L) (hi : Inv n σ) (k : ∀ σ', Inv (n + 1) σ' → Lz x g 1369 (LL g b n) [] σ') : Lz x g 1218 (LL g b n) [] σ := by
  obtain ⟨r, σ1, σ2, hX, hM, hi2⟩ := both_book n (xs (6 * n + 1)) (xs (6 * n + 2)) σ hi
  refine l_aload_n hc d_law_1218 2 rfl ?_
  refine l_arg 1 hc d_law_1219 d_law_1220 d_law_1221 d_law_1222 d_law_1223 rfl (by omega) hL ?_
  refine l_arg 2 hc d_law_1224 d_law_1225 d_law_1226 d_law_1227 d_law_1228 rfl (by omega) hL ?_
  refine l_call (As := [.int (xs (6 * n + 1)), .int (xs (6 * n + 2))]) (rv := some (.int r)) (σ1 := σ1) (st := []) (st1 := [.int r]) hc d_law_1229 vl_law_153 (by decide) (0, 0, 0) dm_X rfl rfl (ok_X_book g _ _ σ (r, σ1) hX) rfl rfl (Nat.le_of_ble_eq_true rfl) rfl ?_
  refine l_aload_n hc d_law_1232 1 rfl ?_
  refine l_arg 1 hc d_law_1233 d_law_1234 d_law_1235 d_law_1236 d_law_1237 rfl (by omega) hL ?_
  refine l_arg 2 hc d_law_1238 d_law_1239 d_law_1240 d_law_1241 d_law_1242 rfl (by omega) hL ?_
  refine l_call (As := [.int (xs (6 * n + 1)), .int (xs (6 * n + 2))]) (rv := some (.int r)) (σ1 := σ2) (st := [.int r]) (st1 := [.int r, .int r]) hc d_law_1243 vl_law_156 (by decide) (6, 0, 0) dm_M rfl rfl (ok_M_book g _ _ σ1 (r, σ2) hM) rfl rfl (Nat.le_of_ble_eq_true rfl) rfl ?_
  exact l_eq (tgt := 1369) hc d_law_1246 (by decide) (k σ2 hi2)
theorem cs_34 (hc : Lc x g b L xs) (hL : L ≤ 3072) (hn : 6 * n + 6 ≤ L) (hi : Inv n σ) (k : ∀ σ', Inv (n + 1) σ' → Lz x g 1369 (LL g b n) [] σ') : Lz x g 1251 (LL g b n) [] σ := by
  obtain ⟨r, σ1, σ2, hX, hM, hi2⟩ := both_read n (xs (6 * n + 1)) (xs (6 * n + 2)) σ hi
  refine l_aload_n hc d_law_1251 2 rfl ?_
  refine l_arg 1 hc d_law_1252 d_law_1253 d_law_1254 d_law_1255 d_law_1256 rfl (by omega) hL ?_
  refine l_arg 2 hc d_law_1257 d_law_1258 d_law_1259 d_law_1260 d_law_1261 rfl (by omega) hL ?_
  refine l_call (As := [.int (xs (6 * n + 1)), .int (xs (6 * n + 2))]) (rv := some (.int r)) (σ1 := σ1) (st := []) (st1 := [.int r]) hc d_law_1262 vl_law_157 (by decide) (0, 0, 0) dm_X rfl rfl (ok_X_read g _ _ σ (r, σ1) hX) rfl rfl (Nat.le_of_ble_eq_true rfl) rfl ?_
  refine l_aload_n hc d_law_1265 1 rfl ?_
  refine l_arg 1 hc d_law_1266 d_law_1267 d_law_1268 d_law_1269 d_law_1270 rfl (by omega) hL ?_
  refine l_arg 2 hc d_law_1271 d_law_1272 d_law_1273 d_law_1274 d_law_1275 rfl (by omega) hL ?_
  refine l_call (As := [.int (xs (6 * n + 1)), .int (xs (6 * n + 2))]) (rv := some (.int r)) (σ1 := σ2) (st := [.int r]) (st1 := [.int r, .int r]) hc d_law_1276 vl_law_160 (by decide) (6, 0, 0) dm_M rfl rfl (ok_M_read g _ _ σ1 (r, σ2) hM) rfl rfl (Nat.le_of_ble_eq_true rfl) rfl ?_
  exact l_eq (tgt := 1369) hc d_law_1279 (by decide) (k σ2 hi2)
theorem cs_35 (hc : Lc x g b L xs) (hL : L ≤ 3072) (hn : 6 * n + 6 ≤ L) (hi : Inv n σ) (k : ∀ σ', Inv (n + 1) σ' → Lz x g 1369 (LL g b n) [] σ') : Lz x g 1284 (LL g b n) [] σ := by
  obtain ⟨r, σ1, σ2, hX, hM, hi2⟩ := both_image n σ hi
  refine l_aload_n hc d_law_1284 2 rfl ?_
  refine l_call (As := []) (rv := some (.int r)) (σ1 := σ1) (st := []) (st1 := [.int r]) hc d_law_1285 vl_law_161 (by decide) (0, 0, 0) dm_X rfl rfl (ok_X_image g σ (r, σ1) hX) rfl rfl (Nat.le_of_ble_eq_true rfl) rfl ?_
  refine l_aload_n hc d_law_1288 1 rfl ?_
  refine l_call (As := []) (rv := some (.int r)) (σ1 := σ2) (st := [.int r]) (st1 := [.int r, .int r]) hc d_law_1289 vl_law_164 (by decide) (6, 0, 0) dm_M rfl rfl (ok_M_image g σ1 (r, σ2) hM) rfl rfl (Nat.le_of_ble_eq_true rfl) rfl ?_
  exact l_eq (tgt := 1369) hc d_law_1292 (by decide) (k σ2 hi2)
theorem cs_36 (hc : Lc x g b L xs) (hL : L ≤ 3072) (hn : 6 * n + 6 ≤ L) (hi : Inv n σ) (k : ∀ σ', Inv (n + 1) σ' → Lz x g 1369 (LL g b n) [] σ') : Lz x g 1297 (LL g b n) [] σ := by
  obtain ⟨r, σ1, σ2, hX, hM, hi2⟩ := both_undo n σ hi
  refine l_aload_n hc d_law_1297 2 rfl ?_
  refine l_call (As := []) (rv := some (.int r)) (σ1 := σ1) (st := []) (st1 := [.int r]) hc d_law_1298 vl_law_165 (by decide) (0, 0, 0) dm_X rfl rfl (ok_X_undo g σ (r, σ1) hX) rfl rfl (Nat.le_of_ble_eq_true rfl) rfl ?_
  refine l_aload_n hc d_law_1301 1 rfl ?_
  refine l_call (As := []) (rv := some (.int r)) (σ1 := σ2) (st := [.int r]) (st1 := [.int r, .int r]) hc d_law_1302 vl_law_168 (by decide) (6, 0, 0) dm_M rfl rfl (ok_M_undo g σ1 (r, σ2) hM) rfl rfl (Nat.le_of_ble_eq_true rfl) rfl ?_
  exact l_eq (tgt := 1369) hc d_law_1305 (by decide) (k σ2 hi2)
theorem cs_37 (hc : Lc x g b L xs) (hL : L ≤ 3072) (hn : 6 * n + 6 ≤ L) (hi : Inv n σ) (k : ∀ σ', Inv (n + 1) σ' → Lz x g 1369 (LL g b n) [] σ') : Lz x g 1310 (LL g b n) [] σ := by
  obtain ⟨r, σ1, σ2, hX, hM, hi2⟩ := both_tear n σ hi
  refine l_aload_n hc d_law_1310 2 rfl ?_
  refine l_call (As := []) (rv := some (.int r)) (σ1 := σ1) (st := []) (st1 := [.int r]) hc d_law_1311 vl_law_169 (by decide) (0, 0, 0) dm_X rfl rfl (ok_X_tear g σ (r, σ1) hX) rfl rfl (Nat.le_of_ble_eq_true rfl) rfl ?_
  refine l_aload_n hc d_law_1314 1 rfl ?_
  refine l_call (As := []) (rv := some (.int r)) (σ1 := σ2) (st := [.int r]) (st1 := [.int r, .int r]) hc d_law_1315 vl_law_172 (by decide) (6, 0, 0) dm_M rfl rfl (ok_M_tear g σ1 (r, σ2) hM) rfl rfl (Nat.le_of_ble_eq_true rfl) rfl ?_
  exact l_eq (tgt := 1369) hc d_law_1318 (by decide) (k σ2 hi2)
theorem cs_38 (hc : Lc x g b L xs) (hL : L ≤ 3072) (hn : 6 * n + 6 ≤ L) (hi : Inv n σ) (k : ∀ σ', Inv (n + 1) σ' → Lz x g 1369 (LL g b n) [] σ') : Lz x g 1323 (LL g b n) [] σ := by
  obtain ⟨r, σ1, σ2, hX, hM, hi2⟩ := both_count n (xs (6 * n + 1)) σ hi
  refine l_aload_n hc d_law_1323 2 rfl ?_
  refine l_arg 1 hc d_law_1324 d_law_1325 d_law_1326 d_law_1327 d_law_1328 rfl (by omega) hL ?_
  refine l_call (As := [.int (xs (6 * n + 1))]) (rv := some (.int r)) (σ1 := σ1) (st := []) (st1 := [.int r]) hc d_law_1329 vl_law_173 (by decide) (0, 0, 0) dm_X rfl rfl (ok_X_count g _ σ (r, σ1) hX) rfl rfl (Nat.le_of_ble_eq_true rfl) rfl ?_
  refine l_aload_n hc d_law_1332 1 rfl ?_
  refine l_arg 1 hc d_law_1333 d_law_1334 d_law_1335 d_law_1336 d_law_1337 rfl (by omega) hL ?_
  refine l_call (As := [.int (xs (6 * n + 1))]) (rv := some (.int r)) (σ1 := σ2) (st := [.int r]) (st1 := [.int r, .int r]) hc d_law_1338 vl_law_176 (by decide) (6, 0, 0) dm_M rfl rfl (ok_M_count g _ σ1 (r, σ2) hM) rfl rfl (Nat.le_of_ble_eq_true rfl) rfl ?_
  exact l_eq (tgt := 1369) hc d_law_1341 (by decide) (k σ2 hi2)
theorem cs_39 (hc : Lc x g b L xs) (hL : L ≤ 3072) (hn : 6 * n + 6 ≤ L) (hi : Inv n σ) (k : ∀ σ', Inv (n + 1) σ' → Lz x g 1369 (LL g b n) [] σ') : Lz x g 1346 (LL g b n) [] σ := by
  obtain ⟨r, σ1, σ2, hX, hM, hi2⟩ := both_status n (xs (6 * n + 1)) σ hi
  refine l_aload_n hc d_law_1346 2 rfl ?_
  refine l_arg 1 hc d_law_1347 d_law_1348 d_law_1349 d_law_1350 d_law_1351 rfl (by omega) hL ?_
  refine l_call (As := [.int (xs (6 * n + 1))]) (rv := some (.int r)) (σ1 := σ1) (st := []) (st1 := [.int r]) hc d_law_1352 vl_law_177 (by decide) (0, 0, 0) dm_X rfl rfl (ok_X_status g _ σ (r, σ1) hX) rfl rfl (Nat.le_of_ble_eq_true rfl) rfl ?_
  refine l_aload_n hc d_law_1355 1 rfl ?_
  refine l_arg 1 hc d_law_1356 d_law_1357 d_law_1358 d_law_1359 d_law_1360 rfl (by omega) hL ?_
  refine l_call (As := [.int (xs (6 * n + 1))]) (rv := some (.int r)) (σ1 := σ2) (st := [.int r]) (st1 := [.int r, .int r]) hc d_law_1361 vl_law_180 (by decide) (6, 0, 0) dm_M rfl rfl (ok_M_status g _ σ1 (r, σ2) hM) rfl rfl (Nat.le_of_ble_eq_true rfl) rfl ?_
  exact l_eq (tgt := 1369) hc d_law_1364 (by decide) (k σ2 hi2)
end CASES
