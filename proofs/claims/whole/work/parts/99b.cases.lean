/-! ===== printed: the calls of the law, one by one ===== -/
set_option maxHeartbeats 1000000 in
theorem law_0 {E : wEnv} {Y : YT} {b L : Nat} {xs : Nat → Int32} {M : Mem} {i : Nat} {s : Sy} (C : LC E Y b L xs) (hi : i + 6 ≤ L) (o : OKS s) (hx : RX s M) (hm : RM s M) (kk : ∀ s' M', OKS s' → RX s' M' → RM s' M' → G E Y 4 M' 1746 (lvL E b i) []) : G E Y 4 M 268 (lvL E b i) [] := by
  obtain ⟨r, M1, M2, s', e1, e2, o', x', m'⟩ := step_status o M hx hm
  obtain ⟨e1, em⟩ := of_mapM e1
  rw [em] at e2
  refine g_aload_n C.1 dL_law_268 rfl rfl ?_
  refine g_callV C.1 (As := []) (n := 0) dL_law_269 (cE_0 E M 0) (by decide) (T := TX10) (N := 19) rfl (c_X10_status E e1) ql_L_13 qi_yX10_status qv_yX10_status ini_X10 qk_yX10_status (by decide +kernel) rfl (by decide) (by decide) rfl rfl ?_
  show G E Y 4 M 272 (lvL E b i) [.int r]
  refine g_aload_n C.1 dL_law_272 rfl rfl ?_
  refine g_callV C.1 (As := []) (n := 0) dL_law_273 (cE_50 E M 0) (by decide) (T := TX11) (N := 46) rfl (c_X11_status E e2) ql_L_17 qi_yX11_status qv_yX11_status ini_X11 qk_yX11_status (by decide +kernel) rfl (by decide) (by decide) rfl rfl ?_
  show G E Y 4 M2 276 (lvL E b i) [.int r, .int r]
  refine g_same (tgt := 1746) C dL_law_276 (by decide) ?_
  exact kk s' M2 o' x' m'
set_option maxHeartbeats 1000000 in
theorem law_1 {E : wEnv} {Y : YT} {b L : Nat} {xs : Nat → Int32} {M : Mem} {i : Nat} {s : Sy} (C : LC E Y b L xs) (hi : i + 6 ≤ L) (o : OKS s) (hx : RX s M) (hm : RM s M) (kk : ∀ s' M', OKS s' → RX s' M' → RM s' M' → G E Y 4 M' 1746 (lvL E b i) []) : G E Y 4 M 281 (lvL E b i) [] := by
  obtain ⟨r, M1, M2, s', e1, e2, o', x', m'⟩ := step_top o M hx hm
  obtain ⟨e1, em⟩ := of_mapM e1
  rw [em] at e2
  refine g_aload_n C.1 dL_law_281 rfl rfl ?_
  refine g_callV C.1 (As := []) (n := 0) dL_law_282 (cE_0 E M 0) (by decide) (T := TX10) (N := 19) rfl (c_X10_top E e1) ql_L_18 qi_yX10_top qv_yX10_top ini_X10 qk_yX10_top (by decide +kernel) rfl (by decide) (by decide) rfl rfl ?_
  show G E Y 4 M 285 (lvL E b i) [.long r]
  refine g_aload_n C.1 dL_law_285 rfl rfl ?_
  refine g_callV C.1 (As := []) (n := 0) dL_law_286 (cE_50 E M 0) (by decide) (T := TX11) (N := 46) rfl (c_X11_top E e2) ql_L_22 qi_yX11_top qv_yX11_top ini_X11 qk_yX11_top (by decide +kernel) rfl (by decide) (by decide) rfl rfl ?_
  show G E Y 4 M2 289 (lvL E b i) [.long r, .long r]
  refine g_sameL (tgt := 1746) C dL_law_289 dL_law_290 (by decide) ?_
  exact kk s' M2 o' x' m'
set_option maxHeartbeats 1000000 in
theorem law_2 {E : wEnv} {Y : YT} {b L : Nat} {xs : Nat → Int32} {M : Mem} {i : Nat} {s : Sy} (C : LC E Y b L xs) (hi : i + 6 ≤ L) (o : OKS s) (hx : RX s M) (hm : RM s M) (kk : ∀ s' M', OKS s' → RX s' M' → RM s' M' → G E Y 4 M' 1746 (lvL E b i) []) : G E Y 4 M 295 (lvL E b i) [] := by
  obtain ⟨r, M1, M2, s', e1, e2, o', x', m'⟩ := step_bottom o M hx hm
  obtain ⟨e1, em⟩ := of_mapM e1
  rw [em] at e2
  refine g_aload_n C.1 dL_law_295 rfl rfl ?_
  refine g_callV C.1 (As := []) (n := 0) dL_law_296 (cE_0 E M 0) (by decide) (T := TX10) (N := 19) rfl (c_X10_bottom E e1) ql_L_23 qi_yX10_bottom qv_yX10_bottom ini_X10 qk_yX10_bottom (by decide +kernel) rfl (by decide) (by decide) rfl rfl ?_
  show G E Y 4 M 299 (lvL E b i) [.long r]
  refine g_aload_n C.1 dL_law_299 rfl rfl ?_
  refine g_callV C.1 (As := []) (n := 0) dL_law_300 (cE_50 E M 0) (by decide) (T := TX11) (N := 46) rfl (c_X11_bottom E e2) ql_L_26 qi_yX11_bottom qv_yX11_bottom ini_X11 qk_yX11_bottom (by decide +kernel) rfl (by decide) (by decide) rfl rfl ?_
  show G E Y 4 M2 303 (lvL E b i) [.long r, .long r]
  refine g_sameL (tgt := 1746) C dL_law_303 dL_law_304 (by decide) ?_
  exact kk s' M2 o' x' m'
set_option maxHeartbeats 1000000 in
theorem law_3 {E : wEnv} {Y : YT} {b L : Nat} {xs : Nat → Int32} {M : Mem} {i : Nat} {s : Sy} (C : LC E Y b L xs) (hi : i + 6 ≤ L) (o : OKS s) (hx : RX s M) (hm : RM s M) (kk : ∀ s' M', OKS s' → RX s' M' → RM s' M' → G E Y 4 M' 1746 (lvL E b i) []) : G E Y 4 M 309 (lvL E b i) [] := by
  obtain ⟨r, M1, M2, s', e1, e2, o', x', m'⟩ := step_tray o (xs (i + 1)) (xs (i + 2)) (xs (i + 3)) M hx hm
  refine g_aload_n C.1 dL_law_309 rfl rfl ?_
  refine g_scr C (k := 1) (by omega) dL_law_310 dL_law_311 dL_law_312 rfl dL_law_313 dL_law_314 ?_
  refine g_scr C (k := 2) (by omega) dL_law_315 dL_law_316 dL_law_317 rfl dL_law_318 dL_law_319 ?_
  refine g_scr C (k := 3) (by omega) dL_law_320 dL_law_321 dL_law_322 rfl dL_law_323 dL_law_324 ?_
  refine g_callV C.1 (As := [.int (xs (i + 1)), .int (xs (i + 2)), .int (xs (i + 3))]) (n := 3) dL_law_325 (cE_0 E M 0) (by decide) (T := TX10) (N := 19) rfl (c_X10_tray E e1) ql_L_27 qi_yX10_tray qv_yX10_tray ini_X10 qk_yX10_tray (by decide +kernel) rfl (by decide) (by decide) rfl rfl ?_
  show G E Y 4 M1 328 (lvL E b i) [.int r]
  refine g_aload_n C.1 dL_law_328 rfl rfl ?_
  refine g_scr C (k := 1) (by omega) dL_law_329 dL_law_330 dL_law_331 rfl dL_law_332 dL_law_333 ?_
  refine g_scr C (k := 2) (by omega) dL_law_334 dL_law_335 dL_law_336 rfl dL_law_337 dL_law_338 ?_
  refine g_scr C (k := 3) (by omega) dL_law_339 dL_law_340 dL_law_341 rfl dL_law_342 dL_law_343 ?_
  refine g_callV C.1 (As := [.int (xs (i + 1)), .int (xs (i + 2)), .int (xs (i + 3))]) (n := 3) dL_law_344 (cE_50 E M1 0) (by decide) (T := TX11) (N := 46) rfl (c_X11_tray E e2) ql_L_31 qi_yX11_tray qv_yX11_tray ini_X11 qk_yX11_tray (by decide +kernel) rfl (by decide) (by decide) rfl rfl ?_
  show G E Y 4 M2 347 (lvL E b i) [.int r, .int r]
  refine g_same (tgt := 1746) C dL_law_347 (by decide) ?_
  exact kk s' M2 o' x' m'
set_option maxHeartbeats 1000000 in
theorem law_4 {E : wEnv} {Y : YT} {b L : Nat} {xs : Nat → Int32} {M : Mem} {i : Nat} {s : Sy} (C : LC E Y b L xs) (hi : i + 6 ≤ L) (o : OKS s) (hx : RX s M) (hm : RM s M) (kk : ∀ s' M', OKS s' → RX s' M' → RM s' M' → G E Y 4 M' 1746 (lvL E b i) []) : G E Y 4 M 352 (lvL E b i) [] := by
  obtain ⟨r, M1, M2, s', e1, e2, o', x', m'⟩ := step_write o (xs (i + 1)) (xs (i + 2)) ((((xs (i + 3)).toInt64 <<< ((32 : Int32).toInt64 &&& 63)) ||| ((xs (i + 4)).toInt64 &&& (4294967295 : Int64)))) M hx hm
  refine g_aload_n C.1 dL_law_352 rfl rfl ?_
  refine g_scr C (k := 1) (by omega) dL_law_353 dL_law_354 dL_law_355 rfl dL_law_356 dL_law_357 ?_
  refine g_scr C (k := 2) (by omega) dL_law_358 dL_law_359 dL_law_360 rfl dL_law_361 dL_law_362 ?_
  refine g_scr C (k := 3) (by omega) dL_law_363 dL_law_364 dL_law_365 rfl dL_law_366 dL_law_367 ?_
  refine g_i2l C.1 dL_law_368 ?_
  refine g_bipush (v := 32) C.1 dL_law_369 (by decide) ?_
  refine g_lshl C.1 dL_law_371 ?_
  refine g_scr C (k := 4) (by omega) dL_law_372 dL_law_373 dL_law_374 rfl dL_law_375 dL_law_376 ?_
  refine g_i2l C.1 dL_law_377 ?_
  refine g_ldc2 C.1 dL_law_378 qc_L_32 ?_
  refine g_land C.1 dL_law_381 ?_
  refine g_lor C.1 dL_law_382 ?_
  refine g_callV C.1 (As := [.int (xs (i + 1)), .int (xs (i + 2)), .long ((((xs (i + 3)).toInt64 <<< ((32 : Int32).toInt64 &&& 63)) ||| ((xs (i + 4)).toInt64 &&& (4294967295 : Int64))))]) (n := 3) dL_law_383 (cE_0 E M 0) (by decide) (T := TX10) (N := 19) rfl (c_X10_write E e1) ql_L_34 qi_yX10_write qv_yX10_write ini_X10 qk_yX10_write (by decide +kernel) rfl (by decide) (by decide) rfl rfl ?_
  show G E Y 4 M1 386 (lvL E b i) [.int r]
  refine g_aload_n C.1 dL_law_386 rfl rfl ?_
  refine g_scr C (k := 1) (by omega) dL_law_387 dL_law_388 dL_law_389 rfl dL_law_390 dL_law_391 ?_
  refine g_scr C (k := 2) (by omega) dL_law_392 dL_law_393 dL_law_394 rfl dL_law_395 dL_law_396 ?_
  refine g_scr C (k := 3) (by omega) dL_law_397 dL_law_398 dL_law_399 rfl dL_law_400 dL_law_401 ?_
  refine g_i2l C.1 dL_law_402 ?_
  refine g_bipush (v := 32) C.1 dL_law_403 (by decide) ?_
  refine g_lshl C.1 dL_law_405 ?_
  refine g_scr C (k := 4) (by omega) dL_law_406 dL_law_407 dL_law_408 rfl dL_law_409 dL_law_410 ?_
  refine g_i2l C.1 dL_law_411 ?_
  refine g_ldc2 C.1 dL_law_412 qc_L_32 ?_
  refine g_land C.1 dL_law_415 ?_
  refine g_lor C.1 dL_law_416 ?_
  refine g_callV C.1 (As := [.int (xs (i + 1)), .int (xs (i + 2)), .long ((((xs (i + 3)).toInt64 <<< ((32 : Int32).toInt64 &&& 63)) ||| ((xs (i + 4)).toInt64 &&& (4294967295 : Int64))))]) (n := 3) dL_law_417 (cE_50 E M1 0) (by decide) (T := TX11) (N := 46) rfl (c_X11_write E e2) ql_L_38 qi_yX11_write qv_yX11_write ini_X11 qk_yX11_write (by decide +kernel) rfl (by decide) (by decide) rfl rfl ?_
  show G E Y 4 M2 420 (lvL E b i) [.int r, .int r]
  refine g_same (tgt := 1746) C dL_law_420 (by decide) ?_
  exact kk s' M2 o' x' m'
set_option maxHeartbeats 1000000 in
theorem law_5 {E : wEnv} {Y : YT} {b L : Nat} {xs : Nat → Int32} {M : Mem} {i : Nat} {s : Sy} (C : LC E Y b L xs) (hi : i + 6 ≤ L) (o : OKS s) (hx : RX s M) (hm : RM s M) (kk : ∀ s' M', OKS s' → RX s' M' → RM s' M' → G E Y 4 M' 1746 (lvL E b i) []) : G E Y 4 M 425 (lvL E b i) [] := by
  obtain ⟨r, M1, M2, s', e1, e2, o', x', m'⟩ := step_read o (xs (i + 1)) (xs (i + 2)) M hx hm
  refine g_aload_n C.1 dL_law_425 rfl rfl ?_
  refine g_scr C (k := 1) (by omega) dL_law_426 dL_law_427 dL_law_428 rfl dL_law_429 dL_law_430 ?_
  refine g_scr C (k := 2) (by omega) dL_law_431 dL_law_432 dL_law_433 rfl dL_law_434 dL_law_435 ?_
  refine g_callV C.1 (As := [.int (xs (i + 1)), .int (xs (i + 2))]) (n := 2) dL_law_436 (cE_0 E M 0) (by decide) (T := TX10) (N := 19) rfl (c_X10_read E e1) ql_L_39 qi_yX10_read qv_yX10_read ini_X10 qk_yX10_read (by decide +kernel) rfl (by decide) (by decide) rfl rfl ?_
  show G E Y 4 M1 439 (lvL E b i) [.long r]
  refine g_aload_n C.1 dL_law_439 rfl rfl ?_
  refine g_scr C (k := 1) (by omega) dL_law_440 dL_law_441 dL_law_442 rfl dL_law_443 dL_law_444 ?_
  refine g_scr C (k := 2) (by omega) dL_law_445 dL_law_446 dL_law_447 rfl dL_law_448 dL_law_449 ?_
  refine g_callV C.1 (As := [.int (xs (i + 1)), .int (xs (i + 2))]) (n := 2) dL_law_450 (cE_50 E M1 0) (by decide) (T := TX11) (N := 46) rfl (c_X11_read E e2) ql_L_43 qi_yX11_read qv_yX11_read ini_X11 qk_yX11_read (by decide +kernel) rfl (by decide) (by decide) rfl rfl ?_
  show G E Y 4 M2 453 (lvL E b i) [.long r, .long r]
  refine g_sameL (tgt := 1746) C dL_law_453 dL_law_454 (by decide) ?_
  exact kk s' M2 o' x' m'
set_option maxHeartbeats 1000000 in
theorem law_6 {E : wEnv} {Y : YT} {b L : Nat} {xs : Nat → Int32} {M : Mem} {i : Nat} {s : Sy} (C : LC E Y b L xs) (hi : i + 6 ≤ L) (o : OKS s) (hx : RX s M) (hm : RM s M) (kk : ∀ s' M', OKS s' → RX s' M' → RM s' M' → G E Y 4 M' 1746 (lvL E b i) []) : G E Y 4 M 459 (lvL E b i) [] := by
  obtain ⟨r, M1, M2, s', e1, e2, o', x', m'⟩ := step_pour o (xs (i + 1)) (xs (i + 2)) (xs (i + 3)) (xs (i + 4)) (xs (i + 5)) M hx hm
  refine g_aload_n C.1 dL_law_459 rfl rfl ?_
  refine g_scr C (k := 1) (by omega) dL_law_460 dL_law_461 dL_law_462 rfl dL_law_463 dL_law_464 ?_
  refine g_scr C (k := 2) (by omega) dL_law_465 dL_law_466 dL_law_467 rfl dL_law_468 dL_law_469 ?_
  refine g_scr C (k := 3) (by omega) dL_law_470 dL_law_471 dL_law_472 rfl dL_law_473 dL_law_474 ?_
  refine g_scr C (k := 4) (by omega) dL_law_475 dL_law_476 dL_law_477 rfl dL_law_478 dL_law_479 ?_
  refine g_scr C (k := 5) (by omega) dL_law_480 dL_law_481 dL_law_482 rfl dL_law_483 dL_law_484 ?_
  refine g_callV C.1 (As := [.int (xs (i + 1)), .int (xs (i + 2)), .int (xs (i + 3)), .int (xs (i + 4)), .int (xs (i + 5))]) (n := 5) dL_law_485 (cE_0 E M 0) (by decide) (T := TX10) (N := 19) rfl (c_X10_pour E e1) ql_L_44 qi_yX10_pour qv_yX10_pour ini_X10 qk_yX10_pour (by decide +kernel) rfl (by decide) (by decide) rfl rfl ?_
  show G E Y 4 M1 488 (lvL E b i) [.int r]
  refine g_aload_n C.1 dL_law_488 rfl rfl ?_
  refine g_scr C (k := 1) (by omega) dL_law_489 dL_law_490 dL_law_491 rfl dL_law_492 dL_law_493 ?_
  refine g_scr C (k := 2) (by omega) dL_law_494 dL_law_495 dL_law_496 rfl dL_law_497 dL_law_498 ?_
  refine g_scr C (k := 3) (by omega) dL_law_499 dL_law_500 dL_law_501 rfl dL_law_502 dL_law_503 ?_
  refine g_scr C (k := 4) (by omega) dL_law_504 dL_law_505 dL_law_506 rfl dL_law_507 dL_law_508 ?_
  refine g_scr C (k := 5) (by omega) dL_law_509 dL_law_510 dL_law_511 rfl dL_law_512 dL_law_513 ?_
  refine g_callV C.1 (As := [.int (xs (i + 1)), .int (xs (i + 2)), .int (xs (i + 3)), .int (xs (i + 4)), .int (xs (i + 5))]) (n := 5) dL_law_514 (cE_50 E M1 0) (by decide) (T := TX11) (N := 46) rfl (c_X11_pour E e2) ql_L_48 qi_yX11_pour qv_yX11_pour ini_X11 qk_yX11_pour (by decide +kernel) rfl (by decide) (by decide) rfl rfl ?_
  show G E Y 4 M2 517 (lvL E b i) [.int r, .int r]
  refine g_same (tgt := 1746) C dL_law_517 (by decide) ?_
  exact kk s' M2 o' x' m'
set_option maxHeartbeats 1000000 in
theorem law_7 {E : wEnv} {Y : YT} {b L : Nat} {xs : Nat → Int32} {M : Mem} {i : Nat} {s : Sy} (C : LC E Y b L xs) (hi : i + 6 ≤ L) (o : OKS s) (hx : RX s M) (hm : RM s M) (kk : ∀ s' M', OKS s' → RX s' M' → RM s' M' → G E Y 4 M' 1746 (lvL E b i) []) : G E Y 4 M 522 (lvL E b i) [] := by
  obtain ⟨r, M1, M2, s', e1, e2, o', x', m'⟩ := step_feed o (xs (i + 1)) (xs (i + 2)) (xs (i + 3)) (xs (i + 4)) (xs (i + 5)) M hx hm
  refine g_aload_n C.1 dL_law_522 rfl rfl ?_
  refine g_scr C (k := 1) (by omega) dL_law_523 dL_law_524 dL_law_525 rfl dL_law_526 dL_law_527 ?_
  refine g_scr C (k := 2) (by omega) dL_law_528 dL_law_529 dL_law_530 rfl dL_law_531 dL_law_532 ?_
  refine g_scr C (k := 3) (by omega) dL_law_533 dL_law_534 dL_law_535 rfl dL_law_536 dL_law_537 ?_
  refine g_scr C (k := 4) (by omega) dL_law_538 dL_law_539 dL_law_540 rfl dL_law_541 dL_law_542 ?_
  refine g_scr C (k := 5) (by omega) dL_law_543 dL_law_544 dL_law_545 rfl dL_law_546 dL_law_547 ?_
  refine g_callV C.1 (As := [.int (xs (i + 1)), .int (xs (i + 2)), .int (xs (i + 3)), .int (xs (i + 4)), .int (xs (i + 5))]) (n := 5) dL_law_548 (cE_0 E M 0) (by decide) (T := TX10) (N := 19) rfl (c_X10_feed E e1) ql_L_49 qi_yX10_feed qv_yX10_feed ini_X10 qk_yX10_feed (by decide +kernel) rfl (by decide) (by decide) rfl rfl ?_
  show G E Y 4 M1 551 (lvL E b i) [.int r]
  refine g_aload_n C.1 dL_law_551 rfl rfl ?_
  refine g_scr C (k := 1) (by omega) dL_law_552 dL_law_553 dL_law_554 rfl dL_law_555 dL_law_556 ?_
  refine g_scr C (k := 2) (by omega) dL_law_557 dL_law_558 dL_law_559 rfl dL_law_560 dL_law_561 ?_
  refine g_scr C (k := 3) (by omega) dL_law_562 dL_law_563 dL_law_564 rfl dL_law_565 dL_law_566 ?_
  refine g_scr C (k := 4) (by omega) dL_law_567 dL_law_568 dL_law_569 rfl dL_law_570 dL_law_571 ?_
  refine g_scr C (k := 5) (by omega) dL_law_572 dL_law_573 dL_law_574 rfl dL_law_575 dL_law_576 ?_
  refine g_callV C.1 (As := [.int (xs (i + 1)), .int (xs (i + 2)), .int (xs (i + 3)), .int (xs (i + 4)), .int (xs (i + 5))]) (n := 5) dL_law_577 (cE_50 E M1 0) (by decide) (T := TX11) (N := 46) rfl (c_X11_feed E e2) ql_L_53 qi_yX11_feed qv_yX11_feed ini_X11 qk_yX11_feed (by decide +kernel) rfl (by decide) (by decide) rfl rfl ?_
  show G E Y 4 M2 580 (lvL E b i) [.int r, .int r]
  refine g_same (tgt := 1746) C dL_law_580 (by decide) ?_
  exact kk s' M2 o' x' m'
set_option maxHeartbeats 1000000 in
theorem law_8 {E : wEnv} {Y : YT} {b L : Nat} {xs : Nat → Int32} {M : Mem} {i : Nat} {s : Sy} (C : LC E Y b L xs) (hi : i + 6 ≤ L) (o : OKS s) (hx : RX s M) (hm : RM s M) (kk : ∀ s' M', OKS s' → RX s' M' → RM s' M' → G E Y 4 M' 1746 (lvL E b i) []) : G E Y 4 M 585 (lvL E b i) [] := by
  obtain ⟨r, M1, M2, s', e1, e2, o', x', m'⟩ := step_court o (xs (i + 1)) M hx hm
  refine g_aload_n C.1 dL_law_585 rfl rfl ?_
  refine g_scr C (k := 1) (by omega) dL_law_586 dL_law_587 dL_law_588 rfl dL_law_589 dL_law_590 ?_
  refine g_callV C.1 (As := [.int (xs (i + 1))]) (n := 1) dL_law_591 (cE_0 E M 0) (by decide) (T := TX10) (N := 19) rfl (c_X10_court E e1) ql_L_54 qi_yX10_court qv_yX10_court ini_X10 qk_yX10_court (by decide +kernel) rfl (by decide) (by decide) rfl rfl ?_
  show G E Y 4 M1 594 (lvL E b i) [.int r]
  refine g_aload_n C.1 dL_law_594 rfl rfl ?_
  refine g_scr C (k := 1) (by omega) dL_law_595 dL_law_596 dL_law_597 rfl dL_law_598 dL_law_599 ?_
  refine g_callV C.1 (As := [.int (xs (i + 1))]) (n := 1) dL_law_600 (cE_50 E M1 0) (by decide) (T := TX11) (N := 46) rfl (c_X11_court E e2) ql_L_58 qi_yX11_court qv_yX11_court ini_X11 qk_yX11_court (by decide +kernel) rfl (by decide) (by decide) rfl rfl ?_
  show G E Y 4 M2 603 (lvL E b i) [.int r, .int r]
  refine g_same (tgt := 1746) C dL_law_603 (by decide) ?_
  exact kk s' M2 o' x' m'
set_option maxHeartbeats 1000000 in
theorem law_9 {E : wEnv} {Y : YT} {b L : Nat} {xs : Nat → Int32} {M : Mem} {i : Nat} {s : Sy} (C : LC E Y b L xs) (hi : i + 6 ≤ L) (o : OKS s) (hx : RX s M) (hm : RM s M) (kk : ∀ s' M', OKS s' → RX s' M' → RM s' M' → G E Y 4 M' 1746 (lvL E b i) []) : G E Y 4 M 608 (lvL E b i) [] := by
  obtain ⟨r, M1, M2, s', e1, e2, o', x', m'⟩ := step_weeks o (xs (i + 1)) M hx hm
  refine g_aload_n C.1 dL_law_608 rfl rfl ?_
  refine g_scr C (k := 1) (by omega) dL_law_609 dL_law_610 dL_law_611 rfl dL_law_612 dL_law_613 ?_
  refine g_callV C.1 (As := [.int (xs (i + 1))]) (n := 1) dL_law_614 (cE_0 E M 0) (by decide) (T := TX10) (N := 19) rfl (c_X10_weeks E e1) ql_L_59 qi_yX10_weeks qv_yX10_weeks ini_X10 qk_yX10_weeks (by decide +kernel) rfl (by decide) (by decide) rfl rfl ?_
  show G E Y 4 M1 617 (lvL E b i) [.int r]
  refine g_aload_n C.1 dL_law_617 rfl rfl ?_
  refine g_scr C (k := 1) (by omega) dL_law_618 dL_law_619 dL_law_620 rfl dL_law_621 dL_law_622 ?_
  refine g_callV C.1 (As := [.int (xs (i + 1))]) (n := 1) dL_law_623 (cE_50 E M1 0) (by decide) (T := TX11) (N := 46) rfl (c_X11_weeks E e2) ql_L_62 qi_yX11_weeks qv_yX11_weeks ini_X11 qk_yX11_weeks (by decide +kernel) rfl (by decide) (by decide) rfl rfl ?_
  show G E Y 4 M2 626 (lvL E b i) [.int r, .int r]
  refine g_same (tgt := 1746) C dL_law_626 (by decide) ?_
  exact kk s' M2 o' x' m'
set_option maxHeartbeats 1000000 in
theorem law_10 {E : wEnv} {Y : YT} {b L : Nat} {xs : Nat → Int32} {M : Mem} {i : Nat} {s : Sy} (C : LC E Y b L xs) (hi : i + 6 ≤ L) (o : OKS s) (hx : RX s M) (hm : RM s M) (kk : ∀ s' M', OKS s' → RX s' M' → RM s' M' → G E Y 4 M' 1746 (lvL E b i) []) : G E Y 4 M 631 (lvL E b i) [] := by
  obtain ⟨r, M1, M2, s', e1, e2, o', x', m'⟩ := step_fault o (xs (i + 1)) M hx hm
  obtain ⟨e1, em⟩ := of_mapM e1
  rw [em] at e2
  refine g_aload_n C.1 dL_law_631 rfl rfl ?_
  refine g_scr C (k := 1) (by omega) dL_law_632 dL_law_633 dL_law_634 rfl dL_law_635 dL_law_636 ?_
  refine g_callV C.1 (As := [.int (xs (i + 1))]) (n := 1) dL_law_637 (cE_0 E M 0) (by decide) (T := TX10) (N := 19) rfl (c_X10_fault E e1) ql_L_63 qi_yX10_fault qv_yX10_fault ini_X10 qk_yX10_fault (by decide +kernel) rfl (by decide) (by decide) rfl rfl ?_
  show G E Y 4 M 640 (lvL E b i) [.int r]
  refine g_aload_n C.1 dL_law_640 rfl rfl ?_
  refine g_scr C (k := 1) (by omega) dL_law_641 dL_law_642 dL_law_643 rfl dL_law_644 dL_law_645 ?_
  refine g_callV C.1 (As := [.int (xs (i + 1))]) (n := 1) dL_law_646 (cE_50 E M 0) (by decide) (T := TX11) (N := 46) rfl (c_X11_fault E e2) ql_L_66 qi_yX11_fault qv_yX11_fault ini_X11 qk_yX11_fault (by decide +kernel) rfl (by decide) (by decide) rfl rfl ?_
  show G E Y 4 M2 649 (lvL E b i) [.int r, .int r]
  refine g_same (tgt := 1746) C dL_law_649 (by decide) ?_
  exact kk s' M2 o' x' m'
set_option maxHeartbeats 1000000 in
theorem law_11 {E : wEnv} {Y : YT} {b L : Nat} {xs : Nat → Int32} {M : Mem} {i : Nat} {s : Sy} (C : LC E Y b L xs) (hi : i + 6 ≤ L) (o : OKS s) (hx : RX s M) (hm : RM s M) (kk : ∀ s' M', OKS s' → RX s' M' → RM s' M' → G E Y 4 M' 1746 (lvL E b i) []) : G E Y 4 M 654 (lvL E b i) [] := by
  obtain ⟨r, M1, M2, s', e1, e2, o', x', m'⟩ := step_many o (xs (i + 1)) M hx hm
  refine g_aload_n C.1 dL_law_654 rfl rfl ?_
  refine g_scr C (k := 1) (by omega) dL_law_655 dL_law_656 dL_law_657 rfl dL_law_658 dL_law_659 ?_
  refine g_callV C.1 (As := [.int (xs (i + 1))]) (n := 1) dL_law_660 (cE_0 E M 0) (by decide) (T := TX10) (N := 19) rfl (c_X10_many E e1) ql_L_67 qi_yX10_many qv_yX10_many ini_X10 qk_yX10_many (by decide +kernel) rfl (by decide) (by decide) rfl rfl ?_
  show G E Y 4 M1 663 (lvL E b i) [.int r]
  refine g_aload_n C.1 dL_law_663 rfl rfl ?_
  refine g_scr C (k := 1) (by omega) dL_law_664 dL_law_665 dL_law_666 rfl dL_law_667 dL_law_668 ?_
  refine g_callV C.1 (As := [.int (xs (i + 1))]) (n := 1) dL_law_669 (cE_50 E M1 0) (by decide) (T := TX11) (N := 46) rfl (c_X11_many E e2) ql_L_70 qi_yX11_many qv_yX11_many ini_X11 qk_yX11_many (by decide +kernel) rfl (by decide) (by decide) rfl rfl ?_
  show G E Y 4 M2 672 (lvL E b i) [.int r, .int r]
  refine g_same (tgt := 1746) C dL_law_672 (by decide) ?_
  exact kk s' M2 o' x' m'
set_option maxHeartbeats 1000000 in
theorem law_12 {E : wEnv} {Y : YT} {b L : Nat} {xs : Nat → Int32} {M : Mem} {i : Nat} {s : Sy} (C : LC E Y b L xs) (hi : i + 6 ≤ L) (o : OKS s) (hx : RX s M) (hm : RM s M) (kk : ∀ s' M', OKS s' → RX s' M' → RM s' M' → G E Y 4 M' 1746 (lvL E b i) []) : G E Y 4 M 677 (lvL E b i) [] := by
  obtain ⟨r, M1, M2, s', e1, e2, o', x', m'⟩ := step_juror o (xs (i + 1)) (xs (i + 2)) M hx hm
  refine g_aload_n C.1 dL_law_677 rfl rfl ?_
  refine g_scr C (k := 1) (by omega) dL_law_678 dL_law_679 dL_law_680 rfl dL_law_681 dL_law_682 ?_
  refine g_scr C (k := 2) (by omega) dL_law_683 dL_law_684 dL_law_685 rfl dL_law_686 dL_law_687 ?_
  refine g_callV C.1 (As := [.int (xs (i + 1)), .int (xs (i + 2))]) (n := 2) dL_law_688 (cE_0 E M 0) (by decide) (T := TX10) (N := 19) rfl (c_X10_juror E e1) ql_L_71 qi_yX10_juror qv_yX10_juror ini_X10 qk_yX10_juror (by decide +kernel) rfl (by decide) (by decide) rfl rfl ?_
  show G E Y 4 M1 691 (lvL E b i) [.int r]
  refine g_aload_n C.1 dL_law_691 rfl rfl ?_
  refine g_scr C (k := 1) (by omega) dL_law_692 dL_law_693 dL_law_694 rfl dL_law_695 dL_law_696 ?_
  refine g_scr C (k := 2) (by omega) dL_law_697 dL_law_698 dL_law_699 rfl dL_law_700 dL_law_701 ?_
  refine g_callV C.1 (As := [.int (xs (i + 1)), .int (xs (i + 2))]) (n := 2) dL_law_702 (cE_50 E M1 0) (by decide) (T := TX11) (N := 46) rfl (c_X11_juror E e2) ql_L_75 qi_yX11_juror qv_yX11_juror ini_X11 qk_yX11_juror (by decide +kernel) rfl (by decide) (by decide) rfl rfl ?_
  show G E Y 4 M2 705 (lvL E b i) [.int r, .int r]
  refine g_same (tgt := 1746) C dL_law_705 (by decide) ?_
  exact kk s' M2 o' x' m'
set_option maxHeartbeats 1000000 in
theorem law_13 {E : wEnv} {Y : YT} {b L : Nat} {xs : Nat → Int32} {M : Mem} {i : Nat} {s : Sy} (C : LC E Y b L xs) (hi : i + 6 ≤ L) (o : OKS s) (hx : RX s M) (hm : RM s M) (kk : ∀ s' M', OKS s' → RX s' M' → RM s' M' → G E Y 4 M' 1746 (lvL E b i) []) : G E Y 4 M 710 (lvL E b i) [] := by
  obtain ⟨r, M1, M2, s', e1, e2, o', x', m'⟩ := step_sways o (xs (i + 1)) (xs (i + 2)) M hx hm
  refine g_aload_n C.1 dL_law_710 rfl rfl ?_
  refine g_scr C (k := 1) (by omega) dL_law_711 dL_law_712 dL_law_713 rfl dL_law_714 dL_law_715 ?_
  refine g_scr C (k := 2) (by omega) dL_law_716 dL_law_717 dL_law_718 rfl dL_law_719 dL_law_720 ?_
  refine g_callV C.1 (As := [.int (xs (i + 1)), .int (xs (i + 2))]) (n := 2) dL_law_721 (cE_0 E M 0) (by decide) (T := TX10) (N := 19) rfl (c_X10_sways E e1) ql_L_76 qi_yX10_sways qv_yX10_sways ini_X10 qk_yX10_sways (by decide +kernel) rfl (by decide) (by decide) rfl rfl ?_
  show G E Y 4 M1 724 (lvL E b i) [.int r]
  refine g_aload_n C.1 dL_law_724 rfl rfl ?_
  refine g_scr C (k := 1) (by omega) dL_law_725 dL_law_726 dL_law_727 rfl dL_law_728 dL_law_729 ?_
  refine g_scr C (k := 2) (by omega) dL_law_730 dL_law_731 dL_law_732 rfl dL_law_733 dL_law_734 ?_
  refine g_callV C.1 (As := [.int (xs (i + 1)), .int (xs (i + 2))]) (n := 2) dL_law_735 (cE_50 E M1 0) (by decide) (T := TX11) (N := 46) rfl (c_X11_sways E e2) ql_L_79 qi_yX11_sways qv_yX11_sways ini_X11 qk_yX11_sways (by decide +kernel) rfl (by decide) (by decide) rfl rfl ?_
  show G E Y 4 M2 738 (lvL E b i) [.int r, .int r]
  refine g_same (tgt := 1746) C dL_law_738 (by decide) ?_
  exact kk s' M2 o' x' m'
set_option maxHeartbeats 1000000 in
theorem law_14 {E : wEnv} {Y : YT} {b L : Nat} {xs : Nat → Int32} {M : Mem} {i : Nat} {s : Sy} (C : LC E Y b L xs) (hi : i + 6 ≤ L) (o : OKS s) (hx : RX s M) (hm : RM s M) (kk : ∀ s' M', OKS s' → RX s' M' → RM s' M' → G E Y 4 M' 1746 (lvL E b i) []) : G E Y 4 M 743 (lvL E b i) [] := by
  obtain ⟨r, M1, M2, s', e1, e2, o', x', m'⟩ := step_proof o (xs (i + 1)) M hx hm
  refine g_aload_n C.1 dL_law_743 rfl rfl ?_
  refine g_scr C (k := 1) (by omega) dL_law_744 dL_law_745 dL_law_746 rfl dL_law_747 dL_law_748 ?_
  refine g_callV C.1 (As := [.int (xs (i + 1))]) (n := 1) dL_law_749 (cE_0 E M 0) (by decide) (T := TX10) (N := 19) rfl (c_X10_proof E e1) ql_L_80 qi_yX10_proof qv_yX10_proof ini_X10 qk_yX10_proof (by decide +kernel) rfl (by decide) (by decide) rfl rfl ?_
  show G E Y 4 M1 752 (lvL E b i) [.int r]
  refine g_aload_n C.1 dL_law_752 rfl rfl ?_
  refine g_scr C (k := 1) (by omega) dL_law_753 dL_law_754 dL_law_755 rfl dL_law_756 dL_law_757 ?_
  refine g_callV C.1 (As := [.int (xs (i + 1))]) (n := 1) dL_law_758 (cE_50 E M1 0) (by decide) (T := TX11) (N := 46) rfl (c_X11_proof E e2) ql_L_83 qi_yX11_proof qv_yX11_proof ini_X11 qk_yX11_proof (by decide +kernel) rfl (by decide) (by decide) rfl rfl ?_
  show G E Y 4 M2 761 (lvL E b i) [.int r, .int r]
  refine g_same (tgt := 1746) C dL_law_761 (by decide) ?_
  exact kk s' M2 o' x' m'
set_option maxHeartbeats 1000000 in
theorem law_15 {E : wEnv} {Y : YT} {b L : Nat} {xs : Nat → Int32} {M : Mem} {i : Nat} {s : Sy} (C : LC E Y b L xs) (hi : i + 6 ≤ L) (o : OKS s) (hx : RX s M) (hm : RM s M) (kk : ∀ s' M', OKS s' → RX s' M' → RM s' M' → G E Y 4 M' 1746 (lvL E b i) []) : G E Y 4 M 766 (lvL E b i) [] := by
  obtain ⟨r, M1, M2, s', e1, e2, o', x', m'⟩ := step_follows o (xs (i + 1)) (xs (i + 2)) M hx hm
  refine g_aload_n C.1 dL_law_766 rfl rfl ?_
  refine g_scr C (k := 1) (by omega) dL_law_767 dL_law_768 dL_law_769 rfl dL_law_770 dL_law_771 ?_
  refine g_scr C (k := 2) (by omega) dL_law_772 dL_law_773 dL_law_774 rfl dL_law_775 dL_law_776 ?_
  refine g_callV C.1 (As := [.int (xs (i + 1)), .int (xs (i + 2))]) (n := 2) dL_law_777 (cE_0 E M 0) (by decide) (T := TX10) (N := 19) rfl (c_X10_follows E e1) ql_L_84 qi_yX10_follows qv_yX10_follows ini_X10 qk_yX10_follows (by decide +kernel) rfl (by decide) (by decide) rfl rfl ?_
  show G E Y 4 M1 780 (lvL E b i) [.int r]
  refine g_aload_n C.1 dL_law_780 rfl rfl ?_
  refine g_scr C (k := 1) (by omega) dL_law_781 dL_law_782 dL_law_783 rfl dL_law_784 dL_law_785 ?_
  refine g_scr C (k := 2) (by omega) dL_law_786 dL_law_787 dL_law_788 rfl dL_law_789 dL_law_790 ?_
  refine g_callV C.1 (As := [.int (xs (i + 1)), .int (xs (i + 2))]) (n := 2) dL_law_791 (cE_50 E M1 0) (by decide) (T := TX11) (N := 46) rfl (c_X11_follows E e2) ql_L_87 qi_yX11_follows qv_yX11_follows ini_X11 qk_yX11_follows (by decide +kernel) rfl (by decide) (by decide) rfl rfl ?_
  show G E Y 4 M2 794 (lvL E b i) [.int r, .int r]
  refine g_same (tgt := 1746) C dL_law_794 (by decide) ?_
  exact kk s' M2 o' x' m'
set_option maxHeartbeats 1000000 in
theorem law_16 {E : wEnv} {Y : YT} {b L : Nat} {xs : Nat → Int32} {M : Mem} {i : Nat} {s : Sy} (C : LC E Y b L xs) (hi : i + 6 ≤ L) (o : OKS s) (hx : RX s M) (hm : RM s M) (kk : ∀ s' M', OKS s' → RX s' M' → RM s' M' → G E Y 4 M' 1746 (lvL E b i) []) : G E Y 4 M 799 (lvL E b i) [] := by
  obtain ⟨r, M1, M2, s', e1, e2, o', x', m'⟩ := step_grows o (xs (i + 1)) (xs (i + 2)) M hx hm
  refine g_aload_n C.1 dL_law_799 rfl rfl ?_
  refine g_scr C (k := 1) (by omega) dL_law_800 dL_law_801 dL_law_802 rfl dL_law_803 dL_law_804 ?_
  refine g_scr C (k := 2) (by omega) dL_law_805 dL_law_806 dL_law_807 rfl dL_law_808 dL_law_809 ?_
  refine g_callV C.1 (As := [.int (xs (i + 1)), .int (xs (i + 2))]) (n := 2) dL_law_810 (cE_0 E M 0) (by decide) (T := TX10) (N := 19) rfl (c_X10_grows E e1) ql_L_88 qi_yX10_grows qv_yX10_grows ini_X10 qk_yX10_grows (by decide +kernel) rfl (by decide) (by decide) rfl rfl ?_
  show G E Y 4 M1 813 (lvL E b i) [.int r]
  refine g_aload_n C.1 dL_law_813 rfl rfl ?_
  refine g_scr C (k := 1) (by omega) dL_law_814 dL_law_815 dL_law_816 rfl dL_law_817 dL_law_818 ?_
  refine g_scr C (k := 2) (by omega) dL_law_819 dL_law_820 dL_law_821 rfl dL_law_822 dL_law_823 ?_
  refine g_callV C.1 (As := [.int (xs (i + 1)), .int (xs (i + 2))]) (n := 2) dL_law_824 (cE_50 E M1 0) (by decide) (T := TX11) (N := 46) rfl (c_X11_grows E e2) ql_L_91 qi_yX11_grows qv_yX11_grows ini_X11 qk_yX11_grows (by decide +kernel) rfl (by decide) (by decide) rfl rfl ?_
  show G E Y 4 M2 827 (lvL E b i) [.int r, .int r]
  refine g_same (tgt := 1746) C dL_law_827 (by decide) ?_
  exact kk s' M2 o' x' m'
set_option maxHeartbeats 1000000 in
theorem law_17 {E : wEnv} {Y : YT} {b L : Nat} {xs : Nat → Int32} {M : Mem} {i : Nat} {s : Sy} (C : LC E Y b L xs) (hi : i + 6 ≤ L) (o : OKS s) (hx : RX s M) (hm : RM s M) (kk : ∀ s' M', OKS s' → RX s' M' → RM s' M' → G E Y 4 M' 1746 (lvL E b i) []) : G E Y 4 M 832 (lvL E b i) [] := by
  obtain ⟨r, M1, M2, s', e1, e2, o', x', m'⟩ := step_crop o (xs (i + 1)) M hx hm
  refine g_aload_n C.1 dL_law_832 rfl rfl ?_
  refine g_scr C (k := 1) (by omega) dL_law_833 dL_law_834 dL_law_835 rfl dL_law_836 dL_law_837 ?_
  refine g_callV C.1 (As := [.int (xs (i + 1))]) (n := 1) dL_law_838 (cE_0 E M 0) (by decide) (T := TX10) (N := 19) rfl (c_X10_crop E e1) ql_L_92 qi_yX10_crop qv_yX10_crop ini_X10 qk_yX10_crop (by decide +kernel) rfl (by decide) (by decide) rfl rfl ?_
  show G E Y 4 M1 841 (lvL E b i) [.int r]
  refine g_aload_n C.1 dL_law_841 rfl rfl ?_
  refine g_scr C (k := 1) (by omega) dL_law_842 dL_law_843 dL_law_844 rfl dL_law_845 dL_law_846 ?_
  refine g_callV C.1 (As := [.int (xs (i + 1))]) (n := 1) dL_law_847 (cE_50 E M1 0) (by decide) (T := TX11) (N := 46) rfl (c_X11_crop E e2) ql_L_95 qi_yX11_crop qv_yX11_crop ini_X11 qk_yX11_crop (by decide +kernel) rfl (by decide) (by decide) rfl rfl ?_
  show G E Y 4 M2 850 (lvL E b i) [.int r, .int r]
  refine g_same (tgt := 1746) C dL_law_850 (by decide) ?_
  exact kk s' M2 o' x' m'
set_option maxHeartbeats 1000000 in
theorem law_18 {E : wEnv} {Y : YT} {b L : Nat} {xs : Nat → Int32} {M : Mem} {i : Nat} {s : Sy} (C : LC E Y b L xs) (hi : i + 6 ≤ L) (o : OKS s) (hx : RX s M) (hm : RM s M) (kk : ∀ s' M', OKS s' → RX s' M' → RM s' M' → G E Y 4 M' 1746 (lvL E b i) []) : G E Y 4 M 855 (lvL E b i) [] := by
  obtain ⟨r, M1, M2, s', e1, e2, o', x', m'⟩ := step_copyLeanings o (xs (i + 1)) M hx hm
  refine g_aload_n C.1 dL_law_855 rfl rfl ?_
  refine g_scr C (k := 1) (by omega) dL_law_856 dL_law_857 dL_law_858 rfl dL_law_859 dL_law_860 ?_
  refine g_callV C.1 (As := [.int (xs (i + 1))]) (n := 1) dL_law_861 (cE_0 E M 0) (by decide) (T := TX10) (N := 19) rfl (c_X10_copyLeanings E e1) ql_L_96 qi_yX10_copyLeanings qv_yX10_copyLeanings ini_X10 qk_yX10_copyLeanings (by decide +kernel) rfl (by decide) (by decide) rfl rfl ?_
  show G E Y 4 M1 864 (lvL E b i) [.int r]
  refine g_aload_n C.1 dL_law_864 rfl rfl ?_
  refine g_scr C (k := 1) (by omega) dL_law_865 dL_law_866 dL_law_867 rfl dL_law_868 dL_law_869 ?_
  refine g_callV C.1 (As := [.int (xs (i + 1))]) (n := 1) dL_law_870 (cE_50 E M1 0) (by decide) (T := TX11) (N := 46) rfl (c_X11_copyLeanings E e2) ql_L_99 qi_yX11_copyLeanings qv_yX11_copyLeanings ini_X11 qk_yX11_copyLeanings (by decide +kernel) rfl (by decide) (by decide) rfl rfl ?_
  show G E Y 4 M2 873 (lvL E b i) [.int r, .int r]
  refine g_same (tgt := 1746) C dL_law_873 (by decide) ?_
  exact kk s' M2 o' x' m'
set_option maxHeartbeats 1000000 in
theorem law_19 {E : wEnv} {Y : YT} {b L : Nat} {xs : Nat → Int32} {M : Mem} {i : Nat} {s : Sy} (C : LC E Y b L xs) (hi : i + 6 ≤ L) (o : OKS s) (hx : RX s M) (hm : RM s M) (kk : ∀ s' M', OKS s' → RX s' M' → RM s' M' → G E Y 4 M' 1746 (lvL E b i) []) : G E Y 4 M 878 (lvL E b i) [] := by
  obtain ⟨r, M1, M2, s', e1, e2, o', x', m'⟩ := step_show o (xs (i + 1)) M hx hm
  refine g_aload_n C.1 dL_law_878 rfl rfl ?_
  refine g_scr C (k := 1) (by omega) dL_law_879 dL_law_880 dL_law_881 rfl dL_law_882 dL_law_883 ?_
  refine g_callV C.1 (As := [.int (xs (i + 1))]) (n := 1) dL_law_884 (cE_0 E M 0) (by decide) (T := TX10) (N := 19) rfl (c_X10_show E e1) ql_L_100 qi_yX10_show qv_yX10_show ini_X10 qk_yX10_show (by decide +kernel) rfl (by decide) (by decide) rfl rfl ?_
  show G E Y 4 M1 887 (lvL E b i) [.int r]
  refine g_aload_n C.1 dL_law_887 rfl rfl ?_
  refine g_scr C (k := 1) (by omega) dL_law_888 dL_law_889 dL_law_890 rfl dL_law_891 dL_law_892 ?_
  refine g_callV C.1 (As := [.int (xs (i + 1))]) (n := 1) dL_law_893 (cE_50 E M1 0) (by decide) (T := TX11) (N := 46) rfl (c_X11_show E e2) ql_L_103 qi_yX11_show qv_yX11_show ini_X11 qk_yX11_show (by decide +kernel) rfl (by decide) (by decide) rfl rfl ?_
  show G E Y 4 M2 896 (lvL E b i) [.int r, .int r]
  refine g_same (tgt := 1746) C dL_law_896 (by decide) ?_
  exact kk s' M2 o' x' m'
set_option maxHeartbeats 1000000 in
theorem law_20 {E : wEnv} {Y : YT} {b L : Nat} {xs : Nat → Int32} {M : Mem} {i : Nat} {s : Sy} (C : LC E Y b L xs) (hi : i + 6 ≤ L) (o : OKS s) (hx : RX s M) (hm : RM s M) (kk : ∀ s' M', OKS s' → RX s' M' → RM s' M' → G E Y 4 M' 1746 (lvL E b i) []) : G E Y 4 M 901 (lvL E b i) [] := by
  obtain ⟨r, M1, M2, s', e1, e2, o', x', m'⟩ := step_talk o (xs (i + 1)) M hx hm
  refine g_aload_n C.1 dL_law_901 rfl rfl ?_
  refine g_scr C (k := 1) (by omega) dL_law_902 dL_law_903 dL_law_904 rfl dL_law_905 dL_law_906 ?_
  refine g_callV C.1 (As := [.int (xs (i + 1))]) (n := 1) dL_law_907 (cE_0 E M 0) (by decide) (T := TX10) (N := 19) rfl (c_X10_talk E e1) ql_L_104 qi_yX10_talk qv_yX10_talk ini_X10 qk_yX10_talk (by decide +kernel) rfl (by decide) (by decide) rfl rfl ?_
  show G E Y 4 M1 910 (lvL E b i) [.int r]
  refine g_aload_n C.1 dL_law_910 rfl rfl ?_
  refine g_scr C (k := 1) (by omega) dL_law_911 dL_law_912 dL_law_913 rfl dL_law_914 dL_law_915 ?_
  refine g_callV C.1 (As := [.int (xs (i + 1))]) (n := 1) dL_law_916 (cE_50 E M1 0) (by decide) (T := TX11) (N := 46) rfl (c_X11_talk E e2) ql_L_107 qi_yX11_talk qv_yX11_talk ini_X11 qk_yX11_talk (by decide +kernel) rfl (by decide) (by decide) rfl rfl ?_
  show G E Y 4 M2 919 (lvL E b i) [.int r, .int r]
  refine g_same (tgt := 1746) C dL_law_919 (by decide) ?_
  exact kk s' M2 o' x' m'
set_option maxHeartbeats 1000000 in
theorem law_21 {E : wEnv} {Y : YT} {b L : Nat} {xs : Nat → Int32} {M : Mem} {i : Nat} {s : Sy} (C : LC E Y b L xs) (hi : i + 6 ≤ L) (o : OKS s) (hx : RX s M) (hm : RM s M) (kk : ∀ s' M', OKS s' → RX s' M' → RM s' M' → G E Y 4 M' 1746 (lvL E b i) []) : G E Y 4 M 924 (lvL E b i) [] := by
  obtain ⟨r, M1, M2, s', e1, e2, o', x', m'⟩ := step_endDay o M hx hm
  refine g_aload_n C.1 dL_law_924 rfl rfl ?_
  refine g_callV C.1 (As := []) (n := 0) dL_law_925 (cE_0 E M 0) (by decide) (T := TX10) (N := 19) rfl (c_X10_endDay E e1) ql_L_108 qi_yX10_endDay qv_yX10_endDay ini_X10 qk_yX10_endDay (by decide +kernel) rfl (by decide) (by decide) rfl rfl ?_
  show G E Y 4 M1 928 (lvL E b i) [.int r]
  refine g_aload_n C.1 dL_law_928 rfl rfl ?_
  refine g_callV C.1 (As := []) (n := 0) dL_law_929 (cE_50 E M1 0) (by decide) (T := TX11) (N := 46) rfl (c_X11_endDay E e2) ql_L_111 qi_yX11_endDay qv_yX11_endDay ini_X11 qk_yX11_endDay (by decide +kernel) rfl (by decide) (by decide) rfl rfl ?_
  show G E Y 4 M2 932 (lvL E b i) [.int r, .int r]
  refine g_same (tgt := 1746) C dL_law_932 (by decide) ?_
  exact kk s' M2 o' x' m'
set_option maxHeartbeats 1000000 in
theorem law_22 {E : wEnv} {Y : YT} {b L : Nat} {xs : Nat → Int32} {M : Mem} {i : Nat} {s : Sy} (C : LC E Y b L xs) (hi : i + 6 ≤ L) (o : OKS s) (hx : RX s M) (hm : RM s M) (kk : ∀ s' M', OKS s' → RX s' M' → RM s' M' → G E Y 4 M' 1746 (lvL E b i) []) : G E Y 4 M 937 (lvL E b i) [] := by
  obtain ⟨r, M1, M2, s', e1, e2, o', x', m'⟩ := step_strike o (xs (i + 1)) M hx hm
  refine g_aload_n C.1 dL_law_937 rfl rfl ?_
  refine g_scr C (k := 1) (by omega) dL_law_938 dL_law_939 dL_law_940 rfl dL_law_941 dL_law_942 ?_
  refine g_callV C.1 (As := [.int (xs (i + 1))]) (n := 1) dL_law_943 (cE_0 E M 0) (by decide) (T := TX10) (N := 19) rfl (c_X10_strike E e1) ql_L_112 qi_yX10_strike qv_yX10_strike ini_X10 qk_yX10_strike (by decide +kernel) rfl (by decide) (by decide) rfl rfl ?_
  show G E Y 4 M1 946 (lvL E b i) [.int r]
  refine g_aload_n C.1 dL_law_946 rfl rfl ?_
  refine g_scr C (k := 1) (by omega) dL_law_947 dL_law_948 dL_law_949 rfl dL_law_950 dL_law_951 ?_
  refine g_callV C.1 (As := [.int (xs (i + 1))]) (n := 1) dL_law_952 (cE_50 E M1 0) (by decide) (T := TX11) (N := 46) rfl (c_X11_strike E e2) ql_L_116 qi_yX11_strike qv_yX11_strike ini_X11 qk_yX11_strike (by decide +kernel) rfl (by decide) (by decide) rfl rfl ?_
  show G E Y 4 M2 955 (lvL E b i) [.int r, .int r]
  refine g_same (tgt := 1746) C dL_law_955 (by decide) ?_
  exact kk s' M2 o' x' m'
set_option maxHeartbeats 1000000 in
theorem law_23 {E : wEnv} {Y : YT} {b L : Nat} {xs : Nat → Int32} {M : Mem} {i : Nat} {s : Sy} (C : LC E Y b L xs) (hi : i + 6 ≤ L) (o : OKS s) (hx : RX s M) (hm : RM s M) (kk : ∀ s' M', OKS s' → RX s' M' → RM s' M' → G E Y 4 M' 1746 (lvL E b i) []) : G E Y 4 M 960 (lvL E b i) [] := by
  obtain ⟨r, M1, M2, s', e1, e2, o', x', m'⟩ := step_seat o (xs (i + 1)) M hx hm
  refine g_aload_n C.1 dL_law_960 rfl rfl ?_
  refine g_scr C (k := 1) (by omega) dL_law_961 dL_law_962 dL_law_963 rfl dL_law_964 dL_law_965 ?_
  refine g_callV C.1 (As := [.int (xs (i + 1))]) (n := 1) dL_law_966 (cE_0 E M 0) (by decide) (T := TX10) (N := 19) rfl (c_X10_seat E e1) ql_L_117 qi_yX10_seat qv_yX10_seat ini_X10 qk_yX10_seat (by decide +kernel) rfl (by decide) (by decide) rfl rfl ?_
  show G E Y 4 M1 969 (lvL E b i) [.int r]
  refine g_aload_n C.1 dL_law_969 rfl rfl ?_
  refine g_scr C (k := 1) (by omega) dL_law_970 dL_law_971 dL_law_972 rfl dL_law_973 dL_law_974 ?_
  refine g_callV C.1 (As := [.int (xs (i + 1))]) (n := 1) dL_law_975 (cE_50 E M1 0) (by decide) (T := TX11) (N := 46) rfl (c_X11_seat E e2) ql_L_120 qi_yX11_seat qv_yX11_seat ini_X11 qk_yX11_seat (by decide +kernel) rfl (by decide) (by decide) rfl rfl ?_
  show G E Y 4 M2 978 (lvL E b i) [.int r, .int r]
  refine g_same (tgt := 1746) C dL_law_978 (by decide) ?_
  exact kk s' M2 o' x' m'
set_option maxHeartbeats 1000000 in
theorem law_24 {E : wEnv} {Y : YT} {b L : Nat} {xs : Nat → Int32} {M : Mem} {i : Nat} {s : Sy} (C : LC E Y b L xs) (hi : i + 6 ≤ L) (o : OKS s) (hx : RX s M) (hm : RM s M) (kk : ∀ s' M', OKS s' → RX s' M' → RM s' M' → G E Y 4 M' 1746 (lvL E b i) []) : G E Y 4 M 983 (lvL E b i) [] := by
  obtain ⟨r, M1, M2, s', e1, e2, o', x', m'⟩ := step_bribe o (xs (i + 1)) (xs (i + 2)) M hx hm
  refine g_aload_n C.1 dL_law_983 rfl rfl ?_
  refine g_scr C (k := 1) (by omega) dL_law_984 dL_law_985 dL_law_986 rfl dL_law_987 dL_law_988 ?_
  refine g_scr C (k := 2) (by omega) dL_law_989 dL_law_990 dL_law_991 rfl dL_law_992 dL_law_993 ?_
  refine g_callV C.1 (As := [.int (xs (i + 1)), .int (xs (i + 2))]) (n := 2) dL_law_994 (cE_0 E M 0) (by decide) (T := TX10) (N := 19) rfl (c_X10_bribe E e1) ql_L_121 qi_yX10_bribe qv_yX10_bribe ini_X10 qk_yX10_bribe (by decide +kernel) rfl (by decide) (by decide) rfl rfl ?_
  show G E Y 4 M1 997 (lvL E b i) [.int r]
  refine g_aload_n C.1 dL_law_997 rfl rfl ?_
  refine g_scr C (k := 1) (by omega) dL_law_998 dL_law_999 dL_law_1000 rfl dL_law_1001 dL_law_1002 ?_
  refine g_scr C (k := 2) (by omega) dL_law_1003 dL_law_1004 dL_law_1005 rfl dL_law_1006 dL_law_1007 ?_
  refine g_callV C.1 (As := [.int (xs (i + 1)), .int (xs (i + 2))]) (n := 2) dL_law_1008 (cE_50 E M1 0) (by decide) (T := TX11) (N := 46) rfl (c_X11_bribe E e2) ql_L_124 qi_yX11_bribe qv_yX11_bribe ini_X11 qk_yX11_bribe (by decide +kernel) rfl (by decide) (by decide) rfl rfl ?_
  show G E Y 4 M2 1011 (lvL E b i) [.int r, .int r]
  refine g_same (tgt := 1746) C dL_law_1011 (by decide) ?_
  exact kk s' M2 o' x' m'
set_option maxHeartbeats 1000000 in
theorem law_25 {E : wEnv} {Y : YT} {b L : Nat} {xs : Nat → Int32} {M : Mem} {i : Nat} {s : Sy} (C : LC E Y b L xs) (hi : i + 6 ≤ L) (o : OKS s) (hx : RX s M) (hm : RM s M) (kk : ∀ s' M', OKS s' → RX s' M' → RM s' M' → G E Y 4 M' 1746 (lvL E b i) []) : G E Y 4 M 1016 (lvL E b i) [] := by
  obtain ⟨r, M1, M2, s', e1, e2, o', x', m'⟩ := step_lean o (xs (i + 1)) (xs (i + 2)) M hx hm
  refine g_aload_n C.1 dL_law_1016 rfl rfl ?_
  refine g_scr C (k := 1) (by omega) dL_law_1017 dL_law_1018 dL_law_1019 rfl dL_law_1020 dL_law_1021 ?_
  refine g_scr C (k := 2) (by omega) dL_law_1022 dL_law_1023 dL_law_1024 rfl dL_law_1025 dL_law_1026 ?_
  refine g_callV C.1 (As := [.int (xs (i + 1)), .int (xs (i + 2))]) (n := 2) dL_law_1027 (cE_0 E M 0) (by decide) (T := TX10) (N := 19) rfl (c_X10_lean E e1) ql_L_125 qi_yX10_lean qv_yX10_lean ini_X10 qk_yX10_lean (by decide +kernel) rfl (by decide) (by decide) rfl rfl ?_
  show G E Y 4 M1 1030 (lvL E b i) [.int r]
  refine g_aload_n C.1 dL_law_1030 rfl rfl ?_
  refine g_scr C (k := 1) (by omega) dL_law_1031 dL_law_1032 dL_law_1033 rfl dL_law_1034 dL_law_1035 ?_
  refine g_scr C (k := 2) (by omega) dL_law_1036 dL_law_1037 dL_law_1038 rfl dL_law_1039 dL_law_1040 ?_
  refine g_callV C.1 (As := [.int (xs (i + 1)), .int (xs (i + 2))]) (n := 2) dL_law_1041 (cE_50 E M1 0) (by decide) (T := TX11) (N := 46) rfl (c_X11_lean E e2) ql_L_129 qi_yX11_lean qv_yX11_lean ini_X11 qk_yX11_lean (by decide +kernel) rfl (by decide) (by decide) rfl rfl ?_
  show G E Y 4 M2 1044 (lvL E b i) [.int r, .int r]
  refine g_same (tgt := 1746) C dL_law_1044 (by decide) ?_
  exact kk s' M2 o' x' m'
set_option maxHeartbeats 1000000 in
theorem law_26 {E : wEnv} {Y : YT} {b L : Nat} {xs : Nat → Int32} {M : Mem} {i : Nat} {s : Sy} (C : LC E Y b L xs) (hi : i + 6 ≤ L) (o : OKS s) (hx : RX s M) (hm : RM s M) (kk : ∀ s' M', OKS s' → RX s' M' → RM s' M' → G E Y 4 M' 1746 (lvL E b i) []) : G E Y 4 M 1049 (lvL E b i) [] := by
  obtain ⟨r, M1, M2, s', e1, e2, o', x', m'⟩ := step_votes o (xs (i + 1)) M hx hm
  refine g_aload_n C.1 dL_law_1049 rfl rfl ?_
  refine g_scr C (k := 1) (by omega) dL_law_1050 dL_law_1051 dL_law_1052 rfl dL_law_1053 dL_law_1054 ?_
  refine g_callV C.1 (As := [.int (xs (i + 1))]) (n := 1) dL_law_1055 (cE_0 E M 0) (by decide) (T := TX10) (N := 19) rfl (c_X10_votes E e1) ql_L_130 qi_yX10_votes qv_yX10_votes ini_X10 qk_yX10_votes (by decide +kernel) rfl (by decide) (by decide) rfl rfl ?_
  show G E Y 4 M1 1058 (lvL E b i) [.int r]
  refine g_aload_n C.1 dL_law_1058 rfl rfl ?_
  refine g_scr C (k := 1) (by omega) dL_law_1059 dL_law_1060 dL_law_1061 rfl dL_law_1062 dL_law_1063 ?_
  refine g_callV C.1 (As := [.int (xs (i + 1))]) (n := 1) dL_law_1064 (cE_50 E M1 0) (by decide) (T := TX11) (N := 46) rfl (c_X11_votes E e2) ql_L_133 qi_yX11_votes qv_yX11_votes ini_X11 qk_yX11_votes (by decide +kernel) rfl (by decide) (by decide) rfl rfl ?_
  show G E Y 4 M2 1067 (lvL E b i) [.int r, .int r]
  refine g_same (tgt := 1746) C dL_law_1067 (by decide) ?_
  exact kk s' M2 o' x' m'
set_option maxHeartbeats 1000000 in
theorem law_27 {E : wEnv} {Y : YT} {b L : Nat} {xs : Nat → Int32} {M : Mem} {i : Nat} {s : Sy} (C : LC E Y b L xs) (hi : i + 6 ≤ L) (o : OKS s) (hx : RX s M) (hm : RM s M) (kk : ∀ s' M', OKS s' → RX s' M' → RM s' M' → G E Y 4 M' 1746 (lvL E b i) []) : G E Y 4 M 1072 (lvL E b i) [] := by
  obtain ⟨r, M1, M2, s', e1, e2, o', x', m'⟩ := step_verdict o M hx hm
  refine g_aload_n C.1 dL_law_1072 rfl rfl ?_
  refine g_callV C.1 (As := []) (n := 0) dL_law_1073 (cE_0 E M 0) (by decide) (T := TX10) (N := 19) rfl (c_X10_verdict E e1) ql_L_134 qi_yX10_verdict qv_yX10_verdict ini_X10 qk_yX10_verdict (by decide +kernel) rfl (by decide) (by decide) rfl rfl ?_
  show G E Y 4 M1 1076 (lvL E b i) [.int r]
  refine g_aload_n C.1 dL_law_1076 rfl rfl ?_
  refine g_callV C.1 (As := []) (n := 0) dL_law_1077 (cE_50 E M1 0) (by decide) (T := TX11) (N := 46) rfl (c_X11_verdict E e2) ql_L_137 qi_yX11_verdict qv_yX11_verdict ini_X11 qk_yX11_verdict (by decide +kernel) rfl (by decide) (by decide) rfl rfl ?_
  show G E Y 4 M2 1080 (lvL E b i) [.int r, .int r]
  refine g_same (tgt := 1746) C dL_law_1080 (by decide) ?_
  exact kk s' M2 o' x' m'
set_option maxHeartbeats 1000000 in
theorem law_28 {E : wEnv} {Y : YT} {b L : Nat} {xs : Nat → Int32} {M : Mem} {i : Nat} {s : Sy} (C : LC E Y b L xs) (hi : i + 6 ≤ L) (o : OKS s) (hx : RX s M) (hm : RM s M) (kk : ∀ s' M', OKS s' → RX s' M' → RM s' M' → G E Y 4 M' 1746 (lvL E b i) []) : G E Y 4 M 1085 (lvL E b i) [] := by
  obtain ⟨r, M1, M2, s', e1, e2, o', x', m'⟩ := step_verdictBy o (xs (i + 1)) M hx hm
  refine g_aload_n C.1 dL_law_1085 rfl rfl ?_
  refine g_scr C (k := 1) (by omega) dL_law_1086 dL_law_1087 dL_law_1088 rfl dL_law_1089 dL_law_1090 ?_
  refine g_callV C.1 (As := [.int (xs (i + 1))]) (n := 1) dL_law_1091 (cE_0 E M 0) (by decide) (T := TX10) (N := 19) rfl (c_X10_verdictBy E e1) ql_L_138 qi_yX10_verdictBy qv_yX10_verdictBy ini_X10 qk_yX10_verdictBy (by decide +kernel) rfl (by decide) (by decide) rfl rfl ?_
  show G E Y 4 M1 1094 (lvL E b i) [.int r]
  refine g_aload_n C.1 dL_law_1094 rfl rfl ?_
  refine g_scr C (k := 1) (by omega) dL_law_1095 dL_law_1096 dL_law_1097 rfl dL_law_1098 dL_law_1099 ?_
  refine g_callV C.1 (As := [.int (xs (i + 1))]) (n := 1) dL_law_1100 (cE_50 E M1 0) (by decide) (T := TX11) (N := 46) rfl (c_X11_verdictBy E e2) ql_L_141 qi_yX11_verdictBy qv_yX11_verdictBy ini_X11 qk_yX11_verdictBy (by decide +kernel) rfl (by decide) (by decide) rfl rfl ?_
  show G E Y 4 M2 1103 (lvL E b i) [.int r, .int r]
  refine g_same (tgt := 1746) C dL_law_1103 (by decide) ?_
  exact kk s' M2 o' x' m'
set_option maxHeartbeats 1000000 in
theorem law_29 {E : wEnv} {Y : YT} {b L : Nat} {xs : Nat → Int32} {M : Mem} {i : Nat} {s : Sy} (C : LC E Y b L xs) (hi : i + 6 ≤ L) (o : OKS s) (hx : RX s M) (hm : RM s M) (kk : ∀ s' M', OKS s' → RX s' M' → RM s' M' → G E Y 4 M' 1746 (lvL E b i) []) : G E Y 4 M 1108 (lvL E b i) [] := by
  obtain ⟨r, M1, M2, s', e1, e2, o', x', m'⟩ := step_swing o M hx hm
  refine g_aload_n C.1 dL_law_1108 rfl rfl ?_
  refine g_callV C.1 (As := []) (n := 0) dL_law_1109 (cE_0 E M 0) (by decide) (T := TX10) (N := 19) rfl (c_X10_swing E e1) ql_L_142 qi_yX10_swing qv_yX10_swing ini_X10 qk_yX10_swing (by decide +kernel) rfl (by decide) (by decide) rfl rfl ?_
  show G E Y 4 M1 1112 (lvL E b i) [.int r]
  refine g_aload_n C.1 dL_law_1112 rfl rfl ?_
  refine g_callV C.1 (As := []) (n := 0) dL_law_1113 (cE_50 E M1 0) (by decide) (T := TX11) (N := 46) rfl (c_X11_swing E e2) ql_L_145 qi_yX11_swing qv_yX11_swing ini_X11 qk_yX11_swing (by decide +kernel) rfl (by decide) (by decide) rfl rfl ?_
  show G E Y 4 M2 1116 (lvL E b i) [.int r, .int r]
  refine g_same (tgt := 1746) C dL_law_1116 (by decide) ?_
  exact kk s' M2 o' x' m'
set_option maxHeartbeats 1000000 in
theorem law_30 {E : wEnv} {Y : YT} {b L : Nat} {xs : Nat → Int32} {M : Mem} {i : Nat} {s : Sy} (C : LC E Y b L xs) (hi : i + 6 ≤ L) (o : OKS s) (hx : RX s M) (hm : RM s M) (kk : ∀ s' M', OKS s' → RX s' M' → RM s' M' → G E Y 4 M' 1746 (lvL E b i) []) : G E Y 4 M 1121 (lvL E b i) [] := by
  obtain ⟨r, M1, M2, s', e1, e2, o', x', m'⟩ := step_lacks o M hx hm
  refine g_aload_n C.1 dL_law_1121 rfl rfl ?_
  refine g_callV C.1 (As := []) (n := 0) dL_law_1122 (cE_0 E M 0) (by decide) (T := TX10) (N := 19) rfl (c_X10_lacks E e1) ql_L_146 qi_yX10_lacks qv_yX10_lacks ini_X10 qk_yX10_lacks (by decide +kernel) rfl (by decide) (by decide) rfl rfl ?_
  show G E Y 4 M1 1125 (lvL E b i) [.int r]
  refine g_aload_n C.1 dL_law_1125 rfl rfl ?_
  refine g_callV C.1 (As := []) (n := 0) dL_law_1126 (cE_50 E M1 0) (by decide) (T := TX11) (N := 46) rfl (c_X11_lacks E e2) ql_L_149 qi_yX11_lacks qv_yX11_lacks ini_X11 qk_yX11_lacks (by decide +kernel) rfl (by decide) (by decide) rfl rfl ?_
  show G E Y 4 M2 1129 (lvL E b i) [.int r, .int r]
  refine g_same (tgt := 1746) C dL_law_1129 (by decide) ?_
  exact kk s' M2 o' x' m'
set_option maxHeartbeats 1000000 in
theorem law_31 {E : wEnv} {Y : YT} {b L : Nat} {xs : Nat → Int32} {M : Mem} {i : Nat} {s : Sy} (C : LC E Y b L xs) (hi : i + 6 ≤ L) (o : OKS s) (hx : RX s M) (hm : RM s M) (kk : ∀ s' M', OKS s' → RX s' M' → RM s' M' → G E Y 4 M' 1746 (lvL E b i) []) : G E Y 4 M 1134 (lvL E b i) [] := by
  obtain ⟨r, M1, M2, s', e1, e2, o', x', m'⟩ := step_nearest o M hx hm
  refine g_aload_n C.1 dL_law_1134 rfl rfl ?_
  refine g_callV C.1 (As := []) (n := 0) dL_law_1135 (cE_0 E M 0) (by decide) (T := TX10) (N := 19) rfl (c_X10_nearest E e1) ql_L_150 qi_yX10_nearest qv_yX10_nearest ini_X10 qk_yX10_nearest (by decide +kernel) rfl (by decide) (by decide) rfl rfl ?_
  show G E Y 4 M1 1138 (lvL E b i) [.int r]
  refine g_aload_n C.1 dL_law_1138 rfl rfl ?_
  refine g_callV C.1 (As := []) (n := 0) dL_law_1139 (cE_50 E M1 0) (by decide) (T := TX11) (N := 46) rfl (c_X11_nearest E e2) ql_L_153 qi_yX11_nearest qv_yX11_nearest ini_X11 qk_yX11_nearest (by decide +kernel) rfl (by decide) (by decide) rfl rfl ?_
  show G E Y 4 M2 1142 (lvL E b i) [.int r, .int r]
  refine g_same (tgt := 1746) C dL_law_1142 (by decide) ?_
  exact kk s' M2 o' x' m'
set_option maxHeartbeats 1000000 in
theorem law_32 {E : wEnv} {Y : YT} {b L : Nat} {xs : Nat → Int32} {M : Mem} {i : Nat} {s : Sy} (C : LC E Y b L xs) (hi : i + 6 ≤ L) (o : OKS s) (hx : RX s M) (hm : RM s M) (kk : ∀ s' M', OKS s' → RX s' M' → RM s' M' → G E Y 4 M' 1746 (lvL E b i) []) : G E Y 4 M 1147 (lvL E b i) [] := by
  obtain ⟨r, M1, M2, s', e1, e2, o', x', m'⟩ := step_pull o (xs (i + 1)) M hx hm
  refine g_aload_n C.1 dL_law_1147 rfl rfl ?_
  refine g_scr C (k := 1) (by omega) dL_law_1148 dL_law_1149 dL_law_1150 rfl dL_law_1151 dL_law_1152 ?_
  refine g_callV C.1 (As := [.int (xs (i + 1))]) (n := 1) dL_law_1153 (cE_0 E M 0) (by decide) (T := TX10) (N := 19) rfl (c_X10_pull E e1) ql_L_154 qi_yX10_pull qv_yX10_pull ini_X10 qk_yX10_pull (by decide +kernel) rfl (by decide) (by decide) rfl rfl ?_
  show G E Y 4 M1 1156 (lvL E b i) [.int r]
  refine g_aload_n C.1 dL_law_1156 rfl rfl ?_
  refine g_scr C (k := 1) (by omega) dL_law_1157 dL_law_1158 dL_law_1159 rfl dL_law_1160 dL_law_1161 ?_
  refine g_callV C.1 (As := [.int (xs (i + 1))]) (n := 1) dL_law_1162 (cE_50 E M1 0) (by decide) (T := TX11) (N := 46) rfl (c_X11_pull E e2) ql_L_157 qi_yX11_pull qv_yX11_pull ini_X11 qk_yX11_pull (by decide +kernel) rfl (by decide) (by decide) rfl rfl ?_
  show G E Y 4 M2 1165 (lvL E b i) [.int r, .int r]
  refine g_same (tgt := 1746) C dL_law_1165 (by decide) ?_
  exact kk s' M2 o' x' m'
set_option maxHeartbeats 1000000 in
theorem law_33 {E : wEnv} {Y : YT} {b L : Nat} {xs : Nat → Int32} {M : Mem} {i : Nat} {s : Sy} (C : LC E Y b L xs) (hi : i + 6 ≤ L) (o : OKS s) (hx : RX s M) (hm : RM s M) (kk : ∀ s' M', OKS s' → RX s' M' → RM s' M' → G E Y 4 M' 1746 (lvL E b i) []) : G E Y 4 M 1170 (lvL E b i) [] := by
  obtain ⟨r, M1, M2, s', e1, e2, o', x', m'⟩ := step_behind o (xs (i + 1)) M hx hm
  refine g_aload_n C.1 dL_law_1170 rfl rfl ?_
  refine g_scr C (k := 1) (by omega) dL_law_1171 dL_law_1172 dL_law_1173 rfl dL_law_1174 dL_law_1175 ?_
  refine g_callV C.1 (As := [.int (xs (i + 1))]) (n := 1) dL_law_1176 (cE_0 E M 0) (by decide) (T := TX10) (N := 19) rfl (c_X10_behind E e1) ql_L_158 qi_yX10_behind qv_yX10_behind ini_X10 qk_yX10_behind (by decide +kernel) rfl (by decide) (by decide) rfl rfl ?_
  show G E Y 4 M1 1179 (lvL E b i) [.int r]
  refine g_aload_n C.1 dL_law_1179 rfl rfl ?_
  refine g_scr C (k := 1) (by omega) dL_law_1180 dL_law_1181 dL_law_1182 rfl dL_law_1183 dL_law_1184 ?_
  refine g_callV C.1 (As := [.int (xs (i + 1))]) (n := 1) dL_law_1185 (cE_50 E M1 0) (by decide) (T := TX11) (N := 46) rfl (c_X11_behind E e2) ql_L_161 qi_yX11_behind qv_yX11_behind ini_X11 qk_yX11_behind (by decide +kernel) rfl (by decide) (by decide) rfl rfl ?_
  show G E Y 4 M2 1188 (lvL E b i) [.int r, .int r]
  refine g_same (tgt := 1746) C dL_law_1188 (by decide) ?_
  exact kk s' M2 o' x' m'
set_option maxHeartbeats 1000000 in
theorem law_34 {E : wEnv} {Y : YT} {b L : Nat} {xs : Nat → Int32} {M : Mem} {i : Nat} {s : Sy} (C : LC E Y b L xs) (hi : i + 6 ≤ L) (o : OKS s) (hx : RX s M) (hm : RM s M) (kk : ∀ s' M', OKS s' → RX s' M' → RM s' M' → G E Y 4 M' 1746 (lvL E b i) []) : G E Y 4 M 1193 (lvL E b i) [] := by
  obtain ⟨r, M1, M2, s', e1, e2, o', x', m'⟩ := step_settles o (xs (i + 1)) M hx hm
  refine g_aload_n C.1 dL_law_1193 rfl rfl ?_
  refine g_scr C (k := 1) (by omega) dL_law_1194 dL_law_1195 dL_law_1196 rfl dL_law_1197 dL_law_1198 ?_
  refine g_callV C.1 (As := [.int (xs (i + 1))]) (n := 1) dL_law_1199 (cE_0 E M 0) (by decide) (T := TX10) (N := 19) rfl (c_X10_settles E e1) ql_L_162 qi_yX10_settles qv_yX10_settles ini_X10 qk_yX10_settles (by decide +kernel) rfl (by decide) (by decide) rfl rfl ?_
  show G E Y 4 M1 1202 (lvL E b i) [.int r]
  refine g_aload_n C.1 dL_law_1202 rfl rfl ?_
  refine g_scr C (k := 1) (by omega) dL_law_1203 dL_law_1204 dL_law_1205 rfl dL_law_1206 dL_law_1207 ?_
  refine g_callV C.1 (As := [.int (xs (i + 1))]) (n := 1) dL_law_1208 (cE_50 E M1 0) (by decide) (T := TX11) (N := 46) rfl (c_X11_settles E e2) ql_L_165 qi_yX11_settles qv_yX11_settles ini_X11 qk_yX11_settles (by decide +kernel) rfl (by decide) (by decide) rfl rfl ?_
  show G E Y 4 M2 1211 (lvL E b i) [.int r, .int r]
  refine g_same (tgt := 1746) C dL_law_1211 (by decide) ?_
  exact kk s' M2 o' x' m'
set_option maxHeartbeats 1000000 in
theorem law_35 {E : wEnv} {Y : YT} {b L : Nat} {xs : Nat → Int32} {M : Mem} {i : Nat} {s : Sy} (C : LC E Y b L xs) (hi : i + 6 ≤ L) (o : OKS s) (hx : RX s M) (hm : RM s M) (kk : ∀ s' M', OKS s' → RX s' M' → RM s' M' → G E Y 4 M' 1746 (lvL E b i) []) : G E Y 4 M 1216 (lvL E b i) [] := by
  obtain ⟨r, M1, M2, s', e1, e2, o', x', m'⟩ := step_after o (xs (i + 1)) M hx hm
  refine g_aload_n C.1 dL_law_1216 rfl rfl ?_
  refine g_scr C (k := 1) (by omega) dL_law_1217 dL_law_1218 dL_law_1219 rfl dL_law_1220 dL_law_1221 ?_
  refine g_callV C.1 (As := [.int (xs (i + 1))]) (n := 1) dL_law_1222 (cE_0 E M 0) (by decide) (T := TX10) (N := 19) rfl (c_X10_after E e1) ql_L_166 qi_yX10_after qv_yX10_after ini_X10 qk_yX10_after (by decide +kernel) rfl (by decide) (by decide) rfl rfl ?_
  show G E Y 4 M1 1225 (lvL E b i) [.int r]
  refine g_aload_n C.1 dL_law_1225 rfl rfl ?_
  refine g_scr C (k := 1) (by omega) dL_law_1226 dL_law_1227 dL_law_1228 rfl dL_law_1229 dL_law_1230 ?_
  refine g_callV C.1 (As := [.int (xs (i + 1))]) (n := 1) dL_law_1231 (cE_50 E M1 0) (by decide) (T := TX11) (N := 46) rfl (c_X11_after E e2) ql_L_169 qi_yX11_after qv_yX11_after ini_X11 qk_yX11_after (by decide +kernel) rfl (by decide) (by decide) rfl rfl ?_
  show G E Y 4 M2 1234 (lvL E b i) [.int r, .int r]
  refine g_same (tgt := 1746) C dL_law_1234 (by decide) ?_
  exact kk s' M2 o' x' m'
set_option maxHeartbeats 1000000 in
theorem law_36 {E : wEnv} {Y : YT} {b L : Nat} {xs : Nat → Int32} {M : Mem} {i : Nat} {s : Sy} (C : LC E Y b L xs) (hi : i + 6 ≤ L) (o : OKS s) (hx : RX s M) (hm : RM s M) (kk : ∀ s' M', OKS s' → RX s' M' → RM s' M' → G E Y 4 M' 1746 (lvL E b i) []) : G E Y 4 M 1239 (lvL E b i) [] := by
  obtain ⟨r, M1, M2, s', e1, e2, o', x', m'⟩ := step_soonest o (xs (i + 1)) M hx hm
  refine g_aload_n C.1 dL_law_1239 rfl rfl ?_
  refine g_scr C (k := 1) (by omega) dL_law_1240 dL_law_1241 dL_law_1242 rfl dL_law_1243 dL_law_1244 ?_
  refine g_callV C.1 (As := [.int (xs (i + 1))]) (n := 1) dL_law_1245 (cE_0 E M 0) (by decide) (T := TX10) (N := 19) rfl (c_X10_soonest E e1) ql_L_170 qi_yX10_soonest qv_yX10_soonest ini_X10 qk_yX10_soonest (by decide +kernel) rfl (by decide) (by decide) rfl rfl ?_
  show G E Y 4 M1 1248 (lvL E b i) [.int r]
  refine g_aload_n C.1 dL_law_1248 rfl rfl ?_
  refine g_scr C (k := 1) (by omega) dL_law_1249 dL_law_1250 dL_law_1251 rfl dL_law_1252 dL_law_1253 ?_
  refine g_callV C.1 (As := [.int (xs (i + 1))]) (n := 1) dL_law_1254 (cE_50 E M1 0) (by decide) (T := TX11) (N := 46) rfl (c_X11_soonest E e2) ql_L_173 qi_yX11_soonest qv_yX11_soonest ini_X11 qk_yX11_soonest (by decide +kernel) rfl (by decide) (by decide) rfl rfl ?_
  show G E Y 4 M2 1257 (lvL E b i) [.int r, .int r]
  refine g_same (tgt := 1746) C dL_law_1257 (by decide) ?_
  exact kk s' M2 o' x' m'
set_option maxHeartbeats 1000000 in
theorem law_37 {E : wEnv} {Y : YT} {b L : Nat} {xs : Nat → Int32} {M : Mem} {i : Nat} {s : Sy} (C : LC E Y b L xs) (hi : i + 6 ≤ L) (o : OKS s) (hx : RX s M) (hm : RM s M) (kk : ∀ s' M', OKS s' → RX s' M' → RM s' M' → G E Y 4 M' 1746 (lvL E b i) []) : G E Y 4 M 1262 (lvL E b i) [] := by
  obtain ⟨r, M1, M2, s', e1, e2, o', x', m'⟩ := step_bestOrder o (xs (i + 1)) M hx hm
  refine g_aload_n C.1 dL_law_1262 rfl rfl ?_
  refine g_scr C (k := 1) (by omega) dL_law_1263 dL_law_1264 dL_law_1265 rfl dL_law_1266 dL_law_1267 ?_
  refine g_callV C.1 (As := [.int (xs (i + 1))]) (n := 1) dL_law_1268 (cE_0 E M 0) (by decide) (T := TX10) (N := 19) rfl (c_X10_bestOrder E e1) ql_L_174 qi_yX10_bestOrder qv_yX10_bestOrder ini_X10 qk_yX10_bestOrder (by decide +kernel) rfl (by decide) (by decide) rfl rfl ?_
  show G E Y 4 M1 1271 (lvL E b i) [.int r]
  refine g_aload_n C.1 dL_law_1271 rfl rfl ?_
  refine g_scr C (k := 1) (by omega) dL_law_1272 dL_law_1273 dL_law_1274 rfl dL_law_1275 dL_law_1276 ?_
  refine g_callV C.1 (As := [.int (xs (i + 1))]) (n := 1) dL_law_1277 (cE_50 E M1 0) (by decide) (T := TX11) (N := 46) rfl (c_X11_bestOrder E e2) ql_L_177 qi_yX11_bestOrder qv_yX11_bestOrder ini_X11 qk_yX11_bestOrder (by decide +kernel) rfl (by decide) (by decide) rfl rfl ?_
  show G E Y 4 M2 1280 (lvL E b i) [.int r, .int r]
  refine g_same (tgt := 1746) C dL_law_1280 (by decide) ?_
  exact kk s' M2 o' x' m'
set_option maxHeartbeats 1000000 in
theorem law_38 {E : wEnv} {Y : YT} {b L : Nat} {xs : Nat → Int32} {M : Mem} {i : Nat} {s : Sy} (C : LC E Y b L xs) (hi : i + 6 ≤ L) (o : OKS s) (hx : RX s M) (hm : RM s M) (kk : ∀ s' M', OKS s' → RX s' M' → RM s' M' → G E Y 4 M' 1746 (lvL E b i) []) : G E Y 4 M 1285 (lvL E b i) [] := by
  obtain ⟨r, M1, M2, s', e1, e2, o', x', m'⟩ := step_orderAt o (xs (i + 1)) M hx hm
  refine g_aload_n C.1 dL_law_1285 rfl rfl ?_
  refine g_scr C (k := 1) (by omega) dL_law_1286 dL_law_1287 dL_law_1288 rfl dL_law_1289 dL_law_1290 ?_
  refine g_callV C.1 (As := [.int (xs (i + 1))]) (n := 1) dL_law_1291 (cE_0 E M 0) (by decide) (T := TX10) (N := 19) rfl (c_X10_orderAt E e1) ql_L_178 qi_yX10_orderAt qv_yX10_orderAt ini_X10 qk_yX10_orderAt (by decide +kernel) rfl (by decide) (by decide) rfl rfl ?_
  show G E Y 4 M1 1294 (lvL E b i) [.int r]
  refine g_aload_n C.1 dL_law_1294 rfl rfl ?_
  refine g_scr C (k := 1) (by omega) dL_law_1295 dL_law_1296 dL_law_1297 rfl dL_law_1298 dL_law_1299 ?_
  refine g_callV C.1 (As := [.int (xs (i + 1))]) (n := 1) dL_law_1300 (cE_50 E M1 0) (by decide) (T := TX11) (N := 46) rfl (c_X11_orderAt E e2) ql_L_181 qi_yX11_orderAt qv_yX11_orderAt ini_X11 qk_yX11_orderAt (by decide +kernel) rfl (by decide) (by decide) rfl rfl ?_
  show G E Y 4 M2 1303 (lvL E b i) [.int r, .int r]
  refine g_same (tgt := 1746) C dL_law_1303 (by decide) ?_
  exact kk s' M2 o' x' m'
set_option maxHeartbeats 1000000 in
theorem law_39 {E : wEnv} {Y : YT} {b L : Nat} {xs : Nat → Int32} {M : Mem} {i : Nat} {s : Sy} (C : LC E Y b L xs) (hi : i + 6 ≤ L) (o : OKS s) (hx : RX s M) (hm : RM s M) (kk : ∀ s' M', OKS s' → RX s' M' → RM s' M' → G E Y 4 M' 1746 (lvL E b i) []) : G E Y 4 M 1308 (lvL E b i) [] := by
  obtain ⟨r, M1, M2, s', e1, e2, o', x', m'⟩ := step_bribes o (xs (i + 1)) (xs (i + 2)) (xs (i + 3)) M hx hm
  refine g_aload_n C.1 dL_law_1308 rfl rfl ?_
  refine g_scr C (k := 1) (by omega) dL_law_1309 dL_law_1310 dL_law_1311 rfl dL_law_1312 dL_law_1313 ?_
  refine g_scr C (k := 2) (by omega) dL_law_1314 dL_law_1315 dL_law_1316 rfl dL_law_1317 dL_law_1318 ?_
  refine g_scr C (k := 3) (by omega) dL_law_1319 dL_law_1320 dL_law_1321 rfl dL_law_1322 dL_law_1323 ?_
  refine g_callV C.1 (As := [.int (xs (i + 1)), .int (xs (i + 2)), .int (xs (i + 3))]) (n := 3) dL_law_1324 (cE_0 E M 0) (by decide) (T := TX10) (N := 19) rfl (c_X10_bribes E e1) ql_L_182 qi_yX10_bribes qv_yX10_bribes ini_X10 qk_yX10_bribes (by decide +kernel) rfl (by decide) (by decide) rfl rfl ?_
  show G E Y 4 M1 1327 (lvL E b i) [.int r]
  refine g_aload_n C.1 dL_law_1327 rfl rfl ?_
  refine g_scr C (k := 1) (by omega) dL_law_1328 dL_law_1329 dL_law_1330 rfl dL_law_1331 dL_law_1332 ?_
  refine g_scr C (k := 2) (by omega) dL_law_1333 dL_law_1334 dL_law_1335 rfl dL_law_1336 dL_law_1337 ?_
  refine g_scr C (k := 3) (by omega) dL_law_1338 dL_law_1339 dL_law_1340 rfl dL_law_1341 dL_law_1342 ?_
  refine g_callV C.1 (As := [.int (xs (i + 1)), .int (xs (i + 2)), .int (xs (i + 3))]) (n := 3) dL_law_1343 (cE_50 E M1 0) (by decide) (T := TX11) (N := 46) rfl (c_X11_bribes E e2) ql_L_186 qi_yX11_bribes qv_yX11_bribes ini_X11 qk_yX11_bribes (by decide +kernel) rfl (by decide) (by decide) rfl rfl ?_
  show G E Y 4 M2 1346 (lvL E b i) [.int r, .int r]
  refine g_same (tgt := 1746) C dL_law_1346 (by decide) ?_
  exact kk s' M2 o' x' m'
set_option maxHeartbeats 1000000 in
theorem law_40 {E : wEnv} {Y : YT} {b L : Nat} {xs : Nat → Int32} {M : Mem} {i : Nat} {s : Sy} (C : LC E Y b L xs) (hi : i + 6 ≤ L) (o : OKS s) (hx : RX s M) (hm : RM s M) (kk : ∀ s' M', OKS s' → RX s' M' → RM s' M' → G E Y 4 M' 1746 (lvL E b i) []) : G E Y 4 M 1351 (lvL E b i) [] := by
  obtain ⟨r, M1, M2, s', e1, e2, o', x', m'⟩ := step_bribeSet o M hx hm
  refine g_aload_n C.1 dL_law_1351 rfl rfl ?_
  refine g_callV C.1 (As := []) (n := 0) dL_law_1352 (cE_0 E M 0) (by decide) (T := TX10) (N := 19) rfl (c_X10_bribeSet E e1) ql_L_187 qi_yX10_bribeSet qv_yX10_bribeSet ini_X10 qk_yX10_bribeSet (by decide +kernel) rfl (by decide) (by decide) rfl rfl ?_
  show G E Y 4 M1 1355 (lvL E b i) [.int r]
  refine g_aload_n C.1 dL_law_1355 rfl rfl ?_
  refine g_callV C.1 (As := []) (n := 0) dL_law_1356 (cE_50 E M1 0) (by decide) (T := TX11) (N := 46) rfl (c_X11_bribeSet E e2) ql_L_190 qi_yX11_bribeSet qv_yX11_bribeSet ini_X11 qk_yX11_bribeSet (by decide +kernel) rfl (by decide) (by decide) rfl rfl ?_
  show G E Y 4 M2 1359 (lvL E b i) [.int r, .int r]
  refine g_same (tgt := 1746) C dL_law_1359 (by decide) ?_
  exact kk s' M2 o' x' m'
set_option maxHeartbeats 1000000 in
theorem law_41 {E : wEnv} {Y : YT} {b L : Nat} {xs : Nat → Int32} {M : Mem} {i : Nat} {s : Sy} (C : LC E Y b L xs) (hi : i + 6 ≤ L) (o : OKS s) (hx : RX s M) (hm : RM s M) (kk : ∀ s' M', OKS s' → RX s' M' → RM s' M' → G E Y 4 M' 1746 (lvL E b i) []) : G E Y 4 M 1364 (lvL E b i) [] := by
  obtain ⟨r, M1, M2, s', e1, e2, o', x', m'⟩ := step_strikes o (xs (i + 1)) M hx hm
  refine g_aload_n C.1 dL_law_1364 rfl rfl ?_
  refine g_scr C (k := 1) (by omega) dL_law_1365 dL_law_1366 dL_law_1367 rfl dL_law_1368 dL_law_1369 ?_
  refine g_callV C.1 (As := [.int (xs (i + 1))]) (n := 1) dL_law_1370 (cE_0 E M 0) (by decide) (T := TX10) (N := 19) rfl (c_X10_strikes E e1) ql_L_191 qi_yX10_strikes qv_yX10_strikes ini_X10 qk_yX10_strikes (by decide +kernel) rfl (by decide) (by decide) rfl rfl ?_
  show G E Y 4 M1 1373 (lvL E b i) [.int r]
  refine g_aload_n C.1 dL_law_1373 rfl rfl ?_
  refine g_scr C (k := 1) (by omega) dL_law_1374 dL_law_1375 dL_law_1376 rfl dL_law_1377 dL_law_1378 ?_
  refine g_callV C.1 (As := [.int (xs (i + 1))]) (n := 1) dL_law_1379 (cE_50 E M1 0) (by decide) (T := TX11) (N := 46) rfl (c_X11_strikes E e2) ql_L_194 qi_yX11_strikes qv_yX11_strikes ini_X11 qk_yX11_strikes (by decide +kernel) rfl (by decide) (by decide) rfl rfl ?_
  show G E Y 4 M2 1382 (lvL E b i) [.int r, .int r]
  refine g_same (tgt := 1746) C dL_law_1382 (by decide) ?_
  exact kk s' M2 o' x' m'
set_option maxHeartbeats 1000000 in
theorem law_42 {E : wEnv} {Y : YT} {b L : Nat} {xs : Nat → Int32} {M : Mem} {i : Nat} {s : Sy} (C : LC E Y b L xs) (hi : i + 6 ≤ L) (o : OKS s) (hx : RX s M) (hm : RM s M) (kk : ∀ s' M', OKS s' → RX s' M' → RM s' M' → G E Y 4 M' 1746 (lvL E b i) []) : G E Y 4 M 1387 (lvL E b i) [] := by
  obtain ⟨r, M1, M2, s', e1, e2, o', x', m'⟩ := step_firstStrike o (xs (i + 1)) M hx hm
  refine g_aload_n C.1 dL_law_1387 rfl rfl ?_
  refine g_scr C (k := 1) (by omega) dL_law_1388 dL_law_1389 dL_law_1390 rfl dL_law_1391 dL_law_1392 ?_
  refine g_callV C.1 (As := [.int (xs (i + 1))]) (n := 1) dL_law_1393 (cE_0 E M 0) (by decide) (T := TX10) (N := 19) rfl (c_X10_firstStrike E e1) ql_L_195 qi_yX10_firstStrike qv_yX10_firstStrike ini_X10 qk_yX10_firstStrike (by decide +kernel) rfl (by decide) (by decide) rfl rfl ?_
  show G E Y 4 M1 1396 (lvL E b i) [.int r]
  refine g_aload_n C.1 dL_law_1396 rfl rfl ?_
  refine g_scr C (k := 1) (by omega) dL_law_1397 dL_law_1398 dL_law_1399 rfl dL_law_1400 dL_law_1401 ?_
  refine g_callV C.1 (As := [.int (xs (i + 1))]) (n := 1) dL_law_1402 (cE_50 E M1 0) (by decide) (T := TX11) (N := 46) rfl (c_X11_firstStrike E e2) ql_L_198 qi_yX11_firstStrike qv_yX11_firstStrike ini_X11 qk_yX11_firstStrike (by decide +kernel) rfl (by decide) (by decide) rfl rfl ?_
  show G E Y 4 M2 1405 (lvL E b i) [.int r, .int r]
  refine g_same (tgt := 1746) C dL_law_1405 (by decide) ?_
  exact kk s' M2 o' x' m'
set_option maxHeartbeats 1000000 in
theorem law_43 {E : wEnv} {Y : YT} {b L : Nat} {xs : Nat → Int32} {M : Mem} {i : Nat} {s : Sy} (C : LC E Y b L xs) (hi : i + 6 ≤ L) (o : OKS s) (hx : RX s M) (hm : RM s M) (kk : ∀ s' M', OKS s' → RX s' M' → RM s' M' → G E Y 4 M' 1746 (lvL E b i) []) : G E Y 4 M 1410 (lvL E b i) [] := by
  obtain ⟨r, M1, M2, s', e1, e2, o', x', m'⟩ := step_drawn o (xs (i + 1)) (xs (i + 2)) (xs (i + 3)) M hx hm
  refine g_aload_n C.1 dL_law_1410 rfl rfl ?_
  refine g_scr C (k := 1) (by omega) dL_law_1411 dL_law_1412 dL_law_1413 rfl dL_law_1414 dL_law_1415 ?_
  refine g_scr C (k := 2) (by omega) dL_law_1416 dL_law_1417 dL_law_1418 rfl dL_law_1419 dL_law_1420 ?_
  refine g_scr C (k := 3) (by omega) dL_law_1421 dL_law_1422 dL_law_1423 rfl dL_law_1424 dL_law_1425 ?_
  refine g_callV C.1 (As := [.int (xs (i + 1)), .int (xs (i + 2)), .int (xs (i + 3))]) (n := 3) dL_law_1426 (cE_0 E M 0) (by decide) (T := TX10) (N := 19) rfl (c_X10_drawn E e1) ql_L_199 qi_yX10_drawn qv_yX10_drawn ini_X10 qk_yX10_drawn (by decide +kernel) rfl (by decide) (by decide) rfl rfl ?_
  show G E Y 4 M1 1429 (lvL E b i) [.int r]
  refine g_aload_n C.1 dL_law_1429 rfl rfl ?_
  refine g_scr C (k := 1) (by omega) dL_law_1430 dL_law_1431 dL_law_1432 rfl dL_law_1433 dL_law_1434 ?_
  refine g_scr C (k := 2) (by omega) dL_law_1435 dL_law_1436 dL_law_1437 rfl dL_law_1438 dL_law_1439 ?_
  refine g_scr C (k := 3) (by omega) dL_law_1440 dL_law_1441 dL_law_1442 rfl dL_law_1443 dL_law_1444 ?_
  refine g_callV C.1 (As := [.int (xs (i + 1)), .int (xs (i + 2)), .int (xs (i + 3))]) (n := 3) dL_law_1445 (cE_50 E M1 0) (by decide) (T := TX11) (N := 46) rfl (c_X11_drawn E e2) ql_L_202 qi_yX11_drawn qv_yX11_drawn ini_X11 qk_yX11_drawn (by decide +kernel) rfl (by decide) (by decide) rfl rfl ?_
  show G E Y 4 M2 1448 (lvL E b i) [.int r, .int r]
  refine g_same (tgt := 1746) C dL_law_1448 (by decide) ?_
  exact kk s' M2 o' x' m'
set_option maxHeartbeats 1000000 in
theorem law_44 {E : wEnv} {Y : YT} {b L : Nat} {xs : Nat → Int32} {M : Mem} {i : Nat} {s : Sy} (C : LC E Y b L xs) (hi : i + 6 ≤ L) (o : OKS s) (hx : RX s M) (hm : RM s M) (kk : ∀ s' M', OKS s' → RX s' M' → RM s' M' → G E Y 4 M' 1746 (lvL E b i) []) : G E Y 4 M 1453 (lvL E b i) [] := by
  obtain ⟨r, M1, M2, s', e1, e2, o', x', m'⟩ := step_row o (xs (i + 1)) (xs (i + 2)) M hx hm
  refine g_aload_n C.1 dL_law_1453 rfl rfl ?_
  refine g_scr C (k := 1) (by omega) dL_law_1454 dL_law_1455 dL_law_1456 rfl dL_law_1457 dL_law_1458 ?_
  refine g_scr C (k := 2) (by omega) dL_law_1459 dL_law_1460 dL_law_1461 rfl dL_law_1462 dL_law_1463 ?_
  refine g_callV C.1 (As := [.int (xs (i + 1)), .int (xs (i + 2))]) (n := 2) dL_law_1464 (cE_0 E M 0) (by decide) (T := TX10) (N := 19) rfl (c_X10_row E e1) ql_L_203 qi_yX10_row qv_yX10_row ini_X10 qk_yX10_row (by decide +kernel) rfl (by decide) (by decide) rfl rfl ?_
  show G E Y 4 M1 1467 (lvL E b i) [.int r]
  refine g_aload_n C.1 dL_law_1467 rfl rfl ?_
  refine g_scr C (k := 1) (by omega) dL_law_1468 dL_law_1469 dL_law_1470 rfl dL_law_1471 dL_law_1472 ?_
  refine g_scr C (k := 2) (by omega) dL_law_1473 dL_law_1474 dL_law_1475 rfl dL_law_1476 dL_law_1477 ?_
  refine g_callV C.1 (As := [.int (xs (i + 1)), .int (xs (i + 2))]) (n := 2) dL_law_1478 (cE_50 E M1 0) (by decide) (T := TX11) (N := 46) rfl (c_X11_row E e2) ql_L_206 qi_yX11_row qv_yX11_row ini_X11 qk_yX11_row (by decide +kernel) rfl (by decide) (by decide) rfl rfl ?_
  show G E Y 4 M2 1481 (lvL E b i) [.int r, .int r]
  refine g_same (tgt := 1746) C dL_law_1481 (by decide) ?_
  exact kk s' M2 o' x' m'
set_option maxHeartbeats 1000000 in
theorem law_45 {E : wEnv} {Y : YT} {b L : Nat} {xs : Nat → Int32} {M : Mem} {i : Nat} {s : Sy} (C : LC E Y b L xs) (hi : i + 6 ≤ L) (o : OKS s) (hx : RX s M) (hm : RM s M) (kk : ∀ s' M', OKS s' → RX s' M' → RM s' M' → G E Y 4 M' 1746 (lvL E b i) []) : G E Y 4 M 1486 (lvL E b i) [] := by
  obtain ⟨r, M1, M2, s', e1, e2, o', x', m'⟩ := step_rowGrows o (xs (i + 1)) (xs (i + 2)) (xs (i + 3)) M hx hm
  refine g_aload_n C.1 dL_law_1486 rfl rfl ?_
  refine g_scr C (k := 1) (by omega) dL_law_1487 dL_law_1488 dL_law_1489 rfl dL_law_1490 dL_law_1491 ?_
  refine g_scr C (k := 2) (by omega) dL_law_1492 dL_law_1493 dL_law_1494 rfl dL_law_1495 dL_law_1496 ?_
  refine g_scr C (k := 3) (by omega) dL_law_1497 dL_law_1498 dL_law_1499 rfl dL_law_1500 dL_law_1501 ?_
  refine g_callV C.1 (As := [.int (xs (i + 1)), .int (xs (i + 2)), .int (xs (i + 3))]) (n := 3) dL_law_1502 (cE_0 E M 0) (by decide) (T := TX10) (N := 19) rfl (c_X10_rowGrows E e1) ql_L_207 qi_yX10_rowGrows qv_yX10_rowGrows ini_X10 qk_yX10_rowGrows (by decide +kernel) rfl (by decide) (by decide) rfl rfl ?_
  show G E Y 4 M1 1505 (lvL E b i) [.int r]
  refine g_aload_n C.1 dL_law_1505 rfl rfl ?_
  refine g_scr C (k := 1) (by omega) dL_law_1506 dL_law_1507 dL_law_1508 rfl dL_law_1509 dL_law_1510 ?_
  refine g_scr C (k := 2) (by omega) dL_law_1511 dL_law_1512 dL_law_1513 rfl dL_law_1514 dL_law_1515 ?_
  refine g_scr C (k := 3) (by omega) dL_law_1516 dL_law_1517 dL_law_1518 rfl dL_law_1519 dL_law_1520 ?_
  refine g_callV C.1 (As := [.int (xs (i + 1)), .int (xs (i + 2)), .int (xs (i + 3))]) (n := 3) dL_law_1521 (cE_50 E M1 0) (by decide) (T := TX11) (N := 46) rfl (c_X11_rowGrows E e2) ql_L_210 qi_yX11_rowGrows qv_yX11_rowGrows ini_X11 qk_yX11_rowGrows (by decide +kernel) rfl (by decide) (by decide) rfl rfl ?_
  show G E Y 4 M2 1524 (lvL E b i) [.int r, .int r]
  refine g_same (tgt := 1746) C dL_law_1524 (by decide) ?_
  exact kk s' M2 o' x' m'
set_option maxHeartbeats 1000000 in
theorem law_46 {E : wEnv} {Y : YT} {b L : Nat} {xs : Nat → Int32} {M : Mem} {i : Nat} {s : Sy} (C : LC E Y b L xs) (hi : i + 6 ≤ L) (o : OKS s) (hx : RX s M) (hm : RM s M) (kk : ∀ s' M', OKS s' → RX s' M' → RM s' M' → G E Y 4 M' 1746 (lvL E b i) []) : G E Y 4 M 1529 (lvL E b i) [] := by
  obtain ⟨r, M1, M2, s', e1, e2, o', x', m'⟩ := step_way o (xs (i + 1)) M hx hm
  refine g_aload_n C.1 dL_law_1529 rfl rfl ?_
  refine g_scr C (k := 1) (by omega) dL_law_1530 dL_law_1531 dL_law_1532 rfl dL_law_1533 dL_law_1534 ?_
  refine g_callV C.1 (As := [.int (xs (i + 1))]) (n := 1) dL_law_1535 (cE_0 E M 0) (by decide) (T := TX10) (N := 19) rfl (c_X10_way E e1) ql_L_211 qi_yX10_way qv_yX10_way ini_X10 qk_yX10_way (by decide +kernel) rfl (by decide) (by decide) rfl rfl ?_
  show G E Y 4 M1 1538 (lvL E b i) [.int r]
  refine g_aload_n C.1 dL_law_1538 rfl rfl ?_
  refine g_scr C (k := 1) (by omega) dL_law_1539 dL_law_1540 dL_law_1541 rfl dL_law_1542 dL_law_1543 ?_
  refine g_callV C.1 (As := [.int (xs (i + 1))]) (n := 1) dL_law_1544 (cE_50 E M1 0) (by decide) (T := TX11) (N := 46) rfl (c_X11_way E e2) ql_L_214 qi_yX11_way qv_yX11_way ini_X11 qk_yX11_way (by decide +kernel) rfl (by decide) (by decide) rfl rfl ?_
  show G E Y 4 M2 1547 (lvL E b i) [.int r, .int r]
  refine g_same (tgt := 1746) C dL_law_1547 (by decide) ?_
  exact kk s' M2 o' x' m'
set_option maxHeartbeats 1000000 in
theorem law_47 {E : wEnv} {Y : YT} {b L : Nat} {xs : Nat → Int32} {M : Mem} {i : Nat} {s : Sy} (C : LC E Y b L xs) (hi : i + 6 ≤ L) (o : OKS s) (hx : RX s M) (hm : RM s M) (kk : ∀ s' M', OKS s' → RX s' M' → RM s' M' → G E Y 4 M' 1746 (lvL E b i) []) : G E Y 4 M 1552 (lvL E b i) [] := by
  obtain ⟨r, M1, M2, s', e1, e2, o', x', m'⟩ := step_harvest o (xs (i + 1)) (xs (i + 2)) M hx hm
  refine g_aload_n C.1 dL_law_1552 rfl rfl ?_
  refine g_scr C (k := 1) (by omega) dL_law_1553 dL_law_1554 dL_law_1555 rfl dL_law_1556 dL_law_1557 ?_
  refine g_scr C (k := 2) (by omega) dL_law_1558 dL_law_1559 dL_law_1560 rfl dL_law_1561 dL_law_1562 ?_
  refine g_callV C.1 (As := [.int (xs (i + 1)), .int (xs (i + 2))]) (n := 2) dL_law_1563 (cE_0 E M 0) (by decide) (T := TX10) (N := 19) rfl (c_X10_harvest E e1) ql_L_215 qi_yX10_harvest qv_yX10_harvest ini_X10 qk_yX10_harvest (by decide +kernel) rfl (by decide) (by decide) rfl rfl ?_
  show G E Y 4 M1 1566 (lvL E b i) [.int r]
  refine g_aload_n C.1 dL_law_1566 rfl rfl ?_
  refine g_scr C (k := 1) (by omega) dL_law_1567 dL_law_1568 dL_law_1569 rfl dL_law_1570 dL_law_1571 ?_
  refine g_scr C (k := 2) (by omega) dL_law_1572 dL_law_1573 dL_law_1574 rfl dL_law_1575 dL_law_1576 ?_
  refine g_callV C.1 (As := [.int (xs (i + 1)), .int (xs (i + 2))]) (n := 2) dL_law_1577 (cE_50 E M1 0) (by decide) (T := TX11) (N := 46) rfl (c_X11_harvest E e2) ql_L_218 qi_yX11_harvest qv_yX11_harvest ini_X11 qk_yX11_harvest (by decide +kernel) rfl (by decide) (by decide) rfl rfl ?_
  show G E Y 4 M2 1580 (lvL E b i) [.int r, .int r]
  refine g_same (tgt := 1746) C dL_law_1580 (by decide) ?_
  exact kk s' M2 o' x' m'
set_option maxHeartbeats 1000000 in
theorem law_48 {E : wEnv} {Y : YT} {b L : Nat} {xs : Nat → Int32} {M : Mem} {i : Nat} {s : Sy} (C : LC E Y b L xs) (hi : i + 6 ≤ L) (o : OKS s) (hx : RX s M) (hm : RM s M) (kk : ∀ s' M', OKS s' → RX s' M' → RM s' M' → G E Y 4 M' 1746 (lvL E b i) []) : G E Y 4 M 1585 (lvL E b i) [] := by
  obtain ⟨r, M1, M2, s', e1, e2, o', x', m'⟩ := step_harvestNow o (xs (i + 1)) (xs (i + 2)) M hx hm
  refine g_aload_n C.1 dL_law_1585 rfl rfl ?_
  refine g_scr C (k := 1) (by omega) dL_law_1586 dL_law_1587 dL_law_1588 rfl dL_law_1589 dL_law_1590 ?_
  refine g_scr C (k := 2) (by omega) dL_law_1591 dL_law_1592 dL_law_1593 rfl dL_law_1594 dL_law_1595 ?_
  refine g_callV C.1 (As := [.int (xs (i + 1)), .int (xs (i + 2))]) (n := 2) dL_law_1596 (cE_0 E M 0) (by decide) (T := TX10) (N := 19) rfl (c_X10_harvestNow E e1) ql_L_219 qi_yX10_harvestNow qv_yX10_harvestNow ini_X10 qk_yX10_harvestNow (by decide +kernel) rfl (by decide) (by decide) rfl rfl ?_
  show G E Y 4 M1 1599 (lvL E b i) [.int r]
  refine g_aload_n C.1 dL_law_1599 rfl rfl ?_
  refine g_scr C (k := 1) (by omega) dL_law_1600 dL_law_1601 dL_law_1602 rfl dL_law_1603 dL_law_1604 ?_
  refine g_scr C (k := 2) (by omega) dL_law_1605 dL_law_1606 dL_law_1607 rfl dL_law_1608 dL_law_1609 ?_
  refine g_callV C.1 (As := [.int (xs (i + 1)), .int (xs (i + 2))]) (n := 2) dL_law_1610 (cE_50 E M1 0) (by decide) (T := TX11) (N := 46) rfl (c_X11_harvestNow E e2) ql_L_222 qi_yX11_harvestNow qv_yX11_harvestNow ini_X11 qk_yX11_harvestNow (by decide +kernel) rfl (by decide) (by decide) rfl rfl ?_
  show G E Y 4 M2 1613 (lvL E b i) [.int r, .int r]
  refine g_same (tgt := 1746) C dL_law_1613 (by decide) ?_
  exact kk s' M2 o' x' m'
set_option maxHeartbeats 1000000 in
theorem law_49 {E : wEnv} {Y : YT} {b L : Nat} {xs : Nat → Int32} {M : Mem} {i : Nat} {s : Sy} (C : LC E Y b L xs) (hi : i + 6 ≤ L) (o : OKS s) (hx : RX s M) (hm : RM s M) (kk : ∀ s' M', OKS s' → RX s' M' → RM s' M' → G E Y 4 M' 1746 (lvL E b i) []) : G E Y 4 M 1618 (lvL E b i) [] := by
  obtain ⟨r, M1, M2, s', e1, e2, o', x', m'⟩ := step_reach o M hx hm
  refine g_aload_n C.1 dL_law_1618 rfl rfl ?_
  refine g_callV C.1 (As := []) (n := 0) dL_law_1619 (cE_0 E M 0) (by decide) (T := TX10) (N := 19) rfl (c_X10_reach E e1) ql_L_223 qi_yX10_reach qv_yX10_reach ini_X10 qk_yX10_reach (by decide +kernel) rfl (by decide) (by decide) rfl rfl ?_
  show G E Y 4 M1 1622 (lvL E b i) [.int r]
  refine g_aload_n C.1 dL_law_1622 rfl rfl ?_
  refine g_callV C.1 (As := []) (n := 0) dL_law_1623 (cE_50 E M1 0) (by decide) (T := TX11) (N := 46) rfl (c_X11_reach E e2) ql_L_226 qi_yX11_reach qv_yX11_reach ini_X11 qk_yX11_reach (by decide +kernel) rfl (by decide) (by decide) rfl rfl ?_
  show G E Y 4 M2 1626 (lvL E b i) [.int r, .int r]
  refine g_same (tgt := 1746) C dL_law_1626 (by decide) ?_
  exact kk s' M2 o' x' m'
set_option maxHeartbeats 1000000 in
theorem law_50 {E : wEnv} {Y : YT} {b L : Nat} {xs : Nat → Int32} {M : Mem} {i : Nat} {s : Sy} (C : LC E Y b L xs) (hi : i + 6 ≤ L) (o : OKS s) (hx : RX s M) (hm : RM s M) (kk : ∀ s' M', OKS s' → RX s' M' → RM s' M' → G E Y 4 M' 1746 (lvL E b i) []) : G E Y 4 M 1631 (lvL E b i) [] := by
  obtain ⟨r, M1, M2, s', e1, e2, o', x', m'⟩ := step_live o (xs (i + 1)) M hx hm
  refine g_aload_n C.1 dL_law_1631 rfl rfl ?_
  refine g_scr C (k := 1) (by omega) dL_law_1632 dL_law_1633 dL_law_1634 rfl dL_law_1635 dL_law_1636 ?_
  refine g_callV C.1 (As := [.int (xs (i + 1))]) (n := 1) dL_law_1637 (cE_0 E M 0) (by decide) (T := TX10) (N := 19) rfl (c_X10_live E e1) ql_L_227 qi_yX10_live qv_yX10_live ini_X10 qk_yX10_live (by decide +kernel) rfl (by decide) (by decide) rfl rfl ?_
  show G E Y 4 M1 1640 (lvL E b i) [.int r]
  refine g_aload_n C.1 dL_law_1640 rfl rfl ?_
  refine g_scr C (k := 1) (by omega) dL_law_1641 dL_law_1642 dL_law_1643 rfl dL_law_1644 dL_law_1645 ?_
  refine g_callV C.1 (As := [.int (xs (i + 1))]) (n := 1) dL_law_1646 (cE_50 E M1 0) (by decide) (T := TX11) (N := 46) rfl (c_X11_live E e2) ql_L_230 qi_yX11_live qv_yX11_live ini_X11 qk_yX11_live (by decide +kernel) rfl (by decide) (by decide) rfl rfl ?_
  show G E Y 4 M2 1649 (lvL E b i) [.int r, .int r]
  refine g_same (tgt := 1746) C dL_law_1649 (by decide) ?_
  exact kk s' M2 o' x' m'
set_option maxHeartbeats 1000000 in
theorem law_51 {E : wEnv} {Y : YT} {b L : Nat} {xs : Nat → Int32} {M : Mem} {i : Nat} {s : Sy} (C : LC E Y b L xs) (hi : i + 6 ≤ L) (o : OKS s) (hx : RX s M) (hm : RM s M) (kk : ∀ s' M', OKS s' → RX s' M' → RM s' M' → G E Y 4 M' 1746 (lvL E b i) []) : G E Y 4 M 1654 (lvL E b i) [] := by
  obtain ⟨r, M1, M2, s', e1, e2, o', x', m'⟩ := step_lived o (xs (i + 1)) M hx hm
  refine g_aload_n C.1 dL_law_1654 rfl rfl ?_
  refine g_scr C (k := 1) (by omega) dL_law_1655 dL_law_1656 dL_law_1657 rfl dL_law_1658 dL_law_1659 ?_
  refine g_callV C.1 (As := [.int (xs (i + 1))]) (n := 1) dL_law_1660 (cE_0 E M 0) (by decide) (T := TX10) (N := 19) rfl (c_X10_lived E e1) ql_L_231 qi_yX10_lived qv_yX10_lived ini_X10 qk_yX10_lived (by decide +kernel) rfl (by decide) (by decide) rfl rfl ?_
  show G E Y 4 M1 1663 (lvL E b i) [.int r]
  refine g_aload_n C.1 dL_law_1663 rfl rfl ?_
  refine g_scr C (k := 1) (by omega) dL_law_1664 dL_law_1665 dL_law_1666 rfl dL_law_1667 dL_law_1668 ?_
  refine g_callV C.1 (As := [.int (xs (i + 1))]) (n := 1) dL_law_1669 (cE_50 E M1 0) (by decide) (T := TX11) (N := 46) rfl (c_X11_lived E e2) ql_L_234 qi_yX11_lived qv_yX11_lived ini_X11 qk_yX11_lived (by decide +kernel) rfl (by decide) (by decide) rfl rfl ?_
  show G E Y 4 M2 1672 (lvL E b i) [.int r, .int r]
  refine g_same (tgt := 1746) C dL_law_1672 (by decide) ?_
  exact kk s' M2 o' x' m'
set_option maxHeartbeats 1000000 in
theorem law_52 {E : wEnv} {Y : YT} {b L : Nat} {xs : Nat → Int32} {M : Mem} {i : Nat} {s : Sy} (C : LC E Y b L xs) (hi : i + 6 ≤ L) (o : OKS s) (hx : RX s M) (hm : RM s M) (kk : ∀ s' M', OKS s' → RX s' M' → RM s' M' → G E Y 4 M' 1746 (lvL E b i) []) : G E Y 4 M 1677 (lvL E b i) [] := by
  obtain ⟨r, M1, M2, s', e1, e2, o', x', m'⟩ := step_mean o (xs (i + 1)) (xs (i + 2)) (xs (i + 3)) M hx hm
  refine g_aload_n C.1 dL_law_1677 rfl rfl ?_
  refine g_scr C (k := 1) (by omega) dL_law_1678 dL_law_1679 dL_law_1680 rfl dL_law_1681 dL_law_1682 ?_
  refine g_scr C (k := 2) (by omega) dL_law_1683 dL_law_1684 dL_law_1685 rfl dL_law_1686 dL_law_1687 ?_
  refine g_scr C (k := 3) (by omega) dL_law_1688 dL_law_1689 dL_law_1690 rfl dL_law_1691 dL_law_1692 ?_
  refine g_callV C.1 (As := [.int (xs (i + 1)), .int (xs (i + 2)), .int (xs (i + 3))]) (n := 3) dL_law_1693 (cE_0 E M 0) (by decide) (T := TX10) (N := 19) rfl (c_X10_mean E e1) ql_L_235 qi_yX10_mean qv_yX10_mean ini_X10 qk_yX10_mean (by decide +kernel) rfl (by decide) (by decide) rfl rfl ?_
  show G E Y 4 M1 1696 (lvL E b i) [.int r]
  refine g_aload_n C.1 dL_law_1696 rfl rfl ?_
  refine g_scr C (k := 1) (by omega) dL_law_1697 dL_law_1698 dL_law_1699 rfl dL_law_1700 dL_law_1701 ?_
  refine g_scr C (k := 2) (by omega) dL_law_1702 dL_law_1703 dL_law_1704 rfl dL_law_1705 dL_law_1706 ?_
  refine g_scr C (k := 3) (by omega) dL_law_1707 dL_law_1708 dL_law_1709 rfl dL_law_1710 dL_law_1711 ?_
  refine g_callV C.1 (As := [.int (xs (i + 1)), .int (xs (i + 2)), .int (xs (i + 3))]) (n := 3) dL_law_1712 (cE_50 E M1 0) (by decide) (T := TX11) (N := 46) rfl (c_X11_mean E e2) ql_L_238 qi_yX11_mean qv_yX11_mean ini_X11 qk_yX11_mean (by decide +kernel) rfl (by decide) (by decide) rfl rfl ?_
  show G E Y 4 M2 1715 (lvL E b i) [.int r, .int r]
  refine g_same (tgt := 1746) C dL_law_1715 (by decide) ?_
  exact kk s' M2 o' x' m'
set_option maxHeartbeats 1000000 in
theorem law_53 {E : wEnv} {Y : YT} {b L : Nat} {xs : Nat → Int32} {M : Mem} {i : Nat} {s : Sy} (C : LC E Y b L xs) (hi : i + 6 ≤ L) (o : OKS s) (hx : RX s M) (hm : RM s M) (kk : ∀ s' M', OKS s' → RX s' M' → RM s' M' → G E Y 4 M' 1746 (lvL E b i) []) : G E Y 4 M 1720 (lvL E b i) [] := by
  obtain ⟨r, M1, M2, s', e1, e2, o', x', m'⟩ := step_mark o M hx hm
  refine g_aload_n C.1 dL_law_1720 rfl rfl ?_
  refine g_callV C.1 (As := []) (n := 0) dL_law_1721 (cE_0 E M 0) (by decide) (T := TX10) (N := 19) rfl (c_X10_mark E e1) ql_L_239 qi_yX10_mark qv_yX10_mark ini_X10 qk_yX10_mark (by decide +kernel) rfl (by decide) (by decide) rfl rfl ?_
  show G E Y 4 M1 1724 (lvL E b i) [.int r]
  refine g_aload_n C.1 dL_law_1724 rfl rfl ?_
  refine g_callV C.1 (As := []) (n := 0) dL_law_1725 (cE_50 E M1 0) (by decide) (T := TX11) (N := 46) rfl (c_X11_mark E e2) ql_L_242 qi_yX11_mark qv_yX11_mark ini_X11 qk_yX11_mark (by decide +kernel) rfl (by decide) (by decide) rfl rfl ?_
  show G E Y 4 M2 1728 (lvL E b i) [.int r, .int r]
  refine g_same (tgt := 1746) C dL_law_1728 (by decide) ?_
  exact kk s' M2 o' x' m'
set_option maxHeartbeats 1000000 in
theorem law_54 {E : wEnv} {Y : YT} {b L : Nat} {xs : Nat → Int32} {M : Mem} {i : Nat} {s : Sy} (C : LC E Y b L xs) (hi : i + 6 ≤ L) (o : OKS s) (hx : RX s M) (hm : RM s M) (kk : ∀ s' M', OKS s' → RX s' M' → RM s' M' → G E Y 4 M' 1746 (lvL E b i) []) : G E Y 4 M 1733 (lvL E b i) [] := by
  obtain ⟨r, M1, M2, s', e1, e2, o', x', m'⟩ := step_back o M hx hm
  refine g_aload_n C.1 dL_law_1733 rfl rfl ?_
  refine g_callV C.1 (As := []) (n := 0) dL_law_1734 (cE_0 E M 0) (by decide) (T := TX10) (N := 19) rfl (c_X10_back E e1) ql_L_243 qi_yX10_back qv_yX10_back ini_X10 qk_yX10_back (by decide +kernel) rfl (by decide) (by decide) rfl rfl ?_
  show G E Y 4 M1 1737 (lvL E b i) [.int r]
  refine g_aload_n C.1 dL_law_1737 rfl rfl ?_
  refine g_callV C.1 (As := []) (n := 0) dL_law_1738 (cE_50 E M1 0) (by decide) (T := TX11) (N := 46) rfl (c_X11_back E e2) ql_L_246 qi_yX11_back qv_yX11_back ini_X11 qk_yX11_back (by decide +kernel) rfl (by decide) (by decide) rfl rfl ?_
  show G E Y 4 M2 1741 (lvL E b i) [.int r, .int r]
  refine g_same (tgt := 1746) C dL_law_1741 (by decide) ?_
  exact kk s' M2 o' x' m'
set_option maxHeartbeats 1000000 in
theorem law_sw {E : wEnv} {Y : YT} {b L : Nat} {xs : Nat → Int32} {M : Mem} {i : Nat} {s : Sy} (C : LC E Y b L xs) (hi : i + 6 ≤ L) (o : OKS s) (hx : RX s M) (hm : RM s M) (kk : ∀ s' M', OKS s' → RX s' M' → RM s' M' → G E Y 4 M' 1746 (lvL E b i) []) : G E Y 4 M 27 (lvL E b i) [] := by
  have hL := C.2.2.2.2
  refine g_aload_n C.1 dL_law_27 rfl rfl ?_
  refine g_iload_n C.1 dL_law_28 rfl rfl ?_
  suffices h29 : G E Y 4 M 30 (lvL E b i) [.int (xs i)] by
    intro H locs ls hW hS hl
    refine va_sld C.1.1 C.1.2.1 C.2.1 C.2.2.1 C.2.2.2.1 hS (vp_in_nI (show i < L by omega) (by omega)) dL_law_29 ?_
    rw [nI_clamp (by omega)]
    exact h29 H locs ls hW hS hl
  refine g_bipush (v := 63) C.1 dL_law_30 (by decide) ?_
  refine g_iand C.1 dL_law_32 ?_
  obtain ⟨k, hk, e⟩ := and63 (xs i)
  by_cases h54 : 54 < k
  · refine g_tsw0 (tgt := 1746) C dL_law_33 (Or.inr (by rw [e]; omega)) (by decide) ?_
    exact kk s M o hx hm
  · have h1 : ¬ (xs i &&& 63).toInt < 0 := by rw [e]; omega
    have h2 : ¬ 54 < (xs i &&& 63).toInt := by rw [e]; omega
    have hk : k < 55 := by omega
    match k, hk, e with
    | 0, _, e => exact g_tsw (off := 235) (tgt := 268) C dL_law_33 h1 h2 (by rw [e]; rfl) (by decide) (law_0 C hi o hx hm kk)
    | 1, _, e => exact g_tsw (off := 248) (tgt := 281) C dL_law_33 h1 h2 (by rw [e]; rfl) (by decide) (law_1 C hi o hx hm kk)
    | 2, _, e => exact g_tsw (off := 262) (tgt := 295) C dL_law_33 h1 h2 (by rw [e]; rfl) (by decide) (law_2 C hi o hx hm kk)
    | 3, _, e => exact g_tsw (off := 276) (tgt := 309) C dL_law_33 h1 h2 (by rw [e]; rfl) (by decide) (law_3 C hi o hx hm kk)
    | 4, _, e => exact g_tsw (off := 319) (tgt := 352) C dL_law_33 h1 h2 (by rw [e]; rfl) (by decide) (law_4 C hi o hx hm kk)
    | 5, _, e => exact g_tsw (off := 392) (tgt := 425) C dL_law_33 h1 h2 (by rw [e]; rfl) (by decide) (law_5 C hi o hx hm kk)
    | 6, _, e => exact g_tsw (off := 426) (tgt := 459) C dL_law_33 h1 h2 (by rw [e]; rfl) (by decide) (law_6 C hi o hx hm kk)
    | 7, _, e => exact g_tsw (off := 489) (tgt := 522) C dL_law_33 h1 h2 (by rw [e]; rfl) (by decide) (law_7 C hi o hx hm kk)
    | 8, _, e => exact g_tsw (off := 552) (tgt := 585) C dL_law_33 h1 h2 (by rw [e]; rfl) (by decide) (law_8 C hi o hx hm kk)
    | 9, _, e => exact g_tsw (off := 575) (tgt := 608) C dL_law_33 h1 h2 (by rw [e]; rfl) (by decide) (law_9 C hi o hx hm kk)
    | 10, _, e => exact g_tsw (off := 598) (tgt := 631) C dL_law_33 h1 h2 (by rw [e]; rfl) (by decide) (law_10 C hi o hx hm kk)
    | 11, _, e => exact g_tsw (off := 621) (tgt := 654) C dL_law_33 h1 h2 (by rw [e]; rfl) (by decide) (law_11 C hi o hx hm kk)
    | 12, _, e => exact g_tsw (off := 644) (tgt := 677) C dL_law_33 h1 h2 (by rw [e]; rfl) (by decide) (law_12 C hi o hx hm kk)
    | 13, _, e => exact g_tsw (off := 677) (tgt := 710) C dL_law_33 h1 h2 (by rw [e]; rfl) (by decide) (law_13 C hi o hx hm kk)
    | 14, _, e => exact g_tsw (off := 710) (tgt := 743) C dL_law_33 h1 h2 (by rw [e]; rfl) (by decide) (law_14 C hi o hx hm kk)
    | 15, _, e => exact g_tsw (off := 733) (tgt := 766) C dL_law_33 h1 h2 (by rw [e]; rfl) (by decide) (law_15 C hi o hx hm kk)
    | 16, _, e => exact g_tsw (off := 766) (tgt := 799) C dL_law_33 h1 h2 (by rw [e]; rfl) (by decide) (law_16 C hi o hx hm kk)
    | 17, _, e => exact g_tsw (off := 799) (tgt := 832) C dL_law_33 h1 h2 (by rw [e]; rfl) (by decide) (law_17 C hi o hx hm kk)
    | 18, _, e => exact g_tsw (off := 822) (tgt := 855) C dL_law_33 h1 h2 (by rw [e]; rfl) (by decide) (law_18 C hi o hx hm kk)
    | 19, _, e => exact g_tsw (off := 845) (tgt := 878) C dL_law_33 h1 h2 (by rw [e]; rfl) (by decide) (law_19 C hi o hx hm kk)
    | 20, _, e => exact g_tsw (off := 868) (tgt := 901) C dL_law_33 h1 h2 (by rw [e]; rfl) (by decide) (law_20 C hi o hx hm kk)
    | 21, _, e => exact g_tsw (off := 891) (tgt := 924) C dL_law_33 h1 h2 (by rw [e]; rfl) (by decide) (law_21 C hi o hx hm kk)
    | 22, _, e => exact g_tsw (off := 904) (tgt := 937) C dL_law_33 h1 h2 (by rw [e]; rfl) (by decide) (law_22 C hi o hx hm kk)
    | 23, _, e => exact g_tsw (off := 927) (tgt := 960) C dL_law_33 h1 h2 (by rw [e]; rfl) (by decide) (law_23 C hi o hx hm kk)
    | 24, _, e => exact g_tsw (off := 950) (tgt := 983) C dL_law_33 h1 h2 (by rw [e]; rfl) (by decide) (law_24 C hi o hx hm kk)
    | 25, _, e => exact g_tsw (off := 983) (tgt := 1016) C dL_law_33 h1 h2 (by rw [e]; rfl) (by decide) (law_25 C hi o hx hm kk)
    | 26, _, e => exact g_tsw (off := 1016) (tgt := 1049) C dL_law_33 h1 h2 (by rw [e]; rfl) (by decide) (law_26 C hi o hx hm kk)
    | 27, _, e => exact g_tsw (off := 1039) (tgt := 1072) C dL_law_33 h1 h2 (by rw [e]; rfl) (by decide) (law_27 C hi o hx hm kk)
    | 28, _, e => exact g_tsw (off := 1052) (tgt := 1085) C dL_law_33 h1 h2 (by rw [e]; rfl) (by decide) (law_28 C hi o hx hm kk)
    | 29, _, e => exact g_tsw (off := 1075) (tgt := 1108) C dL_law_33 h1 h2 (by rw [e]; rfl) (by decide) (law_29 C hi o hx hm kk)
    | 30, _, e => exact g_tsw (off := 1088) (tgt := 1121) C dL_law_33 h1 h2 (by rw [e]; rfl) (by decide) (law_30 C hi o hx hm kk)
    | 31, _, e => exact g_tsw (off := 1101) (tgt := 1134) C dL_law_33 h1 h2 (by rw [e]; rfl) (by decide) (law_31 C hi o hx hm kk)
    | 32, _, e => exact g_tsw (off := 1114) (tgt := 1147) C dL_law_33 h1 h2 (by rw [e]; rfl) (by decide) (law_32 C hi o hx hm kk)
    | 33, _, e => exact g_tsw (off := 1137) (tgt := 1170) C dL_law_33 h1 h2 (by rw [e]; rfl) (by decide) (law_33 C hi o hx hm kk)
    | 34, _, e => exact g_tsw (off := 1160) (tgt := 1193) C dL_law_33 h1 h2 (by rw [e]; rfl) (by decide) (law_34 C hi o hx hm kk)
    | 35, _, e => exact g_tsw (off := 1183) (tgt := 1216) C dL_law_33 h1 h2 (by rw [e]; rfl) (by decide) (law_35 C hi o hx hm kk)
    | 36, _, e => exact g_tsw (off := 1206) (tgt := 1239) C dL_law_33 h1 h2 (by rw [e]; rfl) (by decide) (law_36 C hi o hx hm kk)
    | 37, _, e => exact g_tsw (off := 1229) (tgt := 1262) C dL_law_33 h1 h2 (by rw [e]; rfl) (by decide) (law_37 C hi o hx hm kk)
    | 38, _, e => exact g_tsw (off := 1252) (tgt := 1285) C dL_law_33 h1 h2 (by rw [e]; rfl) (by decide) (law_38 C hi o hx hm kk)
    | 39, _, e => exact g_tsw (off := 1275) (tgt := 1308) C dL_law_33 h1 h2 (by rw [e]; rfl) (by decide) (law_39 C hi o hx hm kk)
    | 40, _, e => exact g_tsw (off := 1318) (tgt := 1351) C dL_law_33 h1 h2 (by rw [e]; rfl) (by decide) (law_40 C hi o hx hm kk)
    | 41, _, e => exact g_tsw (off := 1331) (tgt := 1364) C dL_law_33 h1 h2 (by rw [e]; rfl) (by decide) (law_41 C hi o hx hm kk)
    | 42, _, e => exact g_tsw (off := 1354) (tgt := 1387) C dL_law_33 h1 h2 (by rw [e]; rfl) (by decide) (law_42 C hi o hx hm kk)
    | 43, _, e => exact g_tsw (off := 1377) (tgt := 1410) C dL_law_33 h1 h2 (by rw [e]; rfl) (by decide) (law_43 C hi o hx hm kk)
    | 44, _, e => exact g_tsw (off := 1420) (tgt := 1453) C dL_law_33 h1 h2 (by rw [e]; rfl) (by decide) (law_44 C hi o hx hm kk)
    | 45, _, e => exact g_tsw (off := 1453) (tgt := 1486) C dL_law_33 h1 h2 (by rw [e]; rfl) (by decide) (law_45 C hi o hx hm kk)
    | 46, _, e => exact g_tsw (off := 1496) (tgt := 1529) C dL_law_33 h1 h2 (by rw [e]; rfl) (by decide) (law_46 C hi o hx hm kk)
    | 47, _, e => exact g_tsw (off := 1519) (tgt := 1552) C dL_law_33 h1 h2 (by rw [e]; rfl) (by decide) (law_47 C hi o hx hm kk)
    | 48, _, e => exact g_tsw (off := 1552) (tgt := 1585) C dL_law_33 h1 h2 (by rw [e]; rfl) (by decide) (law_48 C hi o hx hm kk)
    | 49, _, e => exact g_tsw (off := 1585) (tgt := 1618) C dL_law_33 h1 h2 (by rw [e]; rfl) (by decide) (law_49 C hi o hx hm kk)
    | 50, _, e => exact g_tsw (off := 1598) (tgt := 1631) C dL_law_33 h1 h2 (by rw [e]; rfl) (by decide) (law_50 C hi o hx hm kk)
    | 51, _, e => exact g_tsw (off := 1621) (tgt := 1654) C dL_law_33 h1 h2 (by rw [e]; rfl) (by decide) (law_51 C hi o hx hm kk)
    | 52, _, e => exact g_tsw (off := 1644) (tgt := 1677) C dL_law_33 h1 h2 (by rw [e]; rfl) (by decide) (law_52 C hi o hx hm kk)
    | 53, _, e => exact g_tsw (off := 1687) (tgt := 1720) C dL_law_33 h1 h2 (by rw [e]; rfl) (by decide) (law_53 C hi o hx hm kk)
    | 54, _, e => exact g_tsw (off := 1700) (tgt := 1733) C dL_law_33 h1 h2 (by rw [e]; rfl) (by decide) (law_54 C hi o hx hm kk)
    | k + 55, hk, e => exact absurd hk (by omega)
theorem law_loop {E : wEnv} {Y : YT} {b L : Nat} {xs : Nat → Int32} (C : LC E Y b L xs) (kend : ∀ M i, G E Y 4 M 1752 (lvL E b i) []) : ∀ n i s M, L < i + n → i ≤ L → OKS s → RX s M → RM s M → G E Y 4 M 18 (lvL E b i) [] := by
  have hL := C.2.2.2.2
  intro n
  induction n with
  | zero => intro i s M h1 h2; omega
  | succ n ih =>
    intro i s M h1 h2 o hx hm
    refine g_iload_n C.1 dL_law_18 rfl rfl ?_
    refine g_aload_n C.1 dL_law_19 rfl rfl ?_
    suffices h20 : G E Y 4 M 21 (lvL E b i) [.int (nI L), .int (nI i)] by
      intro H locs ls hW hS hl
      exact va_slen C.1.1 C.1.2.1 C.2.1 C.2.2.1 C.2.2.2.1 hS dL_law_20 (h20 H locs ls hW hS hl)
    refine g_bipush (v := 6) C.1 dL_law_21 (by decide) ?_
    refine g_isub C.1 dL_law_23 ?_
    by_cases c : i + 6 ≤ L
    · suffices h27 : G E Y 4 M 27 (lvL E b i) [] by
        intro H locs ls hW hS hl
        exact lv_icmp_gt (tgt := 1752) C.1.1 C.1.2.1 dL_law_24 (by decide) (fun q => absurd c ((cmp_L hL h2).mp q)) (fun _ => h27 H locs ls hW hS hl)
      refine law_sw C c o hx hm (fun s' M' o' x' m' => ?_)
      refine g_iinc (w := nI 6) C.1 dL_law_1746 rfl rfl rfl ?_
      refine g_goto (tgt := 18) C.1 dL_law_1749 (by decide) ?_
      refine g_sub (ih (i + 6) s' M' (by omega) c o' x' m') ⟨?_, rfl, rfl, rfl, trivial⟩
      show some (Value.int (nI i + nI 6)) = some (.int (nI (i + 6)))
      rw [add_nI]
    · intro H locs ls hW hS hl
      exact lv_icmp_gt (tgt := 1752) C.1.1 C.1.2.1 dL_law_24 (by decide) (fun _ => kend M i H locs ls hW hS hl) (fun q => absurd ((cmp_L hL h2).mpr c) q)
