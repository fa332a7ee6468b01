/-! THE LAW'S WALK: its cases 0 to 28 (laid by wip/gen/lawgen.py) -/
theorem lcase_0 {Γ : LCtx} {κ ρ : Mem} (hC : lC Γ) {G : Gm} {H : Nat → Gm} {m : Nat} (hv : IV G H m κ ρ) {i : Nat} (hi : i + 6 ≤ qL Γ) (kk : ∀ κ1 ρ1, (∃ G H m, IV G H m κ1 ρ1) → LQ Γ κ1 ρ1 1729 (lo Γ i) []) : LQ Γ κ ρ 276 (lo Γ i) [] := by
  obtain ⟨r, ρ1, e1, e2, hv1⟩ := c_status hv 
  refine l_aload hC (pc := 276) dL_law_276 2 rfl rfl ?_
  refine l_callX hC (pc := 277) (κ1 := κ) (r := r) [] [] (ctX10_status (Δ := lX Γ ρ) rfl rfl κ r e1) lk_13 (Nat.le_of_ble_eq_true rfl) (Nat.le_of_ble_eq_true rfl) rfl rfl (Nat.le_of_ble_eq_true rfl) dL_law_277 ?_
  refine l_aload hC (pc := 280) dL_law_280 1 rfl rfl ?_
  refine l_callM hC (pc := 281) (ρ1 := ρ1) (r := r) [] [.int r] (ctX11_status (Δ := lM Γ κ) rfl rfl ρ (r, ρ1) e2) lk_17 (Nat.le_of_ble_eq_true rfl) (Nat.le_of_ble_eq_true rfl) rfl rfl (Nat.le_of_ble_eq_true rfl) dL_law_281 ?_
  exact l_eq hC (pc := 284) (tgt := 1729) dL_law_284 rfl (kk κ ρ1 ⟨_, _, _, hv1⟩)
theorem lcase_1 {Γ : LCtx} {κ ρ : Mem} (hC : lC Γ) {G : Gm} {H : Nat → Gm} {m : Nat} (hv : IV G H m κ ρ) {i : Nat} (hi : i + 6 ≤ qL Γ) (kk : ∀ κ1 ρ1, (∃ G H m, IV G H m κ1 ρ1) → LQ Γ κ1 ρ1 1729 (lo Γ i) []) : LQ Γ κ ρ 289 (lo Γ i) [] := by
  obtain ⟨r, κ1, ρ1, hv1, e1, e2⟩ := c_feed (F := 50001) hv (by decide) (qx Γ (i + 1)) (qx Γ (i + 2)) (qx Γ (i + 3)) (qx Γ (i + 4)) (qx Γ (i + 5))
  refine l_aload hC (pc := 289) dL_law_289 2 rfl rfl ?_
  refine l_arg hC (pc := 290) (j := 1) (jn := 1) hi dL_law_290 dL_law_291 dL_law_292 dL_law_293 dL_law_294 rfl (by decide) ?_
  refine l_arg hC (pc := 295) (j := 2) (jn := 2) hi dL_law_295 dL_law_296 dL_law_297 dL_law_298 dL_law_299 rfl (by decide) ?_
  refine l_arg hC (pc := 300) (j := 3) (jn := 3) hi dL_law_300 dL_law_301 dL_law_302 dL_law_303 dL_law_304 rfl (by decide) ?_
  refine l_arg hC (pc := 305) (j := 4) (jn := 4) hi dL_law_305 dL_law_306 dL_law_307 dL_law_308 dL_law_309 rfl (by decide) ?_
  refine l_arg hC (pc := 310) (j := 5) (jn := 5) hi dL_law_310 dL_law_311 dL_law_312 dL_law_313 dL_law_314 rfl (by decide) ?_
  refine l_callX hC (pc := 315) (κ1 := κ1) (r := r) [.int (qx Γ (i + 1)), .int (qx Γ (i + 2)), .int (qx Γ (i + 3)), .int (qx Γ (i + 4)), .int (qx Γ (i + 5))] [] (ctX10_feed (Δ := lX Γ ρ) rfl rfl 50001 κ (qx Γ (i + 1)) (qx Γ (i + 2)) (qx Γ (i + 3)) (qx Γ (i + 4)) (qx Γ (i + 5)) (r, κ1) e1) lk_18 (Nat.le_of_ble_eq_true rfl) (Nat.le_of_ble_eq_true rfl) rfl rfl (Nat.le_of_ble_eq_true rfl) dL_law_315 ?_
  refine l_aload hC (pc := 318) dL_law_318 1 rfl rfl ?_
  refine l_arg hC (pc := 319) (j := 1) (jn := 1) hi dL_law_319 dL_law_320 dL_law_321 dL_law_322 dL_law_323 rfl (by decide) ?_
  refine l_arg hC (pc := 324) (j := 2) (jn := 2) hi dL_law_324 dL_law_325 dL_law_326 dL_law_327 dL_law_328 rfl (by decide) ?_
  refine l_arg hC (pc := 329) (j := 3) (jn := 3) hi dL_law_329 dL_law_330 dL_law_331 dL_law_332 dL_law_333 rfl (by decide) ?_
  refine l_arg hC (pc := 334) (j := 4) (jn := 4) hi dL_law_334 dL_law_335 dL_law_336 dL_law_337 dL_law_338 rfl (by decide) ?_
  refine l_arg hC (pc := 339) (j := 5) (jn := 5) hi dL_law_339 dL_law_340 dL_law_341 dL_law_342 dL_law_343 rfl (by decide) ?_
  refine l_callM hC (pc := 344) (ρ1 := ρ1) (r := r) [.int (qx Γ (i + 1)), .int (qx Γ (i + 2)), .int (qx Γ (i + 3)), .int (qx Γ (i + 4)), .int (qx Γ (i + 5))] [.int r] (ctX11_feed (Δ := lM Γ κ1) rfl rfl 50001 ρ (qx Γ (i + 1)) (qx Γ (i + 2)) (qx Γ (i + 3)) (qx Γ (i + 4)) (qx Γ (i + 5)) (r, ρ1) e2) lk_22 (Nat.le_of_ble_eq_true rfl) (Nat.le_of_ble_eq_true rfl) rfl rfl (Nat.le_of_ble_eq_true rfl) dL_law_344 ?_
  exact l_eq hC (pc := 347) (tgt := 1729) dL_law_347 rfl (kk κ1 ρ1 hv1)
theorem lcase_2 {Γ : LCtx} {κ ρ : Mem} (hC : lC Γ) {G : Gm} {H : Nat → Gm} {m : Nat} (hv : IV G H m κ ρ) {i : Nat} (hi : i + 6 ≤ qL Γ) (kk : ∀ κ1 ρ1, (∃ G H m, IV G H m κ1 ρ1) → LQ Γ κ1 ρ1 1729 (lo Γ i) []) : LQ Γ κ ρ 352 (lo Γ i) [] := by
  obtain ⟨r, κ1, ρ1, hv1, e1, e2⟩ := c_load (F := 50001) hv (by decide) (qx Γ (i + 1))
  refine l_aload hC (pc := 352) dL_law_352 2 rfl rfl ?_
  refine l_arg hC (pc := 353) (j := 1) (jn := 1) hi dL_law_353 dL_law_354 dL_law_355 dL_law_356 dL_law_357 rfl (by decide) ?_
  refine l_callX hC (pc := 358) (κ1 := κ1) (r := r) [.int (qx Γ (i + 1))] [] (ctX10_load (Δ := lX Γ ρ) rfl rfl 50001 κ (qx Γ (i + 1)) (r, κ1) e1) lk_23 (Nat.le_of_ble_eq_true rfl) (Nat.le_of_ble_eq_true rfl) rfl rfl (Nat.le_of_ble_eq_true rfl) dL_law_358 ?_
  refine l_aload hC (pc := 361) dL_law_361 1 rfl rfl ?_
  refine l_arg hC (pc := 362) (j := 1) (jn := 1) hi dL_law_362 dL_law_363 dL_law_364 dL_law_365 dL_law_366 rfl (by decide) ?_
  refine l_callM hC (pc := 367) (ρ1 := ρ1) (r := r) [.int (qx Γ (i + 1))] [.int r] (ctX11_load (Δ := lM Γ κ1) rfl rfl 50001 ρ (qx Γ (i + 1)) (r, ρ1) e2) lk_27 (Nat.le_of_ble_eq_true rfl) (Nat.le_of_ble_eq_true rfl) rfl rfl (Nat.le_of_ble_eq_true rfl) dL_law_367 ?_
  exact l_eq hC (pc := 370) (tgt := 1729) dL_law_370 rfl (kk κ1 ρ1 hv1)
theorem lcase_3 {Γ : LCtx} {κ ρ : Mem} (hC : lC Γ) {G : Gm} {H : Nat → Gm} {m : Nat} (hv : IV G H m κ ρ) {i : Nat} (hi : i + 6 ≤ qL Γ) (kk : ∀ κ1 ρ1, (∃ G H m, IV G H m κ1 ρ1) → LQ Γ κ1 ρ1 1729 (lo Γ i) []) : LQ Γ κ ρ 375 (lo Γ i) [] := by
  obtain ⟨r, ρ1, e1, e2, hv1⟩ := c_fault hv (qx Γ (i + 1))
  refine l_aload hC (pc := 375) dL_law_375 2 rfl rfl ?_
  refine l_arg hC (pc := 376) (j := 1) (jn := 1) hi dL_law_376 dL_law_377 dL_law_378 dL_law_379 dL_law_380 rfl (by decide) ?_
  refine l_callX hC (pc := 381) (κ1 := κ) (r := r) [.int (qx Γ (i + 1))] [] (ctX10_fault (Δ := lX Γ ρ) rfl rfl κ (qx Γ (i + 1)) r e1) lk_28 (Nat.le_of_ble_eq_true rfl) (Nat.le_of_ble_eq_true rfl) rfl rfl (Nat.le_of_ble_eq_true rfl) dL_law_381 ?_
  refine l_aload hC (pc := 384) dL_law_384 1 rfl rfl ?_
  refine l_arg hC (pc := 385) (j := 1) (jn := 1) hi dL_law_385 dL_law_386 dL_law_387 dL_law_388 dL_law_389 rfl (by decide) ?_
  refine l_callM hC (pc := 390) (ρ1 := ρ1) (r := r) [.int (qx Γ (i + 1))] [.int r] (ctX11_fault (Δ := lM Γ κ) rfl rfl ρ (qx Γ (i + 1)) (r, ρ1) e2) lk_31 (Nat.le_of_ble_eq_true rfl) (Nat.le_of_ble_eq_true rfl) rfl rfl (Nat.le_of_ble_eq_true rfl) dL_law_390 ?_
  exact l_eq hC (pc := 393) (tgt := 1729) dL_law_393 rfl (kk κ ρ1 ⟨_, _, _, hv1⟩)
theorem lcase_4 {Γ : LCtx} {κ ρ : Mem} (hC : lC Γ) {G : Gm} {H : Nat → Gm} {m : Nat} (hv : IV G H m κ ρ) {i : Nat} (hi : i + 6 ≤ qL Γ) (kk : ∀ κ1 ρ1, (∃ G H m, IV G H m κ1 ρ1) → LQ Γ κ1 ρ1 1729 (lo Γ i) []) : LQ Γ κ ρ 398 (lo Γ i) [] := by
  obtain ⟨r, κ1, ρ1, hv1, e1, e2⟩ := c_many (F := 50001) hv (by decide) (qx Γ (i + 1))
  refine l_aload hC (pc := 398) dL_law_398 2 rfl rfl ?_
  refine l_arg hC (pc := 399) (j := 1) (jn := 1) hi dL_law_399 dL_law_400 dL_law_401 dL_law_402 dL_law_403 rfl (by decide) ?_
  refine l_callX hC (pc := 404) (κ1 := κ1) (r := r) [.int (qx Γ (i + 1))] [] (ctX10_many (Δ := lX Γ ρ) rfl rfl 50001 κ (qx Γ (i + 1)) (r, κ1) e1) lk_32 (Nat.le_of_ble_eq_true rfl) (Nat.le_of_ble_eq_true rfl) rfl rfl (Nat.le_of_ble_eq_true rfl) dL_law_404 ?_
  refine l_aload hC (pc := 407) dL_law_407 1 rfl rfl ?_
  refine l_arg hC (pc := 408) (j := 1) (jn := 1) hi dL_law_408 dL_law_409 dL_law_410 dL_law_411 dL_law_412 rfl (by decide) ?_
  refine l_callM hC (pc := 413) (ρ1 := ρ1) (r := r) [.int (qx Γ (i + 1))] [.int r] (ctX11_many (Δ := lM Γ κ1) rfl rfl 50001 ρ (qx Γ (i + 1)) (r, ρ1) e2) lk_35 (Nat.le_of_ble_eq_true rfl) (Nat.le_of_ble_eq_true rfl) rfl rfl (Nat.le_of_ble_eq_true rfl) dL_law_413 ?_
  exact l_eq hC (pc := 416) (tgt := 1729) dL_law_416 rfl (kk κ1 ρ1 hv1)
theorem lcase_5 {Γ : LCtx} {κ ρ : Mem} (hC : lC Γ) {G : Gm} {H : Nat → Gm} {m : Nat} (hv : IV G H m κ ρ) {i : Nat} (hi : i + 6 ≤ qL Γ) (kk : ∀ κ1 ρ1, (∃ G H m, IV G H m κ1 ρ1) → LQ Γ κ1 ρ1 1729 (lo Γ i) []) : LQ Γ κ ρ 421 (lo Γ i) [] := by
  obtain ⟨r, κ1, ρ1, hv1, e1, e2⟩ := c_player (F := 50001) hv (by decide) (qx Γ (i + 1)) (qx Γ (i + 2))
  refine l_aload hC (pc := 421) dL_law_421 2 rfl rfl ?_
  refine l_arg hC (pc := 422) (j := 1) (jn := 1) hi dL_law_422 dL_law_423 dL_law_424 dL_law_425 dL_law_426 rfl (by decide) ?_
  refine l_arg hC (pc := 427) (j := 2) (jn := 2) hi dL_law_427 dL_law_428 dL_law_429 dL_law_430 dL_law_431 rfl (by decide) ?_
  refine l_callX hC (pc := 432) (κ1 := κ1) (r := r) [.int (qx Γ (i + 1)), .int (qx Γ (i + 2))] [] (ctX10_player (Δ := lX Γ ρ) rfl rfl 50001 κ (qx Γ (i + 1)) (qx Γ (i + 2)) (r, κ1) e1) lk_36 (Nat.le_of_ble_eq_true rfl) (Nat.le_of_ble_eq_true rfl) rfl rfl (Nat.le_of_ble_eq_true rfl) dL_law_432 ?_
  refine l_aload hC (pc := 435) dL_law_435 1 rfl rfl ?_
  refine l_arg hC (pc := 436) (j := 1) (jn := 1) hi dL_law_436 dL_law_437 dL_law_438 dL_law_439 dL_law_440 rfl (by decide) ?_
  refine l_arg hC (pc := 441) (j := 2) (jn := 2) hi dL_law_441 dL_law_442 dL_law_443 dL_law_444 dL_law_445 rfl (by decide) ?_
  refine l_callM hC (pc := 446) (ρ1 := ρ1) (r := r) [.int (qx Γ (i + 1)), .int (qx Γ (i + 2))] [.int r] (ctX11_player (Δ := lM Γ κ1) rfl rfl 50001 ρ (qx Γ (i + 1)) (qx Γ (i + 2)) (r, ρ1) e2) lk_40 (Nat.le_of_ble_eq_true rfl) (Nat.le_of_ble_eq_true rfl) rfl rfl (Nat.le_of_ble_eq_true rfl) dL_law_446 ?_
  exact l_eq hC (pc := 449) (tgt := 1729) dL_law_449 rfl (kk κ1 ρ1 hv1)
theorem lcase_6 {Γ : LCtx} {κ ρ : Mem} (hC : lC Γ) {G : Gm} {H : Nat → Gm} {m : Nat} (hv : IV G H m κ ρ) {i : Nat} (hi : i + 6 ≤ qL Γ) (kk : ∀ κ1 ρ1, (∃ G H m, IV G H m κ1 ρ1) → LQ Γ κ1 ρ1 1729 (lo Γ i) []) : LQ Γ κ ρ 454 (lo Γ i) [] := by
  obtain ⟨r, κ1, ρ1, hv1, e1, e2⟩ := c_guess (F := 50001) hv (by decide) (qx Γ (i + 1)) (qx Γ (i + 2))
  refine l_aload hC (pc := 454) dL_law_454 2 rfl rfl ?_
  refine l_arg hC (pc := 455) (j := 1) (jn := 1) hi dL_law_455 dL_law_456 dL_law_457 dL_law_458 dL_law_459 rfl (by decide) ?_
  refine l_arg hC (pc := 460) (j := 2) (jn := 2) hi dL_law_460 dL_law_461 dL_law_462 dL_law_463 dL_law_464 rfl (by decide) ?_
  refine l_callX hC (pc := 465) (κ1 := κ1) (r := r) [.int (qx Γ (i + 1)), .int (qx Γ (i + 2))] [] (ctX10_guess (Δ := lX Γ ρ) rfl rfl 50001 κ (qx Γ (i + 1)) (qx Γ (i + 2)) (r, κ1) e1) lk_41 (Nat.le_of_ble_eq_true rfl) (Nat.le_of_ble_eq_true rfl) rfl rfl (Nat.le_of_ble_eq_true rfl) dL_law_465 ?_
  refine l_aload hC (pc := 468) dL_law_468 1 rfl rfl ?_
  refine l_arg hC (pc := 469) (j := 1) (jn := 1) hi dL_law_469 dL_law_470 dL_law_471 dL_law_472 dL_law_473 rfl (by decide) ?_
  refine l_arg hC (pc := 474) (j := 2) (jn := 2) hi dL_law_474 dL_law_475 dL_law_476 dL_law_477 dL_law_478 rfl (by decide) ?_
  refine l_callM hC (pc := 479) (ρ1 := ρ1) (r := r) [.int (qx Γ (i + 1)), .int (qx Γ (i + 2))] [.int r] (ctX11_guess (Δ := lM Γ κ1) rfl rfl 50001 ρ (qx Γ (i + 1)) (qx Γ (i + 2)) (r, ρ1) e2) lk_44 (Nat.le_of_ble_eq_true rfl) (Nat.le_of_ble_eq_true rfl) rfl rfl (Nat.le_of_ble_eq_true rfl) dL_law_479 ?_
  exact l_eq hC (pc := 482) (tgt := 1729) dL_law_482 rfl (kk κ1 ρ1 hv1)
theorem lcase_7 {Γ : LCtx} {κ ρ : Mem} (hC : lC Γ) {G : Gm} {H : Nat → Gm} {m : Nat} (hv : IV G H m κ ρ) {i : Nat} (hi : i + 6 ≤ qL Γ) (kk : ∀ κ1 ρ1, (∃ G H m, IV G H m κ1 ρ1) → LQ Γ κ1 ρ1 1729 (lo Γ i) []) : LQ Γ κ ρ 487 (lo Γ i) [] := by
  obtain ⟨r, κ1, ρ1, hv1, e1, e2⟩ := c_situation (F := 50001) hv (by decide) (qx Γ (i + 1)) (qx Γ (i + 2))
  refine l_aload hC (pc := 487) dL_law_487 2 rfl rfl ?_
  refine l_arg hC (pc := 488) (j := 1) (jn := 1) hi dL_law_488 dL_law_489 dL_law_490 dL_law_491 dL_law_492 rfl (by decide) ?_
  refine l_arg hC (pc := 493) (j := 2) (jn := 2) hi dL_law_493 dL_law_494 dL_law_495 dL_law_496 dL_law_497 rfl (by decide) ?_
  refine l_callX hC (pc := 498) (κ1 := κ1) (r := r) [.int (qx Γ (i + 1)), .int (qx Γ (i + 2))] [] (ctX10_situation (Δ := lX Γ ρ) rfl rfl κ (qx Γ (i + 1)) (qx Γ (i + 2)) (r, κ1) e1) lk_45 (Nat.le_of_ble_eq_true rfl) (Nat.le_of_ble_eq_true rfl) rfl rfl (Nat.le_of_ble_eq_true rfl) dL_law_498 ?_
  refine l_aload hC (pc := 501) dL_law_501 1 rfl rfl ?_
  refine l_arg hC (pc := 502) (j := 1) (jn := 1) hi dL_law_502 dL_law_503 dL_law_504 dL_law_505 dL_law_506 rfl (by decide) ?_
  refine l_arg hC (pc := 507) (j := 2) (jn := 2) hi dL_law_507 dL_law_508 dL_law_509 dL_law_510 dL_law_511 rfl (by decide) ?_
  refine l_callM hC (pc := 512) (ρ1 := ρ1) (r := r) [.int (qx Γ (i + 1)), .int (qx Γ (i + 2))] [.int r] (ctX11_situation (Δ := lM Γ κ1) rfl rfl 50001 ρ (qx Γ (i + 1)) (qx Γ (i + 2)) (r, ρ1) e2) lk_48 (Nat.le_of_ble_eq_true rfl) (Nat.le_of_ble_eq_true rfl) rfl rfl (Nat.le_of_ble_eq_true rfl) dL_law_512 ?_
  exact l_eq hC (pc := 515) (tgt := 1729) dL_law_515 rfl (kk κ1 ρ1 hv1)
theorem lcase_8 {Γ : LCtx} {κ ρ : Mem} (hC : lC Γ) {G : Gm} {H : Nat → Gm} {m : Nat} (hv : IV G H m κ ρ) {i : Nat} (hi : i + 6 ≤ qL Γ) (kk : ∀ κ1 ρ1, (∃ G H m, IV G H m κ1 ρ1) → LQ Γ κ1 ρ1 1729 (lo Γ i) []) : LQ Γ κ ρ 520 (lo Γ i) [] := by
  obtain ⟨r, κ1, ρ1, hv1, e1, e2⟩ := c_colour (F := 50001) hv (by decide) (qx Γ (i + 1)) (qx Γ (i + 2))
  refine l_aload hC (pc := 520) dL_law_520 2 rfl rfl ?_
  refine l_arg hC (pc := 521) (j := 1) (jn := 1) hi dL_law_521 dL_law_522 dL_law_523 dL_law_524 dL_law_525 rfl (by decide) ?_
  refine l_arg hC (pc := 526) (j := 2) (jn := 2) hi dL_law_526 dL_law_527 dL_law_528 dL_law_529 dL_law_530 rfl (by decide) ?_
  refine l_callX hC (pc := 531) (κ1 := κ1) (r := r) [.int (qx Γ (i + 1)), .int (qx Γ (i + 2))] [] (ctX10_colour (Δ := lX Γ ρ) rfl rfl κ (qx Γ (i + 1)) (qx Γ (i + 2)) (r, κ1) e1) lk_49 (Nat.le_of_ble_eq_true rfl) (Nat.le_of_ble_eq_true rfl) rfl rfl (Nat.le_of_ble_eq_true rfl) dL_law_531 ?_
  refine l_aload hC (pc := 534) dL_law_534 1 rfl rfl ?_
  refine l_arg hC (pc := 535) (j := 1) (jn := 1) hi dL_law_535 dL_law_536 dL_law_537 dL_law_538 dL_law_539 rfl (by decide) ?_
  refine l_arg hC (pc := 540) (j := 2) (jn := 2) hi dL_law_540 dL_law_541 dL_law_542 dL_law_543 dL_law_544 rfl (by decide) ?_
  refine l_callM hC (pc := 545) (ρ1 := ρ1) (r := r) [.int (qx Γ (i + 1)), .int (qx Γ (i + 2))] [.int r] (ctX11_colour (Δ := lM Γ κ1) rfl rfl 50001 ρ (qx Γ (i + 1)) (qx Γ (i + 2)) (r, ρ1) e2) lk_52 (Nat.le_of_ble_eq_true rfl) (Nat.le_of_ble_eq_true rfl) rfl rfl (Nat.le_of_ble_eq_true rfl) dL_law_545 ?_
  exact l_eq hC (pc := 548) (tgt := 1729) dL_law_548 rfl (kk κ1 ρ1 hv1)
theorem lcase_9 {Γ : LCtx} {κ ρ : Mem} (hC : lC Γ) {G : Gm} {H : Nat → Gm} {m : Nat} (hv : IV G H m κ ρ) {i : Nat} (hi : i + 6 ≤ qL Γ) (kk : ∀ κ1 ρ1, (∃ G H m, IV G H m κ1 ρ1) → LQ Γ κ1 ρ1 1729 (lo Γ i) []) : LQ Γ κ ρ 553 (lo Γ i) [] := by
  obtain ⟨r, κ1, ρ1, hv1, e1, e2⟩ := c_often (F := 50001) hv (by decide) (qx Γ (i + 1)) (qx Γ (i + 2))
  refine l_aload hC (pc := 553) dL_law_553 2 rfl rfl ?_
  refine l_arg hC (pc := 554) (j := 1) (jn := 1) hi dL_law_554 dL_law_555 dL_law_556 dL_law_557 dL_law_558 rfl (by decide) ?_
  refine l_arg hC (pc := 559) (j := 2) (jn := 2) hi dL_law_559 dL_law_560 dL_law_561 dL_law_562 dL_law_563 rfl (by decide) ?_
  refine l_callX hC (pc := 564) (κ1 := κ1) (r := r) [.int (qx Γ (i + 1)), .int (qx Γ (i + 2))] [] (ctX10_often (Δ := lX Γ ρ) rfl rfl 50001 κ (qx Γ (i + 1)) (qx Γ (i + 2)) (r, κ1) e1) lk_53 (Nat.le_of_ble_eq_true rfl) (Nat.le_of_ble_eq_true rfl) rfl rfl (Nat.le_of_ble_eq_true rfl) dL_law_564 ?_
  refine l_aload hC (pc := 567) dL_law_567 1 rfl rfl ?_
  refine l_arg hC (pc := 568) (j := 1) (jn := 1) hi dL_law_568 dL_law_569 dL_law_570 dL_law_571 dL_law_572 rfl (by decide) ?_
  refine l_arg hC (pc := 573) (j := 2) (jn := 2) hi dL_law_573 dL_law_574 dL_law_575 dL_law_576 dL_law_577 rfl (by decide) ?_
  refine l_callM hC (pc := 578) (ρ1 := ρ1) (r := r) [.int (qx Γ (i + 1)), .int (qx Γ (i + 2))] [.int r] (ctX11_often (Δ := lM Γ κ1) rfl rfl 50001 ρ (qx Γ (i + 1)) (qx Γ (i + 2)) (r, ρ1) e2) lk_56 (Nat.le_of_ble_eq_true rfl) (Nat.le_of_ble_eq_true rfl) rfl rfl (Nat.le_of_ble_eq_true rfl) dL_law_578 ?_
  exact l_eq hC (pc := 581) (tgt := 1729) dL_law_581 rfl (kk κ1 ρ1 hv1)
theorem lcase_10 {Γ : LCtx} {κ ρ : Mem} (hC : lC Γ) {G : Gm} {H : Nat → Gm} {m : Nat} (hv : IV G H m κ ρ) {i : Nat} (hi : i + 6 ≤ qL Γ) (kk : ∀ κ1 ρ1, (∃ G H m, IV G H m κ1 ρ1) → LQ Γ κ1 ρ1 1729 (lo Γ i) []) : LQ Γ κ ρ 586 (lo Γ i) [] := by
  obtain ⟨r, κ1, ρ1, hv1, e1, e2⟩ := c_heeds (F := 50001) hv (by decide) (qx Γ (i + 1)) (qx Γ (i + 2))
  refine l_aload hC (pc := 586) dL_law_586 2 rfl rfl ?_
  refine l_arg hC (pc := 587) (j := 1) (jn := 1) hi dL_law_587 dL_law_588 dL_law_589 dL_law_590 dL_law_591 rfl (by decide) ?_
  refine l_arg hC (pc := 592) (j := 2) (jn := 2) hi dL_law_592 dL_law_593 dL_law_594 dL_law_595 dL_law_596 rfl (by decide) ?_
  refine l_callX hC (pc := 597) (κ1 := κ1) (r := r) [.int (qx Γ (i + 1)), .int (qx Γ (i + 2))] [] (ctX10_heeds (Δ := lX Γ ρ) rfl rfl 50001 κ (qx Γ (i + 1)) (qx Γ (i + 2)) (r, κ1) e1) lk_57 (Nat.le_of_ble_eq_true rfl) (Nat.le_of_ble_eq_true rfl) rfl rfl (Nat.le_of_ble_eq_true rfl) dL_law_597 ?_
  refine l_aload hC (pc := 600) dL_law_600 1 rfl rfl ?_
  refine l_arg hC (pc := 601) (j := 1) (jn := 1) hi dL_law_601 dL_law_602 dL_law_603 dL_law_604 dL_law_605 rfl (by decide) ?_
  refine l_arg hC (pc := 606) (j := 2) (jn := 2) hi dL_law_606 dL_law_607 dL_law_608 dL_law_609 dL_law_610 rfl (by decide) ?_
  refine l_callM hC (pc := 611) (ρ1 := ρ1) (r := r) [.int (qx Γ (i + 1)), .int (qx Γ (i + 2))] [.int r] (ctX11_heeds (Δ := lM Γ κ1) rfl rfl 50001 ρ (qx Γ (i + 1)) (qx Γ (i + 2)) (r, ρ1) e2) lk_60 (Nat.le_of_ble_eq_true rfl) (Nat.le_of_ble_eq_true rfl) rfl rfl (Nat.le_of_ble_eq_true rfl) dL_law_611 ?_
  exact l_eq hC (pc := 614) (tgt := 1729) dL_law_614 rfl (kk κ1 ρ1 hv1)
theorem lcase_11 {Γ : LCtx} {κ ρ : Mem} (hC : lC Γ) {G : Gm} {H : Nat → Gm} {m : Nat} (hv : IV G H m κ ρ) {i : Nat} (hi : i + 6 ≤ qL Γ) (kk : ∀ κ1 ρ1, (∃ G H m, IV G H m κ1 ρ1) → LQ Γ κ1 ρ1 1729 (lo Γ i) []) : LQ Γ κ ρ 619 (lo Γ i) [] := by
  obtain ⟨r, κ1, ρ1, hv1, e1, e2⟩ := c_heeded (F := 50001) hv (by decide) (qx Γ (i + 1))
  refine l_aload hC (pc := 619) dL_law_619 2 rfl rfl ?_
  refine l_arg hC (pc := 620) (j := 1) (jn := 1) hi dL_law_620 dL_law_621 dL_law_622 dL_law_623 dL_law_624 rfl (by decide) ?_
  refine l_callX hC (pc := 625) (κ1 := κ1) (r := r) [.int (qx Γ (i + 1))] [] (ctX10_heeded (Δ := lX Γ ρ) rfl rfl 50001 κ (qx Γ (i + 1)) (r, κ1) e1) lk_61 (Nat.le_of_ble_eq_true rfl) (Nat.le_of_ble_eq_true rfl) rfl rfl (Nat.le_of_ble_eq_true rfl) dL_law_625 ?_
  refine l_aload hC (pc := 628) dL_law_628 1 rfl rfl ?_
  refine l_arg hC (pc := 629) (j := 1) (jn := 1) hi dL_law_629 dL_law_630 dL_law_631 dL_law_632 dL_law_633 rfl (by decide) ?_
  refine l_callM hC (pc := 634) (ρ1 := ρ1) (r := r) [.int (qx Γ (i + 1))] [.int r] (ctX11_heeded (Δ := lM Γ κ1) rfl rfl 50001 ρ (qx Γ (i + 1)) (r, ρ1) e2) lk_64 (Nat.le_of_ble_eq_true rfl) (Nat.le_of_ble_eq_true rfl) rfl rfl (Nat.le_of_ble_eq_true rfl) dL_law_634 ?_
  exact l_eq hC (pc := 637) (tgt := 1729) dL_law_637 rfl (kk κ1 ρ1 hv1)
theorem lcase_12 {Γ : LCtx} {κ ρ : Mem} (hC : lC Γ) {G : Gm} {H : Nat → Gm} {m : Nat} (hv : IV G H m κ ρ) {i : Nat} (hi : i + 6 ≤ qL Γ) (kk : ∀ κ1 ρ1, (∃ G H m, IV G H m κ1 ρ1) → LQ Γ κ1 ρ1 1729 (lo Γ i) []) : LQ Γ κ ρ 642 (lo Γ i) [] := by
  obtain ⟨r, κ1, ρ1, hv1, e1, e2⟩ := c_fooled (F := 50001) hv (by decide) (qx Γ (i + 1)) (qx Γ (i + 2))
  refine l_aload hC (pc := 642) dL_law_642 2 rfl rfl ?_
  refine l_arg hC (pc := 643) (j := 1) (jn := 1) hi dL_law_643 dL_law_644 dL_law_645 dL_law_646 dL_law_647 rfl (by decide) ?_
  refine l_arg hC (pc := 648) (j := 2) (jn := 2) hi dL_law_648 dL_law_649 dL_law_650 dL_law_651 dL_law_652 rfl (by decide) ?_
  refine l_callX hC (pc := 653) (κ1 := κ1) (r := r) [.int (qx Γ (i + 1)), .int (qx Γ (i + 2))] [] (ctX10_fooled (Δ := lX Γ ρ) rfl rfl 50001 κ (qx Γ (i + 1)) (qx Γ (i + 2)) (r, κ1) e1) lk_65 (Nat.le_of_ble_eq_true rfl) (Nat.le_of_ble_eq_true rfl) rfl rfl (Nat.le_of_ble_eq_true rfl) dL_law_653 ?_
  refine l_aload hC (pc := 656) dL_law_656 1 rfl rfl ?_
  refine l_arg hC (pc := 657) (j := 1) (jn := 1) hi dL_law_657 dL_law_658 dL_law_659 dL_law_660 dL_law_661 rfl (by decide) ?_
  refine l_arg hC (pc := 662) (j := 2) (jn := 2) hi dL_law_662 dL_law_663 dL_law_664 dL_law_665 dL_law_666 rfl (by decide) ?_
  refine l_callM hC (pc := 667) (ρ1 := ρ1) (r := r) [.int (qx Γ (i + 1)), .int (qx Γ (i + 2))] [.int r] (ctX11_fooled (Δ := lM Γ κ1) rfl rfl 50001 ρ (qx Γ (i + 1)) (qx Γ (i + 2)) (r, ρ1) e2) lk_68 (Nat.le_of_ble_eq_true rfl) (Nat.le_of_ble_eq_true rfl) rfl rfl (Nat.le_of_ble_eq_true rfl) dL_law_667 ?_
  exact l_eq hC (pc := 670) (tgt := 1729) dL_law_670 rfl (kk κ1 ρ1 hv1)
theorem lcase_13 {Γ : LCtx} {κ ρ : Mem} (hC : lC Γ) {G : Gm} {H : Nat → Gm} {m : Nat} (hv : IV G H m κ ρ) {i : Nat} (hi : i + 6 ≤ qL Γ) (kk : ∀ κ1 ρ1, (∃ G H m, IV G H m κ1 ρ1) → LQ Γ κ1 ρ1 1729 (lo Γ i) []) : LQ Γ κ ρ 675 (lo Γ i) [] := by
  obtain ⟨r, κ1, ρ1, hv1, e1, e2⟩ := c_right (F := 50001) hv (by decide) (qx Γ (i + 1))
  refine l_aload hC (pc := 675) dL_law_675 2 rfl rfl ?_
  refine l_arg hC (pc := 676) (j := 1) (jn := 1) hi dL_law_676 dL_law_677 dL_law_678 dL_law_679 dL_law_680 rfl (by decide) ?_
  refine l_callX hC (pc := 681) (κ1 := κ1) (r := r) [.int (qx Γ (i + 1))] [] (ctX10_right (Δ := lX Γ ρ) rfl rfl κ (qx Γ (i + 1)) (r, κ1) e1) lk_69 (Nat.le_of_ble_eq_true rfl) (Nat.le_of_ble_eq_true rfl) rfl rfl (Nat.le_of_ble_eq_true rfl) dL_law_681 ?_
  refine l_aload hC (pc := 684) dL_law_684 1 rfl rfl ?_
  refine l_arg hC (pc := 685) (j := 1) (jn := 1) hi dL_law_685 dL_law_686 dL_law_687 dL_law_688 dL_law_689 rfl (by decide) ?_
  refine l_callM hC (pc := 690) (ρ1 := ρ1) (r := r) [.int (qx Γ (i + 1))] [.int r] (ctX11_right (Δ := lM Γ κ1) rfl rfl 50001 ρ (qx Γ (i + 1)) (r, ρ1) e2) lk_72 (Nat.le_of_ble_eq_true rfl) (Nat.le_of_ble_eq_true rfl) rfl rfl (Nat.le_of_ble_eq_true rfl) dL_law_690 ?_
  exact l_eq hC (pc := 693) (tgt := 1729) dL_law_693 rfl (kk κ1 ρ1 hv1)
theorem lcase_14 {Γ : LCtx} {κ ρ : Mem} (hC : lC Γ) {G : Gm} {H : Nat → Gm} {m : Nat} (hv : IV G H m κ ρ) {i : Nat} (hi : i + 6 ≤ qL Γ) (kk : ∀ κ1 ρ1, (∃ G H m, IV G H m κ1 ρ1) → LQ Γ κ1 ρ1 1729 (lo Γ i) []) : LQ Γ κ ρ 698 (lo Γ i) [] := by
  obtain ⟨r, κ1, ρ1, hv1, e1, e2⟩ := c_lost (F := 50001) hv (by decide) (qx Γ (i + 1))
  refine l_aload hC (pc := 698) dL_law_698 2 rfl rfl ?_
  refine l_arg hC (pc := 699) (j := 1) (jn := 1) hi dL_law_699 dL_law_700 dL_law_701 dL_law_702 dL_law_703 rfl (by decide) ?_
  refine l_callX hC (pc := 704) (κ1 := κ1) (r := r) [.int (qx Γ (i + 1))] [] (ctX10_lost (Δ := lX Γ ρ) rfl rfl 50001 κ (qx Γ (i + 1)) (r, κ1) e1) lk_73 (Nat.le_of_ble_eq_true rfl) (Nat.le_of_ble_eq_true rfl) rfl rfl (Nat.le_of_ble_eq_true rfl) dL_law_704 ?_
  refine l_aload hC (pc := 707) dL_law_707 1 rfl rfl ?_
  refine l_arg hC (pc := 708) (j := 1) (jn := 1) hi dL_law_708 dL_law_709 dL_law_710 dL_law_711 dL_law_712 rfl (by decide) ?_
  refine l_callM hC (pc := 713) (ρ1 := ρ1) (r := r) [.int (qx Γ (i + 1))] [.int r] (ctX11_lost (Δ := lM Γ κ1) rfl rfl 50001 ρ (qx Γ (i + 1)) (r, ρ1) e2) lk_76 (Nat.le_of_ble_eq_true rfl) (Nat.le_of_ble_eq_true rfl) rfl rfl (Nat.le_of_ble_eq_true rfl) dL_law_713 ?_
  exact l_eq hC (pc := 716) (tgt := 1729) dL_law_716 rfl (kk κ1 ρ1 hv1)
theorem lcase_15 {Γ : LCtx} {κ ρ : Mem} (hC : lC Γ) {G : Gm} {H : Nat → Gm} {m : Nat} (hv : IV G H m κ ρ) {i : Nat} (hi : i + 6 ≤ qL Γ) (kk : ∀ κ1 ρ1, (∃ G H m, IV G H m κ1 ρ1) → LQ Γ κ1 ρ1 1729 (lo Γ i) []) : LQ Γ κ ρ 721 (lo Γ i) [] := by
  obtain ⟨r, κ1, ρ1, hv1, e1, e2⟩ := c_exact (F := 50001) hv (by decide) (qx Γ (i + 1))
  refine l_aload hC (pc := 721) dL_law_721 2 rfl rfl ?_
  refine l_arg hC (pc := 722) (j := 1) (jn := 1) hi dL_law_722 dL_law_723 dL_law_724 dL_law_725 dL_law_726 rfl (by decide) ?_
  refine l_callX hC (pc := 727) (κ1 := κ1) (r := r) [.int (qx Γ (i + 1))] [] (ctX10_exact (Δ := lX Γ ρ) rfl rfl 50001 κ (qx Γ (i + 1)) (r, κ1) e1) lk_77 (Nat.le_of_ble_eq_true rfl) (Nat.le_of_ble_eq_true rfl) rfl rfl (Nat.le_of_ble_eq_true rfl) dL_law_727 ?_
  refine l_aload hC (pc := 730) dL_law_730 1 rfl rfl ?_
  refine l_arg hC (pc := 731) (j := 1) (jn := 1) hi dL_law_731 dL_law_732 dL_law_733 dL_law_734 dL_law_735 rfl (by decide) ?_
  refine l_callM hC (pc := 736) (ρ1 := ρ1) (r := r) [.int (qx Γ (i + 1))] [.int r] (ctX11_exact (Δ := lM Γ κ1) rfl rfl 50001 ρ (qx Γ (i + 1)) (r, ρ1) e2) lk_80 (Nat.le_of_ble_eq_true rfl) (Nat.le_of_ble_eq_true rfl) rfl rfl (Nat.le_of_ble_eq_true rfl) dL_law_736 ?_
  exact l_eq hC (pc := 739) (tgt := 1729) dL_law_739 rfl (kk κ1 ρ1 hv1)
theorem lcase_16 {Γ : LCtx} {κ ρ : Mem} (hC : lC Γ) {G : Gm} {H : Nat → Gm} {m : Nat} (hv : IV G H m κ ρ) {i : Nat} (hi : i + 6 ≤ qL Γ) (kk : ∀ κ1 ρ1, (∃ G H m, IV G H m κ1 ρ1) → LQ Γ κ1 ρ1 1729 (lo Γ i) []) : LQ Γ κ ρ 744 (lo Γ i) [] := by
  obtain ⟨r, κ1, ρ1, hv1, e1, e2⟩ := c_alone (F := 50001) hv (by decide) (qx Γ (i + 1))
  refine l_aload hC (pc := 744) dL_law_744 2 rfl rfl ?_
  refine l_arg hC (pc := 745) (j := 1) (jn := 1) hi dL_law_745 dL_law_746 dL_law_747 dL_law_748 dL_law_749 rfl (by decide) ?_
  refine l_callX hC (pc := 750) (κ1 := κ1) (r := r) [.int (qx Γ (i + 1))] [] (ctX10_alone (Δ := lX Γ ρ) rfl rfl κ (qx Γ (i + 1)) (r, κ1) e1) lk_81 (Nat.le_of_ble_eq_true rfl) (Nat.le_of_ble_eq_true rfl) rfl rfl (Nat.le_of_ble_eq_true rfl) dL_law_750 ?_
  refine l_aload hC (pc := 753) dL_law_753 1 rfl rfl ?_
  refine l_arg hC (pc := 754) (j := 1) (jn := 1) hi dL_law_754 dL_law_755 dL_law_756 dL_law_757 dL_law_758 rfl (by decide) ?_
  refine l_callM hC (pc := 759) (ρ1 := ρ1) (r := r) [.int (qx Γ (i + 1))] [.int r] (ctX11_alone (Δ := lM Γ κ1) rfl rfl 50001 ρ (qx Γ (i + 1)) (r, ρ1) e2) lk_84 (Nat.le_of_ble_eq_true rfl) (Nat.le_of_ble_eq_true rfl) rfl rfl (Nat.le_of_ble_eq_true rfl) dL_law_759 ?_
  exact l_eq hC (pc := 762) (tgt := 1729) dL_law_762 rfl (kk κ1 ρ1 hv1)
theorem lcase_17 {Γ : LCtx} {κ ρ : Mem} (hC : lC Γ) {G : Gm} {H : Nat → Gm} {m : Nat} (hv : IV G H m κ ρ) {i : Nat} (hi : i + 6 ≤ qL Γ) (kk : ∀ κ1 ρ1, (∃ G H m, IV G H m κ1 ρ1) → LQ Γ κ1 ρ1 1729 (lo Γ i) []) : LQ Γ κ ρ 767 (lo Γ i) [] := by
  obtain ⟨r, κ1, ρ1, hv1, e1, e2⟩ := c_both (F := 50001) hv (by decide) (qx Γ (i + 1)) (qx Γ (i + 2))
  refine l_aload hC (pc := 767) dL_law_767 2 rfl rfl ?_
  refine l_arg hC (pc := 768) (j := 1) (jn := 1) hi dL_law_768 dL_law_769 dL_law_770 dL_law_771 dL_law_772 rfl (by decide) ?_
  refine l_arg hC (pc := 773) (j := 2) (jn := 2) hi dL_law_773 dL_law_774 dL_law_775 dL_law_776 dL_law_777 rfl (by decide) ?_
  refine l_callX hC (pc := 778) (κ1 := κ1) (r := r) [.int (qx Γ (i + 1)), .int (qx Γ (i + 2))] [] (ctX10_both (Δ := lX Γ ρ) rfl rfl 50001 κ (qx Γ (i + 1)) (qx Γ (i + 2)) (r, κ1) e1) lk_85 (Nat.le_of_ble_eq_true rfl) (Nat.le_of_ble_eq_true rfl) rfl rfl (Nat.le_of_ble_eq_true rfl) dL_law_778 ?_
  refine l_aload hC (pc := 781) dL_law_781 1 rfl rfl ?_
  refine l_arg hC (pc := 782) (j := 1) (jn := 1) hi dL_law_782 dL_law_783 dL_law_784 dL_law_785 dL_law_786 rfl (by decide) ?_
  refine l_arg hC (pc := 787) (j := 2) (jn := 2) hi dL_law_787 dL_law_788 dL_law_789 dL_law_790 dL_law_791 rfl (by decide) ?_
  refine l_callM hC (pc := 792) (ρ1 := ρ1) (r := r) [.int (qx Γ (i + 1)), .int (qx Γ (i + 2))] [.int r] (ctX11_both (Δ := lM Γ κ1) rfl rfl 50001 ρ (qx Γ (i + 1)) (qx Γ (i + 2)) (r, ρ1) e2) lk_88 (Nat.le_of_ble_eq_true rfl) (Nat.le_of_ble_eq_true rfl) rfl rfl (Nat.le_of_ble_eq_true rfl) dL_law_792 ?_
  exact l_eq hC (pc := 795) (tgt := 1729) dL_law_795 rfl (kk κ1 ρ1 hv1)
theorem lcase_18 {Γ : LCtx} {κ ρ : Mem} (hC : lC Γ) {G : Gm} {H : Nat → Gm} {m : Nat} (hv : IV G H m κ ρ) {i : Nat} (hi : i + 6 ≤ qL Γ) (kk : ∀ κ1 ρ1, (∃ G H m, IV G H m κ1 ρ1) → LQ Γ κ1 ρ1 1729 (lo Γ i) []) : LQ Γ κ ρ 800 (lo Γ i) [] := by
  obtain ⟨r, κ1, ρ1, hv1, e1, e2⟩ := c_without (F := 50001) hv (by decide) (qx Γ (i + 1))
  refine l_aload hC (pc := 800) dL_law_800 2 rfl rfl ?_
  refine l_arg hC (pc := 801) (j := 1) (jn := 1) hi dL_law_801 dL_law_802 dL_law_803 dL_law_804 dL_law_805 rfl (by decide) ?_
  refine l_callX hC (pc := 806) (κ1 := κ1) (r := r) [.int (qx Γ (i + 1))] [] (ctX10_without (Δ := lX Γ ρ) rfl rfl 50001 κ (qx Γ (i + 1)) (r, κ1) e1) lk_89 (Nat.le_of_ble_eq_true rfl) (Nat.le_of_ble_eq_true rfl) rfl rfl (Nat.le_of_ble_eq_true rfl) dL_law_806 ?_
  refine l_aload hC (pc := 809) dL_law_809 1 rfl rfl ?_
  refine l_arg hC (pc := 810) (j := 1) (jn := 1) hi dL_law_810 dL_law_811 dL_law_812 dL_law_813 dL_law_814 rfl (by decide) ?_
  refine l_callM hC (pc := 815) (ρ1 := ρ1) (r := r) [.int (qx Γ (i + 1))] [.int r] (ctX11_without (Δ := lM Γ κ1) rfl rfl 50001 ρ (qx Γ (i + 1)) (r, ρ1) e2) lk_92 (Nat.le_of_ble_eq_true rfl) (Nat.le_of_ble_eq_true rfl) rfl rfl (Nat.le_of_ble_eq_true rfl) dL_law_815 ?_
  exact l_eq hC (pc := 818) (tgt := 1729) dL_law_818 rfl (kk κ1 ρ1 hv1)
theorem lcase_19 {Γ : LCtx} {κ ρ : Mem} (hC : lC Γ) {G : Gm} {H : Nat → Gm} {m : Nat} (hv : IV G H m κ ρ) {i : Nat} (hi : i + 6 ≤ qL Γ) (kk : ∀ κ1 ρ1, (∃ G H m, IV G H m κ1 ρ1) → LQ Γ κ1 ρ1 1729 (lo Γ i) []) : LQ Γ κ ρ 823 (lo Γ i) [] := by
  obtain ⟨r, κ1, ρ1, hv1, e1, e2⟩ := c_together (F := 50001) hv (by decide) (qx Γ (i + 1))
  refine l_aload hC (pc := 823) dL_law_823 2 rfl rfl ?_
  refine l_arg hC (pc := 824) (j := 1) (jn := 1) hi dL_law_824 dL_law_825 dL_law_826 dL_law_827 dL_law_828 rfl (by decide) ?_
  refine l_callX hC (pc := 829) (κ1 := κ1) (r := r) [.int (qx Γ (i + 1))] [] (ctX10_together (Δ := lX Γ ρ) rfl rfl 50001 κ (qx Γ (i + 1)) (r, κ1) e1) lk_93 (Nat.le_of_ble_eq_true rfl) (Nat.le_of_ble_eq_true rfl) rfl rfl (Nat.le_of_ble_eq_true rfl) dL_law_829 ?_
  refine l_aload hC (pc := 832) dL_law_832 1 rfl rfl ?_
  refine l_arg hC (pc := 833) (j := 1) (jn := 1) hi dL_law_833 dL_law_834 dL_law_835 dL_law_836 dL_law_837 rfl (by decide) ?_
  refine l_callM hC (pc := 838) (ρ1 := ρ1) (r := r) [.int (qx Γ (i + 1))] [.int r] (ctX11_together (Δ := lM Γ κ1) rfl rfl 50001 ρ (qx Γ (i + 1)) (r, ρ1) e2) lk_96 (Nat.le_of_ble_eq_true rfl) (Nat.le_of_ble_eq_true rfl) rfl rfl (Nat.le_of_ble_eq_true rfl) dL_law_838 ?_
  exact l_eq hC (pc := 841) (tgt := 1729) dL_law_841 rfl (kk κ1 ρ1 hv1)
theorem lcase_20 {Γ : LCtx} {κ ρ : Mem} (hC : lC Γ) {G : Gm} {H : Nat → Gm} {m : Nat} (hv : IV G H m κ ρ) {i : Nat} (hi : i + 6 ≤ qL Γ) (kk : ∀ κ1 ρ1, (∃ G H m, IV G H m κ1 ρ1) → LQ Γ κ1 ρ1 1729 (lo Γ i) []) : LQ Γ κ ρ 846 (lo Γ i) [] := by
  obtain ⟨r, κ1, ρ1, hv1, e1, e2⟩ := c_crowd (F := 50001) hv (by decide) (qx Γ (i + 1))
  refine l_aload hC (pc := 846) dL_law_846 2 rfl rfl ?_
  refine l_arg hC (pc := 847) (j := 1) (jn := 1) hi dL_law_847 dL_law_848 dL_law_849 dL_law_850 dL_law_851 rfl (by decide) ?_
  refine l_callX hC (pc := 852) (κ1 := κ1) (r := r) [.int (qx Γ (i + 1))] [] (ctX10_crowd (Δ := lX Γ ρ) rfl rfl 50001 κ (qx Γ (i + 1)) (r, κ1) e1) lk_97 (Nat.le_of_ble_eq_true rfl) (Nat.le_of_ble_eq_true rfl) rfl rfl (Nat.le_of_ble_eq_true rfl) dL_law_852 ?_
  refine l_aload hC (pc := 855) dL_law_855 1 rfl rfl ?_
  refine l_arg hC (pc := 856) (j := 1) (jn := 1) hi dL_law_856 dL_law_857 dL_law_858 dL_law_859 dL_law_860 rfl (by decide) ?_
  refine l_callM hC (pc := 861) (ρ1 := ρ1) (r := r) [.int (qx Γ (i + 1))] [.int r] (ctX11_crowd (Δ := lM Γ κ1) rfl rfl 50001 ρ (qx Γ (i + 1)) (r, ρ1) e2) lk_100 (Nat.le_of_ble_eq_true rfl) (Nat.le_of_ble_eq_true rfl) rfl rfl (Nat.le_of_ble_eq_true rfl) dL_law_861 ?_
  exact l_eq hC (pc := 864) (tgt := 1729) dL_law_864 rfl (kk κ1 ρ1 hv1)
theorem lcase_21 {Γ : LCtx} {κ ρ : Mem} (hC : lC Γ) {G : Gm} {H : Nat → Gm} {m : Nat} (hv : IV G H m κ ρ) {i : Nat} (hi : i + 6 ≤ qL Γ) (kk : ∀ κ1 ρ1, (∃ G H m, IV G H m κ1 ρ1) → LQ Γ κ1 ρ1 1729 (lo Γ i) []) : LQ Γ κ ρ 869 (lo Γ i) [] := by
  obtain ⟨r, κ1, ρ1, hv1, e1, e2⟩ := c_twice (F := 50001) hv (by decide) 
  refine l_aload hC (pc := 869) dL_law_869 2 rfl rfl ?_
  refine l_callX hC (pc := 870) (κ1 := κ1) (r := r) [] [] (ctX10_twice (Δ := lX Γ ρ) rfl rfl 50001 κ (r, κ1) e1) lk_101 (Nat.le_of_ble_eq_true rfl) (Nat.le_of_ble_eq_true rfl) rfl rfl (Nat.le_of_ble_eq_true rfl) dL_law_870 ?_
  refine l_aload hC (pc := 873) dL_law_873 1 rfl rfl ?_
  refine l_callM hC (pc := 874) (ρ1 := ρ1) (r := r) [] [.int r] (ctX11_twice (Δ := lM Γ κ1) rfl rfl 50001 ρ (r, ρ1) e2) lk_104 (Nat.le_of_ble_eq_true rfl) (Nat.le_of_ble_eq_true rfl) rfl rfl (Nat.le_of_ble_eq_true rfl) dL_law_874 ?_
  exact l_eq hC (pc := 877) (tgt := 1729) dL_law_877 rfl (kk κ1 ρ1 hv1)
theorem lcase_22 {Γ : LCtx} {κ ρ : Mem} (hC : lC Γ) {G : Gm} {H : Nat → Gm} {m : Nat} (hv : IV G H m κ ρ) {i : Nat} (hi : i + 6 ≤ qL Γ) (kk : ∀ κ1 ρ1, (∃ G H m, IV G H m κ1 ρ1) → LQ Γ κ1 ρ1 1729 (lo Γ i) []) : LQ Γ κ ρ 882 (lo Γ i) [] := by
  obtain ⟨r, κ1, ρ1, hv1, e1, e2⟩ := c_blinded (F := 50001) hv (by decide) (qx Γ (i + 1)) (qx Γ (i + 2))
  refine l_aload hC (pc := 882) dL_law_882 2 rfl rfl ?_
  refine l_arg hC (pc := 883) (j := 1) (jn := 1) hi dL_law_883 dL_law_884 dL_law_885 dL_law_886 dL_law_887 rfl (by decide) ?_
  refine l_arg hC (pc := 888) (j := 2) (jn := 2) hi dL_law_888 dL_law_889 dL_law_890 dL_law_891 dL_law_892 rfl (by decide) ?_
  refine l_callX hC (pc := 893) (κ1 := κ1) (r := r) [.int (qx Γ (i + 1)), .int (qx Γ (i + 2))] [] (ctX10_blinded (Δ := lX Γ ρ) rfl rfl 50001 κ (qx Γ (i + 1)) (qx Γ (i + 2)) (r, κ1) e1) lk_105 (Nat.le_of_ble_eq_true rfl) (Nat.le_of_ble_eq_true rfl) rfl rfl (Nat.le_of_ble_eq_true rfl) dL_law_893 ?_
  refine l_aload hC (pc := 896) dL_law_896 1 rfl rfl ?_
  refine l_arg hC (pc := 897) (j := 1) (jn := 1) hi dL_law_897 dL_law_898 dL_law_899 dL_law_900 dL_law_901 rfl (by decide) ?_
  refine l_arg hC (pc := 902) (j := 2) (jn := 2) hi dL_law_902 dL_law_903 dL_law_904 dL_law_905 dL_law_906 rfl (by decide) ?_
  refine l_callM hC (pc := 907) (ρ1 := ρ1) (r := r) [.int (qx Γ (i + 1)), .int (qx Γ (i + 2))] [.int r] (ctX11_blinded (Δ := lM Γ κ1) rfl rfl 50001 ρ (qx Γ (i + 1)) (qx Γ (i + 2)) (r, ρ1) e2) lk_108 (Nat.le_of_ble_eq_true rfl) (Nat.le_of_ble_eq_true rfl) rfl rfl (Nat.le_of_ble_eq_true rfl) dL_law_907 ?_
  exact l_eq hC (pc := 910) (tgt := 1729) dL_law_910 rfl (kk κ1 ρ1 hv1)
theorem lcase_23 {Γ : LCtx} {κ ρ : Mem} (hC : lC Γ) {G : Gm} {H : Nat → Gm} {m : Nat} (hv : IV G H m κ ρ) {i : Nat} (hi : i + 6 ≤ qL Γ) (kk : ∀ κ1 ρ1, (∃ G H m, IV G H m κ1 ρ1) → LQ Γ κ1 ρ1 1729 (lo Γ i) []) : LQ Γ κ ρ 915 (lo Γ i) [] := by
  by_cases hz : qx Γ (i + 1) = 0
  · obtain ⟨r, κ1, ρ1, hv1, e1, e2⟩ := c_weakest (F := 50001) hv (by decide) (nI 0)
    refine l_aload hC (pc := 915) dL_law_915 2 rfl rfl ?_
    refine l_arg hC (pc := 916) (j := 1) (jn := 1) hi dL_law_916 dL_law_917 dL_law_918 dL_law_919 dL_law_920 rfl (by decide) ?_
    refine l_if0y hC (pc := 921) (tgt := 928) hz dL_law_921 rfl ?_
    refine l_iconst hC (pc := 928) (v := nI 0) dL_law_928 rfl ?_
    refine l_callX hC (pc := 929) (κ1 := κ1) (r := r) [.int (nI 0)] [] (ctX10_weakest (Δ := lX Γ ρ) rfl rfl 50001 κ (nI 0) (r, κ1) e1) lk_109 (Nat.le_of_ble_eq_true rfl) (Nat.le_of_ble_eq_true rfl) rfl rfl (Nat.le_of_ble_eq_true rfl) dL_law_929 ?_
    refine l_aload hC (pc := 932) dL_law_932 1 rfl rfl ?_
    refine l_arg hC (pc := 933) (j := 1) (jn := 1) hi dL_law_933 dL_law_934 dL_law_935 dL_law_936 dL_law_937 rfl (by decide) ?_
    refine l_if0y hC (pc := 938) (tgt := 945) hz dL_law_938 rfl ?_
    refine l_iconst hC (pc := 945) (v := nI 0) dL_law_945 rfl ?_
    refine l_callM hC (pc := 946) (ρ1 := ρ1) (r := r) [.int (nI 0)] [.int r] (ctX11_weakest (Δ := lM Γ κ1) rfl rfl 50001 ρ (nI 0) (r, ρ1) e2) lk_113 (Nat.le_of_ble_eq_true rfl) (Nat.le_of_ble_eq_true rfl) rfl rfl (Nat.le_of_ble_eq_true rfl) dL_law_946 ?_
    exact l_eq hC (pc := 949) (tgt := 1729) dL_law_949 rfl (kk κ1 ρ1 hv1)
  · obtain ⟨r, κ1, ρ1, hv1, e1, e2⟩ := c_weakest (F := 50001) hv (by decide) (nI 1)
    refine l_aload hC (pc := 915) dL_law_915 2 rfl rfl ?_
    refine l_arg hC (pc := 916) (j := 1) (jn := 1) hi dL_law_916 dL_law_917 dL_law_918 dL_law_919 dL_law_920 rfl (by decide) ?_
    refine l_if0n hC (pc := 921) (tgt := 928) hz dL_law_921 rfl ?_
    refine l_iconst hC (pc := 924) (v := nI 1) dL_law_924 rfl ?_
    refine l_goto hC (pc := 925) (tgt := 929) dL_law_925 rfl ?_
    refine l_callX hC (pc := 929) (κ1 := κ1) (r := r) [.int (nI 1)] [] (ctX10_weakest (Δ := lX Γ ρ) rfl rfl 50001 κ (nI 1) (r, κ1) e1) lk_109 (Nat.le_of_ble_eq_true rfl) (Nat.le_of_ble_eq_true rfl) rfl rfl (Nat.le_of_ble_eq_true rfl) dL_law_929 ?_
    refine l_aload hC (pc := 932) dL_law_932 1 rfl rfl ?_
    refine l_arg hC (pc := 933) (j := 1) (jn := 1) hi dL_law_933 dL_law_934 dL_law_935 dL_law_936 dL_law_937 rfl (by decide) ?_
    refine l_if0n hC (pc := 938) (tgt := 945) hz dL_law_938 rfl ?_
    refine l_iconst hC (pc := 941) (v := nI 1) dL_law_941 rfl ?_
    refine l_goto hC (pc := 942) (tgt := 946) dL_law_942 rfl ?_
    refine l_callM hC (pc := 946) (ρ1 := ρ1) (r := r) [.int (nI 1)] [.int r] (ctX11_weakest (Δ := lM Γ κ1) rfl rfl 50001 ρ (nI 1) (r, ρ1) e2) lk_113 (Nat.le_of_ble_eq_true rfl) (Nat.le_of_ble_eq_true rfl) rfl rfl (Nat.le_of_ble_eq_true rfl) dL_law_946 ?_
    exact l_eq hC (pc := 949) (tgt := 1729) dL_law_949 rfl (kk κ1 ρ1 hv1)
theorem lcase_24 {Γ : LCtx} {κ ρ : Mem} (hC : lC Γ) {G : Gm} {H : Nat → Gm} {m : Nat} (hv : IV G H m κ ρ) {i : Nat} (hi : i + 6 ≤ qL Γ) (kk : ∀ κ1 ρ1, (∃ G H m, IV G H m κ1 ρ1) → LQ Γ κ1 ρ1 1729 (lo Γ i) []) : LQ Γ κ ρ 954 (lo Γ i) [] := by
  obtain ⟨r, κ1, ρ1, hv1, e1, e2⟩ := c_needed (F := 50001) hv (by decide) 
  refine l_aload hC (pc := 954) dL_law_954 2 rfl rfl ?_
  refine l_callX hC (pc := 955) (κ1 := κ1) (r := r) [] [] (ctX10_needed (Δ := lX Γ ρ) rfl rfl 50001 κ (r, κ1) e1) lk_114 (Nat.le_of_ble_eq_true rfl) (Nat.le_of_ble_eq_true rfl) rfl rfl (Nat.le_of_ble_eq_true rfl) dL_law_955 ?_
  refine l_aload hC (pc := 958) dL_law_958 1 rfl rfl ?_
  refine l_callM hC (pc := 959) (ρ1 := ρ1) (r := r) [] [.int r] (ctX11_needed (Δ := lM Γ κ1) rfl rfl 50001 ρ (r, ρ1) e2) lk_117 (Nat.le_of_ble_eq_true rfl) (Nat.le_of_ble_eq_true rfl) rfl rfl (Nat.le_of_ble_eq_true rfl) dL_law_959 ?_
  exact l_eq hC (pc := 962) (tgt := 1729) dL_law_962 rfl (kk κ1 ρ1 hv1)
theorem lcase_25 {Γ : LCtx} {κ ρ : Mem} (hC : lC Γ) {G : Gm} {H : Nat → Gm} {m : Nat} (hv : IV G H m κ ρ) {i : Nat} (hi : i + 6 ≤ qL Γ) (kk : ∀ κ1 ρ1, (∃ G H m, IV G H m κ1 ρ1) → LQ Γ κ1 ρ1 1729 (lo Γ i) []) : LQ Γ κ ρ 967 (lo Γ i) [] := by
  obtain ⟨r, κ1, ρ1, hv1, e1, e2⟩ := c_known (F := 50001) hv (by decide) (qx Γ (i + 1)) (qx Γ (i + 2))
  refine l_aload hC (pc := 967) dL_law_967 2 rfl rfl ?_
  refine l_arg hC (pc := 968) (j := 1) (jn := 1) hi dL_law_968 dL_law_969 dL_law_970 dL_law_971 dL_law_972 rfl (by decide) ?_
  refine l_arg hC (pc := 973) (j := 2) (jn := 2) hi dL_law_973 dL_law_974 dL_law_975 dL_law_976 dL_law_977 rfl (by decide) ?_
  refine l_callX hC (pc := 978) (κ1 := κ1) (r := r) [.int (qx Γ (i + 1)), .int (qx Γ (i + 2))] [] (ctX10_known (Δ := lX Γ ρ) rfl rfl 50001 κ (qx Γ (i + 1)) (qx Γ (i + 2)) (r, κ1) e1) lk_118 (Nat.le_of_ble_eq_true rfl) (Nat.le_of_ble_eq_true rfl) rfl rfl (Nat.le_of_ble_eq_true rfl) dL_law_978 ?_
  refine l_aload hC (pc := 981) dL_law_981 1 rfl rfl ?_
  refine l_arg hC (pc := 982) (j := 1) (jn := 1) hi dL_law_982 dL_law_983 dL_law_984 dL_law_985 dL_law_986 rfl (by decide) ?_
  refine l_arg hC (pc := 987) (j := 2) (jn := 2) hi dL_law_987 dL_law_988 dL_law_989 dL_law_990 dL_law_991 rfl (by decide) ?_
  refine l_callM hC (pc := 992) (ρ1 := ρ1) (r := r) [.int (qx Γ (i + 1)), .int (qx Γ (i + 2))] [.int r] (ctX11_known (Δ := lM Γ κ1) rfl rfl 50001 ρ (qx Γ (i + 1)) (qx Γ (i + 2)) (r, ρ1) e2) lk_121 (Nat.le_of_ble_eq_true rfl) (Nat.le_of_ble_eq_true rfl) rfl rfl (Nat.le_of_ble_eq_true rfl) dL_law_992 ?_
  exact l_eq hC (pc := 995) (tgt := 1729) dL_law_995 rfl (kk κ1 ρ1 hv1)
theorem lcase_26 {Γ : LCtx} {κ ρ : Mem} (hC : lC Γ) {G : Gm} {H : Nat → Gm} {m : Nat} (hv : IV G H m κ ρ) {i : Nat} (hi : i + 6 ≤ qL Γ) (kk : ∀ κ1 ρ1, (∃ G H m, IV G H m κ1 ρ1) → LQ Γ κ1 ρ1 1729 (lo Γ i) []) : LQ Γ κ ρ 1000 (lo Γ i) [] := by
  obtain ⟨r, κ1, ρ1, hv1, e1, e2⟩ := c_nearest (F := 50001) hv (by decide) (qx Γ (i + 1)) (qx Γ (i + 2))
  refine l_aload hC (pc := 1000) dL_law_1000 2 rfl rfl ?_
  refine l_arg hC (pc := 1001) (j := 1) (jn := 1) hi dL_law_1001 dL_law_1002 dL_law_1003 dL_law_1004 dL_law_1005 rfl (by decide) ?_
  refine l_arg hC (pc := 1006) (j := 2) (jn := 2) hi dL_law_1006 dL_law_1007 dL_law_1008 dL_law_1009 dL_law_1010 rfl (by decide) ?_
  refine l_callX hC (pc := 1011) (κ1 := κ1) (r := r) [.int (qx Γ (i + 1)), .int (qx Γ (i + 2))] [] (ctX10_nearest (Δ := lX Γ ρ) rfl rfl 50001 κ (qx Γ (i + 1)) (qx Γ (i + 2)) (r, κ1) e1) lk_122 (Nat.le_of_ble_eq_true rfl) (Nat.le_of_ble_eq_true rfl) rfl rfl (Nat.le_of_ble_eq_true rfl) dL_law_1011 ?_
  refine l_aload hC (pc := 1014) dL_law_1014 1 rfl rfl ?_
  refine l_arg hC (pc := 1015) (j := 1) (jn := 1) hi dL_law_1015 dL_law_1016 dL_law_1017 dL_law_1018 dL_law_1019 rfl (by decide) ?_
  refine l_arg hC (pc := 1020) (j := 2) (jn := 2) hi dL_law_1020 dL_law_1021 dL_law_1022 dL_law_1023 dL_law_1024 rfl (by decide) ?_
  refine l_callM hC (pc := 1025) (ρ1 := ρ1) (r := r) [.int (qx Γ (i + 1)), .int (qx Γ (i + 2))] [.int r] (ctX11_nearest (Δ := lM Γ κ1) rfl rfl 50001 ρ (qx Γ (i + 1)) (qx Γ (i + 2)) (r, ρ1) e2) lk_125 (Nat.le_of_ble_eq_true rfl) (Nat.le_of_ble_eq_true rfl) rfl rfl (Nat.le_of_ble_eq_true rfl) dL_law_1025 ?_
  exact l_eq hC (pc := 1028) (tgt := 1729) dL_law_1028 rfl (kk κ1 ρ1 hv1)
theorem lcase_27 {Γ : LCtx} {κ ρ : Mem} (hC : lC Γ) {G : Gm} {H : Nat → Gm} {m : Nat} (hv : IV G H m κ ρ) {i : Nat} (hi : i + 6 ≤ qL Γ) (kk : ∀ κ1 ρ1, (∃ G H m, IV G H m κ1 ρ1) → LQ Γ κ1 ρ1 1729 (lo Γ i) []) : LQ Γ κ ρ 1033 (lo Γ i) [] := by
  obtain ⟨r, κ1, ρ1, hv1, e1, e2⟩ := c_atLeast (F := 50001) hv (by decide) (qx Γ (i + 1))
  refine l_aload hC (pc := 1033) dL_law_1033 2 rfl rfl ?_
  refine l_arg hC (pc := 1034) (j := 1) (jn := 1) hi dL_law_1034 dL_law_1035 dL_law_1036 dL_law_1037 dL_law_1038 rfl (by decide) ?_
  refine l_callX hC (pc := 1039) (κ1 := κ1) (r := r) [.int (qx Γ (i + 1))] [] (ctX10_atLeast (Δ := lX Γ ρ) rfl rfl 50001 κ (qx Γ (i + 1)) (r, κ1) e1) lk_126 (Nat.le_of_ble_eq_true rfl) (Nat.le_of_ble_eq_true rfl) rfl rfl (Nat.le_of_ble_eq_true rfl) dL_law_1039 ?_
  refine l_aload hC (pc := 1042) dL_law_1042 1 rfl rfl ?_
  refine l_arg hC (pc := 1043) (j := 1) (jn := 1) hi dL_law_1043 dL_law_1044 dL_law_1045 dL_law_1046 dL_law_1047 rfl (by decide) ?_
  refine l_callM hC (pc := 1048) (ρ1 := ρ1) (r := r) [.int (qx Γ (i + 1))] [.int r] (ctX11_atLeast (Δ := lM Γ κ1) rfl rfl 50001 ρ (qx Γ (i + 1)) (r, ρ1) e2) lk_129 (Nat.le_of_ble_eq_true rfl) (Nat.le_of_ble_eq_true rfl) rfl rfl (Nat.le_of_ble_eq_true rfl) dL_law_1048 ?_
  exact l_eq hC (pc := 1051) (tgt := 1729) dL_law_1051 rfl (kk κ1 ρ1 hv1)
theorem lcase_28 {Γ : LCtx} {κ ρ : Mem} (hC : lC Γ) {G : Gm} {H : Nat → Gm} {m : Nat} (hv : IV G H m κ ρ) {i : Nat} (hi : i + 6 ≤ qL Γ) (kk : ∀ κ1 ρ1, (∃ G H m, IV G H m κ1 ρ1) → LQ Γ κ1 ρ1 1729 (lo Γ i) []) : LQ Γ κ ρ 1056 (lo Γ i) [] := by
  obtain ⟨r, κ1, ρ1, hv1, e1, e2⟩ := c_acyclic (F := 50001) hv (by decide) 
  refine l_aload hC (pc := 1056) dL_law_1056 2 rfl rfl ?_
  refine l_callX hC (pc := 1057) (κ1 := κ1) (r := r) [] [] (ctX10_acyclic (Δ := lX Γ ρ) rfl rfl 50001 κ (r, κ1) e1) lk_130 (Nat.le_of_ble_eq_true rfl) (Nat.le_of_ble_eq_true rfl) rfl rfl (Nat.le_of_ble_eq_true rfl) dL_law_1057 ?_
  refine l_aload hC (pc := 1060) dL_law_1060 1 rfl rfl ?_
  refine l_callM hC (pc := 1061) (ρ1 := ρ1) (r := r) [] [.int r] (ctX11_acyclic (Δ := lM Γ κ1) rfl rfl 50001 ρ (r, ρ1) e2) lk_133 (Nat.le_of_ble_eq_true rfl) (Nat.le_of_ble_eq_true rfl) rfl rfl (Nat.le_of_ble_eq_true rfl) dL_law_1061 ?_
  exact l_eq hC (pc := 1064) (tgt := 1729) dL_law_1064 rfl (kk κ1 ρ1 hv1)
