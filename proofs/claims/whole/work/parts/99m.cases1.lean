/-! THE LAW: its cases -/
set_option maxHeartbeats 1000000 in
theorem zl_case0 {p : Program} {l : Launch} {e : Env} {s : State} {m : MethodId} {below : List Frame} {meth : Method} {c : Code} {b L : Nat} {xs : Nat → Int32} {G : zG} {σ : zS} {H : Heap} {locs : List Loc} {ls : Array Slot} {i : Nat} (LC : zLC G l p s m meth c b L xs) (hl : lv_has ls 4 (zll G b i)) (w : zLw G s σ H locs) (hi : i + 7 ≤ L) (hz : zinv σ) (k : ∀ (σ2 : zS) (H2 : Heap) (locs2 : List Loc), zinv σ2 → zLw G s σ2 H2 locs2 → zLW p l e s m b below meth c H2 locs2 (F0 m 2299 ls [])) : zLW p l e s m b below meth c H locs (F0 m 280 ls []) := by
  have hx := LC.1.1
  have hb := LC.1.2.1
  refine lv_aload_n hx hb dL_280 rfl (lv_at hl 1 rfl) ?_
  refine zl_arg (k := 1) LC hl w hi (by decide) dL_281 dL_282 dL_283 dL_284 dL_285 ?_
  refine zl_call (M' := MX11_days) (as := [zi (zx xs (i + 1))]) (q := 0) (ci := 11) (rs := (zsh 0).2.2) LC mkX11_days (zin_3 (List.mem_of_getElem? (i := 82) (by decide +kernel))) rfl (by decide +kernel) rfl (by decide) (Nat.le_of_ble_eq_true rfl) rfl (zkc zx_in (fun v hv => absurd hv List.not_mem_nil)) hl w dL_286 (st_days hz) (fun r σ1 H1 locs1 hr1 hq1 w => ?_)
  refine lv_aload_n hx hb dL_289 rfl (lv_at hl 2 rfl) ?_
  refine zl_arg (k := 1) LC hl w hi (by decide) dL_290 dL_291 dL_292 dL_293 dL_294 ?_
  refine zl_call (M' := MX12_days) (as := [zi (zx xs (i + 1))]) (q := 98) (ci := 12) (rs := (zsh 98).2.2) LC mkX12_days (zin_8 (List.mem_of_getElem? (i := 165) (by decide +kernel))) rfl (by decide +kernel) rfl (by decide) (Nat.le_of_ble_eq_true rfl) rfl (zkc zx_in (fun v hv => absurd hv List.not_mem_nil)) hl w dL_295 hq1 (fun r2 σ2 H2 locs2 hr2 hq2 w2 => ?_)
  obtain ⟨he, hz2⟩ := hq2
  subst he
  exact zl_same hx hb dL_298 (by decide) (k σ2 H2 locs2 hz2 w2)
set_option maxHeartbeats 1000000 in
theorem zl_case1 {p : Program} {l : Launch} {e : Env} {s : State} {m : MethodId} {below : List Frame} {meth : Method} {c : Code} {b L : Nat} {xs : Nat → Int32} {G : zG} {σ : zS} {H : Heap} {locs : List Loc} {ls : Array Slot} {i : Nat} (LC : zLC G l p s m meth c b L xs) (hl : lv_has ls 4 (zll G b i)) (w : zLw G s σ H locs) (hi : i + 7 ≤ L) (hz : zinv σ) (k : ∀ (σ2 : zS) (H2 : Heap) (locs2 : List Loc), zinv σ2 → zLw G s σ2 H2 locs2 → zLW p l e s m b below meth c H2 locs2 (F0 m 2299 ls [])) : zLW p l e s m b below meth c H locs (F0 m 303 ls []) := by
  have hx := LC.1.1
  have hb := LC.1.2.1
  refine lv_aload_n hx hb dL_303 rfl (lv_at hl 1 rfl) ?_
  refine zl_arg (k := 1) LC hl w hi (by decide) dL_304 dL_305 dL_306 dL_307 dL_308 ?_
  refine zl_call (M' := MX11_person) (as := [zi (zx xs (i + 1))]) (q := 0) (ci := 11) (rs := (zsh 0).2.2) LC mkX11_person (zin_3 (List.mem_of_getElem? (i := 214) (by decide +kernel))) rfl (by decide +kernel) rfl (by decide) (Nat.le_of_ble_eq_true rfl) rfl (zkc zx_in (fun v hv => absurd hv List.not_mem_nil)) hl w dL_309 (st_person hz) (fun r σ1 H1 locs1 hr1 hq1 w => ?_)
  refine lv_aload_n hx hb dL_312 rfl (lv_at hl 2 rfl) ?_
  refine zl_arg (k := 1) LC hl w hi (by decide) dL_313 dL_314 dL_315 dL_316 dL_317 ?_
  refine zl_call (M' := MX12_person) (as := [zi (zx xs (i + 1))]) (q := 98) (ci := 12) (rs := (zsh 98).2.2) LC mkX12_person (zin_7 (List.mem_of_getElem? (i := 193) (by decide +kernel))) rfl (by decide +kernel) rfl (by decide) (Nat.le_of_ble_eq_true rfl) rfl (zkc zx_in (fun v hv => absurd hv List.not_mem_nil)) hl w dL_318 hq1 (fun r2 σ2 H2 locs2 hr2 hq2 w2 => ?_)
  obtain ⟨he, hz2⟩ := hq2
  subst he
  exact zl_same hx hb dL_321 (by decide) (k σ2 H2 locs2 hz2 w2)
set_option maxHeartbeats 1000000 in
theorem zl_case2 {p : Program} {l : Launch} {e : Env} {s : State} {m : MethodId} {below : List Frame} {meth : Method} {c : Code} {b L : Nat} {xs : Nat → Int32} {G : zG} {σ : zS} {H : Heap} {locs : List Loc} {ls : Array Slot} {i : Nat} (LC : zLC G l p s m meth c b L xs) (hl : lv_has ls 4 (zll G b i)) (w : zLw G s σ H locs) (hi : i + 7 ≤ L) (hz : zinv σ) (k : ∀ (σ2 : zS) (H2 : Heap) (locs2 : List Loc), zinv σ2 → zLw G s σ2 H2 locs2 → zLW p l e s m b below meth c H2 locs2 (F0 m 2299 ls [])) : zLW p l e s m b below meth c H locs (F0 m 326 ls []) := by
  have hx := LC.1.1
  have hb := LC.1.2.1
  refine lv_aload_n hx hb dL_326 rfl (lv_at hl 1 rfl) ?_
  refine zl_arg (k := 1) LC hl w hi (by decide) dL_327 dL_328 dL_329 dL_330 dL_331 ?_
  refine zl_call (M' := MX11_founder) (as := [zi (zx xs (i + 1))]) (q := 0) (ci := 11) (rs := (zsh 0).2.2) LC mkX11_founder (zin_3 (List.mem_of_getElem? (i := 223) (by decide +kernel))) rfl (by decide +kernel) rfl (by decide) (Nat.le_of_ble_eq_true rfl) rfl (zkc zx_in (fun v hv => absurd hv List.not_mem_nil)) hl w dL_332 (st_founder hz) (fun r σ1 H1 locs1 hr1 hq1 w => ?_)
  refine lv_aload_n hx hb dL_335 rfl (lv_at hl 2 rfl) ?_
  refine zl_arg (k := 1) LC hl w hi (by decide) dL_336 dL_337 dL_338 dL_339 dL_340 ?_
  refine zl_call (M' := MX12_founder) (as := [zi (zx xs (i + 1))]) (q := 98) (ci := 12) (rs := (zsh 98).2.2) LC mkX12_founder (zin_7 (List.mem_of_getElem? (i := 203) (by decide +kernel))) rfl (by decide +kernel) rfl (by decide) (Nat.le_of_ble_eq_true rfl) rfl (zkc zx_in (fun v hv => absurd hv List.not_mem_nil)) hl w dL_341 hq1 (fun r2 σ2 H2 locs2 hr2 hq2 w2 => ?_)
  obtain ⟨he, hz2⟩ := hq2
  subst he
  exact zl_same hx hb dL_344 (by decide) (k σ2 H2 locs2 hz2 w2)
set_option maxHeartbeats 1000000 in
theorem zl_case3 {p : Program} {l : Launch} {e : Env} {s : State} {m : MethodId} {below : List Frame} {meth : Method} {c : Code} {b L : Nat} {xs : Nat → Int32} {G : zG} {σ : zS} {H : Heap} {locs : List Loc} {ls : Array Slot} {i : Nat} (LC : zLC G l p s m meth c b L xs) (hl : lv_has ls 4 (zll G b i)) (w : zLw G s σ H locs) (hi : i + 7 ≤ L) (hz : zinv σ) (k : ∀ (σ2 : zS) (H2 : Heap) (locs2 : List Loc), zinv σ2 → zLw G s σ2 H2 locs2 → zLW p l e s m b below meth c H2 locs2 (F0 m 2299 ls [])) : zLW p l e s m b below meth c H locs (F0 m 349 ls []) := by
  have hx := LC.1.1
  have hb := LC.1.2.1
  refine lv_aload_n hx hb dL_349 rfl (lv_at hl 1 rfl) ?_
  refine zl_arg (k := 1) LC hl w hi (by decide) dL_350 dL_351 dL_352 dL_353 dL_354 ?_
  refine zl_arg (k := 2) LC hl w hi (by decide) dL_355 dL_356 dL_357 dL_358 dL_359 ?_
  refine zl_arg (k := 3) LC hl w hi (by decide) dL_360 dL_361 dL_362 dL_363 dL_364 ?_
  refine zl_call (M' := MX11_link) (as := [zi (zx xs (i + 1)), zi (zx xs (i + 2)), zi (zx xs (i + 3))]) (q := 0) (ci := 11) (rs := (zsh 0).2.2) LC mkX11_link (zin_3 (List.mem_of_getElem? (i := 231) (by decide +kernel))) rfl (by decide +kernel) rfl (by decide) (Nat.le_of_ble_eq_true rfl) rfl (zkc zx_in (zkc zx_in (zkc zx_in (fun v hv => absurd hv List.not_mem_nil)))) hl w dL_365 (st_link hz) (fun r σ1 H1 locs1 hr1 hq1 w => ?_)
  refine lv_aload_n hx hb dL_368 rfl (lv_at hl 2 rfl) ?_
  refine zl_arg (k := 1) LC hl w hi (by decide) dL_369 dL_370 dL_371 dL_372 dL_373 ?_
  refine zl_arg (k := 2) LC hl w hi (by decide) dL_374 dL_375 dL_376 dL_377 dL_378 ?_
  refine zl_arg (k := 3) LC hl w hi (by decide) dL_379 dL_380 dL_381 dL_382 dL_383 ?_
  refine zl_call (M' := MX12_link) (as := [zi (zx xs (i + 1)), zi (zx xs (i + 2)), zi (zx xs (i + 3))]) (q := 98) (ci := 12) (rs := (zsh 98).2.2) LC mkX12_link (zin_7 (List.mem_of_getElem? (i := 211) (by decide +kernel))) rfl (by decide +kernel) rfl (by decide) (Nat.le_of_ble_eq_true rfl) rfl (zkc zx_in (zkc zx_in (zkc zx_in (fun v hv => absurd hv List.not_mem_nil)))) hl w dL_384 hq1 (fun r2 σ2 H2 locs2 hr2 hq2 w2 => ?_)
  obtain ⟨he, hz2⟩ := hq2
  subst he
  exact zl_same hx hb dL_387 (by decide) (k σ2 H2 locs2 hz2 w2)
set_option maxHeartbeats 1000000 in
theorem zl_case4 {p : Program} {l : Launch} {e : Env} {s : State} {m : MethodId} {below : List Frame} {meth : Method} {c : Code} {b L : Nat} {xs : Nat → Int32} {G : zG} {σ : zS} {H : Heap} {locs : List Loc} {ls : Array Slot} {i : Nat} (LC : zLC G l p s m meth c b L xs) (hl : lv_has ls 4 (zll G b i)) (w : zLw G s σ H locs) (hi : i + 7 ≤ L) (hz : zinv σ) (k : ∀ (σ2 : zS) (H2 : Heap) (locs2 : List Loc), zinv σ2 → zLw G s σ2 H2 locs2 → zLW p l e s m b below meth c H2 locs2 (F0 m 2299 ls [])) : zLW p l e s m b below meth c H locs (F0 m 392 ls []) := by
  have hx := LC.1.1
  have hb := LC.1.2.1
  refine lv_aload_n hx hb dL_392 rfl (lv_at hl 1 rfl) ?_
  refine zl_arg (k := 1) LC hl w hi (by decide) dL_393 dL_394 dL_395 dL_396 dL_397 ?_
  refine zl_arg (k := 2) LC hl w hi (by decide) dL_398 dL_399 dL_400 dL_401 dL_402 ?_
  refine zl_arg (k := 3) LC hl w hi (by decide) dL_403 dL_404 dL_405 dL_406 dL_407 ?_
  refine zl_arg (k := 4) LC hl w hi (by decide) dL_408 dL_409 dL_410 dL_411 dL_412 ?_
  refine zl_call (M' := MX11_fact) (as := [zi (zx xs (i + 1)), zi (zx xs (i + 2)), zi (zx xs (i + 3)), zi (zx xs (i + 4))]) (q := 0) (ci := 11) (rs := (zsh 0).2.2) LC mkX11_fact (zin_3 (List.mem_of_getElem? (i := 239) (by decide +kernel))) rfl (by decide +kernel) rfl (by decide) (Nat.le_of_ble_eq_true rfl) rfl (zkc zx_in (zkc zx_in (zkc zx_in (zkc zx_in (fun v hv => absurd hv List.not_mem_nil))))) hl w dL_413 (st_fact hz) (fun r σ1 H1 locs1 hr1 hq1 w => ?_)
  refine lv_aload_n hx hb dL_416 rfl (lv_at hl 2 rfl) ?_
  refine zl_arg (k := 1) LC hl w hi (by decide) dL_417 dL_418 dL_419 dL_420 dL_421 ?_
  refine zl_arg (k := 2) LC hl w hi (by decide) dL_422 dL_423 dL_424 dL_425 dL_426 ?_
  refine zl_arg (k := 3) LC hl w hi (by decide) dL_427 dL_428 dL_429 dL_430 dL_431 ?_
  refine zl_arg (k := 4) LC hl w hi (by decide) dL_432 dL_433 dL_434 dL_435 dL_436 ?_
  refine zl_call (M' := MX12_fact) (as := [zi (zx xs (i + 1)), zi (zx xs (i + 2)), zi (zx xs (i + 3)), zi (zx xs (i + 4))]) (q := 98) (ci := 12) (rs := (zsh 98).2.2) LC mkX12_fact (zin_7 (List.mem_of_getElem? (i := 219) (by decide +kernel))) rfl (by decide +kernel) rfl (by decide) (Nat.le_of_ble_eq_true rfl) rfl (zkc zx_in (zkc zx_in (zkc zx_in (zkc zx_in (fun v hv => absurd hv List.not_mem_nil))))) hl w dL_437 hq1 (fun r2 σ2 H2 locs2 hr2 hq2 w2 => ?_)
  obtain ⟨he, hz2⟩ := hq2
  subst he
  exact zl_same hx hb dL_440 (by decide) (k σ2 H2 locs2 hz2 w2)
set_option maxHeartbeats 1000000 in
theorem zl_case5 {p : Program} {l : Launch} {e : Env} {s : State} {m : MethodId} {below : List Frame} {meth : Method} {c : Code} {b L : Nat} {xs : Nat → Int32} {G : zG} {σ : zS} {H : Heap} {locs : List Loc} {ls : Array Slot} {i : Nat} (LC : zLC G l p s m meth c b L xs) (hl : lv_has ls 4 (zll G b i)) (w : zLw G s σ H locs) (hi : i + 7 ≤ L) (hz : zinv σ) (k : ∀ (σ2 : zS) (H2 : Heap) (locs2 : List Loc), zinv σ2 → zLw G s σ2 H2 locs2 → zLW p l e s m b below meth c H2 locs2 (F0 m 2299 ls [])) : zLW p l e s m b below meth c H locs (F0 m 445 ls []) := by
  have hx := LC.1.1
  have hb := LC.1.2.1
  refine lv_aload_n hx hb dL_445 rfl (lv_at hl 1 rfl) ?_
  refine zl_arg (k := 1) LC hl w hi (by decide) dL_446 dL_447 dL_448 dL_449 dL_450 ?_
  refine zl_arg (k := 2) LC hl w hi (by decide) dL_451 dL_452 dL_453 dL_454 dL_455 ?_
  refine zl_call (M' := MX11_death) (as := [zi (zx xs (i + 1)), zi (zx xs (i + 2))]) (q := 0) (ci := 11) (rs := (zsh 0).2.2) LC mkX11_death (zin_4 (List.mem_of_getElem? (i := 7) (by decide +kernel))) rfl (by decide +kernel) rfl (by decide) (Nat.le_of_ble_eq_true rfl) rfl (zkc zx_in (zkc zx_in (fun v hv => absurd hv List.not_mem_nil))) hl w dL_456 (st_death hz) (fun r σ1 H1 locs1 hr1 hq1 w => ?_)
  refine lv_aload_n hx hb dL_459 rfl (lv_at hl 2 rfl) ?_
  refine zl_arg (k := 1) LC hl w hi (by decide) dL_460 dL_461 dL_462 dL_463 dL_464 ?_
  refine zl_arg (k := 2) LC hl w hi (by decide) dL_465 dL_466 dL_467 dL_468 dL_469 ?_
  refine zl_call (M' := MX12_death) (as := [zi (zx xs (i + 1)), zi (zx xs (i + 2))]) (q := 98) (ci := 12) (rs := (zsh 98).2.2) LC mkX12_death (zin_7 (List.mem_of_getElem? (i := 223) (by decide +kernel))) rfl (by decide +kernel) rfl (by decide) (Nat.le_of_ble_eq_true rfl) rfl (zkc zx_in (zkc zx_in (fun v hv => absurd hv List.not_mem_nil))) hl w dL_470 hq1 (fun r2 σ2 H2 locs2 hr2 hq2 w2 => ?_)
  obtain ⟨he, hz2⟩ := hq2
  subst he
  exact zl_same hx hb dL_473 (by decide) (k σ2 H2 locs2 hz2 w2)
set_option maxHeartbeats 1000000 in
theorem zl_case6 {p : Program} {l : Launch} {e : Env} {s : State} {m : MethodId} {below : List Frame} {meth : Method} {c : Code} {b L : Nat} {xs : Nat → Int32} {G : zG} {σ : zS} {H : Heap} {locs : List Loc} {ls : Array Slot} {i : Nat} (LC : zLC G l p s m meth c b L xs) (hl : lv_has ls 4 (zll G b i)) (w : zLw G s σ H locs) (hi : i + 7 ≤ L) (hz : zinv σ) (k : ∀ (σ2 : zS) (H2 : Heap) (locs2 : List Loc), zinv σ2 → zLw G s σ2 H2 locs2 → zLW p l e s m b below meth c H2 locs2 (F0 m 2299 ls [])) : zLW p l e s m b below meth c H locs (F0 m 478 ls []) := by
  have hx := LC.1.1
  have hb := LC.1.2.1
  refine lv_aload_n hx hb dL_478 rfl (lv_at hl 1 rfl) ?_
  refine zl_arg (k := 1) LC hl w hi (by decide) dL_479 dL_480 dL_481 dL_482 dL_483 ?_
  refine zl_arg (k := 2) LC hl w hi (by decide) dL_484 dL_485 dL_486 dL_487 dL_488 ?_
  refine zl_arg (k := 3) LC hl w hi (by decide) dL_489 dL_490 dL_491 dL_492 dL_493 ?_
  refine zl_arg (k := 4) LC hl w hi (by decide) dL_494 dL_495 dL_496 dL_497 dL_498 ?_
  refine zl_call (M' := MX11_is) (as := [zi (zx xs (i + 1)), zi (zx xs (i + 2)), zi (zx xs (i + 3)), zi (zx xs (i + 4))]) (q := 0) (ci := 11) (rs := (zsh 0).2.2) LC mkX11_is (zin_4 (List.mem_of_getElem? (i := 11) (by decide +kernel))) rfl (by decide +kernel) rfl (by decide) (Nat.le_of_ble_eq_true rfl) rfl (zkc zx_in (zkc zx_in (zkc zx_in (zkc zx_in (fun v hv => absurd hv List.not_mem_nil))))) hl w dL_499 (st_is hz) (fun r σ1 H1 locs1 hr1 hq1 w => ?_)
  refine lv_aload_n hx hb dL_502 rfl (lv_at hl 2 rfl) ?_
  refine zl_arg (k := 1) LC hl w hi (by decide) dL_503 dL_504 dL_505 dL_506 dL_507 ?_
  refine zl_arg (k := 2) LC hl w hi (by decide) dL_508 dL_509 dL_510 dL_511 dL_512 ?_
  refine zl_arg (k := 3) LC hl w hi (by decide) dL_513 dL_514 dL_515 dL_516 dL_517 ?_
  refine zl_arg (k := 4) LC hl w hi (by decide) dL_518 dL_519 dL_520 dL_521 dL_522 ?_
  refine zl_call (M' := MX12_is) (as := [zi (zx xs (i + 1)), zi (zx xs (i + 2)), zi (zx xs (i + 3)), zi (zx xs (i + 4))]) (q := 98) (ci := 12) (rs := (zsh 98).2.2) LC mkX12_is (zin_7 (List.mem_of_getElem? (i := 227) (by decide +kernel))) rfl (by decide +kernel) rfl (by decide) (Nat.le_of_ble_eq_true rfl) rfl (zkc zx_in (zkc zx_in (zkc zx_in (zkc zx_in (fun v hv => absurd hv List.not_mem_nil))))) hl w dL_523 hq1 (fun r2 σ2 H2 locs2 hr2 hq2 w2 => ?_)
  obtain ⟨he, hz2⟩ := hq2
  subst he
  exact zl_same hx hb dL_526 (by decide) (k σ2 H2 locs2 hz2 w2)
set_option maxHeartbeats 1000000 in
theorem zl_case7 {p : Program} {l : Launch} {e : Env} {s : State} {m : MethodId} {below : List Frame} {meth : Method} {c : Code} {b L : Nat} {xs : Nat → Int32} {G : zG} {σ : zS} {H : Heap} {locs : List Loc} {ls : Array Slot} {i : Nat} (LC : zLC G l p s m meth c b L xs) (hl : lv_has ls 4 (zll G b i)) (w : zLw G s σ H locs) (hi : i + 7 ≤ L) (hz : zinv σ) (k : ∀ (σ2 : zS) (H2 : Heap) (locs2 : List Loc), zinv σ2 → zLw G s σ2 H2 locs2 → zLW p l e s m b below meth c H2 locs2 (F0 m 2299 ls [])) : zLW p l e s m b below meth c H locs (F0 m 531 ls []) := by
  have hx := LC.1.1
  have hb := LC.1.2.1
  refine lv_aload_n hx hb dL_531 rfl (lv_at hl 1 rfl) ?_
  refine zl_arg (k := 1) LC hl w hi (by decide) dL_532 dL_533 dL_534 dL_535 dL_536 ?_
  refine zl_arg (k := 2) LC hl w hi (by decide) dL_537 dL_538 dL_539 dL_540 dL_541 ?_
  obtain ⟨bv, hbv⟩ : ∃ bv : Int, (bv = 1 ∧ (zx xs (i + 2)) ≠ 0) ∨ (bv = 0 ∧ (zx xs (i + 2)) = 0) := by
    by_cases h : (zx xs (i + 2)) = 0
    · exact ⟨0, Or.inr ⟨rfl, h⟩⟩
    · exact ⟨1, Or.inl ⟨rfl, h⟩⟩
  refine zl_bool (tgt := 549) (tg2 := 550) (bv := bv) hx hb zx_in hbv dL_542 (by decide) dL_545 dL_546 (by decide) dL_549 (by decide) ?_
  refine zl_arg (k := 3) LC hl w hi (by decide) dL_550 dL_551 dL_552 dL_553 dL_554 ?_
  have hbi : zIn bv := by unfold zIn; omega
  refine zl_call (M' := MX11_kin) (as := [zi (zx xs (i + 1)), zi bv, zi (zx xs (i + 3))]) (q := 0) (ci := 11) (rs := (zsh 0).2.2) LC mkX11_kin (zin_4 (List.mem_of_getElem? (i := 16) (by decide +kernel))) rfl (by decide +kernel) rfl (by decide) (Nat.le_of_ble_eq_true rfl) rfl (zkc zx_in (zkc hbi (zkc zx_in (fun v hv => absurd hv List.not_mem_nil)))) hl w dL_555 (st_kin hz) (fun r σ1 H1 locs1 hr1 hq1 w => ?_)
  refine lv_aload_n hx hb dL_558 rfl (lv_at hl 2 rfl) ?_
  refine zl_arg (k := 1) LC hl w hi (by decide) dL_559 dL_560 dL_561 dL_562 dL_563 ?_
  refine zl_arg (k := 2) LC hl w hi (by decide) dL_564 dL_565 dL_566 dL_567 dL_568 ?_
  refine zl_bool (tgt := 576) (tg2 := 577) (bv := bv) hx hb zx_in hbv dL_569 (by decide) dL_572 dL_573 (by decide) dL_576 (by decide) ?_
  refine zl_arg (k := 3) LC hl w hi (by decide) dL_577 dL_578 dL_579 dL_580 dL_581 ?_
  refine zl_call (M' := MX12_kin) (as := [zi (zx xs (i + 1)), zi bv, zi (zx xs (i + 3))]) (q := 98) (ci := 12) (rs := (zsh 98).2.2) LC mkX12_kin (zin_7 (List.mem_of_getElem? (i := 235) (by decide +kernel))) rfl (by decide +kernel) rfl (by decide) (Nat.le_of_ble_eq_true rfl) rfl (zkc zx_in (zkc hbi (zkc zx_in (fun v hv => absurd hv List.not_mem_nil)))) hl w dL_582 hq1 (fun r2 σ2 H2 locs2 hr2 hq2 w2 => ?_)
  obtain ⟨he, hz2⟩ := hq2
  subst he
  exact zl_same hx hb dL_585 (by decide) (k σ2 H2 locs2 hz2 w2)
set_option maxHeartbeats 1000000 in
theorem zl_case8 {p : Program} {l : Launch} {e : Env} {s : State} {m : MethodId} {below : List Frame} {meth : Method} {c : Code} {b L : Nat} {xs : Nat → Int32} {G : zG} {σ : zS} {H : Heap} {locs : List Loc} {ls : Array Slot} {i : Nat} (LC : zLC G l p s m meth c b L xs) (hl : lv_has ls 4 (zll G b i)) (w : zLw G s σ H locs) (hi : i + 7 ≤ L) (hz : zinv σ) (k : ∀ (σ2 : zS) (H2 : Heap) (locs2 : List Loc), zinv σ2 → zLw G s σ2 H2 locs2 → zLW p l e s m b below meth c H2 locs2 (F0 m 2299 ls [])) : zLW p l e s m b below meth c H locs (F0 m 590 ls []) := by
  have hx := LC.1.1
  have hb := LC.1.2.1
  refine lv_aload_n hx hb dL_590 rfl (lv_at hl 1 rfl) ?_
  refine zl_arg (k := 1) LC hl w hi (by decide) dL_591 dL_592 dL_593 dL_594 dL_595 ?_
  refine zl_call (M' := MX11_settles) (as := [zi (zx xs (i + 1))]) (q := 0) (ci := 11) (rs := (zsh 0).2.2) LC mkX11_settles (zin_4 (List.mem_of_getElem? (i := 21) (by decide +kernel))) rfl (by decide +kernel) rfl (by decide) (Nat.le_of_ble_eq_true rfl) rfl (zkc zx_in (fun v hv => absurd hv List.not_mem_nil)) hl w dL_596 (st_settles hz) (fun r σ1 H1 locs1 hr1 hq1 w => ?_)
  refine lv_aload_n hx hb dL_599 rfl (lv_at hl 2 rfl) ?_
  refine zl_arg (k := 1) LC hl w hi (by decide) dL_600 dL_601 dL_602 dL_603 dL_604 ?_
  refine zl_call (M' := MX12_settles) (as := [zi (zx xs (i + 1))]) (q := 98) (ci := 12) (rs := (zsh 98).2.2) LC mkX12_settles (zin_8 (List.mem_of_getElem? (i := 7) (by decide +kernel))) rfl (by decide +kernel) rfl (by decide) (Nat.le_of_ble_eq_true rfl) rfl (zkc zx_in (fun v hv => absurd hv List.not_mem_nil)) hl w dL_605 hq1 (fun r2 σ2 H2 locs2 hr2 hq2 w2 => ?_)
  obtain ⟨he, hz2⟩ := hq2
  subst he
  exact zl_same hx hb dL_608 (by decide) (k σ2 H2 locs2 hz2 w2)
set_option maxHeartbeats 1000000 in
theorem zl_case9 {p : Program} {l : Launch} {e : Env} {s : State} {m : MethodId} {below : List Frame} {meth : Method} {c : Code} {b L : Nat} {xs : Nat → Int32} {G : zG} {σ : zS} {H : Heap} {locs : List Loc} {ls : Array Slot} {i : Nat} (LC : zLC G l p s m meth c b L xs) (hl : lv_has ls 4 (zll G b i)) (w : zLw G s σ H locs) (hi : i + 7 ≤ L) (hz : zinv σ) (k : ∀ (σ2 : zS) (H2 : Heap) (locs2 : List Loc), zinv σ2 → zLw G s σ2 H2 locs2 → zLW p l e s m b below meth c H2 locs2 (F0 m 2299 ls [])) : zLW p l e s m b below meth c H locs (F0 m 613 ls []) := by
  have hx := LC.1.1
  have hb := LC.1.2.1
  refine lv_aload_n hx hb dL_613 rfl (lv_at hl 1 rfl) ?_
  refine zl_arg (k := 1) LC hl w hi (by decide) dL_614 dL_615 dL_616 dL_617 dL_618 ?_
  refine zl_arg (k := 2) LC hl w hi (by decide) dL_619 dL_620 dL_621 dL_622 dL_623 ?_
  refine zl_arg (k := 3) LC hl w hi (by decide) dL_624 dL_625 dL_626 dL_627 dL_628 ?_
  refine zl_call (M' := MX11_row) (as := [zi (zx xs (i + 1)), zi (zx xs (i + 2)), zi (zx xs (i + 3))]) (q := 0) (ci := 11) (rs := (zsh 0).2.2) LC mkX11_row (zin_4 (List.mem_of_getElem? (i := 30) (by decide +kernel))) rfl (by decide +kernel) rfl (by decide) (Nat.le_of_ble_eq_true rfl) rfl (zkc zx_in (zkc zx_in (zkc zx_in (fun v hv => absurd hv List.not_mem_nil)))) hl w dL_629 (st_row hz) (fun r σ1 H1 locs1 hr1 hq1 w => ?_)
  refine lv_aload_n hx hb dL_632 rfl (lv_at hl 2 rfl) ?_
  refine zl_arg (k := 1) LC hl w hi (by decide) dL_633 dL_634 dL_635 dL_636 dL_637 ?_
  refine zl_arg (k := 2) LC hl w hi (by decide) dL_638 dL_639 dL_640 dL_641 dL_642 ?_
  refine zl_arg (k := 3) LC hl w hi (by decide) dL_643 dL_644 dL_645 dL_646 dL_647 ?_
  refine zl_call (M' := MX12_row) (as := [zi (zx xs (i + 1)), zi (zx xs (i + 2)), zi (zx xs (i + 3))]) (q := 98) (ci := 12) (rs := (zsh 98).2.2) LC mkX12_row (zin_8 (List.mem_of_getElem? (i := 11) (by decide +kernel))) rfl (by decide +kernel) rfl (by decide) (Nat.le_of_ble_eq_true rfl) rfl (zkc zx_in (zkc zx_in (zkc zx_in (fun v hv => absurd hv List.not_mem_nil)))) hl w dL_648 hq1 (fun r2 σ2 H2 locs2 hr2 hq2 w2 => ?_)
  obtain ⟨he, hz2⟩ := hq2
  subst he
  exact zl_same hx hb dL_651 (by decide) (k σ2 H2 locs2 hz2 w2)
set_option maxHeartbeats 1000000 in
theorem zl_case10 {p : Program} {l : Launch} {e : Env} {s : State} {m : MethodId} {below : List Frame} {meth : Method} {c : Code} {b L : Nat} {xs : Nat → Int32} {G : zG} {σ : zS} {H : Heap} {locs : List Loc} {ls : Array Slot} {i : Nat} (LC : zLC G l p s m meth c b L xs) (hl : lv_has ls 4 (zll G b i)) (w : zLw G s σ H locs) (hi : i + 7 ≤ L) (hz : zinv σ) (k : ∀ (σ2 : zS) (H2 : Heap) (locs2 : List Loc), zinv σ2 → zLw G s σ2 H2 locs2 → zLW p l e s m b below meth c H2 locs2 (F0 m 2299 ls [])) : zLW p l e s m b below meth c H locs (F0 m 656 ls []) := by
  have hx := LC.1.1
  have hb := LC.1.2.1
  refine lv_aload_n hx hb dL_656 rfl (lv_at hl 1 rfl) ?_
  refine zl_arg (k := 1) LC hl w hi (by decide) dL_657 dL_658 dL_659 dL_660 dL_661 ?_
  refine zl_arg (k := 2) LC hl w hi (by decide) dL_662 dL_663 dL_664 dL_665 dL_666 ?_
  refine zl_arg (k := 3) LC hl w hi (by decide) dL_667 dL_668 dL_669 dL_670 dL_671 ?_
  refine lv_i2l hx hb dL_672 rfl ?_
  refine lv_bipush (v := Int32.ofInt 32) hx hb dL_673 (by decide) ?_
  refine lv_lshl hx hb dL_675 rfl ?_
  refine zl_arg (k := 4) LC hl w hi (by decide) dL_676 dL_677 dL_678 dL_679 dL_680 ?_
  refine lv_i2l hx hb dL_681 rfl ?_
  refine lv_ldc2 (v := 4294967295) hx hb LC.1.2.2.2.2.1 (LC.1.2.2.2.2.2.1 _ (zin_9 (List.mem_of_getElem? (i := 134) (by decide +kernel)))) dL_682 ?_
  refine lv_land hx hb dL_685 ?_
  refine lv_lor hx hb dL_686 ?_
  rw [zl_lng]
  refine zl_call (M' := MX11_set) (as := [zi (zx xs (i + 1)), zi (zx xs (i + 2)), zl (zlng (zx xs (i + 3)) (zx xs (i + 4)))]) (q := 0) (ci := 11) (rs := (zsh 0).2.2) LC mkX11_set (zin_4 (List.mem_of_getElem? (i := 44) (by decide +kernel))) rfl (by decide +kernel) rfl (by decide) (Nat.le_of_ble_eq_true rfl) rfl (zkc zx_in (zkc zx_in (zkc zlng_in (fun v hv => absurd hv List.not_mem_nil)))) hl w dL_687 (st_set hz) (fun r σ1 H1 locs1 hr1 hq1 w => ?_)
  refine lv_aload_n hx hb dL_690 rfl (lv_at hl 2 rfl) ?_
  refine zl_arg (k := 1) LC hl w hi (by decide) dL_691 dL_692 dL_693 dL_694 dL_695 ?_
  refine zl_arg (k := 2) LC hl w hi (by decide) dL_696 dL_697 dL_698 dL_699 dL_700 ?_
  refine zl_arg (k := 3) LC hl w hi (by decide) dL_701 dL_702 dL_703 dL_704 dL_705 ?_
  refine lv_i2l hx hb dL_706 rfl ?_
  refine lv_bipush (v := Int32.ofInt 32) hx hb dL_707 (by decide) ?_
  refine lv_lshl hx hb dL_709 rfl ?_
  refine zl_arg (k := 4) LC hl w hi (by decide) dL_710 dL_711 dL_712 dL_713 dL_714 ?_
  refine lv_i2l hx hb dL_715 rfl ?_
  refine lv_ldc2 (v := 4294967295) hx hb LC.1.2.2.2.2.1 (LC.1.2.2.2.2.2.1 _ (zin_9 (List.mem_of_getElem? (i := 134) (by decide +kernel)))) dL_716 ?_
  refine lv_land hx hb dL_719 ?_
  refine lv_lor hx hb dL_720 ?_
  rw [zl_lng]
  refine zl_call (M' := MX12_set) (as := [zi (zx xs (i + 1)), zi (zx xs (i + 2)), zl (zlng (zx xs (i + 3)) (zx xs (i + 4)))]) (q := 98) (ci := 12) (rs := (zsh 98).2.2) LC mkX12_set (zin_8 (List.mem_of_getElem? (i := 18) (by decide +kernel))) rfl (by decide +kernel) rfl (by decide) (Nat.le_of_ble_eq_true rfl) rfl (zkc zx_in (zkc zx_in (zkc zlng_in (fun v hv => absurd hv List.not_mem_nil)))) hl w dL_721 hq1 (fun r2 σ2 H2 locs2 hr2 hq2 w2 => ?_)
  obtain ⟨he, hz2⟩ := hq2
  subst he
  exact zl_same hx hb dL_724 (by decide) (k σ2 H2 locs2 hz2 w2)
set_option maxHeartbeats 1000000 in
theorem zl_case11 {p : Program} {l : Launch} {e : Env} {s : State} {m : MethodId} {below : List Frame} {meth : Method} {c : Code} {b L : Nat} {xs : Nat → Int32} {G : zG} {σ : zS} {H : Heap} {locs : List Loc} {ls : Array Slot} {i : Nat} (LC : zLC G l p s m meth c b L xs) (hl : lv_has ls 4 (zll G b i)) (w : zLw G s σ H locs) (hi : i + 7 ≤ L) (hz : zinv σ) (k : ∀ (σ2 : zS) (H2 : Heap) (locs2 : List Loc), zinv σ2 → zLw G s σ2 H2 locs2 → zLW p l e s m b below meth c H2 locs2 (F0 m 2299 ls [])) : zLW p l e s m b below meth c H locs (F0 m 729 ls []) := by
  have hx := LC.1.1
  have hb := LC.1.2.1
  refine lv_aload_n hx hb dL_729 rfl (lv_at hl 1 rfl) ?_
  refine zl_arg (k := 1) LC hl w hi (by decide) dL_730 dL_731 dL_732 dL_733 dL_734 ?_
  refine zl_arg (k := 2) LC hl w hi (by decide) dL_735 dL_736 dL_737 dL_738 dL_739 ?_
  refine zl_arg (k := 3) LC hl w hi (by decide) dL_740 dL_741 dL_742 dL_743 dL_744 ?_
  refine zl_arg (k := 4) LC hl w hi (by decide) dL_745 dL_746 dL_747 dL_748 dL_749 ?_
  refine zl_arg (k := 5) LC hl w hi (by decide) dL_750 dL_751 dL_752 dL_753 dL_754 ?_
  refine zl_call (M' := MX11_copy) (as := [zi (zx xs (i + 1)), zi (zx xs (i + 2)), zi (zx xs (i + 3)), zi (zx xs (i + 4)), zi (zx xs (i + 5))]) (q := 0) (ci := 11) (rs := (zsh 0).2.2) LC mkX11_copy (zin_4 (List.mem_of_getElem? (i := 60) (by decide +kernel))) rfl (by decide +kernel) rfl (by decide) (Nat.le_of_ble_eq_true rfl) rfl (zkc zx_in (zkc zx_in (zkc zx_in (zkc zx_in (zkc zx_in (fun v hv => absurd hv List.not_mem_nil)))))) hl w dL_755 (st_copy hz) (fun r σ1 H1 locs1 hr1 hq1 w => ?_)
  refine lv_aload_n hx hb dL_758 rfl (lv_at hl 2 rfl) ?_
  refine zl_arg (k := 1) LC hl w hi (by decide) dL_759 dL_760 dL_761 dL_762 dL_763 ?_
  refine zl_arg (k := 2) LC hl w hi (by decide) dL_764 dL_765 dL_766 dL_767 dL_768 ?_
  refine zl_arg (k := 3) LC hl w hi (by decide) dL_769 dL_770 dL_771 dL_772 dL_773 ?_
  refine zl_arg (k := 4) LC hl w hi (by decide) dL_774 dL_775 dL_776 dL_777 dL_778 ?_
  refine zl_arg (k := 5) LC hl w hi (by decide) dL_779 dL_780 dL_781 dL_782 dL_783 ?_
  refine zl_call (M' := MX12_copy) (as := [zi (zx xs (i + 1)), zi (zx xs (i + 2)), zi (zx xs (i + 3)), zi (zx xs (i + 4)), zi (zx xs (i + 5))]) (q := 98) (ci := 12) (rs := (zsh 98).2.2) LC mkX12_copy (zin_8 (List.mem_of_getElem? (i := 22) (by decide +kernel))) rfl (by decide +kernel) rfl (by decide) (Nat.le_of_ble_eq_true rfl) rfl (zkc zx_in (zkc zx_in (zkc zx_in (zkc zx_in (zkc zx_in (fun v hv => absurd hv List.not_mem_nil)))))) hl w dL_784 hq1 (fun r2 σ2 H2 locs2 hr2 hq2 w2 => ?_)
  obtain ⟨he, hz2⟩ := hq2
  subst he
  exact zl_same hx hb dL_787 (by decide) (k σ2 H2 locs2 hz2 w2)
set_option maxHeartbeats 1000000 in
theorem zl_case12 {p : Program} {l : Launch} {e : Env} {s : State} {m : MethodId} {below : List Frame} {meth : Method} {c : Code} {b L : Nat} {xs : Nat → Int32} {G : zG} {σ : zS} {H : Heap} {locs : List Loc} {ls : Array Slot} {i : Nat} (LC : zLC G l p s m meth c b L xs) (hl : lv_has ls 4 (zll G b i)) (w : zLw G s σ H locs) (hi : i + 7 ≤ L) (hz : zinv σ) (k : ∀ (σ2 : zS) (H2 : Heap) (locs2 : List Loc), zinv σ2 → zLw G s σ2 H2 locs2 → zLW p l e s m b below meth c H2 locs2 (F0 m 2299 ls [])) : zLW p l e s m b below meth c H locs (F0 m 792 ls []) := by
  have hx := LC.1.1
  have hb := LC.1.2.1
  refine lv_aload_n hx hb dL_792 rfl (lv_at hl 1 rfl) ?_
  refine zl_arg (k := 1) LC hl w hi (by decide) dL_793 dL_794 dL_795 dL_796 dL_797 ?_
  refine zl_arg (k := 2) LC hl w hi (by decide) dL_798 dL_799 dL_800 dL_801 dL_802 ?_
  refine zl_call (M' := MX11_element) (as := [zi (zx xs (i + 1)), zi (zx xs (i + 2))]) (q := 0) (ci := 11) (rs := (zsh 0).2.2) LC mkX11_element (zin_4 (List.mem_of_getElem? (i := 73) (by decide +kernel))) rfl (by decide +kernel) rfl (by decide) (Nat.le_of_ble_eq_true rfl) rfl (zkc zx_in (zkc zx_in (fun v hv => absurd hv List.not_mem_nil))) hl w dL_803 (st_element hz) (fun r σ1 H1 locs1 hr1 hq1 w => ?_)
  refine lv_aload_n hx hb dL_806 rfl (lv_at hl 2 rfl) ?_
  refine zl_arg (k := 1) LC hl w hi (by decide) dL_807 dL_808 dL_809 dL_810 dL_811 ?_
  refine zl_arg (k := 2) LC hl w hi (by decide) dL_812 dL_813 dL_814 dL_815 dL_816 ?_
  refine zl_call (M' := MX12_element) (as := [zi (zx xs (i + 1)), zi (zx xs (i + 2))]) (q := 98) (ci := 12) (rs := (zsh 98).2.2) LC mkX12_element (zin_8 (List.mem_of_getElem? (i := 26) (by decide +kernel))) rfl (by decide +kernel) rfl (by decide) (Nat.le_of_ble_eq_true rfl) rfl (zkc zx_in (zkc zx_in (fun v hv => absurd hv List.not_mem_nil))) hl w dL_817 hq1 (fun r2 σ2 H2 locs2 hr2 hq2 w2 => ?_)
  obtain ⟨he, hz2⟩ := hq2
  subst he
  exact zl_samL hx hb dL_820 dL_821 (by decide) (k σ2 H2 locs2 hz2 w2)
set_option maxHeartbeats 1000000 in
theorem zl_case13 {p : Program} {l : Launch} {e : Env} {s : State} {m : MethodId} {below : List Frame} {meth : Method} {c : Code} {b L : Nat} {xs : Nat → Int32} {G : zG} {σ : zS} {H : Heap} {locs : List Loc} {ls : Array Slot} {i : Nat} (LC : zLC G l p s m meth c b L xs) (hl : lv_has ls 4 (zll G b i)) (w : zLw G s σ H locs) (hi : i + 7 ≤ L) (hz : zinv σ) (k : ∀ (σ2 : zS) (H2 : Heap) (locs2 : List Loc), zinv σ2 → zLw G s σ2 H2 locs2 → zLW p l e s m b below meth c H2 locs2 (F0 m 2299 ls [])) : zLW p l e s m b below meth c H locs (F0 m 826 ls []) := by
  have hx := LC.1.1
  have hb := LC.1.2.1
  refine lv_aload_n hx hb dL_826 rfl (lv_at hl 1 rfl) ?_
  refine zl_arg (k := 1) LC hl w hi (by decide) dL_827 dL_828 dL_829 dL_830 dL_831 ?_
  refine zl_arg (k := 2) LC hl w hi (by decide) dL_832 dL_833 dL_834 dL_835 dL_836 ?_
  refine zl_call (M' := MX11_show) (as := [zi (zx xs (i + 1)), zi (zx xs (i + 2))]) (q := 0) (ci := 11) (rs := (zsh 0).2.2) LC mkX11_show (zin_4 (List.mem_of_getElem? (i := 77) (by decide +kernel))) rfl (by decide +kernel) rfl (by decide) (Nat.le_of_ble_eq_true rfl) rfl (zkc zx_in (zkc zx_in (fun v hv => absurd hv List.not_mem_nil))) hl w dL_837 (st_show hz) (fun r σ1 H1 locs1 hr1 hq1 w => ?_)
  refine lv_aload_n hx hb dL_840 rfl (lv_at hl 2 rfl) ?_
  refine zl_arg (k := 1) LC hl w hi (by decide) dL_841 dL_842 dL_843 dL_844 dL_845 ?_
  refine zl_arg (k := 2) LC hl w hi (by decide) dL_846 dL_847 dL_848 dL_849 dL_850 ?_
  refine zl_call (M' := MX12_show) (as := [zi (zx xs (i + 1)), zi (zx xs (i + 2))]) (q := 98) (ci := 12) (rs := (zsh 98).2.2) LC mkX12_show (zin_8 (List.mem_of_getElem? (i := 30) (by decide +kernel))) rfl (by decide +kernel) rfl (by decide) (Nat.le_of_ble_eq_true rfl) rfl (zkc zx_in (zkc zx_in (fun v hv => absurd hv List.not_mem_nil))) hl w dL_851 hq1 (fun r2 σ2 H2 locs2 hr2 hq2 w2 => ?_)
  obtain ⟨he, hz2⟩ := hq2
  subst he
  exact zl_same hx hb dL_854 (by decide) (k σ2 H2 locs2 hz2 w2)
set_option maxHeartbeats 1000000 in
theorem zl_case14 {p : Program} {l : Launch} {e : Env} {s : State} {m : MethodId} {below : List Frame} {meth : Method} {c : Code} {b L : Nat} {xs : Nat → Int32} {G : zG} {σ : zS} {H : Heap} {locs : List Loc} {ls : Array Slot} {i : Nat} (LC : zLC G l p s m meth c b L xs) (hl : lv_has ls 4 (zll G b i)) (w : zLw G s σ H locs) (hi : i + 7 ≤ L) (hz : zinv σ) (k : ∀ (σ2 : zS) (H2 : Heap) (locs2 : List Loc), zinv σ2 → zLw G s σ2 H2 locs2 → zLW p l e s m b below meth c H2 locs2 (F0 m 2299 ls [])) : zLW p l e s m b below meth c H locs (F0 m 859 ls []) := by
  have hx := LC.1.1
  have hb := LC.1.2.1
  refine lv_aload_n hx hb dL_859 rfl (lv_at hl 1 rfl) ?_
  refine zl_arg (k := 1) LC hl w hi (by decide) dL_860 dL_861 dL_862 dL_863 dL_864 ?_
  refine zl_call (M' := MX11_holds) (as := [zi (zx xs (i + 1))]) (q := 0) (ci := 11) (rs := (zsh 0).2.2) LC mkX11_holds (zin_4 (List.mem_of_getElem? (i := 85) (by decide +kernel))) rfl (by decide +kernel) rfl (by decide) (Nat.le_of_ble_eq_true rfl) rfl (zkc zx_in (fun v hv => absurd hv List.not_mem_nil)) hl w dL_865 (st_holds hz) (fun r σ1 H1 locs1 hr1 hq1 w => ?_)
  refine lv_aload_n hx hb dL_868 rfl (lv_at hl 2 rfl) ?_
  refine zl_arg (k := 1) LC hl w hi (by decide) dL_869 dL_870 dL_871 dL_872 dL_873 ?_
  refine zl_call (M' := MX12_holds) (as := [zi (zx xs (i + 1))]) (q := 98) (ci := 12) (rs := (zsh 98).2.2) LC mkX12_holds (zin_8 (List.mem_of_getElem? (i := 34) (by decide +kernel))) rfl (by decide +kernel) rfl (by decide) (Nat.le_of_ble_eq_true rfl) rfl (zkc zx_in (fun v hv => absurd hv List.not_mem_nil)) hl w dL_874 hq1 (fun r2 σ2 H2 locs2 hr2 hq2 w2 => ?_)
  obtain ⟨he, hz2⟩ := hq2
  subst he
  exact zl_same hx hb dL_877 (by decide) (k σ2 H2 locs2 hz2 w2)
set_option maxHeartbeats 1000000 in
theorem zl_case15 {p : Program} {l : Launch} {e : Env} {s : State} {m : MethodId} {below : List Frame} {meth : Method} {c : Code} {b L : Nat} {xs : Nat → Int32} {G : zG} {σ : zS} {H : Heap} {locs : List Loc} {ls : Array Slot} {i : Nat} (LC : zLC G l p s m meth c b L xs) (hl : lv_has ls 4 (zll G b i)) (w : zLw G s σ H locs) (hi : i + 7 ≤ L) (hz : zinv σ) (k : ∀ (σ2 : zS) (H2 : Heap) (locs2 : List Loc), zinv σ2 → zLw G s σ2 H2 locs2 → zLW p l e s m b below meth c H2 locs2 (F0 m 2299 ls [])) : zLW p l e s m b below meth c H locs (F0 m 882 ls []) := by
  have hx := LC.1.1
  have hb := LC.1.2.1
  refine lv_aload_n hx hb dL_882 rfl (lv_at hl 1 rfl) ?_
  refine zl_arg (k := 1) LC hl w hi (by decide) dL_883 dL_884 dL_885 dL_886 dL_887 ?_
  refine zl_call (M' := MX11_bornIn) (as := [zi (zx xs (i + 1))]) (q := 0) (ci := 11) (rs := (zsh 0).2.2) LC mkX11_bornIn (zin_4 (List.mem_of_getElem? (i := 89) (by decide +kernel))) rfl (by decide +kernel) rfl (by decide) (Nat.le_of_ble_eq_true rfl) rfl (zkc zx_in (fun v hv => absurd hv List.not_mem_nil)) hl w dL_888 (st_bornIn hz) (fun r σ1 H1 locs1 hr1 hq1 w => ?_)
  refine lv_aload_n hx hb dL_891 rfl (lv_at hl 2 rfl) ?_
  refine zl_arg (k := 1) LC hl w hi (by decide) dL_892 dL_893 dL_894 dL_895 dL_896 ?_
  refine zl_call (M' := MX12_bornIn) (as := [zi (zx xs (i + 1))]) (q := 98) (ci := 12) (rs := (zsh 98).2.2) LC mkX12_bornIn (zin_8 (List.mem_of_getElem? (i := 38) (by decide +kernel))) rfl (by decide +kernel) rfl (by decide) (Nat.le_of_ble_eq_true rfl) rfl (zkc zx_in (fun v hv => absurd hv List.not_mem_nil)) hl w dL_897 hq1 (fun r2 σ2 H2 locs2 hr2 hq2 w2 => ?_)
  obtain ⟨he, hz2⟩ := hq2
  subst he
  exact zl_same hx hb dL_900 (by decide) (k σ2 H2 locs2 hz2 w2)
set_option maxHeartbeats 1000000 in
theorem zl_case16 {p : Program} {l : Launch} {e : Env} {s : State} {m : MethodId} {below : List Frame} {meth : Method} {c : Code} {b L : Nat} {xs : Nat → Int32} {G : zG} {σ : zS} {H : Heap} {locs : List Loc} {ls : Array Slot} {i : Nat} (LC : zLC G l p s m meth c b L xs) (hl : lv_has ls 4 (zll G b i)) (w : zLw G s σ H locs) (hi : i + 7 ≤ L) (hz : zinv σ) (k : ∀ (σ2 : zS) (H2 : Heap) (locs2 : List Loc), zinv σ2 → zLw G s σ2 H2 locs2 → zLW p l e s m b below meth c H2 locs2 (F0 m 2299 ls [])) : zLW p l e s m b below meth c H locs (F0 m 905 ls []) := by
  have hx := LC.1.1
  have hb := LC.1.2.1
  refine lv_aload_n hx hb dL_905 rfl (lv_at hl 1 rfl) ?_
  refine zl_arg (k := 1) LC hl w hi (by decide) dL_906 dL_907 dL_908 dL_909 dL_910 ?_
  refine zl_arg (k := 2) LC hl w hi (by decide) dL_911 dL_912 dL_913 dL_914 dL_915 ?_
  refine zl_call (M' := MX11_statute) (as := [zi (zx xs (i + 1)), zi (zx xs (i + 2))]) (q := 0) (ci := 11) (rs := (zsh 0).2.2) LC mkX11_statute (zin_4 (List.mem_of_getElem? (i := 94) (by decide +kernel))) rfl (by decide +kernel) rfl (by decide) (Nat.le_of_ble_eq_true rfl) rfl (zkc zx_in (zkc zx_in (fun v hv => absurd hv List.not_mem_nil))) hl w dL_916 (st_statute hz) (fun r σ1 H1 locs1 hr1 hq1 w => ?_)
  refine lv_aload_n hx hb dL_919 rfl (lv_at hl 2 rfl) ?_
  refine zl_arg (k := 1) LC hl w hi (by decide) dL_920 dL_921 dL_922 dL_923 dL_924 ?_
  refine zl_arg (k := 2) LC hl w hi (by decide) dL_925 dL_926 dL_927 dL_928 dL_929 ?_
  refine zl_call (M' := MX12_statute) (as := [zi (zx xs (i + 1)), zi (zx xs (i + 2))]) (q := 98) (ci := 12) (rs := (zsh 98).2.2) LC mkX12_statute (zin_8 (List.mem_of_getElem? (i := 43) (by decide +kernel))) rfl (by decide +kernel) rfl (by decide) (Nat.le_of_ble_eq_true rfl) rfl (zkc zx_in (zkc zx_in (fun v hv => absurd hv List.not_mem_nil))) hl w dL_930 hq1 (fun r2 σ2 H2 locs2 hr2 hq2 w2 => ?_)
  obtain ⟨he, hz2⟩ := hq2
  subst he
  exact zl_same hx hb dL_933 (by decide) (k σ2 H2 locs2 hz2 w2)
set_option maxHeartbeats 1000000 in
theorem zl_case17 {p : Program} {l : Launch} {e : Env} {s : State} {m : MethodId} {below : List Frame} {meth : Method} {c : Code} {b L : Nat} {xs : Nat → Int32} {G : zG} {σ : zS} {H : Heap} {locs : List Loc} {ls : Array Slot} {i : Nat} (LC : zLC G l p s m meth c b L xs) (hl : lv_has ls 4 (zll G b i)) (w : zLw G s σ H locs) (hi : i + 7 ≤ L) (hz : zinv σ) (k : ∀ (σ2 : zS) (H2 : Heap) (locs2 : List Loc), zinv σ2 → zLw G s σ2 H2 locs2 → zLW p l e s m b below meth c H2 locs2 (F0 m 2299 ls [])) : zLW p l e s m b below meth c H locs (F0 m 938 ls []) := by
  have hx := LC.1.1
  have hb := LC.1.2.1
  refine lv_aload_n hx hb dL_938 rfl (lv_at hl 1 rfl) ?_
  refine zl_arg (k := 1) LC hl w hi (by decide) dL_939 dL_940 dL_941 dL_942 dL_943 ?_
  refine zl_arg (k := 2) LC hl w hi (by decide) dL_944 dL_945 dL_946 dL_947 dL_948 ?_
  refine zl_arg (k := 3) LC hl w hi (by decide) dL_949 dL_950 dL_951 dL_952 dL_953 ?_
  refine zl_arg (k := 4) LC hl w hi (by decide) dL_954 dL_955 dL_956 dL_957 dL_958 ?_
  refine zl_call (M' := MX11_amend) (as := [zi (zx xs (i + 1)), zi (zx xs (i + 2)), zi (zx xs (i + 3)), zi (zx xs (i + 4))]) (q := 0) (ci := 11) (rs := (zsh 0).2.2) LC mkX11_amend (zin_4 (List.mem_of_getElem? (i := 113) (by decide +kernel))) rfl (by decide +kernel) rfl (by decide) (Nat.le_of_ble_eq_true rfl) rfl (zkc zx_in (zkc zx_in (zkc zx_in (zkc zx_in (fun v hv => absurd hv List.not_mem_nil))))) hl w dL_959 (st_amend hz) (fun r σ1 H1 locs1 hr1 hq1 w => ?_)
  refine lv_aload_n hx hb dL_962 rfl (lv_at hl 2 rfl) ?_
  refine zl_arg (k := 1) LC hl w hi (by decide) dL_963 dL_964 dL_965 dL_966 dL_967 ?_
  refine zl_arg (k := 2) LC hl w hi (by decide) dL_968 dL_969 dL_970 dL_971 dL_972 ?_
  refine zl_arg (k := 3) LC hl w hi (by decide) dL_973 dL_974 dL_975 dL_976 dL_977 ?_
  refine zl_arg (k := 4) LC hl w hi (by decide) dL_978 dL_979 dL_980 dL_981 dL_982 ?_
  refine zl_call (M' := MX12_amend) (as := [zi (zx xs (i + 1)), zi (zx xs (i + 2)), zi (zx xs (i + 3)), zi (zx xs (i + 4))]) (q := 98) (ci := 12) (rs := (zsh 98).2.2) LC mkX12_amend (zin_8 (List.mem_of_getElem? (i := 54) (by decide +kernel))) rfl (by decide +kernel) rfl (by decide) (Nat.le_of_ble_eq_true rfl) rfl (zkc zx_in (zkc zx_in (zkc zx_in (zkc zx_in (fun v hv => absurd hv List.not_mem_nil))))) hl w dL_983 hq1 (fun r2 σ2 H2 locs2 hr2 hq2 w2 => ?_)
  obtain ⟨he, hz2⟩ := hq2
  subst he
  exact zl_same hx hb dL_986 (by decide) (k σ2 H2 locs2 hz2 w2)
set_option maxHeartbeats 1000000 in
theorem zl_case18 {p : Program} {l : Launch} {e : Env} {s : State} {m : MethodId} {below : List Frame} {meth : Method} {c : Code} {b L : Nat} {xs : Nat → Int32} {G : zG} {σ : zS} {H : Heap} {locs : List Loc} {ls : Array Slot} {i : Nat} (LC : zLC G l p s m meth c b L xs) (hl : lv_has ls 4 (zll G b i)) (w : zLw G s σ H locs) (hi : i + 7 ≤ L) (hz : zinv σ) (k : ∀ (σ2 : zS) (H2 : Heap) (locs2 : List Loc), zinv σ2 → zLw G s σ2 H2 locs2 → zLW p l e s m b below meth c H2 locs2 (F0 m 2299 ls [])) : zLW p l e s m b below meth c H locs (F0 m 991 ls []) := by
  have hx := LC.1.1
  have hb := LC.1.2.1
  refine lv_aload_n hx hb dL_991 rfl (lv_at hl 1 rfl) ?_
  refine zl_arg (k := 1) LC hl w hi (by decide) dL_992 dL_993 dL_994 dL_995 dL_996 ?_
  refine zl_arg (k := 2) LC hl w hi (by decide) dL_997 dL_998 dL_999 dL_1000 dL_1001 ?_
  refine zl_arg (k := 3) LC hl w hi (by decide) dL_1002 dL_1003 dL_1004 dL_1005 dL_1006 ?_
  refine zl_arg (k := 4) LC hl w hi (by decide) dL_1007 dL_1008 dL_1009 dL_1010 dL_1011 ?_
  refine zl_call (M' := MX11_words) (as := [zi (zx xs (i + 1)), zi (zx xs (i + 2)), zi (zx xs (i + 3)), zi (zx xs (i + 4))]) (q := 0) (ci := 11) (rs := (zsh 0).2.2) LC mkX11_words (zin_4 (List.mem_of_getElem? (i := 125) (by decide +kernel))) rfl (by decide +kernel) rfl (by decide) (Nat.le_of_ble_eq_true rfl) rfl (zkc zx_in (zkc zx_in (zkc zx_in (zkc zx_in (fun v hv => absurd hv List.not_mem_nil))))) hl w dL_1012 (st_words hz) (fun r σ1 H1 locs1 hr1 hq1 w => ?_)
  refine lv_aload_n hx hb dL_1015 rfl (lv_at hl 2 rfl) ?_
  refine zl_arg (k := 1) LC hl w hi (by decide) dL_1016 dL_1017 dL_1018 dL_1019 dL_1020 ?_
  refine zl_arg (k := 2) LC hl w hi (by decide) dL_1021 dL_1022 dL_1023 dL_1024 dL_1025 ?_
  refine zl_arg (k := 3) LC hl w hi (by decide) dL_1026 dL_1027 dL_1028 dL_1029 dL_1030 ?_
  refine zl_arg (k := 4) LC hl w hi (by decide) dL_1031 dL_1032 dL_1033 dL_1034 dL_1035 ?_
  refine zl_call (M' := MX12_words_) (as := [zi (zx xs (i + 1)), zi (zx xs (i + 2)), zi (zx xs (i + 3)), zi (zx xs (i + 4))]) (q := 98) (ci := 12) (rs := (zsh 98).2.2) LC mkX12_words_ (zin_8 (List.mem_of_getElem? (i := 58) (by decide +kernel))) rfl (by decide +kernel) rfl (by decide) (Nat.le_of_ble_eq_true rfl) rfl (zkc zx_in (zkc zx_in (zkc zx_in (zkc zx_in (fun v hv => absurd hv List.not_mem_nil))))) hl w dL_1036 hq1 (fun r2 σ2 H2 locs2 hr2 hq2 w2 => ?_)
  obtain ⟨he, hz2⟩ := hq2
  subst he
  exact zl_same hx hb dL_1039 (by decide) (k σ2 H2 locs2 hz2 w2)
set_option maxHeartbeats 1000000 in
theorem zl_case19 {p : Program} {l : Launch} {e : Env} {s : State} {m : MethodId} {below : List Frame} {meth : Method} {c : Code} {b L : Nat} {xs : Nat → Int32} {G : zG} {σ : zS} {H : Heap} {locs : List Loc} {ls : Array Slot} {i : Nat} (LC : zLC G l p s m meth c b L xs) (hl : lv_has ls 4 (zll G b i)) (w : zLw G s σ H locs) (hi : i + 7 ≤ L) (hz : zinv σ) (k : ∀ (σ2 : zS) (H2 : Heap) (locs2 : List Loc), zinv σ2 → zLw G s σ2 H2 locs2 → zLW p l e s m b below meth c H2 locs2 (F0 m 2299 ls [])) : zLW p l e s m b below meth c H locs (F0 m 1044 ls []) := by
  have hx := LC.1.1
  have hb := LC.1.2.1
  refine lv_aload_n hx hb dL_1044 rfl (lv_at hl 1 rfl) ?_
  refine zl_arg (k := 1) LC hl w hi (by decide) dL_1045 dL_1046 dL_1047 dL_1048 dL_1049 ?_
  refine zl_arg (k := 2) LC hl w hi (by decide) dL_1050 dL_1051 dL_1052 dL_1053 dL_1054 ?_
  refine zl_arg (k := 3) LC hl w hi (by decide) dL_1055 dL_1056 dL_1057 dL_1058 dL_1059 ?_
  refine zl_call (M' := MX11_gone) (as := [zi (zx xs (i + 1)), zi (zx xs (i + 2)), zi (zx xs (i + 3))]) (q := 0) (ci := 11) (rs := (zsh 0).2.2) LC mkX11_gone (zin_4 (List.mem_of_getElem? (i := 130) (by decide +kernel))) rfl (by decide +kernel) rfl (by decide) (Nat.le_of_ble_eq_true rfl) rfl (zkc zx_in (zkc zx_in (zkc zx_in (fun v hv => absurd hv List.not_mem_nil)))) hl w dL_1060 (st_gone hz) (fun r σ1 H1 locs1 hr1 hq1 w => ?_)
  refine lv_aload_n hx hb dL_1063 rfl (lv_at hl 2 rfl) ?_
  refine zl_arg (k := 1) LC hl w hi (by decide) dL_1064 dL_1065 dL_1066 dL_1067 dL_1068 ?_
  refine zl_arg (k := 2) LC hl w hi (by decide) dL_1069 dL_1070 dL_1071 dL_1072 dL_1073 ?_
  refine zl_arg (k := 3) LC hl w hi (by decide) dL_1074 dL_1075 dL_1076 dL_1077 dL_1078 ?_
  refine zl_call (M' := MX12_gone) (as := [zi (zx xs (i + 1)), zi (zx xs (i + 2)), zi (zx xs (i + 3))]) (q := 98) (ci := 12) (rs := (zsh 98).2.2) LC mkX12_gone (zin_8 (List.mem_of_getElem? (i := 74) (by decide +kernel))) rfl (by decide +kernel) rfl (by decide) (Nat.le_of_ble_eq_true rfl) rfl (zkc zx_in (zkc zx_in (zkc zx_in (fun v hv => absurd hv List.not_mem_nil)))) hl w dL_1079 hq1 (fun r2 σ2 H2 locs2 hr2 hq2 w2 => ?_)
  obtain ⟨he, hz2⟩ := hq2
  subst he
  exact zl_same hx hb dL_1082 (by decide) (k σ2 H2 locs2 hz2 w2)
