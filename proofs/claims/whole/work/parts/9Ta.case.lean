/-! ===== the law's cases 0 to 25 (written by gen11.py) ===== -/
section CASES
variable {X : Cl} {κ : Kd} {ad : Ad} {n : Nat} {xs : Nat → Int32} {σ τ : Mem}
theorem l_k0 (hS : StdL X κ ad n xs) (hn : n ≤ 3072) {i : Nat} (hi : i + 6 ≤ n) (hI : Inv σ τ) (kk : ∀ σ' τ', Inv σ' τ' → Sl X κ 1536 (LL X κ i) [] σ' τ') : Sl X κ 252 (LL X κ i) [] σ τ := by
  obtain ⟨r, σ1, hA, r1, τ1, hB, e1, hI1⟩ := t_type hI (RI_x xs (i + 1))
  rw [e1] at hB
  refine l_a1 hS dL_law_252 ?_
  refine l_arg hS (i := i) (k := 1) rfl (by omega) hn dL_law_253 dL_law_254 dL_law_255 dL_law_256 dL_law_257 ?_
  refine l_callA hS (As := [iv (sx xs (i + 1))]) (rst := []) (c_Ai_type rfl (sx xs (i + 1)) σ) hA miX11_type mlL_13 rfl (Nat.le_of_ble_eq_true rfl) (Nat.le_of_ble_eq_true rfl) (Nat.le_of_ble_eq_true rfl) rfl dL_law_258 ?_
  refine l_a2 hS dL_law_261 ?_
  refine l_arg hS (i := i) (k := 1) rfl (by omega) hn dL_law_262 dL_law_263 dL_law_264 dL_law_265 dL_law_266 ?_
  refine l_callB hS (As := [iv (sx xs (i + 1))]) (rst := [iv r]) (c_Md_type rfl (sx xs (i + 1)) τ) hB miX12_type mlL_17 rfl (Nat.le_of_ble_eq_true rfl) (Nat.le_of_ble_eq_true rfl) (Nat.le_of_ble_eq_true rfl) rfl dL_law_267 ?_
  exact l_eqI hS (r := r) (st := []) dL_law_270 (by decide) (kk σ1 τ1 hI1)
theorem l_k1 (hS : StdL X κ ad n xs) (hn : n ≤ 3072) {i : Nat} (hi : i + 6 ≤ n) (hI : Inv σ τ) (kk : ∀ σ' τ', Inv σ' τ' → Sl X κ 1536 (LL X κ i) [] σ' τ') : Sl X κ 275 (LL X κ i) [] σ τ := by
  obtain ⟨r, σ1, hA, r1, τ1, hB, e1, hI1⟩ := t_clear hI
  rw [e1] at hB
  refine l_a1 hS dL_law_275 ?_
  refine l_callA hS (As := []) (rst := []) (c_Ai_clear rfl  σ) hA miX11_clear mlL_18 rfl (Nat.le_of_ble_eq_true rfl) (Nat.le_of_ble_eq_true rfl) (Nat.le_of_ble_eq_true rfl) rfl dL_law_276 ?_
  refine l_a2 hS dL_law_279 ?_
  refine l_callB hS (As := []) (rst := [iv r]) (c_Md_clear rfl  τ) hB miX12_clear mlL_22 rfl (Nat.le_of_ble_eq_true rfl) (Nat.le_of_ble_eq_true rfl) (Nat.le_of_ble_eq_true rfl) rfl dL_law_280 ?_
  exact l_eqI hS (r := r) (st := []) dL_law_283 (by decide) (kk σ1 τ1 hI1)
theorem l_k2 (hS : StdL X κ ad n xs) (hn : n ≤ 3072) {i : Nat} (hi : i + 6 ≤ n) (hI : Inv σ τ) (kk : ∀ σ' τ', Inv σ' τ' → Sl X κ 1536 (LL X κ i) [] σ' τ') : Sl X κ 288 (LL X κ i) [] σ τ := by
  obtain ⟨r, σ1, hA, r1, τ1, hB, e1, hI1⟩ := t_insertLine hI (RI_x xs (i + 1))
  rw [e1] at hB
  refine l_a1 hS dL_law_288 ?_
  refine l_arg hS (i := i) (k := 1) rfl (by omega) hn dL_law_289 dL_law_290 dL_law_291 dL_law_292 dL_law_293 ?_
  refine l_callA hS (As := [iv (sx xs (i + 1))]) (rst := []) (c_Ai_insertLine rfl (sx xs (i + 1)) σ) hA miX11_insertLine mlL_23 rfl (Nat.le_of_ble_eq_true rfl) (Nat.le_of_ble_eq_true rfl) (Nat.le_of_ble_eq_true rfl) rfl dL_law_294 ?_
  refine l_a2 hS dL_law_297 ?_
  refine l_arg hS (i := i) (k := 1) rfl (by omega) hn dL_law_298 dL_law_299 dL_law_300 dL_law_301 dL_law_302 ?_
  refine l_callB hS (As := [iv (sx xs (i + 1))]) (rst := [iv r]) (c_Md_insertLine rfl (sx xs (i + 1)) τ) hB miX12_insertLine mlL_26 rfl (Nat.le_of_ble_eq_true rfl) (Nat.le_of_ble_eq_true rfl) (Nat.le_of_ble_eq_true rfl) rfl dL_law_303 ?_
  exact l_eqI hS (r := r) (st := []) dL_law_306 (by decide) (kk σ1 τ1 hI1)
theorem l_k3 (hS : StdL X κ ad n xs) (hn : n ≤ 3072) {i : Nat} (hi : i + 6 ≤ n) (hI : Inv σ τ) (kk : ∀ σ' τ', Inv σ' τ' → Sl X κ 1536 (LL X κ i) [] σ' τ') : Sl X κ 311 (LL X κ i) [] σ τ := by
  obtain ⟨r, σ1, hA, r1, τ1, hB, e1, hI1⟩ := t_replaceLine hI (RI_x xs (i + 1))
  rw [e1] at hB
  refine l_a1 hS dL_law_311 ?_
  refine l_arg hS (i := i) (k := 1) rfl (by omega) hn dL_law_312 dL_law_313 dL_law_314 dL_law_315 dL_law_316 ?_
  refine l_callA hS (As := [iv (sx xs (i + 1))]) (rst := []) (c_Ai_replaceLine rfl (sx xs (i + 1)) σ) hA miX11_replaceLine mlL_27 rfl (Nat.le_of_ble_eq_true rfl) (Nat.le_of_ble_eq_true rfl) (Nat.le_of_ble_eq_true rfl) rfl dL_law_317 ?_
  refine l_a2 hS dL_law_320 ?_
  refine l_arg hS (i := i) (k := 1) rfl (by omega) hn dL_law_321 dL_law_322 dL_law_323 dL_law_324 dL_law_325 ?_
  refine l_callB hS (As := [iv (sx xs (i + 1))]) (rst := [iv r]) (c_Md_replaceLine rfl (sx xs (i + 1)) τ) hB miX12_replaceLine mlL_30 rfl (Nat.le_of_ble_eq_true rfl) (Nat.le_of_ble_eq_true rfl) (Nat.le_of_ble_eq_true rfl) rfl dL_law_326 ?_
  exact l_eqI hS (r := r) (st := []) dL_law_329 (by decide) (kk σ1 τ1 hI1)
theorem l_k4 (hS : StdL X κ ad n xs) (hn : n ≤ 3072) {i : Nat} (hi : i + 6 ≤ n) (hI : Inv σ τ) (kk : ∀ σ' τ', Inv σ' τ' → Sl X κ 1536 (LL X κ i) [] σ' τ') : Sl X κ 334 (LL X κ i) [] σ τ := by
  obtain ⟨r, σ1, hA, r1, τ1, hB, e1, hI1⟩ := t_removeLine hI (RI_x xs (i + 1))
  rw [e1] at hB
  refine l_a1 hS dL_law_334 ?_
  refine l_arg hS (i := i) (k := 1) rfl (by omega) hn dL_law_335 dL_law_336 dL_law_337 dL_law_338 dL_law_339 ?_
  refine l_callA hS (As := [iv (sx xs (i + 1))]) (rst := []) (c_Ai_removeLine rfl (sx xs (i + 1)) σ) hA miX11_removeLine mlL_31 rfl (Nat.le_of_ble_eq_true rfl) (Nat.le_of_ble_eq_true rfl) (Nat.le_of_ble_eq_true rfl) rfl dL_law_340 ?_
  refine l_a2 hS dL_law_343 ?_
  refine l_arg hS (i := i) (k := 1) rfl (by omega) hn dL_law_344 dL_law_345 dL_law_346 dL_law_347 dL_law_348 ?_
  refine l_callB hS (As := [iv (sx xs (i + 1))]) (rst := [iv r]) (c_Md_removeLine rfl (sx xs (i + 1)) τ) hB miX12_removeLine mlL_34 rfl (Nat.le_of_ble_eq_true rfl) (Nat.le_of_ble_eq_true rfl) (Nat.le_of_ble_eq_true rfl) rfl dL_law_349 ?_
  exact l_eqI hS (r := r) (st := []) dL_law_352 (by decide) (kk σ1 τ1 hI1)
theorem l_k5 (hS : StdL X κ ad n xs) (hn : n ≤ 3072) {i : Nat} (hi : i + 6 ≤ n) (hI : Inv σ τ) (kk : ∀ σ' τ', Inv σ' τ' → Sl X κ 1536 (LL X κ i) [] σ' τ') : Sl X κ 357 (LL X κ i) [] σ τ := by
  obtain ⟨r, σ1, hA, r1, τ1, hB, e1, hI1⟩ := t_splitLine hI (RI_x xs (i + 1)) (RI_x xs (i + 2))
  rw [e1] at hB
  refine l_a1 hS dL_law_357 ?_
  refine l_arg hS (i := i) (k := 1) rfl (by omega) hn dL_law_358 dL_law_359 dL_law_360 dL_law_361 dL_law_362 ?_
  refine l_arg hS (i := i) (k := 2) rfl (by omega) hn dL_law_363 dL_law_364 dL_law_365 dL_law_366 dL_law_367 ?_
  refine l_callA hS (As := [iv (sx xs (i + 1)), iv (sx xs (i + 2))]) (rst := []) (c_Ai_splitLine rfl (sx xs (i + 1)) (sx xs (i + 2)) σ) hA miX11_splitLine mlL_35 rfl (Nat.le_of_ble_eq_true rfl) (Nat.le_of_ble_eq_true rfl) (Nat.le_of_ble_eq_true rfl) rfl dL_law_368 ?_
  refine l_a2 hS dL_law_371 ?_
  refine l_arg hS (i := i) (k := 1) rfl (by omega) hn dL_law_372 dL_law_373 dL_law_374 dL_law_375 dL_law_376 ?_
  refine l_arg hS (i := i) (k := 2) rfl (by omega) hn dL_law_377 dL_law_378 dL_law_379 dL_law_380 dL_law_381 ?_
  refine l_callB hS (As := [iv (sx xs (i + 1)), iv (sx xs (i + 2))]) (rst := [iv r]) (c_Md_splitLine rfl (sx xs (i + 1)) (sx xs (i + 2)) τ) hB miX12_splitLine mlL_39 rfl (Nat.le_of_ble_eq_true rfl) (Nat.le_of_ble_eq_true rfl) (Nat.le_of_ble_eq_true rfl) rfl dL_law_382 ?_
  exact l_eqI hS (r := r) (st := []) dL_law_385 (by decide) (kk σ1 τ1 hI1)
theorem l_k6 (hS : StdL X κ ad n xs) (hn : n ≤ 3072) {i : Nat} (hi : i + 6 ≤ n) (hI : Inv σ τ) (kk : ∀ σ' τ', Inv σ' τ' → Sl X κ 1536 (LL X κ i) [] σ' τ') : Sl X κ 390 (LL X κ i) [] σ τ := by
  obtain ⟨r, σ1, hA, r1, τ1, hB, e1, hI1⟩ := t_joinLines hI (RI_x xs (i + 1))
  rw [e1] at hB
  refine l_a1 hS dL_law_390 ?_
  refine l_arg hS (i := i) (k := 1) rfl (by omega) hn dL_law_391 dL_law_392 dL_law_393 dL_law_394 dL_law_395 ?_
  refine l_callA hS (As := [iv (sx xs (i + 1))]) (rst := []) (c_Ai_joinLines rfl (sx xs (i + 1)) σ) hA miX11_joinLines mlL_40 rfl (Nat.le_of_ble_eq_true rfl) (Nat.le_of_ble_eq_true rfl) (Nat.le_of_ble_eq_true rfl) rfl dL_law_396 ?_
  refine l_a2 hS dL_law_399 ?_
  refine l_arg hS (i := i) (k := 1) rfl (by omega) hn dL_law_400 dL_law_401 dL_law_402 dL_law_403 dL_law_404 ?_
  refine l_callB hS (As := [iv (sx xs (i + 1))]) (rst := [iv r]) (c_Md_joinLines rfl (sx xs (i + 1)) τ) hB miX12_joinLines mlL_43 rfl (Nat.le_of_ble_eq_true rfl) (Nat.le_of_ble_eq_true rfl) (Nat.le_of_ble_eq_true rfl) rfl dL_law_405 ?_
  exact l_eqI hS (r := r) (st := []) dL_law_408 (by decide) (kk σ1 τ1 hI1)
theorem l_k7 (hS : StdL X κ ad n xs) (hn : n ≤ 3072) {i : Nat} (hi : i + 6 ≤ n) (hI : Inv σ τ) (kk : ∀ σ' τ', Inv σ' τ' → Sl X κ 1536 (LL X κ i) [] σ' τ') : Sl X κ 413 (LL X κ i) [] σ τ := by
  obtain ⟨r, σ1, hA, r1, τ1, hB, e1, hI1⟩ := t_shift hI (RI_x xs (i + 1)) (RI_x xs (i + 2)) (RI_x xs (i + 3))
  rw [e1] at hB
  refine l_a1 hS dL_law_413 ?_
  refine l_arg hS (i := i) (k := 1) rfl (by omega) hn dL_law_414 dL_law_415 dL_law_416 dL_law_417 dL_law_418 ?_
  refine l_arg hS (i := i) (k := 2) rfl (by omega) hn dL_law_419 dL_law_420 dL_law_421 dL_law_422 dL_law_423 ?_
  refine l_arg hS (i := i) (k := 3) rfl (by omega) hn dL_law_424 dL_law_425 dL_law_426 dL_law_427 dL_law_428 ?_
  refine l_callA hS (As := [iv (sx xs (i + 1)), iv (sx xs (i + 2)), iv (sx xs (i + 3))]) (rst := []) (c_Ai_shift rfl (sx xs (i + 1)) (sx xs (i + 2)) (sx xs (i + 3)) σ) hA miX11_shift mlL_44 rfl (Nat.le_of_ble_eq_true rfl) (Nat.le_of_ble_eq_true rfl) (Nat.le_of_ble_eq_true rfl) rfl dL_law_429 ?_
  refine l_a2 hS dL_law_432 ?_
  refine l_arg hS (i := i) (k := 1) rfl (by omega) hn dL_law_433 dL_law_434 dL_law_435 dL_law_436 dL_law_437 ?_
  refine l_arg hS (i := i) (k := 2) rfl (by omega) hn dL_law_438 dL_law_439 dL_law_440 dL_law_441 dL_law_442 ?_
  refine l_arg hS (i := i) (k := 3) rfl (by omega) hn dL_law_443 dL_law_444 dL_law_445 dL_law_446 dL_law_447 ?_
  refine l_callB hS (As := [iv (sx xs (i + 1)), iv (sx xs (i + 2)), iv (sx xs (i + 3))]) (rst := [iv r]) (c_Md_shift rfl (sx xs (i + 1)) (sx xs (i + 2)) (sx xs (i + 3)) τ) hB miX12_shift mlL_48 rfl (Nat.le_of_ble_eq_true rfl) (Nat.le_of_ble_eq_true rfl) (Nat.le_of_ble_eq_true rfl) rfl dL_law_448 ?_
  exact l_eqI hS (r := r) (st := []) dL_law_451 (by decide) (kk σ1 τ1 hI1)
theorem l_k8 (hS : StdL X κ ad n xs) (hn : n ≤ 3072) {i : Nat} (hi : i + 6 ≤ n) (hI : Inv σ τ) (kk : ∀ σ' τ', Inv σ' τ' → Sl X κ 1536 (LL X κ i) [] σ' τ') : Sl X κ 456 (LL X κ i) [] σ τ := by
  obtain ⟨r, σ1, hA, r1, τ1, hB, e1, hI1⟩ := t_pin hI (RI_x xs (i + 1))
  rw [e1] at hB
  refine l_a1 hS dL_law_456 ?_
  refine l_arg hS (i := i) (k := 1) rfl (by omega) hn dL_law_457 dL_law_458 dL_law_459 dL_law_460 dL_law_461 ?_
  refine l_callA hS (As := [iv (sx xs (i + 1))]) (rst := []) (c_Ai_pin rfl (sx xs (i + 1)) σ) hA miX11_pin mlL_49 rfl (Nat.le_of_ble_eq_true rfl) (Nat.le_of_ble_eq_true rfl) (Nat.le_of_ble_eq_true rfl) rfl dL_law_462 ?_
  refine l_a2 hS dL_law_465 ?_
  refine l_arg hS (i := i) (k := 1) rfl (by omega) hn dL_law_466 dL_law_467 dL_law_468 dL_law_469 dL_law_470 ?_
  refine l_callB hS (As := [iv (sx xs (i + 1))]) (rst := [iv r]) (c_Md_pin rfl (sx xs (i + 1)) τ) hB miX12_pin mlL_52 rfl (Nat.le_of_ble_eq_true rfl) (Nat.le_of_ble_eq_true rfl) (Nat.le_of_ble_eq_true rfl) rfl dL_law_471 ?_
  exact l_eqI hS (r := r) (st := []) dL_law_474 (by decide) (kk σ1 τ1 hI1)
theorem l_k9 (hS : StdL X κ ad n xs) (hn : n ≤ 3072) {i : Nat} (hi : i + 6 ≤ n) (hI : Inv σ τ) (kk : ∀ σ' τ', Inv σ' τ' → Sl X κ 1536 (LL X κ i) [] σ' τ') : Sl X κ 479 (LL X κ i) [] σ τ := by
  obtain ⟨r, σ1, hA, r1, τ1, hB, e1, hI1⟩ := t_reindent hI (RI_x xs (i + 1)) (RI_x xs (i + 2))
  rw [e1] at hB
  refine l_a1 hS dL_law_479 ?_
  refine l_arg hS (i := i) (k := 1) rfl (by omega) hn dL_law_480 dL_law_481 dL_law_482 dL_law_483 dL_law_484 ?_
  refine l_arg hS (i := i) (k := 2) rfl (by omega) hn dL_law_485 dL_law_486 dL_law_487 dL_law_488 dL_law_489 ?_
  refine l_callA hS (As := [iv (sx xs (i + 1)), iv (sx xs (i + 2))]) (rst := []) (c_Ai_reindent rfl (sx xs (i + 1)) (sx xs (i + 2)) σ) hA miX11_reindent mlL_53 rfl (Nat.le_of_ble_eq_true rfl) (Nat.le_of_ble_eq_true rfl) (Nat.le_of_ble_eq_true rfl) rfl dL_law_490 ?_
  refine l_a2 hS dL_law_493 ?_
  refine l_arg hS (i := i) (k := 1) rfl (by omega) hn dL_law_494 dL_law_495 dL_law_496 dL_law_497 dL_law_498 ?_
  refine l_arg hS (i := i) (k := 2) rfl (by omega) hn dL_law_499 dL_law_500 dL_law_501 dL_law_502 dL_law_503 ?_
  refine l_callB hS (As := [iv (sx xs (i + 1)), iv (sx xs (i + 2))]) (rst := [iv r]) (c_Md_reindent rfl (sx xs (i + 1)) (sx xs (i + 2)) τ) hB miX12_reindent mlL_56 rfl (Nat.le_of_ble_eq_true rfl) (Nat.le_of_ble_eq_true rfl) (Nat.le_of_ble_eq_true rfl) rfl dL_law_504 ?_
  exact l_eqI hS (r := r) (st := []) dL_law_507 (by decide) (kk σ1 τ1 hI1)
theorem l_k10 (hS : StdL X κ ad n xs) (hn : n ≤ 3072) {i : Nat} (hi : i + 6 ≤ n) (hI : Inv σ τ) (kk : ∀ σ' τ', Inv σ' τ' → Sl X κ 1536 (LL X κ i) [] σ' τ') : Sl X κ 512 (LL X κ i) [] σ τ := by
  obtain ⟨r, σ1, hA, r1, τ1, hB, e1, hI1⟩ := t_lines hI
  rw [e1] at hB
  refine l_a1 hS dL_law_512 ?_
  refine l_callA hS (As := []) (rst := []) (c_Ai_lines rfl  σ) hA miX11_lines mlL_57 rfl (Nat.le_of_ble_eq_true rfl) (Nat.le_of_ble_eq_true rfl) (Nat.le_of_ble_eq_true rfl) rfl dL_law_513 ?_
  refine l_a2 hS dL_law_516 ?_
  refine l_callB hS (As := []) (rst := [iv r]) (c_Md_lines rfl  τ) hB miX12_lines mlL_60 rfl (Nat.le_of_ble_eq_true rfl) (Nat.le_of_ble_eq_true rfl) (Nat.le_of_ble_eq_true rfl) rfl dL_law_517 ?_
  exact l_eqI hS (r := r) (st := []) dL_law_520 (by decide) (kk σ1 τ1 hI1)
theorem l_k11 (hS : StdL X κ ad n xs) (hn : n ≤ 3072) {i : Nat} (hi : i + 6 ≤ n) (hI : Inv σ τ) (kk : ∀ σ' τ', Inv σ' τ' → Sl X κ 1536 (LL X κ i) [] σ' τ') : Sl X κ 525 (LL X κ i) [] σ τ := by
  obtain ⟨r, σ1, hA, r1, τ1, hB, e1, hI1⟩ := t_indentation hI (RI_x xs (i + 1))
  rw [e1] at hB
  refine l_a1 hS dL_law_525 ?_
  refine l_arg hS (i := i) (k := 1) rfl (by omega) hn dL_law_526 dL_law_527 dL_law_528 dL_law_529 dL_law_530 ?_
  refine l_callA hS (As := [iv (sx xs (i + 1))]) (rst := []) (c_Ai_indentation rfl (sx xs (i + 1)) σ) hA miX11_indentation mlL_61 rfl (Nat.le_of_ble_eq_true rfl) (Nat.le_of_ble_eq_true rfl) (Nat.le_of_ble_eq_true rfl) rfl dL_law_531 ?_
  refine l_a2 hS dL_law_534 ?_
  refine l_arg hS (i := i) (k := 1) rfl (by omega) hn dL_law_535 dL_law_536 dL_law_537 dL_law_538 dL_law_539 ?_
  refine l_callB hS (As := [iv (sx xs (i + 1))]) (rst := [iv r]) (c_Md_indentation rfl (sx xs (i + 1)) τ) hB miX12_indentation mlL_64 rfl (Nat.le_of_ble_eq_true rfl) (Nat.le_of_ble_eq_true rfl) (Nat.le_of_ble_eq_true rfl) rfl dL_law_540 ?_
  exact l_eqI hS (r := r) (st := []) dL_law_543 (by decide) (kk σ1 τ1 hI1)
theorem l_k12 (hS : StdL X κ ad n xs) (hn : n ≤ 3072) {i : Nat} (hi : i + 6 ≤ n) (hI : Inv σ τ) (kk : ∀ σ' τ', Inv σ' τ' → Sl X κ 1536 (LL X κ i) [] σ' τ') : Sl X κ 548 (LL X κ i) [] σ τ := by
  obtain ⟨r, σ1, hA, r1, τ1, hB, e1, hI1⟩ := t_length hI (RI_x xs (i + 1))
  rw [e1] at hB
  refine l_a1 hS dL_law_548 ?_
  refine l_arg hS (i := i) (k := 1) rfl (by omega) hn dL_law_549 dL_law_550 dL_law_551 dL_law_552 dL_law_553 ?_
  refine l_callA hS (As := [iv (sx xs (i + 1))]) (rst := []) (c_Ai_length rfl (sx xs (i + 1)) σ) hA miX11_length mlL_65 rfl (Nat.le_of_ble_eq_true rfl) (Nat.le_of_ble_eq_true rfl) (Nat.le_of_ble_eq_true rfl) rfl dL_law_554 ?_
  refine l_a2 hS dL_law_557 ?_
  refine l_arg hS (i := i) (k := 1) rfl (by omega) hn dL_law_558 dL_law_559 dL_law_560 dL_law_561 dL_law_562 ?_
  refine l_callB hS (As := [iv (sx xs (i + 1))]) (rst := [iv r]) (c_Md_length rfl (sx xs (i + 1)) τ) hB miX12_length mlL_68 rfl (Nat.le_of_ble_eq_true rfl) (Nat.le_of_ble_eq_true rfl) (Nat.le_of_ble_eq_true rfl) rfl dL_law_563 ?_
  exact l_eqI hS (r := r) (st := []) dL_law_566 (by decide) (kk σ1 τ1 hI1)
theorem l_k13 (hS : StdL X κ ad n xs) (hn : n ≤ 3072) {i : Nat} (hi : i + 6 ≤ n) (hI : Inv σ τ) (kk : ∀ σ' τ', Inv σ' τ' → Sl X κ 1536 (LL X κ i) [] σ' τ') : Sl X κ 571 (LL X κ i) [] σ τ := by
  obtain ⟨r, σ1, hA, r1, τ1, hB, e1, hI1⟩ := t_byteAt hI (RI_x xs (i + 1)) (RI_x xs (i + 2))
  rw [e1] at hB
  refine l_a1 hS dL_law_571 ?_
  refine l_arg hS (i := i) (k := 1) rfl (by omega) hn dL_law_572 dL_law_573 dL_law_574 dL_law_575 dL_law_576 ?_
  refine l_arg hS (i := i) (k := 2) rfl (by omega) hn dL_law_577 dL_law_578 dL_law_579 dL_law_580 dL_law_581 ?_
  refine l_callA hS (As := [iv (sx xs (i + 1)), iv (sx xs (i + 2))]) (rst := []) (c_Ai_byteAt rfl (sx xs (i + 1)) (sx xs (i + 2)) σ) hA miX11_byteAt mlL_69 rfl (Nat.le_of_ble_eq_true rfl) (Nat.le_of_ble_eq_true rfl) (Nat.le_of_ble_eq_true rfl) rfl dL_law_582 ?_
  refine l_a2 hS dL_law_585 ?_
  refine l_arg hS (i := i) (k := 1) rfl (by omega) hn dL_law_586 dL_law_587 dL_law_588 dL_law_589 dL_law_590 ?_
  refine l_arg hS (i := i) (k := 2) rfl (by omega) hn dL_law_591 dL_law_592 dL_law_593 dL_law_594 dL_law_595 ?_
  refine l_callB hS (As := [iv (sx xs (i + 1)), iv (sx xs (i + 2))]) (rst := [iv r]) (c_Md_byteAt rfl (sx xs (i + 1)) (sx xs (i + 2)) τ) hB miX12_byteAt mlL_72 rfl (Nat.le_of_ble_eq_true rfl) (Nat.le_of_ble_eq_true rfl) (Nat.le_of_ble_eq_true rfl) rfl dL_law_596 ?_
  exact l_eqI hS (r := r) (st := []) dL_law_599 (by decide) (kk σ1 τ1 hI1)
theorem l_k14 (hS : StdL X κ ad n xs) (hn : n ≤ 3072) {i : Nat} (hi : i + 6 ≤ n) (hI : Inv σ τ) (kk : ∀ σ' τ', Inv σ' τ' → Sl X κ 1536 (LL X κ i) [] σ' τ') : Sl X κ 604 (LL X κ i) [] σ τ := by
  obtain ⟨r, σ1, hA, r1, τ1, hB, e1, hI1⟩ := t_isProtected hI (RI_x xs (i + 1))
  rw [e1] at hB
  refine l_a1 hS dL_law_604 ?_
  refine l_arg hS (i := i) (k := 1) rfl (by omega) hn dL_law_605 dL_law_606 dL_law_607 dL_law_608 dL_law_609 ?_
  refine l_callA hS (As := [iv (sx xs (i + 1))]) (rst := []) (c_Ai_isProtected rfl (sx xs (i + 1)) σ) hA miX11_isProtected mlL_73 rfl (Nat.le_of_ble_eq_true rfl) (Nat.le_of_ble_eq_true rfl) (Nat.le_of_ble_eq_true rfl) rfl dL_law_610 ?_
  refine l_a2 hS dL_law_613 ?_
  refine l_arg hS (i := i) (k := 1) rfl (by omega) hn dL_law_614 dL_law_615 dL_law_616 dL_law_617 dL_law_618 ?_
  refine l_callB hS (As := [iv (sx xs (i + 1))]) (rst := [iv r]) (c_Md_isProtected rfl (sx xs (i + 1)) τ) hB miX12_isProtected mlL_76 rfl (Nat.le_of_ble_eq_true rfl) (Nat.le_of_ble_eq_true rfl) (Nat.le_of_ble_eq_true rfl) rfl dL_law_619 ?_
  exact l_eqI hS (r := r) (st := []) dL_law_622 (by decide) (kk σ1 τ1 hI1)
theorem l_k15 (hS : StdL X κ ad n xs) (hn : n ≤ 3072) {i : Nat} (hi : i + 6 ≤ n) (hI : Inv σ τ) (kk : ∀ σ' τ', Inv σ' τ' → Sl X κ 1536 (LL X κ i) [] σ' τ') : Sl X κ 627 (LL X κ i) [] σ τ := by
  obtain ⟨r, σ1, hA, r1, τ1, hB, e1, hI1⟩ := t_isPinned hI (RI_x xs (i + 1))
  rw [e1] at hB
  refine l_a1 hS dL_law_627 ?_
  refine l_arg hS (i := i) (k := 1) rfl (by omega) hn dL_law_628 dL_law_629 dL_law_630 dL_law_631 dL_law_632 ?_
  refine l_callA hS (As := [iv (sx xs (i + 1))]) (rst := []) (c_Ai_isPinned rfl (sx xs (i + 1)) σ) hA miX11_isPinned mlL_77 rfl (Nat.le_of_ble_eq_true rfl) (Nat.le_of_ble_eq_true rfl) (Nat.le_of_ble_eq_true rfl) rfl dL_law_633 ?_
  refine l_a2 hS dL_law_636 ?_
  refine l_arg hS (i := i) (k := 1) rfl (by omega) hn dL_law_637 dL_law_638 dL_law_639 dL_law_640 dL_law_641 ?_
  refine l_callB hS (As := [iv (sx xs (i + 1))]) (rst := [iv r]) (c_Md_isPinned rfl (sx xs (i + 1)) τ) hB miX12_isPinned mlL_80 rfl (Nat.le_of_ble_eq_true rfl) (Nat.le_of_ble_eq_true rfl) (Nat.le_of_ble_eq_true rfl) rfl dL_law_642 ?_
  exact l_eqI hS (r := r) (st := []) dL_law_645 (by decide) (kk σ1 τ1 hI1)
theorem l_k16 (hS : StdL X κ ad n xs) (hn : n ≤ 3072) {i : Nat} (hi : i + 6 ≤ n) (hI : Inv σ τ) (kk : ∀ σ' τ', Inv σ' τ' → Sl X κ 1536 (LL X κ i) [] σ' τ') : Sl X κ 650 (LL X κ i) [] σ τ := by
  obtain ⟨r, σ1, hA, r1, τ1, hB, e1, hI1⟩ := t_setStep hI (RI_x xs (i + 1))
  rw [e1] at hB
  refine l_a1 hS dL_law_650 ?_
  refine l_arg hS (i := i) (k := 1) rfl (by omega) hn dL_law_651 dL_law_652 dL_law_653 dL_law_654 dL_law_655 ?_
  refine l_callA hS (As := [iv (sx xs (i + 1))]) (rst := []) (c_Ai_setStep rfl (sx xs (i + 1)) σ) hA miX11_setStep mlL_81 rfl (Nat.le_of_ble_eq_true rfl) (Nat.le_of_ble_eq_true rfl) (Nat.le_of_ble_eq_true rfl) rfl dL_law_656 ?_
  refine l_a2 hS dL_law_659 ?_
  refine l_arg hS (i := i) (k := 1) rfl (by omega) hn dL_law_660 dL_law_661 dL_law_662 dL_law_663 dL_law_664 ?_
  refine l_callB hS (As := [iv (sx xs (i + 1))]) (rst := [iv r]) (c_Md_setStep rfl (sx xs (i + 1)) τ) hB miX12_setStep mlL_84 rfl (Nat.le_of_ble_eq_true rfl) (Nat.le_of_ble_eq_true rfl) (Nat.le_of_ble_eq_true rfl) rfl dL_law_665 ?_
  exact l_eqI hS (r := r) (st := []) dL_law_668 (by decide) (kk σ1 τ1 hI1)
theorem l_k17 (hS : StdL X κ ad n xs) (hn : n ≤ 3072) {i : Nat} (hi : i + 6 ≤ n) (hI : Inv σ τ) (kk : ∀ σ' τ', Inv σ' τ' → Sl X κ 1536 (LL X κ i) [] σ' τ') : Sl X κ 673 (LL X κ i) [] σ τ := by
  obtain ⟨r, σ1, hA, r1, τ1, hB, e1, hI1⟩ := t_setBase hI (RI_x xs (i + 1))
  rw [e1] at hB
  refine l_a1 hS dL_law_673 ?_
  refine l_arg hS (i := i) (k := 1) rfl (by omega) hn dL_law_674 dL_law_675 dL_law_676 dL_law_677 dL_law_678 ?_
  refine l_callA hS (As := [iv (sx xs (i + 1))]) (rst := []) (c_Ai_setBase rfl (sx xs (i + 1)) σ) hA miX11_setBase mlL_85 rfl (Nat.le_of_ble_eq_true rfl) (Nat.le_of_ble_eq_true rfl) (Nat.le_of_ble_eq_true rfl) rfl dL_law_679 ?_
  refine l_a2 hS dL_law_682 ?_
  refine l_arg hS (i := i) (k := 1) rfl (by omega) hn dL_law_683 dL_law_684 dL_law_685 dL_law_686 dL_law_687 ?_
  refine l_callB hS (As := [iv (sx xs (i + 1))]) (rst := [iv r]) (c_Md_setBase rfl (sx xs (i + 1)) τ) hB miX12_setBase mlL_88 rfl (Nat.le_of_ble_eq_true rfl) (Nat.le_of_ble_eq_true rfl) (Nat.le_of_ble_eq_true rfl) rfl dL_law_688 ?_
  exact l_eqI hS (r := r) (st := []) dL_law_691 (by decide) (kk σ1 τ1 hI1)
theorem l_k18 (hS : StdL X κ ad n xs) (hn : n ≤ 3072) {i : Nat} (hi : i + 6 ≤ n) (hI : Inv σ τ) (kk : ∀ σ' τ', Inv σ' τ' → Sl X κ 1536 (LL X κ i) [] σ' τ') : Sl X κ 696 (LL X κ i) [] σ τ := by
  obtain ⟨r, σ1, hA, r1, τ1, hB, e1, hI1⟩ := t_setComment hI (RI_x xs (i + 1))
  rw [e1] at hB
  refine l_a1 hS dL_law_696 ?_
  refine l_arg hS (i := i) (k := 1) rfl (by omega) hn dL_law_697 dL_law_698 dL_law_699 dL_law_700 dL_law_701 ?_
  refine l_callA hS (As := [iv (sx xs (i + 1))]) (rst := []) (c_Ai_setComment rfl (sx xs (i + 1)) σ) hA miX11_setComment mlL_89 rfl (Nat.le_of_ble_eq_true rfl) (Nat.le_of_ble_eq_true rfl) (Nat.le_of_ble_eq_true rfl) rfl dL_law_702 ?_
  refine l_a2 hS dL_law_705 ?_
  refine l_arg hS (i := i) (k := 1) rfl (by omega) hn dL_law_706 dL_law_707 dL_law_708 dL_law_709 dL_law_710 ?_
  refine l_callB hS (As := [iv (sx xs (i + 1))]) (rst := [iv r]) (c_Md_setComment rfl (sx xs (i + 1)) τ) hB miX12_setComment mlL_92 rfl (Nat.le_of_ble_eq_true rfl) (Nat.le_of_ble_eq_true rfl) (Nat.le_of_ble_eq_true rfl) rfl dL_law_711 ?_
  exact l_eqI hS (r := r) (st := []) dL_law_714 (by decide) (kk σ1 τ1 hI1)
theorem l_k19 (hS : StdL X κ ad n xs) (hn : n ≤ 3072) {i : Nat} (hi : i + 6 ≤ n) (hI : Inv σ τ) (kk : ∀ σ' τ', Inv σ' τ' → Sl X κ 1536 (LL X κ i) [] σ' τ') : Sl X κ 719 (LL X κ i) [] σ τ := by
  obtain ⟨r, σ1, hA, r1, τ1, hB, e1, hI1⟩ := t_pair hI (RI_x xs (i + 1)) (RI_x xs (i + 2)) (RI_x xs (i + 3)) (RI_x xs (i + 4)) (RI_x xs (i + 5))
  rw [e1] at hB
  refine l_a1 hS dL_law_719 ?_
  refine l_arg hS (i := i) (k := 1) rfl (by omega) hn dL_law_720 dL_law_721 dL_law_722 dL_law_723 dL_law_724 ?_
  refine l_arg hS (i := i) (k := 2) rfl (by omega) hn dL_law_725 dL_law_726 dL_law_727 dL_law_728 dL_law_729 ?_
  refine l_arg hS (i := i) (k := 3) rfl (by omega) hn dL_law_730 dL_law_731 dL_law_732 dL_law_733 dL_law_734 ?_
  refine l_arg hS (i := i) (k := 4) rfl (by omega) hn dL_law_735 dL_law_736 dL_law_737 dL_law_738 dL_law_739 ?_
  refine l_arg hS (i := i) (k := 5) rfl (by omega) hn dL_law_740 dL_law_741 dL_law_742 dL_law_743 dL_law_744 ?_
  refine l_callA hS (As := [iv (sx xs (i + 1)), iv (sx xs (i + 2)), iv (sx xs (i + 3)), iv (sx xs (i + 4)), iv (sx xs (i + 5))]) (rst := []) (c_Ai_pair rfl (sx xs (i + 1)) (sx xs (i + 2)) (sx xs (i + 3)) (sx xs (i + 4)) (sx xs (i + 5)) σ) hA miX11_pair mlL_93 rfl (Nat.le_of_ble_eq_true rfl) (Nat.le_of_ble_eq_true rfl) (Nat.le_of_ble_eq_true rfl) rfl dL_law_745 ?_
  refine l_a2 hS dL_law_748 ?_
  refine l_arg hS (i := i) (k := 1) rfl (by omega) hn dL_law_749 dL_law_750 dL_law_751 dL_law_752 dL_law_753 ?_
  refine l_arg hS (i := i) (k := 2) rfl (by omega) hn dL_law_754 dL_law_755 dL_law_756 dL_law_757 dL_law_758 ?_
  refine l_arg hS (i := i) (k := 3) rfl (by omega) hn dL_law_759 dL_law_760 dL_law_761 dL_law_762 dL_law_763 ?_
  refine l_arg hS (i := i) (k := 4) rfl (by omega) hn dL_law_764 dL_law_765 dL_law_766 dL_law_767 dL_law_768 ?_
  refine l_arg hS (i := i) (k := 5) rfl (by omega) hn dL_law_769 dL_law_770 dL_law_771 dL_law_772 dL_law_773 ?_
  refine l_callB hS (As := [iv (sx xs (i + 1)), iv (sx xs (i + 2)), iv (sx xs (i + 3)), iv (sx xs (i + 4)), iv (sx xs (i + 5))]) (rst := [iv r]) (c_Md_pair rfl (sx xs (i + 1)) (sx xs (i + 2)) (sx xs (i + 3)) (sx xs (i + 4)) (sx xs (i + 5)) τ) hB miX12_pair mlL_97 rfl (Nat.le_of_ble_eq_true rfl) (Nat.le_of_ble_eq_true rfl) (Nat.le_of_ble_eq_true rfl) rfl dL_law_774 ?_
  exact l_eqI hS (r := r) (st := []) dL_law_777 (by decide) (kk σ1 τ1 hI1)
theorem l_k20 (hS : StdL X κ ad n xs) (hn : n ≤ 3072) {i : Nat} (hi : i + 6 ≤ n) (hI : Inv σ τ) (kk : ∀ σ' τ', Inv σ' τ' → Sl X κ 1536 (LL X κ i) [] σ' τ') : Sl X κ 782 (LL X κ i) [] σ τ := by
  obtain ⟨r, σ1, hA, r1, τ1, hB, e1, hI1⟩ := t_starter hI (RI_x xs (i + 1)) (RI_x xs (i + 2)) (RI_x xs (i + 3))
  rw [e1] at hB
  refine l_a1 hS dL_law_782 ?_
  refine l_arg hS (i := i) (k := 1) rfl (by omega) hn dL_law_783 dL_law_784 dL_law_785 dL_law_786 dL_law_787 ?_
  refine l_arg hS (i := i) (k := 2) rfl (by omega) hn dL_law_788 dL_law_789 dL_law_790 dL_law_791 dL_law_792 ?_
  refine l_arg hS (i := i) (k := 3) rfl (by omega) hn dL_law_793 dL_law_794 dL_law_795 dL_law_796 dL_law_797 ?_
  refine l_callA hS (As := [iv (sx xs (i + 1)), iv (sx xs (i + 2)), iv (sx xs (i + 3))]) (rst := []) (c_Ai_starter rfl (sx xs (i + 1)) (sx xs (i + 2)) (sx xs (i + 3)) σ) hA miX11_starter mlL_98 rfl (Nat.le_of_ble_eq_true rfl) (Nat.le_of_ble_eq_true rfl) (Nat.le_of_ble_eq_true rfl) rfl dL_law_798 ?_
  refine l_a2 hS dL_law_801 ?_
  refine l_arg hS (i := i) (k := 1) rfl (by omega) hn dL_law_802 dL_law_803 dL_law_804 dL_law_805 dL_law_806 ?_
  refine l_arg hS (i := i) (k := 2) rfl (by omega) hn dL_law_807 dL_law_808 dL_law_809 dL_law_810 dL_law_811 ?_
  refine l_arg hS (i := i) (k := 3) rfl (by omega) hn dL_law_812 dL_law_813 dL_law_814 dL_law_815 dL_law_816 ?_
  refine l_callB hS (As := [iv (sx xs (i + 1)), iv (sx xs (i + 2)), iv (sx xs (i + 3))]) (rst := [iv r]) (c_Md_starter rfl (sx xs (i + 1)) (sx xs (i + 2)) (sx xs (i + 3)) τ) hB miX12_starter mlL_101 rfl (Nat.le_of_ble_eq_true rfl) (Nat.le_of_ble_eq_true rfl) (Nat.le_of_ble_eq_true rfl) rfl dL_law_817 ?_
  exact l_eqI hS (r := r) (st := []) dL_law_820 (by decide) (kk σ1 τ1 hI1)
theorem l_k21 (hS : StdL X κ ad n xs) (hn : n ≤ 3072) {i : Nat} (hi : i + 6 ≤ n) (hI : Inv σ τ) (kk : ∀ σ' τ', Inv σ' τ' → Sl X κ 1536 (LL X κ i) [] σ' τ') : Sl X κ 825 (LL X κ i) [] σ τ := by
  obtain ⟨r, σ1, hA, r1, τ1, hB, e1, hI1⟩ := t_joiner hI (RI_x xs (i + 1)) (RI_x xs (i + 2)) (RI_x xs (i + 3))
  rw [e1] at hB
  refine l_a1 hS dL_law_825 ?_
  refine l_arg hS (i := i) (k := 1) rfl (by omega) hn dL_law_826 dL_law_827 dL_law_828 dL_law_829 dL_law_830 ?_
  refine l_arg hS (i := i) (k := 2) rfl (by omega) hn dL_law_831 dL_law_832 dL_law_833 dL_law_834 dL_law_835 ?_
  refine l_arg hS (i := i) (k := 3) rfl (by omega) hn dL_law_836 dL_law_837 dL_law_838 dL_law_839 dL_law_840 ?_
  refine l_callA hS (As := [iv (sx xs (i + 1)), iv (sx xs (i + 2)), iv (sx xs (i + 3))]) (rst := []) (c_Ai_joiner rfl (sx xs (i + 1)) (sx xs (i + 2)) (sx xs (i + 3)) σ) hA miX11_joiner mlL_102 rfl (Nat.le_of_ble_eq_true rfl) (Nat.le_of_ble_eq_true rfl) (Nat.le_of_ble_eq_true rfl) rfl dL_law_841 ?_
  refine l_a2 hS dL_law_844 ?_
  refine l_arg hS (i := i) (k := 1) rfl (by omega) hn dL_law_845 dL_law_846 dL_law_847 dL_law_848 dL_law_849 ?_
  refine l_arg hS (i := i) (k := 2) rfl (by omega) hn dL_law_850 dL_law_851 dL_law_852 dL_law_853 dL_law_854 ?_
  refine l_arg hS (i := i) (k := 3) rfl (by omega) hn dL_law_855 dL_law_856 dL_law_857 dL_law_858 dL_law_859 ?_
  refine l_callB hS (As := [iv (sx xs (i + 1)), iv (sx xs (i + 2)), iv (sx xs (i + 3))]) (rst := [iv r]) (c_Md_joiner rfl (sx xs (i + 1)) (sx xs (i + 2)) (sx xs (i + 3)) τ) hB miX12_joiner mlL_105 rfl (Nat.le_of_ble_eq_true rfl) (Nat.le_of_ble_eq_true rfl) (Nat.le_of_ble_eq_true rfl) rfl dL_law_860 ?_
  exact l_eqI hS (r := r) (st := []) dL_law_863 (by decide) (kk σ1 τ1 hI1)
theorem l_k22 (hS : StdL X κ ad n xs) (hn : n ≤ 3072) {i : Nat} (hi : i + 6 ≤ n) (hI : Inv σ τ) (kk : ∀ σ' τ', Inv σ' τ' → Sl X κ 1536 (LL X κ i) [] σ' τ') : Sl X κ 868 (LL X κ i) [] σ τ := by
  obtain ⟨r, σ1, hA, r1, τ1, hB, e1, hI1⟩ := t_dropRule hI (RI_x xs (i + 1))
  rw [e1] at hB
  refine l_a1 hS dL_law_868 ?_
  refine l_arg hS (i := i) (k := 1) rfl (by omega) hn dL_law_869 dL_law_870 dL_law_871 dL_law_872 dL_law_873 ?_
  refine l_callA hS (As := [iv (sx xs (i + 1))]) (rst := []) (c_Ai_dropRule rfl (sx xs (i + 1)) σ) hA miX11_dropRule mlL_106 rfl (Nat.le_of_ble_eq_true rfl) (Nat.le_of_ble_eq_true rfl) (Nat.le_of_ble_eq_true rfl) rfl dL_law_874 ?_
  refine l_a2 hS dL_law_877 ?_
  refine l_arg hS (i := i) (k := 1) rfl (by omega) hn dL_law_878 dL_law_879 dL_law_880 dL_law_881 dL_law_882 ?_
  refine l_callB hS (As := [iv (sx xs (i + 1))]) (rst := [iv r]) (c_Md_dropRule rfl (sx xs (i + 1)) τ) hB miX12_dropRule mlL_109 rfl (Nat.le_of_ble_eq_true rfl) (Nat.le_of_ble_eq_true rfl) (Nat.le_of_ble_eq_true rfl) rfl dL_law_883 ?_
  exact l_eqI hS (r := r) (st := []) dL_law_886 (by decide) (kk σ1 τ1 hI1)
theorem l_k23 (hS : StdL X κ ad n xs) (hn : n ≤ 3072) {i : Nat} (hi : i + 6 ≤ n) (hI : Inv σ τ) (kk : ∀ σ' τ', Inv σ' τ' → Sl X κ 1536 (LL X κ i) [] σ' τ') : Sl X κ 891 (LL X κ i) [] σ τ := by
  obtain ⟨r, σ1, hA, r1, τ1, hB, e1, hI1⟩ := t_wanted hI (RI_x xs (i + 1))
  rw [e1] at hB
  refine l_a1 hS dL_law_891 ?_
  refine l_arg hS (i := i) (k := 1) rfl (by omega) hn dL_law_892 dL_law_893 dL_law_894 dL_law_895 dL_law_896 ?_
  refine l_callA hS (As := [iv (sx xs (i + 1))]) (rst := []) (c_Ai_wanted rfl (sx xs (i + 1)) σ) hA miX11_wanted mlL_110 rfl (Nat.le_of_ble_eq_true rfl) (Nat.le_of_ble_eq_true rfl) (Nat.le_of_ble_eq_true rfl) rfl dL_law_897 ?_
  refine l_a2 hS dL_law_900 ?_
  refine l_arg hS (i := i) (k := 1) rfl (by omega) hn dL_law_901 dL_law_902 dL_law_903 dL_law_904 dL_law_905 ?_
  refine l_callB hS (As := [iv (sx xs (i + 1))]) (rst := [iv r]) (c_Md_wanted rfl (sx xs (i + 1)) τ) hB miX12_wanted mlL_113 rfl (Nat.le_of_ble_eq_true rfl) (Nat.le_of_ble_eq_true rfl) (Nat.le_of_ble_eq_true rfl) rfl dL_law_906 ?_
  exact l_eqI hS (r := r) (st := []) dL_law_909 (by decide) (kk σ1 τ1 hI1)
theorem l_k24 (hS : StdL X κ ad n xs) (hn : n ≤ 3072) {i : Nat} (hi : i + 6 ≤ n) (hI : Inv σ τ) (kk : ∀ σ' τ', Inv σ' τ' → Sl X κ 1536 (LL X κ i) [] σ' τ') : Sl X κ 914 (LL X κ i) [] σ τ := by
  obtain ⟨r, σ1, hA, r1, τ1, hB, e1, hI1⟩ := t_reason hI (RI_x xs (i + 1))
  rw [e1] at hB
  refine l_a1 hS dL_law_914 ?_
  refine l_arg hS (i := i) (k := 1) rfl (by omega) hn dL_law_915 dL_law_916 dL_law_917 dL_law_918 dL_law_919 ?_
  refine l_callA hS (As := [iv (sx xs (i + 1))]) (rst := []) (c_Ai_reason rfl (sx xs (i + 1)) σ) hA miX11_reason mlL_114 rfl (Nat.le_of_ble_eq_true rfl) (Nat.le_of_ble_eq_true rfl) (Nat.le_of_ble_eq_true rfl) rfl dL_law_920 ?_
  refine l_a2 hS dL_law_923 ?_
  refine l_arg hS (i := i) (k := 1) rfl (by omega) hn dL_law_924 dL_law_925 dL_law_926 dL_law_927 dL_law_928 ?_
  refine l_callB hS (As := [iv (sx xs (i + 1))]) (rst := [iv r]) (c_Md_reason rfl (sx xs (i + 1)) τ) hB miX12_reason mlL_117 rfl (Nat.le_of_ble_eq_true rfl) (Nat.le_of_ble_eq_true rfl) (Nat.le_of_ble_eq_true rfl) rfl dL_law_929 ?_
  exact l_eqI hS (r := r) (st := []) dL_law_932 (by decide) (kk σ1 τ1 hI1)
theorem l_k25 (hS : StdL X κ ad n xs) (hn : n ≤ 3072) {i : Nat} (hi : i + 6 ≤ n) (hI : Inv σ τ) (kk : ∀ σ' τ', Inv σ' τ' → Sl X κ 1536 (LL X κ i) [] σ' τ') : Sl X κ 937 (LL X κ i) [] σ τ := by
  obtain ⟨r, σ1, hA, r1, τ1, hB, e1, hI1⟩ := t_decidingRule hI (RI_x xs (i + 1))
  rw [e1] at hB
  refine l_a1 hS dL_law_937 ?_
  refine l_arg hS (i := i) (k := 1) rfl (by omega) hn dL_law_938 dL_law_939 dL_law_940 dL_law_941 dL_law_942 ?_
  refine l_callA hS (As := [iv (sx xs (i + 1))]) (rst := []) (c_Ai_decidingRule rfl (sx xs (i + 1)) σ) hA miX11_decidingRule mlL_118 rfl (Nat.le_of_ble_eq_true rfl) (Nat.le_of_ble_eq_true rfl) (Nat.le_of_ble_eq_true rfl) rfl dL_law_943 ?_
  refine l_a2 hS dL_law_946 ?_
  refine l_arg hS (i := i) (k := 1) rfl (by omega) hn dL_law_947 dL_law_948 dL_law_949 dL_law_950 dL_law_951 ?_
  refine l_callB hS (As := [iv (sx xs (i + 1))]) (rst := [iv r]) (c_Md_decidingRule rfl (sx xs (i + 1)) τ) hB miX12_decidingRule mlL_121 rfl (Nat.le_of_ble_eq_true rfl) (Nat.le_of_ble_eq_true rfl) (Nat.le_of_ble_eq_true rfl) rfl dL_law_952 ?_
  exact l_eqI hS (r := r) (st := []) dL_law_955 (by decide) (kk σ1 τ1 hI1)
end CASES
