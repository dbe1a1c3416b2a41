/-! THE LAW, CALL BY CALL -/
theorem dL_law_375 : decode cL_law 375 = .ok (.aload_n 1, 1) := by decide +kernel
theorem dL_law_376 : decode cL_law 376 = .ok (.aload_n 0, 1) := by decide +kernel
theorem dL_law_377 : decode cL_law 377 = .ok (.iload 4, 2) := by decide +kernel
theorem dL_law_379 : decode cL_law 379 = .ok (.iconst 1, 1) := by decide +kernel
theorem dL_law_380 : decode cL_law 380 = .ok (.iadd, 1) := by decide +kernel
theorem dL_law_381 : decode cL_law 381 = .ok (.iaload, 1) := by decide +kernel
theorem dL_law_382 : decode cL_law 382 = .ok (.invokestatic 96, 3) := by decide +kernel
theorem dL_law_385 : decode cL_law 385 = .ok (.istore 5, 2) := by decide +kernel
theorem dL_law_387 : decode cL_law 387 = .ok (.aload_n 2, 1) := by decide +kernel
theorem dL_law_388 : decode cL_law 388 = .ok (.aload_n 0, 1) := by decide +kernel
theorem dL_law_389 : decode cL_law 389 = .ok (.iload 4, 2) := by decide +kernel
theorem dL_law_391 : decode cL_law 391 = .ok (.iconst 1, 1) := by decide +kernel
theorem dL_law_392 : decode cL_law 392 = .ok (.iadd, 1) := by decide +kernel
theorem dL_law_393 : decode cL_law 393 = .ok (.iaload, 1) := by decide +kernel
theorem dL_law_394 : decode cL_law 394 = .ok (.invokevirtual 99, 3) := by decide +kernel
theorem dL_law_397 : decode cL_law 397 = .ok (.goto 337, 3) := by decide +kernel
set_option maxHeartbeats 4000000 in
set_option maxRecDepth 100000 in
theorem lw_carry {p : Program} {l : Launch} {e : Env} {R : Room} {s : State} {m : MethodId} {args : Array Value} {below : List Frame} {meth : Method} {c : Code} {D : va_G} {dA : Nat → ClassId} {bs b L : Nat} {xs : Nat → Int32} {x mo o : Option Nat} {Q : State → Prop} (hl : l.stackTraces = false) (C : h_C p m c code 7 s args RL D dA) (hE : h_EY bs s) (hF : 11 ≤ R.frames) (hLo : 426 ≤ R.locals) (hX : va_X b L xs s s.heap) (hbl : b < s.heap.size) (hbs : bs = s.heap.size) {i : Nat} (hi : i + 5 ≤ L) (hL : L ≤ 2560) {σ : HS} {K : HS → Prop} (h : lc_carry xs x mo o i σ K)
    (kk : ∀ τ, K τ → V p l e R s m args below meth c D dA bs 7 Q τ 734 [(4, .int (nI i)), (3, va_rf o), (2, va_rf mo), (1, va_rf x), (0, va_rf (some b))] []) : V p l e R s m args below meth c D dA bs 7 Q σ 375 [(4, .int (nI i)), (3, va_rf o), (2, va_rf mo), (1, va_rf x), (0, va_rf (some b))] [] := by
  obtain ⟨q, r, σ1, hq, h1, hk, hn⟩ := h
  refine V_aload_n C 3 dL_law_375 rfl rfl ?_
  refine V_aload_n C 4 dL_law_376 rfl rfl ?_
  refine V_iload C 0 dL_law_377 rfl ?_
  refine V_iconst (v := 1) C dL_law_379 (by decide) ?_
  refine V_iadd C dL_law_380 ?_
  rw [lw_a1]
  refine V_sld C hX hbl hbs (j := i + 1) (by omega) (by omega) dL_law_381 ?_
  refine V_cH (As := [va_rf x, .int (xs (i + 1))]) (rest := []) C mh_96 (m_L_carry l hl D dA bs hq h1 hk) hE rfl rfl (Nat.le_trans h_w0 (by decide)) (Nat.le_trans (by decide) hF) (Nat.le_trans (by decide) hLo) dL_law_382 (fun k σ2 hp => ?_)
  obtain ⟨q2, hq2, σ3, h2, hK⟩ := hn k σ2 hp
  refine V_istore (lv' := [(5, .int k), (4, .int (nI i)), (3, va_rf o), (2, va_rf mo), (1, va_rf x), (0, va_rf (some b))]) C dL_law_385 (by decide) rfl ?_
  refine V_aload_n C 3 dL_law_387 rfl rfl ?_
  refine V_aload_n C 5 dL_law_388 rfl rfl ?_
  refine V_iload C 1 dL_law_389 rfl ?_
  refine V_iconst (v := 1) C dL_law_391 (by decide) ?_
  refine V_iadd C dL_law_392 ?_
  rw [lw_a1]
  refine V_sld C hX hbl hbs (j := i + 1) (by omega) (by omega) dL_law_393 ?_
  refine V_cV (As := [.int (xs (i + 1))]) (rest := []) C mv_RL_99 (m_X10_carry l D dA bs h2) hq2 rfl rfl (Nat.le_trans h_w0 (by decide)) (Nat.le_trans (by decide) hF) (Nat.le_trans (by decide) hLo) dL_law_394 ?_
  refine V_goto (tgt := 734) C dL_law_397 (by decide) ?_
  exact V_sub [1, 2, 3, 4, 5] rfl (kk σ3 hK)
theorem dL_law_400 : decode cL_law 400 = .ok (.aload_n 1, 1) := by decide +kernel
theorem dL_law_401 : decode cL_law 401 = .ok (.aload_n 0, 1) := by decide +kernel
theorem dL_law_402 : decode cL_law 402 = .ok (.iload 4, 2) := by decide +kernel
theorem dL_law_404 : decode cL_law 404 = .ok (.iconst 1, 1) := by decide +kernel
theorem dL_law_405 : decode cL_law 405 = .ok (.iadd, 1) := by decide +kernel
theorem dL_law_406 : decode cL_law 406 = .ok (.iaload, 1) := by decide +kernel
theorem dL_law_407 : decode cL_law 407 = .ok (.invokestatic 100, 3) := by decide +kernel
theorem dL_law_410 : decode cL_law 410 = .ok (.istore 5, 2) := by decide +kernel
theorem dL_law_412 : decode cL_law 412 = .ok (.aload_n 2, 1) := by decide +kernel
theorem dL_law_413 : decode cL_law 413 = .ok (.aload_n 0, 1) := by decide +kernel
theorem dL_law_414 : decode cL_law 414 = .ok (.iload 4, 2) := by decide +kernel
theorem dL_law_416 : decode cL_law 416 = .ok (.iconst 1, 1) := by decide +kernel
theorem dL_law_417 : decode cL_law 417 = .ok (.iadd, 1) := by decide +kernel
theorem dL_law_418 : decode cL_law 418 = .ok (.iaload, 1) := by decide +kernel
theorem dL_law_419 : decode cL_law 419 = .ok (.invokevirtual 102, 3) := by decide +kernel
theorem dL_law_422 : decode cL_law 422 = .ok (.goto 312, 3) := by decide +kernel
set_option maxHeartbeats 4000000 in
set_option maxRecDepth 100000 in
theorem lw_repeat {p : Program} {l : Launch} {e : Env} {R : Room} {s : State} {m : MethodId} {args : Array Value} {below : List Frame} {meth : Method} {c : Code} {D : va_G} {dA : Nat → ClassId} {bs b L : Nat} {xs : Nat → Int32} {x mo o : Option Nat} {Q : State → Prop} (hl : l.stackTraces = false) (C : h_C p m c code 7 s args RL D dA) (hE : h_EY bs s) (hF : 11 ≤ R.frames) (hLo : 426 ≤ R.locals) (hX : va_X b L xs s s.heap) (hbl : b < s.heap.size) (hbs : bs = s.heap.size) {i : Nat} (hi : i + 5 ≤ L) (hL : L ≤ 2560) {σ : HS} {K : HS → Prop} (h : lc_repeat xs x mo o i σ K)
    (kk : ∀ τ, K τ → V p l e R s m args below meth c D dA bs 7 Q τ 734 [(4, .int (nI i)), (3, va_rf o), (2, va_rf mo), (1, va_rf x), (0, va_rf (some b))] []) : V p l e R s m args below meth c D dA bs 7 Q σ 400 [(4, .int (nI i)), (3, va_rf o), (2, va_rf mo), (1, va_rf x), (0, va_rf (some b))] [] := by
  obtain ⟨q, r, σ1, hq, h1, hk, hn⟩ := h
  refine V_aload_n C 3 dL_law_400 rfl rfl ?_
  refine V_aload_n C 4 dL_law_401 rfl rfl ?_
  refine V_iload C 0 dL_law_402 rfl ?_
  refine V_iconst (v := 1) C dL_law_404 (by decide) ?_
  refine V_iadd C dL_law_405 ?_
  rw [lw_a1]
  refine V_sld C hX hbl hbs (j := i + 1) (by omega) (by omega) dL_law_406 ?_
  refine V_cH (As := [va_rf x, .int (xs (i + 1))]) (rest := []) C mh_100 (m_L_repeat l hl D dA bs hq h1 hk) hE rfl rfl (Nat.le_trans h_w0 (by decide)) (Nat.le_trans (by decide) hF) (Nat.le_trans (by decide) hLo) dL_law_407 (fun k σ2 hp => ?_)
  obtain ⟨q2, hq2, σ3, h2, hK⟩ := hn k σ2 hp
  refine V_istore (lv' := [(5, .int k), (4, .int (nI i)), (3, va_rf o), (2, va_rf mo), (1, va_rf x), (0, va_rf (some b))]) C dL_law_410 (by decide) rfl ?_
  refine V_aload_n C 3 dL_law_412 rfl rfl ?_
  refine V_aload_n C 5 dL_law_413 rfl rfl ?_
  refine V_iload C 1 dL_law_414 rfl ?_
  refine V_iconst (v := 1) C dL_law_416 (by decide) ?_
  refine V_iadd C dL_law_417 ?_
  rw [lw_a1]
  refine V_sld C hX hbl hbs (j := i + 1) (by omega) (by omega) dL_law_418 ?_
  refine V_cV (As := [.int (xs (i + 1))]) (rest := []) C mv_RL_102 (m_X10_repeat l D dA bs h2) hq2 rfl rfl (Nat.le_trans h_w0 (by decide)) (Nat.le_trans (by decide) hF) (Nat.le_trans (by decide) hLo) dL_law_419 ?_
  refine V_goto (tgt := 734) C dL_law_422 (by decide) ?_
  exact V_sub [1, 2, 3, 4, 5] rfl (kk σ3 hK)
theorem dL_law_425 : decode cL_law 425 = .ok (.aload_n 1, 1) := by decide +kernel
theorem dL_law_426 : decode cL_law 426 = .ok (.aload_n 0, 1) := by decide +kernel
theorem dL_law_427 : decode cL_law 427 = .ok (.iload 4, 2) := by decide +kernel
theorem dL_law_429 : decode cL_law 429 = .ok (.iconst 1, 1) := by decide +kernel
theorem dL_law_430 : decode cL_law 430 = .ok (.iadd, 1) := by decide +kernel
theorem dL_law_431 : decode cL_law 431 = .ok (.iaload, 1) := by decide +kernel
theorem dL_law_432 : decode cL_law 432 = .ok (.invokestatic 103, 3) := by decide +kernel
theorem dL_law_435 : decode cL_law 435 = .ok (.istore 5, 2) := by decide +kernel
theorem dL_law_437 : decode cL_law 437 = .ok (.aload_n 2, 1) := by decide +kernel
theorem dL_law_438 : decode cL_law 438 = .ok (.aload_n 0, 1) := by decide +kernel
theorem dL_law_439 : decode cL_law 439 = .ok (.iload 4, 2) := by decide +kernel
theorem dL_law_441 : decode cL_law 441 = .ok (.iconst 1, 1) := by decide +kernel
theorem dL_law_442 : decode cL_law 442 = .ok (.iadd, 1) := by decide +kernel
theorem dL_law_443 : decode cL_law 443 = .ok (.iaload, 1) := by decide +kernel
theorem dL_law_444 : decode cL_law 444 = .ok (.invokevirtual 105, 3) := by decide +kernel
theorem dL_law_447 : decode cL_law 447 = .ok (.goto 287, 3) := by decide +kernel
set_option maxHeartbeats 4000000 in
set_option maxRecDepth 100000 in
theorem lw_drop {p : Program} {l : Launch} {e : Env} {R : Room} {s : State} {m : MethodId} {args : Array Value} {below : List Frame} {meth : Method} {c : Code} {D : va_G} {dA : Nat → ClassId} {bs b L : Nat} {xs : Nat → Int32} {x mo o : Option Nat} {Q : State → Prop} (hl : l.stackTraces = false) (C : h_C p m c code 7 s args RL D dA) (hE : h_EY bs s) (hF : 11 ≤ R.frames) (hLo : 426 ≤ R.locals) (hX : va_X b L xs s s.heap) (hbl : b < s.heap.size) (hbs : bs = s.heap.size) {i : Nat} (hi : i + 5 ≤ L) (hL : L ≤ 2560) {σ : HS} {K : HS → Prop} (h : lc_drop xs x mo o i σ K)
    (kk : ∀ τ, K τ → V p l e R s m args below meth c D dA bs 7 Q τ 734 [(4, .int (nI i)), (3, va_rf o), (2, va_rf mo), (1, va_rf x), (0, va_rf (some b))] []) : V p l e R s m args below meth c D dA bs 7 Q σ 425 [(4, .int (nI i)), (3, va_rf o), (2, va_rf mo), (1, va_rf x), (0, va_rf (some b))] [] := by
  obtain ⟨q, r, σ1, hq, h1, hk, hn⟩ := h
  refine V_aload_n C 3 dL_law_425 rfl rfl ?_
  refine V_aload_n C 4 dL_law_426 rfl rfl ?_
  refine V_iload C 0 dL_law_427 rfl ?_
  refine V_iconst (v := 1) C dL_law_429 (by decide) ?_
  refine V_iadd C dL_law_430 ?_
  rw [lw_a1]
  refine V_sld C hX hbl hbs (j := i + 1) (by omega) (by omega) dL_law_431 ?_
  refine V_cH (As := [va_rf x, .int (xs (i + 1))]) (rest := []) C mh_103 (m_L_drop l hl D dA bs hq h1 hk) hE rfl rfl (Nat.le_trans h_w0 (by decide)) (Nat.le_trans (by decide) hF) (Nat.le_trans (by decide) hLo) dL_law_432 (fun k σ2 hp => ?_)
  obtain ⟨q2, hq2, σ3, h2, hK⟩ := hn k σ2 hp
  refine V_istore (lv' := [(5, .int k), (4, .int (nI i)), (3, va_rf o), (2, va_rf mo), (1, va_rf x), (0, va_rf (some b))]) C dL_law_435 (by decide) rfl ?_
  refine V_aload_n C 3 dL_law_437 rfl rfl ?_
  refine V_aload_n C 5 dL_law_438 rfl rfl ?_
  refine V_iload C 1 dL_law_439 rfl ?_
  refine V_iconst (v := 1) C dL_law_441 (by decide) ?_
  refine V_iadd C dL_law_442 ?_
  rw [lw_a1]
  refine V_sld C hX hbl hbs (j := i + 1) (by omega) (by omega) dL_law_443 ?_
  refine V_cV (As := [.int (xs (i + 1))]) (rest := []) C mv_RL_105 (m_X10_drop l D dA bs h2) hq2 rfl rfl (Nat.le_trans h_w0 (by decide)) (Nat.le_trans (by decide) hF) (Nat.le_trans (by decide) hLo) dL_law_444 ?_
  refine V_goto (tgt := 734) C dL_law_447 (by decide) ?_
  exact V_sub [1, 2, 3, 4, 5] rfl (kk σ3 hK)
theorem dL_law_450 : decode cL_law 450 = .ok (.aload_n 1, 1) := by decide +kernel
theorem dL_law_451 : decode cL_law 451 = .ok (.aload_n 0, 1) := by decide +kernel
theorem dL_law_452 : decode cL_law 452 = .ok (.iload 4, 2) := by decide +kernel
theorem dL_law_454 : decode cL_law 454 = .ok (.iconst 1, 1) := by decide +kernel
theorem dL_law_455 : decode cL_law 455 = .ok (.iadd, 1) := by decide +kernel
theorem dL_law_456 : decode cL_law 456 = .ok (.iaload, 1) := by decide +kernel
theorem dL_law_457 : decode cL_law 457 = .ok (.aload_n 0, 1) := by decide +kernel
theorem dL_law_458 : decode cL_law 458 = .ok (.iload 4, 2) := by decide +kernel
theorem dL_law_460 : decode cL_law 460 = .ok (.iconst 2, 1) := by decide +kernel
theorem dL_law_461 : decode cL_law 461 = .ok (.iadd, 1) := by decide +kernel
theorem dL_law_462 : decode cL_law 462 = .ok (.iaload, 1) := by decide +kernel
theorem dL_law_463 : decode cL_law 463 = .ok (.aload_n 0, 1) := by decide +kernel
theorem dL_law_464 : decode cL_law 464 = .ok (.iload 4, 2) := by decide +kernel
theorem dL_law_466 : decode cL_law 466 = .ok (.iconst 3, 1) := by decide +kernel
theorem dL_law_467 : decode cL_law 467 = .ok (.iadd, 1) := by decide +kernel
theorem dL_law_468 : decode cL_law 468 = .ok (.iaload, 1) := by decide +kernel
theorem dL_law_469 : decode cL_law 469 = .ok (.invokestatic 106, 3) := by decide +kernel
theorem dL_law_472 : decode cL_law 472 = .ok (.istore 5, 2) := by decide +kernel
theorem dL_law_474 : decode cL_law 474 = .ok (.aload_n 2, 1) := by decide +kernel
theorem dL_law_475 : decode cL_law 475 = .ok (.aload_n 0, 1) := by decide +kernel
theorem dL_law_476 : decode cL_law 476 = .ok (.iload 4, 2) := by decide +kernel
theorem dL_law_478 : decode cL_law 478 = .ok (.iconst 1, 1) := by decide +kernel
theorem dL_law_479 : decode cL_law 479 = .ok (.iadd, 1) := by decide +kernel
theorem dL_law_480 : decode cL_law 480 = .ok (.iaload, 1) := by decide +kernel
theorem dL_law_481 : decode cL_law 481 = .ok (.aload_n 0, 1) := by decide +kernel
theorem dL_law_482 : decode cL_law 482 = .ok (.iload 4, 2) := by decide +kernel
theorem dL_law_484 : decode cL_law 484 = .ok (.iconst 2, 1) := by decide +kernel
theorem dL_law_485 : decode cL_law 485 = .ok (.iadd, 1) := by decide +kernel
theorem dL_law_486 : decode cL_law 486 = .ok (.iaload, 1) := by decide +kernel
theorem dL_law_487 : decode cL_law 487 = .ok (.aload_n 0, 1) := by decide +kernel
theorem dL_law_488 : decode cL_law 488 = .ok (.iload 4, 2) := by decide +kernel
theorem dL_law_490 : decode cL_law 490 = .ok (.iconst 3, 1) := by decide +kernel
theorem dL_law_491 : decode cL_law 491 = .ok (.iadd, 1) := by decide +kernel
theorem dL_law_492 : decode cL_law 492 = .ok (.iaload, 1) := by decide +kernel
theorem dL_law_493 : decode cL_law 493 = .ok (.invokevirtual 109, 3) := by decide +kernel
theorem dL_law_496 : decode cL_law 496 = .ok (.goto 238, 3) := by decide +kernel
set_option maxHeartbeats 4000000 in
set_option maxRecDepth 100000 in
theorem lw_forge {p : Program} {l : Launch} {e : Env} {R : Room} {s : State} {m : MethodId} {args : Array Value} {below : List Frame} {meth : Method} {c : Code} {D : va_G} {dA : Nat → ClassId} {bs b L : Nat} {xs : Nat → Int32} {x mo o : Option Nat} {Q : State → Prop} (hl : l.stackTraces = false) (C : h_C p m c code 7 s args RL D dA) (hE : h_EY bs s) (hF : 11 ≤ R.frames) (hLo : 426 ≤ R.locals) (hX : va_X b L xs s s.heap) (hbl : b < s.heap.size) (hbs : bs = s.heap.size) {i : Nat} (hi : i + 5 ≤ L) (hL : L ≤ 2560) {σ : HS} {K : HS → Prop} (h : lc_forge xs x mo o i σ K)
    (kk : ∀ τ, K τ → V p l e R s m args below meth c D dA bs 7 Q τ 734 [(4, .int (nI i)), (3, va_rf o), (2, va_rf mo), (1, va_rf x), (0, va_rf (some b))] []) : V p l e R s m args below meth c D dA bs 7 Q σ 450 [(4, .int (nI i)), (3, va_rf o), (2, va_rf mo), (1, va_rf x), (0, va_rf (some b))] [] := by
  obtain ⟨q, r, σ1, hq, h1, hk, hn⟩ := h
  refine V_aload_n C 3 dL_law_450 rfl rfl ?_
  refine V_aload_n C 4 dL_law_451 rfl rfl ?_
  refine V_iload C 0 dL_law_452 rfl ?_
  refine V_iconst (v := 1) C dL_law_454 (by decide) ?_
  refine V_iadd C dL_law_455 ?_
  rw [lw_a1]
  refine V_sld C hX hbl hbs (j := i + 1) (by omega) (by omega) dL_law_456 ?_
  refine V_aload_n C 4 dL_law_457 rfl rfl ?_
  refine V_iload C 0 dL_law_458 rfl ?_
  refine V_iconst (v := 2) C dL_law_460 (by decide) ?_
  refine V_iadd C dL_law_461 ?_
  rw [lw_a2]
  refine V_sld C hX hbl hbs (j := i + 2) (by omega) (by omega) dL_law_462 ?_
  refine V_aload_n C 4 dL_law_463 rfl rfl ?_
  refine V_iload C 0 dL_law_464 rfl ?_
  refine V_iconst (v := 3) C dL_law_466 (by decide) ?_
  refine V_iadd C dL_law_467 ?_
  rw [lw_a3]
  refine V_sld C hX hbl hbs (j := i + 3) (by omega) (by omega) dL_law_468 ?_
  refine V_cH (As := [va_rf x, .int (xs (i + 1)), .int (xs (i + 2)), .int (xs (i + 3))]) (rest := []) C mh_106 (m_L_forge l hl D dA bs hq h1 hk) hE rfl rfl (Nat.le_trans h_w0 (by decide)) (Nat.le_trans (by decide) hF) (Nat.le_trans (by decide) hLo) dL_law_469 (fun k σ2 hp => ?_)
  obtain ⟨q2, hq2, σ3, h2, hK⟩ := hn k σ2 hp
  refine V_istore (lv' := [(5, .int k), (4, .int (nI i)), (3, va_rf o), (2, va_rf mo), (1, va_rf x), (0, va_rf (some b))]) C dL_law_472 (by decide) rfl ?_
  refine V_aload_n C 3 dL_law_474 rfl rfl ?_
  refine V_aload_n C 5 dL_law_475 rfl rfl ?_
  refine V_iload C 1 dL_law_476 rfl ?_
  refine V_iconst (v := 1) C dL_law_478 (by decide) ?_
  refine V_iadd C dL_law_479 ?_
  rw [lw_a1]
  refine V_sld C hX hbl hbs (j := i + 1) (by omega) (by omega) dL_law_480 ?_
  refine V_aload_n C 5 dL_law_481 rfl rfl ?_
  refine V_iload C 1 dL_law_482 rfl ?_
  refine V_iconst (v := 2) C dL_law_484 (by decide) ?_
  refine V_iadd C dL_law_485 ?_
  rw [lw_a2]
  refine V_sld C hX hbl hbs (j := i + 2) (by omega) (by omega) dL_law_486 ?_
  refine V_aload_n C 5 dL_law_487 rfl rfl ?_
  refine V_iload C 1 dL_law_488 rfl ?_
  refine V_iconst (v := 3) C dL_law_490 (by decide) ?_
  refine V_iadd C dL_law_491 ?_
  rw [lw_a3]
  refine V_sld C hX hbl hbs (j := i + 3) (by omega) (by omega) dL_law_492 ?_
  refine V_cV (As := [.int (xs (i + 1)), .int (xs (i + 2)), .int (xs (i + 3))]) (rest := []) C mv_RL_109 (m_X10_forge l D dA bs h2) hq2 rfl rfl (Nat.le_trans h_w0 (by decide)) (Nat.le_trans (by decide) hF) (Nat.le_trans (by decide) hLo) dL_law_493 ?_
  refine V_goto (tgt := 734) C dL_law_496 (by decide) ?_
  exact V_sub [1, 2, 3, 4, 5] rfl (kk σ3 hK)
theorem dL_law_499 : decode cL_law 499 = .ok (.aload_n 1, 1) := by decide +kernel
theorem dL_law_500 : decode cL_law 500 = .ok (.aload_n 0, 1) := by decide +kernel
theorem dL_law_501 : decode cL_law 501 = .ok (.iload 4, 2) := by decide +kernel
theorem dL_law_503 : decode cL_law 503 = .ok (.iconst 1, 1) := by decide +kernel
theorem dL_law_504 : decode cL_law 504 = .ok (.iadd, 1) := by decide +kernel
theorem dL_law_505 : decode cL_law 505 = .ok (.iaload, 1) := by decide +kernel
theorem dL_law_506 : decode cL_law 506 = .ok (.aload_n 0, 1) := by decide +kernel
theorem dL_law_507 : decode cL_law 507 = .ok (.iload 4, 2) := by decide +kernel
theorem dL_law_509 : decode cL_law 509 = .ok (.iconst 2, 1) := by decide +kernel
theorem dL_law_510 : decode cL_law 510 = .ok (.iadd, 1) := by decide +kernel
theorem dL_law_511 : decode cL_law 511 = .ok (.iaload, 1) := by decide +kernel
theorem dL_law_512 : decode cL_law 512 = .ok (.aload_n 3, 1) := by decide +kernel
theorem dL_law_513 : decode cL_law 513 = .ok (.invokestatic 110, 3) := by decide +kernel
theorem dL_law_516 : decode cL_law 516 = .ok (.istore 5, 2) := by decide +kernel
theorem dL_law_518 : decode cL_law 518 = .ok (.aload_n 2, 1) := by decide +kernel
theorem dL_law_519 : decode cL_law 519 = .ok (.aload_n 0, 1) := by decide +kernel
theorem dL_law_520 : decode cL_law 520 = .ok (.iload 4, 2) := by decide +kernel
theorem dL_law_522 : decode cL_law 522 = .ok (.iconst 1, 1) := by decide +kernel
theorem dL_law_523 : decode cL_law 523 = .ok (.iadd, 1) := by decide +kernel
theorem dL_law_524 : decode cL_law 524 = .ok (.iaload, 1) := by decide +kernel
theorem dL_law_525 : decode cL_law 525 = .ok (.aload_n 0, 1) := by decide +kernel
theorem dL_law_526 : decode cL_law 526 = .ok (.iload 4, 2) := by decide +kernel
theorem dL_law_528 : decode cL_law 528 = .ok (.iconst 2, 1) := by decide +kernel
theorem dL_law_529 : decode cL_law 529 = .ok (.iadd, 1) := by decide +kernel
theorem dL_law_530 : decode cL_law 530 = .ok (.iaload, 1) := by decide +kernel
theorem dL_law_531 : decode cL_law 531 = .ok (.invokevirtual 112, 3) := by decide +kernel
theorem dL_law_534 : decode cL_law 534 = .ok (.istore 6, 2) := by decide +kernel
theorem dL_law_536 : decode cL_law 536 = .ok (.goto 198, 3) := by decide +kernel
set_option maxHeartbeats 4000000 in
set_option maxRecDepth 100000 in
theorem lw_message {p : Program} {l : Launch} {e : Env} {R : Room} {s : State} {m : MethodId} {args : Array Value} {below : List Frame} {meth : Method} {c : Code} {D : va_G} {dA : Nat → ClassId} {bs b L : Nat} {xs : Nat → Int32} {x mo o : Option Nat} {Q : State → Prop} (hl : l.stackTraces = false) (C : h_C p m c code 7 s args RL D dA) (hE : h_EY bs s) (hF : 11 ≤ R.frames) (hLo : 426 ≤ R.locals) (hX : va_X b L xs s s.heap) (hbl : b < s.heap.size) (hbs : bs = s.heap.size) {i : Nat} (hi : i + 5 ≤ L) (hL : L ≤ 2560) {σ : HS} {K : HS → Prop} (h : lc_message xs x mo o i σ K)
    (kk : ∀ τ, K τ → V p l e R s m args below meth c D dA bs 7 Q τ 734 [(4, .int (nI i)), (3, va_rf o), (2, va_rf mo), (1, va_rf x), (0, va_rf (some b))] []) : V p l e R s m args below meth c D dA bs 7 Q σ 499 [(4, .int (nI i)), (3, va_rf o), (2, va_rf mo), (1, va_rf x), (0, va_rf (some b))] [] := by
  obtain ⟨q, r, σ1, hq, h1, hk, hw, hn⟩ := h
  refine V_aload_n C 3 dL_law_499 rfl rfl ?_
  refine V_aload_n C 4 dL_law_500 rfl rfl ?_
  refine V_iload C 0 dL_law_501 rfl ?_
  refine V_iconst (v := 1) C dL_law_503 (by decide) ?_
  refine V_iadd C dL_law_504 ?_
  rw [lw_a1]
  refine V_sld C hX hbl hbs (j := i + 1) (by omega) (by omega) dL_law_505 ?_
  refine V_aload_n C 4 dL_law_506 rfl rfl ?_
  refine V_iload C 0 dL_law_507 rfl ?_
  refine V_iconst (v := 2) C dL_law_509 (by decide) ?_
  refine V_iadd C dL_law_510 ?_
  rw [lw_a2]
  refine V_sld C hX hbl hbs (j := i + 2) (by omega) (by omega) dL_law_511 ?_
  refine V_aload_n C 1 dL_law_512 rfl rfl ?_
  refine V_cH (As := [va_rf x, .int (xs (i + 1)), .int (xs (i + 2)), va_rf o]) (rest := []) C mh_110 (m_L_message l hl D dA bs hq h1 hk hw) hE rfl rfl (Nat.le_trans h_w0 (by decide)) (Nat.le_trans (by decide) hF) (Nat.le_trans (by decide) hLo) dL_law_513 (fun k σ2 hp => ?_)
  obtain ⟨q2, hq2, v, σ3, h2, hK⟩ := hn k σ2 hp
  refine V_istore (lv' := [(5, .int k), (4, .int (nI i)), (3, va_rf o), (2, va_rf mo), (1, va_rf x), (0, va_rf (some b))]) C dL_law_516 (by decide) rfl ?_
  refine V_aload_n C 3 dL_law_518 rfl rfl ?_
  refine V_aload_n C 5 dL_law_519 rfl rfl ?_
  refine V_iload C 1 dL_law_520 rfl ?_
  refine V_iconst (v := 1) C dL_law_522 (by decide) ?_
  refine V_iadd C dL_law_523 ?_
  rw [lw_a1]
  refine V_sld C hX hbl hbs (j := i + 1) (by omega) (by omega) dL_law_524 ?_
  refine V_aload_n C 5 dL_law_525 rfl rfl ?_
  refine V_iload C 1 dL_law_526 rfl ?_
  refine V_iconst (v := 2) C dL_law_528 (by decide) ?_
  refine V_iadd C dL_law_529 ?_
  rw [lw_a2]
  refine V_sld C hX hbl hbs (j := i + 2) (by omega) (by omega) dL_law_530 ?_
  refine V_cV (As := [.int (xs (i + 1)), .int (xs (i + 2))]) (rest := []) C mv_RL_112 (m_X10_message l D dA bs h2) hq2 rfl rfl (Nat.le_trans h_w0 (by decide)) (Nat.le_trans (by decide) hF) (Nat.le_trans (by decide) hLo) dL_law_531 ?_
  refine V_istore (lv' := [(6, .int v), (5, .int k), (4, .int (nI i)), (3, va_rf o), (2, va_rf mo), (1, va_rf x), (0, va_rf (some b))]) C dL_law_534 (by decide) rfl ?_
  refine V_goto (tgt := 734) C dL_law_536 (by decide) ?_
  exact V_sub [2, 3, 4, 5, 6] rfl (kk σ3 hK)
theorem dL_law_539 : decode cL_law 539 = .ok (.aload_n 1, 1) := by decide +kernel
theorem dL_law_540 : decode cL_law 540 = .ok (.aload_n 0, 1) := by decide +kernel
theorem dL_law_541 : decode cL_law 541 = .ok (.iload 4, 2) := by decide +kernel
theorem dL_law_543 : decode cL_law 543 = .ok (.iconst 1, 1) := by decide +kernel
theorem dL_law_544 : decode cL_law 544 = .ok (.iadd, 1) := by decide +kernel
theorem dL_law_545 : decode cL_law 545 = .ok (.iaload, 1) := by decide +kernel
theorem dL_law_546 : decode cL_law 546 = .ok (.aload_n 3, 1) := by decide +kernel
theorem dL_law_547 : decode cL_law 547 = .ok (.invokestatic 113, 3) := by decide +kernel
theorem dL_law_550 : decode cL_law 550 = .ok (.istore 5, 2) := by decide +kernel
theorem dL_law_552 : decode cL_law 552 = .ok (.aload_n 2, 1) := by decide +kernel
theorem dL_law_553 : decode cL_law 553 = .ok (.aload_n 0, 1) := by decide +kernel
theorem dL_law_554 : decode cL_law 554 = .ok (.iload 4, 2) := by decide +kernel
theorem dL_law_556 : decode cL_law 556 = .ok (.iconst 1, 1) := by decide +kernel
theorem dL_law_557 : decode cL_law 557 = .ok (.iadd, 1) := by decide +kernel
theorem dL_law_558 : decode cL_law 558 = .ok (.iaload, 1) := by decide +kernel
theorem dL_law_559 : decode cL_law 559 = .ok (.invokevirtual 115, 3) := by decide +kernel
theorem dL_law_562 : decode cL_law 562 = .ok (.istore 6, 2) := by decide +kernel
theorem dL_law_564 : decode cL_law 564 = .ok (.goto 170, 3) := by decide +kernel
set_option maxHeartbeats 4000000 in
set_option maxRecDepth 100000 in
theorem lw_run {p : Program} {l : Launch} {e : Env} {R : Room} {s : State} {m : MethodId} {args : Array Value} {below : List Frame} {meth : Method} {c : Code} {D : va_G} {dA : Nat → ClassId} {bs b L : Nat} {xs : Nat → Int32} {x mo o : Option Nat} {Q : State → Prop} (hl : l.stackTraces = false) (C : h_C p m c code 7 s args RL D dA) (hE : h_EY bs s) (hF : 11 ≤ R.frames) (hLo : 426 ≤ R.locals) (hX : va_X b L xs s s.heap) (hbl : b < s.heap.size) (hbs : bs = s.heap.size) {i : Nat} (hi : i + 5 ≤ L) (hL : L ≤ 2560) {σ : HS} {K : HS → Prop} (h : lc_run xs x mo o i σ K)
    (kk : ∀ τ, K τ → V p l e R s m args below meth c D dA bs 7 Q τ 734 [(4, .int (nI i)), (3, va_rf o), (2, va_rf mo), (1, va_rf x), (0, va_rf (some b))] []) : V p l e R s m args below meth c D dA bs 7 Q σ 539 [(4, .int (nI i)), (3, va_rf o), (2, va_rf mo), (1, va_rf x), (0, va_rf (some b))] [] := by
  obtain ⟨q, r, σ1, hq, h1, hk, hw, hn⟩ := h
  refine V_aload_n C 3 dL_law_539 rfl rfl ?_
  refine V_aload_n C 4 dL_law_540 rfl rfl ?_
  refine V_iload C 0 dL_law_541 rfl ?_
  refine V_iconst (v := 1) C dL_law_543 (by decide) ?_
  refine V_iadd C dL_law_544 ?_
  rw [lw_a1]
  refine V_sld C hX hbl hbs (j := i + 1) (by omega) (by omega) dL_law_545 ?_
  refine V_aload_n C 1 dL_law_546 rfl rfl ?_
  refine V_cH (As := [va_rf x, .int (xs (i + 1)), va_rf o]) (rest := []) C mh_113 (m_L_run l hl D dA bs hq h1 hk hw) hE rfl rfl (Nat.le_trans h_w0 (by decide)) (Nat.le_trans (by decide) hF) (Nat.le_trans (by decide) hLo) dL_law_547 (fun k σ2 hp => ?_)
  obtain ⟨q2, hq2, v, σ3, h2, hK⟩ := hn k σ2 hp
  refine V_istore (lv' := [(5, .int k), (4, .int (nI i)), (3, va_rf o), (2, va_rf mo), (1, va_rf x), (0, va_rf (some b))]) C dL_law_550 (by decide) rfl ?_
  refine V_aload_n C 3 dL_law_552 rfl rfl ?_
  refine V_aload_n C 5 dL_law_553 rfl rfl ?_
  refine V_iload C 1 dL_law_554 rfl ?_
  refine V_iconst (v := 1) C dL_law_556 (by decide) ?_
  refine V_iadd C dL_law_557 ?_
  rw [lw_a1]
  refine V_sld C hX hbl hbs (j := i + 1) (by omega) (by omega) dL_law_558 ?_
  refine V_cV (As := [.int (xs (i + 1))]) (rest := []) C mv_RL_115 (m_X10_run l D dA bs h2) hq2 rfl rfl (Nat.le_trans h_w0 (by decide)) (Nat.le_trans (by decide) hF) (Nat.le_trans (by decide) hLo) dL_law_559 ?_
  refine V_istore (lv' := [(6, .int v), (5, .int k), (4, .int (nI i)), (3, va_rf o), (2, va_rf mo), (1, va_rf x), (0, va_rf (some b))]) C dL_law_562 (by decide) rfl ?_
  refine V_goto (tgt := 734) C dL_law_564 (by decide) ?_
  exact V_sub [2, 3, 4, 5, 6] rfl (kk σ3 hK)
